section
-- ===== PART A: goes FIRST, ahead of the names: the tables' words, and 'selects' of the private methods out of them =====
/-- a private method of a class that the tables say can be made, by its rows of tables_1 -/
def lw_okq (q : MethodName × Nat) : Prop := (q.1.cls ≠ "java/lang/invoke/MethodHandle" ∧ q.1.cls ≠ "java/lang/invoke/VarHandle") ∧ Cond.instantiable q.1.cls q.2 ∈ tables_1 ∧ Cond.privateMethod q.1 ∈ tables_1 ∧ Cond.instanceMethod q.1 ∈ tables_1
theorem lw_p0 : lw_okq (⟨"LateSessions", "putSign", "(I)V"⟩, 13) := ⟨⟨by decide +kernel, by decide +kernel⟩, List.mem_of_getElem? (i := 17) (by decide +kernel), List.mem_of_getElem? (i := 187) (by decide +kernel), List.mem_of_getElem? (i := 188) (by decide +kernel)⟩
theorem lw_p1 : lw_okq (⟨"LateSessions", "remember", "()V"⟩, 13) := ⟨⟨by decide +kernel, by decide +kernel⟩, List.mem_of_getElem? (i := 17) (by decide +kernel), List.mem_of_getElem? (i := 202) (by decide +kernel), List.mem_of_getElem? (i := 203) (by decide +kernel)⟩
theorem lw_p2 : lw_okq (⟨"LateSessions", "isSource", "(I)Z"⟩, 13) := ⟨⟨by decide +kernel, by decide +kernel⟩, List.mem_of_getElem? (i := 17) (by decide +kernel), List.mem_of_getElem? (i := 222) (by decide +kernel), List.mem_of_getElem? (i := 223) (by decide +kernel)⟩
theorem lw_p3 : lw_okq (⟨"LateSessions", "eventRefusal", "(IIII)I"⟩, 13) := ⟨⟨by decide +kernel, by decide +kernel⟩, List.mem_of_getElem? (i := 17) (by decide +kernel), List.mem_of_getElem? (i := 235) (by decide +kernel), List.mem_of_getElem? (i := 236) (by decide +kernel)⟩
theorem lw_p4 : lw_okq (⟨"LateSessions", "isEvent", "(IIII)Z"⟩, 13) := ⟨⟨by decide +kernel, by decide +kernel⟩, List.mem_of_getElem? (i := 17) (by decide +kernel), List.mem_of_getElem? (i := 239) (by decide +kernel), List.mem_of_getElem? (i := 240) (by decide +kernel)⟩
theorem lw_p5 : lw_okq (⟨"LateSessions", "inputRefusal", "()I"⟩, 13) := ⟨⟨by decide +kernel, by decide +kernel⟩, List.mem_of_getElem? (i := 17) (by decide +kernel), List.mem_of_getElem? (i := 249) (by decide +kernel), List.mem_of_getElem? (i := 250) (by decide +kernel)⟩
theorem lw_p6 : lw_okq (⟨"LateSessions$World", "note", "(III)V"⟩, 16) := ⟨⟨by decide +kernel, by decide +kernel⟩, List.mem_of_getElem? (i := 25) (by decide +kernel), List.mem_of_getElem? (i := 258) (by decide +kernel), List.mem_of_getElem? (i := 259) (by decide +kernel)⟩
theorem lw_p7 : lw_okq (⟨"LateSessions$World", "melt", "(III)V"⟩, 16) := ⟨⟨by decide +kernel, by decide +kernel⟩, List.mem_of_getElem? (i := 25) (by decide +kernel), List.mem_of_getElem? (i := 274) (by decide +kernel), List.mem_of_getElem? (i := 275) (by decide +kernel)⟩
theorem lw_p8 : lw_okq (⟨"LateSessions$World", "touches", "(III)Z"⟩, 16) := ⟨⟨by decide +kernel, by decide +kernel⟩, List.mem_of_getElem? (i := 25) (by decide +kernel), List.mem_of_getElem? (i := 282) (by decide +kernel), List.mem_of_getElem? (i := 283) (by decide +kernel)⟩
theorem lw_p9 : lw_okq (⟨"LateSessions$World", "placeFor", "(II)I"⟩, 16) := ⟨⟨by decide +kernel, by decide +kernel⟩, List.mem_of_getElem? (i := 25) (by decide +kernel), List.mem_of_getElem? (i := 291) (by decide +kernel), List.mem_of_getElem? (i := 292) (by decide +kernel)⟩
theorem lw_p10 : lw_okq (⟨"LateSessions$World", "takeBack", "(I)V"⟩, 16) := ⟨⟨by decide +kernel, by decide +kernel⟩, List.mem_of_getElem? (i := 25) (by decide +kernel), List.mem_of_getElem? (i := 295) (by decide +kernel), List.mem_of_getElem? (i := 296) (by decide +kernel)⟩
theorem lw_p11 : lw_okq (⟨"LateSessions$World", "send", "(II)V"⟩, 16) := ⟨⟨by decide +kernel, by decide +kernel⟩, List.mem_of_getElem? (i := 25) (by decide +kernel), List.mem_of_getElem? (i := 303) (by decide +kernel), List.mem_of_getElem? (i := 304) (by decide +kernel)⟩
theorem lw_p12 : lw_okq (⟨"LateSessions$World", "swallowNext", "(I)V"⟩, 16) := ⟨⟨by decide +kernel, by decide +kernel⟩, List.mem_of_getElem? (i := 25) (by decide +kernel), List.mem_of_getElem? (i := 311) (by decide +kernel), List.mem_of_getElem? (i := 312) (by decide +kernel)⟩
theorem lw_p13 : lw_okq (⟨"LateSessions$World", "kindOfNew", "(I)I"⟩, 16) := ⟨⟨by decide +kernel, by decide +kernel⟩, List.mem_of_getElem? (i := 25) (by decide +kernel), List.mem_of_getElem? (i := 320) (by decide +kernel), List.mem_of_getElem? (i := 321) (by decide +kernel)⟩
theorem lw_p14 : lw_okq (⟨"LateSessions$World", "announce", "(II)V"⟩, 16) := ⟨⟨by decide +kernel, by decide +kernel⟩, List.mem_of_getElem? (i := 25) (by decide +kernel), List.mem_of_getElem? (i := 328) (by decide +kernel), List.mem_of_getElem? (i := 329) (by decide +kernel)⟩
theorem lw_p15 : lw_okq (⟨"LateSessions$World", "raiseMark", "(II)V"⟩, 16) := ⟨⟨by decide +kernel, by decide +kernel⟩, List.mem_of_getElem? (i := 25) (by decide +kernel), List.mem_of_getElem? (i := 332) (by decide +kernel), List.mem_of_getElem? (i := 333) (by decide +kernel)⟩
def lw_privs_1 : List (MethodName × Nat) := [(⟨"LateSessions", "putSign", "(I)V"⟩, 13), (⟨"LateSessions", "remember", "()V"⟩, 13), (⟨"LateSessions", "isSource", "(I)Z"⟩, 13), (⟨"LateSessions", "eventRefusal", "(IIII)I"⟩, 13), (⟨"LateSessions", "isEvent", "(IIII)Z"⟩, 13), (⟨"LateSessions", "inputRefusal", "()I"⟩, 13), (⟨"LateSessions$World", "note", "(III)V"⟩, 16), (⟨"LateSessions$World", "melt", "(III)V"⟩, 16), (⟨"LateSessions$World", "touches", "(III)Z"⟩, 16), (⟨"LateSessions$World", "placeFor", "(II)I"⟩, 16), (⟨"LateSessions$World", "takeBack", "(I)V"⟩, 16), (⟨"LateSessions$World", "send", "(II)V"⟩, 16), (⟨"LateSessions$World", "swallowNext", "(I)V"⟩, 16), (⟨"LateSessions$World", "kindOfNew", "(I)I"⟩, 16), (⟨"LateSessions$World", "announce", "(II)V"⟩, 16), (⟨"LateSessions$World", "raiseMark", "(II)V"⟩, 16)]
theorem lw_r1 : ∀ q ∈ lw_privs_1, lw_okq q := List.forall_mem_cons.mpr ⟨lw_p0, List.forall_mem_cons.mpr ⟨lw_p1, List.forall_mem_cons.mpr ⟨lw_p2, List.forall_mem_cons.mpr ⟨lw_p3, List.forall_mem_cons.mpr ⟨lw_p4, List.forall_mem_cons.mpr ⟨lw_p5, List.forall_mem_cons.mpr ⟨lw_p6, List.forall_mem_cons.mpr ⟨lw_p7, List.forall_mem_cons.mpr ⟨lw_p8, List.forall_mem_cons.mpr ⟨lw_p9, List.forall_mem_cons.mpr ⟨lw_p10, List.forall_mem_cons.mpr ⟨lw_p11, List.forall_mem_cons.mpr ⟨lw_p12, List.forall_mem_cons.mpr ⟨lw_p13, List.forall_mem_cons.mpr ⟨lw_p14, List.forall_mem_cons.mpr ⟨lw_p15, fun _ h => absurd h List.not_mem_nil⟩⟩⟩⟩⟩⟩⟩⟩⟩⟩⟩⟩⟩⟩⟩⟩
theorem lw_p16 : lw_okq (⟨"LateSessions$World", "rise", "()V"⟩, 16) := ⟨⟨by decide +kernel, by decide +kernel⟩, List.mem_of_getElem? (i := 25) (by decide +kernel), List.mem_of_getElem? (i := 336) (by decide +kernel), List.mem_of_getElem? (i := 337) (by decide +kernel)⟩
theorem lw_p17 : lw_okq (⟨"LateSessions$World", "dueBehind", "(II)I"⟩, 16) := ⟨⟨by decide +kernel, by decide +kernel⟩, List.mem_of_getElem? (i := 25) (by decide +kernel), List.mem_of_getElem? (i := 344) (by decide +kernel), List.mem_of_getElem? (i := 345) (by decide +kernel)⟩
theorem lw_p18 : lw_okq (⟨"LateSessions$World", "turnOf", "(I)I"⟩, 16) := ⟨⟨by decide +kernel, by decide +kernel⟩, List.mem_of_getElem? (i := 25) (by decide +kernel), List.mem_of_getElem? (i := 352) (by decide +kernel), List.mem_of_getElem? (i := 353) (by decide +kernel)⟩
theorem lw_p19 : lw_okq (⟨"LateSessions$World", "finish", "(I)V"⟩, 16) := ⟨⟨by decide +kernel, by decide +kernel⟩, List.mem_of_getElem? (i := 25) (by decide +kernel), List.mem_of_getElem? (i := 356) (by decide +kernel), List.mem_of_getElem? (i := 357) (by decide +kernel)⟩
theorem lw_p20 : lw_okq (⟨"LateSessions", "tellTwo", "(JJ)V"⟩, 13) := ⟨⟨by decide +kernel, by decide +kernel⟩, List.mem_of_getElem? (i := 17) (by decide +kernel), List.mem_of_getElem? (i := 365) (by decide +kernel), List.mem_of_getElem? (i := 366) (by decide +kernel)⟩
theorem lw_p21 : lw_okq (⟨"LateSessions", "tellOne", "(J)V"⟩, 13) := ⟨⟨by decide +kernel, by decide +kernel⟩, List.mem_of_getElem? (i := 17) (by decide +kernel), List.mem_of_getElem? (i := 369) (by decide +kernel), List.mem_of_getElem? (i := 370) (by decide +kernel)⟩
theorem lw_p22 : lw_okq (⟨"LateSessions", "tellNothing", "()V"⟩, 13) := ⟨⟨by decide +kernel, by decide +kernel⟩, List.mem_of_getElem? (i := 17) (by decide +kernel), List.mem_of_getElem? (i := 373) (by decide +kernel), List.mem_of_getElem? (i := 374) (by decide +kernel)⟩
theorem lw_p23 : lw_okq (⟨"LateSessions", "tellMore", "(J)V"⟩, 13) := ⟨⟨by decide +kernel, by decide +kernel⟩, List.mem_of_getElem? (i := 17) (by decide +kernel), List.mem_of_getElem? (i := 377) (by decide +kernel), List.mem_of_getElem? (i := 378) (by decide +kernel)⟩
theorem lw_p24 : lw_okq (⟨"LateSessions", "takeText", "()I"⟩, 13) := ⟨⟨by decide +kernel, by decide +kernel⟩, List.mem_of_getElem? (i := 17) (by decide +kernel), List.mem_of_getElem? (i := 385) (by decide +kernel), List.mem_of_getElem? (i := 386) (by decide +kernel)⟩
theorem lw_p25 : lw_okq (⟨"LateSessions", "eventsMisfit", "(I)I"⟩, 13) := ⟨⟨by decide +kernel, by decide +kernel⟩, List.mem_of_getElem? (i := 17) (by decide +kernel), List.mem_of_getElem? (i := 389) (by decide +kernel), List.mem_of_getElem? (i := 390) (by decide +kernel)⟩
theorem lw_p26 : lw_okq (⟨"LateSessions", "formMisfit", "(IILjava/lang/String;)I"⟩, 13) := ⟨⟨by decide +kernel, by decide +kernel⟩, List.mem_of_getElem? (i := 17) (by decide +kernel), List.mem_of_getElem? (i := 394) (by decide +kernel), List.mem_of_getElem? (i := 395) (by decide +kernel)⟩
theorem lw_p27 : lw_okq (⟨"LateSessions", "signAt", "(I)I"⟩, 13) := ⟨⟨by decide +kernel, by decide +kernel⟩, List.mem_of_getElem? (i := 17) (by decide +kernel), List.mem_of_getElem? (i := 408) (by decide +kernel), List.mem_of_getElem? (i := 409) (by decide +kernel)⟩
theorem lw_p28 : lw_okq (⟨"LateSessions", "fits", "(IC)Z"⟩, 13) := ⟨⟨by decide +kernel, by decide +kernel⟩, List.mem_of_getElem? (i := 17) (by decide +kernel), List.mem_of_getElem? (i := 450) (by decide +kernel), List.mem_of_getElem? (i := 451) (by decide +kernel)⟩
theorem lw_p29 : lw_okq (⟨"LateSessions", "comeEventAt", "(I)I"⟩, 13) := ⟨⟨by decide +kernel, by decide +kernel⟩, List.mem_of_getElem? (i := 17) (by decide +kernel), List.mem_of_getElem? (i := 454) (by decide +kernel), List.mem_of_getElem? (i := 455) (by decide +kernel)⟩
theorem lw_p30 : lw_okq (⟨"LateSessions", "keyAt", "(I)I"⟩, 13) := ⟨⟨by decide +kernel, by decide +kernel⟩, List.mem_of_getElem? (i := 17) (by decide +kernel), List.mem_of_getElem? (i := 458) (by decide +kernel), List.mem_of_getElem? (i := 459) (by decide +kernel)⟩
theorem lw_p31 : lw_okq (⟨"LateSessions", "numberAt", "(II)I"⟩, 13) := ⟨⟨by decide +kernel, by decide +kernel⟩, List.mem_of_getElem? (i := 17) (by decide +kernel), List.mem_of_getElem? (i := 462) (by decide +kernel), List.mem_of_getElem? (i := 463) (by decide +kernel)⟩
def lw_privs_2 : List (MethodName × Nat) := [(⟨"LateSessions$World", "rise", "()V"⟩, 16), (⟨"LateSessions$World", "dueBehind", "(II)I"⟩, 16), (⟨"LateSessions$World", "turnOf", "(I)I"⟩, 16), (⟨"LateSessions$World", "finish", "(I)V"⟩, 16), (⟨"LateSessions", "tellTwo", "(JJ)V"⟩, 13), (⟨"LateSessions", "tellOne", "(J)V"⟩, 13), (⟨"LateSessions", "tellNothing", "()V"⟩, 13), (⟨"LateSessions", "tellMore", "(J)V"⟩, 13), (⟨"LateSessions", "takeText", "()I"⟩, 13), (⟨"LateSessions", "eventsMisfit", "(I)I"⟩, 13), (⟨"LateSessions", "formMisfit", "(IILjava/lang/String;)I"⟩, 13), (⟨"LateSessions", "signAt", "(I)I"⟩, 13), (⟨"LateSessions", "fits", "(IC)Z"⟩, 13), (⟨"LateSessions", "comeEventAt", "(I)I"⟩, 13), (⟨"LateSessions", "keyAt", "(I)I"⟩, 13), (⟨"LateSessions", "numberAt", "(II)I"⟩, 13)]
theorem lw_r2 : ∀ q ∈ lw_privs_2, lw_okq q := List.forall_mem_cons.mpr ⟨lw_p16, List.forall_mem_cons.mpr ⟨lw_p17, List.forall_mem_cons.mpr ⟨lw_p18, List.forall_mem_cons.mpr ⟨lw_p19, List.forall_mem_cons.mpr ⟨lw_p20, List.forall_mem_cons.mpr ⟨lw_p21, List.forall_mem_cons.mpr ⟨lw_p22, List.forall_mem_cons.mpr ⟨lw_p23, List.forall_mem_cons.mpr ⟨lw_p24, List.forall_mem_cons.mpr ⟨lw_p25, List.forall_mem_cons.mpr ⟨lw_p26, List.forall_mem_cons.mpr ⟨lw_p27, List.forall_mem_cons.mpr ⟨lw_p28, List.forall_mem_cons.mpr ⟨lw_p29, List.forall_mem_cons.mpr ⟨lw_p30, List.forall_mem_cons.mpr ⟨lw_p31, fun _ h => absurd h List.not_mem_nil⟩⟩⟩⟩⟩⟩⟩⟩⟩⟩⟩⟩⟩⟩⟩⟩
theorem lw_p32 : lw_okq (⟨"LateSessions", "valueAt", "(I)I"⟩, 13) := ⟨⟨by decide +kernel, by decide +kernel⟩, List.mem_of_getElem? (i := 17) (by decide +kernel), List.mem_of_getElem? (i := 466) (by decide +kernel), List.mem_of_getElem? (i := 467) (by decide +kernel)⟩
theorem lw_p33 : lw_okq (⟨"LateSessions", "markRefusal", "(II)I"⟩, 13) := ⟨⟨by decide +kernel, by decide +kernel⟩, List.mem_of_getElem? (i := 17) (by decide +kernel), List.mem_of_getElem? (i := 475) (by decide +kernel), List.mem_of_getElem? (i := 476) (by decide +kernel)⟩
theorem lw_p34 : lw_okq (⟨"LateSessions", "idleRefusal", "(I)I"⟩, 13) := ⟨⟨by decide +kernel, by decide +kernel⟩, List.mem_of_getElem? (i := 17) (by decide +kernel), List.mem_of_getElem? (i := 491) (by decide +kernel), List.mem_of_getElem? (i := 492) (by decide +kernel)⟩
theorem lw_p35 : lw_okq (⟨"LateSessions", "tellThree", "(JJJ)V"⟩, 13) := ⟨⟨by decide +kernel, by decide +kernel⟩, List.mem_of_getElem? (i := 17) (by decide +kernel), List.mem_of_getElem? (i := 526) (by decide +kernel), List.mem_of_getElem? (i := 527) (by decide +kernel)⟩
theorem lw_p36 : lw_okq (⟨"LateSessions", "sortTaken", "(I)I"⟩, 13) := ⟨⟨by decide +kernel, by decide +kernel⟩, List.mem_of_getElem? (i := 17) (by decide +kernel), List.mem_of_getElem? (i := 579) (by decide +kernel), List.mem_of_getElem? (i := 580) (by decide +kernel)⟩
theorem lw_p37 : lw_okq (⟨"LateSessions", "sortedCell", "(II)I"⟩, 13) := ⟨⟨by decide +kernel, by decide +kernel⟩, List.mem_of_getElem? (i := 17) (by decide +kernel), List.mem_of_getElem? (i := 583) (by decide +kernel), List.mem_of_getElem? (i := 584) (by decide +kernel)⟩
theorem lw_p38 : lw_okq (⟨"LateSessions", "holeBehind", "(I)I"⟩, 13) := ⟨⟨by decide +kernel, by decide +kernel⟩, List.mem_of_getElem? (i := 17) (by decide +kernel), List.mem_of_getElem? (i := 587) (by decide +kernel), List.mem_of_getElem? (i := 588) (by decide +kernel)⟩
theorem lw_p39 : lw_okq (⟨"LateSessions", "replay", "(IIII)V"⟩, 13) := ⟨⟨by decide +kernel, by decide +kernel⟩, List.mem_of_getElem? (i := 17) (by decide +kernel), List.mem_of_getElem? (i := 607) (by decide +kernel), List.mem_of_getElem? (i := 608) (by decide +kernel)⟩
theorem lw_p40 : lw_okq (⟨"LateSessions", "dayMisfit", "(I)I"⟩, 13) := ⟨⟨by decide +kernel, by decide +kernel⟩, List.mem_of_getElem? (i := 17) (by decide +kernel), List.mem_of_getElem? (i := 623) (by decide +kernel), List.mem_of_getElem? (i := 624) (by decide +kernel)⟩
theorem lw_p41 : lw_okq (⟨"LateSessions", "actForm", "(I)Ljava/lang/String;"⟩, 13) := ⟨⟨by decide +kernel, by decide +kernel⟩, List.mem_of_getElem? (i := 17) (by decide +kernel), List.mem_of_getElem? (i := 627) (by decide +kernel), List.mem_of_getElem? (i := 628) (by decide +kernel)⟩
theorem lw_p42 : lw_okq (⟨"LateSessions", "actRefusal", "(I)I"⟩, 13) := ⟨⟨by decide +kernel, by decide +kernel⟩, List.mem_of_getElem? (i := 17) (by decide +kernel), List.mem_of_getElem? (i := 639) (by decide +kernel), List.mem_of_getElem? (i := 640) (by decide +kernel)⟩
theorem lw_p43 : lw_okq (⟨"LateSessions", "comeAct", "(I)V"⟩, 13) := ⟨⟨by decide +kernel, by decide +kernel⟩, List.mem_of_getElem? (i := 17) (by decide +kernel), List.mem_of_getElem? (i := 643) (by decide +kernel), List.mem_of_getElem? (i := 644) (by decide +kernel)⟩
theorem lw_p44 : lw_okq (⟨"java/lang/Throwable", "fillInStackTrace", "(I)Ljava/lang/Throwable;"⟩, 6) := ⟨⟨by decide +kernel, by decide +kernel⟩, List.mem_of_getElem? (i := 718) (by decide +kernel), List.mem_of_getElem? (i := 716) (by decide +kernel), List.mem_of_getElem? (i := 717) (by decide +kernel)⟩
theorem lw_p45 : lw_okq (⟨"LateSessionsModel", "starts", "(IIIII)V"⟩, 23) := ⟨⟨by decide +kernel, by decide +kernel⟩, List.mem_of_getElem? (i := 799) (by decide +kernel), List.mem_of_getElem? (i := 805) (by decide +kernel), List.mem_of_getElem? (i := 806) (by decide +kernel)⟩
theorem lw_p46 : lw_okq (⟨"LateSessionsModel", "puts", "(III)V"⟩, 23) := ⟨⟨by decide +kernel, by decide +kernel⟩, List.mem_of_getElem? (i := 799) (by decide +kernel), List.mem_of_getElem? (i := 809) (by decide +kernel), List.mem_of_getElem? (i := 810) (by decide +kernel)⟩
theorem lw_p47 : lw_okq (⟨"LateSessionsModel", "copies", "(II)V"⟩, 23) := ⟨⟨by decide +kernel, by decide +kernel⟩, List.mem_of_getElem? (i := 799) (by decide +kernel), List.mem_of_getElem? (i := 888) (by decide +kernel), List.mem_of_getElem? (i := 889) (by decide +kernel)⟩
def lw_privs_3 : List (MethodName × Nat) := [(⟨"LateSessions", "valueAt", "(I)I"⟩, 13), (⟨"LateSessions", "markRefusal", "(II)I"⟩, 13), (⟨"LateSessions", "idleRefusal", "(I)I"⟩, 13), (⟨"LateSessions", "tellThree", "(JJJ)V"⟩, 13), (⟨"LateSessions", "sortTaken", "(I)I"⟩, 13), (⟨"LateSessions", "sortedCell", "(II)I"⟩, 13), (⟨"LateSessions", "holeBehind", "(I)I"⟩, 13), (⟨"LateSessions", "replay", "(IIII)V"⟩, 13), (⟨"LateSessions", "dayMisfit", "(I)I"⟩, 13), (⟨"LateSessions", "actForm", "(I)Ljava/lang/String;"⟩, 13), (⟨"LateSessions", "actRefusal", "(I)I"⟩, 13), (⟨"LateSessions", "comeAct", "(I)V"⟩, 13), (⟨"java/lang/Throwable", "fillInStackTrace", "(I)Ljava/lang/Throwable;"⟩, 6), (⟨"LateSessionsModel", "starts", "(IIIII)V"⟩, 23), (⟨"LateSessionsModel", "puts", "(III)V"⟩, 23), (⟨"LateSessionsModel", "copies", "(II)V"⟩, 23)]
theorem lw_r3 : ∀ q ∈ lw_privs_3, lw_okq q := List.forall_mem_cons.mpr ⟨lw_p32, List.forall_mem_cons.mpr ⟨lw_p33, List.forall_mem_cons.mpr ⟨lw_p34, List.forall_mem_cons.mpr ⟨lw_p35, List.forall_mem_cons.mpr ⟨lw_p36, List.forall_mem_cons.mpr ⟨lw_p37, List.forall_mem_cons.mpr ⟨lw_p38, List.forall_mem_cons.mpr ⟨lw_p39, List.forall_mem_cons.mpr ⟨lw_p40, List.forall_mem_cons.mpr ⟨lw_p41, List.forall_mem_cons.mpr ⟨lw_p42, List.forall_mem_cons.mpr ⟨lw_p43, List.forall_mem_cons.mpr ⟨lw_p44, List.forall_mem_cons.mpr ⟨lw_p45, List.forall_mem_cons.mpr ⟨lw_p46, List.forall_mem_cons.mpr ⟨lw_p47, fun _ h => absurd h List.not_mem_nil⟩⟩⟩⟩⟩⟩⟩⟩⟩⟩⟩⟩⟩⟩⟩⟩
theorem lw_p48 : lw_okq (⟨"LateSessionsModel", "done", "(I)I"⟩, 23) := ⟨⟨by decide +kernel, by decide +kernel⟩, List.mem_of_getElem? (i := 799) (by decide +kernel), List.mem_of_getElem? (i := 902) (by decide +kernel), List.mem_of_getElem? (i := 903) (by decide +kernel)⟩
theorem lw_p49 : lw_okq (⟨"LateSessionsModel", "lays", "()V"⟩, 23) := ⟨⟨by decide +kernel, by decide +kernel⟩, List.mem_of_getElem? (i := 799) (by decide +kernel), List.mem_of_getElem? (i := 906) (by decide +kernel), List.mem_of_getElem? (i := 907) (by decide +kernel)⟩
theorem lw_p50 : lw_okq (⟨"LateSessionsModel", "isSource", "(I)Z"⟩, 23) := ⟨⟨by decide +kernel, by decide +kernel⟩, List.mem_of_getElem? (i := 799) (by decide +kernel), List.mem_of_getElem? (i := 914) (by decide +kernel), List.mem_of_getElem? (i := 915) (by decide +kernel)⟩
theorem lw_p51 : lw_okq (⟨"LateSessionsModel", "of", "(II)I"⟩, 23) := ⟨⟨by decide +kernel, by decide +kernel⟩, List.mem_of_getElem? (i := 799) (by decide +kernel), List.mem_of_getElem? (i := 918) (by decide +kernel), List.mem_of_getElem? (i := 919) (by decide +kernel)⟩
theorem lw_p52 : lw_okq (⟨"LateSessionsModel", "eventOne", "(IIII)I"⟩, 23) := ⟨⟨by decide +kernel, by decide +kernel⟩, List.mem_of_getElem? (i := 799) (by decide +kernel), List.mem_of_getElem? (i := 927) (by decide +kernel), List.mem_of_getElem? (i := 928) (by decide +kernel)⟩
theorem lw_p53 : lw_okq (⟨"LateSessionsModel", "isEvent", "(IIII)Z"⟩, 23) := ⟨⟨by decide +kernel, by decide +kernel⟩, List.mem_of_getElem? (i := 799) (by decide +kernel), List.mem_of_getElem? (i := 931) (by decide +kernel), List.mem_of_getElem? (i := 932) (by decide +kernel)⟩
theorem lw_p54 : lw_okq (⟨"LateSessionsModel", "comes", "(IIIII)I"⟩, 23) := ⟨⟨by decide +kernel, by decide +kernel⟩, List.mem_of_getElem? (i := 799) (by decide +kernel), List.mem_of_getElem? (i := 938) (by decide +kernel), List.mem_of_getElem? (i := 939) (by decide +kernel)⟩
theorem lw_p55 : lw_okq (⟨"LateSessionsModel", "notes", "(IIIIIII)V"⟩, 23) := ⟨⟨by decide +kernel, by decide +kernel⟩, List.mem_of_getElem? (i := 799) (by decide +kernel), List.mem_of_getElem? (i := 945) (by decide +kernel), List.mem_of_getElem? (i := 946) (by decide +kernel)⟩
theorem lw_p56 : lw_okq (⟨"LateSessionsModel", "adds", "(III)V"⟩, 23) := ⟨⟨by decide +kernel, by decide +kernel⟩, List.mem_of_getElem? (i := 799) (by decide +kernel), List.mem_of_getElem? (i := 949) (by decide +kernel), List.mem_of_getElem? (i := 950) (by decide +kernel)⟩
theorem lw_p57 : lw_okq (⟨"LateSessionsModel", "joins", "(IIII)V"⟩, 23) := ⟨⟨by decide +kernel, by decide +kernel⟩, List.mem_of_getElem? (i := 799) (by decide +kernel), List.mem_of_getElem? (i := 953) (by decide +kernel), List.mem_of_getElem? (i := 954) (by decide +kernel)⟩
theorem lw_p58 : lw_okq (⟨"LateSessionsModel", "melts", "(IIII)Z"⟩, 23) := ⟨⟨by decide +kernel, by decide +kernel⟩, List.mem_of_getElem? (i := 799) (by decide +kernel), List.mem_of_getElem? (i := 957) (by decide +kernel), List.mem_of_getElem? (i := 958) (by decide +kernel)⟩
theorem lw_p59 : lw_okq (⟨"LateSessionsModel", "ofSession", "(III)I"⟩, 23) := ⟨⟨by decide +kernel, by decide +kernel⟩, List.mem_of_getElem? (i := 799) (by decide +kernel), List.mem_of_getElem? (i := 961) (by decide +kernel), List.mem_of_getElem? (i := 962) (by decide +kernel)⟩
theorem lw_p60 : lw_okq (⟨"LateSessionsModel", "takesBack", "(II)V"⟩, 23) := ⟨⟨by decide +kernel, by decide +kernel⟩, List.mem_of_getElem? (i := 799) (by decide +kernel), List.mem_of_getElem? (i := 968) (by decide +kernel), List.mem_of_getElem? (i := 969) (by decide +kernel)⟩
theorem lw_p61 : lw_okq (⟨"LateSessionsModel", "sends", "(III)V"⟩, 23) := ⟨⟨by decide +kernel, by decide +kernel⟩, List.mem_of_getElem? (i := 799) (by decide +kernel), List.mem_of_getElem? (i := 972) (by decide +kernel), List.mem_of_getElem? (i := 973) (by decide +kernel)⟩
theorem lw_p62 : lw_okq (⟨"LateSessionsModel", "goesOut", "(II)V"⟩, 23) := ⟨⟨by decide +kernel, by decide +kernel⟩, List.mem_of_getElem? (i := 799) (by decide +kernel), List.mem_of_getElem? (i := 978) (by decide +kernel), List.mem_of_getElem? (i := 979) (by decide +kernel)⟩
theorem lw_p63 : lw_okq (⟨"LateSessionsModel", "comesIn", "(I)I"⟩, 23) := ⟨⟨by decide +kernel, by decide +kernel⟩, List.mem_of_getElem? (i := 799) (by decide +kernel), List.mem_of_getElem? (i := 982) (by decide +kernel), List.mem_of_getElem? (i := 983) (by decide +kernel)⟩
def lw_privs_4 : List (MethodName × Nat) := [(⟨"LateSessionsModel", "done", "(I)I"⟩, 23), (⟨"LateSessionsModel", "lays", "()V"⟩, 23), (⟨"LateSessionsModel", "isSource", "(I)Z"⟩, 23), (⟨"LateSessionsModel", "of", "(II)I"⟩, 23), (⟨"LateSessionsModel", "eventOne", "(IIII)I"⟩, 23), (⟨"LateSessionsModel", "isEvent", "(IIII)Z"⟩, 23), (⟨"LateSessionsModel", "comes", "(IIIII)I"⟩, 23), (⟨"LateSessionsModel", "notes", "(IIIIIII)V"⟩, 23), (⟨"LateSessionsModel", "adds", "(III)V"⟩, 23), (⟨"LateSessionsModel", "joins", "(IIII)V"⟩, 23), (⟨"LateSessionsModel", "melts", "(IIII)Z"⟩, 23), (⟨"LateSessionsModel", "ofSession", "(III)I"⟩, 23), (⟨"LateSessionsModel", "takesBack", "(II)V"⟩, 23), (⟨"LateSessionsModel", "sends", "(III)V"⟩, 23), (⟨"LateSessionsModel", "goesOut", "(II)V"⟩, 23), (⟨"LateSessionsModel", "comesIn", "(I)I"⟩, 23)]
theorem lw_r4 : ∀ q ∈ lw_privs_4, lw_okq q := List.forall_mem_cons.mpr ⟨lw_p48, List.forall_mem_cons.mpr ⟨lw_p49, List.forall_mem_cons.mpr ⟨lw_p50, List.forall_mem_cons.mpr ⟨lw_p51, List.forall_mem_cons.mpr ⟨lw_p52, List.forall_mem_cons.mpr ⟨lw_p53, List.forall_mem_cons.mpr ⟨lw_p54, List.forall_mem_cons.mpr ⟨lw_p55, List.forall_mem_cons.mpr ⟨lw_p56, List.forall_mem_cons.mpr ⟨lw_p57, List.forall_mem_cons.mpr ⟨lw_p58, List.forall_mem_cons.mpr ⟨lw_p59, List.forall_mem_cons.mpr ⟨lw_p60, List.forall_mem_cons.mpr ⟨lw_p61, List.forall_mem_cons.mpr ⟨lw_p62, List.forall_mem_cons.mpr ⟨lw_p63, fun _ h => absurd h List.not_mem_nil⟩⟩⟩⟩⟩⟩⟩⟩⟩⟩⟩⟩⟩⟩⟩⟩
theorem lw_p64 : lw_okq (⟨"LateSessionsModel", "isBehind", "(II)Z"⟩, 23) := ⟨⟨by decide +kernel, by decide +kernel⟩, List.mem_of_getElem? (i := 799) (by decide +kernel), List.mem_of_getElem? (i := 986) (by decide +kernel), List.mem_of_getElem? (i := 987) (by decide +kernel)⟩
theorem lw_p65 : lw_okq (⟨"LateSessionsModel", "isRipeBy", "(III)Z"⟩, 23) := ⟨⟨by decide +kernel, by decide +kernel⟩, List.mem_of_getElem? (i := 799) (by decide +kernel), List.mem_of_getElem? (i := 990) (by decide +kernel), List.mem_of_getElem? (i := 991) (by decide +kernel)⟩
theorem lw_p66 : lw_okq (⟨"LateSessionsModel", "rises", "(I)V"⟩, 23) := ⟨⟨by decide +kernel, by decide +kernel⟩, List.mem_of_getElem? (i := 799) (by decide +kernel), List.mem_of_getElem? (i := 994) (by decide +kernel), List.mem_of_getElem? (i := 995) (by decide +kernel)⟩
theorem lw_p67 : lw_okq (⟨"LateSessionsModel", "leastMark", "(I)I"⟩, 23) := ⟨⟨by decide +kernel, by decide +kernel⟩, List.mem_of_getElem? (i := 799) (by decide +kernel), List.mem_of_getElem? (i := 998) (by decide +kernel), List.mem_of_getElem? (i := 999) (by decide +kernel)⟩
theorem lw_p68 : lw_okq (⟨"LateSessionsModel", "firstRipe", "(II)I"⟩, 23) := ⟨⟨by decide +kernel, by decide +kernel⟩, List.mem_of_getElem? (i := 799) (by decide +kernel), List.mem_of_getElem? (i := 1002) (by decide +kernel), List.mem_of_getElem? (i := 1003) (by decide +kernel)⟩
theorem lw_p69 : lw_okq (⟨"LateSessionsModel", "isDone", "(II)Z"⟩, 23) := ⟨⟨by decide +kernel, by decide +kernel⟩, List.mem_of_getElem? (i := 799) (by decide +kernel), List.mem_of_getElem? (i := 1006) (by decide +kernel), List.mem_of_getElem? (i := 1007) (by decide +kernel)⟩
theorem lw_p70 : lw_okq (⟨"LateSessionsModel", "firstClosed", "(I)I"⟩, 23) := ⟨⟨by decide +kernel, by decide +kernel⟩, List.mem_of_getElem? (i := 799) (by decide +kernel), List.mem_of_getElem? (i := 1010) (by decide +kernel), List.mem_of_getElem? (i := 1011) (by decide +kernel)⟩
theorem lw_p71 : lw_okq (⟨"LateSessionsModel", "isClosedBy", "(III)Z"⟩, 23) := ⟨⟨by decide +kernel, by decide +kernel⟩, List.mem_of_getElem? (i := 799) (by decide +kernel), List.mem_of_getElem? (i := 1014) (by decide +kernel), List.mem_of_getElem? (i := 1015) (by decide +kernel)⟩
theorem lw_p72 : lw_okq (⟨"LateSessionsModel", "closes", "(II)V"⟩, 23) := ⟨⟨by decide +kernel, by decide +kernel⟩, List.mem_of_getElem? (i := 799) (by decide +kernel), List.mem_of_getElem? (i := 1018) (by decide +kernel), List.mem_of_getElem? (i := 1019) (by decide +kernel)⟩
theorem lw_p73 : lw_okq (⟨"LateSessionsModel", "closedMany", "(I)I"⟩, 23) := ⟨⟨by decide +kernel, by decide +kernel⟩, List.mem_of_getElem? (i := 799) (by decide +kernel), List.mem_of_getElem? (i := 1022) (by decide +kernel), List.mem_of_getElem? (i := 1023) (by decide +kernel)⟩
theorem lw_p74 : lw_okq (⟨"LateSessionsModel", "entersSince", "(II)V"⟩, 23) := ⟨⟨by decide +kernel, by decide +kernel⟩, List.mem_of_getElem? (i := 799) (by decide +kernel), List.mem_of_getElem? (i := 1026) (by decide +kernel), List.mem_of_getElem? (i := 1027) (by decide +kernel)⟩
theorem lw_p75 : lw_okq (⟨"LateSessionsModel", "enters", "(J)V"⟩, 23) := ⟨⟨by decide +kernel, by decide +kernel⟩, List.mem_of_getElem? (i := 799) (by decide +kernel), List.mem_of_getElem? (i := 1030) (by decide +kernel), List.mem_of_getElem? (i := 1031) (by decide +kernel)⟩
theorem lw_p76 : lw_okq (⟨"LateSessionsModel", "reads", "()V"⟩, 23) := ⟨⟨by decide +kernel, by decide +kernel⟩, List.mem_of_getElem? (i := 799) (by decide +kernel), List.mem_of_getElem? (i := 1038) (by decide +kernel), List.mem_of_getElem? (i := 1039) (by decide +kernel)⟩
theorem lw_p77 : lw_okq (⟨"LateSessionsModel", "readsEvent", "(IZ)Z"⟩, 23) := ⟨⟨by decide +kernel, by decide +kernel⟩, List.mem_of_getElem? (i := 799) (by decide +kernel), List.mem_of_getElem? (i := 1042) (by decide +kernel), List.mem_of_getElem? (i := 1043) (by decide +kernel)⟩
theorem lw_p78 : lw_okq (⟨"LateSessionsModel", "takesOf", "(Ljava/lang/String;)I"⟩, 23) := ⟨⟨by decide +kernel, by decide +kernel⟩, List.mem_of_getElem? (i := 799) (by decide +kernel), List.mem_of_getElem? (i := 1047) (by decide +kernel), List.mem_of_getElem? (i := 1048) (by decide +kernel)⟩
theorem lw_p79 : lw_okq (⟨"LateSessionsModel", "digits", "(I)I"⟩, 23) := ⟨⟨by decide +kernel, by decide +kernel⟩, List.mem_of_getElem? (i := 799) (by decide +kernel), List.mem_of_getElem? (i := 1053) (by decide +kernel), List.mem_of_getElem? (i := 1054) (by decide +kernel)⟩
def lw_privs_5 : List (MethodName × Nat) := [(⟨"LateSessionsModel", "isBehind", "(II)Z"⟩, 23), (⟨"LateSessionsModel", "isRipeBy", "(III)Z"⟩, 23), (⟨"LateSessionsModel", "rises", "(I)V"⟩, 23), (⟨"LateSessionsModel", "leastMark", "(I)I"⟩, 23), (⟨"LateSessionsModel", "firstRipe", "(II)I"⟩, 23), (⟨"LateSessionsModel", "isDone", "(II)Z"⟩, 23), (⟨"LateSessionsModel", "firstClosed", "(I)I"⟩, 23), (⟨"LateSessionsModel", "isClosedBy", "(III)Z"⟩, 23), (⟨"LateSessionsModel", "closes", "(II)V"⟩, 23), (⟨"LateSessionsModel", "closedMany", "(I)I"⟩, 23), (⟨"LateSessionsModel", "entersSince", "(II)V"⟩, 23), (⟨"LateSessionsModel", "enters", "(J)V"⟩, 23), (⟨"LateSessionsModel", "reads", "()V"⟩, 23), (⟨"LateSessionsModel", "readsEvent", "(IZ)Z"⟩, 23), (⟨"LateSessionsModel", "takesOf", "(Ljava/lang/String;)I"⟩, 23), (⟨"LateSessionsModel", "digits", "(I)I"⟩, 23)]
theorem lw_r5 : ∀ q ∈ lw_privs_5, lw_okq q := List.forall_mem_cons.mpr ⟨lw_p64, List.forall_mem_cons.mpr ⟨lw_p65, List.forall_mem_cons.mpr ⟨lw_p66, List.forall_mem_cons.mpr ⟨lw_p67, List.forall_mem_cons.mpr ⟨lw_p68, List.forall_mem_cons.mpr ⟨lw_p69, List.forall_mem_cons.mpr ⟨lw_p70, List.forall_mem_cons.mpr ⟨lw_p71, List.forall_mem_cons.mpr ⟨lw_p72, List.forall_mem_cons.mpr ⟨lw_p73, List.forall_mem_cons.mpr ⟨lw_p74, List.forall_mem_cons.mpr ⟨lw_p75, List.forall_mem_cons.mpr ⟨lw_p76, List.forall_mem_cons.mpr ⟨lw_p77, List.forall_mem_cons.mpr ⟨lw_p78, List.forall_mem_cons.mpr ⟨lw_p79, fun _ h => absurd h List.not_mem_nil⟩⟩⟩⟩⟩⟩⟩⟩⟩⟩⟩⟩⟩⟩⟩⟩
theorem lw_p80 : lw_okq (⟨"LateSessionsModel", "marksOne", "(II)I"⟩, 23) := ⟨⟨by decide +kernel, by decide +kernel⟩, List.mem_of_getElem? (i := 799) (by decide +kernel), List.mem_of_getElem? (i := 1063) (by decide +kernel), List.mem_of_getElem? (i := 1064) (by decide +kernel)⟩
theorem lw_p81 : lw_okq (⟨"LateSessionsModel", "isMarked", "(III)V"⟩, 23) := ⟨⟨by decide +kernel, by decide +kernel⟩, List.mem_of_getElem? (i := 799) (by decide +kernel), List.mem_of_getElem? (i := 1068) (by decide +kernel), List.mem_of_getElem? (i := 1069) (by decide +kernel)⟩
theorem lw_p82 : lw_okq (⟨"LateSessionsModel", "entersProgress", "()V"⟩, 23) := ⟨⟨by decide +kernel, by decide +kernel⟩, List.mem_of_getElem? (i := 799) (by decide +kernel), List.mem_of_getElem? (i := 1072) (by decide +kernel), List.mem_of_getElem? (i := 1073) (by decide +kernel)⟩
theorem lw_p83 : lw_okq (⟨"LateSessionsModel", "idlesOne", "(I)I"⟩, 23) := ⟨⟨by decide +kernel, by decide +kernel⟩, List.mem_of_getElem? (i := 799) (by decide +kernel), List.mem_of_getElem? (i := 1080) (by decide +kernel), List.mem_of_getElem? (i := 1081) (by decide +kernel)⟩
theorem lw_p84 : lw_okq (⟨"LateSessionsModel", "isIdle", "(II)V"⟩, 23) := ⟨⟨by decide +kernel, by decide +kernel⟩, List.mem_of_getElem? (i := 799) (by decide +kernel), List.mem_of_getElem? (i := 1084) (by decide +kernel), List.mem_of_getElem? (i := 1085) (by decide +kernel)⟩
theorem lw_p85 : lw_okq (⟨"LateSessionsModel", "ofInput", "(II)I"⟩, 23) := ⟨⟨by decide +kernel, by decide +kernel⟩, List.mem_of_getElem? (i := 799) (by decide +kernel), List.mem_of_getElem? (i := 1138) (by decide +kernel), List.mem_of_getElem? (i := 1139) (by decide +kernel)⟩
theorem lw_p86 : lw_okq (⟨"LateSessionsModel", "laysTimes", "(I)V"⟩, 23) := ⟨⟨by decide +kernel, by decide +kernel⟩, List.mem_of_getElem? (i := 799) (by decide +kernel), List.mem_of_getElem? (i := 1166) (by decide +kernel), List.mem_of_getElem? (i := 1167) (by decide +kernel)⟩
theorem lw_p87 : lw_okq (⟨"LateSessionsModel", "fallsInto", "(I)I"⟩, 23) := ⟨⟨by decide +kernel, by decide +kernel⟩, List.mem_of_getElem? (i := 799) (by decide +kernel), List.mem_of_getElem? (i := 1170) (by decide +kernel), List.mem_of_getElem? (i := 1171) (by decide +kernel)⟩
theorem lw_p88 : lw_okq (⟨"LateSessionsModel", "startsAgain", "(III)V"⟩, 23) := ⟨⟨by decide +kernel, by decide +kernel⟩, List.mem_of_getElem? (i := 799) (by decide +kernel), List.mem_of_getElem? (i := 1183) (by decide +kernel), List.mem_of_getElem? (i := 1184) (by decide +kernel)⟩
theorem lw_p89 : lw_okq (⟨"LateSessionsModel", "comesAgain", "(II)V"⟩, 23) := ⟨⟨by decide +kernel, by decide +kernel⟩, List.mem_of_getElem? (i := 799) (by decide +kernel), List.mem_of_getElem? (i := 1187) (by decide +kernel), List.mem_of_getElem? (i := 1188) (by decide +kernel)⟩
theorem lw_p90 : lw_okq (⟨"LateSessionsModel", "readsAct", "(I)Z"⟩, 23) := ⟨⟨by decide +kernel, by decide +kernel⟩, List.mem_of_getElem? (i := 799) (by decide +kernel), List.mem_of_getElem? (i := 1207) (by decide +kernel), List.mem_of_getElem? (i := 1208) (by decide +kernel)⟩
theorem lw_p91 : lw_okq (⟨"LateSessionsModel", "doesAct", "(I)I"⟩, 23) := ⟨⟨by decide +kernel, by decide +kernel⟩, List.mem_of_getElem? (i := 799) (by decide +kernel), List.mem_of_getElem? (i := 1212) (by decide +kernel), List.mem_of_getElem? (i := 1213) (by decide +kernel)⟩
theorem lw_p92 : lw_okq (⟨"LateSessionsModel", "draws", "(I)I"⟩, 23) := ⟨⟨by decide +kernel, by decide +kernel⟩, List.mem_of_getElem? (i := 799) (by decide +kernel), List.mem_of_getElem? (i := 1221) (by decide +kernel), List.mem_of_getElem? (i := 1222) (by decide +kernel)⟩
def lw_privs_6 : List (MethodName × Nat) := [(⟨"LateSessionsModel", "marksOne", "(II)I"⟩, 23), (⟨"LateSessionsModel", "isMarked", "(III)V"⟩, 23), (⟨"LateSessionsModel", "entersProgress", "()V"⟩, 23), (⟨"LateSessionsModel", "idlesOne", "(I)I"⟩, 23), (⟨"LateSessionsModel", "isIdle", "(II)V"⟩, 23), (⟨"LateSessionsModel", "ofInput", "(II)I"⟩, 23), (⟨"LateSessionsModel", "laysTimes", "(I)V"⟩, 23), (⟨"LateSessionsModel", "fallsInto", "(I)I"⟩, 23), (⟨"LateSessionsModel", "startsAgain", "(III)V"⟩, 23), (⟨"LateSessionsModel", "comesAgain", "(II)V"⟩, 23), (⟨"LateSessionsModel", "readsAct", "(I)Z"⟩, 23), (⟨"LateSessionsModel", "doesAct", "(I)I"⟩, 23), (⟨"LateSessionsModel", "draws", "(I)I"⟩, 23)]
theorem lw_r6 : ∀ q ∈ lw_privs_6, lw_okq q := List.forall_mem_cons.mpr ⟨lw_p80, List.forall_mem_cons.mpr ⟨lw_p81, List.forall_mem_cons.mpr ⟨lw_p82, List.forall_mem_cons.mpr ⟨lw_p83, List.forall_mem_cons.mpr ⟨lw_p84, List.forall_mem_cons.mpr ⟨lw_p85, List.forall_mem_cons.mpr ⟨lw_p86, List.forall_mem_cons.mpr ⟨lw_p87, List.forall_mem_cons.mpr ⟨lw_p88, List.forall_mem_cons.mpr ⟨lw_p89, List.forall_mem_cons.mpr ⟨lw_p90, List.forall_mem_cons.mpr ⟨lw_p91, List.forall_mem_cons.mpr ⟨lw_p92, fun _ h => absurd h List.not_mem_nil⟩⟩⟩⟩⟩⟩⟩⟩⟩⟩⟩⟩⟩
def lw_privs : List (MethodName × Nat) := lw_privs_1 ++ (lw_privs_2 ++ (lw_privs_3 ++ (lw_privs_4 ++ (lw_privs_5 ++ (lw_privs_6)))))
def lw_tbl : List Cond := k2_sels lw_privs ++ tables_1
theorem lw_privs_ok : ∀ q ∈ lw_privs, lw_okq q := by
  show ∀ q ∈ lw_privs_1 ++ (lw_privs_2 ++ (lw_privs_3 ++ (lw_privs_4 ++ (lw_privs_5 ++ (lw_privs_6))))), lw_okq q
  exact List.forall_mem_append.mpr ⟨lw_r1, List.forall_mem_append.mpr ⟨lw_r2, List.forall_mem_append.mpr ⟨lw_r3, List.forall_mem_append.mpr ⟨lw_r4, List.forall_mem_append.mpr ⟨lw_r5, lw_r6⟩⟩⟩⟩⟩
-- ===== end of PART A; then your names; then what follows =====
def RX0 : String := "LateSessions$Table"
def TX0 : u_T := fun k => match k with
  | 0 => ("LateSessions$Table", "room", "I", true)
  | 1 => ("LateSessions$Table", "width", "I", true)
  | 2 => ("LateSessions$Table", "cells", "[I", true)
  | _ => ("LateSessions$Table", "size", "I", false)
def tyX0 : Nat → FieldType := fun k => match k with
  | 0 => .int
  | 1 => .int
  | 2 => .array .int
  | _ => .int
theorem nmX0 : ∀ a, a < 4 → ∀ b, b < 4 → a ≠ b → (TX0 a).2.1 ≠ (TX0 b).2.1 := by decide +kernel
theorem tyX0_ok : ∀ k, k < 4 → parseFieldDescriptor (TX0 k).2.2.1 = some (tyX0 k) := by decide +kernel
def RX1 : String := "LateSessions$World"
def TX1 : u_T := fun k => match k with
  | 0 => ("LateSessions$World", "gap", "I", false)
  | 1 => ("LateSessions$World", "lateness", "I", false)
  | 2 => ("LateSessions$World", "early", "I", false)
  | 3 => ("LateSessions$World", "progress", "I", false)
  | 4 => ("LateSessions$World", "sentSize", "I", false)
  | 5 => ("LateSessions$World", "closedSize", "I", false)
  | 6 => ("LateSessions$World", "takenSize", "I", false)
  | 7 => ("LateSessions$World", "lateSize", "I", false)
  | 8 => ("LateSessions$World", "droppedSize", "I", false)
  | 9 => ("LateSessions$World", "meltedSize", "I", false)
  | 10 => ("LateSessions$World", "sources", "LLateSessions$Table;", true)
  | 11 => ("LateSessions$World", "sessions", "LLateSessions$Table;", true)
  | 12 => ("LateSessions$World", "messages", "LLateSessions$Table;", true)
  | 13 => ("LateSessions$World", "finals", "LLateSessions$Table;", true)
  | 14 => ("LateSessions$World", "inputs", "LLateSessions$Table;", true)
  | _ => ("LateSessions$World", "keys", "LLateSessions$Table;", true)
def tyX1 : Nat → FieldType := fun k => match k with
  | 0 => .int
  | 1 => .int
  | 2 => .int
  | 3 => .int
  | 4 => .int
  | 5 => .int
  | 6 => .int
  | 7 => .int
  | 8 => .int
  | 9 => .int
  | 10 => .object "LateSessions$Table"
  | 11 => .object "LateSessions$Table"
  | 12 => .object "LateSessions$Table"
  | 13 => .object "LateSessions$Table"
  | 14 => .object "LateSessions$Table"
  | _ => .object "LateSessions$Table"
theorem nmX1 : ∀ a, a < 16 → ∀ b, b < 16 → a ≠ b → (TX1 a).2.1 ≠ (TX1 b).2.1 := by decide +kernel
theorem tyX1_ok : ∀ k, k < 16 → parseFieldDescriptor (TX1 k).2.2.1 = some (tyX1 k) := by decide +kernel
def RX2 : String := "LateSessions"
def TX2 : u_T := fun k => match k with
  | 0 => ("LateSessions", "world", "LLateSessions$World;", true)
  | 1 => ("LateSessions", "trial", "LLateSessions$World;", true)
  | 2 => ("LateSessions", "undoWorlds", "[LLateSessions$World;", true)
  | 3 => ("LateSessions", "undoOldest", "I", false)
  | 4 => ("LateSessions", "undoSize", "I", false)
  | 5 => ("LateSessions", "keptWorlds", "[LLateSessions$World;", true)
  | 6 => ("LateSessions", "keptBits", "I", false)
  | 7 => ("LateSessions", "told", "[J", true)
  | 8 => ("LateSessions", "toldSize", "I", false)
  | 9 => ("LateSessions", "text", "[I", true)
  | 10 => ("LateSessions", "textSize", "I", false)
  | 11 => ("LateSessions", "byTime", "[I", true)
  | _ => ("LateSessions", "holes", "[I", true)
def tyX2 : Nat → FieldType := fun k => match k with
  | 0 => .object "LateSessions$World"
  | 1 => .object "LateSessions$World"
  | 2 => .array (.object "LateSessions$World")
  | 3 => .int
  | 4 => .int
  | 5 => .array (.object "LateSessions$World")
  | 6 => .int
  | 7 => .array .long
  | 8 => .int
  | 9 => .array .int
  | 10 => .int
  | 11 => .array .int
  | _ => .array .int
theorem nmX2 : ∀ a, a < 13 → ∀ b, b < 13 → a ≠ b → (TX2 a).2.1 ≠ (TX2 b).2.1 := by decide +kernel
theorem tyX2_ok : ∀ k, k < 13 → parseFieldDescriptor (TX2 k).2.2.1 = some (tyX2 k) := by decide +kernel
def RX3 : String := "LateSessionsModel"
def TX3 : u_T := fun k => match k with
  | 0 => ("LateSessionsModel", "thrown", "I", false)
  | 1 => ("LateSessionsModel", "told", "I", false)
  | 2 => ("LateSessionsModel", "row", "[J", true)
  | 3 => ("LateSessionsModel", "tape", "[I", true)
  | 4 => ("LateSessionsModel", "taped", "I", false)
  | 5 => ("LateSessionsModel", "at", "I", false)
  | 6 => ("LateSessionsModel", "to", "I", false)
  | 7 => ("LateSessionsModel", "mem", "[I", true)
  | 8 => ("LateSessionsModel", "undos", "I", false)
  | 9 => ("LateSessionsModel", "fresh", "[I", true)
  | 10 => ("LateSessionsModel", "doneLast", "I", false)
  | 11 => ("LateSessionsModel", "doneKey", "I", false)
  | 12 => ("LateSessionsModel", "meltedWith", "I", false)
  | 13 => ("LateSessionsModel", "readKey", "[I", true)
  | 14 => ("LateSessionsModel", "readTime", "[I", true)
  | 15 => ("LateSessionsModel", "readValue", "[I", true)
  | 16 => ("LateSessionsModel", "readSource", "[I", true)
  | 17 => ("LateSessionsModel", "times", "[I", true)
  | 18 => ("LateSessionsModel", "values", "[I", true)
  | 19 => ("LateSessionsModel", "timed", "I", false)
  | 20 => ("LateSessionsModel", "act", "[I", true)
  | 21 => ("LateSessionsModel", "random", "I", false)
  | _ => ("LateSessionsModel", "isKept", "[Z", true)
def tyX3 : Nat → FieldType := fun k => match k with
  | 0 => .int
  | 1 => .int
  | 2 => .array .long
  | 3 => .array .int
  | 4 => .int
  | 5 => .int
  | 6 => .int
  | 7 => .array .int
  | 8 => .int
  | 9 => .array .int
  | 10 => .int
  | 11 => .int
  | 12 => .int
  | 13 => .array .int
  | 14 => .array .int
  | 15 => .array .int
  | 16 => .array .int
  | 17 => .array .int
  | 18 => .array .int
  | 19 => .int
  | 20 => .array .int
  | 21 => .int
  | _ => .array .boolean
theorem nmX3 : ∀ a, a < 23 → ∀ b, b < 23 → a ≠ b → (TX3 a).2.1 ≠ (TX3 b).2.1 := by decide +kernel
theorem tyX3_ok : ∀ k, k < 23 → parseFieldDescriptor (TX3 k).2.2.1 = some (tyX3 k) := by decide +kernel
def RJ0 : String := "java/lang/String"
def RJ1 : String := "java/lang/StringLatin1"
def RJ3 : String := "jdk/internal/util/Preconditions"
def RJ7 : String := "java/util/Arrays"
def RJ9 : String := "java/lang/Math"
def RJ10 : String := "java/lang/System"
def RL : String := "LateSessionsLaw"
abbrev cX0_init : ByteArray := prog_2_method_1_code
def yX0_init : MethodName := ⟨RX0, "<init>", "(II)V"⟩
abbrev cX0_get : ByteArray := prog_2_method_2_code
def yX0_get : MethodName := ⟨RX0, "get", "(II)I"⟩
abbrev cX0_set : ByteArray := prog_2_method_3_code
def yX0_set : MethodName := ⟨RX0, "set", "(III)V"⟩
abbrev cX0_add : ByteArray := prog_2_method_4_code
def yX0_add : MethodName := ⟨RX0, "add", "(III)V"⟩
abbrev cX0_clear : ByteArray := prog_2_method_5_code
def yX0_clear : MethodName := ⟨RX0, "clear", "()V"⟩
abbrev cX0_reach : ByteArray := prog_2_method_6_code
def yX0_reach : MethodName := ⟨RX0, "reach", "(I)V"⟩
abbrev cX0_open : ByteArray := prog_2_method_7_code
def yX0_open : MethodName := ⟨RX0, "open", "(I)Z"⟩
abbrev cX0_drop : ByteArray := prog_2_method_8_code
def yX0_drop : MethodName := ⟨RX0, "drop", "(I)V"⟩
abbrev cX0_copyRow : ByteArray := prog_2_method_9_code
def yX0_copyRow : MethodName := ⟨RX0, "copyRow", "(ILLateSessions$Table;I)V"⟩
abbrev cX0_copyFrom : ByteArray := prog_2_method_10_code
def yX0_copyFrom : MethodName := ⟨RX0, "copyFrom", "(LLateSessions$Table;)V"⟩
abbrev cX1_init : ByteArray := prog_3_method_1_code
def yX1_init : MethodName := ⟨RX1, "<init>", "()V"⟩
abbrev cX1_reset : ByteArray := prog_3_method_2_code
def yX1_reset : MethodName := ⟨RX1, "reset", "(IIII)V"⟩
abbrev cX1_copyFrom : ByteArray := prog_3_method_3_code
def yX1_copyFrom : MethodName := ⟨RX1, "copyFrom", "(LLateSessions$World;)V"⟩
abbrev cX1_comeEvent : ByteArray := prog_3_method_4_code
def yX1_comeEvent : MethodName := ⟨RX1, "comeEvent", "(IIII)I"⟩
abbrev cX1_comeMark : ByteArray := prog_3_method_5_code
def yX1_comeMark : MethodName := ⟨RX1, "comeMark", "(II)V"⟩
abbrev cX1_comeIdle : ByteArray := prog_3_method_6_code
def yX1_comeIdle : MethodName := ⟨RX1, "comeIdle", "(I)V"⟩
abbrev cX1_note : ByteArray := prog_3_method_7_code
def yX1_note : MethodName := ⟨RX1, "note", "(III)V"⟩
abbrev cX1_playInput : ByteArray := prog_3_method_8_code
def yX1_playInput : MethodName := ⟨RX1, "playInput", "(LLateSessions$Table;I)V"⟩
abbrev cX1_playEvent : ByteArray := prog_3_method_9_code
def yX1_playEvent : MethodName := ⟨RX1, "playEvent", "(IIII)I"⟩
abbrev cX1_playMark : ByteArray := prog_3_method_10_code
def yX1_playMark : MethodName := ⟨RX1, "playMark", "(II)V"⟩
abbrev cX1_playIdle : ByteArray := prog_3_method_11_code
def yX1_playIdle : MethodName := ⟨RX1, "playIdle", "(I)V"⟩
abbrev cX1_raiseMark : ByteArray := prog_3_method_12_code
def yX1_raiseMark : MethodName := ⟨RX1, "raiseMark", "(II)V"⟩
abbrev cX1_fateOf : ByteArray := prog_3_method_13_code
def yX1_fateOf : MethodName := ⟨RX1, "fateOf", "(I)I"⟩
abbrev cX1_isTakenOf : ByteArray := prog_3_method_14_code
def yX1_isTakenOf : MethodName := ⟨RX1, "isTakenOf", "(II)Z"⟩
abbrev cX1_hasResult : ByteArray := prog_3_method_15_code
def yX1_hasResult : MethodName := ⟨RX1, "hasResult", "(I)Z"⟩
abbrev cX1_isRipe : ByteArray := prog_3_method_16_code
def yX1_isRipe : MethodName := ⟨RX1, "isRipe", "(II)Z"⟩
abbrev cX1_isOver : ByteArray := prog_3_method_17_code
def yX1_isOver : MethodName := ⟨RX1, "isOver", "(II)Z"⟩
abbrev cX1_ripening : ByteArray := prog_3_method_18_code
def yX1_ripening : MethodName := ⟨RX1, "ripening", "(I)I"⟩
abbrev cX1_leastMark : ByteArray := prog_3_method_19_code
def yX1_leastMark : MethodName := ⟨RX1, "leastMark", "(I)I"⟩
abbrev cX1_sentOf : ByteArray := prog_3_method_20_code
def yX1_sentOf : MethodName := ⟨RX1, "sentOf", "(I)I"⟩
abbrev cX1_touches : ByteArray := prog_3_method_21_code
def yX1_touches : MethodName := ⟨RX1, "touches", "(III)Z"⟩
abbrev cX1_firstTouched : ByteArray := prog_3_method_22_code
def yX1_firstTouched : MethodName := ⟨RX1, "firstTouched", "(II)I"⟩
abbrev cX1_touchedFrom : ByteArray := prog_3_method_23_code
def yX1_touchedFrom : MethodName := ⟨RX1, "touchedFrom", "(III)I"⟩
abbrev cX1_melt : ByteArray := prog_3_method_24_code
def yX1_melt : MethodName := ⟨RX1, "melt", "(III)V"⟩
abbrev cX1_placeFor : ByteArray := prog_3_method_25_code
def yX1_placeFor : MethodName := ⟨RX1, "placeFor", "(II)I"⟩
abbrev cX1_swallowNext : ByteArray := prog_3_method_26_code
def yX1_swallowNext : MethodName := ⟨RX1, "swallowNext", "(I)V"⟩
abbrev cX1_kindOfNew : ByteArray := prog_3_method_27_code
def yX1_kindOfNew : MethodName := ⟨RX1, "kindOfNew", "(I)I"⟩
abbrev cX1_rise : ByteArray := prog_3_method_28_code
def yX1_rise : MethodName := ⟨RX1, "rise", "()V"⟩
abbrev cX1_turnOf : ByteArray := prog_3_method_29_code
def yX1_turnOf : MethodName := ⟨RX1, "turnOf", "(I)I"⟩
abbrev cX1_dueBehind : ByteArray := prog_3_method_30_code
def yX1_dueBehind : MethodName := ⟨RX1, "dueBehind", "(II)I"⟩
abbrev cX1_finish : ByteArray := prog_3_method_31_code
def yX1_finish : MethodName := ⟨RX1, "finish", "(I)V"⟩
abbrev cX1_takeBack : ByteArray := prog_3_method_32_code
def yX1_takeBack : MethodName := ⟨RX1, "takeBack", "(I)V"⟩
abbrev cX1_announce : ByteArray := prog_3_method_33_code
def yX1_announce : MethodName := ⟨RX1, "announce", "(II)V"⟩
abbrev cX1_send : ByteArray := prog_3_method_34_code
def yX1_send : MethodName := ⟨RX1, "send", "(II)V"⟩
abbrev cX2_init : ByteArray := prog_1_method_1_code
def yX2_init : MethodName := ⟨RX2, "<init>", "()V"⟩
abbrev cX2_sign : ByteArray := prog_1_method_2_code
def yX2_sign : MethodName := ⟨RX2, "sign", "(I)I"⟩
abbrev cX2_end : ByteArray := prog_1_method_3_code
def yX2_end : MethodName := ⟨RX2, "end", "(I)Z"⟩
abbrev cX2_start : ByteArray := prog_1_method_4_code
def yX2_start : MethodName := ⟨RX2, "start", "(IIII)I"⟩
abbrev cX2_delays : ByteArray := prog_1_method_5_code
def yX2_delays : MethodName := ⟨RX2, "delays", "(II)I"⟩
abbrev cX2_event : ByteArray := prog_1_method_6_code
def yX2_event : MethodName := ⟨RX2, "event", "(IIII)I"⟩
abbrev cX2_events : ByteArray := prog_1_method_7_code
def yX2_events : MethodName := ⟨RX2, "events", "()I"⟩
abbrev cX2_marks : ByteArray := prog_1_method_8_code
def yX2_marks : MethodName := ⟨RX2, "marks", "(II)I"⟩
abbrev cX2_idles : ByteArray := prog_1_method_9_code
def yX2_idles : MethodName := ⟨RX2, "idles", "(I)I"⟩
abbrev cX2_source : ByteArray := prog_1_method_10_code
def yX2_source : MethodName := ⟨RX2, "source", "(II)I"⟩
abbrev cX2_session : ByteArray := prog_1_method_11_code
def yX2_session : MethodName := ⟨RX2, "session", "(II)I"⟩
abbrev cX2_at : ByteArray := prog_1_method_12_code
def yX2_at : MethodName := ⟨RX2, "at", "(II)I"⟩
abbrev cX2_message : ByteArray := prog_1_method_13_code
def yX2_message : MethodName := ⟨RX2, "message", "(II)I"⟩
abbrev cX2_sent : ByteArray := prog_1_method_14_code
def yX2_sent : MethodName := ⟨RX2, "sent", "(I)I"⟩
abbrev cX2_stands : ByteArray := prog_1_method_15_code
def yX2_stands : MethodName := ⟨RX2, "stands", "()I"⟩
abbrev cX2_closed : ByteArray := prog_1_method_16_code
def yX2_closed : MethodName := ⟨RX2, "closed", "(I)I"⟩
abbrev cX2_finals : ByteArray := prog_1_method_17_code
def yX2_finals : MethodName := ⟨RX2, "finals", "(II)I"⟩
abbrev cX2_kinds : ByteArray := prog_1_method_18_code
def yX2_kinds : MethodName := ⟨RX2, "kinds", "(I)I"⟩
abbrev cX2_slow : ByteArray := prog_1_method_19_code
def yX2_slow : MethodName := ⟨RX2, "slow", "()I"⟩
abbrev cX2_span : ByteArray := prog_1_method_20_code
def yX2_span : MethodName := ⟨RX2, "span", "(II)I"⟩
abbrev cX2_taken : ByteArray := prog_1_method_21_code
def yX2_taken : MethodName := ⟨RX2, "taken", "()I"⟩
abbrev cX2_holds : ByteArray := prog_1_method_22_code
def yX2_holds : MethodName := ⟨RX2, "holds", "()I"⟩
abbrev cX2_next : ByteArray := prog_1_method_23_code
def yX2_next : MethodName := ⟨RX2, "next", "()I"⟩
abbrev cX2_ahead : ByteArray := prog_1_method_24_code
def yX2_ahead : MethodName := ⟨RX2, "ahead", "(I)I"⟩
abbrev cX2_would : ByteArray := prog_1_method_25_code
def yX2_would : MethodName := ⟨RX2, "would", "(IIII)I"⟩
abbrev cX2_batch : ByteArray := prog_1_method_26_code
def yX2_batch : MethodName := ⟨RX2, "batch", "(I)I"⟩
abbrev cX2_latest : ByteArray := prog_1_method_27_code
def yX2_latest : MethodName := ⟨RX2, "latest", "()I"⟩
abbrev cX2_parts : ByteArray := prog_1_method_28_code
def yX2_parts : MethodName := ⟨RX2, "parts", "(II)I"⟩
abbrev cX2_again : ByteArray := prog_1_method_29_code
def yX2_again : MethodName := ⟨RX2, "again", "(III)I"⟩
abbrev cX2_without : ByteArray := prog_1_method_30_code
def yX2_without : MethodName := ⟨RX2, "without", "(I)I"⟩
abbrev cX2_input : ByteArray := prog_1_method_31_code
def yX2_input : MethodName := ⟨RX2, "input", "(II)I"⟩
abbrev cX2_day : ByteArray := prog_1_method_32_code
def yX2_day : MethodName := ⟨RX2, "day", "()I"⟩
abbrev cX2_undo : ByteArray := prog_1_method_33_code
def yX2_undo : MethodName := ⟨RX2, "undo", "()I"⟩
abbrev cX2_years : ByteArray := prog_1_method_34_code
def yX2_years : MethodName := ⟨RX2, "years", "(II)I"⟩
abbrev cX2_keep : ByteArray := prog_1_method_35_code
def yX2_keep : MethodName := ⟨RX2, "keep", "(I)Z"⟩
abbrev cX2_back : ByteArray := prog_1_method_36_code
def yX2_back : MethodName := ⟨RX2, "back", "(I)Z"⟩
abbrev cX2_count : ByteArray := prog_1_method_37_code
def yX2_count : MethodName := ⟨RX2, "count", "(I)I"⟩
abbrev cX2_row : ByteArray := prog_1_method_38_code
def yX2_row : MethodName := ⟨RX2, "row", "(I)J"⟩
abbrev cX2_isKey : ByteArray := prog_1_method_39_code
def yX2_isKey : MethodName := ⟨RX2, "isKey", "(I)Z"⟩
abbrev cX2_isTime : ByteArray := prog_1_method_40_code
def yX2_isTime : MethodName := ⟨RX2, "isTime", "(I)Z"⟩
abbrev cX2_isSource : ByteArray := prog_1_method_41_code
def yX2_isSource : MethodName := ⟨RX2, "isSource", "(I)Z"⟩
abbrev cX2_isEvent : ByteArray := prog_1_method_42_code
def yX2_isEvent : MethodName := ⟨RX2, "isEvent", "(IIII)Z"⟩
abbrev cX2_areSettings : ByteArray := prog_1_method_43_code
def yX2_areSettings : MethodName := ⟨RX2, "areSettings", "(III)Z"⟩
abbrev cX2_eventRefusal : ByteArray := prog_1_method_44_code
def yX2_eventRefusal : MethodName := ⟨RX2, "eventRefusal", "(IIII)I"⟩
abbrev cX2_markRefusal : ByteArray := prog_1_method_45_code
def yX2_markRefusal : MethodName := ⟨RX2, "markRefusal", "(II)I"⟩
abbrev cX2_idleRefusal : ByteArray := prog_1_method_46_code
def yX2_idleRefusal : MethodName := ⟨RX2, "idleRefusal", "(I)I"⟩
abbrev cX2_inputRefusal : ByteArray := prog_1_method_47_code
def yX2_inputRefusal : MethodName := ⟨RX2, "inputRefusal", "()I"⟩
abbrev cX2_isOfLatest : ByteArray := prog_1_method_48_code
def yX2_isOfLatest : MethodName := ⟨RX2, "isOfLatest", "(III)Z"⟩
abbrev cX2_shifted : ByteArray := prog_1_method_49_code
def yX2_shifted : MethodName := ⟨RX2, "shifted", "(LLateSessions$Table;II)I"⟩
abbrev cX2_tellNothing : ByteArray := prog_1_method_50_code
def yX2_tellNothing : MethodName := ⟨RX2, "tellNothing", "()V"⟩
abbrev cX2_tellMore : ByteArray := prog_1_method_51_code
def yX2_tellMore : MethodName := ⟨RX2, "tellMore", "(J)V"⟩
abbrev cX2_tellOne : ByteArray := prog_1_method_52_code
def yX2_tellOne : MethodName := ⟨RX2, "tellOne", "(J)V"⟩
abbrev cX2_tellTwo : ByteArray := prog_1_method_53_code
def yX2_tellTwo : MethodName := ⟨RX2, "tellTwo", "(JJ)V"⟩
abbrev cX2_tellThree : ByteArray := prog_1_method_54_code
def yX2_tellThree : MethodName := ⟨RX2, "tellThree", "(JJJ)V"⟩
abbrev cX2_putSign : ByteArray := prog_1_method_55_code
def yX2_putSign : MethodName := ⟨RX2, "putSign", "(I)V"⟩
abbrev cX2_takeText : ByteArray := prog_1_method_56_code
def yX2_takeText : MethodName := ⟨RX2, "takeText", "()I"⟩
abbrev cX2_signAt : ByteArray := prog_1_method_57_code
def yX2_signAt : MethodName := ⟨RX2, "signAt", "(I)I"⟩
abbrev cX2_fits : ByteArray := prog_1_method_58_code
def yX2_fits : MethodName := ⟨RX2, "fits", "(IC)Z"⟩
abbrev cX2_formMisfit : ByteArray := prog_1_method_59_code
def yX2_formMisfit : MethodName := ⟨RX2, "formMisfit", "(IILjava/lang/String;)I"⟩
abbrev cX2_eventsMisfit : ByteArray := prog_1_method_60_code
def yX2_eventsMisfit : MethodName := ⟨RX2, "eventsMisfit", "(I)I"⟩
abbrev cX2_dayMisfit : ByteArray := prog_1_method_61_code
def yX2_dayMisfit : MethodName := ⟨RX2, "dayMisfit", "(I)I"⟩
abbrev cX2_actForm : ByteArray := prog_1_method_62_code
def yX2_actForm : MethodName := ⟨RX2, "actForm", "(I)Ljava/lang/String;"⟩
abbrev cX2_numberAt : ByteArray := prog_1_method_63_code
def yX2_numberAt : MethodName := ⟨RX2, "numberAt", "(II)I"⟩
abbrev cX2_keyAt : ByteArray := prog_1_method_64_code
def yX2_keyAt : MethodName := ⟨RX2, "keyAt", "(I)I"⟩
abbrev cX2_valueAt : ByteArray := prog_1_method_65_code
def yX2_valueAt : MethodName := ⟨RX2, "valueAt", "(I)I"⟩
abbrev cX2_comeEventAt : ByteArray := prog_1_method_66_code
def yX2_comeEventAt : MethodName := ⟨RX2, "comeEventAt", "(I)I"⟩
abbrev cX2_actRefusal : ByteArray := prog_1_method_67_code
def yX2_actRefusal : MethodName := ⟨RX2, "actRefusal", "(I)I"⟩
abbrev cX2_comeAct : ByteArray := prog_1_method_68_code
def yX2_comeAct : MethodName := ⟨RX2, "comeAct", "(I)V"⟩
abbrev cX2_remember : ByteArray := prog_1_method_69_code
def yX2_remember : MethodName := ⟨RX2, "remember", "()V"⟩
abbrev cX2_replay : ByteArray := prog_1_method_70_code
def yX2_replay : MethodName := ⟨RX2, "replay", "(IIII)V"⟩
abbrev cX2_sortTaken : ByteArray := prog_1_method_71_code
def yX2_sortTaken : MethodName := ⟨RX2, "sortTaken", "(I)I"⟩
abbrev cX2_sortedCell : ByteArray := prog_1_method_72_code
def yX2_sortedCell : MethodName := ⟨RX2, "sortedCell", "(II)I"⟩
abbrev cX2_holeBehind : ByteArray := prog_1_method_73_code
def yX2_holeBehind : MethodName := ⟨RX2, "holeBehind", "(I)I"⟩
abbrev cX2_drawAfter : ByteArray := prog_1_method_74_code
def yX2_drawAfter : MethodName := ⟨RX2, "drawAfter", "(I)I"⟩
abbrev cX2_drawOf : ByteArray := prog_1_method_75_code
def yX2_drawOf : MethodName := ⟨RX2, "drawOf", "(II)I"⟩
abbrev cX3_thrown : ByteArray := prog_5_method_1_code
def yX3_thrown : MethodName := ⟨RX3, "thrown", "()I"⟩
abbrev cX3_in : ByteArray := prog_5_method_2_code
def yX3_in : MethodName := ⟨RX3, "in", "(JJJ)Z"⟩
abbrev cX3_flag : ByteArray := prog_5_method_3_code
def yX3_flag : MethodName := ⟨RX3, "flag", "(Z)I"⟩
abbrev cX3_enters : ByteArray := prog_5_method_4_code
def yX3_enters : MethodName := ⟨RX3, "enters", "(J)V"⟩
abbrev cX3_sign : ByteArray := prog_5_method_5_code
def yX3_sign : MethodName := ⟨RX3, "sign", "(I)I"⟩
abbrev cX3_end : ByteArray := prog_5_method_6_code
def yX3_end : MethodName := ⟨RX3, "end", "(I)Z"⟩
abbrev cX3_reads : ByteArray := prog_5_method_7_code
def yX3_reads : MethodName := ⟨RX3, "reads", "()V"⟩
abbrev cX3_takesOf : ByteArray := prog_5_method_8_code
def yX3_takesOf : MethodName := ⟨RX3, "takesOf", "(Ljava/lang/String;)I"⟩
abbrev cX3_digits : ByteArray := prog_5_method_9_code
def yX3_digits : MethodName := ⟨RX3, "digits", "(I)I"⟩
abbrev cX3_init : ByteArray := prog_5_method_10_code
def yX3_init : MethodName := ⟨RX3, "<init>", "()V"⟩
abbrev cX3_copies : ByteArray := prog_5_method_11_code
def yX3_copies : MethodName := ⟨RX3, "copies", "(II)V"⟩
abbrev cX3_starts : ByteArray := prog_5_method_12_code
def yX3_starts : MethodName := ⟨RX3, "starts", "(IIIII)V"⟩
abbrev cX3_of : ByteArray := prog_5_method_13_code
def yX3_of : MethodName := ⟨RX3, "of", "(II)I"⟩
abbrev cX3_puts : ByteArray := prog_5_method_14_code
def yX3_puts : MethodName := ⟨RX3, "puts", "(III)V"⟩
abbrev cX3_adds : ByteArray := prog_5_method_15_code
def yX3_adds : MethodName := ⟨RX3, "adds", "(III)V"⟩
abbrev cX3_lays : ByteArray := prog_5_method_16_code
def yX3_lays : MethodName := ⟨RX3, "lays", "()V"⟩
abbrev cX3_done : ByteArray := prog_5_method_17_code
def yX3_done : MethodName := ⟨RX3, "done", "(I)I"⟩
abbrev cX3_undo : ByteArray := prog_5_method_18_code
def yX3_undo : MethodName := ⟨RX3, "undo", "()I"⟩
abbrev cX3_areSettings : ByteArray := prog_5_method_19_code
def yX3_areSettings : MethodName := ⟨RX3, "areSettings", "(III)Z"⟩
abbrev cX3_start : ByteArray := prog_5_method_20_code
def yX3_start : MethodName := ⟨RX3, "start", "(IIII)I"⟩
abbrev cX3_isSource : ByteArray := prog_5_method_21_code
def yX3_isSource : MethodName := ⟨RX3, "isSource", "(I)Z"⟩
abbrev cX3_delays : ByteArray := prog_5_method_22_code
def yX3_delays : MethodName := ⟨RX3, "delays", "(II)I"⟩
abbrev cX3_place : ByteArray := prog_5_method_23_code
def yX3_place : MethodName := ⟨RX3, "place", "(II)I"⟩
abbrev cX3_ofSession : ByteArray := prog_5_method_24_code
def yX3_ofSession : MethodName := ⟨RX3, "ofSession", "(III)I"⟩
abbrev cX3_goesOut : ByteArray := prog_5_method_25_code
def yX3_goesOut : MethodName := ⟨RX3, "goesOut", "(II)V"⟩
abbrev cX3_comesIn : ByteArray := prog_5_method_26_code
def yX3_comesIn : MethodName := ⟨RX3, "comesIn", "(I)I"⟩
abbrev cX3_isBehind : ByteArray := prog_5_method_27_code
def yX3_isBehind : MethodName := ⟨RX3, "isBehind", "(II)Z"⟩
abbrev cX3_sends : ByteArray := prog_5_method_28_code
def yX3_sends : MethodName := ⟨RX3, "sends", "(III)V"⟩
abbrev cX3_takesBack : ByteArray := prog_5_method_29_code
def yX3_takesBack : MethodName := ⟨RX3, "takesBack", "(II)V"⟩
abbrev cX3_isRipeBy : ByteArray := prog_5_method_30_code
def yX3_isRipeBy : MethodName := ⟨RX3, "isRipeBy", "(III)Z"⟩
abbrev cX3_isClosedBy : ByteArray := prog_5_method_31_code
def yX3_isClosedBy : MethodName := ⟨RX3, "isClosedBy", "(III)Z"⟩
abbrev cX3_leastMark : ByteArray := prog_5_method_32_code
def yX3_leastMark : MethodName := ⟨RX3, "leastMark", "(I)I"⟩
abbrev cX3_firstRipe : ByteArray := prog_5_method_33_code
def yX3_firstRipe : MethodName := ⟨RX3, "firstRipe", "(II)I"⟩
abbrev cX3_isDone : ByteArray := prog_5_method_34_code
def yX3_isDone : MethodName := ⟨RX3, "isDone", "(II)Z"⟩
abbrev cX3_rises : ByteArray := prog_5_method_35_code
def yX3_rises : MethodName := ⟨RX3, "rises", "(I)V"⟩
abbrev cX3_firstClosed : ByteArray := prog_5_method_36_code
def yX3_firstClosed : MethodName := ⟨RX3, "firstClosed", "(I)I"⟩
abbrev cX3_closes : ByteArray := prog_5_method_37_code
def yX3_closes : MethodName := ⟨RX3, "closes", "(II)V"⟩
abbrev cX3_notes : ByteArray := prog_5_method_38_code
def yX3_notes : MethodName := ⟨RX3, "notes", "(IIIIIII)V"⟩
abbrev cX3_melts : ByteArray := prog_5_method_39_code
def yX3_melts : MethodName := ⟨RX3, "melts", "(IIII)Z"⟩
abbrev cX3_joins : ByteArray := prog_5_method_40_code
def yX3_joins : MethodName := ⟨RX3, "joins", "(IIII)V"⟩
abbrev cX3_comes : ByteArray := prog_5_method_41_code
def yX3_comes : MethodName := ⟨RX3, "comes", "(IIIII)I"⟩
abbrev cX3_isMarked : ByteArray := prog_5_method_42_code
def yX3_isMarked : MethodName := ⟨RX3, "isMarked", "(III)V"⟩
abbrev cX3_isIdle : ByteArray := prog_5_method_43_code
def yX3_isIdle : MethodName := ⟨RX3, "isIdle", "(II)V"⟩
abbrev cX3_isEvent : ByteArray := prog_5_method_44_code
def yX3_isEvent : MethodName := ⟨RX3, "isEvent", "(IIII)Z"⟩
abbrev cX3_eventOne : ByteArray := prog_5_method_45_code
def yX3_eventOne : MethodName := ⟨RX3, "eventOne", "(IIII)I"⟩
abbrev cX3_entersSince : ByteArray := prog_5_method_46_code
def yX3_entersSince : MethodName := ⟨RX3, "entersSince", "(II)V"⟩
abbrev cX3_event : ByteArray := prog_5_method_47_code
def yX3_event : MethodName := ⟨RX3, "event", "(IIII)I"⟩
abbrev cX3_readsEvent : ByteArray := prog_5_method_48_code
def yX3_readsEvent : MethodName := ⟨RX3, "readsEvent", "(IZ)Z"⟩
abbrev cX3_events : ByteArray := prog_5_method_49_code
def yX3_events : MethodName := ⟨RX3, "events", "()I"⟩
abbrev cX3_marksOne : ByteArray := prog_5_method_50_code
def yX3_marksOne : MethodName := ⟨RX3, "marksOne", "(II)I"⟩
abbrev cX3_entersProgress : ByteArray := prog_5_method_51_code
def yX3_entersProgress : MethodName := ⟨RX3, "entersProgress", "()V"⟩
abbrev cX3_marks : ByteArray := prog_5_method_52_code
def yX3_marks : MethodName := ⟨RX3, "marks", "(II)I"⟩
abbrev cX3_idlesOne : ByteArray := prog_5_method_53_code
def yX3_idlesOne : MethodName := ⟨RX3, "idlesOne", "(I)I"⟩
abbrev cX3_idles : ByteArray := prog_5_method_54_code
def yX3_idles : MethodName := ⟨RX3, "idles", "(I)I"⟩
abbrev cX3_source : ByteArray := prog_5_method_55_code
def yX3_source : MethodName := ⟨RX3, "source", "(II)I"⟩
abbrev cX3_session : ByteArray := prog_5_method_56_code
def yX3_session : MethodName := ⟨RX3, "session", "(II)I"⟩
abbrev cX3_at : ByteArray := prog_5_method_57_code
def yX3_at : MethodName := ⟨RX3, "at", "(II)I"⟩
abbrev cX3_message : ByteArray := prog_5_method_58_code
def yX3_message : MethodName := ⟨RX3, "message", "(II)I"⟩
abbrev cX3_sent : ByteArray := prog_5_method_59_code
def yX3_sent : MethodName := ⟨RX3, "sent", "(I)I"⟩
abbrev cX3_stands : ByteArray := prog_5_method_60_code
def yX3_stands : MethodName := ⟨RX3, "stands", "()I"⟩
abbrev cX3_isKey : ByteArray := prog_5_method_61_code
def yX3_isKey : MethodName := ⟨RX3, "isKey", "(I)Z"⟩
abbrev cX3_closed : ByteArray := prog_5_method_62_code
def yX3_closed : MethodName := ⟨RX3, "closed", "(I)I"⟩
abbrev cX3_finals : ByteArray := prog_5_method_63_code
def yX3_finals : MethodName := ⟨RX3, "finals", "(II)I"⟩
abbrev cX3_kinds : ByteArray := prog_5_method_64_code
def yX3_kinds : MethodName := ⟨RX3, "kinds", "(I)I"⟩
abbrev cX3_slow : ByteArray := prog_5_method_65_code
def yX3_slow : MethodName := ⟨RX3, "slow", "()I"⟩
abbrev cX3_span : ByteArray := prog_5_method_66_code
def yX3_span : MethodName := ⟨RX3, "span", "(II)I"⟩
abbrev cX3_taken : ByteArray := prog_5_method_67_code
def yX3_taken : MethodName := ⟨RX3, "taken", "()I"⟩
abbrev cX3_holds : ByteArray := prog_5_method_68_code
def yX3_holds : MethodName := ⟨RX3, "holds", "()I"⟩
abbrev cX3_next : ByteArray := prog_5_method_69_code
def yX3_next : MethodName := ⟨RX3, "next", "()I"⟩
abbrev cX3_ahead : ByteArray := prog_5_method_70_code
def yX3_ahead : MethodName := ⟨RX3, "ahead", "(I)I"⟩
abbrev cX3_would : ByteArray := prog_5_method_71_code
def yX3_would : MethodName := ⟨RX3, "would", "(IIII)I"⟩
abbrev cX3_ofInput : ByteArray := prog_5_method_72_code
def yX3_ofInput : MethodName := ⟨RX3, "ofInput", "(II)I"⟩
abbrev cX3_laysTimes : ByteArray := prog_5_method_73_code
def yX3_laysTimes : MethodName := ⟨RX3, "laysTimes", "(I)V"⟩
abbrev cX3_fallsInto : ByteArray := prog_5_method_74_code
def yX3_fallsInto : MethodName := ⟨RX3, "fallsInto", "(I)I"⟩
abbrev cX3_batch : ByteArray := prog_5_method_75_code
def yX3_batch : MethodName := ⟨RX3, "batch", "(I)I"⟩
abbrev cX3_parts : ByteArray := prog_5_method_76_code
def yX3_parts : MethodName := ⟨RX3, "parts", "(II)I"⟩
abbrev cX3_comesAgain : ByteArray := prog_5_method_77_code
def yX3_comesAgain : MethodName := ⟨RX3, "comesAgain", "(II)V"⟩
abbrev cX3_startsAgain : ByteArray := prog_5_method_78_code
def yX3_startsAgain : MethodName := ⟨RX3, "startsAgain", "(III)V"⟩
abbrev cX3_closedMany : ByteArray := prog_5_method_79_code
def yX3_closedMany : MethodName := ⟨RX3, "closedMany", "(I)I"⟩
abbrev cX3_latest : ByteArray := prog_5_method_80_code
def yX3_latest : MethodName := ⟨RX3, "latest", "()I"⟩
abbrev cX3_again : ByteArray := prog_5_method_81_code
def yX3_again : MethodName := ⟨RX3, "again", "(III)I"⟩
abbrev cX3_without : ByteArray := prog_5_method_82_code
def yX3_without : MethodName := ⟨RX3, "without", "(I)I"⟩
abbrev cX3_input : ByteArray := prog_5_method_83_code
def yX3_input : MethodName := ⟨RX3, "input", "(II)I"⟩
abbrev cX3_readsAct : ByteArray := prog_5_method_84_code
def yX3_readsAct : MethodName := ⟨RX3, "readsAct", "(I)Z"⟩
abbrev cX3_doesAct : ByteArray := prog_5_method_85_code
def yX3_doesAct : MethodName := ⟨RX3, "doesAct", "(I)I"⟩
abbrev cX3_day : ByteArray := prog_5_method_86_code
def yX3_day : MethodName := ⟨RX3, "day", "()I"⟩
abbrev cX3_draws : ByteArray := prog_5_method_87_code
def yX3_draws : MethodName := ⟨RX3, "draws", "(I)I"⟩
abbrev cX3_years : ByteArray := prog_5_method_88_code
def yX3_years : MethodName := ⟨RX3, "years", "(II)I"⟩
abbrev cX3_keep : ByteArray := prog_5_method_89_code
def yX3_keep : MethodName := ⟨RX3, "keep", "(I)Z"⟩
abbrev cX3_back : ByteArray := prog_5_method_90_code
def yX3_back : MethodName := ⟨RX3, "back", "(I)Z"⟩
abbrev cX3_count : ByteArray := prog_5_method_91_code
def yX3_count : MethodName := ⟨RX3, "count", "(I)I"⟩
abbrev cX3_row : ByteArray := prog_5_method_92_code
def yX3_row : MethodName := ⟨RX3, "row", "(I)J"⟩
abbrev cJ9_max_7cf53 : ByteArray := prog_10_method_65_code
def yJ9_max_7cf53 : MethodName := ⟨RJ9, "max", "(II)I"⟩
abbrev cJ9_min_7cf53 : ByteArray := prog_10_method_69_code
def yJ9_min_7cf53 : MethodName := ⟨RJ9, "min", "(II)I"⟩
abbrev cJ0_length_8abf5 : ByteArray := prog_12_method_54_code
def yJ0_length_8abf5 : MethodName := ⟨RJ0, "length", "()I"⟩
abbrev cJ0_isEmpty_aae02 : ByteArray := prog_12_method_55_code
def yJ0_isEmpty_aae02 : MethodName := ⟨RJ0, "isEmpty", "()Z"⟩
abbrev cJ0_charAt_5068e : ByteArray := prog_12_method_56_code
def yJ0_charAt_5068e : MethodName := ⟨RJ0, "charAt", "(I)C"⟩
abbrev cJ0_coder_7d493 : ByteArray := prog_12_method_152_code
def yJ0_coder_7d493 : MethodName := ⟨RJ0, "coder", "()B"⟩
abbrev cJ0_isLatin1_aae02 : ByteArray := prog_12_method_154_code
def yJ0_isLatin1_aae02 : MethodName := ⟨RJ0, "isLatin1", "()Z"⟩
abbrev cJ0_checkIndex_df160 : ByteArray := prog_12_method_155_code
def yJ0_checkIndex_df160 : MethodName := ⟨RJ0, "checkIndex", "(II)V"⟩
abbrev cJ1_charAt_3b067 : ByteArray := prog_13_method_2_code
def yJ1_charAt_3b067 : MethodName := ⟨RJ1, "charAt", "([BI)C"⟩
abbrev cJ7_fill_53178 : ByteArray := prog_19_method_103_code
def yJ7_fill_53178 : MethodName := ⟨RJ7, "fill", "([II)V"⟩
abbrev cJ3_checkIndex_8e157 : ByteArray := prog_21_method_11_code
def yJ3_checkIndex_8e157 : MethodName := ⟨RJ3, "checkIndex", "(IILjava/util/function/BiFunction;)I"⟩
abbrev cL_source : ByteArray := method_3_code
def yL_source : MethodName := ⟨RL, "source", "(LLateSessions;II[J)I"⟩
abbrev cL_session : ByteArray := method_4_code
def yL_session : MethodName := ⟨RL, "session", "(LLateSessions;II[J)I"⟩
abbrev cL_message : ByteArray := method_5_code
def yL_message : MethodName := ⟨RL, "message", "(LLateSessions;II[J)I"⟩
abbrev cL_finals : ByteArray := method_6_code
def yL_finals : MethodName := ⟨RL, "finals", "(LLateSessions;II[J)I"⟩
abbrev cL_input : ByteArray := method_7_code
def yL_input : MethodName := ⟨RL, "input", "(LLateSessions;II[J)I"⟩
abbrev cL_row : ByteArray := method_8_code
def yL_row : MethodName := ⟨RL, "row", "(LLateSessions;I[J)I"⟩
abbrev cL_law : ByteArray := code
def yL_law : MethodName := ⟨RL, "law", "([I)Z"⟩
end
section
/-! ===== a method's state as plain data: a list of cells by places (references in cells are relative: 'this place and so many more'), locals and stack with places for addresses; xl_W: from here the method comes to its end, with Po ===== -/
def xl_n {α : Type} : List α → Nat → Option α
  | [], _ => none
  | a :: _, 0 => some a
  | _ :: l, k + 1 => xl_n l k
def xl_s {α : Type} : List α → Nat → α → List α
  | [], _, _ => []
  | _ :: l, 0, b => b :: l
  | a :: l, k + 1, b => a :: xl_s l k b
theorem xl_n_eq {α : Type} : ∀ (l : List α) (k : Nat), xl_n l k = l[k]?
  | [], k => by simp [xl_n]
  | a :: l, 0 => by simp [xl_n]
  | a :: l, k + 1 => by rw [xl_n, xl_n_eq l k]; simp
theorem xl_s_eq {α : Type} : ∀ (l : List α) (k : Nat) (b : α), xl_s l k b = l.set k b
  | [], k, b => by simp [xl_s]
  | a :: l, 0, b => by simp [xl_s]
  | a :: l, k + 1, b => by rw [xl_s, xl_s_eq l k b]; simp
abbrev XI : Type := MethodName × ByteArray × Nat × Option FieldType × Nat × Nat × Nat
abbrev XE : Type := (Nat × vp_A) ⊕ (Nat × List Value)
abbrev XH : Type := List XE
/-- a value: a reference is a place, a float stands for a String constant -/
def xl_v (ρ σ : Nat → Nat) : Value → Value := fun v => match v with
  | .ref k => .ref (ρ k)
  | .float j => .ref (σ j.toNat)
  | .int a => .int a
  | .long a => .long a
  | .double a => .double a
  | .null => .null
  | .retAddr a => .retAddr a
def xl_a (ρ : Nat → Nat) (k : Nat) : ((Nat → Int32) ⊕ (Nat → Int64) ⊕ (Nat → UInt32) ⊕ (Nat → UInt64) ⊕ (Nat → Option Nat)) → ((Nat → Int32) ⊕ (Nat → Int64) ⊕ (Nat → UInt32) ⊕ (Nat → UInt64) ⊕ (Nat → Option Nat)) := fun a => match a with
  | .inl f => .inl f
  | .inr (.inl f) => .inr (.inl f)
  | .inr (.inr (.inl f)) => .inr (.inr (.inl f))
  | .inr (.inr (.inr (.inl f))) => .inr (.inr (.inr (.inl f)))
  | .inr (.inr (.inr (.inr f))) => .inr (.inr (.inr (.inr (fun j => (f j).map (fun d => ρ (k + d))))))
def xl_c (aC : Nat → ClassId) (ρ σ : Nat → Nat) (k : Nat) : XE → va_E := fun c => match c with
  | .inl a => .inl (aC a.1, a.2.1, xl_a ρ k a.2.2)
  | .inr o => .inr (o.1, o.2.map (xl_v (fun d => ρ (k + d)) σ))
def xl_w (aC : Nat → ClassId) (ρ σ : Nat → Nat) (h : XH) : va_W := h.mapIdx (fun k c => (ρ k, xl_c aC ρ σ k c))
theorem xl_w_at (aC : Nat → ClassId) (ρ σ : Nat → Nat) (h : XH) (k : Nat) : (xl_w aC ρ σ h)[k]? = (h[k]?).map (fun c => (ρ k, xl_c aC ρ σ k c)) := by
  rw [xl_w, List.getElem?_mapIdx]
theorem xl_w_of {aC : Nat → ClassId} {ρ σ : Nat → Nat} {h : XH} {k : Nat} {c : XE} (e : h[k]? = some c) : (xl_w aC ρ σ h)[k]? = some (ρ k, xl_c aC ρ σ k c) := by
  rw [xl_w_at, e]; rfl
theorem xl_w_inv {aC : Nat → ClassId} {ρ σ : Nat → Nat} {h : XH} {k : Nat} {q : Nat × va_E} (e : (xl_w aC ρ σ h)[k]? = some q) : ∃ c, h[k]? = some c ∧ q = (ρ k, xl_c aC ρ σ k c) := by
  rw [xl_w_at] at e
  cases hh : h[k]? with
  | none => rw [hh] at e; cases e
  | some c => rw [hh] at e; exact ⟨c, rfl, (Option.some.inj e).symm⟩
theorem xl_w_set {aC : Nat → ClassId} {ρ σ : Nat → Nat} {h : XH} {k : Nat} {c : XE} : (xl_w aC ρ σ h).set k (ρ k, xl_c aC ρ σ k c) = xl_w aC ρ σ (h.set k c) := by
  apply List.ext_getElem?
  intro i
  rw [List.getElem?_set, xl_w_at, xl_w_at, List.getElem?_set]
  by_cases hi : k = i
  · subst hi
    simp only [if_true]
    by_cases hl : k < h.length
    · simp [xl_w, hl]
    · simp [xl_w, hl]
  · simp [hi]
theorem xl_w_s {aC : Nat → ClassId} {ρ σ : Nat → Nat} {h : XH} {k : Nat} {c : XE} : xl_w aC ρ σ (xl_s h k c) = (xl_w aC ρ σ h).set k (ρ k, xl_c aC ρ σ k c) := by
  rw [xl_s_eq, xl_w_set]
/-- the addresses, apart -/
def xl_ap (A : Nat → Prop) (ρ : Nat → Nat) (n : Nat) : Prop := (∀ i j, i < n → j < n → ρ i = ρ j → i = j) ∧ ∀ i, i < n → A (ρ i)
theorem xl_ap_of {A : Nat → Prop} {aC : Nat → ClassId} {ρ σ : Nat → Nat} {h : XH} (hD : va_D A (xl_w aC ρ σ h)) : xl_ap A ρ h.length := by
  have key : ∀ i (hi : i < h.length), (xl_w aC ρ σ h)[i]? = some (ρ i, xl_c aC ρ σ i h[i]) := fun i hi => xl_w_of (List.getElem?_eq_getElem hi)
  exact ⟨fun i j hi hj e => hD.1 i j _ _ (key i hi) (key j hj) e, fun i hi => hD.2 i _ (key i hi)⟩
theorem xl_D_of {A : Nat → Prop} {aC : Nat → ClassId} {ρ σ : Nat → Nat} {h : XH} (hD : xl_ap A ρ h.length) : va_D A (xl_w aC ρ σ h) := by
  have key : ∀ (k : Nat) (q : Nat × va_E), (xl_w aC ρ σ h)[k]? = some q → k < h.length ∧ q.1 = ρ k := by
    intro k q hq
    obtain ⟨c, e1, e2⟩ := xl_w_inv hq
    exact ⟨(List.getElem?_eq_some_iff.mp e1).1, by rw [e2]⟩
  refine ⟨fun i j p q hi hj e => ?_, fun k q hk => ?_⟩
  · obtain ⟨a1, a2⟩ := key i p hi
    obtain ⟨b1, b2⟩ := key j q hj
    exact hD.1 i j a1 b1 (by rw [← a2, ← b2]; exact e)
  · obtain ⟨a1, a2⟩ := key k q hk
    rw [a2]; exact hD.2 k a1
/-- the words that every method may use -/
def xl_T : List Cond := lw_tbl.filter goodWord
theorem xl_Tg : ∀ w ∈ xl_T, goodWord w = true := fun w h => (List.mem_filter.mp h).2
theorem xl_Ti {w : Cond} (i : Nat) (h : lw_tbl[i]? = some w) (g : goodWord w = true) : w ∈ xl_T := List.mem_filter.mpr ⟨List.mem_of_getElem? h, g⟩
abbrev vwCl : List vw_C := [(RX0, TX0, 4), (RX1, TX1, 16), (RX2, TX2, 13), (RX3, TX3, 23)]
abbrev xl_ty (aC : Nat → ClassId) : List (ClassId × FieldType) := [(aC 0, .int), (aC 1, .long), (aC 2, .boolean), (aC 3, .object RX1)]
/-- the String constants: class, entry, text, bytes -/
def xl_sn : Nat := 9
def xl_sc : Nat → String × Nat × String := fun j => match j with
  | 0 => (RX2, 306, "kddddsddn")
  | 1 => (RX2, 316, "kddddsddd")
  | 2 => (RX2, 318, "dddddd")
  | 3 => (RX2, 320, "d")
  | 4 => (RX2, 322, "")
  | 5 => (RX3, 237, "abcdef")
  | 6 => (RX3, 41, "0123456789")
  | 7 => (RX3, 242, "+-")
  | _ => (RX3, 297, "emi")
def xl_sb : List (List Int32) := [[107, 100, 100, 100, 100, 115, 100, 100, 110], [107, 100, 100, 100, 100, 115, 100, 100, 100], [100, 100, 100, 100, 100, 100], [100], [], [97, 98, 99, 100, 101, 102], [48, 49, 50, 51, 52, 53, 54, 55, 56, 57], [43, 45], [101, 109, 105]]
def xl_sl : List Nat := [9, 9, 6, 1, 0, 6, 10, 2, 3]
def xl_S (σ aV : Nat → Nat) (A : Nat → Prop) (U : State) (H : Heap) : Prop := vk_S xl_sn xl_sl xl_sb σ aV A U H ∧ va_Z "java/lang/String" "COMPACT_STRINGS" "Z" (.int 1) A U H ∧ va_Zq "jdk/internal/util/Preconditions" "SIOOBE_FORMATTER" "Ljava/util/function/BiFunction;" A U H ∧ ∀ j, j < xl_sn → vk_R (xl_sc j).1 (xl_sc j).2.1 (xl_sc j).2.2 (σ j) U
theorem xl_S.moved {σ aV : Nat → Nat} {A : Nat → Prop} {u U : State} {H : Heap} (hW : u.WarmedH U.vm) (h : xl_S σ aV A u H) : xl_S σ aV A U H :=
  ⟨vk_S.moved hW.alike h.1, va_Z.moved hW.alike h.2.1, va_Zq.moved hW.alike h.2.2.1, fun j hj => vk_R.warm hW (h.2.2.2 j hj)⟩
theorem xl_S.same {σ aV : Nat → Nat} {A : Nat → Prop} {u U : State} {H : Heap} (hv : U.vm = u.vm) (h : xl_S σ aV A u H) : xl_S σ aV A U H :=
  ⟨vk_S.moved (by rw [hv]; exact Vm.Alike.refl _) h.1, va_Z.moved (by rw [hv]; exact Vm.Alike.refl _) h.2.1, va_Zq.moved (by rw [hv]; exact Vm.Alike.refl _) h.2.2.1, fun j hj => vk_R.same hv (h.2.2.2 j hj)⟩
theorem xl_S.kept {σ aV : Nat → Nat} {A : Nat → Prop} {U : State} {H H1 : Heap} (h : xl_S σ aV A U H) (hq : ∀ a : Nat, a < H.size → ¬ A a → H1[a]? = H[a]?) : xl_S σ aV A U H1 :=
  ⟨vk_S.kept h.1 hq, va_Z.kept h.2.1 hq, va_Zq.kept h.2.2.1 hq, h.2.2.2⟩
theorem xl_S.narrow {σ aV : Nat → Nat} {A B : Nat → Prop} {U : State} {H : Heap} (h : xl_S σ aV A U H) (hAB : ∀ q, B q → A q) : xl_S σ aV B U H :=
  ⟨vk_S.narrow h.1 hAB, va_Z.narrow h.2.1 hAB, va_Zq.narrow h.2.2.1 hAB, h.2.2.2⟩
/-- the machine, the code, the tables -/
def xl_X (M : XI) (l : Launch) (p : Program) (R : Room) (s : State) (m : MethodId) (args : Array Value) (meth : Method) (c : Code) : Prop :=
  p.tables.exec = Jvm.exec ∧ c.code = M.2.1 ∧ meth.sig.returnType = M.2.2.2.1 ∧ c.maxLocals = M.2.2.1 ∧ s.vm.findClass M.1.cls = some m.cls ∧ (∀ w ∈ xl_T, w.before args s = true) ∧ meth.locks = false ∧ M.2.2.2.2.1 ≤ R.frames ∧ M.2.2.2.2.2.1 ≤ R.locals ∧ l.flags = flags0
/-- the cells -/
def xl_H (D : va_G) (aC : Nat → ClassId) (ρ σ aV : Nat → Nat) (A : Nat → Prop) (s : State) (H : Heap) (locs : List Loc) (h : XH) : Prop :=
  va_K D vwCl (xl_ty aC) s ∧ va_P D vwCl (xl_w aC ρ σ h) H ∧ va_D A (xl_w aC ρ σ h) ∧ va_S A s.heap H locs ∧ xl_S σ aV A s s.heap ∧ ∀ q, s.heap.size ≤ q → A q
/-- the locals -/
def xl_L (ρ σ : Nat → Nat) (n : Nat) (ls : Array Slot) (L : List (Option Value)) : Prop := ls.size = n ∧ lv_wf ls ∧ ∀ (i : Nat) (v : Value), xl_n L i = some (some v) → ls[i]? = some (.val (xl_v ρ σ v))
/-- a return instruction for a value -/
def xl_R (M : XI) (pc : Nat) (v : Option Value) : Prop := match v with
  | none => M.2.2.2.1 = none ∧ decode M.2.1 pc = .ok (.return_, 1)
  | some (.int a) => (∃ ty, M.2.2.2.1 = some ty ∧ narrow ty (.int a) = .int a) ∧ decode M.2.1 pc = .ok (.ireturn, 1)
  | some (.long _) => M.2.2.2.1 = some .long ∧ decode M.2.1 pc = .ok (.lreturn, 1)
  | some (.float _) => (∃ n, M.2.2.2.1 = some (.object n)) ∧ decode M.2.1 pc = .ok (.areturn, 1)
  | some _ => False
/-- where a method makes its exception: new, dup, <init>, athrow -/
def xl_Y (M : XI) (pc : Nat) : Prop := ∃ i j, decode M.2.1 pc = .ok (.new i, 3) ∧ decode M.2.1 (pc + 3) = .ok (.dup, 1) ∧ decode M.2.1 (pc + 4) = .ok (.invokespecial j, 3) ∧ decode M.2.1 (pc + 7) = .ok (.athrow, 1)
def xl_W (M : XI) (rc rs pc : Nat) (L : List (Option Value)) (st : List Value) (h : XH) (Po : Option (Option Value) → XH → Prop) : Prop :=
  ∀ (p : Program) (l : Launch) (e : Env) (R : Room) (s : State) (m : MethodId) (args : Array Value) (below : List Frame) (meth : Method) (c : Code) (D : va_G) (aC : Nat → ClassId) (ρ σ aV : Nat → Nat) (A : Nat → Prop) (H : Heap) (locs : List Loc) (cells slots : Nat) (ls : Array Slot) (Q : State → Prop),
    xl_X M l p R s m args meth c → xl_H D aC ρ σ aV A s H locs h → xl_L ρ σ M.2.2.1 ls L → cells + rc ≤ R.cells → slots + rs ≤ R.slots →
    (∀ (v : Option Value) (h' : XH) (H' : Heap) (locs' : List Loc) (pc' cells' slots' : Nat) (ls' : Array Slot), Po (some v) h' → xl_H D aC ρ σ aV A s H' locs' h' → xl_R M pc' v → cells' ≤ cells + rc → slots' ≤ slots + rs → W p l e R s m args below meth c H' locs' cells' slots' Q (F0 m pc' ls' (v.toList.map (xl_v ρ σ)))) →
    (∀ (h' : XH) (H' : Heap) (locs' : List Loc) (pc' cells' slots' : Nat) (ls' : Array Slot), Po none h' → xl_H D aC ρ σ aV A s H' locs' h' → xl_Y M pc' → cells' + 1 ≤ cells + rc → slots' + 6 ≤ slots + rs → ls'.size = M.2.2.1 → W p l e R s m args below meth c H' locs' cells' slots' Q (F0 m pc' ls' [])) →
    W p l e R s m args below meth c H locs cells slots Q (F0 m pc ls (st.map (xl_v ρ σ)))
/-- an instruction: what stands at pc, and the place behind it -/
def xl_D (M : XI) (pc : Nat) (i : Instr) (n pc2 : Nat) : Prop := decode M.2.1 pc = .ok (i, n) ∧ pc + n = pc2
/-- a branch -/
def xl_J (M : XI) (pc : Nat) (f : Int → Instr) (pc2 tgt : Nat) : Prop := ∃ off : Int, decode M.2.1 pc = .ok (f off, 3) ∧ (pc : Int) + off = (tgt : Int) ∧ pc + 3 = pc2
section XL
variable {M : XI} {rc rs pc pc2 tgt : Nat} {L : List (Option Value)} {st st2 : List Value} {h : XH} {Po : Option (Option Value) → XH → Prop}
/-- instructions that touch the stack alone -/
theorem xl_go (f : ∀ {p : Program} {l : Launch} {e : Env} {R : Room} {s : State} {m : MethodId} {args : Array Value} {below : List Frame} {meth : Method} {c : Code} {H : Heap} {locs : List Loc} {cells slots : Nat} {Q : State → Prop} {ls : Array Slot} {ρ σ : Nat → Nat}, xl_X M l p R s m args meth c → W p l e R s m args below meth c H locs cells slots Q (F0 m pc2 ls (st2.map (xl_v ρ σ))) → W p l e R s m args below meth c H locs cells slots Q (F0 m pc ls (st.map (xl_v ρ σ))))
    (k : xl_W M rc rs pc2 L st2 h Po) : xl_W M rc rs pc L st h Po := by
  intro p l e R s m args below meth c D aC ρ σ aV A H locs cells slots ls Q hX hH hL h1 h2 hr ht
  exact f hX (k p l e R s m args below meth c D aC ρ σ aV A H locs cells slots ls Q hX hH hL h1 h2 hr ht)
theorem xl_iconst {n : Int} (v : Int32) (d : xl_D M pc (.iconst n) 1 pc2) (hv : Int32.ofInt n = v) (k : xl_W M rc rs pc2 L (.int v :: st) h Po) : xl_W M rc rs pc L st h Po := by
  obtain ⟨d, rfl⟩ := d
  exact xl_go (fun hX k => lv_iconst hX.1 hX.2.1 d hv k) k
theorem xl_bipush {n : Int} (v : Int32) (d : xl_D M pc (.bipush n) 2 pc2) (hv : (Int8.ofInt n).toInt32 = v) (k : xl_W M rc rs pc2 L (.int v :: st) h Po) : xl_W M rc rs pc L st h Po := by
  obtain ⟨d, rfl⟩ := d
  exact xl_go (fun hX k => lv_bipush hX.1 hX.2.1 d hv k) k
theorem xl_sipush {n : Int} (v : Int32) (d : xl_D M pc (.sipush n) 3 pc2) (hv : (Int16.ofInt n).toInt32 = v) (k : xl_W M rc rs pc2 L (.int v :: st) h Po) : xl_W M rc rs pc L st h Po := by
  obtain ⟨d, rfl⟩ := d
  exact xl_go (fun hX k => lv_sipush hX.1 hX.2.1 d hv k) k
theorem xl_lconst {n : Fin 2} (v : Int64) (d : xl_D M pc (.lconst n) 1 pc2) (hv : Int64.ofNat (n : Nat) = v) (k : xl_W M rc rs pc2 L (.long v :: st) h Po) : xl_W M rc rs pc L st h Po := by
  obtain ⟨d, rfl⟩ := d
  exact xl_go (fun hX k => lv_lconst hX.1 hX.2.1 d hv k) k
theorem xl_ldcw {i : Nat} {v : Int32} (d : xl_D M pc (.ldc_w i) 3 pc2) (hw : Cond.constant M.1.cls i v ∈ xl_T) (k : xl_W M rc rs pc2 L (.int v :: st) h Po) : xl_W M rc rs pc L st h Po := by
  obtain ⟨d, rfl⟩ := d
  exact xl_go (fun hX k => lv_ldcw hX.1 hX.2.1 hX.2.2.2.2.1 (hX.2.2.2.2.2.1 _ hw) d k) k
theorem xl_ldc2 {i : Nat} {v : Int64} (d : xl_D M pc (.ldc2_w i) 3 pc2) (hw : Cond.constantLong M.1.cls i v ∈ xl_T) (k : xl_W M rc rs pc2 L (.long v :: st) h Po) : xl_W M rc rs pc L st h Po := by
  obtain ⟨d, rfl⟩ := d
  exact xl_go (fun hX k => lv_ldc2 hX.1 hX.2.1 hX.2.2.2.2.1 (hX.2.2.2.2.2.1 _ hw) d k) k
theorem xl_iadd {a b : Int32} (d : xl_D M pc .iadd 1 pc2) (k : xl_W M rc rs pc2 L (.int (a + b) :: st) h Po) : xl_W M rc rs pc L (.int b :: .int a :: st) h Po := by
  obtain ⟨d, rfl⟩ := d
  exact xl_go (fun hX k => lv_iadd hX.1 hX.2.1 d k) k
theorem xl_isub {a b : Int32} (d : xl_D M pc .isub 1 pc2) (k : xl_W M rc rs pc2 L (.int (a - b) :: st) h Po) : xl_W M rc rs pc L (.int b :: .int a :: st) h Po := by
  obtain ⟨d, rfl⟩ := d
  exact xl_go (fun hX k => lv_isub hX.1 hX.2.1 d k) k
theorem xl_imul {a b : Int32} (d : xl_D M pc .imul 1 pc2) (k : xl_W M rc rs pc2 L (.int (a * b) :: st) h Po) : xl_W M rc rs pc L (.int b :: .int a :: st) h Po := by
  obtain ⟨d, rfl⟩ := d
  exact xl_go (fun hX k => lv_imul hX.1 hX.2.1 d k) k
theorem xl_iand {a b : Int32} (d : xl_D M pc .iand 1 pc2) (k : xl_W M rc rs pc2 L (.int (a &&& b) :: st) h Po) : xl_W M rc rs pc L (.int b :: .int a :: st) h Po := by
  obtain ⟨d, rfl⟩ := d
  exact xl_go (fun hX k => lv_iand hX.1 hX.2.1 d k) k
theorem xl_ior {a b : Int32} (d : xl_D M pc .ior 1 pc2) (k : xl_W M rc rs pc2 L (.int (a ||| b) :: st) h Po) : xl_W M rc rs pc L (.int b :: .int a :: st) h Po := by
  obtain ⟨d, rfl⟩ := d
  exact xl_go (fun hX k => lv_ior hX.1 hX.2.1 d k) k
theorem xl_ishl {a b : Int32} (d : xl_D M pc .ishl 1 pc2) (k : xl_W M rc rs pc2 L (.int (a <<< (b &&& 31)) :: st) h Po) : xl_W M rc rs pc L (.int b :: .int a :: st) h Po := by
  obtain ⟨d, rfl⟩ := d
  exact xl_go (fun hX k => lv_ishl hX.1 hX.2.1 d k) k
theorem xl_ishr {a b : Int32} (d : xl_D M pc .ishr 1 pc2) (k : xl_W M rc rs pc2 L (.int (a >>> (b &&& 31)) :: st) h Po) : xl_W M rc rs pc L (.int b :: .int a :: st) h Po := by
  obtain ⟨d, rfl⟩ := d
  exact xl_go (fun hX k => lv_ishr hX.1 hX.2.1 d k) k
theorem xl_iushr {a b : Int32} (d : xl_D M pc .iushr 1 pc2) (k : xl_W M rc rs pc2 L (.int (a.toUInt32 >>> (b.toUInt32 &&& Int32.toUInt32 31)).toInt32 :: st) h Po) : xl_W M rc rs pc L (.int b :: .int a :: st) h Po := by
  obtain ⟨d, rfl⟩ := d
  exact xl_go (fun hX k => lv_iushr hX.1 hX.2.1 d rfl k) k
theorem xl_idiv {a b : Int32} (d : xl_D M pc .idiv 1 pc2) (hne : ¬ b = 0) (k : xl_W M rc rs pc2 L (.int (a / b) :: st) h Po) : xl_W M rc rs pc L (.int b :: .int a :: st) h Po := by
  obtain ⟨d, rfl⟩ := d
  exact xl_go (fun hX k => lv_idiv hX.1 hX.2.1 d hne k) k
theorem xl_irem {a b : Int32} (d : xl_D M pc .irem 1 pc2) (hne : ¬ b = 0) (k : xl_W M rc rs pc2 L (.int (a - a / b * b) :: st) h Po) : xl_W M rc rs pc L (.int b :: .int a :: st) h Po := by
  obtain ⟨d, rfl⟩ := d
  exact xl_go (fun hX k => lv_irem hX.1 hX.2.1 d hne k) k
theorem xl_ineg {a : Int32} (d : xl_D M pc .ineg 1 pc2) (k : xl_W M rc rs pc2 L (.int (-a) :: st) h Po) : xl_W M rc rs pc L (.int a :: st) h Po := by
  obtain ⟨d, rfl⟩ := d
  exact xl_go (fun hX k => lv_ineg hX.1 hX.2.1 d k) k
theorem xl_i2l {a : Int32} (d : xl_D M pc .i2l 1 pc2) (k : xl_W M rc rs pc2 L (.long a.toInt64 :: st) h Po) : xl_W M rc rs pc L (.int a :: st) h Po := by
  obtain ⟨d, rfl⟩ := d
  exact xl_go (fun hX k => lv_i2l hX.1 hX.2.1 d rfl k) k
theorem xl_lcmp {a b : Int64} (d : xl_D M pc .lcmp 1 pc2) (k : xl_W M rc rs pc2 L (.int (lg_cmp a b) :: st) h Po) : xl_W M rc rs pc L (.long b :: .long a :: st) h Po := by
  obtain ⟨d, rfl⟩ := d
  exact xl_go (fun hX k => W.lcmp hX.1 hX.2.1 d k) k
/-- of one word -/
def xl_1 : Value → Bool := fun v => match v with
  | .long _ => false
  | .double _ => false
  | _ => true
theorem xl_1c {v : Value} {ρ σ : Nat → Nat} (h : xl_1 v = true) : (xl_v ρ σ v).category = 1 := by
  cases v <;> first | rfl | cases h
theorem xl_dup {a : Value} (d : xl_D M pc .dup 1 pc2) (ha : xl_1 a = true) (k : xl_W M rc rs pc2 L (a :: a :: st) h Po) : xl_W M rc rs pc L (a :: st) h Po := by
  obtain ⟨d, rfl⟩ := d
  exact xl_go (fun hX k => lv_dup hX.1 hX.2.1 d (xl_1c ha) k) k
theorem xl_pop {a : Value} (d : xl_D M pc .pop 1 pc2) (ha : xl_1 a = true) (k : xl_W M rc rs pc2 L st h Po) : xl_W M rc rs pc L (a :: st) h Po := by
  obtain ⟨d, rfl⟩ := d
  exact xl_go (fun hX k => lv_pop hX.1 hX.2.1 d (xl_1c ha) k) k
theorem xl_dup2 {a b : Value} (d : xl_D M pc .dup2 1 pc2) (ha : xl_1 a = true) (hb : xl_1 b = true) (k : xl_W M rc rs pc2 L (a :: b :: a :: b :: st) h Po) : xl_W M rc rs pc L (a :: b :: st) h Po := by
  obtain ⟨d, rfl⟩ := d
  exact xl_go (fun hX k => lv_dup2_11 hX.1 hX.2.1 d (xl_1c ha) (xl_1c hb) k) k
theorem xl_goto (d : xl_J M pc (fun o => .goto o) pc2 tgt) (k : xl_W M rc rs tgt L st h Po) : xl_W M rc rs pc L st h Po := by
  obtain ⟨off, d, e1, -⟩ := d
  exact xl_go (fun hX k => lv_goto hX.1 hX.2.1 d e1 k) k
theorem xl_ifnonnull {a : Nat} (d : xl_J M pc (fun o => .ifnonnull o) pc2 tgt) (k : xl_W M rc rs tgt L st h Po) : xl_W M rc rs pc L (.ref a :: st) h Po := by
  obtain ⟨off, d, e1, -⟩ := d
  exact xl_go (fun hX k => lv_ifnonnull hX.1 hX.2.1 d e1 k) k
theorem xl_ifnull {a : Nat} (d : xl_J M pc (fun o => .ifnull o) pc2 tgt) (k : xl_W M rc rs pc2 L st h Po) : xl_W M rc rs pc L (.ref a :: st) h Po := by
  obtain ⟨off, d, e1, rfl⟩ := d
  exact xl_go (fun hX k => lv_ifnull hX.1 hX.2.1 d k) k
/-- a branch that is decided from what is known -/
theorem xl_if {P : Prop} {st2 : List Value} {t f : Nat} (g : ∀ {p : Program} {l : Launch} {e : Env} {R : Room} {s : State} {m : MethodId} {args : Array Value} {below : List Frame} {meth : Method} {c : Code} {H : Heap} {locs : List Loc} {cells slots : Nat} {Q : State → Prop} {ls : Array Slot} {ρ σ : Nat → Nat}, xl_X M l p R s m args meth c → (P → W p l e R s m args below meth c H locs cells slots Q (F0 m t ls (st2.map (xl_v ρ σ)))) → (¬ P → W p l e R s m args below meth c H locs cells slots Q (F0 m f ls (st2.map (xl_v ρ σ)))) → W p l e R s m args below meth c H locs cells slots Q (F0 m pc ls (st.map (xl_v ρ σ))))
    (kt : P → xl_W M rc rs t L st2 h Po) (kf : ¬ P → xl_W M rc rs f L st2 h Po) : xl_W M rc rs pc L st h Po := by
  intro p l e R s m args below meth c D aC ρ σ aV A H locs cells slots ls Q hX hH hL h1 h2 hr ht
  exact g hX (fun q => kt q p l e R s m args below meth c D aC ρ σ aV A H locs cells slots ls Q hX hH hL h1 h2 hr ht) (fun q => kf q p l e R s m args below meth c D aC ρ σ aV A H locs cells slots ls Q hX hH hL h1 h2 hr ht)
theorem xl_if_eq {a : Int32} (d : xl_J M pc (fun o => .ifCond .eq o) pc2 tgt) (kt : a = 0 → xl_W M rc rs tgt L st h Po) (kf : ¬ (a = 0) → xl_W M rc rs pc2 L st h Po) : xl_W M rc rs pc L (.int a :: st) h Po := by
  obtain ⟨off, d, e1, rfl⟩ := d
  exact xl_if (fun hX k1 k2 => lv_if_eq hX.1 hX.2.1 d e1 k1 k2) kt kf
theorem xl_icmp_eq {a b : Int32} (d : xl_J M pc (fun o => .if_icmp .eq o) pc2 tgt) (kt : a = b → xl_W M rc rs tgt L st h Po) (kf : ¬ (a = b) → xl_W M rc rs pc2 L st h Po) : xl_W M rc rs pc L (.int b :: .int a :: st) h Po := by
  obtain ⟨off, d, e1, rfl⟩ := d
  exact xl_if (fun hX k1 k2 => lv_icmp_eq hX.1 hX.2.1 d e1 k1 k2) kt kf
theorem xl_if_ne {a : Int32} (d : xl_J M pc (fun o => .ifCond .ne o) pc2 tgt) (kt : ¬ a = 0 → xl_W M rc rs tgt L st h Po) (kf : a = 0 → xl_W M rc rs pc2 L st h Po) : xl_W M rc rs pc L (.int a :: st) h Po := by
  obtain ⟨off, d, e1, rfl⟩ := d
  exact xl_if (P := ¬ a = 0) (fun hX k1 k2 => lv_if_ne hX.1 hX.2.1 d e1 k1 (fun q => k2 (fun z => z q))) kt (fun q => kf (Classical.not_not.mp q))
theorem xl_icmp_ne {a b : Int32} (d : xl_J M pc (fun o => .if_icmp .ne o) pc2 tgt) (kt : ¬ a = b → xl_W M rc rs tgt L st h Po) (kf : a = b → xl_W M rc rs pc2 L st h Po) : xl_W M rc rs pc L (.int b :: .int a :: st) h Po := by
  obtain ⟨off, d, e1, rfl⟩ := d
  exact xl_if (P := ¬ a = b) (fun hX k1 k2 => lv_icmp_ne hX.1 hX.2.1 d e1 k1 (fun q => k2 (fun z => z q))) kt (fun q => kf (Classical.not_not.mp q))
theorem xl_if_lt {a : Int32} (d : xl_J M pc (fun o => .ifCond .lt o) pc2 tgt) (kt : a < 0 → xl_W M rc rs tgt L st h Po) (kf : ¬ (a < 0) → xl_W M rc rs pc2 L st h Po) : xl_W M rc rs pc L (.int a :: st) h Po := by
  obtain ⟨off, d, e1, rfl⟩ := d
  exact xl_if (fun hX k1 k2 => lv_if_lt hX.1 hX.2.1 d e1 k1 k2) kt kf
theorem xl_icmp_lt {a b : Int32} (d : xl_J M pc (fun o => .if_icmp .lt o) pc2 tgt) (kt : a < b → xl_W M rc rs tgt L st h Po) (kf : ¬ (a < b) → xl_W M rc rs pc2 L st h Po) : xl_W M rc rs pc L (.int b :: .int a :: st) h Po := by
  obtain ⟨off, d, e1, rfl⟩ := d
  exact xl_if (fun hX k1 k2 => lv_icmp_lt hX.1 hX.2.1 d e1 k1 k2) kt kf
theorem xl_if_ge {a : Int32} (d : xl_J M pc (fun o => .ifCond .ge o) pc2 tgt) (kt : 0 ≤ a → xl_W M rc rs tgt L st h Po) (kf : ¬ (0 ≤ a) → xl_W M rc rs pc2 L st h Po) : xl_W M rc rs pc L (.int a :: st) h Po := by
  obtain ⟨off, d, e1, rfl⟩ := d
  exact xl_if (fun hX k1 k2 => lv_if_ge hX.1 hX.2.1 d e1 k1 k2) kt kf
theorem xl_icmp_ge {a b : Int32} (d : xl_J M pc (fun o => .if_icmp .ge o) pc2 tgt) (kt : b ≤ a → xl_W M rc rs tgt L st h Po) (kf : ¬ (b ≤ a) → xl_W M rc rs pc2 L st h Po) : xl_W M rc rs pc L (.int b :: .int a :: st) h Po := by
  obtain ⟨off, d, e1, rfl⟩ := d
  exact xl_if (fun hX k1 k2 => lv_icmp_ge hX.1 hX.2.1 d e1 k1 k2) kt kf
theorem xl_if_gt {a : Int32} (d : xl_J M pc (fun o => .ifCond .gt o) pc2 tgt) (kt : 0 < a → xl_W M rc rs tgt L st h Po) (kf : ¬ (0 < a) → xl_W M rc rs pc2 L st h Po) : xl_W M rc rs pc L (.int a :: st) h Po := by
  obtain ⟨off, d, e1, rfl⟩ := d
  exact xl_if (fun hX k1 k2 => lv_if_gt hX.1 hX.2.1 d e1 k1 k2) kt kf
theorem xl_icmp_gt {a b : Int32} (d : xl_J M pc (fun o => .if_icmp .gt o) pc2 tgt) (kt : b < a → xl_W M rc rs tgt L st h Po) (kf : ¬ (b < a) → xl_W M rc rs pc2 L st h Po) : xl_W M rc rs pc L (.int b :: .int a :: st) h Po := by
  obtain ⟨off, d, e1, rfl⟩ := d
  exact xl_if (fun hX k1 k2 => lv_icmp_gt hX.1 hX.2.1 d e1 k1 k2) kt kf
theorem xl_if_le {a : Int32} (d : xl_J M pc (fun o => .ifCond .le o) pc2 tgt) (kt : a ≤ 0 → xl_W M rc rs tgt L st h Po) (kf : ¬ (a ≤ 0) → xl_W M rc rs pc2 L st h Po) : xl_W M rc rs pc L (.int a :: st) h Po := by
  obtain ⟨off, d, e1, rfl⟩ := d
  exact xl_if (fun hX k1 k2 => lv_if_le hX.1 hX.2.1 d e1 k1 k2) kt kf
theorem xl_icmp_le {a b : Int32} (d : xl_J M pc (fun o => .if_icmp .le o) pc2 tgt) (kt : a ≤ b → xl_W M rc rs tgt L st h Po) (kf : ¬ (a ≤ b) → xl_W M rc rs pc2 L st h Po) : xl_W M rc rs pc L (.int b :: .int a :: st) h Po := by
  obtain ⟨off, d, e1, rfl⟩ := d
  exact xl_if (fun hX k1 k2 => lv_icmp_le hX.1 hX.2.1 d e1 k1 k2) kt kf
/-- loads: by the place -/
theorem xl_gl {v : Value} {i : Nat} (hl : xl_n L i = some (some v)) (f : ∀ {p : Program} {l : Launch} {e : Env} {R : Room} {s : State} {m : MethodId} {args : Array Value} {below : List Frame} {meth : Method} {c : Code} {H : Heap} {locs : List Loc} {cells slots : Nat} {Q : State → Prop} {ls : Array Slot} {ρ σ : Nat → Nat}, xl_X M l p R s m args meth c → ls[i]? = some (.val (xl_v ρ σ v)) → W p l e R s m args below meth c H locs cells slots Q (F0 m pc2 ls (st2.map (xl_v ρ σ))) → W p l e R s m args below meth c H locs cells slots Q (F0 m pc ls (st.map (xl_v ρ σ))))
    (k : xl_W M rc rs pc2 L st2 h Po) : xl_W M rc rs pc L st h Po := by
  intro p l e R s m args below meth c D aC ρ σ aV A H locs cells slots ls Q hX hH hL h1 h2 hr ht
  exact f hX (hL.2.2 i v hl) (k p l e R s m args below meth c D aC ρ σ aV A H locs cells slots ls Q hX hH hL h1 h2 hr ht)
theorem xl_iload {i : Nat} {a : Int32} (d : xl_D M pc (.iload i) 2 pc2) (hl : xl_n L i = some (some (.int a))) (k : xl_W M rc rs pc2 L (.int a :: st) h Po) : xl_W M rc rs pc L st h Po := by
  obtain ⟨d, rfl⟩ := d
  exact xl_gl hl (fun hX hl k => lv_iload hX.1 hX.2.1 d hl k) k
theorem xl_iload_n {i : Fin 4} {a : Int32} (d : xl_D M pc (.iload_n i) 1 pc2) (hl : xl_n L i.val = some (some (.int a))) (k : xl_W M rc rs pc2 L (.int a :: st) h Po) : xl_W M rc rs pc L st h Po := by
  obtain ⟨d, rfl⟩ := d
  exact xl_gl hl (fun hX hl k => lv_iload_n hX.1 hX.2.1 d rfl hl k) k
theorem xl_lload {i : Nat} {a : Int64} (d : xl_D M pc (.lload i) 2 pc2) (hl : xl_n L i = some (some (.long a))) (k : xl_W M rc rs pc2 L (.long a :: st) h Po) : xl_W M rc rs pc L st h Po := by
  obtain ⟨d, rfl⟩ := d
  exact xl_gl hl (fun hX hl k => lv_lload hX.1 hX.2.1 d hl k) k
theorem xl_lload_n {i : Fin 4} {a : Int64} (d : xl_D M pc (.lload_n i) 1 pc2) (hl : xl_n L i.val = some (some (.long a))) (k : xl_W M rc rs pc2 L (.long a :: st) h Po) : xl_W M rc rs pc L st h Po := by
  obtain ⟨d, rfl⟩ := d
  exact xl_gl hl (fun hX hl k => lv_lload_n hX.1 hX.2.1 d rfl hl k) k
theorem xl_aload {i : Nat} {a : Nat} (d : xl_D M pc (.aload i) 2 pc2) (hl : xl_n L i = some (some (.ref a))) (k : xl_W M rc rs pc2 L (.ref a :: st) h Po) : xl_W M rc rs pc L st h Po := by
  obtain ⟨d, rfl⟩ := d
  exact xl_gl hl (fun hX hl k => lv_aload hX.1 hX.2.1 d hl k) k
theorem xl_aload_n {i : Fin 4} {a : Nat} (d : xl_D M pc (.aload_n i) 1 pc2) (hl : xl_n L i.val = some (some (.ref a))) (k : xl_W M rc rs pc2 L (.ref a :: st) h Po) : xl_W M rc rs pc L st h Po := by
  obtain ⟨d, rfl⟩ := d
  exact xl_gl hl (fun hX hl k => lv_aload_n hX.1 hX.2.1 d rfl hl k) k
theorem xl_saload {i : Nat} {a : UInt32} (d : xl_D M pc (.aload i) 2 pc2) (hl : xl_n L i = some (some (.float a))) (k : xl_W M rc rs pc2 L (.float a :: st) h Po) : xl_W M rc rs pc L st h Po := by
  obtain ⟨d, rfl⟩ := d
  exact xl_gl hl (fun hX hl k => lv_aload hX.1 hX.2.1 d hl k) k
theorem xl_saload_n {i : Fin 4} {a : UInt32} (d : xl_D M pc (.aload_n i) 1 pc2) (hl : xl_n L i.val = some (some (.float a))) (k : xl_W M rc rs pc2 L (.float a :: st) h Po) : xl_W M rc rs pc L st h Po := by
  obtain ⟨d, rfl⟩ := d
  exact xl_gl hl (fun hX hl k => lv_aload_n hX.1 hX.2.1 d rfl hl k) k
/-- the places of a list of locals, as the kit's rows have them -/
def xl_p (ρ σ : Nat → Nat) (L : List (Option Value)) : List (Nat × Value) := (List.range L.length).filterMap (fun i => match xl_n L i with
  | some (some v) => some (i, xl_v ρ σ v)
  | _ => none)
theorem xl_p_mem {ρ σ : Nat → Nat} {L : List (Option Value)} {i : Nat} {w : Value} : (i, w) ∈ xl_p ρ σ L ↔ ∃ v, xl_n L i = some (some v) ∧ w = xl_v ρ σ v := by
  unfold xl_p
  rw [List.mem_filterMap]
  constructor
  · rintro ⟨j, -, hj⟩
    split at hj
    · next v hv => cases hj; exact ⟨v, hv, rfl⟩
    · cases hj
  · rintro ⟨v, hv, rfl⟩
    refine ⟨i, ?_, by rw [hv]⟩
    rw [List.mem_range]
    rw [xl_n_eq] at hv
    exact (List.getElem?_eq_some_iff.mp hv).1
theorem xl_L.has {ρ σ : Nat → Nat} {n : Nat} {ls : Array Slot} (hL : xl_L ρ σ n ls L) : lv_has ls n (xl_p ρ σ L) :=
  ⟨hL.1, hL.2.1, fun q hq => by
    obtain ⟨v, e1, e2⟩ := xl_p_mem.mp (show (q.1, q.2) ∈ xl_p ρ σ L from hq)
    rw [e2]
    exact hL.2.2 _ _ e1⟩
theorem xl_n_s {α : Type} : ∀ {l : List α} {k j : Nat} {b c : α}, xl_n (xl_s l k b) j = some c → (j = k ∧ c = b) ∨ (j ≠ k ∧ xl_n l j = some c)
  | [], k, j, b, c, e => by simp [xl_s, xl_n] at e
  | a :: l, 0, 0, b, c, e => Or.inl ⟨rfl, by simpa [xl_s, xl_n] using e.symm⟩
  | a :: l, 0, j + 1, b, c, e => Or.inr ⟨by omega, by simpa [xl_s, xl_n] using e⟩
  | a :: l, k + 1, 0, b, c, e => Or.inr ⟨by omega, by simpa [xl_s, xl_n] using e⟩
  | a :: l, k + 1, j + 1, b, c, e => by
    rcases xl_n_s (l := l) (k := k) (j := j) (b := b) (c := c) (by simpa [xl_s, xl_n] using e) with ⟨e1, e2⟩ | ⟨e1, e2⟩
    · exact Or.inl ⟨by omega, e2⟩
    · exact Or.inr ⟨by omega, by simpa [xl_n] using e2⟩
/-- no value of two words ends at a place -/
def xl_k : List (Option Value) → Nat → Bool
  | [], _ => true
  | _, 0 => true
  | a :: _, 1 => match a with
    | some v => xl_1 v
    | none => true
  | _ :: l, k + 2 => xl_k l (k + 1)
theorem xl_k_of : ∀ {L : List (Option Value)} {k : Nat} {v : Value}, xl_k L (k + 1) = true → xl_n L k = some (some v) → xl_1 v = true
  | [], k, v, h1, h2 => by simp [xl_n] at h2
  | a :: l, 0, v, h1, h2 => by
    simp [xl_n] at h2
    subst h2
    simpa [xl_k] using h1
  | a :: l, k + 1, v, h1, h2 => xl_k_of (L := l) (k := k) (by simpa [xl_k] using h1) (by simpa [xl_n] using h2)
theorem xl_1n {v : Value} {ρ σ : Nat → Nat} (h : xl_1 v = true) : ¬ (xl_v ρ σ v).category = 2 := by rw [xl_1c h]; decide
theorem xl_L.put {ρ σ : Nat → Nat} {n i : Nat} {ls : Array Slot} {v : Value} (hk : xl_k L i = true) (h1 : lv_has ls n ((i, xl_v ρ σ v) :: (xl_p ρ σ L).filter (fun q => !(q.1 == i) && !(q.1 + 1 == i && q.2.category == 2)))) : xl_L ρ σ n ls (xl_s L i (some v)) := by
  refine ⟨h1.1, h1.2.1, fun j w hw => ?_⟩
  rcases xl_n_s hw with ⟨rfl, e2⟩ | ⟨e1, e2⟩
  · cases e2
    exact h1.2.2 (_, xl_v ρ σ v) List.mem_cons_self
  · refine h1.2.2 (j, xl_v ρ σ w) (List.mem_cons_of_mem _ (List.mem_filter.mpr ⟨xl_p_mem.mpr ⟨w, e2, rfl⟩, ?_⟩))
    simp only [Bool.and_eq_true, Bool.not_eq_true', beq_eq_false_iff_ne, Bool.and_eq_false_iff, ne_eq]
    refine ⟨e1, ?_⟩
    by_cases hj : j + 1 = i
    · subst hj
      exact Or.inr (xl_1n (xl_k_of hk e2))
    · exact Or.inl hj
theorem xl_gs {v : Value} {i : Nat} (hk : xl_k L i = true) (hn : i < M.2.2.1) (f : ∀ {p : Program} {l : Launch} {e : Env} {R : Room} {s : State} {m : MethodId} {args : Array Value} {below : List Frame} {meth : Method} {c : Code} {H : Heap} {locs : List Loc} {cells slots : Nat} {Q : State → Prop} {ls : Array Slot} {ρ σ : Nat → Nat} {lv : List (Nat × Value)}, xl_X M l p R s m args meth c → lv_has ls M.2.2.1 lv → (∀ ls' : Array Slot, lv_has ls' M.2.2.1 ((i, xl_v ρ σ v) :: lv.filter (fun q => !(q.1 == i) && !(q.1 + 1 == i && q.2.category == 2))) → W p l e R s m args below meth c H locs cells slots Q (F0 m pc2 ls' (st2.map (xl_v ρ σ)))) → W p l e R s m args below meth c H locs cells slots Q (F0 m pc ls (st.map (xl_v ρ σ))))
    (k : xl_W M rc rs pc2 (xl_s L i (some v)) st2 h Po) : xl_W M rc rs pc L st h Po := by
  intro p l e R s m args below meth c D aC ρ σ aV A H locs cells slots ls Q hX hH hL h1 h2 hr ht
  exact f hX hL.has (fun ls' hl => k p l e R s m args below meth c D aC ρ σ aV A H locs cells slots ls' Q hX hH (xl_L.put hk hl) h1 h2 hr ht)
theorem xl_istore {i : Nat} {a : Int32} (d : xl_D M pc (.istore i) 2 pc2) (hk : xl_k L i = true) (hn : i < M.2.2.1) (k : xl_W M rc rs pc2 (xl_s L i (some (.int a))) st h Po) : xl_W M rc rs pc L (.int a :: st) h Po := by
  obtain ⟨d, rfl⟩ := d
  exact xl_gs (v := .int a) hk hn (fun hX hl k => lv_istore hX.1 hX.2.1 d hl hn rfl k) k
theorem xl_istore_n {i : Fin 4} {a : Int32} (d : xl_D M pc (.istore_n i) 1 pc2) (hk : xl_k L i.val = true) (hn : i.val < M.2.2.1) (k : xl_W M rc rs pc2 (xl_s L i.val (some (.int a))) st h Po) : xl_W M rc rs pc L (.int a :: st) h Po := by
  obtain ⟨d, rfl⟩ := d
  exact xl_gs (v := .int a) hk hn (fun hX hl k => lv_istore_n hX.1 hX.2.1 d rfl hl hn rfl k) k
theorem xl_astore {i : Nat} {a : Nat} (d : xl_D M pc (.astore i) 2 pc2) (hk : xl_k L i = true) (hn : i < M.2.2.1) (k : xl_W M rc rs pc2 (xl_s L i (some (.ref a))) st h Po) : xl_W M rc rs pc L (.ref a :: st) h Po := by
  obtain ⟨d, rfl⟩ := d
  exact xl_gs (v := .ref a) hk hn (fun hX hl k => lv_astore hX.1 hX.2.1 d hl hn rfl k) k
theorem xl_astore_n {i : Fin 4} {a : Nat} (d : xl_D M pc (.astore_n i) 1 pc2) (hk : xl_k L i.val = true) (hn : i.val < M.2.2.1) (k : xl_W M rc rs pc2 (xl_s L i.val (some (.ref a))) st h Po) : xl_W M rc rs pc L (.ref a :: st) h Po := by
  obtain ⟨d, rfl⟩ := d
  exact xl_gs (v := .ref a) hk hn (fun hX hl k => lv_astore_n hX.1 hX.2.1 d rfl hl hn rfl k) k
theorem xl_sastore {i : Nat} {a : UInt32} (d : xl_D M pc (.astore i) 2 pc2) (hk : xl_k L i = true) (hn : i < M.2.2.1) (k : xl_W M rc rs pc2 (xl_s L i (some (.float a))) st h Po) : xl_W M rc rs pc L (.float a :: st) h Po := by
  obtain ⟨d, rfl⟩ := d
  exact xl_gs (v := .float a) hk hn (fun hX hl k => lv_astore hX.1 hX.2.1 d hl hn rfl k) k
theorem xl_sastore_n {i : Fin 4} {a : UInt32} (d : xl_D M pc (.astore_n i) 1 pc2) (hk : xl_k L i.val = true) (hn : i.val < M.2.2.1) (k : xl_W M rc rs pc2 (xl_s L i.val (some (.float a))) st h Po) : xl_W M rc rs pc L (.float a :: st) h Po := by
  obtain ⟨d, rfl⟩ := d
  exact xl_gs (v := .float a) hk hn (fun hX hl k => lv_astore_n hX.1 hX.2.1 d rfl hl hn rfl k) k
theorem xl_iinc {i : Nat} {n : Int} {a : Int32} (d : xl_D M pc (.iinc i n) 3 pc2) (hl : xl_n L i = some (some (.int a))) (hk : xl_k L i = true) (hn : i < M.2.2.1) (k : xl_W M rc rs pc2 (xl_s L i (some (.int (a + Int32.ofInt n)))) st h Po) : xl_W M rc rs pc L st h Po := by
  obtain ⟨d, rfl⟩ := d
  intro p l e R s m args below meth c D aC ρ σ aV A H locs cells slots ls Q hX hH hL h1 h2 hr ht
  obtain ⟨q, hq⟩ := List.getElem?_of_mem (xl_p_mem.mpr ⟨_, hl, rfl⟩ : (i, xl_v ρ σ (.int a)) ∈ xl_p ρ σ L)
  exact lv_iinc hX.1 hX.2.1 d hL.has hq rfl hn rfl (fun ls' hl => k p l e R s m args below meth c D aC ρ σ aV A H locs cells slots ls' Q hX hH (xl_L.put (v := .int (a + Int32.ofInt n)) hk hl) h1 h2 hr ht)
/-- a method's end -/
theorem xl_ret {v : Option Value} (hP : Po (some v) h) (d : xl_R M pc v) : xl_W M rc rs pc L v.toList h Po := by
  intro p l e R s m args below meth c D aC ρ σ aV A H locs cells slots ls Q hX hH hL h1 h2 hr ht
  exact hr v h H locs pc cells slots ls hP hH d (by omega) (by omega)
theorem xl_thr (hP : Po none h) (d : xl_Y M pc) : xl_W M (rc + 1) (rs + 6) pc L [] h Po := by
  intro p l e R s m args below meth c D aC ρ σ aV A H locs cells slots ls Q hX hH hL h1 h2 hr ht
  exact ht h H locs pc cells slots ls hP hH d (by omega) (by omega) hL.1
theorem xl_ireturn {a : Int32} (d : xl_D M pc .ireturn 1 pc2) (hr : M.2.2.2.1 = some .int) (hP : Po (some (some (.int a))) h) : xl_W M rc rs pc L [.int a] h Po :=
  xl_ret (v := some (.int a)) hP ⟨⟨.int, hr, rfl⟩, d.1⟩
theorem xl_zreturn {a : Int32} (d : xl_D M pc .ireturn 1 pc2) (hr : M.2.2.2.1 = some .boolean) (h01 : a = 0 ∨ a = 1) (hP : Po (some (some (.int a))) h) : xl_W M rc rs pc L [.int a] h Po :=
  xl_ret (v := some (.int a)) hP ⟨⟨.boolean, hr, by rcases h01 with rfl | rfl <;> decide⟩, d.1⟩
theorem xl_lreturn {a : Int64} (d : xl_D M pc .lreturn 1 pc2) (hr : M.2.2.2.1 = some .long) (hP : Po (some (some (.long a))) h) : xl_W M rc rs pc L [.long a] h Po :=
  xl_ret (v := some (.long a)) hP ⟨hr, d.1⟩
theorem xl_sreturn {a : UInt32} {n : String} (d : xl_D M pc .areturn 1 pc2) (hr : M.2.2.2.1 = some (.object n)) (hP : Po (some (some (.float a))) h) : xl_W M rc rs pc L [.float a] h Po :=
  xl_ret (v := some (.float a)) hP ⟨⟨n, hr⟩, d.1⟩
theorem xl_return (d : xl_D M pc .return_ 1 pc2) (hr : M.2.2.2.1 = none) (hP : Po (some none) h) : xl_W M rc rs pc L [] h Po :=
  xl_ret (v := none) hP ⟨hr, d.1⟩
/-- fields: class number, field number -/
def xl_F (own : String) (i ci k : Nat) : Prop := ∃ (C : String) (T : u_T) (N : Nat), vwCl[ci]? = some (C, T, N) ∧ k < N ∧ (∀ w ∈ u_ws C T N, w ∈ xl_T) ∧ Cond.fieldLink own i (T k).1 (T k).2.1 (T k).2.2.1 ∈ xl_T
def xl_Fp (own : String) (i ci k : Nat) (ty : FieldType) : Prop := ∃ (C : String) (T : u_T) (N : Nat) (ty0 : Nat → FieldType), vwCl[ci]? = some (C, T, N) ∧ k < N ∧ (∀ w ∈ u_ws C T N, w ∈ xl_T) ∧ Cond.fieldLink own i (T k).1 (T k).2.1 (T k).2.2.1 ∈ xl_T ∧ (∀ k, k < N → parseFieldDescriptor (T k).2.2.1 = some (ty0 k)) ∧ (∀ a, a < N → ∀ b, b < N → a ≠ b → (T a).2.1 ≠ (T b).2.1) ∧ (T k).2.2.2 = false ∧ parseFieldDescriptor (T k).2.2.1 = some ty
def xl_G (M : XI) (pc ci k pc2 : Nat) : Prop := ∃ i, decode M.2.1 pc = .ok (.getfield i, 3) ∧ pc + 3 = pc2 ∧ xl_F M.1.cls i ci k
def xl_P (M : XI) (pc ci k : Nat) (ty : FieldType) (pc2 : Nat) : Prop := ∃ i, decode M.2.1 pc = .ok (.putfield i, 3) ∧ pc + 3 = pc2 ∧ xl_Fp M.1.cls i ci k ty
/-- a value out of a cell at a place -/
def xl_o (r : Nat) : Value → Value := fun v => match v with
  | .ref d => .ref (r + d)
  | .int a => .int a
  | .long a => .long a
  | .float a => .float a
  | .double a => .double a
  | .null => .null
  | .retAddr a => .retAddr a
theorem xl_o_v {ρ σ : Nat → Nat} {r : Nat} {v : Value} : xl_v ρ σ (xl_o r v) = xl_v (fun d => ρ (r + d)) σ v := by cases v <;> rfl
theorem xl_get {ci k r : Nat} {fs : List Value} {v : Value} (d : xl_G M pc ci k pc2) (hh : xl_n h r = some (.inr (ci, fs))) (hf : xl_n fs k = some v) (kk : xl_W M rc rs pc2 L (xl_o r v :: st) h Po) : xl_W M rc rs pc L (.ref r :: st) h Po := by
  obtain ⟨i, d, rfl, C, T, N, e1, e2, e3, e4⟩ := d
  intro p l e R s m args below meth c D aC ρ σ aV A H locs cells slots ls Q hX hH hL h1 h2 hr ht
  obtain ⟨hK, hP, hD, hS, hE, hA⟩ := id hH
  rw [xl_n_eq] at hh hf
  have hv : (fs.map (xl_v (fun d => ρ (r + d)) σ))[k]? = some (xl_v (fun d => ρ (r + d)) σ v) := by rw [List.getElem?_map, hf]; rfl
  refine va_get hX.1 hX.2.1 hX.2.2.2.2.2.1 e3 hX.2.2.2.2.1 hK hP r (xl_w_of hh) e1 k e2 (hX.2.2.2.2.2.1 _ e4) (fun _ h9 => h9) hv d ?_
  rw [← xl_o_v]
  exact kk p l e R s m args below meth c D aC ρ σ aV A H locs cells slots ls Q hX hH hL h1 h2 hr ht
theorem xl_put {ci k r : Nat} {fs : List Value} {a : Int32} (d : xl_P M pc ci k .int pc2) (hh : xl_n h r = some (.inr (ci, fs))) (hf : k < fs.length) (kk : xl_W M rc rs pc2 L st (xl_s h r (.inr (ci, xl_s fs k (.int a)))) Po) : xl_W M rc rs pc L (.int a :: .ref r :: st) h Po := by
  obtain ⟨i, d, rfl, C, T, N, ty0, e1, e2, e3, e4, e5, e6, e7, e8⟩ := d
  intro p l e R s m args below meth c D aC ρ σ aV A H locs cells slots ls Q hX hH hL h1 h2 hr ht
  obtain ⟨hK, hP, hD, hS, hE, hA⟩ := id hH
  rw [xl_n_eq] at hh
  refine va_put hX.1 hX.2.1 hX.2.2.2.2.2.1 e3 ty0 e5 e6 hX.2.2.2.2.1 hK hP hD hS r (xl_w_of hh) e1 k e2 (hX.2.2.2.2.2.1 _ e4) (fun _ h9 => h9) e7 e8 (v := .int a) rfl rfl (by rw [List.length_map]; exact hf) d (fun H1 locs1 hP1 hD1 hS1 => ?_)
  have ew : (xl_w aC ρ σ h).set r (ρ r, Sum.inr (ci, (fs.map (xl_v (fun d => ρ (r + d)) σ)).set k (.int a))) = xl_w aC ρ σ (xl_s h r (.inr (ci, xl_s fs k (.int a)))) := by
    rw [xl_s_eq, xl_s_eq, ← xl_w_set]
    show _ = (xl_w aC ρ σ h).set r (ρ r, Sum.inr (ci, (fs.set k (.int a)).map (xl_v (fun d => ρ (r + d)) σ)))
    rw [List.map_set]
    rfl
  rw [ew] at hP1 hD1
  exact kk p l e R s m args below meth c D aC ρ σ aV A H1 locs1 cells slots ls Q hX ⟨hK, hP1, hD1, hS1, hE, hA⟩ hL h1 h2 hr ht
/-- arrays -/
theorem xl_iald {r n : Nat} {f : Nat → Int32} {i : Int32} (d : xl_D M pc .iaload 1 pc2) (hh : xl_n h r = some (.inl (0, n, .inl f))) (hin : vp_in i n) (kk : xl_W M rc rs pc2 L (.int (f i.toNatClampNeg) :: st) h Po) : xl_W M rc rs pc L (.int i :: .ref r :: st) h Po := by
  obtain ⟨d, rfl⟩ := d
  intro p l e R s m args below meth c D aC ρ σ aV A H locs cells slots ls Q hX hH hL h1 h2 hr ht
  obtain ⟨hK, hP, hD, hS, hE, hA⟩ := id hH
  rw [xl_n_eq] at hh
  exact va_iald hX.1 hX.2.1 hK hP r 0 (xl_w_of hh) rfl hin d (kk p l e R s m args below meth c D aC ρ σ aV A H locs cells slots ls Q hX hH hL h1 h2 hr ht)
theorem xl_lald {r n : Nat} {f : Nat → Int64} {i : Int32} (d : xl_D M pc .laload 1 pc2) (hh : xl_n h r = some (.inl (1, n, .inr (.inl f)))) (hin : vp_in i n) (kk : xl_W M rc rs pc2 L (.long (f i.toNatClampNeg) :: st) h Po) : xl_W M rc rs pc L (.int i :: .ref r :: st) h Po := by
  obtain ⟨d, rfl⟩ := d
  intro p l e R s m args below meth c D aC ρ σ aV A H locs cells slots ls Q hX hH hL h1 h2 hr ht
  obtain ⟨hK, hP, hD, hS, hE, hA⟩ := id hH
  rw [xl_n_eq] at hh
  exact va_lald hX.1 hX.2.1 hK hP r 1 (xl_w_of hh) rfl hin d (kk p l e R s m args below meth c D aC ρ σ aV A H locs cells slots ls Q hX hH hL h1 h2 hr ht)
theorem xl_zald {r n : Nat} {f : Nat → Int32} {i : Int32} (d : xl_D M pc .baload 1 pc2) (hh : xl_n h r = some (.inl (2, n, .inl f))) (hin : vp_in i n) (kk : xl_W M rc rs pc2 L (.int (f i.toNatClampNeg) :: st) h Po) : xl_W M rc rs pc L (.int i :: .ref r :: st) h Po := by
  obtain ⟨d, rfl⟩ := d
  intro p l e R s m args below meth c D aC ρ σ aV A H locs cells slots ls Q hX hH hL h1 h2 hr ht
  obtain ⟨hK, hP, hD, hS, hE, hA⟩ := id hH
  rw [xl_n_eq] at hh
  exact va_zald hX.1 hX.2.1 hK hP r 2 (xl_w_of hh) rfl hin d (kk p l e R s m args below meth c D aC ρ σ aV A H locs cells slots ls Q hX hH hL h1 h2 hr ht)
theorem xl_aald {r n q : Nat} {f : Nat → Option Nat} {i : Int32} (d : xl_D M pc .aaload 1 pc2) (hh : xl_n h r = some (.inl (3, n, .inr (.inr (.inr (.inr f)))))) (hin : vp_in i n) (hq : f i.toNatClampNeg = some q) (kk : xl_W M rc rs pc2 L (.ref (r + q) :: st) h Po) : xl_W M rc rs pc L (.int i :: .ref r :: st) h Po := by
  obtain ⟨d, rfl⟩ := d
  intro p l e R s m args below meth c D aC ρ σ aV A H locs cells slots ls Q hX hH hL h1 h2 hr ht
  obtain ⟨hK, hP, hD, hS, hE, hA⟩ := id hH
  rw [xl_n_eq] at hh
  refine va_aldq hX.1 hX.2.1 hK hP r 3 (xl_w_of hh) rfl hin d ?_
  rw [show va_rf ((f i.toNatClampNeg).map (fun d => ρ (r + d))) = .ref (ρ (r + q)) by rw [hq]; rfl]
  exact kk p l e R s m args below meth c D aC ρ σ aV A H locs cells slots ls Q hX hH hL h1 h2 hr ht
theorem xl_alen {r n : Nat} {t : Nat} {a : (Nat → Int32) ⊕ (Nat → Int64) ⊕ (Nat → UInt32) ⊕ (Nat → UInt64) ⊕ (Nat → Option Nat)} (d : xl_D M pc .arraylength 1 pc2) (hh : xl_n h r = some (.inl (t, n, a))) (ht4 : t < 4) (kk : xl_W M rc rs pc2 L (.int (nI n) :: st) h Po) : xl_W M rc rs pc L (.ref r :: st) h Po := by
  obtain ⟨d, rfl⟩ := d
  intro p l e R s m args below meth c D aC ρ σ aV A H locs cells slots ls Q hX hH hL h1 h2 hr ht
  obtain ⟨hK, hP, hD, hS, hE, hA⟩ := id hH
  rw [xl_n_eq] at hh
  have kk := kk p l e R s m args below meth c D aC ρ σ aV A H locs cells slots ls Q hX hH hL h1 h2 hr ht
  match t, ht4, hh with
  | 0, _, hh => exact va_alen hX.1 hX.2.1 hK hP r 0 (xl_w_of hh) rfl rfl d kk
  | 1, _, hh => exact va_alen hX.1 hX.2.1 hK hP r 1 (xl_w_of hh) rfl rfl d kk
  | 2, _, hh => exact va_alen hX.1 hX.2.1 hK hP r 2 (xl_w_of hh) rfl rfl d kk
  | 3, _, hh => exact va_alen hX.1 hX.2.1 hK hP r 3 (xl_w_of hh) rfl rfl d kk
theorem xl_iast {r n : Nat} {f : Nat → Int32} {i a : Int32} (d : xl_D M pc .iastore 1 pc2) (hh : xl_n h r = some (.inl (0, n, .inl f))) (hin : vp_in i n) (kk : xl_W M rc rs pc2 L st (xl_s h r (.inl (0, n, .inl (upd f i.toNatClampNeg a)))) Po) : xl_W M rc rs pc L (.int a :: .int i :: .ref r :: st) h Po := by
  obtain ⟨d, rfl⟩ := d
  intro p l e R s m args below meth c D aC ρ σ aV A H locs cells slots ls Q hX hH hL h1 h2 hr ht
  obtain ⟨hK, hP, hD, hS, hE, hA⟩ := id hH
  rw [xl_n_eq] at hh
  refine va_iast hX.1 hX.2.1 hK hP hD hS r 0 (xl_w_of hh) rfl hin d (fun H1 locs1 hP1 hD1 hS1 => ?_)
  exact kk p l e R s m args below meth c D aC ρ σ aV A H1 locs1 cells slots ls Q hX ⟨hK, by rw [xl_w_s]; exact hP1, by rw [xl_w_s]; exact hD1, hS1, hE, hA⟩ hL h1 h2 hr ht
theorem xl_last {r n : Nat} {f : Nat → Int64} {i : Int32} {a : Int64} (d : xl_D M pc .lastore 1 pc2) (hh : xl_n h r = some (.inl (1, n, .inr (.inl f)))) (hin : vp_in i n) (kk : xl_W M rc rs pc2 L st (xl_s h r (.inl (1, n, .inr (.inl (vp_updL f i.toNatClampNeg a))))) Po) : xl_W M rc rs pc L (.long a :: .int i :: .ref r :: st) h Po := by
  obtain ⟨d, rfl⟩ := d
  intro p l e R s m args below meth c D aC ρ σ aV A H locs cells slots ls Q hX hH hL h1 h2 hr ht
  obtain ⟨hK, hP, hD, hS, hE, hA⟩ := id hH
  rw [xl_n_eq] at hh
  refine va_last hX.1 hX.2.1 hK hP hD hS r 1 (xl_w_of hh) rfl hin d (fun H1 locs1 hP1 hD1 hS1 => ?_)
  exact kk p l e R s m args below meth c D aC ρ σ aV A H1 locs1 cells slots ls Q hX ⟨hK, by rw [xl_w_s]; exact hP1, by rw [xl_w_s]; exact hD1, hS1, hE, hA⟩ hL h1 h2 hr ht
theorem xl_zast {r n : Nat} {f : Nat → Int32} {i a : Int32} (d : xl_D M pc .bastore 1 pc2) (hh : xl_n h r = some (.inl (2, n, .inl f))) (hin : vp_in i n) (kk : xl_W M rc rs pc2 L st (xl_s h r (.inl (2, n, .inl (upd f i.toNatClampNeg (vp_nar .boolean a))))) Po) : xl_W M rc rs pc L (.int a :: .int i :: .ref r :: st) h Po := by
  obtain ⟨d, rfl⟩ := d
  intro p l e R s m args below meth c D aC ρ σ aV A H locs cells slots ls Q hX hH hL h1 h2 hr ht
  obtain ⟨hK, hP, hD, hS, hE, hA⟩ := id hH
  rw [xl_n_eq] at hh
  refine va_zast hX.1 hX.2.1 hK hP hD hS r 2 (xl_w_of hh) rfl hin d (fun H1 locs1 hP1 hD1 hS1 => ?_)
  exact kk p l e R s m args below meth c D aC ρ σ aV A H1 locs1 cells slots ls Q hX ⟨hK, by rw [xl_w_s]; exact hP1, by rw [xl_w_s]; exact hD1, hS1, hE, hA⟩ hL h1 h2 hr ht
/-- contracts -/
def xl_ws (μ : XI) : List Cond := .code μ.1 μ.2.1 μ.2.2.1 μ.2.2.2.1 :: xl_T
def xl_rm (μ : XI) (mc ms : Nat) : Room := { frames := μ.2.2.2.2.1, cells := mc, slots := ms, locals := μ.2.2.2.2.2.1 }
def xl_Pc (D : va_G) (aC : Nat → ClassId) (ρ σ aV : Nat → Nat) (sz : Nat) (As : List Value) (h : XH) : Array Value → State → Prop :=
  va_Pc (As.map (xl_v ρ σ)) (fun U => U.heap.size = sz ∧ va_P D vwCl (xl_w aC ρ σ h) U.heap ∧ va_K D vwCl (xl_ty aC) U ∧ va_D (fun _ => True) (xl_w aC ρ σ h) ∧ xl_S σ aV (va_A (xl_w aC ρ σ h) sz) U U.heap)
def xl_Qc (D : va_G) (aC : Nat → ClassId) (ρ σ : Nat → Nat) (A : Nat → Prop) (Po : Option Value → XH → Prop) : Array Value → State → Outcome → State → Prop := fun _ st oc t =>
  (∃ (v : Option Value) (h' : XH), oc = .returned (v.map (xl_v ρ σ)) ∧ Po v h' ∧ va_P D vwCl (xl_w aC ρ σ h') t.heap ∧ va_K D vwCl (xl_ty aC) t ∧ va_D A (xl_w aC ρ σ h')) ∧ va_F A st t
def xl_C (μ : XI) (mc ms : Nat) (As : List Value) (h : XH) (Po : Option Value → XH → Prop) : Prop :=
  ∀ (l : Launch), l.flags = flags0 → ∀ (D : va_G) (aC : Nat → ClassId) (ρ σ aV : Nat → Nat) (sz : Nat), Met l μ.1 (xl_ws μ) (xl_rm μ mc ms) (xl_Pc D aC ρ σ aV sz As h) (xl_Qc D aC ρ σ (va_A (xl_w aC ρ σ h) sz) Po) mc ms (va_A (xl_w aC ρ σ h) sz)
/-- what the tables say of a method -/
def xl_K (μ : XI) : Prop := plainName μ.1.cls = true ∧ Cond.code μ.1 μ.2.1 μ.2.2.1 μ.2.2.2.1 ∈ xl_T ∧ Cond.initialized μ.1.cls ∈ xl_T ∧ μ.1.cls ≠ "java/lang/invoke/MethodHandle" ∧ μ.1.cls ≠ "java/lang/invoke/VarHandle" ∧ (parseMethodDescriptor μ.1.desc).map (fun d => d.parameters.length) = some μ.2.2.2.2.2.2
def xl_V (μ : XI) : Prop := xl_K μ ∧ Cond.instanceMethod μ.1 ∈ xl_T ∧ Cond.selects μ.1.cls μ.1 μ.1 ∈ xl_T
def xl_U (μ : XI) : Prop := xl_K μ ∧ Cond.static μ.1 ∈ xl_T
/-- the locals at the entry -/
def xl_e : List Value → Nat → List (Option Value)
  | [], n => List.replicate n none
  | v :: vs, n => if xl_1 v = true then some v :: xl_e vs (n - 1) else some v :: none :: xl_e vs (n - 2)
def xl_z : List Value → Nat
  | [] => 0
  | v :: vs => (if xl_1 v = true then 1 else 2) + xl_z vs
theorem xl_1d {v : Value} {ρ σ : Nat → Nat} (h : ¬ xl_1 v = true) : (xl_v ρ σ v).category = 2 := by
  cases v <;> first | rfl | exact absurd rfl h
theorem xl_z_eq {ρ σ : Nat → Nat} : ∀ (As : List Value), (lg_sl (As.map (xl_v ρ σ))).length = xl_z As
  | [] => rfl
  | v :: vs => by
    have ih := xl_z_eq (ρ := ρ) (σ := σ) vs
    by_cases hv : xl_1 v = true
    · have hc := xl_1c (ρ := ρ) (σ := σ) hv
      simp only [lg_sl, List.map_cons, List.flatMap_cons, List.length_append] at ih ⊢
      rw [ih]
      simp [xl_z, hv, hc]
    · have hc := xl_1d (ρ := ρ) (σ := σ) hv
      simp only [lg_sl, List.map_cons, List.flatMap_cons, List.length_append] at ih ⊢
      rw [ih]
      simp [xl_z, hv, hc]
theorem xl_e_in {ρ σ : Nat → Nat} : ∀ (As : List Value) (n b i : Nat) (v : Value), xl_n (xl_e As n) i = some (some v) → (b + i, xl_v ρ σ v) ∈ lv_args b (As.map (xl_v ρ σ))
  | [], n, b, i, v, e => by
    rw [xl_n_eq, xl_e, List.getElem?_replicate] at e
    split at e <;> simp at e
  | w :: vs, n, b, i, v, e => by
    by_cases hv : xl_1 w = true
    · have hc := xl_1c (ρ := ρ) (σ := σ) hv
      rw [xl_e, if_pos hv] at e
      simp only [List.map_cons, lv_args]
      cases i with
      | zero =>
        simp [xl_n] at e
        subst e
        exact List.mem_cons_self
      | succ i =>
        have := xl_e_in (ρ := ρ) (σ := σ) vs (n - 1) (b + 1) i v (by simpa [xl_n] using e)
        rw [if_neg (by rw [hc]; decide)]
        refine List.mem_cons_of_mem _ ?_
        rw [show b + (i + 1) = b + 1 + i by omega]
        exact this
    · have hc := xl_1d (ρ := ρ) (σ := σ) hv
      rw [xl_e, if_neg hv] at e
      simp only [List.map_cons, lv_args]
      match i, e with
      | 0, e =>
        simp [xl_n] at e
        subst e
        exact List.mem_cons_self
      | 1, e => simp [xl_n] at e
      | i + 2, e =>
        have := xl_e_in (ρ := ρ) (σ := σ) vs (n - 2) (b + 2) i v (by simpa [xl_n] using e)
        rw [if_pos hc]
        refine List.mem_cons_of_mem _ ?_
        rw [show b + (i + 2) = b + 2 + i by omega]
        exact this
end XL
section XC
variable {μ : XI} {mc ms : Nat} {As : List Value} {h : XH} {Po : Option Value → XH → Prop}
/-- a contract out of the walk of its body -/
theorem xl_con (hk : xl_K μ) (L0 : List (Option Value)) (he : xl_e As μ.2.2.1 = L0) (hz : xl_z As ≤ μ.2.2.1) (hW : xl_W μ mc ms 0 L0 [] h (fun v h' => ∃ w, v = some w ∧ Po w h')) : xl_C μ mc ms As h Po := by
  intro l hl D aC ρ σ aV sz
  refine Met.ofW (cc := μ.2.1) (maxL := μ.2.2.1) (ret := μ.2.2.2.1) hk.1 rfl ?_
  intro p e s m args below meth c s₁ B hml hv
  obtain ⟨rfl, hsz, hP, hK, hD0, hE⟩ := hv
  have hts := atoms_spec (ws := xl_ws μ) B.pre
  have hown : s.vm.findClass μ.1.cls = some m.cls := findClass_of_methodNamed B.named
  have hlocks := B.notSynchronized
  subst hsz
  have hD := hD0.self (sz := s.heap.size)
  generalize hAe : va_A (xl_w aC ρ σ h) s.heap.size = A at hD hE ⊢
  have hA : ∀ q : Nat, s.heap.size ≤ q → A q := fun q h => by rw [← hAe]; exact Or.inr h
  have hS : va_S A s.heap s.heap [] := va_S.rf
  have hl0 := lv_entry (As.map (xl_v ρ σ)) (n := μ.2.2.1) (by rw [xl_z_eq]; exact hz)
  rw [lg_entry_eq]
  refine hW p l e _ s m _ below meth c D aC ρ σ aV A s.heap [] 0 0 _ _ ⟨B.exec, B.bytes, B.returns, hml, hown, fun w hw => hts w (List.mem_cons_of_mem _ hw), hlocks, Nat.le_refl _, Nat.le_refl _, hl⟩ ⟨hK, hP, hD, hS, hE, hA⟩ ⟨hl0.1, hl0.2.1, fun i v hi => ?_⟩ (by show 0 + mc ≤ mc; omega) (by show 0 + ms ≤ ms; omega) ?_ ?_
  · rw [← he] at hi
    have := xl_e_in (ρ := ρ) (σ := σ) As μ.2.2.1 0 i v hi
    rw [Nat.zero_add] at this
    exact hl0.2.2 _ this
  · intro v h' H' locs' pc' cells' slots' ls' hPo hH' hR hc1 hc2
    obtain ⟨w, ew, hPo⟩ := hPo
    cases ew
    obtain ⟨hK', hP', hD', hS', hE', hA'⟩ := hH'
    refine W.widen (k := mc) (n := ms) (by omega) (by omega) ?_
    have fin : ∀ t : State, t.heap = H' → s.WarmedH t.vm → xl_Qc D aC ρ σ A Po (As.map (xl_v ρ σ)).toArray s (.returned (v.map (xl_v ρ σ))) t := fun t ht hW => ⟨⟨v, h', rfl, hPo, by rw [ht]; exact hP', va_K.moved hW.alike hK', hD'⟩, hS'.F ht⟩
    match v, hR, fin with
    | none, hR, fin => exact W.vret B.exec B.bytes (B.returns.trans hR.1) fin hS'.2.2 hR.2 hlocks
    | some (.int a), hR, fin =>
      obtain ⟨⟨ty, e1, e2⟩, e3⟩ := hR
      exact W.zret B.exec B.bytes (B.returns.trans e1) e2 fin hS'.2.2 e3 hlocks
    | some (.long a), hR, fin => exact W.lret B.exec B.bytes (B.returns.trans hR.1) fin hS'.2.2 hR.2 hlocks
    | some (.float a), hR, fin =>
      obtain ⟨⟨n, e1⟩, e3⟩ := hR
      exact W.aret B.exec B.bytes (B.returns.trans e1) (Or.inl ⟨n, rfl⟩) (Or.inr ⟨_, rfl⟩) fin hS'.2.2 e3 hlocks
  · intro h' H' locs' pc' cells' slots' ls' hPo
    obtain ⟨w, ew, -⟩ := hPo
    cases ew
end XC
end
section
/-! ===== calls: a callee sees a piece of the caller's cells, by a map of places ===== -/
/-- a call's instruction, its link, its room -/
def xl_Ca (M : XI) (pc : Nat) (μ : XI) (pc2 : Nat) : Prop := ∃ i, decode M.2.1 pc = .ok (.invokevirtual i, 3) ∧ pc + 3 = pc2 ∧ Cond.methodLink M.1.cls i μ.1 ∈ xl_T ∧ μ.2.2.2.2.1 + 1 ≤ M.2.2.2.2.1 ∧ 8 + (μ.2.2.1 + 11) + μ.2.2.2.2.2.1 ≤ M.2.2.2.2.2.1
def xl_Cs (M : XI) (pc : Nat) (μ : XI) (pc2 : Nat) : Prop := ∃ i, decode M.2.1 pc = .ok (.invokestatic i, 3) ∧ pc + 3 = pc2 ∧ Cond.methodLink M.1.cls i μ.1 ∈ xl_T ∧ μ.2.2.2.2.1 + 1 ≤ M.2.2.2.2.1 ∧ 8 + (μ.2.2.1 + 11) + μ.2.2.2.2.2.1 ≤ M.2.2.2.2.2.1
theorem xl_good (μ : XI) (hk : xl_K μ) : GoodIn xl_T (xl_ws μ) := by
  intro w hw
  have hm : w ∈ xl_T := by
    rcases List.mem_cons.mp hw with rfl | h
    · exact hk.2.1
    · exact h
  exact ⟨hm, good_of_word (xl_Tg w hm)⟩
theorem xl_callB {M μ : XI} {R : Room} {s : State} {args : Array Value} {i mc ms : Nat} (hts : ∀ w ∈ xl_T, w.before args s = true) (hk : xl_K μ) (hl : Cond.methodLink M.1.cls i μ.1 ∈ xl_T) (h1 : μ.2.2.2.2.1 + 1 ≤ R.frames) (h2 : 8 + (μ.2.2.1 + 11) + μ.2.2.2.2.2.1 ≤ R.locals) :
    CallB R s args M.1.cls i μ.1 μ.2.1 μ.2.2.1 μ.2.2.2.1 (xl_ws μ) (xl_rm μ mc ms) mc ms μ.2.2.2.2.2.2 :=
  callB_of _ hts (xl_good μ hk) rfl rfl rfl (hts _ hk.2.2.1) (hts _ hl) hk.2.2.2 ⟨h1, h2⟩
/-- the callee's cells among the caller's -/
def xl_pi (π : Nat → Nat) (h hl : XH) : Prop := (∀ i j, i < hl.length → j < hl.length → π i = π j → i = j) ∧ (∀ j, j < hl.length → h[π j]? = hl[j]? ∧ π j < h.length)
/-- what a cell means is the same on both sides -/
def xl_ok (π : Nat → Nat) (j : Nat) (c : XE) : Prop := ∀ (aC : Nat → ClassId) (ρ σ : Nat → Nat), xl_c aC (fun k => ρ (π k)) σ j c = xl_c aC ρ σ (π j) c
theorem xl_ok_add (r j : Nat) (c : XE) : xl_ok (fun k => r + k) j c := by
  intro aC ρ σ
  cases c with
  | inl a => 
    obtain ⟨t, n, f | f | f | f | f⟩ := a <;> first | rfl | (simp only [xl_c, xl_a, Nat.add_assoc])
  | inr o => simp only [xl_c, Nat.add_assoc]
/-- the caller's cells behind a call -/
def xl_back (π : Nat → Nat) (n : Nat) (h h' h1 : XH) : Prop := h1.length = h.length ∧ (∀ j, j < n → h1[π j]? = h'[j]?) ∧ ∀ k, (∀ j, j < n → π j ≠ k) → h1[k]? = h[k]?
section XCC
variable {p : Program} {l : Launch} {e : Env} {R : Room} {s : State} {m : MethodId} {args : Array Value} {below : List Frame} {meth : Method} {c : Code} {H : Heap} {locs : List Loc} {cells slots : Nat} {Q : State → Prop}
theorem xl_after {pc mc ms : Nat} {ls : Array Slot} {rest st0 : List Value} {a : Array Value} {A0 A1 free : Nat → Prop} {D : va_G} {aC : Nat → ClassId} {ρ σ : Nat → Nat} {Po : Option Value → XH → Prop}
    (hr : va_Run p l e R s m args below meth c H locs cells slots mc ms (F0 m pc ls st0) rest (xl_Qc D aC ρ σ A1 Po a) free) (hS : va_S A0 s.heap H locs) (hA : ∀ q, q < H.size → A1 q → A0 q) (hf : ∀ q, free q → A0 q)
    (kk : ∀ (v : Option Value) (h' : XH) (H1 : Heap) (locs1 : List Loc), Po v h' → va_P D vwCl (xl_w aC ρ σ h') H1 → va_D A1 (xl_w aC ρ σ h') → H.size ≤ H1.size → (∀ q : Nat, q < H.size → ¬ A1 q → H1[q]? = H[q]?) → va_S A0 s.heap H1 locs1 → W p l e R s m args below meth c H1 locs1 (cells + mc) (slots + ms) Q (F0 m (pc + 3) ls ((v.map (xl_v ρ σ)).toList ++ rest))) : W p l e R s m args below meth c H locs cells slots Q (F0 m pc ls st0) := by
  intro T hT X
  obtain ⟨v, st₀, t, T', L, h0, X', hL, e1, e2, ⟨⟨v', h', hv, hp, hP1, hK1, hD1⟩, hz, hk⟩, st⟩ := hr T hT X
  cases hv
  rw [h0] at hz hk
  obtain ⟨t2, a1, b1⟩ := kk v' h' T'.heap (locs ++ L) hp (by rw [e1]; exact hP1) hD1 (by rw [e1]; exact hz) (fun q h1 h2 => by rw [e1]; exact hk q h1 h2)
    ⟨Nat.le_trans hS.1 (by rw [e1]; exact hz), fun q h1 h2 => by rw [e1, hk q (Nat.lt_of_lt_of_le h1 hS.1) (fun z => h2 (hA q (Nat.lt_of_lt_of_le h1 hS.1) z))]; exact hS.2.1 q h1 h2, fun q hq => by
      rcases List.mem_append.mp hq with h | h
      · exact hS.2.2 q h
      · exact hf _ (hL q h)⟩ T' rfl X'
  exact ⟨t2, st t2 a1, b1⟩
end XCC
section XCD
variable {M μ : XI} {rc rs pc pc2 mc ms : Nat} {L : List (Option Value)} {st rest : List Value} {h hl : XH} {Po : Option (Option Value) → XH → Prop} {Po' : Option Value → XH → Prop}
/-- the callee's part of the world -/
theorem xl_part {D : va_G} {aC : Nat → ClassId} {ρ σ aV : Nat → Nat} {A : Nat → Prop} {s : State} {H : Heap} {locs : List Loc} {π : Nat → Nat} (hH : xl_H D aC ρ σ aV A s H locs h) (hp : xl_pi π h hl) (hok : ∀ j c, hl[j]? = some c → xl_ok π j c) :
    va_P D vwCl (xl_w aC (fun k => ρ (π k)) σ hl) H ∧ xl_ap A (fun k => ρ (π k)) hl.length ∧ ∀ q, va_A (xl_w aC (fun k => ρ (π k)) σ hl) H.size q → A q := by
  obtain ⟨hK, hP, hD, hS, hE, hA⟩ := hH
  have hap := xl_ap_of hD
  have key : ∀ (j : Nat) (c : XE), hl[j]? = some c → (xl_w aC ρ σ h)[π j]? = some (ρ (π j), xl_c aC (fun k => ρ (π k)) σ j c) := by
    intro j c hc
    have hj := (List.getElem?_eq_some_iff.mp hc).1
    rw [hok j c hc aC ρ σ]
    exact xl_w_of (by rw [(hp.2 j hj).1]; exact hc)
  refine ⟨fun k q hq => ?_, ⟨fun i j hi hj e => hp.1 i j hi hj (hap.1 _ _ (hp.2 i hi).2 (hp.2 j hj).2 e), fun i hi => hap.2 _ (hp.2 i hi).2⟩, fun q hq => ?_⟩
  · obtain ⟨c, e1, rfl⟩ := xl_w_inv hq
    exact hP (π k) _ (key k c e1)
  · rcases hq with ⟨k, e, hk⟩ | hq
    · obtain ⟨c, e1, e2⟩ := xl_w_inv hk
      have hj := (List.getElem?_eq_some_iff.mp e1).1
      rw [show q = ρ (π k) from congrArg Prod.fst e2]
      exact hap.2 _ (hp.2 k hj).2
    · exact hA q (Nat.le_trans hS.1 hq)
theorem xl_joined {D : va_G} {aC : Nat → ClassId} {ρ σ aV : Nat → Nat} {A : Nat → Prop} {s : State} {H H1 : Heap} {locs locs1 : List Loc} {π : Nat → Nat} {h' h1 : XH} (hH : xl_H D aC ρ σ aV A s H locs h) (hp : xl_pi π h hl) (hb : xl_back π hl.length h h' h1) (hlen : h'.length = hl.length) (hok : ∀ j c, h'[j]? = some c → xl_ok π j c)
    (hP1 : va_P D vwCl (xl_w aC (fun k => ρ (π k)) σ h') H1) (hk : ∀ q : Nat, q < H.size → ¬ va_A (xl_w aC (fun k => ρ (π k)) σ hl) H.size q → H1[q]? = H[q]?) (hS1 : va_S A s.heap H1 locs1) : xl_H D aC ρ σ aV A s H1 locs1 h1 := by
  obtain ⟨hK, hP, hD, hS, hE, hA⟩ := hH
  have hap := xl_ap_of hD
  refine ⟨hK, fun k q hq => ?_, xl_D_of (by rw [hb.1]; exact hap), hS1, hE, hA⟩
  obtain ⟨c, e1, rfl⟩ := xl_w_inv hq
  by_cases hin : ∃ j, j < hl.length ∧ π j = k
  · obtain ⟨j, hj, rfl⟩ := hin
    rw [hb.2.1 j hj] at e1
    rw [← hok j c e1 aC ρ σ]
    exact hP1 j _ (xl_w_of e1)
  · have hn : ∀ j, j < hl.length → π j ≠ k := fun j hj e => hin ⟨j, hj, e⟩
    rw [hb.2.2 k hn] at e1
    have hkl := (List.getElem?_eq_some_iff.mp e1).1
    have h0 := hP k _ (xl_w_of (aC := aC) (ρ := ρ) (σ := σ) e1)
    refine h0.kept (hk _ h0.lt (fun z => ?_))
    rcases z with ⟨j, e, hj⟩ | z
    · obtain ⟨c2, g1, g2⟩ := xl_w_inv hj
      have hjl := (List.getElem?_eq_some_iff.mp g1).1
      have ee : ρ k = ρ (π j) := congrArg Prod.fst g2
      exact hn j hjl (hap.1 _ _ hkl (hp.2 j hjl).2 ee).symm
    · exact absurd h0.lt (Nat.not_lt.mpr z)
theorem xl_blind {D : va_G} {aC : Nat → ClassId} {ρ σ aV : Nat → Nat} {sz : Nat} {As : List Value} : FrameBlind (xl_Pc D aC ρ σ aV sz As hl) := fun a U g mk q => by
  obtain ⟨q0, q1, qP, qK, qD, qE⟩ := q
  exact ⟨q0, q1, qP, va_K.moved (u := U) (U := U.calling g mk a) (Vm.Alike.refl U.vm) qK, qD, xl_S.same (u := U) (U := U.calling g mk a) rfl qE⟩
theorem xl_ready {D : va_G} {aC : Nat → ClassId} {ρ σ aV : Nat → Nat} {A : Nat → Prop} {s U : State} {H : Heap} {locs : List Loc} {π : Nat → Nat} {As : List Value} {av : List Value} (hH : xl_H D aC ρ σ aV A s H locs h) (hp : xl_pi π h hl) (hok : ∀ j c, hl[j]? = some c → xl_ok π j c) (hU : U.heap = H) (hW : s.WarmedH U.vm) (hAs : av = As.map (xl_v (fun k => ρ (π k)) σ)) : xl_Pc D aC (fun k => ρ (π k)) σ aV H.size As hl av.toArray U := by
  obtain ⟨g1, g2, g3⟩ := xl_part hH hp hok
  obtain ⟨hK, hP, hD, hS, hE, hA⟩ := hH
  refine ⟨by rw [hAs], by rw [hU], by rw [hU]; exact g1, va_K.moved hW.alike hK, xl_D_of ⟨g2.1, fun _ _ => trivial⟩, ?_⟩
  rw [hU]
  refine xl_S.narrow (A := A) (xl_S.moved hW (xl_S.kept hE (fun a h1 h2 => hS.2.1 a h1 h2))) g3
/-- invokevirtual -/
theorem xl_callV (π : Nat → Nat) {ci r : Nat} {fs : List Value} {As As' : List Value} (d : xl_Ca M pc μ pc2) (hv : xl_V μ) (hcl : ∃ T N, vwCl[ci]? = some (μ.1.cls, T, N)) (hh : xl_n h r = some (.inr (ci, fs))) (hst : st = As.reverse ++ .ref r :: rest) (hn : As.length = μ.2.2.2.2.2.2) (hw : (rest.map fun v => if xl_1 v = true then 1 else 2).sum ≤ 8) (hAs : ∀ ρ σ : Nat → Nat, (Value.ref r :: As).map (xl_v ρ σ) = As'.map (xl_v (fun k => ρ (π k)) σ))
    (hp : xl_pi π h hl) (hok : ∀ j c, hl[j]? = some c → xl_ok π j c) (hc : xl_C μ mc ms As' hl Po') (hlen : ∀ v h', Po' v h' → h'.length = hl.length ∧ (∀ j c, h'[j]? = some c → xl_ok π j c) ∧ ∀ a, v ≠ some (.ref a))
    (kk : ∀ v h' h1, Po' v h' → xl_back π hl.length h h' h1 → xl_W M rc rs pc2 L (v.toList ++ rest) h1 Po) : xl_W M (rc + mc) (rs + ms) pc L st h Po := by
  obtain ⟨i, d, rfl, d3, d4, d5⟩ := d
  obtain ⟨T, N, hcl⟩ := hcl
  subst hst
  intro p l e R s m args below meth c D aC ρ σ aV A H locs cells slots ls Q hX hH hL h1 h2 hr ht
  obtain ⟨hK, hP, hD, hS, hE, hA⟩ := id hH
  obtain ⟨g1, g2, g3⟩ := xl_part hH hp hok
  rw [xl_n_eq] at hh
  have hrecv := va_recv hK hP hcl (xl_w_of hh)
  have hcw : CallW R s args M.1.cls μ.1.cls i μ.1 μ.2.1 μ.2.2.1 μ.2.2.2.1 (xl_ws μ) (xl_rm μ mc ms) mc ms μ.2.2.2.2.2.2 := ⟨xl_callB hX.2.2.2.2.2.1 hv.1 d3 (Nat.le_trans d4 hX.2.2.2.2.2.2.2.1) (Nat.le_trans d5 hX.2.2.2.2.2.2.2.2.1), hX.2.2.2.2.2.1 _ hv.2.1, hX.2.2.2.2.2.1 _ hv.2.2⟩
  have hcat : ∀ l : List Value, (l.map (xl_v ρ σ)).map (fun v => v.category) = l.map fun v => if xl_1 v = true then 1 else 2 := by
    intro l
    rw [List.map_map]
    apply List.map_congr_left
    intro v _
    show (xl_v ρ σ v).category = _
    by_cases hv1 : xl_1 v = true
    · rw [if_pos hv1, xl_1c hv1]
    · rw [if_neg hv1, xl_1d hv1]
  have hrun := va_runV (As := As.map (xl_v ρ σ)) (rest := rest.map (xl_v ρ σ)) (g := F0 m pc ls ((As.reverse ++ .ref r :: rest).map (xl_v ρ σ))) (H := H) (locs := locs) (cells := cells) (slots := slots) (e := e) (below := below) (meth := meth) (b := ρ r) (C := μ.1.cls) ⟨hX.1, hX.2.1, hX.2.2.2.1, hX.2.2.2.2.1, hX.2.2.2.2.2.1⟩ (hc l hX.2.2.2.2.2.2.2.2.2 D aC (fun k => ρ (π k)) σ aV H.size) hcw
    ⟨xl_blind, hrecv, fun U hU hW => xl_ready hH hp hok hU hW (hAs ρ σ)⟩ rfl (by rw [List.length_map]; exact hn) hL.1 (by simp [xl_v]) (lv_room (by rw [hcat]; exact hw)) d ⟨by omega, by omega⟩
  refine xl_after hrun hS (fun q _ hq => g3 q hq) g3 (fun v h' H1 locs1 hPo hP1 hD1 hz1 hk1 hS1 => ?_)
  obtain ⟨q1, q2, q3⟩ := hlen v h' hPo
  have hback : ∃ h1, xl_back π hl.length h h' h1 := by
    refine ⟨h.mapIdx (fun k c => if hx : ∃ j, j < hl.length ∧ π j = k then (h'[hx.choose]?).getD c else c), by simp, fun j hj => ?_, fun k hk => ?_⟩
    · have hx : ∃ j', j' < hl.length ∧ π j' = π j := ⟨j, hj, rfl⟩
      have hcj : hx.choose = j := hp.1 _ _ hx.choose_spec.1 hj hx.choose_spec.2
      obtain ⟨g4, g5⟩ := hp.2 j hj
      rw [List.getElem?_mapIdx, List.getElem?_eq_getElem g5]
      simp only [Option.map_some]
      rw [dif_pos hx, hcj, List.getElem?_eq_getElem (by omega)]
      rfl
    · rw [List.getElem?_mapIdx]
      cases hhk : h[k]? with
      | none => rfl
      | some c =>
        simp only [Option.map_some]
        rw [dif_neg (fun ⟨j, hj, ej⟩ => hk j hj ej)]
  obtain ⟨h1', hb⟩ := hback
  have hH1 := xl_joined hH hp hb q1 q2 hP1 hk1 hS1
  have := kk v h' h1' hPo hb p l e R s m args below meth c D aC ρ σ aV A H1 locs1 (cells + mc) (slots + ms) ls Q hX hH1 hL (by omega) (by omega) (fun v h' H' locs' pc' cells' slots' ls' a1 a2 a3 a4 a5 => hr v h' H' locs' pc' cells' slots' ls' a1 a2 a3 (by omega) (by omega)) (fun h' H' locs' pc' cells' slots' ls' a1 a2 a3 a4 a5 => ht h' H' locs' pc' cells' slots' ls' a1 a2 a3 (by omega) (by omega))
  rw [List.map_append] at this
  have ev : (v.map (xl_v (fun k => ρ (π k)) σ)).toList = v.toList.map (xl_v ρ σ) := by
    cases v with
    | none => rfl
    | some v => cases v <;> first | rfl | exact absurd rfl (q3 _)
  rw [ev]
  exact this
/-- invokestatic -/
theorem xl_callS (π : Nat → Nat) {As As' : List Value} (d : xl_Cs M pc μ pc2) (hv : xl_U μ) (hst : st = As.reverse ++ rest) (hn : As.length = μ.2.2.2.2.2.2) (hw : (rest.map fun v => if xl_1 v = true then 1 else 2).sum ≤ 8) (hAs : ∀ ρ σ : Nat → Nat, As.map (xl_v ρ σ) = As'.map (xl_v (fun k => ρ (π k)) σ))
    (hp : xl_pi π h hl) (hok : ∀ j c, hl[j]? = some c → xl_ok π j c) (hc : xl_C μ mc ms As' hl Po') (hlen : ∀ v h', Po' v h' → h'.length = hl.length ∧ (∀ j c, h'[j]? = some c → xl_ok π j c) ∧ ∀ a, v ≠ some (.ref a))
    (kk : ∀ v h' h1, Po' v h' → xl_back π hl.length h h' h1 → xl_W M rc rs pc2 L (v.toList ++ rest) h1 Po) : xl_W M (rc + mc) (rs + ms) pc L st h Po := by
  obtain ⟨i, d, rfl, d3, d4, d5⟩ := d
  subst hst
  intro p l e R s m args below meth c D aC ρ σ aV A H locs cells slots ls Q hX hH hL h1 h2 hr ht
  obtain ⟨hK, hP, hD, hS, hE, hA⟩ := id hH
  obtain ⟨g1, g2, g3⟩ := xl_part hH hp hok
  have hcw : CallB R s args M.1.cls i μ.1 μ.2.1 μ.2.2.1 μ.2.2.2.1 (xl_ws μ) (xl_rm μ mc ms) mc ms μ.2.2.2.2.2.2 ∧ (Cond.static μ.1).before args s = true := ⟨xl_callB hX.2.2.2.2.2.1 hv.1 d3 (Nat.le_trans d4 hX.2.2.2.2.2.2.2.1) (Nat.le_trans d5 hX.2.2.2.2.2.2.2.2.1), hX.2.2.2.2.2.1 _ hv.2⟩
  have hcat : ∀ l : List Value, (l.map (xl_v ρ σ)).map (fun v => v.category) = l.map fun v => if xl_1 v = true then 1 else 2 := by
    intro l
    rw [List.map_map]
    apply List.map_congr_left
    intro v _
    show (xl_v ρ σ v).category = _
    by_cases hv1 : xl_1 v = true
    · rw [if_pos hv1, xl_1c hv1]
    · rw [if_neg hv1, xl_1d hv1]
  have hrun := va_runS (As := As.map (xl_v ρ σ)) (rest := rest.map (xl_v ρ σ)) (g := F0 m pc ls ((As.reverse ++ rest).map (xl_v ρ σ))) (H := H) (locs := locs) (cells := cells) (slots := slots) (e := e) (below := below) (meth := meth) ⟨hX.1, hX.2.1, hX.2.2.2.1, hX.2.2.2.2.1, hX.2.2.2.2.2.1⟩ (hc l hX.2.2.2.2.2.2.2.2.2 D aC (fun k => ρ (π k)) σ aV H.size) hcw
    ⟨xl_blind, fun U hU hW => xl_ready hH hp hok hU hW (hAs ρ σ)⟩ rfl (by rw [List.length_map]; exact hn) hL.1 (by simp [xl_v]) (lv_room (by rw [hcat]; exact hw)) d ⟨by omega, by omega⟩
  refine xl_after hrun hS (fun q _ hq => g3 q hq) g3 (fun v h' H1 locs1 hPo hP1 hD1 hz1 hk1 hS1 => ?_)
  obtain ⟨q1, q2, q3⟩ := hlen v h' hPo
  have hback : ∃ h1, xl_back π hl.length h h' h1 := by
    refine ⟨h.mapIdx (fun k c => if hx : ∃ j, j < hl.length ∧ π j = k then (h'[hx.choose]?).getD c else c), by simp, fun j hj => ?_, fun k hk => ?_⟩
    · have hx : ∃ j', j' < hl.length ∧ π j' = π j := ⟨j, hj, rfl⟩
      have hcj : hx.choose = j := hp.1 _ _ hx.choose_spec.1 hj hx.choose_spec.2
      obtain ⟨g4, g5⟩ := hp.2 j hj
      rw [List.getElem?_mapIdx, List.getElem?_eq_getElem g5]
      simp only [Option.map_some]
      rw [dif_pos hx, hcj, List.getElem?_eq_getElem (by omega)]
      rfl
    · rw [List.getElem?_mapIdx]
      cases hhk : h[k]? with
      | none => rfl
      | some c =>
        simp only [Option.map_some]
        rw [dif_neg (fun ⟨j, hj, ej⟩ => hk j hj ej)]
  obtain ⟨h1', hb⟩ := hback
  have hH1 := xl_joined hH hp hb q1 q2 hP1 hk1 hS1
  have := kk v h' h1' hPo hb p l e R s m args below meth c D aC ρ σ aV A H1 locs1 (cells + mc) (slots + ms) ls Q hX hH1 hL (by omega) (by omega) (fun v h' H' locs' pc' cells' slots' ls' a1 a2 a3 a4 a5 => hr v h' H' locs' pc' cells' slots' ls' a1 a2 a3 (by omega) (by omega)) (fun h' H' locs' pc' cells' slots' ls' a1 a2 a3 a4 a5 => ht h' H' locs' pc' cells' slots' ls' a1 a2 a3 (by omega) (by omega))
  rw [List.map_append] at this
  have ev : (v.map (xl_v (fun k => ρ (π k)) σ)).toList = v.toList.map (xl_v ρ σ) := by
    cases v with
    | none => rfl
    | some v => cases v <;> first | rfl | exact absurd rfl (q3 _)
  rw [ev]
  exact this
/-- Math.max, Math.min, System.arraycopy -/
def xl_Cm (M : XI) (pc : Nat) (y : MethodName) (cc : ByteArray) (pc2 : Nat) : Prop := ∃ i, decode M.2.1 pc = .ok (.invokestatic i, 3) ∧ pc + 3 = pc2 ∧ Cond.methodLink M.1.cls i y ∈ xl_T ∧ Cond.static y ∈ xl_T ∧ Cond.initialized "java/lang/Math" ∈ xl_T ∧ Cond.code y cc 2 (some .int) ∈ xl_T ∧ 1 ≤ M.2.2.2.2.1 ∧ 21 ≤ M.2.2.2.2.2.1
theorem xl_cats (ρ σ : Nat → Nat) (l : List Value) : (l.map (xl_v ρ σ)).map (fun v => v.category) = l.map fun v => if xl_1 v = true then 1 else 2 := by
  rw [List.map_map]
  apply List.map_congr_left
  intro v _
  show (xl_v ρ σ v).category = _
  by_cases hv1 : xl_1 v = true
  · rw [if_pos hv1, xl_1c hv1]
  · rw [if_neg hv1, xl_1d hv1]
theorem xl_max {a b : Int32} (d : xl_Cm M pc Lib.Math.max.name Lib.Math.max.code pc2) (hw : (rest.map fun v => if xl_1 v = true then 1 else 2).sum ≤ 8) (kk : xl_W M rc rs pc2 L (.int (if a < b then b else a) :: rest) h Po) : xl_W M rc rs pc L (.int b :: .int a :: rest) h Po := by
  obtain ⟨i, d, rfl, d3, d4, d5, d6, d7, d8⟩ := d
  intro p l e R s m args below meth c D aC ρ σ aV A H locs cells slots ls Q hX hH hL h1 h2 hr ht
  have hT := hX.2.2.2.2.2.1
  exact va_mmax hX.1 hX.2.1 (hX.2.2.2.1.trans hL.1.symm) hX.2.2.2.2.1 (hT _ d3) (hT _ d4) (hT _ d5) (hT _ d6) (Nat.le_trans d7 hX.2.2.2.2.2.2.2.1) (by rw [xl_cats]; have := hX.2.2.2.2.2.2.2.2.1; omega) (by omega) (by omega) d (kk p l e R s m args below meth c D aC ρ σ aV A H locs cells slots ls Q hX hH hL h1 h2 hr ht)
theorem xl_min {a b : Int32} (d : xl_Cm M pc Lib.Math.min.name Lib.Math.min.code pc2) (hw : (rest.map fun v => if xl_1 v = true then 1 else 2).sum ≤ 8) (kk : xl_W M rc rs pc2 L (.int (if b < a then b else a) :: rest) h Po) : xl_W M rc rs pc L (.int b :: .int a :: rest) h Po := by
  obtain ⟨i, d, rfl, d3, d4, d5, d6, d7, d8⟩ := d
  intro p l e R s m args below meth c D aC ρ σ aV A H locs cells slots ls Q hX hH hL h1 h2 hr ht
  have hT := hX.2.2.2.2.2.1
  exact va_mmin hX.1 hX.2.1 (hX.2.2.2.1.trans hL.1.symm) hX.2.2.2.2.1 (hT _ d3) (hT _ d4) (hT _ d5) (hT _ d6) (Nat.le_trans d7 hX.2.2.2.2.2.2.2.1) (by rw [xl_cats]; have := hX.2.2.2.2.2.2.2.2.1; omega) (by omega) (by omega) d (kk p l e R s m args below meth c D aC ρ σ aV A H locs cells slots ls Q hX hH hL h1 h2 hr ht)
def xl_Cy (M : XI) (pc pc2 : Nat) : Prop := ∃ i, decode M.2.1 pc = .ok (.invokestatic i, 3) ∧ pc + 3 = pc2 ∧ Cond.methodLink M.1.cls i arraycopyName ∈ xl_T ∧ Cond.native arraycopyName ∈ xl_T ∧ Cond.static arraycopyName ∈ xl_T ∧ Cond.initialized "java/lang/System" ∈ xl_T ∧ 1 ≤ M.2.2.2.2.1 ∧ 31 ≤ M.2.2.2.2.2.1
theorem xl_copy {r0 r1 n0 n1 : Nat} {f g : Nat → Int32} {sp dp n : Int32} (d : xl_Cy M pc pc2) (hh0 : xl_n h r0 = some (.inl (0, n0, .inl f))) (hh1 : xl_n h r1 = some (.inl (0, n1, .inl g))) (q1 : ¬ sp < 0) (q2 : ¬ dp < 0) (q3 : ¬ n < 0) (q4 : sp.toNatClampNeg + n.toNatClampNeg ≤ n0) (q5 : dp.toNatClampNeg + n.toNatClampNeg ≤ n1) (hw : (rest.map fun v => if xl_1 v = true then 1 else 2).sum ≤ 8)
    (kk : xl_W M rc rs pc2 L rest (xl_s h r1 (.inl (0, n1, .inl (va_cpy f g sp.toNatClampNeg dp.toNatClampNeg n.toNatClampNeg)))) Po) : xl_W M rc rs pc L (.int n :: .int dp :: .ref r1 :: .int sp :: .ref r0 :: rest) h Po := by
  obtain ⟨i, d, rfl, d3, d4, d5, d6, d7, d8⟩ := d
  intro p l e R s m args below meth c D aC ρ σ aV A H locs cells slots ls Q hX hH hL h1 h2 hr ht
  obtain ⟨hK, hP, hD, hS, hE, hA⟩ := id hH
  have hT := hX.2.2.2.2.2.1
  rw [xl_n_eq] at hh0 hh1
  have hlo : ((rest.map (xl_v ρ σ)).map fun v => v.category).sum + (nativeFrameWords "java/lang/System" "arraycopy" 5 + 11) ≤ R.locals := by
    have e : nativeFrameWords "java/lang/System" "arraycopy" 5 = 7 := by decide +kernel
    have := hX.2.2.2.2.2.2.2.2.1
    rw [xl_cats, e]
    omega
  refine va_copyi (ty := .int) hX.1 hX.2.1 (hX.2.2.2.1.trans hL.1.symm) hX.2.2.2.2.1 (hT _ d3) (hT _ d4) (hT _ d5) (hT _ d6) hK hP hD hS r0 r1 0 0 (xl_w_of hh0) (xl_w_of hh1) rfl rfl rfl q1 q2 q3 q4 q5 (fun _ _ => rfl) (Nat.le_trans d7 hX.2.2.2.2.2.2.2.1) hlo d (fun H1 locs1 hP1 hD1 hS1 => ?_)
  exact kk p l e R s m args below meth c D aC ρ σ aV A H1 locs1 cells slots ls Q hX ⟨hK, by rw [xl_w_s]; exact hP1, by rw [xl_w_s]; exact hD1, hS1, hE, hA⟩ hL h1 h2 hr ht
end XCD
end
section
/-! ===== calls by the number of arguments and the kind of answer: v.. of another object's method (its cells are a run of places from r on), t.. of a method of the same cells, s.. of a static one ===== -/
def xl_nr : Value → Bool := fun v => match v with
  | .ref _ => false
  | _ => true
theorem xl_nr_v {v : Value} (hv : xl_nr v = true) (ρ ρ' σ : Nat → Nat) : xl_v ρ σ v = xl_v ρ' σ v := by cases v <;> first | rfl | cases hv
theorem xl_nr_m {l : List Value} (hv : l.all xl_nr = true) (ρ ρ' σ : Nat → Nat) : l.map (xl_v ρ σ) = l.map (xl_v ρ' σ) :=
  List.map_congr_left (fun v h => xl_nr_v (List.all_eq_true.mp hv v h) ρ ρ' σ)
abbrev xl_CI (μ : XI) (As : List Value) (h : XH) (P : Int32 → XH → Prop) : Prop := xl_C μ 0 0 As h (fun v h' => ∃ y, v = some (.int y) ∧ P y h')
abbrev xl_CL (μ : XI) (As : List Value) (h : XH) (P : Int64 → XH → Prop) : Prop := xl_C μ 0 0 As h (fun v h' => ∃ y, v = some (.long y) ∧ P y h')
abbrev xl_CS (μ : XI) (As : List Value) (h : XH) (P : UInt32 → XH → Prop) : Prop := xl_C μ 0 0 As h (fun v h' => ∃ y, v = some (.float y) ∧ P y h')
abbrev xl_CV (μ : XI) (As : List Value) (h : XH) (P : XH → Prop) : Prop := xl_C μ 0 0 As h (fun v h' => v = none ∧ P h')
/-- read only -/
abbrev xl_RI (μ : XI) (As : List Value) (h : XH) (y : Int32) : Prop := xl_CI μ As h (fun z h' => z = y ∧ h' = h)
abbrev xl_RL (μ : XI) (As : List Value) (h : XH) (y : Int64) : Prop := xl_CL μ As h (fun z h' => z = y ∧ h' = h)
abbrev xl_RS (μ : XI) (As : List Value) (h : XH) (y : UInt32) : Prop := xl_CS μ As h (fun z h' => z = y ∧ h' = h)
section XCE
variable {M μ : XI} {rc rs pc pc2 : Nat} {L : List (Option Value)} {st rest : List Value} {h hl : XH} {Po : Option (Option Value) → XH → Prop} {Po' : Option Value → XH → Prop}
theorem xl_pi_add {r : Nat} (hh : (h.drop r).take hl.length = hl) : xl_pi (fun k => r + k) h hl := by
  refine ⟨fun i j _ _ e => Nat.add_left_cancel e, fun j hj => ?_⟩
  have e : h[r + j]? = hl[j]? := by
    conv => rhs; rw [← hh]
    rw [List.getElem?_take, if_pos hj, List.getElem?_drop]
  refine ⟨e, ?_⟩
  rw [List.getElem?_eq_getElem hj] at e
  exact (List.getElem?_eq_some_iff.mp e).1
theorem xl_back_add {r : Nat} {h' h1 : XH} (hh : (h.drop r).take hl.length = hl) (h0 : 0 < hl.length) (hl' : h'.length = hl.length) (hb : xl_back (fun k => r + k) hl.length h h' h1) : h1 = h.take r ++ (h' ++ h.drop (r + hl.length)) := by
  have hp := xl_pi_add hh
  have hr : r + (hl.length - 1) < h.length := (hp.2 (hl.length - 1) (by omega)).2
  apply List.ext_getElem?
  intro k
  have hrl : (h.take r).length = r := by rw [List.length_take]; omega
  by_cases h1k : k < r
  · rw [List.getElem?_append_left (by omega), List.getElem?_take, if_pos h1k]
    exact hb.2.2 k (fun j _ e => by simp only at e; omega)
  · rw [List.getElem?_append_right (by omega), hrl]
    by_cases h2k : k - r < hl.length
    · rw [List.getElem?_append_left (by omega)]
      have := hb.2.1 (k - r) h2k
      simp only at this
      rw [show r + (k - r) = k by omega] at this
      exact this
    · rw [List.getElem?_append_right (by omega), List.getElem?_drop, show r + hl.length + (k - r - h'.length) = k by omega]
      exact hb.2.2 k (fun j hj e => by simp only at e; omega)
theorem xl_back_id {r : Nat} {h1 : XH} {π : Nat → Nat} (hp : xl_pi π h hl) (hb : xl_back π hl.length h hl h1) : h1 = h := by
  apply List.ext_getElem?
  intro k
  by_cases hin : ∃ j, j < hl.length ∧ π j = k
  · obtain ⟨j, hj, rfl⟩ := hin
    rw [hb.2.1 j hj, (hp.2 j hj).1]
  · exact hb.2.2 k (fun j hj e => hin ⟨j, hj, e⟩)
theorem xl_back_all {h' h1 : XH} (hl' : h'.length = h.length) (hb : xl_back (fun k => k) h.length h h' h1) : h1 = h' := by
  apply List.ext_getElem?
  intro k
  by_cases hk : k < h.length
  · exact hb.2.1 k hk
  · rw [List.getElem?_eq_none (by rw [hb.1]; omega), List.getElem?_eq_none (by omega)]
theorem xl_pi_all : xl_pi (fun k => k) h h := ⟨fun i j _ _ e => e, fun j hj => ⟨rfl, hj⟩⟩
theorem xl_ok_all (j : Nat) (c : XE) : xl_ok (fun k => k) j c := fun _ _ _ => rfl
/-- another object's method, any arguments -/
theorem xl_vG {ci r : Nat} {fs : List Value} {As : List Value} (d : xl_Ca M pc μ pc2) (hv : xl_V μ) (hcl : ∃ T N, vwCl[ci]? = some (μ.1.cls, T, N)) (hh : xl_n h r = some (.inr (ci, fs))) (hst : st = As.reverse ++ .ref r :: rest) (hn : As.length = μ.2.2.2.2.2.2) (hw : (rest.map fun v => if xl_1 v = true then 1 else 2).sum ≤ 8) (hnr : As.all xl_nr = true)
    (hc : xl_C μ 0 0 (.ref 0 :: As) hl Po') (hcut : (h.drop r).take hl.length = hl) (h0 : 0 < hl.length) (hlen : ∀ v h', Po' v h' → h'.length = hl.length ∧ ∀ a, v ≠ some (.ref a))
    (kk : ∀ v h', Po' v h' → xl_W M rc rs pc2 L (v.toList ++ rest) (h.take r ++ (h' ++ h.drop (r + hl.length))) Po) : xl_W M rc rs pc L st h Po :=
  xl_callV (mc := 0) (ms := 0) (fun k => r + k) d hv hcl hh hst hn hw (fun ρ σ => by rw [List.map_cons, List.map_cons, xl_nr_m hnr ρ (fun k => ρ (r + k)) σ]; rfl) (xl_pi_add hcut) (fun j c _ => xl_ok_add r j c) hc (fun v h' p => ⟨(hlen v h' p).1, fun j c _ => xl_ok_add r j c, (hlen v h' p).2⟩) (fun v h' h1 p hb => by rw [xl_back_add hcut h0 (hlen v h' p).1 hb]; exact kk v h' p)
/-- the same, read only -/
theorem xl_vR {ci r : Nat} {fs : List Value} {As : List Value} {v0 : Option Value} (d : xl_Ca M pc μ pc2) (hv : xl_V μ) (hcl : ∃ T N, vwCl[ci]? = some (μ.1.cls, T, N)) (hh : xl_n h r = some (.inr (ci, fs))) (hst : st = As.reverse ++ .ref r :: rest) (hn : As.length = μ.2.2.2.2.2.2) (hw : (rest.map fun v => if xl_1 v = true then 1 else 2).sum ≤ 8) (hnr : As.all xl_nr = true)
    (hc : xl_C μ 0 0 (.ref 0 :: As) hl Po') (hcut : (h.drop r).take hl.length = hl) (hlen : ∀ v h', Po' v h' → v = v0 ∧ h' = hl) (hv0 : ∀ a, v0 ≠ some (.ref a)) (kk : xl_W M rc rs pc2 L (v0.toList ++ rest) h Po) : xl_W M rc rs pc L st h Po :=
  xl_callV (mc := 0) (ms := 0) (fun k => r + k) d hv hcl hh hst hn hw (fun ρ σ => by rw [List.map_cons, List.map_cons, xl_nr_m hnr ρ (fun k => ρ (r + k)) σ]; rfl) (xl_pi_add hcut) (fun j c _ => xl_ok_add r j c) hc (fun v h' p => ⟨by rw [(hlen v h' p).2], fun j c _ => xl_ok_add r j c, by rw [(hlen v h' p).1]; exact hv0⟩) (fun v h' h1 p hb => by
    obtain ⟨e1, e2⟩ := hlen v h' p
    subst e1; subst e2
    rw [xl_back_id (r := 0) (xl_pi_add hcut) hb]
    exact kk)
/-- a method of the same cells -/
theorem xl_tG {ci : Nat} {fs : List Value} {As : List Value} (d : xl_Ca M pc μ pc2) (hv : xl_V μ) (hcl : ∃ T N, vwCl[ci]? = some (μ.1.cls, T, N)) (hh : xl_n h 0 = some (.inr (ci, fs))) (hst : st = As.reverse ++ .ref 0 :: rest) (hn : As.length = μ.2.2.2.2.2.2) (hw : (rest.map fun v => if xl_1 v = true then 1 else 2).sum ≤ 8)
    (hc : xl_C μ 0 0 (.ref 0 :: As) h Po') (hlen : ∀ v h', Po' v h' → h'.length = h.length ∧ ∀ a, v ≠ some (.ref a))
    (kk : ∀ v h', Po' v h' → xl_W M rc rs pc2 L (v.toList ++ rest) h' Po) : xl_W M rc rs pc L st h Po :=
  xl_callV (mc := 0) (ms := 0) (fun k => k) d hv hcl hh hst hn hw (fun ρ σ => rfl) xl_pi_all (fun j c _ => xl_ok_all j c) hc (fun v h' p => ⟨(hlen v h' p).1, fun j c _ => xl_ok_all j c, (hlen v h' p).2⟩) (fun v h' h1 p hb => by rw [xl_back_all (hlen v h' p).1 hb]; exact kk v h' p)

theorem xl_vI0 {ci r : Nat} {fs : List Value} {y : Int32} (d : xl_Ca M pc μ pc2) (hv : xl_V μ) (hcl : ∃ T N, vwCl[ci]? = some (μ.1.cls, T, N)) (hc : xl_RI μ (.ref 0 :: []) hl y) (hh : xl_n h r = some (.inr (ci, fs))) (hcut : (h.drop r).take hl.length = hl) (hn : 0 = μ.2.2.2.2.2.2) (hnr : ([] : List Value).all xl_nr = true) (hw : (rest.map fun v => if xl_1 v = true then 1 else 2).sum ≤ 8) (kk : xl_W M rc rs pc2 L (.int y :: rest) h Po) : xl_W M rc rs pc L (.ref r :: rest) h Po :=
  xl_vR (As := []) (v0 := some (.int y)) d hv hcl hh rfl hn hw hnr hc hcut (fun v h' ⟨z, e1, e2, e3⟩ => ⟨by rw [e1, e2], e3⟩) (fun a e => by cases e) kk
theorem xl_tI0 {ci : Nat} {fs : List Value} {y : Int32} (d : xl_Ca M pc μ pc2) (hv : xl_V μ) (hcl : ∃ T N, vwCl[ci]? = some (μ.1.cls, T, N)) (hc : xl_RI μ (.ref 0 :: []) h y) (hh : xl_n h 0 = some (.inr (ci, fs))) (hn : 0 = μ.2.2.2.2.2.2) (hw : (rest.map fun v => if xl_1 v = true then 1 else 2).sum ≤ 8) (kk : xl_W M rc rs pc2 L (.int y :: rest) h Po) : xl_W M rc rs pc L (.ref 0 :: rest) h Po :=
  xl_tG (As := []) d hv hcl hh rfl hn hw hc (fun v h' ⟨z, e1, e2, e3⟩ => ⟨by rw [e3], by rw [e1]; intro a e; cases e⟩) (fun v h' ⟨z, e1, e2, e3⟩ => by subst e1; subst e2; subst e3; exact kk)
theorem xl_vL0 {ci r : Nat} {fs : List Value} {y : Int64} (d : xl_Ca M pc μ pc2) (hv : xl_V μ) (hcl : ∃ T N, vwCl[ci]? = some (μ.1.cls, T, N)) (hc : xl_RL μ (.ref 0 :: []) hl y) (hh : xl_n h r = some (.inr (ci, fs))) (hcut : (h.drop r).take hl.length = hl) (hn : 0 = μ.2.2.2.2.2.2) (hnr : ([] : List Value).all xl_nr = true) (hw : (rest.map fun v => if xl_1 v = true then 1 else 2).sum ≤ 8) (kk : xl_W M rc rs pc2 L (.long y :: rest) h Po) : xl_W M rc rs pc L (.ref r :: rest) h Po :=
  xl_vR (As := []) (v0 := some (.long y)) d hv hcl hh rfl hn hw hnr hc hcut (fun v h' ⟨z, e1, e2, e3⟩ => ⟨by rw [e1, e2], e3⟩) (fun a e => by cases e) kk
theorem xl_tL0 {ci : Nat} {fs : List Value} {y : Int64} (d : xl_Ca M pc μ pc2) (hv : xl_V μ) (hcl : ∃ T N, vwCl[ci]? = some (μ.1.cls, T, N)) (hc : xl_RL μ (.ref 0 :: []) h y) (hh : xl_n h 0 = some (.inr (ci, fs))) (hn : 0 = μ.2.2.2.2.2.2) (hw : (rest.map fun v => if xl_1 v = true then 1 else 2).sum ≤ 8) (kk : xl_W M rc rs pc2 L (.long y :: rest) h Po) : xl_W M rc rs pc L (.ref 0 :: rest) h Po :=
  xl_tG (As := []) d hv hcl hh rfl hn hw hc (fun v h' ⟨z, e1, e2, e3⟩ => ⟨by rw [e3], by rw [e1]; intro a e; cases e⟩) (fun v h' ⟨z, e1, e2, e3⟩ => by subst e1; subst e2; subst e3; exact kk)
theorem xl_vS0 {ci r : Nat} {fs : List Value} {y : UInt32} (d : xl_Ca M pc μ pc2) (hv : xl_V μ) (hcl : ∃ T N, vwCl[ci]? = some (μ.1.cls, T, N)) (hc : xl_RS μ (.ref 0 :: []) hl y) (hh : xl_n h r = some (.inr (ci, fs))) (hcut : (h.drop r).take hl.length = hl) (hn : 0 = μ.2.2.2.2.2.2) (hnr : ([] : List Value).all xl_nr = true) (hw : (rest.map fun v => if xl_1 v = true then 1 else 2).sum ≤ 8) (kk : xl_W M rc rs pc2 L (.float y :: rest) h Po) : xl_W M rc rs pc L (.ref r :: rest) h Po :=
  xl_vR (As := []) (v0 := some (.float y)) d hv hcl hh rfl hn hw hnr hc hcut (fun v h' ⟨z, e1, e2, e3⟩ => ⟨by rw [e1, e2], e3⟩) (fun a e => by cases e) kk
theorem xl_tS0 {ci : Nat} {fs : List Value} {y : UInt32} (d : xl_Ca M pc μ pc2) (hv : xl_V μ) (hcl : ∃ T N, vwCl[ci]? = some (μ.1.cls, T, N)) (hc : xl_RS μ (.ref 0 :: []) h y) (hh : xl_n h 0 = some (.inr (ci, fs))) (hn : 0 = μ.2.2.2.2.2.2) (hw : (rest.map fun v => if xl_1 v = true then 1 else 2).sum ≤ 8) (kk : xl_W M rc rs pc2 L (.float y :: rest) h Po) : xl_W M rc rs pc L (.ref 0 :: rest) h Po :=
  xl_tG (As := []) d hv hcl hh rfl hn hw hc (fun v h' ⟨z, e1, e2, e3⟩ => ⟨by rw [e3], by rw [e1]; intro a e; cases e⟩) (fun v h' ⟨z, e1, e2, e3⟩ => by subst e1; subst e2; subst e3; exact kk)
theorem xl_vGI0 {ci r : Nat} {fs : List Value} {P : Int32 → XH → Prop} (d : xl_Ca M pc μ pc2) (hv : xl_V μ) (hcl : ∃ T N, vwCl[ci]? = some (μ.1.cls, T, N)) (hc : xl_CI μ (.ref 0 :: []) hl P) (hh : xl_n h r = some (.inr (ci, fs))) (hcut : (h.drop r).take hl.length = hl) (h0 : 0 < hl.length) (hn : 0 = μ.2.2.2.2.2.2) (hnr : ([] : List Value).all xl_nr = true) (hw : (rest.map fun v => if xl_1 v = true then 1 else 2).sum ≤ 8) (hlen : ∀ y h', P y h' → h'.length = hl.length) (kk : ∀ y h', P y h' → xl_W M rc rs pc2 L (.int y :: rest) (h.take r ++ (h' ++ h.drop (r + hl.length))) Po) : xl_W M rc rs pc L (.ref r :: rest) h Po :=
  xl_vG (As := []) d hv hcl hh rfl hn hw hnr hc hcut h0 (fun v h' ⟨z, e1, e2⟩ => ⟨hlen z h' e2, by rw [e1]; intro a e; cases e⟩) (fun v h' ⟨z, e1, e2⟩ => by subst e1; exact kk z h' e2)
theorem xl_vGV0 {ci r : Nat} {fs : List Value} {P : XH → Prop} (d : xl_Ca M pc μ pc2) (hv : xl_V μ) (hcl : ∃ T N, vwCl[ci]? = some (μ.1.cls, T, N)) (hc : xl_CV μ (.ref 0 :: []) hl P) (hh : xl_n h r = some (.inr (ci, fs))) (hcut : (h.drop r).take hl.length = hl) (h0 : 0 < hl.length) (hn : 0 = μ.2.2.2.2.2.2) (hnr : ([] : List Value).all xl_nr = true) (hw : (rest.map fun v => if xl_1 v = true then 1 else 2).sum ≤ 8) (hlen : ∀ h', P h' → h'.length = hl.length) (kk : ∀ h', P h' → xl_W M rc rs pc2 L rest (h.take r ++ (h' ++ h.drop (r + hl.length))) Po) : xl_W M rc rs pc L (.ref r :: rest) h Po :=
  xl_vG (As := []) d hv hcl hh rfl hn hw hnr hc hcut h0 (fun v h' ⟨e1, e2⟩ => ⟨hlen h' e2, by rw [e1]; intro a e; cases e⟩) (fun v h' ⟨e1, e2⟩ => by subst e1; exact kk h' e2)
theorem xl_tGI0 {ci : Nat} {fs : List Value} {P : Int32 → XH → Prop} (d : xl_Ca M pc μ pc2) (hv : xl_V μ) (hcl : ∃ T N, vwCl[ci]? = some (μ.1.cls, T, N)) (hc : xl_CI μ (.ref 0 :: []) h P) (hh : xl_n h 0 = some (.inr (ci, fs))) (hn : 0 = μ.2.2.2.2.2.2) (hw : (rest.map fun v => if xl_1 v = true then 1 else 2).sum ≤ 8) (hlen : ∀ y h', P y h' → h'.length = h.length) (kk : ∀ y h', P y h' → xl_W M rc rs pc2 L (.int y :: rest) h' Po) : xl_W M rc rs pc L (.ref 0 :: rest) h Po :=
  xl_tG (As := []) d hv hcl hh rfl hn hw hc (fun v h' ⟨z, e1, e2⟩ => ⟨hlen z h' e2, by rw [e1]; intro a e; cases e⟩) (fun v h' ⟨z, e1, e2⟩ => by subst e1; exact kk z h' e2)
theorem xl_tGV0 {ci : Nat} {fs : List Value} {P : XH → Prop} (d : xl_Ca M pc μ pc2) (hv : xl_V μ) (hcl : ∃ T N, vwCl[ci]? = some (μ.1.cls, T, N)) (hc : xl_CV μ (.ref 0 :: []) h P) (hh : xl_n h 0 = some (.inr (ci, fs))) (hn : 0 = μ.2.2.2.2.2.2) (hw : (rest.map fun v => if xl_1 v = true then 1 else 2).sum ≤ 8) (hlen : ∀ h', P h' → h'.length = h.length) (kk : ∀ h', P h' → xl_W M rc rs pc2 L rest h' Po) : xl_W M rc rs pc L (.ref 0 :: rest) h Po :=
  xl_tG (As := []) d hv hcl hh rfl hn hw hc (fun v h' ⟨e1, e2⟩ => ⟨hlen h' e2, by rw [e1]; intro a e; cases e⟩) (fun v h' ⟨e1, e2⟩ => by subst e1; exact kk h' e2)
theorem xl_vI1 {ci r : Nat} {fs : List Value} {a0 : Value} {y : Int32} (d : xl_Ca M pc μ pc2) (hv : xl_V μ) (hcl : ∃ T N, vwCl[ci]? = some (μ.1.cls, T, N)) (hc : xl_RI μ (.ref 0 :: [a0]) hl y) (hh : xl_n h r = some (.inr (ci, fs))) (hcut : (h.drop r).take hl.length = hl) (hn : 1 = μ.2.2.2.2.2.2) (hnr : ([a0] : List Value).all xl_nr = true) (hw : (rest.map fun v => if xl_1 v = true then 1 else 2).sum ≤ 8) (kk : xl_W M rc rs pc2 L (.int y :: rest) h Po) : xl_W M rc rs pc L (a0 :: .ref r :: rest) h Po :=
  xl_vR (As := [a0]) (v0 := some (.int y)) d hv hcl hh rfl hn hw hnr hc hcut (fun v h' ⟨z, e1, e2, e3⟩ => ⟨by rw [e1, e2], e3⟩) (fun a e => by cases e) kk
theorem xl_tI1 {ci : Nat} {fs : List Value} {a0 : Value} {y : Int32} (d : xl_Ca M pc μ pc2) (hv : xl_V μ) (hcl : ∃ T N, vwCl[ci]? = some (μ.1.cls, T, N)) (hc : xl_RI μ (.ref 0 :: [a0]) h y) (hh : xl_n h 0 = some (.inr (ci, fs))) (hn : 1 = μ.2.2.2.2.2.2) (hw : (rest.map fun v => if xl_1 v = true then 1 else 2).sum ≤ 8) (kk : xl_W M rc rs pc2 L (.int y :: rest) h Po) : xl_W M rc rs pc L (a0 :: .ref 0 :: rest) h Po :=
  xl_tG (As := [a0]) d hv hcl hh rfl hn hw hc (fun v h' ⟨z, e1, e2, e3⟩ => ⟨by rw [e3], by rw [e1]; intro a e; cases e⟩) (fun v h' ⟨z, e1, e2, e3⟩ => by subst e1; subst e2; subst e3; exact kk)
theorem xl_vL1 {ci r : Nat} {fs : List Value} {a0 : Value} {y : Int64} (d : xl_Ca M pc μ pc2) (hv : xl_V μ) (hcl : ∃ T N, vwCl[ci]? = some (μ.1.cls, T, N)) (hc : xl_RL μ (.ref 0 :: [a0]) hl y) (hh : xl_n h r = some (.inr (ci, fs))) (hcut : (h.drop r).take hl.length = hl) (hn : 1 = μ.2.2.2.2.2.2) (hnr : ([a0] : List Value).all xl_nr = true) (hw : (rest.map fun v => if xl_1 v = true then 1 else 2).sum ≤ 8) (kk : xl_W M rc rs pc2 L (.long y :: rest) h Po) : xl_W M rc rs pc L (a0 :: .ref r :: rest) h Po :=
  xl_vR (As := [a0]) (v0 := some (.long y)) d hv hcl hh rfl hn hw hnr hc hcut (fun v h' ⟨z, e1, e2, e3⟩ => ⟨by rw [e1, e2], e3⟩) (fun a e => by cases e) kk
theorem xl_tL1 {ci : Nat} {fs : List Value} {a0 : Value} {y : Int64} (d : xl_Ca M pc μ pc2) (hv : xl_V μ) (hcl : ∃ T N, vwCl[ci]? = some (μ.1.cls, T, N)) (hc : xl_RL μ (.ref 0 :: [a0]) h y) (hh : xl_n h 0 = some (.inr (ci, fs))) (hn : 1 = μ.2.2.2.2.2.2) (hw : (rest.map fun v => if xl_1 v = true then 1 else 2).sum ≤ 8) (kk : xl_W M rc rs pc2 L (.long y :: rest) h Po) : xl_W M rc rs pc L (a0 :: .ref 0 :: rest) h Po :=
  xl_tG (As := [a0]) d hv hcl hh rfl hn hw hc (fun v h' ⟨z, e1, e2, e3⟩ => ⟨by rw [e3], by rw [e1]; intro a e; cases e⟩) (fun v h' ⟨z, e1, e2, e3⟩ => by subst e1; subst e2; subst e3; exact kk)
theorem xl_vS1 {ci r : Nat} {fs : List Value} {a0 : Value} {y : UInt32} (d : xl_Ca M pc μ pc2) (hv : xl_V μ) (hcl : ∃ T N, vwCl[ci]? = some (μ.1.cls, T, N)) (hc : xl_RS μ (.ref 0 :: [a0]) hl y) (hh : xl_n h r = some (.inr (ci, fs))) (hcut : (h.drop r).take hl.length = hl) (hn : 1 = μ.2.2.2.2.2.2) (hnr : ([a0] : List Value).all xl_nr = true) (hw : (rest.map fun v => if xl_1 v = true then 1 else 2).sum ≤ 8) (kk : xl_W M rc rs pc2 L (.float y :: rest) h Po) : xl_W M rc rs pc L (a0 :: .ref r :: rest) h Po :=
  xl_vR (As := [a0]) (v0 := some (.float y)) d hv hcl hh rfl hn hw hnr hc hcut (fun v h' ⟨z, e1, e2, e3⟩ => ⟨by rw [e1, e2], e3⟩) (fun a e => by cases e) kk
theorem xl_tS1 {ci : Nat} {fs : List Value} {a0 : Value} {y : UInt32} (d : xl_Ca M pc μ pc2) (hv : xl_V μ) (hcl : ∃ T N, vwCl[ci]? = some (μ.1.cls, T, N)) (hc : xl_RS μ (.ref 0 :: [a0]) h y) (hh : xl_n h 0 = some (.inr (ci, fs))) (hn : 1 = μ.2.2.2.2.2.2) (hw : (rest.map fun v => if xl_1 v = true then 1 else 2).sum ≤ 8) (kk : xl_W M rc rs pc2 L (.float y :: rest) h Po) : xl_W M rc rs pc L (a0 :: .ref 0 :: rest) h Po :=
  xl_tG (As := [a0]) d hv hcl hh rfl hn hw hc (fun v h' ⟨z, e1, e2, e3⟩ => ⟨by rw [e3], by rw [e1]; intro a e; cases e⟩) (fun v h' ⟨z, e1, e2, e3⟩ => by subst e1; subst e2; subst e3; exact kk)
theorem xl_vGI1 {ci r : Nat} {fs : List Value} {a0 : Value} {P : Int32 → XH → Prop} (d : xl_Ca M pc μ pc2) (hv : xl_V μ) (hcl : ∃ T N, vwCl[ci]? = some (μ.1.cls, T, N)) (hc : xl_CI μ (.ref 0 :: [a0]) hl P) (hh : xl_n h r = some (.inr (ci, fs))) (hcut : (h.drop r).take hl.length = hl) (h0 : 0 < hl.length) (hn : 1 = μ.2.2.2.2.2.2) (hnr : ([a0] : List Value).all xl_nr = true) (hw : (rest.map fun v => if xl_1 v = true then 1 else 2).sum ≤ 8) (hlen : ∀ y h', P y h' → h'.length = hl.length) (kk : ∀ y h', P y h' → xl_W M rc rs pc2 L (.int y :: rest) (h.take r ++ (h' ++ h.drop (r + hl.length))) Po) : xl_W M rc rs pc L (a0 :: .ref r :: rest) h Po :=
  xl_vG (As := [a0]) d hv hcl hh rfl hn hw hnr hc hcut h0 (fun v h' ⟨z, e1, e2⟩ => ⟨hlen z h' e2, by rw [e1]; intro a e; cases e⟩) (fun v h' ⟨z, e1, e2⟩ => by subst e1; exact kk z h' e2)
theorem xl_vGV1 {ci r : Nat} {fs : List Value} {a0 : Value} {P : XH → Prop} (d : xl_Ca M pc μ pc2) (hv : xl_V μ) (hcl : ∃ T N, vwCl[ci]? = some (μ.1.cls, T, N)) (hc : xl_CV μ (.ref 0 :: [a0]) hl P) (hh : xl_n h r = some (.inr (ci, fs))) (hcut : (h.drop r).take hl.length = hl) (h0 : 0 < hl.length) (hn : 1 = μ.2.2.2.2.2.2) (hnr : ([a0] : List Value).all xl_nr = true) (hw : (rest.map fun v => if xl_1 v = true then 1 else 2).sum ≤ 8) (hlen : ∀ h', P h' → h'.length = hl.length) (kk : ∀ h', P h' → xl_W M rc rs pc2 L rest (h.take r ++ (h' ++ h.drop (r + hl.length))) Po) : xl_W M rc rs pc L (a0 :: .ref r :: rest) h Po :=
  xl_vG (As := [a0]) d hv hcl hh rfl hn hw hnr hc hcut h0 (fun v h' ⟨e1, e2⟩ => ⟨hlen h' e2, by rw [e1]; intro a e; cases e⟩) (fun v h' ⟨e1, e2⟩ => by subst e1; exact kk h' e2)
theorem xl_tGI1 {ci : Nat} {fs : List Value} {a0 : Value} {P : Int32 → XH → Prop} (d : xl_Ca M pc μ pc2) (hv : xl_V μ) (hcl : ∃ T N, vwCl[ci]? = some (μ.1.cls, T, N)) (hc : xl_CI μ (.ref 0 :: [a0]) h P) (hh : xl_n h 0 = some (.inr (ci, fs))) (hn : 1 = μ.2.2.2.2.2.2) (hw : (rest.map fun v => if xl_1 v = true then 1 else 2).sum ≤ 8) (hlen : ∀ y h', P y h' → h'.length = h.length) (kk : ∀ y h', P y h' → xl_W M rc rs pc2 L (.int y :: rest) h' Po) : xl_W M rc rs pc L (a0 :: .ref 0 :: rest) h Po :=
  xl_tG (As := [a0]) d hv hcl hh rfl hn hw hc (fun v h' ⟨z, e1, e2⟩ => ⟨hlen z h' e2, by rw [e1]; intro a e; cases e⟩) (fun v h' ⟨z, e1, e2⟩ => by subst e1; exact kk z h' e2)
theorem xl_tGV1 {ci : Nat} {fs : List Value} {a0 : Value} {P : XH → Prop} (d : xl_Ca M pc μ pc2) (hv : xl_V μ) (hcl : ∃ T N, vwCl[ci]? = some (μ.1.cls, T, N)) (hc : xl_CV μ (.ref 0 :: [a0]) h P) (hh : xl_n h 0 = some (.inr (ci, fs))) (hn : 1 = μ.2.2.2.2.2.2) (hw : (rest.map fun v => if xl_1 v = true then 1 else 2).sum ≤ 8) (hlen : ∀ h', P h' → h'.length = h.length) (kk : ∀ h', P h' → xl_W M rc rs pc2 L rest h' Po) : xl_W M rc rs pc L (a0 :: .ref 0 :: rest) h Po :=
  xl_tG (As := [a0]) d hv hcl hh rfl hn hw hc (fun v h' ⟨e1, e2⟩ => ⟨hlen h' e2, by rw [e1]; intro a e; cases e⟩) (fun v h' ⟨e1, e2⟩ => by subst e1; exact kk h' e2)
theorem xl_vI2 {ci r : Nat} {fs : List Value} {a0 a1 : Value} {y : Int32} (d : xl_Ca M pc μ pc2) (hv : xl_V μ) (hcl : ∃ T N, vwCl[ci]? = some (μ.1.cls, T, N)) (hc : xl_RI μ (.ref 0 :: [a0, a1]) hl y) (hh : xl_n h r = some (.inr (ci, fs))) (hcut : (h.drop r).take hl.length = hl) (hn : 2 = μ.2.2.2.2.2.2) (hnr : ([a0, a1] : List Value).all xl_nr = true) (hw : (rest.map fun v => if xl_1 v = true then 1 else 2).sum ≤ 8) (kk : xl_W M rc rs pc2 L (.int y :: rest) h Po) : xl_W M rc rs pc L (a1 :: a0 :: .ref r :: rest) h Po :=
  xl_vR (As := [a0, a1]) (v0 := some (.int y)) d hv hcl hh rfl hn hw hnr hc hcut (fun v h' ⟨z, e1, e2, e3⟩ => ⟨by rw [e1, e2], e3⟩) (fun a e => by cases e) kk
theorem xl_tI2 {ci : Nat} {fs : List Value} {a0 a1 : Value} {y : Int32} (d : xl_Ca M pc μ pc2) (hv : xl_V μ) (hcl : ∃ T N, vwCl[ci]? = some (μ.1.cls, T, N)) (hc : xl_RI μ (.ref 0 :: [a0, a1]) h y) (hh : xl_n h 0 = some (.inr (ci, fs))) (hn : 2 = μ.2.2.2.2.2.2) (hw : (rest.map fun v => if xl_1 v = true then 1 else 2).sum ≤ 8) (kk : xl_W M rc rs pc2 L (.int y :: rest) h Po) : xl_W M rc rs pc L (a1 :: a0 :: .ref 0 :: rest) h Po :=
  xl_tG (As := [a0, a1]) d hv hcl hh rfl hn hw hc (fun v h' ⟨z, e1, e2, e3⟩ => ⟨by rw [e3], by rw [e1]; intro a e; cases e⟩) (fun v h' ⟨z, e1, e2, e3⟩ => by subst e1; subst e2; subst e3; exact kk)
theorem xl_vL2 {ci r : Nat} {fs : List Value} {a0 a1 : Value} {y : Int64} (d : xl_Ca M pc μ pc2) (hv : xl_V μ) (hcl : ∃ T N, vwCl[ci]? = some (μ.1.cls, T, N)) (hc : xl_RL μ (.ref 0 :: [a0, a1]) hl y) (hh : xl_n h r = some (.inr (ci, fs))) (hcut : (h.drop r).take hl.length = hl) (hn : 2 = μ.2.2.2.2.2.2) (hnr : ([a0, a1] : List Value).all xl_nr = true) (hw : (rest.map fun v => if xl_1 v = true then 1 else 2).sum ≤ 8) (kk : xl_W M rc rs pc2 L (.long y :: rest) h Po) : xl_W M rc rs pc L (a1 :: a0 :: .ref r :: rest) h Po :=
  xl_vR (As := [a0, a1]) (v0 := some (.long y)) d hv hcl hh rfl hn hw hnr hc hcut (fun v h' ⟨z, e1, e2, e3⟩ => ⟨by rw [e1, e2], e3⟩) (fun a e => by cases e) kk
theorem xl_tL2 {ci : Nat} {fs : List Value} {a0 a1 : Value} {y : Int64} (d : xl_Ca M pc μ pc2) (hv : xl_V μ) (hcl : ∃ T N, vwCl[ci]? = some (μ.1.cls, T, N)) (hc : xl_RL μ (.ref 0 :: [a0, a1]) h y) (hh : xl_n h 0 = some (.inr (ci, fs))) (hn : 2 = μ.2.2.2.2.2.2) (hw : (rest.map fun v => if xl_1 v = true then 1 else 2).sum ≤ 8) (kk : xl_W M rc rs pc2 L (.long y :: rest) h Po) : xl_W M rc rs pc L (a1 :: a0 :: .ref 0 :: rest) h Po :=
  xl_tG (As := [a0, a1]) d hv hcl hh rfl hn hw hc (fun v h' ⟨z, e1, e2, e3⟩ => ⟨by rw [e3], by rw [e1]; intro a e; cases e⟩) (fun v h' ⟨z, e1, e2, e3⟩ => by subst e1; subst e2; subst e3; exact kk)
theorem xl_vS2 {ci r : Nat} {fs : List Value} {a0 a1 : Value} {y : UInt32} (d : xl_Ca M pc μ pc2) (hv : xl_V μ) (hcl : ∃ T N, vwCl[ci]? = some (μ.1.cls, T, N)) (hc : xl_RS μ (.ref 0 :: [a0, a1]) hl y) (hh : xl_n h r = some (.inr (ci, fs))) (hcut : (h.drop r).take hl.length = hl) (hn : 2 = μ.2.2.2.2.2.2) (hnr : ([a0, a1] : List Value).all xl_nr = true) (hw : (rest.map fun v => if xl_1 v = true then 1 else 2).sum ≤ 8) (kk : xl_W M rc rs pc2 L (.float y :: rest) h Po) : xl_W M rc rs pc L (a1 :: a0 :: .ref r :: rest) h Po :=
  xl_vR (As := [a0, a1]) (v0 := some (.float y)) d hv hcl hh rfl hn hw hnr hc hcut (fun v h' ⟨z, e1, e2, e3⟩ => ⟨by rw [e1, e2], e3⟩) (fun a e => by cases e) kk
theorem xl_tS2 {ci : Nat} {fs : List Value} {a0 a1 : Value} {y : UInt32} (d : xl_Ca M pc μ pc2) (hv : xl_V μ) (hcl : ∃ T N, vwCl[ci]? = some (μ.1.cls, T, N)) (hc : xl_RS μ (.ref 0 :: [a0, a1]) h y) (hh : xl_n h 0 = some (.inr (ci, fs))) (hn : 2 = μ.2.2.2.2.2.2) (hw : (rest.map fun v => if xl_1 v = true then 1 else 2).sum ≤ 8) (kk : xl_W M rc rs pc2 L (.float y :: rest) h Po) : xl_W M rc rs pc L (a1 :: a0 :: .ref 0 :: rest) h Po :=
  xl_tG (As := [a0, a1]) d hv hcl hh rfl hn hw hc (fun v h' ⟨z, e1, e2, e3⟩ => ⟨by rw [e3], by rw [e1]; intro a e; cases e⟩) (fun v h' ⟨z, e1, e2, e3⟩ => by subst e1; subst e2; subst e3; exact kk)
theorem xl_vGI2 {ci r : Nat} {fs : List Value} {a0 a1 : Value} {P : Int32 → XH → Prop} (d : xl_Ca M pc μ pc2) (hv : xl_V μ) (hcl : ∃ T N, vwCl[ci]? = some (μ.1.cls, T, N)) (hc : xl_CI μ (.ref 0 :: [a0, a1]) hl P) (hh : xl_n h r = some (.inr (ci, fs))) (hcut : (h.drop r).take hl.length = hl) (h0 : 0 < hl.length) (hn : 2 = μ.2.2.2.2.2.2) (hnr : ([a0, a1] : List Value).all xl_nr = true) (hw : (rest.map fun v => if xl_1 v = true then 1 else 2).sum ≤ 8) (hlen : ∀ y h', P y h' → h'.length = hl.length) (kk : ∀ y h', P y h' → xl_W M rc rs pc2 L (.int y :: rest) (h.take r ++ (h' ++ h.drop (r + hl.length))) Po) : xl_W M rc rs pc L (a1 :: a0 :: .ref r :: rest) h Po :=
  xl_vG (As := [a0, a1]) d hv hcl hh rfl hn hw hnr hc hcut h0 (fun v h' ⟨z, e1, e2⟩ => ⟨hlen z h' e2, by rw [e1]; intro a e; cases e⟩) (fun v h' ⟨z, e1, e2⟩ => by subst e1; exact kk z h' e2)
theorem xl_vGV2 {ci r : Nat} {fs : List Value} {a0 a1 : Value} {P : XH → Prop} (d : xl_Ca M pc μ pc2) (hv : xl_V μ) (hcl : ∃ T N, vwCl[ci]? = some (μ.1.cls, T, N)) (hc : xl_CV μ (.ref 0 :: [a0, a1]) hl P) (hh : xl_n h r = some (.inr (ci, fs))) (hcut : (h.drop r).take hl.length = hl) (h0 : 0 < hl.length) (hn : 2 = μ.2.2.2.2.2.2) (hnr : ([a0, a1] : List Value).all xl_nr = true) (hw : (rest.map fun v => if xl_1 v = true then 1 else 2).sum ≤ 8) (hlen : ∀ h', P h' → h'.length = hl.length) (kk : ∀ h', P h' → xl_W M rc rs pc2 L rest (h.take r ++ (h' ++ h.drop (r + hl.length))) Po) : xl_W M rc rs pc L (a1 :: a0 :: .ref r :: rest) h Po :=
  xl_vG (As := [a0, a1]) d hv hcl hh rfl hn hw hnr hc hcut h0 (fun v h' ⟨e1, e2⟩ => ⟨hlen h' e2, by rw [e1]; intro a e; cases e⟩) (fun v h' ⟨e1, e2⟩ => by subst e1; exact kk h' e2)
theorem xl_tGI2 {ci : Nat} {fs : List Value} {a0 a1 : Value} {P : Int32 → XH → Prop} (d : xl_Ca M pc μ pc2) (hv : xl_V μ) (hcl : ∃ T N, vwCl[ci]? = some (μ.1.cls, T, N)) (hc : xl_CI μ (.ref 0 :: [a0, a1]) h P) (hh : xl_n h 0 = some (.inr (ci, fs))) (hn : 2 = μ.2.2.2.2.2.2) (hw : (rest.map fun v => if xl_1 v = true then 1 else 2).sum ≤ 8) (hlen : ∀ y h', P y h' → h'.length = h.length) (kk : ∀ y h', P y h' → xl_W M rc rs pc2 L (.int y :: rest) h' Po) : xl_W M rc rs pc L (a1 :: a0 :: .ref 0 :: rest) h Po :=
  xl_tG (As := [a0, a1]) d hv hcl hh rfl hn hw hc (fun v h' ⟨z, e1, e2⟩ => ⟨hlen z h' e2, by rw [e1]; intro a e; cases e⟩) (fun v h' ⟨z, e1, e2⟩ => by subst e1; exact kk z h' e2)
theorem xl_tGV2 {ci : Nat} {fs : List Value} {a0 a1 : Value} {P : XH → Prop} (d : xl_Ca M pc μ pc2) (hv : xl_V μ) (hcl : ∃ T N, vwCl[ci]? = some (μ.1.cls, T, N)) (hc : xl_CV μ (.ref 0 :: [a0, a1]) h P) (hh : xl_n h 0 = some (.inr (ci, fs))) (hn : 2 = μ.2.2.2.2.2.2) (hw : (rest.map fun v => if xl_1 v = true then 1 else 2).sum ≤ 8) (hlen : ∀ h', P h' → h'.length = h.length) (kk : ∀ h', P h' → xl_W M rc rs pc2 L rest h' Po) : xl_W M rc rs pc L (a1 :: a0 :: .ref 0 :: rest) h Po :=
  xl_tG (As := [a0, a1]) d hv hcl hh rfl hn hw hc (fun v h' ⟨e1, e2⟩ => ⟨hlen h' e2, by rw [e1]; intro a e; cases e⟩) (fun v h' ⟨e1, e2⟩ => by subst e1; exact kk h' e2)
theorem xl_vI3 {ci r : Nat} {fs : List Value} {a0 a1 a2 : Value} {y : Int32} (d : xl_Ca M pc μ pc2) (hv : xl_V μ) (hcl : ∃ T N, vwCl[ci]? = some (μ.1.cls, T, N)) (hc : xl_RI μ (.ref 0 :: [a0, a1, a2]) hl y) (hh : xl_n h r = some (.inr (ci, fs))) (hcut : (h.drop r).take hl.length = hl) (hn : 3 = μ.2.2.2.2.2.2) (hnr : ([a0, a1, a2] : List Value).all xl_nr = true) (hw : (rest.map fun v => if xl_1 v = true then 1 else 2).sum ≤ 8) (kk : xl_W M rc rs pc2 L (.int y :: rest) h Po) : xl_W M rc rs pc L (a2 :: a1 :: a0 :: .ref r :: rest) h Po :=
  xl_vR (As := [a0, a1, a2]) (v0 := some (.int y)) d hv hcl hh rfl hn hw hnr hc hcut (fun v h' ⟨z, e1, e2, e3⟩ => ⟨by rw [e1, e2], e3⟩) (fun a e => by cases e) kk
theorem xl_tI3 {ci : Nat} {fs : List Value} {a0 a1 a2 : Value} {y : Int32} (d : xl_Ca M pc μ pc2) (hv : xl_V μ) (hcl : ∃ T N, vwCl[ci]? = some (μ.1.cls, T, N)) (hc : xl_RI μ (.ref 0 :: [a0, a1, a2]) h y) (hh : xl_n h 0 = some (.inr (ci, fs))) (hn : 3 = μ.2.2.2.2.2.2) (hw : (rest.map fun v => if xl_1 v = true then 1 else 2).sum ≤ 8) (kk : xl_W M rc rs pc2 L (.int y :: rest) h Po) : xl_W M rc rs pc L (a2 :: a1 :: a0 :: .ref 0 :: rest) h Po :=
  xl_tG (As := [a0, a1, a2]) d hv hcl hh rfl hn hw hc (fun v h' ⟨z, e1, e2, e3⟩ => ⟨by rw [e3], by rw [e1]; intro a e; cases e⟩) (fun v h' ⟨z, e1, e2, e3⟩ => by subst e1; subst e2; subst e3; exact kk)
theorem xl_vGI3 {ci r : Nat} {fs : List Value} {a0 a1 a2 : Value} {P : Int32 → XH → Prop} (d : xl_Ca M pc μ pc2) (hv : xl_V μ) (hcl : ∃ T N, vwCl[ci]? = some (μ.1.cls, T, N)) (hc : xl_CI μ (.ref 0 :: [a0, a1, a2]) hl P) (hh : xl_n h r = some (.inr (ci, fs))) (hcut : (h.drop r).take hl.length = hl) (h0 : 0 < hl.length) (hn : 3 = μ.2.2.2.2.2.2) (hnr : ([a0, a1, a2] : List Value).all xl_nr = true) (hw : (rest.map fun v => if xl_1 v = true then 1 else 2).sum ≤ 8) (hlen : ∀ y h', P y h' → h'.length = hl.length) (kk : ∀ y h', P y h' → xl_W M rc rs pc2 L (.int y :: rest) (h.take r ++ (h' ++ h.drop (r + hl.length))) Po) : xl_W M rc rs pc L (a2 :: a1 :: a0 :: .ref r :: rest) h Po :=
  xl_vG (As := [a0, a1, a2]) d hv hcl hh rfl hn hw hnr hc hcut h0 (fun v h' ⟨z, e1, e2⟩ => ⟨hlen z h' e2, by rw [e1]; intro a e; cases e⟩) (fun v h' ⟨z, e1, e2⟩ => by subst e1; exact kk z h' e2)
theorem xl_vGV3 {ci r : Nat} {fs : List Value} {a0 a1 a2 : Value} {P : XH → Prop} (d : xl_Ca M pc μ pc2) (hv : xl_V μ) (hcl : ∃ T N, vwCl[ci]? = some (μ.1.cls, T, N)) (hc : xl_CV μ (.ref 0 :: [a0, a1, a2]) hl P) (hh : xl_n h r = some (.inr (ci, fs))) (hcut : (h.drop r).take hl.length = hl) (h0 : 0 < hl.length) (hn : 3 = μ.2.2.2.2.2.2) (hnr : ([a0, a1, a2] : List Value).all xl_nr = true) (hw : (rest.map fun v => if xl_1 v = true then 1 else 2).sum ≤ 8) (hlen : ∀ h', P h' → h'.length = hl.length) (kk : ∀ h', P h' → xl_W M rc rs pc2 L rest (h.take r ++ (h' ++ h.drop (r + hl.length))) Po) : xl_W M rc rs pc L (a2 :: a1 :: a0 :: .ref r :: rest) h Po :=
  xl_vG (As := [a0, a1, a2]) d hv hcl hh rfl hn hw hnr hc hcut h0 (fun v h' ⟨e1, e2⟩ => ⟨hlen h' e2, by rw [e1]; intro a e; cases e⟩) (fun v h' ⟨e1, e2⟩ => by subst e1; exact kk h' e2)
theorem xl_tGI3 {ci : Nat} {fs : List Value} {a0 a1 a2 : Value} {P : Int32 → XH → Prop} (d : xl_Ca M pc μ pc2) (hv : xl_V μ) (hcl : ∃ T N, vwCl[ci]? = some (μ.1.cls, T, N)) (hc : xl_CI μ (.ref 0 :: [a0, a1, a2]) h P) (hh : xl_n h 0 = some (.inr (ci, fs))) (hn : 3 = μ.2.2.2.2.2.2) (hw : (rest.map fun v => if xl_1 v = true then 1 else 2).sum ≤ 8) (hlen : ∀ y h', P y h' → h'.length = h.length) (kk : ∀ y h', P y h' → xl_W M rc rs pc2 L (.int y :: rest) h' Po) : xl_W M rc rs pc L (a2 :: a1 :: a0 :: .ref 0 :: rest) h Po :=
  xl_tG (As := [a0, a1, a2]) d hv hcl hh rfl hn hw hc (fun v h' ⟨z, e1, e2⟩ => ⟨hlen z h' e2, by rw [e1]; intro a e; cases e⟩) (fun v h' ⟨z, e1, e2⟩ => by subst e1; exact kk z h' e2)
theorem xl_tGV3 {ci : Nat} {fs : List Value} {a0 a1 a2 : Value} {P : XH → Prop} (d : xl_Ca M pc μ pc2) (hv : xl_V μ) (hcl : ∃ T N, vwCl[ci]? = some (μ.1.cls, T, N)) (hc : xl_CV μ (.ref 0 :: [a0, a1, a2]) h P) (hh : xl_n h 0 = some (.inr (ci, fs))) (hn : 3 = μ.2.2.2.2.2.2) (hw : (rest.map fun v => if xl_1 v = true then 1 else 2).sum ≤ 8) (hlen : ∀ h', P h' → h'.length = h.length) (kk : ∀ h', P h' → xl_W M rc rs pc2 L rest h' Po) : xl_W M rc rs pc L (a2 :: a1 :: a0 :: .ref 0 :: rest) h Po :=
  xl_tG (As := [a0, a1, a2]) d hv hcl hh rfl hn hw hc (fun v h' ⟨e1, e2⟩ => ⟨hlen h' e2, by rw [e1]; intro a e; cases e⟩) (fun v h' ⟨e1, e2⟩ => by subst e1; exact kk h' e2)
theorem xl_vI4 {ci r : Nat} {fs : List Value} {a0 a1 a2 a3 : Value} {y : Int32} (d : xl_Ca M pc μ pc2) (hv : xl_V μ) (hcl : ∃ T N, vwCl[ci]? = some (μ.1.cls, T, N)) (hc : xl_RI μ (.ref 0 :: [a0, a1, a2, a3]) hl y) (hh : xl_n h r = some (.inr (ci, fs))) (hcut : (h.drop r).take hl.length = hl) (hn : 4 = μ.2.2.2.2.2.2) (hnr : ([a0, a1, a2, a3] : List Value).all xl_nr = true) (hw : (rest.map fun v => if xl_1 v = true then 1 else 2).sum ≤ 8) (kk : xl_W M rc rs pc2 L (.int y :: rest) h Po) : xl_W M rc rs pc L (a3 :: a2 :: a1 :: a0 :: .ref r :: rest) h Po :=
  xl_vR (As := [a0, a1, a2, a3]) (v0 := some (.int y)) d hv hcl hh rfl hn hw hnr hc hcut (fun v h' ⟨z, e1, e2, e3⟩ => ⟨by rw [e1, e2], e3⟩) (fun a e => by cases e) kk
theorem xl_tI4 {ci : Nat} {fs : List Value} {a0 a1 a2 a3 : Value} {y : Int32} (d : xl_Ca M pc μ pc2) (hv : xl_V μ) (hcl : ∃ T N, vwCl[ci]? = some (μ.1.cls, T, N)) (hc : xl_RI μ (.ref 0 :: [a0, a1, a2, a3]) h y) (hh : xl_n h 0 = some (.inr (ci, fs))) (hn : 4 = μ.2.2.2.2.2.2) (hw : (rest.map fun v => if xl_1 v = true then 1 else 2).sum ≤ 8) (kk : xl_W M rc rs pc2 L (.int y :: rest) h Po) : xl_W M rc rs pc L (a3 :: a2 :: a1 :: a0 :: .ref 0 :: rest) h Po :=
  xl_tG (As := [a0, a1, a2, a3]) d hv hcl hh rfl hn hw hc (fun v h' ⟨z, e1, e2, e3⟩ => ⟨by rw [e3], by rw [e1]; intro a e; cases e⟩) (fun v h' ⟨z, e1, e2, e3⟩ => by subst e1; subst e2; subst e3; exact kk)
theorem xl_vGI4 {ci r : Nat} {fs : List Value} {a0 a1 a2 a3 : Value} {P : Int32 → XH → Prop} (d : xl_Ca M pc μ pc2) (hv : xl_V μ) (hcl : ∃ T N, vwCl[ci]? = some (μ.1.cls, T, N)) (hc : xl_CI μ (.ref 0 :: [a0, a1, a2, a3]) hl P) (hh : xl_n h r = some (.inr (ci, fs))) (hcut : (h.drop r).take hl.length = hl) (h0 : 0 < hl.length) (hn : 4 = μ.2.2.2.2.2.2) (hnr : ([a0, a1, a2, a3] : List Value).all xl_nr = true) (hw : (rest.map fun v => if xl_1 v = true then 1 else 2).sum ≤ 8) (hlen : ∀ y h', P y h' → h'.length = hl.length) (kk : ∀ y h', P y h' → xl_W M rc rs pc2 L (.int y :: rest) (h.take r ++ (h' ++ h.drop (r + hl.length))) Po) : xl_W M rc rs pc L (a3 :: a2 :: a1 :: a0 :: .ref r :: rest) h Po :=
  xl_vG (As := [a0, a1, a2, a3]) d hv hcl hh rfl hn hw hnr hc hcut h0 (fun v h' ⟨z, e1, e2⟩ => ⟨hlen z h' e2, by rw [e1]; intro a e; cases e⟩) (fun v h' ⟨z, e1, e2⟩ => by subst e1; exact kk z h' e2)
theorem xl_vGV4 {ci r : Nat} {fs : List Value} {a0 a1 a2 a3 : Value} {P : XH → Prop} (d : xl_Ca M pc μ pc2) (hv : xl_V μ) (hcl : ∃ T N, vwCl[ci]? = some (μ.1.cls, T, N)) (hc : xl_CV μ (.ref 0 :: [a0, a1, a2, a3]) hl P) (hh : xl_n h r = some (.inr (ci, fs))) (hcut : (h.drop r).take hl.length = hl) (h0 : 0 < hl.length) (hn : 4 = μ.2.2.2.2.2.2) (hnr : ([a0, a1, a2, a3] : List Value).all xl_nr = true) (hw : (rest.map fun v => if xl_1 v = true then 1 else 2).sum ≤ 8) (hlen : ∀ h', P h' → h'.length = hl.length) (kk : ∀ h', P h' → xl_W M rc rs pc2 L rest (h.take r ++ (h' ++ h.drop (r + hl.length))) Po) : xl_W M rc rs pc L (a3 :: a2 :: a1 :: a0 :: .ref r :: rest) h Po :=
  xl_vG (As := [a0, a1, a2, a3]) d hv hcl hh rfl hn hw hnr hc hcut h0 (fun v h' ⟨e1, e2⟩ => ⟨hlen h' e2, by rw [e1]; intro a e; cases e⟩) (fun v h' ⟨e1, e2⟩ => by subst e1; exact kk h' e2)
theorem xl_tGI4 {ci : Nat} {fs : List Value} {a0 a1 a2 a3 : Value} {P : Int32 → XH → Prop} (d : xl_Ca M pc μ pc2) (hv : xl_V μ) (hcl : ∃ T N, vwCl[ci]? = some (μ.1.cls, T, N)) (hc : xl_CI μ (.ref 0 :: [a0, a1, a2, a3]) h P) (hh : xl_n h 0 = some (.inr (ci, fs))) (hn : 4 = μ.2.2.2.2.2.2) (hw : (rest.map fun v => if xl_1 v = true then 1 else 2).sum ≤ 8) (hlen : ∀ y h', P y h' → h'.length = h.length) (kk : ∀ y h', P y h' → xl_W M rc rs pc2 L (.int y :: rest) h' Po) : xl_W M rc rs pc L (a3 :: a2 :: a1 :: a0 :: .ref 0 :: rest) h Po :=
  xl_tG (As := [a0, a1, a2, a3]) d hv hcl hh rfl hn hw hc (fun v h' ⟨z, e1, e2⟩ => ⟨hlen z h' e2, by rw [e1]; intro a e; cases e⟩) (fun v h' ⟨z, e1, e2⟩ => by subst e1; exact kk z h' e2)
theorem xl_tGV4 {ci : Nat} {fs : List Value} {a0 a1 a2 a3 : Value} {P : XH → Prop} (d : xl_Ca M pc μ pc2) (hv : xl_V μ) (hcl : ∃ T N, vwCl[ci]? = some (μ.1.cls, T, N)) (hc : xl_CV μ (.ref 0 :: [a0, a1, a2, a3]) h P) (hh : xl_n h 0 = some (.inr (ci, fs))) (hn : 4 = μ.2.2.2.2.2.2) (hw : (rest.map fun v => if xl_1 v = true then 1 else 2).sum ≤ 8) (hlen : ∀ h', P h' → h'.length = h.length) (kk : ∀ h', P h' → xl_W M rc rs pc2 L rest h' Po) : xl_W M rc rs pc L (a3 :: a2 :: a1 :: a0 :: .ref 0 :: rest) h Po :=
  xl_tG (As := [a0, a1, a2, a3]) d hv hcl hh rfl hn hw hc (fun v h' ⟨e1, e2⟩ => ⟨hlen h' e2, by rw [e1]; intro a e; cases e⟩) (fun v h' ⟨e1, e2⟩ => by subst e1; exact kk h' e2)
theorem xl_vI5 {ci r : Nat} {fs : List Value} {a0 a1 a2 a3 a4 : Value} {y : Int32} (d : xl_Ca M pc μ pc2) (hv : xl_V μ) (hcl : ∃ T N, vwCl[ci]? = some (μ.1.cls, T, N)) (hc : xl_RI μ (.ref 0 :: [a0, a1, a2, a3, a4]) hl y) (hh : xl_n h r = some (.inr (ci, fs))) (hcut : (h.drop r).take hl.length = hl) (hn : 5 = μ.2.2.2.2.2.2) (hnr : ([a0, a1, a2, a3, a4] : List Value).all xl_nr = true) (hw : (rest.map fun v => if xl_1 v = true then 1 else 2).sum ≤ 8) (kk : xl_W M rc rs pc2 L (.int y :: rest) h Po) : xl_W M rc rs pc L (a4 :: a3 :: a2 :: a1 :: a0 :: .ref r :: rest) h Po :=
  xl_vR (As := [a0, a1, a2, a3, a4]) (v0 := some (.int y)) d hv hcl hh rfl hn hw hnr hc hcut (fun v h' ⟨z, e1, e2, e3⟩ => ⟨by rw [e1, e2], e3⟩) (fun a e => by cases e) kk
theorem xl_tI5 {ci : Nat} {fs : List Value} {a0 a1 a2 a3 a4 : Value} {y : Int32} (d : xl_Ca M pc μ pc2) (hv : xl_V μ) (hcl : ∃ T N, vwCl[ci]? = some (μ.1.cls, T, N)) (hc : xl_RI μ (.ref 0 :: [a0, a1, a2, a3, a4]) h y) (hh : xl_n h 0 = some (.inr (ci, fs))) (hn : 5 = μ.2.2.2.2.2.2) (hw : (rest.map fun v => if xl_1 v = true then 1 else 2).sum ≤ 8) (kk : xl_W M rc rs pc2 L (.int y :: rest) h Po) : xl_W M rc rs pc L (a4 :: a3 :: a2 :: a1 :: a0 :: .ref 0 :: rest) h Po :=
  xl_tG (As := [a0, a1, a2, a3, a4]) d hv hcl hh rfl hn hw hc (fun v h' ⟨z, e1, e2, e3⟩ => ⟨by rw [e3], by rw [e1]; intro a e; cases e⟩) (fun v h' ⟨z, e1, e2, e3⟩ => by subst e1; subst e2; subst e3; exact kk)
theorem xl_vGI5 {ci r : Nat} {fs : List Value} {a0 a1 a2 a3 a4 : Value} {P : Int32 → XH → Prop} (d : xl_Ca M pc μ pc2) (hv : xl_V μ) (hcl : ∃ T N, vwCl[ci]? = some (μ.1.cls, T, N)) (hc : xl_CI μ (.ref 0 :: [a0, a1, a2, a3, a4]) hl P) (hh : xl_n h r = some (.inr (ci, fs))) (hcut : (h.drop r).take hl.length = hl) (h0 : 0 < hl.length) (hn : 5 = μ.2.2.2.2.2.2) (hnr : ([a0, a1, a2, a3, a4] : List Value).all xl_nr = true) (hw : (rest.map fun v => if xl_1 v = true then 1 else 2).sum ≤ 8) (hlen : ∀ y h', P y h' → h'.length = hl.length) (kk : ∀ y h', P y h' → xl_W M rc rs pc2 L (.int y :: rest) (h.take r ++ (h' ++ h.drop (r + hl.length))) Po) : xl_W M rc rs pc L (a4 :: a3 :: a2 :: a1 :: a0 :: .ref r :: rest) h Po :=
  xl_vG (As := [a0, a1, a2, a3, a4]) d hv hcl hh rfl hn hw hnr hc hcut h0 (fun v h' ⟨z, e1, e2⟩ => ⟨hlen z h' e2, by rw [e1]; intro a e; cases e⟩) (fun v h' ⟨z, e1, e2⟩ => by subst e1; exact kk z h' e2)
theorem xl_vGV5 {ci r : Nat} {fs : List Value} {a0 a1 a2 a3 a4 : Value} {P : XH → Prop} (d : xl_Ca M pc μ pc2) (hv : xl_V μ) (hcl : ∃ T N, vwCl[ci]? = some (μ.1.cls, T, N)) (hc : xl_CV μ (.ref 0 :: [a0, a1, a2, a3, a4]) hl P) (hh : xl_n h r = some (.inr (ci, fs))) (hcut : (h.drop r).take hl.length = hl) (h0 : 0 < hl.length) (hn : 5 = μ.2.2.2.2.2.2) (hnr : ([a0, a1, a2, a3, a4] : List Value).all xl_nr = true) (hw : (rest.map fun v => if xl_1 v = true then 1 else 2).sum ≤ 8) (hlen : ∀ h', P h' → h'.length = hl.length) (kk : ∀ h', P h' → xl_W M rc rs pc2 L rest (h.take r ++ (h' ++ h.drop (r + hl.length))) Po) : xl_W M rc rs pc L (a4 :: a3 :: a2 :: a1 :: a0 :: .ref r :: rest) h Po :=
  xl_vG (As := [a0, a1, a2, a3, a4]) d hv hcl hh rfl hn hw hnr hc hcut h0 (fun v h' ⟨e1, e2⟩ => ⟨hlen h' e2, by rw [e1]; intro a e; cases e⟩) (fun v h' ⟨e1, e2⟩ => by subst e1; exact kk h' e2)
theorem xl_tGI5 {ci : Nat} {fs : List Value} {a0 a1 a2 a3 a4 : Value} {P : Int32 → XH → Prop} (d : xl_Ca M pc μ pc2) (hv : xl_V μ) (hcl : ∃ T N, vwCl[ci]? = some (μ.1.cls, T, N)) (hc : xl_CI μ (.ref 0 :: [a0, a1, a2, a3, a4]) h P) (hh : xl_n h 0 = some (.inr (ci, fs))) (hn : 5 = μ.2.2.2.2.2.2) (hw : (rest.map fun v => if xl_1 v = true then 1 else 2).sum ≤ 8) (hlen : ∀ y h', P y h' → h'.length = h.length) (kk : ∀ y h', P y h' → xl_W M rc rs pc2 L (.int y :: rest) h' Po) : xl_W M rc rs pc L (a4 :: a3 :: a2 :: a1 :: a0 :: .ref 0 :: rest) h Po :=
  xl_tG (As := [a0, a1, a2, a3, a4]) d hv hcl hh rfl hn hw hc (fun v h' ⟨z, e1, e2⟩ => ⟨hlen z h' e2, by rw [e1]; intro a e; cases e⟩) (fun v h' ⟨z, e1, e2⟩ => by subst e1; exact kk z h' e2)
theorem xl_tGV5 {ci : Nat} {fs : List Value} {a0 a1 a2 a3 a4 : Value} {P : XH → Prop} (d : xl_Ca M pc μ pc2) (hv : xl_V μ) (hcl : ∃ T N, vwCl[ci]? = some (μ.1.cls, T, N)) (hc : xl_CV μ (.ref 0 :: [a0, a1, a2, a3, a4]) h P) (hh : xl_n h 0 = some (.inr (ci, fs))) (hn : 5 = μ.2.2.2.2.2.2) (hw : (rest.map fun v => if xl_1 v = true then 1 else 2).sum ≤ 8) (hlen : ∀ h', P h' → h'.length = h.length) (kk : ∀ h', P h' → xl_W M rc rs pc2 L rest h' Po) : xl_W M rc rs pc L (a4 :: a3 :: a2 :: a1 :: a0 :: .ref 0 :: rest) h Po :=
  xl_tG (As := [a0, a1, a2, a3, a4]) d hv hcl hh rfl hn hw hc (fun v h' ⟨e1, e2⟩ => ⟨hlen h' e2, by rw [e1]; intro a e; cases e⟩) (fun v h' ⟨e1, e2⟩ => by subst e1; exact kk h' e2)
theorem xl_vI6 {ci r : Nat} {fs : List Value} {a0 a1 a2 a3 a4 a5 : Value} {y : Int32} (d : xl_Ca M pc μ pc2) (hv : xl_V μ) (hcl : ∃ T N, vwCl[ci]? = some (μ.1.cls, T, N)) (hc : xl_RI μ (.ref 0 :: [a0, a1, a2, a3, a4, a5]) hl y) (hh : xl_n h r = some (.inr (ci, fs))) (hcut : (h.drop r).take hl.length = hl) (hn : 6 = μ.2.2.2.2.2.2) (hnr : ([a0, a1, a2, a3, a4, a5] : List Value).all xl_nr = true) (hw : (rest.map fun v => if xl_1 v = true then 1 else 2).sum ≤ 8) (kk : xl_W M rc rs pc2 L (.int y :: rest) h Po) : xl_W M rc rs pc L (a5 :: a4 :: a3 :: a2 :: a1 :: a0 :: .ref r :: rest) h Po :=
  xl_vR (As := [a0, a1, a2, a3, a4, a5]) (v0 := some (.int y)) d hv hcl hh rfl hn hw hnr hc hcut (fun v h' ⟨z, e1, e2, e3⟩ => ⟨by rw [e1, e2], e3⟩) (fun a e => by cases e) kk
theorem xl_tI6 {ci : Nat} {fs : List Value} {a0 a1 a2 a3 a4 a5 : Value} {y : Int32} (d : xl_Ca M pc μ pc2) (hv : xl_V μ) (hcl : ∃ T N, vwCl[ci]? = some (μ.1.cls, T, N)) (hc : xl_RI μ (.ref 0 :: [a0, a1, a2, a3, a4, a5]) h y) (hh : xl_n h 0 = some (.inr (ci, fs))) (hn : 6 = μ.2.2.2.2.2.2) (hw : (rest.map fun v => if xl_1 v = true then 1 else 2).sum ≤ 8) (kk : xl_W M rc rs pc2 L (.int y :: rest) h Po) : xl_W M rc rs pc L (a5 :: a4 :: a3 :: a2 :: a1 :: a0 :: .ref 0 :: rest) h Po :=
  xl_tG (As := [a0, a1, a2, a3, a4, a5]) d hv hcl hh rfl hn hw hc (fun v h' ⟨z, e1, e2, e3⟩ => ⟨by rw [e3], by rw [e1]; intro a e; cases e⟩) (fun v h' ⟨z, e1, e2, e3⟩ => by subst e1; subst e2; subst e3; exact kk)
theorem xl_vGI6 {ci r : Nat} {fs : List Value} {a0 a1 a2 a3 a4 a5 : Value} {P : Int32 → XH → Prop} (d : xl_Ca M pc μ pc2) (hv : xl_V μ) (hcl : ∃ T N, vwCl[ci]? = some (μ.1.cls, T, N)) (hc : xl_CI μ (.ref 0 :: [a0, a1, a2, a3, a4, a5]) hl P) (hh : xl_n h r = some (.inr (ci, fs))) (hcut : (h.drop r).take hl.length = hl) (h0 : 0 < hl.length) (hn : 6 = μ.2.2.2.2.2.2) (hnr : ([a0, a1, a2, a3, a4, a5] : List Value).all xl_nr = true) (hw : (rest.map fun v => if xl_1 v = true then 1 else 2).sum ≤ 8) (hlen : ∀ y h', P y h' → h'.length = hl.length) (kk : ∀ y h', P y h' → xl_W M rc rs pc2 L (.int y :: rest) (h.take r ++ (h' ++ h.drop (r + hl.length))) Po) : xl_W M rc rs pc L (a5 :: a4 :: a3 :: a2 :: a1 :: a0 :: .ref r :: rest) h Po :=
  xl_vG (As := [a0, a1, a2, a3, a4, a5]) d hv hcl hh rfl hn hw hnr hc hcut h0 (fun v h' ⟨z, e1, e2⟩ => ⟨hlen z h' e2, by rw [e1]; intro a e; cases e⟩) (fun v h' ⟨z, e1, e2⟩ => by subst e1; exact kk z h' e2)
theorem xl_vGV6 {ci r : Nat} {fs : List Value} {a0 a1 a2 a3 a4 a5 : Value} {P : XH → Prop} (d : xl_Ca M pc μ pc2) (hv : xl_V μ) (hcl : ∃ T N, vwCl[ci]? = some (μ.1.cls, T, N)) (hc : xl_CV μ (.ref 0 :: [a0, a1, a2, a3, a4, a5]) hl P) (hh : xl_n h r = some (.inr (ci, fs))) (hcut : (h.drop r).take hl.length = hl) (h0 : 0 < hl.length) (hn : 6 = μ.2.2.2.2.2.2) (hnr : ([a0, a1, a2, a3, a4, a5] : List Value).all xl_nr = true) (hw : (rest.map fun v => if xl_1 v = true then 1 else 2).sum ≤ 8) (hlen : ∀ h', P h' → h'.length = hl.length) (kk : ∀ h', P h' → xl_W M rc rs pc2 L rest (h.take r ++ (h' ++ h.drop (r + hl.length))) Po) : xl_W M rc rs pc L (a5 :: a4 :: a3 :: a2 :: a1 :: a0 :: .ref r :: rest) h Po :=
  xl_vG (As := [a0, a1, a2, a3, a4, a5]) d hv hcl hh rfl hn hw hnr hc hcut h0 (fun v h' ⟨e1, e2⟩ => ⟨hlen h' e2, by rw [e1]; intro a e; cases e⟩) (fun v h' ⟨e1, e2⟩ => by subst e1; exact kk h' e2)
theorem xl_tGI6 {ci : Nat} {fs : List Value} {a0 a1 a2 a3 a4 a5 : Value} {P : Int32 → XH → Prop} (d : xl_Ca M pc μ pc2) (hv : xl_V μ) (hcl : ∃ T N, vwCl[ci]? = some (μ.1.cls, T, N)) (hc : xl_CI μ (.ref 0 :: [a0, a1, a2, a3, a4, a5]) h P) (hh : xl_n h 0 = some (.inr (ci, fs))) (hn : 6 = μ.2.2.2.2.2.2) (hw : (rest.map fun v => if xl_1 v = true then 1 else 2).sum ≤ 8) (hlen : ∀ y h', P y h' → h'.length = h.length) (kk : ∀ y h', P y h' → xl_W M rc rs pc2 L (.int y :: rest) h' Po) : xl_W M rc rs pc L (a5 :: a4 :: a3 :: a2 :: a1 :: a0 :: .ref 0 :: rest) h Po :=
  xl_tG (As := [a0, a1, a2, a3, a4, a5]) d hv hcl hh rfl hn hw hc (fun v h' ⟨z, e1, e2⟩ => ⟨hlen z h' e2, by rw [e1]; intro a e; cases e⟩) (fun v h' ⟨z, e1, e2⟩ => by subst e1; exact kk z h' e2)
theorem xl_tGV6 {ci : Nat} {fs : List Value} {a0 a1 a2 a3 a4 a5 : Value} {P : XH → Prop} (d : xl_Ca M pc μ pc2) (hv : xl_V μ) (hcl : ∃ T N, vwCl[ci]? = some (μ.1.cls, T, N)) (hc : xl_CV μ (.ref 0 :: [a0, a1, a2, a3, a4, a5]) h P) (hh : xl_n h 0 = some (.inr (ci, fs))) (hn : 6 = μ.2.2.2.2.2.2) (hw : (rest.map fun v => if xl_1 v = true then 1 else 2).sum ≤ 8) (hlen : ∀ h', P h' → h'.length = h.length) (kk : ∀ h', P h' → xl_W M rc rs pc2 L rest h' Po) : xl_W M rc rs pc L (a5 :: a4 :: a3 :: a2 :: a1 :: a0 :: .ref 0 :: rest) h Po :=
  xl_tG (As := [a0, a1, a2, a3, a4, a5]) d hv hcl hh rfl hn hw hc (fun v h' ⟨e1, e2⟩ => ⟨hlen h' e2, by rw [e1]; intro a e; cases e⟩) (fun v h' ⟨e1, e2⟩ => by subst e1; exact kk h' e2)
theorem xl_vI7 {ci r : Nat} {fs : List Value} {a0 a1 a2 a3 a4 a5 a6 : Value} {y : Int32} (d : xl_Ca M pc μ pc2) (hv : xl_V μ) (hcl : ∃ T N, vwCl[ci]? = some (μ.1.cls, T, N)) (hc : xl_RI μ (.ref 0 :: [a0, a1, a2, a3, a4, a5, a6]) hl y) (hh : xl_n h r = some (.inr (ci, fs))) (hcut : (h.drop r).take hl.length = hl) (hn : 7 = μ.2.2.2.2.2.2) (hnr : ([a0, a1, a2, a3, a4, a5, a6] : List Value).all xl_nr = true) (hw : (rest.map fun v => if xl_1 v = true then 1 else 2).sum ≤ 8) (kk : xl_W M rc rs pc2 L (.int y :: rest) h Po) : xl_W M rc rs pc L (a6 :: a5 :: a4 :: a3 :: a2 :: a1 :: a0 :: .ref r :: rest) h Po :=
  xl_vR (As := [a0, a1, a2, a3, a4, a5, a6]) (v0 := some (.int y)) d hv hcl hh rfl hn hw hnr hc hcut (fun v h' ⟨z, e1, e2, e3⟩ => ⟨by rw [e1, e2], e3⟩) (fun a e => by cases e) kk
theorem xl_tI7 {ci : Nat} {fs : List Value} {a0 a1 a2 a3 a4 a5 a6 : Value} {y : Int32} (d : xl_Ca M pc μ pc2) (hv : xl_V μ) (hcl : ∃ T N, vwCl[ci]? = some (μ.1.cls, T, N)) (hc : xl_RI μ (.ref 0 :: [a0, a1, a2, a3, a4, a5, a6]) h y) (hh : xl_n h 0 = some (.inr (ci, fs))) (hn : 7 = μ.2.2.2.2.2.2) (hw : (rest.map fun v => if xl_1 v = true then 1 else 2).sum ≤ 8) (kk : xl_W M rc rs pc2 L (.int y :: rest) h Po) : xl_W M rc rs pc L (a6 :: a5 :: a4 :: a3 :: a2 :: a1 :: a0 :: .ref 0 :: rest) h Po :=
  xl_tG (As := [a0, a1, a2, a3, a4, a5, a6]) d hv hcl hh rfl hn hw hc (fun v h' ⟨z, e1, e2, e3⟩ => ⟨by rw [e3], by rw [e1]; intro a e; cases e⟩) (fun v h' ⟨z, e1, e2, e3⟩ => by subst e1; subst e2; subst e3; exact kk)
theorem xl_vGI7 {ci r : Nat} {fs : List Value} {a0 a1 a2 a3 a4 a5 a6 : Value} {P : Int32 → XH → Prop} (d : xl_Ca M pc μ pc2) (hv : xl_V μ) (hcl : ∃ T N, vwCl[ci]? = some (μ.1.cls, T, N)) (hc : xl_CI μ (.ref 0 :: [a0, a1, a2, a3, a4, a5, a6]) hl P) (hh : xl_n h r = some (.inr (ci, fs))) (hcut : (h.drop r).take hl.length = hl) (h0 : 0 < hl.length) (hn : 7 = μ.2.2.2.2.2.2) (hnr : ([a0, a1, a2, a3, a4, a5, a6] : List Value).all xl_nr = true) (hw : (rest.map fun v => if xl_1 v = true then 1 else 2).sum ≤ 8) (hlen : ∀ y h', P y h' → h'.length = hl.length) (kk : ∀ y h', P y h' → xl_W M rc rs pc2 L (.int y :: rest) (h.take r ++ (h' ++ h.drop (r + hl.length))) Po) : xl_W M rc rs pc L (a6 :: a5 :: a4 :: a3 :: a2 :: a1 :: a0 :: .ref r :: rest) h Po :=
  xl_vG (As := [a0, a1, a2, a3, a4, a5, a6]) d hv hcl hh rfl hn hw hnr hc hcut h0 (fun v h' ⟨z, e1, e2⟩ => ⟨hlen z h' e2, by rw [e1]; intro a e; cases e⟩) (fun v h' ⟨z, e1, e2⟩ => by subst e1; exact kk z h' e2)
theorem xl_vGV7 {ci r : Nat} {fs : List Value} {a0 a1 a2 a3 a4 a5 a6 : Value} {P : XH → Prop} (d : xl_Ca M pc μ pc2) (hv : xl_V μ) (hcl : ∃ T N, vwCl[ci]? = some (μ.1.cls, T, N)) (hc : xl_CV μ (.ref 0 :: [a0, a1, a2, a3, a4, a5, a6]) hl P) (hh : xl_n h r = some (.inr (ci, fs))) (hcut : (h.drop r).take hl.length = hl) (h0 : 0 < hl.length) (hn : 7 = μ.2.2.2.2.2.2) (hnr : ([a0, a1, a2, a3, a4, a5, a6] : List Value).all xl_nr = true) (hw : (rest.map fun v => if xl_1 v = true then 1 else 2).sum ≤ 8) (hlen : ∀ h', P h' → h'.length = hl.length) (kk : ∀ h', P h' → xl_W M rc rs pc2 L rest (h.take r ++ (h' ++ h.drop (r + hl.length))) Po) : xl_W M rc rs pc L (a6 :: a5 :: a4 :: a3 :: a2 :: a1 :: a0 :: .ref r :: rest) h Po :=
  xl_vG (As := [a0, a1, a2, a3, a4, a5, a6]) d hv hcl hh rfl hn hw hnr hc hcut h0 (fun v h' ⟨e1, e2⟩ => ⟨hlen h' e2, by rw [e1]; intro a e; cases e⟩) (fun v h' ⟨e1, e2⟩ => by subst e1; exact kk h' e2)
theorem xl_tGI7 {ci : Nat} {fs : List Value} {a0 a1 a2 a3 a4 a5 a6 : Value} {P : Int32 → XH → Prop} (d : xl_Ca M pc μ pc2) (hv : xl_V μ) (hcl : ∃ T N, vwCl[ci]? = some (μ.1.cls, T, N)) (hc : xl_CI μ (.ref 0 :: [a0, a1, a2, a3, a4, a5, a6]) h P) (hh : xl_n h 0 = some (.inr (ci, fs))) (hn : 7 = μ.2.2.2.2.2.2) (hw : (rest.map fun v => if xl_1 v = true then 1 else 2).sum ≤ 8) (hlen : ∀ y h', P y h' → h'.length = h.length) (kk : ∀ y h', P y h' → xl_W M rc rs pc2 L (.int y :: rest) h' Po) : xl_W M rc rs pc L (a6 :: a5 :: a4 :: a3 :: a2 :: a1 :: a0 :: .ref 0 :: rest) h Po :=
  xl_tG (As := [a0, a1, a2, a3, a4, a5, a6]) d hv hcl hh rfl hn hw hc (fun v h' ⟨z, e1, e2⟩ => ⟨hlen z h' e2, by rw [e1]; intro a e; cases e⟩) (fun v h' ⟨z, e1, e2⟩ => by subst e1; exact kk z h' e2)
theorem xl_tGV7 {ci : Nat} {fs : List Value} {a0 a1 a2 a3 a4 a5 a6 : Value} {P : XH → Prop} (d : xl_Ca M pc μ pc2) (hv : xl_V μ) (hcl : ∃ T N, vwCl[ci]? = some (μ.1.cls, T, N)) (hc : xl_CV μ (.ref 0 :: [a0, a1, a2, a3, a4, a5, a6]) h P) (hh : xl_n h 0 = some (.inr (ci, fs))) (hn : 7 = μ.2.2.2.2.2.2) (hw : (rest.map fun v => if xl_1 v = true then 1 else 2).sum ≤ 8) (hlen : ∀ h', P h' → h'.length = h.length) (kk : ∀ h', P h' → xl_W M rc rs pc2 L rest h' Po) : xl_W M rc rs pc L (a6 :: a5 :: a4 :: a3 :: a2 :: a1 :: a0 :: .ref 0 :: rest) h Po :=
  xl_tG (As := [a0, a1, a2, a3, a4, a5, a6]) d hv hcl hh rfl hn hw hc (fun v h' ⟨e1, e2⟩ => ⟨hlen h' e2, by rw [e1]; intro a e; cases e⟩) (fun v h' ⟨e1, e2⟩ => by subst e1; exact kk h' e2)
/-- a static method -/
theorem xl_sG {As : List Value} (d : xl_Cs M pc μ pc2) (hv : xl_U μ) (hst : st = As.reverse ++ rest) (hn : As.length = μ.2.2.2.2.2.2) (hw : (rest.map fun v => if xl_1 v = true then 1 else 2).sum ≤ 8) (hnr : As.all xl_nr = true)
    (hc : xl_C μ 0 0 As [] Po') (hlen : ∀ v h', Po' v h' → h' = [] ∧ ∀ a, v ≠ some (.ref a)) (kk : ∀ v, Po' v [] → xl_W M rc rs pc2 L (v.toList ++ rest) h Po) : xl_W M rc rs pc L st h Po :=
  xl_callS (mc := 0) (ms := 0) (hl := []) (fun k => k) d hv hst hn hw (fun ρ σ => rfl) ⟨fun i j hi => by simp at hi, fun j hj => by simp at hj⟩ (fun j c e => by simp at e) hc (fun v h' p => ⟨by rw [(hlen v h' p).1], fun j c _ => xl_ok_all j c, (hlen v h' p).2⟩) (fun v h' h1 p hb => by
    have e1 : h1 = h := List.ext_getElem? (fun k => hb.2.2 k (fun j hj => by simp at hj))
    rw [e1]
    have e2 := (hlen v h' p).1
    subst e2
    exact kk v p)
theorem xl_sI0 {y : Int32} (d : xl_Cs M pc μ pc2) (hv : xl_U μ) (hc : xl_RI μ [] [] y) (hn : 0 = μ.2.2.2.2.2.2) (hnr : ([] : List Value).all xl_nr = true) (hw : (rest.map fun v => if xl_1 v = true then 1 else 2).sum ≤ 8) (kk : xl_W M rc rs pc2 L (.int y :: rest) h Po) : xl_W M rc rs pc L (rest) h Po :=
  xl_sG (As := []) d hv rfl hn hw hnr hc (fun v h' ⟨z, e1, e2, e3⟩ => ⟨e3, by rw [e1]; intro a e; cases e⟩) (fun v ⟨z, e1, e2, e3⟩ => by subst e1; subst e2; exact kk)
theorem xl_sL0 {y : Int64} (d : xl_Cs M pc μ pc2) (hv : xl_U μ) (hc : xl_RL μ [] [] y) (hn : 0 = μ.2.2.2.2.2.2) (hnr : ([] : List Value).all xl_nr = true) (hw : (rest.map fun v => if xl_1 v = true then 1 else 2).sum ≤ 8) (kk : xl_W M rc rs pc2 L (.long y :: rest) h Po) : xl_W M rc rs pc L (rest) h Po :=
  xl_sG (As := []) d hv rfl hn hw hnr hc (fun v h' ⟨z, e1, e2, e3⟩ => ⟨e3, by rw [e1]; intro a e; cases e⟩) (fun v ⟨z, e1, e2, e3⟩ => by subst e1; subst e2; exact kk)
theorem xl_sS0 {y : UInt32} (d : xl_Cs M pc μ pc2) (hv : xl_U μ) (hc : xl_RS μ [] [] y) (hn : 0 = μ.2.2.2.2.2.2) (hnr : ([] : List Value).all xl_nr = true) (hw : (rest.map fun v => if xl_1 v = true then 1 else 2).sum ≤ 8) (kk : xl_W M rc rs pc2 L (.float y :: rest) h Po) : xl_W M rc rs pc L (rest) h Po :=
  xl_sG (As := []) d hv rfl hn hw hnr hc (fun v h' ⟨z, e1, e2, e3⟩ => ⟨e3, by rw [e1]; intro a e; cases e⟩) (fun v ⟨z, e1, e2, e3⟩ => by subst e1; subst e2; exact kk)
theorem xl_sI1 {a0 : Value} {y : Int32} (d : xl_Cs M pc μ pc2) (hv : xl_U μ) (hc : xl_RI μ [a0] [] y) (hn : 1 = μ.2.2.2.2.2.2) (hnr : ([a0] : List Value).all xl_nr = true) (hw : (rest.map fun v => if xl_1 v = true then 1 else 2).sum ≤ 8) (kk : xl_W M rc rs pc2 L (.int y :: rest) h Po) : xl_W M rc rs pc L (a0 :: rest) h Po :=
  xl_sG (As := [a0]) d hv rfl hn hw hnr hc (fun v h' ⟨z, e1, e2, e3⟩ => ⟨e3, by rw [e1]; intro a e; cases e⟩) (fun v ⟨z, e1, e2, e3⟩ => by subst e1; subst e2; exact kk)
theorem xl_sL1 {a0 : Value} {y : Int64} (d : xl_Cs M pc μ pc2) (hv : xl_U μ) (hc : xl_RL μ [a0] [] y) (hn : 1 = μ.2.2.2.2.2.2) (hnr : ([a0] : List Value).all xl_nr = true) (hw : (rest.map fun v => if xl_1 v = true then 1 else 2).sum ≤ 8) (kk : xl_W M rc rs pc2 L (.long y :: rest) h Po) : xl_W M rc rs pc L (a0 :: rest) h Po :=
  xl_sG (As := [a0]) d hv rfl hn hw hnr hc (fun v h' ⟨z, e1, e2, e3⟩ => ⟨e3, by rw [e1]; intro a e; cases e⟩) (fun v ⟨z, e1, e2, e3⟩ => by subst e1; subst e2; exact kk)
theorem xl_sS1 {a0 : Value} {y : UInt32} (d : xl_Cs M pc μ pc2) (hv : xl_U μ) (hc : xl_RS μ [a0] [] y) (hn : 1 = μ.2.2.2.2.2.2) (hnr : ([a0] : List Value).all xl_nr = true) (hw : (rest.map fun v => if xl_1 v = true then 1 else 2).sum ≤ 8) (kk : xl_W M rc rs pc2 L (.float y :: rest) h Po) : xl_W M rc rs pc L (a0 :: rest) h Po :=
  xl_sG (As := [a0]) d hv rfl hn hw hnr hc (fun v h' ⟨z, e1, e2, e3⟩ => ⟨e3, by rw [e1]; intro a e; cases e⟩) (fun v ⟨z, e1, e2, e3⟩ => by subst e1; subst e2; exact kk)
theorem xl_sI2 {a0 a1 : Value} {y : Int32} (d : xl_Cs M pc μ pc2) (hv : xl_U μ) (hc : xl_RI μ [a0, a1] [] y) (hn : 2 = μ.2.2.2.2.2.2) (hnr : ([a0, a1] : List Value).all xl_nr = true) (hw : (rest.map fun v => if xl_1 v = true then 1 else 2).sum ≤ 8) (kk : xl_W M rc rs pc2 L (.int y :: rest) h Po) : xl_W M rc rs pc L (a1 :: a0 :: rest) h Po :=
  xl_sG (As := [a0, a1]) d hv rfl hn hw hnr hc (fun v h' ⟨z, e1, e2, e3⟩ => ⟨e3, by rw [e1]; intro a e; cases e⟩) (fun v ⟨z, e1, e2, e3⟩ => by subst e1; subst e2; exact kk)
theorem xl_sL2 {a0 a1 : Value} {y : Int64} (d : xl_Cs M pc μ pc2) (hv : xl_U μ) (hc : xl_RL μ [a0, a1] [] y) (hn : 2 = μ.2.2.2.2.2.2) (hnr : ([a0, a1] : List Value).all xl_nr = true) (hw : (rest.map fun v => if xl_1 v = true then 1 else 2).sum ≤ 8) (kk : xl_W M rc rs pc2 L (.long y :: rest) h Po) : xl_W M rc rs pc L (a1 :: a0 :: rest) h Po :=
  xl_sG (As := [a0, a1]) d hv rfl hn hw hnr hc (fun v h' ⟨z, e1, e2, e3⟩ => ⟨e3, by rw [e1]; intro a e; cases e⟩) (fun v ⟨z, e1, e2, e3⟩ => by subst e1; subst e2; exact kk)
theorem xl_sS2 {a0 a1 : Value} {y : UInt32} (d : xl_Cs M pc μ pc2) (hv : xl_U μ) (hc : xl_RS μ [a0, a1] [] y) (hn : 2 = μ.2.2.2.2.2.2) (hnr : ([a0, a1] : List Value).all xl_nr = true) (hw : (rest.map fun v => if xl_1 v = true then 1 else 2).sum ≤ 8) (kk : xl_W M rc rs pc2 L (.float y :: rest) h Po) : xl_W M rc rs pc L (a1 :: a0 :: rest) h Po :=
  xl_sG (As := [a0, a1]) d hv rfl hn hw hnr hc (fun v h' ⟨z, e1, e2, e3⟩ => ⟨e3, by rw [e1]; intro a e; cases e⟩) (fun v ⟨z, e1, e2, e3⟩ => by subst e1; subst e2; exact kk)
theorem xl_sI3 {a0 a1 a2 : Value} {y : Int32} (d : xl_Cs M pc μ pc2) (hv : xl_U μ) (hc : xl_RI μ [a0, a1, a2] [] y) (hn : 3 = μ.2.2.2.2.2.2) (hnr : ([a0, a1, a2] : List Value).all xl_nr = true) (hw : (rest.map fun v => if xl_1 v = true then 1 else 2).sum ≤ 8) (kk : xl_W M rc rs pc2 L (.int y :: rest) h Po) : xl_W M rc rs pc L (a2 :: a1 :: a0 :: rest) h Po :=
  xl_sG (As := [a0, a1, a2]) d hv rfl hn hw hnr hc (fun v h' ⟨z, e1, e2, e3⟩ => ⟨e3, by rw [e1]; intro a e; cases e⟩) (fun v ⟨z, e1, e2, e3⟩ => by subst e1; subst e2; exact kk)
theorem xl_sL3 {a0 a1 a2 : Value} {y : Int64} (d : xl_Cs M pc μ pc2) (hv : xl_U μ) (hc : xl_RL μ [a0, a1, a2] [] y) (hn : 3 = μ.2.2.2.2.2.2) (hnr : ([a0, a1, a2] : List Value).all xl_nr = true) (hw : (rest.map fun v => if xl_1 v = true then 1 else 2).sum ≤ 8) (kk : xl_W M rc rs pc2 L (.long y :: rest) h Po) : xl_W M rc rs pc L (a2 :: a1 :: a0 :: rest) h Po :=
  xl_sG (As := [a0, a1, a2]) d hv rfl hn hw hnr hc (fun v h' ⟨z, e1, e2, e3⟩ => ⟨e3, by rw [e1]; intro a e; cases e⟩) (fun v ⟨z, e1, e2, e3⟩ => by subst e1; subst e2; exact kk)
theorem xl_sS3 {a0 a1 a2 : Value} {y : UInt32} (d : xl_Cs M pc μ pc2) (hv : xl_U μ) (hc : xl_RS μ [a0, a1, a2] [] y) (hn : 3 = μ.2.2.2.2.2.2) (hnr : ([a0, a1, a2] : List Value).all xl_nr = true) (hw : (rest.map fun v => if xl_1 v = true then 1 else 2).sum ≤ 8) (kk : xl_W M rc rs pc2 L (.float y :: rest) h Po) : xl_W M rc rs pc L (a2 :: a1 :: a0 :: rest) h Po :=
  xl_sG (As := [a0, a1, a2]) d hv rfl hn hw hnr hc (fun v h' ⟨z, e1, e2, e3⟩ => ⟨e3, by rw [e1]; intro a e; cases e⟩) (fun v ⟨z, e1, e2, e3⟩ => by subst e1; subst e2; exact kk)
theorem xl_sI4 {a0 a1 a2 a3 : Value} {y : Int32} (d : xl_Cs M pc μ pc2) (hv : xl_U μ) (hc : xl_RI μ [a0, a1, a2, a3] [] y) (hn : 4 = μ.2.2.2.2.2.2) (hnr : ([a0, a1, a2, a3] : List Value).all xl_nr = true) (hw : (rest.map fun v => if xl_1 v = true then 1 else 2).sum ≤ 8) (kk : xl_W M rc rs pc2 L (.int y :: rest) h Po) : xl_W M rc rs pc L (a3 :: a2 :: a1 :: a0 :: rest) h Po :=
  xl_sG (As := [a0, a1, a2, a3]) d hv rfl hn hw hnr hc (fun v h' ⟨z, e1, e2, e3⟩ => ⟨e3, by rw [e1]; intro a e; cases e⟩) (fun v ⟨z, e1, e2, e3⟩ => by subst e1; subst e2; exact kk)
theorem xl_sL4 {a0 a1 a2 a3 : Value} {y : Int64} (d : xl_Cs M pc μ pc2) (hv : xl_U μ) (hc : xl_RL μ [a0, a1, a2, a3] [] y) (hn : 4 = μ.2.2.2.2.2.2) (hnr : ([a0, a1, a2, a3] : List Value).all xl_nr = true) (hw : (rest.map fun v => if xl_1 v = true then 1 else 2).sum ≤ 8) (kk : xl_W M rc rs pc2 L (.long y :: rest) h Po) : xl_W M rc rs pc L (a3 :: a2 :: a1 :: a0 :: rest) h Po :=
  xl_sG (As := [a0, a1, a2, a3]) d hv rfl hn hw hnr hc (fun v h' ⟨z, e1, e2, e3⟩ => ⟨e3, by rw [e1]; intro a e; cases e⟩) (fun v ⟨z, e1, e2, e3⟩ => by subst e1; subst e2; exact kk)
theorem xl_sS4 {a0 a1 a2 a3 : Value} {y : UInt32} (d : xl_Cs M pc μ pc2) (hv : xl_U μ) (hc : xl_RS μ [a0, a1, a2, a3] [] y) (hn : 4 = μ.2.2.2.2.2.2) (hnr : ([a0, a1, a2, a3] : List Value).all xl_nr = true) (hw : (rest.map fun v => if xl_1 v = true then 1 else 2).sum ≤ 8) (kk : xl_W M rc rs pc2 L (.float y :: rest) h Po) : xl_W M rc rs pc L (a3 :: a2 :: a1 :: a0 :: rest) h Po :=
  xl_sG (As := [a0, a1, a2, a3]) d hv rfl hn hw hnr hc (fun v h' ⟨z, e1, e2, e3⟩ => ⟨e3, by rw [e1]; intro a e; cases e⟩) (fun v ⟨z, e1, e2, e3⟩ => by subst e1; subst e2; exact kk)
theorem xl_sI5 {a0 a1 a2 a3 a4 : Value} {y : Int32} (d : xl_Cs M pc μ pc2) (hv : xl_U μ) (hc : xl_RI μ [a0, a1, a2, a3, a4] [] y) (hn : 5 = μ.2.2.2.2.2.2) (hnr : ([a0, a1, a2, a3, a4] : List Value).all xl_nr = true) (hw : (rest.map fun v => if xl_1 v = true then 1 else 2).sum ≤ 8) (kk : xl_W M rc rs pc2 L (.int y :: rest) h Po) : xl_W M rc rs pc L (a4 :: a3 :: a2 :: a1 :: a0 :: rest) h Po :=
  xl_sG (As := [a0, a1, a2, a3, a4]) d hv rfl hn hw hnr hc (fun v h' ⟨z, e1, e2, e3⟩ => ⟨e3, by rw [e1]; intro a e; cases e⟩) (fun v ⟨z, e1, e2, e3⟩ => by subst e1; subst e2; exact kk)
theorem xl_sL5 {a0 a1 a2 a3 a4 : Value} {y : Int64} (d : xl_Cs M pc μ pc2) (hv : xl_U μ) (hc : xl_RL μ [a0, a1, a2, a3, a4] [] y) (hn : 5 = μ.2.2.2.2.2.2) (hnr : ([a0, a1, a2, a3, a4] : List Value).all xl_nr = true) (hw : (rest.map fun v => if xl_1 v = true then 1 else 2).sum ≤ 8) (kk : xl_W M rc rs pc2 L (.long y :: rest) h Po) : xl_W M rc rs pc L (a4 :: a3 :: a2 :: a1 :: a0 :: rest) h Po :=
  xl_sG (As := [a0, a1, a2, a3, a4]) d hv rfl hn hw hnr hc (fun v h' ⟨z, e1, e2, e3⟩ => ⟨e3, by rw [e1]; intro a e; cases e⟩) (fun v ⟨z, e1, e2, e3⟩ => by subst e1; subst e2; exact kk)
theorem xl_sS5 {a0 a1 a2 a3 a4 : Value} {y : UInt32} (d : xl_Cs M pc μ pc2) (hv : xl_U μ) (hc : xl_RS μ [a0, a1, a2, a3, a4] [] y) (hn : 5 = μ.2.2.2.2.2.2) (hnr : ([a0, a1, a2, a3, a4] : List Value).all xl_nr = true) (hw : (rest.map fun v => if xl_1 v = true then 1 else 2).sum ≤ 8) (kk : xl_W M rc rs pc2 L (.float y :: rest) h Po) : xl_W M rc rs pc L (a4 :: a3 :: a2 :: a1 :: a0 :: rest) h Po :=
  xl_sG (As := [a0, a1, a2, a3, a4]) d hv rfl hn hw hnr hc (fun v h' ⟨z, e1, e2, e3⟩ => ⟨e3, by rw [e1]; intro a e; cases e⟩) (fun v ⟨z, e1, e2, e3⟩ => by subst e1; subst e2; exact kk)
theorem xl_sI6 {a0 a1 a2 a3 a4 a5 : Value} {y : Int32} (d : xl_Cs M pc μ pc2) (hv : xl_U μ) (hc : xl_RI μ [a0, a1, a2, a3, a4, a5] [] y) (hn : 6 = μ.2.2.2.2.2.2) (hnr : ([a0, a1, a2, a3, a4, a5] : List Value).all xl_nr = true) (hw : (rest.map fun v => if xl_1 v = true then 1 else 2).sum ≤ 8) (kk : xl_W M rc rs pc2 L (.int y :: rest) h Po) : xl_W M rc rs pc L (a5 :: a4 :: a3 :: a2 :: a1 :: a0 :: rest) h Po :=
  xl_sG (As := [a0, a1, a2, a3, a4, a5]) d hv rfl hn hw hnr hc (fun v h' ⟨z, e1, e2, e3⟩ => ⟨e3, by rw [e1]; intro a e; cases e⟩) (fun v ⟨z, e1, e2, e3⟩ => by subst e1; subst e2; exact kk)
theorem xl_sL6 {a0 a1 a2 a3 a4 a5 : Value} {y : Int64} (d : xl_Cs M pc μ pc2) (hv : xl_U μ) (hc : xl_RL μ [a0, a1, a2, a3, a4, a5] [] y) (hn : 6 = μ.2.2.2.2.2.2) (hnr : ([a0, a1, a2, a3, a4, a5] : List Value).all xl_nr = true) (hw : (rest.map fun v => if xl_1 v = true then 1 else 2).sum ≤ 8) (kk : xl_W M rc rs pc2 L (.long y :: rest) h Po) : xl_W M rc rs pc L (a5 :: a4 :: a3 :: a2 :: a1 :: a0 :: rest) h Po :=
  xl_sG (As := [a0, a1, a2, a3, a4, a5]) d hv rfl hn hw hnr hc (fun v h' ⟨z, e1, e2, e3⟩ => ⟨e3, by rw [e1]; intro a e; cases e⟩) (fun v ⟨z, e1, e2, e3⟩ => by subst e1; subst e2; exact kk)
theorem xl_sS6 {a0 a1 a2 a3 a4 a5 : Value} {y : UInt32} (d : xl_Cs M pc μ pc2) (hv : xl_U μ) (hc : xl_RS μ [a0, a1, a2, a3, a4, a5] [] y) (hn : 6 = μ.2.2.2.2.2.2) (hnr : ([a0, a1, a2, a3, a4, a5] : List Value).all xl_nr = true) (hw : (rest.map fun v => if xl_1 v = true then 1 else 2).sum ≤ 8) (kk : xl_W M rc rs pc2 L (.float y :: rest) h Po) : xl_W M rc rs pc L (a5 :: a4 :: a3 :: a2 :: a1 :: a0 :: rest) h Po :=
  xl_sG (As := [a0, a1, a2, a3, a4, a5]) d hv rfl hn hw hnr hc (fun v h' ⟨z, e1, e2, e3⟩ => ⟨e3, by rw [e1]; intro a e; cases e⟩) (fun v ⟨z, e1, e2, e3⟩ => by subst e1; subst e2; exact kk)
theorem xl_sI7 {a0 a1 a2 a3 a4 a5 a6 : Value} {y : Int32} (d : xl_Cs M pc μ pc2) (hv : xl_U μ) (hc : xl_RI μ [a0, a1, a2, a3, a4, a5, a6] [] y) (hn : 7 = μ.2.2.2.2.2.2) (hnr : ([a0, a1, a2, a3, a4, a5, a6] : List Value).all xl_nr = true) (hw : (rest.map fun v => if xl_1 v = true then 1 else 2).sum ≤ 8) (kk : xl_W M rc rs pc2 L (.int y :: rest) h Po) : xl_W M rc rs pc L (a6 :: a5 :: a4 :: a3 :: a2 :: a1 :: a0 :: rest) h Po :=
  xl_sG (As := [a0, a1, a2, a3, a4, a5, a6]) d hv rfl hn hw hnr hc (fun v h' ⟨z, e1, e2, e3⟩ => ⟨e3, by rw [e1]; intro a e; cases e⟩) (fun v ⟨z, e1, e2, e3⟩ => by subst e1; subst e2; exact kk)
theorem xl_sL7 {a0 a1 a2 a3 a4 a5 a6 : Value} {y : Int64} (d : xl_Cs M pc μ pc2) (hv : xl_U μ) (hc : xl_RL μ [a0, a1, a2, a3, a4, a5, a6] [] y) (hn : 7 = μ.2.2.2.2.2.2) (hnr : ([a0, a1, a2, a3, a4, a5, a6] : List Value).all xl_nr = true) (hw : (rest.map fun v => if xl_1 v = true then 1 else 2).sum ≤ 8) (kk : xl_W M rc rs pc2 L (.long y :: rest) h Po) : xl_W M rc rs pc L (a6 :: a5 :: a4 :: a3 :: a2 :: a1 :: a0 :: rest) h Po :=
  xl_sG (As := [a0, a1, a2, a3, a4, a5, a6]) d hv rfl hn hw hnr hc (fun v h' ⟨z, e1, e2, e3⟩ => ⟨e3, by rw [e1]; intro a e; cases e⟩) (fun v ⟨z, e1, e2, e3⟩ => by subst e1; subst e2; exact kk)
theorem xl_sS7 {a0 a1 a2 a3 a4 a5 a6 : Value} {y : UInt32} (d : xl_Cs M pc μ pc2) (hv : xl_U μ) (hc : xl_RS μ [a0, a1, a2, a3, a4, a5, a6] [] y) (hn : 7 = μ.2.2.2.2.2.2) (hnr : ([a0, a1, a2, a3, a4, a5, a6] : List Value).all xl_nr = true) (hw : (rest.map fun v => if xl_1 v = true then 1 else 2).sum ≤ 8) (kk : xl_W M rc rs pc2 L (.float y :: rest) h Po) : xl_W M rc rs pc L (a6 :: a5 :: a4 :: a3 :: a2 :: a1 :: a0 :: rest) h Po :=
  xl_sG (As := [a0, a1, a2, a3, a4, a5, a6]) d hv rfl hn hw hnr hc (fun v h' ⟨z, e1, e2, e3⟩ => ⟨e3, by rw [e1]; intro a e; cases e⟩) (fun v ⟨z, e1, e2, e3⟩ => by subst e1; subst e2; exact kk)
/-- a static method that is given one object (its cells are a run of places from r on), read only -/
theorem xl_oI2 {r : Nat} {a1 a2 : Value} {y : Int32} (d : xl_Cs M pc μ pc2) (hv : xl_U μ) (hc : xl_RI μ [.ref 0, a1, a2] hl y) (hcut : (h.drop r).take hl.length = hl) (hn : 3 = μ.2.2.2.2.2.2) (hnr : ([a1, a2] : List Value).all xl_nr = true) (hw : (rest.map fun v => if xl_1 v = true then 1 else 2).sum ≤ 8) (kk : xl_W M rc rs pc2 L (.int y :: rest) h Po) : xl_W M rc rs pc L (a2 :: a1 :: .ref r :: rest) h Po :=
  xl_callS (mc := 0) (ms := 0) (As := [.ref r, a1, a2]) (As' := [.ref 0, a1, a2]) (fun k => r + k) d hv rfl hn hw (fun ρ σ => congrArg (List.cons (Value.ref (ρ r))) (xl_nr_m hnr ρ (fun k => ρ (r + k)) σ)) (xl_pi_add hcut) (fun j c _ => xl_ok_add r j c) hc (fun v h' ⟨z, e1, e2, e3⟩ => ⟨by rw [e3], fun j c _ => xl_ok_add r j c, by rw [e1]; intro a e; cases e⟩) (fun v h' h1 ⟨z, e1, e2, e3⟩ hb => by
    subst e1; subst e2; subst e3
    rw [xl_back_id (r := 0) (xl_pi_add hcut) hb]
    exact kk)
end XCE
end
section
theorem xl_inp {ws : List Cond} (ps : List Nat) (h : ws = ps.filterMap (fun i => lw_tbl[i]?)) (g : ws.all goodWord = true) : ∀ w ∈ ws, w ∈ xl_T := by
  intro w hw
  refine List.mem_filter.mpr ⟨?_, List.all_eq_true.mp g w hw⟩
  rw [h] at hw
  obtain ⟨i, -, hi⟩ := List.mem_filterMap.mp hw
  exact List.mem_of_getElem? hi
theorem xl_inX0 : ∀ w ∈ u_ws RX0 TX0 4, w ∈ xl_T := xl_inp [138, 140, 142, 144] (by decide +kernel) (by decide +kernel)
theorem xl_inX1 : ∀ w ∈ u_ws RX1 TX1 16, w ∈ xl_T := xl_inp [200, 202, 204, 206, 208, 210, 212, 214, 216, 218, 220, 222, 224, 226, 228, 230] (by decide +kernel) (by decide +kernel)
theorem xl_inX2 : ∀ w ∈ u_ws RX2 TX2 13, w ∈ xl_T := xl_inp [247, 249, 251, 253, 255, 257, 259, 261, 263, 265, 267, 269, 271] (by decide +kernel) (by decide +kernel)
theorem xl_inX3 : ∀ w ∈ u_ws RX3 TX3 23, w ∈ xl_T := xl_inp [928, 930, 932, 934, 936, 938, 940, 942, 944, 946, 948, 950, 952, 954, 956, 958, 960, 962, 964, 966, 968, 970, 972] (by decide +kernel) (by decide +kernel)
theorem xl_iX0 : Cond.initialized RX0 ∈ xl_T := xl_Ti 96 (by decide +kernel) rfl
theorem xl_iX1 : Cond.initialized RX1 ∈ xl_T := xl_Ti 95 (by decide +kernel) rfl
theorem xl_iX2 : Cond.initialized RX2 ∈ xl_T := xl_Ti 94 (by decide +kernel) rfl
theorem xl_iX3 : Cond.initialized RX3 ∈ xl_T := xl_Ti 99 (by decide +kernel) rfl
theorem xl_iJ0 : Cond.initialized RJ0 ∈ xl_T := xl_Ti 100 (by decide +kernel) rfl
theorem xl_iJ1 : Cond.initialized RJ1 ∈ xl_T := xl_Ti 101 (by decide +kernel) rfl
theorem xl_iJ3 : Cond.initialized RJ3 ∈ xl_T := xl_Ti 102 (by decide +kernel) rfl
theorem xl_iJ7 : Cond.initialized RJ7 ∈ xl_T := xl_Ti 108 (by decide +kernel) rfl
theorem xl_iMath : Cond.initialized "java/lang/Math" ∈ xl_T := xl_Ti 97 (by decide +kernel) rfl
theorem xl_iSystem : Cond.initialized "java/lang/System" ∈ xl_T := xl_Ti 98 (by decide +kernel) rfl
theorem xl_stmax : Cond.static Lib.Math.max.name ∈ xl_T := xl_Ti 130 (by decide +kernel) rfl
theorem xl_comax : Cond.code Lib.Math.max.name Lib.Math.max.code 2 (some .int) ∈ xl_T := xl_Ti 131 (by decide +kernel) rfl
theorem xl_stmin : Cond.static Lib.Math.min.name ∈ xl_T := xl_Ti 307 (by decide +kernel) rfl
theorem xl_comin : Cond.code Lib.Math.min.name Lib.Math.min.code 2 (some .int) ∈ xl_T := xl_Ti 308 (by decide +kernel) rfl
theorem xl_acn : Cond.native arraycopyName ∈ xl_T := xl_Ti 162 (by decide +kernel) rfl
theorem xl_acs : Cond.static arraycopyName ∈ xl_T := xl_Ti 161 (by decide +kernel) rfl
-- the methods: name, code, locals, answer, frames, words, parameters
def mX0_init : XI := (yX0_init, cX0_init, 3, none, 1, 21, 2)
theorem kX0_init : xl_K mX0_init := ⟨by decide +kernel, xl_Ti 127 (by decide +kernel) rfl, xl_iX0, by decide +kernel, by decide +kernel, by decide +kernel⟩
def mX0_get : XI := (yX0_get, cX0_get, 3, (some .int), 0, 0, 2)
theorem kX0_get : xl_K mX0_get := ⟨by decide +kernel, xl_Ti 321 (by decide +kernel) rfl, xl_iX0, by decide +kernel, by decide +kernel, by decide +kernel⟩
theorem vX0_get : xl_V mX0_get := ⟨kX0_get, xl_Ti 319 (by decide +kernel) rfl, xl_Ti 320 (by decide +kernel) rfl⟩
def mX0_set : XI := (yX0_set, cX0_set, 4, none, 0, 0, 3)
theorem kX0_set : xl_K mX0_set := ⟨by decide +kernel, xl_Ti 166 (by decide +kernel) rfl, xl_iX0, by decide +kernel, by decide +kernel, by decide +kernel⟩
theorem vX0_set : xl_V mX0_set := ⟨kX0_set, xl_Ti 164 (by decide +kernel) rfl, xl_Ti 165 (by decide +kernel) rfl⟩
def mX0_add : XI := (yX0_add, cX0_add, 4, none, 0, 0, 3)
theorem kX0_add : xl_K mX0_add := ⟨by decide +kernel, xl_Ti 365 (by decide +kernel) rfl, xl_iX0, by decide +kernel, by decide +kernel, by decide +kernel⟩
theorem vX0_add : xl_V mX0_add := ⟨kX0_add, xl_Ti 363 (by decide +kernel) rfl, xl_Ti 364 (by decide +kernel) rfl⟩
def mX0_clear : XI := (yX0_clear, cX0_clear, 1, none, 0, 0, 0)
theorem kX0_clear : xl_K mX0_clear := ⟨by decide +kernel, xl_Ti 155 (by decide +kernel) rfl, xl_iX0, by decide +kernel, by decide +kernel, by decide +kernel⟩
theorem vX0_clear : xl_V mX0_clear := ⟨kX0_clear, xl_Ti 153 (by decide +kernel) rfl, xl_Ti 154 (by decide +kernel) rfl⟩
def mX0_reach : XI := (yX0_reach, cX0_reach, 2, none, 0, 0, 1)
theorem kX0_reach : xl_K mX0_reach := ⟨by decide +kernel, xl_Ti 402 (by decide +kernel) rfl, xl_iX0, by decide +kernel, by decide +kernel, by decide +kernel⟩
theorem vX0_reach : xl_V mX0_reach := ⟨kX0_reach, xl_Ti 400 (by decide +kernel) rfl, xl_Ti 401 (by decide +kernel) rfl⟩
def mX0_open : XI := (yX0_open, cX0_open, 3, (some .boolean), 1, 31, 1)
theorem kX0_open : xl_K mX0_open := ⟨by decide +kernel, xl_Ti 159 (by decide +kernel) rfl, xl_iX0, by decide +kernel, by decide +kernel, by decide +kernel⟩
theorem vX0_open : xl_V mX0_open := ⟨kX0_open, xl_Ti 157 (by decide +kernel) rfl, xl_Ti 158 (by decide +kernel) rfl⟩
def mX0_drop : XI := (yX0_drop, cX0_drop, 2, none, 1, 31, 1)
theorem kX0_drop : xl_K mX0_drop := ⟨by decide +kernel, xl_Ti 411 (by decide +kernel) rfl, xl_iX0, by decide +kernel, by decide +kernel, by decide +kernel⟩
theorem vX0_drop : xl_V mX0_drop := ⟨kX0_drop, xl_Ti 409 (by decide +kernel) rfl, xl_Ti 410 (by decide +kernel) rfl⟩
def mX0_copyRow : XI := (yX0_copyRow, cX0_copyRow, 5, none, 1, 23, 3)
theorem kX0_copyRow : xl_K mX0_copyRow := ⟨by decide +kernel, xl_Ti 455 (by decide +kernel) rfl, xl_iX0, by decide +kernel, by decide +kernel, by decide +kernel⟩
theorem vX0_copyRow : xl_V mX0_copyRow := ⟨kX0_copyRow, xl_Ti 453 (by decide +kernel) rfl, xl_Ti 454 (by decide +kernel) rfl⟩
def mX0_copyFrom : XI := (yX0_copyFrom, cX0_copyFrom, 2, none, 1, 31, 1)
theorem kX0_copyFrom : xl_K mX0_copyFrom := ⟨by decide +kernel, xl_Ti 305 (by decide +kernel) rfl, xl_iX0, by decide +kernel, by decide +kernel, by decide +kernel⟩
theorem vX0_copyFrom : xl_V mX0_copyFrom := ⟨kX0_copyFrom, xl_Ti 303 (by decide +kernel) rfl, xl_Ti 304 (by decide +kernel) rfl⟩
def mX1_init : XI := (yX1_init, cX1_init, 1, none, 3, 78, 0)
theorem kX1_init : xl_K mX1_init := ⟨by decide +kernel, xl_Ti 121 (by decide +kernel) rfl, xl_iX1, by decide +kernel, by decide +kernel, by decide +kernel⟩
def mX1_reset : XI := (yX1_reset, cX1_reset, 6, none, 2, 53, 4)
theorem kX1_reset : xl_K mX1_reset := ⟨by decide +kernel, xl_Ti 151 (by decide +kernel) rfl, xl_iX1, by decide +kernel, by decide +kernel, by decide +kernel⟩
theorem vX1_reset : xl_V mX1_reset := ⟨kX1_reset, xl_Ti 149 (by decide +kernel) rfl, xl_Ti 150 (by decide +kernel) rfl⟩
def mX1_copyFrom : XI := (yX1_copyFrom, cX1_copyFrom, 2, none, 2, 52, 1)
theorem kX1_copyFrom : xl_K mX1_copyFrom := ⟨by decide +kernel, xl_Ti 301 (by decide +kernel) rfl, xl_iX1, by decide +kernel, by decide +kernel, by decide +kernel⟩
theorem vX1_copyFrom : xl_V mX1_copyFrom := ⟨kX1_copyFrom, xl_Ti 299 (by decide +kernel) rfl, xl_Ti 300 (by decide +kernel) rfl⟩
def mX1_comeEvent : XI := (yX1_comeEvent, cX1_comeEvent, 8, (some .int), 5, 126, 4)
theorem kX1_comeEvent : xl_K mX1_comeEvent := ⟨by decide +kernel, xl_Ti 348 (by decide +kernel) rfl, xl_iX1, by decide +kernel, by decide +kernel, by decide +kernel⟩
theorem vX1_comeEvent : xl_V mX1_comeEvent := ⟨kX1_comeEvent, xl_Ti 346 (by decide +kernel) rfl, xl_Ti 347 (by decide +kernel) rfl⟩
def mX1_comeMark : XI := (yX1_comeMark, cX1_comeMark, 3, none, 5, 123, 2)
theorem kX1_comeMark : xl_K mX1_comeMark := ⟨by decide +kernel, xl_Ti 574 (by decide +kernel) rfl, xl_iX1, by decide +kernel, by decide +kernel, by decide +kernel⟩
theorem vX1_comeMark : xl_V mX1_comeMark := ⟨kX1_comeMark, xl_Ti 572 (by decide +kernel) rfl, xl_Ti 573 (by decide +kernel) rfl⟩
def mX1_comeIdle : XI := (yX1_comeIdle, cX1_comeIdle, 2, none, 5, 122, 1)
theorem kX1_comeIdle : xl_K mX1_comeIdle := ⟨by decide +kernel, xl_Ti 590 (by decide +kernel) rfl, xl_iX1, by decide +kernel, by decide +kernel, by decide +kernel⟩
theorem vX1_comeIdle : xl_V mX1_comeIdle := ⟨kX1_comeIdle, xl_Ti 588 (by decide +kernel) rfl, xl_Ti 589 (by decide +kernel) rfl⟩
def mX1_note : XI := (yX1_note, cX1_note, 5, none, 2, 53, 3)
theorem kX1_note : xl_K mX1_note := ⟨by decide +kernel, xl_Ti 353 (by decide +kernel) rfl, xl_iX1, by decide +kernel, by decide +kernel, by decide +kernel⟩
theorem vX1_note : xl_V mX1_note := ⟨kX1_note, xl_Ti 352 (by decide +kernel) rfl, xl_Ti 6 (by decide +kernel) rfl⟩
def mX1_playInput : XI := (yX1_playInput, cX1_playInput, 5, none, 5, 126, 2)
theorem kX1_playInput : xl_K mX1_playInput := ⟨by decide +kernel, xl_Ti 706 (by decide +kernel) rfl, xl_iX1, by decide +kernel, by decide +kernel, by decide +kernel⟩
theorem vX1_playInput : xl_V mX1_playInput := ⟨kX1_playInput, xl_Ti 704 (by decide +kernel) rfl, xl_Ti 705 (by decide +kernel) rfl⟩
def mX1_playEvent : XI := (yX1_playEvent, cX1_playEvent, 6, (some .int), 4, 101, 4)
theorem kX1_playEvent : xl_K mX1_playEvent := ⟨by decide +kernel, xl_Ti 357 (by decide +kernel) rfl, xl_iX1, by decide +kernel, by decide +kernel, by decide +kernel⟩
theorem vX1_playEvent : xl_V mX1_playEvent := ⟨kX1_playEvent, xl_Ti 355 (by decide +kernel) rfl, xl_Ti 356 (by decide +kernel) rfl⟩
def mX1_playMark : XI := (yX1_playMark, cX1_playMark, 3, none, 4, 101, 2)
theorem kX1_playMark : xl_K mX1_playMark := ⟨by decide +kernel, xl_Ti 578 (by decide +kernel) rfl, xl_iX1, by decide +kernel, by decide +kernel, by decide +kernel⟩
theorem vX1_playMark : xl_V mX1_playMark := ⟨kX1_playMark, xl_Ti 576 (by decide +kernel) rfl, xl_Ti 577 (by decide +kernel) rfl⟩
def mX1_playIdle : XI := (yX1_playIdle, cX1_playIdle, 2, none, 4, 101, 1)
theorem kX1_playIdle : xl_K mX1_playIdle := ⟨by decide +kernel, xl_Ti 594 (by decide +kernel) rfl, xl_iX1, by decide +kernel, by decide +kernel, by decide +kernel⟩
theorem vX1_playIdle : xl_V mX1_playIdle := ⟨kX1_playIdle, xl_Ti 592 (by decide +kernel) rfl, xl_Ti 593 (by decide +kernel) rfl⟩
def mX1_raiseMark : XI := (yX1_raiseMark, cX1_raiseMark, 3, none, 1, 23, 2)
theorem kX1_raiseMark : xl_K mX1_raiseMark := ⟨by decide +kernel, xl_Ti 427 (by decide +kernel) rfl, xl_iX1, by decide +kernel, by decide +kernel, by decide +kernel⟩
theorem vX1_raiseMark : xl_V mX1_raiseMark := ⟨kX1_raiseMark, xl_Ti 426 (by decide +kernel) rfl, xl_Ti 15 (by decide +kernel) rfl⟩
def mX1_fateOf : XI := (yX1_fateOf, cX1_fateOf, 2, (some .int), 0, 0, 1)
theorem kX1_fateOf : xl_K mX1_fateOf := ⟨by decide +kernel, xl_Ti 361 (by decide +kernel) rfl, xl_iX1, by decide +kernel, by decide +kernel, by decide +kernel⟩
theorem vX1_fateOf : xl_V mX1_fateOf := ⟨kX1_fateOf, xl_Ti 359 (by decide +kernel) rfl, xl_Ti 360 (by decide +kernel) rfl⟩
def mX1_isTakenOf : XI := (yX1_isTakenOf, cX1_isTakenOf, 4, (some .boolean), 1, 22, 2)
theorem kX1_isTakenOf : xl_K mX1_isTakenOf := ⟨by decide +kernel, xl_Ti 642 (by decide +kernel) rfl, xl_iX1, by decide +kernel, by decide +kernel, by decide +kernel⟩
theorem vX1_isTakenOf : xl_V mX1_isTakenOf := ⟨kX1_isTakenOf, xl_Ti 640 (by decide +kernel) rfl, xl_Ti 641 (by decide +kernel) rfl⟩
def mX1_hasResult : XI := (yX1_hasResult, cX1_hasResult, 2, (some .boolean), 1, 22, 1)
theorem kX1_hasResult : xl_K mX1_hasResult := ⟨by decide +kernel, xl_Ti 394 (by decide +kernel) rfl, xl_iX1, by decide +kernel, by decide +kernel, by decide +kernel⟩
theorem vX1_hasResult : xl_V mX1_hasResult := ⟨kX1_hasResult, xl_Ti 392 (by decide +kernel) rfl, xl_Ti 393 (by decide +kernel) rfl⟩
def mX1_isRipe : XI := (yX1_isRipe, cX1_isRipe, 3, (some .boolean), 1, 22, 2)
theorem kX1_isRipe : xl_K mX1_isRipe := ⟨by decide +kernel, xl_Ti 419 (by decide +kernel) rfl, xl_iX1, by decide +kernel, by decide +kernel, by decide +kernel⟩
theorem vX1_isRipe : xl_V mX1_isRipe := ⟨kX1_isRipe, xl_Ti 417 (by decide +kernel) rfl, xl_Ti 418 (by decide +kernel) rfl⟩
def mX1_isOver : XI := (yX1_isOver, cX1_isOver, 3, (some .boolean), 1, 22, 2)
theorem kX1_isOver : xl_K mX1_isOver := ⟨by decide +kernel, xl_Ti 443 (by decide +kernel) rfl, xl_iX1, by decide +kernel, by decide +kernel, by decide +kernel⟩
theorem vX1_isOver : xl_V mX1_isOver := ⟨kX1_isOver, xl_Ti 441 (by decide +kernel) rfl, xl_Ti 442 (by decide +kernel) rfl⟩
def mX1_ripening : XI := (yX1_ripening, cX1_ripening, 4, (some .int), 2, 44, 1)
theorem kX1_ripening : xl_K mX1_ripening := ⟨by decide +kernel, xl_Ti 634 (by decide +kernel) rfl, xl_iX1, by decide +kernel, by decide +kernel, by decide +kernel⟩
theorem vX1_ripening : xl_V mX1_ripening := ⟨kX1_ripening, xl_Ti 632 (by decide +kernel) rfl, xl_Ti 633 (by decide +kernel) rfl⟩
def mX1_leastMark : XI := (yX1_leastMark, cX1_leastMark, 5, (some .int), 1, 22, 1)
theorem kX1_leastMark : xl_K mX1_leastMark := ⟨by decide +kernel, xl_Ti 435 (by decide +kernel) rfl, xl_iX1, by decide +kernel, by decide +kernel, by decide +kernel⟩
theorem vX1_leastMark : xl_V mX1_leastMark := ⟨kX1_leastMark, xl_Ti 433 (by decide +kernel) rfl, xl_Ti 434 (by decide +kernel) rfl⟩
def mX1_sentOf : XI := (yX1_sentOf, cX1_sentOf, 4, (some .int), 1, 22, 1)
theorem kX1_sentOf : xl_K mX1_sentOf := ⟨by decide +kernel, xl_Ti 608 (by decide +kernel) rfl, xl_iX1, by decide +kernel, by decide +kernel, by decide +kernel⟩
theorem vX1_sentOf : xl_V mX1_sentOf := ⟨kX1_sentOf, xl_Ti 606 (by decide +kernel) rfl, xl_Ti 607 (by decide +kernel) rfl⟩
def mX1_touches : XI := (yX1_touches, cX1_touches, 4, (some .boolean), 1, 22, 3)
theorem kX1_touches : xl_K mX1_touches := ⟨by decide +kernel, xl_Ti 377 (by decide +kernel) rfl, xl_iX1, by decide +kernel, by decide +kernel, by decide +kernel⟩
theorem vX1_touches : xl_V mX1_touches := ⟨kX1_touches, xl_Ti 376 (by decide +kernel) rfl, xl_Ti 8 (by decide +kernel) rfl⟩
def mX1_firstTouched : XI := (yX1_firstTouched, cX1_firstTouched, 4, (some .int), 2, 45, 2)
theorem kX1_firstTouched : xl_K mX1_firstTouched := ⟨by decide +kernel, xl_Ti 373 (by decide +kernel) rfl, xl_iX1, by decide +kernel, by decide +kernel, by decide +kernel⟩
theorem vX1_firstTouched : xl_V mX1_firstTouched := ⟨kX1_firstTouched, xl_Ti 371 (by decide +kernel) rfl, xl_Ti 372 (by decide +kernel) rfl⟩
def mX1_touchedFrom : XI := (yX1_touchedFrom, cX1_touchedFrom, 6, (some .int), 2, 45, 3)
theorem kX1_touchedFrom : xl_K mX1_touchedFrom := ⟨by decide +kernel, xl_Ti 382 (by decide +kernel) rfl, xl_iX1, by decide +kernel, by decide +kernel, by decide +kernel⟩
theorem vX1_touchedFrom : xl_V mX1_touchedFrom := ⟨kX1_touchedFrom, xl_Ti 380 (by decide +kernel) rfl, xl_Ti 381 (by decide +kernel) rfl⟩
def mX1_melt : XI := (yX1_melt, cX1_melt, 8, none, 3, 74, 3)
theorem kX1_melt : xl_K mX1_melt := ⟨by decide +kernel, xl_Ti 369 (by decide +kernel) rfl, xl_iX1, by decide +kernel, by decide +kernel, by decide +kernel⟩
theorem vX1_melt : xl_V mX1_melt := ⟨kX1_melt, xl_Ti 368 (by decide +kernel) rfl, xl_Ti 7 (by decide +kernel) rfl⟩
def mX1_placeFor : XI := (yX1_placeFor, cX1_placeFor, 6, (some .int), 1, 22, 2)
theorem kX1_placeFor : xl_K mX1_placeFor := ⟨by decide +kernel, xl_Ti 386 (by decide +kernel) rfl, xl_iX1, by decide +kernel, by decide +kernel, by decide +kernel⟩
theorem vX1_placeFor : xl_V mX1_placeFor := ⟨kX1_placeFor, xl_Ti 385 (by decide +kernel) rfl, xl_Ti 9 (by decide +kernel) rfl⟩
def mX1_swallowNext : XI := (yX1_swallowNext, cX1_swallowNext, 3, none, 2, 52, 1)
theorem kX1_swallowNext : xl_K mX1_swallowNext := ⟨by decide +kernel, xl_Ti 406 (by decide +kernel) rfl, xl_iX1, by decide +kernel, by decide +kernel, by decide +kernel⟩
theorem vX1_swallowNext : xl_V mX1_swallowNext := ⟨kX1_swallowNext, xl_Ti 405 (by decide +kernel) rfl, xl_Ti 12 (by decide +kernel) rfl⟩
def mX1_kindOfNew : XI := (yX1_kindOfNew, cX1_kindOfNew, 3, (some .int), 2, 44, 1)
theorem kX1_kindOfNew : xl_K mX1_kindOfNew := ⟨by decide +kernel, xl_Ti 415 (by decide +kernel) rfl, xl_iX1, by decide +kernel, by decide +kernel, by decide +kernel⟩
theorem vX1_kindOfNew : xl_V mX1_kindOfNew := ⟨kX1_kindOfNew, xl_Ti 414 (by decide +kernel) rfl, xl_Ti 13 (by decide +kernel) rfl⟩
def mX1_rise : XI := (yX1_rise, cX1_rise, 6, none, 3, 76, 0)
theorem kX1_rise : xl_K mX1_rise := ⟨by decide +kernel, xl_Ti 431 (by decide +kernel) rfl, xl_iX1, by decide +kernel, by decide +kernel, by decide +kernel⟩
theorem vX1_rise : xl_V mX1_rise := ⟨kX1_rise, xl_Ti 430 (by decide +kernel) rfl, xl_Ti 16 (by decide +kernel) rfl⟩
def mX1_turnOf : XI := (yX1_turnOf, cX1_turnOf, 2, (some .int), 1, 22, 1)
theorem kX1_turnOf : xl_K mX1_turnOf := ⟨by decide +kernel, xl_Ti 447 (by decide +kernel) rfl, xl_iX1, by decide +kernel, by decide +kernel, by decide +kernel⟩
theorem vX1_turnOf : xl_V mX1_turnOf := ⟨kX1_turnOf, xl_Ti 446 (by decide +kernel) rfl, xl_Ti 18 (by decide +kernel) rfl⟩
def mX1_dueBehind : XI := (yX1_dueBehind, cX1_dueBehind, 7, (some .int), 2, 44, 2)
theorem kX1_dueBehind : xl_K mX1_dueBehind := ⟨by decide +kernel, xl_Ti 439 (by decide +kernel) rfl, xl_iX1, by decide +kernel, by decide +kernel, by decide +kernel⟩
theorem vX1_dueBehind : xl_V mX1_dueBehind := ⟨kX1_dueBehind, xl_Ti 438 (by decide +kernel) rfl, xl_Ti 17 (by decide +kernel) rfl⟩
def mX1_finish : XI := (yX1_finish, cX1_finish, 5, none, 2, 52, 1)
theorem kX1_finish : xl_K mX1_finish := ⟨by decide +kernel, xl_Ti 451 (by decide +kernel) rfl, xl_iX1, by decide +kernel, by decide +kernel, by decide +kernel⟩
theorem vX1_finish : xl_V mX1_finish := ⟨kX1_finish, xl_Ti 450 (by decide +kernel) rfl, xl_Ti 19 (by decide +kernel) rfl⟩
def mX1_takeBack : XI := (yX1_takeBack, cX1_takeBack, 2, none, 2, 47, 1)
theorem kX1_takeBack : xl_K mX1_takeBack := ⟨by decide +kernel, xl_Ti 390 (by decide +kernel) rfl, xl_iX1, by decide +kernel, by decide +kernel, by decide +kernel⟩
theorem vX1_takeBack : xl_V mX1_takeBack := ⟨kX1_takeBack, xl_Ti 389 (by decide +kernel) rfl, xl_Ti 10 (by decide +kernel) rfl⟩
def mX1_announce : XI := (yX1_announce, cX1_announce, 3, none, 2, 47, 2)
theorem kX1_announce : xl_K mX1_announce := ⟨by decide +kernel, xl_Ti 423 (by decide +kernel) rfl, xl_iX1, by decide +kernel, by decide +kernel, by decide +kernel⟩
theorem vX1_announce : xl_V mX1_announce := ⟨kX1_announce, xl_Ti 422 (by decide +kernel) rfl, xl_Ti 14 (by decide +kernel) rfl⟩
def mX1_send : XI := (yX1_send, cX1_send, 5, none, 1, 23, 2)
theorem kX1_send : xl_K mX1_send := ⟨by decide +kernel, xl_Ti 398 (by decide +kernel) rfl, xl_iX1, by decide +kernel, by decide +kernel, by decide +kernel⟩
theorem vX1_send : xl_V mX1_send := ⟨kX1_send, xl_Ti 397 (by decide +kernel) rfl, xl_Ti 11 (by decide +kernel) rfl⟩
def mX2_init : XI := (yX2_init, cX2_init, 2, none, 4, 98, 0)
theorem kX2_init : xl_K mX2_init := ⟨by decide +kernel, xl_Ti 113 (by decide +kernel) rfl, xl_iX2, by decide +kernel, by decide +kernel, by decide +kernel⟩
def mX2_sign : XI := (yX2_sign, cX2_sign, 3, (some .int), 1, 21, 1)
theorem kX2_sign : xl_K mX2_sign := ⟨by decide +kernel, xl_Ti 278 (by decide +kernel) rfl, xl_iX2, by decide +kernel, by decide +kernel, by decide +kernel⟩
theorem vX2_sign : xl_V mX2_sign := ⟨kX2_sign, xl_Ti 276 (by decide +kernel) rfl, xl_Ti 277 (by decide +kernel) rfl⟩
def mX2_end : XI := (yX2_end, cX2_end, 2, (some .boolean), 0, 0, 1)
theorem kX2_end : xl_K mX2_end := ⟨by decide +kernel, xl_Ti 286 (by decide +kernel) rfl, xl_iX2, by decide +kernel, by decide +kernel, by decide +kernel⟩
theorem vX2_end : xl_V mX2_end := ⟨kX2_end, xl_Ti 284 (by decide +kernel) rfl, xl_Ti 285 (by decide +kernel) rfl⟩
def mX2_start : XI := (yX2_start, cX2_start, 5, (some .int), 4, 94, 4)
theorem kX2_start : xl_K mX2_start := ⟨by decide +kernel, xl_Ti 290 (by decide +kernel) rfl, xl_iX2, by decide +kernel, by decide +kernel, by decide +kernel⟩
theorem vX2_start : xl_V mX2_start := ⟨kX2_start, xl_Ti 288 (by decide +kernel) rfl, xl_Ti 289 (by decide +kernel) rfl⟩
def mX2_delays : XI := (yX2_delays, cX2_delays, 4, (some .int), 4, 94, 2)
theorem kX2_delays : xl_K mX2_delays := ⟨by decide +kernel, xl_Ti 313 (by decide +kernel) rfl, xl_iX2, by decide +kernel, by decide +kernel, by decide +kernel⟩
theorem vX2_delays : xl_V mX2_delays := ⟨kX2_delays, xl_Ti 311 (by decide +kernel) rfl, xl_Ti 312 (by decide +kernel) rfl⟩
def mX2_event : XI := (yX2_event, cX2_event, 8, (some .int), 6, 153, 4)
theorem kX2_event : xl_K mX2_event := ⟨by decide +kernel, xl_Ti 326 (by decide +kernel) rfl, xl_iX2, by decide +kernel, by decide +kernel, by decide +kernel⟩
theorem vX2_event : xl_V mX2_event := ⟨kX2_event, xl_Ti 324 (by decide +kernel) rfl, xl_Ti 325 (by decide +kernel) rfl⟩
def mX2_events : XI := (yX2_events, cX2_events, 7, (some .int), 7, 174, 0)
theorem kX2_events : xl_K mX2_events := ⟨by decide +kernel, xl_Ti 476 (by decide +kernel) rfl, xl_iX2, by decide +kernel, by decide +kernel, by decide +kernel⟩
theorem vX2_events : xl_V mX2_events := ⟨kX2_events, xl_Ti 474 (by decide +kernel) rfl, xl_Ti 475 (by decide +kernel) rfl⟩
def mX2_marks : XI := (yX2_marks, cX2_marks, 5, (some .int), 6, 145, 2)
theorem kX2_marks : xl_K mX2_marks := ⟨by decide +kernel, xl_Ti 566 (by decide +kernel) rfl, xl_iX2, by decide +kernel, by decide +kernel, by decide +kernel⟩
theorem vX2_marks : xl_V mX2_marks := ⟨kX2_marks, xl_Ti 564 (by decide +kernel) rfl, xl_Ti 565 (by decide +kernel) rfl⟩
def mX2_idles : XI := (yX2_idles, cX2_idles, 4, (some .int), 6, 143, 1)
theorem kX2_idles : xl_K mX2_idles := ⟨by decide +kernel, xl_Ti 582 (by decide +kernel) rfl, xl_iX2, by decide +kernel, by decide +kernel, by decide +kernel⟩
theorem vX2_idles : xl_V mX2_idles := ⟨kX2_idles, xl_Ti 580 (by decide +kernel) rfl, xl_Ti 581 (by decide +kernel) rfl⟩
def mX2_source : XI := (yX2_source, cX2_source, 4, (some .int), 1, 22, 2)
theorem kX2_source : xl_K mX2_source := ⟨by decide +kernel, xl_Ti 773 (by decide +kernel) rfl, xl_iX2, by decide +kernel, by decide +kernel, by decide +kernel⟩
theorem vX2_source : xl_V mX2_source := ⟨kX2_source, xl_Ti 771 (by decide +kernel) rfl, xl_Ti 772 (by decide +kernel) rfl⟩
def mX2_session : XI := (yX2_session, cX2_session, 3, (some .int), 2, 45, 2)
theorem kX2_session : xl_K mX2_session := ⟨by decide +kernel, xl_Ti 841 (by decide +kernel) rfl, xl_iX2, by decide +kernel, by decide +kernel, by decide +kernel⟩
theorem vX2_session : xl_V mX2_session := ⟨kX2_session, xl_Ti 839 (by decide +kernel) rfl, xl_Ti 840 (by decide +kernel) rfl⟩
def mX2_at : XI := (yX2_at, cX2_at, 4, (some .int), 3, 70, 2)
theorem kX2_at : xl_K mX2_at := ⟨by decide +kernel, xl_Ti 598 (by decide +kernel) rfl, xl_iX2, by decide +kernel, by decide +kernel, by decide +kernel⟩
theorem vX2_at : xl_V mX2_at := ⟨kX2_at, xl_Ti 596 (by decide +kernel) rfl, xl_Ti 597 (by decide +kernel) rfl⟩
def mX2_message : XI := (yX2_message, cX2_message, 5, (some .int), 1, 22, 2)
theorem kX2_message : xl_K mX2_message := ⟨by decide +kernel, xl_Ti 851 (by decide +kernel) rfl, xl_iX2, by decide +kernel, by decide +kernel, by decide +kernel⟩
theorem vX2_message : xl_V mX2_message := ⟨kX2_message, xl_Ti 849 (by decide +kernel) rfl, xl_Ti 850 (by decide +kernel) rfl⟩
def mX2_sent : XI := (yX2_sent, cX2_sent, 2, (some .int), 2, 45, 1)
theorem kX2_sent : xl_K mX2_sent := ⟨by decide +kernel, xl_Ti 604 (by decide +kernel) rfl, xl_iX2, by decide +kernel, by decide +kernel, by decide +kernel⟩
theorem vX2_sent : xl_V mX2_sent := ⟨kX2_sent, xl_Ti 602 (by decide +kernel) rfl, xl_Ti 603 (by decide +kernel) rfl⟩
def mX2_stands : XI := (yX2_stands, cX2_stands, 5, (some .int), 3, 68, 0)
theorem kX2_stands : xl_K mX2_stands := ⟨by decide +kernel, xl_Ti 612 (by decide +kernel) rfl, xl_iX2, by decide +kernel, by decide +kernel, by decide +kernel⟩
theorem vX2_stands : xl_V mX2_stands := ⟨kX2_stands, xl_Ti 610 (by decide +kernel) rfl, xl_Ti 611 (by decide +kernel) rfl⟩
def mX2_closed : XI := (yX2_closed, cX2_closed, 2, (some .int), 4, 94, 1)
theorem kX2_closed : xl_K mX2_closed := ⟨by decide +kernel, xl_Ti 617 (by decide +kernel) rfl, xl_iX2, by decide +kernel, by decide +kernel, by decide +kernel⟩
theorem vX2_closed : xl_V mX2_closed := ⟨kX2_closed, xl_Ti 615 (by decide +kernel) rfl, xl_Ti 616 (by decide +kernel) rfl⟩
def mX2_finals : XI := (yX2_finals, cX2_finals, 4, (some .int), 2, 45, 2)
theorem kX2_finals : xl_K mX2_finals := ⟨by decide +kernel, xl_Ti 861 (by decide +kernel) rfl, xl_iX2, by decide +kernel, by decide +kernel, by decide +kernel⟩
theorem vX2_finals : xl_V mX2_finals := ⟨kX2_finals, xl_Ti 859 (by decide +kernel) rfl, xl_Ti 860 (by decide +kernel) rfl⟩
def mX2_kinds : XI := (yX2_kinds, cX2_kinds, 5, (some .int), 2, 43, 1)
theorem kX2_kinds : xl_K mX2_kinds := ⟨by decide +kernel, xl_Ti 625 (by decide +kernel) rfl, xl_iX2, by decide +kernel, by decide +kernel, by decide +kernel⟩
theorem vX2_kinds : xl_V mX2_kinds := ⟨kX2_kinds, xl_Ti 623 (by decide +kernel) rfl, xl_Ti 624 (by decide +kernel) rfl⟩
def mX2_slow : XI := (yX2_slow, cX2_slow, 5, (some .int), 3, 68, 0)
theorem kX2_slow : xl_K mX2_slow := ⟨by decide +kernel, xl_Ti 629 (by decide +kernel) rfl, xl_iX2, by decide +kernel, by decide +kernel, by decide +kernel⟩
theorem vX2_slow : xl_V mX2_slow := ⟨kX2_slow, xl_Ti 627 (by decide +kernel) rfl, xl_Ti 628 (by decide +kernel) rfl⟩
def mX2_span : XI := (yX2_span, cX2_span, 11, (some .int), 4, 94, 2)
theorem kX2_span : xl_K mX2_span := ⟨by decide +kernel, xl_Ti 638 (by decide +kernel) rfl, xl_iX2, by decide +kernel, by decide +kernel, by decide +kernel⟩
theorem vX2_span : xl_V mX2_span := ⟨kX2_span, xl_Ti 636 (by decide +kernel) rfl, xl_Ti 637 (by decide +kernel) rfl⟩
def mX2_taken : XI := (yX2_taken, cX2_taken, 1, (some .int), 4, 94, 0)
theorem kX2_taken : xl_K mX2_taken := ⟨by decide +kernel, xl_Ti 646 (by decide +kernel) rfl, xl_iX2, by decide +kernel, by decide +kernel, by decide +kernel⟩
theorem vX2_taken : xl_V mX2_taken := ⟨kX2_taken, xl_Ti 644 (by decide +kernel) rfl, xl_Ti 645 (by decide +kernel) rfl⟩
def mX2_holds : XI := (yX2_holds, cX2_holds, 6, (some .int), 3, 68, 0)
theorem kX2_holds : xl_K mX2_holds := ⟨by decide +kernel, xl_Ti 650 (by decide +kernel) rfl, xl_iX2, by decide +kernel, by decide +kernel, by decide +kernel⟩
theorem vX2_holds : xl_V mX2_holds := ⟨kX2_holds, xl_Ti 648 (by decide +kernel) rfl, xl_Ti 649 (by decide +kernel) rfl⟩
def mX2_next : XI := (yX2_next, cX2_next, 5, (some .int), 2, 44, 0)
theorem kX2_next : xl_K mX2_next := ⟨by decide +kernel, xl_Ti 655 (by decide +kernel) rfl, xl_iX2, by decide +kernel, by decide +kernel, by decide +kernel⟩
theorem vX2_next : xl_V mX2_next := ⟨kX2_next, xl_Ti 653 (by decide +kernel) rfl, xl_Ti 654 (by decide +kernel) rfl⟩
def mX2_ahead : XI := (yX2_ahead, cX2_ahead, 4, (some .int), 3, 67, 1)
theorem kX2_ahead : xl_K mX2_ahead := ⟨by decide +kernel, xl_Ti 660 (by decide +kernel) rfl, xl_iX2, by decide +kernel, by decide +kernel, by decide +kernel⟩
theorem vX2_ahead : xl_V mX2_ahead := ⟨kX2_ahead, xl_Ti 658 (by decide +kernel) rfl, xl_Ti 659 (by decide +kernel) rfl⟩
def mX2_would : XI := (yX2_would, cX2_would, 8, (some .int), 5, 126, 4)
theorem kX2_would : xl_K mX2_would := ⟨by decide +kernel, xl_Ti 665 (by decide +kernel) rfl, xl_iX2, by decide +kernel, by decide +kernel, by decide +kernel⟩
theorem vX2_would : xl_V mX2_would := ⟨kX2_would, xl_Ti 663 (by decide +kernel) rfl, xl_Ti 664 (by decide +kernel) rfl⟩
def mX2_batch : XI := (yX2_batch, cX2_batch, 11, (some .int), 4, 94, 1)
theorem kX2_batch : xl_K mX2_batch := ⟨by decide +kernel, xl_Ti 670 (by decide +kernel) rfl, xl_iX2, by decide +kernel, by decide +kernel, by decide +kernel⟩
theorem vX2_batch : xl_V mX2_batch := ⟨kX2_batch, xl_Ti 668 (by decide +kernel) rfl, xl_Ti 669 (by decide +kernel) rfl⟩
def mX2_latest : XI := (yX2_latest, cX2_latest, 5, (some .int), 2, 44, 0)
theorem kX2_latest : xl_K mX2_latest := ⟨by decide +kernel, xl_Ti 686 (by decide +kernel) rfl, xl_iX2, by decide +kernel, by decide +kernel, by decide +kernel⟩
theorem vX2_latest : xl_V mX2_latest := ⟨kX2_latest, xl_Ti 684 (by decide +kernel) rfl, xl_Ti 685 (by decide +kernel) rfl⟩
def mX2_parts : XI := (yX2_parts, cX2_parts, 6, (some .int), 3, 70, 2)
theorem kX2_parts : xl_K mX2_parts := ⟨by decide +kernel, xl_Ti 690 (by decide +kernel) rfl, xl_iX2, by decide +kernel, by decide +kernel, by decide +kernel⟩
theorem vX2_parts : xl_V mX2_parts := ⟨kX2_parts, xl_Ti 688 (by decide +kernel) rfl, xl_Ti 689 (by decide +kernel) rfl⟩
def mX2_again : XI := (yX2_again, cX2_again, 5, (some .int), 7, 176, 3)
theorem kX2_again : xl_K mX2_again := ⟨by decide +kernel, xl_Ti 698 (by decide +kernel) rfl, xl_iX2, by decide +kernel, by decide +kernel, by decide +kernel⟩
theorem vX2_again : xl_V mX2_again := ⟨kX2_again, xl_Ti 696 (by decide +kernel) rfl, xl_Ti 697 (by decide +kernel) rfl⟩
def mX2_without : XI := (yX2_without, cX2_without, 2, (some .int), 7, 176, 1)
theorem kX2_without : xl_K mX2_without := ⟨by decide +kernel, xl_Ti 710 (by decide +kernel) rfl, xl_iX2, by decide +kernel, by decide +kernel, by decide +kernel⟩
theorem vX2_without : xl_V mX2_without := ⟨kX2_without, xl_Ti 708 (by decide +kernel) rfl, xl_Ti 709 (by decide +kernel) rfl⟩
def mX2_input : XI := (yX2_input, cX2_input, 3, (some .int), 1, 22, 2)
theorem kX2_input : xl_K mX2_input := ⟨by decide +kernel, xl_Ti 868 (by decide +kernel) rfl, xl_iX2, by decide +kernel, by decide +kernel, by decide +kernel⟩
theorem vX2_input : xl_V mX2_input := ⟨kX2_input, xl_Ti 866 (by decide +kernel) rfl, xl_Ti 867 (by decide +kernel) rfl⟩
def mX2_day : XI := (yX2_day, cX2_day, 8, (some .int), 7, 174, 0)
theorem kX2_day : xl_K mX2_day := ⟨by decide +kernel, xl_Ti 714 (by decide +kernel) rfl, xl_iX2, by decide +kernel, by decide +kernel, by decide +kernel⟩
theorem vX2_day : xl_V mX2_day := ⟨kX2_day, xl_Ti 712 (by decide +kernel) rfl, xl_Ti 713 (by decide +kernel) rfl⟩
def mX2_undo : XI := (yX2_undo, cX2_undo, 1, (some .int), 3, 73, 0)
theorem kX2_undo : xl_K mX2_undo := ⟨by decide +kernel, xl_Ti 742 (by decide +kernel) rfl, xl_iX2, by decide +kernel, by decide +kernel, by decide +kernel⟩
theorem vX2_undo : xl_V mX2_undo := ⟨kX2_undo, xl_Ti 740 (by decide +kernel) rfl, xl_Ti 741 (by decide +kernel) rfl⟩
def mX2_years : XI := (yX2_years, cX2_years, 11, (some .int), 5, 126, 2)
theorem kX2_years : xl_K mX2_years := ⟨by decide +kernel, xl_Ti 746 (by decide +kernel) rfl, xl_iX2, by decide +kernel, by decide +kernel, by decide +kernel⟩
theorem vX2_years : xl_V mX2_years := ⟨kX2_years, xl_Ti 744 (by decide +kernel) rfl, xl_Ti 745 (by decide +kernel) rfl⟩
def mX2_keep : XI := (yX2_keep, cX2_keep, 3, (some .boolean), 3, 73, 1)
theorem kX2_keep : xl_K mX2_keep := ⟨by decide +kernel, xl_Ti 757 (by decide +kernel) rfl, xl_iX2, by decide +kernel, by decide +kernel, by decide +kernel⟩
theorem vX2_keep : xl_V mX2_keep := ⟨kX2_keep, xl_Ti 755 (by decide +kernel) rfl, xl_Ti 756 (by decide +kernel) rfl⟩
def mX2_back : XI := (yX2_back, cX2_back, 2, (some .boolean), 3, 73, 1)
theorem kX2_back : xl_K mX2_back := ⟨by decide +kernel, xl_Ti 761 (by decide +kernel) rfl, xl_iX2, by decide +kernel, by decide +kernel, by decide +kernel⟩
theorem vX2_back : xl_V mX2_back := ⟨kX2_back, xl_Ti 759 (by decide +kernel) rfl, xl_Ti 760 (by decide +kernel) rfl⟩
def mX2_count : XI := (yX2_count, cX2_count, 2, (some .int), 0, 0, 1)
theorem kX2_count : xl_K mX2_count := ⟨by decide +kernel, xl_Ti 765 (by decide +kernel) rfl, xl_iX2, by decide +kernel, by decide +kernel, by decide +kernel⟩
theorem vX2_count : xl_V mX2_count := ⟨kX2_count, xl_Ti 763 (by decide +kernel) rfl, xl_Ti 764 (by decide +kernel) rfl⟩
def mX2_row : XI := (yX2_row, cX2_row, 2, (some .long), 0, 0, 1)
theorem kX2_row : xl_K mX2_row := ⟨by decide +kernel, xl_Ti 875 (by decide +kernel) rfl, xl_iX2, by decide +kernel, by decide +kernel, by decide +kernel⟩
theorem vX2_row : xl_V mX2_row := ⟨kX2_row, xl_Ti 873 (by decide +kernel) rfl, xl_Ti 874 (by decide +kernel) rfl⟩
def mX2_isKey : XI := (yX2_isKey, cX2_isKey, 1, (some .boolean), 0, 0, 1)
theorem kX2_isKey : xl_K mX2_isKey := ⟨by decide +kernel, xl_Ti 337 (by decide +kernel) rfl, xl_iX2, by decide +kernel, by decide +kernel, by decide +kernel⟩
theorem vX2_isKey : xl_U mX2_isKey := ⟨kX2_isKey, xl_Ti 336 (by decide +kernel) rfl⟩
def mX2_isTime : XI := (yX2_isTime, cX2_isTime, 1, (some .boolean), 0, 0, 1)
theorem kX2_isTime : xl_K mX2_isTime := ⟨by decide +kernel, xl_Ti 340 (by decide +kernel) rfl, xl_iX2, by decide +kernel, by decide +kernel, by decide +kernel⟩
theorem vX2_isTime : xl_U mX2_isTime := ⟨kX2_isTime, xl_Ti 339 (by decide +kernel) rfl⟩
def mX2_isSource : XI := (yX2_isSource, cX2_isSource, 2, (some .boolean), 0, 0, 1)
theorem kX2_isSource : xl_K mX2_isSource := ⟨by decide +kernel, xl_Ti 317 (by decide +kernel) rfl, xl_iX2, by decide +kernel, by decide +kernel, by decide +kernel⟩
theorem vX2_isSource : xl_V mX2_isSource := ⟨kX2_isSource, xl_Ti 316 (by decide +kernel) rfl, xl_Ti 2 (by decide +kernel) rfl⟩
def mX2_isEvent : XI := (yX2_isEvent, cX2_isEvent, 5, (some .boolean), 1, 21, 4)
theorem kX2_isEvent : xl_K mX2_isEvent := ⟨by decide +kernel, xl_Ti 334 (by decide +kernel) rfl, xl_iX2, by decide +kernel, by decide +kernel, by decide +kernel⟩
theorem vX2_isEvent : xl_V mX2_isEvent := ⟨kX2_isEvent, xl_Ti 333 (by decide +kernel) rfl, xl_Ti 4 (by decide +kernel) rfl⟩
def mX2_areSettings : XI := (yX2_areSettings, cX2_areSettings, 3, (some .boolean), 0, 0, 3)
theorem kX2_areSettings : xl_K mX2_areSettings := ⟨by decide +kernel, xl_Ti 293 (by decide +kernel) rfl, xl_iX2, by decide +kernel, by decide +kernel, by decide +kernel⟩
theorem vX2_areSettings : xl_U mX2_areSettings := ⟨kX2_areSettings, xl_Ti 292 (by decide +kernel) rfl⟩
def mX2_eventRefusal : XI := (yX2_eventRefusal, cX2_eventRefusal, 5, (some .int), 2, 45, 4)
theorem kX2_eventRefusal : xl_K mX2_eventRefusal := ⟨by decide +kernel, xl_Ti 330 (by decide +kernel) rfl, xl_iX2, by decide +kernel, by decide +kernel, by decide +kernel⟩
theorem vX2_eventRefusal : xl_V mX2_eventRefusal := ⟨kX2_eventRefusal, xl_Ti 329 (by decide +kernel) rfl, xl_Ti 3 (by decide +kernel) rfl⟩
def mX2_markRefusal : XI := (yX2_markRefusal, cX2_markRefusal, 3, (some .int), 1, 22, 2)
theorem kX2_markRefusal : xl_K mX2_markRefusal := ⟨by decide +kernel, xl_Ti 570 (by decide +kernel) rfl, xl_iX2, by decide +kernel, by decide +kernel, by decide +kernel⟩
theorem vX2_markRefusal : xl_V mX2_markRefusal := ⟨kX2_markRefusal, xl_Ti 569 (by decide +kernel) rfl, xl_Ti 33 (by decide +kernel) rfl⟩
def mX2_idleRefusal : XI := (yX2_idleRefusal, cX2_idleRefusal, 2, (some .int), 1, 22, 1)
theorem kX2_idleRefusal : xl_K mX2_idleRefusal := ⟨by decide +kernel, xl_Ti 586 (by decide +kernel) rfl, xl_iX2, by decide +kernel, by decide +kernel, by decide +kernel⟩
theorem vX2_idleRefusal : xl_V mX2_idleRefusal := ⟨kX2_idleRefusal, xl_Ti 585 (by decide +kernel) rfl, xl_Ti 34 (by decide +kernel) rfl⟩
def mX2_inputRefusal : XI := (yX2_inputRefusal, cX2_inputRefusal, 1, (some .int), 0, 0, 0)
theorem kX2_inputRefusal : xl_K mX2_inputRefusal := ⟨by decide +kernel, xl_Ti 344 (by decide +kernel) rfl, xl_iX2, by decide +kernel, by decide +kernel, by decide +kernel⟩
theorem vX2_inputRefusal : xl_V mX2_inputRefusal := ⟨kX2_inputRefusal, xl_Ti 343 (by decide +kernel) rfl, xl_Ti 5 (by decide +kernel) rfl⟩
def mX2_isOfLatest : XI := (yX2_isOfLatest, cX2_isOfLatest, 3, (some .boolean), 0, 0, 3)
theorem kX2_isOfLatest : xl_K mX2_isOfLatest := ⟨by decide +kernel, xl_Ti 854 (by decide +kernel) rfl, xl_iX2, by decide +kernel, by decide +kernel, by decide +kernel⟩
theorem vX2_isOfLatest : xl_U mX2_isOfLatest := ⟨kX2_isOfLatest, xl_Ti 853 (by decide +kernel) rfl⟩
def mX2_shifted : XI := (yX2_shifted, cX2_shifted, 4, (some .int), 1, 22, 3)
theorem kX2_shifted : xl_K mX2_shifted := ⟨by decide +kernel, xl_Ti 844 (by decide +kernel) rfl, xl_iX2, by decide +kernel, by decide +kernel, by decide +kernel⟩
theorem vX2_shifted : xl_U mX2_shifted := ⟨kX2_shifted, xl_Ti 843 (by decide +kernel) rfl⟩
def mX2_tellNothing : XI := (yX2_tellNothing, cX2_tellNothing, 1, none, 0, 0, 0)
theorem kX2_tellNothing : xl_K mX2_tellNothing := ⟨by decide +kernel, xl_Ti 468 (by decide +kernel) rfl, xl_iX2, by decide +kernel, by decide +kernel, by decide +kernel⟩
theorem vX2_tellNothing : xl_V mX2_tellNothing := ⟨kX2_tellNothing, xl_Ti 467 (by decide +kernel) rfl, xl_Ti 22 (by decide +kernel) rfl⟩
def mX2_tellMore : XI := (yX2_tellMore, cX2_tellMore, 3, none, 0, 0, 1)
theorem kX2_tellMore : xl_K mX2_tellMore := ⟨by decide +kernel, xl_Ti 472 (by decide +kernel) rfl, xl_iX2, by decide +kernel, by decide +kernel, by decide +kernel⟩
theorem vX2_tellMore : xl_V mX2_tellMore := ⟨kX2_tellMore, xl_Ti 471 (by decide +kernel) rfl, xl_Ti 23 (by decide +kernel) rfl⟩
def mX2_tellOne : XI := (yX2_tellOne, cX2_tellOne, 3, none, 1, 22, 1)
theorem kX2_tellOne : xl_K mX2_tellOne := ⟨by decide +kernel, xl_Ti 464 (by decide +kernel) rfl, xl_iX2, by decide +kernel, by decide +kernel, by decide +kernel⟩
theorem vX2_tellOne : xl_V mX2_tellOne := ⟨kX2_tellOne, xl_Ti 463 (by decide +kernel) rfl, xl_Ti 21 (by decide +kernel) rfl⟩
def mX2_tellTwo : XI := (yX2_tellTwo, cX2_tellTwo, 5, none, 2, 44, 2)
theorem kX2_tellTwo : xl_K mX2_tellTwo := ⟨by decide +kernel, xl_Ti 460 (by decide +kernel) rfl, xl_iX2, by decide +kernel, by decide +kernel, by decide +kernel⟩
theorem vX2_tellTwo : xl_V mX2_tellTwo := ⟨kX2_tellTwo, xl_Ti 459 (by decide +kernel) rfl, xl_Ti 20 (by decide +kernel) rfl⟩
def mX2_tellThree : XI := (yX2_tellThree, cX2_tellThree, 7, none, 3, 68, 3)
theorem kX2_tellThree : xl_K mX2_tellThree := ⟨by decide +kernel, xl_Ti 621 (by decide +kernel) rfl, xl_iX2, by decide +kernel, by decide +kernel, by decide +kernel⟩
theorem vX2_tellThree : xl_V mX2_tellThree := ⟨kX2_tellThree, xl_Ti 620 (by decide +kernel) rfl, xl_Ti 35 (by decide +kernel) rfl⟩
def mX2_putSign : XI := (yX2_putSign, cX2_putSign, 2, none, 0, 0, 1)
theorem kX2_putSign : xl_K mX2_putSign := ⟨by decide +kernel, xl_Ti 282 (by decide +kernel) rfl, xl_iX2, by decide +kernel, by decide +kernel, by decide +kernel⟩
theorem vX2_putSign : xl_V mX2_putSign := ⟨kX2_putSign, xl_Ti 281 (by decide +kernel) rfl, xl_Ti 0 (by decide +kernel) rfl⟩
def mX2_takeText : XI := (yX2_takeText, cX2_takeText, 2, (some .int), 0, 0, 0)
theorem kX2_takeText : xl_K mX2_takeText := ⟨by decide +kernel, xl_Ti 480 (by decide +kernel) rfl, xl_iX2, by decide +kernel, by decide +kernel, by decide +kernel⟩
theorem vX2_takeText : xl_V mX2_takeText := ⟨kX2_takeText, xl_Ti 479 (by decide +kernel) rfl, xl_Ti 24 (by decide +kernel) rfl⟩
def mX2_signAt : XI := (yX2_signAt, cX2_signAt, 2, (some .int), 0, 0, 1)
theorem kX2_signAt : xl_K mX2_signAt := ⟨by decide +kernel, xl_Ti 503 (by decide +kernel) rfl, xl_iX2, by decide +kernel, by decide +kernel, by decide +kernel⟩
theorem vX2_signAt : xl_V mX2_signAt := ⟨kX2_signAt, xl_Ti 502 (by decide +kernel) rfl, xl_Ti 27 (by decide +kernel) rfl⟩
def mX2_fits : XI := (yX2_fits, cX2_fits, 3, (some .boolean), 0, 0, 2)
theorem kX2_fits : xl_K mX2_fits := ⟨by decide +kernel, xl_Ti 545 (by decide +kernel) rfl, xl_iX2, by decide +kernel, by decide +kernel, by decide +kernel⟩
theorem vX2_fits : xl_V mX2_fits := ⟨kX2_fits, xl_Ti 544 (by decide +kernel) rfl, xl_Ti 28 (by decide +kernel) rfl⟩
def mX2_formMisfit : XI := (yX2_formMisfit, cX2_formMisfit, 5, (some .int), 5, 106, 3)
theorem kX2_formMisfit : xl_K mX2_formMisfit := ⟨by decide +kernel, xl_Ti 489 (by decide +kernel) rfl, xl_iX2, by decide +kernel, by decide +kernel, by decide +kernel⟩
theorem vX2_formMisfit : xl_V mX2_formMisfit := ⟨kX2_formMisfit, xl_Ti 488 (by decide +kernel) rfl, xl_Ti 26 (by decide +kernel) rfl⟩
def mX2_eventsMisfit : XI := (yX2_eventsMisfit, cX2_eventsMisfit, 4, (some .int), 6, 130, 1)
theorem kX2_eventsMisfit : xl_K mX2_eventsMisfit := ⟨by decide +kernel, xl_Ti 484 (by decide +kernel) rfl, xl_iX2, by decide +kernel, by decide +kernel, by decide +kernel⟩
theorem vX2_eventsMisfit : xl_V mX2_eventsMisfit := ⟨kX2_eventsMisfit, xl_Ti 483 (by decide +kernel) rfl, xl_Ti 25 (by decide +kernel) rfl⟩
def mX2_dayMisfit : XI := (yX2_dayMisfit, cX2_dayMisfit, 6, (some .int), 6, 130, 1)
theorem kX2_dayMisfit : xl_K mX2_dayMisfit := ⟨by decide +kernel, xl_Ti 718 (by decide +kernel) rfl, xl_iX2, by decide +kernel, by decide +kernel, by decide +kernel⟩
theorem vX2_dayMisfit : xl_V mX2_dayMisfit := ⟨kX2_dayMisfit, xl_Ti 717 (by decide +kernel) rfl, xl_Ti 40 (by decide +kernel) rfl⟩
def mX2_actForm : XI := (yX2_actForm, cX2_actForm, 2, (some (.object "java/lang/String")), 1, 21, 1)
theorem kX2_actForm : xl_K mX2_actForm := ⟨by decide +kernel, xl_Ti 722 (by decide +kernel) rfl, xl_iX2, by decide +kernel, by decide +kernel, by decide +kernel⟩
theorem vX2_actForm : xl_V mX2_actForm := ⟨kX2_actForm, xl_Ti 721 (by decide +kernel) rfl, xl_Ti 41 (by decide +kernel) rfl⟩
def mX2_numberAt : XI := (yX2_numberAt, cX2_numberAt, 5, (some .int), 1, 21, 2)
theorem kX2_numberAt : xl_K mX2_numberAt := ⟨by decide +kernel, xl_Ti 557 (by decide +kernel) rfl, xl_iX2, by decide +kernel, by decide +kernel, by decide +kernel⟩
theorem vX2_numberAt : xl_V mX2_numberAt := ⟨kX2_numberAt, xl_Ti 556 (by decide +kernel) rfl, xl_Ti 31 (by decide +kernel) rfl⟩
def mX2_keyAt : XI := (yX2_keyAt, cX2_keyAt, 2, (some .int), 1, 21, 1)
theorem kX2_keyAt : xl_K mX2_keyAt := ⟨by decide +kernel, xl_Ti 553 (by decide +kernel) rfl, xl_iX2, by decide +kernel, by decide +kernel, by decide +kernel⟩
theorem vX2_keyAt : xl_V mX2_keyAt := ⟨kX2_keyAt, xl_Ti 552 (by decide +kernel) rfl, xl_Ti 30 (by decide +kernel) rfl⟩
def mX2_valueAt : XI := (yX2_valueAt, cX2_valueAt, 3, (some .int), 2, 45, 1)
theorem kX2_valueAt : xl_K mX2_valueAt := ⟨by decide +kernel, xl_Ti 561 (by decide +kernel) rfl, xl_iX2, by decide +kernel, by decide +kernel, by decide +kernel⟩
theorem vX2_valueAt : xl_V mX2_valueAt := ⟨kX2_valueAt, xl_Ti 560 (by decide +kernel) rfl, xl_Ti 32 (by decide +kernel) rfl⟩
def mX2_comeEventAt : XI := (yX2_comeEventAt, cX2_comeEventAt, 2, (some .int), 6, 153, 1)
theorem kX2_comeEventAt : xl_K mX2_comeEventAt := ⟨by decide +kernel, xl_Ti 549 (by decide +kernel) rfl, xl_iX2, by decide +kernel, by decide +kernel, by decide +kernel⟩
theorem vX2_comeEventAt : xl_V mX2_comeEventAt := ⟨kX2_comeEventAt, xl_Ti 548 (by decide +kernel) rfl, xl_Ti 29 (by decide +kernel) rfl⟩
def mX2_actRefusal : XI := (yX2_actRefusal, cX2_actRefusal, 2, (some .int), 3, 69, 1)
theorem kX2_actRefusal : xl_K mX2_actRefusal := ⟨by decide +kernel, xl_Ti 734 (by decide +kernel) rfl, xl_iX2, by decide +kernel, by decide +kernel, by decide +kernel⟩
theorem vX2_actRefusal : xl_V mX2_actRefusal := ⟨kX2_actRefusal, xl_Ti 733 (by decide +kernel) rfl, xl_Ti 42 (by decide +kernel) rfl⟩
def mX2_comeAct : XI := (yX2_comeAct, cX2_comeAct, 2, none, 6, 153, 1)
theorem kX2_comeAct : xl_K mX2_comeAct := ⟨by decide +kernel, xl_Ti 738 (by decide +kernel) rfl, xl_iX2, by decide +kernel, by decide +kernel, by decide +kernel⟩
theorem vX2_comeAct : xl_V mX2_comeAct := ⟨kX2_comeAct, xl_Ti 737 (by decide +kernel) rfl, xl_Ti 43 (by decide +kernel) rfl⟩
def mX2_remember : XI := (yX2_remember, cX2_remember, 2, none, 3, 73, 0)
theorem kX2_remember : xl_K mX2_remember := ⟨by decide +kernel, xl_Ti 297 (by decide +kernel) rfl, xl_iX2, by decide +kernel, by decide +kernel, by decide +kernel⟩
theorem vX2_remember : xl_V mX2_remember := ⟨kX2_remember, xl_Ti 296 (by decide +kernel) rfl, xl_Ti 1 (by decide +kernel) rfl⟩
def mX2_replay : XI := (yX2_replay, cX2_replay, 7, none, 6, 150, 4)
theorem kX2_replay : xl_K mX2_replay := ⟨by decide +kernel, xl_Ti 702 (by decide +kernel) rfl, xl_iX2, by decide +kernel, by decide +kernel, by decide +kernel⟩
theorem vX2_replay : xl_V mX2_replay := ⟨kX2_replay, xl_Ti 701 (by decide +kernel) rfl, xl_Ti 39 (by decide +kernel) rfl⟩
def mX2_sortTaken : XI := (yX2_sortTaken, cX2_sortTaken, 6, (some .int), 2, 45, 1)
theorem kX2_sortTaken : xl_K mX2_sortTaken := ⟨by decide +kernel, xl_Ti 674 (by decide +kernel) rfl, xl_iX2, by decide +kernel, by decide +kernel, by decide +kernel⟩
theorem vX2_sortTaken : xl_V mX2_sortTaken := ⟨kX2_sortTaken, xl_Ti 673 (by decide +kernel) rfl, xl_Ti 36 (by decide +kernel) rfl⟩
def mX2_sortedCell : XI := (yX2_sortedCell, cX2_sortedCell, 3, (some .int), 1, 22, 2)
theorem kX2_sortedCell : xl_K mX2_sortedCell := ⟨by decide +kernel, xl_Ti 678 (by decide +kernel) rfl, xl_iX2, by decide +kernel, by decide +kernel, by decide +kernel⟩
theorem vX2_sortedCell : xl_V mX2_sortedCell := ⟨kX2_sortedCell, xl_Ti 677 (by decide +kernel) rfl, xl_Ti 37 (by decide +kernel) rfl⟩
def mX2_holeBehind : XI := (yX2_holeBehind, cX2_holeBehind, 2, (some .int), 2, 44, 1)
theorem kX2_holeBehind : xl_K mX2_holeBehind := ⟨by decide +kernel, xl_Ti 682 (by decide +kernel) rfl, xl_iX2, by decide +kernel, by decide +kernel, by decide +kernel⟩
theorem vX2_holeBehind : xl_V mX2_holeBehind := ⟨kX2_holeBehind, xl_Ti 681 (by decide +kernel) rfl, xl_Ti 38 (by decide +kernel) rfl⟩
def mX2_drawAfter : XI := (yX2_drawAfter, cX2_drawAfter, 1, (some .int), 0, 0, 1)
theorem kX2_drawAfter : xl_K mX2_drawAfter := ⟨by decide +kernel, xl_Ti 749 (by decide +kernel) rfl, xl_iX2, by decide +kernel, by decide +kernel, by decide +kernel⟩
theorem vX2_drawAfter : xl_U mX2_drawAfter := ⟨kX2_drawAfter, xl_Ti 748 (by decide +kernel) rfl⟩
def mX2_drawOf : XI := (yX2_drawOf, cX2_drawOf, 2, (some .int), 0, 0, 2)
theorem kX2_drawOf : xl_K mX2_drawOf := ⟨by decide +kernel, xl_Ti 753 (by decide +kernel) rfl, xl_iX2, by decide +kernel, by decide +kernel, by decide +kernel⟩
theorem vX2_drawOf : xl_U mX2_drawOf := ⟨kX2_drawOf, xl_Ti 752 (by decide +kernel) rfl⟩
def mX3_thrown : XI := (yX3_thrown, cX3_thrown, 1, (some .int), 0, 0, 0)
theorem kX3_thrown : xl_K mX3_thrown := ⟨by decide +kernel, xl_Ti 879 (by decide +kernel) rfl, xl_iX3, by decide +kernel, by decide +kernel, by decide +kernel⟩
theorem vX3_thrown : xl_V mX3_thrown := ⟨kX3_thrown, xl_Ti 877 (by decide +kernel) rfl, xl_Ti 878 (by decide +kernel) rfl⟩
def mX3_in : XI := (yX3_in, cX3_in, 6, (some .boolean), 0, 0, 3)
theorem kX3_in : xl_K mX3_in := ⟨by decide +kernel, xl_Ti 890 (by decide +kernel) rfl, xl_iX3, by decide +kernel, by decide +kernel, by decide +kernel⟩
theorem vX3_in : xl_U mX3_in := ⟨kX3_in, xl_Ti 889 (by decide +kernel) rfl⟩
def mX3_flag : XI := (yX3_flag, cX3_flag, 1, (some .int), 0, 0, 1)
theorem kX3_flag : xl_K mX3_flag := ⟨by decide +kernel, xl_Ti 1036 (by decide +kernel) rfl, xl_iX3, by decide +kernel, by decide +kernel, by decide +kernel⟩
theorem vX3_flag : xl_U mX3_flag := ⟨kX3_flag, xl_Ti 1035 (by decide +kernel) rfl⟩
def mX3_enters : XI := (yX3_enters, cX3_enters, 3, none, 0, 0, 1)
theorem kX3_enters : xl_K mX3_enters := ⟨by decide +kernel, xl_Ti 1125 (by decide +kernel) rfl, xl_iX3, by decide +kernel, by decide +kernel, by decide +kernel⟩
theorem vX3_enters : xl_V mX3_enters := ⟨kX3_enters, xl_Ti 1124 (by decide +kernel) rfl, xl_Ti 75 (by decide +kernel) rfl⟩
def mX3_sign : XI := (yX3_sign, cX3_sign, 3, (some .int), 0, 0, 1)
theorem kX3_sign : xl_K mX3_sign := ⟨by decide +kernel, xl_Ti 883 (by decide +kernel) rfl, xl_iX3, by decide +kernel, by decide +kernel, by decide +kernel⟩
theorem vX3_sign : xl_V mX3_sign := ⟨kX3_sign, xl_Ti 881 (by decide +kernel) rfl, xl_Ti 882 (by decide +kernel) rfl⟩
def mX3_end : XI := (yX3_end, cX3_end, 2, (some .boolean), 1, 25, 1)
theorem kX3_end : xl_K mX3_end := ⟨by decide +kernel, xl_Ti 887 (by decide +kernel) rfl, xl_iX3, by decide +kernel, by decide +kernel, by decide +kernel⟩
theorem vX3_end : xl_V mX3_end := ⟨kX3_end, xl_Ti 885 (by decide +kernel) rfl, xl_Ti 886 (by decide +kernel) rfl⟩
def mX3_reads : XI := (yX3_reads, cX3_reads, 1, none, 0, 0, 0)
theorem kX3_reads : xl_K mX3_reads := ⟨by decide +kernel, xl_Ti 1133 (by decide +kernel) rfl, xl_iX3, by decide +kernel, by decide +kernel, by decide +kernel⟩
theorem vX3_reads : xl_V mX3_reads := ⟨kX3_reads, xl_Ti 1132 (by decide +kernel) rfl, xl_Ti 76 (by decide +kernel) rfl⟩
def mX3_takesOf : XI := (yX3_takesOf, cX3_takesOf, 3, (some .int), 5, 106, 1)
theorem kX3_takesOf : xl_K mX3_takesOf := ⟨by decide +kernel, xl_Ti 1142 (by decide +kernel) rfl, xl_iX3, by decide +kernel, by decide +kernel, by decide +kernel⟩
theorem vX3_takesOf : xl_V mX3_takesOf := ⟨kX3_takesOf, xl_Ti 1141 (by decide +kernel) rfl, xl_Ti 78 (by decide +kernel) rfl⟩
def mX3_digits : XI := (yX3_digits, cX3_digits, 5, (some .int), 6, 128, 1)
theorem kX3_digits : xl_K mX3_digits := ⟨by decide +kernel, xl_Ti 1148 (by decide +kernel) rfl, xl_iX3, by decide +kernel, by decide +kernel, by decide +kernel⟩
theorem vX3_digits : xl_V mX3_digits := ⟨kX3_digits, xl_Ti 1147 (by decide +kernel) rfl, xl_Ti 79 (by decide +kernel) rfl⟩
def mX3_init : XI := (yX3_init, cX3_init, 1, none, 2, 49, 0)
theorem kX3_init : xl_K mX3_init := ⟨by decide +kernel, xl_Ti 895 (by decide +kernel) rfl, xl_iX3, by decide +kernel, by decide +kernel, by decide +kernel⟩
def mX3_copies : XI := (yX3_copies, cX3_copies, 4, none, 0, 0, 2)
theorem kX3_copies : xl_K mX3_copies := ⟨by decide +kernel, xl_Ti 983 (by decide +kernel) rfl, xl_iX3, by decide +kernel, by decide +kernel, by decide +kernel⟩
theorem vX3_copies : xl_V mX3_copies := ⟨kX3_copies, xl_Ti 982 (by decide +kernel) rfl, xl_Ti 47 (by decide +kernel) rfl⟩
def mX3_starts : XI := (yX3_starts, cX3_starts, 7, none, 1, 23, 5)
theorem kX3_starts : xl_K mX3_starts := ⟨by decide +kernel, xl_Ti 900 (by decide +kernel) rfl, xl_iX3, by decide +kernel, by decide +kernel, by decide +kernel⟩
theorem vX3_starts : xl_V mX3_starts := ⟨kX3_starts, xl_Ti 899 (by decide +kernel) rfl, xl_Ti 45 (by decide +kernel) rfl⟩
def mX3_of : XI := (yX3_of, cX3_of, 3, (some .int), 0, 0, 2)
theorem kX3_of : xl_K mX3_of := ⟨by decide +kernel, xl_Ti 1013 (by decide +kernel) rfl, xl_iX3, by decide +kernel, by decide +kernel, by decide +kernel⟩
theorem vX3_of : xl_V mX3_of := ⟨kX3_of, xl_Ti 1012 (by decide +kernel) rfl, xl_Ti 51 (by decide +kernel) rfl⟩
def mX3_puts : XI := (yX3_puts, cX3_puts, 4, none, 0, 0, 3)
theorem kX3_puts : xl_K mX3_puts := ⟨by decide +kernel, xl_Ti 904 (by decide +kernel) rfl, xl_iX3, by decide +kernel, by decide +kernel, by decide +kernel⟩
theorem vX3_puts : xl_V mX3_puts := ⟨kX3_puts, xl_Ti 903 (by decide +kernel) rfl, xl_Ti 46 (by decide +kernel) rfl⟩
def mX3_adds : XI := (yX3_adds, cX3_adds, 4, none, 0, 0, 3)
theorem kX3_adds : xl_K mX3_adds := ⟨by decide +kernel, xl_Ti 1044 (by decide +kernel) rfl, xl_iX3, by decide +kernel, by decide +kernel, by decide +kernel⟩
theorem vX3_adds : xl_V mX3_adds := ⟨kX3_adds, xl_Ti 1043 (by decide +kernel) rfl, xl_Ti 56 (by decide +kernel) rfl⟩
def mX3_lays : XI := (yX3_lays, cX3_lays, 2, none, 1, 23, 0)
theorem kX3_lays : xl_K mX3_lays := ⟨by decide +kernel, xl_Ti 1001 (by decide +kernel) rfl, xl_iX3, by decide +kernel, by decide +kernel, by decide +kernel⟩
theorem vX3_lays : xl_V mX3_lays := ⟨kX3_lays, xl_Ti 1000 (by decide +kernel) rfl, xl_Ti 49 (by decide +kernel) rfl⟩
def mX3_done : XI := (yX3_done, cX3_done, 2, (some .int), 2, 44, 1)
theorem kX3_done : xl_K mX3_done := ⟨by decide +kernel, xl_Ti 997 (by decide +kernel) rfl, xl_iX3, by decide +kernel, by decide +kernel, by decide +kernel⟩
theorem vX3_done : xl_V mX3_done := ⟨kX3_done, xl_Ti 996 (by decide +kernel) rfl, xl_Ti 48 (by decide +kernel) rfl⟩
def mX3_undo : XI := (yX3_undo, cX3_undo, 1, (some .int), 1, 23, 0)
theorem kX3_undo : xl_K mX3_undo := ⟨by decide +kernel, xl_Ti 979 (by decide +kernel) rfl, xl_iX3, by decide +kernel, by decide +kernel, by decide +kernel⟩
theorem vX3_undo : xl_V mX3_undo := ⟨kX3_undo, xl_Ti 977 (by decide +kernel) rfl, xl_Ti 978 (by decide +kernel) rfl⟩
def mX3_areSettings : XI := (yX3_areSettings, cX3_areSettings, 3, (some .boolean), 1, 25, 3)
theorem kX3_areSettings : xl_K mX3_areSettings := ⟨by decide +kernel, xl_Ti 991 (by decide +kernel) rfl, xl_iX3, by decide +kernel, by decide +kernel, by decide +kernel⟩
theorem vX3_areSettings : xl_U mX3_areSettings := ⟨kX3_areSettings, xl_Ti 990 (by decide +kernel) rfl⟩
def mX3_start : XI := (yX3_start, cX3_start, 5, (some .int), 3, 65, 4)
theorem kX3_start : xl_K mX3_start := ⟨by decide +kernel, xl_Ti 987 (by decide +kernel) rfl, xl_iX3, by decide +kernel, by decide +kernel, by decide +kernel⟩
theorem vX3_start : xl_V mX3_start := ⟨kX3_start, xl_Ti 985 (by decide +kernel) rfl, xl_Ti 986 (by decide +kernel) rfl⟩
def mX3_isSource : XI := (yX3_isSource, cX3_isSource, 2, (some .boolean), 1, 25, 1)
theorem kX3_isSource : xl_K mX3_isSource := ⟨by decide +kernel, xl_Ti 1009 (by decide +kernel) rfl, xl_iX3, by decide +kernel, by decide +kernel, by decide +kernel⟩
theorem vX3_isSource : xl_V mX3_isSource := ⟨kX3_isSource, xl_Ti 1008 (by decide +kernel) rfl, xl_Ti 50 (by decide +kernel) rfl⟩
def mX3_delays : XI := (yX3_delays, cX3_delays, 4, (some .int), 3, 65, 2)
theorem kX3_delays : xl_K mX3_delays := ⟨by decide +kernel, xl_Ti 1005 (by decide +kernel) rfl, xl_iX3, by decide +kernel, by decide +kernel, by decide +kernel⟩
theorem vX3_delays : xl_V mX3_delays := ⟨kX3_delays, xl_Ti 1003 (by decide +kernel) rfl, xl_Ti 1004 (by decide +kernel) rfl⟩
def mX3_place : XI := (yX3_place, cX3_place, 2, (some .int), 0, 0, 2)
theorem kX3_place : xl_K mX3_place := ⟨by decide +kernel, xl_Ti 1059 (by decide +kernel) rfl, xl_iX3, by decide +kernel, by decide +kernel, by decide +kernel⟩
theorem vX3_place : xl_U mX3_place := ⟨kX3_place, xl_Ti 1058 (by decide +kernel) rfl⟩
def mX3_ofSession : XI := (yX3_ofSession, cX3_ofSession, 4, (some .int), 1, 21, 3)
theorem kX3_ofSession : xl_K mX3_ofSession := ⟨by decide +kernel, xl_Ti 1056 (by decide +kernel) rfl, xl_iX3, by decide +kernel, by decide +kernel, by decide +kernel⟩
theorem vX3_ofSession : xl_V mX3_ofSession := ⟨kX3_ofSession, xl_Ti 1055 (by decide +kernel) rfl, xl_Ti 59 (by decide +kernel) rfl⟩
def mX3_goesOut : XI := (yX3_goesOut, cX3_goesOut, 4, none, 1, 23, 2)
theorem kX3_goesOut : xl_K mX3_goesOut := ⟨by decide +kernel, xl_Ti 1073 (by decide +kernel) rfl, xl_iX3, by decide +kernel, by decide +kernel, by decide +kernel⟩
theorem vX3_goesOut : xl_V mX3_goesOut := ⟨kX3_goesOut, xl_Ti 1072 (by decide +kernel) rfl, xl_Ti 62 (by decide +kernel) rfl⟩
def mX3_comesIn : XI := (yX3_comesIn, cX3_comesIn, 4, (some .int), 3, 67, 1)
theorem kX3_comesIn : xl_K mX3_comesIn := ⟨by decide +kernel, xl_Ti 1077 (by decide +kernel) rfl, xl_iX3, by decide +kernel, by decide +kernel, by decide +kernel⟩
theorem vX3_comesIn : xl_V mX3_comesIn := ⟨kX3_comesIn, xl_Ti 1076 (by decide +kernel) rfl, xl_Ti 63 (by decide +kernel) rfl⟩
def mX3_isBehind : XI := (yX3_isBehind, cX3_isBehind, 4, (some .boolean), 2, 44, 2)
theorem kX3_isBehind : xl_K mX3_isBehind := ⟨by decide +kernel, xl_Ti 1081 (by decide +kernel) rfl, xl_iX3, by decide +kernel, by decide +kernel, by decide +kernel⟩
theorem vX3_isBehind : xl_V mX3_isBehind := ⟨kX3_isBehind, xl_Ti 1080 (by decide +kernel) rfl, xl_Ti 64 (by decide +kernel) rfl⟩
def mX3_sends : XI := (yX3_sends, cX3_sends, 7, none, 2, 44, 3)
theorem kX3_sends : xl_K mX3_sends := ⟨by decide +kernel, xl_Ti 1067 (by decide +kernel) rfl, xl_iX3, by decide +kernel, by decide +kernel, by decide +kernel⟩
theorem vX3_sends : xl_V mX3_sends := ⟨kX3_sends, xl_Ti 1066 (by decide +kernel) rfl, xl_Ti 61 (by decide +kernel) rfl⟩
def mX3_takesBack : XI := (yX3_takesBack, cX3_takesBack, 3, none, 3, 70, 2)
theorem kX3_takesBack : xl_K mX3_takesBack := ⟨by decide +kernel, xl_Ti 1063 (by decide +kernel) rfl, xl_iX3, by decide +kernel, by decide +kernel, by decide +kernel⟩
theorem vX3_takesBack : xl_V mX3_takesBack := ⟨kX3_takesBack, xl_Ti 1062 (by decide +kernel) rfl, xl_Ti 60 (by decide +kernel) rfl⟩
def mX3_isRipeBy : XI := (yX3_isRipeBy, cX3_isRipeBy, 4, (some .boolean), 2, 44, 3)
theorem kX3_isRipeBy : xl_K mX3_isRipeBy := ⟨by decide +kernel, xl_Ti 1085 (by decide +kernel) rfl, xl_iX3, by decide +kernel, by decide +kernel, by decide +kernel⟩
theorem vX3_isRipeBy : xl_V mX3_isRipeBy := ⟨kX3_isRipeBy, xl_Ti 1084 (by decide +kernel) rfl, xl_Ti 65 (by decide +kernel) rfl⟩
def mX3_isClosedBy : XI := (yX3_isClosedBy, cX3_isClosedBy, 4, (some .boolean), 2, 44, 3)
theorem kX3_isClosedBy : xl_K mX3_isClosedBy := ⟨by decide +kernel, xl_Ti 1109 (by decide +kernel) rfl, xl_iX3, by decide +kernel, by decide +kernel, by decide +kernel⟩
theorem vX3_isClosedBy : xl_V mX3_isClosedBy := ⟨kX3_isClosedBy, xl_Ti 1108 (by decide +kernel) rfl, xl_Ti 71 (by decide +kernel) rfl⟩
def mX3_leastMark : XI := (yX3_leastMark, cX3_leastMark, 4, (some .int), 1, 22, 1)
theorem kX3_leastMark : xl_K mX3_leastMark := ⟨by decide +kernel, xl_Ti 1093 (by decide +kernel) rfl, xl_iX3, by decide +kernel, by decide +kernel, by decide +kernel⟩
theorem vX3_leastMark : xl_V mX3_leastMark := ⟨kX3_leastMark, xl_Ti 1092 (by decide +kernel) rfl, xl_Ti 67 (by decide +kernel) rfl⟩
def mX3_firstRipe : XI := (yX3_firstRipe, cX3_firstRipe, 6, (some .int), 3, 67, 2)
theorem kX3_firstRipe : xl_K mX3_firstRipe := ⟨by decide +kernel, xl_Ti 1097 (by decide +kernel) rfl, xl_iX3, by decide +kernel, by decide +kernel, by decide +kernel⟩
theorem vX3_firstRipe : xl_V mX3_firstRipe := ⟨kX3_firstRipe, xl_Ti 1096 (by decide +kernel) rfl, xl_Ti 68 (by decide +kernel) rfl⟩
def mX3_isDone : XI := (yX3_isDone, cX3_isDone, 4, (some .boolean), 2, 44, 2)
theorem kX3_isDone : xl_K mX3_isDone := ⟨by decide +kernel, xl_Ti 1101 (by decide +kernel) rfl, xl_iX3, by decide +kernel, by decide +kernel, by decide +kernel⟩
theorem vX3_isDone : xl_V mX3_isDone := ⟨kX3_isDone, xl_Ti 1100 (by decide +kernel) rfl, xl_Ti 69 (by decide +kernel) rfl⟩
def mX3_rises : XI := (yX3_rises, cX3_rises, 5, none, 4, 92, 1)
theorem kX3_rises : xl_K mX3_rises := ⟨by decide +kernel, xl_Ti 1089 (by decide +kernel) rfl, xl_iX3, by decide +kernel, by decide +kernel, by decide +kernel⟩
theorem vX3_rises : xl_V mX3_rises := ⟨kX3_rises, xl_Ti 1088 (by decide +kernel) rfl, xl_Ti 66 (by decide +kernel) rfl⟩
def mX3_firstClosed : XI := (yX3_firstClosed, cX3_firstClosed, 4, (some .int), 3, 67, 1)
theorem kX3_firstClosed : xl_K mX3_firstClosed := ⟨by decide +kernel, xl_Ti 1105 (by decide +kernel) rfl, xl_iX3, by decide +kernel, by decide +kernel, by decide +kernel⟩
theorem vX3_firstClosed : xl_V mX3_firstClosed := ⟨kX3_firstClosed, xl_Ti 1104 (by decide +kernel) rfl, xl_Ti 70 (by decide +kernel) rfl⟩
def mX3_closes : XI := (yX3_closes, cX3_closes, 6, none, 2, 46, 2)
theorem kX3_closes : xl_K mX3_closes := ⟨by decide +kernel, xl_Ti 1113 (by decide +kernel) rfl, xl_iX3, by decide +kernel, by decide +kernel, by decide +kernel⟩
theorem vX3_closes : xl_V mX3_closes := ⟨kX3_closes, xl_Ti 1112 (by decide +kernel) rfl, xl_Ti 72 (by decide +kernel) rfl⟩
def mX3_notes : XI := (yX3_notes, cX3_notes, 9, none, 1, 23, 7)
theorem kX3_notes : xl_K mX3_notes := ⟨by decide +kernel, xl_Ti 1040 (by decide +kernel) rfl, xl_iX3, by decide +kernel, by decide +kernel, by decide +kernel⟩
theorem vX3_notes : xl_V mX3_notes := ⟨kX3_notes, xl_Ti 1039 (by decide +kernel) rfl, xl_Ti 55 (by decide +kernel) rfl⟩
def mX3_melts : XI := (yX3_melts, cX3_melts, 5, (some .boolean), 2, 44, 4)
theorem kX3_melts : xl_K mX3_melts := ⟨by decide +kernel, xl_Ti 1052 (by decide +kernel) rfl, xl_iX3, by decide +kernel, by decide +kernel, by decide +kernel⟩
theorem vX3_melts : xl_V mX3_melts := ⟨kX3_melts, xl_Ti 1051 (by decide +kernel) rfl, xl_Ti 58 (by decide +kernel) rfl⟩
def mX3_joins : XI := (yX3_joins, cX3_joins, 7, none, 4, 92, 4)
theorem kX3_joins : xl_K mX3_joins := ⟨by decide +kernel, xl_Ti 1048 (by decide +kernel) rfl, xl_iX3, by decide +kernel, by decide +kernel, by decide +kernel⟩
theorem vX3_joins : xl_V mX3_joins := ⟨kX3_joins, xl_Ti 1047 (by decide +kernel) rfl, xl_Ti 57 (by decide +kernel) rfl⟩
def mX3_comes : XI := (yX3_comes, cX3_comes, 8, (some .int), 5, 118, 5)
theorem kX3_comes : xl_K mX3_comes := ⟨by decide +kernel, xl_Ti 1033 (by decide +kernel) rfl, xl_iX3, by decide +kernel, by decide +kernel, by decide +kernel⟩
theorem vX3_comes : xl_V mX3_comes := ⟨kX3_comes, xl_Ti 1032 (by decide +kernel) rfl, xl_Ti 54 (by decide +kernel) rfl⟩
def mX3_isMarked : XI := (yX3_isMarked, cX3_isMarked, 4, none, 5, 116, 3)
theorem kX3_isMarked : xl_K mX3_isMarked := ⟨by decide +kernel, xl_Ti 1163 (by decide +kernel) rfl, xl_iX3, by decide +kernel, by decide +kernel, by decide +kernel⟩
theorem vX3_isMarked : xl_V mX3_isMarked := ⟨kX3_isMarked, xl_Ti 1162 (by decide +kernel) rfl, xl_Ti 81 (by decide +kernel) rfl⟩
def mX3_isIdle : XI := (yX3_isIdle, cX3_isIdle, 3, none, 5, 116, 2)
theorem kX3_isIdle : xl_K mX3_isIdle := ⟨by decide +kernel, xl_Ti 1179 (by decide +kernel) rfl, xl_iX3, by decide +kernel, by decide +kernel, by decide +kernel⟩
theorem vX3_isIdle : xl_V mX3_isIdle := ⟨kX3_isIdle, xl_Ti 1178 (by decide +kernel) rfl, xl_Ti 84 (by decide +kernel) rfl⟩
def mX3_isEvent : XI := (yX3_isEvent, cX3_isEvent, 5, (some .boolean), 2, 46, 4)
theorem kX3_isEvent : xl_K mX3_isEvent := ⟨by decide +kernel, xl_Ti 1026 (by decide +kernel) rfl, xl_iX3, by decide +kernel, by decide +kernel, by decide +kernel⟩
theorem vX3_isEvent : xl_V mX3_isEvent := ⟨kX3_isEvent, xl_Ti 1025 (by decide +kernel) rfl, xl_Ti 53 (by decide +kernel) rfl⟩
def mX3_eventOne : XI := (yX3_eventOne, cX3_eventOne, 5, (some .int), 6, 145, 4)
theorem kX3_eventOne : xl_K mX3_eventOne := ⟨by decide +kernel, xl_Ti 1022 (by decide +kernel) rfl, xl_iX3, by decide +kernel, by decide +kernel, by decide +kernel⟩
theorem vX3_eventOne : xl_V mX3_eventOne := ⟨kX3_eventOne, xl_Ti 1021 (by decide +kernel) rfl, xl_Ti 52 (by decide +kernel) rfl⟩
def mX3_entersSince : XI := (yX3_entersSince, cX3_entersSince, 3, none, 1, 22, 2)
theorem kX3_entersSince : xl_K mX3_entersSince := ⟨by decide +kernel, xl_Ti 1121 (by decide +kernel) rfl, xl_iX3, by decide +kernel, by decide +kernel, by decide +kernel⟩
theorem vX3_entersSince : xl_V mX3_entersSince := ⟨kX3_entersSince, xl_Ti 1120 (by decide +kernel) rfl, xl_Ti 74 (by decide +kernel) rfl⟩
def mX3_event : XI := (yX3_event, cX3_event, 6, (some .int), 7, 169, 4)
theorem kX3_event : xl_K mX3_event := ⟨by decide +kernel, xl_Ti 1018 (by decide +kernel) rfl, xl_iX3, by decide +kernel, by decide +kernel, by decide +kernel⟩
theorem vX3_event : xl_V mX3_event := ⟨kX3_event, xl_Ti 1016 (by decide +kernel) rfl, xl_Ti 1017 (by decide +kernel) rfl⟩
def mX3_readsEvent : XI := (yX3_readsEvent, cX3_readsEvent, 5, (some .boolean), 7, 152, 2)
theorem kX3_readsEvent : xl_K mX3_readsEvent := ⟨by decide +kernel, xl_Ti 1137 (by decide +kernel) rfl, xl_iX3, by decide +kernel, by decide +kernel, by decide +kernel⟩
theorem vX3_readsEvent : xl_V mX3_readsEvent := ⟨kX3_readsEvent, xl_Ti 1136 (by decide +kernel) rfl, xl_Ti 77 (by decide +kernel) rfl⟩
def mX3_events : XI := (yX3_events, cX3_events, 4, (some .int), 8, 176, 0)
theorem kX3_events : xl_K mX3_events := ⟨by decide +kernel, xl_Ti 1129 (by decide +kernel) rfl, xl_iX3, by decide +kernel, by decide +kernel, by decide +kernel⟩
theorem vX3_events : xl_V mX3_events := ⟨kX3_events, xl_Ti 1127 (by decide +kernel) rfl, xl_Ti 1128 (by decide +kernel) rfl⟩
def mX3_marksOne : XI := (yX3_marksOne, cX3_marksOne, 4, (some .int), 6, 139, 2)
theorem kX3_marksOne : xl_K mX3_marksOne := ⟨by decide +kernel, xl_Ti 1158 (by decide +kernel) rfl, xl_iX3, by decide +kernel, by decide +kernel, by decide +kernel⟩
theorem vX3_marksOne : xl_V mX3_marksOne := ⟨kX3_marksOne, xl_Ti 1157 (by decide +kernel) rfl, xl_Ti 80 (by decide +kernel) rfl⟩
def mX3_entersProgress : XI := (yX3_entersProgress, cX3_entersProgress, 1, none, 1, 22, 0)
theorem kX3_entersProgress : xl_K mX3_entersProgress := ⟨by decide +kernel, xl_Ti 1167 (by decide +kernel) rfl, xl_iX3, by decide +kernel, by decide +kernel, by decide +kernel⟩
theorem vX3_entersProgress : xl_V mX3_entersProgress := ⟨kX3_entersProgress, xl_Ti 1166 (by decide +kernel) rfl, xl_Ti 82 (by decide +kernel) rfl⟩
def mX3_marks : XI := (yX3_marks, cX3_marks, 4, (some .int), 7, 162, 2)
theorem kX3_marks : xl_K mX3_marks := ⟨by decide +kernel, xl_Ti 1154 (by decide +kernel) rfl, xl_iX3, by decide +kernel, by decide +kernel, by decide +kernel⟩
theorem vX3_marks : xl_V mX3_marks := ⟨kX3_marks, xl_Ti 1152 (by decide +kernel) rfl, xl_Ti 1153 (by decide +kernel) rfl⟩
def mX3_idlesOne : XI := (yX3_idlesOne, cX3_idlesOne, 3, (some .int), 6, 138, 1)
theorem kX3_idlesOne : xl_K mX3_idlesOne := ⟨by decide +kernel, xl_Ti 1175 (by decide +kernel) rfl, xl_iX3, by decide +kernel, by decide +kernel, by decide +kernel⟩
theorem vX3_idlesOne : xl_V mX3_idlesOne := ⟨kX3_idlesOne, xl_Ti 1174 (by decide +kernel) rfl, xl_Ti 83 (by decide +kernel) rfl⟩
def mX3_idles : XI := (yX3_idles, cX3_idles, 3, (some .int), 7, 160, 1)
theorem kX3_idles : xl_K mX3_idles := ⟨by decide +kernel, xl_Ti 1171 (by decide +kernel) rfl, xl_iX3, by decide +kernel, by decide +kernel, by decide +kernel⟩
theorem vX3_idles : xl_V mX3_idles := ⟨kX3_idles, xl_Ti 1169 (by decide +kernel) rfl, xl_Ti 1170 (by decide +kernel) rfl⟩
def mX3_source : XI := (yX3_source, cX3_source, 4, (some .int), 2, 46, 2)
theorem kX3_source : xl_K mX3_source := ⟨by decide +kernel, xl_Ti 1183 (by decide +kernel) rfl, xl_iX3, by decide +kernel, by decide +kernel, by decide +kernel⟩
theorem vX3_source : xl_V mX3_source := ⟨kX3_source, xl_Ti 1181 (by decide +kernel) rfl, xl_Ti 1182 (by decide +kernel) rfl⟩
def mX3_session : XI := (yX3_session, cX3_session, 3, (some .int), 3, 67, 2)
theorem kX3_session : xl_K mX3_session := ⟨by decide +kernel, xl_Ti 1187 (by decide +kernel) rfl, xl_iX3, by decide +kernel, by decide +kernel, by decide +kernel⟩
theorem vX3_session : xl_V mX3_session := ⟨kX3_session, xl_Ti 1185 (by decide +kernel) rfl, xl_Ti 1186 (by decide +kernel) rfl⟩
def mX3_at : XI := (yX3_at, cX3_at, 6, (some .int), 3, 68, 2)
theorem kX3_at : xl_K mX3_at := ⟨by decide +kernel, xl_Ti 1192 (by decide +kernel) rfl, xl_iX3, by decide +kernel, by decide +kernel, by decide +kernel⟩
theorem vX3_at : xl_V mX3_at := ⟨kX3_at, xl_Ti 1190 (by decide +kernel) rfl, xl_Ti 1191 (by decide +kernel) rfl⟩
def mX3_message : XI := (yX3_message, cX3_message, 5, (some .int), 1, 25, 2)
theorem kX3_message : xl_K mX3_message := ⟨by decide +kernel, xl_Ti 1196 (by decide +kernel) rfl, xl_iX3, by decide +kernel, by decide +kernel, by decide +kernel⟩
theorem vX3_message : xl_V mX3_message := ⟨kX3_message, xl_Ti 1194 (by decide +kernel) rfl, xl_Ti 1195 (by decide +kernel) rfl⟩
def mX3_sent : XI := (yX3_sent, cX3_sent, 2, (some .int), 1, 25, 1)
theorem kX3_sent : xl_K mX3_sent := ⟨by decide +kernel, xl_Ti 1200 (by decide +kernel) rfl, xl_iX3, by decide +kernel, by decide +kernel, by decide +kernel⟩
theorem vX3_sent : xl_V mX3_sent := ⟨kX3_sent, xl_Ti 1198 (by decide +kernel) rfl, xl_Ti 1199 (by decide +kernel) rfl⟩
def mX3_stands : XI := (yX3_stands, cX3_stands, 5, (some .int), 2, 44, 0)
theorem kX3_stands : xl_K mX3_stands := ⟨by decide +kernel, xl_Ti 1205 (by decide +kernel) rfl, xl_iX3, by decide +kernel, by decide +kernel, by decide +kernel⟩
theorem vX3_stands : xl_V mX3_stands := ⟨kX3_stands, xl_Ti 1203 (by decide +kernel) rfl, xl_Ti 1204 (by decide +kernel) rfl⟩
def mX3_isKey : XI := (yX3_isKey, cX3_isKey, 1, (some .boolean), 1, 25, 1)
theorem kX3_isKey : xl_K mX3_isKey := ⟨by decide +kernel, xl_Ti 1212 (by decide +kernel) rfl, xl_iX3, by decide +kernel, by decide +kernel, by decide +kernel⟩
theorem vX3_isKey : xl_U mX3_isKey := ⟨kX3_isKey, xl_Ti 1211 (by decide +kernel) rfl⟩
def mX3_closed : XI := (yX3_closed, cX3_closed, 2, (some .int), 2, 45, 1)
theorem kX3_closed : xl_K mX3_closed := ⟨by decide +kernel, xl_Ti 1209 (by decide +kernel) rfl, xl_iX3, by decide +kernel, by decide +kernel, by decide +kernel⟩
theorem vX3_closed : xl_V mX3_closed := ⟨kX3_closed, xl_Ti 1207 (by decide +kernel) rfl, xl_Ti 1208 (by decide +kernel) rfl⟩
def mX3_finals : XI := (yX3_finals, cX3_finals, 5, (some .int), 2, 45, 2)
theorem kX3_finals : xl_K mX3_finals := ⟨by decide +kernel, xl_Ti 1216 (by decide +kernel) rfl, xl_iX3, by decide +kernel, by decide +kernel, by decide +kernel⟩
theorem vX3_finals : xl_V mX3_finals := ⟨kX3_finals, xl_Ti 1214 (by decide +kernel) rfl, xl_Ti 1215 (by decide +kernel) rfl⟩
def mX3_kinds : XI := (yX3_kinds, cX3_kinds, 6, (some .int), 2, 45, 1)
theorem kX3_kinds : xl_K mX3_kinds := ⟨by decide +kernel, xl_Ti 1221 (by decide +kernel) rfl, xl_iX3, by decide +kernel, by decide +kernel, by decide +kernel⟩
theorem vX3_kinds : xl_V mX3_kinds := ⟨kX3_kinds, xl_Ti 1219 (by decide +kernel) rfl, xl_Ti 1220 (by decide +kernel) rfl⟩
def mX3_slow : XI := (yX3_slow, cX3_slow, 5, (some .int), 3, 67, 0)
theorem kX3_slow : xl_K mX3_slow := ⟨by decide +kernel, xl_Ti 1225 (by decide +kernel) rfl, xl_iX3, by decide +kernel, by decide +kernel, by decide +kernel⟩
theorem vX3_slow : xl_V mX3_slow := ⟨kX3_slow, xl_Ti 1223 (by decide +kernel) rfl, xl_Ti 1224 (by decide +kernel) rfl⟩
def mX3_span : XI := (yX3_span, cX3_span, 11, (some .int), 1, 25, 2)
theorem kX3_span : xl_K mX3_span := ⟨by decide +kernel, xl_Ti 1229 (by decide +kernel) rfl, xl_iX3, by decide +kernel, by decide +kernel, by decide +kernel⟩
theorem vX3_span : xl_V mX3_span := ⟨kX3_span, xl_Ti 1227 (by decide +kernel) rfl, xl_Ti 1228 (by decide +kernel) rfl⟩
def mX3_taken : XI := (yX3_taken, cX3_taken, 1, (some .int), 1, 22, 0)
theorem kX3_taken : xl_K mX3_taken := ⟨by decide +kernel, xl_Ti 1237 (by decide +kernel) rfl, xl_iX3, by decide +kernel, by decide +kernel, by decide +kernel⟩
theorem vX3_taken : xl_V mX3_taken := ⟨kX3_taken, xl_Ti 1235 (by decide +kernel) rfl, xl_Ti 1236 (by decide +kernel) rfl⟩
def mX3_holds : XI := (yX3_holds, cX3_holds, 5, (some .int), 2, 45, 0)
theorem kX3_holds : xl_K mX3_holds := ⟨by decide +kernel, xl_Ti 1241 (by decide +kernel) rfl, xl_iX3, by decide +kernel, by decide +kernel, by decide +kernel⟩
theorem vX3_holds : xl_V mX3_holds := ⟨kX3_holds, xl_Ti 1239 (by decide +kernel) rfl, xl_Ti 1240 (by decide +kernel) rfl⟩
def mX3_next : XI := (yX3_next, cX3_next, 4, (some .int), 3, 67, 0)
theorem kX3_next : xl_K mX3_next := ⟨by decide +kernel, xl_Ti 1245 (by decide +kernel) rfl, xl_iX3, by decide +kernel, by decide +kernel, by decide +kernel⟩
theorem vX3_next : xl_V mX3_next := ⟨kX3_next, xl_Ti 1243 (by decide +kernel) rfl, xl_Ti 1244 (by decide +kernel) rfl⟩
def mX3_ahead : XI := (yX3_ahead, cX3_ahead, 5, (some .int), 3, 67, 1)
theorem kX3_ahead : xl_K mX3_ahead := ⟨by decide +kernel, xl_Ti 1249 (by decide +kernel) rfl, xl_iX3, by decide +kernel, by decide +kernel, by decide +kernel⟩
theorem vX3_ahead : xl_V mX3_ahead := ⟨kX3_ahead, xl_Ti 1247 (by decide +kernel) rfl, xl_Ti 1248 (by decide +kernel) rfl⟩
def mX3_would : XI := (yX3_would, cX3_would, 6, (some .int), 6, 145, 4)
theorem kX3_would : xl_K mX3_would := ⟨by decide +kernel, xl_Ti 1253 (by decide +kernel) rfl, xl_iX3, by decide +kernel, by decide +kernel, by decide +kernel⟩
theorem vX3_would : xl_V mX3_would := ⟨kX3_would, xl_Ti 1251 (by decide +kernel) rfl, xl_Ti 1252 (by decide +kernel) rfl⟩
def mX3_ofInput : XI := (yX3_ofInput, cX3_ofInput, 3, (some .int), 0, 0, 2)
theorem kX3_ofInput : xl_K mX3_ofInput := ⟨by decide +kernel, xl_Ti 1233 (by decide +kernel) rfl, xl_iX3, by decide +kernel, by decide +kernel, by decide +kernel⟩
theorem vX3_ofInput : xl_V mX3_ofInput := ⟨kX3_ofInput, xl_Ti 1232 (by decide +kernel) rfl, xl_Ti 85 (by decide +kernel) rfl⟩
def mX3_laysTimes : XI := (yX3_laysTimes, cX3_laysTimes, 4, none, 1, 22, 1)
theorem kX3_laysTimes : xl_K mX3_laysTimes := ⟨by decide +kernel, xl_Ti 1261 (by decide +kernel) rfl, xl_iX3, by decide +kernel, by decide +kernel, by decide +kernel⟩
theorem vX3_laysTimes : xl_V mX3_laysTimes := ⟨kX3_laysTimes, xl_Ti 1260 (by decide +kernel) rfl, xl_Ti 86 (by decide +kernel) rfl⟩
def mX3_fallsInto : XI := (yX3_fallsInto, cX3_fallsInto, 4, (some .int), 1, 20, 1)
theorem kX3_fallsInto : xl_K mX3_fallsInto := ⟨by decide +kernel, xl_Ti 1265 (by decide +kernel) rfl, xl_iX3, by decide +kernel, by decide +kernel, by decide +kernel⟩
theorem vX3_fallsInto : xl_V mX3_fallsInto := ⟨kX3_fallsInto, xl_Ti 1264 (by decide +kernel) rfl, xl_Ti 87 (by decide +kernel) rfl⟩
def mX3_batch : XI := (yX3_batch, cX3_batch, 12, (some .int), 2, 45, 1)
theorem kX3_batch : xl_K mX3_batch := ⟨by decide +kernel, xl_Ti 1257 (by decide +kernel) rfl, xl_iX3, by decide +kernel, by decide +kernel, by decide +kernel⟩
theorem vX3_batch : xl_V mX3_batch := ⟨kX3_batch, xl_Ti 1255 (by decide +kernel) rfl, xl_Ti 1256 (by decide +kernel) rfl⟩
def mX3_parts : XI := (yX3_parts, cX3_parts, 4, (some .int), 2, 45, 2)
theorem kX3_parts : xl_K mX3_parts := ⟨by decide +kernel, xl_Ti 1269 (by decide +kernel) rfl, xl_iX3, by decide +kernel, by decide +kernel, by decide +kernel⟩
theorem vX3_parts : xl_V mX3_parts := ⟨kX3_parts, xl_Ti 1267 (by decide +kernel) rfl, xl_Ti 1268 (by decide +kernel) rfl⟩
def mX3_comesAgain : XI := (yX3_comesAgain, cX3_comesAgain, 5, none, 6, 145, 2)
theorem kX3_comesAgain : xl_K mX3_comesAgain := ⟨by decide +kernel, xl_Ti 1282 (by decide +kernel) rfl, xl_iX3, by decide +kernel, by decide +kernel, by decide +kernel⟩
theorem vX3_comesAgain : xl_V mX3_comesAgain := ⟨kX3_comesAgain, xl_Ti 1281 (by decide +kernel) rfl, xl_Ti 89 (by decide +kernel) rfl⟩
def mX3_startsAgain : XI := (yX3_startsAgain, cX3_startsAgain, 5, none, 2, 49, 3)
theorem kX3_startsAgain : xl_K mX3_startsAgain := ⟨by decide +kernel, xl_Ti 1278 (by decide +kernel) rfl, xl_iX3, by decide +kernel, by decide +kernel, by decide +kernel⟩
theorem vX3_startsAgain : xl_V mX3_startsAgain := ⟨kX3_startsAgain, xl_Ti 1277 (by decide +kernel) rfl, xl_Ti 88 (by decide +kernel) rfl⟩
def mX3_closedMany : XI := (yX3_closedMany, cX3_closedMany, 4, (some .int), 1, 22, 1)
theorem kX3_closedMany : xl_K mX3_closedMany := ⟨by decide +kernel, xl_Ti 1117 (by decide +kernel) rfl, xl_iX3, by decide +kernel, by decide +kernel, by decide +kernel⟩
theorem vX3_closedMany : xl_V mX3_closedMany := ⟨kX3_closedMany, xl_Ti 1116 (by decide +kernel) rfl, xl_Ti 73 (by decide +kernel) rfl⟩
def mX3_latest : XI := (yX3_latest, cX3_latest, 5, (some .int), 7, 169, 0)
theorem kX3_latest : xl_K mX3_latest := ⟨by decide +kernel, xl_Ti 1274 (by decide +kernel) rfl, xl_iX3, by decide +kernel, by decide +kernel, by decide +kernel⟩
theorem vX3_latest : xl_V mX3_latest := ⟨kX3_latest, xl_Ti 1272 (by decide +kernel) rfl, xl_Ti 1273 (by decide +kernel) rfl⟩
def mX3_again : XI := (yX3_again, cX3_again, 5, (some .int), 7, 169, 3)
theorem kX3_again : xl_K mX3_again := ⟨by decide +kernel, xl_Ti 1286 (by decide +kernel) rfl, xl_iX3, by decide +kernel, by decide +kernel, by decide +kernel⟩
theorem vX3_again : xl_V mX3_again := ⟨kX3_again, xl_Ti 1284 (by decide +kernel) rfl, xl_Ti 1285 (by decide +kernel) rfl⟩
def mX3_without : XI := (yX3_without, cX3_without, 3, (some .int), 7, 169, 1)
theorem kX3_without : xl_K mX3_without := ⟨by decide +kernel, xl_Ti 1290 (by decide +kernel) rfl, xl_iX3, by decide +kernel, by decide +kernel, by decide +kernel⟩
theorem vX3_without : xl_V mX3_without := ⟨kX3_without, xl_Ti 1288 (by decide +kernel) rfl, xl_Ti 1289 (by decide +kernel) rfl⟩
def mX3_input : XI := (yX3_input, cX3_input, 3, (some .int), 1, 25, 2)
theorem kX3_input : xl_K mX3_input := ⟨by decide +kernel, xl_Ti 1294 (by decide +kernel) rfl, xl_iX3, by decide +kernel, by decide +kernel, by decide +kernel⟩
theorem vX3_input : xl_V mX3_input := ⟨kX3_input, xl_Ti 1292 (by decide +kernel) rfl, xl_Ti 1293 (by decide +kernel) rfl⟩
def mX3_readsAct : XI := (yX3_readsAct, cX3_readsAct, 2, (some .boolean), 8, 176, 1)
theorem kX3_readsAct : xl_K mX3_readsAct := ⟨by decide +kernel, xl_Ti 1302 (by decide +kernel) rfl, xl_iX3, by decide +kernel, by decide +kernel, by decide +kernel⟩
theorem vX3_readsAct : xl_V mX3_readsAct := ⟨kX3_readsAct, xl_Ti 1301 (by decide +kernel) rfl, xl_Ti 90 (by decide +kernel) rfl⟩
def mX3_doesAct : XI := (yX3_doesAct, cX3_doesAct, 2, (some .int), 7, 169, 1)
theorem kX3_doesAct : xl_K mX3_doesAct := ⟨by decide +kernel, xl_Ti 1307 (by decide +kernel) rfl, xl_iX3, by decide +kernel, by decide +kernel, by decide +kernel⟩
theorem vX3_doesAct : xl_V mX3_doesAct := ⟨kX3_doesAct, xl_Ti 1306 (by decide +kernel) rfl, xl_Ti 91 (by decide +kernel) rfl⟩
def mX3_day : XI := (yX3_day, cX3_day, 3, (some .int), 9, 197, 0)
theorem kX3_day : xl_K mX3_day := ⟨by decide +kernel, xl_Ti 1298 (by decide +kernel) rfl, xl_iX3, by decide +kernel, by decide +kernel, by decide +kernel⟩
theorem vX3_day : xl_V mX3_day := ⟨kX3_day, xl_Ti 1296 (by decide +kernel) rfl, xl_Ti 1297 (by decide +kernel) rfl⟩
def mX3_draws : XI := (yX3_draws, cX3_draws, 2, (some .int), 0, 0, 1)
theorem kX3_draws : xl_K mX3_draws := ⟨by decide +kernel, xl_Ti 1316 (by decide +kernel) rfl, xl_iX3, by decide +kernel, by decide +kernel, by decide +kernel⟩
theorem vX3_draws : xl_V mX3_draws := ⟨kX3_draws, xl_Ti 1315 (by decide +kernel) rfl, xl_Ti 92 (by decide +kernel) rfl⟩
def mX3_years : XI := (yX3_years, cX3_years, 9, (some .int), 6, 145, 2)
theorem kX3_years : xl_K mX3_years := ⟨by decide +kernel, xl_Ti 1311 (by decide +kernel) rfl, xl_iX3, by decide +kernel, by decide +kernel, by decide +kernel⟩
theorem vX3_years : xl_V mX3_years := ⟨kX3_years, xl_Ti 1309 (by decide +kernel) rfl, xl_Ti 1310 (by decide +kernel) rfl⟩
def mX3_keep : XI := (yX3_keep, cX3_keep, 2, (some .boolean), 1, 25, 1)
theorem kX3_keep : xl_K mX3_keep := ⟨by decide +kernel, xl_Ti 1321 (by decide +kernel) rfl, xl_iX3, by decide +kernel, by decide +kernel, by decide +kernel⟩
theorem vX3_keep : xl_V mX3_keep := ⟨kX3_keep, xl_Ti 1319 (by decide +kernel) rfl, xl_Ti 1320 (by decide +kernel) rfl⟩
def mX3_back : XI := (yX3_back, cX3_back, 2, (some .boolean), 1, 25, 1)
theorem kX3_back : xl_K mX3_back := ⟨by decide +kernel, xl_Ti 1325 (by decide +kernel) rfl, xl_iX3, by decide +kernel, by decide +kernel, by decide +kernel⟩
theorem vX3_back : xl_V mX3_back := ⟨kX3_back, xl_Ti 1323 (by decide +kernel) rfl, xl_Ti 1324 (by decide +kernel) rfl⟩
def mX3_count : XI := (yX3_count, cX3_count, 2, (some .int), 1, 25, 1)
theorem kX3_count : xl_K mX3_count := ⟨by decide +kernel, xl_Ti 1329 (by decide +kernel) rfl, xl_iX3, by decide +kernel, by decide +kernel, by decide +kernel⟩
theorem vX3_count : xl_V mX3_count := ⟨kX3_count, xl_Ti 1327 (by decide +kernel) rfl, xl_Ti 1328 (by decide +kernel) rfl⟩
def mX3_row : XI := (yX3_row, cX3_row, 2, (some .long), 1, 25, 1)
theorem kX3_row : xl_K mX3_row := ⟨by decide +kernel, xl_Ti 1333 (by decide +kernel) rfl, xl_iX3, by decide +kernel, by decide +kernel, by decide +kernel⟩
theorem vX3_row : xl_V mX3_row := ⟨kX3_row, xl_Ti 1331 (by decide +kernel) rfl, xl_Ti 1332 (by decide +kernel) rfl⟩
def mJ7_fill_53178 : XI := (yJ7_fill_53178, cJ7_fill_53178, 4, none, 0, 0, 2)
theorem kJ7_fill_53178 : xl_K mJ7_fill_53178 := ⟨by decide +kernel, xl_Ti 693 (by decide +kernel) rfl, xl_iJ7, by decide +kernel, by decide +kernel, by decide +kernel⟩
theorem vJ7_fill_53178 : xl_U mJ7_fill_53178 := ⟨kJ7_fill_53178, xl_Ti 692 (by decide +kernel) rfl⟩
theorem fX0_13 : xl_F RX0 13 0 0 := ⟨RX0, TX0, 4, rfl, by decide, xl_inX0, xl_Ti 132 (by decide +kernel) rfl⟩
theorem fX0_19 : xl_F RX0 19 0 1 := ⟨RX0, TX0, 4, rfl, by decide, xl_inX0, xl_Ti 133 (by decide +kernel) rfl⟩
theorem fX0_22 : xl_F RX0 22 0 2 := ⟨RX0, TX0, 4, rfl, by decide, xl_inX0, xl_Ti 134 (by decide +kernel) rfl⟩
theorem fX0_26 : xl_F RX0 26 0 3 := ⟨RX0, TX0, 4, rfl, by decide, xl_inX0, xl_Ti 136 (by decide +kernel) rfl⟩
theorem wX0_26 : xl_Fp RX0 26 0 3 .int := ⟨RX0, TX0, 4, tyX0, rfl, by decide, xl_inX0, xl_Ti 136 (by decide +kernel) rfl, tyX0_ok, nmX0, rfl, by decide +kernel⟩
theorem lX0_7 : Cond.methodLink RX0 7 Lib.Math.max.name ∈ xl_T := xl_Ti 129 (by decide +kernel) rfl
theorem lX0_29 : Cond.methodLink RX0 29 arraycopyName ∈ xl_T := xl_Ti 160 (by decide +kernel) rfl
theorem lX0_35 : Cond.methodLink RX0 35 yX0_set ∈ xl_T := xl_Ti 163 (by decide +kernel) rfl
theorem lX0_39 : Cond.methodLink RX0 39 yX0_get ∈ xl_T := xl_Ti 456 (by decide +kernel) rfl
theorem lX0_42 : Cond.methodLink RX0 42 Lib.Math.min.name ∈ xl_T := xl_Ti 306 (by decide +kernel) rfl
theorem fX1_14 : xl_F RX1 14 1 10 := ⟨RX1, TX1, 16, rfl, by decide, xl_inX1, xl_Ti 188 (by decide +kernel) rfl⟩
theorem fX1_20 : xl_F RX1 20 1 11 := ⟨RX1, TX1, 16, rfl, by decide, xl_inX1, xl_Ti 190 (by decide +kernel) rfl⟩
theorem fX1_23 : xl_F RX1 23 1 12 := ⟨RX1, TX1, 16, rfl, by decide, xl_inX1, xl_Ti 192 (by decide +kernel) rfl⟩
theorem fX1_26 : xl_F RX1 26 1 13 := ⟨RX1, TX1, 16, rfl, by decide, xl_inX1, xl_Ti 194 (by decide +kernel) rfl⟩
theorem fX1_29 : xl_F RX1 29 1 14 := ⟨RX1, TX1, 16, rfl, by decide, xl_inX1, xl_Ti 196 (by decide +kernel) rfl⟩
theorem fX1_32 : xl_F RX1 32 1 15 := ⟨RX1, TX1, 16, rfl, by decide, xl_inX1, xl_Ti 198 (by decide +kernel) rfl⟩
theorem fX1_39 : xl_F RX1 39 1 0 := ⟨RX1, TX1, 16, rfl, by decide, xl_inX1, xl_Ti 168 (by decide +kernel) rfl⟩
theorem wX1_39 : xl_Fp RX1 39 1 0 .int := ⟨RX1, TX1, 16, tyX1, rfl, by decide, xl_inX1, xl_Ti 168 (by decide +kernel) rfl, tyX1_ok, nmX1, rfl, by decide +kernel⟩
theorem fX1_43 : xl_F RX1 43 1 1 := ⟨RX1, TX1, 16, rfl, by decide, xl_inX1, xl_Ti 170 (by decide +kernel) rfl⟩
theorem wX1_43 : xl_Fp RX1 43 1 1 .int := ⟨RX1, TX1, 16, tyX1, rfl, by decide, xl_inX1, xl_Ti 170 (by decide +kernel) rfl, tyX1_ok, nmX1, rfl, by decide +kernel⟩
theorem fX1_46 : xl_F RX1 46 1 2 := ⟨RX1, TX1, 16, rfl, by decide, xl_inX1, xl_Ti 172 (by decide +kernel) rfl⟩
theorem wX1_46 : xl_Fp RX1 46 1 2 .int := ⟨RX1, TX1, 16, tyX1, rfl, by decide, xl_inX1, xl_Ti 172 (by decide +kernel) rfl, tyX1_ok, nmX1, rfl, by decide +kernel⟩
theorem fX1_49 : xl_F RX1 49 1 3 := ⟨RX1, TX1, 16, rfl, by decide, xl_inX1, xl_Ti 174 (by decide +kernel) rfl⟩
theorem wX1_49 : xl_Fp RX1 49 1 3 .int := ⟨RX1, TX1, 16, tyX1, rfl, by decide, xl_inX1, xl_Ti 174 (by decide +kernel) rfl, tyX1_ok, nmX1, rfl, by decide +kernel⟩
theorem fX1_52 : xl_F RX1 52 1 4 := ⟨RX1, TX1, 16, rfl, by decide, xl_inX1, xl_Ti 176 (by decide +kernel) rfl⟩
theorem wX1_52 : xl_Fp RX1 52 1 4 .int := ⟨RX1, TX1, 16, tyX1, rfl, by decide, xl_inX1, xl_Ti 176 (by decide +kernel) rfl, tyX1_ok, nmX1, rfl, by decide +kernel⟩
theorem fX1_55 : xl_F RX1 55 1 5 := ⟨RX1, TX1, 16, rfl, by decide, xl_inX1, xl_Ti 178 (by decide +kernel) rfl⟩
theorem wX1_55 : xl_Fp RX1 55 1 5 .int := ⟨RX1, TX1, 16, tyX1, rfl, by decide, xl_inX1, xl_Ti 178 (by decide +kernel) rfl, tyX1_ok, nmX1, rfl, by decide +kernel⟩
theorem fX1_58 : xl_F RX1 58 1 6 := ⟨RX1, TX1, 16, rfl, by decide, xl_inX1, xl_Ti 180 (by decide +kernel) rfl⟩
theorem wX1_58 : xl_Fp RX1 58 1 6 .int := ⟨RX1, TX1, 16, tyX1, rfl, by decide, xl_inX1, xl_Ti 180 (by decide +kernel) rfl, tyX1_ok, nmX1, rfl, by decide +kernel⟩
theorem fX1_61 : xl_F RX1 61 1 7 := ⟨RX1, TX1, 16, rfl, by decide, xl_inX1, xl_Ti 182 (by decide +kernel) rfl⟩
theorem wX1_61 : xl_Fp RX1 61 1 7 .int := ⟨RX1, TX1, 16, tyX1, rfl, by decide, xl_inX1, xl_Ti 182 (by decide +kernel) rfl, tyX1_ok, nmX1, rfl, by decide +kernel⟩
theorem fX1_64 : xl_F RX1 64 1 8 := ⟨RX1, TX1, 16, rfl, by decide, xl_inX1, xl_Ti 184 (by decide +kernel) rfl⟩
theorem wX1_64 : xl_Fp RX1 64 1 8 .int := ⟨RX1, TX1, 16, tyX1, rfl, by decide, xl_inX1, xl_Ti 184 (by decide +kernel) rfl, tyX1_ok, nmX1, rfl, by decide +kernel⟩
theorem fX1_67 : xl_F RX1 67 1 9 := ⟨RX1, TX1, 16, rfl, by decide, xl_inX1, xl_Ti 186 (by decide +kernel) rfl⟩
theorem wX1_67 : xl_Fp RX1 67 1 9 .int := ⟨RX1, TX1, 16, tyX1, rfl, by decide, xl_inX1, xl_Ti 186 (by decide +kernel) rfl, tyX1_ok, nmX1, rfl, by decide +kernel⟩
theorem fX1_85 : xl_F RX1 85 0 3 := ⟨RX0, TX0, 4, rfl, by decide, xl_inX0, xl_Ti 135 (by decide +kernel) rfl⟩
theorem wX1_85 : xl_Fp RX1 85 0 3 .int := ⟨RX0, TX0, 4, tyX0, rfl, by decide, xl_inX0, xl_Ti 135 (by decide +kernel) rfl, tyX0_ok, nmX0, rfl, by decide +kernel⟩
theorem lX1_11 : Cond.methodLink RX1 11 yX0_init ∈ xl_T := xl_Ti 125 (by decide +kernel) rfl
theorem lX1_35 : Cond.methodLink RX1 35 yX1_reset ∈ xl_T := xl_Ti 148 (by decide +kernel) rfl
theorem lX1_70 : Cond.methodLink RX1 70 yX0_clear ∈ xl_T := xl_Ti 152 (by decide +kernel) rfl
theorem lX1_73 : Cond.methodLink RX1 73 yX0_open ∈ xl_T := xl_Ti 156 (by decide +kernel) rfl
theorem lX1_77 : Cond.methodLink RX1 77 yX0_set ∈ xl_T := xl_Ti 167 (by decide +kernel) rfl
theorem lX1_81 : Cond.methodLink RX1 81 yX0_copyFrom ∈ xl_T := xl_Ti 302 (by decide +kernel) rfl
theorem lX1_88 : Cond.methodLink RX1 88 Lib.Math.max.name ∈ xl_T := xl_Ti 349 (by decide +kernel) rfl
theorem lX1_94 : Cond.methodLink RX1 94 yX1_note ∈ xl_T := xl_Ti 350 (by decide +kernel) rfl
theorem lX1_97 : Cond.methodLink RX1 97 yX1_playEvent ∈ xl_T := xl_Ti 354 (by decide +kernel) rfl
theorem lX1_101 : Cond.methodLink RX1 101 yX1_playMark ∈ xl_T := xl_Ti 575 (by decide +kernel) rfl
theorem lX1_104 : Cond.methodLink RX1 104 yX1_playIdle ∈ xl_T := xl_Ti 591 (by decide +kernel) rfl
theorem lX1_108 : Cond.methodLink RX1 108 yX0_get ∈ xl_T := xl_Ti 378 (by decide +kernel) rfl
theorem lX1_111 : Cond.methodLink RX1 111 yX1_fateOf ∈ xl_T := xl_Ti 358 (by decide +kernel) rfl
theorem lX1_115 : Cond.methodLink RX1 115 yX0_add ∈ xl_T := xl_Ti 362 (by decide +kernel) rfl
theorem lX1_118 : Cond.methodLink RX1 118 yX1_melt ∈ xl_T := xl_Ti 366 (by decide +kernel) rfl
theorem lX1_121 : Cond.methodLink RX1 121 yX1_raiseMark ∈ xl_T := xl_Ti 424 (by decide +kernel) rfl
theorem lX1_124 : Cond.methodLink RX1 124 yX1_rise ∈ xl_T := xl_Ti 428 (by decide +kernel) rfl
theorem lX1_127 : Cond.methodLink RX1 127 yX1_isRipe ∈ xl_T := xl_Ti 416 (by decide +kernel) rfl
theorem lX1_131 : Cond.methodLink RX1 131 Lib.Math.min.name ∈ xl_T := xl_Ti 407 (by decide +kernel) rfl
theorem lX1_134 : Cond.methodLink RX1 134 yX1_touches ∈ xl_T := xl_Ti 374 (by decide +kernel) rfl
theorem lX1_138 : Cond.methodLink RX1 138 yX1_firstTouched ∈ xl_T := xl_Ti 370 (by decide +kernel) rfl
theorem lX1_141 : Cond.methodLink RX1 141 yX1_touchedFrom ∈ xl_T := xl_Ti 379 (by decide +kernel) rfl
theorem lX1_145 : Cond.methodLink RX1 145 yX1_placeFor ∈ xl_T := xl_Ti 383 (by decide +kernel) rfl
theorem lX1_148 : Cond.methodLink RX1 148 yX1_takeBack ∈ xl_T := xl_Ti 387 (by decide +kernel) rfl
theorem lX1_151 : Cond.methodLink RX1 151 yX1_swallowNext ∈ xl_T := xl_Ti 403 (by decide +kernel) rfl
theorem lX1_154 : Cond.methodLink RX1 154 yX1_kindOfNew ∈ xl_T := xl_Ti 412 (by decide +kernel) rfl
theorem lX1_157 : Cond.methodLink RX1 157 yX1_announce ∈ xl_T := xl_Ti 420 (by decide +kernel) rfl
theorem lX1_160 : Cond.methodLink RX1 160 yX0_drop ∈ xl_T := xl_Ti 408 (by decide +kernel) rfl
theorem lX1_163 : Cond.methodLink RX1 163 yX1_leastMark ∈ xl_T := xl_Ti 432 (by decide +kernel) rfl
theorem lX1_166 : Cond.methodLink RX1 166 yX1_dueBehind ∈ xl_T := xl_Ti 436 (by decide +kernel) rfl
theorem lX1_169 : Cond.methodLink RX1 169 yX1_turnOf ∈ xl_T := xl_Ti 444 (by decide +kernel) rfl
theorem lX1_172 : Cond.methodLink RX1 172 yX1_isOver ∈ xl_T := xl_Ti 440 (by decide +kernel) rfl
theorem lX1_175 : Cond.methodLink RX1 175 yX1_finish ∈ xl_T := xl_Ti 448 (by decide +kernel) rfl
theorem lX1_178 : Cond.methodLink RX1 178 yX0_reach ∈ xl_T := xl_Ti 399 (by decide +kernel) rfl
theorem lX1_181 : Cond.methodLink RX1 181 yX0_copyRow ∈ xl_T := xl_Ti 452 (by decide +kernel) rfl
theorem lX1_185 : Cond.methodLink RX1 185 yX1_hasResult ∈ xl_T := xl_Ti 391 (by decide +kernel) rfl
theorem lX1_188 : Cond.methodLink RX1 188 yX1_send ∈ xl_T := xl_Ti 395 (by decide +kernel) rfl
theorem fX2_10 : xl_F RX2 10 2 0 := ⟨RX2, TX2, 13, rfl, by decide, xl_inX2, xl_Ti 234 (by decide +kernel) rfl⟩
theorem fX2_16 : xl_F RX2 16 2 1 := ⟨RX2, TX2, 13, rfl, by decide, xl_inX2, xl_Ti 235 (by decide +kernel) rfl⟩
theorem fX2_19 : xl_F RX2 19 2 2 := ⟨RX2, TX2, 13, rfl, by decide, xl_inX2, xl_Ti 236 (by decide +kernel) rfl⟩
theorem fX2_23 : xl_F RX2 23 2 5 := ⟨RX2, TX2, 13, rfl, by decide, xl_inX2, xl_Ti 239 (by decide +kernel) rfl⟩
theorem fX2_26 : xl_F RX2 26 2 7 := ⟨RX2, TX2, 13, rfl, by decide, xl_inX2, xl_Ti 241 (by decide +kernel) rfl⟩
theorem fX2_30 : xl_F RX2 30 2 9 := ⟨RX2, TX2, 13, rfl, by decide, xl_inX2, xl_Ti 243 (by decide +kernel) rfl⟩
theorem fX2_34 : xl_F RX2 34 2 11 := ⟨RX2, TX2, 13, rfl, by decide, xl_inX2, xl_Ti 245 (by decide +kernel) rfl⟩
theorem fX2_37 : xl_F RX2 37 2 12 := ⟨RX2, TX2, 13, rfl, by decide, xl_inX2, xl_Ti 246 (by decide +kernel) rfl⟩
theorem fX2_40 : xl_F RX2 40 2 10 := ⟨RX2, TX2, 13, rfl, by decide, xl_inX2, xl_Ti 244 (by decide +kernel) rfl⟩
theorem wX2_40 : xl_Fp RX2 40 2 10 .int := ⟨RX2, TX2, 13, tyX2, rfl, by decide, xl_inX2, xl_Ti 244 (by decide +kernel) rfl, tyX2_ok, nmX2, rfl, by decide +kernel⟩
theorem fX2_63 : xl_F RX2 63 1 10 := ⟨RX1, TX1, 16, rfl, by decide, xl_inX1, xl_Ti 189 (by decide +kernel) rfl⟩
theorem fX2_73 : xl_F RX2 73 1 14 := ⟨RX1, TX1, 16, rfl, by decide, xl_inX1, xl_Ti 197 (by decide +kernel) rfl⟩
theorem fX2_76 : xl_F RX2 76 0 3 := ⟨RX0, TX0, 4, rfl, by decide, xl_inX0, xl_Ti 137 (by decide +kernel) rfl⟩
theorem wX2_76 : xl_Fp RX2 76 0 3 .int := ⟨RX0, TX0, 4, tyX0, rfl, by decide, xl_inX0, xl_Ti 137 (by decide +kernel) rfl, tyX0_ok, nmX0, rfl, by decide +kernel⟩
theorem fX2_87 : xl_F RX2 87 1 4 := ⟨RX1, TX1, 16, rfl, by decide, xl_inX1, xl_Ti 177 (by decide +kernel) rfl⟩
theorem wX2_87 : xl_Fp RX2 87 1 4 .int := ⟨RX1, TX1, 16, tyX1, rfl, by decide, xl_inX1, xl_Ti 177 (by decide +kernel) rfl, tyX1_ok, nmX1, rfl, by decide +kernel⟩
theorem fX2_93 : xl_F RX2 93 1 3 := ⟨RX1, TX1, 16, rfl, by decide, xl_inX1, xl_Ti 175 (by decide +kernel) rfl⟩
theorem wX2_93 : xl_Fp RX2 93 1 3 .int := ⟨RX1, TX1, 16, tyX1, rfl, by decide, xl_inX1, xl_Ti 175 (by decide +kernel) rfl, tyX1_ok, nmX1, rfl, by decide +kernel⟩
theorem fX2_131 : xl_F RX2 131 1 11 := ⟨RX1, TX1, 16, rfl, by decide, xl_inX1, xl_Ti 191 (by decide +kernel) rfl⟩
theorem fX2_161 : xl_F RX2 161 1 12 := ⟨RX1, TX1, 16, rfl, by decide, xl_inX1, xl_Ti 193 (by decide +kernel) rfl⟩
theorem fX2_167 : xl_F RX2 167 1 15 := ⟨RX1, TX1, 16, rfl, by decide, xl_inX1, xl_Ti 199 (by decide +kernel) rfl⟩
theorem fX2_174 : xl_F RX2 174 1 5 := ⟨RX1, TX1, 16, rfl, by decide, xl_inX1, xl_Ti 179 (by decide +kernel) rfl⟩
theorem wX2_174 : xl_Fp RX2 174 1 5 .int := ⟨RX1, TX1, 16, tyX1, rfl, by decide, xl_inX1, xl_Ti 179 (by decide +kernel) rfl, tyX1_ok, nmX1, rfl, by decide +kernel⟩
theorem fX2_177 : xl_F RX2 177 1 13 := ⟨RX1, TX1, 16, rfl, by decide, xl_inX1, xl_Ti 195 (by decide +kernel) rfl⟩
theorem fX2_195 : xl_F RX2 195 1 7 := ⟨RX1, TX1, 16, rfl, by decide, xl_inX1, xl_Ti 183 (by decide +kernel) rfl⟩
theorem wX2_195 : xl_Fp RX2 195 1 7 .int := ⟨RX1, TX1, 16, tyX1, rfl, by decide, xl_inX1, xl_Ti 183 (by decide +kernel) rfl, tyX1_ok, nmX1, rfl, by decide +kernel⟩
theorem fX2_198 : xl_F RX2 198 1 8 := ⟨RX1, TX1, 16, rfl, by decide, xl_inX1, xl_Ti 185 (by decide +kernel) rfl⟩
theorem wX2_198 : xl_Fp RX2 198 1 8 .int := ⟨RX1, TX1, 16, tyX1, rfl, by decide, xl_inX1, xl_Ti 185 (by decide +kernel) rfl, tyX1_ok, nmX1, rfl, by decide +kernel⟩
theorem fX2_201 : xl_F RX2 201 1 9 := ⟨RX1, TX1, 16, rfl, by decide, xl_inX1, xl_Ti 187 (by decide +kernel) rfl⟩
theorem wX2_201 : xl_Fp RX2 201 1 9 .int := ⟨RX1, TX1, 16, tyX1, rfl, by decide, xl_inX1, xl_Ti 187 (by decide +kernel) rfl, tyX1_ok, nmX1, rfl, by decide +kernel⟩
theorem fX2_204 : xl_F RX2 204 1 6 := ⟨RX1, TX1, 16, rfl, by decide, xl_inX1, xl_Ti 181 (by decide +kernel) rfl⟩
theorem wX2_204 : xl_Fp RX2 204 1 6 .int := ⟨RX1, TX1, 16, tyX1, rfl, by decide, xl_inX1, xl_Ti 181 (by decide +kernel) rfl, tyX1_ok, nmX1, rfl, by decide +kernel⟩
theorem fX2_212 : xl_F RX2 212 1 0 := ⟨RX1, TX1, 16, rfl, by decide, xl_inX1, xl_Ti 169 (by decide +kernel) rfl⟩
theorem wX2_212 : xl_Fp RX2 212 1 0 .int := ⟨RX1, TX1, 16, tyX1, rfl, by decide, xl_inX1, xl_Ti 169 (by decide +kernel) rfl, tyX1_ok, nmX1, rfl, by decide +kernel⟩
theorem fX2_250 : xl_F RX2 250 1 1 := ⟨RX1, TX1, 16, rfl, by decide, xl_inX1, xl_Ti 171 (by decide +kernel) rfl⟩
theorem wX2_250 : xl_Fp RX2 250 1 1 .int := ⟨RX1, TX1, 16, tyX1, rfl, by decide, xl_inX1, xl_Ti 171 (by decide +kernel) rfl, tyX1_ok, nmX1, rfl, by decide +kernel⟩
theorem fX2_253 : xl_F RX2 253 1 2 := ⟨RX1, TX1, 16, rfl, by decide, xl_inX1, xl_Ti 173 (by decide +kernel) rfl⟩
theorem wX2_253 : xl_Fp RX2 253 1 2 .int := ⟨RX1, TX1, 16, tyX1, rfl, by decide, xl_inX1, xl_Ti 173 (by decide +kernel) rfl, tyX1_ok, nmX1, rfl, by decide +kernel⟩
theorem fX2_274 : xl_F RX2 274 2 4 := ⟨RX2, TX2, 13, rfl, by decide, xl_inX2, xl_Ti 238 (by decide +kernel) rfl⟩
theorem wX2_274 : xl_Fp RX2 274 2 4 .int := ⟨RX2, TX2, 13, tyX2, rfl, by decide, xl_inX2, xl_Ti 238 (by decide +kernel) rfl, tyX2_ok, nmX2, rfl, by decide +kernel⟩
theorem fX2_277 : xl_F RX2 277 2 3 := ⟨RX2, TX2, 13, rfl, by decide, xl_inX2, xl_Ti 237 (by decide +kernel) rfl⟩
theorem wX2_277 : xl_Fp RX2 277 2 3 .int := ⟨RX2, TX2, 13, tyX2, rfl, by decide, xl_inX2, xl_Ti 237 (by decide +kernel) rfl, tyX2_ok, nmX2, rfl, by decide +kernel⟩
theorem fX2_286 : xl_F RX2 286 2 6 := ⟨RX2, TX2, 13, rfl, by decide, xl_inX2, xl_Ti 240 (by decide +kernel) rfl⟩
theorem wX2_286 : xl_Fp RX2 286 2 6 .int := ⟨RX2, TX2, 13, tyX2, rfl, by decide, xl_inX2, xl_Ti 240 (by decide +kernel) rfl, tyX2_ok, nmX2, rfl, by decide +kernel⟩
theorem fX2_289 : xl_F RX2 289 2 8 := ⟨RX2, TX2, 13, rfl, by decide, xl_inX2, xl_Ti 242 (by decide +kernel) rfl⟩
theorem wX2_289 : xl_Fp RX2 289 2 8 .int := ⟨RX2, TX2, 13, tyX2, rfl, by decide, xl_inX2, xl_Ti 242 (by decide +kernel) rfl, tyX2_ok, nmX2, rfl, by decide +kernel⟩
theorem lX2_9 : Cond.methodLink RX2 9 yX1_init ∈ xl_T := xl_Ti 119 (by decide +kernel) rfl
theorem lX2_44 : Cond.methodLink RX2 44 yX2_putSign ∈ xl_T := xl_Ti 279 (by decide +kernel) rfl
theorem lX2_48 : Cond.methodLink RX2 48 yX2_areSettings ∈ xl_T := xl_Ti 291 (by decide +kernel) rfl
theorem lX2_52 : Cond.methodLink RX2 52 yX2_remember ∈ xl_T := xl_Ti 294 (by decide +kernel) rfl
theorem lX2_55 : Cond.methodLink RX2 55 yX1_reset ∈ xl_T := xl_Ti 309 (by decide +kernel) rfl
theorem lX2_59 : Cond.methodLink RX2 59 yX2_isSource ∈ xl_T := xl_Ti 314 (by decide +kernel) rfl
theorem lX2_67 : Cond.methodLink RX2 67 yX0_get ∈ xl_T := xl_Ti 318 (by decide +kernel) rfl
theorem lX2_79 : Cond.methodLink RX2 79 yX0_set ∈ xl_T := xl_Ti 322 (by decide +kernel) rfl
theorem lX2_83 : Cond.methodLink RX2 83 yX2_eventRefusal ∈ xl_T := xl_Ti 327 (by decide +kernel) rfl
theorem lX2_90 : Cond.methodLink RX2 90 yX1_comeEvent ∈ xl_T := xl_Ti 345 (by decide +kernel) rfl
theorem lX2_96 : Cond.methodLink RX2 96 yX2_tellTwo ∈ xl_T := xl_Ti 457 (by decide +kernel) rfl
theorem lX2_100 : Cond.methodLink RX2 100 yX2_takeText ∈ xl_T := xl_Ti 477 (by decide +kernel) rfl
theorem lX2_104 : Cond.methodLink RX2 104 yX2_eventsMisfit ∈ xl_T := xl_Ti 481 (by decide +kernel) rfl
theorem lX2_108 : Cond.methodLink RX2 108 yX2_comeEventAt ∈ xl_T := xl_Ti 546 (by decide +kernel) rfl
theorem lX2_111 : Cond.methodLink RX2 111 yX2_markRefusal ∈ xl_T := xl_Ti 567 (by decide +kernel) rfl
theorem lX2_114 : Cond.methodLink RX2 114 yX1_comeMark ∈ xl_T := xl_Ti 571 (by decide +kernel) rfl
theorem lX2_118 : Cond.methodLink RX2 118 yX2_tellOne ∈ xl_T := xl_Ti 461 (by decide +kernel) rfl
theorem lX2_122 : Cond.methodLink RX2 122 yX2_idleRefusal ∈ xl_T := xl_Ti 583 (by decide +kernel) rfl
theorem lX2_125 : Cond.methodLink RX2 125 yX1_comeIdle ∈ xl_T := xl_Ti 587 (by decide +kernel) rfl
theorem lX2_134 : Cond.methodLink RX2 134 yX1_isRipe ∈ xl_T := xl_Ti 656 (by decide +kernel) rfl
theorem lX2_138 : Cond.methodLink RX2 138 yX1_hasResult ∈ xl_T := xl_Ti 613 (by decide +kernel) rfl
theorem lX2_141 : Cond.methodLink RX2 141 yX2_shifted ∈ xl_T := xl_Ti 842 (by decide +kernel) rfl
theorem lX2_145 : Cond.methodLink RX2 145 yX2_isKey ∈ xl_T := xl_Ti 335 (by decide +kernel) rfl
theorem lX2_148 : Cond.methodLink RX2 148 yX2_isTime ∈ xl_T := xl_Ti 338 (by decide +kernel) rfl
theorem lX2_151 : Cond.methodLink RX2 151 yX1_firstTouched ∈ xl_T := xl_Ti 599 (by decide +kernel) rfl
theorem lX2_154 : Cond.methodLink RX2 154 yX1_touchedFrom ∈ xl_T := xl_Ti 600 (by decide +kernel) rfl
theorem lX2_158 : Cond.methodLink RX2 158 yX2_isOfLatest ∈ xl_T := xl_Ti 852 (by decide +kernel) rfl
theorem lX2_164 : Cond.methodLink RX2 164 yX1_sentOf ∈ xl_T := xl_Ti 605 (by decide +kernel) rfl
theorem lX2_170 : Cond.methodLink RX2 170 yX2_tellThree ∈ xl_T := xl_Ti 618 (by decide +kernel) rfl
theorem lX2_180 : Cond.methodLink RX2 180 yX2_tellNothing ∈ xl_T := xl_Ti 465 (by decide +kernel) rfl
theorem lX2_183 : Cond.methodLink RX2 183 yX2_tellMore ∈ xl_T := xl_Ti 469 (by decide +kernel) rfl
theorem lX2_186 : Cond.methodLink RX2 186 yX1_leastMark ∈ xl_T := xl_Ti 630 (by decide +kernel) rfl
theorem lX2_189 : Cond.methodLink RX2 189 yX1_ripening ∈ xl_T := xl_Ti 631 (by decide +kernel) rfl
theorem lX2_192 : Cond.methodLink RX2 192 yX1_isTakenOf ∈ xl_T := xl_Ti 639 (by decide +kernel) rfl
theorem lX2_207 : Cond.methodLink RX2 207 Lib.Math.max.name ∈ xl_T := xl_Ti 651 (by decide +kernel) rfl
theorem lX2_215 : Cond.methodLink RX2 215 yX1_isOver ∈ xl_T := xl_Ti 661 (by decide +kernel) rfl
theorem lX2_218 : Cond.methodLink RX2 218 yX2_isEvent ∈ xl_T := xl_Ti 331 (by decide +kernel) rfl
theorem lX2_222 : Cond.methodLink RX2 222 yX1_copyFrom ∈ xl_T := xl_Ti 298 (by decide +kernel) rfl
theorem lX2_226 : Cond.methodLink RX2 226 yX1_playEvent ∈ xl_T := xl_Ti 666 (by decide +kernel) rfl
theorem lX2_229 : Cond.methodLink RX2 229 yX2_sortTaken ∈ xl_T := xl_Ti 671 (by decide +kernel) rfl
theorem lX2_232 : Cond.methodLink RX2 232 yX2_sortedCell ∈ xl_T := xl_Ti 675 (by decide +kernel) rfl
theorem lX2_235 : Cond.methodLink RX2 235 yX2_holeBehind ∈ xl_T := xl_Ti 679 (by decide +kernel) rfl
theorem lX2_238 : Cond.methodLink RX2 238 yJ7_fill_53178 ∈ xl_T := xl_Ti 691 (by decide +kernel) rfl
theorem lX2_244 : Cond.methodLink RX2 244 Lib.Math.min.name ∈ xl_T := xl_Ti 694 (by decide +kernel) rfl
theorem lX2_247 : Cond.methodLink RX2 247 yX2_replay ∈ xl_T := xl_Ti 699 (by decide +kernel) rfl
theorem lX2_256 : Cond.methodLink RX2 256 yX2_dayMisfit ∈ xl_T := xl_Ti 715 (by decide +kernel) rfl
theorem lX2_259 : Cond.methodLink RX2 259 yX2_actRefusal ∈ xl_T := xl_Ti 731 (by decide +kernel) rfl
theorem lX2_262 : Cond.methodLink RX2 262 yX2_comeAct ∈ xl_T := xl_Ti 735 (by decide +kernel) rfl
theorem lX2_265 : Cond.methodLink RX2 265 yX2_actForm ∈ xl_T := xl_Ti 719 (by decide +kernel) rfl
theorem lX2_269 : Cond.methodLink RX2 269 yJ0_length_8abf5 ∈ xl_T := xl_Ti 490 (by decide +kernel) rfl
theorem lX2_280 : Cond.methodLink RX2 280 yX2_drawAfter ∈ xl_T := xl_Ti 747 (by decide +kernel) rfl
theorem lX2_283 : Cond.methodLink RX2 283 yX2_drawOf ∈ xl_T := xl_Ti 751 (by decide +kernel) rfl
theorem lX2_292 : Cond.methodLink RX2 292 yX2_inputRefusal ∈ xl_T := xl_Ti 341 (by decide +kernel) rfl
theorem lX2_295 : Cond.methodLink RX2 295 yX2_signAt ∈ xl_T := xl_Ti 500 (by decide +kernel) rfl
theorem lX2_298 : Cond.methodLink RX2 298 yJ0_charAt_5068e ∈ xl_T := xl_Ti 504 (by decide +kernel) rfl
theorem lX2_302 : Cond.methodLink RX2 302 yX2_fits ∈ xl_T := xl_Ti 542 (by decide +kernel) rfl
theorem lX2_308 : Cond.methodLink RX2 308 yX2_formMisfit ∈ xl_T := xl_Ti 486 (by decide +kernel) rfl
theorem lX2_312 : Cond.methodLink RX2 312 yJ0_isEmpty_aae02 ∈ xl_T := xl_Ti 727 (by decide +kernel) rfl
theorem lX2_324 : Cond.methodLink RX2 324 yX2_numberAt ∈ xl_T := xl_Ti 554 (by decide +kernel) rfl
theorem lX2_327 : Cond.methodLink RX2 327 yX2_keyAt ∈ xl_T := xl_Ti 550 (by decide +kernel) rfl
theorem lX2_330 : Cond.methodLink RX2 330 yX2_valueAt ∈ xl_T := xl_Ti 558 (by decide +kernel) rfl
theorem lX2_333 : Cond.methodLink RX2 333 yX1_playInput ∈ xl_T := xl_Ti 703 (by decide +kernel) rfl
theorem fX3_3 : xl_F RX3 3 3 0 := ⟨RX3, TX3, 23, rfl, by decide, xl_inX3, xl_Ti 905 (by decide +kernel) rfl⟩
theorem wX3_3 : xl_Fp RX3 3 3 0 .int := ⟨RX3, TX3, 23, tyX3, rfl, by decide, xl_inX3, xl_Ti 905 (by decide +kernel) rfl, tyX3_ok, nmX3, rfl, by decide +kernel⟩
theorem fX3_7 : xl_F RX3 7 3 2 := ⟨RX3, TX3, 23, rfl, by decide, xl_inX3, xl_Ti 907 (by decide +kernel) rfl⟩
theorem fX3_11 : xl_F RX3 11 3 1 := ⟨RX3, TX3, 23, rfl, by decide, xl_inX3, xl_Ti 906 (by decide +kernel) rfl⟩
theorem wX3_11 : xl_Fp RX3 11 3 1 .int := ⟨RX3, TX3, 23, tyX3, rfl, by decide, xl_inX3, xl_Ti 906 (by decide +kernel) rfl, tyX3_ok, nmX3, rfl, by decide +kernel⟩
theorem fX3_14 : xl_F RX3 14 3 4 := ⟨RX3, TX3, 23, rfl, by decide, xl_inX3, xl_Ti 909 (by decide +kernel) rfl⟩
theorem wX3_14 : xl_Fp RX3 14 3 4 .int := ⟨RX3, TX3, 23, tyX3, rfl, by decide, xl_inX3, xl_Ti 909 (by decide +kernel) rfl, tyX3_ok, nmX3, rfl, by decide +kernel⟩
theorem fX3_17 : xl_F RX3 17 3 3 := ⟨RX3, TX3, 23, rfl, by decide, xl_inX3, xl_Ti 908 (by decide +kernel) rfl⟩
theorem fX3_25 : xl_F RX3 25 3 6 := ⟨RX3, TX3, 23, rfl, by decide, xl_inX3, xl_Ti 911 (by decide +kernel) rfl⟩
theorem wX3_25 : xl_Fp RX3 25 3 6 .int := ⟨RX3, TX3, 23, tyX3, rfl, by decide, xl_inX3, xl_Ti 911 (by decide +kernel) rfl, tyX3_ok, nmX3, rfl, by decide +kernel⟩
theorem fX3_28 : xl_F RX3 28 3 5 := ⟨RX3, TX3, 23, rfl, by decide, xl_inX3, xl_Ti 910 (by decide +kernel) rfl⟩
theorem wX3_28 : xl_Fp RX3 28 3 5 .int := ⟨RX3, TX3, 23, tyX3, rfl, by decide, xl_inX3, xl_Ti 910 (by decide +kernel) rfl, tyX3_ok, nmX3, rfl, by decide +kernel⟩
theorem fX3_53 : xl_F RX3 53 3 7 := ⟨RX3, TX3, 23, rfl, by decide, xl_inX3, xl_Ti 912 (by decide +kernel) rfl⟩
theorem fX3_56 : xl_F RX3 56 3 9 := ⟨RX3, TX3, 23, rfl, by decide, xl_inX3, xl_Ti 914 (by decide +kernel) rfl⟩
theorem fX3_59 : xl_F RX3 59 3 13 := ⟨RX3, TX3, 23, rfl, by decide, xl_inX3, xl_Ti 918 (by decide +kernel) rfl⟩
theorem fX3_62 : xl_F RX3 62 3 14 := ⟨RX3, TX3, 23, rfl, by decide, xl_inX3, xl_Ti 919 (by decide +kernel) rfl⟩
theorem fX3_65 : xl_F RX3 65 3 15 := ⟨RX3, TX3, 23, rfl, by decide, xl_inX3, xl_Ti 920 (by decide +kernel) rfl⟩
theorem fX3_68 : xl_F RX3 68 3 16 := ⟨RX3, TX3, 23, rfl, by decide, xl_inX3, xl_Ti 921 (by decide +kernel) rfl⟩
theorem fX3_71 : xl_F RX3 71 3 17 := ⟨RX3, TX3, 23, rfl, by decide, xl_inX3, xl_Ti 922 (by decide +kernel) rfl⟩
theorem fX3_74 : xl_F RX3 74 3 18 := ⟨RX3, TX3, 23, rfl, by decide, xl_inX3, xl_Ti 923 (by decide +kernel) rfl⟩
theorem fX3_77 : xl_F RX3 77 3 20 := ⟨RX3, TX3, 23, rfl, by decide, xl_inX3, xl_Ti 925 (by decide +kernel) rfl⟩
theorem fX3_80 : xl_F RX3 80 3 22 := ⟨RX3, TX3, 23, rfl, by decide, xl_inX3, xl_Ti 927 (by decide +kernel) rfl⟩
theorem fX3_92 : xl_F RX3 92 3 8 := ⟨RX3, TX3, 23, rfl, by decide, xl_inX3, xl_Ti 913 (by decide +kernel) rfl⟩
theorem wX3_92 : xl_Fp RX3 92 3 8 .int := ⟨RX3, TX3, 23, tyX3, rfl, by decide, xl_inX3, xl_Ti 913 (by decide +kernel) rfl, tyX3_ok, nmX3, rfl, by decide +kernel⟩
theorem fX3_149 : xl_F RX3 149 3 10 := ⟨RX3, TX3, 23, rfl, by decide, xl_inX3, xl_Ti 915 (by decide +kernel) rfl⟩
theorem wX3_149 : xl_Fp RX3 149 3 10 .int := ⟨RX3, TX3, 23, tyX3, rfl, by decide, xl_inX3, xl_Ti 915 (by decide +kernel) rfl, tyX3_ok, nmX3, rfl, by decide +kernel⟩
theorem fX3_152 : xl_F RX3 152 3 11 := ⟨RX3, TX3, 23, rfl, by decide, xl_inX3, xl_Ti 916 (by decide +kernel) rfl⟩
theorem wX3_152 : xl_Fp RX3 152 3 11 .int := ⟨RX3, TX3, 23, tyX3, rfl, by decide, xl_inX3, xl_Ti 916 (by decide +kernel) rfl, tyX3_ok, nmX3, rfl, by decide +kernel⟩
theorem fX3_184 : xl_F RX3 184 3 12 := ⟨RX3, TX3, 23, rfl, by decide, xl_inX3, xl_Ti 917 (by decide +kernel) rfl⟩
theorem wX3_184 : xl_Fp RX3 184 3 12 .int := ⟨RX3, TX3, 23, tyX3, rfl, by decide, xl_inX3, xl_Ti 917 (by decide +kernel) rfl, tyX3_ok, nmX3, rfl, by decide +kernel⟩
theorem fX3_280 : xl_F RX3 280 3 19 := ⟨RX3, TX3, 23, rfl, by decide, xl_inX3, xl_Ti 924 (by decide +kernel) rfl⟩
theorem wX3_280 : xl_Fp RX3 280 3 19 .int := ⟨RX3, TX3, 23, tyX3, rfl, by decide, xl_inX3, xl_Ti 924 (by decide +kernel) rfl, tyX3_ok, nmX3, rfl, by decide +kernel⟩
theorem fX3_305 : xl_F RX3 305 3 21 := ⟨RX3, TX3, 23, rfl, by decide, xl_inX3, xl_Ti 926 (by decide +kernel) rfl⟩
theorem wX3_305 : xl_Fp RX3 305 3 21 .int := ⟨RX3, TX3, 23, tyX3, rfl, by decide, xl_inX3, xl_Ti 926 (by decide +kernel) rfl, tyX3_ok, nmX3, rfl, by decide +kernel⟩
theorem lX3_21 : Cond.methodLink RX3 21 yX3_in ∈ xl_T := xl_Ti 888 (by decide +kernel) rfl
theorem lX3_31 : Cond.methodLink RX3 31 yJ0_length_8abf5 ∈ xl_T := xl_Ti 1143 (by decide +kernel) rfl
theorem lX3_37 : Cond.methodLink RX3 37 yJ0_charAt_5068e ∈ xl_T := xl_Ti 1144 (by decide +kernel) rfl
theorem lX3_43 : Cond.methodLink RX3 43 yX3_takesOf ∈ xl_T := xl_Ti 1139 (by decide +kernel) rfl
theorem lX3_84 : Cond.methodLink RX3 84 yX3_starts ∈ xl_T := xl_Ti 897 (by decide +kernel) rfl
theorem lX3_88 : Cond.methodLink RX3 88 yX3_puts ∈ xl_T := xl_Ti 901 (by decide +kernel) rfl
theorem lX3_95 : Cond.methodLink RX3 95 yX3_copies ∈ xl_T := xl_Ti 980 (by decide +kernel) rfl
theorem lX3_99 : Cond.methodLink RX3 99 yX3_lays ∈ xl_T := xl_Ti 998 (by decide +kernel) rfl
theorem lX3_108 : Cond.methodLink RX3 108 yX3_areSettings ∈ xl_T := xl_Ti 989 (by decide +kernel) rfl
theorem lX3_112 : Cond.methodLink RX3 112 yX3_done ∈ xl_T := xl_Ti 994 (by decide +kernel) rfl
theorem lX3_116 : Cond.methodLink RX3 116 yX3_of ∈ xl_T := xl_Ti 1010 (by decide +kernel) rfl
theorem lX3_120 : Cond.methodLink RX3 120 yX3_isSource ∈ xl_T := xl_Ti 1006 (by decide +kernel) rfl
theorem lX3_126 : Cond.methodLink RX3 126 yX3_place ∈ xl_T := xl_Ti 1057 (by decide +kernel) rfl
theorem lX3_129 : Cond.methodLink RX3 129 yX3_adds ∈ xl_T := xl_Ti 1041 (by decide +kernel) rfl
theorem lX3_132 : Cond.methodLink RX3 132 yX3_isBehind ∈ xl_T := xl_Ti 1078 (by decide +kernel) rfl
theorem lX3_136 : Cond.methodLink RX3 136 yX3_ofSession ∈ xl_T := xl_Ti 1053 (by decide +kernel) rfl
theorem lX3_140 : Cond.methodLink RX3 140 yX3_sends ∈ xl_T := xl_Ti 1064 (by decide +kernel) rfl
theorem lX3_143 : Cond.methodLink RX3 143 yX3_isRipeBy ∈ xl_T := xl_Ti 1082 (by decide +kernel) rfl
theorem lX3_146 : Cond.methodLink RX3 146 yX3_isDone ∈ xl_T := xl_Ti 1098 (by decide +kernel) rfl
theorem lX3_155 : Cond.methodLink RX3 155 yX3_leastMark ∈ xl_T := xl_Ti 1090 (by decide +kernel) rfl
theorem lX3_158 : Cond.methodLink RX3 158 yX3_firstRipe ∈ xl_T := xl_Ti 1094 (by decide +kernel) rfl
theorem lX3_161 : Cond.methodLink RX3 161 yX3_takesBack ∈ xl_T := xl_Ti 1060 (by decide +kernel) rfl
theorem lX3_164 : Cond.methodLink RX3 164 yX3_firstClosed ∈ xl_T := xl_Ti 1102 (by decide +kernel) rfl
theorem lX3_167 : Cond.methodLink RX3 167 yX3_closes ∈ xl_T := xl_Ti 1110 (by decide +kernel) rfl
theorem lX3_170 : Cond.methodLink RX3 170 yX3_isClosedBy ∈ xl_T := xl_Ti 1106 (by decide +kernel) rfl
theorem lX3_173 : Cond.methodLink RX3 173 yX3_closedMany ∈ xl_T := xl_Ti 1114 (by decide +kernel) rfl
theorem lX3_176 : Cond.methodLink RX3 176 Lib.Math.max.name ∈ xl_T := xl_Ti 1069 (by decide +kernel) rfl
theorem lX3_181 : Cond.methodLink RX3 181 yX3_goesOut ∈ xl_T := xl_Ti 1070 (by decide +kernel) rfl
theorem lX3_187 : Cond.methodLink RX3 187 yX3_melts ∈ xl_T := xl_Ti 1049 (by decide +kernel) rfl
theorem lX3_191 : Cond.methodLink RX3 191 Lib.Math.min.name ∈ xl_T := xl_Ti 1068 (by decide +kernel) rfl
theorem lX3_194 : Cond.methodLink RX3 194 yX3_flag ∈ xl_T := xl_Ti 1034 (by decide +kernel) rfl
theorem lX3_198 : Cond.methodLink RX3 198 yX3_comesIn ∈ xl_T := xl_Ti 1074 (by decide +kernel) rfl
theorem lX3_201 : Cond.methodLink RX3 201 yX3_notes ∈ xl_T := xl_Ti 1037 (by decide +kernel) rfl
theorem lX3_205 : Cond.methodLink RX3 205 yX3_joins ∈ xl_T := xl_Ti 1045 (by decide +kernel) rfl
theorem lX3_209 : Cond.methodLink RX3 209 yX3_rises ∈ xl_T := xl_Ti 1086 (by decide +kernel) rfl
theorem lX3_219 : Cond.methodLink RX3 219 yX3_isEvent ∈ xl_T := xl_Ti 1023 (by decide +kernel) rfl
theorem lX3_222 : Cond.methodLink RX3 222 yX3_comes ∈ xl_T := xl_Ti 1030 (by decide +kernel) rfl
theorem lX3_226 : Cond.methodLink RX3 226 yX3_enters ∈ xl_T := xl_Ti 1122 (by decide +kernel) rfl
theorem lX3_230 : Cond.methodLink RX3 230 yX3_eventOne ∈ xl_T := xl_Ti 1019 (by decide +kernel) rfl
theorem lX3_234 : Cond.methodLink RX3 234 yX3_entersSince ∈ xl_T := xl_Ti 1118 (by decide +kernel) rfl
theorem lX3_239 : Cond.methodLink RX3 239 yX3_digits ∈ xl_T := xl_Ti 1145 (by decide +kernel) rfl
theorem lX3_244 : Cond.methodLink RX3 244 yX3_reads ∈ xl_T := xl_Ti 1130 (by decide +kernel) rfl
theorem lX3_247 : Cond.methodLink RX3 247 yX3_readsEvent ∈ xl_T := xl_Ti 1134 (by decide +kernel) rfl
theorem lX3_253 : Cond.methodLink RX3 253 yX3_isMarked ∈ xl_T := xl_Ti 1160 (by decide +kernel) rfl
theorem lX3_256 : Cond.methodLink RX3 256 yX3_marksOne ∈ xl_T := xl_Ti 1155 (by decide +kernel) rfl
theorem lX3_259 : Cond.methodLink RX3 259 yX3_entersProgress ∈ xl_T := xl_Ti 1164 (by decide +kernel) rfl
theorem lX3_262 : Cond.methodLink RX3 262 yX3_isIdle ∈ xl_T := xl_Ti 1176 (by decide +kernel) rfl
theorem lX3_265 : Cond.methodLink RX3 265 yX3_idlesOne ∈ xl_T := xl_Ti 1172 (by decide +kernel) rfl
theorem lX3_272 : Cond.methodLink RX3 272 yX3_isKey ∈ xl_T := xl_Ti 1210 (by decide +kernel) rfl
theorem lX3_277 : Cond.methodLink RX3 277 yX3_ofInput ∈ xl_T := xl_Ti 1230 (by decide +kernel) rfl
theorem lX3_283 : Cond.methodLink RX3 283 yX3_laysTimes ∈ xl_T := xl_Ti 1258 (by decide +kernel) rfl
theorem lX3_286 : Cond.methodLink RX3 286 yX3_fallsInto ∈ xl_T := xl_Ti 1262 (by decide +kernel) rfl
theorem lX3_291 : Cond.methodLink RX3 291 yX3_startsAgain ∈ xl_T := xl_Ti 1275 (by decide +kernel) rfl
theorem lX3_294 : Cond.methodLink RX3 294 yX3_comesAgain ∈ xl_T := xl_Ti 1279 (by decide +kernel) rfl
theorem lX3_299 : Cond.methodLink RX3 299 yX3_readsAct ∈ xl_T := xl_Ti 1299 (by decide +kernel) rfl
theorem lX3_302 : Cond.methodLink RX3 302 yX3_doesAct ∈ xl_T := xl_Ti 1304 (by decide +kernel) rfl
theorem lX3_311 : Cond.methodLink RX3 311 yX3_draws ∈ xl_T := xl_Ti 1313 (by decide +kernel) rfl
end
section
/-! ===== the same over whole numbers: an int is iI z, an array a function to whole numbers ===== -/
def iI (z : Int) : Int32 := Int32.ofInt z
def lI (z : Int) : Int64 := Int64.ofInt z
/-- z is an int -/
def xb (z : Int) : Prop := -2147483648 ≤ z ∧ z ≤ 2147483647
theorem iI_toInt {z : Int} (h : xb z) : (iI z).toInt = z := by
  unfold xb at h
  rw [iI, Int32.toInt_ofInt, show Int32.size = 4294967296 from rfl]
  exact Int.bmod_eq_of_le (by omega) (by omega)
theorem lI_toInt {z : Int} (h : xb z) : (lI z).toInt = z := by
  unfold xb at h
  rw [lI, Int64.toInt_ofInt, show Int64.size = 18446744073709551616 from rfl]
  exact Int.bmod_eq_of_le (by omega) (by omega)
theorem iI_of (x : Int32) : iI x.toInt = x := by rw [iI, Int32.ofInt_toInt]
theorem xb_of (x : Int32) : xb x.toInt := ⟨Int32.le_toInt x, by have := Int32.toInt_lt x; omega⟩
theorem iI_add (a b : Int) : iI a + iI b = iI (a + b) := by simp [iI, Int32.ofInt_add]
theorem iI_sub (a b : Int) : iI a - iI b = iI (a - b) := by simp [iI, Int32.ofInt_sub]
theorem iI_mul (a b : Int) : iI a * iI b = iI (a * b) := by simp [iI, Int32.ofInt_mul]
theorem iI_neg (a : Int) : -iI a = iI (-a) := by simp [iI, Int32.ofInt_neg]
theorem iI_lt {a b : Int} (ha : xb a) (hb : xb b) : iI a < iI b ↔ a < b := by rw [Int32.lt_iff_toInt_lt, iI_toInt ha, iI_toInt hb]
theorem iI_le {a b : Int} (ha : xb a) (hb : xb b) : iI a ≤ iI b ↔ a ≤ b := by rw [Int32.le_iff_toInt_le, iI_toInt ha, iI_toInt hb]
theorem iI_eq {a b : Int} (ha : xb a) (hb : xb b) : iI a = iI b ↔ a = b := by rw [← Int32.toInt_inj, iI_toInt ha, iI_toInt hb]
theorem iI_0 : iI 0 = 0 := rfl
theorem xb_0 : xb 0 := by unfold xb; omega
theorem iI_lt0 {a : Int} (ha : xb a) : iI a < 0 ↔ a < 0 := iI_lt ha xb_0
theorem iI_le0 {a : Int} (ha : xb a) : iI a ≤ 0 ↔ a ≤ 0 := iI_le ha xb_0
theorem iI_0lt {a : Int} (ha : xb a) : 0 < iI a ↔ 0 < a := iI_lt xb_0 ha
theorem iI_0le {a : Int} (ha : xb a) : 0 ≤ iI a ↔ 0 ≤ a := iI_le xb_0 ha
theorem iI_eq0 {a : Int} (ha : xb a) : iI a = 0 ↔ a = 0 := iI_eq ha xb_0
theorem iI_nat {z : Int} (h : xb z) : (iI z).toNatClampNeg = z.toNat := by
  show (iI z).toInt.toNat = z.toNat
  rw [iI_toInt h]
theorem iI_in {z : Int} {n : Nat} (h : xb z) (h0 : 0 ≤ z) (h1 : z < n) : vp_in (iI z) n := by
  rw [vp_in_iff, iI_toInt h]
  exact ⟨h0, h1⟩
theorem iI_long {z : Int} (h : xb z) : (iI z).toInt64 = lI z := by
  apply Int64.toInt_inj.mp
  rw [lI_toInt h, Int32.toInt_toInt64, iI_toInt h]
theorem iI_nI (n : Nat) : nI n = iI n := by simp [iI, nI, Int32.ofInt_eq_ofNat]
/-- cells -/
abbrev xO (ci : Nat) (vs : List Value) : XE := .inr (ci, vs)
abbrev xA (n : Nat) (g : Nat → Int) : XE := .inl (0, n, .inl (fun k => iI (g k)))
abbrev xL (n : Nat) (g : Nat → Int) : XE := .inl (1, n, .inr (.inl (fun k => lI (g k))))
abbrev xZ (n : Nat) (g : Nat → Int) : XE := .inl (2, n, .inl (fun k => iI (g k)))
abbrev xQ (n : Nat) (f : Nat → Option Nat) : XE := .inl (3, n, .inr (.inr (.inr (.inr f))))
abbrev xi (z : Int) : Value := .int (iI z)
abbrev xl (z : Int) : Value := .long (lI z)
def xup (g : Nat → Int) (k : Nat) (z : Int) : Nat → Int := fun j => if j = k then z else g j
theorem xup_upd (g : Nat → Int) (k : Nat) (z : Int) : upd (fun j => iI (g j)) k (iI z) = fun j => iI (xup g k z j) := by
  funext j
  unfold upd xup
  by_cases h : j = k <;> simp [h]
theorem xup_updL (g : Nat → Int) (k : Nat) (z : Int) : vp_updL (fun j => lI (g j)) k (lI z) = fun j => lI (xup g k z j) := by
  funext j
  unfold vp_updL xup
  by_cases h : j = k <;> simp [h]
/-- System.arraycopy -/
def xcp (f g : Nat → Int) (sp dp n : Nat) : Nat → Int := fun k => if dp ≤ k ∧ k < dp + n then f (sp + (k - dp)) else g k
theorem xcp_cpy (f g : Nat → Int) (sp dp n : Nat) : va_cpy (fun j => iI (f j)) (fun j => iI (g j)) sp dp n = fun k => iI (xcp f g sp dp n k) := by
  funext j
  unfold va_cpy xcp
  by_cases h : dp ≤ j ∧ j < dp + n <;> simp [h]
section XZ
variable {M : XI} {rc rs pc pc2 tgt : Nat} {L : List (Option Value)} {st : List Value} {h : XH} {Po : Option (Option Value) → XH → Prop} {a b : Int}
theorem xz_iconst {n : Int} (d : xl_D M pc (.iconst n) 1 pc2) (k : xl_W M rc rs pc2 L (xi n :: st) h Po) : xl_W M rc rs pc L st h Po := xl_iconst _ d rfl k
theorem xz_bipush {n : Int} (d : xl_D M pc (.bipush n) 2 pc2) (hv : (Int8.ofInt n).toInt32 = iI n) (k : xl_W M rc rs pc2 L (xi n :: st) h Po) : xl_W M rc rs pc L st h Po := xl_bipush _ d hv k
theorem xz_sipush {n : Int} (d : xl_D M pc (.sipush n) 3 pc2) (hv : (Int16.ofInt n).toInt32 = iI n) (k : xl_W M rc rs pc2 L (xi n :: st) h Po) : xl_W M rc rs pc L st h Po := xl_sipush _ d hv k
theorem xz_lconst {n : Fin 2} (d : xl_D M pc (.lconst n) 1 pc2) (k : xl_W M rc rs pc2 L (xl (n.val : Int) :: st) h Po) : xl_W M rc rs pc L st h Po := xl_lconst _ d (by simp [lI, Int64.ofInt_eq_ofNat]) k
theorem xz_iadd (d : xl_D M pc .iadd 1 pc2) (k : xl_W M rc rs pc2 L (xi (a + b) :: st) h Po) : xl_W M rc rs pc L (xi b :: xi a :: st) h Po := xl_iadd d (by rw [iI_add]; exact k)
theorem xz_isub (d : xl_D M pc .isub 1 pc2) (k : xl_W M rc rs pc2 L (xi (a - b) :: st) h Po) : xl_W M rc rs pc L (xi b :: xi a :: st) h Po := xl_isub d (by rw [iI_sub]; exact k)
theorem xz_imul (d : xl_D M pc .imul 1 pc2) (k : xl_W M rc rs pc2 L (xi (a * b) :: st) h Po) : xl_W M rc rs pc L (xi b :: xi a :: st) h Po := xl_imul d (by rw [iI_mul]; exact k)
theorem xz_ineg (d : xl_D M pc .ineg 1 pc2) (k : xl_W M rc rs pc2 L (xi (-a) :: st) h Po) : xl_W M rc rs pc L (xi a :: st) h Po := xl_ineg d (by rw [iI_neg]; exact k)
theorem xz_i2l (d : xl_D M pc .i2l 1 pc2) (ha : xb a) (k : xl_W M rc rs pc2 L (xl a :: st) h Po) : xl_W M rc rs pc L (xi a :: st) h Po := xl_i2l d (by rw [iI_long ha]; exact k)
theorem xz_iinc {i : Nat} {n : Int} (d : xl_D M pc (.iinc i n) 3 pc2) (hl : xl_n L i = some (some (xi a))) (hk : xl_k L i = true) (hn : i < M.2.2.1) (k : xl_W M rc rs pc2 (xl_s L i (some (xi (a + n)))) st h Po) : xl_W M rc rs pc L st h Po := xl_iinc d hl hk hn (by rw [show iI a + Int32.ofInt n = iI (a + n) from iI_add a n]; exact k)
theorem xz_rem0 (ha : 0 ≤ a) (hb : 0 < b) (ha2 : xb a) (hb2 : xb b) : iI a - iI a / iI b * iI b = iI (a % b) := by
  obtain ⟨n, rfl⟩ := Int.eq_ofNat_of_zero_le ha
  obtain ⟨m, rfl⟩ := Int.eq_ofNat_of_zero_le (Int.le_of_lt hb)
  unfold xb at ha2 hb2
  rw [← iI_nI, ← iI_nI, pk_rem (by omega) (by omega) (by omega), iI_nI]
  rfl
theorem xz_irem (d : xl_D M pc .irem 1 pc2) (ha : 0 ≤ a) (hb : 0 < b) (ha2 : xb a) (hb2 : xb b) (k : xl_W M rc rs pc2 L (xi (a % b) :: st) h Po) : xl_W M rc rs pc L (xi b :: xi a :: st) h Po :=
  xl_irem d (fun e => by rw [iI_eq0 hb2] at e; omega) (by rw [xz_rem0 ha hb ha2 hb2]; exact k)
theorem xz_idiv (d : xl_D M pc .idiv 1 pc2) (ha : 0 ≤ a) (hb : 0 < b) (ha2 : xb a) (hb2 : xb b) (k : xl_W M rc rs pc2 L (xi (a / b) :: st) h Po) : xl_W M rc rs pc L (xi b :: xi a :: st) h Po :=
  xl_idiv d (fun e => by rw [iI_eq0 hb2] at e; omega) (by
    obtain ⟨n, rfl⟩ := Int.eq_ofNat_of_zero_le ha
    obtain ⟨m, rfl⟩ := Int.eq_ofNat_of_zero_le (Int.le_of_lt hb)
    unfold xb at ha2 hb2
    rw [← iI_nI, ← iI_nI, pk_div (by omega) (by omega) (by omega), iI_nI]
    exact k)
theorem lg_cmp_lI (ha : xb a) (hb : xb b) : lg_cmp (lI a) (lI b) = iI (if a < b then -1 else if a = b then 0 else 1) := by
  have e1 : lI a < lI b ↔ a < b := by rw [Int64.lt_iff_toInt_lt, lI_toInt ha, lI_toInt hb]
  have e2 : lI a = lI b ↔ a = b := by rw [← Int64.toInt_inj, lI_toInt ha, lI_toInt hb]
  have e3 : lI b < lI a ↔ b < a := by rw [Int64.lt_iff_toInt_lt, lI_toInt ha, lI_toInt hb]
  unfold lg_cmp
  by_cases h1 : a < b
  · rw [if_neg (fun q => by have := e3.mp q; omega), if_neg (fun q => by have := e2.mp q; omega), if_pos h1]
    rfl
  · by_cases h2 : a = b
    · rw [if_neg (fun q => by have := e3.mp q; omega), if_pos (e2.mpr h2), if_neg h1, if_pos h2]
      rfl
    · rw [if_pos (e3.mpr (by omega)), if_neg h1, if_neg h2]
      rfl
theorem xz_lcmp (d : xl_D M pc .lcmp 1 pc2) (ha : xb a) (hb : xb b) (k : xl_W M rc rs pc2 L (xi (if a < b then -1 else if a = b then 0 else 1) :: st) h Po) : xl_W M rc rs pc L (xl b :: xl a :: st) h Po := xl_lcmp d (by rw [lg_cmp_lI ha hb]; exact k)
theorem xz_max (ha : xb a) (hb : xb b) (d : xl_Cm M pc Lib.Math.max.name Lib.Math.max.code pc2) (hw : (st.map fun v => if xl_1 v = true then 1 else 2).sum ≤ 8) (k : xl_W M rc rs pc2 L (xi (max a b) :: st) h Po) : xl_W M rc rs pc L (xi b :: xi a :: st) h Po := xl_max d hw (by
  have e : (if iI a < iI b then iI b else iI a) = iI (max a b) := by
    by_cases q : a < b
    · rw [if_pos ((iI_lt ha hb).mpr q), Int.max_def, if_pos (by omega)]
    · rw [if_neg (fun z => q ((iI_lt ha hb).mp z)), Int.max_def]
      by_cases q2 : a ≤ b
      · rw [if_pos q2, show a = b by omega]
      · rw [if_neg q2]
  rw [e]; exact k)
theorem xz_min (ha : xb a) (hb : xb b) (d : xl_Cm M pc Lib.Math.min.name Lib.Math.min.code pc2) (hw : (st.map fun v => if xl_1 v = true then 1 else 2).sum ≤ 8) (k : xl_W M rc rs pc2 L (xi (min a b) :: st) h Po) : xl_W M rc rs pc L (xi b :: xi a :: st) h Po := xl_min d hw (by
  have e : (if iI b < iI a then iI b else iI a) = iI (min a b) := by
    by_cases q : b < a
    · rw [if_pos ((iI_lt hb ha).mpr q), Int.min_def, if_neg (by omega)]
    · rw [if_neg (fun z => q ((iI_lt hb ha).mp z)), Int.min_def, if_pos (by omega)]
  rw [e]; exact k)
theorem xz_iald {r n : Nat} {g : Nat → Int} (d : xl_D M pc .iaload 1 pc2) (hh : xl_n h r = some (xA n g)) (h0 : 0 ≤ a) (h1 : a < n) (ha : xb a) (kk : xl_W M rc rs pc2 L (xi (g a.toNat) :: st) h Po) : xl_W M rc rs pc L (xi a :: .ref r :: st) h Po :=
  xl_iald d hh (iI_in ha h0 h1) (by rw [iI_nat ha]; exact kk)
theorem xz_lald {r n : Nat} {g : Nat → Int} (d : xl_D M pc .laload 1 pc2) (hh : xl_n h r = some (xL n g)) (h0 : 0 ≤ a) (h1 : a < n) (ha : xb a) (kk : xl_W M rc rs pc2 L (xl (g a.toNat) :: st) h Po) : xl_W M rc rs pc L (xi a :: .ref r :: st) h Po :=
  xl_lald d hh (iI_in ha h0 h1) (by rw [iI_nat ha]; exact kk)
theorem xz_zald {r n : Nat} {g : Nat → Int} (d : xl_D M pc .baload 1 pc2) (hh : xl_n h r = some (xZ n g)) (h0 : 0 ≤ a) (h1 : a < n) (ha : xb a) (kk : xl_W M rc rs pc2 L (xi (g a.toNat) :: st) h Po) : xl_W M rc rs pc L (xi a :: .ref r :: st) h Po :=
  xl_zald d hh (iI_in ha h0 h1) (by rw [iI_nat ha]; exact kk)
theorem xz_aald {r n q : Nat} {f : Nat → Option Nat} (d : xl_D M pc .aaload 1 pc2) (hh : xl_n h r = some (xQ n f)) (h0 : 0 ≤ a) (h1 : a < n) (ha : xb a) (hq : f a.toNat = some q) (kk : xl_W M rc rs pc2 L (.ref (r + q) :: st) h Po) : xl_W M rc rs pc L (xi a :: .ref r :: st) h Po :=
  xl_aald d hh (iI_in ha h0 h1) (by rw [iI_nat ha]; exact hq) kk
theorem xz_alen {r n : Nat} {t : Nat} {x : (Nat → Int32) ⊕ (Nat → Int64) ⊕ (Nat → UInt32) ⊕ (Nat → UInt64) ⊕ (Nat → Option Nat)} (d : xl_D M pc .arraylength 1 pc2) (hh : xl_n h r = some (.inl (t, n, x))) (ht4 : t < 4) (kk : xl_W M rc rs pc2 L (xi n :: st) h Po) : xl_W M rc rs pc L (.ref r :: st) h Po :=
  xl_alen d hh ht4 (by rw [iI_nI]; exact kk)
theorem xz_iast {r n : Nat} {g : Nat → Int} (d : xl_D M pc .iastore 1 pc2) (hh : xl_n h r = some (xA n g)) (h0 : 0 ≤ a) (h1 : a < n) (ha : xb a) (kk : xl_W M rc rs pc2 L st (xl_s h r (xA n (xup g a.toNat b))) Po) : xl_W M rc rs pc L (xi b :: xi a :: .ref r :: st) h Po :=
  xl_iast d hh (iI_in ha h0 h1) (by rw [iI_nat ha, xup_upd]; exact kk)
theorem xz_last {r n : Nat} {g : Nat → Int} (d : xl_D M pc .lastore 1 pc2) (hh : xl_n h r = some (xL n g)) (h0 : 0 ≤ a) (h1 : a < n) (ha : xb a) (kk : xl_W M rc rs pc2 L st (xl_s h r (xL n (xup g a.toNat b))) Po) : xl_W M rc rs pc L (xl b :: xi a :: .ref r :: st) h Po :=
  xl_last d hh (iI_in ha h0 h1) (by rw [iI_nat ha, xup_updL]; exact kk)
theorem xz_zast {r n : Nat} {g : Nat → Int} (d : xl_D M pc .bastore 1 pc2) (hh : xl_n h r = some (xZ n g)) (h0 : 0 ≤ a) (h1 : a < n) (ha : xb a) (hb : b = 0 ∨ b = 1) (kk : xl_W M rc rs pc2 L st (xl_s h r (xZ n (xup g a.toNat b))) Po) : xl_W M rc rs pc L (xi b :: xi a :: .ref r :: st) h Po :=
  xl_zast d hh (iI_in ha h0 h1) (by rw [iI_nat ha, show vp_nar .boolean (iI b) = iI b by rcases hb with rfl | rfl <;> decide, xup_upd]; exact kk)
theorem xz_copy {r0 r1 n0 n1 : Nat} {f g : Nat → Int} {sp dp n : Int} (d : xl_Cy M pc pc2) (hh0 : xl_n h r0 = some (xA n0 f)) (hh1 : xl_n h r1 = some (xA n1 g)) (q1 : 0 ≤ sp) (q2 : 0 ≤ dp) (q3 : 0 ≤ n) (q4 : sp + n ≤ n0) (q5 : dp + n ≤ n1) (hb : n0 ≤ 2147483647 ∧ n1 ≤ 2147483647) (hw : (st.map fun v => if xl_1 v = true then 1 else 2).sum ≤ 8)
    (kk : xl_W M rc rs pc2 L st (xl_s h r1 (xA n1 (xcp f g sp.toNat dp.toNat n.toNat))) Po) : xl_W M rc rs pc L (xi n :: xi dp :: .ref r1 :: xi sp :: .ref r0 :: st) h Po := by
  have b1 : xb sp := ⟨by omega, by omega⟩
  have b2 : xb dp := ⟨by omega, by omega⟩
  have b3 : xb n := ⟨by omega, by omega⟩
  refine xl_copy d hh0 hh1 (by rw [iI_lt0 b1]; omega) (by rw [iI_lt0 b2]; omega) (by rw [iI_lt0 b3]; omega) (by rw [iI_nat b1, iI_nat b3]; omega) (by rw [iI_nat b2, iI_nat b3]; omega) hw ?_
  rw [iI_nat b1, iI_nat b2, iI_nat b3, xcp_cpy]
  exact kk
theorem xz_if_eq (d : xl_J M pc (fun o => .ifCond .eq o) pc2 tgt) (ha : xb a) (kt : a = 0 → xl_W M rc rs tgt L st h Po) (kf : ¬ a = 0 → xl_W M rc rs pc2 L st h Po) : xl_W M rc rs pc L (xi a :: st) h Po := xl_if_eq d (fun q => kt ((iI_eq0 ha).mp q)) (fun q => kf (fun z => q ((iI_eq0 ha).mpr z)))
theorem xz_icmp_eq (d : xl_J M pc (fun o => .if_icmp .eq o) pc2 tgt) (ha : xb a) (hb : xb b) (kt : a = b → xl_W M rc rs tgt L st h Po) (kf : ¬ a = b → xl_W M rc rs pc2 L st h Po) : xl_W M rc rs pc L (xi b :: xi a :: st) h Po := xl_icmp_eq d (fun q => kt ((iI_eq ha hb).mp q)) (fun q => kf (fun z => q ((iI_eq ha hb).mpr z)))
theorem xz_if_ne (d : xl_J M pc (fun o => .ifCond .ne o) pc2 tgt) (ha : xb a) (kt : ¬ a = 0 → xl_W M rc rs tgt L st h Po) (kf : a = 0 → xl_W M rc rs pc2 L st h Po) : xl_W M rc rs pc L (xi a :: st) h Po := xl_if_ne d (fun q => kt (fun z => q ((iI_eq0 ha).mpr z))) (fun q => kf ((iI_eq0 ha).mp q))
theorem xz_icmp_ne (d : xl_J M pc (fun o => .if_icmp .ne o) pc2 tgt) (ha : xb a) (hb : xb b) (kt : ¬ a = b → xl_W M rc rs tgt L st h Po) (kf : a = b → xl_W M rc rs pc2 L st h Po) : xl_W M rc rs pc L (xi b :: xi a :: st) h Po := xl_icmp_ne d (fun q => kt (fun z => q ((iI_eq ha hb).mpr z))) (fun q => kf ((iI_eq ha hb).mp q))
theorem xz_if_lt (d : xl_J M pc (fun o => .ifCond .lt o) pc2 tgt) (ha : xb a) (kt : a < 0 → xl_W M rc rs tgt L st h Po) (kf : ¬ a < 0 → xl_W M rc rs pc2 L st h Po) : xl_W M rc rs pc L (xi a :: st) h Po := xl_if_lt d (fun q => kt ((iI_lt0 ha).mp q)) (fun q => kf (fun z => q ((iI_lt0 ha).mpr z)))
theorem xz_icmp_lt (d : xl_J M pc (fun o => .if_icmp .lt o) pc2 tgt) (ha : xb a) (hb : xb b) (kt : a < b → xl_W M rc rs tgt L st h Po) (kf : ¬ a < b → xl_W M rc rs pc2 L st h Po) : xl_W M rc rs pc L (xi b :: xi a :: st) h Po := xl_icmp_lt d (fun q => kt ((iI_lt ha hb).mp q)) (fun q => kf (fun z => q ((iI_lt ha hb).mpr z)))
theorem xz_if_ge (d : xl_J M pc (fun o => .ifCond .ge o) pc2 tgt) (ha : xb a) (kt : 0 ≤ a → xl_W M rc rs tgt L st h Po) (kf : ¬ 0 ≤ a → xl_W M rc rs pc2 L st h Po) : xl_W M rc rs pc L (xi a :: st) h Po := xl_if_ge d (fun q => kt ((iI_0le ha).mp q)) (fun q => kf (fun z => q ((iI_0le ha).mpr z)))
theorem xz_icmp_ge (d : xl_J M pc (fun o => .if_icmp .ge o) pc2 tgt) (ha : xb a) (hb : xb b) (kt : b ≤ a → xl_W M rc rs tgt L st h Po) (kf : ¬ b ≤ a → xl_W M rc rs pc2 L st h Po) : xl_W M rc rs pc L (xi b :: xi a :: st) h Po := xl_icmp_ge d (fun q => kt ((iI_le hb ha).mp q)) (fun q => kf (fun z => q ((iI_le hb ha).mpr z)))
theorem xz_if_gt (d : xl_J M pc (fun o => .ifCond .gt o) pc2 tgt) (ha : xb a) (kt : 0 < a → xl_W M rc rs tgt L st h Po) (kf : ¬ 0 < a → xl_W M rc rs pc2 L st h Po) : xl_W M rc rs pc L (xi a :: st) h Po := xl_if_gt d (fun q => kt ((iI_0lt ha).mp q)) (fun q => kf (fun z => q ((iI_0lt ha).mpr z)))
theorem xz_icmp_gt (d : xl_J M pc (fun o => .if_icmp .gt o) pc2 tgt) (ha : xb a) (hb : xb b) (kt : b < a → xl_W M rc rs tgt L st h Po) (kf : ¬ b < a → xl_W M rc rs pc2 L st h Po) : xl_W M rc rs pc L (xi b :: xi a :: st) h Po := xl_icmp_gt d (fun q => kt ((iI_lt hb ha).mp q)) (fun q => kf (fun z => q ((iI_lt hb ha).mpr z)))
theorem xz_if_le (d : xl_J M pc (fun o => .ifCond .le o) pc2 tgt) (ha : xb a) (kt : a ≤ 0 → xl_W M rc rs tgt L st h Po) (kf : ¬ a ≤ 0 → xl_W M rc rs pc2 L st h Po) : xl_W M rc rs pc L (xi a :: st) h Po := xl_if_le d (fun q => kt ((iI_le0 ha).mp q)) (fun q => kf (fun z => q ((iI_le0 ha).mpr z)))
theorem xz_icmp_le (d : xl_J M pc (fun o => .if_icmp .le o) pc2 tgt) (ha : xb a) (hb : xb b) (kt : a ≤ b → xl_W M rc rs tgt L st h Po) (kf : ¬ a ≤ b → xl_W M rc rs pc2 L st h Po) : xl_W M rc rs pc L (xi b :: xi a :: st) h Po := xl_icmp_le d (fun q => kt ((iI_le ha hb).mp q)) (fun q => kf (fun z => q ((iI_le ha hb).mpr z)))
end XZ
end
section
/-! ===== stores, increments and fields by their places ===== -/
section XY
variable {M : XI} {rc rs pc pc2 tgt : Nat} {L T : List (Option Value)} {st : List Value} {h : XH} {Po : Option (Option Value) → XH → Prop} {a b : Int}
theorem xy_is0 {a : Int32} {x0 : Option Value} (d : xl_D M pc (.istore_n 0) 1 pc2) (hk : xl_k (x0 :: T) 0 = true) (hn : 0 < M.2.2.1) (kk : xl_W M rc rs pc2 (some (.int a) :: T) st h Po) : xl_W M rc rs pc (x0 :: T) (.int a :: st) h Po := xl_istore_n d hk hn kk
theorem xy_as0 {a : Nat} {x0 : Option Value} (d : xl_D M pc (.astore_n 0) 1 pc2) (hk : xl_k (x0 :: T) 0 = true) (hn : 0 < M.2.2.1) (kk : xl_W M rc rs pc2 (some (.ref a) :: T) st h Po) : xl_W M rc rs pc (x0 :: T) (.ref a :: st) h Po := xl_astore_n d hk hn kk
theorem xy_ss0 {a : UInt32} {x0 : Option Value} (d : xl_D M pc (.astore_n 0) 1 pc2) (hk : xl_k (x0 :: T) 0 = true) (hn : 0 < M.2.2.1) (kk : xl_W M rc rs pc2 (some (.float a) :: T) st h Po) : xl_W M rc rs pc (x0 :: T) (.float a :: st) h Po := xl_sastore_n d hk hn kk
theorem xy_ii0 {n : Int} (d : xl_D M pc (.iinc 0 n) 3 pc2) (hk : xl_k (some (xi a) :: T) 0 = true) (hn : 0 < M.2.2.1) (kk : xl_W M rc rs pc2 (some (xi (a + n)) :: T) st h Po) : xl_W M rc rs pc (some (xi a) :: T) st h Po := xz_iinc d (by rfl) hk hn kk
theorem xy_is1 {a : Int32} {x0 x1 : Option Value} (d : xl_D M pc (.istore_n 1) 1 pc2) (hk : xl_k (x0 :: x1 :: T) 1 = true) (hn : 1 < M.2.2.1) (kk : xl_W M rc rs pc2 (x0 :: some (.int a) :: T) st h Po) : xl_W M rc rs pc (x0 :: x1 :: T) (.int a :: st) h Po := xl_istore_n d hk hn kk
theorem xy_as1 {a : Nat} {x0 x1 : Option Value} (d : xl_D M pc (.astore_n 1) 1 pc2) (hk : xl_k (x0 :: x1 :: T) 1 = true) (hn : 1 < M.2.2.1) (kk : xl_W M rc rs pc2 (x0 :: some (.ref a) :: T) st h Po) : xl_W M rc rs pc (x0 :: x1 :: T) (.ref a :: st) h Po := xl_astore_n d hk hn kk
theorem xy_ss1 {a : UInt32} {x0 x1 : Option Value} (d : xl_D M pc (.astore_n 1) 1 pc2) (hk : xl_k (x0 :: x1 :: T) 1 = true) (hn : 1 < M.2.2.1) (kk : xl_W M rc rs pc2 (x0 :: some (.float a) :: T) st h Po) : xl_W M rc rs pc (x0 :: x1 :: T) (.float a :: st) h Po := xl_sastore_n d hk hn kk
theorem xy_ii1 {x0 : Option Value} {n : Int} (d : xl_D M pc (.iinc 1 n) 3 pc2) (hk : xl_k (x0 :: some (xi a) :: T) 1 = true) (hn : 1 < M.2.2.1) (kk : xl_W M rc rs pc2 (x0 :: some (xi (a + n)) :: T) st h Po) : xl_W M rc rs pc (x0 :: some (xi a) :: T) st h Po := xz_iinc d (by rfl) hk hn kk
theorem xy_is2 {a : Int32} {x0 x1 x2 : Option Value} (d : xl_D M pc (.istore_n 2) 1 pc2) (hk : xl_k (x0 :: x1 :: x2 :: T) 2 = true) (hn : 2 < M.2.2.1) (kk : xl_W M rc rs pc2 (x0 :: x1 :: some (.int a) :: T) st h Po) : xl_W M rc rs pc (x0 :: x1 :: x2 :: T) (.int a :: st) h Po := xl_istore_n d hk hn kk
theorem xy_as2 {a : Nat} {x0 x1 x2 : Option Value} (d : xl_D M pc (.astore_n 2) 1 pc2) (hk : xl_k (x0 :: x1 :: x2 :: T) 2 = true) (hn : 2 < M.2.2.1) (kk : xl_W M rc rs pc2 (x0 :: x1 :: some (.ref a) :: T) st h Po) : xl_W M rc rs pc (x0 :: x1 :: x2 :: T) (.ref a :: st) h Po := xl_astore_n d hk hn kk
theorem xy_ss2 {a : UInt32} {x0 x1 x2 : Option Value} (d : xl_D M pc (.astore_n 2) 1 pc2) (hk : xl_k (x0 :: x1 :: x2 :: T) 2 = true) (hn : 2 < M.2.2.1) (kk : xl_W M rc rs pc2 (x0 :: x1 :: some (.float a) :: T) st h Po) : xl_W M rc rs pc (x0 :: x1 :: x2 :: T) (.float a :: st) h Po := xl_sastore_n d hk hn kk
theorem xy_ii2 {x0 x1 : Option Value} {n : Int} (d : xl_D M pc (.iinc 2 n) 3 pc2) (hk : xl_k (x0 :: x1 :: some (xi a) :: T) 2 = true) (hn : 2 < M.2.2.1) (kk : xl_W M rc rs pc2 (x0 :: x1 :: some (xi (a + n)) :: T) st h Po) : xl_W M rc rs pc (x0 :: x1 :: some (xi a) :: T) st h Po := xz_iinc d (by rfl) hk hn kk
theorem xy_is3 {a : Int32} {x0 x1 x2 x3 : Option Value} (d : xl_D M pc (.istore_n 3) 1 pc2) (hk : xl_k (x0 :: x1 :: x2 :: x3 :: T) 3 = true) (hn : 3 < M.2.2.1) (kk : xl_W M rc rs pc2 (x0 :: x1 :: x2 :: some (.int a) :: T) st h Po) : xl_W M rc rs pc (x0 :: x1 :: x2 :: x3 :: T) (.int a :: st) h Po := xl_istore_n d hk hn kk
theorem xy_as3 {a : Nat} {x0 x1 x2 x3 : Option Value} (d : xl_D M pc (.astore_n 3) 1 pc2) (hk : xl_k (x0 :: x1 :: x2 :: x3 :: T) 3 = true) (hn : 3 < M.2.2.1) (kk : xl_W M rc rs pc2 (x0 :: x1 :: x2 :: some (.ref a) :: T) st h Po) : xl_W M rc rs pc (x0 :: x1 :: x2 :: x3 :: T) (.ref a :: st) h Po := xl_astore_n d hk hn kk
theorem xy_ss3 {a : UInt32} {x0 x1 x2 x3 : Option Value} (d : xl_D M pc (.astore_n 3) 1 pc2) (hk : xl_k (x0 :: x1 :: x2 :: x3 :: T) 3 = true) (hn : 3 < M.2.2.1) (kk : xl_W M rc rs pc2 (x0 :: x1 :: x2 :: some (.float a) :: T) st h Po) : xl_W M rc rs pc (x0 :: x1 :: x2 :: x3 :: T) (.float a :: st) h Po := xl_sastore_n d hk hn kk
theorem xy_ii3 {x0 x1 x2 : Option Value} {n : Int} (d : xl_D M pc (.iinc 3 n) 3 pc2) (hk : xl_k (x0 :: x1 :: x2 :: some (xi a) :: T) 3 = true) (hn : 3 < M.2.2.1) (kk : xl_W M rc rs pc2 (x0 :: x1 :: x2 :: some (xi (a + n)) :: T) st h Po) : xl_W M rc rs pc (x0 :: x1 :: x2 :: some (xi a) :: T) st h Po := xz_iinc d (by rfl) hk hn kk
theorem xy_is4 {a : Int32} {x0 x1 x2 x3 x4 : Option Value} (d : xl_D M pc (.istore 4) 2 pc2) (hk : xl_k (x0 :: x1 :: x2 :: x3 :: x4 :: T) 4 = true) (hn : 4 < M.2.2.1) (kk : xl_W M rc rs pc2 (x0 :: x1 :: x2 :: x3 :: some (.int a) :: T) st h Po) : xl_W M rc rs pc (x0 :: x1 :: x2 :: x3 :: x4 :: T) (.int a :: st) h Po := xl_istore d hk hn kk
theorem xy_as4 {a : Nat} {x0 x1 x2 x3 x4 : Option Value} (d : xl_D M pc (.astore 4) 2 pc2) (hk : xl_k (x0 :: x1 :: x2 :: x3 :: x4 :: T) 4 = true) (hn : 4 < M.2.2.1) (kk : xl_W M rc rs pc2 (x0 :: x1 :: x2 :: x3 :: some (.ref a) :: T) st h Po) : xl_W M rc rs pc (x0 :: x1 :: x2 :: x3 :: x4 :: T) (.ref a :: st) h Po := xl_astore d hk hn kk
theorem xy_ss4 {a : UInt32} {x0 x1 x2 x3 x4 : Option Value} (d : xl_D M pc (.astore 4) 2 pc2) (hk : xl_k (x0 :: x1 :: x2 :: x3 :: x4 :: T) 4 = true) (hn : 4 < M.2.2.1) (kk : xl_W M rc rs pc2 (x0 :: x1 :: x2 :: x3 :: some (.float a) :: T) st h Po) : xl_W M rc rs pc (x0 :: x1 :: x2 :: x3 :: x4 :: T) (.float a :: st) h Po := xl_sastore d hk hn kk
theorem xy_ii4 {x0 x1 x2 x3 : Option Value} {n : Int} (d : xl_D M pc (.iinc 4 n) 3 pc2) (hk : xl_k (x0 :: x1 :: x2 :: x3 :: some (xi a) :: T) 4 = true) (hn : 4 < M.2.2.1) (kk : xl_W M rc rs pc2 (x0 :: x1 :: x2 :: x3 :: some (xi (a + n)) :: T) st h Po) : xl_W M rc rs pc (x0 :: x1 :: x2 :: x3 :: some (xi a) :: T) st h Po := xz_iinc d (by rfl) hk hn kk
theorem xy_is5 {a : Int32} {x0 x1 x2 x3 x4 x5 : Option Value} (d : xl_D M pc (.istore 5) 2 pc2) (hk : xl_k (x0 :: x1 :: x2 :: x3 :: x4 :: x5 :: T) 5 = true) (hn : 5 < M.2.2.1) (kk : xl_W M rc rs pc2 (x0 :: x1 :: x2 :: x3 :: x4 :: some (.int a) :: T) st h Po) : xl_W M rc rs pc (x0 :: x1 :: x2 :: x3 :: x4 :: x5 :: T) (.int a :: st) h Po := xl_istore d hk hn kk
theorem xy_as5 {a : Nat} {x0 x1 x2 x3 x4 x5 : Option Value} (d : xl_D M pc (.astore 5) 2 pc2) (hk : xl_k (x0 :: x1 :: x2 :: x3 :: x4 :: x5 :: T) 5 = true) (hn : 5 < M.2.2.1) (kk : xl_W M rc rs pc2 (x0 :: x1 :: x2 :: x3 :: x4 :: some (.ref a) :: T) st h Po) : xl_W M rc rs pc (x0 :: x1 :: x2 :: x3 :: x4 :: x5 :: T) (.ref a :: st) h Po := xl_astore d hk hn kk
theorem xy_ss5 {a : UInt32} {x0 x1 x2 x3 x4 x5 : Option Value} (d : xl_D M pc (.astore 5) 2 pc2) (hk : xl_k (x0 :: x1 :: x2 :: x3 :: x4 :: x5 :: T) 5 = true) (hn : 5 < M.2.2.1) (kk : xl_W M rc rs pc2 (x0 :: x1 :: x2 :: x3 :: x4 :: some (.float a) :: T) st h Po) : xl_W M rc rs pc (x0 :: x1 :: x2 :: x3 :: x4 :: x5 :: T) (.float a :: st) h Po := xl_sastore d hk hn kk
theorem xy_ii5 {x0 x1 x2 x3 x4 : Option Value} {n : Int} (d : xl_D M pc (.iinc 5 n) 3 pc2) (hk : xl_k (x0 :: x1 :: x2 :: x3 :: x4 :: some (xi a) :: T) 5 = true) (hn : 5 < M.2.2.1) (kk : xl_W M rc rs pc2 (x0 :: x1 :: x2 :: x3 :: x4 :: some (xi (a + n)) :: T) st h Po) : xl_W M rc rs pc (x0 :: x1 :: x2 :: x3 :: x4 :: some (xi a) :: T) st h Po := xz_iinc d (by rfl) hk hn kk
theorem xy_is6 {a : Int32} {x0 x1 x2 x3 x4 x5 x6 : Option Value} (d : xl_D M pc (.istore 6) 2 pc2) (hk : xl_k (x0 :: x1 :: x2 :: x3 :: x4 :: x5 :: x6 :: T) 6 = true) (hn : 6 < M.2.2.1) (kk : xl_W M rc rs pc2 (x0 :: x1 :: x2 :: x3 :: x4 :: x5 :: some (.int a) :: T) st h Po) : xl_W M rc rs pc (x0 :: x1 :: x2 :: x3 :: x4 :: x5 :: x6 :: T) (.int a :: st) h Po := xl_istore d hk hn kk
theorem xy_as6 {a : Nat} {x0 x1 x2 x3 x4 x5 x6 : Option Value} (d : xl_D M pc (.astore 6) 2 pc2) (hk : xl_k (x0 :: x1 :: x2 :: x3 :: x4 :: x5 :: x6 :: T) 6 = true) (hn : 6 < M.2.2.1) (kk : xl_W M rc rs pc2 (x0 :: x1 :: x2 :: x3 :: x4 :: x5 :: some (.ref a) :: T) st h Po) : xl_W M rc rs pc (x0 :: x1 :: x2 :: x3 :: x4 :: x5 :: x6 :: T) (.ref a :: st) h Po := xl_astore d hk hn kk
theorem xy_ss6 {a : UInt32} {x0 x1 x2 x3 x4 x5 x6 : Option Value} (d : xl_D M pc (.astore 6) 2 pc2) (hk : xl_k (x0 :: x1 :: x2 :: x3 :: x4 :: x5 :: x6 :: T) 6 = true) (hn : 6 < M.2.2.1) (kk : xl_W M rc rs pc2 (x0 :: x1 :: x2 :: x3 :: x4 :: x5 :: some (.float a) :: T) st h Po) : xl_W M rc rs pc (x0 :: x1 :: x2 :: x3 :: x4 :: x5 :: x6 :: T) (.float a :: st) h Po := xl_sastore d hk hn kk
theorem xy_ii6 {x0 x1 x2 x3 x4 x5 : Option Value} {n : Int} (d : xl_D M pc (.iinc 6 n) 3 pc2) (hk : xl_k (x0 :: x1 :: x2 :: x3 :: x4 :: x5 :: some (xi a) :: T) 6 = true) (hn : 6 < M.2.2.1) (kk : xl_W M rc rs pc2 (x0 :: x1 :: x2 :: x3 :: x4 :: x5 :: some (xi (a + n)) :: T) st h Po) : xl_W M rc rs pc (x0 :: x1 :: x2 :: x3 :: x4 :: x5 :: some (xi a) :: T) st h Po := xz_iinc d (by rfl) hk hn kk
theorem xy_is7 {a : Int32} {x0 x1 x2 x3 x4 x5 x6 x7 : Option Value} (d : xl_D M pc (.istore 7) 2 pc2) (hk : xl_k (x0 :: x1 :: x2 :: x3 :: x4 :: x5 :: x6 :: x7 :: T) 7 = true) (hn : 7 < M.2.2.1) (kk : xl_W M rc rs pc2 (x0 :: x1 :: x2 :: x3 :: x4 :: x5 :: x6 :: some (.int a) :: T) st h Po) : xl_W M rc rs pc (x0 :: x1 :: x2 :: x3 :: x4 :: x5 :: x6 :: x7 :: T) (.int a :: st) h Po := xl_istore d hk hn kk
theorem xy_as7 {a : Nat} {x0 x1 x2 x3 x4 x5 x6 x7 : Option Value} (d : xl_D M pc (.astore 7) 2 pc2) (hk : xl_k (x0 :: x1 :: x2 :: x3 :: x4 :: x5 :: x6 :: x7 :: T) 7 = true) (hn : 7 < M.2.2.1) (kk : xl_W M rc rs pc2 (x0 :: x1 :: x2 :: x3 :: x4 :: x5 :: x6 :: some (.ref a) :: T) st h Po) : xl_W M rc rs pc (x0 :: x1 :: x2 :: x3 :: x4 :: x5 :: x6 :: x7 :: T) (.ref a :: st) h Po := xl_astore d hk hn kk
theorem xy_ss7 {a : UInt32} {x0 x1 x2 x3 x4 x5 x6 x7 : Option Value} (d : xl_D M pc (.astore 7) 2 pc2) (hk : xl_k (x0 :: x1 :: x2 :: x3 :: x4 :: x5 :: x6 :: x7 :: T) 7 = true) (hn : 7 < M.2.2.1) (kk : xl_W M rc rs pc2 (x0 :: x1 :: x2 :: x3 :: x4 :: x5 :: x6 :: some (.float a) :: T) st h Po) : xl_W M rc rs pc (x0 :: x1 :: x2 :: x3 :: x4 :: x5 :: x6 :: x7 :: T) (.float a :: st) h Po := xl_sastore d hk hn kk
theorem xy_ii7 {x0 x1 x2 x3 x4 x5 x6 : Option Value} {n : Int} (d : xl_D M pc (.iinc 7 n) 3 pc2) (hk : xl_k (x0 :: x1 :: x2 :: x3 :: x4 :: x5 :: x6 :: some (xi a) :: T) 7 = true) (hn : 7 < M.2.2.1) (kk : xl_W M rc rs pc2 (x0 :: x1 :: x2 :: x3 :: x4 :: x5 :: x6 :: some (xi (a + n)) :: T) st h Po) : xl_W M rc rs pc (x0 :: x1 :: x2 :: x3 :: x4 :: x5 :: x6 :: some (xi a) :: T) st h Po := xz_iinc d (by rfl) hk hn kk
theorem xy_is8 {a : Int32} {x0 x1 x2 x3 x4 x5 x6 x7 x8 : Option Value} (d : xl_D M pc (.istore 8) 2 pc2) (hk : xl_k (x0 :: x1 :: x2 :: x3 :: x4 :: x5 :: x6 :: x7 :: x8 :: T) 8 = true) (hn : 8 < M.2.2.1) (kk : xl_W M rc rs pc2 (x0 :: x1 :: x2 :: x3 :: x4 :: x5 :: x6 :: x7 :: some (.int a) :: T) st h Po) : xl_W M rc rs pc (x0 :: x1 :: x2 :: x3 :: x4 :: x5 :: x6 :: x7 :: x8 :: T) (.int a :: st) h Po := xl_istore d hk hn kk
theorem xy_as8 {a : Nat} {x0 x1 x2 x3 x4 x5 x6 x7 x8 : Option Value} (d : xl_D M pc (.astore 8) 2 pc2) (hk : xl_k (x0 :: x1 :: x2 :: x3 :: x4 :: x5 :: x6 :: x7 :: x8 :: T) 8 = true) (hn : 8 < M.2.2.1) (kk : xl_W M rc rs pc2 (x0 :: x1 :: x2 :: x3 :: x4 :: x5 :: x6 :: x7 :: some (.ref a) :: T) st h Po) : xl_W M rc rs pc (x0 :: x1 :: x2 :: x3 :: x4 :: x5 :: x6 :: x7 :: x8 :: T) (.ref a :: st) h Po := xl_astore d hk hn kk
theorem xy_ss8 {a : UInt32} {x0 x1 x2 x3 x4 x5 x6 x7 x8 : Option Value} (d : xl_D M pc (.astore 8) 2 pc2) (hk : xl_k (x0 :: x1 :: x2 :: x3 :: x4 :: x5 :: x6 :: x7 :: x8 :: T) 8 = true) (hn : 8 < M.2.2.1) (kk : xl_W M rc rs pc2 (x0 :: x1 :: x2 :: x3 :: x4 :: x5 :: x6 :: x7 :: some (.float a) :: T) st h Po) : xl_W M rc rs pc (x0 :: x1 :: x2 :: x3 :: x4 :: x5 :: x6 :: x7 :: x8 :: T) (.float a :: st) h Po := xl_sastore d hk hn kk
theorem xy_ii8 {x0 x1 x2 x3 x4 x5 x6 x7 : Option Value} {n : Int} (d : xl_D M pc (.iinc 8 n) 3 pc2) (hk : xl_k (x0 :: x1 :: x2 :: x3 :: x4 :: x5 :: x6 :: x7 :: some (xi a) :: T) 8 = true) (hn : 8 < M.2.2.1) (kk : xl_W M rc rs pc2 (x0 :: x1 :: x2 :: x3 :: x4 :: x5 :: x6 :: x7 :: some (xi (a + n)) :: T) st h Po) : xl_W M rc rs pc (x0 :: x1 :: x2 :: x3 :: x4 :: x5 :: x6 :: x7 :: some (xi a) :: T) st h Po := xz_iinc d (by rfl) hk hn kk
theorem xy_is9 {a : Int32} {x0 x1 x2 x3 x4 x5 x6 x7 x8 x9 : Option Value} (d : xl_D M pc (.istore 9) 2 pc2) (hk : xl_k (x0 :: x1 :: x2 :: x3 :: x4 :: x5 :: x6 :: x7 :: x8 :: x9 :: T) 9 = true) (hn : 9 < M.2.2.1) (kk : xl_W M rc rs pc2 (x0 :: x1 :: x2 :: x3 :: x4 :: x5 :: x6 :: x7 :: x8 :: some (.int a) :: T) st h Po) : xl_W M rc rs pc (x0 :: x1 :: x2 :: x3 :: x4 :: x5 :: x6 :: x7 :: x8 :: x9 :: T) (.int a :: st) h Po := xl_istore d hk hn kk
theorem xy_as9 {a : Nat} {x0 x1 x2 x3 x4 x5 x6 x7 x8 x9 : Option Value} (d : xl_D M pc (.astore 9) 2 pc2) (hk : xl_k (x0 :: x1 :: x2 :: x3 :: x4 :: x5 :: x6 :: x7 :: x8 :: x9 :: T) 9 = true) (hn : 9 < M.2.2.1) (kk : xl_W M rc rs pc2 (x0 :: x1 :: x2 :: x3 :: x4 :: x5 :: x6 :: x7 :: x8 :: some (.ref a) :: T) st h Po) : xl_W M rc rs pc (x0 :: x1 :: x2 :: x3 :: x4 :: x5 :: x6 :: x7 :: x8 :: x9 :: T) (.ref a :: st) h Po := xl_astore d hk hn kk
theorem xy_ss9 {a : UInt32} {x0 x1 x2 x3 x4 x5 x6 x7 x8 x9 : Option Value} (d : xl_D M pc (.astore 9) 2 pc2) (hk : xl_k (x0 :: x1 :: x2 :: x3 :: x4 :: x5 :: x6 :: x7 :: x8 :: x9 :: T) 9 = true) (hn : 9 < M.2.2.1) (kk : xl_W M rc rs pc2 (x0 :: x1 :: x2 :: x3 :: x4 :: x5 :: x6 :: x7 :: x8 :: some (.float a) :: T) st h Po) : xl_W M rc rs pc (x0 :: x1 :: x2 :: x3 :: x4 :: x5 :: x6 :: x7 :: x8 :: x9 :: T) (.float a :: st) h Po := xl_sastore d hk hn kk
theorem xy_ii9 {x0 x1 x2 x3 x4 x5 x6 x7 x8 : Option Value} {n : Int} (d : xl_D M pc (.iinc 9 n) 3 pc2) (hk : xl_k (x0 :: x1 :: x2 :: x3 :: x4 :: x5 :: x6 :: x7 :: x8 :: some (xi a) :: T) 9 = true) (hn : 9 < M.2.2.1) (kk : xl_W M rc rs pc2 (x0 :: x1 :: x2 :: x3 :: x4 :: x5 :: x6 :: x7 :: x8 :: some (xi (a + n)) :: T) st h Po) : xl_W M rc rs pc (x0 :: x1 :: x2 :: x3 :: x4 :: x5 :: x6 :: x7 :: x8 :: some (xi a) :: T) st h Po := xz_iinc d (by rfl) hk hn kk
theorem xy_is10 {a : Int32} {x0 x1 x2 x3 x4 x5 x6 x7 x8 x9 x10 : Option Value} (d : xl_D M pc (.istore 10) 2 pc2) (hk : xl_k (x0 :: x1 :: x2 :: x3 :: x4 :: x5 :: x6 :: x7 :: x8 :: x9 :: x10 :: T) 10 = true) (hn : 10 < M.2.2.1) (kk : xl_W M rc rs pc2 (x0 :: x1 :: x2 :: x3 :: x4 :: x5 :: x6 :: x7 :: x8 :: x9 :: some (.int a) :: T) st h Po) : xl_W M rc rs pc (x0 :: x1 :: x2 :: x3 :: x4 :: x5 :: x6 :: x7 :: x8 :: x9 :: x10 :: T) (.int a :: st) h Po := xl_istore d hk hn kk
theorem xy_as10 {a : Nat} {x0 x1 x2 x3 x4 x5 x6 x7 x8 x9 x10 : Option Value} (d : xl_D M pc (.astore 10) 2 pc2) (hk : xl_k (x0 :: x1 :: x2 :: x3 :: x4 :: x5 :: x6 :: x7 :: x8 :: x9 :: x10 :: T) 10 = true) (hn : 10 < M.2.2.1) (kk : xl_W M rc rs pc2 (x0 :: x1 :: x2 :: x3 :: x4 :: x5 :: x6 :: x7 :: x8 :: x9 :: some (.ref a) :: T) st h Po) : xl_W M rc rs pc (x0 :: x1 :: x2 :: x3 :: x4 :: x5 :: x6 :: x7 :: x8 :: x9 :: x10 :: T) (.ref a :: st) h Po := xl_astore d hk hn kk
theorem xy_ss10 {a : UInt32} {x0 x1 x2 x3 x4 x5 x6 x7 x8 x9 x10 : Option Value} (d : xl_D M pc (.astore 10) 2 pc2) (hk : xl_k (x0 :: x1 :: x2 :: x3 :: x4 :: x5 :: x6 :: x7 :: x8 :: x9 :: x10 :: T) 10 = true) (hn : 10 < M.2.2.1) (kk : xl_W M rc rs pc2 (x0 :: x1 :: x2 :: x3 :: x4 :: x5 :: x6 :: x7 :: x8 :: x9 :: some (.float a) :: T) st h Po) : xl_W M rc rs pc (x0 :: x1 :: x2 :: x3 :: x4 :: x5 :: x6 :: x7 :: x8 :: x9 :: x10 :: T) (.float a :: st) h Po := xl_sastore d hk hn kk
theorem xy_ii10 {x0 x1 x2 x3 x4 x5 x6 x7 x8 x9 : Option Value} {n : Int} (d : xl_D M pc (.iinc 10 n) 3 pc2) (hk : xl_k (x0 :: x1 :: x2 :: x3 :: x4 :: x5 :: x6 :: x7 :: x8 :: x9 :: some (xi a) :: T) 10 = true) (hn : 10 < M.2.2.1) (kk : xl_W M rc rs pc2 (x0 :: x1 :: x2 :: x3 :: x4 :: x5 :: x6 :: x7 :: x8 :: x9 :: some (xi (a + n)) :: T) st h Po) : xl_W M rc rs pc (x0 :: x1 :: x2 :: x3 :: x4 :: x5 :: x6 :: x7 :: x8 :: x9 :: some (xi a) :: T) st h Po := xz_iinc d (by rfl) hk hn kk
theorem xy_is11 {a : Int32} {x0 x1 x2 x3 x4 x5 x6 x7 x8 x9 x10 x11 : Option Value} (d : xl_D M pc (.istore 11) 2 pc2) (hk : xl_k (x0 :: x1 :: x2 :: x3 :: x4 :: x5 :: x6 :: x7 :: x8 :: x9 :: x10 :: x11 :: T) 11 = true) (hn : 11 < M.2.2.1) (kk : xl_W M rc rs pc2 (x0 :: x1 :: x2 :: x3 :: x4 :: x5 :: x6 :: x7 :: x8 :: x9 :: x10 :: some (.int a) :: T) st h Po) : xl_W M rc rs pc (x0 :: x1 :: x2 :: x3 :: x4 :: x5 :: x6 :: x7 :: x8 :: x9 :: x10 :: x11 :: T) (.int a :: st) h Po := xl_istore d hk hn kk
theorem xy_as11 {a : Nat} {x0 x1 x2 x3 x4 x5 x6 x7 x8 x9 x10 x11 : Option Value} (d : xl_D M pc (.astore 11) 2 pc2) (hk : xl_k (x0 :: x1 :: x2 :: x3 :: x4 :: x5 :: x6 :: x7 :: x8 :: x9 :: x10 :: x11 :: T) 11 = true) (hn : 11 < M.2.2.1) (kk : xl_W M rc rs pc2 (x0 :: x1 :: x2 :: x3 :: x4 :: x5 :: x6 :: x7 :: x8 :: x9 :: x10 :: some (.ref a) :: T) st h Po) : xl_W M rc rs pc (x0 :: x1 :: x2 :: x3 :: x4 :: x5 :: x6 :: x7 :: x8 :: x9 :: x10 :: x11 :: T) (.ref a :: st) h Po := xl_astore d hk hn kk
theorem xy_ss11 {a : UInt32} {x0 x1 x2 x3 x4 x5 x6 x7 x8 x9 x10 x11 : Option Value} (d : xl_D M pc (.astore 11) 2 pc2) (hk : xl_k (x0 :: x1 :: x2 :: x3 :: x4 :: x5 :: x6 :: x7 :: x8 :: x9 :: x10 :: x11 :: T) 11 = true) (hn : 11 < M.2.2.1) (kk : xl_W M rc rs pc2 (x0 :: x1 :: x2 :: x3 :: x4 :: x5 :: x6 :: x7 :: x8 :: x9 :: x10 :: some (.float a) :: T) st h Po) : xl_W M rc rs pc (x0 :: x1 :: x2 :: x3 :: x4 :: x5 :: x6 :: x7 :: x8 :: x9 :: x10 :: x11 :: T) (.float a :: st) h Po := xl_sastore d hk hn kk
theorem xy_ii11 {x0 x1 x2 x3 x4 x5 x6 x7 x8 x9 x10 : Option Value} {n : Int} (d : xl_D M pc (.iinc 11 n) 3 pc2) (hk : xl_k (x0 :: x1 :: x2 :: x3 :: x4 :: x5 :: x6 :: x7 :: x8 :: x9 :: x10 :: some (xi a) :: T) 11 = true) (hn : 11 < M.2.2.1) (kk : xl_W M rc rs pc2 (x0 :: x1 :: x2 :: x3 :: x4 :: x5 :: x6 :: x7 :: x8 :: x9 :: x10 :: some (xi (a + n)) :: T) st h Po) : xl_W M rc rs pc (x0 :: x1 :: x2 :: x3 :: x4 :: x5 :: x6 :: x7 :: x8 :: x9 :: x10 :: some (xi a) :: T) st h Po := xz_iinc d (by rfl) hk hn kk
theorem xy_is12 {a : Int32} {x0 x1 x2 x3 x4 x5 x6 x7 x8 x9 x10 x11 x12 : Option Value} (d : xl_D M pc (.istore 12) 2 pc2) (hk : xl_k (x0 :: x1 :: x2 :: x3 :: x4 :: x5 :: x6 :: x7 :: x8 :: x9 :: x10 :: x11 :: x12 :: T) 12 = true) (hn : 12 < M.2.2.1) (kk : xl_W M rc rs pc2 (x0 :: x1 :: x2 :: x3 :: x4 :: x5 :: x6 :: x7 :: x8 :: x9 :: x10 :: x11 :: some (.int a) :: T) st h Po) : xl_W M rc rs pc (x0 :: x1 :: x2 :: x3 :: x4 :: x5 :: x6 :: x7 :: x8 :: x9 :: x10 :: x11 :: x12 :: T) (.int a :: st) h Po := xl_istore d hk hn kk
theorem xy_as12 {a : Nat} {x0 x1 x2 x3 x4 x5 x6 x7 x8 x9 x10 x11 x12 : Option Value} (d : xl_D M pc (.astore 12) 2 pc2) (hk : xl_k (x0 :: x1 :: x2 :: x3 :: x4 :: x5 :: x6 :: x7 :: x8 :: x9 :: x10 :: x11 :: x12 :: T) 12 = true) (hn : 12 < M.2.2.1) (kk : xl_W M rc rs pc2 (x0 :: x1 :: x2 :: x3 :: x4 :: x5 :: x6 :: x7 :: x8 :: x9 :: x10 :: x11 :: some (.ref a) :: T) st h Po) : xl_W M rc rs pc (x0 :: x1 :: x2 :: x3 :: x4 :: x5 :: x6 :: x7 :: x8 :: x9 :: x10 :: x11 :: x12 :: T) (.ref a :: st) h Po := xl_astore d hk hn kk
theorem xy_ss12 {a : UInt32} {x0 x1 x2 x3 x4 x5 x6 x7 x8 x9 x10 x11 x12 : Option Value} (d : xl_D M pc (.astore 12) 2 pc2) (hk : xl_k (x0 :: x1 :: x2 :: x3 :: x4 :: x5 :: x6 :: x7 :: x8 :: x9 :: x10 :: x11 :: x12 :: T) 12 = true) (hn : 12 < M.2.2.1) (kk : xl_W M rc rs pc2 (x0 :: x1 :: x2 :: x3 :: x4 :: x5 :: x6 :: x7 :: x8 :: x9 :: x10 :: x11 :: some (.float a) :: T) st h Po) : xl_W M rc rs pc (x0 :: x1 :: x2 :: x3 :: x4 :: x5 :: x6 :: x7 :: x8 :: x9 :: x10 :: x11 :: x12 :: T) (.float a :: st) h Po := xl_sastore d hk hn kk
theorem xy_ii12 {x0 x1 x2 x3 x4 x5 x6 x7 x8 x9 x10 x11 : Option Value} {n : Int} (d : xl_D M pc (.iinc 12 n) 3 pc2) (hk : xl_k (x0 :: x1 :: x2 :: x3 :: x4 :: x5 :: x6 :: x7 :: x8 :: x9 :: x10 :: x11 :: some (xi a) :: T) 12 = true) (hn : 12 < M.2.2.1) (kk : xl_W M rc rs pc2 (x0 :: x1 :: x2 :: x3 :: x4 :: x5 :: x6 :: x7 :: x8 :: x9 :: x10 :: x11 :: some (xi (a + n)) :: T) st h Po) : xl_W M rc rs pc (x0 :: x1 :: x2 :: x3 :: x4 :: x5 :: x6 :: x7 :: x8 :: x9 :: x10 :: x11 :: some (xi a) :: T) st h Po := xz_iinc d (by rfl) hk hn kk
theorem xy_is13 {a : Int32} {x0 x1 x2 x3 x4 x5 x6 x7 x8 x9 x10 x11 x12 x13 : Option Value} (d : xl_D M pc (.istore 13) 2 pc2) (hk : xl_k (x0 :: x1 :: x2 :: x3 :: x4 :: x5 :: x6 :: x7 :: x8 :: x9 :: x10 :: x11 :: x12 :: x13 :: T) 13 = true) (hn : 13 < M.2.2.1) (kk : xl_W M rc rs pc2 (x0 :: x1 :: x2 :: x3 :: x4 :: x5 :: x6 :: x7 :: x8 :: x9 :: x10 :: x11 :: x12 :: some (.int a) :: T) st h Po) : xl_W M rc rs pc (x0 :: x1 :: x2 :: x3 :: x4 :: x5 :: x6 :: x7 :: x8 :: x9 :: x10 :: x11 :: x12 :: x13 :: T) (.int a :: st) h Po := xl_istore d hk hn kk
theorem xy_as13 {a : Nat} {x0 x1 x2 x3 x4 x5 x6 x7 x8 x9 x10 x11 x12 x13 : Option Value} (d : xl_D M pc (.astore 13) 2 pc2) (hk : xl_k (x0 :: x1 :: x2 :: x3 :: x4 :: x5 :: x6 :: x7 :: x8 :: x9 :: x10 :: x11 :: x12 :: x13 :: T) 13 = true) (hn : 13 < M.2.2.1) (kk : xl_W M rc rs pc2 (x0 :: x1 :: x2 :: x3 :: x4 :: x5 :: x6 :: x7 :: x8 :: x9 :: x10 :: x11 :: x12 :: some (.ref a) :: T) st h Po) : xl_W M rc rs pc (x0 :: x1 :: x2 :: x3 :: x4 :: x5 :: x6 :: x7 :: x8 :: x9 :: x10 :: x11 :: x12 :: x13 :: T) (.ref a :: st) h Po := xl_astore d hk hn kk
theorem xy_ss13 {a : UInt32} {x0 x1 x2 x3 x4 x5 x6 x7 x8 x9 x10 x11 x12 x13 : Option Value} (d : xl_D M pc (.astore 13) 2 pc2) (hk : xl_k (x0 :: x1 :: x2 :: x3 :: x4 :: x5 :: x6 :: x7 :: x8 :: x9 :: x10 :: x11 :: x12 :: x13 :: T) 13 = true) (hn : 13 < M.2.2.1) (kk : xl_W M rc rs pc2 (x0 :: x1 :: x2 :: x3 :: x4 :: x5 :: x6 :: x7 :: x8 :: x9 :: x10 :: x11 :: x12 :: some (.float a) :: T) st h Po) : xl_W M rc rs pc (x0 :: x1 :: x2 :: x3 :: x4 :: x5 :: x6 :: x7 :: x8 :: x9 :: x10 :: x11 :: x12 :: x13 :: T) (.float a :: st) h Po := xl_sastore d hk hn kk
theorem xy_ii13 {x0 x1 x2 x3 x4 x5 x6 x7 x8 x9 x10 x11 x12 : Option Value} {n : Int} (d : xl_D M pc (.iinc 13 n) 3 pc2) (hk : xl_k (x0 :: x1 :: x2 :: x3 :: x4 :: x5 :: x6 :: x7 :: x8 :: x9 :: x10 :: x11 :: x12 :: some (xi a) :: T) 13 = true) (hn : 13 < M.2.2.1) (kk : xl_W M rc rs pc2 (x0 :: x1 :: x2 :: x3 :: x4 :: x5 :: x6 :: x7 :: x8 :: x9 :: x10 :: x11 :: x12 :: some (xi (a + n)) :: T) st h Po) : xl_W M rc rs pc (x0 :: x1 :: x2 :: x3 :: x4 :: x5 :: x6 :: x7 :: x8 :: x9 :: x10 :: x11 :: x12 :: some (xi a) :: T) st h Po := xz_iinc d (by rfl) hk hn kk
theorem xy_getI {ci k r : Nat} {fs : List Value} (d : xl_G M pc ci k pc2) (hh : xl_n h r = some (.inr (ci, fs))) (hf : xl_n fs k = some (xi a)) (kk : xl_W M rc rs pc2 L (xi a :: st) h Po) : xl_W M rc rs pc L (.ref r :: st) h Po := xl_get d hh hf kk
theorem xy_getR {ci k r q : Nat} {fs : List Value} (d : xl_G M pc ci k pc2) (hh : xl_n h r = some (.inr (ci, fs))) (hf : xl_n fs k = some (.ref q)) (kk : xl_W M rc rs pc2 L (.ref (r + q) :: st) h Po) : xl_W M rc rs pc L (.ref r :: st) h Po := xl_get d hh hf kk
theorem xy_put0 {ci : Nat} {v0 : Value} {fs : List Value} (d : xl_P M pc ci 0 .int pc2) (kk : xl_W M rc rs pc2 L st (.inr (ci, xi a :: fs) :: h) Po) : xl_W M rc rs pc L (xi a :: .ref 0 :: st) (.inr (ci, v0 :: fs) :: h) Po := xl_put (fs := v0 :: fs) d rfl (by simp only [List.length_cons]; omega) kk
theorem xy_put1 {ci : Nat} {v0 v1 : Value} {fs : List Value} (d : xl_P M pc ci 1 .int pc2) (kk : xl_W M rc rs pc2 L st (.inr (ci, v0 :: xi a :: fs) :: h) Po) : xl_W M rc rs pc L (xi a :: .ref 0 :: st) (.inr (ci, v0 :: v1 :: fs) :: h) Po := xl_put (fs := v0 :: v1 :: fs) d rfl (by simp only [List.length_cons]; omega) kk
theorem xy_put2 {ci : Nat} {v0 v1 v2 : Value} {fs : List Value} (d : xl_P M pc ci 2 .int pc2) (kk : xl_W M rc rs pc2 L st (.inr (ci, v0 :: v1 :: xi a :: fs) :: h) Po) : xl_W M rc rs pc L (xi a :: .ref 0 :: st) (.inr (ci, v0 :: v1 :: v2 :: fs) :: h) Po := xl_put (fs := v0 :: v1 :: v2 :: fs) d rfl (by simp only [List.length_cons]; omega) kk
theorem xy_put3 {ci : Nat} {v0 v1 v2 v3 : Value} {fs : List Value} (d : xl_P M pc ci 3 .int pc2) (kk : xl_W M rc rs pc2 L st (.inr (ci, v0 :: v1 :: v2 :: xi a :: fs) :: h) Po) : xl_W M rc rs pc L (xi a :: .ref 0 :: st) (.inr (ci, v0 :: v1 :: v2 :: v3 :: fs) :: h) Po := xl_put (fs := v0 :: v1 :: v2 :: v3 :: fs) d rfl (by simp only [List.length_cons]; omega) kk
theorem xy_put4 {ci : Nat} {v0 v1 v2 v3 v4 : Value} {fs : List Value} (d : xl_P M pc ci 4 .int pc2) (kk : xl_W M rc rs pc2 L st (.inr (ci, v0 :: v1 :: v2 :: v3 :: xi a :: fs) :: h) Po) : xl_W M rc rs pc L (xi a :: .ref 0 :: st) (.inr (ci, v0 :: v1 :: v2 :: v3 :: v4 :: fs) :: h) Po := xl_put (fs := v0 :: v1 :: v2 :: v3 :: v4 :: fs) d rfl (by simp only [List.length_cons]; omega) kk
theorem xy_put5 {ci : Nat} {v0 v1 v2 v3 v4 v5 : Value} {fs : List Value} (d : xl_P M pc ci 5 .int pc2) (kk : xl_W M rc rs pc2 L st (.inr (ci, v0 :: v1 :: v2 :: v3 :: v4 :: xi a :: fs) :: h) Po) : xl_W M rc rs pc L (xi a :: .ref 0 :: st) (.inr (ci, v0 :: v1 :: v2 :: v3 :: v4 :: v5 :: fs) :: h) Po := xl_put (fs := v0 :: v1 :: v2 :: v3 :: v4 :: v5 :: fs) d rfl (by simp only [List.length_cons]; omega) kk
theorem xy_put6 {ci : Nat} {v0 v1 v2 v3 v4 v5 v6 : Value} {fs : List Value} (d : xl_P M pc ci 6 .int pc2) (kk : xl_W M rc rs pc2 L st (.inr (ci, v0 :: v1 :: v2 :: v3 :: v4 :: v5 :: xi a :: fs) :: h) Po) : xl_W M rc rs pc L (xi a :: .ref 0 :: st) (.inr (ci, v0 :: v1 :: v2 :: v3 :: v4 :: v5 :: v6 :: fs) :: h) Po := xl_put (fs := v0 :: v1 :: v2 :: v3 :: v4 :: v5 :: v6 :: fs) d rfl (by simp only [List.length_cons]; omega) kk
theorem xy_put7 {ci : Nat} {v0 v1 v2 v3 v4 v5 v6 v7 : Value} {fs : List Value} (d : xl_P M pc ci 7 .int pc2) (kk : xl_W M rc rs pc2 L st (.inr (ci, v0 :: v1 :: v2 :: v3 :: v4 :: v5 :: v6 :: xi a :: fs) :: h) Po) : xl_W M rc rs pc L (xi a :: .ref 0 :: st) (.inr (ci, v0 :: v1 :: v2 :: v3 :: v4 :: v5 :: v6 :: v7 :: fs) :: h) Po := xl_put (fs := v0 :: v1 :: v2 :: v3 :: v4 :: v5 :: v6 :: v7 :: fs) d rfl (by simp only [List.length_cons]; omega) kk
theorem xy_put8 {ci : Nat} {v0 v1 v2 v3 v4 v5 v6 v7 v8 : Value} {fs : List Value} (d : xl_P M pc ci 8 .int pc2) (kk : xl_W M rc rs pc2 L st (.inr (ci, v0 :: v1 :: v2 :: v3 :: v4 :: v5 :: v6 :: v7 :: xi a :: fs) :: h) Po) : xl_W M rc rs pc L (xi a :: .ref 0 :: st) (.inr (ci, v0 :: v1 :: v2 :: v3 :: v4 :: v5 :: v6 :: v7 :: v8 :: fs) :: h) Po := xl_put (fs := v0 :: v1 :: v2 :: v3 :: v4 :: v5 :: v6 :: v7 :: v8 :: fs) d rfl (by simp only [List.length_cons]; omega) kk
theorem xy_put9 {ci : Nat} {v0 v1 v2 v3 v4 v5 v6 v7 v8 v9 : Value} {fs : List Value} (d : xl_P M pc ci 9 .int pc2) (kk : xl_W M rc rs pc2 L st (.inr (ci, v0 :: v1 :: v2 :: v3 :: v4 :: v5 :: v6 :: v7 :: v8 :: xi a :: fs) :: h) Po) : xl_W M rc rs pc L (xi a :: .ref 0 :: st) (.inr (ci, v0 :: v1 :: v2 :: v3 :: v4 :: v5 :: v6 :: v7 :: v8 :: v9 :: fs) :: h) Po := xl_put (fs := v0 :: v1 :: v2 :: v3 :: v4 :: v5 :: v6 :: v7 :: v8 :: v9 :: fs) d rfl (by simp only [List.length_cons]; omega) kk
theorem xy_put10 {ci : Nat} {v0 v1 v2 v3 v4 v5 v6 v7 v8 v9 v10 : Value} {fs : List Value} (d : xl_P M pc ci 10 .int pc2) (kk : xl_W M rc rs pc2 L st (.inr (ci, v0 :: v1 :: v2 :: v3 :: v4 :: v5 :: v6 :: v7 :: v8 :: v9 :: xi a :: fs) :: h) Po) : xl_W M rc rs pc L (xi a :: .ref 0 :: st) (.inr (ci, v0 :: v1 :: v2 :: v3 :: v4 :: v5 :: v6 :: v7 :: v8 :: v9 :: v10 :: fs) :: h) Po := xl_put (fs := v0 :: v1 :: v2 :: v3 :: v4 :: v5 :: v6 :: v7 :: v8 :: v9 :: v10 :: fs) d rfl (by simp only [List.length_cons]; omega) kk
theorem xy_put11 {ci : Nat} {v0 v1 v2 v3 v4 v5 v6 v7 v8 v9 v10 v11 : Value} {fs : List Value} (d : xl_P M pc ci 11 .int pc2) (kk : xl_W M rc rs pc2 L st (.inr (ci, v0 :: v1 :: v2 :: v3 :: v4 :: v5 :: v6 :: v7 :: v8 :: v9 :: v10 :: xi a :: fs) :: h) Po) : xl_W M rc rs pc L (xi a :: .ref 0 :: st) (.inr (ci, v0 :: v1 :: v2 :: v3 :: v4 :: v5 :: v6 :: v7 :: v8 :: v9 :: v10 :: v11 :: fs) :: h) Po := xl_put (fs := v0 :: v1 :: v2 :: v3 :: v4 :: v5 :: v6 :: v7 :: v8 :: v9 :: v10 :: v11 :: fs) d rfl (by simp only [List.length_cons]; omega) kk
theorem xy_put12 {ci : Nat} {v0 v1 v2 v3 v4 v5 v6 v7 v8 v9 v10 v11 v12 : Value} {fs : List Value} (d : xl_P M pc ci 12 .int pc2) (kk : xl_W M rc rs pc2 L st (.inr (ci, v0 :: v1 :: v2 :: v3 :: v4 :: v5 :: v6 :: v7 :: v8 :: v9 :: v10 :: v11 :: xi a :: fs) :: h) Po) : xl_W M rc rs pc L (xi a :: .ref 0 :: st) (.inr (ci, v0 :: v1 :: v2 :: v3 :: v4 :: v5 :: v6 :: v7 :: v8 :: v9 :: v10 :: v11 :: v12 :: fs) :: h) Po := xl_put (fs := v0 :: v1 :: v2 :: v3 :: v4 :: v5 :: v6 :: v7 :: v8 :: v9 :: v10 :: v11 :: v12 :: fs) d rfl (by simp only [List.length_cons]; omega) kk
theorem xy_put13 {ci : Nat} {v0 v1 v2 v3 v4 v5 v6 v7 v8 v9 v10 v11 v12 v13 : Value} {fs : List Value} (d : xl_P M pc ci 13 .int pc2) (kk : xl_W M rc rs pc2 L st (.inr (ci, v0 :: v1 :: v2 :: v3 :: v4 :: v5 :: v6 :: v7 :: v8 :: v9 :: v10 :: v11 :: v12 :: xi a :: fs) :: h) Po) : xl_W M rc rs pc L (xi a :: .ref 0 :: st) (.inr (ci, v0 :: v1 :: v2 :: v3 :: v4 :: v5 :: v6 :: v7 :: v8 :: v9 :: v10 :: v11 :: v12 :: v13 :: fs) :: h) Po := xl_put (fs := v0 :: v1 :: v2 :: v3 :: v4 :: v5 :: v6 :: v7 :: v8 :: v9 :: v10 :: v11 :: v12 :: v13 :: fs) d rfl (by simp only [List.length_cons]; omega) kk
theorem xy_put14 {ci : Nat} {v0 v1 v2 v3 v4 v5 v6 v7 v8 v9 v10 v11 v12 v13 v14 : Value} {fs : List Value} (d : xl_P M pc ci 14 .int pc2) (kk : xl_W M rc rs pc2 L st (.inr (ci, v0 :: v1 :: v2 :: v3 :: v4 :: v5 :: v6 :: v7 :: v8 :: v9 :: v10 :: v11 :: v12 :: v13 :: xi a :: fs) :: h) Po) : xl_W M rc rs pc L (xi a :: .ref 0 :: st) (.inr (ci, v0 :: v1 :: v2 :: v3 :: v4 :: v5 :: v6 :: v7 :: v8 :: v9 :: v10 :: v11 :: v12 :: v13 :: v14 :: fs) :: h) Po := xl_put (fs := v0 :: v1 :: v2 :: v3 :: v4 :: v5 :: v6 :: v7 :: v8 :: v9 :: v10 :: v11 :: v12 :: v13 :: v14 :: fs) d rfl (by simp only [List.length_cons]; omega) kk
theorem xy_put15 {ci : Nat} {v0 v1 v2 v3 v4 v5 v6 v7 v8 v9 v10 v11 v12 v13 v14 v15 : Value} {fs : List Value} (d : xl_P M pc ci 15 .int pc2) (kk : xl_W M rc rs pc2 L st (.inr (ci, v0 :: v1 :: v2 :: v3 :: v4 :: v5 :: v6 :: v7 :: v8 :: v9 :: v10 :: v11 :: v12 :: v13 :: v14 :: xi a :: fs) :: h) Po) : xl_W M rc rs pc L (xi a :: .ref 0 :: st) (.inr (ci, v0 :: v1 :: v2 :: v3 :: v4 :: v5 :: v6 :: v7 :: v8 :: v9 :: v10 :: v11 :: v12 :: v13 :: v14 :: v15 :: fs) :: h) Po := xl_put (fs := v0 :: v1 :: v2 :: v3 :: v4 :: v5 :: v6 :: v7 :: v8 :: v9 :: v10 :: v11 :: v12 :: v13 :: v14 :: v15 :: fs) d rfl (by simp only [List.length_cons]; omega) kk
theorem xy_put16 {ci : Nat} {v0 v1 v2 v3 v4 v5 v6 v7 v8 v9 v10 v11 v12 v13 v14 v15 v16 : Value} {fs : List Value} (d : xl_P M pc ci 16 .int pc2) (kk : xl_W M rc rs pc2 L st (.inr (ci, v0 :: v1 :: v2 :: v3 :: v4 :: v5 :: v6 :: v7 :: v8 :: v9 :: v10 :: v11 :: v12 :: v13 :: v14 :: v15 :: xi a :: fs) :: h) Po) : xl_W M rc rs pc L (xi a :: .ref 0 :: st) (.inr (ci, v0 :: v1 :: v2 :: v3 :: v4 :: v5 :: v6 :: v7 :: v8 :: v9 :: v10 :: v11 :: v12 :: v13 :: v14 :: v15 :: v16 :: fs) :: h) Po := xl_put (fs := v0 :: v1 :: v2 :: v3 :: v4 :: v5 :: v6 :: v7 :: v8 :: v9 :: v10 :: v11 :: v12 :: v13 :: v14 :: v15 :: v16 :: fs) d rfl (by simp only [List.length_cons]; omega) kk
theorem xy_put17 {ci : Nat} {v0 v1 v2 v3 v4 v5 v6 v7 v8 v9 v10 v11 v12 v13 v14 v15 v16 v17 : Value} {fs : List Value} (d : xl_P M pc ci 17 .int pc2) (kk : xl_W M rc rs pc2 L st (.inr (ci, v0 :: v1 :: v2 :: v3 :: v4 :: v5 :: v6 :: v7 :: v8 :: v9 :: v10 :: v11 :: v12 :: v13 :: v14 :: v15 :: v16 :: xi a :: fs) :: h) Po) : xl_W M rc rs pc L (xi a :: .ref 0 :: st) (.inr (ci, v0 :: v1 :: v2 :: v3 :: v4 :: v5 :: v6 :: v7 :: v8 :: v9 :: v10 :: v11 :: v12 :: v13 :: v14 :: v15 :: v16 :: v17 :: fs) :: h) Po := xl_put (fs := v0 :: v1 :: v2 :: v3 :: v4 :: v5 :: v6 :: v7 :: v8 :: v9 :: v10 :: v11 :: v12 :: v13 :: v14 :: v15 :: v16 :: v17 :: fs) d rfl (by simp only [List.length_cons]; omega) kk
theorem xy_put18 {ci : Nat} {v0 v1 v2 v3 v4 v5 v6 v7 v8 v9 v10 v11 v12 v13 v14 v15 v16 v17 v18 : Value} {fs : List Value} (d : xl_P M pc ci 18 .int pc2) (kk : xl_W M rc rs pc2 L st (.inr (ci, v0 :: v1 :: v2 :: v3 :: v4 :: v5 :: v6 :: v7 :: v8 :: v9 :: v10 :: v11 :: v12 :: v13 :: v14 :: v15 :: v16 :: v17 :: xi a :: fs) :: h) Po) : xl_W M rc rs pc L (xi a :: .ref 0 :: st) (.inr (ci, v0 :: v1 :: v2 :: v3 :: v4 :: v5 :: v6 :: v7 :: v8 :: v9 :: v10 :: v11 :: v12 :: v13 :: v14 :: v15 :: v16 :: v17 :: v18 :: fs) :: h) Po := xl_put (fs := v0 :: v1 :: v2 :: v3 :: v4 :: v5 :: v6 :: v7 :: v8 :: v9 :: v10 :: v11 :: v12 :: v13 :: v14 :: v15 :: v16 :: v17 :: v18 :: fs) d rfl (by simp only [List.length_cons]; omega) kk
theorem xy_put19 {ci : Nat} {v0 v1 v2 v3 v4 v5 v6 v7 v8 v9 v10 v11 v12 v13 v14 v15 v16 v17 v18 v19 : Value} {fs : List Value} (d : xl_P M pc ci 19 .int pc2) (kk : xl_W M rc rs pc2 L st (.inr (ci, v0 :: v1 :: v2 :: v3 :: v4 :: v5 :: v6 :: v7 :: v8 :: v9 :: v10 :: v11 :: v12 :: v13 :: v14 :: v15 :: v16 :: v17 :: v18 :: xi a :: fs) :: h) Po) : xl_W M rc rs pc L (xi a :: .ref 0 :: st) (.inr (ci, v0 :: v1 :: v2 :: v3 :: v4 :: v5 :: v6 :: v7 :: v8 :: v9 :: v10 :: v11 :: v12 :: v13 :: v14 :: v15 :: v16 :: v17 :: v18 :: v19 :: fs) :: h) Po := xl_put (fs := v0 :: v1 :: v2 :: v3 :: v4 :: v5 :: v6 :: v7 :: v8 :: v9 :: v10 :: v11 :: v12 :: v13 :: v14 :: v15 :: v16 :: v17 :: v18 :: v19 :: fs) d rfl (by simp only [List.length_cons]; omega) kk
theorem xy_put20 {ci : Nat} {v0 v1 v2 v3 v4 v5 v6 v7 v8 v9 v10 v11 v12 v13 v14 v15 v16 v17 v18 v19 v20 : Value} {fs : List Value} (d : xl_P M pc ci 20 .int pc2) (kk : xl_W M rc rs pc2 L st (.inr (ci, v0 :: v1 :: v2 :: v3 :: v4 :: v5 :: v6 :: v7 :: v8 :: v9 :: v10 :: v11 :: v12 :: v13 :: v14 :: v15 :: v16 :: v17 :: v18 :: v19 :: xi a :: fs) :: h) Po) : xl_W M rc rs pc L (xi a :: .ref 0 :: st) (.inr (ci, v0 :: v1 :: v2 :: v3 :: v4 :: v5 :: v6 :: v7 :: v8 :: v9 :: v10 :: v11 :: v12 :: v13 :: v14 :: v15 :: v16 :: v17 :: v18 :: v19 :: v20 :: fs) :: h) Po := xl_put (fs := v0 :: v1 :: v2 :: v3 :: v4 :: v5 :: v6 :: v7 :: v8 :: v9 :: v10 :: v11 :: v12 :: v13 :: v14 :: v15 :: v16 :: v17 :: v18 :: v19 :: v20 :: fs) d rfl (by simp only [List.length_cons]; omega) kk
theorem xy_put21 {ci : Nat} {v0 v1 v2 v3 v4 v5 v6 v7 v8 v9 v10 v11 v12 v13 v14 v15 v16 v17 v18 v19 v20 v21 : Value} {fs : List Value} (d : xl_P M pc ci 21 .int pc2) (kk : xl_W M rc rs pc2 L st (.inr (ci, v0 :: v1 :: v2 :: v3 :: v4 :: v5 :: v6 :: v7 :: v8 :: v9 :: v10 :: v11 :: v12 :: v13 :: v14 :: v15 :: v16 :: v17 :: v18 :: v19 :: v20 :: xi a :: fs) :: h) Po) : xl_W M rc rs pc L (xi a :: .ref 0 :: st) (.inr (ci, v0 :: v1 :: v2 :: v3 :: v4 :: v5 :: v6 :: v7 :: v8 :: v9 :: v10 :: v11 :: v12 :: v13 :: v14 :: v15 :: v16 :: v17 :: v18 :: v19 :: v20 :: v21 :: fs) :: h) Po := xl_put (fs := v0 :: v1 :: v2 :: v3 :: v4 :: v5 :: v6 :: v7 :: v8 :: v9 :: v10 :: v11 :: v12 :: v13 :: v14 :: v15 :: v16 :: v17 :: v18 :: v19 :: v20 :: v21 :: fs) d rfl (by simp only [List.length_cons]; omega) kk
theorem xy_put22 {ci : Nat} {v0 v1 v2 v3 v4 v5 v6 v7 v8 v9 v10 v11 v12 v13 v14 v15 v16 v17 v18 v19 v20 v21 v22 : Value} {fs : List Value} (d : xl_P M pc ci 22 .int pc2) (kk : xl_W M rc rs pc2 L st (.inr (ci, v0 :: v1 :: v2 :: v3 :: v4 :: v5 :: v6 :: v7 :: v8 :: v9 :: v10 :: v11 :: v12 :: v13 :: v14 :: v15 :: v16 :: v17 :: v18 :: v19 :: v20 :: v21 :: xi a :: fs) :: h) Po) : xl_W M rc rs pc L (xi a :: .ref 0 :: st) (.inr (ci, v0 :: v1 :: v2 :: v3 :: v4 :: v5 :: v6 :: v7 :: v8 :: v9 :: v10 :: v11 :: v12 :: v13 :: v14 :: v15 :: v16 :: v17 :: v18 :: v19 :: v20 :: v21 :: v22 :: fs) :: h) Po := xl_put (fs := v0 :: v1 :: v2 :: v3 :: v4 :: v5 :: v6 :: v7 :: v8 :: v9 :: v10 :: v11 :: v12 :: v13 :: v14 :: v15 :: v16 :: v17 :: v18 :: v19 :: v20 :: v21 :: v22 :: fs) d rfl (by simp only [List.length_cons]; omega) kk
end XY
end
section
theorem iX0_init_0 : xl_D mX0_init 0 (.aload_n 0) 1 1 := ⟨by decide +kernel, rfl⟩
theorem iX0_init_1 : xl_D mX0_init 1 (.invokespecial 1) 3 4 := ⟨by decide +kernel, rfl⟩
theorem iX0_init_4 : xl_D mX0_init 4 (.aload_n 0) 1 5 := ⟨by decide +kernel, rfl⟩
theorem iX0_init_5 : xl_D mX0_init 5 (.iconst 0) 1 6 := ⟨by decide +kernel, rfl⟩
theorem iX0_init_6 : xl_D mX0_init 6 (.iload_n 1) 1 7 := ⟨by decide +kernel, rfl⟩
theorem iX0_init_7 : xl_Cm mX0_init 7 Lib.Math.max.name Lib.Math.max.code 10 := ⟨7, by decide +kernel, rfl, lX0_7, xl_stmax, xl_iMath, xl_comax, Nat.le_of_ble_eq_true rfl, Nat.le_of_ble_eq_true rfl⟩
theorem iX0_init_13 : xl_D mX0_init 13 (.aload_n 0) 1 14 := ⟨by decide +kernel, rfl⟩
theorem iX0_init_14 : xl_D mX0_init 14 (.iconst 0) 1 15 := ⟨by decide +kernel, rfl⟩
theorem iX0_init_15 : xl_D mX0_init 15 (.iload_n 2) 1 16 := ⟨by decide +kernel, rfl⟩
theorem iX0_init_16 : xl_Cm mX0_init 16 Lib.Math.max.name Lib.Math.max.code 19 := ⟨7, by decide +kernel, rfl, lX0_7, xl_stmax, xl_iMath, xl_comax, Nat.le_of_ble_eq_true rfl, Nat.le_of_ble_eq_true rfl⟩
theorem iX0_init_22 : xl_D mX0_init 22 (.aload_n 0) 1 23 := ⟨by decide +kernel, rfl⟩
theorem iX0_init_23 : xl_D mX0_init 23 (.aload_n 0) 1 24 := ⟨by decide +kernel, rfl⟩
theorem iX0_init_24 : xl_G mX0_init 24 0 0 27 := ⟨13, by decide +kernel, rfl, fX0_13⟩
theorem iX0_init_27 : xl_D mX0_init 27 (.aload_n 0) 1 28 := ⟨by decide +kernel, rfl⟩
theorem iX0_init_28 : xl_G mX0_init 28 0 1 31 := ⟨19, by decide +kernel, rfl, fX0_19⟩
theorem iX0_init_31 : xl_D mX0_init 31 (.imul) 1 32 := ⟨by decide +kernel, rfl⟩
theorem iX0_init_32 : xl_D mX0_init 32 (.newarray .int) 2 34 := ⟨by decide +kernel, rfl⟩
theorem iX0_init_37 : xl_D mX0_init 37 (.return_) 1 38 := ⟨by decide +kernel, rfl⟩
theorem iX0_get_0 : xl_D mX0_get 0 (.iload_n 1) 1 1 := ⟨by decide +kernel, rfl⟩
theorem iX0_get_1 : xl_J mX0_get 1 (fun o => .ifCond .lt o) 4 24 := ⟨23, by decide +kernel, rfl, rfl⟩
theorem iX0_get_4 : xl_D mX0_get 4 (.iload_n 1) 1 5 := ⟨by decide +kernel, rfl⟩
theorem iX0_get_5 : xl_D mX0_get 5 (.aload_n 0) 1 6 := ⟨by decide +kernel, rfl⟩
theorem iX0_get_6 : xl_G mX0_get 6 0 0 9 := ⟨13, by decide +kernel, rfl, fX0_13⟩
theorem iX0_get_9 : xl_J mX0_get 9 (fun o => .if_icmp .ge o) 12 24 := ⟨15, by decide +kernel, rfl, rfl⟩
theorem iX0_get_12 : xl_D mX0_get 12 (.iload_n 2) 1 13 := ⟨by decide +kernel, rfl⟩
theorem iX0_get_13 : xl_J mX0_get 13 (fun o => .ifCond .lt o) 16 24 := ⟨11, by decide +kernel, rfl, rfl⟩
theorem iX0_get_16 : xl_D mX0_get 16 (.iload_n 2) 1 17 := ⟨by decide +kernel, rfl⟩
theorem iX0_get_17 : xl_D mX0_get 17 (.aload_n 0) 1 18 := ⟨by decide +kernel, rfl⟩
theorem iX0_get_18 : xl_G mX0_get 18 0 1 21 := ⟨19, by decide +kernel, rfl, fX0_19⟩
theorem iX0_get_21 : xl_J mX0_get 21 (fun o => .if_icmp .lt o) 24 26 := ⟨5, by decide +kernel, rfl, rfl⟩
theorem iX0_get_24 : xl_D mX0_get 24 (.iconst 0) 1 25 := ⟨by decide +kernel, rfl⟩
theorem iX0_get_25 : xl_D mX0_get 25 (.ireturn) 1 26 := ⟨by decide +kernel, rfl⟩
theorem iX0_get_26 : xl_D mX0_get 26 (.aload_n 0) 1 27 := ⟨by decide +kernel, rfl⟩
theorem iX0_get_27 : xl_G mX0_get 27 0 2 30 := ⟨22, by decide +kernel, rfl, fX0_22⟩
theorem iX0_get_30 : xl_D mX0_get 30 (.iload_n 1) 1 31 := ⟨by decide +kernel, rfl⟩
theorem iX0_get_31 : xl_D mX0_get 31 (.aload_n 0) 1 32 := ⟨by decide +kernel, rfl⟩
theorem iX0_get_32 : xl_G mX0_get 32 0 1 35 := ⟨19, by decide +kernel, rfl, fX0_19⟩
theorem iX0_get_35 : xl_D mX0_get 35 (.imul) 1 36 := ⟨by decide +kernel, rfl⟩
theorem iX0_get_36 : xl_D mX0_get 36 (.iload_n 2) 1 37 := ⟨by decide +kernel, rfl⟩
theorem iX0_get_37 : xl_D mX0_get 37 (.iadd) 1 38 := ⟨by decide +kernel, rfl⟩
theorem iX0_get_38 : xl_D mX0_get 38 (.iaload) 1 39 := ⟨by decide +kernel, rfl⟩
theorem iX0_get_39 : xl_D mX0_get 39 (.ireturn) 1 40 := ⟨by decide +kernel, rfl⟩
theorem iX0_set_0 : xl_D mX0_set 0 (.iload_n 1) 1 1 := ⟨by decide +kernel, rfl⟩
theorem iX0_set_1 : xl_J mX0_set 1 (fun o => .ifCond .lt o) 4 38 := ⟨37, by decide +kernel, rfl, rfl⟩
theorem iX0_set_4 : xl_D mX0_set 4 (.iload_n 1) 1 5 := ⟨by decide +kernel, rfl⟩
theorem iX0_set_5 : xl_D mX0_set 5 (.aload_n 0) 1 6 := ⟨by decide +kernel, rfl⟩
theorem iX0_set_6 : xl_G mX0_set 6 0 0 9 := ⟨13, by decide +kernel, rfl, fX0_13⟩
theorem iX0_set_9 : xl_J mX0_set 9 (fun o => .if_icmp .ge o) 12 38 := ⟨29, by decide +kernel, rfl, rfl⟩
theorem iX0_set_12 : xl_D mX0_set 12 (.iload_n 2) 1 13 := ⟨by decide +kernel, rfl⟩
theorem iX0_set_13 : xl_J mX0_set 13 (fun o => .ifCond .lt o) 16 38 := ⟨25, by decide +kernel, rfl, rfl⟩
theorem iX0_set_16 : xl_D mX0_set 16 (.iload_n 2) 1 17 := ⟨by decide +kernel, rfl⟩
theorem iX0_set_17 : xl_D mX0_set 17 (.aload_n 0) 1 18 := ⟨by decide +kernel, rfl⟩
theorem iX0_set_18 : xl_G mX0_set 18 0 1 21 := ⟨19, by decide +kernel, rfl, fX0_19⟩
theorem iX0_set_21 : xl_J mX0_set 21 (fun o => .if_icmp .ge o) 24 38 := ⟨17, by decide +kernel, rfl, rfl⟩
theorem iX0_set_24 : xl_D mX0_set 24 (.aload_n 0) 1 25 := ⟨by decide +kernel, rfl⟩
theorem iX0_set_25 : xl_G mX0_set 25 0 2 28 := ⟨22, by decide +kernel, rfl, fX0_22⟩
theorem iX0_set_28 : xl_D mX0_set 28 (.iload_n 1) 1 29 := ⟨by decide +kernel, rfl⟩
theorem iX0_set_29 : xl_D mX0_set 29 (.aload_n 0) 1 30 := ⟨by decide +kernel, rfl⟩
theorem iX0_set_30 : xl_G mX0_set 30 0 1 33 := ⟨19, by decide +kernel, rfl, fX0_19⟩
theorem iX0_set_33 : xl_D mX0_set 33 (.imul) 1 34 := ⟨by decide +kernel, rfl⟩
theorem iX0_set_34 : xl_D mX0_set 34 (.iload_n 2) 1 35 := ⟨by decide +kernel, rfl⟩
theorem iX0_set_35 : xl_D mX0_set 35 (.iadd) 1 36 := ⟨by decide +kernel, rfl⟩
theorem iX0_set_36 : xl_D mX0_set 36 (.iload_n 3) 1 37 := ⟨by decide +kernel, rfl⟩
theorem iX0_set_37 : xl_D mX0_set 37 (.iastore) 1 38 := ⟨by decide +kernel, rfl⟩
theorem iX0_set_38 : xl_D mX0_set 38 (.return_) 1 39 := ⟨by decide +kernel, rfl⟩
theorem iX0_add_0 : xl_D mX0_add 0 (.iload_n 1) 1 1 := ⟨by decide +kernel, rfl⟩
theorem iX0_add_1 : xl_J mX0_add 1 (fun o => .ifCond .lt o) 4 41 := ⟨40, by decide +kernel, rfl, rfl⟩
theorem iX0_add_4 : xl_D mX0_add 4 (.iload_n 1) 1 5 := ⟨by decide +kernel, rfl⟩
theorem iX0_add_5 : xl_D mX0_add 5 (.aload_n 0) 1 6 := ⟨by decide +kernel, rfl⟩
theorem iX0_add_6 : xl_G mX0_add 6 0 0 9 := ⟨13, by decide +kernel, rfl, fX0_13⟩
theorem iX0_add_9 : xl_J mX0_add 9 (fun o => .if_icmp .ge o) 12 41 := ⟨32, by decide +kernel, rfl, rfl⟩
theorem iX0_add_12 : xl_D mX0_add 12 (.iload_n 2) 1 13 := ⟨by decide +kernel, rfl⟩
theorem iX0_add_13 : xl_J mX0_add 13 (fun o => .ifCond .lt o) 16 41 := ⟨28, by decide +kernel, rfl, rfl⟩
theorem iX0_add_16 : xl_D mX0_add 16 (.iload_n 2) 1 17 := ⟨by decide +kernel, rfl⟩
theorem iX0_add_17 : xl_D mX0_add 17 (.aload_n 0) 1 18 := ⟨by decide +kernel, rfl⟩
theorem iX0_add_18 : xl_G mX0_add 18 0 1 21 := ⟨19, by decide +kernel, rfl, fX0_19⟩
theorem iX0_add_21 : xl_J mX0_add 21 (fun o => .if_icmp .ge o) 24 41 := ⟨20, by decide +kernel, rfl, rfl⟩
theorem iX0_add_24 : xl_D mX0_add 24 (.aload_n 0) 1 25 := ⟨by decide +kernel, rfl⟩
theorem iX0_add_25 : xl_G mX0_add 25 0 2 28 := ⟨22, by decide +kernel, rfl, fX0_22⟩
theorem iX0_add_28 : xl_D mX0_add 28 (.iload_n 1) 1 29 := ⟨by decide +kernel, rfl⟩
theorem iX0_add_29 : xl_D mX0_add 29 (.aload_n 0) 1 30 := ⟨by decide +kernel, rfl⟩
theorem iX0_add_30 : xl_G mX0_add 30 0 1 33 := ⟨19, by decide +kernel, rfl, fX0_19⟩
theorem iX0_add_33 : xl_D mX0_add 33 (.imul) 1 34 := ⟨by decide +kernel, rfl⟩
theorem iX0_add_34 : xl_D mX0_add 34 (.iload_n 2) 1 35 := ⟨by decide +kernel, rfl⟩
theorem iX0_add_35 : xl_D mX0_add 35 (.iadd) 1 36 := ⟨by decide +kernel, rfl⟩
theorem iX0_add_36 : xl_D mX0_add 36 (.dup2) 1 37 := ⟨by decide +kernel, rfl⟩
theorem iX0_add_37 : xl_D mX0_add 37 (.iaload) 1 38 := ⟨by decide +kernel, rfl⟩
theorem iX0_add_38 : xl_D mX0_add 38 (.iload_n 3) 1 39 := ⟨by decide +kernel, rfl⟩
theorem iX0_add_39 : xl_D mX0_add 39 (.iadd) 1 40 := ⟨by decide +kernel, rfl⟩
theorem iX0_add_40 : xl_D mX0_add 40 (.iastore) 1 41 := ⟨by decide +kernel, rfl⟩
theorem iX0_add_41 : xl_D mX0_add 41 (.return_) 1 42 := ⟨by decide +kernel, rfl⟩
theorem iX0_clear_0 : xl_D mX0_clear 0 (.aload_n 0) 1 1 := ⟨by decide +kernel, rfl⟩
theorem iX0_clear_1 : xl_D mX0_clear 1 (.iconst 0) 1 2 := ⟨by decide +kernel, rfl⟩
theorem iX0_clear_2 : xl_P mX0_clear 2 0 3 .int 5 := ⟨26, by decide +kernel, rfl, wX0_26⟩
theorem iX0_clear_5 : xl_D mX0_clear 5 (.return_) 1 6 := ⟨by decide +kernel, rfl⟩
theorem iX0_reach_0 : xl_D mX0_reach 0 (.iload_n 1) 1 1 := ⟨by decide +kernel, rfl⟩
theorem iX0_reach_1 : xl_D mX0_reach 1 (.aload_n 0) 1 2 := ⟨by decide +kernel, rfl⟩
theorem iX0_reach_2 : xl_G mX0_reach 2 0 3 5 := ⟨26, by decide +kernel, rfl, fX0_26⟩
theorem iX0_reach_5 : xl_J mX0_reach 5 (fun o => .if_icmp .lt o) 8 23 := ⟨18, by decide +kernel, rfl, rfl⟩
theorem iX0_reach_8 : xl_D mX0_reach 8 (.iload_n 1) 1 9 := ⟨by decide +kernel, rfl⟩
theorem iX0_reach_9 : xl_D mX0_reach 9 (.aload_n 0) 1 10 := ⟨by decide +kernel, rfl⟩
theorem iX0_reach_10 : xl_G mX0_reach 10 0 0 13 := ⟨13, by decide +kernel, rfl, fX0_13⟩
theorem iX0_reach_13 : xl_J mX0_reach 13 (fun o => .if_icmp .ge o) 16 23 := ⟨10, by decide +kernel, rfl, rfl⟩
theorem iX0_reach_16 : xl_D mX0_reach 16 (.aload_n 0) 1 17 := ⟨by decide +kernel, rfl⟩
theorem iX0_reach_17 : xl_D mX0_reach 17 (.iload_n 1) 1 18 := ⟨by decide +kernel, rfl⟩
theorem iX0_reach_18 : xl_D mX0_reach 18 (.iconst 1) 1 19 := ⟨by decide +kernel, rfl⟩
theorem iX0_reach_19 : xl_D mX0_reach 19 (.iadd) 1 20 := ⟨by decide +kernel, rfl⟩
theorem iX0_reach_20 : xl_P mX0_reach 20 0 3 .int 23 := ⟨26, by decide +kernel, rfl, wX0_26⟩
theorem iX0_reach_23 : xl_D mX0_reach 23 (.return_) 1 24 := ⟨by decide +kernel, rfl⟩
theorem iX0_open_0 : xl_D mX0_open 0 (.iload_n 1) 1 1 := ⟨by decide +kernel, rfl⟩
theorem iX0_open_1 : xl_J mX0_open 1 (fun o => .ifCond .lt o) 4 23 := ⟨22, by decide +kernel, rfl, rfl⟩
theorem iX0_open_4 : xl_D mX0_open 4 (.iload_n 1) 1 5 := ⟨by decide +kernel, rfl⟩
theorem iX0_open_5 : xl_D mX0_open 5 (.aload_n 0) 1 6 := ⟨by decide +kernel, rfl⟩
theorem iX0_open_6 : xl_G mX0_open 6 0 3 9 := ⟨26, by decide +kernel, rfl, fX0_26⟩
theorem iX0_open_9 : xl_J mX0_open 9 (fun o => .if_icmp .gt o) 12 23 := ⟨14, by decide +kernel, rfl, rfl⟩
theorem iX0_open_12 : xl_D mX0_open 12 (.aload_n 0) 1 13 := ⟨by decide +kernel, rfl⟩
theorem iX0_open_13 : xl_G mX0_open 13 0 3 16 := ⟨26, by decide +kernel, rfl, fX0_26⟩
theorem iX0_open_16 : xl_D mX0_open 16 (.aload_n 0) 1 17 := ⟨by decide +kernel, rfl⟩
theorem iX0_open_17 : xl_G mX0_open 17 0 0 20 := ⟨13, by decide +kernel, rfl, fX0_13⟩
theorem iX0_open_20 : xl_J mX0_open 20 (fun o => .if_icmp .lt o) 23 25 := ⟨5, by decide +kernel, rfl, rfl⟩
theorem iX0_open_23 : xl_D mX0_open 23 (.iconst 0) 1 24 := ⟨by decide +kernel, rfl⟩
theorem iX0_open_24 : xl_D mX0_open 24 (.ireturn) 1 25 := ⟨by decide +kernel, rfl⟩
theorem iX0_open_25 : xl_D mX0_open 25 (.aload_n 0) 1 26 := ⟨by decide +kernel, rfl⟩
theorem iX0_open_26 : xl_G mX0_open 26 0 2 29 := ⟨22, by decide +kernel, rfl, fX0_22⟩
theorem iX0_open_29 : xl_D mX0_open 29 (.iload_n 1) 1 30 := ⟨by decide +kernel, rfl⟩
theorem iX0_open_30 : xl_D mX0_open 30 (.aload_n 0) 1 31 := ⟨by decide +kernel, rfl⟩
theorem iX0_open_31 : xl_G mX0_open 31 0 1 34 := ⟨19, by decide +kernel, rfl, fX0_19⟩
theorem iX0_open_34 : xl_D mX0_open 34 (.imul) 1 35 := ⟨by decide +kernel, rfl⟩
theorem iX0_open_35 : xl_D mX0_open 35 (.aload_n 0) 1 36 := ⟨by decide +kernel, rfl⟩
theorem iX0_open_36 : xl_G mX0_open 36 0 2 39 := ⟨22, by decide +kernel, rfl, fX0_22⟩
theorem iX0_open_39 : xl_D mX0_open 39 (.iload_n 1) 1 40 := ⟨by decide +kernel, rfl⟩
theorem iX0_open_40 : xl_D mX0_open 40 (.iconst 1) 1 41 := ⟨by decide +kernel, rfl⟩
theorem iX0_open_41 : xl_D mX0_open 41 (.iadd) 1 42 := ⟨by decide +kernel, rfl⟩
theorem iX0_open_42 : xl_D mX0_open 42 (.aload_n 0) 1 43 := ⟨by decide +kernel, rfl⟩
theorem iX0_open_43 : xl_G mX0_open 43 0 1 46 := ⟨19, by decide +kernel, rfl, fX0_19⟩
theorem iX0_open_46 : xl_D mX0_open 46 (.imul) 1 47 := ⟨by decide +kernel, rfl⟩
theorem iX0_open_47 : xl_D mX0_open 47 (.aload_n 0) 1 48 := ⟨by decide +kernel, rfl⟩
theorem iX0_open_48 : xl_G mX0_open 48 0 3 51 := ⟨26, by decide +kernel, rfl, fX0_26⟩
theorem iX0_open_51 : xl_D mX0_open 51 (.iload_n 1) 1 52 := ⟨by decide +kernel, rfl⟩
theorem iX0_open_52 : xl_D mX0_open 52 (.isub) 1 53 := ⟨by decide +kernel, rfl⟩
theorem iX0_open_53 : xl_D mX0_open 53 (.aload_n 0) 1 54 := ⟨by decide +kernel, rfl⟩
theorem iX0_open_54 : xl_G mX0_open 54 0 1 57 := ⟨19, by decide +kernel, rfl, fX0_19⟩
theorem iX0_open_57 : xl_D mX0_open 57 (.imul) 1 58 := ⟨by decide +kernel, rfl⟩
theorem iX0_open_58 : xl_Cy mX0_open 58 61 := ⟨29, by decide +kernel, rfl, lX0_29, xl_acn, xl_acs, xl_iSystem, Nat.le_of_ble_eq_true rfl, Nat.le_of_ble_eq_true rfl⟩
theorem iX0_open_61 : xl_D mX0_open 61 (.iconst 0) 1 62 := ⟨by decide +kernel, rfl⟩
theorem iX0_open_62 : xl_D mX0_open 62 (.istore_n 2) 1 63 := ⟨by decide +kernel, rfl⟩
theorem iX0_open_63 : xl_D mX0_open 63 (.iload_n 2) 1 64 := ⟨by decide +kernel, rfl⟩
theorem iX0_open_64 : xl_D mX0_open 64 (.aload_n 0) 1 65 := ⟨by decide +kernel, rfl⟩
theorem iX0_open_65 : xl_G mX0_open 65 0 1 68 := ⟨19, by decide +kernel, rfl, fX0_19⟩
theorem iX0_open_68 : xl_J mX0_open 68 (fun o => .if_icmp .ge o) 71 84 := ⟨16, by decide +kernel, rfl, rfl⟩
theorem iX0_open_71 : xl_D mX0_open 71 (.aload_n 0) 1 72 := ⟨by decide +kernel, rfl⟩
theorem iX0_open_72 : xl_D mX0_open 72 (.iload_n 1) 1 73 := ⟨by decide +kernel, rfl⟩
theorem iX0_open_73 : xl_D mX0_open 73 (.iload_n 2) 1 74 := ⟨by decide +kernel, rfl⟩
theorem iX0_open_74 : xl_D mX0_open 74 (.iconst 0) 1 75 := ⟨by decide +kernel, rfl⟩
theorem iX0_open_75 : xl_Ca mX0_open 75 mX0_set 78 := ⟨35, by decide +kernel, rfl, lX0_35, Nat.le_of_ble_eq_true rfl, Nat.le_of_ble_eq_true rfl⟩
theorem iX0_open_78 : xl_D mX0_open 78 (.iinc 2 1) 3 81 := ⟨by decide +kernel, rfl⟩
theorem iX0_open_81 : xl_J mX0_open 81 (fun o => .goto o) 84 63 := ⟨-18, by decide +kernel, rfl, rfl⟩
theorem iX0_open_84 : xl_D mX0_open 84 (.aload_n 0) 1 85 := ⟨by decide +kernel, rfl⟩
theorem iX0_open_85 : xl_D mX0_open 85 (.dup) 1 86 := ⟨by decide +kernel, rfl⟩
theorem iX0_open_86 : xl_G mX0_open 86 0 3 89 := ⟨26, by decide +kernel, rfl, fX0_26⟩
theorem iX0_open_89 : xl_D mX0_open 89 (.iconst 1) 1 90 := ⟨by decide +kernel, rfl⟩
theorem iX0_open_90 : xl_D mX0_open 90 (.iadd) 1 91 := ⟨by decide +kernel, rfl⟩
theorem iX0_open_91 : xl_P mX0_open 91 0 3 .int 94 := ⟨26, by decide +kernel, rfl, wX0_26⟩
theorem iX0_open_94 : xl_D mX0_open 94 (.iconst 1) 1 95 := ⟨by decide +kernel, rfl⟩
theorem iX0_open_95 : xl_D mX0_open 95 (.ireturn) 1 96 := ⟨by decide +kernel, rfl⟩
theorem iX0_drop_0 : xl_D mX0_drop 0 (.iload_n 1) 1 1 := ⟨by decide +kernel, rfl⟩
theorem iX0_drop_1 : xl_J mX0_drop 1 (fun o => .ifCond .lt o) 4 12 := ⟨11, by decide +kernel, rfl, rfl⟩
theorem iX0_drop_4 : xl_D mX0_drop 4 (.iload_n 1) 1 5 := ⟨by decide +kernel, rfl⟩
theorem iX0_drop_5 : xl_D mX0_drop 5 (.aload_n 0) 1 6 := ⟨by decide +kernel, rfl⟩
theorem iX0_drop_6 : xl_G mX0_drop 6 0 3 9 := ⟨26, by decide +kernel, rfl, fX0_26⟩
theorem iX0_drop_9 : xl_J mX0_drop 9 (fun o => .if_icmp .lt o) 12 13 := ⟨4, by decide +kernel, rfl, rfl⟩
theorem iX0_drop_12 : xl_D mX0_drop 12 (.return_) 1 13 := ⟨by decide +kernel, rfl⟩
theorem iX0_drop_13 : xl_D mX0_drop 13 (.aload_n 0) 1 14 := ⟨by decide +kernel, rfl⟩
theorem iX0_drop_14 : xl_G mX0_drop 14 0 2 17 := ⟨22, by decide +kernel, rfl, fX0_22⟩
theorem iX0_drop_17 : xl_D mX0_drop 17 (.iload_n 1) 1 18 := ⟨by decide +kernel, rfl⟩
theorem iX0_drop_18 : xl_D mX0_drop 18 (.iconst 1) 1 19 := ⟨by decide +kernel, rfl⟩
theorem iX0_drop_19 : xl_D mX0_drop 19 (.iadd) 1 20 := ⟨by decide +kernel, rfl⟩
theorem iX0_drop_20 : xl_D mX0_drop 20 (.aload_n 0) 1 21 := ⟨by decide +kernel, rfl⟩
theorem iX0_drop_21 : xl_G mX0_drop 21 0 1 24 := ⟨19, by decide +kernel, rfl, fX0_19⟩
theorem iX0_drop_24 : xl_D mX0_drop 24 (.imul) 1 25 := ⟨by decide +kernel, rfl⟩
theorem iX0_drop_25 : xl_D mX0_drop 25 (.aload_n 0) 1 26 := ⟨by decide +kernel, rfl⟩
theorem iX0_drop_26 : xl_G mX0_drop 26 0 2 29 := ⟨22, by decide +kernel, rfl, fX0_22⟩
theorem iX0_drop_29 : xl_D mX0_drop 29 (.iload_n 1) 1 30 := ⟨by decide +kernel, rfl⟩
theorem iX0_drop_30 : xl_D mX0_drop 30 (.aload_n 0) 1 31 := ⟨by decide +kernel, rfl⟩
theorem iX0_drop_31 : xl_G mX0_drop 31 0 1 34 := ⟨19, by decide +kernel, rfl, fX0_19⟩
theorem iX0_drop_34 : xl_D mX0_drop 34 (.imul) 1 35 := ⟨by decide +kernel, rfl⟩
theorem iX0_drop_35 : xl_D mX0_drop 35 (.aload_n 0) 1 36 := ⟨by decide +kernel, rfl⟩
theorem iX0_drop_36 : xl_G mX0_drop 36 0 3 39 := ⟨26, by decide +kernel, rfl, fX0_26⟩
theorem iX0_drop_39 : xl_D mX0_drop 39 (.iload_n 1) 1 40 := ⟨by decide +kernel, rfl⟩
theorem iX0_drop_40 : xl_D mX0_drop 40 (.isub) 1 41 := ⟨by decide +kernel, rfl⟩
theorem iX0_drop_41 : xl_D mX0_drop 41 (.iconst 1) 1 42 := ⟨by decide +kernel, rfl⟩
theorem iX0_drop_42 : xl_D mX0_drop 42 (.isub) 1 43 := ⟨by decide +kernel, rfl⟩
theorem iX0_drop_43 : xl_D mX0_drop 43 (.aload_n 0) 1 44 := ⟨by decide +kernel, rfl⟩
theorem iX0_drop_44 : xl_G mX0_drop 44 0 1 47 := ⟨19, by decide +kernel, rfl, fX0_19⟩
theorem iX0_drop_47 : xl_D mX0_drop 47 (.imul) 1 48 := ⟨by decide +kernel, rfl⟩
theorem iX0_drop_48 : xl_Cy mX0_drop 48 51 := ⟨29, by decide +kernel, rfl, lX0_29, xl_acn, xl_acs, xl_iSystem, Nat.le_of_ble_eq_true rfl, Nat.le_of_ble_eq_true rfl⟩
theorem iX0_drop_51 : xl_D mX0_drop 51 (.aload_n 0) 1 52 := ⟨by decide +kernel, rfl⟩
theorem iX0_drop_52 : xl_D mX0_drop 52 (.dup) 1 53 := ⟨by decide +kernel, rfl⟩
theorem iX0_drop_53 : xl_G mX0_drop 53 0 3 56 := ⟨26, by decide +kernel, rfl, fX0_26⟩
theorem iX0_drop_56 : xl_D mX0_drop 56 (.iconst 1) 1 57 := ⟨by decide +kernel, rfl⟩
theorem iX0_drop_57 : xl_D mX0_drop 57 (.isub) 1 58 := ⟨by decide +kernel, rfl⟩
theorem iX0_drop_58 : xl_P mX0_drop 58 0 3 .int 61 := ⟨26, by decide +kernel, rfl, wX0_26⟩
theorem iX0_drop_61 : xl_D mX0_drop 61 (.return_) 1 62 := ⟨by decide +kernel, rfl⟩
theorem iX0_copyRow_0 : xl_D mX0_copyRow 0 (.aload_n 2) 1 1 := ⟨by decide +kernel, rfl⟩
theorem iX0_copyRow_1 : xl_J mX0_copyRow 1 (fun o => .ifnonnull o) 4 5 := ⟨4, by decide +kernel, rfl, rfl⟩
theorem iX0_copyRow_4 : xl_D mX0_copyRow 4 (.return_) 1 5 := ⟨by decide +kernel, rfl⟩
theorem iX0_copyRow_5 : xl_D mX0_copyRow 5 (.iconst 0) 1 6 := ⟨by decide +kernel, rfl⟩
theorem iX0_copyRow_6 : xl_D mX0_copyRow 6 (.istore 4) 2 8 := ⟨by decide +kernel, rfl⟩
theorem iX0_copyRow_8 : xl_D mX0_copyRow 8 (.iload 4) 2 10 := ⟨by decide +kernel, rfl⟩
theorem iX0_copyRow_10 : xl_D mX0_copyRow 10 (.aload_n 0) 1 11 := ⟨by decide +kernel, rfl⟩
theorem iX0_copyRow_11 : xl_G mX0_copyRow 11 0 1 14 := ⟨19, by decide +kernel, rfl, fX0_19⟩
theorem iX0_copyRow_14 : xl_J mX0_copyRow 14 (fun o => .if_icmp .ge o) 17 37 := ⟨23, by decide +kernel, rfl, rfl⟩
theorem iX0_copyRow_17 : xl_D mX0_copyRow 17 (.aload_n 0) 1 18 := ⟨by decide +kernel, rfl⟩
theorem iX0_copyRow_18 : xl_D mX0_copyRow 18 (.iload_n 1) 1 19 := ⟨by decide +kernel, rfl⟩
theorem iX0_copyRow_19 : xl_D mX0_copyRow 19 (.iload 4) 2 21 := ⟨by decide +kernel, rfl⟩
theorem iX0_copyRow_21 : xl_D mX0_copyRow 21 (.aload_n 2) 1 22 := ⟨by decide +kernel, rfl⟩
theorem iX0_copyRow_22 : xl_D mX0_copyRow 22 (.iload_n 3) 1 23 := ⟨by decide +kernel, rfl⟩
theorem iX0_copyRow_23 : xl_D mX0_copyRow 23 (.iload 4) 2 25 := ⟨by decide +kernel, rfl⟩
theorem iX0_copyRow_25 : xl_Ca mX0_copyRow 25 mX0_get 28 := ⟨39, by decide +kernel, rfl, lX0_39, Nat.le_of_ble_eq_true rfl, Nat.le_of_ble_eq_true rfl⟩
theorem iX0_copyRow_28 : xl_Ca mX0_copyRow 28 mX0_set 31 := ⟨35, by decide +kernel, rfl, lX0_35, Nat.le_of_ble_eq_true rfl, Nat.le_of_ble_eq_true rfl⟩
theorem iX0_copyRow_31 : xl_D mX0_copyRow 31 (.iinc 4 1) 3 34 := ⟨by decide +kernel, rfl⟩
theorem iX0_copyRow_34 : xl_J mX0_copyRow 34 (fun o => .goto o) 37 8 := ⟨-26, by decide +kernel, rfl, rfl⟩
theorem iX0_copyRow_37 : xl_D mX0_copyRow 37 (.return_) 1 38 := ⟨by decide +kernel, rfl⟩
theorem iX0_copyFrom_0 : xl_D mX0_copyFrom 0 (.aload_n 1) 1 1 := ⟨by decide +kernel, rfl⟩
theorem iX0_copyFrom_1 : xl_J mX0_copyFrom 1 (fun o => .ifnull o) 4 17 := ⟨16, by decide +kernel, rfl, rfl⟩
theorem iX0_copyFrom_4 : xl_D mX0_copyFrom 4 (.aload_n 1) 1 5 := ⟨by decide +kernel, rfl⟩
theorem iX0_copyFrom_5 : xl_G mX0_copyFrom 5 0 2 8 := ⟨22, by decide +kernel, rfl, fX0_22⟩
theorem iX0_copyFrom_8 : xl_D mX0_copyFrom 8 (.arraylength) 1 9 := ⟨by decide +kernel, rfl⟩
theorem iX0_copyFrom_9 : xl_D mX0_copyFrom 9 (.aload_n 0) 1 10 := ⟨by decide +kernel, rfl⟩
theorem iX0_copyFrom_10 : xl_G mX0_copyFrom 10 0 2 13 := ⟨22, by decide +kernel, rfl, fX0_22⟩
theorem iX0_copyFrom_13 : xl_D mX0_copyFrom 13 (.arraylength) 1 14 := ⟨by decide +kernel, rfl⟩
theorem iX0_copyFrom_14 : xl_J mX0_copyFrom 14 (fun o => .if_icmp .eq o) 17 18 := ⟨4, by decide +kernel, rfl, rfl⟩
theorem iX0_copyFrom_17 : xl_D mX0_copyFrom 17 (.return_) 1 18 := ⟨by decide +kernel, rfl⟩
theorem iX0_copyFrom_18 : xl_D mX0_copyFrom 18 (.aload_n 0) 1 19 := ⟨by decide +kernel, rfl⟩
theorem iX0_copyFrom_19 : xl_D mX0_copyFrom 19 (.aload_n 1) 1 20 := ⟨by decide +kernel, rfl⟩
theorem iX0_copyFrom_20 : xl_G mX0_copyFrom 20 0 3 23 := ⟨26, by decide +kernel, rfl, fX0_26⟩
theorem iX0_copyFrom_23 : xl_P mX0_copyFrom 23 0 3 .int 26 := ⟨26, by decide +kernel, rfl, wX0_26⟩
theorem iX0_copyFrom_26 : xl_D mX0_copyFrom 26 (.aload_n 1) 1 27 := ⟨by decide +kernel, rfl⟩
theorem iX0_copyFrom_27 : xl_G mX0_copyFrom 27 0 2 30 := ⟨22, by decide +kernel, rfl, fX0_22⟩
theorem iX0_copyFrom_30 : xl_D mX0_copyFrom 30 (.iconst 0) 1 31 := ⟨by decide +kernel, rfl⟩
theorem iX0_copyFrom_31 : xl_D mX0_copyFrom 31 (.aload_n 0) 1 32 := ⟨by decide +kernel, rfl⟩
theorem iX0_copyFrom_32 : xl_G mX0_copyFrom 32 0 2 35 := ⟨22, by decide +kernel, rfl, fX0_22⟩
theorem iX0_copyFrom_35 : xl_D mX0_copyFrom 35 (.iconst 0) 1 36 := ⟨by decide +kernel, rfl⟩
theorem iX0_copyFrom_36 : xl_D mX0_copyFrom 36 (.aload_n 0) 1 37 := ⟨by decide +kernel, rfl⟩
theorem iX0_copyFrom_37 : xl_G mX0_copyFrom 37 0 3 40 := ⟨26, by decide +kernel, rfl, fX0_26⟩
theorem iX0_copyFrom_40 : xl_D mX0_copyFrom 40 (.aload_n 0) 1 41 := ⟨by decide +kernel, rfl⟩
theorem iX0_copyFrom_41 : xl_G mX0_copyFrom 41 0 1 44 := ⟨19, by decide +kernel, rfl, fX0_19⟩
theorem iX0_copyFrom_44 : xl_D mX0_copyFrom 44 (.imul) 1 45 := ⟨by decide +kernel, rfl⟩
theorem iX0_copyFrom_45 : xl_D mX0_copyFrom 45 (.aload_n 0) 1 46 := ⟨by decide +kernel, rfl⟩
theorem iX0_copyFrom_46 : xl_G mX0_copyFrom 46 0 2 49 := ⟨22, by decide +kernel, rfl, fX0_22⟩
theorem iX0_copyFrom_49 : xl_D mX0_copyFrom 49 (.arraylength) 1 50 := ⟨by decide +kernel, rfl⟩
theorem iX0_copyFrom_50 : xl_Cm mX0_copyFrom 50 Lib.Math.min.name Lib.Math.min.code 53 := ⟨42, by decide +kernel, rfl, lX0_42, xl_stmin, xl_iMath, xl_comin, Nat.le_of_ble_eq_true rfl, Nat.le_of_ble_eq_true rfl⟩
theorem iX0_copyFrom_53 : xl_Cy mX0_copyFrom 53 56 := ⟨29, by decide +kernel, rfl, lX0_29, xl_acn, xl_acs, xl_iSystem, Nat.le_of_ble_eq_true rfl, Nat.le_of_ble_eq_true rfl⟩
theorem iX0_copyFrom_56 : xl_D mX0_copyFrom 56 (.return_) 1 57 := ⟨by decide +kernel, rfl⟩
theorem iJ7_fill_53178_0 : xl_D mJ7_fill_53178 0 (.iconst 0) 1 1 := ⟨by decide +kernel, rfl⟩
theorem iJ7_fill_53178_1 : xl_D mJ7_fill_53178 1 (.istore_n 2) 1 2 := ⟨by decide +kernel, rfl⟩
theorem iJ7_fill_53178_2 : xl_D mJ7_fill_53178 2 (.aload_n 0) 1 3 := ⟨by decide +kernel, rfl⟩
theorem iJ7_fill_53178_3 : xl_D mJ7_fill_53178 3 (.arraylength) 1 4 := ⟨by decide +kernel, rfl⟩
theorem iJ7_fill_53178_4 : xl_D mJ7_fill_53178 4 (.istore_n 3) 1 5 := ⟨by decide +kernel, rfl⟩
theorem iJ7_fill_53178_5 : xl_D mJ7_fill_53178 5 (.iload_n 2) 1 6 := ⟨by decide +kernel, rfl⟩
theorem iJ7_fill_53178_6 : xl_D mJ7_fill_53178 6 (.iload_n 3) 1 7 := ⟨by decide +kernel, rfl⟩
theorem iJ7_fill_53178_7 : xl_J mJ7_fill_53178 7 (fun o => .if_icmp .ge o) 10 20 := ⟨13, by decide +kernel, rfl, rfl⟩
theorem iJ7_fill_53178_10 : xl_D mJ7_fill_53178 10 (.aload_n 0) 1 11 := ⟨by decide +kernel, rfl⟩
theorem iJ7_fill_53178_11 : xl_D mJ7_fill_53178 11 (.iload_n 2) 1 12 := ⟨by decide +kernel, rfl⟩
theorem iJ7_fill_53178_12 : xl_D mJ7_fill_53178 12 (.iload_n 1) 1 13 := ⟨by decide +kernel, rfl⟩
theorem iJ7_fill_53178_13 : xl_D mJ7_fill_53178 13 (.iastore) 1 14 := ⟨by decide +kernel, rfl⟩
theorem iJ7_fill_53178_14 : xl_D mJ7_fill_53178 14 (.iinc 2 1) 3 17 := ⟨by decide +kernel, rfl⟩
theorem iJ7_fill_53178_17 : xl_J mJ7_fill_53178 17 (fun o => .goto o) 20 5 := ⟨-12, by decide +kernel, rfl, rfl⟩
theorem iJ7_fill_53178_20 : xl_D mJ7_fill_53178 20 (.return_) 1 21 := ⟨by decide +kernel, rfl⟩
end
section
/-! ===== ops: a block of code as a predicate transformer over plain data; whole numbers, a view of the cells (σ with enc) ===== -/
abbrev xB (z : Int) : Prop := -2147483648 ≤ z ∧ z ≤ 2147483647
abbrev PV : Type := Int ⊕ (Int ⊕ (Nat ⊕ Nat))
abbrev PL : Type := List (Option PV)
abbrev PS : Type := List PV
abbrev pI (z : Int) : PV := .inl z
abbrev pJ (z : Int) : PV := .inr (.inl z)
abbrev pR (r : Nat) : PV := .inr (.inr (.inl r))
abbrev pS (j : Nat) : PV := .inr (.inr (.inr j))
def pV : PV → Value := fun v => match v with
  | .inl z => .int (iI z)
  | .inr (.inl z) => .long (lI z)
  | .inr (.inr (.inl r)) => .ref r
  | .inr (.inr (.inr j)) => .float j.toUInt32
def eL (L : PL) : List (Option Value) := L.map (Option.map pV)
theorem eL_n (L : PL) (i : Nat) : xl_n (eL L) i = (xl_n L i).map (Option.map pV) := by
  rw [xl_n_eq, xl_n_eq, eL, List.getElem?_map]
theorem eL_s (L : PL) (i : Nat) (v : PV) : xl_s (eL L) i (some (pV v)) = eL (xl_s L i (some v)) := by
  rw [xl_s_eq, xl_s_eq, eL, eL, List.map_set]; rfl
theorem eL_at {L : PL} {i : Nat} {v : PV} (h : xl_n L i = some (some v)) : xl_n (eL L) i = some (some (pV v)) := by rw [eL_n, h]; rfl
/-- no value of two words ends at a place -/
def pk : PL → Nat → Bool
  | [], _ => true
  | _ :: _, 0 => true
  | a :: _, 1 => match a with
    | some (.inr (.inl _)) => false
    | _ => true
  | _ :: l, k + 2 => pk l (k + 1)
theorem pk_ok : ∀ (L : PL) (i : Nat), pk L i = true → xl_k (eL L) i = true
  | [], i, _ => by cases i <;> rfl
  | a :: l, 0, _ => rfl
  | a :: l, 1, h => by
    cases a with
    | none => rfl
    | some v => 
      rcases v with z | z | r | j
      · rfl
      · simp [pk] at h
      · rfl
      · rfl
  | a :: l, k + 2, h => pk_ok l (k + 1) h
/-- what is dead at a place is forgotten -/
def pm : List Bool → PL → PL
  | [], L => L
  | _, [] => []
  | true :: m, a :: l => a :: pm m l
  | false :: m, _ :: l => none :: pm m l
theorem pm_n : ∀ (m : List Bool) (L : PL) (i : Nat) (v : PV), xl_n (pm m L) i = some (some v) → xl_n L i = some (some v)
  | [], L, i, v, h => h
  | _ :: _, [], i, v, h => by simp [pm, xl_n] at h
  | true :: m, a :: l, 0, v, h => h
  | false :: m, a :: l, 0, v, h => by simp [pm, xl_n] at h
  | true :: m, a :: l, i + 1, v, h => pm_n m l i v h
  | false :: m, a :: l, i + 1, v, h => pm_n m l i v h
theorem xl_weak {M : XI} {rc rs pc : Nat} {L L' : List (Option Value)} {st : List Value} {h : XH} {Po : Option (Option Value) → XH → Prop} (hl : ∀ i v, xl_n L' i = some (some v) → xl_n L i = some (some v)) (k : xl_W M rc rs pc L' st h Po) : xl_W M rc rs pc L st h Po := by
  intro p l e R s m args below meth c D aC ρ σ aV A H locs cells slots ls Q hX hH hL h1 h2 hr ht
  exact k p l e R s m args below meth c D aC ρ σ aV A H locs cells slots ls Q hX hH ⟨hL.1, hL.2.1, fun i v hi => hL.2.2 i v (hl i v hi)⟩ h1 h2 hr ht
theorem pm_weak {M : XI} {rc rs pc : Nat} {m : List Bool} {L : PL} {st : List Value} {h : XH} {Po : Option (Option Value) → XH → Prop} (k : xl_W M rc rs pc (eL (pm m L)) st h Po) : xl_W M rc rs pc (eL L) st h Po := by
  refine xl_weak (fun i v hi => ?_) k
  rw [eL_n] at hi ⊢
  cases hx : xl_n (pm m L) i with
  | none => rw [hx] at hi; cases hi
  | some o =>
    cases o with
    | none => rw [hx] at hi; cases hi
    | some w => rw [hx] at hi; rw [pm_n m L i w hx]; exact hi
section WX
variable {σ : Type}
abbrev JP (σ : Type) : Type := Nat → PL → PS → σ → Prop
abbrev Blk (σ : Type) : Type := JP σ → PL → PS → σ → Prop
/-- a method's end, plainly -/
def wQ (enc : σ → XH) (bd : σ → Prop) (Po : PS → σ → Prop) (Pt : σ → Prop) : Option (Option Value) → XH → Prop := fun r h' => match r with
  | some v => ∃ (v' : PS) (s' : σ), v.toList = v'.map pV ∧ h' = enc s' ∧ bd s' ∧ (∀ a, v ≠ some (.ref a)) ∧ Po v' s'
  | none => ∃ s' : σ, h' = enc s' ∧ bd s' ∧ Pt s'
def wX (enc : σ → XH) (bd : σ → Prop) (M : XI) (rc rs : Nat) (Po : PS → σ → Prop) (Pt : σ → Prop) : JP σ := fun pc L st s =>
  bif Nat.beq pc 1000000 then Po st s else bif Nat.beq pc 1000001 then Pt s else (bd s → xl_W M rc rs pc (eL L) (st.map pV) (enc s) (wQ enc bd Po Pt))
def bOk (enc : σ → XH) (bd : σ → Prop) (M : XI) (rc rs pc : Nat) (B : Blk σ) : Prop :=
  ∀ Po Pt (J : JP σ), (∀ pc L st s, J pc L st s → wX enc bd M rc rs Po Pt pc L st s) → ∀ L st s, bd s → B J L st s → xl_W M rc rs pc (eL L) (st.map pV) (enc s) (wQ enc bd Po Pt)
/-- the blocks, one behind another, up to a cut -/
def pIn : List Nat → Nat → Bool
  | [], _ => false
  | a :: l, k => bif Nat.beq k a then true else pIn l k
def wp (T : Nat → Blk σ) (cut : List Nat) (J : JP σ) : Nat → JP σ
  | 0, pc, L, st, s => J pc L st s
  | n + 1, pc, L, st, s => bif Nat.ble 1000000 pc then J pc L st s else bif pIn cut pc then J pc L st s else T pc (wp T cut J n) L st s
variable {enc : σ → XH} {bd : σ → Prop} {M : XI} {rc rs pc pc2 tgt : Nat} {B : Blk σ}
theorem beqF {a b : Nat} (h : a < b) : Nat.beq a b = false := by
  cases e : Nat.beq a b with
  | false => rfl
  | true => have := Nat.eq_of_beq_eq_true e; omega
theorem wX_lt {Po : PS → σ → Prop} {Pt : σ → Prop} {L : PL} {st : PS} {s : σ} (h : tgt < 1000000) : wX enc bd M rc rs Po Pt tgt L st s = (bd s → xl_W M rc rs tgt (eL L) (st.map pV) (enc s) (wQ enc bd Po Pt)) := by
  unfold wX
  rw [beqF h, beqF (by omega)]
  rfl
end WX
end
section
/-! ===== the ops and why they hold ===== -/
def pw : PS → Nat
  | [] => 0
  | .inr (.inl _) :: l => 2 + pw l
  | _ :: l => 1 + pw l
theorem pw_ok : ∀ (st : PS), ((st.map pV).map fun v => if xl_1 v = true then 1 else 2).sum = pw st
  | [] => rfl
  | v :: l => by
    have ih := pw_ok l
    rcases v with z | z | r | j <;> simp only [List.map_cons, List.sum_cons, ih] <;> rfl
section OPS
variable {σ : Type} {enc : σ → XH} {bd : σ → Prop} {M : XI} {rc rs pc pc2 tgt : Nat} {B : Blk σ}
abbrev Sp (σ : Type) : Type := List PV → σ → (PS → σ → Prop) → Prop
def oTo (t : Nat) : Blk σ := fun J L st s => J t L st s
def oM (m : List Bool) (B : Blk σ) : Blk σ := fun J L st s => B J (pm m L) st s
theorem okTo (h : pc < 1000000) : bOk enc bd M rc rs pc (oTo pc) := by
  intro Po Pt J hJ L st s hb h1
  have := hJ _ _ _ _ h1
  rw [wX_lt h] at this
  exact this hb
theorem okM {m : List Bool} (k : bOk enc bd M rc rs pc B) : bOk enc bd M rc rs pc (oM m B) := by
  intro Po Pt J hJ L st s hb h1
  exact pm_weak (k Po Pt J hJ _ _ _ hb h1)
theorem okGoto (h : tgt < 1000000) (d : xl_J M pc (fun o => .goto o) pc2 tgt) : bOk enc bd M rc rs pc (oTo tgt) := by
  intro Po Pt J hJ L st s hb h1
  have := hJ _ _ _ _ h1
  rw [wX_lt h] at this
  exact xl_goto d (this hb)
theorem okGotoM {m : List Bool} (h : tgt < 1000000) (d : xl_J M pc (fun o => .goto o) pc2 tgt) : bOk enc bd M rc rs pc (oM m (oTo tgt)) := okM (okGoto h d)
/-- constants -/
def oI (z : Int) (B : Blk σ) : Blk σ := fun J L st s => B J L (.inl z :: st) s
def oJ (z : Int) (B : Blk σ) : Blk σ := fun J L st s => B J L (.inr (.inl z) :: st) s
def oS (j : Nat) (B : Blk σ) : Blk σ := fun J L st s => B J L (.inr (.inr (.inr j)) :: st) s
theorem okIc {n : Int} (d : xl_D M pc (.iconst n) 1 pc2) (k : bOk enc bd M rc rs pc2 B) : bOk enc bd M rc rs pc (oI n B) := fun Po Pt J hJ _ _ _ hb h => xz_iconst d (k Po Pt J hJ _ _ _ hb h)
theorem okBi {n : Int} (d : xl_D M pc (.bipush n) 2 pc2) (hv : (Int8.ofInt n).toInt32 = iI n) (k : bOk enc bd M rc rs pc2 B) : bOk enc bd M rc rs pc (oI n B) := fun Po Pt J hJ _ _ _ hb h => xz_bipush d hv (k Po Pt J hJ _ _ _ hb h)
theorem okSi {n : Int} (d : xl_D M pc (.sipush n) 3 pc2) (hv : (Int16.ofInt n).toInt32 = iI n) (k : bOk enc bd M rc rs pc2 B) : bOk enc bd M rc rs pc (oI n B) := fun Po Pt J hJ _ _ _ hb h => xz_sipush d hv (k Po Pt J hJ _ _ _ hb h)
theorem okLdcw {i : Nat} {v : Int32} {n : Int} (d : xl_D M pc (.ldc_w i) 3 pc2) (hw : Cond.constant M.1.cls i v ∈ xl_T) (hv : v = iI n) (k : bOk enc bd M rc rs pc2 B) : bOk enc bd M rc rs pc (oI n B) := fun Po Pt J hJ _ _ _ hb h => xl_ldcw d hw (by rw [hv]; exact k Po Pt J hJ _ _ _ hb h)
theorem okLc {n : Fin 2} {z : Int} (d : xl_D M pc (.lconst n) 1 pc2) (hz : (n.val : Int) = z) (k : bOk enc bd M rc rs pc2 B) : bOk enc bd M rc rs pc (oJ z B) := fun Po Pt J hJ _ _ _ hb h => xz_lconst d (by rw [hz]; exact k Po Pt J hJ _ _ _ hb h)
theorem okLdc2 {i : Nat} {v : Int64} {n : Int} (d : xl_D M pc (.ldc2_w i) 3 pc2) (hw : Cond.constantLong M.1.cls i v ∈ xl_T) (hv : v = lI n) (k : bOk enc bd M rc rs pc2 B) : bOk enc bd M rc rs pc (oJ n B) := fun Po Pt J hJ _ _ _ hb h => xl_ldc2 d hw (by rw [hv]; exact k Po Pt J hJ _ _ _ hb h)

def oAdd (B : Blk σ) : Blk σ := fun J L st s => match st with
  | .inl b :: .inl a :: st => B J L (.inl (a + b) :: st) s
  | _ => False
theorem okAdd (d : xl_D M pc  .iadd 1 pc2) (k : bOk enc bd M rc rs pc2 B) : bOk enc bd M rc rs pc (oAdd B) := by
  intro Po Pt J hJ L st s hb h
  unfold oAdd at h
  split at h
  · exact xz_iadd d (k Po Pt J hJ _ _ _ hb h)
  · exact h.elim
def oSub (B : Blk σ) : Blk σ := fun J L st s => match st with
  | .inl b :: .inl a :: st => B J L (.inl (a - b) :: st) s
  | _ => False
theorem okSub (d : xl_D M pc  .isub 1 pc2) (k : bOk enc bd M rc rs pc2 B) : bOk enc bd M rc rs pc (oSub B) := by
  intro Po Pt J hJ L st s hb h
  unfold oSub at h
  split at h
  · exact xz_isub d (k Po Pt J hJ _ _ _ hb h)
  · exact h.elim
def oMul (B : Blk σ) : Blk σ := fun J L st s => match st with
  | .inl b :: .inl a :: st => B J L (.inl (a * b) :: st) s
  | _ => False
theorem okMul (d : xl_D M pc  .imul 1 pc2) (k : bOk enc bd M rc rs pc2 B) : bOk enc bd M rc rs pc (oMul B) := by
  intro Po Pt J hJ L st s hb h
  unfold oMul at h
  split at h
  · exact xz_imul d (k Po Pt J hJ _ _ _ hb h)
  · exact h.elim
def oRem (B : Blk σ) : Blk σ := fun J L st s => match st with
  | .inl b :: .inl a :: st => (0 ≤ a ∧ 0 < b ∧ xB a ∧ xB b) ∧ B J L (.inl (a % b) :: st) s
  | _ => False
theorem okRem (d : xl_D M pc  .irem 1 pc2) (k : bOk enc bd M rc rs pc2 B) : bOk enc bd M rc rs pc (oRem B) := by
  intro Po Pt J hJ L st s hb h
  unfold oRem at h
  split at h
  · exact xz_irem d h.1.1 h.1.2.1 h.1.2.2.1 h.1.2.2.2 (k Po Pt J hJ _ _ _ hb h.2)
  · exact h.elim
def oDiv (B : Blk σ) : Blk σ := fun J L st s => match st with
  | .inl b :: .inl a :: st => (0 ≤ a ∧ 0 < b ∧ xB a ∧ xB b) ∧ B J L (.inl (a / b) :: st) s
  | _ => False
theorem okDiv (d : xl_D M pc  .idiv 1 pc2) (k : bOk enc bd M rc rs pc2 B) : bOk enc bd M rc rs pc (oDiv B) := by
  intro Po Pt J hJ L st s hb h
  unfold oDiv at h
  split at h
  · exact xz_idiv d h.1.1 h.1.2.1 h.1.2.2.1 h.1.2.2.2 (k Po Pt J hJ _ _ _ hb h.2)
  · exact h.elim
def oAnd (B : Blk σ) : Blk σ := fun J L st s => match st with
  | .inl b :: .inl a :: st => B J L (.inl (iI a &&& iI b).toInt :: st) s
  | _ => False
theorem okAnd (d : xl_D M pc .iand 1 pc2) (k : bOk enc bd M rc rs pc2 B) : bOk enc bd M rc rs pc (oAnd B) := by
  intro Po Pt J hJ L st s hb h
  unfold oAnd at h
  split at h
  · next b a st =>
    have := k Po Pt J hJ _ _ _ hb h
    rw [List.map_cons, show pV (.inl (iI a &&& iI b).toInt) = .int (iI a &&& iI b) from congrArg Value.int (iI_of _)] at this
    exact xl_iand d this
  · exact h.elim
def oOr (B : Blk σ) : Blk σ := fun J L st s => match st with
  | .inl b :: .inl a :: st => B J L (.inl (iI a ||| iI b).toInt :: st) s
  | _ => False
theorem okOr (d : xl_D M pc .ior 1 pc2) (k : bOk enc bd M rc rs pc2 B) : bOk enc bd M rc rs pc (oOr B) := by
  intro Po Pt J hJ L st s hb h
  unfold oOr at h
  split at h
  · next b a st =>
    have := k Po Pt J hJ _ _ _ hb h
    rw [List.map_cons, show pV (.inl (iI a ||| iI b).toInt) = .int (iI a ||| iI b) from congrArg Value.int (iI_of _)] at this
    exact xl_ior d this
  · exact h.elim
def oShl (B : Blk σ) : Blk σ := fun J L st s => match st with
  | .inl b :: .inl a :: st => B J L (.inl (iI a <<< (iI b &&& 31)).toInt :: st) s
  | _ => False
theorem okShl (d : xl_D M pc .ishl 1 pc2) (k : bOk enc bd M rc rs pc2 B) : bOk enc bd M rc rs pc (oShl B) := by
  intro Po Pt J hJ L st s hb h
  unfold oShl at h
  split at h
  · next b a st =>
    have := k Po Pt J hJ _ _ _ hb h
    rw [List.map_cons, show pV (.inl (iI a <<< (iI b &&& 31)).toInt) = .int (iI a <<< (iI b &&& 31)) from congrArg Value.int (iI_of _)] at this
    exact xl_ishl d this
  · exact h.elim
def oShr (B : Blk σ) : Blk σ := fun J L st s => match st with
  | .inl b :: .inl a :: st => B J L (.inl (iI a >>> (iI b &&& 31)).toInt :: st) s
  | _ => False
theorem okShr (d : xl_D M pc .ishr 1 pc2) (k : bOk enc bd M rc rs pc2 B) : bOk enc bd M rc rs pc (oShr B) := by
  intro Po Pt J hJ L st s hb h
  unfold oShr at h
  split at h
  · next b a st =>
    have := k Po Pt J hJ _ _ _ hb h
    rw [List.map_cons, show pV (.inl (iI a >>> (iI b &&& 31)).toInt) = .int (iI a >>> (iI b &&& 31)) from congrArg Value.int (iI_of _)] at this
    exact xl_ishr d this
  · exact h.elim
def oUshr (B : Blk σ) : Blk σ := fun J L st s => match st with
  | .inl b :: .inl a :: st => B J L (.inl (((iI a).toUInt32 >>> ((iI b).toUInt32 &&& Int32.toUInt32 31)).toInt32).toInt :: st) s
  | _ => False
theorem okUshr (d : xl_D M pc .iushr 1 pc2) (k : bOk enc bd M rc rs pc2 B) : bOk enc bd M rc rs pc (oUshr B) := by
  intro Po Pt J hJ L st s hb h
  unfold oUshr at h
  split at h
  · next b a st =>
    have := k Po Pt J hJ _ _ _ hb h
    rw [List.map_cons, show pV (.inl (((iI a).toUInt32 >>> ((iI b).toUInt32 &&& Int32.toUInt32 31)).toInt32).toInt) = .int (((iI a).toUInt32 >>> ((iI b).toUInt32 &&& Int32.toUInt32 31)).toInt32) from congrArg Value.int (iI_of _)] at this
    exact xl_iushr d this
  · exact h.elim
def oNeg (B : Blk σ) : Blk σ := fun J L st s => match st with
  | .inl a :: st => B J L (.inl (-a) :: st) s
  | _ => False
theorem okNeg (d : xl_D M pc .ineg 1 pc2) (k : bOk enc bd M rc rs pc2 B) : bOk enc bd M rc rs pc (oNeg B) := by
  intro Po Pt J hJ L st s hb h
  unfold oNeg at h
  split at h
  · exact xz_ineg d (k Po Pt J hJ _ _ _ hb h)
  · exact h.elim
def oI2l (B : Blk σ) : Blk σ := fun J L st s => match st with
  | .inl a :: st => xB a ∧ B J L (.inr (.inl a) :: st) s
  | _ => False
theorem okI2l (d : xl_D M pc .i2l 1 pc2) (k : bOk enc bd M rc rs pc2 B) : bOk enc bd M rc rs pc (oI2l B) := by
  intro Po Pt J hJ L st s hb h
  unfold oI2l at h
  split at h
  · exact xz_i2l d h.1 (k Po Pt J hJ _ _ _ hb h.2)
  · exact h.elim
def oLcmp (B : Blk σ) : Blk σ := fun J L st s => match st with
  | .inr (.inl b) :: .inr (.inl a) :: st => (xB a ∧ xB b) ∧ ((a < b → B J L (.inl (-1) :: st) s) ∧ (a = b → B J L (.inl 0 :: st) s) ∧ (b < a → B J L (.inl 1 :: st) s))
  | _ => False
theorem okLcmp (d : xl_D M pc .lcmp 1 pc2) (k : bOk enc bd M rc rs pc2 B) : bOk enc bd M rc rs pc (oLcmp B) := by
  intro Po Pt J hJ L st s hb h
  unfold oLcmp at h
  split at h
  · next b a st =>
    refine xz_lcmp d h.1.1 h.1.2 ?_
    by_cases h1 : a < b
    · rw [if_pos h1]; exact k Po Pt J hJ _ _ _ hb (h.2.1 h1)
    · by_cases h2 : a = b
      · rw [if_neg h1, if_pos h2]; exact k Po Pt J hJ _ _ _ hb (h.2.2.1 h2)
      · rw [if_neg h1, if_neg h2]; exact k Po Pt J hJ _ _ _ hb (h.2.2.2 (by omega))
  · exact h.elim
def oDup (B : Blk σ) : Blk σ := fun J L st s => match st with
  | .inl a :: st => B J L (.inl a :: .inl a :: st) s
  | .inr (.inr a) :: st => B J L (.inr (.inr a) :: .inr (.inr a) :: st) s
  | _ => False
theorem okDup (d : xl_D M pc .dup 1 pc2) (k : bOk enc bd M rc rs pc2 B) : bOk enc bd M rc rs pc (oDup B) := by
  intro Po Pt J hJ L st s hb h
  unfold oDup at h
  split at h
  · exact xl_dup d rfl (k Po Pt J hJ _ _ _ hb h)
  · next a st => rcases a with r | j
                 · exact xl_dup d rfl (k Po Pt J hJ _ _ _ hb h)
                 · exact xl_dup d rfl (k Po Pt J hJ _ _ _ hb h)
  · exact h.elim
def oPop (B : Blk σ) : Blk σ := fun J L st s => match st with
  | .inl _ :: st => B J L st s
  | .inr (.inr _) :: st => B J L st s
  | _ => False
theorem okPop (d : xl_D M pc .pop 1 pc2) (k : bOk enc bd M rc rs pc2 B) : bOk enc bd M rc rs pc (oPop B) := by
  intro Po Pt J hJ L st s hb h
  unfold oPop at h
  split at h
  · exact xl_pop d rfl (k Po Pt J hJ _ _ _ hb h)
  · next a st => rcases a with r | j
                 · exact xl_pop d rfl (k Po Pt J hJ _ _ _ hb h)
                 · exact xl_pop d rfl (k Po Pt J hJ _ _ _ hb h)
  · exact h.elim
/-- an array's place and an index, twice -/
def oDup2 (B : Blk σ) : Blk σ := fun J L st s => match st with
  | .inl a :: .inr (.inr b) :: st => B J L (.inl a :: .inr (.inr b) :: .inl a :: .inr (.inr b) :: st) s
  | _ => False
theorem okDup2 (d : xl_D M pc .dup2 1 pc2) (k : bOk enc bd M rc rs pc2 B) : bOk enc bd M rc rs pc (oDup2 B) := by
  intro Po Pt J hJ L st s hb h
  unfold oDup2 at h
  split at h
  · next a b st => rcases b with r | j
                   · exact xl_dup2 d rfl rfl (k Po Pt J hJ _ _ _ hb h)
                   · exact xl_dup2 d rfl rfl (k Po Pt J hJ _ _ _ hb h)
  · exact h.elim

def oZEq (t : Nat) (B : Blk σ) : Blk σ := fun J L st s => match st with
  | .inl a :: st => xB a ∧ (a = 0 → J t L st s) ∧ (a ≠ 0 → B J L st s)
  | _ => False
theorem okZEq (ht : tgt < 1000000) (d : xl_J M pc (fun o => .ifCond .eq o) pc2 tgt) (k : bOk enc bd M rc rs pc2 B) : bOk enc bd M rc rs pc (oZEq tgt B) := by
  intro Po Pt J hJ L st s hb h
  unfold oZEq at h
  split at h
  · refine xl_if_eq d (fun c1 => ?_) (fun c1 => ?_)
    · have := hJ _ _ _ _ (h.2.1 ((iI_eq0 h.1).mp c1))
      rw [wX_lt ht] at this
      exact this hb
    · exact k Po Pt J hJ _ _ _ hb (h.2.2 (fun c => c1 ((iI_eq0 h.1).mpr c)))
  · exact h.elim
def oCEq (t : Nat) (B : Blk σ) : Blk σ := fun J L st s => match st with
  | .inl b :: .inl a :: st => (xB a ∧ xB b) ∧ (a = b → J t L st s) ∧ (a ≠ b → B J L st s)
  | _ => False
theorem okCEq (ht : tgt < 1000000) (d : xl_J M pc (fun o => .if_icmp .eq o) pc2 tgt) (k : bOk enc bd M rc rs pc2 B) : bOk enc bd M rc rs pc (oCEq tgt B) := by
  intro Po Pt J hJ L st s hb h
  unfold oCEq at h
  split at h
  · refine xl_icmp_eq d (fun c1 => ?_) (fun c1 => ?_)
    · have := hJ _ _ _ _ (h.2.1 ((iI_eq h.1.1 h.1.2).mp c1))
      rw [wX_lt ht] at this
      exact this hb
    · exact k Po Pt J hJ _ _ _ hb (h.2.2 (fun c => c1 ((iI_eq h.1.1 h.1.2).mpr c)))
  · exact h.elim
def oZNe (t : Nat) (B : Blk σ) : Blk σ := fun J L st s => match st with
  | .inl a :: st => xB a ∧ (a ≠ 0 → J t L st s) ∧ (a = 0 → B J L st s)
  | _ => False
theorem okZNe (ht : tgt < 1000000) (d : xl_J M pc (fun o => .ifCond .ne o) pc2 tgt) (k : bOk enc bd M rc rs pc2 B) : bOk enc bd M rc rs pc (oZNe tgt B) := by
  intro Po Pt J hJ L st s hb h
  unfold oZNe at h
  split at h
  · refine xl_if_ne d (fun c1 => ?_) (fun c1 => ?_)
    · have := hJ _ _ _ _ (h.2.1 (fun c => c1 ((iI_eq0 h.1).mpr c)))
      rw [wX_lt ht] at this
      exact this hb
    · exact k Po Pt J hJ _ _ _ hb (h.2.2 ((iI_eq0 h.1).mp c1))
  · exact h.elim
def oCNe (t : Nat) (B : Blk σ) : Blk σ := fun J L st s => match st with
  | .inl b :: .inl a :: st => (xB a ∧ xB b) ∧ (a ≠ b → J t L st s) ∧ (a = b → B J L st s)
  | _ => False
theorem okCNe (ht : tgt < 1000000) (d : xl_J M pc (fun o => .if_icmp .ne o) pc2 tgt) (k : bOk enc bd M rc rs pc2 B) : bOk enc bd M rc rs pc (oCNe tgt B) := by
  intro Po Pt J hJ L st s hb h
  unfold oCNe at h
  split at h
  · refine xl_icmp_ne d (fun c1 => ?_) (fun c1 => ?_)
    · have := hJ _ _ _ _ (h.2.1 (fun c => c1 ((iI_eq h.1.1 h.1.2).mpr c)))
      rw [wX_lt ht] at this
      exact this hb
    · exact k Po Pt J hJ _ _ _ hb (h.2.2 ((iI_eq h.1.1 h.1.2).mp c1))
  · exact h.elim
def oZLt (t : Nat) (B : Blk σ) : Blk σ := fun J L st s => match st with
  | .inl a :: st => xB a ∧ (a < 0 → J t L st s) ∧ (0 ≤ a → B J L st s)
  | _ => False
theorem okZLt (ht : tgt < 1000000) (d : xl_J M pc (fun o => .ifCond .lt o) pc2 tgt) (k : bOk enc bd M rc rs pc2 B) : bOk enc bd M rc rs pc (oZLt tgt B) := by
  intro Po Pt J hJ L st s hb h
  unfold oZLt at h
  split at h
  · refine xl_if_lt d (fun c1 => ?_) (fun c1 => ?_)
    · have := hJ _ _ _ _ (h.2.1 ((iI_lt0 h.1).mp c1))
      rw [wX_lt ht] at this
      exact this hb
    · exact k Po Pt J hJ _ _ _ hb (h.2.2 (by have := mt (iI_lt0 h.1).mpr c1; omega))
  · exact h.elim
def oCLt (t : Nat) (B : Blk σ) : Blk σ := fun J L st s => match st with
  | .inl b :: .inl a :: st => (xB a ∧ xB b) ∧ (a < b → J t L st s) ∧ (b ≤ a → B J L st s)
  | _ => False
theorem okCLt (ht : tgt < 1000000) (d : xl_J M pc (fun o => .if_icmp .lt o) pc2 tgt) (k : bOk enc bd M rc rs pc2 B) : bOk enc bd M rc rs pc (oCLt tgt B) := by
  intro Po Pt J hJ L st s hb h
  unfold oCLt at h
  split at h
  · refine xl_icmp_lt d (fun c1 => ?_) (fun c1 => ?_)
    · have := hJ _ _ _ _ (h.2.1 ((iI_lt h.1.1 h.1.2).mp c1))
      rw [wX_lt ht] at this
      exact this hb
    · exact k Po Pt J hJ _ _ _ hb (h.2.2 (by have := mt (iI_lt h.1.1 h.1.2).mpr c1; omega))
  · exact h.elim
def oZGe (t : Nat) (B : Blk σ) : Blk σ := fun J L st s => match st with
  | .inl a :: st => xB a ∧ (0 ≤ a → J t L st s) ∧ (a < 0 → B J L st s)
  | _ => False
theorem okZGe (ht : tgt < 1000000) (d : xl_J M pc (fun o => .ifCond .ge o) pc2 tgt) (k : bOk enc bd M rc rs pc2 B) : bOk enc bd M rc rs pc (oZGe tgt B) := by
  intro Po Pt J hJ L st s hb h
  unfold oZGe at h
  split at h
  · refine xl_if_ge d (fun c1 => ?_) (fun c1 => ?_)
    · have := hJ _ _ _ _ (h.2.1 ((iI_0le h.1).mp c1))
      rw [wX_lt ht] at this
      exact this hb
    · exact k Po Pt J hJ _ _ _ hb (h.2.2 (by have := mt (iI_0le h.1).mpr c1; omega))
  · exact h.elim
def oCGe (t : Nat) (B : Blk σ) : Blk σ := fun J L st s => match st with
  | .inl b :: .inl a :: st => (xB a ∧ xB b) ∧ (b ≤ a → J t L st s) ∧ (a < b → B J L st s)
  | _ => False
theorem okCGe (ht : tgt < 1000000) (d : xl_J M pc (fun o => .if_icmp .ge o) pc2 tgt) (k : bOk enc bd M rc rs pc2 B) : bOk enc bd M rc rs pc (oCGe tgt B) := by
  intro Po Pt J hJ L st s hb h
  unfold oCGe at h
  split at h
  · refine xl_icmp_ge d (fun c1 => ?_) (fun c1 => ?_)
    · have := hJ _ _ _ _ (h.2.1 ((iI_le h.1.2 h.1.1).mp c1))
      rw [wX_lt ht] at this
      exact this hb
    · exact k Po Pt J hJ _ _ _ hb (h.2.2 (by have := mt (iI_le h.1.2 h.1.1).mpr c1; omega))
  · exact h.elim
def oZGt (t : Nat) (B : Blk σ) : Blk σ := fun J L st s => match st with
  | .inl a :: st => xB a ∧ (0 < a → J t L st s) ∧ (a ≤ 0 → B J L st s)
  | _ => False
theorem okZGt (ht : tgt < 1000000) (d : xl_J M pc (fun o => .ifCond .gt o) pc2 tgt) (k : bOk enc bd M rc rs pc2 B) : bOk enc bd M rc rs pc (oZGt tgt B) := by
  intro Po Pt J hJ L st s hb h
  unfold oZGt at h
  split at h
  · refine xl_if_gt d (fun c1 => ?_) (fun c1 => ?_)
    · have := hJ _ _ _ _ (h.2.1 ((iI_0lt h.1).mp c1))
      rw [wX_lt ht] at this
      exact this hb
    · exact k Po Pt J hJ _ _ _ hb (h.2.2 (by have := mt (iI_0lt h.1).mpr c1; omega))
  · exact h.elim
def oCGt (t : Nat) (B : Blk σ) : Blk σ := fun J L st s => match st with
  | .inl b :: .inl a :: st => (xB a ∧ xB b) ∧ (b < a → J t L st s) ∧ (a ≤ b → B J L st s)
  | _ => False
theorem okCGt (ht : tgt < 1000000) (d : xl_J M pc (fun o => .if_icmp .gt o) pc2 tgt) (k : bOk enc bd M rc rs pc2 B) : bOk enc bd M rc rs pc (oCGt tgt B) := by
  intro Po Pt J hJ L st s hb h
  unfold oCGt at h
  split at h
  · refine xl_icmp_gt d (fun c1 => ?_) (fun c1 => ?_)
    · have := hJ _ _ _ _ (h.2.1 ((iI_lt h.1.2 h.1.1).mp c1))
      rw [wX_lt ht] at this
      exact this hb
    · exact k Po Pt J hJ _ _ _ hb (h.2.2 (by have := mt (iI_lt h.1.2 h.1.1).mpr c1; omega))
  · exact h.elim
def oZLe (t : Nat) (B : Blk σ) : Blk σ := fun J L st s => match st with
  | .inl a :: st => xB a ∧ (a ≤ 0 → J t L st s) ∧ (0 < a → B J L st s)
  | _ => False
theorem okZLe (ht : tgt < 1000000) (d : xl_J M pc (fun o => .ifCond .le o) pc2 tgt) (k : bOk enc bd M rc rs pc2 B) : bOk enc bd M rc rs pc (oZLe tgt B) := by
  intro Po Pt J hJ L st s hb h
  unfold oZLe at h
  split at h
  · refine xl_if_le d (fun c1 => ?_) (fun c1 => ?_)
    · have := hJ _ _ _ _ (h.2.1 ((iI_le0 h.1).mp c1))
      rw [wX_lt ht] at this
      exact this hb
    · exact k Po Pt J hJ _ _ _ hb (h.2.2 (by have := mt (iI_le0 h.1).mpr c1; omega))
  · exact h.elim
def oCLe (t : Nat) (B : Blk σ) : Blk σ := fun J L st s => match st with
  | .inl b :: .inl a :: st => (xB a ∧ xB b) ∧ (a ≤ b → J t L st s) ∧ (b < a → B J L st s)
  | _ => False
theorem okCLe (ht : tgt < 1000000) (d : xl_J M pc (fun o => .if_icmp .le o) pc2 tgt) (k : bOk enc bd M rc rs pc2 B) : bOk enc bd M rc rs pc (oCLe tgt B) := by
  intro Po Pt J hJ L st s hb h
  unfold oCLe at h
  split at h
  · refine xl_icmp_le d (fun c1 => ?_) (fun c1 => ?_)
    · have := hJ _ _ _ _ (h.2.1 ((iI_le h.1.1 h.1.2).mp c1))
      rw [wX_lt ht] at this
      exact this hb
    · exact k Po Pt J hJ _ _ _ hb (h.2.2 (by have := mt (iI_le h.1.1 h.1.2).mpr c1; omega))
  · exact h.elim
def oNN (t : Nat) : Blk σ := fun J L st s => match st with
  | .inr (.inr (.inl _)) :: st => J t L st s
  | _ => False
theorem okNN (ht : tgt < 1000000) (d : xl_J M pc (fun o => .ifnonnull o) pc2 tgt) : bOk enc bd M rc rs pc (oNN tgt) := by
  intro Po Pt J hJ L st s hb h
  unfold oNN at h
  split at h
  · have := hJ _ _ _ _ h
    rw [wX_lt ht] at this
    exact xl_ifnonnull d (this hb)
  · exact h.elim
def oNu (B : Blk σ) : Blk σ := fun J L st s => match st with
  | .inr (.inr (.inl _)) :: st => B J L st s
  | _ => False
theorem okNu (d : xl_J M pc (fun o => .ifnull o) pc2 tgt) (k : bOk enc bd M rc rs pc2 B) : bOk enc bd M rc rs pc (oNu B) := by
  intro Po Pt J hJ L st s hb h
  unfold oNu at h
  split at h
  · exact xl_ifnull d (k Po Pt J hJ _ _ _ hb h)
  · exact h.elim
/-- locals -/
def oIld (i : Nat) (B : Blk σ) : Blk σ := fun J L st s => match xl_n L i with
  | some (some (.inl z)) => B J L (.inl z :: st) s
  | _ => False
def oLld (i : Nat) (B : Blk σ) : Blk σ := fun J L st s => match xl_n L i with
  | some (some (.inr (.inl z))) => B J L (.inr (.inl z) :: st) s
  | _ => False
def oAld (i : Nat) (B : Blk σ) : Blk σ := fun J L st s => match xl_n L i with
  | some (some (.inr (.inr x))) => B J L (.inr (.inr x) :: st) s
  | _ => False
def oIst (i : Nat) (B : Blk σ) : Blk σ := fun J L st s => match st with
  | .inl z :: st => bif pk L i then B J (xl_s L i (some (.inl z))) st s else False
  | _ => False
def oAst (i : Nat) (B : Blk σ) : Blk σ := fun J L st s => match st with
  | .inr (.inr x) :: st => bif pk L i then B J (xl_s L i (some (.inr (.inr x)))) st s else False
  | _ => False
def oInc (i : Nat) (n : Int) (B : Blk σ) : Blk σ := fun J L st s => match xl_n L i with
  | some (some (.inl z)) => bif pk L i then B J (xl_s L i (some (.inl (z + n)))) st s else False
  | _ => False
theorem condT {b : Bool} {P : Prop} (h : bif b then P else False) : b = true ∧ P := by
  cases b with
  | false => exact h.elim
  | true => exact ⟨rfl, h⟩
theorem okIld {i : Nat} (d : xl_D M pc (.iload i) 2 pc2) (k : bOk enc bd M rc rs pc2 B) : bOk enc bd M rc rs pc (oIld i B) := by
  intro Po Pt J hJ L st s hb h
  unfold oIld at h
  split at h
  · next z hz => exact xl_iload d (eL_at hz) (k Po Pt J hJ _ _ _ hb h)
  · exact h.elim
theorem okIldn {i : Fin 4} {j : Nat} (d : xl_D M pc (.iload_n i) 1 pc2) (e : i.val = j) (k : bOk enc bd M rc rs pc2 B) : bOk enc bd M rc rs pc (oIld j B) := by
  subst e
  intro Po Pt J hJ L st s hb h
  unfold oIld at h
  split at h
  · next z hz => exact xl_iload_n d (eL_at hz) (k Po Pt J hJ _ _ _ hb h)
  · exact h.elim
theorem okLld {i : Nat} (d : xl_D M pc (.lload i) 2 pc2) (k : bOk enc bd M rc rs pc2 B) : bOk enc bd M rc rs pc (oLld i B) := by
  intro Po Pt J hJ L st s hb h
  unfold oLld at h
  split at h
  · next z hz => exact xl_lload d (eL_at hz) (k Po Pt J hJ _ _ _ hb h)
  · exact h.elim
theorem okLldn {i : Fin 4} {j : Nat} (d : xl_D M pc (.lload_n i) 1 pc2) (e : i.val = j) (k : bOk enc bd M rc rs pc2 B) : bOk enc bd M rc rs pc (oLld j B) := by
  subst e
  intro Po Pt J hJ L st s hb h
  unfold oLld at h
  split at h
  · next z hz => exact xl_lload_n d (eL_at hz) (k Po Pt J hJ _ _ _ hb h)
  · exact h.elim
theorem okAld {i : Nat} (d : xl_D M pc (.aload i) 2 pc2) (k : bOk enc bd M rc rs pc2 B) : bOk enc bd M rc rs pc (oAld i B) := by
  intro Po Pt J hJ L st s hb h
  unfold oAld at h
  split at h
  · next x hz => rcases x with r | j
                 · exact xl_aload d (eL_at hz) (k Po Pt J hJ _ _ _ hb h)
                 · exact xl_saload d (eL_at hz) (k Po Pt J hJ _ _ _ hb h)
  · exact h.elim
theorem okAldn {i : Fin 4} {j : Nat} (d : xl_D M pc (.aload_n i) 1 pc2) (e : i.val = j) (k : bOk enc bd M rc rs pc2 B) : bOk enc bd M rc rs pc (oAld j B) := by
  subst e
  intro Po Pt J hJ L st s hb h
  unfold oAld at h
  split at h
  · next x hz => rcases x with r | j
                 · exact xl_aload_n d (eL_at hz) (k Po Pt J hJ _ _ _ hb h)
                 · exact xl_saload_n d (eL_at hz) (k Po Pt J hJ _ _ _ hb h)
  · exact h.elim
theorem okIst {i : Nat} (d : xl_D M pc (.istore i) 2 pc2) (hn : i < M.2.2.1) (k : bOk enc bd M rc rs pc2 B) : bOk enc bd M rc rs pc (oIst i B) := by
  intro Po Pt J hJ L st s hb h
  unfold oIst at h
  split at h
  · next z st => 
    obtain ⟨h1, h2⟩ := condT h
    have := k Po Pt J hJ _ _ _ hb h2
    rw [← eL_s] at this
    exact xl_istore d (pk_ok _ _ h1) hn this
  · exact h.elim
theorem okIstn {i : Fin 4} {j : Nat} (d : xl_D M pc (.istore_n i) 1 pc2) (e : i.val = j) (hn : j < M.2.2.1) (k : bOk enc bd M rc rs pc2 B) : bOk enc bd M rc rs pc (oIst j B) := by
  subst e
  intro Po Pt J hJ L st s hb h
  unfold oIst at h
  split at h
  · next z st => 
    obtain ⟨h1, h2⟩ := condT h
    have := k Po Pt J hJ _ _ _ hb h2
    rw [← eL_s] at this
    exact xl_istore_n d (pk_ok _ _ h1) hn this
  · exact h.elim
theorem okAst {i : Nat} (d : xl_D M pc (.astore i) 2 pc2) (hn : i < M.2.2.1) (k : bOk enc bd M rc rs pc2 B) : bOk enc bd M rc rs pc (oAst i B) := by
  intro Po Pt J hJ L st s hb h
  unfold oAst at h
  split at h
  · next x st => 
    obtain ⟨h1, h2⟩ := condT h
    have := k Po Pt J hJ _ _ _ hb h2
    rw [← eL_s] at this
    rcases x with r | j
    · exact xl_astore d (pk_ok _ _ h1) hn this
    · exact xl_sastore d (pk_ok _ _ h1) hn this
  · exact h.elim
theorem okAstn {i : Fin 4} {j : Nat} (d : xl_D M pc (.astore_n i) 1 pc2) (e : i.val = j) (hn : j < M.2.2.1) (k : bOk enc bd M rc rs pc2 B) : bOk enc bd M rc rs pc (oAst j B) := by
  subst e
  intro Po Pt J hJ L st s hb h
  unfold oAst at h
  split at h
  · next x st => 
    obtain ⟨h1, h2⟩ := condT h
    have := k Po Pt J hJ _ _ _ hb h2
    rw [← eL_s] at this
    rcases x with r | j
    · exact xl_astore_n d (pk_ok _ _ h1) hn this
    · exact xl_sastore_n d (pk_ok _ _ h1) hn this
  · exact h.elim
theorem okInc {i : Nat} {n : Int} (d : xl_D M pc (.iinc i n) 3 pc2) (hn : i < M.2.2.1) (k : bOk enc bd M rc rs pc2 B) : bOk enc bd M rc rs pc (oInc i n B) := by
  intro Po Pt J hJ L st s hb h
  unfold oInc at h
  split at h
  · next z hz => 
    obtain ⟨h1, h2⟩ := condT h
    have := k Po Pt J hJ _ _ _ hb h2
    rw [← eL_s] at this
    exact xz_iinc d (eL_at hz) (pk_ok _ _ h1) hn this
  · exact h.elim
/-- ends -/
def oIret : Blk σ := fun J _ st s => match st with
  | [.inl z] => J 1000000 [] [.inl z] s
  | _ => False
def oZret : Blk σ := fun J _ st s => match st with
  | [.inl z] => (z = 0 ∨ z = 1) ∧ J 1000000 [] [.inl z] s
  | _ => False
def oLret : Blk σ := fun J _ st s => match st with
  | [.inr (.inl z)] => J 1000000 [] [.inr (.inl z)] s
  | _ => False
def oSret : Blk σ := fun J _ st s => match st with
  | [.inr (.inr (.inr j))] => J 1000000 [] [.inr (.inr (.inr j))] s
  | _ => False
def oVret : Blk σ := fun J _ st s => match st with
  | [] => J 1000000 [] [] s
  | _ => False
def oThr : Blk σ := fun J _ st s => match st with
  | [] => J 1000001 [] [] s
  | _ => False
theorem okIret (d : xl_D M pc .ireturn 1 pc2) (hr : M.2.2.2.1 = some .int) : bOk enc bd M rc rs pc oIret := by
  intro Po Pt J hJ L st s hb h
  unfold oIret at h
  split at h
  · exact xl_ireturn d hr ⟨_, s, rfl, rfl, hb, (fun a e => by cases e), hJ _ _ _ _ h⟩
  · exact h.elim
theorem okZret (d : xl_D M pc .ireturn 1 pc2) (hr : M.2.2.2.1 = some .boolean) : bOk enc bd M rc rs pc oZret := by
  intro Po Pt J hJ L st s hb h
  unfold oZret at h
  split at h
  · next z => exact xl_zreturn d hr (by rcases h.1 with rfl | rfl
                                        · exact Or.inl rfl
                                        · exact Or.inr rfl) ⟨_, s, rfl, rfl, hb, (fun a e => by cases e), hJ _ _ _ _ h.2⟩
  · exact h.elim
theorem okLret (d : xl_D M pc .lreturn 1 pc2) (hr : M.2.2.2.1 = some .long) : bOk enc bd M rc rs pc oLret := by
  intro Po Pt J hJ L st s hb h
  unfold oLret at h
  split at h
  · exact xl_lreturn d hr ⟨_, s, rfl, rfl, hb, (fun a e => by cases e), hJ _ _ _ _ h⟩
  · exact h.elim
theorem okSret {n : String} (d : xl_D M pc .areturn 1 pc2) (hr : M.2.2.2.1 = some (.object n)) : bOk enc bd M rc rs pc oSret := by
  intro Po Pt J hJ L st s hb h
  unfold oSret at h
  split at h
  · exact xl_sreturn d hr ⟨_, s, rfl, rfl, hb, (fun a e => by cases e), hJ _ _ _ _ h⟩
  · exact h.elim
theorem okVret (d : xl_D M pc .return_ 1 pc2) (hr : M.2.2.2.1 = none) : bOk enc bd M rc rs pc oVret := by
  intro Po Pt J hJ L st s hb h
  unfold oVret at h
  split at h
  · exact xl_return d hr ⟨[], s, rfl, rfl, hb, (fun a e => by cases e), hJ _ _ _ _ h⟩
  · exact h.elim
theorem okThr (d : xl_Y M pc) : bOk enc bd M (rc + 1) (rs + 6) pc oThr := by
  intro Po Pt J hJ L st s hb h
  unfold oThr at h
  split at h
  · exact xl_thr ⟨s, rfl, hb, hJ _ _ _ _ h⟩ d
  · exact h.elim
/-- fields -/
abbrev FG (σ : Type) : Type := σ → Nat → Nat → Nat → Option PV
abbrev FP (σ : Type) : Type := σ → Nat → Nat → Nat → Int → Option σ
abbrev AG (σ : Type) : Type := σ → Nat → Option (Nat × Nat × (Nat → Int))
abbrev AP (σ : Type) : Type := σ → Nat → (Nat → Int) → σ
def vFg (enc : σ → XH) (bd : σ → Prop) (fg : FG σ) : Prop := ∀ s r ci k v, bd s → fg s r ci k = some v → ∃ fs w, xl_n (enc s) r = some (.inr (ci, fs)) ∧ xl_n fs k = some w ∧ xl_o r w = pV v ∧ ∀ z, v = .inl z → xB z
def vFp (enc : σ → XH) (bd : σ → Prop) (fp : FP σ) : Prop := ∀ s r ci k z s', bd s → xB z → fp s r ci k z = some s' → ∃ fs, xl_n (enc s) r = some (.inr (ci, fs)) ∧ k < fs.length ∧ enc s' = xl_s (enc s) r (.inr (ci, xl_s fs k (.int (iI z)))) ∧ bd s'
def aE (t n : Nat) (g : Nat → Int) : XE := match t with
  | 0 => xA n g
  | 1 => xL n g
  | _ => xZ n g
def vAg (enc : σ → XH) (bd : σ → Prop) (ag : AG σ) (ap : AP σ) : Prop := ∀ s r t n g, bd s → ag s r = some (t, n, g) → n ≤ 1000000 ∧ (∀ k, xB (g k)) ∧ xl_n (enc s) r = some (aE t n g) ∧ ∀ g', (∀ k, xB (g' k)) → bd (ap s r g') ∧ enc (ap s r g') = xl_s (enc s) r (aE t n g')
def oGet (fg : FG σ) (ci k : Nat) (B : Blk σ) : Blk σ := fun J L st s => match st with
  | .inr (.inr (.inl r)) :: st => match fg s r ci k with
    | some (.inl z) => xB z → B J L (.inl z :: st) s
    | some (.inr v) => B J L (.inr v :: st) s
    | none => False
  | _ => False
theorem okGet {fg : FG σ} {ci f : Nat} (hv : vFg enc bd fg) (d : xl_G M pc ci f pc2) (k : bOk enc bd M rc rs pc2 B) : bOk enc bd M rc rs pc (oGet fg ci f B) := by
  intro Po Pt J hJ L st s hb h
  unfold oGet at h
  split at h
  · next r st =>
    split at h
    · next z hz =>
      obtain ⟨fs, w, e1, e2, e3, e4⟩ := hv s r ci f _ hb hz
      have := k Po Pt J hJ _ _ _ hb (h (e4 z rfl))
      rw [List.map_cons, ← e3] at this
      exact xl_get d e1 e2 this
    · next v hz =>
      obtain ⟨fs, w, e1, e2, e3, e4⟩ := hv s r ci f _ hb hz
      have := k Po Pt J hJ _ _ _ hb h
      rw [List.map_cons, ← e3] at this
      exact xl_get d e1 e2 this
    · exact h.elim
  · exact h.elim
def oPut (fp : FP σ) (ci k : Nat) (B : Blk σ) : Blk σ := fun J L st s => match st with
  | .inl z :: .inr (.inr (.inl r)) :: st => match fp s r ci k z with
    | some s' => xB z ∧ B J L st s'
    | none => False
  | _ => False
theorem okPut {fp : FP σ} {ci f : Nat} (hv : vFp enc bd fp) (d : xl_P M pc ci f .int pc2) (k : bOk enc bd M rc rs pc2 B) : bOk enc bd M rc rs pc (oPut fp ci f B) := by
  intro Po Pt J hJ L st s hb h
  unfold oPut at h
  split at h
  · next z r st =>
    split at h
    · next s' hz =>
      obtain ⟨fs, e1, e2, e3, e4⟩ := hv s r ci f z s' hb h.1 hz
      have := k Po Pt J hJ _ _ _ e4 h.2
      rw [e3] at this
      exact xl_put d e1 e2 this
    · exact h.elim
  · exact h.elim
/-- arrays -/
def oIa (ag : AG σ) (B : Blk σ) : Blk σ := fun J L st s => match st with
  | .inl i :: .inr (.inr (.inl r)) :: st => match ag s r with
    | some (0, n, g) => (0 ≤ i ∧ i < (n : Int)) ∧ (xB (g i.toNat) → B J L (.inl (g i.toNat) :: st) s)
    | _ => False
  | _ => False
def oLa (ag : AG σ) (B : Blk σ) : Blk σ := fun J L st s => match st with
  | .inl i :: .inr (.inr (.inl r)) :: st => match ag s r with
    | some (1, n, g) => (0 ≤ i ∧ i < (n : Int)) ∧ (xB (g i.toNat) → B J L (.inr (.inl (g i.toNat)) :: st) s)
    | _ => False
  | _ => False
def oZa (ag : AG σ) (B : Blk σ) : Blk σ := fun J L st s => match st with
  | .inl i :: .inr (.inr (.inl r)) :: st => match ag s r with
    | some (2, n, g) => (0 ≤ i ∧ i < (n : Int)) ∧ (xB (g i.toNat) → B J L (.inl (g i.toNat) :: st) s)
    | _ => False
  | _ => False
def oLen (ag : AG σ) (B : Blk σ) : Blk σ := fun J L st s => match st with
  | .inr (.inr (.inl r)) :: st => match ag s r with
    | some (_, n, _) => B J L (.inl (n : Int) :: st) s
    | _ => False
  | _ => False
def oIas (ag : AG σ) (ap : AP σ) (B : Blk σ) : Blk σ := fun J L st s => match st with
  | .inl v :: .inl i :: .inr (.inr (.inl r)) :: st => match ag s r with
    | some (0, n, g) => (0 ≤ i ∧ i < (n : Int) ∧ xB v) ∧ B J L st (ap s r (xup g i.toNat v))
    | _ => False
  | _ => False
def oLas (ag : AG σ) (ap : AP σ) (B : Blk σ) : Blk σ := fun J L st s => match st with
  | .inr (.inl v) :: .inl i :: .inr (.inr (.inl r)) :: st => match ag s r with
    | some (1, n, g) => (0 ≤ i ∧ i < (n : Int) ∧ xB v) ∧ B J L st (ap s r (xup g i.toNat v))
    | _ => False
  | _ => False
def oZas (ag : AG σ) (ap : AP σ) (B : Blk σ) : Blk σ := fun J L st s => match st with
  | .inl v :: .inl i :: .inr (.inr (.inl r)) :: st => match ag s r with
    | some (2, n, g) => (0 ≤ i ∧ i < (n : Int) ∧ (v = 0 ∨ v = 1)) ∧ B J L st (ap s r (xup g i.toNat v))
    | _ => False
  | _ => False
theorem xup_B {g : Nat → Int} {k : Nat} {z : Int} (hg : ∀ k, xB (g k)) (hz : xB z) : ∀ j, xB (xup g k z j) := by
  intro j
  unfold xup
  by_cases h : j = k
  · rw [if_pos h]; exact hz
  · rw [if_neg h]; exact hg j
theorem iI_inN {i : Int} {n : Nat} (hn : n ≤ 1000000) (h : 0 ≤ i ∧ i < (n : Int)) : vp_in (iI i) n ∧ (iI i).toNatClampNeg = i.toNat := by
  have hb : xb i := ⟨by omega, by omega⟩
  exact ⟨iI_in hb h.1 h.2, iI_nat hb⟩
theorem okIa {ag : AG σ} {ap : AP σ} (hv : vAg enc bd ag ap) (d : xl_D M pc .iaload 1 pc2) (k : bOk enc bd M rc rs pc2 B) : bOk enc bd M rc rs pc (oIa ag B) := by
  intro Po Pt J hJ L st s hb h
  unfold oIa at h
  split at h
  · next i r st =>
    split at h
    · next n g hz =>
      obtain ⟨hn, hg, e1, -⟩ := hv s r _ _ _ hb hz
      obtain ⟨q1, q2⟩ := iI_inN hn h.1
      refine xl_iald d e1 q1 ?_
      rw [q2]
      exact k Po Pt J hJ _ _ _ hb (h.2 (hg _))
    · exact h.elim
  · exact h.elim
theorem okLa {ag : AG σ} {ap : AP σ} (hv : vAg enc bd ag ap) (d : xl_D M pc .laload 1 pc2) (k : bOk enc bd M rc rs pc2 B) : bOk enc bd M rc rs pc (oLa ag B) := by
  intro Po Pt J hJ L st s hb h
  unfold oLa at h
  split at h
  · next i r st =>
    split at h
    · next n g hz =>
      obtain ⟨hn, hg, e1, -⟩ := hv s r _ _ _ hb hz
      obtain ⟨q1, q2⟩ := iI_inN hn h.1
      refine xl_lald d e1 q1 ?_
      rw [q2]
      exact k Po Pt J hJ _ _ _ hb (h.2 (hg _))
    · exact h.elim
  · exact h.elim
theorem okZa {ag : AG σ} {ap : AP σ} (hv : vAg enc bd ag ap) (d : xl_D M pc .baload 1 pc2) (k : bOk enc bd M rc rs pc2 B) : bOk enc bd M rc rs pc (oZa ag B) := by
  intro Po Pt J hJ L st s hb h
  unfold oZa at h
  split at h
  · next i r st =>
    split at h
    · next n g hz =>
      obtain ⟨hn, hg, e1, -⟩ := hv s r _ _ _ hb hz
      obtain ⟨q1, q2⟩ := iI_inN hn h.1
      refine xl_zald d e1 q1 ?_
      rw [q2]
      exact k Po Pt J hJ _ _ _ hb (h.2 (hg _))
    · exact h.elim
  · exact h.elim
theorem okLen {ag : AG σ} {ap : AP σ} (hv : vAg enc bd ag ap) (d : xl_D M pc .arraylength 1 pc2) (k : bOk enc bd M rc rs pc2 B) : bOk enc bd M rc rs pc (oLen ag B) := by
  intro Po Pt J hJ L st s hb h
  unfold oLen at h
  split at h
  · next r st =>
    split at h
    · next t n g hz =>
      obtain ⟨hn, hg, e1, -⟩ := hv s r _ _ _ hb hz
      have kk := k Po Pt J hJ _ _ _ hb h
      rw [List.map_cons, show pV (.inl (n : Int)) = .int (nI n) by rw [iI_nI]; rfl] at kk
      match t, e1 with
      | 0, e1 => exact xl_alen d e1 (by decide) kk
      | 1, e1 => exact xl_alen d e1 (by decide) kk
      | t + 2, e1 => exact xl_alen (t := 2) d e1 (by decide) kk
    · exact h.elim
  · exact h.elim
theorem okIas {ag : AG σ} {ap : AP σ} (hv : vAg enc bd ag ap) (d : xl_D M pc .iastore 1 pc2) (k : bOk enc bd M rc rs pc2 B) : bOk enc bd M rc rs pc (oIas ag ap B) := by
  intro Po Pt J hJ L st s hb h
  unfold oIas at h
  split at h
  · next v i r st =>
    split at h
    · next n g hz =>
      obtain ⟨hn, hg, e1, e2⟩ := hv s r _ _ _ hb hz
      obtain ⟨q1, q2⟩ := iI_inN hn ⟨h.1.1, h.1.2.1⟩
      obtain ⟨b1, b2⟩ := e2 (xup g i.toNat v) (xup_B hg h.1.2.2)
      have kk := k Po Pt J hJ _ _ _ b1 h.2
      rw [b2] at kk
      refine xl_iast d e1 q1 ?_
      rw [q2, xup_upd]
      exact kk
    · exact h.elim
  · exact h.elim
theorem okLas {ag : AG σ} {ap : AP σ} (hv : vAg enc bd ag ap) (d : xl_D M pc .lastore 1 pc2) (k : bOk enc bd M rc rs pc2 B) : bOk enc bd M rc rs pc (oLas ag ap B) := by
  intro Po Pt J hJ L st s hb h
  unfold oLas at h
  split at h
  · next v i r st =>
    split at h
    · next n g hz =>
      obtain ⟨hn, hg, e1, e2⟩ := hv s r _ _ _ hb hz
      obtain ⟨q1, q2⟩ := iI_inN hn ⟨h.1.1, h.1.2.1⟩
      obtain ⟨b1, b2⟩ := e2 (xup g i.toNat v) (xup_B hg h.1.2.2)
      have kk := k Po Pt J hJ _ _ _ b1 h.2
      rw [b2] at kk
      refine xl_last d e1 q1 ?_
      rw [q2, xup_updL]
      exact kk
    · exact h.elim
  · exact h.elim
theorem okZas {ag : AG σ} {ap : AP σ} (hv : vAg enc bd ag ap) (d : xl_D M pc .bastore 1 pc2) (k : bOk enc bd M rc rs pc2 B) : bOk enc bd M rc rs pc (oZas ag ap B) := by
  intro Po Pt J hJ L st s hb h
  unfold oZas at h
  split at h
  · next v i r st =>
    split at h
    · next n g hz =>
      obtain ⟨hn, hg, e1, e2⟩ := hv s r _ _ _ hb hz
      obtain ⟨q1, q2⟩ := iI_inN hn ⟨h.1.1, h.1.2.1⟩
      obtain ⟨b1, b2⟩ := e2 (xup g i.toNat v) (xup_B hg (by rcases h.1.2.2 with rfl | rfl <;> exact ⟨by omega, by omega⟩))
      have kk := k Po Pt J hJ _ _ _ b1 h.2
      rw [b2] at kk
      refine xl_zast d e1 q1 ?_
      rw [q2, show vp_nar .boolean (iI v) = iI v by rcases h.1.2.2 with rfl | rfl <;> decide, xup_upd]
      exact kk
    · exact h.elim
  · exact h.elim
/-- Math.max, Math.min, System.arraycopy -/
def oMax (B : Blk σ) : Blk σ := fun J L st s => match st with
  | .inl b :: .inl a :: st => bif Nat.ble (pw st) 8 then (xB a ∧ xB b) ∧ B J L (.inl (max a b) :: st) s else False
  | _ => False
def oMin (B : Blk σ) : Blk σ := fun J L st s => match st with
  | .inl b :: .inl a :: st => bif Nat.ble (pw st) 8 then (xB a ∧ xB b) ∧ B J L (.inl (min a b) :: st) s else False
  | _ => False
theorem okMax (d : xl_Cm M pc Lib.Math.max.name Lib.Math.max.code pc2) (k : bOk enc bd M rc rs pc2 B) : bOk enc bd M rc rs pc (oMax B) := by
  intro Po Pt J hJ L st s hb h
  unfold oMax at h
  split at h
  · next b a st =>
    obtain ⟨h1, h2⟩ := condT h
    exact xz_max h2.1.1 h2.1.2 d (by rw [pw_ok]; exact Nat.le_of_ble_eq_true h1) (k Po Pt J hJ _ _ _ hb h2.2)
  · exact h.elim
theorem okMin (d : xl_Cm M pc Lib.Math.min.name Lib.Math.min.code pc2) (k : bOk enc bd M rc rs pc2 B) : bOk enc bd M rc rs pc (oMin B) := by
  intro Po Pt J hJ L st s hb h
  unfold oMin at h
  split at h
  · next b a st =>
    obtain ⟨h1, h2⟩ := condT h
    exact xz_min h2.1.1 h2.1.2 d (by rw [pw_ok]; exact Nat.le_of_ble_eq_true h1) (k Po Pt J hJ _ _ _ hb h2.2)
  · exact h.elim
def oCpy (ag : AG σ) (ap : AP σ) (B : Blk σ) : Blk σ := fun J L st s => match st with
  | .inl n :: .inl q :: .inr (.inr (.inl r1)) :: .inl p :: .inr (.inr (.inl r0)) :: st => match ag s r0 with
    | some (0, n0, f) => match ag s r1 with
      | some (0, n1, g) => bif Nat.ble (pw st) 8 then (0 ≤ p ∧ 0 ≤ q ∧ 0 ≤ n ∧ p + n ≤ (n0 : Int) ∧ q + n ≤ (n1 : Int)) ∧ B J L st (ap s r1 (xcp f g p.toNat q.toNat n.toNat)) else False
      | _ => False
    | _ => False
  | _ => False
theorem xcp_B {f g : Nat → Int} {p q n : Nat} (hf : ∀ k, xB (f k)) (hg : ∀ k, xB (g k)) : ∀ j, xB (xcp f g p q n j) := by
  intro j
  unfold xcp
  split
  · exact hf _
  · exact hg _
theorem okCpy {ag : AG σ} {ap : AP σ} (hv : vAg enc bd ag ap) (d : xl_Cy M pc pc2) (k : bOk enc bd M rc rs pc2 B) : bOk enc bd M rc rs pc (oCpy ag ap B) := by
  intro Po Pt J hJ L st s hb h
  unfold oCpy at h
  split at h
  · next n q r1 p r0 st =>
    split at h
    · next n0 f hz0 =>
      split at h
      · next n1 g hz1 =>
        obtain ⟨h1, h2, h3⟩ := condT h
        obtain ⟨hn0, hf, e0, -⟩ := hv s r0 _ _ _ hb hz0
        obtain ⟨hn1, hg, e1, e2⟩ := hv s r1 _ _ _ hb hz1
        obtain ⟨b1, b2⟩ := e2 _ (xcp_B (p := p.toNat) (q := q.toNat) (n := n.toNat) hf hg)
        have kk := k Po Pt J hJ _ _ _ b1 h3
        rw [b2] at kk
        have xp : xb p := ⟨by omega, by omega⟩
        have xq : xb q := ⟨by omega, by omega⟩
        have xn : xb n := ⟨by omega, by omega⟩
        refine xl_copy d e0 e1 (fun c => by have := (iI_lt0 xp).mp c; omega) (fun c => by have := (iI_lt0 xq).mp c; omega) (fun c => by have := (iI_lt0 xn).mp c; omega) (by rw [iI_nat xp, iI_nat xn]; omega) (by rw [iI_nat xq, iI_nat xn]; omega) (by rw [pw_ok]; exact Nat.le_of_ble_eq_true h1) ?_
        rw [iI_nat xp, iI_nat xq, iI_nat xn, xcp_cpy]
        exact kk
      · exact h.elim
    · exact h.elim
  · exact h.elim
/-- calls: a spec, by the arguments (the receiver first) -/
def cOk (enc : σ → XH) (bd : σ → Prop) (M : XI) (rc rs pc pc2 n : Nat) (sp : Sp σ) : Prop := ∀ (as : List PV) (L : PL) (st : PS) (s : σ) (K : PS → σ → Prop) (Q : Option (Option Value) → XH → Prop), as.length = n → pw st ≤ 8 → bd s → sp as s K → (∀ v s', K v s' → bd s' → xl_W M rc rs pc2 (eL L) ((v ++ st).map pV) (enc s') Q) → xl_W M rc rs pc (eL L) ((as.reverse ++ st).map pV) (enc s) Q

def oC0 (sp : Sp σ) (B : Blk σ) : Blk σ := fun J L st s => match st with
  | st => bif Nat.ble (pw st) 8 then sp [] s (fun v s' => B J L (v ++ st) s') else False
theorem okC0 {sp : Sp σ} (hc : cOk enc bd M rc rs pc pc2 0 sp) (k : bOk enc bd M rc rs pc2 B) : bOk enc bd M rc rs pc (oC0 sp B) := by
  intro Po Pt J hJ L st s hb h
  unfold oC0 at h
  obtain ⟨h1, h2⟩ := condT h
  exact hc [] L st s _ _ rfl (Nat.le_of_ble_eq_true h1) hb h2 (fun v s' q hb' => k Po Pt J hJ _ _ _ hb' q)
def oC1 (sp : Sp σ) (B : Blk σ) : Blk σ := fun J L st s => match st with
  | a0 :: st => bif Nat.ble (pw st) 8 then sp [a0] s (fun v s' => B J L (v ++ st) s') else False
  | _ => False
theorem okC1 {sp : Sp σ} (hc : cOk enc bd M rc rs pc pc2 1 sp) (k : bOk enc bd M rc rs pc2 B) : bOk enc bd M rc rs pc (oC1 sp B) := by
  intro Po Pt J hJ L st s hb h
  unfold oC1 at h
  split at h
  · next a0 st =>
    obtain ⟨h1, h2⟩ := condT h
    exact hc [a0] L st s _ _ rfl (Nat.le_of_ble_eq_true h1) hb h2 (fun v s' q hb' => k Po Pt J hJ _ _ _ hb' q)
  · exact h.elim
def oC2 (sp : Sp σ) (B : Blk σ) : Blk σ := fun J L st s => match st with
  | a1 :: a0 :: st => bif Nat.ble (pw st) 8 then sp [a0, a1] s (fun v s' => B J L (v ++ st) s') else False
  | _ => False
theorem okC2 {sp : Sp σ} (hc : cOk enc bd M rc rs pc pc2 2 sp) (k : bOk enc bd M rc rs pc2 B) : bOk enc bd M rc rs pc (oC2 sp B) := by
  intro Po Pt J hJ L st s hb h
  unfold oC2 at h
  split at h
  · next a1 a0 st =>
    obtain ⟨h1, h2⟩ := condT h
    exact hc [a0, a1] L st s _ _ rfl (Nat.le_of_ble_eq_true h1) hb h2 (fun v s' q hb' => k Po Pt J hJ _ _ _ hb' q)
  · exact h.elim
def oC3 (sp : Sp σ) (B : Blk σ) : Blk σ := fun J L st s => match st with
  | a2 :: a1 :: a0 :: st => bif Nat.ble (pw st) 8 then sp [a0, a1, a2] s (fun v s' => B J L (v ++ st) s') else False
  | _ => False
theorem okC3 {sp : Sp σ} (hc : cOk enc bd M rc rs pc pc2 3 sp) (k : bOk enc bd M rc rs pc2 B) : bOk enc bd M rc rs pc (oC3 sp B) := by
  intro Po Pt J hJ L st s hb h
  unfold oC3 at h
  split at h
  · next a2 a1 a0 st =>
    obtain ⟨h1, h2⟩ := condT h
    exact hc [a0, a1, a2] L st s _ _ rfl (Nat.le_of_ble_eq_true h1) hb h2 (fun v s' q hb' => k Po Pt J hJ _ _ _ hb' q)
  · exact h.elim
def oC4 (sp : Sp σ) (B : Blk σ) : Blk σ := fun J L st s => match st with
  | a3 :: a2 :: a1 :: a0 :: st => bif Nat.ble (pw st) 8 then sp [a0, a1, a2, a3] s (fun v s' => B J L (v ++ st) s') else False
  | _ => False
theorem okC4 {sp : Sp σ} (hc : cOk enc bd M rc rs pc pc2 4 sp) (k : bOk enc bd M rc rs pc2 B) : bOk enc bd M rc rs pc (oC4 sp B) := by
  intro Po Pt J hJ L st s hb h
  unfold oC4 at h
  split at h
  · next a3 a2 a1 a0 st =>
    obtain ⟨h1, h2⟩ := condT h
    exact hc [a0, a1, a2, a3] L st s _ _ rfl (Nat.le_of_ble_eq_true h1) hb h2 (fun v s' q hb' => k Po Pt J hJ _ _ _ hb' q)
  · exact h.elim
def oC5 (sp : Sp σ) (B : Blk σ) : Blk σ := fun J L st s => match st with
  | a4 :: a3 :: a2 :: a1 :: a0 :: st => bif Nat.ble (pw st) 8 then sp [a0, a1, a2, a3, a4] s (fun v s' => B J L (v ++ st) s') else False
  | _ => False
theorem okC5 {sp : Sp σ} (hc : cOk enc bd M rc rs pc pc2 5 sp) (k : bOk enc bd M rc rs pc2 B) : bOk enc bd M rc rs pc (oC5 sp B) := by
  intro Po Pt J hJ L st s hb h
  unfold oC5 at h
  split at h
  · next a4 a3 a2 a1 a0 st =>
    obtain ⟨h1, h2⟩ := condT h
    exact hc [a0, a1, a2, a3, a4] L st s _ _ rfl (Nat.le_of_ble_eq_true h1) hb h2 (fun v s' q hb' => k Po Pt J hJ _ _ _ hb' q)
  · exact h.elim
def oC6 (sp : Sp σ) (B : Blk σ) : Blk σ := fun J L st s => match st with
  | a5 :: a4 :: a3 :: a2 :: a1 :: a0 :: st => bif Nat.ble (pw st) 8 then sp [a0, a1, a2, a3, a4, a5] s (fun v s' => B J L (v ++ st) s') else False
  | _ => False
theorem okC6 {sp : Sp σ} (hc : cOk enc bd M rc rs pc pc2 6 sp) (k : bOk enc bd M rc rs pc2 B) : bOk enc bd M rc rs pc (oC6 sp B) := by
  intro Po Pt J hJ L st s hb h
  unfold oC6 at h
  split at h
  · next a5 a4 a3 a2 a1 a0 st =>
    obtain ⟨h1, h2⟩ := condT h
    exact hc [a0, a1, a2, a3, a4, a5] L st s _ _ rfl (Nat.le_of_ble_eq_true h1) hb h2 (fun v s' q hb' => k Po Pt J hJ _ _ _ hb' q)
  · exact h.elim
def oC7 (sp : Sp σ) (B : Blk σ) : Blk σ := fun J L st s => match st with
  | a6 :: a5 :: a4 :: a3 :: a2 :: a1 :: a0 :: st => bif Nat.ble (pw st) 8 then sp [a0, a1, a2, a3, a4, a5, a6] s (fun v s' => B J L (v ++ st) s') else False
  | _ => False
theorem okC7 {sp : Sp σ} (hc : cOk enc bd M rc rs pc pc2 7 sp) (k : bOk enc bd M rc rs pc2 B) : bOk enc bd M rc rs pc (oC7 sp B) := by
  intro Po Pt J hJ L st s hb h
  unfold oC7 at h
  split at h
  · next a6 a5 a4 a3 a2 a1 a0 st =>
    obtain ⟨h1, h2⟩ := condT h
    exact hc [a0, a1, a2, a3, a4, a5, a6] L st s _ _ rfl (Nat.le_of_ble_eq_true h1) hb h2 (fun v s' q hb' => k Po Pt J hJ _ _ _ hb' q)
  · exact h.elim
def oC8 (sp : Sp σ) (B : Blk σ) : Blk σ := fun J L st s => match st with
  | a7 :: a6 :: a5 :: a4 :: a3 :: a2 :: a1 :: a0 :: st => bif Nat.ble (pw st) 8 then sp [a0, a1, a2, a3, a4, a5, a6, a7] s (fun v s' => B J L (v ++ st) s') else False
  | _ => False
theorem okC8 {sp : Sp σ} (hc : cOk enc bd M rc rs pc pc2 8 sp) (k : bOk enc bd M rc rs pc2 B) : bOk enc bd M rc rs pc (oC8 sp B) := by
  intro Po Pt J hJ L st s hb h
  unfold oC8 at h
  split at h
  · next a7 a6 a5 a4 a3 a2 a1 a0 st =>
    obtain ⟨h1, h2⟩ := condT h
    exact hc [a0, a1, a2, a3, a4, a5, a6, a7] L st s _ _ rfl (Nat.le_of_ble_eq_true h1) hb h2 (fun v s' q hb' => k Po Pt J hJ _ _ _ hb' q)
  · exact h.elim
/-- the table of blocks -/
theorem tNode {A C : Nat → Blk σ} {c : Nat} (ha : ∀ pc, bOk enc bd M rc rs pc (A pc)) (hc : ∀ pc, bOk enc bd M rc rs pc (C pc)) : ∀ pc, bOk enc bd M rc rs pc (bif Nat.blt pc c then A pc else C pc) := by
  intro pc
  cases Nat.blt pc c with
  | true => exact ha pc
  | false => exact hc pc
def oNo : Blk σ := fun _ _ _ _ => False
theorem tLeaf {c : Nat} (ha : bOk enc bd M rc rs c B) : ∀ pc, bOk enc bd M rc rs pc (bif Nat.beq pc c then B else oNo) := by
  intro pc
  cases e : Nat.beq pc c with
  | true => rw [Nat.eq_of_beq_eq_true e]; exact ha
  | false => intro Po Pt J hJ L st s hb h; exact h.elim
theorem wp_ok {T : Nat → Blk σ} {cut : List Nat} {Po : PS → σ → Prop} {Pt : σ → Prop} (hT : ∀ pc, bOk enc bd M rc rs pc (T pc)) : ∀ (n pc : Nat) (L : PL) (st : PS) (s : σ), wp T cut (wX enc bd M rc rs Po Pt) n pc L st s → wX enc bd M rc rs Po Pt pc L st s
  | 0, pc, L, st, s, h => h
  | n + 1, pc, L, st, s, h => by
    unfold wp at h
    cases e1 : Nat.ble 1000000 pc with
    | true => rw [e1] at h; exact h
    | false =>
      rw [e1] at h
      cases e2 : pIn cut pc with
      | true => rw [e2] at h; exact h
      | false =>
        rw [e2] at h
        have hlt : pc < 1000000 := by
          cases Nat.lt_or_ge pc 1000000 with
          | inl q => exact q
          | inr q => rw [Nat.ble_eq_true_of_le q] at e1; cases e1
        rw [wX_lt hlt]
        intro hb
        exact hT pc Po Pt _ (fun pc L st s q => wp_ok hT n pc L st s q) L st s hb h
/-- from a place of the code on -/
theorem wx_go {T : Nat → Blk σ} (cut : List Nat) (n : Nat) {Po : PS → σ → Prop} {Pt : σ → Prop} {pc : Nat} {L : PL} {st : PS} {s : σ} (hT : ∀ pc, bOk enc bd M rc rs pc (T pc)) (hlt : Nat.blt pc 1000000 = true) (h : T pc (wp T cut (wX enc bd M rc rs Po Pt) n) L st s) : wX enc bd M rc rs Po Pt pc L st s := by
  rw [wX_lt (Nat.le_of_ble_eq_true hlt)]
  intro hb
  exact hT pc Po Pt _ (fun pc L st s q => wp_ok hT n pc L st s q) L st s hb h
/-- a method's contract: the spec by its arguments -/
def mOk (enc : σ → XH) (bd : σ → Prop) (μ : XI) (sp : Sp σ) : Prop := ∀ as s K, bd s → sp as s K → xl_C μ 0 0 (as.map pV) (enc s) (fun v h' => ∃ (v' : PS) (s' : σ), v.toList = v'.map pV ∧ h' = enc s' ∧ bd s' ∧ (∀ a, v ≠ some (.ref a)) ∧ K v' s')
def pe : List PV → Nat → PL
  | [], n => List.replicate n none
  | .inr (.inl z) :: vs, n => some (.inr (.inl z)) :: none :: pe vs (n - 2)
  | v :: vs, n => some v :: pe vs (n - 1)
theorem pe_ok : ∀ (as : List PV) (n : Nat), xl_e (as.map pV) n = eL (pe as n)
  | [], n => by simp [xl_e, pe, eL]
  | v :: vs, n => by
    rcases v with z | z | r | j
    · simp only [List.map_cons, xl_e, pe, pV, xl_1, if_true, pe_ok vs (n - 1)]; rfl
    · simp only [List.map_cons, xl_e, pe, pV, xl_1, pe_ok vs (n - 2)]; rfl
    · simp only [List.map_cons, xl_e, pe, pV, xl_1, if_true, pe_ok vs (n - 1)]; rfl
    · simp only [List.map_cons, xl_e, pe, pV, xl_1, if_true, pe_ok vs (n - 1)]; rfl
theorem pz_ok : ∀ (as : List PV), xl_z (as.map pV) = pw as
  | [] => rfl
  | v :: vs => by
    rcases v with z | z | r | j <;> simp only [List.map_cons, xl_z, pz_ok vs] <;> rfl
/-- a contract out of the walk -/
theorem mOk_of {μ : XI} {sp : Sp σ} (hk : xl_K μ) (h : ∀ as s K, sp as s K → Nat.ble (pw as) μ.2.2.1 = true ∧ (bd s → wX enc bd μ 0 0 K (fun _ => False) 0 (pe as μ.2.2.1) [] s)) : mOk enc bd μ sp := by
  intro as s K hb hs
  obtain ⟨h1, h2⟩ := h as s K hs
  have h2 := h2 hb
  rw [wX_lt (by decide)] at h2
  refine xl_con hk _ (pe_ok as _) (by rw [pz_ok]; exact Nat.le_of_ble_eq_true h1) ?_
  have e : (fun (v : Option (Option Value)) (h' : XH) => ∃ w, v = some w ∧ ∃ (v' : PS) (s' : σ), w.toList = v'.map pV ∧ h' = enc s' ∧ bd s' ∧ (∀ a, w ≠ some (.ref a)) ∧ K v' s') = wQ enc bd K (fun _ => False) := by
    funext v h'
    cases v with
    | none => apply propext; constructor
              · rintro ⟨w, e, -⟩; cases e
              · rintro ⟨s', -, -, e⟩; exact e.elim
    | some w => apply propext; constructor
                · rintro ⟨w', e, q⟩; cases e; exact q
                · intro q; exact ⟨w, rfl, q⟩
  rw [e]
  exact h2 hb
end OPS
end
section
/-! ===== calls: a callee's view among the caller's ===== -/
section LNK
variable {σ τ : Type} {enc : σ → XH} {bd : σ → Prop} {enc' : τ → XH} {bd' : τ → Prop} {M μ : XI} {rc rs pc pc2 : Nat}
def pRel (π : Nat → Nat) : PV → PV := fun v => match v with
  | .inr (.inr (.inl r)) => .inr (.inr (.inl (π r)))
  | .inl z => .inl z
  | .inr (.inl z) => .inr (.inl z)
  | .inr (.inr (.inr j)) => .inr (.inr (.inr j))
theorem pRel_v (π ρ σ' : Nat → Nat) (v : PV) : xl_v ρ σ' (pV (pRel π v)) = xl_v (fun k => ρ (π k)) σ' (pV v) := by
  rcases v with z | z | r | j <;> rfl
theorem pRel_m (π ρ σ' : Nat → Nat) (l : List PV) : ((l.map (pRel π)).map pV).map (xl_v ρ σ') = (l.map pV).map (xl_v (fun k => ρ (π k)) σ') := by
  rw [List.map_map, List.map_map, List.map_map]
  exact List.map_congr_left (fun v _ => pRel_v π ρ σ' v)
def vLk (enc : σ → XH) (bd : σ → Prop) (enc' : τ → XH) (bd' : τ → Prop) (π : Nat → Nat) (sub : σ → τ) (put : σ → τ → σ) : Prop :=
  (∀ s, bd s → bd' (sub s) ∧ xl_pi π (enc s) (enc' (sub s)) ∧ ∀ j c, (enc' (sub s))[j]? = some c → xl_ok π j c) ∧ ∀ s s', bd s → bd' s' → bd (put s s') ∧ (enc' s').length = (enc' (sub s)).length ∧ xl_back π (enc' (sub s)).length (enc s) (enc' s') (enc (put s s')) ∧ ∀ j c, (enc' s')[j]? = some c → xl_ok π j c
theorem xl_back_u {π : Nat → Nat} {n : Nat} {h h' h1 h2 : XH} (a : xl_back π n h h' h1) (b : xl_back π n h h' h2) : h1 = h2 := by
  apply List.ext_getElem?
  intro k
  by_cases hk : ∃ j, j < n ∧ π j = k
  · obtain ⟨j, hj, rfl⟩ := hk
    rw [a.2.1 j hj, b.2.1 j hj]
  · rw [a.2.2 k (fun j hj e => hk ⟨j, hj, e⟩), b.2.2 k (fun j hj e => hk ⟨j, hj, e⟩)]
theorem cVirt {sp' : Sp τ} {sp : Sp σ} {ci n : Nat} (hm : mOk enc' bd' μ sp') (hv : xl_V μ) (d : xl_Ca M pc μ pc2) (hcl : ∃ T N, vwCl[ci]? = some (μ.1.cls, T, N)) (hn : n = μ.2.2.2.2.2.2 + 1)
    (h : ∀ as s K, bd s → sp as s K → ∃ (π : Nat → Nat) (sub : σ → τ) (put : σ → τ → σ) (as' : List PV), vLk enc bd enc' bd' π sub put ∧ (∃ fs, xl_n (enc s) (π 0) = some (.inr (ci, fs))) ∧ as = pR (π 0) :: as'.map (pRel π) ∧ sp' (pR 0 :: as') (sub s) (fun v s' => K v (put s s'))) : cOk enc bd M rc rs pc pc2 n sp := by
  intro as L st s K Q hlen hw hb hs hk
  obtain ⟨π, sub, put, as', lk, ⟨fs, hh⟩, rfl, hs'⟩ := h as s K hb hs
  obtain ⟨b1, b2, b3⟩ := lk.1 s hb
  have hc := hm _ _ _ b1 hs'
  refine xl_callV (mc := 0) (ms := 0) (As := (as'.map (pRel π)).map pV) (As' := (pR 0 :: as').map pV) (rest := st.map pV) π d hv hcl hh ?_ ?_ ?_ ?_ b2 b3 hc ?_ ?_
  · simp [List.map_append, List.map_reverse, pV]
  · simp at hlen ⊢; omega
  · rw [pw_ok]; exact hw
  · intro ρ σ'
    rw [List.map_cons, pRel_m]
    rfl
  · rintro v h' ⟨v', s', e1, rfl, q1, q2, q3⟩
    obtain ⟨p1, p2, p3, p4⟩ := lk.2 s s' hb q1
    exact ⟨p2, p4, q2⟩
  · rintro v h' h1 ⟨v', s', e1, rfl, q1, q2, q3⟩ hbk
    obtain ⟨p1, p2, p3, p4⟩ := lk.2 s s' hb q1
    rw [xl_back_u hbk p3, e1, ← List.map_append]
    exact hk _ _ q3 p1
theorem cStat {sp' : Sp τ} {sp : Sp σ} {n : Nat} (hm : mOk enc' bd' μ sp') (hv : xl_U μ) (d : xl_Cs M pc μ pc2) (hn : n = μ.2.2.2.2.2.2)
    (h : ∀ as s K, bd s → sp as s K → ∃ (π : Nat → Nat) (sub : σ → τ) (put : σ → τ → σ) (as' : List PV), vLk enc bd enc' bd' π sub put ∧ as = as'.map (pRel π) ∧ sp' as' (sub s) (fun v s' => K v (put s s'))) : cOk enc bd M rc rs pc pc2 n sp := by
  intro as L st s K Q hlen hw hb hs hk
  obtain ⟨π, sub, put, as', lk, rfl, hs'⟩ := h as s K hb hs
  obtain ⟨b1, b2, b3⟩ := lk.1 s hb
  have hc := hm _ _ _ b1 hs'
  refine xl_callS (mc := 0) (ms := 0) (As := (as'.map (pRel π)).map pV) (As' := as'.map pV) (rest := st.map pV) π d hv ?_ ?_ ?_ ?_ b2 b3 hc ?_ ?_
  · simp [List.map_append, List.map_reverse]
  · simp at hlen ⊢; omega
  · rw [pw_ok]; exact hw
  · intro ρ σ'
    exact pRel_m π ρ σ' as'
  · rintro v h' ⟨v', s', e1, rfl, q1, q2, q3⟩
    obtain ⟨p1, p2, p3, p4⟩ := lk.2 s s' hb q1
    exact ⟨p2, p4, q2⟩
  · rintro v h' h1 ⟨v', s', e1, rfl, q1, q2, q3⟩ hbk
    obtain ⟨p1, p2, p3, p4⟩ := lk.2 s s' hb q1
    rw [xl_back_u hbk p3, e1, ← List.map_append]
    exact hk _ _ q3 p1
/-- the same cells -/
theorem vLk_id (hl : ∀ s s' : σ, (enc s').length = (enc s).length) : vLk enc bd enc bd (fun k => k) (fun s => s) (fun _ s' => s') :=
  ⟨fun s hb => ⟨hb, xl_pi_all, fun j c _ => xl_ok_all j c⟩, fun s s' hb hb' => ⟨hb', hl s s', ⟨by rw [hl s s'], fun j _ => rfl, fun k hk => by
    have h1 : ¬ k < (enc s).length := fun q => hk k q rfl
    rw [List.getElem?_eq_none (by rw [hl s s']; omega), List.getElem?_eq_none (by omega)]⟩, fun j c _ => xl_ok_all j c⟩⟩
/-- a run of places -/
theorem vLk_run {sub : σ → τ} {put : σ → τ → σ} {r n : Nat} (hn : ∀ t : τ, (enc' t).length = n) (h0 : 0 < n) (h1 : ∀ s, ((enc s).drop r).take n = enc' (sub s)) (h2 : ∀ s t, enc (put s t) = (enc s).take r ++ (enc' t ++ (enc s).drop (r + n))) (h3 : ∀ s, bd s → bd' (sub s)) (h4 : ∀ s t, bd s → bd' t → bd (put s t)) (h5 : ∀ s, r + n ≤ (enc s).length) : vLk enc bd enc' bd' (fun k => r + k) sub put := by
  refine ⟨fun s hb => ⟨h3 s hb, xl_pi_add (by rw [hn]; exact h1 s), fun j c _ => xl_ok_add r j c⟩, fun s t hb hb' => ⟨h4 s t hb hb', by rw [hn, hn], ⟨?_, ?_, ?_⟩, fun j c _ => xl_ok_add r j c⟩⟩
  · rw [h2]; simp only [List.length_append, List.length_take, List.length_drop, hn]; have := h5 s; omega
  · intro j hj
    rw [hn] at hj
    show (enc (put s t))[r + j]? = _
    rw [h2, List.getElem?_append_right (by rw [List.length_take]; omega), List.length_take, Nat.min_eq_left (by have := h5 s; omega), List.getElem?_append_left (by rw [hn]; omega)]
    congr 1; omega
  · intro k hk
    have hout : k < r ∨ r + n ≤ k := by
      rcases Nat.lt_or_ge k r with q | q
      · exact Or.inl q
      · rcases Nat.lt_or_ge k (r + n) with q2 | q2
        · exact absurd (show r + (k - r) = k by omega) (hk (k - r) (by rw [hn]; omega))
        · exact Or.inr q2
    have h5 := h5 s
    rcases hout with q | q
    · rw [h2, List.getElem?_append_left (by rw [List.length_take]; omega), List.getElem?_take, if_pos q]
    · rw [h2, List.getElem?_append_right (by rw [List.length_take]; omega), List.length_take, Nat.min_eq_left (by omega), List.getElem?_append_right (by rw [hn]; omega), hn, List.getElem?_drop]
      congr 1; omega
/-- no cells -/
theorem vLk_no : vLk enc bd (fun _ : Unit => []) (fun _ => True) (fun k => k) (fun _ => ()) (fun s _ => s) :=
  ⟨fun s hb => ⟨trivial, ⟨fun i j hi => by simp at hi, fun j hj => by simp at hj⟩, fun j c e => by simp at e⟩, fun s s' hb _ => ⟨hb, rfl, ⟨rfl, fun j hj => by simp at hj, fun k _ => rfl⟩, fun j c e => by simp at e⟩⟩
/-- specs that stay with their state -/
def spRO (sp : Sp τ) : Prop := ∀ as s K, sp as s K → sp as s (fun v s' => s' = s ∧ K v s')
def atR (r : Nat) (f : List PV → σ → (PS → σ → Prop) → Prop) : Sp σ := fun as s K => match as with
  | .inr (.inr (.inl q)) :: as => bif Nat.beq q r then f as s K else False
  | _ => False
theorem atR_inv {r : Nat} {f : List PV → σ → (PS → σ → Prop) → Prop} {as : List PV} {s : σ} {K : PS → σ → Prop} (h : atR r f as s K) : ∃ as', as = pR r :: as' ∧ f as' s K := by
  unfold atR at h
  split at h
  · next q as =>
    obtain ⟨h1, h2⟩ := condT h
    rw [Nat.eq_of_beq_eq_true h1]
    exact ⟨as, rfl, h2⟩
  · exact h.elim
def pnr : PV → Bool := fun v => match v with
  | .inr (.inr (.inl _)) => false
  | _ => true
theorem pnr_rel {π : Nat → Nat} : ∀ {l : List PV}, l.all pnr = true → l.map (pRel π) = l
  | [], _ => rfl
  | v :: l, h => by
    rw [List.all_cons, Bool.and_eq_true] at h
    rw [List.map_cons, pnr_rel h.2]
    rcases v with z | z | r | j
    · rfl
    · rfl
    · cases h.1
    · rfl
theorem pid_rel : ∀ (l : List PV), l.map (pRel (fun k => k)) = l
  | [] => rfl
  | v :: l => by rw [List.map_cons, pid_rel l]; rcases v with z | z | r | j <;> rfl
/-- a method of the same cells -/
theorem cSame {f : List PV → σ → (PS → σ → Prop) → Prop} {ci n : Nat} (hm : mOk enc bd μ (atR 0 f)) (hv : xl_V μ) (d : xl_Ca M pc μ pc2) (hcl : ∃ T N, vwCl[ci]? = some (μ.1.cls, T, N)) (hn : n = μ.2.2.2.2.2.2 + 1) (hl : ∀ s s' : σ, (enc s').length = (enc s).length) (hr : ∀ s, ∃ fs, xl_n (enc s) 0 = some (.inr (ci, fs))) : cOk enc bd M rc rs pc pc2 n (atR 0 f) := by
  refine cVirt hm hv d hcl hn (fun as s K hb hs => ?_)
  obtain ⟨as', rfl, h⟩ := atR_inv hs
  exact ⟨fun k => k, fun s => s, fun _ s' => s', as', vLk_id hl, hr s, by rw [pid_rel], hs⟩
/-- a static method that sees no cells -/
theorem cNone {f : List PV → (PS → Prop) → Prop} {n : Nat} (hm : mOk (fun _ : Unit => []) (fun _ => True) μ (fun as _ K => as.all pnr = true ∧ f as (fun v => K v ()))) (hv : xl_U μ) (d : xl_Cs M pc μ pc2) (hn : n = μ.2.2.2.2.2.2) : cOk enc bd M rc rs pc pc2 n (fun as s K => as.all pnr = true ∧ f as (fun v => K v s)) := by
  refine cStat hm hv d hn (fun as s K hb hs => ?_)
  exact ⟨fun k => k, fun _ => (), fun s _ => s, as, vLk_no, by rw [pid_rel], hs⟩
end LNK
end
section
/-! ===== more ops: sums that may go round, switches, arrays of objects ===== -/
theorem tl {t : Nat} (h : Nat.blt t 1000000 = true) : t < 1000000 := Nat.le_of_ble_eq_true h
/-- a whole number as an int has it -/
def wI (z : Int) : Int := (iI z).toInt
theorem wI_B (z : Int) : xB (wI z) := xb_of _
theorem wI_eq {z : Int} (h : xB z) : wI z = z := iI_toInt h
theorem iI_wI (z : Int) : iI (wI z) = iI z := iI_of _
section OPW
variable {σ : Type} {enc : σ → XH} {bd : σ → Prop} {M : XI} {rc rs pc pc2 tgt : Nat} {B : Blk σ}
def oAddW (B : Blk σ) : Blk σ := fun J L st s => match st with
  | .inl b :: .inl a :: st => xB (wI (a + b)) → B J L (.inl (wI (a + b)) :: st) s
  | _ => False
def oSubW (B : Blk σ) : Blk σ := fun J L st s => match st with
  | .inl b :: .inl a :: st => xB (wI (a - b)) → B J L (.inl (wI (a - b)) :: st) s
  | _ => False
def oMulW (B : Blk σ) : Blk σ := fun J L st s => match st with
  | .inl b :: .inl a :: st => xB (wI (a * b)) → B J L (.inl (wI (a * b)) :: st) s
  | _ => False
theorem pV_wI (z : Int) : pV (.inl (wI z)) = pV (.inl z) := congrArg Value.int (iI_wI z)
theorem okAddW (d : xl_D M pc .iadd 1 pc2) (k : bOk enc bd M rc rs pc2 B) : bOk enc bd M rc rs pc (oAddW B) := by
  intro Po Pt J hJ L st s hb h
  unfold oAddW at h
  split at h
  · next b a st => 
    have := k Po Pt J hJ _ _ _ hb (h (wI_B _))
    rw [List.map_cons, pV_wI] at this
    exact xz_iadd d this
  · exact h.elim
theorem okSubW (d : xl_D M pc .isub 1 pc2) (k : bOk enc bd M rc rs pc2 B) : bOk enc bd M rc rs pc (oSubW B) := by
  intro Po Pt J hJ L st s hb h
  unfold oSubW at h
  split at h
  · next b a st => 
    have := k Po Pt J hJ _ _ _ hb (h (wI_B _))
    rw [List.map_cons, pV_wI] at this
    exact xz_isub d this
  · exact h.elim
theorem okMulW (d : xl_D M pc .imul 1 pc2) (k : bOk enc bd M rc rs pc2 B) : bOk enc bd M rc rs pc (oMulW B) := by
  intro Po Pt J hJ L st s hb h
  unfold oMulW at h
  split at h
  · next b a st => 
    have := k Po Pt J hJ _ _ _ hb (h (wI_B _))
    rw [List.map_cons, pV_wI] at this
    exact xz_imul d this
  · exact h.elim
/-- the place of an object in an array: each one by itself -/
def oAa (ar : σ → Nat → Option (Nat × (Nat → Nat))) (B : Blk σ) : Blk σ := fun J L st s => match st with
  | .inl i :: .inr (.inr (.inl r)) :: st => match ar s r with
    | some (n, q) => (0 ≤ i ∧ i < (n : Int)) ∧ ∀ j : Nat, j < n → i = (j : Int) → B J L (.inr (.inr (.inl (q j))) :: st) s
    | none => False
  | _ => False
def vAr (enc : σ → XH) (bd : σ → Prop) (ar : σ → Nat → Option (Nat × (Nat → Nat))) : Prop := ∀ s r n q, bd s → ar s r = some (n, q) → n ≤ 1000000 ∧ ∃ f, xl_n (enc s) r = some (xQ n f) ∧ ∀ j, j < n → ∃ d, f j = some d ∧ r + d = q j
theorem okAa {ar : σ → Nat → Option (Nat × (Nat → Nat))} (hv : vAr enc bd ar) (d : xl_D M pc .aaload 1 pc2) (k : bOk enc bd M rc rs pc2 B) : bOk enc bd M rc rs pc (oAa ar B) := by
  intro Po Pt J hJ L st s hb h
  unfold oAa at h
  split at h
  · next i r st =>
    split at h
    · next n q hz =>
      obtain ⟨hn, f, e1, e2⟩ := hv s r _ _ hb hz
      obtain ⟨q1, q2⟩ := iI_inN hn h.1
      obtain ⟨dd, e3, e4⟩ := e2 i.toNat (by omega)
      refine xl_aald d e1 q1 (q := dd) (by rw [q2]; exact e3) ?_
      rw [e4]
      exact k Po Pt J hJ _ _ _ hb (h.2 i.toNat (by omega) (by omega))
    · exact h.elim
  · exact h.elim
/-- switches -/
def oTabP (J : JP σ) (L : PL) (st : PS) (s : σ) (z lo0 : Int) (df : Nat) : List Nat → Int → Prop
  | [], lo => (z < lo0 ∨ lo ≤ z) → J df L st s
  | t :: ts, lo => (z = lo → J t L st s) ∧ oTabP J L st s z lo0 df ts (lo + 1)
def oTab (lo : Int) (ts : List Nat) (df : Nat) : Blk σ := fun J L st s => match st with
  | .inl z :: st => xB z ∧ oTabP J L st s z lo df ts lo
  | _ => False
theorem oTabP_in {J : JP σ} {L : PL} {st : PS} {s : σ} {z lo0 : Int} {df : Nat} : ∀ (ts : List Nat) (lo : Int), oTabP J L st s z lo0 df ts lo → ∀ (k t : Nat), ts[k]? = some t → z = lo + k → J t L st s
  | [], lo, _, k, t, e, _ => by simp at e
  | a :: ts, lo, h, 0, t, e, hz => by
    simp at e; subst e
    exact h.1 (by omega)
  | a :: ts, lo, h, k + 1, t, e, hz => oTabP_in ts (lo + 1) h.2 k t (by simpa using e) (by omega)
theorem oTabP_out {J : JP σ} {L : PL} {st : PS} {s : σ} {z lo0 : Int} {df : Nat} : ∀ (ts : List Nat) (lo : Int), oTabP J L st s z lo0 df ts lo → (z < lo0 ∨ lo + ts.length ≤ z) → J df L st s
  | [], lo, h, hz => h (by simpa using hz)
  | a :: ts, lo, h, hz => oTabP_out ts (lo + 1) h.2 (by simp only [List.length_cons] at hz; omega)
theorem xl_tab {L : List (Option Value)} {st : List Value} {h : XH} {Po : Option (Option Value) → XH → Prop} {a : Int32} {dflt lo hi : Int} {offs : Array Int} {len : Nat} (d : decode M.2.1 pc = .ok (.tableswitch dflt lo hi offs, len)) (ts : List Nat) (df : Nat) (h1 : (pc : Int) + dflt = df) (h2 : ∀ k : Nat, (k : Int) ≤ hi - lo → ∃ (off : Int) (t : Nat), offs[k]? = some off ∧ ts[k]? = some t ∧ (pc : Int) + off = t)
    (ki : ∀ (k t : Nat), ts[k]? = some t → a.toInt = lo + k → xl_W M rc rs t L st h Po) (ko : a.toInt < lo ∨ hi < a.toInt → xl_W M rc rs df L st h Po) : xl_W M rc rs pc L (.int a :: st) h Po := by
  intro p l e R s m args below meth c D aC ρ σ aV A H locs cells slots ls Q hX hH hL q1 q2 hr ht
  by_cases c1 : a.toInt < lo ∨ hi < a.toInt
  · exact lv_tableOut hX.1 hX.2.1 d c1 h1 (ko c1 p l e R s m args below meth c D aC ρ σ aV A H locs cells slots ls Q hX hH hL q1 q2 hr ht)
  · obtain ⟨off, t, e1, e2, e3⟩ := h2 (a.toInt - lo).toNat (by omega)
    exact lv_tableIn hX.1 hX.2.1 d (by omega) (by omega) e1 e3 (ki _ t e2 (by omega) p l e R s m args below meth c D aC ρ σ aV A H locs cells slots ls Q hX hH hL q1 q2 hr ht)
def tabOk (pc : Nat) : List Int → List Nat → Bool
  | [], [] => true
  | o :: os, t :: ts => decide ((pc : Int) + o = (t : Int)) && (decide (t < 1000000) && tabOk pc os ts)
  | _, _ => false
theorem tabOk_at {pc : Nat} : ∀ (os : List Int) (ts : List Nat), tabOk pc os ts = true → os.length = ts.length ∧ ∀ (k : Nat), k < ts.length → ∃ (off : Int) (t : Nat), os[k]? = some off ∧ ts[k]? = some t ∧ (pc : Int) + off = t ∧ t < 1000000
  | [], [], _ => ⟨rfl, fun k hk => by simp at hk⟩
  | [], _ :: _, h => by simp [tabOk] at h
  | _ :: _, [], h => by simp [tabOk] at h
  | o :: os, t :: ts, h => by
    simp only [tabOk, Bool.and_eq_true, decide_eq_true_eq] at h
    obtain ⟨e1, e2⟩ := tabOk_at os ts h.2.2
    refine ⟨by simp [e1], fun k hk => ?_⟩
    cases k with
    | zero => exact ⟨o, t, rfl, rfl, h.1, h.2.1⟩
    | succ k => 
      obtain ⟨off, t', a1, a2, a3, a4⟩ := e2 k (by simpa using hk)
      exact ⟨off, t', by simpa using a1, by simpa using a2, a3, a4⟩
theorem okTab {dflt lo hi : Int} {offs : Array Int} {len : Nat} {ts : List Nat} {df : Nat} (h1 : (pc : Int) + dflt = df ∧ df < 1000000) (h2 : tabOk pc offs.toList ts = true) (h3 : lo + ts.length = hi + 1) (d : decode M.2.1 pc = .ok (.tableswitch dflt lo hi offs, len)) : bOk enc bd M rc rs pc (oTab lo ts df) := by
  intro Po Pt J hJ L st s hb h
  unfold oTab at h
  split at h
  · next z st =>
    obtain ⟨l1, l2⟩ := tabOk_at _ _ h2
    have hz : (iI z).toInt = z := iI_toInt h.1
    refine xl_tab d ts df h1.1 (fun k hk => ?_) (fun k t e1 e2 => ?_) (fun c => ?_)
    · obtain ⟨off, t, a1, a2, a3, a4⟩ := l2 k (by omega)
      exact ⟨off, t, by rw [← Array.getElem?_toList]; exact a1, a2, a3⟩
    · rw [hz] at e2
      have := hJ _ _ _ _ (oTabP_in ts lo h.2 k t e1 e2)
      obtain ⟨hk, -⟩ := List.getElem?_eq_some_iff.mp e1
      obtain ⟨off, t', a1, a2, a3, a4⟩ := l2 k hk
      rw [e1] at a2
      cases a2
      rw [wX_lt a4] at this
      exact this hb
    · rw [hz] at c
      have := hJ _ _ _ _ (oTabP_out ts lo h.2 (by omega))
      rw [wX_lt h1.2] at this
      exact this hb
  · exact h.elim
def oLookP (J : JP σ) (L : PL) (st : PS) (s : σ) (z : Int) (df : Nat) : List (Int × Nat) → Prop
  | [] => J df L st s
  | (k, t) :: ps => (z = k → J t L st s) ∧ (z ≠ k → oLookP J L st s z df ps)
def oLook (ps : List (Int × Nat)) (df : Nat) : Blk σ := fun J L st s => match st with
  | .inl z :: st => xB z ∧ oLookP J L st s z df ps
  | _ => False
end OPW
end
section
/-! ===== specs by the number of their arguments (ints; longs j) ===== -/
section ARI
variable {σ : Type} {enc : σ → XH} {bd : σ → Prop} {μ : XI}
def a0 (f : σ → (PS → σ → Prop) → Prop) : List PV → σ → (PS → σ → Prop) → Prop := fun as s K => match as with
  | [] => f  s K
  | _ => False
theorem mOVa0 {f : σ → (PS → σ → Prop) → Prop} (hk : xl_K μ) (hp : ∀ (_ : Unit), Nat.ble (pw (pR 0 :: [])) μ.2.2.1 = true) (h : ∀ (s : σ) (K : PS → σ → Prop), f  s K → bd s → wX enc bd μ 0 0 K (fun _ => False) 0 (pe (pR 0 :: []) μ.2.2.1) [] s) : mOk enc bd μ (atR 0 (a0 f)) := by
  refine mOk_of hk (fun as s K q => ?_)
  obtain ⟨as, rfl, q1⟩ := atR_inv q
  unfold a0 at q1
  split at q1
  · exact ⟨hp (), fun hb => h  s K q1 hb⟩
  · exact q1.elim
theorem mOSa0 {f : σ → (PS → σ → Prop) → Prop} (hk : xl_K μ) (hp : ∀ (_ : Unit), Nat.ble (pw ([] : List PV)) μ.2.2.1 = true) (h : ∀ (s : σ) (K : PS → σ → Prop), f  s K → bd s → wX enc bd μ 0 0 K (fun _ => False) 0 (pe ([] : List PV) μ.2.2.1) [] s) : mOk enc bd μ (a0 f) := by
  refine mOk_of hk (fun as s K q => ?_)
  have q1 := q
  unfold a0 at q1
  split at q1
  · exact ⟨hp (), fun hb => h  s K q1 hb⟩
  · exact q1.elim
def a1 (f : Int → σ → (PS → σ → Prop) → Prop) : List PV → σ → (PS → σ → Prop) → Prop := fun as s K => match as with
  | [.inl x0] => f x0 s K
  | _ => False
theorem mOVa1 {f : Int → σ → (PS → σ → Prop) → Prop} (hk : xl_K μ) (hp : ∀ (x0 : Int), Nat.ble (pw (pR 0 :: [(.inl x0 : PV)])) μ.2.2.1 = true) (h : ∀ (x0 : Int) (s : σ) (K : PS → σ → Prop), f x0 s K → bd s → wX enc bd μ 0 0 K (fun _ => False) 0 (pe (pR 0 :: [(.inl x0 : PV)]) μ.2.2.1) [] s) : mOk enc bd μ (atR 0 (a1 f)) := by
  refine mOk_of hk (fun as s K q => ?_)
  obtain ⟨as, rfl, q1⟩ := atR_inv q
  unfold a1 at q1
  split at q1
  · next x0 =>
    exact ⟨hp x0, fun hb => h x0 s K q1 hb⟩
  · exact q1.elim
theorem mOSa1 {f : Int → σ → (PS → σ → Prop) → Prop} (hk : xl_K μ) (hp : ∀ (x0 : Int), Nat.ble (pw [(.inl x0 : PV)]) μ.2.2.1 = true) (h : ∀ (x0 : Int) (s : σ) (K : PS → σ → Prop), f x0 s K → bd s → wX enc bd μ 0 0 K (fun _ => False) 0 (pe [(.inl x0 : PV)] μ.2.2.1) [] s) : mOk enc bd μ (a1 f) := by
  refine mOk_of hk (fun as s K q => ?_)
  have q1 := q
  unfold a1 at q1
  split at q1
  · next x0 =>
    exact ⟨hp x0, fun hb => h x0 s K q1 hb⟩
  · exact q1.elim
def a2 (f : Int → Int → σ → (PS → σ → Prop) → Prop) : List PV → σ → (PS → σ → Prop) → Prop := fun as s K => match as with
  | [.inl x0, .inl x1] => f x0 x1 s K
  | _ => False
theorem mOVa2 {f : Int → Int → σ → (PS → σ → Prop) → Prop} (hk : xl_K μ) (hp : ∀ (x0 x1 : Int), Nat.ble (pw (pR 0 :: [(.inl x0 : PV), (.inl x1 : PV)])) μ.2.2.1 = true) (h : ∀ (x0 x1 : Int) (s : σ) (K : PS → σ → Prop), f x0 x1 s K → bd s → wX enc bd μ 0 0 K (fun _ => False) 0 (pe (pR 0 :: [(.inl x0 : PV), (.inl x1 : PV)]) μ.2.2.1) [] s) : mOk enc bd μ (atR 0 (a2 f)) := by
  refine mOk_of hk (fun as s K q => ?_)
  obtain ⟨as, rfl, q1⟩ := atR_inv q
  unfold a2 at q1
  split at q1
  · next x0 x1 =>
    exact ⟨hp x0 x1, fun hb => h x0 x1 s K q1 hb⟩
  · exact q1.elim
theorem mOSa2 {f : Int → Int → σ → (PS → σ → Prop) → Prop} (hk : xl_K μ) (hp : ∀ (x0 x1 : Int), Nat.ble (pw [(.inl x0 : PV), (.inl x1 : PV)]) μ.2.2.1 = true) (h : ∀ (x0 x1 : Int) (s : σ) (K : PS → σ → Prop), f x0 x1 s K → bd s → wX enc bd μ 0 0 K (fun _ => False) 0 (pe [(.inl x0 : PV), (.inl x1 : PV)] μ.2.2.1) [] s) : mOk enc bd μ (a2 f) := by
  refine mOk_of hk (fun as s K q => ?_)
  have q1 := q
  unfold a2 at q1
  split at q1
  · next x0 x1 =>
    exact ⟨hp x0 x1, fun hb => h x0 x1 s K q1 hb⟩
  · exact q1.elim
def a3 (f : Int → Int → Int → σ → (PS → σ → Prop) → Prop) : List PV → σ → (PS → σ → Prop) → Prop := fun as s K => match as with
  | [.inl x0, .inl x1, .inl x2] => f x0 x1 x2 s K
  | _ => False
theorem mOVa3 {f : Int → Int → Int → σ → (PS → σ → Prop) → Prop} (hk : xl_K μ) (hp : ∀ (x0 x1 x2 : Int), Nat.ble (pw (pR 0 :: [(.inl x0 : PV), (.inl x1 : PV), (.inl x2 : PV)])) μ.2.2.1 = true) (h : ∀ (x0 x1 x2 : Int) (s : σ) (K : PS → σ → Prop), f x0 x1 x2 s K → bd s → wX enc bd μ 0 0 K (fun _ => False) 0 (pe (pR 0 :: [(.inl x0 : PV), (.inl x1 : PV), (.inl x2 : PV)]) μ.2.2.1) [] s) : mOk enc bd μ (atR 0 (a3 f)) := by
  refine mOk_of hk (fun as s K q => ?_)
  obtain ⟨as, rfl, q1⟩ := atR_inv q
  unfold a3 at q1
  split at q1
  · next x0 x1 x2 =>
    exact ⟨hp x0 x1 x2, fun hb => h x0 x1 x2 s K q1 hb⟩
  · exact q1.elim
theorem mOSa3 {f : Int → Int → Int → σ → (PS → σ → Prop) → Prop} (hk : xl_K μ) (hp : ∀ (x0 x1 x2 : Int), Nat.ble (pw [(.inl x0 : PV), (.inl x1 : PV), (.inl x2 : PV)]) μ.2.2.1 = true) (h : ∀ (x0 x1 x2 : Int) (s : σ) (K : PS → σ → Prop), f x0 x1 x2 s K → bd s → wX enc bd μ 0 0 K (fun _ => False) 0 (pe [(.inl x0 : PV), (.inl x1 : PV), (.inl x2 : PV)] μ.2.2.1) [] s) : mOk enc bd μ (a3 f) := by
  refine mOk_of hk (fun as s K q => ?_)
  have q1 := q
  unfold a3 at q1
  split at q1
  · next x0 x1 x2 =>
    exact ⟨hp x0 x1 x2, fun hb => h x0 x1 x2 s K q1 hb⟩
  · exact q1.elim
def a4 (f : Int → Int → Int → Int → σ → (PS → σ → Prop) → Prop) : List PV → σ → (PS → σ → Prop) → Prop := fun as s K => match as with
  | [.inl x0, .inl x1, .inl x2, .inl x3] => f x0 x1 x2 x3 s K
  | _ => False
theorem mOVa4 {f : Int → Int → Int → Int → σ → (PS → σ → Prop) → Prop} (hk : xl_K μ) (hp : ∀ (x0 x1 x2 x3 : Int), Nat.ble (pw (pR 0 :: [(.inl x0 : PV), (.inl x1 : PV), (.inl x2 : PV), (.inl x3 : PV)])) μ.2.2.1 = true) (h : ∀ (x0 x1 x2 x3 : Int) (s : σ) (K : PS → σ → Prop), f x0 x1 x2 x3 s K → bd s → wX enc bd μ 0 0 K (fun _ => False) 0 (pe (pR 0 :: [(.inl x0 : PV), (.inl x1 : PV), (.inl x2 : PV), (.inl x3 : PV)]) μ.2.2.1) [] s) : mOk enc bd μ (atR 0 (a4 f)) := by
  refine mOk_of hk (fun as s K q => ?_)
  obtain ⟨as, rfl, q1⟩ := atR_inv q
  unfold a4 at q1
  split at q1
  · next x0 x1 x2 x3 =>
    exact ⟨hp x0 x1 x2 x3, fun hb => h x0 x1 x2 x3 s K q1 hb⟩
  · exact q1.elim
theorem mOSa4 {f : Int → Int → Int → Int → σ → (PS → σ → Prop) → Prop} (hk : xl_K μ) (hp : ∀ (x0 x1 x2 x3 : Int), Nat.ble (pw [(.inl x0 : PV), (.inl x1 : PV), (.inl x2 : PV), (.inl x3 : PV)]) μ.2.2.1 = true) (h : ∀ (x0 x1 x2 x3 : Int) (s : σ) (K : PS → σ → Prop), f x0 x1 x2 x3 s K → bd s → wX enc bd μ 0 0 K (fun _ => False) 0 (pe [(.inl x0 : PV), (.inl x1 : PV), (.inl x2 : PV), (.inl x3 : PV)] μ.2.2.1) [] s) : mOk enc bd μ (a4 f) := by
  refine mOk_of hk (fun as s K q => ?_)
  have q1 := q
  unfold a4 at q1
  split at q1
  · next x0 x1 x2 x3 =>
    exact ⟨hp x0 x1 x2 x3, fun hb => h x0 x1 x2 x3 s K q1 hb⟩
  · exact q1.elim
def a5 (f : Int → Int → Int → Int → Int → σ → (PS → σ → Prop) → Prop) : List PV → σ → (PS → σ → Prop) → Prop := fun as s K => match as with
  | [.inl x0, .inl x1, .inl x2, .inl x3, .inl x4] => f x0 x1 x2 x3 x4 s K
  | _ => False
theorem mOVa5 {f : Int → Int → Int → Int → Int → σ → (PS → σ → Prop) → Prop} (hk : xl_K μ) (hp : ∀ (x0 x1 x2 x3 x4 : Int), Nat.ble (pw (pR 0 :: [(.inl x0 : PV), (.inl x1 : PV), (.inl x2 : PV), (.inl x3 : PV), (.inl x4 : PV)])) μ.2.2.1 = true) (h : ∀ (x0 x1 x2 x3 x4 : Int) (s : σ) (K : PS → σ → Prop), f x0 x1 x2 x3 x4 s K → bd s → wX enc bd μ 0 0 K (fun _ => False) 0 (pe (pR 0 :: [(.inl x0 : PV), (.inl x1 : PV), (.inl x2 : PV), (.inl x3 : PV), (.inl x4 : PV)]) μ.2.2.1) [] s) : mOk enc bd μ (atR 0 (a5 f)) := by
  refine mOk_of hk (fun as s K q => ?_)
  obtain ⟨as, rfl, q1⟩ := atR_inv q
  unfold a5 at q1
  split at q1
  · next x0 x1 x2 x3 x4 =>
    exact ⟨hp x0 x1 x2 x3 x4, fun hb => h x0 x1 x2 x3 x4 s K q1 hb⟩
  · exact q1.elim
theorem mOSa5 {f : Int → Int → Int → Int → Int → σ → (PS → σ → Prop) → Prop} (hk : xl_K μ) (hp : ∀ (x0 x1 x2 x3 x4 : Int), Nat.ble (pw [(.inl x0 : PV), (.inl x1 : PV), (.inl x2 : PV), (.inl x3 : PV), (.inl x4 : PV)]) μ.2.2.1 = true) (h : ∀ (x0 x1 x2 x3 x4 : Int) (s : σ) (K : PS → σ → Prop), f x0 x1 x2 x3 x4 s K → bd s → wX enc bd μ 0 0 K (fun _ => False) 0 (pe [(.inl x0 : PV), (.inl x1 : PV), (.inl x2 : PV), (.inl x3 : PV), (.inl x4 : PV)] μ.2.2.1) [] s) : mOk enc bd μ (a5 f) := by
  refine mOk_of hk (fun as s K q => ?_)
  have q1 := q
  unfold a5 at q1
  split at q1
  · next x0 x1 x2 x3 x4 =>
    exact ⟨hp x0 x1 x2 x3 x4, fun hb => h x0 x1 x2 x3 x4 s K q1 hb⟩
  · exact q1.elim
def a6 (f : Int → Int → Int → Int → Int → Int → σ → (PS → σ → Prop) → Prop) : List PV → σ → (PS → σ → Prop) → Prop := fun as s K => match as with
  | [.inl x0, .inl x1, .inl x2, .inl x3, .inl x4, .inl x5] => f x0 x1 x2 x3 x4 x5 s K
  | _ => False
theorem mOVa6 {f : Int → Int → Int → Int → Int → Int → σ → (PS → σ → Prop) → Prop} (hk : xl_K μ) (hp : ∀ (x0 x1 x2 x3 x4 x5 : Int), Nat.ble (pw (pR 0 :: [(.inl x0 : PV), (.inl x1 : PV), (.inl x2 : PV), (.inl x3 : PV), (.inl x4 : PV), (.inl x5 : PV)])) μ.2.2.1 = true) (h : ∀ (x0 x1 x2 x3 x4 x5 : Int) (s : σ) (K : PS → σ → Prop), f x0 x1 x2 x3 x4 x5 s K → bd s → wX enc bd μ 0 0 K (fun _ => False) 0 (pe (pR 0 :: [(.inl x0 : PV), (.inl x1 : PV), (.inl x2 : PV), (.inl x3 : PV), (.inl x4 : PV), (.inl x5 : PV)]) μ.2.2.1) [] s) : mOk enc bd μ (atR 0 (a6 f)) := by
  refine mOk_of hk (fun as s K q => ?_)
  obtain ⟨as, rfl, q1⟩ := atR_inv q
  unfold a6 at q1
  split at q1
  · next x0 x1 x2 x3 x4 x5 =>
    exact ⟨hp x0 x1 x2 x3 x4 x5, fun hb => h x0 x1 x2 x3 x4 x5 s K q1 hb⟩
  · exact q1.elim
theorem mOSa6 {f : Int → Int → Int → Int → Int → Int → σ → (PS → σ → Prop) → Prop} (hk : xl_K μ) (hp : ∀ (x0 x1 x2 x3 x4 x5 : Int), Nat.ble (pw [(.inl x0 : PV), (.inl x1 : PV), (.inl x2 : PV), (.inl x3 : PV), (.inl x4 : PV), (.inl x5 : PV)]) μ.2.2.1 = true) (h : ∀ (x0 x1 x2 x3 x4 x5 : Int) (s : σ) (K : PS → σ → Prop), f x0 x1 x2 x3 x4 x5 s K → bd s → wX enc bd μ 0 0 K (fun _ => False) 0 (pe [(.inl x0 : PV), (.inl x1 : PV), (.inl x2 : PV), (.inl x3 : PV), (.inl x4 : PV), (.inl x5 : PV)] μ.2.2.1) [] s) : mOk enc bd μ (a6 f) := by
  refine mOk_of hk (fun as s K q => ?_)
  have q1 := q
  unfold a6 at q1
  split at q1
  · next x0 x1 x2 x3 x4 x5 =>
    exact ⟨hp x0 x1 x2 x3 x4 x5, fun hb => h x0 x1 x2 x3 x4 x5 s K q1 hb⟩
  · exact q1.elim
def a7 (f : Int → Int → Int → Int → Int → Int → Int → σ → (PS → σ → Prop) → Prop) : List PV → σ → (PS → σ → Prop) → Prop := fun as s K => match as with
  | [.inl x0, .inl x1, .inl x2, .inl x3, .inl x4, .inl x5, .inl x6] => f x0 x1 x2 x3 x4 x5 x6 s K
  | _ => False
theorem mOVa7 {f : Int → Int → Int → Int → Int → Int → Int → σ → (PS → σ → Prop) → Prop} (hk : xl_K μ) (hp : ∀ (x0 x1 x2 x3 x4 x5 x6 : Int), Nat.ble (pw (pR 0 :: [(.inl x0 : PV), (.inl x1 : PV), (.inl x2 : PV), (.inl x3 : PV), (.inl x4 : PV), (.inl x5 : PV), (.inl x6 : PV)])) μ.2.2.1 = true) (h : ∀ (x0 x1 x2 x3 x4 x5 x6 : Int) (s : σ) (K : PS → σ → Prop), f x0 x1 x2 x3 x4 x5 x6 s K → bd s → wX enc bd μ 0 0 K (fun _ => False) 0 (pe (pR 0 :: [(.inl x0 : PV), (.inl x1 : PV), (.inl x2 : PV), (.inl x3 : PV), (.inl x4 : PV), (.inl x5 : PV), (.inl x6 : PV)]) μ.2.2.1) [] s) : mOk enc bd μ (atR 0 (a7 f)) := by
  refine mOk_of hk (fun as s K q => ?_)
  obtain ⟨as, rfl, q1⟩ := atR_inv q
  unfold a7 at q1
  split at q1
  · next x0 x1 x2 x3 x4 x5 x6 =>
    exact ⟨hp x0 x1 x2 x3 x4 x5 x6, fun hb => h x0 x1 x2 x3 x4 x5 x6 s K q1 hb⟩
  · exact q1.elim
theorem mOSa7 {f : Int → Int → Int → Int → Int → Int → Int → σ → (PS → σ → Prop) → Prop} (hk : xl_K μ) (hp : ∀ (x0 x1 x2 x3 x4 x5 x6 : Int), Nat.ble (pw [(.inl x0 : PV), (.inl x1 : PV), (.inl x2 : PV), (.inl x3 : PV), (.inl x4 : PV), (.inl x5 : PV), (.inl x6 : PV)]) μ.2.2.1 = true) (h : ∀ (x0 x1 x2 x3 x4 x5 x6 : Int) (s : σ) (K : PS → σ → Prop), f x0 x1 x2 x3 x4 x5 x6 s K → bd s → wX enc bd μ 0 0 K (fun _ => False) 0 (pe [(.inl x0 : PV), (.inl x1 : PV), (.inl x2 : PV), (.inl x3 : PV), (.inl x4 : PV), (.inl x5 : PV), (.inl x6 : PV)] μ.2.2.1) [] s) : mOk enc bd μ (a7 f) := by
  refine mOk_of hk (fun as s K q => ?_)
  have q1 := q
  unfold a7 at q1
  split at q1
  · next x0 x1 x2 x3 x4 x5 x6 =>
    exact ⟨hp x0 x1 x2 x3 x4 x5 x6, fun hb => h x0 x1 x2 x3 x4 x5 x6 s K q1 hb⟩
  · exact q1.elim
def j1 (f : Int → σ → (PS → σ → Prop) → Prop) : List PV → σ → (PS → σ → Prop) → Prop := fun as s K => match as with
  | [.inr (.inl x0)] => f x0 s K
  | _ => False
theorem mOVj1 {f : Int → σ → (PS → σ → Prop) → Prop} (hk : xl_K μ) (hp : ∀ (x0 : Int), Nat.ble (pw (pR 0 :: [pJ x0])) μ.2.2.1 = true) (h : ∀ (x0 : Int) (s : σ) (K : PS → σ → Prop), f x0 s K → bd s → wX enc bd μ 0 0 K (fun _ => False) 0 (pe (pR 0 :: [pJ x0]) μ.2.2.1) [] s) : mOk enc bd μ (atR 0 (j1 f)) := by
  refine mOk_of hk (fun as s K q => ?_)
  obtain ⟨as, rfl, q1⟩ := atR_inv q
  unfold j1 at q1
  split at q1
  · next x0 =>
    exact ⟨hp x0, fun hb => h x0 s K q1 hb⟩
  · exact q1.elim
theorem mOSj1 {f : Int → σ → (PS → σ → Prop) → Prop} (hk : xl_K μ) (hp : ∀ (x0 : Int), Nat.ble (pw [pJ x0]) μ.2.2.1 = true) (h : ∀ (x0 : Int) (s : σ) (K : PS → σ → Prop), f x0 s K → bd s → wX enc bd μ 0 0 K (fun _ => False) 0 (pe [pJ x0] μ.2.2.1) [] s) : mOk enc bd μ (j1 f) := by
  refine mOk_of hk (fun as s K q => ?_)
  have q1 := q
  unfold j1 at q1
  split at q1
  · next x0 =>
    exact ⟨hp x0, fun hb => h x0 s K q1 hb⟩
  · exact q1.elim
def j2 (f : Int → Int → σ → (PS → σ → Prop) → Prop) : List PV → σ → (PS → σ → Prop) → Prop := fun as s K => match as with
  | [.inr (.inl x0), .inr (.inl x1)] => f x0 x1 s K
  | _ => False
theorem mOVj2 {f : Int → Int → σ → (PS → σ → Prop) → Prop} (hk : xl_K μ) (hp : ∀ (x0 x1 : Int), Nat.ble (pw (pR 0 :: [pJ x0, pJ x1])) μ.2.2.1 = true) (h : ∀ (x0 x1 : Int) (s : σ) (K : PS → σ → Prop), f x0 x1 s K → bd s → wX enc bd μ 0 0 K (fun _ => False) 0 (pe (pR 0 :: [pJ x0, pJ x1]) μ.2.2.1) [] s) : mOk enc bd μ (atR 0 (j2 f)) := by
  refine mOk_of hk (fun as s K q => ?_)
  obtain ⟨as, rfl, q1⟩ := atR_inv q
  unfold j2 at q1
  split at q1
  · next x0 x1 =>
    exact ⟨hp x0 x1, fun hb => h x0 x1 s K q1 hb⟩
  · exact q1.elim
theorem mOSj2 {f : Int → Int → σ → (PS → σ → Prop) → Prop} (hk : xl_K μ) (hp : ∀ (x0 x1 : Int), Nat.ble (pw [pJ x0, pJ x1]) μ.2.2.1 = true) (h : ∀ (x0 x1 : Int) (s : σ) (K : PS → σ → Prop), f x0 x1 s K → bd s → wX enc bd μ 0 0 K (fun _ => False) 0 (pe [pJ x0, pJ x1] μ.2.2.1) [] s) : mOk enc bd μ (j2 f) := by
  refine mOk_of hk (fun as s K q => ?_)
  have q1 := q
  unfold j2 at q1
  split at q1
  · next x0 x1 =>
    exact ⟨hp x0 x1, fun hb => h x0 x1 s K q1 hb⟩
  · exact q1.elim
def j3 (f : Int → Int → Int → σ → (PS → σ → Prop) → Prop) : List PV → σ → (PS → σ → Prop) → Prop := fun as s K => match as with
  | [.inr (.inl x0), .inr (.inl x1), .inr (.inl x2)] => f x0 x1 x2 s K
  | _ => False
theorem mOVj3 {f : Int → Int → Int → σ → (PS → σ → Prop) → Prop} (hk : xl_K μ) (hp : ∀ (x0 x1 x2 : Int), Nat.ble (pw (pR 0 :: [pJ x0, pJ x1, pJ x2])) μ.2.2.1 = true) (h : ∀ (x0 x1 x2 : Int) (s : σ) (K : PS → σ → Prop), f x0 x1 x2 s K → bd s → wX enc bd μ 0 0 K (fun _ => False) 0 (pe (pR 0 :: [pJ x0, pJ x1, pJ x2]) μ.2.2.1) [] s) : mOk enc bd μ (atR 0 (j3 f)) := by
  refine mOk_of hk (fun as s K q => ?_)
  obtain ⟨as, rfl, q1⟩ := atR_inv q
  unfold j3 at q1
  split at q1
  · next x0 x1 x2 =>
    exact ⟨hp x0 x1 x2, fun hb => h x0 x1 x2 s K q1 hb⟩
  · exact q1.elim
theorem mOSj3 {f : Int → Int → Int → σ → (PS → σ → Prop) → Prop} (hk : xl_K μ) (hp : ∀ (x0 x1 x2 : Int), Nat.ble (pw [pJ x0, pJ x1, pJ x2]) μ.2.2.1 = true) (h : ∀ (x0 x1 x2 : Int) (s : σ) (K : PS → σ → Prop), f x0 x1 x2 s K → bd s → wX enc bd μ 0 0 K (fun _ => False) 0 (pe [pJ x0, pJ x1, pJ x2] μ.2.2.1) [] s) : mOk enc bd μ (j3 f) := by
  refine mOk_of hk (fun as s K q => ?_)
  have q1 := q
  unfold j3 at q1
  split at q1
  · next x0 x1 x2 =>
    exact ⟨hp x0 x1 x2, fun hb => h x0 x1 x2 s K q1 hb⟩
  · exact q1.elim
end ARI
end
section
/-! ===== Table: room, width, cells, size ===== -/
abbrev TS : Type := Int × (Nat → Int)
def encT (rm w : Int) (s : TS) : XH := [xO 0 [xi rm, xi w, .ref 1, xi s.1], xA (rm * w).toNat s.2]
def bdT (rm w : Int) (s : TS) : Prop := (0 ≤ rm ∧ rm ≤ 1000 ∧ 0 ≤ w ∧ w ≤ 100) ∧ xB s.1 ∧ ∀ k, xB (s.2 k)
def fgT (rm w : Int) : FG TS := fun s r ci k => bif Nat.beq r 0 then (bif Nat.beq ci 0 then xl_n [pI rm, pI w, pR 1, pI s.1] k else none) else none
def fpT (_rm _w : Int) : FP TS := fun s r ci k z => bif Nat.beq r 0 then (bif Nat.beq ci 0 then (bif Nat.beq k 3 then some (z, s.2) else none) else none) else none
def agT (rm w : Int) : AG TS := fun s r => bif Nat.beq r 1 then some (0, (rm * w).toNat, s.2) else none
def apT (_rm _w : Int) : AP TS := fun s _ g => (s.1, g)
theorem bN {α : Type} {b : Bool} {x : Option α} {v : α} (h : (bif b then x else none) = some v) : b = true ∧ x = some v := by
  cases b with
  | false => cases h
  | true => exact ⟨rfl, h⟩
theorem nB {a b : Nat} (h : Nat.beq a b = true) : a = b := Nat.eq_of_beq_eq_true h
theorem mulle {a b c d : Int} (h0 : 0 ≤ a) (h1 : a ≤ c) (h2 : 0 ≤ b) (h3 : b ≤ d) : 0 ≤ a * b ∧ a * b ≤ c * d := by
  have e1 := Int.mul_nonneg h0 h2
  have e2 := Int.mul_le_mul h1 h3 h2 (by omega)
  exact ⟨e1, e2⟩
theorem vFgT (rm w : Int) : vFg (encT rm w) (bdT rm w) (fgT rm w) := by
  intro s r ci k v hb h
  obtain ⟨h1, h⟩ := bN h
  obtain ⟨h2, h⟩ := bN h
  have h1 := nB h1
  have h2 := nB h2
  subst h1; subst h2
  obtain ⟨⟨b1, b2, b3, b4⟩, b5, b6⟩ := hb
  match k, h with
  | 0, h => cases h; exact ⟨_, _, rfl, rfl, rfl, fun z e => by cases e; exact ⟨by omega, by omega⟩⟩
  | 1, h => cases h; exact ⟨_, _, rfl, rfl, rfl, fun z e => by cases e; exact ⟨by omega, by omega⟩⟩
  | 2, h => cases h; exact ⟨_, _, rfl, rfl, rfl, fun z e => by cases e⟩
  | 3, h => cases h; exact ⟨_, _, rfl, rfl, rfl, fun z e => by cases e; exact b5⟩
theorem vFpT (rm w : Int) : vFp (encT rm w) (bdT rm w) (fpT rm w) := by
  intro s r ci k z s' hb hz h
  obtain ⟨h1, h⟩ := bN h
  obtain ⟨h2, h⟩ := bN h
  obtain ⟨h3, h⟩ := bN h
  have h1 := nB h1
  have h2 := nB h2
  have h3 := nB h3
  subst h1; subst h2; subst h3
  cases h
  exact ⟨_, rfl, Nat.lt_succ_self 3, rfl, hb.1, hz, hb.2.2⟩
theorem vAgT (rm w : Int) : vAg (encT rm w) (bdT rm w) (agT rm w) (apT rm w) := by
  intro s r t n g hb h
  obtain ⟨h1, h⟩ := bN h
  have h1 := nB h1
  subst h1
  cases h
  obtain ⟨⟨b1, b2, b3, b4⟩, b5, b6⟩ := hb
  have := mulle b1 b2 b3 b4
  exact ⟨by omega, b6, rfl, fun g' hg => ⟨⟨⟨b1, b2, b3, b4⟩, b5, hg⟩, rfl⟩⟩
theorem tcl : ∃ T N, vwCl[0]? = some (RX0, T, N) := ⟨_, _, rfl⟩
theorem wcl : ∃ T N, vwCl[1]? = some (RX1, T, N) := ⟨_, _, rfl⟩
theorem lcl : ∃ T N, vwCl[2]? = some (RX2, T, N) := ⟨_, _, rfl⟩
theorem mcl : ∃ T N, vwCl[3]? = some (RX3, T, N) := ⟨_, _, rfl⟩
/-- a cell; one that is not there reads 0 -/
def tin (rm w i c : Int) : Prop := 0 ≤ i ∧ i < rm ∧ 0 ≤ c ∧ c < w
theorem tin_b {rm w i c : Int} (h : tin rm w i c) : 0 ≤ i * w ∧ 0 ≤ i * w + c ∧ i * w + c < rm * w := by
  obtain ⟨h0, h1, h2, h3⟩ := h
  have e1 : 0 ≤ i * w := Int.mul_nonneg h0 (by omega)
  have e2 : (i + 1) * w ≤ rm * w := Int.mul_le_mul_of_nonneg_right (by omega) (by omega)
  rw [Int.add_mul] at e2
  omega
def tg (rm w : Int) (g : Nat → Int) (i c : Int) : Int := if 0 ≤ i ∧ i < rm ∧ 0 ≤ c ∧ c < w then g (i * w + c).toNat else 0
def ts (rm w : Int) (g : Nat → Int) (i c v : Int) : Nat → Int := if 0 ≤ i ∧ i < rm ∧ 0 ≤ c ∧ c < w then xup g (i * w + c).toNat v else g
-- X0_get: heads []
def tX0_get (rm w : Int) : Nat → Blk TS := fun pc => bif Nat.blt pc 24 then (bif Nat.beq pc 0 then (oIld 1 <| oZLt 24 <| oIld 1 <| oAld 0 <| oGet (fgT rm w) 0 0 <| oCGe 24 <| oIld 2 <| oZLt 24 <| oIld 2 <| oAld 0 <| oGet (fgT rm w) 0 1 <| oCLt 26 <| oTo 24) else oNo) else (bif Nat.blt pc 26 then (bif Nat.beq pc 24 then (oI 0 <| oIret) else oNo) else (bif Nat.beq pc 26 then (oAld 0 <| oGet (fgT rm w) 0 2 <| oIld 1 <| oAld 0 <| oGet (fgT rm w) 0 1 <| oMul <| oIld 2 <| oAdd <| oIa (agT rm w) <| oIret) else oNo))
theorem tX0_get_ok (rm w : Int) : ∀ pc, bOk (encT rm w) (bdT rm w) mX0_get 0 0 pc (tX0_get rm w pc) := fun pc => (tNode (tLeaf (okIldn iX0_get_0 rfl <| okZLt (tl rfl) iX0_get_1 <| okIldn iX0_get_4 rfl <| okAldn iX0_get_5 rfl <| okGet (vFgT rm w) iX0_get_6 <| okCGe (tl rfl) iX0_get_9 <| okIldn iX0_get_12 rfl <| okZLt (tl rfl) iX0_get_13 <| okIldn iX0_get_16 rfl <| okAldn iX0_get_17 rfl <| okGet (vFgT rm w) iX0_get_18 <| okCLt (tl rfl) iX0_get_21 <| okTo (tl rfl))) (tNode (tLeaf (okIc iX0_get_24 <| okIret iX0_get_25 rfl)) (tLeaf (okAldn iX0_get_26 rfl <| okGet (vFgT rm w) iX0_get_27 <| okIldn iX0_get_30 rfl <| okAldn iX0_get_31 rfl <| okGet (vFgT rm w) iX0_get_32 <| okMul iX0_get_35 <| okIldn iX0_get_36 rfl <| okAdd iX0_get_37 <| okIa (vAgT rm w) iX0_get_38 <| okIret iX0_get_39 rfl)))) pc
-- X0_set: heads []
def tX0_set (rm w : Int) : Nat → Blk TS := fun pc => bif Nat.blt pc 38 then (bif Nat.beq pc 0 then (oIld 1 <| oZLt 38 <| oIld 1 <| oAld 0 <| oGet (fgT rm w) 0 0 <| oCGe 38 <| oIld 2 <| oZLt 38 <| oIld 2 <| oAld 0 <| oGet (fgT rm w) 0 1 <| oCGe 38 <| oAld 0 <| oGet (fgT rm w) 0 2 <| oIld 1 <| oAld 0 <| oGet (fgT rm w) 0 1 <| oMul <| oIld 2 <| oAdd <| oIld 3 <| oIas (agT rm w) (apT rm w) <| oTo 38) else oNo) else (bif Nat.beq pc 38 then (oVret) else oNo)
theorem tX0_set_ok (rm w : Int) : ∀ pc, bOk (encT rm w) (bdT rm w) mX0_set 0 0 pc (tX0_set rm w pc) := fun pc => (tNode (tLeaf (okIldn iX0_set_0 rfl <| okZLt (tl rfl) iX0_set_1 <| okIldn iX0_set_4 rfl <| okAldn iX0_set_5 rfl <| okGet (vFgT rm w) iX0_set_6 <| okCGe (tl rfl) iX0_set_9 <| okIldn iX0_set_12 rfl <| okZLt (tl rfl) iX0_set_13 <| okIldn iX0_set_16 rfl <| okAldn iX0_set_17 rfl <| okGet (vFgT rm w) iX0_set_18 <| okCGe (tl rfl) iX0_set_21 <| okAldn iX0_set_24 rfl <| okGet (vFgT rm w) iX0_set_25 <| okIldn iX0_set_28 rfl <| okAldn iX0_set_29 rfl <| okGet (vFgT rm w) iX0_set_30 <| okMul iX0_set_33 <| okIldn iX0_set_34 rfl <| okAdd iX0_set_35 <| okIldn iX0_set_36 rfl <| okIas (vAgT rm w) iX0_set_37 <| okTo (tl rfl))) (tLeaf (okVret iX0_set_38 rfl))) pc
-- X0_add: heads []
def tX0_add (rm w : Int) : Nat → Blk TS := fun pc => bif Nat.blt pc 41 then (bif Nat.beq pc 0 then (oIld 1 <| oZLt 41 <| oIld 1 <| oAld 0 <| oGet (fgT rm w) 0 0 <| oCGe 41 <| oIld 2 <| oZLt 41 <| oIld 2 <| oAld 0 <| oGet (fgT rm w) 0 1 <| oCGe 41 <| oAld 0 <| oGet (fgT rm w) 0 2 <| oIld 1 <| oAld 0 <| oGet (fgT rm w) 0 1 <| oMul <| oIld 2 <| oAdd <| oDup2 <| oIa (agT rm w) <| oIld 3 <| oAddW <| oIas (agT rm w) (apT rm w) <| oTo 41) else oNo) else (bif Nat.beq pc 41 then (oVret) else oNo)
theorem tX0_add_ok (rm w : Int) : ∀ pc, bOk (encT rm w) (bdT rm w) mX0_add 0 0 pc (tX0_add rm w pc) := fun pc => (tNode (tLeaf (okIldn iX0_add_0 rfl <| okZLt (tl rfl) iX0_add_1 <| okIldn iX0_add_4 rfl <| okAldn iX0_add_5 rfl <| okGet (vFgT rm w) iX0_add_6 <| okCGe (tl rfl) iX0_add_9 <| okIldn iX0_add_12 rfl <| okZLt (tl rfl) iX0_add_13 <| okIldn iX0_add_16 rfl <| okAldn iX0_add_17 rfl <| okGet (vFgT rm w) iX0_add_18 <| okCGe (tl rfl) iX0_add_21 <| okAldn iX0_add_24 rfl <| okGet (vFgT rm w) iX0_add_25 <| okIldn iX0_add_28 rfl <| okAldn iX0_add_29 rfl <| okGet (vFgT rm w) iX0_add_30 <| okMul iX0_add_33 <| okIldn iX0_add_34 rfl <| okAdd iX0_add_35 <| okDup2 iX0_add_36 <| okIa (vAgT rm w) iX0_add_37 <| okIldn iX0_add_38 rfl <| okAddW iX0_add_39 <| okIas (vAgT rm w) iX0_add_40 <| okTo (tl rfl))) (tLeaf (okVret iX0_add_41 rfl))) pc
-- X0_clear: heads []
def tX0_clear (rm w : Int) : Nat → Blk TS := fun pc => bif Nat.beq pc 0 then (oAld 0 <| oI 0 <| oPut (fpT rm w) 0 3 <| oVret) else oNo
theorem tX0_clear_ok (rm w : Int) : ∀ pc, bOk (encT rm w) (bdT rm w) mX0_clear 0 0 pc (tX0_clear rm w pc) := fun pc => (tLeaf (okAldn iX0_clear_0 rfl <| okIc iX0_clear_1 <| okPut (vFpT rm w) iX0_clear_2 <| okVret iX0_clear_5 rfl)) pc
-- X0_reach: heads []
def tX0_reach (rm w : Int) : Nat → Blk TS := fun pc => bif Nat.blt pc 23 then (bif Nat.beq pc 0 then (oIld 1 <| oAld 0 <| oGet (fgT rm w) 0 3 <| oCLt 23 <| oIld 1 <| oAld 0 <| oGet (fgT rm w) 0 0 <| oCGe 23 <| oAld 0 <| oIld 1 <| oI 1 <| oAdd <| oPut (fpT rm w) 0 3 <| oTo 23) else oNo) else (bif Nat.beq pc 23 then (oVret) else oNo)
theorem tX0_reach_ok (rm w : Int) : ∀ pc, bOk (encT rm w) (bdT rm w) mX0_reach 0 0 pc (tX0_reach rm w pc) := fun pc => (tNode (tLeaf (okIldn iX0_reach_0 rfl <| okAldn iX0_reach_1 rfl <| okGet (vFgT rm w) iX0_reach_2 <| okCLt (tl rfl) iX0_reach_5 <| okIldn iX0_reach_8 rfl <| okAldn iX0_reach_9 rfl <| okGet (vFgT rm w) iX0_reach_10 <| okCGe (tl rfl) iX0_reach_13 <| okAldn iX0_reach_16 rfl <| okIldn iX0_reach_17 rfl <| okIc iX0_reach_18 <| okAdd iX0_reach_19 <| okPut (vFpT rm w) iX0_reach_20 <| okTo (tl rfl))) (tLeaf (okVret iX0_reach_23 rfl))) pc
-- X0_drop: heads []
def tX0_drop (rm w : Int) : Nat → Blk TS := fun pc => bif Nat.blt pc 12 then (bif Nat.beq pc 0 then (oIld 1 <| oZLt 12 <| oIld 1 <| oAld 0 <| oGet (fgT rm w) 0 3 <| oCLt 13 <| oTo 12) else oNo) else (bif Nat.blt pc 13 then (bif Nat.beq pc 12 then (oVret) else oNo) else (bif Nat.beq pc 13 then (oAld 0 <| oGet (fgT rm w) 0 2 <| oIld 1 <| oI 1 <| oAdd <| oAld 0 <| oGet (fgT rm w) 0 1 <| oMul <| oAld 0 <| oGet (fgT rm w) 0 2 <| oIld 1 <| oAld 0 <| oGet (fgT rm w) 0 1 <| oMul <| oAld 0 <| oGet (fgT rm w) 0 3 <| oIld 1 <| oSub <| oI 1 <| oSub <| oAld 0 <| oGet (fgT rm w) 0 1 <| oMul <| oCpy (agT rm w) (apT rm w) <| oAld 0 <| oDup <| oGet (fgT rm w) 0 3 <| oI 1 <| oSub <| oPut (fpT rm w) 0 3 <| oVret) else oNo))
theorem tX0_drop_ok (rm w : Int) : ∀ pc, bOk (encT rm w) (bdT rm w) mX0_drop 0 0 pc (tX0_drop rm w pc) := fun pc => (tNode (tLeaf (okIldn iX0_drop_0 rfl <| okZLt (tl rfl) iX0_drop_1 <| okIldn iX0_drop_4 rfl <| okAldn iX0_drop_5 rfl <| okGet (vFgT rm w) iX0_drop_6 <| okCLt (tl rfl) iX0_drop_9 <| okTo (tl rfl))) (tNode (tLeaf (okVret iX0_drop_12 rfl)) (tLeaf (okAldn iX0_drop_13 rfl <| okGet (vFgT rm w) iX0_drop_14 <| okIldn iX0_drop_17 rfl <| okIc iX0_drop_18 <| okAdd iX0_drop_19 <| okAldn iX0_drop_20 rfl <| okGet (vFgT rm w) iX0_drop_21 <| okMul iX0_drop_24 <| okAldn iX0_drop_25 rfl <| okGet (vFgT rm w) iX0_drop_26 <| okIldn iX0_drop_29 rfl <| okAldn iX0_drop_30 rfl <| okGet (vFgT rm w) iX0_drop_31 <| okMul iX0_drop_34 <| okAldn iX0_drop_35 rfl <| okGet (vFgT rm w) iX0_drop_36 <| okIldn iX0_drop_39 rfl <| okSub iX0_drop_40 <| okIc iX0_drop_41 <| okSub iX0_drop_42 <| okAldn iX0_drop_43 rfl <| okGet (vFgT rm w) iX0_drop_44 <| okMul iX0_drop_47 <| okCpy (vAgT rm w) iX0_drop_48 <| okAldn iX0_drop_51 rfl <| okDup iX0_drop_52 <| okGet (vFgT rm w) iX0_drop_53 <| okIc iX0_drop_56 <| okSub iX0_drop_57 <| okPut (vFpT rm w) iX0_drop_58 <| okVret iX0_drop_61 rfl)))) pc
abbrev KT : Type := PS → TS → Prop
def sX0_get (rm w : Int) : Int → Int → TS → KT → Prop := fun i c s K => (xB i ∧ xB c) ∧ K [pI (tg rm w s.2 i c)] s
theorem mX0_get_ok (rm w : Int) : mOk (encT rm w) (bdT rm w) mX0_get (atR 0 (a2 (sX0_get rm w))) := by
  refine mOVa2 kX0_get (fun _ _ => rfl) (fun i c s K h hb => wx_go [] 9 (tX0_get_ok rm w) rfl ?_)
  obtain ⟨⟨hi, hc⟩, hK⟩ := h
  obtain ⟨⟨b1, b2, b3, b4⟩, b5, b6⟩ := hb
  by_cases q : 0 ≤ i ∧ i < rm ∧ 0 ≤ c ∧ c < w
  · obtain ⟨e1, e2, e3⟩ := tin_b q
    rw [show tg rm w s.2 i c = s.2 (i * w + c).toNat from if_pos q] at hK
    repeat' (first | (refine And.intro ?_ ?_) | intro _)
    all_goals first | omega | exact hK | (dsimp only [apT]; omega)
  · rw [show tg rm w s.2 i c = 0 from if_neg q] at hK
    repeat' (first | (refine And.intro ?_ ?_) | intro _)
    all_goals first | omega | exact hK | (dsimp only [apT]; omega)
def sX0_set (rm w : Int) : Int → Int → Int → TS → KT → Prop := fun i c v s K => (xB i ∧ xB c ∧ xB v) ∧ K [] (s.1, ts rm w s.2 i c v)
theorem mX0_set_ok (rm w : Int) : mOk (encT rm w) (bdT rm w) mX0_set (atR 0 (a3 (sX0_set rm w))) := by
  refine mOVa3 kX0_set (fun _ _ _ => rfl) (fun i c v s K h hb => wx_go [] 9 (tX0_set_ok rm w) rfl ?_)
  obtain ⟨⟨hi, hc, hv⟩, hK⟩ := h
  obtain ⟨⟨b1, b2, b3, b4⟩, b5, b6⟩ := hb
  by_cases q : 0 ≤ i ∧ i < rm ∧ 0 ≤ c ∧ c < w
  · obtain ⟨e1, e2, e3⟩ := tin_b q
    rw [show ts rm w s.2 i c v = xup s.2 (i * w + c).toNat v from if_pos q] at hK
    repeat' (first | (refine And.intro ?_ ?_) | intro _)
    all_goals first | omega | exact hK | (dsimp only [apT]; omega)
  · rw [show ts rm w s.2 i c v = s.2 from if_neg q] at hK
    repeat' (first | (refine And.intro ?_ ?_) | intro _)
    all_goals first | omega | exact hK | (dsimp only [apT]; omega)
def sX0_add (rm w : Int) : Int → Int → Int → TS → KT → Prop := fun i c v s K => (xB i ∧ xB c ∧ xB v) ∧ K [] (s.1, ts rm w s.2 i c (wI (tg rm w s.2 i c + v)))
theorem mX0_add_ok (rm w : Int) : mOk (encT rm w) (bdT rm w) mX0_add (atR 0 (a3 (sX0_add rm w))) := by
  refine mOVa3 kX0_add (fun _ _ _ => rfl) (fun i c v s K h hb => wx_go [] 9 (tX0_add_ok rm w) rfl ?_)
  obtain ⟨⟨hi, hc, hv⟩, hK⟩ := h
  obtain ⟨⟨b1, b2, b3, b4⟩, b5, b6⟩ := hb
  by_cases q : 0 ≤ i ∧ i < rm ∧ 0 ≤ c ∧ c < w
  · obtain ⟨e1, e2, e3⟩ := tin_b q
    rw [show tg rm w s.2 i c = s.2 (i * w + c).toNat from if_pos q] at hK
    rw [show ts rm w s.2 i c (wI (s.2 (i * w + c).toNat + v)) = xup s.2 (i * w + c).toNat (wI (s.2 (i * w + c).toNat + v)) from if_pos q] at hK
    repeat' (first | (refine And.intro ?_ ?_) | intro _)
    all_goals first | omega | exact hK | (dsimp only [apT]; omega)
  · rw [show ts rm w s.2 i c (wI (tg rm w s.2 i c + v)) = s.2 from if_neg q] at hK
    repeat' (first | (refine And.intro ?_ ?_) | intro _)
    all_goals first | omega | exact hK | (dsimp only [apT]; omega)
def sX0_clear (_rm _w : Int) : TS → KT → Prop := fun s K => K [] (0, s.2)
theorem mX0_clear_ok (rm w : Int) : mOk (encT rm w) (bdT rm w) mX0_clear (atR 0 (a0 (sX0_clear rm w))) := by
  refine mOVa0 kX0_clear (fun _ => rfl) (fun s K h hb => wx_go [] 9 (tX0_clear_ok rm w) rfl ?_)
  exact ⟨⟨by omega, by omega⟩, h⟩
def sX0_reach (rm _w : Int) : Int → TS → KT → Prop := fun i s K => xB i ∧ K [] (if s.1 ≤ i ∧ i < rm then i + 1 else s.1, s.2)
theorem mX0_reach_ok (rm w : Int) : mOk (encT rm w) (bdT rm w) mX0_reach (atR 0 (a1 (sX0_reach rm w))) := by
  refine mOVa1 kX0_reach (fun _ => rfl) (fun i s K h hb => wx_go [] 9 (tX0_reach_ok rm w) rfl ?_)
  obtain ⟨hi, hK⟩ := h
  obtain ⟨⟨b1, b2, b3, b4⟩, b5, b6⟩ := hb
  by_cases q : s.1 ≤ i ∧ i < rm
  · rw [if_pos q] at hK
    repeat' (first | (refine And.intro ?_ ?_) | intro _)
    all_goals first | omega | exact hK | (dsimp only [apT]; omega)
  · rw [if_neg q] at hK
    repeat' (first | (refine And.intro ?_ ?_) | intro _)
    all_goals first | omega | exact hK | (dsimp only [apT]; omega)
def sX0_drop (rm w : Int) : Int → TS → KT → Prop := fun i s K => (xB i ∧ s.1 ≤ rm) ∧ K [] (if 0 ≤ i ∧ i < s.1 then (s.1 - 1, xcp s.2 s.2 ((i + 1) * w).toNat (i * w).toNat ((s.1 - i - 1) * w).toNat) else s)
theorem mulA {a b : Int} (h0 : 0 ≤ a) (h1 : 0 ≤ b) : 0 ≤ a * b := Int.mul_nonneg h0 h1
theorem mX0_drop_ok (rm w : Int) : mOk (encT rm w) (bdT rm w) mX0_drop (atR 0 (a1 (sX0_drop rm w))) := by
  refine mOVa1 kX0_drop (fun _ => rfl) (fun i s K h hb => wx_go [] 9 (tX0_drop_ok rm w) rfl ?_)
  obtain ⟨⟨hi, hs⟩, hK⟩ := h
  obtain ⟨⟨b1, b2, b3, b4⟩, b5, b6⟩ := hb
  by_cases q : 0 ≤ i ∧ i < s.1
  · rw [if_pos q] at hK
    have e1 := mulA q.1 b3
    have e2 := mulA (a := s.1 - i - 1) (by omega) b3
    have e3 : (i + 1) * w + (s.1 - i - 1) * w = s.1 * w := by rw [← Int.add_mul]; congr 1; omega
    have e4 : s.1 * w ≤ rm * w := Int.mul_le_mul_of_nonneg_right hs b3
    have e5 := mulA (a := i + 1) (by omega) b3
    have e6 : (i + 1) * w = i * w + w := by rw [Int.add_mul]; omega
    repeat' (first | (refine And.intro ?_ ?_) | intro _)
    all_goals first | omega | exact hK | (dsimp only [apT]; omega)
  · rw [if_neg q] at hK
    repeat' (first | (refine And.intro ?_ ?_) | intro _)
    all_goals first | omega | exact hK | (dsimp only [apT]; omega)
end
section
/-! ===== Table: open, copyRow, copyFrom ===== -/
section T2
variable {M : XI} {rc rs pc pc2 : Nat}
theorem lenT {rm w : Int} (s s' : TS) : (encT rm w s').length = (encT rm w s).length := rfl
theorem recT {rm w : Int} (s : TS) : ∃ fs, xl_n (encT rm w s) 0 = some (.inr (0, fs)) := ⟨_, rfl⟩
def cT_X0_set (rm w : Int) : Sp TS := atR 0 (a3 (sX0_set rm w))
theorem qT_X0_set (rm w : Int) (d : xl_Ca M pc mX0_set pc2) : cOk (encT rm w) (bdT rm w) M rc rs pc pc2 4 (cT_X0_set rm w) := cSame (mX0_set_ok rm w) vX0_set d tcl rfl lenT recT
end T2
-- X0_open: heads [63]
def tX0_open (rm w : Int) : Nat → Blk TS := fun pc => bif Nat.blt pc 25 then (bif Nat.blt pc 23 then (bif Nat.beq pc 0 then (oIld 1 <| oZLt 23 <| oIld 1 <| oAld 0 <| oGet (fgT rm w) 0 3 <| oCGt 23 <| oAld 0 <| oGet (fgT rm w) 0 3 <| oAld 0 <| oGet (fgT rm w) 0 0 <| oCLt 25 <| oTo 23) else oNo) else (bif Nat.beq pc 23 then (oI 0 <| oZret) else oNo)) else (bif Nat.blt pc 63 then (bif Nat.beq pc 25 then (oAld 0 <| oGet (fgT rm w) 0 2 <| oIld 1 <| oAld 0 <| oGet (fgT rm w) 0 1 <| oMul <| oAld 0 <| oGet (fgT rm w) 0 2 <| oIld 1 <| oI 1 <| oAdd <| oAld 0 <| oGet (fgT rm w) 0 1 <| oMul <| oAld 0 <| oGet (fgT rm w) 0 3 <| oIld 1 <| oSub <| oAld 0 <| oGet (fgT rm w) 0 1 <| oMul <| oCpy (agT rm w) (apT rm w) <| oI 0 <| oIst 2 <| oM [true, true, true] (oTo 63)) else oNo) else (bif Nat.blt pc 84 then (bif Nat.beq pc 63 then (oIld 2 <| oAld 0 <| oGet (fgT rm w) 0 1 <| oCGe 84 <| oAld 0 <| oIld 1 <| oIld 2 <| oI 0 <| oC4 (cT_X0_set rm w) <| oInc 2 1 <| oM [true, true, true] (oTo 63)) else oNo) else (bif Nat.beq pc 84 then (oAld 0 <| oDup <| oGet (fgT rm w) 0 3 <| oI 1 <| oAdd <| oPut (fpT rm w) 0 3 <| oI 1 <| oZret) else oNo)))
theorem tX0_open_ok (rm w : Int) : ∀ pc, bOk (encT rm w) (bdT rm w) mX0_open 0 0 pc (tX0_open rm w pc) := fun pc => (tNode (tNode (tLeaf (okIldn iX0_open_0 rfl <| okZLt (tl rfl) iX0_open_1 <| okIldn iX0_open_4 rfl <| okAldn iX0_open_5 rfl <| okGet (vFgT rm w) iX0_open_6 <| okCGt (tl rfl) iX0_open_9 <| okAldn iX0_open_12 rfl <| okGet (vFgT rm w) iX0_open_13 <| okAldn iX0_open_16 rfl <| okGet (vFgT rm w) iX0_open_17 <| okCLt (tl rfl) iX0_open_20 <| okTo (tl rfl))) (tLeaf (okIc iX0_open_23 <| okZret iX0_open_24 rfl))) (tNode (tLeaf (okAldn iX0_open_25 rfl <| okGet (vFgT rm w) iX0_open_26 <| okIldn iX0_open_29 rfl <| okAldn iX0_open_30 rfl <| okGet (vFgT rm w) iX0_open_31 <| okMul iX0_open_34 <| okAldn iX0_open_35 rfl <| okGet (vFgT rm w) iX0_open_36 <| okIldn iX0_open_39 rfl <| okIc iX0_open_40 <| okAdd iX0_open_41 <| okAldn iX0_open_42 rfl <| okGet (vFgT rm w) iX0_open_43 <| okMul iX0_open_46 <| okAldn iX0_open_47 rfl <| okGet (vFgT rm w) iX0_open_48 <| okIldn iX0_open_51 rfl <| okSub iX0_open_52 <| okAldn iX0_open_53 rfl <| okGet (vFgT rm w) iX0_open_54 <| okMul iX0_open_57 <| okCpy (vAgT rm w) iX0_open_58 <| okIc iX0_open_61 <| okIstn iX0_open_62 rfl (by decide) <| okM (okTo (tl rfl)))) (tNode (tLeaf (okIldn iX0_open_63 rfl <| okAldn iX0_open_64 rfl <| okGet (vFgT rm w) iX0_open_65 <| okCGe (tl rfl) iX0_open_68 <| okAldn iX0_open_71 rfl <| okIldn iX0_open_72 rfl <| okIldn iX0_open_73 rfl <| okIc iX0_open_74 <| okC4 (qT_X0_set rm w iX0_open_75) <| okInc iX0_open_78 (by decide) <| okGotoM (tl rfl) iX0_open_81)) (tLeaf (okAldn iX0_open_84 rfl <| okDup iX0_open_85 <| okGet (vFgT rm w) iX0_open_86 <| okIc iX0_open_89 <| okAdd iX0_open_90 <| okPut (vFpT rm w) iX0_open_91 <| okIc iX0_open_94 <| okZret iX0_open_95 rfl))))) pc
/-- a row of zeros at a place, what stood there and behind it one further -/
def topen (w : Int) (g : Nat → Int) (sz i : Int) : Nat → Int := fun k => if (i * w).toNat ≤ k ∧ k < (i * w).toNat + w.toNat then 0 else xcp g g (i * w).toNat ((i + 1) * w).toNat ((sz - i) * w).toNat k
def sX0_open (rm w : Int) : Int → TS → KT → Prop := fun i s K => xB i ∧ ((0 ≤ i ∧ i ≤ s.1 ∧ s.1 < rm) → K [pI 1] (s.1 + 1, topen w s.2 s.1 i)) ∧ (¬ (0 ≤ i ∧ i ≤ s.1 ∧ s.1 < rm) → K [pI 0] s)
theorem X0_open_loop (rm w : Int) {K : KT} {Pt : TS → Prop} (i sz : Int) (g : Nat → Int) (b1 : 0 ≤ rm ∧ rm ≤ 1000 ∧ 0 ≤ w ∧ w ≤ 100) (hi : 0 ≤ i ∧ i < rm) (hsz : xB (sz + 1)) (hK : K [pI 1] (sz + 1, fun k => if (i * w).toNat ≤ k ∧ k < (i * w).toNat + w.toNat then 0 else g k)) : ∀ (n : Nat) (c : Int), 0 ≤ c → c ≤ w → n = (w - c).toNat → wX (encT rm w) (bdT rm w) mX0_open 0 0 K Pt 63 [some (pR 0), some (pI i), some (pI c)] [] (sz, fun k => if (i * w).toNat ≤ k ∧ k < (i * w).toNat + c.toNat then 0 else g k) := by
  intro n
  induction n with
  | zero =>
    intro c h0 h1 hn
    have : c = w := by omega
    subst this
    refine wx_go [63] 9 (tX0_open_ok rm c) rfl ?_
    repeat' (first | (refine And.intro ?_ ?_) | intro _)
    all_goals first | omega | exact hK
  | succ n ih =>
    intro c h0 h1 hn
    refine wx_go [63] 9 (tX0_open_ok rm w) rfl ?_
    intro _
    refine ⟨⟨⟨by omega, by omega⟩, ⟨by omega, by omega⟩⟩, fun c1 => absurd c1 (by omega), fun c1 => ?_⟩
    refine ⟨⟨⟨by omega, by omega⟩, ⟨by omega, by omega⟩, ⟨by omega, by omega⟩⟩, ?_⟩
    have e := ih (c + 1) (by omega) (by omega) (by omega)
    have q : 0 ≤ i ∧ i < rm ∧ 0 ≤ c ∧ c < w := ⟨hi.1, hi.2, h0, by omega⟩
    obtain ⟨e1, e2, e3⟩ := tin_b q
    have es : ts rm w (fun k => if (i * w).toNat ≤ k ∧ k < (i * w).toNat + c.toNat then 0 else g k) i c 0 = fun k => if (i * w).toNat ≤ k ∧ k < (i * w).toNat + (c + 1).toNat then 0 else g k := by
      rw [ts, if_pos q]
      funext k
      unfold xup
      by_cases hk : k = (i * w + c).toNat
      · rw [if_pos hk, if_pos (by omega)]
      · rw [if_neg hk]
        dsimp only
        by_cases hk2 : (i * w).toNat ≤ k ∧ k < (i * w).toNat + c.toNat
        · rw [if_pos hk2, if_pos (by omega)]
        · rw [if_neg hk2, if_neg (by omega)]
    rw [← es] at e
    exact e
theorem mX0_open_ok (rm w : Int) : mOk (encT rm w) (bdT rm w) mX0_open (atR 0 (a1 (sX0_open rm w))) := by
  refine mOVa1 kX0_open (fun _ => rfl) (fun i s K h hb => wx_go [63] 9 (tX0_open_ok rm w) rfl ?_)
  obtain ⟨hi, hK1, hK2⟩ := h
  obtain ⟨⟨b1, b2, b3, b4⟩, b5, b6⟩ := hb
  by_cases q : 0 ≤ i ∧ i ≤ s.1 ∧ s.1 < rm
  · have hK := hK1 q
    have e1 := mulA q.1 b3
    have e2 := mulA (a := s.1 - i) (by omega) b3
    have e3 : i * w + (s.1 - i) * w = s.1 * w := by rw [← Int.add_mul]; congr 1; omega
    have e4 : (s.1 + 1) * w ≤ rm * w := Int.mul_le_mul_of_nonneg_right (by omega) b3
    have e5 : (s.1 + 1) * w = s.1 * w + w := by rw [Int.add_mul]; omega
    have e6 : (i + 1) * w = i * w + w := by rw [Int.add_mul]; omega
    have hl := X0_open_loop rm w (K := K) (Pt := fun _ => False) i s.1 (xcp s.2 s.2 (i * w).toNat ((i + 1) * w).toNat ((s.1 - i) * w).toNat) ⟨b1, b2, b3, b4⟩ ⟨q.1, by omega⟩ ⟨by omega, by omega⟩ hK w.toNat 0 (by omega) b3 (by omega)
    have ez : (fun k => if (i * w).toNat ≤ k ∧ k < (i * w).toNat + Int.toNat 0 then (0 : Int) else xcp s.2 s.2 (i * w).toNat ((i + 1) * w).toNat ((s.1 - i) * w).toNat k) = xcp s.2 s.2 (i * w).toNat ((i + 1) * w).toNat ((s.1 - i) * w).toNat := by
      funext k
      rw [if_neg (by omega)]
    rw [ez] at hl
    refine ⟨hi, fun c1 => absurd c1 (by omega), fun c1 _ => ⟨⟨hi, b5⟩, fun c2 => absurd c2 (by omega), fun c2 _ _ => ⟨⟨b5, ⟨by omega, by omega⟩⟩, fun c3 => ?_, fun c3 => absurd c3 (by omega)⟩⟩⟩
    intro _ _ _ _
    exact ⟨⟨by omega, by omega, by omega, by omega, by omega⟩, hl⟩
  · have hK := hK2 q
    refine ⟨hi, fun c1 => ?_, fun c1 _ => ⟨⟨hi, b5⟩, fun c2 => ?_, fun c2 _ _ => ⟨⟨b5, ⟨by omega, by omega⟩⟩, fun c3 => absurd c3 (by omega), fun c3 => ?_⟩⟩⟩
    · exact ⟨Or.inl rfl, hK⟩
    · exact ⟨Or.inl rfl, hK⟩
    · exact ⟨Or.inl rfl, hK⟩
/-! two tables -/
abbrev TTS : Type := TS × TS
abbrev KTT : Type := PS → TTS → Prop
def encTT (rm w rn z : Int) (s : TTS) : XH := encT rm w s.1 ++ encT rn z s.2
def bdTT (rm w rn z : Int) (s : TTS) : Prop := bdT rm w s.1 ∧ bdT rn z s.2
def fgTT (rm w rn z : Int) : FG TTS := fun s r ci k => bif Nat.beq ci 0 then (bif Nat.beq r 0 then xl_n [pI rm, pI w, pR 1, pI s.1.1] k else bif Nat.beq r 2 then xl_n [pI rn, pI z, pR 3, pI s.2.1] k else none) else none
def fpTT (_rm _w _rn _z : Int) : FP TTS := fun s r ci k v => bif Nat.beq ci 0 then (bif Nat.beq r 0 then (bif Nat.beq k 3 then some ((v, s.1.2), s.2) else none) else none) else none
def agTT (rm w rn z : Int) : AG TTS := fun s r => bif Nat.beq r 1 then some (0, (rm * w).toNat, s.1.2) else bif Nat.beq r 3 then some (0, (rn * z).toNat, s.2.2) else none
def apTT (_rm _w _rn _z : Int) : AP TTS := fun s r g => bif Nat.beq r 1 then ((s.1.1, g), s.2) else (s.1, (s.2.1, g))
theorem vFgTT (rm w rn z : Int) : vFg (encTT rm w rn z) (bdTT rm w rn z) (fgTT rm w rn z) := by
  intro s r ci k v hb h0
  obtain ⟨h2, h⟩ := bN h0
  clear h0
  have h2 := nB h2
  subst h2
  obtain ⟨⟨⟨b1, b2, b3, b4⟩, b5, b6⟩, ⟨⟨d1, d2, d3, d4⟩, d5, d6⟩⟩ := hb
  cases e1 : Nat.beq r 0 with
  | true =>
    rw [e1] at h
    have e1 := nB e1
    subst e1
    match k, h with
    | 0, h => cases h; exact ⟨_, _, rfl, rfl, rfl, fun z e => by cases e; exact ⟨by omega, by omega⟩⟩
    | 1, h => cases h; exact ⟨_, _, rfl, rfl, rfl, fun z e => by cases e; exact ⟨by omega, by omega⟩⟩
    | 2, h => cases h; exact ⟨_, _, rfl, rfl, rfl, fun z e => by cases e⟩
    | 3, h => cases h; exact ⟨_, _, rfl, rfl, rfl, fun z e => by cases e; exact b5⟩
  | false =>
    rw [e1] at h
    obtain ⟨h3, h⟩ := bN h
    have h3 := nB h3
    subst h3
    match k, h with
    | 0, h => cases h; exact ⟨_, _, rfl, rfl, rfl, fun z e => by cases e; exact ⟨by omega, by omega⟩⟩
    | 1, h => cases h; exact ⟨_, _, rfl, rfl, rfl, fun z e => by cases e; exact ⟨by omega, by omega⟩⟩
    | 2, h => cases h; exact ⟨_, _, rfl, rfl, rfl, fun z e => by cases e⟩
    | 3, h => cases h; exact ⟨_, _, rfl, rfl, rfl, fun z e => by cases e; exact d5⟩
theorem vFpTT (rm w rn z : Int) : vFp (encTT rm w rn z) (bdTT rm w rn z) (fpTT rm w rn z) := by
  intro s r ci k v s' hb hz h
  obtain ⟨h1, h⟩ := bN h
  obtain ⟨h2, h⟩ := bN h
  obtain ⟨h3, h⟩ := bN h
  have h1 := nB h1
  have h2 := nB h2
  have h3 := nB h3
  subst h1; subst h2; subst h3
  cases h
  exact ⟨_, rfl, Nat.lt_succ_self 3, rfl, ⟨hb.1.1, hz, hb.1.2.2⟩, hb.2⟩
theorem vAgTT (rm w rn z : Int) : vAg (encTT rm w rn z) (bdTT rm w rn z) (agTT rm w rn z) (apTT rm w rn z) := by
  intro s r t n g hb h
  obtain ⟨⟨⟨b1, b2, b3, b4⟩, b5, b6⟩, ⟨⟨d1, d2, d3, d4⟩, d5, d6⟩⟩ := hb
  have m1 := mulle b1 b2 b3 b4
  have m2 := mulle d1 d2 d3 d4
  unfold agTT at h
  cases e1 : Nat.beq r 1 with
  | true =>
    rw [e1] at h
    have e1 := nB e1
    subst e1
    cases h
    exact ⟨by omega, b6, rfl, fun g' hg => ⟨⟨⟨⟨b1, b2, b3, b4⟩, b5, hg⟩, ⟨⟨d1, d2, d3, d4⟩, d5, d6⟩⟩, rfl⟩⟩
  | false =>
    rw [e1] at h
    obtain ⟨h3, h⟩ := bN h
    have h3 := nB h3
    subst h3
    cases h
    exact ⟨by omega, d6, rfl, fun g' hg => ⟨⟨⟨⟨b1, b2, b3, b4⟩, b5, b6⟩, ⟨⟨d1, d2, d3, d4⟩, d5, hg⟩⟩, rfl⟩⟩
section T3
variable {M : XI} {rc rs pc pc2 : Nat}
theorem lenTT {rm w rn z : Int} (s s' : TTS) : (encTT rm w rn z s').length = (encTT rm w rn z s).length := rfl
theorem lkTT0 (rm w rn z : Int) : vLk (encTT rm w rn z) (bdTT rm w rn z) (encT rm w) (bdT rm w) (fun k => 0 + k) (fun s => s.1) (fun s t => (t, s.2)) :=
  vLk_run (n := 2) (fun _ => rfl) (by decide) (fun s => rfl) (fun s t => rfl) (fun s hb => hb.1) (fun s t hb ht => ⟨ht, hb.2⟩) (fun s => by show 2 ≤ 4; decide)
theorem lkTT2 (rm w rn z : Int) : vLk (encTT rm w rn z) (bdTT rm w rn z) (encT rn z) (bdT rn z) (fun k => 2 + k) (fun s => s.2) (fun s t => (s.1, t)) :=
  vLk_run (n := 2) (fun _ => rfl) (by decide) (fun s => rfl) (fun s t => rfl) (fun s hb => hb.2) (fun s t hb ht => ⟨hb.1, ht⟩) (fun s => by show 4 ≤ 4; decide)
def cTT_X0_get (_rm _w rn z : Int) : Sp TTS := atR 2 (a2 (fun i c s K => (xB i ∧ xB c) ∧ K [pI (tg rn z s.2.2 i c)] s))
theorem a2_inv {σ : Type} {f : Int → Int → σ → (PS → σ → Prop) → Prop} {as : List PV} {s : σ} {K : PS → σ → Prop} (h : a2 f as s K) : ∃ x y, as = [pI x, pI y] ∧ f x y s K := by
  unfold a2 at h
  split at h
  · exact ⟨_, _, rfl, h⟩
  · exact h.elim
theorem a3_inv {σ : Type} {f : Int → Int → Int → σ → (PS → σ → Prop) → Prop} {as : List PV} {s : σ} {K : PS → σ → Prop} (h : a3 f as s K) : ∃ x y z, as = [pI x, pI y, pI z] ∧ f x y z s K := by
  unfold a3 at h
  split at h
  · exact ⟨_, _, _, rfl, h⟩
  · exact h.elim
theorem qTT_X0_get (rm w rn z : Int) (d : xl_Ca M pc mX0_get pc2) : cOk (encTT rm w rn z) (bdTT rm w rn z) M rc rs pc pc2 3 (cTT_X0_get rm w rn z) := by
  refine cVirt (mX0_get_ok rn z) vX0_get d tcl rfl (fun as s K hb h => ?_)
  obtain ⟨as, rfl, h1⟩ := atR_inv h
  obtain ⟨i, c, rfl, h2⟩ := a2_inv h1
  exact ⟨_, _, _, [pI i, pI c], lkTT2 rm w rn z, ⟨_, rfl⟩, rfl, h2⟩
def cTT_X0_set (rm w _rn _z : Int) : Sp TTS := atR 0 (a3 (fun i c v s K => (xB i ∧ xB c ∧ xB v) ∧ K [] ((s.1.1, ts rm w s.1.2 i c v), s.2)))
theorem qTT_X0_set (rm w rn z : Int) (d : xl_Ca M pc mX0_set pc2) : cOk (encTT rm w rn z) (bdTT rm w rn z) M rc rs pc pc2 4 (cTT_X0_set rm w rn z) := by
  refine cVirt (mX0_set_ok rm w) vX0_set d tcl rfl (fun as s K hb h => ?_)
  obtain ⟨as, rfl, h1⟩ := atR_inv h
  obtain ⟨i, c, v, rfl, h2⟩ := a3_inv h1
  exact ⟨_, _, _, [pI i, pI c, pI v], lkTT0 rm w rn z, ⟨_, rfl⟩, rfl, h2⟩
end T3
-- X0_copyFrom: heads []
def tX0_copyFrom (rm w rn z : Int) : Nat → Blk TTS := fun pc => bif Nat.blt pc 17 then (bif Nat.beq pc 0 then (oAld 1 <| oNu <| oAld 1 <| oGet (fgTT rm w rn z) 0 2 <| oLen (agTT rm w rn z) <| oAld 0 <| oGet (fgTT rm w rn z) 0 2 <| oLen (agTT rm w rn z) <| oCEq 18 <| oTo 17) else oNo) else (bif Nat.blt pc 18 then (bif Nat.beq pc 17 then (oVret) else oNo) else (bif Nat.beq pc 18 then (oAld 0 <| oAld 1 <| oGet (fgTT rm w rn z) 0 3 <| oPut (fpTT rm w rn z) 0 3 <| oAld 1 <| oGet (fgTT rm w rn z) 0 2 <| oI 0 <| oAld 0 <| oGet (fgTT rm w rn z) 0 2 <| oI 0 <| oAld 0 <| oGet (fgTT rm w rn z) 0 3 <| oAld 0 <| oGet (fgTT rm w rn z) 0 1 <| oMul <| oAld 0 <| oGet (fgTT rm w rn z) 0 2 <| oLen (agTT rm w rn z) <| oMin <| oCpy (agTT rm w rn z) (apTT rm w rn z) <| oVret) else oNo))
theorem tX0_copyFrom_ok (rm w rn z : Int) : ∀ pc, bOk (encTT rm w rn z) (bdTT rm w rn z) mX0_copyFrom 0 0 pc (tX0_copyFrom rm w rn z pc) := fun pc => (tNode (tLeaf (okAldn iX0_copyFrom_0 rfl <| okNu iX0_copyFrom_1 <| okAldn iX0_copyFrom_4 rfl <| okGet (vFgTT rm w rn z) iX0_copyFrom_5 <| okLen (vAgTT rm w rn z) iX0_copyFrom_8 <| okAldn iX0_copyFrom_9 rfl <| okGet (vFgTT rm w rn z) iX0_copyFrom_10 <| okLen (vAgTT rm w rn z) iX0_copyFrom_13 <| okCEq (tl rfl) iX0_copyFrom_14 <| okTo (tl rfl))) (tNode (tLeaf (okVret iX0_copyFrom_17 rfl)) (tLeaf (okAldn iX0_copyFrom_18 rfl <| okAldn iX0_copyFrom_19 rfl <| okGet (vFgTT rm w rn z) iX0_copyFrom_20 <| okPut (vFpTT rm w rn z) iX0_copyFrom_23 <| okAldn iX0_copyFrom_26 rfl <| okGet (vFgTT rm w rn z) iX0_copyFrom_27 <| okIc iX0_copyFrom_30 <| okAldn iX0_copyFrom_31 rfl <| okGet (vFgTT rm w rn z) iX0_copyFrom_32 <| okIc iX0_copyFrom_35 <| okAldn iX0_copyFrom_36 rfl <| okGet (vFgTT rm w rn z) iX0_copyFrom_37 <| okAldn iX0_copyFrom_40 rfl <| okGet (vFgTT rm w rn z) iX0_copyFrom_41 <| okMul iX0_copyFrom_44 <| okAldn iX0_copyFrom_45 rfl <| okGet (vFgTT rm w rn z) iX0_copyFrom_46 <| okLen (vAgTT rm w rn z) iX0_copyFrom_49 <| okMin iX0_copyFrom_50 <| okCpy (vAgTT rm w rn z) iX0_copyFrom_53 <| okVret iX0_copyFrom_56 rfl)))) pc
-- X0_copyRow: heads [8]
def tX0_copyRow (rm w rn z : Int) : Nat → Blk TTS := fun pc => bif Nat.blt pc 8 then (bif Nat.blt pc 5 then (bif Nat.beq pc 0 then (oAld 2 <| oNN 5) else oNo) else (bif Nat.beq pc 5 then (oI 0 <| oIst 4 <| oM [true, true, true, true, true] (oTo 8)) else oNo)) else (bif Nat.blt pc 37 then (bif Nat.beq pc 8 then (oIld 4 <| oAld 0 <| oGet (fgTT rm w rn z) 0 1 <| oCGe 37 <| oAld 0 <| oIld 1 <| oIld 4 <| oAld 2 <| oIld 3 <| oIld 4 <| oC3 (cTT_X0_get rm w rn z) <| oC4 (cTT_X0_set rm w rn z) <| oInc 4 1 <| oM [true, true, true, true, true] (oTo 8)) else oNo) else (bif Nat.beq pc 37 then (oVret) else oNo))
theorem tX0_copyRow_ok (rm w rn z : Int) : ∀ pc, bOk (encTT rm w rn z) (bdTT rm w rn z) mX0_copyRow 0 0 pc (tX0_copyRow rm w rn z pc) := fun pc => (tNode (tNode (tLeaf (okAldn iX0_copyRow_0 rfl <| okNN (tl rfl) iX0_copyRow_1)) (tLeaf (okIc iX0_copyRow_5 <| okIst iX0_copyRow_6 (by decide) <| okM (okTo (tl rfl))))) (tNode (tLeaf (okIld iX0_copyRow_8 <| okAldn iX0_copyRow_10 rfl <| okGet (vFgTT rm w rn z) iX0_copyRow_11 <| okCGe (tl rfl) iX0_copyRow_14 <| okAldn iX0_copyRow_17 rfl <| okIldn iX0_copyRow_18 rfl <| okIld iX0_copyRow_19 <| okAldn iX0_copyRow_21 rfl <| okIldn iX0_copyRow_22 rfl <| okIld iX0_copyRow_23 <| okC3 (qTT_X0_get rm w rn z iX0_copyRow_25) <| okC4 (qTT_X0_set rm w rn z iX0_copyRow_28) <| okInc iX0_copyRow_31 (by decide) <| okGotoM (tl rfl) iX0_copyRow_34)) (tLeaf (okVret iX0_copyRow_37 rfl)))) pc
/-- two tables' methods: i, the other one at place 2 -/
def sX0_copyFrom (rm w : Int) : List PV → TTS → KTT → Prop := fun as s K => match as with
  | [.inr (.inr (.inl 2))] => (0 ≤ s.2.1 ∧ s.2.1 ≤ rm) ∧ K [] ((s.2.1, xcp s.2.2 s.1.2 0 0 (s.2.1 * w).toNat), s.2)
  | _ => False
theorem mX0_copyFrom_ok (rm w : Int) : mOk (encTT rm w rm w) (bdTT rm w rm w) mX0_copyFrom (atR 0 (sX0_copyFrom rm w)) := by
  refine mOk_of kX0_copyFrom (fun as s K h => ?_)
  obtain ⟨as, rfl, h1⟩ := atR_inv h
  unfold sX0_copyFrom at h1
  split at h1
  · refine ⟨rfl, fun hb => wx_go [] 9 (tX0_copyFrom_ok rm w rm w) rfl ?_⟩
    obtain ⟨⟨q1, q2⟩, hK⟩ := h1
    obtain ⟨⟨⟨b1, b2, b3, b4⟩, b5, b6⟩, ⟨⟨d1, d2, d3, d4⟩, d5, d6⟩⟩ := hb
    have m1 := mulle b1 b2 b3 b4
    have m2 := mulA q1 b3
    have e4 : s.2.1 * w ≤ rm * w := Int.mul_le_mul_of_nonneg_right q2 b3
    have emin : min (s.2.1 * w) ((rm * w).toNat : Int) = s.2.1 * w := by omega
    refine ⟨⟨⟨by omega, by omega⟩, ⟨by omega, by omega⟩⟩, fun _ => ?_, fun c => absurd rfl c⟩
    intro _
    refine ⟨d5, ?_⟩
    intro _ _
    refine ⟨⟨⟨?_, ?_⟩, ⟨by omega, by omega⟩⟩, ?_⟩
    · show -2147483648 ≤ s.2.1 * w
      omega
    · show s.2.1 * w ≤ 2147483647
      omega
    · refine ⟨⟨by omega, by omega, ?_, ?_, ?_⟩, ?_⟩
      · show 0 ≤ min (s.2.1 * w) ((rm * w).toNat : Int)
        omega
      · show 0 + min (s.2.1 * w) ((rm * w).toNat : Int) ≤ ((rm * w).toNat : Int)
        omega
      · show 0 + min (s.2.1 * w) ((rm * w).toNat : Int) ≤ ((rm * w).toNat : Int)
        omega
      · show K [] ((s.2.1, xcp s.2.2 s.1.2 0 0 (min (s.2.1 * w) ((rm * w).toNat : Int)).toNat), s.2)
        rw [emin]
        exact hK
  · exact h1.elim
/-- a row of another table -/
def trow (rm w rn z : Int) (g f : Nat → Int) (i j : Int) : Nat → Int := fun k => if (0 ≤ i ∧ i < rm) ∧ (i * w).toNat ≤ k ∧ k < (i * w).toNat + w.toNat then tg rn z f j ((k - (i * w).toNat : Nat) : Int) else g k
def sX0_copyRow (rm w rn z : Int) : List PV → TTS → KTT → Prop := fun as s K => match as with
  | [.inl i, .inr (.inr (.inl 2)), .inl j] => (xB i ∧ xB j) ∧ K [] ((s.1.1, trow rm w rn z s.1.2 s.2.2 i j), s.2)
  | _ => False
theorem tg_B {rm w : Int} {g : Nat → Int} {i c : Int} (h : ∀ k, xB (g k)) : xB (tg rm w g i c) := by
  unfold tg
  split
  · exact h _
  · exact ⟨by omega, by omega⟩
theorem X0_copyRow_loop (rm w rn z : Int) {K : KTT} {Pt : TTS → Prop} (i j sz : Int) (g : Nat → Int) (o : TS) (b1 : 0 ≤ rm ∧ rm ≤ 1000 ∧ 0 ≤ w ∧ w ≤ 100) (hi : xB i) (hj : xB j) (ho : ∀ k, xB (o.2 k)) (hK : K [] ((sz, trow rm w rn z g o.2 i j), o)) : ∀ (n : Nat) (c : Int), 0 ≤ c → c ≤ w → n = (w - c).toNat → wX (encTT rm w rn z) (bdTT rm w rn z) mX0_copyRow 0 0 K Pt 8 [some (pR 0), some (pI i), some (pR 2), some (pI j), some (pI c)] [] ((sz, fun k => if (0 ≤ i ∧ i < rm) ∧ (i * w).toNat ≤ k ∧ k < (i * w).toNat + c.toNat then tg rn z o.2 j ((k - (i * w).toNat : Nat) : Int) else g k), o) := by
  intro n
  induction n with
  | zero =>
    intro c h0 h1 hn
    have : c = w := by omega
    subst this
    refine wx_go [8] 9 (tX0_copyRow_ok rm c rn z) rfl ?_
    repeat' (first | (refine And.intro ?_ ?_) | intro _)
    all_goals first | omega | exact hK
  | succ n ih =>
    intro c h0 h1 hn
    refine wx_go [8] 9 (tX0_copyRow_ok rm w rn z) rfl ?_
    intro _
    refine ⟨⟨⟨by omega, by omega⟩, ⟨by omega, by omega⟩⟩, fun c1 => absurd c1 (by omega), fun c1 => ?_⟩
    refine ⟨⟨hj, ⟨by omega, by omega⟩⟩, ?_⟩
    refine ⟨⟨hi, ⟨by omega, by omega⟩, tg_B ho⟩, ?_⟩
    have e := ih (c + 1) (by omega) (by omega) (by omega)
    have es : ts rm w (fun k => if (0 ≤ i ∧ i < rm) ∧ (i * w).toNat ≤ k ∧ k < (i * w).toNat + c.toNat then tg rn z o.2 j ((k - (i * w).toNat : Nat) : Int) else g k) i c (tg rn z o.2 j c) = fun k => if (0 ≤ i ∧ i < rm) ∧ (i * w).toNat ≤ k ∧ k < (i * w).toNat + (c + 1).toNat then tg rn z o.2 j ((k - (i * w).toNat : Nat) : Int) else g k := by
      unfold ts
      by_cases q : 0 ≤ i ∧ i < rm ∧ 0 ≤ c ∧ c < w
      · obtain ⟨e1, e2, e3⟩ := tin_b q
        rw [if_pos q]
        funext k
        unfold xup
        by_cases hk : k = (i * w + c).toNat
        · rw [if_pos hk, if_pos (by omega)]
          congr 1
          omega
        · rw [if_neg hk]
          dsimp only
          by_cases hk2 : (0 ≤ i ∧ i < rm) ∧ (i * w).toNat ≤ k ∧ k < (i * w).toNat + c.toNat
          · rw [if_pos hk2, if_pos (by omega)]
          · rw [if_neg hk2, if_neg (by omega)]
      · rw [if_neg q]
        funext k
        rw [if_neg (by omega), if_neg (by omega)]
    rw [← es] at e
    exact e
theorem mX0_copyRow_ok (rm w rn z : Int) : mOk (encTT rm w rn z) (bdTT rm w rn z) mX0_copyRow (atR 0 (sX0_copyRow rm w rn z)) := by
  refine mOk_of kX0_copyRow (fun as s K h => ?_)
  obtain ⟨as, rfl, h1⟩ := atR_inv h
  unfold sX0_copyRow at h1
  split at h1
  · next i j =>
    refine ⟨rfl, fun hb => wx_go [8] 9 (tX0_copyRow_ok rm w rn z) rfl ?_⟩
    obtain ⟨⟨hi, hj⟩, hK⟩ := h1
    obtain ⟨⟨⟨b1, b2, b3, b4⟩, b5, b6⟩, ⟨⟨d1, d2, d3, d4⟩, d5, d6⟩⟩ := hb
    have hl := X0_copyRow_loop rm w rn z (K := K) (Pt := fun _ => False) i j s.1.1 s.1.2 s.2 ⟨b1, b2, b3, b4⟩ hi hj d6 hK w.toNat 0 (by omega) b3 (by omega)
    have ez : (fun k => if (0 ≤ i ∧ i < rm) ∧ (i * w).toNat ≤ k ∧ k < (i * w).toNat + Int.toNat 0 then tg rn z s.2.2 j ((k - (i * w).toNat : Nat) : Int) else s.1.2 k) = s.1.2 := by
      funext k
      rw [if_neg (by omega)]
    rw [ez] at hl
    exact hl
  · exact h1.elim
end
section
/-! ===== the rest of a division, signs as Java has them; counting ===== -/
section RMT
variable {σ : Type} {enc : σ → XH} {bd : σ → Prop} {M : XI} {rc rs pc pc2 : Nat} {B : Blk σ}
def oRemT (B : Blk σ) : Blk σ := fun J L st s => match st with
  | .inl b :: .inl a :: st => (b ≠ 0 ∧ xB a ∧ xB b) ∧ B J L (.inl (Int.tmod a b) :: st) s
  | _ => False
theorem iI_tmod {a b : Int} (ha : xB a) (hb : xB b) : iI a - iI a / iI b * iI b = iI (Int.tmod a b) := by
  have e : iI (a.tdiv b) = iI a / iI b := Int32.ofInt_tdiv (show Int32.minValue.toInt ≤ a from by show (-2147483648 : Int) ≤ a; exact ha.1) (show a ≤ Int32.maxValue.toInt from by show a ≤ (2147483647 : Int); exact ha.2) (show Int32.minValue.toInt ≤ b from by show (-2147483648 : Int) ≤ b; exact hb.1) (show b ≤ Int32.maxValue.toInt from by show b ≤ (2147483647 : Int); exact hb.2)
  rw [← e, iI_mul, iI_sub, Int.tmod_def, Int.mul_comm b]
theorem okRemT (d : xl_D M pc .irem 1 pc2) (k : bOk enc bd M rc rs pc2 B) : bOk enc bd M rc rs pc (oRemT B) := by
  intro Po Pt J hJ L st s hb h
  unfold oRemT at h
  split at h
  · next b a st => 
    obtain ⟨⟨h1, h2, h3⟩, h4⟩ := h
    exact xl_irem d (fun e => h1 ((iI_eq0 h3).mp e)) (by rw [iI_tmod h2 h3]; exact k Po Pt J hJ _ _ _ hb h4)
  · exact h.elim
theorem cMono {sp sp2 : Sp σ} {n : Nat} (h : ∀ as s K, bd s → sp as s K → sp2 as s K) (hc : cOk enc bd M rc rs pc pc2 n sp2) : cOk enc bd M rc rs pc pc2 n sp :=
  fun as L st s K Q hl hw hb hs hk => hc as L st s K Q hl hw hb (h as s K hb hs) hk
/-- an object among the caller's cells: which one, by its place -/
def inT (tix : Nat → Option Nat) (f : Nat → List PV → σ → (PS → σ → Prop) → Prop) : Sp σ := fun as s K => match as with
  | .inr (.inr (.inl q)) :: as => match tix q with
    | some t => bif as.all pnr then f t as s K else False
    | none => False
  | _ => False
theorem inT_inv {tix : Nat → Option Nat} {f : Nat → List PV → σ → (PS → σ → Prop) → Prop} {as : List PV} {s : σ} {K : PS → σ → Prop} (h : inT tix f as s K) : ∃ q t as', as = pR q :: as' ∧ tix q = some t ∧ as'.all pnr = true ∧ f t as' s K := by
  unfold inT at h
  split at h
  · next q as =>
    split at h
    · next t e =>
      obtain ⟨h1, h2⟩ := condT h
      exact ⟨q, t, as, rfl, e, h1, h2⟩
    · exact h.elim
  · exact h.elim
theorem inT_mk {tix : Nat → Option Nat} {f : Nat → List PV → σ → (PS → σ → Prop) → Prop} {as : List PV} {s : σ} {K : PS → σ → Prop} {q t : Nat} (h1 : tix q = some t) (h2 : as.all pnr = true) (h3 : f t as s K) : inT tix f (pR q :: as) s K := by
  show (match tix q with
    | some t => bif as.all pnr then f t as s K else False
    | none => False)
  rw [h1, h2]
  exact h3
theorem a0_inv {f : σ → (PS → σ → Prop) → Prop} {as : List PV} {s : σ} {K : PS → σ → Prop} (h : a0 f as s K) : as = [] ∧ f s K := by
  unfold a0 at h
  split at h
  · exact ⟨rfl, h⟩
  · exact h.elim
theorem a1_inv {f : Int → σ → (PS → σ → Prop) → Prop} {as : List PV} {s : σ} {K : PS → σ → Prop} (h : a1 f as s K) : ∃ x, as = [pI x] ∧ f x s K := by
  unfold a1 at h
  split at h
  · exact ⟨_, rfl, h⟩
  · exact h.elim
theorem a4_inv {f : Int → Int → Int → Int → σ → (PS → σ → Prop) → Prop} {as : List PV} {s : σ} {K : PS → σ → Prop} (h : a4 f as s K) : ∃ x y z u, as = [pI x, pI y, pI z, pI u] ∧ f x y z u s K := by
  unfold a4 at h
  split at h
  · exact ⟨_, _, _, _, rfl, h⟩
  · exact h.elim
/-- how many of n places from i on -/
def cntI (P : Int → Bool) : Nat → Int → Int
  | 0, _ => 0
  | n + 1, i => (bif P i then 1 else 0) + cntI P n (i + 1)
theorem cntI_b (P : Int → Bool) : ∀ (n : Nat) (i : Int), 0 ≤ cntI P n i ∧ cntI P n i ≤ n
  | 0, i => by simp [cntI]
  | n + 1, i => by
    have := cntI_b P n (i + 1)
    unfold cntI
    cases P i <;> simp only [cond_true, cond_false] <;> omega
def sumI (f : Int → Int) : Nat → Int → Int → Int
  | 0, _, a => a
  | n + 1, i, a => sumI f n (i + 1) (wI (a + f i))
theorem sumI_B (f : Int → Int) : ∀ (n : Nat) (i a : Int), xB a → xB (sumI f n i a)
  | 0, _, _, h => h
  | n + 1, i, a, _ => sumI_B f n (i + 1) _ (wI_B _)
end RMT
end
section
theorem iX1_init_0 : xl_D mX1_init 0 (.aload_n 0) 1 1 := ⟨by decide +kernel, rfl⟩
theorem iX1_init_1 : xl_D mX1_init 1 (.invokespecial 3) 3 4 := ⟨by decide +kernel, rfl⟩
theorem iX1_init_4 : xl_D mX1_init 4 (.aload_n 0) 1 5 := ⟨by decide +kernel, rfl⟩
theorem iX1_init_5 : xl_D mX1_init 5 (.new 9) 3 8 := ⟨by decide +kernel, rfl⟩
theorem iX1_init_8 : xl_D mX1_init 8 (.dup) 1 9 := ⟨by decide +kernel, rfl⟩
theorem iX1_init_9 : xl_D mX1_init 9 (.iconst 4) 1 10 := ⟨by decide +kernel, rfl⟩
theorem iX1_init_10 : xl_D mX1_init 10 (.iconst 5) 1 11 := ⟨by decide +kernel, rfl⟩
theorem iX1_init_11 : xl_D mX1_init 11 (.invokespecial 11) 3 14 := ⟨by decide +kernel, rfl⟩
theorem iX1_init_17 : xl_D mX1_init 17 (.aload_n 0) 1 18 := ⟨by decide +kernel, rfl⟩
theorem iX1_init_18 : xl_D mX1_init 18 (.new 9) 3 21 := ⟨by decide +kernel, rfl⟩
theorem iX1_init_21 : xl_D mX1_init 21 (.dup) 1 22 := ⟨by decide +kernel, rfl⟩
theorem iX1_init_22 : xl_D mX1_init 22 (.sipush 161) 3 25 := ⟨by decide +kernel, rfl⟩
theorem iX1_init_25 : xl_D mX1_init 25 (.bipush 7) 2 27 := ⟨by decide +kernel, rfl⟩
theorem iX1_init_27 : xl_D mX1_init 27 (.invokespecial 11) 3 30 := ⟨by decide +kernel, rfl⟩
theorem iX1_init_33 : xl_D mX1_init 33 (.aload_n 0) 1 34 := ⟨by decide +kernel, rfl⟩
theorem iX1_init_34 : xl_D mX1_init 34 (.new 9) 3 37 := ⟨by decide +kernel, rfl⟩
theorem iX1_init_37 : xl_D mX1_init 37 (.dup) 1 38 := ⟨by decide +kernel, rfl⟩
theorem iX1_init_38 : xl_D mX1_init 38 (.bipush 60) 2 40 := ⟨by decide +kernel, rfl⟩
theorem iX1_init_40 : xl_D mX1_init 40 (.bipush 6) 2 42 := ⟨by decide +kernel, rfl⟩
theorem iX1_init_42 : xl_D mX1_init 42 (.invokespecial 11) 3 45 := ⟨by decide +kernel, rfl⟩
theorem iX1_init_48 : xl_D mX1_init 48 (.aload_n 0) 1 49 := ⟨by decide +kernel, rfl⟩
theorem iX1_init_49 : xl_D mX1_init 49 (.new 9) 3 52 := ⟨by decide +kernel, rfl⟩
theorem iX1_init_52 : xl_D mX1_init 52 (.dup) 1 53 := ⟨by decide +kernel, rfl⟩
theorem iX1_init_53 : xl_D mX1_init 53 (.bipush 40) 2 55 := ⟨by decide +kernel, rfl⟩
theorem iX1_init_55 : xl_D mX1_init 55 (.bipush 7) 2 57 := ⟨by decide +kernel, rfl⟩
theorem iX1_init_57 : xl_D mX1_init 57 (.invokespecial 11) 3 60 := ⟨by decide +kernel, rfl⟩
theorem iX1_init_63 : xl_D mX1_init 63 (.aload_n 0) 1 64 := ⟨by decide +kernel, rfl⟩
theorem iX1_init_64 : xl_D mX1_init 64 (.new 9) 3 67 := ⟨by decide +kernel, rfl⟩
theorem iX1_init_67 : xl_D mX1_init 67 (.dup) 1 68 := ⟨by decide +kernel, rfl⟩
theorem iX1_init_68 : xl_D mX1_init 68 (.sipush 160) 3 71 := ⟨by decide +kernel, rfl⟩
theorem iX1_init_71 : xl_D mX1_init 71 (.bipush 7) 2 73 := ⟨by decide +kernel, rfl⟩
theorem iX1_init_73 : xl_D mX1_init 73 (.invokespecial 11) 3 76 := ⟨by decide +kernel, rfl⟩
theorem iX1_init_79 : xl_D mX1_init 79 (.aload_n 0) 1 80 := ⟨by decide +kernel, rfl⟩
theorem iX1_init_80 : xl_D mX1_init 80 (.new 9) 3 83 := ⟨by decide +kernel, rfl⟩
theorem iX1_init_83 : xl_D mX1_init 83 (.dup) 1 84 := ⟨by decide +kernel, rfl⟩
theorem iX1_init_84 : xl_D mX1_init 84 (.bipush 6) 2 86 := ⟨by decide +kernel, rfl⟩
theorem iX1_init_86 : xl_D mX1_init 86 (.bipush 8) 2 88 := ⟨by decide +kernel, rfl⟩
theorem iX1_init_88 : xl_D mX1_init 88 (.invokespecial 11) 3 91 := ⟨by decide +kernel, rfl⟩
theorem iX1_init_94 : xl_D mX1_init 94 (.aload_n 0) 1 95 := ⟨by decide +kernel, rfl⟩
theorem iX1_init_95 : xl_D mX1_init 95 (.iconst 1) 1 96 := ⟨by decide +kernel, rfl⟩
theorem iX1_init_96 : xl_D mX1_init 96 (.bipush 10) 2 98 := ⟨by decide +kernel, rfl⟩
theorem iX1_init_98 : xl_D mX1_init 98 (.iconst 5) 1 99 := ⟨by decide +kernel, rfl⟩
theorem iX1_init_99 : xl_D mX1_init 99 (.iconst 0) 1 100 := ⟨by decide +kernel, rfl⟩
theorem iX1_init_100 : xl_Ca mX1_init 100 mX1_reset 103 := ⟨35, by decide +kernel, rfl, lX1_35, Nat.le_of_ble_eq_true rfl, Nat.le_of_ble_eq_true rfl⟩
theorem iX1_init_103 : xl_D mX1_init 103 (.return_) 1 104 := ⟨by decide +kernel, rfl⟩
theorem iX1_reset_0 : xl_D mX1_reset 0 (.aload_n 0) 1 1 := ⟨by decide +kernel, rfl⟩
theorem iX1_reset_1 : xl_D mX1_reset 1 (.iload_n 2) 1 2 := ⟨by decide +kernel, rfl⟩
theorem iX1_reset_2 : xl_P mX1_reset 2 1 0 .int 5 := ⟨39, by decide +kernel, rfl, wX1_39⟩
theorem iX1_reset_5 : xl_D mX1_reset 5 (.aload_n 0) 1 6 := ⟨by decide +kernel, rfl⟩
theorem iX1_reset_6 : xl_D mX1_reset 6 (.iload_n 3) 1 7 := ⟨by decide +kernel, rfl⟩
theorem iX1_reset_7 : xl_P mX1_reset 7 1 1 .int 10 := ⟨43, by decide +kernel, rfl, wX1_43⟩
theorem iX1_reset_10 : xl_D mX1_reset 10 (.aload_n 0) 1 11 := ⟨by decide +kernel, rfl⟩
theorem iX1_reset_11 : xl_D mX1_reset 11 (.iload 4) 2 13 := ⟨by decide +kernel, rfl⟩
theorem iX1_reset_13 : xl_P mX1_reset 13 1 2 .int 16 := ⟨46, by decide +kernel, rfl, wX1_46⟩
theorem iX1_reset_16 : xl_D mX1_reset 16 (.aload_n 0) 1 17 := ⟨by decide +kernel, rfl⟩
theorem iX1_reset_17 : xl_D mX1_reset 17 (.iconst 0) 1 18 := ⟨by decide +kernel, rfl⟩
theorem iX1_reset_18 : xl_P mX1_reset 18 1 3 .int 21 := ⟨49, by decide +kernel, rfl, wX1_49⟩
theorem iX1_reset_21 : xl_D mX1_reset 21 (.aload_n 0) 1 22 := ⟨by decide +kernel, rfl⟩
theorem iX1_reset_22 : xl_D mX1_reset 22 (.iconst 0) 1 23 := ⟨by decide +kernel, rfl⟩
theorem iX1_reset_23 : xl_P mX1_reset 23 1 4 .int 26 := ⟨52, by decide +kernel, rfl, wX1_52⟩
theorem iX1_reset_26 : xl_D mX1_reset 26 (.aload_n 0) 1 27 := ⟨by decide +kernel, rfl⟩
theorem iX1_reset_27 : xl_D mX1_reset 27 (.iconst 0) 1 28 := ⟨by decide +kernel, rfl⟩
theorem iX1_reset_28 : xl_P mX1_reset 28 1 5 .int 31 := ⟨55, by decide +kernel, rfl, wX1_55⟩
theorem iX1_reset_31 : xl_D mX1_reset 31 (.aload_n 0) 1 32 := ⟨by decide +kernel, rfl⟩
theorem iX1_reset_32 : xl_D mX1_reset 32 (.iconst 0) 1 33 := ⟨by decide +kernel, rfl⟩
theorem iX1_reset_33 : xl_P mX1_reset 33 1 6 .int 36 := ⟨58, by decide +kernel, rfl, wX1_58⟩
theorem iX1_reset_36 : xl_D mX1_reset 36 (.aload_n 0) 1 37 := ⟨by decide +kernel, rfl⟩
theorem iX1_reset_37 : xl_D mX1_reset 37 (.iconst 0) 1 38 := ⟨by decide +kernel, rfl⟩
theorem iX1_reset_38 : xl_P mX1_reset 38 1 7 .int 41 := ⟨61, by decide +kernel, rfl, wX1_61⟩
theorem iX1_reset_41 : xl_D mX1_reset 41 (.aload_n 0) 1 42 := ⟨by decide +kernel, rfl⟩
theorem iX1_reset_42 : xl_D mX1_reset 42 (.iconst 0) 1 43 := ⟨by decide +kernel, rfl⟩
theorem iX1_reset_43 : xl_P mX1_reset 43 1 8 .int 46 := ⟨64, by decide +kernel, rfl, wX1_64⟩
theorem iX1_reset_46 : xl_D mX1_reset 46 (.aload_n 0) 1 47 := ⟨by decide +kernel, rfl⟩
theorem iX1_reset_47 : xl_D mX1_reset 47 (.iconst 0) 1 48 := ⟨by decide +kernel, rfl⟩
theorem iX1_reset_48 : xl_P mX1_reset 48 1 9 .int 51 := ⟨67, by decide +kernel, rfl, wX1_67⟩
theorem iX1_reset_51 : xl_D mX1_reset 51 (.aload_n 0) 1 52 := ⟨by decide +kernel, rfl⟩
theorem iX1_reset_52 : xl_G mX1_reset 52 1 10 55 := ⟨14, by decide +kernel, rfl, fX1_14⟩
theorem iX1_reset_55 : xl_Ca mX1_reset 55 mX0_clear 58 := ⟨70, by decide +kernel, rfl, lX1_70, Nat.le_of_ble_eq_true rfl, Nat.le_of_ble_eq_true rfl⟩
theorem iX1_reset_58 : xl_D mX1_reset 58 (.iconst 0) 1 59 := ⟨by decide +kernel, rfl⟩
theorem iX1_reset_59 : xl_D mX1_reset 59 (.istore 5) 2 61 := ⟨by decide +kernel, rfl⟩
theorem iX1_reset_61 : xl_D mX1_reset 61 (.iload 5) 2 63 := ⟨by decide +kernel, rfl⟩
theorem iX1_reset_63 : xl_D mX1_reset 63 (.iload_n 1) 1 64 := ⟨by decide +kernel, rfl⟩
theorem iX1_reset_64 : xl_J mX1_reset 64 (fun o => .if_icmp .ge o) 67 95 := ⟨31, by decide +kernel, rfl, rfl⟩
theorem iX1_reset_67 : xl_D mX1_reset 67 (.aload_n 0) 1 68 := ⟨by decide +kernel, rfl⟩
theorem iX1_reset_68 : xl_G mX1_reset 68 1 10 71 := ⟨14, by decide +kernel, rfl, fX1_14⟩
theorem iX1_reset_71 : xl_D mX1_reset 71 (.iload 5) 2 73 := ⟨by decide +kernel, rfl⟩
theorem iX1_reset_73 : xl_Ca mX1_reset 73 mX0_open 76 := ⟨73, by decide +kernel, rfl, lX1_73, Nat.le_of_ble_eq_true rfl, Nat.le_of_ble_eq_true rfl⟩
theorem iX1_reset_76 : xl_D mX1_reset 76 (.pop) 1 77 := ⟨by decide +kernel, rfl⟩
theorem iX1_reset_77 : xl_D mX1_reset 77 (.aload_n 0) 1 78 := ⟨by decide +kernel, rfl⟩
theorem iX1_reset_78 : xl_G mX1_reset 78 1 10 81 := ⟨14, by decide +kernel, rfl, fX1_14⟩
theorem iX1_reset_81 : xl_D mX1_reset 81 (.iload 5) 2 83 := ⟨by decide +kernel, rfl⟩
theorem iX1_reset_83 : xl_D mX1_reset 83 (.iconst 1) 1 84 := ⟨by decide +kernel, rfl⟩
theorem iX1_reset_84 : xl_D mX1_reset 84 (.bipush 20) 2 86 := ⟨by decide +kernel, rfl⟩
theorem iX1_reset_86 : xl_Ca mX1_reset 86 mX0_set 89 := ⟨77, by decide +kernel, rfl, lX1_77, Nat.le_of_ble_eq_true rfl, Nat.le_of_ble_eq_true rfl⟩
theorem iX1_reset_89 : xl_D mX1_reset 89 (.iinc 5 1) 3 92 := ⟨by decide +kernel, rfl⟩
theorem iX1_reset_92 : xl_J mX1_reset 92 (fun o => .goto o) 95 61 := ⟨-31, by decide +kernel, rfl, rfl⟩
theorem iX1_reset_95 : xl_D mX1_reset 95 (.aload_n 0) 1 96 := ⟨by decide +kernel, rfl⟩
theorem iX1_reset_96 : xl_G mX1_reset 96 1 11 99 := ⟨20, by decide +kernel, rfl, fX1_20⟩
theorem iX1_reset_99 : xl_Ca mX1_reset 99 mX0_clear 102 := ⟨70, by decide +kernel, rfl, lX1_70, Nat.le_of_ble_eq_true rfl, Nat.le_of_ble_eq_true rfl⟩
theorem iX1_reset_102 : xl_D mX1_reset 102 (.aload_n 0) 1 103 := ⟨by decide +kernel, rfl⟩
theorem iX1_reset_103 : xl_G mX1_reset 103 1 12 106 := ⟨23, by decide +kernel, rfl, fX1_23⟩
theorem iX1_reset_106 : xl_Ca mX1_reset 106 mX0_clear 109 := ⟨70, by decide +kernel, rfl, lX1_70, Nat.le_of_ble_eq_true rfl, Nat.le_of_ble_eq_true rfl⟩
theorem iX1_reset_109 : xl_D mX1_reset 109 (.aload_n 0) 1 110 := ⟨by decide +kernel, rfl⟩
theorem iX1_reset_110 : xl_G mX1_reset 110 1 13 113 := ⟨26, by decide +kernel, rfl, fX1_26⟩
theorem iX1_reset_113 : xl_Ca mX1_reset 113 mX0_clear 116 := ⟨70, by decide +kernel, rfl, lX1_70, Nat.le_of_ble_eq_true rfl, Nat.le_of_ble_eq_true rfl⟩
theorem iX1_reset_116 : xl_D mX1_reset 116 (.aload_n 0) 1 117 := ⟨by decide +kernel, rfl⟩
theorem iX1_reset_117 : xl_G mX1_reset 117 1 14 120 := ⟨29, by decide +kernel, rfl, fX1_29⟩
theorem iX1_reset_120 : xl_Ca mX1_reset 120 mX0_clear 123 := ⟨70, by decide +kernel, rfl, lX1_70, Nat.le_of_ble_eq_true rfl, Nat.le_of_ble_eq_true rfl⟩
theorem iX1_reset_123 : xl_D mX1_reset 123 (.aload_n 0) 1 124 := ⟨by decide +kernel, rfl⟩
theorem iX1_reset_124 : xl_G mX1_reset 124 1 15 127 := ⟨32, by decide +kernel, rfl, fX1_32⟩
theorem iX1_reset_127 : xl_Ca mX1_reset 127 mX0_clear 130 := ⟨70, by decide +kernel, rfl, lX1_70, Nat.le_of_ble_eq_true rfl, Nat.le_of_ble_eq_true rfl⟩
theorem iX1_reset_130 : xl_D mX1_reset 130 (.iconst 0) 1 131 := ⟨by decide +kernel, rfl⟩
theorem iX1_reset_131 : xl_D mX1_reset 131 (.istore 5) 2 133 := ⟨by decide +kernel, rfl⟩
theorem iX1_reset_133 : xl_D mX1_reset 133 (.iload 5) 2 135 := ⟨by decide +kernel, rfl⟩
theorem iX1_reset_135 : xl_D mX1_reset 135 (.bipush 6) 2 137 := ⟨by decide +kernel, rfl⟩
theorem iX1_reset_137 : xl_J mX1_reset 137 (fun o => .if_icmp .ge o) 140 168 := ⟨31, by decide +kernel, rfl, rfl⟩
theorem iX1_reset_140 : xl_D mX1_reset 140 (.aload_n 0) 1 141 := ⟨by decide +kernel, rfl⟩
theorem iX1_reset_141 : xl_G mX1_reset 141 1 15 144 := ⟨32, by decide +kernel, rfl, fX1_32⟩
theorem iX1_reset_144 : xl_D mX1_reset 144 (.iload 5) 2 146 := ⟨by decide +kernel, rfl⟩
theorem iX1_reset_146 : xl_Ca mX1_reset 146 mX0_open 149 := ⟨73, by decide +kernel, rfl, lX1_73, Nat.le_of_ble_eq_true rfl, Nat.le_of_ble_eq_true rfl⟩
theorem iX1_reset_149 : xl_D mX1_reset 149 (.pop) 1 150 := ⟨by decide +kernel, rfl⟩
theorem iX1_reset_150 : xl_D mX1_reset 150 (.aload_n 0) 1 151 := ⟨by decide +kernel, rfl⟩
theorem iX1_reset_151 : xl_G mX1_reset 151 1 15 154 := ⟨32, by decide +kernel, rfl, fX1_32⟩
theorem iX1_reset_154 : xl_D mX1_reset 154 (.iload 5) 2 156 := ⟨by decide +kernel, rfl⟩
theorem iX1_reset_156 : xl_D mX1_reset 156 (.bipush 7) 2 158 := ⟨by decide +kernel, rfl⟩
theorem iX1_reset_158 : xl_D mX1_reset 158 (.iconst (-1)) 1 159 := ⟨by decide +kernel, rfl⟩
theorem iX1_reset_159 : xl_Ca mX1_reset 159 mX0_set 162 := ⟨77, by decide +kernel, rfl, lX1_77, Nat.le_of_ble_eq_true rfl, Nat.le_of_ble_eq_true rfl⟩
theorem iX1_reset_162 : xl_D mX1_reset 162 (.iinc 5 1) 3 165 := ⟨by decide +kernel, rfl⟩
theorem iX1_reset_165 : xl_J mX1_reset 165 (fun o => .goto o) 168 133 := ⟨-32, by decide +kernel, rfl, rfl⟩
theorem iX1_reset_168 : xl_D mX1_reset 168 (.return_) 1 169 := ⟨by decide +kernel, rfl⟩
theorem iX1_copyFrom_0 : xl_D mX1_copyFrom 0 (.aload_n 1) 1 1 := ⟨by decide +kernel, rfl⟩
theorem iX1_copyFrom_1 : xl_J mX1_copyFrom 1 (fun o => .ifnonnull o) 4 5 := ⟨4, by decide +kernel, rfl, rfl⟩
theorem iX1_copyFrom_4 : xl_D mX1_copyFrom 4 (.return_) 1 5 := ⟨by decide +kernel, rfl⟩
theorem iX1_copyFrom_5 : xl_D mX1_copyFrom 5 (.aload_n 0) 1 6 := ⟨by decide +kernel, rfl⟩
theorem iX1_copyFrom_6 : xl_D mX1_copyFrom 6 (.aload_n 1) 1 7 := ⟨by decide +kernel, rfl⟩
theorem iX1_copyFrom_7 : xl_G mX1_copyFrom 7 1 0 10 := ⟨39, by decide +kernel, rfl, fX1_39⟩
theorem iX1_copyFrom_10 : xl_P mX1_copyFrom 10 1 0 .int 13 := ⟨39, by decide +kernel, rfl, wX1_39⟩
theorem iX1_copyFrom_13 : xl_D mX1_copyFrom 13 (.aload_n 0) 1 14 := ⟨by decide +kernel, rfl⟩
theorem iX1_copyFrom_14 : xl_D mX1_copyFrom 14 (.aload_n 1) 1 15 := ⟨by decide +kernel, rfl⟩
theorem iX1_copyFrom_15 : xl_G mX1_copyFrom 15 1 1 18 := ⟨43, by decide +kernel, rfl, fX1_43⟩
theorem iX1_copyFrom_18 : xl_P mX1_copyFrom 18 1 1 .int 21 := ⟨43, by decide +kernel, rfl, wX1_43⟩
theorem iX1_copyFrom_21 : xl_D mX1_copyFrom 21 (.aload_n 0) 1 22 := ⟨by decide +kernel, rfl⟩
theorem iX1_copyFrom_22 : xl_D mX1_copyFrom 22 (.aload_n 1) 1 23 := ⟨by decide +kernel, rfl⟩
theorem iX1_copyFrom_23 : xl_G mX1_copyFrom 23 1 2 26 := ⟨46, by decide +kernel, rfl, fX1_46⟩
theorem iX1_copyFrom_26 : xl_P mX1_copyFrom 26 1 2 .int 29 := ⟨46, by decide +kernel, rfl, wX1_46⟩
theorem iX1_copyFrom_29 : xl_D mX1_copyFrom 29 (.aload_n 0) 1 30 := ⟨by decide +kernel, rfl⟩
theorem iX1_copyFrom_30 : xl_D mX1_copyFrom 30 (.aload_n 1) 1 31 := ⟨by decide +kernel, rfl⟩
theorem iX1_copyFrom_31 : xl_G mX1_copyFrom 31 1 3 34 := ⟨49, by decide +kernel, rfl, fX1_49⟩
theorem iX1_copyFrom_34 : xl_P mX1_copyFrom 34 1 3 .int 37 := ⟨49, by decide +kernel, rfl, wX1_49⟩
theorem iX1_copyFrom_37 : xl_D mX1_copyFrom 37 (.aload_n 0) 1 38 := ⟨by decide +kernel, rfl⟩
theorem iX1_copyFrom_38 : xl_D mX1_copyFrom 38 (.aload_n 1) 1 39 := ⟨by decide +kernel, rfl⟩
theorem iX1_copyFrom_39 : xl_G mX1_copyFrom 39 1 4 42 := ⟨52, by decide +kernel, rfl, fX1_52⟩
theorem iX1_copyFrom_42 : xl_P mX1_copyFrom 42 1 4 .int 45 := ⟨52, by decide +kernel, rfl, wX1_52⟩
theorem iX1_copyFrom_45 : xl_D mX1_copyFrom 45 (.aload_n 0) 1 46 := ⟨by decide +kernel, rfl⟩
theorem iX1_copyFrom_46 : xl_D mX1_copyFrom 46 (.aload_n 1) 1 47 := ⟨by decide +kernel, rfl⟩
theorem iX1_copyFrom_47 : xl_G mX1_copyFrom 47 1 5 50 := ⟨55, by decide +kernel, rfl, fX1_55⟩
theorem iX1_copyFrom_50 : xl_P mX1_copyFrom 50 1 5 .int 53 := ⟨55, by decide +kernel, rfl, wX1_55⟩
theorem iX1_copyFrom_53 : xl_D mX1_copyFrom 53 (.aload_n 0) 1 54 := ⟨by decide +kernel, rfl⟩
theorem iX1_copyFrom_54 : xl_D mX1_copyFrom 54 (.aload_n 1) 1 55 := ⟨by decide +kernel, rfl⟩
theorem iX1_copyFrom_55 : xl_G mX1_copyFrom 55 1 6 58 := ⟨58, by decide +kernel, rfl, fX1_58⟩
theorem iX1_copyFrom_58 : xl_P mX1_copyFrom 58 1 6 .int 61 := ⟨58, by decide +kernel, rfl, wX1_58⟩
theorem iX1_copyFrom_61 : xl_D mX1_copyFrom 61 (.aload_n 0) 1 62 := ⟨by decide +kernel, rfl⟩
theorem iX1_copyFrom_62 : xl_D mX1_copyFrom 62 (.aload_n 1) 1 63 := ⟨by decide +kernel, rfl⟩
theorem iX1_copyFrom_63 : xl_G mX1_copyFrom 63 1 7 66 := ⟨61, by decide +kernel, rfl, fX1_61⟩
theorem iX1_copyFrom_66 : xl_P mX1_copyFrom 66 1 7 .int 69 := ⟨61, by decide +kernel, rfl, wX1_61⟩
theorem iX1_copyFrom_69 : xl_D mX1_copyFrom 69 (.aload_n 0) 1 70 := ⟨by decide +kernel, rfl⟩
theorem iX1_copyFrom_70 : xl_D mX1_copyFrom 70 (.aload_n 1) 1 71 := ⟨by decide +kernel, rfl⟩
theorem iX1_copyFrom_71 : xl_G mX1_copyFrom 71 1 8 74 := ⟨64, by decide +kernel, rfl, fX1_64⟩
theorem iX1_copyFrom_74 : xl_P mX1_copyFrom 74 1 8 .int 77 := ⟨64, by decide +kernel, rfl, wX1_64⟩
theorem iX1_copyFrom_77 : xl_D mX1_copyFrom 77 (.aload_n 0) 1 78 := ⟨by decide +kernel, rfl⟩
theorem iX1_copyFrom_78 : xl_D mX1_copyFrom 78 (.aload_n 1) 1 79 := ⟨by decide +kernel, rfl⟩
theorem iX1_copyFrom_79 : xl_G mX1_copyFrom 79 1 9 82 := ⟨67, by decide +kernel, rfl, fX1_67⟩
theorem iX1_copyFrom_82 : xl_P mX1_copyFrom 82 1 9 .int 85 := ⟨67, by decide +kernel, rfl, wX1_67⟩
theorem iX1_copyFrom_85 : xl_D mX1_copyFrom 85 (.aload_n 0) 1 86 := ⟨by decide +kernel, rfl⟩
theorem iX1_copyFrom_86 : xl_G mX1_copyFrom 86 1 10 89 := ⟨14, by decide +kernel, rfl, fX1_14⟩
theorem iX1_copyFrom_89 : xl_D mX1_copyFrom 89 (.aload_n 1) 1 90 := ⟨by decide +kernel, rfl⟩
theorem iX1_copyFrom_90 : xl_G mX1_copyFrom 90 1 10 93 := ⟨14, by decide +kernel, rfl, fX1_14⟩
theorem iX1_copyFrom_93 : xl_Ca mX1_copyFrom 93 mX0_copyFrom 96 := ⟨81, by decide +kernel, rfl, lX1_81, Nat.le_of_ble_eq_true rfl, Nat.le_of_ble_eq_true rfl⟩
theorem iX1_copyFrom_96 : xl_D mX1_copyFrom 96 (.aload_n 0) 1 97 := ⟨by decide +kernel, rfl⟩
theorem iX1_copyFrom_97 : xl_G mX1_copyFrom 97 1 11 100 := ⟨20, by decide +kernel, rfl, fX1_20⟩
theorem iX1_copyFrom_100 : xl_D mX1_copyFrom 100 (.aload_n 1) 1 101 := ⟨by decide +kernel, rfl⟩
theorem iX1_copyFrom_101 : xl_G mX1_copyFrom 101 1 11 104 := ⟨20, by decide +kernel, rfl, fX1_20⟩
theorem iX1_copyFrom_104 : xl_Ca mX1_copyFrom 104 mX0_copyFrom 107 := ⟨81, by decide +kernel, rfl, lX1_81, Nat.le_of_ble_eq_true rfl, Nat.le_of_ble_eq_true rfl⟩
theorem iX1_copyFrom_107 : xl_D mX1_copyFrom 107 (.aload_n 0) 1 108 := ⟨by decide +kernel, rfl⟩
theorem iX1_copyFrom_108 : xl_G mX1_copyFrom 108 1 12 111 := ⟨23, by decide +kernel, rfl, fX1_23⟩
theorem iX1_copyFrom_111 : xl_D mX1_copyFrom 111 (.aload_n 1) 1 112 := ⟨by decide +kernel, rfl⟩
theorem iX1_copyFrom_112 : xl_G mX1_copyFrom 112 1 12 115 := ⟨23, by decide +kernel, rfl, fX1_23⟩
theorem iX1_copyFrom_115 : xl_Ca mX1_copyFrom 115 mX0_copyFrom 118 := ⟨81, by decide +kernel, rfl, lX1_81, Nat.le_of_ble_eq_true rfl, Nat.le_of_ble_eq_true rfl⟩
theorem iX1_copyFrom_118 : xl_D mX1_copyFrom 118 (.aload_n 0) 1 119 := ⟨by decide +kernel, rfl⟩
theorem iX1_copyFrom_119 : xl_G mX1_copyFrom 119 1 13 122 := ⟨26, by decide +kernel, rfl, fX1_26⟩
theorem iX1_copyFrom_122 : xl_D mX1_copyFrom 122 (.aload_n 1) 1 123 := ⟨by decide +kernel, rfl⟩
theorem iX1_copyFrom_123 : xl_G mX1_copyFrom 123 1 13 126 := ⟨26, by decide +kernel, rfl, fX1_26⟩
theorem iX1_copyFrom_126 : xl_Ca mX1_copyFrom 126 mX0_copyFrom 129 := ⟨81, by decide +kernel, rfl, lX1_81, Nat.le_of_ble_eq_true rfl, Nat.le_of_ble_eq_true rfl⟩
theorem iX1_copyFrom_129 : xl_D mX1_copyFrom 129 (.aload_n 0) 1 130 := ⟨by decide +kernel, rfl⟩
theorem iX1_copyFrom_130 : xl_G mX1_copyFrom 130 1 14 133 := ⟨29, by decide +kernel, rfl, fX1_29⟩
theorem iX1_copyFrom_133 : xl_D mX1_copyFrom 133 (.aload_n 1) 1 134 := ⟨by decide +kernel, rfl⟩
theorem iX1_copyFrom_134 : xl_G mX1_copyFrom 134 1 14 137 := ⟨29, by decide +kernel, rfl, fX1_29⟩
theorem iX1_copyFrom_137 : xl_Ca mX1_copyFrom 137 mX0_copyFrom 140 := ⟨81, by decide +kernel, rfl, lX1_81, Nat.le_of_ble_eq_true rfl, Nat.le_of_ble_eq_true rfl⟩
theorem iX1_copyFrom_140 : xl_D mX1_copyFrom 140 (.aload_n 0) 1 141 := ⟨by decide +kernel, rfl⟩
theorem iX1_copyFrom_141 : xl_G mX1_copyFrom 141 1 15 144 := ⟨32, by decide +kernel, rfl, fX1_32⟩
theorem iX1_copyFrom_144 : xl_D mX1_copyFrom 144 (.aload_n 1) 1 145 := ⟨by decide +kernel, rfl⟩
theorem iX1_copyFrom_145 : xl_G mX1_copyFrom 145 1 15 148 := ⟨32, by decide +kernel, rfl, fX1_32⟩
theorem iX1_copyFrom_148 : xl_Ca mX1_copyFrom 148 mX0_copyFrom 151 := ⟨81, by decide +kernel, rfl, lX1_81, Nat.le_of_ble_eq_true rfl, Nat.le_of_ble_eq_true rfl⟩
theorem iX1_copyFrom_151 : xl_D mX1_copyFrom 151 (.return_) 1 152 := ⟨by decide +kernel, rfl⟩
theorem iX1_comeEvent_0 : xl_D mX1_comeEvent 0 (.aload_n 0) 1 1 := ⟨by decide +kernel, rfl⟩
theorem iX1_comeEvent_1 : xl_G mX1_comeEvent 1 1 14 4 := ⟨29, by decide +kernel, rfl, fX1_29⟩
theorem iX1_comeEvent_4 : xl_G mX1_comeEvent 4 0 3 7 := ⟨85, by decide +kernel, rfl, fX1_85⟩
theorem iX1_comeEvent_7 : xl_D mX1_comeEvent 7 (.istore 5) 2 9 := ⟨by decide +kernel, rfl⟩
theorem iX1_comeEvent_9 : xl_D mX1_comeEvent 9 (.iconst 0) 1 10 := ⟨by decide +kernel, rfl⟩
theorem iX1_comeEvent_10 : xl_D mX1_comeEvent 10 (.aload_n 0) 1 11 := ⟨by decide +kernel, rfl⟩
theorem iX1_comeEvent_11 : xl_G mX1_comeEvent 11 1 3 14 := ⟨49, by decide +kernel, rfl, fX1_49⟩
theorem iX1_comeEvent_14 : xl_D mX1_comeEvent 14 (.iload_n 2) 1 15 := ⟨by decide +kernel, rfl⟩
theorem iX1_comeEvent_15 : xl_D mX1_comeEvent 15 (.isub) 1 16 := ⟨by decide +kernel, rfl⟩
theorem iX1_comeEvent_16 : xl_Cm mX1_comeEvent 16 Lib.Math.max.name Lib.Math.max.code 19 := ⟨88, by decide +kernel, rfl, lX1_88, xl_stmax, xl_iMath, xl_comax, Nat.le_of_ble_eq_true rfl, Nat.le_of_ble_eq_true rfl⟩
theorem iX1_comeEvent_19 : xl_D mX1_comeEvent 19 (.istore 6) 2 21 := ⟨by decide +kernel, rfl⟩
theorem iX1_comeEvent_21 : xl_D mX1_comeEvent 21 (.aload_n 0) 1 22 := ⟨by decide +kernel, rfl⟩
theorem iX1_comeEvent_22 : xl_D mX1_comeEvent 22 (.iconst 0) 1 23 := ⟨by decide +kernel, rfl⟩
theorem iX1_comeEvent_23 : xl_D mX1_comeEvent 23 (.iload 4) 2 25 := ⟨by decide +kernel, rfl⟩
theorem iX1_comeEvent_25 : xl_D mX1_comeEvent 25 (.iload_n 2) 1 26 := ⟨by decide +kernel, rfl⟩
theorem iX1_comeEvent_26 : xl_Ca mX1_comeEvent 26 mX1_note 29 := ⟨94, by decide +kernel, rfl, lX1_94, Nat.le_of_ble_eq_true rfl, Nat.le_of_ble_eq_true rfl⟩
theorem iX1_comeEvent_29 : xl_D mX1_comeEvent 29 (.aload_n 0) 1 30 := ⟨by decide +kernel, rfl⟩
theorem iX1_comeEvent_30 : xl_D mX1_comeEvent 30 (.iload_n 1) 1 31 := ⟨by decide +kernel, rfl⟩
theorem iX1_comeEvent_31 : xl_D mX1_comeEvent 31 (.iload_n 2) 1 32 := ⟨by decide +kernel, rfl⟩
theorem iX1_comeEvent_32 : xl_D mX1_comeEvent 32 (.iload_n 3) 1 33 := ⟨by decide +kernel, rfl⟩
theorem iX1_comeEvent_33 : xl_D mX1_comeEvent 33 (.iload 4) 2 35 := ⟨by decide +kernel, rfl⟩
theorem iX1_comeEvent_35 : xl_Ca mX1_comeEvent 35 mX1_playEvent 38 := ⟨97, by decide +kernel, rfl, lX1_97, Nat.le_of_ble_eq_true rfl, Nat.le_of_ble_eq_true rfl⟩
theorem iX1_comeEvent_38 : xl_D mX1_comeEvent 38 (.istore 7) 2 40 := ⟨by decide +kernel, rfl⟩
theorem iX1_comeEvent_40 : xl_D mX1_comeEvent 40 (.aload_n 0) 1 41 := ⟨by decide +kernel, rfl⟩
theorem iX1_comeEvent_41 : xl_G mX1_comeEvent 41 1 14 44 := ⟨29, by decide +kernel, rfl, fX1_29⟩
theorem iX1_comeEvent_44 : xl_D mX1_comeEvent 44 (.iload 5) 2 46 := ⟨by decide +kernel, rfl⟩
theorem iX1_comeEvent_46 : xl_D mX1_comeEvent 46 (.iconst 3) 1 47 := ⟨by decide +kernel, rfl⟩
theorem iX1_comeEvent_47 : xl_D mX1_comeEvent 47 (.iload_n 1) 1 48 := ⟨by decide +kernel, rfl⟩
theorem iX1_comeEvent_48 : xl_Ca mX1_comeEvent 48 mX0_set 51 := ⟨77, by decide +kernel, rfl, lX1_77, Nat.le_of_ble_eq_true rfl, Nat.le_of_ble_eq_true rfl⟩
theorem iX1_comeEvent_51 : xl_D mX1_comeEvent 51 (.aload_n 0) 1 52 := ⟨by decide +kernel, rfl⟩
theorem iX1_comeEvent_52 : xl_G mX1_comeEvent 52 1 14 55 := ⟨29, by decide +kernel, rfl, fX1_29⟩
theorem iX1_comeEvent_55 : xl_D mX1_comeEvent 55 (.iload 5) 2 57 := ⟨by decide +kernel, rfl⟩
theorem iX1_comeEvent_57 : xl_D mX1_comeEvent 57 (.iconst 4) 1 58 := ⟨by decide +kernel, rfl⟩
theorem iX1_comeEvent_58 : xl_D mX1_comeEvent 58 (.iload_n 3) 1 59 := ⟨by decide +kernel, rfl⟩
theorem iX1_comeEvent_59 : xl_Ca mX1_comeEvent 59 mX0_set 62 := ⟨77, by decide +kernel, rfl, lX1_77, Nat.le_of_ble_eq_true rfl, Nat.le_of_ble_eq_true rfl⟩
theorem iX1_comeEvent_62 : xl_D mX1_comeEvent 62 (.aload_n 0) 1 63 := ⟨by decide +kernel, rfl⟩
theorem iX1_comeEvent_63 : xl_G mX1_comeEvent 63 1 14 66 := ⟨29, by decide +kernel, rfl, fX1_29⟩
theorem iX1_comeEvent_66 : xl_D mX1_comeEvent 66 (.iload 5) 2 68 := ⟨by decide +kernel, rfl⟩
theorem iX1_comeEvent_68 : xl_D mX1_comeEvent 68 (.iconst 5) 1 69 := ⟨by decide +kernel, rfl⟩
theorem iX1_comeEvent_69 : xl_D mX1_comeEvent 69 (.iload 7) 2 71 := ⟨by decide +kernel, rfl⟩
theorem iX1_comeEvent_71 : xl_Ca mX1_comeEvent 71 mX0_set 74 := ⟨77, by decide +kernel, rfl, lX1_77, Nat.le_of_ble_eq_true rfl, Nat.le_of_ble_eq_true rfl⟩
theorem iX1_comeEvent_74 : xl_D mX1_comeEvent 74 (.aload_n 0) 1 75 := ⟨by decide +kernel, rfl⟩
theorem iX1_comeEvent_75 : xl_G mX1_comeEvent 75 1 14 78 := ⟨29, by decide +kernel, rfl, fX1_29⟩
theorem iX1_comeEvent_78 : xl_D mX1_comeEvent 78 (.iload 5) 2 80 := ⟨by decide +kernel, rfl⟩
theorem iX1_comeEvent_80 : xl_D mX1_comeEvent 80 (.bipush 6) 2 82 := ⟨by decide +kernel, rfl⟩
theorem iX1_comeEvent_82 : xl_D mX1_comeEvent 82 (.iload 6) 2 84 := ⟨by decide +kernel, rfl⟩
theorem iX1_comeEvent_84 : xl_Ca mX1_comeEvent 84 mX0_set 87 := ⟨77, by decide +kernel, rfl, lX1_77, Nat.le_of_ble_eq_true rfl, Nat.le_of_ble_eq_true rfl⟩
theorem iX1_comeEvent_87 : xl_D mX1_comeEvent 87 (.iload 7) 2 89 := ⟨by decide +kernel, rfl⟩
theorem iX1_comeEvent_89 : xl_D mX1_comeEvent 89 (.ireturn) 1 90 := ⟨by decide +kernel, rfl⟩
theorem iX1_comeMark_0 : xl_D mX1_comeMark 0 (.aload_n 0) 1 1 := ⟨by decide +kernel, rfl⟩
theorem iX1_comeMark_1 : xl_D mX1_comeMark 1 (.iconst 1) 1 2 := ⟨by decide +kernel, rfl⟩
theorem iX1_comeMark_2 : xl_D mX1_comeMark 2 (.iload_n 1) 1 3 := ⟨by decide +kernel, rfl⟩
theorem iX1_comeMark_3 : xl_D mX1_comeMark 3 (.iload_n 2) 1 4 := ⟨by decide +kernel, rfl⟩
theorem iX1_comeMark_4 : xl_Ca mX1_comeMark 4 mX1_note 7 := ⟨94, by decide +kernel, rfl, lX1_94, Nat.le_of_ble_eq_true rfl, Nat.le_of_ble_eq_true rfl⟩
theorem iX1_comeMark_7 : xl_D mX1_comeMark 7 (.aload_n 0) 1 8 := ⟨by decide +kernel, rfl⟩
theorem iX1_comeMark_8 : xl_D mX1_comeMark 8 (.iload_n 1) 1 9 := ⟨by decide +kernel, rfl⟩
theorem iX1_comeMark_9 : xl_D mX1_comeMark 9 (.iload_n 2) 1 10 := ⟨by decide +kernel, rfl⟩
theorem iX1_comeMark_10 : xl_Ca mX1_comeMark 10 mX1_playMark 13 := ⟨101, by decide +kernel, rfl, lX1_101, Nat.le_of_ble_eq_true rfl, Nat.le_of_ble_eq_true rfl⟩
theorem iX1_comeMark_13 : xl_D mX1_comeMark 13 (.return_) 1 14 := ⟨by decide +kernel, rfl⟩
theorem iX1_comeIdle_0 : xl_D mX1_comeIdle 0 (.aload_n 0) 1 1 := ⟨by decide +kernel, rfl⟩
theorem iX1_comeIdle_1 : xl_D mX1_comeIdle 1 (.iconst 2) 1 2 := ⟨by decide +kernel, rfl⟩
theorem iX1_comeIdle_2 : xl_D mX1_comeIdle 2 (.iload_n 1) 1 3 := ⟨by decide +kernel, rfl⟩
theorem iX1_comeIdle_3 : xl_D mX1_comeIdle 3 (.iconst 0) 1 4 := ⟨by decide +kernel, rfl⟩
theorem iX1_comeIdle_4 : xl_Ca mX1_comeIdle 4 mX1_note 7 := ⟨94, by decide +kernel, rfl, lX1_94, Nat.le_of_ble_eq_true rfl, Nat.le_of_ble_eq_true rfl⟩
theorem iX1_comeIdle_7 : xl_D mX1_comeIdle 7 (.aload_n 0) 1 8 := ⟨by decide +kernel, rfl⟩
theorem iX1_comeIdle_8 : xl_D mX1_comeIdle 8 (.iload_n 1) 1 9 := ⟨by decide +kernel, rfl⟩
theorem iX1_comeIdle_9 : xl_Ca mX1_comeIdle 9 mX1_playIdle 12 := ⟨104, by decide +kernel, rfl, lX1_104, Nat.le_of_ble_eq_true rfl, Nat.le_of_ble_eq_true rfl⟩
theorem iX1_comeIdle_12 : xl_D mX1_comeIdle 12 (.return_) 1 13 := ⟨by decide +kernel, rfl⟩
theorem iX1_note_0 : xl_D mX1_note 0 (.aload_n 0) 1 1 := ⟨by decide +kernel, rfl⟩
theorem iX1_note_1 : xl_G mX1_note 1 1 14 4 := ⟨29, by decide +kernel, rfl, fX1_29⟩
theorem iX1_note_4 : xl_G mX1_note 4 0 3 7 := ⟨85, by decide +kernel, rfl, fX1_85⟩
theorem iX1_note_7 : xl_D mX1_note 7 (.istore 4) 2 9 := ⟨by decide +kernel, rfl⟩
theorem iX1_note_9 : xl_D mX1_note 9 (.aload_n 0) 1 10 := ⟨by decide +kernel, rfl⟩
theorem iX1_note_10 : xl_G mX1_note 10 1 14 13 := ⟨29, by decide +kernel, rfl, fX1_29⟩
theorem iX1_note_13 : xl_D mX1_note 13 (.iload 4) 2 15 := ⟨by decide +kernel, rfl⟩
theorem iX1_note_15 : xl_Ca mX1_note 15 mX0_open 18 := ⟨73, by decide +kernel, rfl, lX1_73, Nat.le_of_ble_eq_true rfl, Nat.le_of_ble_eq_true rfl⟩
theorem iX1_note_18 : xl_J mX1_note 18 (fun o => .ifCond .eq o) 21 76 := ⟨58, by decide +kernel, rfl, rfl⟩
theorem iX1_note_21 : xl_D mX1_note 21 (.aload_n 0) 1 22 := ⟨by decide +kernel, rfl⟩
theorem iX1_note_22 : xl_G mX1_note 22 1 14 25 := ⟨29, by decide +kernel, rfl, fX1_29⟩
theorem iX1_note_25 : xl_D mX1_note 25 (.iload 4) 2 27 := ⟨by decide +kernel, rfl⟩
theorem iX1_note_27 : xl_D mX1_note 27 (.iconst 0) 1 28 := ⟨by decide +kernel, rfl⟩
theorem iX1_note_28 : xl_D mX1_note 28 (.iload_n 1) 1 29 := ⟨by decide +kernel, rfl⟩
theorem iX1_note_29 : xl_Ca mX1_note 29 mX0_set 32 := ⟨77, by decide +kernel, rfl, lX1_77, Nat.le_of_ble_eq_true rfl, Nat.le_of_ble_eq_true rfl⟩
theorem iX1_note_32 : xl_D mX1_note 32 (.aload_n 0) 1 33 := ⟨by decide +kernel, rfl⟩
theorem iX1_note_33 : xl_G mX1_note 33 1 14 36 := ⟨29, by decide +kernel, rfl, fX1_29⟩
theorem iX1_note_36 : xl_D mX1_note 36 (.iload 4) 2 38 := ⟨by decide +kernel, rfl⟩
theorem iX1_note_38 : xl_D mX1_note 38 (.iconst 1) 1 39 := ⟨by decide +kernel, rfl⟩
theorem iX1_note_39 : xl_D mX1_note 39 (.iload_n 2) 1 40 := ⟨by decide +kernel, rfl⟩
theorem iX1_note_40 : xl_Ca mX1_note 40 mX0_set 43 := ⟨77, by decide +kernel, rfl, lX1_77, Nat.le_of_ble_eq_true rfl, Nat.le_of_ble_eq_true rfl⟩
theorem iX1_note_43 : xl_D mX1_note 43 (.aload_n 0) 1 44 := ⟨by decide +kernel, rfl⟩
theorem iX1_note_44 : xl_G mX1_note 44 1 14 47 := ⟨29, by decide +kernel, rfl, fX1_29⟩
theorem iX1_note_47 : xl_D mX1_note 47 (.iload 4) 2 49 := ⟨by decide +kernel, rfl⟩
theorem iX1_note_49 : xl_D mX1_note 49 (.iconst 2) 1 50 := ⟨by decide +kernel, rfl⟩
theorem iX1_note_50 : xl_D mX1_note 50 (.iload_n 3) 1 51 := ⟨by decide +kernel, rfl⟩
theorem iX1_note_51 : xl_Ca mX1_note 51 mX0_set 54 := ⟨77, by decide +kernel, rfl, lX1_77, Nat.le_of_ble_eq_true rfl, Nat.le_of_ble_eq_true rfl⟩
theorem iX1_note_54 : xl_D mX1_note 54 (.aload_n 0) 1 55 := ⟨by decide +kernel, rfl⟩
theorem iX1_note_55 : xl_G mX1_note 55 1 14 58 := ⟨29, by decide +kernel, rfl, fX1_29⟩
theorem iX1_note_58 : xl_D mX1_note 58 (.iload 4) 2 60 := ⟨by decide +kernel, rfl⟩
theorem iX1_note_60 : xl_D mX1_note 60 (.iconst 3) 1 61 := ⟨by decide +kernel, rfl⟩
theorem iX1_note_61 : xl_D mX1_note 61 (.iconst (-1)) 1 62 := ⟨by decide +kernel, rfl⟩
theorem iX1_note_62 : xl_Ca mX1_note 62 mX0_set 65 := ⟨77, by decide +kernel, rfl, lX1_77, Nat.le_of_ble_eq_true rfl, Nat.le_of_ble_eq_true rfl⟩
theorem iX1_note_65 : xl_D mX1_note 65 (.aload_n 0) 1 66 := ⟨by decide +kernel, rfl⟩
theorem iX1_note_66 : xl_G mX1_note 66 1 14 69 := ⟨29, by decide +kernel, rfl, fX1_29⟩
theorem iX1_note_69 : xl_D mX1_note 69 (.iload 4) 2 71 := ⟨by decide +kernel, rfl⟩
theorem iX1_note_71 : xl_D mX1_note 71 (.iconst 5) 1 72 := ⟨by decide +kernel, rfl⟩
theorem iX1_note_72 : xl_D mX1_note 72 (.iconst (-1)) 1 73 := ⟨by decide +kernel, rfl⟩
theorem iX1_note_73 : xl_Ca mX1_note 73 mX0_set 76 := ⟨77, by decide +kernel, rfl, lX1_77, Nat.le_of_ble_eq_true rfl, Nat.le_of_ble_eq_true rfl⟩
theorem iX1_note_76 : xl_D mX1_note 76 (.return_) 1 77 := ⟨by decide +kernel, rfl⟩
theorem iX1_playInput_0 : xl_D mX1_playInput 0 (.aload_n 1) 1 1 := ⟨by decide +kernel, rfl⟩
theorem iX1_playInput_1 : xl_D mX1_playInput 1 (.iload_n 2) 1 2 := ⟨by decide +kernel, rfl⟩
theorem iX1_playInput_2 : xl_D mX1_playInput 2 (.iconst 1) 1 3 := ⟨by decide +kernel, rfl⟩
theorem iX1_playInput_3 : xl_Ca mX1_playInput 3 mX0_get 6 := ⟨108, by decide +kernel, rfl, lX1_108, Nat.le_of_ble_eq_true rfl, Nat.le_of_ble_eq_true rfl⟩
theorem iX1_playInput_6 : xl_D mX1_playInput 6 (.istore_n 3) 1 7 := ⟨by decide +kernel, rfl⟩
theorem iX1_playInput_7 : xl_D mX1_playInput 7 (.aload_n 1) 1 8 := ⟨by decide +kernel, rfl⟩
theorem iX1_playInput_8 : xl_D mX1_playInput 8 (.iload_n 2) 1 9 := ⟨by decide +kernel, rfl⟩
theorem iX1_playInput_9 : xl_D mX1_playInput 9 (.iconst 2) 1 10 := ⟨by decide +kernel, rfl⟩
theorem iX1_playInput_10 : xl_Ca mX1_playInput 10 mX0_get 13 := ⟨108, by decide +kernel, rfl, lX1_108, Nat.le_of_ble_eq_true rfl, Nat.le_of_ble_eq_true rfl⟩
theorem iX1_playInput_13 : xl_D mX1_playInput 13 (.istore 4) 2 15 := ⟨by decide +kernel, rfl⟩
theorem iX1_playInput_15 : xl_D mX1_playInput 15 (.aload_n 1) 1 16 := ⟨by decide +kernel, rfl⟩
theorem iX1_playInput_16 : xl_D mX1_playInput 16 (.iload_n 2) 1 17 := ⟨by decide +kernel, rfl⟩
theorem iX1_playInput_17 : xl_D mX1_playInput 17 (.iconst 0) 1 18 := ⟨by decide +kernel, rfl⟩
theorem iX1_playInput_18 : xl_Ca mX1_playInput 18 mX0_get 21 := ⟨108, by decide +kernel, rfl, lX1_108, Nat.le_of_ble_eq_true rfl, Nat.le_of_ble_eq_true rfl⟩
theorem iX1_playInput_21 : xl_D mX1_playInput 21 (.lookupswitch 60 #[(0, 27), (1, 50)]) 27 48 := ⟨by decide +kernel, rfl⟩
theorem iX1_playInput_48 : xl_D mX1_playInput 48 (.aload_n 0) 1 49 := ⟨by decide +kernel, rfl⟩
theorem iX1_playInput_49 : xl_D mX1_playInput 49 (.aload_n 1) 1 50 := ⟨by decide +kernel, rfl⟩
theorem iX1_playInput_50 : xl_D mX1_playInput 50 (.iload_n 2) 1 51 := ⟨by decide +kernel, rfl⟩
theorem iX1_playInput_51 : xl_D mX1_playInput 51 (.iconst 3) 1 52 := ⟨by decide +kernel, rfl⟩
theorem iX1_playInput_52 : xl_Ca mX1_playInput 52 mX0_get 55 := ⟨108, by decide +kernel, rfl, lX1_108, Nat.le_of_ble_eq_true rfl, Nat.le_of_ble_eq_true rfl⟩
theorem iX1_playInput_55 : xl_D mX1_playInput 55 (.iload 4) 2 57 := ⟨by decide +kernel, rfl⟩
theorem iX1_playInput_57 : xl_D mX1_playInput 57 (.aload_n 1) 1 58 := ⟨by decide +kernel, rfl⟩
theorem iX1_playInput_58 : xl_D mX1_playInput 58 (.iload_n 2) 1 59 := ⟨by decide +kernel, rfl⟩
theorem iX1_playInput_59 : xl_D mX1_playInput 59 (.iconst 4) 1 60 := ⟨by decide +kernel, rfl⟩
theorem iX1_playInput_60 : xl_Ca mX1_playInput 60 mX0_get 63 := ⟨108, by decide +kernel, rfl, lX1_108, Nat.le_of_ble_eq_true rfl, Nat.le_of_ble_eq_true rfl⟩
theorem iX1_playInput_63 : xl_D mX1_playInput 63 (.iload_n 3) 1 64 := ⟨by decide +kernel, rfl⟩
theorem iX1_playInput_64 : xl_Ca mX1_playInput 64 mX1_playEvent 67 := ⟨97, by decide +kernel, rfl, lX1_97, Nat.le_of_ble_eq_true rfl, Nat.le_of_ble_eq_true rfl⟩
theorem iX1_playInput_67 : xl_D mX1_playInput 67 (.pop) 1 68 := ⟨by decide +kernel, rfl⟩
theorem iX1_playInput_68 : xl_J mX1_playInput 68 (fun o => .goto o) 71 86 := ⟨18, by decide +kernel, rfl, rfl⟩
theorem iX1_playInput_71 : xl_D mX1_playInput 71 (.aload_n 0) 1 72 := ⟨by decide +kernel, rfl⟩
theorem iX1_playInput_72 : xl_D mX1_playInput 72 (.iload_n 3) 1 73 := ⟨by decide +kernel, rfl⟩
theorem iX1_playInput_73 : xl_D mX1_playInput 73 (.iload 4) 2 75 := ⟨by decide +kernel, rfl⟩
theorem iX1_playInput_75 : xl_Ca mX1_playInput 75 mX1_playMark 78 := ⟨101, by decide +kernel, rfl, lX1_101, Nat.le_of_ble_eq_true rfl, Nat.le_of_ble_eq_true rfl⟩
theorem iX1_playInput_78 : xl_J mX1_playInput 78 (fun o => .goto o) 81 86 := ⟨8, by decide +kernel, rfl, rfl⟩
theorem iX1_playInput_81 : xl_D mX1_playInput 81 (.aload_n 0) 1 82 := ⟨by decide +kernel, rfl⟩
theorem iX1_playInput_82 : xl_D mX1_playInput 82 (.iload_n 3) 1 83 := ⟨by decide +kernel, rfl⟩
theorem iX1_playInput_83 : xl_Ca mX1_playInput 83 mX1_playIdle 86 := ⟨104, by decide +kernel, rfl, lX1_104, Nat.le_of_ble_eq_true rfl, Nat.le_of_ble_eq_true rfl⟩
theorem iX1_playInput_86 : xl_D mX1_playInput 86 (.return_) 1 87 := ⟨by decide +kernel, rfl⟩
theorem iX1_playEvent_0 : xl_D mX1_playEvent 0 (.aload_n 0) 1 1 := ⟨by decide +kernel, rfl⟩
theorem iX1_playEvent_1 : xl_D mX1_playEvent 1 (.iload_n 2) 1 2 := ⟨by decide +kernel, rfl⟩
theorem iX1_playEvent_2 : xl_Ca mX1_playEvent 2 mX1_fateOf 5 := ⟨111, by decide +kernel, rfl, lX1_111, Nat.le_of_ble_eq_true rfl, Nat.le_of_ble_eq_true rfl⟩
theorem iX1_playEvent_5 : xl_D mX1_playEvent 5 (.istore 5) 2 7 := ⟨by decide +kernel, rfl⟩
theorem iX1_playEvent_7 : xl_D mX1_playEvent 7 (.aload_n 0) 1 8 := ⟨by decide +kernel, rfl⟩
theorem iX1_playEvent_8 : xl_G mX1_playEvent 8 1 10 11 := ⟨14, by decide +kernel, rfl, fX1_14⟩
theorem iX1_playEvent_11 : xl_D mX1_playEvent 11 (.iload 4) 2 13 := ⟨by decide +kernel, rfl⟩
theorem iX1_playEvent_13 : xl_D mX1_playEvent 13 (.iconst 3) 1 14 := ⟨by decide +kernel, rfl⟩
theorem iX1_playEvent_14 : xl_D mX1_playEvent 14 (.iconst 1) 1 15 := ⟨by decide +kernel, rfl⟩
theorem iX1_playEvent_15 : xl_Ca mX1_playEvent 15 mX0_add 18 := ⟨115, by decide +kernel, rfl, lX1_115, Nat.le_of_ble_eq_true rfl, Nat.le_of_ble_eq_true rfl⟩
theorem iX1_playEvent_18 : xl_D mX1_playEvent 18 (.iload 5) 2 20 := ⟨by decide +kernel, rfl⟩
theorem iX1_playEvent_20 : xl_D mX1_playEvent 20 (.iconst 2) 1 21 := ⟨by decide +kernel, rfl⟩
theorem iX1_playEvent_21 : xl_J mX1_playEvent 21 (fun o => .if_icmp .ne o) 24 48 := ⟨27, by decide +kernel, rfl, rfl⟩
theorem iX1_playEvent_24 : xl_D mX1_playEvent 24 (.aload_n 0) 1 25 := ⟨by decide +kernel, rfl⟩
theorem iX1_playEvent_25 : xl_D mX1_playEvent 25 (.dup) 1 26 := ⟨by decide +kernel, rfl⟩
theorem iX1_playEvent_26 : xl_G mX1_playEvent 26 1 8 29 := ⟨64, by decide +kernel, rfl, fX1_64⟩
theorem iX1_playEvent_29 : xl_D mX1_playEvent 29 (.iconst 1) 1 30 := ⟨by decide +kernel, rfl⟩
theorem iX1_playEvent_30 : xl_D mX1_playEvent 30 (.iadd) 1 31 := ⟨by decide +kernel, rfl⟩
theorem iX1_playEvent_31 : xl_P mX1_playEvent 31 1 8 .int 34 := ⟨64, by decide +kernel, rfl, wX1_64⟩
theorem iX1_playEvent_34 : xl_D mX1_playEvent 34 (.aload_n 0) 1 35 := ⟨by decide +kernel, rfl⟩
theorem iX1_playEvent_35 : xl_G mX1_playEvent 35 1 10 38 := ⟨14, by decide +kernel, rfl, fX1_14⟩
theorem iX1_playEvent_38 : xl_D mX1_playEvent 38 (.iload 4) 2 40 := ⟨by decide +kernel, rfl⟩
theorem iX1_playEvent_40 : xl_D mX1_playEvent 40 (.iconst 4) 1 41 := ⟨by decide +kernel, rfl⟩
theorem iX1_playEvent_41 : xl_D mX1_playEvent 41 (.iconst 1) 1 42 := ⟨by decide +kernel, rfl⟩
theorem iX1_playEvent_42 : xl_Ca mX1_playEvent 42 mX0_add 45 := ⟨115, by decide +kernel, rfl, lX1_115, Nat.le_of_ble_eq_true rfl, Nat.le_of_ble_eq_true rfl⟩
theorem iX1_playEvent_45 : xl_J mX1_playEvent 45 (fun o => .goto o) 48 85 := ⟨40, by decide +kernel, rfl, rfl⟩
theorem iX1_playEvent_48 : xl_D mX1_playEvent 48 (.aload_n 0) 1 49 := ⟨by decide +kernel, rfl⟩
theorem iX1_playEvent_49 : xl_D mX1_playEvent 49 (.dup) 1 50 := ⟨by decide +kernel, rfl⟩
theorem iX1_playEvent_50 : xl_G mX1_playEvent 50 1 6 53 := ⟨58, by decide +kernel, rfl, fX1_58⟩
theorem iX1_playEvent_53 : xl_D mX1_playEvent 53 (.iconst 1) 1 54 := ⟨by decide +kernel, rfl⟩
theorem iX1_playEvent_54 : xl_D mX1_playEvent 54 (.iadd) 1 55 := ⟨by decide +kernel, rfl⟩
theorem iX1_playEvent_55 : xl_P mX1_playEvent 55 1 6 .int 58 := ⟨58, by decide +kernel, rfl, wX1_58⟩
theorem iX1_playEvent_58 : xl_D mX1_playEvent 58 (.aload_n 0) 1 59 := ⟨by decide +kernel, rfl⟩
theorem iX1_playEvent_59 : xl_D mX1_playEvent 59 (.dup) 1 60 := ⟨by decide +kernel, rfl⟩
theorem iX1_playEvent_60 : xl_G mX1_playEvent 60 1 7 63 := ⟨61, by decide +kernel, rfl, fX1_61⟩
theorem iX1_playEvent_63 : xl_D mX1_playEvent 63 (.iload 5) 2 65 := ⟨by decide +kernel, rfl⟩
theorem iX1_playEvent_65 : xl_D mX1_playEvent 65 (.iconst 1) 1 66 := ⟨by decide +kernel, rfl⟩
theorem iX1_playEvent_66 : xl_J mX1_playEvent 66 (fun o => .if_icmp .ne o) 69 73 := ⟨7, by decide +kernel, rfl, rfl⟩
theorem iX1_playEvent_69 : xl_D mX1_playEvent 69 (.iconst 1) 1 70 := ⟨by decide +kernel, rfl⟩
theorem iX1_playEvent_70 : xl_J mX1_playEvent 70 (fun o => .goto o) 73 74 := ⟨4, by decide +kernel, rfl, rfl⟩
theorem iX1_playEvent_73 : xl_D mX1_playEvent 73 (.iconst 0) 1 74 := ⟨by decide +kernel, rfl⟩
theorem iX1_playEvent_74 : xl_D mX1_playEvent 74 (.iadd) 1 75 := ⟨by decide +kernel, rfl⟩
theorem iX1_playEvent_75 : xl_P mX1_playEvent 75 1 7 .int 78 := ⟨61, by decide +kernel, rfl, wX1_61⟩
theorem iX1_playEvent_78 : xl_D mX1_playEvent 78 (.aload_n 0) 1 79 := ⟨by decide +kernel, rfl⟩
theorem iX1_playEvent_79 : xl_D mX1_playEvent 79 (.iload_n 1) 1 80 := ⟨by decide +kernel, rfl⟩
theorem iX1_playEvent_80 : xl_D mX1_playEvent 80 (.iload_n 2) 1 81 := ⟨by decide +kernel, rfl⟩
theorem iX1_playEvent_81 : xl_D mX1_playEvent 81 (.iload_n 3) 1 82 := ⟨by decide +kernel, rfl⟩
theorem iX1_playEvent_82 : xl_Ca mX1_playEvent 82 mX1_melt 85 := ⟨118, by decide +kernel, rfl, lX1_118, Nat.le_of_ble_eq_true rfl, Nat.le_of_ble_eq_true rfl⟩
theorem iX1_playEvent_85 : xl_D mX1_playEvent 85 (.aload_n 0) 1 86 := ⟨by decide +kernel, rfl⟩
theorem iX1_playEvent_86 : xl_G mX1_playEvent 86 1 10 89 := ⟨14, by decide +kernel, rfl, fX1_14⟩
theorem iX1_playEvent_89 : xl_D mX1_playEvent 89 (.iload 4) 2 91 := ⟨by decide +kernel, rfl⟩
theorem iX1_playEvent_91 : xl_D mX1_playEvent 91 (.iconst 2) 1 92 := ⟨by decide +kernel, rfl⟩
theorem iX1_playEvent_92 : xl_D mX1_playEvent 92 (.iconst 0) 1 93 := ⟨by decide +kernel, rfl⟩
theorem iX1_playEvent_93 : xl_Ca mX1_playEvent 93 mX0_set 96 := ⟨77, by decide +kernel, rfl, lX1_77, Nat.le_of_ble_eq_true rfl, Nat.le_of_ble_eq_true rfl⟩
theorem iX1_playEvent_96 : xl_D mX1_playEvent 96 (.aload_n 0) 1 97 := ⟨by decide +kernel, rfl⟩
theorem iX1_playEvent_97 : xl_D mX1_playEvent 97 (.iload 4) 2 99 := ⟨by decide +kernel, rfl⟩
theorem iX1_playEvent_99 : xl_D mX1_playEvent 99 (.iload_n 2) 1 100 := ⟨by decide +kernel, rfl⟩
theorem iX1_playEvent_100 : xl_D mX1_playEvent 100 (.aload_n 0) 1 101 := ⟨by decide +kernel, rfl⟩
theorem iX1_playEvent_101 : xl_G mX1_playEvent 101 1 10 104 := ⟨14, by decide +kernel, rfl, fX1_14⟩
theorem iX1_playEvent_104 : xl_D mX1_playEvent 104 (.iload 4) 2 106 := ⟨by decide +kernel, rfl⟩
theorem iX1_playEvent_106 : xl_D mX1_playEvent 106 (.iconst 1) 1 107 := ⟨by decide +kernel, rfl⟩
theorem iX1_playEvent_107 : xl_Ca mX1_playEvent 107 mX0_get 110 := ⟨108, by decide +kernel, rfl, lX1_108, Nat.le_of_ble_eq_true rfl, Nat.le_of_ble_eq_true rfl⟩
theorem iX1_playEvent_110 : xl_D mX1_playEvent 110 (.isub) 1 111 := ⟨by decide +kernel, rfl⟩
theorem iX1_playEvent_111 : xl_Ca mX1_playEvent 111 mX1_raiseMark 114 := ⟨121, by decide +kernel, rfl, lX1_121, Nat.le_of_ble_eq_true rfl, Nat.le_of_ble_eq_true rfl⟩
theorem iX1_playEvent_114 : xl_D mX1_playEvent 114 (.aload_n 0) 1 115 := ⟨by decide +kernel, rfl⟩
theorem iX1_playEvent_115 : xl_Ca mX1_playEvent 115 mX1_rise 118 := ⟨124, by decide +kernel, rfl, lX1_124, Nat.le_of_ble_eq_true rfl, Nat.le_of_ble_eq_true rfl⟩
theorem iX1_playEvent_118 : xl_D mX1_playEvent 118 (.iload 5) 2 120 := ⟨by decide +kernel, rfl⟩
theorem iX1_playEvent_120 : xl_D mX1_playEvent 120 (.ireturn) 1 121 := ⟨by decide +kernel, rfl⟩
theorem iX1_playMark_0 : xl_D mX1_playMark 0 (.aload_n 0) 1 1 := ⟨by decide +kernel, rfl⟩
theorem iX1_playMark_1 : xl_D mX1_playMark 1 (.iload_n 1) 1 2 := ⟨by decide +kernel, rfl⟩
theorem iX1_playMark_2 : xl_D mX1_playMark 2 (.iload_n 2) 1 3 := ⟨by decide +kernel, rfl⟩
theorem iX1_playMark_3 : xl_Ca mX1_playMark 3 mX1_raiseMark 6 := ⟨121, by decide +kernel, rfl, lX1_121, Nat.le_of_ble_eq_true rfl, Nat.le_of_ble_eq_true rfl⟩
theorem iX1_playMark_6 : xl_D mX1_playMark 6 (.aload_n 0) 1 7 := ⟨by decide +kernel, rfl⟩
theorem iX1_playMark_7 : xl_Ca mX1_playMark 7 mX1_rise 10 := ⟨124, by decide +kernel, rfl, lX1_124, Nat.le_of_ble_eq_true rfl, Nat.le_of_ble_eq_true rfl⟩
theorem iX1_playMark_10 : xl_D mX1_playMark 10 (.return_) 1 11 := ⟨by decide +kernel, rfl⟩
theorem iX1_playIdle_0 : xl_D mX1_playIdle 0 (.aload_n 0) 1 1 := ⟨by decide +kernel, rfl⟩
theorem iX1_playIdle_1 : xl_G mX1_playIdle 1 1 10 4 := ⟨14, by decide +kernel, rfl, fX1_14⟩
theorem iX1_playIdle_4 : xl_D mX1_playIdle 4 (.iload_n 1) 1 5 := ⟨by decide +kernel, rfl⟩
theorem iX1_playIdle_5 : xl_D mX1_playIdle 5 (.iconst 2) 1 6 := ⟨by decide +kernel, rfl⟩
theorem iX1_playIdle_6 : xl_D mX1_playIdle 6 (.iconst 1) 1 7 := ⟨by decide +kernel, rfl⟩
theorem iX1_playIdle_7 : xl_Ca mX1_playIdle 7 mX0_set 10 := ⟨77, by decide +kernel, rfl, lX1_77, Nat.le_of_ble_eq_true rfl, Nat.le_of_ble_eq_true rfl⟩
theorem iX1_playIdle_10 : xl_D mX1_playIdle 10 (.aload_n 0) 1 11 := ⟨by decide +kernel, rfl⟩
theorem iX1_playIdle_11 : xl_Ca mX1_playIdle 11 mX1_rise 14 := ⟨124, by decide +kernel, rfl, lX1_124, Nat.le_of_ble_eq_true rfl, Nat.le_of_ble_eq_true rfl⟩
theorem iX1_playIdle_14 : xl_D mX1_playIdle 14 (.return_) 1 15 := ⟨by decide +kernel, rfl⟩
theorem iX1_raiseMark_0 : xl_D mX1_raiseMark 0 (.iload_n 2) 1 1 := ⟨by decide +kernel, rfl⟩
theorem iX1_raiseMark_1 : xl_D mX1_raiseMark 1 (.aload_n 0) 1 2 := ⟨by decide +kernel, rfl⟩
theorem iX1_raiseMark_2 : xl_G mX1_raiseMark 2 1 10 5 := ⟨14, by decide +kernel, rfl, fX1_14⟩
theorem iX1_raiseMark_5 : xl_D mX1_raiseMark 5 (.iload_n 1) 1 6 := ⟨by decide +kernel, rfl⟩
theorem iX1_raiseMark_6 : xl_D mX1_raiseMark 6 (.iconst 0) 1 7 := ⟨by decide +kernel, rfl⟩
theorem iX1_raiseMark_7 : xl_Ca mX1_raiseMark 7 mX0_get 10 := ⟨108, by decide +kernel, rfl, lX1_108, Nat.le_of_ble_eq_true rfl, Nat.le_of_ble_eq_true rfl⟩
theorem iX1_raiseMark_10 : xl_J mX1_raiseMark 10 (fun o => .if_icmp .le o) 13 23 := ⟨13, by decide +kernel, rfl, rfl⟩
theorem iX1_raiseMark_13 : xl_D mX1_raiseMark 13 (.aload_n 0) 1 14 := ⟨by decide +kernel, rfl⟩
theorem iX1_raiseMark_14 : xl_G mX1_raiseMark 14 1 10 17 := ⟨14, by decide +kernel, rfl, fX1_14⟩
theorem iX1_raiseMark_17 : xl_D mX1_raiseMark 17 (.iload_n 1) 1 18 := ⟨by decide +kernel, rfl⟩
theorem iX1_raiseMark_18 : xl_D mX1_raiseMark 18 (.iconst 0) 1 19 := ⟨by decide +kernel, rfl⟩
theorem iX1_raiseMark_19 : xl_D mX1_raiseMark 19 (.iload_n 2) 1 20 := ⟨by decide +kernel, rfl⟩
theorem iX1_raiseMark_20 : xl_Ca mX1_raiseMark 20 mX0_set 23 := ⟨77, by decide +kernel, rfl, lX1_77, Nat.le_of_ble_eq_true rfl, Nat.le_of_ble_eq_true rfl⟩
theorem iX1_raiseMark_23 : xl_D mX1_raiseMark 23 (.return_) 1 24 := ⟨by decide +kernel, rfl⟩
theorem iX1_fateOf_0 : xl_D mX1_fateOf 0 (.iload_n 1) 1 1 := ⟨by decide +kernel, rfl⟩
theorem iX1_fateOf_1 : xl_D mX1_fateOf 1 (.aload_n 0) 1 2 := ⟨by decide +kernel, rfl⟩
theorem iX1_fateOf_2 : xl_G mX1_fateOf 2 1 3 5 := ⟨49, by decide +kernel, rfl, fX1_49⟩
theorem iX1_fateOf_5 : xl_D mX1_fateOf 5 (.aload_n 0) 1 6 := ⟨by decide +kernel, rfl⟩
theorem iX1_fateOf_6 : xl_G mX1_fateOf 6 1 1 9 := ⟨43, by decide +kernel, rfl, fX1_43⟩
theorem iX1_fateOf_9 : xl_D mX1_fateOf 9 (.isub) 1 10 := ⟨by decide +kernel, rfl⟩
theorem iX1_fateOf_10 : xl_J mX1_fateOf 10 (fun o => .if_icmp .ge o) 13 15 := ⟨5, by decide +kernel, rfl, rfl⟩
theorem iX1_fateOf_13 : xl_D mX1_fateOf 13 (.iconst 2) 1 14 := ⟨by decide +kernel, rfl⟩
theorem iX1_fateOf_14 : xl_D mX1_fateOf 14 (.ireturn) 1 15 := ⟨by decide +kernel, rfl⟩
theorem iX1_fateOf_15 : xl_D mX1_fateOf 15 (.iload_n 1) 1 16 := ⟨by decide +kernel, rfl⟩
theorem iX1_fateOf_16 : xl_D mX1_fateOf 16 (.aload_n 0) 1 17 := ⟨by decide +kernel, rfl⟩
theorem iX1_fateOf_17 : xl_G mX1_fateOf 17 1 3 20 := ⟨49, by decide +kernel, rfl, fX1_49⟩
theorem iX1_fateOf_20 : xl_J mX1_fateOf 20 (fun o => .if_icmp .ge o) 23 27 := ⟨7, by decide +kernel, rfl, rfl⟩
theorem iX1_fateOf_23 : xl_D mX1_fateOf 23 (.iconst 1) 1 24 := ⟨by decide +kernel, rfl⟩
theorem iX1_fateOf_24 : xl_J mX1_fateOf 24 (fun o => .goto o) 27 28 := ⟨4, by decide +kernel, rfl, rfl⟩
theorem iX1_fateOf_27 : xl_D mX1_fateOf 27 (.iconst 0) 1 28 := ⟨by decide +kernel, rfl⟩
theorem iX1_fateOf_28 : xl_D mX1_fateOf 28 (.ireturn) 1 29 := ⟨by decide +kernel, rfl⟩
theorem iX1_isTakenOf_0 : xl_D mX1_isTakenOf 0 (.aload_n 0) 1 1 := ⟨by decide +kernel, rfl⟩
theorem iX1_isTakenOf_1 : xl_G mX1_isTakenOf 1 1 14 4 := ⟨29, by decide +kernel, rfl, fX1_29⟩
theorem iX1_isTakenOf_4 : xl_D mX1_isTakenOf 4 (.iload_n 1) 1 5 := ⟨by decide +kernel, rfl⟩
theorem iX1_isTakenOf_5 : xl_D mX1_isTakenOf 5 (.iconst 5) 1 6 := ⟨by decide +kernel, rfl⟩
theorem iX1_isTakenOf_6 : xl_Ca mX1_isTakenOf 6 mX0_get 9 := ⟨108, by decide +kernel, rfl, lX1_108, Nat.le_of_ble_eq_true rfl, Nat.le_of_ble_eq_true rfl⟩
theorem iX1_isTakenOf_9 : xl_D mX1_isTakenOf 9 (.istore_n 3) 1 10 := ⟨by decide +kernel, rfl⟩
theorem iX1_isTakenOf_10 : xl_D mX1_isTakenOf 10 (.aload_n 0) 1 11 := ⟨by decide +kernel, rfl⟩
theorem iX1_isTakenOf_11 : xl_G mX1_isTakenOf 11 1 14 14 := ⟨29, by decide +kernel, rfl, fX1_29⟩
theorem iX1_isTakenOf_14 : xl_D mX1_isTakenOf 14 (.iload_n 1) 1 15 := ⟨by decide +kernel, rfl⟩
theorem iX1_isTakenOf_15 : xl_D mX1_isTakenOf 15 (.iconst 3) 1 16 := ⟨by decide +kernel, rfl⟩
theorem iX1_isTakenOf_16 : xl_Ca mX1_isTakenOf 16 mX0_get 19 := ⟨108, by decide +kernel, rfl, lX1_108, Nat.le_of_ble_eq_true rfl, Nat.le_of_ble_eq_true rfl⟩
theorem iX1_isTakenOf_19 : xl_D mX1_isTakenOf 19 (.iload_n 2) 1 20 := ⟨by decide +kernel, rfl⟩
theorem iX1_isTakenOf_20 : xl_J mX1_isTakenOf 20 (fun o => .if_icmp .ne o) 23 36 := ⟨16, by decide +kernel, rfl, rfl⟩
theorem iX1_isTakenOf_23 : xl_D mX1_isTakenOf 23 (.iload_n 3) 1 24 := ⟨by decide +kernel, rfl⟩
theorem iX1_isTakenOf_24 : xl_J mX1_isTakenOf 24 (fun o => .ifCond .eq o) 27 32 := ⟨8, by decide +kernel, rfl, rfl⟩
theorem iX1_isTakenOf_27 : xl_D mX1_isTakenOf 27 (.iload_n 3) 1 28 := ⟨by decide +kernel, rfl⟩
theorem iX1_isTakenOf_28 : xl_D mX1_isTakenOf 28 (.iconst 1) 1 29 := ⟨by decide +kernel, rfl⟩
theorem iX1_isTakenOf_29 : xl_J mX1_isTakenOf 29 (fun o => .if_icmp .ne o) 32 36 := ⟨7, by decide +kernel, rfl, rfl⟩
theorem iX1_isTakenOf_32 : xl_D mX1_isTakenOf 32 (.iconst 1) 1 33 := ⟨by decide +kernel, rfl⟩
theorem iX1_isTakenOf_33 : xl_J mX1_isTakenOf 33 (fun o => .goto o) 36 37 := ⟨4, by decide +kernel, rfl, rfl⟩
theorem iX1_isTakenOf_36 : xl_D mX1_isTakenOf 36 (.iconst 0) 1 37 := ⟨by decide +kernel, rfl⟩
theorem iX1_isTakenOf_37 : xl_D mX1_isTakenOf 37 (.ireturn) 1 38 := ⟨by decide +kernel, rfl⟩
theorem iX1_hasResult_0 : xl_D mX1_hasResult 0 (.aload_n 0) 1 1 := ⟨by decide +kernel, rfl⟩
theorem iX1_hasResult_1 : xl_G mX1_hasResult 1 1 11 4 := ⟨20, by decide +kernel, rfl, fX1_20⟩
theorem iX1_hasResult_4 : xl_D mX1_hasResult 4 (.iload_n 1) 1 5 := ⟨by decide +kernel, rfl⟩
theorem iX1_hasResult_5 : xl_D mX1_hasResult 5 (.bipush 6) 2 7 := ⟨by decide +kernel, rfl⟩
theorem iX1_hasResult_7 : xl_Ca mX1_hasResult 7 mX0_get 10 := ⟨108, by decide +kernel, rfl, lX1_108, Nat.le_of_ble_eq_true rfl, Nat.le_of_ble_eq_true rfl⟩
theorem iX1_hasResult_10 : xl_D mX1_hasResult 10 (.iconst (-1)) 1 11 := ⟨by decide +kernel, rfl⟩
theorem iX1_hasResult_11 : xl_J mX1_hasResult 11 (fun o => .if_icmp .eq o) 14 18 := ⟨7, by decide +kernel, rfl, rfl⟩
theorem iX1_hasResult_14 : xl_D mX1_hasResult 14 (.iconst 1) 1 15 := ⟨by decide +kernel, rfl⟩
theorem iX1_hasResult_15 : xl_J mX1_hasResult 15 (fun o => .goto o) 18 19 := ⟨4, by decide +kernel, rfl, rfl⟩
theorem iX1_hasResult_18 : xl_D mX1_hasResult 18 (.iconst 0) 1 19 := ⟨by decide +kernel, rfl⟩
theorem iX1_hasResult_19 : xl_D mX1_hasResult 19 (.ireturn) 1 20 := ⟨by decide +kernel, rfl⟩
theorem iX1_isRipe_0 : xl_D mX1_isRipe 0 (.aload_n 0) 1 1 := ⟨by decide +kernel, rfl⟩
theorem iX1_isRipe_1 : xl_G mX1_isRipe 1 1 11 4 := ⟨20, by decide +kernel, rfl, fX1_20⟩
theorem iX1_isRipe_4 : xl_D mX1_isRipe 4 (.iload_n 1) 1 5 := ⟨by decide +kernel, rfl⟩
theorem iX1_isRipe_5 : xl_D mX1_isRipe 5 (.iconst 2) 1 6 := ⟨by decide +kernel, rfl⟩
theorem iX1_isRipe_6 : xl_Ca mX1_isRipe 6 mX0_get 9 := ⟨108, by decide +kernel, rfl, lX1_108, Nat.le_of_ble_eq_true rfl, Nat.le_of_ble_eq_true rfl⟩
theorem iX1_isRipe_9 : xl_D mX1_isRipe 9 (.aload_n 0) 1 10 := ⟨by decide +kernel, rfl⟩
theorem iX1_isRipe_10 : xl_G mX1_isRipe 10 1 0 13 := ⟨39, by decide +kernel, rfl, fX1_39⟩
theorem iX1_isRipe_13 : xl_D mX1_isRipe 13 (.iadd) 1 14 := ⟨by decide +kernel, rfl⟩
theorem iX1_isRipe_14 : xl_D mX1_isRipe 14 (.iload_n 2) 1 15 := ⟨by decide +kernel, rfl⟩
theorem iX1_isRipe_15 : xl_J mX1_isRipe 15 (fun o => .if_icmp .ge o) 18 22 := ⟨7, by decide +kernel, rfl, rfl⟩
theorem iX1_isRipe_18 : xl_D mX1_isRipe 18 (.iconst 1) 1 19 := ⟨by decide +kernel, rfl⟩
theorem iX1_isRipe_19 : xl_J mX1_isRipe 19 (fun o => .goto o) 22 23 := ⟨4, by decide +kernel, rfl, rfl⟩
theorem iX1_isRipe_22 : xl_D mX1_isRipe 22 (.iconst 0) 1 23 := ⟨by decide +kernel, rfl⟩
theorem iX1_isRipe_23 : xl_D mX1_isRipe 23 (.ireturn) 1 24 := ⟨by decide +kernel, rfl⟩
theorem iX1_isOver_0 : xl_D mX1_isOver 0 (.aload_n 0) 1 1 := ⟨by decide +kernel, rfl⟩
theorem iX1_isOver_1 : xl_G mX1_isOver 1 1 11 4 := ⟨20, by decide +kernel, rfl, fX1_20⟩
theorem iX1_isOver_4 : xl_D mX1_isOver 4 (.iload_n 1) 1 5 := ⟨by decide +kernel, rfl⟩
theorem iX1_isOver_5 : xl_D mX1_isOver 5 (.iconst 2) 1 6 := ⟨by decide +kernel, rfl⟩
theorem iX1_isOver_6 : xl_Ca mX1_isOver 6 mX0_get 9 := ⟨108, by decide +kernel, rfl, lX1_108, Nat.le_of_ble_eq_true rfl, Nat.le_of_ble_eq_true rfl⟩
theorem iX1_isOver_9 : xl_D mX1_isOver 9 (.aload_n 0) 1 10 := ⟨by decide +kernel, rfl⟩
theorem iX1_isOver_10 : xl_G mX1_isOver 10 1 0 13 := ⟨39, by decide +kernel, rfl, fX1_39⟩
theorem iX1_isOver_13 : xl_D mX1_isOver 13 (.iadd) 1 14 := ⟨by decide +kernel, rfl⟩
theorem iX1_isOver_14 : xl_D mX1_isOver 14 (.aload_n 0) 1 15 := ⟨by decide +kernel, rfl⟩
theorem iX1_isOver_15 : xl_G mX1_isOver 15 1 1 18 := ⟨43, by decide +kernel, rfl, fX1_43⟩
theorem iX1_isOver_18 : xl_D mX1_isOver 18 (.iadd) 1 19 := ⟨by decide +kernel, rfl⟩
theorem iX1_isOver_19 : xl_D mX1_isOver 19 (.iload_n 2) 1 20 := ⟨by decide +kernel, rfl⟩
theorem iX1_isOver_20 : xl_J mX1_isOver 20 (fun o => .if_icmp .ge o) 23 27 := ⟨7, by decide +kernel, rfl, rfl⟩
theorem iX1_isOver_23 : xl_D mX1_isOver 23 (.iconst 1) 1 24 := ⟨by decide +kernel, rfl⟩
theorem iX1_isOver_24 : xl_J mX1_isOver 24 (fun o => .goto o) 27 28 := ⟨4, by decide +kernel, rfl, rfl⟩
theorem iX1_isOver_27 : xl_D mX1_isOver 27 (.iconst 0) 1 28 := ⟨by decide +kernel, rfl⟩
theorem iX1_isOver_28 : xl_D mX1_isOver 28 (.ireturn) 1 29 := ⟨by decide +kernel, rfl⟩
theorem iX1_ripening_0 : xl_D mX1_ripening 0 (.iconst 0) 1 1 := ⟨by decide +kernel, rfl⟩
theorem iX1_ripening_1 : xl_D mX1_ripening 1 (.istore_n 2) 1 2 := ⟨by decide +kernel, rfl⟩
theorem iX1_ripening_2 : xl_D mX1_ripening 2 (.iconst 0) 1 3 := ⟨by decide +kernel, rfl⟩
theorem iX1_ripening_3 : xl_D mX1_ripening 3 (.istore_n 3) 1 4 := ⟨by decide +kernel, rfl⟩
theorem iX1_ripening_4 : xl_D mX1_ripening 4 (.iload_n 3) 1 5 := ⟨by decide +kernel, rfl⟩
theorem iX1_ripening_5 : xl_D mX1_ripening 5 (.aload_n 0) 1 6 := ⟨by decide +kernel, rfl⟩
theorem iX1_ripening_6 : xl_G mX1_ripening 6 1 11 9 := ⟨20, by decide +kernel, rfl, fX1_20⟩
theorem iX1_ripening_9 : xl_G mX1_ripening 9 0 3 12 := ⟨85, by decide +kernel, rfl, fX1_85⟩
theorem iX1_ripening_12 : xl_J mX1_ripening 12 (fun o => .if_icmp .ge o) 15 45 := ⟨33, by decide +kernel, rfl, rfl⟩
theorem iX1_ripening_15 : xl_D mX1_ripening 15 (.aload_n 0) 1 16 := ⟨by decide +kernel, rfl⟩
theorem iX1_ripening_16 : xl_D mX1_ripening 16 (.iload_n 3) 1 17 := ⟨by decide +kernel, rfl⟩
theorem iX1_ripening_17 : xl_D mX1_ripening 17 (.aload_n 0) 1 18 := ⟨by decide +kernel, rfl⟩
theorem iX1_ripening_18 : xl_G mX1_ripening 18 1 3 21 := ⟨49, by decide +kernel, rfl, fX1_49⟩
theorem iX1_ripening_21 : xl_Ca mX1_ripening 21 mX1_isRipe 24 := ⟨127, by decide +kernel, rfl, lX1_127, Nat.le_of_ble_eq_true rfl, Nat.le_of_ble_eq_true rfl⟩
theorem iX1_ripening_24 : xl_J mX1_ripening 24 (fun o => .ifCond .ne o) 27 39 := ⟨15, by decide +kernel, rfl, rfl⟩
theorem iX1_ripening_27 : xl_D mX1_ripening 27 (.aload_n 0) 1 28 := ⟨by decide +kernel, rfl⟩
theorem iX1_ripening_28 : xl_D mX1_ripening 28 (.iload_n 3) 1 29 := ⟨by decide +kernel, rfl⟩
theorem iX1_ripening_29 : xl_D mX1_ripening 29 (.iload_n 1) 1 30 := ⟨by decide +kernel, rfl⟩
theorem iX1_ripening_30 : xl_Ca mX1_ripening 30 mX1_isRipe 33 := ⟨127, by decide +kernel, rfl, lX1_127, Nat.le_of_ble_eq_true rfl, Nat.le_of_ble_eq_true rfl⟩
theorem iX1_ripening_33 : xl_J mX1_ripening 33 (fun o => .ifCond .eq o) 36 39 := ⟨6, by decide +kernel, rfl, rfl⟩
theorem iX1_ripening_36 : xl_D mX1_ripening 36 (.iinc 2 1) 3 39 := ⟨by decide +kernel, rfl⟩
theorem iX1_ripening_39 : xl_D mX1_ripening 39 (.iinc 3 1) 3 42 := ⟨by decide +kernel, rfl⟩
theorem iX1_ripening_42 : xl_J mX1_ripening 42 (fun o => .goto o) 45 4 := ⟨-38, by decide +kernel, rfl, rfl⟩
theorem iX1_ripening_45 : xl_D mX1_ripening 45 (.iload_n 2) 1 46 := ⟨by decide +kernel, rfl⟩
theorem iX1_ripening_46 : xl_D mX1_ripening 46 (.ireturn) 1 47 := ⟨by decide +kernel, rfl⟩
theorem iX1_leastMark_0 : xl_D mX1_leastMark 0 (.iconst (-1)) 1 1 := ⟨by decide +kernel, rfl⟩
theorem iX1_leastMark_1 : xl_D mX1_leastMark 1 (.istore_n 2) 1 2 := ⟨by decide +kernel, rfl⟩
theorem iX1_leastMark_2 : xl_D mX1_leastMark 2 (.iconst 0) 1 3 := ⟨by decide +kernel, rfl⟩
theorem iX1_leastMark_3 : xl_D mX1_leastMark 3 (.istore_n 3) 1 4 := ⟨by decide +kernel, rfl⟩
theorem iX1_leastMark_4 : xl_D mX1_leastMark 4 (.iload_n 3) 1 5 := ⟨by decide +kernel, rfl⟩
theorem iX1_leastMark_5 : xl_D mX1_leastMark 5 (.aload_n 0) 1 6 := ⟨by decide +kernel, rfl⟩
theorem iX1_leastMark_6 : xl_G mX1_leastMark 6 1 10 9 := ⟨14, by decide +kernel, rfl, fX1_14⟩
theorem iX1_leastMark_9 : xl_G mX1_leastMark 9 0 3 12 := ⟨85, by decide +kernel, rfl, fX1_85⟩
theorem iX1_leastMark_12 : xl_J mX1_leastMark 12 (fun o => .if_icmp .ge o) 15 68 := ⟨56, by decide +kernel, rfl, rfl⟩
theorem iX1_leastMark_15 : xl_D mX1_leastMark 15 (.iload_n 3) 1 16 := ⟨by decide +kernel, rfl⟩
theorem iX1_leastMark_16 : xl_D mX1_leastMark 16 (.iload_n 1) 1 17 := ⟨by decide +kernel, rfl⟩
theorem iX1_leastMark_17 : xl_J mX1_leastMark 17 (fun o => .if_icmp .eq o) 20 62 := ⟨45, by decide +kernel, rfl, rfl⟩
theorem iX1_leastMark_20 : xl_D mX1_leastMark 20 (.aload_n 0) 1 21 := ⟨by decide +kernel, rfl⟩
theorem iX1_leastMark_21 : xl_G mX1_leastMark 21 1 10 24 := ⟨14, by decide +kernel, rfl, fX1_14⟩
theorem iX1_leastMark_24 : xl_D mX1_leastMark 24 (.iload_n 3) 1 25 := ⟨by decide +kernel, rfl⟩
theorem iX1_leastMark_25 : xl_D mX1_leastMark 25 (.iconst 2) 1 26 := ⟨by decide +kernel, rfl⟩
theorem iX1_leastMark_26 : xl_Ca mX1_leastMark 26 mX0_get 29 := ⟨108, by decide +kernel, rfl, lX1_108, Nat.le_of_ble_eq_true rfl, Nat.le_of_ble_eq_true rfl⟩
theorem iX1_leastMark_29 : xl_J mX1_leastMark 29 (fun o => .ifCond .eq o) 32 35 := ⟨6, by decide +kernel, rfl, rfl⟩
theorem iX1_leastMark_32 : xl_J mX1_leastMark 32 (fun o => .goto o) 35 62 := ⟨30, by decide +kernel, rfl, rfl⟩
theorem iX1_leastMark_35 : xl_D mX1_leastMark 35 (.aload_n 0) 1 36 := ⟨by decide +kernel, rfl⟩
theorem iX1_leastMark_36 : xl_G mX1_leastMark 36 1 10 39 := ⟨14, by decide +kernel, rfl, fX1_14⟩
theorem iX1_leastMark_39 : xl_D mX1_leastMark 39 (.iload_n 3) 1 40 := ⟨by decide +kernel, rfl⟩
theorem iX1_leastMark_40 : xl_D mX1_leastMark 40 (.iconst 0) 1 41 := ⟨by decide +kernel, rfl⟩
theorem iX1_leastMark_41 : xl_Ca mX1_leastMark 41 mX0_get 44 := ⟨108, by decide +kernel, rfl, lX1_108, Nat.le_of_ble_eq_true rfl, Nat.le_of_ble_eq_true rfl⟩
theorem iX1_leastMark_44 : xl_D mX1_leastMark 44 (.istore 4) 2 46 := ⟨by decide +kernel, rfl⟩
theorem iX1_leastMark_46 : xl_D mX1_leastMark 46 (.iload_n 2) 1 47 := ⟨by decide +kernel, rfl⟩
theorem iX1_leastMark_47 : xl_J mX1_leastMark 47 (fun o => .ifCond .ge o) 50 55 := ⟨8, by decide +kernel, rfl, rfl⟩
theorem iX1_leastMark_50 : xl_D mX1_leastMark 50 (.iload 4) 2 52 := ⟨by decide +kernel, rfl⟩
theorem iX1_leastMark_52 : xl_J mX1_leastMark 52 (fun o => .goto o) 55 61 := ⟨9, by decide +kernel, rfl, rfl⟩
theorem iX1_leastMark_55 : xl_D mX1_leastMark 55 (.iload_n 2) 1 56 := ⟨by decide +kernel, rfl⟩
theorem iX1_leastMark_56 : xl_D mX1_leastMark 56 (.iload 4) 2 58 := ⟨by decide +kernel, rfl⟩
theorem iX1_leastMark_58 : xl_Cm mX1_leastMark 58 Lib.Math.min.name Lib.Math.min.code 61 := ⟨131, by decide +kernel, rfl, lX1_131, xl_stmin, xl_iMath, xl_comin, Nat.le_of_ble_eq_true rfl, Nat.le_of_ble_eq_true rfl⟩
theorem iX1_leastMark_61 : xl_D mX1_leastMark 61 (.istore_n 2) 1 62 := ⟨by decide +kernel, rfl⟩
theorem iX1_leastMark_62 : xl_D mX1_leastMark 62 (.iinc 3 1) 3 65 := ⟨by decide +kernel, rfl⟩
theorem iX1_leastMark_65 : xl_J mX1_leastMark 65 (fun o => .goto o) 68 4 := ⟨-61, by decide +kernel, rfl, rfl⟩
theorem iX1_leastMark_68 : xl_D mX1_leastMark 68 (.iload_n 2) 1 69 := ⟨by decide +kernel, rfl⟩
theorem iX1_leastMark_69 : xl_D mX1_leastMark 69 (.ireturn) 1 70 := ⟨by decide +kernel, rfl⟩
theorem iX1_sentOf_0 : xl_D mX1_sentOf 0 (.iconst 0) 1 1 := ⟨by decide +kernel, rfl⟩
theorem iX1_sentOf_1 : xl_D mX1_sentOf 1 (.istore_n 2) 1 2 := ⟨by decide +kernel, rfl⟩
theorem iX1_sentOf_2 : xl_D mX1_sentOf 2 (.iconst 0) 1 3 := ⟨by decide +kernel, rfl⟩
theorem iX1_sentOf_3 : xl_D mX1_sentOf 3 (.istore_n 3) 1 4 := ⟨by decide +kernel, rfl⟩
theorem iX1_sentOf_4 : xl_D mX1_sentOf 4 (.iload_n 3) 1 5 := ⟨by decide +kernel, rfl⟩
theorem iX1_sentOf_5 : xl_D mX1_sentOf 5 (.bipush 6) 2 7 := ⟨by decide +kernel, rfl⟩
theorem iX1_sentOf_7 : xl_J mX1_sentOf 7 (fun o => .if_icmp .ge o) 10 28 := ⟨21, by decide +kernel, rfl, rfl⟩
theorem iX1_sentOf_10 : xl_D mX1_sentOf 10 (.iload_n 2) 1 11 := ⟨by decide +kernel, rfl⟩
theorem iX1_sentOf_11 : xl_D mX1_sentOf 11 (.aload_n 0) 1 12 := ⟨by decide +kernel, rfl⟩
theorem iX1_sentOf_12 : xl_G mX1_sentOf 12 1 15 15 := ⟨32, by decide +kernel, rfl, fX1_32⟩
theorem iX1_sentOf_15 : xl_D mX1_sentOf 15 (.iload_n 3) 1 16 := ⟨by decide +kernel, rfl⟩
theorem iX1_sentOf_16 : xl_D mX1_sentOf 16 (.iload_n 1) 1 17 := ⟨by decide +kernel, rfl⟩
theorem iX1_sentOf_17 : xl_Ca mX1_sentOf 17 mX0_get 20 := ⟨108, by decide +kernel, rfl, lX1_108, Nat.le_of_ble_eq_true rfl, Nat.le_of_ble_eq_true rfl⟩
theorem iX1_sentOf_20 : xl_D mX1_sentOf 20 (.iadd) 1 21 := ⟨by decide +kernel, rfl⟩
theorem iX1_sentOf_21 : xl_D mX1_sentOf 21 (.istore_n 2) 1 22 := ⟨by decide +kernel, rfl⟩
theorem iX1_sentOf_22 : xl_D mX1_sentOf 22 (.iinc 3 1) 3 25 := ⟨by decide +kernel, rfl⟩
theorem iX1_sentOf_25 : xl_J mX1_sentOf 25 (fun o => .goto o) 28 4 := ⟨-21, by decide +kernel, rfl, rfl⟩
theorem iX1_sentOf_28 : xl_D mX1_sentOf 28 (.iload_n 2) 1 29 := ⟨by decide +kernel, rfl⟩
theorem iX1_sentOf_29 : xl_D mX1_sentOf 29 (.ireturn) 1 30 := ⟨by decide +kernel, rfl⟩
theorem iX1_touches_0 : xl_D mX1_touches 0 (.aload_n 0) 1 1 := ⟨by decide +kernel, rfl⟩
theorem iX1_touches_1 : xl_G mX1_touches 1 1 11 4 := ⟨20, by decide +kernel, rfl, fX1_20⟩
theorem iX1_touches_4 : xl_D mX1_touches 4 (.iload_n 1) 1 5 := ⟨by decide +kernel, rfl⟩
theorem iX1_touches_5 : xl_D mX1_touches 5 (.iconst 0) 1 6 := ⟨by decide +kernel, rfl⟩
theorem iX1_touches_6 : xl_Ca mX1_touches 6 mX0_get 9 := ⟨108, by decide +kernel, rfl, lX1_108, Nat.le_of_ble_eq_true rfl, Nat.le_of_ble_eq_true rfl⟩
theorem iX1_touches_9 : xl_D mX1_touches 9 (.iload_n 2) 1 10 := ⟨by decide +kernel, rfl⟩
theorem iX1_touches_10 : xl_J mX1_touches 10 (fun o => .if_icmp .ne o) 13 53 := ⟨43, by decide +kernel, rfl, rfl⟩
theorem iX1_touches_13 : xl_D mX1_touches 13 (.aload_n 0) 1 14 := ⟨by decide +kernel, rfl⟩
theorem iX1_touches_14 : xl_G mX1_touches 14 1 11 17 := ⟨20, by decide +kernel, rfl, fX1_20⟩
theorem iX1_touches_17 : xl_D mX1_touches 17 (.iload_n 1) 1 18 := ⟨by decide +kernel, rfl⟩
theorem iX1_touches_18 : xl_D mX1_touches 18 (.iconst 1) 1 19 := ⟨by decide +kernel, rfl⟩
theorem iX1_touches_19 : xl_Ca mX1_touches 19 mX0_get 22 := ⟨108, by decide +kernel, rfl, lX1_108, Nat.le_of_ble_eq_true rfl, Nat.le_of_ble_eq_true rfl⟩
theorem iX1_touches_22 : xl_D mX1_touches 22 (.aload_n 0) 1 23 := ⟨by decide +kernel, rfl⟩
theorem iX1_touches_23 : xl_G mX1_touches 23 1 0 26 := ⟨39, by decide +kernel, rfl, fX1_39⟩
theorem iX1_touches_26 : xl_D mX1_touches 26 (.isub) 1 27 := ⟨by decide +kernel, rfl⟩
theorem iX1_touches_27 : xl_D mX1_touches 27 (.iload_n 3) 1 28 := ⟨by decide +kernel, rfl⟩
theorem iX1_touches_28 : xl_J mX1_touches 28 (fun o => .if_icmp .gt o) 31 53 := ⟨25, by decide +kernel, rfl, rfl⟩
theorem iX1_touches_31 : xl_D mX1_touches 31 (.aload_n 0) 1 32 := ⟨by decide +kernel, rfl⟩
theorem iX1_touches_32 : xl_G mX1_touches 32 1 11 35 := ⟨20, by decide +kernel, rfl, fX1_20⟩
theorem iX1_touches_35 : xl_D mX1_touches 35 (.iload_n 1) 1 36 := ⟨by decide +kernel, rfl⟩
theorem iX1_touches_36 : xl_D mX1_touches 36 (.iconst 2) 1 37 := ⟨by decide +kernel, rfl⟩
theorem iX1_touches_37 : xl_Ca mX1_touches 37 mX0_get 40 := ⟨108, by decide +kernel, rfl, lX1_108, Nat.le_of_ble_eq_true rfl, Nat.le_of_ble_eq_true rfl⟩
theorem iX1_touches_40 : xl_D mX1_touches 40 (.aload_n 0) 1 41 := ⟨by decide +kernel, rfl⟩
theorem iX1_touches_41 : xl_G mX1_touches 41 1 0 44 := ⟨39, by decide +kernel, rfl, fX1_39⟩
theorem iX1_touches_44 : xl_D mX1_touches 44 (.iadd) 1 45 := ⟨by decide +kernel, rfl⟩
theorem iX1_touches_45 : xl_D mX1_touches 45 (.iload_n 3) 1 46 := ⟨by decide +kernel, rfl⟩
theorem iX1_touches_46 : xl_J mX1_touches 46 (fun o => .if_icmp .lt o) 49 53 := ⟨7, by decide +kernel, rfl, rfl⟩
theorem iX1_touches_49 : xl_D mX1_touches 49 (.iconst 1) 1 50 := ⟨by decide +kernel, rfl⟩
theorem iX1_touches_50 : xl_J mX1_touches 50 (fun o => .goto o) 53 54 := ⟨4, by decide +kernel, rfl, rfl⟩
theorem iX1_touches_53 : xl_D mX1_touches 53 (.iconst 0) 1 54 := ⟨by decide +kernel, rfl⟩
theorem iX1_touches_54 : xl_D mX1_touches 54 (.ireturn) 1 55 := ⟨by decide +kernel, rfl⟩
theorem iX1_firstTouched_0 : xl_D mX1_firstTouched 0 (.iconst 0) 1 1 := ⟨by decide +kernel, rfl⟩
theorem iX1_firstTouched_1 : xl_D mX1_firstTouched 1 (.istore_n 3) 1 2 := ⟨by decide +kernel, rfl⟩
theorem iX1_firstTouched_2 : xl_D mX1_firstTouched 2 (.iload_n 3) 1 3 := ⟨by decide +kernel, rfl⟩
theorem iX1_firstTouched_3 : xl_D mX1_firstTouched 3 (.aload_n 0) 1 4 := ⟨by decide +kernel, rfl⟩
theorem iX1_firstTouched_4 : xl_G mX1_firstTouched 4 1 11 7 := ⟨20, by decide +kernel, rfl, fX1_20⟩
theorem iX1_firstTouched_7 : xl_G mX1_firstTouched 7 0 3 10 := ⟨85, by decide +kernel, rfl, fX1_85⟩
theorem iX1_firstTouched_10 : xl_J mX1_firstTouched 10 (fun o => .if_icmp .ge o) 13 31 := ⟨21, by decide +kernel, rfl, rfl⟩
theorem iX1_firstTouched_13 : xl_D mX1_firstTouched 13 (.aload_n 0) 1 14 := ⟨by decide +kernel, rfl⟩
theorem iX1_firstTouched_14 : xl_D mX1_firstTouched 14 (.iload_n 3) 1 15 := ⟨by decide +kernel, rfl⟩
theorem iX1_firstTouched_15 : xl_D mX1_firstTouched 15 (.iload_n 1) 1 16 := ⟨by decide +kernel, rfl⟩
theorem iX1_firstTouched_16 : xl_D mX1_firstTouched 16 (.iload_n 2) 1 17 := ⟨by decide +kernel, rfl⟩
theorem iX1_firstTouched_17 : xl_Ca mX1_firstTouched 17 mX1_touches 20 := ⟨134, by decide +kernel, rfl, lX1_134, Nat.le_of_ble_eq_true rfl, Nat.le_of_ble_eq_true rfl⟩
theorem iX1_firstTouched_20 : xl_J mX1_firstTouched 20 (fun o => .ifCond .eq o) 23 25 := ⟨5, by decide +kernel, rfl, rfl⟩
theorem iX1_firstTouched_23 : xl_D mX1_firstTouched 23 (.iload_n 3) 1 24 := ⟨by decide +kernel, rfl⟩
theorem iX1_firstTouched_24 : xl_D mX1_firstTouched 24 (.ireturn) 1 25 := ⟨by decide +kernel, rfl⟩
theorem iX1_firstTouched_25 : xl_D mX1_firstTouched 25 (.iinc 3 1) 3 28 := ⟨by decide +kernel, rfl⟩
theorem iX1_firstTouched_28 : xl_J mX1_firstTouched 28 (fun o => .goto o) 31 2 := ⟨-26, by decide +kernel, rfl, rfl⟩
theorem iX1_firstTouched_31 : xl_D mX1_firstTouched 31 (.iconst (-1)) 1 32 := ⟨by decide +kernel, rfl⟩
theorem iX1_firstTouched_32 : xl_D mX1_firstTouched 32 (.ireturn) 1 33 := ⟨by decide +kernel, rfl⟩
theorem iX1_touchedFrom_0 : xl_D mX1_touchedFrom 0 (.iconst 0) 1 1 := ⟨by decide +kernel, rfl⟩
theorem iX1_touchedFrom_1 : xl_D mX1_touchedFrom 1 (.istore 4) 2 3 := ⟨by decide +kernel, rfl⟩
theorem iX1_touchedFrom_3 : xl_D mX1_touchedFrom 3 (.iload_n 1) 1 4 := ⟨by decide +kernel, rfl⟩
theorem iX1_touchedFrom_4 : xl_D mX1_touchedFrom 4 (.istore 5) 2 6 := ⟨by decide +kernel, rfl⟩
theorem iX1_touchedFrom_6 : xl_D mX1_touchedFrom 6 (.iload 5) 2 8 := ⟨by decide +kernel, rfl⟩
theorem iX1_touchedFrom_8 : xl_J mX1_touchedFrom 8 (fun o => .ifCond .lt o) 11 43 := ⟨35, by decide +kernel, rfl, rfl⟩
theorem iX1_touchedFrom_11 : xl_D mX1_touchedFrom 11 (.iload 5) 2 13 := ⟨by decide +kernel, rfl⟩
theorem iX1_touchedFrom_13 : xl_D mX1_touchedFrom 13 (.aload_n 0) 1 14 := ⟨by decide +kernel, rfl⟩
theorem iX1_touchedFrom_14 : xl_G mX1_touchedFrom 14 1 11 17 := ⟨20, by decide +kernel, rfl, fX1_20⟩
theorem iX1_touchedFrom_17 : xl_G mX1_touchedFrom 17 0 3 20 := ⟨85, by decide +kernel, rfl, fX1_85⟩
theorem iX1_touchedFrom_20 : xl_J mX1_touchedFrom 20 (fun o => .if_icmp .ge o) 23 43 := ⟨23, by decide +kernel, rfl, rfl⟩
theorem iX1_touchedFrom_23 : xl_D mX1_touchedFrom 23 (.aload_n 0) 1 24 := ⟨by decide +kernel, rfl⟩
theorem iX1_touchedFrom_24 : xl_D mX1_touchedFrom 24 (.iload 5) 2 26 := ⟨by decide +kernel, rfl⟩
theorem iX1_touchedFrom_26 : xl_D mX1_touchedFrom 26 (.iload_n 2) 1 27 := ⟨by decide +kernel, rfl⟩
theorem iX1_touchedFrom_27 : xl_D mX1_touchedFrom 27 (.iload_n 3) 1 28 := ⟨by decide +kernel, rfl⟩
theorem iX1_touchedFrom_28 : xl_Ca mX1_touchedFrom 28 mX1_touches 31 := ⟨134, by decide +kernel, rfl, lX1_134, Nat.le_of_ble_eq_true rfl, Nat.le_of_ble_eq_true rfl⟩
theorem iX1_touchedFrom_31 : xl_J mX1_touchedFrom 31 (fun o => .ifCond .eq o) 34 43 := ⟨12, by decide +kernel, rfl, rfl⟩
theorem iX1_touchedFrom_34 : xl_D mX1_touchedFrom 34 (.iinc 4 1) 3 37 := ⟨by decide +kernel, rfl⟩
theorem iX1_touchedFrom_37 : xl_D mX1_touchedFrom 37 (.iinc 5 1) 3 40 := ⟨by decide +kernel, rfl⟩
theorem iX1_touchedFrom_40 : xl_J mX1_touchedFrom 40 (fun o => .goto o) 43 6 := ⟨-34, by decide +kernel, rfl, rfl⟩
theorem iX1_touchedFrom_43 : xl_D mX1_touchedFrom 43 (.iload 4) 2 45 := ⟨by decide +kernel, rfl⟩
theorem iX1_touchedFrom_45 : xl_D mX1_touchedFrom 45 (.ireturn) 1 46 := ⟨by decide +kernel, rfl⟩
theorem iX1_melt_0 : xl_D mX1_melt 0 (.aload_n 0) 1 1 := ⟨by decide +kernel, rfl⟩
theorem iX1_melt_1 : xl_D mX1_melt 1 (.iload_n 1) 1 2 := ⟨by decide +kernel, rfl⟩
theorem iX1_melt_2 : xl_D mX1_melt 2 (.iload_n 2) 1 3 := ⟨by decide +kernel, rfl⟩
theorem iX1_melt_3 : xl_Ca mX1_melt 3 mX1_firstTouched 6 := ⟨138, by decide +kernel, rfl, lX1_138, Nat.le_of_ble_eq_true rfl, Nat.le_of_ble_eq_true rfl⟩
theorem iX1_melt_6 : xl_D mX1_melt 6 (.istore 4) 2 8 := ⟨by decide +kernel, rfl⟩
theorem iX1_melt_8 : xl_D mX1_melt 8 (.aload_n 0) 1 9 := ⟨by decide +kernel, rfl⟩
theorem iX1_melt_9 : xl_D mX1_melt 9 (.iload 4) 2 11 := ⟨by decide +kernel, rfl⟩
theorem iX1_melt_11 : xl_D mX1_melt 11 (.iload_n 1) 1 12 := ⟨by decide +kernel, rfl⟩
theorem iX1_melt_12 : xl_D mX1_melt 12 (.iload_n 2) 1 13 := ⟨by decide +kernel, rfl⟩
theorem iX1_melt_13 : xl_Ca mX1_melt 13 mX1_touchedFrom 16 := ⟨141, by decide +kernel, rfl, lX1_141, Nat.le_of_ble_eq_true rfl, Nat.le_of_ble_eq_true rfl⟩
theorem iX1_melt_16 : xl_D mX1_melt 16 (.istore 5) 2 18 := ⟨by decide +kernel, rfl⟩
theorem iX1_melt_18 : xl_D mX1_melt 18 (.iload 4) 2 20 := ⟨by decide +kernel, rfl⟩
theorem iX1_melt_20 : xl_J mX1_melt 20 (fun o => .ifCond .lt o) 23 28 := ⟨8, by decide +kernel, rfl, rfl⟩
theorem iX1_melt_23 : xl_D mX1_melt 23 (.iload 4) 2 25 := ⟨by decide +kernel, rfl⟩
theorem iX1_melt_25 : xl_J mX1_melt 25 (fun o => .goto o) 28 34 := ⟨9, by decide +kernel, rfl, rfl⟩
theorem iX1_melt_28 : xl_D mX1_melt 28 (.aload_n 0) 1 29 := ⟨by decide +kernel, rfl⟩
theorem iX1_melt_29 : xl_D mX1_melt 29 (.iload_n 1) 1 30 := ⟨by decide +kernel, rfl⟩
theorem iX1_melt_30 : xl_D mX1_melt 30 (.iload_n 2) 1 31 := ⟨by decide +kernel, rfl⟩
theorem iX1_melt_31 : xl_Ca mX1_melt 31 mX1_placeFor 34 := ⟨145, by decide +kernel, rfl, lX1_145, Nat.le_of_ble_eq_true rfl, Nat.le_of_ble_eq_true rfl⟩
theorem iX1_melt_34 : xl_D mX1_melt 34 (.istore 6) 2 36 := ⟨by decide +kernel, rfl⟩
theorem iX1_melt_36 : xl_D mX1_melt 36 (.iload 6) 2 38 := ⟨by decide +kernel, rfl⟩
theorem iX1_melt_38 : xl_D mX1_melt 38 (.istore 7) 2 40 := ⟨by decide +kernel, rfl⟩
theorem iX1_melt_40 : xl_D mX1_melt 40 (.iload 7) 2 42 := ⟨by decide +kernel, rfl⟩
theorem iX1_melt_42 : xl_D mX1_melt 42 (.iload 6) 2 44 := ⟨by decide +kernel, rfl⟩
theorem iX1_melt_44 : xl_D mX1_melt 44 (.iload 5) 2 46 := ⟨by decide +kernel, rfl⟩
theorem iX1_melt_46 : xl_D mX1_melt 46 (.iadd) 1 47 := ⟨by decide +kernel, rfl⟩
theorem iX1_melt_47 : xl_J mX1_melt 47 (fun o => .if_icmp .ge o) 50 62 := ⟨15, by decide +kernel, rfl, rfl⟩
theorem iX1_melt_50 : xl_D mX1_melt 50 (.aload_n 0) 1 51 := ⟨by decide +kernel, rfl⟩
theorem iX1_melt_51 : xl_D mX1_melt 51 (.iload 7) 2 53 := ⟨by decide +kernel, rfl⟩
theorem iX1_melt_53 : xl_Ca mX1_melt 53 mX1_takeBack 56 := ⟨148, by decide +kernel, rfl, lX1_148, Nat.le_of_ble_eq_true rfl, Nat.le_of_ble_eq_true rfl⟩
theorem iX1_melt_56 : xl_D mX1_melt 56 (.iinc 7 1) 3 59 := ⟨by decide +kernel, rfl⟩
theorem iX1_melt_59 : xl_J mX1_melt 59 (fun o => .goto o) 62 40 := ⟨-19, by decide +kernel, rfl, rfl⟩
theorem iX1_melt_62 : xl_D mX1_melt 62 (.aload_n 0) 1 63 := ⟨by decide +kernel, rfl⟩
theorem iX1_melt_63 : xl_G mX1_melt 63 1 11 66 := ⟨20, by decide +kernel, rfl, fX1_20⟩
theorem iX1_melt_66 : xl_D mX1_melt 66 (.iload 6) 2 68 := ⟨by decide +kernel, rfl⟩
theorem iX1_melt_68 : xl_Ca mX1_melt 68 mX0_open 71 := ⟨73, by decide +kernel, rfl, lX1_73, Nat.le_of_ble_eq_true rfl, Nat.le_of_ble_eq_true rfl⟩
theorem iX1_melt_71 : xl_J mX1_melt 71 (fun o => .ifCond .ne o) 74 75 := ⟨4, by decide +kernel, rfl, rfl⟩
theorem iX1_melt_74 : xl_D mX1_melt 74 (.return_) 1 75 := ⟨by decide +kernel, rfl⟩
theorem iX1_melt_75 : xl_D mX1_melt 75 (.aload_n 0) 1 76 := ⟨by decide +kernel, rfl⟩
theorem iX1_melt_76 : xl_G mX1_melt 76 1 11 79 := ⟨20, by decide +kernel, rfl, fX1_20⟩
theorem iX1_melt_79 : xl_D mX1_melt 79 (.iload 6) 2 81 := ⟨by decide +kernel, rfl⟩
theorem iX1_melt_81 : xl_D mX1_melt 81 (.iconst 0) 1 82 := ⟨by decide +kernel, rfl⟩
theorem iX1_melt_82 : xl_D mX1_melt 82 (.iload_n 1) 1 83 := ⟨by decide +kernel, rfl⟩
theorem iX1_melt_83 : xl_Ca mX1_melt 83 mX0_set 86 := ⟨77, by decide +kernel, rfl, lX1_77, Nat.le_of_ble_eq_true rfl, Nat.le_of_ble_eq_true rfl⟩
theorem iX1_melt_86 : xl_D mX1_melt 86 (.aload_n 0) 1 87 := ⟨by decide +kernel, rfl⟩
theorem iX1_melt_87 : xl_G mX1_melt 87 1 11 90 := ⟨20, by decide +kernel, rfl, fX1_20⟩
theorem iX1_melt_90 : xl_D mX1_melt 90 (.iload 6) 2 92 := ⟨by decide +kernel, rfl⟩
theorem iX1_melt_92 : xl_D mX1_melt 92 (.iconst 1) 1 93 := ⟨by decide +kernel, rfl⟩
theorem iX1_melt_93 : xl_D mX1_melt 93 (.iload_n 2) 1 94 := ⟨by decide +kernel, rfl⟩
theorem iX1_melt_94 : xl_Ca mX1_melt 94 mX0_set 97 := ⟨77, by decide +kernel, rfl, lX1_77, Nat.le_of_ble_eq_true rfl, Nat.le_of_ble_eq_true rfl⟩
theorem iX1_melt_97 : xl_D mX1_melt 97 (.aload_n 0) 1 98 := ⟨by decide +kernel, rfl⟩
theorem iX1_melt_98 : xl_G mX1_melt 98 1 11 101 := ⟨20, by decide +kernel, rfl, fX1_20⟩
theorem iX1_melt_101 : xl_D mX1_melt 101 (.iload 6) 2 103 := ⟨by decide +kernel, rfl⟩
theorem iX1_melt_103 : xl_D mX1_melt 103 (.iconst 2) 1 104 := ⟨by decide +kernel, rfl⟩
theorem iX1_melt_104 : xl_D mX1_melt 104 (.iload_n 2) 1 105 := ⟨by decide +kernel, rfl⟩
theorem iX1_melt_105 : xl_Ca mX1_melt 105 mX0_set 108 := ⟨77, by decide +kernel, rfl, lX1_77, Nat.le_of_ble_eq_true rfl, Nat.le_of_ble_eq_true rfl⟩
theorem iX1_melt_108 : xl_D mX1_melt 108 (.aload_n 0) 1 109 := ⟨by decide +kernel, rfl⟩
theorem iX1_melt_109 : xl_G mX1_melt 109 1 11 112 := ⟨20, by decide +kernel, rfl, fX1_20⟩
theorem iX1_melt_112 : xl_D mX1_melt 112 (.iload 6) 2 114 := ⟨by decide +kernel, rfl⟩
theorem iX1_melt_114 : xl_D mX1_melt 114 (.iconst 3) 1 115 := ⟨by decide +kernel, rfl⟩
theorem iX1_melt_115 : xl_D mX1_melt 115 (.iconst 1) 1 116 := ⟨by decide +kernel, rfl⟩
theorem iX1_melt_116 : xl_Ca mX1_melt 116 mX0_set 119 := ⟨77, by decide +kernel, rfl, lX1_77, Nat.le_of_ble_eq_true rfl, Nat.le_of_ble_eq_true rfl⟩
theorem iX1_melt_119 : xl_D mX1_melt 119 (.aload_n 0) 1 120 := ⟨by decide +kernel, rfl⟩
theorem iX1_melt_120 : xl_G mX1_melt 120 1 11 123 := ⟨20, by decide +kernel, rfl, fX1_20⟩
theorem iX1_melt_123 : xl_D mX1_melt 123 (.iload 6) 2 125 := ⟨by decide +kernel, rfl⟩
theorem iX1_melt_125 : xl_D mX1_melt 125 (.iconst 4) 1 126 := ⟨by decide +kernel, rfl⟩
theorem iX1_melt_126 : xl_D mX1_melt 126 (.iload_n 3) 1 127 := ⟨by decide +kernel, rfl⟩
theorem iX1_melt_127 : xl_Ca mX1_melt 127 mX0_set 130 := ⟨77, by decide +kernel, rfl, lX1_77, Nat.le_of_ble_eq_true rfl, Nat.le_of_ble_eq_true rfl⟩
theorem iX1_melt_130 : xl_D mX1_melt 130 (.aload_n 0) 1 131 := ⟨by decide +kernel, rfl⟩
theorem iX1_melt_131 : xl_G mX1_melt 131 1 11 134 := ⟨20, by decide +kernel, rfl, fX1_20⟩
theorem iX1_melt_134 : xl_D mX1_melt 134 (.iload 6) 2 136 := ⟨by decide +kernel, rfl⟩
theorem iX1_melt_136 : xl_D mX1_melt 136 (.iconst 5) 1 137 := ⟨by decide +kernel, rfl⟩
theorem iX1_melt_137 : xl_D mX1_melt 137 (.iload_n 3) 1 138 := ⟨by decide +kernel, rfl⟩
theorem iX1_melt_138 : xl_Ca mX1_melt 138 mX0_set 141 := ⟨77, by decide +kernel, rfl, lX1_77, Nat.le_of_ble_eq_true rfl, Nat.le_of_ble_eq_true rfl⟩
theorem iX1_melt_141 : xl_D mX1_melt 141 (.aload_n 0) 1 142 := ⟨by decide +kernel, rfl⟩
theorem iX1_melt_142 : xl_G mX1_melt 142 1 11 145 := ⟨20, by decide +kernel, rfl, fX1_20⟩
theorem iX1_melt_145 : xl_D mX1_melt 145 (.iload 6) 2 147 := ⟨by decide +kernel, rfl⟩
theorem iX1_melt_147 : xl_D mX1_melt 147 (.bipush 6) 2 149 := ⟨by decide +kernel, rfl⟩
theorem iX1_melt_149 : xl_D mX1_melt 149 (.iconst (-1)) 1 150 := ⟨by decide +kernel, rfl⟩
theorem iX1_melt_150 : xl_Ca mX1_melt 150 mX0_set 153 := ⟨77, by decide +kernel, rfl, lX1_77, Nat.le_of_ble_eq_true rfl, Nat.le_of_ble_eq_true rfl⟩
theorem iX1_melt_153 : xl_D mX1_melt 153 (.iconst 0) 1 154 := ⟨by decide +kernel, rfl⟩
theorem iX1_melt_154 : xl_D mX1_melt 154 (.istore 7) 2 156 := ⟨by decide +kernel, rfl⟩
theorem iX1_melt_156 : xl_D mX1_melt 156 (.iload 7) 2 158 := ⟨by decide +kernel, rfl⟩
theorem iX1_melt_158 : xl_D mX1_melt 158 (.iload 5) 2 160 := ⟨by decide +kernel, rfl⟩
theorem iX1_melt_160 : xl_J mX1_melt 160 (fun o => .if_icmp .ge o) 163 175 := ⟨15, by decide +kernel, rfl, rfl⟩
theorem iX1_melt_163 : xl_D mX1_melt 163 (.aload_n 0) 1 164 := ⟨by decide +kernel, rfl⟩
theorem iX1_melt_164 : xl_D mX1_melt 164 (.iload 6) 2 166 := ⟨by decide +kernel, rfl⟩
theorem iX1_melt_166 : xl_Ca mX1_melt 166 mX1_swallowNext 169 := ⟨151, by decide +kernel, rfl, lX1_151, Nat.le_of_ble_eq_true rfl, Nat.le_of_ble_eq_true rfl⟩
theorem iX1_melt_169 : xl_D mX1_melt 169 (.iinc 7 1) 3 172 := ⟨by decide +kernel, rfl⟩
theorem iX1_melt_172 : xl_J mX1_melt 172 (fun o => .goto o) 175 156 := ⟨-16, by decide +kernel, rfl, rfl⟩
theorem iX1_melt_175 : xl_D mX1_melt 175 (.aload_n 0) 1 176 := ⟨by decide +kernel, rfl⟩
theorem iX1_melt_176 : xl_D mX1_melt 176 (.dup) 1 177 := ⟨by decide +kernel, rfl⟩
theorem iX1_melt_177 : xl_G mX1_melt 177 1 9 180 := ⟨67, by decide +kernel, rfl, fX1_67⟩
theorem iX1_melt_180 : xl_D mX1_melt 180 (.iload 5) 2 182 := ⟨by decide +kernel, rfl⟩
theorem iX1_melt_182 : xl_D mX1_melt 182 (.iconst 1) 1 183 := ⟨by decide +kernel, rfl⟩
theorem iX1_melt_183 : xl_J mX1_melt 183 (fun o => .if_icmp .le o) 186 190 := ⟨7, by decide +kernel, rfl, rfl⟩
theorem iX1_melt_186 : xl_D mX1_melt 186 (.iconst 1) 1 187 := ⟨by decide +kernel, rfl⟩
theorem iX1_melt_187 : xl_J mX1_melt 187 (fun o => .goto o) 190 191 := ⟨4, by decide +kernel, rfl, rfl⟩
theorem iX1_melt_190 : xl_D mX1_melt 190 (.iconst 0) 1 191 := ⟨by decide +kernel, rfl⟩
theorem iX1_melt_191 : xl_D mX1_melt 191 (.iadd) 1 192 := ⟨by decide +kernel, rfl⟩
theorem iX1_melt_192 : xl_P mX1_melt 192 1 9 .int 195 := ⟨67, by decide +kernel, rfl, wX1_67⟩
theorem iX1_melt_195 : xl_D mX1_melt 195 (.aload_n 0) 1 196 := ⟨by decide +kernel, rfl⟩
theorem iX1_melt_196 : xl_D mX1_melt 196 (.iload 6) 2 198 := ⟨by decide +kernel, rfl⟩
theorem iX1_melt_198 : xl_Ca mX1_melt 198 mX1_kindOfNew 201 := ⟨154, by decide +kernel, rfl, lX1_154, Nat.le_of_ble_eq_true rfl, Nat.le_of_ble_eq_true rfl⟩
theorem iX1_melt_201 : xl_D mX1_melt 201 (.istore 7) 2 203 := ⟨by decide +kernel, rfl⟩
theorem iX1_melt_203 : xl_D mX1_melt 203 (.iload 7) 2 205 := ⟨by decide +kernel, rfl⟩
theorem iX1_melt_205 : xl_J mX1_melt 205 (fun o => .ifCond .lt o) 208 216 := ⟨11, by decide +kernel, rfl, rfl⟩
theorem iX1_melt_208 : xl_D mX1_melt 208 (.aload_n 0) 1 209 := ⟨by decide +kernel, rfl⟩
theorem iX1_melt_209 : xl_D mX1_melt 209 (.iload 7) 2 211 := ⟨by decide +kernel, rfl⟩
theorem iX1_melt_211 : xl_D mX1_melt 211 (.iload 6) 2 213 := ⟨by decide +kernel, rfl⟩
theorem iX1_melt_213 : xl_Ca mX1_melt 213 mX1_announce 216 := ⟨157, by decide +kernel, rfl, lX1_157, Nat.le_of_ble_eq_true rfl, Nat.le_of_ble_eq_true rfl⟩
theorem iX1_melt_216 : xl_D mX1_melt 216 (.return_) 1 217 := ⟨by decide +kernel, rfl⟩
theorem iX1_placeFor_0 : xl_D mX1_placeFor 0 (.iconst 0) 1 1 := ⟨by decide +kernel, rfl⟩
theorem iX1_placeFor_1 : xl_D mX1_placeFor 1 (.istore_n 3) 1 2 := ⟨by decide +kernel, rfl⟩
theorem iX1_placeFor_2 : xl_D mX1_placeFor 2 (.iload_n 3) 1 3 := ⟨by decide +kernel, rfl⟩
theorem iX1_placeFor_3 : xl_D mX1_placeFor 3 (.aload_n 0) 1 4 := ⟨by decide +kernel, rfl⟩
theorem iX1_placeFor_4 : xl_G mX1_placeFor 4 1 11 7 := ⟨20, by decide +kernel, rfl, fX1_20⟩
theorem iX1_placeFor_7 : xl_G mX1_placeFor 7 0 3 10 := ⟨85, by decide +kernel, rfl, fX1_85⟩
theorem iX1_placeFor_10 : xl_J mX1_placeFor 10 (fun o => .if_icmp .ge o) 13 69 := ⟨59, by decide +kernel, rfl, rfl⟩
theorem iX1_placeFor_13 : xl_D mX1_placeFor 13 (.aload_n 0) 1 14 := ⟨by decide +kernel, rfl⟩
theorem iX1_placeFor_14 : xl_G mX1_placeFor 14 1 11 17 := ⟨20, by decide +kernel, rfl, fX1_20⟩
theorem iX1_placeFor_17 : xl_D mX1_placeFor 17 (.iload_n 3) 1 18 := ⟨by decide +kernel, rfl⟩
theorem iX1_placeFor_18 : xl_D mX1_placeFor 18 (.iconst 0) 1 19 := ⟨by decide +kernel, rfl⟩
theorem iX1_placeFor_19 : xl_Ca mX1_placeFor 19 mX0_get 22 := ⟨108, by decide +kernel, rfl, lX1_108, Nat.le_of_ble_eq_true rfl, Nat.le_of_ble_eq_true rfl⟩
theorem iX1_placeFor_22 : xl_D mX1_placeFor 22 (.istore 4) 2 24 := ⟨by decide +kernel, rfl⟩
theorem iX1_placeFor_24 : xl_D mX1_placeFor 24 (.iload 4) 2 26 := ⟨by decide +kernel, rfl⟩
theorem iX1_placeFor_26 : xl_D mX1_placeFor 26 (.iload_n 1) 1 27 := ⟨by decide +kernel, rfl⟩
theorem iX1_placeFor_27 : xl_J mX1_placeFor 27 (fun o => .if_icmp .ne o) 30 47 := ⟨20, by decide +kernel, rfl, rfl⟩
theorem iX1_placeFor_30 : xl_D mX1_placeFor 30 (.aload_n 0) 1 31 := ⟨by decide +kernel, rfl⟩
theorem iX1_placeFor_31 : xl_G mX1_placeFor 31 1 11 34 := ⟨20, by decide +kernel, rfl, fX1_20⟩
theorem iX1_placeFor_34 : xl_D mX1_placeFor 34 (.iload_n 3) 1 35 := ⟨by decide +kernel, rfl⟩
theorem iX1_placeFor_35 : xl_D mX1_placeFor 35 (.iconst 1) 1 36 := ⟨by decide +kernel, rfl⟩
theorem iX1_placeFor_36 : xl_Ca mX1_placeFor 36 mX0_get 39 := ⟨108, by decide +kernel, rfl, lX1_108, Nat.le_of_ble_eq_true rfl, Nat.le_of_ble_eq_true rfl⟩
theorem iX1_placeFor_39 : xl_D mX1_placeFor 39 (.iload_n 2) 1 40 := ⟨by decide +kernel, rfl⟩
theorem iX1_placeFor_40 : xl_J mX1_placeFor 40 (fun o => .if_icmp .le o) 43 47 := ⟨7, by decide +kernel, rfl, rfl⟩
theorem iX1_placeFor_43 : xl_D mX1_placeFor 43 (.iconst 1) 1 44 := ⟨by decide +kernel, rfl⟩
theorem iX1_placeFor_44 : xl_J mX1_placeFor 44 (fun o => .goto o) 47 48 := ⟨4, by decide +kernel, rfl, rfl⟩
theorem iX1_placeFor_47 : xl_D mX1_placeFor 47 (.iconst 0) 1 48 := ⟨by decide +kernel, rfl⟩
theorem iX1_placeFor_48 : xl_D mX1_placeFor 48 (.istore 5) 2 50 := ⟨by decide +kernel, rfl⟩
theorem iX1_placeFor_50 : xl_D mX1_placeFor 50 (.iload 4) 2 52 := ⟨by decide +kernel, rfl⟩
theorem iX1_placeFor_52 : xl_D mX1_placeFor 52 (.iload_n 1) 1 53 := ⟨by decide +kernel, rfl⟩
theorem iX1_placeFor_53 : xl_J mX1_placeFor 53 (fun o => .if_icmp .gt o) 56 61 := ⟨8, by decide +kernel, rfl, rfl⟩
theorem iX1_placeFor_56 : xl_D mX1_placeFor 56 (.iload 5) 2 58 := ⟨by decide +kernel, rfl⟩
theorem iX1_placeFor_58 : xl_J mX1_placeFor 58 (fun o => .ifCond .eq o) 61 63 := ⟨5, by decide +kernel, rfl, rfl⟩
theorem iX1_placeFor_61 : xl_D mX1_placeFor 61 (.iload_n 3) 1 62 := ⟨by decide +kernel, rfl⟩
theorem iX1_placeFor_62 : xl_D mX1_placeFor 62 (.ireturn) 1 63 := ⟨by decide +kernel, rfl⟩
theorem iX1_placeFor_63 : xl_D mX1_placeFor 63 (.iinc 3 1) 3 66 := ⟨by decide +kernel, rfl⟩
theorem iX1_placeFor_66 : xl_J mX1_placeFor 66 (fun o => .goto o) 69 2 := ⟨-64, by decide +kernel, rfl, rfl⟩
theorem iX1_placeFor_69 : xl_D mX1_placeFor 69 (.aload_n 0) 1 70 := ⟨by decide +kernel, rfl⟩
theorem iX1_placeFor_70 : xl_G mX1_placeFor 70 1 11 73 := ⟨20, by decide +kernel, rfl, fX1_20⟩
theorem iX1_placeFor_73 : xl_G mX1_placeFor 73 0 3 76 := ⟨85, by decide +kernel, rfl, fX1_85⟩
theorem iX1_placeFor_76 : xl_D mX1_placeFor 76 (.ireturn) 1 77 := ⟨by decide +kernel, rfl⟩
theorem iX1_swallowNext_0 : xl_D mX1_swallowNext 0 (.iload_n 1) 1 1 := ⟨by decide +kernel, rfl⟩
theorem iX1_swallowNext_1 : xl_D mX1_swallowNext 1 (.iconst 1) 1 2 := ⟨by decide +kernel, rfl⟩
theorem iX1_swallowNext_2 : xl_D mX1_swallowNext 2 (.iadd) 1 3 := ⟨by decide +kernel, rfl⟩
theorem iX1_swallowNext_3 : xl_D mX1_swallowNext 3 (.istore_n 2) 1 4 := ⟨by decide +kernel, rfl⟩
theorem iX1_swallowNext_4 : xl_D mX1_swallowNext 4 (.aload_n 0) 1 5 := ⟨by decide +kernel, rfl⟩
theorem iX1_swallowNext_5 : xl_G mX1_swallowNext 5 1 11 8 := ⟨20, by decide +kernel, rfl, fX1_20⟩
theorem iX1_swallowNext_8 : xl_D mX1_swallowNext 8 (.iload_n 1) 1 9 := ⟨by decide +kernel, rfl⟩
theorem iX1_swallowNext_9 : xl_D mX1_swallowNext 9 (.iconst 1) 1 10 := ⟨by decide +kernel, rfl⟩
theorem iX1_swallowNext_10 : xl_D mX1_swallowNext 10 (.aload_n 0) 1 11 := ⟨by decide +kernel, rfl⟩
theorem iX1_swallowNext_11 : xl_G mX1_swallowNext 11 1 11 14 := ⟨20, by decide +kernel, rfl, fX1_20⟩
theorem iX1_swallowNext_14 : xl_D mX1_swallowNext 14 (.iload_n 1) 1 15 := ⟨by decide +kernel, rfl⟩
theorem iX1_swallowNext_15 : xl_D mX1_swallowNext 15 (.iconst 1) 1 16 := ⟨by decide +kernel, rfl⟩
theorem iX1_swallowNext_16 : xl_Ca mX1_swallowNext 16 mX0_get 19 := ⟨108, by decide +kernel, rfl, lX1_108, Nat.le_of_ble_eq_true rfl, Nat.le_of_ble_eq_true rfl⟩
theorem iX1_swallowNext_19 : xl_D mX1_swallowNext 19 (.aload_n 0) 1 20 := ⟨by decide +kernel, rfl⟩
theorem iX1_swallowNext_20 : xl_G mX1_swallowNext 20 1 11 23 := ⟨20, by decide +kernel, rfl, fX1_20⟩
theorem iX1_swallowNext_23 : xl_D mX1_swallowNext 23 (.iload_n 2) 1 24 := ⟨by decide +kernel, rfl⟩
theorem iX1_swallowNext_24 : xl_D mX1_swallowNext 24 (.iconst 1) 1 25 := ⟨by decide +kernel, rfl⟩
theorem iX1_swallowNext_25 : xl_Ca mX1_swallowNext 25 mX0_get 28 := ⟨108, by decide +kernel, rfl, lX1_108, Nat.le_of_ble_eq_true rfl, Nat.le_of_ble_eq_true rfl⟩
theorem iX1_swallowNext_28 : xl_Cm mX1_swallowNext 28 Lib.Math.min.name Lib.Math.min.code 31 := ⟨131, by decide +kernel, rfl, lX1_131, xl_stmin, xl_iMath, xl_comin, Nat.le_of_ble_eq_true rfl, Nat.le_of_ble_eq_true rfl⟩
theorem iX1_swallowNext_31 : xl_Ca mX1_swallowNext 31 mX0_set 34 := ⟨77, by decide +kernel, rfl, lX1_77, Nat.le_of_ble_eq_true rfl, Nat.le_of_ble_eq_true rfl⟩
theorem iX1_swallowNext_34 : xl_D mX1_swallowNext 34 (.aload_n 0) 1 35 := ⟨by decide +kernel, rfl⟩
theorem iX1_swallowNext_35 : xl_G mX1_swallowNext 35 1 11 38 := ⟨20, by decide +kernel, rfl, fX1_20⟩
theorem iX1_swallowNext_38 : xl_D mX1_swallowNext 38 (.iload_n 1) 1 39 := ⟨by decide +kernel, rfl⟩
theorem iX1_swallowNext_39 : xl_D mX1_swallowNext 39 (.iconst 2) 1 40 := ⟨by decide +kernel, rfl⟩
theorem iX1_swallowNext_40 : xl_D mX1_swallowNext 40 (.aload_n 0) 1 41 := ⟨by decide +kernel, rfl⟩
theorem iX1_swallowNext_41 : xl_G mX1_swallowNext 41 1 11 44 := ⟨20, by decide +kernel, rfl, fX1_20⟩
theorem iX1_swallowNext_44 : xl_D mX1_swallowNext 44 (.iload_n 1) 1 45 := ⟨by decide +kernel, rfl⟩
theorem iX1_swallowNext_45 : xl_D mX1_swallowNext 45 (.iconst 2) 1 46 := ⟨by decide +kernel, rfl⟩
theorem iX1_swallowNext_46 : xl_Ca mX1_swallowNext 46 mX0_get 49 := ⟨108, by decide +kernel, rfl, lX1_108, Nat.le_of_ble_eq_true rfl, Nat.le_of_ble_eq_true rfl⟩
theorem iX1_swallowNext_49 : xl_D mX1_swallowNext 49 (.aload_n 0) 1 50 := ⟨by decide +kernel, rfl⟩
theorem iX1_swallowNext_50 : xl_G mX1_swallowNext 50 1 11 53 := ⟨20, by decide +kernel, rfl, fX1_20⟩
theorem iX1_swallowNext_53 : xl_D mX1_swallowNext 53 (.iload_n 2) 1 54 := ⟨by decide +kernel, rfl⟩
theorem iX1_swallowNext_54 : xl_D mX1_swallowNext 54 (.iconst 2) 1 55 := ⟨by decide +kernel, rfl⟩
theorem iX1_swallowNext_55 : xl_Ca mX1_swallowNext 55 mX0_get 58 := ⟨108, by decide +kernel, rfl, lX1_108, Nat.le_of_ble_eq_true rfl, Nat.le_of_ble_eq_true rfl⟩
theorem iX1_swallowNext_58 : xl_Cm mX1_swallowNext 58 Lib.Math.max.name Lib.Math.max.code 61 := ⟨88, by decide +kernel, rfl, lX1_88, xl_stmax, xl_iMath, xl_comax, Nat.le_of_ble_eq_true rfl, Nat.le_of_ble_eq_true rfl⟩
theorem iX1_swallowNext_61 : xl_Ca mX1_swallowNext 61 mX0_set 64 := ⟨77, by decide +kernel, rfl, lX1_77, Nat.le_of_ble_eq_true rfl, Nat.le_of_ble_eq_true rfl⟩
theorem iX1_swallowNext_64 : xl_D mX1_swallowNext 64 (.aload_n 0) 1 65 := ⟨by decide +kernel, rfl⟩
theorem iX1_swallowNext_65 : xl_G mX1_swallowNext 65 1 11 68 := ⟨20, by decide +kernel, rfl, fX1_20⟩
theorem iX1_swallowNext_68 : xl_D mX1_swallowNext 68 (.iload_n 1) 1 69 := ⟨by decide +kernel, rfl⟩
theorem iX1_swallowNext_69 : xl_D mX1_swallowNext 69 (.iconst 3) 1 70 := ⟨by decide +kernel, rfl⟩
theorem iX1_swallowNext_70 : xl_D mX1_swallowNext 70 (.aload_n 0) 1 71 := ⟨by decide +kernel, rfl⟩
theorem iX1_swallowNext_71 : xl_G mX1_swallowNext 71 1 11 74 := ⟨20, by decide +kernel, rfl, fX1_20⟩
theorem iX1_swallowNext_74 : xl_D mX1_swallowNext 74 (.iload_n 2) 1 75 := ⟨by decide +kernel, rfl⟩
theorem iX1_swallowNext_75 : xl_D mX1_swallowNext 75 (.iconst 3) 1 76 := ⟨by decide +kernel, rfl⟩
theorem iX1_swallowNext_76 : xl_Ca mX1_swallowNext 76 mX0_get 79 := ⟨108, by decide +kernel, rfl, lX1_108, Nat.le_of_ble_eq_true rfl, Nat.le_of_ble_eq_true rfl⟩
theorem iX1_swallowNext_79 : xl_Ca mX1_swallowNext 79 mX0_add 82 := ⟨115, by decide +kernel, rfl, lX1_115, Nat.le_of_ble_eq_true rfl, Nat.le_of_ble_eq_true rfl⟩
theorem iX1_swallowNext_82 : xl_D mX1_swallowNext 82 (.aload_n 0) 1 83 := ⟨by decide +kernel, rfl⟩
theorem iX1_swallowNext_83 : xl_G mX1_swallowNext 83 1 11 86 := ⟨20, by decide +kernel, rfl, fX1_20⟩
theorem iX1_swallowNext_86 : xl_D mX1_swallowNext 86 (.iload_n 1) 1 87 := ⟨by decide +kernel, rfl⟩
theorem iX1_swallowNext_87 : xl_D mX1_swallowNext 87 (.iconst 4) 1 88 := ⟨by decide +kernel, rfl⟩
theorem iX1_swallowNext_88 : xl_D mX1_swallowNext 88 (.aload_n 0) 1 89 := ⟨by decide +kernel, rfl⟩
theorem iX1_swallowNext_89 : xl_G mX1_swallowNext 89 1 11 92 := ⟨20, by decide +kernel, rfl, fX1_20⟩
theorem iX1_swallowNext_92 : xl_D mX1_swallowNext 92 (.iload_n 2) 1 93 := ⟨by decide +kernel, rfl⟩
theorem iX1_swallowNext_93 : xl_D mX1_swallowNext 93 (.iconst 4) 1 94 := ⟨by decide +kernel, rfl⟩
theorem iX1_swallowNext_94 : xl_Ca mX1_swallowNext 94 mX0_get 97 := ⟨108, by decide +kernel, rfl, lX1_108, Nat.le_of_ble_eq_true rfl, Nat.le_of_ble_eq_true rfl⟩
theorem iX1_swallowNext_97 : xl_Ca mX1_swallowNext 97 mX0_add 100 := ⟨115, by decide +kernel, rfl, lX1_115, Nat.le_of_ble_eq_true rfl, Nat.le_of_ble_eq_true rfl⟩
theorem iX1_swallowNext_100 : xl_D mX1_swallowNext 100 (.aload_n 0) 1 101 := ⟨by decide +kernel, rfl⟩
theorem iX1_swallowNext_101 : xl_G mX1_swallowNext 101 1 11 104 := ⟨20, by decide +kernel, rfl, fX1_20⟩
theorem iX1_swallowNext_104 : xl_D mX1_swallowNext 104 (.iload_n 1) 1 105 := ⟨by decide +kernel, rfl⟩
theorem iX1_swallowNext_105 : xl_D mX1_swallowNext 105 (.iconst 5) 1 106 := ⟨by decide +kernel, rfl⟩
theorem iX1_swallowNext_106 : xl_D mX1_swallowNext 106 (.aload_n 0) 1 107 := ⟨by decide +kernel, rfl⟩
theorem iX1_swallowNext_107 : xl_G mX1_swallowNext 107 1 11 110 := ⟨20, by decide +kernel, rfl, fX1_20⟩
theorem iX1_swallowNext_110 : xl_D mX1_swallowNext 110 (.iload_n 1) 1 111 := ⟨by decide +kernel, rfl⟩
theorem iX1_swallowNext_111 : xl_D mX1_swallowNext 111 (.iconst 5) 1 112 := ⟨by decide +kernel, rfl⟩
theorem iX1_swallowNext_112 : xl_Ca mX1_swallowNext 112 mX0_get 115 := ⟨108, by decide +kernel, rfl, lX1_108, Nat.le_of_ble_eq_true rfl, Nat.le_of_ble_eq_true rfl⟩
theorem iX1_swallowNext_115 : xl_D mX1_swallowNext 115 (.aload_n 0) 1 116 := ⟨by decide +kernel, rfl⟩
theorem iX1_swallowNext_116 : xl_G mX1_swallowNext 116 1 11 119 := ⟨20, by decide +kernel, rfl, fX1_20⟩
theorem iX1_swallowNext_119 : xl_D mX1_swallowNext 119 (.iload_n 2) 1 120 := ⟨by decide +kernel, rfl⟩
theorem iX1_swallowNext_120 : xl_D mX1_swallowNext 120 (.iconst 5) 1 121 := ⟨by decide +kernel, rfl⟩
theorem iX1_swallowNext_121 : xl_Ca mX1_swallowNext 121 mX0_get 124 := ⟨108, by decide +kernel, rfl, lX1_108, Nat.le_of_ble_eq_true rfl, Nat.le_of_ble_eq_true rfl⟩
theorem iX1_swallowNext_124 : xl_Cm mX1_swallowNext 124 Lib.Math.max.name Lib.Math.max.code 127 := ⟨88, by decide +kernel, rfl, lX1_88, xl_stmax, xl_iMath, xl_comax, Nat.le_of_ble_eq_true rfl, Nat.le_of_ble_eq_true rfl⟩
theorem iX1_swallowNext_127 : xl_Ca mX1_swallowNext 127 mX0_set 130 := ⟨77, by decide +kernel, rfl, lX1_77, Nat.le_of_ble_eq_true rfl, Nat.le_of_ble_eq_true rfl⟩
theorem iX1_swallowNext_130 : xl_D mX1_swallowNext 130 (.aload_n 0) 1 131 := ⟨by decide +kernel, rfl⟩
theorem iX1_swallowNext_131 : xl_G mX1_swallowNext 131 1 11 134 := ⟨20, by decide +kernel, rfl, fX1_20⟩
theorem iX1_swallowNext_134 : xl_D mX1_swallowNext 134 (.iload_n 2) 1 135 := ⟨by decide +kernel, rfl⟩
theorem iX1_swallowNext_135 : xl_Ca mX1_swallowNext 135 mX0_drop 138 := ⟨160, by decide +kernel, rfl, lX1_160, Nat.le_of_ble_eq_true rfl, Nat.le_of_ble_eq_true rfl⟩
theorem iX1_swallowNext_138 : xl_D mX1_swallowNext 138 (.return_) 1 139 := ⟨by decide +kernel, rfl⟩
theorem iX1_kindOfNew_0 : xl_D mX1_kindOfNew 0 (.aload_n 0) 1 1 := ⟨by decide +kernel, rfl⟩
theorem iX1_kindOfNew_1 : xl_D mX1_kindOfNew 1 (.iload_n 1) 1 2 := ⟨by decide +kernel, rfl⟩
theorem iX1_kindOfNew_2 : xl_D mX1_kindOfNew 2 (.aload_n 0) 1 3 := ⟨by decide +kernel, rfl⟩
theorem iX1_kindOfNew_3 : xl_G mX1_kindOfNew 3 1 3 6 := ⟨49, by decide +kernel, rfl, fX1_49⟩
theorem iX1_kindOfNew_6 : xl_Ca mX1_kindOfNew 6 mX1_isRipe 9 := ⟨127, by decide +kernel, rfl, lX1_127, Nat.le_of_ble_eq_true rfl, Nat.le_of_ble_eq_true rfl⟩
theorem iX1_kindOfNew_9 : xl_J mX1_kindOfNew 9 (fun o => .ifCond .eq o) 12 14 := ⟨5, by decide +kernel, rfl, rfl⟩
theorem iX1_kindOfNew_12 : xl_D mX1_kindOfNew 12 (.iconst 2) 1 13 := ⟨by decide +kernel, rfl⟩
theorem iX1_kindOfNew_13 : xl_D mX1_kindOfNew 13 (.ireturn) 1 14 := ⟨by decide +kernel, rfl⟩
theorem iX1_kindOfNew_14 : xl_D mX1_kindOfNew 14 (.aload_n 0) 1 15 := ⟨by decide +kernel, rfl⟩
theorem iX1_kindOfNew_15 : xl_G mX1_kindOfNew 15 1 2 18 := ⟨46, by decide +kernel, rfl, fX1_46⟩
theorem iX1_kindOfNew_18 : xl_J mX1_kindOfNew 18 (fun o => .ifCond .le o) 21 42 := ⟨24, by decide +kernel, rfl, rfl⟩
theorem iX1_kindOfNew_21 : xl_D mX1_kindOfNew 21 (.aload_n 0) 1 22 := ⟨by decide +kernel, rfl⟩
theorem iX1_kindOfNew_22 : xl_G mX1_kindOfNew 22 1 11 25 := ⟨20, by decide +kernel, rfl, fX1_20⟩
theorem iX1_kindOfNew_25 : xl_D mX1_kindOfNew 25 (.iload_n 1) 1 26 := ⟨by decide +kernel, rfl⟩
theorem iX1_kindOfNew_26 : xl_D mX1_kindOfNew 26 (.iconst 3) 1 27 := ⟨by decide +kernel, rfl⟩
theorem iX1_kindOfNew_27 : xl_Ca mX1_kindOfNew 27 mX0_get 30 := ⟨108, by decide +kernel, rfl, lX1_108, Nat.le_of_ble_eq_true rfl, Nat.le_of_ble_eq_true rfl⟩
theorem iX1_kindOfNew_30 : xl_D mX1_kindOfNew 30 (.aload_n 0) 1 31 := ⟨by decide +kernel, rfl⟩
theorem iX1_kindOfNew_31 : xl_G mX1_kindOfNew 31 1 2 34 := ⟨46, by decide +kernel, rfl, fX1_46⟩
theorem iX1_kindOfNew_34 : xl_D mX1_kindOfNew 34 (.irem) 1 35 := ⟨by decide +kernel, rfl⟩
theorem iX1_kindOfNew_35 : xl_J mX1_kindOfNew 35 (fun o => .ifCond .ne o) 38 42 := ⟨7, by decide +kernel, rfl, rfl⟩
theorem iX1_kindOfNew_38 : xl_D mX1_kindOfNew 38 (.iconst 1) 1 39 := ⟨by decide +kernel, rfl⟩
theorem iX1_kindOfNew_39 : xl_J mX1_kindOfNew 39 (fun o => .goto o) 42 43 := ⟨4, by decide +kernel, rfl, rfl⟩
theorem iX1_kindOfNew_42 : xl_D mX1_kindOfNew 42 (.iconst 0) 1 43 := ⟨by decide +kernel, rfl⟩
theorem iX1_kindOfNew_43 : xl_D mX1_kindOfNew 43 (.istore_n 2) 1 44 := ⟨by decide +kernel, rfl⟩
theorem iX1_kindOfNew_44 : xl_D mX1_kindOfNew 44 (.iload_n 2) 1 45 := ⟨by decide +kernel, rfl⟩
theorem iX1_kindOfNew_45 : xl_J mX1_kindOfNew 45 (fun o => .ifCond .eq o) 48 52 := ⟨7, by decide +kernel, rfl, rfl⟩
theorem iX1_kindOfNew_48 : xl_D mX1_kindOfNew 48 (.iconst 0) 1 49 := ⟨by decide +kernel, rfl⟩
theorem iX1_kindOfNew_49 : xl_J mX1_kindOfNew 49 (fun o => .goto o) 52 53 := ⟨4, by decide +kernel, rfl, rfl⟩
theorem iX1_kindOfNew_52 : xl_D mX1_kindOfNew 52 (.iconst (-1)) 1 53 := ⟨by decide +kernel, rfl⟩
theorem iX1_kindOfNew_53 : xl_D mX1_kindOfNew 53 (.ireturn) 1 54 := ⟨by decide +kernel, rfl⟩
theorem iX1_rise_0 : xl_D mX1_rise 0 (.aload_n 0) 1 1 := ⟨by decide +kernel, rfl⟩
theorem iX1_rise_1 : xl_G mX1_rise 1 1 3 4 := ⟨49, by decide +kernel, rfl, fX1_49⟩
theorem iX1_rise_4 : xl_D mX1_rise 4 (.istore_n 1) 1 5 := ⟨by decide +kernel, rfl⟩
theorem iX1_rise_5 : xl_D mX1_rise 5 (.aload_n 0) 1 6 := ⟨by decide +kernel, rfl⟩
theorem iX1_rise_6 : xl_D mX1_rise 6 (.iconst (-1)) 1 7 := ⟨by decide +kernel, rfl⟩
theorem iX1_rise_7 : xl_Ca mX1_rise 7 mX1_leastMark 10 := ⟨163, by decide +kernel, rfl, lX1_163, Nat.le_of_ble_eq_true rfl, Nat.le_of_ble_eq_true rfl⟩
theorem iX1_rise_10 : xl_D mX1_rise 10 (.istore_n 2) 1 11 := ⟨by decide +kernel, rfl⟩
theorem iX1_rise_11 : xl_D mX1_rise 11 (.iload_n 2) 1 12 := ⟨by decide +kernel, rfl⟩
theorem iX1_rise_12 : xl_D mX1_rise 12 (.iload_n 1) 1 13 := ⟨by decide +kernel, rfl⟩
theorem iX1_rise_13 : xl_J mX1_rise 13 (fun o => .if_icmp .gt o) 16 17 := ⟨4, by decide +kernel, rfl, rfl⟩
theorem iX1_rise_16 : xl_D mX1_rise 16 (.return_) 1 17 := ⟨by decide +kernel, rfl⟩
theorem iX1_rise_17 : xl_D mX1_rise 17 (.aload_n 0) 1 18 := ⟨by decide +kernel, rfl⟩
theorem iX1_rise_18 : xl_D mX1_rise 18 (.iload_n 2) 1 19 := ⟨by decide +kernel, rfl⟩
theorem iX1_rise_19 : xl_P mX1_rise 19 1 3 .int 22 := ⟨49, by decide +kernel, rfl, wX1_49⟩
theorem iX1_rise_22 : xl_D mX1_rise 22 (.iconst (-1)) 1 23 := ⟨by decide +kernel, rfl⟩
theorem iX1_rise_23 : xl_D mX1_rise 23 (.istore_n 3) 1 24 := ⟨by decide +kernel, rfl⟩
theorem iX1_rise_24 : xl_D mX1_rise 24 (.aload_n 0) 1 25 := ⟨by decide +kernel, rfl⟩
theorem iX1_rise_25 : xl_G mX1_rise 25 1 11 28 := ⟨20, by decide +kernel, rfl, fX1_20⟩
theorem iX1_rise_28 : xl_G mX1_rise 28 0 3 31 := ⟨85, by decide +kernel, rfl, fX1_85⟩
theorem iX1_rise_31 : xl_D mX1_rise 31 (.istore 4) 2 33 := ⟨by decide +kernel, rfl⟩
theorem iX1_rise_33 : xl_D mX1_rise 33 (.iload 4) 2 35 := ⟨by decide +kernel, rfl⟩
theorem iX1_rise_35 : xl_J mX1_rise 35 (fun o => .ifCond .le o) 38 107 := ⟨72, by decide +kernel, rfl, rfl⟩
theorem iX1_rise_38 : xl_D mX1_rise 38 (.aload_n 0) 1 39 := ⟨by decide +kernel, rfl⟩
theorem iX1_rise_39 : xl_D mX1_rise 39 (.iload_n 3) 1 40 := ⟨by decide +kernel, rfl⟩
theorem iX1_rise_40 : xl_D mX1_rise 40 (.iload_n 1) 1 41 := ⟨by decide +kernel, rfl⟩
theorem iX1_rise_41 : xl_Ca mX1_rise 41 mX1_dueBehind 44 := ⟨166, by decide +kernel, rfl, lX1_166, Nat.le_of_ble_eq_true rfl, Nat.le_of_ble_eq_true rfl⟩
theorem iX1_rise_44 : xl_D mX1_rise 44 (.istore 5) 2 46 := ⟨by decide +kernel, rfl⟩
theorem iX1_rise_46 : xl_D mX1_rise 46 (.iload 5) 2 48 := ⟨by decide +kernel, rfl⟩
theorem iX1_rise_48 : xl_J mX1_rise 48 (fun o => .ifCond .ge o) 51 52 := ⟨4, by decide +kernel, rfl, rfl⟩
theorem iX1_rise_51 : xl_D mX1_rise 51 (.return_) 1 52 := ⟨by decide +kernel, rfl⟩
theorem iX1_rise_52 : xl_D mX1_rise 52 (.aload_n 0) 1 53 := ⟨by decide +kernel, rfl⟩
theorem iX1_rise_53 : xl_D mX1_rise 53 (.iload 5) 2 55 := ⟨by decide +kernel, rfl⟩
theorem iX1_rise_55 : xl_Ca mX1_rise 55 mX1_turnOf 58 := ⟨169, by decide +kernel, rfl, lX1_169, Nat.le_of_ble_eq_true rfl, Nat.le_of_ble_eq_true rfl⟩
theorem iX1_rise_58 : xl_D mX1_rise 58 (.istore_n 3) 1 59 := ⟨by decide +kernel, rfl⟩
theorem iX1_rise_59 : xl_D mX1_rise 59 (.aload_n 0) 1 60 := ⟨by decide +kernel, rfl⟩
theorem iX1_rise_60 : xl_D mX1_rise 60 (.iload 5) 2 62 := ⟨by decide +kernel, rfl⟩
theorem iX1_rise_62 : xl_D mX1_rise 62 (.iload_n 1) 1 63 := ⟨by decide +kernel, rfl⟩
theorem iX1_rise_63 : xl_Ca mX1_rise 63 mX1_isRipe 66 := ⟨127, by decide +kernel, rfl, lX1_127, Nat.le_of_ble_eq_true rfl, Nat.le_of_ble_eq_true rfl⟩
theorem iX1_rise_66 : xl_J mX1_rise 66 (fun o => .ifCond .ne o) 69 82 := ⟨16, by decide +kernel, rfl, rfl⟩
theorem iX1_rise_69 : xl_D mX1_rise 69 (.aload_n 0) 1 70 := ⟨by decide +kernel, rfl⟩
theorem iX1_rise_70 : xl_D mX1_rise 70 (.iload 5) 2 72 := ⟨by decide +kernel, rfl⟩
theorem iX1_rise_72 : xl_Ca mX1_rise 72 mX1_takeBack 75 := ⟨148, by decide +kernel, rfl, lX1_148, Nat.le_of_ble_eq_true rfl, Nat.le_of_ble_eq_true rfl⟩
theorem iX1_rise_75 : xl_D mX1_rise 75 (.aload_n 0) 1 76 := ⟨by decide +kernel, rfl⟩
theorem iX1_rise_76 : xl_D mX1_rise 76 (.iconst 1) 1 77 := ⟨by decide +kernel, rfl⟩
theorem iX1_rise_77 : xl_D mX1_rise 77 (.iload 5) 2 79 := ⟨by decide +kernel, rfl⟩
theorem iX1_rise_79 : xl_Ca mX1_rise 79 mX1_announce 82 := ⟨157, by decide +kernel, rfl, lX1_157, Nat.le_of_ble_eq_true rfl, Nat.le_of_ble_eq_true rfl⟩
theorem iX1_rise_82 : xl_D mX1_rise 82 (.aload_n 0) 1 83 := ⟨by decide +kernel, rfl⟩
theorem iX1_rise_83 : xl_D mX1_rise 83 (.iload 5) 2 85 := ⟨by decide +kernel, rfl⟩
theorem iX1_rise_85 : xl_D mX1_rise 85 (.aload_n 0) 1 86 := ⟨by decide +kernel, rfl⟩
theorem iX1_rise_86 : xl_G mX1_rise 86 1 3 89 := ⟨49, by decide +kernel, rfl, fX1_49⟩
theorem iX1_rise_89 : xl_Ca mX1_rise 89 mX1_isOver 92 := ⟨172, by decide +kernel, rfl, lX1_172, Nat.le_of_ble_eq_true rfl, Nat.le_of_ble_eq_true rfl⟩
theorem iX1_rise_92 : xl_J mX1_rise 92 (fun o => .ifCond .eq o) 95 101 := ⟨9, by decide +kernel, rfl, rfl⟩
theorem iX1_rise_95 : xl_D mX1_rise 95 (.aload_n 0) 1 96 := ⟨by decide +kernel, rfl⟩
theorem iX1_rise_96 : xl_D mX1_rise 96 (.iload 5) 2 98 := ⟨by decide +kernel, rfl⟩
theorem iX1_rise_98 : xl_Ca mX1_rise 98 mX1_finish 101 := ⟨175, by decide +kernel, rfl, lX1_175, Nat.le_of_ble_eq_true rfl, Nat.le_of_ble_eq_true rfl⟩
theorem iX1_rise_101 : xl_D mX1_rise 101 (.iinc 4 (-1)) 3 104 := ⟨by decide +kernel, rfl⟩
theorem iX1_rise_104 : xl_J mX1_rise 104 (fun o => .goto o) 107 33 := ⟨-71, by decide +kernel, rfl, rfl⟩
theorem iX1_rise_107 : xl_D mX1_rise 107 (.return_) 1 108 := ⟨by decide +kernel, rfl⟩
theorem iX1_turnOf_0 : xl_D mX1_turnOf 0 (.aload_n 0) 1 1 := ⟨by decide +kernel, rfl⟩
theorem iX1_turnOf_1 : xl_G mX1_turnOf 1 1 11 4 := ⟨20, by decide +kernel, rfl, fX1_20⟩
theorem iX1_turnOf_4 : xl_D mX1_turnOf 4 (.iload_n 1) 1 5 := ⟨by decide +kernel, rfl⟩
theorem iX1_turnOf_5 : xl_D mX1_turnOf 5 (.iconst 2) 1 6 := ⟨by decide +kernel, rfl⟩
theorem iX1_turnOf_6 : xl_Ca mX1_turnOf 6 mX0_get 9 := ⟨108, by decide +kernel, rfl, lX1_108, Nat.le_of_ble_eq_true rfl, Nat.le_of_ble_eq_true rfl⟩
theorem iX1_turnOf_9 : xl_D mX1_turnOf 9 (.bipush 6) 2 11 := ⟨by decide +kernel, rfl⟩
theorem iX1_turnOf_11 : xl_D mX1_turnOf 11 (.imul) 1 12 := ⟨by decide +kernel, rfl⟩
theorem iX1_turnOf_12 : xl_D mX1_turnOf 12 (.aload_n 0) 1 13 := ⟨by decide +kernel, rfl⟩
theorem iX1_turnOf_13 : xl_G mX1_turnOf 13 1 11 16 := ⟨20, by decide +kernel, rfl, fX1_20⟩
theorem iX1_turnOf_16 : xl_D mX1_turnOf 16 (.iload_n 1) 1 17 := ⟨by decide +kernel, rfl⟩
theorem iX1_turnOf_17 : xl_D mX1_turnOf 17 (.iconst 0) 1 18 := ⟨by decide +kernel, rfl⟩
theorem iX1_turnOf_18 : xl_Ca mX1_turnOf 18 mX0_get 21 := ⟨108, by decide +kernel, rfl, lX1_108, Nat.le_of_ble_eq_true rfl, Nat.le_of_ble_eq_true rfl⟩
theorem iX1_turnOf_21 : xl_D mX1_turnOf 21 (.iadd) 1 22 := ⟨by decide +kernel, rfl⟩
theorem iX1_turnOf_22 : xl_D mX1_turnOf 22 (.ireturn) 1 23 := ⟨by decide +kernel, rfl⟩
theorem iX1_dueBehind_0 : xl_D mX1_dueBehind 0 (.iconst (-1)) 1 1 := ⟨by decide +kernel, rfl⟩
theorem iX1_dueBehind_1 : xl_D mX1_dueBehind 1 (.istore_n 3) 1 2 := ⟨by decide +kernel, rfl⟩
theorem iX1_dueBehind_2 : xl_D mX1_dueBehind 2 (.iconst 0) 1 3 := ⟨by decide +kernel, rfl⟩
theorem iX1_dueBehind_3 : xl_D mX1_dueBehind 3 (.istore 4) 2 5 := ⟨by decide +kernel, rfl⟩
theorem iX1_dueBehind_5 : xl_D mX1_dueBehind 5 (.iconst 0) 1 6 := ⟨by decide +kernel, rfl⟩
theorem iX1_dueBehind_6 : xl_D mX1_dueBehind 6 (.istore 5) 2 8 := ⟨by decide +kernel, rfl⟩
theorem iX1_dueBehind_8 : xl_D mX1_dueBehind 8 (.iload 5) 2 10 := ⟨by decide +kernel, rfl⟩
theorem iX1_dueBehind_10 : xl_D mX1_dueBehind 10 (.aload_n 0) 1 11 := ⟨by decide +kernel, rfl⟩
theorem iX1_dueBehind_11 : xl_G mX1_dueBehind 11 1 11 14 := ⟨20, by decide +kernel, rfl, fX1_20⟩
theorem iX1_dueBehind_14 : xl_G mX1_dueBehind 14 0 3 17 := ⟨85, by decide +kernel, rfl, fX1_85⟩
theorem iX1_dueBehind_17 : xl_J mX1_dueBehind 17 (fun o => .if_icmp .ge o) 20 97 := ⟨80, by decide +kernel, rfl, rfl⟩
theorem iX1_dueBehind_20 : xl_D mX1_dueBehind 20 (.aload_n 0) 1 21 := ⟨by decide +kernel, rfl⟩
theorem iX1_dueBehind_21 : xl_D mX1_dueBehind 21 (.iload 5) 2 23 := ⟨by decide +kernel, rfl⟩
theorem iX1_dueBehind_23 : xl_D mX1_dueBehind 23 (.aload_n 0) 1 24 := ⟨by decide +kernel, rfl⟩
theorem iX1_dueBehind_24 : xl_G mX1_dueBehind 24 1 3 27 := ⟨49, by decide +kernel, rfl, fX1_49⟩
theorem iX1_dueBehind_27 : xl_Ca mX1_dueBehind 27 mX1_isRipe 30 := ⟨127, by decide +kernel, rfl, lX1_127, Nat.le_of_ble_eq_true rfl, Nat.le_of_ble_eq_true rfl⟩
theorem iX1_dueBehind_30 : xl_J mX1_dueBehind 30 (fun o => .ifCond .eq o) 33 91 := ⟨61, by decide +kernel, rfl, rfl⟩
theorem iX1_dueBehind_33 : xl_D mX1_dueBehind 33 (.aload_n 0) 1 34 := ⟨by decide +kernel, rfl⟩
theorem iX1_dueBehind_34 : xl_D mX1_dueBehind 34 (.iload 5) 2 36 := ⟨by decide +kernel, rfl⟩
theorem iX1_dueBehind_36 : xl_D mX1_dueBehind 36 (.iload_n 2) 1 37 := ⟨by decide +kernel, rfl⟩
theorem iX1_dueBehind_37 : xl_Ca mX1_dueBehind 37 mX1_isRipe 40 := ⟨127, by decide +kernel, rfl, lX1_127, Nat.le_of_ble_eq_true rfl, Nat.le_of_ble_eq_true rfl⟩
theorem iX1_dueBehind_40 : xl_J mX1_dueBehind 40 (fun o => .ifCond .eq o) 43 59 := ⟨19, by decide +kernel, rfl, rfl⟩
theorem iX1_dueBehind_43 : xl_D mX1_dueBehind 43 (.aload_n 0) 1 44 := ⟨by decide +kernel, rfl⟩
theorem iX1_dueBehind_44 : xl_D mX1_dueBehind 44 (.iload 5) 2 46 := ⟨by decide +kernel, rfl⟩
theorem iX1_dueBehind_46 : xl_D mX1_dueBehind 46 (.aload_n 0) 1 47 := ⟨by decide +kernel, rfl⟩
theorem iX1_dueBehind_47 : xl_G mX1_dueBehind 47 1 3 50 := ⟨49, by decide +kernel, rfl, fX1_49⟩
theorem iX1_dueBehind_50 : xl_Ca mX1_dueBehind 50 mX1_isOver 53 := ⟨172, by decide +kernel, rfl, lX1_172, Nat.le_of_ble_eq_true rfl, Nat.le_of_ble_eq_true rfl⟩
theorem iX1_dueBehind_53 : xl_J mX1_dueBehind 53 (fun o => .ifCond .ne o) 56 59 := ⟨6, by decide +kernel, rfl, rfl⟩
theorem iX1_dueBehind_56 : xl_J mX1_dueBehind 56 (fun o => .goto o) 59 91 := ⟨35, by decide +kernel, rfl, rfl⟩
theorem iX1_dueBehind_59 : xl_D mX1_dueBehind 59 (.aload_n 0) 1 60 := ⟨by decide +kernel, rfl⟩
theorem iX1_dueBehind_60 : xl_D mX1_dueBehind 60 (.iload 5) 2 62 := ⟨by decide +kernel, rfl⟩
theorem iX1_dueBehind_62 : xl_Ca mX1_dueBehind 62 mX1_turnOf 65 := ⟨169, by decide +kernel, rfl, lX1_169, Nat.le_of_ble_eq_true rfl, Nat.le_of_ble_eq_true rfl⟩
theorem iX1_dueBehind_65 : xl_D mX1_dueBehind 65 (.istore 6) 2 67 := ⟨by decide +kernel, rfl⟩
theorem iX1_dueBehind_67 : xl_D mX1_dueBehind 67 (.iload 6) 2 69 := ⟨by decide +kernel, rfl⟩
theorem iX1_dueBehind_69 : xl_D mX1_dueBehind 69 (.iload_n 1) 1 70 := ⟨by decide +kernel, rfl⟩
theorem iX1_dueBehind_70 : xl_J mX1_dueBehind 70 (fun o => .if_icmp .le o) 73 91 := ⟨21, by decide +kernel, rfl, rfl⟩
theorem iX1_dueBehind_73 : xl_D mX1_dueBehind 73 (.iload_n 3) 1 74 := ⟨by decide +kernel, rfl⟩
theorem iX1_dueBehind_74 : xl_J mX1_dueBehind 74 (fun o => .ifCond .lt o) 77 84 := ⟨10, by decide +kernel, rfl, rfl⟩
theorem iX1_dueBehind_77 : xl_D mX1_dueBehind 77 (.iload 6) 2 79 := ⟨by decide +kernel, rfl⟩
theorem iX1_dueBehind_79 : xl_D mX1_dueBehind 79 (.iload 4) 2 81 := ⟨by decide +kernel, rfl⟩
theorem iX1_dueBehind_81 : xl_J mX1_dueBehind 81 (fun o => .if_icmp .ge o) 84 91 := ⟨10, by decide +kernel, rfl, rfl⟩
theorem iX1_dueBehind_84 : xl_D mX1_dueBehind 84 (.iload 5) 2 86 := ⟨by decide +kernel, rfl⟩
theorem iX1_dueBehind_86 : xl_D mX1_dueBehind 86 (.istore_n 3) 1 87 := ⟨by decide +kernel, rfl⟩
theorem iX1_dueBehind_87 : xl_D mX1_dueBehind 87 (.iload 6) 2 89 := ⟨by decide +kernel, rfl⟩
theorem iX1_dueBehind_89 : xl_D mX1_dueBehind 89 (.istore 4) 2 91 := ⟨by decide +kernel, rfl⟩
theorem iX1_dueBehind_91 : xl_D mX1_dueBehind 91 (.iinc 5 1) 3 94 := ⟨by decide +kernel, rfl⟩
theorem iX1_dueBehind_94 : xl_J mX1_dueBehind 94 (fun o => .goto o) 97 8 := ⟨-86, by decide +kernel, rfl, rfl⟩
theorem iX1_dueBehind_97 : xl_D mX1_dueBehind 97 (.iload_n 3) 1 98 := ⟨by decide +kernel, rfl⟩
theorem iX1_dueBehind_98 : xl_D mX1_dueBehind 98 (.ireturn) 1 99 := ⟨by decide +kernel, rfl⟩
theorem iX1_finish_0 : xl_D mX1_finish 0 (.aload_n 0) 1 1 := ⟨by decide +kernel, rfl⟩
theorem iX1_finish_1 : xl_G mX1_finish 1 1 5 4 := ⟨55, by decide +kernel, rfl, fX1_55⟩
theorem iX1_finish_4 : xl_D mX1_finish 4 (.bipush 40) 2 6 := ⟨by decide +kernel, rfl⟩
theorem iX1_finish_6 : xl_D mX1_finish 6 (.irem) 1 7 := ⟨by decide +kernel, rfl⟩
theorem iX1_finish_7 : xl_D mX1_finish 7 (.istore_n 2) 1 8 := ⟨by decide +kernel, rfl⟩
theorem iX1_finish_8 : xl_D mX1_finish 8 (.aload_n 0) 1 9 := ⟨by decide +kernel, rfl⟩
theorem iX1_finish_9 : xl_G mX1_finish 9 1 13 12 := ⟨26, by decide +kernel, rfl, fX1_26⟩
theorem iX1_finish_12 : xl_D mX1_finish 12 (.iload_n 2) 1 13 := ⟨by decide +kernel, rfl⟩
theorem iX1_finish_13 : xl_Ca mX1_finish 13 mX0_reach 16 := ⟨178, by decide +kernel, rfl, lX1_178, Nat.le_of_ble_eq_true rfl, Nat.le_of_ble_eq_true rfl⟩
theorem iX1_finish_16 : xl_D mX1_finish 16 (.aload_n 0) 1 17 := ⟨by decide +kernel, rfl⟩
theorem iX1_finish_17 : xl_G mX1_finish 17 1 13 20 := ⟨26, by decide +kernel, rfl, fX1_26⟩
theorem iX1_finish_20 : xl_D mX1_finish 20 (.iload_n 2) 1 21 := ⟨by decide +kernel, rfl⟩
theorem iX1_finish_21 : xl_D mX1_finish 21 (.aload_n 0) 1 22 := ⟨by decide +kernel, rfl⟩
theorem iX1_finish_22 : xl_G mX1_finish 22 1 11 25 := ⟨20, by decide +kernel, rfl, fX1_20⟩
theorem iX1_finish_25 : xl_D mX1_finish 25 (.iload_n 1) 1 26 := ⟨by decide +kernel, rfl⟩
theorem iX1_finish_26 : xl_Ca mX1_finish 26 mX0_copyRow 29 := ⟨181, by decide +kernel, rfl, lX1_181, Nat.le_of_ble_eq_true rfl, Nat.le_of_ble_eq_true rfl⟩
theorem iX1_finish_29 : xl_D mX1_finish 29 (.aload_n 0) 1 30 := ⟨by decide +kernel, rfl⟩
theorem iX1_finish_30 : xl_G mX1_finish 30 1 11 33 := ⟨20, by decide +kernel, rfl, fX1_20⟩
theorem iX1_finish_33 : xl_D mX1_finish 33 (.iload_n 1) 1 34 := ⟨by decide +kernel, rfl⟩
theorem iX1_finish_34 : xl_D mX1_finish 34 (.iconst 0) 1 35 := ⟨by decide +kernel, rfl⟩
theorem iX1_finish_35 : xl_Ca mX1_finish 35 mX0_get 38 := ⟨108, by decide +kernel, rfl, lX1_108, Nat.le_of_ble_eq_true rfl, Nat.le_of_ble_eq_true rfl⟩
theorem iX1_finish_38 : xl_D mX1_finish 38 (.istore_n 3) 1 39 := ⟨by decide +kernel, rfl⟩
theorem iX1_finish_39 : xl_D mX1_finish 39 (.aload_n 0) 1 40 := ⟨by decide +kernel, rfl⟩
theorem iX1_finish_40 : xl_G mX1_finish 40 1 11 43 := ⟨20, by decide +kernel, rfl, fX1_20⟩
theorem iX1_finish_43 : xl_D mX1_finish 43 (.iload_n 1) 1 44 := ⟨by decide +kernel, rfl⟩
theorem iX1_finish_44 : xl_D mX1_finish 44 (.iconst 2) 1 45 := ⟨by decide +kernel, rfl⟩
theorem iX1_finish_45 : xl_Ca mX1_finish 45 mX0_get 48 := ⟨108, by decide +kernel, rfl, lX1_108, Nat.le_of_ble_eq_true rfl, Nat.le_of_ble_eq_true rfl⟩
theorem iX1_finish_48 : xl_D mX1_finish 48 (.aload_n 0) 1 49 := ⟨by decide +kernel, rfl⟩
theorem iX1_finish_49 : xl_G mX1_finish 49 1 11 52 := ⟨20, by decide +kernel, rfl, fX1_20⟩
theorem iX1_finish_52 : xl_D mX1_finish 52 (.iload_n 1) 1 53 := ⟨by decide +kernel, rfl⟩
theorem iX1_finish_53 : xl_D mX1_finish 53 (.iconst 1) 1 54 := ⟨by decide +kernel, rfl⟩
theorem iX1_finish_54 : xl_Ca mX1_finish 54 mX0_get 57 := ⟨108, by decide +kernel, rfl, lX1_108, Nat.le_of_ble_eq_true rfl, Nat.le_of_ble_eq_true rfl⟩
theorem iX1_finish_57 : xl_D mX1_finish 57 (.isub) 1 58 := ⟨by decide +kernel, rfl⟩
theorem iX1_finish_58 : xl_D mX1_finish 58 (.istore 4) 2 60 := ⟨by decide +kernel, rfl⟩
theorem iX1_finish_60 : xl_D mX1_finish 60 (.aload_n 0) 1 61 := ⟨by decide +kernel, rfl⟩
theorem iX1_finish_61 : xl_G mX1_finish 61 1 15 64 := ⟨32, by decide +kernel, rfl, fX1_32⟩
theorem iX1_finish_64 : xl_D mX1_finish 64 (.iload_n 3) 1 65 := ⟨by decide +kernel, rfl⟩
theorem iX1_finish_65 : xl_D mX1_finish 65 (.iconst 4) 1 66 := ⟨by decide +kernel, rfl⟩
theorem iX1_finish_66 : xl_D mX1_finish 66 (.iconst 1) 1 67 := ⟨by decide +kernel, rfl⟩
theorem iX1_finish_67 : xl_Ca mX1_finish 67 mX0_add 70 := ⟨115, by decide +kernel, rfl, lX1_115, Nat.le_of_ble_eq_true rfl, Nat.le_of_ble_eq_true rfl⟩
theorem iX1_finish_70 : xl_D mX1_finish 70 (.aload_n 0) 1 71 := ⟨by decide +kernel, rfl⟩
theorem iX1_finish_71 : xl_G mX1_finish 71 1 15 74 := ⟨32, by decide +kernel, rfl, fX1_32⟩
theorem iX1_finish_74 : xl_D mX1_finish 74 (.iload_n 3) 1 75 := ⟨by decide +kernel, rfl⟩
theorem iX1_finish_75 : xl_D mX1_finish 75 (.iconst 5) 1 76 := ⟨by decide +kernel, rfl⟩
theorem iX1_finish_76 : xl_D mX1_finish 76 (.aload_n 0) 1 77 := ⟨by decide +kernel, rfl⟩
theorem iX1_finish_77 : xl_G mX1_finish 77 1 11 80 := ⟨20, by decide +kernel, rfl, fX1_20⟩
theorem iX1_finish_80 : xl_D mX1_finish 80 (.iload_n 1) 1 81 := ⟨by decide +kernel, rfl⟩
theorem iX1_finish_81 : xl_D mX1_finish 81 (.iconst 3) 1 82 := ⟨by decide +kernel, rfl⟩
theorem iX1_finish_82 : xl_Ca mX1_finish 82 mX0_get 85 := ⟨108, by decide +kernel, rfl, lX1_108, Nat.le_of_ble_eq_true rfl, Nat.le_of_ble_eq_true rfl⟩
theorem iX1_finish_85 : xl_Ca mX1_finish 85 mX0_add 88 := ⟨115, by decide +kernel, rfl, lX1_115, Nat.le_of_ble_eq_true rfl, Nat.le_of_ble_eq_true rfl⟩
theorem iX1_finish_88 : xl_D mX1_finish 88 (.aload_n 0) 1 89 := ⟨by decide +kernel, rfl⟩
theorem iX1_finish_89 : xl_G mX1_finish 89 1 15 92 := ⟨32, by decide +kernel, rfl, fX1_32⟩
theorem iX1_finish_92 : xl_D mX1_finish 92 (.iload_n 3) 1 93 := ⟨by decide +kernel, rfl⟩
theorem iX1_finish_93 : xl_D mX1_finish 93 (.bipush 6) 2 95 := ⟨by decide +kernel, rfl⟩
theorem iX1_finish_95 : xl_D mX1_finish 95 (.aload_n 0) 1 96 := ⟨by decide +kernel, rfl⟩
theorem iX1_finish_96 : xl_G mX1_finish 96 1 11 99 := ⟨20, by decide +kernel, rfl, fX1_20⟩
theorem iX1_finish_99 : xl_D mX1_finish 99 (.iload_n 1) 1 100 := ⟨by decide +kernel, rfl⟩
theorem iX1_finish_100 : xl_D mX1_finish 100 (.iconst 4) 1 101 := ⟨by decide +kernel, rfl⟩
theorem iX1_finish_101 : xl_Ca mX1_finish 101 mX0_get 104 := ⟨108, by decide +kernel, rfl, lX1_108, Nat.le_of_ble_eq_true rfl, Nat.le_of_ble_eq_true rfl⟩
theorem iX1_finish_104 : xl_Ca mX1_finish 104 mX0_add 107 := ⟨115, by decide +kernel, rfl, lX1_115, Nat.le_of_ble_eq_true rfl, Nat.le_of_ble_eq_true rfl⟩
theorem iX1_finish_107 : xl_D mX1_finish 107 (.aload_n 0) 1 108 := ⟨by decide +kernel, rfl⟩
theorem iX1_finish_108 : xl_G mX1_finish 108 1 15 111 := ⟨32, by decide +kernel, rfl, fX1_32⟩
theorem iX1_finish_111 : xl_D mX1_finish 111 (.iload_n 3) 1 112 := ⟨by decide +kernel, rfl⟩
theorem iX1_finish_112 : xl_D mX1_finish 112 (.bipush 7) 2 114 := ⟨by decide +kernel, rfl⟩
theorem iX1_finish_114 : xl_D mX1_finish 114 (.aload_n 0) 1 115 := ⟨by decide +kernel, rfl⟩
theorem iX1_finish_115 : xl_G mX1_finish 115 1 15 118 := ⟨32, by decide +kernel, rfl, fX1_32⟩
theorem iX1_finish_118 : xl_D mX1_finish 118 (.iload_n 3) 1 119 := ⟨by decide +kernel, rfl⟩
theorem iX1_finish_119 : xl_D mX1_finish 119 (.bipush 7) 2 121 := ⟨by decide +kernel, rfl⟩
theorem iX1_finish_121 : xl_Ca mX1_finish 121 mX0_get 124 := ⟨108, by decide +kernel, rfl, lX1_108, Nat.le_of_ble_eq_true rfl, Nat.le_of_ble_eq_true rfl⟩
theorem iX1_finish_124 : xl_D mX1_finish 124 (.iload 4) 2 126 := ⟨by decide +kernel, rfl⟩
theorem iX1_finish_126 : xl_Cm mX1_finish 126 Lib.Math.max.name Lib.Math.max.code 129 := ⟨88, by decide +kernel, rfl, lX1_88, xl_stmax, xl_iMath, xl_comax, Nat.le_of_ble_eq_true rfl, Nat.le_of_ble_eq_true rfl⟩
theorem iX1_finish_129 : xl_Ca mX1_finish 129 mX0_set 132 := ⟨77, by decide +kernel, rfl, lX1_77, Nat.le_of_ble_eq_true rfl, Nat.le_of_ble_eq_true rfl⟩
theorem iX1_finish_132 : xl_D mX1_finish 132 (.aload_n 0) 1 133 := ⟨by decide +kernel, rfl⟩
theorem iX1_finish_133 : xl_D mX1_finish 133 (.dup) 1 134 := ⟨by decide +kernel, rfl⟩
theorem iX1_finish_134 : xl_G mX1_finish 134 1 5 137 := ⟨55, by decide +kernel, rfl, fX1_55⟩
theorem iX1_finish_137 : xl_D mX1_finish 137 (.iconst 1) 1 138 := ⟨by decide +kernel, rfl⟩
theorem iX1_finish_138 : xl_D mX1_finish 138 (.iadd) 1 139 := ⟨by decide +kernel, rfl⟩
theorem iX1_finish_139 : xl_P mX1_finish 139 1 5 .int 142 := ⟨55, by decide +kernel, rfl, wX1_55⟩
theorem iX1_finish_142 : xl_D mX1_finish 142 (.aload_n 0) 1 143 := ⟨by decide +kernel, rfl⟩
theorem iX1_finish_143 : xl_G mX1_finish 143 1 11 146 := ⟨20, by decide +kernel, rfl, fX1_20⟩
theorem iX1_finish_146 : xl_D mX1_finish 146 (.iload_n 1) 1 147 := ⟨by decide +kernel, rfl⟩
theorem iX1_finish_147 : xl_Ca mX1_finish 147 mX0_drop 150 := ⟨160, by decide +kernel, rfl, lX1_160, Nat.le_of_ble_eq_true rfl, Nat.le_of_ble_eq_true rfl⟩
theorem iX1_finish_150 : xl_D mX1_finish 150 (.return_) 1 151 := ⟨by decide +kernel, rfl⟩
theorem iX1_takeBack_0 : xl_D mX1_takeBack 0 (.aload_n 0) 1 1 := ⟨by decide +kernel, rfl⟩
theorem iX1_takeBack_1 : xl_D mX1_takeBack 1 (.iload_n 1) 1 2 := ⟨by decide +kernel, rfl⟩
theorem iX1_takeBack_2 : xl_Ca mX1_takeBack 2 mX1_hasResult 5 := ⟨185, by decide +kernel, rfl, lX1_185, Nat.le_of_ble_eq_true rfl, Nat.le_of_ble_eq_true rfl⟩
theorem iX1_takeBack_5 : xl_J mX1_takeBack 5 (fun o => .ifCond .eq o) 8 25 := ⟨20, by decide +kernel, rfl, rfl⟩
theorem iX1_takeBack_8 : xl_D mX1_takeBack 8 (.aload_n 0) 1 9 := ⟨by decide +kernel, rfl⟩
theorem iX1_takeBack_9 : xl_D mX1_takeBack 9 (.iconst 3) 1 10 := ⟨by decide +kernel, rfl⟩
theorem iX1_takeBack_10 : xl_D mX1_takeBack 10 (.iload_n 1) 1 11 := ⟨by decide +kernel, rfl⟩
theorem iX1_takeBack_11 : xl_Ca mX1_takeBack 11 mX1_send 14 := ⟨188, by decide +kernel, rfl, lX1_188, Nat.le_of_ble_eq_true rfl, Nat.le_of_ble_eq_true rfl⟩
theorem iX1_takeBack_14 : xl_D mX1_takeBack 14 (.aload_n 0) 1 15 := ⟨by decide +kernel, rfl⟩
theorem iX1_takeBack_15 : xl_G mX1_takeBack 15 1 11 18 := ⟨20, by decide +kernel, rfl, fX1_20⟩
theorem iX1_takeBack_18 : xl_D mX1_takeBack 18 (.iload_n 1) 1 19 := ⟨by decide +kernel, rfl⟩
theorem iX1_takeBack_19 : xl_D mX1_takeBack 19 (.bipush 6) 2 21 := ⟨by decide +kernel, rfl⟩
theorem iX1_takeBack_21 : xl_D mX1_takeBack 21 (.iconst (-1)) 1 22 := ⟨by decide +kernel, rfl⟩
theorem iX1_takeBack_22 : xl_Ca mX1_takeBack 22 mX0_set 25 := ⟨77, by decide +kernel, rfl, lX1_77, Nat.le_of_ble_eq_true rfl, Nat.le_of_ble_eq_true rfl⟩
theorem iX1_takeBack_25 : xl_D mX1_takeBack 25 (.return_) 1 26 := ⟨by decide +kernel, rfl⟩
theorem iX1_announce_0 : xl_D mX1_announce 0 (.aload_n 0) 1 1 := ⟨by decide +kernel, rfl⟩
theorem iX1_announce_1 : xl_D mX1_announce 1 (.iload_n 1) 1 2 := ⟨by decide +kernel, rfl⟩
theorem iX1_announce_2 : xl_D mX1_announce 2 (.iload_n 2) 1 3 := ⟨by decide +kernel, rfl⟩
theorem iX1_announce_3 : xl_Ca mX1_announce 3 mX1_send 6 := ⟨188, by decide +kernel, rfl, lX1_188, Nat.le_of_ble_eq_true rfl, Nat.le_of_ble_eq_true rfl⟩
theorem iX1_announce_6 : xl_D mX1_announce 6 (.aload_n 0) 1 7 := ⟨by decide +kernel, rfl⟩
theorem iX1_announce_7 : xl_G mX1_announce 7 1 11 10 := ⟨20, by decide +kernel, rfl, fX1_20⟩
theorem iX1_announce_10 : xl_D mX1_announce 10 (.iload_n 2) 1 11 := ⟨by decide +kernel, rfl⟩
theorem iX1_announce_11 : xl_D mX1_announce 11 (.bipush 6) 2 13 := ⟨by decide +kernel, rfl⟩
theorem iX1_announce_13 : xl_D mX1_announce 13 (.iload_n 1) 1 14 := ⟨by decide +kernel, rfl⟩
theorem iX1_announce_14 : xl_Ca mX1_announce 14 mX0_set 17 := ⟨77, by decide +kernel, rfl, lX1_77, Nat.le_of_ble_eq_true rfl, Nat.le_of_ble_eq_true rfl⟩
theorem iX1_announce_17 : xl_D mX1_announce 17 (.return_) 1 18 := ⟨by decide +kernel, rfl⟩
theorem iX1_send_0 : xl_D mX1_send 0 (.aload_n 0) 1 1 := ⟨by decide +kernel, rfl⟩
theorem iX1_send_1 : xl_G mX1_send 1 1 4 4 := ⟨52, by decide +kernel, rfl, fX1_52⟩
theorem iX1_send_4 : xl_D mX1_send 4 (.bipush 60) 2 6 := ⟨by decide +kernel, rfl⟩
theorem iX1_send_6 : xl_D mX1_send 6 (.irem) 1 7 := ⟨by decide +kernel, rfl⟩
theorem iX1_send_7 : xl_D mX1_send 7 (.istore_n 3) 1 8 := ⟨by decide +kernel, rfl⟩
theorem iX1_send_8 : xl_D mX1_send 8 (.aload_n 0) 1 9 := ⟨by decide +kernel, rfl⟩
theorem iX1_send_9 : xl_G mX1_send 9 1 12 12 := ⟨23, by decide +kernel, rfl, fX1_23⟩
theorem iX1_send_12 : xl_D mX1_send 12 (.iload_n 3) 1 13 := ⟨by decide +kernel, rfl⟩
theorem iX1_send_13 : xl_Ca mX1_send 13 mX0_reach 16 := ⟨178, by decide +kernel, rfl, lX1_178, Nat.le_of_ble_eq_true rfl, Nat.le_of_ble_eq_true rfl⟩
theorem iX1_send_16 : xl_D mX1_send 16 (.aload_n 0) 1 17 := ⟨by decide +kernel, rfl⟩
theorem iX1_send_17 : xl_G mX1_send 17 1 11 20 := ⟨20, by decide +kernel, rfl, fX1_20⟩
theorem iX1_send_20 : xl_D mX1_send 20 (.iload_n 2) 1 21 := ⟨by decide +kernel, rfl⟩
theorem iX1_send_21 : xl_D mX1_send 21 (.iconst 0) 1 22 := ⟨by decide +kernel, rfl⟩
theorem iX1_send_22 : xl_Ca mX1_send 22 mX0_get 25 := ⟨108, by decide +kernel, rfl, lX1_108, Nat.le_of_ble_eq_true rfl, Nat.le_of_ble_eq_true rfl⟩
theorem iX1_send_25 : xl_D mX1_send 25 (.istore 4) 2 27 := ⟨by decide +kernel, rfl⟩
theorem iX1_send_27 : xl_D mX1_send 27 (.aload_n 0) 1 28 := ⟨by decide +kernel, rfl⟩
theorem iX1_send_28 : xl_G mX1_send 28 1 12 31 := ⟨23, by decide +kernel, rfl, fX1_23⟩
theorem iX1_send_31 : xl_D mX1_send 31 (.iload_n 3) 1 32 := ⟨by decide +kernel, rfl⟩
theorem iX1_send_32 : xl_D mX1_send 32 (.iconst 0) 1 33 := ⟨by decide +kernel, rfl⟩
theorem iX1_send_33 : xl_D mX1_send 33 (.iload_n 1) 1 34 := ⟨by decide +kernel, rfl⟩
theorem iX1_send_34 : xl_Ca mX1_send 34 mX0_set 37 := ⟨77, by decide +kernel, rfl, lX1_77, Nat.le_of_ble_eq_true rfl, Nat.le_of_ble_eq_true rfl⟩
theorem iX1_send_37 : xl_D mX1_send 37 (.aload_n 0) 1 38 := ⟨by decide +kernel, rfl⟩
theorem iX1_send_38 : xl_G mX1_send 38 1 12 41 := ⟨23, by decide +kernel, rfl, fX1_23⟩
theorem iX1_send_41 : xl_D mX1_send 41 (.iload_n 3) 1 42 := ⟨by decide +kernel, rfl⟩
theorem iX1_send_42 : xl_D mX1_send 42 (.iconst 1) 1 43 := ⟨by decide +kernel, rfl⟩
theorem iX1_send_43 : xl_D mX1_send 43 (.iload 4) 2 45 := ⟨by decide +kernel, rfl⟩
theorem iX1_send_45 : xl_Ca mX1_send 45 mX0_set 48 := ⟨77, by decide +kernel, rfl, lX1_77, Nat.le_of_ble_eq_true rfl, Nat.le_of_ble_eq_true rfl⟩
theorem iX1_send_48 : xl_D mX1_send 48 (.aload_n 0) 1 49 := ⟨by decide +kernel, rfl⟩
theorem iX1_send_49 : xl_G mX1_send 49 1 12 52 := ⟨23, by decide +kernel, rfl, fX1_23⟩
theorem iX1_send_52 : xl_D mX1_send 52 (.iload_n 3) 1 53 := ⟨by decide +kernel, rfl⟩
theorem iX1_send_53 : xl_D mX1_send 53 (.iconst 2) 1 54 := ⟨by decide +kernel, rfl⟩
theorem iX1_send_54 : xl_D mX1_send 54 (.aload_n 0) 1 55 := ⟨by decide +kernel, rfl⟩
theorem iX1_send_55 : xl_G mX1_send 55 1 11 58 := ⟨20, by decide +kernel, rfl, fX1_20⟩
theorem iX1_send_58 : xl_D mX1_send 58 (.iload_n 2) 1 59 := ⟨by decide +kernel, rfl⟩
theorem iX1_send_59 : xl_D mX1_send 59 (.iconst 1) 1 60 := ⟨by decide +kernel, rfl⟩
theorem iX1_send_60 : xl_Ca mX1_send 60 mX0_get 63 := ⟨108, by decide +kernel, rfl, lX1_108, Nat.le_of_ble_eq_true rfl, Nat.le_of_ble_eq_true rfl⟩
theorem iX1_send_63 : xl_Ca mX1_send 63 mX0_set 66 := ⟨77, by decide +kernel, rfl, lX1_77, Nat.le_of_ble_eq_true rfl, Nat.le_of_ble_eq_true rfl⟩
theorem iX1_send_66 : xl_D mX1_send 66 (.aload_n 0) 1 67 := ⟨by decide +kernel, rfl⟩
theorem iX1_send_67 : xl_G mX1_send 67 1 12 70 := ⟨23, by decide +kernel, rfl, fX1_23⟩
theorem iX1_send_70 : xl_D mX1_send 70 (.iload_n 3) 1 71 := ⟨by decide +kernel, rfl⟩
theorem iX1_send_71 : xl_D mX1_send 71 (.iconst 3) 1 72 := ⟨by decide +kernel, rfl⟩
theorem iX1_send_72 : xl_D mX1_send 72 (.aload_n 0) 1 73 := ⟨by decide +kernel, rfl⟩
theorem iX1_send_73 : xl_G mX1_send 73 1 11 76 := ⟨20, by decide +kernel, rfl, fX1_20⟩
theorem iX1_send_76 : xl_D mX1_send 76 (.iload_n 2) 1 77 := ⟨by decide +kernel, rfl⟩
theorem iX1_send_77 : xl_D mX1_send 77 (.iconst 2) 1 78 := ⟨by decide +kernel, rfl⟩
theorem iX1_send_78 : xl_Ca mX1_send 78 mX0_get 81 := ⟨108, by decide +kernel, rfl, lX1_108, Nat.le_of_ble_eq_true rfl, Nat.le_of_ble_eq_true rfl⟩
theorem iX1_send_81 : xl_Ca mX1_send 81 mX0_set 84 := ⟨77, by decide +kernel, rfl, lX1_77, Nat.le_of_ble_eq_true rfl, Nat.le_of_ble_eq_true rfl⟩
theorem iX1_send_84 : xl_D mX1_send 84 (.aload_n 0) 1 85 := ⟨by decide +kernel, rfl⟩
theorem iX1_send_85 : xl_G mX1_send 85 1 12 88 := ⟨23, by decide +kernel, rfl, fX1_23⟩
theorem iX1_send_88 : xl_D mX1_send 88 (.iload_n 3) 1 89 := ⟨by decide +kernel, rfl⟩
theorem iX1_send_89 : xl_D mX1_send 89 (.iconst 4) 1 90 := ⟨by decide +kernel, rfl⟩
theorem iX1_send_90 : xl_D mX1_send 90 (.aload_n 0) 1 91 := ⟨by decide +kernel, rfl⟩
theorem iX1_send_91 : xl_G mX1_send 91 1 11 94 := ⟨20, by decide +kernel, rfl, fX1_20⟩
theorem iX1_send_94 : xl_D mX1_send 94 (.iload_n 2) 1 95 := ⟨by decide +kernel, rfl⟩
theorem iX1_send_95 : xl_D mX1_send 95 (.iconst 3) 1 96 := ⟨by decide +kernel, rfl⟩
theorem iX1_send_96 : xl_Ca mX1_send 96 mX0_get 99 := ⟨108, by decide +kernel, rfl, lX1_108, Nat.le_of_ble_eq_true rfl, Nat.le_of_ble_eq_true rfl⟩
theorem iX1_send_99 : xl_Ca mX1_send 99 mX0_set 102 := ⟨77, by decide +kernel, rfl, lX1_77, Nat.le_of_ble_eq_true rfl, Nat.le_of_ble_eq_true rfl⟩
theorem iX1_send_102 : xl_D mX1_send 102 (.aload_n 0) 1 103 := ⟨by decide +kernel, rfl⟩
theorem iX1_send_103 : xl_G mX1_send 103 1 12 106 := ⟨23, by decide +kernel, rfl, fX1_23⟩
theorem iX1_send_106 : xl_D mX1_send 106 (.iload_n 3) 1 107 := ⟨by decide +kernel, rfl⟩
theorem iX1_send_107 : xl_D mX1_send 107 (.iconst 5) 1 108 := ⟨by decide +kernel, rfl⟩
theorem iX1_send_108 : xl_D mX1_send 108 (.aload_n 0) 1 109 := ⟨by decide +kernel, rfl⟩
theorem iX1_send_109 : xl_G mX1_send 109 1 11 112 := ⟨20, by decide +kernel, rfl, fX1_20⟩
theorem iX1_send_112 : xl_D mX1_send 112 (.iload_n 2) 1 113 := ⟨by decide +kernel, rfl⟩
theorem iX1_send_113 : xl_D mX1_send 113 (.iconst 4) 1 114 := ⟨by decide +kernel, rfl⟩
theorem iX1_send_114 : xl_Ca mX1_send 114 mX0_get 117 := ⟨108, by decide +kernel, rfl, lX1_108, Nat.le_of_ble_eq_true rfl, Nat.le_of_ble_eq_true rfl⟩
theorem iX1_send_117 : xl_Ca mX1_send 117 mX0_set 120 := ⟨77, by decide +kernel, rfl, lX1_77, Nat.le_of_ble_eq_true rfl, Nat.le_of_ble_eq_true rfl⟩
theorem iX1_send_120 : xl_D mX1_send 120 (.aload_n 0) 1 121 := ⟨by decide +kernel, rfl⟩
theorem iX1_send_121 : xl_G mX1_send 121 1 15 124 := ⟨32, by decide +kernel, rfl, fX1_32⟩
theorem iX1_send_124 : xl_D mX1_send 124 (.iload 4) 2 126 := ⟨by decide +kernel, rfl⟩
theorem iX1_send_126 : xl_D mX1_send 126 (.iload_n 1) 1 127 := ⟨by decide +kernel, rfl⟩
theorem iX1_send_127 : xl_D mX1_send 127 (.iconst 1) 1 128 := ⟨by decide +kernel, rfl⟩
theorem iX1_send_128 : xl_Ca mX1_send 128 mX0_add 131 := ⟨115, by decide +kernel, rfl, lX1_115, Nat.le_of_ble_eq_true rfl, Nat.le_of_ble_eq_true rfl⟩
theorem iX1_send_131 : xl_D mX1_send 131 (.aload_n 0) 1 132 := ⟨by decide +kernel, rfl⟩
theorem iX1_send_132 : xl_D mX1_send 132 (.dup) 1 133 := ⟨by decide +kernel, rfl⟩
theorem iX1_send_133 : xl_G mX1_send 133 1 4 136 := ⟨52, by decide +kernel, rfl, fX1_52⟩
theorem iX1_send_136 : xl_D mX1_send 136 (.iconst 1) 1 137 := ⟨by decide +kernel, rfl⟩
theorem iX1_send_137 : xl_D mX1_send 137 (.iadd) 1 138 := ⟨by decide +kernel, rfl⟩
theorem iX1_send_138 : xl_P mX1_send 138 1 4 .int 141 := ⟨52, by decide +kernel, rfl, wX1_52⟩
theorem iX1_send_141 : xl_D mX1_send 141 (.return_) 1 142 := ⟨by decide +kernel, rfl⟩
end
section
/-! ===== World: ten numbers (0 gap, 1 lateness, 2 early, 3 progress, 4 sent, 5 closed, 6 taken, 7 late, 8 dropped, 9 melted), six tables (0 sources, 1 sessions, 2 messages, 3 finals, 4 inputs, 5 keys) ===== -/
abbrev WS : Type := (Nat → Int) × (Nat → TS)
abbrev KW : Type := PS → WS → Prop
def rmT : Nat → Int := fun t => (xl_n [4, 161, 60, 40, 160, 6] t).getD 0
def wdT : Nat → Int := fun t => (xl_n [5, 7, 6, 7, 7, 8] t).getD 0
def encW (w : WS) : XH := xO 1 [xi (w.1 0), xi (w.1 1), xi (w.1 2), xi (w.1 3), xi (w.1 4), xi (w.1 5), xi (w.1 6), xi (w.1 7), xi (w.1 8), xi (w.1 9), .ref 1, .ref 3, .ref 5, .ref 7, .ref 9, .ref 11] :: (encT (rmT 0) (wdT 0) (w.2 0) ++ (encT (rmT 1) (wdT 1) (w.2 1) ++ (encT (rmT 2) (wdT 2) (w.2 2) ++ (encT (rmT 3) (wdT 3) (w.2 3) ++ (encT (rmT 4) (wdT 4) (w.2 4) ++ (encT (rmT 5) (wdT 5) (w.2 5)))))))
def bdW (w : WS) : Prop := (∀ k, xB (w.1 k)) ∧ ∀ t, xB (w.2 t).1 ∧ ∀ k, xB ((w.2 t).2 k)
def tixW : Nat → Option Nat := fun r => match xl_n [none, some 0, none, some 1, none, some 2, none, some 3, none, some 4, none, some 5] r with
  | some (some t) => some t
  | _ => none
def wFd (w : WS) (k : Nat) (v : Int) : WS := (fun j => bif Nat.beq j k then v else w.1 j, w.2)
def setT (w : WS) (t : Nat) (b : TS) : WS := (w.1, fun j => bif Nat.beq j t then b else w.2 j)
theorem setT_self (w : WS) (t : Nat) : setT w t (w.2 t) = w := by
  refine Prod.ext rfl (funext fun j => ?_)
  show (bif Nat.beq j t then w.2 t else w.2 j) = w.2 j
  cases e : Nat.beq j t with
  | false => rfl
  | true => rw [nB e]; rfl
def fgW : FG WS := fun s r ci k => bif Nat.beq r 0 then (bif Nat.beq ci 1 then xl_n [pI (s.1 0), pI (s.1 1), pI (s.1 2), pI (s.1 3), pI (s.1 4), pI (s.1 5), pI (s.1 6), pI (s.1 7), pI (s.1 8), pI (s.1 9), pR 1, pR 3, pR 5, pR 7, pR 9, pR 11] k else none) else match tixW r with
  | some t => bif Nat.beq ci 0 then xl_n [pI (rmT t), pI (wdT t), pR (r + 1), pI (s.2 t).1] k else none
  | none => none
def fpW : FP WS := fun s r ci k z => bif Nat.beq r 0 then (bif Nat.beq ci 1 then (bif Nat.blt k 10 then some (wFd s k z) else none) else none) else none
theorem tixW_inv {r t : Nat} (h : tixW r = some t) : (r = 1 ∧ t = 0) ∨ (r = 3 ∧ t = 1) ∨ (r = 5 ∧ t = 2) ∨ (r = 7 ∧ t = 3) ∨ (r = 9 ∧ t = 4) ∨ (r = 11 ∧ t = 5) := by
  match r, h with
  | 0, h => cases h
  | 1, h => cases h; exact Or.inl ⟨rfl, rfl⟩
  | 2, h => cases h
  | 3, h => cases h; exact Or.inr (Or.inl ⟨rfl, rfl⟩)
  | 4, h => cases h
  | 5, h => cases h; exact Or.inr (Or.inr (Or.inl ⟨rfl, rfl⟩))
  | 6, h => cases h
  | 7, h => cases h; exact Or.inr (Or.inr (Or.inr (Or.inl ⟨rfl, rfl⟩)))
  | 8, h => cases h
  | 9, h => cases h; exact Or.inr (Or.inr (Or.inr (Or.inr (Or.inl ⟨rfl, rfl⟩))))
  | 10, h => cases h
  | 11, h => cases h; exact Or.inr (Or.inr (Or.inr (Or.inr (Or.inr (⟨rfl, rfl⟩)))))
  | n + 12, h => cases h
theorem rmT_b {r t : Nat} (h : tixW r = some t) : 0 ≤ rmT t ∧ rmT t ≤ 1000 ∧ 0 ≤ wdT t ∧ wdT t ≤ 100 := by
  rcases tixW_inv h with ⟨rfl, rfl⟩ | ⟨rfl, rfl⟩ | ⟨rfl, rfl⟩ | ⟨rfl, rfl⟩ | ⟨rfl, rfl⟩ | ⟨rfl, rfl⟩ <;> decide
theorem vFgW_t : ∀ (t r : Nat), tixW r = some t → ∀ (s : WS) (k : Nat) (v : PV), bdW s → xl_n [pI (rmT t), pI (wdT t), pR (r + 1), pI (s.2 t).1] k = some v → ∃ fs w, xl_n (encW s) r = some (.inr (0, fs)) ∧ xl_n fs k = some w ∧ xl_o r w = pV v ∧ ∀ z, v = .inl z → xB z := by
  intro t r ht s k v hb h
  obtain ⟨c1, c2, c3, c4⟩ := rmT_b ht
  rcases tixW_inv ht with ⟨rfl, rfl⟩ | ⟨rfl, rfl⟩ | ⟨rfl, rfl⟩ | ⟨rfl, rfl⟩ | ⟨rfl, rfl⟩ | ⟨rfl, rfl⟩
  · match k, h with
    | 0, h => cases h; exact ⟨_, _, rfl, rfl, rfl, fun z e => by cases e; exact ⟨by omega, by omega⟩⟩
    | 1, h => cases h; exact ⟨_, _, rfl, rfl, rfl, fun z e => by cases e; exact ⟨by omega, by omega⟩⟩
    | 2, h => cases h; exact ⟨_, _, rfl, rfl, rfl, fun z e => by cases e⟩
    | 3, h => cases h; exact ⟨_, _, rfl, rfl, rfl, fun z e => by cases e; exact (hb.2 0).1⟩
  · match k, h with
    | 0, h => cases h; exact ⟨_, _, rfl, rfl, rfl, fun z e => by cases e; exact ⟨by omega, by omega⟩⟩
    | 1, h => cases h; exact ⟨_, _, rfl, rfl, rfl, fun z e => by cases e; exact ⟨by omega, by omega⟩⟩
    | 2, h => cases h; exact ⟨_, _, rfl, rfl, rfl, fun z e => by cases e⟩
    | 3, h => cases h; exact ⟨_, _, rfl, rfl, rfl, fun z e => by cases e; exact (hb.2 1).1⟩
  · match k, h with
    | 0, h => cases h; exact ⟨_, _, rfl, rfl, rfl, fun z e => by cases e; exact ⟨by omega, by omega⟩⟩
    | 1, h => cases h; exact ⟨_, _, rfl, rfl, rfl, fun z e => by cases e; exact ⟨by omega, by omega⟩⟩
    | 2, h => cases h; exact ⟨_, _, rfl, rfl, rfl, fun z e => by cases e⟩
    | 3, h => cases h; exact ⟨_, _, rfl, rfl, rfl, fun z e => by cases e; exact (hb.2 2).1⟩
  · match k, h with
    | 0, h => cases h; exact ⟨_, _, rfl, rfl, rfl, fun z e => by cases e; exact ⟨by omega, by omega⟩⟩
    | 1, h => cases h; exact ⟨_, _, rfl, rfl, rfl, fun z e => by cases e; exact ⟨by omega, by omega⟩⟩
    | 2, h => cases h; exact ⟨_, _, rfl, rfl, rfl, fun z e => by cases e⟩
    | 3, h => cases h; exact ⟨_, _, rfl, rfl, rfl, fun z e => by cases e; exact (hb.2 3).1⟩
  · match k, h with
    | 0, h => cases h; exact ⟨_, _, rfl, rfl, rfl, fun z e => by cases e; exact ⟨by omega, by omega⟩⟩
    | 1, h => cases h; exact ⟨_, _, rfl, rfl, rfl, fun z e => by cases e; exact ⟨by omega, by omega⟩⟩
    | 2, h => cases h; exact ⟨_, _, rfl, rfl, rfl, fun z e => by cases e⟩
    | 3, h => cases h; exact ⟨_, _, rfl, rfl, rfl, fun z e => by cases e; exact (hb.2 4).1⟩
  · match k, h with
    | 0, h => cases h; exact ⟨_, _, rfl, rfl, rfl, fun z e => by cases e; exact ⟨by omega, by omega⟩⟩
    | 1, h => cases h; exact ⟨_, _, rfl, rfl, rfl, fun z e => by cases e; exact ⟨by omega, by omega⟩⟩
    | 2, h => cases h; exact ⟨_, _, rfl, rfl, rfl, fun z e => by cases e⟩
    | 3, h => cases h; exact ⟨_, _, rfl, rfl, rfl, fun z e => by cases e; exact (hb.2 5).1⟩
theorem vFgW : vFg encW bdW fgW := by
  intro s r ci k v hb h
  unfold fgW at h
  cases e : Nat.beq r 0 with
  | true =>
    rw [e] at h
    obtain ⟨h2, h3⟩ := bN h
    have e := nB e
    have h2 := nB h2
    subst e; subst h2
    match k, h3 with
    | 0, h3 => cases h3; exact ⟨_, _, rfl, rfl, rfl, fun z e => by cases e; exact hb.1 0⟩
    | 1, h3 => cases h3; exact ⟨_, _, rfl, rfl, rfl, fun z e => by cases e; exact hb.1 1⟩
    | 2, h3 => cases h3; exact ⟨_, _, rfl, rfl, rfl, fun z e => by cases e; exact hb.1 2⟩
    | 3, h3 => cases h3; exact ⟨_, _, rfl, rfl, rfl, fun z e => by cases e; exact hb.1 3⟩
    | 4, h3 => cases h3; exact ⟨_, _, rfl, rfl, rfl, fun z e => by cases e; exact hb.1 4⟩
    | 5, h3 => cases h3; exact ⟨_, _, rfl, rfl, rfl, fun z e => by cases e; exact hb.1 5⟩
    | 6, h3 => cases h3; exact ⟨_, _, rfl, rfl, rfl, fun z e => by cases e; exact hb.1 6⟩
    | 7, h3 => cases h3; exact ⟨_, _, rfl, rfl, rfl, fun z e => by cases e; exact hb.1 7⟩
    | 8, h3 => cases h3; exact ⟨_, _, rfl, rfl, rfl, fun z e => by cases e; exact hb.1 8⟩
    | 9, h3 => cases h3; exact ⟨_, _, rfl, rfl, rfl, fun z e => by cases e; exact hb.1 9⟩
    | 10, h3 => cases h3; exact ⟨_, _, rfl, rfl, rfl, fun z e => by cases e⟩
    | 11, h3 => cases h3; exact ⟨_, _, rfl, rfl, rfl, fun z e => by cases e⟩
    | 12, h3 => cases h3; exact ⟨_, _, rfl, rfl, rfl, fun z e => by cases e⟩
    | 13, h3 => cases h3; exact ⟨_, _, rfl, rfl, rfl, fun z e => by cases e⟩
    | 14, h3 => cases h3; exact ⟨_, _, rfl, rfl, rfl, fun z e => by cases e⟩
    | 15, h3 => cases h3; exact ⟨_, _, rfl, rfl, rfl, fun z e => by cases e⟩
  | false =>
    rw [e] at h
    dsimp only [cond_false] at h
    split at h
    · next t ht =>
      obtain ⟨h2, h3⟩ := bN h
      have h2 := nB h2
      subst h2
      exact vFgW_t t r ht s k v hb h3
    · cases h
theorem vFpW : vFp encW bdW fpW := by
  intro s r ci k z s' hb hz h
  obtain ⟨h1, g1⟩ := bN h
  obtain ⟨h2, g2⟩ := bN g1
  obtain ⟨h3, g3⟩ := bN g2
  clear h g1 g2
  have h1 := nB h1
  have h2 := nB h2
  subst h1; subst h2
  cases g3
  have hbd : bdW (wFd s k z) := ⟨fun j => by
    show xB (bif Nat.beq j k then z else s.1 j)
    cases Nat.beq j k with
    | true => exact hz
    | false => exact hb.1 j, hb.2⟩
  match k, h3 with
  | 0, _ => exact ⟨_, rfl, Nat.le_of_ble_eq_true rfl, rfl, hbd⟩
  | 1, _ => exact ⟨_, rfl, Nat.le_of_ble_eq_true rfl, rfl, hbd⟩
  | 2, _ => exact ⟨_, rfl, Nat.le_of_ble_eq_true rfl, rfl, hbd⟩
  | 3, _ => exact ⟨_, rfl, Nat.le_of_ble_eq_true rfl, rfl, hbd⟩
  | 4, _ => exact ⟨_, rfl, Nat.le_of_ble_eq_true rfl, rfl, hbd⟩
  | 5, _ => exact ⟨_, rfl, Nat.le_of_ble_eq_true rfl, rfl, hbd⟩
  | 6, _ => exact ⟨_, rfl, Nat.le_of_ble_eq_true rfl, rfl, hbd⟩
  | 7, _ => exact ⟨_, rfl, Nat.le_of_ble_eq_true rfl, rfl, hbd⟩
  | 8, _ => exact ⟨_, rfl, Nat.le_of_ble_eq_true rfl, rfl, hbd⟩
  | 9, _ => exact ⟨_, rfl, Nat.le_of_ble_eq_true rfl, rfl, hbd⟩
  | n + 10, h3 => exact absurd (Nat.le_of_ble_eq_true h3) (by omega)
theorem lenW (s s' : WS) : (encW s').length = (encW s).length := rfl
theorem recW (s : WS) : ∃ fs, xl_n (encW s) 0 = some (.inr (1, fs)) := ⟨_, rfl⟩
theorem bdW_set {s : WS} {t : Nat} {b : TS} {rm w : Int} (hb : bdW s) (ht : bdT rm w b) : bdW (setT s t b) := by
  refine ⟨hb.1, fun j => ?_⟩
  show xB (bif Nat.beq j t then b else s.2 j).1 ∧ ∀ k, xB ((bif Nat.beq j t then b else s.2 j).2 k)
  cases Nat.beq j t with
  | true => exact ht.2
  | false => exact hb.2 j
theorem lkW : ∀ (r t : Nat), tixW r = some t → vLk encW bdW (encT (rmT t) (wdT t)) (bdT (rmT t) (wdT t)) (fun k => r + k) (fun s => s.2 t) (fun s b => setT s t b) ∧ ∀ s, ∃ fs, xl_n (encW s) r = some (.inr (0, fs)) := by
  intro r t ht
  have hm := rmT_b ht
  rcases tixW_inv ht with ⟨rfl, rfl⟩ | ⟨rfl, rfl⟩ | ⟨rfl, rfl⟩ | ⟨rfl, rfl⟩ | ⟨rfl, rfl⟩ | ⟨rfl, rfl⟩
  · exact ⟨vLk_run (n := 2) (fun _ => rfl) (by decide) (fun s => rfl) (fun s t => rfl) (fun s hb => ⟨hm, hb.2 0⟩) (fun s t hb ht => bdW_set hb ht) (fun s => Nat.le_of_ble_eq_true rfl), fun s => ⟨_, rfl⟩⟩
  · exact ⟨vLk_run (n := 2) (fun _ => rfl) (by decide) (fun s => rfl) (fun s t => rfl) (fun s hb => ⟨hm, hb.2 1⟩) (fun s t hb ht => bdW_set hb ht) (fun s => Nat.le_of_ble_eq_true rfl), fun s => ⟨_, rfl⟩⟩
  · exact ⟨vLk_run (n := 2) (fun _ => rfl) (by decide) (fun s => rfl) (fun s t => rfl) (fun s hb => ⟨hm, hb.2 2⟩) (fun s t hb ht => bdW_set hb ht) (fun s => Nat.le_of_ble_eq_true rfl), fun s => ⟨_, rfl⟩⟩
  · exact ⟨vLk_run (n := 2) (fun _ => rfl) (by decide) (fun s => rfl) (fun s t => rfl) (fun s hb => ⟨hm, hb.2 3⟩) (fun s t hb ht => bdW_set hb ht) (fun s => Nat.le_of_ble_eq_true rfl), fun s => ⟨_, rfl⟩⟩
  · exact ⟨vLk_run (n := 2) (fun _ => rfl) (by decide) (fun s => rfl) (fun s t => rfl) (fun s hb => ⟨hm, hb.2 4⟩) (fun s t hb ht => bdW_set hb ht) (fun s => Nat.le_of_ble_eq_true rfl), fun s => ⟨_, rfl⟩⟩
  · exact ⟨vLk_run (n := 2) (fun _ => rfl) (by decide) (fun s => rfl) (fun s t => rfl) (fun s hb => ⟨hm, hb.2 5⟩) (fun s t hb ht => bdW_set hb ht) (fun s => Nat.le_of_ble_eq_true rfl), fun s => ⟨_, rfl⟩⟩
section WC
variable {M μ : XI} {rc rs pc pc2 n : Nat}
theorem qWT {f : Int → Int → List PV → TS → KT → Prop} (hm : ∀ rm w, mOk (encT rm w) (bdT rm w) μ (atR 0 (f rm w))) (hv : xl_V μ) (hcl : ∃ T N, vwCl[0]? = some (μ.1.cls, T, N)) (d : xl_Ca M pc μ pc2) (hn : n = μ.2.2.2.2.2.2 + 1) : cOk encW bdW M rc rs pc pc2 n (inT tixW (fun t as s K => f (rmT t) (wdT t) as (s.2 t) (fun v b => K v (setT s t b)))) := by
  intro as L st s K Q hl hw hb hs hk
  obtain ⟨q, t, as', rfl, ht, hnr, h1⟩ := inT_inv hs
  exact (cVirt (sp := fun as s K => as = pR q :: as' ∧ f (rmT t) (wdT t) as' (s.2 t) (fun v b => K v (setT s t b))) (hm (rmT t) (wdT t)) hv d hcl hn (fun as2 s2 K2 _ h2 => by
    obtain ⟨e, h3⟩ := h2
    exact ⟨_, _, _, as', (lkW q t ht).1, (lkW q t ht).2 s2, by rw [e, pnr_rel hnr]; rfl, h3⟩)) _ L st s K Q hl hw hb ⟨rfl, h1⟩ hk
/-- what World says of its tables -/
def wG (w : WS) (t : Nat) (i c : Int) : Int := tg (rmT t) (wdT t) (w.2 t).2 i c
def wP (w : WS) (t : Nat) (i c v : Int) : WS := setT w t ((w.2 t).1, ts (rmT t) (wdT t) (w.2 t).2 i c v)
def wA (w : WS) (t : Nat) (i c m : Int) : WS := wP w t i c (wI (wG w t i c + m))
def wZ (w : WS) (t : Nat) : Int := (w.2 t).1
def wRe (w : WS) (t : Nat) (i : Int) : WS := setT w t (if (w.2 t).1 ≤ i ∧ i < rmT t then i + 1 else (w.2 t).1, (w.2 t).2)
def wDr (w : WS) (t : Nat) (i : Int) : WS := setT w t (if 0 ≤ i ∧ i < (w.2 t).1 then ((w.2 t).1 - 1, xcp (w.2 t).2 (w.2 t).2 ((i + 1) * wdT t).toNat (i * wdT t).toNat (((w.2 t).1 - i - 1) * wdT t).toNat) else w.2 t)
def wOp (w : WS) (t : Nat) (i : Int) : WS := setT w t ((w.2 t).1 + 1, topen (wdT t) (w.2 t).2 (w.2 t).1 i)
theorem wG_B {w : WS} {t : Nat} {i c : Int} (h : bdW w) : xB (wG w t i c) := tg_B (h.2 t).2
def cW_X0_get : Sp WS := inT tixW (fun t => a2 (fun i c s K => (xB i ∧ xB c) ∧ (xB (wG s t i c) → K [pI (wG s t i c)] s)))
theorem qW_X0_get (d : xl_Ca M pc mX0_get pc2) : cOk encW bdW M rc rs pc pc2 3 cW_X0_get := by
  refine cMono (fun as s K hb h => ?_) (qWT (f := fun rm w => a2 (sX0_get rm w)) mX0_get_ok vX0_get tcl d rfl)
  obtain ⟨q, t, as', rfl, ht, hnr, h1⟩ := inT_inv h
  obtain ⟨i, c, rfl, h2, h3⟩ := a2_inv h1
  refine inT_mk ht hnr ⟨h2, ?_⟩
  show K _ (setT s t (s.2 t))
  rw [setT_self]
  exact h3 (wG_B hb)
def cW_X0_set : Sp WS := inT tixW (fun t => a3 (fun i c v s K => (xB i ∧ xB c ∧ xB v) ∧ K [] (wP s t i c v)))
theorem qW_X0_set (d : xl_Ca M pc mX0_set pc2) : cOk encW bdW M rc rs pc pc2 4 cW_X0_set := by
  refine cMono (fun as s K hb h => ?_) (qWT (f := fun rm w => a3 (sX0_set rm w)) mX0_set_ok vX0_set tcl d rfl)
  obtain ⟨q, t, as', rfl, ht, hnr, h1⟩ := inT_inv h
  obtain ⟨i, c, v, rfl, h2⟩ := a3_inv h1
  exact inT_mk ht hnr h2
def cW_X0_add : Sp WS := inT tixW (fun t => a3 (fun i c v s K => (xB i ∧ xB c ∧ xB v) ∧ K [] (wA s t i c v)))
theorem qW_X0_add (d : xl_Ca M pc mX0_add pc2) : cOk encW bdW M rc rs pc pc2 4 cW_X0_add := by
  refine cMono (fun as s K hb h => ?_) (qWT (f := fun rm w => a3 (sX0_add rm w)) mX0_add_ok vX0_add tcl d rfl)
  obtain ⟨q, t, as', rfl, ht, hnr, h1⟩ := inT_inv h
  obtain ⟨i, c, v, rfl, h2⟩ := a3_inv h1
  exact inT_mk ht hnr h2
def cW_X0_clear : Sp WS := inT tixW (fun t => a0 (fun s K => K [] (setT s t (0, (s.2 t).2))))
theorem qW_X0_clear (d : xl_Ca M pc mX0_clear pc2) : cOk encW bdW M rc rs pc pc2 1 cW_X0_clear := by
  refine cMono (fun as s K hb h => ?_) (qWT (f := fun rm w => a0 (sX0_clear rm w)) mX0_clear_ok vX0_clear tcl d rfl)
  obtain ⟨q, t, as', rfl, ht, hnr, h1⟩ := inT_inv h
  obtain ⟨rfl, h2⟩ := a0_inv h1
  exact inT_mk ht hnr h2
def cW_X0_reach : Sp WS := inT tixW (fun t => a1 (fun i s K => xB i ∧ K [] (wRe s t i)))
theorem qW_X0_reach (d : xl_Ca M pc mX0_reach pc2) : cOk encW bdW M rc rs pc pc2 2 cW_X0_reach := by
  refine cMono (fun as s K hb h => ?_) (qWT (f := fun rm w => a1 (sX0_reach rm w)) mX0_reach_ok vX0_reach tcl d rfl)
  obtain ⟨q, t, as', rfl, ht, hnr, h1⟩ := inT_inv h
  obtain ⟨i, rfl, h2⟩ := a1_inv h1
  exact inT_mk ht hnr h2
def cW_X0_drop : Sp WS := inT tixW (fun t => a1 (fun i s K => (xB i ∧ wZ s t ≤ rmT t) ∧ K [] (wDr s t i)))
theorem qW_X0_drop (d : xl_Ca M pc mX0_drop pc2) : cOk encW bdW M rc rs pc pc2 2 cW_X0_drop := by
  refine cMono (fun as s K hb h => ?_) (qWT (f := fun rm w => a1 (sX0_drop rm w)) mX0_drop_ok vX0_drop tcl d rfl)
  obtain ⟨q, t, as', rfl, ht, hnr, h1⟩ := inT_inv h
  obtain ⟨i, rfl, h2⟩ := a1_inv h1
  exact inT_mk ht hnr h2
def cW_X0_open : Sp WS := inT tixW (fun t => a1 (fun i s K => xB i ∧ ((0 ≤ i ∧ i ≤ wZ s t ∧ wZ s t < rmT t) → K [pI 1] (wOp s t i)) ∧ (¬ (0 ≤ i ∧ i ≤ wZ s t ∧ wZ s t < rmT t) → K [pI 0] s)))
theorem qW_X0_open (d : xl_Ca M pc mX0_open pc2) : cOk encW bdW M rc rs pc pc2 2 cW_X0_open := by
  refine cMono (fun as s K hb h => ?_) (qWT (f := fun rm w => a1 (sX0_open rm w)) mX0_open_ok vX0_open tcl d rfl)
  obtain ⟨q, t, as', rfl, ht, hnr, h1⟩ := inT_inv h
  obtain ⟨i, rfl, h2, h3, h4⟩ := a1_inv h1
  refine inT_mk ht hnr ⟨h2, h3, fun c => ?_⟩
  show K _ (setT s t (s.2 t))
  rw [setT_self]
  exact h4 c
end WC
end
section
/-! ===== World: what is asked of it ===== -/
-- X1_fateOf: heads []
def tX1_fateOf : Nat → Blk WS := fun pc => bif Nat.blt pc 27 then (bif Nat.blt pc 15 then (bif Nat.beq pc 0 then (oIld 1 <| oAld 0 <| oGet (fgW) 1 3 <| oAld 0 <| oGet (fgW) 1 1 <| oSubW <| oCGe 15 <| oI 2 <| oIret) else oNo) else (bif Nat.beq pc 15 then (oIld 1 <| oAld 0 <| oGet (fgW) 1 3 <| oCGe 27 <| oI 1 <| oTo 28) else oNo)) else (bif Nat.blt pc 28 then (bif Nat.beq pc 27 then (oI 0 <| oTo 28) else oNo) else (bif Nat.beq pc 28 then (oIret) else oNo))
theorem tX1_fateOf_ok : ∀ pc, bOk (encW) (bdW) mX1_fateOf 0 0 pc (tX1_fateOf pc) := fun pc => (tNode (tNode (tLeaf (okIldn iX1_fateOf_0 rfl <| okAldn iX1_fateOf_1 rfl <| okGet (vFgW) iX1_fateOf_2 <| okAldn iX1_fateOf_5 rfl <| okGet (vFgW) iX1_fateOf_6 <| okSubW iX1_fateOf_9 <| okCGe (tl rfl) iX1_fateOf_10 <| okIc iX1_fateOf_13 <| okIret iX1_fateOf_14 rfl)) (tLeaf (okIldn iX1_fateOf_15 rfl <| okAldn iX1_fateOf_16 rfl <| okGet (vFgW) iX1_fateOf_17 <| okCGe (tl rfl) iX1_fateOf_20 <| okIc iX1_fateOf_23 <| okGoto (tl rfl) iX1_fateOf_24))) (tNode (tLeaf (okIc iX1_fateOf_27 <| okTo (tl rfl))) (tLeaf (okIret iX1_fateOf_28 rfl)))) pc
-- X1_isTakenOf: heads []
def tX1_isTakenOf : Nat → Blk WS := fun pc => bif Nat.blt pc 36 then (bif Nat.blt pc 32 then (bif Nat.beq pc 0 then (oAld 0 <| oGet (fgW) 1 14 <| oIld 1 <| oI 5 <| oC3 (cW_X0_get) <| oIst 3 <| oAld 0 <| oGet (fgW) 1 14 <| oIld 1 <| oI 3 <| oC3 (cW_X0_get) <| oIld 2 <| oCNe 36 <| oIld 3 <| oZEq 32 <| oIld 3 <| oI 1 <| oCNe 36 <| oTo 32) else oNo) else (bif Nat.beq pc 32 then (oI 1 <| oTo 37) else oNo)) else (bif Nat.blt pc 37 then (bif Nat.beq pc 36 then (oI 0 <| oTo 37) else oNo) else (bif Nat.beq pc 37 then (oZret) else oNo))
theorem tX1_isTakenOf_ok : ∀ pc, bOk (encW) (bdW) mX1_isTakenOf 0 0 pc (tX1_isTakenOf pc) := fun pc => (tNode (tNode (tLeaf (okAldn iX1_isTakenOf_0 rfl <| okGet (vFgW) iX1_isTakenOf_1 <| okIldn iX1_isTakenOf_4 rfl <| okIc iX1_isTakenOf_5 <| okC3 (qW_X0_get iX1_isTakenOf_6) <| okIstn iX1_isTakenOf_9 rfl (by decide) <| okAldn iX1_isTakenOf_10 rfl <| okGet (vFgW) iX1_isTakenOf_11 <| okIldn iX1_isTakenOf_14 rfl <| okIc iX1_isTakenOf_15 <| okC3 (qW_X0_get iX1_isTakenOf_16) <| okIldn iX1_isTakenOf_19 rfl <| okCNe (tl rfl) iX1_isTakenOf_20 <| okIldn iX1_isTakenOf_23 rfl <| okZEq (tl rfl) iX1_isTakenOf_24 <| okIldn iX1_isTakenOf_27 rfl <| okIc iX1_isTakenOf_28 <| okCNe (tl rfl) iX1_isTakenOf_29 <| okTo (tl rfl))) (tLeaf (okIc iX1_isTakenOf_32 <| okGoto (tl rfl) iX1_isTakenOf_33))) (tNode (tLeaf (okIc iX1_isTakenOf_36 <| okTo (tl rfl))) (tLeaf (okZret iX1_isTakenOf_37 rfl)))) pc
-- X1_hasResult: heads []
def tX1_hasResult : Nat → Blk WS := fun pc => bif Nat.blt pc 18 then (bif Nat.beq pc 0 then (oAld 0 <| oGet (fgW) 1 11 <| oIld 1 <| oI 6 <| oC3 (cW_X0_get) <| oI (-1) <| oCEq 18 <| oI 1 <| oTo 19) else oNo) else (bif Nat.blt pc 19 then (bif Nat.beq pc 18 then (oI 0 <| oTo 19) else oNo) else (bif Nat.beq pc 19 then (oZret) else oNo))
theorem tX1_hasResult_ok : ∀ pc, bOk (encW) (bdW) mX1_hasResult 0 0 pc (tX1_hasResult pc) := fun pc => (tNode (tLeaf (okAldn iX1_hasResult_0 rfl <| okGet (vFgW) iX1_hasResult_1 <| okIldn iX1_hasResult_4 rfl <| okBi iX1_hasResult_5 (by decide) <| okC3 (qW_X0_get iX1_hasResult_7) <| okIc iX1_hasResult_10 <| okCEq (tl rfl) iX1_hasResult_11 <| okIc iX1_hasResult_14 <| okGoto (tl rfl) iX1_hasResult_15)) (tNode (tLeaf (okIc iX1_hasResult_18 <| okTo (tl rfl))) (tLeaf (okZret iX1_hasResult_19 rfl)))) pc
-- X1_isRipe: heads []
def tX1_isRipe : Nat → Blk WS := fun pc => bif Nat.blt pc 22 then (bif Nat.beq pc 0 then (oAld 0 <| oGet (fgW) 1 11 <| oIld 1 <| oI 2 <| oC3 (cW_X0_get) <| oAld 0 <| oGet (fgW) 1 0 <| oAddW <| oIld 2 <| oCGe 22 <| oI 1 <| oTo 23) else oNo) else (bif Nat.blt pc 23 then (bif Nat.beq pc 22 then (oI 0 <| oTo 23) else oNo) else (bif Nat.beq pc 23 then (oZret) else oNo))
theorem tX1_isRipe_ok : ∀ pc, bOk (encW) (bdW) mX1_isRipe 0 0 pc (tX1_isRipe pc) := fun pc => (tNode (tLeaf (okAldn iX1_isRipe_0 rfl <| okGet (vFgW) iX1_isRipe_1 <| okIldn iX1_isRipe_4 rfl <| okIc iX1_isRipe_5 <| okC3 (qW_X0_get iX1_isRipe_6) <| okAldn iX1_isRipe_9 rfl <| okGet (vFgW) iX1_isRipe_10 <| okAddW iX1_isRipe_13 <| okIldn iX1_isRipe_14 rfl <| okCGe (tl rfl) iX1_isRipe_15 <| okIc iX1_isRipe_18 <| okGoto (tl rfl) iX1_isRipe_19)) (tNode (tLeaf (okIc iX1_isRipe_22 <| okTo (tl rfl))) (tLeaf (okZret iX1_isRipe_23 rfl)))) pc
-- X1_isOver: heads []
def tX1_isOver : Nat → Blk WS := fun pc => bif Nat.blt pc 27 then (bif Nat.beq pc 0 then (oAld 0 <| oGet (fgW) 1 11 <| oIld 1 <| oI 2 <| oC3 (cW_X0_get) <| oAld 0 <| oGet (fgW) 1 0 <| oAddW <| oAld 0 <| oGet (fgW) 1 1 <| oAddW <| oIld 2 <| oCGe 27 <| oI 1 <| oTo 28) else oNo) else (bif Nat.blt pc 28 then (bif Nat.beq pc 27 then (oI 0 <| oTo 28) else oNo) else (bif Nat.beq pc 28 then (oZret) else oNo))
theorem tX1_isOver_ok : ∀ pc, bOk (encW) (bdW) mX1_isOver 0 0 pc (tX1_isOver pc) := fun pc => (tNode (tLeaf (okAldn iX1_isOver_0 rfl <| okGet (vFgW) iX1_isOver_1 <| okIldn iX1_isOver_4 rfl <| okIc iX1_isOver_5 <| okC3 (qW_X0_get iX1_isOver_6) <| okAldn iX1_isOver_9 rfl <| okGet (vFgW) iX1_isOver_10 <| okAddW iX1_isOver_13 <| okAldn iX1_isOver_14 rfl <| okGet (vFgW) iX1_isOver_15 <| okAddW iX1_isOver_18 <| okIldn iX1_isOver_19 rfl <| okCGe (tl rfl) iX1_isOver_20 <| okIc iX1_isOver_23 <| okGoto (tl rfl) iX1_isOver_24)) (tNode (tLeaf (okIc iX1_isOver_27 <| okTo (tl rfl))) (tLeaf (okZret iX1_isOver_28 rfl)))) pc
def wFate (w : WS) (t : Int) : Int := if t < wI (w.1 3 - w.1 1) then 2 else if t < w.1 3 then 1 else 0
theorem wFate_b (w : WS) (t : Int) : 0 ≤ wFate w t ∧ wFate w t ≤ 2 := by
  unfold wFate
  split
  · omega
  · split <;> omega
def sX1_fateOf : Int → WS → KW → Prop := fun t s K => xB t ∧ (0 ≤ wFate s t → wFate s t ≤ 2 → K [pI (wFate s t)] s)
theorem mX1_fateOf_ok : mOk encW bdW mX1_fateOf (atR 0 (a1 sX1_fateOf)) := by
  refine mOVa1 kX1_fateOf (fun _ => rfl) (fun t s K h hb => wx_go [] 9 tX1_fateOf_ok rfl ?_)
  obtain ⟨h1, h2⟩ := h
  have hK := h2 (wFate_b s t).1 (wFate_b s t).2
  unfold wFate at hK
  by_cases c1 : t < wI (s.1 3 - s.1 1)
  · rw [if_pos c1] at hK
    repeat' (first | (refine And.intro ?_ ?_) | intro _)
    all_goals first | omega | exact hK
  · by_cases c2 : t < s.1 3
    · rw [if_neg c1, if_pos c2] at hK
      repeat' (first | (refine And.intro ?_ ?_) | intro _)
      all_goals first | omega | exact hK
    · rw [if_neg c1, if_neg c2] at hK
      repeat' (first | (refine And.intro ?_ ?_) | intro _)
      all_goals first | omega | exact hK
abbrev wTakenOf (w : WS) (i k : Int) : Prop := wG w 4 i 3 = k ∧ (wG w 4 i 5 = 0 ∨ wG w 4 i 5 = 1)
def sX1_isTakenOf : Int → Int → WS → KW → Prop := fun i k s K => (xB i ∧ xB k) ∧ (wTakenOf s i k → K [pI 1] s) ∧ (¬ wTakenOf s i k → K [pI 0] s)
theorem mX1_isTakenOf_ok : mOk encW bdW mX1_isTakenOf (atR 0 (a2 sX1_isTakenOf)) := by
  refine mOVa2 kX1_isTakenOf (fun _ _ => rfl) (fun i k s K h hb => wx_go [] 9 tX1_isTakenOf_ok rfl ?_)
  obtain ⟨h1, h2, h3⟩ := h
  repeat' (first | (refine And.intro ?_ ?_) | intro _)
  all_goals first | omega | exact h2 (by omega) | exact h3 (by omega)
abbrev wHas (w : WS) (i : Int) : Prop := wG w 1 i 6 ≠ -1
def sX1_hasResult : Int → WS → KW → Prop := fun i s K => xB i ∧ (wHas s i → K [pI 1] s) ∧ (¬ wHas s i → K [pI 0] s)
theorem mX1_hasResult_ok : mOk encW bdW mX1_hasResult (atR 0 (a1 sX1_hasResult)) := by
  refine mOVa1 kX1_hasResult (fun _ => rfl) (fun i s K h hb => wx_go [] 9 tX1_hasResult_ok rfl ?_)
  obtain ⟨h1, h2, h3⟩ := h
  repeat' (first | (refine And.intro ?_ ?_) | intro _)
  all_goals first | omega | exact h2 (by omega) | exact h3 (by omega)
abbrev wRipe (w : WS) (i p : Int) : Prop := wI (wG w 1 i 2 + w.1 0) < p
def sX1_isRipe : Int → Int → WS → KW → Prop := fun i p s K => (xB i ∧ xB p) ∧ (wRipe s i p → K [pI 1] s) ∧ (¬ wRipe s i p → K [pI 0] s)
theorem mX1_isRipe_ok : mOk encW bdW mX1_isRipe (atR 0 (a2 sX1_isRipe)) := by
  refine mOVa2 kX1_isRipe (fun _ _ => rfl) (fun i p s K h hb => wx_go [] 9 tX1_isRipe_ok rfl ?_)
  obtain ⟨h1, h2, h3⟩ := h
  repeat' (first | (refine And.intro ?_ ?_) | intro _)
  all_goals first | omega | exact h2 (by omega) | exact h3 (by omega)
abbrev wOver (w : WS) (i p : Int) : Prop := wI (wI (wG w 1 i 2 + w.1 0) + w.1 1) < p
def sX1_isOver : Int → Int → WS → KW → Prop := fun i p s K => (xB i ∧ xB p) ∧ (wOver s i p → K [pI 1] s) ∧ (¬ wOver s i p → K [pI 0] s)
theorem mX1_isOver_ok : mOk encW bdW mX1_isOver (atR 0 (a2 sX1_isOver)) := by
  refine mOVa2 kX1_isOver (fun _ _ => rfl) (fun i p s K h hb => wx_go [] 9 tX1_isOver_ok rfl ?_)
  obtain ⟨h1, h2, h3⟩ := h
  repeat' (first | (refine And.intro ?_ ?_) | intro _)
  all_goals first | omega | exact h2 (by omega) | exact h3 (by omega)
def cW_X1_fateOf : Sp WS := atR 0 (a1 sX1_fateOf)
theorem qW_X1_fateOf {M : XI} {rc rs pc pc2 : Nat} (d : xl_Ca M pc mX1_fateOf pc2) : cOk encW bdW M rc rs pc pc2 2 cW_X1_fateOf := cSame mX1_fateOf_ok vX1_fateOf d wcl rfl lenW recW
def cW_X1_hasResult : Sp WS := atR 0 (a1 sX1_hasResult)
theorem qW_X1_hasResult {M : XI} {rc rs pc pc2 : Nat} (d : xl_Ca M pc mX1_hasResult pc2) : cOk encW bdW M rc rs pc pc2 2 cW_X1_hasResult := cSame mX1_hasResult_ok vX1_hasResult d wcl rfl lenW recW
def cW_X1_isRipe : Sp WS := atR 0 (a2 sX1_isRipe)
theorem qW_X1_isRipe {M : XI} {rc rs pc pc2 : Nat} (d : xl_Ca M pc mX1_isRipe pc2) : cOk encW bdW M rc rs pc pc2 3 cW_X1_isRipe := cSame mX1_isRipe_ok vX1_isRipe d wcl rfl lenW recW
def cW_X1_isOver : Sp WS := atR 0 (a2 sX1_isOver)
theorem qW_X1_isOver {M : XI} {rc rs pc pc2 : Nat} (d : xl_Ca M pc mX1_isOver pc2) : cOk encW bdW M rc rs pc pc2 3 cW_X1_isOver := cSame mX1_isOver_ok vX1_isOver d wcl rfl lenW recW
-- X1_touches: heads []
def tX1_touches : Nat → Blk WS := fun pc => bif Nat.blt pc 53 then (bif Nat.beq pc 0 then (oAld 0 <| oGet (fgW) 1 11 <| oIld 1 <| oI 0 <| oC3 (cW_X0_get) <| oIld 2 <| oCNe 53 <| oAld 0 <| oGet (fgW) 1 11 <| oIld 1 <| oI 1 <| oC3 (cW_X0_get) <| oAld 0 <| oGet (fgW) 1 0 <| oSubW <| oIld 3 <| oCGt 53 <| oAld 0 <| oGet (fgW) 1 11 <| oIld 1 <| oI 2 <| oC3 (cW_X0_get) <| oAld 0 <| oGet (fgW) 1 0 <| oAddW <| oIld 3 <| oCLt 53 <| oI 1 <| oTo 54) else oNo) else (bif Nat.blt pc 54 then (bif Nat.beq pc 53 then (oI 0 <| oTo 54) else oNo) else (bif Nat.beq pc 54 then (oZret) else oNo))
theorem tX1_touches_ok : ∀ pc, bOk (encW) (bdW) mX1_touches 0 0 pc (tX1_touches pc) := fun pc => (tNode (tLeaf (okAldn iX1_touches_0 rfl <| okGet (vFgW) iX1_touches_1 <| okIldn iX1_touches_4 rfl <| okIc iX1_touches_5 <| okC3 (qW_X0_get iX1_touches_6) <| okIldn iX1_touches_9 rfl <| okCNe (tl rfl) iX1_touches_10 <| okAldn iX1_touches_13 rfl <| okGet (vFgW) iX1_touches_14 <| okIldn iX1_touches_17 rfl <| okIc iX1_touches_18 <| okC3 (qW_X0_get iX1_touches_19) <| okAldn iX1_touches_22 rfl <| okGet (vFgW) iX1_touches_23 <| okSubW iX1_touches_26 <| okIldn iX1_touches_27 rfl <| okCGt (tl rfl) iX1_touches_28 <| okAldn iX1_touches_31 rfl <| okGet (vFgW) iX1_touches_32 <| okIldn iX1_touches_35 rfl <| okIc iX1_touches_36 <| okC3 (qW_X0_get iX1_touches_37) <| okAldn iX1_touches_40 rfl <| okGet (vFgW) iX1_touches_41 <| okAddW iX1_touches_44 <| okIldn iX1_touches_45 rfl <| okCLt (tl rfl) iX1_touches_46 <| okIc iX1_touches_49 <| okGoto (tl rfl) iX1_touches_50)) (tNode (tLeaf (okIc iX1_touches_53 <| okTo (tl rfl))) (tLeaf (okZret iX1_touches_54 rfl)))) pc
-- X1_turnOf: heads []
def tX1_turnOf : Nat → Blk WS := fun pc => bif Nat.beq pc 0 then (oAld 0 <| oGet (fgW) 1 11 <| oIld 1 <| oI 2 <| oC3 (cW_X0_get) <| oI 6 <| oMulW <| oAld 0 <| oGet (fgW) 1 11 <| oIld 1 <| oI 0 <| oC3 (cW_X0_get) <| oAddW <| oIret) else oNo
theorem tX1_turnOf_ok : ∀ pc, bOk (encW) (bdW) mX1_turnOf 0 0 pc (tX1_turnOf pc) := fun pc => (tLeaf (okAldn iX1_turnOf_0 rfl <| okGet (vFgW) iX1_turnOf_1 <| okIldn iX1_turnOf_4 rfl <| okIc iX1_turnOf_5 <| okC3 (qW_X0_get iX1_turnOf_6) <| okBi iX1_turnOf_9 (by decide) <| okMulW iX1_turnOf_11 <| okAldn iX1_turnOf_12 rfl <| okGet (vFgW) iX1_turnOf_13 <| okIldn iX1_turnOf_16 rfl <| okIc iX1_turnOf_17 <| okC3 (qW_X0_get iX1_turnOf_18) <| okAddW iX1_turnOf_21 <| okIret iX1_turnOf_22 rfl)) pc
-- X1_ripening: heads [4]
def tX1_ripening : Nat → Blk WS := fun pc => bif Nat.blt pc 39 then (bif Nat.blt pc 4 then (bif Nat.beq pc 0 then (oI 0 <| oIst 2 <| oI 0 <| oIst 3 <| oM [true, true, true, true] (oTo 4)) else oNo) else (bif Nat.beq pc 4 then (oIld 3 <| oAld 0 <| oGet (fgW) 1 11 <| oGet (fgW) 0 3 <| oCGe 45 <| oAld 0 <| oIld 3 <| oAld 0 <| oGet (fgW) 1 3 <| oC3 (cW_X1_isRipe) <| oZNe 39 <| oAld 0 <| oIld 3 <| oIld 1 <| oC3 (cW_X1_isRipe) <| oZEq 39 <| oInc 2 1 <| oTo 39) else oNo)) else (bif Nat.blt pc 45 then (bif Nat.beq pc 39 then (oInc 3 1 <| oM [true, true, true, true] (oTo 4)) else oNo) else (bif Nat.beq pc 45 then (oIld 2 <| oIret) else oNo))
theorem tX1_ripening_ok : ∀ pc, bOk (encW) (bdW) mX1_ripening 0 0 pc (tX1_ripening pc) := fun pc => (tNode (tNode (tLeaf (okIc iX1_ripening_0 <| okIstn iX1_ripening_1 rfl (by decide) <| okIc iX1_ripening_2 <| okIstn iX1_ripening_3 rfl (by decide) <| okM (okTo (tl rfl)))) (tLeaf (okIldn iX1_ripening_4 rfl <| okAldn iX1_ripening_5 rfl <| okGet (vFgW) iX1_ripening_6 <| okGet (vFgW) iX1_ripening_9 <| okCGe (tl rfl) iX1_ripening_12 <| okAldn iX1_ripening_15 rfl <| okIldn iX1_ripening_16 rfl <| okAldn iX1_ripening_17 rfl <| okGet (vFgW) iX1_ripening_18 <| okC3 (qW_X1_isRipe iX1_ripening_21) <| okZNe (tl rfl) iX1_ripening_24 <| okAldn iX1_ripening_27 rfl <| okIldn iX1_ripening_28 rfl <| okIldn iX1_ripening_29 rfl <| okC3 (qW_X1_isRipe iX1_ripening_30) <| okZEq (tl rfl) iX1_ripening_33 <| okInc iX1_ripening_36 (by decide) <| okTo (tl rfl)))) (tNode (tLeaf (okInc iX1_ripening_39 (by decide) <| okGotoM (tl rfl) iX1_ripening_42)) (tLeaf (okIldn iX1_ripening_45 rfl <| okIret iX1_ripening_46 rfl)))) pc
abbrev wTouch (w : WS) (i k t : Int) : Prop := wG w 1 i 0 = k ∧ wI (wG w 1 i 1 - w.1 0) ≤ t ∧ t ≤ wI (wG w 1 i 2 + w.1 0)
def sX1_touches : Int → Int → Int → WS → KW → Prop := fun i k t s K => (xB i ∧ xB k ∧ xB t) ∧ (wTouch s i k t → K [pI 1] s) ∧ (¬ wTouch s i k t → K [pI 0] s)
theorem mX1_touches_ok : mOk encW bdW mX1_touches (atR 0 (a3 sX1_touches)) := by
  refine mOVa3 kX1_touches (fun _ _ _ => rfl) (fun i k t s K h hb => wx_go [] 9 tX1_touches_ok rfl ?_)
  obtain ⟨h1, h2, h3⟩ := h
  repeat' (first | (refine And.intro ?_ ?_) | intro _)
  all_goals first | omega | exact h2 (by omega) | exact h3 (by omega)
def cW_X1_touches : Sp WS := atR 0 (a3 sX1_touches)
theorem qW_X1_touches {M : XI} {rc rs pc pc2 : Nat} (d : xl_Ca M pc mX1_touches pc2) : cOk encW bdW M rc rs pc pc2 4 cW_X1_touches := cSame mX1_touches_ok vX1_touches d wcl rfl lenW recW
def wTurn (w : WS) (i : Int) : Int := wI (wI (wG w 1 i 2 * 6) + wG w 1 i 0)
def sX1_turnOf : Int → WS → KW → Prop := fun i s K => xB i ∧ (xB (wTurn s i) → K [pI (wTurn s i)] s)
theorem mX1_turnOf_ok : mOk encW bdW mX1_turnOf (atR 0 (a1 sX1_turnOf)) := by
  refine mOVa1 kX1_turnOf (fun _ => rfl) (fun i s K h hb => wx_go [] 9 tX1_turnOf_ok rfl ?_)
  obtain ⟨h1, h2⟩ := h
  have hK := h2 (wI_B _)
  repeat' (first | (refine And.intro ?_ ?_) | intro _)
  all_goals first | omega | exact hK
def cW_X1_turnOf : Sp WS := atR 0 (a1 sX1_turnOf)
theorem qW_X1_turnOf {M : XI} {rc rs pc pc2 : Nat} (d : xl_Ca M pc mX1_turnOf pc2) : cOk encW bdW M rc rs pc pc2 2 cW_X1_turnOf := cSame mX1_turnOf_ok vX1_turnOf d wcl rfl lenW recW
end
section
/-! ===== World: loops that ask ===== -/
section WXJ
variable {σ : Type} {enc : σ → XH} {bd : σ → Prop} {M : XI} {rc rs : Nat}
theorem wx_J {T : Nat → Blk σ} (cut : List Nat) (n : Nat) {Po : PS → σ → Prop} {Pt : σ → Prop} {pc : Nat} {L : PL} {st : PS} {s : σ} (hT : ∀ pc, bOk enc bd M rc rs pc (T pc)) (hlt : Nat.blt pc 1000000 = true) (h : ∀ J : JP σ, (∀ v s, Po v s → J 1000000 [] v s) → (∀ pc L st s, wX enc bd M rc rs Po Pt pc L st s → J pc L st s) → T pc (wp T cut J n) L st s) : wX enc bd M rc rs Po Pt pc L st s :=
  wx_go cut n hT hlt (h _ (fun _ _ q => q) (fun _ _ _ _ q => q))
end WXJ
theorem cntI_t {P : Int → Bool} {n : Nat} {i : Int} (h : P i = true) : cntI P (n + 1) i = 1 + cntI P n (i + 1) := by rw [cntI, h]; rfl
theorem cntI_f {P : Int → Bool} {n : Nat} {i : Int} (h : P i = false) : cntI P (n + 1) i = cntI P n (i + 1) := by rw [cntI, h]; simp
-- X1_firstTouched: heads [2]
def tX1_firstTouched : Nat → Blk WS := fun pc => bif Nat.blt pc 25 then (bif Nat.blt pc 2 then (bif Nat.beq pc 0 then (oI 0 <| oIst 3 <| oM [true, true, true, true] (oTo 2)) else oNo) else (bif Nat.beq pc 2 then (oIld 3 <| oAld 0 <| oGet (fgW) 1 11 <| oGet (fgW) 0 3 <| oCGe 31 <| oAld 0 <| oIld 3 <| oIld 1 <| oIld 2 <| oC4 (cW_X1_touches) <| oZEq 25 <| oIld 3 <| oIret) else oNo)) else (bif Nat.blt pc 31 then (bif Nat.beq pc 25 then (oInc 3 1 <| oM [true, true, true, true] (oTo 2)) else oNo) else (bif Nat.beq pc 31 then (oI (-1) <| oIret) else oNo))
theorem tX1_firstTouched_ok : ∀ pc, bOk (encW) (bdW) mX1_firstTouched 0 0 pc (tX1_firstTouched pc) := fun pc => (tNode (tNode (tLeaf (okIc iX1_firstTouched_0 <| okIstn iX1_firstTouched_1 rfl (by decide) <| okM (okTo (tl rfl)))) (tLeaf (okIldn iX1_firstTouched_2 rfl <| okAldn iX1_firstTouched_3 rfl <| okGet (vFgW) iX1_firstTouched_4 <| okGet (vFgW) iX1_firstTouched_7 <| okCGe (tl rfl) iX1_firstTouched_10 <| okAldn iX1_firstTouched_13 rfl <| okIldn iX1_firstTouched_14 rfl <| okIldn iX1_firstTouched_15 rfl <| okIldn iX1_firstTouched_16 rfl <| okC4 (qW_X1_touches iX1_firstTouched_17) <| okZEq (tl rfl) iX1_firstTouched_20 <| okIldn iX1_firstTouched_23 rfl <| okIret iX1_firstTouched_24 rfl))) (tNode (tLeaf (okInc iX1_firstTouched_25 (by decide) <| okGotoM (tl rfl) iX1_firstTouched_28)) (tLeaf (okIc iX1_firstTouched_31 <| okIret iX1_firstTouched_32 rfl)))) pc
-- X1_touchedFrom: heads [6]
def tX1_touchedFrom : Nat → Blk WS := fun pc => bif Nat.blt pc 6 then (bif Nat.beq pc 0 then (oI 0 <| oIst 4 <| oIld 1 <| oIst 5 <| oM [true, false, true, true, true, true] (oTo 6)) else oNo) else (bif Nat.blt pc 43 then (bif Nat.beq pc 6 then (oIld 5 <| oZLt 43 <| oIld 5 <| oAld 0 <| oGet (fgW) 1 11 <| oGet (fgW) 0 3 <| oCGe 43 <| oAld 0 <| oIld 5 <| oIld 2 <| oIld 3 <| oC4 (cW_X1_touches) <| oZEq 43 <| oInc 4 1 <| oInc 5 1 <| oM [true, false, true, true, true, true] (oTo 6)) else oNo) else (bif Nat.beq pc 43 then (oIld 4 <| oIret) else oNo))
theorem tX1_touchedFrom_ok : ∀ pc, bOk (encW) (bdW) mX1_touchedFrom 0 0 pc (tX1_touchedFrom pc) := fun pc => (tNode (tLeaf (okIc iX1_touchedFrom_0 <| okIst iX1_touchedFrom_1 (by decide) <| okIldn iX1_touchedFrom_3 rfl <| okIst iX1_touchedFrom_4 (by decide) <| okM (okTo (tl rfl)))) (tNode (tLeaf (okIld iX1_touchedFrom_6 <| okZLt (tl rfl) iX1_touchedFrom_8 <| okIld iX1_touchedFrom_11 <| okAldn iX1_touchedFrom_13 rfl <| okGet (vFgW) iX1_touchedFrom_14 <| okGet (vFgW) iX1_touchedFrom_17 <| okCGe (tl rfl) iX1_touchedFrom_20 <| okAldn iX1_touchedFrom_23 rfl <| okIld iX1_touchedFrom_24 <| okIldn iX1_touchedFrom_26 rfl <| okIldn iX1_touchedFrom_27 rfl <| okC4 (qW_X1_touches iX1_touchedFrom_28) <| okZEq (tl rfl) iX1_touchedFrom_31 <| okInc iX1_touchedFrom_34 (by decide) <| okInc iX1_touchedFrom_37 (by decide) <| okGotoM (tl rfl) iX1_touchedFrom_40)) (tLeaf (okIld iX1_touchedFrom_43 <| okIret iX1_touchedFrom_45 rfl)))) pc
-- X1_placeFor: heads [2]
def tX1_placeFor : Nat → Blk WS := fun pc => bif Nat.blt pc 48 then (bif Nat.blt pc 2 then (bif Nat.beq pc 0 then (oI 0 <| oIst 3 <| oM [true, true, true, true, false, false] (oTo 2)) else oNo) else (bif Nat.blt pc 47 then (bif Nat.beq pc 2 then (oIld 3 <| oAld 0 <| oGet (fgW) 1 11 <| oGet (fgW) 0 3 <| oCGe 69 <| oAld 0 <| oGet (fgW) 1 11 <| oIld 3 <| oI 0 <| oC3 (cW_X0_get) <| oIst 4 <| oIld 4 <| oIld 1 <| oCNe 47 <| oAld 0 <| oGet (fgW) 1 11 <| oIld 3 <| oI 1 <| oC3 (cW_X0_get) <| oIld 2 <| oCLe 47 <| oI 1 <| oTo 48) else oNo) else (bif Nat.beq pc 47 then (oI 0 <| oTo 48) else oNo))) else (bif Nat.blt pc 63 then (bif Nat.blt pc 61 then (bif Nat.beq pc 48 then (oIst 5 <| oIld 4 <| oIld 1 <| oCGt 61 <| oIld 5 <| oZEq 63 <| oTo 61) else oNo) else (bif Nat.beq pc 61 then (oIld 3 <| oIret) else oNo)) else (bif Nat.blt pc 69 then (bif Nat.beq pc 63 then (oInc 3 1 <| oM [true, true, true, true, false, false] (oTo 2)) else oNo) else (bif Nat.beq pc 69 then (oAld 0 <| oGet (fgW) 1 11 <| oGet (fgW) 0 3 <| oIret) else oNo)))
theorem tX1_placeFor_ok : ∀ pc, bOk (encW) (bdW) mX1_placeFor 0 0 pc (tX1_placeFor pc) := fun pc => (tNode (tNode (tLeaf (okIc iX1_placeFor_0 <| okIstn iX1_placeFor_1 rfl (by decide) <| okM (okTo (tl rfl)))) (tNode (tLeaf (okIldn iX1_placeFor_2 rfl <| okAldn iX1_placeFor_3 rfl <| okGet (vFgW) iX1_placeFor_4 <| okGet (vFgW) iX1_placeFor_7 <| okCGe (tl rfl) iX1_placeFor_10 <| okAldn iX1_placeFor_13 rfl <| okGet (vFgW) iX1_placeFor_14 <| okIldn iX1_placeFor_17 rfl <| okIc iX1_placeFor_18 <| okC3 (qW_X0_get iX1_placeFor_19) <| okIst iX1_placeFor_22 (by decide) <| okIld iX1_placeFor_24 <| okIldn iX1_placeFor_26 rfl <| okCNe (tl rfl) iX1_placeFor_27 <| okAldn iX1_placeFor_30 rfl <| okGet (vFgW) iX1_placeFor_31 <| okIldn iX1_placeFor_34 rfl <| okIc iX1_placeFor_35 <| okC3 (qW_X0_get iX1_placeFor_36) <| okIldn iX1_placeFor_39 rfl <| okCLe (tl rfl) iX1_placeFor_40 <| okIc iX1_placeFor_43 <| okGoto (tl rfl) iX1_placeFor_44)) (tLeaf (okIc iX1_placeFor_47 <| okTo (tl rfl))))) (tNode (tNode (tLeaf (okIst iX1_placeFor_48 (by decide) <| okIld iX1_placeFor_50 <| okIldn iX1_placeFor_52 rfl <| okCGt (tl rfl) iX1_placeFor_53 <| okIld iX1_placeFor_56 <| okZEq (tl rfl) iX1_placeFor_58 <| okTo (tl rfl))) (tLeaf (okIldn iX1_placeFor_61 rfl <| okIret iX1_placeFor_62 rfl))) (tNode (tLeaf (okInc iX1_placeFor_63 (by decide) <| okGotoM (tl rfl) iX1_placeFor_66)) (tLeaf (okAldn iX1_placeFor_69 rfl <| okGet (vFgW) iX1_placeFor_70 <| okGet (vFgW) iX1_placeFor_73 <| okIret iX1_placeFor_76 rfl))))) pc
-- X1_leastMark: heads [4]
def tX1_leastMark : Nat → Blk WS := fun pc => bif Nat.blt pc 55 then (bif Nat.blt pc 4 then (bif Nat.beq pc 0 then (oI (-1) <| oIst 2 <| oI 0 <| oIst 3 <| oM [true, true, true, true, false] (oTo 4)) else oNo) else (bif Nat.blt pc 35 then (bif Nat.beq pc 4 then (oIld 3 <| oAld 0 <| oGet (fgW) 1 10 <| oGet (fgW) 0 3 <| oCGe 68 <| oIld 3 <| oIld 1 <| oCEq 62 <| oAld 0 <| oGet (fgW) 1 10 <| oIld 3 <| oI 2 <| oC3 (cW_X0_get) <| oZEq 35 <| oTo 62) else oNo) else (bif Nat.beq pc 35 then (oAld 0 <| oGet (fgW) 1 10 <| oIld 3 <| oI 0 <| oC3 (cW_X0_get) <| oIst 4 <| oIld 2 <| oZGe 55 <| oIld 4 <| oTo 61) else oNo))) else (bif Nat.blt pc 62 then (bif Nat.blt pc 61 then (bif Nat.beq pc 55 then (oIld 2 <| oIld 4 <| oMin <| oTo 61) else oNo) else (bif Nat.beq pc 61 then (oIst 2 <| oTo 62) else oNo)) else (bif Nat.blt pc 68 then (bif Nat.beq pc 62 then (oInc 3 1 <| oM [true, true, true, true, false] (oTo 4)) else oNo) else (bif Nat.beq pc 68 then (oIld 2 <| oIret) else oNo)))
theorem tX1_leastMark_ok : ∀ pc, bOk (encW) (bdW) mX1_leastMark 0 0 pc (tX1_leastMark pc) := fun pc => (tNode (tNode (tLeaf (okIc iX1_leastMark_0 <| okIstn iX1_leastMark_1 rfl (by decide) <| okIc iX1_leastMark_2 <| okIstn iX1_leastMark_3 rfl (by decide) <| okM (okTo (tl rfl)))) (tNode (tLeaf (okIldn iX1_leastMark_4 rfl <| okAldn iX1_leastMark_5 rfl <| okGet (vFgW) iX1_leastMark_6 <| okGet (vFgW) iX1_leastMark_9 <| okCGe (tl rfl) iX1_leastMark_12 <| okIldn iX1_leastMark_15 rfl <| okIldn iX1_leastMark_16 rfl <| okCEq (tl rfl) iX1_leastMark_17 <| okAldn iX1_leastMark_20 rfl <| okGet (vFgW) iX1_leastMark_21 <| okIldn iX1_leastMark_24 rfl <| okIc iX1_leastMark_25 <| okC3 (qW_X0_get iX1_leastMark_26) <| okZEq (tl rfl) iX1_leastMark_29 <| okGoto (tl rfl) iX1_leastMark_32)) (tLeaf (okAldn iX1_leastMark_35 rfl <| okGet (vFgW) iX1_leastMark_36 <| okIldn iX1_leastMark_39 rfl <| okIc iX1_leastMark_40 <| okC3 (qW_X0_get iX1_leastMark_41) <| okIst iX1_leastMark_44 (by decide) <| okIldn iX1_leastMark_46 rfl <| okZGe (tl rfl) iX1_leastMark_47 <| okIld iX1_leastMark_50 <| okGoto (tl rfl) iX1_leastMark_52)))) (tNode (tNode (tLeaf (okIldn iX1_leastMark_55 rfl <| okIld iX1_leastMark_56 <| okMin iX1_leastMark_58 <| okTo (tl rfl))) (tLeaf (okIstn iX1_leastMark_61 rfl (by decide) <| okTo (tl rfl)))) (tNode (tLeaf (okInc iX1_leastMark_62 (by decide) <| okGotoM (tl rfl) iX1_leastMark_65)) (tLeaf (okIldn iX1_leastMark_68 rfl <| okIret iX1_leastMark_69 rfl))))) pc
-- X1_sentOf: heads [4]
def tX1_sentOf : Nat → Blk WS := fun pc => bif Nat.blt pc 4 then (bif Nat.beq pc 0 then (oI 0 <| oIst 2 <| oI 0 <| oIst 3 <| oM [true, true, true, true] (oTo 4)) else oNo) else (bif Nat.blt pc 28 then (bif Nat.beq pc 4 then (oIld 3 <| oI 6 <| oCGe 28 <| oIld 2 <| oAld 0 <| oGet (fgW) 1 15 <| oIld 3 <| oIld 1 <| oC3 (cW_X0_get) <| oAddW <| oIst 2 <| oInc 3 1 <| oM [true, true, true, true] (oTo 4)) else oNo) else (bif Nat.beq pc 28 then (oIld 2 <| oIret) else oNo))
theorem tX1_sentOf_ok : ∀ pc, bOk (encW) (bdW) mX1_sentOf 0 0 pc (tX1_sentOf pc) := fun pc => (tNode (tLeaf (okIc iX1_sentOf_0 <| okIstn iX1_sentOf_1 rfl (by decide) <| okIc iX1_sentOf_2 <| okIstn iX1_sentOf_3 rfl (by decide) <| okM (okTo (tl rfl)))) (tNode (tLeaf (okIldn iX1_sentOf_4 rfl <| okBi iX1_sentOf_5 (by decide) <| okCGe (tl rfl) iX1_sentOf_7 <| okIldn iX1_sentOf_10 rfl <| okAldn iX1_sentOf_11 rfl <| okGet (vFgW) iX1_sentOf_12 <| okIldn iX1_sentOf_15 rfl <| okIldn iX1_sentOf_16 rfl <| okC3 (qW_X0_get iX1_sentOf_17) <| okAddW iX1_sentOf_20 <| okIstn iX1_sentOf_21 rfl (by decide) <| okInc iX1_sentOf_22 (by decide) <| okGotoM (tl rfl) iX1_sentOf_25)) (tLeaf (okIldn iX1_sentOf_28 rfl <| okIret iX1_sentOf_29 rfl)))) pc
-- X1_dueBehind: heads [8]
def tX1_dueBehind : Nat → Blk WS := fun pc => bif Nat.blt pc 84 then (bif Nat.blt pc 8 then (bif Nat.beq pc 0 then (oI (-1) <| oIst 3 <| oI 0 <| oIst 4 <| oI 0 <| oIst 5 <| oM [true, true, true, true, true, true, false] (oTo 8)) else oNo) else (bif Nat.blt pc 59 then (bif Nat.beq pc 8 then (oIld 5 <| oAld 0 <| oGet (fgW) 1 11 <| oGet (fgW) 0 3 <| oCGe 97 <| oAld 0 <| oIld 5 <| oAld 0 <| oGet (fgW) 1 3 <| oC3 (cW_X1_isRipe) <| oZEq 91 <| oAld 0 <| oIld 5 <| oIld 2 <| oC3 (cW_X1_isRipe) <| oZEq 59 <| oAld 0 <| oIld 5 <| oAld 0 <| oGet (fgW) 1 3 <| oC3 (cW_X1_isOver) <| oZNe 59 <| oTo 91) else oNo) else (bif Nat.beq pc 59 then (oAld 0 <| oIld 5 <| oC2 (cW_X1_turnOf) <| oIst 6 <| oIld 6 <| oIld 1 <| oCLe 91 <| oIld 3 <| oZLt 84 <| oIld 6 <| oIld 4 <| oCGe 91 <| oTo 84) else oNo))) else (bif Nat.blt pc 91 then (bif Nat.beq pc 84 then (oIld 5 <| oIst 3 <| oIld 6 <| oIst 4 <| oTo 91) else oNo) else (bif Nat.blt pc 97 then (bif Nat.beq pc 91 then (oInc 5 1 <| oM [true, true, true, true, true, true, false] (oTo 8)) else oNo) else (bif Nat.beq pc 97 then (oIld 3 <| oIret) else oNo)))
theorem tX1_dueBehind_ok : ∀ pc, bOk (encW) (bdW) mX1_dueBehind 0 0 pc (tX1_dueBehind pc) := fun pc => (tNode (tNode (tLeaf (okIc iX1_dueBehind_0 <| okIstn iX1_dueBehind_1 rfl (by decide) <| okIc iX1_dueBehind_2 <| okIst iX1_dueBehind_3 (by decide) <| okIc iX1_dueBehind_5 <| okIst iX1_dueBehind_6 (by decide) <| okM (okTo (tl rfl)))) (tNode (tLeaf (okIld iX1_dueBehind_8 <| okAldn iX1_dueBehind_10 rfl <| okGet (vFgW) iX1_dueBehind_11 <| okGet (vFgW) iX1_dueBehind_14 <| okCGe (tl rfl) iX1_dueBehind_17 <| okAldn iX1_dueBehind_20 rfl <| okIld iX1_dueBehind_21 <| okAldn iX1_dueBehind_23 rfl <| okGet (vFgW) iX1_dueBehind_24 <| okC3 (qW_X1_isRipe iX1_dueBehind_27) <| okZEq (tl rfl) iX1_dueBehind_30 <| okAldn iX1_dueBehind_33 rfl <| okIld iX1_dueBehind_34 <| okIldn iX1_dueBehind_36 rfl <| okC3 (qW_X1_isRipe iX1_dueBehind_37) <| okZEq (tl rfl) iX1_dueBehind_40 <| okAldn iX1_dueBehind_43 rfl <| okIld iX1_dueBehind_44 <| okAldn iX1_dueBehind_46 rfl <| okGet (vFgW) iX1_dueBehind_47 <| okC3 (qW_X1_isOver iX1_dueBehind_50) <| okZNe (tl rfl) iX1_dueBehind_53 <| okGoto (tl rfl) iX1_dueBehind_56)) (tLeaf (okAldn iX1_dueBehind_59 rfl <| okIld iX1_dueBehind_60 <| okC2 (qW_X1_turnOf iX1_dueBehind_62) <| okIst iX1_dueBehind_65 (by decide) <| okIld iX1_dueBehind_67 <| okIldn iX1_dueBehind_69 rfl <| okCLe (tl rfl) iX1_dueBehind_70 <| okIldn iX1_dueBehind_73 rfl <| okZLt (tl rfl) iX1_dueBehind_74 <| okIld iX1_dueBehind_77 <| okIld iX1_dueBehind_79 <| okCGe (tl rfl) iX1_dueBehind_81 <| okTo (tl rfl))))) (tNode (tLeaf (okIld iX1_dueBehind_84 <| okIstn iX1_dueBehind_86 rfl (by decide) <| okIld iX1_dueBehind_87 <| okIst iX1_dueBehind_89 (by decide) <| okTo (tl rfl))) (tNode (tLeaf (okInc iX1_dueBehind_91 (by decide) <| okGotoM (tl rfl) iX1_dueBehind_94)) (tLeaf (okIldn iX1_dueBehind_97 rfl <| okIret iX1_dueBehind_98 rfl))))) pc
def wRipens (w : WS) (p : Int) : Int → Bool := fun i => decide (¬ wRipe w i (w.1 3) ∧ wRipe w i p)
def wRipening (w : WS) (p : Int) : Int := cntI (wRipens w p) (wZ w 1).toNat 0
theorem X1_ripening_loop {K : KW} {Pt : WS → Prop} (s : WS) (p : Int) (hp : xB p) (hb : bdW s) : ∀ (m : Nat) (i n : Int), 0 ≤ i → i ≤ max 0 (wZ s 1) → m = (wZ s 1 - i).toNat → K [pI (n + cntI (wRipens s p) m i)] s → wX encW bdW mX1_ripening 0 0 K Pt 4 [some (pR 0), some (pI p), some (pI n), some (pI i)] [] s := by
  intro m
  have hz : xB (wZ s 1) := (hb.2 1).1
  induction m with
  | zero =>
    intro i n h0 h1 hm hK
    refine wx_J [4] 9 tX1_ripening_ok rfl (fun J hR hJ => ?_)
    rw [cntI, Int.add_zero] at hK
    intro _
    refine ⟨⟨⟨by omega, by omega⟩, hz⟩, fun _ => hR _ _ hK, fun c => ?_⟩
    have c : i < wZ s 1 := c
    omega
  | succ m ih =>
    intro i n h0 h1 hm hK
    refine wx_J [4] 9 tX1_ripening_ok rfl (fun J hR hJ => ?_)
    have g0 := ih (i + 1) n (by omega) (by omega) (by omega)
    have g1 := ih (i + 1) (n + 1) (by omega) (by omega) (by omega)
    have e0 : (¬ wRipe s i (s.1 3) ∧ wRipe s i p) → K [pI (n + 1 + cntI (wRipens s p) m (i + 1))] s := fun c => by
      rw [cntI_t (decide_eq_true c), ← Int.add_assoc] at hK; exact hK
    have e1 : ¬ (¬ wRipe s i (s.1 3) ∧ wRipe s i p) → K [pI (n + cntI (wRipens s p) m (i + 1))] s := fun c => by
      rw [cntI_f (decide_eq_false c)] at hK; exact hK
    intro _
    refine ⟨⟨⟨by omega, by omega⟩, hz⟩, fun c => ?_, fun c => ?_⟩
    · have c : wZ s 1 ≤ i := c
      omega
    · repeat' (first | (refine And.intro ?_ ?_) | intro _)
      all_goals first | omega | exact hJ _ _ _ _ (g0 (e1 (by omega))) | exact hJ _ _ _ _ (g1 (e0 (by omega)))
def sX1_ripening : Int → WS → KW → Prop := fun p s K => xB p ∧ (xB (wRipening s p) → K [pI (wRipening s p)] s)
theorem mX1_ripening_ok : mOk encW bdW mX1_ripening (atR 0 (a1 sX1_ripening)) := by
  refine mOVa1 kX1_ripening (fun _ => rfl) (fun p s K h hb => wx_J [4] 9 tX1_ripening_ok rfl (fun J hR hJ => ?_))
  obtain ⟨h1, h2⟩ := h
  have hz : xB (wZ s 1) := (hb.2 1).1
  have hc := cntI_b (wRipens s p) (wZ s 1).toNat 0
  have hK := h2 ⟨by unfold wRipening; omega, by unfold wRipening; omega⟩
  exact hJ _ _ _ _ (X1_ripening_loop s p h1 hb (wZ s 1).toNat 0 0 (by omega) (by omega) (by omega) (by rw [Int.zero_add]; exact hK))
def ftL (w : WS) (k t : Int) : Nat → Int → Int
  | 0, _ => -1
  | n + 1, i => if wTouch w i k t then i else ftL w k t n (i + 1)
def wFirst (w : WS) (k t : Int) : Int := ftL w k t (wZ w 1).toNat 0
theorem ftL_b (w : WS) (k t : Int) : ∀ (n : Nat) (i : Int), 0 ≤ i → -1 ≤ ftL w k t n i ∧ ftL w k t n i < i + n ∧ (ftL w k t n i = -1 ∨ i ≤ ftL w k t n i)
  | 0, i, h => by unfold ftL; omega
  | n + 1, i, h => by
    have := ftL_b w k t n (i + 1) (by omega)
    unfold ftL
    split <;> omega
theorem X1_firstTouched_loop {K : KW} {Pt : WS → Prop} (s : WS) (k t : Int) (hk : xB k) (ht : xB t) (hb : bdW s) : ∀ (m : Nat) (i : Int), 0 ≤ i → i ≤ max 0 (wZ s 1) → m = (wZ s 1 - i).toNat → K [pI (ftL s k t m i)] s → wX encW bdW mX1_firstTouched 0 0 K Pt 2 [some (pR 0), some (pI k), some (pI t), some (pI i)] [] s := by
  intro m
  have hz : xB (wZ s 1) := (hb.2 1).1
  induction m with
  | zero =>
    intro i h0 h1 hm hK
    refine wx_J [2] 9 tX1_firstTouched_ok rfl (fun J hR hJ => ?_)
    intro _
    refine ⟨⟨⟨by omega, by omega⟩, hz⟩, fun _ => hR _ _ hK, fun c => ?_⟩
    have c : i < wZ s 1 := c
    omega
  | succ m ih =>
    intro i h0 h1 hm hK
    refine wx_J [2] 9 tX1_firstTouched_ok rfl (fun J hR hJ => ?_)
    have g0 := ih (i + 1) (by omega) (by omega) (by omega)
    rw [ftL] at hK
    intro _
    refine ⟨⟨⟨by omega, by omega⟩, hz⟩, fun c => ?_, fun c => ?_⟩
    · have c : wZ s 1 ≤ i := c
      omega
    · refine ⟨⟨⟨by omega, by omega⟩, hk, ht⟩, fun c1 => ?_, fun c1 => ?_⟩
      · rw [if_pos c1] at hK
        repeat' (first | (refine And.intro ?_ ?_) | intro _)
        all_goals first | omega | exact hR _ _ hK
      · rw [if_neg c1] at hK
        repeat' (first | (refine And.intro ?_ ?_) | intro _)
        all_goals first | omega | exact hJ _ _ _ _ (g0 hK)
def sX1_firstTouched : Int → Int → WS → KW → Prop := fun k t s K => (xB k ∧ xB t) ∧ (xB (wFirst s k t) → K [pI (wFirst s k t)] s)
theorem mX1_firstTouched_ok : mOk encW bdW mX1_firstTouched (atR 0 (a2 sX1_firstTouched)) := by
  refine mOVa2 kX1_firstTouched (fun _ _ => rfl) (fun k t s K h hb => wx_J [2] 9 tX1_firstTouched_ok rfl (fun J hR hJ => ?_))
  obtain ⟨⟨h1, h3⟩, h2⟩ := h
  have hz : xB (wZ s 1) := (hb.2 1).1
  have hc := ftL_b s k t (wZ s 1).toNat 0 (by omega)
  have hK := h2 ⟨by unfold wFirst; omega, by unfold wFirst; omega⟩
  exact hJ _ _ _ _ (X1_firstTouched_loop s k t h1 h3 hb (wZ s 1).toNat 0 (by omega) (by omega) (by omega) hK)
def tfL (w : WS) (k t : Int) : Nat → Int → Int
  | 0, _ => 0
  | n + 1, i => if wTouch w i k t then 1 + tfL w k t n (i + 1) else 0
/-- how many touch from a place on -/
def wMany (w : WS) (f k t : Int) : Int := if 0 ≤ f then tfL w k t (wZ w 1 - f).toNat f else 0
theorem tfL_b (w : WS) (k t : Int) : ∀ (n : Nat) (i : Int), 0 ≤ tfL w k t n i ∧ tfL w k t n i ≤ n
  | 0, i => by simp [tfL]
  | n + 1, i => by
    have := tfL_b w k t n (i + 1)
    unfold tfL
    split <;> omega
theorem X1_touchedFrom_loop {K : KW} {Pt : WS → Prop} (s : WS) (f k t : Int) (hk : xB k) (ht : xB t) (hb : bdW s) : ∀ (m : Nat) (i n : Int), 0 ≤ i → xB i → m = (wZ s 1 - i).toNat → K [pI (n + tfL s k t m i)] s → wX encW bdW mX1_touchedFrom 0 0 K Pt 6 [some (pR 0), none, some (pI k), some (pI t), some (pI n), some (pI i)] [] s := by
  intro m
  have hz : xB (wZ s 1) := (hb.2 1).1
  induction m with
  | zero =>
    intro i n h0 h1 hm hK
    refine wx_J [6] 9 tX1_touchedFrom_ok rfl (fun J hR hJ => ?_)
    rw [tfL, Int.add_zero] at hK
    refine ⟨h1, fun c => absurd c (by omega), fun c1 _ => ⟨⟨h1, hz⟩, fun _ => hR _ _ hK, fun c => ?_⟩⟩
    have c : i < wZ s 1 := c
    omega
  | succ m ih =>
    intro i n h0 h1 hm hK
    refine wx_J [6] 9 tX1_touchedFrom_ok rfl (fun J hR hJ => ?_)
    have g0 := ih (i + 1) (n + 1) (by omega) ⟨by omega, by omega⟩ (by omega)
    rw [tfL] at hK
    refine ⟨h1, fun c => absurd c (by omega), fun c1 _ => ⟨⟨h1, hz⟩, fun c => ?_, fun c => ?_⟩⟩
    · have c : wZ s 1 ≤ i := c
      omega
    · refine ⟨⟨h1, hk, ht⟩, fun c1 => ?_, fun c1 => ?_⟩
      · rw [if_pos c1, ← Int.add_assoc] at hK
        repeat' (first | (refine And.intro ?_ ?_) | intro _)
        all_goals first | omega | exact hJ _ _ _ _ (g0 hK)
      · rw [if_neg c1, Int.add_zero] at hK
        repeat' (first | (refine And.intro ?_ ?_) | intro _)
        all_goals first | omega | exact hR _ _ hK
def sX1_touchedFrom : Int → Int → Int → WS → KW → Prop := fun f k t s K => (xB f ∧ xB k ∧ xB t) ∧ (xB (wMany s f k t) → K [pI (wMany s f k t)] s)
theorem mX1_touchedFrom_ok : mOk encW bdW mX1_touchedFrom (atR 0 (a3 sX1_touchedFrom)) := by
  refine mOVa3 kX1_touchedFrom (fun _ _ _ => rfl) (fun f k t s K h hb => wx_J [6] 9 tX1_touchedFrom_ok rfl (fun J hR hJ => ?_))
  obtain ⟨⟨h1, h3, h4⟩, h2⟩ := h
  have hz : xB (wZ s 1) := (hb.2 1).1
  have hc := tfL_b s k t (wZ s 1 - f).toNat f
  by_cases c : 0 ≤ f
  · have hK := h2 ⟨by unfold wMany; rw [if_pos c]; omega, by unfold wMany; rw [if_pos c]; omega⟩
    rw [wMany, if_pos c] at hK
    exact hJ _ _ _ _ (X1_touchedFrom_loop s f k t h3 h4 hb _ f 0 c h1 rfl (by rw [Int.zero_add]; exact hK))
  · have hK := h2 ⟨by unfold wMany; rw [if_neg c]; omega, by unfold wMany; rw [if_neg c]; omega⟩
    rw [wMany, if_neg c] at hK
    refine hJ _ _ _ _ (wx_J [6] 9 tX1_touchedFrom_ok rfl (fun J hR hJ => ?_))
    repeat' (first | (refine And.intro ?_ ?_) | intro _)
    all_goals first | omega | exact hR _ _ hK
def pfL (w : WS) (k t : Int) : Nat → Int → Int
  | 0, i => i
  | n + 1, i => if k < wG w 1 i 0 ∨ (wG w 1 i 0 = k ∧ t < wG w 1 i 1) then i else pfL w k t n (i + 1)
def wPlace (w : WS) (k t : Int) : Int := pfL w k t (wZ w 1).toNat 0
theorem pfL_b (w : WS) (k t : Int) : ∀ (n : Nat) (i : Int), i ≤ pfL w k t n i ∧ pfL w k t n i ≤ i + n
  | 0, i => by simp [pfL]
  | n + 1, i => by
    have := pfL_b w k t n (i + 1)
    unfold pfL
    split <;> omega
theorem X1_placeFor_loop {K : KW} {Pt : WS → Prop} (s : WS) (k t : Int) (hk : xB k) (ht : xB t) (hb : bdW s) (h00 : 0 ≤ wZ s 1) : ∀ (m : Nat) (i : Int), 0 ≤ i → i ≤ wZ s 1 → m = (wZ s 1 - i).toNat → K [pI (pfL s k t m i)] s → wX encW bdW mX1_placeFor 0 0 K Pt 2 [some (pR 0), some (pI k), some (pI t), some (pI i), none, none] [] s := by
  intro m
  have hz : xB (wZ s 1) := (hb.2 1).1
  induction m with
  | zero =>
    intro i h0 h1 hm hK
    refine wx_J [2] 9 tX1_placeFor_ok rfl (fun J hR hJ => ?_)
    intro _
    refine ⟨⟨⟨by omega, by omega⟩, hz⟩, fun _ _ => hR _ _ ?_, fun c => ?_⟩
    · have e : i = wZ s 1 := by omega
      rw [pfL, e] at hK
      exact hK
    · have c : i < wZ s 1 := c
      omega
  | succ m ih =>
    intro i h0 h1 hm hK
    refine wx_J [2] 9 tX1_placeFor_ok rfl (fun J hR hJ => ?_)
    have g0 := ih (i + 1) (by omega) (by omega) (by omega)
    rw [pfL] at hK
    intro _
    refine ⟨⟨⟨by omega, by omega⟩, hz⟩, fun c => ?_, fun c => ?_⟩
    · have c : wZ s 1 ≤ i := c
      omega
    · have eT : (k < wG s 1 i 0 ∨ (wG s 1 i 0 = k ∧ t < wG s 1 i 1)) → K [pI i] s := fun c1 => by rw [if_pos c1] at hK; exact hK
      have eF : ¬ (k < wG s 1 i 0 ∨ (wG s 1 i 0 = k ∧ t < wG s 1 i 1)) → K [pI (pfL s k t m (i + 1))] s := fun c1 => by rw [if_neg c1] at hK; exact hK
      repeat' (first | (refine And.intro ?_ ?_) | intro _)
      all_goals first | omega | exact hR _ _ (eT (by omega)) | exact hJ _ _ _ _ (g0 (eF (by omega)))
def sX1_placeFor : Int → Int → WS → KW → Prop := fun k t s K => (xB k ∧ xB t ∧ 0 ≤ wZ s 1) ∧ (xB (wPlace s k t) → K [pI (wPlace s k t)] s)
theorem mX1_placeFor_ok : mOk encW bdW mX1_placeFor (atR 0 (a2 sX1_placeFor)) := by
  refine mOVa2 kX1_placeFor (fun _ _ => rfl) (fun k t s K h hb => wx_J [2] 9 tX1_placeFor_ok rfl (fun J hR hJ => ?_))
  obtain ⟨⟨h1, h3, h4⟩, h2⟩ := h
  have hz : xB (wZ s 1) := (hb.2 1).1
  have hc := pfL_b s k t (wZ s 1).toNat 0
  have hK := h2 ⟨by unfold wPlace; omega, by unfold wPlace; omega⟩
  exact hJ _ _ _ _ (X1_placeFor_loop s k t h1 h3 hb h4 (wZ s 1).toNat 0 (by omega) (by omega) (by omega) hK)
end
section
/-! ===== World: leastMark, sentOf, dueBehind ===== -/
def cW_X1_ripening : Sp WS := atR 0 (a1 sX1_ripening)
theorem qW_X1_ripening {M : XI} {rc rs pc pc2 : Nat} (d : xl_Ca M pc mX1_ripening pc2) : cOk encW bdW M rc rs pc pc2 2 cW_X1_ripening := cSame mX1_ripening_ok vX1_ripening d wcl rfl lenW recW
def cW_X1_firstTouched : Sp WS := atR 0 (a2 sX1_firstTouched)
theorem qW_X1_firstTouched {M : XI} {rc rs pc pc2 : Nat} (d : xl_Ca M pc mX1_firstTouched pc2) : cOk encW bdW M rc rs pc pc2 3 cW_X1_firstTouched := cSame mX1_firstTouched_ok vX1_firstTouched d wcl rfl lenW recW
def cW_X1_touchedFrom : Sp WS := atR 0 (a3 sX1_touchedFrom)
theorem qW_X1_touchedFrom {M : XI} {rc rs pc pc2 : Nat} (d : xl_Ca M pc mX1_touchedFrom pc2) : cOk encW bdW M rc rs pc pc2 4 cW_X1_touchedFrom := cSame mX1_touchedFrom_ok vX1_touchedFrom d wcl rfl lenW recW
def cW_X1_placeFor : Sp WS := atR 0 (a2 sX1_placeFor)
theorem qW_X1_placeFor {M : XI} {rc rs pc pc2 : Nat} (d : xl_Ca M pc mX1_placeFor pc2) : cOk encW bdW M rc rs pc pc2 3 cW_X1_placeFor := cSame mX1_placeFor_ok vX1_placeFor d wcl rfl lenW recW
def lmL (w : WS) (lo : Int) : Nat → Int → Int → Int
  | 0, _, l => l
  | n + 1, s, l => lmL w lo n (s + 1) (if s = lo ∨ wG w 0 s 2 ≠ 0 then l else if l < 0 then wG w 0 s 0 else min l (wG w 0 s 0))
def wLeast (w : WS) (lo : Int) : Int := lmL w lo (wZ w 0).toNat 0 (-1)
theorem min_B {a b : Int} (h1 : xB a) (h2 : xB b) : xB (min a b) := ⟨by omega, by omega⟩
theorem max_B {a b : Int} (h1 : xB a) (h2 : xB b) : xB (max a b) := ⟨by omega, by omega⟩
theorem lmL_B (w : WS) (lo : Int) (hb : bdW w) : ∀ (n : Nat) (s l : Int), xB l → xB (lmL w lo n s l)
  | 0, _, _, h => h
  | n + 1, s, l, h => by
    refine lmL_B w lo hb n (s + 1) _ ?_
    split
    · exact h
    · split
      · exact wG_B hb
      · exact min_B h (wG_B hb)
theorem X1_leastMark_loop {K : KW} {Pt : WS → Prop} (s : WS) (lo : Int) (hlo : xB lo) (hb : bdW s) : ∀ (m : Nat) (i l : Int), 0 ≤ i → xB l → i ≤ max 0 (wZ s 0) → m = (wZ s 0 - i).toNat → K [pI (lmL s lo m i l)] s → wX encW bdW mX1_leastMark 0 0 K Pt 4 [some (pR 0), some (pI lo), some (pI l), some (pI i), none] [] s := by
  intro m
  have hz : xB (wZ s 0) := (hb.2 0).1
  induction m with
  | zero =>
    intro i l h0 hl h1 hm hK
    refine wx_J [4] 9 tX1_leastMark_ok rfl (fun J hR hJ => ?_)
    intro _
    refine ⟨⟨⟨by omega, by omega⟩, hz⟩, fun _ => hR _ _ hK, fun c => ?_⟩
    have c : i < wZ s 0 := c
    omega
  | succ m ih =>
    intro i l h0 hl h1 hm hK
    refine wx_J [4] 9 tX1_leastMark_ok rfl (fun J hR hJ => ?_)
    have hB := wG_B (t := 0) (i := i) (c := 0) hb
    have g1 := ih (i + 1) l (by omega) hl (by omega) (by omega)
    have g2 := ih (i + 1) (wG s 0 i 0) (by omega) hB (by omega) (by omega)
    have g3 := ih (i + 1) (min l (wG s 0 i 0)) (by omega) (min_B hl hB) (by omega) (by omega)
    rw [lmL] at hK
    have e1 : (i = lo ∨ wG s 0 i 2 ≠ 0) → K [pI (lmL s lo m (i + 1) l)] s := fun c => by rw [if_pos c] at hK; exact hK
    have e2 : ¬ (i = lo ∨ wG s 0 i 2 ≠ 0) → l < 0 → K [pI (lmL s lo m (i + 1) (wG s 0 i 0))] s := fun c c2 => by rw [if_neg c, if_pos c2] at hK; exact hK
    have e3 : ¬ (i = lo ∨ wG s 0 i 2 ≠ 0) → ¬ l < 0 → K [pI (lmL s lo m (i + 1) (min l (wG s 0 i 0)))] s := fun c c2 => by rw [if_neg c, if_neg c2] at hK; exact hK
    intro _
    refine ⟨⟨⟨by omega, by omega⟩, hz⟩, fun c => ?_, fun c => ?_⟩
    · have c : wZ s 0 ≤ i := c
      omega
    · repeat' (first | (refine And.intro ?_ ?_) | intro _)
      all_goals first | omega | exact hJ _ _ _ _ (g1 (e1 (by omega))) | exact hJ _ _ _ _ (g2 (e2 (by omega) (by omega))) | exact hJ _ _ _ _ (g3 (e3 (by omega) (by omega)))
def sX1_leastMark : Int → WS → KW → Prop := fun lo s K => xB lo ∧ (xB (wLeast s lo) → K [pI (wLeast s lo)] s)
theorem mX1_leastMark_ok : mOk encW bdW mX1_leastMark (atR 0 (a1 sX1_leastMark)) := by
  refine mOVa1 kX1_leastMark (fun _ => rfl) (fun lo s K h hb => wx_J [4] 9 tX1_leastMark_ok rfl (fun J hR hJ => ?_))
  obtain ⟨h1, h2⟩ := h
  have hz : xB (wZ s 0) := (hb.2 0).1
  have hK := h2 (lmL_B s lo hb _ _ _ ⟨by omega, by omega⟩)
  exact hJ _ _ _ _ (X1_leastMark_loop s lo h1 hb (wZ s 0).toNat 0 (-1) (by omega) ⟨by omega, by omega⟩ (by omega) (by omega) hK)
def cW_X1_leastMark : Sp WS := atR 0 (a1 sX1_leastMark)
theorem qW_X1_leastMark {M : XI} {rc rs pc pc2 : Nat} (d : xl_Ca M pc mX1_leastMark pc2) : cOk encW bdW M rc rs pc pc2 2 cW_X1_leastMark := cSame mX1_leastMark_ok vX1_leastMark d wcl rfl lenW recW
def wSentOf (w : WS) (k : Int) : Int := sumI (fun i => wG w 5 i k) 6 0 0
theorem X1_sentOf_loop {K : KW} {Pt : WS → Prop} (s : WS) (k : Int) (hk : xB k) (hb : bdW s) : ∀ (m : Nat) (i n : Int), 0 ≤ i → i ≤ 6 → m = (6 - i).toNat → K [pI (sumI (fun i => wG s 5 i k) m i n)] s → wX encW bdW mX1_sentOf 0 0 K Pt 4 [some (pR 0), some (pI k), some (pI n), some (pI i)] [] s := by
  intro m
  induction m with
  | zero =>
    intro i n h0 h1 hm hK
    refine wx_J [4] 9 tX1_sentOf_ok rfl (fun J hR hJ => ?_)
    repeat' (first | (refine And.intro ?_ ?_) | intro _)
    all_goals first | omega | exact hR _ _ hK
  | succ m ih =>
    intro i n h0 h1 hm hK
    refine wx_J [4] 9 tX1_sentOf_ok rfl (fun J hR hJ => ?_)
    have g0 := ih (i + 1) (wI (n + wG s 5 i k)) (by omega) (by omega) (by omega) hK
    repeat' (first | (refine And.intro ?_ ?_) | intro _)
    all_goals first | omega | exact hJ _ _ _ _ g0
def sX1_sentOf : Int → WS → KW → Prop := fun k s K => xB k ∧ (xB (wSentOf s k) → K [pI (wSentOf s k)] s)
theorem mX1_sentOf_ok : mOk encW bdW mX1_sentOf (atR 0 (a1 sX1_sentOf)) := by
  refine mOVa1 kX1_sentOf (fun _ => rfl) (fun k s K h hb => wx_J [4] 9 tX1_sentOf_ok rfl (fun J hR hJ => ?_))
  obtain ⟨h1, h2⟩ := h
  exact hJ _ _ _ _ (X1_sentOf_loop s k h1 hb 6 0 0 (by omega) (by omega) (by omega) (h2 (sumI_B _ _ _ _ ⟨by omega, by omega⟩)))
/-- whose turn it is: found, and its turn -/
abbrev wDueC (w : WS) (pa be i : Int) : Prop := wRipe w i (w.1 3) ∧ ¬ (wRipe w i be ∧ ¬ wOver w i (w.1 3)) ∧ pa < wTurn w i
def dbL (w : WS) (pa be : Int) : Nat → Int → Int → Int → Int
  | 0, _, f, _ => f
  | n + 1, i, f, l => if wDueC w pa be i ∧ (f < 0 ∨ wTurn w i < l) then dbL w pa be n (i + 1) i (wTurn w i) else dbL w pa be n (i + 1) f l
def wDue (w : WS) (pa be : Int) : Int := dbL w pa be (wZ w 1).toNat 0 (-1) 0
theorem dbL_b (w : WS) (pa be : Int) : ∀ (n : Nat) (i f l : Int), 0 ≤ i → (f = -1 ∨ (0 ≤ f ∧ f < i)) → dbL w pa be n i f l = -1 ∨ (0 ≤ dbL w pa be n i f l ∧ dbL w pa be n i f l < i + n)
  | 0, i, f, l, h, h1 => by unfold dbL; omega
  | n + 1, i, f, l, h, h1 => by
    unfold dbL
    split
    · have := dbL_b w pa be n (i + 1) i (wTurn w i) (by omega) (by omega)
      omega
    · have := dbL_b w pa be n (i + 1) f l (by omega) (by omega)
      omega
theorem X1_dueBehind_loop {K : KW} {Pt : WS → Prop} (s : WS) (pa be : Int) (hpa : xB pa) (hbe : xB be) (hb : bdW s) : ∀ (m : Nat) (i f l : Int), 0 ≤ i → xB f → xB l → i ≤ max 0 (wZ s 1) → m = (wZ s 1 - i).toNat → K [pI (dbL s pa be m i f l)] s → wX encW bdW mX1_dueBehind 0 0 K Pt 8 [some (pR 0), some (pI pa), some (pI be), some (pI f), some (pI l), some (pI i), none] [] s := by
  intro m
  have hz : xB (wZ s 1) := (hb.2 1).1
  induction m with
  | zero =>
    intro i f l h0 hf hl h1 hm hK
    refine wx_J [8] 9 tX1_dueBehind_ok rfl (fun J hR hJ => ?_)
    intro _
    refine ⟨⟨⟨by omega, by omega⟩, hz⟩, fun _ => hR _ _ hK, fun c => ?_⟩
    have c : i < wZ s 1 := c
    omega
  | succ m ih =>
    intro i f l h0 hf hl h1 hm hK
    refine wx_J [8] 9 tX1_dueBehind_ok rfl (fun J hR hJ => ?_)
    have g1 := ih (i + 1) f l (by omega) hf hl (by omega) (by omega)
    have g2 := ih (i + 1) i (wTurn s i) (by omega) ⟨by omega, by omega⟩ (wI_B _) (by omega) (by omega)
    rw [dbL] at hK
    have e1 : (wDueC s pa be i ∧ (f < 0 ∨ wTurn s i < l)) → K [pI (dbL s pa be m (i + 1) i (wTurn s i))] s := fun c => by rw [if_pos c] at hK; exact hK
    have e2 : ¬ (wDueC s pa be i ∧ (f < 0 ∨ wTurn s i < l)) → K [pI (dbL s pa be m (i + 1) f l)] s := fun c => by rw [if_neg c] at hK; exact hK
    intro _
    refine ⟨⟨⟨by omega, by omega⟩, hz⟩, fun c => ?_, fun c => ?_⟩
    · have c : wZ s 1 ≤ i := c
      omega
    · repeat' (first | (refine And.intro ?_ ?_) | intro _)
      all_goals first | omega | exact hJ _ _ _ _ (g1 (e2 (by omega))) | exact hJ _ _ _ _ (g2 (e1 (by omega)))
def sX1_dueBehind : Int → Int → WS → KW → Prop := fun pa be s K => (xB pa ∧ xB be) ∧ (xB (wDue s pa be) → K [pI (wDue s pa be)] s)
theorem mX1_dueBehind_ok : mOk encW bdW mX1_dueBehind (atR 0 (a2 sX1_dueBehind)) := by
  refine mOVa2 kX1_dueBehind (fun _ _ => rfl) (fun pa be s K h hb => wx_J [8] 9 tX1_dueBehind_ok rfl (fun J hR hJ => ?_))
  obtain ⟨⟨h1, h3⟩, h2⟩ := h
  have hz : xB (wZ s 1) := (hb.2 1).1
  have hc := dbL_b s pa be (wZ s 1).toNat 0 (-1) 0 (by omega) (by omega)
  have hK := h2 ⟨by unfold wDue; omega, by unfold wDue; omega⟩
  exact hJ _ _ _ _ (X1_dueBehind_loop s pa be h1 h3 hb (wZ s 1).toNat 0 (-1) 0 (by omega) ⟨by omega, by omega⟩ ⟨by omega, by omega⟩ (by omega) (by omega) hK)
def cW_X1_dueBehind : Sp WS := atR 0 (a2 sX1_dueBehind)
theorem qW_X1_dueBehind {M : XI} {rc rs pc pc2 : Nat} (d : xl_Ca M pc mX1_dueBehind pc2) : cOk encW bdW M rc rs pc pc2 3 cW_X1_dueBehind := cSame mX1_dueBehind_ok vX1_dueBehind d wcl rfl lenW recW
-- X1_send: heads []
def tX1_send : Nat → Blk WS := fun pc => bif Nat.beq pc 0 then (oAld 0 <| oGet (fgW) 1 4 <| oI 60 <| oRemT <| oIst 3 <| oAld 0 <| oGet (fgW) 1 12 <| oIld 3 <| oC2 (cW_X0_reach) <| oAld 0 <| oGet (fgW) 1 11 <| oIld 2 <| oI 0 <| oC3 (cW_X0_get) <| oIst 4 <| oAld 0 <| oGet (fgW) 1 12 <| oIld 3 <| oI 0 <| oIld 1 <| oC4 (cW_X0_set) <| oAld 0 <| oGet (fgW) 1 12 <| oIld 3 <| oI 1 <| oIld 4 <| oC4 (cW_X0_set) <| oAld 0 <| oGet (fgW) 1 12 <| oIld 3 <| oI 2 <| oAld 0 <| oGet (fgW) 1 11 <| oIld 2 <| oI 1 <| oC3 (cW_X0_get) <| oC4 (cW_X0_set) <| oAld 0 <| oGet (fgW) 1 12 <| oIld 3 <| oI 3 <| oAld 0 <| oGet (fgW) 1 11 <| oIld 2 <| oI 2 <| oC3 (cW_X0_get) <| oC4 (cW_X0_set) <| oAld 0 <| oGet (fgW) 1 12 <| oIld 3 <| oI 4 <| oAld 0 <| oGet (fgW) 1 11 <| oIld 2 <| oI 3 <| oC3 (cW_X0_get) <| oC4 (cW_X0_set) <| oAld 0 <| oGet (fgW) 1 12 <| oIld 3 <| oI 5 <| oAld 0 <| oGet (fgW) 1 11 <| oIld 2 <| oI 4 <| oC3 (cW_X0_get) <| oC4 (cW_X0_set) <| oAld 0 <| oGet (fgW) 1 15 <| oIld 4 <| oIld 1 <| oI 1 <| oC4 (cW_X0_add) <| oAld 0 <| oDup <| oGet (fgW) 1 4 <| oI 1 <| oAddW <| oPut (fpW) 1 4 <| oVret) else oNo
theorem tX1_send_ok : ∀ pc, bOk (encW) (bdW) mX1_send 0 0 pc (tX1_send pc) := fun pc => (tLeaf (okAldn iX1_send_0 rfl <| okGet (vFgW) iX1_send_1 <| okBi iX1_send_4 (by decide) <| okRemT iX1_send_6 <| okIstn iX1_send_7 rfl (by decide) <| okAldn iX1_send_8 rfl <| okGet (vFgW) iX1_send_9 <| okIldn iX1_send_12 rfl <| okC2 (qW_X0_reach iX1_send_13) <| okAldn iX1_send_16 rfl <| okGet (vFgW) iX1_send_17 <| okIldn iX1_send_20 rfl <| okIc iX1_send_21 <| okC3 (qW_X0_get iX1_send_22) <| okIst iX1_send_25 (by decide) <| okAldn iX1_send_27 rfl <| okGet (vFgW) iX1_send_28 <| okIldn iX1_send_31 rfl <| okIc iX1_send_32 <| okIldn iX1_send_33 rfl <| okC4 (qW_X0_set iX1_send_34) <| okAldn iX1_send_37 rfl <| okGet (vFgW) iX1_send_38 <| okIldn iX1_send_41 rfl <| okIc iX1_send_42 <| okIld iX1_send_43 <| okC4 (qW_X0_set iX1_send_45) <| okAldn iX1_send_48 rfl <| okGet (vFgW) iX1_send_49 <| okIldn iX1_send_52 rfl <| okIc iX1_send_53 <| okAldn iX1_send_54 rfl <| okGet (vFgW) iX1_send_55 <| okIldn iX1_send_58 rfl <| okIc iX1_send_59 <| okC3 (qW_X0_get iX1_send_60) <| okC4 (qW_X0_set iX1_send_63) <| okAldn iX1_send_66 rfl <| okGet (vFgW) iX1_send_67 <| okIldn iX1_send_70 rfl <| okIc iX1_send_71 <| okAldn iX1_send_72 rfl <| okGet (vFgW) iX1_send_73 <| okIldn iX1_send_76 rfl <| okIc iX1_send_77 <| okC3 (qW_X0_get iX1_send_78) <| okC4 (qW_X0_set iX1_send_81) <| okAldn iX1_send_84 rfl <| okGet (vFgW) iX1_send_85 <| okIldn iX1_send_88 rfl <| okIc iX1_send_89 <| okAldn iX1_send_90 rfl <| okGet (vFgW) iX1_send_91 <| okIldn iX1_send_94 rfl <| okIc iX1_send_95 <| okC3 (qW_X0_get iX1_send_96) <| okC4 (qW_X0_set iX1_send_99) <| okAldn iX1_send_102 rfl <| okGet (vFgW) iX1_send_103 <| okIldn iX1_send_106 rfl <| okIc iX1_send_107 <| okAldn iX1_send_108 rfl <| okGet (vFgW) iX1_send_109 <| okIldn iX1_send_112 rfl <| okIc iX1_send_113 <| okC3 (qW_X0_get iX1_send_114) <| okC4 (qW_X0_set iX1_send_117) <| okAldn iX1_send_120 rfl <| okGet (vFgW) iX1_send_121 <| okIld iX1_send_124 <| okIldn iX1_send_126 rfl <| okIc iX1_send_127 <| okC4 (qW_X0_add iX1_send_128) <| okAldn iX1_send_131 rfl <| okDup iX1_send_132 <| okGet (vFgW) iX1_send_133 <| okIc iX1_send_136 <| okAddW iX1_send_137 <| okPut (vFpW) iX1_send_138 <| okVret iX1_send_141 rfl)) pc
def wSend (w : WS) (k i : Int) : WS :=
  let q := Int.tmod (w.1 4) 60
  wFd (wA (wP (wP (wP (wP (wP (wP (wRe w 2 q) 2 q 0 k) 2 q 1 (wG w 1 i 0)) 2 q 2 (wG w 1 i 1)) 2 q 3 (wG w 1 i 2)) 2 q 4 (wG w 1 i 3)) 2 q 5 (wG w 1 i 4)) 5 (wG w 1 i 0) k 1) 4 (wI (w.1 4 + 1))
theorem tmod_B {a b : Int} (ha : xB a) (hb : 0 < b) (hb2 : b ≤ 2147483647) : xB (Int.tmod a b) := by
  have e1 := Int.tmod_lt_of_pos a hb
  have e2 := Int.lt_tmod_of_pos a hb
  exact ⟨by omega, by omega⟩
def sX1_send : Int → Int → WS → KW → Prop := fun k i s K => (xB k ∧ xB i) ∧ K [] (wSend s k i)
theorem mX1_send_ok : mOk encW bdW mX1_send (atR 0 (a2 sX1_send)) := by
  refine mOVa2 kX1_send (fun _ _ => rfl) (fun k i s K h hb => wx_J [] 9 tX1_send_ok rfl (fun J hR hJ => ?_))
  obtain ⟨h1, hK⟩ := h
  have hq := tmod_B (b := 60) (hb.1 4) (by omega) (by omega)
  repeat' (first | (refine And.intro ?_ ?_) | intro _)
  all_goals first | omega | exact hR _ _ hK
def cW_X1_send : Sp WS := atR 0 (a2 sX1_send)
theorem qW_X1_send {M : XI} {rc rs pc pc2 : Nat} (d : xl_Ca M pc mX1_send pc2) : cOk encW bdW M rc rs pc pc2 3 cW_X1_send := cSame mX1_send_ok vX1_send d wcl rfl lenW recW
end
section
/-! ===== World: small changes ===== -/
-- X1_takeBack: heads []
def tX1_takeBack : Nat → Blk WS := fun pc => bif Nat.blt pc 25 then (bif Nat.beq pc 0 then (oAld 0 <| oIld 1 <| oC2 (cW_X1_hasResult) <| oZEq 25 <| oAld 0 <| oI 3 <| oIld 1 <| oC3 (cW_X1_send) <| oAld 0 <| oGet (fgW) 1 11 <| oIld 1 <| oI 6 <| oI (-1) <| oC4 (cW_X0_set) <| oTo 25) else oNo) else (bif Nat.beq pc 25 then (oVret) else oNo)
theorem tX1_takeBack_ok : ∀ pc, bOk (encW) (bdW) mX1_takeBack 0 0 pc (tX1_takeBack pc) := fun pc => (tNode (tLeaf (okAldn iX1_takeBack_0 rfl <| okIldn iX1_takeBack_1 rfl <| okC2 (qW_X1_hasResult iX1_takeBack_2) <| okZEq (tl rfl) iX1_takeBack_5 <| okAldn iX1_takeBack_8 rfl <| okIc iX1_takeBack_9 <| okIldn iX1_takeBack_10 rfl <| okC3 (qW_X1_send iX1_takeBack_11) <| okAldn iX1_takeBack_14 rfl <| okGet (vFgW) iX1_takeBack_15 <| okIldn iX1_takeBack_18 rfl <| okBi iX1_takeBack_19 (by decide) <| okIc iX1_takeBack_21 <| okC4 (qW_X0_set iX1_takeBack_22) <| okTo (tl rfl))) (tLeaf (okVret iX1_takeBack_25 rfl))) pc
-- X1_announce: heads []
def tX1_announce : Nat → Blk WS := fun pc => bif Nat.beq pc 0 then (oAld 0 <| oIld 1 <| oIld 2 <| oC3 (cW_X1_send) <| oAld 0 <| oGet (fgW) 1 11 <| oIld 2 <| oI 6 <| oIld 1 <| oC4 (cW_X0_set) <| oVret) else oNo
theorem tX1_announce_ok : ∀ pc, bOk (encW) (bdW) mX1_announce 0 0 pc (tX1_announce pc) := fun pc => (tLeaf (okAldn iX1_announce_0 rfl <| okIldn iX1_announce_1 rfl <| okIldn iX1_announce_2 rfl <| okC3 (qW_X1_send iX1_announce_3) <| okAldn iX1_announce_6 rfl <| okGet (vFgW) iX1_announce_7 <| okIldn iX1_announce_10 rfl <| okBi iX1_announce_11 (by decide) <| okIldn iX1_announce_13 rfl <| okC4 (qW_X0_set iX1_announce_14) <| okVret iX1_announce_17 rfl)) pc
-- X1_kindOfNew: heads []
def tX1_kindOfNew : Nat → Blk WS := fun pc => bif Nat.blt pc 43 then (bif Nat.blt pc 14 then (bif Nat.beq pc 0 then (oAld 0 <| oIld 1 <| oAld 0 <| oGet (fgW) 1 3 <| oC3 (cW_X1_isRipe) <| oZEq 14 <| oI 2 <| oIret) else oNo) else (bif Nat.blt pc 42 then (bif Nat.beq pc 14 then (oAld 0 <| oGet (fgW) 1 2 <| oZLe 42 <| oAld 0 <| oGet (fgW) 1 11 <| oIld 1 <| oI 3 <| oC3 (cW_X0_get) <| oAld 0 <| oGet (fgW) 1 2 <| oRemT <| oZNe 42 <| oI 1 <| oTo 43) else oNo) else (bif Nat.beq pc 42 then (oI 0 <| oTo 43) else oNo))) else (bif Nat.blt pc 52 then (bif Nat.beq pc 43 then (oIst 2 <| oIld 2 <| oZEq 52 <| oI 0 <| oTo 53) else oNo) else (bif Nat.blt pc 53 then (bif Nat.beq pc 52 then (oI (-1) <| oTo 53) else oNo) else (bif Nat.beq pc 53 then (oIret) else oNo)))
theorem tX1_kindOfNew_ok : ∀ pc, bOk (encW) (bdW) mX1_kindOfNew 0 0 pc (tX1_kindOfNew pc) := fun pc => (tNode (tNode (tLeaf (okAldn iX1_kindOfNew_0 rfl <| okIldn iX1_kindOfNew_1 rfl <| okAldn iX1_kindOfNew_2 rfl <| okGet (vFgW) iX1_kindOfNew_3 <| okC3 (qW_X1_isRipe iX1_kindOfNew_6) <| okZEq (tl rfl) iX1_kindOfNew_9 <| okIc iX1_kindOfNew_12 <| okIret iX1_kindOfNew_13 rfl)) (tNode (tLeaf (okAldn iX1_kindOfNew_14 rfl <| okGet (vFgW) iX1_kindOfNew_15 <| okZLe (tl rfl) iX1_kindOfNew_18 <| okAldn iX1_kindOfNew_21 rfl <| okGet (vFgW) iX1_kindOfNew_22 <| okIldn iX1_kindOfNew_25 rfl <| okIc iX1_kindOfNew_26 <| okC3 (qW_X0_get iX1_kindOfNew_27) <| okAldn iX1_kindOfNew_30 rfl <| okGet (vFgW) iX1_kindOfNew_31 <| okRemT iX1_kindOfNew_34 <| okZNe (tl rfl) iX1_kindOfNew_35 <| okIc iX1_kindOfNew_38 <| okGoto (tl rfl) iX1_kindOfNew_39)) (tLeaf (okIc iX1_kindOfNew_42 <| okTo (tl rfl))))) (tNode (tLeaf (okIstn iX1_kindOfNew_43 rfl (by decide) <| okIldn iX1_kindOfNew_44 rfl <| okZEq (tl rfl) iX1_kindOfNew_45 <| okIc iX1_kindOfNew_48 <| okGoto (tl rfl) iX1_kindOfNew_49)) (tNode (tLeaf (okIc iX1_kindOfNew_52 <| okTo (tl rfl))) (tLeaf (okIret iX1_kindOfNew_53 rfl))))) pc
-- X1_swallowNext: heads []
def tX1_swallowNext : Nat → Blk WS := fun pc => bif Nat.beq pc 0 then (oIld 1 <| oI 1 <| oAddW <| oIst 2 <| oAld 0 <| oGet (fgW) 1 11 <| oIld 1 <| oI 1 <| oAld 0 <| oGet (fgW) 1 11 <| oIld 1 <| oI 1 <| oC3 (cW_X0_get) <| oAld 0 <| oGet (fgW) 1 11 <| oIld 2 <| oI 1 <| oC3 (cW_X0_get) <| oMin <| oC4 (cW_X0_set) <| oAld 0 <| oGet (fgW) 1 11 <| oIld 1 <| oI 2 <| oAld 0 <| oGet (fgW) 1 11 <| oIld 1 <| oI 2 <| oC3 (cW_X0_get) <| oAld 0 <| oGet (fgW) 1 11 <| oIld 2 <| oI 2 <| oC3 (cW_X0_get) <| oMax <| oC4 (cW_X0_set) <| oAld 0 <| oGet (fgW) 1 11 <| oIld 1 <| oI 3 <| oAld 0 <| oGet (fgW) 1 11 <| oIld 2 <| oI 3 <| oC3 (cW_X0_get) <| oC4 (cW_X0_add) <| oAld 0 <| oGet (fgW) 1 11 <| oIld 1 <| oI 4 <| oAld 0 <| oGet (fgW) 1 11 <| oIld 2 <| oI 4 <| oC3 (cW_X0_get) <| oC4 (cW_X0_add) <| oAld 0 <| oGet (fgW) 1 11 <| oIld 1 <| oI 5 <| oAld 0 <| oGet (fgW) 1 11 <| oIld 1 <| oI 5 <| oC3 (cW_X0_get) <| oAld 0 <| oGet (fgW) 1 11 <| oIld 2 <| oI 5 <| oC3 (cW_X0_get) <| oMax <| oC4 (cW_X0_set) <| oAld 0 <| oGet (fgW) 1 11 <| oIld 2 <| oC2 (cW_X0_drop) <| oVret) else oNo
theorem tX1_swallowNext_ok : ∀ pc, bOk (encW) (bdW) mX1_swallowNext 0 0 pc (tX1_swallowNext pc) := fun pc => (tLeaf (okIldn iX1_swallowNext_0 rfl <| okIc iX1_swallowNext_1 <| okAddW iX1_swallowNext_2 <| okIstn iX1_swallowNext_3 rfl (by decide) <| okAldn iX1_swallowNext_4 rfl <| okGet (vFgW) iX1_swallowNext_5 <| okIldn iX1_swallowNext_8 rfl <| okIc iX1_swallowNext_9 <| okAldn iX1_swallowNext_10 rfl <| okGet (vFgW) iX1_swallowNext_11 <| okIldn iX1_swallowNext_14 rfl <| okIc iX1_swallowNext_15 <| okC3 (qW_X0_get iX1_swallowNext_16) <| okAldn iX1_swallowNext_19 rfl <| okGet (vFgW) iX1_swallowNext_20 <| okIldn iX1_swallowNext_23 rfl <| okIc iX1_swallowNext_24 <| okC3 (qW_X0_get iX1_swallowNext_25) <| okMin iX1_swallowNext_28 <| okC4 (qW_X0_set iX1_swallowNext_31) <| okAldn iX1_swallowNext_34 rfl <| okGet (vFgW) iX1_swallowNext_35 <| okIldn iX1_swallowNext_38 rfl <| okIc iX1_swallowNext_39 <| okAldn iX1_swallowNext_40 rfl <| okGet (vFgW) iX1_swallowNext_41 <| okIldn iX1_swallowNext_44 rfl <| okIc iX1_swallowNext_45 <| okC3 (qW_X0_get iX1_swallowNext_46) <| okAldn iX1_swallowNext_49 rfl <| okGet (vFgW) iX1_swallowNext_50 <| okIldn iX1_swallowNext_53 rfl <| okIc iX1_swallowNext_54 <| okC3 (qW_X0_get iX1_swallowNext_55) <| okMax iX1_swallowNext_58 <| okC4 (qW_X0_set iX1_swallowNext_61) <| okAldn iX1_swallowNext_64 rfl <| okGet (vFgW) iX1_swallowNext_65 <| okIldn iX1_swallowNext_68 rfl <| okIc iX1_swallowNext_69 <| okAldn iX1_swallowNext_70 rfl <| okGet (vFgW) iX1_swallowNext_71 <| okIldn iX1_swallowNext_74 rfl <| okIc iX1_swallowNext_75 <| okC3 (qW_X0_get iX1_swallowNext_76) <| okC4 (qW_X0_add iX1_swallowNext_79) <| okAldn iX1_swallowNext_82 rfl <| okGet (vFgW) iX1_swallowNext_83 <| okIldn iX1_swallowNext_86 rfl <| okIc iX1_swallowNext_87 <| okAldn iX1_swallowNext_88 rfl <| okGet (vFgW) iX1_swallowNext_89 <| okIldn iX1_swallowNext_92 rfl <| okIc iX1_swallowNext_93 <| okC3 (qW_X0_get iX1_swallowNext_94) <| okC4 (qW_X0_add iX1_swallowNext_97) <| okAldn iX1_swallowNext_100 rfl <| okGet (vFgW) iX1_swallowNext_101 <| okIldn iX1_swallowNext_104 rfl <| okIc iX1_swallowNext_105 <| okAldn iX1_swallowNext_106 rfl <| okGet (vFgW) iX1_swallowNext_107 <| okIldn iX1_swallowNext_110 rfl <| okIc iX1_swallowNext_111 <| okC3 (qW_X0_get iX1_swallowNext_112) <| okAldn iX1_swallowNext_115 rfl <| okGet (vFgW) iX1_swallowNext_116 <| okIldn iX1_swallowNext_119 rfl <| okIc iX1_swallowNext_120 <| okC3 (qW_X0_get iX1_swallowNext_121) <| okMax iX1_swallowNext_124 <| okC4 (qW_X0_set iX1_swallowNext_127) <| okAldn iX1_swallowNext_130 rfl <| okGet (vFgW) iX1_swallowNext_131 <| okIldn iX1_swallowNext_134 rfl <| okC2 (qW_X0_drop iX1_swallowNext_135) <| okVret iX1_swallowNext_138 rfl)) pc
-- X1_raiseMark: heads []
def tX1_raiseMark : Nat → Blk WS := fun pc => bif Nat.blt pc 23 then (bif Nat.beq pc 0 then (oIld 2 <| oAld 0 <| oGet (fgW) 1 10 <| oIld 1 <| oI 0 <| oC3 (cW_X0_get) <| oCLe 23 <| oAld 0 <| oGet (fgW) 1 10 <| oIld 1 <| oI 0 <| oIld 2 <| oC4 (cW_X0_set) <| oTo 23) else oNo) else (bif Nat.beq pc 23 then (oVret) else oNo)
theorem tX1_raiseMark_ok : ∀ pc, bOk (encW) (bdW) mX1_raiseMark 0 0 pc (tX1_raiseMark pc) := fun pc => (tNode (tLeaf (okIldn iX1_raiseMark_0 rfl <| okAldn iX1_raiseMark_1 rfl <| okGet (vFgW) iX1_raiseMark_2 <| okIldn iX1_raiseMark_5 rfl <| okIc iX1_raiseMark_6 <| okC3 (qW_X0_get iX1_raiseMark_7) <| okCLe (tl rfl) iX1_raiseMark_10 <| okAldn iX1_raiseMark_13 rfl <| okGet (vFgW) iX1_raiseMark_14 <| okIldn iX1_raiseMark_17 rfl <| okIc iX1_raiseMark_18 <| okIldn iX1_raiseMark_19 rfl <| okC4 (qW_X0_set iX1_raiseMark_20) <| okTo (tl rfl))) (tLeaf (okVret iX1_raiseMark_23 rfl))) pc
-- X1_note: heads []
def tX1_note : Nat → Blk WS := fun pc => bif Nat.blt pc 76 then (bif Nat.beq pc 0 then (oAld 0 <| oGet (fgW) 1 14 <| oGet (fgW) 0 3 <| oIst 4 <| oAld 0 <| oGet (fgW) 1 14 <| oIld 4 <| oC2 (cW_X0_open) <| oZEq 76 <| oAld 0 <| oGet (fgW) 1 14 <| oIld 4 <| oI 0 <| oIld 1 <| oC4 (cW_X0_set) <| oAld 0 <| oGet (fgW) 1 14 <| oIld 4 <| oI 1 <| oIld 2 <| oC4 (cW_X0_set) <| oAld 0 <| oGet (fgW) 1 14 <| oIld 4 <| oI 2 <| oIld 3 <| oC4 (cW_X0_set) <| oAld 0 <| oGet (fgW) 1 14 <| oIld 4 <| oI 3 <| oI (-1) <| oC4 (cW_X0_set) <| oAld 0 <| oGet (fgW) 1 14 <| oIld 4 <| oI 5 <| oI (-1) <| oC4 (cW_X0_set) <| oTo 76) else oNo) else (bif Nat.beq pc 76 then (oVret) else oNo)
theorem tX1_note_ok : ∀ pc, bOk (encW) (bdW) mX1_note 0 0 pc (tX1_note pc) := fun pc => (tNode (tLeaf (okAldn iX1_note_0 rfl <| okGet (vFgW) iX1_note_1 <| okGet (vFgW) iX1_note_4 <| okIst iX1_note_7 (by decide) <| okAldn iX1_note_9 rfl <| okGet (vFgW) iX1_note_10 <| okIld iX1_note_13 <| okC2 (qW_X0_open iX1_note_15) <| okZEq (tl rfl) iX1_note_18 <| okAldn iX1_note_21 rfl <| okGet (vFgW) iX1_note_22 <| okIld iX1_note_25 <| okIc iX1_note_27 <| okIldn iX1_note_28 rfl <| okC4 (qW_X0_set iX1_note_29) <| okAldn iX1_note_32 rfl <| okGet (vFgW) iX1_note_33 <| okIld iX1_note_36 <| okIc iX1_note_38 <| okIldn iX1_note_39 rfl <| okC4 (qW_X0_set iX1_note_40) <| okAldn iX1_note_43 rfl <| okGet (vFgW) iX1_note_44 <| okIld iX1_note_47 <| okIc iX1_note_49 <| okIldn iX1_note_50 rfl <| okC4 (qW_X0_set iX1_note_51) <| okAldn iX1_note_54 rfl <| okGet (vFgW) iX1_note_55 <| okIld iX1_note_58 <| okIc iX1_note_60 <| okIc iX1_note_61 <| okC4 (qW_X0_set iX1_note_62) <| okAldn iX1_note_65 rfl <| okGet (vFgW) iX1_note_66 <| okIld iX1_note_69 <| okIc iX1_note_71 <| okIc iX1_note_72 <| okC4 (qW_X0_set iX1_note_73) <| okTo (tl rfl))) (tLeaf (okVret iX1_note_76 rfl))) pc
def wTake (w : WS) (i : Int) : WS := if wHas w i then wP (wSend w 3 i) 1 i 6 (-1) else w
def sX1_takeBack : Int → WS → KW → Prop := fun i s K => xB i ∧ K [] (wTake s i)
theorem mX1_takeBack_ok : mOk encW bdW mX1_takeBack (atR 0 (a1 sX1_takeBack)) := by
  refine mOVa1 kX1_takeBack (fun _ => rfl) (fun i s K h hb => wx_J [] 9 tX1_takeBack_ok rfl (fun J hR hJ => ?_))
  obtain ⟨h1, hK⟩ := h
  unfold wTake at hK
  by_cases c : wHas s i
  · rw [if_pos c] at hK
    repeat' (first | (refine And.intro ?_ ?_) | intro _)
    all_goals first | omega | exact hR _ _ hK | contradiction
  · rw [if_neg c] at hK
    repeat' (first | (refine And.intro ?_ ?_) | intro _)
    all_goals first | omega | exact hR _ _ hK | contradiction
def cW_X1_takeBack : Sp WS := atR 0 (a1 sX1_takeBack)
theorem qW_X1_takeBack {M : XI} {rc rs pc pc2 : Nat} (d : xl_Ca M pc mX1_takeBack pc2) : cOk encW bdW M rc rs pc pc2 2 cW_X1_takeBack := cSame mX1_takeBack_ok vX1_takeBack d wcl rfl lenW recW
def wAnn (w : WS) (k i : Int) : WS := wP (wSend w k i) 1 i 6 k
def sX1_announce : Int → Int → WS → KW → Prop := fun k i s K => (xB k ∧ xB i) ∧ K [] (wAnn s k i)
theorem mX1_announce_ok : mOk encW bdW mX1_announce (atR 0 (a2 sX1_announce)) := by
  refine mOVa2 kX1_announce (fun _ _ => rfl) (fun k i s K h hb => wx_J [] 9 tX1_announce_ok rfl (fun J hR hJ => ?_))
  obtain ⟨h1, hK⟩ := h
  repeat' (first | (refine And.intro ?_ ?_) | intro _)
  all_goals first | omega | exact hR _ _ hK
def cW_X1_announce : Sp WS := atR 0 (a2 sX1_announce)
theorem qW_X1_announce {M : XI} {rc rs pc pc2 : Nat} (d : xl_Ca M pc mX1_announce pc2) : cOk encW bdW M rc rs pc pc2 3 cW_X1_announce := cSame mX1_announce_ok vX1_announce d wcl rfl lenW recW
def wKind (w : WS) (i : Int) : Int := if wRipe w i (w.1 3) then 2 else if 0 < w.1 2 ∧ Int.tmod (wG w 1 i 3) (w.1 2) = 0 then 0 else -1
def sX1_kindOfNew : Int → WS → KW → Prop := fun i s K => xB i ∧ (xB (wKind s i) → K [pI (wKind s i)] s)
theorem wKind_b (w : WS) (i : Int) : -1 ≤ wKind w i ∧ wKind w i ≤ 2 := by
  unfold wKind
  split
  · omega
  · split <;> omega
theorem mX1_kindOfNew_ok : mOk encW bdW mX1_kindOfNew (atR 0 (a1 sX1_kindOfNew)) := by
  refine mOVa1 kX1_kindOfNew (fun _ => rfl) (fun i s K h hb => wx_J [] 9 tX1_kindOfNew_ok rfl (fun J hR hJ => ?_))
  obtain ⟨h1, h2⟩ := h
  have hw := wKind_b s i
  have hK := h2 ⟨by omega, by omega⟩
  unfold wKind at hK
  have hB := wG_B (t := 1) (i := i) (c := 3) hb
  have hE := hb.1 2
  have hm : 0 < s.1 2 → xB (Int.tmod (wG s 1 i 3) (s.1 2)) := fun c => tmod_B hB c hE.2
  by_cases c : wRipe s i (s.1 3)
  · rw [if_pos c] at hK
    repeat' (first | (refine And.intro ?_ ?_) | intro _)
    all_goals first | omega | exact hR _ _ hK | contradiction
  · rw [if_neg c] at hK
    by_cases c2 : 0 < s.1 2
    · have hm := hm c2
      by_cases c3 : Int.tmod (wG s 1 i 3) (s.1 2) = 0
      · rw [if_pos ⟨c2, c3⟩] at hK
        repeat' (first | (refine And.intro ?_ ?_) | intro _)
        all_goals first | omega | exact hR _ _ hK | contradiction
      · rw [if_neg (fun z => c3 z.2)] at hK
        repeat' (first | (refine And.intro ?_ ?_) | intro _)
        all_goals first | omega | exact hR _ _ hK | contradiction
    · rw [if_neg (fun z => c2 z.1)] at hK
      repeat' (first | (refine And.intro ?_ ?_) | intro _)
      all_goals first | omega | exact hR _ _ hK | contradiction
def cW_X1_kindOfNew : Sp WS := atR 0 (a1 sX1_kindOfNew)
theorem qW_X1_kindOfNew {M : XI} {rc rs pc pc2 : Nat} (d : xl_Ca M pc mX1_kindOfNew pc2) : cOk encW bdW M rc rs pc pc2 2 cW_X1_kindOfNew := cSame mX1_kindOfNew_ok vX1_kindOfNew d wcl rfl lenW recW
def wSwallow (w : WS) (i : Int) : WS :=
  let j := wI (i + 1)
  let w1 := wP w 1 i 1 (min (wG w 1 i 1) (wG w 1 j 1))
  let w2 := wP w1 1 i 2 (max (wG w1 1 i 2) (wG w1 1 j 2))
  let w3 := wA w2 1 i 3 (wG w2 1 j 3)
  let w4 := wA w3 1 i 4 (wG w3 1 j 4)
  let w5 := wP w4 1 i 5 (max (wG w4 1 i 5) (wG w4 1 j 5))
  wDr w5 1 j
def sX1_swallowNext : Int → WS → KW → Prop := fun i s K => (xB i ∧ wZ s 1 ≤ 161) ∧ K [] (wSwallow s i)
theorem mX1_swallowNext_ok : mOk encW bdW mX1_swallowNext (atR 0 (a1 sX1_swallowNext)) := by
  refine mOVa1 kX1_swallowNext (fun _ => rfl) (fun i s K h hb => wx_J [] 9 tX1_swallowNext_ok rfl (fun J hR hJ => ?_))
  obtain ⟨⟨h1, h2⟩, hK⟩ := h
  repeat' (first | (refine And.intro ?_ ?_) | intro _)
  all_goals first | omega | exact h2 | exact hR _ _ hK
def cW_X1_swallowNext : Sp WS := atR 0 (a1 sX1_swallowNext)
theorem qW_X1_swallowNext {M : XI} {rc rs pc pc2 : Nat} (d : xl_Ca M pc mX1_swallowNext pc2) : cOk encW bdW M rc rs pc pc2 2 cW_X1_swallowNext := cSame mX1_swallowNext_ok vX1_swallowNext d wcl rfl lenW recW
def wRaise (w : WS) (r t : Int) : WS := if wG w 0 r 0 < t then wP w 0 r 0 t else w
def sX1_raiseMark : Int → Int → WS → KW → Prop := fun r t s K => (xB r ∧ xB t) ∧ K [] (wRaise s r t)
theorem mX1_raiseMark_ok : mOk encW bdW mX1_raiseMark (atR 0 (a2 sX1_raiseMark)) := by
  refine mOVa2 kX1_raiseMark (fun _ _ => rfl) (fun r t s K h hb => wx_J [] 9 tX1_raiseMark_ok rfl (fun J hR hJ => ?_))
  obtain ⟨h1, hK⟩ := h
  unfold wRaise at hK
  by_cases c : wG s 0 r 0 < t
  · rw [if_pos c] at hK
    repeat' (first | (refine And.intro ?_ ?_) | intro _)
    all_goals first | omega | exact hR _ _ hK
  · rw [if_neg c] at hK
    repeat' (first | (refine And.intro ?_ ?_) | intro _)
    all_goals first | omega | exact hR _ _ hK
def cW_X1_raiseMark : Sp WS := atR 0 (a2 sX1_raiseMark)
theorem qW_X1_raiseMark {M : XI} {rc rs pc pc2 : Nat} (d : xl_Ca M pc mX1_raiseMark pc2) : cOk encW bdW M rc rs pc pc2 3 cW_X1_raiseMark := cSame mX1_raiseMark_ok vX1_raiseMark d wcl rfl lenW recW
def wNote (w : WS) (a r t : Int) : WS := if 0 ≤ wZ w 4 ∧ wZ w 4 < 160 then wP (wP (wP (wP (wP (wOp w 4 (wZ w 4)) 4 (wZ w 4) 0 a) 4 (wZ w 4) 1 r) 4 (wZ w 4) 2 t) 4 (wZ w 4) 3 (-1)) 4 (wZ w 4) 5 (-1) else w
def sX1_note : Int → Int → Int → WS → KW → Prop := fun a r t s K => (xB a ∧ xB r ∧ xB t) ∧ K [] (wNote s a r t)
theorem mX1_note_ok : mOk encW bdW mX1_note (atR 0 (a3 sX1_note)) := by
  refine mOVa3 kX1_note (fun _ _ _ => rfl) (fun a r t s K h hb => wx_J [] 9 tX1_note_ok rfl (fun J hR hJ => ?_))
  obtain ⟨h1, hK⟩ := h
  have hz : xB (wZ s 4) := (hb.2 4).1
  have er : rmT 4 = 160 := rfl
  unfold wNote at hK
  by_cases c : 0 ≤ wZ s 4 ∧ wZ s 4 < 160
  · rw [if_pos c] at hK
    intro _
    refine ⟨hz, fun c2 => ?_, fun c2 => absurd ⟨c.1, Int.le_refl _, c.2⟩ c2⟩
    repeat' (first | (refine And.intro ?_ ?_) | intro _)
    all_goals first | omega | exact hR _ _ hK
  · rw [if_neg c] at hK
    intro _
    refine ⟨hz, fun c2 => absurd ⟨c2.1, c2.2.2⟩ c, fun c2 => ?_⟩
    repeat' (first | (refine And.intro ?_ ?_) | intro _)
    all_goals first | omega | exact hR _ _ hK
def cW_X1_note : Sp WS := atR 0 (a3 sX1_note)
theorem qW_X1_note {M : XI} {rc rs pc pc2 : Nat} (d : xl_Ca M pc mX1_note pc2) : cOk encW bdW M rc rs pc pc2 4 cW_X1_note := cSame mX1_note_ok vX1_note d wcl rfl lenW recW
end
section
/-! ===== World: sizes stay in their rooms; finish, melt, rise ===== -/
section WXB
variable {σ : Type} {enc : σ → XH} {bd : σ → Prop} {M : XI} {rc rs : Nat}
theorem wx_Jb {T : Nat → Blk σ} (cut : List Nat) (n : Nat) {Po : PS → σ → Prop} {Pt : σ → Prop} {pc : Nat} {L : PL} {st : PS} {s : σ} (hT : ∀ pc, bOk enc bd M rc rs pc (T pc)) (hlt : Nat.blt pc 1000000 = true) (h : bd s → ∀ J : JP σ, (∀ v s, Po v s → J 1000000 [] v s) → (∀ pc L st s, wX enc bd M rc rs Po Pt pc L st s → J pc L st s) → T pc (wp T cut J n) L st s) : wX enc bd M rc rs Po Pt pc L st s := by
  have hl : pc < 1000000 := Nat.le_of_ble_eq_true hlt
  rw [wX_lt hl]
  intro hb
  have := wx_J (rc := rc) (rs := rs) cut n hT hlt (h hb)
  rw [wX_lt hl] at this
  exact this hb
end WXB
abbrev wok (w : WS) : Prop := ∀ t, t < 6 → 0 ≤ wZ w t ∧ wZ w t ≤ rmT t
theorem wok_set {w : WS} {t : Nat} {b : TS} (h : wok w) (hb : 0 ≤ b.1 ∧ b.1 ≤ rmT t) : wok (setT w t b) := by
  intro j hj
  show 0 ≤ (bif Nat.beq j t then b else w.2 j).1 ∧ (bif Nat.beq j t then b else w.2 j).1 ≤ rmT j
  cases e : Nat.beq j t with
  | true => rw [nB e]; exact hb
  | false => exact h j hj
theorem wok_Fd {w : WS} {k : Nat} {v : Int} (h : wok w) : wok (wFd w k v) := h
theorem wok_P {w : WS} {t : Nat} {i c v : Int} (ht : t < 6) (h : wok w) : wok (wP w t i c v) := wok_set h (h t ht)
theorem wok_A {w : WS} {t : Nat} {i c v : Int} (ht : t < 6) (h : wok w) : wok (wA w t i c v) := wok_P ht h
theorem wok_Re {w : WS} {t : Nat} {i : Int} (ht : t < 6) (h : wok w) : wok (wRe w t i) := by
  have := h t ht
  refine wok_set h ?_
  show 0 ≤ (if (w.2 t).1 ≤ i ∧ i < rmT t then i + 1 else (w.2 t).1) ∧ (if (w.2 t).1 ≤ i ∧ i < rmT t then i + 1 else (w.2 t).1) ≤ rmT t
  unfold wZ at this
  split <;> omega
theorem wok_Dr {w : WS} {t : Nat} {i : Int} (ht : t < 6) (h : wok w) : wok (wDr w t i) := by
  have := h t ht
  refine wok_set h ?_
  unfold wZ at this
  split
  · show 0 ≤ (w.2 t).1 - 1 ∧ (w.2 t).1 - 1 ≤ rmT t
    omega
  · exact this
theorem wok_Op {w : WS} {t : Nat} {i : Int} (ht : t < 6) (h : wok w) (h2 : wZ w t < rmT t) : wok (wOp w t i) := by
  have := h t ht
  refine wok_set h ?_
  unfold wZ at this h2
  show 0 ≤ (w.2 t).1 + 1 ∧ (w.2 t).1 + 1 ≤ rmT t
  omega
theorem wok_Send {w : WS} {k i : Int} (h : wok w) : wok (wSend w k i) := by
  unfold wSend
  exact wok_Fd (wok_A (by decide) (wok_P (by decide) (wok_P (by decide) (wok_P (by decide) (wok_P (by decide) (wok_P (by decide) (wok_P (by decide) (wok_Re (by decide) h))))))))
theorem wok_Take {w : WS} {i : Int} (h : wok w) : wok (wTake w i) := by
  unfold wTake
  split
  · exact wok_P (by decide) (wok_Send h)
  · exact h
theorem wok_Ann {w : WS} {k i : Int} (h : wok w) : wok (wAnn w k i) := wok_P (by decide) (wok_Send h)
theorem wok_Swallow {w : WS} {i : Int} (h : wok w) : wok (wSwallow w i) :=
  wok_Dr (by decide) (wok_P (by decide) (wok_A (by decide) (wok_A (by decide) (wok_P (by decide) (wok_P (by decide) h)))))
theorem wok_Raise {w : WS} {r t : Int} (h : wok w) : wok (wRaise w r t) := by
  unfold wRaise
  split
  · exact wok_P (by decide) h
  · exact h
theorem wok_Note {w : WS} {a r t : Int} (h : wok w) : wok (wNote w a r t) := by
  unfold wNote
  split
  · next c => exact wok_P (by decide) (wok_P (by decide) (wok_P (by decide) (wok_P (by decide) (wok_P (by decide) (wok_Op (by decide) h c.2)))))
  · exact h
/-! finals.copyRow(slot, sessions, i) -/
def piFS : Nat → Nat := fun k => bif Nat.blt k 2 then 7 + k else 1 + k
theorem lkFS : vLk encW bdW (encTT 40 7 161 7) (bdTT 40 7 161 7) piFS (fun s => (s.2 3, s.2 1)) (fun s b => setT (setT s 3 b.1) 1 b.2) := by
  have hok : ∀ (s : TTS) (j : Nat) (c : XE), (encTT 40 7 161 7 s)[j]? = some c → xl_ok piFS j c := by
    intro s j c h
    match j, h with
    | 0, h => cases h; exact fun aC ρ σ => rfl
    | 1, h => cases h; exact fun aC ρ σ => rfl
    | 2, h => cases h; exact fun aC ρ σ => rfl
    | 3, h => cases h; exact fun aC ρ σ => rfl
    | j + 4, h => cases h
  refine ⟨fun s hb => ⟨⟨⟨by omega, hb.2 3⟩, ⟨by omega, hb.2 1⟩⟩, ⟨fun i j hi hj e => ?_, fun j hj => ?_⟩, hok _⟩, fun s s' hb hb' => ⟨bdW_set (bdW_set hb hb'.1) hb'.2, rfl, ⟨rfl, fun j hj => ?_, fun k hk => ?_⟩, hok _⟩⟩
  · have hi : i < 4 := hi
    have hj : j < 4 := hj
    have key : ∀ a, a < 4 → ∀ b, b < 4 → piFS a = piFS b → a = b := by decide
    exact key i hi j hj e
  · match j, hj with
    | 0, _ => exact ⟨rfl, Nat.le_of_ble_eq_true rfl⟩
    | 1, _ => exact ⟨rfl, Nat.le_of_ble_eq_true rfl⟩
    | 2, _ => exact ⟨rfl, Nat.le_of_ble_eq_true rfl⟩
    | 3, _ => exact ⟨rfl, Nat.le_of_ble_eq_true rfl⟩
    | j + 4, hj => exact absurd (show j + 4 < 4 from hj) (by omega)
  · match j, hj with
    | 0, _ => rfl
    | 1, _ => rfl
    | 2, _ => rfl
    | 3, _ => rfl
    | j + 4, hj => exact absurd (show j + 4 < 4 from hj) (by omega)
  · match k, hk with
    | 0, _ => rfl
    | 1, _ => rfl
    | 2, _ => rfl
    | 3, hk => exact absurd rfl (hk 2 (Nat.le_of_ble_eq_true rfl))
    | 4, hk => exact absurd rfl (hk 3 (Nat.le_of_ble_eq_true rfl))
    | 5, _ => rfl
    | 6, _ => rfl
    | 7, hk => exact absurd rfl (hk 0 (Nat.le_of_ble_eq_true rfl))
    | 8, hk => exact absurd rfl (hk 1 (Nat.le_of_ble_eq_true rfl))
    | 9, _ => rfl
    | 10, _ => rfl
    | 11, _ => rfl
    | 12, _ => rfl
    | k + 13, _ => rfl
def wCR (w : WS) (i j : Int) : WS := setT w 3 ((w.2 3).1, trow 40 7 161 7 (w.2 3).2 (w.2 1).2 i j)
def cW_X0_copyRow : Sp WS := fun as s K => match as with
  | [.inr (.inr (.inl 7)), .inl i, .inr (.inr (.inl 3)), .inl j] => (xB i ∧ xB j) ∧ K [] (wCR s i j)
  | _ => False
theorem qW_X0_copyRow {M : XI} {rc rs pc pc2 : Nat} (d : xl_Ca M pc mX0_copyRow pc2) : cOk encW bdW M rc rs pc pc2 4 cW_X0_copyRow := by
  refine cVirt (mX0_copyRow_ok 40 7 161 7) vX0_copyRow d tcl rfl (fun as s K hb h => ?_)
  unfold cW_X0_copyRow at h
  split at h
  · next i j =>
    refine ⟨piFS, _, _, [pI i, pR 2, pI j], lkFS, ⟨_, rfl⟩, rfl, ?_⟩
    refine ⟨h.1, ?_⟩
    have e : setT (setT s 3 ((s.2 3).1, trow 40 7 161 7 (s.2 3).2 (s.2 1).2 i j)) 1 (s.2 1) = wCR s i j := setT_self (wCR s i j) 1
    show K [] (setT (setT s 3 ((s.2 3).1, trow 40 7 161 7 (s.2 3).2 (s.2 1).2 i j)) 1 (s.2 1))
    rw [e]
    exact h.2
  · exact h.elim
-- X1_finish: heads []
def tX1_finish : Nat → Blk WS := fun pc => bif Nat.beq pc 0 then (oAld 0 <| oGet (fgW) 1 5 <| oI 40 <| oRemT <| oIst 2 <| oAld 0 <| oGet (fgW) 1 13 <| oIld 2 <| oC2 (cW_X0_reach) <| oAld 0 <| oGet (fgW) 1 13 <| oIld 2 <| oAld 0 <| oGet (fgW) 1 11 <| oIld 1 <| oC4 (cW_X0_copyRow) <| oAld 0 <| oGet (fgW) 1 11 <| oIld 1 <| oI 0 <| oC3 (cW_X0_get) <| oIst 3 <| oAld 0 <| oGet (fgW) 1 11 <| oIld 1 <| oI 2 <| oC3 (cW_X0_get) <| oAld 0 <| oGet (fgW) 1 11 <| oIld 1 <| oI 1 <| oC3 (cW_X0_get) <| oSubW <| oIst 4 <| oAld 0 <| oGet (fgW) 1 15 <| oIld 3 <| oI 4 <| oI 1 <| oC4 (cW_X0_add) <| oAld 0 <| oGet (fgW) 1 15 <| oIld 3 <| oI 5 <| oAld 0 <| oGet (fgW) 1 11 <| oIld 1 <| oI 3 <| oC3 (cW_X0_get) <| oC4 (cW_X0_add) <| oAld 0 <| oGet (fgW) 1 15 <| oIld 3 <| oI 6 <| oAld 0 <| oGet (fgW) 1 11 <| oIld 1 <| oI 4 <| oC3 (cW_X0_get) <| oC4 (cW_X0_add) <| oAld 0 <| oGet (fgW) 1 15 <| oIld 3 <| oI 7 <| oAld 0 <| oGet (fgW) 1 15 <| oIld 3 <| oI 7 <| oC3 (cW_X0_get) <| oIld 4 <| oMax <| oC4 (cW_X0_set) <| oAld 0 <| oDup <| oGet (fgW) 1 5 <| oI 1 <| oAddW <| oPut (fpW) 1 5 <| oAld 0 <| oGet (fgW) 1 11 <| oIld 1 <| oC2 (cW_X0_drop) <| oVret) else oNo
theorem tX1_finish_ok : ∀ pc, bOk (encW) (bdW) mX1_finish 0 0 pc (tX1_finish pc) := fun pc => (tLeaf (okAldn iX1_finish_0 rfl <| okGet (vFgW) iX1_finish_1 <| okBi iX1_finish_4 (by decide) <| okRemT iX1_finish_6 <| okIstn iX1_finish_7 rfl (by decide) <| okAldn iX1_finish_8 rfl <| okGet (vFgW) iX1_finish_9 <| okIldn iX1_finish_12 rfl <| okC2 (qW_X0_reach iX1_finish_13) <| okAldn iX1_finish_16 rfl <| okGet (vFgW) iX1_finish_17 <| okIldn iX1_finish_20 rfl <| okAldn iX1_finish_21 rfl <| okGet (vFgW) iX1_finish_22 <| okIldn iX1_finish_25 rfl <| okC4 (qW_X0_copyRow iX1_finish_26) <| okAldn iX1_finish_29 rfl <| okGet (vFgW) iX1_finish_30 <| okIldn iX1_finish_33 rfl <| okIc iX1_finish_34 <| okC3 (qW_X0_get iX1_finish_35) <| okIstn iX1_finish_38 rfl (by decide) <| okAldn iX1_finish_39 rfl <| okGet (vFgW) iX1_finish_40 <| okIldn iX1_finish_43 rfl <| okIc iX1_finish_44 <| okC3 (qW_X0_get iX1_finish_45) <| okAldn iX1_finish_48 rfl <| okGet (vFgW) iX1_finish_49 <| okIldn iX1_finish_52 rfl <| okIc iX1_finish_53 <| okC3 (qW_X0_get iX1_finish_54) <| okSubW iX1_finish_57 <| okIst iX1_finish_58 (by decide) <| okAldn iX1_finish_60 rfl <| okGet (vFgW) iX1_finish_61 <| okIldn iX1_finish_64 rfl <| okIc iX1_finish_65 <| okIc iX1_finish_66 <| okC4 (qW_X0_add iX1_finish_67) <| okAldn iX1_finish_70 rfl <| okGet (vFgW) iX1_finish_71 <| okIldn iX1_finish_74 rfl <| okIc iX1_finish_75 <| okAldn iX1_finish_76 rfl <| okGet (vFgW) iX1_finish_77 <| okIldn iX1_finish_80 rfl <| okIc iX1_finish_81 <| okC3 (qW_X0_get iX1_finish_82) <| okC4 (qW_X0_add iX1_finish_85) <| okAldn iX1_finish_88 rfl <| okGet (vFgW) iX1_finish_89 <| okIldn iX1_finish_92 rfl <| okBi iX1_finish_93 (by decide) <| okAldn iX1_finish_95 rfl <| okGet (vFgW) iX1_finish_96 <| okIldn iX1_finish_99 rfl <| okIc iX1_finish_100 <| okC3 (qW_X0_get iX1_finish_101) <| okC4 (qW_X0_add iX1_finish_104) <| okAldn iX1_finish_107 rfl <| okGet (vFgW) iX1_finish_108 <| okIldn iX1_finish_111 rfl <| okBi iX1_finish_112 (by decide) <| okAldn iX1_finish_114 rfl <| okGet (vFgW) iX1_finish_115 <| okIldn iX1_finish_118 rfl <| okBi iX1_finish_119 (by decide) <| okC3 (qW_X0_get iX1_finish_121) <| okIld iX1_finish_124 <| okMax iX1_finish_126 <| okC4 (qW_X0_set iX1_finish_129) <| okAldn iX1_finish_132 rfl <| okDup iX1_finish_133 <| okGet (vFgW) iX1_finish_134 <| okIc iX1_finish_137 <| okAddW iX1_finish_138 <| okPut (vFpW) iX1_finish_139 <| okAldn iX1_finish_142 rfl <| okGet (vFgW) iX1_finish_143 <| okIldn iX1_finish_146 rfl <| okC2 (qW_X0_drop iX1_finish_147) <| okVret iX1_finish_150 rfl)) pc
-- X1_melt: heads [40, 156]
def tX1_melt : Nat → Blk WS := fun pc => bif Nat.blt pc 75 then (bif Nat.blt pc 34 then (bif Nat.blt pc 28 then (bif Nat.beq pc 0 then (oAld 0 <| oIld 1 <| oIld 2 <| oC3 (cW_X1_firstTouched) <| oIst 4 <| oAld 0 <| oIld 4 <| oIld 1 <| oIld 2 <| oC4 (cW_X1_touchedFrom) <| oIst 5 <| oIld 4 <| oZLt 28 <| oIld 4 <| oTo 34) else oNo) else (bif Nat.beq pc 28 then (oAld 0 <| oIld 1 <| oIld 2 <| oC3 (cW_X1_placeFor) <| oTo 34) else oNo)) else (bif Nat.blt pc 40 then (bif Nat.beq pc 34 then (oIst 6 <| oIld 6 <| oIst 7 <| oM [true, true, true, true, false, true, true, true] (oTo 40)) else oNo) else (bif Nat.blt pc 62 then (bif Nat.beq pc 40 then (oIld 7 <| oIld 6 <| oIld 5 <| oAdd <| oCGe 62 <| oAld 0 <| oIld 7 <| oC2 (cW_X1_takeBack) <| oInc 7 1 <| oM [true, true, true, true, false, true, true, true] (oTo 40)) else oNo) else (bif Nat.beq pc 62 then (oAld 0 <| oGet (fgW) 1 11 <| oIld 6 <| oC2 (cW_X0_open) <| oZNe 75 <| oVret) else oNo)))) else (bif Nat.blt pc 190 then (bif Nat.blt pc 156 then (bif Nat.beq pc 75 then (oAld 0 <| oGet (fgW) 1 11 <| oIld 6 <| oI 0 <| oIld 1 <| oC4 (cW_X0_set) <| oAld 0 <| oGet (fgW) 1 11 <| oIld 6 <| oI 1 <| oIld 2 <| oC4 (cW_X0_set) <| oAld 0 <| oGet (fgW) 1 11 <| oIld 6 <| oI 2 <| oIld 2 <| oC4 (cW_X0_set) <| oAld 0 <| oGet (fgW) 1 11 <| oIld 6 <| oI 3 <| oI 1 <| oC4 (cW_X0_set) <| oAld 0 <| oGet (fgW) 1 11 <| oIld 6 <| oI 4 <| oIld 3 <| oC4 (cW_X0_set) <| oAld 0 <| oGet (fgW) 1 11 <| oIld 6 <| oI 5 <| oIld 3 <| oC4 (cW_X0_set) <| oAld 0 <| oGet (fgW) 1 11 <| oIld 6 <| oI 6 <| oI (-1) <| oC4 (cW_X0_set) <| oI 0 <| oIst 7 <| oM [true, false, false, false, false, true, true, true] (oTo 156)) else oNo) else (bif Nat.blt pc 175 then (bif Nat.beq pc 156 then (oIld 7 <| oIld 5 <| oCGe 175 <| oAld 0 <| oIld 6 <| oC2 (cW_X1_swallowNext) <| oInc 7 1 <| oM [true, false, false, false, false, true, true, true] (oTo 156)) else oNo) else (bif Nat.beq pc 175 then (oAld 0 <| oDup <| oGet (fgW) 1 9 <| oIld 5 <| oI 1 <| oCLe 190 <| oI 1 <| oTo 191) else oNo))) else (bif Nat.blt pc 191 then (bif Nat.beq pc 190 then (oI 0 <| oTo 191) else oNo) else (bif Nat.blt pc 216 then (bif Nat.beq pc 191 then (oAddW <| oPut (fpW) 1 9 <| oAld 0 <| oIld 6 <| oC2 (cW_X1_kindOfNew) <| oIst 7 <| oIld 7 <| oZLt 216 <| oAld 0 <| oIld 7 <| oIld 6 <| oC3 (cW_X1_announce) <| oTo 216) else oNo) else (bif Nat.beq pc 216 then (oVret) else oNo))))
theorem tX1_melt_ok : ∀ pc, bOk (encW) (bdW) mX1_melt 0 0 pc (tX1_melt pc) := fun pc => (tNode (tNode (tNode (tLeaf (okAldn iX1_melt_0 rfl <| okIldn iX1_melt_1 rfl <| okIldn iX1_melt_2 rfl <| okC3 (qW_X1_firstTouched iX1_melt_3) <| okIst iX1_melt_6 (by decide) <| okAldn iX1_melt_8 rfl <| okIld iX1_melt_9 <| okIldn iX1_melt_11 rfl <| okIldn iX1_melt_12 rfl <| okC4 (qW_X1_touchedFrom iX1_melt_13) <| okIst iX1_melt_16 (by decide) <| okIld iX1_melt_18 <| okZLt (tl rfl) iX1_melt_20 <| okIld iX1_melt_23 <| okGoto (tl rfl) iX1_melt_25)) (tLeaf (okAldn iX1_melt_28 rfl <| okIldn iX1_melt_29 rfl <| okIldn iX1_melt_30 rfl <| okC3 (qW_X1_placeFor iX1_melt_31) <| okTo (tl rfl)))) (tNode (tLeaf (okIst iX1_melt_34 (by decide) <| okIld iX1_melt_36 <| okIst iX1_melt_38 (by decide) <| okM (okTo (tl rfl)))) (tNode (tLeaf (okIld iX1_melt_40 <| okIld iX1_melt_42 <| okIld iX1_melt_44 <| okAdd iX1_melt_46 <| okCGe (tl rfl) iX1_melt_47 <| okAldn iX1_melt_50 rfl <| okIld iX1_melt_51 <| okC2 (qW_X1_takeBack iX1_melt_53) <| okInc iX1_melt_56 (by decide) <| okGotoM (tl rfl) iX1_melt_59)) (tLeaf (okAldn iX1_melt_62 rfl <| okGet (vFgW) iX1_melt_63 <| okIld iX1_melt_66 <| okC2 (qW_X0_open iX1_melt_68) <| okZNe (tl rfl) iX1_melt_71 <| okVret iX1_melt_74 rfl))))) (tNode (tNode (tLeaf (okAldn iX1_melt_75 rfl <| okGet (vFgW) iX1_melt_76 <| okIld iX1_melt_79 <| okIc iX1_melt_81 <| okIldn iX1_melt_82 rfl <| okC4 (qW_X0_set iX1_melt_83) <| okAldn iX1_melt_86 rfl <| okGet (vFgW) iX1_melt_87 <| okIld iX1_melt_90 <| okIc iX1_melt_92 <| okIldn iX1_melt_93 rfl <| okC4 (qW_X0_set iX1_melt_94) <| okAldn iX1_melt_97 rfl <| okGet (vFgW) iX1_melt_98 <| okIld iX1_melt_101 <| okIc iX1_melt_103 <| okIldn iX1_melt_104 rfl <| okC4 (qW_X0_set iX1_melt_105) <| okAldn iX1_melt_108 rfl <| okGet (vFgW) iX1_melt_109 <| okIld iX1_melt_112 <| okIc iX1_melt_114 <| okIc iX1_melt_115 <| okC4 (qW_X0_set iX1_melt_116) <| okAldn iX1_melt_119 rfl <| okGet (vFgW) iX1_melt_120 <| okIld iX1_melt_123 <| okIc iX1_melt_125 <| okIldn iX1_melt_126 rfl <| okC4 (qW_X0_set iX1_melt_127) <| okAldn iX1_melt_130 rfl <| okGet (vFgW) iX1_melt_131 <| okIld iX1_melt_134 <| okIc iX1_melt_136 <| okIldn iX1_melt_137 rfl <| okC4 (qW_X0_set iX1_melt_138) <| okAldn iX1_melt_141 rfl <| okGet (vFgW) iX1_melt_142 <| okIld iX1_melt_145 <| okBi iX1_melt_147 (by decide) <| okIc iX1_melt_149 <| okC4 (qW_X0_set iX1_melt_150) <| okIc iX1_melt_153 <| okIst iX1_melt_154 (by decide) <| okM (okTo (tl rfl)))) (tNode (tLeaf (okIld iX1_melt_156 <| okIld iX1_melt_158 <| okCGe (tl rfl) iX1_melt_160 <| okAldn iX1_melt_163 rfl <| okIld iX1_melt_164 <| okC2 (qW_X1_swallowNext iX1_melt_166) <| okInc iX1_melt_169 (by decide) <| okGotoM (tl rfl) iX1_melt_172)) (tLeaf (okAldn iX1_melt_175 rfl <| okDup iX1_melt_176 <| okGet (vFgW) iX1_melt_177 <| okIld iX1_melt_180 <| okIc iX1_melt_182 <| okCLe (tl rfl) iX1_melt_183 <| okIc iX1_melt_186 <| okGoto (tl rfl) iX1_melt_187)))) (tNode (tLeaf (okIc iX1_melt_190 <| okTo (tl rfl))) (tNode (tLeaf (okAddW iX1_melt_191 <| okPut (vFpW) iX1_melt_192 <| okAldn iX1_melt_195 rfl <| okIld iX1_melt_196 <| okC2 (qW_X1_kindOfNew iX1_melt_198) <| okIst iX1_melt_201 (by decide) <| okIld iX1_melt_203 <| okZLt (tl rfl) iX1_melt_205 <| okAldn iX1_melt_208 rfl <| okIld iX1_melt_209 <| okIld iX1_melt_211 <| okC3 (qW_X1_announce iX1_melt_213) <| okTo (tl rfl))) (tLeaf (okVret iX1_melt_216 rfl)))))) pc
def wFin (w : WS) (i : Int) : WS :=
  let q := Int.tmod (w.1 5) 40
  let w1 := wCR (wRe w 3 q) q i
  let k := wG w 1 i 0
  let w2 := wA (wA (wA w1 5 k 4 1) 5 k 5 (wG w 1 i 3)) 5 k 6 (wG w 1 i 4)
  let w3 := wP w2 5 k 7 (max (wG w2 5 k 7) (wI (wG w 1 i 2 - wG w 1 i 1)))
  wDr (wFd w3 5 (wI (w.1 5 + 1))) 1 i
theorem wok_Fin {w : WS} {i : Int} (h : wok w) : wok (wFin w i) := by
  unfold wFin
  exact wok_Dr (by decide) (wok_Fd (wok_P (by decide) (wok_A (by decide) (wok_A (by decide) (wok_A (by decide) (wok_set (wok_Re (by decide) h) ((wok_Re (by decide) h) 3 (by decide))))))))
def sX1_finish : Int → WS → KW → Prop := fun i s K => (xB i ∧ wZ s 1 ≤ 161) ∧ K [] (wFin s i)
theorem mX1_finish_ok : mOk encW bdW mX1_finish (atR 0 (a1 sX1_finish)) := by
  refine mOVa1 kX1_finish (fun _ => rfl) (fun i s K h hb => wx_J [] 9 tX1_finish_ok rfl (fun J hR hJ => ?_))
  obtain ⟨⟨h1, h2⟩, hK⟩ := h
  have hq := tmod_B (b := 40) (hb.1 5) (by omega) (by omega)
  repeat' (first | (refine And.intro ?_ ?_) | intro _)
  all_goals first | omega | exact h2 | exact hR _ _ hK
def cW_X1_finish : Sp WS := atR 0 (a1 sX1_finish)
theorem qW_X1_finish {M : XI} {rc rs pc pc2 : Nat} (d : xl_Ca M pc mX1_finish pc2) : cOk encW bdW M rc rs pc pc2 2 cW_X1_finish := cSame mX1_finish_ok vX1_finish d wcl rfl lenW recW
def takeL : Nat → Int → WS → WS
  | 0, _, w => w
  | n + 1, i, w => takeL n (i + 1) (wTake w i)
def swL (p : Int) : Nat → WS → WS
  | 0, w => w
  | n + 1, w => swL p n (wSwallow w p)
def wMeltE (w : WS) (p m : Int) : WS :=
  let w4 := wFd w 9 (wI (w.1 9 + (if 1 < m then 1 else 0)))
  if 0 ≤ wKind w4 p then wAnn w4 (wKind w4 p) p else w4
def wRow (w : WS) (p k t v : Int) : WS := wP (wP (wP (wP (wP (wP (wP (wOp w 1 p) 1 p 0 k) 1 p 1 t) 1 p 2 t) 1 p 3 1) 1 p 4 v) 1 p 5 v) 1 p 6 (-1)
def wMelt2 (w : WS) (p m k t v : Int) : WS := if 0 ≤ p ∧ p ≤ wZ w 1 ∧ wZ w 1 < 161 then wMeltE (swL p m.toNat (wRow w p k t v)) p m else w
def wPl (w : WS) (k t : Int) : Int := if 0 ≤ wFirst w k t then wFirst w k t else wPlace w k t
def wMelt (w : WS) (k t v : Int) : WS := wMelt2 (takeL (wMany w (wFirst w k t) k t).toNat (wPl w k t) w) (wPl w k t) (wMany w (wFirst w k t) k t) k t v
theorem wZ_Take {w : WS} {i : Int} : wZ (wTake w i) 1 = wZ w 1 := by
  unfold wTake
  split <;> rfl
theorem wok_takeL : ∀ (n : Nat) (i : Int) (w : WS), wok w → wok (takeL n i w)
  | 0, _, _, h => h
  | n + 1, i, _, h => wok_takeL n (i + 1) _ (wok_Take h)
theorem wok_swL (p : Int) : ∀ (n : Nat) (w : WS), wok w → wok (swL p n w)
  | 0, _, h => h
  | n + 1, _, h => wok_swL p n _ (wok_Swallow h)
theorem wok_MeltE {w : WS} {p m : Int} (h : wok w) : wok (wMeltE w p m) := by
  have key : ∀ x : WS, wok x → wok (if 0 ≤ wKind x p then wAnn x (wKind x p) p else x) := by
    intro x hx
    split
    · exact wok_Ann hx
    · exact hx
  exact key _ (wok_Fd h)
theorem wok_Row {w : WS} {p k t v : Int} (h : wok w) (h2 : wZ w 1 < 161) : wok (wRow w p k t v) :=
  wok_P (by decide) (wok_P (by decide) (wok_P (by decide) (wok_P (by decide) (wok_P (by decide) (wok_P (by decide) (wok_P (by decide) (wok_Op (by decide) h h2)))))))
theorem wok_Melt2 {w : WS} {p m k t v : Int} (h : wok w) : wok (wMelt2 w p m k t v) := by
  unfold wMelt2
  split
  · next c => exact wok_MeltE (wok_swL _ _ _ (wok_Row h c.2.2))
  · exact h
theorem wok_Melt {w : WS} {k t v : Int} (h : wok w) : wok (wMelt w k t v) := wok_Melt2 (wok_takeL _ _ _ h)
theorem X1_melt_l2 {K : KW} {Pt : WS → Prop} (p m : Int) (hp : xB p) (hm : xB m) : ∀ (n : Nat) (i : Int) (s : WS), wok s → 0 ≤ i → i ≤ m → n = (m - i).toNat → K [] (wMeltE (swL p n s) p m) → wX encW bdW mX1_melt 0 0 K Pt 156 [some (pR 0), none, none, none, none, some (pI m), some (pI p), some (pI i)] [] s := by
  intro n
  induction n with
  | zero =>
    intro i s ho h0 h1 hn hK
    refine wx_J [40, 156] 9 tX1_melt_ok rfl (fun J hR hJ => ?_)
    rw [swL] at hK
    unfold wMeltE at hK
    dsimp only at hK
    by_cases c1 : 1 < m
    · rw [if_pos c1] at hK
      by_cases c2 : 0 ≤ wKind (wFd s 9 (wI (s.1 9 + 1))) p
      · rw [if_pos c2] at hK
        repeat' (first | (refine And.intro ?_ ?_) | intro _)
        all_goals first | omega | exact hR _ _ hK
      · rw [if_neg c2] at hK
        repeat' (first | (refine And.intro ?_ ?_) | intro _)
        all_goals first | omega | exact hR _ _ hK
    · rw [if_neg c1] at hK
      by_cases c2 : 0 ≤ wKind (wFd s 9 (wI (s.1 9 + 0))) p
      · rw [if_pos c2] at hK
        repeat' (first | (refine And.intro ?_ ?_) | intro _)
        all_goals first | omega | exact hR _ _ hK
      · rw [if_neg c2] at hK
        repeat' (first | (refine And.intro ?_ ?_) | intro _)
        all_goals first | omega | exact hR _ _ hK
  | succ n ih =>
    intro i s ho h0 h1 hn hK
    refine wx_J [40, 156] 9 tX1_melt_ok rfl (fun J hR hJ => ?_)
    have hz : wZ s 1 ≤ 161 := (ho 1 (by decide)).2
    have g := ih (i + 1) (wSwallow s p) (wok_Swallow ho) (by omega) (by omega) (by omega) hK
    repeat' (first | (refine And.intro ?_ ?_) | intro _)
    all_goals first | omega | exact hJ _ _ _ _ g
theorem X1_melt_l1 {K : KW} {Pt : WS → Prop} (p m k t v : Int) (hp : 0 ≤ p ∧ p ≤ 161) (hm : 0 ≤ m ∧ m ≤ 161) (hk : xB k) (ht : xB t) (hv : xB v) : ∀ (n : Nat) (i : Int) (s : WS), wok s → p ≤ i → i ≤ p + m → n = (p + m - i).toNat → K [] (wMelt2 (takeL n i s) p m k t v) → wX encW bdW mX1_melt 0 0 K Pt 40 [some (pR 0), some (pI k), some (pI t), some (pI v), none, some (pI m), some (pI p), some (pI i)] [] s := by
  intro n
  induction n with
  | zero =>
    intro i s ho h0 h1 hn hK
    refine wx_J [40, 156] 9 tX1_melt_ok rfl (fun J hR hJ => ?_)
    rw [takeL] at hK
    unfold wMelt2 at hK
    refine ⟨⟨⟨by omega, by omega⟩, ⟨by omega, by omega⟩⟩, fun _ => ?_, fun c => absurd c (by omega)⟩
    refine ⟨⟨by omega, by omega⟩, fun c => ?_, fun c => ?_⟩
    · have c : 0 ≤ p ∧ p ≤ wZ s 1 ∧ wZ s 1 < 161 := c
      rw [if_pos c] at hK
      have g := X1_melt_l2 (K := K) (Pt := Pt) p m ⟨by omega, by omega⟩ ⟨by omega, by omega⟩ m.toNat 0 (wRow s p k t v) (wok_Row ho c.2.2) (by omega) (by omega) (by omega) hK
      repeat' (first | (refine And.intro ?_ ?_) | intro _)
      all_goals first | omega | exact hJ _ _ _ _ g
    · have c : ¬ (0 ≤ p ∧ p ≤ wZ s 1 ∧ wZ s 1 < 161) := c
      rw [if_neg c] at hK
      repeat' (first | (refine And.intro ?_ ?_) | intro _)
      all_goals first | omega | exact hR _ _ hK
  | succ n ih =>
    intro i s ho h0 h1 hn hK
    refine wx_J [40, 156] 9 tX1_melt_ok rfl (fun J hR hJ => ?_)
    have g := ih (i + 1) (wTake s i) (wok_Take ho) (by omega) (by omega) (by omega) hK
    repeat' (first | (refine And.intro ?_ ?_) | intro _)
    all_goals first | omega | exact hJ _ _ _ _ g
def sX1_melt : Int → Int → Int → WS → KW → Prop := fun k t v s K => (xB k ∧ xB t ∧ xB v ∧ wok s) ∧ K [] (wMelt s k t v)
theorem wMelt_b {s : WS} {k t : Int} (ho : wok s) : (0 ≤ wPl s k t ∧ wPl s k t ≤ 161) ∧ (0 ≤ wMany s (wFirst s k t) k t ∧ wMany s (wFirst s k t) k t ≤ 161) := by
  have hz := ho 1 (by decide)
  have hz2 : wZ s 1 ≤ 161 := hz.2
  have f1 := ftL_b s k t (wZ s 1).toNat 0 (by omega)
  have f2 := pfL_b s k t (wZ s 1).toNat 0
  have f3 := tfL_b s k t (wZ s 1 - wFirst s k t).toNat (wFirst s k t)
  unfold wPl wMany wFirst wPlace at *
  constructor
  · split <;> omega
  · split <;> omega
theorem mX1_melt_ok : mOk encW bdW mX1_melt (atR 0 (a3 sX1_melt)) := by
  refine mOVa3 kX1_melt (fun _ _ _ => rfl) (fun k t v s K h hb => wx_J [40, 156] 9 tX1_melt_ok rfl (fun J hR hJ => ?_))
  obtain ⟨⟨h1, h2, h3, h4⟩, hK⟩ := h
  obtain ⟨b1, b2⟩ := wMelt_b (k := k) (t := t) h4
  have hz := h4 1 (by decide)
  have g := X1_melt_l1 (K := K) (Pt := fun _ => False) (wPl s k t) (wMany s (wFirst s k t) k t) k t v b1 b2 h1 h2 h3 _ (wPl s k t) s h4 (Int.le_refl _) (by omega) rfl (by
    rw [show (wPl s k t + wMany s (wFirst s k t) k t - wPl s k t).toNat = (wMany s (wFirst s k t) k t).toNat by omega]
    exact hK)
  refine ⟨⟨h1, h2⟩, fun q1 => ⟨⟨q1, h1, h2⟩, fun q2 => ⟨q1, fun c => ?_, fun c => ?_⟩⟩⟩
  · refine ⟨⟨h1, h2, hz.1⟩, fun q3 => hJ _ _ _ _ ?_⟩
    rw [wPl, if_neg (by omega)] at g
    exact g
  · refine hJ _ _ _ _ ?_
    rw [wPl, if_pos c] at g
    exact g
def cW_X1_melt : Sp WS := atR 0 (a3 sX1_melt)
theorem qW_X1_melt {M : XI} {rc rs pc pc2 : Nat} (d : xl_Ca M pc mX1_melt pc2) : cOk encW bdW M rc rs pc pc2 4 cW_X1_melt := cSame mX1_melt_ok vX1_melt d wcl rfl lenW recW
end
section
/-! ===== World: rise, events, marks, idle ones ===== -/
section LOOK
variable {σ : Type} {enc : σ → XH} {bd : σ → Prop} {M : XI} {rc rs pc : Nat}
def lookOk (pc : Nat) : List (Int × Int) → List (Int × Nat) → Bool
  | [], [] => true
  | a :: as, t :: ts => decide (a.1 = t.1) && (decide ((pc : Int) + a.2 = (t.2 : Int)) && (decide (t.2 < 1000000) && lookOk pc as ts))
  | _, _ => false
theorem xl_look {L : List (Option Value)} {st : List Value} {h : XH} {Po : Option (Option Value) → XH → Prop} {a : Int32} {dflt off : Int} {ps : Array (Int × Int)} {len tgt : Nat} (d : decode M.2.1 pc = .ok (.lookupswitch dflt ps, len)) (hp : (ps.toList.zip (ps.toList.drop 1)).all (fun (a, next) => a.1 < next.1) = true) (ho : Op.lookupswitch.offset ps.toList dflt a.toInt = off) (ht : (pc : Int) + off = tgt) (k : xl_W M rc rs tgt L st h Po) : xl_W M rc rs pc L (.int a :: st) h Po := by
  intro p l e R s m args below meth c D aC ρ σ aV A H locs cells slots ls Q hX hH hL q1 q2 hr ht2
  exact lv_lookup hX.1 hX.2.1 d hp ho ht (k p l e R s m args below meth c D aC ρ σ aV A H locs cells slots ls Q hX hH hL q1 q2 hr ht2)
theorem lookP_of {J : JP σ} {L : PL} {st : PS} {s : σ} {z dflt : Int} {df : Nat} (hd : (pc : Int) + dflt = df) (hdl : df < 1000000) : ∀ (as : List (Int × Int)) (ts : List (Int × Nat)), lookOk pc as ts = true → oLookP J L st s z df ts → ∃ tgt : Nat, tgt < 1000000 ∧ (pc : Int) + Op.lookupswitch.offset as dflt z = tgt ∧ J tgt L st s
  | [], [], _, h => ⟨df, hdl, hd, h⟩
  | [], _ :: _, h0, _ => by simp [lookOk] at h0
  | _ :: _, [], h0, _ => by simp [lookOk] at h0
  | (k, o) :: as, (k2, t) :: ts, h0, h => by
    simp only [lookOk, Bool.and_eq_true, decide_eq_true_eq] at h0
    obtain ⟨e1, e2, e3, e4⟩ := h0
    subst e1
    rw [Op.lookupswitch.offset_cons]
    by_cases c : k = z
    · rw [if_pos c]
      exact ⟨t, e3, e2, h.1 c.symm⟩
    · rw [if_neg c]
      exact lookP_of hd hdl as ts e4 (h.2 (fun q => c q.symm))
theorem okLook {dflt : Int} {ps : Array (Int × Int)} {len : Nat} {ts : List (Int × Nat)} {df : Nat} (h1 : (pc : Int) + dflt = df ∧ df < 1000000) (h2 : lookOk pc ps.toList ts = true) (h3 : (ps.toList.zip (ps.toList.drop 1)).all (fun (a, next) => a.1 < next.1) = true) (d : decode M.2.1 pc = .ok (.lookupswitch dflt ps, len)) : bOk enc bd M rc rs pc (oLook ts df) := by
  intro Po Pt J hJ L st s hb h
  unfold oLook at h
  split at h
  · next z st =>
    have hz : (iI z).toInt = z := iI_toInt h.1
    obtain ⟨tgt, t1, t2, t3⟩ := lookP_of h1.1 h1.2 _ _ h2 h.2
    have := hJ _ _ _ _ t3
    rw [wX_lt t1] at this
    exact xl_look d h3 rfl (by rw [hz]; exact t2) (this hb)
  · exact h.elim
end LOOK
-- X1_rise: heads [33]
def tX1_rise : Nat → Blk WS := fun pc => bif Nat.blt pc 52 then (bif Nat.blt pc 17 then (bif Nat.beq pc 0 then (oAld 0 <| oGet (fgW) 1 3 <| oIst 1 <| oAld 0 <| oI (-1) <| oC2 (cW_X1_leastMark) <| oIst 2 <| oIld 2 <| oIld 1 <| oCGt 17 <| oVret) else oNo) else (bif Nat.blt pc 33 then (bif Nat.beq pc 17 then (oAld 0 <| oIld 2 <| oPut (fpW) 1 3 <| oI (-1) <| oIst 3 <| oAld 0 <| oGet (fgW) 1 11 <| oGet (fgW) 0 3 <| oIst 4 <| oM [true, true, false, true, true, false] (oTo 33)) else oNo) else (bif Nat.beq pc 33 then (oIld 4 <| oZLe 107 <| oAld 0 <| oIld 3 <| oIld 1 <| oC3 (cW_X1_dueBehind) <| oIst 5 <| oIld 5 <| oZGe 52 <| oVret) else oNo))) else (bif Nat.blt pc 101 then (bif Nat.blt pc 82 then (bif Nat.beq pc 52 then (oAld 0 <| oIld 5 <| oC2 (cW_X1_turnOf) <| oIst 3 <| oAld 0 <| oIld 5 <| oIld 1 <| oC3 (cW_X1_isRipe) <| oZNe 82 <| oAld 0 <| oIld 5 <| oC2 (cW_X1_takeBack) <| oAld 0 <| oI 1 <| oIld 5 <| oC3 (cW_X1_announce) <| oTo 82) else oNo) else (bif Nat.beq pc 82 then (oAld 0 <| oIld 5 <| oAld 0 <| oGet (fgW) 1 3 <| oC3 (cW_X1_isOver) <| oZEq 101 <| oAld 0 <| oIld 5 <| oC2 (cW_X1_finish) <| oTo 101) else oNo)) else (bif Nat.blt pc 107 then (bif Nat.beq pc 101 then (oInc 4 (-1) <| oM [true, true, false, true, true, false] (oTo 33)) else oNo) else (bif Nat.beq pc 107 then (oVret) else oNo)))
theorem tX1_rise_ok : ∀ pc, bOk (encW) (bdW) mX1_rise 0 0 pc (tX1_rise pc) := fun pc => (tNode (tNode (tLeaf (okAldn iX1_rise_0 rfl <| okGet (vFgW) iX1_rise_1 <| okIstn iX1_rise_4 rfl (by decide) <| okAldn iX1_rise_5 rfl <| okIc iX1_rise_6 <| okC2 (qW_X1_leastMark iX1_rise_7) <| okIstn iX1_rise_10 rfl (by decide) <| okIldn iX1_rise_11 rfl <| okIldn iX1_rise_12 rfl <| okCGt (tl rfl) iX1_rise_13 <| okVret iX1_rise_16 rfl)) (tNode (tLeaf (okAldn iX1_rise_17 rfl <| okIldn iX1_rise_18 rfl <| okPut (vFpW) iX1_rise_19 <| okIc iX1_rise_22 <| okIstn iX1_rise_23 rfl (by decide) <| okAldn iX1_rise_24 rfl <| okGet (vFgW) iX1_rise_25 <| okGet (vFgW) iX1_rise_28 <| okIst iX1_rise_31 (by decide) <| okM (okTo (tl rfl)))) (tLeaf (okIld iX1_rise_33 <| okZLe (tl rfl) iX1_rise_35 <| okAldn iX1_rise_38 rfl <| okIldn iX1_rise_39 rfl <| okIldn iX1_rise_40 rfl <| okC3 (qW_X1_dueBehind iX1_rise_41) <| okIst iX1_rise_44 (by decide) <| okIld iX1_rise_46 <| okZGe (tl rfl) iX1_rise_48 <| okVret iX1_rise_51 rfl)))) (tNode (tNode (tLeaf (okAldn iX1_rise_52 rfl <| okIld iX1_rise_53 <| okC2 (qW_X1_turnOf iX1_rise_55) <| okIstn iX1_rise_58 rfl (by decide) <| okAldn iX1_rise_59 rfl <| okIld iX1_rise_60 <| okIldn iX1_rise_62 rfl <| okC3 (qW_X1_isRipe iX1_rise_63) <| okZNe (tl rfl) iX1_rise_66 <| okAldn iX1_rise_69 rfl <| okIld iX1_rise_70 <| okC2 (qW_X1_takeBack iX1_rise_72) <| okAldn iX1_rise_75 rfl <| okIc iX1_rise_76 <| okIld iX1_rise_77 <| okC3 (qW_X1_announce iX1_rise_79) <| okTo (tl rfl))) (tLeaf (okAldn iX1_rise_82 rfl <| okIld iX1_rise_83 <| okAldn iX1_rise_85 rfl <| okGet (vFgW) iX1_rise_86 <| okC3 (qW_X1_isOver iX1_rise_89) <| okZEq (tl rfl) iX1_rise_92 <| okAldn iX1_rise_95 rfl <| okIld iX1_rise_96 <| okC2 (qW_X1_finish iX1_rise_98) <| okTo (tl rfl)))) (tNode (tLeaf (okInc iX1_rise_101 (by decide) <| okGotoM (tl rfl) iX1_rise_104)) (tLeaf (okVret iX1_rise_107 rfl))))) pc
def wStep (w : WS) (be i : Int) : WS :=
  let w1 := if wRipe w i be then w else wAnn (wTake w i) 1 i
  if wOver w1 i (w1.1 3) then wFin w1 i else w1
def riseL (be : Int) : Nat → Int → WS → WS
  | 0, _, w => w
  | n + 1, pa, w => if wDue w pa be < 0 then w else riseL be n (wTurn w (wDue w pa be)) (wStep w be (wDue w pa be))
def wRise (w : WS) : WS := if wLeast w (-1) ≤ w.1 3 then w else riseL (w.1 3) (wZ w 1).toNat (-1) (wFd w 3 (wLeast w (-1)))
theorem wok_Step {w : WS} {be i : Int} (h : wok w) : wok (wStep w be i) := by
  have key : ∀ x : WS, wok x → wok (if wOver x i (x.1 3) then wFin x i else x) := by
    intro x hx
    split
    · exact wok_Fin hx
    · exact hx
  refine key _ ?_
  split
  · exact h
  · exact wok_Ann (wok_Take h)
theorem wok_riseL (be : Int) : ∀ (n : Nat) (pa : Int) (w : WS), wok w → wok (riseL be n pa w)
  | 0, _, _, h => h
  | n + 1, pa, w, h => by
    rw [riseL]
    split
    · exact h
    · exact wok_riseL be n _ _ (wok_Step h)
theorem wok_Rise {w : WS} (h : wok w) : wok (wRise w) := by
  unfold wRise
  split
  · exact h
  · exact wok_riseL _ _ _ _ (wok_Fd h)
theorem X1_rise_loop {K : KW} {Pt : WS → Prop} (be : Int) (hbe : xB be) : ∀ (n : Nat) (pa : Int) (s : WS), wok s → xB pa → (n : Int) ≤ 2147483647 → K [] (riseL be n pa s) → wX encW bdW mX1_rise 0 0 K Pt 33 [some (pR 0), some (pI be), none, some (pI pa), some (pI n), none] [] s := by
  intro n
  induction n with
  | zero =>
    intro pa s ho hpa hn hK
    refine wx_J [33] 9 tX1_rise_ok rfl (fun J hR hJ => ?_)
    repeat' (first | (refine And.intro ?_ ?_) | intro _)
    all_goals first | omega | exact hR _ _ hK
  | succ n ih =>
    intro pa s ho hpa hn hK
    refine wx_J [33] 9 tX1_rise_ok rfl (fun J hR hJ => ?_)
    rw [riseL] at hK
    have hz : wZ s 1 ≤ 161 := (ho 1 (by decide)).2
    have en : ((n + 1 : Nat) : Int) + -1 = (n : Int) := by omega
    refine ⟨⟨by omega, by omega⟩, fun c => absurd c (by omega), fun _ => ⟨⟨hpa, hbe⟩, fun hd => ⟨hd, fun c => ?_, fun c => ?_⟩⟩⟩
    · rw [if_neg (by omega)] at hK
      refine ⟨hd, fun ht => ⟨⟨hd, hbe⟩, fun c1 => ?_, fun c1 => ?_⟩⟩
      · have g : ∀ x, x = wStep s be (wDue s pa be) → wX encW bdW mX1_rise 0 0 K Pt 33 [some (pR 0), some (pI be), none, some (pI (wTurn s (wDue s pa be))), some (pI (((n + 1 : Nat) : Int) + -1)), none] [] x := by
          intro x ex
          rw [en, ex]
          exact ih _ _ (wok_Step ho) ht (by omega) hK
        refine ⟨⟨by omega, by omega⟩, fun c2 => ?_, fun c2 => absurd c2 (by omega)⟩
        intro hp
        refine ⟨⟨hd, hp⟩, fun c3 => ?_, fun c3 => ?_⟩
        · refine ⟨⟨by omega, by omega⟩, fun c4 => absurd c4 (by omega), fun c4 => ⟨⟨hd, hz⟩, hJ _ _ _ _ (g _ ?_)⟩⟩
          unfold wStep
          rw [if_pos c1]
          dsimp only
          rw [if_pos c3]
        · refine ⟨⟨by omega, by omega⟩, fun c4 => hJ _ _ _ _ (g _ ?_), fun c4 => absurd rfl c4⟩
          unfold wStep
          rw [if_pos c1]
          dsimp only
          rw [if_neg c3]
      · have g : ∀ x, x = wStep s be (wDue s pa be) → wX encW bdW mX1_rise 0 0 K Pt 33 [some (pR 0), some (pI be), none, some (pI (wTurn s (wDue s pa be))), some (pI (((n + 1 : Nat) : Int) + -1)), none] [] x := by
          intro x ex
          rw [en, ex]
          exact ih _ _ (wok_Step ho) ht (by omega) hK
        have ho2 := wok_Ann (k := 1) (i := wDue s pa be) (wok_Take (i := wDue s pa be) ho)
        have hz2 : wZ (wAnn (wTake s (wDue s pa be)) 1 (wDue s pa be)) 1 ≤ 161 := (ho2 1 (by decide)).2
        refine ⟨⟨by omega, by omega⟩, fun c2 => absurd rfl c2, fun c2 => ⟨hd, ⟨⟨⟨by omega, by omega⟩, hd⟩, ?_⟩⟩⟩
        intro hp
        refine ⟨⟨hd, hp⟩, fun c3 => ?_, fun c3 => ?_⟩
        · refine ⟨⟨by omega, by omega⟩, fun c4 => absurd c4 (by omega), fun c4 => ⟨⟨hd, hz2⟩, hJ _ _ _ _ (g _ ?_)⟩⟩
          unfold wStep
          rw [if_neg c1]
          dsimp only
          rw [if_pos c3]
        · refine ⟨⟨by omega, by omega⟩, fun c4 => hJ _ _ _ _ (g _ ?_), fun c4 => absurd rfl c4⟩
          unfold wStep
          rw [if_neg c1]
          dsimp only
          rw [if_neg c3]
    · rw [if_pos c] at hK
      exact hR _ _ hK
def sX1_rise : WS → KW → Prop := fun s K => wok s ∧ K [] (wRise s)
theorem mX1_rise_ok : mOk encW bdW mX1_rise (atR 0 (a0 sX1_rise)) := by
  refine mOVa0 kX1_rise (fun _ => rfl) (fun s K h hb => wx_J [33] 9 tX1_rise_ok rfl (fun J hR hJ => ?_))
  obtain ⟨h1, hK⟩ := h
  have hz := h1 1 (by decide)
  have hz2 : wZ s 1 ≤ 161 := hz.2
  unfold wRise at hK
  by_cases c : wLeast s (-1) ≤ s.1 3
  · rw [if_pos c] at hK
    repeat' (first | (refine And.intro ?_ ?_) | intro _)
    all_goals first | omega | exact hR _ _ hK
  · rw [if_neg c] at hK
    have g := X1_rise_loop (K := K) (Pt := fun _ => False) (s.1 3) (hb.1 3) (wZ s 1).toNat (-1) (wFd s 3 (wLeast s (-1))) (wok_Fd h1) ⟨by omega, by omega⟩ (by omega) hK
    rw [show (((wZ s 1).toNat : Nat) : Int) = wZ s 1 by omega] at g
    repeat' (first | (refine And.intro ?_ ?_) | intro _)
    all_goals first | omega | exact hJ _ _ _ _ g
def cW_X1_rise : Sp WS := atR 0 (a0 sX1_rise)
theorem qW_X1_rise {M : XI} {rc rs pc pc2 : Nat} (d : xl_Ca M pc mX1_rise pc2) : cOk encW bdW M rc rs pc pc2 1 cW_X1_rise := cSame mX1_rise_ok vX1_rise d wcl rfl lenW recW
-- X1_playEvent: heads []
def tX1_playEvent : Nat → Blk WS := fun pc => bif Nat.blt pc 73 then (bif Nat.blt pc 48 then (bif Nat.beq pc 0 then (oAld 0 <| oIld 2 <| oC2 (cW_X1_fateOf) <| oIst 5 <| oAld 0 <| oGet (fgW) 1 10 <| oIld 4 <| oI 3 <| oI 1 <| oC4 (cW_X0_add) <| oIld 5 <| oI 2 <| oCNe 48 <| oAld 0 <| oDup <| oGet (fgW) 1 8 <| oI 1 <| oAddW <| oPut (fpW) 1 8 <| oAld 0 <| oGet (fgW) 1 10 <| oIld 4 <| oI 4 <| oI 1 <| oC4 (cW_X0_add) <| oTo 85) else oNo) else (bif Nat.beq pc 48 then (oAld 0 <| oDup <| oGet (fgW) 1 6 <| oI 1 <| oAddW <| oPut (fpW) 1 6 <| oAld 0 <| oDup <| oGet (fgW) 1 7 <| oIld 5 <| oI 1 <| oCNe 73 <| oI 1 <| oTo 74) else oNo)) else (bif Nat.blt pc 74 then (bif Nat.beq pc 73 then (oI 0 <| oTo 74) else oNo) else (bif Nat.blt pc 85 then (bif Nat.beq pc 74 then (oAddW <| oPut (fpW) 1 7 <| oAld 0 <| oIld 1 <| oIld 2 <| oIld 3 <| oC4 (cW_X1_melt) <| oTo 85) else oNo) else (bif Nat.beq pc 85 then (oAld 0 <| oGet (fgW) 1 10 <| oIld 4 <| oI 2 <| oI 0 <| oC4 (cW_X0_set) <| oAld 0 <| oIld 4 <| oIld 2 <| oAld 0 <| oGet (fgW) 1 10 <| oIld 4 <| oI 1 <| oC3 (cW_X0_get) <| oSubW <| oC3 (cW_X1_raiseMark) <| oAld 0 <| oC1 (cW_X1_rise) <| oIld 5 <| oIret) else oNo)))
theorem tX1_playEvent_ok : ∀ pc, bOk (encW) (bdW) mX1_playEvent 0 0 pc (tX1_playEvent pc) := fun pc => (tNode (tNode (tLeaf (okAldn iX1_playEvent_0 rfl <| okIldn iX1_playEvent_1 rfl <| okC2 (qW_X1_fateOf iX1_playEvent_2) <| okIst iX1_playEvent_5 (by decide) <| okAldn iX1_playEvent_7 rfl <| okGet (vFgW) iX1_playEvent_8 <| okIld iX1_playEvent_11 <| okIc iX1_playEvent_13 <| okIc iX1_playEvent_14 <| okC4 (qW_X0_add iX1_playEvent_15) <| okIld iX1_playEvent_18 <| okIc iX1_playEvent_20 <| okCNe (tl rfl) iX1_playEvent_21 <| okAldn iX1_playEvent_24 rfl <| okDup iX1_playEvent_25 <| okGet (vFgW) iX1_playEvent_26 <| okIc iX1_playEvent_29 <| okAddW iX1_playEvent_30 <| okPut (vFpW) iX1_playEvent_31 <| okAldn iX1_playEvent_34 rfl <| okGet (vFgW) iX1_playEvent_35 <| okIld iX1_playEvent_38 <| okIc iX1_playEvent_40 <| okIc iX1_playEvent_41 <| okC4 (qW_X0_add iX1_playEvent_42) <| okGoto (tl rfl) iX1_playEvent_45)) (tLeaf (okAldn iX1_playEvent_48 rfl <| okDup iX1_playEvent_49 <| okGet (vFgW) iX1_playEvent_50 <| okIc iX1_playEvent_53 <| okAddW iX1_playEvent_54 <| okPut (vFpW) iX1_playEvent_55 <| okAldn iX1_playEvent_58 rfl <| okDup iX1_playEvent_59 <| okGet (vFgW) iX1_playEvent_60 <| okIld iX1_playEvent_63 <| okIc iX1_playEvent_65 <| okCNe (tl rfl) iX1_playEvent_66 <| okIc iX1_playEvent_69 <| okGoto (tl rfl) iX1_playEvent_70))) (tNode (tLeaf (okIc iX1_playEvent_73 <| okTo (tl rfl))) (tNode (tLeaf (okAddW iX1_playEvent_74 <| okPut (vFpW) iX1_playEvent_75 <| okAldn iX1_playEvent_78 rfl <| okIldn iX1_playEvent_79 rfl <| okIldn iX1_playEvent_80 rfl <| okIldn iX1_playEvent_81 rfl <| okC4 (qW_X1_melt iX1_playEvent_82) <| okTo (tl rfl))) (tLeaf (okAldn iX1_playEvent_85 rfl <| okGet (vFgW) iX1_playEvent_86 <| okIld iX1_playEvent_89 <| okIc iX1_playEvent_91 <| okIc iX1_playEvent_92 <| okC4 (qW_X0_set iX1_playEvent_93) <| okAldn iX1_playEvent_96 rfl <| okIld iX1_playEvent_97 <| okIldn iX1_playEvent_99 rfl <| okAldn iX1_playEvent_100 rfl <| okGet (vFgW) iX1_playEvent_101 <| okIld iX1_playEvent_104 <| okIc iX1_playEvent_106 <| okC3 (qW_X0_get iX1_playEvent_107) <| okSubW iX1_playEvent_110 <| okC3 (qW_X1_raiseMark iX1_playEvent_111) <| okAldn iX1_playEvent_114 rfl <| okC1 (qW_X1_rise iX1_playEvent_115) <| okIld iX1_playEvent_118 <| okIret iX1_playEvent_120 rfl))))) pc
-- X1_playMark: heads []
def tX1_playMark : Nat → Blk WS := fun pc => bif Nat.beq pc 0 then (oAld 0 <| oIld 1 <| oIld 2 <| oC3 (cW_X1_raiseMark) <| oAld 0 <| oC1 (cW_X1_rise) <| oVret) else oNo
theorem tX1_playMark_ok : ∀ pc, bOk (encW) (bdW) mX1_playMark 0 0 pc (tX1_playMark pc) := fun pc => (tLeaf (okAldn iX1_playMark_0 rfl <| okIldn iX1_playMark_1 rfl <| okIldn iX1_playMark_2 rfl <| okC3 (qW_X1_raiseMark iX1_playMark_3) <| okAldn iX1_playMark_6 rfl <| okC1 (qW_X1_rise iX1_playMark_7) <| okVret iX1_playMark_10 rfl)) pc
-- X1_playIdle: heads []
def tX1_playIdle : Nat → Blk WS := fun pc => bif Nat.beq pc 0 then (oAld 0 <| oGet (fgW) 1 10 <| oIld 1 <| oI 2 <| oI 1 <| oC4 (cW_X0_set) <| oAld 0 <| oC1 (cW_X1_rise) <| oVret) else oNo
theorem tX1_playIdle_ok : ∀ pc, bOk (encW) (bdW) mX1_playIdle 0 0 pc (tX1_playIdle pc) := fun pc => (tLeaf (okAldn iX1_playIdle_0 rfl <| okGet (vFgW) iX1_playIdle_1 <| okIldn iX1_playIdle_4 rfl <| okIc iX1_playIdle_5 <| okIc iX1_playIdle_6 <| okC4 (qW_X0_set iX1_playIdle_7) <| okAldn iX1_playIdle_10 rfl <| okC1 (qW_X1_rise iX1_playIdle_11) <| okVret iX1_playIdle_14 rfl)) pc
def wPlayE (w : WS) (k t v r : Int) : WS :=
  let w1 := wA w 0 r 3 1
  let w2 := if wFate w t = 2 then wA (wFd w1 8 (wI (w1.1 8 + 1))) 0 r 4 1 else wMelt (wFd (wFd w1 6 (wI (w1.1 6 + 1))) 7 (wI (w1.1 7 + (if wFate w t = 1 then 1 else 0)))) k t v
  let w3 := wP w2 0 r 2 0
  wRise (wRaise w3 r (wI (t - wG w3 0 r 1)))
theorem wok_PlayE {w : WS} {k t v r : Int} (h : wok w) : wok (wPlayE w k t v r) := by
  unfold wPlayE
  refine wok_Rise (wok_Raise (wok_P (by decide) ?_))
  split
  · exact wok_A (by decide) (wok_Fd (wok_A (by decide) h))
  · exact wok_Melt (wok_Fd (wok_Fd (wok_A (by decide) h)))
def sX1_playEvent : Int → Int → Int → Int → WS → KW → Prop := fun k t v r s K => (xB k ∧ xB t ∧ xB v ∧ xB r ∧ wok s) ∧ (0 ≤ wFate s t → wFate s t ≤ 2 → K [pI (wFate s t)] (wPlayE s k t v r))
theorem mX1_playEvent_ok : mOk encW bdW mX1_playEvent (atR 0 (a4 sX1_playEvent)) := by
  refine mOVa4 kX1_playEvent (fun _ _ _ _ => rfl) (fun k t v r s K h hb => wx_J [] 9 tX1_playEvent_ok rfl (fun J hR hJ => ?_))
  obtain ⟨⟨h1, h2, h3, h4, h5⟩, hK⟩ := h
  have hf := wFate_b s t
  have hK := hK hf.1 hf.2
  unfold wPlayE at hK
  dsimp only at hK
  refine ⟨h2, fun f0 f1 => ?_⟩
  by_cases c : wFate s t = 2
  · rw [if_pos c] at hK
    have ho : wok (wRaise (wP (wA (wFd (wA s 0 r 3 1) 8 (wI ((wA s 0 r 3 1).1 8 + 1))) 0 r 4 1) 0 r 2 0) r (wI (t - wG (wP (wA (wFd (wA s 0 r 3 1) 8 (wI ((wA s 0 r 3 1).1 8 + 1))) 0 r 4 1) 0 r 2 0) 0 r 1))) := wok_Raise (wok_P (by decide) (wok_A (by decide) (wok_Fd (wok_A (by decide) h5))))
    repeat' (first | (refine And.intro ?_ ?_) | intro _)
    all_goals first | omega | exact (ho _ (by assumption)).1 | exact (ho _ (by assumption)).2 | exact hR _ _ hK | contradiction
  · rw [if_neg c] at hK
    have hA : wok (wA s 0 r 3 1) := wok_A (by decide) h5
    by_cases c2 : wFate s t = 1
    · rw [if_pos c2] at hK
      have hm : wok (wFd (wFd (wA s 0 r 3 1) 6 (wI ((wA s 0 r 3 1).1 6 + 1))) 7 (wI ((wA s 0 r 3 1).1 7 + 1))) := wok_Fd (wok_Fd hA)
      have ho := wok_Raise (r := r) (t := wI (t - wG (wP (wMelt (wFd (wFd (wA s 0 r 3 1) 6 (wI ((wA s 0 r 3 1).1 6 + 1))) 7 (wI ((wA s 0 r 3 1).1 7 + 1))) k t v) 0 r 2 0) 0 r 1)) (wok_P (t := 0) (i := r) (c := 2) (v := 0) (by decide) (wok_Melt (k := k) (t := t) (v := v) hm))
      repeat' (first | (refine And.intro ?_ ?_) | intro _)
      all_goals first | omega | exact (ho _ (by assumption)).1 | exact (ho _ (by assumption)).2 | exact (hm _ (by assumption)).1 | exact (hm _ (by assumption)).2 | exact hR _ _ hK | contradiction
    · rw [if_neg c2] at hK
      have hm : wok (wFd (wFd (wA s 0 r 3 1) 6 (wI ((wA s 0 r 3 1).1 6 + 1))) 7 (wI ((wA s 0 r 3 1).1 7 + 0))) := wok_Fd (wok_Fd hA)
      have ho := wok_Raise (r := r) (t := wI (t - wG (wP (wMelt (wFd (wFd (wA s 0 r 3 1) 6 (wI ((wA s 0 r 3 1).1 6 + 1))) 7 (wI ((wA s 0 r 3 1).1 7 + 0))) k t v) 0 r 2 0) 0 r 1)) (wok_P (t := 0) (i := r) (c := 2) (v := 0) (by decide) (wok_Melt (k := k) (t := t) (v := v) hm))
      repeat' (first | (refine And.intro ?_ ?_) | intro _)
      all_goals first | omega | exact (ho _ (by assumption)).1 | exact (ho _ (by assumption)).2 | exact (hm _ (by assumption)).1 | exact (hm _ (by assumption)).2 | exact hR _ _ hK | contradiction
def cW_X1_playEvent : Sp WS := atR 0 (a4 sX1_playEvent)
theorem qW_X1_playEvent {M : XI} {rc rs pc pc2 : Nat} (d : xl_Ca M pc mX1_playEvent pc2) : cOk encW bdW M rc rs pc pc2 5 cW_X1_playEvent := cSame mX1_playEvent_ok vX1_playEvent d wcl rfl lenW recW
def wPlayM (w : WS) (r t : Int) : WS := wRise (wRaise w r t)
def sX1_playMark : Int → Int → WS → KW → Prop := fun r t s K => (xB r ∧ xB t ∧ wok s) ∧ K [] (wPlayM s r t)
theorem mX1_playMark_ok : mOk encW bdW mX1_playMark (atR 0 (a2 sX1_playMark)) := by
  refine mOVa2 kX1_playMark (fun _ _ => rfl) (fun r t s K h hb => wx_J [] 9 tX1_playMark_ok rfl (fun J hR hJ => ?_))
  obtain ⟨⟨h1, h2, h3⟩, hK⟩ := h
  exact ⟨⟨h1, h2⟩, wok_Raise h3, hR _ _ hK⟩
def cW_X1_playMark : Sp WS := atR 0 (a2 sX1_playMark)
theorem qW_X1_playMark {M : XI} {rc rs pc pc2 : Nat} (d : xl_Ca M pc mX1_playMark pc2) : cOk encW bdW M rc rs pc pc2 3 cW_X1_playMark := cSame mX1_playMark_ok vX1_playMark d wcl rfl lenW recW
def wPlayI (w : WS) (r : Int) : WS := wRise (wP w 0 r 2 1)
def sX1_playIdle : Int → WS → KW → Prop := fun r s K => (xB r ∧ wok s) ∧ K [] (wPlayI s r)
theorem mX1_playIdle_ok : mOk encW bdW mX1_playIdle (atR 0 (a1 sX1_playIdle)) := by
  refine mOVa1 kX1_playIdle (fun _ => rfl) (fun r s K h hb => wx_J [] 9 tX1_playIdle_ok rfl (fun J hR hJ => ?_))
  obtain ⟨⟨h1, h2⟩, hK⟩ := h
  exact ⟨⟨h1, ⟨by omega, by omega⟩, ⟨by omega, by omega⟩⟩, wok_P (by decide) h2, hR _ _ hK⟩
def cW_X1_playIdle : Sp WS := atR 0 (a1 sX1_playIdle)
theorem qW_X1_playIdle {M : XI} {rc rs pc pc2 : Nat} (d : xl_Ca M pc mX1_playIdle pc2) : cOk encW bdW M rc rs pc pc2 2 cW_X1_playIdle := cSame mX1_playIdle_ok vX1_playIdle d wcl rfl lenW recW
theorem wok_PlayM {w : WS} {r t : Int} (h : wok w) : wok (wPlayM w r t) := wok_Rise (wok_Raise h)
theorem wok_PlayI {w : WS} {r : Int} (h : wok w) : wok (wPlayI w r) := wok_Rise (wok_P (by decide) h)
-- X1_comeEvent: heads []
def tX1_comeEvent : Nat → Blk WS := fun pc => bif Nat.beq pc 0 then (oAld 0 <| oGet (fgW) 1 14 <| oGet (fgW) 0 3 <| oIst 5 <| oI 0 <| oAld 0 <| oGet (fgW) 1 3 <| oIld 2 <| oSubW <| oMax <| oIst 6 <| oAld 0 <| oI 0 <| oIld 4 <| oIld 2 <| oC4 (cW_X1_note) <| oAld 0 <| oIld 1 <| oIld 2 <| oIld 3 <| oIld 4 <| oC5 (cW_X1_playEvent) <| oIst 7 <| oAld 0 <| oGet (fgW) 1 14 <| oIld 5 <| oI 3 <| oIld 1 <| oC4 (cW_X0_set) <| oAld 0 <| oGet (fgW) 1 14 <| oIld 5 <| oI 4 <| oIld 3 <| oC4 (cW_X0_set) <| oAld 0 <| oGet (fgW) 1 14 <| oIld 5 <| oI 5 <| oIld 7 <| oC4 (cW_X0_set) <| oAld 0 <| oGet (fgW) 1 14 <| oIld 5 <| oI 6 <| oIld 6 <| oC4 (cW_X0_set) <| oIld 7 <| oIret) else oNo
theorem tX1_comeEvent_ok : ∀ pc, bOk (encW) (bdW) mX1_comeEvent 0 0 pc (tX1_comeEvent pc) := fun pc => (tLeaf (okAldn iX1_comeEvent_0 rfl <| okGet (vFgW) iX1_comeEvent_1 <| okGet (vFgW) iX1_comeEvent_4 <| okIst iX1_comeEvent_7 (by decide) <| okIc iX1_comeEvent_9 <| okAldn iX1_comeEvent_10 rfl <| okGet (vFgW) iX1_comeEvent_11 <| okIldn iX1_comeEvent_14 rfl <| okSubW iX1_comeEvent_15 <| okMax iX1_comeEvent_16 <| okIst iX1_comeEvent_19 (by decide) <| okAldn iX1_comeEvent_21 rfl <| okIc iX1_comeEvent_22 <| okIld iX1_comeEvent_23 <| okIldn iX1_comeEvent_25 rfl <| okC4 (qW_X1_note iX1_comeEvent_26) <| okAldn iX1_comeEvent_29 rfl <| okIldn iX1_comeEvent_30 rfl <| okIldn iX1_comeEvent_31 rfl <| okIldn iX1_comeEvent_32 rfl <| okIld iX1_comeEvent_33 <| okC5 (qW_X1_playEvent iX1_comeEvent_35) <| okIst iX1_comeEvent_38 (by decide) <| okAldn iX1_comeEvent_40 rfl <| okGet (vFgW) iX1_comeEvent_41 <| okIld iX1_comeEvent_44 <| okIc iX1_comeEvent_46 <| okIldn iX1_comeEvent_47 rfl <| okC4 (qW_X0_set iX1_comeEvent_48) <| okAldn iX1_comeEvent_51 rfl <| okGet (vFgW) iX1_comeEvent_52 <| okIld iX1_comeEvent_55 <| okIc iX1_comeEvent_57 <| okIldn iX1_comeEvent_58 rfl <| okC4 (qW_X0_set iX1_comeEvent_59) <| okAldn iX1_comeEvent_62 rfl <| okGet (vFgW) iX1_comeEvent_63 <| okIld iX1_comeEvent_66 <| okIc iX1_comeEvent_68 <| okIld iX1_comeEvent_69 <| okC4 (qW_X0_set iX1_comeEvent_71) <| okAldn iX1_comeEvent_74 rfl <| okGet (vFgW) iX1_comeEvent_75 <| okIld iX1_comeEvent_78 <| okBi iX1_comeEvent_80 (by decide) <| okIld iX1_comeEvent_82 <| okC4 (qW_X0_set iX1_comeEvent_84) <| okIld iX1_comeEvent_87 <| okIret iX1_comeEvent_89 rfl)) pc
-- X1_comeMark: heads []
def tX1_comeMark : Nat → Blk WS := fun pc => bif Nat.beq pc 0 then (oAld 0 <| oI 1 <| oIld 1 <| oIld 2 <| oC4 (cW_X1_note) <| oAld 0 <| oIld 1 <| oIld 2 <| oC3 (cW_X1_playMark) <| oVret) else oNo
theorem tX1_comeMark_ok : ∀ pc, bOk (encW) (bdW) mX1_comeMark 0 0 pc (tX1_comeMark pc) := fun pc => (tLeaf (okAldn iX1_comeMark_0 rfl <| okIc iX1_comeMark_1 <| okIldn iX1_comeMark_2 rfl <| okIldn iX1_comeMark_3 rfl <| okC4 (qW_X1_note iX1_comeMark_4) <| okAldn iX1_comeMark_7 rfl <| okIldn iX1_comeMark_8 rfl <| okIldn iX1_comeMark_9 rfl <| okC3 (qW_X1_playMark iX1_comeMark_10) <| okVret iX1_comeMark_13 rfl)) pc
-- X1_comeIdle: heads []
def tX1_comeIdle : Nat → Blk WS := fun pc => bif Nat.beq pc 0 then (oAld 0 <| oI 2 <| oIld 1 <| oI 0 <| oC4 (cW_X1_note) <| oAld 0 <| oIld 1 <| oC2 (cW_X1_playIdle) <| oVret) else oNo
theorem tX1_comeIdle_ok : ∀ pc, bOk (encW) (bdW) mX1_comeIdle 0 0 pc (tX1_comeIdle pc) := fun pc => (tLeaf (okAldn iX1_comeIdle_0 rfl <| okIc iX1_comeIdle_1 <| okIldn iX1_comeIdle_2 rfl <| okIc iX1_comeIdle_3 <| okC4 (qW_X1_note iX1_comeIdle_4) <| okAldn iX1_comeIdle_7 rfl <| okIldn iX1_comeIdle_8 rfl <| okC2 (qW_X1_playIdle iX1_comeIdle_9) <| okVret iX1_comeIdle_12 rfl)) pc
-- X1_reset: heads [61, 133]
def tX1_reset : Nat → Blk WS := fun pc => bif Nat.blt pc 95 then (bif Nat.blt pc 61 then (bif Nat.beq pc 0 then (oAld 0 <| oIld 2 <| oPut (fpW) 1 0 <| oAld 0 <| oIld 3 <| oPut (fpW) 1 1 <| oAld 0 <| oIld 4 <| oPut (fpW) 1 2 <| oAld 0 <| oI 0 <| oPut (fpW) 1 3 <| oAld 0 <| oI 0 <| oPut (fpW) 1 4 <| oAld 0 <| oI 0 <| oPut (fpW) 1 5 <| oAld 0 <| oI 0 <| oPut (fpW) 1 6 <| oAld 0 <| oI 0 <| oPut (fpW) 1 7 <| oAld 0 <| oI 0 <| oPut (fpW) 1 8 <| oAld 0 <| oI 0 <| oPut (fpW) 1 9 <| oAld 0 <| oGet (fgW) 1 10 <| oC1 (cW_X0_clear) <| oI 0 <| oIst 5 <| oM [true, true, false, false, false, true] (oTo 61)) else oNo) else (bif Nat.beq pc 61 then (oIld 5 <| oIld 1 <| oCGe 95 <| oAld 0 <| oGet (fgW) 1 10 <| oIld 5 <| oC2 (cW_X0_open) <| oPop <| oAld 0 <| oGet (fgW) 1 10 <| oIld 5 <| oI 1 <| oI 20 <| oC4 (cW_X0_set) <| oInc 5 1 <| oM [true, true, false, false, false, true] (oTo 61)) else oNo)) else (bif Nat.blt pc 133 then (bif Nat.beq pc 95 then (oAld 0 <| oGet (fgW) 1 11 <| oC1 (cW_X0_clear) <| oAld 0 <| oGet (fgW) 1 12 <| oC1 (cW_X0_clear) <| oAld 0 <| oGet (fgW) 1 13 <| oC1 (cW_X0_clear) <| oAld 0 <| oGet (fgW) 1 14 <| oC1 (cW_X0_clear) <| oAld 0 <| oGet (fgW) 1 15 <| oC1 (cW_X0_clear) <| oI 0 <| oIst 5 <| oM [true, false, false, false, false, true] (oTo 133)) else oNo) else (bif Nat.blt pc 168 then (bif Nat.beq pc 133 then (oIld 5 <| oI 6 <| oCGe 168 <| oAld 0 <| oGet (fgW) 1 15 <| oIld 5 <| oC2 (cW_X0_open) <| oPop <| oAld 0 <| oGet (fgW) 1 15 <| oIld 5 <| oI 7 <| oI (-1) <| oC4 (cW_X0_set) <| oInc 5 1 <| oM [true, false, false, false, false, true] (oTo 133)) else oNo) else (bif Nat.beq pc 168 then (oVret) else oNo)))
theorem tX1_reset_ok : ∀ pc, bOk (encW) (bdW) mX1_reset 0 0 pc (tX1_reset pc) := fun pc => (tNode (tNode (tLeaf (okAldn iX1_reset_0 rfl <| okIldn iX1_reset_1 rfl <| okPut (vFpW) iX1_reset_2 <| okAldn iX1_reset_5 rfl <| okIldn iX1_reset_6 rfl <| okPut (vFpW) iX1_reset_7 <| okAldn iX1_reset_10 rfl <| okIld iX1_reset_11 <| okPut (vFpW) iX1_reset_13 <| okAldn iX1_reset_16 rfl <| okIc iX1_reset_17 <| okPut (vFpW) iX1_reset_18 <| okAldn iX1_reset_21 rfl <| okIc iX1_reset_22 <| okPut (vFpW) iX1_reset_23 <| okAldn iX1_reset_26 rfl <| okIc iX1_reset_27 <| okPut (vFpW) iX1_reset_28 <| okAldn iX1_reset_31 rfl <| okIc iX1_reset_32 <| okPut (vFpW) iX1_reset_33 <| okAldn iX1_reset_36 rfl <| okIc iX1_reset_37 <| okPut (vFpW) iX1_reset_38 <| okAldn iX1_reset_41 rfl <| okIc iX1_reset_42 <| okPut (vFpW) iX1_reset_43 <| okAldn iX1_reset_46 rfl <| okIc iX1_reset_47 <| okPut (vFpW) iX1_reset_48 <| okAldn iX1_reset_51 rfl <| okGet (vFgW) iX1_reset_52 <| okC1 (qW_X0_clear iX1_reset_55) <| okIc iX1_reset_58 <| okIst iX1_reset_59 (by decide) <| okM (okTo (tl rfl)))) (tLeaf (okIld iX1_reset_61 <| okIldn iX1_reset_63 rfl <| okCGe (tl rfl) iX1_reset_64 <| okAldn iX1_reset_67 rfl <| okGet (vFgW) iX1_reset_68 <| okIld iX1_reset_71 <| okC2 (qW_X0_open iX1_reset_73) <| okPop iX1_reset_76 <| okAldn iX1_reset_77 rfl <| okGet (vFgW) iX1_reset_78 <| okIld iX1_reset_81 <| okIc iX1_reset_83 <| okBi iX1_reset_84 (by decide) <| okC4 (qW_X0_set iX1_reset_86) <| okInc iX1_reset_89 (by decide) <| okGotoM (tl rfl) iX1_reset_92))) (tNode (tLeaf (okAldn iX1_reset_95 rfl <| okGet (vFgW) iX1_reset_96 <| okC1 (qW_X0_clear iX1_reset_99) <| okAldn iX1_reset_102 rfl <| okGet (vFgW) iX1_reset_103 <| okC1 (qW_X0_clear iX1_reset_106) <| okAldn iX1_reset_109 rfl <| okGet (vFgW) iX1_reset_110 <| okC1 (qW_X0_clear iX1_reset_113) <| okAldn iX1_reset_116 rfl <| okGet (vFgW) iX1_reset_117 <| okC1 (qW_X0_clear iX1_reset_120) <| okAldn iX1_reset_123 rfl <| okGet (vFgW) iX1_reset_124 <| okC1 (qW_X0_clear iX1_reset_127) <| okIc iX1_reset_130 <| okIst iX1_reset_131 (by decide) <| okM (okTo (tl rfl)))) (tNode (tLeaf (okIld iX1_reset_133 <| okBi iX1_reset_135 (by decide) <| okCGe (tl rfl) iX1_reset_137 <| okAldn iX1_reset_140 rfl <| okGet (vFgW) iX1_reset_141 <| okIld iX1_reset_144 <| okC2 (qW_X0_open iX1_reset_146) <| okPop iX1_reset_149 <| okAldn iX1_reset_150 rfl <| okGet (vFgW) iX1_reset_151 <| okIld iX1_reset_154 <| okBi iX1_reset_156 (by decide) <| okIc iX1_reset_158 <| okC4 (qW_X0_set iX1_reset_159) <| okInc iX1_reset_162 (by decide) <| okGotoM (tl rfl) iX1_reset_165)) (tLeaf (okVret iX1_reset_168 rfl))))) pc
def wComeE (w : WS) (k t v r : Int) : WS :=
  let w1 := wNote w 0 r t
  let w2 := wPlayE w1 k t v r
  wP (wP (wP (wP w2 4 (wZ w 4) 3 k) 4 (wZ w 4) 4 v) 4 (wZ w 4) 5 (wFate w1 t)) 4 (wZ w 4) 6 (max 0 (wI (w.1 3 - t)))
theorem wok_ComeE {w : WS} {k t v r : Int} (h : wok w) : wok (wComeE w k t v r) :=
  wok_P (by decide) (wok_P (by decide) (wok_P (by decide) (wok_P (by decide) (wok_PlayE (wok_Note h)))))
def sX1_comeEvent : Int → Int → Int → Int → WS → KW → Prop := fun k t v r s K => (xB k ∧ xB t ∧ xB v ∧ xB r ∧ wok s) ∧ (0 ≤ wFate (wNote s 0 r t) t → wFate (wNote s 0 r t) t ≤ 2 → K [pI (wFate (wNote s 0 r t) t)] (wComeE s k t v r))
theorem mX1_comeEvent_ok : mOk encW bdW mX1_comeEvent (atR 0 (a4 sX1_comeEvent)) := by
  refine mOVa4 kX1_comeEvent (fun _ _ _ _ => rfl) (fun k t v r s K h hb => wx_J [] 9 tX1_comeEvent_ok rfl (fun J hR hJ => ?_))
  obtain ⟨⟨h1, h2, h3, h4, h5⟩, hK⟩ := h
  have hf := wFate_b (wNote s 0 r t) t
  have hK := hK hf.1 hf.2
  have hn : wok (wNote s 0 r t) := wok_Note h5
  have hz : xB (wZ s 4) := (hb.2 4).1
  intro _ _ hw
  have hmx := max_B (a := 0) ⟨by omega, by omega⟩ hw
  repeat' (first | (refine And.intro ?_ ?_) | intro _)
  all_goals first | omega | exact (hn _ (by assumption)).1 | exact (hn _ (by assumption)).2 | exact hR _ _ hK
def wComeM (w : WS) (r t : Int) : WS := wPlayM (wNote w 1 r t) r t
def sX1_comeMark : Int → Int → WS → KW → Prop := fun r t s K => (xB r ∧ xB t ∧ wok s) ∧ K [] (wComeM s r t)
theorem mX1_comeMark_ok : mOk encW bdW mX1_comeMark (atR 0 (a2 sX1_comeMark)) := by
  refine mOVa2 kX1_comeMark (fun _ _ => rfl) (fun r t s K h hb => wx_J [] 9 tX1_comeMark_ok rfl (fun J hR hJ => ?_))
  obtain ⟨⟨h1, h2, h3⟩, hK⟩ := h
  exact ⟨⟨⟨by omega, by omega⟩, h1, h2⟩, ⟨⟨h1, h2, wok_Note h3⟩, hR _ _ hK⟩⟩
def wComeI (w : WS) (r : Int) : WS := wPlayI (wNote w 2 r 0) r
def sX1_comeIdle : Int → WS → KW → Prop := fun r s K => (xB r ∧ wok s) ∧ K [] (wComeI s r)
theorem mX1_comeIdle_ok : mOk encW bdW mX1_comeIdle (atR 0 (a1 sX1_comeIdle)) := by
  refine mOVa1 kX1_comeIdle (fun _ => rfl) (fun r s K h hb => wx_J [] 9 tX1_comeIdle_ok rfl (fun J hR hJ => ?_))
  obtain ⟨⟨h1, h2⟩, hK⟩ := h
  exact ⟨⟨⟨by omega, by omega⟩, h1, ⟨by omega, by omega⟩⟩, ⟨⟨h1, wok_Note h2⟩, hR _ _ hK⟩⟩
theorem wok_ComeM {w : WS} {r t : Int} (h : wok w) : wok (wComeM w r t) := wok_PlayM (wok_Note h)
theorem wok_ComeI {w : WS} {r : Int} (h : wok w) : wok (wComeI w r) := wok_PlayI (wok_Note h)
end
section
/-! ===== World: reset, copyFrom, playInput ===== -/
def wOpn (w : WS) (t : Nat) (i : Int) : WS := if 0 ≤ i ∧ i ≤ wZ w t ∧ wZ w t < rmT t then wOp w t i else w
def rsL : Nat → Int → WS → WS
  | 0, _, w => w
  | n + 1, i, w => rsL n (i + 1) (wP (wOpn w 0 i) 0 i 1 20)
def rkL : Nat → Int → WS → WS
  | 0, _, w => w
  | n + 1, i, w => rkL n (i + 1) (wP (wOpn w 5 i) 5 i 7 (-1))
def wCl (w : WS) (t : Nat) : WS := setT w t (0, (w.2 t).2)
def wRes2 (w : WS) : WS := rkL 6 0 (wCl (wCl (wCl (wCl (wCl w 1) 2) 3) 4) 5)
def wReset (w : WS) (n g l e : Int) : WS := wRes2 (rsL n.toNat 0 (wCl (wFd (wFd (wFd (wFd (wFd (wFd (wFd (wFd (wFd (wFd w 0 g) 1 l) 2 e) 3 0) 4 0) 5 0) 6 0) 7 0) 8 0) 9 0) 0))
theorem X1_reset_l2 {K : KW} {Pt : WS → Prop} : ∀ (m : Nat) (i : Int) (s : WS), 0 ≤ i → i ≤ 6 → m = (6 - i).toNat → K [] (rkL m i s) → wX encW bdW mX1_reset 0 0 K Pt 133 [some (pR 0), none, none, none, none, some (pI i)] [] s := by
  intro m
  induction m with
  | zero =>
    intro i s h0 h1 hm hK
    refine wx_J [61, 133] 9 tX1_reset_ok rfl (fun J hR hJ => ?_)
    repeat' (first | (refine And.intro ?_ ?_) | intro _)
    all_goals first | omega | exact hR _ _ hK
  | succ m ih =>
    intro i s h0 h1 hm hK
    refine wx_J [61, 133] 9 tX1_reset_ok rfl (fun J hR hJ => ?_)
    rw [rkL] at hK
    have g := ih (i + 1) _ (by omega) (by omega) (by omega) hK
    unfold wOpn at g
    refine ⟨⟨⟨by omega, by omega⟩, ⟨by omega, by omega⟩⟩, fun c => absurd c (by omega), fun c => ⟨⟨by omega, by omega⟩, fun c1 => ?_, fun c1 => ?_⟩⟩
    · rw [if_pos c1] at g
      repeat' (first | (refine And.intro ?_ ?_) | intro _)
      all_goals first | omega | exact hJ _ _ _ _ g
    · rw [if_neg c1] at g
      repeat' (first | (refine And.intro ?_ ?_) | intro _)
      all_goals first | omega | exact hJ _ _ _ _ g
theorem X1_reset_l1 {K : KW} {Pt : WS → Prop} (n : Int) (hn : xB n) : ∀ (m : Nat) (i : Int) (s : WS), 0 ≤ i → i ≤ max 0 n → m = (n - i).toNat → K [] (wRes2 (rsL m i s)) → wX encW bdW mX1_reset 0 0 K Pt 61 [some (pR 0), some (pI n), none, none, none, some (pI i)] [] s := by
  intro m
  induction m with
  | zero =>
    intro i s h0 h1 hm hK
    refine wx_J [61, 133] 9 tX1_reset_ok rfl (fun J hR hJ => ?_)
    have g := X1_reset_l2 (K := K) (Pt := Pt) 6 0 _ (by omega) (by omega) (by omega) hK
    repeat' (first | (refine And.intro ?_ ?_) | intro _)
    all_goals first | omega | exact hJ _ _ _ _ g
  | succ m ih =>
    intro i s h0 h1 hm hK
    refine wx_J [61, 133] 9 tX1_reset_ok rfl (fun J hR hJ => ?_)
    rw [rsL] at hK
    have g := ih (i + 1) _ (by omega) (by omega) (by omega) hK
    unfold wOpn at g
    refine ⟨⟨⟨by omega, by omega⟩, ⟨by omega, by omega⟩⟩, fun c => absurd c (by omega), fun c => ⟨⟨by omega, by omega⟩, fun c1 => ?_, fun c1 => ?_⟩⟩
    · rw [if_pos c1] at g
      repeat' (first | (refine And.intro ?_ ?_) | intro _)
      all_goals first | omega | exact hJ _ _ _ _ g
    · rw [if_neg c1] at g
      repeat' (first | (refine And.intro ?_ ?_) | intro _)
      all_goals first | omega | exact hJ _ _ _ _ g
def sX1_reset : Int → Int → Int → Int → WS → KW → Prop := fun n g l e s K => (xB n ∧ xB g ∧ xB l ∧ xB e) ∧ K [] (wReset s n g l e)
theorem mX1_reset_ok : mOk encW bdW mX1_reset (atR 0 (a4 sX1_reset)) := by
  refine mOVa4 kX1_reset (fun _ _ _ _ => rfl) (fun n g l e s K h hb => wx_J [61, 133] 9 tX1_reset_ok rfl (fun J hR hJ => ?_))
  obtain ⟨⟨h1, h2, h3, h4⟩, hK⟩ := h
  have q := X1_reset_l1 (K := K) (Pt := fun _ => False) n h1 n.toNat 0 _ (by omega) (by omega) (by omega) hK
  repeat' (first | (refine And.intro ?_ ?_) | intro _)
  all_goals first | omega | exact hJ _ _ _ _ q
theorem wok_Opn {w : WS} {t : Nat} {i : Int} (ht : t < 6) (h : wok w) : wok (wOpn w t i) := by
  unfold wOpn
  split
  · next c => exact wok_Op ht h c.2.2
  · exact h
theorem wok_rsL : ∀ (n : Nat) (i : Int) (w : WS), wok w → wok (rsL n i w)
  | 0, _, _, h => h
  | n + 1, i, _, h => wok_rsL n (i + 1) _ (wok_P (by decide) (wok_Opn (by decide) h))
theorem wok_rkL : ∀ (n : Nat) (i : Int) (w : WS), wok w → wok (rkL n i w)
  | 0, _, _, h => h
  | n + 1, i, _, h => wok_rkL n (i + 1) _ (wok_P (by decide) (wok_Opn (by decide) h))
theorem rmT0 {t : Nat} (ht : t < 6) : 0 ≤ rmT t := by
  have key : ∀ t, t < 6 → 0 ≤ rmT t := by decide
  exact key t ht
theorem wok_Cl {w : WS} {t : Nat} (ht : t < 6) (h : wok w) : wok (wCl w t) := wok_set h ⟨by show (0 : Int) ≤ 0; omega, rmT0 ht⟩
theorem wok_Reset {w : WS} {n g l e : Int} (h : wok w) : wok (wReset w n g l e) :=
  wok_rkL _ _ _ (wok_Cl (by decide) (wok_Cl (by decide) (wok_Cl (by decide) (wok_Cl (by decide) (wok_Cl (by decide) (wok_rsL _ _ _ (wok_Cl (by decide) h)))))))
/-! two Worlds -/
abbrev WWS : Type := WS × WS
abbrev KWW : Type := PS → WWS → Prop
def encWW (s : WWS) : XH := encW s.1 ++ encW s.2
def bdWW (s : WWS) : Prop := bdW s.1 ∧ bdW s.2
def pUp (k : Nat) : PV → PV := fun v => match v with
  | .inr (.inr (.inl r)) => .inr (.inr (.inl (k + r)))
  | .inl z => .inl z
  | .inr (.inl z) => .inr (.inl z)
  | .inr (.inr (.inr j)) => .inr (.inr (.inr j))
def oUp (k : Nat) : Option PV → Option PV := fun v => match v with
  | some v => some (pUp k v)
  | none => none
def fgWW : FG WWS := fun s r ci k => bif Nat.blt r 13 then fgW s.1 r ci k else oUp 13 (fgW s.2 (r - 13) ci k)
def fpWW : FP WWS := fun s r ci k z => bif Nat.blt r 13 then (match fpW s.1 r ci k z with
  | some w => some (w, s.2)
  | none => none) else none
theorem xl_n_app {α : Type} : ∀ (a b : List α) (k : Nat), xl_n (a ++ b) k = if k < a.length then xl_n a k else xl_n b (k - a.length) := by
  intro a b k
  rw [xl_n_eq, xl_n_eq, xl_n_eq, List.getElem?_append]
theorem lenW13 (s : WS) : (encW s).length = 13 := rfl
theorem pUp_o {r k : Nat} {w : Value} {v : PV} (h : xl_o r w = pV v) : xl_o (k + r) w = pV (pUp k v) := by
  rcases v with z | z | q | j <;> cases w <;> simp_all [xl_o, pV, pUp, Nat.add_assoc]
theorem vFgWW : vFg encWW bdWW fgWW := by
  intro s r ci k v hb h
  unfold fgWW at h
  cases e : Nat.blt r 13 with
  | true =>
    rw [e] at h
    have hr : r < 13 := Nat.le_of_ble_eq_true e
    obtain ⟨fs, w, e1, e2, e3, e4⟩ := vFgW s.1 r ci k v hb.1 h
    exact ⟨fs, w, by rw [encWW, xl_n_app, if_pos (by rw [lenW13]; exact hr)]; exact e1, e2, e3, e4⟩
  | false =>
    rw [e] at h
    have hr : ¬ r < 13 := fun q => by rw [show Nat.blt r 13 = true from Nat.ble_eq_true_of_le q] at e; cases e
    dsimp only [cond_false] at h
    cases e2 : fgW s.2 (r - 13) ci k with
    | none => rw [e2] at h; cases h
    | some v0 =>
      rw [e2] at h
      cases h
      obtain ⟨fs, w, e1, e2, e3, e4⟩ := vFgW s.2 (r - 13) ci k v0 hb.2 e2
      refine ⟨fs, w, by rw [encWW, xl_n_app, if_neg (by rw [lenW13]; exact hr)]; exact e1, e2, ?_, ?_⟩
      · have := pUp_o (k := 13) e3
        rw [show 13 + (r - 13) = r by omega] at this
        exact this
      · intro z hz
        rcases v0 with z0 | z0 | q | j
        · cases hz; exact e4 z rfl
        · cases hz
        · cases hz
        · cases hz
theorem xl_s_app {α : Type} : ∀ (a b : List α) (k : Nat) (x : α), k < a.length → xl_s (a ++ b) k x = xl_s a k x ++ b := by
  intro a b k x h
  rw [xl_s_eq, xl_s_eq, List.set_append_left _ _ h]
theorem vFpWW : vFp encWW bdWW fpWW := by
  intro s r ci k z s' hb hz h
  unfold fpWW at h
  obtain ⟨h1, h2⟩ := bN h
  have hr : r < 13 := Nat.le_of_ble_eq_true h1
  cases e : fpW s.1 r ci k z with
  | none => rw [e] at h2; cases h2
  | some w =>
    rw [e] at h2
    cases h2
    obtain ⟨fs, e1, e2, e3, e4⟩ := vFpW s.1 r ci k z w hb.1 hz e
    refine ⟨fs, by rw [encWW, xl_n_app, if_pos (by rw [lenW13]; exact hr)]; exact e1, e2, ?_, e4, hb.2⟩
    show encW w ++ encW s.2 = xl_s (encW s.1 ++ encW s.2) r _
    rw [xl_s_app _ _ _ _ (by rw [lenW13]; exact hr), e3]
theorem lenWW (s s' : WWS) : (encWW s').length = (encWW s).length := rfl
def piWW (q : Nat) : Nat → Nat := fun k => bif Nat.blt k 2 then q + k else q + 11 + k
theorem lkWW : ∀ (q t : Nat), tixW q = some t → vLk encWW bdWW (encTT (rmT t) (wdT t) (rmT t) (wdT t)) (bdTT (rmT t) (wdT t) (rmT t) (wdT t)) (piWW q) (fun s => (s.1.2 t, s.2.2 t)) (fun s b => (setT s.1 t b.1, setT s.2 t b.2)) ∧ ∀ s, ∃ fs, xl_n (encWW s) (piWW q 0) = some (.inr (0, fs)) := by
  intro q t ht
  have hm := rmT_b ht
  have hinj : ∀ i j, i < 4 → j < 4 → piWW q i = piWW q j → i = j := by
    intro i j hi hj e
    have key : ∀ k, k < 4 → piWW q k = q + (if k < 2 then k else 11 + k) := by
      intro k hk
      match k, hk with
      | 0, _ => rfl
      | 1, _ => rfl
      | 2, _ => rfl
      | 3, _ => rfl
    rw [key i hi, key j hj] at e
    split at e <;> split at e <;> omega
  have hok : ∀ (s : TTS) (j : Nat) (c : XE), (encTT (rmT t) (wdT t) (rmT t) (wdT t) s)[j]? = some c → xl_ok (piWW q) j c := by
    intro s j c h
    match j, h with
    | 0, h => cases h; exact fun aC ρ σ => rfl
    | 1, h => cases h; exact fun aC ρ σ => rfl
    | 2, h => cases h; exact fun aC ρ σ => rfl
    | 3, h => cases h; exact fun aC ρ σ => rfl
    | j + 4, h => cases h
  rcases tixW_inv ht with ⟨rfl, rfl⟩ | ⟨rfl, rfl⟩ | ⟨rfl, rfl⟩ | ⟨rfl, rfl⟩ | ⟨rfl, rfl⟩ | ⟨rfl, rfl⟩
  · refine ⟨⟨fun s hb => ⟨⟨⟨hm, hb.1.2 0⟩, ⟨hm, hb.2.2 0⟩⟩, ⟨hinj, fun j hj => ?_⟩, hok _⟩, fun s s' hb hb' => ⟨⟨bdW_set hb.1 hb'.1, bdW_set hb.2 hb'.2⟩, rfl, ⟨rfl, fun j hj => ?_, fun k hk => ?_⟩, hok _⟩⟩, fun s => ⟨_, rfl⟩⟩
    · match j, hj with
      | 0, _ => exact ⟨rfl, Nat.le_of_ble_eq_true rfl⟩
      | 1, _ => exact ⟨rfl, Nat.le_of_ble_eq_true rfl⟩
      | 2, _ => exact ⟨rfl, Nat.le_of_ble_eq_true rfl⟩
      | 3, _ => exact ⟨rfl, Nat.le_of_ble_eq_true rfl⟩
      | j + 4, hj => exact absurd (show j + 4 < 4 from hj) (by omega)
    · match j, hj with
      | 0, _ => rfl
      | 1, _ => rfl
      | 2, _ => rfl
      | 3, _ => rfl
      | j + 4, hj => exact absurd (show j + 4 < 4 from hj) (by omega)
    · match k, hk with
      | 0, _ => rfl
      | 1, hk => exact absurd rfl (hk 0 (Nat.le_of_ble_eq_true rfl))
      | 2, hk => exact absurd rfl (hk 1 (Nat.le_of_ble_eq_true rfl))
      | 3, _ => rfl
      | 4, _ => rfl
      | 5, _ => rfl
      | 6, _ => rfl
      | 7, _ => rfl
      | 8, _ => rfl
      | 9, _ => rfl
      | 10, _ => rfl
      | 11, _ => rfl
      | 12, _ => rfl
      | 13, _ => rfl
      | 14, hk => exact absurd rfl (hk 2 (Nat.le_of_ble_eq_true rfl))
      | 15, hk => exact absurd rfl (hk 3 (Nat.le_of_ble_eq_true rfl))
      | 16, _ => rfl
      | 17, _ => rfl
      | 18, _ => rfl
      | 19, _ => rfl
      | 20, _ => rfl
      | 21, _ => rfl
      | 22, _ => rfl
      | 23, _ => rfl
      | 24, _ => rfl
      | 25, _ => rfl
      | k + 26, _ => rfl
  · refine ⟨⟨fun s hb => ⟨⟨⟨hm, hb.1.2 1⟩, ⟨hm, hb.2.2 1⟩⟩, ⟨hinj, fun j hj => ?_⟩, hok _⟩, fun s s' hb hb' => ⟨⟨bdW_set hb.1 hb'.1, bdW_set hb.2 hb'.2⟩, rfl, ⟨rfl, fun j hj => ?_, fun k hk => ?_⟩, hok _⟩⟩, fun s => ⟨_, rfl⟩⟩
    · match j, hj with
      | 0, _ => exact ⟨rfl, Nat.le_of_ble_eq_true rfl⟩
      | 1, _ => exact ⟨rfl, Nat.le_of_ble_eq_true rfl⟩
      | 2, _ => exact ⟨rfl, Nat.le_of_ble_eq_true rfl⟩
      | 3, _ => exact ⟨rfl, Nat.le_of_ble_eq_true rfl⟩
      | j + 4, hj => exact absurd (show j + 4 < 4 from hj) (by omega)
    · match j, hj with
      | 0, _ => rfl
      | 1, _ => rfl
      | 2, _ => rfl
      | 3, _ => rfl
      | j + 4, hj => exact absurd (show j + 4 < 4 from hj) (by omega)
    · match k, hk with
      | 0, _ => rfl
      | 1, _ => rfl
      | 2, _ => rfl
      | 3, hk => exact absurd rfl (hk 0 (Nat.le_of_ble_eq_true rfl))
      | 4, hk => exact absurd rfl (hk 1 (Nat.le_of_ble_eq_true rfl))
      | 5, _ => rfl
      | 6, _ => rfl
      | 7, _ => rfl
      | 8, _ => rfl
      | 9, _ => rfl
      | 10, _ => rfl
      | 11, _ => rfl
      | 12, _ => rfl
      | 13, _ => rfl
      | 14, _ => rfl
      | 15, _ => rfl
      | 16, hk => exact absurd rfl (hk 2 (Nat.le_of_ble_eq_true rfl))
      | 17, hk => exact absurd rfl (hk 3 (Nat.le_of_ble_eq_true rfl))
      | 18, _ => rfl
      | 19, _ => rfl
      | 20, _ => rfl
      | 21, _ => rfl
      | 22, _ => rfl
      | 23, _ => rfl
      | 24, _ => rfl
      | 25, _ => rfl
      | k + 26, _ => rfl
  · refine ⟨⟨fun s hb => ⟨⟨⟨hm, hb.1.2 2⟩, ⟨hm, hb.2.2 2⟩⟩, ⟨hinj, fun j hj => ?_⟩, hok _⟩, fun s s' hb hb' => ⟨⟨bdW_set hb.1 hb'.1, bdW_set hb.2 hb'.2⟩, rfl, ⟨rfl, fun j hj => ?_, fun k hk => ?_⟩, hok _⟩⟩, fun s => ⟨_, rfl⟩⟩
    · match j, hj with
      | 0, _ => exact ⟨rfl, Nat.le_of_ble_eq_true rfl⟩
      | 1, _ => exact ⟨rfl, Nat.le_of_ble_eq_true rfl⟩
      | 2, _ => exact ⟨rfl, Nat.le_of_ble_eq_true rfl⟩
      | 3, _ => exact ⟨rfl, Nat.le_of_ble_eq_true rfl⟩
      | j + 4, hj => exact absurd (show j + 4 < 4 from hj) (by omega)
    · match j, hj with
      | 0, _ => rfl
      | 1, _ => rfl
      | 2, _ => rfl
      | 3, _ => rfl
      | j + 4, hj => exact absurd (show j + 4 < 4 from hj) (by omega)
    · match k, hk with
      | 0, _ => rfl
      | 1, _ => rfl
      | 2, _ => rfl
      | 3, _ => rfl
      | 4, _ => rfl
      | 5, hk => exact absurd rfl (hk 0 (Nat.le_of_ble_eq_true rfl))
      | 6, hk => exact absurd rfl (hk 1 (Nat.le_of_ble_eq_true rfl))
      | 7, _ => rfl
      | 8, _ => rfl
      | 9, _ => rfl
      | 10, _ => rfl
      | 11, _ => rfl
      | 12, _ => rfl
      | 13, _ => rfl
      | 14, _ => rfl
      | 15, _ => rfl
      | 16, _ => rfl
      | 17, _ => rfl
      | 18, hk => exact absurd rfl (hk 2 (Nat.le_of_ble_eq_true rfl))
      | 19, hk => exact absurd rfl (hk 3 (Nat.le_of_ble_eq_true rfl))
      | 20, _ => rfl
      | 21, _ => rfl
      | 22, _ => rfl
      | 23, _ => rfl
      | 24, _ => rfl
      | 25, _ => rfl
      | k + 26, _ => rfl
  · refine ⟨⟨fun s hb => ⟨⟨⟨hm, hb.1.2 3⟩, ⟨hm, hb.2.2 3⟩⟩, ⟨hinj, fun j hj => ?_⟩, hok _⟩, fun s s' hb hb' => ⟨⟨bdW_set hb.1 hb'.1, bdW_set hb.2 hb'.2⟩, rfl, ⟨rfl, fun j hj => ?_, fun k hk => ?_⟩, hok _⟩⟩, fun s => ⟨_, rfl⟩⟩
    · match j, hj with
      | 0, _ => exact ⟨rfl, Nat.le_of_ble_eq_true rfl⟩
      | 1, _ => exact ⟨rfl, Nat.le_of_ble_eq_true rfl⟩
      | 2, _ => exact ⟨rfl, Nat.le_of_ble_eq_true rfl⟩
      | 3, _ => exact ⟨rfl, Nat.le_of_ble_eq_true rfl⟩
      | j + 4, hj => exact absurd (show j + 4 < 4 from hj) (by omega)
    · match j, hj with
      | 0, _ => rfl
      | 1, _ => rfl
      | 2, _ => rfl
      | 3, _ => rfl
      | j + 4, hj => exact absurd (show j + 4 < 4 from hj) (by omega)
    · match k, hk with
      | 0, _ => rfl
      | 1, _ => rfl
      | 2, _ => rfl
      | 3, _ => rfl
      | 4, _ => rfl
      | 5, _ => rfl
      | 6, _ => rfl
      | 7, hk => exact absurd rfl (hk 0 (Nat.le_of_ble_eq_true rfl))
      | 8, hk => exact absurd rfl (hk 1 (Nat.le_of_ble_eq_true rfl))
      | 9, _ => rfl
      | 10, _ => rfl
      | 11, _ => rfl
      | 12, _ => rfl
      | 13, _ => rfl
      | 14, _ => rfl
      | 15, _ => rfl
      | 16, _ => rfl
      | 17, _ => rfl
      | 18, _ => rfl
      | 19, _ => rfl
      | 20, hk => exact absurd rfl (hk 2 (Nat.le_of_ble_eq_true rfl))
      | 21, hk => exact absurd rfl (hk 3 (Nat.le_of_ble_eq_true rfl))
      | 22, _ => rfl
      | 23, _ => rfl
      | 24, _ => rfl
      | 25, _ => rfl
      | k + 26, _ => rfl
  · refine ⟨⟨fun s hb => ⟨⟨⟨hm, hb.1.2 4⟩, ⟨hm, hb.2.2 4⟩⟩, ⟨hinj, fun j hj => ?_⟩, hok _⟩, fun s s' hb hb' => ⟨⟨bdW_set hb.1 hb'.1, bdW_set hb.2 hb'.2⟩, rfl, ⟨rfl, fun j hj => ?_, fun k hk => ?_⟩, hok _⟩⟩, fun s => ⟨_, rfl⟩⟩
    · match j, hj with
      | 0, _ => exact ⟨rfl, Nat.le_of_ble_eq_true rfl⟩
      | 1, _ => exact ⟨rfl, Nat.le_of_ble_eq_true rfl⟩
      | 2, _ => exact ⟨rfl, Nat.le_of_ble_eq_true rfl⟩
      | 3, _ => exact ⟨rfl, Nat.le_of_ble_eq_true rfl⟩
      | j + 4, hj => exact absurd (show j + 4 < 4 from hj) (by omega)
    · match j, hj with
      | 0, _ => rfl
      | 1, _ => rfl
      | 2, _ => rfl
      | 3, _ => rfl
      | j + 4, hj => exact absurd (show j + 4 < 4 from hj) (by omega)
    · match k, hk with
      | 0, _ => rfl
      | 1, _ => rfl
      | 2, _ => rfl
      | 3, _ => rfl
      | 4, _ => rfl
      | 5, _ => rfl
      | 6, _ => rfl
      | 7, _ => rfl
      | 8, _ => rfl
      | 9, hk => exact absurd rfl (hk 0 (Nat.le_of_ble_eq_true rfl))
      | 10, hk => exact absurd rfl (hk 1 (Nat.le_of_ble_eq_true rfl))
      | 11, _ => rfl
      | 12, _ => rfl
      | 13, _ => rfl
      | 14, _ => rfl
      | 15, _ => rfl
      | 16, _ => rfl
      | 17, _ => rfl
      | 18, _ => rfl
      | 19, _ => rfl
      | 20, _ => rfl
      | 21, _ => rfl
      | 22, hk => exact absurd rfl (hk 2 (Nat.le_of_ble_eq_true rfl))
      | 23, hk => exact absurd rfl (hk 3 (Nat.le_of_ble_eq_true rfl))
      | 24, _ => rfl
      | 25, _ => rfl
      | k + 26, _ => rfl
  · refine ⟨⟨fun s hb => ⟨⟨⟨hm, hb.1.2 5⟩, ⟨hm, hb.2.2 5⟩⟩, ⟨hinj, fun j hj => ?_⟩, hok _⟩, fun s s' hb hb' => ⟨⟨bdW_set hb.1 hb'.1, bdW_set hb.2 hb'.2⟩, rfl, ⟨rfl, fun j hj => ?_, fun k hk => ?_⟩, hok _⟩⟩, fun s => ⟨_, rfl⟩⟩
    · match j, hj with
      | 0, _ => exact ⟨rfl, Nat.le_of_ble_eq_true rfl⟩
      | 1, _ => exact ⟨rfl, Nat.le_of_ble_eq_true rfl⟩
      | 2, _ => exact ⟨rfl, Nat.le_of_ble_eq_true rfl⟩
      | 3, _ => exact ⟨rfl, Nat.le_of_ble_eq_true rfl⟩
      | j + 4, hj => exact absurd (show j + 4 < 4 from hj) (by omega)
    · match j, hj with
      | 0, _ => rfl
      | 1, _ => rfl
      | 2, _ => rfl
      | 3, _ => rfl
      | j + 4, hj => exact absurd (show j + 4 < 4 from hj) (by omega)
    · match k, hk with
      | 0, _ => rfl
      | 1, _ => rfl
      | 2, _ => rfl
      | 3, _ => rfl
      | 4, _ => rfl
      | 5, _ => rfl
      | 6, _ => rfl
      | 7, _ => rfl
      | 8, _ => rfl
      | 9, _ => rfl
      | 10, _ => rfl
      | 11, hk => exact absurd rfl (hk 0 (Nat.le_of_ble_eq_true rfl))
      | 12, hk => exact absurd rfl (hk 1 (Nat.le_of_ble_eq_true rfl))
      | 13, _ => rfl
      | 14, _ => rfl
      | 15, _ => rfl
      | 16, _ => rfl
      | 17, _ => rfl
      | 18, _ => rfl
      | 19, _ => rfl
      | 20, _ => rfl
      | 21, _ => rfl
      | 22, _ => rfl
      | 23, _ => rfl
      | 24, hk => exact absurd rfl (hk 2 (Nat.le_of_ble_eq_true rfl))
      | 25, hk => exact absurd rfl (hk 3 (Nat.le_of_ble_eq_true rfl))
      | k + 26, _ => rfl
def wTC (a b : WS) (t : Nat) : WS := setT a t ((b.2 t).1, xcp (b.2 t).2 (a.2 t).2 0 0 ((b.2 t).1 * wdT t).toNat)
def cWW_X0_copyFrom : Sp WWS := fun as s K => match as with
  | [.inr (.inr (.inl q)), .inr (.inr (.inl q2))] => match tixW q with
    | some t => bif Nat.beq q2 (q + 13) then ((0 ≤ wZ s.2 t ∧ wZ s.2 t ≤ rmT t) ∧ K [] (wTC s.1 s.2 t, s.2)) else False
    | none => False
  | _ => False
theorem qWW_X0_copyFrom {M : XI} {rc rs pc pc2 : Nat} (d : xl_Ca M pc mX0_copyFrom pc2) : cOk encWW bdWW M rc rs pc pc2 2 cWW_X0_copyFrom := by
  intro as L st s K Q hl hw hb hs hk
  unfold cWW_X0_copyFrom at hs
  split at hs
  · next q q2 =>
    split at hs
    · next t ht =>
      obtain ⟨e, h1⟩ := condT hs
      have e := nB e
      subst e
      exact (cVirt (sp := fun as s K => as = [pR q, pR (q + 13)] ∧ (0 ≤ wZ s.2 t ∧ wZ s.2 t ≤ rmT t) ∧ K [] (wTC s.1 s.2 t, s.2)) (mX0_copyFrom_ok (rmT t) (wdT t)) vX0_copyFrom d tcl rfl (fun as2 s2 K2 hb2 h2 => by
        obtain ⟨e, h3, h4⟩ := h2
        refine ⟨_, _, _, [pR 2], (lkWW q t ht).1, (lkWW q t ht).2 s2, by rw [e]; rfl, ⟨h3, ?_⟩⟩
        show K2 [] (setT s2.1 t ((s2.2.2 t).1, xcp (s2.2.2 t).2 (s2.1.2 t).2 0 0 ((s2.2.2 t).1 * wdT t).toNat), setT s2.2 t (s2.2.2 t))
        rw [setT_self]
        exact h4)) _ L st s K Q hl hw hb ⟨rfl, h1⟩ hk
    · exact hs.elim
  · exact hs.elim
-- X1_copyFrom: heads []
def tX1_copyFrom : Nat → Blk WWS := fun pc => bif Nat.blt pc 5 then (bif Nat.beq pc 0 then (oAld 1 <| oNN 5) else oNo) else (bif Nat.beq pc 5 then (oAld 0 <| oAld 1 <| oGet (fgWW) 1 0 <| oPut (fpWW) 1 0 <| oAld 0 <| oAld 1 <| oGet (fgWW) 1 1 <| oPut (fpWW) 1 1 <| oAld 0 <| oAld 1 <| oGet (fgWW) 1 2 <| oPut (fpWW) 1 2 <| oAld 0 <| oAld 1 <| oGet (fgWW) 1 3 <| oPut (fpWW) 1 3 <| oAld 0 <| oAld 1 <| oGet (fgWW) 1 4 <| oPut (fpWW) 1 4 <| oAld 0 <| oAld 1 <| oGet (fgWW) 1 5 <| oPut (fpWW) 1 5 <| oAld 0 <| oAld 1 <| oGet (fgWW) 1 6 <| oPut (fpWW) 1 6 <| oAld 0 <| oAld 1 <| oGet (fgWW) 1 7 <| oPut (fpWW) 1 7 <| oAld 0 <| oAld 1 <| oGet (fgWW) 1 8 <| oPut (fpWW) 1 8 <| oAld 0 <| oAld 1 <| oGet (fgWW) 1 9 <| oPut (fpWW) 1 9 <| oAld 0 <| oGet (fgWW) 1 10 <| oAld 1 <| oGet (fgWW) 1 10 <| oC2 (cWW_X0_copyFrom) <| oAld 0 <| oGet (fgWW) 1 11 <| oAld 1 <| oGet (fgWW) 1 11 <| oC2 (cWW_X0_copyFrom) <| oAld 0 <| oGet (fgWW) 1 12 <| oAld 1 <| oGet (fgWW) 1 12 <| oC2 (cWW_X0_copyFrom) <| oAld 0 <| oGet (fgWW) 1 13 <| oAld 1 <| oGet (fgWW) 1 13 <| oC2 (cWW_X0_copyFrom) <| oAld 0 <| oGet (fgWW) 1 14 <| oAld 1 <| oGet (fgWW) 1 14 <| oC2 (cWW_X0_copyFrom) <| oAld 0 <| oGet (fgWW) 1 15 <| oAld 1 <| oGet (fgWW) 1 15 <| oC2 (cWW_X0_copyFrom) <| oVret) else oNo)
theorem tX1_copyFrom_ok : ∀ pc, bOk (encWW) (bdWW) mX1_copyFrom 0 0 pc (tX1_copyFrom pc) := fun pc => (tNode (tLeaf (okAldn iX1_copyFrom_0 rfl <| okNN (tl rfl) iX1_copyFrom_1)) (tLeaf (okAldn iX1_copyFrom_5 rfl <| okAldn iX1_copyFrom_6 rfl <| okGet (vFgWW) iX1_copyFrom_7 <| okPut (vFpWW) iX1_copyFrom_10 <| okAldn iX1_copyFrom_13 rfl <| okAldn iX1_copyFrom_14 rfl <| okGet (vFgWW) iX1_copyFrom_15 <| okPut (vFpWW) iX1_copyFrom_18 <| okAldn iX1_copyFrom_21 rfl <| okAldn iX1_copyFrom_22 rfl <| okGet (vFgWW) iX1_copyFrom_23 <| okPut (vFpWW) iX1_copyFrom_26 <| okAldn iX1_copyFrom_29 rfl <| okAldn iX1_copyFrom_30 rfl <| okGet (vFgWW) iX1_copyFrom_31 <| okPut (vFpWW) iX1_copyFrom_34 <| okAldn iX1_copyFrom_37 rfl <| okAldn iX1_copyFrom_38 rfl <| okGet (vFgWW) iX1_copyFrom_39 <| okPut (vFpWW) iX1_copyFrom_42 <| okAldn iX1_copyFrom_45 rfl <| okAldn iX1_copyFrom_46 rfl <| okGet (vFgWW) iX1_copyFrom_47 <| okPut (vFpWW) iX1_copyFrom_50 <| okAldn iX1_copyFrom_53 rfl <| okAldn iX1_copyFrom_54 rfl <| okGet (vFgWW) iX1_copyFrom_55 <| okPut (vFpWW) iX1_copyFrom_58 <| okAldn iX1_copyFrom_61 rfl <| okAldn iX1_copyFrom_62 rfl <| okGet (vFgWW) iX1_copyFrom_63 <| okPut (vFpWW) iX1_copyFrom_66 <| okAldn iX1_copyFrom_69 rfl <| okAldn iX1_copyFrom_70 rfl <| okGet (vFgWW) iX1_copyFrom_71 <| okPut (vFpWW) iX1_copyFrom_74 <| okAldn iX1_copyFrom_77 rfl <| okAldn iX1_copyFrom_78 rfl <| okGet (vFgWW) iX1_copyFrom_79 <| okPut (vFpWW) iX1_copyFrom_82 <| okAldn iX1_copyFrom_85 rfl <| okGet (vFgWW) iX1_copyFrom_86 <| okAldn iX1_copyFrom_89 rfl <| okGet (vFgWW) iX1_copyFrom_90 <| okC2 (qWW_X0_copyFrom iX1_copyFrom_93) <| okAldn iX1_copyFrom_96 rfl <| okGet (vFgWW) iX1_copyFrom_97 <| okAldn iX1_copyFrom_100 rfl <| okGet (vFgWW) iX1_copyFrom_101 <| okC2 (qWW_X0_copyFrom iX1_copyFrom_104) <| okAldn iX1_copyFrom_107 rfl <| okGet (vFgWW) iX1_copyFrom_108 <| okAldn iX1_copyFrom_111 rfl <| okGet (vFgWW) iX1_copyFrom_112 <| okC2 (qWW_X0_copyFrom iX1_copyFrom_115) <| okAldn iX1_copyFrom_118 rfl <| okGet (vFgWW) iX1_copyFrom_119 <| okAldn iX1_copyFrom_122 rfl <| okGet (vFgWW) iX1_copyFrom_123 <| okC2 (qWW_X0_copyFrom iX1_copyFrom_126) <| okAldn iX1_copyFrom_129 rfl <| okGet (vFgWW) iX1_copyFrom_130 <| okAldn iX1_copyFrom_133 rfl <| okGet (vFgWW) iX1_copyFrom_134 <| okC2 (qWW_X0_copyFrom iX1_copyFrom_137) <| okAldn iX1_copyFrom_140 rfl <| okGet (vFgWW) iX1_copyFrom_141 <| okAldn iX1_copyFrom_144 rfl <| okGet (vFgWW) iX1_copyFrom_145 <| okC2 (qWW_X0_copyFrom iX1_copyFrom_148) <| okVret iX1_copyFrom_151 rfl))) pc
def wCopy (a b : WS) : WS := wTC (wTC (wTC (wTC (wTC (wTC (wFd (wFd (wFd (wFd (wFd (wFd (wFd (wFd (wFd (wFd a 0 (b.1 0)) 1 (b.1 1)) 2 (b.1 2)) 3 (b.1 3)) 4 (b.1 4)) 5 (b.1 5)) 6 (b.1 6)) 7 (b.1 7)) 8 (b.1 8)) 9 (b.1 9)) b 0) b 1) b 2) b 3) b 4) b 5
def sX1_copyFrom : List PV → WWS → KWW → Prop := fun as s K => match as with
  | [.inr (.inr (.inl 13))] => wok s.2 ∧ K [] (wCopy s.1 s.2, s.2)
  | _ => False
theorem mX1_copyFrom_ok : mOk encWW bdWW mX1_copyFrom (atR 0 sX1_copyFrom) := by
  refine mOk_of kX1_copyFrom (fun as s K h => ?_)
  obtain ⟨as, rfl, h1⟩ := atR_inv h
  unfold sX1_copyFrom at h1
  split at h1
  · refine ⟨rfl, fun hb => wx_J [] 9 tX1_copyFrom_ok rfl (fun J hR hJ => ?_)⟩
    obtain ⟨h2, hK⟩ := h1
    have k0 := h2 0 (by decide)
    have k1 := h2 1 (by decide)
    have k2 := h2 2 (by decide)
    have k3 := h2 3 (by decide)
    have k4 := h2 4 (by decide)
    have k5 := h2 5 (by decide)
    repeat' (first | exact k0 | exact k1 | exact k2 | exact k3 | exact k4 | exact k5 | (refine And.intro ?_ ?_) | intro _)
    all_goals first | omega | exact hR _ _ hK
  · exact h1.elim
theorem wok_TC {a b : WS} {t : Nat} (ht : t < 6) (h : wok a) (hb : wok b) : wok (wTC a b t) := wok_set h (hb t ht)
theorem wok_Copy {a b : WS} (h : wok a) (hb : wok b) : wok (wCopy a b) := by
  unfold wCopy
  exact wok_TC (by decide) (wok_TC (by decide) (wok_TC (by decide) (wok_TC (by decide) (wok_TC (by decide) (wok_TC (by decide) h hb) hb) hb) hb) hb) hb
end
section
/-! ===== World: an input is played; a World and a table of inputs ===== -/
abbrev WTS : Type := WS × TS
abbrev KWT : Type := PS → WTS → Prop
def encWT (s : WTS) : XH := encW s.1 ++ encT 160 7 s.2
def bdWT (s : WTS) : Prop := bdW s.1 ∧ bdT 160 7 s.2
theorem lkWT_t : vLk encWT bdWT (encT 160 7) (bdT 160 7) (fun k => 13 + k) (fun s => s.2) (fun s b => (s.1, b)) :=
  vLk_run (n := 2) (fun _ => rfl) (by decide) (fun s => rfl) (fun s t => rfl) (fun s hb => hb.2) (fun s t hb ht => ⟨hb.1, ht⟩) (fun s => Nat.le_of_ble_eq_true rfl)
theorem lkWT_w : vLk encWT bdWT encW bdW (fun k => 0 + k) (fun s => s.1) (fun s b => (b, s.2)) :=
  vLk_run (n := 13) (fun _ => rfl) (by decide) (fun s => rfl) (fun s t => rfl) (fun s hb => hb.1) (fun s t hb ht => ⟨ht, hb.2⟩) (fun s => Nat.le_of_ble_eq_true rfl)
section WTC
variable {M : XI} {rc rs pc pc2 : Nat}
def cWT_X0_get : Sp WTS := atR 13 (a2 (fun i c s K => (xB i ∧ xB c) ∧ (xB (tg 160 7 s.2.2 i c) → K [pI (tg 160 7 s.2.2 i c)] s)))
theorem qWT_X0_get (d : xl_Ca M pc mX0_get pc2) : cOk encWT bdWT M rc rs pc pc2 3 cWT_X0_get := by
  refine cVirt (mX0_get_ok 160 7) vX0_get d tcl rfl (fun as s K hb h => ?_)
  obtain ⟨as, rfl, h1⟩ := atR_inv h
  obtain ⟨i, c, rfl, h2, h3⟩ := a2_inv h1
  exact ⟨_, _, _, [pI i, pI c], lkWT_t, ⟨_, rfl⟩, rfl, h2, h3 (tg_B hb.2.2.2)⟩
def cWT_X1_playEvent : Sp WTS := atR 0 (a4 (fun k t v r s K => sX1_playEvent k t v r s.1 (fun a w => K a (w, s.2))))
theorem qWT_X1_playEvent (d : xl_Ca M pc mX1_playEvent pc2) : cOk encWT bdWT M rc rs pc pc2 5 cWT_X1_playEvent := by
  refine cVirt mX1_playEvent_ok vX1_playEvent d wcl rfl (fun as s K hb h => ?_)
  obtain ⟨as, rfl, h1⟩ := atR_inv h
  obtain ⟨x, y, z, u, rfl, h2⟩ := a4_inv h1
  exact ⟨_, _, _, [pI x, pI y, pI z, pI u], lkWT_w, ⟨_, rfl⟩, rfl, h2⟩
def cWT_X1_playMark : Sp WTS := atR 0 (a2 (fun r t s K => sX1_playMark r t s.1 (fun a w => K a (w, s.2))))
theorem qWT_X1_playMark (d : xl_Ca M pc mX1_playMark pc2) : cOk encWT bdWT M rc rs pc pc2 3 cWT_X1_playMark := by
  refine cVirt mX1_playMark_ok vX1_playMark d wcl rfl (fun as s K hb h => ?_)
  obtain ⟨as, rfl, h1⟩ := atR_inv h
  obtain ⟨x, y, rfl, h2⟩ := a2_inv h1
  exact ⟨_, _, _, [pI x, pI y], lkWT_w, ⟨_, rfl⟩, rfl, h2⟩
def cWT_X1_playIdle : Sp WTS := atR 0 (a1 (fun r s K => sX1_playIdle r s.1 (fun a w => K a (w, s.2))))
theorem qWT_X1_playIdle (d : xl_Ca M pc mX1_playIdle pc2) : cOk encWT bdWT M rc rs pc pc2 2 cWT_X1_playIdle := by
  refine cVirt mX1_playIdle_ok vX1_playIdle d wcl rfl (fun as s K hb h => ?_)
  obtain ⟨as, rfl, h1⟩ := atR_inv h
  obtain ⟨x, rfl, h2⟩ := a1_inv h1
  exact ⟨_, _, _, [pI x], lkWT_w, ⟨_, rfl⟩, rfl, h2⟩
end WTC
-- X1_playInput: heads []
def tX1_playInput : Nat → Blk WTS := fun pc => bif Nat.blt pc 71 then (bif Nat.blt pc 48 then (bif Nat.beq pc 0 then (oAld 1 <| oIld 2 <| oI 1 <| oC3 (cWT_X0_get) <| oIst 3 <| oAld 1 <| oIld 2 <| oI 2 <| oC3 (cWT_X0_get) <| oIst 4 <| oAld 1 <| oIld 2 <| oI 0 <| oC3 (cWT_X0_get) <| oLook [(0, 48), (1, 71)] 81) else oNo) else (bif Nat.beq pc 48 then (oAld 0 <| oAld 1 <| oIld 2 <| oI 3 <| oC3 (cWT_X0_get) <| oIld 4 <| oAld 1 <| oIld 2 <| oI 4 <| oC3 (cWT_X0_get) <| oIld 3 <| oC5 (cWT_X1_playEvent) <| oPop <| oTo 86) else oNo)) else (bif Nat.blt pc 81 then (bif Nat.beq pc 71 then (oAld 0 <| oIld 3 <| oIld 4 <| oC3 (cWT_X1_playMark) <| oTo 86) else oNo) else (bif Nat.blt pc 86 then (bif Nat.beq pc 81 then (oAld 0 <| oIld 3 <| oC2 (cWT_X1_playIdle) <| oTo 86) else oNo) else (bif Nat.beq pc 86 then (oVret) else oNo)))
theorem tX1_playInput_ok : ∀ pc, bOk (encWT) (bdWT) mX1_playInput 0 0 pc (tX1_playInput pc) := fun pc => (tNode (tNode (tLeaf (okAldn iX1_playInput_0 rfl <| okIldn iX1_playInput_1 rfl <| okIc iX1_playInput_2 <| okC3 (qWT_X0_get iX1_playInput_3) <| okIstn iX1_playInput_6 rfl (by decide) <| okAldn iX1_playInput_7 rfl <| okIldn iX1_playInput_8 rfl <| okIc iX1_playInput_9 <| okC3 (qWT_X0_get iX1_playInput_10) <| okIst iX1_playInput_13 (by decide) <| okAldn iX1_playInput_15 rfl <| okIldn iX1_playInput_16 rfl <| okIc iX1_playInput_17 <| okC3 (qWT_X0_get iX1_playInput_18) <| okLook (by decide +kernel) (by decide +kernel) (by decide +kernel) iX1_playInput_21.1)) (tLeaf (okAldn iX1_playInput_48 rfl <| okAldn iX1_playInput_49 rfl <| okIldn iX1_playInput_50 rfl <| okIc iX1_playInput_51 <| okC3 (qWT_X0_get iX1_playInput_52) <| okIld iX1_playInput_55 <| okAldn iX1_playInput_57 rfl <| okIldn iX1_playInput_58 rfl <| okIc iX1_playInput_59 <| okC3 (qWT_X0_get iX1_playInput_60) <| okIldn iX1_playInput_63 rfl <| okC5 (qWT_X1_playEvent iX1_playInput_64) <| okPop iX1_playInput_67 <| okGoto (tl rfl) iX1_playInput_68))) (tNode (tLeaf (okAldn iX1_playInput_71 rfl <| okIldn iX1_playInput_72 rfl <| okIld iX1_playInput_73 <| okC3 (qWT_X1_playMark iX1_playInput_75) <| okGoto (tl rfl) iX1_playInput_78)) (tNode (tLeaf (okAldn iX1_playInput_81 rfl <| okIldn iX1_playInput_82 rfl <| okC2 (qWT_X1_playIdle iX1_playInput_83) <| okTo (tl rfl))) (tLeaf (okVret iX1_playInput_86 rfl))))) pc
def wPlayN (w : WS) (g : Nat → Int) (i : Int) : WS := if tg 160 7 g i 0 = 0 then wPlayE w (tg 160 7 g i 3) (tg 160 7 g i 2) (tg 160 7 g i 4) (tg 160 7 g i 1) else if tg 160 7 g i 0 = 1 then wPlayM w (tg 160 7 g i 1) (tg 160 7 g i 2) else wPlayI w (tg 160 7 g i 1)
theorem wok_PlayN {w : WS} {g : Nat → Int} {i : Int} (h : wok w) : wok (wPlayN w g i) := by
  unfold wPlayN
  split
  · exact wok_PlayE h
  · split
    · exact wok_PlayM h
    · exact wok_PlayI h
def sX1_playInput : List PV → WTS → KWT → Prop := fun as s K => match as with
  | [.inr (.inr (.inl 13)), .inl i] => (xB i ∧ wok s.1) ∧ K [] (wPlayN s.1 s.2.2 i, s.2)
  | _ => False
theorem mX1_playInput_ok : mOk encWT bdWT mX1_playInput (atR 0 sX1_playInput) := by
  refine mOk_of kX1_playInput (fun as s K h => ?_)
  obtain ⟨as, rfl, h1⟩ := atR_inv h
  unfold sX1_playInput at h1
  split at h1
  · next i =>
    refine ⟨rfl, fun hb => wx_J [] 9 tX1_playInput_ok rfl (fun J hR hJ => ?_)⟩
    obtain ⟨⟨h2, h3⟩, hK⟩ := h1
    unfold wPlayN at hK
    refine ⟨⟨h2, ⟨by omega, by omega⟩⟩, fun b1 => ⟨⟨h2, ⟨by omega, by omega⟩⟩, fun b2 => ⟨⟨h2, ⟨by omega, by omega⟩⟩, fun b0 => ⟨b0, fun c0 => ?_, fun c0 => ⟨fun c1 => ?_, fun c1 => ?_⟩⟩⟩⟩⟩
    · rw [if_pos c0] at hK
      refine ⟨⟨h2, ⟨by omega, by omega⟩⟩, fun b3 => ⟨⟨h2, ⟨by omega, by omega⟩⟩, fun b4 => ⟨⟨b3, b2, b4, b1, h3⟩, fun _ _ => hR _ _ hK⟩⟩⟩
    · rw [if_neg c0, if_pos c1] at hK
      exact ⟨⟨b1, b2, h3⟩, hR _ _ hK⟩
    · rw [if_neg c0, if_neg c1] at hK
      exact ⟨⟨b1, h3⟩, hR _ _ hK⟩
  · exact h1.elim
end
