section
-- ===== PART A: goes FIRST, ahead of the names: the tables' words, and 'selects' of the private methods out of them =====
/-- a private method of a class that the tables say can be made, by its rows of tables_1 -/
def lw_okq (q : MethodName × Nat) : Prop := (q.1.cls ≠ "java/lang/invoke/MethodHandle" ∧ q.1.cls ≠ "java/lang/invoke/VarHandle") ∧ Cond.instantiable q.1.cls q.2 ∈ tables_1 ∧ Cond.privateMethod q.1 ∈ tables_1 ∧ Cond.instanceMethod q.1 ∈ tables_1
theorem lw_p0 : lw_okq (⟨"LateSessions", "putSign", "(I)V"⟩, 13) := ⟨⟨by decide +kernel, by decide +kernel⟩, List.mem_of_getElem? (i := 17) (by decide +kernel), List.mem_of_getElem? (i := 187) (by decide +kernel), List.mem_of_getElem? (i := 188) (by decide +kernel)⟩
theorem lw_p1 : lw_okq (⟨"LateSessions", "remember", "()V"⟩, 13) := ⟨⟨by decide +kernel, by decide +kernel⟩, List.mem_of_getElem? (i := 17) (by decide +kernel), List.mem_of_getElem? (i := 202) (by decide +kernel), List.mem_of_getElem? (i := 203) (by decide +kernel)⟩
theorem lw_p2 : lw_okq (⟨"LateSessions", "isSource", "(I)Z"⟩, 13) := ⟨⟨by decide +kernel, by decide +kernel⟩, List.mem_of_getElem? (i := 17) (by decide +kernel), List.mem_of_getElem? (i := 222) (by decide +kernel), List.mem_of_getElem? (i := 223) (by decide +kernel)⟩
theorem lw_p3 : lw_okq (⟨"LateSessions", "eventRefusal", "(IIII)I"⟩, 13) := ⟨⟨by decide +kernel, by decide +kernel⟩, List.mem_of_getElem? (i := 17) (by decide +kernel), List.mem_of_getElem? (i := 235) (by decide +kernel), List.mem_of_getElem? (i := 236) (by decide +kernel)⟩
theorem lw_p4 : lw_okq (⟨"LateSessions", "isEvent", "(IIII)Z"⟩, 13) := ⟨⟨by decide +kernel, by decide +kernel⟩, List.mem_of_getElem? (i := 17) (by decide +kernel), List.mem_of_getElem? (i := 239) (by decide +kernel), List.mem_of_getElem? (i := 240) (by decide +kernel)⟩
theorem lw_p5 : lw_okq (⟨"LateSessions", "inputRefusal", "()I"⟩, 13) := ⟨⟨by decide +kernel, by decide +kernel⟩, List.mem_of_getElem? (i := 17) (by decide +kernel), List.mem_of_getElem? (i := 249) (by decide +kernel), List.mem_of_getElem? (i := 250) (by decide +kernel)⟩
theorem lw_p6 : lw_okq (⟨"LateSessions$World", "note", "(III)V"⟩, 16) := ⟨⟨by decide +kernel, by decide +kernel⟩, List.mem_of_getElem? (i := 25) (by decide +kernel), List.mem_of_getElem? (i := 258) (by decide +kernel), List.mem_of_getElem? (i := 259) (by decide +kernel)⟩
theorem lw_p7 : lw_okq (⟨"LateSessions$World", "melt", "(III)V"⟩, 16) := ⟨⟨by decide +kernel, by decide +kernel⟩, List.mem_of_getElem? (i := 25) (by decide +kernel), List.mem_of_getElem? (i := 274) (by decide +kernel), List.mem_of_getElem? (i := 275) (by decide +kernel)⟩
theorem lw_p8 : lw_okq (⟨"LateSessions$World", "touches", "(III)Z"⟩, 16) := ⟨⟨by decide +kernel, by decide +kernel⟩, List.mem_of_getElem? (i := 25) (by decide +kernel), List.mem_of_getElem? (i := 282) (by decide +kernel), List.mem_of_getElem? (i := 283) (by decide +kernel)⟩
theorem lw_p9 : lw_okq (⟨"LateSessions$World", "placeFor", "(II)I"⟩, 16) := ⟨⟨by decide +kernel, by decide +kernel⟩, List.mem_of_getElem? (i := 25) (by decide +kernel), List.mem_of_getElem? (i := 291) (by decide +kernel), List.mem_of_getElem? (i := 292) (by decide +kernel)⟩
theorem lw_p10 : lw_okq (⟨"LateSessions$World", "takeBack", "(I)V"⟩, 16) := ⟨⟨by decide +kernel, by decide +kernel⟩, List.mem_of_getElem? (i := 25) (by decide +kernel), List.mem_of_getElem? (i := 295) (by decide +kernel), List.mem_of_getElem? (i := 296) (by decide +kernel)⟩
theorem lw_p11 : lw_okq (⟨"LateSessions$World", "send", "(II)V"⟩, 16) := ⟨⟨by decide +kernel, by decide +kernel⟩, List.mem_of_getElem? (i := 25) (by decide +kernel), List.mem_of_getElem? (i := 303) (by decide +kernel), List.mem_of_getElem? (i := 304) (by decide +kernel)⟩
theorem lw_p12 : lw_okq (⟨"LateSessions$World", "swallowNext", "(I)V"⟩, 16) := ⟨⟨by decide +kernel, by decide +kernel⟩, List.mem_of_getElem? (i := 25) (by decide +kernel), List.mem_of_getElem? (i := 311) (by decide +kernel), List.mem_of_getElem? (i := 312) (by decide +kernel)⟩
theorem lw_p13 : lw_okq (⟨"LateSessions$World", "kindOfNew", "(I)I"⟩, 16) := ⟨⟨by decide +kernel, by decide +kernel⟩, List.mem_of_getElem? (i := 25) (by decide +kernel), List.mem_of_getElem? (i := 320) (by decide +kernel), List.mem_of_getElem? (i := 321) (by decide +kernel)⟩
theorem lw_p14 : lw_okq (⟨"LateSessions$World", "announce", "(II)V"⟩, 16) := ⟨⟨by decide +kernel, by decide +kernel⟩, List.mem_of_getElem? (i := 25) (by decide +kernel), List.mem_of_getElem? (i := 328) (by decide +kernel), List.mem_of_getElem? (i := 329) (by decide +kernel)⟩
theorem lw_p15 : lw_okq (⟨"LateSessions$World", "raiseMark", "(II)V"⟩, 16) := ⟨⟨by decide +kernel, by decide +kernel⟩, List.mem_of_getElem? (i := 25) (by decide +kernel), List.mem_of_getElem? (i := 332) (by decide +kernel), List.mem_of_getElem? (i := 333) (by decide +kernel)⟩
def lw_privs_1 : List (MethodName × Nat) := [(⟨"LateSessions", "putSign", "(I)V"⟩, 13), (⟨"LateSessions", "remember", "()V"⟩, 13), (⟨"LateSessions", "isSource", "(I)Z"⟩, 13), (⟨"LateSessions", "eventRefusal", "(IIII)I"⟩, 13), (⟨"LateSessions", "isEvent", "(IIII)Z"⟩, 13), (⟨"LateSessions", "inputRefusal", "()I"⟩, 13), (⟨"LateSessions$World", "note", "(III)V"⟩, 16), (⟨"LateSessions$World", "melt", "(III)V"⟩, 16), (⟨"LateSessions$World", "touches", "(III)Z"⟩, 16), (⟨"LateSessions$World", "placeFor", "(II)I"⟩, 16), (⟨"LateSessions$World", "takeBack", "(I)V"⟩, 16), (⟨"LateSessions$World", "send", "(II)V"⟩, 16), (⟨"LateSessions$World", "swallowNext", "(I)V"⟩, 16), (⟨"LateSessions$World", "kindOfNew", "(I)I"⟩, 16), (⟨"LateSessions$World", "announce", "(II)V"⟩, 16), (⟨"LateSessions$World", "raiseMark", "(II)V"⟩, 16)]
theorem lw_r1 : ∀ q ∈ lw_privs_1, lw_okq q := List.forall_mem_cons.mpr ⟨lw_p0, List.forall_mem_cons.mpr ⟨lw_p1, List.forall_mem_cons.mpr ⟨lw_p2, List.forall_mem_cons.mpr ⟨lw_p3, List.forall_mem_cons.mpr ⟨lw_p4, List.forall_mem_cons.mpr ⟨lw_p5, List.forall_mem_cons.mpr ⟨lw_p6, List.forall_mem_cons.mpr ⟨lw_p7, List.forall_mem_cons.mpr ⟨lw_p8, List.forall_mem_cons.mpr ⟨lw_p9, List.forall_mem_cons.mpr ⟨lw_p10, List.forall_mem_cons.mpr ⟨lw_p11, List.forall_mem_cons.mpr ⟨lw_p12, List.forall_mem_cons.mpr ⟨lw_p13, List.forall_mem_cons.mpr ⟨lw_p14, List.forall_mem_cons.mpr ⟨lw_p15, fun _ h => absurd h List.not_mem_nil⟩⟩⟩⟩⟩⟩⟩⟩⟩⟩⟩⟩⟩⟩⟩⟩
theorem lw_p16 : lw_okq (⟨"LateSessions$World", "rise", "()V"⟩, 16) := ⟨⟨by decide +kernel, by decide +kernel⟩, List.mem_of_getElem? (i := 25) (by decide +kernel), List.mem_of_getElem? (i := 336) (by decide +kernel), List.mem_of_getElem? (i := 337) (by decide +kernel)⟩
theorem lw_p17 : lw_okq (⟨"LateSessions$World", "dueBehind", "(II)I"⟩, 16) := ⟨⟨by decide +kernel, by decide +kernel⟩, List.mem_of_getElem? (i := 25) (by decide +kernel), List.mem_of_getElem? (i := 344) (by decide +kernel), List.mem_of_getElem? (i := 345) (by decide +kernel)⟩
theorem lw_p18 : lw_okq (⟨"LateSessions$World", "turnOf", "(I)I"⟩, 16) := ⟨⟨by decide +kernel, by decide +kernel⟩, List.mem_of_getElem? (i := 25) (by decide +kernel), List.mem_of_getElem? (i := 352) (by decide +kernel), List.mem_of_getElem? (i := 353) (by decide +kernel)⟩
theorem lw_p19 : lw_okq (⟨"LateSessions$World", "finish", "(I)V"⟩, 16) := ⟨⟨by decide +kernel, by decide +kernel⟩, List.mem_of_getElem? (i := 25) (by decide +kernel), List.mem_of_getElem? (i := 356) (by decide +kernel), List.mem_of_getElem? (i := 357) (by decide +kernel)⟩
theorem lw_p20 : lw_okq (⟨"LateSessions", "tellTwo", "(JJ)V"⟩, 13) := ⟨⟨by decide +kernel, by decide +kernel⟩, List.mem_of_getElem? (i := 17) (by decide +kernel), List.mem_of_getElem? (i := 365) (by decide +kernel), List.mem_of_getElem? (i := 366) (by decide +kernel)⟩
theorem lw_p21 : lw_okq (⟨"LateSessions", "tellOne", "(J)V"⟩, 13) := ⟨⟨by decide +kernel, by decide +kernel⟩, List.mem_of_getElem? (i := 17) (by decide +kernel), List.mem_of_getElem? (i := 369) (by decide +kernel), List.mem_of_getElem? (i := 370) (by decide +kernel)⟩
theorem lw_p22 : lw_okq (⟨"LateSessions", "tellNothing", "()V"⟩, 13) := ⟨⟨by decide +kernel, by decide +kernel⟩, List.mem_of_getElem? (i := 17) (by decide +kernel), List.mem_of_getElem? (i := 373) (by decide +kernel), List.mem_of_getElem? (i := 374) (by decide +kernel)⟩
theorem lw_p23 : lw_okq (⟨"LateSessions", "tellMore", "(J)V"⟩, 13) := ⟨⟨by decide +kernel, by decide +kernel⟩, List.mem_of_getElem? (i := 17) (by decide +kernel), List.mem_of_getElem? (i := 377) (by decide +kernel), List.mem_of_getElem? (i := 378) (by decide +kernel)⟩
theorem lw_p24 : lw_okq (⟨"LateSessions", "takeText", "()I"⟩, 13) := ⟨⟨by decide +kernel, by decide +kernel⟩, List.mem_of_getElem? (i := 17) (by decide +kernel), List.mem_of_getElem? (i := 385) (by decide +kernel), List.mem_of_getElem? (i := 386) (by decide +kernel)⟩
theorem lw_p25 : lw_okq (⟨"LateSessions", "eventsMisfit", "(I)I"⟩, 13) := ⟨⟨by decide +kernel, by decide +kernel⟩, List.mem_of_getElem? (i := 17) (by decide +kernel), List.mem_of_getElem? (i := 389) (by decide +kernel), List.mem_of_getElem? (i := 390) (by decide +kernel)⟩
theorem lw_p26 : lw_okq (⟨"LateSessions", "formMisfit", "(IILjava/lang/String;)I"⟩, 13) := ⟨⟨by decide +kernel, by decide +kernel⟩, List.mem_of_getElem? (i := 17) (by decide +kernel), List.mem_of_getElem? (i := 394) (by decide +kernel), List.mem_of_getElem? (i := 395) (by decide +kernel)⟩
theorem lw_p27 : lw_okq (⟨"LateSessions", "signAt", "(I)I"⟩, 13) := ⟨⟨by decide +kernel, by decide +kernel⟩, List.mem_of_getElem? (i := 17) (by decide +kernel), List.mem_of_getElem? (i := 408) (by decide +kernel), List.mem_of_getElem? (i := 409) (by decide +kernel)⟩
theorem lw_p28 : lw_okq (⟨"LateSessions", "fits", "(IC)Z"⟩, 13) := ⟨⟨by decide +kernel, by decide +kernel⟩, List.mem_of_getElem? (i := 17) (by decide +kernel), List.mem_of_getElem? (i := 450) (by decide +kernel), List.mem_of_getElem? (i := 451) (by decide +kernel)⟩
theorem lw_p29 : lw_okq (⟨"LateSessions", "comeEventAt", "(I)I"⟩, 13) := ⟨⟨by decide +kernel, by decide +kernel⟩, List.mem_of_getElem? (i := 17) (by decide +kernel), List.mem_of_getElem? (i := 454) (by decide +kernel), List.mem_of_getElem? (i := 455) (by decide +kernel)⟩
theorem lw_p30 : lw_okq (⟨"LateSessions", "keyAt", "(I)I"⟩, 13) := ⟨⟨by decide +kernel, by decide +kernel⟩, List.mem_of_getElem? (i := 17) (by decide +kernel), List.mem_of_getElem? (i := 458) (by decide +kernel), List.mem_of_getElem? (i := 459) (by decide +kernel)⟩
theorem lw_p31 : lw_okq (⟨"LateSessions", "numberAt", "(II)I"⟩, 13) := ⟨⟨by decide +kernel, by decide +kernel⟩, List.mem_of_getElem? (i := 17) (by decide +kernel), List.mem_of_getElem? (i := 462) (by decide +kernel), List.mem_of_getElem? (i := 463) (by decide +kernel)⟩
def lw_privs_2 : List (MethodName × Nat) := [(⟨"LateSessions$World", "rise", "()V"⟩, 16), (⟨"LateSessions$World", "dueBehind", "(II)I"⟩, 16), (⟨"LateSessions$World", "turnOf", "(I)I"⟩, 16), (⟨"LateSessions$World", "finish", "(I)V"⟩, 16), (⟨"LateSessions", "tellTwo", "(JJ)V"⟩, 13), (⟨"LateSessions", "tellOne", "(J)V"⟩, 13), (⟨"LateSessions", "tellNothing", "()V"⟩, 13), (⟨"LateSessions", "tellMore", "(J)V"⟩, 13), (⟨"LateSessions", "takeText", "()I"⟩, 13), (⟨"LateSessions", "eventsMisfit", "(I)I"⟩, 13), (⟨"LateSessions", "formMisfit", "(IILjava/lang/String;)I"⟩, 13), (⟨"LateSessions", "signAt", "(I)I"⟩, 13), (⟨"LateSessions", "fits", "(IC)Z"⟩, 13), (⟨"LateSessions", "comeEventAt", "(I)I"⟩, 13), (⟨"LateSessions", "keyAt", "(I)I"⟩, 13), (⟨"LateSessions", "numberAt", "(II)I"⟩, 13)]
theorem lw_r2 : ∀ q ∈ lw_privs_2, lw_okq q := List.forall_mem_cons.mpr ⟨lw_p16, List.forall_mem_cons.mpr ⟨lw_p17, List.forall_mem_cons.mpr ⟨lw_p18, List.forall_mem_cons.mpr ⟨lw_p19, List.forall_mem_cons.mpr ⟨lw_p20, List.forall_mem_cons.mpr ⟨lw_p21, List.forall_mem_cons.mpr ⟨lw_p22, List.forall_mem_cons.mpr ⟨lw_p23, List.forall_mem_cons.mpr ⟨lw_p24, List.forall_mem_cons.mpr ⟨lw_p25, List.forall_mem_cons.mpr ⟨lw_p26, List.forall_mem_cons.mpr ⟨lw_p27, List.forall_mem_cons.mpr ⟨lw_p28, List.forall_mem_cons.mpr ⟨lw_p29, List.forall_mem_cons.mpr ⟨lw_p30, List.forall_mem_cons.mpr ⟨lw_p31, fun _ h => absurd h List.not_mem_nil⟩⟩⟩⟩⟩⟩⟩⟩⟩⟩⟩⟩⟩⟩⟩⟩
theorem lw_p32 : lw_okq (⟨"LateSessions", "valueAt", "(I)I"⟩, 13) := ⟨⟨by decide +kernel, by decide +kernel⟩, List.mem_of_getElem? (i := 17) (by decide +kernel), List.mem_of_getElem? (i := 466) (by decide +kernel), List.mem_of_getElem? (i := 467) (by decide +kernel)⟩
theorem lw_p33 : lw_okq (⟨"LateSessions", "markRefusal", "(II)I"⟩, 13) := ⟨⟨by decide +kernel, by decide +kernel⟩, List.mem_of_getElem? (i := 17) (by decide +kernel), List.mem_of_getElem? (i := 475) (by decide +kernel), List.mem_of_getElem? (i := 476) (by decide +kernel)⟩
theorem lw_p34 : lw_okq (⟨"LateSessions", "idleRefusal", "(I)I"⟩, 13) := ⟨⟨by decide +kernel, by decide +kernel⟩, List.mem_of_getElem? (i := 17) (by decide +kernel), List.mem_of_getElem? (i := 491) (by decide +kernel), List.mem_of_getElem? (i := 492) (by decide +kernel)⟩
theorem lw_p35 : lw_okq (⟨"LateSessions", "tellThree", "(JJJ)V"⟩, 13) := ⟨⟨by decide +kernel, by decide +kernel⟩, List.mem_of_getElem? (i := 17) (by decide +kernel), List.mem_of_getElem? (i := 526) (by decide +kernel), List.mem_of_getElem? (i := 527) (by decide +kernel)⟩
theorem lw_p36 : lw_okq (⟨"LateSessions", "sortTaken", "(I)I"⟩, 13) := ⟨⟨by decide +kernel, by decide +kernel⟩, List.mem_of_getElem? (i := 17) (by decide +kernel), List.mem_of_getElem? (i := 579) (by decide +kernel), List.mem_of_getElem? (i := 580) (by decide +kernel)⟩
theorem lw_p37 : lw_okq (⟨"LateSessions", "sortedCell", "(II)I"⟩, 13) := ⟨⟨by decide +kernel, by decide +kernel⟩, List.mem_of_getElem? (i := 17) (by decide +kernel), List.mem_of_getElem? (i := 583) (by decide +kernel), List.mem_of_getElem? (i := 584) (by decide +kernel)⟩
theorem lw_p38 : lw_okq (⟨"LateSessions", "holeBehind", "(I)I"⟩, 13) := ⟨⟨by decide +kernel, by decide +kernel⟩, List.mem_of_getElem? (i := 17) (by decide +kernel), List.mem_of_getElem? (i := 587) (by decide +kernel), List.mem_of_getElem? (i := 588) (by decide +kernel)⟩
theorem lw_p39 : lw_okq (⟨"LateSessions", "replay", "(IIII)V"⟩, 13) := ⟨⟨by decide +kernel, by decide +kernel⟩, List.mem_of_getElem? (i := 17) (by decide +kernel), List.mem_of_getElem? (i := 607) (by decide +kernel), List.mem_of_getElem? (i := 608) (by decide +kernel)⟩
theorem lw_p40 : lw_okq (⟨"LateSessions", "dayMisfit", "(I)I"⟩, 13) := ⟨⟨by decide +kernel, by decide +kernel⟩, List.mem_of_getElem? (i := 17) (by decide +kernel), List.mem_of_getElem? (i := 623) (by decide +kernel), List.mem_of_getElem? (i := 624) (by decide +kernel)⟩
theorem lw_p41 : lw_okq (⟨"LateSessions", "actForm", "(I)Ljava/lang/String;"⟩, 13) := ⟨⟨by decide +kernel, by decide +kernel⟩, List.mem_of_getElem? (i := 17) (by decide +kernel), List.mem_of_getElem? (i := 627) (by decide +kernel), List.mem_of_getElem? (i := 628) (by decide +kernel)⟩
theorem lw_p42 : lw_okq (⟨"LateSessions", "actRefusal", "(I)I"⟩, 13) := ⟨⟨by decide +kernel, by decide +kernel⟩, List.mem_of_getElem? (i := 17) (by decide +kernel), List.mem_of_getElem? (i := 639) (by decide +kernel), List.mem_of_getElem? (i := 640) (by decide +kernel)⟩
theorem lw_p43 : lw_okq (⟨"LateSessions", "comeAct", "(I)V"⟩, 13) := ⟨⟨by decide +kernel, by decide +kernel⟩, List.mem_of_getElem? (i := 17) (by decide +kernel), List.mem_of_getElem? (i := 643) (by decide +kernel), List.mem_of_getElem? (i := 644) (by decide +kernel)⟩
theorem lw_p44 : lw_okq (⟨"java/lang/Throwable", "fillInStackTrace", "(I)Ljava/lang/Throwable;"⟩, 6) := ⟨⟨by decide +kernel, by decide +kernel⟩, List.mem_of_getElem? (i := 718) (by decide +kernel), List.mem_of_getElem? (i := 716) (by decide +kernel), List.mem_of_getElem? (i := 717) (by decide +kernel)⟩
theorem lw_p45 : lw_okq (⟨"LateSessionsModel", "starts", "(IIIII)V"⟩, 23) := ⟨⟨by decide +kernel, by decide +kernel⟩, List.mem_of_getElem? (i := 799) (by decide +kernel), List.mem_of_getElem? (i := 805) (by decide +kernel), List.mem_of_getElem? (i := 806) (by decide +kernel)⟩
theorem lw_p46 : lw_okq (⟨"LateSessionsModel", "puts", "(III)V"⟩, 23) := ⟨⟨by decide +kernel, by decide +kernel⟩, List.mem_of_getElem? (i := 799) (by decide +kernel), List.mem_of_getElem? (i := 809) (by decide +kernel), List.mem_of_getElem? (i := 810) (by decide +kernel)⟩
theorem lw_p47 : lw_okq (⟨"LateSessionsModel", "copies", "(II)V"⟩, 23) := ⟨⟨by decide +kernel, by decide +kernel⟩, List.mem_of_getElem? (i := 799) (by decide +kernel), List.mem_of_getElem? (i := 888) (by decide +kernel), List.mem_of_getElem? (i := 889) (by decide +kernel)⟩
def lw_privs_3 : List (MethodName × Nat) := [(⟨"LateSessions", "valueAt", "(I)I"⟩, 13), (⟨"LateSessions", "markRefusal", "(II)I"⟩, 13), (⟨"LateSessions", "idleRefusal", "(I)I"⟩, 13), (⟨"LateSessions", "tellThree", "(JJJ)V"⟩, 13), (⟨"LateSessions", "sortTaken", "(I)I"⟩, 13), (⟨"LateSessions", "sortedCell", "(II)I"⟩, 13), (⟨"LateSessions", "holeBehind", "(I)I"⟩, 13), (⟨"LateSessions", "replay", "(IIII)V"⟩, 13), (⟨"LateSessions", "dayMisfit", "(I)I"⟩, 13), (⟨"LateSessions", "actForm", "(I)Ljava/lang/String;"⟩, 13), (⟨"LateSessions", "actRefusal", "(I)I"⟩, 13), (⟨"LateSessions", "comeAct", "(I)V"⟩, 13), (⟨"java/lang/Throwable", "fillInStackTrace", "(I)Ljava/lang/Throwable;"⟩, 6), (⟨"LateSessionsModel", "starts", "(IIIII)V"⟩, 23), (⟨"LateSessionsModel", "puts", "(III)V"⟩, 23), (⟨"LateSessionsModel", "copies", "(II)V"⟩, 23)]
theorem lw_r3 : ∀ q ∈ lw_privs_3, lw_okq q := List.forall_mem_cons.mpr ⟨lw_p32, List.forall_mem_cons.mpr ⟨lw_p33, List.forall_mem_cons.mpr ⟨lw_p34, List.forall_mem_cons.mpr ⟨lw_p35, List.forall_mem_cons.mpr ⟨lw_p36, List.forall_mem_cons.mpr ⟨lw_p37, List.forall_mem_cons.mpr ⟨lw_p38, List.forall_mem_cons.mpr ⟨lw_p39, List.forall_mem_cons.mpr ⟨lw_p40, List.forall_mem_cons.mpr ⟨lw_p41, List.forall_mem_cons.mpr ⟨lw_p42, List.forall_mem_cons.mpr ⟨lw_p43, List.forall_mem_cons.mpr ⟨lw_p44, List.forall_mem_cons.mpr ⟨lw_p45, List.forall_mem_cons.mpr ⟨lw_p46, List.forall_mem_cons.mpr ⟨lw_p47, fun _ h => absurd h List.not_mem_nil⟩⟩⟩⟩⟩⟩⟩⟩⟩⟩⟩⟩⟩⟩⟩⟩
theorem lw_p48 : lw_okq (⟨"LateSessionsModel", "done", "(I)I"⟩, 23) := ⟨⟨by decide +kernel, by decide +kernel⟩, List.mem_of_getElem? (i := 799) (by decide +kernel), List.mem_of_getElem? (i := 902) (by decide +kernel), List.mem_of_getElem? (i := 903) (by decide +kernel)⟩
theorem lw_p49 : lw_okq (⟨"LateSessionsModel", "lays", "()V"⟩, 23) := ⟨⟨by decide +kernel, by decide +kernel⟩, List.mem_of_getElem? (i := 799) (by decide +kernel), List.mem_of_getElem? (i := 906) (by decide +kernel), List.mem_of_getElem? (i := 907) (by decide +kernel)⟩
theorem lw_p50 : lw_okq (⟨"LateSessionsModel", "isSource", "(I)Z"⟩, 23) := ⟨⟨by decide +kernel, by decide +kernel⟩, List.mem_of_getElem? (i := 799) (by decide +kernel), List.mem_of_getElem? (i := 914) (by decide +kernel), List.mem_of_getElem? (i := 915) (by decide +kernel)⟩
theorem lw_p51 : lw_okq (⟨"LateSessionsModel", "of", "(II)I"⟩, 23) := ⟨⟨by decide +kernel, by decide +kernel⟩, List.mem_of_getElem? (i := 799) (by decide +kernel), List.mem_of_getElem? (i := 918) (by decide +kernel), List.mem_of_getElem? (i := 919) (by decide +kernel)⟩
theorem lw_p52 : lw_okq (⟨"LateSessionsModel", "eventOne", "(IIII)I"⟩, 23) := ⟨⟨by decide +kernel, by decide +kernel⟩, List.mem_of_getElem? (i := 799) (by decide +kernel), List.mem_of_getElem? (i := 927) (by decide +kernel), List.mem_of_getElem? (i := 928) (by decide +kernel)⟩
theorem lw_p53 : lw_okq (⟨"LateSessionsModel", "isEvent", "(IIII)Z"⟩, 23) := ⟨⟨by decide +kernel, by decide +kernel⟩, List.mem_of_getElem? (i := 799) (by decide +kernel), List.mem_of_getElem? (i := 931) (by decide +kernel), List.mem_of_getElem? (i := 932) (by decide +kernel)⟩
theorem lw_p54 : lw_okq (⟨"LateSessionsModel", "comes", "(IIIII)I"⟩, 23) := ⟨⟨by decide +kernel, by decide +kernel⟩, List.mem_of_getElem? (i := 799) (by decide +kernel), List.mem_of_getElem? (i := 938) (by decide +kernel), List.mem_of_getElem? (i := 939) (by decide +kernel)⟩
theorem lw_p55 : lw_okq (⟨"LateSessionsModel", "notes", "(IIIIIII)V"⟩, 23) := ⟨⟨by decide +kernel, by decide +kernel⟩, List.mem_of_getElem? (i := 799) (by decide +kernel), List.mem_of_getElem? (i := 945) (by decide +kernel), List.mem_of_getElem? (i := 946) (by decide +kernel)⟩
theorem lw_p56 : lw_okq (⟨"LateSessionsModel", "adds", "(III)V"⟩, 23) := ⟨⟨by decide +kernel, by decide +kernel⟩, List.mem_of_getElem? (i := 799) (by decide +kernel), List.mem_of_getElem? (i := 949) (by decide +kernel), List.mem_of_getElem? (i := 950) (by decide +kernel)⟩
theorem lw_p57 : lw_okq (⟨"LateSessionsModel", "joins", "(IIII)V"⟩, 23) := ⟨⟨by decide +kernel, by decide +kernel⟩, List.mem_of_getElem? (i := 799) (by decide +kernel), List.mem_of_getElem? (i := 953) (by decide +kernel), List.mem_of_getElem? (i := 954) (by decide +kernel)⟩
theorem lw_p58 : lw_okq (⟨"LateSessionsModel", "melts", "(IIII)Z"⟩, 23) := ⟨⟨by decide +kernel, by decide +kernel⟩, List.mem_of_getElem? (i := 799) (by decide +kernel), List.mem_of_getElem? (i := 957) (by decide +kernel), List.mem_of_getElem? (i := 958) (by decide +kernel)⟩
theorem lw_p59 : lw_okq (⟨"LateSessionsModel", "ofSession", "(III)I"⟩, 23) := ⟨⟨by decide +kernel, by decide +kernel⟩, List.mem_of_getElem? (i := 799) (by decide +kernel), List.mem_of_getElem? (i := 961) (by decide +kernel), List.mem_of_getElem? (i := 962) (by decide +kernel)⟩
theorem lw_p60 : lw_okq (⟨"LateSessionsModel", "takesBack", "(II)V"⟩, 23) := ⟨⟨by decide +kernel, by decide +kernel⟩, List.mem_of_getElem? (i := 799) (by decide +kernel), List.mem_of_getElem? (i := 968) (by decide +kernel), List.mem_of_getElem? (i := 969) (by decide +kernel)⟩
theorem lw_p61 : lw_okq (⟨"LateSessionsModel", "sends", "(III)V"⟩, 23) := ⟨⟨by decide +kernel, by decide +kernel⟩, List.mem_of_getElem? (i := 799) (by decide +kernel), List.mem_of_getElem? (i := 972) (by decide +kernel), List.mem_of_getElem? (i := 973) (by decide +kernel)⟩
theorem lw_p62 : lw_okq (⟨"LateSessionsModel", "goesOut", "(II)V"⟩, 23) := ⟨⟨by decide +kernel, by decide +kernel⟩, List.mem_of_getElem? (i := 799) (by decide +kernel), List.mem_of_getElem? (i := 978) (by decide +kernel), List.mem_of_getElem? (i := 979) (by decide +kernel)⟩
theorem lw_p63 : lw_okq (⟨"LateSessionsModel", "comesIn", "(I)I"⟩, 23) := ⟨⟨by decide +kernel, by decide +kernel⟩, List.mem_of_getElem? (i := 799) (by decide +kernel), List.mem_of_getElem? (i := 982) (by decide +kernel), List.mem_of_getElem? (i := 983) (by decide +kernel)⟩
def lw_privs_4 : List (MethodName × Nat) := [(⟨"LateSessionsModel", "done", "(I)I"⟩, 23), (⟨"LateSessionsModel", "lays", "()V"⟩, 23), (⟨"LateSessionsModel", "isSource", "(I)Z"⟩, 23), (⟨"LateSessionsModel", "of", "(II)I"⟩, 23), (⟨"LateSessionsModel", "eventOne", "(IIII)I"⟩, 23), (⟨"LateSessionsModel", "isEvent", "(IIII)Z"⟩, 23), (⟨"LateSessionsModel", "comes", "(IIIII)I"⟩, 23), (⟨"LateSessionsModel", "notes", "(IIIIIII)V"⟩, 23), (⟨"LateSessionsModel", "adds", "(III)V"⟩, 23), (⟨"LateSessionsModel", "joins", "(IIII)V"⟩, 23), (⟨"LateSessionsModel", "melts", "(IIII)Z"⟩, 23), (⟨"LateSessionsModel", "ofSession", "(III)I"⟩, 23), (⟨"LateSessionsModel", "takesBack", "(II)V"⟩, 23), (⟨"LateSessionsModel", "sends", "(III)V"⟩, 23), (⟨"LateSessionsModel", "goesOut", "(II)V"⟩, 23), (⟨"LateSessionsModel", "comesIn", "(I)I"⟩, 23)]
theorem lw_r4 : ∀ q ∈ lw_privs_4, lw_okq q := List.forall_mem_cons.mpr ⟨lw_p48, List.forall_mem_cons.mpr ⟨lw_p49, List.forall_mem_cons.mpr ⟨lw_p50, List.forall_mem_cons.mpr ⟨lw_p51, List.forall_mem_cons.mpr ⟨lw_p52, List.forall_mem_cons.mpr ⟨lw_p53, List.forall_mem_cons.mpr ⟨lw_p54, List.forall_mem_cons.mpr ⟨lw_p55, List.forall_mem_cons.mpr ⟨lw_p56, List.forall_mem_cons.mpr ⟨lw_p57, List.forall_mem_cons.mpr ⟨lw_p58, List.forall_mem_cons.mpr ⟨lw_p59, List.forall_mem_cons.mpr ⟨lw_p60, List.forall_mem_cons.mpr ⟨lw_p61, List.forall_mem_cons.mpr ⟨lw_p62, List.forall_mem_cons.mpr ⟨lw_p63, fun _ h => absurd h List.not_mem_nil⟩⟩⟩⟩⟩⟩⟩⟩⟩⟩⟩⟩⟩⟩⟩⟩
theorem lw_p64 : lw_okq (⟨"LateSessionsModel", "isBehind", "(II)Z"⟩, 23) := ⟨⟨by decide +kernel, by decide +kernel⟩, List.mem_of_getElem? (i := 799) (by decide +kernel), List.mem_of_getElem? (i := 986) (by decide +kernel), List.mem_of_getElem? (i := 987) (by decide +kernel)⟩
theorem lw_p65 : lw_okq (⟨"LateSessionsModel", "isRipeBy", "(III)Z"⟩, 23) := ⟨⟨by decide +kernel, by decide +kernel⟩, List.mem_of_getElem? (i := 799) (by decide +kernel), List.mem_of_getElem? (i := 990) (by decide +kernel), List.mem_of_getElem? (i := 991) (by decide +kernel)⟩
theorem lw_p66 : lw_okq (⟨"LateSessionsModel", "rises", "(I)V"⟩, 23) := ⟨⟨by decide +kernel, by decide +kernel⟩, List.mem_of_getElem? (i := 799) (by decide +kernel), List.mem_of_getElem? (i := 994) (by decide +kernel), List.mem_of_getElem? (i := 995) (by decide +kernel)⟩
theorem lw_p67 : lw_okq (⟨"LateSessionsModel", "leastMark", "(I)I"⟩, 23) := ⟨⟨by decide +kernel, by decide +kernel⟩, List.mem_of_getElem? (i := 799) (by decide +kernel), List.mem_of_getElem? (i := 998) (by decide +kernel), List.mem_of_getElem? (i := 999) (by decide +kernel)⟩
theorem lw_p68 : lw_okq (⟨"LateSessionsModel", "firstRipe", "(II)I"⟩, 23) := ⟨⟨by decide +kernel, by decide +kernel⟩, List.mem_of_getElem? (i := 799) (by decide +kernel), List.mem_of_getElem? (i := 1002) (by decide +kernel), List.mem_of_getElem? (i := 1003) (by decide +kernel)⟩
theorem lw_p69 : lw_okq (⟨"LateSessionsModel", "isDone", "(II)Z"⟩, 23) := ⟨⟨by decide +kernel, by decide +kernel⟩, List.mem_of_getElem? (i := 799) (by decide +kernel), List.mem_of_getElem? (i := 1006) (by decide +kernel), List.mem_of_getElem? (i := 1007) (by decide +kernel)⟩
theorem lw_p70 : lw_okq (⟨"LateSessionsModel", "firstClosed", "(I)I"⟩, 23) := ⟨⟨by decide +kernel, by decide +kernel⟩, List.mem_of_getElem? (i := 799) (by decide +kernel), List.mem_of_getElem? (i := 1010) (by decide +kernel), List.mem_of_getElem? (i := 1011) (by decide +kernel)⟩
theorem lw_p71 : lw_okq (⟨"LateSessionsModel", "isClosedBy", "(III)Z"⟩, 23) := ⟨⟨by decide +kernel, by decide +kernel⟩, List.mem_of_getElem? (i := 799) (by decide +kernel), List.mem_of_getElem? (i := 1014) (by decide +kernel), List.mem_of_getElem? (i := 1015) (by decide +kernel)⟩
theorem lw_p72 : lw_okq (⟨"LateSessionsModel", "closes", "(II)V"⟩, 23) := ⟨⟨by decide +kernel, by decide +kernel⟩, List.mem_of_getElem? (i := 799) (by decide +kernel), List.mem_of_getElem? (i := 1018) (by decide +kernel), List.mem_of_getElem? (i := 1019) (by decide +kernel)⟩
theorem lw_p73 : lw_okq (⟨"LateSessionsModel", "closedMany", "(I)I"⟩, 23) := ⟨⟨by decide +kernel, by decide +kernel⟩, List.mem_of_getElem? (i := 799) (by decide +kernel), List.mem_of_getElem? (i := 1022) (by decide +kernel), List.mem_of_getElem? (i := 1023) (by decide +kernel)⟩
theorem lw_p74 : lw_okq (⟨"LateSessionsModel", "entersSince", "(II)V"⟩, 23) := ⟨⟨by decide +kernel, by decide +kernel⟩, List.mem_of_getElem? (i := 799) (by decide +kernel), List.mem_of_getElem? (i := 1026) (by decide +kernel), List.mem_of_getElem? (i := 1027) (by decide +kernel)⟩
theorem lw_p75 : lw_okq (⟨"LateSessionsModel", "enters", "(J)V"⟩, 23) := ⟨⟨by decide +kernel, by decide +kernel⟩, List.mem_of_getElem? (i := 799) (by decide +kernel), List.mem_of_getElem? (i := 1030) (by decide +kernel), List.mem_of_getElem? (i := 1031) (by decide +kernel)⟩
theorem lw_p76 : lw_okq (⟨"LateSessionsModel", "reads", "()V"⟩, 23) := ⟨⟨by decide +kernel, by decide +kernel⟩, List.mem_of_getElem? (i := 799) (by decide +kernel), List.mem_of_getElem? (i := 1038) (by decide +kernel), List.mem_of_getElem? (i := 1039) (by decide +kernel)⟩
theorem lw_p77 : lw_okq (⟨"LateSessionsModel", "readsEvent", "(IZ)Z"⟩, 23) := ⟨⟨by decide +kernel, by decide +kernel⟩, List.mem_of_getElem? (i := 799) (by decide +kernel), List.mem_of_getElem? (i := 1042) (by decide +kernel), List.mem_of_getElem? (i := 1043) (by decide +kernel)⟩
theorem lw_p78 : lw_okq (⟨"LateSessionsModel", "takesOf", "(Ljava/lang/String;)I"⟩, 23) := ⟨⟨by decide +kernel, by decide +kernel⟩, List.mem_of_getElem? (i := 799) (by decide +kernel), List.mem_of_getElem? (i := 1047) (by decide +kernel), List.mem_of_getElem? (i := 1048) (by decide +kernel)⟩
theorem lw_p79 : lw_okq (⟨"LateSessionsModel", "digits", "(I)I"⟩, 23) := ⟨⟨by decide +kernel, by decide +kernel⟩, List.mem_of_getElem? (i := 799) (by decide +kernel), List.mem_of_getElem? (i := 1053) (by decide +kernel), List.mem_of_getElem? (i := 1054) (by decide +kernel)⟩
def lw_privs_5 : List (MethodName × Nat) := [(⟨"LateSessionsModel", "isBehind", "(II)Z"⟩, 23), (⟨"LateSessionsModel", "isRipeBy", "(III)Z"⟩, 23), (⟨"LateSessionsModel", "rises", "(I)V"⟩, 23), (⟨"LateSessionsModel", "leastMark", "(I)I"⟩, 23), (⟨"LateSessionsModel", "firstRipe", "(II)I"⟩, 23), (⟨"LateSessionsModel", "isDone", "(II)Z"⟩, 23), (⟨"LateSessionsModel", "firstClosed", "(I)I"⟩, 23), (⟨"LateSessionsModel", "isClosedBy", "(III)Z"⟩, 23), (⟨"LateSessionsModel", "closes", "(II)V"⟩, 23), (⟨"LateSessionsModel", "closedMany", "(I)I"⟩, 23), (⟨"LateSessionsModel", "entersSince", "(II)V"⟩, 23), (⟨"LateSessionsModel", "enters", "(J)V"⟩, 23), (⟨"LateSessionsModel", "reads", "()V"⟩, 23), (⟨"LateSessionsModel", "readsEvent", "(IZ)Z"⟩, 23), (⟨"LateSessionsModel", "takesOf", "(Ljava/lang/String;)I"⟩, 23), (⟨"LateSessionsModel", "digits", "(I)I"⟩, 23)]
theorem lw_r5 : ∀ q ∈ lw_privs_5, lw_okq q := List.forall_mem_cons.mpr ⟨lw_p64, List.forall_mem_cons.mpr ⟨lw_p65, List.forall_mem_cons.mpr ⟨lw_p66, List.forall_mem_cons.mpr ⟨lw_p67, List.forall_mem_cons.mpr ⟨lw_p68, List.forall_mem_cons.mpr ⟨lw_p69, List.forall_mem_cons.mpr ⟨lw_p70, List.forall_mem_cons.mpr ⟨lw_p71, List.forall_mem_cons.mpr ⟨lw_p72, List.forall_mem_cons.mpr ⟨lw_p73, List.forall_mem_cons.mpr ⟨lw_p74, List.forall_mem_cons.mpr ⟨lw_p75, List.forall_mem_cons.mpr ⟨lw_p76, List.forall_mem_cons.mpr ⟨lw_p77, List.forall_mem_cons.mpr ⟨lw_p78, List.forall_mem_cons.mpr ⟨lw_p79, fun _ h => absurd h List.not_mem_nil⟩⟩⟩⟩⟩⟩⟩⟩⟩⟩⟩⟩⟩⟩⟩⟩
theorem lw_p80 : lw_okq (⟨"LateSessionsModel", "marksOne", "(II)I"⟩, 23) := ⟨⟨by decide +kernel, by decide +kernel⟩, List.mem_of_getElem? (i := 799) (by decide +kernel), List.mem_of_getElem? (i := 1063) (by decide +kernel), List.mem_of_getElem? (i := 1064) (by decide +kernel)⟩
theorem lw_p81 : lw_okq (⟨"LateSessionsModel", "isMarked", "(III)V"⟩, 23) := ⟨⟨by decide +kernel, by decide +kernel⟩, List.mem_of_getElem? (i := 799) (by decide +kernel), List.mem_of_getElem? (i := 1068) (by decide +kernel), List.mem_of_getElem? (i := 1069) (by decide +kernel)⟩
theorem lw_p82 : lw_okq (⟨"LateSessionsModel", "entersProgress", "()V"⟩, 23) := ⟨⟨by decide +kernel, by decide +kernel⟩, List.mem_of_getElem? (i := 799) (by decide +kernel), List.mem_of_getElem? (i := 1072) (by decide +kernel), List.mem_of_getElem? (i := 1073) (by decide +kernel)⟩
theorem lw_p83 : lw_okq (⟨"LateSessionsModel", "idlesOne", "(I)I"⟩, 23) := ⟨⟨by decide +kernel, by decide +kernel⟩, List.mem_of_getElem? (i := 799) (by decide +kernel), List.mem_of_getElem? (i := 1080) (by decide +kernel), List.mem_of_getElem? (i := 1081) (by decide +kernel)⟩
theorem lw_p84 : lw_okq (⟨"LateSessionsModel", "isIdle", "(II)V"⟩, 23) := ⟨⟨by decide +kernel, by decide +kernel⟩, List.mem_of_getElem? (i := 799) (by decide +kernel), List.mem_of_getElem? (i := 1084) (by decide +kernel), List.mem_of_getElem? (i := 1085) (by decide +kernel)⟩
theorem lw_p85 : lw_okq (⟨"LateSessionsModel", "ofInput", "(II)I"⟩, 23) := ⟨⟨by decide +kernel, by decide +kernel⟩, List.mem_of_getElem? (i := 799) (by decide +kernel), List.mem_of_getElem? (i := 1138) (by decide +kernel), List.mem_of_getElem? (i := 1139) (by decide +kernel)⟩
theorem lw_p86 : lw_okq (⟨"LateSessionsModel", "laysTimes", "(I)V"⟩, 23) := ⟨⟨by decide +kernel, by decide +kernel⟩, List.mem_of_getElem? (i := 799) (by decide +kernel), List.mem_of_getElem? (i := 1166) (by decide +kernel), List.mem_of_getElem? (i := 1167) (by decide +kernel)⟩
theorem lw_p87 : lw_okq (⟨"LateSessionsModel", "fallsInto", "(I)I"⟩, 23) := ⟨⟨by decide +kernel, by decide +kernel⟩, List.mem_of_getElem? (i := 799) (by decide +kernel), List.mem_of_getElem? (i := 1170) (by decide +kernel), List.mem_of_getElem? (i := 1171) (by decide +kernel)⟩
theorem lw_p88 : lw_okq (⟨"LateSessionsModel", "startsAgain", "(III)V"⟩, 23) := ⟨⟨by decide +kernel, by decide +kernel⟩, List.mem_of_getElem? (i := 799) (by decide +kernel), List.mem_of_getElem? (i := 1183) (by decide +kernel), List.mem_of_getElem? (i := 1184) (by decide +kernel)⟩
theorem lw_p89 : lw_okq (⟨"LateSessionsModel", "comesAgain", "(II)V"⟩, 23) := ⟨⟨by decide +kernel, by decide +kernel⟩, List.mem_of_getElem? (i := 799) (by decide +kernel), List.mem_of_getElem? (i := 1187) (by decide +kernel), List.mem_of_getElem? (i := 1188) (by decide +kernel)⟩
theorem lw_p90 : lw_okq (⟨"LateSessionsModel", "readsAct", "(I)Z"⟩, 23) := ⟨⟨by decide +kernel, by decide +kernel⟩, List.mem_of_getElem? (i := 799) (by decide +kernel), List.mem_of_getElem? (i := 1207) (by decide +kernel), List.mem_of_getElem? (i := 1208) (by decide +kernel)⟩
theorem lw_p91 : lw_okq (⟨"LateSessionsModel", "doesAct", "(I)I"⟩, 23) := ⟨⟨by decide +kernel, by decide +kernel⟩, List.mem_of_getElem? (i := 799) (by decide +kernel), List.mem_of_getElem? (i := 1212) (by decide +kernel), List.mem_of_getElem? (i := 1213) (by decide +kernel)⟩
theorem lw_p92 : lw_okq (⟨"LateSessionsModel", "draws", "(I)I"⟩, 23) := ⟨⟨by decide +kernel, by decide +kernel⟩, List.mem_of_getElem? (i := 799) (by decide +kernel), List.mem_of_getElem? (i := 1221) (by decide +kernel), List.mem_of_getElem? (i := 1222) (by decide +kernel)⟩
def lw_privs_6 : List (MethodName × Nat) := [(⟨"LateSessionsModel", "marksOne", "(II)I"⟩, 23), (⟨"LateSessionsModel", "isMarked", "(III)V"⟩, 23), (⟨"LateSessionsModel", "entersProgress", "()V"⟩, 23), (⟨"LateSessionsModel", "idlesOne", "(I)I"⟩, 23), (⟨"LateSessionsModel", "isIdle", "(II)V"⟩, 23), (⟨"LateSessionsModel", "ofInput", "(II)I"⟩, 23), (⟨"LateSessionsModel", "laysTimes", "(I)V"⟩, 23), (⟨"LateSessionsModel", "fallsInto", "(I)I"⟩, 23), (⟨"LateSessionsModel", "startsAgain", "(III)V"⟩, 23), (⟨"LateSessionsModel", "comesAgain", "(II)V"⟩, 23), (⟨"LateSessionsModel", "readsAct", "(I)Z"⟩, 23), (⟨"LateSessionsModel", "doesAct", "(I)I"⟩, 23), (⟨"LateSessionsModel", "draws", "(I)I"⟩, 23)]
theorem lw_r6 : ∀ q ∈ lw_privs_6, lw_okq q := List.forall_mem_cons.mpr ⟨lw_p80, List.forall_mem_cons.mpr ⟨lw_p81, List.forall_mem_cons.mpr ⟨lw_p82, List.forall_mem_cons.mpr ⟨lw_p83, List.forall_mem_cons.mpr ⟨lw_p84, List.forall_mem_cons.mpr ⟨lw_p85, List.forall_mem_cons.mpr ⟨lw_p86, List.forall_mem_cons.mpr ⟨lw_p87, List.forall_mem_cons.mpr ⟨lw_p88, List.forall_mem_cons.mpr ⟨lw_p89, List.forall_mem_cons.mpr ⟨lw_p90, List.forall_mem_cons.mpr ⟨lw_p91, List.forall_mem_cons.mpr ⟨lw_p92, fun _ h => absurd h List.not_mem_nil⟩⟩⟩⟩⟩⟩⟩⟩⟩⟩⟩⟩⟩
def lw_privs : List (MethodName × Nat) := lw_privs_1 ++ (lw_privs_2 ++ (lw_privs_3 ++ (lw_privs_4 ++ (lw_privs_5 ++ (lw_privs_6)))))
def lw_tbl : List Cond := k2_sels lw_privs ++ tables_1
theorem lw_privs_ok : ∀ q ∈ lw_privs, lw_okq q := by
  show ∀ q ∈ lw_privs_1 ++ (lw_privs_2 ++ (lw_privs_3 ++ (lw_privs_4 ++ (lw_privs_5 ++ (lw_privs_6))))), lw_okq q
  exact List.forall_mem_append.mpr ⟨lw_r1, List.forall_mem_append.mpr ⟨lw_r2, List.forall_mem_append.mpr ⟨lw_r3, List.forall_mem_append.mpr ⟨lw_r4, List.forall_mem_append.mpr ⟨lw_r5, lw_r6⟩⟩⟩⟩⟩
-- ===== end of PART A; then your names; then what follows =====
def RX0 : String := "LateSessions$Table"
def TX0 : u_T := fun k => match k with
  | 0 => ("LateSessions$Table", "room", "I", true)
  | 1 => ("LateSessions$Table", "width", "I", true)
  | 2 => ("LateSessions$Table", "cells", "[I", true)
  | _ => ("LateSessions$Table", "size", "I", false)
def tyX0 : Nat → FieldType := fun k => match k with
  | 0 => .int
  | 1 => .int
  | 2 => .array .int
  | _ => .int
theorem nmX0 : ∀ a, a < 4 → ∀ b, b < 4 → a ≠ b → (TX0 a).2.1 ≠ (TX0 b).2.1 := by decide +kernel
theorem tyX0_ok : ∀ k, k < 4 → parseFieldDescriptor (TX0 k).2.2.1 = some (tyX0 k) := by decide +kernel
def RX1 : String := "LateSessions$World"
def TX1 : u_T := fun k => match k with
  | 0 => ("LateSessions$World", "gap", "I", false)
  | 1 => ("LateSessions$World", "lateness", "I", false)
  | 2 => ("LateSessions$World", "early", "I", false)
  | 3 => ("LateSessions$World", "progress", "I", false)
  | 4 => ("LateSessions$World", "sentSize", "I", false)
  | 5 => ("LateSessions$World", "closedSize", "I", false)
  | 6 => ("LateSessions$World", "takenSize", "I", false)
  | 7 => ("LateSessions$World", "lateSize", "I", false)
  | 8 => ("LateSessions$World", "droppedSize", "I", false)
  | 9 => ("LateSessions$World", "meltedSize", "I", false)
  | 10 => ("LateSessions$World", "sources", "LLateSessions$Table;", true)
  | 11 => ("LateSessions$World", "sessions", "LLateSessions$Table;", true)
  | 12 => ("LateSessions$World", "messages", "LLateSessions$Table;", true)
  | 13 => ("LateSessions$World", "finals", "LLateSessions$Table;", true)
  | 14 => ("LateSessions$World", "inputs", "LLateSessions$Table;", true)
  | _ => ("LateSessions$World", "keys", "LLateSessions$Table;", true)
def tyX1 : Nat → FieldType := fun k => match k with
  | 0 => .int
  | 1 => .int
  | 2 => .int
  | 3 => .int
  | 4 => .int
  | 5 => .int
  | 6 => .int
  | 7 => .int
  | 8 => .int
  | 9 => .int
  | 10 => .object "LateSessions$Table"
  | 11 => .object "LateSessions$Table"
  | 12 => .object "LateSessions$Table"
  | 13 => .object "LateSessions$Table"
  | 14 => .object "LateSessions$Table"
  | _ => .object "LateSessions$Table"
theorem nmX1 : ∀ a, a < 16 → ∀ b, b < 16 → a ≠ b → (TX1 a).2.1 ≠ (TX1 b).2.1 := by decide +kernel
theorem tyX1_ok : ∀ k, k < 16 → parseFieldDescriptor (TX1 k).2.2.1 = some (tyX1 k) := by decide +kernel
def RX2 : String := "LateSessions"
def TX2 : u_T := fun k => match k with
  | 0 => ("LateSessions", "world", "LLateSessions$World;", true)
  | 1 => ("LateSessions", "trial", "LLateSessions$World;", true)
  | 2 => ("LateSessions", "undoWorlds", "[LLateSessions$World;", true)
  | 3 => ("LateSessions", "undoOldest", "I", false)
  | 4 => ("LateSessions", "undoSize", "I", false)
  | 5 => ("LateSessions", "keptWorlds", "[LLateSessions$World;", true)
  | 6 => ("LateSessions", "keptBits", "I", false)
  | 7 => ("LateSessions", "told", "[J", true)
  | 8 => ("LateSessions", "toldSize", "I", false)
  | 9 => ("LateSessions", "text", "[I", true)
  | 10 => ("LateSessions", "textSize", "I", false)
  | 11 => ("LateSessions", "byTime", "[I", true)
  | _ => ("LateSessions", "holes", "[I", true)
def tyX2 : Nat → FieldType := fun k => match k with
  | 0 => .object "LateSessions$World"
  | 1 => .object "LateSessions$World"
  | 2 => .array (.object "LateSessions$World")
  | 3 => .int
  | 4 => .int
  | 5 => .array (.object "LateSessions$World")
  | 6 => .int
  | 7 => .array .long
  | 8 => .int
  | 9 => .array .int
  | 10 => .int
  | 11 => .array .int
  | _ => .array .int
theorem nmX2 : ∀ a, a < 13 → ∀ b, b < 13 → a ≠ b → (TX2 a).2.1 ≠ (TX2 b).2.1 := by decide +kernel
theorem tyX2_ok : ∀ k, k < 13 → parseFieldDescriptor (TX2 k).2.2.1 = some (tyX2 k) := by decide +kernel
def RX3 : String := "LateSessionsModel"
def TX3 : u_T := fun k => match k with
  | 0 => ("LateSessionsModel", "thrown", "I", false)
  | 1 => ("LateSessionsModel", "told", "I", false)
  | 2 => ("LateSessionsModel", "row", "[J", true)
  | 3 => ("LateSessionsModel", "tape", "[I", true)
  | 4 => ("LateSessionsModel", "taped", "I", false)
  | 5 => ("LateSessionsModel", "at", "I", false)
  | 6 => ("LateSessionsModel", "to", "I", false)
  | 7 => ("LateSessionsModel", "mem", "[I", true)
  | 8 => ("LateSessionsModel", "undos", "I", false)
  | 9 => ("LateSessionsModel", "fresh", "[I", true)
  | 10 => ("LateSessionsModel", "doneLast", "I", false)
  | 11 => ("LateSessionsModel", "doneKey", "I", false)
  | 12 => ("LateSessionsModel", "meltedWith", "I", false)
  | 13 => ("LateSessionsModel", "readKey", "[I", true)
  | 14 => ("LateSessionsModel", "readTime", "[I", true)
  | 15 => ("LateSessionsModel", "readValue", "[I", true)
  | 16 => ("LateSessionsModel", "readSource", "[I", true)
  | 17 => ("LateSessionsModel", "times", "[I", true)
  | 18 => ("LateSessionsModel", "values", "[I", true)
  | 19 => ("LateSessionsModel", "timed", "I", false)
  | 20 => ("LateSessionsModel", "act", "[I", true)
  | 21 => ("LateSessionsModel", "random", "I", false)
  | _ => ("LateSessionsModel", "isKept", "[Z", true)
def tyX3 : Nat → FieldType := fun k => match k with
  | 0 => .int
  | 1 => .int
  | 2 => .array .long
  | 3 => .array .int
  | 4 => .int
  | 5 => .int
  | 6 => .int
  | 7 => .array .int
  | 8 => .int
  | 9 => .array .int
  | 10 => .int
  | 11 => .int
  | 12 => .int
  | 13 => .array .int
  | 14 => .array .int
  | 15 => .array .int
  | 16 => .array .int
  | 17 => .array .int
  | 18 => .array .int
  | 19 => .int
  | 20 => .array .int
  | 21 => .int
  | _ => .array .boolean
theorem nmX3 : ∀ a, a < 23 → ∀ b, b < 23 → a ≠ b → (TX3 a).2.1 ≠ (TX3 b).2.1 := by decide +kernel
theorem tyX3_ok : ∀ k, k < 23 → parseFieldDescriptor (TX3 k).2.2.1 = some (tyX3 k) := by decide +kernel
def RJ0 : String := "java/lang/String"
def RJ1 : String := "java/lang/StringLatin1"
def RJ3 : String := "jdk/internal/util/Preconditions"
def RJ7 : String := "java/util/Arrays"
def RJ9 : String := "java/lang/Math"
def RJ10 : String := "java/lang/System"
def RL : String := "LateSessionsLaw"
abbrev cX0_init : ByteArray := prog_2_method_1_code
def yX0_init : MethodName := ⟨RX0, "<init>", "(II)V"⟩
abbrev cX0_get : ByteArray := prog_2_method_2_code
def yX0_get : MethodName := ⟨RX0, "get", "(II)I"⟩
abbrev cX0_set : ByteArray := prog_2_method_3_code
def yX0_set : MethodName := ⟨RX0, "set", "(III)V"⟩
abbrev cX0_add : ByteArray := prog_2_method_4_code
def yX0_add : MethodName := ⟨RX0, "add", "(III)V"⟩
abbrev cX0_clear : ByteArray := prog_2_method_5_code
def yX0_clear : MethodName := ⟨RX0, "clear", "()V"⟩
abbrev cX0_reach : ByteArray := prog_2_method_6_code
def yX0_reach : MethodName := ⟨RX0, "reach", "(I)V"⟩
abbrev cX0_open : ByteArray := prog_2_method_7_code
def yX0_open : MethodName := ⟨RX0, "open", "(I)Z"⟩
abbrev cX0_drop : ByteArray := prog_2_method_8_code
def yX0_drop : MethodName := ⟨RX0, "drop", "(I)V"⟩
abbrev cX0_copyRow : ByteArray := prog_2_method_9_code
def yX0_copyRow : MethodName := ⟨RX0, "copyRow", "(ILLateSessions$Table;I)V"⟩
abbrev cX0_copyFrom : ByteArray := prog_2_method_10_code
def yX0_copyFrom : MethodName := ⟨RX0, "copyFrom", "(LLateSessions$Table;)V"⟩
abbrev cX1_init : ByteArray := prog_3_method_1_code
def yX1_init : MethodName := ⟨RX1, "<init>", "()V"⟩
abbrev cX1_reset : ByteArray := prog_3_method_2_code
def yX1_reset : MethodName := ⟨RX1, "reset", "(IIII)V"⟩
abbrev cX1_copyFrom : ByteArray := prog_3_method_3_code
def yX1_copyFrom : MethodName := ⟨RX1, "copyFrom", "(LLateSessions$World;)V"⟩
abbrev cX1_comeEvent : ByteArray := prog_3_method_4_code
def yX1_comeEvent : MethodName := ⟨RX1, "comeEvent", "(IIII)I"⟩
abbrev cX1_comeMark : ByteArray := prog_3_method_5_code
def yX1_comeMark : MethodName := ⟨RX1, "comeMark", "(II)V"⟩
abbrev cX1_comeIdle : ByteArray := prog_3_method_6_code
def yX1_comeIdle : MethodName := ⟨RX1, "comeIdle", "(I)V"⟩
abbrev cX1_note : ByteArray := prog_3_method_7_code
def yX1_note : MethodName := ⟨RX1, "note", "(III)V"⟩
abbrev cX1_playInput : ByteArray := prog_3_method_8_code
def yX1_playInput : MethodName := ⟨RX1, "playInput", "(LLateSessions$Table;I)V"⟩
abbrev cX1_playEvent : ByteArray := prog_3_method_9_code
def yX1_playEvent : MethodName := ⟨RX1, "playEvent", "(IIII)I"⟩
abbrev cX1_playMark : ByteArray := prog_3_method_10_code
def yX1_playMark : MethodName := ⟨RX1, "playMark", "(II)V"⟩
abbrev cX1_playIdle : ByteArray := prog_3_method_11_code
def yX1_playIdle : MethodName := ⟨RX1, "playIdle", "(I)V"⟩
abbrev cX1_raiseMark : ByteArray := prog_3_method_12_code
def yX1_raiseMark : MethodName := ⟨RX1, "raiseMark", "(II)V"⟩
abbrev cX1_fateOf : ByteArray := prog_3_method_13_code
def yX1_fateOf : MethodName := ⟨RX1, "fateOf", "(I)I"⟩
abbrev cX1_isTakenOf : ByteArray := prog_3_method_14_code
def yX1_isTakenOf : MethodName := ⟨RX1, "isTakenOf", "(II)Z"⟩
abbrev cX1_hasResult : ByteArray := prog_3_method_15_code
def yX1_hasResult : MethodName := ⟨RX1, "hasResult", "(I)Z"⟩
abbrev cX1_isRipe : ByteArray := prog_3_method_16_code
def yX1_isRipe : MethodName := ⟨RX1, "isRipe", "(II)Z"⟩
abbrev cX1_isOver : ByteArray := prog_3_method_17_code
def yX1_isOver : MethodName := ⟨RX1, "isOver", "(II)Z"⟩
abbrev cX1_ripening : ByteArray := prog_3_method_18_code
def yX1_ripening : MethodName := ⟨RX1, "ripening", "(I)I"⟩
abbrev cX1_leastMark : ByteArray := prog_3_method_19_code
def yX1_leastMark : MethodName := ⟨RX1, "leastMark", "(I)I"⟩
abbrev cX1_sentOf : ByteArray := prog_3_method_20_code
def yX1_sentOf : MethodName := ⟨RX1, "sentOf", "(I)I"⟩
abbrev cX1_touches : ByteArray := prog_3_method_21_code
def yX1_touches : MethodName := ⟨RX1, "touches", "(III)Z"⟩
abbrev cX1_firstTouched : ByteArray := prog_3_method_22_code
def yX1_firstTouched : MethodName := ⟨RX1, "firstTouched", "(II)I"⟩
abbrev cX1_touchedFrom : ByteArray := prog_3_method_23_code
def yX1_touchedFrom : MethodName := ⟨RX1, "touchedFrom", "(III)I"⟩
abbrev cX1_melt : ByteArray := prog_3_method_24_code
def yX1_melt : MethodName := ⟨RX1, "melt", "(III)V"⟩
abbrev cX1_placeFor : ByteArray := prog_3_method_25_code
def yX1_placeFor : MethodName := ⟨RX1, "placeFor", "(II)I"⟩
abbrev cX1_swallowNext : ByteArray := prog_3_method_26_code
def yX1_swallowNext : MethodName := ⟨RX1, "swallowNext", "(I)V"⟩
abbrev cX1_kindOfNew : ByteArray := prog_3_method_27_code
def yX1_kindOfNew : MethodName := ⟨RX1, "kindOfNew", "(I)I"⟩
abbrev cX1_rise : ByteArray := prog_3_method_28_code
def yX1_rise : MethodName := ⟨RX1, "rise", "()V"⟩
abbrev cX1_turnOf : ByteArray := prog_3_method_29_code
def yX1_turnOf : MethodName := ⟨RX1, "turnOf", "(I)I"⟩
abbrev cX1_dueBehind : ByteArray := prog_3_method_30_code
def yX1_dueBehind : MethodName := ⟨RX1, "dueBehind", "(II)I"⟩
abbrev cX1_finish : ByteArray := prog_3_method_31_code
def yX1_finish : MethodName := ⟨RX1, "finish", "(I)V"⟩
abbrev cX1_takeBack : ByteArray := prog_3_method_32_code
def yX1_takeBack : MethodName := ⟨RX1, "takeBack", "(I)V"⟩
abbrev cX1_announce : ByteArray := prog_3_method_33_code
def yX1_announce : MethodName := ⟨RX1, "announce", "(II)V"⟩
abbrev cX1_send : ByteArray := prog_3_method_34_code
def yX1_send : MethodName := ⟨RX1, "send", "(II)V"⟩
abbrev cX2_init : ByteArray := prog_1_method_1_code
def yX2_init : MethodName := ⟨RX2, "<init>", "()V"⟩
abbrev cX2_sign : ByteArray := prog_1_method_2_code
def yX2_sign : MethodName := ⟨RX2, "sign", "(I)I"⟩
abbrev cX2_end : ByteArray := prog_1_method_3_code
def yX2_end : MethodName := ⟨RX2, "end", "(I)Z"⟩
abbrev cX2_start : ByteArray := prog_1_method_4_code
def yX2_start : MethodName := ⟨RX2, "start", "(IIII)I"⟩
abbrev cX2_delays : ByteArray := prog_1_method_5_code
def yX2_delays : MethodName := ⟨RX2, "delays", "(II)I"⟩
abbrev cX2_event : ByteArray := prog_1_method_6_code
def yX2_event : MethodName := ⟨RX2, "event", "(IIII)I"⟩
abbrev cX2_events : ByteArray := prog_1_method_7_code
def yX2_events : MethodName := ⟨RX2, "events", "()I"⟩
abbrev cX2_marks : ByteArray := prog_1_method_8_code
def yX2_marks : MethodName := ⟨RX2, "marks", "(II)I"⟩
abbrev cX2_idles : ByteArray := prog_1_method_9_code
def yX2_idles : MethodName := ⟨RX2, "idles", "(I)I"⟩
abbrev cX2_source : ByteArray := prog_1_method_10_code
def yX2_source : MethodName := ⟨RX2, "source", "(II)I"⟩
abbrev cX2_session : ByteArray := prog_1_method_11_code
def yX2_session : MethodName := ⟨RX2, "session", "(II)I"⟩
abbrev cX2_at : ByteArray := prog_1_method_12_code
def yX2_at : MethodName := ⟨RX2, "at", "(II)I"⟩
abbrev cX2_message : ByteArray := prog_1_method_13_code
def yX2_message : MethodName := ⟨RX2, "message", "(II)I"⟩
abbrev cX2_sent : ByteArray := prog_1_method_14_code
def yX2_sent : MethodName := ⟨RX2, "sent", "(I)I"⟩
abbrev cX2_stands : ByteArray := prog_1_method_15_code
def yX2_stands : MethodName := ⟨RX2, "stands", "()I"⟩
abbrev cX2_closed : ByteArray := prog_1_method_16_code
def yX2_closed : MethodName := ⟨RX2, "closed", "(I)I"⟩
abbrev cX2_finals : ByteArray := prog_1_method_17_code
def yX2_finals : MethodName := ⟨RX2, "finals", "(II)I"⟩
abbrev cX2_kinds : ByteArray := prog_1_method_18_code
def yX2_kinds : MethodName := ⟨RX2, "kinds", "(I)I"⟩
abbrev cX2_slow : ByteArray := prog_1_method_19_code
def yX2_slow : MethodName := ⟨RX2, "slow", "()I"⟩
abbrev cX2_span : ByteArray := prog_1_method_20_code
def yX2_span : MethodName := ⟨RX2, "span", "(II)I"⟩
abbrev cX2_taken : ByteArray := prog_1_method_21_code
def yX2_taken : MethodName := ⟨RX2, "taken", "()I"⟩
abbrev cX2_holds : ByteArray := prog_1_method_22_code
def yX2_holds : MethodName := ⟨RX2, "holds", "()I"⟩
abbrev cX2_next : ByteArray := prog_1_method_23_code
def yX2_next : MethodName := ⟨RX2, "next", "()I"⟩
abbrev cX2_ahead : ByteArray := prog_1_method_24_code
def yX2_ahead : MethodName := ⟨RX2, "ahead", "(I)I"⟩
abbrev cX2_would : ByteArray := prog_1_method_25_code
def yX2_would : MethodName := ⟨RX2, "would", "(IIII)I"⟩
abbrev cX2_batch : ByteArray := prog_1_method_26_code
def yX2_batch : MethodName := ⟨RX2, "batch", "(I)I"⟩
abbrev cX2_latest : ByteArray := prog_1_method_27_code
def yX2_latest : MethodName := ⟨RX2, "latest", "()I"⟩
abbrev cX2_parts : ByteArray := prog_1_method_28_code
def yX2_parts : MethodName := ⟨RX2, "parts", "(II)I"⟩
abbrev cX2_again : ByteArray := prog_1_method_29_code
def yX2_again : MethodName := ⟨RX2, "again", "(III)I"⟩
abbrev cX2_without : ByteArray := prog_1_method_30_code
def yX2_without : MethodName := ⟨RX2, "without", "(I)I"⟩
abbrev cX2_input : ByteArray := prog_1_method_31_code
def yX2_input : MethodName := ⟨RX2, "input", "(II)I"⟩
abbrev cX2_day : ByteArray := prog_1_method_32_code
def yX2_day : MethodName := ⟨RX2, "day", "()I"⟩
abbrev cX2_undo : ByteArray := prog_1_method_33_code
def yX2_undo : MethodName := ⟨RX2, "undo", "()I"⟩
abbrev cX2_years : ByteArray := prog_1_method_34_code
def yX2_years : MethodName := ⟨RX2, "years", "(II)I"⟩
abbrev cX2_keep : ByteArray := prog_1_method_35_code
def yX2_keep : MethodName := ⟨RX2, "keep", "(I)Z"⟩
abbrev cX2_back : ByteArray := prog_1_method_36_code
def yX2_back : MethodName := ⟨RX2, "back", "(I)Z"⟩
abbrev cX2_count : ByteArray := prog_1_method_37_code
def yX2_count : MethodName := ⟨RX2, "count", "(I)I"⟩
abbrev cX2_row : ByteArray := prog_1_method_38_code
def yX2_row : MethodName := ⟨RX2, "row", "(I)J"⟩
abbrev cX2_isKey : ByteArray := prog_1_method_39_code
def yX2_isKey : MethodName := ⟨RX2, "isKey", "(I)Z"⟩
abbrev cX2_isTime : ByteArray := prog_1_method_40_code
def yX2_isTime : MethodName := ⟨RX2, "isTime", "(I)Z"⟩
abbrev cX2_isSource : ByteArray := prog_1_method_41_code
def yX2_isSource : MethodName := ⟨RX2, "isSource", "(I)Z"⟩
abbrev cX2_isEvent : ByteArray := prog_1_method_42_code
def yX2_isEvent : MethodName := ⟨RX2, "isEvent", "(IIII)Z"⟩
abbrev cX2_areSettings : ByteArray := prog_1_method_43_code
def yX2_areSettings : MethodName := ⟨RX2, "areSettings", "(III)Z"⟩
abbrev cX2_eventRefusal : ByteArray := prog_1_method_44_code
def yX2_eventRefusal : MethodName := ⟨RX2, "eventRefusal", "(IIII)I"⟩
abbrev cX2_markRefusal : ByteArray := prog_1_method_45_code
def yX2_markRefusal : MethodName := ⟨RX2, "markRefusal", "(II)I"⟩
abbrev cX2_idleRefusal : ByteArray := prog_1_method_46_code
def yX2_idleRefusal : MethodName := ⟨RX2, "idleRefusal", "(I)I"⟩
abbrev cX2_inputRefusal : ByteArray := prog_1_method_47_code
def yX2_inputRefusal : MethodName := ⟨RX2, "inputRefusal", "()I"⟩
abbrev cX2_isOfLatest : ByteArray := prog_1_method_48_code
def yX2_isOfLatest : MethodName := ⟨RX2, "isOfLatest", "(III)Z"⟩
abbrev cX2_shifted : ByteArray := prog_1_method_49_code
def yX2_shifted : MethodName := ⟨RX2, "shifted", "(LLateSessions$Table;II)I"⟩
abbrev cX2_tellNothing : ByteArray := prog_1_method_50_code
def yX2_tellNothing : MethodName := ⟨RX2, "tellNothing", "()V"⟩
abbrev cX2_tellMore : ByteArray := prog_1_method_51_code
def yX2_tellMore : MethodName := ⟨RX2, "tellMore", "(J)V"⟩
abbrev cX2_tellOne : ByteArray := prog_1_method_52_code
def yX2_tellOne : MethodName := ⟨RX2, "tellOne", "(J)V"⟩
abbrev cX2_tellTwo : ByteArray := prog_1_method_53_code
def yX2_tellTwo : MethodName := ⟨RX2, "tellTwo", "(JJ)V"⟩
abbrev cX2_tellThree : ByteArray := prog_1_method_54_code
def yX2_tellThree : MethodName := ⟨RX2, "tellThree", "(JJJ)V"⟩
abbrev cX2_putSign : ByteArray := prog_1_method_55_code
def yX2_putSign : MethodName := ⟨RX2, "putSign", "(I)V"⟩
abbrev cX2_takeText : ByteArray := prog_1_method_56_code
def yX2_takeText : MethodName := ⟨RX2, "takeText", "()I"⟩
abbrev cX2_signAt : ByteArray := prog_1_method_57_code
def yX2_signAt : MethodName := ⟨RX2, "signAt", "(I)I"⟩
abbrev cX2_fits : ByteArray := prog_1_method_58_code
def yX2_fits : MethodName := ⟨RX2, "fits", "(IC)Z"⟩
abbrev cX2_formMisfit : ByteArray := prog_1_method_59_code
def yX2_formMisfit : MethodName := ⟨RX2, "formMisfit", "(IILjava/lang/String;)I"⟩
abbrev cX2_eventsMisfit : ByteArray := prog_1_method_60_code
def yX2_eventsMisfit : MethodName := ⟨RX2, "eventsMisfit", "(I)I"⟩
abbrev cX2_dayMisfit : ByteArray := prog_1_method_61_code
def yX2_dayMisfit : MethodName := ⟨RX2, "dayMisfit", "(I)I"⟩
abbrev cX2_actForm : ByteArray := prog_1_method_62_code
def yX2_actForm : MethodName := ⟨RX2, "actForm", "(I)Ljava/lang/String;"⟩
abbrev cX2_numberAt : ByteArray := prog_1_method_63_code
def yX2_numberAt : MethodName := ⟨RX2, "numberAt", "(II)I"⟩
abbrev cX2_keyAt : ByteArray := prog_1_method_64_code
def yX2_keyAt : MethodName := ⟨RX2, "keyAt", "(I)I"⟩
abbrev cX2_valueAt : ByteArray := prog_1_method_65_code
def yX2_valueAt : MethodName := ⟨RX2, "valueAt", "(I)I"⟩
abbrev cX2_comeEventAt : ByteArray := prog_1_method_66_code
def yX2_comeEventAt : MethodName := ⟨RX2, "comeEventAt", "(I)I"⟩
abbrev cX2_actRefusal : ByteArray := prog_1_method_67_code
def yX2_actRefusal : MethodName := ⟨RX2, "actRefusal", "(I)I"⟩
abbrev cX2_comeAct : ByteArray := prog_1_method_68_code
def yX2_comeAct : MethodName := ⟨RX2, "comeAct", "(I)V"⟩
abbrev cX2_remember : ByteArray := prog_1_method_69_code
def yX2_remember : MethodName := ⟨RX2, "remember", "()V"⟩
abbrev cX2_replay : ByteArray := prog_1_method_70_code
def yX2_replay : MethodName := ⟨RX2, "replay", "(IIII)V"⟩
abbrev cX2_sortTaken : ByteArray := prog_1_method_71_code
def yX2_sortTaken : MethodName := ⟨RX2, "sortTaken", "(I)I"⟩
abbrev cX2_sortedCell : ByteArray := prog_1_method_72_code
def yX2_sortedCell : MethodName := ⟨RX2, "sortedCell", "(II)I"⟩
abbrev cX2_holeBehind : ByteArray := prog_1_method_73_code
def yX2_holeBehind : MethodName := ⟨RX2, "holeBehind", "(I)I"⟩
abbrev cX2_drawAfter : ByteArray := prog_1_method_74_code
def yX2_drawAfter : MethodName := ⟨RX2, "drawAfter", "(I)I"⟩
abbrev cX2_drawOf : ByteArray := prog_1_method_75_code
def yX2_drawOf : MethodName := ⟨RX2, "drawOf", "(II)I"⟩
abbrev cX3_thrown : ByteArray := prog_5_method_1_code
def yX3_thrown : MethodName := ⟨RX3, "thrown", "()I"⟩
abbrev cX3_in : ByteArray := prog_5_method_2_code
def yX3_in : MethodName := ⟨RX3, "in", "(JJJ)Z"⟩
abbrev cX3_flag : ByteArray := prog_5_method_3_code
def yX3_flag : MethodName := ⟨RX3, "flag", "(Z)I"⟩
abbrev cX3_enters : ByteArray := prog_5_method_4_code
def yX3_enters : MethodName := ⟨RX3, "enters", "(J)V"⟩
abbrev cX3_sign : ByteArray := prog_5_method_5_code
def yX3_sign : MethodName := ⟨RX3, "sign", "(I)I"⟩
abbrev cX3_end : ByteArray := prog_5_method_6_code
def yX3_end : MethodName := ⟨RX3, "end", "(I)Z"⟩
abbrev cX3_reads : ByteArray := prog_5_method_7_code
def yX3_reads : MethodName := ⟨RX3, "reads", "()V"⟩
abbrev cX3_takesOf : ByteArray := prog_5_method_8_code
def yX3_takesOf : MethodName := ⟨RX3, "takesOf", "(Ljava/lang/String;)I"⟩
abbrev cX3_digits : ByteArray := prog_5_method_9_code
def yX3_digits : MethodName := ⟨RX3, "digits", "(I)I"⟩
abbrev cX3_init : ByteArray := prog_5_method_10_code
def yX3_init : MethodName := ⟨RX3, "<init>", "()V"⟩
abbrev cX3_copies : ByteArray := prog_5_method_11_code
def yX3_copies : MethodName := ⟨RX3, "copies", "(II)V"⟩
abbrev cX3_starts : ByteArray := prog_5_method_12_code
def yX3_starts : MethodName := ⟨RX3, "starts", "(IIIII)V"⟩
abbrev cX3_of : ByteArray := prog_5_method_13_code
def yX3_of : MethodName := ⟨RX3, "of", "(II)I"⟩
abbrev cX3_puts : ByteArray := prog_5_method_14_code
def yX3_puts : MethodName := ⟨RX3, "puts", "(III)V"⟩
abbrev cX3_adds : ByteArray := prog_5_method_15_code
def yX3_adds : MethodName := ⟨RX3, "adds", "(III)V"⟩
abbrev cX3_lays : ByteArray := prog_5_method_16_code
def yX3_lays : MethodName := ⟨RX3, "lays", "()V"⟩
abbrev cX3_done : ByteArray := prog_5_method_17_code
def yX3_done : MethodName := ⟨RX3, "done", "(I)I"⟩
abbrev cX3_undo : ByteArray := prog_5_method_18_code
def yX3_undo : MethodName := ⟨RX3, "undo", "()I"⟩
abbrev cX3_areSettings : ByteArray := prog_5_method_19_code
def yX3_areSettings : MethodName := ⟨RX3, "areSettings", "(III)Z"⟩
abbrev cX3_start : ByteArray := prog_5_method_20_code
def yX3_start : MethodName := ⟨RX3, "start", "(IIII)I"⟩
abbrev cX3_isSource : ByteArray := prog_5_method_21_code
def yX3_isSource : MethodName := ⟨RX3, "isSource", "(I)Z"⟩
abbrev cX3_delays : ByteArray := prog_5_method_22_code
def yX3_delays : MethodName := ⟨RX3, "delays", "(II)I"⟩
abbrev cX3_place : ByteArray := prog_5_method_23_code
def yX3_place : MethodName := ⟨RX3, "place", "(II)I"⟩
abbrev cX3_ofSession : ByteArray := prog_5_method_24_code
def yX3_ofSession : MethodName := ⟨RX3, "ofSession", "(III)I"⟩
abbrev cX3_goesOut : ByteArray := prog_5_method_25_code
def yX3_goesOut : MethodName := ⟨RX3, "goesOut", "(II)V"⟩
abbrev cX3_comesIn : ByteArray := prog_5_method_26_code
def yX3_comesIn : MethodName := ⟨RX3, "comesIn", "(I)I"⟩
abbrev cX3_isBehind : ByteArray := prog_5_method_27_code
def yX3_isBehind : MethodName := ⟨RX3, "isBehind", "(II)Z"⟩
abbrev cX3_sends : ByteArray := prog_5_method_28_code
def yX3_sends : MethodName := ⟨RX3, "sends", "(III)V"⟩
abbrev cX3_takesBack : ByteArray := prog_5_method_29_code
def yX3_takesBack : MethodName := ⟨RX3, "takesBack", "(II)V"⟩
abbrev cX3_isRipeBy : ByteArray := prog_5_method_30_code
def yX3_isRipeBy : MethodName := ⟨RX3, "isRipeBy", "(III)Z"⟩
abbrev cX3_isClosedBy : ByteArray := prog_5_method_31_code
def yX3_isClosedBy : MethodName := ⟨RX3, "isClosedBy", "(III)Z"⟩
abbrev cX3_leastMark : ByteArray := prog_5_method_32_code
def yX3_leastMark : MethodName := ⟨RX3, "leastMark", "(I)I"⟩
abbrev cX3_firstRipe : ByteArray := prog_5_method_33_code
def yX3_firstRipe : MethodName := ⟨RX3, "firstRipe", "(II)I"⟩
abbrev cX3_isDone : ByteArray := prog_5_method_34_code
def yX3_isDone : MethodName := ⟨RX3, "isDone", "(II)Z"⟩
abbrev cX3_rises : ByteArray := prog_5_method_35_code
def yX3_rises : MethodName := ⟨RX3, "rises", "(I)V"⟩
abbrev cX3_firstClosed : ByteArray := prog_5_method_36_code
def yX3_firstClosed : MethodName := ⟨RX3, "firstClosed", "(I)I"⟩
abbrev cX3_closes : ByteArray := prog_5_method_37_code
def yX3_closes : MethodName := ⟨RX3, "closes", "(II)V"⟩
abbrev cX3_notes : ByteArray := prog_5_method_38_code
def yX3_notes : MethodName := ⟨RX3, "notes", "(IIIIIII)V"⟩
abbrev cX3_melts : ByteArray := prog_5_method_39_code
def yX3_melts : MethodName := ⟨RX3, "melts", "(IIII)Z"⟩
abbrev cX3_joins : ByteArray := prog_5_method_40_code
def yX3_joins : MethodName := ⟨RX3, "joins", "(IIII)V"⟩
abbrev cX3_comes : ByteArray := prog_5_method_41_code
def yX3_comes : MethodName := ⟨RX3, "comes", "(IIIII)I"⟩
abbrev cX3_isMarked : ByteArray := prog_5_method_42_code
def yX3_isMarked : MethodName := ⟨RX3, "isMarked", "(III)V"⟩
abbrev cX3_isIdle : ByteArray := prog_5_method_43_code
def yX3_isIdle : MethodName := ⟨RX3, "isIdle", "(II)V"⟩
abbrev cX3_isEvent : ByteArray := prog_5_method_44_code
def yX3_isEvent : MethodName := ⟨RX3, "isEvent", "(IIII)Z"⟩
abbrev cX3_eventOne : ByteArray := prog_5_method_45_code
def yX3_eventOne : MethodName := ⟨RX3, "eventOne", "(IIII)I"⟩
abbrev cX3_entersSince : ByteArray := prog_5_method_46_code
def yX3_entersSince : MethodName := ⟨RX3, "entersSince", "(II)V"⟩
abbrev cX3_event : ByteArray := prog_5_method_47_code
def yX3_event : MethodName := ⟨RX3, "event", "(IIII)I"⟩
abbrev cX3_readsEvent : ByteArray := prog_5_method_48_code
def yX3_readsEvent : MethodName := ⟨RX3, "readsEvent", "(IZ)Z"⟩
abbrev cX3_events : ByteArray := prog_5_method_49_code
def yX3_events : MethodName := ⟨RX3, "events", "()I"⟩
abbrev cX3_marksOne : ByteArray := prog_5_method_50_code
def yX3_marksOne : MethodName := ⟨RX3, "marksOne", "(II)I"⟩
abbrev cX3_entersProgress : ByteArray := prog_5_method_51_code
def yX3_entersProgress : MethodName := ⟨RX3, "entersProgress", "()V"⟩
abbrev cX3_marks : ByteArray := prog_5_method_52_code
def yX3_marks : MethodName := ⟨RX3, "marks", "(II)I"⟩
abbrev cX3_idlesOne : ByteArray := prog_5_method_53_code
def yX3_idlesOne : MethodName := ⟨RX3, "idlesOne", "(I)I"⟩
abbrev cX3_idles : ByteArray := prog_5_method_54_code
def yX3_idles : MethodName := ⟨RX3, "idles", "(I)I"⟩
abbrev cX3_source : ByteArray := prog_5_method_55_code
def yX3_source : MethodName := ⟨RX3, "source", "(II)I"⟩
abbrev cX3_session : ByteArray := prog_5_method_56_code
def yX3_session : MethodName := ⟨RX3, "session", "(II)I"⟩
abbrev cX3_at : ByteArray := prog_5_method_57_code
def yX3_at : MethodName := ⟨RX3, "at", "(II)I"⟩
abbrev cX3_message : ByteArray := prog_5_method_58_code
def yX3_message : MethodName := ⟨RX3, "message", "(II)I"⟩
abbrev cX3_sent : ByteArray := prog_5_method_59_code
def yX3_sent : MethodName := ⟨RX3, "sent", "(I)I"⟩
abbrev cX3_stands : ByteArray := prog_5_method_60_code
def yX3_stands : MethodName := ⟨RX3, "stands", "()I"⟩
abbrev cX3_isKey : ByteArray := prog_5_method_61_code
def yX3_isKey : MethodName := ⟨RX3, "isKey", "(I)Z"⟩
abbrev cX3_closed : ByteArray := prog_5_method_62_code
def yX3_closed : MethodName := ⟨RX3, "closed", "(I)I"⟩
abbrev cX3_finals : ByteArray := prog_5_method_63_code
def yX3_finals : MethodName := ⟨RX3, "finals", "(II)I"⟩
abbrev cX3_kinds : ByteArray := prog_5_method_64_code
def yX3_kinds : MethodName := ⟨RX3, "kinds", "(I)I"⟩
abbrev cX3_slow : ByteArray := prog_5_method_65_code
def yX3_slow : MethodName := ⟨RX3, "slow", "()I"⟩
abbrev cX3_span : ByteArray := prog_5_method_66_code
def yX3_span : MethodName := ⟨RX3, "span", "(II)I"⟩
abbrev cX3_taken : ByteArray := prog_5_method_67_code
def yX3_taken : MethodName := ⟨RX3, "taken", "()I"⟩
abbrev cX3_holds : ByteArray := prog_5_method_68_code
def yX3_holds : MethodName := ⟨RX3, "holds", "()I"⟩
abbrev cX3_next : ByteArray := prog_5_method_69_code
def yX3_next : MethodName := ⟨RX3, "next", "()I"⟩
abbrev cX3_ahead : ByteArray := prog_5_method_70_code
def yX3_ahead : MethodName := ⟨RX3, "ahead", "(I)I"⟩
abbrev cX3_would : ByteArray := prog_5_method_71_code
def yX3_would : MethodName := ⟨RX3, "would", "(IIII)I"⟩
abbrev cX3_ofInput : ByteArray := prog_5_method_72_code
def yX3_ofInput : MethodName := ⟨RX3, "ofInput", "(II)I"⟩
abbrev cX3_laysTimes : ByteArray := prog_5_method_73_code
def yX3_laysTimes : MethodName := ⟨RX3, "laysTimes", "(I)V"⟩
abbrev cX3_fallsInto : ByteArray := prog_5_method_74_code
def yX3_fallsInto : MethodName := ⟨RX3, "fallsInto", "(I)I"⟩
abbrev cX3_batch : ByteArray := prog_5_method_75_code
def yX3_batch : MethodName := ⟨RX3, "batch", "(I)I"⟩
abbrev cX3_parts : ByteArray := prog_5_method_76_code
def yX3_parts : MethodName := ⟨RX3, "parts", "(II)I"⟩
abbrev cX3_comesAgain : ByteArray := prog_5_method_77_code
def yX3_comesAgain : MethodName := ⟨RX3, "comesAgain", "(II)V"⟩
abbrev cX3_startsAgain : ByteArray := prog_5_method_78_code
def yX3_startsAgain : MethodName := ⟨RX3, "startsAgain", "(III)V"⟩
abbrev cX3_closedMany : ByteArray := prog_5_method_79_code
def yX3_closedMany : MethodName := ⟨RX3, "closedMany", "(I)I"⟩
abbrev cX3_latest : ByteArray := prog_5_method_80_code
def yX3_latest : MethodName := ⟨RX3, "latest", "()I"⟩
abbrev cX3_again : ByteArray := prog_5_method_81_code
def yX3_again : MethodName := ⟨RX3, "again", "(III)I"⟩
abbrev cX3_without : ByteArray := prog_5_method_82_code
def yX3_without : MethodName := ⟨RX3, "without", "(I)I"⟩
abbrev cX3_input : ByteArray := prog_5_method_83_code
def yX3_input : MethodName := ⟨RX3, "input", "(II)I"⟩
abbrev cX3_readsAct : ByteArray := prog_5_method_84_code
def yX3_readsAct : MethodName := ⟨RX3, "readsAct", "(I)Z"⟩
abbrev cX3_doesAct : ByteArray := prog_5_method_85_code
def yX3_doesAct : MethodName := ⟨RX3, "doesAct", "(I)I"⟩
abbrev cX3_day : ByteArray := prog_5_method_86_code
def yX3_day : MethodName := ⟨RX3, "day", "()I"⟩
abbrev cX3_draws : ByteArray := prog_5_method_87_code
def yX3_draws : MethodName := ⟨RX3, "draws", "(I)I"⟩
abbrev cX3_years : ByteArray := prog_5_method_88_code
def yX3_years : MethodName := ⟨RX3, "years", "(II)I"⟩
abbrev cX3_keep : ByteArray := prog_5_method_89_code
def yX3_keep : MethodName := ⟨RX3, "keep", "(I)Z"⟩
abbrev cX3_back : ByteArray := prog_5_method_90_code
def yX3_back : MethodName := ⟨RX3, "back", "(I)Z"⟩
abbrev cX3_count : ByteArray := prog_5_method_91_code
def yX3_count : MethodName := ⟨RX3, "count", "(I)I"⟩
abbrev cX3_row : ByteArray := prog_5_method_92_code
def yX3_row : MethodName := ⟨RX3, "row", "(I)J"⟩
abbrev cJ9_max_7cf53 : ByteArray := prog_10_method_65_code
def yJ9_max_7cf53 : MethodName := ⟨RJ9, "max", "(II)I"⟩
abbrev cJ9_min_7cf53 : ByteArray := prog_10_method_69_code
def yJ9_min_7cf53 : MethodName := ⟨RJ9, "min", "(II)I"⟩
abbrev cJ0_length_8abf5 : ByteArray := prog_12_method_54_code
def yJ0_length_8abf5 : MethodName := ⟨RJ0, "length", "()I"⟩
abbrev cJ0_isEmpty_aae02 : ByteArray := prog_12_method_55_code
def yJ0_isEmpty_aae02 : MethodName := ⟨RJ0, "isEmpty", "()Z"⟩
abbrev cJ0_charAt_5068e : ByteArray := prog_12_method_56_code
def yJ0_charAt_5068e : MethodName := ⟨RJ0, "charAt", "(I)C"⟩
abbrev cJ0_coder_7d493 : ByteArray := prog_12_method_152_code
def yJ0_coder_7d493 : MethodName := ⟨RJ0, "coder", "()B"⟩
abbrev cJ0_isLatin1_aae02 : ByteArray := prog_12_method_154_code
def yJ0_isLatin1_aae02 : MethodName := ⟨RJ0, "isLatin1", "()Z"⟩
abbrev cJ0_checkIndex_df160 : ByteArray := prog_12_method_155_code
def yJ0_checkIndex_df160 : MethodName := ⟨RJ0, "checkIndex", "(II)V"⟩
abbrev cJ1_charAt_3b067 : ByteArray := prog_13_method_2_code
def yJ1_charAt_3b067 : MethodName := ⟨RJ1, "charAt", "([BI)C"⟩
abbrev cJ7_fill_53178 : ByteArray := prog_19_method_103_code
def yJ7_fill_53178 : MethodName := ⟨RJ7, "fill", "([II)V"⟩
abbrev cJ3_checkIndex_8e157 : ByteArray := prog_21_method_11_code
def yJ3_checkIndex_8e157 : MethodName := ⟨RJ3, "checkIndex", "(IILjava/util/function/BiFunction;)I"⟩
abbrev cL_source : ByteArray := method_3_code
def yL_source : MethodName := ⟨RL, "source", "(LLateSessions;II[J)I"⟩
abbrev cL_session : ByteArray := method_4_code
def yL_session : MethodName := ⟨RL, "session", "(LLateSessions;II[J)I"⟩
abbrev cL_message : ByteArray := method_5_code
def yL_message : MethodName := ⟨RL, "message", "(LLateSessions;II[J)I"⟩
abbrev cL_finals : ByteArray := method_6_code
def yL_finals : MethodName := ⟨RL, "finals", "(LLateSessions;II[J)I"⟩
abbrev cL_input : ByteArray := method_7_code
def yL_input : MethodName := ⟨RL, "input", "(LLateSessions;II[J)I"⟩
abbrev cL_row : ByteArray := method_8_code
def yL_row : MethodName := ⟨RL, "row", "(LLateSessions;I[J)I"⟩
abbrev cL_law : ByteArray := code
def yL_law : MethodName := ⟨RL, "law", "([I)Z"⟩
end
section
/-! ===== a method's state as plain data: a list of cells by places (references in cells are relative: 'this place and so many more'), locals and stack with places for addresses; xl_W: from here the method comes to its end, with Po ===== -/
def xl_n {α : Type} : List α → Nat → Option α
  | [], _ => none
  | a :: _, 0 => some a
  | _ :: l, k + 1 => xl_n l k
def xl_s {α : Type} : List α → Nat → α → List α
  | [], _, _ => []
  | _ :: l, 0, b => b :: l
  | a :: l, k + 1, b => a :: xl_s l k b
theorem xl_n_eq {α : Type} : ∀ (l : List α) (k : Nat), xl_n l k = l[k]?
  | [], k => by simp [xl_n]
  | a :: l, 0 => by simp [xl_n]
  | a :: l, k + 1 => by rw [xl_n, xl_n_eq l k]; simp
theorem xl_s_eq {α : Type} : ∀ (l : List α) (k : Nat) (b : α), xl_s l k b = l.set k b
  | [], k, b => by simp [xl_s]
  | a :: l, 0, b => by simp [xl_s]
  | a :: l, k + 1, b => by rw [xl_s, xl_s_eq l k b]; simp
abbrev XI : Type := MethodName × ByteArray × Nat × Option FieldType × Nat × Nat × Nat
abbrev XE : Type := (Nat × vp_A) ⊕ (Nat × List Value)
abbrev XH : Type := List XE
/-- a value: a reference is a place, a float stands for a String constant -/
def xl_v (ρ σ : Nat → Nat) : Value → Value := fun v => match v with
  | .ref k => .ref (ρ k)
  | .float j => .ref (σ j.toNat)
  | .int a => .int a
  | .long a => .long a
  | .double a => .double a
  | .null => .null
  | .retAddr a => .retAddr a
def xl_a (ρ : Nat → Nat) (k : Nat) : ((Nat → Int32) ⊕ (Nat → Int64) ⊕ (Nat → UInt32) ⊕ (Nat → UInt64) ⊕ (Nat → Option Nat)) → ((Nat → Int32) ⊕ (Nat → Int64) ⊕ (Nat → UInt32) ⊕ (Nat → UInt64) ⊕ (Nat → Option Nat)) := fun a => match a with
  | .inl f => .inl f
  | .inr (.inl f) => .inr (.inl f)
  | .inr (.inr (.inl f)) => .inr (.inr (.inl f))
  | .inr (.inr (.inr (.inl f))) => .inr (.inr (.inr (.inl f)))
  | .inr (.inr (.inr (.inr f))) => .inr (.inr (.inr (.inr (fun j => (f j).map (fun d => ρ (k + d))))))
def xl_c (aC : Nat → ClassId) (ρ σ : Nat → Nat) (k : Nat) : XE → va_E := fun c => match c with
  | .inl a => .inl (aC a.1, a.2.1, xl_a ρ k a.2.2)
  | .inr o => .inr (o.1, o.2.map (xl_v (fun d => ρ (k + d)) σ))
def xl_w (aC : Nat → ClassId) (ρ σ : Nat → Nat) (h : XH) : va_W := h.mapIdx (fun k c => (ρ k, xl_c aC ρ σ k c))
theorem xl_w_at (aC : Nat → ClassId) (ρ σ : Nat → Nat) (h : XH) (k : Nat) : (xl_w aC ρ σ h)[k]? = (h[k]?).map (fun c => (ρ k, xl_c aC ρ σ k c)) := by
  rw [xl_w, List.getElem?_mapIdx]
theorem xl_w_of {aC : Nat → ClassId} {ρ σ : Nat → Nat} {h : XH} {k : Nat} {c : XE} (e : h[k]? = some c) : (xl_w aC ρ σ h)[k]? = some (ρ k, xl_c aC ρ σ k c) := by
  rw [xl_w_at, e]; rfl
theorem xl_w_inv {aC : Nat → ClassId} {ρ σ : Nat → Nat} {h : XH} {k : Nat} {q : Nat × va_E} (e : (xl_w aC ρ σ h)[k]? = some q) : ∃ c, h[k]? = some c ∧ q = (ρ k, xl_c aC ρ σ k c) := by
  rw [xl_w_at] at e
  cases hh : h[k]? with
  | none => rw [hh] at e; cases e
  | some c => rw [hh] at e; exact ⟨c, rfl, (Option.some.inj e).symm⟩
theorem xl_w_set {aC : Nat → ClassId} {ρ σ : Nat → Nat} {h : XH} {k : Nat} {c : XE} : (xl_w aC ρ σ h).set k (ρ k, xl_c aC ρ σ k c) = xl_w aC ρ σ (h.set k c) := by
  apply List.ext_getElem?
  intro i
  rw [List.getElem?_set, xl_w_at, xl_w_at, List.getElem?_set]
  by_cases hi : k = i
  · subst hi
    simp only [if_true]
    by_cases hl : k < h.length
    · simp [xl_w, hl]
    · simp [xl_w, hl]
  · simp [hi]
theorem xl_w_s {aC : Nat → ClassId} {ρ σ : Nat → Nat} {h : XH} {k : Nat} {c : XE} : xl_w aC ρ σ (xl_s h k c) = (xl_w aC ρ σ h).set k (ρ k, xl_c aC ρ σ k c) := by
  rw [xl_s_eq, xl_w_set]
/-- the addresses, apart -/
def xl_ap (A : Nat → Prop) (ρ : Nat → Nat) (n : Nat) : Prop := (∀ i j, i < n → j < n → ρ i = ρ j → i = j) ∧ ∀ i, i < n → A (ρ i)
theorem xl_ap_of {A : Nat → Prop} {aC : Nat → ClassId} {ρ σ : Nat → Nat} {h : XH} (hD : va_D A (xl_w aC ρ σ h)) : xl_ap A ρ h.length := by
  have key : ∀ i (hi : i < h.length), (xl_w aC ρ σ h)[i]? = some (ρ i, xl_c aC ρ σ i h[i]) := fun i hi => xl_w_of (List.getElem?_eq_getElem hi)
  exact ⟨fun i j hi hj e => hD.1 i j _ _ (key i hi) (key j hj) e, fun i hi => hD.2 i _ (key i hi)⟩
theorem xl_D_of {A : Nat → Prop} {aC : Nat → ClassId} {ρ σ : Nat → Nat} {h : XH} (hD : xl_ap A ρ h.length) : va_D A (xl_w aC ρ σ h) := by
  have key : ∀ (k : Nat) (q : Nat × va_E), (xl_w aC ρ σ h)[k]? = some q → k < h.length ∧ q.1 = ρ k := by
    intro k q hq
    obtain ⟨c, e1, e2⟩ := xl_w_inv hq
    exact ⟨(List.getElem?_eq_some_iff.mp e1).1, by rw [e2]⟩
  refine ⟨fun i j p q hi hj e => ?_, fun k q hk => ?_⟩
  · obtain ⟨a1, a2⟩ := key i p hi
    obtain ⟨b1, b2⟩ := key j q hj
    exact hD.1 i j a1 b1 (by rw [← a2, ← b2]; exact e)
  · obtain ⟨a1, a2⟩ := key k q hk
    rw [a2]; exact hD.2 k a1
/-- the words that every method may use -/
def xl_T : List Cond := lw_tbl.filter goodWord
theorem xl_Tg : ∀ w ∈ xl_T, goodWord w = true := fun w h => (List.mem_filter.mp h).2
theorem xl_Ti {w : Cond} (i : Nat) (h : lw_tbl[i]? = some w) (g : goodWord w = true) : w ∈ xl_T := List.mem_filter.mpr ⟨List.mem_of_getElem? h, g⟩
abbrev vwCl : List vw_C := [(RX0, TX0, 4), (RX1, TX1, 16), (RX2, TX2, 13), (RX3, TX3, 23)]
abbrev xl_ty (aC : Nat → ClassId) : List (ClassId × FieldType) := [(aC 0, .int), (aC 1, .long), (aC 2, .boolean), (aC 3, .object RX1)]
/-- the String constants: class, entry, text, bytes -/
def xl_sn : Nat := 9
def xl_sc : Nat → String × Nat × String := fun j => match j with
  | 0 => (RX2, 306, "kddddsddn")
  | 1 => (RX2, 316, "kddddsddd")
  | 2 => (RX2, 318, "dddddd")
  | 3 => (RX2, 320, "d")
  | 4 => (RX2, 322, "")
  | 5 => (RX3, 237, "abcdef")
  | 6 => (RX3, 41, "0123456789")
  | 7 => (RX3, 242, "+-")
  | _ => (RX3, 297, "emi")
def xl_sb : List (List Int32) := [[107, 100, 100, 100, 100, 115, 100, 100, 110], [107, 100, 100, 100, 100, 115, 100, 100, 100], [100, 100, 100, 100, 100, 100], [100], [], [97, 98, 99, 100, 101, 102], [48, 49, 50, 51, 52, 53, 54, 55, 56, 57], [43, 45], [101, 109, 105]]
def xl_sl : List Nat := [9, 9, 6, 1, 0, 6, 10, 2, 3]
def xl_S (σ aV : Nat → Nat) (A : Nat → Prop) (U : State) (H : Heap) : Prop := vk_S xl_sn xl_sl xl_sb σ aV A U H ∧ va_Z "java/lang/String" "COMPACT_STRINGS" "Z" (.int 1) A U H ∧ va_Zq "jdk/internal/util/Preconditions" "SIOOBE_FORMATTER" "Ljava/util/function/BiFunction;" A U H ∧ ∀ j, j < xl_sn → vk_R (xl_sc j).1 (xl_sc j).2.1 (xl_sc j).2.2 (σ j) U
theorem xl_S.moved {σ aV : Nat → Nat} {A : Nat → Prop} {u U : State} {H : Heap} (hW : u.WarmedH U.vm) (h : xl_S σ aV A u H) : xl_S σ aV A U H :=
  ⟨vk_S.moved hW.alike h.1, va_Z.moved hW.alike h.2.1, va_Zq.moved hW.alike h.2.2.1, fun j hj => vk_R.warm hW (h.2.2.2 j hj)⟩
theorem xl_S.same {σ aV : Nat → Nat} {A : Nat → Prop} {u U : State} {H : Heap} (hv : U.vm = u.vm) (h : xl_S σ aV A u H) : xl_S σ aV A U H :=
  ⟨vk_S.moved (by rw [hv]; exact Vm.Alike.refl _) h.1, va_Z.moved (by rw [hv]; exact Vm.Alike.refl _) h.2.1, va_Zq.moved (by rw [hv]; exact Vm.Alike.refl _) h.2.2.1, fun j hj => vk_R.same hv (h.2.2.2 j hj)⟩
theorem xl_S.kept {σ aV : Nat → Nat} {A : Nat → Prop} {U : State} {H H1 : Heap} (h : xl_S σ aV A U H) (hq : ∀ a : Nat, a < H.size → ¬ A a → H1[a]? = H[a]?) : xl_S σ aV A U H1 :=
  ⟨vk_S.kept h.1 hq, va_Z.kept h.2.1 hq, va_Zq.kept h.2.2.1 hq, h.2.2.2⟩
theorem xl_S.narrow {σ aV : Nat → Nat} {A B : Nat → Prop} {U : State} {H : Heap} (h : xl_S σ aV A U H) (hAB : ∀ q, B q → A q) : xl_S σ aV B U H :=
  ⟨vk_S.narrow h.1 hAB, va_Z.narrow h.2.1 hAB, va_Zq.narrow h.2.2.1 hAB, h.2.2.2⟩
/-- the machine, the code, the tables -/
def xl_X (M : XI) (l : Launch) (p : Program) (R : Room) (s : State) (m : MethodId) (args : Array Value) (meth : Method) (c : Code) : Prop :=
  p.tables.exec = Jvm.exec ∧ c.code = M.2.1 ∧ meth.sig.returnType = M.2.2.2.1 ∧ c.maxLocals = M.2.2.1 ∧ s.vm.findClass M.1.cls = some m.cls ∧ (∀ w ∈ xl_T, w.before args s = true) ∧ meth.locks = false ∧ M.2.2.2.2.1 ≤ R.frames ∧ M.2.2.2.2.2.1 ≤ R.locals ∧ l.flags = flags0
/-- the cells -/
def xl_H (D : va_G) (aC : Nat → ClassId) (ρ σ aV : Nat → Nat) (A : Nat → Prop) (s : State) (H : Heap) (locs : List Loc) (h : XH) : Prop :=
  va_K D vwCl (xl_ty aC) s ∧ va_P D vwCl (xl_w aC ρ σ h) H ∧ va_D A (xl_w aC ρ σ h) ∧ va_S A s.heap H locs ∧ xl_S σ aV A s s.heap ∧ ∀ q, s.heap.size ≤ q → A q
/-- the locals -/
def xl_L (ρ σ : Nat → Nat) (n : Nat) (ls : Array Slot) (L : List (Option Value)) : Prop := ls.size = n ∧ lv_wf ls ∧ ∀ (i : Nat) (v : Value), xl_n L i = some (some v) → ls[i]? = some (.val (xl_v ρ σ v))
/-- a return instruction for a value -/
def xl_R (M : XI) (pc : Nat) (v : Option Value) : Prop := match v with
  | none => M.2.2.2.1 = none ∧ decode M.2.1 pc = .ok (.return_, 1)
  | some (.int a) => (∃ ty, M.2.2.2.1 = some ty ∧ narrow ty (.int a) = .int a) ∧ decode M.2.1 pc = .ok (.ireturn, 1)
  | some (.long _) => M.2.2.2.1 = some .long ∧ decode M.2.1 pc = .ok (.lreturn, 1)
  | some (.float _) => (∃ n, M.2.2.2.1 = some (.object n)) ∧ decode M.2.1 pc = .ok (.areturn, 1)
  | some _ => False
/-- where a method makes its exception: new, dup, <init>, athrow -/
def xl_Y (M : XI) (pc : Nat) : Prop := ∃ i j, decode M.2.1 pc = .ok (.new i, 3) ∧ decode M.2.1 (pc + 3) = .ok (.dup, 1) ∧ decode M.2.1 (pc + 4) = .ok (.invokespecial j, 3) ∧ decode M.2.1 (pc + 7) = .ok (.athrow, 1)
def xl_W (M : XI) (rc rs pc : Nat) (L : List (Option Value)) (st : List Value) (h : XH) (Po : Option (Option Value) → XH → Prop) : Prop :=
  ∀ (p : Program) (l : Launch) (e : Env) (R : Room) (s : State) (m : MethodId) (args : Array Value) (below : List Frame) (meth : Method) (c : Code) (D : va_G) (aC : Nat → ClassId) (ρ σ aV : Nat → Nat) (A : Nat → Prop) (H : Heap) (locs : List Loc) (cells slots : Nat) (ls : Array Slot) (Q : State → Prop),
    xl_X M l p R s m args meth c → xl_H D aC ρ σ aV A s H locs h → xl_L ρ σ M.2.2.1 ls L → cells + rc ≤ R.cells → slots + rs ≤ R.slots →
    (∀ (v : Option Value) (h' : XH) (H' : Heap) (locs' : List Loc) (pc' cells' slots' : Nat) (ls' : Array Slot), Po (some v) h' → xl_H D aC ρ σ aV A s H' locs' h' → xl_R M pc' v → cells' ≤ cells + rc → slots' ≤ slots + rs → W p l e R s m args below meth c H' locs' cells' slots' Q (F0 m pc' ls' (v.toList.map (xl_v ρ σ)))) →
    (∀ (h' : XH) (H' : Heap) (locs' : List Loc) (pc' cells' slots' : Nat) (ls' : Array Slot), Po none h' → xl_H D aC ρ σ aV A s H' locs' h' → xl_Y M pc' → cells' + 1 ≤ cells + rc → slots' + 6 ≤ slots + rs → ls'.size = M.2.2.1 → W p l e R s m args below meth c H' locs' cells' slots' Q (F0 m pc' ls' [])) →
    W p l e R s m args below meth c H locs cells slots Q (F0 m pc ls (st.map (xl_v ρ σ)))
/-- an instruction: what stands at pc, and the place behind it -/
def xl_D (M : XI) (pc : Nat) (i : Instr) (n pc2 : Nat) : Prop := decode M.2.1 pc = .ok (i, n) ∧ pc + n = pc2
/-- a branch -/
def xl_J (M : XI) (pc : Nat) (f : Int → Instr) (pc2 tgt : Nat) : Prop := ∃ off : Int, decode M.2.1 pc = .ok (f off, 3) ∧ (pc : Int) + off = (tgt : Int) ∧ pc + 3 = pc2
section XL
variable {M : XI} {rc rs pc pc2 tgt : Nat} {L : List (Option Value)} {st st2 : List Value} {h : XH} {Po : Option (Option Value) → XH → Prop}
/-- instructions that touch the stack alone -/
theorem xl_go (f : ∀ {p : Program} {l : Launch} {e : Env} {R : Room} {s : State} {m : MethodId} {args : Array Value} {below : List Frame} {meth : Method} {c : Code} {H : Heap} {locs : List Loc} {cells slots : Nat} {Q : State → Prop} {ls : Array Slot} {ρ σ : Nat → Nat}, xl_X M l p R s m args meth c → W p l e R s m args below meth c H locs cells slots Q (F0 m pc2 ls (st2.map (xl_v ρ σ))) → W p l e R s m args below meth c H locs cells slots Q (F0 m pc ls (st.map (xl_v ρ σ))))
    (k : xl_W M rc rs pc2 L st2 h Po) : xl_W M rc rs pc L st h Po := by
  intro p l e R s m args below meth c D aC ρ σ aV A H locs cells slots ls Q hX hH hL h1 h2 hr ht
  exact f hX (k p l e R s m args below meth c D aC ρ σ aV A H locs cells slots ls Q hX hH hL h1 h2 hr ht)
theorem xl_iconst {n : Int} (v : Int32) (d : xl_D M pc (.iconst n) 1 pc2) (hv : Int32.ofInt n = v) (k : xl_W M rc rs pc2 L (.int v :: st) h Po) : xl_W M rc rs pc L st h Po := by
  obtain ⟨d, rfl⟩ := d
  exact xl_go (fun hX k => lv_iconst hX.1 hX.2.1 d hv k) k
theorem xl_bipush {n : Int} (v : Int32) (d : xl_D M pc (.bipush n) 2 pc2) (hv : (Int8.ofInt n).toInt32 = v) (k : xl_W M rc rs pc2 L (.int v :: st) h Po) : xl_W M rc rs pc L st h Po := by
  obtain ⟨d, rfl⟩ := d
  exact xl_go (fun hX k => lv_bipush hX.1 hX.2.1 d hv k) k
theorem xl_sipush {n : Int} (v : Int32) (d : xl_D M pc (.sipush n) 3 pc2) (hv : (Int16.ofInt n).toInt32 = v) (k : xl_W M rc rs pc2 L (.int v :: st) h Po) : xl_W M rc rs pc L st h Po := by
  obtain ⟨d, rfl⟩ := d
  exact xl_go (fun hX k => lv_sipush hX.1 hX.2.1 d hv k) k
theorem xl_lconst {n : Fin 2} (v : Int64) (d : xl_D M pc (.lconst n) 1 pc2) (hv : Int64.ofNat (n : Nat) = v) (k : xl_W M rc rs pc2 L (.long v :: st) h Po) : xl_W M rc rs pc L st h Po := by
  obtain ⟨d, rfl⟩ := d
  exact xl_go (fun hX k => lv_lconst hX.1 hX.2.1 d hv k) k
theorem xl_ldcw {i : Nat} {v : Int32} (d : xl_D M pc (.ldc_w i) 3 pc2) (hw : Cond.constant M.1.cls i v ∈ xl_T) (k : xl_W M rc rs pc2 L (.int v :: st) h Po) : xl_W M rc rs pc L st h Po := by
  obtain ⟨d, rfl⟩ := d
  exact xl_go (fun hX k => lv_ldcw hX.1 hX.2.1 hX.2.2.2.2.1 (hX.2.2.2.2.2.1 _ hw) d k) k
theorem xl_ldc2 {i : Nat} {v : Int64} (d : xl_D M pc (.ldc2_w i) 3 pc2) (hw : Cond.constantLong M.1.cls i v ∈ xl_T) (k : xl_W M rc rs pc2 L (.long v :: st) h Po) : xl_W M rc rs pc L st h Po := by
  obtain ⟨d, rfl⟩ := d
  exact xl_go (fun hX k => lv_ldc2 hX.1 hX.2.1 hX.2.2.2.2.1 (hX.2.2.2.2.2.1 _ hw) d k) k
theorem xl_iadd {a b : Int32} (d : xl_D M pc .iadd 1 pc2) (k : xl_W M rc rs pc2 L (.int (a + b) :: st) h Po) : xl_W M rc rs pc L (.int b :: .int a :: st) h Po := by
  obtain ⟨d, rfl⟩ := d
  exact xl_go (fun hX k => lv_iadd hX.1 hX.2.1 d k) k
theorem xl_isub {a b : Int32} (d : xl_D M pc .isub 1 pc2) (k : xl_W M rc rs pc2 L (.int (a - b) :: st) h Po) : xl_W M rc rs pc L (.int b :: .int a :: st) h Po := by
  obtain ⟨d, rfl⟩ := d
  exact xl_go (fun hX k => lv_isub hX.1 hX.2.1 d k) k
theorem xl_imul {a b : Int32} (d : xl_D M pc .imul 1 pc2) (k : xl_W M rc rs pc2 L (.int (a * b) :: st) h Po) : xl_W M rc rs pc L (.int b :: .int a :: st) h Po := by
  obtain ⟨d, rfl⟩ := d
  exact xl_go (fun hX k => lv_imul hX.1 hX.2.1 d k) k
theorem xl_iand {a b : Int32} (d : xl_D M pc .iand 1 pc2) (k : xl_W M rc rs pc2 L (.int (a &&& b) :: st) h Po) : xl_W M rc rs pc L (.int b :: .int a :: st) h Po := by
  obtain ⟨d, rfl⟩ := d
  exact xl_go (fun hX k => lv_iand hX.1 hX.2.1 d k) k
theorem xl_ior {a b : Int32} (d : xl_D M pc .ior 1 pc2) (k : xl_W M rc rs pc2 L (.int (a ||| b) :: st) h Po) : xl_W M rc rs pc L (.int b :: .int a :: st) h Po := by
  obtain ⟨d, rfl⟩ := d
  exact xl_go (fun hX k => lv_ior hX.1 hX.2.1 d k) k
theorem xl_ishl {a b : Int32} (d : xl_D M pc .ishl 1 pc2) (k : xl_W M rc rs pc2 L (.int (a <<< (b &&& 31)) :: st) h Po) : xl_W M rc rs pc L (.int b :: .int a :: st) h Po := by
  obtain ⟨d, rfl⟩ := d
  exact xl_go (fun hX k => lv_ishl hX.1 hX.2.1 d k) k
theorem xl_ishr {a b : Int32} (d : xl_D M pc .ishr 1 pc2) (k : xl_W M rc rs pc2 L (.int (a >>> (b &&& 31)) :: st) h Po) : xl_W M rc rs pc L (.int b :: .int a :: st) h Po := by
  obtain ⟨d, rfl⟩ := d
  exact xl_go (fun hX k => lv_ishr hX.1 hX.2.1 d k) k
theorem xl_iushr {a b : Int32} (d : xl_D M pc .iushr 1 pc2) (k : xl_W M rc rs pc2 L (.int (a.toUInt32 >>> (b.toUInt32 &&& Int32.toUInt32 31)).toInt32 :: st) h Po) : xl_W M rc rs pc L (.int b :: .int a :: st) h Po := by
  obtain ⟨d, rfl⟩ := d
  exact xl_go (fun hX k => lv_iushr hX.1 hX.2.1 d rfl k) k
theorem xl_idiv {a b : Int32} (d : xl_D M pc .idiv 1 pc2) (hne : ¬ b = 0) (k : xl_W M rc rs pc2 L (.int (a / b) :: st) h Po) : xl_W M rc rs pc L (.int b :: .int a :: st) h Po := by
  obtain ⟨d, rfl⟩ := d
  exact xl_go (fun hX k => lv_idiv hX.1 hX.2.1 d hne k) k
theorem xl_irem {a b : Int32} (d : xl_D M pc .irem 1 pc2) (hne : ¬ b = 0) (k : xl_W M rc rs pc2 L (.int (a - a / b * b) :: st) h Po) : xl_W M rc rs pc L (.int b :: .int a :: st) h Po := by
  obtain ⟨d, rfl⟩ := d
  exact xl_go (fun hX k => lv_irem hX.1 hX.2.1 d hne k) k
theorem xl_ineg {a : Int32} (d : xl_D M pc .ineg 1 pc2) (k : xl_W M rc rs pc2 L (.int (-a) :: st) h Po) : xl_W M rc rs pc L (.int a :: st) h Po := by
  obtain ⟨d, rfl⟩ := d
  exact xl_go (fun hX k => lv_ineg hX.1 hX.2.1 d k) k
theorem xl_i2l {a : Int32} (d : xl_D M pc .i2l 1 pc2) (k : xl_W M rc rs pc2 L (.long a.toInt64 :: st) h Po) : xl_W M rc rs pc L (.int a :: st) h Po := by
  obtain ⟨d, rfl⟩ := d
  exact xl_go (fun hX k => lv_i2l hX.1 hX.2.1 d rfl k) k
theorem xl_lcmp {a b : Int64} (d : xl_D M pc .lcmp 1 pc2) (k : xl_W M rc rs pc2 L (.int (lg_cmp a b) :: st) h Po) : xl_W M rc rs pc L (.long b :: .long a :: st) h Po := by
  obtain ⟨d, rfl⟩ := d
  exact xl_go (fun hX k => W.lcmp hX.1 hX.2.1 d k) k
/-- of one word -/
def xl_1 : Value → Bool := fun v => match v with
  | .long _ => false
  | .double _ => false
  | _ => true
theorem xl_1c {v : Value} {ρ σ : Nat → Nat} (h : xl_1 v = true) : (xl_v ρ σ v).category = 1 := by
  cases v <;> first | rfl | cases h
theorem xl_dup {a : Value} (d : xl_D M pc .dup 1 pc2) (ha : xl_1 a = true) (k : xl_W M rc rs pc2 L (a :: a :: st) h Po) : xl_W M rc rs pc L (a :: st) h Po := by
  obtain ⟨d, rfl⟩ := d
  exact xl_go (fun hX k => lv_dup hX.1 hX.2.1 d (xl_1c ha) k) k
theorem xl_pop {a : Value} (d : xl_D M pc .pop 1 pc2) (ha : xl_1 a = true) (k : xl_W M rc rs pc2 L st h Po) : xl_W M rc rs pc L (a :: st) h Po := by
  obtain ⟨d, rfl⟩ := d
  exact xl_go (fun hX k => lv_pop hX.1 hX.2.1 d (xl_1c ha) k) k
theorem xl_dup2 {a b : Value} (d : xl_D M pc .dup2 1 pc2) (ha : xl_1 a = true) (hb : xl_1 b = true) (k : xl_W M rc rs pc2 L (a :: b :: a :: b :: st) h Po) : xl_W M rc rs pc L (a :: b :: st) h Po := by
  obtain ⟨d, rfl⟩ := d
  exact xl_go (fun hX k => lv_dup2_11 hX.1 hX.2.1 d (xl_1c ha) (xl_1c hb) k) k
theorem xl_goto (d : xl_J M pc (fun o => .goto o) pc2 tgt) (k : xl_W M rc rs tgt L st h Po) : xl_W M rc rs pc L st h Po := by
  obtain ⟨off, d, e1, -⟩ := d
  exact xl_go (fun hX k => lv_goto hX.1 hX.2.1 d e1 k) k
theorem xl_ifnonnull {a : Nat} (d : xl_J M pc (fun o => .ifnonnull o) pc2 tgt) (k : xl_W M rc rs tgt L st h Po) : xl_W M rc rs pc L (.ref a :: st) h Po := by
  obtain ⟨off, d, e1, -⟩ := d
  exact xl_go (fun hX k => lv_ifnonnull hX.1 hX.2.1 d e1 k) k
theorem xl_ifnull {a : Nat} (d : xl_J M pc (fun o => .ifnull o) pc2 tgt) (k : xl_W M rc rs pc2 L st h Po) : xl_W M rc rs pc L (.ref a :: st) h Po := by
  obtain ⟨off, d, e1, rfl⟩ := d
  exact xl_go (fun hX k => lv_ifnull hX.1 hX.2.1 d k) k
/-- a branch that is decided from what is known -/
theorem xl_if {P : Prop} {st2 : List Value} {t f : Nat} (g : ∀ {p : Program} {l : Launch} {e : Env} {R : Room} {s : State} {m : MethodId} {args : Array Value} {below : List Frame} {meth : Method} {c : Code} {H : Heap} {locs : List Loc} {cells slots : Nat} {Q : State → Prop} {ls : Array Slot} {ρ σ : Nat → Nat}, xl_X M l p R s m args meth c → (P → W p l e R s m args below meth c H locs cells slots Q (F0 m t ls (st2.map (xl_v ρ σ)))) → (¬ P → W p l e R s m args below meth c H locs cells slots Q (F0 m f ls (st2.map (xl_v ρ σ)))) → W p l e R s m args below meth c H locs cells slots Q (F0 m pc ls (st.map (xl_v ρ σ))))
    (kt : P → xl_W M rc rs t L st2 h Po) (kf : ¬ P → xl_W M rc rs f L st2 h Po) : xl_W M rc rs pc L st h Po := by
  intro p l e R s m args below meth c D aC ρ σ aV A H locs cells slots ls Q hX hH hL h1 h2 hr ht
  exact g hX (fun q => kt q p l e R s m args below meth c D aC ρ σ aV A H locs cells slots ls Q hX hH hL h1 h2 hr ht) (fun q => kf q p l e R s m args below meth c D aC ρ σ aV A H locs cells slots ls Q hX hH hL h1 h2 hr ht)
theorem xl_if_eq {a : Int32} (d : xl_J M pc (fun o => .ifCond .eq o) pc2 tgt) (kt : a = 0 → xl_W M rc rs tgt L st h Po) (kf : ¬ (a = 0) → xl_W M rc rs pc2 L st h Po) : xl_W M rc rs pc L (.int a :: st) h Po := by
  obtain ⟨off, d, e1, rfl⟩ := d
  exact xl_if (fun hX k1 k2 => lv_if_eq hX.1 hX.2.1 d e1 k1 k2) kt kf
theorem xl_icmp_eq {a b : Int32} (d : xl_J M pc (fun o => .if_icmp .eq o) pc2 tgt) (kt : a = b → xl_W M rc rs tgt L st h Po) (kf : ¬ (a = b) → xl_W M rc rs pc2 L st h Po) : xl_W M rc rs pc L (.int b :: .int a :: st) h Po := by
  obtain ⟨off, d, e1, rfl⟩ := d
  exact xl_if (fun hX k1 k2 => lv_icmp_eq hX.1 hX.2.1 d e1 k1 k2) kt kf
theorem xl_if_ne {a : Int32} (d : xl_J M pc (fun o => .ifCond .ne o) pc2 tgt) (kt : ¬ a = 0 → xl_W M rc rs tgt L st h Po) (kf : a = 0 → xl_W M rc rs pc2 L st h Po) : xl_W M rc rs pc L (.int a :: st) h Po := by
  obtain ⟨off, d, e1, rfl⟩ := d
  exact xl_if (P := ¬ a = 0) (fun hX k1 k2 => lv_if_ne hX.1 hX.2.1 d e1 k1 (fun q => k2 (fun z => z q))) kt (fun q => kf (Classical.not_not.mp q))
theorem xl_icmp_ne {a b : Int32} (d : xl_J M pc (fun o => .if_icmp .ne o) pc2 tgt) (kt : ¬ a = b → xl_W M rc rs tgt L st h Po) (kf : a = b → xl_W M rc rs pc2 L st h Po) : xl_W M rc rs pc L (.int b :: .int a :: st) h Po := by
  obtain ⟨off, d, e1, rfl⟩ := d
  exact xl_if (P := ¬ a = b) (fun hX k1 k2 => lv_icmp_ne hX.1 hX.2.1 d e1 k1 (fun q => k2 (fun z => z q))) kt (fun q => kf (Classical.not_not.mp q))
theorem xl_if_lt {a : Int32} (d : xl_J M pc (fun o => .ifCond .lt o) pc2 tgt) (kt : a < 0 → xl_W M rc rs tgt L st h Po) (kf : ¬ (a < 0) → xl_W M rc rs pc2 L st h Po) : xl_W M rc rs pc L (.int a :: st) h Po := by
  obtain ⟨off, d, e1, rfl⟩ := d
  exact xl_if (fun hX k1 k2 => lv_if_lt hX.1 hX.2.1 d e1 k1 k2) kt kf
theorem xl_icmp_lt {a b : Int32} (d : xl_J M pc (fun o => .if_icmp .lt o) pc2 tgt) (kt : a < b → xl_W M rc rs tgt L st h Po) (kf : ¬ (a < b) → xl_W M rc rs pc2 L st h Po) : xl_W M rc rs pc L (.int b :: .int a :: st) h Po := by
  obtain ⟨off, d, e1, rfl⟩ := d
  exact xl_if (fun hX k1 k2 => lv_icmp_lt hX.1 hX.2.1 d e1 k1 k2) kt kf
theorem xl_if_ge {a : Int32} (d : xl_J M pc (fun o => .ifCond .ge o) pc2 tgt) (kt : 0 ≤ a → xl_W M rc rs tgt L st h Po) (kf : ¬ (0 ≤ a) → xl_W M rc rs pc2 L st h Po) : xl_W M rc rs pc L (.int a :: st) h Po := by
  obtain ⟨off, d, e1, rfl⟩ := d
  exact xl_if (fun hX k1 k2 => lv_if_ge hX.1 hX.2.1 d e1 k1 k2) kt kf
theorem xl_icmp_ge {a b : Int32} (d : xl_J M pc (fun o => .if_icmp .ge o) pc2 tgt) (kt : b ≤ a → xl_W M rc rs tgt L st h Po) (kf : ¬ (b ≤ a) → xl_W M rc rs pc2 L st h Po) : xl_W M rc rs pc L (.int b :: .int a :: st) h Po := by
  obtain ⟨off, d, e1, rfl⟩ := d
  exact xl_if (fun hX k1 k2 => lv_icmp_ge hX.1 hX.2.1 d e1 k1 k2) kt kf
theorem xl_if_gt {a : Int32} (d : xl_J M pc (fun o => .ifCond .gt o) pc2 tgt) (kt : 0 < a → xl_W M rc rs tgt L st h Po) (kf : ¬ (0 < a) → xl_W M rc rs pc2 L st h Po) : xl_W M rc rs pc L (.int a :: st) h Po := by
  obtain ⟨off, d, e1, rfl⟩ := d
  exact xl_if (fun hX k1 k2 => lv_if_gt hX.1 hX.2.1 d e1 k1 k2) kt kf
theorem xl_icmp_gt {a b : Int32} (d : xl_J M pc (fun o => .if_icmp .gt o) pc2 tgt) (kt : b < a → xl_W M rc rs tgt L st h Po) (kf : ¬ (b < a) → xl_W M rc rs pc2 L st h Po) : xl_W M rc rs pc L (.int b :: .int a :: st) h Po := by
  obtain ⟨off, d, e1, rfl⟩ := d
  exact xl_if (fun hX k1 k2 => lv_icmp_gt hX.1 hX.2.1 d e1 k1 k2) kt kf
theorem xl_if_le {a : Int32} (d : xl_J M pc (fun o => .ifCond .le o) pc2 tgt) (kt : a ≤ 0 → xl_W M rc rs tgt L st h Po) (kf : ¬ (a ≤ 0) → xl_W M rc rs pc2 L st h Po) : xl_W M rc rs pc L (.int a :: st) h Po := by
  obtain ⟨off, d, e1, rfl⟩ := d
  exact xl_if (fun hX k1 k2 => lv_if_le hX.1 hX.2.1 d e1 k1 k2) kt kf
theorem xl_icmp_le {a b : Int32} (d : xl_J M pc (fun o => .if_icmp .le o) pc2 tgt) (kt : a ≤ b → xl_W M rc rs tgt L st h Po) (kf : ¬ (a ≤ b) → xl_W M rc rs pc2 L st h Po) : xl_W M rc rs pc L (.int b :: .int a :: st) h Po := by
  obtain ⟨off, d, e1, rfl⟩ := d
  exact xl_if (fun hX k1 k2 => lv_icmp_le hX.1 hX.2.1 d e1 k1 k2) kt kf
/-- loads: by the place -/
theorem xl_gl {v : Value} {i : Nat} (hl : xl_n L i = some (some v)) (f : ∀ {p : Program} {l : Launch} {e : Env} {R : Room} {s : State} {m : MethodId} {args : Array Value} {below : List Frame} {meth : Method} {c : Code} {H : Heap} {locs : List Loc} {cells slots : Nat} {Q : State → Prop} {ls : Array Slot} {ρ σ : Nat → Nat}, xl_X M l p R s m args meth c → ls[i]? = some (.val (xl_v ρ σ v)) → W p l e R s m args below meth c H locs cells slots Q (F0 m pc2 ls (st2.map (xl_v ρ σ))) → W p l e R s m args below meth c H locs cells slots Q (F0 m pc ls (st.map (xl_v ρ σ))))
    (k : xl_W M rc rs pc2 L st2 h Po) : xl_W M rc rs pc L st h Po := by
  intro p l e R s m args below meth c D aC ρ σ aV A H locs cells slots ls Q hX hH hL h1 h2 hr ht
  exact f hX (hL.2.2 i v hl) (k p l e R s m args below meth c D aC ρ σ aV A H locs cells slots ls Q hX hH hL h1 h2 hr ht)
theorem xl_iload {i : Nat} {a : Int32} (d : xl_D M pc (.iload i) 2 pc2) (hl : xl_n L i = some (some (.int a))) (k : xl_W M rc rs pc2 L (.int a :: st) h Po) : xl_W M rc rs pc L st h Po := by
  obtain ⟨d, rfl⟩ := d
  exact xl_gl hl (fun hX hl k => lv_iload hX.1 hX.2.1 d hl k) k
theorem xl_iload_n {i : Fin 4} {a : Int32} (d : xl_D M pc (.iload_n i) 1 pc2) (hl : xl_n L i.val = some (some (.int a))) (k : xl_W M rc rs pc2 L (.int a :: st) h Po) : xl_W M rc rs pc L st h Po := by
  obtain ⟨d, rfl⟩ := d
  exact xl_gl hl (fun hX hl k => lv_iload_n hX.1 hX.2.1 d rfl hl k) k
theorem xl_lload {i : Nat} {a : Int64} (d : xl_D M pc (.lload i) 2 pc2) (hl : xl_n L i = some (some (.long a))) (k : xl_W M rc rs pc2 L (.long a :: st) h Po) : xl_W M rc rs pc L st h Po := by
  obtain ⟨d, rfl⟩ := d
  exact xl_gl hl (fun hX hl k => lv_lload hX.1 hX.2.1 d hl k) k
theorem xl_lload_n {i : Fin 4} {a : Int64} (d : xl_D M pc (.lload_n i) 1 pc2) (hl : xl_n L i.val = some (some (.long a))) (k : xl_W M rc rs pc2 L (.long a :: st) h Po) : xl_W M rc rs pc L st h Po := by
  obtain ⟨d, rfl⟩ := d
  exact xl_gl hl (fun hX hl k => lv_lload_n hX.1 hX.2.1 d rfl hl k) k
theorem xl_aload {i : Nat} {a : Nat} (d : xl_D M pc (.aload i) 2 pc2) (hl : xl_n L i = some (some (.ref a))) (k : xl_W M rc rs pc2 L (.ref a :: st) h Po) : xl_W M rc rs pc L st h Po := by
  obtain ⟨d, rfl⟩ := d
  exact xl_gl hl (fun hX hl k => lv_aload hX.1 hX.2.1 d hl k) k
theorem xl_aload_n {i : Fin 4} {a : Nat} (d : xl_D M pc (.aload_n i) 1 pc2) (hl : xl_n L i.val = some (some (.ref a))) (k : xl_W M rc rs pc2 L (.ref a :: st) h Po) : xl_W M rc rs pc L st h Po := by
  obtain ⟨d, rfl⟩ := d
  exact xl_gl hl (fun hX hl k => lv_aload_n hX.1 hX.2.1 d rfl hl k) k
theorem xl_saload {i : Nat} {a : UInt32} (d : xl_D M pc (.aload i) 2 pc2) (hl : xl_n L i = some (some (.float a))) (k : xl_W M rc rs pc2 L (.float a :: st) h Po) : xl_W M rc rs pc L st h Po := by
  obtain ⟨d, rfl⟩ := d
  exact xl_gl hl (fun hX hl k => lv_aload hX.1 hX.2.1 d hl k) k
theorem xl_saload_n {i : Fin 4} {a : UInt32} (d : xl_D M pc (.aload_n i) 1 pc2) (hl : xl_n L i.val = some (some (.float a))) (k : xl_W M rc rs pc2 L (.float a :: st) h Po) : xl_W M rc rs pc L st h Po := by
  obtain ⟨d, rfl⟩ := d
  exact xl_gl hl (fun hX hl k => lv_aload_n hX.1 hX.2.1 d rfl hl k) k
/-- the places of a list of locals, as the kit's rows have them -/
def xl_p (ρ σ : Nat → Nat) (L : List (Option Value)) : List (Nat × Value) := (List.range L.length).filterMap (fun i => match xl_n L i with
  | some (some v) => some (i, xl_v ρ σ v)
  | _ => none)
theorem xl_p_mem {ρ σ : Nat → Nat} {L : List (Option Value)} {i : Nat} {w : Value} : (i, w) ∈ xl_p ρ σ L ↔ ∃ v, xl_n L i = some (some v) ∧ w = xl_v ρ σ v := by
  unfold xl_p
  rw [List.mem_filterMap]
  constructor
  · rintro ⟨j, -, hj⟩
    split at hj
    · next v hv => cases hj; exact ⟨v, hv, rfl⟩
    · cases hj
  · rintro ⟨v, hv, rfl⟩
    refine ⟨i, ?_, by rw [hv]⟩
    rw [List.mem_range]
    rw [xl_n_eq] at hv
    exact (List.getElem?_eq_some_iff.mp hv).1
theorem xl_L.has {ρ σ : Nat → Nat} {n : Nat} {ls : Array Slot} (hL : xl_L ρ σ n ls L) : lv_has ls n (xl_p ρ σ L) :=
  ⟨hL.1, hL.2.1, fun q hq => by
    obtain ⟨v, e1, e2⟩ := xl_p_mem.mp (show (q.1, q.2) ∈ xl_p ρ σ L from hq)
    rw [e2]
    exact hL.2.2 _ _ e1⟩
theorem xl_n_s {α : Type} : ∀ {l : List α} {k j : Nat} {b c : α}, xl_n (xl_s l k b) j = some c → (j = k ∧ c = b) ∨ (j ≠ k ∧ xl_n l j = some c)
  | [], k, j, b, c, e => by simp [xl_s, xl_n] at e
  | a :: l, 0, 0, b, c, e => Or.inl ⟨rfl, by simpa [xl_s, xl_n] using e.symm⟩
  | a :: l, 0, j + 1, b, c, e => Or.inr ⟨by omega, by simpa [xl_s, xl_n] using e⟩
  | a :: l, k + 1, 0, b, c, e => Or.inr ⟨by omega, by simpa [xl_s, xl_n] using e⟩
  | a :: l, k + 1, j + 1, b, c, e => by
    rcases xl_n_s (l := l) (k := k) (j := j) (b := b) (c := c) (by simpa [xl_s, xl_n] using e) with ⟨e1, e2⟩ | ⟨e1, e2⟩
    · exact Or.inl ⟨by omega, e2⟩
    · exact Or.inr ⟨by omega, by simpa [xl_n] using e2⟩
/-- no value of two words ends at a place -/
def xl_k : List (Option Value) → Nat → Bool
  | [], _ => true
  | _, 0 => true
  | a :: _, 1 => match a with
    | some v => xl_1 v
    | none => true
  | _ :: l, k + 2 => xl_k l (k + 1)
theorem xl_k_of : ∀ {L : List (Option Value)} {k : Nat} {v : Value}, xl_k L (k + 1) = true → xl_n L k = some (some v) → xl_1 v = true
  | [], k, v, h1, h2 => by simp [xl_n] at h2
  | a :: l, 0, v, h1, h2 => by
    simp [xl_n] at h2
    subst h2
    simpa [xl_k] using h1
  | a :: l, k + 1, v, h1, h2 => xl_k_of (L := l) (k := k) (by simpa [xl_k] using h1) (by simpa [xl_n] using h2)
theorem xl_1n {v : Value} {ρ σ : Nat → Nat} (h : xl_1 v = true) : ¬ (xl_v ρ σ v).category = 2 := by rw [xl_1c h]; decide
theorem xl_L.put {ρ σ : Nat → Nat} {n i : Nat} {ls : Array Slot} {v : Value} (hk : xl_k L i = true) (h1 : lv_has ls n ((i, xl_v ρ σ v) :: (xl_p ρ σ L).filter (fun q => !(q.1 == i) && !(q.1 + 1 == i && q.2.category == 2)))) : xl_L ρ σ n ls (xl_s L i (some v)) := by
  refine ⟨h1.1, h1.2.1, fun j w hw => ?_⟩
  rcases xl_n_s hw with ⟨rfl, e2⟩ | ⟨e1, e2⟩
  · cases e2
    exact h1.2.2 (_, xl_v ρ σ v) List.mem_cons_self
  · refine h1.2.2 (j, xl_v ρ σ w) (List.mem_cons_of_mem _ (List.mem_filter.mpr ⟨xl_p_mem.mpr ⟨w, e2, rfl⟩, ?_⟩))
    simp only [Bool.and_eq_true, Bool.not_eq_true', beq_eq_false_iff_ne, Bool.and_eq_false_iff, ne_eq]
    refine ⟨e1, ?_⟩
    by_cases hj : j + 1 = i
    · subst hj
      exact Or.inr (xl_1n (xl_k_of hk e2))
    · exact Or.inl hj
theorem xl_gs {v : Value} {i : Nat} (hk : xl_k L i = true) (hn : i < M.2.2.1) (f : ∀ {p : Program} {l : Launch} {e : Env} {R : Room} {s : State} {m : MethodId} {args : Array Value} {below : List Frame} {meth : Method} {c : Code} {H : Heap} {locs : List Loc} {cells slots : Nat} {Q : State → Prop} {ls : Array Slot} {ρ σ : Nat → Nat} {lv : List (Nat × Value)}, xl_X M l p R s m args meth c → lv_has ls M.2.2.1 lv → (∀ ls' : Array Slot, lv_has ls' M.2.2.1 ((i, xl_v ρ σ v) :: lv.filter (fun q => !(q.1 == i) && !(q.1 + 1 == i && q.2.category == 2))) → W p l e R s m args below meth c H locs cells slots Q (F0 m pc2 ls' (st2.map (xl_v ρ σ)))) → W p l e R s m args below meth c H locs cells slots Q (F0 m pc ls (st.map (xl_v ρ σ))))
    (k : xl_W M rc rs pc2 (xl_s L i (some v)) st2 h Po) : xl_W M rc rs pc L st h Po := by
  intro p l e R s m args below meth c D aC ρ σ aV A H locs cells slots ls Q hX hH hL h1 h2 hr ht
  exact f hX hL.has (fun ls' hl => k p l e R s m args below meth c D aC ρ σ aV A H locs cells slots ls' Q hX hH (xl_L.put hk hl) h1 h2 hr ht)
theorem xl_istore {i : Nat} {a : Int32} (d : xl_D M pc (.istore i) 2 pc2) (hk : xl_k L i = true) (hn : i < M.2.2.1) (k : xl_W M rc rs pc2 (xl_s L i (some (.int a))) st h Po) : xl_W M rc rs pc L (.int a :: st) h Po := by
  obtain ⟨d, rfl⟩ := d
  exact xl_gs (v := .int a) hk hn (fun hX hl k => lv_istore hX.1 hX.2.1 d hl hn rfl k) k
theorem xl_istore_n {i : Fin 4} {a : Int32} (d : xl_D M pc (.istore_n i) 1 pc2) (hk : xl_k L i.val = true) (hn : i.val < M.2.2.1) (k : xl_W M rc rs pc2 (xl_s L i.val (some (.int a))) st h Po) : xl_W M rc rs pc L (.int a :: st) h Po := by
  obtain ⟨d, rfl⟩ := d
  exact xl_gs (v := .int a) hk hn (fun hX hl k => lv_istore_n hX.1 hX.2.1 d rfl hl hn rfl k) k
theorem xl_astore {i : Nat} {a : Nat} (d : xl_D M pc (.astore i) 2 pc2) (hk : xl_k L i = true) (hn : i < M.2.2.1) (k : xl_W M rc rs pc2 (xl_s L i (some (.ref a))) st h Po) : xl_W M rc rs pc L (.ref a :: st) h Po := by
  obtain ⟨d, rfl⟩ := d
  exact xl_gs (v := .ref a) hk hn (fun hX hl k => lv_astore hX.1 hX.2.1 d hl hn rfl k) k
theorem xl_astore_n {i : Fin 4} {a : Nat} (d : xl_D M pc (.astore_n i) 1 pc2) (hk : xl_k L i.val = true) (hn : i.val < M.2.2.1) (k : xl_W M rc rs pc2 (xl_s L i.val (some (.ref a))) st h Po) : xl_W M rc rs pc L (.ref a :: st) h Po := by
  obtain ⟨d, rfl⟩ := d
  exact xl_gs (v := .ref a) hk hn (fun hX hl k => lv_astore_n hX.1 hX.2.1 d rfl hl hn rfl k) k
theorem xl_sastore {i : Nat} {a : UInt32} (d : xl_D M pc (.astore i) 2 pc2) (hk : xl_k L i = true) (hn : i < M.2.2.1) (k : xl_W M rc rs pc2 (xl_s L i (some (.float a))) st h Po) : xl_W M rc rs pc L (.float a :: st) h Po := by
  obtain ⟨d, rfl⟩ := d
  exact xl_gs (v := .float a) hk hn (fun hX hl k => lv_astore hX.1 hX.2.1 d hl hn rfl k) k
theorem xl_sastore_n {i : Fin 4} {a : UInt32} (d : xl_D M pc (.astore_n i) 1 pc2) (hk : xl_k L i.val = true) (hn : i.val < M.2.2.1) (k : xl_W M rc rs pc2 (xl_s L i.val (some (.float a))) st h Po) : xl_W M rc rs pc L (.float a :: st) h Po := by
  obtain ⟨d, rfl⟩ := d
  exact xl_gs (v := .float a) hk hn (fun hX hl k => lv_astore_n hX.1 hX.2.1 d rfl hl hn rfl k) k
theorem xl_iinc {i : Nat} {n : Int} {a : Int32} (d : xl_D M pc (.iinc i n) 3 pc2) (hl : xl_n L i = some (some (.int a))) (hk : xl_k L i = true) (hn : i < M.2.2.1) (k : xl_W M rc rs pc2 (xl_s L i (some (.int (a + Int32.ofInt n)))) st h Po) : xl_W M rc rs pc L st h Po := by
  obtain ⟨d, rfl⟩ := d
  intro p l e R s m args below meth c D aC ρ σ aV A H locs cells slots ls Q hX hH hL h1 h2 hr ht
  obtain ⟨q, hq⟩ := List.getElem?_of_mem (xl_p_mem.mpr ⟨_, hl, rfl⟩ : (i, xl_v ρ σ (.int a)) ∈ xl_p ρ σ L)
  exact lv_iinc hX.1 hX.2.1 d hL.has hq rfl hn rfl (fun ls' hl => k p l e R s m args below meth c D aC ρ σ aV A H locs cells slots ls' Q hX hH (xl_L.put (v := .int (a + Int32.ofInt n)) hk hl) h1 h2 hr ht)
/-- a method's end -/
theorem xl_ret {v : Option Value} (hP : Po (some v) h) (d : xl_R M pc v) : xl_W M rc rs pc L v.toList h Po := by
  intro p l e R s m args below meth c D aC ρ σ aV A H locs cells slots ls Q hX hH hL h1 h2 hr ht
  exact hr v h H locs pc cells slots ls hP hH d (by omega) (by omega)
theorem xl_thr (hP : Po none h) (d : xl_Y M pc) : xl_W M (rc + 1) (rs + 6) pc L [] h Po := by
  intro p l e R s m args below meth c D aC ρ σ aV A H locs cells slots ls Q hX hH hL h1 h2 hr ht
  exact ht h H locs pc cells slots ls hP hH d (by omega) (by omega) hL.1
theorem xl_ireturn {a : Int32} (d : xl_D M pc .ireturn 1 pc2) (hr : M.2.2.2.1 = some .int) (hP : Po (some (some (.int a))) h) : xl_W M rc rs pc L [.int a] h Po :=
  xl_ret (v := some (.int a)) hP ⟨⟨.int, hr, rfl⟩, d.1⟩
theorem xl_zreturn {a : Int32} (d : xl_D M pc .ireturn 1 pc2) (hr : M.2.2.2.1 = some .boolean) (h01 : a = 0 ∨ a = 1) (hP : Po (some (some (.int a))) h) : xl_W M rc rs pc L [.int a] h Po :=
  xl_ret (v := some (.int a)) hP ⟨⟨.boolean, hr, by rcases h01 with rfl | rfl <;> decide⟩, d.1⟩
theorem xl_lreturn {a : Int64} (d : xl_D M pc .lreturn 1 pc2) (hr : M.2.2.2.1 = some .long) (hP : Po (some (some (.long a))) h) : xl_W M rc rs pc L [.long a] h Po :=
  xl_ret (v := some (.long a)) hP ⟨hr, d.1⟩
theorem xl_sreturn {a : UInt32} {n : String} (d : xl_D M pc .areturn 1 pc2) (hr : M.2.2.2.1 = some (.object n)) (hP : Po (some (some (.float a))) h) : xl_W M rc rs pc L [.float a] h Po :=
  xl_ret (v := some (.float a)) hP ⟨⟨n, hr⟩, d.1⟩
theorem xl_return (d : xl_D M pc .return_ 1 pc2) (hr : M.2.2.2.1 = none) (hP : Po (some none) h) : xl_W M rc rs pc L [] h Po :=
  xl_ret (v := none) hP ⟨hr, d.1⟩
/-- fields: class number, field number -/
def xl_F (own : String) (i ci k : Nat) : Prop := ∃ (C : String) (T : u_T) (N : Nat), vwCl[ci]? = some (C, T, N) ∧ k < N ∧ (∀ w ∈ u_ws C T N, w ∈ xl_T) ∧ Cond.fieldLink own i (T k).1 (T k).2.1 (T k).2.2.1 ∈ xl_T
def xl_Fp (own : String) (i ci k : Nat) (ty : FieldType) : Prop := ∃ (C : String) (T : u_T) (N : Nat) (ty0 : Nat → FieldType), vwCl[ci]? = some (C, T, N) ∧ k < N ∧ (∀ w ∈ u_ws C T N, w ∈ xl_T) ∧ Cond.fieldLink own i (T k).1 (T k).2.1 (T k).2.2.1 ∈ xl_T ∧ (∀ k, k < N → parseFieldDescriptor (T k).2.2.1 = some (ty0 k)) ∧ (∀ a, a < N → ∀ b, b < N → a ≠ b → (T a).2.1 ≠ (T b).2.1) ∧ (T k).2.2.2 = false ∧ parseFieldDescriptor (T k).2.2.1 = some ty
def xl_G (M : XI) (pc ci k pc2 : Nat) : Prop := ∃ i, decode M.2.1 pc = .ok (.getfield i, 3) ∧ pc + 3 = pc2 ∧ xl_F M.1.cls i ci k
def xl_P (M : XI) (pc ci k : Nat) (ty : FieldType) (pc2 : Nat) : Prop := ∃ i, decode M.2.1 pc = .ok (.putfield i, 3) ∧ pc + 3 = pc2 ∧ xl_Fp M.1.cls i ci k ty
/-- a value out of a cell at a place -/
def xl_o (r : Nat) : Value → Value := fun v => match v with
  | .ref d => .ref (r + d)
  | .int a => .int a
  | .long a => .long a
  | .float a => .float a
  | .double a => .double a
  | .null => .null
  | .retAddr a => .retAddr a
theorem xl_o_v {ρ σ : Nat → Nat} {r : Nat} {v : Value} : xl_v ρ σ (xl_o r v) = xl_v (fun d => ρ (r + d)) σ v := by cases v <;> rfl
theorem xl_get {ci k r : Nat} {fs : List Value} {v : Value} (d : xl_G M pc ci k pc2) (hh : xl_n h r = some (.inr (ci, fs))) (hf : xl_n fs k = some v) (kk : xl_W M rc rs pc2 L (xl_o r v :: st) h Po) : xl_W M rc rs pc L (.ref r :: st) h Po := by
  obtain ⟨i, d, rfl, C, T, N, e1, e2, e3, e4⟩ := d
  intro p l e R s m args below meth c D aC ρ σ aV A H locs cells slots ls Q hX hH hL h1 h2 hr ht
  obtain ⟨hK, hP, hD, hS, hE, hA⟩ := id hH
  rw [xl_n_eq] at hh hf
  have hv : (fs.map (xl_v (fun d => ρ (r + d)) σ))[k]? = some (xl_v (fun d => ρ (r + d)) σ v) := by rw [List.getElem?_map, hf]; rfl
  refine va_get hX.1 hX.2.1 hX.2.2.2.2.2.1 e3 hX.2.2.2.2.1 hK hP r (xl_w_of hh) e1 k e2 (hX.2.2.2.2.2.1 _ e4) (fun _ h9 => h9) hv d ?_
  rw [← xl_o_v]
  exact kk p l e R s m args below meth c D aC ρ σ aV A H locs cells slots ls Q hX hH hL h1 h2 hr ht
theorem xl_put {ci k r : Nat} {fs : List Value} {a : Int32} (d : xl_P M pc ci k .int pc2) (hh : xl_n h r = some (.inr (ci, fs))) (hf : k < fs.length) (kk : xl_W M rc rs pc2 L st (xl_s h r (.inr (ci, xl_s fs k (.int a)))) Po) : xl_W M rc rs pc L (.int a :: .ref r :: st) h Po := by
  obtain ⟨i, d, rfl, C, T, N, ty0, e1, e2, e3, e4, e5, e6, e7, e8⟩ := d
  intro p l e R s m args below meth c D aC ρ σ aV A H locs cells slots ls Q hX hH hL h1 h2 hr ht
  obtain ⟨hK, hP, hD, hS, hE, hA⟩ := id hH
  rw [xl_n_eq] at hh
  refine va_put hX.1 hX.2.1 hX.2.2.2.2.2.1 e3 ty0 e5 e6 hX.2.2.2.2.1 hK hP hD hS r (xl_w_of hh) e1 k e2 (hX.2.2.2.2.2.1 _ e4) (fun _ h9 => h9) e7 e8 (v := .int a) rfl rfl (by rw [List.length_map]; exact hf) d (fun H1 locs1 hP1 hD1 hS1 => ?_)
  have ew : (xl_w aC ρ σ h).set r (ρ r, Sum.inr (ci, (fs.map (xl_v (fun d => ρ (r + d)) σ)).set k (.int a))) = xl_w aC ρ σ (xl_s h r (.inr (ci, xl_s fs k (.int a)))) := by
    rw [xl_s_eq, xl_s_eq, ← xl_w_set]
    show _ = (xl_w aC ρ σ h).set r (ρ r, Sum.inr (ci, (fs.set k (.int a)).map (xl_v (fun d => ρ (r + d)) σ)))
    rw [List.map_set]
    rfl
  rw [ew] at hP1 hD1
  exact kk p l e R s m args below meth c D aC ρ σ aV A H1 locs1 cells slots ls Q hX ⟨hK, hP1, hD1, hS1, hE, hA⟩ hL h1 h2 hr ht
/-- arrays -/
theorem xl_iald {r n : Nat} {f : Nat → Int32} {i : Int32} (d : xl_D M pc .iaload 1 pc2) (hh : xl_n h r = some (.inl (0, n, .inl f))) (hin : vp_in i n) (kk : xl_W M rc rs pc2 L (.int (f i.toNatClampNeg) :: st) h Po) : xl_W M rc rs pc L (.int i :: .ref r :: st) h Po := by
  obtain ⟨d, rfl⟩ := d
  intro p l e R s m args below meth c D aC ρ σ aV A H locs cells slots ls Q hX hH hL h1 h2 hr ht
  obtain ⟨hK, hP, hD, hS, hE, hA⟩ := id hH
  rw [xl_n_eq] at hh
  exact va_iald hX.1 hX.2.1 hK hP r 0 (xl_w_of hh) rfl hin d (kk p l e R s m args below meth c D aC ρ σ aV A H locs cells slots ls Q hX hH hL h1 h2 hr ht)
theorem xl_lald {r n : Nat} {f : Nat → Int64} {i : Int32} (d : xl_D M pc .laload 1 pc2) (hh : xl_n h r = some (.inl (1, n, .inr (.inl f)))) (hin : vp_in i n) (kk : xl_W M rc rs pc2 L (.long (f i.toNatClampNeg) :: st) h Po) : xl_W M rc rs pc L (.int i :: .ref r :: st) h Po := by
  obtain ⟨d, rfl⟩ := d
  intro p l e R s m args below meth c D aC ρ σ aV A H locs cells slots ls Q hX hH hL h1 h2 hr ht
  obtain ⟨hK, hP, hD, hS, hE, hA⟩ := id hH
  rw [xl_n_eq] at hh
  exact va_lald hX.1 hX.2.1 hK hP r 1 (xl_w_of hh) rfl hin d (kk p l e R s m args below meth c D aC ρ σ aV A H locs cells slots ls Q hX hH hL h1 h2 hr ht)
theorem xl_zald {r n : Nat} {f : Nat → Int32} {i : Int32} (d : xl_D M pc .baload 1 pc2) (hh : xl_n h r = some (.inl (2, n, .inl f))) (hin : vp_in i n) (kk : xl_W M rc rs pc2 L (.int (f i.toNatClampNeg) :: st) h Po) : xl_W M rc rs pc L (.int i :: .ref r :: st) h Po := by
  obtain ⟨d, rfl⟩ := d
  intro p l e R s m args below meth c D aC ρ σ aV A H locs cells slots ls Q hX hH hL h1 h2 hr ht
  obtain ⟨hK, hP, hD, hS, hE, hA⟩ := id hH
  rw [xl_n_eq] at hh
  exact va_zald hX.1 hX.2.1 hK hP r 2 (xl_w_of hh) rfl hin d (kk p l e R s m args below meth c D aC ρ σ aV A H locs cells slots ls Q hX hH hL h1 h2 hr ht)
theorem xl_aald {r n q : Nat} {f : Nat → Option Nat} {i : Int32} (d : xl_D M pc .aaload 1 pc2) (hh : xl_n h r = some (.inl (3, n, .inr (.inr (.inr (.inr f)))))) (hin : vp_in i n) (hq : f i.toNatClampNeg = some q) (kk : xl_W M rc rs pc2 L (.ref (r + q) :: st) h Po) : xl_W M rc rs pc L (.int i :: .ref r :: st) h Po := by
  obtain ⟨d, rfl⟩ := d
  intro p l e R s m args below meth c D aC ρ σ aV A H locs cells slots ls Q hX hH hL h1 h2 hr ht
  obtain ⟨hK, hP, hD, hS, hE, hA⟩ := id hH
  rw [xl_n_eq] at hh
  refine va_aldq hX.1 hX.2.1 hK hP r 3 (xl_w_of hh) rfl hin d ?_
  rw [show va_rf ((f i.toNatClampNeg).map (fun d => ρ (r + d))) = .ref (ρ (r + q)) by rw [hq]; rfl]
  exact kk p l e R s m args below meth c D aC ρ σ aV A H locs cells slots ls Q hX hH hL h1 h2 hr ht
theorem xl_alen {r n : Nat} {t : Nat} {a : (Nat → Int32) ⊕ (Nat → Int64) ⊕ (Nat → UInt32) ⊕ (Nat → UInt64) ⊕ (Nat → Option Nat)} (d : xl_D M pc .arraylength 1 pc2) (hh : xl_n h r = some (.inl (t, n, a))) (ht4 : t < 4) (kk : xl_W M rc rs pc2 L (.int (nI n) :: st) h Po) : xl_W M rc rs pc L (.ref r :: st) h Po := by
  obtain ⟨d, rfl⟩ := d
  intro p l e R s m args below meth c D aC ρ σ aV A H locs cells slots ls Q hX hH hL h1 h2 hr ht
  obtain ⟨hK, hP, hD, hS, hE, hA⟩ := id hH
  rw [xl_n_eq] at hh
  have kk := kk p l e R s m args below meth c D aC ρ σ aV A H locs cells slots ls Q hX hH hL h1 h2 hr ht
  match t, ht4, hh with
  | 0, _, hh => exact va_alen hX.1 hX.2.1 hK hP r 0 (xl_w_of hh) rfl rfl d kk
  | 1, _, hh => exact va_alen hX.1 hX.2.1 hK hP r 1 (xl_w_of hh) rfl rfl d kk
  | 2, _, hh => exact va_alen hX.1 hX.2.1 hK hP r 2 (xl_w_of hh) rfl rfl d kk
  | 3, _, hh => exact va_alen hX.1 hX.2.1 hK hP r 3 (xl_w_of hh) rfl rfl d kk
theorem xl_iast {r n : Nat} {f : Nat → Int32} {i a : Int32} (d : xl_D M pc .iastore 1 pc2) (hh : xl_n h r = some (.inl (0, n, .inl f))) (hin : vp_in i n) (kk : xl_W M rc rs pc2 L st (xl_s h r (.inl (0, n, .inl (upd f i.toNatClampNeg a)))) Po) : xl_W M rc rs pc L (.int a :: .int i :: .ref r :: st) h Po := by
  obtain ⟨d, rfl⟩ := d
  intro p l e R s m args below meth c D aC ρ σ aV A H locs cells slots ls Q hX hH hL h1 h2 hr ht
  obtain ⟨hK, hP, hD, hS, hE, hA⟩ := id hH
  rw [xl_n_eq] at hh
  refine va_iast hX.1 hX.2.1 hK hP hD hS r 0 (xl_w_of hh) rfl hin d (fun H1 locs1 hP1 hD1 hS1 => ?_)
  exact kk p l e R s m args below meth c D aC ρ σ aV A H1 locs1 cells slots ls Q hX ⟨hK, by rw [xl_w_s]; exact hP1, by rw [xl_w_s]; exact hD1, hS1, hE, hA⟩ hL h1 h2 hr ht
theorem xl_last {r n : Nat} {f : Nat → Int64} {i : Int32} {a : Int64} (d : xl_D M pc .lastore 1 pc2) (hh : xl_n h r = some (.inl (1, n, .inr (.inl f)))) (hin : vp_in i n) (kk : xl_W M rc rs pc2 L st (xl_s h r (.inl (1, n, .inr (.inl (vp_updL f i.toNatClampNeg a))))) Po) : xl_W M rc rs pc L (.long a :: .int i :: .ref r :: st) h Po := by
  obtain ⟨d, rfl⟩ := d
  intro p l e R s m args below meth c D aC ρ σ aV A H locs cells slots ls Q hX hH hL h1 h2 hr ht
  obtain ⟨hK, hP, hD, hS, hE, hA⟩ := id hH
  rw [xl_n_eq] at hh
  refine va_last hX.1 hX.2.1 hK hP hD hS r 1 (xl_w_of hh) rfl hin d (fun H1 locs1 hP1 hD1 hS1 => ?_)
  exact kk p l e R s m args below meth c D aC ρ σ aV A H1 locs1 cells slots ls Q hX ⟨hK, by rw [xl_w_s]; exact hP1, by rw [xl_w_s]; exact hD1, hS1, hE, hA⟩ hL h1 h2 hr ht
theorem xl_zast {r n : Nat} {f : Nat → Int32} {i a : Int32} (d : xl_D M pc .bastore 1 pc2) (hh : xl_n h r = some (.inl (2, n, .inl f))) (hin : vp_in i n) (kk : xl_W M rc rs pc2 L st (xl_s h r (.inl (2, n, .inl (upd f i.toNatClampNeg (vp_nar .boolean a))))) Po) : xl_W M rc rs pc L (.int a :: .int i :: .ref r :: st) h Po := by
  obtain ⟨d, rfl⟩ := d
  intro p l e R s m args below meth c D aC ρ σ aV A H locs cells slots ls Q hX hH hL h1 h2 hr ht
  obtain ⟨hK, hP, hD, hS, hE, hA⟩ := id hH
  rw [xl_n_eq] at hh
  refine va_zast hX.1 hX.2.1 hK hP hD hS r 2 (xl_w_of hh) rfl hin d (fun H1 locs1 hP1 hD1 hS1 => ?_)
  exact kk p l e R s m args below meth c D aC ρ σ aV A H1 locs1 cells slots ls Q hX ⟨hK, by rw [xl_w_s]; exact hP1, by rw [xl_w_s]; exact hD1, hS1, hE, hA⟩ hL h1 h2 hr ht
/-- contracts -/
def xl_ws (μ : XI) : List Cond := .code μ.1 μ.2.1 μ.2.2.1 μ.2.2.2.1 :: xl_T
def xl_rm (μ : XI) (mc ms : Nat) : Room := { frames := μ.2.2.2.2.1, cells := mc, slots := ms, locals := μ.2.2.2.2.2.1 }
def xl_Pc (D : va_G) (aC : Nat → ClassId) (ρ σ aV : Nat → Nat) (sz : Nat) (As : List Value) (h : XH) : Array Value → State → Prop :=
  va_Pc (As.map (xl_v ρ σ)) (fun U => U.heap.size = sz ∧ va_P D vwCl (xl_w aC ρ σ h) U.heap ∧ va_K D vwCl (xl_ty aC) U ∧ va_D (fun _ => True) (xl_w aC ρ σ h) ∧ xl_S σ aV (va_A (xl_w aC ρ σ h) sz) U U.heap)
def xl_Qc (D : va_G) (aC : Nat → ClassId) (ρ σ : Nat → Nat) (A : Nat → Prop) (Po : Option Value → XH → Prop) : Array Value → State → Outcome → State → Prop := fun _ st oc t =>
  (∃ (v : Option Value) (h' : XH), oc = .returned (v.map (xl_v ρ σ)) ∧ Po v h' ∧ va_P D vwCl (xl_w aC ρ σ h') t.heap ∧ va_K D vwCl (xl_ty aC) t ∧ va_D A (xl_w aC ρ σ h')) ∧ va_F A st t
def xl_C (μ : XI) (mc ms : Nat) (As : List Value) (h : XH) (Po : Option Value → XH → Prop) : Prop :=
  ∀ (l : Launch), l.flags = flags0 → ∀ (D : va_G) (aC : Nat → ClassId) (ρ σ aV : Nat → Nat) (sz : Nat), Met l μ.1 (xl_ws μ) (xl_rm μ mc ms) (xl_Pc D aC ρ σ aV sz As h) (xl_Qc D aC ρ σ (va_A (xl_w aC ρ σ h) sz) Po) mc ms (va_A (xl_w aC ρ σ h) sz)
/-- what the tables say of a method -/
def xl_K (μ : XI) : Prop := plainName μ.1.cls = true ∧ Cond.code μ.1 μ.2.1 μ.2.2.1 μ.2.2.2.1 ∈ xl_T ∧ Cond.initialized μ.1.cls ∈ xl_T ∧ μ.1.cls ≠ "java/lang/invoke/MethodHandle" ∧ μ.1.cls ≠ "java/lang/invoke/VarHandle" ∧ (parseMethodDescriptor μ.1.desc).map (fun d => d.parameters.length) = some μ.2.2.2.2.2.2
def xl_V (μ : XI) : Prop := xl_K μ ∧ Cond.instanceMethod μ.1 ∈ xl_T ∧ Cond.selects μ.1.cls μ.1 μ.1 ∈ xl_T
def xl_U (μ : XI) : Prop := xl_K μ ∧ Cond.static μ.1 ∈ xl_T
/-- the locals at the entry -/
def xl_e : List Value → Nat → List (Option Value)
  | [], n => List.replicate n none
  | v :: vs, n => if xl_1 v = true then some v :: xl_e vs (n - 1) else some v :: none :: xl_e vs (n - 2)
def xl_z : List Value → Nat
  | [] => 0
  | v :: vs => (if xl_1 v = true then 1 else 2) + xl_z vs
theorem xl_1d {v : Value} {ρ σ : Nat → Nat} (h : ¬ xl_1 v = true) : (xl_v ρ σ v).category = 2 := by
  cases v <;> first | rfl | exact absurd rfl h
theorem xl_z_eq {ρ σ : Nat → Nat} : ∀ (As : List Value), (lg_sl (As.map (xl_v ρ σ))).length = xl_z As
  | [] => rfl
  | v :: vs => by
    have ih := xl_z_eq (ρ := ρ) (σ := σ) vs
    by_cases hv : xl_1 v = true
    · have hc := xl_1c (ρ := ρ) (σ := σ) hv
      simp only [lg_sl, List.map_cons, List.flatMap_cons, List.length_append] at ih ⊢
      rw [ih]
      simp [xl_z, hv, hc]
    · have hc := xl_1d (ρ := ρ) (σ := σ) hv
      simp only [lg_sl, List.map_cons, List.flatMap_cons, List.length_append] at ih ⊢
      rw [ih]
      simp [xl_z, hv, hc]
theorem xl_e_in {ρ σ : Nat → Nat} : ∀ (As : List Value) (n b i : Nat) (v : Value), xl_n (xl_e As n) i = some (some v) → (b + i, xl_v ρ σ v) ∈ lv_args b (As.map (xl_v ρ σ))
  | [], n, b, i, v, e => by
    rw [xl_n_eq, xl_e, List.getElem?_replicate] at e
    split at e <;> simp at e
  | w :: vs, n, b, i, v, e => by
    by_cases hv : xl_1 w = true
    · have hc := xl_1c (ρ := ρ) (σ := σ) hv
      rw [xl_e, if_pos hv] at e
      simp only [List.map_cons, lv_args]
      cases i with
      | zero =>
        simp [xl_n] at e
        subst e
        exact List.mem_cons_self
      | succ i =>
        have := xl_e_in (ρ := ρ) (σ := σ) vs (n - 1) (b + 1) i v (by simpa [xl_n] using e)
        rw [if_neg (by rw [hc]; decide)]
        refine List.mem_cons_of_mem _ ?_
        rw [show b + (i + 1) = b + 1 + i by omega]
        exact this
    · have hc := xl_1d (ρ := ρ) (σ := σ) hv
      rw [xl_e, if_neg hv] at e
      simp only [List.map_cons, lv_args]
      match i, e with
      | 0, e =>
        simp [xl_n] at e
        subst e
        exact List.mem_cons_self
      | 1, e => simp [xl_n] at e
      | i + 2, e =>
        have := xl_e_in (ρ := ρ) (σ := σ) vs (n - 2) (b + 2) i v (by simpa [xl_n] using e)
        rw [if_pos hc]
        refine List.mem_cons_of_mem _ ?_
        rw [show b + (i + 2) = b + 2 + i by omega]
        exact this
end XL
section XC
variable {μ : XI} {mc ms : Nat} {As : List Value} {h : XH} {Po : Option Value → XH → Prop}
/-- a contract out of the walk of its body -/
theorem xl_con (hk : xl_K μ) (L0 : List (Option Value)) (he : xl_e As μ.2.2.1 = L0) (hz : xl_z As ≤ μ.2.2.1) (hW : xl_W μ mc ms 0 L0 [] h (fun v h' => ∃ w, v = some w ∧ Po w h')) : xl_C μ mc ms As h Po := by
  intro l hl D aC ρ σ aV sz
  refine Met.ofW (cc := μ.2.1) (maxL := μ.2.2.1) (ret := μ.2.2.2.1) hk.1 rfl ?_
  intro p e s m args below meth c s₁ B hml hv
  obtain ⟨rfl, hsz, hP, hK, hD0, hE⟩ := hv
  have hts := atoms_spec (ws := xl_ws μ) B.pre
  have hown : s.vm.findClass μ.1.cls = some m.cls := findClass_of_methodNamed B.named
  have hlocks := B.notSynchronized
  subst hsz
  have hD := hD0.self (sz := s.heap.size)
  generalize hAe : va_A (xl_w aC ρ σ h) s.heap.size = A at hD hE ⊢
  have hA : ∀ q : Nat, s.heap.size ≤ q → A q := fun q h => by rw [← hAe]; exact Or.inr h
  have hS : va_S A s.heap s.heap [] := va_S.rf
  have hl0 := lv_entry (As.map (xl_v ρ σ)) (n := μ.2.2.1) (by rw [xl_z_eq]; exact hz)
  rw [lg_entry_eq]
  refine hW p l e _ s m _ below meth c D aC ρ σ aV A s.heap [] 0 0 _ _ ⟨B.exec, B.bytes, B.returns, hml, hown, fun w hw => hts w (List.mem_cons_of_mem _ hw), hlocks, Nat.le_refl _, Nat.le_refl _, hl⟩ ⟨hK, hP, hD, hS, hE, hA⟩ ⟨hl0.1, hl0.2.1, fun i v hi => ?_⟩ (by show 0 + mc ≤ mc; omega) (by show 0 + ms ≤ ms; omega) ?_ ?_
  · rw [← he] at hi
    have := xl_e_in (ρ := ρ) (σ := σ) As μ.2.2.1 0 i v hi
    rw [Nat.zero_add] at this
    exact hl0.2.2 _ this
  · intro v h' H' locs' pc' cells' slots' ls' hPo hH' hR hc1 hc2
    obtain ⟨w, ew, hPo⟩ := hPo
    cases ew
    obtain ⟨hK', hP', hD', hS', hE', hA'⟩ := hH'
    refine W.widen (k := mc) (n := ms) (by omega) (by omega) ?_
    have fin : ∀ t : State, t.heap = H' → s.WarmedH t.vm → xl_Qc D aC ρ σ A Po (As.map (xl_v ρ σ)).toArray s (.returned (v.map (xl_v ρ σ))) t := fun t ht hW => ⟨⟨v, h', rfl, hPo, by rw [ht]; exact hP', va_K.moved hW.alike hK', hD'⟩, hS'.F ht⟩
    match v, hR, fin with
    | none, hR, fin => exact W.vret B.exec B.bytes (B.returns.trans hR.1) fin hS'.2.2 hR.2 hlocks
    | some (.int a), hR, fin =>
      obtain ⟨⟨ty, e1, e2⟩, e3⟩ := hR
      exact W.zret B.exec B.bytes (B.returns.trans e1) e2 fin hS'.2.2 e3 hlocks
    | some (.long a), hR, fin => exact W.lret B.exec B.bytes (B.returns.trans hR.1) fin hS'.2.2 hR.2 hlocks
    | some (.float a), hR, fin =>
      obtain ⟨⟨n, e1⟩, e3⟩ := hR
      exact W.aret B.exec B.bytes (B.returns.trans e1) (Or.inl ⟨n, rfl⟩) (Or.inr ⟨_, rfl⟩) fin hS'.2.2 e3 hlocks
  · intro h' H' locs' pc' cells' slots' ls' hPo
    obtain ⟨w, ew, -⟩ := hPo
    cases ew
end XC
end
section
/-! ===== calls: a callee sees a piece of the caller's cells, by a map of places ===== -/
/-- a call's instruction, its link, its room -/
def xl_Ca (M : XI) (pc : Nat) (μ : XI) (pc2 : Nat) : Prop := ∃ i, decode M.2.1 pc = .ok (.invokevirtual i, 3) ∧ pc + 3 = pc2 ∧ Cond.methodLink M.1.cls i μ.1 ∈ xl_T ∧ μ.2.2.2.2.1 + 1 ≤ M.2.2.2.2.1 ∧ 8 + (μ.2.2.1 + 11) + μ.2.2.2.2.2.1 ≤ M.2.2.2.2.2.1
def xl_Cs (M : XI) (pc : Nat) (μ : XI) (pc2 : Nat) : Prop := ∃ i, decode M.2.1 pc = .ok (.invokestatic i, 3) ∧ pc + 3 = pc2 ∧ Cond.methodLink M.1.cls i μ.1 ∈ xl_T ∧ μ.2.2.2.2.1 + 1 ≤ M.2.2.2.2.1 ∧ 8 + (μ.2.2.1 + 11) + μ.2.2.2.2.2.1 ≤ M.2.2.2.2.2.1
theorem xl_good (μ : XI) (hk : xl_K μ) : GoodIn xl_T (xl_ws μ) := by
  intro w hw
  have hm : w ∈ xl_T := by
    rcases List.mem_cons.mp hw with rfl | h
    · exact hk.2.1
    · exact h
  exact ⟨hm, good_of_word (xl_Tg w hm)⟩
theorem xl_callB {M μ : XI} {R : Room} {s : State} {args : Array Value} {i mc ms : Nat} (hts : ∀ w ∈ xl_T, w.before args s = true) (hk : xl_K μ) (hl : Cond.methodLink M.1.cls i μ.1 ∈ xl_T) (h1 : μ.2.2.2.2.1 + 1 ≤ R.frames) (h2 : 8 + (μ.2.2.1 + 11) + μ.2.2.2.2.2.1 ≤ R.locals) :
    CallB R s args M.1.cls i μ.1 μ.2.1 μ.2.2.1 μ.2.2.2.1 (xl_ws μ) (xl_rm μ mc ms) mc ms μ.2.2.2.2.2.2 :=
  callB_of _ hts (xl_good μ hk) rfl rfl rfl (hts _ hk.2.2.1) (hts _ hl) hk.2.2.2 ⟨h1, h2⟩
/-- the callee's cells among the caller's -/
def xl_pi (π : Nat → Nat) (h hl : XH) : Prop := (∀ i j, i < hl.length → j < hl.length → π i = π j → i = j) ∧ (∀ j, j < hl.length → h[π j]? = hl[j]? ∧ π j < h.length)
/-- what a cell means is the same on both sides -/
def xl_ok (π : Nat → Nat) (j : Nat) (c : XE) : Prop := ∀ (aC : Nat → ClassId) (ρ σ : Nat → Nat), xl_c aC (fun k => ρ (π k)) σ j c = xl_c aC ρ σ (π j) c
theorem xl_ok_add (r j : Nat) (c : XE) : xl_ok (fun k => r + k) j c := by
  intro aC ρ σ
  cases c with
  | inl a => 
    obtain ⟨t, n, f | f | f | f | f⟩ := a <;> first | rfl | (simp only [xl_c, xl_a, Nat.add_assoc])
  | inr o => simp only [xl_c, Nat.add_assoc]
/-- the caller's cells behind a call -/
def xl_back (π : Nat → Nat) (n : Nat) (h h' h1 : XH) : Prop := h1.length = h.length ∧ (∀ j, j < n → h1[π j]? = h'[j]?) ∧ ∀ k, (∀ j, j < n → π j ≠ k) → h1[k]? = h[k]?
section XCC
variable {p : Program} {l : Launch} {e : Env} {R : Room} {s : State} {m : MethodId} {args : Array Value} {below : List Frame} {meth : Method} {c : Code} {H : Heap} {locs : List Loc} {cells slots : Nat} {Q : State → Prop}
theorem xl_after {pc mc ms : Nat} {ls : Array Slot} {rest st0 : List Value} {a : Array Value} {A0 A1 free : Nat → Prop} {D : va_G} {aC : Nat → ClassId} {ρ σ : Nat → Nat} {Po : Option Value → XH → Prop}
    (hr : va_Run p l e R s m args below meth c H locs cells slots mc ms (F0 m pc ls st0) rest (xl_Qc D aC ρ σ A1 Po a) free) (hS : va_S A0 s.heap H locs) (hA : ∀ q, q < H.size → A1 q → A0 q) (hf : ∀ q, free q → A0 q)
    (kk : ∀ (v : Option Value) (h' : XH) (H1 : Heap) (locs1 : List Loc), Po v h' → va_P D vwCl (xl_w aC ρ σ h') H1 → va_D A1 (xl_w aC ρ σ h') → H.size ≤ H1.size → (∀ q : Nat, q < H.size → ¬ A1 q → H1[q]? = H[q]?) → va_S A0 s.heap H1 locs1 → W p l e R s m args below meth c H1 locs1 (cells + mc) (slots + ms) Q (F0 m (pc + 3) ls ((v.map (xl_v ρ σ)).toList ++ rest))) : W p l e R s m args below meth c H locs cells slots Q (F0 m pc ls st0) := by
  intro T hT X
  obtain ⟨v, st₀, t, T', L, h0, X', hL, e1, e2, ⟨⟨v', h', hv, hp, hP1, hK1, hD1⟩, hz, hk⟩, st⟩ := hr T hT X
  cases hv
  rw [h0] at hz hk
  obtain ⟨t2, a1, b1⟩ := kk v' h' T'.heap (locs ++ L) hp (by rw [e1]; exact hP1) hD1 (by rw [e1]; exact hz) (fun q h1 h2 => by rw [e1]; exact hk q h1 h2)
    ⟨Nat.le_trans hS.1 (by rw [e1]; exact hz), fun q h1 h2 => by rw [e1, hk q (Nat.lt_of_lt_of_le h1 hS.1) (fun z => h2 (hA q (Nat.lt_of_lt_of_le h1 hS.1) z))]; exact hS.2.1 q h1 h2, fun q hq => by
      rcases List.mem_append.mp hq with h | h
      · exact hS.2.2 q h
      · exact hf _ (hL q h)⟩ T' rfl X'
  exact ⟨t2, st t2 a1, b1⟩
end XCC
section XCD
variable {M μ : XI} {rc rs pc pc2 mc ms : Nat} {L : List (Option Value)} {st rest : List Value} {h hl : XH} {Po : Option (Option Value) → XH → Prop} {Po' : Option Value → XH → Prop}
/-- the callee's part of the world -/
theorem xl_part {D : va_G} {aC : Nat → ClassId} {ρ σ aV : Nat → Nat} {A : Nat → Prop} {s : State} {H : Heap} {locs : List Loc} {π : Nat → Nat} (hH : xl_H D aC ρ σ aV A s H locs h) (hp : xl_pi π h hl) (hok : ∀ j c, hl[j]? = some c → xl_ok π j c) :
    va_P D vwCl (xl_w aC (fun k => ρ (π k)) σ hl) H ∧ xl_ap A (fun k => ρ (π k)) hl.length ∧ ∀ q, va_A (xl_w aC (fun k => ρ (π k)) σ hl) H.size q → A q := by
  obtain ⟨hK, hP, hD, hS, hE, hA⟩ := hH
  have hap := xl_ap_of hD
  have key : ∀ (j : Nat) (c : XE), hl[j]? = some c → (xl_w aC ρ σ h)[π j]? = some (ρ (π j), xl_c aC (fun k => ρ (π k)) σ j c) := by
    intro j c hc
    have hj := (List.getElem?_eq_some_iff.mp hc).1
    rw [hok j c hc aC ρ σ]
    exact xl_w_of (by rw [(hp.2 j hj).1]; exact hc)
  refine ⟨fun k q hq => ?_, ⟨fun i j hi hj e => hp.1 i j hi hj (hap.1 _ _ (hp.2 i hi).2 (hp.2 j hj).2 e), fun i hi => hap.2 _ (hp.2 i hi).2⟩, fun q hq => ?_⟩
  · obtain ⟨c, e1, rfl⟩ := xl_w_inv hq
    exact hP (π k) _ (key k c e1)
  · rcases hq with ⟨k, e, hk⟩ | hq
    · obtain ⟨c, e1, e2⟩ := xl_w_inv hk
      have hj := (List.getElem?_eq_some_iff.mp e1).1
      rw [show q = ρ (π k) from congrArg Prod.fst e2]
      exact hap.2 _ (hp.2 k hj).2
    · exact hA q (Nat.le_trans hS.1 hq)
theorem xl_joined {D : va_G} {aC : Nat → ClassId} {ρ σ aV : Nat → Nat} {A : Nat → Prop} {s : State} {H H1 : Heap} {locs locs1 : List Loc} {π : Nat → Nat} {h' h1 : XH} (hH : xl_H D aC ρ σ aV A s H locs h) (hp : xl_pi π h hl) (hb : xl_back π hl.length h h' h1) (hlen : h'.length = hl.length) (hok : ∀ j c, h'[j]? = some c → xl_ok π j c)
    (hP1 : va_P D vwCl (xl_w aC (fun k => ρ (π k)) σ h') H1) (hk : ∀ q : Nat, q < H.size → ¬ va_A (xl_w aC (fun k => ρ (π k)) σ hl) H.size q → H1[q]? = H[q]?) (hS1 : va_S A s.heap H1 locs1) : xl_H D aC ρ σ aV A s H1 locs1 h1 := by
  obtain ⟨hK, hP, hD, hS, hE, hA⟩ := hH
  have hap := xl_ap_of hD
  refine ⟨hK, fun k q hq => ?_, xl_D_of (by rw [hb.1]; exact hap), hS1, hE, hA⟩
  obtain ⟨c, e1, rfl⟩ := xl_w_inv hq
  by_cases hin : ∃ j, j < hl.length ∧ π j = k
  · obtain ⟨j, hj, rfl⟩ := hin
    rw [hb.2.1 j hj] at e1
    rw [← hok j c e1 aC ρ σ]
    exact hP1 j _ (xl_w_of e1)
  · have hn : ∀ j, j < hl.length → π j ≠ k := fun j hj e => hin ⟨j, hj, e⟩
    rw [hb.2.2 k hn] at e1
    have hkl := (List.getElem?_eq_some_iff.mp e1).1
    have h0 := hP k _ (xl_w_of (aC := aC) (ρ := ρ) (σ := σ) e1)
    refine h0.kept (hk _ h0.lt (fun z => ?_))
    rcases z with ⟨j, e, hj⟩ | z
    · obtain ⟨c2, g1, g2⟩ := xl_w_inv hj
      have hjl := (List.getElem?_eq_some_iff.mp g1).1
      have ee : ρ k = ρ (π j) := congrArg Prod.fst g2
      exact hn j hjl (hap.1 _ _ hkl (hp.2 j hjl).2 ee).symm
    · exact absurd h0.lt (Nat.not_lt.mpr z)
theorem xl_blind {D : va_G} {aC : Nat → ClassId} {ρ σ aV : Nat → Nat} {sz : Nat} {As : List Value} : FrameBlind (xl_Pc D aC ρ σ aV sz As hl) := fun a U g mk q => by
  obtain ⟨q0, q1, qP, qK, qD, qE⟩ := q
  exact ⟨q0, q1, qP, va_K.moved (u := U) (U := U.calling g mk a) (Vm.Alike.refl U.vm) qK, qD, xl_S.same (u := U) (U := U.calling g mk a) rfl qE⟩
theorem xl_ready {D : va_G} {aC : Nat → ClassId} {ρ σ aV : Nat → Nat} {A : Nat → Prop} {s U : State} {H : Heap} {locs : List Loc} {π : Nat → Nat} {As : List Value} {av : List Value} (hH : xl_H D aC ρ σ aV A s H locs h) (hp : xl_pi π h hl) (hok : ∀ j c, hl[j]? = some c → xl_ok π j c) (hU : U.heap = H) (hW : s.WarmedH U.vm) (hAs : av = As.map (xl_v (fun k => ρ (π k)) σ)) : xl_Pc D aC (fun k => ρ (π k)) σ aV H.size As hl av.toArray U := by
  obtain ⟨g1, g2, g3⟩ := xl_part hH hp hok
  obtain ⟨hK, hP, hD, hS, hE, hA⟩ := hH
  refine ⟨by rw [hAs], by rw [hU], by rw [hU]; exact g1, va_K.moved hW.alike hK, xl_D_of ⟨g2.1, fun _ _ => trivial⟩, ?_⟩
  rw [hU]
  refine xl_S.narrow (A := A) (xl_S.moved hW (xl_S.kept hE (fun a h1 h2 => hS.2.1 a h1 h2))) g3
/-- invokevirtual -/
theorem xl_callV (π : Nat → Nat) {ci r : Nat} {fs : List Value} {As As' : List Value} (d : xl_Ca M pc μ pc2) (hv : xl_V μ) (hcl : ∃ T N, vwCl[ci]? = some (μ.1.cls, T, N)) (hh : xl_n h r = some (.inr (ci, fs))) (hst : st = As.reverse ++ .ref r :: rest) (hn : As.length = μ.2.2.2.2.2.2) (hw : (rest.map fun v => if xl_1 v = true then 1 else 2).sum ≤ 8) (hAs : ∀ ρ σ : Nat → Nat, (Value.ref r :: As).map (xl_v ρ σ) = As'.map (xl_v (fun k => ρ (π k)) σ))
    (hp : xl_pi π h hl) (hok : ∀ j c, hl[j]? = some c → xl_ok π j c) (hc : xl_C μ mc ms As' hl Po') (hlen : ∀ v h', Po' v h' → h'.length = hl.length ∧ (∀ j c, h'[j]? = some c → xl_ok π j c) ∧ ∀ a, v ≠ some (.ref a))
    (kk : ∀ v h' h1, Po' v h' → xl_back π hl.length h h' h1 → xl_W M rc rs pc2 L (v.toList ++ rest) h1 Po) : xl_W M (rc + mc) (rs + ms) pc L st h Po := by
  obtain ⟨i, d, rfl, d3, d4, d5⟩ := d
  obtain ⟨T, N, hcl⟩ := hcl
  subst hst
  intro p l e R s m args below meth c D aC ρ σ aV A H locs cells slots ls Q hX hH hL h1 h2 hr ht
  obtain ⟨hK, hP, hD, hS, hE, hA⟩ := id hH
  obtain ⟨g1, g2, g3⟩ := xl_part hH hp hok
  rw [xl_n_eq] at hh
  have hrecv := va_recv hK hP hcl (xl_w_of hh)
  have hcw : CallW R s args M.1.cls μ.1.cls i μ.1 μ.2.1 μ.2.2.1 μ.2.2.2.1 (xl_ws μ) (xl_rm μ mc ms) mc ms μ.2.2.2.2.2.2 := ⟨xl_callB hX.2.2.2.2.2.1 hv.1 d3 (Nat.le_trans d4 hX.2.2.2.2.2.2.2.1) (Nat.le_trans d5 hX.2.2.2.2.2.2.2.2.1), hX.2.2.2.2.2.1 _ hv.2.1, hX.2.2.2.2.2.1 _ hv.2.2⟩
  have hcat : ∀ l : List Value, (l.map (xl_v ρ σ)).map (fun v => v.category) = l.map fun v => if xl_1 v = true then 1 else 2 := by
    intro l
    rw [List.map_map]
    apply List.map_congr_left
    intro v _
    show (xl_v ρ σ v).category = _
    by_cases hv1 : xl_1 v = true
    · rw [if_pos hv1, xl_1c hv1]
    · rw [if_neg hv1, xl_1d hv1]
  have hrun := va_runV (As := As.map (xl_v ρ σ)) (rest := rest.map (xl_v ρ σ)) (g := F0 m pc ls ((As.reverse ++ .ref r :: rest).map (xl_v ρ σ))) (H := H) (locs := locs) (cells := cells) (slots := slots) (e := e) (below := below) (meth := meth) (b := ρ r) (C := μ.1.cls) ⟨hX.1, hX.2.1, hX.2.2.2.1, hX.2.2.2.2.1, hX.2.2.2.2.2.1⟩ (hc l hX.2.2.2.2.2.2.2.2.2 D aC (fun k => ρ (π k)) σ aV H.size) hcw
    ⟨xl_blind, hrecv, fun U hU hW => xl_ready hH hp hok hU hW (hAs ρ σ)⟩ rfl (by rw [List.length_map]; exact hn) hL.1 (by simp [xl_v]) (lv_room (by rw [hcat]; exact hw)) d ⟨by omega, by omega⟩
  refine xl_after hrun hS (fun q _ hq => g3 q hq) g3 (fun v h' H1 locs1 hPo hP1 hD1 hz1 hk1 hS1 => ?_)
  obtain ⟨q1, q2, q3⟩ := hlen v h' hPo
  have hback : ∃ h1, xl_back π hl.length h h' h1 := by
    refine ⟨h.mapIdx (fun k c => if hx : ∃ j, j < hl.length ∧ π j = k then (h'[hx.choose]?).getD c else c), by simp, fun j hj => ?_, fun k hk => ?_⟩
    · have hx : ∃ j', j' < hl.length ∧ π j' = π j := ⟨j, hj, rfl⟩
      have hcj : hx.choose = j := hp.1 _ _ hx.choose_spec.1 hj hx.choose_spec.2
      obtain ⟨g4, g5⟩ := hp.2 j hj
      rw [List.getElem?_mapIdx, List.getElem?_eq_getElem g5]
      simp only [Option.map_some]
      rw [dif_pos hx, hcj, List.getElem?_eq_getElem (by omega)]
      rfl
    · rw [List.getElem?_mapIdx]
      cases hhk : h[k]? with
      | none => rfl
      | some c =>
        simp only [Option.map_some]
        rw [dif_neg (fun ⟨j, hj, ej⟩ => hk j hj ej)]
  obtain ⟨h1', hb⟩ := hback
  have hH1 := xl_joined hH hp hb q1 q2 hP1 hk1 hS1
  have := kk v h' h1' hPo hb p l e R s m args below meth c D aC ρ σ aV A H1 locs1 (cells + mc) (slots + ms) ls Q hX hH1 hL (by omega) (by omega) (fun v h' H' locs' pc' cells' slots' ls' a1 a2 a3 a4 a5 => hr v h' H' locs' pc' cells' slots' ls' a1 a2 a3 (by omega) (by omega)) (fun h' H' locs' pc' cells' slots' ls' a1 a2 a3 a4 a5 => ht h' H' locs' pc' cells' slots' ls' a1 a2 a3 (by omega) (by omega))
  rw [List.map_append] at this
  have ev : (v.map (xl_v (fun k => ρ (π k)) σ)).toList = v.toList.map (xl_v ρ σ) := by
    cases v with
    | none => rfl
    | some v => cases v <;> first | rfl | exact absurd rfl (q3 _)
  rw [ev]
  exact this
end XCD
end
