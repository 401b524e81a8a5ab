-- 01.tables
section
theorem wm_t1 {w : Cond} (i : Nat) (g : tables_1_1[i]? = some w) : w ∈ tables_1 := (have h := List.mem_of_getElem? g; List.mem_append_left _ h)
theorem wm_t2 {w : Cond} (i : Nat) (g : tables_1_2[i]? = some w) : w ∈ tables_1 := (have h := List.mem_of_getElem? g; List.mem_append_right _ (List.mem_append_left _ h))
theorem wm_t3 {w : Cond} (i : Nat) (g : tables_1_3[i]? = some w) : w ∈ tables_1 := (have h := List.mem_of_getElem? g; List.mem_append_right _ (List.mem_append_right _ (List.mem_append_left _ h)))
theorem wm_t4 {w : Cond} (i : Nat) (g : tables_1_4[i]? = some w) : w ∈ tables_1 := (have h := List.mem_of_getElem? g; List.mem_append_right _ (List.mem_append_right _ (List.mem_append_right _ (List.mem_append_left _ h))))
theorem wm_t5 {w : Cond} (i : Nat) (g : tables_1_5[i]? = some w) : w ∈ tables_1 := (have h := List.mem_of_getElem? g; List.mem_append_right _ (List.mem_append_right _ (List.mem_append_right _ (List.mem_append_right _ (List.mem_append_left _ h)))))
theorem wm_t6 {w : Cond} (i : Nat) (g : tables_1_6[i]? = some w) : w ∈ tables_1 := (have h := List.mem_of_getElem? g; List.mem_append_right _ (List.mem_append_right _ (List.mem_append_right _ (List.mem_append_right _ (List.mem_append_right _ (h))))))
theorem wn_0 : "LateSessions" ≠ "java/lang/invoke/MethodHandle" ∧ "LateSessions" ≠ "java/lang/invoke/VarHandle" := ⟨by decide +kernel, by decide +kernel⟩
theorem wn_1 : "LateSessions$World" ≠ "java/lang/invoke/MethodHandle" ∧ "LateSessions$World" ≠ "java/lang/invoke/VarHandle" := ⟨by decide +kernel, by decide +kernel⟩
theorem wn_2 : "java/lang/Throwable" ≠ "java/lang/invoke/MethodHandle" ∧ "java/lang/Throwable" ≠ "java/lang/invoke/VarHandle" := ⟨by decide +kernel, by decide +kernel⟩
theorem wn_3 : "LateSessionsModel" ≠ "java/lang/invoke/MethodHandle" ∧ "LateSessionsModel" ≠ "java/lang/invoke/VarHandle" := ⟨by decide +kernel, by decide +kernel⟩
-- ===== PART A: goes FIRST, ahead of the names: the tables' words, and 'selects' of the private methods out of them =====
/-- a private method of a class that the tables say can be made, by its rows of tables_1 -/
def lw_okq (q : MethodName × Nat) : Prop := (q.1.cls ≠ "java/lang/invoke/MethodHandle" ∧ q.1.cls ≠ "java/lang/invoke/VarHandle") ∧ Cond.instantiable q.1.cls q.2 ∈ tables_1 ∧ Cond.privateMethod q.1 ∈ tables_1 ∧ Cond.instanceMethod q.1 ∈ tables_1
theorem lw_p0 : lw_okq (⟨"LateSessions", "putSign", "(I)V"⟩, 13) := ⟨wn_0, (wm_t1 17 rfl), (wm_t1 187 rfl), (wm_t1 188 rfl)⟩
theorem lw_p1 : lw_okq (⟨"LateSessions", "remember", "()V"⟩, 13) := ⟨wn_0, (wm_t1 17 rfl), (wm_t1 202 rfl), (wm_t1 203 rfl)⟩
theorem lw_p2 : lw_okq (⟨"LateSessions", "isSource", "(I)Z"⟩, 13) := ⟨wn_0, (wm_t1 17 rfl), (wm_t1 222 rfl), (wm_t1 223 rfl)⟩
theorem lw_p3 : lw_okq (⟨"LateSessions", "eventRefusal", "(IIII)I"⟩, 13) := ⟨wn_0, (wm_t1 17 rfl), (wm_t1 235 rfl), (wm_t1 236 rfl)⟩
theorem lw_p4 : lw_okq (⟨"LateSessions", "isEvent", "(IIII)Z"⟩, 13) := ⟨wn_0, (wm_t1 17 rfl), (wm_t1 239 rfl), (wm_t2 0 rfl)⟩
theorem lw_p5 : lw_okq (⟨"LateSessions", "inputRefusal", "()I"⟩, 13) := ⟨wn_0, (wm_t1 17 rfl), (wm_t2 9 rfl), (wm_t2 10 rfl)⟩
theorem lw_p6 : lw_okq (⟨"LateSessions$World", "note", "(III)V"⟩, 16) := ⟨wn_1, (wm_t1 25 rfl), (wm_t2 18 rfl), (wm_t2 19 rfl)⟩
theorem lw_p7 : lw_okq (⟨"LateSessions$World", "melt", "(III)V"⟩, 16) := ⟨wn_1, (wm_t1 25 rfl), (wm_t2 34 rfl), (wm_t2 35 rfl)⟩
theorem lw_p8 : lw_okq (⟨"LateSessions$World", "touches", "(III)Z"⟩, 16) := ⟨wn_1, (wm_t1 25 rfl), (wm_t2 42 rfl), (wm_t2 43 rfl)⟩
theorem lw_p9 : lw_okq (⟨"LateSessions$World", "placeFor", "(II)I"⟩, 16) := ⟨wn_1, (wm_t1 25 rfl), (wm_t2 51 rfl), (wm_t2 52 rfl)⟩
theorem lw_p10 : lw_okq (⟨"LateSessions$World", "takeBack", "(I)V"⟩, 16) := ⟨wn_1, (wm_t1 25 rfl), (wm_t2 55 rfl), (wm_t2 56 rfl)⟩
theorem lw_p11 : lw_okq (⟨"LateSessions$World", "send", "(II)V"⟩, 16) := ⟨wn_1, (wm_t1 25 rfl), (wm_t2 63 rfl), (wm_t2 64 rfl)⟩
theorem lw_p12 : lw_okq (⟨"LateSessions$World", "swallowNext", "(I)V"⟩, 16) := ⟨wn_1, (wm_t1 25 rfl), (wm_t2 71 rfl), (wm_t2 72 rfl)⟩
theorem lw_p13 : lw_okq (⟨"LateSessions$World", "kindOfNew", "(I)I"⟩, 16) := ⟨wn_1, (wm_t1 25 rfl), (wm_t2 80 rfl), (wm_t2 81 rfl)⟩
theorem lw_p14 : lw_okq (⟨"LateSessions$World", "announce", "(II)V"⟩, 16) := ⟨wn_1, (wm_t1 25 rfl), (wm_t2 88 rfl), (wm_t2 89 rfl)⟩
theorem lw_p15 : lw_okq (⟨"LateSessions$World", "raiseMark", "(II)V"⟩, 16) := ⟨wn_1, (wm_t1 25 rfl), (wm_t2 92 rfl), (wm_t2 93 rfl)⟩
def lw_privs_1 : List (MethodName × Nat) := [(⟨"LateSessions", "putSign", "(I)V"⟩, 13), (⟨"LateSessions", "remember", "()V"⟩, 13), (⟨"LateSessions", "isSource", "(I)Z"⟩, 13), (⟨"LateSessions", "eventRefusal", "(IIII)I"⟩, 13), (⟨"LateSessions", "isEvent", "(IIII)Z"⟩, 13), (⟨"LateSessions", "inputRefusal", "()I"⟩, 13), (⟨"LateSessions$World", "note", "(III)V"⟩, 16), (⟨"LateSessions$World", "melt", "(III)V"⟩, 16), (⟨"LateSessions$World", "touches", "(III)Z"⟩, 16), (⟨"LateSessions$World", "placeFor", "(II)I"⟩, 16), (⟨"LateSessions$World", "takeBack", "(I)V"⟩, 16), (⟨"LateSessions$World", "send", "(II)V"⟩, 16), (⟨"LateSessions$World", "swallowNext", "(I)V"⟩, 16), (⟨"LateSessions$World", "kindOfNew", "(I)I"⟩, 16), (⟨"LateSessions$World", "announce", "(II)V"⟩, 16), (⟨"LateSessions$World", "raiseMark", "(II)V"⟩, 16)]
theorem lw_r1 : ∀ q ∈ lw_privs_1, lw_okq q := List.forall_mem_cons.mpr ⟨lw_p0, List.forall_mem_cons.mpr ⟨lw_p1, List.forall_mem_cons.mpr ⟨lw_p2, List.forall_mem_cons.mpr ⟨lw_p3, List.forall_mem_cons.mpr ⟨lw_p4, List.forall_mem_cons.mpr ⟨lw_p5, List.forall_mem_cons.mpr ⟨lw_p6, List.forall_mem_cons.mpr ⟨lw_p7, List.forall_mem_cons.mpr ⟨lw_p8, List.forall_mem_cons.mpr ⟨lw_p9, List.forall_mem_cons.mpr ⟨lw_p10, List.forall_mem_cons.mpr ⟨lw_p11, List.forall_mem_cons.mpr ⟨lw_p12, List.forall_mem_cons.mpr ⟨lw_p13, List.forall_mem_cons.mpr ⟨lw_p14, List.forall_mem_cons.mpr ⟨lw_p15, fun _ h => absurd h List.not_mem_nil⟩⟩⟩⟩⟩⟩⟩⟩⟩⟩⟩⟩⟩⟩⟩⟩
theorem lw_p16 : lw_okq (⟨"LateSessions$World", "rise", "()V"⟩, 16) := ⟨wn_1, (wm_t1 25 rfl), (wm_t2 96 rfl), (wm_t2 97 rfl)⟩
theorem lw_p17 : lw_okq (⟨"LateSessions$World", "dueBehind", "(II)I"⟩, 16) := ⟨wn_1, (wm_t1 25 rfl), (wm_t2 104 rfl), (wm_t2 105 rfl)⟩
theorem lw_p18 : lw_okq (⟨"LateSessions$World", "turnOf", "(I)I"⟩, 16) := ⟨wn_1, (wm_t1 25 rfl), (wm_t2 112 rfl), (wm_t2 113 rfl)⟩
theorem lw_p19 : lw_okq (⟨"LateSessions$World", "finish", "(I)V"⟩, 16) := ⟨wn_1, (wm_t1 25 rfl), (wm_t2 116 rfl), (wm_t2 117 rfl)⟩
theorem lw_p20 : lw_okq (⟨"LateSessions", "tellTwo", "(JJ)V"⟩, 13) := ⟨wn_0, (wm_t1 17 rfl), (wm_t2 125 rfl), (wm_t2 126 rfl)⟩
theorem lw_p21 : lw_okq (⟨"LateSessions", "tellOne", "(J)V"⟩, 13) := ⟨wn_0, (wm_t1 17 rfl), (wm_t2 129 rfl), (wm_t2 130 rfl)⟩
theorem lw_p22 : lw_okq (⟨"LateSessions", "tellNothing", "()V"⟩, 13) := ⟨wn_0, (wm_t1 17 rfl), (wm_t2 133 rfl), (wm_t2 134 rfl)⟩
theorem lw_p23 : lw_okq (⟨"LateSessions", "tellMore", "(J)V"⟩, 13) := ⟨wn_0, (wm_t1 17 rfl), (wm_t2 137 rfl), (wm_t2 138 rfl)⟩
theorem lw_p24 : lw_okq (⟨"LateSessions", "takeText", "()I"⟩, 13) := ⟨wn_0, (wm_t1 17 rfl), (wm_t2 145 rfl), (wm_t2 146 rfl)⟩
theorem lw_p25 : lw_okq (⟨"LateSessions", "eventsMisfit", "(I)I"⟩, 13) := ⟨wn_0, (wm_t1 17 rfl), (wm_t2 149 rfl), (wm_t2 150 rfl)⟩
theorem lw_p26 : lw_okq (⟨"LateSessions", "formMisfit", "(IILjava/lang/String;)I"⟩, 13) := ⟨wn_0, (wm_t1 17 rfl), (wm_t2 154 rfl), (wm_t2 155 rfl)⟩
theorem lw_p27 : lw_okq (⟨"LateSessions", "signAt", "(I)I"⟩, 13) := ⟨wn_0, (wm_t1 17 rfl), (wm_t2 168 rfl), (wm_t2 169 rfl)⟩
theorem lw_p28 : lw_okq (⟨"LateSessions", "fits", "(IC)Z"⟩, 13) := ⟨wn_0, (wm_t1 17 rfl), (wm_t2 210 rfl), (wm_t2 211 rfl)⟩
theorem lw_p29 : lw_okq (⟨"LateSessions", "comeEventAt", "(I)I"⟩, 13) := ⟨wn_0, (wm_t1 17 rfl), (wm_t2 214 rfl), (wm_t2 215 rfl)⟩
theorem lw_p30 : lw_okq (⟨"LateSessions", "keyAt", "(I)I"⟩, 13) := ⟨wn_0, (wm_t1 17 rfl), (wm_t2 218 rfl), (wm_t2 219 rfl)⟩
theorem lw_p31 : lw_okq (⟨"LateSessions", "numberAt", "(II)I"⟩, 13) := ⟨wn_0, (wm_t1 17 rfl), (wm_t2 222 rfl), (wm_t2 223 rfl)⟩
def lw_privs_2 : List (MethodName × Nat) := [(⟨"LateSessions$World", "rise", "()V"⟩, 16), (⟨"LateSessions$World", "dueBehind", "(II)I"⟩, 16), (⟨"LateSessions$World", "turnOf", "(I)I"⟩, 16), (⟨"LateSessions$World", "finish", "(I)V"⟩, 16), (⟨"LateSessions", "tellTwo", "(JJ)V"⟩, 13), (⟨"LateSessions", "tellOne", "(J)V"⟩, 13), (⟨"LateSessions", "tellNothing", "()V"⟩, 13), (⟨"LateSessions", "tellMore", "(J)V"⟩, 13), (⟨"LateSessions", "takeText", "()I"⟩, 13), (⟨"LateSessions", "eventsMisfit", "(I)I"⟩, 13), (⟨"LateSessions", "formMisfit", "(IILjava/lang/String;)I"⟩, 13), (⟨"LateSessions", "signAt", "(I)I"⟩, 13), (⟨"LateSessions", "fits", "(IC)Z"⟩, 13), (⟨"LateSessions", "comeEventAt", "(I)I"⟩, 13), (⟨"LateSessions", "keyAt", "(I)I"⟩, 13), (⟨"LateSessions", "numberAt", "(II)I"⟩, 13)]
theorem lw_r2 : ∀ q ∈ lw_privs_2, lw_okq q := List.forall_mem_cons.mpr ⟨lw_p16, List.forall_mem_cons.mpr ⟨lw_p17, List.forall_mem_cons.mpr ⟨lw_p18, List.forall_mem_cons.mpr ⟨lw_p19, List.forall_mem_cons.mpr ⟨lw_p20, List.forall_mem_cons.mpr ⟨lw_p21, List.forall_mem_cons.mpr ⟨lw_p22, List.forall_mem_cons.mpr ⟨lw_p23, List.forall_mem_cons.mpr ⟨lw_p24, List.forall_mem_cons.mpr ⟨lw_p25, List.forall_mem_cons.mpr ⟨lw_p26, List.forall_mem_cons.mpr ⟨lw_p27, List.forall_mem_cons.mpr ⟨lw_p28, List.forall_mem_cons.mpr ⟨lw_p29, List.forall_mem_cons.mpr ⟨lw_p30, List.forall_mem_cons.mpr ⟨lw_p31, fun _ h => absurd h List.not_mem_nil⟩⟩⟩⟩⟩⟩⟩⟩⟩⟩⟩⟩⟩⟩⟩⟩
theorem lw_p32 : lw_okq (⟨"LateSessions", "valueAt", "(I)I"⟩, 13) := ⟨wn_0, (wm_t1 17 rfl), (wm_t2 226 rfl), (wm_t2 227 rfl)⟩
theorem lw_p33 : lw_okq (⟨"LateSessions", "markRefusal", "(II)I"⟩, 13) := ⟨wn_0, (wm_t1 17 rfl), (wm_t2 235 rfl), (wm_t2 236 rfl)⟩
theorem lw_p34 : lw_okq (⟨"LateSessions", "idleRefusal", "(I)I"⟩, 13) := ⟨wn_0, (wm_t1 17 rfl), (wm_t3 11 rfl), (wm_t3 12 rfl)⟩
theorem lw_p35 : lw_okq (⟨"LateSessions", "tellThree", "(JJJ)V"⟩, 13) := ⟨wn_0, (wm_t1 17 rfl), (wm_t3 46 rfl), (wm_t3 47 rfl)⟩
theorem lw_p36 : lw_okq (⟨"LateSessions", "sortTaken", "(I)I"⟩, 13) := ⟨wn_0, (wm_t1 17 rfl), (wm_t3 99 rfl), (wm_t3 100 rfl)⟩
theorem lw_p37 : lw_okq (⟨"LateSessions", "sortedCell", "(II)I"⟩, 13) := ⟨wn_0, (wm_t1 17 rfl), (wm_t3 103 rfl), (wm_t3 104 rfl)⟩
theorem lw_p38 : lw_okq (⟨"LateSessions", "holeBehind", "(I)I"⟩, 13) := ⟨wn_0, (wm_t1 17 rfl), (wm_t3 107 rfl), (wm_t3 108 rfl)⟩
theorem lw_p39 : lw_okq (⟨"LateSessions", "replay", "(IIII)V"⟩, 13) := ⟨wn_0, (wm_t1 17 rfl), (wm_t3 127 rfl), (wm_t3 128 rfl)⟩
theorem lw_p40 : lw_okq (⟨"LateSessions", "dayMisfit", "(I)I"⟩, 13) := ⟨wn_0, (wm_t1 17 rfl), (wm_t3 143 rfl), (wm_t3 144 rfl)⟩
theorem lw_p41 : lw_okq (⟨"LateSessions", "actForm", "(I)Ljava/lang/String;"⟩, 13) := ⟨wn_0, (wm_t1 17 rfl), (wm_t3 147 rfl), (wm_t3 148 rfl)⟩
theorem lw_p42 : lw_okq (⟨"LateSessions", "actRefusal", "(I)I"⟩, 13) := ⟨wn_0, (wm_t1 17 rfl), (wm_t3 159 rfl), (wm_t3 160 rfl)⟩
theorem lw_p43 : lw_okq (⟨"LateSessions", "comeAct", "(I)V"⟩, 13) := ⟨wn_0, (wm_t1 17 rfl), (wm_t3 163 rfl), (wm_t3 164 rfl)⟩
theorem lw_p44 : lw_okq (⟨"java/lang/Throwable", "fillInStackTrace", "(I)Ljava/lang/Throwable;"⟩, 6) := ⟨wn_2, (wm_t3 238 rfl), (wm_t3 236 rfl), (wm_t3 237 rfl)⟩
theorem lw_p45 : lw_okq (⟨"LateSessionsModel", "starts", "(IIIII)V"⟩, 23) := ⟨wn_3, (wm_t4 75 rfl), (wm_t4 81 rfl), (wm_t4 82 rfl)⟩
theorem lw_p46 : lw_okq (⟨"LateSessionsModel", "puts", "(III)V"⟩, 23) := ⟨wn_3, (wm_t4 75 rfl), (wm_t4 85 rfl), (wm_t4 86 rfl)⟩
theorem lw_p47 : lw_okq (⟨"LateSessionsModel", "copies", "(II)V"⟩, 23) := ⟨wn_3, (wm_t4 75 rfl), (wm_t4 164 rfl), (wm_t4 165 rfl)⟩
def lw_privs_3 : List (MethodName × Nat) := [(⟨"LateSessions", "valueAt", "(I)I"⟩, 13), (⟨"LateSessions", "markRefusal", "(II)I"⟩, 13), (⟨"LateSessions", "idleRefusal", "(I)I"⟩, 13), (⟨"LateSessions", "tellThree", "(JJJ)V"⟩, 13), (⟨"LateSessions", "sortTaken", "(I)I"⟩, 13), (⟨"LateSessions", "sortedCell", "(II)I"⟩, 13), (⟨"LateSessions", "holeBehind", "(I)I"⟩, 13), (⟨"LateSessions", "replay", "(IIII)V"⟩, 13), (⟨"LateSessions", "dayMisfit", "(I)I"⟩, 13), (⟨"LateSessions", "actForm", "(I)Ljava/lang/String;"⟩, 13), (⟨"LateSessions", "actRefusal", "(I)I"⟩, 13), (⟨"LateSessions", "comeAct", "(I)V"⟩, 13), (⟨"java/lang/Throwable", "fillInStackTrace", "(I)Ljava/lang/Throwable;"⟩, 6), (⟨"LateSessionsModel", "starts", "(IIIII)V"⟩, 23), (⟨"LateSessionsModel", "puts", "(III)V"⟩, 23), (⟨"LateSessionsModel", "copies", "(II)V"⟩, 23)]
theorem lw_r3 : ∀ q ∈ lw_privs_3, lw_okq q := List.forall_mem_cons.mpr ⟨lw_p32, List.forall_mem_cons.mpr ⟨lw_p33, List.forall_mem_cons.mpr ⟨lw_p34, List.forall_mem_cons.mpr ⟨lw_p35, List.forall_mem_cons.mpr ⟨lw_p36, List.forall_mem_cons.mpr ⟨lw_p37, List.forall_mem_cons.mpr ⟨lw_p38, List.forall_mem_cons.mpr ⟨lw_p39, List.forall_mem_cons.mpr ⟨lw_p40, List.forall_mem_cons.mpr ⟨lw_p41, List.forall_mem_cons.mpr ⟨lw_p42, List.forall_mem_cons.mpr ⟨lw_p43, List.forall_mem_cons.mpr ⟨lw_p44, List.forall_mem_cons.mpr ⟨lw_p45, List.forall_mem_cons.mpr ⟨lw_p46, List.forall_mem_cons.mpr ⟨lw_p47, fun _ h => absurd h List.not_mem_nil⟩⟩⟩⟩⟩⟩⟩⟩⟩⟩⟩⟩⟩⟩⟩⟩
theorem lw_p48 : lw_okq (⟨"LateSessionsModel", "done", "(I)I"⟩, 23) := ⟨wn_3, (wm_t4 75 rfl), (wm_t4 178 rfl), (wm_t4 179 rfl)⟩
theorem lw_p49 : lw_okq (⟨"LateSessionsModel", "lays", "()V"⟩, 23) := ⟨wn_3, (wm_t4 75 rfl), (wm_t4 182 rfl), (wm_t4 183 rfl)⟩
theorem lw_p50 : lw_okq (⟨"LateSessionsModel", "isSource", "(I)Z"⟩, 23) := ⟨wn_3, (wm_t4 75 rfl), (wm_t4 190 rfl), (wm_t4 191 rfl)⟩
theorem lw_p51 : lw_okq (⟨"LateSessionsModel", "of", "(II)I"⟩, 23) := ⟨wn_3, (wm_t4 75 rfl), (wm_t4 194 rfl), (wm_t4 195 rfl)⟩
theorem lw_p52 : lw_okq (⟨"LateSessionsModel", "eventOne", "(IIII)I"⟩, 23) := ⟨wn_3, (wm_t4 75 rfl), (wm_t4 203 rfl), (wm_t4 204 rfl)⟩
theorem lw_p53 : lw_okq (⟨"LateSessionsModel", "isEvent", "(IIII)Z"⟩, 23) := ⟨wn_3, (wm_t4 75 rfl), (wm_t4 207 rfl), (wm_t4 208 rfl)⟩
theorem lw_p54 : lw_okq (⟨"LateSessionsModel", "comes", "(IIIII)I"⟩, 23) := ⟨wn_3, (wm_t4 75 rfl), (wm_t4 214 rfl), (wm_t4 215 rfl)⟩
theorem lw_p55 : lw_okq (⟨"LateSessionsModel", "notes", "(IIIIIII)V"⟩, 23) := ⟨wn_3, (wm_t4 75 rfl), (wm_t4 221 rfl), (wm_t4 222 rfl)⟩
theorem lw_p56 : lw_okq (⟨"LateSessionsModel", "adds", "(III)V"⟩, 23) := ⟨wn_3, (wm_t4 75 rfl), (wm_t4 225 rfl), (wm_t4 226 rfl)⟩
theorem lw_p57 : lw_okq (⟨"LateSessionsModel", "joins", "(IIII)V"⟩, 23) := ⟨wn_3, (wm_t4 75 rfl), (wm_t4 229 rfl), (wm_t4 230 rfl)⟩
theorem lw_p58 : lw_okq (⟨"LateSessionsModel", "melts", "(IIII)Z"⟩, 23) := ⟨wn_3, (wm_t4 75 rfl), (wm_t4 233 rfl), (wm_t4 234 rfl)⟩
theorem lw_p59 : lw_okq (⟨"LateSessionsModel", "ofSession", "(III)I"⟩, 23) := ⟨wn_3, (wm_t4 75 rfl), (wm_t4 237 rfl), (wm_t4 238 rfl)⟩
theorem lw_p60 : lw_okq (⟨"LateSessionsModel", "takesBack", "(II)V"⟩, 23) := ⟨wn_3, (wm_t4 75 rfl), (wm_t5 4 rfl), (wm_t5 5 rfl)⟩
theorem lw_p61 : lw_okq (⟨"LateSessionsModel", "sends", "(III)V"⟩, 23) := ⟨wn_3, (wm_t4 75 rfl), (wm_t5 8 rfl), (wm_t5 9 rfl)⟩
theorem lw_p62 : lw_okq (⟨"LateSessionsModel", "goesOut", "(II)V"⟩, 23) := ⟨wn_3, (wm_t4 75 rfl), (wm_t5 14 rfl), (wm_t5 15 rfl)⟩
theorem lw_p63 : lw_okq (⟨"LateSessionsModel", "comesIn", "(I)I"⟩, 23) := ⟨wn_3, (wm_t4 75 rfl), (wm_t5 18 rfl), (wm_t5 19 rfl)⟩
def lw_privs_4 : List (MethodName × Nat) := [(⟨"LateSessionsModel", "done", "(I)I"⟩, 23), (⟨"LateSessionsModel", "lays", "()V"⟩, 23), (⟨"LateSessionsModel", "isSource", "(I)Z"⟩, 23), (⟨"LateSessionsModel", "of", "(II)I"⟩, 23), (⟨"LateSessionsModel", "eventOne", "(IIII)I"⟩, 23), (⟨"LateSessionsModel", "isEvent", "(IIII)Z"⟩, 23), (⟨"LateSessionsModel", "comes", "(IIIII)I"⟩, 23), (⟨"LateSessionsModel", "notes", "(IIIIIII)V"⟩, 23), (⟨"LateSessionsModel", "adds", "(III)V"⟩, 23), (⟨"LateSessionsModel", "joins", "(IIII)V"⟩, 23), (⟨"LateSessionsModel", "melts", "(IIII)Z"⟩, 23), (⟨"LateSessionsModel", "ofSession", "(III)I"⟩, 23), (⟨"LateSessionsModel", "takesBack", "(II)V"⟩, 23), (⟨"LateSessionsModel", "sends", "(III)V"⟩, 23), (⟨"LateSessionsModel", "goesOut", "(II)V"⟩, 23), (⟨"LateSessionsModel", "comesIn", "(I)I"⟩, 23)]
theorem lw_r4 : ∀ q ∈ lw_privs_4, lw_okq q := List.forall_mem_cons.mpr ⟨lw_p48, List.forall_mem_cons.mpr ⟨lw_p49, List.forall_mem_cons.mpr ⟨lw_p50, List.forall_mem_cons.mpr ⟨lw_p51, List.forall_mem_cons.mpr ⟨lw_p52, List.forall_mem_cons.mpr ⟨lw_p53, List.forall_mem_cons.mpr ⟨lw_p54, List.forall_mem_cons.mpr ⟨lw_p55, List.forall_mem_cons.mpr ⟨lw_p56, List.forall_mem_cons.mpr ⟨lw_p57, List.forall_mem_cons.mpr ⟨lw_p58, List.forall_mem_cons.mpr ⟨lw_p59, List.forall_mem_cons.mpr ⟨lw_p60, List.forall_mem_cons.mpr ⟨lw_p61, List.forall_mem_cons.mpr ⟨lw_p62, List.forall_mem_cons.mpr ⟨lw_p63, fun _ h => absurd h List.not_mem_nil⟩⟩⟩⟩⟩⟩⟩⟩⟩⟩⟩⟩⟩⟩⟩⟩
theorem lw_p64 : lw_okq (⟨"LateSessionsModel", "isBehind", "(II)Z"⟩, 23) := ⟨wn_3, (wm_t4 75 rfl), (wm_t5 22 rfl), (wm_t5 23 rfl)⟩
theorem lw_p65 : lw_okq (⟨"LateSessionsModel", "isRipeBy", "(III)Z"⟩, 23) := ⟨wn_3, (wm_t4 75 rfl), (wm_t5 26 rfl), (wm_t5 27 rfl)⟩
theorem lw_p66 : lw_okq (⟨"LateSessionsModel", "rises", "(I)V"⟩, 23) := ⟨wn_3, (wm_t4 75 rfl), (wm_t5 30 rfl), (wm_t5 31 rfl)⟩
theorem lw_p67 : lw_okq (⟨"LateSessionsModel", "leastMark", "(I)I"⟩, 23) := ⟨wn_3, (wm_t4 75 rfl), (wm_t5 34 rfl), (wm_t5 35 rfl)⟩
theorem lw_p68 : lw_okq (⟨"LateSessionsModel", "firstRipe", "(II)I"⟩, 23) := ⟨wn_3, (wm_t4 75 rfl), (wm_t5 38 rfl), (wm_t5 39 rfl)⟩
theorem lw_p69 : lw_okq (⟨"LateSessionsModel", "isDone", "(II)Z"⟩, 23) := ⟨wn_3, (wm_t4 75 rfl), (wm_t5 42 rfl), (wm_t5 43 rfl)⟩
theorem lw_p70 : lw_okq (⟨"LateSessionsModel", "firstClosed", "(I)I"⟩, 23) := ⟨wn_3, (wm_t4 75 rfl), (wm_t5 46 rfl), (wm_t5 47 rfl)⟩
theorem lw_p71 : lw_okq (⟨"LateSessionsModel", "isClosedBy", "(III)Z"⟩, 23) := ⟨wn_3, (wm_t4 75 rfl), (wm_t5 50 rfl), (wm_t5 51 rfl)⟩
theorem lw_p72 : lw_okq (⟨"LateSessionsModel", "closes", "(II)V"⟩, 23) := ⟨wn_3, (wm_t4 75 rfl), (wm_t5 54 rfl), (wm_t5 55 rfl)⟩
theorem lw_p73 : lw_okq (⟨"LateSessionsModel", "closedMany", "(I)I"⟩, 23) := ⟨wn_3, (wm_t4 75 rfl), (wm_t5 58 rfl), (wm_t5 59 rfl)⟩
theorem lw_p74 : lw_okq (⟨"LateSessionsModel", "entersSince", "(II)V"⟩, 23) := ⟨wn_3, (wm_t4 75 rfl), (wm_t5 62 rfl), (wm_t5 63 rfl)⟩
theorem lw_p75 : lw_okq (⟨"LateSessionsModel", "enters", "(J)V"⟩, 23) := ⟨wn_3, (wm_t4 75 rfl), (wm_t5 66 rfl), (wm_t5 67 rfl)⟩
theorem lw_p76 : lw_okq (⟨"LateSessionsModel", "reads", "()V"⟩, 23) := ⟨wn_3, (wm_t4 75 rfl), (wm_t5 74 rfl), (wm_t5 75 rfl)⟩
theorem lw_p77 : lw_okq (⟨"LateSessionsModel", "readsEvent", "(IZ)Z"⟩, 23) := ⟨wn_3, (wm_t4 75 rfl), (wm_t5 78 rfl), (wm_t5 79 rfl)⟩
theorem lw_p78 : lw_okq (⟨"LateSessionsModel", "takesOf", "(Ljava/lang/String;)I"⟩, 23) := ⟨wn_3, (wm_t4 75 rfl), (wm_t5 83 rfl), (wm_t5 84 rfl)⟩
theorem lw_p79 : lw_okq (⟨"LateSessionsModel", "digits", "(I)I"⟩, 23) := ⟨wn_3, (wm_t4 75 rfl), (wm_t5 89 rfl), (wm_t5 90 rfl)⟩
def lw_privs_5 : List (MethodName × Nat) := [(⟨"LateSessionsModel", "isBehind", "(II)Z"⟩, 23), (⟨"LateSessionsModel", "isRipeBy", "(III)Z"⟩, 23), (⟨"LateSessionsModel", "rises", "(I)V"⟩, 23), (⟨"LateSessionsModel", "leastMark", "(I)I"⟩, 23), (⟨"LateSessionsModel", "firstRipe", "(II)I"⟩, 23), (⟨"LateSessionsModel", "isDone", "(II)Z"⟩, 23), (⟨"LateSessionsModel", "firstClosed", "(I)I"⟩, 23), (⟨"LateSessionsModel", "isClosedBy", "(III)Z"⟩, 23), (⟨"LateSessionsModel", "closes", "(II)V"⟩, 23), (⟨"LateSessionsModel", "closedMany", "(I)I"⟩, 23), (⟨"LateSessionsModel", "entersSince", "(II)V"⟩, 23), (⟨"LateSessionsModel", "enters", "(J)V"⟩, 23), (⟨"LateSessionsModel", "reads", "()V"⟩, 23), (⟨"LateSessionsModel", "readsEvent", "(IZ)Z"⟩, 23), (⟨"LateSessionsModel", "takesOf", "(Ljava/lang/String;)I"⟩, 23), (⟨"LateSessionsModel", "digits", "(I)I"⟩, 23)]
theorem lw_r5 : ∀ q ∈ lw_privs_5, lw_okq q := List.forall_mem_cons.mpr ⟨lw_p64, List.forall_mem_cons.mpr ⟨lw_p65, List.forall_mem_cons.mpr ⟨lw_p66, List.forall_mem_cons.mpr ⟨lw_p67, List.forall_mem_cons.mpr ⟨lw_p68, List.forall_mem_cons.mpr ⟨lw_p69, List.forall_mem_cons.mpr ⟨lw_p70, List.forall_mem_cons.mpr ⟨lw_p71, List.forall_mem_cons.mpr ⟨lw_p72, List.forall_mem_cons.mpr ⟨lw_p73, List.forall_mem_cons.mpr ⟨lw_p74, List.forall_mem_cons.mpr ⟨lw_p75, List.forall_mem_cons.mpr ⟨lw_p76, List.forall_mem_cons.mpr ⟨lw_p77, List.forall_mem_cons.mpr ⟨lw_p78, List.forall_mem_cons.mpr ⟨lw_p79, fun _ h => absurd h List.not_mem_nil⟩⟩⟩⟩⟩⟩⟩⟩⟩⟩⟩⟩⟩⟩⟩⟩
theorem lw_p80 : lw_okq (⟨"LateSessionsModel", "marksOne", "(II)I"⟩, 23) := ⟨wn_3, (wm_t4 75 rfl), (wm_t5 99 rfl), (wm_t5 100 rfl)⟩
theorem lw_p81 : lw_okq (⟨"LateSessionsModel", "isMarked", "(III)V"⟩, 23) := ⟨wn_3, (wm_t4 75 rfl), (wm_t5 104 rfl), (wm_t5 105 rfl)⟩
theorem lw_p82 : lw_okq (⟨"LateSessionsModel", "entersProgress", "()V"⟩, 23) := ⟨wn_3, (wm_t4 75 rfl), (wm_t5 108 rfl), (wm_t5 109 rfl)⟩
theorem lw_p83 : lw_okq (⟨"LateSessionsModel", "idlesOne", "(I)I"⟩, 23) := ⟨wn_3, (wm_t4 75 rfl), (wm_t5 116 rfl), (wm_t5 117 rfl)⟩
theorem lw_p84 : lw_okq (⟨"LateSessionsModel", "isIdle", "(II)V"⟩, 23) := ⟨wn_3, (wm_t4 75 rfl), (wm_t5 120 rfl), (wm_t5 121 rfl)⟩
theorem lw_p85 : lw_okq (⟨"LateSessionsModel", "ofInput", "(II)I"⟩, 23) := ⟨wn_3, (wm_t4 75 rfl), (wm_t5 174 rfl), (wm_t5 175 rfl)⟩
theorem lw_p86 : lw_okq (⟨"LateSessionsModel", "laysTimes", "(I)V"⟩, 23) := ⟨wn_3, (wm_t4 75 rfl), (wm_t5 202 rfl), (wm_t5 203 rfl)⟩
theorem lw_p87 : lw_okq (⟨"LateSessionsModel", "fallsInto", "(I)I"⟩, 23) := ⟨wn_3, (wm_t4 75 rfl), (wm_t5 206 rfl), (wm_t5 207 rfl)⟩
theorem lw_p88 : lw_okq (⟨"LateSessionsModel", "startsAgain", "(III)V"⟩, 23) := ⟨wn_3, (wm_t4 75 rfl), (wm_t5 219 rfl), (wm_t5 220 rfl)⟩
theorem lw_p89 : lw_okq (⟨"LateSessionsModel", "comesAgain", "(II)V"⟩, 23) := ⟨wn_3, (wm_t4 75 rfl), (wm_t5 223 rfl), (wm_t5 224 rfl)⟩
theorem lw_p90 : lw_okq (⟨"LateSessionsModel", "readsAct", "(I)Z"⟩, 23) := ⟨wn_3, (wm_t4 75 rfl), (wm_t6 3 rfl), (wm_t6 4 rfl)⟩
theorem lw_p91 : lw_okq (⟨"LateSessionsModel", "doesAct", "(I)I"⟩, 23) := ⟨wn_3, (wm_t4 75 rfl), (wm_t6 8 rfl), (wm_t6 9 rfl)⟩
theorem lw_p92 : lw_okq (⟨"LateSessionsModel", "draws", "(I)I"⟩, 23) := ⟨wn_3, (wm_t4 75 rfl), (wm_t6 17 rfl), (wm_t6 18 rfl)⟩
def lw_privs_6 : List (MethodName × Nat) := [(⟨"LateSessionsModel", "marksOne", "(II)I"⟩, 23), (⟨"LateSessionsModel", "isMarked", "(III)V"⟩, 23), (⟨"LateSessionsModel", "entersProgress", "()V"⟩, 23), (⟨"LateSessionsModel", "idlesOne", "(I)I"⟩, 23), (⟨"LateSessionsModel", "isIdle", "(II)V"⟩, 23), (⟨"LateSessionsModel", "ofInput", "(II)I"⟩, 23), (⟨"LateSessionsModel", "laysTimes", "(I)V"⟩, 23), (⟨"LateSessionsModel", "fallsInto", "(I)I"⟩, 23), (⟨"LateSessionsModel", "startsAgain", "(III)V"⟩, 23), (⟨"LateSessionsModel", "comesAgain", "(II)V"⟩, 23), (⟨"LateSessionsModel", "readsAct", "(I)Z"⟩, 23), (⟨"LateSessionsModel", "doesAct", "(I)I"⟩, 23), (⟨"LateSessionsModel", "draws", "(I)I"⟩, 23)]
theorem lw_r6 : ∀ q ∈ lw_privs_6, lw_okq q := List.forall_mem_cons.mpr ⟨lw_p80, List.forall_mem_cons.mpr ⟨lw_p81, List.forall_mem_cons.mpr ⟨lw_p82, List.forall_mem_cons.mpr ⟨lw_p83, List.forall_mem_cons.mpr ⟨lw_p84, List.forall_mem_cons.mpr ⟨lw_p85, List.forall_mem_cons.mpr ⟨lw_p86, List.forall_mem_cons.mpr ⟨lw_p87, List.forall_mem_cons.mpr ⟨lw_p88, List.forall_mem_cons.mpr ⟨lw_p89, List.forall_mem_cons.mpr ⟨lw_p90, List.forall_mem_cons.mpr ⟨lw_p91, List.forall_mem_cons.mpr ⟨lw_p92, fun _ h => absurd h List.not_mem_nil⟩⟩⟩⟩⟩⟩⟩⟩⟩⟩⟩⟩⟩
def lw_privs : List (MethodName × Nat) := lw_privs_1 ++ (lw_privs_2 ++ (lw_privs_3 ++ (lw_privs_4 ++ (lw_privs_5 ++ (lw_privs_6)))))
def lw_tbl : List Cond := k2_sels lw_privs ++ tables_1
theorem lw_privs_ok : ∀ q ∈ lw_privs, lw_okq q := by
  show ∀ q ∈ lw_privs_1 ++ (lw_privs_2 ++ (lw_privs_3 ++ (lw_privs_4 ++ (lw_privs_5 ++ (lw_privs_6))))), lw_okq q
  exact List.forall_mem_append.mpr ⟨lw_r1, List.forall_mem_append.mpr ⟨lw_r2, List.forall_mem_append.mpr ⟨lw_r3, List.forall_mem_append.mpr ⟨lw_r4, List.forall_mem_append.mpr ⟨lw_r5, lw_r6⟩⟩⟩⟩⟩
-- ===== end of PART A; then your names; then what follows =====
def RX0 : String := "LateSessions$Table"
def TX0 : u_T := fun k => match k with
  | 0 => ("LateSessions$Table", "room", "I", true)
  | 1 => ("LateSessions$Table", "width", "I", true)
  | 2 => ("LateSessions$Table", "cells", "[I", true)
  | _ => ("LateSessions$Table", "size", "I", false)
def tyX0 : Nat → FieldType := fun k => match k with
  | 0 => .int
  | 1 => .int
  | 2 => .array .int
  | _ => .int
theorem nmX0 : ∀ a, a < 4 → ∀ b, b < 4 → a ≠ b → (TX0 a).2.1 ≠ (TX0 b).2.1 := by decide +kernel
theorem tyX0_ok : ∀ k, k < 4 → parseFieldDescriptor (TX0 k).2.2.1 = some (tyX0 k) := by decide +kernel
def RX1 : String := "LateSessions$World"
def TX1 : u_T := fun k => match k with
  | 0 => ("LateSessions$World", "gap", "I", false)
  | 1 => ("LateSessions$World", "lateness", "I", false)
  | 2 => ("LateSessions$World", "early", "I", false)
  | 3 => ("LateSessions$World", "progress", "I", false)
  | 4 => ("LateSessions$World", "sentSize", "I", false)
  | 5 => ("LateSessions$World", "closedSize", "I", false)
  | 6 => ("LateSessions$World", "takenSize", "I", false)
  | 7 => ("LateSessions$World", "lateSize", "I", false)
  | 8 => ("LateSessions$World", "droppedSize", "I", false)
  | 9 => ("LateSessions$World", "meltedSize", "I", false)
  | 10 => ("LateSessions$World", "sources", "LLateSessions$Table;", true)
  | 11 => ("LateSessions$World", "sessions", "LLateSessions$Table;", true)
  | 12 => ("LateSessions$World", "messages", "LLateSessions$Table;", true)
  | 13 => ("LateSessions$World", "finals", "LLateSessions$Table;", true)
  | 14 => ("LateSessions$World", "inputs", "LLateSessions$Table;", true)
  | _ => ("LateSessions$World", "keys", "LLateSessions$Table;", true)
def tyX1 : Nat → FieldType := fun k => match k with
  | 0 => .int
  | 1 => .int
  | 2 => .int
  | 3 => .int
  | 4 => .int
  | 5 => .int
  | 6 => .int
  | 7 => .int
  | 8 => .int
  | 9 => .int
  | 10 => .object "LateSessions$Table"
  | 11 => .object "LateSessions$Table"
  | 12 => .object "LateSessions$Table"
  | 13 => .object "LateSessions$Table"
  | 14 => .object "LateSessions$Table"
  | _ => .object "LateSessions$Table"
theorem nmX1 : ∀ a, a < 16 → ∀ b, b < 16 → a ≠ b → (TX1 a).2.1 ≠ (TX1 b).2.1 := by decide +kernel
theorem tyX1_ok : ∀ k, k < 16 → parseFieldDescriptor (TX1 k).2.2.1 = some (tyX1 k) := by decide +kernel
def RX2 : String := "LateSessions"
def TX2 : u_T := fun k => match k with
  | 0 => ("LateSessions", "world", "LLateSessions$World;", true)
  | 1 => ("LateSessions", "trial", "LLateSessions$World;", true)
  | 2 => ("LateSessions", "undoWorlds", "[LLateSessions$World;", true)
  | 3 => ("LateSessions", "undoOldest", "I", false)
  | 4 => ("LateSessions", "undoSize", "I", false)
  | 5 => ("LateSessions", "keptWorlds", "[LLateSessions$World;", true)
  | 6 => ("LateSessions", "keptBits", "I", false)
  | 7 => ("LateSessions", "told", "[J", true)
  | 8 => ("LateSessions", "toldSize", "I", false)
  | 9 => ("LateSessions", "text", "[I", true)
  | 10 => ("LateSessions", "textSize", "I", false)
  | 11 => ("LateSessions", "byTime", "[I", true)
  | _ => ("LateSessions", "holes", "[I", true)
def tyX2 : Nat → FieldType := fun k => match k with
  | 0 => .object "LateSessions$World"
  | 1 => .object "LateSessions$World"
  | 2 => .array (.object "LateSessions$World")
  | 3 => .int
  | 4 => .int
  | 5 => .array (.object "LateSessions$World")
  | 6 => .int
  | 7 => .array .long
  | 8 => .int
  | 9 => .array .int
  | 10 => .int
  | 11 => .array .int
  | _ => .array .int
theorem nmX2 : ∀ a, a < 13 → ∀ b, b < 13 → a ≠ b → (TX2 a).2.1 ≠ (TX2 b).2.1 := by decide +kernel
theorem tyX2_ok : ∀ k, k < 13 → parseFieldDescriptor (TX2 k).2.2.1 = some (tyX2 k) := by decide +kernel
def RX3 : String := "LateSessionsModel"
def TX3 : u_T := fun k => match k with
  | 0 => ("LateSessionsModel", "thrown", "I", false)
  | 1 => ("LateSessionsModel", "told", "I", false)
  | 2 => ("LateSessionsModel", "row", "[J", true)
  | 3 => ("LateSessionsModel", "tape", "[I", true)
  | 4 => ("LateSessionsModel", "taped", "I", false)
  | 5 => ("LateSessionsModel", "at", "I", false)
  | 6 => ("LateSessionsModel", "to", "I", false)
  | 7 => ("LateSessionsModel", "mem", "[I", true)
  | 8 => ("LateSessionsModel", "undos", "I", false)
  | 9 => ("LateSessionsModel", "fresh", "[I", true)
  | 10 => ("LateSessionsModel", "doneLast", "I", false)
  | 11 => ("LateSessionsModel", "doneKey", "I", false)
  | 12 => ("LateSessionsModel", "meltedWith", "I", false)
  | 13 => ("LateSessionsModel", "readKey", "[I", true)
  | 14 => ("LateSessionsModel", "readTime", "[I", true)
  | 15 => ("LateSessionsModel", "readValue", "[I", true)
  | 16 => ("LateSessionsModel", "readSource", "[I", true)
  | 17 => ("LateSessionsModel", "times", "[I", true)
  | 18 => ("LateSessionsModel", "values", "[I", true)
  | 19 => ("LateSessionsModel", "timed", "I", false)
  | 20 => ("LateSessionsModel", "act", "[I", true)
  | 21 => ("LateSessionsModel", "random", "I", false)
  | _ => ("LateSessionsModel", "isKept", "[Z", true)
def tyX3 : Nat → FieldType := fun k => match k with
  | 0 => .int
  | 1 => .int
  | 2 => .array .long
  | 3 => .array .int
  | 4 => .int
  | 5 => .int
  | 6 => .int
  | 7 => .array .int
  | 8 => .int
  | 9 => .array .int
  | 10 => .int
  | 11 => .int
  | 12 => .int
  | 13 => .array .int
  | 14 => .array .int
  | 15 => .array .int
  | 16 => .array .int
  | 17 => .array .int
  | 18 => .array .int
  | 19 => .int
  | 20 => .array .int
  | 21 => .int
  | _ => .array .boolean
theorem nmX3 : ∀ a, a < 23 → ∀ b, b < 23 → a ≠ b → (TX3 a).2.1 ≠ (TX3 b).2.1 := by decide +kernel
theorem tyX3_ok : ∀ k, k < 23 → parseFieldDescriptor (TX3 k).2.2.1 = some (tyX3 k) := by decide +kernel
def RJ0 : String := "java/lang/String"
def RJ1 : String := "java/lang/StringLatin1"
def RJ3 : String := "jdk/internal/util/Preconditions"
def RJ7 : String := "java/util/Arrays"
def RJ9 : String := "java/lang/Math"
def RJ10 : String := "java/lang/System"
def RL : String := "LateSessionsLaw"
abbrev cX0_init : ByteArray := prog_2_method_1_code
def yX0_init : MethodName := ⟨RX0, "<init>", "(II)V"⟩
abbrev cX0_get : ByteArray := prog_2_method_2_code
def yX0_get : MethodName := ⟨RX0, "get", "(II)I"⟩
abbrev cX0_set : ByteArray := prog_2_method_3_code
def yX0_set : MethodName := ⟨RX0, "set", "(III)V"⟩
abbrev cX0_add : ByteArray := prog_2_method_4_code
def yX0_add : MethodName := ⟨RX0, "add", "(III)V"⟩
abbrev cX0_clear : ByteArray := prog_2_method_5_code
def yX0_clear : MethodName := ⟨RX0, "clear", "()V"⟩
abbrev cX0_reach : ByteArray := prog_2_method_6_code
def yX0_reach : MethodName := ⟨RX0, "reach", "(I)V"⟩
abbrev cX0_open : ByteArray := prog_2_method_7_code
def yX0_open : MethodName := ⟨RX0, "open", "(I)Z"⟩
abbrev cX0_drop : ByteArray := prog_2_method_8_code
def yX0_drop : MethodName := ⟨RX0, "drop", "(I)V"⟩
abbrev cX0_copyRow : ByteArray := prog_2_method_9_code
def yX0_copyRow : MethodName := ⟨RX0, "copyRow", "(ILLateSessions$Table;I)V"⟩
abbrev cX0_copyFrom : ByteArray := prog_2_method_10_code
def yX0_copyFrom : MethodName := ⟨RX0, "copyFrom", "(LLateSessions$Table;)V"⟩
abbrev cX1_init : ByteArray := prog_3_method_1_code
def yX1_init : MethodName := ⟨RX1, "<init>", "()V"⟩
abbrev cX1_reset : ByteArray := prog_3_method_2_code
def yX1_reset : MethodName := ⟨RX1, "reset", "(IIII)V"⟩
abbrev cX1_copyFrom : ByteArray := prog_3_method_3_code
def yX1_copyFrom : MethodName := ⟨RX1, "copyFrom", "(LLateSessions$World;)V"⟩
abbrev cX1_comeEvent : ByteArray := prog_3_method_4_code
def yX1_comeEvent : MethodName := ⟨RX1, "comeEvent", "(IIII)I"⟩
abbrev cX1_comeMark : ByteArray := prog_3_method_5_code
def yX1_comeMark : MethodName := ⟨RX1, "comeMark", "(II)V"⟩
abbrev cX1_comeIdle : ByteArray := prog_3_method_6_code
def yX1_comeIdle : MethodName := ⟨RX1, "comeIdle", "(I)V"⟩
abbrev cX1_note : ByteArray := prog_3_method_7_code
def yX1_note : MethodName := ⟨RX1, "note", "(III)V"⟩
abbrev cX1_playInput : ByteArray := prog_3_method_8_code
def yX1_playInput : MethodName := ⟨RX1, "playInput", "(LLateSessions$Table;I)V"⟩
abbrev cX1_playEvent : ByteArray := prog_3_method_9_code
def yX1_playEvent : MethodName := ⟨RX1, "playEvent", "(IIII)I"⟩
abbrev cX1_playMark : ByteArray := prog_3_method_10_code
def yX1_playMark : MethodName := ⟨RX1, "playMark", "(II)V"⟩
abbrev cX1_playIdle : ByteArray := prog_3_method_11_code
def yX1_playIdle : MethodName := ⟨RX1, "playIdle", "(I)V"⟩
abbrev cX1_raiseMark : ByteArray := prog_3_method_12_code
def yX1_raiseMark : MethodName := ⟨RX1, "raiseMark", "(II)V"⟩
abbrev cX1_fateOf : ByteArray := prog_3_method_13_code
def yX1_fateOf : MethodName := ⟨RX1, "fateOf", "(I)I"⟩
abbrev cX1_isTakenOf : ByteArray := prog_3_method_14_code
def yX1_isTakenOf : MethodName := ⟨RX1, "isTakenOf", "(II)Z"⟩
abbrev cX1_hasResult : ByteArray := prog_3_method_15_code
def yX1_hasResult : MethodName := ⟨RX1, "hasResult", "(I)Z"⟩
abbrev cX1_isRipe : ByteArray := prog_3_method_16_code
def yX1_isRipe : MethodName := ⟨RX1, "isRipe", "(II)Z"⟩
abbrev cX1_isOver : ByteArray := prog_3_method_17_code
def yX1_isOver : MethodName := ⟨RX1, "isOver", "(II)Z"⟩
abbrev cX1_ripening : ByteArray := prog_3_method_18_code
def yX1_ripening : MethodName := ⟨RX1, "ripening", "(I)I"⟩
abbrev cX1_leastMark : ByteArray := prog_3_method_19_code
def yX1_leastMark : MethodName := ⟨RX1, "leastMark", "(I)I"⟩
abbrev cX1_sentOf : ByteArray := prog_3_method_20_code
def yX1_sentOf : MethodName := ⟨RX1, "sentOf", "(I)I"⟩
abbrev cX1_touches : ByteArray := prog_3_method_21_code
def yX1_touches : MethodName := ⟨RX1, "touches", "(III)Z"⟩
abbrev cX1_firstTouched : ByteArray := prog_3_method_22_code
def yX1_firstTouched : MethodName := ⟨RX1, "firstTouched", "(II)I"⟩
abbrev cX1_touchedFrom : ByteArray := prog_3_method_23_code
def yX1_touchedFrom : MethodName := ⟨RX1, "touchedFrom", "(III)I"⟩
abbrev cX1_melt : ByteArray := prog_3_method_24_code
def yX1_melt : MethodName := ⟨RX1, "melt", "(III)V"⟩
abbrev cX1_placeFor : ByteArray := prog_3_method_25_code
def yX1_placeFor : MethodName := ⟨RX1, "placeFor", "(II)I"⟩
abbrev cX1_swallowNext : ByteArray := prog_3_method_26_code
def yX1_swallowNext : MethodName := ⟨RX1, "swallowNext", "(I)V"⟩
abbrev cX1_kindOfNew : ByteArray := prog_3_method_27_code
def yX1_kindOfNew : MethodName := ⟨RX1, "kindOfNew", "(I)I"⟩
abbrev cX1_rise : ByteArray := prog_3_method_28_code
def yX1_rise : MethodName := ⟨RX1, "rise", "()V"⟩
abbrev cX1_turnOf : ByteArray := prog_3_method_29_code
def yX1_turnOf : MethodName := ⟨RX1, "turnOf", "(I)I"⟩
abbrev cX1_dueBehind : ByteArray := prog_3_method_30_code
def yX1_dueBehind : MethodName := ⟨RX1, "dueBehind", "(II)I"⟩
abbrev cX1_finish : ByteArray := prog_3_method_31_code
def yX1_finish : MethodName := ⟨RX1, "finish", "(I)V"⟩
abbrev cX1_takeBack : ByteArray := prog_3_method_32_code
def yX1_takeBack : MethodName := ⟨RX1, "takeBack", "(I)V"⟩
abbrev cX1_announce : ByteArray := prog_3_method_33_code
def yX1_announce : MethodName := ⟨RX1, "announce", "(II)V"⟩
abbrev cX1_send : ByteArray := prog_3_method_34_code
def yX1_send : MethodName := ⟨RX1, "send", "(II)V"⟩
abbrev cX2_init : ByteArray := prog_1_method_1_code
def yX2_init : MethodName := ⟨RX2, "<init>", "()V"⟩
abbrev cX2_sign : ByteArray := prog_1_method_2_code
def yX2_sign : MethodName := ⟨RX2, "sign", "(I)I"⟩
abbrev cX2_end : ByteArray := prog_1_method_3_code
def yX2_end : MethodName := ⟨RX2, "end", "(I)Z"⟩
abbrev cX2_start : ByteArray := prog_1_method_4_code
def yX2_start : MethodName := ⟨RX2, "start", "(IIII)I"⟩
abbrev cX2_delays : ByteArray := prog_1_method_5_code
def yX2_delays : MethodName := ⟨RX2, "delays", "(II)I"⟩
abbrev cX2_event : ByteArray := prog_1_method_6_code
def yX2_event : MethodName := ⟨RX2, "event", "(IIII)I"⟩
abbrev cX2_events : ByteArray := prog_1_method_7_code
def yX2_events : MethodName := ⟨RX2, "events", "()I"⟩
abbrev cX2_marks : ByteArray := prog_1_method_8_code
def yX2_marks : MethodName := ⟨RX2, "marks", "(II)I"⟩
abbrev cX2_idles : ByteArray := prog_1_method_9_code
def yX2_idles : MethodName := ⟨RX2, "idles", "(I)I"⟩
abbrev cX2_source : ByteArray := prog_1_method_10_code
def yX2_source : MethodName := ⟨RX2, "source", "(II)I"⟩
abbrev cX2_session : ByteArray := prog_1_method_11_code
def yX2_session : MethodName := ⟨RX2, "session", "(II)I"⟩
abbrev cX2_at : ByteArray := prog_1_method_12_code
def yX2_at : MethodName := ⟨RX2, "at", "(II)I"⟩
abbrev cX2_message : ByteArray := prog_1_method_13_code
def yX2_message : MethodName := ⟨RX2, "message", "(II)I"⟩
abbrev cX2_sent : ByteArray := prog_1_method_14_code
def yX2_sent : MethodName := ⟨RX2, "sent", "(I)I"⟩
abbrev cX2_stands : ByteArray := prog_1_method_15_code
def yX2_stands : MethodName := ⟨RX2, "stands", "()I"⟩
abbrev cX2_closed : ByteArray := prog_1_method_16_code
def yX2_closed : MethodName := ⟨RX2, "closed", "(I)I"⟩
abbrev cX2_finals : ByteArray := prog_1_method_17_code
def yX2_finals : MethodName := ⟨RX2, "finals", "(II)I"⟩
abbrev cX2_kinds : ByteArray := prog_1_method_18_code
def yX2_kinds : MethodName := ⟨RX2, "kinds", "(I)I"⟩
abbrev cX2_slow : ByteArray := prog_1_method_19_code
def yX2_slow : MethodName := ⟨RX2, "slow", "()I"⟩
abbrev cX2_span : ByteArray := prog_1_method_20_code
def yX2_span : MethodName := ⟨RX2, "span", "(II)I"⟩
abbrev cX2_taken : ByteArray := prog_1_method_21_code
def yX2_taken : MethodName := ⟨RX2, "taken", "()I"⟩
abbrev cX2_holds : ByteArray := prog_1_method_22_code
def yX2_holds : MethodName := ⟨RX2, "holds", "()I"⟩
abbrev cX2_next : ByteArray := prog_1_method_23_code
def yX2_next : MethodName := ⟨RX2, "next", "()I"⟩
abbrev cX2_ahead : ByteArray := prog_1_method_24_code
def yX2_ahead : MethodName := ⟨RX2, "ahead", "(I)I"⟩
abbrev cX2_would : ByteArray := prog_1_method_25_code
def yX2_would : MethodName := ⟨RX2, "would", "(IIII)I"⟩
abbrev cX2_batch : ByteArray := prog_1_method_26_code
def yX2_batch : MethodName := ⟨RX2, "batch", "(I)I"⟩
abbrev cX2_latest : ByteArray := prog_1_method_27_code
def yX2_latest : MethodName := ⟨RX2, "latest", "()I"⟩
abbrev cX2_parts : ByteArray := prog_1_method_28_code
def yX2_parts : MethodName := ⟨RX2, "parts", "(II)I"⟩
abbrev cX2_again : ByteArray := prog_1_method_29_code
def yX2_again : MethodName := ⟨RX2, "again", "(III)I"⟩
abbrev cX2_without : ByteArray := prog_1_method_30_code
def yX2_without : MethodName := ⟨RX2, "without", "(I)I"⟩
abbrev cX2_input : ByteArray := prog_1_method_31_code
def yX2_input : MethodName := ⟨RX2, "input", "(II)I"⟩
abbrev cX2_day : ByteArray := prog_1_method_32_code
def yX2_day : MethodName := ⟨RX2, "day", "()I"⟩
abbrev cX2_undo : ByteArray := prog_1_method_33_code
def yX2_undo : MethodName := ⟨RX2, "undo", "()I"⟩
abbrev cX2_years : ByteArray := prog_1_method_34_code
def yX2_years : MethodName := ⟨RX2, "years", "(II)I"⟩
abbrev cX2_keep : ByteArray := prog_1_method_35_code
def yX2_keep : MethodName := ⟨RX2, "keep", "(I)Z"⟩
abbrev cX2_back : ByteArray := prog_1_method_36_code
def yX2_back : MethodName := ⟨RX2, "back", "(I)Z"⟩
abbrev cX2_count : ByteArray := prog_1_method_37_code
def yX2_count : MethodName := ⟨RX2, "count", "(I)I"⟩
abbrev cX2_row : ByteArray := prog_1_method_38_code
def yX2_row : MethodName := ⟨RX2, "row", "(I)J"⟩
abbrev cX2_isKey : ByteArray := prog_1_method_39_code
def yX2_isKey : MethodName := ⟨RX2, "isKey", "(I)Z"⟩
abbrev cX2_isTime : ByteArray := prog_1_method_40_code
def yX2_isTime : MethodName := ⟨RX2, "isTime", "(I)Z"⟩
abbrev cX2_isSource : ByteArray := prog_1_method_41_code
def yX2_isSource : MethodName := ⟨RX2, "isSource", "(I)Z"⟩
abbrev cX2_isEvent : ByteArray := prog_1_method_42_code
def yX2_isEvent : MethodName := ⟨RX2, "isEvent", "(IIII)Z"⟩
abbrev cX2_areSettings : ByteArray := prog_1_method_43_code
def yX2_areSettings : MethodName := ⟨RX2, "areSettings", "(III)Z"⟩
abbrev cX2_eventRefusal : ByteArray := prog_1_method_44_code
def yX2_eventRefusal : MethodName := ⟨RX2, "eventRefusal", "(IIII)I"⟩
abbrev cX2_markRefusal : ByteArray := prog_1_method_45_code
def yX2_markRefusal : MethodName := ⟨RX2, "markRefusal", "(II)I"⟩
abbrev cX2_idleRefusal : ByteArray := prog_1_method_46_code
def yX2_idleRefusal : MethodName := ⟨RX2, "idleRefusal", "(I)I"⟩
abbrev cX2_inputRefusal : ByteArray := prog_1_method_47_code
def yX2_inputRefusal : MethodName := ⟨RX2, "inputRefusal", "()I"⟩
abbrev cX2_isOfLatest : ByteArray := prog_1_method_48_code
def yX2_isOfLatest : MethodName := ⟨RX2, "isOfLatest", "(III)Z"⟩
abbrev cX2_shifted : ByteArray := prog_1_method_49_code
def yX2_shifted : MethodName := ⟨RX2, "shifted", "(LLateSessions$Table;II)I"⟩
abbrev cX2_tellNothing : ByteArray := prog_1_method_50_code
def yX2_tellNothing : MethodName := ⟨RX2, "tellNothing", "()V"⟩
abbrev cX2_tellMore : ByteArray := prog_1_method_51_code
def yX2_tellMore : MethodName := ⟨RX2, "tellMore", "(J)V"⟩
abbrev cX2_tellOne : ByteArray := prog_1_method_52_code
def yX2_tellOne : MethodName := ⟨RX2, "tellOne", "(J)V"⟩
abbrev cX2_tellTwo : ByteArray := prog_1_method_53_code
def yX2_tellTwo : MethodName := ⟨RX2, "tellTwo", "(JJ)V"⟩
abbrev cX2_tellThree : ByteArray := prog_1_method_54_code
def yX2_tellThree : MethodName := ⟨RX2, "tellThree", "(JJJ)V"⟩
abbrev cX2_putSign : ByteArray := prog_1_method_55_code
def yX2_putSign : MethodName := ⟨RX2, "putSign", "(I)V"⟩
abbrev cX2_takeText : ByteArray := prog_1_method_56_code
def yX2_takeText : MethodName := ⟨RX2, "takeText", "()I"⟩
abbrev cX2_signAt : ByteArray := prog_1_method_57_code
def yX2_signAt : MethodName := ⟨RX2, "signAt", "(I)I"⟩
abbrev cX2_fits : ByteArray := prog_1_method_58_code
def yX2_fits : MethodName := ⟨RX2, "fits", "(IC)Z"⟩
abbrev cX2_formMisfit : ByteArray := prog_1_method_59_code
def yX2_formMisfit : MethodName := ⟨RX2, "formMisfit", "(IILjava/lang/String;)I"⟩
abbrev cX2_eventsMisfit : ByteArray := prog_1_method_60_code
def yX2_eventsMisfit : MethodName := ⟨RX2, "eventsMisfit", "(I)I"⟩
abbrev cX2_dayMisfit : ByteArray := prog_1_method_61_code
def yX2_dayMisfit : MethodName := ⟨RX2, "dayMisfit", "(I)I"⟩
abbrev cX2_actForm : ByteArray := prog_1_method_62_code
def yX2_actForm : MethodName := ⟨RX2, "actForm", "(I)Ljava/lang/String;"⟩
abbrev cX2_numberAt : ByteArray := prog_1_method_63_code
def yX2_numberAt : MethodName := ⟨RX2, "numberAt", "(II)I"⟩
abbrev cX2_keyAt : ByteArray := prog_1_method_64_code
def yX2_keyAt : MethodName := ⟨RX2, "keyAt", "(I)I"⟩
abbrev cX2_valueAt : ByteArray := prog_1_method_65_code
def yX2_valueAt : MethodName := ⟨RX2, "valueAt", "(I)I"⟩
abbrev cX2_comeEventAt : ByteArray := prog_1_method_66_code
def yX2_comeEventAt : MethodName := ⟨RX2, "comeEventAt", "(I)I"⟩
abbrev cX2_actRefusal : ByteArray := prog_1_method_67_code
def yX2_actRefusal : MethodName := ⟨RX2, "actRefusal", "(I)I"⟩
abbrev cX2_comeAct : ByteArray := prog_1_method_68_code
def yX2_comeAct : MethodName := ⟨RX2, "comeAct", "(I)V"⟩
abbrev cX2_remember : ByteArray := prog_1_method_69_code
def yX2_remember : MethodName := ⟨RX2, "remember", "()V"⟩
abbrev cX2_replay : ByteArray := prog_1_method_70_code
def yX2_replay : MethodName := ⟨RX2, "replay", "(IIII)V"⟩
abbrev cX2_sortTaken : ByteArray := prog_1_method_71_code
def yX2_sortTaken : MethodName := ⟨RX2, "sortTaken", "(I)I"⟩
abbrev cX2_sortedCell : ByteArray := prog_1_method_72_code
def yX2_sortedCell : MethodName := ⟨RX2, "sortedCell", "(II)I"⟩
abbrev cX2_holeBehind : ByteArray := prog_1_method_73_code
def yX2_holeBehind : MethodName := ⟨RX2, "holeBehind", "(I)I"⟩
abbrev cX2_drawAfter : ByteArray := prog_1_method_74_code
def yX2_drawAfter : MethodName := ⟨RX2, "drawAfter", "(I)I"⟩
abbrev cX2_drawOf : ByteArray := prog_1_method_75_code
def yX2_drawOf : MethodName := ⟨RX2, "drawOf", "(II)I"⟩
abbrev cX3_in : ByteArray := prog_5_method_2_code
def yX3_in : MethodName := ⟨RX3, "in", "(JJJ)Z"⟩
abbrev cX3_flag : ByteArray := prog_5_method_3_code
def yX3_flag : MethodName := ⟨RX3, "flag", "(Z)I"⟩
abbrev cX3_enters : ByteArray := prog_5_method_4_code
def yX3_enters : MethodName := ⟨RX3, "enters", "(J)V"⟩
abbrev cX3_sign : ByteArray := prog_5_method_5_code
def yX3_sign : MethodName := ⟨RX3, "sign", "(I)I"⟩
abbrev cX3_end : ByteArray := prog_5_method_6_code
def yX3_end : MethodName := ⟨RX3, "end", "(I)Z"⟩
abbrev cX3_reads : ByteArray := prog_5_method_7_code
def yX3_reads : MethodName := ⟨RX3, "reads", "()V"⟩
abbrev cX3_takesOf : ByteArray := prog_5_method_8_code
def yX3_takesOf : MethodName := ⟨RX3, "takesOf", "(Ljava/lang/String;)I"⟩
abbrev cX3_digits : ByteArray := prog_5_method_9_code
def yX3_digits : MethodName := ⟨RX3, "digits", "(I)I"⟩
abbrev cX3_init : ByteArray := prog_5_method_10_code
def yX3_init : MethodName := ⟨RX3, "<init>", "()V"⟩
abbrev cX3_copies : ByteArray := prog_5_method_11_code
def yX3_copies : MethodName := ⟨RX3, "copies", "(II)V"⟩
abbrev cX3_starts : ByteArray := prog_5_method_12_code
def yX3_starts : MethodName := ⟨RX3, "starts", "(IIIII)V"⟩
abbrev cX3_of : ByteArray := prog_5_method_13_code
def yX3_of : MethodName := ⟨RX3, "of", "(II)I"⟩
abbrev cX3_puts : ByteArray := prog_5_method_14_code
def yX3_puts : MethodName := ⟨RX3, "puts", "(III)V"⟩
abbrev cX3_adds : ByteArray := prog_5_method_15_code
def yX3_adds : MethodName := ⟨RX3, "adds", "(III)V"⟩
abbrev cX3_lays : ByteArray := prog_5_method_16_code
def yX3_lays : MethodName := ⟨RX3, "lays", "()V"⟩
abbrev cX3_done : ByteArray := prog_5_method_17_code
def yX3_done : MethodName := ⟨RX3, "done", "(I)I"⟩
abbrev cX3_undo : ByteArray := prog_5_method_18_code
def yX3_undo : MethodName := ⟨RX3, "undo", "()I"⟩
abbrev cX3_areSettings : ByteArray := prog_5_method_19_code
def yX3_areSettings : MethodName := ⟨RX3, "areSettings", "(III)Z"⟩
abbrev cX3_start : ByteArray := prog_5_method_20_code
def yX3_start : MethodName := ⟨RX3, "start", "(IIII)I"⟩
abbrev cX3_isSource : ByteArray := prog_5_method_21_code
def yX3_isSource : MethodName := ⟨RX3, "isSource", "(I)Z"⟩
abbrev cX3_delays : ByteArray := prog_5_method_22_code
def yX3_delays : MethodName := ⟨RX3, "delays", "(II)I"⟩
abbrev cX3_place : ByteArray := prog_5_method_23_code
def yX3_place : MethodName := ⟨RX3, "place", "(II)I"⟩
abbrev cX3_ofSession : ByteArray := prog_5_method_24_code
def yX3_ofSession : MethodName := ⟨RX3, "ofSession", "(III)I"⟩
abbrev cX3_goesOut : ByteArray := prog_5_method_25_code
def yX3_goesOut : MethodName := ⟨RX3, "goesOut", "(II)V"⟩
abbrev cX3_comesIn : ByteArray := prog_5_method_26_code
def yX3_comesIn : MethodName := ⟨RX3, "comesIn", "(I)I"⟩
abbrev cX3_isBehind : ByteArray := prog_5_method_27_code
def yX3_isBehind : MethodName := ⟨RX3, "isBehind", "(II)Z"⟩
abbrev cX3_sends : ByteArray := prog_5_method_28_code
def yX3_sends : MethodName := ⟨RX3, "sends", "(III)V"⟩
abbrev cX3_takesBack : ByteArray := prog_5_method_29_code
def yX3_takesBack : MethodName := ⟨RX3, "takesBack", "(II)V"⟩
abbrev cX3_isRipeBy : ByteArray := prog_5_method_30_code
def yX3_isRipeBy : MethodName := ⟨RX3, "isRipeBy", "(III)Z"⟩
abbrev cX3_isClosedBy : ByteArray := prog_5_method_31_code
def yX3_isClosedBy : MethodName := ⟨RX3, "isClosedBy", "(III)Z"⟩
abbrev cX3_leastMark : ByteArray := prog_5_method_32_code
def yX3_leastMark : MethodName := ⟨RX3, "leastMark", "(I)I"⟩
abbrev cX3_firstRipe : ByteArray := prog_5_method_33_code
def yX3_firstRipe : MethodName := ⟨RX3, "firstRipe", "(II)I"⟩
abbrev cX3_isDone : ByteArray := prog_5_method_34_code
def yX3_isDone : MethodName := ⟨RX3, "isDone", "(II)Z"⟩
abbrev cX3_rises : ByteArray := prog_5_method_35_code
def yX3_rises : MethodName := ⟨RX3, "rises", "(I)V"⟩
abbrev cX3_firstClosed : ByteArray := prog_5_method_36_code
def yX3_firstClosed : MethodName := ⟨RX3, "firstClosed", "(I)I"⟩
abbrev cX3_closes : ByteArray := prog_5_method_37_code
def yX3_closes : MethodName := ⟨RX3, "closes", "(II)V"⟩
abbrev cX3_notes : ByteArray := prog_5_method_38_code
def yX3_notes : MethodName := ⟨RX3, "notes", "(IIIIIII)V"⟩
abbrev cX3_melts : ByteArray := prog_5_method_39_code
def yX3_melts : MethodName := ⟨RX3, "melts", "(IIII)Z"⟩
abbrev cX3_joins : ByteArray := prog_5_method_40_code
def yX3_joins : MethodName := ⟨RX3, "joins", "(IIII)V"⟩
abbrev cX3_comes : ByteArray := prog_5_method_41_code
def yX3_comes : MethodName := ⟨RX3, "comes", "(IIIII)I"⟩
abbrev cX3_isMarked : ByteArray := prog_5_method_42_code
def yX3_isMarked : MethodName := ⟨RX3, "isMarked", "(III)V"⟩
abbrev cX3_isIdle : ByteArray := prog_5_method_43_code
def yX3_isIdle : MethodName := ⟨RX3, "isIdle", "(II)V"⟩
abbrev cX3_isEvent : ByteArray := prog_5_method_44_code
def yX3_isEvent : MethodName := ⟨RX3, "isEvent", "(IIII)Z"⟩
abbrev cX3_eventOne : ByteArray := prog_5_method_45_code
def yX3_eventOne : MethodName := ⟨RX3, "eventOne", "(IIII)I"⟩
abbrev cX3_entersSince : ByteArray := prog_5_method_46_code
def yX3_entersSince : MethodName := ⟨RX3, "entersSince", "(II)V"⟩
abbrev cX3_event : ByteArray := prog_5_method_47_code
def yX3_event : MethodName := ⟨RX3, "event", "(IIII)I"⟩
abbrev cX3_readsEvent : ByteArray := prog_5_method_48_code
def yX3_readsEvent : MethodName := ⟨RX3, "readsEvent", "(IZ)Z"⟩
abbrev cX3_events : ByteArray := prog_5_method_49_code
def yX3_events : MethodName := ⟨RX3, "events", "()I"⟩
abbrev cX3_marksOne : ByteArray := prog_5_method_50_code
def yX3_marksOne : MethodName := ⟨RX3, "marksOne", "(II)I"⟩
abbrev cX3_entersProgress : ByteArray := prog_5_method_51_code
def yX3_entersProgress : MethodName := ⟨RX3, "entersProgress", "()V"⟩
abbrev cX3_marks : ByteArray := prog_5_method_52_code
def yX3_marks : MethodName := ⟨RX3, "marks", "(II)I"⟩
abbrev cX3_idlesOne : ByteArray := prog_5_method_53_code
def yX3_idlesOne : MethodName := ⟨RX3, "idlesOne", "(I)I"⟩
abbrev cX3_idles : ByteArray := prog_5_method_54_code
def yX3_idles : MethodName := ⟨RX3, "idles", "(I)I"⟩
abbrev cX3_source : ByteArray := prog_5_method_55_code
def yX3_source : MethodName := ⟨RX3, "source", "(II)I"⟩
abbrev cX3_session : ByteArray := prog_5_method_56_code
def yX3_session : MethodName := ⟨RX3, "session", "(II)I"⟩
abbrev cX3_at : ByteArray := prog_5_method_57_code
def yX3_at : MethodName := ⟨RX3, "at", "(II)I"⟩
abbrev cX3_message : ByteArray := prog_5_method_58_code
def yX3_message : MethodName := ⟨RX3, "message", "(II)I"⟩
abbrev cX3_sent : ByteArray := prog_5_method_59_code
def yX3_sent : MethodName := ⟨RX3, "sent", "(I)I"⟩
abbrev cX3_stands : ByteArray := prog_5_method_60_code
def yX3_stands : MethodName := ⟨RX3, "stands", "()I"⟩
abbrev cX3_isKey : ByteArray := prog_5_method_61_code
def yX3_isKey : MethodName := ⟨RX3, "isKey", "(I)Z"⟩
abbrev cX3_closed : ByteArray := prog_5_method_62_code
def yX3_closed : MethodName := ⟨RX3, "closed", "(I)I"⟩
abbrev cX3_finals : ByteArray := prog_5_method_63_code
def yX3_finals : MethodName := ⟨RX3, "finals", "(II)I"⟩
abbrev cX3_kinds : ByteArray := prog_5_method_64_code
def yX3_kinds : MethodName := ⟨RX3, "kinds", "(I)I"⟩
abbrev cX3_slow : ByteArray := prog_5_method_65_code
def yX3_slow : MethodName := ⟨RX3, "slow", "()I"⟩
abbrev cX3_span : ByteArray := prog_5_method_66_code
def yX3_span : MethodName := ⟨RX3, "span", "(II)I"⟩
abbrev cX3_taken : ByteArray := prog_5_method_67_code
def yX3_taken : MethodName := ⟨RX3, "taken", "()I"⟩
abbrev cX3_holds : ByteArray := prog_5_method_68_code
def yX3_holds : MethodName := ⟨RX3, "holds", "()I"⟩
abbrev cX3_next : ByteArray := prog_5_method_69_code
def yX3_next : MethodName := ⟨RX3, "next", "()I"⟩
abbrev cX3_ahead : ByteArray := prog_5_method_70_code
def yX3_ahead : MethodName := ⟨RX3, "ahead", "(I)I"⟩
abbrev cX3_would : ByteArray := prog_5_method_71_code
def yX3_would : MethodName := ⟨RX3, "would", "(IIII)I"⟩
abbrev cX3_ofInput : ByteArray := prog_5_method_72_code
def yX3_ofInput : MethodName := ⟨RX3, "ofInput", "(II)I"⟩
abbrev cX3_laysTimes : ByteArray := prog_5_method_73_code
def yX3_laysTimes : MethodName := ⟨RX3, "laysTimes", "(I)V"⟩
abbrev cX3_fallsInto : ByteArray := prog_5_method_74_code
def yX3_fallsInto : MethodName := ⟨RX3, "fallsInto", "(I)I"⟩
abbrev cX3_batch : ByteArray := prog_5_method_75_code
def yX3_batch : MethodName := ⟨RX3, "batch", "(I)I"⟩
abbrev cX3_parts : ByteArray := prog_5_method_76_code
def yX3_parts : MethodName := ⟨RX3, "parts", "(II)I"⟩
abbrev cX3_comesAgain : ByteArray := prog_5_method_77_code
def yX3_comesAgain : MethodName := ⟨RX3, "comesAgain", "(II)V"⟩
abbrev cX3_startsAgain : ByteArray := prog_5_method_78_code
def yX3_startsAgain : MethodName := ⟨RX3, "startsAgain", "(III)V"⟩
abbrev cX3_closedMany : ByteArray := prog_5_method_79_code
def yX3_closedMany : MethodName := ⟨RX3, "closedMany", "(I)I"⟩
abbrev cX3_latest : ByteArray := prog_5_method_80_code
def yX3_latest : MethodName := ⟨RX3, "latest", "()I"⟩
abbrev cX3_again : ByteArray := prog_5_method_81_code
def yX3_again : MethodName := ⟨RX3, "again", "(III)I"⟩
abbrev cX3_without : ByteArray := prog_5_method_82_code
def yX3_without : MethodName := ⟨RX3, "without", "(I)I"⟩
abbrev cX3_input : ByteArray := prog_5_method_83_code
def yX3_input : MethodName := ⟨RX3, "input", "(II)I"⟩
abbrev cX3_readsAct : ByteArray := prog_5_method_84_code
def yX3_readsAct : MethodName := ⟨RX3, "readsAct", "(I)Z"⟩
abbrev cX3_doesAct : ByteArray := prog_5_method_85_code
def yX3_doesAct : MethodName := ⟨RX3, "doesAct", "(I)I"⟩
abbrev cX3_day : ByteArray := prog_5_method_86_code
def yX3_day : MethodName := ⟨RX3, "day", "()I"⟩
abbrev cX3_draws : ByteArray := prog_5_method_87_code
def yX3_draws : MethodName := ⟨RX3, "draws", "(I)I"⟩
abbrev cX3_years : ByteArray := prog_5_method_88_code
def yX3_years : MethodName := ⟨RX3, "years", "(II)I"⟩
abbrev cX3_keep : ByteArray := prog_5_method_89_code
def yX3_keep : MethodName := ⟨RX3, "keep", "(I)Z"⟩
abbrev cX3_back : ByteArray := prog_5_method_90_code
def yX3_back : MethodName := ⟨RX3, "back", "(I)Z"⟩
abbrev cX3_count : ByteArray := prog_5_method_91_code
def yX3_count : MethodName := ⟨RX3, "count", "(I)I"⟩
abbrev cX3_row : ByteArray := prog_5_method_92_code
def yX3_row : MethodName := ⟨RX3, "row", "(I)J"⟩
abbrev cJ9_max_7cf53 : ByteArray := prog_10_method_65_code
def yJ9_max_7cf53 : MethodName := ⟨RJ9, "max", "(II)I"⟩
abbrev cJ9_min_7cf53 : ByteArray := prog_10_method_69_code
def yJ9_min_7cf53 : MethodName := ⟨RJ9, "min", "(II)I"⟩
abbrev cJ0_length_8abf5 : ByteArray := prog_12_method_54_code
def yJ0_length_8abf5 : MethodName := ⟨RJ0, "length", "()I"⟩
abbrev cJ0_isEmpty_aae02 : ByteArray := prog_12_method_55_code
def yJ0_isEmpty_aae02 : MethodName := ⟨RJ0, "isEmpty", "()Z"⟩
abbrev cJ0_charAt_5068e : ByteArray := prog_12_method_56_code
def yJ0_charAt_5068e : MethodName := ⟨RJ0, "charAt", "(I)C"⟩
abbrev cJ0_coder_7d493 : ByteArray := prog_12_method_152_code
def yJ0_coder_7d493 : MethodName := ⟨RJ0, "coder", "()B"⟩
abbrev cJ0_isLatin1_aae02 : ByteArray := prog_12_method_154_code
def yJ0_isLatin1_aae02 : MethodName := ⟨RJ0, "isLatin1", "()Z"⟩
abbrev cJ0_checkIndex_df160 : ByteArray := prog_12_method_155_code
def yJ0_checkIndex_df160 : MethodName := ⟨RJ0, "checkIndex", "(II)V"⟩
abbrev cJ1_charAt_3b067 : ByteArray := prog_13_method_2_code
def yJ1_charAt_3b067 : MethodName := ⟨RJ1, "charAt", "([BI)C"⟩
abbrev cJ7_fill_53178 : ByteArray := prog_19_method_103_code
def yJ7_fill_53178 : MethodName := ⟨RJ7, "fill", "([II)V"⟩
abbrev cJ3_checkIndex_8e157 : ByteArray := prog_21_method_11_code
def yJ3_checkIndex_8e157 : MethodName := ⟨RJ3, "checkIndex", "(IILjava/util/function/BiFunction;)I"⟩
abbrev cL_source : ByteArray := method_3_code
def yL_source : MethodName := ⟨RL, "source", "(LLateSessions;II[J)I"⟩
abbrev cL_session : ByteArray := method_4_code
def yL_session : MethodName := ⟨RL, "session", "(LLateSessions;II[J)I"⟩
abbrev cL_message : ByteArray := method_5_code
def yL_message : MethodName := ⟨RL, "message", "(LLateSessions;II[J)I"⟩
abbrev cL_finals : ByteArray := method_6_code
def yL_finals : MethodName := ⟨RL, "finals", "(LLateSessions;II[J)I"⟩
abbrev cL_input : ByteArray := method_7_code
def yL_input : MethodName := ⟨RL, "input", "(LLateSessions;II[J)I"⟩
abbrev cL_row : ByteArray := method_8_code
def yL_row : MethodName := ⟨RL, "row", "(LLateSessions;I[J)I"⟩
abbrev cL_law : ByteArray := code
def yL_law : MethodName := ⟨RL, "law", "([I)Z"⟩
end
-- 016.zd
section
/-! ===== bytes read alike at two places: what stands at a place of a method's code, by the few bytes that stand there ===== -/
def zH (B C : ByteArray) (o : Nat) : Prop := ∀ (k : Nat) (h : k < B.size), ∃ h' : o + k < C.size, C[o + k] = B[k]
def zL {α : Type} (r r' : Reader DecodeError α) : Prop :=
  ∀ (B C : ByteArray) (o : Nat), zH B C o → ∀ (p : Nat) (a : α) (q : Nat), Reader.runAt r B p = .ok (a, q) → Reader.runAt r' C (o + p) = .ok (a, o + q)
theorem zu_ok (B : ByteArray) (p : Nat) (h : p < B.size) : Reader.runAt (Reader.u1 : Reader DecodeError Nat) B p = .ok (B[p].toNat, p + 1) := by
  have e : Reader.runAt (Reader.u1 : Reader DecodeError Nat) B p = (dite (p < B.size) (fun h => (do set (p + 1); pure B[p].toNat : Reader DecodeError Nat)) (fun _ => throw (HasTruncated.truncated p))) B p := rfl
  rw [e, dif_pos h]; rfl
theorem zu_no (B : ByteArray) (p : Nat) (h : ¬ p < B.size) : Reader.runAt (Reader.u1 : Reader DecodeError Nat) B p = .error (HasTruncated.truncated p) := by
  have e : Reader.runAt (Reader.u1 : Reader DecodeError Nat) B p = (dite (p < B.size) (fun h => (do set (p + 1); pure B[p].toNat : Reader DecodeError Nat)) (fun _ => throw (HasTruncated.truncated p))) B p := rfl
  rw [e, dif_neg h]; rfl
theorem zb_e {α β : Type} (r : Reader DecodeError α) (k : α → Reader DecodeError β) (B : ByteArray) (p : Nat) : Reader.runAt (r >>= k) B p = (Reader.runAt r B p).bind (fun x => Reader.runAt (k x.1) B x.2) := rfl
theorem zLp {α : Type} (a : α) : zL (pure a) (pure a) := by
  intro B C o _ p b q h
  have h' : Except.ok (ε := DecodeError) (a, p) = .ok (b, q) := h
  injection h' with h'
  injection h' with h1 h2
  subst h1; subst h2; rfl
theorem zLb {α β : Type} {r r' : Reader DecodeError α} {k k' : α → Reader DecodeError β} (h : zL r r') (hk : ∀ a, zL (k a) (k' a)) : zL (r >>= k) (r' >>= k') := by
  intro B C o hB p a q hr
  rw [zb_e] at hr
  rw [zb_e]
  cases hx : Reader.runAt r B p with
  | error _ => rw [hx] at hr; cases hr
  | ok x =>
    obtain ⟨a1, q1⟩ := x
    rw [hx] at hr
    rw [h B C o hB p a1 q1 hx]
    exact hk a1 B C o hB q1 a q hr
theorem zLu : zL Reader.u1 Reader.u1 := by
  intro B C o hB p a q hr
  by_cases h : p < B.size
  · obtain ⟨h1, h2⟩ := hB p h
    rw [zu_ok B p h] at hr
    injection hr with hr
    injection hr with e1 e2
    subst e1; subst e2
    rw [zu_ok C (o + p) h1, h2]; rfl
  · rw [zu_no B p h] at hr; cases hr
theorem zLm {α β : Type} (f : α → β) {r r' : Reader DecodeError α} (h : zL r r') : zL (f <$> r) (f <$> r') := by
  have e : ∀ s : Reader DecodeError α, f <$> s = s >>= fun a => pure (f a) := fun s => rfl
  rw [e, e]
  exact zLb h (fun _ => zLp _)
theorem zLu2 : zL Reader.u2 Reader.u2 := zLb zLu (fun _ => zLb zLu (fun _ => zLp _))
theorem zLs1 : zL Reader.s1 Reader.s1 := zLm _ zLu
theorem zLs2 : zL Reader.s2 Reader.s2 := zLm _ zLu2
def zO (b : Nat) : Prop := ∀ (pc : Nat) (B C : ByteArray) (o : Nat), zH B C o → (∀ h : 0 < B.size, B[0].toNat = b) → ∀ (a : Instr) (q : Nat), Reader.runAt (Decoder.instr 0) B 0 = .ok (a, q) → Reader.runAt (Decoder.instr pc) C o = .ok (a, o + q)
theorem zO_of (k : Nat → Nat → Decoder Instr) (e : ∀ pc, Decoder.instr pc = Reader.u1 >>= k pc) (b : Nat) (h : ∀ pc, zL (k 0 b) (k pc b)) : zO b := by
  intro pc B C o hB hb a q hr
  rw [e 0, zb_e] at hr
  rw [e pc, zb_e]
  by_cases h0 : 0 < B.size
  · obtain ⟨h1, h2⟩ := hB 0 h0
    have h1' : o < C.size := h1
    have h2' : C[o]'h1' = B[0] := h2
    rw [zu_ok B 0 h0] at hr
    rw [zu_ok C o h1']
    have hr' : Reader.runAt (k 0 (B[0].toNat)) B 1 = .ok (a, q) := hr
    rw [hb h0] at hr'
    have g := h pc B C o hB 1 a q hr'
    show Reader.runAt (k pc (C[o]'h1').toNat) C (o + 1) = _
    rw [h2', hb h0]
    exact g
  · rw [zu_no B 0 h0] at hr; cases hr
def zP : List UInt8 → List UInt8 → Bool
  | [], _ => true
  | _ :: _, [] => false
  | b :: bs, x :: xs => bif Nat.beq x.toNat b.toNat then zP bs xs else false
theorem zP_at : ∀ (bs l : List UInt8), zP bs l = true → ∀ (k : Nat) (h : k < bs.length), ∃ h' : k < l.length, l[k] = bs[k]
  | [], l, _, k, h => absurd h (Nat.not_lt_zero k)
  | b :: bs, [], h, _, _ => by cases h
  | b :: bs, x :: xs, h, k, hk => by
    rw [zP] at h
    cases hx : Nat.beq x.toNat b.toNat with
    | false => rw [hx] at h; cases h
    | true =>
      rw [hx] at h
      have e : x = b := UInt8.toNat_inj.mp (Nat.eq_of_beq_eq_true hx)
      cases k with
      | zero => exact ⟨Nat.succ_pos _, e⟩
      | succ k =>
        obtain ⟨h1, h2⟩ := zP_at bs xs h k (Nat.lt_of_succ_lt_succ hk)
        exact ⟨Nat.succ_lt_succ h1, h2⟩
/-- what a few bytes spell, wherever they stand -/
def zQ (bs : List UInt8) (i : Instr) (n : Nat) : Prop := (∃ b, zO b ∧ bs.head?.map UInt8.toNat = some b) ∧ decode ⟨⟨bs⟩⟩ 0 = .ok (i, n)
theorem zd_e (c : ByteArray) (pc : Nat) : decode c pc = (Reader.runAt (Decoder.instr pc) c pc).bind (fun x => .ok (x.1, x.2 - pc)) := rfl
theorem zd {bs : List UInt8} {i : Instr} {n : Nat} {c : ByteArray} {pc : Nat} (q : zQ bs i n) (h : zP bs (c.data.toList.drop pc) = true) : decode c pc = .ok (i, n) := by
  obtain ⟨⟨b, hO, hb⟩, hd⟩ := q
  have hH : zH ⟨⟨bs⟩⟩ c pc := by
    intro k hk
    obtain ⟨h1, h2⟩ := zP_at bs _ h k hk
    have h3 : pc + k < c.data.toList.length := by rw [List.length_drop] at h1; omega
    rw [List.getElem_drop] at h2
    exact ⟨h3, h2⟩
  have hB : ∀ h : 0 < (⟨⟨bs⟩⟩ : ByteArray).size, (⟨⟨bs⟩⟩ : ByteArray)[0].toNat = b := by
    intro h0
    cases bs with
    | nil => exact absurd h0 (Nat.not_lt_zero 0)
    | cons x r => exact Option.some.inj hb
  rw [zd_e] at hd
  rw [zd_e]
  cases hx : Reader.runAt (Decoder.instr 0) ⟨⟨bs⟩⟩ 0 with
  | error _ => rw [hx] at hd; cases hd
  | ok x =>
    obtain ⟨a, r⟩ := x
    rw [hx] at hd
    have hd' : Except.ok (ε := DecodeError) (a, r) = .ok (i, n) := hd
    injection hd' with hd'
    injection hd' with e1 e2
    subst e1; subst e2
    rw [hO pc _ c pc hH hB a r hx]
    show Except.ok (a, pc + r - pc) = _
    rw [Nat.add_sub_cancel_left]
theorem zo_2 : zO 2 := zO_of _ (fun _ => rfl) 2 (fun _ => zLp _)
theorem zo_3 : zO 3 := zO_of _ (fun _ => rfl) 3 (fun _ => zLp _)
theorem zo_4 : zO 4 := zO_of _ (fun _ => rfl) 4 (fun _ => zLp _)
theorem zo_5 : zO 5 := zO_of _ (fun _ => rfl) 5 (fun _ => zLp _)
theorem zo_6 : zO 6 := zO_of _ (fun _ => rfl) 6 (fun _ => zLp _)
theorem zo_7 : zO 7 := zO_of _ (fun _ => rfl) 7 (fun _ => zLp _)
theorem zo_8 : zO 8 := zO_of _ (fun _ => rfl) 8 (fun _ => zLp _)
theorem zo_9 : zO 9 := zO_of _ (fun _ => rfl) 9 (fun _ => zLp _)
theorem zo_10 : zO 10 := zO_of _ (fun _ => rfl) 10 (fun _ => zLp _)
theorem zo_16 : zO 16 := zO_of _ (fun _ => rfl) 16 (fun _ => zLb zLs1 (fun _ => zLp _))
theorem zo_17 : zO 17 := zO_of _ (fun _ => rfl) 17 (fun _ => zLb zLs2 (fun _ => zLp _))
theorem zo_18 : zO 18 := zO_of _ (fun _ => rfl) 18 (fun _ => zLb zLu (fun _ => zLp _))
theorem zo_19 : zO 19 := zO_of _ (fun _ => rfl) 19 (fun _ => zLb zLu2 (fun _ => zLp _))
theorem zo_20 : zO 20 := zO_of _ (fun _ => rfl) 20 (fun _ => zLb zLu2 (fun _ => zLp _))
theorem zo_21 : zO 21 := zO_of _ (fun _ => rfl) 21 (fun _ => zLb zLu (fun _ => zLp _))
theorem zo_22 : zO 22 := zO_of _ (fun _ => rfl) 22 (fun _ => zLb zLu (fun _ => zLp _))
theorem zo_25 : zO 25 := zO_of _ (fun _ => rfl) 25 (fun _ => zLb zLu (fun _ => zLp _))
theorem zo_26 : zO 26 := zO_of _ (fun _ => rfl) 26 (fun _ => zLp _)
theorem zo_27 : zO 27 := zO_of _ (fun _ => rfl) 27 (fun _ => zLp _)
theorem zo_28 : zO 28 := zO_of _ (fun _ => rfl) 28 (fun _ => zLp _)
theorem zo_29 : zO 29 := zO_of _ (fun _ => rfl) 29 (fun _ => zLp _)
theorem zo_30 : zO 30 := zO_of _ (fun _ => rfl) 30 (fun _ => zLp _)
theorem zo_31 : zO 31 := zO_of _ (fun _ => rfl) 31 (fun _ => zLp _)
theorem zo_32 : zO 32 := zO_of _ (fun _ => rfl) 32 (fun _ => zLp _)
theorem zo_33 : zO 33 := zO_of _ (fun _ => rfl) 33 (fun _ => zLp _)
theorem zo_42 : zO 42 := zO_of _ (fun _ => rfl) 42 (fun _ => zLp _)
theorem zo_43 : zO 43 := zO_of _ (fun _ => rfl) 43 (fun _ => zLp _)
theorem zo_44 : zO 44 := zO_of _ (fun _ => rfl) 44 (fun _ => zLp _)
theorem zo_45 : zO 45 := zO_of _ (fun _ => rfl) 45 (fun _ => zLp _)
theorem zo_46 : zO 46 := zO_of _ (fun _ => rfl) 46 (fun _ => zLp _)
theorem zo_47 : zO 47 := zO_of _ (fun _ => rfl) 47 (fun _ => zLp _)
theorem zo_50 : zO 50 := zO_of _ (fun _ => rfl) 50 (fun _ => zLp _)
theorem zo_51 : zO 51 := zO_of _ (fun _ => rfl) 51 (fun _ => zLp _)
theorem zo_54 : zO 54 := zO_of _ (fun _ => rfl) 54 (fun _ => zLb zLu (fun _ => zLp _))
theorem zo_55 : zO 55 := zO_of _ (fun _ => rfl) 55 (fun _ => zLb zLu (fun _ => zLp _))
theorem zo_58 : zO 58 := zO_of _ (fun _ => rfl) 58 (fun _ => zLb zLu (fun _ => zLp _))
theorem zo_60 : zO 60 := zO_of _ (fun _ => rfl) 60 (fun _ => zLp _)
theorem zo_61 : zO 61 := zO_of _ (fun _ => rfl) 61 (fun _ => zLp _)
theorem zo_62 : zO 62 := zO_of _ (fun _ => rfl) 62 (fun _ => zLp _)
theorem zo_76 : zO 76 := zO_of _ (fun _ => rfl) 76 (fun _ => zLp _)
theorem zo_77 : zO 77 := zO_of _ (fun _ => rfl) 77 (fun _ => zLp _)
theorem zo_78 : zO 78 := zO_of _ (fun _ => rfl) 78 (fun _ => zLp _)
theorem zo_79 : zO 79 := zO_of _ (fun _ => rfl) 79 (fun _ => zLp _)
theorem zo_80 : zO 80 := zO_of _ (fun _ => rfl) 80 (fun _ => zLp _)
theorem zo_83 : zO 83 := zO_of _ (fun _ => rfl) 83 (fun _ => zLp _)
theorem zo_84 : zO 84 := zO_of _ (fun _ => rfl) 84 (fun _ => zLp _)
theorem zo_87 : zO 87 := zO_of _ (fun _ => rfl) 87 (fun _ => zLp _)
theorem zo_89 : zO 89 := zO_of _ (fun _ => rfl) 89 (fun _ => zLp _)
theorem zo_92 : zO 92 := zO_of _ (fun _ => rfl) 92 (fun _ => zLp _)
theorem zo_96 : zO 96 := zO_of _ (fun _ => rfl) 96 (fun _ => zLp _)
theorem zo_100 : zO 100 := zO_of _ (fun _ => rfl) 100 (fun _ => zLp _)
theorem zo_104 : zO 104 := zO_of _ (fun _ => rfl) 104 (fun _ => zLp _)
theorem zo_108 : zO 108 := zO_of _ (fun _ => rfl) 108 (fun _ => zLp _)
theorem zo_112 : zO 112 := zO_of _ (fun _ => rfl) 112 (fun _ => zLp _)
theorem zo_116 : zO 116 := zO_of _ (fun _ => rfl) 116 (fun _ => zLp _)
theorem zo_120 : zO 120 := zO_of _ (fun _ => rfl) 120 (fun _ => zLp _)
theorem zo_122 : zO 122 := zO_of _ (fun _ => rfl) 122 (fun _ => zLp _)
theorem zo_124 : zO 124 := zO_of _ (fun _ => rfl) 124 (fun _ => zLp _)
theorem zo_126 : zO 126 := zO_of _ (fun _ => rfl) 126 (fun _ => zLp _)
theorem zo_128 : zO 128 := zO_of _ (fun _ => rfl) 128 (fun _ => zLp _)
theorem zo_132 : zO 132 := zO_of _ (fun _ => rfl) 132 (fun _ => zLb zLu (fun _ => zLb zLs1 (fun _ => zLp _)))
theorem zo_133 : zO 133 := zO_of _ (fun _ => rfl) 133 (fun _ => zLp _)
theorem zo_146 : zO 146 := zO_of _ (fun _ => rfl) 146 (fun _ => zLp _)
theorem zo_148 : zO 148 := zO_of _ (fun _ => rfl) 148 (fun _ => zLp _)
theorem zo_153 : zO 153 := zO_of _ (fun _ => rfl) 153 (fun _ => zLb zLs2 (fun _ => zLp _))
theorem zo_154 : zO 154 := zO_of _ (fun _ => rfl) 154 (fun _ => zLb zLs2 (fun _ => zLp _))
theorem zo_155 : zO 155 := zO_of _ (fun _ => rfl) 155 (fun _ => zLb zLs2 (fun _ => zLp _))
theorem zo_156 : zO 156 := zO_of _ (fun _ => rfl) 156 (fun _ => zLb zLs2 (fun _ => zLp _))
theorem zo_157 : zO 157 := zO_of _ (fun _ => rfl) 157 (fun _ => zLb zLs2 (fun _ => zLp _))
theorem zo_158 : zO 158 := zO_of _ (fun _ => rfl) 158 (fun _ => zLb zLs2 (fun _ => zLp _))
theorem zo_159 : zO 159 := zO_of _ (fun _ => rfl) 159 (fun _ => zLb zLs2 (fun _ => zLp _))
theorem zo_160 : zO 160 := zO_of _ (fun _ => rfl) 160 (fun _ => zLb zLs2 (fun _ => zLp _))
theorem zo_161 : zO 161 := zO_of _ (fun _ => rfl) 161 (fun _ => zLb zLs2 (fun _ => zLp _))
theorem zo_162 : zO 162 := zO_of _ (fun _ => rfl) 162 (fun _ => zLb zLs2 (fun _ => zLp _))
theorem zo_163 : zO 163 := zO_of _ (fun _ => rfl) 163 (fun _ => zLb zLs2 (fun _ => zLp _))
theorem zo_164 : zO 164 := zO_of _ (fun _ => rfl) 164 (fun _ => zLb zLs2 (fun _ => zLp _))
theorem zo_167 : zO 167 := zO_of _ (fun _ => rfl) 167 (fun _ => zLb zLs2 (fun _ => zLp _))
theorem zo_172 : zO 172 := zO_of _ (fun _ => rfl) 172 (fun _ => zLp _)
theorem zo_173 : zO 173 := zO_of _ (fun _ => rfl) 173 (fun _ => zLp _)
theorem zo_176 : zO 176 := zO_of _ (fun _ => rfl) 176 (fun _ => zLp _)
theorem zo_177 : zO 177 := zO_of _ (fun _ => rfl) 177 (fun _ => zLp _)
theorem zo_178 : zO 178 := zO_of _ (fun _ => rfl) 178 (fun _ => zLb zLu2 (fun _ => zLp _))
theorem zo_180 : zO 180 := zO_of _ (fun _ => rfl) 180 (fun _ => zLb zLu2 (fun _ => zLp _))
theorem zo_181 : zO 181 := zO_of _ (fun _ => rfl) 181 (fun _ => zLb zLu2 (fun _ => zLp _))
theorem zo_182 : zO 182 := zO_of _ (fun _ => rfl) 182 (fun _ => zLb zLu2 (fun _ => zLp _))
theorem zo_183 : zO 183 := zO_of _ (fun _ => rfl) 183 (fun _ => zLb zLu2 (fun _ => zLp _))
theorem zo_184 : zO 184 := zO_of _ (fun _ => rfl) 184 (fun _ => zLb zLu2 (fun _ => zLp _))
theorem zo_187 : zO 187 := zO_of _ (fun _ => rfl) 187 (fun _ => zLb zLu2 (fun _ => zLp _))
theorem zo_189 : zO 189 := zO_of _ (fun _ => rfl) 189 (fun _ => zLb zLu2 (fun _ => zLp _))
theorem zo_190 : zO 190 := zO_of _ (fun _ => rfl) 190 (fun _ => zLp _)
theorem zo_191 : zO 191 := zO_of _ (fun _ => rfl) 191 (fun _ => zLp _)
theorem zo_198 : zO 198 := zO_of _ (fun _ => rfl) 198 (fun _ => zLb zLs2 (fun _ => zLp _))
theorem zo_199 : zO 199 := zO_of _ (fun _ => rfl) 199 (fun _ => zLb zLs2 (fun _ => zLp _))
theorem zq_0 : zQ [42] (.aload_n 0) 1 := ⟨⟨42, zo_42, rfl⟩, by decide +kernel⟩
theorem zq_1 : zQ [183, 0, 1] (.invokespecial 1) 3 := ⟨⟨183, zo_183, rfl⟩, by decide +kernel⟩
theorem zq_2 : zQ [3] (.iconst 0) 1 := ⟨⟨3, zo_3, rfl⟩, by decide +kernel⟩
theorem zq_3 : zQ [27] (.iload_n 1) 1 := ⟨⟨27, zo_27, rfl⟩, by decide +kernel⟩
theorem zq_4 : zQ [184, 0, 7] (.invokestatic 7) 3 := ⟨⟨184, zo_184, rfl⟩, by decide +kernel⟩
theorem zq_6 : zQ [28] (.iload_n 2) 1 := ⟨⟨28, zo_28, rfl⟩, by decide +kernel⟩
theorem zq_8 : zQ [180, 0, 13] (.getfield 13) 3 := ⟨⟨180, zo_180, rfl⟩, by decide +kernel⟩
theorem zq_9 : zQ [180, 0, 19] (.getfield 19) 3 := ⟨⟨180, zo_180, rfl⟩, by decide +kernel⟩
theorem zq_10 : zQ [104] (.imul) 1 := ⟨⟨104, zo_104, rfl⟩, by decide +kernel⟩
theorem zq_12 : zQ [177] (.return_) 1 := ⟨⟨177, zo_177, rfl⟩, by decide +kernel⟩
theorem zq_13 : zQ [155, 0, 23] (.ifCond .lt 23) 3 := ⟨⟨155, zo_155, rfl⟩, by decide +kernel⟩
theorem zq_14 : zQ [162, 0, 15] (.if_icmp .ge 15) 3 := ⟨⟨162, zo_162, rfl⟩, by decide +kernel⟩
theorem zq_15 : zQ [155, 0, 11] (.ifCond .lt 11) 3 := ⟨⟨155, zo_155, rfl⟩, by decide +kernel⟩
theorem zq_16 : zQ [161, 0, 5] (.if_icmp .lt 5) 3 := ⟨⟨161, zo_161, rfl⟩, by decide +kernel⟩
theorem zq_17 : zQ [172] (.ireturn) 1 := ⟨⟨172, zo_172, rfl⟩, by decide +kernel⟩
theorem zq_18 : zQ [180, 0, 22] (.getfield 22) 3 := ⟨⟨180, zo_180, rfl⟩, by decide +kernel⟩
theorem zq_19 : zQ [96] (.iadd) 1 := ⟨⟨96, zo_96, rfl⟩, by decide +kernel⟩
theorem zq_20 : zQ [46] (.iaload) 1 := ⟨⟨46, zo_46, rfl⟩, by decide +kernel⟩
theorem zq_21 : zQ [155, 0, 37] (.ifCond .lt 37) 3 := ⟨⟨155, zo_155, rfl⟩, by decide +kernel⟩
theorem zq_22 : zQ [162, 0, 29] (.if_icmp .ge 29) 3 := ⟨⟨162, zo_162, rfl⟩, by decide +kernel⟩
theorem zq_23 : zQ [155, 0, 25] (.ifCond .lt 25) 3 := ⟨⟨155, zo_155, rfl⟩, by decide +kernel⟩
theorem zq_24 : zQ [162, 0, 17] (.if_icmp .ge 17) 3 := ⟨⟨162, zo_162, rfl⟩, by decide +kernel⟩
theorem zq_25 : zQ [29] (.iload_n 3) 1 := ⟨⟨29, zo_29, rfl⟩, by decide +kernel⟩
theorem zq_26 : zQ [79] (.iastore) 1 := ⟨⟨79, zo_79, rfl⟩, by decide +kernel⟩
theorem zq_27 : zQ [155, 0, 40] (.ifCond .lt 40) 3 := ⟨⟨155, zo_155, rfl⟩, by decide +kernel⟩
theorem zq_28 : zQ [162, 0, 32] (.if_icmp .ge 32) 3 := ⟨⟨162, zo_162, rfl⟩, by decide +kernel⟩
theorem zq_29 : zQ [155, 0, 28] (.ifCond .lt 28) 3 := ⟨⟨155, zo_155, rfl⟩, by decide +kernel⟩
theorem zq_30 : zQ [162, 0, 20] (.if_icmp .ge 20) 3 := ⟨⟨162, zo_162, rfl⟩, by decide +kernel⟩
theorem zq_31 : zQ [92] (.dup2) 1 := ⟨⟨92, zo_92, rfl⟩, by decide +kernel⟩
theorem zq_32 : zQ [181, 0, 26] (.putfield 26) 3 := ⟨⟨181, zo_181, rfl⟩, by decide +kernel⟩
theorem zq_33 : zQ [180, 0, 26] (.getfield 26) 3 := ⟨⟨180, zo_180, rfl⟩, by decide +kernel⟩
theorem zq_34 : zQ [161, 0, 18] (.if_icmp .lt 18) 3 := ⟨⟨161, zo_161, rfl⟩, by decide +kernel⟩
theorem zq_35 : zQ [162, 0, 10] (.if_icmp .ge 10) 3 := ⟨⟨162, zo_162, rfl⟩, by decide +kernel⟩
theorem zq_36 : zQ [4] (.iconst 1) 1 := ⟨⟨4, zo_4, rfl⟩, by decide +kernel⟩
theorem zq_37 : zQ [155, 0, 22] (.ifCond .lt 22) 3 := ⟨⟨155, zo_155, rfl⟩, by decide +kernel⟩
theorem zq_38 : zQ [163, 0, 14] (.if_icmp .gt 14) 3 := ⟨⟨163, zo_163, rfl⟩, by decide +kernel⟩
theorem zq_39 : zQ [100] (.isub) 1 := ⟨⟨100, zo_100, rfl⟩, by decide +kernel⟩
theorem zq_40 : zQ [184, 0, 29] (.invokestatic 29) 3 := ⟨⟨184, zo_184, rfl⟩, by decide +kernel⟩
theorem zq_41 : zQ [61] (.istore_n 2) 1 := ⟨⟨61, zo_61, rfl⟩, by decide +kernel⟩
theorem zq_42 : zQ [162, 0, 16] (.if_icmp .ge 16) 3 := ⟨⟨162, zo_162, rfl⟩, by decide +kernel⟩
theorem zq_43 : zQ [182, 0, 35] (.invokevirtual 35) 3 := ⟨⟨182, zo_182, rfl⟩, by decide +kernel⟩
theorem zq_44 : zQ [132, 2, 1] (.iinc 2 1) 3 := ⟨⟨132, zo_132, rfl⟩, by decide +kernel⟩
theorem zq_45 : zQ [167, 255, 238] (.goto (-18)) 3 := ⟨⟨167, zo_167, rfl⟩, by decide +kernel⟩
theorem zq_46 : zQ [89] (.dup) 1 := ⟨⟨89, zo_89, rfl⟩, by decide +kernel⟩
theorem zq_47 : zQ [161, 0, 4] (.if_icmp .lt 4) 3 := ⟨⟨161, zo_161, rfl⟩, by decide +kernel⟩
theorem zq_48 : zQ [44] (.aload_n 2) 1 := ⟨⟨44, zo_44, rfl⟩, by decide +kernel⟩
theorem zq_49 : zQ [199, 0, 4] (.ifnonnull 4) 3 := ⟨⟨199, zo_199, rfl⟩, by decide +kernel⟩
theorem zq_50 : zQ [54, 4] (.istore 4) 2 := ⟨⟨54, zo_54, rfl⟩, by decide +kernel⟩
theorem zq_51 : zQ [21, 4] (.iload 4) 2 := ⟨⟨21, zo_21, rfl⟩, by decide +kernel⟩
theorem zq_52 : zQ [162, 0, 23] (.if_icmp .ge 23) 3 := ⟨⟨162, zo_162, rfl⟩, by decide +kernel⟩
theorem zq_53 : zQ [182, 0, 39] (.invokevirtual 39) 3 := ⟨⟨182, zo_182, rfl⟩, by decide +kernel⟩
theorem zq_54 : zQ [132, 4, 1] (.iinc 4 1) 3 := ⟨⟨132, zo_132, rfl⟩, by decide +kernel⟩
theorem zq_55 : zQ [167, 255, 230] (.goto (-26)) 3 := ⟨⟨167, zo_167, rfl⟩, by decide +kernel⟩
theorem zq_56 : zQ [43] (.aload_n 1) 1 := ⟨⟨43, zo_43, rfl⟩, by decide +kernel⟩
theorem zq_57 : zQ [198, 0, 16] (.ifnull 16) 3 := ⟨⟨198, zo_198, rfl⟩, by decide +kernel⟩
theorem zq_58 : zQ [190] (.arraylength) 1 := ⟨⟨190, zo_190, rfl⟩, by decide +kernel⟩
theorem zq_59 : zQ [159, 0, 4] (.if_icmp .eq 4) 3 := ⟨⟨159, zo_159, rfl⟩, by decide +kernel⟩
theorem zq_60 : zQ [184, 0, 42] (.invokestatic 42) 3 := ⟨⟨184, zo_184, rfl⟩, by decide +kernel⟩
theorem zq_61 : zQ [183, 0, 3] (.invokespecial 3) 3 := ⟨⟨183, zo_183, rfl⟩, by decide +kernel⟩
theorem zq_62 : zQ [187, 0, 9] (.new 9) 3 := ⟨⟨187, zo_187, rfl⟩, by decide +kernel⟩
theorem zq_63 : zQ [7] (.iconst 4) 1 := ⟨⟨7, zo_7, rfl⟩, by decide +kernel⟩
theorem zq_64 : zQ [8] (.iconst 5) 1 := ⟨⟨8, zo_8, rfl⟩, by decide +kernel⟩
theorem zq_65 : zQ [183, 0, 11] (.invokespecial 11) 3 := ⟨⟨183, zo_183, rfl⟩, by decide +kernel⟩
theorem zq_66 : zQ [181, 0, 14] (.putfield 14) 3 := ⟨⟨181, zo_181, rfl⟩, by decide +kernel⟩
theorem zq_67 : zQ [17, 0, 161] (.sipush 161) 3 := ⟨⟨17, zo_17, rfl⟩, by decide +kernel⟩
theorem zq_68 : zQ [16, 7] (.bipush 7) 2 := ⟨⟨16, zo_16, rfl⟩, by decide +kernel⟩
theorem zq_70 : zQ [16, 60] (.bipush 60) 2 := ⟨⟨16, zo_16, rfl⟩, by decide +kernel⟩
theorem zq_71 : zQ [16, 6] (.bipush 6) 2 := ⟨⟨16, zo_16, rfl⟩, by decide +kernel⟩
theorem zq_73 : zQ [16, 40] (.bipush 40) 2 := ⟨⟨16, zo_16, rfl⟩, by decide +kernel⟩
theorem zq_74 : zQ [17, 0, 160] (.sipush 160) 3 := ⟨⟨17, zo_17, rfl⟩, by decide +kernel⟩
theorem zq_76 : zQ [16, 8] (.bipush 8) 2 := ⟨⟨16, zo_16, rfl⟩, by decide +kernel⟩
theorem zq_78 : zQ [16, 10] (.bipush 10) 2 := ⟨⟨16, zo_16, rfl⟩, by decide +kernel⟩
theorem zq_79 : zQ [181, 0, 39] (.putfield 39) 3 := ⟨⟨181, zo_181, rfl⟩, by decide +kernel⟩
theorem zq_80 : zQ [181, 0, 43] (.putfield 43) 3 := ⟨⟨181, zo_181, rfl⟩, by decide +kernel⟩
theorem zq_81 : zQ [181, 0, 46] (.putfield 46) 3 := ⟨⟨181, zo_181, rfl⟩, by decide +kernel⟩
theorem zq_82 : zQ [181, 0, 49] (.putfield 49) 3 := ⟨⟨181, zo_181, rfl⟩, by decide +kernel⟩
theorem zq_83 : zQ [181, 0, 52] (.putfield 52) 3 := ⟨⟨181, zo_181, rfl⟩, by decide +kernel⟩
theorem zq_84 : zQ [181, 0, 55] (.putfield 55) 3 := ⟨⟨181, zo_181, rfl⟩, by decide +kernel⟩
theorem zq_85 : zQ [181, 0, 58] (.putfield 58) 3 := ⟨⟨181, zo_181, rfl⟩, by decide +kernel⟩
theorem zq_86 : zQ [181, 0, 61] (.putfield 61) 3 := ⟨⟨181, zo_181, rfl⟩, by decide +kernel⟩
theorem zq_87 : zQ [181, 0, 64] (.putfield 64) 3 := ⟨⟨181, zo_181, rfl⟩, by decide +kernel⟩
theorem zq_88 : zQ [181, 0, 67] (.putfield 67) 3 := ⟨⟨181, zo_181, rfl⟩, by decide +kernel⟩
theorem zq_89 : zQ [180, 0, 14] (.getfield 14) 3 := ⟨⟨180, zo_180, rfl⟩, by decide +kernel⟩
theorem zq_90 : zQ [182, 0, 70] (.invokevirtual 70) 3 := ⟨⟨182, zo_182, rfl⟩, by decide +kernel⟩
theorem zq_91 : zQ [54, 5] (.istore 5) 2 := ⟨⟨54, zo_54, rfl⟩, by decide +kernel⟩
theorem zq_92 : zQ [21, 5] (.iload 5) 2 := ⟨⟨21, zo_21, rfl⟩, by decide +kernel⟩
theorem zq_93 : zQ [162, 0, 31] (.if_icmp .ge 31) 3 := ⟨⟨162, zo_162, rfl⟩, by decide +kernel⟩
theorem zq_94 : zQ [182, 0, 73] (.invokevirtual 73) 3 := ⟨⟨182, zo_182, rfl⟩, by decide +kernel⟩
theorem zq_95 : zQ [87] (.pop) 1 := ⟨⟨87, zo_87, rfl⟩, by decide +kernel⟩
theorem zq_96 : zQ [16, 20] (.bipush 20) 2 := ⟨⟨16, zo_16, rfl⟩, by decide +kernel⟩
theorem zq_97 : zQ [182, 0, 77] (.invokevirtual 77) 3 := ⟨⟨182, zo_182, rfl⟩, by decide +kernel⟩
theorem zq_98 : zQ [132, 5, 1] (.iinc 5 1) 3 := ⟨⟨132, zo_132, rfl⟩, by decide +kernel⟩
theorem zq_99 : zQ [167, 255, 225] (.goto (-31)) 3 := ⟨⟨167, zo_167, rfl⟩, by decide +kernel⟩
theorem zq_100 : zQ [180, 0, 20] (.getfield 20) 3 := ⟨⟨180, zo_180, rfl⟩, by decide +kernel⟩
theorem zq_101 : zQ [180, 0, 23] (.getfield 23) 3 := ⟨⟨180, zo_180, rfl⟩, by decide +kernel⟩
theorem zq_102 : zQ [180, 0, 29] (.getfield 29) 3 := ⟨⟨180, zo_180, rfl⟩, by decide +kernel⟩
theorem zq_103 : zQ [180, 0, 32] (.getfield 32) 3 := ⟨⟨180, zo_180, rfl⟩, by decide +kernel⟩
theorem zq_104 : zQ [2] (.iconst (-1)) 1 := ⟨⟨2, zo_2, rfl⟩, by decide +kernel⟩
theorem zq_105 : zQ [167, 255, 224] (.goto (-32)) 3 := ⟨⟨167, zo_167, rfl⟩, by decide +kernel⟩
theorem zq_106 : zQ [180, 0, 39] (.getfield 39) 3 := ⟨⟨180, zo_180, rfl⟩, by decide +kernel⟩
theorem zq_107 : zQ [180, 0, 43] (.getfield 43) 3 := ⟨⟨180, zo_180, rfl⟩, by decide +kernel⟩
theorem zq_108 : zQ [180, 0, 46] (.getfield 46) 3 := ⟨⟨180, zo_180, rfl⟩, by decide +kernel⟩
theorem zq_109 : zQ [180, 0, 49] (.getfield 49) 3 := ⟨⟨180, zo_180, rfl⟩, by decide +kernel⟩
theorem zq_110 : zQ [180, 0, 52] (.getfield 52) 3 := ⟨⟨180, zo_180, rfl⟩, by decide +kernel⟩
theorem zq_111 : zQ [180, 0, 55] (.getfield 55) 3 := ⟨⟨180, zo_180, rfl⟩, by decide +kernel⟩
theorem zq_112 : zQ [180, 0, 58] (.getfield 58) 3 := ⟨⟨180, zo_180, rfl⟩, by decide +kernel⟩
theorem zq_113 : zQ [180, 0, 61] (.getfield 61) 3 := ⟨⟨180, zo_180, rfl⟩, by decide +kernel⟩
theorem zq_114 : zQ [180, 0, 64] (.getfield 64) 3 := ⟨⟨180, zo_180, rfl⟩, by decide +kernel⟩
theorem zq_115 : zQ [180, 0, 67] (.getfield 67) 3 := ⟨⟨180, zo_180, rfl⟩, by decide +kernel⟩
theorem zq_116 : zQ [182, 0, 81] (.invokevirtual 81) 3 := ⟨⟨182, zo_182, rfl⟩, by decide +kernel⟩
theorem zq_117 : zQ [180, 0, 85] (.getfield 85) 3 := ⟨⟨180, zo_180, rfl⟩, by decide +kernel⟩
theorem zq_118 : zQ [184, 0, 88] (.invokestatic 88) 3 := ⟨⟨184, zo_184, rfl⟩, by decide +kernel⟩
theorem zq_119 : zQ [54, 6] (.istore 6) 2 := ⟨⟨54, zo_54, rfl⟩, by decide +kernel⟩
theorem zq_120 : zQ [182, 0, 94] (.invokevirtual 94) 3 := ⟨⟨182, zo_182, rfl⟩, by decide +kernel⟩
theorem zq_121 : zQ [182, 0, 97] (.invokevirtual 97) 3 := ⟨⟨182, zo_182, rfl⟩, by decide +kernel⟩
theorem zq_122 : zQ [54, 7] (.istore 7) 2 := ⟨⟨54, zo_54, rfl⟩, by decide +kernel⟩
theorem zq_123 : zQ [6] (.iconst 3) 1 := ⟨⟨6, zo_6, rfl⟩, by decide +kernel⟩
theorem zq_124 : zQ [21, 7] (.iload 7) 2 := ⟨⟨21, zo_21, rfl⟩, by decide +kernel⟩
theorem zq_125 : zQ [21, 6] (.iload 6) 2 := ⟨⟨21, zo_21, rfl⟩, by decide +kernel⟩
theorem zq_126 : zQ [182, 0, 101] (.invokevirtual 101) 3 := ⟨⟨182, zo_182, rfl⟩, by decide +kernel⟩
theorem zq_127 : zQ [5] (.iconst 2) 1 := ⟨⟨5, zo_5, rfl⟩, by decide +kernel⟩
theorem zq_128 : zQ [182, 0, 104] (.invokevirtual 104) 3 := ⟨⟨182, zo_182, rfl⟩, by decide +kernel⟩
theorem zq_129 : zQ [153, 0, 58] (.ifCond .eq 58) 3 := ⟨⟨153, zo_153, rfl⟩, by decide +kernel⟩
theorem zq_130 : zQ [182, 0, 108] (.invokevirtual 108) 3 := ⟨⟨182, zo_182, rfl⟩, by decide +kernel⟩
theorem zq_131 : zQ [62] (.istore_n 3) 1 := ⟨⟨62, zo_62, rfl⟩, by decide +kernel⟩
theorem zq_132 : zQ [167, 0, 18] (.goto 18) 3 := ⟨⟨167, zo_167, rfl⟩, by decide +kernel⟩
theorem zq_133 : zQ [167, 0, 8] (.goto 8) 3 := ⟨⟨167, zo_167, rfl⟩, by decide +kernel⟩
theorem zq_134 : zQ [182, 0, 111] (.invokevirtual 111) 3 := ⟨⟨182, zo_182, rfl⟩, by decide +kernel⟩
theorem zq_135 : zQ [182, 0, 115] (.invokevirtual 115) 3 := ⟨⟨182, zo_182, rfl⟩, by decide +kernel⟩
theorem zq_136 : zQ [160, 0, 27] (.if_icmp .ne 27) 3 := ⟨⟨160, zo_160, rfl⟩, by decide +kernel⟩
theorem zq_137 : zQ [167, 0, 40] (.goto 40) 3 := ⟨⟨167, zo_167, rfl⟩, by decide +kernel⟩
theorem zq_138 : zQ [160, 0, 7] (.if_icmp .ne 7) 3 := ⟨⟨160, zo_160, rfl⟩, by decide +kernel⟩
theorem zq_139 : zQ [167, 0, 4] (.goto 4) 3 := ⟨⟨167, zo_167, rfl⟩, by decide +kernel⟩
theorem zq_140 : zQ [182, 0, 118] (.invokevirtual 118) 3 := ⟨⟨182, zo_182, rfl⟩, by decide +kernel⟩
theorem zq_141 : zQ [182, 0, 121] (.invokevirtual 121) 3 := ⟨⟨182, zo_182, rfl⟩, by decide +kernel⟩
theorem zq_142 : zQ [182, 0, 124] (.invokevirtual 124) 3 := ⟨⟨182, zo_182, rfl⟩, by decide +kernel⟩
theorem zq_143 : zQ [164, 0, 13] (.if_icmp .le 13) 3 := ⟨⟨164, zo_164, rfl⟩, by decide +kernel⟩
theorem zq_144 : zQ [162, 0, 5] (.if_icmp .ge 5) 3 := ⟨⟨162, zo_162, rfl⟩, by decide +kernel⟩
theorem zq_145 : zQ [162, 0, 7] (.if_icmp .ge 7) 3 := ⟨⟨162, zo_162, rfl⟩, by decide +kernel⟩
theorem zq_146 : zQ [160, 0, 16] (.if_icmp .ne 16) 3 := ⟨⟨160, zo_160, rfl⟩, by decide +kernel⟩
theorem zq_147 : zQ [153, 0, 8] (.ifCond .eq 8) 3 := ⟨⟨153, zo_153, rfl⟩, by decide +kernel⟩
theorem zq_148 : zQ [159, 0, 7] (.if_icmp .eq 7) 3 := ⟨⟨159, zo_159, rfl⟩, by decide +kernel⟩
theorem zq_149 : zQ [162, 0, 33] (.if_icmp .ge 33) 3 := ⟨⟨162, zo_162, rfl⟩, by decide +kernel⟩
theorem zq_150 : zQ [182, 0, 127] (.invokevirtual 127) 3 := ⟨⟨182, zo_182, rfl⟩, by decide +kernel⟩
theorem zq_151 : zQ [154, 0, 15] (.ifCond .ne 15) 3 := ⟨⟨154, zo_154, rfl⟩, by decide +kernel⟩
theorem zq_152 : zQ [153, 0, 6] (.ifCond .eq 6) 3 := ⟨⟨153, zo_153, rfl⟩, by decide +kernel⟩
theorem zq_153 : zQ [132, 3, 1] (.iinc 3 1) 3 := ⟨⟨132, zo_132, rfl⟩, by decide +kernel⟩
theorem zq_154 : zQ [167, 255, 218] (.goto (-38)) 3 := ⟨⟨167, zo_167, rfl⟩, by decide +kernel⟩
theorem zq_155 : zQ [162, 0, 56] (.if_icmp .ge 56) 3 := ⟨⟨162, zo_162, rfl⟩, by decide +kernel⟩
theorem zq_156 : zQ [159, 0, 45] (.if_icmp .eq 45) 3 := ⟨⟨159, zo_159, rfl⟩, by decide +kernel⟩
theorem zq_157 : zQ [167, 0, 30] (.goto 30) 3 := ⟨⟨167, zo_167, rfl⟩, by decide +kernel⟩
theorem zq_158 : zQ [156, 0, 8] (.ifCond .ge 8) 3 := ⟨⟨156, zo_156, rfl⟩, by decide +kernel⟩
theorem zq_159 : zQ [167, 0, 9] (.goto 9) 3 := ⟨⟨167, zo_167, rfl⟩, by decide +kernel⟩
theorem zq_160 : zQ [184, 0, 131] (.invokestatic 131) 3 := ⟨⟨184, zo_184, rfl⟩, by decide +kernel⟩
theorem zq_161 : zQ [167, 255, 195] (.goto (-61)) 3 := ⟨⟨167, zo_167, rfl⟩, by decide +kernel⟩
theorem zq_162 : zQ [162, 0, 21] (.if_icmp .ge 21) 3 := ⟨⟨162, zo_162, rfl⟩, by decide +kernel⟩
theorem zq_163 : zQ [167, 255, 235] (.goto (-21)) 3 := ⟨⟨167, zo_167, rfl⟩, by decide +kernel⟩
theorem zq_164 : zQ [160, 0, 43] (.if_icmp .ne 43) 3 := ⟨⟨160, zo_160, rfl⟩, by decide +kernel⟩
theorem zq_165 : zQ [163, 0, 25] (.if_icmp .gt 25) 3 := ⟨⟨163, zo_163, rfl⟩, by decide +kernel⟩
theorem zq_166 : zQ [161, 0, 7] (.if_icmp .lt 7) 3 := ⟨⟨161, zo_161, rfl⟩, by decide +kernel⟩
theorem zq_167 : zQ [182, 0, 134] (.invokevirtual 134) 3 := ⟨⟨182, zo_182, rfl⟩, by decide +kernel⟩
theorem zq_168 : zQ [153, 0, 5] (.ifCond .eq 5) 3 := ⟨⟨153, zo_153, rfl⟩, by decide +kernel⟩
theorem zq_169 : zQ [155, 0, 35] (.ifCond .lt 35) 3 := ⟨⟨155, zo_155, rfl⟩, by decide +kernel⟩
theorem zq_170 : zQ [153, 0, 12] (.ifCond .eq 12) 3 := ⟨⟨153, zo_153, rfl⟩, by decide +kernel⟩
theorem zq_171 : zQ [167, 255, 222] (.goto (-34)) 3 := ⟨⟨167, zo_167, rfl⟩, by decide +kernel⟩
theorem zq_172 : zQ [182, 0, 138] (.invokevirtual 138) 3 := ⟨⟨182, zo_182, rfl⟩, by decide +kernel⟩
theorem zq_173 : zQ [182, 0, 141] (.invokevirtual 141) 3 := ⟨⟨182, zo_182, rfl⟩, by decide +kernel⟩
theorem zq_174 : zQ [155, 0, 8] (.ifCond .lt 8) 3 := ⟨⟨155, zo_155, rfl⟩, by decide +kernel⟩
theorem zq_175 : zQ [182, 0, 145] (.invokevirtual 145) 3 := ⟨⟨182, zo_182, rfl⟩, by decide +kernel⟩
theorem zq_176 : zQ [182, 0, 148] (.invokevirtual 148) 3 := ⟨⟨182, zo_182, rfl⟩, by decide +kernel⟩
theorem zq_177 : zQ [132, 7, 1] (.iinc 7 1) 3 := ⟨⟨132, zo_132, rfl⟩, by decide +kernel⟩
theorem zq_178 : zQ [167, 255, 237] (.goto (-19)) 3 := ⟨⟨167, zo_167, rfl⟩, by decide +kernel⟩
theorem zq_179 : zQ [154, 0, 4] (.ifCond .ne 4) 3 := ⟨⟨154, zo_154, rfl⟩, by decide +kernel⟩
theorem zq_180 : zQ [182, 0, 151] (.invokevirtual 151) 3 := ⟨⟨182, zo_182, rfl⟩, by decide +kernel⟩
theorem zq_181 : zQ [167, 255, 240] (.goto (-16)) 3 := ⟨⟨167, zo_167, rfl⟩, by decide +kernel⟩
theorem zq_182 : zQ [164, 0, 7] (.if_icmp .le 7) 3 := ⟨⟨164, zo_164, rfl⟩, by decide +kernel⟩
theorem zq_183 : zQ [182, 0, 154] (.invokevirtual 154) 3 := ⟨⟨182, zo_182, rfl⟩, by decide +kernel⟩
theorem zq_184 : zQ [182, 0, 157] (.invokevirtual 157) 3 := ⟨⟨182, zo_182, rfl⟩, by decide +kernel⟩
theorem zq_185 : zQ [162, 0, 59] (.if_icmp .ge 59) 3 := ⟨⟨162, zo_162, rfl⟩, by decide +kernel⟩
theorem zq_186 : zQ [160, 0, 20] (.if_icmp .ne 20) 3 := ⟨⟨160, zo_160, rfl⟩, by decide +kernel⟩
theorem zq_187 : zQ [163, 0, 8] (.if_icmp .gt 8) 3 := ⟨⟨163, zo_163, rfl⟩, by decide +kernel⟩
theorem zq_188 : zQ [167, 255, 192] (.goto (-64)) 3 := ⟨⟨167, zo_167, rfl⟩, by decide +kernel⟩
theorem zq_189 : zQ [182, 0, 160] (.invokevirtual 160) 3 := ⟨⟨182, zo_182, rfl⟩, by decide +kernel⟩
theorem zq_190 : zQ [158, 0, 24] (.ifCond .le 24) 3 := ⟨⟨158, zo_158, rfl⟩, by decide +kernel⟩
theorem zq_191 : zQ [112] (.irem) 1 := ⟨⟨112, zo_112, rfl⟩, by decide +kernel⟩
theorem zq_192 : zQ [154, 0, 7] (.ifCond .ne 7) 3 := ⟨⟨154, zo_154, rfl⟩, by decide +kernel⟩
theorem zq_193 : zQ [153, 0, 7] (.ifCond .eq 7) 3 := ⟨⟨153, zo_153, rfl⟩, by decide +kernel⟩
theorem zq_194 : zQ [60] (.istore_n 1) 1 := ⟨⟨60, zo_60, rfl⟩, by decide +kernel⟩
theorem zq_195 : zQ [182, 0, 163] (.invokevirtual 163) 3 := ⟨⟨182, zo_182, rfl⟩, by decide +kernel⟩
theorem zq_196 : zQ [163, 0, 4] (.if_icmp .gt 4) 3 := ⟨⟨163, zo_163, rfl⟩, by decide +kernel⟩
theorem zq_197 : zQ [158, 0, 72] (.ifCond .le 72) 3 := ⟨⟨158, zo_158, rfl⟩, by decide +kernel⟩
theorem zq_198 : zQ [182, 0, 166] (.invokevirtual 166) 3 := ⟨⟨182, zo_182, rfl⟩, by decide +kernel⟩
theorem zq_199 : zQ [156, 0, 4] (.ifCond .ge 4) 3 := ⟨⟨156, zo_156, rfl⟩, by decide +kernel⟩
theorem zq_200 : zQ [182, 0, 169] (.invokevirtual 169) 3 := ⟨⟨182, zo_182, rfl⟩, by decide +kernel⟩
theorem zq_201 : zQ [154, 0, 16] (.ifCond .ne 16) 3 := ⟨⟨154, zo_154, rfl⟩, by decide +kernel⟩
theorem zq_202 : zQ [182, 0, 172] (.invokevirtual 172) 3 := ⟨⟨182, zo_182, rfl⟩, by decide +kernel⟩
theorem zq_203 : zQ [153, 0, 9] (.ifCond .eq 9) 3 := ⟨⟨153, zo_153, rfl⟩, by decide +kernel⟩
theorem zq_204 : zQ [182, 0, 175] (.invokevirtual 175) 3 := ⟨⟨182, zo_182, rfl⟩, by decide +kernel⟩
theorem zq_205 : zQ [132, 4, 255] (.iinc 4 (-1)) 3 := ⟨⟨132, zo_132, rfl⟩, by decide +kernel⟩
theorem zq_206 : zQ [167, 255, 185] (.goto (-71)) 3 := ⟨⟨167, zo_167, rfl⟩, by decide +kernel⟩
theorem zq_207 : zQ [162, 0, 80] (.if_icmp .ge 80) 3 := ⟨⟨162, zo_162, rfl⟩, by decide +kernel⟩
theorem zq_208 : zQ [153, 0, 61] (.ifCond .eq 61) 3 := ⟨⟨153, zo_153, rfl⟩, by decide +kernel⟩
theorem zq_209 : zQ [153, 0, 19] (.ifCond .eq 19) 3 := ⟨⟨153, zo_153, rfl⟩, by decide +kernel⟩
theorem zq_210 : zQ [154, 0, 6] (.ifCond .ne 6) 3 := ⟨⟨154, zo_154, rfl⟩, by decide +kernel⟩
theorem zq_211 : zQ [167, 0, 35] (.goto 35) 3 := ⟨⟨167, zo_167, rfl⟩, by decide +kernel⟩
theorem zq_212 : zQ [164, 0, 21] (.if_icmp .le 21) 3 := ⟨⟨164, zo_164, rfl⟩, by decide +kernel⟩
theorem zq_213 : zQ [155, 0, 10] (.ifCond .lt 10) 3 := ⟨⟨155, zo_155, rfl⟩, by decide +kernel⟩
theorem zq_214 : zQ [167, 255, 170] (.goto (-86)) 3 := ⟨⟨167, zo_167, rfl⟩, by decide +kernel⟩
theorem zq_215 : zQ [182, 0, 178] (.invokevirtual 178) 3 := ⟨⟨182, zo_182, rfl⟩, by decide +kernel⟩
theorem zq_216 : zQ [182, 0, 181] (.invokevirtual 181) 3 := ⟨⟨182, zo_182, rfl⟩, by decide +kernel⟩
theorem zq_217 : zQ [182, 0, 185] (.invokevirtual 185) 3 := ⟨⟨182, zo_182, rfl⟩, by decide +kernel⟩
theorem zq_218 : zQ [153, 0, 20] (.ifCond .eq 20) 3 := ⟨⟨153, zo_153, rfl⟩, by decide +kernel⟩
theorem zq_219 : zQ [182, 0, 188] (.invokevirtual 188) 3 := ⟨⟨182, zo_182, rfl⟩, by decide +kernel⟩
theorem zq_220 : zQ [187, 0, 7] (.new 7) 3 := ⟨⟨187, zo_187, rfl⟩, by decide +kernel⟩
theorem zq_221 : zQ [183, 0, 9] (.invokespecial 9) 3 := ⟨⟨183, zo_183, rfl⟩, by decide +kernel⟩
theorem zq_224 : zQ [189, 0, 7] (.anewarray 7) 3 := ⟨⟨189, zo_189, rfl⟩, by decide +kernel⟩
theorem zq_225 : zQ [162, 0, 22] (.if_icmp .ge 22) 3 := ⟨⟨162, zo_162, rfl⟩, by decide +kernel⟩
theorem zq_226 : zQ [83] (.aastore) 1 := ⟨⟨83, zo_83, rfl⟩, by decide +kernel⟩
theorem zq_227 : zQ [132, 1, 1] (.iinc 1 1) 3 := ⟨⟨132, zo_132, rfl⟩, by decide +kernel⟩
theorem zq_228 : zQ [167, 255, 234] (.goto (-22)) 3 := ⟨⟨167, zo_167, rfl⟩, by decide +kernel⟩
theorem zq_229 : zQ [16, 80] (.bipush 80) 2 := ⟨⟨16, zo_16, rfl⟩, by decide +kernel⟩
theorem zq_232 : zQ [16, 101] (.bipush 101) 2 := ⟨⟨16, zo_16, rfl⟩, by decide +kernel⟩
theorem zq_234 : zQ [180, 0, 40] (.getfield 40) 3 := ⟨⟨180, zo_180, rfl⟩, by decide +kernel⟩
theorem zq_235 : zQ [164, 0, 5] (.if_icmp .le 5) 3 := ⟨⟨164, zo_164, rfl⟩, by decide +kernel⟩
theorem zq_236 : zQ [16, 24] (.bipush 24) 2 := ⟨⟨16, zo_16, rfl⟩, by decide +kernel⟩
theorem zq_237 : zQ [155, 0, 20] (.ifCond .lt 20) 3 := ⟨⟨155, zo_155, rfl⟩, by decide +kernel⟩
theorem zq_238 : zQ [124] (.iushr) 1 := ⟨⟨124, zo_124, rfl⟩, by decide +kernel⟩
theorem zq_239 : zQ [17, 0, 255] (.sipush 255) 3 := ⟨⟨17, zo_17, rfl⟩, by decide +kernel⟩
theorem zq_240 : zQ [126] (.iand) 1 := ⟨⟨126, zo_126, rfl⟩, by decide +kernel⟩
theorem zq_241 : zQ [182, 0, 44] (.invokevirtual 44) 3 := ⟨⟨182, zo_182, rfl⟩, by decide +kernel⟩
theorem zq_242 : zQ [132, 2, 248] (.iinc 2 (-8)) 3 := ⟨⟨132, zo_132, rfl⟩, by decide +kernel⟩
theorem zq_243 : zQ [181, 0, 40] (.putfield 40) 3 := ⟨⟨181, zo_181, rfl⟩, by decide +kernel⟩
theorem zq_244 : zQ [163, 0, 13] (.if_icmp .gt 13) 3 := ⟨⟨163, zo_163, rfl⟩, by decide +kernel⟩
theorem zq_245 : zQ [184, 0, 48] (.invokestatic 48) 3 := ⟨⟨184, zo_184, rfl⟩, by decide +kernel⟩
theorem zq_246 : zQ [154, 0, 5] (.ifCond .ne 5) 3 := ⟨⟨154, zo_154, rfl⟩, by decide +kernel⟩
theorem zq_247 : zQ [182, 0, 52] (.invokevirtual 52) 3 := ⟨⟨182, zo_182, rfl⟩, by decide +kernel⟩
theorem zq_248 : zQ [180, 0, 10] (.getfield 10) 3 := ⟨⟨180, zo_180, rfl⟩, by decide +kernel⟩
theorem zq_249 : zQ [182, 0, 55] (.invokevirtual 55) 3 := ⟨⟨182, zo_182, rfl⟩, by decide +kernel⟩
theorem zq_250 : zQ [182, 0, 59] (.invokevirtual 59) 3 := ⟨⟨182, zo_182, rfl⟩, by decide +kernel⟩
theorem zq_251 : zQ [153, 0, 14] (.ifCond .eq 14) 3 := ⟨⟨153, zo_153, rfl⟩, by decide +kernel⟩
theorem zq_252 : zQ [17, 3, 231] (.sipush 999) 3 := ⟨⟨17, zo_17, rfl⟩, by decide +kernel⟩
theorem zq_253 : zQ [180, 0, 63] (.getfield 63) 3 := ⟨⟨180, zo_180, rfl⟩, by decide +kernel⟩
theorem zq_254 : zQ [182, 0, 67] (.invokevirtual 67) 3 := ⟨⟨182, zo_182, rfl⟩, by decide +kernel⟩
theorem zq_255 : zQ [160, 0, 6] (.if_icmp .ne 6) 3 := ⟨⟨160, zo_160, rfl⟩, by decide +kernel⟩
theorem zq_256 : zQ [16, 254] (.bipush (-2)) 2 := ⟨⟨16, zo_16, rfl⟩, by decide +kernel⟩
theorem zq_257 : zQ [180, 0, 73] (.getfield 73) 3 := ⟨⟨180, zo_180, rfl⟩, by decide +kernel⟩
theorem zq_258 : zQ [180, 0, 76] (.getfield 76) 3 := ⟨⟨180, zo_180, rfl⟩, by decide +kernel⟩
theorem zq_259 : zQ [158, 0, 6] (.ifCond .le 6) 3 := ⟨⟨158, zo_158, rfl⟩, by decide +kernel⟩
theorem zq_260 : zQ [16, 253] (.bipush (-3)) 2 := ⟨⟨16, zo_16, rfl⟩, by decide +kernel⟩
theorem zq_261 : zQ [182, 0, 79] (.invokevirtual 79) 3 := ⟨⟨182, zo_182, rfl⟩, by decide +kernel⟩
theorem zq_262 : zQ [182, 0, 83] (.invokevirtual 83) 3 := ⟨⟨182, zo_182, rfl⟩, by decide +kernel⟩
theorem zq_263 : zQ [156, 0, 6] (.ifCond .ge 6) 3 := ⟨⟨156, zo_156, rfl⟩, by decide +kernel⟩
theorem zq_264 : zQ [180, 0, 87] (.getfield 87) 3 := ⟨⟨180, zo_180, rfl⟩, by decide +kernel⟩
theorem zq_265 : zQ [182, 0, 90] (.invokevirtual 90) 3 := ⟨⟨182, zo_182, rfl⟩, by decide +kernel⟩
theorem zq_266 : zQ [133] (.i2l) 1 := ⟨⟨133, zo_133, rfl⟩, by decide +kernel⟩
theorem zq_267 : zQ [180, 0, 93] (.getfield 93) 3 := ⟨⟨180, zo_180, rfl⟩, by decide +kernel⟩
theorem zq_268 : zQ [182, 0, 96] (.invokevirtual 96) 3 := ⟨⟨182, zo_182, rfl⟩, by decide +kernel⟩
theorem zq_269 : zQ [182, 0, 100] (.invokevirtual 100) 3 := ⟨⟨182, zo_182, rfl⟩, by decide +kernel⟩
theorem zq_270 : zQ [155, 0, 7] (.ifCond .lt 7) 3 := ⟨⟨155, zo_155, rfl⟩, by decide +kernel⟩
theorem zq_271 : zQ [16, 9] (.bipush 9) 2 := ⟨⟨16, zo_16, rfl⟩, by decide +kernel⟩
theorem zq_272 : zQ [108] (.idiv) 1 := ⟨⟨108, zo_108, rfl⟩, by decide +kernel⟩
theorem zq_273 : zQ [164, 0, 6] (.if_icmp .le 6) 3 := ⟨⟨164, zo_164, rfl⟩, by decide +kernel⟩
theorem zq_274 : zQ [158, 0, 7] (.ifCond .le 7) 3 := ⟨⟨158, zo_158, rfl⟩, by decide +kernel⟩
theorem zq_275 : zQ [159, 0, 6] (.if_icmp .eq 6) 3 := ⟨⟨159, zo_159, rfl⟩, by decide +kernel⟩
theorem zq_276 : zQ [132, 6, 9] (.iinc 6 9) 3 := ⟨⟨132, zo_132, rfl⟩, by decide +kernel⟩
theorem zq_277 : zQ [156, 0, 5] (.ifCond .ge 5) 3 := ⟨⟨156, zo_156, rfl⟩, by decide +kernel⟩
theorem zq_278 : zQ [182, 0, 114] (.invokevirtual 114) 3 := ⟨⟨182, zo_182, rfl⟩, by decide +kernel⟩
theorem zq_279 : zQ [182, 0, 122] (.invokevirtual 122) 3 := ⟨⟨182, zo_182, rfl⟩, by decide +kernel⟩
theorem zq_280 : zQ [182, 0, 125] (.invokevirtual 125) 3 := ⟨⟨182, zo_182, rfl⟩, by decide +kernel⟩
theorem zq_281 : zQ [164, 0, 11] (.if_icmp .le 11) 3 := ⟨⟨164, zo_164, rfl⟩, by decide +kernel⟩
theorem zq_282 : zQ [187, 0, 128] (.new 128) 3 := ⟨⟨187, zo_187, rfl⟩, by decide +kernel⟩
theorem zq_283 : zQ [183, 0, 130] (.invokespecial 130) 3 := ⟨⟨183, zo_183, rfl⟩, by decide +kernel⟩
theorem zq_284 : zQ [191] (.athrow) 1 := ⟨⟨191, zo_191, rfl⟩, by decide +kernel⟩
theorem zq_285 : zQ [156, 0, 7] (.ifCond .ge 7) 3 := ⟨⟨156, zo_156, rfl⟩, by decide +kernel⟩
theorem zq_286 : zQ [155, 0, 27] (.ifCond .lt 27) 3 := ⟨⟨155, zo_155, rfl⟩, by decide +kernel⟩
theorem zq_287 : zQ [180, 0, 131] (.getfield 131) 3 := ⟨⟨180, zo_180, rfl⟩, by decide +kernel⟩
theorem zq_288 : zQ [162, 0, 13] (.if_icmp .ge 13) 3 := ⟨⟨162, zo_162, rfl⟩, by decide +kernel⟩
theorem zq_289 : zQ [155, 0, 9] (.ifCond .lt 9) 3 := ⟨⟨155, zo_155, rfl⟩, by decide +kernel⟩
theorem zq_290 : zQ [184, 0, 141] (.invokestatic 141) 3 := ⟨⟨184, zo_184, rfl⟩, by decide +kernel⟩
theorem zq_291 : zQ [184, 0, 145] (.invokestatic 145) 3 := ⟨⟨184, zo_184, rfl⟩, by decide +kernel⟩
theorem zq_292 : zQ [153, 0, 10] (.ifCond .eq 10) 3 := ⟨⟨153, zo_153, rfl⟩, by decide +kernel⟩
theorem zq_293 : zQ [184, 0, 148] (.invokestatic 148) 3 := ⟨⟨184, zo_184, rfl⟩, by decide +kernel⟩
theorem zq_294 : zQ [184, 0, 158] (.invokestatic 158) 3 := ⟨⟨184, zo_184, rfl⟩, by decide +kernel⟩
theorem zq_295 : zQ [153, 0, 13] (.ifCond .eq 13) 3 := ⟨⟨153, zo_153, rfl⟩, by decide +kernel⟩
theorem zq_296 : zQ [161, 0, 11] (.if_icmp .lt 11) 3 := ⟨⟨161, zo_161, rfl⟩, by decide +kernel⟩
theorem zq_297 : zQ [180, 0, 161] (.getfield 161) 3 := ⟨⟨180, zo_180, rfl⟩, by decide +kernel⟩
theorem zq_298 : zQ [160, 0, 12] (.if_icmp .ne 12) 3 := ⟨⟨160, zo_160, rfl⟩, by decide +kernel⟩
theorem zq_299 : zQ [17, 78, 32] (.sipush 20000) 3 := ⟨⟨17, zo_17, rfl⟩, by decide +kernel⟩
theorem zq_300 : zQ [167, 0, 5] (.goto 5) 3 := ⟨⟨167, zo_167, rfl⟩, by decide +kernel⟩
theorem zq_301 : zQ [182, 0, 164] (.invokevirtual 164) 3 := ⟨⟨182, zo_182, rfl⟩, by decide +kernel⟩
theorem zq_302 : zQ [162, 0, 58] (.if_icmp .ge 58) 3 := ⟨⟨162, zo_162, rfl⟩, by decide +kernel⟩
theorem zq_303 : zQ [180, 0, 167] (.getfield 167) 3 := ⟨⟨180, zo_180, rfl⟩, by decide +kernel⟩
theorem zq_304 : zQ [167, 255, 197] (.goto (-59)) 3 := ⟨⟨167, zo_167, rfl⟩, by decide +kernel⟩
theorem zq_305 : zQ [153, 0, 38] (.ifCond .eq 38) 3 := ⟨⟨153, zo_153, rfl⟩, by decide +kernel⟩
theorem zq_306 : zQ [167, 255, 191] (.goto (-65)) 3 := ⟨⟨167, zo_167, rfl⟩, by decide +kernel⟩
theorem zq_307 : zQ [182, 0, 170] (.invokevirtual 170) 3 := ⟨⟨182, zo_182, rfl⟩, by decide +kernel⟩
theorem zq_308 : zQ [180, 0, 174] (.getfield 174) 3 := ⟨⟨180, zo_180, rfl⟩, by decide +kernel⟩
theorem zq_309 : zQ [180, 0, 177] (.getfield 177) 3 := ⟨⟨180, zo_180, rfl⟩, by decide +kernel⟩
theorem zq_310 : zQ [182, 0, 180] (.invokevirtual 180) 3 := ⟨⟨182, zo_182, rfl⟩, by decide +kernel⟩
theorem zq_311 : zQ [162, 0, 35] (.if_icmp .ge 35) 3 := ⟨⟨162, zo_162, rfl⟩, by decide +kernel⟩
theorem zq_312 : zQ [182, 0, 183] (.invokevirtual 183) 3 := ⟨⟨182, zo_182, rfl⟩, by decide +kernel⟩
theorem zq_313 : zQ [162, 0, 41] (.if_icmp .ge 41) 3 := ⟨⟨162, zo_162, rfl⟩, by decide +kernel⟩
theorem zq_314 : zQ [160, 0, 18] (.if_icmp .ne 18) 3 := ⟨⟨160, zo_160, rfl⟩, by decide +kernel⟩
theorem zq_315 : zQ [167, 255, 206] (.goto (-50)) 3 := ⟨⟨167, zo_167, rfl⟩, by decide +kernel⟩
theorem zq_316 : zQ [162, 0, 38] (.if_icmp .ge 38) 3 := ⟨⟨162, zo_162, rfl⟩, by decide +kernel⟩
theorem zq_317 : zQ [182, 0, 186] (.invokevirtual 186) 3 := ⟨⟨182, zo_182, rfl⟩, by decide +kernel⟩
theorem zq_318 : zQ [164, 0, 8] (.if_icmp .le 8) 3 := ⟨⟨164, zo_164, rfl⟩, by decide +kernel⟩
theorem zq_319 : zQ [167, 255, 210] (.goto (-46)) 3 := ⟨⟨167, zo_167, rfl⟩, by decide +kernel⟩
theorem zq_320 : zQ [182, 0, 189] (.invokevirtual 189) 3 := ⟨⟨182, zo_182, rfl⟩, by decide +kernel⟩
theorem zq_321 : zQ [153, 0, 15] (.ifCond .eq 15) 3 := ⟨⟨153, zo_153, rfl⟩, by decide +kernel⟩
theorem zq_322 : zQ [162, 0, 118] (.if_icmp .ge 118) 3 := ⟨⟨162, zo_162, rfl⟩, by decide +kernel⟩
theorem zq_323 : zQ [54, 8] (.istore 8) 2 := ⟨⟨54, zo_54, rfl⟩, by decide +kernel⟩
theorem zq_324 : zQ [54, 9] (.istore 9) 2 := ⟨⟨54, zo_54, rfl⟩, by decide +kernel⟩
theorem zq_325 : zQ [21, 9] (.iload 9) 2 := ⟨⟨21, zo_21, rfl⟩, by decide +kernel⟩
theorem zq_326 : zQ [162, 0, 69] (.if_icmp .ge 69) 3 := ⟨⟨162, zo_162, rfl⟩, by decide +kernel⟩
theorem zq_327 : zQ [54, 10] (.istore 10) 2 := ⟨⟨54, zo_54, rfl⟩, by decide +kernel⟩
theorem zq_328 : zQ [182, 0, 192] (.invokevirtual 192) 3 := ⟨⟨182, zo_182, rfl⟩, by decide +kernel⟩
theorem zq_329 : zQ [153, 0, 34] (.ifCond .eq 34) 3 := ⟨⟨153, zo_153, rfl⟩, by decide +kernel⟩
theorem zq_330 : zQ [21, 10] (.iload 10) 2 := ⟨⟨21, zo_21, rfl⟩, by decide +kernel⟩
theorem zq_331 : zQ [161, 0, 28] (.if_icmp .lt 28) 3 := ⟨⟨161, zo_161, rfl⟩, by decide +kernel⟩
theorem zq_332 : zQ [163, 0, 22] (.if_icmp .gt 22) 3 := ⟨⟨163, zo_163, rfl⟩, by decide +kernel⟩
theorem zq_333 : zQ [132, 8, 1] (.iinc 8 1) 3 := ⟨⟨132, zo_132, rfl⟩, by decide +kernel⟩
theorem zq_334 : zQ [132, 9, 1] (.iinc 9 1) 3 := ⟨⟨132, zo_132, rfl⟩, by decide +kernel⟩
theorem zq_335 : zQ [167, 255, 178] (.goto (-78)) 3 := ⟨⟨167, zo_167, rfl⟩, by decide +kernel⟩
theorem zq_336 : zQ [21, 8] (.iload 8) 2 := ⟨⟨21, zo_21, rfl⟩, by decide +kernel⟩
theorem zq_337 : zQ [167, 255, 137] (.goto (-119)) 3 := ⟨⟨167, zo_167, rfl⟩, by decide +kernel⟩
theorem zq_338 : zQ [180, 0, 195] (.getfield 195) 3 := ⟨⟨180, zo_180, rfl⟩, by decide +kernel⟩
theorem zq_339 : zQ [180, 0, 198] (.getfield 198) 3 := ⟨⟨180, zo_180, rfl⟩, by decide +kernel⟩
theorem zq_340 : zQ [180, 0, 201] (.getfield 201) 3 := ⟨⟨180, zo_180, rfl⟩, by decide +kernel⟩
theorem zq_341 : zQ [180, 0, 204] (.getfield 204) 3 := ⟨⟨180, zo_180, rfl⟩, by decide +kernel⟩
theorem zq_342 : zQ [162, 0, 60] (.if_icmp .ge 60) 3 := ⟨⟨162, zo_162, rfl⟩, by decide +kernel⟩
theorem zq_343 : zQ [184, 0, 207] (.invokestatic 207) 3 := ⟨⟨184, zo_184, rfl⟩, by decide +kernel⟩
theorem zq_344 : zQ [160, 0, 10] (.if_icmp .ne 10) 3 := ⟨⟨160, zo_160, rfl⟩, by decide +kernel⟩
theorem zq_345 : zQ [120] (.ishl) 1 := ⟨⟨120, zo_120, rfl⟩, by decide +kernel⟩
theorem zq_346 : zQ [128] (.ior) 1 := ⟨⟨128, zo_128, rfl⟩, by decide +kernel⟩
theorem zq_347 : zQ [167, 255, 187] (.goto (-69)) 3 := ⟨⟨167, zo_167, rfl⟩, by decide +kernel⟩
theorem zq_348 : zQ [154, 0, 18] (.ifCond .ne 18) 3 := ⟨⟨154, zo_154, rfl⟩, by decide +kernel⟩
theorem zq_349 : zQ [162, 0, 8] (.if_icmp .ge 8) 3 := ⟨⟨162, zo_162, rfl⟩, by decide +kernel⟩
theorem zq_350 : zQ [180, 0, 212] (.getfield 212) 3 := ⟨⟨180, zo_180, rfl⟩, by decide +kernel⟩
theorem zq_351 : zQ [162, 0, 6] (.if_icmp .ge 6) 3 := ⟨⟨162, zo_162, rfl⟩, by decide +kernel⟩
theorem zq_352 : zQ [162, 0, 24] (.if_icmp .ge 24) 3 := ⟨⟨162, zo_162, rfl⟩, by decide +kernel⟩
theorem zq_353 : zQ [182, 0, 215] (.invokevirtual 215) 3 := ⟨⟨182, zo_182, rfl⟩, by decide +kernel⟩
theorem zq_354 : zQ [182, 0, 218] (.invokevirtual 218) 3 := ⟨⟨182, zo_182, rfl⟩, by decide +kernel⟩
theorem zq_355 : zQ [180, 0, 16] (.getfield 16) 3 := ⟨⟨180, zo_180, rfl⟩, by decide +kernel⟩
theorem zq_356 : zQ [182, 0, 222] (.invokevirtual 222) 3 := ⟨⟨182, zo_182, rfl⟩, by decide +kernel⟩
theorem zq_357 : zQ [182, 0, 226] (.invokevirtual 226) 3 := ⟨⟨182, zo_182, rfl⟩, by decide +kernel⟩
theorem zq_358 : zQ [167, 0, 14] (.goto 14) 3 := ⟨⟨167, zo_167, rfl⟩, by decide +kernel⟩
theorem zq_359 : zQ [182, 0, 229] (.invokevirtual 229) 3 := ⟨⟨182, zo_182, rfl⟩, by decide +kernel⟩
theorem zq_360 : zQ [162, 0, 114] (.if_icmp .ge 114) 3 := ⟨⟨162, zo_162, rfl⟩, by decide +kernel⟩
theorem zq_361 : zQ [182, 0, 232] (.invokevirtual 232) 3 := ⟨⟨182, zo_182, rfl⟩, by decide +kernel⟩
theorem zq_362 : zQ [162, 0, 12] (.if_icmp .ge 12) 3 := ⟨⟨162, zo_162, rfl⟩, by decide +kernel⟩
theorem zq_363 : zQ [182, 0, 235] (.invokevirtual 235) 3 := ⟨⟨182, zo_182, rfl⟩, by decide +kernel⟩
theorem zq_364 : zQ [167, 0, 6] (.goto 6) 3 := ⟨⟨167, zo_167, rfl⟩, by decide +kernel⟩
theorem zq_365 : zQ [163, 0, 6] (.if_icmp .gt 6) 3 := ⟨⟨163, zo_163, rfl⟩, by decide +kernel⟩
theorem zq_366 : zQ [167, 0, 56] (.goto 56) 3 := ⟨⟨167, zo_167, rfl⟩, by decide +kernel⟩
theorem zq_367 : zQ [154, 0, 8] (.ifCond .ne 8) 3 := ⟨⟨154, zo_154, rfl⟩, by decide +kernel⟩
theorem zq_368 : zQ [167, 0, 10] (.goto 10) 3 := ⟨⟨167, zo_167, rfl⟩, by decide +kernel⟩
theorem zq_369 : zQ [167, 255, 142] (.goto (-114)) 3 := ⟨⟨167, zo_167, rfl⟩, by decide +kernel⟩
theorem zq_370 : zQ [167, 255, 213] (.goto (-43)) 3 := ⟨⟨167, zo_167, rfl⟩, by decide +kernel⟩
theorem zq_371 : zQ [161, 0, 9] (.if_icmp .lt 9) 3 := ⟨⟨161, zo_161, rfl⟩, by decide +kernel⟩
theorem zq_372 : zQ [180, 0, 37] (.getfield 37) 3 := ⟨⟨180, zo_180, rfl⟩, by decide +kernel⟩
theorem zq_373 : zQ [184, 0, 238] (.invokestatic 238) 3 := ⟨⟨184, zo_184, rfl⟩, by decide +kernel⟩
theorem zq_374 : zQ [162, 0, 48] (.if_icmp .ge 48) 3 := ⟨⟨162, zo_162, rfl⟩, by decide +kernel⟩
theorem zq_375 : zQ [16, 100] (.bipush 100) 2 := ⟨⟨16, zo_16, rfl⟩, by decide +kernel⟩
theorem zq_376 : zQ [184, 0, 244] (.invokestatic 244) 3 := ⟨⟨184, zo_184, rfl⟩, by decide +kernel⟩
theorem zq_377 : zQ [155, 0, 24] (.ifCond .lt 24) 3 := ⟨⟨155, zo_155, rfl⟩, by decide +kernel⟩
theorem zq_378 : zQ [162, 0, 14] (.if_icmp .ge 14) 3 := ⟨⟨162, zo_162, rfl⟩, by decide +kernel⟩
theorem zq_379 : zQ [16, 99] (.bipush 99) 2 := ⟨⟨16, zo_16, rfl⟩, by decide +kernel⟩
theorem zq_380 : zQ [161, 0, 48] (.if_icmp .lt 48) 3 := ⟨⟨161, zo_161, rfl⟩, by decide +kernel⟩
theorem zq_381 : zQ [161, 0, 6] (.if_icmp .lt 6) 3 := ⟨⟨161, zo_161, rfl⟩, by decide +kernel⟩
theorem zq_382 : zQ [132, 5, 255] (.iinc 5 (-1)) 3 := ⟨⟨132, zo_132, rfl⟩, by decide +kernel⟩
theorem zq_383 : zQ [167, 255, 208] (.goto (-48)) 3 := ⟨⟨167, zo_167, rfl⟩, by decide +kernel⟩
theorem zq_384 : zQ [182, 0, 247] (.invokevirtual 247) 3 := ⟨⟨182, zo_182, rfl⟩, by decide +kernel⟩
theorem zq_385 : zQ [167, 255, 233] (.goto (-23)) 3 := ⟨⟨167, zo_167, rfl⟩, by decide +kernel⟩
theorem zq_386 : zQ [180, 0, 250] (.getfield 250) 3 := ⟨⟨180, zo_180, rfl⟩, by decide +kernel⟩
theorem zq_387 : zQ [180, 0, 253] (.getfield 253) 3 := ⟨⟨180, zo_180, rfl⟩, by decide +kernel⟩
theorem zq_388 : zQ [155, 0, 26] (.ifCond .lt 26) 3 := ⟨⟨155, zo_155, rfl⟩, by decide +kernel⟩
theorem zq_389 : zQ [182, 1, 0] (.invokevirtual 256) 3 := ⟨⟨182, zo_182, rfl⟩, by decide +kernel⟩
theorem zq_390 : zQ [162, 0, 64] (.if_icmp .ge 64) 3 := ⟨⟨162, zo_162, rfl⟩, by decide +kernel⟩
theorem zq_391 : zQ [182, 1, 3] (.invokevirtual 259) 3 := ⟨⟨182, zo_182, rfl⟩, by decide +kernel⟩
theorem zq_392 : zQ [156, 0, 9] (.ifCond .ge 9) 3 := ⟨⟨156, zo_156, rfl⟩, by decide +kernel⟩
theorem zq_393 : zQ [167, 0, 43] (.goto 43) 3 := ⟨⟨167, zo_167, rfl⟩, by decide +kernel⟩
theorem zq_394 : zQ [182, 1, 6] (.invokevirtual 262) 3 := ⟨⟨182, zo_182, rfl⟩, by decide +kernel⟩
theorem zq_395 : zQ [182, 1, 9] (.invokevirtual 265) 3 := ⟨⟨182, zo_182, rfl⟩, by decide +kernel⟩
theorem zq_396 : zQ [182, 1, 13] (.invokevirtual 269) 3 := ⟨⟨182, zo_182, rfl⟩, by decide +kernel⟩
theorem zq_397 : zQ [180, 1, 18] (.getfield 274) 3 := ⟨⟨180, zo_180, rfl⟩, by decide +kernel⟩
theorem zq_398 : zQ [181, 1, 18] (.putfield 274) 3 := ⟨⟨181, zo_181, rfl⟩, by decide +kernel⟩
theorem zq_399 : zQ [180, 1, 21] (.getfield 277) 3 := ⟨⟨180, zo_180, rfl⟩, by decide +kernel⟩
theorem zq_400 : zQ [50] (.aaload) 1 := ⟨⟨50, zo_50, rfl⟩, by decide +kernel⟩
theorem zq_401 : zQ [162, 0, 119] (.if_icmp .ge 119) 3 := ⟨⟨162, zo_162, rfl⟩, by decide +kernel⟩
theorem zq_402 : zQ [184, 1, 24] (.invokestatic 280) 3 := ⟨⟨184, zo_184, rfl⟩, by decide +kernel⟩
theorem zq_403 : zQ [184, 1, 27] (.invokestatic 283) 3 := ⟨⟨184, zo_184, rfl⟩, by decide +kernel⟩
theorem zq_404 : zQ [17, 0, 199] (.sipush 199) 3 := ⟨⟨17, zo_17, rfl⟩, by decide +kernel⟩
theorem zq_405 : zQ [17, 39, 15] (.sipush 9999) 3 := ⟨⟨17, zo_17, rfl⟩, by decide +kernel⟩
theorem zq_406 : zQ [132, 6, 1] (.iinc 6 1) 3 := ⟨⟨132, zo_132, rfl⟩, by decide +kernel⟩
theorem zq_407 : zQ [77] (.astore_n 2) 1 := ⟨⟨77, zo_77, rfl⟩, by decide +kernel⟩
theorem zq_408 : zQ [199, 0, 5] (.ifnonnull 5) 3 := ⟨⟨199, zo_199, rfl⟩, by decide +kernel⟩
theorem zq_409 : zQ [180, 1, 30] (.getfield 286) 3 := ⟨⟨180, zo_180, rfl⟩, by decide +kernel⟩
theorem zq_410 : zQ [181, 1, 30] (.putfield 286) 3 := ⟨⟨181, zo_181, rfl⟩, by decide +kernel⟩
theorem zq_411 : zQ [155, 0, 19] (.ifCond .lt 19) 3 := ⟨⟨155, zo_155, rfl⟩, by decide +kernel⟩
theorem zq_412 : zQ [180, 1, 33] (.getfield 289) 3 := ⟨⟨180, zo_180, rfl⟩, by decide +kernel⟩
theorem zq_413 : zQ [47] (.laload) 1 := ⟨⟨47, zo_47, rfl⟩, by decide +kernel⟩
theorem zq_414 : zQ [173] (.lreturn) 1 := ⟨⟨173, zo_173, rfl⟩, by decide +kernel⟩
theorem zq_415 : zQ [26] (.iload_n 0) 1 := ⟨⟨26, zo_26, rfl⟩, by decide +kernel⟩
theorem zq_416 : zQ [155, 0, 13] (.ifCond .lt 13) 3 := ⟨⟨155, zo_155, rfl⟩, by decide +kernel⟩
theorem zq_417 : zQ [155, 0, 14] (.ifCond .lt 14) 3 := ⟨⟨155, zo_155, rfl⟩, by decide +kernel⟩
theorem zq_418 : zQ [163, 0, 7] (.if_icmp .gt 7) 3 := ⟨⟨163, zo_163, rfl⟩, by decide +kernel⟩
theorem zq_419 : zQ [155, 0, 21] (.ifCond .lt 21) 3 := ⟨⟨155, zo_155, rfl⟩, by decide +kernel⟩
theorem zq_420 : zQ [153, 0, 35] (.ifCond .eq 35) 3 := ⟨⟨153, zo_153, rfl⟩, by decide +kernel⟩
theorem zq_421 : zQ [153, 0, 28] (.ifCond .eq 28) 3 := ⟨⟨153, zo_153, rfl⟩, by decide +kernel⟩
theorem zq_422 : zQ [16, 157] (.bipush (-99)) 2 := ⟨⟨16, zo_16, rfl⟩, by decide +kernel⟩
theorem zq_423 : zQ [161, 0, 22] (.if_icmp .lt 22) 3 := ⟨⟨161, zo_161, rfl⟩, by decide +kernel⟩
theorem zq_424 : zQ [163, 0, 16] (.if_icmp .gt 16) 3 := ⟨⟨163, zo_163, rfl⟩, by decide +kernel⟩
theorem zq_425 : zQ [161, 0, 33] (.if_icmp .lt 33) 3 := ⟨⟨161, zo_161, rfl⟩, by decide +kernel⟩
theorem zq_426 : zQ [163, 0, 27] (.if_icmp .gt 27) 3 := ⟨⟨163, zo_163, rfl⟩, by decide +kernel⟩
theorem zq_427 : zQ [163, 0, 17] (.if_icmp .gt 17) 3 := ⟨⟨163, zo_163, rfl⟩, by decide +kernel⟩
theorem zq_428 : zQ [182, 1, 36] (.invokevirtual 292) 3 := ⟨⟨182, zo_182, rfl⟩, by decide +kernel⟩
theorem zq_429 : zQ [161, 0, 8] (.if_icmp .lt 8) 3 := ⟨⟨161, zo_161, rfl⟩, by decide +kernel⟩
theorem zq_430 : zQ [160, 0, 9] (.if_icmp .ne 9) 3 := ⟨⟨160, zo_160, rfl⟩, by decide +kernel⟩
theorem zq_431 : zQ [181, 1, 33] (.putfield 289) 3 := ⟨⟨181, zo_181, rfl⟩, by decide +kernel⟩
theorem zq_432 : zQ [31] (.lload_n 1) 1 := ⟨⟨31, zo_31, rfl⟩, by decide +kernel⟩
theorem zq_433 : zQ [80] (.lastore) 1 := ⟨⟨80, zo_80, rfl⟩, by decide +kernel⟩
theorem zq_434 : zQ [33] (.lload_n 3) 1 := ⟨⟨33, zo_33, rfl⟩, by decide +kernel⟩
theorem zq_435 : zQ [22, 5] (.lload 5) 2 := ⟨⟨22, zo_22, rfl⟩, by decide +kernel⟩
theorem zq_436 : zQ [180, 0, 30] (.getfield 30) 3 := ⟨⟨180, zo_180, rfl⟩, by decide +kernel⟩
theorem zq_437 : zQ [16, 97] (.bipush 97) 2 := ⟨⟨16, zo_16, rfl⟩, by decide +kernel⟩
theorem zq_438 : zQ [161, 0, 13] (.if_icmp .lt 13) 3 := ⟨⟨161, zo_161, rfl⟩, by decide +kernel⟩
theorem zq_439 : zQ [16, 103] (.bipush 103) 2 := ⟨⟨16, zo_16, rfl⟩, by decide +kernel⟩
theorem zq_440 : zQ [16, 43] (.bipush 43) 2 := ⟨⟨16, zo_16, rfl⟩, by decide +kernel⟩
theorem zq_441 : zQ [159, 0, 9] (.if_icmp .eq 9) 3 := ⟨⟨159, zo_159, rfl⟩, by decide +kernel⟩
theorem zq_442 : zQ [16, 45] (.bipush 45) 2 := ⟨⟨16, zo_16, rfl⟩, by decide +kernel⟩
theorem zq_443 : zQ [16, 48] (.bipush 48) 2 := ⟨⟨16, zo_16, rfl⟩, by decide +kernel⟩
theorem zq_444 : zQ [161, 0, 24] (.if_icmp .lt 24) 3 := ⟨⟨161, zo_161, rfl⟩, by decide +kernel⟩
theorem zq_445 : zQ [16, 57] (.bipush 57) 2 := ⟨⟨16, zo_16, rfl⟩, by decide +kernel⟩
theorem zq_446 : zQ [45] (.aload_n 3) 1 := ⟨⟨45, zo_45, rfl⟩, by decide +kernel⟩
theorem zq_447 : zQ [162, 0, 43] (.if_icmp .ge 43) 3 := ⟨⟨162, zo_162, rfl⟩, by decide +kernel⟩
theorem zq_448 : zQ [182, 1, 39] (.invokevirtual 295) 3 := ⟨⟨182, zo_182, rfl⟩, by decide +kernel⟩
theorem zq_449 : zQ [182, 1, 42] (.invokevirtual 298) 3 := ⟨⟨182, zo_182, rfl⟩, by decide +kernel⟩
theorem zq_450 : zQ [182, 1, 46] (.invokevirtual 302) 3 := ⟨⟨182, zo_182, rfl⟩, by decide +kernel⟩
theorem zq_451 : zQ [162, 0, 25] (.if_icmp .ge 25) 3 := ⟨⟨162, zo_162, rfl⟩, by decide +kernel⟩
theorem zq_452 : zQ [19, 1, 50] (.ldc_w 306) 3 := ⟨⟨19, zo_19, rfl⟩, by decide +kernel⟩
theorem zq_453 : zQ [182, 1, 52] (.invokevirtual 308) 3 := ⟨⟨182, zo_182, rfl⟩, by decide +kernel⟩
theorem zq_454 : zQ [155, 0, 5] (.ifCond .lt 5) 3 := ⟨⟨155, zo_155, rfl⟩, by decide +kernel⟩
theorem zq_455 : zQ [132, 2, 9] (.iinc 2 9) 3 := ⟨⟨132, zo_132, rfl⟩, by decide +kernel⟩
theorem zq_456 : zQ [167, 255, 232] (.goto (-24)) 3 := ⟨⟨167, zo_167, rfl⟩, by decide +kernel⟩
theorem zq_457 : zQ [162, 0, 61] (.if_icmp .ge 61) 3 := ⟨⟨162, zo_162, rfl⟩, by decide +kernel⟩
theorem zq_458 : zQ [58, 4] (.astore 4) 2 := ⟨⟨58, zo_58, rfl⟩, by decide +kernel⟩
theorem zq_459 : zQ [25, 4] (.aload 4) 2 := ⟨⟨25, zo_25, rfl⟩, by decide +kernel⟩
theorem zq_460 : zQ [182, 1, 56] (.invokevirtual 312) 3 := ⟨⟨182, zo_182, rfl⟩, by decide +kernel⟩
theorem zq_461 : zQ [155, 0, 6] (.ifCond .lt 6) 3 := ⟨⟨155, zo_155, rfl⟩, by decide +kernel⟩
theorem zq_462 : zQ [19, 1, 60] (.ldc_w 316) 3 := ⟨⟨19, zo_19, rfl⟩, by decide +kernel⟩
theorem zq_463 : zQ [176] (.areturn) 1 := ⟨⟨176, zo_176, rfl⟩, by decide +kernel⟩
theorem zq_464 : zQ [19, 1, 62] (.ldc_w 318) 3 := ⟨⟨19, zo_19, rfl⟩, by decide +kernel⟩
theorem zq_465 : zQ [19, 1, 64] (.ldc_w 320) 3 := ⟨⟨19, zo_19, rfl⟩, by decide +kernel⟩
theorem zq_466 : zQ [19, 1, 66] (.ldc_w 322) 3 := ⟨⟨19, zo_19, rfl⟩, by decide +kernel⟩
theorem zq_467 : zQ [162, 0, 26] (.if_icmp .ge 26) 3 := ⟨⟨162, zo_162, rfl⟩, by decide +kernel⟩
theorem zq_468 : zQ [182, 1, 68] (.invokevirtual 324) 3 := ⟨⟨182, zo_182, rfl⟩, by decide +kernel⟩
theorem zq_469 : zQ [160, 0, 8] (.if_icmp .ne 8) 3 := ⟨⟨160, zo_160, rfl⟩, by decide +kernel⟩
theorem zq_470 : zQ [116] (.ineg) 1 := ⟨⟨116, zo_116, rfl⟩, by decide +kernel⟩
theorem zq_471 : zQ [182, 1, 71] (.invokevirtual 327) 3 := ⟨⟨182, zo_182, rfl⟩, by decide +kernel⟩
theorem zq_472 : zQ [182, 1, 74] (.invokevirtual 330) 3 := ⟨⟨182, zo_182, rfl⟩, by decide +kernel⟩
theorem zq_473 : zQ [167, 0, 44] (.goto 44) 3 := ⟨⟨167, zo_167, rfl⟩, by decide +kernel⟩
theorem zq_474 : zQ [76] (.astore_n 1) 1 := ⟨⟨76, zo_76, rfl⟩, by decide +kernel⟩
theorem zq_475 : zQ [167, 0, 16] (.goto 16) 3 := ⟨⟨167, zo_167, rfl⟩, by decide +kernel⟩
theorem zq_476 : zQ [181, 1, 21] (.putfield 277) 3 := ⟨⟨181, zo_181, rfl⟩, by decide +kernel⟩
theorem zq_477 : zQ [167, 255, 220] (.goto (-36)) 3 := ⟨⟨167, zo_167, rfl⟩, by decide +kernel⟩
theorem zq_478 : zQ [155, 0, 17] (.ifCond .lt 17) 3 := ⟨⟨155, zo_155, rfl⟩, by decide +kernel⟩
theorem zq_479 : zQ [159, 0, 19] (.if_icmp .eq 19) 3 := ⟨⟨159, zo_159, rfl⟩, by decide +kernel⟩
theorem zq_480 : zQ [182, 1, 77] (.invokevirtual 333) 3 := ⟨⟨182, zo_182, rfl⟩, by decide +kernel⟩
theorem zq_481 : zQ [167, 255, 204] (.goto (-52)) 3 := ⟨⟨167, zo_167, rfl⟩, by decide +kernel⟩
theorem zq_482 : zQ [162, 0, 102] (.if_icmp .ge 102) 3 := ⟨⟨162, zo_162, rfl⟩, by decide +kernel⟩
theorem zq_483 : zQ [180, 0, 34] (.getfield 34) 3 := ⟨⟨180, zo_180, rfl⟩, by decide +kernel⟩
theorem zq_484 : zQ [162, 0, 93] (.if_icmp .ge 93) 3 := ⟨⟨162, zo_162, rfl⟩, by decide +kernel⟩
theorem zq_485 : zQ [167, 0, 72] (.goto 72) 3 := ⟨⟨167, zo_167, rfl⟩, by decide +kernel⟩
theorem zq_486 : zQ [158, 0, 39] (.ifCond .le 39) 3 := ⟨⟨158, zo_158, rfl⟩, by decide +kernel⟩
theorem zq_487 : zQ [164, 0, 25] (.if_icmp .le 25) 3 := ⟨⟨164, zo_164, rfl⟩, by decide +kernel⟩
theorem zq_488 : zQ [167, 255, 146] (.goto (-110)) 3 := ⟨⟨167, zo_167, rfl⟩, by decide +kernel⟩
theorem zq_489 : zQ [155, 0, 32] (.ifCond .lt 32) 3 := ⟨⟨155, zo_155, rfl⟩, by decide +kernel⟩
theorem zq_490 : zQ [19, 1, 81] (.ldc_w 337) 3 := ⟨⟨19, zo_19, rfl⟩, by decide +kernel⟩
theorem zq_491 : zQ [17, 48, 57] (.sipush 12345) 3 := ⟨⟨17, zo_17, rfl⟩, by decide +kernel⟩
theorem zq_492 : zQ [158, 0, 12] (.ifCond .le 12) 3 := ⟨⟨158, zo_158, rfl⟩, by decide +kernel⟩
theorem zq_493 : zQ [16, 16] (.bipush 16) 2 := ⟨⟨16, zo_16, rfl⟩, by decide +kernel⟩
theorem zq_494 : zQ [30] (.lload_n 0) 1 := ⟨⟨30, zo_30, rfl⟩, by decide +kernel⟩
theorem zq_495 : zQ [32] (.lload_n 2) 1 := ⟨⟨32, zo_32, rfl⟩, by decide +kernel⟩
theorem zq_496 : zQ [148] (.lcmp) 1 := ⟨⟨148, zo_148, rfl⟩, by decide +kernel⟩
theorem zq_497 : zQ [22, 4] (.lload 4) 2 := ⟨⟨22, zo_22, rfl⟩, by decide +kernel⟩
theorem zq_498 : zQ [157, 0, 7] (.ifCond .gt 7) 3 := ⟨⟨157, zo_157, rfl⟩, by decide +kernel⟩
theorem zq_499 : zQ [180, 0, 7] (.getfield 7) 3 := ⟨⟨180, zo_180, rfl⟩, by decide +kernel⟩
theorem zq_500 : zQ [180, 0, 11] (.getfield 11) 3 := ⟨⟨180, zo_180, rfl⟩, by decide +kernel⟩
theorem zq_501 : zQ [181, 0, 11] (.putfield 11) 3 := ⟨⟨181, zo_181, rfl⟩, by decide +kernel⟩
theorem zq_502 : zQ [181, 0, 3] (.putfield 3) 3 := ⟨⟨181, zo_181, rfl⟩, by decide +kernel⟩
theorem zq_503 : zQ [16, 76] (.bipush 76) 2 := ⟨⟨16, zo_16, rfl⟩, by decide +kernel⟩
theorem zq_504 : zQ [180, 0, 17] (.getfield 17) 3 := ⟨⟨180, zo_180, rfl⟩, by decide +kernel⟩
theorem zq_505 : zQ [122] (.ishr) 1 := ⟨⟨122, zo_122, rfl⟩, by decide +kernel⟩
theorem zq_506 : zQ [9] (.lconst 0) 1 := ⟨⟨9, zo_9, rfl⟩, by decide +kernel⟩
theorem zq_507 : zQ [184, 0, 21] (.invokestatic 21) 3 := ⟨⟨184, zo_184, rfl⟩, by decide +kernel⟩
theorem zq_508 : zQ [181, 0, 25] (.putfield 25) 3 := ⟨⟨181, zo_181, rfl⟩, by decide +kernel⟩
theorem zq_509 : zQ [181, 0, 28] (.putfield 28) 3 := ⟨⟨181, zo_181, rfl⟩, by decide +kernel⟩
theorem zq_510 : zQ [182, 0, 31] (.invokevirtual 31) 3 := ⟨⟨182, zo_182, rfl⟩, by decide +kernel⟩
theorem zq_511 : zQ [162, 0, 49] (.if_icmp .ge 49) 3 := ⟨⟨162, zo_162, rfl⟩, by decide +kernel⟩
theorem zq_512 : zQ [180, 0, 28] (.getfield 28) 3 := ⟨⟨180, zo_180, rfl⟩, by decide +kernel⟩
theorem zq_513 : zQ [180, 0, 25] (.getfield 25) 3 := ⟨⟨180, zo_180, rfl⟩, by decide +kernel⟩
theorem zq_514 : zQ [182, 0, 37] (.invokevirtual 37) 3 := ⟨⟨182, zo_182, rfl⟩, by decide +kernel⟩
theorem zq_515 : zQ [160, 0, 15] (.if_icmp .ne 15) 3 := ⟨⟨160, zo_160, rfl⟩, by decide +kernel⟩
theorem zq_516 : zQ [167, 255, 205] (.goto (-51)) 3 := ⟨⟨167, zo_167, rfl⟩, by decide +kernel⟩
theorem zq_517 : zQ [155, 0, 34] (.ifCond .lt 34) 3 := ⟨⟨155, zo_155, rfl⟩, by decide +kernel⟩
theorem zq_518 : zQ [18, 41] (.ldc 41) 2 := ⟨⟨18, zo_18, rfl⟩, by decide +kernel⟩
theorem zq_519 : zQ [182, 0, 43] (.invokevirtual 43) 3 := ⟨⟨182, zo_182, rfl⟩, by decide +kernel⟩
theorem zq_520 : zQ [167, 255, 219] (.goto (-37)) 3 := ⟨⟨167, zo_167, rfl⟩, by decide +kernel⟩
theorem zq_521 : zQ [183, 0, 47] (.invokespecial 47) 3 := ⟨⟨183, zo_183, rfl⟩, by decide +kernel⟩
theorem zq_524 : zQ [17, 120, 124] (.sipush 30844) 3 := ⟨⟨17, zo_17, rfl⟩, by decide +kernel⟩
theorem zq_535 : zQ [182, 0, 84] (.invokevirtual 84) 3 := ⟨⟨182, zo_182, rfl⟩, by decide +kernel⟩
theorem zq_536 : zQ [17, 10, 244] (.sipush 2804) 3 := ⟨⟨17, zo_17, rfl⟩, by decide +kernel⟩
theorem zq_537 : zQ [180, 0, 53] (.getfield 53) 3 := ⟨⟨180, zo_180, rfl⟩, by decide +kernel⟩
theorem zq_538 : zQ [167, 255, 231] (.goto (-25)) 3 := ⟨⟨167, zo_167, rfl⟩, by decide +kernel⟩
theorem zq_539 : zQ [16, 54] (.bipush 54) 2 := ⟨⟨16, zo_16, rfl⟩, by decide +kernel⟩
theorem zq_540 : zQ [167, 255, 229] (.goto (-27)) 3 := ⟨⟨167, zo_167, rfl⟩, by decide +kernel⟩
theorem zq_541 : zQ [162, 0, 27] (.if_icmp .ge 27) 3 := ⟨⟨162, zo_162, rfl⟩, by decide +kernel⟩
theorem zq_542 : zQ [182, 0, 88] (.invokevirtual 88) 3 := ⟨⟨182, zo_182, rfl⟩, by decide +kernel⟩
theorem zq_543 : zQ [180, 0, 92] (.getfield 92) 3 := ⟨⟨180, zo_180, rfl⟩, by decide +kernel⟩
theorem zq_544 : zQ [160, 0, 41] (.if_icmp .ne 41) 3 := ⟨⟨160, zo_160, rfl⟩, by decide +kernel⟩
theorem zq_545 : zQ [182, 0, 95] (.invokevirtual 95) 3 := ⟨⟨182, zo_182, rfl⟩, by decide +kernel⟩
theorem zq_546 : zQ [181, 0, 92] (.putfield 92) 3 := ⟨⟨181, zo_181, rfl⟩, by decide +kernel⟩
theorem zq_547 : zQ [182, 0, 99] (.invokevirtual 99) 3 := ⟨⟨182, zo_182, rfl⟩, by decide +kernel⟩
theorem zq_548 : zQ [10] (.lconst 1) 1 := ⟨⟨10, zo_10, rfl⟩, by decide +kernel⟩
theorem zq_549 : zQ [20, 0, 102] (.ldc2_w 102) 3 := ⟨⟨20, zo_20, rfl⟩, by decide +kernel⟩
theorem zq_550 : zQ [153, 0, 31] (.ifCond .eq 31) 3 := ⟨⟨153, zo_153, rfl⟩, by decide +kernel⟩
theorem zq_551 : zQ [20, 0, 104] (.ldc2_w 104) 3 := ⟨⟨20, zo_20, rfl⟩, by decide +kernel⟩
theorem zq_552 : zQ [20, 0, 106] (.ldc2_w 106) 3 := ⟨⟨20, zo_20, rfl⟩, by decide +kernel⟩
theorem zq_553 : zQ [184, 0, 108] (.invokestatic 108) 3 := ⟨⟨184, zo_184, rfl⟩, by decide +kernel⟩
theorem zq_554 : zQ [182, 0, 112] (.invokevirtual 112) 3 := ⟨⟨182, zo_182, rfl⟩, by decide +kernel⟩
theorem zq_555 : zQ [182, 0, 116] (.invokevirtual 116) 3 := ⟨⟨182, zo_182, rfl⟩, by decide +kernel⟩
theorem zq_556 : zQ [182, 0, 120] (.invokevirtual 120) 3 := ⟨⟨182, zo_182, rfl⟩, by decide +kernel⟩
theorem zq_557 : zQ [20, 0, 124] (.ldc2_w 124) 3 := ⟨⟨20, zo_20, rfl⟩, by decide +kernel⟩
theorem zq_558 : zQ [17, 1, 108] (.sipush 364) 3 := ⟨⟨17, zo_17, rfl⟩, by decide +kernel⟩
theorem zq_559 : zQ [184, 0, 126] (.invokestatic 126) 3 := ⟨⟨184, zo_184, rfl⟩, by decide +kernel⟩
theorem zq_560 : zQ [182, 0, 129] (.invokevirtual 129) 3 := ⟨⟨182, zo_182, rfl⟩, by decide +kernel⟩
theorem zq_561 : zQ [158, 0, 60] (.ifCond .le 60) 3 := ⟨⟨158, zo_158, rfl⟩, by decide +kernel⟩
theorem zq_562 : zQ [182, 0, 132] (.invokevirtual 132) 3 := ⟨⟨182, zo_182, rfl⟩, by decide +kernel⟩
theorem zq_563 : zQ [153, 0, 49] (.ifCond .eq 49) 3 := ⟨⟨153, zo_153, rfl⟩, by decide +kernel⟩
theorem zq_564 : zQ [167, 255, 221] (.goto (-35)) 3 := ⟨⟨167, zo_167, rfl⟩, by decide +kernel⟩
theorem zq_565 : zQ [132, 2, 255] (.iinc 2 (-1)) 3 := ⟨⟨132, zo_132, rfl⟩, by decide +kernel⟩
theorem zq_566 : zQ [167, 255, 198] (.goto (-58)) 3 := ⟨⟨167, zo_167, rfl⟩, by decide +kernel⟩
theorem zq_567 : zQ [180, 0, 56] (.getfield 56) 3 := ⟨⟨180, zo_180, rfl⟩, by decide +kernel⟩
theorem zq_568 : zQ [182, 0, 136] (.invokevirtual 136) 3 := ⟨⟨182, zo_182, rfl⟩, by decide +kernel⟩
theorem zq_569 : zQ [163, 0, 29] (.if_icmp .gt 29) 3 := ⟨⟨163, zo_163, rfl⟩, by decide +kernel⟩
theorem zq_570 : zQ [160, 0, 23] (.if_icmp .ne 23) 3 := ⟨⟨160, zo_160, rfl⟩, by decide +kernel⟩
theorem zq_571 : zQ [17, 5, 204] (.sipush 1484) 3 := ⟨⟨17, zo_17, rfl⟩, by decide +kernel⟩
theorem zq_572 : zQ [167, 255, 227] (.goto (-29)) 3 := ⟨⟨167, zo_167, rfl⟩, by decide +kernel⟩
theorem zq_573 : zQ [16, 32] (.bipush 32) 2 := ⟨⟨16, zo_16, rfl⟩, by decide +kernel⟩
theorem zq_574 : zQ [158, 0, 10] (.ifCond .le 10) 3 := ⟨⟨158, zo_158, rfl⟩, by decide +kernel⟩
theorem zq_575 : zQ [182, 0, 140] (.invokevirtual 140) 3 := ⟨⟨182, zo_182, rfl⟩, by decide +kernel⟩
theorem zq_576 : zQ [154, 0, 30] (.ifCond .ne 30) 3 := ⟨⟨154, zo_154, rfl⟩, by decide +kernel⟩
theorem zq_577 : zQ [155, 0, 16] (.ifCond .lt 16) 3 := ⟨⟨155, zo_155, rfl⟩, by decide +kernel⟩
theorem zq_578 : zQ [16, 12] (.bipush 12) 2 := ⟨⟨16, zo_16, rfl⟩, by decide +kernel⟩
theorem zq_579 : zQ [162, 0, 83] (.if_icmp .ge 83) 3 := ⟨⟨162, zo_162, rfl⟩, by decide +kernel⟩
theorem zq_580 : zQ [182, 0, 143] (.invokevirtual 143) 3 := ⟨⟨182, zo_182, rfl⟩, by decide +kernel⟩
theorem zq_581 : zQ [154, 0, 17] (.ifCond .ne 17) 3 := ⟨⟨154, zo_154, rfl⟩, by decide +kernel⟩
theorem zq_582 : zQ [182, 0, 146] (.invokevirtual 146) 3 := ⟨⟨182, zo_182, rfl⟩, by decide +kernel⟩
theorem zq_583 : zQ [167, 255, 168] (.goto (-88)) 3 := ⟨⟨167, zo_167, rfl⟩, by decide +kernel⟩
theorem zq_584 : zQ [180, 0, 149] (.getfield 149) 3 := ⟨⟨180, zo_180, rfl⟩, by decide +kernel⟩
theorem zq_585 : zQ [161, 0, 25] (.if_icmp .lt 25) 3 := ⟨⟨161, zo_161, rfl⟩, by decide +kernel⟩
theorem zq_586 : zQ [160, 0, 21] (.if_icmp .ne 21) 3 := ⟨⟨160, zo_160, rfl⟩, by decide +kernel⟩
theorem zq_587 : zQ [180, 0, 152] (.getfield 152) 3 := ⟨⟨180, zo_180, rfl⟩, by decide +kernel⟩
theorem zq_588 : zQ [182, 0, 155] (.invokevirtual 155) 3 := ⟨⟨182, zo_182, rfl⟩, by decide +kernel⟩
theorem zq_589 : zQ [181, 0, 149] (.putfield 149) 3 := ⟨⟨181, zo_181, rfl⟩, by decide +kernel⟩
theorem zq_590 : zQ [181, 0, 152] (.putfield 152) 3 := ⟨⟨181, zo_181, rfl⟩, by decide +kernel⟩
theorem zq_591 : zQ [182, 0, 158] (.invokevirtual 158) 3 := ⟨⟨182, zo_182, rfl⟩, by decide +kernel⟩
theorem zq_592 : zQ [155, 0, 53] (.ifCond .lt 53) 3 := ⟨⟨155, zo_155, rfl⟩, by decide +kernel⟩
theorem zq_593 : zQ [182, 0, 161] (.invokevirtual 161) 3 := ⟨⟨182, zo_182, rfl⟩, by decide +kernel⟩
theorem zq_594 : zQ [182, 0, 167] (.invokevirtual 167) 3 := ⟨⟨182, zo_182, rfl⟩, by decide +kernel⟩
theorem zq_595 : zQ [162, 0, 47] (.if_icmp .ge 47) 3 := ⟨⟨162, zo_162, rfl⟩, by decide +kernel⟩
theorem zq_596 : zQ [153, 0, 26] (.ifCond .eq 26) 3 := ⟨⟨153, zo_153, rfl⟩, by decide +kernel⟩
theorem zq_597 : zQ [16, 84] (.bipush 84) 2 := ⟨⟨16, zo_16, rfl⟩, by decide +kernel⟩
theorem zq_598 : zQ [182, 0, 173] (.invokevirtual 173) 3 := ⟨⟨182, zo_182, rfl⟩, by decide +kernel⟩
theorem zq_599 : zQ [16, 36] (.bipush 36) 2 := ⟨⟨16, zo_16, rfl⟩, by decide +kernel⟩
theorem zq_600 : zQ [16, 42] (.bipush 42) 2 := ⟨⟨16, zo_16, rfl⟩, by decide +kernel⟩
theorem zq_601 : zQ [184, 0, 176] (.invokestatic 176) 3 := ⟨⟨184, zo_184, rfl⟩, by decide +kernel⟩
theorem zq_602 : zQ [17, 7, 52] (.sipush 1844) 3 := ⟨⟨17, zo_17, rfl⟩, by decide +kernel⟩
theorem zq_603 : zQ [160, 0, 45] (.if_icmp .ne 45) 3 := ⟨⟨160, zo_160, rfl⟩, by decide +kernel⟩
theorem zq_604 : zQ [163, 0, 26] (.if_icmp .gt 26) 3 := ⟨⟨163, zo_163, rfl⟩, by decide +kernel⟩
theorem zq_605 : zQ [181, 0, 184] (.putfield 184) 3 := ⟨⟨181, zo_181, rfl⟩, by decide +kernel⟩
theorem zq_606 : zQ [182, 0, 187] (.invokevirtual 187) 3 := ⟨⟨182, zo_182, rfl⟩, by decide +kernel⟩
theorem zq_607 : zQ [180, 0, 184] (.getfield 184) 3 := ⟨⟨180, zo_180, rfl⟩, by decide +kernel⟩
theorem zq_608 : zQ [155, 0, 131] (.ifCond .lt 131) 3 := ⟨⟨155, zo_155, rfl⟩, by decide +kernel⟩
theorem zq_609 : zQ [153, 0, 113] (.ifCond .eq 113) 3 := ⟨⟨153, zo_153, rfl⟩, by decide +kernel⟩
theorem zq_610 : zQ [184, 0, 191] (.invokestatic 191) 3 := ⟨⟨184, zo_184, rfl⟩, by decide +kernel⟩
theorem zq_611 : zQ [167, 255, 126] (.goto (-130)) 3 := ⟨⟨167, zo_167, rfl⟩, by decide +kernel⟩
theorem zq_612 : zQ [16, 11] (.bipush 11) 2 := ⟨⟨16, zo_16, rfl⟩, by decide +kernel⟩
theorem zq_613 : zQ [184, 0, 194] (.invokestatic 194) 3 := ⟨⟨184, zo_184, rfl⟩, by decide +kernel⟩
theorem zq_614 : zQ [182, 0, 198] (.invokevirtual 198) 3 := ⟨⟨182, zo_182, rfl⟩, by decide +kernel⟩
theorem zq_615 : zQ [167, 0, 28] (.goto 28) 3 := ⟨⟨167, zo_167, rfl⟩, by decide +kernel⟩
theorem zq_616 : zQ [158, 0, 23] (.ifCond .le 23) 3 := ⟨⟨158, zo_158, rfl⟩, by decide +kernel⟩
theorem zq_617 : zQ [154, 0, 11] (.ifCond .ne 11) 3 := ⟨⟨154, zo_154, rfl⟩, by decide +kernel⟩
theorem zq_618 : zQ [182, 0, 201] (.invokevirtual 201) 3 := ⟨⟨182, zo_182, rfl⟩, by decide +kernel⟩
theorem zq_619 : zQ [182, 0, 205] (.invokevirtual 205) 3 := ⟨⟨182, zo_182, rfl⟩, by decide +kernel⟩
theorem zq_620 : zQ [167, 0, 22] (.goto 22) 3 := ⟨⟨167, zo_167, rfl⟩, by decide +kernel⟩
theorem zq_621 : zQ [16, 28] (.bipush 28) 2 := ⟨⟨16, zo_16, rfl⟩, by decide +kernel⟩
theorem zq_622 : zQ [182, 0, 209] (.invokevirtual 209) 3 := ⟨⟨182, zo_182, rfl⟩, by decide +kernel⟩
theorem zq_623 : zQ [20, 0, 213] (.ldc2_w 213) 3 := ⟨⟨20, zo_20, rfl⟩, by decide +kernel⟩
theorem zq_624 : zQ [153, 0, 42] (.ifCond .eq 42) 3 := ⟨⟨153, zo_153, rfl⟩, by decide +kernel⟩
theorem zq_625 : zQ [20, 0, 215] (.ldc2_w 215) 3 := ⟨⟨20, zo_20, rfl⟩, by decide +kernel⟩
theorem zq_626 : zQ [153, 0, 30] (.ifCond .eq 30) 3 := ⟨⟨153, zo_153, rfl⟩, by decide +kernel⟩
theorem zq_627 : zQ [20, 0, 217] (.ldc2_w 217) 3 := ⟨⟨20, zo_20, rfl⟩, by decide +kernel⟩
theorem zq_628 : zQ [153, 0, 16] (.ifCond .eq 16) 3 := ⟨⟨153, zo_153, rfl⟩, by decide +kernel⟩
theorem zq_629 : zQ [182, 0, 219] (.invokevirtual 219) 3 := ⟨⟨182, zo_182, rfl⟩, by decide +kernel⟩
theorem zq_630 : zQ [167, 0, 13] (.goto 13) 3 := ⟨⟨167, zo_167, rfl⟩, by decide +kernel⟩
theorem zq_631 : zQ [182, 0, 230] (.invokevirtual 230) 3 := ⟨⟨182, zo_182, rfl⟩, by decide +kernel⟩
theorem zq_632 : zQ [182, 0, 234] (.invokevirtual 234) 3 := ⟨⟨182, zo_182, rfl⟩, by decide +kernel⟩
theorem zq_633 : zQ [180, 0, 59] (.getfield 59) 3 := ⟨⟨180, zo_180, rfl⟩, by decide +kernel⟩
theorem zq_634 : zQ [18, 237] (.ldc 237) 2 := ⟨⟨18, zo_18, rfl⟩, by decide +kernel⟩
theorem zq_635 : zQ [180, 0, 62] (.getfield 62) 3 := ⟨⟨180, zo_180, rfl⟩, by decide +kernel⟩
theorem zq_636 : zQ [182, 0, 239] (.invokevirtual 239) 3 := ⟨⟨182, zo_182, rfl⟩, by decide +kernel⟩
theorem zq_637 : zQ [18, 242] (.ldc 242) 2 := ⟨⟨18, zo_18, rfl⟩, by decide +kernel⟩
theorem zq_638 : zQ [180, 0, 65] (.getfield 65) 3 := ⟨⟨180, zo_180, rfl⟩, by decide +kernel⟩
theorem zq_639 : zQ [180, 0, 68] (.getfield 68) 3 := ⟨⟨180, zo_180, rfl⟩, by decide +kernel⟩
theorem zq_640 : zQ [154, 0, 28] (.ifCond .ne 28) 3 := ⟨⟨154, zo_154, rfl⟩, by decide +kernel⟩
theorem zq_641 : zQ [182, 0, 244] (.invokevirtual 244) 3 := ⟨⟨182, zo_182, rfl⟩, by decide +kernel⟩
theorem zq_642 : zQ [154, 0, 10] (.ifCond .ne 10) 3 := ⟨⟨154, zo_154, rfl⟩, by decide +kernel⟩
theorem zq_643 : zQ [167, 255, 226] (.goto (-30)) 3 := ⟨⟨167, zo_167, rfl⟩, by decide +kernel⟩
theorem zq_644 : zQ [162, 0, 53] (.if_icmp .ge 53) 3 := ⟨⟨162, zo_162, rfl⟩, by decide +kernel⟩
theorem zq_645 : zQ [20, 0, 251] (.ldc2_w 251) 3 := ⟨⟨20, zo_20, rfl⟩, by decide +kernel⟩
theorem zq_646 : zQ [182, 0, 253] (.invokevirtual 253) 3 := ⟨⟨182, zo_182, rfl⟩, by decide +kernel⟩
theorem zq_647 : zQ [180, 0, 3] (.getfield 3) 3 := ⟨⟨180, zo_180, rfl⟩, by decide +kernel⟩
theorem zq_648 : zQ [160, 0, 5] (.if_icmp .ne 5) 3 := ⟨⟨160, zo_160, rfl⟩, by decide +kernel⟩
theorem zq_649 : zQ [20, 1, 12] (.ldc2_w 268) 3 := ⟨⟨20, zo_20, rfl⟩, by decide +kernel⟩
theorem zq_650 : zQ [20, 1, 14] (.ldc2_w 270) 3 := ⟨⟨20, zo_20, rfl⟩, by decide +kernel⟩
theorem zq_651 : zQ [167, 255, 207] (.goto (-49)) 3 := ⟨⟨167, zo_167, rfl⟩, by decide +kernel⟩
theorem zq_652 : zQ [162, 0, 46] (.if_icmp .ge 46) 3 := ⟨⟨162, zo_162, rfl⟩, by decide +kernel⟩
theorem zq_653 : zQ [158, 0, 28] (.ifCond .le 28) 3 := ⟨⟨158, zo_158, rfl⟩, by decide +kernel⟩
theorem zq_654 : zQ [184, 1, 16] (.invokestatic 272) 3 := ⟨⟨184, zo_184, rfl⟩, by decide +kernel⟩
theorem zq_655 : zQ [20, 1, 19] (.ldc2_w 275) 3 := ⟨⟨20, zo_20, rfl⟩, by decide +kernel⟩
theorem zq_656 : zQ [167, 0, 31] (.goto 31) 3 := ⟨⟨167, zo_167, rfl⟩, by decide +kernel⟩
theorem zq_657 : zQ [160, 0, 11] (.if_icmp .ne 11) 3 := ⟨⟨160, zo_160, rfl⟩, by decide +kernel⟩
theorem zq_658 : zQ [162, 0, 54] (.if_icmp .ge 54) 3 := ⟨⟨162, zo_162, rfl⟩, by decide +kernel⟩
theorem zq_659 : zQ [167, 255, 202] (.goto (-54)) 3 := ⟨⟨167, zo_167, rfl⟩, by decide +kernel⟩
theorem zq_660 : zQ [162, 0, 70] (.if_icmp .ge 70) 3 := ⟨⟨162, zo_162, rfl⟩, by decide +kernel⟩
theorem zq_661 : zQ [167, 0, 48] (.goto 48) 3 := ⟨⟨167, zo_167, rfl⟩, by decide +kernel⟩
theorem zq_662 : zQ [167, 255, 182] (.goto (-74)) 3 := ⟨⟨167, zo_167, rfl⟩, by decide +kernel⟩
theorem zq_663 : zQ [154, 0, 25] (.ifCond .ne 25) 3 := ⟨⟨154, zo_154, rfl⟩, by decide +kernel⟩
theorem zq_664 : zQ [162, 0, 152] (.if_icmp .ge 152) 3 := ⟨⟨162, zo_162, rfl⟩, by decide +kernel⟩
theorem zq_665 : zQ [162, 0, 98] (.if_icmp .ge 98) 3 := ⟨⟨162, zo_162, rfl⟩, by decide +kernel⟩
theorem zq_666 : zQ [182, 1, 21] (.invokevirtual 277) 3 := ⟨⟨182, zo_182, rfl⟩, by decide +kernel⟩
theorem zq_667 : zQ [154, 0, 48] (.ifCond .ne 48) 3 := ⟨⟨154, zo_154, rfl⟩, by decide +kernel⟩
theorem zq_668 : zQ [160, 0, 37] (.if_icmp .ne 37) 3 := ⟨⟨160, zo_160, rfl⟩, by decide +kernel⟩
theorem zq_669 : zQ [160, 0, 25] (.if_icmp .ne 25) 3 := ⟨⟨160, zo_160, rfl⟩, by decide +kernel⟩
theorem zq_670 : zQ [167, 255, 152] (.goto (-104)) 3 := ⟨⟨167, zo_167, rfl⟩, by decide +kernel⟩
theorem zq_671 : zQ [167, 255, 103] (.goto (-153)) 3 := ⟨⟨167, zo_167, rfl⟩, by decide +kernel⟩
theorem zq_672 : zQ [162, 0, 65] (.if_icmp .ge 65) 3 := ⟨⟨162, zo_162, rfl⟩, by decide +kernel⟩
theorem zq_673 : zQ [154, 0, 21] (.ifCond .ne 21) 3 := ⟨⟨154, zo_154, rfl⟩, by decide +kernel⟩
theorem zq_674 : zQ [167, 255, 186] (.goto (-70)) 3 := ⟨⟨167, zo_167, rfl⟩, by decide +kernel⟩
theorem zq_675 : zQ [162, 0, 57] (.if_icmp .ge 57) 3 := ⟨⟨162, zo_162, rfl⟩, by decide +kernel⟩
theorem zq_676 : zQ [153, 0, 23] (.ifCond .eq 23) 3 := ⟨⟨153, zo_153, rfl⟩, by decide +kernel⟩
theorem zq_677 : zQ [167, 255, 190] (.goto (-66)) 3 := ⟨⟨167, zo_167, rfl⟩, by decide +kernel⟩
theorem zq_678 : zQ [181, 1, 24] (.putfield 280) 3 := ⟨⟨181, zo_181, rfl⟩, by decide +kernel⟩
theorem zq_679 : zQ [162, 0, 134] (.if_icmp .ge 134) 3 := ⟨⟨162, zo_162, rfl⟩, by decide +kernel⟩
theorem zq_680 : zQ [154, 0, 119] (.ifCond .ne 119) 3 := ⟨⟨154, zo_154, rfl⟩, by decide +kernel⟩
theorem zq_681 : zQ [160, 0, 109] (.if_icmp .ne 109) 3 := ⟨⟨160, zo_160, rfl⟩, by decide +kernel⟩
theorem zq_682 : zQ [167, 0, 97] (.goto 97) 3 := ⟨⟨167, zo_167, rfl⟩, by decide +kernel⟩
theorem zq_683 : zQ [180, 1, 24] (.getfield 280) 3 := ⟨⟨180, zo_180, rfl⟩, by decide +kernel⟩
theorem zq_684 : zQ [158, 0, 54] (.ifCond .le 54) 3 := ⟨⟨158, zo_158, rfl⟩, by decide +kernel⟩
theorem zq_685 : zQ [180, 0, 71] (.getfield 71) 3 := ⟨⟨180, zo_180, rfl⟩, by decide +kernel⟩
theorem zq_686 : zQ [164, 0, 37] (.if_icmp .le 37) 3 := ⟨⟨164, zo_164, rfl⟩, by decide +kernel⟩
theorem zq_687 : zQ [180, 0, 74] (.getfield 74) 3 := ⟨⟨180, zo_180, rfl⟩, by decide +kernel⟩
theorem zq_688 : zQ [132, 3, 255] (.iinc 3 (-1)) 3 := ⟨⟨132, zo_132, rfl⟩, by decide +kernel⟩
theorem zq_689 : zQ [167, 255, 117] (.goto (-139)) 3 := ⟨⟨167, zo_167, rfl⟩, by decide +kernel⟩
theorem zq_690 : zQ [153, 0, 22] (.ifCond .eq 22) 3 := ⟨⟨153, zo_153, rfl⟩, by decide +kernel⟩
theorem zq_691 : zQ [167, 255, 211] (.goto (-45)) 3 := ⟨⟨167, zo_167, rfl⟩, by decide +kernel⟩
theorem zq_692 : zQ [182, 1, 27] (.invokevirtual 283) 3 := ⟨⟨182, zo_182, rfl⟩, by decide +kernel⟩
theorem zq_693 : zQ [162, 0, 212] (.if_icmp .ge 212) 3 := ⟨⟨162, zo_162, rfl⟩, by decide +kernel⟩
theorem zq_694 : zQ [153, 0, 24] (.ifCond .eq 24) 3 := ⟨⟨153, zo_153, rfl⟩, by decide +kernel⟩
theorem zq_695 : zQ [153, 0, 33] (.ifCond .eq 33) 3 := ⟨⟨153, zo_153, rfl⟩, by decide +kernel⟩
theorem zq_696 : zQ [167, 0, 7] (.goto 7) 3 := ⟨⟨167, zo_167, rfl⟩, by decide +kernel⟩
theorem zq_697 : zQ [159, 0, 24] (.if_icmp .eq 24) 3 := ⟨⟨159, zo_159, rfl⟩, by decide +kernel⟩
theorem zq_698 : zQ [54, 11] (.istore 11) 2 := ⟨⟨54, zo_54, rfl⟩, by decide +kernel⟩
theorem zq_699 : zQ [21, 11] (.iload 11) 2 := ⟨⟨21, zo_21, rfl⟩, by decide +kernel⟩
theorem zq_700 : zQ [167, 255, 41] (.goto (-215)) 3 := ⟨⟨167, zo_167, rfl⟩, by decide +kernel⟩
theorem zq_701 : zQ [182, 1, 30] (.invokevirtual 286) 3 := ⟨⟨182, zo_182, rfl⟩, by decide +kernel⟩
theorem zq_702 : zQ [20, 1, 33] (.ldc2_w 289) 3 := ⟨⟨20, zo_20, rfl⟩, by decide +kernel⟩
theorem zq_703 : zQ [158, 0, 18] (.ifCond .le 18) 3 := ⟨⟨158, zo_158, rfl⟩, by decide +kernel⟩
theorem zq_704 : zQ [162, 0, 9] (.if_icmp .ge 9) 3 := ⟨⟨162, zo_162, rfl⟩, by decide +kernel⟩
theorem zq_705 : zQ [154, 0, 27] (.ifCond .ne 27) 3 := ⟨⟨154, zo_154, rfl⟩, by decide +kernel⟩
theorem zq_706 : zQ [160, 0, 14] (.if_icmp .ne 14) 3 := ⟨⟨160, zo_160, rfl⟩, by decide +kernel⟩
theorem zq_707 : zQ [182, 1, 35] (.invokevirtual 291) 3 := ⟨⟨182, zo_182, rfl⟩, by decide +kernel⟩
theorem zq_708 : zQ [154, 0, 19] (.ifCond .ne 19) 3 := ⟨⟨154, zo_154, rfl⟩, by decide +kernel⟩
theorem zq_709 : zQ [182, 1, 38] (.invokevirtual 294) 3 := ⟨⟨182, zo_182, rfl⟩, by decide +kernel⟩
theorem zq_710 : zQ [180, 0, 77] (.getfield 77) 3 := ⟨⟨180, zo_180, rfl⟩, by decide +kernel⟩
theorem zq_711 : zQ [19, 1, 41] (.ldc_w 297) 3 := ⟨⟨19, zo_19, rfl⟩, by decide +kernel⟩
theorem zq_712 : zQ [182, 1, 43] (.invokevirtual 299) 3 := ⟨⟨182, zo_182, rfl⟩, by decide +kernel⟩
theorem zq_713 : zQ [180, 1, 49] (.getfield 305) 3 := ⟨⟨180, zo_180, rfl⟩, by decide +kernel⟩
theorem zq_714 : zQ [19, 1, 52] (.ldc_w 308) 3 := ⟨⟨19, zo_19, rfl⟩, by decide +kernel⟩
theorem zq_715 : zQ [181, 1, 49] (.putfield 305) 3 := ⟨⟨181, zo_181, rfl⟩, by decide +kernel⟩
theorem zq_716 : zQ [20, 1, 53] (.ldc2_w 309) 3 := ⟨⟨20, zo_20, rfl⟩, by decide +kernel⟩
theorem zq_717 : zQ [162, 0, 131] (.if_icmp .ge 131) 3 := ⟨⟨162, zo_162, rfl⟩, by decide +kernel⟩
theorem zq_718 : zQ [182, 1, 55] (.invokevirtual 311) 3 := ⟨⟨182, zo_182, rfl⟩, by decide +kernel⟩
theorem zq_719 : zQ [167, 0, 19] (.goto 19) 3 := ⟨⟨167, zo_167, rfl⟩, by decide +kernel⟩
theorem zq_720 : zQ [164, 0, 9] (.if_icmp .le 9) 3 := ⟨⟨164, zo_164, rfl⟩, by decide +kernel⟩
theorem zq_721 : zQ [167, 255, 125] (.goto (-131)) 3 := ⟨⟨167, zo_167, rfl⟩, by decide +kernel⟩
theorem zq_722 : zQ [180, 0, 80] (.getfield 80) 3 := ⟨⟨180, zo_180, rfl⟩, by decide +kernel⟩
theorem zq_723 : zQ [84] (.bastore) 1 := ⟨⟨84, zo_84, rfl⟩, by decide +kernel⟩
theorem zq_724 : zQ [51] (.baload) 1 := ⟨⟨51, zo_51, rfl⟩, by decide +kernel⟩
theorem zq_725 : zQ [180, 0, 9] (.getfield 9) 3 := ⟨⟨180, zo_180, rfl⟩, by decide +kernel⟩
theorem zq_726 : zQ [182, 1, 79] (.invokevirtual 335) 3 := ⟨⟨182, zo_182, rfl⟩, by decide +kernel⟩
theorem zq_727 : zQ [182, 1, 236] (.invokevirtual 492) 3 := ⟨⟨182, zo_182, rfl⟩, by decide +kernel⟩
theorem zq_728 : zQ [184, 1, 239] (.invokestatic 495) 3 := ⟨⟨184, zo_184, rfl⟩, by decide +kernel⟩
theorem zq_730 : zQ [178, 0, 38] (.getstatic 38) 3 := ⟨⟨178, zo_178, rfl⟩, by decide +kernel⟩
theorem zq_731 : zQ [180, 0, 15] (.getfield 15) 3 := ⟨⟨180, zo_180, rfl⟩, by decide +kernel⟩
theorem zq_732 : zQ [178, 4, 29] (.getstatic 1053) 3 := ⟨⟨178, zo_178, rfl⟩, by decide +kernel⟩
theorem zq_733 : zQ [184, 4, 35] (.invokestatic 1059) 3 := ⟨⟨184, zo_184, rfl⟩, by decide +kernel⟩
theorem zq_734 : zQ [184, 0, 9] (.invokestatic 9) 3 := ⟨⟨184, zo_184, rfl⟩, by decide +kernel⟩
theorem zq_735 : zQ [146] (.i2c) 1 := ⟨⟨146, zo_146, rfl⟩, by decide +kernel⟩
theorem zq_743 : zQ [184, 0, 71] (.invokestatic 71) 3 := ⟨⟨184, zo_184, rfl⟩, by decide +kernel⟩
theorem zq_745 : zQ [167, 255, 244] (.goto (-12)) 3 := ⟨⟨167, zo_167, rfl⟩, by decide +kernel⟩
theorem zq_746 : zQ [161, 0, 10] (.if_icmp .lt 10) 3 := ⟨⟨161, zo_161, rfl⟩, by decide +kernel⟩
theorem zq_748 : zQ [182, 0, 7] (.invokevirtual 7) 3 := ⟨⟨182, zo_182, rfl⟩, by decide +kernel⟩
theorem zq_749 : zQ [182, 0, 15] (.invokevirtual 15) 3 := ⟨⟨182, zo_182, rfl⟩, by decide +kernel⟩
theorem zq_750 : zQ [182, 0, 18] (.invokevirtual 18) 3 := ⟨⟨182, zo_182, rfl⟩, by decide +kernel⟩
theorem zq_751 : zQ [182, 0, 21] (.invokevirtual 21) 3 := ⟨⟨182, zo_182, rfl⟩, by decide +kernel⟩
theorem zq_752 : zQ [182, 0, 24] (.invokevirtual 24) 3 := ⟨⟨182, zo_182, rfl⟩, by decide +kernel⟩
theorem zq_753 : zQ [182, 0, 27] (.invokevirtual 27) 3 := ⟨⟨182, zo_182, rfl⟩, by decide +kernel⟩
theorem zq_754 : zQ [78] (.astore_n 3) 1 := ⟨⟨78, zo_78, rfl⟩, by decide +kernel⟩
theorem zq_755 : zQ [187, 0, 8] (.new 8) 3 := ⟨⟨187, zo_187, rfl⟩, by decide +kernel⟩
theorem zq_756 : zQ [183, 0, 31] (.invokespecial 31) 3 := ⟨⟨183, zo_183, rfl⟩, by decide +kernel⟩
theorem zq_757 : zQ [187, 0, 32] (.new 32) 3 := ⟨⟨187, zo_187, rfl⟩, by decide +kernel⟩
theorem zq_758 : zQ [183, 0, 34] (.invokespecial 34) 3 := ⟨⟨183, zo_183, rfl⟩, by decide +kernel⟩
theorem zq_759 : zQ [163, 4, 252] (.if_icmp .gt 1276) 3 := ⟨⟨163, zo_163, rfl⟩, by decide +kernel⟩
theorem zq_760 : zQ [16, 63] (.bipush 63) 2 := ⟨⟨16, zo_16, rfl⟩, by decide +kernel⟩
theorem zq_761 : zQ [167, 4, 53] (.goto 1077) 3 := ⟨⟨167, zo_167, rfl⟩, by decide +kernel⟩
theorem zq_762 : zQ [182, 0, 40] (.invokevirtual 40) 3 := ⟨⟨182, zo_182, rfl⟩, by decide +kernel⟩
theorem zq_763 : zQ [167, 4, 28] (.goto 1052) 3 := ⟨⟨167, zo_167, rfl⟩, by decide +kernel⟩
theorem zq_764 : zQ [182, 0, 45] (.invokevirtual 45) 3 := ⟨⟨182, zo_182, rfl⟩, by decide +kernel⟩
theorem zq_765 : zQ [182, 0, 49] (.invokevirtual 49) 3 := ⟨⟨182, zo_182, rfl⟩, by decide +kernel⟩
theorem zq_766 : zQ [167, 3, 223] (.goto 991) 3 := ⟨⟨167, zo_167, rfl⟩, by decide +kernel⟩
theorem zq_767 : zQ [182, 0, 50] (.invokevirtual 50) 3 := ⟨⟨182, zo_182, rfl⟩, by decide +kernel⟩
theorem zq_768 : zQ [182, 0, 53] (.invokevirtual 53) 3 := ⟨⟨182, zo_182, rfl⟩, by decide +kernel⟩
theorem zq_769 : zQ [167, 3, 186] (.goto 954) 3 := ⟨⟨167, zo_167, rfl⟩, by decide +kernel⟩
theorem zq_770 : zQ [182, 0, 54] (.invokevirtual 54) 3 := ⟨⟨182, zo_182, rfl⟩, by decide +kernel⟩
theorem zq_771 : zQ [182, 0, 57] (.invokevirtual 57) 3 := ⟨⟨182, zo_182, rfl⟩, by decide +kernel⟩
theorem zq_772 : zQ [167, 3, 125] (.goto 893) 3 := ⟨⟨167, zo_167, rfl⟩, by decide +kernel⟩
theorem zq_773 : zQ [182, 0, 58] (.invokevirtual 58) 3 := ⟨⟨182, zo_182, rfl⟩, by decide +kernel⟩
theorem zq_774 : zQ [182, 0, 62] (.invokevirtual 62) 3 := ⟨⟨182, zo_182, rfl⟩, by decide +kernel⟩
theorem zq_775 : zQ [167, 3, 112] (.goto 880) 3 := ⟨⟨167, zo_167, rfl⟩, by decide +kernel⟩
theorem zq_776 : zQ [182, 0, 63] (.invokevirtual 63) 3 := ⟨⟨182, zo_182, rfl⟩, by decide +kernel⟩
theorem zq_777 : zQ [182, 0, 66] (.invokevirtual 66) 3 := ⟨⟨182, zo_182, rfl⟩, by decide +kernel⟩
theorem zq_778 : zQ [167, 3, 75] (.goto 843) 3 := ⟨⟨167, zo_167, rfl⟩, by decide +kernel⟩
theorem zq_779 : zQ [167, 3, 50] (.goto 818) 3 := ⟨⟨167, zo_167, rfl⟩, by decide +kernel⟩
theorem zq_780 : zQ [182, 0, 76] (.invokevirtual 76) 3 := ⟨⟨182, zo_182, rfl⟩, by decide +kernel⟩
theorem zq_781 : zQ [167, 3, 10] (.goto 778) 3 := ⟨⟨167, zo_167, rfl⟩, by decide +kernel⟩
theorem zq_782 : zQ [184, 0, 77] (.invokestatic 77) 3 := ⟨⟨184, zo_184, rfl⟩, by decide +kernel⟩
theorem zq_783 : zQ [167, 2, 226] (.goto 738) 3 := ⟨⟨167, zo_167, rfl⟩, by decide +kernel⟩
theorem zq_784 : zQ [182, 0, 80] (.invokevirtual 80) 3 := ⟨⟨182, zo_182, rfl⟩, by decide +kernel⟩
theorem zq_785 : zQ [167, 2, 189] (.goto 701) 3 := ⟨⟨167, zo_167, rfl⟩, by decide +kernel⟩
theorem zq_786 : zQ [184, 0, 84] (.invokestatic 84) 3 := ⟨⟨184, zo_184, rfl⟩, by decide +kernel⟩
theorem zq_787 : zQ [182, 0, 86] (.invokevirtual 86) 3 := ⟨⟨182, zo_182, rfl⟩, by decide +kernel⟩
theorem zq_788 : zQ [167, 2, 149] (.goto 661) 3 := ⟨⟨167, zo_167, rfl⟩, by decide +kernel⟩
theorem zq_789 : zQ [182, 0, 87] (.invokevirtual 87) 3 := ⟨⟨182, zo_182, rfl⟩, by decide +kernel⟩
theorem zq_790 : zQ [167, 2, 124] (.goto 636) 3 := ⟨⟨167, zo_167, rfl⟩, by decide +kernel⟩
theorem zq_791 : zQ [182, 0, 91] (.invokevirtual 91) 3 := ⟨⟨182, zo_182, rfl⟩, by decide +kernel⟩
theorem zq_792 : zQ [167, 2, 111] (.goto 623) 3 := ⟨⟨167, zo_167, rfl⟩, by decide +kernel⟩
theorem zq_793 : zQ [182, 0, 98] (.invokevirtual 98) 3 := ⟨⟨182, zo_182, rfl⟩, by decide +kernel⟩
theorem zq_794 : zQ [167, 2, 86] (.goto 598) 3 := ⟨⟨167, zo_167, rfl⟩, by decide +kernel⟩
theorem zq_795 : zQ [184, 0, 99] (.invokestatic 99) 3 := ⟨⟨184, zo_184, rfl⟩, by decide +kernel⟩
theorem zq_796 : zQ [167, 2, 46] (.goto 558) 3 := ⟨⟨167, zo_167, rfl⟩, by decide +kernel⟩
theorem zq_797 : zQ [182, 0, 102] (.invokevirtual 102) 3 := ⟨⟨182, zo_182, rfl⟩, by decide +kernel⟩
theorem zq_798 : zQ [182, 0, 105] (.invokevirtual 105) 3 := ⟨⟨182, zo_182, rfl⟩, by decide +kernel⟩
theorem zq_799 : zQ [167, 2, 21] (.goto 533) 3 := ⟨⟨167, zo_167, rfl⟩, by decide +kernel⟩
theorem zq_800 : zQ [182, 0, 106] (.invokevirtual 106) 3 := ⟨⟨182, zo_182, rfl⟩, by decide +kernel⟩
theorem zq_801 : zQ [182, 0, 109] (.invokevirtual 109) 3 := ⟨⟨182, zo_182, rfl⟩, by decide +kernel⟩
theorem zq_802 : zQ [167, 2, 8] (.goto 520) 3 := ⟨⟨167, zo_167, rfl⟩, by decide +kernel⟩
theorem zq_803 : zQ [182, 0, 110] (.invokevirtual 110) 3 := ⟨⟨182, zo_182, rfl⟩, by decide +kernel⟩
theorem zq_804 : zQ [182, 0, 113] (.invokevirtual 113) 3 := ⟨⟨182, zo_182, rfl⟩, by decide +kernel⟩
theorem zq_805 : zQ [167, 1, 227] (.goto 483) 3 := ⟨⟨167, zo_167, rfl⟩, by decide +kernel⟩
theorem zq_806 : zQ [182, 0, 117] (.invokevirtual 117) 3 := ⟨⟨182, zo_182, rfl⟩, by decide +kernel⟩
theorem zq_807 : zQ [167, 1, 214] (.goto 470) 3 := ⟨⟨167, zo_167, rfl⟩, by decide +kernel⟩
theorem zq_808 : zQ [167, 1, 201] (.goto 457) 3 := ⟨⟨167, zo_167, rfl⟩, by decide +kernel⟩
theorem zq_809 : zQ [167, 1, 188] (.goto 444) 3 := ⟨⟨167, zo_167, rfl⟩, by decide +kernel⟩
theorem zq_810 : zQ [182, 0, 126] (.invokevirtual 126) 3 := ⟨⟨182, zo_182, rfl⟩, by decide +kernel⟩
theorem zq_811 : zQ [167, 1, 163] (.goto 419) 3 := ⟨⟨167, zo_167, rfl⟩, by decide +kernel⟩
theorem zq_812 : zQ [182, 0, 130] (.invokevirtual 130) 3 := ⟨⟨182, zo_182, rfl⟩, by decide +kernel⟩
theorem zq_813 : zQ [182, 0, 133] (.invokevirtual 133) 3 := ⟨⟨182, zo_182, rfl⟩, by decide +kernel⟩
theorem zq_814 : zQ [167, 1, 102] (.goto 358) 3 := ⟨⟨167, zo_167, rfl⟩, by decide +kernel⟩
theorem zq_815 : zQ [182, 0, 137] (.invokevirtual 137) 3 := ⟨⟨182, zo_182, rfl⟩, by decide +kernel⟩
theorem zq_816 : zQ [167, 1, 77] (.goto 333) 3 := ⟨⟨167, zo_167, rfl⟩, by decide +kernel⟩
theorem zq_817 : zQ [167, 1, 64] (.goto 320) 3 := ⟨⟨167, zo_167, rfl⟩, by decide +kernel⟩
theorem zq_818 : zQ [182, 0, 142] (.invokevirtual 142) 3 := ⟨⟨182, zo_182, rfl⟩, by decide +kernel⟩
theorem zq_819 : zQ [167, 1, 27] (.goto 283) 3 := ⟨⟨167, zo_167, rfl⟩, by decide +kernel⟩
theorem zq_820 : zQ [182, 0, 150] (.invokevirtual 150) 3 := ⟨⟨182, zo_182, rfl⟩, by decide +kernel⟩
theorem zq_821 : zQ [167, 0, 234] (.goto 234) 3 := ⟨⟨167, zo_167, rfl⟩, by decide +kernel⟩
theorem zq_822 : zQ [167, 0, 209] (.goto 209) 3 := ⟨⟨167, zo_167, rfl⟩, by decide +kernel⟩
theorem zq_823 : zQ [184, 0, 155] (.invokestatic 155) 3 := ⟨⟨184, zo_184, rfl⟩, by decide +kernel⟩
theorem zq_824 : zQ [167, 0, 169] (.goto 169) 3 := ⟨⟨167, zo_167, rfl⟩, by decide +kernel⟩
theorem zq_825 : zQ [167, 0, 156] (.goto 156) 3 := ⟨⟨167, zo_167, rfl⟩, by decide +kernel⟩
theorem zq_826 : zQ [182, 0, 162] (.invokevirtual 162) 3 := ⟨⟨182, zo_182, rfl⟩, by decide +kernel⟩
theorem zq_827 : zQ [182, 0, 165] (.invokevirtual 165) 3 := ⟨⟨182, zo_182, rfl⟩, by decide +kernel⟩
theorem zq_828 : zQ [167, 0, 143] (.goto 143) 3 := ⟨⟨167, zo_167, rfl⟩, by decide +kernel⟩
theorem zq_829 : zQ [167, 0, 106] (.goto 106) 3 := ⟨⟨167, zo_167, rfl⟩, by decide +kernel⟩
theorem zq_830 : zQ [167, 0, 81] (.goto 81) 3 := ⟨⟨167, zo_167, rfl⟩, by decide +kernel⟩
theorem zq_831 : zQ [182, 0, 174] (.invokevirtual 174) 3 := ⟨⟨182, zo_182, rfl⟩, by decide +kernel⟩
theorem zq_832 : zQ [182, 0, 177] (.invokevirtual 177) 3 := ⟨⟨182, zo_182, rfl⟩, by decide +kernel⟩
theorem zq_833 : zQ [159, 0, 58] (.if_icmp .eq 58) 3 := ⟨⟨159, zo_159, rfl⟩, by decide +kernel⟩
theorem zq_834 : zQ [184, 0, 182] (.invokestatic 182) 3 := ⟨⟨184, zo_184, rfl⟩, by decide +kernel⟩
theorem zq_835 : zQ [55, 6] (.lstore 6) 2 := ⟨⟨55, zo_55, rfl⟩, by decide +kernel⟩
theorem zq_836 : zQ [167, 0, 3] (.goto 3) 3 := ⟨⟨167, zo_167, rfl⟩, by decide +kernel⟩
theorem zq_837 : zQ [132, 4, 5] (.iinc 4 5) 3 := ⟨⟨132, zo_132, rfl⟩, by decide +kernel⟩
theorem zq_838 : zQ [167, 251, 1] (.goto (-1279)) 3 := ⟨⟨167, zo_167, rfl⟩, by decide +kernel⟩
end
-- 02.xl
section
/-! ===== a method's state as plain data: a list of cells by places (references in cells are relative: 'this place and so many more'), locals and stack with places for addresses; xl_W: from here the method comes to its end, with Po ===== -/
def xl_n {α : Type} : List α → Nat → Option α
  | [], _ => none
  | a :: _, 0 => some a
  | _ :: l, k + 1 => xl_n l k
def xl_s {α : Type} : List α → Nat → α → List α
  | [], _, _ => []
  | _ :: l, 0, b => b :: l
  | a :: l, k + 1, b => a :: xl_s l k b
theorem xl_n_eq {α : Type} : ∀ (l : List α) (k : Nat), xl_n l k = l[k]?
  | [], k => by simp [xl_n]
  | a :: l, 0 => by simp [xl_n]
  | a :: l, k + 1 => by rw [xl_n, xl_n_eq l k]; simp
theorem xl_s_eq {α : Type} : ∀ (l : List α) (k : Nat) (b : α), xl_s l k b = l.set k b
  | [], k, b => by simp [xl_s]
  | a :: l, 0, b => by simp [xl_s]
  | a :: l, k + 1, b => by rw [xl_s, xl_s_eq l k b]; simp
abbrev XI : Type := MethodName × ByteArray × Nat × Option FieldType × Nat × Nat × Nat
abbrev XE : Type := (Nat × vp_A) ⊕ (Nat × List Value)
abbrev XH : Type := List XE
/-- a value: a reference is a place, a float stands for a String constant -/
def xl_v (ρ σ : Nat → Nat) : Value → Value := fun v => match v with
  | .ref k => .ref (ρ k)
  | .float j => .ref (σ j.toNat)
  | .int a => .int a
  | .long a => .long a
  | .double a => .double a
  | .null => .null
  | .retAddr a => .retAddr a
def xl_a (ρ : Nat → Nat) (k : Nat) : ((Nat → Int32) ⊕ (Nat → Int64) ⊕ (Nat → UInt32) ⊕ (Nat → UInt64) ⊕ (Nat → Option Nat)) → ((Nat → Int32) ⊕ (Nat → Int64) ⊕ (Nat → UInt32) ⊕ (Nat → UInt64) ⊕ (Nat → Option Nat)) := fun a => match a with
  | .inl f => .inl f
  | .inr (.inl f) => .inr (.inl f)
  | .inr (.inr (.inl f)) => .inr (.inr (.inl f))
  | .inr (.inr (.inr (.inl f))) => .inr (.inr (.inr (.inl f)))
  | .inr (.inr (.inr (.inr f))) => .inr (.inr (.inr (.inr (fun j => (f j).map (fun d => ρ (k + d))))))
def xl_c (aC : Nat → ClassId) (ρ σ : Nat → Nat) (k : Nat) : XE → va_E := fun c => match c with
  | .inl a => .inl (aC a.1, a.2.1, xl_a ρ k a.2.2)
  | .inr o => .inr (o.1, o.2.map (xl_v (fun d => ρ (k + d)) σ))
def xl_w (aC : Nat → ClassId) (ρ σ : Nat → Nat) (h : XH) : va_W := h.mapIdx (fun k c => (ρ k, xl_c aC ρ σ k c))
theorem xl_w_at (aC : Nat → ClassId) (ρ σ : Nat → Nat) (h : XH) (k : Nat) : (xl_w aC ρ σ h)[k]? = (h[k]?).map (fun c => (ρ k, xl_c aC ρ σ k c)) := by
  rw [xl_w, List.getElem?_mapIdx]
theorem xl_w_of {aC : Nat → ClassId} {ρ σ : Nat → Nat} {h : XH} {k : Nat} {c : XE} (e : h[k]? = some c) : (xl_w aC ρ σ h)[k]? = some (ρ k, xl_c aC ρ σ k c) := by
  rw [xl_w_at, e]; rfl
theorem xl_w_inv {aC : Nat → ClassId} {ρ σ : Nat → Nat} {h : XH} {k : Nat} {q : Nat × va_E} (e : (xl_w aC ρ σ h)[k]? = some q) : ∃ c, h[k]? = some c ∧ q = (ρ k, xl_c aC ρ σ k c) := by
  rw [xl_w_at] at e
  cases hh : h[k]? with
  | none => rw [hh] at e; cases e
  | some c => rw [hh] at e; exact ⟨c, rfl, (Option.some.inj e).symm⟩
theorem xl_w_set {aC : Nat → ClassId} {ρ σ : Nat → Nat} {h : XH} {k : Nat} {c : XE} : (xl_w aC ρ σ h).set k (ρ k, xl_c aC ρ σ k c) = xl_w aC ρ σ (h.set k c) := by
  apply List.ext_getElem?
  intro i
  rw [List.getElem?_set, xl_w_at, xl_w_at, List.getElem?_set]
  by_cases hi : k = i
  · subst hi
    simp only [if_true]
    by_cases hl : k < h.length
    · simp [xl_w, hl]
    · simp [xl_w, hl]
  · simp [hi]
theorem xl_w_s {aC : Nat → ClassId} {ρ σ : Nat → Nat} {h : XH} {k : Nat} {c : XE} : xl_w aC ρ σ (xl_s h k c) = (xl_w aC ρ σ h).set k (ρ k, xl_c aC ρ σ k c) := by
  rw [xl_s_eq, xl_w_set]
/-- the addresses, apart -/
def xl_ap (A : Nat → Prop) (ρ : Nat → Nat) (n : Nat) : Prop := (∀ i j, i < n → j < n → ρ i = ρ j → i = j) ∧ ∀ i, i < n → A (ρ i)
theorem xl_ap_of {A : Nat → Prop} {aC : Nat → ClassId} {ρ σ : Nat → Nat} {h : XH} (hD : va_D A (xl_w aC ρ σ h)) : xl_ap A ρ h.length := by
  have key : ∀ i (hi : i < h.length), (xl_w aC ρ σ h)[i]? = some (ρ i, xl_c aC ρ σ i h[i]) := fun i hi => xl_w_of (List.getElem?_eq_getElem hi)
  exact ⟨fun i j hi hj e => hD.1 i j _ _ (key i hi) (key j hj) e, fun i hi => hD.2 i _ (key i hi)⟩
theorem xl_D_of {A : Nat → Prop} {aC : Nat → ClassId} {ρ σ : Nat → Nat} {h : XH} (hD : xl_ap A ρ h.length) : va_D A (xl_w aC ρ σ h) := by
  have key : ∀ (k : Nat) (q : Nat × va_E), (xl_w aC ρ σ h)[k]? = some q → k < h.length ∧ q.1 = ρ k := by
    intro k q hq
    obtain ⟨c, e1, e2⟩ := xl_w_inv hq
    exact ⟨(List.getElem?_eq_some_iff.mp e1).1, by rw [e2]⟩
  refine ⟨fun i j p q hi hj e => ?_, fun k q hk => ?_⟩
  · obtain ⟨a1, a2⟩ := key i p hi
    obtain ⟨b1, b2⟩ := key j q hj
    exact hD.1 i j a1 b1 (by rw [← a2, ← b2]; exact e)
  · obtain ⟨a1, a2⟩ := key k q hk
    rw [a2]; exact hD.2 k a1
/-- the words that every method may use -/
def xl_T : List Cond := lw_tbl.filter goodWord
theorem xl_Tg : ∀ w ∈ xl_T, goodWord w = true := fun w h => (List.mem_filter.mp h).2
theorem xl_Ti {w : Cond} (i : Nat) (h : lw_tbl[i]? = some w) (g : goodWord w = true) : w ∈ xl_T := List.mem_filter.mpr ⟨List.mem_of_getElem? h, g⟩
abbrev vwCl : List vw_C := [(RX0, TX0, 4), (RX1, TX1, 16), (RX2, TX2, 13), (RX3, TX3, 23)]
abbrev xl_ty (aC : Nat → ClassId) : List (ClassId × FieldType) := [(aC 0, .int), (aC 1, .long), (aC 2, .boolean), (aC 3, .object RX1)]
/-- the String constants: class, entry, text, bytes -/
def xl_sn : Nat := 9
def xl_sc : Nat → String × Nat × String := fun j => match j with
  | 0 => (RX2, 306, "kddddsddn")
  | 1 => (RX2, 316, "kddddsddd")
  | 2 => (RX2, 318, "dddddd")
  | 3 => (RX2, 320, "d")
  | 4 => (RX2, 322, "")
  | 5 => (RX3, 237, "abcdef")
  | 6 => (RX3, 41, "0123456789")
  | 7 => (RX3, 242, "+-")
  | _ => (RX3, 297, "emi")
def xl_sb : List (List Int32) := [[107, 100, 100, 100, 100, 115, 100, 100, 110], [107, 100, 100, 100, 100, 115, 100, 100, 100], [100, 100, 100, 100, 100, 100], [100], [], [97, 98, 99, 100, 101, 102], [48, 49, 50, 51, 52, 53, 54, 55, 56, 57], [43, 45], [101, 109, 105]]
def xl_sl : List Nat := [9, 9, 6, 1, 0, 6, 10, 2, 3]
def xl_S (σ aV : Nat → Nat) (A : Nat → Prop) (U : State) (H : Heap) : Prop := vk_S xl_sn xl_sl xl_sb σ aV A U H ∧ va_Z "java/lang/String" "COMPACT_STRINGS" "Z" (.int 1) A U H ∧ (va_Z "jdk/internal/util/Preconditions" "SIOOBE_FORMATTER" "Ljava/util/function/BiFunction;" .null A U H ∨ va_Z "jdk/internal/util/Preconditions" "SIOOBE_FORMATTER" "Ljava/util/function/BiFunction;" (.ref (σ 300)) A U H) ∧ (∀ j, j < xl_sn → vk_R (xl_sc j).1 (xl_sc j).2.1 (xl_sc j).2.2 (σ j) U) ∧ ∀ j, j < xl_sn → σ (200 + j) = aV j
theorem xl_S.moved {σ aV : Nat → Nat} {A : Nat → Prop} {u U : State} {H : Heap} (hW : u.WarmedH U.vm) (h : xl_S σ aV A u H) : xl_S σ aV A U H :=
  ⟨vk_S.moved hW.alike h.1, va_Z.moved hW.alike h.2.1, h.2.2.1.imp (va_Z.moved hW.alike) (va_Z.moved hW.alike), fun j hj => vk_R.warm hW (h.2.2.2.1 j hj), h.2.2.2.2⟩
theorem xl_S.same {σ aV : Nat → Nat} {A : Nat → Prop} {u U : State} {H : Heap} (hv : U.vm = u.vm) (h : xl_S σ aV A u H) : xl_S σ aV A U H :=
  ⟨vk_S.moved (by rw [hv]; exact Vm.Alike.refl _) h.1, va_Z.moved (by rw [hv]; exact Vm.Alike.refl _) h.2.1, h.2.2.1.imp (va_Z.moved (by rw [hv]; exact Vm.Alike.refl _)) (va_Z.moved (by rw [hv]; exact Vm.Alike.refl _)), fun j hj => vk_R.same hv (h.2.2.2.1 j hj), h.2.2.2.2⟩
theorem xl_S.kept {σ aV : Nat → Nat} {A : Nat → Prop} {U : State} {H H1 : Heap} (h : xl_S σ aV A U H) (hq : ∀ a : Nat, a < H.size → ¬ A a → H1[a]? = H[a]?) : xl_S σ aV A U H1 :=
  ⟨vk_S.kept h.1 hq, va_Z.kept h.2.1 hq, h.2.2.1.imp (fun q => va_Z.kept q hq) (fun q => va_Z.kept q hq), h.2.2.2⟩
theorem xl_S.narrow {σ aV : Nat → Nat} {A B : Nat → Prop} {U : State} {H : Heap} (h : xl_S σ aV A U H) (hAB : ∀ q, B q → A q) : xl_S σ aV B U H :=
  ⟨vk_S.narrow h.1 hAB, va_Z.narrow h.2.1 hAB, h.2.2.1.imp (fun q => va_Z.narrow q hAB) (fun q => va_Z.narrow q hAB), h.2.2.2⟩
/-- the machine, the code, the tables -/
def xl_X (M : XI) (l : Launch) (p : Program) (R : Room) (s : State) (m : MethodId) (args : Array Value) (meth : Method) (c : Code) : Prop :=
  p.tables.exec = Jvm.exec ∧ c.code = M.2.1 ∧ meth.sig.returnType = M.2.2.2.1 ∧ c.maxLocals = M.2.2.1 ∧ s.vm.findClass M.1.cls = some m.cls ∧ (∀ w ∈ xl_T, w.before args s = true) ∧ meth.locks = false ∧ M.2.2.2.2.1 ≤ R.frames ∧ M.2.2.2.2.2.1 ≤ R.locals ∧ l.flags = flags0
/-- the cells -/
def xl_H (D : va_G) (aC : Nat → ClassId) (ρ σ aV : Nat → Nat) (A : Nat → Prop) (s : State) (H : Heap) (locs : List Loc) (h : XH) : Prop :=
  va_K D vwCl (xl_ty aC) s ∧ va_P D vwCl (xl_w aC ρ σ h) H ∧ va_D A (xl_w aC ρ σ h) ∧ va_S A s.heap H locs ∧ xl_S σ aV A s s.heap ∧ ∀ q, s.heap.size ≤ q → A q
/-- the locals -/
def xl_L (ρ σ : Nat → Nat) (n : Nat) (ls : Array Slot) (L : List (Option Value)) : Prop := ls.size = n ∧ lv_wf ls ∧ ∀ (i : Nat) (v : Value), xl_n L i = some (some v) → ls[i]? = some (.val (xl_v ρ σ v))
/-- a return instruction for a value -/
def xl_R (M : XI) (pc : Nat) (v : Option Value) : Prop := match v with
  | none => M.2.2.2.1 = none ∧ decode M.2.1 pc = .ok (.return_, 1)
  | some (.int a) => (∃ ty, M.2.2.2.1 = some ty ∧ narrow ty (.int a) = .int a) ∧ decode M.2.1 pc = .ok (.ireturn, 1)
  | some (.long _) => M.2.2.2.1 = some .long ∧ decode M.2.1 pc = .ok (.lreturn, 1)
  | some (.float _) => (∃ n, M.2.2.2.1 = some (.object n)) ∧ decode M.2.1 pc = .ok (.areturn, 1)
  | some _ => False
/-- where a method makes its exception: new, dup, <init>, athrow -/
def xl_Y (M : XI) (pc : Nat) : Prop := ∃ i j, decode M.2.1 pc = .ok (.new i, 3) ∧ decode M.2.1 (pc + 3) = .ok (.dup, 1) ∧ decode M.2.1 (pc + 4) = .ok (.invokespecial j, 3) ∧ decode M.2.1 (pc + 7) = .ok (.athrow, 1)
def xl_W (M : XI) (rc rs pc : Nat) (L : List (Option Value)) (st : List Value) (h : XH) (Po : Option (Option Value) → XH → Prop) : Prop :=
  ∀ (p : Program) (l : Launch) (e : Env) (R : Room) (s : State) (m : MethodId) (args : Array Value) (below : List Frame) (meth : Method) (c : Code) (D : va_G) (aC : Nat → ClassId) (ρ σ aV : Nat → Nat) (A : Nat → Prop) (H : Heap) (locs : List Loc) (cells slots : Nat) (ls : Array Slot) (Q : State → Prop),
    xl_X M l p R s m args meth c → xl_H D aC ρ σ aV A s H locs h → xl_L ρ σ M.2.2.1 ls L → cells + rc ≤ R.cells → slots + rs ≤ R.slots →
    (∀ (v : Option Value) (h' : XH) (H' : Heap) (locs' : List Loc) (pc' cells' slots' : Nat) (ls' : Array Slot), Po (some v) h' → xl_H D aC ρ σ aV A s H' locs' h' → xl_R M pc' v → cells' ≤ cells + rc → slots' ≤ slots + rs → W p l e R s m args below meth c H' locs' cells' slots' Q (F0 m pc' ls' (v.toList.map (xl_v ρ σ)))) →
    (∀ (h' : XH) (H' : Heap) (locs' : List Loc) (pc' cells' slots' : Nat) (ls' : Array Slot), Po none h' → xl_H D aC ρ σ aV A s H' locs' h' → xl_Y M pc' → cells' + 1 ≤ cells + rc → slots' + 6 ≤ slots + rs → ls'.size = M.2.2.1 → W p l e R s m args below meth c H' locs' cells' slots' Q (F0 m pc' ls' [])) →
    W p l e R s m args below meth c H locs cells slots Q (F0 m pc ls (st.map (xl_v ρ σ)))
/-- an instruction: what stands at pc, and the place behind it -/
def xl_D (M : XI) (pc : Nat) (i : Instr) (n pc2 : Nat) : Prop := decode M.2.1 pc = .ok (i, n) ∧ pc + n = pc2
/-- a branch -/
def xl_J (M : XI) (pc : Nat) (f : Int → Instr) (pc2 tgt : Nat) : Prop := ∃ off : Int, decode M.2.1 pc = .ok (f off, 3) ∧ (pc : Int) + off = (tgt : Int) ∧ pc + 3 = pc2
section XL
variable {M : XI} {rc rs pc pc2 tgt : Nat} {L : List (Option Value)} {st st2 : List Value} {h : XH} {Po : Option (Option Value) → XH → Prop}
/-- instructions that touch the stack alone -/
theorem xl_go (f : ∀ {p : Program} {l : Launch} {e : Env} {R : Room} {s : State} {m : MethodId} {args : Array Value} {below : List Frame} {meth : Method} {c : Code} {H : Heap} {locs : List Loc} {cells slots : Nat} {Q : State → Prop} {ls : Array Slot} {ρ σ : Nat → Nat}, xl_X M l p R s m args meth c → W p l e R s m args below meth c H locs cells slots Q (F0 m pc2 ls (st2.map (xl_v ρ σ))) → W p l e R s m args below meth c H locs cells slots Q (F0 m pc ls (st.map (xl_v ρ σ))))
    (k : xl_W M rc rs pc2 L st2 h Po) : xl_W M rc rs pc L st h Po := by
  intro p l e R s m args below meth c D aC ρ σ aV A H locs cells slots ls Q hX hH hL h1 h2 hr ht
  exact f hX (k p l e R s m args below meth c D aC ρ σ aV A H locs cells slots ls Q hX hH hL h1 h2 hr ht)
theorem xl_iconst {n : Int} (v : Int32) (d : xl_D M pc (.iconst n) 1 pc2) (hv : Int32.ofInt n = v) (k : xl_W M rc rs pc2 L (.int v :: st) h Po) : xl_W M rc rs pc L st h Po := by
  obtain ⟨d, rfl⟩ := d
  exact xl_go (fun hX k => lv_iconst hX.1 hX.2.1 d hv k) k
theorem xl_bipush {n : Int} (v : Int32) (d : xl_D M pc (.bipush n) 2 pc2) (hv : (Int8.ofInt n).toInt32 = v) (k : xl_W M rc rs pc2 L (.int v :: st) h Po) : xl_W M rc rs pc L st h Po := by
  obtain ⟨d, rfl⟩ := d
  exact xl_go (fun hX k => lv_bipush hX.1 hX.2.1 d hv k) k
theorem xl_sipush {n : Int} (v : Int32) (d : xl_D M pc (.sipush n) 3 pc2) (hv : (Int16.ofInt n).toInt32 = v) (k : xl_W M rc rs pc2 L (.int v :: st) h Po) : xl_W M rc rs pc L st h Po := by
  obtain ⟨d, rfl⟩ := d
  exact xl_go (fun hX k => lv_sipush hX.1 hX.2.1 d hv k) k
theorem xl_lconst {n : Fin 2} (v : Int64) (d : xl_D M pc (.lconst n) 1 pc2) (hv : Int64.ofNat (n : Nat) = v) (k : xl_W M rc rs pc2 L (.long v :: st) h Po) : xl_W M rc rs pc L st h Po := by
  obtain ⟨d, rfl⟩ := d
  exact xl_go (fun hX k => lv_lconst hX.1 hX.2.1 d hv k) k
theorem xl_ldcw {i : Nat} {v : Int32} (d : xl_D M pc (.ldc_w i) 3 pc2) (hw : Cond.constant M.1.cls i v ∈ xl_T) (k : xl_W M rc rs pc2 L (.int v :: st) h Po) : xl_W M rc rs pc L st h Po := by
  obtain ⟨d, rfl⟩ := d
  exact xl_go (fun hX k => lv_ldcw hX.1 hX.2.1 hX.2.2.2.2.1 (hX.2.2.2.2.2.1 _ hw) d k) k
theorem xl_ldc2 {i : Nat} {v : Int64} (d : xl_D M pc (.ldc2_w i) 3 pc2) (hw : Cond.constantLong M.1.cls i v ∈ xl_T) (k : xl_W M rc rs pc2 L (.long v :: st) h Po) : xl_W M rc rs pc L st h Po := by
  obtain ⟨d, rfl⟩ := d
  exact xl_go (fun hX k => lv_ldc2 hX.1 hX.2.1 hX.2.2.2.2.1 (hX.2.2.2.2.2.1 _ hw) d k) k
theorem xl_iadd {a b : Int32} (d : xl_D M pc .iadd 1 pc2) (k : xl_W M rc rs pc2 L (.int (a + b) :: st) h Po) : xl_W M rc rs pc L (.int b :: .int a :: st) h Po := by
  obtain ⟨d, rfl⟩ := d
  exact xl_go (fun hX k => lv_iadd hX.1 hX.2.1 d k) k
theorem xl_isub {a b : Int32} (d : xl_D M pc .isub 1 pc2) (k : xl_W M rc rs pc2 L (.int (a - b) :: st) h Po) : xl_W M rc rs pc L (.int b :: .int a :: st) h Po := by
  obtain ⟨d, rfl⟩ := d
  exact xl_go (fun hX k => lv_isub hX.1 hX.2.1 d k) k
theorem xl_imul {a b : Int32} (d : xl_D M pc .imul 1 pc2) (k : xl_W M rc rs pc2 L (.int (a * b) :: st) h Po) : xl_W M rc rs pc L (.int b :: .int a :: st) h Po := by
  obtain ⟨d, rfl⟩ := d
  exact xl_go (fun hX k => lv_imul hX.1 hX.2.1 d k) k
theorem xl_iand {a b : Int32} (d : xl_D M pc .iand 1 pc2) (k : xl_W M rc rs pc2 L (.int (a &&& b) :: st) h Po) : xl_W M rc rs pc L (.int b :: .int a :: st) h Po := by
  obtain ⟨d, rfl⟩ := d
  exact xl_go (fun hX k => lv_iand hX.1 hX.2.1 d k) k
theorem xl_ior {a b : Int32} (d : xl_D M pc .ior 1 pc2) (k : xl_W M rc rs pc2 L (.int (a ||| b) :: st) h Po) : xl_W M rc rs pc L (.int b :: .int a :: st) h Po := by
  obtain ⟨d, rfl⟩ := d
  exact xl_go (fun hX k => lv_ior hX.1 hX.2.1 d k) k
theorem xl_ishl {a b : Int32} (d : xl_D M pc .ishl 1 pc2) (k : xl_W M rc rs pc2 L (.int (a <<< (b &&& 31)) :: st) h Po) : xl_W M rc rs pc L (.int b :: .int a :: st) h Po := by
  obtain ⟨d, rfl⟩ := d
  exact xl_go (fun hX k => lv_ishl hX.1 hX.2.1 d k) k
theorem xl_ishr {a b : Int32} (d : xl_D M pc .ishr 1 pc2) (k : xl_W M rc rs pc2 L (.int (a >>> (b &&& 31)) :: st) h Po) : xl_W M rc rs pc L (.int b :: .int a :: st) h Po := by
  obtain ⟨d, rfl⟩ := d
  exact xl_go (fun hX k => lv_ishr hX.1 hX.2.1 d k) k
theorem xl_iushr {a b : Int32} (d : xl_D M pc .iushr 1 pc2) (k : xl_W M rc rs pc2 L (.int (a.toUInt32 >>> (b.toUInt32 &&& Int32.toUInt32 31)).toInt32 :: st) h Po) : xl_W M rc rs pc L (.int b :: .int a :: st) h Po := by
  obtain ⟨d, rfl⟩ := d
  exact xl_go (fun hX k => lv_iushr hX.1 hX.2.1 d rfl k) k
theorem xl_idiv {a b : Int32} (d : xl_D M pc .idiv 1 pc2) (hne : ¬ b = 0) (k : xl_W M rc rs pc2 L (.int (a / b) :: st) h Po) : xl_W M rc rs pc L (.int b :: .int a :: st) h Po := by
  obtain ⟨d, rfl⟩ := d
  exact xl_go (fun hX k => lv_idiv hX.1 hX.2.1 d hne k) k
theorem xl_irem {a b : Int32} (d : xl_D M pc .irem 1 pc2) (hne : ¬ b = 0) (k : xl_W M rc rs pc2 L (.int (a - a / b * b) :: st) h Po) : xl_W M rc rs pc L (.int b :: .int a :: st) h Po := by
  obtain ⟨d, rfl⟩ := d
  exact xl_go (fun hX k => lv_irem hX.1 hX.2.1 d hne k) k
theorem xl_ineg {a : Int32} (d : xl_D M pc .ineg 1 pc2) (k : xl_W M rc rs pc2 L (.int (-a) :: st) h Po) : xl_W M rc rs pc L (.int a :: st) h Po := by
  obtain ⟨d, rfl⟩ := d
  exact xl_go (fun hX k => lv_ineg hX.1 hX.2.1 d k) k
theorem xl_i2l {a : Int32} (d : xl_D M pc .i2l 1 pc2) (k : xl_W M rc rs pc2 L (.long a.toInt64 :: st) h Po) : xl_W M rc rs pc L (.int a :: st) h Po := by
  obtain ⟨d, rfl⟩ := d
  exact xl_go (fun hX k => lv_i2l hX.1 hX.2.1 d rfl k) k
theorem xl_lcmp {a b : Int64} (d : xl_D M pc .lcmp 1 pc2) (k : xl_W M rc rs pc2 L (.int (lg_cmp a b) :: st) h Po) : xl_W M rc rs pc L (.long b :: .long a :: st) h Po := by
  obtain ⟨d, rfl⟩ := d
  exact xl_go (fun hX k => W.lcmp hX.1 hX.2.1 d k) k
/-- of one word -/
def xl_1 : Value → Bool := fun v => match v with
  | .long _ => false
  | .double _ => false
  | _ => true
theorem xl_1c {v : Value} {ρ σ : Nat → Nat} (h : xl_1 v = true) : (xl_v ρ σ v).category = 1 := by
  cases v <;> first | rfl | cases h
theorem xl_dup {a : Value} (d : xl_D M pc .dup 1 pc2) (ha : xl_1 a = true) (k : xl_W M rc rs pc2 L (a :: a :: st) h Po) : xl_W M rc rs pc L (a :: st) h Po := by
  obtain ⟨d, rfl⟩ := d
  exact xl_go (fun hX k => lv_dup hX.1 hX.2.1 d (xl_1c ha) k) k
theorem xl_pop {a : Value} (d : xl_D M pc .pop 1 pc2) (ha : xl_1 a = true) (k : xl_W M rc rs pc2 L st h Po) : xl_W M rc rs pc L (a :: st) h Po := by
  obtain ⟨d, rfl⟩ := d
  exact xl_go (fun hX k => lv_pop hX.1 hX.2.1 d (xl_1c ha) k) k
theorem xl_dup2 {a b : Value} (d : xl_D M pc .dup2 1 pc2) (ha : xl_1 a = true) (hb : xl_1 b = true) (k : xl_W M rc rs pc2 L (a :: b :: a :: b :: st) h Po) : xl_W M rc rs pc L (a :: b :: st) h Po := by
  obtain ⟨d, rfl⟩ := d
  exact xl_go (fun hX k => lv_dup2_11 hX.1 hX.2.1 d (xl_1c ha) (xl_1c hb) k) k
theorem xl_goto (d : xl_J M pc (fun o => .goto o) pc2 tgt) (k : xl_W M rc rs tgt L st h Po) : xl_W M rc rs pc L st h Po := by
  obtain ⟨off, d, e1, -⟩ := d
  exact xl_go (fun hX k => lv_goto hX.1 hX.2.1 d e1 k) k
theorem xl_ifnonnull {a : Nat} (d : xl_J M pc (fun o => .ifnonnull o) pc2 tgt) (k : xl_W M rc rs tgt L st h Po) : xl_W M rc rs pc L (.ref a :: st) h Po := by
  obtain ⟨off, d, e1, -⟩ := d
  exact xl_go (fun hX k => lv_ifnonnull hX.1 hX.2.1 d e1 k) k
theorem xl_ifnull {a : Nat} (d : xl_J M pc (fun o => .ifnull o) pc2 tgt) (k : xl_W M rc rs pc2 L st h Po) : xl_W M rc rs pc L (.ref a :: st) h Po := by
  obtain ⟨off, d, e1, rfl⟩ := d
  exact xl_go (fun hX k => lv_ifnull hX.1 hX.2.1 d k) k
/-- a branch that is decided from what is known -/
theorem xl_if {P : Prop} {st2 : List Value} {t f : Nat} (g : ∀ {p : Program} {l : Launch} {e : Env} {R : Room} {s : State} {m : MethodId} {args : Array Value} {below : List Frame} {meth : Method} {c : Code} {H : Heap} {locs : List Loc} {cells slots : Nat} {Q : State → Prop} {ls : Array Slot} {ρ σ : Nat → Nat}, xl_X M l p R s m args meth c → (P → W p l e R s m args below meth c H locs cells slots Q (F0 m t ls (st2.map (xl_v ρ σ)))) → (¬ P → W p l e R s m args below meth c H locs cells slots Q (F0 m f ls (st2.map (xl_v ρ σ)))) → W p l e R s m args below meth c H locs cells slots Q (F0 m pc ls (st.map (xl_v ρ σ))))
    (kt : P → xl_W M rc rs t L st2 h Po) (kf : ¬ P → xl_W M rc rs f L st2 h Po) : xl_W M rc rs pc L st h Po := by
  intro p l e R s m args below meth c D aC ρ σ aV A H locs cells slots ls Q hX hH hL h1 h2 hr ht
  exact g hX (fun q => kt q p l e R s m args below meth c D aC ρ σ aV A H locs cells slots ls Q hX hH hL h1 h2 hr ht) (fun q => kf q p l e R s m args below meth c D aC ρ σ aV A H locs cells slots ls Q hX hH hL h1 h2 hr ht)
theorem xl_if_eq {a : Int32} (d : xl_J M pc (fun o => .ifCond .eq o) pc2 tgt) (kt : a = 0 → xl_W M rc rs tgt L st h Po) (kf : ¬ (a = 0) → xl_W M rc rs pc2 L st h Po) : xl_W M rc rs pc L (.int a :: st) h Po := by
  obtain ⟨off, d, e1, rfl⟩ := d
  exact xl_if (fun hX k1 k2 => lv_if_eq hX.1 hX.2.1 d e1 k1 k2) kt kf
theorem xl_icmp_eq {a b : Int32} (d : xl_J M pc (fun o => .if_icmp .eq o) pc2 tgt) (kt : a = b → xl_W M rc rs tgt L st h Po) (kf : ¬ (a = b) → xl_W M rc rs pc2 L st h Po) : xl_W M rc rs pc L (.int b :: .int a :: st) h Po := by
  obtain ⟨off, d, e1, rfl⟩ := d
  exact xl_if (fun hX k1 k2 => lv_icmp_eq hX.1 hX.2.1 d e1 k1 k2) kt kf
theorem xl_if_ne {a : Int32} (d : xl_J M pc (fun o => .ifCond .ne o) pc2 tgt) (kt : ¬ a = 0 → xl_W M rc rs tgt L st h Po) (kf : a = 0 → xl_W M rc rs pc2 L st h Po) : xl_W M rc rs pc L (.int a :: st) h Po := by
  obtain ⟨off, d, e1, rfl⟩ := d
  exact xl_if (P := ¬ a = 0) (fun hX k1 k2 => lv_if_ne hX.1 hX.2.1 d e1 k1 (fun q => k2 (fun z => z q))) kt (fun q => kf (Classical.not_not.mp q))
theorem xl_icmp_ne {a b : Int32} (d : xl_J M pc (fun o => .if_icmp .ne o) pc2 tgt) (kt : ¬ a = b → xl_W M rc rs tgt L st h Po) (kf : a = b → xl_W M rc rs pc2 L st h Po) : xl_W M rc rs pc L (.int b :: .int a :: st) h Po := by
  obtain ⟨off, d, e1, rfl⟩ := d
  exact xl_if (P := ¬ a = b) (fun hX k1 k2 => lv_icmp_ne hX.1 hX.2.1 d e1 k1 (fun q => k2 (fun z => z q))) kt (fun q => kf (Classical.not_not.mp q))
theorem xl_if_lt {a : Int32} (d : xl_J M pc (fun o => .ifCond .lt o) pc2 tgt) (kt : a < 0 → xl_W M rc rs tgt L st h Po) (kf : ¬ (a < 0) → xl_W M rc rs pc2 L st h Po) : xl_W M rc rs pc L (.int a :: st) h Po := by
  obtain ⟨off, d, e1, rfl⟩ := d
  exact xl_if (fun hX k1 k2 => lv_if_lt hX.1 hX.2.1 d e1 k1 k2) kt kf
theorem xl_icmp_lt {a b : Int32} (d : xl_J M pc (fun o => .if_icmp .lt o) pc2 tgt) (kt : a < b → xl_W M rc rs tgt L st h Po) (kf : ¬ (a < b) → xl_W M rc rs pc2 L st h Po) : xl_W M rc rs pc L (.int b :: .int a :: st) h Po := by
  obtain ⟨off, d, e1, rfl⟩ := d
  exact xl_if (fun hX k1 k2 => lv_icmp_lt hX.1 hX.2.1 d e1 k1 k2) kt kf
theorem xl_if_ge {a : Int32} (d : xl_J M pc (fun o => .ifCond .ge o) pc2 tgt) (kt : 0 ≤ a → xl_W M rc rs tgt L st h Po) (kf : ¬ (0 ≤ a) → xl_W M rc rs pc2 L st h Po) : xl_W M rc rs pc L (.int a :: st) h Po := by
  obtain ⟨off, d, e1, rfl⟩ := d
  exact xl_if (fun hX k1 k2 => lv_if_ge hX.1 hX.2.1 d e1 k1 k2) kt kf
theorem xl_icmp_ge {a b : Int32} (d : xl_J M pc (fun o => .if_icmp .ge o) pc2 tgt) (kt : b ≤ a → xl_W M rc rs tgt L st h Po) (kf : ¬ (b ≤ a) → xl_W M rc rs pc2 L st h Po) : xl_W M rc rs pc L (.int b :: .int a :: st) h Po := by
  obtain ⟨off, d, e1, rfl⟩ := d
  exact xl_if (fun hX k1 k2 => lv_icmp_ge hX.1 hX.2.1 d e1 k1 k2) kt kf
theorem xl_if_gt {a : Int32} (d : xl_J M pc (fun o => .ifCond .gt o) pc2 tgt) (kt : 0 < a → xl_W M rc rs tgt L st h Po) (kf : ¬ (0 < a) → xl_W M rc rs pc2 L st h Po) : xl_W M rc rs pc L (.int a :: st) h Po := by
  obtain ⟨off, d, e1, rfl⟩ := d
  exact xl_if (fun hX k1 k2 => lv_if_gt hX.1 hX.2.1 d e1 k1 k2) kt kf
theorem xl_icmp_gt {a b : Int32} (d : xl_J M pc (fun o => .if_icmp .gt o) pc2 tgt) (kt : b < a → xl_W M rc rs tgt L st h Po) (kf : ¬ (b < a) → xl_W M rc rs pc2 L st h Po) : xl_W M rc rs pc L (.int b :: .int a :: st) h Po := by
  obtain ⟨off, d, e1, rfl⟩ := d
  exact xl_if (fun hX k1 k2 => lv_icmp_gt hX.1 hX.2.1 d e1 k1 k2) kt kf
theorem xl_if_le {a : Int32} (d : xl_J M pc (fun o => .ifCond .le o) pc2 tgt) (kt : a ≤ 0 → xl_W M rc rs tgt L st h Po) (kf : ¬ (a ≤ 0) → xl_W M rc rs pc2 L st h Po) : xl_W M rc rs pc L (.int a :: st) h Po := by
  obtain ⟨off, d, e1, rfl⟩ := d
  exact xl_if (fun hX k1 k2 => lv_if_le hX.1 hX.2.1 d e1 k1 k2) kt kf
theorem xl_icmp_le {a b : Int32} (d : xl_J M pc (fun o => .if_icmp .le o) pc2 tgt) (kt : a ≤ b → xl_W M rc rs tgt L st h Po) (kf : ¬ (a ≤ b) → xl_W M rc rs pc2 L st h Po) : xl_W M rc rs pc L (.int b :: .int a :: st) h Po := by
  obtain ⟨off, d, e1, rfl⟩ := d
  exact xl_if (fun hX k1 k2 => lv_icmp_le hX.1 hX.2.1 d e1 k1 k2) kt kf
/-- loads: by the place -/
theorem xl_gl {v : Value} {i : Nat} (hl : xl_n L i = some (some v)) (f : ∀ {p : Program} {l : Launch} {e : Env} {R : Room} {s : State} {m : MethodId} {args : Array Value} {below : List Frame} {meth : Method} {c : Code} {H : Heap} {locs : List Loc} {cells slots : Nat} {Q : State → Prop} {ls : Array Slot} {ρ σ : Nat → Nat}, xl_X M l p R s m args meth c → ls[i]? = some (.val (xl_v ρ σ v)) → W p l e R s m args below meth c H locs cells slots Q (F0 m pc2 ls (st2.map (xl_v ρ σ))) → W p l e R s m args below meth c H locs cells slots Q (F0 m pc ls (st.map (xl_v ρ σ))))
    (k : xl_W M rc rs pc2 L st2 h Po) : xl_W M rc rs pc L st h Po := by
  intro p l e R s m args below meth c D aC ρ σ aV A H locs cells slots ls Q hX hH hL h1 h2 hr ht
  exact f hX (hL.2.2 i v hl) (k p l e R s m args below meth c D aC ρ σ aV A H locs cells slots ls Q hX hH hL h1 h2 hr ht)
theorem xl_iload {i : Nat} {a : Int32} (d : xl_D M pc (.iload i) 2 pc2) (hl : xl_n L i = some (some (.int a))) (k : xl_W M rc rs pc2 L (.int a :: st) h Po) : xl_W M rc rs pc L st h Po := by
  obtain ⟨d, rfl⟩ := d
  exact xl_gl hl (fun hX hl k => lv_iload hX.1 hX.2.1 d hl k) k
theorem xl_iload_n {i : Fin 4} {a : Int32} (d : xl_D M pc (.iload_n i) 1 pc2) (hl : xl_n L i.val = some (some (.int a))) (k : xl_W M rc rs pc2 L (.int a :: st) h Po) : xl_W M rc rs pc L st h Po := by
  obtain ⟨d, rfl⟩ := d
  exact xl_gl hl (fun hX hl k => lv_iload_n hX.1 hX.2.1 d rfl hl k) k
theorem xl_lload {i : Nat} {a : Int64} (d : xl_D M pc (.lload i) 2 pc2) (hl : xl_n L i = some (some (.long a))) (k : xl_W M rc rs pc2 L (.long a :: st) h Po) : xl_W M rc rs pc L st h Po := by
  obtain ⟨d, rfl⟩ := d
  exact xl_gl hl (fun hX hl k => lv_lload hX.1 hX.2.1 d hl k) k
theorem xl_lload_n {i : Fin 4} {a : Int64} (d : xl_D M pc (.lload_n i) 1 pc2) (hl : xl_n L i.val = some (some (.long a))) (k : xl_W M rc rs pc2 L (.long a :: st) h Po) : xl_W M rc rs pc L st h Po := by
  obtain ⟨d, rfl⟩ := d
  exact xl_gl hl (fun hX hl k => lv_lload_n hX.1 hX.2.1 d rfl hl k) k
theorem xl_aload {i : Nat} {a : Nat} (d : xl_D M pc (.aload i) 2 pc2) (hl : xl_n L i = some (some (.ref a))) (k : xl_W M rc rs pc2 L (.ref a :: st) h Po) : xl_W M rc rs pc L st h Po := by
  obtain ⟨d, rfl⟩ := d
  exact xl_gl hl (fun hX hl k => lv_aload hX.1 hX.2.1 d hl k) k
theorem xl_aload_n {i : Fin 4} {a : Nat} (d : xl_D M pc (.aload_n i) 1 pc2) (hl : xl_n L i.val = some (some (.ref a))) (k : xl_W M rc rs pc2 L (.ref a :: st) h Po) : xl_W M rc rs pc L st h Po := by
  obtain ⟨d, rfl⟩ := d
  exact xl_gl hl (fun hX hl k => lv_aload_n hX.1 hX.2.1 d rfl hl k) k
theorem xl_saload {i : Nat} {a : UInt32} (d : xl_D M pc (.aload i) 2 pc2) (hl : xl_n L i = some (some (.float a))) (k : xl_W M rc rs pc2 L (.float a :: st) h Po) : xl_W M rc rs pc L st h Po := by
  obtain ⟨d, rfl⟩ := d
  exact xl_gl hl (fun hX hl k => lv_aload hX.1 hX.2.1 d hl k) k
theorem xl_saload_n {i : Fin 4} {a : UInt32} (d : xl_D M pc (.aload_n i) 1 pc2) (hl : xl_n L i.val = some (some (.float a))) (k : xl_W M rc rs pc2 L (.float a :: st) h Po) : xl_W M rc rs pc L st h Po := by
  obtain ⟨d, rfl⟩ := d
  exact xl_gl hl (fun hX hl k => lv_aload_n hX.1 hX.2.1 d rfl hl k) k
/-- the places of a list of locals, as the kit's rows have them -/
def xl_p (ρ σ : Nat → Nat) (L : List (Option Value)) : List (Nat × Value) := (List.range L.length).filterMap (fun i => match xl_n L i with
  | some (some v) => some (i, xl_v ρ σ v)
  | _ => none)
theorem xl_p_mem {ρ σ : Nat → Nat} {L : List (Option Value)} {i : Nat} {w : Value} : (i, w) ∈ xl_p ρ σ L ↔ ∃ v, xl_n L i = some (some v) ∧ w = xl_v ρ σ v := by
  unfold xl_p
  rw [List.mem_filterMap]
  constructor
  · rintro ⟨j, -, hj⟩
    split at hj
    · next v hv => cases hj; exact ⟨v, hv, rfl⟩
    · cases hj
  · rintro ⟨v, hv, rfl⟩
    refine ⟨i, ?_, by rw [hv]⟩
    rw [List.mem_range]
    rw [xl_n_eq] at hv
    exact (List.getElem?_eq_some_iff.mp hv).1
theorem xl_L.has {ρ σ : Nat → Nat} {n : Nat} {ls : Array Slot} (hL : xl_L ρ σ n ls L) : lv_has ls n (xl_p ρ σ L) :=
  ⟨hL.1, hL.2.1, fun q hq => by
    obtain ⟨v, e1, e2⟩ := xl_p_mem.mp (show (q.1, q.2) ∈ xl_p ρ σ L from hq)
    rw [e2]
    exact hL.2.2 _ _ e1⟩
theorem xl_n_s {α : Type} : ∀ {l : List α} {k j : Nat} {b c : α}, xl_n (xl_s l k b) j = some c → (j = k ∧ c = b) ∨ (j ≠ k ∧ xl_n l j = some c)
  | [], k, j, b, c, e => by simp [xl_s, xl_n] at e
  | a :: l, 0, 0, b, c, e => Or.inl ⟨rfl, by simpa [xl_s, xl_n] using e.symm⟩
  | a :: l, 0, j + 1, b, c, e => Or.inr ⟨by omega, by simpa [xl_s, xl_n] using e⟩
  | a :: l, k + 1, 0, b, c, e => Or.inr ⟨by omega, by simpa [xl_s, xl_n] using e⟩
  | a :: l, k + 1, j + 1, b, c, e => by
    rcases xl_n_s (l := l) (k := k) (j := j) (b := b) (c := c) (by simpa [xl_s, xl_n] using e) with ⟨e1, e2⟩ | ⟨e1, e2⟩
    · exact Or.inl ⟨by omega, e2⟩
    · exact Or.inr ⟨by omega, by simpa [xl_n] using e2⟩
/-- no value of two words ends at a place -/
def xl_k : List (Option Value) → Nat → Bool
  | [], _ => true
  | _, 0 => true
  | a :: _, 1 => match a with
    | some v => xl_1 v
    | none => true
  | _ :: l, k + 2 => xl_k l (k + 1)
theorem xl_k_of : ∀ {L : List (Option Value)} {k : Nat} {v : Value}, xl_k L (k + 1) = true → xl_n L k = some (some v) → xl_1 v = true
  | [], k, v, h1, h2 => by simp [xl_n] at h2
  | a :: l, 0, v, h1, h2 => by
    simp [xl_n] at h2
    subst h2
    simpa [xl_k] using h1
  | a :: l, k + 1, v, h1, h2 => xl_k_of (L := l) (k := k) (by simpa [xl_k] using h1) (by simpa [xl_n] using h2)
theorem xl_1n {v : Value} {ρ σ : Nat → Nat} (h : xl_1 v = true) : ¬ (xl_v ρ σ v).category = 2 := by rw [xl_1c h]; decide
theorem xl_L.put {ρ σ : Nat → Nat} {n i : Nat} {ls : Array Slot} {v : Value} (hk : xl_k L i = true) (h1 : lv_has ls n ((i, xl_v ρ σ v) :: (xl_p ρ σ L).filter (fun q => !(q.1 == i) && !(q.1 + 1 == i && q.2.category == 2)))) : xl_L ρ σ n ls (xl_s L i (some v)) := by
  refine ⟨h1.1, h1.2.1, fun j w hw => ?_⟩
  rcases xl_n_s hw with ⟨rfl, e2⟩ | ⟨e1, e2⟩
  · cases e2
    exact h1.2.2 (_, xl_v ρ σ v) List.mem_cons_self
  · refine h1.2.2 (j, xl_v ρ σ w) (List.mem_cons_of_mem _ (List.mem_filter.mpr ⟨xl_p_mem.mpr ⟨w, e2, rfl⟩, ?_⟩))
    simp only [Bool.and_eq_true, Bool.not_eq_true', beq_eq_false_iff_ne, Bool.and_eq_false_iff, ne_eq]
    refine ⟨e1, ?_⟩
    by_cases hj : j + 1 = i
    · subst hj
      exact Or.inr (xl_1n (xl_k_of hk e2))
    · exact Or.inl hj
theorem xl_gs {v : Value} {i : Nat} (hk : xl_k L i = true) (hn : i < M.2.2.1) (f : ∀ {p : Program} {l : Launch} {e : Env} {R : Room} {s : State} {m : MethodId} {args : Array Value} {below : List Frame} {meth : Method} {c : Code} {H : Heap} {locs : List Loc} {cells slots : Nat} {Q : State → Prop} {ls : Array Slot} {ρ σ : Nat → Nat} {lv : List (Nat × Value)}, xl_X M l p R s m args meth c → lv_has ls M.2.2.1 lv → (∀ ls' : Array Slot, lv_has ls' M.2.2.1 ((i, xl_v ρ σ v) :: lv.filter (fun q => !(q.1 == i) && !(q.1 + 1 == i && q.2.category == 2))) → W p l e R s m args below meth c H locs cells slots Q (F0 m pc2 ls' (st2.map (xl_v ρ σ)))) → W p l e R s m args below meth c H locs cells slots Q (F0 m pc ls (st.map (xl_v ρ σ))))
    (k : xl_W M rc rs pc2 (xl_s L i (some v)) st2 h Po) : xl_W M rc rs pc L st h Po := by
  intro p l e R s m args below meth c D aC ρ σ aV A H locs cells slots ls Q hX hH hL h1 h2 hr ht
  exact f hX hL.has (fun ls' hl => k p l e R s m args below meth c D aC ρ σ aV A H locs cells slots ls' Q hX hH (xl_L.put hk hl) h1 h2 hr ht)
theorem xl_istore {i : Nat} {a : Int32} (d : xl_D M pc (.istore i) 2 pc2) (hk : xl_k L i = true) (hn : i < M.2.2.1) (k : xl_W M rc rs pc2 (xl_s L i (some (.int a))) st h Po) : xl_W M rc rs pc L (.int a :: st) h Po := by
  obtain ⟨d, rfl⟩ := d
  exact xl_gs (v := .int a) hk hn (fun hX hl k => lv_istore hX.1 hX.2.1 d hl hn rfl k) k
theorem xl_istore_n {i : Fin 4} {a : Int32} (d : xl_D M pc (.istore_n i) 1 pc2) (hk : xl_k L i.val = true) (hn : i.val < M.2.2.1) (k : xl_W M rc rs pc2 (xl_s L i.val (some (.int a))) st h Po) : xl_W M rc rs pc L (.int a :: st) h Po := by
  obtain ⟨d, rfl⟩ := d
  exact xl_gs (v := .int a) hk hn (fun hX hl k => lv_istore_n hX.1 hX.2.1 d rfl hl hn rfl k) k
theorem xl_astore {i : Nat} {a : Nat} (d : xl_D M pc (.astore i) 2 pc2) (hk : xl_k L i = true) (hn : i < M.2.2.1) (k : xl_W M rc rs pc2 (xl_s L i (some (.ref a))) st h Po) : xl_W M rc rs pc L (.ref a :: st) h Po := by
  obtain ⟨d, rfl⟩ := d
  exact xl_gs (v := .ref a) hk hn (fun hX hl k => lv_astore hX.1 hX.2.1 d hl hn rfl k) k
theorem xl_astore_n {i : Fin 4} {a : Nat} (d : xl_D M pc (.astore_n i) 1 pc2) (hk : xl_k L i.val = true) (hn : i.val < M.2.2.1) (k : xl_W M rc rs pc2 (xl_s L i.val (some (.ref a))) st h Po) : xl_W M rc rs pc L (.ref a :: st) h Po := by
  obtain ⟨d, rfl⟩ := d
  exact xl_gs (v := .ref a) hk hn (fun hX hl k => lv_astore_n hX.1 hX.2.1 d rfl hl hn rfl k) k
theorem xl_sastore {i : Nat} {a : UInt32} (d : xl_D M pc (.astore i) 2 pc2) (hk : xl_k L i = true) (hn : i < M.2.2.1) (k : xl_W M rc rs pc2 (xl_s L i (some (.float a))) st h Po) : xl_W M rc rs pc L (.float a :: st) h Po := by
  obtain ⟨d, rfl⟩ := d
  exact xl_gs (v := .float a) hk hn (fun hX hl k => lv_astore hX.1 hX.2.1 d hl hn rfl k) k
theorem xl_sastore_n {i : Fin 4} {a : UInt32} (d : xl_D M pc (.astore_n i) 1 pc2) (hk : xl_k L i.val = true) (hn : i.val < M.2.2.1) (k : xl_W M rc rs pc2 (xl_s L i.val (some (.float a))) st h Po) : xl_W M rc rs pc L (.float a :: st) h Po := by
  obtain ⟨d, rfl⟩ := d
  exact xl_gs (v := .float a) hk hn (fun hX hl k => lv_astore_n hX.1 hX.2.1 d rfl hl hn rfl k) k
theorem xl_iinc {i : Nat} {n : Int} {a : Int32} (d : xl_D M pc (.iinc i n) 3 pc2) (hl : xl_n L i = some (some (.int a))) (hk : xl_k L i = true) (hn : i < M.2.2.1) (k : xl_W M rc rs pc2 (xl_s L i (some (.int (a + Int32.ofInt n)))) st h Po) : xl_W M rc rs pc L st h Po := by
  obtain ⟨d, rfl⟩ := d
  intro p l e R s m args below meth c D aC ρ σ aV A H locs cells slots ls Q hX hH hL h1 h2 hr ht
  obtain ⟨q, hq⟩ := List.getElem?_of_mem (xl_p_mem.mpr ⟨_, hl, rfl⟩ : (i, xl_v ρ σ (.int a)) ∈ xl_p ρ σ L)
  exact lv_iinc hX.1 hX.2.1 d hL.has hq rfl hn rfl (fun ls' hl => k p l e R s m args below meth c D aC ρ σ aV A H locs cells slots ls' Q hX hH (xl_L.put (v := .int (a + Int32.ofInt n)) hk hl) h1 h2 hr ht)
/-- a method's end -/
theorem xl_ret {v : Option Value} (hP : Po (some v) h) (d : xl_R M pc v) : xl_W M rc rs pc L v.toList h Po := by
  intro p l e R s m args below meth c D aC ρ σ aV A H locs cells slots ls Q hX hH hL h1 h2 hr ht
  exact hr v h H locs pc cells slots ls hP hH d (by omega) (by omega)
theorem xl_thr (hP : Po none h) (d : xl_Y M pc) : xl_W M (rc + 1) (rs + 6) pc L [] h Po := by
  intro p l e R s m args below meth c D aC ρ σ aV A H locs cells slots ls Q hX hH hL h1 h2 hr ht
  exact ht h H locs pc cells slots ls hP hH d (by omega) (by omega) hL.1
theorem xl_ireturn {a : Int32} (d : xl_D M pc .ireturn 1 pc2) (hr : M.2.2.2.1 = some .int) (hP : Po (some (some (.int a))) h) : xl_W M rc rs pc L [.int a] h Po :=
  xl_ret (v := some (.int a)) hP ⟨⟨.int, hr, rfl⟩, d.1⟩
theorem xl_zreturn {a : Int32} (d : xl_D M pc .ireturn 1 pc2) (hr : M.2.2.2.1 = some .boolean) (h01 : a = 0 ∨ a = 1) (hP : Po (some (some (.int a))) h) : xl_W M rc rs pc L [.int a] h Po :=
  xl_ret (v := some (.int a)) hP ⟨⟨.boolean, hr, by rcases h01 with rfl | rfl <;> decide⟩, d.1⟩
theorem xl_lreturn {a : Int64} (d : xl_D M pc .lreturn 1 pc2) (hr : M.2.2.2.1 = some .long) (hP : Po (some (some (.long a))) h) : xl_W M rc rs pc L [.long a] h Po :=
  xl_ret (v := some (.long a)) hP ⟨hr, d.1⟩
theorem xl_sreturn {a : UInt32} {n : String} (d : xl_D M pc .areturn 1 pc2) (hr : M.2.2.2.1 = some (.object n)) (hP : Po (some (some (.float a))) h) : xl_W M rc rs pc L [.float a] h Po :=
  xl_ret (v := some (.float a)) hP ⟨⟨n, hr⟩, d.1⟩
theorem xl_return (d : xl_D M pc .return_ 1 pc2) (hr : M.2.2.2.1 = none) (hP : Po (some none) h) : xl_W M rc rs pc L [] h Po :=
  xl_ret (v := none) hP ⟨hr, d.1⟩
/-- fields: class number, field number -/
def xl_F (own : String) (i ci k : Nat) : Prop := ∃ (C : String) (T : u_T) (N : Nat), vwCl[ci]? = some (C, T, N) ∧ k < N ∧ (∀ w ∈ u_ws C T N, w ∈ xl_T) ∧ Cond.fieldLink own i (T k).1 (T k).2.1 (T k).2.2.1 ∈ xl_T
def xl_Fp (own : String) (i ci k : Nat) (ty : FieldType) : Prop := ∃ (C : String) (T : u_T) (N : Nat) (ty0 : Nat → FieldType), vwCl[ci]? = some (C, T, N) ∧ k < N ∧ (∀ w ∈ u_ws C T N, w ∈ xl_T) ∧ Cond.fieldLink own i (T k).1 (T k).2.1 (T k).2.2.1 ∈ xl_T ∧ (∀ k, k < N → parseFieldDescriptor (T k).2.2.1 = some (ty0 k)) ∧ (∀ a, a < N → ∀ b, b < N → a ≠ b → (T a).2.1 ≠ (T b).2.1) ∧ (T k).2.2.2 = false ∧ parseFieldDescriptor (T k).2.2.1 = some ty
def xl_G (M : XI) (pc ci k pc2 : Nat) : Prop := ∃ i, decode M.2.1 pc = .ok (.getfield i, 3) ∧ pc + 3 = pc2 ∧ xl_F M.1.cls i ci k
def xl_P (M : XI) (pc ci k : Nat) (ty : FieldType) (pc2 : Nat) : Prop := ∃ i, decode M.2.1 pc = .ok (.putfield i, 3) ∧ pc + 3 = pc2 ∧ xl_Fp M.1.cls i ci k ty
/-- a value out of a cell at a place -/
def xl_o (r : Nat) : Value → Value := fun v => match v with
  | .ref d => .ref (r + d)
  | .int a => .int a
  | .long a => .long a
  | .float a => .float a
  | .double a => .double a
  | .null => .null
  | .retAddr a => .retAddr a
theorem xl_o_v {ρ σ : Nat → Nat} {r : Nat} {v : Value} : xl_v ρ σ (xl_o r v) = xl_v (fun d => ρ (r + d)) σ v := by cases v <;> rfl
theorem xl_get {ci k r : Nat} {fs : List Value} {v : Value} (d : xl_G M pc ci k pc2) (hh : xl_n h r = some (.inr (ci, fs))) (hf : xl_n fs k = some v) (kk : xl_W M rc rs pc2 L (xl_o r v :: st) h Po) : xl_W M rc rs pc L (.ref r :: st) h Po := by
  obtain ⟨i, d, rfl, C, T, N, e1, e2, e3, e4⟩ := d
  intro p l e R s m args below meth c D aC ρ σ aV A H locs cells slots ls Q hX hH hL h1 h2 hr ht
  obtain ⟨hK, hP, hD, hS, hE, hA⟩ := id hH
  rw [xl_n_eq] at hh hf
  have hv : (fs.map (xl_v (fun d => ρ (r + d)) σ))[k]? = some (xl_v (fun d => ρ (r + d)) σ v) := by rw [List.getElem?_map, hf]; rfl
  refine va_get hX.1 hX.2.1 hX.2.2.2.2.2.1 e3 hX.2.2.2.2.1 hK hP r (xl_w_of hh) e1 k e2 (hX.2.2.2.2.2.1 _ e4) (fun _ h9 => h9) hv d ?_
  rw [← xl_o_v]
  exact kk p l e R s m args below meth c D aC ρ σ aV A H locs cells slots ls Q hX hH hL h1 h2 hr ht
theorem xl_put {ci k r : Nat} {fs : List Value} {a : Int32} (d : xl_P M pc ci k .int pc2) (hh : xl_n h r = some (.inr (ci, fs))) (hf : k < fs.length) (kk : xl_W M rc rs pc2 L st (xl_s h r (.inr (ci, xl_s fs k (.int a)))) Po) : xl_W M rc rs pc L (.int a :: .ref r :: st) h Po := by
  obtain ⟨i, d, rfl, C, T, N, ty0, e1, e2, e3, e4, e5, e6, e7, e8⟩ := d
  intro p l e R s m args below meth c D aC ρ σ aV A H locs cells slots ls Q hX hH hL h1 h2 hr ht
  obtain ⟨hK, hP, hD, hS, hE, hA⟩ := id hH
  rw [xl_n_eq] at hh
  refine va_put hX.1 hX.2.1 hX.2.2.2.2.2.1 e3 ty0 e5 e6 hX.2.2.2.2.1 hK hP hD hS r (xl_w_of hh) e1 k e2 (hX.2.2.2.2.2.1 _ e4) (fun _ h9 => h9) e7 e8 (v := .int a) rfl rfl (by rw [List.length_map]; exact hf) d (fun H1 locs1 hP1 hD1 hS1 => ?_)
  have ew : (xl_w aC ρ σ h).set r (ρ r, Sum.inr (ci, (fs.map (xl_v (fun d => ρ (r + d)) σ)).set k (.int a))) = xl_w aC ρ σ (xl_s h r (.inr (ci, xl_s fs k (.int a)))) := by
    rw [xl_s_eq, xl_s_eq, ← xl_w_set]
    show _ = (xl_w aC ρ σ h).set r (ρ r, Sum.inr (ci, (fs.set k (.int a)).map (xl_v (fun d => ρ (r + d)) σ)))
    rw [List.map_set]
    rfl
  rw [ew] at hP1 hD1
  exact kk p l e R s m args below meth c D aC ρ σ aV A H1 locs1 cells slots ls Q hX ⟨hK, hP1, hD1, hS1, hE, hA⟩ hL h1 h2 hr ht
/-- arrays -/
theorem xl_iald {r n : Nat} {f : Nat → Int32} {i : Int32} (d : xl_D M pc .iaload 1 pc2) (hh : xl_n h r = some (.inl (0, n, .inl f))) (hin : vp_in i n) (kk : xl_W M rc rs pc2 L (.int (f i.toNatClampNeg) :: st) h Po) : xl_W M rc rs pc L (.int i :: .ref r :: st) h Po := by
  obtain ⟨d, rfl⟩ := d
  intro p l e R s m args below meth c D aC ρ σ aV A H locs cells slots ls Q hX hH hL h1 h2 hr ht
  obtain ⟨hK, hP, hD, hS, hE, hA⟩ := id hH
  rw [xl_n_eq] at hh
  exact va_iald hX.1 hX.2.1 hK hP r 0 (xl_w_of hh) rfl hin d (kk p l e R s m args below meth c D aC ρ σ aV A H locs cells slots ls Q hX hH hL h1 h2 hr ht)
theorem xl_lald {r n : Nat} {f : Nat → Int64} {i : Int32} (d : xl_D M pc .laload 1 pc2) (hh : xl_n h r = some (.inl (1, n, .inr (.inl f)))) (hin : vp_in i n) (kk : xl_W M rc rs pc2 L (.long (f i.toNatClampNeg) :: st) h Po) : xl_W M rc rs pc L (.int i :: .ref r :: st) h Po := by
  obtain ⟨d, rfl⟩ := d
  intro p l e R s m args below meth c D aC ρ σ aV A H locs cells slots ls Q hX hH hL h1 h2 hr ht
  obtain ⟨hK, hP, hD, hS, hE, hA⟩ := id hH
  rw [xl_n_eq] at hh
  exact va_lald hX.1 hX.2.1 hK hP r 1 (xl_w_of hh) rfl hin d (kk p l e R s m args below meth c D aC ρ σ aV A H locs cells slots ls Q hX hH hL h1 h2 hr ht)
theorem xl_zald {r n : Nat} {f : Nat → Int32} {i : Int32} (d : xl_D M pc .baload 1 pc2) (hh : xl_n h r = some (.inl (2, n, .inl f))) (hin : vp_in i n) (kk : xl_W M rc rs pc2 L (.int (f i.toNatClampNeg) :: st) h Po) : xl_W M rc rs pc L (.int i :: .ref r :: st) h Po := by
  obtain ⟨d, rfl⟩ := d
  intro p l e R s m args below meth c D aC ρ σ aV A H locs cells slots ls Q hX hH hL h1 h2 hr ht
  obtain ⟨hK, hP, hD, hS, hE, hA⟩ := id hH
  rw [xl_n_eq] at hh
  exact va_zald hX.1 hX.2.1 hK hP r 2 (xl_w_of hh) rfl hin d (kk p l e R s m args below meth c D aC ρ σ aV A H locs cells slots ls Q hX hH hL h1 h2 hr ht)
theorem xl_aald {r n q : Nat} {f : Nat → Option Nat} {i : Int32} (d : xl_D M pc .aaload 1 pc2) (hh : xl_n h r = some (.inl (3, n, .inr (.inr (.inr (.inr f)))))) (hin : vp_in i n) (hq : f i.toNatClampNeg = some q) (kk : xl_W M rc rs pc2 L (.ref (r + q) :: st) h Po) : xl_W M rc rs pc L (.int i :: .ref r :: st) h Po := by
  obtain ⟨d, rfl⟩ := d
  intro p l e R s m args below meth c D aC ρ σ aV A H locs cells slots ls Q hX hH hL h1 h2 hr ht
  obtain ⟨hK, hP, hD, hS, hE, hA⟩ := id hH
  rw [xl_n_eq] at hh
  refine va_aldq hX.1 hX.2.1 hK hP r 3 (xl_w_of hh) rfl hin d ?_
  rw [show va_rf ((f i.toNatClampNeg).map (fun d => ρ (r + d))) = .ref (ρ (r + q)) by rw [hq]; rfl]
  exact kk p l e R s m args below meth c D aC ρ σ aV A H locs cells slots ls Q hX hH hL h1 h2 hr ht
theorem xl_alen {r n : Nat} {t : Nat} {a : (Nat → Int32) ⊕ (Nat → Int64) ⊕ (Nat → UInt32) ⊕ (Nat → UInt64) ⊕ (Nat → Option Nat)} (d : xl_D M pc .arraylength 1 pc2) (hh : xl_n h r = some (.inl (t, n, a))) (ht4 : t < 4) (kk : xl_W M rc rs pc2 L (.int (nI n) :: st) h Po) : xl_W M rc rs pc L (.ref r :: st) h Po := by
  obtain ⟨d, rfl⟩ := d
  intro p l e R s m args below meth c D aC ρ σ aV A H locs cells slots ls Q hX hH hL h1 h2 hr ht
  obtain ⟨hK, hP, hD, hS, hE, hA⟩ := id hH
  rw [xl_n_eq] at hh
  have kk := kk p l e R s m args below meth c D aC ρ σ aV A H locs cells slots ls Q hX hH hL h1 h2 hr ht
  match t, ht4, hh with
  | 0, _, hh => exact va_alen hX.1 hX.2.1 hK hP r 0 (xl_w_of hh) rfl rfl d kk
  | 1, _, hh => exact va_alen hX.1 hX.2.1 hK hP r 1 (xl_w_of hh) rfl rfl d kk
  | 2, _, hh => exact va_alen hX.1 hX.2.1 hK hP r 2 (xl_w_of hh) rfl rfl d kk
  | 3, _, hh => exact va_alen hX.1 hX.2.1 hK hP r 3 (xl_w_of hh) rfl rfl d kk
theorem xl_iast {r n : Nat} {f : Nat → Int32} {i a : Int32} (d : xl_D M pc .iastore 1 pc2) (hh : xl_n h r = some (.inl (0, n, .inl f))) (hin : vp_in i n) (kk : xl_W M rc rs pc2 L st (xl_s h r (.inl (0, n, .inl (upd f i.toNatClampNeg a)))) Po) : xl_W M rc rs pc L (.int a :: .int i :: .ref r :: st) h Po := by
  obtain ⟨d, rfl⟩ := d
  intro p l e R s m args below meth c D aC ρ σ aV A H locs cells slots ls Q hX hH hL h1 h2 hr ht
  obtain ⟨hK, hP, hD, hS, hE, hA⟩ := id hH
  rw [xl_n_eq] at hh
  refine va_iast hX.1 hX.2.1 hK hP hD hS r 0 (xl_w_of hh) rfl hin d (fun H1 locs1 hP1 hD1 hS1 => ?_)
  exact kk p l e R s m args below meth c D aC ρ σ aV A H1 locs1 cells slots ls Q hX ⟨hK, by rw [xl_w_s]; exact hP1, by rw [xl_w_s]; exact hD1, hS1, hE, hA⟩ hL h1 h2 hr ht
theorem xl_last {r n : Nat} {f : Nat → Int64} {i : Int32} {a : Int64} (d : xl_D M pc .lastore 1 pc2) (hh : xl_n h r = some (.inl (1, n, .inr (.inl f)))) (hin : vp_in i n) (kk : xl_W M rc rs pc2 L st (xl_s h r (.inl (1, n, .inr (.inl (vp_updL f i.toNatClampNeg a))))) Po) : xl_W M rc rs pc L (.long a :: .int i :: .ref r :: st) h Po := by
  obtain ⟨d, rfl⟩ := d
  intro p l e R s m args below meth c D aC ρ σ aV A H locs cells slots ls Q hX hH hL h1 h2 hr ht
  obtain ⟨hK, hP, hD, hS, hE, hA⟩ := id hH
  rw [xl_n_eq] at hh
  refine va_last hX.1 hX.2.1 hK hP hD hS r 1 (xl_w_of hh) rfl hin d (fun H1 locs1 hP1 hD1 hS1 => ?_)
  exact kk p l e R s m args below meth c D aC ρ σ aV A H1 locs1 cells slots ls Q hX ⟨hK, by rw [xl_w_s]; exact hP1, by rw [xl_w_s]; exact hD1, hS1, hE, hA⟩ hL h1 h2 hr ht
theorem xl_zast {r n : Nat} {f : Nat → Int32} {i a : Int32} (d : xl_D M pc .bastore 1 pc2) (hh : xl_n h r = some (.inl (2, n, .inl f))) (hin : vp_in i n) (kk : xl_W M rc rs pc2 L st (xl_s h r (.inl (2, n, .inl (upd f i.toNatClampNeg (vp_nar .boolean a))))) Po) : xl_W M rc rs pc L (.int a :: .int i :: .ref r :: st) h Po := by
  obtain ⟨d, rfl⟩ := d
  intro p l e R s m args below meth c D aC ρ σ aV A H locs cells slots ls Q hX hH hL h1 h2 hr ht
  obtain ⟨hK, hP, hD, hS, hE, hA⟩ := id hH
  rw [xl_n_eq] at hh
  refine va_zast hX.1 hX.2.1 hK hP hD hS r 2 (xl_w_of hh) rfl hin d (fun H1 locs1 hP1 hD1 hS1 => ?_)
  exact kk p l e R s m args below meth c D aC ρ σ aV A H1 locs1 cells slots ls Q hX ⟨hK, by rw [xl_w_s]; exact hP1, by rw [xl_w_s]; exact hD1, hS1, hE, hA⟩ hL h1 h2 hr ht
/-- contracts -/
def xl_ws (μ : XI) : List Cond := .code μ.1 μ.2.1 μ.2.2.1 μ.2.2.2.1 :: xl_T
def xl_rm (μ : XI) (mc ms : Nat) : Room := { frames := μ.2.2.2.2.1, cells := mc, slots := ms, locals := μ.2.2.2.2.2.1 }
def xl_Pc (D : va_G) (aC : Nat → ClassId) (ρ σ aV : Nat → Nat) (sz : Nat) (As : List Value) (h : XH) : Array Value → State → Prop :=
  va_Pc (As.map (xl_v ρ σ)) (fun U => U.heap.size = sz ∧ va_P D vwCl (xl_w aC ρ σ h) U.heap ∧ va_K D vwCl (xl_ty aC) U ∧ va_D (fun _ => True) (xl_w aC ρ σ h) ∧ xl_S σ aV (va_A (xl_w aC ρ σ h) sz) U U.heap)
def xl_Qc (D : va_G) (aC : Nat → ClassId) (ρ σ : Nat → Nat) (A : Nat → Prop) (Po : Option Value → XH → Prop) : Array Value → State → Outcome → State → Prop := fun _ st oc t =>
  (∃ (v : Option Value) (h' : XH), oc = .returned (v.map (xl_v ρ σ)) ∧ Po v h' ∧ va_P D vwCl (xl_w aC ρ σ h') t.heap ∧ va_K D vwCl (xl_ty aC) t ∧ va_D A (xl_w aC ρ σ h')) ∧ va_F A st t
def xl_C (μ : XI) (mc ms : Nat) (As : List Value) (h : XH) (Po : Option Value → XH → Prop) : Prop :=
  ∀ (l : Launch), l.flags = flags0 → ∀ (D : va_G) (aC : Nat → ClassId) (ρ σ aV : Nat → Nat) (sz : Nat), Met l μ.1 (xl_ws μ) (xl_rm μ mc ms) (xl_Pc D aC ρ σ aV sz As h) (xl_Qc D aC ρ σ (va_A (xl_w aC ρ σ h) sz) Po) mc ms (va_A (xl_w aC ρ σ h) sz)
/-- what the tables say of a method -/
def xl_K (μ : XI) : Prop := plainName μ.1.cls = true ∧ Cond.code μ.1 μ.2.1 μ.2.2.1 μ.2.2.2.1 ∈ xl_T ∧ Cond.initialized μ.1.cls ∈ xl_T ∧ μ.1.cls ≠ "java/lang/invoke/MethodHandle" ∧ μ.1.cls ≠ "java/lang/invoke/VarHandle" ∧ (parseMethodDescriptor μ.1.desc).map (fun d => d.parameters.length) = some μ.2.2.2.2.2.2
def xl_V (μ : XI) : Prop := xl_K μ ∧ Cond.instanceMethod μ.1 ∈ xl_T ∧ Cond.selects μ.1.cls μ.1 μ.1 ∈ xl_T
def xl_U (μ : XI) : Prop := xl_K μ ∧ Cond.static μ.1 ∈ xl_T
/-- the locals at the entry -/
def xl_e : List Value → Nat → List (Option Value)
  | [], n => List.replicate n none
  | v :: vs, n => if xl_1 v = true then some v :: xl_e vs (n - 1) else some v :: none :: xl_e vs (n - 2)
def xl_z : List Value → Nat
  | [] => 0
  | v :: vs => (if xl_1 v = true then 1 else 2) + xl_z vs
theorem xl_1d {v : Value} {ρ σ : Nat → Nat} (h : ¬ xl_1 v = true) : (xl_v ρ σ v).category = 2 := by
  cases v <;> first | rfl | exact absurd rfl h
theorem xl_z_eq {ρ σ : Nat → Nat} : ∀ (As : List Value), (lg_sl (As.map (xl_v ρ σ))).length = xl_z As
  | [] => rfl
  | v :: vs => by
    have ih := xl_z_eq (ρ := ρ) (σ := σ) vs
    by_cases hv : xl_1 v = true
    · have hc := xl_1c (ρ := ρ) (σ := σ) hv
      simp only [lg_sl, List.map_cons, List.flatMap_cons, List.length_append] at ih ⊢
      rw [ih]
      simp [xl_z, hv, hc]
    · have hc := xl_1d (ρ := ρ) (σ := σ) hv
      simp only [lg_sl, List.map_cons, List.flatMap_cons, List.length_append] at ih ⊢
      rw [ih]
      simp [xl_z, hv, hc]
theorem xl_e_in {ρ σ : Nat → Nat} : ∀ (As : List Value) (n b i : Nat) (v : Value), xl_n (xl_e As n) i = some (some v) → (b + i, xl_v ρ σ v) ∈ lv_args b (As.map (xl_v ρ σ))
  | [], n, b, i, v, e => by
    rw [xl_n_eq, xl_e, List.getElem?_replicate] at e
    split at e <;> simp at e
  | w :: vs, n, b, i, v, e => by
    by_cases hv : xl_1 w = true
    · have hc := xl_1c (ρ := ρ) (σ := σ) hv
      rw [xl_e, if_pos hv] at e
      simp only [List.map_cons, lv_args]
      cases i with
      | zero =>
        simp [xl_n] at e
        subst e
        exact List.mem_cons_self
      | succ i =>
        have := xl_e_in (ρ := ρ) (σ := σ) vs (n - 1) (b + 1) i v (by simpa [xl_n] using e)
        rw [if_neg (by rw [hc]; decide)]
        refine List.mem_cons_of_mem _ ?_
        rw [show b + (i + 1) = b + 1 + i by omega]
        exact this
    · have hc := xl_1d (ρ := ρ) (σ := σ) hv
      rw [xl_e, if_neg hv] at e
      simp only [List.map_cons, lv_args]
      match i, e with
      | 0, e =>
        simp [xl_n] at e
        subst e
        exact List.mem_cons_self
      | 1, e => simp [xl_n] at e
      | i + 2, e =>
        have := xl_e_in (ρ := ρ) (σ := σ) vs (n - 2) (b + 2) i v (by simpa [xl_n] using e)
        rw [if_pos hc]
        refine List.mem_cons_of_mem _ ?_
        rw [show b + (i + 2) = b + 2 + i by omega]
        exact this
end XL
section XC
variable {μ : XI} {mc ms : Nat} {As : List Value} {h : XH} {Po : Option Value → XH → Prop}
/-- a contract out of the walk of its body -/
theorem xl_con (hk : xl_K μ) (L0 : List (Option Value)) (he : xl_e As μ.2.2.1 = L0) (hz : xl_z As ≤ μ.2.2.1) (hW : xl_W μ mc ms 0 L0 [] h (fun v h' => ∃ w, v = some w ∧ Po w h')) : xl_C μ mc ms As h Po := by
  intro l hl D aC ρ σ aV sz
  refine Met.ofW (cc := μ.2.1) (maxL := μ.2.2.1) (ret := μ.2.2.2.1) hk.1 rfl ?_
  intro p e s m args below meth c s₁ B hml hv
  obtain ⟨rfl, hsz, hP, hK, hD0, hE⟩ := hv
  have hts := atoms_spec (ws := xl_ws μ) B.pre
  have hown : s.vm.findClass μ.1.cls = some m.cls := findClass_of_methodNamed B.named
  have hlocks := B.notSynchronized
  subst hsz
  have hD := hD0.self (sz := s.heap.size)
  generalize hAe : va_A (xl_w aC ρ σ h) s.heap.size = A at hD hE ⊢
  have hA : ∀ q : Nat, s.heap.size ≤ q → A q := fun q h => by rw [← hAe]; exact Or.inr h
  have hS : va_S A s.heap s.heap [] := va_S.rf
  have hl0 := lv_entry (As.map (xl_v ρ σ)) (n := μ.2.2.1) (by rw [xl_z_eq]; exact hz)
  rw [lg_entry_eq]
  refine hW p l e _ s m _ below meth c D aC ρ σ aV A s.heap [] 0 0 _ _ ⟨B.exec, B.bytes, B.returns, hml, hown, fun w hw => hts w (List.mem_cons_of_mem _ hw), hlocks, Nat.le_refl _, Nat.le_refl _, hl⟩ ⟨hK, hP, hD, hS, hE, hA⟩ ⟨hl0.1, hl0.2.1, fun i v hi => ?_⟩ (by show 0 + mc ≤ mc; omega) (by show 0 + ms ≤ ms; omega) ?_ ?_
  · rw [← he] at hi
    have := xl_e_in (ρ := ρ) (σ := σ) As μ.2.2.1 0 i v hi
    rw [Nat.zero_add] at this
    exact hl0.2.2 _ this
  · intro v h' H' locs' pc' cells' slots' ls' hPo hH' hR hc1 hc2
    obtain ⟨w, ew, hPo⟩ := hPo
    cases ew
    obtain ⟨hK', hP', hD', hS', hE', hA'⟩ := hH'
    refine W.widen (k := mc) (n := ms) (by omega) (by omega) ?_
    have fin : ∀ t : State, t.heap = H' → s.WarmedH t.vm → xl_Qc D aC ρ σ A Po (As.map (xl_v ρ σ)).toArray s (.returned (v.map (xl_v ρ σ))) t := fun t ht hW => ⟨⟨v, h', rfl, hPo, by rw [ht]; exact hP', va_K.moved hW.alike hK', hD'⟩, hS'.F ht⟩
    match v, hR, fin with
    | none, hR, fin => exact W.vret B.exec B.bytes (B.returns.trans hR.1) fin hS'.2.2 hR.2 hlocks
    | some (.int a), hR, fin =>
      obtain ⟨⟨ty, e1, e2⟩, e3⟩ := hR
      exact W.zret B.exec B.bytes (B.returns.trans e1) e2 fin hS'.2.2 e3 hlocks
    | some (.long a), hR, fin => exact W.lret B.exec B.bytes (B.returns.trans hR.1) fin hS'.2.2 hR.2 hlocks
    | some (.float a), hR, fin =>
      obtain ⟨⟨n, e1⟩, e3⟩ := hR
      exact W.aret B.exec B.bytes (B.returns.trans e1) (Or.inl ⟨n, rfl⟩) (Or.inr ⟨_, rfl⟩) fin hS'.2.2 e3 hlocks
  · intro h' H' locs' pc' cells' slots' ls' hPo
    obtain ⟨w, ew, -⟩ := hPo
    cases ew
end XC
end
-- 03.xc
section
/-! ===== calls: a callee sees a piece of the caller's cells, by a map of places ===== -/
/-- a call's instruction, its link, its room -/
def xl_Ca (M : XI) (pc : Nat) (μ : XI) (pc2 : Nat) : Prop := ∃ i, decode M.2.1 pc = .ok (.invokevirtual i, 3) ∧ pc + 3 = pc2 ∧ Cond.methodLink M.1.cls i μ.1 ∈ xl_T ∧ μ.2.2.2.2.1 + 1 ≤ M.2.2.2.2.1 ∧ 8 + (μ.2.2.1 + 11) + μ.2.2.2.2.2.1 ≤ M.2.2.2.2.2.1
def xl_Cs (M : XI) (pc : Nat) (μ : XI) (pc2 : Nat) : Prop := ∃ i, decode M.2.1 pc = .ok (.invokestatic i, 3) ∧ pc + 3 = pc2 ∧ Cond.methodLink M.1.cls i μ.1 ∈ xl_T ∧ μ.2.2.2.2.1 + 1 ≤ M.2.2.2.2.1 ∧ 8 + (μ.2.2.1 + 11) + μ.2.2.2.2.2.1 ≤ M.2.2.2.2.2.1
theorem xl_good (μ : XI) (hk : xl_K μ) : GoodIn xl_T (xl_ws μ) := by
  intro w hw
  have hm : w ∈ xl_T := by
    rcases List.mem_cons.mp hw with rfl | h
    · exact hk.2.1
    · exact h
  exact ⟨hm, good_of_word (xl_Tg w hm)⟩
theorem xl_callB {M μ : XI} {R : Room} {s : State} {args : Array Value} {i mc ms : Nat} (hts : ∀ w ∈ xl_T, w.before args s = true) (hk : xl_K μ) (hl : Cond.methodLink M.1.cls i μ.1 ∈ xl_T) (h1 : μ.2.2.2.2.1 + 1 ≤ R.frames) (h2 : 8 + (μ.2.2.1 + 11) + μ.2.2.2.2.2.1 ≤ R.locals) :
    CallB R s args M.1.cls i μ.1 μ.2.1 μ.2.2.1 μ.2.2.2.1 (xl_ws μ) (xl_rm μ mc ms) mc ms μ.2.2.2.2.2.2 :=
  callB_of _ hts (xl_good μ hk) rfl rfl rfl (hts _ hk.2.2.1) (hts _ hl) hk.2.2.2 ⟨h1, h2⟩
/-- the callee's cells among the caller's -/
def xl_pi (π : Nat → Nat) (h hl : XH) : Prop := (∀ i j, i < hl.length → j < hl.length → π i = π j → i = j) ∧ (∀ j, j < hl.length → h[π j]? = hl[j]? ∧ π j < h.length)
/-- what a cell means is the same on both sides -/
def xl_ok (π : Nat → Nat) (j : Nat) (c : XE) : Prop := ∀ (aC : Nat → ClassId) (ρ σ : Nat → Nat), xl_c aC (fun k => ρ (π k)) σ j c = xl_c aC ρ σ (π j) c
theorem xl_ok_add (r j : Nat) (c : XE) : xl_ok (fun k => r + k) j c := by
  intro aC ρ σ
  cases c with
  | inl a => 
    obtain ⟨t, n, f | f | f | f | f⟩ := a <;> first | rfl | (simp only [xl_c, xl_a, Nat.add_assoc])
  | inr o => simp only [xl_c, Nat.add_assoc]
/-- the caller's cells behind a call -/
def xl_back (π : Nat → Nat) (n : Nat) (h h' h1 : XH) : Prop := h1.length = h.length ∧ (∀ j, j < n → h1[π j]? = h'[j]?) ∧ ∀ k, (∀ j, j < n → π j ≠ k) → h1[k]? = h[k]?
section XCC
variable {p : Program} {l : Launch} {e : Env} {R : Room} {s : State} {m : MethodId} {args : Array Value} {below : List Frame} {meth : Method} {c : Code} {H : Heap} {locs : List Loc} {cells slots : Nat} {Q : State → Prop}
theorem xl_after {pc mc ms : Nat} {ls : Array Slot} {rest st0 : List Value} {a : Array Value} {A0 A1 free : Nat → Prop} {D : va_G} {aC : Nat → ClassId} {ρ σ : Nat → Nat} {Po : Option Value → XH → Prop}
    (hr : va_Run p l e R s m args below meth c H locs cells slots mc ms (F0 m pc ls st0) rest (xl_Qc D aC ρ σ A1 Po a) free) (hS : va_S A0 s.heap H locs) (hA : ∀ q, q < H.size → A1 q → A0 q) (hf : ∀ q, free q → A0 q)
    (kk : ∀ (v : Option Value) (h' : XH) (H1 : Heap) (locs1 : List Loc), Po v h' → va_P D vwCl (xl_w aC ρ σ h') H1 → va_D A1 (xl_w aC ρ σ h') → H.size ≤ H1.size → (∀ q : Nat, q < H.size → ¬ A1 q → H1[q]? = H[q]?) → va_S A0 s.heap H1 locs1 → W p l e R s m args below meth c H1 locs1 (cells + mc) (slots + ms) Q (F0 m (pc + 3) ls ((v.map (xl_v ρ σ)).toList ++ rest))) : W p l e R s m args below meth c H locs cells slots Q (F0 m pc ls st0) := by
  intro T hT X
  obtain ⟨v, st₀, t, T', L, h0, X', hL, e1, e2, ⟨⟨v', h', hv, hp, hP1, hK1, hD1⟩, hz, hk⟩, st⟩ := hr T hT X
  cases hv
  rw [h0] at hz hk
  obtain ⟨t2, a1, b1⟩ := kk v' h' T'.heap (locs ++ L) hp (by rw [e1]; exact hP1) hD1 (by rw [e1]; exact hz) (fun q h1 h2 => by rw [e1]; exact hk q h1 h2)
    ⟨Nat.le_trans hS.1 (by rw [e1]; exact hz), fun q h1 h2 => by rw [e1, hk q (Nat.lt_of_lt_of_le h1 hS.1) (fun z => h2 (hA q (Nat.lt_of_lt_of_le h1 hS.1) z))]; exact hS.2.1 q h1 h2, fun q hq => by
      rcases List.mem_append.mp hq with h | h
      · exact hS.2.2 q h
      · exact hf _ (hL q h)⟩ T' rfl X'
  exact ⟨t2, st t2 a1, b1⟩
end XCC
section XCD
variable {M μ : XI} {rc rs pc pc2 mc ms : Nat} {L : List (Option Value)} {st rest : List Value} {h hl : XH} {Po : Option (Option Value) → XH → Prop} {Po' : Option Value → XH → Prop}
/-- the callee's part of the world -/
theorem xl_part {D : va_G} {aC : Nat → ClassId} {ρ σ aV : Nat → Nat} {A : Nat → Prop} {s : State} {H : Heap} {locs : List Loc} {π : Nat → Nat} (hH : xl_H D aC ρ σ aV A s H locs h) (hp : xl_pi π h hl) (hok : ∀ j c, hl[j]? = some c → xl_ok π j c) :
    va_P D vwCl (xl_w aC (fun k => ρ (π k)) σ hl) H ∧ xl_ap A (fun k => ρ (π k)) hl.length ∧ ∀ q, va_A (xl_w aC (fun k => ρ (π k)) σ hl) H.size q → A q := by
  obtain ⟨hK, hP, hD, hS, hE, hA⟩ := hH
  have hap := xl_ap_of hD
  have key : ∀ (j : Nat) (c : XE), hl[j]? = some c → (xl_w aC ρ σ h)[π j]? = some (ρ (π j), xl_c aC (fun k => ρ (π k)) σ j c) := by
    intro j c hc
    have hj := (List.getElem?_eq_some_iff.mp hc).1
    rw [hok j c hc aC ρ σ]
    exact xl_w_of (by rw [(hp.2 j hj).1]; exact hc)
  refine ⟨fun k q hq => ?_, ⟨fun i j hi hj e => hp.1 i j hi hj (hap.1 _ _ (hp.2 i hi).2 (hp.2 j hj).2 e), fun i hi => hap.2 _ (hp.2 i hi).2⟩, fun q hq => ?_⟩
  · obtain ⟨c, e1, rfl⟩ := xl_w_inv hq
    exact hP (π k) _ (key k c e1)
  · rcases hq with ⟨k, e, hk⟩ | hq
    · obtain ⟨c, e1, e2⟩ := xl_w_inv hk
      have hj := (List.getElem?_eq_some_iff.mp e1).1
      rw [show q = ρ (π k) from congrArg Prod.fst e2]
      exact hap.2 _ (hp.2 k hj).2
    · exact hA q (Nat.le_trans hS.1 hq)
theorem xl_joined {D : va_G} {aC : Nat → ClassId} {ρ σ aV : Nat → Nat} {A : Nat → Prop} {s : State} {H H1 : Heap} {locs locs1 : List Loc} {π : Nat → Nat} {h' h1 : XH} (hH : xl_H D aC ρ σ aV A s H locs h) (hp : xl_pi π h hl) (hb : xl_back π hl.length h h' h1) (hlen : h'.length = hl.length) (hok : ∀ j c, h'[j]? = some c → xl_ok π j c)
    (hP1 : va_P D vwCl (xl_w aC (fun k => ρ (π k)) σ h') H1) (hk : ∀ q : Nat, q < H.size → ¬ va_A (xl_w aC (fun k => ρ (π k)) σ hl) H.size q → H1[q]? = H[q]?) (hS1 : va_S A s.heap H1 locs1) : xl_H D aC ρ σ aV A s H1 locs1 h1 := by
  obtain ⟨hK, hP, hD, hS, hE, hA⟩ := hH
  have hap := xl_ap_of hD
  refine ⟨hK, fun k q hq => ?_, xl_D_of (by rw [hb.1]; exact hap), hS1, hE, hA⟩
  obtain ⟨c, e1, rfl⟩ := xl_w_inv hq
  by_cases hin : ∃ j, j < hl.length ∧ π j = k
  · obtain ⟨j, hj, rfl⟩ := hin
    rw [hb.2.1 j hj] at e1
    rw [← hok j c e1 aC ρ σ]
    exact hP1 j _ (xl_w_of e1)
  · have hn : ∀ j, j < hl.length → π j ≠ k := fun j hj e => hin ⟨j, hj, e⟩
    rw [hb.2.2 k hn] at e1
    have hkl := (List.getElem?_eq_some_iff.mp e1).1
    have h0 := hP k _ (xl_w_of (aC := aC) (ρ := ρ) (σ := σ) e1)
    refine h0.kept (hk _ h0.lt (fun z => ?_))
    rcases z with ⟨j, e, hj⟩ | z
    · obtain ⟨c2, g1, g2⟩ := xl_w_inv hj
      have hjl := (List.getElem?_eq_some_iff.mp g1).1
      have ee : ρ k = ρ (π j) := congrArg Prod.fst g2
      exact hn j hjl (hap.1 _ _ hkl (hp.2 j hjl).2 ee).symm
    · exact absurd h0.lt (Nat.not_lt.mpr z)
theorem xl_blind {D : va_G} {aC : Nat → ClassId} {ρ σ aV : Nat → Nat} {sz : Nat} {As : List Value} : FrameBlind (xl_Pc D aC ρ σ aV sz As hl) := fun a U g mk q => by
  obtain ⟨q0, q1, qP, qK, qD, qE⟩ := q
  exact ⟨q0, q1, qP, va_K.moved (u := U) (U := U.calling g mk a) (Vm.Alike.refl U.vm) qK, qD, xl_S.same (u := U) (U := U.calling g mk a) rfl qE⟩
theorem xl_ready {D : va_G} {aC : Nat → ClassId} {ρ σ aV : Nat → Nat} {A : Nat → Prop} {s U : State} {H : Heap} {locs : List Loc} {π : Nat → Nat} {As : List Value} {av : List Value} (hH : xl_H D aC ρ σ aV A s H locs h) (hp : xl_pi π h hl) (hok : ∀ j c, hl[j]? = some c → xl_ok π j c) (hU : U.heap = H) (hW : s.WarmedH U.vm) (hAs : av = As.map (xl_v (fun k => ρ (π k)) σ)) : xl_Pc D aC (fun k => ρ (π k)) σ aV H.size As hl av.toArray U := by
  obtain ⟨g1, g2, g3⟩ := xl_part hH hp hok
  obtain ⟨hK, hP, hD, hS, hE, hA⟩ := hH
  refine ⟨by rw [hAs], by rw [hU], by rw [hU]; exact g1, va_K.moved hW.alike hK, xl_D_of ⟨g2.1, fun _ _ => trivial⟩, ?_⟩
  rw [hU]
  refine xl_S.narrow (A := A) (xl_S.moved hW (xl_S.kept hE (fun a h1 h2 => hS.2.1 a h1 h2))) g3
/-- invokevirtual -/
theorem xl_callV (π : Nat → Nat) {ci r : Nat} {fs : List Value} {As As' : List Value} (d : xl_Ca M pc μ pc2) (hv : xl_V μ) (hcl : ∃ T N, vwCl[ci]? = some (μ.1.cls, T, N)) (hh : xl_n h r = some (.inr (ci, fs))) (hst : st = As.reverse ++ .ref r :: rest) (hn : As.length = μ.2.2.2.2.2.2) (hw : (rest.map fun v => if xl_1 v = true then 1 else 2).sum ≤ 8) (hAs : ∀ ρ σ : Nat → Nat, (Value.ref r :: As).map (xl_v ρ σ) = As'.map (xl_v (fun k => ρ (π k)) σ))
    (hp : xl_pi π h hl) (hok : ∀ j c, hl[j]? = some c → xl_ok π j c) (hc : xl_C μ mc ms As' hl Po') (hlen : ∀ v h', Po' v h' → h'.length = hl.length ∧ (∀ j c, h'[j]? = some c → xl_ok π j c) ∧ ∀ a, v ≠ some (.ref a))
    (kk : ∀ v h' h1, Po' v h' → xl_back π hl.length h h' h1 → xl_W M rc rs pc2 L (v.toList ++ rest) h1 Po) : xl_W M (rc + mc) (rs + ms) pc L st h Po := by
  obtain ⟨i, d, rfl, d3, d4, d5⟩ := d
  obtain ⟨T, N, hcl⟩ := hcl
  subst hst
  intro p l e R s m args below meth c D aC ρ σ aV A H locs cells slots ls Q hX hH hL h1 h2 hr ht
  obtain ⟨hK, hP, hD, hS, hE, hA⟩ := id hH
  obtain ⟨g1, g2, g3⟩ := xl_part hH hp hok
  rw [xl_n_eq] at hh
  have hrecv := va_recv hK hP hcl (xl_w_of hh)
  have hcw : CallW R s args M.1.cls μ.1.cls i μ.1 μ.2.1 μ.2.2.1 μ.2.2.2.1 (xl_ws μ) (xl_rm μ mc ms) mc ms μ.2.2.2.2.2.2 := ⟨xl_callB hX.2.2.2.2.2.1 hv.1 d3 (Nat.le_trans d4 hX.2.2.2.2.2.2.2.1) (Nat.le_trans d5 hX.2.2.2.2.2.2.2.2.1), hX.2.2.2.2.2.1 _ hv.2.1, hX.2.2.2.2.2.1 _ hv.2.2⟩
  have hcat : ∀ l : List Value, (l.map (xl_v ρ σ)).map (fun v => v.category) = l.map fun v => if xl_1 v = true then 1 else 2 := by
    intro l
    rw [List.map_map]
    apply List.map_congr_left
    intro v _
    show (xl_v ρ σ v).category = _
    by_cases hv1 : xl_1 v = true
    · rw [if_pos hv1, xl_1c hv1]
    · rw [if_neg hv1, xl_1d hv1]
  have hrun := va_runV (As := As.map (xl_v ρ σ)) (rest := rest.map (xl_v ρ σ)) (g := F0 m pc ls ((As.reverse ++ .ref r :: rest).map (xl_v ρ σ))) (H := H) (locs := locs) (cells := cells) (slots := slots) (e := e) (below := below) (meth := meth) (b := ρ r) (C := μ.1.cls) ⟨hX.1, hX.2.1, hX.2.2.2.1, hX.2.2.2.2.1, hX.2.2.2.2.2.1⟩ (hc l hX.2.2.2.2.2.2.2.2.2 D aC (fun k => ρ (π k)) σ aV H.size) hcw
    ⟨xl_blind, hrecv, fun U hU hW => xl_ready hH hp hok hU hW (hAs ρ σ)⟩ rfl (by rw [List.length_map]; exact hn) hL.1 (by simp [xl_v]) (lv_room (by rw [hcat]; exact hw)) d ⟨by omega, by omega⟩
  refine xl_after hrun hS (fun q _ hq => g3 q hq) g3 (fun v h' H1 locs1 hPo hP1 hD1 hz1 hk1 hS1 => ?_)
  obtain ⟨q1, q2, q3⟩ := hlen v h' hPo
  have hback : ∃ h1, xl_back π hl.length h h' h1 := by
    refine ⟨h.mapIdx (fun k c => if hx : ∃ j, j < hl.length ∧ π j = k then (h'[hx.choose]?).getD c else c), by simp, fun j hj => ?_, fun k hk => ?_⟩
    · have hx : ∃ j', j' < hl.length ∧ π j' = π j := ⟨j, hj, rfl⟩
      have hcj : hx.choose = j := hp.1 _ _ hx.choose_spec.1 hj hx.choose_spec.2
      obtain ⟨g4, g5⟩ := hp.2 j hj
      rw [List.getElem?_mapIdx, List.getElem?_eq_getElem g5]
      simp only [Option.map_some]
      rw [dif_pos hx, hcj, List.getElem?_eq_getElem (by omega)]
      rfl
    · rw [List.getElem?_mapIdx]
      cases hhk : h[k]? with
      | none => rfl
      | some c =>
        simp only [Option.map_some]
        rw [dif_neg (fun ⟨j, hj, ej⟩ => hk j hj ej)]
  obtain ⟨h1', hb⟩ := hback
  have hH1 := xl_joined hH hp hb q1 q2 hP1 hk1 hS1
  have := kk v h' h1' hPo hb p l e R s m args below meth c D aC ρ σ aV A H1 locs1 (cells + mc) (slots + ms) ls Q hX hH1 hL (by omega) (by omega) (fun v h' H' locs' pc' cells' slots' ls' a1 a2 a3 a4 a5 => hr v h' H' locs' pc' cells' slots' ls' a1 a2 a3 (by omega) (by omega)) (fun h' H' locs' pc' cells' slots' ls' a1 a2 a3 a4 a5 => ht h' H' locs' pc' cells' slots' ls' a1 a2 a3 (by omega) (by omega))
  rw [List.map_append] at this
  have ev : (v.map (xl_v (fun k => ρ (π k)) σ)).toList = v.toList.map (xl_v ρ σ) := by
    cases v with
    | none => rfl
    | some v => cases v <;> first | rfl | exact absurd rfl (q3 _)
  rw [ev]
  exact this
/-- invokestatic -/
theorem xl_callS (π : Nat → Nat) {As As' : List Value} (d : xl_Cs M pc μ pc2) (hv : xl_U μ) (hst : st = As.reverse ++ rest) (hn : As.length = μ.2.2.2.2.2.2) (hw : (rest.map fun v => if xl_1 v = true then 1 else 2).sum ≤ 8) (hAs : ∀ ρ σ : Nat → Nat, As.map (xl_v ρ σ) = As'.map (xl_v (fun k => ρ (π k)) σ))
    (hp : xl_pi π h hl) (hok : ∀ j c, hl[j]? = some c → xl_ok π j c) (hc : xl_C μ mc ms As' hl Po') (hlen : ∀ v h', Po' v h' → h'.length = hl.length ∧ (∀ j c, h'[j]? = some c → xl_ok π j c) ∧ ∀ a, v ≠ some (.ref a))
    (kk : ∀ v h' h1, Po' v h' → xl_back π hl.length h h' h1 → xl_W M rc rs pc2 L (v.toList ++ rest) h1 Po) : xl_W M (rc + mc) (rs + ms) pc L st h Po := by
  obtain ⟨i, d, rfl, d3, d4, d5⟩ := d
  subst hst
  intro p l e R s m args below meth c D aC ρ σ aV A H locs cells slots ls Q hX hH hL h1 h2 hr ht
  obtain ⟨hK, hP, hD, hS, hE, hA⟩ := id hH
  obtain ⟨g1, g2, g3⟩ := xl_part hH hp hok
  have hcw : CallB R s args M.1.cls i μ.1 μ.2.1 μ.2.2.1 μ.2.2.2.1 (xl_ws μ) (xl_rm μ mc ms) mc ms μ.2.2.2.2.2.2 ∧ (Cond.static μ.1).before args s = true := ⟨xl_callB hX.2.2.2.2.2.1 hv.1 d3 (Nat.le_trans d4 hX.2.2.2.2.2.2.2.1) (Nat.le_trans d5 hX.2.2.2.2.2.2.2.2.1), hX.2.2.2.2.2.1 _ hv.2⟩
  have hcat : ∀ l : List Value, (l.map (xl_v ρ σ)).map (fun v => v.category) = l.map fun v => if xl_1 v = true then 1 else 2 := by
    intro l
    rw [List.map_map]
    apply List.map_congr_left
    intro v _
    show (xl_v ρ σ v).category = _
    by_cases hv1 : xl_1 v = true
    · rw [if_pos hv1, xl_1c hv1]
    · rw [if_neg hv1, xl_1d hv1]
  have hrun := va_runS (As := As.map (xl_v ρ σ)) (rest := rest.map (xl_v ρ σ)) (g := F0 m pc ls ((As.reverse ++ rest).map (xl_v ρ σ))) (H := H) (locs := locs) (cells := cells) (slots := slots) (e := e) (below := below) (meth := meth) ⟨hX.1, hX.2.1, hX.2.2.2.1, hX.2.2.2.2.1, hX.2.2.2.2.2.1⟩ (hc l hX.2.2.2.2.2.2.2.2.2 D aC (fun k => ρ (π k)) σ aV H.size) hcw
    ⟨xl_blind, fun U hU hW => xl_ready hH hp hok hU hW (hAs ρ σ)⟩ rfl (by rw [List.length_map]; exact hn) hL.1 (by simp [xl_v]) (lv_room (by rw [hcat]; exact hw)) d ⟨by omega, by omega⟩
  refine xl_after hrun hS (fun q _ hq => g3 q hq) g3 (fun v h' H1 locs1 hPo hP1 hD1 hz1 hk1 hS1 => ?_)
  obtain ⟨q1, q2, q3⟩ := hlen v h' hPo
  have hback : ∃ h1, xl_back π hl.length h h' h1 := by
    refine ⟨h.mapIdx (fun k c => if hx : ∃ j, j < hl.length ∧ π j = k then (h'[hx.choose]?).getD c else c), by simp, fun j hj => ?_, fun k hk => ?_⟩
    · have hx : ∃ j', j' < hl.length ∧ π j' = π j := ⟨j, hj, rfl⟩
      have hcj : hx.choose = j := hp.1 _ _ hx.choose_spec.1 hj hx.choose_spec.2
      obtain ⟨g4, g5⟩ := hp.2 j hj
      rw [List.getElem?_mapIdx, List.getElem?_eq_getElem g5]
      simp only [Option.map_some]
      rw [dif_pos hx, hcj, List.getElem?_eq_getElem (by omega)]
      rfl
    · rw [List.getElem?_mapIdx]
      cases hhk : h[k]? with
      | none => rfl
      | some c =>
        simp only [Option.map_some]
        rw [dif_neg (fun ⟨j, hj, ej⟩ => hk j hj ej)]
  obtain ⟨h1', hb⟩ := hback
  have hH1 := xl_joined hH hp hb q1 q2 hP1 hk1 hS1
  have := kk v h' h1' hPo hb p l e R s m args below meth c D aC ρ σ aV A H1 locs1 (cells + mc) (slots + ms) ls Q hX hH1 hL (by omega) (by omega) (fun v h' H' locs' pc' cells' slots' ls' a1 a2 a3 a4 a5 => hr v h' H' locs' pc' cells' slots' ls' a1 a2 a3 (by omega) (by omega)) (fun h' H' locs' pc' cells' slots' ls' a1 a2 a3 a4 a5 => ht h' H' locs' pc' cells' slots' ls' a1 a2 a3 (by omega) (by omega))
  rw [List.map_append] at this
  have ev : (v.map (xl_v (fun k => ρ (π k)) σ)).toList = v.toList.map (xl_v ρ σ) := by
    cases v with
    | none => rfl
    | some v => cases v <;> first | rfl | exact absurd rfl (q3 _)
  rw [ev]
  exact this
/-- Math.max, Math.min, System.arraycopy -/
def xl_Cm (M : XI) (pc : Nat) (y : MethodName) (cc : ByteArray) (pc2 : Nat) : Prop := ∃ i, decode M.2.1 pc = .ok (.invokestatic i, 3) ∧ pc + 3 = pc2 ∧ Cond.methodLink M.1.cls i y ∈ xl_T ∧ Cond.static y ∈ xl_T ∧ Cond.initialized "java/lang/Math" ∈ xl_T ∧ Cond.code y cc 2 (some .int) ∈ xl_T ∧ 1 ≤ M.2.2.2.2.1 ∧ 21 ≤ M.2.2.2.2.2.1
theorem xl_cats (ρ σ : Nat → Nat) (l : List Value) : (l.map (xl_v ρ σ)).map (fun v => v.category) = l.map fun v => if xl_1 v = true then 1 else 2 := by
  rw [List.map_map]
  apply List.map_congr_left
  intro v _
  show (xl_v ρ σ v).category = _
  by_cases hv1 : xl_1 v = true
  · rw [if_pos hv1, xl_1c hv1]
  · rw [if_neg hv1, xl_1d hv1]
theorem xl_max {a b : Int32} (d : xl_Cm M pc Lib.Math.max.name Lib.Math.max.code pc2) (hw : (rest.map fun v => if xl_1 v = true then 1 else 2).sum ≤ 8) (kk : xl_W M rc rs pc2 L (.int (if a < b then b else a) :: rest) h Po) : xl_W M rc rs pc L (.int b :: .int a :: rest) h Po := by
  obtain ⟨i, d, rfl, d3, d4, d5, d6, d7, d8⟩ := d
  intro p l e R s m args below meth c D aC ρ σ aV A H locs cells slots ls Q hX hH hL h1 h2 hr ht
  have hT := hX.2.2.2.2.2.1
  exact va_mmax hX.1 hX.2.1 (hX.2.2.2.1.trans hL.1.symm) hX.2.2.2.2.1 (hT _ d3) (hT _ d4) (hT _ d5) (hT _ d6) (Nat.le_trans d7 hX.2.2.2.2.2.2.2.1) (by rw [xl_cats]; have := hX.2.2.2.2.2.2.2.2.1; omega) (by omega) (by omega) d (kk p l e R s m args below meth c D aC ρ σ aV A H locs cells slots ls Q hX hH hL h1 h2 hr ht)
theorem xl_min {a b : Int32} (d : xl_Cm M pc Lib.Math.min.name Lib.Math.min.code pc2) (hw : (rest.map fun v => if xl_1 v = true then 1 else 2).sum ≤ 8) (kk : xl_W M rc rs pc2 L (.int (if b < a then b else a) :: rest) h Po) : xl_W M rc rs pc L (.int b :: .int a :: rest) h Po := by
  obtain ⟨i, d, rfl, d3, d4, d5, d6, d7, d8⟩ := d
  intro p l e R s m args below meth c D aC ρ σ aV A H locs cells slots ls Q hX hH hL h1 h2 hr ht
  have hT := hX.2.2.2.2.2.1
  exact va_mmin hX.1 hX.2.1 (hX.2.2.2.1.trans hL.1.symm) hX.2.2.2.2.1 (hT _ d3) (hT _ d4) (hT _ d5) (hT _ d6) (Nat.le_trans d7 hX.2.2.2.2.2.2.2.1) (by rw [xl_cats]; have := hX.2.2.2.2.2.2.2.2.1; omega) (by omega) (by omega) d (kk p l e R s m args below meth c D aC ρ σ aV A H locs cells slots ls Q hX hH hL h1 h2 hr ht)
def xl_Cy (M : XI) (pc pc2 : Nat) : Prop := ∃ i, decode M.2.1 pc = .ok (.invokestatic i, 3) ∧ pc + 3 = pc2 ∧ Cond.methodLink M.1.cls i arraycopyName ∈ xl_T ∧ Cond.native arraycopyName ∈ xl_T ∧ Cond.static arraycopyName ∈ xl_T ∧ Cond.initialized "java/lang/System" ∈ xl_T ∧ 1 ≤ M.2.2.2.2.1 ∧ 31 ≤ M.2.2.2.2.2.1
theorem xl_copy {r0 r1 n0 n1 : Nat} {f g : Nat → Int32} {sp dp n : Int32} (d : xl_Cy M pc pc2) (hh0 : xl_n h r0 = some (.inl (0, n0, .inl f))) (hh1 : xl_n h r1 = some (.inl (0, n1, .inl g))) (q1 : ¬ sp < 0) (q2 : ¬ dp < 0) (q3 : ¬ n < 0) (q4 : sp.toNatClampNeg + n.toNatClampNeg ≤ n0) (q5 : dp.toNatClampNeg + n.toNatClampNeg ≤ n1) (hw : (rest.map fun v => if xl_1 v = true then 1 else 2).sum ≤ 8)
    (kk : xl_W M rc rs pc2 L rest (xl_s h r1 (.inl (0, n1, .inl (va_cpy f g sp.toNatClampNeg dp.toNatClampNeg n.toNatClampNeg)))) Po) : xl_W M rc rs pc L (.int n :: .int dp :: .ref r1 :: .int sp :: .ref r0 :: rest) h Po := by
  obtain ⟨i, d, rfl, d3, d4, d5, d6, d7, d8⟩ := d
  intro p l e R s m args below meth c D aC ρ σ aV A H locs cells slots ls Q hX hH hL h1 h2 hr ht
  obtain ⟨hK, hP, hD, hS, hE, hA⟩ := id hH
  have hT := hX.2.2.2.2.2.1
  rw [xl_n_eq] at hh0 hh1
  have hlo : ((rest.map (xl_v ρ σ)).map fun v => v.category).sum + (nativeFrameWords "java/lang/System" "arraycopy" 5 + 11) ≤ R.locals := by
    have e : nativeFrameWords "java/lang/System" "arraycopy" 5 = 7 := by decide +kernel
    have := hX.2.2.2.2.2.2.2.2.1
    rw [xl_cats, e]
    omega
  refine va_copyi (ty := .int) hX.1 hX.2.1 (hX.2.2.2.1.trans hL.1.symm) hX.2.2.2.2.1 (hT _ d3) (hT _ d4) (hT _ d5) (hT _ d6) hK hP hD hS r0 r1 0 0 (xl_w_of hh0) (xl_w_of hh1) rfl rfl rfl q1 q2 q3 q4 q5 (fun _ _ => rfl) (Nat.le_trans d7 hX.2.2.2.2.2.2.2.1) hlo d (fun H1 locs1 hP1 hD1 hS1 => ?_)
  exact kk p l e R s m args below meth c D aC ρ σ aV A H1 locs1 cells slots ls Q hX ⟨hK, by rw [xl_w_s]; exact hP1, by rw [xl_w_s]; exact hD1, hS1, hE, hA⟩ hL h1 h2 hr ht
end XCD
end
-- 04.xk
section
/-! ===== calls by the number of arguments and the kind of answer: v.. of another object's method (its cells are a run of places from r on), t.. of a method of the same cells, s.. of a static one ===== -/
def xl_nr : Value → Bool := fun v => match v with
  | .ref _ => false
  | _ => true
theorem xl_nr_v {v : Value} (hv : xl_nr v = true) (ρ ρ' σ : Nat → Nat) : xl_v ρ σ v = xl_v ρ' σ v := by cases v <;> first | rfl | cases hv
theorem xl_nr_m {l : List Value} (hv : l.all xl_nr = true) (ρ ρ' σ : Nat → Nat) : l.map (xl_v ρ σ) = l.map (xl_v ρ' σ) :=
  List.map_congr_left (fun v h => xl_nr_v (List.all_eq_true.mp hv v h) ρ ρ' σ)
abbrev xl_CI (μ : XI) (As : List Value) (h : XH) (P : Int32 → XH → Prop) : Prop := xl_C μ 0 0 As h (fun v h' => ∃ y, v = some (.int y) ∧ P y h')
abbrev xl_CL (μ : XI) (As : List Value) (h : XH) (P : Int64 → XH → Prop) : Prop := xl_C μ 0 0 As h (fun v h' => ∃ y, v = some (.long y) ∧ P y h')
abbrev xl_CS (μ : XI) (As : List Value) (h : XH) (P : UInt32 → XH → Prop) : Prop := xl_C μ 0 0 As h (fun v h' => ∃ y, v = some (.float y) ∧ P y h')
abbrev xl_CV (μ : XI) (As : List Value) (h : XH) (P : XH → Prop) : Prop := xl_C μ 0 0 As h (fun v h' => v = none ∧ P h')
/-- read only -/
abbrev xl_RI (μ : XI) (As : List Value) (h : XH) (y : Int32) : Prop := xl_CI μ As h (fun z h' => z = y ∧ h' = h)
abbrev xl_RL (μ : XI) (As : List Value) (h : XH) (y : Int64) : Prop := xl_CL μ As h (fun z h' => z = y ∧ h' = h)
abbrev xl_RS (μ : XI) (As : List Value) (h : XH) (y : UInt32) : Prop := xl_CS μ As h (fun z h' => z = y ∧ h' = h)
section XCE
variable {M μ : XI} {rc rs pc pc2 : Nat} {L : List (Option Value)} {st rest : List Value} {h hl : XH} {Po : Option (Option Value) → XH → Prop} {Po' : Option Value → XH → Prop}
theorem xl_pi_add {r : Nat} (hh : (h.drop r).take hl.length = hl) : xl_pi (fun k => r + k) h hl := by
  refine ⟨fun i j _ _ e => Nat.add_left_cancel e, fun j hj => ?_⟩
  have e : h[r + j]? = hl[j]? := by
    conv => rhs; rw [← hh]
    rw [List.getElem?_take, if_pos hj, List.getElem?_drop]
  refine ⟨e, ?_⟩
  rw [List.getElem?_eq_getElem hj] at e
  exact (List.getElem?_eq_some_iff.mp e).1
theorem xl_back_add {r : Nat} {h' h1 : XH} (hh : (h.drop r).take hl.length = hl) (h0 : 0 < hl.length) (hl' : h'.length = hl.length) (hb : xl_back (fun k => r + k) hl.length h h' h1) : h1 = h.take r ++ (h' ++ h.drop (r + hl.length)) := by
  have hp := xl_pi_add hh
  have hr : r + (hl.length - 1) < h.length := (hp.2 (hl.length - 1) (by omega)).2
  apply List.ext_getElem?
  intro k
  have hrl : (h.take r).length = r := by rw [List.length_take]; omega
  by_cases h1k : k < r
  · rw [List.getElem?_append_left (by omega), List.getElem?_take, if_pos h1k]
    exact hb.2.2 k (fun j _ e => by simp only at e; omega)
  · rw [List.getElem?_append_right (by omega), hrl]
    by_cases h2k : k - r < hl.length
    · rw [List.getElem?_append_left (by omega)]
      have := hb.2.1 (k - r) h2k
      simp only at this
      rw [show r + (k - r) = k by omega] at this
      exact this
    · rw [List.getElem?_append_right (by omega), List.getElem?_drop, show r + hl.length + (k - r - h'.length) = k by omega]
      exact hb.2.2 k (fun j hj e => by simp only at e; omega)
theorem xl_back_id {r : Nat} {h1 : XH} {π : Nat → Nat} (hp : xl_pi π h hl) (hb : xl_back π hl.length h hl h1) : h1 = h := by
  apply List.ext_getElem?
  intro k
  by_cases hin : ∃ j, j < hl.length ∧ π j = k
  · obtain ⟨j, hj, rfl⟩ := hin
    rw [hb.2.1 j hj, (hp.2 j hj).1]
  · exact hb.2.2 k (fun j hj e => hin ⟨j, hj, e⟩)
theorem xl_back_all {h' h1 : XH} (hl' : h'.length = h.length) (hb : xl_back (fun k => k) h.length h h' h1) : h1 = h' := by
  apply List.ext_getElem?
  intro k
  by_cases hk : k < h.length
  · exact hb.2.1 k hk
  · rw [List.getElem?_eq_none (by rw [hb.1]; omega), List.getElem?_eq_none (by omega)]
theorem xl_pi_all : xl_pi (fun k => k) h h := ⟨fun i j _ _ e => e, fun j hj => ⟨rfl, hj⟩⟩
theorem xl_ok_all (j : Nat) (c : XE) : xl_ok (fun k => k) j c := fun _ _ _ => rfl
/-- another object's method, any arguments -/
theorem xl_vG {ci r : Nat} {fs : List Value} {As : List Value} (d : xl_Ca M pc μ pc2) (hv : xl_V μ) (hcl : ∃ T N, vwCl[ci]? = some (μ.1.cls, T, N)) (hh : xl_n h r = some (.inr (ci, fs))) (hst : st = As.reverse ++ .ref r :: rest) (hn : As.length = μ.2.2.2.2.2.2) (hw : (rest.map fun v => if xl_1 v = true then 1 else 2).sum ≤ 8) (hnr : As.all xl_nr = true)
    (hc : xl_C μ 0 0 (.ref 0 :: As) hl Po') (hcut : (h.drop r).take hl.length = hl) (h0 : 0 < hl.length) (hlen : ∀ v h', Po' v h' → h'.length = hl.length ∧ ∀ a, v ≠ some (.ref a))
    (kk : ∀ v h', Po' v h' → xl_W M rc rs pc2 L (v.toList ++ rest) (h.take r ++ (h' ++ h.drop (r + hl.length))) Po) : xl_W M rc rs pc L st h Po :=
  xl_callV (mc := 0) (ms := 0) (fun k => r + k) d hv hcl hh hst hn hw (fun ρ σ => by rw [List.map_cons, List.map_cons, xl_nr_m hnr ρ (fun k => ρ (r + k)) σ]; rfl) (xl_pi_add hcut) (fun j c _ => xl_ok_add r j c) hc (fun v h' p => ⟨(hlen v h' p).1, fun j c _ => xl_ok_add r j c, (hlen v h' p).2⟩) (fun v h' h1 p hb => by rw [xl_back_add hcut h0 (hlen v h' p).1 hb]; exact kk v h' p)
/-- the same, read only -/
theorem xl_vR {ci r : Nat} {fs : List Value} {As : List Value} {v0 : Option Value} (d : xl_Ca M pc μ pc2) (hv : xl_V μ) (hcl : ∃ T N, vwCl[ci]? = some (μ.1.cls, T, N)) (hh : xl_n h r = some (.inr (ci, fs))) (hst : st = As.reverse ++ .ref r :: rest) (hn : As.length = μ.2.2.2.2.2.2) (hw : (rest.map fun v => if xl_1 v = true then 1 else 2).sum ≤ 8) (hnr : As.all xl_nr = true)
    (hc : xl_C μ 0 0 (.ref 0 :: As) hl Po') (hcut : (h.drop r).take hl.length = hl) (hlen : ∀ v h', Po' v h' → v = v0 ∧ h' = hl) (hv0 : ∀ a, v0 ≠ some (.ref a)) (kk : xl_W M rc rs pc2 L (v0.toList ++ rest) h Po) : xl_W M rc rs pc L st h Po :=
  xl_callV (mc := 0) (ms := 0) (fun k => r + k) d hv hcl hh hst hn hw (fun ρ σ => by rw [List.map_cons, List.map_cons, xl_nr_m hnr ρ (fun k => ρ (r + k)) σ]; rfl) (xl_pi_add hcut) (fun j c _ => xl_ok_add r j c) hc (fun v h' p => ⟨by rw [(hlen v h' p).2], fun j c _ => xl_ok_add r j c, by rw [(hlen v h' p).1]; exact hv0⟩) (fun v h' h1 p hb => by
    obtain ⟨e1, e2⟩ := hlen v h' p
    subst e1; subst e2
    rw [xl_back_id (r := 0) (xl_pi_add hcut) hb]
    exact kk)
/-- a method of the same cells -/
theorem xl_tG {ci : Nat} {fs : List Value} {As : List Value} (d : xl_Ca M pc μ pc2) (hv : xl_V μ) (hcl : ∃ T N, vwCl[ci]? = some (μ.1.cls, T, N)) (hh : xl_n h 0 = some (.inr (ci, fs))) (hst : st = As.reverse ++ .ref 0 :: rest) (hn : As.length = μ.2.2.2.2.2.2) (hw : (rest.map fun v => if xl_1 v = true then 1 else 2).sum ≤ 8)
    (hc : xl_C μ 0 0 (.ref 0 :: As) h Po') (hlen : ∀ v h', Po' v h' → h'.length = h.length ∧ ∀ a, v ≠ some (.ref a))
    (kk : ∀ v h', Po' v h' → xl_W M rc rs pc2 L (v.toList ++ rest) h' Po) : xl_W M rc rs pc L st h Po :=
  xl_callV (mc := 0) (ms := 0) (fun k => k) d hv hcl hh hst hn hw (fun ρ σ => rfl) xl_pi_all (fun j c _ => xl_ok_all j c) hc (fun v h' p => ⟨(hlen v h' p).1, fun j c _ => xl_ok_all j c, (hlen v h' p).2⟩) (fun v h' h1 p hb => by rw [xl_back_all (hlen v h' p).1 hb]; exact kk v h' p)

theorem xl_vI0 {ci r : Nat} {fs : List Value} {y : Int32} (d : xl_Ca M pc μ pc2) (hv : xl_V μ) (hcl : ∃ T N, vwCl[ci]? = some (μ.1.cls, T, N)) (hc : xl_RI μ (.ref 0 :: []) hl y) (hh : xl_n h r = some (.inr (ci, fs))) (hcut : (h.drop r).take hl.length = hl) (hn : 0 = μ.2.2.2.2.2.2) (hnr : ([] : List Value).all xl_nr = true) (hw : (rest.map fun v => if xl_1 v = true then 1 else 2).sum ≤ 8) (kk : xl_W M rc rs pc2 L (.int y :: rest) h Po) : xl_W M rc rs pc L (.ref r :: rest) h Po :=
  xl_vR (As := []) (v0 := some (.int y)) d hv hcl hh rfl hn hw hnr hc hcut (fun v h' ⟨z, e1, e2, e3⟩ => ⟨by rw [e1, e2], e3⟩) (fun a e => by cases e) kk
theorem xl_tI0 {ci : Nat} {fs : List Value} {y : Int32} (d : xl_Ca M pc μ pc2) (hv : xl_V μ) (hcl : ∃ T N, vwCl[ci]? = some (μ.1.cls, T, N)) (hc : xl_RI μ (.ref 0 :: []) h y) (hh : xl_n h 0 = some (.inr (ci, fs))) (hn : 0 = μ.2.2.2.2.2.2) (hw : (rest.map fun v => if xl_1 v = true then 1 else 2).sum ≤ 8) (kk : xl_W M rc rs pc2 L (.int y :: rest) h Po) : xl_W M rc rs pc L (.ref 0 :: rest) h Po :=
  xl_tG (As := []) d hv hcl hh rfl hn hw hc (fun v h' ⟨z, e1, e2, e3⟩ => ⟨by rw [e3], by rw [e1]; intro a e; cases e⟩) (fun v h' ⟨z, e1, e2, e3⟩ => by subst e1; subst e2; subst e3; exact kk)
theorem xl_vL0 {ci r : Nat} {fs : List Value} {y : Int64} (d : xl_Ca M pc μ pc2) (hv : xl_V μ) (hcl : ∃ T N, vwCl[ci]? = some (μ.1.cls, T, N)) (hc : xl_RL μ (.ref 0 :: []) hl y) (hh : xl_n h r = some (.inr (ci, fs))) (hcut : (h.drop r).take hl.length = hl) (hn : 0 = μ.2.2.2.2.2.2) (hnr : ([] : List Value).all xl_nr = true) (hw : (rest.map fun v => if xl_1 v = true then 1 else 2).sum ≤ 8) (kk : xl_W M rc rs pc2 L (.long y :: rest) h Po) : xl_W M rc rs pc L (.ref r :: rest) h Po :=
  xl_vR (As := []) (v0 := some (.long y)) d hv hcl hh rfl hn hw hnr hc hcut (fun v h' ⟨z, e1, e2, e3⟩ => ⟨by rw [e1, e2], e3⟩) (fun a e => by cases e) kk
theorem xl_tL0 {ci : Nat} {fs : List Value} {y : Int64} (d : xl_Ca M pc μ pc2) (hv : xl_V μ) (hcl : ∃ T N, vwCl[ci]? = some (μ.1.cls, T, N)) (hc : xl_RL μ (.ref 0 :: []) h y) (hh : xl_n h 0 = some (.inr (ci, fs))) (hn : 0 = μ.2.2.2.2.2.2) (hw : (rest.map fun v => if xl_1 v = true then 1 else 2).sum ≤ 8) (kk : xl_W M rc rs pc2 L (.long y :: rest) h Po) : xl_W M rc rs pc L (.ref 0 :: rest) h Po :=
  xl_tG (As := []) d hv hcl hh rfl hn hw hc (fun v h' ⟨z, e1, e2, e3⟩ => ⟨by rw [e3], by rw [e1]; intro a e; cases e⟩) (fun v h' ⟨z, e1, e2, e3⟩ => by subst e1; subst e2; subst e3; exact kk)
theorem xl_vS0 {ci r : Nat} {fs : List Value} {y : UInt32} (d : xl_Ca M pc μ pc2) (hv : xl_V μ) (hcl : ∃ T N, vwCl[ci]? = some (μ.1.cls, T, N)) (hc : xl_RS μ (.ref 0 :: []) hl y) (hh : xl_n h r = some (.inr (ci, fs))) (hcut : (h.drop r).take hl.length = hl) (hn : 0 = μ.2.2.2.2.2.2) (hnr : ([] : List Value).all xl_nr = true) (hw : (rest.map fun v => if xl_1 v = true then 1 else 2).sum ≤ 8) (kk : xl_W M rc rs pc2 L (.float y :: rest) h Po) : xl_W M rc rs pc L (.ref r :: rest) h Po :=
  xl_vR (As := []) (v0 := some (.float y)) d hv hcl hh rfl hn hw hnr hc hcut (fun v h' ⟨z, e1, e2, e3⟩ => ⟨by rw [e1, e2], e3⟩) (fun a e => by cases e) kk
theorem xl_tS0 {ci : Nat} {fs : List Value} {y : UInt32} (d : xl_Ca M pc μ pc2) (hv : xl_V μ) (hcl : ∃ T N, vwCl[ci]? = some (μ.1.cls, T, N)) (hc : xl_RS μ (.ref 0 :: []) h y) (hh : xl_n h 0 = some (.inr (ci, fs))) (hn : 0 = μ.2.2.2.2.2.2) (hw : (rest.map fun v => if xl_1 v = true then 1 else 2).sum ≤ 8) (kk : xl_W M rc rs pc2 L (.float y :: rest) h Po) : xl_W M rc rs pc L (.ref 0 :: rest) h Po :=
  xl_tG (As := []) d hv hcl hh rfl hn hw hc (fun v h' ⟨z, e1, e2, e3⟩ => ⟨by rw [e3], by rw [e1]; intro a e; cases e⟩) (fun v h' ⟨z, e1, e2, e3⟩ => by subst e1; subst e2; subst e3; exact kk)
theorem xl_vGI0 {ci r : Nat} {fs : List Value} {P : Int32 → XH → Prop} (d : xl_Ca M pc μ pc2) (hv : xl_V μ) (hcl : ∃ T N, vwCl[ci]? = some (μ.1.cls, T, N)) (hc : xl_CI μ (.ref 0 :: []) hl P) (hh : xl_n h r = some (.inr (ci, fs))) (hcut : (h.drop r).take hl.length = hl) (h0 : 0 < hl.length) (hn : 0 = μ.2.2.2.2.2.2) (hnr : ([] : List Value).all xl_nr = true) (hw : (rest.map fun v => if xl_1 v = true then 1 else 2).sum ≤ 8) (hlen : ∀ y h', P y h' → h'.length = hl.length) (kk : ∀ y h', P y h' → xl_W M rc rs pc2 L (.int y :: rest) (h.take r ++ (h' ++ h.drop (r + hl.length))) Po) : xl_W M rc rs pc L (.ref r :: rest) h Po :=
  xl_vG (As := []) d hv hcl hh rfl hn hw hnr hc hcut h0 (fun v h' ⟨z, e1, e2⟩ => ⟨hlen z h' e2, by rw [e1]; intro a e; cases e⟩) (fun v h' ⟨z, e1, e2⟩ => by subst e1; exact kk z h' e2)
theorem xl_vGV0 {ci r : Nat} {fs : List Value} {P : XH → Prop} (d : xl_Ca M pc μ pc2) (hv : xl_V μ) (hcl : ∃ T N, vwCl[ci]? = some (μ.1.cls, T, N)) (hc : xl_CV μ (.ref 0 :: []) hl P) (hh : xl_n h r = some (.inr (ci, fs))) (hcut : (h.drop r).take hl.length = hl) (h0 : 0 < hl.length) (hn : 0 = μ.2.2.2.2.2.2) (hnr : ([] : List Value).all xl_nr = true) (hw : (rest.map fun v => if xl_1 v = true then 1 else 2).sum ≤ 8) (hlen : ∀ h', P h' → h'.length = hl.length) (kk : ∀ h', P h' → xl_W M rc rs pc2 L rest (h.take r ++ (h' ++ h.drop (r + hl.length))) Po) : xl_W M rc rs pc L (.ref r :: rest) h Po :=
  xl_vG (As := []) d hv hcl hh rfl hn hw hnr hc hcut h0 (fun v h' ⟨e1, e2⟩ => ⟨hlen h' e2, by rw [e1]; intro a e; cases e⟩) (fun v h' ⟨e1, e2⟩ => by subst e1; exact kk h' e2)
theorem xl_tGI0 {ci : Nat} {fs : List Value} {P : Int32 → XH → Prop} (d : xl_Ca M pc μ pc2) (hv : xl_V μ) (hcl : ∃ T N, vwCl[ci]? = some (μ.1.cls, T, N)) (hc : xl_CI μ (.ref 0 :: []) h P) (hh : xl_n h 0 = some (.inr (ci, fs))) (hn : 0 = μ.2.2.2.2.2.2) (hw : (rest.map fun v => if xl_1 v = true then 1 else 2).sum ≤ 8) (hlen : ∀ y h', P y h' → h'.length = h.length) (kk : ∀ y h', P y h' → xl_W M rc rs pc2 L (.int y :: rest) h' Po) : xl_W M rc rs pc L (.ref 0 :: rest) h Po :=
  xl_tG (As := []) d hv hcl hh rfl hn hw hc (fun v h' ⟨z, e1, e2⟩ => ⟨hlen z h' e2, by rw [e1]; intro a e; cases e⟩) (fun v h' ⟨z, e1, e2⟩ => by subst e1; exact kk z h' e2)
theorem xl_tGV0 {ci : Nat} {fs : List Value} {P : XH → Prop} (d : xl_Ca M pc μ pc2) (hv : xl_V μ) (hcl : ∃ T N, vwCl[ci]? = some (μ.1.cls, T, N)) (hc : xl_CV μ (.ref 0 :: []) h P) (hh : xl_n h 0 = some (.inr (ci, fs))) (hn : 0 = μ.2.2.2.2.2.2) (hw : (rest.map fun v => if xl_1 v = true then 1 else 2).sum ≤ 8) (hlen : ∀ h', P h' → h'.length = h.length) (kk : ∀ h', P h' → xl_W M rc rs pc2 L rest h' Po) : xl_W M rc rs pc L (.ref 0 :: rest) h Po :=
  xl_tG (As := []) d hv hcl hh rfl hn hw hc (fun v h' ⟨e1, e2⟩ => ⟨hlen h' e2, by rw [e1]; intro a e; cases e⟩) (fun v h' ⟨e1, e2⟩ => by subst e1; exact kk h' e2)
theorem xl_vI1 {ci r : Nat} {fs : List Value} {a0 : Value} {y : Int32} (d : xl_Ca M pc μ pc2) (hv : xl_V μ) (hcl : ∃ T N, vwCl[ci]? = some (μ.1.cls, T, N)) (hc : xl_RI μ (.ref 0 :: [a0]) hl y) (hh : xl_n h r = some (.inr (ci, fs))) (hcut : (h.drop r).take hl.length = hl) (hn : 1 = μ.2.2.2.2.2.2) (hnr : ([a0] : List Value).all xl_nr = true) (hw : (rest.map fun v => if xl_1 v = true then 1 else 2).sum ≤ 8) (kk : xl_W M rc rs pc2 L (.int y :: rest) h Po) : xl_W M rc rs pc L (a0 :: .ref r :: rest) h Po :=
  xl_vR (As := [a0]) (v0 := some (.int y)) d hv hcl hh rfl hn hw hnr hc hcut (fun v h' ⟨z, e1, e2, e3⟩ => ⟨by rw [e1, e2], e3⟩) (fun a e => by cases e) kk
theorem xl_tI1 {ci : Nat} {fs : List Value} {a0 : Value} {y : Int32} (d : xl_Ca M pc μ pc2) (hv : xl_V μ) (hcl : ∃ T N, vwCl[ci]? = some (μ.1.cls, T, N)) (hc : xl_RI μ (.ref 0 :: [a0]) h y) (hh : xl_n h 0 = some (.inr (ci, fs))) (hn : 1 = μ.2.2.2.2.2.2) (hw : (rest.map fun v => if xl_1 v = true then 1 else 2).sum ≤ 8) (kk : xl_W M rc rs pc2 L (.int y :: rest) h Po) : xl_W M rc rs pc L (a0 :: .ref 0 :: rest) h Po :=
  xl_tG (As := [a0]) d hv hcl hh rfl hn hw hc (fun v h' ⟨z, e1, e2, e3⟩ => ⟨by rw [e3], by rw [e1]; intro a e; cases e⟩) (fun v h' ⟨z, e1, e2, e3⟩ => by subst e1; subst e2; subst e3; exact kk)
theorem xl_vL1 {ci r : Nat} {fs : List Value} {a0 : Value} {y : Int64} (d : xl_Ca M pc μ pc2) (hv : xl_V μ) (hcl : ∃ T N, vwCl[ci]? = some (μ.1.cls, T, N)) (hc : xl_RL μ (.ref 0 :: [a0]) hl y) (hh : xl_n h r = some (.inr (ci, fs))) (hcut : (h.drop r).take hl.length = hl) (hn : 1 = μ.2.2.2.2.2.2) (hnr : ([a0] : List Value).all xl_nr = true) (hw : (rest.map fun v => if xl_1 v = true then 1 else 2).sum ≤ 8) (kk : xl_W M rc rs pc2 L (.long y :: rest) h Po) : xl_W M rc rs pc L (a0 :: .ref r :: rest) h Po :=
  xl_vR (As := [a0]) (v0 := some (.long y)) d hv hcl hh rfl hn hw hnr hc hcut (fun v h' ⟨z, e1, e2, e3⟩ => ⟨by rw [e1, e2], e3⟩) (fun a e => by cases e) kk
theorem xl_tL1 {ci : Nat} {fs : List Value} {a0 : Value} {y : Int64} (d : xl_Ca M pc μ pc2) (hv : xl_V μ) (hcl : ∃ T N, vwCl[ci]? = some (μ.1.cls, T, N)) (hc : xl_RL μ (.ref 0 :: [a0]) h y) (hh : xl_n h 0 = some (.inr (ci, fs))) (hn : 1 = μ.2.2.2.2.2.2) (hw : (rest.map fun v => if xl_1 v = true then 1 else 2).sum ≤ 8) (kk : xl_W M rc rs pc2 L (.long y :: rest) h Po) : xl_W M rc rs pc L (a0 :: .ref 0 :: rest) h Po :=
  xl_tG (As := [a0]) d hv hcl hh rfl hn hw hc (fun v h' ⟨z, e1, e2, e3⟩ => ⟨by rw [e3], by rw [e1]; intro a e; cases e⟩) (fun v h' ⟨z, e1, e2, e3⟩ => by subst e1; subst e2; subst e3; exact kk)
theorem xl_vS1 {ci r : Nat} {fs : List Value} {a0 : Value} {y : UInt32} (d : xl_Ca M pc μ pc2) (hv : xl_V μ) (hcl : ∃ T N, vwCl[ci]? = some (μ.1.cls, T, N)) (hc : xl_RS μ (.ref 0 :: [a0]) hl y) (hh : xl_n h r = some (.inr (ci, fs))) (hcut : (h.drop r).take hl.length = hl) (hn : 1 = μ.2.2.2.2.2.2) (hnr : ([a0] : List Value).all xl_nr = true) (hw : (rest.map fun v => if xl_1 v = true then 1 else 2).sum ≤ 8) (kk : xl_W M rc rs pc2 L (.float y :: rest) h Po) : xl_W M rc rs pc L (a0 :: .ref r :: rest) h Po :=
  xl_vR (As := [a0]) (v0 := some (.float y)) d hv hcl hh rfl hn hw hnr hc hcut (fun v h' ⟨z, e1, e2, e3⟩ => ⟨by rw [e1, e2], e3⟩) (fun a e => by cases e) kk
theorem xl_tS1 {ci : Nat} {fs : List Value} {a0 : Value} {y : UInt32} (d : xl_Ca M pc μ pc2) (hv : xl_V μ) (hcl : ∃ T N, vwCl[ci]? = some (μ.1.cls, T, N)) (hc : xl_RS μ (.ref 0 :: [a0]) h y) (hh : xl_n h 0 = some (.inr (ci, fs))) (hn : 1 = μ.2.2.2.2.2.2) (hw : (rest.map fun v => if xl_1 v = true then 1 else 2).sum ≤ 8) (kk : xl_W M rc rs pc2 L (.float y :: rest) h Po) : xl_W M rc rs pc L (a0 :: .ref 0 :: rest) h Po :=
  xl_tG (As := [a0]) d hv hcl hh rfl hn hw hc (fun v h' ⟨z, e1, e2, e3⟩ => ⟨by rw [e3], by rw [e1]; intro a e; cases e⟩) (fun v h' ⟨z, e1, e2, e3⟩ => by subst e1; subst e2; subst e3; exact kk)
theorem xl_vGI1 {ci r : Nat} {fs : List Value} {a0 : Value} {P : Int32 → XH → Prop} (d : xl_Ca M pc μ pc2) (hv : xl_V μ) (hcl : ∃ T N, vwCl[ci]? = some (μ.1.cls, T, N)) (hc : xl_CI μ (.ref 0 :: [a0]) hl P) (hh : xl_n h r = some (.inr (ci, fs))) (hcut : (h.drop r).take hl.length = hl) (h0 : 0 < hl.length) (hn : 1 = μ.2.2.2.2.2.2) (hnr : ([a0] : List Value).all xl_nr = true) (hw : (rest.map fun v => if xl_1 v = true then 1 else 2).sum ≤ 8) (hlen : ∀ y h', P y h' → h'.length = hl.length) (kk : ∀ y h', P y h' → xl_W M rc rs pc2 L (.int y :: rest) (h.take r ++ (h' ++ h.drop (r + hl.length))) Po) : xl_W M rc rs pc L (a0 :: .ref r :: rest) h Po :=
  xl_vG (As := [a0]) d hv hcl hh rfl hn hw hnr hc hcut h0 (fun v h' ⟨z, e1, e2⟩ => ⟨hlen z h' e2, by rw [e1]; intro a e; cases e⟩) (fun v h' ⟨z, e1, e2⟩ => by subst e1; exact kk z h' e2)
theorem xl_vGV1 {ci r : Nat} {fs : List Value} {a0 : Value} {P : XH → Prop} (d : xl_Ca M pc μ pc2) (hv : xl_V μ) (hcl : ∃ T N, vwCl[ci]? = some (μ.1.cls, T, N)) (hc : xl_CV μ (.ref 0 :: [a0]) hl P) (hh : xl_n h r = some (.inr (ci, fs))) (hcut : (h.drop r).take hl.length = hl) (h0 : 0 < hl.length) (hn : 1 = μ.2.2.2.2.2.2) (hnr : ([a0] : List Value).all xl_nr = true) (hw : (rest.map fun v => if xl_1 v = true then 1 else 2).sum ≤ 8) (hlen : ∀ h', P h' → h'.length = hl.length) (kk : ∀ h', P h' → xl_W M rc rs pc2 L rest (h.take r ++ (h' ++ h.drop (r + hl.length))) Po) : xl_W M rc rs pc L (a0 :: .ref r :: rest) h Po :=
  xl_vG (As := [a0]) d hv hcl hh rfl hn hw hnr hc hcut h0 (fun v h' ⟨e1, e2⟩ => ⟨hlen h' e2, by rw [e1]; intro a e; cases e⟩) (fun v h' ⟨e1, e2⟩ => by subst e1; exact kk h' e2)
theorem xl_tGI1 {ci : Nat} {fs : List Value} {a0 : Value} {P : Int32 → XH → Prop} (d : xl_Ca M pc μ pc2) (hv : xl_V μ) (hcl : ∃ T N, vwCl[ci]? = some (μ.1.cls, T, N)) (hc : xl_CI μ (.ref 0 :: [a0]) h P) (hh : xl_n h 0 = some (.inr (ci, fs))) (hn : 1 = μ.2.2.2.2.2.2) (hw : (rest.map fun v => if xl_1 v = true then 1 else 2).sum ≤ 8) (hlen : ∀ y h', P y h' → h'.length = h.length) (kk : ∀ y h', P y h' → xl_W M rc rs pc2 L (.int y :: rest) h' Po) : xl_W M rc rs pc L (a0 :: .ref 0 :: rest) h Po :=
  xl_tG (As := [a0]) d hv hcl hh rfl hn hw hc (fun v h' ⟨z, e1, e2⟩ => ⟨hlen z h' e2, by rw [e1]; intro a e; cases e⟩) (fun v h' ⟨z, e1, e2⟩ => by subst e1; exact kk z h' e2)
theorem xl_tGV1 {ci : Nat} {fs : List Value} {a0 : Value} {P : XH → Prop} (d : xl_Ca M pc μ pc2) (hv : xl_V μ) (hcl : ∃ T N, vwCl[ci]? = some (μ.1.cls, T, N)) (hc : xl_CV μ (.ref 0 :: [a0]) h P) (hh : xl_n h 0 = some (.inr (ci, fs))) (hn : 1 = μ.2.2.2.2.2.2) (hw : (rest.map fun v => if xl_1 v = true then 1 else 2).sum ≤ 8) (hlen : ∀ h', P h' → h'.length = h.length) (kk : ∀ h', P h' → xl_W M rc rs pc2 L rest h' Po) : xl_W M rc rs pc L (a0 :: .ref 0 :: rest) h Po :=
  xl_tG (As := [a0]) d hv hcl hh rfl hn hw hc (fun v h' ⟨e1, e2⟩ => ⟨hlen h' e2, by rw [e1]; intro a e; cases e⟩) (fun v h' ⟨e1, e2⟩ => by subst e1; exact kk h' e2)
theorem xl_vI2 {ci r : Nat} {fs : List Value} {a0 a1 : Value} {y : Int32} (d : xl_Ca M pc μ pc2) (hv : xl_V μ) (hcl : ∃ T N, vwCl[ci]? = some (μ.1.cls, T, N)) (hc : xl_RI μ (.ref 0 :: [a0, a1]) hl y) (hh : xl_n h r = some (.inr (ci, fs))) (hcut : (h.drop r).take hl.length = hl) (hn : 2 = μ.2.2.2.2.2.2) (hnr : ([a0, a1] : List Value).all xl_nr = true) (hw : (rest.map fun v => if xl_1 v = true then 1 else 2).sum ≤ 8) (kk : xl_W M rc rs pc2 L (.int y :: rest) h Po) : xl_W M rc rs pc L (a1 :: a0 :: .ref r :: rest) h Po :=
  xl_vR (As := [a0, a1]) (v0 := some (.int y)) d hv hcl hh rfl hn hw hnr hc hcut (fun v h' ⟨z, e1, e2, e3⟩ => ⟨by rw [e1, e2], e3⟩) (fun a e => by cases e) kk
theorem xl_tI2 {ci : Nat} {fs : List Value} {a0 a1 : Value} {y : Int32} (d : xl_Ca M pc μ pc2) (hv : xl_V μ) (hcl : ∃ T N, vwCl[ci]? = some (μ.1.cls, T, N)) (hc : xl_RI μ (.ref 0 :: [a0, a1]) h y) (hh : xl_n h 0 = some (.inr (ci, fs))) (hn : 2 = μ.2.2.2.2.2.2) (hw : (rest.map fun v => if xl_1 v = true then 1 else 2).sum ≤ 8) (kk : xl_W M rc rs pc2 L (.int y :: rest) h Po) : xl_W M rc rs pc L (a1 :: a0 :: .ref 0 :: rest) h Po :=
  xl_tG (As := [a0, a1]) d hv hcl hh rfl hn hw hc (fun v h' ⟨z, e1, e2, e3⟩ => ⟨by rw [e3], by rw [e1]; intro a e; cases e⟩) (fun v h' ⟨z, e1, e2, e3⟩ => by subst e1; subst e2; subst e3; exact kk)
theorem xl_vL2 {ci r : Nat} {fs : List Value} {a0 a1 : Value} {y : Int64} (d : xl_Ca M pc μ pc2) (hv : xl_V μ) (hcl : ∃ T N, vwCl[ci]? = some (μ.1.cls, T, N)) (hc : xl_RL μ (.ref 0 :: [a0, a1]) hl y) (hh : xl_n h r = some (.inr (ci, fs))) (hcut : (h.drop r).take hl.length = hl) (hn : 2 = μ.2.2.2.2.2.2) (hnr : ([a0, a1] : List Value).all xl_nr = true) (hw : (rest.map fun v => if xl_1 v = true then 1 else 2).sum ≤ 8) (kk : xl_W M rc rs pc2 L (.long y :: rest) h Po) : xl_W M rc rs pc L (a1 :: a0 :: .ref r :: rest) h Po :=
  xl_vR (As := [a0, a1]) (v0 := some (.long y)) d hv hcl hh rfl hn hw hnr hc hcut (fun v h' ⟨z, e1, e2, e3⟩ => ⟨by rw [e1, e2], e3⟩) (fun a e => by cases e) kk
theorem xl_tL2 {ci : Nat} {fs : List Value} {a0 a1 : Value} {y : Int64} (d : xl_Ca M pc μ pc2) (hv : xl_V μ) (hcl : ∃ T N, vwCl[ci]? = some (μ.1.cls, T, N)) (hc : xl_RL μ (.ref 0 :: [a0, a1]) h y) (hh : xl_n h 0 = some (.inr (ci, fs))) (hn : 2 = μ.2.2.2.2.2.2) (hw : (rest.map fun v => if xl_1 v = true then 1 else 2).sum ≤ 8) (kk : xl_W M rc rs pc2 L (.long y :: rest) h Po) : xl_W M rc rs pc L (a1 :: a0 :: .ref 0 :: rest) h Po :=
  xl_tG (As := [a0, a1]) d hv hcl hh rfl hn hw hc (fun v h' ⟨z, e1, e2, e3⟩ => ⟨by rw [e3], by rw [e1]; intro a e; cases e⟩) (fun v h' ⟨z, e1, e2, e3⟩ => by subst e1; subst e2; subst e3; exact kk)
theorem xl_vS2 {ci r : Nat} {fs : List Value} {a0 a1 : Value} {y : UInt32} (d : xl_Ca M pc μ pc2) (hv : xl_V μ) (hcl : ∃ T N, vwCl[ci]? = some (μ.1.cls, T, N)) (hc : xl_RS μ (.ref 0 :: [a0, a1]) hl y) (hh : xl_n h r = some (.inr (ci, fs))) (hcut : (h.drop r).take hl.length = hl) (hn : 2 = μ.2.2.2.2.2.2) (hnr : ([a0, a1] : List Value).all xl_nr = true) (hw : (rest.map fun v => if xl_1 v = true then 1 else 2).sum ≤ 8) (kk : xl_W M rc rs pc2 L (.float y :: rest) h Po) : xl_W M rc rs pc L (a1 :: a0 :: .ref r :: rest) h Po :=
  xl_vR (As := [a0, a1]) (v0 := some (.float y)) d hv hcl hh rfl hn hw hnr hc hcut (fun v h' ⟨z, e1, e2, e3⟩ => ⟨by rw [e1, e2], e3⟩) (fun a e => by cases e) kk
theorem xl_tS2 {ci : Nat} {fs : List Value} {a0 a1 : Value} {y : UInt32} (d : xl_Ca M pc μ pc2) (hv : xl_V μ) (hcl : ∃ T N, vwCl[ci]? = some (μ.1.cls, T, N)) (hc : xl_RS μ (.ref 0 :: [a0, a1]) h y) (hh : xl_n h 0 = some (.inr (ci, fs))) (hn : 2 = μ.2.2.2.2.2.2) (hw : (rest.map fun v => if xl_1 v = true then 1 else 2).sum ≤ 8) (kk : xl_W M rc rs pc2 L (.float y :: rest) h Po) : xl_W M rc rs pc L (a1 :: a0 :: .ref 0 :: rest) h Po :=
  xl_tG (As := [a0, a1]) d hv hcl hh rfl hn hw hc (fun v h' ⟨z, e1, e2, e3⟩ => ⟨by rw [e3], by rw [e1]; intro a e; cases e⟩) (fun v h' ⟨z, e1, e2, e3⟩ => by subst e1; subst e2; subst e3; exact kk)
theorem xl_vGI2 {ci r : Nat} {fs : List Value} {a0 a1 : Value} {P : Int32 → XH → Prop} (d : xl_Ca M pc μ pc2) (hv : xl_V μ) (hcl : ∃ T N, vwCl[ci]? = some (μ.1.cls, T, N)) (hc : xl_CI μ (.ref 0 :: [a0, a1]) hl P) (hh : xl_n h r = some (.inr (ci, fs))) (hcut : (h.drop r).take hl.length = hl) (h0 : 0 < hl.length) (hn : 2 = μ.2.2.2.2.2.2) (hnr : ([a0, a1] : List Value).all xl_nr = true) (hw : (rest.map fun v => if xl_1 v = true then 1 else 2).sum ≤ 8) (hlen : ∀ y h', P y h' → h'.length = hl.length) (kk : ∀ y h', P y h' → xl_W M rc rs pc2 L (.int y :: rest) (h.take r ++ (h' ++ h.drop (r + hl.length))) Po) : xl_W M rc rs pc L (a1 :: a0 :: .ref r :: rest) h Po :=
  xl_vG (As := [a0, a1]) d hv hcl hh rfl hn hw hnr hc hcut h0 (fun v h' ⟨z, e1, e2⟩ => ⟨hlen z h' e2, by rw [e1]; intro a e; cases e⟩) (fun v h' ⟨z, e1, e2⟩ => by subst e1; exact kk z h' e2)
theorem xl_vGV2 {ci r : Nat} {fs : List Value} {a0 a1 : Value} {P : XH → Prop} (d : xl_Ca M pc μ pc2) (hv : xl_V μ) (hcl : ∃ T N, vwCl[ci]? = some (μ.1.cls, T, N)) (hc : xl_CV μ (.ref 0 :: [a0, a1]) hl P) (hh : xl_n h r = some (.inr (ci, fs))) (hcut : (h.drop r).take hl.length = hl) (h0 : 0 < hl.length) (hn : 2 = μ.2.2.2.2.2.2) (hnr : ([a0, a1] : List Value).all xl_nr = true) (hw : (rest.map fun v => if xl_1 v = true then 1 else 2).sum ≤ 8) (hlen : ∀ h', P h' → h'.length = hl.length) (kk : ∀ h', P h' → xl_W M rc rs pc2 L rest (h.take r ++ (h' ++ h.drop (r + hl.length))) Po) : xl_W M rc rs pc L (a1 :: a0 :: .ref r :: rest) h Po :=
  xl_vG (As := [a0, a1]) d hv hcl hh rfl hn hw hnr hc hcut h0 (fun v h' ⟨e1, e2⟩ => ⟨hlen h' e2, by rw [e1]; intro a e; cases e⟩) (fun v h' ⟨e1, e2⟩ => by subst e1; exact kk h' e2)
theorem xl_tGI2 {ci : Nat} {fs : List Value} {a0 a1 : Value} {P : Int32 → XH → Prop} (d : xl_Ca M pc μ pc2) (hv : xl_V μ) (hcl : ∃ T N, vwCl[ci]? = some (μ.1.cls, T, N)) (hc : xl_CI μ (.ref 0 :: [a0, a1]) h P) (hh : xl_n h 0 = some (.inr (ci, fs))) (hn : 2 = μ.2.2.2.2.2.2) (hw : (rest.map fun v => if xl_1 v = true then 1 else 2).sum ≤ 8) (hlen : ∀ y h', P y h' → h'.length = h.length) (kk : ∀ y h', P y h' → xl_W M rc rs pc2 L (.int y :: rest) h' Po) : xl_W M rc rs pc L (a1 :: a0 :: .ref 0 :: rest) h Po :=
  xl_tG (As := [a0, a1]) d hv hcl hh rfl hn hw hc (fun v h' ⟨z, e1, e2⟩ => ⟨hlen z h' e2, by rw [e1]; intro a e; cases e⟩) (fun v h' ⟨z, e1, e2⟩ => by subst e1; exact kk z h' e2)
theorem xl_tGV2 {ci : Nat} {fs : List Value} {a0 a1 : Value} {P : XH → Prop} (d : xl_Ca M pc μ pc2) (hv : xl_V μ) (hcl : ∃ T N, vwCl[ci]? = some (μ.1.cls, T, N)) (hc : xl_CV μ (.ref 0 :: [a0, a1]) h P) (hh : xl_n h 0 = some (.inr (ci, fs))) (hn : 2 = μ.2.2.2.2.2.2) (hw : (rest.map fun v => if xl_1 v = true then 1 else 2).sum ≤ 8) (hlen : ∀ h', P h' → h'.length = h.length) (kk : ∀ h', P h' → xl_W M rc rs pc2 L rest h' Po) : xl_W M rc rs pc L (a1 :: a0 :: .ref 0 :: rest) h Po :=
  xl_tG (As := [a0, a1]) d hv hcl hh rfl hn hw hc (fun v h' ⟨e1, e2⟩ => ⟨hlen h' e2, by rw [e1]; intro a e; cases e⟩) (fun v h' ⟨e1, e2⟩ => by subst e1; exact kk h' e2)
theorem xl_vI3 {ci r : Nat} {fs : List Value} {a0 a1 a2 : Value} {y : Int32} (d : xl_Ca M pc μ pc2) (hv : xl_V μ) (hcl : ∃ T N, vwCl[ci]? = some (μ.1.cls, T, N)) (hc : xl_RI μ (.ref 0 :: [a0, a1, a2]) hl y) (hh : xl_n h r = some (.inr (ci, fs))) (hcut : (h.drop r).take hl.length = hl) (hn : 3 = μ.2.2.2.2.2.2) (hnr : ([a0, a1, a2] : List Value).all xl_nr = true) (hw : (rest.map fun v => if xl_1 v = true then 1 else 2).sum ≤ 8) (kk : xl_W M rc rs pc2 L (.int y :: rest) h Po) : xl_W M rc rs pc L (a2 :: a1 :: a0 :: .ref r :: rest) h Po :=
  xl_vR (As := [a0, a1, a2]) (v0 := some (.int y)) d hv hcl hh rfl hn hw hnr hc hcut (fun v h' ⟨z, e1, e2, e3⟩ => ⟨by rw [e1, e2], e3⟩) (fun a e => by cases e) kk
theorem xl_tI3 {ci : Nat} {fs : List Value} {a0 a1 a2 : Value} {y : Int32} (d : xl_Ca M pc μ pc2) (hv : xl_V μ) (hcl : ∃ T N, vwCl[ci]? = some (μ.1.cls, T, N)) (hc : xl_RI μ (.ref 0 :: [a0, a1, a2]) h y) (hh : xl_n h 0 = some (.inr (ci, fs))) (hn : 3 = μ.2.2.2.2.2.2) (hw : (rest.map fun v => if xl_1 v = true then 1 else 2).sum ≤ 8) (kk : xl_W M rc rs pc2 L (.int y :: rest) h Po) : xl_W M rc rs pc L (a2 :: a1 :: a0 :: .ref 0 :: rest) h Po :=
  xl_tG (As := [a0, a1, a2]) d hv hcl hh rfl hn hw hc (fun v h' ⟨z, e1, e2, e3⟩ => ⟨by rw [e3], by rw [e1]; intro a e; cases e⟩) (fun v h' ⟨z, e1, e2, e3⟩ => by subst e1; subst e2; subst e3; exact kk)
theorem xl_vGI3 {ci r : Nat} {fs : List Value} {a0 a1 a2 : Value} {P : Int32 → XH → Prop} (d : xl_Ca M pc μ pc2) (hv : xl_V μ) (hcl : ∃ T N, vwCl[ci]? = some (μ.1.cls, T, N)) (hc : xl_CI μ (.ref 0 :: [a0, a1, a2]) hl P) (hh : xl_n h r = some (.inr (ci, fs))) (hcut : (h.drop r).take hl.length = hl) (h0 : 0 < hl.length) (hn : 3 = μ.2.2.2.2.2.2) (hnr : ([a0, a1, a2] : List Value).all xl_nr = true) (hw : (rest.map fun v => if xl_1 v = true then 1 else 2).sum ≤ 8) (hlen : ∀ y h', P y h' → h'.length = hl.length) (kk : ∀ y h', P y h' → xl_W M rc rs pc2 L (.int y :: rest) (h.take r ++ (h' ++ h.drop (r + hl.length))) Po) : xl_W M rc rs pc L (a2 :: a1 :: a0 :: .ref r :: rest) h Po :=
  xl_vG (As := [a0, a1, a2]) d hv hcl hh rfl hn hw hnr hc hcut h0 (fun v h' ⟨z, e1, e2⟩ => ⟨hlen z h' e2, by rw [e1]; intro a e; cases e⟩) (fun v h' ⟨z, e1, e2⟩ => by subst e1; exact kk z h' e2)
theorem xl_vGV3 {ci r : Nat} {fs : List Value} {a0 a1 a2 : Value} {P : XH → Prop} (d : xl_Ca M pc μ pc2) (hv : xl_V μ) (hcl : ∃ T N, vwCl[ci]? = some (μ.1.cls, T, N)) (hc : xl_CV μ (.ref 0 :: [a0, a1, a2]) hl P) (hh : xl_n h r = some (.inr (ci, fs))) (hcut : (h.drop r).take hl.length = hl) (h0 : 0 < hl.length) (hn : 3 = μ.2.2.2.2.2.2) (hnr : ([a0, a1, a2] : List Value).all xl_nr = true) (hw : (rest.map fun v => if xl_1 v = true then 1 else 2).sum ≤ 8) (hlen : ∀ h', P h' → h'.length = hl.length) (kk : ∀ h', P h' → xl_W M rc rs pc2 L rest (h.take r ++ (h' ++ h.drop (r + hl.length))) Po) : xl_W M rc rs pc L (a2 :: a1 :: a0 :: .ref r :: rest) h Po :=
  xl_vG (As := [a0, a1, a2]) d hv hcl hh rfl hn hw hnr hc hcut h0 (fun v h' ⟨e1, e2⟩ => ⟨hlen h' e2, by rw [e1]; intro a e; cases e⟩) (fun v h' ⟨e1, e2⟩ => by subst e1; exact kk h' e2)
theorem xl_tGI3 {ci : Nat} {fs : List Value} {a0 a1 a2 : Value} {P : Int32 → XH → Prop} (d : xl_Ca M pc μ pc2) (hv : xl_V μ) (hcl : ∃ T N, vwCl[ci]? = some (μ.1.cls, T, N)) (hc : xl_CI μ (.ref 0 :: [a0, a1, a2]) h P) (hh : xl_n h 0 = some (.inr (ci, fs))) (hn : 3 = μ.2.2.2.2.2.2) (hw : (rest.map fun v => if xl_1 v = true then 1 else 2).sum ≤ 8) (hlen : ∀ y h', P y h' → h'.length = h.length) (kk : ∀ y h', P y h' → xl_W M rc rs pc2 L (.int y :: rest) h' Po) : xl_W M rc rs pc L (a2 :: a1 :: a0 :: .ref 0 :: rest) h Po :=
  xl_tG (As := [a0, a1, a2]) d hv hcl hh rfl hn hw hc (fun v h' ⟨z, e1, e2⟩ => ⟨hlen z h' e2, by rw [e1]; intro a e; cases e⟩) (fun v h' ⟨z, e1, e2⟩ => by subst e1; exact kk z h' e2)
theorem xl_tGV3 {ci : Nat} {fs : List Value} {a0 a1 a2 : Value} {P : XH → Prop} (d : xl_Ca M pc μ pc2) (hv : xl_V μ) (hcl : ∃ T N, vwCl[ci]? = some (μ.1.cls, T, N)) (hc : xl_CV μ (.ref 0 :: [a0, a1, a2]) h P) (hh : xl_n h 0 = some (.inr (ci, fs))) (hn : 3 = μ.2.2.2.2.2.2) (hw : (rest.map fun v => if xl_1 v = true then 1 else 2).sum ≤ 8) (hlen : ∀ h', P h' → h'.length = h.length) (kk : ∀ h', P h' → xl_W M rc rs pc2 L rest h' Po) : xl_W M rc rs pc L (a2 :: a1 :: a0 :: .ref 0 :: rest) h Po :=
  xl_tG (As := [a0, a1, a2]) d hv hcl hh rfl hn hw hc (fun v h' ⟨e1, e2⟩ => ⟨hlen h' e2, by rw [e1]; intro a e; cases e⟩) (fun v h' ⟨e1, e2⟩ => by subst e1; exact kk h' e2)
theorem xl_vI4 {ci r : Nat} {fs : List Value} {a0 a1 a2 a3 : Value} {y : Int32} (d : xl_Ca M pc μ pc2) (hv : xl_V μ) (hcl : ∃ T N, vwCl[ci]? = some (μ.1.cls, T, N)) (hc : xl_RI μ (.ref 0 :: [a0, a1, a2, a3]) hl y) (hh : xl_n h r = some (.inr (ci, fs))) (hcut : (h.drop r).take hl.length = hl) (hn : 4 = μ.2.2.2.2.2.2) (hnr : ([a0, a1, a2, a3] : List Value).all xl_nr = true) (hw : (rest.map fun v => if xl_1 v = true then 1 else 2).sum ≤ 8) (kk : xl_W M rc rs pc2 L (.int y :: rest) h Po) : xl_W M rc rs pc L (a3 :: a2 :: a1 :: a0 :: .ref r :: rest) h Po :=
  xl_vR (As := [a0, a1, a2, a3]) (v0 := some (.int y)) d hv hcl hh rfl hn hw hnr hc hcut (fun v h' ⟨z, e1, e2, e3⟩ => ⟨by rw [e1, e2], e3⟩) (fun a e => by cases e) kk
theorem xl_tI4 {ci : Nat} {fs : List Value} {a0 a1 a2 a3 : Value} {y : Int32} (d : xl_Ca M pc μ pc2) (hv : xl_V μ) (hcl : ∃ T N, vwCl[ci]? = some (μ.1.cls, T, N)) (hc : xl_RI μ (.ref 0 :: [a0, a1, a2, a3]) h y) (hh : xl_n h 0 = some (.inr (ci, fs))) (hn : 4 = μ.2.2.2.2.2.2) (hw : (rest.map fun v => if xl_1 v = true then 1 else 2).sum ≤ 8) (kk : xl_W M rc rs pc2 L (.int y :: rest) h Po) : xl_W M rc rs pc L (a3 :: a2 :: a1 :: a0 :: .ref 0 :: rest) h Po :=
  xl_tG (As := [a0, a1, a2, a3]) d hv hcl hh rfl hn hw hc (fun v h' ⟨z, e1, e2, e3⟩ => ⟨by rw [e3], by rw [e1]; intro a e; cases e⟩) (fun v h' ⟨z, e1, e2, e3⟩ => by subst e1; subst e2; subst e3; exact kk)
theorem xl_vGI4 {ci r : Nat} {fs : List Value} {a0 a1 a2 a3 : Value} {P : Int32 → XH → Prop} (d : xl_Ca M pc μ pc2) (hv : xl_V μ) (hcl : ∃ T N, vwCl[ci]? = some (μ.1.cls, T, N)) (hc : xl_CI μ (.ref 0 :: [a0, a1, a2, a3]) hl P) (hh : xl_n h r = some (.inr (ci, fs))) (hcut : (h.drop r).take hl.length = hl) (h0 : 0 < hl.length) (hn : 4 = μ.2.2.2.2.2.2) (hnr : ([a0, a1, a2, a3] : List Value).all xl_nr = true) (hw : (rest.map fun v => if xl_1 v = true then 1 else 2).sum ≤ 8) (hlen : ∀ y h', P y h' → h'.length = hl.length) (kk : ∀ y h', P y h' → xl_W M rc rs pc2 L (.int y :: rest) (h.take r ++ (h' ++ h.drop (r + hl.length))) Po) : xl_W M rc rs pc L (a3 :: a2 :: a1 :: a0 :: .ref r :: rest) h Po :=
  xl_vG (As := [a0, a1, a2, a3]) d hv hcl hh rfl hn hw hnr hc hcut h0 (fun v h' ⟨z, e1, e2⟩ => ⟨hlen z h' e2, by rw [e1]; intro a e; cases e⟩) (fun v h' ⟨z, e1, e2⟩ => by subst e1; exact kk z h' e2)
theorem xl_vGV4 {ci r : Nat} {fs : List Value} {a0 a1 a2 a3 : Value} {P : XH → Prop} (d : xl_Ca M pc μ pc2) (hv : xl_V μ) (hcl : ∃ T N, vwCl[ci]? = some (μ.1.cls, T, N)) (hc : xl_CV μ (.ref 0 :: [a0, a1, a2, a3]) hl P) (hh : xl_n h r = some (.inr (ci, fs))) (hcut : (h.drop r).take hl.length = hl) (h0 : 0 < hl.length) (hn : 4 = μ.2.2.2.2.2.2) (hnr : ([a0, a1, a2, a3] : List Value).all xl_nr = true) (hw : (rest.map fun v => if xl_1 v = true then 1 else 2).sum ≤ 8) (hlen : ∀ h', P h' → h'.length = hl.length) (kk : ∀ h', P h' → xl_W M rc rs pc2 L rest (h.take r ++ (h' ++ h.drop (r + hl.length))) Po) : xl_W M rc rs pc L (a3 :: a2 :: a1 :: a0 :: .ref r :: rest) h Po :=
  xl_vG (As := [a0, a1, a2, a3]) d hv hcl hh rfl hn hw hnr hc hcut h0 (fun v h' ⟨e1, e2⟩ => ⟨hlen h' e2, by rw [e1]; intro a e; cases e⟩) (fun v h' ⟨e1, e2⟩ => by subst e1; exact kk h' e2)
theorem xl_tGI4 {ci : Nat} {fs : List Value} {a0 a1 a2 a3 : Value} {P : Int32 → XH → Prop} (d : xl_Ca M pc μ pc2) (hv : xl_V μ) (hcl : ∃ T N, vwCl[ci]? = some (μ.1.cls, T, N)) (hc : xl_CI μ (.ref 0 :: [a0, a1, a2, a3]) h P) (hh : xl_n h 0 = some (.inr (ci, fs))) (hn : 4 = μ.2.2.2.2.2.2) (hw : (rest.map fun v => if xl_1 v = true then 1 else 2).sum ≤ 8) (hlen : ∀ y h', P y h' → h'.length = h.length) (kk : ∀ y h', P y h' → xl_W M rc rs pc2 L (.int y :: rest) h' Po) : xl_W M rc rs pc L (a3 :: a2 :: a1 :: a0 :: .ref 0 :: rest) h Po :=
  xl_tG (As := [a0, a1, a2, a3]) d hv hcl hh rfl hn hw hc (fun v h' ⟨z, e1, e2⟩ => ⟨hlen z h' e2, by rw [e1]; intro a e; cases e⟩) (fun v h' ⟨z, e1, e2⟩ => by subst e1; exact kk z h' e2)
theorem xl_tGV4 {ci : Nat} {fs : List Value} {a0 a1 a2 a3 : Value} {P : XH → Prop} (d : xl_Ca M pc μ pc2) (hv : xl_V μ) (hcl : ∃ T N, vwCl[ci]? = some (μ.1.cls, T, N)) (hc : xl_CV μ (.ref 0 :: [a0, a1, a2, a3]) h P) (hh : xl_n h 0 = some (.inr (ci, fs))) (hn : 4 = μ.2.2.2.2.2.2) (hw : (rest.map fun v => if xl_1 v = true then 1 else 2).sum ≤ 8) (hlen : ∀ h', P h' → h'.length = h.length) (kk : ∀ h', P h' → xl_W M rc rs pc2 L rest h' Po) : xl_W M rc rs pc L (a3 :: a2 :: a1 :: a0 :: .ref 0 :: rest) h Po :=
  xl_tG (As := [a0, a1, a2, a3]) d hv hcl hh rfl hn hw hc (fun v h' ⟨e1, e2⟩ => ⟨hlen h' e2, by rw [e1]; intro a e; cases e⟩) (fun v h' ⟨e1, e2⟩ => by subst e1; exact kk h' e2)
theorem xl_vI5 {ci r : Nat} {fs : List Value} {a0 a1 a2 a3 a4 : Value} {y : Int32} (d : xl_Ca M pc μ pc2) (hv : xl_V μ) (hcl : ∃ T N, vwCl[ci]? = some (μ.1.cls, T, N)) (hc : xl_RI μ (.ref 0 :: [a0, a1, a2, a3, a4]) hl y) (hh : xl_n h r = some (.inr (ci, fs))) (hcut : (h.drop r).take hl.length = hl) (hn : 5 = μ.2.2.2.2.2.2) (hnr : ([a0, a1, a2, a3, a4] : List Value).all xl_nr = true) (hw : (rest.map fun v => if xl_1 v = true then 1 else 2).sum ≤ 8) (kk : xl_W M rc rs pc2 L (.int y :: rest) h Po) : xl_W M rc rs pc L (a4 :: a3 :: a2 :: a1 :: a0 :: .ref r :: rest) h Po :=
  xl_vR (As := [a0, a1, a2, a3, a4]) (v0 := some (.int y)) d hv hcl hh rfl hn hw hnr hc hcut (fun v h' ⟨z, e1, e2, e3⟩ => ⟨by rw [e1, e2], e3⟩) (fun a e => by cases e) kk
theorem xl_tI5 {ci : Nat} {fs : List Value} {a0 a1 a2 a3 a4 : Value} {y : Int32} (d : xl_Ca M pc μ pc2) (hv : xl_V μ) (hcl : ∃ T N, vwCl[ci]? = some (μ.1.cls, T, N)) (hc : xl_RI μ (.ref 0 :: [a0, a1, a2, a3, a4]) h y) (hh : xl_n h 0 = some (.inr (ci, fs))) (hn : 5 = μ.2.2.2.2.2.2) (hw : (rest.map fun v => if xl_1 v = true then 1 else 2).sum ≤ 8) (kk : xl_W M rc rs pc2 L (.int y :: rest) h Po) : xl_W M rc rs pc L (a4 :: a3 :: a2 :: a1 :: a0 :: .ref 0 :: rest) h Po :=
  xl_tG (As := [a0, a1, a2, a3, a4]) d hv hcl hh rfl hn hw hc (fun v h' ⟨z, e1, e2, e3⟩ => ⟨by rw [e3], by rw [e1]; intro a e; cases e⟩) (fun v h' ⟨z, e1, e2, e3⟩ => by subst e1; subst e2; subst e3; exact kk)
theorem xl_vGI5 {ci r : Nat} {fs : List Value} {a0 a1 a2 a3 a4 : Value} {P : Int32 → XH → Prop} (d : xl_Ca M pc μ pc2) (hv : xl_V μ) (hcl : ∃ T N, vwCl[ci]? = some (μ.1.cls, T, N)) (hc : xl_CI μ (.ref 0 :: [a0, a1, a2, a3, a4]) hl P) (hh : xl_n h r = some (.inr (ci, fs))) (hcut : (h.drop r).take hl.length = hl) (h0 : 0 < hl.length) (hn : 5 = μ.2.2.2.2.2.2) (hnr : ([a0, a1, a2, a3, a4] : List Value).all xl_nr = true) (hw : (rest.map fun v => if xl_1 v = true then 1 else 2).sum ≤ 8) (hlen : ∀ y h', P y h' → h'.length = hl.length) (kk : ∀ y h', P y h' → xl_W M rc rs pc2 L (.int y :: rest) (h.take r ++ (h' ++ h.drop (r + hl.length))) Po) : xl_W M rc rs pc L (a4 :: a3 :: a2 :: a1 :: a0 :: .ref r :: rest) h Po :=
  xl_vG (As := [a0, a1, a2, a3, a4]) d hv hcl hh rfl hn hw hnr hc hcut h0 (fun v h' ⟨z, e1, e2⟩ => ⟨hlen z h' e2, by rw [e1]; intro a e; cases e⟩) (fun v h' ⟨z, e1, e2⟩ => by subst e1; exact kk z h' e2)
theorem xl_vGV5 {ci r : Nat} {fs : List Value} {a0 a1 a2 a3 a4 : Value} {P : XH → Prop} (d : xl_Ca M pc μ pc2) (hv : xl_V μ) (hcl : ∃ T N, vwCl[ci]? = some (μ.1.cls, T, N)) (hc : xl_CV μ (.ref 0 :: [a0, a1, a2, a3, a4]) hl P) (hh : xl_n h r = some (.inr (ci, fs))) (hcut : (h.drop r).take hl.length = hl) (h0 : 0 < hl.length) (hn : 5 = μ.2.2.2.2.2.2) (hnr : ([a0, a1, a2, a3, a4] : List Value).all xl_nr = true) (hw : (rest.map fun v => if xl_1 v = true then 1 else 2).sum ≤ 8) (hlen : ∀ h', P h' → h'.length = hl.length) (kk : ∀ h', P h' → xl_W M rc rs pc2 L rest (h.take r ++ (h' ++ h.drop (r + hl.length))) Po) : xl_W M rc rs pc L (a4 :: a3 :: a2 :: a1 :: a0 :: .ref r :: rest) h Po :=
  xl_vG (As := [a0, a1, a2, a3, a4]) d hv hcl hh rfl hn hw hnr hc hcut h0 (fun v h' ⟨e1, e2⟩ => ⟨hlen h' e2, by rw [e1]; intro a e; cases e⟩) (fun v h' ⟨e1, e2⟩ => by subst e1; exact kk h' e2)
theorem xl_tGI5 {ci : Nat} {fs : List Value} {a0 a1 a2 a3 a4 : Value} {P : Int32 → XH → Prop} (d : xl_Ca M pc μ pc2) (hv : xl_V μ) (hcl : ∃ T N, vwCl[ci]? = some (μ.1.cls, T, N)) (hc : xl_CI μ (.ref 0 :: [a0, a1, a2, a3, a4]) h P) (hh : xl_n h 0 = some (.inr (ci, fs))) (hn : 5 = μ.2.2.2.2.2.2) (hw : (rest.map fun v => if xl_1 v = true then 1 else 2).sum ≤ 8) (hlen : ∀ y h', P y h' → h'.length = h.length) (kk : ∀ y h', P y h' → xl_W M rc rs pc2 L (.int y :: rest) h' Po) : xl_W M rc rs pc L (a4 :: a3 :: a2 :: a1 :: a0 :: .ref 0 :: rest) h Po :=
  xl_tG (As := [a0, a1, a2, a3, a4]) d hv hcl hh rfl hn hw hc (fun v h' ⟨z, e1, e2⟩ => ⟨hlen z h' e2, by rw [e1]; intro a e; cases e⟩) (fun v h' ⟨z, e1, e2⟩ => by subst e1; exact kk z h' e2)
theorem xl_tGV5 {ci : Nat} {fs : List Value} {a0 a1 a2 a3 a4 : Value} {P : XH → Prop} (d : xl_Ca M pc μ pc2) (hv : xl_V μ) (hcl : ∃ T N, vwCl[ci]? = some (μ.1.cls, T, N)) (hc : xl_CV μ (.ref 0 :: [a0, a1, a2, a3, a4]) h P) (hh : xl_n h 0 = some (.inr (ci, fs))) (hn : 5 = μ.2.2.2.2.2.2) (hw : (rest.map fun v => if xl_1 v = true then 1 else 2).sum ≤ 8) (hlen : ∀ h', P h' → h'.length = h.length) (kk : ∀ h', P h' → xl_W M rc rs pc2 L rest h' Po) : xl_W M rc rs pc L (a4 :: a3 :: a2 :: a1 :: a0 :: .ref 0 :: rest) h Po :=
  xl_tG (As := [a0, a1, a2, a3, a4]) d hv hcl hh rfl hn hw hc (fun v h' ⟨e1, e2⟩ => ⟨hlen h' e2, by rw [e1]; intro a e; cases e⟩) (fun v h' ⟨e1, e2⟩ => by subst e1; exact kk h' e2)
theorem xl_vI6 {ci r : Nat} {fs : List Value} {a0 a1 a2 a3 a4 a5 : Value} {y : Int32} (d : xl_Ca M pc μ pc2) (hv : xl_V μ) (hcl : ∃ T N, vwCl[ci]? = some (μ.1.cls, T, N)) (hc : xl_RI μ (.ref 0 :: [a0, a1, a2, a3, a4, a5]) hl y) (hh : xl_n h r = some (.inr (ci, fs))) (hcut : (h.drop r).take hl.length = hl) (hn : 6 = μ.2.2.2.2.2.2) (hnr : ([a0, a1, a2, a3, a4, a5] : List Value).all xl_nr = true) (hw : (rest.map fun v => if xl_1 v = true then 1 else 2).sum ≤ 8) (kk : xl_W M rc rs pc2 L (.int y :: rest) h Po) : xl_W M rc rs pc L (a5 :: a4 :: a3 :: a2 :: a1 :: a0 :: .ref r :: rest) h Po :=
  xl_vR (As := [a0, a1, a2, a3, a4, a5]) (v0 := some (.int y)) d hv hcl hh rfl hn hw hnr hc hcut (fun v h' ⟨z, e1, e2, e3⟩ => ⟨by rw [e1, e2], e3⟩) (fun a e => by cases e) kk
theorem xl_tI6 {ci : Nat} {fs : List Value} {a0 a1 a2 a3 a4 a5 : Value} {y : Int32} (d : xl_Ca M pc μ pc2) (hv : xl_V μ) (hcl : ∃ T N, vwCl[ci]? = some (μ.1.cls, T, N)) (hc : xl_RI μ (.ref 0 :: [a0, a1, a2, a3, a4, a5]) h y) (hh : xl_n h 0 = some (.inr (ci, fs))) (hn : 6 = μ.2.2.2.2.2.2) (hw : (rest.map fun v => if xl_1 v = true then 1 else 2).sum ≤ 8) (kk : xl_W M rc rs pc2 L (.int y :: rest) h Po) : xl_W M rc rs pc L (a5 :: a4 :: a3 :: a2 :: a1 :: a0 :: .ref 0 :: rest) h Po :=
  xl_tG (As := [a0, a1, a2, a3, a4, a5]) d hv hcl hh rfl hn hw hc (fun v h' ⟨z, e1, e2, e3⟩ => ⟨by rw [e3], by rw [e1]; intro a e; cases e⟩) (fun v h' ⟨z, e1, e2, e3⟩ => by subst e1; subst e2; subst e3; exact kk)
theorem xl_vGI6 {ci r : Nat} {fs : List Value} {a0 a1 a2 a3 a4 a5 : Value} {P : Int32 → XH → Prop} (d : xl_Ca M pc μ pc2) (hv : xl_V μ) (hcl : ∃ T N, vwCl[ci]? = some (μ.1.cls, T, N)) (hc : xl_CI μ (.ref 0 :: [a0, a1, a2, a3, a4, a5]) hl P) (hh : xl_n h r = some (.inr (ci, fs))) (hcut : (h.drop r).take hl.length = hl) (h0 : 0 < hl.length) (hn : 6 = μ.2.2.2.2.2.2) (hnr : ([a0, a1, a2, a3, a4, a5] : List Value).all xl_nr = true) (hw : (rest.map fun v => if xl_1 v = true then 1 else 2).sum ≤ 8) (hlen : ∀ y h', P y h' → h'.length = hl.length) (kk : ∀ y h', P y h' → xl_W M rc rs pc2 L (.int y :: rest) (h.take r ++ (h' ++ h.drop (r + hl.length))) Po) : xl_W M rc rs pc L (a5 :: a4 :: a3 :: a2 :: a1 :: a0 :: .ref r :: rest) h Po :=
  xl_vG (As := [a0, a1, a2, a3, a4, a5]) d hv hcl hh rfl hn hw hnr hc hcut h0 (fun v h' ⟨z, e1, e2⟩ => ⟨hlen z h' e2, by rw [e1]; intro a e; cases e⟩) (fun v h' ⟨z, e1, e2⟩ => by subst e1; exact kk z h' e2)
theorem xl_vGV6 {ci r : Nat} {fs : List Value} {a0 a1 a2 a3 a4 a5 : Value} {P : XH → Prop} (d : xl_Ca M pc μ pc2) (hv : xl_V μ) (hcl : ∃ T N, vwCl[ci]? = some (μ.1.cls, T, N)) (hc : xl_CV μ (.ref 0 :: [a0, a1, a2, a3, a4, a5]) hl P) (hh : xl_n h r = some (.inr (ci, fs))) (hcut : (h.drop r).take hl.length = hl) (h0 : 0 < hl.length) (hn : 6 = μ.2.2.2.2.2.2) (hnr : ([a0, a1, a2, a3, a4, a5] : List Value).all xl_nr = true) (hw : (rest.map fun v => if xl_1 v = true then 1 else 2).sum ≤ 8) (hlen : ∀ h', P h' → h'.length = hl.length) (kk : ∀ h', P h' → xl_W M rc rs pc2 L rest (h.take r ++ (h' ++ h.drop (r + hl.length))) Po) : xl_W M rc rs pc L (a5 :: a4 :: a3 :: a2 :: a1 :: a0 :: .ref r :: rest) h Po :=
  xl_vG (As := [a0, a1, a2, a3, a4, a5]) d hv hcl hh rfl hn hw hnr hc hcut h0 (fun v h' ⟨e1, e2⟩ => ⟨hlen h' e2, by rw [e1]; intro a e; cases e⟩) (fun v h' ⟨e1, e2⟩ => by subst e1; exact kk h' e2)
theorem xl_tGI6 {ci : Nat} {fs : List Value} {a0 a1 a2 a3 a4 a5 : Value} {P : Int32 → XH → Prop} (d : xl_Ca M pc μ pc2) (hv : xl_V μ) (hcl : ∃ T N, vwCl[ci]? = some (μ.1.cls, T, N)) (hc : xl_CI μ (.ref 0 :: [a0, a1, a2, a3, a4, a5]) h P) (hh : xl_n h 0 = some (.inr (ci, fs))) (hn : 6 = μ.2.2.2.2.2.2) (hw : (rest.map fun v => if xl_1 v = true then 1 else 2).sum ≤ 8) (hlen : ∀ y h', P y h' → h'.length = h.length) (kk : ∀ y h', P y h' → xl_W M rc rs pc2 L (.int y :: rest) h' Po) : xl_W M rc rs pc L (a5 :: a4 :: a3 :: a2 :: a1 :: a0 :: .ref 0 :: rest) h Po :=
  xl_tG (As := [a0, a1, a2, a3, a4, a5]) d hv hcl hh rfl hn hw hc (fun v h' ⟨z, e1, e2⟩ => ⟨hlen z h' e2, by rw [e1]; intro a e; cases e⟩) (fun v h' ⟨z, e1, e2⟩ => by subst e1; exact kk z h' e2)
theorem xl_tGV6 {ci : Nat} {fs : List Value} {a0 a1 a2 a3 a4 a5 : Value} {P : XH → Prop} (d : xl_Ca M pc μ pc2) (hv : xl_V μ) (hcl : ∃ T N, vwCl[ci]? = some (μ.1.cls, T, N)) (hc : xl_CV μ (.ref 0 :: [a0, a1, a2, a3, a4, a5]) h P) (hh : xl_n h 0 = some (.inr (ci, fs))) (hn : 6 = μ.2.2.2.2.2.2) (hw : (rest.map fun v => if xl_1 v = true then 1 else 2).sum ≤ 8) (hlen : ∀ h', P h' → h'.length = h.length) (kk : ∀ h', P h' → xl_W M rc rs pc2 L rest h' Po) : xl_W M rc rs pc L (a5 :: a4 :: a3 :: a2 :: a1 :: a0 :: .ref 0 :: rest) h Po :=
  xl_tG (As := [a0, a1, a2, a3, a4, a5]) d hv hcl hh rfl hn hw hc (fun v h' ⟨e1, e2⟩ => ⟨hlen h' e2, by rw [e1]; intro a e; cases e⟩) (fun v h' ⟨e1, e2⟩ => by subst e1; exact kk h' e2)
theorem xl_vI7 {ci r : Nat} {fs : List Value} {a0 a1 a2 a3 a4 a5 a6 : Value} {y : Int32} (d : xl_Ca M pc μ pc2) (hv : xl_V μ) (hcl : ∃ T N, vwCl[ci]? = some (μ.1.cls, T, N)) (hc : xl_RI μ (.ref 0 :: [a0, a1, a2, a3, a4, a5, a6]) hl y) (hh : xl_n h r = some (.inr (ci, fs))) (hcut : (h.drop r).take hl.length = hl) (hn : 7 = μ.2.2.2.2.2.2) (hnr : ([a0, a1, a2, a3, a4, a5, a6] : List Value).all xl_nr = true) (hw : (rest.map fun v => if xl_1 v = true then 1 else 2).sum ≤ 8) (kk : xl_W M rc rs pc2 L (.int y :: rest) h Po) : xl_W M rc rs pc L (a6 :: a5 :: a4 :: a3 :: a2 :: a1 :: a0 :: .ref r :: rest) h Po :=
  xl_vR (As := [a0, a1, a2, a3, a4, a5, a6]) (v0 := some (.int y)) d hv hcl hh rfl hn hw hnr hc hcut (fun v h' ⟨z, e1, e2, e3⟩ => ⟨by rw [e1, e2], e3⟩) (fun a e => by cases e) kk
theorem xl_tI7 {ci : Nat} {fs : List Value} {a0 a1 a2 a3 a4 a5 a6 : Value} {y : Int32} (d : xl_Ca M pc μ pc2) (hv : xl_V μ) (hcl : ∃ T N, vwCl[ci]? = some (μ.1.cls, T, N)) (hc : xl_RI μ (.ref 0 :: [a0, a1, a2, a3, a4, a5, a6]) h y) (hh : xl_n h 0 = some (.inr (ci, fs))) (hn : 7 = μ.2.2.2.2.2.2) (hw : (rest.map fun v => if xl_1 v = true then 1 else 2).sum ≤ 8) (kk : xl_W M rc rs pc2 L (.int y :: rest) h Po) : xl_W M rc rs pc L (a6 :: a5 :: a4 :: a3 :: a2 :: a1 :: a0 :: .ref 0 :: rest) h Po :=
  xl_tG (As := [a0, a1, a2, a3, a4, a5, a6]) d hv hcl hh rfl hn hw hc (fun v h' ⟨z, e1, e2, e3⟩ => ⟨by rw [e3], by rw [e1]; intro a e; cases e⟩) (fun v h' ⟨z, e1, e2, e3⟩ => by subst e1; subst e2; subst e3; exact kk)
theorem xl_vGI7 {ci r : Nat} {fs : List Value} {a0 a1 a2 a3 a4 a5 a6 : Value} {P : Int32 → XH → Prop} (d : xl_Ca M pc μ pc2) (hv : xl_V μ) (hcl : ∃ T N, vwCl[ci]? = some (μ.1.cls, T, N)) (hc : xl_CI μ (.ref 0 :: [a0, a1, a2, a3, a4, a5, a6]) hl P) (hh : xl_n h r = some (.inr (ci, fs))) (hcut : (h.drop r).take hl.length = hl) (h0 : 0 < hl.length) (hn : 7 = μ.2.2.2.2.2.2) (hnr : ([a0, a1, a2, a3, a4, a5, a6] : List Value).all xl_nr = true) (hw : (rest.map fun v => if xl_1 v = true then 1 else 2).sum ≤ 8) (hlen : ∀ y h', P y h' → h'.length = hl.length) (kk : ∀ y h', P y h' → xl_W M rc rs pc2 L (.int y :: rest) (h.take r ++ (h' ++ h.drop (r + hl.length))) Po) : xl_W M rc rs pc L (a6 :: a5 :: a4 :: a3 :: a2 :: a1 :: a0 :: .ref r :: rest) h Po :=
  xl_vG (As := [a0, a1, a2, a3, a4, a5, a6]) d hv hcl hh rfl hn hw hnr hc hcut h0 (fun v h' ⟨z, e1, e2⟩ => ⟨hlen z h' e2, by rw [e1]; intro a e; cases e⟩) (fun v h' ⟨z, e1, e2⟩ => by subst e1; exact kk z h' e2)
theorem xl_vGV7 {ci r : Nat} {fs : List Value} {a0 a1 a2 a3 a4 a5 a6 : Value} {P : XH → Prop} (d : xl_Ca M pc μ pc2) (hv : xl_V μ) (hcl : ∃ T N, vwCl[ci]? = some (μ.1.cls, T, N)) (hc : xl_CV μ (.ref 0 :: [a0, a1, a2, a3, a4, a5, a6]) hl P) (hh : xl_n h r = some (.inr (ci, fs))) (hcut : (h.drop r).take hl.length = hl) (h0 : 0 < hl.length) (hn : 7 = μ.2.2.2.2.2.2) (hnr : ([a0, a1, a2, a3, a4, a5, a6] : List Value).all xl_nr = true) (hw : (rest.map fun v => if xl_1 v = true then 1 else 2).sum ≤ 8) (hlen : ∀ h', P h' → h'.length = hl.length) (kk : ∀ h', P h' → xl_W M rc rs pc2 L rest (h.take r ++ (h' ++ h.drop (r + hl.length))) Po) : xl_W M rc rs pc L (a6 :: a5 :: a4 :: a3 :: a2 :: a1 :: a0 :: .ref r :: rest) h Po :=
  xl_vG (As := [a0, a1, a2, a3, a4, a5, a6]) d hv hcl hh rfl hn hw hnr hc hcut h0 (fun v h' ⟨e1, e2⟩ => ⟨hlen h' e2, by rw [e1]; intro a e; cases e⟩) (fun v h' ⟨e1, e2⟩ => by subst e1; exact kk h' e2)
theorem xl_tGI7 {ci : Nat} {fs : List Value} {a0 a1 a2 a3 a4 a5 a6 : Value} {P : Int32 → XH → Prop} (d : xl_Ca M pc μ pc2) (hv : xl_V μ) (hcl : ∃ T N, vwCl[ci]? = some (μ.1.cls, T, N)) (hc : xl_CI μ (.ref 0 :: [a0, a1, a2, a3, a4, a5, a6]) h P) (hh : xl_n h 0 = some (.inr (ci, fs))) (hn : 7 = μ.2.2.2.2.2.2) (hw : (rest.map fun v => if xl_1 v = true then 1 else 2).sum ≤ 8) (hlen : ∀ y h', P y h' → h'.length = h.length) (kk : ∀ y h', P y h' → xl_W M rc rs pc2 L (.int y :: rest) h' Po) : xl_W M rc rs pc L (a6 :: a5 :: a4 :: a3 :: a2 :: a1 :: a0 :: .ref 0 :: rest) h Po :=
  xl_tG (As := [a0, a1, a2, a3, a4, a5, a6]) d hv hcl hh rfl hn hw hc (fun v h' ⟨z, e1, e2⟩ => ⟨hlen z h' e2, by rw [e1]; intro a e; cases e⟩) (fun v h' ⟨z, e1, e2⟩ => by subst e1; exact kk z h' e2)
theorem xl_tGV7 {ci : Nat} {fs : List Value} {a0 a1 a2 a3 a4 a5 a6 : Value} {P : XH → Prop} (d : xl_Ca M pc μ pc2) (hv : xl_V μ) (hcl : ∃ T N, vwCl[ci]? = some (μ.1.cls, T, N)) (hc : xl_CV μ (.ref 0 :: [a0, a1, a2, a3, a4, a5, a6]) h P) (hh : xl_n h 0 = some (.inr (ci, fs))) (hn : 7 = μ.2.2.2.2.2.2) (hw : (rest.map fun v => if xl_1 v = true then 1 else 2).sum ≤ 8) (hlen : ∀ h', P h' → h'.length = h.length) (kk : ∀ h', P h' → xl_W M rc rs pc2 L rest h' Po) : xl_W M rc rs pc L (a6 :: a5 :: a4 :: a3 :: a2 :: a1 :: a0 :: .ref 0 :: rest) h Po :=
  xl_tG (As := [a0, a1, a2, a3, a4, a5, a6]) d hv hcl hh rfl hn hw hc (fun v h' ⟨e1, e2⟩ => ⟨hlen h' e2, by rw [e1]; intro a e; cases e⟩) (fun v h' ⟨e1, e2⟩ => by subst e1; exact kk h' e2)
/-- a static method -/
theorem xl_sG {As : List Value} (d : xl_Cs M pc μ pc2) (hv : xl_U μ) (hst : st = As.reverse ++ rest) (hn : As.length = μ.2.2.2.2.2.2) (hw : (rest.map fun v => if xl_1 v = true then 1 else 2).sum ≤ 8) (hnr : As.all xl_nr = true)
    (hc : xl_C μ 0 0 As [] Po') (hlen : ∀ v h', Po' v h' → h' = [] ∧ ∀ a, v ≠ some (.ref a)) (kk : ∀ v, Po' v [] → xl_W M rc rs pc2 L (v.toList ++ rest) h Po) : xl_W M rc rs pc L st h Po :=
  xl_callS (mc := 0) (ms := 0) (hl := []) (fun k => k) d hv hst hn hw (fun ρ σ => rfl) ⟨fun i j hi => by simp at hi, fun j hj => by simp at hj⟩ (fun j c e => by simp at e) hc (fun v h' p => ⟨by rw [(hlen v h' p).1], fun j c _ => xl_ok_all j c, (hlen v h' p).2⟩) (fun v h' h1 p hb => by
    have e1 : h1 = h := List.ext_getElem? (fun k => hb.2.2 k (fun j hj => by simp at hj))
    rw [e1]
    have e2 := (hlen v h' p).1
    subst e2
    exact kk v p)
theorem xl_sI0 {y : Int32} (d : xl_Cs M pc μ pc2) (hv : xl_U μ) (hc : xl_RI μ [] [] y) (hn : 0 = μ.2.2.2.2.2.2) (hnr : ([] : List Value).all xl_nr = true) (hw : (rest.map fun v => if xl_1 v = true then 1 else 2).sum ≤ 8) (kk : xl_W M rc rs pc2 L (.int y :: rest) h Po) : xl_W M rc rs pc L (rest) h Po :=
  xl_sG (As := []) d hv rfl hn hw hnr hc (fun v h' ⟨z, e1, e2, e3⟩ => ⟨e3, by rw [e1]; intro a e; cases e⟩) (fun v ⟨z, e1, e2, e3⟩ => by subst e1; subst e2; exact kk)
theorem xl_sL0 {y : Int64} (d : xl_Cs M pc μ pc2) (hv : xl_U μ) (hc : xl_RL μ [] [] y) (hn : 0 = μ.2.2.2.2.2.2) (hnr : ([] : List Value).all xl_nr = true) (hw : (rest.map fun v => if xl_1 v = true then 1 else 2).sum ≤ 8) (kk : xl_W M rc rs pc2 L (.long y :: rest) h Po) : xl_W M rc rs pc L (rest) h Po :=
  xl_sG (As := []) d hv rfl hn hw hnr hc (fun v h' ⟨z, e1, e2, e3⟩ => ⟨e3, by rw [e1]; intro a e; cases e⟩) (fun v ⟨z, e1, e2, e3⟩ => by subst e1; subst e2; exact kk)
theorem xl_sS0 {y : UInt32} (d : xl_Cs M pc μ pc2) (hv : xl_U μ) (hc : xl_RS μ [] [] y) (hn : 0 = μ.2.2.2.2.2.2) (hnr : ([] : List Value).all xl_nr = true) (hw : (rest.map fun v => if xl_1 v = true then 1 else 2).sum ≤ 8) (kk : xl_W M rc rs pc2 L (.float y :: rest) h Po) : xl_W M rc rs pc L (rest) h Po :=
  xl_sG (As := []) d hv rfl hn hw hnr hc (fun v h' ⟨z, e1, e2, e3⟩ => ⟨e3, by rw [e1]; intro a e; cases e⟩) (fun v ⟨z, e1, e2, e3⟩ => by subst e1; subst e2; exact kk)
theorem xl_sI1 {a0 : Value} {y : Int32} (d : xl_Cs M pc μ pc2) (hv : xl_U μ) (hc : xl_RI μ [a0] [] y) (hn : 1 = μ.2.2.2.2.2.2) (hnr : ([a0] : List Value).all xl_nr = true) (hw : (rest.map fun v => if xl_1 v = true then 1 else 2).sum ≤ 8) (kk : xl_W M rc rs pc2 L (.int y :: rest) h Po) : xl_W M rc rs pc L (a0 :: rest) h Po :=
  xl_sG (As := [a0]) d hv rfl hn hw hnr hc (fun v h' ⟨z, e1, e2, e3⟩ => ⟨e3, by rw [e1]; intro a e; cases e⟩) (fun v ⟨z, e1, e2, e3⟩ => by subst e1; subst e2; exact kk)
theorem xl_sL1 {a0 : Value} {y : Int64} (d : xl_Cs M pc μ pc2) (hv : xl_U μ) (hc : xl_RL μ [a0] [] y) (hn : 1 = μ.2.2.2.2.2.2) (hnr : ([a0] : List Value).all xl_nr = true) (hw : (rest.map fun v => if xl_1 v = true then 1 else 2).sum ≤ 8) (kk : xl_W M rc rs pc2 L (.long y :: rest) h Po) : xl_W M rc rs pc L (a0 :: rest) h Po :=
  xl_sG (As := [a0]) d hv rfl hn hw hnr hc (fun v h' ⟨z, e1, e2, e3⟩ => ⟨e3, by rw [e1]; intro a e; cases e⟩) (fun v ⟨z, e1, e2, e3⟩ => by subst e1; subst e2; exact kk)
theorem xl_sS1 {a0 : Value} {y : UInt32} (d : xl_Cs M pc μ pc2) (hv : xl_U μ) (hc : xl_RS μ [a0] [] y) (hn : 1 = μ.2.2.2.2.2.2) (hnr : ([a0] : List Value).all xl_nr = true) (hw : (rest.map fun v => if xl_1 v = true then 1 else 2).sum ≤ 8) (kk : xl_W M rc rs pc2 L (.float y :: rest) h Po) : xl_W M rc rs pc L (a0 :: rest) h Po :=
  xl_sG (As := [a0]) d hv rfl hn hw hnr hc (fun v h' ⟨z, e1, e2, e3⟩ => ⟨e3, by rw [e1]; intro a e; cases e⟩) (fun v ⟨z, e1, e2, e3⟩ => by subst e1; subst e2; exact kk)
theorem xl_sI2 {a0 a1 : Value} {y : Int32} (d : xl_Cs M pc μ pc2) (hv : xl_U μ) (hc : xl_RI μ [a0, a1] [] y) (hn : 2 = μ.2.2.2.2.2.2) (hnr : ([a0, a1] : List Value).all xl_nr = true) (hw : (rest.map fun v => if xl_1 v = true then 1 else 2).sum ≤ 8) (kk : xl_W M rc rs pc2 L (.int y :: rest) h Po) : xl_W M rc rs pc L (a1 :: a0 :: rest) h Po :=
  xl_sG (As := [a0, a1]) d hv rfl hn hw hnr hc (fun v h' ⟨z, e1, e2, e3⟩ => ⟨e3, by rw [e1]; intro a e; cases e⟩) (fun v ⟨z, e1, e2, e3⟩ => by subst e1; subst e2; exact kk)
theorem xl_sL2 {a0 a1 : Value} {y : Int64} (d : xl_Cs M pc μ pc2) (hv : xl_U μ) (hc : xl_RL μ [a0, a1] [] y) (hn : 2 = μ.2.2.2.2.2.2) (hnr : ([a0, a1] : List Value).all xl_nr = true) (hw : (rest.map fun v => if xl_1 v = true then 1 else 2).sum ≤ 8) (kk : xl_W M rc rs pc2 L (.long y :: rest) h Po) : xl_W M rc rs pc L (a1 :: a0 :: rest) h Po :=
  xl_sG (As := [a0, a1]) d hv rfl hn hw hnr hc (fun v h' ⟨z, e1, e2, e3⟩ => ⟨e3, by rw [e1]; intro a e; cases e⟩) (fun v ⟨z, e1, e2, e3⟩ => by subst e1; subst e2; exact kk)
theorem xl_sS2 {a0 a1 : Value} {y : UInt32} (d : xl_Cs M pc μ pc2) (hv : xl_U μ) (hc : xl_RS μ [a0, a1] [] y) (hn : 2 = μ.2.2.2.2.2.2) (hnr : ([a0, a1] : List Value).all xl_nr = true) (hw : (rest.map fun v => if xl_1 v = true then 1 else 2).sum ≤ 8) (kk : xl_W M rc rs pc2 L (.float y :: rest) h Po) : xl_W M rc rs pc L (a1 :: a0 :: rest) h Po :=
  xl_sG (As := [a0, a1]) d hv rfl hn hw hnr hc (fun v h' ⟨z, e1, e2, e3⟩ => ⟨e3, by rw [e1]; intro a e; cases e⟩) (fun v ⟨z, e1, e2, e3⟩ => by subst e1; subst e2; exact kk)
theorem xl_sI3 {a0 a1 a2 : Value} {y : Int32} (d : xl_Cs M pc μ pc2) (hv : xl_U μ) (hc : xl_RI μ [a0, a1, a2] [] y) (hn : 3 = μ.2.2.2.2.2.2) (hnr : ([a0, a1, a2] : List Value).all xl_nr = true) (hw : (rest.map fun v => if xl_1 v = true then 1 else 2).sum ≤ 8) (kk : xl_W M rc rs pc2 L (.int y :: rest) h Po) : xl_W M rc rs pc L (a2 :: a1 :: a0 :: rest) h Po :=
  xl_sG (As := [a0, a1, a2]) d hv rfl hn hw hnr hc (fun v h' ⟨z, e1, e2, e3⟩ => ⟨e3, by rw [e1]; intro a e; cases e⟩) (fun v ⟨z, e1, e2, e3⟩ => by subst e1; subst e2; exact kk)
theorem xl_sL3 {a0 a1 a2 : Value} {y : Int64} (d : xl_Cs M pc μ pc2) (hv : xl_U μ) (hc : xl_RL μ [a0, a1, a2] [] y) (hn : 3 = μ.2.2.2.2.2.2) (hnr : ([a0, a1, a2] : List Value).all xl_nr = true) (hw : (rest.map fun v => if xl_1 v = true then 1 else 2).sum ≤ 8) (kk : xl_W M rc rs pc2 L (.long y :: rest) h Po) : xl_W M rc rs pc L (a2 :: a1 :: a0 :: rest) h Po :=
  xl_sG (As := [a0, a1, a2]) d hv rfl hn hw hnr hc (fun v h' ⟨z, e1, e2, e3⟩ => ⟨e3, by rw [e1]; intro a e; cases e⟩) (fun v ⟨z, e1, e2, e3⟩ => by subst e1; subst e2; exact kk)
theorem xl_sS3 {a0 a1 a2 : Value} {y : UInt32} (d : xl_Cs M pc μ pc2) (hv : xl_U μ) (hc : xl_RS μ [a0, a1, a2] [] y) (hn : 3 = μ.2.2.2.2.2.2) (hnr : ([a0, a1, a2] : List Value).all xl_nr = true) (hw : (rest.map fun v => if xl_1 v = true then 1 else 2).sum ≤ 8) (kk : xl_W M rc rs pc2 L (.float y :: rest) h Po) : xl_W M rc rs pc L (a2 :: a1 :: a0 :: rest) h Po :=
  xl_sG (As := [a0, a1, a2]) d hv rfl hn hw hnr hc (fun v h' ⟨z, e1, e2, e3⟩ => ⟨e3, by rw [e1]; intro a e; cases e⟩) (fun v ⟨z, e1, e2, e3⟩ => by subst e1; subst e2; exact kk)
theorem xl_sI4 {a0 a1 a2 a3 : Value} {y : Int32} (d : xl_Cs M pc μ pc2) (hv : xl_U μ) (hc : xl_RI μ [a0, a1, a2, a3] [] y) (hn : 4 = μ.2.2.2.2.2.2) (hnr : ([a0, a1, a2, a3] : List Value).all xl_nr = true) (hw : (rest.map fun v => if xl_1 v = true then 1 else 2).sum ≤ 8) (kk : xl_W M rc rs pc2 L (.int y :: rest) h Po) : xl_W M rc rs pc L (a3 :: a2 :: a1 :: a0 :: rest) h Po :=
  xl_sG (As := [a0, a1, a2, a3]) d hv rfl hn hw hnr hc (fun v h' ⟨z, e1, e2, e3⟩ => ⟨e3, by rw [e1]; intro a e; cases e⟩) (fun v ⟨z, e1, e2, e3⟩ => by subst e1; subst e2; exact kk)
theorem xl_sL4 {a0 a1 a2 a3 : Value} {y : Int64} (d : xl_Cs M pc μ pc2) (hv : xl_U μ) (hc : xl_RL μ [a0, a1, a2, a3] [] y) (hn : 4 = μ.2.2.2.2.2.2) (hnr : ([a0, a1, a2, a3] : List Value).all xl_nr = true) (hw : (rest.map fun v => if xl_1 v = true then 1 else 2).sum ≤ 8) (kk : xl_W M rc rs pc2 L (.long y :: rest) h Po) : xl_W M rc rs pc L (a3 :: a2 :: a1 :: a0 :: rest) h Po :=
  xl_sG (As := [a0, a1, a2, a3]) d hv rfl hn hw hnr hc (fun v h' ⟨z, e1, e2, e3⟩ => ⟨e3, by rw [e1]; intro a e; cases e⟩) (fun v ⟨z, e1, e2, e3⟩ => by subst e1; subst e2; exact kk)
theorem xl_sS4 {a0 a1 a2 a3 : Value} {y : UInt32} (d : xl_Cs M pc μ pc2) (hv : xl_U μ) (hc : xl_RS μ [a0, a1, a2, a3] [] y) (hn : 4 = μ.2.2.2.2.2.2) (hnr : ([a0, a1, a2, a3] : List Value).all xl_nr = true) (hw : (rest.map fun v => if xl_1 v = true then 1 else 2).sum ≤ 8) (kk : xl_W M rc rs pc2 L (.float y :: rest) h Po) : xl_W M rc rs pc L (a3 :: a2 :: a1 :: a0 :: rest) h Po :=
  xl_sG (As := [a0, a1, a2, a3]) d hv rfl hn hw hnr hc (fun v h' ⟨z, e1, e2, e3⟩ => ⟨e3, by rw [e1]; intro a e; cases e⟩) (fun v ⟨z, e1, e2, e3⟩ => by subst e1; subst e2; exact kk)
theorem xl_sI5 {a0 a1 a2 a3 a4 : Value} {y : Int32} (d : xl_Cs M pc μ pc2) (hv : xl_U μ) (hc : xl_RI μ [a0, a1, a2, a3, a4] [] y) (hn : 5 = μ.2.2.2.2.2.2) (hnr : ([a0, a1, a2, a3, a4] : List Value).all xl_nr = true) (hw : (rest.map fun v => if xl_1 v = true then 1 else 2).sum ≤ 8) (kk : xl_W M rc rs pc2 L (.int y :: rest) h Po) : xl_W M rc rs pc L (a4 :: a3 :: a2 :: a1 :: a0 :: rest) h Po :=
  xl_sG (As := [a0, a1, a2, a3, a4]) d hv rfl hn hw hnr hc (fun v h' ⟨z, e1, e2, e3⟩ => ⟨e3, by rw [e1]; intro a e; cases e⟩) (fun v ⟨z, e1, e2, e3⟩ => by subst e1; subst e2; exact kk)
theorem xl_sL5 {a0 a1 a2 a3 a4 : Value} {y : Int64} (d : xl_Cs M pc μ pc2) (hv : xl_U μ) (hc : xl_RL μ [a0, a1, a2, a3, a4] [] y) (hn : 5 = μ.2.2.2.2.2.2) (hnr : ([a0, a1, a2, a3, a4] : List Value).all xl_nr = true) (hw : (rest.map fun v => if xl_1 v = true then 1 else 2).sum ≤ 8) (kk : xl_W M rc rs pc2 L (.long y :: rest) h Po) : xl_W M rc rs pc L (a4 :: a3 :: a2 :: a1 :: a0 :: rest) h Po :=
  xl_sG (As := [a0, a1, a2, a3, a4]) d hv rfl hn hw hnr hc (fun v h' ⟨z, e1, e2, e3⟩ => ⟨e3, by rw [e1]; intro a e; cases e⟩) (fun v ⟨z, e1, e2, e3⟩ => by subst e1; subst e2; exact kk)
theorem xl_sS5 {a0 a1 a2 a3 a4 : Value} {y : UInt32} (d : xl_Cs M pc μ pc2) (hv : xl_U μ) (hc : xl_RS μ [a0, a1, a2, a3, a4] [] y) (hn : 5 = μ.2.2.2.2.2.2) (hnr : ([a0, a1, a2, a3, a4] : List Value).all xl_nr = true) (hw : (rest.map fun v => if xl_1 v = true then 1 else 2).sum ≤ 8) (kk : xl_W M rc rs pc2 L (.float y :: rest) h Po) : xl_W M rc rs pc L (a4 :: a3 :: a2 :: a1 :: a0 :: rest) h Po :=
  xl_sG (As := [a0, a1, a2, a3, a4]) d hv rfl hn hw hnr hc (fun v h' ⟨z, e1, e2, e3⟩ => ⟨e3, by rw [e1]; intro a e; cases e⟩) (fun v ⟨z, e1, e2, e3⟩ => by subst e1; subst e2; exact kk)
theorem xl_sI6 {a0 a1 a2 a3 a4 a5 : Value} {y : Int32} (d : xl_Cs M pc μ pc2) (hv : xl_U μ) (hc : xl_RI μ [a0, a1, a2, a3, a4, a5] [] y) (hn : 6 = μ.2.2.2.2.2.2) (hnr : ([a0, a1, a2, a3, a4, a5] : List Value).all xl_nr = true) (hw : (rest.map fun v => if xl_1 v = true then 1 else 2).sum ≤ 8) (kk : xl_W M rc rs pc2 L (.int y :: rest) h Po) : xl_W M rc rs pc L (a5 :: a4 :: a3 :: a2 :: a1 :: a0 :: rest) h Po :=
  xl_sG (As := [a0, a1, a2, a3, a4, a5]) d hv rfl hn hw hnr hc (fun v h' ⟨z, e1, e2, e3⟩ => ⟨e3, by rw [e1]; intro a e; cases e⟩) (fun v ⟨z, e1, e2, e3⟩ => by subst e1; subst e2; exact kk)
theorem xl_sL6 {a0 a1 a2 a3 a4 a5 : Value} {y : Int64} (d : xl_Cs M pc μ pc2) (hv : xl_U μ) (hc : xl_RL μ [a0, a1, a2, a3, a4, a5] [] y) (hn : 6 = μ.2.2.2.2.2.2) (hnr : ([a0, a1, a2, a3, a4, a5] : List Value).all xl_nr = true) (hw : (rest.map fun v => if xl_1 v = true then 1 else 2).sum ≤ 8) (kk : xl_W M rc rs pc2 L (.long y :: rest) h Po) : xl_W M rc rs pc L (a5 :: a4 :: a3 :: a2 :: a1 :: a0 :: rest) h Po :=
  xl_sG (As := [a0, a1, a2, a3, a4, a5]) d hv rfl hn hw hnr hc (fun v h' ⟨z, e1, e2, e3⟩ => ⟨e3, by rw [e1]; intro a e; cases e⟩) (fun v ⟨z, e1, e2, e3⟩ => by subst e1; subst e2; exact kk)
theorem xl_sS6 {a0 a1 a2 a3 a4 a5 : Value} {y : UInt32} (d : xl_Cs M pc μ pc2) (hv : xl_U μ) (hc : xl_RS μ [a0, a1, a2, a3, a4, a5] [] y) (hn : 6 = μ.2.2.2.2.2.2) (hnr : ([a0, a1, a2, a3, a4, a5] : List Value).all xl_nr = true) (hw : (rest.map fun v => if xl_1 v = true then 1 else 2).sum ≤ 8) (kk : xl_W M rc rs pc2 L (.float y :: rest) h Po) : xl_W M rc rs pc L (a5 :: a4 :: a3 :: a2 :: a1 :: a0 :: rest) h Po :=
  xl_sG (As := [a0, a1, a2, a3, a4, a5]) d hv rfl hn hw hnr hc (fun v h' ⟨z, e1, e2, e3⟩ => ⟨e3, by rw [e1]; intro a e; cases e⟩) (fun v ⟨z, e1, e2, e3⟩ => by subst e1; subst e2; exact kk)
theorem xl_sI7 {a0 a1 a2 a3 a4 a5 a6 : Value} {y : Int32} (d : xl_Cs M pc μ pc2) (hv : xl_U μ) (hc : xl_RI μ [a0, a1, a2, a3, a4, a5, a6] [] y) (hn : 7 = μ.2.2.2.2.2.2) (hnr : ([a0, a1, a2, a3, a4, a5, a6] : List Value).all xl_nr = true) (hw : (rest.map fun v => if xl_1 v = true then 1 else 2).sum ≤ 8) (kk : xl_W M rc rs pc2 L (.int y :: rest) h Po) : xl_W M rc rs pc L (a6 :: a5 :: a4 :: a3 :: a2 :: a1 :: a0 :: rest) h Po :=
  xl_sG (As := [a0, a1, a2, a3, a4, a5, a6]) d hv rfl hn hw hnr hc (fun v h' ⟨z, e1, e2, e3⟩ => ⟨e3, by rw [e1]; intro a e; cases e⟩) (fun v ⟨z, e1, e2, e3⟩ => by subst e1; subst e2; exact kk)
theorem xl_sL7 {a0 a1 a2 a3 a4 a5 a6 : Value} {y : Int64} (d : xl_Cs M pc μ pc2) (hv : xl_U μ) (hc : xl_RL μ [a0, a1, a2, a3, a4, a5, a6] [] y) (hn : 7 = μ.2.2.2.2.2.2) (hnr : ([a0, a1, a2, a3, a4, a5, a6] : List Value).all xl_nr = true) (hw : (rest.map fun v => if xl_1 v = true then 1 else 2).sum ≤ 8) (kk : xl_W M rc rs pc2 L (.long y :: rest) h Po) : xl_W M rc rs pc L (a6 :: a5 :: a4 :: a3 :: a2 :: a1 :: a0 :: rest) h Po :=
  xl_sG (As := [a0, a1, a2, a3, a4, a5, a6]) d hv rfl hn hw hnr hc (fun v h' ⟨z, e1, e2, e3⟩ => ⟨e3, by rw [e1]; intro a e; cases e⟩) (fun v ⟨z, e1, e2, e3⟩ => by subst e1; subst e2; exact kk)
theorem xl_sS7 {a0 a1 a2 a3 a4 a5 a6 : Value} {y : UInt32} (d : xl_Cs M pc μ pc2) (hv : xl_U μ) (hc : xl_RS μ [a0, a1, a2, a3, a4, a5, a6] [] y) (hn : 7 = μ.2.2.2.2.2.2) (hnr : ([a0, a1, a2, a3, a4, a5, a6] : List Value).all xl_nr = true) (hw : (rest.map fun v => if xl_1 v = true then 1 else 2).sum ≤ 8) (kk : xl_W M rc rs pc2 L (.float y :: rest) h Po) : xl_W M rc rs pc L (a6 :: a5 :: a4 :: a3 :: a2 :: a1 :: a0 :: rest) h Po :=
  xl_sG (As := [a0, a1, a2, a3, a4, a5, a6]) d hv rfl hn hw hnr hc (fun v h' ⟨z, e1, e2, e3⟩ => ⟨e3, by rw [e1]; intro a e; cases e⟩) (fun v ⟨z, e1, e2, e3⟩ => by subst e1; subst e2; exact kk)
/-- a static method that is given one object (its cells are a run of places from r on), read only -/
theorem xl_oI2 {r : Nat} {a1 a2 : Value} {y : Int32} (d : xl_Cs M pc μ pc2) (hv : xl_U μ) (hc : xl_RI μ [.ref 0, a1, a2] hl y) (hcut : (h.drop r).take hl.length = hl) (hn : 3 = μ.2.2.2.2.2.2) (hnr : ([a1, a2] : List Value).all xl_nr = true) (hw : (rest.map fun v => if xl_1 v = true then 1 else 2).sum ≤ 8) (kk : xl_W M rc rs pc2 L (.int y :: rest) h Po) : xl_W M rc rs pc L (a2 :: a1 :: .ref r :: rest) h Po :=
  xl_callS (mc := 0) (ms := 0) (As := [.ref r, a1, a2]) (As' := [.ref 0, a1, a2]) (fun k => r + k) d hv rfl hn hw (fun ρ σ => congrArg (List.cons (Value.ref (ρ r))) (xl_nr_m hnr ρ (fun k => ρ (r + k)) σ)) (xl_pi_add hcut) (fun j c _ => xl_ok_add r j c) hc (fun v h' ⟨z, e1, e2, e3⟩ => ⟨by rw [e3], fun j c _ => xl_ok_add r j c, by rw [e1]; intro a e; cases e⟩) (fun v h' h1 ⟨z, e1, e2, e3⟩ hb => by
    subst e1; subst e2; subst e3
    rw [xl_back_id (r := 0) (xl_pi_add hcut) hb]
    exact kk)
end XCE
end
-- 05.words
section
theorem xl_inp {ws : List Cond} (ps : List Nat) (h : ws = ps.filterMap (fun i => lw_tbl[i]?)) (g : ws.all goodWord = true) : ∀ w ∈ ws, w ∈ xl_T := by
  intro w hw
  refine List.mem_filter.mpr ⟨?_, List.all_eq_true.mp g w hw⟩
  rw [h] at hw
  obtain ⟨i, -, hi⟩ := List.mem_filterMap.mp hw
  exact List.mem_of_getElem? hi
theorem wc_t1 {w : Cond} (i : Nat) (g : tables_1_1[i]? = some w) (hw : goodWord w = true) : w ∈ xl_T := List.mem_filter.mpr ⟨List.mem_append_right _ (have h := List.mem_of_getElem? g; List.mem_append_left _ h), hw⟩
theorem wc_t2 {w : Cond} (i : Nat) (g : tables_1_2[i]? = some w) (hw : goodWord w = true) : w ∈ xl_T := List.mem_filter.mpr ⟨List.mem_append_right _ (have h := List.mem_of_getElem? g; List.mem_append_right _ (List.mem_append_left _ h)), hw⟩
theorem wc_t3 {w : Cond} (i : Nat) (g : tables_1_3[i]? = some w) (hw : goodWord w = true) : w ∈ xl_T := List.mem_filter.mpr ⟨List.mem_append_right _ (have h := List.mem_of_getElem? g; List.mem_append_right _ (List.mem_append_right _ (List.mem_append_left _ h))), hw⟩
theorem wc_t4 {w : Cond} (i : Nat) (g : tables_1_4[i]? = some w) (hw : goodWord w = true) : w ∈ xl_T := List.mem_filter.mpr ⟨List.mem_append_right _ (have h := List.mem_of_getElem? g; List.mem_append_right _ (List.mem_append_right _ (List.mem_append_right _ (List.mem_append_left _ h)))), hw⟩
theorem wc_t5 {w : Cond} (i : Nat) (g : tables_1_5[i]? = some w) (hw : goodWord w = true) : w ∈ xl_T := List.mem_filter.mpr ⟨List.mem_append_right _ (have h := List.mem_of_getElem? g; List.mem_append_right _ (List.mem_append_right _ (List.mem_append_right _ (List.mem_append_right _ (List.mem_append_left _ h))))), hw⟩
theorem wc_t6 {w : Cond} (i : Nat) (g : tables_1_6[i]? = some w) (hw : goodWord w = true) : w ∈ xl_T := List.mem_filter.mpr ⟨List.mem_append_right _ (have h := List.mem_of_getElem? g; List.mem_append_right _ (List.mem_append_right _ (List.mem_append_right _ (List.mem_append_right _ (List.mem_append_right _ (h)))))), hw⟩
theorem wc_0 : ∀ w ∈ ([Cond.selects RX1 yX1_note yX1_note, Cond.selects RX1 yX1_raiseMark yX1_raiseMark, Cond.selects RX1 yX1_touches yX1_touches, Cond.selects RX1 yX1_melt yX1_melt, Cond.selects RX1 yX1_placeFor yX1_placeFor, Cond.selects RX1 yX1_swallowNext yX1_swallowNext, Cond.selects RX1 yX1_kindOfNew yX1_kindOfNew, Cond.selects RX1 yX1_rise yX1_rise, Cond.selects RX1 yX1_turnOf yX1_turnOf, Cond.selects RX1 yX1_dueBehind yX1_dueBehind, Cond.selects RX1 yX1_finish yX1_finish, Cond.selects RX1 yX1_takeBack yX1_takeBack, Cond.selects RX1 yX1_announce yX1_announce, Cond.selects RX1 yX1_send yX1_send, Cond.selects RX2 yX2_isSource yX2_isSource, Cond.selects RX2 yX2_isEvent yX2_isEvent, Cond.selects RX2 yX2_eventRefusal yX2_eventRefusal, Cond.selects RX2 yX2_markRefusal yX2_markRefusal, Cond.selects RX2 yX2_idleRefusal yX2_idleRefusal, Cond.selects RX2 yX2_inputRefusal yX2_inputRefusal, Cond.selects RX2 yX2_tellNothing yX2_tellNothing, Cond.selects RX2 yX2_tellMore yX2_tellMore, Cond.selects RX2 yX2_tellOne yX2_tellOne, Cond.selects RX2 yX2_tellTwo yX2_tellTwo, Cond.selects RX2 yX2_tellThree yX2_tellThree, Cond.selects RX2 yX2_putSign yX2_putSign, Cond.selects RX2 yX2_takeText yX2_takeText, Cond.selects RX2 yX2_signAt yX2_signAt, Cond.selects RX2 yX2_fits yX2_fits, Cond.selects RX2 yX2_formMisfit yX2_formMisfit, Cond.selects RX2 yX2_eventsMisfit yX2_eventsMisfit, Cond.selects RX2 yX2_dayMisfit yX2_dayMisfit, Cond.selects RX2 yX2_actForm yX2_actForm, Cond.selects RX2 yX2_numberAt yX2_numberAt, Cond.selects RX2 yX2_keyAt yX2_keyAt, Cond.selects RX2 yX2_valueAt yX2_valueAt, Cond.selects RX2 yX2_comeEventAt yX2_comeEventAt, Cond.selects RX2 yX2_actRefusal yX2_actRefusal, Cond.selects RX2 yX2_comeAct yX2_comeAct, Cond.selects RX2 yX2_remember yX2_remember] : List Cond), w ∈ xl_T := xl_inp [6, 15, 8, 7, 9, 12, 13, 16, 18, 17, 19, 10, 14, 11, 2, 4, 3, 33, 34, 5, 22, 23, 21, 20, 35, 0, 24, 27, 28, 26, 25, 40, 41, 31, 30, 32, 29, 42, 43, 1] (by decide +kernel) (by decide +kernel)
theorem wc_1 : ∀ w ∈ ([Cond.selects RX2 yX2_replay yX2_replay, Cond.selects RX2 yX2_sortTaken yX2_sortTaken, Cond.selects RX2 yX2_sortedCell yX2_sortedCell, Cond.selects RX2 yX2_holeBehind yX2_holeBehind, Cond.selects RX3 yX3_enters yX3_enters, Cond.selects RX3 yX3_reads yX3_reads, Cond.selects RX3 yX3_takesOf yX3_takesOf, Cond.selects RX3 yX3_digits yX3_digits, Cond.selects RX3 yX3_copies yX3_copies, Cond.selects RX3 yX3_starts yX3_starts, Cond.selects RX3 yX3_of yX3_of, Cond.selects RX3 yX3_puts yX3_puts, Cond.selects RX3 yX3_adds yX3_adds, Cond.selects RX3 yX3_lays yX3_lays, Cond.selects RX3 yX3_done yX3_done, Cond.selects RX3 yX3_isSource yX3_isSource, Cond.selects RX3 yX3_ofSession yX3_ofSession, Cond.selects RX3 yX3_goesOut yX3_goesOut, Cond.selects RX3 yX3_comesIn yX3_comesIn, Cond.selects RX3 yX3_isBehind yX3_isBehind, Cond.selects RX3 yX3_sends yX3_sends, Cond.selects RX3 yX3_takesBack yX3_takesBack, Cond.selects RX3 yX3_isRipeBy yX3_isRipeBy, Cond.selects RX3 yX3_isClosedBy yX3_isClosedBy, Cond.selects RX3 yX3_leastMark yX3_leastMark, Cond.selects RX3 yX3_firstRipe yX3_firstRipe, Cond.selects RX3 yX3_isDone yX3_isDone, Cond.selects RX3 yX3_rises yX3_rises, Cond.selects RX3 yX3_firstClosed yX3_firstClosed, Cond.selects RX3 yX3_closes yX3_closes, Cond.selects RX3 yX3_notes yX3_notes, Cond.selects RX3 yX3_melts yX3_melts, Cond.selects RX3 yX3_joins yX3_joins, Cond.selects RX3 yX3_comes yX3_comes, Cond.selects RX3 yX3_isMarked yX3_isMarked, Cond.selects RX3 yX3_isIdle yX3_isIdle, Cond.selects RX3 yX3_isEvent yX3_isEvent, Cond.selects RX3 yX3_eventOne yX3_eventOne, Cond.selects RX3 yX3_entersSince yX3_entersSince, Cond.selects RX3 yX3_readsEvent yX3_readsEvent] : List Cond), w ∈ xl_T := xl_inp [39, 36, 37, 38, 75, 76, 78, 79, 47, 45, 51, 46, 56, 49, 48, 50, 59, 62, 63, 64, 61, 60, 65, 71, 67, 68, 69, 66, 70, 72, 55, 58, 57, 54, 81, 84, 53, 52, 74, 77] (by decide +kernel) (by decide +kernel)
theorem wc_2 : ∀ w ∈ ([Cond.selects RX3 yX3_marksOne yX3_marksOne, Cond.selects RX3 yX3_entersProgress yX3_entersProgress, Cond.selects RX3 yX3_idlesOne yX3_idlesOne, Cond.selects RX3 yX3_ofInput yX3_ofInput, Cond.selects RX3 yX3_laysTimes yX3_laysTimes, Cond.selects RX3 yX3_fallsInto yX3_fallsInto, Cond.selects RX3 yX3_comesAgain yX3_comesAgain, Cond.selects RX3 yX3_startsAgain yX3_startsAgain, Cond.selects RX3 yX3_closedMany yX3_closedMany, Cond.selects RX3 yX3_readsAct yX3_readsAct, Cond.selects RX3 yX3_doesAct yX3_doesAct, Cond.selects RX3 yX3_draws yX3_draws] : List Cond), w ∈ xl_T := xl_inp [80, 82, 83, 85, 86, 87, 89, 88, 73, 90, 91, 92] (by decide +kernel) (by decide +kernel)
theorem xl_inX0 : ∀ w ∈ u_ws RX0 TX0 4, w ∈ xl_T := xl_inp [138, 140, 142, 144] (by decide +kernel) (by decide +kernel)
theorem xl_inX1 : ∀ w ∈ u_ws RX1 TX1 16, w ∈ xl_T := xl_inp [200, 202, 204, 206, 208, 210, 212, 214, 216, 218, 220, 222, 224, 226, 228, 230] (by decide +kernel) (by decide +kernel)
theorem xl_inX2 : ∀ w ∈ u_ws RX2 TX2 13, w ∈ xl_T := xl_inp [247, 249, 251, 253, 255, 257, 259, 261, 263, 265, 267, 269, 271] (by decide +kernel) (by decide +kernel)
theorem xl_inX3 : ∀ w ∈ u_ws RX3 TX3 23, w ∈ xl_T := xl_inp [924, 926, 928, 930, 932, 934, 936, 938, 940, 942, 944, 946, 948, 950, 952, 954, 956, 958, 960, 962, 964, 966, 968] (by decide +kernel) (by decide +kernel)
theorem xl_iX0 : Cond.initialized RX0 ∈ xl_T := (wc_t1 3 rfl rfl)
theorem xl_iX1 : Cond.initialized RX1 ∈ xl_T := (wc_t1 2 rfl rfl)
theorem xl_iX2 : Cond.initialized RX2 ∈ xl_T := (wc_t1 1 rfl rfl)
theorem xl_iX3 : Cond.initialized RX3 ∈ xl_T := (wc_t1 6 rfl rfl)
theorem xl_iJ0 : Cond.initialized RJ0 ∈ xl_T := (wc_t1 7 rfl rfl)
theorem xl_iJ1 : Cond.initialized RJ1 ∈ xl_T := (wc_t1 8 rfl rfl)
theorem xl_iJ3 : Cond.initialized RJ3 ∈ xl_T := (wc_t1 9 rfl rfl)
theorem xl_iJ7 : Cond.initialized RJ7 ∈ xl_T := (wc_t1 15 rfl rfl)
theorem xl_iMath : Cond.initialized "java/lang/Math" ∈ xl_T := (wc_t1 4 rfl rfl)
theorem xl_iSystem : Cond.initialized "java/lang/System" ∈ xl_T := (wc_t1 5 rfl rfl)
theorem xl_stmax : Cond.static Lib.Math.max.name ∈ xl_T := (wc_t1 37 rfl rfl)
theorem xl_comax : Cond.code Lib.Math.max.name Lib.Math.max.code 2 (some .int) ∈ xl_T := (wc_t1 38 rfl rfl)
theorem xl_stmin : Cond.static Lib.Math.min.name ∈ xl_T := (wc_t1 214 rfl rfl)
theorem xl_comin : Cond.code Lib.Math.min.name Lib.Math.min.code 2 (some .int) ∈ xl_T := (wc_t1 215 rfl rfl)
theorem xl_acn : Cond.native arraycopyName ∈ xl_T := (wc_t1 69 rfl rfl)
theorem xl_acs : Cond.static arraycopyName ∈ xl_T := (wc_t1 68 rfl rfl)
-- the methods: name, code, locals, answer, frames, words, parameters
theorem wc_pJ7 : plainName RJ7 = true ∧ RJ7 ≠ "java/lang/invoke/MethodHandle" ∧ RJ7 ≠ "java/lang/invoke/VarHandle" := by decide +kernel
theorem wc_pX0 : plainName RX0 = true ∧ RX0 ≠ "java/lang/invoke/MethodHandle" ∧ RX0 ≠ "java/lang/invoke/VarHandle" := by decide +kernel
theorem wc_pX1 : plainName RX1 = true ∧ RX1 ≠ "java/lang/invoke/MethodHandle" ∧ RX1 ≠ "java/lang/invoke/VarHandle" := by decide +kernel
theorem wc_pX2 : plainName RX2 = true ∧ RX2 ≠ "java/lang/invoke/MethodHandle" ∧ RX2 ≠ "java/lang/invoke/VarHandle" := by decide +kernel
theorem wc_pX3 : plainName RX3 = true ∧ RX3 ≠ "java/lang/invoke/MethodHandle" ∧ RX3 ≠ "java/lang/invoke/VarHandle" := by decide +kernel
theorem wc_d0 : (parseMethodDescriptor "(II)V").map (fun d => d.parameters.length) = some 2 := by decide +kernel
theorem wc_d1 : (parseMethodDescriptor "(II)I").map (fun d => d.parameters.length) = some 2 := by decide +kernel
theorem wc_d2 : (parseMethodDescriptor "(III)V").map (fun d => d.parameters.length) = some 3 := by decide +kernel
theorem wc_d3 : (parseMethodDescriptor "()V").map (fun d => d.parameters.length) = some 0 := by decide +kernel
theorem wc_d4 : (parseMethodDescriptor "(I)V").map (fun d => d.parameters.length) = some 1 := by decide +kernel
theorem wc_d5 : (parseMethodDescriptor "(I)Z").map (fun d => d.parameters.length) = some 1 := by decide +kernel
theorem wc_d6 : (parseMethodDescriptor "(ILLateSessions$Table;I)V").map (fun d => d.parameters.length) = some 3 := by decide +kernel
theorem wc_d7 : (parseMethodDescriptor "(LLateSessions$Table;)V").map (fun d => d.parameters.length) = some 1 := by decide +kernel
theorem wc_d8 : (parseMethodDescriptor "(IIII)V").map (fun d => d.parameters.length) = some 4 := by decide +kernel
theorem wc_d9 : (parseMethodDescriptor "(LLateSessions$World;)V").map (fun d => d.parameters.length) = some 1 := by decide +kernel
theorem wc_d10 : (parseMethodDescriptor "(IIII)I").map (fun d => d.parameters.length) = some 4 := by decide +kernel
theorem wc_d11 : (parseMethodDescriptor "(LLateSessions$Table;I)V").map (fun d => d.parameters.length) = some 2 := by decide +kernel
theorem wc_d12 : (parseMethodDescriptor "(I)I").map (fun d => d.parameters.length) = some 1 := by decide +kernel
theorem wc_d13 : (parseMethodDescriptor "(II)Z").map (fun d => d.parameters.length) = some 2 := by decide +kernel
theorem wc_d14 : (parseMethodDescriptor "(III)Z").map (fun d => d.parameters.length) = some 3 := by decide +kernel
theorem wc_d15 : (parseMethodDescriptor "(III)I").map (fun d => d.parameters.length) = some 3 := by decide +kernel
theorem wc_d16 : (parseMethodDescriptor "()I").map (fun d => d.parameters.length) = some 0 := by decide +kernel
theorem wc_d17 : (parseMethodDescriptor "(I)J").map (fun d => d.parameters.length) = some 1 := by decide +kernel
theorem wc_d18 : (parseMethodDescriptor "(IIII)Z").map (fun d => d.parameters.length) = some 4 := by decide +kernel
theorem wc_d19 : (parseMethodDescriptor "(LLateSessions$Table;II)I").map (fun d => d.parameters.length) = some 3 := by decide +kernel
theorem wc_d20 : (parseMethodDescriptor "(J)V").map (fun d => d.parameters.length) = some 1 := by decide +kernel
theorem wc_d21 : (parseMethodDescriptor "(JJ)V").map (fun d => d.parameters.length) = some 2 := by decide +kernel
theorem wc_d22 : (parseMethodDescriptor "(JJJ)V").map (fun d => d.parameters.length) = some 3 := by decide +kernel
theorem wc_d23 : (parseMethodDescriptor "(IC)Z").map (fun d => d.parameters.length) = some 2 := by decide +kernel
theorem wc_d24 : (parseMethodDescriptor "(IILjava/lang/String;)I").map (fun d => d.parameters.length) = some 3 := by decide +kernel
theorem wc_d25 : (parseMethodDescriptor "(I)Ljava/lang/String;").map (fun d => d.parameters.length) = some 1 := by decide +kernel
theorem wc_d26 : (parseMethodDescriptor "(JJJ)Z").map (fun d => d.parameters.length) = some 3 := by decide +kernel
theorem wc_d27 : (parseMethodDescriptor "(Z)I").map (fun d => d.parameters.length) = some 1 := by decide +kernel
theorem wc_d28 : (parseMethodDescriptor "(Ljava/lang/String;)I").map (fun d => d.parameters.length) = some 1 := by decide +kernel
theorem wc_d29 : (parseMethodDescriptor "(IIIII)V").map (fun d => d.parameters.length) = some 5 := by decide +kernel
theorem wc_d30 : (parseMethodDescriptor "(IIIIIII)V").map (fun d => d.parameters.length) = some 7 := by decide +kernel
theorem wc_d31 : (parseMethodDescriptor "(IIIII)I").map (fun d => d.parameters.length) = some 5 := by decide +kernel
theorem wc_d32 : (parseMethodDescriptor "(IZ)Z").map (fun d => d.parameters.length) = some 2 := by decide +kernel
theorem wc_d33 : (parseMethodDescriptor "([II)V").map (fun d => d.parameters.length) = some 2 := by decide +kernel
def mX0_init : XI := (yX0_init, cX0_init, 3, none, 1, 21, 2)
theorem kX0_init : xl_K mX0_init := ⟨wc_pX0.1, (wc_t1 34 rfl rfl), xl_iX0, wc_pX0.2.1, wc_pX0.2.2, wc_d0⟩
def mX0_get : XI := (yX0_get, cX0_get, 3, (some .int), 0, 0, 2)
theorem kX0_get : xl_K mX0_get := ⟨wc_pX0.1, (wc_t1 228 rfl rfl), xl_iX0, wc_pX0.2.1, wc_pX0.2.2, wc_d1⟩
theorem vX0_get : xl_V mX0_get := ⟨kX0_get, (wc_t1 226 rfl rfl), (wc_t1 227 rfl rfl)⟩
def mX0_set : XI := (yX0_set, cX0_set, 4, none, 0, 0, 3)
theorem kX0_set : xl_K mX0_set := ⟨wc_pX0.1, (wc_t1 73 rfl rfl), xl_iX0, wc_pX0.2.1, wc_pX0.2.2, wc_d2⟩
theorem vX0_set : xl_V mX0_set := ⟨kX0_set, (wc_t1 71 rfl rfl), (wc_t1 72 rfl rfl)⟩
def mX0_add : XI := (yX0_add, cX0_add, 4, none, 0, 0, 3)
theorem kX0_add : xl_K mX0_add := ⟨wc_pX0.1, (wc_t2 32 rfl rfl), xl_iX0, wc_pX0.2.1, wc_pX0.2.2, wc_d2⟩
theorem vX0_add : xl_V mX0_add := ⟨kX0_add, (wc_t2 30 rfl rfl), (wc_t2 31 rfl rfl)⟩
def mX0_clear : XI := (yX0_clear, cX0_clear, 1, none, 0, 0, 0)
theorem kX0_clear : xl_K mX0_clear := ⟨wc_pX0.1, (wc_t1 62 rfl rfl), xl_iX0, wc_pX0.2.1, wc_pX0.2.2, wc_d3⟩
theorem vX0_clear : xl_V mX0_clear := ⟨kX0_clear, (wc_t1 60 rfl rfl), (wc_t1 61 rfl rfl)⟩
def mX0_reach : XI := (yX0_reach, cX0_reach, 2, none, 0, 0, 1)
theorem kX0_reach : xl_K mX0_reach := ⟨wc_pX0.1, (wc_t2 69 rfl rfl), xl_iX0, wc_pX0.2.1, wc_pX0.2.2, wc_d4⟩
theorem vX0_reach : xl_V mX0_reach := ⟨kX0_reach, (wc_t2 67 rfl rfl), (wc_t2 68 rfl rfl)⟩
def mX0_open : XI := (yX0_open, cX0_open, 3, (some .boolean), 1, 31, 1)
theorem kX0_open : xl_K mX0_open := ⟨wc_pX0.1, (wc_t1 66 rfl rfl), xl_iX0, wc_pX0.2.1, wc_pX0.2.2, wc_d5⟩
theorem vX0_open : xl_V mX0_open := ⟨kX0_open, (wc_t1 64 rfl rfl), (wc_t1 65 rfl rfl)⟩
def mX0_drop : XI := (yX0_drop, cX0_drop, 2, none, 1, 31, 1)
theorem kX0_drop : xl_K mX0_drop := ⟨wc_pX0.1, (wc_t2 78 rfl rfl), xl_iX0, wc_pX0.2.1, wc_pX0.2.2, wc_d4⟩
theorem vX0_drop : xl_V mX0_drop := ⟨kX0_drop, (wc_t2 76 rfl rfl), (wc_t2 77 rfl rfl)⟩
def mX0_copyRow : XI := (yX0_copyRow, cX0_copyRow, 5, none, 1, 23, 3)
theorem kX0_copyRow : xl_K mX0_copyRow := ⟨wc_pX0.1, (wc_t2 122 rfl rfl), xl_iX0, wc_pX0.2.1, wc_pX0.2.2, wc_d6⟩
theorem vX0_copyRow : xl_V mX0_copyRow := ⟨kX0_copyRow, (wc_t2 120 rfl rfl), (wc_t2 121 rfl rfl)⟩
def mX0_copyFrom : XI := (yX0_copyFrom, cX0_copyFrom, 2, none, 1, 31, 1)
theorem kX0_copyFrom : xl_K mX0_copyFrom := ⟨wc_pX0.1, (wc_t1 212 rfl rfl), xl_iX0, wc_pX0.2.1, wc_pX0.2.2, wc_d7⟩
theorem vX0_copyFrom : xl_V mX0_copyFrom := ⟨kX0_copyFrom, (wc_t1 210 rfl rfl), (wc_t1 211 rfl rfl)⟩
def mX1_init : XI := (yX1_init, cX1_init, 1, none, 3, 78, 0)
theorem kX1_init : xl_K mX1_init := ⟨wc_pX1.1, (wc_t1 28 rfl rfl), xl_iX1, wc_pX1.2.1, wc_pX1.2.2, wc_d3⟩
def mX1_reset : XI := (yX1_reset, cX1_reset, 6, none, 2, 53, 4)
theorem kX1_reset : xl_K mX1_reset := ⟨wc_pX1.1, (wc_t1 58 rfl rfl), xl_iX1, wc_pX1.2.1, wc_pX1.2.2, wc_d8⟩
theorem vX1_reset : xl_V mX1_reset := ⟨kX1_reset, (wc_t1 56 rfl rfl), (wc_t1 57 rfl rfl)⟩
def mX1_copyFrom : XI := (yX1_copyFrom, cX1_copyFrom, 2, none, 2, 52, 1)
theorem kX1_copyFrom : xl_K mX1_copyFrom := ⟨wc_pX1.1, (wc_t1 208 rfl rfl), xl_iX1, wc_pX1.2.1, wc_pX1.2.2, wc_d9⟩
theorem vX1_copyFrom : xl_V mX1_copyFrom := ⟨kX1_copyFrom, (wc_t1 206 rfl rfl), (wc_t1 207 rfl rfl)⟩
def mX1_comeEvent : XI := (yX1_comeEvent, cX1_comeEvent, 8, (some .int), 5, 126, 4)
theorem kX1_comeEvent : xl_K mX1_comeEvent := ⟨wc_pX1.1, (wc_t2 15 rfl rfl), xl_iX1, wc_pX1.2.1, wc_pX1.2.2, wc_d10⟩
theorem vX1_comeEvent : xl_V mX1_comeEvent := ⟨kX1_comeEvent, (wc_t2 13 rfl rfl), (wc_t2 14 rfl rfl)⟩
def mX1_comeMark : XI := (yX1_comeMark, cX1_comeMark, 3, none, 5, 123, 2)
theorem kX1_comeMark : xl_K mX1_comeMark := ⟨wc_pX1.1, (wc_t3 1 rfl rfl), xl_iX1, wc_pX1.2.1, wc_pX1.2.2, wc_d0⟩
theorem vX1_comeMark : xl_V mX1_comeMark := ⟨kX1_comeMark, (wc_t2 239 rfl rfl), (wc_t3 0 rfl rfl)⟩
def mX1_comeIdle : XI := (yX1_comeIdle, cX1_comeIdle, 2, none, 5, 122, 1)
theorem kX1_comeIdle : xl_K mX1_comeIdle := ⟨wc_pX1.1, (wc_t3 17 rfl rfl), xl_iX1, wc_pX1.2.1, wc_pX1.2.2, wc_d4⟩
theorem vX1_comeIdle : xl_V mX1_comeIdle := ⟨kX1_comeIdle, (wc_t3 15 rfl rfl), (wc_t3 16 rfl rfl)⟩
def mX1_note : XI := (yX1_note, cX1_note, 5, none, 2, 53, 3)
theorem kX1_note : xl_K mX1_note := ⟨wc_pX1.1, (wc_t2 20 rfl rfl), xl_iX1, wc_pX1.2.1, wc_pX1.2.2, wc_d2⟩
theorem vX1_note : xl_V mX1_note := ⟨kX1_note, (wc_t2 19 rfl rfl), (wc_0 _ (.head _))⟩
def mX1_playInput : XI := (yX1_playInput, cX1_playInput, 5, none, 5, 126, 2)
theorem kX1_playInput : xl_K mX1_playInput := ⟨wc_pX1.1, (wc_t3 133 rfl rfl), xl_iX1, wc_pX1.2.1, wc_pX1.2.2, wc_d11⟩
theorem vX1_playInput : xl_V mX1_playInput := ⟨kX1_playInput, (wc_t3 131 rfl rfl), (wc_t3 132 rfl rfl)⟩
def mX1_playEvent : XI := (yX1_playEvent, cX1_playEvent, 6, (some .int), 4, 101, 4)
theorem kX1_playEvent : xl_K mX1_playEvent := ⟨wc_pX1.1, (wc_t2 24 rfl rfl), xl_iX1, wc_pX1.2.1, wc_pX1.2.2, wc_d10⟩
theorem vX1_playEvent : xl_V mX1_playEvent := ⟨kX1_playEvent, (wc_t2 22 rfl rfl), (wc_t2 23 rfl rfl)⟩
def mX1_playMark : XI := (yX1_playMark, cX1_playMark, 3, none, 4, 101, 2)
theorem kX1_playMark : xl_K mX1_playMark := ⟨wc_pX1.1, (wc_t3 5 rfl rfl), xl_iX1, wc_pX1.2.1, wc_pX1.2.2, wc_d0⟩
theorem vX1_playMark : xl_V mX1_playMark := ⟨kX1_playMark, (wc_t3 3 rfl rfl), (wc_t3 4 rfl rfl)⟩
def mX1_playIdle : XI := (yX1_playIdle, cX1_playIdle, 2, none, 4, 101, 1)
theorem kX1_playIdle : xl_K mX1_playIdle := ⟨wc_pX1.1, (wc_t3 21 rfl rfl), xl_iX1, wc_pX1.2.1, wc_pX1.2.2, wc_d4⟩
theorem vX1_playIdle : xl_V mX1_playIdle := ⟨kX1_playIdle, (wc_t3 19 rfl rfl), (wc_t3 20 rfl rfl)⟩
def mX1_raiseMark : XI := (yX1_raiseMark, cX1_raiseMark, 3, none, 1, 23, 2)
theorem kX1_raiseMark : xl_K mX1_raiseMark := ⟨wc_pX1.1, (wc_t2 94 rfl rfl), xl_iX1, wc_pX1.2.1, wc_pX1.2.2, wc_d0⟩
theorem vX1_raiseMark : xl_V mX1_raiseMark := ⟨kX1_raiseMark, (wc_t2 93 rfl rfl), (wc_0 _ (.tail _ (.head _)))⟩
def mX1_fateOf : XI := (yX1_fateOf, cX1_fateOf, 2, (some .int), 0, 0, 1)
theorem kX1_fateOf : xl_K mX1_fateOf := ⟨wc_pX1.1, (wc_t2 28 rfl rfl), xl_iX1, wc_pX1.2.1, wc_pX1.2.2, wc_d12⟩
theorem vX1_fateOf : xl_V mX1_fateOf := ⟨kX1_fateOf, (wc_t2 26 rfl rfl), (wc_t2 27 rfl rfl)⟩
def mX1_isTakenOf : XI := (yX1_isTakenOf, cX1_isTakenOf, 4, (some .boolean), 1, 22, 2)
theorem kX1_isTakenOf : xl_K mX1_isTakenOf := ⟨wc_pX1.1, (wc_t3 69 rfl rfl), xl_iX1, wc_pX1.2.1, wc_pX1.2.2, wc_d13⟩
theorem vX1_isTakenOf : xl_V mX1_isTakenOf := ⟨kX1_isTakenOf, (wc_t3 67 rfl rfl), (wc_t3 68 rfl rfl)⟩
def mX1_hasResult : XI := (yX1_hasResult, cX1_hasResult, 2, (some .boolean), 1, 22, 1)
theorem kX1_hasResult : xl_K mX1_hasResult := ⟨wc_pX1.1, (wc_t2 61 rfl rfl), xl_iX1, wc_pX1.2.1, wc_pX1.2.2, wc_d5⟩
theorem vX1_hasResult : xl_V mX1_hasResult := ⟨kX1_hasResult, (wc_t2 59 rfl rfl), (wc_t2 60 rfl rfl)⟩
def mX1_isRipe : XI := (yX1_isRipe, cX1_isRipe, 3, (some .boolean), 1, 22, 2)
theorem kX1_isRipe : xl_K mX1_isRipe := ⟨wc_pX1.1, (wc_t2 86 rfl rfl), xl_iX1, wc_pX1.2.1, wc_pX1.2.2, wc_d13⟩
theorem vX1_isRipe : xl_V mX1_isRipe := ⟨kX1_isRipe, (wc_t2 84 rfl rfl), (wc_t2 85 rfl rfl)⟩
def mX1_isOver : XI := (yX1_isOver, cX1_isOver, 3, (some .boolean), 1, 22, 2)
theorem kX1_isOver : xl_K mX1_isOver := ⟨wc_pX1.1, (wc_t2 110 rfl rfl), xl_iX1, wc_pX1.2.1, wc_pX1.2.2, wc_d13⟩
theorem vX1_isOver : xl_V mX1_isOver := ⟨kX1_isOver, (wc_t2 108 rfl rfl), (wc_t2 109 rfl rfl)⟩
def mX1_ripening : XI := (yX1_ripening, cX1_ripening, 4, (some .int), 2, 44, 1)
theorem kX1_ripening : xl_K mX1_ripening := ⟨wc_pX1.1, (wc_t3 61 rfl rfl), xl_iX1, wc_pX1.2.1, wc_pX1.2.2, wc_d12⟩
theorem vX1_ripening : xl_V mX1_ripening := ⟨kX1_ripening, (wc_t3 59 rfl rfl), (wc_t3 60 rfl rfl)⟩
def mX1_leastMark : XI := (yX1_leastMark, cX1_leastMark, 5, (some .int), 1, 22, 1)
theorem kX1_leastMark : xl_K mX1_leastMark := ⟨wc_pX1.1, (wc_t2 102 rfl rfl), xl_iX1, wc_pX1.2.1, wc_pX1.2.2, wc_d12⟩
theorem vX1_leastMark : xl_V mX1_leastMark := ⟨kX1_leastMark, (wc_t2 100 rfl rfl), (wc_t2 101 rfl rfl)⟩
def mX1_sentOf : XI := (yX1_sentOf, cX1_sentOf, 4, (some .int), 1, 22, 1)
theorem kX1_sentOf : xl_K mX1_sentOf := ⟨wc_pX1.1, (wc_t3 35 rfl rfl), xl_iX1, wc_pX1.2.1, wc_pX1.2.2, wc_d12⟩
theorem vX1_sentOf : xl_V mX1_sentOf := ⟨kX1_sentOf, (wc_t3 33 rfl rfl), (wc_t3 34 rfl rfl)⟩
def mX1_touches : XI := (yX1_touches, cX1_touches, 4, (some .boolean), 1, 22, 3)
theorem kX1_touches : xl_K mX1_touches := ⟨wc_pX1.1, (wc_t2 44 rfl rfl), xl_iX1, wc_pX1.2.1, wc_pX1.2.2, wc_d14⟩
theorem vX1_touches : xl_V mX1_touches := ⟨kX1_touches, (wc_t2 43 rfl rfl), (wc_0 _ (.tail _ (.tail _ (.head _))))⟩
def mX1_firstTouched : XI := (yX1_firstTouched, cX1_firstTouched, 4, (some .int), 2, 45, 2)
theorem kX1_firstTouched : xl_K mX1_firstTouched := ⟨wc_pX1.1, (wc_t2 40 rfl rfl), xl_iX1, wc_pX1.2.1, wc_pX1.2.2, wc_d1⟩
theorem vX1_firstTouched : xl_V mX1_firstTouched := ⟨kX1_firstTouched, (wc_t2 38 rfl rfl), (wc_t2 39 rfl rfl)⟩
def mX1_touchedFrom : XI := (yX1_touchedFrom, cX1_touchedFrom, 6, (some .int), 2, 45, 3)
theorem kX1_touchedFrom : xl_K mX1_touchedFrom := ⟨wc_pX1.1, (wc_t2 49 rfl rfl), xl_iX1, wc_pX1.2.1, wc_pX1.2.2, wc_d15⟩
theorem vX1_touchedFrom : xl_V mX1_touchedFrom := ⟨kX1_touchedFrom, (wc_t2 47 rfl rfl), (wc_t2 48 rfl rfl)⟩
def mX1_melt : XI := (yX1_melt, cX1_melt, 8, none, 3, 74, 3)
theorem kX1_melt : xl_K mX1_melt := ⟨wc_pX1.1, (wc_t2 36 rfl rfl), xl_iX1, wc_pX1.2.1, wc_pX1.2.2, wc_d2⟩
theorem vX1_melt : xl_V mX1_melt := ⟨kX1_melt, (wc_t2 35 rfl rfl), (wc_0 _ (.tail _ (.tail _ (.tail _ (.head _)))))⟩
def mX1_placeFor : XI := (yX1_placeFor, cX1_placeFor, 6, (some .int), 1, 22, 2)
theorem kX1_placeFor : xl_K mX1_placeFor := ⟨wc_pX1.1, (wc_t2 53 rfl rfl), xl_iX1, wc_pX1.2.1, wc_pX1.2.2, wc_d1⟩
theorem vX1_placeFor : xl_V mX1_placeFor := ⟨kX1_placeFor, (wc_t2 52 rfl rfl), (wc_0 _ (.tail _ (.tail _ (.tail _ (.tail _ (.head _))))))⟩
def mX1_swallowNext : XI := (yX1_swallowNext, cX1_swallowNext, 3, none, 2, 52, 1)
theorem kX1_swallowNext : xl_K mX1_swallowNext := ⟨wc_pX1.1, (wc_t2 73 rfl rfl), xl_iX1, wc_pX1.2.1, wc_pX1.2.2, wc_d4⟩
theorem vX1_swallowNext : xl_V mX1_swallowNext := ⟨kX1_swallowNext, (wc_t2 72 rfl rfl), (wc_0 _ (.tail _ (.tail _ (.tail _ (.tail _ (.tail _ (.head _)))))))⟩
def mX1_kindOfNew : XI := (yX1_kindOfNew, cX1_kindOfNew, 3, (some .int), 2, 44, 1)
theorem kX1_kindOfNew : xl_K mX1_kindOfNew := ⟨wc_pX1.1, (wc_t2 82 rfl rfl), xl_iX1, wc_pX1.2.1, wc_pX1.2.2, wc_d12⟩
theorem vX1_kindOfNew : xl_V mX1_kindOfNew := ⟨kX1_kindOfNew, (wc_t2 81 rfl rfl), (wc_0 _ (.tail _ (.tail _ (.tail _ (.tail _ (.tail _ (.tail _ (.head _))))))))⟩
def mX1_rise : XI := (yX1_rise, cX1_rise, 6, none, 3, 76, 0)
theorem kX1_rise : xl_K mX1_rise := ⟨wc_pX1.1, (wc_t2 98 rfl rfl), xl_iX1, wc_pX1.2.1, wc_pX1.2.2, wc_d3⟩
theorem vX1_rise : xl_V mX1_rise := ⟨kX1_rise, (wc_t2 97 rfl rfl), (wc_0 _ (.tail _ (.tail _ (.tail _ (.tail _ (.tail _ (.tail _ (.tail _ (.head _)))))))))⟩
def mX1_turnOf : XI := (yX1_turnOf, cX1_turnOf, 2, (some .int), 1, 22, 1)
theorem kX1_turnOf : xl_K mX1_turnOf := ⟨wc_pX1.1, (wc_t2 114 rfl rfl), xl_iX1, wc_pX1.2.1, wc_pX1.2.2, wc_d12⟩
theorem vX1_turnOf : xl_V mX1_turnOf := ⟨kX1_turnOf, (wc_t2 113 rfl rfl), (wc_0 _ (.tail _ (.tail _ (.tail _ (.tail _ (.tail _ (.tail _ (.tail _ (.tail _ (.head _))))))))))⟩
def mX1_dueBehind : XI := (yX1_dueBehind, cX1_dueBehind, 7, (some .int), 2, 44, 2)
theorem kX1_dueBehind : xl_K mX1_dueBehind := ⟨wc_pX1.1, (wc_t2 106 rfl rfl), xl_iX1, wc_pX1.2.1, wc_pX1.2.2, wc_d1⟩
theorem vX1_dueBehind : xl_V mX1_dueBehind := ⟨kX1_dueBehind, (wc_t2 105 rfl rfl), (wc_0 _ (.tail _ (.tail _ (.tail _ (.tail _ (.tail _ (.tail _ (.tail _ (.tail _ (.tail _ (.head _)))))))))))⟩
def mX1_finish : XI := (yX1_finish, cX1_finish, 5, none, 2, 52, 1)
theorem kX1_finish : xl_K mX1_finish := ⟨wc_pX1.1, (wc_t2 118 rfl rfl), xl_iX1, wc_pX1.2.1, wc_pX1.2.2, wc_d4⟩
theorem vX1_finish : xl_V mX1_finish := ⟨kX1_finish, (wc_t2 117 rfl rfl), (wc_0 _ (.tail _ (.tail _ (.tail _ (.tail _ (.tail _ (.tail _ (.tail _ (.tail _ (.tail _ (.tail _ (.head _))))))))))))⟩
def mX1_takeBack : XI := (yX1_takeBack, cX1_takeBack, 2, none, 2, 47, 1)
theorem kX1_takeBack : xl_K mX1_takeBack := ⟨wc_pX1.1, (wc_t2 57 rfl rfl), xl_iX1, wc_pX1.2.1, wc_pX1.2.2, wc_d4⟩
theorem vX1_takeBack : xl_V mX1_takeBack := ⟨kX1_takeBack, (wc_t2 56 rfl rfl), (wc_0 _ (.tail _ (.tail _ (.tail _ (.tail _ (.tail _ (.tail _ (.tail _ (.tail _ (.tail _ (.tail _ (.tail _ (.head _)))))))))))))⟩
def mX1_announce : XI := (yX1_announce, cX1_announce, 3, none, 2, 47, 2)
theorem kX1_announce : xl_K mX1_announce := ⟨wc_pX1.1, (wc_t2 90 rfl rfl), xl_iX1, wc_pX1.2.1, wc_pX1.2.2, wc_d0⟩
theorem vX1_announce : xl_V mX1_announce := ⟨kX1_announce, (wc_t2 89 rfl rfl), (wc_0 _ (.tail _ (.tail _ (.tail _ (.tail _ (.tail _ (.tail _ (.tail _ (.tail _ (.tail _ (.tail _ (.tail _ (.tail _ (.head _))))))))))))))⟩
def mX1_send : XI := (yX1_send, cX1_send, 5, none, 1, 23, 2)
theorem kX1_send : xl_K mX1_send := ⟨wc_pX1.1, (wc_t2 65 rfl rfl), xl_iX1, wc_pX1.2.1, wc_pX1.2.2, wc_d0⟩
theorem vX1_send : xl_V mX1_send := ⟨kX1_send, (wc_t2 64 rfl rfl), (wc_0 _ (.tail _ (.tail _ (.tail _ (.tail _ (.tail _ (.tail _ (.tail _ (.tail _ (.tail _ (.tail _ (.tail _ (.tail _ (.tail _ (.head _)))))))))))))))⟩
def mX2_init : XI := (yX2_init, cX2_init, 2, none, 4, 98, 0)
theorem kX2_init : xl_K mX2_init := ⟨wc_pX2.1, (wc_t1 20 rfl rfl), xl_iX2, wc_pX2.2.1, wc_pX2.2.2, wc_d3⟩
def mX2_sign : XI := (yX2_sign, cX2_sign, 3, (some .int), 1, 21, 1)
theorem kX2_sign : xl_K mX2_sign := ⟨wc_pX2.1, (wc_t1 185 rfl rfl), xl_iX2, wc_pX2.2.1, wc_pX2.2.2, wc_d12⟩
theorem vX2_sign : xl_V mX2_sign := ⟨kX2_sign, (wc_t1 183 rfl rfl), (wc_t1 184 rfl rfl)⟩
def mX2_end : XI := (yX2_end, cX2_end, 2, (some .boolean), 0, 0, 1)
theorem kX2_end : xl_K mX2_end := ⟨wc_pX2.1, (wc_t1 193 rfl rfl), xl_iX2, wc_pX2.2.1, wc_pX2.2.2, wc_d5⟩
theorem vX2_end : xl_V mX2_end := ⟨kX2_end, (wc_t1 191 rfl rfl), (wc_t1 192 rfl rfl)⟩
def mX2_start : XI := (yX2_start, cX2_start, 5, (some .int), 4, 94, 4)
theorem kX2_start : xl_K mX2_start := ⟨wc_pX2.1, (wc_t1 197 rfl rfl), xl_iX2, wc_pX2.2.1, wc_pX2.2.2, wc_d10⟩
theorem vX2_start : xl_V mX2_start := ⟨kX2_start, (wc_t1 195 rfl rfl), (wc_t1 196 rfl rfl)⟩
def mX2_delays : XI := (yX2_delays, cX2_delays, 4, (some .int), 4, 94, 2)
theorem kX2_delays : xl_K mX2_delays := ⟨wc_pX2.1, (wc_t1 220 rfl rfl), xl_iX2, wc_pX2.2.1, wc_pX2.2.2, wc_d1⟩
theorem vX2_delays : xl_V mX2_delays := ⟨kX2_delays, (wc_t1 218 rfl rfl), (wc_t1 219 rfl rfl)⟩
def mX2_event : XI := (yX2_event, cX2_event, 8, (some .int), 6, 153, 4)
theorem kX2_event : xl_K mX2_event := ⟨wc_pX2.1, (wc_t1 233 rfl rfl), xl_iX2, wc_pX2.2.1, wc_pX2.2.2, wc_d10⟩
theorem vX2_event : xl_V mX2_event := ⟨kX2_event, (wc_t1 231 rfl rfl), (wc_t1 232 rfl rfl)⟩
def mX2_events : XI := (yX2_events, cX2_events, 7, (some .int), 7, 174, 0)
theorem kX2_events : xl_K mX2_events := ⟨wc_pX2.1, (wc_t2 143 rfl rfl), xl_iX2, wc_pX2.2.1, wc_pX2.2.2, wc_d16⟩
theorem vX2_events : xl_V mX2_events := ⟨kX2_events, (wc_t2 141 rfl rfl), (wc_t2 142 rfl rfl)⟩
def mX2_marks : XI := (yX2_marks, cX2_marks, 5, (some .int), 6, 145, 2)
theorem kX2_marks : xl_K mX2_marks := ⟨wc_pX2.1, (wc_t2 233 rfl rfl), xl_iX2, wc_pX2.2.1, wc_pX2.2.2, wc_d1⟩
theorem vX2_marks : xl_V mX2_marks := ⟨kX2_marks, (wc_t2 231 rfl rfl), (wc_t2 232 rfl rfl)⟩
def mX2_idles : XI := (yX2_idles, cX2_idles, 4, (some .int), 6, 143, 1)
theorem kX2_idles : xl_K mX2_idles := ⟨wc_pX2.1, (wc_t3 9 rfl rfl), xl_iX2, wc_pX2.2.1, wc_pX2.2.2, wc_d12⟩
theorem vX2_idles : xl_V mX2_idles := ⟨kX2_idles, (wc_t3 7 rfl rfl), (wc_t3 8 rfl rfl)⟩
def mX2_source : XI := (yX2_source, cX2_source, 4, (some .int), 1, 22, 2)
theorem kX2_source : xl_K mX2_source := ⟨wc_pX2.1, (wc_t3 200 rfl rfl), xl_iX2, wc_pX2.2.1, wc_pX2.2.2, wc_d1⟩
theorem vX2_source : xl_V mX2_source := ⟨kX2_source, (wc_t3 198 rfl rfl), (wc_t3 199 rfl rfl)⟩
def mX2_session : XI := (yX2_session, cX2_session, 3, (some .int), 2, 45, 2)
theorem kX2_session : xl_K mX2_session := ⟨wc_pX2.1, (wc_t4 28 rfl rfl), xl_iX2, wc_pX2.2.1, wc_pX2.2.2, wc_d1⟩
theorem vX2_session : xl_V mX2_session := ⟨kX2_session, (wc_t4 26 rfl rfl), (wc_t4 27 rfl rfl)⟩
def mX2_at : XI := (yX2_at, cX2_at, 4, (some .int), 3, 70, 2)
theorem kX2_at : xl_K mX2_at := ⟨wc_pX2.1, (wc_t3 25 rfl rfl), xl_iX2, wc_pX2.2.1, wc_pX2.2.2, wc_d1⟩
theorem vX2_at : xl_V mX2_at := ⟨kX2_at, (wc_t3 23 rfl rfl), (wc_t3 24 rfl rfl)⟩
def mX2_message : XI := (yX2_message, cX2_message, 5, (some .int), 1, 22, 2)
theorem kX2_message : xl_K mX2_message := ⟨wc_pX2.1, (wc_t4 38 rfl rfl), xl_iX2, wc_pX2.2.1, wc_pX2.2.2, wc_d1⟩
theorem vX2_message : xl_V mX2_message := ⟨kX2_message, (wc_t4 36 rfl rfl), (wc_t4 37 rfl rfl)⟩
def mX2_sent : XI := (yX2_sent, cX2_sent, 2, (some .int), 2, 45, 1)
theorem kX2_sent : xl_K mX2_sent := ⟨wc_pX2.1, (wc_t3 31 rfl rfl), xl_iX2, wc_pX2.2.1, wc_pX2.2.2, wc_d12⟩
theorem vX2_sent : xl_V mX2_sent := ⟨kX2_sent, (wc_t3 29 rfl rfl), (wc_t3 30 rfl rfl)⟩
def mX2_stands : XI := (yX2_stands, cX2_stands, 5, (some .int), 3, 68, 0)
theorem kX2_stands : xl_K mX2_stands := ⟨wc_pX2.1, (wc_t3 39 rfl rfl), xl_iX2, wc_pX2.2.1, wc_pX2.2.2, wc_d16⟩
theorem vX2_stands : xl_V mX2_stands := ⟨kX2_stands, (wc_t3 37 rfl rfl), (wc_t3 38 rfl rfl)⟩
def mX2_closed : XI := (yX2_closed, cX2_closed, 2, (some .int), 4, 94, 1)
theorem kX2_closed : xl_K mX2_closed := ⟨wc_pX2.1, (wc_t3 44 rfl rfl), xl_iX2, wc_pX2.2.1, wc_pX2.2.2, wc_d12⟩
theorem vX2_closed : xl_V mX2_closed := ⟨kX2_closed, (wc_t3 42 rfl rfl), (wc_t3 43 rfl rfl)⟩
def mX2_finals : XI := (yX2_finals, cX2_finals, 4, (some .int), 2, 45, 2)
theorem kX2_finals : xl_K mX2_finals := ⟨wc_pX2.1, (wc_t4 48 rfl rfl), xl_iX2, wc_pX2.2.1, wc_pX2.2.2, wc_d1⟩
theorem vX2_finals : xl_V mX2_finals := ⟨kX2_finals, (wc_t4 46 rfl rfl), (wc_t4 47 rfl rfl)⟩
def mX2_kinds : XI := (yX2_kinds, cX2_kinds, 5, (some .int), 2, 43, 1)
theorem kX2_kinds : xl_K mX2_kinds := ⟨wc_pX2.1, (wc_t3 52 rfl rfl), xl_iX2, wc_pX2.2.1, wc_pX2.2.2, wc_d12⟩
theorem vX2_kinds : xl_V mX2_kinds := ⟨kX2_kinds, (wc_t3 50 rfl rfl), (wc_t3 51 rfl rfl)⟩
def mX2_slow : XI := (yX2_slow, cX2_slow, 5, (some .int), 3, 68, 0)
theorem kX2_slow : xl_K mX2_slow := ⟨wc_pX2.1, (wc_t3 56 rfl rfl), xl_iX2, wc_pX2.2.1, wc_pX2.2.2, wc_d16⟩
theorem vX2_slow : xl_V mX2_slow := ⟨kX2_slow, (wc_t3 54 rfl rfl), (wc_t3 55 rfl rfl)⟩
def mX2_span : XI := (yX2_span, cX2_span, 11, (some .int), 4, 94, 2)
theorem kX2_span : xl_K mX2_span := ⟨wc_pX2.1, (wc_t3 65 rfl rfl), xl_iX2, wc_pX2.2.1, wc_pX2.2.2, wc_d1⟩
theorem vX2_span : xl_V mX2_span := ⟨kX2_span, (wc_t3 63 rfl rfl), (wc_t3 64 rfl rfl)⟩
def mX2_taken : XI := (yX2_taken, cX2_taken, 1, (some .int), 4, 94, 0)
theorem kX2_taken : xl_K mX2_taken := ⟨wc_pX2.1, (wc_t3 73 rfl rfl), xl_iX2, wc_pX2.2.1, wc_pX2.2.2, wc_d16⟩
theorem vX2_taken : xl_V mX2_taken := ⟨kX2_taken, (wc_t3 71 rfl rfl), (wc_t3 72 rfl rfl)⟩
def mX2_holds : XI := (yX2_holds, cX2_holds, 6, (some .int), 3, 68, 0)
theorem kX2_holds : xl_K mX2_holds := ⟨wc_pX2.1, (wc_t3 77 rfl rfl), xl_iX2, wc_pX2.2.1, wc_pX2.2.2, wc_d16⟩
theorem vX2_holds : xl_V mX2_holds := ⟨kX2_holds, (wc_t3 75 rfl rfl), (wc_t3 76 rfl rfl)⟩
def mX2_next : XI := (yX2_next, cX2_next, 5, (some .int), 2, 44, 0)
theorem kX2_next : xl_K mX2_next := ⟨wc_pX2.1, (wc_t3 82 rfl rfl), xl_iX2, wc_pX2.2.1, wc_pX2.2.2, wc_d16⟩
theorem vX2_next : xl_V mX2_next := ⟨kX2_next, (wc_t3 80 rfl rfl), (wc_t3 81 rfl rfl)⟩
def mX2_ahead : XI := (yX2_ahead, cX2_ahead, 4, (some .int), 3, 67, 1)
theorem kX2_ahead : xl_K mX2_ahead := ⟨wc_pX2.1, (wc_t3 87 rfl rfl), xl_iX2, wc_pX2.2.1, wc_pX2.2.2, wc_d12⟩
theorem vX2_ahead : xl_V mX2_ahead := ⟨kX2_ahead, (wc_t3 85 rfl rfl), (wc_t3 86 rfl rfl)⟩
def mX2_would : XI := (yX2_would, cX2_would, 8, (some .int), 5, 126, 4)
theorem kX2_would : xl_K mX2_would := ⟨wc_pX2.1, (wc_t3 92 rfl rfl), xl_iX2, wc_pX2.2.1, wc_pX2.2.2, wc_d10⟩
theorem vX2_would : xl_V mX2_would := ⟨kX2_would, (wc_t3 90 rfl rfl), (wc_t3 91 rfl rfl)⟩
def mX2_batch : XI := (yX2_batch, cX2_batch, 11, (some .int), 4, 94, 1)
theorem kX2_batch : xl_K mX2_batch := ⟨wc_pX2.1, (wc_t3 97 rfl rfl), xl_iX2, wc_pX2.2.1, wc_pX2.2.2, wc_d12⟩
theorem vX2_batch : xl_V mX2_batch := ⟨kX2_batch, (wc_t3 95 rfl rfl), (wc_t3 96 rfl rfl)⟩
def mX2_latest : XI := (yX2_latest, cX2_latest, 5, (some .int), 2, 44, 0)
theorem kX2_latest : xl_K mX2_latest := ⟨wc_pX2.1, (wc_t3 113 rfl rfl), xl_iX2, wc_pX2.2.1, wc_pX2.2.2, wc_d16⟩
theorem vX2_latest : xl_V mX2_latest := ⟨kX2_latest, (wc_t3 111 rfl rfl), (wc_t3 112 rfl rfl)⟩
def mX2_parts : XI := (yX2_parts, cX2_parts, 6, (some .int), 3, 70, 2)
theorem kX2_parts : xl_K mX2_parts := ⟨wc_pX2.1, (wc_t3 117 rfl rfl), xl_iX2, wc_pX2.2.1, wc_pX2.2.2, wc_d1⟩
theorem vX2_parts : xl_V mX2_parts := ⟨kX2_parts, (wc_t3 115 rfl rfl), (wc_t3 116 rfl rfl)⟩
def mX2_again : XI := (yX2_again, cX2_again, 5, (some .int), 7, 176, 3)
theorem kX2_again : xl_K mX2_again := ⟨wc_pX2.1, (wc_t3 125 rfl rfl), xl_iX2, wc_pX2.2.1, wc_pX2.2.2, wc_d15⟩
theorem vX2_again : xl_V mX2_again := ⟨kX2_again, (wc_t3 123 rfl rfl), (wc_t3 124 rfl rfl)⟩
def mX2_without : XI := (yX2_without, cX2_without, 2, (some .int), 7, 176, 1)
theorem kX2_without : xl_K mX2_without := ⟨wc_pX2.1, (wc_t3 137 rfl rfl), xl_iX2, wc_pX2.2.1, wc_pX2.2.2, wc_d12⟩
theorem vX2_without : xl_V mX2_without := ⟨kX2_without, (wc_t3 135 rfl rfl), (wc_t3 136 rfl rfl)⟩
def mX2_input : XI := (yX2_input, cX2_input, 3, (some .int), 1, 22, 2)
theorem kX2_input : xl_K mX2_input := ⟨wc_pX2.1, (wc_t4 55 rfl rfl), xl_iX2, wc_pX2.2.1, wc_pX2.2.2, wc_d1⟩
theorem vX2_input : xl_V mX2_input := ⟨kX2_input, (wc_t4 53 rfl rfl), (wc_t4 54 rfl rfl)⟩
def mX2_day : XI := (yX2_day, cX2_day, 8, (some .int), 7, 174, 0)
theorem kX2_day : xl_K mX2_day := ⟨wc_pX2.1, (wc_t3 141 rfl rfl), xl_iX2, wc_pX2.2.1, wc_pX2.2.2, wc_d16⟩
theorem vX2_day : xl_V mX2_day := ⟨kX2_day, (wc_t3 139 rfl rfl), (wc_t3 140 rfl rfl)⟩
def mX2_undo : XI := (yX2_undo, cX2_undo, 1, (some .int), 3, 73, 0)
theorem kX2_undo : xl_K mX2_undo := ⟨wc_pX2.1, (wc_t3 169 rfl rfl), xl_iX2, wc_pX2.2.1, wc_pX2.2.2, wc_d16⟩
theorem vX2_undo : xl_V mX2_undo := ⟨kX2_undo, (wc_t3 167 rfl rfl), (wc_t3 168 rfl rfl)⟩
def mX2_years : XI := (yX2_years, cX2_years, 11, (some .int), 5, 126, 2)
theorem kX2_years : xl_K mX2_years := ⟨wc_pX2.1, (wc_t3 173 rfl rfl), xl_iX2, wc_pX2.2.1, wc_pX2.2.2, wc_d1⟩
theorem vX2_years : xl_V mX2_years := ⟨kX2_years, (wc_t3 171 rfl rfl), (wc_t3 172 rfl rfl)⟩
def mX2_keep : XI := (yX2_keep, cX2_keep, 3, (some .boolean), 3, 73, 1)
theorem kX2_keep : xl_K mX2_keep := ⟨wc_pX2.1, (wc_t3 184 rfl rfl), xl_iX2, wc_pX2.2.1, wc_pX2.2.2, wc_d5⟩
theorem vX2_keep : xl_V mX2_keep := ⟨kX2_keep, (wc_t3 182 rfl rfl), (wc_t3 183 rfl rfl)⟩
def mX2_back : XI := (yX2_back, cX2_back, 2, (some .boolean), 3, 73, 1)
theorem kX2_back : xl_K mX2_back := ⟨wc_pX2.1, (wc_t3 188 rfl rfl), xl_iX2, wc_pX2.2.1, wc_pX2.2.2, wc_d5⟩
theorem vX2_back : xl_V mX2_back := ⟨kX2_back, (wc_t3 186 rfl rfl), (wc_t3 187 rfl rfl)⟩
def mX2_count : XI := (yX2_count, cX2_count, 2, (some .int), 0, 0, 1)
theorem kX2_count : xl_K mX2_count := ⟨wc_pX2.1, (wc_t3 192 rfl rfl), xl_iX2, wc_pX2.2.1, wc_pX2.2.2, wc_d12⟩
theorem vX2_count : xl_V mX2_count := ⟨kX2_count, (wc_t3 190 rfl rfl), (wc_t3 191 rfl rfl)⟩
def mX2_row : XI := (yX2_row, cX2_row, 2, (some .long), 0, 0, 1)
theorem kX2_row : xl_K mX2_row := ⟨wc_pX2.1, (wc_t4 62 rfl rfl), xl_iX2, wc_pX2.2.1, wc_pX2.2.2, wc_d17⟩
theorem vX2_row : xl_V mX2_row := ⟨kX2_row, (wc_t4 60 rfl rfl), (wc_t4 61 rfl rfl)⟩
def mX2_isKey : XI := (yX2_isKey, cX2_isKey, 1, (some .boolean), 0, 0, 1)
theorem kX2_isKey : xl_K mX2_isKey := ⟨wc_pX2.1, (wc_t2 4 rfl rfl), xl_iX2, wc_pX2.2.1, wc_pX2.2.2, wc_d5⟩
theorem vX2_isKey : xl_U mX2_isKey := ⟨kX2_isKey, (wc_t2 3 rfl rfl)⟩
def mX2_isTime : XI := (yX2_isTime, cX2_isTime, 1, (some .boolean), 0, 0, 1)
theorem kX2_isTime : xl_K mX2_isTime := ⟨wc_pX2.1, (wc_t2 7 rfl rfl), xl_iX2, wc_pX2.2.1, wc_pX2.2.2, wc_d5⟩
theorem vX2_isTime : xl_U mX2_isTime := ⟨kX2_isTime, (wc_t2 6 rfl rfl)⟩
def mX2_isSource : XI := (yX2_isSource, cX2_isSource, 2, (some .boolean), 0, 0, 1)
theorem kX2_isSource : xl_K mX2_isSource := ⟨wc_pX2.1, (wc_t1 224 rfl rfl), xl_iX2, wc_pX2.2.1, wc_pX2.2.2, wc_d5⟩
theorem vX2_isSource : xl_V mX2_isSource := ⟨kX2_isSource, (wc_t1 223 rfl rfl), (wc_0 _ (.tail _ (.tail _ (.tail _ (.tail _ (.tail _ (.tail _ (.tail _ (.tail _ (.tail _ (.tail _ (.tail _ (.tail _ (.tail _ (.tail _ (.head _))))))))))))))))⟩
def mX2_isEvent : XI := (yX2_isEvent, cX2_isEvent, 5, (some .boolean), 1, 21, 4)
theorem kX2_isEvent : xl_K mX2_isEvent := ⟨wc_pX2.1, (wc_t2 1 rfl rfl), xl_iX2, wc_pX2.2.1, wc_pX2.2.2, wc_d18⟩
theorem vX2_isEvent : xl_V mX2_isEvent := ⟨kX2_isEvent, (wc_t2 0 rfl rfl), (wc_0 _ (.tail _ (.tail _ (.tail _ (.tail _ (.tail _ (.tail _ (.tail _ (.tail _ (.tail _ (.tail _ (.tail _ (.tail _ (.tail _ (.tail _ (.tail _ (.head _)))))))))))))))))⟩
def mX2_areSettings : XI := (yX2_areSettings, cX2_areSettings, 3, (some .boolean), 0, 0, 3)
theorem kX2_areSettings : xl_K mX2_areSettings := ⟨wc_pX2.1, (wc_t1 200 rfl rfl), xl_iX2, wc_pX2.2.1, wc_pX2.2.2, wc_d14⟩
theorem vX2_areSettings : xl_U mX2_areSettings := ⟨kX2_areSettings, (wc_t1 199 rfl rfl)⟩
def mX2_eventRefusal : XI := (yX2_eventRefusal, cX2_eventRefusal, 5, (some .int), 2, 45, 4)
theorem kX2_eventRefusal : xl_K mX2_eventRefusal := ⟨wc_pX2.1, (wc_t1 237 rfl rfl), xl_iX2, wc_pX2.2.1, wc_pX2.2.2, wc_d10⟩
theorem vX2_eventRefusal : xl_V mX2_eventRefusal := ⟨kX2_eventRefusal, (wc_t1 236 rfl rfl), (wc_0 _ (.tail _ (.tail _ (.tail _ (.tail _ (.tail _ (.tail _ (.tail _ (.tail _ (.tail _ (.tail _ (.tail _ (.tail _ (.tail _ (.tail _ (.tail _ (.tail _ (.head _))))))))))))))))))⟩
def mX2_markRefusal : XI := (yX2_markRefusal, cX2_markRefusal, 3, (some .int), 1, 22, 2)
theorem kX2_markRefusal : xl_K mX2_markRefusal := ⟨wc_pX2.1, (wc_t2 237 rfl rfl), xl_iX2, wc_pX2.2.1, wc_pX2.2.2, wc_d1⟩
theorem vX2_markRefusal : xl_V mX2_markRefusal := ⟨kX2_markRefusal, (wc_t2 236 rfl rfl), (wc_0 _ (.tail _ (.tail _ (.tail _ (.tail _ (.tail _ (.tail _ (.tail _ (.tail _ (.tail _ (.tail _ (.tail _ (.tail _ (.tail _ (.tail _ (.tail _ (.tail _ (.tail _ (.head _)))))))))))))))))))⟩
def mX2_idleRefusal : XI := (yX2_idleRefusal, cX2_idleRefusal, 2, (some .int), 1, 22, 1)
theorem kX2_idleRefusal : xl_K mX2_idleRefusal := ⟨wc_pX2.1, (wc_t3 13 rfl rfl), xl_iX2, wc_pX2.2.1, wc_pX2.2.2, wc_d12⟩
theorem vX2_idleRefusal : xl_V mX2_idleRefusal := ⟨kX2_idleRefusal, (wc_t3 12 rfl rfl), (wc_0 _ (.tail _ (.tail _ (.tail _ (.tail _ (.tail _ (.tail _ (.tail _ (.tail _ (.tail _ (.tail _ (.tail _ (.tail _ (.tail _ (.tail _ (.tail _ (.tail _ (.tail _ (.tail _ (.head _))))))))))))))))))))⟩
def mX2_inputRefusal : XI := (yX2_inputRefusal, cX2_inputRefusal, 1, (some .int), 0, 0, 0)
theorem kX2_inputRefusal : xl_K mX2_inputRefusal := ⟨wc_pX2.1, (wc_t2 11 rfl rfl), xl_iX2, wc_pX2.2.1, wc_pX2.2.2, wc_d16⟩
theorem vX2_inputRefusal : xl_V mX2_inputRefusal := ⟨kX2_inputRefusal, (wc_t2 10 rfl rfl), (wc_0 _ (.tail _ (.tail _ (.tail _ (.tail _ (.tail _ (.tail _ (.tail _ (.tail _ (.tail _ (.tail _ (.tail _ (.tail _ (.tail _ (.tail _ (.tail _ (.tail _ (.tail _ (.tail _ (.tail _ (.head _)))))))))))))))))))))⟩
def mX2_isOfLatest : XI := (yX2_isOfLatest, cX2_isOfLatest, 3, (some .boolean), 0, 0, 3)
theorem kX2_isOfLatest : xl_K mX2_isOfLatest := ⟨wc_pX2.1, (wc_t4 41 rfl rfl), xl_iX2, wc_pX2.2.1, wc_pX2.2.2, wc_d14⟩
theorem vX2_isOfLatest : xl_U mX2_isOfLatest := ⟨kX2_isOfLatest, (wc_t4 40 rfl rfl)⟩
def mX2_shifted : XI := (yX2_shifted, cX2_shifted, 4, (some .int), 1, 22, 3)
theorem kX2_shifted : xl_K mX2_shifted := ⟨wc_pX2.1, (wc_t4 31 rfl rfl), xl_iX2, wc_pX2.2.1, wc_pX2.2.2, wc_d19⟩
theorem vX2_shifted : xl_U mX2_shifted := ⟨kX2_shifted, (wc_t4 30 rfl rfl)⟩
def mX2_tellNothing : XI := (yX2_tellNothing, cX2_tellNothing, 1, none, 0, 0, 0)
theorem kX2_tellNothing : xl_K mX2_tellNothing := ⟨wc_pX2.1, (wc_t2 135 rfl rfl), xl_iX2, wc_pX2.2.1, wc_pX2.2.2, wc_d3⟩
theorem vX2_tellNothing : xl_V mX2_tellNothing := ⟨kX2_tellNothing, (wc_t2 134 rfl rfl), (wc_0 _ (.tail _ (.tail _ (.tail _ (.tail _ (.tail _ (.tail _ (.tail _ (.tail _ (.tail _ (.tail _ (.tail _ (.tail _ (.tail _ (.tail _ (.tail _ (.tail _ (.tail _ (.tail _ (.tail _ (.tail _ (.head _))))))))))))))))))))))⟩
def mX2_tellMore : XI := (yX2_tellMore, cX2_tellMore, 3, none, 0, 0, 1)
theorem kX2_tellMore : xl_K mX2_tellMore := ⟨wc_pX2.1, (wc_t2 139 rfl rfl), xl_iX2, wc_pX2.2.1, wc_pX2.2.2, wc_d20⟩
theorem vX2_tellMore : xl_V mX2_tellMore := ⟨kX2_tellMore, (wc_t2 138 rfl rfl), (wc_0 _ (.tail _ (.tail _ (.tail _ (.tail _ (.tail _ (.tail _ (.tail _ (.tail _ (.tail _ (.tail _ (.tail _ (.tail _ (.tail _ (.tail _ (.tail _ (.tail _ (.tail _ (.tail _ (.tail _ (.tail _ (.tail _ (.head _)))))))))))))))))))))))⟩
def mX2_tellOne : XI := (yX2_tellOne, cX2_tellOne, 3, none, 1, 22, 1)
theorem kX2_tellOne : xl_K mX2_tellOne := ⟨wc_pX2.1, (wc_t2 131 rfl rfl), xl_iX2, wc_pX2.2.1, wc_pX2.2.2, wc_d20⟩
theorem vX2_tellOne : xl_V mX2_tellOne := ⟨kX2_tellOne, (wc_t2 130 rfl rfl), (wc_0 _ (.tail _ (.tail _ (.tail _ (.tail _ (.tail _ (.tail _ (.tail _ (.tail _ (.tail _ (.tail _ (.tail _ (.tail _ (.tail _ (.tail _ (.tail _ (.tail _ (.tail _ (.tail _ (.tail _ (.tail _ (.tail _ (.tail _ (.head _))))))))))))))))))))))))⟩
def mX2_tellTwo : XI := (yX2_tellTwo, cX2_tellTwo, 5, none, 2, 44, 2)
theorem kX2_tellTwo : xl_K mX2_tellTwo := ⟨wc_pX2.1, (wc_t2 127 rfl rfl), xl_iX2, wc_pX2.2.1, wc_pX2.2.2, wc_d21⟩
theorem vX2_tellTwo : xl_V mX2_tellTwo := ⟨kX2_tellTwo, (wc_t2 126 rfl rfl), (wc_0 _ (.tail _ (.tail _ (.tail _ (.tail _ (.tail _ (.tail _ (.tail _ (.tail _ (.tail _ (.tail _ (.tail _ (.tail _ (.tail _ (.tail _ (.tail _ (.tail _ (.tail _ (.tail _ (.tail _ (.tail _ (.tail _ (.tail _ (.tail _ (.head _)))))))))))))))))))))))))⟩
def mX2_tellThree : XI := (yX2_tellThree, cX2_tellThree, 7, none, 3, 68, 3)
theorem kX2_tellThree : xl_K mX2_tellThree := ⟨wc_pX2.1, (wc_t3 48 rfl rfl), xl_iX2, wc_pX2.2.1, wc_pX2.2.2, wc_d22⟩
theorem vX2_tellThree : xl_V mX2_tellThree := ⟨kX2_tellThree, (wc_t3 47 rfl rfl), (wc_0 _ (.tail _ (.tail _ (.tail _ (.tail _ (.tail _ (.tail _ (.tail _ (.tail _ (.tail _ (.tail _ (.tail _ (.tail _ (.tail _ (.tail _ (.tail _ (.tail _ (.tail _ (.tail _ (.tail _ (.tail _ (.tail _ (.tail _ (.tail _ (.tail _ (.head _))))))))))))))))))))))))))⟩
def mX2_putSign : XI := (yX2_putSign, cX2_putSign, 2, none, 0, 0, 1)
theorem kX2_putSign : xl_K mX2_putSign := ⟨wc_pX2.1, (wc_t1 189 rfl rfl), xl_iX2, wc_pX2.2.1, wc_pX2.2.2, wc_d4⟩
theorem vX2_putSign : xl_V mX2_putSign := ⟨kX2_putSign, (wc_t1 188 rfl rfl), (wc_0 _ (.tail _ (.tail _ (.tail _ (.tail _ (.tail _ (.tail _ (.tail _ (.tail _ (.tail _ (.tail _ (.tail _ (.tail _ (.tail _ (.tail _ (.tail _ (.tail _ (.tail _ (.tail _ (.tail _ (.tail _ (.tail _ (.tail _ (.tail _ (.tail _ (.tail _ (.head _)))))))))))))))))))))))))))⟩
def mX2_takeText : XI := (yX2_takeText, cX2_takeText, 2, (some .int), 0, 0, 0)
theorem kX2_takeText : xl_K mX2_takeText := ⟨wc_pX2.1, (wc_t2 147 rfl rfl), xl_iX2, wc_pX2.2.1, wc_pX2.2.2, wc_d16⟩
theorem vX2_takeText : xl_V mX2_takeText := ⟨kX2_takeText, (wc_t2 146 rfl rfl), (wc_0 _ (.tail _ (.tail _ (.tail _ (.tail _ (.tail _ (.tail _ (.tail _ (.tail _ (.tail _ (.tail _ (.tail _ (.tail _ (.tail _ (.tail _ (.tail _ (.tail _ (.tail _ (.tail _ (.tail _ (.tail _ (.tail _ (.tail _ (.tail _ (.tail _ (.tail _ (.tail _ (.head _))))))))))))))))))))))))))))⟩
def mX2_signAt : XI := (yX2_signAt, cX2_signAt, 2, (some .int), 0, 0, 1)
theorem kX2_signAt : xl_K mX2_signAt := ⟨wc_pX2.1, (wc_t2 170 rfl rfl), xl_iX2, wc_pX2.2.1, wc_pX2.2.2, wc_d12⟩
theorem vX2_signAt : xl_V mX2_signAt := ⟨kX2_signAt, (wc_t2 169 rfl rfl), (wc_0 _ (.tail _ (.tail _ (.tail _ (.tail _ (.tail _ (.tail _ (.tail _ (.tail _ (.tail _ (.tail _ (.tail _ (.tail _ (.tail _ (.tail _ (.tail _ (.tail _ (.tail _ (.tail _ (.tail _ (.tail _ (.tail _ (.tail _ (.tail _ (.tail _ (.tail _ (.tail _ (.tail _ (.head _)))))))))))))))))))))))))))))⟩
def mX2_fits : XI := (yX2_fits, cX2_fits, 3, (some .boolean), 0, 0, 2)
theorem kX2_fits : xl_K mX2_fits := ⟨wc_pX2.1, (wc_t2 212 rfl rfl), xl_iX2, wc_pX2.2.1, wc_pX2.2.2, wc_d23⟩
theorem vX2_fits : xl_V mX2_fits := ⟨kX2_fits, (wc_t2 211 rfl rfl), (wc_0 _ (.tail _ (.tail _ (.tail _ (.tail _ (.tail _ (.tail _ (.tail _ (.tail _ (.tail _ (.tail _ (.tail _ (.tail _ (.tail _ (.tail _ (.tail _ (.tail _ (.tail _ (.tail _ (.tail _ (.tail _ (.tail _ (.tail _ (.tail _ (.tail _ (.tail _ (.tail _ (.tail _ (.tail _ (.head _))))))))))))))))))))))))))))))⟩
def mX2_formMisfit : XI := (yX2_formMisfit, cX2_formMisfit, 5, (some .int), 5, 106, 3)
theorem kX2_formMisfit : xl_K mX2_formMisfit := ⟨wc_pX2.1, (wc_t2 156 rfl rfl), xl_iX2, wc_pX2.2.1, wc_pX2.2.2, wc_d24⟩
theorem vX2_formMisfit : xl_V mX2_formMisfit := ⟨kX2_formMisfit, (wc_t2 155 rfl rfl), (wc_0 _ (.tail _ (.tail _ (.tail _ (.tail _ (.tail _ (.tail _ (.tail _ (.tail _ (.tail _ (.tail _ (.tail _ (.tail _ (.tail _ (.tail _ (.tail _ (.tail _ (.tail _ (.tail _ (.tail _ (.tail _ (.tail _ (.tail _ (.tail _ (.tail _ (.tail _ (.tail _ (.tail _ (.tail _ (.tail _ (.head _)))))))))))))))))))))))))))))))⟩
def mX2_eventsMisfit : XI := (yX2_eventsMisfit, cX2_eventsMisfit, 4, (some .int), 6, 130, 1)
theorem kX2_eventsMisfit : xl_K mX2_eventsMisfit := ⟨wc_pX2.1, (wc_t2 151 rfl rfl), xl_iX2, wc_pX2.2.1, wc_pX2.2.2, wc_d12⟩
theorem vX2_eventsMisfit : xl_V mX2_eventsMisfit := ⟨kX2_eventsMisfit, (wc_t2 150 rfl rfl), (wc_0 _ (.tail _ (.tail _ (.tail _ (.tail _ (.tail _ (.tail _ (.tail _ (.tail _ (.tail _ (.tail _ (.tail _ (.tail _ (.tail _ (.tail _ (.tail _ (.tail _ (.tail _ (.tail _ (.tail _ (.tail _ (.tail _ (.tail _ (.tail _ (.tail _ (.tail _ (.tail _ (.tail _ (.tail _ (.tail _ (.tail _ (.head _))))))))))))))))))))))))))))))))⟩
def mX2_dayMisfit : XI := (yX2_dayMisfit, cX2_dayMisfit, 6, (some .int), 6, 130, 1)
theorem kX2_dayMisfit : xl_K mX2_dayMisfit := ⟨wc_pX2.1, (wc_t3 145 rfl rfl), xl_iX2, wc_pX2.2.1, wc_pX2.2.2, wc_d12⟩
theorem vX2_dayMisfit : xl_V mX2_dayMisfit := ⟨kX2_dayMisfit, (wc_t3 144 rfl rfl), (wc_0 _ (.tail _ (.tail _ (.tail _ (.tail _ (.tail _ (.tail _ (.tail _ (.tail _ (.tail _ (.tail _ (.tail _ (.tail _ (.tail _ (.tail _ (.tail _ (.tail _ (.tail _ (.tail _ (.tail _ (.tail _ (.tail _ (.tail _ (.tail _ (.tail _ (.tail _ (.tail _ (.tail _ (.tail _ (.tail _ (.tail _ (.tail _ (.head _)))))))))))))))))))))))))))))))))⟩
def mX2_actForm : XI := (yX2_actForm, cX2_actForm, 2, (some (.object "java/lang/String")), 1, 21, 1)
theorem kX2_actForm : xl_K mX2_actForm := ⟨wc_pX2.1, (wc_t3 149 rfl rfl), xl_iX2, wc_pX2.2.1, wc_pX2.2.2, wc_d25⟩
theorem vX2_actForm : xl_V mX2_actForm := ⟨kX2_actForm, (wc_t3 148 rfl rfl), (wc_0 _ (.tail _ (.tail _ (.tail _ (.tail _ (.tail _ (.tail _ (.tail _ (.tail _ (.tail _ (.tail _ (.tail _ (.tail _ (.tail _ (.tail _ (.tail _ (.tail _ (.tail _ (.tail _ (.tail _ (.tail _ (.tail _ (.tail _ (.tail _ (.tail _ (.tail _ (.tail _ (.tail _ (.tail _ (.tail _ (.tail _ (.tail _ (.tail _ (.head _))))))))))))))))))))))))))))))))))⟩
def mX2_numberAt : XI := (yX2_numberAt, cX2_numberAt, 5, (some .int), 1, 21, 2)
theorem kX2_numberAt : xl_K mX2_numberAt := ⟨wc_pX2.1, (wc_t2 224 rfl rfl), xl_iX2, wc_pX2.2.1, wc_pX2.2.2, wc_d1⟩
theorem vX2_numberAt : xl_V mX2_numberAt := ⟨kX2_numberAt, (wc_t2 223 rfl rfl), (wc_0 _ (.tail _ (.tail _ (.tail _ (.tail _ (.tail _ (.tail _ (.tail _ (.tail _ (.tail _ (.tail _ (.tail _ (.tail _ (.tail _ (.tail _ (.tail _ (.tail _ (.tail _ (.tail _ (.tail _ (.tail _ (.tail _ (.tail _ (.tail _ (.tail _ (.tail _ (.tail _ (.tail _ (.tail _ (.tail _ (.tail _ (.tail _ (.tail _ (.tail _ (.head _)))))))))))))))))))))))))))))))))))⟩
def mX2_keyAt : XI := (yX2_keyAt, cX2_keyAt, 2, (some .int), 1, 21, 1)
theorem kX2_keyAt : xl_K mX2_keyAt := ⟨wc_pX2.1, (wc_t2 220 rfl rfl), xl_iX2, wc_pX2.2.1, wc_pX2.2.2, wc_d12⟩
theorem vX2_keyAt : xl_V mX2_keyAt := ⟨kX2_keyAt, (wc_t2 219 rfl rfl), (wc_0 _ (.tail _ (.tail _ (.tail _ (.tail _ (.tail _ (.tail _ (.tail _ (.tail _ (.tail _ (.tail _ (.tail _ (.tail _ (.tail _ (.tail _ (.tail _ (.tail _ (.tail _ (.tail _ (.tail _ (.tail _ (.tail _ (.tail _ (.tail _ (.tail _ (.tail _ (.tail _ (.tail _ (.tail _ (.tail _ (.tail _ (.tail _ (.tail _ (.tail _ (.tail _ (.head _))))))))))))))))))))))))))))))))))))⟩
def mX2_valueAt : XI := (yX2_valueAt, cX2_valueAt, 3, (some .int), 2, 45, 1)
theorem kX2_valueAt : xl_K mX2_valueAt := ⟨wc_pX2.1, (wc_t2 228 rfl rfl), xl_iX2, wc_pX2.2.1, wc_pX2.2.2, wc_d12⟩
theorem vX2_valueAt : xl_V mX2_valueAt := ⟨kX2_valueAt, (wc_t2 227 rfl rfl), (wc_0 _ (.tail _ (.tail _ (.tail _ (.tail _ (.tail _ (.tail _ (.tail _ (.tail _ (.tail _ (.tail _ (.tail _ (.tail _ (.tail _ (.tail _ (.tail _ (.tail _ (.tail _ (.tail _ (.tail _ (.tail _ (.tail _ (.tail _ (.tail _ (.tail _ (.tail _ (.tail _ (.tail _ (.tail _ (.tail _ (.tail _ (.tail _ (.tail _ (.tail _ (.tail _ (.tail _ (.head _)))))))))))))))))))))))))))))))))))))⟩
def mX2_comeEventAt : XI := (yX2_comeEventAt, cX2_comeEventAt, 2, (some .int), 6, 153, 1)
theorem kX2_comeEventAt : xl_K mX2_comeEventAt := ⟨wc_pX2.1, (wc_t2 216 rfl rfl), xl_iX2, wc_pX2.2.1, wc_pX2.2.2, wc_d12⟩
theorem vX2_comeEventAt : xl_V mX2_comeEventAt := ⟨kX2_comeEventAt, (wc_t2 215 rfl rfl), (wc_0 _ (.tail _ (.tail _ (.tail _ (.tail _ (.tail _ (.tail _ (.tail _ (.tail _ (.tail _ (.tail _ (.tail _ (.tail _ (.tail _ (.tail _ (.tail _ (.tail _ (.tail _ (.tail _ (.tail _ (.tail _ (.tail _ (.tail _ (.tail _ (.tail _ (.tail _ (.tail _ (.tail _ (.tail _ (.tail _ (.tail _ (.tail _ (.tail _ (.tail _ (.tail _ (.tail _ (.tail _ (.head _))))))))))))))))))))))))))))))))))))))⟩
def mX2_actRefusal : XI := (yX2_actRefusal, cX2_actRefusal, 2, (some .int), 3, 69, 1)
theorem kX2_actRefusal : xl_K mX2_actRefusal := ⟨wc_pX2.1, (wc_t3 161 rfl rfl), xl_iX2, wc_pX2.2.1, wc_pX2.2.2, wc_d12⟩
theorem vX2_actRefusal : xl_V mX2_actRefusal := ⟨kX2_actRefusal, (wc_t3 160 rfl rfl), (wc_0 _ (.tail _ (.tail _ (.tail _ (.tail _ (.tail _ (.tail _ (.tail _ (.tail _ (.tail _ (.tail _ (.tail _ (.tail _ (.tail _ (.tail _ (.tail _ (.tail _ (.tail _ (.tail _ (.tail _ (.tail _ (.tail _ (.tail _ (.tail _ (.tail _ (.tail _ (.tail _ (.tail _ (.tail _ (.tail _ (.tail _ (.tail _ (.tail _ (.tail _ (.tail _ (.tail _ (.tail _ (.tail _ (.head _)))))))))))))))))))))))))))))))))))))))⟩
def mX2_comeAct : XI := (yX2_comeAct, cX2_comeAct, 2, none, 6, 153, 1)
theorem kX2_comeAct : xl_K mX2_comeAct := ⟨wc_pX2.1, (wc_t3 165 rfl rfl), xl_iX2, wc_pX2.2.1, wc_pX2.2.2, wc_d4⟩
theorem vX2_comeAct : xl_V mX2_comeAct := ⟨kX2_comeAct, (wc_t3 164 rfl rfl), (wc_0 _ (.tail _ (.tail _ (.tail _ (.tail _ (.tail _ (.tail _ (.tail _ (.tail _ (.tail _ (.tail _ (.tail _ (.tail _ (.tail _ (.tail _ (.tail _ (.tail _ (.tail _ (.tail _ (.tail _ (.tail _ (.tail _ (.tail _ (.tail _ (.tail _ (.tail _ (.tail _ (.tail _ (.tail _ (.tail _ (.tail _ (.tail _ (.tail _ (.tail _ (.tail _ (.tail _ (.tail _ (.tail _ (.tail _ (.head _))))))))))))))))))))))))))))))))))))))))⟩
def mX2_remember : XI := (yX2_remember, cX2_remember, 2, none, 3, 73, 0)
theorem kX2_remember : xl_K mX2_remember := ⟨wc_pX2.1, (wc_t1 204 rfl rfl), xl_iX2, wc_pX2.2.1, wc_pX2.2.2, wc_d3⟩
theorem vX2_remember : xl_V mX2_remember := ⟨kX2_remember, (wc_t1 203 rfl rfl), (wc_0 _ (.tail _ (.tail _ (.tail _ (.tail _ (.tail _ (.tail _ (.tail _ (.tail _ (.tail _ (.tail _ (.tail _ (.tail _ (.tail _ (.tail _ (.tail _ (.tail _ (.tail _ (.tail _ (.tail _ (.tail _ (.tail _ (.tail _ (.tail _ (.tail _ (.tail _ (.tail _ (.tail _ (.tail _ (.tail _ (.tail _ (.tail _ (.tail _ (.tail _ (.tail _ (.tail _ (.tail _ (.tail _ (.tail _ (.tail _ (.head _)))))))))))))))))))))))))))))))))))))))))⟩
def mX2_replay : XI := (yX2_replay, cX2_replay, 7, none, 6, 150, 4)
theorem kX2_replay : xl_K mX2_replay := ⟨wc_pX2.1, (wc_t3 129 rfl rfl), xl_iX2, wc_pX2.2.1, wc_pX2.2.2, wc_d8⟩
theorem vX2_replay : xl_V mX2_replay := ⟨kX2_replay, (wc_t3 128 rfl rfl), (wc_1 _ (.head _))⟩
def mX2_sortTaken : XI := (yX2_sortTaken, cX2_sortTaken, 6, (some .int), 2, 45, 1)
theorem kX2_sortTaken : xl_K mX2_sortTaken := ⟨wc_pX2.1, (wc_t3 101 rfl rfl), xl_iX2, wc_pX2.2.1, wc_pX2.2.2, wc_d12⟩
theorem vX2_sortTaken : xl_V mX2_sortTaken := ⟨kX2_sortTaken, (wc_t3 100 rfl rfl), (wc_1 _ (.tail _ (.head _)))⟩
def mX2_sortedCell : XI := (yX2_sortedCell, cX2_sortedCell, 3, (some .int), 1, 22, 2)
theorem kX2_sortedCell : xl_K mX2_sortedCell := ⟨wc_pX2.1, (wc_t3 105 rfl rfl), xl_iX2, wc_pX2.2.1, wc_pX2.2.2, wc_d1⟩
theorem vX2_sortedCell : xl_V mX2_sortedCell := ⟨kX2_sortedCell, (wc_t3 104 rfl rfl), (wc_1 _ (.tail _ (.tail _ (.head _))))⟩
def mX2_holeBehind : XI := (yX2_holeBehind, cX2_holeBehind, 2, (some .int), 2, 44, 1)
theorem kX2_holeBehind : xl_K mX2_holeBehind := ⟨wc_pX2.1, (wc_t3 109 rfl rfl), xl_iX2, wc_pX2.2.1, wc_pX2.2.2, wc_d12⟩
theorem vX2_holeBehind : xl_V mX2_holeBehind := ⟨kX2_holeBehind, (wc_t3 108 rfl rfl), (wc_1 _ (.tail _ (.tail _ (.tail _ (.head _)))))⟩
def mX2_drawAfter : XI := (yX2_drawAfter, cX2_drawAfter, 1, (some .int), 0, 0, 1)
theorem kX2_drawAfter : xl_K mX2_drawAfter := ⟨wc_pX2.1, (wc_t3 176 rfl rfl), xl_iX2, wc_pX2.2.1, wc_pX2.2.2, wc_d12⟩
theorem vX2_drawAfter : xl_U mX2_drawAfter := ⟨kX2_drawAfter, (wc_t3 175 rfl rfl)⟩
def mX2_drawOf : XI := (yX2_drawOf, cX2_drawOf, 2, (some .int), 0, 0, 2)
theorem kX2_drawOf : xl_K mX2_drawOf := ⟨wc_pX2.1, (wc_t3 180 rfl rfl), xl_iX2, wc_pX2.2.1, wc_pX2.2.2, wc_d1⟩
theorem vX2_drawOf : xl_U mX2_drawOf := ⟨kX2_drawOf, (wc_t3 179 rfl rfl)⟩
def mX3_in : XI := (yX3_in, cX3_in, 6, (some .boolean), 0, 0, 3)
theorem kX3_in : xl_K mX3_in := ⟨wc_pX3.1, (wc_t4 73 rfl rfl), xl_iX3, wc_pX3.2.1, wc_pX3.2.2, wc_d26⟩
theorem vX3_in : xl_U mX3_in := ⟨kX3_in, (wc_t4 72 rfl rfl)⟩
def mX3_flag : XI := (yX3_flag, cX3_flag, 1, (some .int), 0, 0, 1)
theorem kX3_flag : xl_K mX3_flag := ⟨wc_pX3.1, (wc_t4 219 rfl rfl), xl_iX3, wc_pX3.2.1, wc_pX3.2.2, wc_d27⟩
theorem vX3_flag : xl_U mX3_flag := ⟨kX3_flag, (wc_t4 218 rfl rfl)⟩
def mX3_enters : XI := (yX3_enters, cX3_enters, 3, none, 0, 0, 1)
theorem kX3_enters : xl_K mX3_enters := ⟨wc_pX3.1, (wc_t5 68 rfl rfl), xl_iX3, wc_pX3.2.1, wc_pX3.2.2, wc_d20⟩
theorem vX3_enters : xl_V mX3_enters := ⟨kX3_enters, (wc_t5 67 rfl rfl), (wc_1 _ (.tail _ (.tail _ (.tail _ (.tail _ (.head _))))))⟩
def mX3_sign : XI := (yX3_sign, cX3_sign, 3, (some .int), 0, 0, 1)
theorem kX3_sign : xl_K mX3_sign := ⟨wc_pX3.1, (wc_t4 66 rfl rfl), xl_iX3, wc_pX3.2.1, wc_pX3.2.2, wc_d12⟩
theorem vX3_sign : xl_V mX3_sign := ⟨kX3_sign, (wc_t4 64 rfl rfl), (wc_t4 65 rfl rfl)⟩
def mX3_end : XI := (yX3_end, cX3_end, 2, (some .boolean), 1, 25, 1)
theorem kX3_end : xl_K mX3_end := ⟨wc_pX3.1, (wc_t4 70 rfl rfl), xl_iX3, wc_pX3.2.1, wc_pX3.2.2, wc_d5⟩
theorem vX3_end : xl_V mX3_end := ⟨kX3_end, (wc_t4 68 rfl rfl), (wc_t4 69 rfl rfl)⟩
def mX3_reads : XI := (yX3_reads, cX3_reads, 1, none, 0, 0, 0)
theorem kX3_reads : xl_K mX3_reads := ⟨wc_pX3.1, (wc_t5 76 rfl rfl), xl_iX3, wc_pX3.2.1, wc_pX3.2.2, wc_d3⟩
theorem vX3_reads : xl_V mX3_reads := ⟨kX3_reads, (wc_t5 75 rfl rfl), (wc_1 _ (.tail _ (.tail _ (.tail _ (.tail _ (.tail _ (.head _)))))))⟩
def mX3_takesOf : XI := (yX3_takesOf, cX3_takesOf, 3, (some .int), 5, 106, 1)
theorem kX3_takesOf : xl_K mX3_takesOf := ⟨wc_pX3.1, (wc_t5 85 rfl rfl), xl_iX3, wc_pX3.2.1, wc_pX3.2.2, wc_d28⟩
theorem vX3_takesOf : xl_V mX3_takesOf := ⟨kX3_takesOf, (wc_t5 84 rfl rfl), (wc_1 _ (.tail _ (.tail _ (.tail _ (.tail _ (.tail _ (.tail _ (.head _))))))))⟩
def mX3_digits : XI := (yX3_digits, cX3_digits, 5, (some .int), 6, 128, 1)
theorem kX3_digits : xl_K mX3_digits := ⟨wc_pX3.1, (wc_t5 91 rfl rfl), xl_iX3, wc_pX3.2.1, wc_pX3.2.2, wc_d12⟩
theorem vX3_digits : xl_V mX3_digits := ⟨kX3_digits, (wc_t5 90 rfl rfl), (wc_1 _ (.tail _ (.tail _ (.tail _ (.tail _ (.tail _ (.tail _ (.tail _ (.head _)))))))))⟩
def mX3_init : XI := (yX3_init, cX3_init, 1, none, 2, 49, 0)
theorem kX3_init : xl_K mX3_init := ⟨wc_pX3.1, (wc_t4 78 rfl rfl), xl_iX3, wc_pX3.2.1, wc_pX3.2.2, wc_d3⟩
def mX3_copies : XI := (yX3_copies, cX3_copies, 4, none, 0, 0, 2)
theorem kX3_copies : xl_K mX3_copies := ⟨wc_pX3.1, (wc_t4 166 rfl rfl), xl_iX3, wc_pX3.2.1, wc_pX3.2.2, wc_d0⟩
theorem vX3_copies : xl_V mX3_copies := ⟨kX3_copies, (wc_t4 165 rfl rfl), (wc_1 _ (.tail _ (.tail _ (.tail _ (.tail _ (.tail _ (.tail _ (.tail _ (.tail _ (.head _))))))))))⟩
def mX3_starts : XI := (yX3_starts, cX3_starts, 7, none, 1, 23, 5)
theorem kX3_starts : xl_K mX3_starts := ⟨wc_pX3.1, (wc_t4 83 rfl rfl), xl_iX3, wc_pX3.2.1, wc_pX3.2.2, wc_d29⟩
theorem vX3_starts : xl_V mX3_starts := ⟨kX3_starts, (wc_t4 82 rfl rfl), (wc_1 _ (.tail _ (.tail _ (.tail _ (.tail _ (.tail _ (.tail _ (.tail _ (.tail _ (.tail _ (.head _)))))))))))⟩
def mX3_of : XI := (yX3_of, cX3_of, 3, (some .int), 0, 0, 2)
theorem kX3_of : xl_K mX3_of := ⟨wc_pX3.1, (wc_t4 196 rfl rfl), xl_iX3, wc_pX3.2.1, wc_pX3.2.2, wc_d1⟩
theorem vX3_of : xl_V mX3_of := ⟨kX3_of, (wc_t4 195 rfl rfl), (wc_1 _ (.tail _ (.tail _ (.tail _ (.tail _ (.tail _ (.tail _ (.tail _ (.tail _ (.tail _ (.tail _ (.head _))))))))))))⟩
def mX3_puts : XI := (yX3_puts, cX3_puts, 4, none, 0, 0, 3)
theorem kX3_puts : xl_K mX3_puts := ⟨wc_pX3.1, (wc_t4 87 rfl rfl), xl_iX3, wc_pX3.2.1, wc_pX3.2.2, wc_d2⟩
theorem vX3_puts : xl_V mX3_puts := ⟨kX3_puts, (wc_t4 86 rfl rfl), (wc_1 _ (.tail _ (.tail _ (.tail _ (.tail _ (.tail _ (.tail _ (.tail _ (.tail _ (.tail _ (.tail _ (.tail _ (.head _)))))))))))))⟩
def mX3_adds : XI := (yX3_adds, cX3_adds, 4, none, 0, 0, 3)
theorem kX3_adds : xl_K mX3_adds := ⟨wc_pX3.1, (wc_t4 227 rfl rfl), xl_iX3, wc_pX3.2.1, wc_pX3.2.2, wc_d2⟩
theorem vX3_adds : xl_V mX3_adds := ⟨kX3_adds, (wc_t4 226 rfl rfl), (wc_1 _ (.tail _ (.tail _ (.tail _ (.tail _ (.tail _ (.tail _ (.tail _ (.tail _ (.tail _ (.tail _ (.tail _ (.tail _ (.head _))))))))))))))⟩
def mX3_lays : XI := (yX3_lays, cX3_lays, 2, none, 1, 23, 0)
theorem kX3_lays : xl_K mX3_lays := ⟨wc_pX3.1, (wc_t4 184 rfl rfl), xl_iX3, wc_pX3.2.1, wc_pX3.2.2, wc_d3⟩
theorem vX3_lays : xl_V mX3_lays := ⟨kX3_lays, (wc_t4 183 rfl rfl), (wc_1 _ (.tail _ (.tail _ (.tail _ (.tail _ (.tail _ (.tail _ (.tail _ (.tail _ (.tail _ (.tail _ (.tail _ (.tail _ (.tail _ (.head _)))))))))))))))⟩
def mX3_done : XI := (yX3_done, cX3_done, 2, (some .int), 2, 44, 1)
theorem kX3_done : xl_K mX3_done := ⟨wc_pX3.1, (wc_t4 180 rfl rfl), xl_iX3, wc_pX3.2.1, wc_pX3.2.2, wc_d12⟩
theorem vX3_done : xl_V mX3_done := ⟨kX3_done, (wc_t4 179 rfl rfl), (wc_1 _ (.tail _ (.tail _ (.tail _ (.tail _ (.tail _ (.tail _ (.tail _ (.tail _ (.tail _ (.tail _ (.tail _ (.tail _ (.tail _ (.tail _ (.head _))))))))))))))))⟩
def mX3_undo : XI := (yX3_undo, cX3_undo, 1, (some .int), 1, 23, 0)
theorem kX3_undo : xl_K mX3_undo := ⟨wc_pX3.1, (wc_t4 162 rfl rfl), xl_iX3, wc_pX3.2.1, wc_pX3.2.2, wc_d16⟩
theorem vX3_undo : xl_V mX3_undo := ⟨kX3_undo, (wc_t4 160 rfl rfl), (wc_t4 161 rfl rfl)⟩
def mX3_areSettings : XI := (yX3_areSettings, cX3_areSettings, 3, (some .boolean), 1, 25, 3)
theorem kX3_areSettings : xl_K mX3_areSettings := ⟨wc_pX3.1, (wc_t4 174 rfl rfl), xl_iX3, wc_pX3.2.1, wc_pX3.2.2, wc_d14⟩
theorem vX3_areSettings : xl_U mX3_areSettings := ⟨kX3_areSettings, (wc_t4 173 rfl rfl)⟩
def mX3_start : XI := (yX3_start, cX3_start, 5, (some .int), 3, 65, 4)
theorem kX3_start : xl_K mX3_start := ⟨wc_pX3.1, (wc_t4 170 rfl rfl), xl_iX3, wc_pX3.2.1, wc_pX3.2.2, wc_d10⟩
theorem vX3_start : xl_V mX3_start := ⟨kX3_start, (wc_t4 168 rfl rfl), (wc_t4 169 rfl rfl)⟩
def mX3_isSource : XI := (yX3_isSource, cX3_isSource, 2, (some .boolean), 1, 25, 1)
theorem kX3_isSource : xl_K mX3_isSource := ⟨wc_pX3.1, (wc_t4 192 rfl rfl), xl_iX3, wc_pX3.2.1, wc_pX3.2.2, wc_d5⟩
theorem vX3_isSource : xl_V mX3_isSource := ⟨kX3_isSource, (wc_t4 191 rfl rfl), (wc_1 _ (.tail _ (.tail _ (.tail _ (.tail _ (.tail _ (.tail _ (.tail _ (.tail _ (.tail _ (.tail _ (.tail _ (.tail _ (.tail _ (.tail _ (.tail _ (.head _)))))))))))))))))⟩
def mX3_delays : XI := (yX3_delays, cX3_delays, 4, (some .int), 3, 65, 2)
theorem kX3_delays : xl_K mX3_delays := ⟨wc_pX3.1, (wc_t4 188 rfl rfl), xl_iX3, wc_pX3.2.1, wc_pX3.2.2, wc_d1⟩
theorem vX3_delays : xl_V mX3_delays := ⟨kX3_delays, (wc_t4 186 rfl rfl), (wc_t4 187 rfl rfl)⟩
def mX3_place : XI := (yX3_place, cX3_place, 2, (some .int), 0, 0, 2)
theorem kX3_place : xl_K mX3_place := ⟨wc_pX3.1, (wc_t5 2 rfl rfl), xl_iX3, wc_pX3.2.1, wc_pX3.2.2, wc_d1⟩
theorem vX3_place : xl_U mX3_place := ⟨kX3_place, (wc_t5 1 rfl rfl)⟩
def mX3_ofSession : XI := (yX3_ofSession, cX3_ofSession, 4, (some .int), 1, 21, 3)
theorem kX3_ofSession : xl_K mX3_ofSession := ⟨wc_pX3.1, (wc_t4 239 rfl rfl), xl_iX3, wc_pX3.2.1, wc_pX3.2.2, wc_d15⟩
theorem vX3_ofSession : xl_V mX3_ofSession := ⟨kX3_ofSession, (wc_t4 238 rfl rfl), (wc_1 _ (.tail _ (.tail _ (.tail _ (.tail _ (.tail _ (.tail _ (.tail _ (.tail _ (.tail _ (.tail _ (.tail _ (.tail _ (.tail _ (.tail _ (.tail _ (.tail _ (.head _))))))))))))))))))⟩
def mX3_goesOut : XI := (yX3_goesOut, cX3_goesOut, 4, none, 1, 23, 2)
theorem kX3_goesOut : xl_K mX3_goesOut := ⟨wc_pX3.1, (wc_t5 16 rfl rfl), xl_iX3, wc_pX3.2.1, wc_pX3.2.2, wc_d0⟩
theorem vX3_goesOut : xl_V mX3_goesOut := ⟨kX3_goesOut, (wc_t5 15 rfl rfl), (wc_1 _ (.tail _ (.tail _ (.tail _ (.tail _ (.tail _ (.tail _ (.tail _ (.tail _ (.tail _ (.tail _ (.tail _ (.tail _ (.tail _ (.tail _ (.tail _ (.tail _ (.tail _ (.head _)))))))))))))))))))⟩
def mX3_comesIn : XI := (yX3_comesIn, cX3_comesIn, 4, (some .int), 3, 67, 1)
theorem kX3_comesIn : xl_K mX3_comesIn := ⟨wc_pX3.1, (wc_t5 20 rfl rfl), xl_iX3, wc_pX3.2.1, wc_pX3.2.2, wc_d12⟩
theorem vX3_comesIn : xl_V mX3_comesIn := ⟨kX3_comesIn, (wc_t5 19 rfl rfl), (wc_1 _ (.tail _ (.tail _ (.tail _ (.tail _ (.tail _ (.tail _ (.tail _ (.tail _ (.tail _ (.tail _ (.tail _ (.tail _ (.tail _ (.tail _ (.tail _ (.tail _ (.tail _ (.tail _ (.head _))))))))))))))))))))⟩
def mX3_isBehind : XI := (yX3_isBehind, cX3_isBehind, 4, (some .boolean), 2, 44, 2)
theorem kX3_isBehind : xl_K mX3_isBehind := ⟨wc_pX3.1, (wc_t5 24 rfl rfl), xl_iX3, wc_pX3.2.1, wc_pX3.2.2, wc_d13⟩
theorem vX3_isBehind : xl_V mX3_isBehind := ⟨kX3_isBehind, (wc_t5 23 rfl rfl), (wc_1 _ (.tail _ (.tail _ (.tail _ (.tail _ (.tail _ (.tail _ (.tail _ (.tail _ (.tail _ (.tail _ (.tail _ (.tail _ (.tail _ (.tail _ (.tail _ (.tail _ (.tail _ (.tail _ (.tail _ (.head _)))))))))))))))))))))⟩
def mX3_sends : XI := (yX3_sends, cX3_sends, 7, none, 2, 44, 3)
theorem kX3_sends : xl_K mX3_sends := ⟨wc_pX3.1, (wc_t5 10 rfl rfl), xl_iX3, wc_pX3.2.1, wc_pX3.2.2, wc_d2⟩
theorem vX3_sends : xl_V mX3_sends := ⟨kX3_sends, (wc_t5 9 rfl rfl), (wc_1 _ (.tail _ (.tail _ (.tail _ (.tail _ (.tail _ (.tail _ (.tail _ (.tail _ (.tail _ (.tail _ (.tail _ (.tail _ (.tail _ (.tail _ (.tail _ (.tail _ (.tail _ (.tail _ (.tail _ (.tail _ (.head _))))))))))))))))))))))⟩
def mX3_takesBack : XI := (yX3_takesBack, cX3_takesBack, 3, none, 3, 70, 2)
theorem kX3_takesBack : xl_K mX3_takesBack := ⟨wc_pX3.1, (wc_t5 6 rfl rfl), xl_iX3, wc_pX3.2.1, wc_pX3.2.2, wc_d0⟩
theorem vX3_takesBack : xl_V mX3_takesBack := ⟨kX3_takesBack, (wc_t5 5 rfl rfl), (wc_1 _ (.tail _ (.tail _ (.tail _ (.tail _ (.tail _ (.tail _ (.tail _ (.tail _ (.tail _ (.tail _ (.tail _ (.tail _ (.tail _ (.tail _ (.tail _ (.tail _ (.tail _ (.tail _ (.tail _ (.tail _ (.tail _ (.head _)))))))))))))))))))))))⟩
def mX3_isRipeBy : XI := (yX3_isRipeBy, cX3_isRipeBy, 4, (some .boolean), 2, 44, 3)
theorem kX3_isRipeBy : xl_K mX3_isRipeBy := ⟨wc_pX3.1, (wc_t5 28 rfl rfl), xl_iX3, wc_pX3.2.1, wc_pX3.2.2, wc_d14⟩
theorem vX3_isRipeBy : xl_V mX3_isRipeBy := ⟨kX3_isRipeBy, (wc_t5 27 rfl rfl), (wc_1 _ (.tail _ (.tail _ (.tail _ (.tail _ (.tail _ (.tail _ (.tail _ (.tail _ (.tail _ (.tail _ (.tail _ (.tail _ (.tail _ (.tail _ (.tail _ (.tail _ (.tail _ (.tail _ (.tail _ (.tail _ (.tail _ (.tail _ (.head _))))))))))))))))))))))))⟩
def mX3_isClosedBy : XI := (yX3_isClosedBy, cX3_isClosedBy, 4, (some .boolean), 2, 44, 3)
theorem kX3_isClosedBy : xl_K mX3_isClosedBy := ⟨wc_pX3.1, (wc_t5 52 rfl rfl), xl_iX3, wc_pX3.2.1, wc_pX3.2.2, wc_d14⟩
theorem vX3_isClosedBy : xl_V mX3_isClosedBy := ⟨kX3_isClosedBy, (wc_t5 51 rfl rfl), (wc_1 _ (.tail _ (.tail _ (.tail _ (.tail _ (.tail _ (.tail _ (.tail _ (.tail _ (.tail _ (.tail _ (.tail _ (.tail _ (.tail _ (.tail _ (.tail _ (.tail _ (.tail _ (.tail _ (.tail _ (.tail _ (.tail _ (.tail _ (.tail _ (.head _)))))))))))))))))))))))))⟩
def mX3_leastMark : XI := (yX3_leastMark, cX3_leastMark, 4, (some .int), 1, 22, 1)
theorem kX3_leastMark : xl_K mX3_leastMark := ⟨wc_pX3.1, (wc_t5 36 rfl rfl), xl_iX3, wc_pX3.2.1, wc_pX3.2.2, wc_d12⟩
theorem vX3_leastMark : xl_V mX3_leastMark := ⟨kX3_leastMark, (wc_t5 35 rfl rfl), (wc_1 _ (.tail _ (.tail _ (.tail _ (.tail _ (.tail _ (.tail _ (.tail _ (.tail _ (.tail _ (.tail _ (.tail _ (.tail _ (.tail _ (.tail _ (.tail _ (.tail _ (.tail _ (.tail _ (.tail _ (.tail _ (.tail _ (.tail _ (.tail _ (.tail _ (.head _))))))))))))))))))))))))))⟩
def mX3_firstRipe : XI := (yX3_firstRipe, cX3_firstRipe, 6, (some .int), 3, 67, 2)
theorem kX3_firstRipe : xl_K mX3_firstRipe := ⟨wc_pX3.1, (wc_t5 40 rfl rfl), xl_iX3, wc_pX3.2.1, wc_pX3.2.2, wc_d1⟩
theorem vX3_firstRipe : xl_V mX3_firstRipe := ⟨kX3_firstRipe, (wc_t5 39 rfl rfl), (wc_1 _ (.tail _ (.tail _ (.tail _ (.tail _ (.tail _ (.tail _ (.tail _ (.tail _ (.tail _ (.tail _ (.tail _ (.tail _ (.tail _ (.tail _ (.tail _ (.tail _ (.tail _ (.tail _ (.tail _ (.tail _ (.tail _ (.tail _ (.tail _ (.tail _ (.tail _ (.head _)))))))))))))))))))))))))))⟩
def mX3_isDone : XI := (yX3_isDone, cX3_isDone, 4, (some .boolean), 2, 44, 2)
theorem kX3_isDone : xl_K mX3_isDone := ⟨wc_pX3.1, (wc_t5 44 rfl rfl), xl_iX3, wc_pX3.2.1, wc_pX3.2.2, wc_d13⟩
theorem vX3_isDone : xl_V mX3_isDone := ⟨kX3_isDone, (wc_t5 43 rfl rfl), (wc_1 _ (.tail _ (.tail _ (.tail _ (.tail _ (.tail _ (.tail _ (.tail _ (.tail _ (.tail _ (.tail _ (.tail _ (.tail _ (.tail _ (.tail _ (.tail _ (.tail _ (.tail _ (.tail _ (.tail _ (.tail _ (.tail _ (.tail _ (.tail _ (.tail _ (.tail _ (.tail _ (.head _))))))))))))))))))))))))))))⟩
def mX3_rises : XI := (yX3_rises, cX3_rises, 5, none, 4, 92, 1)
theorem kX3_rises : xl_K mX3_rises := ⟨wc_pX3.1, (wc_t5 32 rfl rfl), xl_iX3, wc_pX3.2.1, wc_pX3.2.2, wc_d4⟩
theorem vX3_rises : xl_V mX3_rises := ⟨kX3_rises, (wc_t5 31 rfl rfl), (wc_1 _ (.tail _ (.tail _ (.tail _ (.tail _ (.tail _ (.tail _ (.tail _ (.tail _ (.tail _ (.tail _ (.tail _ (.tail _ (.tail _ (.tail _ (.tail _ (.tail _ (.tail _ (.tail _ (.tail _ (.tail _ (.tail _ (.tail _ (.tail _ (.tail _ (.tail _ (.tail _ (.tail _ (.head _)))))))))))))))))))))))))))))⟩
def mX3_firstClosed : XI := (yX3_firstClosed, cX3_firstClosed, 4, (some .int), 3, 67, 1)
theorem kX3_firstClosed : xl_K mX3_firstClosed := ⟨wc_pX3.1, (wc_t5 48 rfl rfl), xl_iX3, wc_pX3.2.1, wc_pX3.2.2, wc_d12⟩
theorem vX3_firstClosed : xl_V mX3_firstClosed := ⟨kX3_firstClosed, (wc_t5 47 rfl rfl), (wc_1 _ (.tail _ (.tail _ (.tail _ (.tail _ (.tail _ (.tail _ (.tail _ (.tail _ (.tail _ (.tail _ (.tail _ (.tail _ (.tail _ (.tail _ (.tail _ (.tail _ (.tail _ (.tail _ (.tail _ (.tail _ (.tail _ (.tail _ (.tail _ (.tail _ (.tail _ (.tail _ (.tail _ (.tail _ (.head _))))))))))))))))))))))))))))))⟩
def mX3_closes : XI := (yX3_closes, cX3_closes, 6, none, 2, 46, 2)
theorem kX3_closes : xl_K mX3_closes := ⟨wc_pX3.1, (wc_t5 56 rfl rfl), xl_iX3, wc_pX3.2.1, wc_pX3.2.2, wc_d0⟩
theorem vX3_closes : xl_V mX3_closes := ⟨kX3_closes, (wc_t5 55 rfl rfl), (wc_1 _ (.tail _ (.tail _ (.tail _ (.tail _ (.tail _ (.tail _ (.tail _ (.tail _ (.tail _ (.tail _ (.tail _ (.tail _ (.tail _ (.tail _ (.tail _ (.tail _ (.tail _ (.tail _ (.tail _ (.tail _ (.tail _ (.tail _ (.tail _ (.tail _ (.tail _ (.tail _ (.tail _ (.tail _ (.tail _ (.head _)))))))))))))))))))))))))))))))⟩
def mX3_notes : XI := (yX3_notes, cX3_notes, 9, none, 1, 23, 7)
theorem kX3_notes : xl_K mX3_notes := ⟨wc_pX3.1, (wc_t4 223 rfl rfl), xl_iX3, wc_pX3.2.1, wc_pX3.2.2, wc_d30⟩
theorem vX3_notes : xl_V mX3_notes := ⟨kX3_notes, (wc_t4 222 rfl rfl), (wc_1 _ (.tail _ (.tail _ (.tail _ (.tail _ (.tail _ (.tail _ (.tail _ (.tail _ (.tail _ (.tail _ (.tail _ (.tail _ (.tail _ (.tail _ (.tail _ (.tail _ (.tail _ (.tail _ (.tail _ (.tail _ (.tail _ (.tail _ (.tail _ (.tail _ (.tail _ (.tail _ (.tail _ (.tail _ (.tail _ (.tail _ (.head _))))))))))))))))))))))))))))))))⟩
def mX3_melts : XI := (yX3_melts, cX3_melts, 5, (some .boolean), 2, 44, 4)
theorem kX3_melts : xl_K mX3_melts := ⟨wc_pX3.1, (wc_t4 235 rfl rfl), xl_iX3, wc_pX3.2.1, wc_pX3.2.2, wc_d18⟩
theorem vX3_melts : xl_V mX3_melts := ⟨kX3_melts, (wc_t4 234 rfl rfl), (wc_1 _ (.tail _ (.tail _ (.tail _ (.tail _ (.tail _ (.tail _ (.tail _ (.tail _ (.tail _ (.tail _ (.tail _ (.tail _ (.tail _ (.tail _ (.tail _ (.tail _ (.tail _ (.tail _ (.tail _ (.tail _ (.tail _ (.tail _ (.tail _ (.tail _ (.tail _ (.tail _ (.tail _ (.tail _ (.tail _ (.tail _ (.tail _ (.head _)))))))))))))))))))))))))))))))))⟩
def mX3_joins : XI := (yX3_joins, cX3_joins, 7, none, 4, 92, 4)
theorem kX3_joins : xl_K mX3_joins := ⟨wc_pX3.1, (wc_t4 231 rfl rfl), xl_iX3, wc_pX3.2.1, wc_pX3.2.2, wc_d8⟩
theorem vX3_joins : xl_V mX3_joins := ⟨kX3_joins, (wc_t4 230 rfl rfl), (wc_1 _ (.tail _ (.tail _ (.tail _ (.tail _ (.tail _ (.tail _ (.tail _ (.tail _ (.tail _ (.tail _ (.tail _ (.tail _ (.tail _ (.tail _ (.tail _ (.tail _ (.tail _ (.tail _ (.tail _ (.tail _ (.tail _ (.tail _ (.tail _ (.tail _ (.tail _ (.tail _ (.tail _ (.tail _ (.tail _ (.tail _ (.tail _ (.tail _ (.head _))))))))))))))))))))))))))))))))))⟩
def mX3_comes : XI := (yX3_comes, cX3_comes, 8, (some .int), 5, 118, 5)
theorem kX3_comes : xl_K mX3_comes := ⟨wc_pX3.1, (wc_t4 216 rfl rfl), xl_iX3, wc_pX3.2.1, wc_pX3.2.2, wc_d31⟩
theorem vX3_comes : xl_V mX3_comes := ⟨kX3_comes, (wc_t4 215 rfl rfl), (wc_1 _ (.tail _ (.tail _ (.tail _ (.tail _ (.tail _ (.tail _ (.tail _ (.tail _ (.tail _ (.tail _ (.tail _ (.tail _ (.tail _ (.tail _ (.tail _ (.tail _ (.tail _ (.tail _ (.tail _ (.tail _ (.tail _ (.tail _ (.tail _ (.tail _ (.tail _ (.tail _ (.tail _ (.tail _ (.tail _ (.tail _ (.tail _ (.tail _ (.tail _ (.head _)))))))))))))))))))))))))))))))))))⟩
def mX3_isMarked : XI := (yX3_isMarked, cX3_isMarked, 4, none, 5, 116, 3)
theorem kX3_isMarked : xl_K mX3_isMarked := ⟨wc_pX3.1, (wc_t5 106 rfl rfl), xl_iX3, wc_pX3.2.1, wc_pX3.2.2, wc_d2⟩
theorem vX3_isMarked : xl_V mX3_isMarked := ⟨kX3_isMarked, (wc_t5 105 rfl rfl), (wc_1 _ (.tail _ (.tail _ (.tail _ (.tail _ (.tail _ (.tail _ (.tail _ (.tail _ (.tail _ (.tail _ (.tail _ (.tail _ (.tail _ (.tail _ (.tail _ (.tail _ (.tail _ (.tail _ (.tail _ (.tail _ (.tail _ (.tail _ (.tail _ (.tail _ (.tail _ (.tail _ (.tail _ (.tail _ (.tail _ (.tail _ (.tail _ (.tail _ (.tail _ (.tail _ (.head _))))))))))))))))))))))))))))))))))))⟩
def mX3_isIdle : XI := (yX3_isIdle, cX3_isIdle, 3, none, 5, 116, 2)
theorem kX3_isIdle : xl_K mX3_isIdle := ⟨wc_pX3.1, (wc_t5 122 rfl rfl), xl_iX3, wc_pX3.2.1, wc_pX3.2.2, wc_d0⟩
theorem vX3_isIdle : xl_V mX3_isIdle := ⟨kX3_isIdle, (wc_t5 121 rfl rfl), (wc_1 _ (.tail _ (.tail _ (.tail _ (.tail _ (.tail _ (.tail _ (.tail _ (.tail _ (.tail _ (.tail _ (.tail _ (.tail _ (.tail _ (.tail _ (.tail _ (.tail _ (.tail _ (.tail _ (.tail _ (.tail _ (.tail _ (.tail _ (.tail _ (.tail _ (.tail _ (.tail _ (.tail _ (.tail _ (.tail _ (.tail _ (.tail _ (.tail _ (.tail _ (.tail _ (.tail _ (.head _)))))))))))))))))))))))))))))))))))))⟩
def mX3_isEvent : XI := (yX3_isEvent, cX3_isEvent, 5, (some .boolean), 2, 46, 4)
theorem kX3_isEvent : xl_K mX3_isEvent := ⟨wc_pX3.1, (wc_t4 209 rfl rfl), xl_iX3, wc_pX3.2.1, wc_pX3.2.2, wc_d18⟩
theorem vX3_isEvent : xl_V mX3_isEvent := ⟨kX3_isEvent, (wc_t4 208 rfl rfl), (wc_1 _ (.tail _ (.tail _ (.tail _ (.tail _ (.tail _ (.tail _ (.tail _ (.tail _ (.tail _ (.tail _ (.tail _ (.tail _ (.tail _ (.tail _ (.tail _ (.tail _ (.tail _ (.tail _ (.tail _ (.tail _ (.tail _ (.tail _ (.tail _ (.tail _ (.tail _ (.tail _ (.tail _ (.tail _ (.tail _ (.tail _ (.tail _ (.tail _ (.tail _ (.tail _ (.tail _ (.tail _ (.head _))))))))))))))))))))))))))))))))))))))⟩
def mX3_eventOne : XI := (yX3_eventOne, cX3_eventOne, 5, (some .int), 6, 145, 4)
theorem kX3_eventOne : xl_K mX3_eventOne := ⟨wc_pX3.1, (wc_t4 205 rfl rfl), xl_iX3, wc_pX3.2.1, wc_pX3.2.2, wc_d10⟩
theorem vX3_eventOne : xl_V mX3_eventOne := ⟨kX3_eventOne, (wc_t4 204 rfl rfl), (wc_1 _ (.tail _ (.tail _ (.tail _ (.tail _ (.tail _ (.tail _ (.tail _ (.tail _ (.tail _ (.tail _ (.tail _ (.tail _ (.tail _ (.tail _ (.tail _ (.tail _ (.tail _ (.tail _ (.tail _ (.tail _ (.tail _ (.tail _ (.tail _ (.tail _ (.tail _ (.tail _ (.tail _ (.tail _ (.tail _ (.tail _ (.tail _ (.tail _ (.tail _ (.tail _ (.tail _ (.tail _ (.tail _ (.head _)))))))))))))))))))))))))))))))))))))))⟩
def mX3_entersSince : XI := (yX3_entersSince, cX3_entersSince, 3, none, 1, 22, 2)
theorem kX3_entersSince : xl_K mX3_entersSince := ⟨wc_pX3.1, (wc_t5 64 rfl rfl), xl_iX3, wc_pX3.2.1, wc_pX3.2.2, wc_d0⟩
theorem vX3_entersSince : xl_V mX3_entersSince := ⟨kX3_entersSince, (wc_t5 63 rfl rfl), (wc_1 _ (.tail _ (.tail _ (.tail _ (.tail _ (.tail _ (.tail _ (.tail _ (.tail _ (.tail _ (.tail _ (.tail _ (.tail _ (.tail _ (.tail _ (.tail _ (.tail _ (.tail _ (.tail _ (.tail _ (.tail _ (.tail _ (.tail _ (.tail _ (.tail _ (.tail _ (.tail _ (.tail _ (.tail _ (.tail _ (.tail _ (.tail _ (.tail _ (.tail _ (.tail _ (.tail _ (.tail _ (.tail _ (.tail _ (.head _))))))))))))))))))))))))))))))))))))))))⟩
def mX3_event : XI := (yX3_event, cX3_event, 6, (some .int), 7, 169, 4)
theorem kX3_event : xl_K mX3_event := ⟨wc_pX3.1, (wc_t4 201 rfl rfl), xl_iX3, wc_pX3.2.1, wc_pX3.2.2, wc_d10⟩
theorem vX3_event : xl_V mX3_event := ⟨kX3_event, (wc_t4 199 rfl rfl), (wc_t4 200 rfl rfl)⟩
def mX3_readsEvent : XI := (yX3_readsEvent, cX3_readsEvent, 5, (some .boolean), 7, 152, 2)
theorem kX3_readsEvent : xl_K mX3_readsEvent := ⟨wc_pX3.1, (wc_t5 80 rfl rfl), xl_iX3, wc_pX3.2.1, wc_pX3.2.2, wc_d32⟩
theorem vX3_readsEvent : xl_V mX3_readsEvent := ⟨kX3_readsEvent, (wc_t5 79 rfl rfl), (wc_1 _ (.tail _ (.tail _ (.tail _ (.tail _ (.tail _ (.tail _ (.tail _ (.tail _ (.tail _ (.tail _ (.tail _ (.tail _ (.tail _ (.tail _ (.tail _ (.tail _ (.tail _ (.tail _ (.tail _ (.tail _ (.tail _ (.tail _ (.tail _ (.tail _ (.tail _ (.tail _ (.tail _ (.tail _ (.tail _ (.tail _ (.tail _ (.tail _ (.tail _ (.tail _ (.tail _ (.tail _ (.tail _ (.tail _ (.tail _ (.head _)))))))))))))))))))))))))))))))))))))))))⟩
def mX3_events : XI := (yX3_events, cX3_events, 4, (some .int), 8, 176, 0)
theorem kX3_events : xl_K mX3_events := ⟨wc_pX3.1, (wc_t5 72 rfl rfl), xl_iX3, wc_pX3.2.1, wc_pX3.2.2, wc_d16⟩
theorem vX3_events : xl_V mX3_events := ⟨kX3_events, (wc_t5 70 rfl rfl), (wc_t5 71 rfl rfl)⟩
def mX3_marksOne : XI := (yX3_marksOne, cX3_marksOne, 4, (some .int), 6, 139, 2)
theorem kX3_marksOne : xl_K mX3_marksOne := ⟨wc_pX3.1, (wc_t5 101 rfl rfl), xl_iX3, wc_pX3.2.1, wc_pX3.2.2, wc_d1⟩
theorem vX3_marksOne : xl_V mX3_marksOne := ⟨kX3_marksOne, (wc_t5 100 rfl rfl), (wc_2 _ (.head _))⟩
def mX3_entersProgress : XI := (yX3_entersProgress, cX3_entersProgress, 1, none, 1, 22, 0)
theorem kX3_entersProgress : xl_K mX3_entersProgress := ⟨wc_pX3.1, (wc_t5 110 rfl rfl), xl_iX3, wc_pX3.2.1, wc_pX3.2.2, wc_d3⟩
theorem vX3_entersProgress : xl_V mX3_entersProgress := ⟨kX3_entersProgress, (wc_t5 109 rfl rfl), (wc_2 _ (.tail _ (.head _)))⟩
def mX3_marks : XI := (yX3_marks, cX3_marks, 4, (some .int), 7, 162, 2)
theorem kX3_marks : xl_K mX3_marks := ⟨wc_pX3.1, (wc_t5 97 rfl rfl), xl_iX3, wc_pX3.2.1, wc_pX3.2.2, wc_d1⟩
theorem vX3_marks : xl_V mX3_marks := ⟨kX3_marks, (wc_t5 95 rfl rfl), (wc_t5 96 rfl rfl)⟩
def mX3_idlesOne : XI := (yX3_idlesOne, cX3_idlesOne, 3, (some .int), 6, 138, 1)
theorem kX3_idlesOne : xl_K mX3_idlesOne := ⟨wc_pX3.1, (wc_t5 118 rfl rfl), xl_iX3, wc_pX3.2.1, wc_pX3.2.2, wc_d12⟩
theorem vX3_idlesOne : xl_V mX3_idlesOne := ⟨kX3_idlesOne, (wc_t5 117 rfl rfl), (wc_2 _ (.tail _ (.tail _ (.head _))))⟩
def mX3_idles : XI := (yX3_idles, cX3_idles, 3, (some .int), 7, 160, 1)
theorem kX3_idles : xl_K mX3_idles := ⟨wc_pX3.1, (wc_t5 114 rfl rfl), xl_iX3, wc_pX3.2.1, wc_pX3.2.2, wc_d12⟩
theorem vX3_idles : xl_V mX3_idles := ⟨kX3_idles, (wc_t5 112 rfl rfl), (wc_t5 113 rfl rfl)⟩
def mX3_source : XI := (yX3_source, cX3_source, 4, (some .int), 2, 46, 2)
theorem kX3_source : xl_K mX3_source := ⟨wc_pX3.1, (wc_t5 126 rfl rfl), xl_iX3, wc_pX3.2.1, wc_pX3.2.2, wc_d1⟩
theorem vX3_source : xl_V mX3_source := ⟨kX3_source, (wc_t5 124 rfl rfl), (wc_t5 125 rfl rfl)⟩
def mX3_session : XI := (yX3_session, cX3_session, 3, (some .int), 3, 67, 2)
theorem kX3_session : xl_K mX3_session := ⟨wc_pX3.1, (wc_t5 130 rfl rfl), xl_iX3, wc_pX3.2.1, wc_pX3.2.2, wc_d1⟩
theorem vX3_session : xl_V mX3_session := ⟨kX3_session, (wc_t5 128 rfl rfl), (wc_t5 129 rfl rfl)⟩
def mX3_at : XI := (yX3_at, cX3_at, 6, (some .int), 3, 68, 2)
theorem kX3_at : xl_K mX3_at := ⟨wc_pX3.1, (wc_t5 135 rfl rfl), xl_iX3, wc_pX3.2.1, wc_pX3.2.2, wc_d1⟩
theorem vX3_at : xl_V mX3_at := ⟨kX3_at, (wc_t5 133 rfl rfl), (wc_t5 134 rfl rfl)⟩
def mX3_message : XI := (yX3_message, cX3_message, 5, (some .int), 1, 25, 2)
theorem kX3_message : xl_K mX3_message := ⟨wc_pX3.1, (wc_t5 139 rfl rfl), xl_iX3, wc_pX3.2.1, wc_pX3.2.2, wc_d1⟩
theorem vX3_message : xl_V mX3_message := ⟨kX3_message, (wc_t5 137 rfl rfl), (wc_t5 138 rfl rfl)⟩
def mX3_sent : XI := (yX3_sent, cX3_sent, 2, (some .int), 1, 25, 1)
theorem kX3_sent : xl_K mX3_sent := ⟨wc_pX3.1, (wc_t5 143 rfl rfl), xl_iX3, wc_pX3.2.1, wc_pX3.2.2, wc_d12⟩
theorem vX3_sent : xl_V mX3_sent := ⟨kX3_sent, (wc_t5 141 rfl rfl), (wc_t5 142 rfl rfl)⟩
def mX3_stands : XI := (yX3_stands, cX3_stands, 5, (some .int), 2, 44, 0)
theorem kX3_stands : xl_K mX3_stands := ⟨wc_pX3.1, (wc_t5 148 rfl rfl), xl_iX3, wc_pX3.2.1, wc_pX3.2.2, wc_d16⟩
theorem vX3_stands : xl_V mX3_stands := ⟨kX3_stands, (wc_t5 146 rfl rfl), (wc_t5 147 rfl rfl)⟩
def mX3_isKey : XI := (yX3_isKey, cX3_isKey, 1, (some .boolean), 1, 25, 1)
theorem kX3_isKey : xl_K mX3_isKey := ⟨wc_pX3.1, (wc_t5 155 rfl rfl), xl_iX3, wc_pX3.2.1, wc_pX3.2.2, wc_d5⟩
theorem vX3_isKey : xl_U mX3_isKey := ⟨kX3_isKey, (wc_t5 154 rfl rfl)⟩
def mX3_closed : XI := (yX3_closed, cX3_closed, 2, (some .int), 2, 45, 1)
theorem kX3_closed : xl_K mX3_closed := ⟨wc_pX3.1, (wc_t5 152 rfl rfl), xl_iX3, wc_pX3.2.1, wc_pX3.2.2, wc_d12⟩
theorem vX3_closed : xl_V mX3_closed := ⟨kX3_closed, (wc_t5 150 rfl rfl), (wc_t5 151 rfl rfl)⟩
def mX3_finals : XI := (yX3_finals, cX3_finals, 5, (some .int), 2, 45, 2)
theorem kX3_finals : xl_K mX3_finals := ⟨wc_pX3.1, (wc_t5 159 rfl rfl), xl_iX3, wc_pX3.2.1, wc_pX3.2.2, wc_d1⟩
theorem vX3_finals : xl_V mX3_finals := ⟨kX3_finals, (wc_t5 157 rfl rfl), (wc_t5 158 rfl rfl)⟩
def mX3_kinds : XI := (yX3_kinds, cX3_kinds, 6, (some .int), 2, 45, 1)
theorem kX3_kinds : xl_K mX3_kinds := ⟨wc_pX3.1, (wc_t5 164 rfl rfl), xl_iX3, wc_pX3.2.1, wc_pX3.2.2, wc_d12⟩
theorem vX3_kinds : xl_V mX3_kinds := ⟨kX3_kinds, (wc_t5 162 rfl rfl), (wc_t5 163 rfl rfl)⟩
def mX3_slow : XI := (yX3_slow, cX3_slow, 5, (some .int), 3, 67, 0)
theorem kX3_slow : xl_K mX3_slow := ⟨wc_pX3.1, (wc_t5 168 rfl rfl), xl_iX3, wc_pX3.2.1, wc_pX3.2.2, wc_d16⟩
theorem vX3_slow : xl_V mX3_slow := ⟨kX3_slow, (wc_t5 166 rfl rfl), (wc_t5 167 rfl rfl)⟩
def mX3_span : XI := (yX3_span, cX3_span, 11, (some .int), 1, 25, 2)
theorem kX3_span : xl_K mX3_span := ⟨wc_pX3.1, (wc_t5 172 rfl rfl), xl_iX3, wc_pX3.2.1, wc_pX3.2.2, wc_d1⟩
theorem vX3_span : xl_V mX3_span := ⟨kX3_span, (wc_t5 170 rfl rfl), (wc_t5 171 rfl rfl)⟩
def mX3_taken : XI := (yX3_taken, cX3_taken, 1, (some .int), 1, 22, 0)
theorem kX3_taken : xl_K mX3_taken := ⟨wc_pX3.1, (wc_t5 180 rfl rfl), xl_iX3, wc_pX3.2.1, wc_pX3.2.2, wc_d16⟩
theorem vX3_taken : xl_V mX3_taken := ⟨kX3_taken, (wc_t5 178 rfl rfl), (wc_t5 179 rfl rfl)⟩
def mX3_holds : XI := (yX3_holds, cX3_holds, 5, (some .int), 2, 45, 0)
theorem kX3_holds : xl_K mX3_holds := ⟨wc_pX3.1, (wc_t5 184 rfl rfl), xl_iX3, wc_pX3.2.1, wc_pX3.2.2, wc_d16⟩
theorem vX3_holds : xl_V mX3_holds := ⟨kX3_holds, (wc_t5 182 rfl rfl), (wc_t5 183 rfl rfl)⟩
def mX3_next : XI := (yX3_next, cX3_next, 4, (some .int), 3, 67, 0)
theorem kX3_next : xl_K mX3_next := ⟨wc_pX3.1, (wc_t5 188 rfl rfl), xl_iX3, wc_pX3.2.1, wc_pX3.2.2, wc_d16⟩
theorem vX3_next : xl_V mX3_next := ⟨kX3_next, (wc_t5 186 rfl rfl), (wc_t5 187 rfl rfl)⟩
def mX3_ahead : XI := (yX3_ahead, cX3_ahead, 5, (some .int), 3, 67, 1)
theorem kX3_ahead : xl_K mX3_ahead := ⟨wc_pX3.1, (wc_t5 192 rfl rfl), xl_iX3, wc_pX3.2.1, wc_pX3.2.2, wc_d12⟩
theorem vX3_ahead : xl_V mX3_ahead := ⟨kX3_ahead, (wc_t5 190 rfl rfl), (wc_t5 191 rfl rfl)⟩
def mX3_would : XI := (yX3_would, cX3_would, 6, (some .int), 6, 145, 4)
theorem kX3_would : xl_K mX3_would := ⟨wc_pX3.1, (wc_t5 196 rfl rfl), xl_iX3, wc_pX3.2.1, wc_pX3.2.2, wc_d10⟩
theorem vX3_would : xl_V mX3_would := ⟨kX3_would, (wc_t5 194 rfl rfl), (wc_t5 195 rfl rfl)⟩
def mX3_ofInput : XI := (yX3_ofInput, cX3_ofInput, 3, (some .int), 0, 0, 2)
theorem kX3_ofInput : xl_K mX3_ofInput := ⟨wc_pX3.1, (wc_t5 176 rfl rfl), xl_iX3, wc_pX3.2.1, wc_pX3.2.2, wc_d1⟩
theorem vX3_ofInput : xl_V mX3_ofInput := ⟨kX3_ofInput, (wc_t5 175 rfl rfl), (wc_2 _ (.tail _ (.tail _ (.tail _ (.head _)))))⟩
def mX3_laysTimes : XI := (yX3_laysTimes, cX3_laysTimes, 4, none, 1, 22, 1)
theorem kX3_laysTimes : xl_K mX3_laysTimes := ⟨wc_pX3.1, (wc_t5 204 rfl rfl), xl_iX3, wc_pX3.2.1, wc_pX3.2.2, wc_d4⟩
theorem vX3_laysTimes : xl_V mX3_laysTimes := ⟨kX3_laysTimes, (wc_t5 203 rfl rfl), (wc_2 _ (.tail _ (.tail _ (.tail _ (.tail _ (.head _))))))⟩
def mX3_fallsInto : XI := (yX3_fallsInto, cX3_fallsInto, 4, (some .int), 1, 20, 1)
theorem kX3_fallsInto : xl_K mX3_fallsInto := ⟨wc_pX3.1, (wc_t5 208 rfl rfl), xl_iX3, wc_pX3.2.1, wc_pX3.2.2, wc_d12⟩
theorem vX3_fallsInto : xl_V mX3_fallsInto := ⟨kX3_fallsInto, (wc_t5 207 rfl rfl), (wc_2 _ (.tail _ (.tail _ (.tail _ (.tail _ (.tail _ (.head _)))))))⟩
def mX3_batch : XI := (yX3_batch, cX3_batch, 12, (some .int), 2, 45, 1)
theorem kX3_batch : xl_K mX3_batch := ⟨wc_pX3.1, (wc_t5 200 rfl rfl), xl_iX3, wc_pX3.2.1, wc_pX3.2.2, wc_d12⟩
theorem vX3_batch : xl_V mX3_batch := ⟨kX3_batch, (wc_t5 198 rfl rfl), (wc_t5 199 rfl rfl)⟩
def mX3_parts : XI := (yX3_parts, cX3_parts, 4, (some .int), 2, 45, 2)
theorem kX3_parts : xl_K mX3_parts := ⟨wc_pX3.1, (wc_t5 212 rfl rfl), xl_iX3, wc_pX3.2.1, wc_pX3.2.2, wc_d1⟩
theorem vX3_parts : xl_V mX3_parts := ⟨kX3_parts, (wc_t5 210 rfl rfl), (wc_t5 211 rfl rfl)⟩
def mX3_comesAgain : XI := (yX3_comesAgain, cX3_comesAgain, 5, none, 6, 145, 2)
theorem kX3_comesAgain : xl_K mX3_comesAgain := ⟨wc_pX3.1, (wc_t5 225 rfl rfl), xl_iX3, wc_pX3.2.1, wc_pX3.2.2, wc_d0⟩
theorem vX3_comesAgain : xl_V mX3_comesAgain := ⟨kX3_comesAgain, (wc_t5 224 rfl rfl), (wc_2 _ (.tail _ (.tail _ (.tail _ (.tail _ (.tail _ (.tail _ (.head _))))))))⟩
def mX3_startsAgain : XI := (yX3_startsAgain, cX3_startsAgain, 5, none, 2, 49, 3)
theorem kX3_startsAgain : xl_K mX3_startsAgain := ⟨wc_pX3.1, (wc_t5 221 rfl rfl), xl_iX3, wc_pX3.2.1, wc_pX3.2.2, wc_d2⟩
theorem vX3_startsAgain : xl_V mX3_startsAgain := ⟨kX3_startsAgain, (wc_t5 220 rfl rfl), (wc_2 _ (.tail _ (.tail _ (.tail _ (.tail _ (.tail _ (.tail _ (.tail _ (.head _)))))))))⟩
def mX3_closedMany : XI := (yX3_closedMany, cX3_closedMany, 4, (some .int), 1, 22, 1)
theorem kX3_closedMany : xl_K mX3_closedMany := ⟨wc_pX3.1, (wc_t5 60 rfl rfl), xl_iX3, wc_pX3.2.1, wc_pX3.2.2, wc_d12⟩
theorem vX3_closedMany : xl_V mX3_closedMany := ⟨kX3_closedMany, (wc_t5 59 rfl rfl), (wc_2 _ (.tail _ (.tail _ (.tail _ (.tail _ (.tail _ (.tail _ (.tail _ (.tail _ (.head _))))))))))⟩
def mX3_latest : XI := (yX3_latest, cX3_latest, 5, (some .int), 7, 169, 0)
theorem kX3_latest : xl_K mX3_latest := ⟨wc_pX3.1, (wc_t5 217 rfl rfl), xl_iX3, wc_pX3.2.1, wc_pX3.2.2, wc_d16⟩
theorem vX3_latest : xl_V mX3_latest := ⟨kX3_latest, (wc_t5 215 rfl rfl), (wc_t5 216 rfl rfl)⟩
def mX3_again : XI := (yX3_again, cX3_again, 5, (some .int), 7, 169, 3)
theorem kX3_again : xl_K mX3_again := ⟨wc_pX3.1, (wc_t5 229 rfl rfl), xl_iX3, wc_pX3.2.1, wc_pX3.2.2, wc_d15⟩
theorem vX3_again : xl_V mX3_again := ⟨kX3_again, (wc_t5 227 rfl rfl), (wc_t5 228 rfl rfl)⟩
def mX3_without : XI := (yX3_without, cX3_without, 3, (some .int), 7, 169, 1)
theorem kX3_without : xl_K mX3_without := ⟨wc_pX3.1, (wc_t5 233 rfl rfl), xl_iX3, wc_pX3.2.1, wc_pX3.2.2, wc_d12⟩
theorem vX3_without : xl_V mX3_without := ⟨kX3_without, (wc_t5 231 rfl rfl), (wc_t5 232 rfl rfl)⟩
def mX3_input : XI := (yX3_input, cX3_input, 3, (some .int), 1, 25, 2)
theorem kX3_input : xl_K mX3_input := ⟨wc_pX3.1, (wc_t5 237 rfl rfl), xl_iX3, wc_pX3.2.1, wc_pX3.2.2, wc_d1⟩
theorem vX3_input : xl_V mX3_input := ⟨kX3_input, (wc_t5 235 rfl rfl), (wc_t5 236 rfl rfl)⟩
def mX3_readsAct : XI := (yX3_readsAct, cX3_readsAct, 2, (some .boolean), 8, 176, 1)
theorem kX3_readsAct : xl_K mX3_readsAct := ⟨wc_pX3.1, (wc_t6 5 rfl rfl), xl_iX3, wc_pX3.2.1, wc_pX3.2.2, wc_d5⟩
theorem vX3_readsAct : xl_V mX3_readsAct := ⟨kX3_readsAct, (wc_t6 4 rfl rfl), (wc_2 _ (.tail _ (.tail _ (.tail _ (.tail _ (.tail _ (.tail _ (.tail _ (.tail _ (.tail _ (.head _)))))))))))⟩
def mX3_doesAct : XI := (yX3_doesAct, cX3_doesAct, 2, (some .int), 7, 169, 1)
theorem kX3_doesAct : xl_K mX3_doesAct := ⟨wc_pX3.1, (wc_t6 10 rfl rfl), xl_iX3, wc_pX3.2.1, wc_pX3.2.2, wc_d12⟩
theorem vX3_doesAct : xl_V mX3_doesAct := ⟨kX3_doesAct, (wc_t6 9 rfl rfl), (wc_2 _ (.tail _ (.tail _ (.tail _ (.tail _ (.tail _ (.tail _ (.tail _ (.tail _ (.tail _ (.tail _ (.head _))))))))))))⟩
def mX3_day : XI := (yX3_day, cX3_day, 3, (some .int), 9, 197, 0)
theorem kX3_day : xl_K mX3_day := ⟨wc_pX3.1, (wc_t6 1 rfl rfl), xl_iX3, wc_pX3.2.1, wc_pX3.2.2, wc_d16⟩
theorem vX3_day : xl_V mX3_day := ⟨kX3_day, (wc_t5 239 rfl rfl), (wc_t6 0 rfl rfl)⟩
def mX3_draws : XI := (yX3_draws, cX3_draws, 2, (some .int), 0, 0, 1)
theorem kX3_draws : xl_K mX3_draws := ⟨wc_pX3.1, (wc_t6 19 rfl rfl), xl_iX3, wc_pX3.2.1, wc_pX3.2.2, wc_d12⟩
theorem vX3_draws : xl_V mX3_draws := ⟨kX3_draws, (wc_t6 18 rfl rfl), (wc_2 _ (.tail _ (.tail _ (.tail _ (.tail _ (.tail _ (.tail _ (.tail _ (.tail _ (.tail _ (.tail _ (.tail _ (.head _)))))))))))))⟩
def mX3_years : XI := (yX3_years, cX3_years, 9, (some .int), 6, 145, 2)
theorem kX3_years : xl_K mX3_years := ⟨wc_pX3.1, (wc_t6 14 rfl rfl), xl_iX3, wc_pX3.2.1, wc_pX3.2.2, wc_d1⟩
theorem vX3_years : xl_V mX3_years := ⟨kX3_years, (wc_t6 12 rfl rfl), (wc_t6 13 rfl rfl)⟩
def mX3_keep : XI := (yX3_keep, cX3_keep, 2, (some .boolean), 1, 25, 1)
theorem kX3_keep : xl_K mX3_keep := ⟨wc_pX3.1, (wc_t6 24 rfl rfl), xl_iX3, wc_pX3.2.1, wc_pX3.2.2, wc_d5⟩
theorem vX3_keep : xl_V mX3_keep := ⟨kX3_keep, (wc_t6 22 rfl rfl), (wc_t6 23 rfl rfl)⟩
def mX3_back : XI := (yX3_back, cX3_back, 2, (some .boolean), 1, 25, 1)
theorem kX3_back : xl_K mX3_back := ⟨wc_pX3.1, (wc_t6 28 rfl rfl), xl_iX3, wc_pX3.2.1, wc_pX3.2.2, wc_d5⟩
theorem vX3_back : xl_V mX3_back := ⟨kX3_back, (wc_t6 26 rfl rfl), (wc_t6 27 rfl rfl)⟩
def mX3_count : XI := (yX3_count, cX3_count, 2, (some .int), 1, 25, 1)
theorem kX3_count : xl_K mX3_count := ⟨wc_pX3.1, (wc_t6 32 rfl rfl), xl_iX3, wc_pX3.2.1, wc_pX3.2.2, wc_d12⟩
theorem vX3_count : xl_V mX3_count := ⟨kX3_count, (wc_t6 30 rfl rfl), (wc_t6 31 rfl rfl)⟩
def mX3_row : XI := (yX3_row, cX3_row, 2, (some .long), 1, 25, 1)
theorem kX3_row : xl_K mX3_row := ⟨wc_pX3.1, (wc_t6 36 rfl rfl), xl_iX3, wc_pX3.2.1, wc_pX3.2.2, wc_d17⟩
theorem vX3_row : xl_V mX3_row := ⟨kX3_row, (wc_t6 34 rfl rfl), (wc_t6 35 rfl rfl)⟩
def mJ7_fill_53178 : XI := (yJ7_fill_53178, cJ7_fill_53178, 4, none, 0, 0, 2)
theorem kJ7_fill_53178 : xl_K mJ7_fill_53178 := ⟨wc_pJ7.1, (wc_t3 120 rfl rfl), xl_iJ7, wc_pJ7.2.1, wc_pJ7.2.2, wc_d33⟩
theorem vJ7_fill_53178 : xl_U mJ7_fill_53178 := ⟨kJ7_fill_53178, (wc_t3 119 rfl rfl)⟩
theorem fX0_13 : xl_F RX0 13 0 0 := ⟨RX0, TX0, 4, rfl, by decide, xl_inX0, (wc_t1 39 rfl rfl)⟩
theorem fX0_19 : xl_F RX0 19 0 1 := ⟨RX0, TX0, 4, rfl, by decide, xl_inX0, (wc_t1 40 rfl rfl)⟩
theorem fX0_22 : xl_F RX0 22 0 2 := ⟨RX0, TX0, 4, rfl, by decide, xl_inX0, (wc_t1 41 rfl rfl)⟩
theorem fX0_26 : xl_F RX0 26 0 3 := ⟨RX0, TX0, 4, rfl, by decide, xl_inX0, (wc_t1 43 rfl rfl)⟩
theorem wX0_26 : xl_Fp RX0 26 0 3 .int := ⟨RX0, TX0, 4, tyX0, rfl, by decide, xl_inX0, (wc_t1 43 rfl rfl), tyX0_ok, nmX0, rfl, by decide +kernel⟩
theorem lX0_7 : Cond.methodLink RX0 7 Lib.Math.max.name ∈ xl_T := (wc_t1 36 rfl rfl)
theorem lX0_29 : Cond.methodLink RX0 29 arraycopyName ∈ xl_T := (wc_t1 67 rfl rfl)
theorem lX0_35 : Cond.methodLink RX0 35 yX0_set ∈ xl_T := (wc_t1 70 rfl rfl)
theorem lX0_39 : Cond.methodLink RX0 39 yX0_get ∈ xl_T := (wc_t2 123 rfl rfl)
theorem lX0_42 : Cond.methodLink RX0 42 Lib.Math.min.name ∈ xl_T := (wc_t1 213 rfl rfl)
theorem fX1_14 : xl_F RX1 14 1 10 := ⟨RX1, TX1, 16, rfl, by decide, xl_inX1, (wc_t1 95 rfl rfl)⟩
theorem fX1_20 : xl_F RX1 20 1 11 := ⟨RX1, TX1, 16, rfl, by decide, xl_inX1, (wc_t1 97 rfl rfl)⟩
theorem fX1_23 : xl_F RX1 23 1 12 := ⟨RX1, TX1, 16, rfl, by decide, xl_inX1, (wc_t1 99 rfl rfl)⟩
theorem fX1_26 : xl_F RX1 26 1 13 := ⟨RX1, TX1, 16, rfl, by decide, xl_inX1, (wc_t1 101 rfl rfl)⟩
theorem fX1_29 : xl_F RX1 29 1 14 := ⟨RX1, TX1, 16, rfl, by decide, xl_inX1, (wc_t1 103 rfl rfl)⟩
theorem fX1_32 : xl_F RX1 32 1 15 := ⟨RX1, TX1, 16, rfl, by decide, xl_inX1, (wc_t1 105 rfl rfl)⟩
theorem fX1_39 : xl_F RX1 39 1 0 := ⟨RX1, TX1, 16, rfl, by decide, xl_inX1, (wc_t1 75 rfl rfl)⟩
theorem wX1_39 : xl_Fp RX1 39 1 0 .int := ⟨RX1, TX1, 16, tyX1, rfl, by decide, xl_inX1, (wc_t1 75 rfl rfl), tyX1_ok, nmX1, rfl, by decide +kernel⟩
theorem fX1_43 : xl_F RX1 43 1 1 := ⟨RX1, TX1, 16, rfl, by decide, xl_inX1, (wc_t1 77 rfl rfl)⟩
theorem wX1_43 : xl_Fp RX1 43 1 1 .int := ⟨RX1, TX1, 16, tyX1, rfl, by decide, xl_inX1, (wc_t1 77 rfl rfl), tyX1_ok, nmX1, rfl, by decide +kernel⟩
theorem fX1_46 : xl_F RX1 46 1 2 := ⟨RX1, TX1, 16, rfl, by decide, xl_inX1, (wc_t1 79 rfl rfl)⟩
theorem wX1_46 : xl_Fp RX1 46 1 2 .int := ⟨RX1, TX1, 16, tyX1, rfl, by decide, xl_inX1, (wc_t1 79 rfl rfl), tyX1_ok, nmX1, rfl, by decide +kernel⟩
theorem fX1_49 : xl_F RX1 49 1 3 := ⟨RX1, TX1, 16, rfl, by decide, xl_inX1, (wc_t1 81 rfl rfl)⟩
theorem wX1_49 : xl_Fp RX1 49 1 3 .int := ⟨RX1, TX1, 16, tyX1, rfl, by decide, xl_inX1, (wc_t1 81 rfl rfl), tyX1_ok, nmX1, rfl, by decide +kernel⟩
theorem fX1_52 : xl_F RX1 52 1 4 := ⟨RX1, TX1, 16, rfl, by decide, xl_inX1, (wc_t1 83 rfl rfl)⟩
theorem wX1_52 : xl_Fp RX1 52 1 4 .int := ⟨RX1, TX1, 16, tyX1, rfl, by decide, xl_inX1, (wc_t1 83 rfl rfl), tyX1_ok, nmX1, rfl, by decide +kernel⟩
theorem fX1_55 : xl_F RX1 55 1 5 := ⟨RX1, TX1, 16, rfl, by decide, xl_inX1, (wc_t1 85 rfl rfl)⟩
theorem wX1_55 : xl_Fp RX1 55 1 5 .int := ⟨RX1, TX1, 16, tyX1, rfl, by decide, xl_inX1, (wc_t1 85 rfl rfl), tyX1_ok, nmX1, rfl, by decide +kernel⟩
theorem fX1_58 : xl_F RX1 58 1 6 := ⟨RX1, TX1, 16, rfl, by decide, xl_inX1, (wc_t1 87 rfl rfl)⟩
theorem wX1_58 : xl_Fp RX1 58 1 6 .int := ⟨RX1, TX1, 16, tyX1, rfl, by decide, xl_inX1, (wc_t1 87 rfl rfl), tyX1_ok, nmX1, rfl, by decide +kernel⟩
theorem fX1_61 : xl_F RX1 61 1 7 := ⟨RX1, TX1, 16, rfl, by decide, xl_inX1, (wc_t1 89 rfl rfl)⟩
theorem wX1_61 : xl_Fp RX1 61 1 7 .int := ⟨RX1, TX1, 16, tyX1, rfl, by decide, xl_inX1, (wc_t1 89 rfl rfl), tyX1_ok, nmX1, rfl, by decide +kernel⟩
theorem fX1_64 : xl_F RX1 64 1 8 := ⟨RX1, TX1, 16, rfl, by decide, xl_inX1, (wc_t1 91 rfl rfl)⟩
theorem wX1_64 : xl_Fp RX1 64 1 8 .int := ⟨RX1, TX1, 16, tyX1, rfl, by decide, xl_inX1, (wc_t1 91 rfl rfl), tyX1_ok, nmX1, rfl, by decide +kernel⟩
theorem fX1_67 : xl_F RX1 67 1 9 := ⟨RX1, TX1, 16, rfl, by decide, xl_inX1, (wc_t1 93 rfl rfl)⟩
theorem wX1_67 : xl_Fp RX1 67 1 9 .int := ⟨RX1, TX1, 16, tyX1, rfl, by decide, xl_inX1, (wc_t1 93 rfl rfl), tyX1_ok, nmX1, rfl, by decide +kernel⟩
theorem fX1_85 : xl_F RX1 85 0 3 := ⟨RX0, TX0, 4, rfl, by decide, xl_inX0, (wc_t1 42 rfl rfl)⟩
theorem wX1_85 : xl_Fp RX1 85 0 3 .int := ⟨RX0, TX0, 4, tyX0, rfl, by decide, xl_inX0, (wc_t1 42 rfl rfl), tyX0_ok, nmX0, rfl, by decide +kernel⟩
theorem lX1_11 : Cond.methodLink RX1 11 yX0_init ∈ xl_T := (wc_t1 32 rfl rfl)
theorem lX1_35 : Cond.methodLink RX1 35 yX1_reset ∈ xl_T := (wc_t1 55 rfl rfl)
theorem lX1_70 : Cond.methodLink RX1 70 yX0_clear ∈ xl_T := (wc_t1 59 rfl rfl)
theorem lX1_73 : Cond.methodLink RX1 73 yX0_open ∈ xl_T := (wc_t1 63 rfl rfl)
theorem lX1_77 : Cond.methodLink RX1 77 yX0_set ∈ xl_T := (wc_t1 74 rfl rfl)
theorem lX1_81 : Cond.methodLink RX1 81 yX0_copyFrom ∈ xl_T := (wc_t1 209 rfl rfl)
theorem lX1_88 : Cond.methodLink RX1 88 Lib.Math.max.name ∈ xl_T := (wc_t2 16 rfl rfl)
theorem lX1_94 : Cond.methodLink RX1 94 yX1_note ∈ xl_T := (wc_t2 17 rfl rfl)
theorem lX1_97 : Cond.methodLink RX1 97 yX1_playEvent ∈ xl_T := (wc_t2 21 rfl rfl)
theorem lX1_101 : Cond.methodLink RX1 101 yX1_playMark ∈ xl_T := (wc_t3 2 rfl rfl)
theorem lX1_104 : Cond.methodLink RX1 104 yX1_playIdle ∈ xl_T := (wc_t3 18 rfl rfl)
theorem lX1_108 : Cond.methodLink RX1 108 yX0_get ∈ xl_T := (wc_t2 45 rfl rfl)
theorem lX1_111 : Cond.methodLink RX1 111 yX1_fateOf ∈ xl_T := (wc_t2 25 rfl rfl)
theorem lX1_115 : Cond.methodLink RX1 115 yX0_add ∈ xl_T := (wc_t2 29 rfl rfl)
theorem lX1_118 : Cond.methodLink RX1 118 yX1_melt ∈ xl_T := (wc_t2 33 rfl rfl)
theorem lX1_121 : Cond.methodLink RX1 121 yX1_raiseMark ∈ xl_T := (wc_t2 91 rfl rfl)
theorem lX1_124 : Cond.methodLink RX1 124 yX1_rise ∈ xl_T := (wc_t2 95 rfl rfl)
theorem lX1_127 : Cond.methodLink RX1 127 yX1_isRipe ∈ xl_T := (wc_t2 83 rfl rfl)
theorem lX1_131 : Cond.methodLink RX1 131 Lib.Math.min.name ∈ xl_T := (wc_t2 74 rfl rfl)
theorem lX1_134 : Cond.methodLink RX1 134 yX1_touches ∈ xl_T := (wc_t2 41 rfl rfl)
theorem lX1_138 : Cond.methodLink RX1 138 yX1_firstTouched ∈ xl_T := (wc_t2 37 rfl rfl)
theorem lX1_141 : Cond.methodLink RX1 141 yX1_touchedFrom ∈ xl_T := (wc_t2 46 rfl rfl)
theorem lX1_145 : Cond.methodLink RX1 145 yX1_placeFor ∈ xl_T := (wc_t2 50 rfl rfl)
theorem lX1_148 : Cond.methodLink RX1 148 yX1_takeBack ∈ xl_T := (wc_t2 54 rfl rfl)
theorem lX1_151 : Cond.methodLink RX1 151 yX1_swallowNext ∈ xl_T := (wc_t2 70 rfl rfl)
theorem lX1_154 : Cond.methodLink RX1 154 yX1_kindOfNew ∈ xl_T := (wc_t2 79 rfl rfl)
theorem lX1_157 : Cond.methodLink RX1 157 yX1_announce ∈ xl_T := (wc_t2 87 rfl rfl)
theorem lX1_160 : Cond.methodLink RX1 160 yX0_drop ∈ xl_T := (wc_t2 75 rfl rfl)
theorem lX1_163 : Cond.methodLink RX1 163 yX1_leastMark ∈ xl_T := (wc_t2 99 rfl rfl)
theorem lX1_166 : Cond.methodLink RX1 166 yX1_dueBehind ∈ xl_T := (wc_t2 103 rfl rfl)
theorem lX1_169 : Cond.methodLink RX1 169 yX1_turnOf ∈ xl_T := (wc_t2 111 rfl rfl)
theorem lX1_172 : Cond.methodLink RX1 172 yX1_isOver ∈ xl_T := (wc_t2 107 rfl rfl)
theorem lX1_175 : Cond.methodLink RX1 175 yX1_finish ∈ xl_T := (wc_t2 115 rfl rfl)
theorem lX1_178 : Cond.methodLink RX1 178 yX0_reach ∈ xl_T := (wc_t2 66 rfl rfl)
theorem lX1_181 : Cond.methodLink RX1 181 yX0_copyRow ∈ xl_T := (wc_t2 119 rfl rfl)
theorem lX1_185 : Cond.methodLink RX1 185 yX1_hasResult ∈ xl_T := (wc_t2 58 rfl rfl)
theorem lX1_188 : Cond.methodLink RX1 188 yX1_send ∈ xl_T := (wc_t2 62 rfl rfl)
theorem fX2_10 : xl_F RX2 10 2 0 := ⟨RX2, TX2, 13, rfl, by decide, xl_inX2, (wc_t1 141 rfl rfl)⟩
theorem fX2_16 : xl_F RX2 16 2 1 := ⟨RX2, TX2, 13, rfl, by decide, xl_inX2, (wc_t1 142 rfl rfl)⟩
theorem fX2_19 : xl_F RX2 19 2 2 := ⟨RX2, TX2, 13, rfl, by decide, xl_inX2, (wc_t1 143 rfl rfl)⟩
theorem fX2_23 : xl_F RX2 23 2 5 := ⟨RX2, TX2, 13, rfl, by decide, xl_inX2, (wc_t1 146 rfl rfl)⟩
theorem fX2_26 : xl_F RX2 26 2 7 := ⟨RX2, TX2, 13, rfl, by decide, xl_inX2, (wc_t1 148 rfl rfl)⟩
theorem fX2_30 : xl_F RX2 30 2 9 := ⟨RX2, TX2, 13, rfl, by decide, xl_inX2, (wc_t1 150 rfl rfl)⟩
theorem fX2_34 : xl_F RX2 34 2 11 := ⟨RX2, TX2, 13, rfl, by decide, xl_inX2, (wc_t1 152 rfl rfl)⟩
theorem fX2_37 : xl_F RX2 37 2 12 := ⟨RX2, TX2, 13, rfl, by decide, xl_inX2, (wc_t1 153 rfl rfl)⟩
theorem fX2_40 : xl_F RX2 40 2 10 := ⟨RX2, TX2, 13, rfl, by decide, xl_inX2, (wc_t1 151 rfl rfl)⟩
theorem wX2_40 : xl_Fp RX2 40 2 10 .int := ⟨RX2, TX2, 13, tyX2, rfl, by decide, xl_inX2, (wc_t1 151 rfl rfl), tyX2_ok, nmX2, rfl, by decide +kernel⟩
theorem fX2_63 : xl_F RX2 63 1 10 := ⟨RX1, TX1, 16, rfl, by decide, xl_inX1, (wc_t1 96 rfl rfl)⟩
theorem fX2_73 : xl_F RX2 73 1 14 := ⟨RX1, TX1, 16, rfl, by decide, xl_inX1, (wc_t1 104 rfl rfl)⟩
theorem fX2_76 : xl_F RX2 76 0 3 := ⟨RX0, TX0, 4, rfl, by decide, xl_inX0, (wc_t1 44 rfl rfl)⟩
theorem wX2_76 : xl_Fp RX2 76 0 3 .int := ⟨RX0, TX0, 4, tyX0, rfl, by decide, xl_inX0, (wc_t1 44 rfl rfl), tyX0_ok, nmX0, rfl, by decide +kernel⟩
theorem fX2_87 : xl_F RX2 87 1 4 := ⟨RX1, TX1, 16, rfl, by decide, xl_inX1, (wc_t1 84 rfl rfl)⟩
theorem wX2_87 : xl_Fp RX2 87 1 4 .int := ⟨RX1, TX1, 16, tyX1, rfl, by decide, xl_inX1, (wc_t1 84 rfl rfl), tyX1_ok, nmX1, rfl, by decide +kernel⟩
theorem fX2_93 : xl_F RX2 93 1 3 := ⟨RX1, TX1, 16, rfl, by decide, xl_inX1, (wc_t1 82 rfl rfl)⟩
theorem wX2_93 : xl_Fp RX2 93 1 3 .int := ⟨RX1, TX1, 16, tyX1, rfl, by decide, xl_inX1, (wc_t1 82 rfl rfl), tyX1_ok, nmX1, rfl, by decide +kernel⟩
theorem fX2_131 : xl_F RX2 131 1 11 := ⟨RX1, TX1, 16, rfl, by decide, xl_inX1, (wc_t1 98 rfl rfl)⟩
theorem fX2_161 : xl_F RX2 161 1 12 := ⟨RX1, TX1, 16, rfl, by decide, xl_inX1, (wc_t1 100 rfl rfl)⟩
theorem fX2_167 : xl_F RX2 167 1 15 := ⟨RX1, TX1, 16, rfl, by decide, xl_inX1, (wc_t1 106 rfl rfl)⟩
theorem fX2_174 : xl_F RX2 174 1 5 := ⟨RX1, TX1, 16, rfl, by decide, xl_inX1, (wc_t1 86 rfl rfl)⟩
theorem wX2_174 : xl_Fp RX2 174 1 5 .int := ⟨RX1, TX1, 16, tyX1, rfl, by decide, xl_inX1, (wc_t1 86 rfl rfl), tyX1_ok, nmX1, rfl, by decide +kernel⟩
theorem fX2_177 : xl_F RX2 177 1 13 := ⟨RX1, TX1, 16, rfl, by decide, xl_inX1, (wc_t1 102 rfl rfl)⟩
theorem fX2_195 : xl_F RX2 195 1 7 := ⟨RX1, TX1, 16, rfl, by decide, xl_inX1, (wc_t1 90 rfl rfl)⟩
theorem wX2_195 : xl_Fp RX2 195 1 7 .int := ⟨RX1, TX1, 16, tyX1, rfl, by decide, xl_inX1, (wc_t1 90 rfl rfl), tyX1_ok, nmX1, rfl, by decide +kernel⟩
theorem fX2_198 : xl_F RX2 198 1 8 := ⟨RX1, TX1, 16, rfl, by decide, xl_inX1, (wc_t1 92 rfl rfl)⟩
theorem wX2_198 : xl_Fp RX2 198 1 8 .int := ⟨RX1, TX1, 16, tyX1, rfl, by decide, xl_inX1, (wc_t1 92 rfl rfl), tyX1_ok, nmX1, rfl, by decide +kernel⟩
theorem fX2_201 : xl_F RX2 201 1 9 := ⟨RX1, TX1, 16, rfl, by decide, xl_inX1, (wc_t1 94 rfl rfl)⟩
theorem wX2_201 : xl_Fp RX2 201 1 9 .int := ⟨RX1, TX1, 16, tyX1, rfl, by decide, xl_inX1, (wc_t1 94 rfl rfl), tyX1_ok, nmX1, rfl, by decide +kernel⟩
theorem fX2_204 : xl_F RX2 204 1 6 := ⟨RX1, TX1, 16, rfl, by decide, xl_inX1, (wc_t1 88 rfl rfl)⟩
theorem wX2_204 : xl_Fp RX2 204 1 6 .int := ⟨RX1, TX1, 16, tyX1, rfl, by decide, xl_inX1, (wc_t1 88 rfl rfl), tyX1_ok, nmX1, rfl, by decide +kernel⟩
theorem fX2_212 : xl_F RX2 212 1 0 := ⟨RX1, TX1, 16, rfl, by decide, xl_inX1, (wc_t1 76 rfl rfl)⟩
theorem wX2_212 : xl_Fp RX2 212 1 0 .int := ⟨RX1, TX1, 16, tyX1, rfl, by decide, xl_inX1, (wc_t1 76 rfl rfl), tyX1_ok, nmX1, rfl, by decide +kernel⟩
theorem fX2_250 : xl_F RX2 250 1 1 := ⟨RX1, TX1, 16, rfl, by decide, xl_inX1, (wc_t1 78 rfl rfl)⟩
theorem wX2_250 : xl_Fp RX2 250 1 1 .int := ⟨RX1, TX1, 16, tyX1, rfl, by decide, xl_inX1, (wc_t1 78 rfl rfl), tyX1_ok, nmX1, rfl, by decide +kernel⟩
theorem fX2_253 : xl_F RX2 253 1 2 := ⟨RX1, TX1, 16, rfl, by decide, xl_inX1, (wc_t1 80 rfl rfl)⟩
theorem wX2_253 : xl_Fp RX2 253 1 2 .int := ⟨RX1, TX1, 16, tyX1, rfl, by decide, xl_inX1, (wc_t1 80 rfl rfl), tyX1_ok, nmX1, rfl, by decide +kernel⟩
theorem fX2_274 : xl_F RX2 274 2 4 := ⟨RX2, TX2, 13, rfl, by decide, xl_inX2, (wc_t1 145 rfl rfl)⟩
theorem wX2_274 : xl_Fp RX2 274 2 4 .int := ⟨RX2, TX2, 13, tyX2, rfl, by decide, xl_inX2, (wc_t1 145 rfl rfl), tyX2_ok, nmX2, rfl, by decide +kernel⟩
theorem fX2_277 : xl_F RX2 277 2 3 := ⟨RX2, TX2, 13, rfl, by decide, xl_inX2, (wc_t1 144 rfl rfl)⟩
theorem wX2_277 : xl_Fp RX2 277 2 3 .int := ⟨RX2, TX2, 13, tyX2, rfl, by decide, xl_inX2, (wc_t1 144 rfl rfl), tyX2_ok, nmX2, rfl, by decide +kernel⟩
theorem fX2_286 : xl_F RX2 286 2 6 := ⟨RX2, TX2, 13, rfl, by decide, xl_inX2, (wc_t1 147 rfl rfl)⟩
theorem wX2_286 : xl_Fp RX2 286 2 6 .int := ⟨RX2, TX2, 13, tyX2, rfl, by decide, xl_inX2, (wc_t1 147 rfl rfl), tyX2_ok, nmX2, rfl, by decide +kernel⟩
theorem fX2_289 : xl_F RX2 289 2 8 := ⟨RX2, TX2, 13, rfl, by decide, xl_inX2, (wc_t1 149 rfl rfl)⟩
theorem wX2_289 : xl_Fp RX2 289 2 8 .int := ⟨RX2, TX2, 13, tyX2, rfl, by decide, xl_inX2, (wc_t1 149 rfl rfl), tyX2_ok, nmX2, rfl, by decide +kernel⟩
theorem lX2_9 : Cond.methodLink RX2 9 yX1_init ∈ xl_T := (wc_t1 26 rfl rfl)
theorem lX2_44 : Cond.methodLink RX2 44 yX2_putSign ∈ xl_T := (wc_t1 186 rfl rfl)
theorem lX2_48 : Cond.methodLink RX2 48 yX2_areSettings ∈ xl_T := (wc_t1 198 rfl rfl)
theorem lX2_52 : Cond.methodLink RX2 52 yX2_remember ∈ xl_T := (wc_t1 201 rfl rfl)
theorem lX2_55 : Cond.methodLink RX2 55 yX1_reset ∈ xl_T := (wc_t1 216 rfl rfl)
theorem lX2_59 : Cond.methodLink RX2 59 yX2_isSource ∈ xl_T := (wc_t1 221 rfl rfl)
theorem lX2_67 : Cond.methodLink RX2 67 yX0_get ∈ xl_T := (wc_t1 225 rfl rfl)
theorem lX2_79 : Cond.methodLink RX2 79 yX0_set ∈ xl_T := (wc_t1 229 rfl rfl)
theorem lX2_83 : Cond.methodLink RX2 83 yX2_eventRefusal ∈ xl_T := (wc_t1 234 rfl rfl)
theorem lX2_90 : Cond.methodLink RX2 90 yX1_comeEvent ∈ xl_T := (wc_t2 12 rfl rfl)
theorem lX2_96 : Cond.methodLink RX2 96 yX2_tellTwo ∈ xl_T := (wc_t2 124 rfl rfl)
theorem lX2_100 : Cond.methodLink RX2 100 yX2_takeText ∈ xl_T := (wc_t2 144 rfl rfl)
theorem lX2_104 : Cond.methodLink RX2 104 yX2_eventsMisfit ∈ xl_T := (wc_t2 148 rfl rfl)
theorem lX2_108 : Cond.methodLink RX2 108 yX2_comeEventAt ∈ xl_T := (wc_t2 213 rfl rfl)
theorem lX2_111 : Cond.methodLink RX2 111 yX2_markRefusal ∈ xl_T := (wc_t2 234 rfl rfl)
theorem lX2_114 : Cond.methodLink RX2 114 yX1_comeMark ∈ xl_T := (wc_t2 238 rfl rfl)
theorem lX2_118 : Cond.methodLink RX2 118 yX2_tellOne ∈ xl_T := (wc_t2 128 rfl rfl)
theorem lX2_122 : Cond.methodLink RX2 122 yX2_idleRefusal ∈ xl_T := (wc_t3 10 rfl rfl)
theorem lX2_125 : Cond.methodLink RX2 125 yX1_comeIdle ∈ xl_T := (wc_t3 14 rfl rfl)
theorem lX2_134 : Cond.methodLink RX2 134 yX1_isRipe ∈ xl_T := (wc_t3 83 rfl rfl)
theorem lX2_138 : Cond.methodLink RX2 138 yX1_hasResult ∈ xl_T := (wc_t3 40 rfl rfl)
theorem lX2_141 : Cond.methodLink RX2 141 yX2_shifted ∈ xl_T := (wc_t4 29 rfl rfl)
theorem lX2_145 : Cond.methodLink RX2 145 yX2_isKey ∈ xl_T := (wc_t2 2 rfl rfl)
theorem lX2_148 : Cond.methodLink RX2 148 yX2_isTime ∈ xl_T := (wc_t2 5 rfl rfl)
theorem lX2_151 : Cond.methodLink RX2 151 yX1_firstTouched ∈ xl_T := (wc_t3 26 rfl rfl)
theorem lX2_154 : Cond.methodLink RX2 154 yX1_touchedFrom ∈ xl_T := (wc_t3 27 rfl rfl)
theorem lX2_158 : Cond.methodLink RX2 158 yX2_isOfLatest ∈ xl_T := (wc_t4 39 rfl rfl)
theorem lX2_164 : Cond.methodLink RX2 164 yX1_sentOf ∈ xl_T := (wc_t3 32 rfl rfl)
theorem lX2_170 : Cond.methodLink RX2 170 yX2_tellThree ∈ xl_T := (wc_t3 45 rfl rfl)
theorem lX2_180 : Cond.methodLink RX2 180 yX2_tellNothing ∈ xl_T := (wc_t2 132 rfl rfl)
theorem lX2_183 : Cond.methodLink RX2 183 yX2_tellMore ∈ xl_T := (wc_t2 136 rfl rfl)
theorem lX2_186 : Cond.methodLink RX2 186 yX1_leastMark ∈ xl_T := (wc_t3 57 rfl rfl)
theorem lX2_189 : Cond.methodLink RX2 189 yX1_ripening ∈ xl_T := (wc_t3 58 rfl rfl)
theorem lX2_192 : Cond.methodLink RX2 192 yX1_isTakenOf ∈ xl_T := (wc_t3 66 rfl rfl)
theorem lX2_207 : Cond.methodLink RX2 207 Lib.Math.max.name ∈ xl_T := (wc_t3 78 rfl rfl)
theorem lX2_215 : Cond.methodLink RX2 215 yX1_isOver ∈ xl_T := (wc_t3 88 rfl rfl)
theorem lX2_218 : Cond.methodLink RX2 218 yX2_isEvent ∈ xl_T := (wc_t1 238 rfl rfl)
theorem lX2_222 : Cond.methodLink RX2 222 yX1_copyFrom ∈ xl_T := (wc_t1 205 rfl rfl)
theorem lX2_226 : Cond.methodLink RX2 226 yX1_playEvent ∈ xl_T := (wc_t3 93 rfl rfl)
theorem lX2_229 : Cond.methodLink RX2 229 yX2_sortTaken ∈ xl_T := (wc_t3 98 rfl rfl)
theorem lX2_232 : Cond.methodLink RX2 232 yX2_sortedCell ∈ xl_T := (wc_t3 102 rfl rfl)
theorem lX2_235 : Cond.methodLink RX2 235 yX2_holeBehind ∈ xl_T := (wc_t3 106 rfl rfl)
theorem lX2_238 : Cond.methodLink RX2 238 yJ7_fill_53178 ∈ xl_T := (wc_t3 118 rfl rfl)
theorem lX2_244 : Cond.methodLink RX2 244 Lib.Math.min.name ∈ xl_T := (wc_t3 121 rfl rfl)
theorem lX2_247 : Cond.methodLink RX2 247 yX2_replay ∈ xl_T := (wc_t3 126 rfl rfl)
theorem lX2_256 : Cond.methodLink RX2 256 yX2_dayMisfit ∈ xl_T := (wc_t3 142 rfl rfl)
theorem lX2_259 : Cond.methodLink RX2 259 yX2_actRefusal ∈ xl_T := (wc_t3 158 rfl rfl)
theorem lX2_262 : Cond.methodLink RX2 262 yX2_comeAct ∈ xl_T := (wc_t3 162 rfl rfl)
theorem lX2_265 : Cond.methodLink RX2 265 yX2_actForm ∈ xl_T := (wc_t3 146 rfl rfl)
theorem lX2_269 : Cond.methodLink RX2 269 yJ0_length_8abf5 ∈ xl_T := (wc_t2 157 rfl rfl)
theorem lX2_280 : Cond.methodLink RX2 280 yX2_drawAfter ∈ xl_T := (wc_t3 174 rfl rfl)
theorem lX2_283 : Cond.methodLink RX2 283 yX2_drawOf ∈ xl_T := (wc_t3 178 rfl rfl)
theorem lX2_292 : Cond.methodLink RX2 292 yX2_inputRefusal ∈ xl_T := (wc_t2 8 rfl rfl)
theorem lX2_295 : Cond.methodLink RX2 295 yX2_signAt ∈ xl_T := (wc_t2 167 rfl rfl)
theorem lX2_298 : Cond.methodLink RX2 298 yJ0_charAt_5068e ∈ xl_T := (wc_t2 171 rfl rfl)
theorem lX2_302 : Cond.methodLink RX2 302 yX2_fits ∈ xl_T := (wc_t2 209 rfl rfl)
theorem lX2_308 : Cond.methodLink RX2 308 yX2_formMisfit ∈ xl_T := (wc_t2 153 rfl rfl)
theorem lX2_312 : Cond.methodLink RX2 312 yJ0_isEmpty_aae02 ∈ xl_T := (wc_t3 154 rfl rfl)
theorem lX2_324 : Cond.methodLink RX2 324 yX2_numberAt ∈ xl_T := (wc_t2 221 rfl rfl)
theorem lX2_327 : Cond.methodLink RX2 327 yX2_keyAt ∈ xl_T := (wc_t2 217 rfl rfl)
theorem lX2_330 : Cond.methodLink RX2 330 yX2_valueAt ∈ xl_T := (wc_t2 225 rfl rfl)
theorem lX2_333 : Cond.methodLink RX2 333 yX1_playInput ∈ xl_T := (wc_t3 130 rfl rfl)
theorem fX3_3 : xl_F RX3 3 3 0 := ⟨RX3, TX3, 23, rfl, by decide, xl_inX3, (wc_t4 88 rfl rfl)⟩
theorem wX3_3 : xl_Fp RX3 3 3 0 .int := ⟨RX3, TX3, 23, tyX3, rfl, by decide, xl_inX3, (wc_t4 88 rfl rfl), tyX3_ok, nmX3, rfl, by decide +kernel⟩
theorem fX3_7 : xl_F RX3 7 3 2 := ⟨RX3, TX3, 23, rfl, by decide, xl_inX3, (wc_t4 90 rfl rfl)⟩
theorem fX3_11 : xl_F RX3 11 3 1 := ⟨RX3, TX3, 23, rfl, by decide, xl_inX3, (wc_t4 89 rfl rfl)⟩
theorem wX3_11 : xl_Fp RX3 11 3 1 .int := ⟨RX3, TX3, 23, tyX3, rfl, by decide, xl_inX3, (wc_t4 89 rfl rfl), tyX3_ok, nmX3, rfl, by decide +kernel⟩
theorem fX3_14 : xl_F RX3 14 3 4 := ⟨RX3, TX3, 23, rfl, by decide, xl_inX3, (wc_t4 92 rfl rfl)⟩
theorem wX3_14 : xl_Fp RX3 14 3 4 .int := ⟨RX3, TX3, 23, tyX3, rfl, by decide, xl_inX3, (wc_t4 92 rfl rfl), tyX3_ok, nmX3, rfl, by decide +kernel⟩
theorem fX3_17 : xl_F RX3 17 3 3 := ⟨RX3, TX3, 23, rfl, by decide, xl_inX3, (wc_t4 91 rfl rfl)⟩
theorem fX3_25 : xl_F RX3 25 3 6 := ⟨RX3, TX3, 23, rfl, by decide, xl_inX3, (wc_t4 94 rfl rfl)⟩
theorem wX3_25 : xl_Fp RX3 25 3 6 .int := ⟨RX3, TX3, 23, tyX3, rfl, by decide, xl_inX3, (wc_t4 94 rfl rfl), tyX3_ok, nmX3, rfl, by decide +kernel⟩
theorem fX3_28 : xl_F RX3 28 3 5 := ⟨RX3, TX3, 23, rfl, by decide, xl_inX3, (wc_t4 93 rfl rfl)⟩
theorem wX3_28 : xl_Fp RX3 28 3 5 .int := ⟨RX3, TX3, 23, tyX3, rfl, by decide, xl_inX3, (wc_t4 93 rfl rfl), tyX3_ok, nmX3, rfl, by decide +kernel⟩
theorem fX3_53 : xl_F RX3 53 3 7 := ⟨RX3, TX3, 23, rfl, by decide, xl_inX3, (wc_t4 95 rfl rfl)⟩
theorem fX3_56 : xl_F RX3 56 3 9 := ⟨RX3, TX3, 23, rfl, by decide, xl_inX3, (wc_t4 97 rfl rfl)⟩
theorem fX3_59 : xl_F RX3 59 3 13 := ⟨RX3, TX3, 23, rfl, by decide, xl_inX3, (wc_t4 101 rfl rfl)⟩
theorem fX3_62 : xl_F RX3 62 3 14 := ⟨RX3, TX3, 23, rfl, by decide, xl_inX3, (wc_t4 102 rfl rfl)⟩
theorem fX3_65 : xl_F RX3 65 3 15 := ⟨RX3, TX3, 23, rfl, by decide, xl_inX3, (wc_t4 103 rfl rfl)⟩
theorem fX3_68 : xl_F RX3 68 3 16 := ⟨RX3, TX3, 23, rfl, by decide, xl_inX3, (wc_t4 104 rfl rfl)⟩
theorem fX3_71 : xl_F RX3 71 3 17 := ⟨RX3, TX3, 23, rfl, by decide, xl_inX3, (wc_t4 105 rfl rfl)⟩
theorem fX3_74 : xl_F RX3 74 3 18 := ⟨RX3, TX3, 23, rfl, by decide, xl_inX3, (wc_t4 106 rfl rfl)⟩
theorem fX3_77 : xl_F RX3 77 3 20 := ⟨RX3, TX3, 23, rfl, by decide, xl_inX3, (wc_t4 108 rfl rfl)⟩
theorem fX3_80 : xl_F RX3 80 3 22 := ⟨RX3, TX3, 23, rfl, by decide, xl_inX3, (wc_t4 110 rfl rfl)⟩
theorem fX3_92 : xl_F RX3 92 3 8 := ⟨RX3, TX3, 23, rfl, by decide, xl_inX3, (wc_t4 96 rfl rfl)⟩
theorem wX3_92 : xl_Fp RX3 92 3 8 .int := ⟨RX3, TX3, 23, tyX3, rfl, by decide, xl_inX3, (wc_t4 96 rfl rfl), tyX3_ok, nmX3, rfl, by decide +kernel⟩
theorem fX3_149 : xl_F RX3 149 3 10 := ⟨RX3, TX3, 23, rfl, by decide, xl_inX3, (wc_t4 98 rfl rfl)⟩
theorem wX3_149 : xl_Fp RX3 149 3 10 .int := ⟨RX3, TX3, 23, tyX3, rfl, by decide, xl_inX3, (wc_t4 98 rfl rfl), tyX3_ok, nmX3, rfl, by decide +kernel⟩
theorem fX3_152 : xl_F RX3 152 3 11 := ⟨RX3, TX3, 23, rfl, by decide, xl_inX3, (wc_t4 99 rfl rfl)⟩
theorem wX3_152 : xl_Fp RX3 152 3 11 .int := ⟨RX3, TX3, 23, tyX3, rfl, by decide, xl_inX3, (wc_t4 99 rfl rfl), tyX3_ok, nmX3, rfl, by decide +kernel⟩
theorem fX3_184 : xl_F RX3 184 3 12 := ⟨RX3, TX3, 23, rfl, by decide, xl_inX3, (wc_t4 100 rfl rfl)⟩
theorem wX3_184 : xl_Fp RX3 184 3 12 .int := ⟨RX3, TX3, 23, tyX3, rfl, by decide, xl_inX3, (wc_t4 100 rfl rfl), tyX3_ok, nmX3, rfl, by decide +kernel⟩
theorem fX3_280 : xl_F RX3 280 3 19 := ⟨RX3, TX3, 23, rfl, by decide, xl_inX3, (wc_t4 107 rfl rfl)⟩
theorem wX3_280 : xl_Fp RX3 280 3 19 .int := ⟨RX3, TX3, 23, tyX3, rfl, by decide, xl_inX3, (wc_t4 107 rfl rfl), tyX3_ok, nmX3, rfl, by decide +kernel⟩
theorem fX3_305 : xl_F RX3 305 3 21 := ⟨RX3, TX3, 23, rfl, by decide, xl_inX3, (wc_t4 109 rfl rfl)⟩
theorem wX3_305 : xl_Fp RX3 305 3 21 .int := ⟨RX3, TX3, 23, tyX3, rfl, by decide, xl_inX3, (wc_t4 109 rfl rfl), tyX3_ok, nmX3, rfl, by decide +kernel⟩
theorem lX3_21 : Cond.methodLink RX3 21 yX3_in ∈ xl_T := (wc_t4 71 rfl rfl)
theorem lX3_31 : Cond.methodLink RX3 31 yJ0_length_8abf5 ∈ xl_T := (wc_t5 86 rfl rfl)
theorem lX3_37 : Cond.methodLink RX3 37 yJ0_charAt_5068e ∈ xl_T := (wc_t5 87 rfl rfl)
theorem lX3_43 : Cond.methodLink RX3 43 yX3_takesOf ∈ xl_T := (wc_t5 82 rfl rfl)
theorem lX3_84 : Cond.methodLink RX3 84 yX3_starts ∈ xl_T := (wc_t4 80 rfl rfl)
theorem lX3_88 : Cond.methodLink RX3 88 yX3_puts ∈ xl_T := (wc_t4 84 rfl rfl)
theorem lX3_95 : Cond.methodLink RX3 95 yX3_copies ∈ xl_T := (wc_t4 163 rfl rfl)
theorem lX3_99 : Cond.methodLink RX3 99 yX3_lays ∈ xl_T := (wc_t4 181 rfl rfl)
theorem lX3_108 : Cond.methodLink RX3 108 yX3_areSettings ∈ xl_T := (wc_t4 172 rfl rfl)
theorem lX3_112 : Cond.methodLink RX3 112 yX3_done ∈ xl_T := (wc_t4 177 rfl rfl)
theorem lX3_116 : Cond.methodLink RX3 116 yX3_of ∈ xl_T := (wc_t4 193 rfl rfl)
theorem lX3_120 : Cond.methodLink RX3 120 yX3_isSource ∈ xl_T := (wc_t4 189 rfl rfl)
theorem lX3_126 : Cond.methodLink RX3 126 yX3_place ∈ xl_T := (wc_t5 0 rfl rfl)
theorem lX3_129 : Cond.methodLink RX3 129 yX3_adds ∈ xl_T := (wc_t4 224 rfl rfl)
theorem lX3_132 : Cond.methodLink RX3 132 yX3_isBehind ∈ xl_T := (wc_t5 21 rfl rfl)
theorem lX3_136 : Cond.methodLink RX3 136 yX3_ofSession ∈ xl_T := (wc_t4 236 rfl rfl)
theorem lX3_140 : Cond.methodLink RX3 140 yX3_sends ∈ xl_T := (wc_t5 7 rfl rfl)
theorem lX3_143 : Cond.methodLink RX3 143 yX3_isRipeBy ∈ xl_T := (wc_t5 25 rfl rfl)
theorem lX3_146 : Cond.methodLink RX3 146 yX3_isDone ∈ xl_T := (wc_t5 41 rfl rfl)
theorem lX3_155 : Cond.methodLink RX3 155 yX3_leastMark ∈ xl_T := (wc_t5 33 rfl rfl)
theorem lX3_158 : Cond.methodLink RX3 158 yX3_firstRipe ∈ xl_T := (wc_t5 37 rfl rfl)
theorem lX3_161 : Cond.methodLink RX3 161 yX3_takesBack ∈ xl_T := (wc_t5 3 rfl rfl)
theorem lX3_164 : Cond.methodLink RX3 164 yX3_firstClosed ∈ xl_T := (wc_t5 45 rfl rfl)
theorem lX3_167 : Cond.methodLink RX3 167 yX3_closes ∈ xl_T := (wc_t5 53 rfl rfl)
theorem lX3_170 : Cond.methodLink RX3 170 yX3_isClosedBy ∈ xl_T := (wc_t5 49 rfl rfl)
theorem lX3_173 : Cond.methodLink RX3 173 yX3_closedMany ∈ xl_T := (wc_t5 57 rfl rfl)
theorem lX3_176 : Cond.methodLink RX3 176 Lib.Math.max.name ∈ xl_T := (wc_t5 12 rfl rfl)
theorem lX3_181 : Cond.methodLink RX3 181 yX3_goesOut ∈ xl_T := (wc_t5 13 rfl rfl)
theorem lX3_187 : Cond.methodLink RX3 187 yX3_melts ∈ xl_T := (wc_t4 232 rfl rfl)
theorem lX3_191 : Cond.methodLink RX3 191 Lib.Math.min.name ∈ xl_T := (wc_t5 11 rfl rfl)
theorem lX3_194 : Cond.methodLink RX3 194 yX3_flag ∈ xl_T := (wc_t4 217 rfl rfl)
theorem lX3_198 : Cond.methodLink RX3 198 yX3_comesIn ∈ xl_T := (wc_t5 17 rfl rfl)
theorem lX3_201 : Cond.methodLink RX3 201 yX3_notes ∈ xl_T := (wc_t4 220 rfl rfl)
theorem lX3_205 : Cond.methodLink RX3 205 yX3_joins ∈ xl_T := (wc_t4 228 rfl rfl)
theorem lX3_209 : Cond.methodLink RX3 209 yX3_rises ∈ xl_T := (wc_t5 29 rfl rfl)
theorem lX3_219 : Cond.methodLink RX3 219 yX3_isEvent ∈ xl_T := (wc_t4 206 rfl rfl)
theorem lX3_222 : Cond.methodLink RX3 222 yX3_comes ∈ xl_T := (wc_t4 213 rfl rfl)
theorem lX3_226 : Cond.methodLink RX3 226 yX3_enters ∈ xl_T := (wc_t5 65 rfl rfl)
theorem lX3_230 : Cond.methodLink RX3 230 yX3_eventOne ∈ xl_T := (wc_t4 202 rfl rfl)
theorem lX3_234 : Cond.methodLink RX3 234 yX3_entersSince ∈ xl_T := (wc_t5 61 rfl rfl)
theorem lX3_239 : Cond.methodLink RX3 239 yX3_digits ∈ xl_T := (wc_t5 88 rfl rfl)
theorem lX3_244 : Cond.methodLink RX3 244 yX3_reads ∈ xl_T := (wc_t5 73 rfl rfl)
theorem lX3_247 : Cond.methodLink RX3 247 yX3_readsEvent ∈ xl_T := (wc_t5 77 rfl rfl)
theorem lX3_253 : Cond.methodLink RX3 253 yX3_isMarked ∈ xl_T := (wc_t5 103 rfl rfl)
theorem lX3_256 : Cond.methodLink RX3 256 yX3_marksOne ∈ xl_T := (wc_t5 98 rfl rfl)
theorem lX3_259 : Cond.methodLink RX3 259 yX3_entersProgress ∈ xl_T := (wc_t5 107 rfl rfl)
theorem lX3_262 : Cond.methodLink RX3 262 yX3_isIdle ∈ xl_T := (wc_t5 119 rfl rfl)
theorem lX3_265 : Cond.methodLink RX3 265 yX3_idlesOne ∈ xl_T := (wc_t5 115 rfl rfl)
theorem lX3_272 : Cond.methodLink RX3 272 yX3_isKey ∈ xl_T := (wc_t5 153 rfl rfl)
theorem lX3_277 : Cond.methodLink RX3 277 yX3_ofInput ∈ xl_T := (wc_t5 173 rfl rfl)
theorem lX3_283 : Cond.methodLink RX3 283 yX3_laysTimes ∈ xl_T := (wc_t5 201 rfl rfl)
theorem lX3_286 : Cond.methodLink RX3 286 yX3_fallsInto ∈ xl_T := (wc_t5 205 rfl rfl)
theorem lX3_291 : Cond.methodLink RX3 291 yX3_startsAgain ∈ xl_T := (wc_t5 218 rfl rfl)
theorem lX3_294 : Cond.methodLink RX3 294 yX3_comesAgain ∈ xl_T := (wc_t5 222 rfl rfl)
theorem lX3_299 : Cond.methodLink RX3 299 yX3_readsAct ∈ xl_T := (wc_t6 2 rfl rfl)
theorem lX3_302 : Cond.methodLink RX3 302 yX3_doesAct ∈ xl_T := (wc_t6 7 rfl rfl)
theorem lX3_311 : Cond.methodLink RX3 311 yX3_draws ∈ xl_T := (wc_t6 16 rfl rfl)
end
-- 055.xz
section
/-! ===== the same over whole numbers: an int is iI z, an array a function to whole numbers ===== -/
def iI (z : Int) : Int32 := Int32.ofInt z
def lI (z : Int) : Int64 := Int64.ofInt z
/-- z is an int -/
def xb (z : Int) : Prop := -2147483648 ≤ z ∧ z ≤ 2147483647
theorem iI_toInt {z : Int} (h : xb z) : (iI z).toInt = z := by
  unfold xb at h
  rw [iI, Int32.toInt_ofInt, show Int32.size = 4294967296 from rfl]
  exact Int.bmod_eq_of_le (by omega) (by omega)
theorem lI_toInt {z : Int} (h : xb z) : (lI z).toInt = z := by
  unfold xb at h
  rw [lI, Int64.toInt_ofInt, show Int64.size = 18446744073709551616 from rfl]
  exact Int.bmod_eq_of_le (by omega) (by omega)
theorem iI_of (x : Int32) : iI x.toInt = x := by rw [iI, Int32.ofInt_toInt]
theorem xb_of (x : Int32) : xb x.toInt := ⟨Int32.le_toInt x, by have := Int32.toInt_lt x; omega⟩
theorem iI_add (a b : Int) : iI a + iI b = iI (a + b) := by simp [iI, Int32.ofInt_add]
theorem iI_sub (a b : Int) : iI a - iI b = iI (a - b) := by simp [iI, Int32.ofInt_sub]
theorem iI_mul (a b : Int) : iI a * iI b = iI (a * b) := by simp [iI, Int32.ofInt_mul]
theorem iI_neg (a : Int) : -iI a = iI (-a) := by simp [iI, Int32.ofInt_neg]
theorem iI_lt {a b : Int} (ha : xb a) (hb : xb b) : iI a < iI b ↔ a < b := by rw [Int32.lt_iff_toInt_lt, iI_toInt ha, iI_toInt hb]
theorem iI_le {a b : Int} (ha : xb a) (hb : xb b) : iI a ≤ iI b ↔ a ≤ b := by rw [Int32.le_iff_toInt_le, iI_toInt ha, iI_toInt hb]
theorem iI_eq {a b : Int} (ha : xb a) (hb : xb b) : iI a = iI b ↔ a = b := by rw [← Int32.toInt_inj, iI_toInt ha, iI_toInt hb]
theorem iI_0 : iI 0 = 0 := rfl
theorem xb_0 : xb 0 := by unfold xb; omega
theorem iI_lt0 {a : Int} (ha : xb a) : iI a < 0 ↔ a < 0 := iI_lt ha xb_0
theorem iI_le0 {a : Int} (ha : xb a) : iI a ≤ 0 ↔ a ≤ 0 := iI_le ha xb_0
theorem iI_0lt {a : Int} (ha : xb a) : 0 < iI a ↔ 0 < a := iI_lt xb_0 ha
theorem iI_0le {a : Int} (ha : xb a) : 0 ≤ iI a ↔ 0 ≤ a := iI_le xb_0 ha
theorem iI_eq0 {a : Int} (ha : xb a) : iI a = 0 ↔ a = 0 := iI_eq ha xb_0
theorem iI_nat {z : Int} (h : xb z) : (iI z).toNatClampNeg = z.toNat := by
  show (iI z).toInt.toNat = z.toNat
  rw [iI_toInt h]
theorem iI_in {z : Int} {n : Nat} (h : xb z) (h0 : 0 ≤ z) (h1 : z < n) : vp_in (iI z) n := by
  rw [vp_in_iff, iI_toInt h]
  exact ⟨h0, h1⟩
theorem iI_long {z : Int} (h : xb z) : (iI z).toInt64 = lI z := by
  apply Int64.toInt_inj.mp
  rw [lI_toInt h, Int32.toInt_toInt64, iI_toInt h]
theorem iI_nI (n : Nat) : nI n = iI n := by simp [iI, nI, Int32.ofInt_eq_ofNat]
/-- cells -/
abbrev xO (ci : Nat) (vs : List Value) : XE := .inr (ci, vs)
abbrev xA (n : Nat) (g : Nat → Int) : XE := .inl (0, n, .inl (fun k => iI (g k)))
abbrev xL (n : Nat) (g : Nat → Int) : XE := .inl (1, n, .inr (.inl (fun k => lI (g k))))
abbrev xZ (n : Nat) (g : Nat → Int) : XE := .inl (2, n, .inl (fun k => iI (g k)))
abbrev xQ (n : Nat) (f : Nat → Option Nat) : XE := .inl (3, n, .inr (.inr (.inr (.inr f))))
abbrev xi (z : Int) : Value := .int (iI z)
abbrev xl (z : Int) : Value := .long (lI z)
def xup (g : Nat → Int) (k : Nat) (z : Int) : Nat → Int := fun j => if j = k then z else g j
theorem xup_upd (g : Nat → Int) (k : Nat) (z : Int) : upd (fun j => iI (g j)) k (iI z) = fun j => iI (xup g k z j) := by
  funext j
  unfold upd xup
  by_cases h : j = k <;> simp [h]
theorem xup_updL (g : Nat → Int) (k : Nat) (z : Int) : vp_updL (fun j => lI (g j)) k (lI z) = fun j => lI (xup g k z j) := by
  funext j
  unfold vp_updL xup
  by_cases h : j = k <;> simp [h]
/-- System.arraycopy -/
def xcp (f g : Nat → Int) (sp dp n : Nat) : Nat → Int := fun k => if dp ≤ k ∧ k < dp + n then f (sp + (k - dp)) else g k
theorem xcp_cpy (f g : Nat → Int) (sp dp n : Nat) : va_cpy (fun j => iI (f j)) (fun j => iI (g j)) sp dp n = fun k => iI (xcp f g sp dp n k) := by
  funext j
  unfold va_cpy xcp
  by_cases h : dp ≤ j ∧ j < dp + n <;> simp [h]
section XZ
variable {M : XI} {rc rs pc pc2 tgt : Nat} {L : List (Option Value)} {st : List Value} {h : XH} {Po : Option (Option Value) → XH → Prop} {a b : Int}
theorem xz_iconst {n : Int} (d : xl_D M pc (.iconst n) 1 pc2) (k : xl_W M rc rs pc2 L (xi n :: st) h Po) : xl_W M rc rs pc L st h Po := xl_iconst _ d rfl k
theorem xz_bipush {n : Int} (d : xl_D M pc (.bipush n) 2 pc2) (hv : (Int8.ofInt n).toInt32 = iI n) (k : xl_W M rc rs pc2 L (xi n :: st) h Po) : xl_W M rc rs pc L st h Po := xl_bipush _ d hv k
theorem xz_sipush {n : Int} (d : xl_D M pc (.sipush n) 3 pc2) (hv : (Int16.ofInt n).toInt32 = iI n) (k : xl_W M rc rs pc2 L (xi n :: st) h Po) : xl_W M rc rs pc L st h Po := xl_sipush _ d hv k
theorem xz_lconst {n : Fin 2} (d : xl_D M pc (.lconst n) 1 pc2) (k : xl_W M rc rs pc2 L (xl (n.val : Int) :: st) h Po) : xl_W M rc rs pc L st h Po := xl_lconst _ d (by simp [lI, Int64.ofInt_eq_ofNat]) k
theorem xz_iadd (d : xl_D M pc .iadd 1 pc2) (k : xl_W M rc rs pc2 L (xi (a + b) :: st) h Po) : xl_W M rc rs pc L (xi b :: xi a :: st) h Po := xl_iadd d (by rw [iI_add]; exact k)
theorem xz_isub (d : xl_D M pc .isub 1 pc2) (k : xl_W M rc rs pc2 L (xi (a - b) :: st) h Po) : xl_W M rc rs pc L (xi b :: xi a :: st) h Po := xl_isub d (by rw [iI_sub]; exact k)
theorem xz_imul (d : xl_D M pc .imul 1 pc2) (k : xl_W M rc rs pc2 L (xi (a * b) :: st) h Po) : xl_W M rc rs pc L (xi b :: xi a :: st) h Po := xl_imul d (by rw [iI_mul]; exact k)
theorem xz_ineg (d : xl_D M pc .ineg 1 pc2) (k : xl_W M rc rs pc2 L (xi (-a) :: st) h Po) : xl_W M rc rs pc L (xi a :: st) h Po := xl_ineg d (by rw [iI_neg]; exact k)
theorem xz_i2l (d : xl_D M pc .i2l 1 pc2) (ha : xb a) (k : xl_W M rc rs pc2 L (xl a :: st) h Po) : xl_W M rc rs pc L (xi a :: st) h Po := xl_i2l d (by rw [iI_long ha]; exact k)
theorem xz_iinc {i : Nat} {n : Int} (d : xl_D M pc (.iinc i n) 3 pc2) (hl : xl_n L i = some (some (xi a))) (hk : xl_k L i = true) (hn : i < M.2.2.1) (k : xl_W M rc rs pc2 (xl_s L i (some (xi (a + n)))) st h Po) : xl_W M rc rs pc L st h Po := xl_iinc d hl hk hn (by rw [show iI a + Int32.ofInt n = iI (a + n) from iI_add a n]; exact k)
theorem xz_rem0 (ha : 0 ≤ a) (hb : 0 < b) (ha2 : xb a) (hb2 : xb b) : iI a - iI a / iI b * iI b = iI (a % b) := by
  obtain ⟨n, rfl⟩ := Int.eq_ofNat_of_zero_le ha
  obtain ⟨m, rfl⟩ := Int.eq_ofNat_of_zero_le (Int.le_of_lt hb)
  unfold xb at ha2 hb2
  rw [← iI_nI, ← iI_nI, pk_rem (by omega) (by omega) (by omega), iI_nI]
  rfl
theorem xz_irem (d : xl_D M pc .irem 1 pc2) (ha : 0 ≤ a) (hb : 0 < b) (ha2 : xb a) (hb2 : xb b) (k : xl_W M rc rs pc2 L (xi (a % b) :: st) h Po) : xl_W M rc rs pc L (xi b :: xi a :: st) h Po :=
  xl_irem d (fun e => by rw [iI_eq0 hb2] at e; omega) (by rw [xz_rem0 ha hb ha2 hb2]; exact k)
theorem xz_idiv (d : xl_D M pc .idiv 1 pc2) (ha : 0 ≤ a) (hb : 0 < b) (ha2 : xb a) (hb2 : xb b) (k : xl_W M rc rs pc2 L (xi (a / b) :: st) h Po) : xl_W M rc rs pc L (xi b :: xi a :: st) h Po :=
  xl_idiv d (fun e => by rw [iI_eq0 hb2] at e; omega) (by
    obtain ⟨n, rfl⟩ := Int.eq_ofNat_of_zero_le ha
    obtain ⟨m, rfl⟩ := Int.eq_ofNat_of_zero_le (Int.le_of_lt hb)
    unfold xb at ha2 hb2
    rw [← iI_nI, ← iI_nI, pk_div (by omega) (by omega) (by omega), iI_nI]
    exact k)
theorem lg_cmp_lI (ha : xb a) (hb : xb b) : lg_cmp (lI a) (lI b) = iI (if a < b then -1 else if a = b then 0 else 1) := by
  have e1 : lI a < lI b ↔ a < b := by rw [Int64.lt_iff_toInt_lt, lI_toInt ha, lI_toInt hb]
  have e2 : lI a = lI b ↔ a = b := by rw [← Int64.toInt_inj, lI_toInt ha, lI_toInt hb]
  have e3 : lI b < lI a ↔ b < a := by rw [Int64.lt_iff_toInt_lt, lI_toInt ha, lI_toInt hb]
  unfold lg_cmp
  by_cases h1 : a < b
  · rw [if_neg (fun q => by have := e3.mp q; omega), if_neg (fun q => by have := e2.mp q; omega), if_pos h1]
    rfl
  · by_cases h2 : a = b
    · rw [if_neg (fun q => by have := e3.mp q; omega), if_pos (e2.mpr h2), if_neg h1, if_pos h2]
      rfl
    · rw [if_pos (e3.mpr (by omega)), if_neg h1, if_neg h2]
      rfl
theorem xz_lcmp (d : xl_D M pc .lcmp 1 pc2) (ha : xb a) (hb : xb b) (k : xl_W M rc rs pc2 L (xi (if a < b then -1 else if a = b then 0 else 1) :: st) h Po) : xl_W M rc rs pc L (xl b :: xl a :: st) h Po := xl_lcmp d (by rw [lg_cmp_lI ha hb]; exact k)
theorem xz_max (ha : xb a) (hb : xb b) (d : xl_Cm M pc Lib.Math.max.name Lib.Math.max.code pc2) (hw : (st.map fun v => if xl_1 v = true then 1 else 2).sum ≤ 8) (k : xl_W M rc rs pc2 L (xi (max a b) :: st) h Po) : xl_W M rc rs pc L (xi b :: xi a :: st) h Po := xl_max d hw (by
  have e : (if iI a < iI b then iI b else iI a) = iI (max a b) := by
    by_cases q : a < b
    · rw [if_pos ((iI_lt ha hb).mpr q), Int.max_def, if_pos (by omega)]
    · rw [if_neg (fun z => q ((iI_lt ha hb).mp z)), Int.max_def]
      by_cases q2 : a ≤ b
      · rw [if_pos q2, show a = b by omega]
      · rw [if_neg q2]
  rw [e]; exact k)
theorem xz_min (ha : xb a) (hb : xb b) (d : xl_Cm M pc Lib.Math.min.name Lib.Math.min.code pc2) (hw : (st.map fun v => if xl_1 v = true then 1 else 2).sum ≤ 8) (k : xl_W M rc rs pc2 L (xi (min a b) :: st) h Po) : xl_W M rc rs pc L (xi b :: xi a :: st) h Po := xl_min d hw (by
  have e : (if iI b < iI a then iI b else iI a) = iI (min a b) := by
    by_cases q : b < a
    · rw [if_pos ((iI_lt hb ha).mpr q), Int.min_def, if_neg (by omega)]
    · rw [if_neg (fun z => q ((iI_lt hb ha).mp z)), Int.min_def, if_pos (by omega)]
  rw [e]; exact k)
theorem xz_iald {r n : Nat} {g : Nat → Int} (d : xl_D M pc .iaload 1 pc2) (hh : xl_n h r = some (xA n g)) (h0 : 0 ≤ a) (h1 : a < n) (ha : xb a) (kk : xl_W M rc rs pc2 L (xi (g a.toNat) :: st) h Po) : xl_W M rc rs pc L (xi a :: .ref r :: st) h Po :=
  xl_iald d hh (iI_in ha h0 h1) (by rw [iI_nat ha]; exact kk)
theorem xz_lald {r n : Nat} {g : Nat → Int} (d : xl_D M pc .laload 1 pc2) (hh : xl_n h r = some (xL n g)) (h0 : 0 ≤ a) (h1 : a < n) (ha : xb a) (kk : xl_W M rc rs pc2 L (xl (g a.toNat) :: st) h Po) : xl_W M rc rs pc L (xi a :: .ref r :: st) h Po :=
  xl_lald d hh (iI_in ha h0 h1) (by rw [iI_nat ha]; exact kk)
theorem xz_zald {r n : Nat} {g : Nat → Int} (d : xl_D M pc .baload 1 pc2) (hh : xl_n h r = some (xZ n g)) (h0 : 0 ≤ a) (h1 : a < n) (ha : xb a) (kk : xl_W M rc rs pc2 L (xi (g a.toNat) :: st) h Po) : xl_W M rc rs pc L (xi a :: .ref r :: st) h Po :=
  xl_zald d hh (iI_in ha h0 h1) (by rw [iI_nat ha]; exact kk)
theorem xz_aald {r n q : Nat} {f : Nat → Option Nat} (d : xl_D M pc .aaload 1 pc2) (hh : xl_n h r = some (xQ n f)) (h0 : 0 ≤ a) (h1 : a < n) (ha : xb a) (hq : f a.toNat = some q) (kk : xl_W M rc rs pc2 L (.ref (r + q) :: st) h Po) : xl_W M rc rs pc L (xi a :: .ref r :: st) h Po :=
  xl_aald d hh (iI_in ha h0 h1) (by rw [iI_nat ha]; exact hq) kk
theorem xz_alen {r n : Nat} {t : Nat} {x : (Nat → Int32) ⊕ (Nat → Int64) ⊕ (Nat → UInt32) ⊕ (Nat → UInt64) ⊕ (Nat → Option Nat)} (d : xl_D M pc .arraylength 1 pc2) (hh : xl_n h r = some (.inl (t, n, x))) (ht4 : t < 4) (kk : xl_W M rc rs pc2 L (xi n :: st) h Po) : xl_W M rc rs pc L (.ref r :: st) h Po :=
  xl_alen d hh ht4 (by rw [iI_nI]; exact kk)
theorem xz_iast {r n : Nat} {g : Nat → Int} (d : xl_D M pc .iastore 1 pc2) (hh : xl_n h r = some (xA n g)) (h0 : 0 ≤ a) (h1 : a < n) (ha : xb a) (kk : xl_W M rc rs pc2 L st (xl_s h r (xA n (xup g a.toNat b))) Po) : xl_W M rc rs pc L (xi b :: xi a :: .ref r :: st) h Po :=
  xl_iast d hh (iI_in ha h0 h1) (by rw [iI_nat ha, xup_upd]; exact kk)
theorem xz_last {r n : Nat} {g : Nat → Int} (d : xl_D M pc .lastore 1 pc2) (hh : xl_n h r = some (xL n g)) (h0 : 0 ≤ a) (h1 : a < n) (ha : xb a) (kk : xl_W M rc rs pc2 L st (xl_s h r (xL n (xup g a.toNat b))) Po) : xl_W M rc rs pc L (xl b :: xi a :: .ref r :: st) h Po :=
  xl_last d hh (iI_in ha h0 h1) (by rw [iI_nat ha, xup_updL]; exact kk)
theorem xz_zast {r n : Nat} {g : Nat → Int} (d : xl_D M pc .bastore 1 pc2) (hh : xl_n h r = some (xZ n g)) (h0 : 0 ≤ a) (h1 : a < n) (ha : xb a) (hb : b = 0 ∨ b = 1) (kk : xl_W M rc rs pc2 L st (xl_s h r (xZ n (xup g a.toNat b))) Po) : xl_W M rc rs pc L (xi b :: xi a :: .ref r :: st) h Po :=
  xl_zast d hh (iI_in ha h0 h1) (by rw [iI_nat ha, show vp_nar .boolean (iI b) = iI b by rcases hb with rfl | rfl <;> decide, xup_upd]; exact kk)
theorem xz_copy {r0 r1 n0 n1 : Nat} {f g : Nat → Int} {sp dp n : Int} (d : xl_Cy M pc pc2) (hh0 : xl_n h r0 = some (xA n0 f)) (hh1 : xl_n h r1 = some (xA n1 g)) (q1 : 0 ≤ sp) (q2 : 0 ≤ dp) (q3 : 0 ≤ n) (q4 : sp + n ≤ n0) (q5 : dp + n ≤ n1) (hb : n0 ≤ 2147483647 ∧ n1 ≤ 2147483647) (hw : (st.map fun v => if xl_1 v = true then 1 else 2).sum ≤ 8)
    (kk : xl_W M rc rs pc2 L st (xl_s h r1 (xA n1 (xcp f g sp.toNat dp.toNat n.toNat))) Po) : xl_W M rc rs pc L (xi n :: xi dp :: .ref r1 :: xi sp :: .ref r0 :: st) h Po := by
  have b1 : xb sp := ⟨by omega, by omega⟩
  have b2 : xb dp := ⟨by omega, by omega⟩
  have b3 : xb n := ⟨by omega, by omega⟩
  refine xl_copy d hh0 hh1 (by rw [iI_lt0 b1]; omega) (by rw [iI_lt0 b2]; omega) (by rw [iI_lt0 b3]; omega) (by rw [iI_nat b1, iI_nat b3]; omega) (by rw [iI_nat b2, iI_nat b3]; omega) hw ?_
  rw [iI_nat b1, iI_nat b2, iI_nat b3, xcp_cpy]
  exact kk
theorem xz_if_eq (d : xl_J M pc (fun o => .ifCond .eq o) pc2 tgt) (ha : xb a) (kt : a = 0 → xl_W M rc rs tgt L st h Po) (kf : ¬ a = 0 → xl_W M rc rs pc2 L st h Po) : xl_W M rc rs pc L (xi a :: st) h Po := xl_if_eq d (fun q => kt ((iI_eq0 ha).mp q)) (fun q => kf (fun z => q ((iI_eq0 ha).mpr z)))
theorem xz_icmp_eq (d : xl_J M pc (fun o => .if_icmp .eq o) pc2 tgt) (ha : xb a) (hb : xb b) (kt : a = b → xl_W M rc rs tgt L st h Po) (kf : ¬ a = b → xl_W M rc rs pc2 L st h Po) : xl_W M rc rs pc L (xi b :: xi a :: st) h Po := xl_icmp_eq d (fun q => kt ((iI_eq ha hb).mp q)) (fun q => kf (fun z => q ((iI_eq ha hb).mpr z)))
theorem xz_if_ne (d : xl_J M pc (fun o => .ifCond .ne o) pc2 tgt) (ha : xb a) (kt : ¬ a = 0 → xl_W M rc rs tgt L st h Po) (kf : a = 0 → xl_W M rc rs pc2 L st h Po) : xl_W M rc rs pc L (xi a :: st) h Po := xl_if_ne d (fun q => kt (fun z => q ((iI_eq0 ha).mpr z))) (fun q => kf ((iI_eq0 ha).mp q))
theorem xz_icmp_ne (d : xl_J M pc (fun o => .if_icmp .ne o) pc2 tgt) (ha : xb a) (hb : xb b) (kt : ¬ a = b → xl_W M rc rs tgt L st h Po) (kf : a = b → xl_W M rc rs pc2 L st h Po) : xl_W M rc rs pc L (xi b :: xi a :: st) h Po := xl_icmp_ne d (fun q => kt (fun z => q ((iI_eq ha hb).mpr z))) (fun q => kf ((iI_eq ha hb).mp q))
theorem xz_if_lt (d : xl_J M pc (fun o => .ifCond .lt o) pc2 tgt) (ha : xb a) (kt : a < 0 → xl_W M rc rs tgt L st h Po) (kf : ¬ a < 0 → xl_W M rc rs pc2 L st h Po) : xl_W M rc rs pc L (xi a :: st) h Po := xl_if_lt d (fun q => kt ((iI_lt0 ha).mp q)) (fun q => kf (fun z => q ((iI_lt0 ha).mpr z)))
theorem xz_icmp_lt (d : xl_J M pc (fun o => .if_icmp .lt o) pc2 tgt) (ha : xb a) (hb : xb b) (kt : a < b → xl_W M rc rs tgt L st h Po) (kf : ¬ a < b → xl_W M rc rs pc2 L st h Po) : xl_W M rc rs pc L (xi b :: xi a :: st) h Po := xl_icmp_lt d (fun q => kt ((iI_lt ha hb).mp q)) (fun q => kf (fun z => q ((iI_lt ha hb).mpr z)))
theorem xz_if_ge (d : xl_J M pc (fun o => .ifCond .ge o) pc2 tgt) (ha : xb a) (kt : 0 ≤ a → xl_W M rc rs tgt L st h Po) (kf : ¬ 0 ≤ a → xl_W M rc rs pc2 L st h Po) : xl_W M rc rs pc L (xi a :: st) h Po := xl_if_ge d (fun q => kt ((iI_0le ha).mp q)) (fun q => kf (fun z => q ((iI_0le ha).mpr z)))
theorem xz_icmp_ge (d : xl_J M pc (fun o => .if_icmp .ge o) pc2 tgt) (ha : xb a) (hb : xb b) (kt : b ≤ a → xl_W M rc rs tgt L st h Po) (kf : ¬ b ≤ a → xl_W M rc rs pc2 L st h Po) : xl_W M rc rs pc L (xi b :: xi a :: st) h Po := xl_icmp_ge d (fun q => kt ((iI_le hb ha).mp q)) (fun q => kf (fun z => q ((iI_le hb ha).mpr z)))
theorem xz_if_gt (d : xl_J M pc (fun o => .ifCond .gt o) pc2 tgt) (ha : xb a) (kt : 0 < a → xl_W M rc rs tgt L st h Po) (kf : ¬ 0 < a → xl_W M rc rs pc2 L st h Po) : xl_W M rc rs pc L (xi a :: st) h Po := xl_if_gt d (fun q => kt ((iI_0lt ha).mp q)) (fun q => kf (fun z => q ((iI_0lt ha).mpr z)))
theorem xz_icmp_gt (d : xl_J M pc (fun o => .if_icmp .gt o) pc2 tgt) (ha : xb a) (hb : xb b) (kt : b < a → xl_W M rc rs tgt L st h Po) (kf : ¬ b < a → xl_W M rc rs pc2 L st h Po) : xl_W M rc rs pc L (xi b :: xi a :: st) h Po := xl_icmp_gt d (fun q => kt ((iI_lt hb ha).mp q)) (fun q => kf (fun z => q ((iI_lt hb ha).mpr z)))
theorem xz_if_le (d : xl_J M pc (fun o => .ifCond .le o) pc2 tgt) (ha : xb a) (kt : a ≤ 0 → xl_W M rc rs tgt L st h Po) (kf : ¬ a ≤ 0 → xl_W M rc rs pc2 L st h Po) : xl_W M rc rs pc L (xi a :: st) h Po := xl_if_le d (fun q => kt ((iI_le0 ha).mp q)) (fun q => kf (fun z => q ((iI_le0 ha).mpr z)))
theorem xz_icmp_le (d : xl_J M pc (fun o => .if_icmp .le o) pc2 tgt) (ha : xb a) (hb : xb b) (kt : a ≤ b → xl_W M rc rs tgt L st h Po) (kf : ¬ a ≤ b → xl_W M rc rs pc2 L st h Po) : xl_W M rc rs pc L (xi b :: xi a :: st) h Po := xl_icmp_le d (fun q => kt ((iI_le ha hb).mp q)) (fun q => kf (fun z => q ((iI_le ha hb).mpr z)))
end XZ
end
-- 056.xy
section
/-! ===== stores, increments and fields by their places ===== -/
section XY
variable {M : XI} {rc rs pc pc2 tgt : Nat} {L T : List (Option Value)} {st : List Value} {h : XH} {Po : Option (Option Value) → XH → Prop} {a b : Int}
theorem xy_is0 {a : Int32} {x0 : Option Value} (d : xl_D M pc (.istore_n 0) 1 pc2) (hk : xl_k (x0 :: T) 0 = true) (hn : 0 < M.2.2.1) (kk : xl_W M rc rs pc2 (some (.int a) :: T) st h Po) : xl_W M rc rs pc (x0 :: T) (.int a :: st) h Po := xl_istore_n d hk hn kk
theorem xy_as0 {a : Nat} {x0 : Option Value} (d : xl_D M pc (.astore_n 0) 1 pc2) (hk : xl_k (x0 :: T) 0 = true) (hn : 0 < M.2.2.1) (kk : xl_W M rc rs pc2 (some (.ref a) :: T) st h Po) : xl_W M rc rs pc (x0 :: T) (.ref a :: st) h Po := xl_astore_n d hk hn kk
theorem xy_ss0 {a : UInt32} {x0 : Option Value} (d : xl_D M pc (.astore_n 0) 1 pc2) (hk : xl_k (x0 :: T) 0 = true) (hn : 0 < M.2.2.1) (kk : xl_W M rc rs pc2 (some (.float a) :: T) st h Po) : xl_W M rc rs pc (x0 :: T) (.float a :: st) h Po := xl_sastore_n d hk hn kk
theorem xy_ii0 {n : Int} (d : xl_D M pc (.iinc 0 n) 3 pc2) (hk : xl_k (some (xi a) :: T) 0 = true) (hn : 0 < M.2.2.1) (kk : xl_W M rc rs pc2 (some (xi (a + n)) :: T) st h Po) : xl_W M rc rs pc (some (xi a) :: T) st h Po := xz_iinc d (by rfl) hk hn kk
theorem xy_is1 {a : Int32} {x0 x1 : Option Value} (d : xl_D M pc (.istore_n 1) 1 pc2) (hk : xl_k (x0 :: x1 :: T) 1 = true) (hn : 1 < M.2.2.1) (kk : xl_W M rc rs pc2 (x0 :: some (.int a) :: T) st h Po) : xl_W M rc rs pc (x0 :: x1 :: T) (.int a :: st) h Po := xl_istore_n d hk hn kk
theorem xy_as1 {a : Nat} {x0 x1 : Option Value} (d : xl_D M pc (.astore_n 1) 1 pc2) (hk : xl_k (x0 :: x1 :: T) 1 = true) (hn : 1 < M.2.2.1) (kk : xl_W M rc rs pc2 (x0 :: some (.ref a) :: T) st h Po) : xl_W M rc rs pc (x0 :: x1 :: T) (.ref a :: st) h Po := xl_astore_n d hk hn kk
theorem xy_ss1 {a : UInt32} {x0 x1 : Option Value} (d : xl_D M pc (.astore_n 1) 1 pc2) (hk : xl_k (x0 :: x1 :: T) 1 = true) (hn : 1 < M.2.2.1) (kk : xl_W M rc rs pc2 (x0 :: some (.float a) :: T) st h Po) : xl_W M rc rs pc (x0 :: x1 :: T) (.float a :: st) h Po := xl_sastore_n d hk hn kk
theorem xy_ii1 {x0 : Option Value} {n : Int} (d : xl_D M pc (.iinc 1 n) 3 pc2) (hk : xl_k (x0 :: some (xi a) :: T) 1 = true) (hn : 1 < M.2.2.1) (kk : xl_W M rc rs pc2 (x0 :: some (xi (a + n)) :: T) st h Po) : xl_W M rc rs pc (x0 :: some (xi a) :: T) st h Po := xz_iinc d (by rfl) hk hn kk
theorem xy_is2 {a : Int32} {x0 x1 x2 : Option Value} (d : xl_D M pc (.istore_n 2) 1 pc2) (hk : xl_k (x0 :: x1 :: x2 :: T) 2 = true) (hn : 2 < M.2.2.1) (kk : xl_W M rc rs pc2 (x0 :: x1 :: some (.int a) :: T) st h Po) : xl_W M rc rs pc (x0 :: x1 :: x2 :: T) (.int a :: st) h Po := xl_istore_n d hk hn kk
theorem xy_as2 {a : Nat} {x0 x1 x2 : Option Value} (d : xl_D M pc (.astore_n 2) 1 pc2) (hk : xl_k (x0 :: x1 :: x2 :: T) 2 = true) (hn : 2 < M.2.2.1) (kk : xl_W M rc rs pc2 (x0 :: x1 :: some (.ref a) :: T) st h Po) : xl_W M rc rs pc (x0 :: x1 :: x2 :: T) (.ref a :: st) h Po := xl_astore_n d hk hn kk
theorem xy_ss2 {a : UInt32} {x0 x1 x2 : Option Value} (d : xl_D M pc (.astore_n 2) 1 pc2) (hk : xl_k (x0 :: x1 :: x2 :: T) 2 = true) (hn : 2 < M.2.2.1) (kk : xl_W M rc rs pc2 (x0 :: x1 :: some (.float a) :: T) st h Po) : xl_W M rc rs pc (x0 :: x1 :: x2 :: T) (.float a :: st) h Po := xl_sastore_n d hk hn kk
theorem xy_ii2 {x0 x1 : Option Value} {n : Int} (d : xl_D M pc (.iinc 2 n) 3 pc2) (hk : xl_k (x0 :: x1 :: some (xi a) :: T) 2 = true) (hn : 2 < M.2.2.1) (kk : xl_W M rc rs pc2 (x0 :: x1 :: some (xi (a + n)) :: T) st h Po) : xl_W M rc rs pc (x0 :: x1 :: some (xi a) :: T) st h Po := xz_iinc d (by rfl) hk hn kk
theorem xy_is3 {a : Int32} {x0 x1 x2 x3 : Option Value} (d : xl_D M pc (.istore_n 3) 1 pc2) (hk : xl_k (x0 :: x1 :: x2 :: x3 :: T) 3 = true) (hn : 3 < M.2.2.1) (kk : xl_W M rc rs pc2 (x0 :: x1 :: x2 :: some (.int a) :: T) st h Po) : xl_W M rc rs pc (x0 :: x1 :: x2 :: x3 :: T) (.int a :: st) h Po := xl_istore_n d hk hn kk
theorem xy_as3 {a : Nat} {x0 x1 x2 x3 : Option Value} (d : xl_D M pc (.astore_n 3) 1 pc2) (hk : xl_k (x0 :: x1 :: x2 :: x3 :: T) 3 = true) (hn : 3 < M.2.2.1) (kk : xl_W M rc rs pc2 (x0 :: x1 :: x2 :: some (.ref a) :: T) st h Po) : xl_W M rc rs pc (x0 :: x1 :: x2 :: x3 :: T) (.ref a :: st) h Po := xl_astore_n d hk hn kk
theorem xy_ss3 {a : UInt32} {x0 x1 x2 x3 : Option Value} (d : xl_D M pc (.astore_n 3) 1 pc2) (hk : xl_k (x0 :: x1 :: x2 :: x3 :: T) 3 = true) (hn : 3 < M.2.2.1) (kk : xl_W M rc rs pc2 (x0 :: x1 :: x2 :: some (.float a) :: T) st h Po) : xl_W M rc rs pc (x0 :: x1 :: x2 :: x3 :: T) (.float a :: st) h Po := xl_sastore_n d hk hn kk
theorem xy_ii3 {x0 x1 x2 : Option Value} {n : Int} (d : xl_D M pc (.iinc 3 n) 3 pc2) (hk : xl_k (x0 :: x1 :: x2 :: some (xi a) :: T) 3 = true) (hn : 3 < M.2.2.1) (kk : xl_W M rc rs pc2 (x0 :: x1 :: x2 :: some (xi (a + n)) :: T) st h Po) : xl_W M rc rs pc (x0 :: x1 :: x2 :: some (xi a) :: T) st h Po := xz_iinc d (by rfl) hk hn kk
theorem xy_is4 {a : Int32} {x0 x1 x2 x3 x4 : Option Value} (d : xl_D M pc (.istore 4) 2 pc2) (hk : xl_k (x0 :: x1 :: x2 :: x3 :: x4 :: T) 4 = true) (hn : 4 < M.2.2.1) (kk : xl_W M rc rs pc2 (x0 :: x1 :: x2 :: x3 :: some (.int a) :: T) st h Po) : xl_W M rc rs pc (x0 :: x1 :: x2 :: x3 :: x4 :: T) (.int a :: st) h Po := xl_istore d hk hn kk
theorem xy_as4 {a : Nat} {x0 x1 x2 x3 x4 : Option Value} (d : xl_D M pc (.astore 4) 2 pc2) (hk : xl_k (x0 :: x1 :: x2 :: x3 :: x4 :: T) 4 = true) (hn : 4 < M.2.2.1) (kk : xl_W M rc rs pc2 (x0 :: x1 :: x2 :: x3 :: some (.ref a) :: T) st h Po) : xl_W M rc rs pc (x0 :: x1 :: x2 :: x3 :: x4 :: T) (.ref a :: st) h Po := xl_astore d hk hn kk
theorem xy_ss4 {a : UInt32} {x0 x1 x2 x3 x4 : Option Value} (d : xl_D M pc (.astore 4) 2 pc2) (hk : xl_k (x0 :: x1 :: x2 :: x3 :: x4 :: T) 4 = true) (hn : 4 < M.2.2.1) (kk : xl_W M rc rs pc2 (x0 :: x1 :: x2 :: x3 :: some (.float a) :: T) st h Po) : xl_W M rc rs pc (x0 :: x1 :: x2 :: x3 :: x4 :: T) (.float a :: st) h Po := xl_sastore d hk hn kk
theorem xy_ii4 {x0 x1 x2 x3 : Option Value} {n : Int} (d : xl_D M pc (.iinc 4 n) 3 pc2) (hk : xl_k (x0 :: x1 :: x2 :: x3 :: some (xi a) :: T) 4 = true) (hn : 4 < M.2.2.1) (kk : xl_W M rc rs pc2 (x0 :: x1 :: x2 :: x3 :: some (xi (a + n)) :: T) st h Po) : xl_W M rc rs pc (x0 :: x1 :: x2 :: x3 :: some (xi a) :: T) st h Po := xz_iinc d (by rfl) hk hn kk
theorem xy_is5 {a : Int32} {x0 x1 x2 x3 x4 x5 : Option Value} (d : xl_D M pc (.istore 5) 2 pc2) (hk : xl_k (x0 :: x1 :: x2 :: x3 :: x4 :: x5 :: T) 5 = true) (hn : 5 < M.2.2.1) (kk : xl_W M rc rs pc2 (x0 :: x1 :: x2 :: x3 :: x4 :: some (.int a) :: T) st h Po) : xl_W M rc rs pc (x0 :: x1 :: x2 :: x3 :: x4 :: x5 :: T) (.int a :: st) h Po := xl_istore d hk hn kk
theorem xy_as5 {a : Nat} {x0 x1 x2 x3 x4 x5 : Option Value} (d : xl_D M pc (.astore 5) 2 pc2) (hk : xl_k (x0 :: x1 :: x2 :: x3 :: x4 :: x5 :: T) 5 = true) (hn : 5 < M.2.2.1) (kk : xl_W M rc rs pc2 (x0 :: x1 :: x2 :: x3 :: x4 :: some (.ref a) :: T) st h Po) : xl_W M rc rs pc (x0 :: x1 :: x2 :: x3 :: x4 :: x5 :: T) (.ref a :: st) h Po := xl_astore d hk hn kk
theorem xy_ss5 {a : UInt32} {x0 x1 x2 x3 x4 x5 : Option Value} (d : xl_D M pc (.astore 5) 2 pc2) (hk : xl_k (x0 :: x1 :: x2 :: x3 :: x4 :: x5 :: T) 5 = true) (hn : 5 < M.2.2.1) (kk : xl_W M rc rs pc2 (x0 :: x1 :: x2 :: x3 :: x4 :: some (.float a) :: T) st h Po) : xl_W M rc rs pc (x0 :: x1 :: x2 :: x3 :: x4 :: x5 :: T) (.float a :: st) h Po := xl_sastore d hk hn kk
theorem xy_ii5 {x0 x1 x2 x3 x4 : Option Value} {n : Int} (d : xl_D M pc (.iinc 5 n) 3 pc2) (hk : xl_k (x0 :: x1 :: x2 :: x3 :: x4 :: some (xi a) :: T) 5 = true) (hn : 5 < M.2.2.1) (kk : xl_W M rc rs pc2 (x0 :: x1 :: x2 :: x3 :: x4 :: some (xi (a + n)) :: T) st h Po) : xl_W M rc rs pc (x0 :: x1 :: x2 :: x3 :: x4 :: some (xi a) :: T) st h Po := xz_iinc d (by rfl) hk hn kk
theorem xy_is6 {a : Int32} {x0 x1 x2 x3 x4 x5 x6 : Option Value} (d : xl_D M pc (.istore 6) 2 pc2) (hk : xl_k (x0 :: x1 :: x2 :: x3 :: x4 :: x5 :: x6 :: T) 6 = true) (hn : 6 < M.2.2.1) (kk : xl_W M rc rs pc2 (x0 :: x1 :: x2 :: x3 :: x4 :: x5 :: some (.int a) :: T) st h Po) : xl_W M rc rs pc (x0 :: x1 :: x2 :: x3 :: x4 :: x5 :: x6 :: T) (.int a :: st) h Po := xl_istore d hk hn kk
theorem xy_as6 {a : Nat} {x0 x1 x2 x3 x4 x5 x6 : Option Value} (d : xl_D M pc (.astore 6) 2 pc2) (hk : xl_k (x0 :: x1 :: x2 :: x3 :: x4 :: x5 :: x6 :: T) 6 = true) (hn : 6 < M.2.2.1) (kk : xl_W M rc rs pc2 (x0 :: x1 :: x2 :: x3 :: x4 :: x5 :: some (.ref a) :: T) st h Po) : xl_W M rc rs pc (x0 :: x1 :: x2 :: x3 :: x4 :: x5 :: x6 :: T) (.ref a :: st) h Po := xl_astore d hk hn kk
theorem xy_ss6 {a : UInt32} {x0 x1 x2 x3 x4 x5 x6 : Option Value} (d : xl_D M pc (.astore 6) 2 pc2) (hk : xl_k (x0 :: x1 :: x2 :: x3 :: x4 :: x5 :: x6 :: T) 6 = true) (hn : 6 < M.2.2.1) (kk : xl_W M rc rs pc2 (x0 :: x1 :: x2 :: x3 :: x4 :: x5 :: some (.float a) :: T) st h Po) : xl_W M rc rs pc (x0 :: x1 :: x2 :: x3 :: x4 :: x5 :: x6 :: T) (.float a :: st) h Po := xl_sastore d hk hn kk
theorem xy_ii6 {x0 x1 x2 x3 x4 x5 : Option Value} {n : Int} (d : xl_D M pc (.iinc 6 n) 3 pc2) (hk : xl_k (x0 :: x1 :: x2 :: x3 :: x4 :: x5 :: some (xi a) :: T) 6 = true) (hn : 6 < M.2.2.1) (kk : xl_W M rc rs pc2 (x0 :: x1 :: x2 :: x3 :: x4 :: x5 :: some (xi (a + n)) :: T) st h Po) : xl_W M rc rs pc (x0 :: x1 :: x2 :: x3 :: x4 :: x5 :: some (xi a) :: T) st h Po := xz_iinc d (by rfl) hk hn kk
theorem xy_is7 {a : Int32} {x0 x1 x2 x3 x4 x5 x6 x7 : Option Value} (d : xl_D M pc (.istore 7) 2 pc2) (hk : xl_k (x0 :: x1 :: x2 :: x3 :: x4 :: x5 :: x6 :: x7 :: T) 7 = true) (hn : 7 < M.2.2.1) (kk : xl_W M rc rs pc2 (x0 :: x1 :: x2 :: x3 :: x4 :: x5 :: x6 :: some (.int a) :: T) st h Po) : xl_W M rc rs pc (x0 :: x1 :: x2 :: x3 :: x4 :: x5 :: x6 :: x7 :: T) (.int a :: st) h Po := xl_istore d hk hn kk
theorem xy_as7 {a : Nat} {x0 x1 x2 x3 x4 x5 x6 x7 : Option Value} (d : xl_D M pc (.astore 7) 2 pc2) (hk : xl_k (x0 :: x1 :: x2 :: x3 :: x4 :: x5 :: x6 :: x7 :: T) 7 = true) (hn : 7 < M.2.2.1) (kk : xl_W M rc rs pc2 (x0 :: x1 :: x2 :: x3 :: x4 :: x5 :: x6 :: some (.ref a) :: T) st h Po) : xl_W M rc rs pc (x0 :: x1 :: x2 :: x3 :: x4 :: x5 :: x6 :: x7 :: T) (.ref a :: st) h Po := xl_astore d hk hn kk
theorem xy_ss7 {a : UInt32} {x0 x1 x2 x3 x4 x5 x6 x7 : Option Value} (d : xl_D M pc (.astore 7) 2 pc2) (hk : xl_k (x0 :: x1 :: x2 :: x3 :: x4 :: x5 :: x6 :: x7 :: T) 7 = true) (hn : 7 < M.2.2.1) (kk : xl_W M rc rs pc2 (x0 :: x1 :: x2 :: x3 :: x4 :: x5 :: x6 :: some (.float a) :: T) st h Po) : xl_W M rc rs pc (x0 :: x1 :: x2 :: x3 :: x4 :: x5 :: x6 :: x7 :: T) (.float a :: st) h Po := xl_sastore d hk hn kk
theorem xy_ii7 {x0 x1 x2 x3 x4 x5 x6 : Option Value} {n : Int} (d : xl_D M pc (.iinc 7 n) 3 pc2) (hk : xl_k (x0 :: x1 :: x2 :: x3 :: x4 :: x5 :: x6 :: some (xi a) :: T) 7 = true) (hn : 7 < M.2.2.1) (kk : xl_W M rc rs pc2 (x0 :: x1 :: x2 :: x3 :: x4 :: x5 :: x6 :: some (xi (a + n)) :: T) st h Po) : xl_W M rc rs pc (x0 :: x1 :: x2 :: x3 :: x4 :: x5 :: x6 :: some (xi a) :: T) st h Po := xz_iinc d (by rfl) hk hn kk
theorem xy_is8 {a : Int32} {x0 x1 x2 x3 x4 x5 x6 x7 x8 : Option Value} (d : xl_D M pc (.istore 8) 2 pc2) (hk : xl_k (x0 :: x1 :: x2 :: x3 :: x4 :: x5 :: x6 :: x7 :: x8 :: T) 8 = true) (hn : 8 < M.2.2.1) (kk : xl_W M rc rs pc2 (x0 :: x1 :: x2 :: x3 :: x4 :: x5 :: x6 :: x7 :: some (.int a) :: T) st h Po) : xl_W M rc rs pc (x0 :: x1 :: x2 :: x3 :: x4 :: x5 :: x6 :: x7 :: x8 :: T) (.int a :: st) h Po := xl_istore d hk hn kk
theorem xy_as8 {a : Nat} {x0 x1 x2 x3 x4 x5 x6 x7 x8 : Option Value} (d : xl_D M pc (.astore 8) 2 pc2) (hk : xl_k (x0 :: x1 :: x2 :: x3 :: x4 :: x5 :: x6 :: x7 :: x8 :: T) 8 = true) (hn : 8 < M.2.2.1) (kk : xl_W M rc rs pc2 (x0 :: x1 :: x2 :: x3 :: x4 :: x5 :: x6 :: x7 :: some (.ref a) :: T) st h Po) : xl_W M rc rs pc (x0 :: x1 :: x2 :: x3 :: x4 :: x5 :: x6 :: x7 :: x8 :: T) (.ref a :: st) h Po := xl_astore d hk hn kk
theorem xy_ss8 {a : UInt32} {x0 x1 x2 x3 x4 x5 x6 x7 x8 : Option Value} (d : xl_D M pc (.astore 8) 2 pc2) (hk : xl_k (x0 :: x1 :: x2 :: x3 :: x4 :: x5 :: x6 :: x7 :: x8 :: T) 8 = true) (hn : 8 < M.2.2.1) (kk : xl_W M rc rs pc2 (x0 :: x1 :: x2 :: x3 :: x4 :: x5 :: x6 :: x7 :: some (.float a) :: T) st h Po) : xl_W M rc rs pc (x0 :: x1 :: x2 :: x3 :: x4 :: x5 :: x6 :: x7 :: x8 :: T) (.float a :: st) h Po := xl_sastore d hk hn kk
theorem xy_ii8 {x0 x1 x2 x3 x4 x5 x6 x7 : Option Value} {n : Int} (d : xl_D M pc (.iinc 8 n) 3 pc2) (hk : xl_k (x0 :: x1 :: x2 :: x3 :: x4 :: x5 :: x6 :: x7 :: some (xi a) :: T) 8 = true) (hn : 8 < M.2.2.1) (kk : xl_W M rc rs pc2 (x0 :: x1 :: x2 :: x3 :: x4 :: x5 :: x6 :: x7 :: some (xi (a + n)) :: T) st h Po) : xl_W M rc rs pc (x0 :: x1 :: x2 :: x3 :: x4 :: x5 :: x6 :: x7 :: some (xi a) :: T) st h Po := xz_iinc d (by rfl) hk hn kk
theorem xy_is9 {a : Int32} {x0 x1 x2 x3 x4 x5 x6 x7 x8 x9 : Option Value} (d : xl_D M pc (.istore 9) 2 pc2) (hk : xl_k (x0 :: x1 :: x2 :: x3 :: x4 :: x5 :: x6 :: x7 :: x8 :: x9 :: T) 9 = true) (hn : 9 < M.2.2.1) (kk : xl_W M rc rs pc2 (x0 :: x1 :: x2 :: x3 :: x4 :: x5 :: x6 :: x7 :: x8 :: some (.int a) :: T) st h Po) : xl_W M rc rs pc (x0 :: x1 :: x2 :: x3 :: x4 :: x5 :: x6 :: x7 :: x8 :: x9 :: T) (.int a :: st) h Po := xl_istore d hk hn kk
theorem xy_as9 {a : Nat} {x0 x1 x2 x3 x4 x5 x6 x7 x8 x9 : Option Value} (d : xl_D M pc (.astore 9) 2 pc2) (hk : xl_k (x0 :: x1 :: x2 :: x3 :: x4 :: x5 :: x6 :: x7 :: x8 :: x9 :: T) 9 = true) (hn : 9 < M.2.2.1) (kk : xl_W M rc rs pc2 (x0 :: x1 :: x2 :: x3 :: x4 :: x5 :: x6 :: x7 :: x8 :: some (.ref a) :: T) st h Po) : xl_W M rc rs pc (x0 :: x1 :: x2 :: x3 :: x4 :: x5 :: x6 :: x7 :: x8 :: x9 :: T) (.ref a :: st) h Po := xl_astore d hk hn kk
theorem xy_ss9 {a : UInt32} {x0 x1 x2 x3 x4 x5 x6 x7 x8 x9 : Option Value} (d : xl_D M pc (.astore 9) 2 pc2) (hk : xl_k (x0 :: x1 :: x2 :: x3 :: x4 :: x5 :: x6 :: x7 :: x8 :: x9 :: T) 9 = true) (hn : 9 < M.2.2.1) (kk : xl_W M rc rs pc2 (x0 :: x1 :: x2 :: x3 :: x4 :: x5 :: x6 :: x7 :: x8 :: some (.float a) :: T) st h Po) : xl_W M rc rs pc (x0 :: x1 :: x2 :: x3 :: x4 :: x5 :: x6 :: x7 :: x8 :: x9 :: T) (.float a :: st) h Po := xl_sastore d hk hn kk
theorem xy_ii9 {x0 x1 x2 x3 x4 x5 x6 x7 x8 : Option Value} {n : Int} (d : xl_D M pc (.iinc 9 n) 3 pc2) (hk : xl_k (x0 :: x1 :: x2 :: x3 :: x4 :: x5 :: x6 :: x7 :: x8 :: some (xi a) :: T) 9 = true) (hn : 9 < M.2.2.1) (kk : xl_W M rc rs pc2 (x0 :: x1 :: x2 :: x3 :: x4 :: x5 :: x6 :: x7 :: x8 :: some (xi (a + n)) :: T) st h Po) : xl_W M rc rs pc (x0 :: x1 :: x2 :: x3 :: x4 :: x5 :: x6 :: x7 :: x8 :: some (xi a) :: T) st h Po := xz_iinc d (by rfl) hk hn kk
theorem xy_is10 {a : Int32} {x0 x1 x2 x3 x4 x5 x6 x7 x8 x9 x10 : Option Value} (d : xl_D M pc (.istore 10) 2 pc2) (hk : xl_k (x0 :: x1 :: x2 :: x3 :: x4 :: x5 :: x6 :: x7 :: x8 :: x9 :: x10 :: T) 10 = true) (hn : 10 < M.2.2.1) (kk : xl_W M rc rs pc2 (x0 :: x1 :: x2 :: x3 :: x4 :: x5 :: x6 :: x7 :: x8 :: x9 :: some (.int a) :: T) st h Po) : xl_W M rc rs pc (x0 :: x1 :: x2 :: x3 :: x4 :: x5 :: x6 :: x7 :: x8 :: x9 :: x10 :: T) (.int a :: st) h Po := xl_istore d hk hn kk
theorem xy_as10 {a : Nat} {x0 x1 x2 x3 x4 x5 x6 x7 x8 x9 x10 : Option Value} (d : xl_D M pc (.astore 10) 2 pc2) (hk : xl_k (x0 :: x1 :: x2 :: x3 :: x4 :: x5 :: x6 :: x7 :: x8 :: x9 :: x10 :: T) 10 = true) (hn : 10 < M.2.2.1) (kk : xl_W M rc rs pc2 (x0 :: x1 :: x2 :: x3 :: x4 :: x5 :: x6 :: x7 :: x8 :: x9 :: some (.ref a) :: T) st h Po) : xl_W M rc rs pc (x0 :: x1 :: x2 :: x3 :: x4 :: x5 :: x6 :: x7 :: x8 :: x9 :: x10 :: T) (.ref a :: st) h Po := xl_astore d hk hn kk
theorem xy_ss10 {a : UInt32} {x0 x1 x2 x3 x4 x5 x6 x7 x8 x9 x10 : Option Value} (d : xl_D M pc (.astore 10) 2 pc2) (hk : xl_k (x0 :: x1 :: x2 :: x3 :: x4 :: x5 :: x6 :: x7 :: x8 :: x9 :: x10 :: T) 10 = true) (hn : 10 < M.2.2.1) (kk : xl_W M rc rs pc2 (x0 :: x1 :: x2 :: x3 :: x4 :: x5 :: x6 :: x7 :: x8 :: x9 :: some (.float a) :: T) st h Po) : xl_W M rc rs pc (x0 :: x1 :: x2 :: x3 :: x4 :: x5 :: x6 :: x7 :: x8 :: x9 :: x10 :: T) (.float a :: st) h Po := xl_sastore d hk hn kk
theorem xy_ii10 {x0 x1 x2 x3 x4 x5 x6 x7 x8 x9 : Option Value} {n : Int} (d : xl_D M pc (.iinc 10 n) 3 pc2) (hk : xl_k (x0 :: x1 :: x2 :: x3 :: x4 :: x5 :: x6 :: x7 :: x8 :: x9 :: some (xi a) :: T) 10 = true) (hn : 10 < M.2.2.1) (kk : xl_W M rc rs pc2 (x0 :: x1 :: x2 :: x3 :: x4 :: x5 :: x6 :: x7 :: x8 :: x9 :: some (xi (a + n)) :: T) st h Po) : xl_W M rc rs pc (x0 :: x1 :: x2 :: x3 :: x4 :: x5 :: x6 :: x7 :: x8 :: x9 :: some (xi a) :: T) st h Po := xz_iinc d (by rfl) hk hn kk
theorem xy_is11 {a : Int32} {x0 x1 x2 x3 x4 x5 x6 x7 x8 x9 x10 x11 : Option Value} (d : xl_D M pc (.istore 11) 2 pc2) (hk : xl_k (x0 :: x1 :: x2 :: x3 :: x4 :: x5 :: x6 :: x7 :: x8 :: x9 :: x10 :: x11 :: T) 11 = true) (hn : 11 < M.2.2.1) (kk : xl_W M rc rs pc2 (x0 :: x1 :: x2 :: x3 :: x4 :: x5 :: x6 :: x7 :: x8 :: x9 :: x10 :: some (.int a) :: T) st h Po) : xl_W M rc rs pc (x0 :: x1 :: x2 :: x3 :: x4 :: x5 :: x6 :: x7 :: x8 :: x9 :: x10 :: x11 :: T) (.int a :: st) h Po := xl_istore d hk hn kk
theorem xy_as11 {a : Nat} {x0 x1 x2 x3 x4 x5 x6 x7 x8 x9 x10 x11 : Option Value} (d : xl_D M pc (.astore 11) 2 pc2) (hk : xl_k (x0 :: x1 :: x2 :: x3 :: x4 :: x5 :: x6 :: x7 :: x8 :: x9 :: x10 :: x11 :: T) 11 = true) (hn : 11 < M.2.2.1) (kk : xl_W M rc rs pc2 (x0 :: x1 :: x2 :: x3 :: x4 :: x5 :: x6 :: x7 :: x8 :: x9 :: x10 :: some (.ref a) :: T) st h Po) : xl_W M rc rs pc (x0 :: x1 :: x2 :: x3 :: x4 :: x5 :: x6 :: x7 :: x8 :: x9 :: x10 :: x11 :: T) (.ref a :: st) h Po := xl_astore d hk hn kk
theorem xy_ss11 {a : UInt32} {x0 x1 x2 x3 x4 x5 x6 x7 x8 x9 x10 x11 : Option Value} (d : xl_D M pc (.astore 11) 2 pc2) (hk : xl_k (x0 :: x1 :: x2 :: x3 :: x4 :: x5 :: x6 :: x7 :: x8 :: x9 :: x10 :: x11 :: T) 11 = true) (hn : 11 < M.2.2.1) (kk : xl_W M rc rs pc2 (x0 :: x1 :: x2 :: x3 :: x4 :: x5 :: x6 :: x7 :: x8 :: x9 :: x10 :: some (.float a) :: T) st h Po) : xl_W M rc rs pc (x0 :: x1 :: x2 :: x3 :: x4 :: x5 :: x6 :: x7 :: x8 :: x9 :: x10 :: x11 :: T) (.float a :: st) h Po := xl_sastore d hk hn kk
theorem xy_ii11 {x0 x1 x2 x3 x4 x5 x6 x7 x8 x9 x10 : Option Value} {n : Int} (d : xl_D M pc (.iinc 11 n) 3 pc2) (hk : xl_k (x0 :: x1 :: x2 :: x3 :: x4 :: x5 :: x6 :: x7 :: x8 :: x9 :: x10 :: some (xi a) :: T) 11 = true) (hn : 11 < M.2.2.1) (kk : xl_W M rc rs pc2 (x0 :: x1 :: x2 :: x3 :: x4 :: x5 :: x6 :: x7 :: x8 :: x9 :: x10 :: some (xi (a + n)) :: T) st h Po) : xl_W M rc rs pc (x0 :: x1 :: x2 :: x3 :: x4 :: x5 :: x6 :: x7 :: x8 :: x9 :: x10 :: some (xi a) :: T) st h Po := xz_iinc d (by rfl) hk hn kk
theorem xy_is12 {a : Int32} {x0 x1 x2 x3 x4 x5 x6 x7 x8 x9 x10 x11 x12 : Option Value} (d : xl_D M pc (.istore 12) 2 pc2) (hk : xl_k (x0 :: x1 :: x2 :: x3 :: x4 :: x5 :: x6 :: x7 :: x8 :: x9 :: x10 :: x11 :: x12 :: T) 12 = true) (hn : 12 < M.2.2.1) (kk : xl_W M rc rs pc2 (x0 :: x1 :: x2 :: x3 :: x4 :: x5 :: x6 :: x7 :: x8 :: x9 :: x10 :: x11 :: some (.int a) :: T) st h Po) : xl_W M rc rs pc (x0 :: x1 :: x2 :: x3 :: x4 :: x5 :: x6 :: x7 :: x8 :: x9 :: x10 :: x11 :: x12 :: T) (.int a :: st) h Po := xl_istore d hk hn kk
theorem xy_as12 {a : Nat} {x0 x1 x2 x3 x4 x5 x6 x7 x8 x9 x10 x11 x12 : Option Value} (d : xl_D M pc (.astore 12) 2 pc2) (hk : xl_k (x0 :: x1 :: x2 :: x3 :: x4 :: x5 :: x6 :: x7 :: x8 :: x9 :: x10 :: x11 :: x12 :: T) 12 = true) (hn : 12 < M.2.2.1) (kk : xl_W M rc rs pc2 (x0 :: x1 :: x2 :: x3 :: x4 :: x5 :: x6 :: x7 :: x8 :: x9 :: x10 :: x11 :: some (.ref a) :: T) st h Po) : xl_W M rc rs pc (x0 :: x1 :: x2 :: x3 :: x4 :: x5 :: x6 :: x7 :: x8 :: x9 :: x10 :: x11 :: x12 :: T) (.ref a :: st) h Po := xl_astore d hk hn kk
theorem xy_ss12 {a : UInt32} {x0 x1 x2 x3 x4 x5 x6 x7 x8 x9 x10 x11 x12 : Option Value} (d : xl_D M pc (.astore 12) 2 pc2) (hk : xl_k (x0 :: x1 :: x2 :: x3 :: x4 :: x5 :: x6 :: x7 :: x8 :: x9 :: x10 :: x11 :: x12 :: T) 12 = true) (hn : 12 < M.2.2.1) (kk : xl_W M rc rs pc2 (x0 :: x1 :: x2 :: x3 :: x4 :: x5 :: x6 :: x7 :: x8 :: x9 :: x10 :: x11 :: some (.float a) :: T) st h Po) : xl_W M rc rs pc (x0 :: x1 :: x2 :: x3 :: x4 :: x5 :: x6 :: x7 :: x8 :: x9 :: x10 :: x11 :: x12 :: T) (.float a :: st) h Po := xl_sastore d hk hn kk
theorem xy_ii12 {x0 x1 x2 x3 x4 x5 x6 x7 x8 x9 x10 x11 : Option Value} {n : Int} (d : xl_D M pc (.iinc 12 n) 3 pc2) (hk : xl_k (x0 :: x1 :: x2 :: x3 :: x4 :: x5 :: x6 :: x7 :: x8 :: x9 :: x10 :: x11 :: some (xi a) :: T) 12 = true) (hn : 12 < M.2.2.1) (kk : xl_W M rc rs pc2 (x0 :: x1 :: x2 :: x3 :: x4 :: x5 :: x6 :: x7 :: x8 :: x9 :: x10 :: x11 :: some (xi (a + n)) :: T) st h Po) : xl_W M rc rs pc (x0 :: x1 :: x2 :: x3 :: x4 :: x5 :: x6 :: x7 :: x8 :: x9 :: x10 :: x11 :: some (xi a) :: T) st h Po := xz_iinc d (by rfl) hk hn kk
theorem xy_is13 {a : Int32} {x0 x1 x2 x3 x4 x5 x6 x7 x8 x9 x10 x11 x12 x13 : Option Value} (d : xl_D M pc (.istore 13) 2 pc2) (hk : xl_k (x0 :: x1 :: x2 :: x3 :: x4 :: x5 :: x6 :: x7 :: x8 :: x9 :: x10 :: x11 :: x12 :: x13 :: T) 13 = true) (hn : 13 < M.2.2.1) (kk : xl_W M rc rs pc2 (x0 :: x1 :: x2 :: x3 :: x4 :: x5 :: x6 :: x7 :: x8 :: x9 :: x10 :: x11 :: x12 :: some (.int a) :: T) st h Po) : xl_W M rc rs pc (x0 :: x1 :: x2 :: x3 :: x4 :: x5 :: x6 :: x7 :: x8 :: x9 :: x10 :: x11 :: x12 :: x13 :: T) (.int a :: st) h Po := xl_istore d hk hn kk
theorem xy_as13 {a : Nat} {x0 x1 x2 x3 x4 x5 x6 x7 x8 x9 x10 x11 x12 x13 : Option Value} (d : xl_D M pc (.astore 13) 2 pc2) (hk : xl_k (x0 :: x1 :: x2 :: x3 :: x4 :: x5 :: x6 :: x7 :: x8 :: x9 :: x10 :: x11 :: x12 :: x13 :: T) 13 = true) (hn : 13 < M.2.2.1) (kk : xl_W M rc rs pc2 (x0 :: x1 :: x2 :: x3 :: x4 :: x5 :: x6 :: x7 :: x8 :: x9 :: x10 :: x11 :: x12 :: some (.ref a) :: T) st h Po) : xl_W M rc rs pc (x0 :: x1 :: x2 :: x3 :: x4 :: x5 :: x6 :: x7 :: x8 :: x9 :: x10 :: x11 :: x12 :: x13 :: T) (.ref a :: st) h Po := xl_astore d hk hn kk
theorem xy_ss13 {a : UInt32} {x0 x1 x2 x3 x4 x5 x6 x7 x8 x9 x10 x11 x12 x13 : Option Value} (d : xl_D M pc (.astore 13) 2 pc2) (hk : xl_k (x0 :: x1 :: x2 :: x3 :: x4 :: x5 :: x6 :: x7 :: x8 :: x9 :: x10 :: x11 :: x12 :: x13 :: T) 13 = true) (hn : 13 < M.2.2.1) (kk : xl_W M rc rs pc2 (x0 :: x1 :: x2 :: x3 :: x4 :: x5 :: x6 :: x7 :: x8 :: x9 :: x10 :: x11 :: x12 :: some (.float a) :: T) st h Po) : xl_W M rc rs pc (x0 :: x1 :: x2 :: x3 :: x4 :: x5 :: x6 :: x7 :: x8 :: x9 :: x10 :: x11 :: x12 :: x13 :: T) (.float a :: st) h Po := xl_sastore d hk hn kk
theorem xy_ii13 {x0 x1 x2 x3 x4 x5 x6 x7 x8 x9 x10 x11 x12 : Option Value} {n : Int} (d : xl_D M pc (.iinc 13 n) 3 pc2) (hk : xl_k (x0 :: x1 :: x2 :: x3 :: x4 :: x5 :: x6 :: x7 :: x8 :: x9 :: x10 :: x11 :: x12 :: some (xi a) :: T) 13 = true) (hn : 13 < M.2.2.1) (kk : xl_W M rc rs pc2 (x0 :: x1 :: x2 :: x3 :: x4 :: x5 :: x6 :: x7 :: x8 :: x9 :: x10 :: x11 :: x12 :: some (xi (a + n)) :: T) st h Po) : xl_W M rc rs pc (x0 :: x1 :: x2 :: x3 :: x4 :: x5 :: x6 :: x7 :: x8 :: x9 :: x10 :: x11 :: x12 :: some (xi a) :: T) st h Po := xz_iinc d (by rfl) hk hn kk
theorem xy_getI {ci k r : Nat} {fs : List Value} (d : xl_G M pc ci k pc2) (hh : xl_n h r = some (.inr (ci, fs))) (hf : xl_n fs k = some (xi a)) (kk : xl_W M rc rs pc2 L (xi a :: st) h Po) : xl_W M rc rs pc L (.ref r :: st) h Po := xl_get d hh hf kk
theorem xy_getR {ci k r q : Nat} {fs : List Value} (d : xl_G M pc ci k pc2) (hh : xl_n h r = some (.inr (ci, fs))) (hf : xl_n fs k = some (.ref q)) (kk : xl_W M rc rs pc2 L (.ref (r + q) :: st) h Po) : xl_W M rc rs pc L (.ref r :: st) h Po := xl_get d hh hf kk
theorem xy_put0 {ci : Nat} {v0 : Value} {fs : List Value} (d : xl_P M pc ci 0 .int pc2) (kk : xl_W M rc rs pc2 L st (.inr (ci, xi a :: fs) :: h) Po) : xl_W M rc rs pc L (xi a :: .ref 0 :: st) (.inr (ci, v0 :: fs) :: h) Po := xl_put (fs := v0 :: fs) d rfl (by simp only [List.length_cons]; omega) kk
theorem xy_put1 {ci : Nat} {v0 v1 : Value} {fs : List Value} (d : xl_P M pc ci 1 .int pc2) (kk : xl_W M rc rs pc2 L st (.inr (ci, v0 :: xi a :: fs) :: h) Po) : xl_W M rc rs pc L (xi a :: .ref 0 :: st) (.inr (ci, v0 :: v1 :: fs) :: h) Po := xl_put (fs := v0 :: v1 :: fs) d rfl (by simp only [List.length_cons]; omega) kk
theorem xy_put2 {ci : Nat} {v0 v1 v2 : Value} {fs : List Value} (d : xl_P M pc ci 2 .int pc2) (kk : xl_W M rc rs pc2 L st (.inr (ci, v0 :: v1 :: xi a :: fs) :: h) Po) : xl_W M rc rs pc L (xi a :: .ref 0 :: st) (.inr (ci, v0 :: v1 :: v2 :: fs) :: h) Po := xl_put (fs := v0 :: v1 :: v2 :: fs) d rfl (by simp only [List.length_cons]; omega) kk
theorem xy_put3 {ci : Nat} {v0 v1 v2 v3 : Value} {fs : List Value} (d : xl_P M pc ci 3 .int pc2) (kk : xl_W M rc rs pc2 L st (.inr (ci, v0 :: v1 :: v2 :: xi a :: fs) :: h) Po) : xl_W M rc rs pc L (xi a :: .ref 0 :: st) (.inr (ci, v0 :: v1 :: v2 :: v3 :: fs) :: h) Po := xl_put (fs := v0 :: v1 :: v2 :: v3 :: fs) d rfl (by simp only [List.length_cons]; omega) kk
theorem xy_put4 {ci : Nat} {v0 v1 v2 v3 v4 : Value} {fs : List Value} (d : xl_P M pc ci 4 .int pc2) (kk : xl_W M rc rs pc2 L st (.inr (ci, v0 :: v1 :: v2 :: v3 :: xi a :: fs) :: h) Po) : xl_W M rc rs pc L (xi a :: .ref 0 :: st) (.inr (ci, v0 :: v1 :: v2 :: v3 :: v4 :: fs) :: h) Po := xl_put (fs := v0 :: v1 :: v2 :: v3 :: v4 :: fs) d rfl (by simp only [List.length_cons]; omega) kk
theorem xy_put5 {ci : Nat} {v0 v1 v2 v3 v4 v5 : Value} {fs : List Value} (d : xl_P M pc ci 5 .int pc2) (kk : xl_W M rc rs pc2 L st (.inr (ci, v0 :: v1 :: v2 :: v3 :: v4 :: xi a :: fs) :: h) Po) : xl_W M rc rs pc L (xi a :: .ref 0 :: st) (.inr (ci, v0 :: v1 :: v2 :: v3 :: v4 :: v5 :: fs) :: h) Po := xl_put (fs := v0 :: v1 :: v2 :: v3 :: v4 :: v5 :: fs) d rfl (by simp only [List.length_cons]; omega) kk
theorem xy_put6 {ci : Nat} {v0 v1 v2 v3 v4 v5 v6 : Value} {fs : List Value} (d : xl_P M pc ci 6 .int pc2) (kk : xl_W M rc rs pc2 L st (.inr (ci, v0 :: v1 :: v2 :: v3 :: v4 :: v5 :: xi a :: fs) :: h) Po) : xl_W M rc rs pc L (xi a :: .ref 0 :: st) (.inr (ci, v0 :: v1 :: v2 :: v3 :: v4 :: v5 :: v6 :: fs) :: h) Po := xl_put (fs := v0 :: v1 :: v2 :: v3 :: v4 :: v5 :: v6 :: fs) d rfl (by simp only [List.length_cons]; omega) kk
theorem xy_put7 {ci : Nat} {v0 v1 v2 v3 v4 v5 v6 v7 : Value} {fs : List Value} (d : xl_P M pc ci 7 .int pc2) (kk : xl_W M rc rs pc2 L st (.inr (ci, v0 :: v1 :: v2 :: v3 :: v4 :: v5 :: v6 :: xi a :: fs) :: h) Po) : xl_W M rc rs pc L (xi a :: .ref 0 :: st) (.inr (ci, v0 :: v1 :: v2 :: v3 :: v4 :: v5 :: v6 :: v7 :: fs) :: h) Po := xl_put (fs := v0 :: v1 :: v2 :: v3 :: v4 :: v5 :: v6 :: v7 :: fs) d rfl (by simp only [List.length_cons]; omega) kk
theorem xy_put8 {ci : Nat} {v0 v1 v2 v3 v4 v5 v6 v7 v8 : Value} {fs : List Value} (d : xl_P M pc ci 8 .int pc2) (kk : xl_W M rc rs pc2 L st (.inr (ci, v0 :: v1 :: v2 :: v3 :: v4 :: v5 :: v6 :: v7 :: xi a :: fs) :: h) Po) : xl_W M rc rs pc L (xi a :: .ref 0 :: st) (.inr (ci, v0 :: v1 :: v2 :: v3 :: v4 :: v5 :: v6 :: v7 :: v8 :: fs) :: h) Po := xl_put (fs := v0 :: v1 :: v2 :: v3 :: v4 :: v5 :: v6 :: v7 :: v8 :: fs) d rfl (by simp only [List.length_cons]; omega) kk
theorem xy_put9 {ci : Nat} {v0 v1 v2 v3 v4 v5 v6 v7 v8 v9 : Value} {fs : List Value} (d : xl_P M pc ci 9 .int pc2) (kk : xl_W M rc rs pc2 L st (.inr (ci, v0 :: v1 :: v2 :: v3 :: v4 :: v5 :: v6 :: v7 :: v8 :: xi a :: fs) :: h) Po) : xl_W M rc rs pc L (xi a :: .ref 0 :: st) (.inr (ci, v0 :: v1 :: v2 :: v3 :: v4 :: v5 :: v6 :: v7 :: v8 :: v9 :: fs) :: h) Po := xl_put (fs := v0 :: v1 :: v2 :: v3 :: v4 :: v5 :: v6 :: v7 :: v8 :: v9 :: fs) d rfl (by simp only [List.length_cons]; omega) kk
theorem xy_put10 {ci : Nat} {v0 v1 v2 v3 v4 v5 v6 v7 v8 v9 v10 : Value} {fs : List Value} (d : xl_P M pc ci 10 .int pc2) (kk : xl_W M rc rs pc2 L st (.inr (ci, v0 :: v1 :: v2 :: v3 :: v4 :: v5 :: v6 :: v7 :: v8 :: v9 :: xi a :: fs) :: h) Po) : xl_W M rc rs pc L (xi a :: .ref 0 :: st) (.inr (ci, v0 :: v1 :: v2 :: v3 :: v4 :: v5 :: v6 :: v7 :: v8 :: v9 :: v10 :: fs) :: h) Po := xl_put (fs := v0 :: v1 :: v2 :: v3 :: v4 :: v5 :: v6 :: v7 :: v8 :: v9 :: v10 :: fs) d rfl (by simp only [List.length_cons]; omega) kk
theorem xy_put11 {ci : Nat} {v0 v1 v2 v3 v4 v5 v6 v7 v8 v9 v10 v11 : Value} {fs : List Value} (d : xl_P M pc ci 11 .int pc2) (kk : xl_W M rc rs pc2 L st (.inr (ci, v0 :: v1 :: v2 :: v3 :: v4 :: v5 :: v6 :: v7 :: v8 :: v9 :: v10 :: xi a :: fs) :: h) Po) : xl_W M rc rs pc L (xi a :: .ref 0 :: st) (.inr (ci, v0 :: v1 :: v2 :: v3 :: v4 :: v5 :: v6 :: v7 :: v8 :: v9 :: v10 :: v11 :: fs) :: h) Po := xl_put (fs := v0 :: v1 :: v2 :: v3 :: v4 :: v5 :: v6 :: v7 :: v8 :: v9 :: v10 :: v11 :: fs) d rfl (by simp only [List.length_cons]; omega) kk
theorem xy_put12 {ci : Nat} {v0 v1 v2 v3 v4 v5 v6 v7 v8 v9 v10 v11 v12 : Value} {fs : List Value} (d : xl_P M pc ci 12 .int pc2) (kk : xl_W M rc rs pc2 L st (.inr (ci, v0 :: v1 :: v2 :: v3 :: v4 :: v5 :: v6 :: v7 :: v8 :: v9 :: v10 :: v11 :: xi a :: fs) :: h) Po) : xl_W M rc rs pc L (xi a :: .ref 0 :: st) (.inr (ci, v0 :: v1 :: v2 :: v3 :: v4 :: v5 :: v6 :: v7 :: v8 :: v9 :: v10 :: v11 :: v12 :: fs) :: h) Po := xl_put (fs := v0 :: v1 :: v2 :: v3 :: v4 :: v5 :: v6 :: v7 :: v8 :: v9 :: v10 :: v11 :: v12 :: fs) d rfl (by simp only [List.length_cons]; omega) kk
theorem xy_put13 {ci : Nat} {v0 v1 v2 v3 v4 v5 v6 v7 v8 v9 v10 v11 v12 v13 : Value} {fs : List Value} (d : xl_P M pc ci 13 .int pc2) (kk : xl_W M rc rs pc2 L st (.inr (ci, v0 :: v1 :: v2 :: v3 :: v4 :: v5 :: v6 :: v7 :: v8 :: v9 :: v10 :: v11 :: v12 :: xi a :: fs) :: h) Po) : xl_W M rc rs pc L (xi a :: .ref 0 :: st) (.inr (ci, v0 :: v1 :: v2 :: v3 :: v4 :: v5 :: v6 :: v7 :: v8 :: v9 :: v10 :: v11 :: v12 :: v13 :: fs) :: h) Po := xl_put (fs := v0 :: v1 :: v2 :: v3 :: v4 :: v5 :: v6 :: v7 :: v8 :: v9 :: v10 :: v11 :: v12 :: v13 :: fs) d rfl (by simp only [List.length_cons]; omega) kk
theorem xy_put14 {ci : Nat} {v0 v1 v2 v3 v4 v5 v6 v7 v8 v9 v10 v11 v12 v13 v14 : Value} {fs : List Value} (d : xl_P M pc ci 14 .int pc2) (kk : xl_W M rc rs pc2 L st (.inr (ci, v0 :: v1 :: v2 :: v3 :: v4 :: v5 :: v6 :: v7 :: v8 :: v9 :: v10 :: v11 :: v12 :: v13 :: xi a :: fs) :: h) Po) : xl_W M rc rs pc L (xi a :: .ref 0 :: st) (.inr (ci, v0 :: v1 :: v2 :: v3 :: v4 :: v5 :: v6 :: v7 :: v8 :: v9 :: v10 :: v11 :: v12 :: v13 :: v14 :: fs) :: h) Po := xl_put (fs := v0 :: v1 :: v2 :: v3 :: v4 :: v5 :: v6 :: v7 :: v8 :: v9 :: v10 :: v11 :: v12 :: v13 :: v14 :: fs) d rfl (by simp only [List.length_cons]; omega) kk
theorem xy_put15 {ci : Nat} {v0 v1 v2 v3 v4 v5 v6 v7 v8 v9 v10 v11 v12 v13 v14 v15 : Value} {fs : List Value} (d : xl_P M pc ci 15 .int pc2) (kk : xl_W M rc rs pc2 L st (.inr (ci, v0 :: v1 :: v2 :: v3 :: v4 :: v5 :: v6 :: v7 :: v8 :: v9 :: v10 :: v11 :: v12 :: v13 :: v14 :: xi a :: fs) :: h) Po) : xl_W M rc rs pc L (xi a :: .ref 0 :: st) (.inr (ci, v0 :: v1 :: v2 :: v3 :: v4 :: v5 :: v6 :: v7 :: v8 :: v9 :: v10 :: v11 :: v12 :: v13 :: v14 :: v15 :: fs) :: h) Po := xl_put (fs := v0 :: v1 :: v2 :: v3 :: v4 :: v5 :: v6 :: v7 :: v8 :: v9 :: v10 :: v11 :: v12 :: v13 :: v14 :: v15 :: fs) d rfl (by simp only [List.length_cons]; omega) kk
theorem xy_put16 {ci : Nat} {v0 v1 v2 v3 v4 v5 v6 v7 v8 v9 v10 v11 v12 v13 v14 v15 v16 : Value} {fs : List Value} (d : xl_P M pc ci 16 .int pc2) (kk : xl_W M rc rs pc2 L st (.inr (ci, v0 :: v1 :: v2 :: v3 :: v4 :: v5 :: v6 :: v7 :: v8 :: v9 :: v10 :: v11 :: v12 :: v13 :: v14 :: v15 :: xi a :: fs) :: h) Po) : xl_W M rc rs pc L (xi a :: .ref 0 :: st) (.inr (ci, v0 :: v1 :: v2 :: v3 :: v4 :: v5 :: v6 :: v7 :: v8 :: v9 :: v10 :: v11 :: v12 :: v13 :: v14 :: v15 :: v16 :: fs) :: h) Po := xl_put (fs := v0 :: v1 :: v2 :: v3 :: v4 :: v5 :: v6 :: v7 :: v8 :: v9 :: v10 :: v11 :: v12 :: v13 :: v14 :: v15 :: v16 :: fs) d rfl (by simp only [List.length_cons]; omega) kk
theorem xy_put17 {ci : Nat} {v0 v1 v2 v3 v4 v5 v6 v7 v8 v9 v10 v11 v12 v13 v14 v15 v16 v17 : Value} {fs : List Value} (d : xl_P M pc ci 17 .int pc2) (kk : xl_W M rc rs pc2 L st (.inr (ci, v0 :: v1 :: v2 :: v3 :: v4 :: v5 :: v6 :: v7 :: v8 :: v9 :: v10 :: v11 :: v12 :: v13 :: v14 :: v15 :: v16 :: xi a :: fs) :: h) Po) : xl_W M rc rs pc L (xi a :: .ref 0 :: st) (.inr (ci, v0 :: v1 :: v2 :: v3 :: v4 :: v5 :: v6 :: v7 :: v8 :: v9 :: v10 :: v11 :: v12 :: v13 :: v14 :: v15 :: v16 :: v17 :: fs) :: h) Po := xl_put (fs := v0 :: v1 :: v2 :: v3 :: v4 :: v5 :: v6 :: v7 :: v8 :: v9 :: v10 :: v11 :: v12 :: v13 :: v14 :: v15 :: v16 :: v17 :: fs) d rfl (by simp only [List.length_cons]; omega) kk
theorem xy_put18 {ci : Nat} {v0 v1 v2 v3 v4 v5 v6 v7 v8 v9 v10 v11 v12 v13 v14 v15 v16 v17 v18 : Value} {fs : List Value} (d : xl_P M pc ci 18 .int pc2) (kk : xl_W M rc rs pc2 L st (.inr (ci, v0 :: v1 :: v2 :: v3 :: v4 :: v5 :: v6 :: v7 :: v8 :: v9 :: v10 :: v11 :: v12 :: v13 :: v14 :: v15 :: v16 :: v17 :: xi a :: fs) :: h) Po) : xl_W M rc rs pc L (xi a :: .ref 0 :: st) (.inr (ci, v0 :: v1 :: v2 :: v3 :: v4 :: v5 :: v6 :: v7 :: v8 :: v9 :: v10 :: v11 :: v12 :: v13 :: v14 :: v15 :: v16 :: v17 :: v18 :: fs) :: h) Po := xl_put (fs := v0 :: v1 :: v2 :: v3 :: v4 :: v5 :: v6 :: v7 :: v8 :: v9 :: v10 :: v11 :: v12 :: v13 :: v14 :: v15 :: v16 :: v17 :: v18 :: fs) d rfl (by simp only [List.length_cons]; omega) kk
theorem xy_put19 {ci : Nat} {v0 v1 v2 v3 v4 v5 v6 v7 v8 v9 v10 v11 v12 v13 v14 v15 v16 v17 v18 v19 : Value} {fs : List Value} (d : xl_P M pc ci 19 .int pc2) (kk : xl_W M rc rs pc2 L st (.inr (ci, v0 :: v1 :: v2 :: v3 :: v4 :: v5 :: v6 :: v7 :: v8 :: v9 :: v10 :: v11 :: v12 :: v13 :: v14 :: v15 :: v16 :: v17 :: v18 :: xi a :: fs) :: h) Po) : xl_W M rc rs pc L (xi a :: .ref 0 :: st) (.inr (ci, v0 :: v1 :: v2 :: v3 :: v4 :: v5 :: v6 :: v7 :: v8 :: v9 :: v10 :: v11 :: v12 :: v13 :: v14 :: v15 :: v16 :: v17 :: v18 :: v19 :: fs) :: h) Po := xl_put (fs := v0 :: v1 :: v2 :: v3 :: v4 :: v5 :: v6 :: v7 :: v8 :: v9 :: v10 :: v11 :: v12 :: v13 :: v14 :: v15 :: v16 :: v17 :: v18 :: v19 :: fs) d rfl (by simp only [List.length_cons]; omega) kk
theorem xy_put20 {ci : Nat} {v0 v1 v2 v3 v4 v5 v6 v7 v8 v9 v10 v11 v12 v13 v14 v15 v16 v17 v18 v19 v20 : Value} {fs : List Value} (d : xl_P M pc ci 20 .int pc2) (kk : xl_W M rc rs pc2 L st (.inr (ci, v0 :: v1 :: v2 :: v3 :: v4 :: v5 :: v6 :: v7 :: v8 :: v9 :: v10 :: v11 :: v12 :: v13 :: v14 :: v15 :: v16 :: v17 :: v18 :: v19 :: xi a :: fs) :: h) Po) : xl_W M rc rs pc L (xi a :: .ref 0 :: st) (.inr (ci, v0 :: v1 :: v2 :: v3 :: v4 :: v5 :: v6 :: v7 :: v8 :: v9 :: v10 :: v11 :: v12 :: v13 :: v14 :: v15 :: v16 :: v17 :: v18 :: v19 :: v20 :: fs) :: h) Po := xl_put (fs := v0 :: v1 :: v2 :: v3 :: v4 :: v5 :: v6 :: v7 :: v8 :: v9 :: v10 :: v11 :: v12 :: v13 :: v14 :: v15 :: v16 :: v17 :: v18 :: v19 :: v20 :: fs) d rfl (by simp only [List.length_cons]; omega) kk
theorem xy_put21 {ci : Nat} {v0 v1 v2 v3 v4 v5 v6 v7 v8 v9 v10 v11 v12 v13 v14 v15 v16 v17 v18 v19 v20 v21 : Value} {fs : List Value} (d : xl_P M pc ci 21 .int pc2) (kk : xl_W M rc rs pc2 L st (.inr (ci, v0 :: v1 :: v2 :: v3 :: v4 :: v5 :: v6 :: v7 :: v8 :: v9 :: v10 :: v11 :: v12 :: v13 :: v14 :: v15 :: v16 :: v17 :: v18 :: v19 :: v20 :: xi a :: fs) :: h) Po) : xl_W M rc rs pc L (xi a :: .ref 0 :: st) (.inr (ci, v0 :: v1 :: v2 :: v3 :: v4 :: v5 :: v6 :: v7 :: v8 :: v9 :: v10 :: v11 :: v12 :: v13 :: v14 :: v15 :: v16 :: v17 :: v18 :: v19 :: v20 :: v21 :: fs) :: h) Po := xl_put (fs := v0 :: v1 :: v2 :: v3 :: v4 :: v5 :: v6 :: v7 :: v8 :: v9 :: v10 :: v11 :: v12 :: v13 :: v14 :: v15 :: v16 :: v17 :: v18 :: v19 :: v20 :: v21 :: fs) d rfl (by simp only [List.length_cons]; omega) kk
theorem xy_put22 {ci : Nat} {v0 v1 v2 v3 v4 v5 v6 v7 v8 v9 v10 v11 v12 v13 v14 v15 v16 v17 v18 v19 v20 v21 v22 : Value} {fs : List Value} (d : xl_P M pc ci 22 .int pc2) (kk : xl_W M rc rs pc2 L st (.inr (ci, v0 :: v1 :: v2 :: v3 :: v4 :: v5 :: v6 :: v7 :: v8 :: v9 :: v10 :: v11 :: v12 :: v13 :: v14 :: v15 :: v16 :: v17 :: v18 :: v19 :: v20 :: v21 :: xi a :: fs) :: h) Po) : xl_W M rc rs pc L (xi a :: .ref 0 :: st) (.inr (ci, v0 :: v1 :: v2 :: v3 :: v4 :: v5 :: v6 :: v7 :: v8 :: v9 :: v10 :: v11 :: v12 :: v13 :: v14 :: v15 :: v16 :: v17 :: v18 :: v19 :: v20 :: v21 :: v22 :: fs) :: h) Po := xl_put (fs := v0 :: v1 :: v2 :: v3 :: v4 :: v5 :: v6 :: v7 :: v8 :: v9 :: v10 :: v11 :: v12 :: v13 :: v14 :: v15 :: v16 :: v17 :: v18 :: v19 :: v20 :: v21 :: v22 :: fs) d rfl (by simp only [List.length_cons]; omega) kk
end XY
end
-- 057.js
section
/-! ===== String: the methods of the JDK that are used, by program ===== -/
def mJ0_coder_7d493 : XI := (yJ0_coder_7d493, cJ0_coder_7d493, 1, (some .byte), 0, 0, 0)
theorem kJ0_coder_7d493 : xl_K mJ0_coder_7d493 := ⟨by decide +kernel, (wc_t2 164 rfl rfl), xl_iJ0, by decide +kernel, by decide +kernel, by decide +kernel⟩
theorem vJ0_coder_7d493 : xl_V mJ0_coder_7d493 := ⟨kJ0_coder_7d493, (wc_t2 162 rfl rfl), (wc_t2 163 rfl rfl)⟩
def mJ0_isLatin1_aae02 : XI := (yJ0_isLatin1_aae02, cJ0_isLatin1_aae02, 1, (some .boolean), 0, 0, 0)
theorem kJ0_isLatin1_aae02 : xl_K mJ0_isLatin1_aae02 := ⟨by decide +kernel, (wc_t2 178 rfl rfl), xl_iJ0, by decide +kernel, by decide +kernel, by decide +kernel⟩
theorem vJ0_isLatin1_aae02 : xl_V mJ0_isLatin1_aae02 := ⟨kJ0_isLatin1_aae02, (wc_t2 176 rfl rfl), (wc_t2 177 rfl rfl)⟩
def mJ0_length_8abf5 : XI := (yJ0_length_8abf5, cJ0_length_8abf5, 1, (some .int), 1, 20, 0)
theorem kJ0_length_8abf5 : xl_K mJ0_length_8abf5 := ⟨by decide +kernel, (wc_t2 160 rfl rfl), xl_iJ0, by decide +kernel, by decide +kernel, by decide +kernel⟩
theorem vJ0_length_8abf5 : xl_V mJ0_length_8abf5 := ⟨kJ0_length_8abf5, (wc_t2 158 rfl rfl), (wc_t2 159 rfl rfl)⟩
def mJ0_isEmpty_aae02 : XI := (yJ0_isEmpty_aae02, cJ0_isEmpty_aae02, 1, (some .boolean), 0, 0, 0)
theorem kJ0_isEmpty_aae02 : xl_K mJ0_isEmpty_aae02 := ⟨by decide +kernel, (wc_t3 157 rfl rfl), xl_iJ0, by decide +kernel, by decide +kernel, by decide +kernel⟩
theorem vJ0_isEmpty_aae02 : xl_V mJ0_isEmpty_aae02 := ⟨kJ0_isEmpty_aae02, (wc_t3 155 rfl rfl), (wc_t3 156 rfl rfl)⟩
def mJ3_checkIndex_8e157 : XI := (yJ3_checkIndex_8e157, cJ3_checkIndex_8e157, 3, (some .int), 0, 0, 3)
theorem kJ3_checkIndex_8e157 : xl_K mJ3_checkIndex_8e157 := ⟨by decide +kernel, (wc_t2 189 rfl rfl), xl_iJ3, by decide +kernel, by decide +kernel, by decide +kernel⟩
theorem vJ3_checkIndex_8e157 : xl_U mJ3_checkIndex_8e157 := ⟨kJ3_checkIndex_8e157, (wc_t2 188 rfl rfl)⟩
def mJ0_checkIndex_df160 : XI := (yJ0_checkIndex_df160, cJ0_checkIndex_df160, 2, none, 1, 22, 2)
theorem kJ0_checkIndex_df160 : xl_K mJ0_checkIndex_df160 := ⟨by decide +kernel, (wc_t2 184 rfl rfl), xl_iJ0, by decide +kernel, by decide +kernel, by decide +kernel⟩
theorem vJ0_checkIndex_df160 : xl_U mJ0_checkIndex_df160 := ⟨kJ0_checkIndex_df160, (wc_t2 183 rfl rfl)⟩
def mJ1_charAt_3b067 : XI := (yJ1_charAt_3b067, cJ1_charAt_3b067, 2, (some .char), 2, 43, 2)
theorem kJ1_charAt_3b067 : xl_K mJ1_charAt_3b067 := ⟨by decide +kernel, (wc_t2 181 rfl rfl), xl_iJ1, by decide +kernel, by decide +kernel, by decide +kernel⟩
theorem vJ1_charAt_3b067 : xl_U mJ1_charAt_3b067 := ⟨kJ1_charAt_3b067, (wc_t2 180 rfl rfl)⟩
def mJ0_charAt_5068e : XI := (yJ0_charAt_5068e, cJ0_charAt_5068e, 2, (some .char), 4, 85, 1)
theorem kJ0_charAt_5068e : xl_K mJ0_charAt_5068e := ⟨by decide +kernel, (wc_t2 174 rfl rfl), xl_iJ0, by decide +kernel, by decide +kernel, by decide +kernel⟩
theorem vJ0_charAt_5068e : xl_V mJ0_charAt_5068e := ⟨kJ0_charAt_5068e, (wc_t2 172 rfl rfl), (wc_t2 173 rfl rfl)⟩
theorem lJ0_335 : Cond.methodLink RJ0 335 yJ0_coder_7d493 ∈ xl_T := (wc_t2 161 rfl rfl)
theorem lJ0_492 : Cond.methodLink RJ0 492 yJ0_isLatin1_aae02 ∈ xl_T := (wc_t2 175 rfl rfl)
theorem lJ0_495 : Cond.methodLink RJ0 495 yJ1_charAt_3b067 ∈ xl_T := (wc_t2 179 rfl rfl)
theorem lJ0_1059 : Cond.methodLink RJ0 1059 yJ3_checkIndex_8e157 ∈ xl_T := (wc_t2 187 rfl rfl)
theorem lJ1_9 : Cond.methodLink RJ1 9 yJ0_checkIndex_df160 ∈ xl_T := (wc_t2 182 rfl rfl)
theorem fJ0_9 : Cond.fieldLink RJ0 9 "java/lang/String" "value" "[B" ∈ xl_T := (wc_t6 45 rfl rfl)
theorem fJ0_15 : Cond.fieldLink RJ0 15 "java/lang/String" "coder" "B" ∈ xl_T := (wc_t6 46 rfl rfl)
theorem fJ0_38 : Cond.fieldLink RJ0 38 "java/lang/String" "COMPACT_STRINGS" "Z" ∈ xl_T := (wc_t2 165 rfl rfl)
theorem fJ0_1053 : Cond.fieldLink RJ0 1053 "jdk/internal/util/Preconditions" "SIOOBE_FORMATTER" "Ljava/util/function/BiFunction;" ∈ xl_T := (wc_t2 185 rfl rfl)
theorem iJ0_coder_7d493_0 : xl_D mJ0_coder_7d493 0 (.getstatic 38) 3 3 := ⟨zd zq_730 (by decide +kernel), rfl⟩
theorem iJ0_coder_7d493_3 : xl_J mJ0_coder_7d493 3 (fun o => .ifCond .eq o) 6 13 := ⟨10, zd zq_292 (by decide +kernel), rfl, rfl⟩
theorem iJ0_coder_7d493_6 : xl_D mJ0_coder_7d493 6 (.aload_n 0) 1 7 := ⟨zd zq_0 (by decide +kernel), rfl⟩
theorem iJ0_coder_7d493_7 : xl_D mJ0_coder_7d493 7 (.getfield 15) 3 10 := ⟨zd zq_731 (by decide +kernel), rfl⟩
theorem iJ0_coder_7d493_10 : xl_J mJ0_coder_7d493 10 (fun o => .goto o) 13 14 := ⟨4, zd zq_139 (by decide +kernel), rfl, rfl⟩
theorem iJ0_coder_7d493_13 : xl_D mJ0_coder_7d493 13 (.iconst 1) 1 14 := ⟨zd zq_36 (by decide +kernel), rfl⟩
theorem iJ0_coder_7d493_14 : xl_D mJ0_coder_7d493 14 (.ireturn) 1 15 := ⟨zd zq_17 (by decide +kernel), rfl⟩
theorem iJ0_isLatin1_aae02_0 : xl_D mJ0_isLatin1_aae02 0 (.getstatic 38) 3 3 := ⟨zd zq_730 (by decide +kernel), rfl⟩
theorem iJ0_isLatin1_aae02_3 : xl_J mJ0_isLatin1_aae02 3 (fun o => .ifCond .eq o) 6 17 := ⟨14, zd zq_251 (by decide +kernel), rfl, rfl⟩
theorem iJ0_isLatin1_aae02_6 : xl_D mJ0_isLatin1_aae02 6 (.aload_n 0) 1 7 := ⟨zd zq_0 (by decide +kernel), rfl⟩
theorem iJ0_isLatin1_aae02_7 : xl_D mJ0_isLatin1_aae02 7 (.getfield 15) 3 10 := ⟨zd zq_731 (by decide +kernel), rfl⟩
theorem iJ0_isLatin1_aae02_10 : xl_J mJ0_isLatin1_aae02 10 (fun o => .ifCond .ne o) 13 17 := ⟨7, zd zq_192 (by decide +kernel), rfl, rfl⟩
theorem iJ0_isLatin1_aae02_13 : xl_D mJ0_isLatin1_aae02 13 (.iconst 1) 1 14 := ⟨zd zq_36 (by decide +kernel), rfl⟩
theorem iJ0_isLatin1_aae02_14 : xl_J mJ0_isLatin1_aae02 14 (fun o => .goto o) 17 18 := ⟨4, zd zq_139 (by decide +kernel), rfl, rfl⟩
theorem iJ0_isLatin1_aae02_17 : xl_D mJ0_isLatin1_aae02 17 (.iconst 0) 1 18 := ⟨zd zq_2 (by decide +kernel), rfl⟩
theorem iJ0_isLatin1_aae02_18 : xl_D mJ0_isLatin1_aae02 18 (.ireturn) 1 19 := ⟨zd zq_17 (by decide +kernel), rfl⟩
theorem iJ0_length_8abf5_0 : xl_D mJ0_length_8abf5 0 (.aload_n 0) 1 1 := ⟨zd zq_0 (by decide +kernel), rfl⟩
theorem iJ0_length_8abf5_1 : xl_D mJ0_length_8abf5 1 (.getfield 9) 3 4 := ⟨zd zq_725 (by decide +kernel), rfl⟩
theorem iJ0_length_8abf5_4 : xl_D mJ0_length_8abf5 4 (.arraylength) 1 5 := ⟨zd zq_58 (by decide +kernel), rfl⟩
theorem iJ0_length_8abf5_5 : xl_D mJ0_length_8abf5 5 (.aload_n 0) 1 6 := ⟨zd zq_0 (by decide +kernel), rfl⟩
theorem iJ0_length_8abf5_6 : xl_Ca mJ0_length_8abf5 6 mJ0_coder_7d493 9 := ⟨335, zd zq_726 (by decide +kernel), rfl, lJ0_335, Nat.le_of_ble_eq_true rfl, Nat.le_of_ble_eq_true rfl⟩
theorem iJ0_length_8abf5_9 : xl_D mJ0_length_8abf5 9 (.ishr) 1 10 := ⟨zd zq_505 (by decide +kernel), rfl⟩
theorem iJ0_length_8abf5_10 : xl_D mJ0_length_8abf5 10 (.ireturn) 1 11 := ⟨zd zq_17 (by decide +kernel), rfl⟩
theorem iJ0_isEmpty_aae02_0 : xl_D mJ0_isEmpty_aae02 0 (.aload_n 0) 1 1 := ⟨zd zq_0 (by decide +kernel), rfl⟩
theorem iJ0_isEmpty_aae02_1 : xl_D mJ0_isEmpty_aae02 1 (.getfield 9) 3 4 := ⟨zd zq_725 (by decide +kernel), rfl⟩
theorem iJ0_isEmpty_aae02_4 : xl_D mJ0_isEmpty_aae02 4 (.arraylength) 1 5 := ⟨zd zq_58 (by decide +kernel), rfl⟩
theorem iJ0_isEmpty_aae02_5 : xl_J mJ0_isEmpty_aae02 5 (fun o => .ifCond .ne o) 8 12 := ⟨7, zd zq_192 (by decide +kernel), rfl, rfl⟩
theorem iJ0_isEmpty_aae02_8 : xl_D mJ0_isEmpty_aae02 8 (.iconst 1) 1 9 := ⟨zd zq_36 (by decide +kernel), rfl⟩
theorem iJ0_isEmpty_aae02_9 : xl_J mJ0_isEmpty_aae02 9 (fun o => .goto o) 12 13 := ⟨4, zd zq_139 (by decide +kernel), rfl, rfl⟩
theorem iJ0_isEmpty_aae02_12 : xl_D mJ0_isEmpty_aae02 12 (.iconst 0) 1 13 := ⟨zd zq_2 (by decide +kernel), rfl⟩
theorem iJ0_isEmpty_aae02_13 : xl_D mJ0_isEmpty_aae02 13 (.ireturn) 1 14 := ⟨zd zq_17 (by decide +kernel), rfl⟩
theorem iJ3_checkIndex_8e157_0 : xl_D mJ3_checkIndex_8e157 0 (.iload_n 0) 1 1 := ⟨zd zq_415 (by decide +kernel), rfl⟩
theorem iJ3_checkIndex_8e157_1 : xl_J mJ3_checkIndex_8e157 1 (fun o => .ifCond .lt o) 4 9 := ⟨8, zd zq_174 (by decide +kernel), rfl, rfl⟩
theorem iJ3_checkIndex_8e157_4 : xl_D mJ3_checkIndex_8e157 4 (.iload_n 0) 1 5 := ⟨zd zq_415 (by decide +kernel), rfl⟩
theorem iJ3_checkIndex_8e157_5 : xl_D mJ3_checkIndex_8e157 5 (.iload_n 1) 1 6 := ⟨zd zq_3 (by decide +kernel), rfl⟩
theorem iJ3_checkIndex_8e157_6 : xl_J mJ3_checkIndex_8e157 6 (fun o => .if_icmp .lt o) 9 16 := ⟨10, zd zq_746 (by decide +kernel), rfl, rfl⟩
theorem iJ3_checkIndex_8e157_9 : xl_D mJ3_checkIndex_8e157 9 (.aload_n 2) 1 10 := ⟨zd zq_48 (by decide +kernel), rfl⟩
theorem iJ3_checkIndex_8e157_10 : xl_D mJ3_checkIndex_8e157 10 (.iload_n 0) 1 11 := ⟨zd zq_415 (by decide +kernel), rfl⟩
theorem iJ3_checkIndex_8e157_11 : xl_D mJ3_checkIndex_8e157 11 (.iload_n 1) 1 12 := ⟨zd zq_3 (by decide +kernel), rfl⟩
theorem iJ3_checkIndex_8e157_15 : xl_D mJ3_checkIndex_8e157 15 (.athrow) 1 16 := ⟨zd zq_284 (by decide +kernel), rfl⟩
theorem iJ3_checkIndex_8e157_16 : xl_D mJ3_checkIndex_8e157 16 (.iload_n 0) 1 17 := ⟨zd zq_415 (by decide +kernel), rfl⟩
theorem iJ3_checkIndex_8e157_17 : xl_D mJ3_checkIndex_8e157 17 (.ireturn) 1 18 := ⟨zd zq_17 (by decide +kernel), rfl⟩
theorem iJ0_checkIndex_df160_0 : xl_D mJ0_checkIndex_df160 0 (.iload_n 0) 1 1 := ⟨zd zq_415 (by decide +kernel), rfl⟩
theorem iJ0_checkIndex_df160_1 : xl_D mJ0_checkIndex_df160 1 (.iload_n 1) 1 2 := ⟨zd zq_3 (by decide +kernel), rfl⟩
theorem iJ0_checkIndex_df160_2 : xl_D mJ0_checkIndex_df160 2 (.getstatic 1053) 3 5 := ⟨zd zq_732 (by decide +kernel), rfl⟩
theorem iJ0_checkIndex_df160_5 : xl_Cs mJ0_checkIndex_df160 5 mJ3_checkIndex_8e157 8 := ⟨1059, zd zq_733 (by decide +kernel), rfl, lJ0_1059, Nat.le_of_ble_eq_true rfl, Nat.le_of_ble_eq_true rfl⟩
theorem iJ0_checkIndex_df160_8 : xl_D mJ0_checkIndex_df160 8 (.pop) 1 9 := ⟨zd zq_95 (by decide +kernel), rfl⟩
theorem iJ0_checkIndex_df160_9 : xl_D mJ0_checkIndex_df160 9 (.return_) 1 10 := ⟨zd zq_12 (by decide +kernel), rfl⟩
theorem iJ1_charAt_3b067_0 : xl_D mJ1_charAt_3b067 0 (.iload_n 1) 1 1 := ⟨zd zq_3 (by decide +kernel), rfl⟩
theorem iJ1_charAt_3b067_1 : xl_D mJ1_charAt_3b067 1 (.aload_n 0) 1 2 := ⟨zd zq_0 (by decide +kernel), rfl⟩
theorem iJ1_charAt_3b067_2 : xl_D mJ1_charAt_3b067 2 (.arraylength) 1 3 := ⟨zd zq_58 (by decide +kernel), rfl⟩
theorem iJ1_charAt_3b067_3 : xl_Cs mJ1_charAt_3b067 3 mJ0_checkIndex_df160 6 := ⟨9, zd zq_734 (by decide +kernel), rfl, lJ1_9, Nat.le_of_ble_eq_true rfl, Nat.le_of_ble_eq_true rfl⟩
theorem iJ1_charAt_3b067_6 : xl_D mJ1_charAt_3b067 6 (.aload_n 0) 1 7 := ⟨zd zq_0 (by decide +kernel), rfl⟩
theorem iJ1_charAt_3b067_7 : xl_D mJ1_charAt_3b067 7 (.iload_n 1) 1 8 := ⟨zd zq_3 (by decide +kernel), rfl⟩
theorem iJ1_charAt_3b067_8 : xl_D mJ1_charAt_3b067 8 (.baload) 1 9 := ⟨zd zq_724 (by decide +kernel), rfl⟩
theorem iJ1_charAt_3b067_9 : xl_D mJ1_charAt_3b067 9 (.sipush 255) 3 12 := ⟨zd zq_239 (by decide +kernel), rfl⟩
theorem iJ1_charAt_3b067_12 : xl_D mJ1_charAt_3b067 12 (.iand) 1 13 := ⟨zd zq_240 (by decide +kernel), rfl⟩
theorem iJ1_charAt_3b067_13 : xl_D mJ1_charAt_3b067 13 (.i2c) 1 14 := ⟨zd zq_735 (by decide +kernel), rfl⟩
theorem iJ1_charAt_3b067_14 : xl_D mJ1_charAt_3b067 14 (.ireturn) 1 15 := ⟨zd zq_17 (by decide +kernel), rfl⟩
theorem iJ0_charAt_5068e_0 : xl_D mJ0_charAt_5068e 0 (.aload_n 0) 1 1 := ⟨zd zq_0 (by decide +kernel), rfl⟩
theorem iJ0_charAt_5068e_1 : xl_Ca mJ0_charAt_5068e 1 mJ0_isLatin1_aae02 4 := ⟨492, zd zq_727 (by decide +kernel), rfl, lJ0_492, Nat.le_of_ble_eq_true rfl, Nat.le_of_ble_eq_true rfl⟩
theorem iJ0_charAt_5068e_4 : xl_J mJ0_charAt_5068e 4 (fun o => .ifCond .eq o) 7 16 := ⟨12, zd zq_170 (by decide +kernel), rfl, rfl⟩
theorem iJ0_charAt_5068e_7 : xl_D mJ0_charAt_5068e 7 (.aload_n 0) 1 8 := ⟨zd zq_0 (by decide +kernel), rfl⟩
theorem iJ0_charAt_5068e_8 : xl_D mJ0_charAt_5068e 8 (.getfield 9) 3 11 := ⟨zd zq_725 (by decide +kernel), rfl⟩
theorem iJ0_charAt_5068e_11 : xl_D mJ0_charAt_5068e 11 (.iload_n 1) 1 12 := ⟨zd zq_3 (by decide +kernel), rfl⟩
theorem iJ0_charAt_5068e_12 : xl_Cs mJ0_charAt_5068e 12 mJ1_charAt_3b067 15 := ⟨495, zd zq_728 (by decide +kernel), rfl, lJ0_495, Nat.le_of_ble_eq_true rfl, Nat.le_of_ble_eq_true rfl⟩
theorem iJ0_charAt_5068e_15 : xl_D mJ0_charAt_5068e 15 (.ireturn) 1 16 := ⟨zd zq_17 (by decide +kernel), rfl⟩
theorem iJ0_charAt_5068e_16 : xl_D mJ0_charAt_5068e 16 (.aload_n 0) 1 17 := ⟨zd zq_0 (by decide +kernel), rfl⟩
theorem iJ0_charAt_5068e_17 : xl_D mJ0_charAt_5068e 17 (.getfield 9) 3 20 := ⟨zd zq_725 (by decide +kernel), rfl⟩
theorem iJ0_charAt_5068e_20 : xl_D mJ0_charAt_5068e 20 (.iload_n 1) 1 21 := ⟨zd zq_3 (by decide +kernel), rfl⟩
theorem iJ0_charAt_5068e_24 : xl_D mJ0_charAt_5068e 24 (.ireturn) 1 25 := ⟨zd zq_17 (by decide +kernel), rfl⟩
/-! ===== String constants: what the machine does with them ===== -/
theorem xs_n {j : Nat} (hj : j < 1000) : j.toUInt32.toNat = j := by
  show (UInt32.ofNat j).toNat = j
  rw [UInt32.toNat_ofNat']
  omega
theorem xs_v {ρ σ : Nat → Nat} {j : Nat} (hj : j < 1000) : xl_v ρ σ (.float j.toUInt32) = .ref (σ j) := by
  show Value.ref (σ j.toUInt32.toNat) = _
  rw [xs_n hj]
section XS
variable {M μ : XI} {rc rs pc pc2 : Nat} {L : List (Option Value)} {st rest : List Value} {h : XH} {Po : Option (Option Value) → XH → Prop} {Po' : Option Value → XH → Prop} {j i : Nat}
theorem xl_sval (hj : j < 9) (d : xl_D M pc (.getfield i) 3 pc2) (hl : Cond.fieldLink M.1.cls i "java/lang/String" "value" "[B" ∈ xl_T) (k : xl_W M rc rs pc2 L (.float (200 + j).toUInt32 :: st) h Po) : xl_W M rc rs pc L (.float j.toUInt32 :: st) h Po := by
  obtain ⟨d, rfl⟩ := d
  intro p l e R s m args below meth c D aC ρ σ aV A H locs cells slots ls Q hX hH hL h1 h2 hr ht
  have hE := hH.2.2.2.2.1
  have := k p l e R s m args below meth c D aC ρ σ aV A H locs cells slots ls Q hX hH hL h1 h2 hr ht
  rw [List.map_cons, xs_v (by omega), hE.2.2.2.2 j hj] at this
  rw [List.map_cons, xs_v (by omega)]
  exact vk_getf hX.1 hX.2.1 (hE.1.1 j hj).2.2.1 hH.2.2.2.1 hX.2.2.2.2.1 (hX.2.2.2.2.2.1 _ hl) (fun _ h => h) d this
theorem xl_scod (hj : j < 9) (d : xl_D M pc (.getfield i) 3 pc2) (hl : Cond.fieldLink M.1.cls i "java/lang/String" "coder" "B" ∈ xl_T) (k : xl_W M rc rs pc2 L (.int 0 :: st) h Po) : xl_W M rc rs pc L (.float j.toUInt32 :: st) h Po := by
  obtain ⟨d, rfl⟩ := d
  intro p l e R s m args below meth c D aC ρ σ aV A H locs cells slots ls Q hX hH hL h1 h2 hr ht
  have hE := hH.2.2.2.2.1
  have := k p l e R s m args below meth c D aC ρ σ aV A H locs cells slots ls Q hX hH hL h1 h2 hr ht
  rw [List.map_cons, xs_v (by omega)]
  exact vk_getf hX.1 hX.2.1 (hE.1.1 j hj).2.1 hH.2.2.2.1 hX.2.2.2.2.1 (hX.2.2.2.2.2.1 _ hl) (fun _ h => h) d this
theorem xl_slen (hj : j < 9) (d : xl_D M pc .arraylength 1 pc2) (k : xl_W M rc rs pc2 L (.int (Int32.ofNat (xl_sl.getD j 0)) :: st) h Po) : xl_W M rc rs pc L (.float (200 + j).toUInt32 :: st) h Po := by
  obtain ⟨d, rfl⟩ := d
  intro p l e R s m args below meth c D aC ρ σ aV A H locs cells slots ls Q hX hH hL h1 h2 hr ht
  have hE := hH.2.2.2.2.1
  have := k p l e R s m args below meth c D aC ρ σ aV A H locs cells slots ls Q hX hH hL h1 h2 hr ht
  rw [List.map_cons, xs_v (by omega), hE.2.2.2.2 j hj]
  exact va_tlen hX.1 hX.2.1 (hE.1.1 j hj).2.2.2 hH.2.2.2.1 rfl d this
theorem xl_sbal {z : Int32} (hj : j < 9) (d : xl_D M pc .baload 1 pc2) (hin : vp_in z (xl_sl.getD j 0)) (k : xl_W M rc rs pc2 L (.int ((xl_sb.getD j []).getD z.toNatClampNeg 0) :: st) h Po) : xl_W M rc rs pc L (.int z :: .float (200 + j).toUInt32 :: st) h Po := by
  obtain ⟨d, rfl⟩ := d
  intro p l e R s m args below meth c D aC ρ σ aV A H locs cells slots ls Q hX hH hL h1 h2 hr ht
  have hE := hH.2.2.2.2.1
  have := k p l e R s m args below meth c D aC ρ σ aV A H locs cells slots ls Q hX hH hL h1 h2 hr ht
  rw [List.map_cons, List.map_cons, xs_v (by omega), hE.2.2.2.2 j hj]
  exact va_tb hX.1 hX.2.1 (hE.1.1 j hj).2.2.2 hH.2.2.2.1 hin rfl d this
theorem xl_szip (d : xl_D M pc (.getstatic i) 3 pc2) (hl : Cond.fieldLink M.1.cls i "java/lang/String" "COMPACT_STRINGS" "Z" ∈ xl_T) (k : xl_W M rc rs pc2 L (.int 1 :: st) h Po) : xl_W M rc rs pc L st h Po := by
  obtain ⟨d, rfl⟩ := d
  intro p l e R s m args below meth c D aC ρ σ aV A H locs cells slots ls Q hX hH hL h1 h2 hr ht
  have hE := hH.2.2.2.2.1
  exact va_gets hX.1 hX.2.1 hE.2.1 hH.2.2.2.1 hX.2.2.2.2.1 (hX.2.2.2.2.2.1 _ hl) (fun _ h => h) d (k p l e R s m args below meth c D aC ρ σ aV A H locs cells slots ls Q hX hH hL h1 h2 hr ht)
theorem xl_sfmt (d : xl_D M pc (.getstatic i) 3 pc2) (hl : Cond.fieldLink M.1.cls i "jdk/internal/util/Preconditions" "SIOOBE_FORMATTER" "Ljava/util/function/BiFunction;" ∈ xl_T) (kn : xl_W M rc rs pc2 L (.null :: st) h Po) (kr : xl_W M rc rs pc2 L (.float (300 : Nat).toUInt32 :: st) h Po) : xl_W M rc rs pc L st h Po := by
  obtain ⟨d, rfl⟩ := d
  intro p l e R s m args below meth c D aC ρ σ aV A H locs cells slots ls Q hX hH hL h1 h2 hr ht
  have hE := hH.2.2.2.2.1
  rcases hE.2.2.1 with hz | hz
  · exact va_gets hX.1 hX.2.1 hz hH.2.2.2.1 hX.2.2.2.2.1 (hX.2.2.2.2.2.1 _ hl) (fun _ h => h) d (kn p l e R s m args below meth c D aC ρ σ aV A H locs cells slots ls Q hX hH hL h1 h2 hr ht)
  · have := kr p l e R s m args below meth c D aC ρ σ aV A H locs cells slots ls Q hX hH hL h1 h2 hr ht
    rw [List.map_cons, xs_v (by omega)] at this
    exact va_gets hX.1 hX.2.1 hz hH.2.2.2.1 hX.2.2.2.2.1 (hX.2.2.2.2.2.1 _ hl) (fun _ h => h) d this
theorem xl_i2c {z v : Int32} (d : xl_D M pc .i2c 1 pc2) (hv : (z.toUInt32 % 65536).toInt32 = v) (k : xl_W M rc rs pc2 L (.int v :: st) h Po) : xl_W M rc rs pc L (.int z :: st) h Po := by
  obtain ⟨d, rfl⟩ := d
  exact xl_go (fun hX k => lv_i2c hX.1 hX.2.1 d hv k) k
theorem xl_creturn {a : Int32} (d : xl_D M pc .ireturn 1 pc2) (hr : M.2.2.2.1 = some .char) (h01 : narrow .char (.int a) = .int a) (hP : Po (some (some (.int a))) h) : xl_W M rc rs pc L [.int a] h Po :=
  xl_ret (v := some (.int a)) hP ⟨⟨.char, hr, h01⟩, d.1⟩
theorem xl_breturn {a : Int32} (d : xl_D M pc .ireturn 1 pc2) (hr : M.2.2.2.1 = some .byte) (h01 : narrow .byte (.int a) = .int a) (hP : Po (some (some (.int a))) h) : xl_W M rc rs pc L [.int a] h Po :=
  xl_ret (v := some (.int a)) hP ⟨⟨.byte, hr, h01⟩, d.1⟩
theorem xl_pi0 {π : Nat → Nat} : xl_pi π h [] := ⟨fun i j hi => absurd hi (Nat.not_lt_zero _), fun j hj => absurd hj (Nat.not_lt_zero _)⟩
theorem xl_back0 {π : Nat → Nat} {h' h1 : XH} (hb : xl_back π 0 h h' h1) : h1 = h := by
  apply List.ext_getElem?
  intro k
  exact hb.2.2 k (fun j hj => absurd hj (Nat.not_lt_zero _))
/-- a static method that sees no cells -/
theorem xl_sK {As : List Value} (d : xl_Cs M pc μ pc2) (hv : xl_U μ) (hst : st = As.reverse ++ rest) (hn : As.length = μ.2.2.2.2.2.2) (hw : (rest.map fun v => if xl_1 v = true then 1 else 2).sum ≤ 8) (hnr : As.all xl_nr = true)
    (hc : xl_C μ 0 0 As [] Po') (hlen : ∀ v h', Po' v h' → h' = [] ∧ ∀ a, v ≠ some (.ref a)) (kk : ∀ v, Po' v [] → xl_W M rc rs pc2 L (v.toList ++ rest) h Po) : xl_W M rc rs pc L st h Po :=
  xl_callS (mc := 0) (ms := 0) (hl := []) (fun k => k) d hv hst hn hw (fun ρ σ => rfl) xl_pi0 (fun j c q => by cases q) hc (fun v h' p => by
    obtain ⟨rfl, q⟩ := hlen v h' p
    exact ⟨rfl, fun j c e => (by cases e), q⟩) (fun v h' h1 p hb => by
    obtain ⟨rfl, -⟩ := hlen v h' p
    rw [xl_back0 hb]
    exact kk v p)
/-- a method of a String constant -/
theorem xl_callK {As : List Value} (hj : j < 9) (d : xl_Ca M pc μ pc2) (hv : xl_V μ) (hcl : μ.1.cls = "java/lang/String") (hst : st = As.reverse ++ .float j.toUInt32 :: rest) (hn : As.length = μ.2.2.2.2.2.2) (hw : (rest.map fun v => if xl_1 v = true then 1 else 2).sum ≤ 8)
    (hc : xl_C μ 0 0 (.float j.toUInt32 :: As) [] Po') (hlen : ∀ v h', Po' v h' → h' = [] ∧ ∀ a, v ≠ some (.ref a)) (kk : ∀ v, Po' v [] → xl_W M rc rs pc2 L (v.toList ++ rest) h Po) : xl_W M rc rs pc L st h Po := by
  obtain ⟨i, d, rfl, d3, d4, d5⟩ := d
  subst hst
  intro p l e R s m args below meth c D aC ρ σ aV A H locs cells slots ls Q hX hH hL h1 h2 hr ht
  obtain ⟨hK, hP, hD, hS, hE, hA⟩ := id hH
  have hp : xl_pi (fun k => k) h [] := xl_pi0
  have hok : ∀ (j : Nat) (c : XE), ([] : XH)[j]? = some c → xl_ok (fun k => k) j c := fun j c q => by cases q
  obtain ⟨g1, g2, g3⟩ := xl_part hH hp hok
  have hrecv := vk_recv hE.1 hj hS
  rw [← hcl] at hrecv
  have hcw : CallW R s args M.1.cls μ.1.cls i μ.1 μ.2.1 μ.2.2.1 μ.2.2.2.1 (xl_ws μ) (xl_rm μ 0 0) 0 0 μ.2.2.2.2.2.2 := ⟨xl_callB hX.2.2.2.2.2.1 hv.1 d3 (Nat.le_trans d4 hX.2.2.2.2.2.2.2.1) (Nat.le_trans d5 hX.2.2.2.2.2.2.2.2.1), hX.2.2.2.2.2.1 _ hv.2.1, hX.2.2.2.2.2.1 _ hv.2.2⟩
  have hrun := va_runV (As := As.map (xl_v ρ σ)) (rest := rest.map (xl_v ρ σ)) (g := F0 m pc ls ((As.reverse ++ .float j.toUInt32 :: rest).map (xl_v ρ σ))) (H := H) (locs := locs) (cells := cells) (slots := slots) (e := e) (below := below) (meth := meth) (b := σ j) (C := μ.1.cls) ⟨hX.1, hX.2.1, hX.2.2.2.1, hX.2.2.2.2.1, hX.2.2.2.2.2.1⟩ (hc l hX.2.2.2.2.2.2.2.2.2 D aC (fun k => ρ ((fun k => k) k)) σ aV H.size) hcw
    ⟨xl_blind, hrecv, fun U hU hW => xl_ready hH hp hok hU hW (by rw [List.map_cons, xs_v (by omega)])⟩ rfl (by rw [List.length_map]; exact hn) hL.1 (by simp [xs_v (σ := σ) (ρ := ρ) (show j < 1000 by omega)]) (lv_room (by rw [xl_cats]; exact hw)) d ⟨by omega, by omega⟩
  refine xl_after hrun hS (fun q _ hq => g3 q hq) g3 (fun v h' H1 locs1 hPo hP1 hD1 hz1 hk1 hS1 => ?_)
  obtain ⟨rfl, q3⟩ := hlen v h' hPo
  have hb : xl_back (fun k => k) 0 h [] h := ⟨rfl, fun j hj => absurd hj (Nat.not_lt_zero _), fun k _ => rfl⟩
  have hH1 := xl_joined hH hp hb rfl hok hP1 hk1 hS1
  have := kk v hPo p l e R s m args below meth c D aC ρ σ aV A H1 locs1 (cells + 0) (slots + 0) ls Q hX hH1 hL (by omega) (by omega) (fun v h' H' locs' pc' cells' slots' ls' a1 a2 a3 a4 a5 => hr v h' H' locs' pc' cells' slots' ls' a1 a2 a3 (by omega) (by omega)) (fun h' H' locs' pc' cells' slots' ls' a1 a2 a3 a4 a5 => ht h' H' locs' pc' cells' slots' ls' a1 a2 a3 (by omega) (by omega))
  rw [List.map_append] at this
  have ev : (v.map (xl_v (fun k => ρ ((fun k => k) k)) σ)).toList = v.toList.map (xl_v ρ σ) := by
    cases v with
    | none => rfl
    | some v => cases v <;> first | rfl | exact absurd rfl (q3 _)
  rw [ev]
  exact this
end XS
/-! ===== String: the methods, walked ===== -/
theorem xs_coder {j : Nat} (hj : j < 9) : xl_C mJ0_coder_7d493 0 0 [.float j.toUInt32] [] (fun v h' => v = some (.int 0) ∧ h' = []) := by
  refine xl_con kJ0_coder_7d493 [some (.float j.toUInt32)] rfl (Nat.le_of_ble_eq_true rfl) ?_
  refine xl_szip iJ0_coder_7d493_0 fJ0_38 (xl_if_eq iJ0_coder_7d493_3 (fun q => absurd q (by decide)) (fun _ => ?_))
  refine xl_saload_n iJ0_coder_7d493_6 rfl (xl_scod hj iJ0_coder_7d493_7 fJ0_15 (xl_goto iJ0_coder_7d493_10 ?_))
  exact xl_breturn iJ0_coder_7d493_14 rfl (by decide) ⟨_, rfl, rfl, rfl⟩
theorem xs_latin {j : Nat} (hj : j < 9) : xl_C mJ0_isLatin1_aae02 0 0 [.float j.toUInt32] [] (fun v h' => v = some (.int 1) ∧ h' = []) := by
  refine xl_con kJ0_isLatin1_aae02 [some (.float j.toUInt32)] rfl (Nat.le_of_ble_eq_true rfl) ?_
  refine xl_szip iJ0_isLatin1_aae02_0 fJ0_38 (xl_if_eq iJ0_isLatin1_aae02_3 (fun q => absurd q (by decide)) (fun _ => ?_))
  refine xl_saload_n iJ0_isLatin1_aae02_6 rfl (xl_scod hj iJ0_isLatin1_aae02_7 fJ0_15 (xl_if_ne iJ0_isLatin1_aae02_10 (fun q => absurd rfl q) (fun _ => ?_)))
  refine xl_iconst 1 iJ0_isLatin1_aae02_13 rfl (xl_goto iJ0_isLatin1_aae02_14 ?_)
  exact xl_zreturn iJ0_isLatin1_aae02_18 rfl (Or.inr rfl) ⟨_, rfl, rfl, rfl⟩
theorem xs_length {j : Nat} (hj : j < 9) : xl_C mJ0_length_8abf5 0 0 [.float j.toUInt32] [] (fun v h' => v = some (.int (Int32.ofNat (xl_sl.getD j 0))) ∧ h' = []) := by
  refine xl_con kJ0_length_8abf5 [some (.float j.toUInt32)] rfl (Nat.le_of_ble_eq_true rfl) ?_
  refine xl_saload_n iJ0_length_8abf5_0 rfl (xl_sval hj iJ0_length_8abf5_1 fJ0_9 (xl_slen hj iJ0_length_8abf5_4 (xl_saload_n iJ0_length_8abf5_5 rfl ?_)))
  refine xl_callK (As := []) hj iJ0_length_8abf5_6 vJ0_coder_7d493 rfl rfl rfl (Nat.le_of_ble_eq_true rfl) (xs_coder hj) (fun v h' q => ⟨q.2, fun a => by rw [q.1]; exact fun e => by cases e⟩) (fun v q => ?_)
  rw [q.1]
  refine xl_ishr iJ0_length_8abf5_9 ?_
  exact xl_ireturn iJ0_length_8abf5_10 rfl ⟨_, rfl, by rw [show (0 : Int32) &&& 31 = 0 from by decide, Int32.shiftRight_zero], rfl⟩
theorem xs_empty {j : Nat} (hj : j < 9) : xl_C mJ0_isEmpty_aae02 0 0 [.float j.toUInt32] [] (fun v h' => v = some (.int (if xl_sl.getD j 0 = 0 then 1 else 0)) ∧ h' = []) := by
  have key : ∀ j, j < 9 → ((Int32.ofNat (xl_sl.getD j 0) = 0) ↔ xl_sl.getD j 0 = 0) := by decide
  refine xl_con kJ0_isEmpty_aae02 [some (.float j.toUInt32)] rfl (Nat.le_of_ble_eq_true rfl) ?_
  refine xl_saload_n iJ0_isEmpty_aae02_0 rfl (xl_sval hj iJ0_isEmpty_aae02_1 fJ0_9 (xl_slen hj iJ0_isEmpty_aae02_4 (xl_if_ne iJ0_isEmpty_aae02_5 (fun q => ?_) (fun q => ?_))))
  · rw [key j hj] at q
    refine xl_iconst 0 iJ0_isEmpty_aae02_12 rfl ?_
    exact xl_zreturn iJ0_isEmpty_aae02_13 rfl (Or.inl rfl) ⟨_, rfl, by rw [if_neg q], rfl⟩
  · rw [key j hj] at q
    refine xl_iconst 1 iJ0_isEmpty_aae02_8 rfl (xl_goto iJ0_isEmpty_aae02_9 ?_)
    exact xl_zreturn iJ0_isEmpty_aae02_13 rfl (Or.inr rfl) ⟨_, rfl, by rw [if_pos q], rfl⟩
theorem xs_chk3 {a b : Int32} {v2 : Value} (h1 : v2 = .null ∨ v2 = .float (300 : Nat).toUInt32) (h0 : ¬ a < 0) (hb : a < b) : xl_C mJ3_checkIndex_8e157 0 0 [.int a, .int b, v2] [] (fun v h' => v = some (.int a) ∧ h' = []) := by
  refine xl_con kJ3_checkIndex_8e157 [some (.int a), some (.int b), some v2] (by rcases h1 with rfl | rfl <;> rfl) (by rcases h1 with rfl | rfl <;> exact Nat.le_of_ble_eq_true rfl) ?_
  refine xl_iload_n iJ3_checkIndex_8e157_0 rfl (xl_if_lt iJ3_checkIndex_8e157_1 (fun q => absurd q h0) (fun _ => ?_))
  refine xl_iload_n iJ3_checkIndex_8e157_4 rfl (xl_iload_n iJ3_checkIndex_8e157_5 rfl (xl_icmp_lt iJ3_checkIndex_8e157_6 (fun _ => ?_) (fun q => absurd hb q)))
  refine xl_iload_n iJ3_checkIndex_8e157_16 rfl ?_
  exact xl_ireturn iJ3_checkIndex_8e157_17 rfl ⟨_, rfl, rfl, rfl⟩
theorem xs_chk0 {a b : Int32} (h0 : ¬ a < 0) (hb : a < b) : xl_C mJ0_checkIndex_df160 0 0 [.int a, .int b] [] (fun v h' => v = none ∧ h' = []) := by
  refine xl_con kJ0_checkIndex_df160 [some (.int a), some (.int b)] rfl (Nat.le_of_ble_eq_true rfl) ?_
  refine xl_iload_n iJ0_checkIndex_df160_0 rfl (xl_iload_n iJ0_checkIndex_df160_1 rfl (xl_sfmt iJ0_checkIndex_df160_2 fJ0_1053 ?_ ?_))
  · refine xl_sK (As := [.int a, .int b, .null]) iJ0_checkIndex_df160_5 vJ3_checkIndex_8e157 rfl rfl (Nat.le_of_ble_eq_true rfl) rfl (xs_chk3 (Or.inl rfl) h0 hb) (fun v h' q => ⟨q.2, fun a => by rw [q.1]; exact fun e => by cases e⟩) (fun v q => ?_)
    rw [q.1]
    refine xl_pop iJ0_checkIndex_df160_8 rfl ?_
    exact xl_return iJ0_checkIndex_df160_9 rfl ⟨_, rfl, rfl, rfl⟩
  · refine xl_sK (As := [.int a, .int b, .float (300 : Nat).toUInt32]) iJ0_checkIndex_df160_5 vJ3_checkIndex_8e157 rfl rfl (Nat.le_of_ble_eq_true rfl) rfl (xs_chk3 (Or.inr rfl) h0 hb) (fun v h' q => ⟨q.2, fun a => by rw [q.1]; exact fun e => by cases e⟩) (fun v q => ?_)
    rw [q.1]
    refine xl_pop iJ0_checkIndex_df160_8 rfl ?_
    exact xl_return iJ0_checkIndex_df160_9 rfl ⟨_, rfl, rfl, rfl⟩
/-- the char at a place -/
def xs_ch (j k : Nat) : Int32 := (xl_sb.getD j []).getD k 0
theorem xs_chN : ∀ j, j < 9 → ∀ k, k < xl_sl.getD j 0 → ((((xs_ch j k &&& 255).toUInt32 % 65536).toInt32 = xs_ch j k) ∧ narrow .char (.int (xs_ch j k)) = .int (xs_ch j k)) := by decide
theorem xs_char1 {j k : Nat} (hj : j < 9) (hk : k < xl_sl.getD j 0) : xl_C mJ1_charAt_3b067 0 0 [.float (200 + j).toUInt32, .int (Int32.ofNat k)] [] (fun v h' => v = some (.int (xs_ch j k)) ∧ h' = []) := by
  have key : ∀ j, j < 9 → ∀ k, k < xl_sl.getD j 0 → ¬ (Int32.ofNat k < 0) ∧ Int32.ofNat k < Int32.ofNat (xl_sl.getD j 0) ∧ vp_in (Int32.ofNat k) (xl_sl.getD j 0) ∧ (Int32.ofNat k).toNatClampNeg = k := by
    intro j hj k hk
    have h9 : ∀ j, j < 9 → xl_sl.getD j 0 ≤ 10 := by decide
    have := h9 j hj
    have e1 : (Int32.ofNat k).toInt = (k : Int) := by rw [Int32.toInt_ofNat_of_lt (by omega)]
    have e2 : (Int32.ofNat (xl_sl.getD j 0)).toInt = ((xl_sl.getD j 0 : Nat) : Int) := by rw [Int32.toInt_ofNat_of_lt (by omega)]
    refine ⟨?_, ?_, ?_, ?_⟩
    · rw [Int32.lt_iff_toInt_lt, e1]; simp
    · rw [Int32.lt_iff_toInt_lt, e1, e2]; omega
    · have : iI (k : Int) = Int32.ofNat k := by simp [iI, Int32.ofInt_eq_ofNat]
      rw [← this]
      exact iI_in ⟨by omega, by omega⟩ (by omega) (by omega)
    · show (Int32.ofNat k).toInt.toNat = k
      rw [e1]; omega
  obtain ⟨q1, q2, q3, q4⟩ := key j hj k hk
  obtain ⟨c1, c2⟩ := xs_chN j hj k hk
  refine xl_con kJ1_charAt_3b067 [some (.float (200 + j).toUInt32), some (.int (Int32.ofNat k))] rfl (Nat.le_of_ble_eq_true rfl) ?_
  refine xl_iload_n iJ1_charAt_3b067_0 rfl (xl_saload_n iJ1_charAt_3b067_1 rfl (xl_slen hj iJ1_charAt_3b067_2 ?_))
  refine xl_sK (As := [.int (Int32.ofNat k), .int (Int32.ofNat (xl_sl.getD j 0))]) iJ1_charAt_3b067_3 vJ0_checkIndex_df160 rfl rfl (Nat.le_of_ble_eq_true rfl) rfl (xs_chk0 q1 q2) (fun v h' q => ⟨q.2, fun a => by rw [q.1]; exact fun e => by cases e⟩) (fun v q => ?_)
  rw [q.1]
  refine xl_saload_n iJ1_charAt_3b067_6 rfl (xl_iload_n iJ1_charAt_3b067_7 rfl (xl_sbal hj iJ1_charAt_3b067_8 q3 ?_))
  rw [q4]
  refine xl_sipush 255 iJ1_charAt_3b067_9 (by decide) (xl_iand iJ1_charAt_3b067_12 (xl_i2c iJ1_charAt_3b067_13 c1 ?_))
  exact xl_creturn iJ1_charAt_3b067_14 rfl c2 ⟨_, rfl, rfl, rfl⟩
theorem xs_char {j k : Nat} (hj : j < 9) (hk : k < xl_sl.getD j 0) : xl_C mJ0_charAt_5068e 0 0 [.float j.toUInt32, .int (Int32.ofNat k)] [] (fun v h' => v = some (.int (xs_ch j k)) ∧ h' = []) := by
  refine xl_con kJ0_charAt_5068e [some (.float j.toUInt32), some (.int (Int32.ofNat k))] rfl (Nat.le_of_ble_eq_true rfl) ?_
  refine xl_saload_n iJ0_charAt_5068e_0 rfl ?_
  refine xl_callK (As := []) hj iJ0_charAt_5068e_1 vJ0_isLatin1_aae02 rfl rfl rfl (Nat.le_of_ble_eq_true rfl) (xs_latin hj) (fun v h' q => ⟨q.2, fun a => by rw [q.1]; exact fun e => by cases e⟩) (fun v q => ?_)
  rw [q.1]
  refine xl_if_eq iJ0_charAt_5068e_4 (fun q => absurd q (by decide)) (fun _ => ?_)
  refine xl_saload_n iJ0_charAt_5068e_7 rfl (xl_sval hj iJ0_charAt_5068e_8 fJ0_9 (xl_iload_n iJ0_charAt_5068e_11 rfl ?_))
  refine xl_sK (As := [.float (200 + j).toUInt32, .int (Int32.ofNat k)]) iJ0_charAt_5068e_12 vJ1_charAt_3b067 rfl rfl (Nat.le_of_ble_eq_true rfl) rfl (xs_char1 hj hk) (fun v h' q => ⟨q.2, fun a => by rw [q.1]; exact fun e => by cases e⟩) (fun v q => ?_)
  rw [q.1]
  exact xl_creturn iJ0_charAt_5068e_15 rfl (xs_chN j hj k hk).2 ⟨_, rfl, rfl, rfl⟩
theorem xs_ldcwS {p : Program} {l : Launch} {e : Env} {R : Room} {s : State} {m : MethodId} {args : Array Value} {below : List Frame} {meth : Method} {c : Code} {T : State} {locs : List Loc} {cells slots : Nat} (X : Stand p l e R s m args below meth c T locs cells slots) (hexec : p.tables.exec = Jvm.exec) {own text : String} {index : Nat} {a : Addr} (hown : s.vm.findClass own = some m.cls)
    (hconst : (Cond.stringRef own index text).before args s = true) (hev : (Term.string own index).eval args s none [] s = some (.ref a)) {g : JFrame} (hg : g.method = m) (hdg : decode c.code g.pc = .ok (.ldc_w index, 3)) :
    ∀ target, Steps p.tables e below (T.setTop { g with pc := g.pc + 3, stack := .ref a :: g.stack }) target → Steps p.tables e below (T.setTop g) target := by
  obtain ⟨k, cf, i, a', hk, hcf, hcp, -, hr, hev'⟩ := Cond.stringRef_spec hown hconst
  cases hev.symm.trans hev'
  obtain ⟨k', hk', he⟩ := X.warmed.alike.2.2 _ _ hk
  have hr' : k'.resolved[index]? = some (some (.string a)) := by
    rcases X.warmed.entry hk hk' index with h | ⟨h, -⟩
    · rw [h]; exact hr
    · rw [hr] at h; cases h
  intro target hrest
  subst hg
  jvm_step X.here [hexec, hdg, ldc_w.wp_string (e := e) (s := T) (f := g) X.here.top hk' (by rw [he]; exact hcf) hcp hr']
  exact hrest
section XSL
variable {M : XI} {rc rs pc pc2 : Nat} {L : List (Option Value)} {st : List Value} {h : XH} {Po : Option (Option Value) → XH → Prop} {j : Nat}
theorem xl_ldcS (hj : j < 9) (hc : (xl_sc j).1 = M.1.cls) (d : xl_D M pc (.ldc (xl_sc j).2.1) 2 pc2) (k : xl_W M rc rs pc2 L (.float j.toUInt32 :: st) h Po) : xl_W M rc rs pc L st h Po := by
  obtain ⟨d, rfl⟩ := d
  intro p l e R s m args below meth c D aC ρ σ aV A H locs cells slots ls Q hX hH hL h1 h2 hr ht
  have hE := hH.2.2.2.2.1
  have := k p l e R s m args below meth c D aC ρ σ aV A H locs cells slots ls Q hX hH hL h1 h2 hr ht
  rw [List.map_cons, xs_v (by omega)] at this
  exact va_ldcS hX.1 hX.2.1 (by rw [hc]; exact hX.2.2.2.2.1) (hE.2.2.2.1 j hj) d this
theorem xl_ldcSw (hj : j < 9) (hc : (xl_sc j).1 = M.1.cls) (d : xl_D M pc (.ldc_w (xl_sc j).2.1) 3 pc2) (k : xl_W M rc rs pc2 L (.float j.toUInt32 :: st) h Po) : xl_W M rc rs pc L st h Po := by
  obtain ⟨d, rfl⟩ := d
  intro p l e R s m args below meth c D aC ρ σ aV A H locs cells slots ls Q hX hH hL h1 h2 hr ht
  have hE := hH.2.2.2.2.1
  have k2 := k p l e R s m args below meth c D aC ρ σ aV A H locs cells slots ls Q hX hH hL h1 h2 hr ht
  rw [List.map_cons, xs_v (by omega)] at k2
  intro T hT X
  obtain ⟨t, a1, b1⟩ := k2 T hT X
  have hz := hE.2.2.2.1 j hj
  have hown : s.vm.findClass (xl_sc j).1 = some m.cls := by rw [hc]; exact hX.2.2.2.2.1
  exact ⟨t, xs_ldcwS X hX.1 hown hz.1 hz.2 (g := F0 m pc ls (st.map (xl_v ρ σ))) rfl (by rw [hX.2.1]; exact d) t a1, b1⟩
end XSL
end
