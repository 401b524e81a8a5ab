/-! ===== LateSessions: its face, questions without loops; undone, kept ===== -/
-- X2_at: heads []
def tX2_at : Nat → Blk LSt := fun pc => bif Nat.blt pc 16 then (bif Nat.blt pc 14 then (bif Nat.beq pc 0 then (oIld 1 <| oC1 (cL_X2_isKey) <| oZEq 14 <| oIld 2 <| oC1 (cL_X2_isTime) <| oZNe 16 <| oTo 14) else oNo) else (bif Nat.beq pc 14 then (oI (-1) <| oIret) else oNo)) else (bif Nat.blt pc 33 then (bif Nat.beq pc 16 then (oAld 0 <| oGet (fgL) 2 0 <| oIld 1 <| oIld 2 <| oC3 (cL_X1_firstTouched) <| oIst 3 <| oIld 3 <| oZGe 33 <| oI (-2) <| oIret) else oNo) else (bif Nat.beq pc 33 then (oAld 0 <| oAld 0 <| oGet (fgL) 2 0 <| oIld 3 <| oIld 1 <| oIld 2 <| oC4 (cL_X1_touchedFrom) <| oI2l <| oC2 (cL_X2_tellOne) <| oIld 3 <| oIret) else oNo))
theorem tX2_at_ok : ∀ pc, bOk (encL) (bdL) mX2_at 0 0 pc (tX2_at pc) := fun pc => (tNode (tNode (tLeaf (okIldn iX2_at_0 rfl <| okC1 (qL_X2_isKey iX2_at_1) <| okZEq (tl rfl) iX2_at_4 <| okIldn iX2_at_7 rfl <| okC1 (qL_X2_isTime iX2_at_8) <| okZNe (tl rfl) iX2_at_11 <| okTo (tl rfl))) (tLeaf (okIc iX2_at_14 <| okIret iX2_at_15 rfl))) (tNode (tLeaf (okAldn iX2_at_16 rfl <| okGet (vFgL) iX2_at_17 <| okIldn iX2_at_20 rfl <| okIldn iX2_at_21 rfl <| okC3 (qL_X1_firstTouched iX2_at_22) <| okIstn iX2_at_25 rfl (by decide) <| okIldn iX2_at_26 rfl <| okZGe (tl rfl) iX2_at_27 <| okBi iX2_at_30 (by decide) <| okIret iX2_at_32 rfl)) (tLeaf (okAldn iX2_at_33 rfl <| okAldn iX2_at_34 rfl <| okGet (vFgL) iX2_at_35 <| okIldn iX2_at_38 rfl <| okIldn iX2_at_39 rfl <| okIldn iX2_at_40 rfl <| okC4 (qL_X1_touchedFrom iX2_at_41) <| okI2l iX2_at_44 <| okC2 (qL_X2_tellOne iX2_at_45) <| okIldn iX2_at_48 rfl <| okIret iX2_at_49 rfl)))) pc
-- X2_sent: heads []
def tX2_sent : Nat → Blk LSt := fun pc => bif Nat.blt pc 9 then (bif Nat.beq pc 0 then (oIld 1 <| oZLt 9 <| oIld 1 <| oI 4 <| oCLt 11 <| oTo 9) else oNo) else (bif Nat.blt pc 11 then (bif Nat.beq pc 9 then (oI (-1) <| oIret) else oNo) else (bif Nat.beq pc 11 then (oAld 0 <| oAld 0 <| oGet (fgL) 2 0 <| oGet (fgL) 1 4 <| oI2l <| oC2 (cL_X2_tellOne) <| oAld 0 <| oGet (fgL) 2 0 <| oIld 1 <| oC2 (cL_X1_sentOf) <| oIret) else oNo))
theorem tX2_sent_ok : ∀ pc, bOk (encL) (bdL) mX2_sent 0 0 pc (tX2_sent pc) := fun pc => (tNode (tLeaf (okIldn iX2_sent_0 rfl <| okZLt (tl rfl) iX2_sent_1 <| okIldn iX2_sent_4 rfl <| okIc iX2_sent_5 <| okCLt (tl rfl) iX2_sent_6 <| okTo (tl rfl))) (tNode (tLeaf (okIc iX2_sent_9 <| okIret iX2_sent_10 rfl)) (tLeaf (okAldn iX2_sent_11 rfl <| okAldn iX2_sent_12 rfl <| okGet (vFgL) iX2_sent_13 <| okGet (vFgL) iX2_sent_16 <| okI2l iX2_sent_19 <| okC2 (qL_X2_tellOne iX2_sent_20) <| okAldn iX2_sent_23 rfl <| okGet (vFgL) iX2_sent_24 <| okIldn iX2_sent_27 rfl <| okC2 (qL_X1_sentOf iX2_sent_28) <| okIret iX2_sent_31 rfl)))) pc
-- X2_closed: heads []
def tX2_closed : Nat → Blk LSt := fun pc => bif Nat.blt pc 9 then (bif Nat.beq pc 0 then (oIld 1 <| oC1 (cL_X2_isKey) <| oZNe 9 <| oI (-1) <| oIret) else oNo) else (bif Nat.beq pc 9 then (oAld 0 <| oAld 0 <| oGet (fgL) 2 0 <| oGet (fgL) 1 15 <| oIld 1 <| oI 5 <| oC3 (cL_X0_get) <| oI2l <| oAld 0 <| oGet (fgL) 2 0 <| oGet (fgL) 1 15 <| oIld 1 <| oI 6 <| oC3 (cL_X0_get) <| oI2l <| oAld 0 <| oGet (fgL) 2 0 <| oGet (fgL) 1 15 <| oIld 1 <| oI 7 <| oC3 (cL_X0_get) <| oI2l <| oC4 (cL_X2_tellThree) <| oAld 0 <| oGet (fgL) 2 0 <| oGet (fgL) 1 15 <| oIld 1 <| oI 4 <| oC3 (cL_X0_get) <| oIret) else oNo)
theorem tX2_closed_ok : ∀ pc, bOk (encL) (bdL) mX2_closed 0 0 pc (tX2_closed pc) := fun pc => (tNode (tLeaf (okIldn iX2_closed_0 rfl <| okC1 (qL_X2_isKey iX2_closed_1) <| okZNe (tl rfl) iX2_closed_4 <| okIc iX2_closed_7 <| okIret iX2_closed_8 rfl)) (tLeaf (okAldn iX2_closed_9 rfl <| okAldn iX2_closed_10 rfl <| okGet (vFgL) iX2_closed_11 <| okGet (vFgL) iX2_closed_14 <| okIldn iX2_closed_17 rfl <| okIc iX2_closed_18 <| okC3 (qL_X0_get iX2_closed_19) <| okI2l iX2_closed_22 <| okAldn iX2_closed_23 rfl <| okGet (vFgL) iX2_closed_24 <| okGet (vFgL) iX2_closed_27 <| okIldn iX2_closed_30 rfl <| okBi iX2_closed_31 (by decide) <| okC3 (qL_X0_get iX2_closed_33) <| okI2l iX2_closed_36 <| okAldn iX2_closed_37 rfl <| okGet (vFgL) iX2_closed_38 <| okGet (vFgL) iX2_closed_41 <| okIldn iX2_closed_44 rfl <| okBi iX2_closed_45 (by decide) <| okC3 (qL_X0_get iX2_closed_47) <| okI2l iX2_closed_50 <| okC4 (qL_X2_tellThree iX2_closed_51) <| okAldn iX2_closed_54 rfl <| okGet (vFgL) iX2_closed_55 <| okGet (vFgL) iX2_closed_58 <| okIldn iX2_closed_61 rfl <| okIc iX2_closed_62 <| okC3 (qL_X0_get iX2_closed_63) <| okIret iX2_closed_66 rfl))) pc
-- X2_taken: heads []
def tX2_taken : Nat → Blk LSt := fun pc => bif Nat.beq pc 0 then (oAld 0 <| oAld 0 <| oGet (fgL) 2 0 <| oGet (fgL) 1 7 <| oI2l <| oAld 0 <| oGet (fgL) 2 0 <| oGet (fgL) 1 8 <| oI2l <| oAld 0 <| oGet (fgL) 2 0 <| oGet (fgL) 1 9 <| oI2l <| oC4 (cL_X2_tellThree) <| oAld 0 <| oGet (fgL) 2 0 <| oGet (fgL) 1 6 <| oIret) else oNo
theorem tX2_taken_ok : ∀ pc, bOk (encL) (bdL) mX2_taken 0 0 pc (tX2_taken pc) := fun pc => (tLeaf (okAldn iX2_taken_0 rfl <| okAldn iX2_taken_1 rfl <| okGet (vFgL) iX2_taken_2 <| okGet (vFgL) iX2_taken_5 <| okI2l iX2_taken_8 <| okAldn iX2_taken_9 rfl <| okGet (vFgL) iX2_taken_10 <| okGet (vFgL) iX2_taken_13 <| okI2l iX2_taken_16 <| okAldn iX2_taken_17 rfl <| okGet (vFgL) iX2_taken_18 <| okGet (vFgL) iX2_taken_21 <| okI2l iX2_taken_24 <| okC4 (qL_X2_tellThree iX2_taken_25) <| okAldn iX2_taken_28 rfl <| okGet (vFgL) iX2_taken_29 <| okGet (vFgL) iX2_taken_32 <| okIret iX2_taken_35 rfl)) pc
-- X2_would: heads []
def tX2_would : Nat → Blk LSt := fun pc => bif Nat.blt pc 60 then (bif Nat.blt pc 14 then (bif Nat.beq pc 0 then (oAld 0 <| oIld 1 <| oIld 2 <| oIld 3 <| oIld 4 <| oC5 (cL_X2_isEvent) <| oZNe 14 <| oI (-1) <| oIret) else oNo) else (bif Nat.beq pc 14 then (oAld 0 <| oGet (fgL) 2 0 <| oIld 1 <| oIld 2 <| oC3 (cL_X1_firstTouched) <| oIst 5 <| oAld 0 <| oGet (fgL) 2 1 <| oAld 0 <| oGet (fgL) 2 0 <| oC2 (cL_X1_copyFrom) <| oAld 0 <| oGet (fgL) 2 1 <| oIld 1 <| oIld 2 <| oIld 3 <| oIld 4 <| oC5 (cL_X1_playEvent) <| oIst 6 <| oIld 6 <| oI 2 <| oCNe 60 <| oI 0 <| oTo 71) else oNo)) else (bif Nat.blt pc 71 then (bif Nat.beq pc 60 then (oAld 0 <| oGet (fgL) 2 0 <| oIld 5 <| oIld 1 <| oIld 2 <| oC4 (cL_X1_touchedFrom) <| oTo 71) else oNo) else (bif Nat.beq pc 71 then (oIst 7 <| oAld 0 <| oIld 7 <| oI2l <| oAld 0 <| oGet (fgL) 2 1 <| oGet (fgL) 1 4 <| oAld 0 <| oGet (fgL) 2 0 <| oGet (fgL) 1 4 <| oSubW <| oI2l <| oC3 (cL_X2_tellTwo) <| oIld 6 <| oIret) else oNo))
theorem tX2_would_ok : ∀ pc, bOk (encL) (bdL) mX2_would 0 0 pc (tX2_would pc) := fun pc => (tNode (tNode (tLeaf (okAldn iX2_would_0 rfl <| okIldn iX2_would_1 rfl <| okIldn iX2_would_2 rfl <| okIldn iX2_would_3 rfl <| okIld iX2_would_4 <| okC5 (qL_X2_isEvent iX2_would_6) <| okZNe (tl rfl) iX2_would_9 <| okIc iX2_would_12 <| okIret iX2_would_13 rfl)) (tLeaf (okAldn iX2_would_14 rfl <| okGet (vFgL) iX2_would_15 <| okIldn iX2_would_18 rfl <| okIldn iX2_would_19 rfl <| okC3 (qL_X1_firstTouched iX2_would_20) <| okIst iX2_would_23 (by decide) <| okAldn iX2_would_25 rfl <| okGet (vFgL) iX2_would_26 <| okAldn iX2_would_29 rfl <| okGet (vFgL) iX2_would_30 <| okC2 (qL_X1_copyFrom iX2_would_33) <| okAldn iX2_would_36 rfl <| okGet (vFgL) iX2_would_37 <| okIldn iX2_would_40 rfl <| okIldn iX2_would_41 rfl <| okIldn iX2_would_42 rfl <| okIld iX2_would_43 <| okC5 (qL_X1_playEvent iX2_would_45) <| okIst iX2_would_48 (by decide) <| okIld iX2_would_50 <| okIc iX2_would_52 <| okCNe (tl rfl) iX2_would_53 <| okIc iX2_would_56 <| okGoto (tl rfl) iX2_would_57))) (tNode (tLeaf (okAldn iX2_would_60 rfl <| okGet (vFgL) iX2_would_61 <| okIld iX2_would_64 <| okIldn iX2_would_66 rfl <| okIldn iX2_would_67 rfl <| okC4 (qL_X1_touchedFrom iX2_would_68) <| okTo (tl rfl))) (tLeaf (okIst iX2_would_71 (by decide) <| okAldn iX2_would_73 rfl <| okIld iX2_would_74 <| okI2l iX2_would_76 <| okAldn iX2_would_77 rfl <| okGet (vFgL) iX2_would_78 <| okGet (vFgL) iX2_would_81 <| okAldn iX2_would_84 rfl <| okGet (vFgL) iX2_would_85 <| okGet (vFgL) iX2_would_88 <| okSubW iX2_would_91 <| okI2l iX2_would_92 <| okC3 (qL_X2_tellTwo iX2_would_93) <| okIld iX2_would_96 <| okIret iX2_would_98 rfl)))) pc
-- X2_without: heads []
def tX2_without : Nat → Blk LSt := fun pc => bif Nat.blt pc 10 then (bif Nat.beq pc 0 then (oAld 0 <| oIld 1 <| oC2 (cL_X2_isSource) <| oZNe 10 <| oI (-1) <| oIret) else oNo) else (bif Nat.blt pc 27 then (bif Nat.beq pc 10 then (oAld 0 <| oGet (fgL) 2 0 <| oGet (fgL) 1 10 <| oGet (fgL) 0 3 <| oI 1 <| oCNe 27 <| oI (-2) <| oIret) else oNo) else (bif Nat.beq pc 27 then (oAld 0 <| oAld 0 <| oGet (fgL) 2 0 <| oGet (fgL) 1 0 <| oAld 0 <| oGet (fgL) 2 0 <| oGet (fgL) 1 1 <| oAld 0 <| oGet (fgL) 2 0 <| oGet (fgL) 1 2 <| oIld 1 <| oC5 (cL_X2_replay) <| oAld 0 <| oAld 0 <| oGet (fgL) 2 1 <| oGet (fgL) 1 8 <| oI2l <| oAld 0 <| oGet (fgL) 2 1 <| oGet (fgL) 1 11 <| oGet (fgL) 0 3 <| oI2l <| oAld 0 <| oGet (fgL) 2 1 <| oGet (fgL) 1 5 <| oI2l <| oC4 (cL_X2_tellThree) <| oAld 0 <| oGet (fgL) 2 1 <| oGet (fgL) 1 3 <| oIret) else oNo))
theorem tX2_without_ok : ∀ pc, bOk (encL) (bdL) mX2_without 0 0 pc (tX2_without pc) := fun pc => (tNode (tLeaf (okAldn iX2_without_0 rfl <| okIldn iX2_without_1 rfl <| okC2 (qL_X2_isSource iX2_without_2) <| okZNe (tl rfl) iX2_without_5 <| okIc iX2_without_8 <| okIret iX2_without_9 rfl)) (tNode (tLeaf (okAldn iX2_without_10 rfl <| okGet (vFgL) iX2_without_11 <| okGet (vFgL) iX2_without_14 <| okGet (vFgL) iX2_without_17 <| okIc iX2_without_20 <| okCNe (tl rfl) iX2_without_21 <| okBi iX2_without_24 (by decide) <| okIret iX2_without_26 rfl)) (tLeaf (okAldn iX2_without_27 rfl <| okAldn iX2_without_28 rfl <| okGet (vFgL) iX2_without_29 <| okGet (vFgL) iX2_without_32 <| okAldn iX2_without_35 rfl <| okGet (vFgL) iX2_without_36 <| okGet (vFgL) iX2_without_39 <| okAldn iX2_without_42 rfl <| okGet (vFgL) iX2_without_43 <| okGet (vFgL) iX2_without_46 <| okIldn iX2_without_49 rfl <| okC5 (qL_X2_replay iX2_without_50) <| okAldn iX2_without_53 rfl <| okAldn iX2_without_54 rfl <| okGet (vFgL) iX2_without_55 <| okGet (vFgL) iX2_without_58 <| okI2l iX2_without_61 <| okAldn iX2_without_62 rfl <| okGet (vFgL) iX2_without_63 <| okGet (vFgL) iX2_without_66 <| okGet (vFgL) iX2_without_69 <| okI2l iX2_without_72 <| okAldn iX2_without_73 rfl <| okGet (vFgL) iX2_without_74 <| okGet (vFgL) iX2_without_77 <| okI2l iX2_without_80 <| okC4 (qL_X2_tellThree iX2_without_81) <| okAldn iX2_without_84 rfl <| okGet (vFgL) iX2_without_85 <| okGet (vFgL) iX2_without_88 <| okIret iX2_without_91 rfl)))) pc
-- X2_undo: heads []
def tX2_undo : Nat → Blk LSt := fun pc => bif Nat.blt pc 9 then (bif Nat.beq pc 0 then (oAld 0 <| oGet (fgL) 2 4 <| oZNe 9 <| oI (-1) <| oIret) else oNo) else (bif Nat.beq pc 9 then (oAld 0 <| oDup <| oGet (fgL) 2 4 <| oI 1 <| oSub <| oPut (fpL) 2 4 <| oAld 0 <| oGet (fgL) 2 0 <| oAld 0 <| oGet (fgL) 2 2 <| oAld 0 <| oGet (fgL) 2 3 <| oAld 0 <| oGet (fgL) 2 4 <| oAdd <| oI 6 <| oRemT <| oAa (arL) <| oC2 (cL_X1_copyFrom) <| oAld 0 <| oGet (fgL) 2 4 <| oIret) else oNo)
theorem tX2_undo_ok : ∀ pc, bOk (encL) (bdL) mX2_undo 0 0 pc (tX2_undo pc) := fun pc => (tNode (tLeaf (okAldn iX2_undo_0 rfl <| okGet (vFgL) iX2_undo_1 <| okZNe (tl rfl) iX2_undo_4 <| okIc iX2_undo_7 <| okIret iX2_undo_8 rfl)) (tLeaf (okAldn iX2_undo_9 rfl <| okDup iX2_undo_10 <| okGet (vFgL) iX2_undo_11 <| okIc iX2_undo_14 <| okSub iX2_undo_15 <| okPut (vFpL) iX2_undo_16 <| okAldn iX2_undo_19 rfl <| okGet (vFgL) iX2_undo_20 <| okAldn iX2_undo_23 rfl <| okGet (vFgL) iX2_undo_24 <| okAldn iX2_undo_27 rfl <| okGet (vFgL) iX2_undo_28 <| okAldn iX2_undo_31 rfl <| okGet (vFgL) iX2_undo_32 <| okAdd iX2_undo_35 <| okBi iX2_undo_36 (by decide) <| okRemT iX2_undo_38 <| okAa (vArL) iX2_undo_39 <| okC2 (qL_X1_copyFrom iX2_undo_40) <| okAldn iX2_undo_43 rfl <| okGet (vFgL) iX2_undo_44 <| okIret iX2_undo_47 rfl))) pc
-- X2_keep: heads []
def tX2_keep : Nat → Blk LSt := fun pc => bif Nat.blt pc 11 then (bif Nat.blt pc 9 then (bif Nat.beq pc 0 then (oIld 1 <| oZLt 9 <| oIld 1 <| oI 2 <| oCLt 11 <| oTo 9) else oNo) else (bif Nat.beq pc 9 then (oI 0 <| oZret) else oNo)) else (bif Nat.blt pc 24 then (bif Nat.beq pc 11 then (oAld 0 <| oGet (fgL) 2 5 <| oIld 1 <| oAa (arL) <| oAst 2 <| oAld 2 <| oNN 24) else oNo) else (bif Nat.beq pc 24 then (oAld 2 <| oAld 0 <| oGet (fgL) 2 0 <| oC2 (cL_X1_copyFrom) <| oAld 0 <| oDup <| oGet (fgL) 2 6 <| oI 1 <| oIld 1 <| oShl <| oOr <| oPut (fpL) 2 6 <| oI 1 <| oZret) else oNo))
theorem tX2_keep_ok : ∀ pc, bOk (encL) (bdL) mX2_keep 0 0 pc (tX2_keep pc) := fun pc => (tNode (tNode (tLeaf (okIldn iX2_keep_0 rfl <| okZLt (tl rfl) iX2_keep_1 <| okIldn iX2_keep_4 rfl <| okIc iX2_keep_5 <| okCLt (tl rfl) iX2_keep_6 <| okTo (tl rfl))) (tLeaf (okIc iX2_keep_9 <| okZret iX2_keep_10 rfl))) (tNode (tLeaf (okAldn iX2_keep_11 rfl <| okGet (vFgL) iX2_keep_12 <| okIldn iX2_keep_15 rfl <| okAa (vArL) iX2_keep_16 <| okAstn iX2_keep_17 rfl (by decide) <| okAldn iX2_keep_18 rfl <| okNN (tl rfl) iX2_keep_19)) (tLeaf (okAldn iX2_keep_24 rfl <| okAldn iX2_keep_25 rfl <| okGet (vFgL) iX2_keep_26 <| okC2 (qL_X1_copyFrom iX2_keep_29) <| okAldn iX2_keep_32 rfl <| okDup iX2_keep_33 <| okGet (vFgL) iX2_keep_34 <| okIc iX2_keep_37 <| okIldn iX2_keep_38 rfl <| okShl iX2_keep_39 <| okOr iX2_keep_40 <| okPut (vFpL) iX2_keep_41 <| okIc iX2_keep_44 <| okZret iX2_keep_45 rfl)))) pc
-- X2_back: heads []
def tX2_back : Nat → Blk LSt := fun pc => bif Nat.blt pc 20 then (bif Nat.beq pc 0 then (oIld 1 <| oZLt 20 <| oIld 1 <| oI 2 <| oCGe 20 <| oAld 0 <| oGet (fgL) 2 6 <| oI 1 <| oIld 1 <| oShl <| oAnd <| oZNe 22 <| oTo 20) else oNo) else (bif Nat.blt pc 22 then (bif Nat.beq pc 20 then (oI 0 <| oZret) else oNo) else (bif Nat.beq pc 22 then (oAld 0 <| oGet (fgL) 2 0 <| oAld 0 <| oGet (fgL) 2 5 <| oIld 1 <| oAa (arL) <| oC2 (cL_X1_copyFrom) <| oAld 0 <| oI 0 <| oPut (fpL) 2 4 <| oI 1 <| oZret) else oNo))
theorem tX2_back_ok : ∀ pc, bOk (encL) (bdL) mX2_back 0 0 pc (tX2_back pc) := fun pc => (tNode (tLeaf (okIldn iX2_back_0 rfl <| okZLt (tl rfl) iX2_back_1 <| okIldn iX2_back_4 rfl <| okIc iX2_back_5 <| okCGe (tl rfl) iX2_back_6 <| okAldn iX2_back_9 rfl <| okGet (vFgL) iX2_back_10 <| okIc iX2_back_13 <| okIldn iX2_back_14 rfl <| okShl iX2_back_15 <| okAnd iX2_back_16 <| okZNe (tl rfl) iX2_back_17 <| okTo (tl rfl))) (tNode (tLeaf (okIc iX2_back_20 <| okZret iX2_back_21 rfl)) (tLeaf (okAldn iX2_back_22 rfl <| okGet (vFgL) iX2_back_23 <| okAldn iX2_back_26 rfl <| okGet (vFgL) iX2_back_27 <| okIldn iX2_back_30 rfl <| okAa (vArL) iX2_back_31 <| okC2 (qL_X1_copyFrom iX2_back_32) <| okAldn iX2_back_35 rfl <| okIc iX2_back_36 <| okPut (vFpL) iX2_back_37 <| okIc iX2_back_40 <| okZret iX2_back_41 rfl)))) pc
-- X2_count: heads []
def tX2_count : Nat → Blk LSt := fun pc => bif Nat.blt pc 103 then (bif Nat.blt pc 79 then (bif Nat.blt pc 60 then (bif Nat.beq pc 0 then (oIld 1 <| oTab 0 [60, 71, 79, 87, 95, 103, 114, 125, 133, 138, 143] 148) else oNo) else (bif Nat.blt pc 71 then (bif Nat.beq pc 60 then (oAld 0 <| oGet (fgL) 2 0 <| oGet (fgL) 1 10 <| oGet (fgL) 0 3 <| oIret) else oNo) else (bif Nat.beq pc 71 then (oAld 0 <| oGet (fgL) 2 0 <| oGet (fgL) 1 0 <| oIret) else oNo))) else (bif Nat.blt pc 87 then (bif Nat.beq pc 79 then (oAld 0 <| oGet (fgL) 2 0 <| oGet (fgL) 1 1 <| oIret) else oNo) else (bif Nat.blt pc 95 then (bif Nat.beq pc 87 then (oAld 0 <| oGet (fgL) 2 0 <| oGet (fgL) 1 2 <| oIret) else oNo) else (bif Nat.beq pc 95 then (oAld 0 <| oGet (fgL) 2 0 <| oGet (fgL) 1 3 <| oIret) else oNo)))) else (bif Nat.blt pc 133 then (bif Nat.blt pc 114 then (bif Nat.beq pc 103 then (oAld 0 <| oGet (fgL) 2 0 <| oGet (fgL) 1 11 <| oGet (fgL) 0 3 <| oIret) else oNo) else (bif Nat.blt pc 125 then (bif Nat.beq pc 114 then (oAld 0 <| oGet (fgL) 2 0 <| oGet (fgL) 1 14 <| oGet (fgL) 0 3 <| oIret) else oNo) else (bif Nat.beq pc 125 then (oAld 0 <| oGet (fgL) 2 0 <| oGet (fgL) 1 4 <| oIret) else oNo))) else (bif Nat.blt pc 143 then (bif Nat.blt pc 138 then (bif Nat.beq pc 133 then (oAld 0 <| oGet (fgL) 2 4 <| oIret) else oNo) else (bif Nat.beq pc 138 then (oAld 0 <| oGet (fgL) 2 8 <| oIret) else oNo)) else (bif Nat.blt pc 148 then (bif Nat.beq pc 143 then (oAld 0 <| oGet (fgL) 2 10 <| oIret) else oNo) else (bif Nat.beq pc 148 then (oI (-1) <| oIret) else oNo))))
theorem tX2_count_ok : ∀ pc, bOk (encL) (bdL) mX2_count 0 0 pc (tX2_count pc) := fun pc => (tNode (tNode (tNode (tLeaf (okIldn iX2_count_0 rfl <| okTab (by decide +kernel) (by decide +kernel) (by decide +kernel) iX2_count_1.1)) (tNode (tLeaf (okAldn iX2_count_60 rfl <| okGet (vFgL) iX2_count_61 <| okGet (vFgL) iX2_count_64 <| okGet (vFgL) iX2_count_67 <| okIret iX2_count_70 rfl)) (tLeaf (okAldn iX2_count_71 rfl <| okGet (vFgL) iX2_count_72 <| okGet (vFgL) iX2_count_75 <| okIret iX2_count_78 rfl)))) (tNode (tLeaf (okAldn iX2_count_79 rfl <| okGet (vFgL) iX2_count_80 <| okGet (vFgL) iX2_count_83 <| okIret iX2_count_86 rfl)) (tNode (tLeaf (okAldn iX2_count_87 rfl <| okGet (vFgL) iX2_count_88 <| okGet (vFgL) iX2_count_91 <| okIret iX2_count_94 rfl)) (tLeaf (okAldn iX2_count_95 rfl <| okGet (vFgL) iX2_count_96 <| okGet (vFgL) iX2_count_99 <| okIret iX2_count_102 rfl))))) (tNode (tNode (tLeaf (okAldn iX2_count_103 rfl <| okGet (vFgL) iX2_count_104 <| okGet (vFgL) iX2_count_107 <| okGet (vFgL) iX2_count_110 <| okIret iX2_count_113 rfl)) (tNode (tLeaf (okAldn iX2_count_114 rfl <| okGet (vFgL) iX2_count_115 <| okGet (vFgL) iX2_count_118 <| okGet (vFgL) iX2_count_121 <| okIret iX2_count_124 rfl)) (tLeaf (okAldn iX2_count_125 rfl <| okGet (vFgL) iX2_count_126 <| okGet (vFgL) iX2_count_129 <| okIret iX2_count_132 rfl)))) (tNode (tNode (tLeaf (okAldn iX2_count_133 rfl <| okGet (vFgL) iX2_count_134 <| okIret iX2_count_137 rfl)) (tLeaf (okAldn iX2_count_138 rfl <| okGet (vFgL) iX2_count_139 <| okIret iX2_count_142 rfl))) (tNode (tLeaf (okAldn iX2_count_143 rfl <| okGet (vFgL) iX2_count_144 <| okIret iX2_count_147 rfl)) (tLeaf (okIc iX2_count_148 <| okIret iX2_count_149 rfl)))))) pc
def fAt (s : LSt) (k t : Int) : Int × LSt := if (0 ≤ k ∧ k < 6) ∧ 0 ≤ t ∧ t ≤ 9999 then (if wFirst (s.2.2 0) k t < 0 then (-2, s) else (wFirst (s.2.2 0) k t, lTell1 s (wMany (s.2.2 0) (wFirst (s.2.2 0) k t) k t))) else (-1, s)
def sX2_at : Int → Int → LSt → KL → Prop := fun k t s K => (xB k ∧ xB t) ∧ K [pI (fAt s k t).1] (fAt s k t).2
theorem mX2_at_ok : mOk encL bdL mX2_at (atR 0 (a2 sX2_at)) := by
  refine mOVa2 kX2_at (fun _ _ => rfl) (fun k t s K h hb => wx_J [] 9 tX2_at_ok rfl (fun J hR hJ => ?_))
  obtain ⟨⟨h1, h2⟩, hK⟩ := h
  unfold fAt at hK
  by_cases c : (0 ≤ k ∧ k < 6) ∧ 0 ≤ t ∧ t ≤ 9999
  · rw [if_pos c] at hK
    by_cases c2 : wFirst (s.2.2 0) k t < 0
    · rw [if_pos c2] at hK
      repeat' (first | (refine And.intro ?_ ?_) | intro _)
      all_goals first | omega | exact hR _ _ hK
    · rw [if_neg c2] at hK
      repeat' (first | (refine And.intro ?_ ?_) | intro _)
      all_goals first | omega | exact hR _ _ hK
  · rw [if_neg c] at hK
    repeat' (first | (refine And.intro ?_ ?_) | intro _)
    all_goals first | omega | exact hR _ _ hK
def fSent (s : LSt) (k : Int) : Int × LSt := if 0 ≤ k ∧ k < 4 then (wSentOf (s.2.2 0) k, lTell1 s ((s.2.2 0).1 4)) else (-1, s)
def sX2_sent : Int → LSt → KL → Prop := fun k s K => xB k ∧ K [pI (fSent s k).1] (fSent s k).2
theorem mX2_sent_ok : mOk encL bdL mX2_sent (atR 0 (a1 sX2_sent)) := by
  refine mOVa1 kX2_sent (fun _ => rfl) (fun k s K h hb => wx_J [] 9 tX2_sent_ok rfl (fun J hR hJ => ?_))
  obtain ⟨h1, hK⟩ := h
  have hs := hb.2.2 0
  have h4 := hs.1 4
  unfold fSent at hK
  by_cases c : 0 ≤ k ∧ k < 4
  · rw [if_pos c] at hK
    have hK2 : K [pI (wSentOf ((lTell1 s ((s.2.2 0).1 4)).2.2 0) k)] (lTell1 s ((s.2.2 0).1 4)) := by rw [lTell1_w]; exact hK
    repeat' (first | (refine And.intro ?_ ?_) | intro _)
    all_goals first | omega | exact hR _ _ hK2
  · rw [if_neg c] at hK
    repeat' (first | (refine And.intro ?_ ?_) | intro _)
    all_goals first | omega | exact hR _ _ hK
def fClosed (s : LSt) (k : Int) : Int × LSt := if 0 ≤ k ∧ k < 6 then (wG (s.2.2 0) 5 k 4, lTell3 s (wG (s.2.2 0) 5 k 5) (wG (s.2.2 0) 5 k 6) (wG (s.2.2 0) 5 k 7)) else (-1, s)
def sX2_closed : Int → LSt → KL → Prop := fun k s K => xB k ∧ K [pI (fClosed s k).1] (fClosed s k).2
theorem mX2_closed_ok : mOk encL bdL mX2_closed (atR 0 (a1 sX2_closed)) := by
  refine mOVa1 kX2_closed (fun _ => rfl) (fun k s K h hb => wx_J [] 9 tX2_closed_ok rfl (fun J hR hJ => ?_))
  obtain ⟨h1, hK⟩ := h
  unfold fClosed at hK
  by_cases c : 0 ≤ k ∧ k < 6
  · rw [if_pos c] at hK
    have hK2 : K [pI (wG ((lTell3 s (wG (s.2.2 0) 5 k 5) (wG (s.2.2 0) 5 k 6) (wG (s.2.2 0) 5 k 7)).2.2 0) 5 k 4)] (lTell3 s (wG (s.2.2 0) 5 k 5) (wG (s.2.2 0) 5 k 6) (wG (s.2.2 0) 5 k 7)) := by rw [lTell3_w]; exact hK
    repeat' (first | (refine And.intro ?_ ?_) | intro _)
    all_goals first | omega | exact hR _ _ hK2
  · rw [if_neg c] at hK
    repeat' (first | (refine And.intro ?_ ?_) | intro _)
    all_goals first | omega | exact hR _ _ hK
def fTaken (s : LSt) : Int × LSt := ((s.2.2 0).1 6, lTell3 s ((s.2.2 0).1 7) ((s.2.2 0).1 8) ((s.2.2 0).1 9))
def sX2_taken : LSt → KL → Prop := fun s K => K [pI (fTaken s).1] (fTaken s).2
theorem mX2_taken_ok : mOk encL bdL mX2_taken (atR 0 (a0 sX2_taken)) := by
  refine mOVa0 kX2_taken (fun _ => rfl) (fun s K h hb => wx_J [] 9 tX2_taken_ok rfl (fun J hR hJ => ?_))
  have hK : K [pI (fTaken s).1] (fTaken s).2 := h
  unfold fTaken at hK
  have hK2 : K [pI (((lTell3 s ((s.2.2 0).1 7) ((s.2.2 0).1 8) ((s.2.2 0).1 9)).2.2 0).1 6)] (lTell3 s ((s.2.2 0).1 7) ((s.2.2 0).1 8) ((s.2.2 0).1 9)) := by rw [lTell3_w]; exact hK
  repeat' (first | (refine And.intro ?_ ?_) | intro _)
  all_goals first | omega | exact hR _ _ hK2
def fWould (s : LSt) (k t v r : Int) : Int × LSt := if lEv s k t v r then
  let w := s.2.2 0
  let s1 := setW s 1 (wCopy (s.2.2 1) w)
  let w2 := wPlayE (s1.2.2 1) k t v r
  (wFate (s1.2.2 1) t, lTell2 (setW s1 1 w2) (if wFate (s1.2.2 1) t = 2 then 0 else wMany w (wFirst w k t) k t) (wI (w2.1 4 - w.1 4))) else (-1, s)
def sX2_would : Int → Int → Int → Int → LSt → KL → Prop := fun k t v r s K => (xB k ∧ xB t ∧ xB v ∧ xB r ∧ lok s) ∧ K [pI (fWould s k t v r).1] (fWould s k t v r).2
theorem mX2_would_ok : mOk encL bdL mX2_would (atR 0 (a4 sX2_would)) := by
  refine mOVa4 kX2_would (fun _ _ _ _ => rfl) (fun k t v r s K h hb => wx_J [] 9 tX2_would_ok rfl (fun J hR hJ => ?_))
  obtain ⟨⟨h1, h2, h3, h4, h5⟩, hK⟩ := h
  have hw := h5.2.2.2 0 (by decide)
  have hw1 := h5.2.2.2 1 (by decide)
  have hw2 : wok ((setW s 1 (wCopy (s.2.2 1) (s.2.2 0))).2.2 1) := wok_Copy hw1 hw
  unfold fWould at hK
  by_cases c : lEv s k t v r
  · rw [if_pos c] at hK
    dsimp only at hK
    by_cases c2 : wFate ((setW s 1 (wCopy (s.2.2 1) (s.2.2 0))).2.2 1) t = 2
    · rw [if_pos c2] at hK
      repeat' (first | (refine And.intro ?_ ?_) | intro _)
      all_goals first | omega | exact (hw _ (by assumption)).1 | exact (hw _ (by assumption)).2 | exact (hw2 _ (by assumption)).1 | exact (hw2 _ (by assumption)).2 | exact hR _ _ hK | (exact absurd c2 ‹_›) | contradiction
    · rw [if_neg c2] at hK
      repeat' (first | (refine And.intro ?_ ?_) | intro _)
      all_goals first | omega | exact (hw _ (by assumption)).1 | exact (hw _ (by assumption)).2 | exact (hw2 _ (by assumption)).1 | exact (hw2 _ (by assumption)).2 | exact hR _ _ hK | (exact absurd ‹_› c2) | contradiction
  · rw [if_neg c] at hK
    repeat' (first | (refine And.intro ?_ ?_) | intro _)
    all_goals first | omega | exact (hw _ (by assumption)).1 | exact (hw _ (by assumption)).2 | exact hR _ _ hK | contradiction
theorem tell3K {K : KL} {s1 : LSt} {x y z : Int} (h : K [pI ((s1.2.2 1).1 3)] (lTell3 s1 x y z)) : K [pI (((lTell3 s1 x y z).2.2 1).1 3)] (lTell3 s1 x y z) := by
  rw [lTell3_w]; exact h
def fWithout (s : LSt) (r : Int) : Int × LSt := if lSrc s r then (if wZ (s.2.2 0) 0 = 1 then (-2, s) else
  let s1 := lReplay s ((s.2.2 0).1 0) ((s.2.2 0).1 1) ((s.2.2 0).1 2) r
  ((s1.2.2 1).1 3, lTell3 s1 ((s1.2.2 1).1 8) (wZ (s1.2.2 1) 1) ((s1.2.2 1).1 5))) else (-1, s)
def sX2_without : Int → LSt → KL → Prop := fun r s K => (xB r ∧ lok s) ∧ K [pI (fWithout s r).1] (fWithout s r).2
theorem mX2_without_ok : mOk encL bdL mX2_without (atR 0 (a1 sX2_without)) := by
  refine mOVa1 kX2_without (fun _ => rfl) (fun r s K h hb => wx_J [] 9 tX2_without_ok rfl (fun J hR hJ => ?_))
  obtain ⟨⟨h1, h5⟩, hK⟩ := h
  have hw := h5.2.2.2 0 (by decide)
  have hw1 := h5.2.2.2 1 (by decide)
  have hz : xB (wZ (s.2.2 0) 0) := ((hb.2.2 0).2 0).1
  unfold fWithout at hK
  refine ⟨h1, fun c => ?_, fun c => ?_⟩
  · rw [if_pos c] at hK
    refine ⟨⟨by omega, by omega⟩, fun _ _ => ⟨⟨hz, ⟨by omega, by omega⟩⟩, fun c2 => ?_, fun c2 => ?_⟩, fun q => absurd q (by omega)⟩
    · have c2 : wZ (s.2.2 0) 0 ≠ 1 := c2
      rw [if_neg c2] at hK
      exact fun g0 g1 g2 => ⟨⟨g0, g1, g2, h1, hw, hw1⟩, fun e8 => ⟨e8, fun ez => ⟨ez, fun e5 => ⟨e5, ⟨e8, ez, e5⟩, fun e3 => hR _ _ (tell3K hK)⟩⟩⟩⟩
    · have c2 : wZ (s.2.2 0) 0 = 1 := c2
      rw [if_pos c2] at hK
      exact hR _ _ hK
  · rw [if_neg c] at hK
    refine ⟨⟨by omega, by omega⟩, fun q => absurd rfl q, fun _ => hR _ _ hK⟩
/-- undone, kept -/
def fUndo (s : LSt) : Int × LSt := if s.1 1 = 0 then (-1, s) else
  let j := 2 + (Int.tmod (s.1 0 + (s.1 1 - 1)) 6).toNat
  (s.1 1 - 1, setW (setS s 1 (s.1 1 - 1)) 0 (wCopy (s.2.2 0) (s.2.2 j)))
def sX2_undo : LSt → KL → Prop := fun s K => lok s ∧ K [pI (fUndo s).1] (fUndo s).2
theorem mX2_undo_ok : mOk encL bdL mX2_undo (atR 0 (a0 sX2_undo)) := by
  refine mOVa0 kX2_undo (fun _ => rfl) (fun s K h hb => wx_J [] 9 tX2_undo_ok rfl (fun J hR hJ => ?_))
  obtain ⟨h5, hK⟩ := h
  obtain ⟨⟨⟨u1, u2⟩, u3, u4⟩, -, -, hws⟩ := h5
  unfold fUndo at hK
  by_cases c : s.1 1 = 0
  · rw [if_pos c] at hK
    repeat' (first | (refine And.intro ?_ ?_) | intro _)
    all_goals first | omega | exact hR _ _ hK
  · rw [if_neg c] at hK
    dsimp only at hK
    have t1 := Int.tmod_lt_of_pos (s.1 0 + (s.1 1 - 1)) (b := 6) (by omega)
    have t2 := Int.tmod_nonneg (a := s.1 0 + (s.1 1 - 1)) 6 (by omega)
    refine fun _ => ⟨⟨by omega, by omega⟩, fun _ => ?_, fun q => absurd q c⟩
    intro _
    refine ⟨⟨by omega, by omega⟩, ?_⟩
    intro _ _
    refine ⟨⟨by omega, ⟨?_, ?_⟩, ⟨by omega, by omega⟩⟩, ⟨t2, t1⟩, fun j hj ej => ?_⟩
    · show -2147483648 ≤ s.1 0 + (s.1 1 - 1)
      omega
    · show s.1 0 + (s.1 1 - 1) ≤ 2147483647
      omega
    · have ej2 : Int.tmod (s.1 0 + (s.1 1 - 1)) 6 = (j : Int) := ej
      rw [show (Int.tmod (s.1 0 + (s.1 1 - 1)) 6).toNat = j by omega] at hK
      match j, hj with
      | 0, _ => exact ⟨hws 2 (by decide), fun _ => hR _ _ hK⟩
      | 1, _ => exact ⟨hws 3 (by decide), fun _ => hR _ _ hK⟩
      | 2, _ => exact ⟨hws 4 (by decide), fun _ => hR _ _ hK⟩
      | 3, _ => exact ⟨hws 5 (by decide), fun _ => hR _ _ hK⟩
      | 4, _ => exact ⟨hws 6 (by decide), fun _ => hR _ _ hK⟩
      | 5, _ => exact ⟨hws 7 (by decide), fun _ => hR _ _ hK⟩
      | j + 6, hj => exact absurd hj (by omega)
