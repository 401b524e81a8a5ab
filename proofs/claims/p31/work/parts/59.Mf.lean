/-! ===== the model: starts, lays, undo, keep, back; its face, first part ===== -/
-- X3_starts: heads [3, 34, 67]
def tX3_starts : Nat → Blk MS := fun pc => bif Nat.blt pc 34 then (bif Nat.blt pc 3 then (bif Nat.beq pc 0 then (oI 0 <| oIst 6 <| oM [true, true, true, true, true, true, true] (oTo 3)) else oNo) else (bif Nat.blt pc 31 then (bif Nat.beq pc 3 then (oIld 6 <| oI 2804 <| oCGe 31 <| oAld 0 <| oGet (fgM) 3 7 <| oIld 1 <| oI 2804 <| oMul <| oIld 6 <| oAdd <| oI 0 <| oIas (agM) (apM) <| oInc 6 1 <| oM [true, true, true, true, true, true, true] (oTo 3)) else oNo) else (bif Nat.beq pc 31 then (oI 0 <| oIst 6 <| oM [true, true, true, true, true, true, true] (oTo 34)) else oNo))) else (bif Nat.blt pc 67 then (bif Nat.blt pc 64 then (bif Nat.beq pc 34 then (oIld 6 <| oI 6 <| oCGe 64 <| oAld 0 <| oGet (fgM) 3 7 <| oIld 1 <| oI 2804 <| oMul <| oI 54 <| oAdd <| oIld 6 <| oAdd <| oI (-1) <| oIas (agM) (apM) <| oInc 6 1 <| oM [true, true, true, true, true, true, true] (oTo 34)) else oNo) else (bif Nat.beq pc 64 then (oI 0 <| oIst 6 <| oM [true, true, true, true, true, true, true] (oTo 67)) else oNo)) else (bif Nat.blt pc 97 then (bif Nat.beq pc 67 then (oIld 6 <| oI 4 <| oCGe 97 <| oAld 0 <| oGet (fgM) 3 7 <| oIld 1 <| oI 2804 <| oMul <| oI 16 <| oAdd <| oIld 6 <| oAdd <| oI 20 <| oIas (agM) (apM) <| oInc 6 1 <| oM [true, true, true, true, true, true, true] (oTo 67)) else oNo) else (bif Nat.beq pc 97 then (oAld 0 <| oIld 1 <| oI 0 <| oIld 2 <| oC4 (cM_X3_puts) <| oAld 0 <| oIld 1 <| oI 1 <| oIld 3 <| oC4 (cM_X3_puts) <| oAld 0 <| oIld 1 <| oI 2 <| oIld 4 <| oC4 (cM_X3_puts) <| oAld 0 <| oIld 1 <| oI 3 <| oIld 5 <| oC4 (cM_X3_puts) <| oVret) else oNo)))
theorem tX3_starts_ok : ∀ pc, bOk (encM) (bdM) mX3_starts 0 0 pc (tX3_starts pc) := fun pc => (tNode (tNode (tLeaf (okIc iX3_starts_0 <| okIst iX3_starts_1 (by decide) <| okM (okTo (tl rfl)))) (tNode (tLeaf (okIld iX3_starts_3 <| okSi iX3_starts_5 (by decide) <| okCGe (tl rfl) iX3_starts_8 <| okAldn iX3_starts_11 rfl <| okGet (vFgM) iX3_starts_12 <| okIldn iX3_starts_15 rfl <| okSi iX3_starts_16 (by decide) <| okMul iX3_starts_19 <| okIld iX3_starts_20 <| okAdd iX3_starts_22 <| okIc iX3_starts_23 <| okIas (vAgM) iX3_starts_24 <| okInc iX3_starts_25 (by decide) <| okGotoM (tl rfl) iX3_starts_28)) (tLeaf (okIc iX3_starts_31 <| okIst iX3_starts_32 (by decide) <| okM (okTo (tl rfl)))))) (tNode (tNode (tLeaf (okIld iX3_starts_34 <| okBi iX3_starts_36 (by decide) <| okCGe (tl rfl) iX3_starts_38 <| okAldn iX3_starts_41 rfl <| okGet (vFgM) iX3_starts_42 <| okIldn iX3_starts_45 rfl <| okSi iX3_starts_46 (by decide) <| okMul iX3_starts_49 <| okBi iX3_starts_50 (by decide) <| okAdd iX3_starts_52 <| okIld iX3_starts_53 <| okAdd iX3_starts_55 <| okIc iX3_starts_56 <| okIas (vAgM) iX3_starts_57 <| okInc iX3_starts_58 (by decide) <| okGotoM (tl rfl) iX3_starts_61)) (tLeaf (okIc iX3_starts_64 <| okIst iX3_starts_65 (by decide) <| okM (okTo (tl rfl))))) (tNode (tLeaf (okIld iX3_starts_67 <| okIc iX3_starts_69 <| okCGe (tl rfl) iX3_starts_70 <| okAldn iX3_starts_73 rfl <| okGet (vFgM) iX3_starts_74 <| okIldn iX3_starts_77 rfl <| okSi iX3_starts_78 (by decide) <| okMul iX3_starts_81 <| okBi iX3_starts_82 (by decide) <| okAdd iX3_starts_84 <| okIld iX3_starts_85 <| okAdd iX3_starts_87 <| okBi iX3_starts_88 (by decide) <| okIas (vAgM) iX3_starts_90 <| okInc iX3_starts_91 (by decide) <| okGotoM (tl rfl) iX3_starts_94)) (tLeaf (okAldn iX3_starts_97 rfl <| okIldn iX3_starts_98 rfl <| okIc iX3_starts_99 <| okIldn iX3_starts_100 rfl <| okC4 (qM_X3_puts iX3_starts_101) <| okAldn iX3_starts_104 rfl <| okIldn iX3_starts_105 rfl <| okIc iX3_starts_106 <| okIldn iX3_starts_107 rfl <| okC4 (qM_X3_puts iX3_starts_108) <| okAldn iX3_starts_111 rfl <| okIldn iX3_starts_112 rfl <| okIc iX3_starts_113 <| okIld iX3_starts_114 <| okC4 (qM_X3_puts iX3_starts_116) <| okAldn iX3_starts_119 rfl <| okIldn iX3_starts_120 rfl <| okIc iX3_starts_121 <| okIld iX3_starts_122 <| okC4 (qM_X3_puts iX3_starts_124) <| okVret iX3_starts_127 rfl))))) pc
-- X3_lays: heads [11]
def tX3_lays : Nat → Blk MS := fun pc => bif Nat.blt pc 37 then (bif Nat.blt pc 11 then (bif Nat.beq pc 0 then (oAld 0 <| oGet (fgM) 3 8 <| oI 6 <| oCNe 47 <| oI 0 <| oIst 1 <| oM [true, true] (oTo 11)) else oNo) else (bif Nat.beq pc 11 then (oIld 1 <| oI 1 <| oAdd <| oI 6 <| oCGe 37 <| oAld 0 <| oI 5 <| oIld 1 <| oAdd <| oI 1 <| oAdd <| oI 5 <| oIld 1 <| oAdd <| oC3 (cM_X3_copies) <| oInc 1 1 <| oM [true, true] (oTo 11)) else oNo)) else (bif Nat.blt pc 47 then (bif Nat.beq pc 37 then (oAld 0 <| oDup <| oGet (fgM) 3 8 <| oI 1 <| oSub <| oPut (fpM) 3 8 <| oTo 47) else oNo) else (bif Nat.beq pc 47 then (oAld 0 <| oI 3 <| oI 5 <| oAld 0 <| oGet (fgM) 3 8 <| oAdd <| oC3 (cM_X3_copies) <| oAld 0 <| oDup <| oGet (fgM) 3 8 <| oI 1 <| oAdd <| oPut (fpM) 3 8 <| oVret) else oNo))
theorem tX3_lays_ok : ∀ pc, bOk (encM) (bdM) mX3_lays 0 0 pc (tX3_lays pc) := fun pc => (tNode (tNode (tLeaf (okAldn iX3_lays_0 rfl <| okGet (vFgM) iX3_lays_1 <| okBi iX3_lays_4 (by decide) <| okCNe (tl rfl) iX3_lays_6 <| okIc iX3_lays_9 <| okIstn iX3_lays_10 rfl (by decide) <| okM (okTo (tl rfl)))) (tLeaf (okIldn iX3_lays_11 rfl <| okIc iX3_lays_12 <| okAdd iX3_lays_13 <| okBi iX3_lays_14 (by decide) <| okCGe (tl rfl) iX3_lays_16 <| okAldn iX3_lays_19 rfl <| okIc iX3_lays_20 <| okIldn iX3_lays_21 rfl <| okAdd iX3_lays_22 <| okIc iX3_lays_23 <| okAdd iX3_lays_24 <| okIc iX3_lays_25 <| okIldn iX3_lays_26 rfl <| okAdd iX3_lays_27 <| okC3 (qM_X3_copies iX3_lays_28) <| okInc iX3_lays_31 (by decide) <| okGotoM (tl rfl) iX3_lays_34))) (tNode (tLeaf (okAldn iX3_lays_37 rfl <| okDup iX3_lays_38 <| okGet (vFgM) iX3_lays_39 <| okIc iX3_lays_42 <| okSub iX3_lays_43 <| okPut (vFpM) iX3_lays_44 <| okTo (tl rfl))) (tLeaf (okAldn iX3_lays_47 rfl <| okIc iX3_lays_48 <| okIc iX3_lays_49 <| okAldn iX3_lays_50 rfl <| okGet (vFgM) iX3_lays_51 <| okAdd iX3_lays_54 <| okC3 (qM_X3_copies iX3_lays_55) <| okAldn iX3_lays_58 rfl <| okDup iX3_lays_59 <| okGet (vFgM) iX3_lays_60 <| okIc iX3_lays_63 <| okAdd iX3_lays_64 <| okPut (vFpM) iX3_lays_65 <| okVret iX3_lays_68 rfl)))) pc
-- X3_undo: heads []
def tX3_undo : Nat → Blk MS := fun pc => bif Nat.blt pc 14 then (bif Nat.beq pc 0 then (oAld 0 <| oI 0 <| oPut (fpM) 3 0 <| oAld 0 <| oGet (fgM) 3 8 <| oZNe 14 <| oI (-1) <| oIret) else oNo) else (bif Nat.beq pc 14 then (oAld 0 <| oDup <| oGet (fgM) 3 8 <| oI 1 <| oSub <| oPut (fpM) 3 8 <| oAld 0 <| oI 5 <| oAld 0 <| oGet (fgM) 3 8 <| oAdd <| oI 0 <| oC3 (cM_X3_copies) <| oAld 0 <| oGet (fgM) 3 8 <| oIret) else oNo)
theorem tX3_undo_ok : ∀ pc, bOk (encM) (bdM) mX3_undo 0 0 pc (tX3_undo pc) := fun pc => (tNode (tLeaf (okAldn iX3_undo_0 rfl <| okIc iX3_undo_1 <| okPut (vFpM) iX3_undo_2 <| okAldn iX3_undo_5 rfl <| okGet (vFgM) iX3_undo_6 <| okZNe (tl rfl) iX3_undo_9 <| okIc iX3_undo_12 <| okIret iX3_undo_13 rfl)) (tLeaf (okAldn iX3_undo_14 rfl <| okDup iX3_undo_15 <| okGet (vFgM) iX3_undo_16 <| okIc iX3_undo_19 <| okSub iX3_undo_20 <| okPut (vFpM) iX3_undo_21 <| okAldn iX3_undo_24 rfl <| okIc iX3_undo_25 <| okAldn iX3_undo_26 rfl <| okGet (vFgM) iX3_undo_27 <| okAdd iX3_undo_30 <| okIc iX3_undo_31 <| okC3 (qM_X3_copies iX3_undo_32) <| okAldn iX3_undo_35 rfl <| okGet (vFgM) iX3_undo_36 <| okIret iX3_undo_39 rfl))) pc
-- X3_keep: heads []
def tX3_keep : Nat → Blk MS := fun pc => bif Nat.blt pc 17 then (bif Nat.beq pc 0 then (oAld 0 <| oI 0 <| oPut (fpM) 3 0 <| oIld 1 <| oI2l <| oJ 0 <| oJ 1 <| oC3 (cM_X3_in) <| oZNe 17 <| oI 0 <| oZret) else oNo) else (bif Nat.beq pc 17 then (oAld 0 <| oGet (fgM) 3 22 <| oIld 1 <| oI 1 <| oZas (agM) (apM) <| oAld 0 <| oI 0 <| oI 1 <| oIld 1 <| oAdd <| oC3 (cM_X3_copies) <| oI 1 <| oZret) else oNo)
theorem tX3_keep_ok : ∀ pc, bOk (encM) (bdM) mX3_keep 0 0 pc (tX3_keep pc) := fun pc => (tNode (tLeaf (okAldn iX3_keep_0 rfl <| okIc iX3_keep_1 <| okPut (vFpM) iX3_keep_2 <| okIldn iX3_keep_5 rfl <| okI2l iX3_keep_6 <| okLc iX3_keep_7 rfl <| okLc iX3_keep_8 rfl <| okC3 (qM_X3_in iX3_keep_9) <| okZNe (tl rfl) iX3_keep_12 <| okIc iX3_keep_15 <| okZret iX3_keep_16 rfl)) (tLeaf (okAldn iX3_keep_17 rfl <| okGet (vFgM) iX3_keep_18 <| okIldn iX3_keep_21 rfl <| okIc iX3_keep_22 <| okZas (vAgM) iX3_keep_23 <| okAldn iX3_keep_24 rfl <| okIc iX3_keep_25 <| okIc iX3_keep_26 <| okIldn iX3_keep_27 rfl <| okAdd iX3_keep_28 <| okC3 (qM_X3_copies iX3_keep_29) <| okIc iX3_keep_32 <| okZret iX3_keep_33 rfl))) pc
-- X3_back: heads []
def tX3_back : Nat → Blk MS := fun pc => bif Nat.blt pc 24 then (bif Nat.beq pc 0 then (oAld 0 <| oI 0 <| oPut (fpM) 3 0 <| oIld 1 <| oI2l <| oJ 0 <| oJ 1 <| oC3 (cM_X3_in) <| oZEq 24 <| oAld 0 <| oGet (fgM) 3 22 <| oIld 1 <| oZa (agM) <| oZNe 26 <| oTo 24) else oNo) else (bif Nat.blt pc 26 then (bif Nat.beq pc 24 then (oI 0 <| oZret) else oNo) else (bif Nat.beq pc 26 then (oAld 0 <| oI 1 <| oIld 1 <| oAdd <| oI 0 <| oC3 (cM_X3_copies) <| oAld 0 <| oI 0 <| oPut (fpM) 3 8 <| oI 1 <| oZret) else oNo))
theorem tX3_back_ok : ∀ pc, bOk (encM) (bdM) mX3_back 0 0 pc (tX3_back pc) := fun pc => (tNode (tLeaf (okAldn iX3_back_0 rfl <| okIc iX3_back_1 <| okPut (vFpM) iX3_back_2 <| okIldn iX3_back_5 rfl <| okI2l iX3_back_6 <| okLc iX3_back_7 rfl <| okLc iX3_back_8 rfl <| okC3 (qM_X3_in iX3_back_9) <| okZEq (tl rfl) iX3_back_12 <| okAldn iX3_back_15 rfl <| okGet (vFgM) iX3_back_16 <| okIldn iX3_back_19 rfl <| okZa (vAgM) iX3_back_20 <| okZNe (tl rfl) iX3_back_21 <| okTo (tl rfl))) (tNode (tLeaf (okIc iX3_back_24 <| okZret iX3_back_25 rfl)) (tLeaf (okAldn iX3_back_26 rfl <| okIc iX3_back_27 <| okIldn iX3_back_28 rfl <| okAdd iX3_back_29 <| okIc iX3_back_30 <| okC3 (qM_X3_copies iX3_back_31) <| okAldn iX3_back_34 rfl <| okIc iX3_back_35 <| okPut (vFpM) iX3_back_36 <| okIc iX3_back_39 <| okZret iX3_back_40 rfl)))) pc
-- X3_sign: heads [18]
def tX3_sign : Nat → Blk MS := fun pc => bif Nat.blt pc 18 then (bif Nat.blt pc 16 then (bif Nat.beq pc 0 then (oAld 0 <| oI 0 <| oPut (fpM) 3 0 <| oAld 0 <| oGet (fgM) 3 4 <| oI 76 <| oCLe 16 <| oI (-1) <| oIret) else oNo) else (bif Nat.beq pc 16 then (oI 0 <| oIst 2 <| oM [true, true, true] (oTo 18)) else oNo)) else (bif Nat.blt pc 53 then (bif Nat.beq pc 18 then (oIld 2 <| oI 4 <| oCGe 53 <| oAld 0 <| oGet (fgM) 3 3 <| oAld 0 <| oGet (fgM) 3 4 <| oIld 2 <| oAdd <| oIld 1 <| oI 24 <| oI 8 <| oIld 2 <| oMul <| oSub <| oShr <| oI 255 <| oAnd <| oIas (agM) (apM) <| oInc 2 1 <| oM [true, true, true] (oTo 18)) else oNo) else (bif Nat.beq pc 53 then (oAld 0 <| oDup <| oGet (fgM) 3 4 <| oI 4 <| oAdd <| oPut (fpM) 3 4 <| oAld 0 <| oGet (fgM) 3 4 <| oIret) else oNo))
theorem tX3_sign_ok : ∀ pc, bOk (encM) (bdM) mX3_sign 0 0 pc (tX3_sign pc) := fun pc => (tNode (tNode (tLeaf (okAldn iX3_sign_0 rfl <| okIc iX3_sign_1 <| okPut (vFpM) iX3_sign_2 <| okAldn iX3_sign_5 rfl <| okGet (vFgM) iX3_sign_6 <| okBi iX3_sign_9 (by decide) <| okCLe (tl rfl) iX3_sign_11 <| okIc iX3_sign_14 <| okIret iX3_sign_15 rfl)) (tLeaf (okIc iX3_sign_16 <| okIstn iX3_sign_17 rfl (by decide) <| okM (okTo (tl rfl))))) (tNode (tLeaf (okIldn iX3_sign_18 rfl <| okIc iX3_sign_19 <| okCGe (tl rfl) iX3_sign_20 <| okAldn iX3_sign_23 rfl <| okGet (vFgM) iX3_sign_24 <| okAldn iX3_sign_27 rfl <| okGet (vFgM) iX3_sign_28 <| okIldn iX3_sign_31 rfl <| okAdd iX3_sign_32 <| okIldn iX3_sign_33 rfl <| okBi iX3_sign_34 (by decide) <| okBi iX3_sign_36 (by decide) <| okIldn iX3_sign_38 rfl <| okMul iX3_sign_39 <| okSub iX3_sign_40 <| okShr iX3_sign_41 <| okSi iX3_sign_42 (by decide) <| okAnd iX3_sign_45 <| okIas (vAgM) iX3_sign_46 <| okInc iX3_sign_47 (by decide) <| okGotoM (tl rfl) iX3_sign_50)) (tLeaf (okAldn iX3_sign_53 rfl <| okDup iX3_sign_54 <| okGet (vFgM) iX3_sign_55 <| okIc iX3_sign_58 <| okAdd iX3_sign_59 <| okPut (vFpM) iX3_sign_60 <| okAldn iX3_sign_63 rfl <| okGet (vFgM) iX3_sign_64 <| okIret iX3_sign_67 rfl)))) pc
-- X3_end: heads []
def tX3_end : Nat → Blk MS := fun pc => bif Nat.blt pc 21 then (bif Nat.beq pc 0 then (oAld 0 <| oI 0 <| oPut (fpM) 3 0 <| oIld 1 <| oI2l <| oJ 0 <| oAld 0 <| oGet (fgM) 3 4 <| oI2l <| oC3 (cM_X3_in) <| oZNe 21 <| oI 0 <| oZret) else oNo) else (bif Nat.beq pc 21 then (oAld 0 <| oIld 1 <| oPut (fpM) 3 4 <| oI 1 <| oZret) else oNo)
theorem tX3_end_ok : ∀ pc, bOk (encM) (bdM) mX3_end 0 0 pc (tX3_end pc) := fun pc => (tNode (tLeaf (okAldn iX3_end_0 rfl <| okIc iX3_end_1 <| okPut (vFpM) iX3_end_2 <| okIldn iX3_end_5 rfl <| okI2l iX3_end_6 <| okLc iX3_end_7 rfl <| okAldn iX3_end_8 rfl <| okGet (vFgM) iX3_end_9 <| okI2l iX3_end_12 <| okC3 (qM_X3_in iX3_end_13) <| okZNe (tl rfl) iX3_end_16 <| okIc iX3_end_19 <| okZret iX3_end_20 rfl)) (tLeaf (okAldn iX3_end_21 rfl <| okIldn iX3_end_22 rfl <| okPut (vFpM) iX3_end_23 <| okIc iX3_end_26 <| okZret iX3_end_27 rfl))) pc
-- X3_isEvent: heads []
def tX3_isEvent : Nat → Blk MS := fun pc => bif Nat.blt pc 51 then (bif Nat.beq pc 0 then (oIld 1 <| oI2l <| oJ 0 <| oJ 5 <| oC3 (cM_X3_in) <| oZEq 51 <| oIld 2 <| oI2l <| oJ 0 <| oJ 9999 <| oC3 (cM_X3_in) <| oZEq 51 <| oIld 3 <| oI2l <| oJ (-99) <| oJ 99 <| oC3 (cM_X3_in) <| oZEq 51 <| oAld 0 <| oIld 4 <| oC2 (cM_X3_isSource) <| oZEq 51 <| oI 1 <| oTo 52) else oNo) else (bif Nat.blt pc 52 then (bif Nat.beq pc 51 then (oI 0 <| oTo 52) else oNo) else (bif Nat.beq pc 52 then (oZret) else oNo))
theorem tX3_isEvent_ok : ∀ pc, bOk (encM) (bdM) mX3_isEvent 0 0 pc (tX3_isEvent pc) := fun pc => (tNode (tLeaf (okIldn iX3_isEvent_0 rfl <| okI2l iX3_isEvent_1 <| okLc iX3_isEvent_2 rfl <| okLdc2 (v := 5) iX3_isEvent_3 (xl_Ti 1027 (by decide +kernel) rfl) (by decide) <| okC3 (qM_X3_in iX3_isEvent_6) <| okZEq (tl rfl) iX3_isEvent_9 <| okIldn iX3_isEvent_12 rfl <| okI2l iX3_isEvent_13 <| okLc iX3_isEvent_14 rfl <| okLdc2 (v := 9999) iX3_isEvent_15 (xl_Ti 1028 (by decide +kernel) rfl) (by decide) <| okC3 (qM_X3_in iX3_isEvent_18) <| okZEq (tl rfl) iX3_isEvent_21 <| okIldn iX3_isEvent_24 rfl <| okI2l iX3_isEvent_25 <| okLdc2 (v := (-99)) iX3_isEvent_26 (xl_Ti 1029 (by decide +kernel) rfl) (by decide) <| okLdc2 (v := 99) iX3_isEvent_29 (xl_Ti 992 (by decide +kernel) rfl) (by decide) <| okC3 (qM_X3_in iX3_isEvent_32) <| okZEq (tl rfl) iX3_isEvent_35 <| okAldn iX3_isEvent_38 rfl <| okIld iX3_isEvent_39 <| okC2 (qM_X3_isSource iX3_isEvent_41) <| okZEq (tl rfl) iX3_isEvent_44 <| okIc iX3_isEvent_47 <| okGoto (tl rfl) iX3_isEvent_48)) (tNode (tLeaf (okIc iX3_isEvent_51 <| okTo (tl rfl))) (tLeaf (okZret iX3_isEvent_52 rfl)))) pc
def mZero (s : MS) (d : Int) : MS := mA s 3 (fun j => if (d * 2804).toNat ≤ j ∧ j < (d * 2804).toNat + 2804 then 0 else s.2 3 j)
def stL2 (d : Int) : Nat → Int → MS → MS
  | 0, _, s => s
  | m + 1, k, s => stL2 d m (k + 1) (mP s (d * 2804 + 54 + k) (-1))
def stL3 (d : Int) : Nat → Int → MS → MS
  | 0, _, s => s
  | m + 1, k, s => stL3 d m (k + 1) (mP s (d * 2804 + 16 + k) 20)
def mStart4 (s : MS) (d n g l e : Int) : MS := mP (mP (mP (mP s (d * 2804 + 0) n) (d * 2804 + 1) g) (d * 2804 + 2) l) (d * 2804 + 3) e
def mStarts (s : MS) (d n g l e : Int) : MS := mStart4 (stL3 d 4 0 (stL2 d 6 0 (mZero s d))) d n g l e
section STA
variable {K : KM} {Pt : MS → Prop} (d n g l e : Int) (hd : dOk d) (hn : xB n) (hg : xB g) (hl : xB l) (he : xB e)
theorem X3_starts_l3 : dOk d → xB n → xB g → xB l → xB e → ∀ (m : Nat) (k : Int) (s : MS), 0 ≤ k → k ≤ 4 → m = (4 - k).toNat → K [] (mStart4 (stL3 d m k s) d n g l e) → wX encM bdM mX3_starts 0 0 K Pt 67 [some (pR 0), some (pI d), some (pI n), some (pI g), some (pI l), some (pI e), some (pI k)] [] s := by
  intro hd hn hg hl he m
  induction m with
  | zero =>
    intro k s h0 h1 hm hK
    refine wx_J [3, 34, 67] 9 tX3_starts_ok rfl (fun J hR hJ => ?_)
    repeat' (first | (refine And.intro ?_ ?_) | (intro hq; first | (exact absurd hq (by omega)) | skip))
    all_goals first | omega | exact hR _ _ hK
  | succ m ih =>
    intro k s h0 h1 hm hK
    refine wx_J [3, 34, 67] 9 tX3_starts_ok rfl (fun J hR hJ => ?_)
    rw [stL3] at hK
    have g := ih (k + 1) _ (by omega) (by omega) (by omega) hK
    repeat' (first | (refine And.intro ?_ ?_) | (intro hq; first | (exact absurd hq (by omega)) | skip))
    all_goals first | omega | exact hJ _ _ _ _ g
theorem X3_starts_l2 : dOk d → xB n → xB g → xB l → xB e → ∀ (m : Nat) (k : Int) (s : MS), 0 ≤ k → k ≤ 6 → m = (6 - k).toNat → K [] (mStart4 (stL3 d 4 0 (stL2 d m k s)) d n g l e) → wX encM bdM mX3_starts 0 0 K Pt 34 [some (pR 0), some (pI d), some (pI n), some (pI g), some (pI l), some (pI e), some (pI k)] [] s := by
  intro hd hn hg hl he m
  induction m with
  | zero =>
    intro k s h0 h1 hm hK
    refine wx_J [3, 34, 67] 9 tX3_starts_ok rfl (fun J hR hJ => ?_)
    rw [stL2] at hK
    have g := X3_starts_l3 (K := K) (Pt := Pt) d n g l e hd hn hg hl he 4 0 s (by omega) (by omega) (by omega) hK
    repeat' (first | (refine And.intro ?_ ?_) | (intro hq; first | (exact absurd hq (by omega)) | skip))
    all_goals first | omega | exact hJ _ _ _ _ g
  | succ m ih =>
    intro k s h0 h1 hm hK
    refine wx_J [3, 34, 67] 9 tX3_starts_ok rfl (fun J hR hJ => ?_)
    rw [stL2] at hK
    have g := ih (k + 1) _ (by omega) (by omega) (by omega) hK
    repeat' (first | (refine And.intro ?_ ?_) | (intro hq; first | (exact absurd hq (by omega)) | skip))
    all_goals first | omega | exact hJ _ _ _ _ g
theorem X3_starts_l1 (s : MS) : dOk d → xB n → xB g → xB l → xB e → K [] (mStarts s d n g l e) → ∀ (m k : Nat), k ≤ 2804 → m = 2804 - k → wX encM bdM mX3_starts 0 0 K Pt 3 [some (pR 0), some (pI d), some (pI n), some (pI g), some (pI l), some (pI e), some (pI k)] [] (mA s 3 (fun j => if (d * 2804).toNat ≤ j ∧ j < (d * 2804).toNat + k then 0 else s.2 3 j)) := by
  intro hd hn hg hl he hK m
  induction m with
  | zero =>
    intro k h1 hm
    have : k = 2804 := by omega
    subst this
    refine wx_J [3, 34, 67] 9 tX3_starts_ok rfl (fun J hR hJ => ?_)
    have g := X3_starts_l2 (K := K) (Pt := Pt) d n g l e hd hn hg hl he 6 0 _ (by omega) (by omega) (by omega) hK
    repeat' (first | (refine And.intro ?_ ?_) | (intro hq; first | (exact absurd hq (by omega)) | skip))
    all_goals first | omega | exact hJ _ _ _ _ g
  | succ m ih =>
    intro k h1 hm
    refine wx_J [3, 34, 67] 9 tX3_starts_ok rfl (fun J hR hJ => ?_)
    have g := ih (k + 1) (by omega) (by omega)
    have e1 : ((d * 2804 + (k : Int))).toNat = (d * 2804).toNat + k := by omega
    have e : (fun j => if (d * 2804).toNat ≤ j ∧ j < (d * 2804).toNat + (k + 1) then 0 else s.2 3 j) = xup (fun j => if (d * 2804).toNat ≤ j ∧ j < (d * 2804).toNat + k then 0 else s.2 3 j) ((d * 2804 + (k : Int))).toNat 0 := by
      rw [e1]
      funext j
      unfold xup
      by_cases q : j = (d * 2804).toNat + k
      · rw [if_pos q, if_pos (by omega)]
      · rw [if_neg q]
        dsimp only
        by_cases q2 : (d * 2804).toNat ≤ j ∧ j < (d * 2804).toNat + k
        · rw [if_pos q2, if_pos (by omega)]
        · rw [if_neg q2, if_neg (by omega)]
    rw [e, show ((k + 1 : Nat) : Int) = (k : Int) + 1 by omega, ← mA_mA s 3 (fun j => if (d * 2804).toNat ≤ j ∧ j < (d * 2804).toNat + k then 0 else s.2 3 j)] at g
    repeat' (first | (refine And.intro ?_ ?_) | (intro hq; first | (exact absurd hq (by omega)) | skip))
    all_goals first | omega | exact hJ _ _ _ _ g
end STA
def sX3_starts : Int → Int → Int → Int → Int → MS → KM → Prop := fun d n g l e s K => (dOk d ∧ xB n ∧ xB g ∧ xB l ∧ xB e) ∧ K [] (mStarts s d n g l e)
theorem mX3_starts_ok : mOk encM bdM mX3_starts (atR 0 (a5 sX3_starts)) := by
  refine mOVa5 kX3_starts (fun _ _ _ _ _ => rfl) (fun d n g l e s K h hb => wx_J [3, 34, 67] 9 tX3_starts_ok rfl (fun J hR hJ => ?_))
  obtain ⟨⟨h1, h2, h3, h4, h5⟩, hK⟩ := h
  have g := X3_starts_l1 (K := K) (Pt := fun _ => False) d n g l e s h1 h2 h3 h4 h5 hK 2804 0 (by omega) (by omega)
  have e : (fun j => if (d * 2804).toNat ≤ j ∧ j < (d * 2804).toNat + 0 then 0 else s.2 3 j) = s.2 3 := by
    funext j
    rw [if_neg (by omega)]
  rw [e, mA_self] at g
  exact hJ _ _ _ _ g
def cM_X3_starts : Sp MS := atR 0 (a5 sX3_starts)
theorem qM_X3_starts {M : XI} {rc rs pc pc2 : Nat} (d : xl_Ca M pc mX3_starts pc2) : cOk encM bdM M rc rs pc pc2 6 cM_X3_starts := cSame mX3_starts_ok vX3_starts d mcl rfl lenM recM
def lyL : Nat → Int → MS → MS
  | 0, _, s => s
  | m + 1, k, s => lyL m (k + 1) (mCopy s (5 + k + 1) (5 + k))
theorem lyL_1 : ∀ (m : Nat) (k : Int) (s : MS), (lyL m k s).1 = s.1
  | 0, _, _ => rfl
  | m + 1, k, s => by rw [lyL, lyL_1 m]; rfl
def mLays2 (s : MS) : MS := mS (mCopy s 3 (5 + s.1 8)) 8 (s.1 8 + 1)
def mLays (s : MS) : MS := if s.1 8 = 6 then mLays2 (mS (lyL 5 0 s) 8 (s.1 8 - 1)) else mLays2 s
theorem X3_lays_l {K : KM} {Pt : MS → Prop} : ∀ (m : Nat) (k : Int) (s : MS), s.1 8 = 6 → 0 ≤ k → k ≤ 5 → m = (5 - k).toNat → K [] (mLays2 (mS (lyL m k s) 8 (s.1 8 - 1))) → wX encM bdM mX3_lays 0 0 K Pt 11 [some (pR 0), some (pI k)] [] s := by
  intro m
  induction m with
  | zero =>
    intro k s hu h0 h1 hm hK
    refine wx_J [11] 9 tX3_lays_ok rfl (fun J hR hJ => ?_)
    rw [lyL] at hK
    have e1 : (mS s 8 (s.1 8 - 1)).1 8 = 5 := by show s.1 8 - 1 = 5; omega
    refine ⟨⟨⟨by omega, by omega⟩, ⟨by omega, by omega⟩⟩, fun _ => ?_, fun c => absurd c (by omega)⟩
    refine fun _ => ⟨⟨by omega, by omega⟩, ?_⟩
    refine fun _ => ⟨⟨⟨by omega, by omega⟩, ⟨?_, ?_⟩⟩, ?_⟩
    · show 0 ≤ 5 + (s.1 8 - 1)
      omega
    · show 5 + (s.1 8 - 1) ≤ 10
      omega
    · refine fun _ => ⟨⟨?_, ?_⟩, hR _ _ hK⟩
      · show -2147483648 ≤ s.1 8 - 1 + 1
        omega
      · show s.1 8 - 1 + 1 ≤ 2147483647
        omega
  | succ m ih =>
    intro k s hu h0 h1 hm hK
    refine wx_J [11] 9 tX3_lays_ok rfl (fun J hR hJ => ?_)
    rw [lyL] at hK
    have g := ih (k + 1) (mCopy s (5 + k + 1) (5 + k)) hu (by omega) (by omega) (by omega) hK
    repeat' (first | (refine And.intro ?_ ?_) | (intro hq; first | (exact absurd hq (by omega)) | skip))
    all_goals first | omega | exact hJ _ _ _ _ g
def sX3_lays : MS → KM → Prop := fun s K => (0 ≤ s.1 8 ∧ s.1 8 ≤ 6) ∧ K [] (mLays s)
theorem mX3_lays_ok : mOk encM bdM mX3_lays (atR 0 (a0 sX3_lays)) := by
  refine mOVa0 kX3_lays (fun _ => rfl) (fun s K h hb => wx_J [11] 9 tX3_lays_ok rfl (fun J hR hJ => ?_))
  obtain ⟨h1, hK⟩ := h
  unfold mLays at hK
  by_cases c : s.1 8 = 6
  · rw [if_pos c] at hK
    have g := X3_lays_l (K := K) (Pt := fun _ => False) 5 0 s c (by omega) (by omega) (by omega) hK
    exact fun _ => ⟨⟨by assumption, ⟨by omega, by omega⟩⟩, fun q => absurd c q, fun _ => hJ _ _ _ _ g⟩
  · rw [if_neg c] at hK
    refine fun h8 => ⟨⟨h8, ⟨by omega, by omega⟩⟩, fun _ => ?_, fun q => absurd q c⟩
    refine fun _ => ⟨⟨⟨by omega, by omega⟩, ⟨by omega, by omega⟩⟩, fun _ => ⟨⟨?_, ?_⟩, hR _ _ hK⟩⟩
    · show -2147483648 ≤ s.1 8 + 1
      omega
    · show s.1 8 + 1 ≤ 2147483647
      omega
def cM_X3_lays : Sp MS := atR 0 (a0 sX3_lays)
theorem qM_X3_lays {M : XI} {rc rs pc pc2 : Nat} (d : xl_Ca M pc mX3_lays pc2) : cOk encM bdM M rc rs pc pc2 1 cM_X3_lays := cSame mX3_lays_ok vX3_lays d mcl rfl lenM recM
-- X3_done: heads []
def tX3_done : Nat → Blk MS := fun pc => bif Nat.blt pc 8 then (bif Nat.beq pc 0 then (oIld 1 <| oZLt 8 <| oAld 0 <| oC1 (cM_X3_lays) <| oTo 8) else oNo) else (bif Nat.beq pc 8 then (oIld 1 <| oIret) else oNo)
theorem tX3_done_ok : ∀ pc, bOk (encM) (bdM) mX3_done 0 0 pc (tX3_done pc) := fun pc => (tNode (tLeaf (okIldn iX3_done_0 rfl <| okZLt (tl rfl) iX3_done_1 <| okAldn iX3_done_4 rfl <| okC1 (qM_X3_lays iX3_done_5) <| okTo (tl rfl))) (tLeaf (okIldn iX3_done_8 rfl <| okIret iX3_done_9 rfl))) pc
def sX3_done : Int → MS → KM → Prop := fun a s K => (xB a ∧ 0 ≤ s.1 8 ∧ s.1 8 ≤ 6) ∧ K [pI a] (if 0 ≤ a then mLays s else s)
theorem mX3_done_ok : mOk encM bdM mX3_done (atR 0 (a1 sX3_done)) := by
  refine mOVa1 kX3_done (fun _ => rfl) (fun a s K h hb => wx_J [] 9 tX3_done_ok rfl (fun J hR hJ => ?_))
  obtain ⟨h1, hK⟩ := h
  by_cases c : 0 ≤ a
  · rw [if_pos c] at hK
    repeat' (first | (refine And.intro ?_ ?_) | (intro hq; first | (exact absurd hq (by omega)) | skip))
    all_goals first | omega | exact hR _ _ hK
  · rw [if_neg c] at hK
    repeat' (first | (refine And.intro ?_ ?_) | (intro hq; first | (exact absurd hq (by omega)) | skip))
    all_goals first | omega | exact hR _ _ hK
def cM_X3_done : Sp MS := atR 0 (a1 sX3_done)
theorem qM_X3_done {M : XI} {rc rs pc pc2 : Nat} (d : xl_Ca M pc mX3_done pc2) : cOk encM bdM M rc rs pc pc2 2 cM_X3_done := cSame mX3_done_ok vX3_done d mcl rfl lenM recM
-- X3_start: heads []
def tX3_start : Nat → Blk MS := fun pc => bif Nat.blt pc 27 then (bif Nat.beq pc 0 then (oAld 0 <| oI 0 <| oPut (fpM) 3 0 <| oIld 1 <| oI2l <| oJ 1 <| oJ 4 <| oC3 (cM_X3_in) <| oZEq 27 <| oIld 2 <| oIld 3 <| oIld 4 <| oC3 (cM_X3_areSettings) <| oZNe 29 <| oTo 27) else oNo) else (bif Nat.blt pc 29 then (bif Nat.beq pc 27 then (oI (-1) <| oIret) else oNo) else (bif Nat.beq pc 29 then (oAld 0 <| oI 0 <| oI 3 <| oC3 (cM_X3_copies) <| oAld 0 <| oI 0 <| oIld 1 <| oIld 2 <| oIld 3 <| oIld 4 <| oC6 (cM_X3_starts) <| oAld 0 <| oIld 1 <| oC2 (cM_X3_done) <| oIret) else oNo))
theorem tX3_start_ok : ∀ pc, bOk (encM) (bdM) mX3_start 0 0 pc (tX3_start pc) := fun pc => (tNode (tLeaf (okAldn iX3_start_0 rfl <| okIc iX3_start_1 <| okPut (vFpM) iX3_start_2 <| okIldn iX3_start_5 rfl <| okI2l iX3_start_6 <| okLc iX3_start_7 rfl <| okLdc2 (v := 4) iX3_start_8 (xl_Ti 988 (by decide +kernel) rfl) (by decide) <| okC3 (qM_X3_in iX3_start_11) <| okZEq (tl rfl) iX3_start_14 <| okIldn iX3_start_17 rfl <| okIldn iX3_start_18 rfl <| okIld iX3_start_19 <| okC3 (qM_X3_areSettings iX3_start_21) <| okZNe (tl rfl) iX3_start_24 <| okTo (tl rfl))) (tNode (tLeaf (okIc iX3_start_27 <| okIret iX3_start_28 rfl)) (tLeaf (okAldn iX3_start_29 rfl <| okIc iX3_start_30 <| okIc iX3_start_31 <| okC3 (qM_X3_copies iX3_start_32) <| okAldn iX3_start_35 rfl <| okIc iX3_start_36 <| okIldn iX3_start_37 rfl <| okIldn iX3_start_38 rfl <| okIldn iX3_start_39 rfl <| okIld iX3_start_40 <| okC6 (qM_X3_starts iX3_start_42) <| okAldn iX3_start_45 rfl <| okIldn iX3_start_46 rfl <| okC2 (qM_X3_done iX3_start_47) <| okIret iX3_start_50 rfl)))) pc
-- X3_delays: heads []
def tX3_delays : Nat → Blk MS := fun pc => bif Nat.blt pc 27 then (bif Nat.blt pc 25 then (bif Nat.beq pc 0 then (oAld 0 <| oI 0 <| oPut (fpM) 3 0 <| oAld 0 <| oIld 1 <| oC2 (cM_X3_isSource) <| oZEq 25 <| oIld 2 <| oI2l <| oJ 0 <| oJ 999 <| oC3 (cM_X3_in) <| oZNe 27 <| oTo 25) else oNo) else (bif Nat.beq pc 25 then (oI (-1) <| oIret) else oNo)) else (bif Nat.blt pc 45 then (bif Nat.beq pc 27 then (oAld 0 <| oI 0 <| oI 16 <| oIld 1 <| oAdd <| oC3 (cM_X3_of) <| oIst 3 <| oIld 3 <| oIld 2 <| oCNe 45 <| oI (-2) <| oIret) else oNo) else (bif Nat.blt pc 58 then (bif Nat.beq pc 45 then (oAld 0 <| oI 0 <| oI 6 <| oC3 (cM_X3_of) <| oZLe 58 <| oI (-3) <| oIret) else oNo) else (bif Nat.beq pc 58 then (oAld 0 <| oI 0 <| oI 3 <| oC3 (cM_X3_copies) <| oAld 0 <| oI 0 <| oI 16 <| oIld 1 <| oAdd <| oIld 2 <| oC4 (cM_X3_puts) <| oAld 0 <| oIld 3 <| oC2 (cM_X3_done) <| oIret) else oNo)))
theorem tX3_delays_ok : ∀ pc, bOk (encM) (bdM) mX3_delays 0 0 pc (tX3_delays pc) := fun pc => (tNode (tNode (tLeaf (okAldn iX3_delays_0 rfl <| okIc iX3_delays_1 <| okPut (vFpM) iX3_delays_2 <| okAldn iX3_delays_5 rfl <| okIldn iX3_delays_6 rfl <| okC2 (qM_X3_isSource iX3_delays_7) <| okZEq (tl rfl) iX3_delays_10 <| okIldn iX3_delays_13 rfl <| okI2l iX3_delays_14 <| okLc iX3_delays_15 rfl <| okLdc2 (v := 999) iX3_delays_16 (xl_Ti 1014 (by decide +kernel) rfl) (by decide) <| okC3 (qM_X3_in iX3_delays_19) <| okZNe (tl rfl) iX3_delays_22 <| okTo (tl rfl))) (tLeaf (okIc iX3_delays_25 <| okIret iX3_delays_26 rfl))) (tNode (tLeaf (okAldn iX3_delays_27 rfl <| okIc iX3_delays_28 <| okBi iX3_delays_29 (by decide) <| okIldn iX3_delays_31 rfl <| okAdd iX3_delays_32 <| okC3 (qM_X3_of iX3_delays_33) <| okIstn iX3_delays_36 rfl (by decide) <| okIldn iX3_delays_37 rfl <| okIldn iX3_delays_38 rfl <| okCNe (tl rfl) iX3_delays_39 <| okBi iX3_delays_42 (by decide) <| okIret iX3_delays_44 rfl)) (tNode (tLeaf (okAldn iX3_delays_45 rfl <| okIc iX3_delays_46 <| okBi iX3_delays_47 (by decide) <| okC3 (qM_X3_of iX3_delays_49) <| okZLe (tl rfl) iX3_delays_52 <| okBi iX3_delays_55 (by decide) <| okIret iX3_delays_57 rfl)) (tLeaf (okAldn iX3_delays_58 rfl <| okIc iX3_delays_59 <| okIc iX3_delays_60 <| okC3 (qM_X3_copies iX3_delays_61) <| okAldn iX3_delays_64 rfl <| okIc iX3_delays_65 <| okBi iX3_delays_66 (by decide) <| okIldn iX3_delays_68 rfl <| okAdd iX3_delays_69 <| okIldn iX3_delays_70 rfl <| okC4 (qM_X3_puts iX3_delays_71) <| okAldn iX3_delays_74 rfl <| okIldn iX3_delays_75 rfl <| okC2 (qM_X3_done iX3_delays_76) <| okIret iX3_delays_79 rfl))))) pc
def gUndo (s : MS) : Int × MS := if s.1 8 = 0 then (-1, mS s 0 0) else (s.1 8 - 1, mCopy (mS (mS s 0 0) 8 (s.1 8 - 1)) (5 + (s.1 8 - 1)) 0)
def sX3_undo : MS → KM → Prop := fun s K => (0 ≤ s.1 8 ∧ s.1 8 ≤ 6) ∧ K [pI (gUndo s).1] (gUndo s).2
theorem mX3_undo_ok : mOk encM bdM mX3_undo (atR 0 (a0 sX3_undo)) := by
  refine mOVa0 kX3_undo (fun _ => rfl) (fun s K h hb => wx_J [] 9 tX3_undo_ok rfl (fun J hR hJ => ?_))
  obtain ⟨h1, hK⟩ := h
  unfold gUndo at hK
  refine ⟨⟨by omega, by omega⟩, fun h8 => ⟨h8, fun c => ?_, fun c => ?_⟩⟩
  · have c : s.1 8 ≠ 0 := c
    rw [if_neg c] at hK
    refine fun _ => ⟨⟨?_, ?_⟩, fun _ => ⟨⟨⟨?_, ?_⟩, ⟨by omega, by omega⟩⟩, fun _ => hR _ _ hK⟩⟩
    · show -2147483648 ≤ s.1 8 - 1
      omega
    · show s.1 8 - 1 ≤ 2147483647
      omega
    · show 0 ≤ 5 + (s.1 8 - 1)
      omega
    · show 5 + (s.1 8 - 1) ≤ 10
      omega
  · have c : s.1 8 = 0 := c
    rw [if_pos c] at hK
    exact hR _ _ hK
def gKeep (s : MS) (i : Int) : Int × MS := if inB i 0 1 then (1, mCopy (mA (mS s 0 0) 12 (xup (s.2 12) i.toNat 1)) 0 (1 + i)) else (0, mS s 0 0)
def sX3_keep : Int → MS → KM → Prop := fun i s K => xB i ∧ K [pI (gKeep s i).1] (gKeep s i).2
theorem mX3_keep_ok : mOk encM bdM mX3_keep (atR 0 (a1 sX3_keep)) := by
  refine mOVa1 kX3_keep (fun _ => rfl) (fun i s K h hb => wx_J [] 9 tX3_keep_ok rfl (fun J hR hJ => ?_))
  obtain ⟨h1, hK⟩ := h
  unfold gKeep at hK
  by_cases c : inB i 0 1
  · rw [if_pos c] at hK
    repeat' (first | (refine And.intro ?_ ?_) | (intro hq; first | (exact absurd hq (by omega)) | skip))
    all_goals first | omega | exact hR _ _ hK
  · rw [if_neg c] at hK
    repeat' (first | (refine And.intro ?_ ?_) | (intro hq; first | (exact absurd hq (by omega)) | skip))
    all_goals first | omega | exact hR _ _ hK
def gBack (s : MS) (i : Int) : Int × MS := if inB i 0 1 ∧ s.2 12 i.toNat ≠ 0 then (1, mS (mCopy (mS s 0 0) (1 + i) 0) 8 0) else (0, mS s 0 0)
def sX3_back : Int → MS → KM → Prop := fun i s K => xB i ∧ K [pI (gBack s i).1] (gBack s i).2
theorem mX3_back_ok : mOk encM bdM mX3_back (atR 0 (a1 sX3_back)) := by
  refine mOVa1 kX3_back (fun _ => rfl) (fun i s K h hb => wx_J [] 9 tX3_back_ok rfl (fun J hR hJ => ?_))
  obtain ⟨h1, hK⟩ := h
  unfold gBack at hK
  have f0 : (mS s 0 0).2 12 i.toNat = s.2 12 i.toNat := rfl
  by_cases c : inB i 0 1
  · by_cases c2 : s.2 12 i.toNat ≠ 0
    · rw [if_pos ⟨c, c2⟩] at hK
      repeat' (first | (refine And.intro ?_ ?_) | (intro hq; first | (exact absurd hq (by omega)) | skip))
      all_goals first | omega | exact hR _ _ hK | (exact absurd ‹_› c2)
    · rw [if_neg (fun z => c2 z.2)] at hK
      repeat' (first | (refine And.intro ?_ ?_) | (intro hq; first | (exact absurd hq (by omega)) | skip))
      all_goals first | omega | exact hR _ _ hK | (exact absurd ‹_› c2)
  · rw [if_neg (fun z => c z.1)] at hK
    repeat' (first | (refine And.intro ?_ ?_) | (intro hq; first | (exact absurd hq (by omega)) | skip))
    all_goals first | omega | exact hR _ _ hK
def gStart (s : MS) (n g l e : Int) : Int × MS := if inB n 1 4 ∧ okSet g l e then (n, mLays (mStarts (mCopy (mS s 0 0) 0 3) 0 n g l e)) else (-1, mS s 0 0)
theorem mStarts_1 (s : MS) (d n g l e : Int) : (mStarts s d n g l e).1 = s.1 := by
  have h3 : ∀ (m : Nat) (k : Int) (s : MS), (stL3 d m k s).1 = s.1 := by
    intro m
    induction m with
    | zero => intro k s; rfl
    | succ m ih => intro k s; rw [stL3, ih]; rfl
  have h2 : ∀ (m : Nat) (k : Int) (s : MS), (stL2 d m k s).1 = s.1 := by
    intro m
    induction m with
    | zero => intro k s; rfl
    | succ m ih => intro k s; rw [stL2, ih]; rfl
  show (stL3 d 4 0 (stL2 d 6 0 (mZero s d))).1 = s.1
  rw [h3, h2]
  rfl
def sX3_start : Int → Int → Int → Int → MS → KM → Prop := fun n g l e s K => ((xB n ∧ xB g ∧ xB l ∧ xB e) ∧ 0 ≤ s.1 8 ∧ s.1 8 ≤ 6) ∧ K [pI (gStart s n g l e).1] (gStart s n g l e).2
theorem mX3_start_ok : mOk encM bdM mX3_start (atR 0 (a4 sX3_start)) := by
  refine mOVa4 kX3_start (fun _ _ _ _ => rfl) (fun n g l e s K h hb => wx_J [] 9 tX3_start_ok rfl (fun J hR hJ => ?_))
  obtain ⟨⟨⟨h1, h2, h3, h4⟩, h5⟩, hK⟩ := h
  unfold gStart at hK
  by_cases c : inB n 1 4 ∧ okSet g l e
  · rw [if_pos c] at hK
    have e8 : (mStarts (mCopy (mS s 0 0) 0 3) 0 n g l e).1 8 = s.1 8 := by rw [mStarts_1]; rfl
    have hK2 : K [pI n] (if 0 ≤ n then mLays (mStarts (mCopy (mS s 0 0) 0 3) 0 n g l e) else mStarts (mCopy (mS s 0 0) 0 3) 0 n g l e) := by
      rw [if_pos (by omega)]; exact hK
    repeat' (first | (refine And.intro ?_ ?_) | (intro hq; first | (exact absurd hq (by omega)) | skip))
    all_goals first | omega | exact hR _ _ hK2 | (rw [e8]; omega)
  · rw [if_neg c] at hK
    repeat' (first | (refine And.intro ?_ ?_) | (intro hq; first | (exact absurd hq (by omega)) | skip))
    all_goals first | omega | exact hR _ _ hK
def gDelays (s : MS) (r v : Int) : Int × MS := if mSrc s r ∧ inB v 0 999 then (if mg s (16 + r) = v then (-2, mS s 0 0) else if 0 < mg s 6 then (-3, mS s 0 0) else (mg s (16 + r), if 0 ≤ mg s (16 + r) then mLays (mP (mCopy (mS s 0 0) 0 3) (16 + r) v) else mP (mCopy (mS s 0 0) 0 3) (16 + r) v)) else (-1, mS s 0 0)
