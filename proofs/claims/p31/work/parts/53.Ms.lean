/-! ===== the model: sessions on a desk ===== -/
abbrev dOk (d : Int) : Prop := 0 ≤ d ∧ d ≤ 10
-- X3_isRipeBy: heads []
def tX3_isRipeBy : Nat → Blk MS := fun pc => bif Nat.blt pc 22 then (bif Nat.beq pc 0 then (oAld 0 <| oIld 1 <| oIld 2 <| oI 2 <| oC4 (cM_X3_ofSession) <| oAld 0 <| oIld 1 <| oI 1 <| oC3 (cM_X3_of) <| oAddW <| oIld 3 <| oCGe 22 <| oI 1 <| oTo 23) else oNo) else (bif Nat.blt pc 23 then (bif Nat.beq pc 22 then (oI 0 <| oTo 23) else oNo) else (bif Nat.beq pc 23 then (oZret) else oNo))
theorem tX3_isRipeBy_ok : ∀ pc, bOk (encM) (bdM) mX3_isRipeBy 0 0 pc (tX3_isRipeBy pc) := fun pc => (tNode (tLeaf (okAldn iX3_isRipeBy_0 rfl <| okIldn iX3_isRipeBy_1 rfl <| okIldn iX3_isRipeBy_2 rfl <| okIc iX3_isRipeBy_3 <| okC4 (qM_X3_ofSession iX3_isRipeBy_4) <| okAldn iX3_isRipeBy_7 rfl <| okIldn iX3_isRipeBy_8 rfl <| okIc iX3_isRipeBy_9 <| okC3 (qM_X3_of iX3_isRipeBy_10) <| okAddW iX3_isRipeBy_13 <| okIldn iX3_isRipeBy_14 rfl <| okCGe (tl rfl) iX3_isRipeBy_15 <| okIc iX3_isRipeBy_18 <| okGoto (tl rfl) iX3_isRipeBy_19)) (tNode (tLeaf (okIc iX3_isRipeBy_22 <| okTo (tl rfl))) (tLeaf (okZret iX3_isRipeBy_23 rfl)))) pc
-- X3_isClosedBy: heads []
def tX3_isClosedBy : Nat → Blk MS := fun pc => bif Nat.blt pc 29 then (bif Nat.beq pc 0 then (oAld 0 <| oIld 1 <| oIld 2 <| oI 2 <| oC4 (cM_X3_ofSession) <| oAld 0 <| oIld 1 <| oI 1 <| oC3 (cM_X3_of) <| oAddW <| oAld 0 <| oIld 1 <| oI 2 <| oC3 (cM_X3_of) <| oAddW <| oIld 3 <| oCGe 29 <| oI 1 <| oTo 30) else oNo) else (bif Nat.blt pc 30 then (bif Nat.beq pc 29 then (oI 0 <| oTo 30) else oNo) else (bif Nat.beq pc 30 then (oZret) else oNo))
theorem tX3_isClosedBy_ok : ∀ pc, bOk (encM) (bdM) mX3_isClosedBy 0 0 pc (tX3_isClosedBy pc) := fun pc => (tNode (tLeaf (okAldn iX3_isClosedBy_0 rfl <| okIldn iX3_isClosedBy_1 rfl <| okIldn iX3_isClosedBy_2 rfl <| okIc iX3_isClosedBy_3 <| okC4 (qM_X3_ofSession iX3_isClosedBy_4) <| okAldn iX3_isClosedBy_7 rfl <| okIldn iX3_isClosedBy_8 rfl <| okIc iX3_isClosedBy_9 <| okC3 (qM_X3_of iX3_isClosedBy_10) <| okAddW iX3_isClosedBy_13 <| okAldn iX3_isClosedBy_14 rfl <| okIldn iX3_isClosedBy_15 rfl <| okIc iX3_isClosedBy_16 <| okC3 (qM_X3_of iX3_isClosedBy_17) <| okAddW iX3_isClosedBy_20 <| okIldn iX3_isClosedBy_21 rfl <| okCGe (tl rfl) iX3_isClosedBy_22 <| okIc iX3_isClosedBy_25 <| okGoto (tl rfl) iX3_isClosedBy_26)) (tNode (tLeaf (okIc iX3_isClosedBy_29 <| okTo (tl rfl))) (tLeaf (okZret iX3_isClosedBy_30 rfl)))) pc
-- X3_melts: heads []
def tX3_melts : Nat → Blk MS := fun pc => bif Nat.blt pc 53 then (bif Nat.beq pc 0 then (oAld 0 <| oIld 1 <| oIld 2 <| oI 0 <| oC4 (cM_X3_ofSession) <| oIld 3 <| oCNe 53 <| oAld 0 <| oIld 1 <| oIld 2 <| oI 1 <| oC4 (cM_X3_ofSession) <| oAld 0 <| oIld 1 <| oI 1 <| oC3 (cM_X3_of) <| oSubW <| oIld 4 <| oCGt 53 <| oAld 0 <| oIld 1 <| oIld 2 <| oI 2 <| oC4 (cM_X3_ofSession) <| oAld 0 <| oIld 1 <| oI 1 <| oC3 (cM_X3_of) <| oAddW <| oIld 4 <| oCLt 53 <| oI 1 <| oTo 54) else oNo) else (bif Nat.blt pc 54 then (bif Nat.beq pc 53 then (oI 0 <| oTo 54) else oNo) else (bif Nat.beq pc 54 then (oZret) else oNo))
theorem tX3_melts_ok : ∀ pc, bOk (encM) (bdM) mX3_melts 0 0 pc (tX3_melts pc) := fun pc => (tNode (tLeaf (okAldn iX3_melts_0 rfl <| okIldn iX3_melts_1 rfl <| okIldn iX3_melts_2 rfl <| okIc iX3_melts_3 <| okC4 (qM_X3_ofSession iX3_melts_4) <| okIldn iX3_melts_7 rfl <| okCNe (tl rfl) iX3_melts_8 <| okAldn iX3_melts_11 rfl <| okIldn iX3_melts_12 rfl <| okIldn iX3_melts_13 rfl <| okIc iX3_melts_14 <| okC4 (qM_X3_ofSession iX3_melts_15) <| okAldn iX3_melts_18 rfl <| okIldn iX3_melts_19 rfl <| okIc iX3_melts_20 <| okC3 (qM_X3_of iX3_melts_21) <| okSubW iX3_melts_24 <| okIld iX3_melts_25 <| okCGt (tl rfl) iX3_melts_27 <| okAldn iX3_melts_30 rfl <| okIldn iX3_melts_31 rfl <| okIldn iX3_melts_32 rfl <| okIc iX3_melts_33 <| okC4 (qM_X3_ofSession iX3_melts_34) <| okAldn iX3_melts_37 rfl <| okIldn iX3_melts_38 rfl <| okIc iX3_melts_39 <| okC3 (qM_X3_of iX3_melts_40) <| okAddW iX3_melts_43 <| okIld iX3_melts_44 <| okCLt (tl rfl) iX3_melts_46 <| okIc iX3_melts_49 <| okGoto (tl rfl) iX3_melts_50)) (tNode (tLeaf (okIc iX3_melts_53 <| okTo (tl rfl))) (tLeaf (okZret iX3_melts_54 rfl)))) pc
-- X3_isDone: heads []
def tX3_isDone : Nat → Blk MS := fun pc => bif Nat.blt pc 42 then (bif Nat.blt pc 38 then (bif Nat.beq pc 0 then (oAld 0 <| oIld 1 <| oIld 2 <| oI 2 <| oC4 (cM_X3_ofSession) <| oIst 3 <| oIld 3 <| oAld 0 <| oGet (fgM) 3 10 <| oCLt 38 <| oIld 3 <| oAld 0 <| oGet (fgM) 3 10 <| oCNe 42 <| oAld 0 <| oIld 1 <| oIld 2 <| oI 0 <| oC4 (cM_X3_ofSession) <| oAld 0 <| oGet (fgM) 3 11 <| oCGt 42 <| oTo 38) else oNo) else (bif Nat.beq pc 38 then (oI 1 <| oTo 43) else oNo)) else (bif Nat.blt pc 43 then (bif Nat.beq pc 42 then (oI 0 <| oTo 43) else oNo) else (bif Nat.beq pc 43 then (oZret) else oNo))
theorem tX3_isDone_ok : ∀ pc, bOk (encM) (bdM) mX3_isDone 0 0 pc (tX3_isDone pc) := fun pc => (tNode (tNode (tLeaf (okAldn iX3_isDone_0 rfl <| okIldn iX3_isDone_1 rfl <| okIldn iX3_isDone_2 rfl <| okIc iX3_isDone_3 <| okC4 (qM_X3_ofSession iX3_isDone_4) <| okIstn iX3_isDone_7 rfl (by decide) <| okIldn iX3_isDone_8 rfl <| okAldn iX3_isDone_9 rfl <| okGet (vFgM) iX3_isDone_10 <| okCLt (tl rfl) iX3_isDone_13 <| okIldn iX3_isDone_16 rfl <| okAldn iX3_isDone_17 rfl <| okGet (vFgM) iX3_isDone_18 <| okCNe (tl rfl) iX3_isDone_21 <| okAldn iX3_isDone_24 rfl <| okIldn iX3_isDone_25 rfl <| okIldn iX3_isDone_26 rfl <| okIc iX3_isDone_27 <| okC4 (qM_X3_ofSession iX3_isDone_28) <| okAldn iX3_isDone_31 rfl <| okGet (vFgM) iX3_isDone_32 <| okCGt (tl rfl) iX3_isDone_35 <| okTo (tl rfl))) (tLeaf (okIc iX3_isDone_38 <| okGoto (tl rfl) iX3_isDone_39))) (tNode (tLeaf (okIc iX3_isDone_42 <| okTo (tl rfl))) (tLeaf (okZret iX3_isDone_43 rfl)))) pc
-- X3_isBehind: heads []
def tX3_isBehind : Nat → Blk MS := fun pc => bif Nat.blt pc 48 then (bif Nat.blt pc 44 then (bif Nat.beq pc 0 then (oAld 0 <| oIld 1 <| oIld 2 <| oI 0 <| oC4 (cM_X3_ofSession) <| oIst 3 <| oIld 3 <| oAld 0 <| oGet (fgM) 3 9 <| oI 0 <| oIa (agM) <| oCGt 44 <| oIld 3 <| oAld 0 <| oGet (fgM) 3 9 <| oI 0 <| oIa (agM) <| oCNe 48 <| oAld 0 <| oIld 1 <| oIld 2 <| oI 1 <| oC4 (cM_X3_ofSession) <| oAld 0 <| oGet (fgM) 3 9 <| oI 1 <| oIa (agM) <| oCLe 48 <| oTo 44) else oNo) else (bif Nat.beq pc 44 then (oI 1 <| oTo 49) else oNo)) else (bif Nat.blt pc 49 then (bif Nat.beq pc 48 then (oI 0 <| oTo 49) else oNo) else (bif Nat.beq pc 49 then (oZret) else oNo))
theorem tX3_isBehind_ok : ∀ pc, bOk (encM) (bdM) mX3_isBehind 0 0 pc (tX3_isBehind pc) := fun pc => (tNode (tNode (tLeaf (okAldn iX3_isBehind_0 rfl <| okIldn iX3_isBehind_1 rfl <| okIldn iX3_isBehind_2 rfl <| okIc iX3_isBehind_3 <| okC4 (qM_X3_ofSession iX3_isBehind_4) <| okIstn iX3_isBehind_7 rfl (by decide) <| okIldn iX3_isBehind_8 rfl <| okAldn iX3_isBehind_9 rfl <| okGet (vFgM) iX3_isBehind_10 <| okIc iX3_isBehind_13 <| okIa (vAgM) iX3_isBehind_14 <| okCGt (tl rfl) iX3_isBehind_15 <| okIldn iX3_isBehind_18 rfl <| okAldn iX3_isBehind_19 rfl <| okGet (vFgM) iX3_isBehind_20 <| okIc iX3_isBehind_23 <| okIa (vAgM) iX3_isBehind_24 <| okCNe (tl rfl) iX3_isBehind_25 <| okAldn iX3_isBehind_28 rfl <| okIldn iX3_isBehind_29 rfl <| okIldn iX3_isBehind_30 rfl <| okIc iX3_isBehind_31 <| okC4 (qM_X3_ofSession iX3_isBehind_32) <| okAldn iX3_isBehind_35 rfl <| okGet (vFgM) iX3_isBehind_36 <| okIc iX3_isBehind_39 <| okIa (vAgM) iX3_isBehind_40 <| okCLe (tl rfl) iX3_isBehind_41 <| okTo (tl rfl))) (tLeaf (okIc iX3_isBehind_44 <| okGoto (tl rfl) iX3_isBehind_45))) (tNode (tLeaf (okIc iX3_isBehind_48 <| okTo (tl rfl))) (tLeaf (okZret iX3_isBehind_49 rfl)))) pc
-- X3_leastMark: heads [4]
def tX3_leastMark : Nat → Blk MS := fun pc => bif Nat.blt pc 43 then (bif Nat.blt pc 4 then (bif Nat.beq pc 0 then (oI (-1) <| oIst 2 <| oI 0 <| oIst 3 <| oM [true, true, true, true] (oTo 4)) else oNo) else (bif Nat.beq pc 4 then (oIld 3 <| oAld 0 <| oIld 1 <| oI 0 <| oC3 (cM_X3_of) <| oCGe 59 <| oAld 0 <| oIld 1 <| oI 20 <| oIld 3 <| oAdd <| oC3 (cM_X3_of) <| oZNe 53 <| oIld 2 <| oZLt 43 <| oAld 0 <| oIld 1 <| oI 12 <| oIld 3 <| oAdd <| oC3 (cM_X3_of) <| oIld 2 <| oCGe 53 <| oTo 43) else oNo)) else (bif Nat.blt pc 53 then (bif Nat.beq pc 43 then (oAld 0 <| oIld 1 <| oI 12 <| oIld 3 <| oAdd <| oC3 (cM_X3_of) <| oIst 2 <| oTo 53) else oNo) else (bif Nat.blt pc 59 then (bif Nat.beq pc 53 then (oInc 3 1 <| oM [true, true, true, true] (oTo 4)) else oNo) else (bif Nat.beq pc 59 then (oIld 2 <| oIret) else oNo)))
theorem tX3_leastMark_ok : ∀ pc, bOk (encM) (bdM) mX3_leastMark 0 0 pc (tX3_leastMark pc) := fun pc => (tNode (tNode (tLeaf (okIc iX3_leastMark_0 <| okIstn iX3_leastMark_1 rfl (by decide) <| okIc iX3_leastMark_2 <| okIstn iX3_leastMark_3 rfl (by decide) <| okM (okTo (tl rfl)))) (tLeaf (okIldn iX3_leastMark_4 rfl <| okAldn iX3_leastMark_5 rfl <| okIldn iX3_leastMark_6 rfl <| okIc iX3_leastMark_7 <| okC3 (qM_X3_of iX3_leastMark_8) <| okCGe (tl rfl) iX3_leastMark_11 <| okAldn iX3_leastMark_14 rfl <| okIldn iX3_leastMark_15 rfl <| okBi iX3_leastMark_16 (by decide) <| okIldn iX3_leastMark_18 rfl <| okAdd iX3_leastMark_19 <| okC3 (qM_X3_of iX3_leastMark_20) <| okZNe (tl rfl) iX3_leastMark_23 <| okIldn iX3_leastMark_26 rfl <| okZLt (tl rfl) iX3_leastMark_27 <| okAldn iX3_leastMark_30 rfl <| okIldn iX3_leastMark_31 rfl <| okBi iX3_leastMark_32 (by decide) <| okIldn iX3_leastMark_34 rfl <| okAdd iX3_leastMark_35 <| okC3 (qM_X3_of iX3_leastMark_36) <| okIldn iX3_leastMark_39 rfl <| okCGe (tl rfl) iX3_leastMark_40 <| okTo (tl rfl)))) (tNode (tLeaf (okAldn iX3_leastMark_43 rfl <| okIldn iX3_leastMark_44 rfl <| okBi iX3_leastMark_45 (by decide) <| okIldn iX3_leastMark_47 rfl <| okAdd iX3_leastMark_48 <| okC3 (qM_X3_of iX3_leastMark_49) <| okIstn iX3_leastMark_52 rfl (by decide) <| okTo (tl rfl))) (tNode (tLeaf (okInc iX3_leastMark_53 (by decide) <| okGotoM (tl rfl) iX3_leastMark_56)) (tLeaf (okIldn iX3_leastMark_59 rfl <| okIret iX3_leastMark_60 rfl))))) pc
-- X3_sends: heads [40]
def tX3_sends : Nat → Blk MS := fun pc => bif Nat.blt pc 72 then (bif Nat.blt pc 40 then (bif Nat.beq pc 0 then (oAld 0 <| oIld 1 <| oI 7 <| oC3 (cM_X3_of) <| oIst 4 <| oIld 1 <| oI 2804 <| oMul <| oI 1484 <| oAdd <| oI 6 <| oIld 4 <| oI 60 <| oRemT <| oMul <| oAdd <| oIst 5 <| oAld 0 <| oGet (fgM) 3 7 <| oIld 5 <| oIld 2 <| oIas (agM) (apM) <| oI 0 <| oIst 6 <| oM [true, true, true, true, false, true, true] (oTo 40)) else oNo) else (bif Nat.beq pc 40 then (oIld 6 <| oI 5 <| oCGe 72 <| oAld 0 <| oGet (fgM) 3 7 <| oIld 5 <| oI 1 <| oAdd <| oIld 6 <| oAdd <| oAld 0 <| oIld 1 <| oIld 3 <| oIld 6 <| oC4 (cM_X3_ofSession) <| oIas (agM) (apM) <| oInc 6 1 <| oM [true, true, true, true, false, true, true] (oTo 40)) else oNo)) else (bif Nat.blt pc 131 then (bif Nat.beq pc 72 then (oAld 0 <| oIld 1 <| oI 7 <| oI 1 <| oC4 (cM_X3_adds) <| oAld 0 <| oIld 1 <| oI 32 <| oIld 2 <| oAdd <| oI 1 <| oC4 (cM_X3_adds) <| oAld 0 <| oIld 1 <| oI 60 <| oI 4 <| oAld 0 <| oIld 1 <| oIld 3 <| oI 0 <| oC4 (cM_X3_ofSession) <| oMul <| oAdd <| oIld 2 <| oAdd <| oI 1 <| oC4 (cM_X3_adds) <| oAld 0 <| oGet (fgM) 3 7 <| oIld 1 <| oIld 3 <| oC2 (cM_X3_place) <| oI 6 <| oAdd <| oIld 2 <| oI 3 <| oCNe 131 <| oI 0 <| oTo 134) else oNo) else (bif Nat.blt pc 134 then (bif Nat.beq pc 131 then (oI 1 <| oIld 2 <| oAdd <| oTo 134) else oNo) else (bif Nat.beq pc 134 then (oIas (agM) (apM) <| oVret) else oNo)))
theorem tX3_sends_ok : ∀ pc, bOk (encM) (bdM) mX3_sends 0 0 pc (tX3_sends pc) := fun pc => (tNode (tNode (tLeaf (okAldn iX3_sends_0 rfl <| okIldn iX3_sends_1 rfl <| okBi iX3_sends_2 (by decide) <| okC3 (qM_X3_of iX3_sends_4) <| okIst iX3_sends_7 (by decide) <| okIldn iX3_sends_9 rfl <| okSi iX3_sends_10 (by decide) <| okMul iX3_sends_13 <| okSi iX3_sends_14 (by decide) <| okAdd iX3_sends_17 <| okBi iX3_sends_18 (by decide) <| okIld iX3_sends_20 <| okBi iX3_sends_22 (by decide) <| okRemT iX3_sends_24 <| okMul iX3_sends_25 <| okAdd iX3_sends_26 <| okIst iX3_sends_27 (by decide) <| okAldn iX3_sends_29 rfl <| okGet (vFgM) iX3_sends_30 <| okIld iX3_sends_33 <| okIldn iX3_sends_35 rfl <| okIas (vAgM) iX3_sends_36 <| okIc iX3_sends_37 <| okIst iX3_sends_38 (by decide) <| okM (okTo (tl rfl)))) (tLeaf (okIld iX3_sends_40 <| okIc iX3_sends_42 <| okCGe (tl rfl) iX3_sends_43 <| okAldn iX3_sends_46 rfl <| okGet (vFgM) iX3_sends_47 <| okIld iX3_sends_50 <| okIc iX3_sends_52 <| okAdd iX3_sends_53 <| okIld iX3_sends_54 <| okAdd iX3_sends_56 <| okAldn iX3_sends_57 rfl <| okIldn iX3_sends_58 rfl <| okIldn iX3_sends_59 rfl <| okIld iX3_sends_60 <| okC4 (qM_X3_ofSession iX3_sends_62) <| okIas (vAgM) iX3_sends_65 <| okInc iX3_sends_66 (by decide) <| okGotoM (tl rfl) iX3_sends_69))) (tNode (tLeaf (okAldn iX3_sends_72 rfl <| okIldn iX3_sends_73 rfl <| okBi iX3_sends_74 (by decide) <| okIc iX3_sends_76 <| okC4 (qM_X3_adds iX3_sends_77) <| okAldn iX3_sends_80 rfl <| okIldn iX3_sends_81 rfl <| okBi iX3_sends_82 (by decide) <| okIldn iX3_sends_84 rfl <| okAdd iX3_sends_85 <| okIc iX3_sends_86 <| okC4 (qM_X3_adds iX3_sends_87) <| okAldn iX3_sends_90 rfl <| okIldn iX3_sends_91 rfl <| okBi iX3_sends_92 (by decide) <| okIc iX3_sends_94 <| okAldn iX3_sends_95 rfl <| okIldn iX3_sends_96 rfl <| okIldn iX3_sends_97 rfl <| okIc iX3_sends_98 <| okC4 (qM_X3_ofSession iX3_sends_99) <| okMul iX3_sends_102 <| okAdd iX3_sends_103 <| okIldn iX3_sends_104 rfl <| okAdd iX3_sends_105 <| okIc iX3_sends_106 <| okC4 (qM_X3_adds iX3_sends_107) <| okAldn iX3_sends_110 rfl <| okGet (vFgM) iX3_sends_111 <| okIldn iX3_sends_114 rfl <| okIldn iX3_sends_115 rfl <| okC2 (qM_X3_place iX3_sends_116) <| okBi iX3_sends_119 (by decide) <| okAdd iX3_sends_121 <| okIldn iX3_sends_122 rfl <| okIc iX3_sends_123 <| okCNe (tl rfl) iX3_sends_124 <| okIc iX3_sends_127 <| okGoto (tl rfl) iX3_sends_128)) (tNode (tLeaf (okIc iX3_sends_131 <| okIldn iX3_sends_132 rfl <| okAdd iX3_sends_133 <| okTo (tl rfl))) (tLeaf (okIas (vAgM) iX3_sends_134 <| okVret iX3_sends_135 rfl))))) pc
abbrev mRipe (s : MS) (d i p : Int) : Prop := wI (mg s ((d * 2804 + 364 + 7 * i) + 2) + mg s (d * 2804 + 1)) < p
def sX3_isRipeBy : Int → Int → Int → MS → KM → Prop := fun d i p s K => (dOk d ∧ (0 ≤ i ∧ i ≤ 160) ∧ xB p) ∧ (mRipe s d i p → K [pI 1] s) ∧ (¬ mRipe s d i p → K [pI 0] s)
theorem mX3_isRipeBy_ok : mOk encM bdM mX3_isRipeBy (atR 0 (a3 sX3_isRipeBy)) := by
  refine mOVa3 kX3_isRipeBy (fun _ _ _ => rfl) (fun d i p s K h hb => wx_J [] 9 tX3_isRipeBy_ok rfl (fun J hR hJ => ?_))
  obtain ⟨h1, h2, h3⟩ := h
  repeat' (first | (refine And.intro ?_ ?_) | (intro hq; first | (exact absurd hq (by omega)) | skip))
  all_goals first | omega | exact hR _ _ (h2 (by omega)) | exact hR _ _ (h3 (by omega))
def cM_X3_isRipeBy : Sp MS := atR 0 (a3 sX3_isRipeBy)
theorem qM_X3_isRipeBy {M : XI} {rc rs pc pc2 : Nat} (d : xl_Ca M pc mX3_isRipeBy pc2) : cOk encM bdM M rc rs pc pc2 4 cM_X3_isRipeBy := cSame mX3_isRipeBy_ok vX3_isRipeBy d mcl rfl lenM recM
abbrev mOver (s : MS) (d i p : Int) : Prop := wI (wI (mg s ((d * 2804 + 364 + 7 * i) + 2) + mg s (d * 2804 + 1)) + mg s (d * 2804 + 2)) < p
def sX3_isClosedBy : Int → Int → Int → MS → KM → Prop := fun d i p s K => (dOk d ∧ (0 ≤ i ∧ i ≤ 160) ∧ xB p) ∧ (mOver s d i p → K [pI 1] s) ∧ (¬ mOver s d i p → K [pI 0] s)
theorem mX3_isClosedBy_ok : mOk encM bdM mX3_isClosedBy (atR 0 (a3 sX3_isClosedBy)) := by
  refine mOVa3 kX3_isClosedBy (fun _ _ _ => rfl) (fun d i p s K h hb => wx_J [] 9 tX3_isClosedBy_ok rfl (fun J hR hJ => ?_))
  obtain ⟨h1, h2, h3⟩ := h
  repeat' (first | (refine And.intro ?_ ?_) | (intro hq; first | (exact absurd hq (by omega)) | skip))
  all_goals first | omega | exact hR _ _ (h2 (by omega)) | exact hR _ _ (h3 (by omega))
def cM_X3_isClosedBy : Sp MS := atR 0 (a3 sX3_isClosedBy)
theorem qM_X3_isClosedBy {M : XI} {rc rs pc pc2 : Nat} (d : xl_Ca M pc mX3_isClosedBy pc2) : cOk encM bdM M rc rs pc pc2 4 cM_X3_isClosedBy := cSame mX3_isClosedBy_ok vX3_isClosedBy d mcl rfl lenM recM
abbrev mMelts (s : MS) (d i k t : Int) : Prop := mg s ((d * 2804 + 364 + 7 * i) + 0) = k ∧ wI (mg s ((d * 2804 + 364 + 7 * i) + 1) - mg s (d * 2804 + 1)) ≤ t ∧ t ≤ wI (mg s ((d * 2804 + 364 + 7 * i) + 2) + mg s (d * 2804 + 1))
def sX3_melts : Int → Int → Int → Int → MS → KM → Prop := fun d i k t s K => (dOk d ∧ (0 ≤ i ∧ i ≤ 160) ∧ xB k ∧ xB t) ∧ (mMelts s d i k t → K [pI 1] s) ∧ (¬ mMelts s d i k t → K [pI 0] s)
theorem mX3_melts_ok : mOk encM bdM mX3_melts (atR 0 (a4 sX3_melts)) := by
  refine mOVa4 kX3_melts (fun _ _ _ _ => rfl) (fun d i k t s K h hb => wx_J [] 9 tX3_melts_ok rfl (fun J hR hJ => ?_))
  obtain ⟨h1, h2, h3⟩ := h
  repeat' (first | (refine And.intro ?_ ?_) | (intro hq; first | (exact absurd hq (by omega)) | skip))
  all_goals first | omega | exact hR _ _ (h2 (by omega)) | exact hR _ _ (h3 (by omega))
def cM_X3_melts : Sp MS := atR 0 (a4 sX3_melts)
theorem qM_X3_melts {M : XI} {rc rs pc pc2 : Nat} (d : xl_Ca M pc mX3_melts pc2) : cOk encM bdM M rc rs pc pc2 5 cM_X3_melts := cSame mX3_melts_ok vX3_melts d mcl rfl lenM recM
abbrev mDone (s : MS) (d i : Int) : Prop := mg s ((d * 2804 + 364 + 7 * i) + 2) < s.1 10 ∨ (mg s ((d * 2804 + 364 + 7 * i) + 2) = s.1 10 ∧ mg s ((d * 2804 + 364 + 7 * i) + 0) ≤ s.1 11)
def sX3_isDone : Int → Int → MS → KM → Prop := fun d i s K => (dOk d ∧ (0 ≤ i ∧ i ≤ 160)) ∧ (mDone s d i → K [pI 1] s) ∧ (¬ mDone s d i → K [pI 0] s)
theorem mX3_isDone_ok : mOk encM bdM mX3_isDone (atR 0 (a2 sX3_isDone)) := by
  refine mOVa2 kX3_isDone (fun _ _ => rfl) (fun d i s K h hb => wx_J [] 9 tX3_isDone_ok rfl (fun J hR hJ => ?_))
  obtain ⟨h1, h2, h3⟩ := h
  repeat' (first | (refine And.intro ?_ ?_) | (intro hq; first | (exact absurd hq (by omega)) | skip))
  all_goals first | omega | exact hR _ _ (h2 (by omega)) | exact hR _ _ (h3 (by omega))
def cM_X3_isDone : Sp MS := atR 0 (a2 sX3_isDone)
theorem qM_X3_isDone {M : XI} {rc rs pc pc2 : Nat} (d : xl_Ca M pc mX3_isDone pc2) : cOk encM bdM M rc rs pc pc2 3 cM_X3_isDone := cSame mX3_isDone_ok vX3_isDone d mcl rfl lenM recM
abbrev mBehind (s : MS) (d i : Int) : Prop := s.2 4 0 < mg s ((d * 2804 + 364 + 7 * i) + 0) ∨ (mg s ((d * 2804 + 364 + 7 * i) + 0) = s.2 4 0 ∧ s.2 4 1 < mg s ((d * 2804 + 364 + 7 * i) + 1))
def sX3_isBehind : Int → Int → MS → KM → Prop := fun d i s K => (dOk d ∧ (0 ≤ i ∧ i ≤ 160)) ∧ (mBehind s d i → K [pI 1] s) ∧ (¬ mBehind s d i → K [pI 0] s)
theorem mX3_isBehind_ok : mOk encM bdM mX3_isBehind (atR 0 (a2 sX3_isBehind)) := by
  refine mOVa2 kX3_isBehind (fun _ _ => rfl) (fun d i s K h hb => wx_J [] 9 tX3_isBehind_ok rfl (fun J hR hJ => ?_))
  obtain ⟨h1, h2, h3⟩ := h
  have f0 : s.2 4 (0 : Int).toNat = s.2 4 0 := rfl
  have f1 : s.2 4 (1 : Int).toNat = s.2 4 1 := rfl
  repeat' (first | (refine And.intro ?_ ?_) | (intro hq; first | (exact absurd hq (by omega)) | skip))
  all_goals first | omega | exact hR _ _ (h2 (by omega)) | exact hR _ _ (h3 (by omega))
def cM_X3_isBehind : Sp MS := atR 0 (a2 sX3_isBehind)
theorem qM_X3_isBehind {M : XI} {rc rs pc pc2 : Nat} (d : xl_Ca M pc mX3_isBehind pc2) : cOk encM bdM M rc rs pc pc2 3 cM_X3_isBehind := cSame mX3_isBehind_ok vX3_isBehind d mcl rfl lenM recM
def lmM (s : MS) (d : Int) : Nat → Int → Int → Int
  | 0, _, l => l
  | n + 1, r, l => lmM s d n (r + 1) (if mg s (d * 2804 + (20 + r)) = 0 ∧ (l < 0 ∨ mg s (d * 2804 + (12 + r)) < l) then mg s (d * 2804 + (12 + r)) else l)
def mLeast (s : MS) (d : Int) : Int := lmM s d (mg s (d * 2804 + 0)).toNat 0 (-1)
theorem lmM_B (s : MS) (d : Int) (hb : bdM s) : ∀ (n : Nat) (r l : Int), xB l → xB (lmM s d n r l)
  | 0, _, _, h => h
  | n + 1, r, l, h => by
    refine lmM_B s d hb n (r + 1) _ ?_
    split
    · exact mg_B hb
    · exact h
theorem X3_leastMark_l {K : KM} {Pt : MS → Prop} (s : MS) (d : Int) (hd : dOk d) (hn : mg s (d * 2804 + 0) ≤ 4) (hb : bdM s) : ∀ (m : Nat) (r l : Int), xB l → 0 ≤ r → r ≤ max 0 (mg s (d * 2804 + 0)) → m = (mg s (d * 2804 + 0) - r).toNat → K [pI (lmM s d m r l)] s → wX encM bdM mX3_leastMark 0 0 K Pt 4 [some (pR 0), some (pI d), some (pI l), some (pI r)] [] s := by
  intro m
  induction m with
  | zero =>
    intro r l hl h0 h1 hm hK
    refine wx_J [4] 9 tX3_leastMark_ok rfl (fun J hR hJ => ?_)
    repeat' (first | (refine And.intro ?_ ?_) | (intro hq; first | (exact absurd hq (by omega)) | skip))
    all_goals first | omega | exact hR _ _ hK
  | succ m ih =>
    intro r l hl h0 h1 hm hK
    refine wx_J [4] 9 tX3_leastMark_ok rfl (fun J hR hJ => ?_)
    rw [lmM] at hK
    have e1 : (mg s (d * 2804 + (20 + r)) = 0 ∧ (l < 0 ∨ mg s (d * 2804 + (12 + r)) < l)) → wX encM bdM mX3_leastMark 0 0 K Pt 4 [some (pR 0), some (pI d), some (pI (mg s (d * 2804 + (12 + r)))), some (pI (r + 1))] [] s := fun c => by
      rw [if_pos c] at hK
      exact ih (r + 1) _ (mg_B hb) (by omega) (by omega) (by omega) hK
    have e2 : ¬ (mg s (d * 2804 + (20 + r)) = 0 ∧ (l < 0 ∨ mg s (d * 2804 + (12 + r)) < l)) → wX encM bdM mX3_leastMark 0 0 K Pt 4 [some (pR 0), some (pI d), some (pI l), some (pI (r + 1))] [] s := fun c => by
      rw [if_neg c] at hK
      exact ih (r + 1) _ hl (by omega) (by omega) (by omega) hK
    repeat' (first | (refine And.intro ?_ ?_) | (intro hq; first | (exact absurd hq (by omega)) | skip))
    all_goals first | omega | exact hJ _ _ _ _ (e1 (by omega)) | exact hJ _ _ _ _ (e2 (by omega))
def sX3_leastMark : Int → MS → KM → Prop := fun d s K => (dOk d ∧ mg s (d * 2804 + 0) ≤ 4) ∧ (xB (mLeast s d) → K [pI (mLeast s d)] s)
theorem mX3_leastMark_ok : mOk encM bdM mX3_leastMark (atR 0 (a1 sX3_leastMark)) := by
  refine mOVa1 kX3_leastMark (fun _ => rfl) (fun d s K h hb => wx_J [4] 9 tX3_leastMark_ok rfl (fun J hR hJ => ?_))
  obtain ⟨⟨h1, h3⟩, h2⟩ := h
  exact hJ _ _ _ _ (X3_leastMark_l s d h1 h3 hb _ 0 (-1) ⟨by omega, by omega⟩ (by omega) (by omega) (by rw [Int.sub_zero]) (h2 (lmM_B s d hb _ _ _ ⟨by omega, by omega⟩)))
def cM_X3_leastMark : Sp MS := atR 0 (a1 sX3_leastMark)
theorem qM_X3_leastMark {M : XI} {rc rs pc pc2 : Nat} (d : xl_Ca M pc mX3_leastMark pc2) : cOk encM bdM M rc rs pc pc2 2 cM_X3_leastMark := cSame mX3_leastMark_ok vX3_leastMark d mcl rfl lenM recM
/-- a message is sent -/
def mInc (s : MS) (a v : Int) : MS := mP s a (wI (mg s a + v))
def sdL (k d i : Int) : Nat → Int → MS → MS
  | 0, _, s => s
  | m + 1, w, s => sdL k d i m (w + 1) (mP s (k + 1 + w) (mg s ((d * 2804 + 364 + 7 * i) + w)))
def mSend4 (s : MS) (d kd i : Int) : MS := mInc (mInc (sdL ((d * 2804 + 1484 + 6 * Int.tmod (mg s (d * 2804 + 7)) 60)) d i 5 0 (mP s ((d * 2804 + 1484 + 6 * Int.tmod (mg s (d * 2804 + 7)) 60)) kd)) (d * 2804 + 7) 1) (d * 2804 + (32 + kd)) 1
def mSend (s : MS) (d kd i : Int) : MS :=
  let s4 := mSend4 s d kd i
  mP (mInc s4 (d * 2804 + (60 + 4 * mg s4 ((d * 2804 + 364 + 7 * i) + 0) + kd)) 1) ((d * 2804 + 364 + 7 * i) + 6) (if kd = 3 then 0 else 1 + kd)
theorem X3_sends_l {K : KM} {Pt : MS → Prop} (d kd i n k : Int) (hd : dOk d) (hi : 0 ≤ i ∧ i ≤ 160) (hk : 0 ≤ kd ∧ kd ≤ 3) (hk2 : d * 2804 + 1130 ≤ k ∧ k ≤ d * 2804 + 1838) : ∀ (m : Nat) (w : Int) (s : MS), 0 ≤ w → w ≤ 5 → m = (5 - w).toNat → (let s4 := mInc (mInc (sdL k d i m w s) (d * 2804 + 7) 1) (d * 2804 + (32 + kd)) 1
    mI (d * 2804 + (60 + 4 * mg s4 ((d * 2804 + 364 + 7 * i) + 0) + kd)) ∧ K [] (mP (mInc s4 (d * 2804 + (60 + 4 * mg s4 ((d * 2804 + 364 + 7 * i) + 0) + kd)) 1) ((d * 2804 + 364 + 7 * i) + 6) (if kd = 3 then 0 else 1 + kd))) → wX encM bdM mX3_sends 0 0 K Pt 40 [some (pR 0), some (pI d), some (pI kd), some (pI i), none, some (pI k), some (pI w)] [] s := by
  intro m
  induction m with
  | zero =>
    intro w s h0 h1 hm hK
    refine wx_J [40] 9 tX3_sends_ok rfl (fun J hR hJ => ?_)
    obtain ⟨hI, hK⟩ := hK
    rw [sdL] at hI hK
    by_cases c : kd = 3
    · rw [if_pos c] at hK
      repeat' (first | (refine And.intro ?_ ?_) | (intro hq; first | (exact absurd hq (by omega)) | skip))
      all_goals first | omega | exact hI.1 | exact hI.2 | exact hR _ _ hK
    · rw [if_neg c] at hK
      repeat' (first | (refine And.intro ?_ ?_) | (intro hq; first | (exact absurd hq (by omega)) | skip))
      all_goals first | omega | exact hI.1 | exact hI.2 | exact hR _ _ hK
  | succ m ih =>
    intro w s h0 h1 hm hK
    refine wx_J [40] 9 tX3_sends_ok rfl (fun J hR hJ => ?_)
    rw [sdL] at hK
    have g := ih (w + 1) _ (by omega) (by omega) (by omega) hK
    repeat' (first | (refine And.intro ?_ ?_) | (intro hq; first | (exact absurd hq (by omega)) | skip))
    all_goals first | omega | exact hJ _ _ _ _ g
def sX3_sends : Int → Int → Int → MS → KM → Prop := fun d kd i s K => (dOk d ∧ (0 ≤ kd ∧ kd ≤ 3) ∧ (0 ≤ i ∧ i ≤ 160) ∧ mI (d * 2804 + (60 + 4 * mg (mSend4 s d kd i) ((d * 2804 + 364 + 7 * i) + 0) + kd))) ∧ K [] (mSend s d kd i)
theorem mX3_sends_ok : mOk encM bdM mX3_sends (atR 0 (a3 sX3_sends)) := by
  refine mOVa3 kX3_sends (fun _ _ _ => rfl) (fun d kd i s K h hb => wx_J [40] 9 tX3_sends_ok rfl (fun J hR hJ => ?_))
  obtain ⟨⟨h1, h2, h3, h4⟩, hK⟩ := h
  have t1 := Int.tmod_lt_of_pos (mg s (d * 2804 + 7)) (b := 60) (by omega)
  have t2 := Int.lt_tmod_of_pos (mg s (d * 2804 + 7)) (b := 60) (by omega)
  have g := X3_sends_l (K := K) (Pt := fun _ => False) d kd i (mg s (d * 2804 + 7)) ((d * 2804 + 1484 + 6 * Int.tmod (mg s (d * 2804 + 7)) 60)) h1 h3 h2 ⟨by omega, by omega⟩ 5 0 (mP s ((d * 2804 + 1484 + 6 * Int.tmod (mg s (d * 2804 + 7)) 60)) kd) (by omega) (by omega) (by omega) ⟨h4, hK⟩
  repeat' (first | (refine And.intro ?_ ?_) | (intro hq; first | (exact absurd hq (by omega)) | skip))
  all_goals first | omega | exact hJ _ _ _ _ g
def cM_X3_sends : Sp MS := atR 0 (a3 sX3_sends)
theorem qM_X3_sends {M : XI} {rc rs pc pc2 : Nat} (d : xl_Ca M pc mX3_sends pc2) : cOk encM bdM M rc rs pc pc2 4 cM_X3_sends := cSame mX3_sends_ok vX3_sends d mcl rfl lenM recM
