/-! ===== LateSessions: its face, questions with loops ===== -/
-- X2_stands: heads [9, 74]
def tX2_stands : Nat → Blk LSt := fun pc => bif Nat.blt pc 74 then (bif Nat.blt pc 9 then (bif Nat.beq pc 0 then (oI 0 <| oIst 1 <| oI 0 <| oIst 2 <| oI 0 <| oIst 3 <| oI 0 <| oIst 4 <| oM [true, true, true, true, true] (oTo 9)) else oNo) else (bif Nat.blt pc 71 then (bif Nat.beq pc 9 then (oIld 4 <| oI 6 <| oCGe 71 <| oIld 1 <| oAld 0 <| oGet (fgL) 2 0 <| oGet (fgL) 1 15 <| oIld 4 <| oI 4 <| oC3 (cL_X0_get) <| oAddW <| oIst 1 <| oIld 2 <| oAld 0 <| oGet (fgL) 2 0 <| oGet (fgL) 1 15 <| oIld 4 <| oI 5 <| oC3 (cL_X0_get) <| oAddW <| oIst 2 <| oIld 3 <| oAld 0 <| oGet (fgL) 2 0 <| oGet (fgL) 1 15 <| oIld 4 <| oI 6 <| oC3 (cL_X0_get) <| oAddW <| oIst 3 <| oInc 4 1 <| oM [true, true, true, true, true] (oTo 9)) else oNo) else (bif Nat.beq pc 71 then (oI 0 <| oIst 4 <| oM [true, true, true, true, true] (oTo 74)) else oNo))) else (bif Nat.blt pc 136 then (bif Nat.beq pc 74 then (oIld 4 <| oAld 0 <| oGet (fgL) 2 0 <| oGet (fgL) 1 11 <| oGet (fgL) 0 3 <| oCGe 142 <| oAld 0 <| oGet (fgL) 2 0 <| oIld 4 <| oC2 (cL_X1_hasResult) <| oZEq 136 <| oIncW 1 1 <| oIld 2 <| oAld 0 <| oGet (fgL) 2 0 <| oGet (fgL) 1 11 <| oIld 4 <| oI 3 <| oC3 (cL_X0_get) <| oAddW <| oIst 2 <| oIld 3 <| oAld 0 <| oGet (fgL) 2 0 <| oGet (fgL) 1 11 <| oIld 4 <| oI 4 <| oC3 (cL_X0_get) <| oAddW <| oIst 3 <| oTo 136) else oNo) else (bif Nat.blt pc 142 then (bif Nat.beq pc 136 then (oInc 4 1 <| oM [true, true, true, true, true] (oTo 74)) else oNo) else (bif Nat.beq pc 142 then (oAld 0 <| oIld 2 <| oI2l <| oIld 3 <| oI2l <| oC3 (cL_X2_tellTwo) <| oIld 1 <| oIret) else oNo)))
theorem tX2_stands_ok : ∀ pc, bOk (encL) (bdL) mX2_stands 0 0 pc (tX2_stands pc) := fun pc => (tNode (tNode (tLeaf (okIc iX2_stands_0 <| okIstn iX2_stands_1 rfl (by decide) <| okIc iX2_stands_2 <| okIstn iX2_stands_3 rfl (by decide) <| okIc iX2_stands_4 <| okIstn iX2_stands_5 rfl (by decide) <| okIc iX2_stands_6 <| okIst iX2_stands_7 (by decide) <| okM (okTo (tl rfl)))) (tNode (tLeaf (okIld iX2_stands_9 <| okBi iX2_stands_11 (by decide) <| okCGe (tl rfl) iX2_stands_13 <| okIldn iX2_stands_16 rfl <| okAldn iX2_stands_17 rfl <| okGet (vFgL) iX2_stands_18 <| okGet (vFgL) iX2_stands_21 <| okIld iX2_stands_24 <| okIc iX2_stands_26 <| okC3 (qL_X0_get iX2_stands_27) <| okAddW iX2_stands_30 <| okIstn iX2_stands_31 rfl (by decide) <| okIldn iX2_stands_32 rfl <| okAldn iX2_stands_33 rfl <| okGet (vFgL) iX2_stands_34 <| okGet (vFgL) iX2_stands_37 <| okIld iX2_stands_40 <| okIc iX2_stands_42 <| okC3 (qL_X0_get iX2_stands_43) <| okAddW iX2_stands_46 <| okIstn iX2_stands_47 rfl (by decide) <| okIldn iX2_stands_48 rfl <| okAldn iX2_stands_49 rfl <| okGet (vFgL) iX2_stands_50 <| okGet (vFgL) iX2_stands_53 <| okIld iX2_stands_56 <| okBi iX2_stands_58 (by decide) <| okC3 (qL_X0_get iX2_stands_60) <| okAddW iX2_stands_63 <| okIstn iX2_stands_64 rfl (by decide) <| okInc iX2_stands_65 (by decide) <| okGotoM (tl rfl) iX2_stands_68)) (tLeaf (okIc iX2_stands_71 <| okIst iX2_stands_72 (by decide) <| okM (okTo (tl rfl)))))) (tNode (tLeaf (okIld iX2_stands_74 <| okAldn iX2_stands_76 rfl <| okGet (vFgL) iX2_stands_77 <| okGet (vFgL) iX2_stands_80 <| okGet (vFgL) iX2_stands_83 <| okCGe (tl rfl) iX2_stands_86 <| okAldn iX2_stands_89 rfl <| okGet (vFgL) iX2_stands_90 <| okIld iX2_stands_93 <| okC2 (qL_X1_hasResult iX2_stands_95) <| okZEq (tl rfl) iX2_stands_98 <| okIncW iX2_stands_101 (by decide) <| okIldn iX2_stands_104 rfl <| okAldn iX2_stands_105 rfl <| okGet (vFgL) iX2_stands_106 <| okGet (vFgL) iX2_stands_109 <| okIld iX2_stands_112 <| okIc iX2_stands_114 <| okC3 (qL_X0_get iX2_stands_115) <| okAddW iX2_stands_118 <| okIstn iX2_stands_119 rfl (by decide) <| okIldn iX2_stands_120 rfl <| okAldn iX2_stands_121 rfl <| okGet (vFgL) iX2_stands_122 <| okGet (vFgL) iX2_stands_125 <| okIld iX2_stands_128 <| okIc iX2_stands_130 <| okC3 (qL_X0_get iX2_stands_131) <| okAddW iX2_stands_134 <| okIstn iX2_stands_135 rfl (by decide) <| okTo (tl rfl))) (tNode (tLeaf (okInc iX2_stands_136 (by decide) <| okGotoM (tl rfl) iX2_stands_139)) (tLeaf (okAldn iX2_stands_142 rfl <| okIldn iX2_stands_143 rfl <| okI2l iX2_stands_144 <| okIldn iX2_stands_145 rfl <| okI2l iX2_stands_146 <| okC3 (qL_X2_tellTwo iX2_stands_147) <| okIldn iX2_stands_150 rfl <| okIret iX2_stands_151 rfl))))) pc
-- X2_kinds: heads [17, 70]
def tX2_kinds : Nat → Blk LSt := fun pc => bif Nat.blt pc 54 then (bif Nat.blt pc 9 then (bif Nat.beq pc 0 then (oIld 1 <| oC1 (cL_X2_isKey) <| oZNe 9 <| oI (-1) <| oIret) else oNo) else (bif Nat.blt pc 17 then (bif Nat.beq pc 9 then (oI 0 <| oIst 2 <| oAld 0 <| oC1 (cL_X2_tellNothing) <| oI 0 <| oIst 3 <| oM [true, true, true, true, false] (oTo 17)) else oNo) else (bif Nat.beq pc 17 then (oIld 3 <| oI 4 <| oCGe 54 <| oAld 0 <| oGet (fgL) 2 0 <| oGet (fgL) 1 15 <| oIld 1 <| oIld 3 <| oC3 (cL_X0_get) <| oIst 4 <| oIld 2 <| oIld 4 <| oAddW <| oIst 2 <| oAld 0 <| oIld 4 <| oI2l <| oC2 (cL_X2_tellMore) <| oInc 3 1 <| oM [true, true, true, true, false] (oTo 17)) else oNo))) else (bif Nat.blt pc 117 then (bif Nat.blt pc 70 then (bif Nat.beq pc 54 then (oAld 0 <| oGet (fgL) 2 0 <| oGet (fgL) 1 15 <| oIld 1 <| oI 4 <| oC3 (cL_X0_get) <| oIst 3 <| oI 0 <| oIst 4 <| oM [true, true, true, true, true] (oTo 70)) else oNo) else (bif Nat.beq pc 70 then (oIld 4 <| oAld 0 <| oGet (fgL) 2 0 <| oGet (fgL) 1 11 <| oGet (fgL) 0 3 <| oCGe 123 <| oAld 0 <| oGet (fgL) 2 0 <| oGet (fgL) 1 11 <| oIld 4 <| oI 0 <| oC3 (cL_X0_get) <| oIld 1 <| oCNe 117 <| oAld 0 <| oGet (fgL) 2 0 <| oIld 4 <| oC2 (cL_X1_hasResult) <| oZEq 117 <| oIncW 3 1 <| oTo 117) else oNo)) else (bif Nat.blt pc 123 then (bif Nat.beq pc 117 then (oInc 4 1 <| oM [true, true, true, true, true] (oTo 70)) else oNo) else (bif Nat.beq pc 123 then (oAld 0 <| oIld 3 <| oI2l <| oC2 (cL_X2_tellMore) <| oIld 2 <| oIret) else oNo)))
theorem tX2_kinds_ok : ∀ pc, bOk (encL) (bdL) mX2_kinds 0 0 pc (tX2_kinds pc) := fun pc => (tNode (tNode (tLeaf (okIldn iX2_kinds_0 rfl <| okC1 (qL_X2_isKey iX2_kinds_1) <| okZNe (tl rfl) iX2_kinds_4 <| okIc iX2_kinds_7 <| okIret iX2_kinds_8 rfl)) (tNode (tLeaf (okIc iX2_kinds_9 <| okIstn iX2_kinds_10 rfl (by decide) <| okAldn iX2_kinds_11 rfl <| okC1 (qL_X2_tellNothing iX2_kinds_12) <| okIc iX2_kinds_15 <| okIstn iX2_kinds_16 rfl (by decide) <| okM (okTo (tl rfl)))) (tLeaf (okIldn iX2_kinds_17 rfl <| okIc iX2_kinds_18 <| okCGe (tl rfl) iX2_kinds_19 <| okAldn iX2_kinds_22 rfl <| okGet (vFgL) iX2_kinds_23 <| okGet (vFgL) iX2_kinds_26 <| okIldn iX2_kinds_29 rfl <| okIldn iX2_kinds_30 rfl <| okC3 (qL_X0_get iX2_kinds_31) <| okIst iX2_kinds_34 (by decide) <| okIldn iX2_kinds_36 rfl <| okIld iX2_kinds_37 <| okAddW iX2_kinds_39 <| okIstn iX2_kinds_40 rfl (by decide) <| okAldn iX2_kinds_41 rfl <| okIld iX2_kinds_42 <| okI2l iX2_kinds_44 <| okC2 (qL_X2_tellMore iX2_kinds_45) <| okInc iX2_kinds_48 (by decide) <| okGotoM (tl rfl) iX2_kinds_51)))) (tNode (tNode (tLeaf (okAldn iX2_kinds_54 rfl <| okGet (vFgL) iX2_kinds_55 <| okGet (vFgL) iX2_kinds_58 <| okIldn iX2_kinds_61 rfl <| okIc iX2_kinds_62 <| okC3 (qL_X0_get iX2_kinds_63) <| okIstn iX2_kinds_66 rfl (by decide) <| okIc iX2_kinds_67 <| okIst iX2_kinds_68 (by decide) <| okM (okTo (tl rfl)))) (tLeaf (okIld iX2_kinds_70 <| okAldn iX2_kinds_72 rfl <| okGet (vFgL) iX2_kinds_73 <| okGet (vFgL) iX2_kinds_76 <| okGet (vFgL) iX2_kinds_79 <| okCGe (tl rfl) iX2_kinds_82 <| okAldn iX2_kinds_85 rfl <| okGet (vFgL) iX2_kinds_86 <| okGet (vFgL) iX2_kinds_89 <| okIld iX2_kinds_92 <| okIc iX2_kinds_94 <| okC3 (qL_X0_get iX2_kinds_95) <| okIldn iX2_kinds_98 rfl <| okCNe (tl rfl) iX2_kinds_99 <| okAldn iX2_kinds_102 rfl <| okGet (vFgL) iX2_kinds_103 <| okIld iX2_kinds_106 <| okC2 (qL_X1_hasResult iX2_kinds_108) <| okZEq (tl rfl) iX2_kinds_111 <| okIncW iX2_kinds_114 (by decide) <| okTo (tl rfl)))) (tNode (tLeaf (okInc iX2_kinds_117 (by decide) <| okGotoM (tl rfl) iX2_kinds_120)) (tLeaf (okAldn iX2_kinds_123 rfl <| okIldn iX2_kinds_124 rfl <| okI2l iX2_kinds_125 <| okC2 (qL_X2_tellMore iX2_kinds_126) <| okIldn iX2_kinds_129 rfl <| okIret iX2_kinds_130 rfl))))) pc
-- X2_slow: heads [6]
def tX2_slow : Nat → Blk LSt := fun pc => bif Nat.blt pc 49 then (bif Nat.blt pc 6 then (bif Nat.beq pc 0 then (oI (-1) <| oIst 1 <| oI 0 <| oIst 2 <| oI 0 <| oIst 3 <| oM [true, true, true, true, false] (oTo 6)) else oNo) else (bif Nat.beq pc 6 then (oIld 3 <| oAld 0 <| oGet (fgL) 2 0 <| oGet (fgL) 1 10 <| oGet (fgL) 0 3 <| oCGe 55 <| oAld 0 <| oGet (fgL) 2 0 <| oIld 3 <| oC2 (cL_X1_leastMark) <| oAld 0 <| oGet (fgL) 2 0 <| oGet (fgL) 1 3 <| oSubW <| oIst 4 <| oIld 4 <| oIld 2 <| oCLe 49 <| oIld 4 <| oIst 2 <| oIld 3 <| oIst 1 <| oTo 49) else oNo)) else (bif Nat.blt pc 55 then (bif Nat.beq pc 49 then (oInc 3 1 <| oM [true, true, true, true, false] (oTo 6)) else oNo) else (bif Nat.blt pc 62 then (bif Nat.beq pc 55 then (oIld 1 <| oZGe 62 <| oI (-2) <| oIret) else oNo) else (bif Nat.beq pc 62 then (oAld 0 <| oIld 2 <| oI2l <| oAld 0 <| oGet (fgL) 2 0 <| oAld 0 <| oGet (fgL) 2 0 <| oGet (fgL) 1 3 <| oIld 2 <| oAddW <| oC2 (cL_X1_ripening) <| oI2l <| oC3 (cL_X2_tellTwo) <| oIld 1 <| oIret) else oNo)))
theorem tX2_slow_ok : ∀ pc, bOk (encL) (bdL) mX2_slow 0 0 pc (tX2_slow pc) := fun pc => (tNode (tNode (tLeaf (okIc iX2_slow_0 <| okIstn iX2_slow_1 rfl (by decide) <| okIc iX2_slow_2 <| okIstn iX2_slow_3 rfl (by decide) <| okIc iX2_slow_4 <| okIstn iX2_slow_5 rfl (by decide) <| okM (okTo (tl rfl)))) (tLeaf (okIldn iX2_slow_6 rfl <| okAldn iX2_slow_7 rfl <| okGet (vFgL) iX2_slow_8 <| okGet (vFgL) iX2_slow_11 <| okGet (vFgL) iX2_slow_14 <| okCGe (tl rfl) iX2_slow_17 <| okAldn iX2_slow_20 rfl <| okGet (vFgL) iX2_slow_21 <| okIldn iX2_slow_24 rfl <| okC2 (qL_X1_leastMark iX2_slow_25) <| okAldn iX2_slow_28 rfl <| okGet (vFgL) iX2_slow_29 <| okGet (vFgL) iX2_slow_32 <| okSubW iX2_slow_35 <| okIst iX2_slow_36 (by decide) <| okIld iX2_slow_38 <| okIldn iX2_slow_40 rfl <| okCLe (tl rfl) iX2_slow_41 <| okIld iX2_slow_44 <| okIstn iX2_slow_46 rfl (by decide) <| okIldn iX2_slow_47 rfl <| okIstn iX2_slow_48 rfl (by decide) <| okTo (tl rfl)))) (tNode (tLeaf (okInc iX2_slow_49 (by decide) <| okGotoM (tl rfl) iX2_slow_52)) (tNode (tLeaf (okIldn iX2_slow_55 rfl <| okZGe (tl rfl) iX2_slow_56 <| okBi iX2_slow_59 (by decide) <| okIret iX2_slow_61 rfl)) (tLeaf (okAldn iX2_slow_62 rfl <| okIldn iX2_slow_63 rfl <| okI2l iX2_slow_64 <| okAldn iX2_slow_65 rfl <| okGet (vFgL) iX2_slow_66 <| okAldn iX2_slow_69 rfl <| okGet (vFgL) iX2_slow_70 <| okGet (vFgL) iX2_slow_73 <| okIldn iX2_slow_76 rfl <| okAddW iX2_slow_77 <| okC2 (qL_X1_ripening iX2_slow_78) <| okI2l iX2_slow_81 <| okC3 (qL_X2_tellTwo iX2_slow_82) <| okIldn iX2_slow_85 rfl <| okIret iX2_slow_86 rfl))))) pc
-- X2_holds: heads [16]
def tX2_holds : Nat → Blk LSt := fun pc => bif Nat.blt pc 82 then (bif Nat.blt pc 16 then (bif Nat.beq pc 0 then (oAld 0 <| oGet (fgL) 2 0 <| oI (-1) <| oC2 (cL_X1_leastMark) <| oIst 1 <| oI 0 <| oIst 2 <| oI 0 <| oIst 3 <| oI 0 <| oIst 4 <| oM [true, true, true, true, true, false] (oTo 16)) else oNo) else (bif Nat.beq pc 16 then (oIld 4 <| oAld 0 <| oGet (fgL) 2 0 <| oGet (fgL) 1 10 <| oGet (fgL) 0 3 <| oCGe 88 <| oAld 0 <| oGet (fgL) 2 0 <| oGet (fgL) 1 10 <| oIld 4 <| oI 0 <| oC3 (cL_X0_get) <| oIst 5 <| oIld 3 <| oIld 5 <| oMax <| oIst 3 <| oAld 0 <| oGet (fgL) 2 0 <| oGet (fgL) 1 10 <| oIld 4 <| oI 2 <| oC3 (cL_X0_get) <| oZNe 82 <| oIld 5 <| oIld 1 <| oCNe 82 <| oIld 2 <| oI 1 <| oIld 4 <| oShl <| oOr <| oIst 2 <| oTo 82) else oNo)) else (bif Nat.blt pc 88 then (bif Nat.beq pc 82 then (oInc 4 1 <| oM [true, true, true, true, true, false] (oTo 16)) else oNo) else (bif Nat.beq pc 88 then (oAld 0 <| oIld 1 <| oI2l <| oIld 3 <| oAld 0 <| oGet (fgL) 2 0 <| oGet (fgL) 1 3 <| oSubW <| oI2l <| oC3 (cL_X2_tellTwo) <| oIld 2 <| oIret) else oNo))
theorem tX2_holds_ok : ∀ pc, bOk (encL) (bdL) mX2_holds 0 0 pc (tX2_holds pc) := fun pc => (tNode (tNode (tLeaf (okAldn iX2_holds_0 rfl <| okGet (vFgL) iX2_holds_1 <| okIc iX2_holds_4 <| okC2 (qL_X1_leastMark iX2_holds_5) <| okIstn iX2_holds_8 rfl (by decide) <| okIc iX2_holds_9 <| okIstn iX2_holds_10 rfl (by decide) <| okIc iX2_holds_11 <| okIstn iX2_holds_12 rfl (by decide) <| okIc iX2_holds_13 <| okIst iX2_holds_14 (by decide) <| okM (okTo (tl rfl)))) (tLeaf (okIld iX2_holds_16 <| okAldn iX2_holds_18 rfl <| okGet (vFgL) iX2_holds_19 <| okGet (vFgL) iX2_holds_22 <| okGet (vFgL) iX2_holds_25 <| okCGe (tl rfl) iX2_holds_28 <| okAldn iX2_holds_31 rfl <| okGet (vFgL) iX2_holds_32 <| okGet (vFgL) iX2_holds_35 <| okIld iX2_holds_38 <| okIc iX2_holds_40 <| okC3 (qL_X0_get iX2_holds_41) <| okIst iX2_holds_44 (by decide) <| okIldn iX2_holds_46 rfl <| okIld iX2_holds_47 <| okMax iX2_holds_49 <| okIstn iX2_holds_52 rfl (by decide) <| okAldn iX2_holds_53 rfl <| okGet (vFgL) iX2_holds_54 <| okGet (vFgL) iX2_holds_57 <| okIld iX2_holds_60 <| okIc iX2_holds_62 <| okC3 (qL_X0_get iX2_holds_63) <| okZNe (tl rfl) iX2_holds_66 <| okIld iX2_holds_69 <| okIldn iX2_holds_71 rfl <| okCNe (tl rfl) iX2_holds_72 <| okIldn iX2_holds_75 rfl <| okIc iX2_holds_76 <| okIld iX2_holds_77 <| okShl iX2_holds_79 <| okOr iX2_holds_80 <| okIstn iX2_holds_81 rfl (by decide) <| okTo (tl rfl)))) (tNode (tLeaf (okInc iX2_holds_82 (by decide) <| okGotoM (tl rfl) iX2_holds_85)) (tLeaf (okAldn iX2_holds_88 rfl <| okIldn iX2_holds_89 rfl <| okI2l iX2_holds_90 <| okIldn iX2_holds_91 rfl <| okAldn iX2_holds_92 rfl <| okGet (vFgL) iX2_holds_93 <| okGet (vFgL) iX2_holds_96 <| okSubW iX2_holds_99 <| okI2l iX2_holds_100 <| okC3 (qL_X2_tellTwo iX2_holds_101) <| okIldn iX2_holds_104 rfl <| okIret iX2_holds_105 rfl)))) pc
-- X2_next: heads [6]
def tX2_next : Nat → Blk LSt := fun pc => bif Nat.blt pc 67 then (bif Nat.blt pc 6 then (bif Nat.beq pc 0 then (oI (-1) <| oIst 1 <| oI 0 <| oIst 2 <| oI 0 <| oIst 3 <| oM [true, true, true, true, false] (oTo 6)) else oNo) else (bif Nat.blt pc 62 then (bif Nat.beq pc 6 then (oIld 3 <| oAld 0 <| oGet (fgL) 2 0 <| oGet (fgL) 1 11 <| oGet (fgL) 0 3 <| oCGe 73 <| oAld 0 <| oGet (fgL) 2 0 <| oGet (fgL) 1 11 <| oIld 3 <| oI 2 <| oC3 (cL_X0_get) <| oIst 4 <| oAld 0 <| oGet (fgL) 2 0 <| oIld 3 <| oAld 0 <| oGet (fgL) 2 0 <| oGet (fgL) 1 3 <| oC3 (cL_X1_isRipe) <| oZNe 67 <| oIld 1 <| oZLt 62 <| oIld 4 <| oIld 2 <| oCGe 67 <| oTo 62) else oNo) else (bif Nat.beq pc 62 then (oIld 3 <| oIst 1 <| oIld 4 <| oIst 2 <| oTo 67) else oNo))) else (bif Nat.blt pc 73 then (bif Nat.beq pc 67 then (oInc 3 1 <| oM [true, true, true, true, false] (oTo 6)) else oNo) else (bif Nat.blt pc 80 then (bif Nat.beq pc 73 then (oIld 1 <| oZGe 80 <| oI (-2) <| oIret) else oNo) else (bif Nat.beq pc 80 then (oAld 0 <| oIld 2 <| oAld 0 <| oGet (fgL) 2 0 <| oGet (fgL) 1 0 <| oAddW <| oI 1 <| oAddW <| oAld 0 <| oGet (fgL) 2 0 <| oGet (fgL) 1 3 <| oSubW <| oI2l <| oC2 (cL_X2_tellOne) <| oIld 1 <| oIret) else oNo)))
theorem tX2_next_ok : ∀ pc, bOk (encL) (bdL) mX2_next 0 0 pc (tX2_next pc) := fun pc => (tNode (tNode (tLeaf (okIc iX2_next_0 <| okIstn iX2_next_1 rfl (by decide) <| okIc iX2_next_2 <| okIstn iX2_next_3 rfl (by decide) <| okIc iX2_next_4 <| okIstn iX2_next_5 rfl (by decide) <| okM (okTo (tl rfl)))) (tNode (tLeaf (okIldn iX2_next_6 rfl <| okAldn iX2_next_7 rfl <| okGet (vFgL) iX2_next_8 <| okGet (vFgL) iX2_next_11 <| okGet (vFgL) iX2_next_14 <| okCGe (tl rfl) iX2_next_17 <| okAldn iX2_next_20 rfl <| okGet (vFgL) iX2_next_21 <| okGet (vFgL) iX2_next_24 <| okIldn iX2_next_27 rfl <| okIc iX2_next_28 <| okC3 (qL_X0_get iX2_next_29) <| okIst iX2_next_32 (by decide) <| okAldn iX2_next_34 rfl <| okGet (vFgL) iX2_next_35 <| okIldn iX2_next_38 rfl <| okAldn iX2_next_39 rfl <| okGet (vFgL) iX2_next_40 <| okGet (vFgL) iX2_next_43 <| okC3 (qL_X1_isRipe iX2_next_46) <| okZNe (tl rfl) iX2_next_49 <| okIldn iX2_next_52 rfl <| okZLt (tl rfl) iX2_next_53 <| okIld iX2_next_56 <| okIldn iX2_next_58 rfl <| okCGe (tl rfl) iX2_next_59 <| okTo (tl rfl))) (tLeaf (okIldn iX2_next_62 rfl <| okIstn iX2_next_63 rfl (by decide) <| okIld iX2_next_64 <| okIstn iX2_next_66 rfl (by decide) <| okTo (tl rfl))))) (tNode (tLeaf (okInc iX2_next_67 (by decide) <| okGotoM (tl rfl) iX2_next_70)) (tNode (tLeaf (okIldn iX2_next_73 rfl <| okZGe (tl rfl) iX2_next_74 <| okBi iX2_next_77 (by decide) <| okIret iX2_next_79 rfl)) (tLeaf (okAldn iX2_next_80 rfl <| okIldn iX2_next_81 rfl <| okAldn iX2_next_82 rfl <| okGet (vFgL) iX2_next_83 <| okGet (vFgL) iX2_next_86 <| okAddW iX2_next_89 <| okIc iX2_next_90 <| okAddW iX2_next_91 <| okAldn iX2_next_92 rfl <| okGet (vFgL) iX2_next_93 <| okGet (vFgL) iX2_next_96 <| okSubW iX2_next_99 <| okI2l iX2_next_100 <| okC2 (qL_X2_tellOne iX2_next_101) <| okIldn iX2_next_104 rfl <| okIret iX2_next_105 rfl))))) pc
-- X2_ahead: heads [31]
def tX2_ahead : Nat → Blk LSt := fun pc => bif Nat.blt pc 27 then (bif Nat.blt pc 11 then (bif Nat.beq pc 0 then (oIld 1 <| oZLt 11 <| oIld 1 <| oI 20000 <| oCLe 13 <| oTo 11) else oNo) else (bif Nat.blt pc 13 then (bif Nat.beq pc 11 then (oI (-1) <| oIret) else oNo) else (bif Nat.beq pc 13 then (oIld 1 <| oAld 0 <| oGet (fgL) 2 0 <| oGet (fgL) 1 3 <| oCGe 27 <| oI (-2) <| oIret) else oNo))) else (bif Nat.blt pc 60 then (bif Nat.blt pc 31 then (bif Nat.beq pc 27 then (oI 0 <| oIst 2 <| oI 0 <| oIst 3 <| oM [true, true, true, true] (oTo 31)) else oNo) else (bif Nat.beq pc 31 then (oIld 3 <| oAld 0 <| oGet (fgL) 2 0 <| oGet (fgL) 1 11 <| oGet (fgL) 0 3 <| oCGe 66 <| oAld 0 <| oGet (fgL) 2 0 <| oIld 3 <| oIld 1 <| oC3 (cL_X1_isOver) <| oZEq 60 <| oInc 2 1 <| oTo 60) else oNo)) else (bif Nat.blt pc 66 then (bif Nat.beq pc 60 then (oInc 3 1 <| oM [true, true, true, true] (oTo 31)) else oNo) else (bif Nat.beq pc 66 then (oAld 0 <| oIld 2 <| oI2l <| oC2 (cL_X2_tellOne) <| oAld 0 <| oGet (fgL) 2 0 <| oIld 1 <| oC2 (cL_X1_ripening) <| oIret) else oNo)))
theorem tX2_ahead_ok : ∀ pc, bOk (encL) (bdL) mX2_ahead 0 0 pc (tX2_ahead pc) := fun pc => (tNode (tNode (tLeaf (okIldn iX2_ahead_0 rfl <| okZLt (tl rfl) iX2_ahead_1 <| okIldn iX2_ahead_4 rfl <| okSi iX2_ahead_5 (by decide) <| okCLe (tl rfl) iX2_ahead_8 <| okTo (tl rfl))) (tNode (tLeaf (okIc iX2_ahead_11 <| okIret iX2_ahead_12 rfl)) (tLeaf (okIldn iX2_ahead_13 rfl <| okAldn iX2_ahead_14 rfl <| okGet (vFgL) iX2_ahead_15 <| okGet (vFgL) iX2_ahead_18 <| okCGe (tl rfl) iX2_ahead_21 <| okBi iX2_ahead_24 (by decide) <| okIret iX2_ahead_26 rfl)))) (tNode (tNode (tLeaf (okIc iX2_ahead_27 <| okIstn iX2_ahead_28 rfl (by decide) <| okIc iX2_ahead_29 <| okIstn iX2_ahead_30 rfl (by decide) <| okM (okTo (tl rfl)))) (tLeaf (okIldn iX2_ahead_31 rfl <| okAldn iX2_ahead_32 rfl <| okGet (vFgL) iX2_ahead_33 <| okGet (vFgL) iX2_ahead_36 <| okGet (vFgL) iX2_ahead_39 <| okCGe (tl rfl) iX2_ahead_42 <| okAldn iX2_ahead_45 rfl <| okGet (vFgL) iX2_ahead_46 <| okIldn iX2_ahead_49 rfl <| okIldn iX2_ahead_50 rfl <| okC3 (qL_X1_isOver iX2_ahead_51) <| okZEq (tl rfl) iX2_ahead_54 <| okInc iX2_ahead_57 (by decide) <| okTo (tl rfl)))) (tNode (tLeaf (okInc iX2_ahead_60 (by decide) <| okGotoM (tl rfl) iX2_ahead_63)) (tLeaf (okAldn iX2_ahead_66 rfl <| okIldn iX2_ahead_67 rfl <| okI2l iX2_ahead_68 <| okC2 (qL_X2_tellOne iX2_ahead_69) <| okAldn iX2_ahead_72 rfl <| okGet (vFgL) iX2_ahead_73 <| okIldn iX2_ahead_76 rfl <| okC2 (qL_X1_ripening iX2_ahead_77) <| okIret iX2_ahead_80 rfl))))) pc
-- X2_latest: heads [6]
def tX2_latest : Nat → Blk LSt := fun pc => bif Nat.blt pc 46 then (bif Nat.blt pc 6 then (bif Nat.beq pc 0 then (oI 0 <| oIst 1 <| oI (-1) <| oIst 2 <| oI 0 <| oIst 3 <| oM [true, true, true, true, false] (oTo 6)) else oNo) else (bif Nat.beq pc 6 then (oIld 3 <| oAld 0 <| oGet (fgL) 2 0 <| oGet (fgL) 1 14 <| oGet (fgL) 0 3 <| oCGe 52 <| oAld 0 <| oGet (fgL) 2 0 <| oGet (fgL) 1 14 <| oIld 3 <| oI 6 <| oC3 (cL_X0_get) <| oIst 4 <| oIld 4 <| oIld 1 <| oCLe 46 <| oIld 4 <| oIst 1 <| oIld 3 <| oIst 2 <| oTo 46) else oNo)) else (bif Nat.blt pc 52 then (bif Nat.beq pc 46 then (oInc 3 1 <| oM [true, true, true, true, false] (oTo 6)) else oNo) else (bif Nat.beq pc 52 then (oAld 0 <| oIld 2 <| oI2l <| oC2 (cL_X2_tellOne) <| oIld 1 <| oIret) else oNo))
theorem tX2_latest_ok : ∀ pc, bOk (encL) (bdL) mX2_latest 0 0 pc (tX2_latest pc) := fun pc => (tNode (tNode (tLeaf (okIc iX2_latest_0 <| okIstn iX2_latest_1 rfl (by decide) <| okIc iX2_latest_2 <| okIstn iX2_latest_3 rfl (by decide) <| okIc iX2_latest_4 <| okIstn iX2_latest_5 rfl (by decide) <| okM (okTo (tl rfl)))) (tLeaf (okIldn iX2_latest_6 rfl <| okAldn iX2_latest_7 rfl <| okGet (vFgL) iX2_latest_8 <| okGet (vFgL) iX2_latest_11 <| okGet (vFgL) iX2_latest_14 <| okCGe (tl rfl) iX2_latest_17 <| okAldn iX2_latest_20 rfl <| okGet (vFgL) iX2_latest_21 <| okGet (vFgL) iX2_latest_24 <| okIldn iX2_latest_27 rfl <| okBi iX2_latest_28 (by decide) <| okC3 (qL_X0_get iX2_latest_30) <| okIst iX2_latest_33 (by decide) <| okIld iX2_latest_35 <| okIldn iX2_latest_37 rfl <| okCLe (tl rfl) iX2_latest_38 <| okIld iX2_latest_41 <| okIstn iX2_latest_43 rfl (by decide) <| okIldn iX2_latest_44 rfl <| okIstn iX2_latest_45 rfl (by decide) <| okTo (tl rfl)))) (tNode (tLeaf (okInc iX2_latest_46 (by decide) <| okGotoM (tl rfl) iX2_latest_49)) (tLeaf (okAldn iX2_latest_52 rfl <| okIldn iX2_latest_53 rfl <| okI2l iX2_latest_54 <| okC2 (qL_X2_tellOne iX2_latest_55) <| okIldn iX2_latest_58 rfl <| okIret iX2_latest_59 rfl)))) pc
def stL (w : WS) : Nat → Int → Int → Int → Int → Int × Int × Int
  | 0, _, a, b, c => (a, b, c)
  | n + 1, i, a, b, c => if wHas w i then stL w n (i + 1) (wI (a + 1)) (wI (b + wG w 1 i 3)) (wI (c + wG w 1 i 4)) else stL w n (i + 1) a b c
def fStands (s : LSt) : Int × LSt :=
  let w := s.2.2 0
  let x := stL w (wZ w 1).toNat 0 (sumI (fun k => wG w 5 k 4) 6 0 0) (sumI (fun k => wG w 5 k 5) 6 0 0) (sumI (fun k => wG w 5 k 6) 6 0 0)
  (x.1, lTell2 s x.2.1 x.2.2)
theorem X2_stands_l2 {K : KL} {Pt : LSt → Prop} (s : LSt) : ∀ (m : Nat) (i a b c : Int), xB b → xB c → 0 ≤ i → i ≤ max 0 (wZ (s.2.2 0) 1) → m = (wZ (s.2.2 0) 1 - i).toNat → K [pI (stL (s.2.2 0) m i a b c).1] (lTell2 s (stL (s.2.2 0) m i a b c).2.1 (stL (s.2.2 0) m i a b c).2.2) → wX encL bdL mX2_stands 0 0 K Pt 74 [some (pR 0), some (pI a), some (pI b), some (pI c), some (pI i)] [] s := by
  intro m
  induction m with
  | zero =>
    intro i a b c hb2 hc2 h0 h1 hm hK
    refine wx_Jb [9, 74] 9 tX2_stands_ok rfl (fun hb J hR hJ => ?_)
    have hz : xB (wZ (s.2.2 0) 1) := ((hb.2.2 0).2 1).1
    intro _
    refine ⟨⟨⟨by omega, by omega⟩, hz⟩, fun _ => ⟨hb2, hc2, ⟨hb2, hc2⟩, hR _ _ hK⟩, fun c => ?_⟩
    have c : i < wZ (s.2.2 0) 1 := c
    omega
  | succ m ih =>
    intro i a b c hb2 hc2 h0 h1 hm hK
    refine wx_Jb [9, 74] 9 tX2_stands_ok rfl (fun hb J hR hJ => ?_)
    have hz : xB (wZ (s.2.2 0) 1) := ((hb.2.2 0).2 1).1
    rw [stL] at hK
    intro _
    refine ⟨⟨⟨by omega, by omega⟩, hz⟩, fun c => ?_, fun _ => ⟨⟨by omega, by omega⟩, fun c => ?_, fun c => ?_⟩⟩
    · have c : wZ (s.2.2 0) 1 ≤ i := c
      omega
    · rw [if_pos c] at hK
      have g := ih (i + 1) _ _ _ (wI_B _) (wI_B _) (by omega) (by omega) (by omega) hK
      repeat' (first | (refine And.intro ?_ ?_) | intro _)
      all_goals first | omega | exact hJ _ _ _ _ g
    · rw [if_neg c] at hK
      have g := ih (i + 1) _ _ _ hb2 hc2 (by omega) (by omega) (by omega) hK
      repeat' (first | (refine And.intro ?_ ?_) | intro _)
      all_goals first | omega | exact hJ _ _ _ _ g
theorem X2_stands_l1 {K : KL} {Pt : LSt → Prop} (s : LSt) : ∀ (m : Nat) (k a b c : Int), xB b → xB c → 0 ≤ k → k ≤ 6 → m = (6 - k).toNat → K [pI (stL (s.2.2 0) (wZ (s.2.2 0) 1).toNat 0 (sumI (fun k => wG (s.2.2 0) 5 k 4) m k a) (sumI (fun k => wG (s.2.2 0) 5 k 5) m k b) (sumI (fun k => wG (s.2.2 0) 5 k 6) m k c)).1] (lTell2 s (stL (s.2.2 0) (wZ (s.2.2 0) 1).toNat 0 (sumI (fun k => wG (s.2.2 0) 5 k 4) m k a) (sumI (fun k => wG (s.2.2 0) 5 k 5) m k b) (sumI (fun k => wG (s.2.2 0) 5 k 6) m k c)).2.1 (stL (s.2.2 0) (wZ (s.2.2 0) 1).toNat 0 (sumI (fun k => wG (s.2.2 0) 5 k 4) m k a) (sumI (fun k => wG (s.2.2 0) 5 k 5) m k b) (sumI (fun k => wG (s.2.2 0) 5 k 6) m k c)).2.2) → wX encL bdL mX2_stands 0 0 K Pt 9 [some (pR 0), some (pI a), some (pI b), some (pI c), some (pI k)] [] s := by
  intro m
  induction m with
  | zero =>
    intro k a b c hb2 hc2 h0 h1 hm hK
    refine wx_J [9, 74] 9 tX2_stands_ok rfl (fun J hR hJ => ?_)
    have g := X2_stands_l2 (K := K) (Pt := Pt) s _ 0 a b c hb2 hc2 (by omega) (by omega) (by rw [Int.sub_zero]) hK
    repeat' (first | (refine And.intro ?_ ?_) | intro _)
    all_goals first | omega | exact hJ _ _ _ _ g
  | succ m ih =>
    intro k a b c hb2 hc2 h0 h1 hm hK
    refine wx_J [9, 74] 9 tX2_stands_ok rfl (fun J hR hJ => ?_)
    have g := ih (k + 1) _ _ _ (wI_B _) (wI_B _) (by omega) (by omega) (by omega) hK
    repeat' (first | (refine And.intro ?_ ?_) | intro _)
    all_goals first | omega | exact hJ _ _ _ _ g
def sX2_stands : LSt → KL → Prop := fun s K => K [pI (fStands s).1] (fStands s).2
theorem mX2_stands_ok : mOk encL bdL mX2_stands (atR 0 (a0 sX2_stands)) := by
  refine mOVa0 kX2_stands (fun _ => rfl) (fun s K h hb => wx_J [9, 74] 9 tX2_stands_ok rfl (fun J hR hJ => ?_))
  exact hJ _ _ _ _ (X2_stands_l1 s 6 0 0 0 0 ⟨by omega, by omega⟩ ⟨by omega, by omega⟩ (by omega) (by omega) (by omega) h)
def knL (k : Int) : Nat → Int → Int → LSt → Int × LSt
  | 0, _, t, s => (t, s)
  | m + 1, i, t, s => knL k m (i + 1) (wI (t + wG (s.2.2 0) 5 k i)) (lTell s (wG (s.2.2 0) 5 k i))
def ksL (w : WS) (k : Int) : Nat → Int → Int → Int
  | 0, _, a => a
  | m + 1, i, a => if wG w 1 i 0 = k ∧ wHas w i then ksL w k m (i + 1) (wI (a + 1)) else ksL w k m (i + 1) a
def fKinds2 (s : LSt) (k t : Int) : Int × LSt := (t, lTell s (ksL (s.2.2 0) k (wZ (s.2.2 0) 1).toNat 0 (wG (s.2.2 0) 5 k 4)))
def fKinds (s : LSt) (k : Int) : Int × LSt := if 0 ≤ k ∧ k < 6 then fKinds2 (knL k 4 0 0 (setS s 3 0)).2 k (knL k 4 0 0 (setS s 3 0)).1 else (-1, s)
theorem X2_kinds_l2 {K : KL} {Pt : LSt → Prop} (s : LSt) (k t : Int) (hk : xB k) (h3 : 0 ≤ s.1 3) : ∀ (m : Nat) (i a : Int), xB a → 0 ≤ i → i ≤ max 0 (wZ (s.2.2 0) 1) → m = (wZ (s.2.2 0) 1 - i).toNat → K [pI t] (lTell s (ksL (s.2.2 0) k m i a)) → wX encL bdL mX2_kinds 0 0 K Pt 70 [some (pR 0), some (pI k), some (pI t), some (pI a), some (pI i)] [] s := by
  intro m
  induction m with
  | zero =>
    intro i a ha h0 h1 hm hK
    refine wx_Jb [17, 70] 9 tX2_kinds_ok rfl (fun hb J hR hJ => ?_)
    have hz : xB (wZ (s.2.2 0) 1) := ((hb.2.2 0).2 1).1
    intro _
    refine ⟨⟨⟨by omega, by omega⟩, hz⟩, fun _ => ⟨ha, ⟨ha, h3⟩, hR _ _ hK⟩, fun c => ?_⟩
    have c : i < wZ (s.2.2 0) 1 := c
    omega
  | succ m ih =>
    intro i a ha h0 h1 hm hK
    refine wx_Jb [17, 70] 9 tX2_kinds_ok rfl (fun hb J hR hJ => ?_)
    have hz : xB (wZ (s.2.2 0) 1) := ((hb.2.2 0).2 1).1
    rw [ksL] at hK
    have e1 : (wG (s.2.2 0) 1 i 0 = k ∧ wHas (s.2.2 0) i) → wX encL bdL mX2_kinds 0 0 K Pt 70 [some (pR 0), some (pI k), some (pI t), some (pI (wI (a + 1))), some (pI (i + 1))] [] s := fun c => by
      rw [if_pos c] at hK
      exact ih (i + 1) _ (wI_B _) (by omega) (by omega) (by omega) hK
    have e2 : ¬ (wG (s.2.2 0) 1 i 0 = k ∧ wHas (s.2.2 0) i) → wX encL bdL mX2_kinds 0 0 K Pt 70 [some (pR 0), some (pI k), some (pI t), some (pI a), some (pI (i + 1))] [] s := fun c => by
      rw [if_neg c] at hK
      exact ih (i + 1) _ ha (by omega) (by omega) (by omega) hK
    intro _
    refine ⟨⟨⟨by omega, by omega⟩, hz⟩, fun c => ?_, fun _ => ?_⟩
    · have c : wZ (s.2.2 0) 1 ≤ i := c
      omega
    · repeat' (first | (refine And.intro ?_ ?_) | intro _)
      all_goals first | omega | exact hJ _ _ _ _ (e1 (by omega)) | exact hJ _ _ _ _ (e2 (by omega))
theorem X2_kinds_l1 {K : KL} {Pt : LSt → Prop} (k : Int) (hk : xB k) : ∀ (m : Nat) (i t : Int) (s : LSt), 0 ≤ s.1 3 → 0 ≤ i → i ≤ 4 → m = (4 - i).toNat → K [pI (fKinds2 (knL k m i t s).2 k (knL k m i t s).1).1] (fKinds2 (knL k m i t s).2 k (knL k m i t s).1).2 → wX encL bdL mX2_kinds 0 0 K Pt 17 [some (pR 0), some (pI k), some (pI t), some (pI i), none] [] s := by
  intro m
  induction m with
  | zero =>
    intro i t s h3 h0 h1 hm hK
    refine wx_Jb [17, 70] 9 tX2_kinds_ok rfl (fun hb J hR hJ => ?_)
    have g := X2_kinds_l2 (K := K) (Pt := Pt) s k t hk h3 _ 0 (wG (s.2.2 0) 5 k 4) (wG_B (hb.2.2 0)) (by omega) (by omega) (by rw [Int.sub_zero]; rfl) hK
    repeat' (first | (refine And.intro ?_ ?_) | intro _)
    all_goals first | omega | exact hJ _ _ _ _ g
  | succ m ih =>
    intro i t s h3 h0 h1 hm hK
    refine wx_J [17, 70] 9 tX2_kinds_ok rfl (fun J hR hJ => ?_)
    rw [knL] at hK
    have g := ih (i + 1) (wI (t + wG (s.2.2 0) 5 k i)) (lTell s (wG (s.2.2 0) 5 k i)) (lTell_n h3) (by omega) (by omega) (by omega) hK
    repeat' (first | (refine And.intro ?_ ?_) | intro _)
    all_goals first | omega | exact hJ _ _ _ _ g
def sX2_kinds : Int → LSt → KL → Prop := fun k s K => xB k ∧ K [pI (fKinds s k).1] (fKinds s k).2
theorem mX2_kinds_ok : mOk encL bdL mX2_kinds (atR 0 (a1 sX2_kinds)) := by
  refine mOVa1 kX2_kinds (fun _ => rfl) (fun k s K h hb => wx_J [17, 70] 9 tX2_kinds_ok rfl (fun J hR hJ => ?_))
  obtain ⟨h1, hK⟩ := h
  unfold fKinds at hK
  refine ⟨h1, fun c => ?_, fun c => ?_⟩
  · rw [if_pos c] at hK
    have g := X2_kinds_l1 (K := K) (Pt := fun _ => False) k h1 4 0 0 (setS s 3 0) (by show (0 : Int) ≤ 0; omega) (by omega) (by omega) (by omega) hK
    repeat' (first | (refine And.intro ?_ ?_) | intro _)
    all_goals first | omega | exact hJ _ _ _ _ g
  · rw [if_neg c] at hK
    repeat' (first | (refine And.intro ?_ ?_) | intro _)
    all_goals first | omega | exact hR _ _ hK
def slL (w : WS) : Nat → Int → Int → Int → Int × Int
  | 0, _, a, b => (a, b)
  | m + 1, i, a, b => if b < wI (wLeast w i - w.1 3) then slL w m (i + 1) i (wI (wLeast w i - w.1 3)) else slL w m (i + 1) a b
def fSlow2 (s : LSt) (p : Int × Int) : Int × LSt := if p.1 < 0 then (-2, s) else (p.1, lTell2 s p.2 (wRipening (s.2.2 0) (wI ((s.2.2 0).1 3 + p.2))))
def fSlow (s : LSt) : Int × LSt := fSlow2 s (slL (s.2.2 0) (wZ (s.2.2 0) 0).toNat 0 (-1) 0)
theorem X2_slow_l {K : KL} {Pt : LSt → Prop} (s : LSt) : ∀ (m : Nat) (i a b : Int), xB a → xB b → 0 ≤ i → i ≤ max 0 (wZ (s.2.2 0) 0) → m = (wZ (s.2.2 0) 0 - i).toNat → K [pI (fSlow2 s (slL (s.2.2 0) m i a b)).1] (fSlow2 s (slL (s.2.2 0) m i a b)).2 → wX encL bdL mX2_slow 0 0 K Pt 6 [some (pR 0), some (pI a), some (pI b), some (pI i), none] [] s := by
  intro m
  induction m with
  | zero =>
    intro i a b ha hb2 h0 h1 hm hK
    refine wx_Jb [6] 9 tX2_slow_ok rfl (fun hb J hR hJ => ?_)
    have hz : xB (wZ (s.2.2 0) 0) := ((hb.2.2 0).2 0).1
    rw [slL] at hK
    unfold fSlow2 at hK
    intro _
    refine ⟨⟨⟨by omega, by omega⟩, hz⟩, fun _ => ?_, fun c => ?_⟩
    · by_cases c : a < 0
      · rw [if_pos c] at hK
        repeat' (first | (refine And.intro ?_ ?_) | intro _)
        all_goals first | omega | exact hR _ _ hK
      · rw [if_neg c] at hK
        repeat' (first | (refine And.intro ?_ ?_) | intro _)
        all_goals first | omega | exact hR _ _ hK
    · have c : i < wZ (s.2.2 0) 0 := c
      omega
  | succ m ih =>
    intro i a b ha hb2 h0 h1 hm hK
    refine wx_Jb [6] 9 tX2_slow_ok rfl (fun hb J hR hJ => ?_)
    have hz : xB (wZ (s.2.2 0) 0) := ((hb.2.2 0).2 0).1
    rw [slL] at hK
    have e1 : b < wI (wLeast (s.2.2 0) i - (s.2.2 0).1 3) → wX encL bdL mX2_slow 0 0 K Pt 6 [some (pR 0), some (pI i), some (pI (wI (wLeast (s.2.2 0) i - (s.2.2 0).1 3))), some (pI (i + 1)), none] [] s := fun c => by
      rw [if_pos c] at hK
      exact ih (i + 1) _ _ ⟨by omega, by omega⟩ (wI_B _) (by omega) (by omega) (by omega) hK
    have e2 : ¬ b < wI (wLeast (s.2.2 0) i - (s.2.2 0).1 3) → wX encL bdL mX2_slow 0 0 K Pt 6 [some (pR 0), some (pI a), some (pI b), some (pI (i + 1)), none] [] s := fun c => by
      rw [if_neg c] at hK
      exact ih (i + 1) _ _ ha hb2 (by omega) (by omega) (by omega) hK
    intro _
    refine ⟨⟨⟨by omega, by omega⟩, hz⟩, fun c => ?_, fun _ => ?_⟩
    · have c : wZ (s.2.2 0) 0 ≤ i := c
      omega
    · repeat' (first | (refine And.intro ?_ ?_) | intro _)
      all_goals first | omega | exact hJ _ _ _ _ (e1 (by omega)) | exact hJ _ _ _ _ (e2 (by omega))
def sX2_slow : LSt → KL → Prop := fun s K => K [pI (fSlow s).1] (fSlow s).2
theorem mX2_slow_ok : mOk encL bdL mX2_slow (atR 0 (a0 sX2_slow)) := by
  refine mOVa0 kX2_slow (fun _ => rfl) (fun s K h hb => wx_J [6] 9 tX2_slow_ok rfl (fun J hR hJ => ?_))
  exact hJ _ _ _ _ (X2_slow_l s _ 0 (-1) 0 ⟨by omega, by omega⟩ ⟨by omega, by omega⟩ (by omega) (by omega) (by rw [Int.sub_zero]) h)
def hoL (w : WS) (l : Int) : Nat → Int → Int → Int → Int × Int
  | 0, _, a, b => (a, b)
  | m + 1, i, a, b => hoL w l m (i + 1) (if wG w 0 i 2 = 0 ∧ wG w 0 i 0 = l then (iI a ||| iI (bitOf i)).toInt else a) (max b (wG w 0 i 0))
def fHolds (s : LSt) : Int × LSt :=
  let w := s.2.2 0
  let p := hoL w (wLeast w (-1)) (wZ w 0).toNat 0 0 0
  (p.1, lTell2 s (wLeast w (-1)) (wI (p.2 - w.1 3)))
theorem X2_holds_l {K : KL} {Pt : LSt → Prop} (s : LSt) (l : Int) (hl : xB l) : ∀ (m : Nat) (i a b : Int), xB a → xB b → 0 ≤ i → i ≤ max 0 (wZ (s.2.2 0) 0) → m = (wZ (s.2.2 0) 0 - i).toNat → K [pI (hoL (s.2.2 0) l m i a b).1] (lTell2 s l (wI ((hoL (s.2.2 0) l m i a b).2 - (s.2.2 0).1 3))) → wX encL bdL mX2_holds 0 0 K Pt 16 [some (pR 0), some (pI l), some (pI a), some (pI b), some (pI i), none] [] s := by
  intro m
  induction m with
  | zero =>
    intro i a b ha hb2 h0 h1 hm hK
    refine wx_Jb [16] 9 tX2_holds_ok rfl (fun hb J hR hJ => ?_)
    have hz : xB (wZ (s.2.2 0) 0) := ((hb.2.2 0).2 0).1
    intro _
    refine ⟨⟨⟨by omega, by omega⟩, hz⟩, fun _ => ?_, fun c => ?_⟩
    · repeat' (first | (refine And.intro ?_ ?_) | intro _)
      all_goals first | omega | exact hR _ _ hK
    · have c : i < wZ (s.2.2 0) 0 := c
      omega
  | succ m ih =>
    intro i a b ha hb2 h0 h1 hm hK
    refine wx_Jb [16] 9 tX2_holds_ok rfl (fun hb J hR hJ => ?_)
    have hz : xB (wZ (s.2.2 0) 0) := ((hb.2.2 0).2 0).1
    rw [hoL] at hK
    have hG := wG_B (t := 0) (i := i) (c := 0) (hb.2.2 0)
    have hM := max_B hb2 hG
    have e1 : (wG (s.2.2 0) 0 i 2 = 0 ∧ wG (s.2.2 0) 0 i 0 = l) → wX encL bdL mX2_holds 0 0 K Pt 16 [some (pR 0), some (pI l), some (pI (iI a ||| iI (bitOf i)).toInt), some (pI (max b (wG (s.2.2 0) 0 i 0))), some (pI (i + 1)), none] [] s := fun c => by
      rw [if_pos c] at hK
      exact ih (i + 1) _ _ (xb_of _) hM (by omega) (by omega) (by omega) hK
    have e2 : ¬ (wG (s.2.2 0) 0 i 2 = 0 ∧ wG (s.2.2 0) 0 i 0 = l) → wX encL bdL mX2_holds 0 0 K Pt 16 [some (pR 0), some (pI l), some (pI a), some (pI (max b (wG (s.2.2 0) 0 i 0))), some (pI (i + 1)), none] [] s := fun c => by
      rw [if_neg c] at hK
      exact ih (i + 1) _ _ ha hM (by omega) (by omega) (by omega) hK
    intro _
    refine ⟨⟨⟨by omega, by omega⟩, hz⟩, fun c => ?_, fun _ => ?_⟩
    · have c : wZ (s.2.2 0) 0 ≤ i := c
      omega
    · repeat' (first | (refine And.intro ?_ ?_) | intro _)
      all_goals first | omega | exact hJ _ _ _ _ (e1 (by omega)) | exact hJ _ _ _ _ (e2 (by omega))
def sX2_holds : LSt → KL → Prop := fun s K => K [pI (fHolds s).1] (fHolds s).2
theorem mX2_holds_ok : mOk encL bdL mX2_holds (atR 0 (a0 sX2_holds)) := by
  refine mOVa0 kX2_holds (fun _ => rfl) (fun s K h hb => wx_J [16] 9 tX2_holds_ok rfl (fun J hR hJ => ?_))
  refine ⟨⟨by omega, by omega⟩, fun hl => hJ _ _ _ _ (X2_holds_l s _ hl _ 0 0 0 ⟨by omega, by omega⟩ ⟨by omega, by omega⟩ (by omega) (by omega) (by rw [Int.sub_zero]) h)⟩
