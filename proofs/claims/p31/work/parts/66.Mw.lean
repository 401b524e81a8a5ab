/-! ===== the model: slow, would, played again ===== -/
theorem mg_ne {s : MS} {a b v : Int} (ha : 0 ≤ a) (hb : 0 ≤ b) (h : a ≠ b) : mg (mP s a v) b = mg s b := by
  show xup (s.2 3) a.toNat v b.toNat = s.2 3 b.toNat
  unfold xup
  rw [if_neg (by omega)]
theorem mg_eq {s : MS} {a v : Int} : mg (mP s a v) a = v := by
  show xup (s.2 3) a.toNat v a.toNat = v
  unfold xup
  rw [if_pos rfl]
-- X3_slow: heads [11, 100]
def tX3_slow : Nat → Blk MS := fun pc => bif Nat.blt pc 95 then (bif Nat.blt pc 37 then (bif Nat.blt pc 11 then (bif Nat.beq pc 0 then (oAld 0 <| oI 0 <| oPut (fpM) 3 0 <| oI (-1) <| oIst 1 <| oI 0 <| oIst 2 <| oI 0 <| oIst 3 <| oM [true, true, true, true, false] (oTo 11)) else oNo) else (bif Nat.beq pc 11 then (oIld 3 <| oAld 0 <| oI 0 <| oI 0 <| oC3 (cM_X3_of) <| oCGe 88 <| oAld 0 <| oI 0 <| oI 20 <| oIld 3 <| oAdd <| oC3 (cM_X3_of) <| oI 1 <| oCNe 37 <| oTo 82) else oNo)) else (bif Nat.blt pc 82 then (bif Nat.beq pc 37 then (oAld 0 <| oI 0 <| oI 20 <| oIld 3 <| oAdd <| oI 1 <| oC4 (cM_X3_puts) <| oAld 0 <| oI 0 <| oC2 (cM_X3_leastMark) <| oAld 0 <| oI 0 <| oI 4 <| oC3 (cM_X3_of) <| oSubW <| oIst 4 <| oAld 0 <| oI 0 <| oI 20 <| oIld 3 <| oAdd <| oI 0 <| oC4 (cM_X3_puts) <| oIld 4 <| oIld 2 <| oCLe 82 <| oIld 3 <| oIst 1 <| oIld 4 <| oIst 2 <| oTo 82) else oNo) else (bif Nat.blt pc 88 then (bif Nat.beq pc 82 then (oInc 3 1 <| oM [true, true, true, true, false] (oTo 11)) else oNo) else (bif Nat.beq pc 88 then (oIld 1 <| oZGe 95 <| oI (-2) <| oIret) else oNo)))) else (bif Nat.blt pc 150 then (bif Nat.blt pc 100 then (bif Nat.beq pc 95 then (oI 0 <| oIst 3 <| oI 0 <| oIst 4 <| oM [true, true, true, true, true] (oTo 100)) else oNo) else (bif Nat.beq pc 100 then (oIld 4 <| oAld 0 <| oI 0 <| oI 5 <| oC3 (cM_X3_of) <| oCGe 162 <| oIld 3 <| oAld 0 <| oI 0 <| oIld 4 <| oAld 0 <| oI 0 <| oI 4 <| oC3 (cM_X3_of) <| oC4 (cM_X3_isRipeBy) <| oZNe 150 <| oAld 0 <| oI 0 <| oIld 4 <| oAld 0 <| oI 0 <| oI 4 <| oC3 (cM_X3_of) <| oIld 2 <| oAddW <| oC4 (cM_X3_isRipeBy) <| oZEq 150 <| oI 1 <| oTo 151) else oNo)) else (bif Nat.blt pc 151 then (bif Nat.beq pc 150 then (oI 0 <| oTo 151) else oNo) else (bif Nat.blt pc 162 then (bif Nat.beq pc 151 then (oC1 (cM_X3_flag) <| oAddW <| oIst 3 <| oInc 4 1 <| oM [true, true, true, true, true] (oTo 100)) else oNo) else (bif Nat.beq pc 162 then (oAld 0 <| oI 0 <| oPut (fpM) 3 1 <| oAld 0 <| oIld 2 <| oI2l <| oC2 (cM_X3_enters) <| oAld 0 <| oIld 3 <| oI2l <| oC2 (cM_X3_enters) <| oIld 1 <| oIret) else oNo))))
theorem tX3_slow_ok : ∀ pc, bOk (encM) (bdM) mX3_slow 0 0 pc (tX3_slow pc) := fun pc => (tNode (tNode (tNode (tLeaf (okAldn iX3_slow_0 rfl <| okIc iX3_slow_1 <| okPut (vFpM) iX3_slow_2 <| okIc iX3_slow_5 <| okIstn iX3_slow_6 rfl (by decide) <| okIc iX3_slow_7 <| okIstn iX3_slow_8 rfl (by decide) <| okIc iX3_slow_9 <| okIstn iX3_slow_10 rfl (by decide) <| okM (okTo (tl rfl)))) (tLeaf (okIldn iX3_slow_11 rfl <| okAldn iX3_slow_12 rfl <| okIc iX3_slow_13 <| okIc iX3_slow_14 <| okC3 (qM_X3_of iX3_slow_15) <| okCGe (tl rfl) iX3_slow_18 <| okAldn iX3_slow_21 rfl <| okIc iX3_slow_22 <| okBi iX3_slow_23 (by decide) <| okIldn iX3_slow_25 rfl <| okAdd iX3_slow_26 <| okC3 (qM_X3_of iX3_slow_27) <| okIc iX3_slow_30 <| okCNe (tl rfl) iX3_slow_31 <| okGoto (tl rfl) iX3_slow_34))) (tNode (tLeaf (okAldn iX3_slow_37 rfl <| okIc iX3_slow_38 <| okBi iX3_slow_39 (by decide) <| okIldn iX3_slow_41 rfl <| okAdd iX3_slow_42 <| okIc iX3_slow_43 <| okC4 (qM_X3_puts iX3_slow_44) <| okAldn iX3_slow_47 rfl <| okIc iX3_slow_48 <| okC2 (qM_X3_leastMark iX3_slow_49) <| okAldn iX3_slow_52 rfl <| okIc iX3_slow_53 <| okIc iX3_slow_54 <| okC3 (qM_X3_of iX3_slow_55) <| okSubW iX3_slow_58 <| okIst iX3_slow_59 (by decide) <| okAldn iX3_slow_61 rfl <| okIc iX3_slow_62 <| okBi iX3_slow_63 (by decide) <| okIldn iX3_slow_65 rfl <| okAdd iX3_slow_66 <| okIc iX3_slow_67 <| okC4 (qM_X3_puts iX3_slow_68) <| okIld iX3_slow_71 <| okIldn iX3_slow_73 rfl <| okCLe (tl rfl) iX3_slow_74 <| okIldn iX3_slow_77 rfl <| okIstn iX3_slow_78 rfl (by decide) <| okIld iX3_slow_79 <| okIstn iX3_slow_81 rfl (by decide) <| okTo (tl rfl))) (tNode (tLeaf (okInc iX3_slow_82 (by decide) <| okGotoM (tl rfl) iX3_slow_85)) (tLeaf (okIldn iX3_slow_88 rfl <| okZGe (tl rfl) iX3_slow_89 <| okBi iX3_slow_92 (by decide) <| okIret iX3_slow_94 rfl))))) (tNode (tNode (tLeaf (okIc iX3_slow_95 <| okIstn iX3_slow_96 rfl (by decide) <| okIc iX3_slow_97 <| okIst iX3_slow_98 (by decide) <| okM (okTo (tl rfl)))) (tLeaf (okIld iX3_slow_100 <| okAldn iX3_slow_102 rfl <| okIc iX3_slow_103 <| okIc iX3_slow_104 <| okC3 (qM_X3_of iX3_slow_105) <| okCGe (tl rfl) iX3_slow_108 <| okIldn iX3_slow_111 rfl <| okAldn iX3_slow_112 rfl <| okIc iX3_slow_113 <| okIld iX3_slow_114 <| okAldn iX3_slow_116 rfl <| okIc iX3_slow_117 <| okIc iX3_slow_118 <| okC3 (qM_X3_of iX3_slow_119) <| okC4 (qM_X3_isRipeBy iX3_slow_122) <| okZNe (tl rfl) iX3_slow_125 <| okAldn iX3_slow_128 rfl <| okIc iX3_slow_129 <| okIld iX3_slow_130 <| okAldn iX3_slow_132 rfl <| okIc iX3_slow_133 <| okIc iX3_slow_134 <| okC3 (qM_X3_of iX3_slow_135) <| okIldn iX3_slow_138 rfl <| okAddW iX3_slow_139 <| okC4 (qM_X3_isRipeBy iX3_slow_140) <| okZEq (tl rfl) iX3_slow_143 <| okIc iX3_slow_146 <| okGoto (tl rfl) iX3_slow_147))) (tNode (tLeaf (okIc iX3_slow_150 <| okTo (tl rfl))) (tNode (tLeaf (okC1 (qM_X3_flag iX3_slow_151) <| okAddW iX3_slow_154 <| okIstn iX3_slow_155 rfl (by decide) <| okInc iX3_slow_156 (by decide) <| okGotoM (tl rfl) iX3_slow_159)) (tLeaf (okAldn iX3_slow_162 rfl <| okIc iX3_slow_163 <| okPut (vFpM) iX3_slow_164 <| okAldn iX3_slow_167 rfl <| okIldn iX3_slow_168 rfl <| okI2l iX3_slow_169 <| okC2 (qM_X3_enters iX3_slow_170) <| okAldn iX3_slow_173 rfl <| okIldn iX3_slow_174 rfl <| okI2l iX3_slow_175 <| okC2 (qM_X3_enters iX3_slow_176) <| okIldn iX3_slow_179 rfl <| okIret iX3_slow_180 rfl)))))) pc
-- X3_would: heads []
def tX3_would : Nat → Blk MS := fun pc => bif Nat.blt pc 19 then (bif Nat.beq pc 0 then (oAld 0 <| oI 0 <| oPut (fpM) 3 0 <| oAld 0 <| oIld 1 <| oIld 2 <| oIld 3 <| oIld 4 <| oC5 (cM_X3_isEvent) <| oZNe 19 <| oI (-1) <| oIret) else oNo) else (bif Nat.beq pc 19 then (oAld 0 <| oI 0 <| oI 4 <| oC3 (cM_X3_copies) <| oAld 0 <| oI 4 <| oI 6 <| oI 0 <| oC4 (cM_X3_puts) <| oAld 0 <| oI 4 <| oIld 1 <| oIld 2 <| oIld 3 <| oIld 4 <| oC6 (cM_X3_comes) <| oIst 5 <| oAld 0 <| oI 0 <| oPut (fpM) 3 1 <| oAld 0 <| oAld 0 <| oGet (fgM) 3 12 <| oI2l <| oC2 (cM_X3_enters) <| oAld 0 <| oAld 0 <| oI 4 <| oI 7 <| oC3 (cM_X3_of) <| oAld 0 <| oI 0 <| oI 7 <| oC3 (cM_X3_of) <| oSubW <| oI2l <| oC2 (cM_X3_enters) <| oIld 5 <| oIret) else oNo)
theorem tX3_would_ok : ∀ pc, bOk (encM) (bdM) mX3_would 0 0 pc (tX3_would pc) := fun pc => (tNode (tLeaf (okAldn iX3_would_0 rfl <| okIc iX3_would_1 <| okPut (vFpM) iX3_would_2 <| okAldn iX3_would_5 rfl <| okIldn iX3_would_6 rfl <| okIldn iX3_would_7 rfl <| okIldn iX3_would_8 rfl <| okIld iX3_would_9 <| okC5 (qM_X3_isEvent iX3_would_11) <| okZNe (tl rfl) iX3_would_14 <| okIc iX3_would_17 <| okIret iX3_would_18 rfl)) (tLeaf (okAldn iX3_would_19 rfl <| okIc iX3_would_20 <| okIc iX3_would_21 <| okC3 (qM_X3_copies iX3_would_22) <| okAldn iX3_would_25 rfl <| okIc iX3_would_26 <| okBi iX3_would_27 (by decide) <| okIc iX3_would_29 <| okC4 (qM_X3_puts iX3_would_30) <| okAldn iX3_would_33 rfl <| okIc iX3_would_34 <| okIldn iX3_would_35 rfl <| okIldn iX3_would_36 rfl <| okIldn iX3_would_37 rfl <| okIld iX3_would_38 <| okC6 (qM_X3_comes iX3_would_40) <| okIst iX3_would_43 (by decide) <| okAldn iX3_would_45 rfl <| okIc iX3_would_46 <| okPut (vFpM) iX3_would_47 <| okAldn iX3_would_50 rfl <| okAldn iX3_would_51 rfl <| okGet (vFgM) iX3_would_52 <| okI2l iX3_would_55 <| okC2 (qM_X3_enters iX3_would_56) <| okAldn iX3_would_59 rfl <| okAldn iX3_would_60 rfl <| okIc iX3_would_61 <| okBi iX3_would_62 (by decide) <| okC3 (qM_X3_of iX3_would_64) <| okAldn iX3_would_67 rfl <| okIc iX3_would_68 <| okBi iX3_would_69 (by decide) <| okC3 (qM_X3_of iX3_would_71) <| okSubW iX3_would_74 <| okI2l iX3_would_75 <| okC2 (qM_X3_enters iX3_would_76) <| okIld iX3_would_79 <| okIret iX3_would_81 rfl))) pc
-- X3_startsAgain: heads [17]
def tX3_startsAgain : Nat → Blk MS := fun pc => bif Nat.blt pc 17 then (bif Nat.beq pc 0 then (oAld 0 <| oI 4 <| oAld 0 <| oI 0 <| oI 0 <| oC3 (cM_X3_of) <| oIld 1 <| oIld 2 <| oIld 3 <| oC6 (cM_X3_starts) <| oI 0 <| oIst 4 <| oM [true, false, false, false, true] (oTo 17)) else oNo) else (bif Nat.blt pc 49 then (bif Nat.beq pc 17 then (oIld 4 <| oI 4 <| oCGe 49 <| oAld 0 <| oI 4 <| oI 16 <| oIld 4 <| oAdd <| oAld 0 <| oI 0 <| oI 16 <| oIld 4 <| oAdd <| oC3 (cM_X3_of) <| oC4 (cM_X3_puts) <| oInc 4 1 <| oM [true, false, false, false, true] (oTo 17)) else oNo) else (bif Nat.beq pc 49 then (oVret) else oNo))
theorem tX3_startsAgain_ok : ∀ pc, bOk (encM) (bdM) mX3_startsAgain 0 0 pc (tX3_startsAgain pc) := fun pc => (tNode (tLeaf (okAldn iX3_startsAgain_0 rfl <| okIc iX3_startsAgain_1 <| okAldn iX3_startsAgain_2 rfl <| okIc iX3_startsAgain_3 <| okIc iX3_startsAgain_4 <| okC3 (qM_X3_of iX3_startsAgain_5) <| okIldn iX3_startsAgain_8 rfl <| okIldn iX3_startsAgain_9 rfl <| okIldn iX3_startsAgain_10 rfl <| okC6 (qM_X3_starts iX3_startsAgain_11) <| okIc iX3_startsAgain_14 <| okIst iX3_startsAgain_15 (by decide) <| okM (okTo (tl rfl)))) (tNode (tLeaf (okIld iX3_startsAgain_17 <| okIc iX3_startsAgain_19 <| okCGe (tl rfl) iX3_startsAgain_20 <| okAldn iX3_startsAgain_23 rfl <| okIc iX3_startsAgain_24 <| okBi iX3_startsAgain_25 (by decide) <| okIld iX3_startsAgain_27 <| okAdd iX3_startsAgain_29 <| okAldn iX3_startsAgain_30 rfl <| okIc iX3_startsAgain_31 <| okBi iX3_startsAgain_32 (by decide) <| okIld iX3_startsAgain_34 <| okAdd iX3_startsAgain_36 <| okC3 (qM_X3_of iX3_startsAgain_37) <| okC4 (qM_X3_puts iX3_startsAgain_40) <| okInc iX3_startsAgain_43 (by decide) <| okGotoM (tl rfl) iX3_startsAgain_46)) (tLeaf (okVret iX3_startsAgain_49 rfl)))) pc
-- X3_comesAgain: heads []
def tX3_comesAgain : Nat → Blk MS := fun pc => bif Nat.blt pc 69 then (bif Nat.blt pc 48 then (bif Nat.beq pc 0 then (oAld 0 <| oIld 2 <| oI 1 <| oC3 (cM_X3_ofInput) <| oIst 3 <| oAld 0 <| oIld 2 <| oI 2 <| oC3 (cM_X3_ofInput) <| oIst 4 <| oAld 0 <| oIld 2 <| oI 0 <| oC3 (cM_X3_ofInput) <| oZNe 48 <| oAld 0 <| oIld 1 <| oAld 0 <| oIld 2 <| oI 3 <| oC3 (cM_X3_ofInput) <| oIld 4 <| oAld 0 <| oIld 2 <| oI 4 <| oC3 (cM_X3_ofInput) <| oIld 3 <| oC6 (cM_X3_comes) <| oPop <| oTo 75) else oNo) else (bif Nat.beq pc 48 then (oAld 0 <| oIld 2 <| oI 0 <| oC3 (cM_X3_ofInput) <| oI 1 <| oCNe 69 <| oAld 0 <| oIld 1 <| oIld 3 <| oIld 4 <| oC4 (cM_X3_isMarked) <| oTo 75) else oNo)) else (bif Nat.blt pc 75 then (bif Nat.beq pc 69 then (oAld 0 <| oIld 1 <| oIld 3 <| oC3 (cM_X3_isIdle) <| oTo 75) else oNo) else (bif Nat.beq pc 75 then (oVret) else oNo))
theorem tX3_comesAgain_ok : ∀ pc, bOk (encM) (bdM) mX3_comesAgain 0 0 pc (tX3_comesAgain pc) := fun pc => (tNode (tNode (tLeaf (okAldn iX3_comesAgain_0 rfl <| okIldn iX3_comesAgain_1 rfl <| okIc iX3_comesAgain_2 <| okC3 (qM_X3_ofInput iX3_comesAgain_3) <| okIstn iX3_comesAgain_6 rfl (by decide) <| okAldn iX3_comesAgain_7 rfl <| okIldn iX3_comesAgain_8 rfl <| okIc iX3_comesAgain_9 <| okC3 (qM_X3_ofInput iX3_comesAgain_10) <| okIst iX3_comesAgain_13 (by decide) <| okAldn iX3_comesAgain_15 rfl <| okIldn iX3_comesAgain_16 rfl <| okIc iX3_comesAgain_17 <| okC3 (qM_X3_ofInput iX3_comesAgain_18) <| okZNe (tl rfl) iX3_comesAgain_21 <| okAldn iX3_comesAgain_24 rfl <| okIldn iX3_comesAgain_25 rfl <| okAldn iX3_comesAgain_26 rfl <| okIldn iX3_comesAgain_27 rfl <| okIc iX3_comesAgain_28 <| okC3 (qM_X3_ofInput iX3_comesAgain_29) <| okIld iX3_comesAgain_32 <| okAldn iX3_comesAgain_34 rfl <| okIldn iX3_comesAgain_35 rfl <| okIc iX3_comesAgain_36 <| okC3 (qM_X3_ofInput iX3_comesAgain_37) <| okIldn iX3_comesAgain_40 rfl <| okC6 (qM_X3_comes iX3_comesAgain_41) <| okPop iX3_comesAgain_44 <| okGoto (tl rfl) iX3_comesAgain_45)) (tLeaf (okAldn iX3_comesAgain_48 rfl <| okIldn iX3_comesAgain_49 rfl <| okIc iX3_comesAgain_50 <| okC3 (qM_X3_ofInput iX3_comesAgain_51) <| okIc iX3_comesAgain_54 <| okCNe (tl rfl) iX3_comesAgain_55 <| okAldn iX3_comesAgain_58 rfl <| okIldn iX3_comesAgain_59 rfl <| okIldn iX3_comesAgain_60 rfl <| okIld iX3_comesAgain_61 <| okC4 (qM_X3_isMarked iX3_comesAgain_63) <| okGoto (tl rfl) iX3_comesAgain_66))) (tNode (tLeaf (okAldn iX3_comesAgain_69 rfl <| okIldn iX3_comesAgain_70 rfl <| okIldn iX3_comesAgain_71 rfl <| okC3 (qM_X3_isIdle iX3_comesAgain_72) <| okTo (tl rfl))) (tLeaf (okVret iX3_comesAgain_75 rfl)))) pc
-- X3_draws: heads []
def tX3_draws : Nat → Blk MS := fun pc => bif Nat.beq pc 0 then (oAld 0 <| oAld 0 <| oGet (fgM) 3 21 <| oI 1103515245 <| oMulW <| oI 12345 <| oAddW <| oPut (fpM) 3 21 <| oAld 0 <| oGet (fgM) 3 21 <| oI 16 <| oUshr <| oIld 1 <| oRemT <| oIret) else oNo
theorem tX3_draws_ok : ∀ pc, bOk (encM) (bdM) mX3_draws 0 0 pc (tX3_draws pc) := fun pc => (tLeaf (okAldn iX3_draws_0 rfl <| okAldn iX3_draws_1 rfl <| okGet (vFgM) iX3_draws_2 <| okLdcw (v := 1103515245) iX3_draws_5 (xl_Ti 1317 (by decide +kernel) rfl) (by decide) <| okMulW iX3_draws_8 <| okSi iX3_draws_9 (by decide) <| okAddW iX3_draws_12 <| okPut (vFpM) iX3_draws_13 <| okAldn iX3_draws_16 rfl <| okGet (vFgM) iX3_draws_17 <| okBi iX3_draws_20 (by decide) <| okUshr iX3_draws_22 <| okIldn iX3_draws_23 rfl <| okRemT iX3_draws_24 <| okIret iX3_draws_25 rfl)) pc
def slS (s : MS) (r : Int) : MS := mP (mP s (0 * 2804 + (20 + r)) 1) (0 * 2804 + (20 + r)) 0
def slBy (s : MS) (r : Int) : Int := wI (mLeast (mP s (0 * 2804 + (20 + r)) 1) 0 - mg (mP s (0 * 2804 + (20 + r)) 1) (0 * 2804 + 4))
def slM : Nat → Int → Int → Int → MS → Int × Int × MS
  | 0, _, b, m, s => (b, m, s)
  | n + 1, r, b, m, s => if mg s (0 * 2804 + (20 + r)) = 1 then slM n (r + 1) b m s else if m < slBy s r then slM n (r + 1) r (slBy s r) (slS s r) else slM n (r + 1) b m (slS s r)
def rpM (s : MS) (m : Int) : Nat → Int → Int → Int
  | 0, _, a => a
  | n + 1, i, a => rpM s m n (i + 1) (wI (a + (if ¬ mRipe s 0 i (mg s (0 * 2804 + 4)) ∧ mRipe s 0 i (wI (mg s (0 * 2804 + 4) + m)) then 1 else 0)))
def gSl3 (s : MS) (b m r : Int) : Int × MS := (b, mEn (mEn (mS s 1 0) m) r)
def gSl2 (p : Int × Int × MS) : Int × MS := if p.1 < 0 then (-2, p.2.2) else gSl3 p.2.2 p.1 p.2.1 (rpM p.2.2 p.2.1 (mg p.2.2 (0 * 2804 + 5)).toNat 0 0)
def gSlow (s : MS) : Int × MS := gSl2 (slM (mg s (0 * 2804 + 0)).toNat 0 (-1) 0 (mS s 0 0))
theorem X3_slow_l2 {K : KM} {Pt : MS → Prop} (s : MS) (b mo : Int) (hm : xB mo) (hn : 0 ≤ mg s (0 * 2804 + 5) ∧ mg s (0 * 2804 + 5) ≤ 160) : ∀ (m : Nat) (i a : Int), xB a → 0 ≤ i → i ≤ mg s (0 * 2804 + 5) → m = (mg s (0 * 2804 + 5) - i).toNat → K [pI (gSl3 s b mo (rpM s mo m i a)).1] (gSl3 s b mo (rpM s mo m i a)).2 → wX encM bdM mX3_slow 0 0 K Pt 100 [some (pR 0), some (pI b), some (pI mo), some (pI a), some (pI i)] [] s := by
  intro m
  induction m with
  | zero =>
    intro i a ha h0 h1 hm2 hK
    refine wx_J [11, 100] 9 tX3_slow_ok rfl (fun J hR hJ => ?_)
    refine ⟨⟨by omega, by omega⟩, fun hx => ⟨⟨⟨by omega, by omega⟩, hx⟩, fun _ => ?_, fun q => absurd q (by omega)⟩⟩
    exact ⟨⟨by omega, by omega⟩, hm, ⟨hm, by show (0 : Int) ≤ 0; omega, by show (0 : Int) < 16; omega⟩, ha, ⟨ha, by show (0 : Int) ≤ 0 + 1; omega, by show (0 : Int) + 1 < 16; omega⟩, hR _ _ hK⟩
  | succ m ih =>
    intro i a ha h0 h1 hm2 hK
    refine wx_J [11, 100] 9 tX3_slow_ok rfl (fun J hR hJ => ?_)
    rw [rpM] at hK
    have g := ih (i + 1) _ (wI_B _) (by omega) (by omega) (by omega) hK
    have z0 : xB 0 := ⟨by omega, by omega⟩
    have z1 : xB 1 := ⟨by omega, by omega⟩
    have dk : dOk 0 := ⟨by omega, by omega⟩
    have hi : 0 ≤ i ∧ i ≤ 160 := ⟨by omega, by omega⟩
    refine ⟨⟨by omega, by omega⟩, fun hx => ⟨⟨⟨by omega, by omega⟩, hx⟩, fun q => absurd q (by omega), fun _ => ⟨⟨by omega, by omega⟩, fun hy => ⟨⟨dk, hi, hy⟩, fun r => ?_, fun r => ?_⟩⟩⟩⟩
    · rw [if_neg (fun z => z.1 r)] at g
      exact ⟨z1, fun _ => ⟨Or.inl rfl, fun _ => hJ _ _ _ _ g⟩, fun q => absurd q (by omega)⟩
    · refine ⟨z0, fun q => absurd rfl q, fun _ => ⟨⟨by omega, by omega⟩, fun _ hz => ⟨⟨dk, hi, hz⟩, fun r2 => ?_, fun r2 => ?_⟩⟩⟩
      · rw [if_pos ⟨r, r2⟩] at g
        exact ⟨z1, fun q => absurd q (by omega), fun _ => ⟨Or.inr rfl, fun _ => hJ _ _ _ _ g⟩⟩
      · rw [if_neg (fun z => r2 z.2)] at g
        exact ⟨z0, fun _ => ⟨Or.inl rfl, fun _ => hJ _ _ _ _ g⟩, fun q => absurd rfl q⟩
theorem X3_slow_l1 {K : KM} {Pt : MS → Prop} (N : Int) (hN : 0 ≤ N ∧ N ≤ 4) : ∀ (m : Nat) (r b mo : Int) (s : MS), mg s (0 * 2804 + 0) = N → (0 ≤ mg s (0 * 2804 + 5) ∧ mg s (0 * 2804 + 5) ≤ 160) → xB b → xB mo → 0 ≤ r → r ≤ N → m = (N - r).toNat → K [pI (gSl2 (slM m r b mo s)).1] (gSl2 (slM m r b mo s)).2 → wX encM bdM mX3_slow 0 0 K Pt 11 [some (pR 0), some (pI b), some (pI mo), some (pI r), none] [] s := by
  intro m
  induction m with
  | zero =>
    intro r b mo s hs h5 hb2 hmo h0 h1 hm hK
    refine wx_J [11, 100] 9 tX3_slow_ok rfl (fun J hR hJ => ?_)
    rw [slM] at hK
    unfold gSl2 at hK
    refine ⟨⟨by omega, by omega⟩, fun hx => ⟨⟨⟨by omega, by omega⟩, hx⟩, fun _ => ?_, fun q => absurd (show r < mg s (0 * 2804 + 0) from q) (by omega)⟩⟩
    refine ⟨hb2, fun c => ?_, fun c => ?_⟩
    · rw [if_neg (Int.not_lt.mpr c)] at hK
      exact hJ _ _ _ _ (X3_slow_l2 s b mo hmo h5 _ 0 0 ⟨by omega, by omega⟩ (by omega) h5.1 (by rw [Int.sub_zero]) hK)
    · rw [if_pos c] at hK
      exact hR _ _ hK
  | succ m ih =>
    intro r b mo s hs h5 hb2 hmo h0 h1 hm hK
    refine wx_J [11, 100] 9 tX3_slow_ok rfl (fun J hR hJ => ?_)
    rw [slM] at hK
    have f0 : mg (mP s (0 * 2804 + (20 + r)) 1) (0 * 2804 + 0) = N := by rw [mg_ne (by omega) (by omega) (by omega)]; exact hs
    have f1 : mg (slS s r) (0 * 2804 + 0) = N := by unfold slS; rw [mg_ne (by omega) (by omega) (by omega)]; exact f0
    have f5 : mg (slS s r) (0 * 2804 + 5) = mg s (0 * 2804 + 5) := by unfold slS; rw [mg_ne (by omega) (by omega) (by omega), mg_ne (by omega) (by omega) (by omega)]
    have hBy : xB (slBy s r) := wI_B _
    refine ⟨⟨by omega, by omega⟩, fun hx => ⟨⟨⟨by omega, by omega⟩, hx⟩, fun q => absurd (show mg s (0 * 2804 + 0) ≤ r from q) (by omega), fun _ => ⟨⟨by omega, by omega⟩, fun hy => ⟨⟨hy, ⟨by omega, by omega⟩⟩, fun c => ?_, fun c => ?_⟩⟩⟩⟩
    · rw [if_neg c] at hK
      refine ⟨⟨⟨by omega, by omega⟩, ⟨by omega, by omega⟩⟩, ⟨⟨by omega, by omega⟩, by rw [f0]; omega⟩, fun hl => ⟨⟨by omega, by omega⟩, fun hp hz => ⟨⟨⟨by omega, by omega⟩, ⟨by omega, by omega⟩⟩, ⟨⟨hz, hmo⟩, fun c2 => ?_, fun c2 => ?_⟩⟩⟩⟩
      · have c2 : slBy s r ≤ mo := c2
        rw [if_neg (Int.not_lt.mpr c2)] at hK
        exact hJ _ _ _ _ (ih (r + 1) b mo (slS s r) f1 (by rw [f5]; exact h5) hb2 hmo (by omega) (by omega) (by omega) hK)
      · have c2 : mo < slBy s r := c2
        rw [if_pos c2] at hK
        exact hJ _ _ _ _ (ih (r + 1) r (slBy s r) (slS s r) f1 (by rw [f5]; exact h5) ⟨by omega, by omega⟩ hBy (by omega) (by omega) (by omega) hK)
    · rw [if_pos c] at hK
      exact hJ _ _ _ _ (ih (r + 1) b mo s hs h5 hb2 hmo (by omega) (by omega) (by omega) hK)
def sX3_slow : MS → KM → Prop := fun s K => ((0 ≤ mg s (0 * 2804 + 0) ∧ mg s (0 * 2804 + 0) ≤ 4) ∧ 0 ≤ mg s (0 * 2804 + 5) ∧ mg s (0 * 2804 + 5) ≤ 160) ∧ K [pI (gSlow s).1] (gSlow s).2
theorem mX3_slow_ok : mOk encM bdM mX3_slow (atR 0 (a0 sX3_slow)) := by
  refine mOVa0 kX3_slow (fun _ => rfl) (fun s K h hb => wx_J [11, 100] 9 tX3_slow_ok rfl (fun J hR hJ => ?_))
  obtain ⟨⟨h1, h2⟩, hK⟩ := h
  exact ⟨⟨by omega, by omega⟩, hJ _ _ _ _ (X3_slow_l1 (mg s (0 * 2804 + 0)) h1 _ 0 (-1) 0 (mS s 0 0) rfl h2 ⟨by omega, by omega⟩ ⟨by omega, by omega⟩ (by omega) h1.1 (by rw [Int.sub_zero]) hK)⟩
def gWoS (s : MS) : MS := mP (mCopy (mS s 0 0) 0 4) (4 * 2804 + 6) 0
def gWouldP (s : MS) (k t v r : Int) (n : Nat) (K : Int → MS → Prop) : Prop := (¬ mEv (mS s 0 0) k t v r → K (-1) (mS s 0 0)) ∧ (mEv (mS s 0 0) k t v r → (0 ≤ mg (gWoS s) (4 * 2804 + 6) ∧ mg (gWoS s) (4 * 2804 + 6) ≤ 159) ∧ mComeP (gWoS s) 4 k t v r n (fun s' => K (mHow (gWoS s) 4 t) (mEn (mEn (mS s' 1 0) (s'.1 12)) (wI (mg s' (4 * 2804 + 7) - mg s' (0 * 2804 + 7))))))
def sX3_would : Int → Int → Int → Int → MS → KM → Prop := fun k t v r s K => ((xB k ∧ xB t ∧ xB v ∧ xB r) ∧ mok1 s) ∧ ∃ n, gWouldP s k t v r n (fun a s' => K [pI a] s')
theorem mX3_would_ok : mOk encM bdM mX3_would (atR 0 (a4 sX3_would)) := by
  refine mOVa4 kX3_would (fun _ _ _ _ => rfl) (fun k t v r s K h hb => wx_J [] 9 tX3_would_ok rfl (fun J hR hJ => ?_))
  obtain ⟨⟨⟨h1, h2, h3, h4⟩, h5⟩, n, p1, p2⟩ := h
  refine ⟨⟨by omega, by omega⟩, ⟨⟨⟨h1, h2, h3, h4⟩, h5.1⟩, fun c => ?_, fun c => ?_⟩⟩
  · obtain ⟨q1, q2⟩ := p2 c
    have hr : r < mg s 0 := c.2.2.2.2
    have hr0 : 0 ≤ r := c.2.2.2.1
    refine ⟨⟨by omega, by omega⟩, fun _ => ⟨⟨⟨by omega, by omega⟩, by omega, by omega⟩, ⟨⟨⟨by omega, by omega⟩, ⟨by omega, by omega⟩⟩, ⟨⟨⟨by omega, by omega⟩, ⟨by omega, by omega⟩, ⟨h1, h2, h3⟩, q1⟩, n, mComeP_mono (fun s' z u1 u2 => ?_) q2⟩⟩⟩, fun q => absurd q (by omega)⟩
    exact ⟨⟨by omega, by omega⟩, fun hm => ⟨hm, ⟨hm, by show (0 : Int) ≤ 0; omega, by show (0 : Int) < 16; omega⟩, ⟨by omega, by omega⟩, fun _ => ⟨⟨by omega, by omega⟩, fun _ hz => ⟨hz, ⟨hz, by show (0 : Int) ≤ 0 + 1; omega, by show (0 : Int) + 1 < 16; omega⟩, hR _ _ z⟩⟩⟩⟩
  · exact ⟨⟨by omega, by omega⟩, fun q => absurd rfl q, fun _ => hR _ _ (p1 c)⟩
