-- 61.Mh
section
/-! ===== the model: its face, events, marks, idle sources; the text; counts ===== -/
-- X3_event: heads []
def tX3_event : Nat → Blk MS := fun pc => bif Nat.blt pc 30 then (bif Nat.beq pc 0 then (oAld 0 <| oI 0 <| oPut (fpM) 3 0 <| oAld 0 <| oI 0 <| oI 3 <| oC3 (cM_X3_copies) <| oAld 0 <| oIld 1 <| oIld 2 <| oIld 3 <| oIld 4 <| oC5 (cM_X3_eventOne) <| oIst 5 <| oIld 5 <| oZGe 30 <| oIld 5 <| oIret) else oNo) else (bif Nat.beq pc 30 then (oAld 0 <| oI 0 <| oAld 0 <| oI 3 <| oI 7 <| oC3 (cM_X3_of) <| oC3 (cM_X3_entersSince) <| oAld 0 <| oIld 5 <| oC2 (cM_X3_done) <| oIret) else oNo)
theorem tX3_event_ok : ∀ pc, bOk (encM) (bdM) mX3_event 0 0 pc (tX3_event pc) := fun pc => (tNode (tLeaf (okAldn iX3_event_0 rfl <| okIc iX3_event_1 <| okPut (vFpM) iX3_event_2 <| okAldn iX3_event_5 rfl <| okIc iX3_event_6 <| okIc iX3_event_7 <| okC3 (qM_X3_copies iX3_event_8) <| okAldn iX3_event_11 rfl <| okIldn iX3_event_12 rfl <| okIldn iX3_event_13 rfl <| okIldn iX3_event_14 rfl <| okIld iX3_event_15 <| okC5 (qM_X3_eventOne iX3_event_17) <| okIst iX3_event_20 (by decide) <| okIld iX3_event_22 <| okZGe (tl rfl) iX3_event_24 <| okIld iX3_event_27 <| okIret iX3_event_29 rfl)) (tLeaf (okAldn iX3_event_30 rfl <| okIc iX3_event_31 <| okAldn iX3_event_32 rfl <| okIc iX3_event_33 <| okBi iX3_event_34 (by decide) <| okC3 (qM_X3_of iX3_event_36) <| okC3 (qM_X3_entersSince iX3_event_39) <| okAldn iX3_event_42 rfl <| okIld iX3_event_43 <| okC2 (qM_X3_done iX3_event_45) <| okIret iX3_event_48 rfl))) pc
-- X3_marks: heads []
def tX3_marks : Nat → Blk MS := fun pc => bif Nat.blt pc 26 then (bif Nat.beq pc 0 then (oAld 0 <| oI 0 <| oPut (fpM) 3 0 <| oAld 0 <| oI 0 <| oI 3 <| oC3 (cM_X3_copies) <| oAld 0 <| oIld 1 <| oIld 2 <| oC3 (cM_X3_marksOne) <| oIst 3 <| oIld 3 <| oZLt 26 <| oAld 0 <| oC1 (cM_X3_entersProgress) <| oTo 26) else oNo) else (bif Nat.beq pc 26 then (oAld 0 <| oIld 3 <| oC2 (cM_X3_done) <| oIret) else oNo)
theorem tX3_marks_ok : ∀ pc, bOk (encM) (bdM) mX3_marks 0 0 pc (tX3_marks pc) := fun pc => (tNode (tLeaf (okAldn iX3_marks_0 rfl <| okIc iX3_marks_1 <| okPut (vFpM) iX3_marks_2 <| okAldn iX3_marks_5 rfl <| okIc iX3_marks_6 <| okIc iX3_marks_7 <| okC3 (qM_X3_copies iX3_marks_8) <| okAldn iX3_marks_11 rfl <| okIldn iX3_marks_12 rfl <| okIldn iX3_marks_13 rfl <| okC3 (qM_X3_marksOne iX3_marks_14) <| okIstn iX3_marks_17 rfl (by decide) <| okIldn iX3_marks_18 rfl <| okZLt (tl rfl) iX3_marks_19 <| okAldn iX3_marks_22 rfl <| okC1 (qM_X3_entersProgress iX3_marks_23) <| okTo (tl rfl))) (tLeaf (okAldn iX3_marks_26 rfl <| okIldn iX3_marks_27 rfl <| okC2 (qM_X3_done iX3_marks_28) <| okIret iX3_marks_31 rfl))) pc
-- X3_idles: heads []
def tX3_idles : Nat → Blk MS := fun pc => bif Nat.blt pc 25 then (bif Nat.beq pc 0 then (oAld 0 <| oI 0 <| oPut (fpM) 3 0 <| oAld 0 <| oI 0 <| oI 3 <| oC3 (cM_X3_copies) <| oAld 0 <| oIld 1 <| oC2 (cM_X3_idlesOne) <| oIst 2 <| oIld 2 <| oZLt 25 <| oAld 0 <| oC1 (cM_X3_entersProgress) <| oTo 25) else oNo) else (bif Nat.beq pc 25 then (oAld 0 <| oIld 2 <| oC2 (cM_X3_done) <| oIret) else oNo)
theorem tX3_idles_ok : ∀ pc, bOk (encM) (bdM) mX3_idles 0 0 pc (tX3_idles pc) := fun pc => (tNode (tLeaf (okAldn iX3_idles_0 rfl <| okIc iX3_idles_1 <| okPut (vFpM) iX3_idles_2 <| okAldn iX3_idles_5 rfl <| okIc iX3_idles_6 <| okIc iX3_idles_7 <| okC3 (qM_X3_copies iX3_idles_8) <| okAldn iX3_idles_11 rfl <| okIldn iX3_idles_12 rfl <| okC2 (qM_X3_idlesOne iX3_idles_13) <| okIstn iX3_idles_16 rfl (by decide) <| okIldn iX3_idles_17 rfl <| okZLt (tl rfl) iX3_idles_18 <| okAldn iX3_idles_21 rfl <| okC1 (qM_X3_entersProgress iX3_idles_22) <| okTo (tl rfl))) (tLeaf (okAldn iX3_idles_25 rfl <| okIldn iX3_idles_26 rfl <| okC2 (qM_X3_done iX3_idles_27) <| okIret iX3_idles_30 rfl))) pc
-- X3_count: heads []
def tX3_count : Nat → Blk MS := fun pc => bif Nat.blt pc 42 then (bif Nat.blt pc 32 then (bif Nat.beq pc 0 then (oAld 0 <| oI 0 <| oPut (fpM) 3 0 <| oIld 1 <| oTab 8 [32, 37, 42] 47) else oNo) else (bif Nat.blt pc 37 then (bif Nat.beq pc 32 then (oAld 0 <| oGet (fgM) 3 8 <| oIret) else oNo) else (bif Nat.beq pc 37 then (oAld 0 <| oGet (fgM) 3 1 <| oIret) else oNo))) else (bif Nat.blt pc 68 then (bif Nat.blt pc 47 then (bif Nat.beq pc 42 then (oAld 0 <| oGet (fgM) 3 4 <| oIret) else oNo) else (bif Nat.beq pc 47 then (oIld 1 <| oI2l <| oJ 0 <| oJ 7 <| oC3 (cM_X3_in) <| oZEq 68 <| oAld 0 <| oI 0 <| oIld 1 <| oC3 (cM_X3_of) <| oTo 69) else oNo)) else (bif Nat.blt pc 69 then (bif Nat.beq pc 68 then (oI (-1) <| oTo 69) else oNo) else (bif Nat.beq pc 69 then (oIret) else oNo)))
theorem tX3_count_ok : ∀ pc, bOk (encM) (bdM) mX3_count 0 0 pc (tX3_count pc) := fun pc => (tNode (tNode (tLeaf (okAldn iX3_count_0 rfl <| okIc iX3_count_1 <| okPut (vFpM) iX3_count_2 <| okIldn iX3_count_5 rfl <| okTab (by decide +kernel) (by decide +kernel) (by decide +kernel) iX3_count_6.1)) (tNode (tLeaf (okAldn iX3_count_32 rfl <| okGet (vFgM) iX3_count_33 <| okIret iX3_count_36 rfl)) (tLeaf (okAldn iX3_count_37 rfl <| okGet (vFgM) iX3_count_38 <| okIret iX3_count_41 rfl)))) (tNode (tNode (tLeaf (okAldn iX3_count_42 rfl <| okGet (vFgM) iX3_count_43 <| okIret iX3_count_46 rfl)) (tLeaf (okIldn iX3_count_47 rfl <| okI2l iX3_count_48 <| okLc iX3_count_49 rfl <| okLdc2 (v := 7) iX3_count_50 ((wc_t5 131 rfl rfl)) (by decide) <| okC3 (qM_X3_in iX3_count_53) <| okZEq (tl rfl) iX3_count_56 <| okAldn iX3_count_59 rfl <| okIc iX3_count_60 <| okIldn iX3_count_61 rfl <| okC3 (qM_X3_of iX3_count_62) <| okGoto (tl rfl) iX3_count_65))) (tNode (tLeaf (okIc iX3_count_68 <| okTo (tl rfl))) (tLeaf (okIret iX3_count_69 rfl))))) pc
-- X3_row: heads []
def tX3_row : Nat → Blk MS := fun pc => bif Nat.blt pc 22 then (bif Nat.blt pc 21 then (bif Nat.beq pc 0 then (oAld 0 <| oIld 1 <| oI2l <| oJ 0 <| oAld 0 <| oGet (fgM) 3 1 <| oI 1 <| oSubW <| oI2l <| oC3 (cM_X3_in) <| oZNe 21 <| oI 1 <| oTo 22) else oNo) else (bif Nat.beq pc 21 then (oI 0 <| oTo 22) else oNo)) else (bif Nat.blt pc 40 then (bif Nat.beq pc 22 then (oC1 (cM_X3_flag) <| oPut (fpM) 3 0 <| oAld 0 <| oGet (fgM) 3 0 <| oI 1 <| oCNe 40 <| oJ 0 <| oTo 46) else oNo) else (bif Nat.blt pc 46 then (bif Nat.beq pc 40 then (oAld 0 <| oGet (fgM) 3 2 <| oIld 1 <| oLa (agM) <| oTo 46) else oNo) else (bif Nat.beq pc 46 then (oLret) else oNo)))
theorem tX3_row_ok : ∀ pc, bOk (encM) (bdM) mX3_row 0 0 pc (tX3_row pc) := fun pc => (tNode (tNode (tLeaf (okAldn iX3_row_0 rfl <| okIldn iX3_row_1 rfl <| okI2l iX3_row_2 <| okLc iX3_row_3 rfl <| okAldn iX3_row_4 rfl <| okGet (vFgM) iX3_row_5 <| okIc iX3_row_8 <| okSubW iX3_row_9 <| okI2l iX3_row_10 <| okC3 (qM_X3_in iX3_row_11) <| okZNe (tl rfl) iX3_row_14 <| okIc iX3_row_17 <| okGoto (tl rfl) iX3_row_18)) (tLeaf (okIc iX3_row_21 <| okTo (tl rfl)))) (tNode (tLeaf (okC1 (qM_X3_flag iX3_row_22) <| okPut (vFpM) iX3_row_25 <| okAldn iX3_row_28 rfl <| okGet (vFgM) iX3_row_29 <| okIc iX3_row_32 <| okCNe (tl rfl) iX3_row_33 <| okLc iX3_row_36 rfl <| okGoto (tl rfl) iX3_row_37)) (tNode (tLeaf (okAldn iX3_row_40 rfl <| okGet (vFgM) iX3_row_41 <| okIldn iX3_row_44 rfl <| okLa (vAgM) iX3_row_45 <| okTo (tl rfl))) (tLeaf (okLret iX3_row_46 rfl))))) pc
-- X3_taken: heads []
def tX3_taken : Nat → Blk MS := fun pc => bif Nat.beq pc 0 then (oAld 0 <| oI 0 <| oPut (fpM) 3 0 <| oAld 0 <| oI 0 <| oPut (fpM) 3 1 <| oAld 0 <| oAld 0 <| oI 0 <| oI 9 <| oC3 (cM_X3_of) <| oI2l <| oC2 (cM_X3_enters) <| oAld 0 <| oAld 0 <| oI 0 <| oI 10 <| oC3 (cM_X3_of) <| oI2l <| oC2 (cM_X3_enters) <| oAld 0 <| oAld 0 <| oI 0 <| oI 11 <| oC3 (cM_X3_of) <| oI2l <| oC2 (cM_X3_enters) <| oAld 0 <| oI 0 <| oI 8 <| oC3 (cM_X3_of) <| oIret) else oNo
theorem tX3_taken_ok : ∀ pc, bOk (encM) (bdM) mX3_taken 0 0 pc (tX3_taken pc) := fun pc => (tLeaf (okAldn iX3_taken_0 rfl <| okIc iX3_taken_1 <| okPut (vFpM) iX3_taken_2 <| okAldn iX3_taken_5 rfl <| okIc iX3_taken_6 <| okPut (vFpM) iX3_taken_7 <| okAldn iX3_taken_10 rfl <| okAldn iX3_taken_11 rfl <| okIc iX3_taken_12 <| okBi iX3_taken_13 (by decide) <| okC3 (qM_X3_of iX3_taken_15) <| okI2l iX3_taken_18 <| okC2 (qM_X3_enters iX3_taken_19) <| okAldn iX3_taken_22 rfl <| okAldn iX3_taken_23 rfl <| okIc iX3_taken_24 <| okBi iX3_taken_25 (by decide) <| okC3 (qM_X3_of iX3_taken_27) <| okI2l iX3_taken_30 <| okC2 (qM_X3_enters iX3_taken_31) <| okAldn iX3_taken_34 rfl <| okAldn iX3_taken_35 rfl <| okIc iX3_taken_36 <| okBi iX3_taken_37 (by decide) <| okC3 (qM_X3_of iX3_taken_39) <| okI2l iX3_taken_42 <| okC2 (qM_X3_enters iX3_taken_43) <| okAldn iX3_taken_46 rfl <| okIc iX3_taken_47 <| okBi iX3_taken_48 (by decide) <| okC3 (qM_X3_of iX3_taken_50) <| okIret iX3_taken_53 rfl)) pc
-- X3_sent: heads []
def tX3_sent : Nat → Blk MS := fun pc => bif Nat.blt pc 19 then (bif Nat.beq pc 0 then (oAld 0 <| oI 0 <| oPut (fpM) 3 0 <| oIld 1 <| oI2l <| oJ 0 <| oJ 3 <| oC3 (cM_X3_in) <| oZNe 19 <| oI (-1) <| oIret) else oNo) else (bif Nat.beq pc 19 then (oAld 0 <| oI 0 <| oPut (fpM) 3 1 <| oAld 0 <| oAld 0 <| oI 0 <| oI 7 <| oC3 (cM_X3_of) <| oI2l <| oC2 (cM_X3_enters) <| oAld 0 <| oI 0 <| oI 32 <| oIld 1 <| oAdd <| oC3 (cM_X3_of) <| oIret) else oNo)
theorem tX3_sent_ok : ∀ pc, bOk (encM) (bdM) mX3_sent 0 0 pc (tX3_sent pc) := fun pc => (tNode (tLeaf (okAldn iX3_sent_0 rfl <| okIc iX3_sent_1 <| okPut (vFpM) iX3_sent_2 <| okIldn iX3_sent_5 rfl <| okI2l iX3_sent_6 <| okLc iX3_sent_7 rfl <| okLdc2 (v := 3) iX3_sent_8 ((wc_t5 144 rfl rfl)) (by decide) <| okC3 (qM_X3_in iX3_sent_11) <| okZNe (tl rfl) iX3_sent_14 <| okIc iX3_sent_17 <| okIret iX3_sent_18 rfl)) (tLeaf (okAldn iX3_sent_19 rfl <| okIc iX3_sent_20 <| okPut (vFpM) iX3_sent_21 <| okAldn iX3_sent_24 rfl <| okAldn iX3_sent_25 rfl <| okIc iX3_sent_26 <| okBi iX3_sent_27 (by decide) <| okC3 (qM_X3_of iX3_sent_29) <| okI2l iX3_sent_32 <| okC2 (qM_X3_enters iX3_sent_33) <| okAldn iX3_sent_36 rfl <| okIc iX3_sent_37 <| okBi iX3_sent_38 (by decide) <| okIldn iX3_sent_40 rfl <| okAdd iX3_sent_41 <| okC3 (qM_X3_of iX3_sent_42) <| okIret iX3_sent_45 rfl))) pc
-- X3_closed: heads []
def tX3_closed : Nat → Blk MS := fun pc => bif Nat.blt pc 14 then (bif Nat.beq pc 0 then (oAld 0 <| oI 0 <| oPut (fpM) 3 0 <| oIld 1 <| oC1 (cM_X3_isKey) <| oZNe 14 <| oI (-1) <| oIret) else oNo) else (bif Nat.beq pc 14 then (oAld 0 <| oI 0 <| oPut (fpM) 3 1 <| oAld 0 <| oAld 0 <| oI 0 <| oI 42 <| oIld 1 <| oAdd <| oC3 (cM_X3_of) <| oI2l <| oC2 (cM_X3_enters) <| oAld 0 <| oAld 0 <| oI 0 <| oI 48 <| oIld 1 <| oAdd <| oC3 (cM_X3_of) <| oI2l <| oC2 (cM_X3_enters) <| oAld 0 <| oAld 0 <| oI 0 <| oI 54 <| oIld 1 <| oAdd <| oC3 (cM_X3_of) <| oI2l <| oC2 (cM_X3_enters) <| oAld 0 <| oI 0 <| oI 36 <| oIld 1 <| oAdd <| oC3 (cM_X3_of) <| oIret) else oNo)
theorem tX3_closed_ok : ∀ pc, bOk (encM) (bdM) mX3_closed 0 0 pc (tX3_closed pc) := fun pc => (tNode (tLeaf (okAldn iX3_closed_0 rfl <| okIc iX3_closed_1 <| okPut (vFpM) iX3_closed_2 <| okIldn iX3_closed_5 rfl <| okC1 (qM_X3_isKey iX3_closed_6) <| okZNe (tl rfl) iX3_closed_9 <| okIc iX3_closed_12 <| okIret iX3_closed_13 rfl)) (tLeaf (okAldn iX3_closed_14 rfl <| okIc iX3_closed_15 <| okPut (vFpM) iX3_closed_16 <| okAldn iX3_closed_19 rfl <| okAldn iX3_closed_20 rfl <| okIc iX3_closed_21 <| okBi iX3_closed_22 (by decide) <| okIldn iX3_closed_24 rfl <| okAdd iX3_closed_25 <| okC3 (qM_X3_of iX3_closed_26) <| okI2l iX3_closed_29 <| okC2 (qM_X3_enters iX3_closed_30) <| okAldn iX3_closed_33 rfl <| okAldn iX3_closed_34 rfl <| okIc iX3_closed_35 <| okBi iX3_closed_36 (by decide) <| okIldn iX3_closed_38 rfl <| okAdd iX3_closed_39 <| okC3 (qM_X3_of iX3_closed_40) <| okI2l iX3_closed_43 <| okC2 (qM_X3_enters iX3_closed_44) <| okAldn iX3_closed_47 rfl <| okAldn iX3_closed_48 rfl <| okIc iX3_closed_49 <| okBi iX3_closed_50 (by decide) <| okIldn iX3_closed_52 rfl <| okAdd iX3_closed_53 <| okC3 (qM_X3_of iX3_closed_54) <| okI2l iX3_closed_57 <| okC2 (qM_X3_enters iX3_closed_58) <| okAldn iX3_closed_61 rfl <| okIc iX3_closed_62 <| okBi iX3_closed_63 (by decide) <| okIldn iX3_closed_65 rfl <| okAdd iX3_closed_66 <| okC3 (qM_X3_of iX3_closed_67) <| okIret iX3_closed_70 rfl))) pc
-- X3_input: heads []
def tX3_input : Nat → Blk MS := fun pc => bif Nat.blt pc 37 then (bif Nat.blt pc 32 then (bif Nat.beq pc 0 then (oAld 0 <| oIld 1 <| oI2l <| oJ 0 <| oAld 0 <| oI 0 <| oI 6 <| oC3 (cM_X3_of) <| oI 1 <| oSubW <| oI2l <| oC3 (cM_X3_in) <| oZEq 32 <| oIld 2 <| oI2l <| oJ 0 <| oJ 3 <| oC3 (cM_X3_in) <| oZNe 36 <| oTo 32) else oNo) else (bif Nat.blt pc 36 then (bif Nat.beq pc 32 then (oI 1 <| oTo 37) else oNo) else (bif Nat.beq pc 36 then (oI 0 <| oTo 37) else oNo))) else (bif Nat.blt pc 55 then (bif Nat.beq pc 37 then (oC1 (cM_X3_flag) <| oPut (fpM) 3 0 <| oAld 0 <| oGet (fgM) 3 0 <| oI 1 <| oCNe 55 <| oI 0 <| oTo 61) else oNo) else (bif Nat.blt pc 61 then (bif Nat.beq pc 55 then (oAld 0 <| oIld 1 <| oIld 2 <| oC3 (cM_X3_ofInput) <| oTo 61) else oNo) else (bif Nat.beq pc 61 then (oIret) else oNo)))
theorem tX3_input_ok : ∀ pc, bOk (encM) (bdM) mX3_input 0 0 pc (tX3_input pc) := fun pc => (tNode (tNode (tLeaf (okAldn iX3_input_0 rfl <| okIldn iX3_input_1 rfl <| okI2l iX3_input_2 <| okLc iX3_input_3 rfl <| okAldn iX3_input_4 rfl <| okIc iX3_input_5 <| okBi iX3_input_6 (by decide) <| okC3 (qM_X3_of iX3_input_8) <| okIc iX3_input_11 <| okSubW iX3_input_12 <| okI2l iX3_input_13 <| okC3 (qM_X3_in iX3_input_14) <| okZEq (tl rfl) iX3_input_17 <| okIldn iX3_input_20 rfl <| okI2l iX3_input_21 <| okLc iX3_input_22 rfl <| okLdc2 (v := 3) iX3_input_23 ((wc_t5 144 rfl rfl)) (by decide) <| okC3 (qM_X3_in iX3_input_26) <| okZNe (tl rfl) iX3_input_29 <| okTo (tl rfl))) (tNode (tLeaf (okIc iX3_input_32 <| okGoto (tl rfl) iX3_input_33)) (tLeaf (okIc iX3_input_36 <| okTo (tl rfl))))) (tNode (tLeaf (okC1 (qM_X3_flag iX3_input_37) <| okPut (vFpM) iX3_input_40 <| okAldn iX3_input_43 rfl <| okGet (vFgM) iX3_input_44 <| okIc iX3_input_47 <| okCNe (tl rfl) iX3_input_48 <| okIc iX3_input_51 <| okGoto (tl rfl) iX3_input_52)) (tNode (tLeaf (okAldn iX3_input_55 rfl <| okIldn iX3_input_56 rfl <| okIldn iX3_input_57 rfl <| okC3 (qM_X3_ofInput iX3_input_58) <| okTo (tl rfl))) (tLeaf (okIret iX3_input_61 rfl))))) pc
-- X3_source: heads []
def tX3_source : Nat → Blk MS := fun pc => bif Nat.blt pc 106 then (bif Nat.blt pc 26 then (bif Nat.blt pc 21 then (bif Nat.beq pc 0 then (oAld 0 <| oAld 0 <| oIld 1 <| oC2 (cM_X3_isSource) <| oZEq 21 <| oIld 2 <| oI2l <| oJ 0 <| oJ 5 <| oC3 (cM_X3_in) <| oZNe 25 <| oTo 21) else oNo) else (bif Nat.blt pc 25 then (bif Nat.beq pc 21 then (oI 1 <| oTo 26) else oNo) else (bif Nat.beq pc 25 then (oI 0 <| oTo 26) else oNo))) else (bif Nat.blt pc 42 then (bif Nat.beq pc 26 then (oC1 (cM_X3_flag) <| oPut (fpM) 3 0 <| oAld 0 <| oGet (fgM) 3 0 <| oI 1 <| oCNe 42 <| oI 0 <| oIret) else oNo) else (bif Nat.blt pc 96 then (bif Nat.beq pc 42 then (oAld 0 <| oI 0 <| oI 12 <| oIld 1 <| oAdd <| oC3 (cM_X3_of) <| oAld 0 <| oI 0 <| oI 4 <| oC3 (cM_X3_of) <| oSubW <| oIst 3 <| oIld 2 <| oTab 0 [96, 106, 116, 126, 136] 146) else oNo) else (bif Nat.beq pc 96 then (oAld 0 <| oI 0 <| oI 12 <| oIld 1 <| oAdd <| oC3 (cM_X3_of) <| oIret) else oNo)))) else (bif Nat.blt pc 136 then (bif Nat.blt pc 116 then (bif Nat.beq pc 106 then (oAld 0 <| oI 0 <| oI 16 <| oIld 1 <| oAdd <| oC3 (cM_X3_of) <| oIret) else oNo) else (bif Nat.blt pc 126 then (bif Nat.beq pc 116 then (oAld 0 <| oI 0 <| oI 20 <| oIld 1 <| oAdd <| oC3 (cM_X3_of) <| oIret) else oNo) else (bif Nat.beq pc 126 then (oAld 0 <| oI 0 <| oI 24 <| oIld 1 <| oAdd <| oC3 (cM_X3_of) <| oIret) else oNo))) else (bif Nat.blt pc 154 then (bif Nat.blt pc 146 then (bif Nat.beq pc 136 then (oAld 0 <| oI 0 <| oI 28 <| oIld 1 <| oAdd <| oC3 (cM_X3_of) <| oIret) else oNo) else (bif Nat.beq pc 146 then (oIld 3 <| oZGe 154 <| oI (-1) <| oTo 155) else oNo)) else (bif Nat.blt pc 155 then (bif Nat.beq pc 154 then (oIld 3 <| oTo 155) else oNo) else (bif Nat.beq pc 155 then (oIret) else oNo))))
theorem tX3_source_ok : ∀ pc, bOk (encM) (bdM) mX3_source 0 0 pc (tX3_source pc) := fun pc => (tNode (tNode (tNode (tLeaf (okAldn iX3_source_0 rfl <| okAldn iX3_source_1 rfl <| okIldn iX3_source_2 rfl <| okC2 (qM_X3_isSource iX3_source_3) <| okZEq (tl rfl) iX3_source_6 <| okIldn iX3_source_9 rfl <| okI2l iX3_source_10 <| okLc iX3_source_11 rfl <| okLdc2 (v := 5) iX3_source_12 ((wc_t4 210 rfl rfl)) (by decide) <| okC3 (qM_X3_in iX3_source_15) <| okZNe (tl rfl) iX3_source_18 <| okTo (tl rfl))) (tNode (tLeaf (okIc iX3_source_21 <| okGoto (tl rfl) iX3_source_22)) (tLeaf (okIc iX3_source_25 <| okTo (tl rfl))))) (tNode (tLeaf (okC1 (qM_X3_flag iX3_source_26) <| okPut (vFpM) iX3_source_29 <| okAldn iX3_source_32 rfl <| okGet (vFgM) iX3_source_33 <| okIc iX3_source_36 <| okCNe (tl rfl) iX3_source_37 <| okIc iX3_source_40 <| okIret iX3_source_41 rfl)) (tNode (tLeaf (okAldn iX3_source_42 rfl <| okIc iX3_source_43 <| okBi iX3_source_44 (by decide) <| okIldn iX3_source_46 rfl <| okAdd iX3_source_47 <| okC3 (qM_X3_of iX3_source_48) <| okAldn iX3_source_51 rfl <| okIc iX3_source_52 <| okIc iX3_source_53 <| okC3 (qM_X3_of iX3_source_54) <| okSubW iX3_source_57 <| okIstn iX3_source_58 rfl (by decide) <| okIldn iX3_source_59 rfl <| okTab (by decide +kernel) (by decide +kernel) (by decide +kernel) iX3_source_60.1)) (tLeaf (okAldn iX3_source_96 rfl <| okIc iX3_source_97 <| okBi iX3_source_98 (by decide) <| okIldn iX3_source_100 rfl <| okAdd iX3_source_101 <| okC3 (qM_X3_of iX3_source_102) <| okIret iX3_source_105 rfl))))) (tNode (tNode (tLeaf (okAldn iX3_source_106 rfl <| okIc iX3_source_107 <| okBi iX3_source_108 (by decide) <| okIldn iX3_source_110 rfl <| okAdd iX3_source_111 <| okC3 (qM_X3_of iX3_source_112) <| okIret iX3_source_115 rfl)) (tNode (tLeaf (okAldn iX3_source_116 rfl <| okIc iX3_source_117 <| okBi iX3_source_118 (by decide) <| okIldn iX3_source_120 rfl <| okAdd iX3_source_121 <| okC3 (qM_X3_of iX3_source_122) <| okIret iX3_source_125 rfl)) (tLeaf (okAldn iX3_source_126 rfl <| okIc iX3_source_127 <| okBi iX3_source_128 (by decide) <| okIldn iX3_source_130 rfl <| okAdd iX3_source_131 <| okC3 (qM_X3_of iX3_source_132) <| okIret iX3_source_135 rfl)))) (tNode (tNode (tLeaf (okAldn iX3_source_136 rfl <| okIc iX3_source_137 <| okBi iX3_source_138 (by decide) <| okIldn iX3_source_140 rfl <| okAdd iX3_source_141 <| okC3 (qM_X3_of iX3_source_142) <| okIret iX3_source_145 rfl)) (tLeaf (okIldn iX3_source_146 rfl <| okZGe (tl rfl) iX3_source_147 <| okIc iX3_source_150 <| okGoto (tl rfl) iX3_source_151))) (tNode (tLeaf (okIldn iX3_source_154 rfl <| okTo (tl rfl))) (tLeaf (okIret iX3_source_155 rfl)))))) pc
-- X3_session: heads []
def tX3_session : Nat → Blk MS := fun pc => bif Nat.blt pc 96 then (bif Nat.blt pc 36 then (bif Nat.blt pc 31 then (bif Nat.beq pc 0 then (oAld 0 <| oIld 1 <| oI2l <| oJ 0 <| oAld 0 <| oI 0 <| oI 5 <| oC3 (cM_X3_of) <| oI 1 <| oSubW <| oI2l <| oC3 (cM_X3_in) <| oZEq 31 <| oIld 2 <| oI2l <| oJ 0 <| oJ 7 <| oC3 (cM_X3_in) <| oZNe 35 <| oTo 31) else oNo) else (bif Nat.blt pc 35 then (bif Nat.beq pc 31 then (oI 1 <| oTo 36) else oNo) else (bif Nat.beq pc 35 then (oI 0 <| oTo 36) else oNo))) else (bif Nat.blt pc 52 then (bif Nat.beq pc 36 then (oC1 (cM_X3_flag) <| oPut (fpM) 3 0 <| oAld 0 <| oGet (fgM) 3 0 <| oI 1 <| oCNe 52 <| oI 0 <| oIret) else oNo) else (bif Nat.blt pc 84 then (bif Nat.beq pc 52 then (oIld 2 <| oTab 4 [84, 96, 107, 123] 143) else oNo) else (bif Nat.beq pc 84 then (oI 20000 <| oAld 0 <| oI 0 <| oIld 1 <| oI 4 <| oC4 (cM_X3_ofSession) <| oAddW <| oIret) else oNo)))) else (bif Nat.blt pc 138 then (bif Nat.blt pc 107 then (bif Nat.beq pc 96 then (oI 99 <| oAld 0 <| oI 0 <| oIld 1 <| oI 5 <| oC4 (cM_X3_ofSession) <| oAddW <| oIret) else oNo) else (bif Nat.blt pc 123 then (bif Nat.beq pc 107 then (oAld 0 <| oI 0 <| oIld 1 <| oAld 0 <| oI 0 <| oI 4 <| oC3 (cM_X3_of) <| oC4 (cM_X3_isRipeBy) <| oC1 (cM_X3_flag) <| oIret) else oNo) else (bif Nat.beq pc 123 then (oAld 0 <| oI 0 <| oIld 1 <| oI 6 <| oC4 (cM_X3_ofSession) <| oZLe 138 <| oI 1 <| oTo 139) else oNo))) else (bif Nat.blt pc 139 then (bif Nat.beq pc 138 then (oI 0 <| oTo 139) else oNo) else (bif Nat.blt pc 143 then (bif Nat.beq pc 139 then (oC1 (cM_X3_flag) <| oIret) else oNo) else (bif Nat.beq pc 143 then (oAld 0 <| oI 0 <| oIld 1 <| oIld 2 <| oC4 (cM_X3_ofSession) <| oIret) else oNo))))
theorem tX3_session_ok : ∀ pc, bOk (encM) (bdM) mX3_session 0 0 pc (tX3_session pc) := fun pc => (tNode (tNode (tNode (tLeaf (okAldn iX3_session_0 rfl <| okIldn iX3_session_1 rfl <| okI2l iX3_session_2 <| okLc iX3_session_3 rfl <| okAldn iX3_session_4 rfl <| okIc iX3_session_5 <| okIc iX3_session_6 <| okC3 (qM_X3_of iX3_session_7) <| okIc iX3_session_10 <| okSubW iX3_session_11 <| okI2l iX3_session_12 <| okC3 (qM_X3_in iX3_session_13) <| okZEq (tl rfl) iX3_session_16 <| okIldn iX3_session_19 rfl <| okI2l iX3_session_20 <| okLc iX3_session_21 rfl <| okLdc2 (v := 7) iX3_session_22 ((wc_t5 131 rfl rfl)) (by decide) <| okC3 (qM_X3_in iX3_session_25) <| okZNe (tl rfl) iX3_session_28 <| okTo (tl rfl))) (tNode (tLeaf (okIc iX3_session_31 <| okGoto (tl rfl) iX3_session_32)) (tLeaf (okIc iX3_session_35 <| okTo (tl rfl))))) (tNode (tLeaf (okC1 (qM_X3_flag iX3_session_36) <| okPut (vFpM) iX3_session_39 <| okAldn iX3_session_42 rfl <| okGet (vFgM) iX3_session_43 <| okIc iX3_session_46 <| okCNe (tl rfl) iX3_session_47 <| okIc iX3_session_50 <| okIret iX3_session_51 rfl)) (tNode (tLeaf (okIldn iX3_session_52 rfl <| okTab (by decide +kernel) (by decide +kernel) (by decide +kernel) iX3_session_53.1)) (tLeaf (okSi iX3_session_84 (by decide) <| okAldn iX3_session_87 rfl <| okIc iX3_session_88 <| okIldn iX3_session_89 rfl <| okIc iX3_session_90 <| okC4 (qM_X3_ofSession iX3_session_91) <| okAddW iX3_session_94 <| okIret iX3_session_95 rfl))))) (tNode (tNode (tLeaf (okBi iX3_session_96 (by decide) <| okAldn iX3_session_98 rfl <| okIc iX3_session_99 <| okIldn iX3_session_100 rfl <| okIc iX3_session_101 <| okC4 (qM_X3_ofSession iX3_session_102) <| okAddW iX3_session_105 <| okIret iX3_session_106 rfl)) (tNode (tLeaf (okAldn iX3_session_107 rfl <| okIc iX3_session_108 <| okIldn iX3_session_109 rfl <| okAldn iX3_session_110 rfl <| okIc iX3_session_111 <| okIc iX3_session_112 <| okC3 (qM_X3_of iX3_session_113) <| okC4 (qM_X3_isRipeBy iX3_session_116) <| okC1 (qM_X3_flag iX3_session_119) <| okIret iX3_session_122 rfl)) (tLeaf (okAldn iX3_session_123 rfl <| okIc iX3_session_124 <| okIldn iX3_session_125 rfl <| okBi iX3_session_126 (by decide) <| okC4 (qM_X3_ofSession iX3_session_128) <| okZLe (tl rfl) iX3_session_131 <| okIc iX3_session_134 <| okGoto (tl rfl) iX3_session_135)))) (tNode (tLeaf (okIc iX3_session_138 <| okTo (tl rfl))) (tNode (tLeaf (okC1 (qM_X3_flag iX3_session_139) <| okIret iX3_session_142 rfl)) (tLeaf (okAldn iX3_session_143 rfl <| okIc iX3_session_144 <| okIldn iX3_session_145 rfl <| okIldn iX3_session_146 rfl <| okC4 (qM_X3_ofSession iX3_session_147) <| okIret iX3_session_150 rfl)))))) pc
theorem evP_mono {s : MS} {k t v r : Int} {n : Nat} {K K' : Int → MS → Prop} (h : ∀ a s, K a s → K' a s) (q : evP s k t v r n K) : evP s k t v r n K' :=
  ⟨fun c => h _ _ (q.1 c), fun c => ⟨fun z => h _ _ ((q.2 c).1 z), fun z => ⟨((q.2 c).2 z).1, mComeP_mono (fun s' y => h _ _ y) ((q.2 c).2 z).2⟩⟩⟩
theorem mkP_mono {s : MS} {r t : Int} {n : Nat} {K K' : Int → MS → Prop} (h : ∀ a s, K a s → K' a s) (q : mkP s r t n K) : mkP s r t n K' :=
  ⟨fun c => h _ _ (q.1 c), fun c => ⟨fun z => h _ _ ((q.2 c).1 z), fun z => ⟨fun y => h _ _ (((q.2 c).2 z).1 y), fun y => ⟨(((q.2 c).2 z).2 y).1, (((q.2 c).2 z).2 y).2.1, mRisP_mono (fun s' x => h _ _ x) (((q.2 c).2 z).2 y).2.2⟩⟩⟩⟩
theorem idP_mono {s : MS} {r : Int} {n : Nat} {K K' : Int → MS → Prop} (h : ∀ a s, K a s → K' a s) (q : idP s r n K) : idP s r n K' :=
  ⟨fun c => h _ _ (q.1 c), fun c => ⟨fun z => h _ _ ((q.2 c).1 z), fun z => ⟨fun y => h _ _ (((q.2 c).2 z).1 y), fun y => ⟨(((q.2 c).2 z).2 y).1, (((q.2 c).2 z).2 y).2.1, mRisP_mono (fun s' x => h _ _ x) (((q.2 c).2 z).2 y).2.2⟩⟩⟩⟩
abbrev mok1 (s : MS) : Prop := 0 ≤ mg s 0 ∧ mg s 0 ≤ 4
abbrev uok1 (s : MS) : Prop := 0 ≤ s.1 8 ∧ s.1 8 ≤ 6
def gEventP (s : MS) (k t v r : Int) (n : Nat) (K : Int → MS → Prop) : Prop := evP (mCopy (mS s 0 0) 0 3) k t v r n (fun a s' => (a < 0 → K a s') ∧ (0 ≤ a → uok1 (mSince s' 0 (mg s' (3 * 2804 + 7))) ∧ K a (mLays (mSince s' 0 (mg s' (3 * 2804 + 7))))))
def sX3_event : Int → Int → Int → Int → MS → KM → Prop := fun k t v r s K => ((xB k ∧ xB t ∧ xB v ∧ xB r) ∧ mok1 (mCopy (mS s 0 0) 0 3)) ∧ ∃ n, gEventP s k t v r n (fun a s' => K [pI a] s')
theorem mX3_event_ok : mOk encM bdM mX3_event (atR 0 (a4 sX3_event)) := by
  refine mOVa4 kX3_event (fun _ _ _ _ => rfl) (fun k t v r s K h hb => wx_J [] 9 tX3_event_ok rfl (fun J hR hJ => ?_))
  obtain ⟨⟨h1, h5⟩, n, p⟩ := h
  refine ⟨⟨by omega, by omega⟩, ⟨⟨by omega, by omega⟩, by omega, by omega⟩, ⟨⟨h1, h5⟩, n, evP_mono (fun a s' q u1 u2 => ?_) p⟩⟩
  refine ⟨⟨by omega, by omega⟩, fun c => ?_, fun c => ?_⟩
  · obtain ⟨q1, q2⟩ := q.2 c
    rw [← if_pos (c := 0 ≤ a) (t := mLays (mSince s' 0 (mg s' (3 * 2804 + 7)))) (e := mSince s' 0 (mg s' (3 * 2804 + 7))) c] at q2
    exact ⟨⟨by omega, by omega⟩, fun _ => ⟨⟨by omega, by omega⟩, ⟨⟨by omega, by omega⟩, q1⟩, hR _ _ q2⟩⟩
  · exact hR _ _ (q.1 c)
def gAfter (a : Int) (s' : MS) (K : Int → MS → Prop) : Prop := (a < 0 → uok1 s' ∧ K a s') ∧ (0 ≤ a → uok1 (mProg s') ∧ K a (mLays (mProg s')))
def sX3_marks : Int → Int → MS → KM → Prop := fun r t s K => ((xB r ∧ xB t) ∧ mok1 (mCopy (mS s 0 0) 0 3)) ∧ ∃ n, mkP (mCopy (mS s 0 0) 0 3) r t n (fun a s' => gAfter a s' (fun a s' => K [pI a] s'))
theorem mX3_marks_ok : mOk encM bdM mX3_marks (atR 0 (a2 sX3_marks)) := by
  refine mOVa2 kX3_marks (fun _ _ => rfl) (fun r t s K h hb => wx_J [] 9 tX3_marks_ok rfl (fun J hR hJ => ?_))
  obtain ⟨⟨h1, h5⟩, n, p⟩ := h
  refine ⟨⟨by omega, by omega⟩, ⟨⟨by omega, by omega⟩, by omega, by omega⟩, ⟨⟨h1, h5⟩, n, mkP_mono (fun a s' q u => ?_) p⟩⟩
  refine ⟨u, fun c => ?_, fun c => ?_⟩
  · obtain ⟨q1, q2⟩ := q.1 c
    rw [← if_neg (c := 0 ≤ a) (t := mLays s') (e := s') (by omega)] at q2
    exact ⟨⟨u, q1⟩, hR _ _ q2⟩
  · obtain ⟨q1, q2⟩ := q.2 c
    rw [← if_pos (c := 0 ≤ a) (t := mLays (mProg s')) (e := mProg s') c] at q2
    exact ⟨⟨u, q1⟩, hR _ _ q2⟩
def sX3_idles : Int → MS → KM → Prop := fun r s K => (xB r ∧ mok1 (mCopy (mS s 0 0) 0 3)) ∧ ∃ n, idP (mCopy (mS s 0 0) 0 3) r n (fun a s' => gAfter a s' (fun a s' => K [pI a] s'))
theorem mX3_idles_ok : mOk encM bdM mX3_idles (atR 0 (a1 sX3_idles)) := by
  refine mOVa1 kX3_idles (fun _ => rfl) (fun r s K h hb => wx_J [] 9 tX3_idles_ok rfl (fun J hR hJ => ?_))
  obtain ⟨⟨h1, h5⟩, n, p⟩ := h
  refine ⟨⟨by omega, by omega⟩, ⟨⟨by omega, by omega⟩, by omega, by omega⟩, ⟨⟨h1, h5⟩, n, idP_mono (fun a s' q u => ?_) p⟩⟩
  refine ⟨u, fun c => ?_, fun c => ?_⟩
  · obtain ⟨q1, q2⟩ := q.1 c
    rw [← if_neg (c := 0 ≤ a) (t := mLays s') (e := s') (by omega)] at q2
    exact ⟨⟨u, q1⟩, hR _ _ q2⟩
  · obtain ⟨q1, q2⟩ := q.2 c
    rw [← if_pos (c := 0 ≤ a) (t := mLays (mProg s')) (e := mProg s') c] at q2
    exact ⟨⟨u, q1⟩, hR _ _ q2⟩
/-- the text -/
def gs8 (v k : Int) : Int := (iI (iI v >>> (iI (24 - 8 * k) &&& 31)).toInt &&& iI 255).toInt
def sgL (v : Int) : Nat → Int → MS → MS
  | 0, _, s => s
  | m + 1, k, s => sgL v m (k + 1) (mA s 2 (xup (s.2 2) (s.1 4 + k).toNat (gs8 v k)))
def gSign (s : MS) (v : Int) : Int × MS := if 76 < s.1 4 then (-1, mS s 0 0) else (s.1 4 + 4, mS (sgL v 4 0 (mS s 0 0)) 4 (s.1 4 + 4))
theorem X3_sign_l {K : KM} {Pt : MS → Prop} (v c : Int) (hc : 0 ≤ c ∧ c ≤ 76) : ∀ (m : Nat) (k : Int) (s : MS), s.1 4 = c → 0 ≤ k → k ≤ 4 → m = (4 - k).toNat → K [pI (c + 4)] (mS (sgL v m k s) 4 (c + 4)) → wX encM bdM mX3_sign 0 0 K Pt 18 [some (pR 0), some (pI v), some (pI k)] [] s := by
  intro m
  induction m with
  | zero =>
    intro k s hs h0 h1 hm hK
    refine wx_J [18] 9 tX3_sign_ok rfl (fun J hR hJ => ?_)
    rw [sgL] at hK
    subst hs
    refine ⟨⟨⟨by omega, by omega⟩, ⟨by omega, by omega⟩⟩, fun _ => ?_, fun q => absurd q (by omega)⟩
    exact fun _ => ⟨⟨by omega, by omega⟩, fun _ => hR _ _ hK⟩
  | succ m ih =>
    intro k s hs h0 h1 hm hK
    refine wx_J [18] 9 tX3_sign_ok rfl (fun J hR hJ => ?_)
    rw [sgL] at hK
    subst hs
    have g := ih (k + 1) (mA s 2 (xup (s.2 2) (s.1 4 + k).toNat (gs8 v k))) rfl (by omega) (by omega) (by omega) hK
    refine ⟨⟨⟨by omega, by omega⟩, ⟨by omega, by omega⟩⟩, fun q => absurd q (by omega), fun _ => ?_⟩
    exact fun _ => ⟨⟨by omega, by show s.1 4 + k < (80 : Int); omega, xb_of _⟩, hJ _ _ _ _ g⟩
def sX3_sign : Int → MS → KM → Prop := fun v s K => (0 ≤ s.1 4 ∧ s.1 4 ≤ 80) ∧ K [pI (gSign s v).1] (gSign s v).2
theorem mX3_sign_ok : mOk encM bdM mX3_sign (atR 0 (a1 sX3_sign)) := by
  refine mOVa1 kX3_sign (fun _ => rfl) (fun v s K h hb => wx_J [18] 9 tX3_sign_ok rfl (fun J hR hJ => ?_))
  obtain ⟨h1, hK⟩ := h
  unfold gSign at hK
  refine ⟨⟨by omega, by omega⟩, fun (h4 : xB (s.1 4)) => ⟨⟨h4, ⟨by omega, by omega⟩⟩, fun c => ?_, fun c => ?_⟩⟩
  · have c : s.1 4 ≤ 76 := c
    rw [if_neg (by omega)] at hK
    exact hJ _ _ _ _ (X3_sign_l v (s.1 4) ⟨h1.1, c⟩ 4 0 (mS s 0 0) rfl (by omega) (by omega) (by omega) hK)
  · have c : 76 < s.1 4 := c
    rw [if_pos c] at hK
    exact hR _ _ hK
def gEnd (s : MS) (n : Int) : Int × MS := if inB n 0 (s.1 4) then (1, mS (mS s 0 0) 4 n) else (0, mS s 0 0)
def sX3_end : Int → MS → KM → Prop := fun n s K => xB n ∧ K [pI (gEnd s n).1] (gEnd s n).2
theorem mX3_end_ok : mOk encM bdM mX3_end (atR 0 (a1 sX3_end)) := by
  refine mOVa1 kX3_end (fun _ => rfl) (fun n s K h hb => wx_J [] 9 tX3_end_ok rfl (fun J hR hJ => ?_))
  obtain ⟨h1, hK⟩ := h
  unfold gEnd at hK
  refine ⟨⟨by omega, by omega⟩, h1, fun (h4 : xB (s.1 4)) => ⟨h4, ⟨⟨h1, ⟨by omega, by omega⟩, h4⟩, fun c => ?_, fun c => ?_⟩⟩⟩
  · have c : inB n 0 (s.1 4) := c
    rw [if_pos c] at hK
    exact ⟨⟨by omega, by omega⟩, fun _ => ⟨h1, Or.inr rfl, hR _ _ hK⟩, fun q => absurd q (by omega)⟩
  · have c : ¬ inB n 0 (s.1 4) := c
    rw [if_neg c] at hK
    exact ⟨⟨by omega, by omega⟩, fun q => absurd rfl q, fun _ => ⟨Or.inl rfl, hR _ _ hK⟩⟩
def gTaken (s : MS) : Int × MS := (mg s 8, mEn (mEn (mEn (mS (mS s 0 0) 1 0) (mg s 9)) (mg s 10)) (mg s 11))
def sX3_taken : MS → KM → Prop := fun s K => K [pI (gTaken s).1] (gTaken s).2
theorem mX3_taken_ok : mOk encM bdM mX3_taken (atR 0 (a0 sX3_taken)) := by
  refine mOVa0 kX3_taken (fun _ => rfl) (fun s K h hb => wx_J [] 9 tX3_taken_ok rfl (fun J hR hJ => ?_))
  exact ⟨⟨by omega, by omega⟩, ⟨by omega, by omega⟩, ⟨by omega, by omega⟩, fun a => ⟨a, ⟨a, by show (0 : Int) ≤ 0; omega, by show (0 : Int) < 16; omega⟩, ⟨by omega, by omega⟩, fun b => ⟨b, ⟨b, by show (0 : Int) ≤ 0 + 1; omega, by show (0 : Int) + 1 < 16; omega⟩, ⟨by omega, by omega⟩, fun c => ⟨c, ⟨c, by show (0 : Int) ≤ 0 + 1 + 1; omega, by show (0 : Int) + 1 + 1 < 16; omega⟩, ⟨by omega, by omega⟩, fun _ => hR _ _ h⟩⟩⟩⟩
end
-- 62.Mq
section
/-! ===== the model: its face, single answers ===== -/
def gSent (s : MS) (k : Int) : Int × MS := if inB k 0 3 then (mg s (0 * 2804 + (32 + k)), mEn (mS (mS s 0 0) 1 0) (mg s (0 * 2804 + 7))) else (-1, mS s 0 0)
def sX3_sent : Int → MS → KM → Prop := fun k s K => xB k ∧ K [pI (gSent s k).1] (gSent s k).2
theorem mX3_sent_ok : mOk encM bdM mX3_sent (atR 0 (a1 sX3_sent)) := by
  refine mOVa1 kX3_sent (fun _ => rfl) (fun k s K h hb => wx_J [] 9 tX3_sent_ok rfl (fun J hR hJ => ?_))
  obtain ⟨h1, hK⟩ := h
  unfold gSent at hK
  refine ⟨⟨by omega, by omega⟩, h1, ⟨⟨h1, ⟨by omega, by omega⟩, ⟨by omega, by omega⟩⟩, fun c => ?_, fun c => ?_⟩⟩
  · rw [if_pos c] at hK
    exact ⟨⟨by omega, by omega⟩, fun _ => ⟨⟨by omega, by omega⟩, ⟨by omega, by omega⟩, fun a => ⟨a, ⟨a, by show (0 : Int) ≤ 0; omega, by show (0 : Int) < 16; omega⟩, ⟨by omega, by omega⟩, fun _ => hR _ _ hK⟩⟩, fun q => absurd q (by omega)⟩
  · rw [if_neg c] at hK
    exact ⟨⟨by omega, by omega⟩, fun q => absurd rfl q, fun _ => hR _ _ hK⟩
def gClosed (s : MS) (k : Int) : Int × MS := if 0 ≤ k ∧ k < 6 then (mg s (0 * 2804 + (36 + k)), mEn (mEn (mEn (mS (mS s 0 0) 1 0) (mg s (0 * 2804 + (42 + k)))) (mg s (0 * 2804 + (48 + k)))) (mg s (0 * 2804 + (54 + k)))) else (-1, mS s 0 0)
def sX3_closed : Int → MS → KM → Prop := fun k s K => xB k ∧ K [pI (gClosed s k).1] (gClosed s k).2
theorem mX3_closed_ok : mOk encM bdM mX3_closed (atR 0 (a1 sX3_closed)) := by
  refine mOVa1 kX3_closed (fun _ => rfl) (fun k s K h hb => wx_J [] 9 tX3_closed_ok rfl (fun J hR hJ => ?_))
  obtain ⟨h1, hK⟩ := h
  unfold gClosed at hK
  refine ⟨⟨by omega, by omega⟩, ⟨h1, fun c => ?_, fun c => ?_⟩⟩
  · rw [if_pos c] at hK
    exact ⟨⟨by omega, by omega⟩, fun _ => ⟨⟨by omega, by omega⟩, ⟨by omega, by omega⟩, fun a => ⟨a, ⟨a, by show (0 : Int) ≤ 0; omega, by show (0 : Int) < 16; omega⟩, ⟨by omega, by omega⟩, fun b => ⟨b, ⟨b, by show (0 : Int) ≤ 0 + 1; omega, by show (0 : Int) + 1 < 16; omega⟩, ⟨by omega, by omega⟩, fun c => ⟨c, ⟨c, by show (0 : Int) ≤ 0 + 1 + 1; omega, by show (0 : Int) + 1 + 1 < 16; omega⟩, ⟨by omega, by omega⟩, fun _ => hR _ _ hK⟩⟩⟩⟩, fun q => absurd q (by omega)⟩
  · rw [if_neg c] at hK
    exact ⟨⟨by omega, by omega⟩, fun q => absurd rfl q, fun _ => hR _ _ hK⟩
def gCount (s : MS) (a : Int) : Int := if a = 8 then s.1 8 else if a = 9 then s.1 1 else if a = 10 then s.1 4 else if inB a 0 7 then mg s (0 * 2804 + a) else -1
def sX3_count : Int → MS → KM → Prop := fun a s K => xB a ∧ K [pI (gCount s a)] (mS s 0 0)
theorem mX3_count_ok : mOk encM bdM mX3_count (atR 0 (a1 sX3_count)) := by
  refine mOVa1 kX3_count (fun _ => rfl) (fun a s K h hb => wx_J [] 9 tX3_count_ok rfl (fun J hR hJ => ?_))
  obtain ⟨h1, hK⟩ := h
  unfold gCount at hK
  refine ⟨⟨by omega, by omega⟩, h1, fun c => ?_, fun c => ?_, fun c => ?_, fun c => ?_⟩
  · rw [if_pos (show a = 8 by omega)] at hK
    exact fun _ => hR _ _ hK
  · rw [if_neg (show ¬ a = 8 by omega), if_pos (show a = 9 by omega)] at hK
    exact fun _ => hR _ _ hK
  · rw [if_neg (show ¬ a = 8 by omega), if_neg (show ¬ a = 9 by omega), if_pos (show a = 10 by omega)] at hK
    exact fun _ => hR _ _ hK
  · rw [if_neg (show ¬ a = 8 by omega), if_neg (show ¬ a = 9 by omega), if_neg (show ¬ a = 10 by omega)] at hK
    refine ⟨h1, ⟨⟨h1, ⟨by omega, by omega⟩, ⟨by omega, by omega⟩⟩, fun c2 => ?_, fun c2 => ?_⟩⟩
    · rw [if_pos c2] at hK
      exact ⟨⟨by omega, by omega⟩, fun q => absurd q (by omega), fun _ => ⟨⟨by omega, by omega⟩, fun _ => hR _ _ hK⟩⟩
    · rw [if_neg c2] at hK
      exact ⟨⟨by omega, by omega⟩, fun _ => hR _ _ hK, fun q => absurd rfl q⟩
def gRow (s : MS) (i : Int) : Int × MS := if inB i 0 (wI (s.1 1 - 1)) then (s.2 1 i.toNat, mS s 0 0) else (0, mS s 0 1)
def sX3_row : Int → MS → KM → Prop := fun i s K => (xB i ∧ 0 ≤ s.1 1 ∧ s.1 1 ≤ 16) ∧ K [pJ (gRow s i).1] (gRow s i).2
theorem mX3_row_ok : mOk encM bdM mX3_row (atR 0 (a1 sX3_row)) := by
  refine mOVa1 kX3_row (fun _ => rfl) (fun i s K h hb => wx_J [] 9 tX3_row_ok rfl (fun J hR hJ => ?_))
  obtain ⟨⟨h1, h2⟩, hK⟩ := h
  unfold gRow at hK
  have hw : wI (s.1 1 - 1) = s.1 1 - 1 := wI_eq ⟨by omega, by omega⟩
  refine ⟨h1, fun h3 h4 => ⟨h4, ⟨⟨h1, ⟨by omega, by omega⟩, h4⟩, fun c => ?_, fun c => ?_⟩⟩⟩
  · rw [if_pos c] at hK
    refine ⟨⟨by omega, by omega⟩, fun _ => ⟨Or.inl rfl, ⟨by omega, by omega⟩, fun _ => ⟨⟨⟨by omega, by omega⟩, ⟨by omega, by omega⟩⟩, fun _ => ?_, fun q => absurd (show (0 : Int) = 1 from q) (by omega)⟩⟩, fun q => absurd q (by omega)⟩
    exact ⟨⟨c.1, by rw [hw] at c; omega⟩, fun _ => hR _ _ hK⟩
  · rw [if_neg c] at hK
    refine ⟨⟨by omega, by omega⟩, fun q => absurd rfl q, fun _ => ⟨Or.inr rfl, ⟨by omega, by omega⟩, fun _ => ⟨⟨⟨by omega, by omega⟩, ⟨by omega, by omega⟩⟩, fun q => absurd (show (1 : Int) = 1 from rfl) q, fun _ => hR _ _ hK⟩⟩⟩
def gInput (s : MS) (i a : Int) : Int × MS := if inB i 0 (wI (mg s (0 * 2804 + 6) - 1)) ∧ inB a 0 3 then (mg s (1844 + 6 * i + a), mS s 0 0) else (0, mS s 0 1)
def sX3_input : Int → Int → MS → KM → Prop := fun i a s K => ((xB i ∧ xB a) ∧ 0 ≤ mg s (0 * 2804 + 6) ∧ mg s (0 * 2804 + 6) ≤ 160) ∧ K [pI (gInput s i a).1] (gInput s i a).2
theorem mX3_input_ok : mOk encM bdM mX3_input (atR 0 (a2 sX3_input)) := by
  refine mOVa2 kX3_input (fun _ _ => rfl) (fun i a s K h hb => wx_J [] 9 tX3_input_ok rfl (fun J hR hJ => ?_))
  obtain ⟨⟨⟨h1, h0⟩, h2⟩, hK⟩ := h
  unfold gInput at hK
  have hw : wI (mg s (0 * 2804 + 6) - 1) = mg s (0 * 2804 + 6) - 1 := wI_eq ⟨by omega, by omega⟩
  refine ⟨h1, ⟨by omega, by omega⟩, fun h3 h4 => ⟨h4, ⟨⟨h1, ⟨by omega, by omega⟩, h4⟩, fun c => ?_, fun c => ?_⟩⟩⟩
  · refine ⟨⟨by omega, by omega⟩, fun q => absurd q (by omega), fun _ => ⟨h0, ⟨⟨h0, ⟨by omega, by omega⟩, ⟨by omega, by omega⟩⟩, fun c2 => ?_, fun c2 => ?_⟩⟩⟩
    · rw [if_pos ⟨c, c2⟩] at hK
      refine ⟨⟨by omega, by omega⟩, fun _ => ⟨Or.inl rfl, ⟨by omega, by omega⟩, fun _ => ⟨⟨⟨by omega, by omega⟩, ⟨by omega, by omega⟩⟩, fun _ => ?_, fun q => absurd (show (0 : Int) = 1 from q) (by omega)⟩⟩, fun q => absurd q (by omega)⟩
      rw [hw] at c
      exact ⟨⟨by omega, by omega⟩, fun _ => hR _ _ hK⟩
    · rw [if_neg (fun z => c2 z.2)] at hK
      refine ⟨⟨by omega, by omega⟩, fun q => absurd rfl q, fun _ => ⟨Or.inr rfl, ⟨by omega, by omega⟩, fun _ => ⟨⟨⟨by omega, by omega⟩, ⟨by omega, by omega⟩⟩, fun q => absurd (show (1 : Int) = 1 from rfl) q, fun _ => hR _ _ hK⟩⟩⟩
  · rw [if_neg (fun z => c z.1)] at hK
    refine ⟨⟨by omega, by omega⟩, fun _ => ⟨Or.inr rfl, ⟨by omega, by omega⟩, fun _ => ⟨⟨⟨by omega, by omega⟩, ⟨by omega, by omega⟩⟩, fun q => absurd (show (1 : Int) = 1 from rfl) q, fun _ => hR _ _ hK⟩⟩, fun q => absurd rfl q⟩
def gSrcA (s : MS) (r a : Int) : Int := if a = 0 then mg s (0 * 2804 + (12 + r)) else if a = 1 then mg s (0 * 2804 + (16 + r)) else if a = 2 then mg s (0 * 2804 + (20 + r)) else if a = 3 then mg s (0 * 2804 + (24 + r)) else if a = 4 then mg s (0 * 2804 + (28 + r)) else if wI (mg s (0 * 2804 + (12 + r)) - mg s (0 * 2804 + 4)) < 0 then -1 else wI (mg s (0 * 2804 + (12 + r)) - mg s (0 * 2804 + 4))
def gSource (s : MS) (r a : Int) : Int × MS := if mSrc s r ∧ inB a 0 5 then (gSrcA s r a, mS s 0 0) else (0, mS s 0 1)
def sX3_source : Int → Int → MS → KM → Prop := fun r a s K => ((xB r ∧ xB a) ∧ mok1 s) ∧ K [pI (gSource s r a).1] (gSource s r a).2
theorem mX3_source_ok : mOk encM bdM mX3_source (atR 0 (a2 sX3_source)) := by
  refine mOVa2 kX3_source (fun _ _ => rfl) (fun r a s K h hb => wx_J [] 12 tX3_source_ok rfl (fun J hR hJ => ?_))
  obtain ⟨⟨⟨h1, h0⟩, h2⟩, hK⟩ := h
  unfold gSource at hK
  refine ⟨⟨h1, h2.1⟩, fun c => ?_, fun c => ?_⟩
  · refine ⟨⟨by omega, by omega⟩, fun q => absurd q (by omega), fun _ => ⟨h0, ⟨⟨h0, ⟨by omega, by omega⟩, ⟨by omega, by omega⟩⟩, fun c2 => ?_, fun c2 => ?_⟩⟩⟩
    · rw [if_pos ⟨c, c2⟩] at hK
      refine ⟨⟨by omega, by omega⟩, fun _ => ⟨Or.inl rfl, ⟨by omega, by omega⟩, fun _ => ⟨⟨⟨by omega, by omega⟩, ⟨by omega, by omega⟩⟩, fun _ => ?_, fun q => absurd (show (0 : Int) = 1 from q) (by omega)⟩⟩, fun q => absurd q (by omega)⟩
      unfold gSrcA at hK
      refine ⟨⟨by omega, by omega⟩, fun b1 => ⟨⟨by omega, by omega⟩, fun b2 b3 => ⟨h0, fun e => ?_, fun e => ?_, fun e => ?_, fun e => ?_, fun e => ?_, fun e => ?_⟩⟩⟩
      · rw [if_pos (show a = 0 by omega)] at hK
        exact ⟨⟨by omega, by omega⟩, fun _ => hR _ _ hK⟩
      · rw [if_neg (show ¬ a = 0 by omega), if_pos (show a = 1 by omega)] at hK
        exact ⟨⟨by omega, by omega⟩, fun _ => hR _ _ hK⟩
      · rw [if_neg (show ¬ a = 0 by omega), if_neg (show ¬ a = 1 by omega), if_pos (show a = 2 by omega)] at hK
        exact ⟨⟨by omega, by omega⟩, fun _ => hR _ _ hK⟩
      · rw [if_neg (show ¬ a = 0 by omega), if_neg (show ¬ a = 1 by omega), if_neg (show ¬ a = 2 by omega), if_pos (show a = 3 by omega)] at hK
        exact ⟨⟨by omega, by omega⟩, fun _ => hR _ _ hK⟩
      · rw [if_neg (show ¬ a = 0 by omega), if_neg (show ¬ a = 1 by omega), if_neg (show ¬ a = 2 by omega), if_neg (show ¬ a = 3 by omega), if_pos (show a = 4 by omega)] at hK
        exact ⟨⟨by omega, by omega⟩, fun _ => hR _ _ hK⟩
      · rw [if_neg (show ¬ a = 0 by omega), if_neg (show ¬ a = 1 by omega), if_neg (show ¬ a = 2 by omega), if_neg (show ¬ a = 3 by omega), if_neg (show ¬ a = 4 by omega)] at hK
        refine ⟨b3, fun e2 => ?_, fun e2 => ?_⟩
        · have e2 : 0 ≤ wI (mg s (0 * 2804 + (12 + r)) - mg s (0 * 2804 + 4)) := e2
          rw [if_neg (Int.not_lt.mpr e2)] at hK
          exact hR _ _ hK
        · have e2 : wI (mg s (0 * 2804 + (12 + r)) - mg s (0 * 2804 + 4)) < 0 := e2
          rw [if_pos e2] at hK
          exact hR _ _ hK
    · rw [if_neg (fun z => c2 z.2)] at hK
      refine ⟨⟨by omega, by omega⟩, fun q => absurd rfl q, fun _ => ⟨Or.inr rfl, ⟨by omega, by omega⟩, fun _ => ⟨⟨⟨by omega, by omega⟩, ⟨by omega, by omega⟩⟩, fun q => absurd (show (1 : Int) = 1 from rfl) q, fun _ => hR _ _ hK⟩⟩⟩
  · rw [if_neg (fun z => c z.1)] at hK
    refine ⟨⟨by omega, by omega⟩, fun _ => ⟨Or.inr rfl, ⟨by omega, by omega⟩, fun _ => ⟨⟨⟨by omega, by omega⟩, ⟨by omega, by omega⟩⟩, fun q => absurd (show (1 : Int) = 1 from rfl) q, fun _ => hR _ _ hK⟩⟩, fun q => absurd rfl q⟩
end
-- 63.Mt
section
/-! ===== the model: sessions, messages, finals told ===== -/
-- X3_message: heads []
def tX3_message : Nat → Blk MS := fun pc => bif Nat.blt pc 47 then (bif Nat.blt pc 42 then (bif Nat.beq pc 0 then (oAld 0 <| oI 0 <| oI 7 <| oC3 (cM_X3_of) <| oIst 3 <| oAld 0 <| oIld 1 <| oI2l <| oI 0 <| oIld 3 <| oI 60 <| oSubW <| oMax <| oI2l <| oIld 3 <| oI 1 <| oSubW <| oI2l <| oC3 (cM_X3_in) <| oZEq 42 <| oIld 2 <| oI2l <| oJ 0 <| oJ 5 <| oC3 (cM_X3_in) <| oZNe 46 <| oTo 42) else oNo) else (bif Nat.blt pc 46 then (bif Nat.beq pc 42 then (oI 1 <| oTo 47) else oNo) else (bif Nat.beq pc 46 then (oI 0 <| oTo 47) else oNo))) else (bif Nat.blt pc 97 then (bif Nat.blt pc 63 then (bif Nat.beq pc 47 then (oC1 (cM_X3_flag) <| oPut (fpM) 3 0 <| oAld 0 <| oGet (fgM) 3 0 <| oI 1 <| oCNe 63 <| oI 0 <| oIret) else oNo) else (bif Nat.beq pc 63 then (oAld 0 <| oGet (fgM) 3 7 <| oI 1484 <| oI 6 <| oIld 1 <| oI 60 <| oRemT <| oMul <| oAdd <| oIld 2 <| oAdd <| oIa (agM) <| oIst 4 <| oIld 2 <| oI 5 <| oCNe 97 <| oI 20000 <| oIld 4 <| oAddW <| oTo 99) else oNo)) else (bif Nat.blt pc 99 then (bif Nat.beq pc 97 then (oIld 4 <| oTo 99) else oNo) else (bif Nat.beq pc 99 then (oIret) else oNo)))
theorem tX3_message_ok : ∀ pc, bOk (encM) (bdM) mX3_message 0 0 pc (tX3_message pc) := fun pc => (tNode (tNode (tLeaf (okAldn iX3_message_0 rfl <| okIc iX3_message_1 <| okBi iX3_message_2 (by decide) <| okC3 (qM_X3_of iX3_message_4) <| okIstn iX3_message_7 rfl (by decide) <| okAldn iX3_message_8 rfl <| okIldn iX3_message_9 rfl <| okI2l iX3_message_10 <| okIc iX3_message_11 <| okIldn iX3_message_12 rfl <| okBi iX3_message_13 (by decide) <| okSubW iX3_message_15 <| okMax iX3_message_16 <| okI2l iX3_message_19 <| okIldn iX3_message_20 rfl <| okIc iX3_message_21 <| okSubW iX3_message_22 <| okI2l iX3_message_23 <| okC3 (qM_X3_in iX3_message_24) <| okZEq (tl rfl) iX3_message_27 <| okIldn iX3_message_30 rfl <| okI2l iX3_message_31 <| okLc iX3_message_32 rfl <| okLdc2 (v := 5) iX3_message_33 ((wc_t4 210 rfl rfl)) (by decide) <| okC3 (qM_X3_in iX3_message_36) <| okZNe (tl rfl) iX3_message_39 <| okTo (tl rfl))) (tNode (tLeaf (okIc iX3_message_42 <| okGoto (tl rfl) iX3_message_43)) (tLeaf (okIc iX3_message_46 <| okTo (tl rfl))))) (tNode (tNode (tLeaf (okC1 (qM_X3_flag iX3_message_47) <| okPut (vFpM) iX3_message_50 <| okAldn iX3_message_53 rfl <| okGet (vFgM) iX3_message_54 <| okIc iX3_message_57 <| okCNe (tl rfl) iX3_message_58 <| okIc iX3_message_61 <| okIret iX3_message_62 rfl)) (tLeaf (okAldn iX3_message_63 rfl <| okGet (vFgM) iX3_message_64 <| okSi iX3_message_67 (by decide) <| okBi iX3_message_70 (by decide) <| okIldn iX3_message_72 rfl <| okBi iX3_message_73 (by decide) <| okRemT iX3_message_75 <| okMul iX3_message_76 <| okAdd iX3_message_77 <| okIldn iX3_message_78 rfl <| okAdd iX3_message_79 <| okIa (vAgM) iX3_message_80 <| okIst iX3_message_81 (by decide) <| okIldn iX3_message_83 rfl <| okIc iX3_message_84 <| okCNe (tl rfl) iX3_message_85 <| okSi iX3_message_88 (by decide) <| okIld iX3_message_91 <| okAddW iX3_message_93 <| okGoto (tl rfl) iX3_message_94))) (tNode (tLeaf (okIld iX3_message_97 <| okTo (tl rfl))) (tLeaf (okIret iX3_message_99 rfl))))) pc
-- X3_finals: heads []
def tX3_finals : Nat → Blk MS := fun pc => bif Nat.blt pc 61 then (bif Nat.blt pc 44 then (bif Nat.blt pc 40 then (bif Nat.beq pc 0 then (oAld 0 <| oI 0 <| oC2 (cM_X3_closedMany) <| oIst 3 <| oAld 0 <| oIld 1 <| oI2l <| oI 0 <| oIld 3 <| oI 40 <| oSubW <| oMax <| oI2l <| oIld 3 <| oI 1 <| oSubW <| oI2l <| oC3 (cM_X3_in) <| oZEq 40 <| oIld 2 <| oI2l <| oJ 0 <| oJ 6 <| oC3 (cM_X3_in) <| oZNe 44 <| oTo 40) else oNo) else (bif Nat.beq pc 40 then (oI 1 <| oTo 45) else oNo)) else (bif Nat.blt pc 45 then (bif Nat.beq pc 44 then (oI 0 <| oTo 45) else oNo) else (bif Nat.beq pc 45 then (oC1 (cM_X3_flag) <| oPut (fpM) 3 0 <| oAld 0 <| oGet (fgM) 3 0 <| oI 1 <| oCNe 61 <| oI 0 <| oIret) else oNo))) else (bif Nat.blt pc 107 then (bif Nat.blt pc 94 then (bif Nat.beq pc 61 then (oAld 0 <| oGet (fgM) 3 7 <| oI 84 <| oI 7 <| oIld 1 <| oI 40 <| oRemT <| oMul <| oAdd <| oIld 2 <| oAdd <| oIa (agM) <| oIst 4 <| oIld 2 <| oI 4 <| oCNe 94 <| oI 20000 <| oIld 4 <| oAddW <| oTo 122) else oNo) else (bif Nat.beq pc 94 then (oIld 2 <| oI 5 <| oCNe 107 <| oI 99 <| oIld 4 <| oAddW <| oTo 122) else oNo)) else (bif Nat.blt pc 120 then (bif Nat.beq pc 107 then (oIld 2 <| oI 6 <| oCNe 120 <| oIld 4 <| oI 1 <| oSubW <| oTo 122) else oNo) else (bif Nat.blt pc 122 then (bif Nat.beq pc 120 then (oIld 4 <| oTo 122) else oNo) else (bif Nat.beq pc 122 then (oIret) else oNo))))
theorem tX3_finals_ok : ∀ pc, bOk (encM) (bdM) mX3_finals 0 0 pc (tX3_finals pc) := fun pc => (tNode (tNode (tNode (tLeaf (okAldn iX3_finals_0 rfl <| okIc iX3_finals_1 <| okC2 (qM_X3_closedMany iX3_finals_2) <| okIstn iX3_finals_5 rfl (by decide) <| okAldn iX3_finals_6 rfl <| okIldn iX3_finals_7 rfl <| okI2l iX3_finals_8 <| okIc iX3_finals_9 <| okIldn iX3_finals_10 rfl <| okBi iX3_finals_11 (by decide) <| okSubW iX3_finals_13 <| okMax iX3_finals_14 <| okI2l iX3_finals_17 <| okIldn iX3_finals_18 rfl <| okIc iX3_finals_19 <| okSubW iX3_finals_20 <| okI2l iX3_finals_21 <| okC3 (qM_X3_in iX3_finals_22) <| okZEq (tl rfl) iX3_finals_25 <| okIldn iX3_finals_28 rfl <| okI2l iX3_finals_29 <| okLc iX3_finals_30 rfl <| okLdc2 (v := 6) iX3_finals_31 ((wc_t5 160 rfl rfl)) (by decide) <| okC3 (qM_X3_in iX3_finals_34) <| okZNe (tl rfl) iX3_finals_37 <| okTo (tl rfl))) (tLeaf (okIc iX3_finals_40 <| okGoto (tl rfl) iX3_finals_41))) (tNode (tLeaf (okIc iX3_finals_44 <| okTo (tl rfl))) (tLeaf (okC1 (qM_X3_flag iX3_finals_45) <| okPut (vFpM) iX3_finals_48 <| okAldn iX3_finals_51 rfl <| okGet (vFgM) iX3_finals_52 <| okIc iX3_finals_55 <| okCNe (tl rfl) iX3_finals_56 <| okIc iX3_finals_59 <| okIret iX3_finals_60 rfl)))) (tNode (tNode (tLeaf (okAldn iX3_finals_61 rfl <| okGet (vFgM) iX3_finals_62 <| okBi iX3_finals_65 (by decide) <| okBi iX3_finals_67 (by decide) <| okIldn iX3_finals_69 rfl <| okBi iX3_finals_70 (by decide) <| okRemT iX3_finals_72 <| okMul iX3_finals_73 <| okAdd iX3_finals_74 <| okIldn iX3_finals_75 rfl <| okAdd iX3_finals_76 <| okIa (vAgM) iX3_finals_77 <| okIst iX3_finals_78 (by decide) <| okIldn iX3_finals_80 rfl <| okIc iX3_finals_81 <| okCNe (tl rfl) iX3_finals_82 <| okSi iX3_finals_85 (by decide) <| okIld iX3_finals_88 <| okAddW iX3_finals_90 <| okGoto (tl rfl) iX3_finals_91)) (tLeaf (okIldn iX3_finals_94 rfl <| okIc iX3_finals_95 <| okCNe (tl rfl) iX3_finals_96 <| okBi iX3_finals_99 (by decide) <| okIld iX3_finals_101 <| okAddW iX3_finals_103 <| okGoto (tl rfl) iX3_finals_104))) (tNode (tLeaf (okIldn iX3_finals_107 rfl <| okBi iX3_finals_108 (by decide) <| okCNe (tl rfl) iX3_finals_110 <| okIld iX3_finals_113 <| okIc iX3_finals_115 <| okSubW iX3_finals_116 <| okGoto (tl rfl) iX3_finals_117)) (tNode (tLeaf (okIld iX3_finals_120 <| okTo (tl rfl))) (tLeaf (okIret iX3_finals_122 rfl)))))) pc
def gSesA (s : MS) (i a : Int) : Int := if a = 4 then wI (20000 + mg s ((0 * 2804 + 364 + 7 * i) + 4)) else if a = 5 then wI (99 + mg s ((0 * 2804 + 364 + 7 * i) + 5)) else if a = 6 then (if mRipe s 0 i (mg s (0 * 2804 + 4)) then 1 else 0) else if a = 7 then (if 0 < mg s ((0 * 2804 + 364 + 7 * i) + 6) then 1 else 0) else mg s ((0 * 2804 + 364 + 7 * i) + a)
def gSession (s : MS) (i a : Int) : Int × MS := if inB i 0 (wI (mg s (0 * 2804 + 5) - 1)) ∧ inB a 0 7 then (gSesA s i a, mS s 0 0) else (0, mS s 0 1)
def sX3_session : Int → Int → MS → KM → Prop := fun i a s K => ((xB i ∧ xB a) ∧ 0 ≤ mg s (0 * 2804 + 5) ∧ mg s (0 * 2804 + 5) ≤ 160) ∧ K [pI (gSession s i a).1] (gSession s i a).2
theorem mX3_session_ok : mOk encM bdM mX3_session (atR 0 (a2 sX3_session)) := by
  refine mOVa2 kX3_session (fun _ _ => rfl) (fun i a s K h hb => wx_J [] 12 tX3_session_ok rfl (fun J hR hJ => ?_))
  obtain ⟨⟨⟨h1, h0⟩, h2⟩, hK⟩ := h
  unfold gSession at hK
  have hw : wI (mg s (0 * 2804 + 5) - 1) = mg s (0 * 2804 + 5) - 1 := wI_eq ⟨by omega, by omega⟩
  refine ⟨h1, ⟨by omega, by omega⟩, fun h3 h4 => ⟨h4, ⟨⟨h1, ⟨by omega, by omega⟩, h4⟩, fun c => ?_, fun c => ?_⟩⟩⟩
  · refine ⟨⟨by omega, by omega⟩, fun q => absurd q (by omega), fun _ => ⟨h0, ⟨⟨h0, ⟨by omega, by omega⟩, ⟨by omega, by omega⟩⟩, fun c2 => ?_, fun c2 => ?_⟩⟩⟩
    · rw [if_pos ⟨c, c2⟩] at hK
      refine ⟨⟨by omega, by omega⟩, fun _ => ⟨Or.inl rfl, ⟨by omega, by omega⟩, fun _ => ⟨⟨⟨by omega, by omega⟩, ⟨by omega, by omega⟩⟩, fun _ => ?_, fun q => absurd (show (0 : Int) = 1 from q) (by omega)⟩⟩, fun q => absurd q (by omega)⟩
      rw [hw] at c
      unfold gSesA at hK
      refine ⟨h0, fun e => ?_, fun e => ?_, fun e => ?_, fun e => ?_, fun e => ?_⟩
      · rw [if_pos (show a = 4 by omega)] at hK
        exact ⟨⟨by omega, by omega⟩, fun _ _ => hR _ _ hK⟩
      · rw [if_neg (show ¬ a = 4 by omega), if_pos (show a = 5 by omega)] at hK
        exact ⟨⟨by omega, by omega⟩, fun _ _ => hR _ _ hK⟩
      · rw [if_neg (show ¬ a = 4 by omega), if_neg (show ¬ a = 5 by omega), if_pos (show a = 6 by omega)] at hK
        refine ⟨⟨by omega, by omega⟩, fun hp => ⟨⟨⟨by omega, by omega⟩, ⟨by omega, by omega⟩, hp⟩, fun r => ?_, fun r => ?_⟩⟩
        · have r : mRipe s 0 i (mg s (0 * 2804 + 4)) := r
          rw [if_pos r] at hK
          exact ⟨Or.inr rfl, hR _ _ hK⟩
        · have r : ¬ mRipe s 0 i (mg s (0 * 2804 + 4)) := r
          rw [if_neg r] at hK
          exact ⟨Or.inl rfl, hR _ _ hK⟩
      · rw [if_neg (show ¬ a = 4 by omega), if_neg (show ¬ a = 5 by omega), if_neg (show ¬ a = 6 by omega), if_pos (show a = 7 by omega)] at hK
        refine ⟨⟨by omega, by omega⟩, fun hp => ⟨hp, fun r => ?_, fun r => ?_⟩⟩
        · have r : mg s ((0 * 2804 + 364 + 7 * i) + 6) ≤ 0 := r
          rw [if_neg (Int.not_lt.mpr r)] at hK
          exact ⟨Or.inl rfl, hR _ _ hK⟩
        · have r : 0 < mg s ((0 * 2804 + 364 + 7 * i) + 6) := r
          rw [if_pos r] at hK
          exact ⟨Or.inr rfl, hR _ _ hK⟩
      · rw [if_neg (show ¬ a = 4 by omega), if_neg (show ¬ a = 5 by omega), if_neg (show ¬ a = 6 by omega), if_neg (show ¬ a = 7 by omega)] at hK
        exact ⟨⟨by omega, by omega⟩, fun _ => hR _ _ hK⟩
    · rw [if_neg (fun z => c2 z.2)] at hK
      refine ⟨⟨by omega, by omega⟩, fun q => absurd rfl q, fun _ => ⟨Or.inr rfl, ⟨by omega, by omega⟩, fun _ => ⟨⟨⟨by omega, by omega⟩, ⟨by omega, by omega⟩⟩, fun q => absurd (show (1 : Int) = 1 from rfl) q, fun _ => hR _ _ hK⟩⟩⟩
  · rw [if_neg (fun z => c z.1)] at hK
    refine ⟨⟨by omega, by omega⟩, fun _ => ⟨Or.inr rfl, ⟨by omega, by omega⟩, fun _ => ⟨⟨⟨by omega, by omega⟩, ⟨by omega, by omega⟩⟩, fun q => absurd (show (1 : Int) = 1 from rfl) q, fun _ => hR _ _ hK⟩⟩, fun q => absurd rfl q⟩

def gMsgA (s : MS) (i a : Int) : Int := if a = 5 then wI (20000 + mg s (1484 + 6 * Int.tmod i 60 + a)) else mg s (1484 + 6 * Int.tmod i 60 + a)
def gMessage (s : MS) (i a : Int) : Int × MS := if inB i (max 0 (wI (mg s (0 * 2804 + 7) - 60))) (wI (mg s (0 * 2804 + 7) - 1)) ∧ inB a 0 5 then (gMsgA s i a, mS s 0 0) else (0, mS s 0 1)
def sX3_message : Int → Int → MS → KM → Prop := fun i a s K => (xB i ∧ xB a) ∧ K [pI (gMessage s i a).1] (gMessage s i a).2
theorem mX3_message_ok : mOk encM bdM mX3_message (atR 0 (a2 sX3_message)) := by
  refine mOVa2 kX3_message (fun _ _ => rfl) (fun i a s K h hb => wx_J [] 12 tX3_message_ok rfl (fun J hR hJ => ?_))
  obtain ⟨⟨h1, h0⟩, hK⟩ := h
  unfold gMessage at hK
  refine ⟨⟨by omega, by omega⟩, fun h3 => ⟨h1, fun h4 => ⟨⟨⟨by omega, by omega⟩, h4⟩, ⟨max_B (a := 0) ⟨by omega, by omega⟩ h4, fun h5 => ⟨h5, ⟨⟨h1, max_B (a := 0) ⟨by omega, by omega⟩ h4, h5⟩, fun c => ?_, fun c => ?_⟩⟩⟩⟩⟩⟩
  · refine ⟨⟨by omega, by omega⟩, fun q => absurd q (by omega), fun _ => ⟨h0, ⟨⟨h0, ⟨by omega, by omega⟩, ⟨by omega, by omega⟩⟩, fun c2 => ?_, fun c2 => ?_⟩⟩⟩
    · rw [if_pos ⟨c, c2⟩] at hK
      refine ⟨⟨by omega, by omega⟩, fun _ => ⟨Or.inl rfl, ⟨by omega, by omega⟩, fun _ => ⟨⟨⟨by omega, by omega⟩, ⟨by omega, by omega⟩⟩, fun _ => ?_, fun q => absurd (show (0 : Int) = 1 from q) (by omega)⟩⟩, fun q => absurd q (by omega)⟩
      unfold gMsgA at hK
      have t1 := Int.tmod_lt_of_pos i (b := 60) (by omega)
      have t2 := Int.lt_tmod_of_pos i (b := 60) (by omega)
      refine ⟨⟨by omega, h1, ⟨by omega, by omega⟩⟩, ⟨by omega, by omega⟩, fun _ => ⟨⟨h0, ⟨by omega, by omega⟩⟩, fun e => ?_, fun e => ?_⟩⟩
      · rw [if_neg e] at hK
        exact hR _ _ hK
      · rw [if_pos e] at hK
        exact fun _ => hR _ _ hK
    · rw [if_neg (fun z => c2 z.2)] at hK
      refine ⟨⟨by omega, by omega⟩, fun q => absurd rfl q, fun _ => ⟨Or.inr rfl, ⟨by omega, by omega⟩, fun _ => ⟨⟨⟨by omega, by omega⟩, ⟨by omega, by omega⟩⟩, fun q => absurd (show (1 : Int) = 1 from rfl) q, fun _ => hR _ _ hK⟩⟩⟩
  · rw [if_neg (fun z => c z.1)] at hK
    refine ⟨⟨by omega, by omega⟩, fun _ => ⟨Or.inr rfl, ⟨by omega, by omega⟩, fun _ => ⟨⟨⟨by omega, by omega⟩, ⟨by omega, by omega⟩⟩, fun q => absurd (show (1 : Int) = 1 from rfl) q, fun _ => hR _ _ hK⟩⟩, fun q => absurd rfl q⟩

def gFinA (s : MS) (i a : Int) : Int := if a = 4 then wI (20000 + mg s (84 + 7 * Int.tmod i 40 + a)) else if a = 5 then wI (99 + mg s (84 + 7 * Int.tmod i 40 + a)) else if a = 6 then wI (mg s (84 + 7 * Int.tmod i 40 + a) - 1) else mg s (84 + 7 * Int.tmod i 40 + a)
def gFinals (s : MS) (i a : Int) : Int × MS := if inB i (max 0 (wI (mClosed s 0 - 40))) (wI (mClosed s 0 - 1)) ∧ inB a 0 6 then (gFinA s i a, mS s 0 0) else (0, mS s 0 1)
def sX3_finals : Int → Int → MS → KM → Prop := fun i a s K => (xB i ∧ xB a) ∧ K [pI (gFinals s i a).1] (gFinals s i a).2
theorem mX3_finals_ok : mOk encM bdM mX3_finals (atR 0 (a2 sX3_finals)) := by
  refine mOVa2 kX3_finals (fun _ _ => rfl) (fun i a s K h hb => wx_J [] 14 tX3_finals_ok rfl (fun J hR hJ => ?_))
  obtain ⟨⟨h1, h0⟩, hK⟩ := h
  unfold gFinals at hK
  refine ⟨⟨by omega, by omega⟩, fun h3 => ⟨h1, fun h4 => ⟨⟨⟨by omega, by omega⟩, h4⟩, ⟨max_B (a := 0) ⟨by omega, by omega⟩ h4, fun h5 => ⟨h5, ⟨⟨h1, max_B (a := 0) ⟨by omega, by omega⟩ h4, h5⟩, fun c => ?_, fun c => ?_⟩⟩⟩⟩⟩⟩
  · refine ⟨⟨by omega, by omega⟩, fun q => absurd q (by omega), fun _ => ⟨h0, ⟨⟨h0, ⟨by omega, by omega⟩, ⟨by omega, by omega⟩⟩, fun c2 => ?_, fun c2 => ?_⟩⟩⟩
    · rw [if_pos ⟨c, c2⟩] at hK
      refine ⟨⟨by omega, by omega⟩, fun _ => ⟨Or.inl rfl, ⟨by omega, by omega⟩, fun _ => ⟨⟨⟨by omega, by omega⟩, ⟨by omega, by omega⟩⟩, fun _ => ?_, fun q => absurd (show (0 : Int) = 1 from q) (by omega)⟩⟩, fun q => absurd q (by omega)⟩
      unfold gFinA at hK
      have t1 := Int.tmod_lt_of_pos i (b := 40) (by omega)
      have t2 := Int.lt_tmod_of_pos i (b := 40) (by omega)
      have hi0 : 0 ≤ i := by omega
      have t3 := Int.tmod_nonneg (a := i) 40 hi0
      refine ⟨⟨by omega, h1, ⟨by omega, by omega⟩⟩, ⟨by omega, by omega⟩, fun _ => ⟨⟨h0, ⟨by omega, by omega⟩⟩, fun e => ?_, fun e => ?_⟩⟩
      · rw [if_neg e] at hK
        refine ⟨⟨h0, ⟨by omega, by omega⟩⟩, fun e2 => ?_, fun e2 => ?_⟩
        · rw [if_neg e2] at hK
          refine ⟨⟨h0, ⟨by omega, by omega⟩⟩, fun e3 => ?_, fun e3 => ?_⟩
          · rw [if_neg e3] at hK
            exact hR _ _ hK
          · rw [if_pos e3] at hK
            exact fun _ => hR _ _ hK
        · rw [if_pos e2] at hK
          exact fun _ => hR _ _ hK
      · rw [if_pos e] at hK
        exact fun _ => hR _ _ hK
    · rw [if_neg (fun z => c2 z.2)] at hK
      refine ⟨⟨by omega, by omega⟩, fun q => absurd rfl q, fun _ => ⟨Or.inr rfl, ⟨by omega, by omega⟩, fun _ => ⟨⟨⟨by omega, by omega⟩, ⟨by omega, by omega⟩⟩, fun q => absurd (show (1 : Int) = 1 from rfl) q, fun _ => hR _ _ hK⟩⟩⟩
  · rw [if_neg (fun z => c z.1)] at hK
    refine ⟨⟨by omega, by omega⟩, fun _ => ⟨Or.inr rfl, ⟨by omega, by omega⟩, fun _ => ⟨⟨⟨by omega, by omega⟩, ⟨by omega, by omega⟩⟩, fun q => absurd (show (1 : Int) = 1 from rfl) q, fun _ => hR _ _ hK⟩⟩, fun q => absurd rfl q⟩
end
-- 64.Mu
section
/-! ===== the model: its face, questions with loops ===== -/
-- X3_at: heads [46]
def tX3_at : Nat → Blk MS := fun pc => bif Nat.blt pc 46 then (bif Nat.blt pc 29 then (bif Nat.beq pc 0 then (oAld 0 <| oI 0 <| oPut (fpM) 3 0 <| oIld 1 <| oI2l <| oJ 0 <| oJ 5 <| oC3 (cM_X3_in) <| oZEq 29 <| oIld 2 <| oI2l <| oJ 0 <| oJ 9999 <| oC3 (cM_X3_in) <| oZNe 31 <| oTo 29) else oNo) else (bif Nat.blt pc 31 then (bif Nat.beq pc 29 then (oI (-1) <| oIret) else oNo) else (bif Nat.beq pc 31 then (oI (-1) <| oIst 3 <| oI 0 <| oIst 4 <| oAld 0 <| oI 0 <| oI 5 <| oC3 (cM_X3_of) <| oI 1 <| oSub <| oIst 5 <| oM [true, true, true, true, true, true] (oTo 46)) else oNo))) else (bif Nat.blt pc 75 then (bif Nat.blt pc 69 then (bif Nat.beq pc 46 then (oIld 5 <| oZLt 75 <| oAld 0 <| oI 0 <| oIld 5 <| oIld 1 <| oIld 2 <| oC5 (cM_X3_melts) <| oZEq 69 <| oIld 5 <| oIst 3 <| oInc 4 1 <| oTo 69) else oNo) else (bif Nat.beq pc 69 then (oInc 5 (-1) <| oM [true, true, true, true, true, true] (oTo 46)) else oNo)) else (bif Nat.blt pc 83 then (bif Nat.beq pc 75 then (oIld 4 <| oZNe 83 <| oI (-2) <| oIret) else oNo) else (bif Nat.beq pc 83 then (oAld 0 <| oI 0 <| oPut (fpM) 3 1 <| oAld 0 <| oIld 4 <| oI2l <| oC2 (cM_X3_enters) <| oIld 3 <| oIret) else oNo)))
theorem tX3_at_ok : ∀ pc, bOk (encM) (bdM) mX3_at 0 0 pc (tX3_at pc) := fun pc => (tNode (tNode (tLeaf (okAldn iX3_at_0 rfl <| okIc iX3_at_1 <| okPut (vFpM) iX3_at_2 <| okIldn iX3_at_5 rfl <| okI2l iX3_at_6 <| okLc iX3_at_7 rfl <| okLdc2 (v := 5) iX3_at_8 ((wc_t4 210 rfl rfl)) (by decide) <| okC3 (qM_X3_in iX3_at_11) <| okZEq (tl rfl) iX3_at_14 <| okIldn iX3_at_17 rfl <| okI2l iX3_at_18 <| okLc iX3_at_19 rfl <| okLdc2 (v := 9999) iX3_at_20 ((wc_t4 211 rfl rfl)) (by decide) <| okC3 (qM_X3_in iX3_at_23) <| okZNe (tl rfl) iX3_at_26 <| okTo (tl rfl))) (tNode (tLeaf (okIc iX3_at_29 <| okIret iX3_at_30 rfl)) (tLeaf (okIc iX3_at_31 <| okIstn iX3_at_32 rfl (by decide) <| okIc iX3_at_33 <| okIst iX3_at_34 (by decide) <| okAldn iX3_at_36 rfl <| okIc iX3_at_37 <| okIc iX3_at_38 <| okC3 (qM_X3_of iX3_at_39) <| okIc iX3_at_42 <| okSub iX3_at_43 <| okIst iX3_at_44 (by decide) <| okM (okTo (tl rfl)))))) (tNode (tNode (tLeaf (okIld iX3_at_46 <| okZLt (tl rfl) iX3_at_48 <| okAldn iX3_at_51 rfl <| okIc iX3_at_52 <| okIld iX3_at_53 <| okIldn iX3_at_55 rfl <| okIldn iX3_at_56 rfl <| okC5 (qM_X3_melts iX3_at_57) <| okZEq (tl rfl) iX3_at_60 <| okIld iX3_at_63 <| okIstn iX3_at_65 rfl (by decide) <| okInc iX3_at_66 (by decide) <| okTo (tl rfl))) (tLeaf (okInc iX3_at_69 (by decide) <| okGotoM (tl rfl) iX3_at_72))) (tNode (tLeaf (okIld iX3_at_75 <| okZNe (tl rfl) iX3_at_77 <| okBi iX3_at_80 (by decide) <| okIret iX3_at_82 rfl)) (tLeaf (okAldn iX3_at_83 rfl <| okIc iX3_at_84 <| okPut (vFpM) iX3_at_85 <| okAldn iX3_at_88 rfl <| okIld iX3_at_89 <| okI2l iX3_at_91 <| okC2 (qM_X3_enters iX3_at_92) <| okIldn iX3_at_95 rfl <| okIret iX3_at_96 rfl))))) pc
-- X3_stands: heads [14, 69]
def tX3_stands : Nat → Blk MS := fun pc => bif Nat.blt pc 69 then (bif Nat.blt pc 14 then (bif Nat.beq pc 0 then (oAld 0 <| oI 0 <| oPut (fpM) 3 0 <| oI 0 <| oIst 1 <| oI 0 <| oIst 2 <| oI 0 <| oIst 3 <| oI 0 <| oIst 4 <| oM [true, true, true, true, true] (oTo 14)) else oNo) else (bif Nat.blt pc 66 then (bif Nat.beq pc 14 then (oIld 4 <| oI 6 <| oCGe 66 <| oIld 1 <| oAld 0 <| oI 0 <| oI 36 <| oIld 4 <| oAdd <| oC3 (cM_X3_of) <| oAddW <| oIst 1 <| oIld 2 <| oAld 0 <| oI 0 <| oI 42 <| oIld 4 <| oAdd <| oC3 (cM_X3_of) <| oAddW <| oIst 2 <| oIld 3 <| oAld 0 <| oI 0 <| oI 48 <| oIld 4 <| oAdd <| oC3 (cM_X3_of) <| oAddW <| oIst 3 <| oInc 4 1 <| oM [true, true, true, true, true] (oTo 14)) else oNo) else (bif Nat.beq pc 66 then (oI 0 <| oIst 4 <| oM [true, true, true, true, true] (oTo 69)) else oNo))) else (bif Nat.blt pc 117 then (bif Nat.beq pc 69 then (oIld 4 <| oAld 0 <| oI 0 <| oI 5 <| oC3 (cM_X3_of) <| oCGe 123 <| oAld 0 <| oI 0 <| oIld 4 <| oI 6 <| oC4 (cM_X3_ofSession) <| oZLe 117 <| oIncW 1 1 <| oIld 2 <| oAld 0 <| oI 0 <| oIld 4 <| oI 3 <| oC4 (cM_X3_ofSession) <| oAddW <| oIst 2 <| oIld 3 <| oAld 0 <| oI 0 <| oIld 4 <| oI 4 <| oC4 (cM_X3_ofSession) <| oAddW <| oIst 3 <| oTo 117) else oNo) else (bif Nat.blt pc 123 then (bif Nat.beq pc 117 then (oInc 4 1 <| oM [true, true, true, true, true] (oTo 69)) else oNo) else (bif Nat.beq pc 123 then (oAld 0 <| oI 0 <| oPut (fpM) 3 1 <| oAld 0 <| oIld 2 <| oI2l <| oC2 (cM_X3_enters) <| oAld 0 <| oIld 3 <| oI2l <| oC2 (cM_X3_enters) <| oIld 1 <| oIret) else oNo)))
theorem tX3_stands_ok : ∀ pc, bOk (encM) (bdM) mX3_stands 0 0 pc (tX3_stands pc) := fun pc => (tNode (tNode (tLeaf (okAldn iX3_stands_0 rfl <| okIc iX3_stands_1 <| okPut (vFpM) iX3_stands_2 <| okIc iX3_stands_5 <| okIstn iX3_stands_6 rfl (by decide) <| okIc iX3_stands_7 <| okIstn iX3_stands_8 rfl (by decide) <| okIc iX3_stands_9 <| okIstn iX3_stands_10 rfl (by decide) <| okIc iX3_stands_11 <| okIst iX3_stands_12 (by decide) <| okM (okTo (tl rfl)))) (tNode (tLeaf (okIld iX3_stands_14 <| okBi iX3_stands_16 (by decide) <| okCGe (tl rfl) iX3_stands_18 <| okIldn iX3_stands_21 rfl <| okAldn iX3_stands_22 rfl <| okIc iX3_stands_23 <| okBi iX3_stands_24 (by decide) <| okIld iX3_stands_26 <| okAdd iX3_stands_28 <| okC3 (qM_X3_of iX3_stands_29) <| okAddW iX3_stands_32 <| okIstn iX3_stands_33 rfl (by decide) <| okIldn iX3_stands_34 rfl <| okAldn iX3_stands_35 rfl <| okIc iX3_stands_36 <| okBi iX3_stands_37 (by decide) <| okIld iX3_stands_39 <| okAdd iX3_stands_41 <| okC3 (qM_X3_of iX3_stands_42) <| okAddW iX3_stands_45 <| okIstn iX3_stands_46 rfl (by decide) <| okIldn iX3_stands_47 rfl <| okAldn iX3_stands_48 rfl <| okIc iX3_stands_49 <| okBi iX3_stands_50 (by decide) <| okIld iX3_stands_52 <| okAdd iX3_stands_54 <| okC3 (qM_X3_of iX3_stands_55) <| okAddW iX3_stands_58 <| okIstn iX3_stands_59 rfl (by decide) <| okInc iX3_stands_60 (by decide) <| okGotoM (tl rfl) iX3_stands_63)) (tLeaf (okIc iX3_stands_66 <| okIst iX3_stands_67 (by decide) <| okM (okTo (tl rfl)))))) (tNode (tLeaf (okIld iX3_stands_69 <| okAldn iX3_stands_71 rfl <| okIc iX3_stands_72 <| okIc iX3_stands_73 <| okC3 (qM_X3_of iX3_stands_74) <| okCGe (tl rfl) iX3_stands_77 <| okAldn iX3_stands_80 rfl <| okIc iX3_stands_81 <| okIld iX3_stands_82 <| okBi iX3_stands_84 (by decide) <| okC4 (qM_X3_ofSession iX3_stands_86) <| okZLe (tl rfl) iX3_stands_89 <| okIncW iX3_stands_92 (by decide) <| okIldn iX3_stands_95 rfl <| okAldn iX3_stands_96 rfl <| okIc iX3_stands_97 <| okIld iX3_stands_98 <| okIc iX3_stands_100 <| okC4 (qM_X3_ofSession iX3_stands_101) <| okAddW iX3_stands_104 <| okIstn iX3_stands_105 rfl (by decide) <| okIldn iX3_stands_106 rfl <| okAldn iX3_stands_107 rfl <| okIc iX3_stands_108 <| okIld iX3_stands_109 <| okIc iX3_stands_111 <| okC4 (qM_X3_ofSession iX3_stands_112) <| okAddW iX3_stands_115 <| okIstn iX3_stands_116 rfl (by decide) <| okTo (tl rfl))) (tNode (tLeaf (okInc iX3_stands_117 (by decide) <| okGotoM (tl rfl) iX3_stands_120)) (tLeaf (okAldn iX3_stands_123 rfl <| okIc iX3_stands_124 <| okPut (vFpM) iX3_stands_125 <| okAldn iX3_stands_128 rfl <| okIldn iX3_stands_129 rfl <| okI2l iX3_stands_130 <| okC2 (qM_X3_enters iX3_stands_131) <| okAldn iX3_stands_134 rfl <| okIldn iX3_stands_135 rfl <| okI2l iX3_stands_136 <| okC2 (qM_X3_enters iX3_stands_137) <| okIldn iX3_stands_140 rfl <| okIret iX3_stands_141 rfl))))) pc
-- X3_kinds: heads [26]
def tX3_kinds : Nat → Blk MS := fun pc => bif Nat.blt pc 73 then (bif Nat.blt pc 14 then (bif Nat.beq pc 0 then (oAld 0 <| oI 0 <| oPut (fpM) 3 0 <| oIld 1 <| oC1 (cM_X3_isKey) <| oZNe 14 <| oI (-1) <| oIret) else oNo) else (bif Nat.blt pc 26 then (bif Nat.beq pc 14 then (oI 0 <| oIst 2 <| oI 0 <| oIst 3 <| oAld 0 <| oI 0 <| oPut (fpM) 3 1 <| oI 0 <| oIst 4 <| oM [true, true, true, true, true, false] (oTo 26)) else oNo) else (bif Nat.beq pc 26 then (oIld 4 <| oI 4 <| oCGe 83 <| oAld 0 <| oI 0 <| oI 60 <| oI 4 <| oIld 1 <| oMul <| oAdd <| oIld 4 <| oAdd <| oC3 (cM_X3_of) <| oIst 5 <| oAld 0 <| oIld 5 <| oI2l <| oC2 (cM_X3_enters) <| oIld 2 <| oIld 5 <| oAddW <| oIst 2 <| oIld 3 <| oIld 4 <| oI 3 <| oCNe 73 <| oIld 5 <| oNegW <| oTo 75) else oNo))) else (bif Nat.blt pc 75 then (bif Nat.beq pc 73 then (oIld 5 <| oTo 75) else oNo) else (bif Nat.blt pc 83 then (bif Nat.beq pc 75 then (oAddW <| oIst 3 <| oInc 4 1 <| oM [true, true, true, true, true, false] (oTo 26)) else oNo) else (bif Nat.beq pc 83 then (oAld 0 <| oIld 3 <| oI2l <| oC2 (cM_X3_enters) <| oIld 2 <| oIret) else oNo)))
theorem tX3_kinds_ok : ∀ pc, bOk (encM) (bdM) mX3_kinds 0 0 pc (tX3_kinds pc) := fun pc => (tNode (tNode (tLeaf (okAldn iX3_kinds_0 rfl <| okIc iX3_kinds_1 <| okPut (vFpM) iX3_kinds_2 <| okIldn iX3_kinds_5 rfl <| okC1 (qM_X3_isKey iX3_kinds_6) <| okZNe (tl rfl) iX3_kinds_9 <| okIc iX3_kinds_12 <| okIret iX3_kinds_13 rfl)) (tNode (tLeaf (okIc iX3_kinds_14 <| okIstn iX3_kinds_15 rfl (by decide) <| okIc iX3_kinds_16 <| okIstn iX3_kinds_17 rfl (by decide) <| okAldn iX3_kinds_18 rfl <| okIc iX3_kinds_19 <| okPut (vFpM) iX3_kinds_20 <| okIc iX3_kinds_23 <| okIst iX3_kinds_24 (by decide) <| okM (okTo (tl rfl)))) (tLeaf (okIld iX3_kinds_26 <| okIc iX3_kinds_28 <| okCGe (tl rfl) iX3_kinds_29 <| okAldn iX3_kinds_32 rfl <| okIc iX3_kinds_33 <| okBi iX3_kinds_34 (by decide) <| okIc iX3_kinds_36 <| okIldn iX3_kinds_37 rfl <| okMul iX3_kinds_38 <| okAdd iX3_kinds_39 <| okIld iX3_kinds_40 <| okAdd iX3_kinds_42 <| okC3 (qM_X3_of iX3_kinds_43) <| okIst iX3_kinds_46 (by decide) <| okAldn iX3_kinds_48 rfl <| okIld iX3_kinds_49 <| okI2l iX3_kinds_51 <| okC2 (qM_X3_enters iX3_kinds_52) <| okIldn iX3_kinds_55 rfl <| okIld iX3_kinds_56 <| okAddW iX3_kinds_58 <| okIstn iX3_kinds_59 rfl (by decide) <| okIldn iX3_kinds_60 rfl <| okIld iX3_kinds_61 <| okIc iX3_kinds_63 <| okCNe (tl rfl) iX3_kinds_64 <| okIld iX3_kinds_67 <| okNegW iX3_kinds_69 <| okGoto (tl rfl) iX3_kinds_70)))) (tNode (tLeaf (okIld iX3_kinds_73 <| okTo (tl rfl))) (tNode (tLeaf (okAddW iX3_kinds_75 <| okIstn iX3_kinds_76 rfl (by decide) <| okInc iX3_kinds_77 (by decide) <| okGotoM (tl rfl) iX3_kinds_80)) (tLeaf (okAldn iX3_kinds_83 rfl <| okIldn iX3_kinds_84 rfl <| okI2l iX3_kinds_85 <| okC2 (qM_X3_enters iX3_kinds_86) <| okIldn iX3_kinds_89 rfl <| okIret iX3_kinds_90 rfl))))) pc
-- X3_holds: heads [18]
def tX3_holds : Nat → Blk MS := fun pc => bif Nat.blt pc 61 then (bif Nat.blt pc 18 then (bif Nat.beq pc 0 then (oAld 0 <| oI 0 <| oPut (fpM) 3 0 <| oAld 0 <| oI 0 <| oC2 (cM_X3_leastMark) <| oIst 1 <| oI 0 <| oIst 2 <| oI 0 <| oIst 3 <| oI 0 <| oIst 4 <| oM [true, true, true, true, true] (oTo 18)) else oNo) else (bif Nat.beq pc 18 then (oIld 4 <| oAld 0 <| oI 0 <| oI 0 <| oC3 (cM_X3_of) <| oCGe 91 <| oIld 2 <| oAld 0 <| oI 0 <| oI 20 <| oIld 4 <| oAdd <| oC3 (cM_X3_of) <| oZNe 61 <| oAld 0 <| oI 0 <| oI 12 <| oIld 4 <| oAdd <| oC3 (cM_X3_of) <| oIld 1 <| oCNe 61 <| oI 1 <| oTo 62) else oNo)) else (bif Nat.blt pc 62 then (bif Nat.beq pc 61 then (oI 0 <| oTo 62) else oNo) else (bif Nat.blt pc 91 then (bif Nat.beq pc 62 then (oC1 (cM_X3_flag) <| oIld 4 <| oShl <| oOr <| oIst 2 <| oIld 3 <| oAld 0 <| oI 0 <| oI 12 <| oIld 4 <| oAdd <| oC3 (cM_X3_of) <| oMax <| oIst 3 <| oInc 4 1 <| oM [true, true, true, true, true] (oTo 18)) else oNo) else (bif Nat.beq pc 91 then (oAld 0 <| oI 0 <| oPut (fpM) 3 1 <| oAld 0 <| oIld 1 <| oI2l <| oC2 (cM_X3_enters) <| oAld 0 <| oIld 3 <| oAld 0 <| oI 0 <| oI 4 <| oC3 (cM_X3_of) <| oSubW <| oI2l <| oC2 (cM_X3_enters) <| oIld 2 <| oIret) else oNo)))
theorem tX3_holds_ok : ∀ pc, bOk (encM) (bdM) mX3_holds 0 0 pc (tX3_holds pc) := fun pc => (tNode (tNode (tLeaf (okAldn iX3_holds_0 rfl <| okIc iX3_holds_1 <| okPut (vFpM) iX3_holds_2 <| okAldn iX3_holds_5 rfl <| okIc iX3_holds_6 <| okC2 (qM_X3_leastMark iX3_holds_7) <| okIstn iX3_holds_10 rfl (by decide) <| okIc iX3_holds_11 <| okIstn iX3_holds_12 rfl (by decide) <| okIc iX3_holds_13 <| okIstn iX3_holds_14 rfl (by decide) <| okIc iX3_holds_15 <| okIst iX3_holds_16 (by decide) <| okM (okTo (tl rfl)))) (tLeaf (okIld iX3_holds_18 <| okAldn iX3_holds_20 rfl <| okIc iX3_holds_21 <| okIc iX3_holds_22 <| okC3 (qM_X3_of iX3_holds_23) <| okCGe (tl rfl) iX3_holds_26 <| okIldn iX3_holds_29 rfl <| okAldn iX3_holds_30 rfl <| okIc iX3_holds_31 <| okBi iX3_holds_32 (by decide) <| okIld iX3_holds_34 <| okAdd iX3_holds_36 <| okC3 (qM_X3_of iX3_holds_37) <| okZNe (tl rfl) iX3_holds_40 <| okAldn iX3_holds_43 rfl <| okIc iX3_holds_44 <| okBi iX3_holds_45 (by decide) <| okIld iX3_holds_47 <| okAdd iX3_holds_49 <| okC3 (qM_X3_of iX3_holds_50) <| okIldn iX3_holds_53 rfl <| okCNe (tl rfl) iX3_holds_54 <| okIc iX3_holds_57 <| okGoto (tl rfl) iX3_holds_58))) (tNode (tLeaf (okIc iX3_holds_61 <| okTo (tl rfl))) (tNode (tLeaf (okC1 (qM_X3_flag iX3_holds_62) <| okIld iX3_holds_65 <| okShl iX3_holds_67 <| okOr iX3_holds_68 <| okIstn iX3_holds_69 rfl (by decide) <| okIldn iX3_holds_70 rfl <| okAldn iX3_holds_71 rfl <| okIc iX3_holds_72 <| okBi iX3_holds_73 (by decide) <| okIld iX3_holds_75 <| okAdd iX3_holds_77 <| okC3 (qM_X3_of iX3_holds_78) <| okMax iX3_holds_81 <| okIstn iX3_holds_84 rfl (by decide) <| okInc iX3_holds_85 (by decide) <| okGotoM (tl rfl) iX3_holds_88)) (tLeaf (okAldn iX3_holds_91 rfl <| okIc iX3_holds_92 <| okPut (vFpM) iX3_holds_93 <| okAldn iX3_holds_96 rfl <| okIldn iX3_holds_97 rfl <| okI2l iX3_holds_98 <| okC2 (qM_X3_enters iX3_holds_99) <| okAldn iX3_holds_102 rfl <| okIldn iX3_holds_103 rfl <| okAldn iX3_holds_104 rfl <| okIc iX3_holds_105 <| okIc iX3_holds_106 <| okC3 (qM_X3_of iX3_holds_107) <| okSubW iX3_holds_110 <| okI2l iX3_holds_111 <| okC2 (qM_X3_enters iX3_holds_112) <| okIldn iX3_holds_115 rfl <| okIret iX3_holds_116 rfl))))) pc
-- X3_next: heads [9]
def tX3_next : Nat → Blk MS := fun pc => bif Nat.blt pc 65 then (bif Nat.blt pc 38 then (bif Nat.blt pc 9 then (bif Nat.beq pc 0 then (oAld 0 <| oI 0 <| oPut (fpM) 3 0 <| oI (-1) <| oIst 1 <| oI 0 <| oIst 2 <| oM [true, true, true, false] (oTo 9)) else oNo) else (bif Nat.beq pc 9 then (oIld 2 <| oAld 0 <| oI 0 <| oI 5 <| oC3 (cM_X3_of) <| oCGe 73 <| oAld 0 <| oI 0 <| oIld 2 <| oAld 0 <| oI 0 <| oI 4 <| oC3 (cM_X3_of) <| oC4 (cM_X3_isRipeBy) <| oZNe 38 <| oI 1 <| oTo 39) else oNo)) else (bif Nat.blt pc 39 then (bif Nat.beq pc 38 then (oI 0 <| oTo 39) else oNo) else (bif Nat.beq pc 39 then (oIst 3 <| oIld 3 <| oZEq 67 <| oIld 1 <| oZLt 65 <| oAld 0 <| oI 0 <| oIld 2 <| oI 2 <| oC4 (cM_X3_ofSession) <| oAld 0 <| oI 0 <| oIld 1 <| oI 2 <| oC4 (cM_X3_ofSession) <| oCGe 67 <| oTo 65) else oNo))) else (bif Nat.blt pc 73 then (bif Nat.blt pc 67 then (bif Nat.beq pc 65 then (oIld 2 <| oIst 1 <| oTo 67) else oNo) else (bif Nat.beq pc 67 then (oInc 2 1 <| oM [true, true, true, false] (oTo 9)) else oNo)) else (bif Nat.blt pc 80 then (bif Nat.beq pc 73 then (oIld 1 <| oZGe 80 <| oI (-2) <| oIret) else oNo) else (bif Nat.beq pc 80 then (oAld 0 <| oI 0 <| oPut (fpM) 3 1 <| oAld 0 <| oAld 0 <| oI 0 <| oIld 1 <| oI 2 <| oC4 (cM_X3_ofSession) <| oAld 0 <| oI 0 <| oI 1 <| oC3 (cM_X3_of) <| oAddW <| oI 1 <| oAddW <| oAld 0 <| oI 0 <| oI 4 <| oC3 (cM_X3_of) <| oSubW <| oI2l <| oC2 (cM_X3_enters) <| oIld 1 <| oIret) else oNo)))
theorem tX3_next_ok : ∀ pc, bOk (encM) (bdM) mX3_next 0 0 pc (tX3_next pc) := fun pc => (tNode (tNode (tNode (tLeaf (okAldn iX3_next_0 rfl <| okIc iX3_next_1 <| okPut (vFpM) iX3_next_2 <| okIc iX3_next_5 <| okIstn iX3_next_6 rfl (by decide) <| okIc iX3_next_7 <| okIstn iX3_next_8 rfl (by decide) <| okM (okTo (tl rfl)))) (tLeaf (okIldn iX3_next_9 rfl <| okAldn iX3_next_10 rfl <| okIc iX3_next_11 <| okIc iX3_next_12 <| okC3 (qM_X3_of iX3_next_13) <| okCGe (tl rfl) iX3_next_16 <| okAldn iX3_next_19 rfl <| okIc iX3_next_20 <| okIldn iX3_next_21 rfl <| okAldn iX3_next_22 rfl <| okIc iX3_next_23 <| okIc iX3_next_24 <| okC3 (qM_X3_of iX3_next_25) <| okC4 (qM_X3_isRipeBy iX3_next_28) <| okZNe (tl rfl) iX3_next_31 <| okIc iX3_next_34 <| okGoto (tl rfl) iX3_next_35))) (tNode (tLeaf (okIc iX3_next_38 <| okTo (tl rfl))) (tLeaf (okIstn iX3_next_39 rfl (by decide) <| okIldn iX3_next_40 rfl <| okZEq (tl rfl) iX3_next_41 <| okIldn iX3_next_44 rfl <| okZLt (tl rfl) iX3_next_45 <| okAldn iX3_next_48 rfl <| okIc iX3_next_49 <| okIldn iX3_next_50 rfl <| okIc iX3_next_51 <| okC4 (qM_X3_ofSession iX3_next_52) <| okAldn iX3_next_55 rfl <| okIc iX3_next_56 <| okIldn iX3_next_57 rfl <| okIc iX3_next_58 <| okC4 (qM_X3_ofSession iX3_next_59) <| okCGe (tl rfl) iX3_next_62 <| okTo (tl rfl))))) (tNode (tNode (tLeaf (okIldn iX3_next_65 rfl <| okIstn iX3_next_66 rfl (by decide) <| okTo (tl rfl))) (tLeaf (okInc iX3_next_67 (by decide) <| okGotoM (tl rfl) iX3_next_70))) (tNode (tLeaf (okIldn iX3_next_73 rfl <| okZGe (tl rfl) iX3_next_74 <| okBi iX3_next_77 (by decide) <| okIret iX3_next_79 rfl)) (tLeaf (okAldn iX3_next_80 rfl <| okIc iX3_next_81 <| okPut (vFpM) iX3_next_82 <| okAldn iX3_next_85 rfl <| okAldn iX3_next_86 rfl <| okIc iX3_next_87 <| okIldn iX3_next_88 rfl <| okIc iX3_next_89 <| okC4 (qM_X3_ofSession iX3_next_90) <| okAldn iX3_next_93 rfl <| okIc iX3_next_94 <| okIc iX3_next_95 <| okC3 (qM_X3_of iX3_next_96) <| okAddW iX3_next_99 <| okIc iX3_next_100 <| okAddW iX3_next_101 <| okAldn iX3_next_102 rfl <| okIc iX3_next_103 <| okIc iX3_next_104 <| okC3 (qM_X3_of iX3_next_105) <| okSubW iX3_next_108 <| okI2l iX3_next_109 <| okC2 (qM_X3_enters iX3_next_110) <| okIldn iX3_next_113 rfl <| okIret iX3_next_114 rfl))))) pc
-- X3_ahead: heads [39]
def tX3_ahead : Nat → Blk MS := fun pc => bif Nat.blt pc 39 then (bif Nat.blt pc 19 then (bif Nat.beq pc 0 then (oAld 0 <| oI 0 <| oPut (fpM) 3 0 <| oIld 1 <| oI2l <| oJ 0 <| oJ 20000 <| oC3 (cM_X3_in) <| oZNe 19 <| oI (-1) <| oIret) else oNo) else (bif Nat.blt pc 32 then (bif Nat.beq pc 19 then (oIld 1 <| oAld 0 <| oI 0 <| oI 4 <| oC3 (cM_X3_of) <| oCGe 32 <| oI (-2) <| oIret) else oNo) else (bif Nat.beq pc 32 then (oI 0 <| oIst 2 <| oI 0 <| oIst 3 <| oI 0 <| oIst 4 <| oM [true, true, true, true, true] (oTo 39)) else oNo))) else (bif Nat.blt pc 83 then (bif Nat.blt pc 82 then (bif Nat.beq pc 39 then (oIld 4 <| oAld 0 <| oI 0 <| oI 5 <| oC3 (cM_X3_of) <| oCGe 108 <| oIld 2 <| oAld 0 <| oI 0 <| oIld 4 <| oIld 1 <| oC4 (cM_X3_isRipeBy) <| oZEq 82 <| oAld 0 <| oI 0 <| oIld 4 <| oAld 0 <| oI 0 <| oI 4 <| oC3 (cM_X3_of) <| oC4 (cM_X3_isRipeBy) <| oZNe 82 <| oI 1 <| oTo 83) else oNo) else (bif Nat.beq pc 82 then (oI 0 <| oTo 83) else oNo)) else (bif Nat.blt pc 108 then (bif Nat.beq pc 83 then (oC1 (cM_X3_flag) <| oAddW <| oIst 2 <| oIld 3 <| oAld 0 <| oI 0 <| oIld 4 <| oIld 1 <| oC4 (cM_X3_isClosedBy) <| oC1 (cM_X3_flag) <| oAddW <| oIst 3 <| oInc 4 1 <| oM [true, true, true, true, true] (oTo 39)) else oNo) else (bif Nat.beq pc 108 then (oAld 0 <| oI 0 <| oPut (fpM) 3 1 <| oAld 0 <| oIld 3 <| oI2l <| oC2 (cM_X3_enters) <| oIld 2 <| oIret) else oNo)))
theorem tX3_ahead_ok : ∀ pc, bOk (encM) (bdM) mX3_ahead 0 0 pc (tX3_ahead pc) := fun pc => (tNode (tNode (tLeaf (okAldn iX3_ahead_0 rfl <| okIc iX3_ahead_1 <| okPut (vFpM) iX3_ahead_2 <| okIldn iX3_ahead_5 rfl <| okI2l iX3_ahead_6 <| okLc iX3_ahead_7 rfl <| okLdc2 (v := 20000) iX3_ahead_8 ((wc_t5 102 rfl rfl)) (by decide) <| okC3 (qM_X3_in iX3_ahead_11) <| okZNe (tl rfl) iX3_ahead_14 <| okIc iX3_ahead_17 <| okIret iX3_ahead_18 rfl)) (tNode (tLeaf (okIldn iX3_ahead_19 rfl <| okAldn iX3_ahead_20 rfl <| okIc iX3_ahead_21 <| okIc iX3_ahead_22 <| okC3 (qM_X3_of iX3_ahead_23) <| okCGe (tl rfl) iX3_ahead_26 <| okBi iX3_ahead_29 (by decide) <| okIret iX3_ahead_31 rfl)) (tLeaf (okIc iX3_ahead_32 <| okIstn iX3_ahead_33 rfl (by decide) <| okIc iX3_ahead_34 <| okIstn iX3_ahead_35 rfl (by decide) <| okIc iX3_ahead_36 <| okIst iX3_ahead_37 (by decide) <| okM (okTo (tl rfl)))))) (tNode (tNode (tLeaf (okIld iX3_ahead_39 <| okAldn iX3_ahead_41 rfl <| okIc iX3_ahead_42 <| okIc iX3_ahead_43 <| okC3 (qM_X3_of iX3_ahead_44) <| okCGe (tl rfl) iX3_ahead_47 <| okIldn iX3_ahead_50 rfl <| okAldn iX3_ahead_51 rfl <| okIc iX3_ahead_52 <| okIld iX3_ahead_53 <| okIldn iX3_ahead_55 rfl <| okC4 (qM_X3_isRipeBy iX3_ahead_56) <| okZEq (tl rfl) iX3_ahead_59 <| okAldn iX3_ahead_62 rfl <| okIc iX3_ahead_63 <| okIld iX3_ahead_64 <| okAldn iX3_ahead_66 rfl <| okIc iX3_ahead_67 <| okIc iX3_ahead_68 <| okC3 (qM_X3_of iX3_ahead_69) <| okC4 (qM_X3_isRipeBy iX3_ahead_72) <| okZNe (tl rfl) iX3_ahead_75 <| okIc iX3_ahead_78 <| okGoto (tl rfl) iX3_ahead_79)) (tLeaf (okIc iX3_ahead_82 <| okTo (tl rfl)))) (tNode (tLeaf (okC1 (qM_X3_flag iX3_ahead_83) <| okAddW iX3_ahead_86 <| okIstn iX3_ahead_87 rfl (by decide) <| okIldn iX3_ahead_88 rfl <| okAldn iX3_ahead_89 rfl <| okIc iX3_ahead_90 <| okIld iX3_ahead_91 <| okIldn iX3_ahead_93 rfl <| okC4 (qM_X3_isClosedBy iX3_ahead_94) <| okC1 (qM_X3_flag iX3_ahead_97) <| okAddW iX3_ahead_100 <| okIstn iX3_ahead_101 rfl (by decide) <| okInc iX3_ahead_102 (by decide) <| okGotoM (tl rfl) iX3_ahead_105)) (tLeaf (okAldn iX3_ahead_108 rfl <| okIc iX3_ahead_109 <| okPut (vFpM) iX3_ahead_110 <| okAldn iX3_ahead_113 rfl <| okIldn iX3_ahead_114 rfl <| okI2l iX3_ahead_115 <| okC2 (qM_X3_enters iX3_ahead_116) <| okIldn iX3_ahead_119 rfl <| okIret iX3_ahead_120 rfl))))) pc
def atL (s : MS) (k t : Int) : Nat → Int → Int → Int × Int
  | 0, f, m => (f, m)
  | i + 1, f, m => if mMelts s 0 (i : Int) k t then atL s k t i (i : Int) (m + 1) else atL s k t i f m
def gAt2 (s : MS) (p : Int × Int) : Int × MS := if p.2 = 0 then (-2, s) else (p.1, mEn (mS s 1 0) p.2)
def gAt (s : MS) (k t : Int) : Int × MS := if inB k 0 5 ∧ inB t 0 9999 then gAt2 (mS s 0 0) (atL (mS s 0 0) k t (mg s (0 * 2804 + 5)).toNat (-1) 0) else (-1, mS s 0 0)
theorem X3_at_l {K : KM} {Pt : MS → Prop} (s : MS) (k t : Int) (hk : xB k) (ht : xB t) : ∀ (i : Nat) (f m : Int), (i : Int) ≤ 160 → xB f → 0 ≤ m → m + i ≤ 160 → K [pI (gAt2 s (atL s k t i f m)).1] (gAt2 s (atL s k t i f m)).2 → wX encM bdM mX3_at 0 0 K Pt 46 [some (pR 0), some (pI k), some (pI t), some (pI f), some (pI m), some (pI ((i : Int) - 1))] [] s := by
  intro i
  induction i with
  | zero =>
    intro f m h0 hf h1 h2 hK
    refine wx_J [46] 9 tX3_at_ok rfl (fun J hR hJ => ?_)
    rw [atL] at hK
    unfold gAt2 at hK
    refine ⟨⟨by omega, by omega⟩, fun _ => ?_, fun q => absurd q (by omega)⟩
    refine ⟨⟨by omega, by omega⟩, fun c => ?_, fun c => ?_⟩
    · rw [if_neg c] at hK
      exact ⟨⟨by omega, by omega⟩, ⟨by omega, by omega⟩, ⟨⟨by omega, by omega⟩, by show (0 : Int) ≤ 0; omega, by show (0 : Int) < 16; omega⟩, hR _ _ hK⟩
    · rw [if_pos c] at hK
      exact hR _ _ hK
  | succ i ih =>
    intro f m h0 hf h1 h2 hK
    refine wx_J [46] 9 tX3_at_ok rfl (fun J hR hJ => ?_)
    rw [atL] at hK
    have e0 : ((i + 1 : Nat) : Int) - 1 = (i : Int) := by omega
    have e1 : (i : Int) + -1 = (i : Int) - 1 := by omega
    rw [e0]
    refine ⟨⟨by omega, by omega⟩, fun q => absurd q (by omega), fun _ => ⟨⟨⟨by omega, by omega⟩, ⟨by omega, by omega⟩, hk, ht⟩, fun c => ?_, fun c => ?_⟩⟩
    · rw [if_pos c] at hK
      have g := ih _ _ (by omega) ⟨by omega, by omega⟩ (by omega) (by omega) hK
      rw [← e1] at g
      exact ⟨⟨by omega, by omega⟩, fun q => absurd q (by omega), fun _ => hJ _ _ _ _ g⟩
    · rw [if_neg c] at hK
      have g := ih _ _ (by omega) hf (by omega) (by omega) hK
      rw [← e1] at g
      exact ⟨⟨by omega, by omega⟩, fun _ => hJ _ _ _ _ g, fun q => absurd rfl q⟩
def sX3_at : Int → Int → MS → KM → Prop := fun k t s K => ((xB k ∧ xB t) ∧ 0 ≤ mg s (0 * 2804 + 5) ∧ mg s (0 * 2804 + 5) ≤ 160) ∧ K [pI (gAt s k t).1] (gAt s k t).2
theorem mX3_at_ok : mOk encM bdM mX3_at (atR 0 (a2 sX3_at)) := by
  refine mOVa2 kX3_at (fun _ _ => rfl) (fun k t s K h hb => wx_J [46] 9 tX3_at_ok rfl (fun J hR hJ => ?_))
  obtain ⟨⟨⟨h1, h2⟩, h3⟩, hK⟩ := h
  unfold gAt at hK
  refine ⟨⟨by omega, by omega⟩, h1, ⟨⟨h1, ⟨by omega, by omega⟩, ⟨by omega, by omega⟩⟩, fun c => ?_, fun c => ?_⟩⟩
  · refine ⟨⟨by omega, by omega⟩, fun q => absurd q (by omega), fun _ => ⟨h2, ⟨⟨h2, ⟨by omega, by omega⟩, ⟨by omega, by omega⟩⟩, fun c2 => ?_, fun c2 => ?_⟩⟩⟩
    · rw [if_pos ⟨c, c2⟩] at hK
      have g := X3_at_l (K := K) (Pt := fun _ => False) (mS s 0 0) k t h1 h2 (mg s (0 * 2804 + 5)).toNat (-1) 0 (by omega) ⟨by omega, by omega⟩ (by omega) (by omega) hK
      rw [show ((mg s (0 * 2804 + 5)).toNat : Int) = mg s (0 * 2804 + 5) by omega] at g
      exact ⟨⟨by omega, by omega⟩, fun _ => ⟨⟨by omega, by omega⟩, fun _ => hJ _ _ _ _ g⟩, fun q => absurd q (by omega)⟩
    · rw [if_neg (fun z => c2 z.2)] at hK
      exact ⟨⟨by omega, by omega⟩, fun q => absurd rfl q, fun _ => hR _ _ hK⟩
  · rw [if_neg (fun z => c z.1)] at hK
    exact ⟨⟨by omega, by omega⟩, fun _ => hR _ _ hK, fun q => absurd rfl q⟩
def stM (s : MS) : Nat → Int → Int → Int → Int → Int × Int × Int
  | 0, _, a, b, c => (a, b, c)
  | n + 1, i, a, b, c => if 0 < mg s ((0 * 2804 + 364 + 7 * i) + 6) then stM s n (i + 1) (wI (a + 1)) (wI (b + mg s ((0 * 2804 + 364 + 7 * i) + 3))) (wI (c + mg s ((0 * 2804 + 364 + 7 * i) + 4))) else stM s n (i + 1) a b c
def gSt2 (s : MS) (x : Int × Int × Int) : Int × MS := (x.1, mEn (mEn (mS s 1 0) x.2.1) x.2.2)
def gStands0 (s : MS) : Int × MS := gSt2 s (stM s (mg s (0 * 2804 + 5)).toNat 0 (sumI (fun k => mg s (0 * 2804 + (36 + k))) 6 0 0) (sumI (fun k => mg s (0 * 2804 + (42 + k))) 6 0 0) (sumI (fun k => mg s (0 * 2804 + (48 + k))) 6 0 0))
def gStands (s : MS) : Int × MS := gStands0 (mS s 0 0)
theorem X3_stands_l2 {K : KM} {Pt : MS → Prop} (s : MS) (hn : 0 ≤ mg s (0 * 2804 + 5) ∧ mg s (0 * 2804 + 5) ≤ 160) : ∀ (m : Nat) (i a b c : Int), xB b → xB c → 0 ≤ i → i ≤ mg s (0 * 2804 + 5) → m = (mg s (0 * 2804 + 5) - i).toNat → K [pI (gSt2 s (stM s m i a b c)).1] (gSt2 s (stM s m i a b c)).2 → wX encM bdM mX3_stands 0 0 K Pt 69 [some (pR 0), some (pI a), some (pI b), some (pI c), some (pI i)] [] s := by
  intro m
  induction m with
  | zero =>
    intro i a b c hb2 hc2 h0 h1 hm hK
    refine wx_J [14, 69] 9 tX3_stands_ok rfl (fun J hR hJ => ?_)
    refine ⟨⟨by omega, by omega⟩, fun hx => ⟨⟨⟨by omega, by omega⟩, hx⟩, fun _ => ?_, fun q => absurd q (by omega)⟩⟩
    exact ⟨⟨by omega, by omega⟩, hb2, ⟨hb2, by show (0 : Int) ≤ 0; omega, by show (0 : Int) < 16; omega⟩, hc2, ⟨hc2, by show (0 : Int) ≤ 0 + 1; omega, by show (0 : Int) + 1 < 16; omega⟩, hR _ _ hK⟩
  | succ m ih =>
    intro i a b c hb2 hc2 h0 h1 hm hK
    refine wx_J [14, 69] 9 tX3_stands_ok rfl (fun J hR hJ => ?_)
    rw [stM] at hK
    refine ⟨⟨by omega, by omega⟩, fun hx => ⟨⟨⟨by omega, by omega⟩, hx⟩, fun q => absurd q (by omega), fun _ => ⟨⟨by omega, by omega⟩, fun hy => ⟨hy, fun q => ?_, fun q => ?_⟩⟩⟩⟩
    · rw [if_neg (Int.not_lt.mpr q)] at hK
      exact hJ _ _ _ _ (ih (i + 1) _ _ _ hb2 hc2 (by omega) (by omega) (by omega) hK)
    · rw [if_pos q] at hK
      have g := ih (i + 1) _ _ _ (wI_B _) (wI_B _) (by omega) (by omega) (by omega) hK
      exact fun _ => ⟨⟨by omega, by omega⟩, fun _ _ => ⟨⟨by omega, by omega⟩, fun _ _ => hJ _ _ _ _ g⟩⟩
theorem X3_stands_l1 {K : KM} {Pt : MS → Prop} (s : MS) (hn : 0 ≤ mg s (0 * 2804 + 5) ∧ mg s (0 * 2804 + 5) ≤ 160) : ∀ (m : Nat) (k a b c : Int), xB b → xB c → 0 ≤ k → k ≤ 6 → m = (6 - k).toNat → K [pI (gSt2 s (stM s (mg s (0 * 2804 + 5)).toNat 0 (sumI (fun k => mg s (0 * 2804 + (36 + k))) m k a) (sumI (fun k => mg s (0 * 2804 + (42 + k))) m k b) (sumI (fun k => mg s (0 * 2804 + (48 + k))) m k c))).1] (gSt2 s (stM s (mg s (0 * 2804 + 5)).toNat 0 (sumI (fun k => mg s (0 * 2804 + (36 + k))) m k a) (sumI (fun k => mg s (0 * 2804 + (42 + k))) m k b) (sumI (fun k => mg s (0 * 2804 + (48 + k))) m k c))).2 → wX encM bdM mX3_stands 0 0 K Pt 14 [some (pR 0), some (pI a), some (pI b), some (pI c), some (pI k)] [] s := by
  intro m
  induction m with
  | zero =>
    intro k a b c hb2 hc2 h0 h1 hm hK
    refine wx_J [14, 69] 9 tX3_stands_ok rfl (fun J hR hJ => ?_)
    have g := X3_stands_l2 (K := K) (Pt := Pt) s hn _ 0 a b c hb2 hc2 (by omega) (by omega) (by rw [Int.sub_zero]) hK
    repeat' (first | (refine And.intro ?_ ?_) | (intro hq; first | (exact absurd hq (by omega)) | skip))
    all_goals first | omega | exact hJ _ _ _ _ g
  | succ m ih =>
    intro k a b c hb2 hc2 h0 h1 hm hK
    refine wx_J [14, 69] 9 tX3_stands_ok rfl (fun J hR hJ => ?_)
    have g := ih (k + 1) _ _ _ (wI_B _) (wI_B _) (by omega) (by omega) (by omega) hK
    repeat' (first | (refine And.intro ?_ ?_) | (intro hq; first | (exact absurd hq (by omega)) | skip))
    all_goals first | omega | exact hJ _ _ _ _ g
def sX3_stands : MS → KM → Prop := fun s K => (0 ≤ mg s (0 * 2804 + 5) ∧ mg s (0 * 2804 + 5) ≤ 160) ∧ K [pI (gStands s).1] (gStands s).2
theorem mX3_stands_ok : mOk encM bdM mX3_stands (atR 0 (a0 sX3_stands)) := by
  refine mOVa0 kX3_stands (fun _ => rfl) (fun s K h hb => wx_J [14, 69] 9 tX3_stands_ok rfl (fun J hR hJ => ?_))
  obtain ⟨h1, hK⟩ := h
  exact ⟨⟨by omega, by omega⟩, hJ _ _ _ _ (X3_stands_l1 (mS s 0 0) h1 6 0 0 0 0 ⟨by omega, by omega⟩ ⟨by omega, by omega⟩ (by omega) (by omega) (by omega) hK)⟩
def knM (k : Int) : Nat → Int → Int → Int → MS → Int × Int × MS
  | 0, _, a, b, s => (a, b, s)
  | m + 1, i, a, b, s => knM k m (i + 1) (wI (a + mg s (0 * 2804 + (60 + 4 * k + i)))) (wI (b + (if i = 3 then wI (-(mg s (0 * 2804 + (60 + 4 * k + i)))) else mg s (0 * 2804 + (60 + 4 * k + i))))) (mEn s (mg s (0 * 2804 + (60 + 4 * k + i))))
def gKn2 (p : Int × Int × MS) : Int × MS := (p.1, mEn p.2.2 p.2.1)
def gKinds (s : MS) (k : Int) : Int × MS := if 0 ≤ k ∧ k < 6 then gKn2 (knM k 4 0 0 0 (mS (mS s 0 0) 1 0)) else (-1, mS s 0 0)
theorem X3_kinds_l {K : KM} {Pt : MS → Prop} (k : Int) (hk : 0 ≤ k ∧ k < 6) : ∀ (m : Nat) (i a b : Int) (s : MS), xB b → s.1 1 = i → 0 ≤ i → i ≤ 4 → m = (4 - i).toNat → K [pI (gKn2 (knM k m i a b s)).1] (gKn2 (knM k m i a b s)).2 → wX encM bdM mX3_kinds 0 0 K Pt 26 [some (pR 0), some (pI k), some (pI a), some (pI b), some (pI i), none] [] s := by
  intro m
  induction m with
  | zero =>
    intro i a b s hb2 hs h0 h1 hm hK
    refine wx_J [26] 9 tX3_kinds_ok rfl (fun J hR hJ => ?_)
    exact ⟨⟨⟨by omega, by omega⟩, ⟨by omega, by omega⟩⟩, fun _ => ⟨hb2, ⟨hb2, by omega, by omega⟩, hR _ _ hK⟩, fun q => absurd q (by omega)⟩
  | succ m ih =>
    intro i a b s hb2 hs h0 h1 hm hK
    refine wx_J [26] 9 tX3_kinds_ok rfl (fun J hR hJ => ?_)
    rw [knM] at hK
    refine ⟨⟨⟨by omega, by omega⟩, ⟨by omega, by omega⟩⟩, fun q => absurd q (by omega), fun _ => ⟨⟨by omega, by omega⟩, fun hx => ⟨hx, ⟨hx, by omega, by omega⟩, fun _ => ⟨⟨⟨by omega, by omega⟩, ⟨by omega, by omega⟩⟩, fun q => ?_, fun q => ?_⟩⟩⟩⟩
    · rw [if_neg q] at hK
      have g := ih (i + 1) _ _ (mEn s (mg s (0 * 2804 + (60 + 4 * k + i)))) (wI_B _) (by show s.1 1 + 1 = i + 1; omega) (by omega) (by omega) (by omega) hK
      exact fun _ => hJ _ _ _ _ g
    · rw [if_pos q] at hK
      have g := ih (i + 1) _ _ (mEn s (mg s (0 * 2804 + (60 + 4 * k + i)))) (wI_B _) (by show s.1 1 + 1 = i + 1; omega) (by omega) (by omega) (by omega) hK
      exact fun _ _ => hJ _ _ _ _ g
def sX3_kinds : Int → MS → KM → Prop := fun k s K => xB k ∧ K [pI (gKinds s k).1] (gKinds s k).2
theorem mX3_kinds_ok : mOk encM bdM mX3_kinds (atR 0 (a1 sX3_kinds)) := by
  refine mOVa1 kX3_kinds (fun _ => rfl) (fun k s K h hb => wx_J [26] 9 tX3_kinds_ok rfl (fun J hR hJ => ?_))
  obtain ⟨h1, hK⟩ := h
  unfold gKinds at hK
  refine ⟨⟨by omega, by omega⟩, ⟨h1, fun c => ?_, fun c => ?_⟩⟩
  · rw [if_pos c] at hK
    exact ⟨⟨by omega, by omega⟩, fun _ => ⟨⟨by omega, by omega⟩, hJ _ _ _ _ (X3_kinds_l k c 4 0 0 0 (mS (mS s 0 0) 1 0) ⟨by omega, by omega⟩ rfl (by omega) (by omega) (by omega) hK)⟩, fun q => absurd q (by omega)⟩
  · rw [if_neg c] at hK
    exact ⟨⟨by omega, by omega⟩, fun q => absurd rfl q, fun _ => hR _ _ hK⟩
end
-- 65.Mv
section
/-! ===== the model: holds, next, ahead, slow ===== -/
def hoM (s : MS) (l : Int) : Nat → Int → Int → Int → Int × Int
  | 0, _, a, b => (a, b)
  | m + 1, i, a, b => hoM s l m (i + 1) (iI a ||| iI (iI (if mg s (0 * 2804 + (20 + i)) = 0 ∧ mg s (0 * 2804 + (12 + i)) = l then 1 else 0) <<< (iI i &&& 31)).toInt).toInt (max b (mg s (0 * 2804 + (12 + i))))
def gHo2 (s : MS) (l : Int) (p : Int × Int) : Int × MS := (p.1, mEn (mEn (mS s 1 0) l) (wI (p.2 - mg s (0 * 2804 + 4))))
def gHolds0 (s : MS) : Int × MS := gHo2 s (mLeast s 0) (hoM s (mLeast s 0) (mg s (0 * 2804 + 0)).toNat 0 0 0)
def gHolds (s : MS) : Int × MS := gHolds0 (mS s 0 0)
theorem X3_holds_l {K : KM} {Pt : MS → Prop} (s : MS) (hb : bdM s) (l : Int) (hl : xB l) (hn : 0 ≤ mg s (0 * 2804 + 0) ∧ mg s (0 * 2804 + 0) ≤ 4) : ∀ (m : Nat) (i a b : Int), xB a → xB b → 0 ≤ i → i ≤ mg s (0 * 2804 + 0) → m = (mg s (0 * 2804 + 0) - i).toNat → K [pI (gHo2 s l (hoM s l m i a b)).1] (gHo2 s l (hoM s l m i a b)).2 → wX encM bdM mX3_holds 0 0 K Pt 18 [some (pR 0), some (pI l), some (pI a), some (pI b), some (pI i)] [] s := by
  intro m
  induction m with
  | zero =>
    intro i a b ha hb2 h0 h1 hm hK
    refine wx_J [18] 9 tX3_holds_ok rfl (fun J hR hJ => ?_)
    refine ⟨⟨by omega, by omega⟩, fun hx => ⟨⟨⟨by omega, by omega⟩, hx⟩, fun _ => ?_, fun q => absurd q (by omega)⟩⟩
    exact ⟨⟨by omega, by omega⟩, hl, ⟨hl, by show (0 : Int) ≤ 0; omega, by show (0 : Int) < 16; omega⟩, ⟨by omega, by omega⟩, fun _ hz => ⟨hz, ⟨hz, by show (0 : Int) ≤ 0 + 1; omega, by show (0 : Int) + 1 < 16; omega⟩, hR _ _ hK⟩⟩
  | succ m ih =>
    intro i a b ha hb2 h0 h1 hm hK
    refine wx_J [18] 9 tX3_holds_ok rfl (fun J hR hJ => ?_)
    rw [hoM] at hK
    have hM := max_B hb2 (mg_B (s := s) (a := 0 * 2804 + (12 + i)) hb)
    refine ⟨⟨by omega, by omega⟩, fun hx => ⟨⟨⟨by omega, by omega⟩, hx⟩, fun q => absurd q (by omega), fun _ => ⟨⟨by omega, by omega⟩, fun hy => ⟨hy, fun q => ?_, fun q => ?_⟩⟩⟩⟩
    · rw [if_neg (fun z => q z.1)] at hK
      have g := ih (i + 1) _ _ (xb_of _) hM (by omega) (by omega) (by omega) hK
      exact ⟨Or.inl rfl, ⟨by omega, by omega⟩, fun hz => ⟨⟨hb2, hz⟩, hJ _ _ _ _ g⟩⟩
    · refine ⟨⟨by omega, by omega⟩, fun hz => ⟨⟨hz, hl⟩, fun q2 => ?_, fun q2 => ?_⟩⟩
      · rw [if_neg (fun z => q2 z.2)] at hK
        have g := ih (i + 1) _ _ (xb_of _) hM (by omega) (by omega) (by omega) hK
        exact ⟨Or.inl rfl, ⟨by omega, by omega⟩, fun hz => ⟨⟨hb2, hz⟩, hJ _ _ _ _ g⟩⟩
      · rw [if_pos ⟨q, q2⟩] at hK
        have g := ih (i + 1) _ _ (xb_of _) hM (by omega) (by omega) (by omega) hK
        exact ⟨Or.inr rfl, ⟨by omega, by omega⟩, fun hz => ⟨⟨hb2, hz⟩, hJ _ _ _ _ g⟩⟩
def sX3_holds : MS → KM → Prop := fun s K => (0 ≤ mg s (0 * 2804 + 0) ∧ mg s (0 * 2804 + 0) ≤ 4) ∧ K [pI (gHolds s).1] (gHolds s).2
theorem mX3_holds_ok : mOk encM bdM mX3_holds (atR 0 (a0 sX3_holds)) := by
  refine mOVa0 kX3_holds (fun _ => rfl) (fun s K h hb => wx_J [18] 9 tX3_holds_ok rfl (fun J hR hJ => ?_))
  obtain ⟨h1, hK⟩ := h
  have hb0 : bdM (mS s 0 0) := bdM_S hb ⟨by omega, by omega⟩
  exact ⟨⟨by omega, by omega⟩, ⟨⟨by omega, by omega⟩, h1.2⟩, fun hl => hJ _ _ _ _ (X3_holds_l (mS s 0 0) hb0 _ hl h1 _ 0 0 0 ⟨by omega, by omega⟩ ⟨by omega, by omega⟩ (by omega) h1.1 (by rw [Int.sub_zero]) hK)⟩
def nxM (s : MS) : Nat → Int → Int → Int
  | 0, _, b => b
  | m + 1, i, b => nxM s m (i + 1) (if ¬ mRipe s 0 i (mg s (0 * 2804 + 4)) ∧ (b < 0 ∨ mg s ((0 * 2804 + 364 + 7 * i) + 2) < mg s ((0 * 2804 + 364 + 7 * b) + 2)) then i else b)
def gNx2 (s : MS) (b : Int) : Int × MS := if b < 0 then (-2, s) else (b, mEn (mS s 1 0) (wI (wI (wI (mg s ((0 * 2804 + 364 + 7 * b) + 2) + mg s (0 * 2804 + 1)) + 1) - mg s (0 * 2804 + 4))))
def gNext0 (s : MS) : Int × MS := gNx2 s (nxM s (mg s (0 * 2804 + 5)).toNat 0 (-1))
def gNext (s : MS) : Int × MS := gNext0 (mS s 0 0)
theorem X3_next_l {K : KM} {Pt : MS → Prop} (s : MS) (hn : 0 ≤ mg s (0 * 2804 + 5) ∧ mg s (0 * 2804 + 5) ≤ 160) : ∀ (m : Nat) (i b : Int), -1 ≤ b → b < i → 0 ≤ i → i ≤ mg s (0 * 2804 + 5) → m = (mg s (0 * 2804 + 5) - i).toNat → K [pI (gNx2 s (nxM s m i b)).1] (gNx2 s (nxM s m i b)).2 → wX encM bdM mX3_next 0 0 K Pt 9 [some (pR 0), some (pI b), some (pI i), none] [] s := by
  intro m
  induction m with
  | zero =>
    intro i b hb1 hb2 h0 h1 hm hK
    refine wx_J [9] 9 tX3_next_ok rfl (fun J hR hJ => ?_)
    rw [nxM] at hK
    unfold gNx2 at hK
    refine ⟨⟨by omega, by omega⟩, fun hx => ⟨⟨⟨by omega, by omega⟩, hx⟩, fun _ => ?_, fun q => absurd q (by omega)⟩⟩
    refine ⟨⟨by omega, by omega⟩, fun c => ?_, fun c => ?_⟩
    · rw [if_neg (Int.not_lt.mpr c)] at hK
      exact ⟨⟨by omega, by omega⟩, ⟨by omega, by omega⟩, fun _ => ⟨⟨by omega, by omega⟩, fun _ _ _ => ⟨⟨by omega, by omega⟩, fun _ hz => ⟨hz, ⟨hz, by show (0 : Int) ≤ 0; omega, by show (0 : Int) < 16; omega⟩, hR _ _ hK⟩⟩⟩⟩
    · rw [if_pos c] at hK
      exact hR _ _ hK
  | succ m ih =>
    intro i b hb1 hb2 h0 h1 hm hK
    refine wx_J [9] 9 tX3_next_ok rfl (fun J hR hJ => ?_)
    rw [nxM] at hK
    have e1 : (¬ mRipe s 0 i (mg s (0 * 2804 + 4)) ∧ (b < 0 ∨ mg s ((0 * 2804 + 364 + 7 * i) + 2) < mg s ((0 * 2804 + 364 + 7 * b) + 2))) → wX encM bdM mX3_next 0 0 K Pt 9 [some (pR 0), some (pI i), some (pI (i + 1)), none] [] s := fun c => by
      rw [if_pos c] at hK
      exact ih (i + 1) i (by omega) (by omega) (by omega) (by omega) (by omega) hK
    have e2 : ¬ (¬ mRipe s 0 i (mg s (0 * 2804 + 4)) ∧ (b < 0 ∨ mg s ((0 * 2804 + 364 + 7 * i) + 2) < mg s ((0 * 2804 + 364 + 7 * b) + 2))) → wX encM bdM mX3_next 0 0 K Pt 9 [some (pR 0), some (pI b), some (pI (i + 1)), none] [] s := fun c => by
      rw [if_neg c] at hK
      exact ih (i + 1) b (by omega) (by omega) (by omega) (by omega) (by omega) hK
    refine ⟨⟨by omega, by omega⟩, fun hx => ⟨⟨⟨by omega, by omega⟩, hx⟩, fun q => absurd q (by omega), fun _ => ⟨⟨by omega, by omega⟩, fun hp => ⟨⟨⟨by omega, by omega⟩, ⟨by omega, by omega⟩, hp⟩, fun r => ?_, fun r => ?_⟩⟩⟩⟩
    · have g := e2 (fun z => z.1 r)
      repeat' (first | (refine And.intro ?_ ?_) | (intro hq; first | (exact absurd hq (by omega)) | skip))
      all_goals first | omega | exact hJ _ _ _ _ g
    · have e1' := fun z => e1 ⟨r, z⟩
      have e2' : ¬ (b < 0 ∨ mg s ((0 * 2804 + 364 + 7 * i) + 2) < mg s ((0 * 2804 + 364 + 7 * b) + 2)) → _ := fun z => e2 (fun y => z y.2)
      repeat' (first | (refine And.intro ?_ ?_) | (intro hq; first | (exact absurd hq (by omega)) | skip))
      all_goals first | omega | exact hJ _ _ _ _ (e1' (by omega)) | exact hJ _ _ _ _ (e2' (by omega))
def sX3_next : MS → KM → Prop := fun s K => (0 ≤ mg s (0 * 2804 + 5) ∧ mg s (0 * 2804 + 5) ≤ 160) ∧ K [pI (gNext s).1] (gNext s).2
theorem mX3_next_ok : mOk encM bdM mX3_next (atR 0 (a0 sX3_next)) := by
  refine mOVa0 kX3_next (fun _ => rfl) (fun s K h hb => wx_J [9] 9 tX3_next_ok rfl (fun J hR hJ => ?_))
  obtain ⟨h1, hK⟩ := h
  exact ⟨⟨by omega, by omega⟩, hJ _ _ _ _ (X3_next_l (mS s 0 0) h1 _ 0 (-1) (by omega) (by omega) (by omega) h1.1 (by rw [Int.sub_zero]) hK)⟩
def ahM (s : MS) (p : Int) : Nat → Int → Int → Int → Int × Int
  | 0, _, a, b => (a, b)
  | m + 1, i, a, b => ahM s p m (i + 1) (wI (a + (if mRipe s 0 i p ∧ ¬ mRipe s 0 i (mg s (0 * 2804 + 4)) then 1 else 0))) (wI (b + (if mOver s 0 i p then 1 else 0)))
def gAh2 (s : MS) (p : Int × Int) : Int × MS := (p.1, mEn (mS s 1 0) p.2)
def gAhead0 (s : MS) (p : Int) : Int × MS := if inB p 0 20000 then (if p < mg s (0 * 2804 + 4) then (-2, s) else gAh2 s (ahM s p (mg s (0 * 2804 + 5)).toNat 0 0 0)) else (-1, s)
def gAhead (s : MS) (p : Int) : Int × MS := gAhead0 (mS s 0 0) p
theorem X3_ahead_l {K : KM} {Pt : MS → Prop} (s : MS) (p : Int) (hp : xB p) (hn : 0 ≤ mg s (0 * 2804 + 5) ∧ mg s (0 * 2804 + 5) ≤ 160) : ∀ (m : Nat) (i a b : Int), xB b → 0 ≤ i → i ≤ mg s (0 * 2804 + 5) → m = (mg s (0 * 2804 + 5) - i).toNat → K [pI (gAh2 s (ahM s p m i a b)).1] (gAh2 s (ahM s p m i a b)).2 → wX encM bdM mX3_ahead 0 0 K Pt 39 [some (pR 0), some (pI p), some (pI a), some (pI b), some (pI i)] [] s := by
  intro m
  induction m with
  | zero =>
    intro i a b hb2 h0 h1 hm hK
    refine wx_J [39] 9 tX3_ahead_ok rfl (fun J hR hJ => ?_)
    refine ⟨⟨by omega, by omega⟩, fun hx => ⟨⟨⟨by omega, by omega⟩, hx⟩, fun _ => ?_, fun q => absurd q (by omega)⟩⟩
    exact ⟨⟨by omega, by omega⟩, hb2, ⟨hb2, by show (0 : Int) ≤ 0; omega, by show (0 : Int) < 16; omega⟩, hR _ _ hK⟩
  | succ m ih =>
    intro i a b hb2 h0 h1 hm hK
    refine wx_J [39] 9 tX3_ahead_ok rfl (fun J hR hJ => ?_)
    rw [ahM] at hK
    have g := ih (i + 1) _ _ (wI_B _) (by omega) (by omega) (by omega) hK
    have z0 : xB 0 := ⟨by omega, by omega⟩
    have z1 : xB 1 := ⟨by omega, by omega⟩
    have dk : dOk 0 := ⟨by omega, by omega⟩
    have hi : 0 ≤ i ∧ i ≤ 160 := ⟨by omega, by omega⟩
    refine ⟨⟨by omega, by omega⟩, fun hx => ⟨⟨⟨by omega, by omega⟩, hx⟩, fun q => absurd q (by omega), fun _ => ⟨⟨dk, hi, hp⟩, fun r => ?_, fun r => ?_⟩⟩⟩
    · refine ⟨z1, fun q => absurd q (by omega), fun _ => ⟨⟨by omega, by omega⟩, fun hy => ⟨⟨dk, hi, hy⟩, fun r2 => ?_, fun r2 => ?_⟩⟩⟩
      · rw [if_neg (fun z => z.2 r2)] at g
        refine ⟨z1, fun _ => ⟨Or.inl rfl, fun _ => ⟨⟨dk, hi, hp⟩, fun r3 => ?_, fun r3 => ?_⟩⟩, fun q => absurd q (by omega)⟩
        · rw [if_pos r3] at g
          exact ⟨Or.inr rfl, fun _ => hJ _ _ _ _ g⟩
        · rw [if_neg r3] at g
          exact ⟨Or.inl rfl, fun _ => hJ _ _ _ _ g⟩
      · rw [if_pos ⟨r, r2⟩] at g
        refine ⟨z0, fun q => absurd rfl q, fun _ => ⟨Or.inr rfl, fun _ => ⟨⟨dk, hi, hp⟩, fun r3 => ?_, fun r3 => ?_⟩⟩⟩
        · rw [if_pos r3] at g
          exact ⟨Or.inr rfl, fun _ => hJ _ _ _ _ g⟩
        · rw [if_neg r3] at g
          exact ⟨Or.inl rfl, fun _ => hJ _ _ _ _ g⟩
    · rw [if_neg (fun z => r z.1)] at g
      refine ⟨z0, fun _ => ⟨Or.inl rfl, fun _ => ⟨⟨dk, hi, hp⟩, fun r3 => ?_, fun r3 => ?_⟩⟩, fun q => absurd rfl q⟩
      · rw [if_pos r3] at g
        exact ⟨Or.inr rfl, fun _ => hJ _ _ _ _ g⟩
      · rw [if_neg r3] at g
        exact ⟨Or.inl rfl, fun _ => hJ _ _ _ _ g⟩
def sX3_ahead : Int → MS → KM → Prop := fun p s K => (xB p ∧ 0 ≤ mg s (0 * 2804 + 5) ∧ mg s (0 * 2804 + 5) ≤ 160) ∧ K [pI (gAhead s p).1] (gAhead s p).2
theorem mX3_ahead_ok : mOk encM bdM mX3_ahead (atR 0 (a1 sX3_ahead)) := by
  refine mOVa1 kX3_ahead (fun _ => rfl) (fun p s K h hb => wx_J [39] 9 tX3_ahead_ok rfl (fun J hR hJ => ?_))
  obtain ⟨⟨h1, h2⟩, hK⟩ := h
  unfold gAhead gAhead0 at hK
  refine ⟨⟨by omega, by omega⟩, h1, ⟨⟨h1, ⟨by omega, by omega⟩, ⟨by omega, by omega⟩⟩, fun c => ?_, fun c => ?_⟩⟩
  · rw [if_pos c] at hK
    refine ⟨⟨by omega, by omega⟩, fun _ => ⟨⟨by omega, by omega⟩, fun hx => ⟨⟨h1, hx⟩, fun c2 => ?_, fun c2 => ?_⟩⟩, fun q => absurd q (by omega)⟩
    · rw [if_neg (Int.not_lt.mpr c2)] at hK
      exact hJ _ _ _ _ (X3_ahead_l (mS s 0 0) p h1 h2 _ 0 0 0 ⟨by omega, by omega⟩ (by omega) h2.1 (by rw [Int.sub_zero]) hK)
    · rw [if_pos c2] at hK
      exact hR _ _ hK
  · rw [if_neg c] at hK
    exact ⟨⟨by omega, by omega⟩, fun q => absurd rfl q, fun _ => hR _ _ hK⟩
end
-- 66.Mw
section
/-! ===== the model: slow, would, played again ===== -/
theorem mg_ne {s : MS} {a b v : Int} (ha : 0 ≤ a) (hb : 0 ≤ b) (h : a ≠ b) : mg (mP s a v) b = mg s b := by
  show xup (s.2 3) a.toNat v b.toNat = s.2 3 b.toNat
  unfold xup
  rw [if_neg (by omega)]
theorem mg_eq {s : MS} {a v : Int} : mg (mP s a v) a = v := by
  show xup (s.2 3) a.toNat v a.toNat = v
  unfold xup
  rw [if_pos rfl]
-- X3_slow: heads [11, 100]
def tX3_slow : Nat → Blk MS := fun pc => bif Nat.blt pc 95 then (bif Nat.blt pc 37 then (bif Nat.blt pc 11 then (bif Nat.beq pc 0 then (oAld 0 <| oI 0 <| oPut (fpM) 3 0 <| oI (-1) <| oIst 1 <| oI 0 <| oIst 2 <| oI 0 <| oIst 3 <| oM [true, true, true, true, false] (oTo 11)) else oNo) else (bif Nat.beq pc 11 then (oIld 3 <| oAld 0 <| oI 0 <| oI 0 <| oC3 (cM_X3_of) <| oCGe 88 <| oAld 0 <| oI 0 <| oI 20 <| oIld 3 <| oAdd <| oC3 (cM_X3_of) <| oI 1 <| oCNe 37 <| oTo 82) else oNo)) else (bif Nat.blt pc 82 then (bif Nat.beq pc 37 then (oAld 0 <| oI 0 <| oI 20 <| oIld 3 <| oAdd <| oI 1 <| oC4 (cM_X3_puts) <| oAld 0 <| oI 0 <| oC2 (cM_X3_leastMark) <| oAld 0 <| oI 0 <| oI 4 <| oC3 (cM_X3_of) <| oSubW <| oIst 4 <| oAld 0 <| oI 0 <| oI 20 <| oIld 3 <| oAdd <| oI 0 <| oC4 (cM_X3_puts) <| oIld 4 <| oIld 2 <| oCLe 82 <| oIld 3 <| oIst 1 <| oIld 4 <| oIst 2 <| oTo 82) else oNo) else (bif Nat.blt pc 88 then (bif Nat.beq pc 82 then (oInc 3 1 <| oM [true, true, true, true, false] (oTo 11)) else oNo) else (bif Nat.beq pc 88 then (oIld 1 <| oZGe 95 <| oI (-2) <| oIret) else oNo)))) else (bif Nat.blt pc 150 then (bif Nat.blt pc 100 then (bif Nat.beq pc 95 then (oI 0 <| oIst 3 <| oI 0 <| oIst 4 <| oM [true, true, true, true, true] (oTo 100)) else oNo) else (bif Nat.beq pc 100 then (oIld 4 <| oAld 0 <| oI 0 <| oI 5 <| oC3 (cM_X3_of) <| oCGe 162 <| oIld 3 <| oAld 0 <| oI 0 <| oIld 4 <| oAld 0 <| oI 0 <| oI 4 <| oC3 (cM_X3_of) <| oC4 (cM_X3_isRipeBy) <| oZNe 150 <| oAld 0 <| oI 0 <| oIld 4 <| oAld 0 <| oI 0 <| oI 4 <| oC3 (cM_X3_of) <| oIld 2 <| oAddW <| oC4 (cM_X3_isRipeBy) <| oZEq 150 <| oI 1 <| oTo 151) else oNo)) else (bif Nat.blt pc 151 then (bif Nat.beq pc 150 then (oI 0 <| oTo 151) else oNo) else (bif Nat.blt pc 162 then (bif Nat.beq pc 151 then (oC1 (cM_X3_flag) <| oAddW <| oIst 3 <| oInc 4 1 <| oM [true, true, true, true, true] (oTo 100)) else oNo) else (bif Nat.beq pc 162 then (oAld 0 <| oI 0 <| oPut (fpM) 3 1 <| oAld 0 <| oIld 2 <| oI2l <| oC2 (cM_X3_enters) <| oAld 0 <| oIld 3 <| oI2l <| oC2 (cM_X3_enters) <| oIld 1 <| oIret) else oNo))))
theorem tX3_slow_ok : ∀ pc, bOk (encM) (bdM) mX3_slow 0 0 pc (tX3_slow pc) := fun pc => (tNode (tNode (tNode (tLeaf (okAldn iX3_slow_0 rfl <| okIc iX3_slow_1 <| okPut (vFpM) iX3_slow_2 <| okIc iX3_slow_5 <| okIstn iX3_slow_6 rfl (by decide) <| okIc iX3_slow_7 <| okIstn iX3_slow_8 rfl (by decide) <| okIc iX3_slow_9 <| okIstn iX3_slow_10 rfl (by decide) <| okM (okTo (tl rfl)))) (tLeaf (okIldn iX3_slow_11 rfl <| okAldn iX3_slow_12 rfl <| okIc iX3_slow_13 <| okIc iX3_slow_14 <| okC3 (qM_X3_of iX3_slow_15) <| okCGe (tl rfl) iX3_slow_18 <| okAldn iX3_slow_21 rfl <| okIc iX3_slow_22 <| okBi iX3_slow_23 (by decide) <| okIldn iX3_slow_25 rfl <| okAdd iX3_slow_26 <| okC3 (qM_X3_of iX3_slow_27) <| okIc iX3_slow_30 <| okCNe (tl rfl) iX3_slow_31 <| okGoto (tl rfl) iX3_slow_34))) (tNode (tLeaf (okAldn iX3_slow_37 rfl <| okIc iX3_slow_38 <| okBi iX3_slow_39 (by decide) <| okIldn iX3_slow_41 rfl <| okAdd iX3_slow_42 <| okIc iX3_slow_43 <| okC4 (qM_X3_puts iX3_slow_44) <| okAldn iX3_slow_47 rfl <| okIc iX3_slow_48 <| okC2 (qM_X3_leastMark iX3_slow_49) <| okAldn iX3_slow_52 rfl <| okIc iX3_slow_53 <| okIc iX3_slow_54 <| okC3 (qM_X3_of iX3_slow_55) <| okSubW iX3_slow_58 <| okIst iX3_slow_59 (by decide) <| okAldn iX3_slow_61 rfl <| okIc iX3_slow_62 <| okBi iX3_slow_63 (by decide) <| okIldn iX3_slow_65 rfl <| okAdd iX3_slow_66 <| okIc iX3_slow_67 <| okC4 (qM_X3_puts iX3_slow_68) <| okIld iX3_slow_71 <| okIldn iX3_slow_73 rfl <| okCLe (tl rfl) iX3_slow_74 <| okIldn iX3_slow_77 rfl <| okIstn iX3_slow_78 rfl (by decide) <| okIld iX3_slow_79 <| okIstn iX3_slow_81 rfl (by decide) <| okTo (tl rfl))) (tNode (tLeaf (okInc iX3_slow_82 (by decide) <| okGotoM (tl rfl) iX3_slow_85)) (tLeaf (okIldn iX3_slow_88 rfl <| okZGe (tl rfl) iX3_slow_89 <| okBi iX3_slow_92 (by decide) <| okIret iX3_slow_94 rfl))))) (tNode (tNode (tLeaf (okIc iX3_slow_95 <| okIstn iX3_slow_96 rfl (by decide) <| okIc iX3_slow_97 <| okIst iX3_slow_98 (by decide) <| okM (okTo (tl rfl)))) (tLeaf (okIld iX3_slow_100 <| okAldn iX3_slow_102 rfl <| okIc iX3_slow_103 <| okIc iX3_slow_104 <| okC3 (qM_X3_of iX3_slow_105) <| okCGe (tl rfl) iX3_slow_108 <| okIldn iX3_slow_111 rfl <| okAldn iX3_slow_112 rfl <| okIc iX3_slow_113 <| okIld iX3_slow_114 <| okAldn iX3_slow_116 rfl <| okIc iX3_slow_117 <| okIc iX3_slow_118 <| okC3 (qM_X3_of iX3_slow_119) <| okC4 (qM_X3_isRipeBy iX3_slow_122) <| okZNe (tl rfl) iX3_slow_125 <| okAldn iX3_slow_128 rfl <| okIc iX3_slow_129 <| okIld iX3_slow_130 <| okAldn iX3_slow_132 rfl <| okIc iX3_slow_133 <| okIc iX3_slow_134 <| okC3 (qM_X3_of iX3_slow_135) <| okIldn iX3_slow_138 rfl <| okAddW iX3_slow_139 <| okC4 (qM_X3_isRipeBy iX3_slow_140) <| okZEq (tl rfl) iX3_slow_143 <| okIc iX3_slow_146 <| okGoto (tl rfl) iX3_slow_147))) (tNode (tLeaf (okIc iX3_slow_150 <| okTo (tl rfl))) (tNode (tLeaf (okC1 (qM_X3_flag iX3_slow_151) <| okAddW iX3_slow_154 <| okIstn iX3_slow_155 rfl (by decide) <| okInc iX3_slow_156 (by decide) <| okGotoM (tl rfl) iX3_slow_159)) (tLeaf (okAldn iX3_slow_162 rfl <| okIc iX3_slow_163 <| okPut (vFpM) iX3_slow_164 <| okAldn iX3_slow_167 rfl <| okIldn iX3_slow_168 rfl <| okI2l iX3_slow_169 <| okC2 (qM_X3_enters iX3_slow_170) <| okAldn iX3_slow_173 rfl <| okIldn iX3_slow_174 rfl <| okI2l iX3_slow_175 <| okC2 (qM_X3_enters iX3_slow_176) <| okIldn iX3_slow_179 rfl <| okIret iX3_slow_180 rfl)))))) pc
-- X3_would: heads []
def tX3_would : Nat → Blk MS := fun pc => bif Nat.blt pc 19 then (bif Nat.beq pc 0 then (oAld 0 <| oI 0 <| oPut (fpM) 3 0 <| oAld 0 <| oIld 1 <| oIld 2 <| oIld 3 <| oIld 4 <| oC5 (cM_X3_isEvent) <| oZNe 19 <| oI (-1) <| oIret) else oNo) else (bif Nat.beq pc 19 then (oAld 0 <| oI 0 <| oI 4 <| oC3 (cM_X3_copies) <| oAld 0 <| oI 4 <| oI 6 <| oI 0 <| oC4 (cM_X3_puts) <| oAld 0 <| oI 4 <| oIld 1 <| oIld 2 <| oIld 3 <| oIld 4 <| oC6 (cM_X3_comes) <| oIst 5 <| oAld 0 <| oI 0 <| oPut (fpM) 3 1 <| oAld 0 <| oAld 0 <| oGet (fgM) 3 12 <| oI2l <| oC2 (cM_X3_enters) <| oAld 0 <| oAld 0 <| oI 4 <| oI 7 <| oC3 (cM_X3_of) <| oAld 0 <| oI 0 <| oI 7 <| oC3 (cM_X3_of) <| oSubW <| oI2l <| oC2 (cM_X3_enters) <| oIld 5 <| oIret) else oNo)
theorem tX3_would_ok : ∀ pc, bOk (encM) (bdM) mX3_would 0 0 pc (tX3_would pc) := fun pc => (tNode (tLeaf (okAldn iX3_would_0 rfl <| okIc iX3_would_1 <| okPut (vFpM) iX3_would_2 <| okAldn iX3_would_5 rfl <| okIldn iX3_would_6 rfl <| okIldn iX3_would_7 rfl <| okIldn iX3_would_8 rfl <| okIld iX3_would_9 <| okC5 (qM_X3_isEvent iX3_would_11) <| okZNe (tl rfl) iX3_would_14 <| okIc iX3_would_17 <| okIret iX3_would_18 rfl)) (tLeaf (okAldn iX3_would_19 rfl <| okIc iX3_would_20 <| okIc iX3_would_21 <| okC3 (qM_X3_copies iX3_would_22) <| okAldn iX3_would_25 rfl <| okIc iX3_would_26 <| okBi iX3_would_27 (by decide) <| okIc iX3_would_29 <| okC4 (qM_X3_puts iX3_would_30) <| okAldn iX3_would_33 rfl <| okIc iX3_would_34 <| okIldn iX3_would_35 rfl <| okIldn iX3_would_36 rfl <| okIldn iX3_would_37 rfl <| okIld iX3_would_38 <| okC6 (qM_X3_comes iX3_would_40) <| okIst iX3_would_43 (by decide) <| okAldn iX3_would_45 rfl <| okIc iX3_would_46 <| okPut (vFpM) iX3_would_47 <| okAldn iX3_would_50 rfl <| okAldn iX3_would_51 rfl <| okGet (vFgM) iX3_would_52 <| okI2l iX3_would_55 <| okC2 (qM_X3_enters iX3_would_56) <| okAldn iX3_would_59 rfl <| okAldn iX3_would_60 rfl <| okIc iX3_would_61 <| okBi iX3_would_62 (by decide) <| okC3 (qM_X3_of iX3_would_64) <| okAldn iX3_would_67 rfl <| okIc iX3_would_68 <| okBi iX3_would_69 (by decide) <| okC3 (qM_X3_of iX3_would_71) <| okSubW iX3_would_74 <| okI2l iX3_would_75 <| okC2 (qM_X3_enters iX3_would_76) <| okIld iX3_would_79 <| okIret iX3_would_81 rfl))) pc
-- X3_startsAgain: heads [17]
def tX3_startsAgain : Nat → Blk MS := fun pc => bif Nat.blt pc 17 then (bif Nat.beq pc 0 then (oAld 0 <| oI 4 <| oAld 0 <| oI 0 <| oI 0 <| oC3 (cM_X3_of) <| oIld 1 <| oIld 2 <| oIld 3 <| oC6 (cM_X3_starts) <| oI 0 <| oIst 4 <| oM [true, false, false, false, true] (oTo 17)) else oNo) else (bif Nat.blt pc 49 then (bif Nat.beq pc 17 then (oIld 4 <| oI 4 <| oCGe 49 <| oAld 0 <| oI 4 <| oI 16 <| oIld 4 <| oAdd <| oAld 0 <| oI 0 <| oI 16 <| oIld 4 <| oAdd <| oC3 (cM_X3_of) <| oC4 (cM_X3_puts) <| oInc 4 1 <| oM [true, false, false, false, true] (oTo 17)) else oNo) else (bif Nat.beq pc 49 then (oVret) else oNo))
theorem tX3_startsAgain_ok : ∀ pc, bOk (encM) (bdM) mX3_startsAgain 0 0 pc (tX3_startsAgain pc) := fun pc => (tNode (tLeaf (okAldn iX3_startsAgain_0 rfl <| okIc iX3_startsAgain_1 <| okAldn iX3_startsAgain_2 rfl <| okIc iX3_startsAgain_3 <| okIc iX3_startsAgain_4 <| okC3 (qM_X3_of iX3_startsAgain_5) <| okIldn iX3_startsAgain_8 rfl <| okIldn iX3_startsAgain_9 rfl <| okIldn iX3_startsAgain_10 rfl <| okC6 (qM_X3_starts iX3_startsAgain_11) <| okIc iX3_startsAgain_14 <| okIst iX3_startsAgain_15 (by decide) <| okM (okTo (tl rfl)))) (tNode (tLeaf (okIld iX3_startsAgain_17 <| okIc iX3_startsAgain_19 <| okCGe (tl rfl) iX3_startsAgain_20 <| okAldn iX3_startsAgain_23 rfl <| okIc iX3_startsAgain_24 <| okBi iX3_startsAgain_25 (by decide) <| okIld iX3_startsAgain_27 <| okAdd iX3_startsAgain_29 <| okAldn iX3_startsAgain_30 rfl <| okIc iX3_startsAgain_31 <| okBi iX3_startsAgain_32 (by decide) <| okIld iX3_startsAgain_34 <| okAdd iX3_startsAgain_36 <| okC3 (qM_X3_of iX3_startsAgain_37) <| okC4 (qM_X3_puts iX3_startsAgain_40) <| okInc iX3_startsAgain_43 (by decide) <| okGotoM (tl rfl) iX3_startsAgain_46)) (tLeaf (okVret iX3_startsAgain_49 rfl)))) pc
-- X3_comesAgain: heads []
def tX3_comesAgain : Nat → Blk MS := fun pc => bif Nat.blt pc 69 then (bif Nat.blt pc 48 then (bif Nat.beq pc 0 then (oAld 0 <| oIld 2 <| oI 1 <| oC3 (cM_X3_ofInput) <| oIst 3 <| oAld 0 <| oIld 2 <| oI 2 <| oC3 (cM_X3_ofInput) <| oIst 4 <| oAld 0 <| oIld 2 <| oI 0 <| oC3 (cM_X3_ofInput) <| oZNe 48 <| oAld 0 <| oIld 1 <| oAld 0 <| oIld 2 <| oI 3 <| oC3 (cM_X3_ofInput) <| oIld 4 <| oAld 0 <| oIld 2 <| oI 4 <| oC3 (cM_X3_ofInput) <| oIld 3 <| oC6 (cM_X3_comes) <| oPop <| oTo 75) else oNo) else (bif Nat.beq pc 48 then (oAld 0 <| oIld 2 <| oI 0 <| oC3 (cM_X3_ofInput) <| oI 1 <| oCNe 69 <| oAld 0 <| oIld 1 <| oIld 3 <| oIld 4 <| oC4 (cM_X3_isMarked) <| oTo 75) else oNo)) else (bif Nat.blt pc 75 then (bif Nat.beq pc 69 then (oAld 0 <| oIld 1 <| oIld 3 <| oC3 (cM_X3_isIdle) <| oTo 75) else oNo) else (bif Nat.beq pc 75 then (oVret) else oNo))
theorem tX3_comesAgain_ok : ∀ pc, bOk (encM) (bdM) mX3_comesAgain 0 0 pc (tX3_comesAgain pc) := fun pc => (tNode (tNode (tLeaf (okAldn iX3_comesAgain_0 rfl <| okIldn iX3_comesAgain_1 rfl <| okIc iX3_comesAgain_2 <| okC3 (qM_X3_ofInput iX3_comesAgain_3) <| okIstn iX3_comesAgain_6 rfl (by decide) <| okAldn iX3_comesAgain_7 rfl <| okIldn iX3_comesAgain_8 rfl <| okIc iX3_comesAgain_9 <| okC3 (qM_X3_ofInput iX3_comesAgain_10) <| okIst iX3_comesAgain_13 (by decide) <| okAldn iX3_comesAgain_15 rfl <| okIldn iX3_comesAgain_16 rfl <| okIc iX3_comesAgain_17 <| okC3 (qM_X3_ofInput iX3_comesAgain_18) <| okZNe (tl rfl) iX3_comesAgain_21 <| okAldn iX3_comesAgain_24 rfl <| okIldn iX3_comesAgain_25 rfl <| okAldn iX3_comesAgain_26 rfl <| okIldn iX3_comesAgain_27 rfl <| okIc iX3_comesAgain_28 <| okC3 (qM_X3_ofInput iX3_comesAgain_29) <| okIld iX3_comesAgain_32 <| okAldn iX3_comesAgain_34 rfl <| okIldn iX3_comesAgain_35 rfl <| okIc iX3_comesAgain_36 <| okC3 (qM_X3_ofInput iX3_comesAgain_37) <| okIldn iX3_comesAgain_40 rfl <| okC6 (qM_X3_comes iX3_comesAgain_41) <| okPop iX3_comesAgain_44 <| okGoto (tl rfl) iX3_comesAgain_45)) (tLeaf (okAldn iX3_comesAgain_48 rfl <| okIldn iX3_comesAgain_49 rfl <| okIc iX3_comesAgain_50 <| okC3 (qM_X3_ofInput iX3_comesAgain_51) <| okIc iX3_comesAgain_54 <| okCNe (tl rfl) iX3_comesAgain_55 <| okAldn iX3_comesAgain_58 rfl <| okIldn iX3_comesAgain_59 rfl <| okIldn iX3_comesAgain_60 rfl <| okIld iX3_comesAgain_61 <| okC4 (qM_X3_isMarked iX3_comesAgain_63) <| okGoto (tl rfl) iX3_comesAgain_66))) (tNode (tLeaf (okAldn iX3_comesAgain_69 rfl <| okIldn iX3_comesAgain_70 rfl <| okIldn iX3_comesAgain_71 rfl <| okC3 (qM_X3_isIdle iX3_comesAgain_72) <| okTo (tl rfl))) (tLeaf (okVret iX3_comesAgain_75 rfl)))) pc
-- X3_draws: heads []
def tX3_draws : Nat → Blk MS := fun pc => bif Nat.beq pc 0 then (oAld 0 <| oAld 0 <| oGet (fgM) 3 21 <| oI 1103515245 <| oMulW <| oI 12345 <| oAddW <| oPut (fpM) 3 21 <| oAld 0 <| oGet (fgM) 3 21 <| oI 16 <| oUshr <| oIld 1 <| oRemT <| oIret) else oNo
theorem tX3_draws_ok : ∀ pc, bOk (encM) (bdM) mX3_draws 0 0 pc (tX3_draws pc) := fun pc => (tLeaf (okAldn iX3_draws_0 rfl <| okAldn iX3_draws_1 rfl <| okGet (vFgM) iX3_draws_2 <| okLdcw (v := 1103515245) iX3_draws_5 ((wc_t6 20 rfl rfl)) (by decide) <| okMulW iX3_draws_8 <| okSi iX3_draws_9 (by decide) <| okAddW iX3_draws_12 <| okPut (vFpM) iX3_draws_13 <| okAldn iX3_draws_16 rfl <| okGet (vFgM) iX3_draws_17 <| okBi iX3_draws_20 (by decide) <| okUshr iX3_draws_22 <| okIldn iX3_draws_23 rfl <| okRemT iX3_draws_24 <| okIret iX3_draws_25 rfl)) pc
def slS (s : MS) (r : Int) : MS := mP (mP s (0 * 2804 + (20 + r)) 1) (0 * 2804 + (20 + r)) 0
def slBy (s : MS) (r : Int) : Int := wI (mLeast (mP s (0 * 2804 + (20 + r)) 1) 0 - mg (mP s (0 * 2804 + (20 + r)) 1) (0 * 2804 + 4))
def slM : Nat → Int → Int → Int → MS → Int × Int × MS
  | 0, _, b, m, s => (b, m, s)
  | n + 1, r, b, m, s => if mg s (0 * 2804 + (20 + r)) = 1 then slM n (r + 1) b m s else if m < slBy s r then slM n (r + 1) r (slBy s r) (slS s r) else slM n (r + 1) b m (slS s r)
def rpM (s : MS) (m : Int) : Nat → Int → Int → Int
  | 0, _, a => a
  | n + 1, i, a => rpM s m n (i + 1) (wI (a + (if ¬ mRipe s 0 i (mg s (0 * 2804 + 4)) ∧ mRipe s 0 i (wI (mg s (0 * 2804 + 4) + m)) then 1 else 0)))
def gSl3 (s : MS) (b m r : Int) : Int × MS := (b, mEn (mEn (mS s 1 0) m) r)
def gSl2 (p : Int × Int × MS) : Int × MS := if p.1 < 0 then (-2, p.2.2) else gSl3 p.2.2 p.1 p.2.1 (rpM p.2.2 p.2.1 (mg p.2.2 (0 * 2804 + 5)).toNat 0 0)
def gSlow (s : MS) : Int × MS := gSl2 (slM (mg s (0 * 2804 + 0)).toNat 0 (-1) 0 (mS s 0 0))
theorem X3_slow_l2 {K : KM} {Pt : MS → Prop} (s : MS) (b mo : Int) (hm : xB mo) (hn : 0 ≤ mg s (0 * 2804 + 5) ∧ mg s (0 * 2804 + 5) ≤ 160) : ∀ (m : Nat) (i a : Int), xB a → 0 ≤ i → i ≤ mg s (0 * 2804 + 5) → m = (mg s (0 * 2804 + 5) - i).toNat → K [pI (gSl3 s b mo (rpM s mo m i a)).1] (gSl3 s b mo (rpM s mo m i a)).2 → wX encM bdM mX3_slow 0 0 K Pt 100 [some (pR 0), some (pI b), some (pI mo), some (pI a), some (pI i)] [] s := by
  intro m
  induction m with
  | zero =>
    intro i a ha h0 h1 hm2 hK
    refine wx_J [11, 100] 9 tX3_slow_ok rfl (fun J hR hJ => ?_)
    refine ⟨⟨by omega, by omega⟩, fun hx => ⟨⟨⟨by omega, by omega⟩, hx⟩, fun _ => ?_, fun q => absurd q (by omega)⟩⟩
    exact ⟨⟨by omega, by omega⟩, hm, ⟨hm, by show (0 : Int) ≤ 0; omega, by show (0 : Int) < 16; omega⟩, ha, ⟨ha, by show (0 : Int) ≤ 0 + 1; omega, by show (0 : Int) + 1 < 16; omega⟩, hR _ _ hK⟩
  | succ m ih =>
    intro i a ha h0 h1 hm2 hK
    refine wx_J [11, 100] 9 tX3_slow_ok rfl (fun J hR hJ => ?_)
    rw [rpM] at hK
    have g := ih (i + 1) _ (wI_B _) (by omega) (by omega) (by omega) hK
    have z0 : xB 0 := ⟨by omega, by omega⟩
    have z1 : xB 1 := ⟨by omega, by omega⟩
    have dk : dOk 0 := ⟨by omega, by omega⟩
    have hi : 0 ≤ i ∧ i ≤ 160 := ⟨by omega, by omega⟩
    refine ⟨⟨by omega, by omega⟩, fun hx => ⟨⟨⟨by omega, by omega⟩, hx⟩, fun q => absurd q (by omega), fun _ => ⟨⟨by omega, by omega⟩, fun hy => ⟨⟨dk, hi, hy⟩, fun r => ?_, fun r => ?_⟩⟩⟩⟩
    · rw [if_neg (fun z => z.1 r)] at g
      exact ⟨z1, fun _ => ⟨Or.inl rfl, fun _ => hJ _ _ _ _ g⟩, fun q => absurd q (by omega)⟩
    · refine ⟨z0, fun q => absurd rfl q, fun _ => ⟨⟨by omega, by omega⟩, fun _ hz => ⟨⟨dk, hi, hz⟩, fun r2 => ?_, fun r2 => ?_⟩⟩⟩
      · rw [if_pos ⟨r, r2⟩] at g
        exact ⟨z1, fun q => absurd q (by omega), fun _ => ⟨Or.inr rfl, fun _ => hJ _ _ _ _ g⟩⟩
      · rw [if_neg (fun z => r2 z.2)] at g
        exact ⟨z0, fun _ => ⟨Or.inl rfl, fun _ => hJ _ _ _ _ g⟩, fun q => absurd rfl q⟩
theorem X3_slow_l1 {K : KM} {Pt : MS → Prop} (N : Int) (hN : 0 ≤ N ∧ N ≤ 4) : ∀ (m : Nat) (r b mo : Int) (s : MS), mg s (0 * 2804 + 0) = N → (0 ≤ mg s (0 * 2804 + 5) ∧ mg s (0 * 2804 + 5) ≤ 160) → xB b → xB mo → 0 ≤ r → r ≤ N → m = (N - r).toNat → K [pI (gSl2 (slM m r b mo s)).1] (gSl2 (slM m r b mo s)).2 → wX encM bdM mX3_slow 0 0 K Pt 11 [some (pR 0), some (pI b), some (pI mo), some (pI r), none] [] s := by
  intro m
  induction m with
  | zero =>
    intro r b mo s hs h5 hb2 hmo h0 h1 hm hK
    refine wx_J [11, 100] 9 tX3_slow_ok rfl (fun J hR hJ => ?_)
    rw [slM] at hK
    unfold gSl2 at hK
    refine ⟨⟨by omega, by omega⟩, fun hx => ⟨⟨⟨by omega, by omega⟩, hx⟩, fun _ => ?_, fun q => absurd (show r < mg s (0 * 2804 + 0) from q) (by omega)⟩⟩
    refine ⟨hb2, fun c => ?_, fun c => ?_⟩
    · rw [if_neg (Int.not_lt.mpr c)] at hK
      exact hJ _ _ _ _ (X3_slow_l2 s b mo hmo h5 _ 0 0 ⟨by omega, by omega⟩ (by omega) h5.1 (by rw [Int.sub_zero]) hK)
    · rw [if_pos c] at hK
      exact hR _ _ hK
  | succ m ih =>
    intro r b mo s hs h5 hb2 hmo h0 h1 hm hK
    refine wx_J [11, 100] 9 tX3_slow_ok rfl (fun J hR hJ => ?_)
    rw [slM] at hK
    have f0 : mg (mP s (0 * 2804 + (20 + r)) 1) (0 * 2804 + 0) = N := by rw [mg_ne (by omega) (by omega) (by omega)]; exact hs
    have f1 : mg (slS s r) (0 * 2804 + 0) = N := by unfold slS; rw [mg_ne (by omega) (by omega) (by omega)]; exact f0
    have f5 : mg (slS s r) (0 * 2804 + 5) = mg s (0 * 2804 + 5) := by unfold slS; rw [mg_ne (by omega) (by omega) (by omega), mg_ne (by omega) (by omega) (by omega)]
    have hBy : xB (slBy s r) := wI_B _
    refine ⟨⟨by omega, by omega⟩, fun hx => ⟨⟨⟨by omega, by omega⟩, hx⟩, fun q => absurd (show mg s (0 * 2804 + 0) ≤ r from q) (by omega), fun _ => ⟨⟨by omega, by omega⟩, fun hy => ⟨⟨hy, ⟨by omega, by omega⟩⟩, fun c => ?_, fun c => ?_⟩⟩⟩⟩
    · rw [if_neg c] at hK
      refine ⟨⟨⟨by omega, by omega⟩, ⟨by omega, by omega⟩⟩, ⟨⟨by omega, by omega⟩, by rw [f0]; omega⟩, fun hl => ⟨⟨by omega, by omega⟩, fun hp hz => ⟨⟨⟨by omega, by omega⟩, ⟨by omega, by omega⟩⟩, ⟨⟨hz, hmo⟩, fun c2 => ?_, fun c2 => ?_⟩⟩⟩⟩
      · have c2 : slBy s r ≤ mo := c2
        rw [if_neg (Int.not_lt.mpr c2)] at hK
        exact hJ _ _ _ _ (ih (r + 1) b mo (slS s r) f1 (by rw [f5]; exact h5) hb2 hmo (by omega) (by omega) (by omega) hK)
      · have c2 : mo < slBy s r := c2
        rw [if_pos c2] at hK
        exact hJ _ _ _ _ (ih (r + 1) r (slBy s r) (slS s r) f1 (by rw [f5]; exact h5) ⟨by omega, by omega⟩ hBy (by omega) (by omega) (by omega) hK)
    · rw [if_pos c] at hK
      exact hJ _ _ _ _ (ih (r + 1) b mo s hs h5 hb2 hmo (by omega) (by omega) (by omega) hK)
def sX3_slow : MS → KM → Prop := fun s K => ((0 ≤ mg s (0 * 2804 + 0) ∧ mg s (0 * 2804 + 0) ≤ 4) ∧ 0 ≤ mg s (0 * 2804 + 5) ∧ mg s (0 * 2804 + 5) ≤ 160) ∧ K [pI (gSlow s).1] (gSlow s).2
theorem mX3_slow_ok : mOk encM bdM mX3_slow (atR 0 (a0 sX3_slow)) := by
  refine mOVa0 kX3_slow (fun _ => rfl) (fun s K h hb => wx_J [11, 100] 9 tX3_slow_ok rfl (fun J hR hJ => ?_))
  obtain ⟨⟨h1, h2⟩, hK⟩ := h
  exact ⟨⟨by omega, by omega⟩, hJ _ _ _ _ (X3_slow_l1 (mg s (0 * 2804 + 0)) h1 _ 0 (-1) 0 (mS s 0 0) rfl h2 ⟨by omega, by omega⟩ ⟨by omega, by omega⟩ (by omega) h1.1 (by rw [Int.sub_zero]) hK)⟩
def gWoS (s : MS) : MS := mP (mCopy (mS s 0 0) 0 4) (4 * 2804 + 6) 0
def gWouldP (s : MS) (k t v r : Int) (n : Nat) (K : Int → MS → Prop) : Prop := (¬ mEv (mS s 0 0) k t v r → K (-1) (mS s 0 0)) ∧ (mEv (mS s 0 0) k t v r → (0 ≤ mg (gWoS s) (4 * 2804 + 6) ∧ mg (gWoS s) (4 * 2804 + 6) ≤ 159) ∧ mComeP (gWoS s) 4 k t v r n (fun s' => K (mHow (gWoS s) 4 t) (mEn (mEn (mS s' 1 0) (s'.1 12)) (wI (mg s' (4 * 2804 + 7) - mg s' (0 * 2804 + 7))))))
def sX3_would : Int → Int → Int → Int → MS → KM → Prop := fun k t v r s K => ((xB k ∧ xB t ∧ xB v ∧ xB r) ∧ mok1 s) ∧ ∃ n, gWouldP s k t v r n (fun a s' => K [pI a] s')
theorem mX3_would_ok : mOk encM bdM mX3_would (atR 0 (a4 sX3_would)) := by
  refine mOVa4 kX3_would (fun _ _ _ _ => rfl) (fun k t v r s K h hb => wx_J [] 9 tX3_would_ok rfl (fun J hR hJ => ?_))
  obtain ⟨⟨⟨h1, h2, h3, h4⟩, h5⟩, n, p1, p2⟩ := h
  refine ⟨⟨by omega, by omega⟩, ⟨⟨⟨h1, h2, h3, h4⟩, h5.1⟩, fun c => ?_, fun c => ?_⟩⟩
  · obtain ⟨q1, q2⟩ := p2 c
    have hr : r < mg s 0 := c.2.2.2.2
    have hr0 : 0 ≤ r := c.2.2.2.1
    refine ⟨⟨by omega, by omega⟩, fun _ => ⟨⟨⟨by omega, by omega⟩, by omega, by omega⟩, ⟨⟨⟨by omega, by omega⟩, ⟨by omega, by omega⟩⟩, ⟨⟨⟨by omega, by omega⟩, ⟨by omega, by omega⟩, ⟨h1, h2, h3⟩, q1⟩, n, mComeP_mono (fun s' z u1 u2 => ?_) q2⟩⟩⟩, fun q => absurd q (by omega)⟩
    exact ⟨⟨by omega, by omega⟩, fun hm => ⟨hm, ⟨hm, by show (0 : Int) ≤ 0; omega, by show (0 : Int) < 16; omega⟩, ⟨by omega, by omega⟩, fun _ => ⟨⟨by omega, by omega⟩, fun _ hz => ⟨hz, ⟨hz, by show (0 : Int) ≤ 0 + 1; omega, by show (0 : Int) + 1 < 16; omega⟩, hR _ _ z⟩⟩⟩⟩
  · exact ⟨⟨by omega, by omega⟩, fun q => absurd rfl q, fun _ => hR _ _ (p1 c)⟩
end
-- 67.Mx
section
/-! ===== the model: played again ===== -/
def saL : Nat → Int → MS → MS
  | 0, _, s => s
  | m + 1, r, s => saL m (r + 1) (mP s (4 * 2804 + (16 + r)) (mg s (0 * 2804 + (16 + r))))
def mStartA (s : MS) (g l e : Int) : MS := saL 4 0 (mStarts s 4 (mg s (0 * 2804 + 0)) g l e)
theorem X3_startsAgain_l {K : KM} {Pt : MS → Prop} : ∀ (m : Nat) (r : Int) (s : MS), 0 ≤ r → r ≤ 4 → m = (4 - r).toNat → K [] (saL m r s) → wX encM bdM mX3_startsAgain 0 0 K Pt 17 [some (pR 0), none, none, none, some (pI r)] [] s := by
  intro m
  induction m with
  | zero =>
    intro r s h0 h1 hm hK
    refine wx_J [17] 9 tX3_startsAgain_ok rfl (fun J hR hJ => ?_)
    repeat' (first | (refine And.intro ?_ ?_) | (intro hq; first | (exact absurd hq (by omega)) | skip))
    all_goals first | omega | exact hR _ _ hK
  | succ m ih =>
    intro r s h0 h1 hm hK
    refine wx_J [17] 9 tX3_startsAgain_ok rfl (fun J hR hJ => ?_)
    rw [saL] at hK
    have g := ih (r + 1) _ (by omega) (by omega) (by omega) hK
    repeat' (first | (refine And.intro ?_ ?_) | (intro hq; first | (exact absurd hq (by omega)) | skip))
    all_goals first | omega | exact hJ _ _ _ _ g
def sX3_startsAgain : Int → Int → Int → MS → KM → Prop := fun g l e s K => (xB g ∧ xB l ∧ xB e) ∧ K [] (mStartA s g l e)
theorem mX3_startsAgain_ok : mOk encM bdM mX3_startsAgain (atR 0 (a3 sX3_startsAgain)) := by
  refine mOVa3 kX3_startsAgain (fun _ _ _ => rfl) (fun g l e s K h hb => wx_J [17] 9 tX3_startsAgain_ok rfl (fun J hR hJ => ?_))
  obtain ⟨⟨h1, h2, h3⟩, hK⟩ := h
  exact ⟨⟨by omega, by omega⟩, fun hx => ⟨⟨⟨by omega, by omega⟩, hx, h1, h2, h3⟩, hJ _ _ _ _ (X3_startsAgain_l 4 0 _ (by omega) (by omega) (by omega) hK)⟩⟩
def cM_X3_startsAgain : Sp MS := atR 0 (a3 sX3_startsAgain)
theorem qM_X3_startsAgain {M : XI} {rc rs pc pc2 : Nat} (d : xl_Ca M pc mX3_startsAgain pc2) : cOk encM bdM M rc rs pc pc2 4 cM_X3_startsAgain := cSame mX3_startsAgain_ok vX3_startsAgain d mcl rfl lenM recM
/-- an input comes to a desk again -/
abbrev iC (s : MS) (i c : Int) : Int := mg s (1844 + 6 * i + c)
def agP (s : MS) (d i : Int) (n : Nat) (K : MS → Prop) : Prop := ((0 ≤ iC s i 1 ∧ iC s i 1 ≤ 3) ∧ 0 ≤ mg s (d * 2804 + 6) ∧ mg s (d * 2804 + 6) ≤ 159) ∧ (iC s i 0 = 0 → mComeP s d (iC s i 3) (iC s i 2) (iC s i 4) (iC s i 1) n K) ∧ (iC s i 0 ≠ 0 → (iC s i 0 = 1 → mMarkP s d (iC s i 1) (iC s i 2) n K) ∧ (iC s i 0 ≠ 1 → mIdleP s d (iC s i 1) n K))
def sX3_comesAgain : Int → Int → MS → KM → Prop := fun d i s K => (dOk d ∧ 0 ≤ i ∧ i ≤ 159) ∧ ∃ n, agP s d i n (K [])
theorem mX3_comesAgain_ok : mOk encM bdM mX3_comesAgain (atR 0 (a2 sX3_comesAgain)) := by
  refine mOVa2 kX3_comesAgain (fun _ _ => rfl) (fun d i s K h hb => wx_J [] 9 tX3_comesAgain_ok rfl (fun J hR hJ => ?_))
  obtain ⟨⟨h1, h2⟩, n, ⟨p1, p2⟩, p3, p4⟩ := h
  refine ⟨⟨by omega, by omega⟩, fun b1 => ⟨⟨by omega, by omega⟩, fun b2 => ⟨⟨by omega, by omega⟩, fun b0 => ⟨b0, fun c => ?_, fun c => ?_⟩⟩⟩⟩
  · obtain ⟨q1, q2⟩ := p4 c
    refine ⟨⟨by omega, by omega⟩, fun b3 => ⟨⟨b3, ⟨by omega, by omega⟩⟩, fun c2 => ?_, fun c2 => ?_⟩⟩
    · obtain ⟨r1, r2⟩ := q2 c2
      exact ⟨⟨h1, p1, p2⟩, n, r1, mRisP_mono (fun s' z => hR _ _ z) r2⟩
    · obtain ⟨r1, r2⟩ := q1 c2
      exact ⟨⟨h1, p1, b2, p2⟩, n, r1, mRisP_mono (fun s' z => hR _ _ z) r2⟩
  · refine ⟨⟨by omega, by omega⟩, fun b3 => ⟨⟨by omega, by omega⟩, fun b4 => ⟨⟨h1, p1, ⟨b3, b2, b4⟩, p2⟩, n, mComeP_mono (fun s' z _ _ => hR _ _ z) (p3 c)⟩⟩⟩
def cM_X3_comesAgain : Sp MS := atR 0 (a2 sX3_comesAgain)
theorem qM_X3_comesAgain {M : XI} {rc rs pc pc2 : Nat} (d : xl_Ca M pc mX3_comesAgain pc2) : cOk encM bdM M rc rs pc pc2 3 cM_X3_comesAgain := cSame mX3_comesAgain_ok vX3_comesAgain d mcl rfl lenM recM
theorem agP_mono {s : MS} {d i : Int} {n : Nat} {K K' : MS → Prop} (h : ∀ s, K s → K' s) (q : agP s d i n K) : agP s d i n K' :=
  ⟨q.1, fun c => mComeP_mono h (q.2.1 c), fun c => ⟨fun z => ⟨((q.2.2 c).1 z).1, mRisP_mono h ((q.2.2 c).1 z).2⟩, fun z => ⟨((q.2.2 c).2 z).1, mRisP_mono h ((q.2.2 c).2 z).2⟩⟩⟩
def mDraw (s : MS) : MS := mS s 21 (dAfter (s.1 21))
def sX3_draws : Int → MS → KM → Prop := fun n s K => (xB n ∧ 0 < n) ∧ (xB (dOf (dAfter (s.1 21)) n) → K [pI (dOf (dAfter (s.1 21)) n)] (mDraw s))
theorem mX3_draws_ok : mOk encM bdM mX3_draws (atR 0 (a1 sX3_draws)) := by
  refine mOVa1 kX3_draws (fun _ => rfl) (fun n s K h hb => wx_J [] 9 tX3_draws_ok rfl (fun J hR hJ => ?_))
  obtain ⟨⟨h1, h2⟩, h3⟩ := h
  have hK := h3 (dOf_B h1)
  unfold dOf at hK
  rw [if_pos h2] at hK
  exact fun _ _ hx => ⟨hx, fun _ => ⟨⟨by omega, xb_of _, h1⟩, hR _ _ hK⟩⟩
def cM_X3_draws : Sp MS := atR 0 (a1 sX3_draws)
theorem qM_X3_draws {M : XI} {rc rs pc pc2 : Nat} (d : xl_Ca M pc mX3_draws pc2) : cOk encM bdM M rc rs pc pc2 2 cM_X3_draws := cSame mX3_draws_ok vX3_draws d mcl rfl lenM recM
-- X3_latest: heads [33]
def tX3_latest : Nat → Blk MS := fun pc => bif Nat.blt pc 70 then (bif Nat.blt pc 33 then (bif Nat.beq pc 0 then (oAld 0 <| oI 0 <| oPut (fpM) 3 0 <| oAld 0 <| oAld 0 <| oI 0 <| oI 1 <| oC3 (cM_X3_of) <| oAld 0 <| oI 0 <| oI 2 <| oC3 (cM_X3_of) <| oAld 0 <| oI 0 <| oI 3 <| oC3 (cM_X3_of) <| oC4 (cM_X3_startsAgain) <| oI 0 <| oIst 1 <| oI (-1) <| oIst 2 <| oI 0 <| oIst 3 <| oM [true, true, true, true, false] (oTo 33)) else oNo) else (bif Nat.blt pc 69 then (bif Nat.beq pc 33 then (oIld 3 <| oAld 0 <| oI 0 <| oI 6 <| oC3 (cM_X3_of) <| oCGe 95 <| oAld 0 <| oIld 3 <| oI 0 <| oC3 (cM_X3_ofInput) <| oZNe 69 <| oAld 0 <| oI 4 <| oI 4 <| oC3 (cM_X3_of) <| oAld 0 <| oIld 3 <| oI 2 <| oC3 (cM_X3_ofInput) <| oSubW <| oTo 70) else oNo) else (bif Nat.beq pc 69 then (oI 0 <| oTo 70) else oNo))) else (bif Nat.blt pc 83 then (bif Nat.beq pc 70 then (oIst 4 <| oIld 4 <| oIld 1 <| oCLe 83 <| oIld 4 <| oIst 1 <| oIld 3 <| oIst 2 <| oTo 83) else oNo) else (bif Nat.blt pc 95 then (bif Nat.beq pc 83 then (oAld 0 <| oI 4 <| oIld 3 <| oC3 (cM_X3_comesAgain) <| oInc 3 1 <| oM [true, true, true, true, false] (oTo 33)) else oNo) else (bif Nat.beq pc 95 then (oAld 0 <| oI 0 <| oPut (fpM) 3 1 <| oAld 0 <| oIld 2 <| oI2l <| oC2 (cM_X3_enters) <| oIld 1 <| oIret) else oNo)))
theorem tX3_latest_ok : ∀ pc, bOk (encM) (bdM) mX3_latest 0 0 pc (tX3_latest pc) := fun pc => (tNode (tNode (tLeaf (okAldn iX3_latest_0 rfl <| okIc iX3_latest_1 <| okPut (vFpM) iX3_latest_2 <| okAldn iX3_latest_5 rfl <| okAldn iX3_latest_6 rfl <| okIc iX3_latest_7 <| okIc iX3_latest_8 <| okC3 (qM_X3_of iX3_latest_9) <| okAldn iX3_latest_12 rfl <| okIc iX3_latest_13 <| okIc iX3_latest_14 <| okC3 (qM_X3_of iX3_latest_15) <| okAldn iX3_latest_18 rfl <| okIc iX3_latest_19 <| okIc iX3_latest_20 <| okC3 (qM_X3_of iX3_latest_21) <| okC4 (qM_X3_startsAgain iX3_latest_24) <| okIc iX3_latest_27 <| okIstn iX3_latest_28 rfl (by decide) <| okIc iX3_latest_29 <| okIstn iX3_latest_30 rfl (by decide) <| okIc iX3_latest_31 <| okIstn iX3_latest_32 rfl (by decide) <| okM (okTo (tl rfl)))) (tNode (tLeaf (okIldn iX3_latest_33 rfl <| okAldn iX3_latest_34 rfl <| okIc iX3_latest_35 <| okBi iX3_latest_36 (by decide) <| okC3 (qM_X3_of iX3_latest_38) <| okCGe (tl rfl) iX3_latest_41 <| okAldn iX3_latest_44 rfl <| okIldn iX3_latest_45 rfl <| okIc iX3_latest_46 <| okC3 (qM_X3_ofInput iX3_latest_47) <| okZNe (tl rfl) iX3_latest_50 <| okAldn iX3_latest_53 rfl <| okIc iX3_latest_54 <| okIc iX3_latest_55 <| okC3 (qM_X3_of iX3_latest_56) <| okAldn iX3_latest_59 rfl <| okIldn iX3_latest_60 rfl <| okIc iX3_latest_61 <| okC3 (qM_X3_ofInput iX3_latest_62) <| okSubW iX3_latest_65 <| okGoto (tl rfl) iX3_latest_66)) (tLeaf (okIc iX3_latest_69 <| okTo (tl rfl))))) (tNode (tLeaf (okIst iX3_latest_70 (by decide) <| okIld iX3_latest_72 <| okIldn iX3_latest_74 rfl <| okCLe (tl rfl) iX3_latest_75 <| okIld iX3_latest_78 <| okIstn iX3_latest_80 rfl (by decide) <| okIldn iX3_latest_81 rfl <| okIstn iX3_latest_82 rfl (by decide) <| okTo (tl rfl))) (tNode (tLeaf (okAldn iX3_latest_83 rfl <| okIc iX3_latest_84 <| okIldn iX3_latest_85 rfl <| okC3 (qM_X3_comesAgain iX3_latest_86) <| okInc iX3_latest_89 (by decide) <| okGotoM (tl rfl) iX3_latest_92)) (tLeaf (okAldn iX3_latest_95 rfl <| okIc iX3_latest_96 <| okPut (vFpM) iX3_latest_97 <| okAldn iX3_latest_100 rfl <| okIldn iX3_latest_101 rfl <| okI2l iX3_latest_102 <| okC2 (qM_X3_enters iX3_latest_103) <| okIldn iX3_latest_106 rfl <| okIret iX3_latest_107 rfl))))) pc
-- X3_again: heads [26, 59]
def tX3_again : Nat → Blk MS := fun pc => bif Nat.blt pc 51 then (bif Nat.blt pc 16 then (bif Nat.beq pc 0 then (oAld 0 <| oI 0 <| oPut (fpM) 3 0 <| oIld 1 <| oIld 2 <| oIld 3 <| oC3 (cM_X3_areSettings) <| oZNe 16 <| oI (-1) <| oIret) else oNo) else (bif Nat.blt pc 26 then (bif Nat.beq pc 16 then (oAld 0 <| oIld 1 <| oIld 2 <| oIld 3 <| oC4 (cM_X3_startsAgain) <| oI 0 <| oIst 4 <| oM [true, false, false, false, true] (oTo 26)) else oNo) else (bif Nat.beq pc 26 then (oIld 4 <| oAld 0 <| oI 0 <| oI 6 <| oC3 (cM_X3_of) <| oCGe 51 <| oAld 0 <| oI 4 <| oIld 4 <| oC3 (cM_X3_comesAgain) <| oInc 4 1 <| oM [true, false, false, false, true] (oTo 26)) else oNo))) else (bif Nat.blt pc 59 then (bif Nat.beq pc 51 then (oAld 0 <| oI 0 <| oPut (fpM) 3 1 <| oI 0 <| oIst 4 <| oM [true, false, false, false, true] (oTo 59)) else oNo) else (bif Nat.blt pc 86 then (bif Nat.beq pc 59 then (oIld 4 <| oI 4 <| oCGe 86 <| oAld 0 <| oAld 0 <| oI 4 <| oI 32 <| oIld 4 <| oAdd <| oC3 (cM_X3_of) <| oI2l <| oC2 (cM_X3_enters) <| oInc 4 1 <| oM [true, false, false, false, true] (oTo 59)) else oNo) else (bif Nat.beq pc 86 then (oAld 0 <| oAld 0 <| oI 4 <| oI 5 <| oC3 (cM_X3_of) <| oI2l <| oC2 (cM_X3_enters) <| oAld 0 <| oAld 0 <| oI 4 <| oC2 (cM_X3_closedMany) <| oI2l <| oC2 (cM_X3_enters) <| oAld 0 <| oI 4 <| oI 10 <| oC3 (cM_X3_of) <| oIret) else oNo)))
theorem tX3_again_ok : ∀ pc, bOk (encM) (bdM) mX3_again 0 0 pc (tX3_again pc) := fun pc => (tNode (tNode (tLeaf (okAldn iX3_again_0 rfl <| okIc iX3_again_1 <| okPut (vFpM) iX3_again_2 <| okIldn iX3_again_5 rfl <| okIldn iX3_again_6 rfl <| okIldn iX3_again_7 rfl <| okC3 (qM_X3_areSettings iX3_again_8) <| okZNe (tl rfl) iX3_again_11 <| okIc iX3_again_14 <| okIret iX3_again_15 rfl)) (tNode (tLeaf (okAldn iX3_again_16 rfl <| okIldn iX3_again_17 rfl <| okIldn iX3_again_18 rfl <| okIldn iX3_again_19 rfl <| okC4 (qM_X3_startsAgain iX3_again_20) <| okIc iX3_again_23 <| okIst iX3_again_24 (by decide) <| okM (okTo (tl rfl)))) (tLeaf (okIld iX3_again_26 <| okAldn iX3_again_28 rfl <| okIc iX3_again_29 <| okBi iX3_again_30 (by decide) <| okC3 (qM_X3_of iX3_again_32) <| okCGe (tl rfl) iX3_again_35 <| okAldn iX3_again_38 rfl <| okIc iX3_again_39 <| okIld iX3_again_40 <| okC3 (qM_X3_comesAgain iX3_again_42) <| okInc iX3_again_45 (by decide) <| okGotoM (tl rfl) iX3_again_48)))) (tNode (tLeaf (okAldn iX3_again_51 rfl <| okIc iX3_again_52 <| okPut (vFpM) iX3_again_53 <| okIc iX3_again_56 <| okIst iX3_again_57 (by decide) <| okM (okTo (tl rfl)))) (tNode (tLeaf (okIld iX3_again_59 <| okIc iX3_again_61 <| okCGe (tl rfl) iX3_again_62 <| okAldn iX3_again_65 rfl <| okAldn iX3_again_66 rfl <| okIc iX3_again_67 <| okBi iX3_again_68 (by decide) <| okIld iX3_again_70 <| okAdd iX3_again_72 <| okC3 (qM_X3_of iX3_again_73) <| okI2l iX3_again_76 <| okC2 (qM_X3_enters iX3_again_77) <| okInc iX3_again_80 (by decide) <| okGotoM (tl rfl) iX3_again_83)) (tLeaf (okAldn iX3_again_86 rfl <| okAldn iX3_again_87 rfl <| okIc iX3_again_88 <| okIc iX3_again_89 <| okC3 (qM_X3_of iX3_again_90) <| okI2l iX3_again_93 <| okC2 (qM_X3_enters iX3_again_94) <| okAldn iX3_again_97 rfl <| okAldn iX3_again_98 rfl <| okIc iX3_again_99 <| okC2 (qM_X3_closedMany iX3_again_100) <| okI2l iX3_again_103 <| okC2 (qM_X3_enters iX3_again_104) <| okAldn iX3_again_107 rfl <| okIc iX3_again_108 <| okBi iX3_again_109 (by decide) <| okC3 (qM_X3_of iX3_again_111) <| okIret iX3_again_114 rfl))))) pc
-- X3_without: heads [62]
def tX3_without : Nat → Blk MS := fun pc => bif Nat.blt pc 62 then (bif Nat.blt pc 15 then (bif Nat.beq pc 0 then (oAld 0 <| oI 0 <| oPut (fpM) 3 0 <| oAld 0 <| oIld 1 <| oC2 (cM_X3_isSource) <| oZNe 15 <| oI (-1) <| oIret) else oNo) else (bif Nat.blt pc 28 then (bif Nat.beq pc 15 then (oAld 0 <| oI 0 <| oI 0 <| oC3 (cM_X3_of) <| oI 1 <| oCNe 28 <| oI (-2) <| oIret) else oNo) else (bif Nat.beq pc 28 then (oAld 0 <| oAld 0 <| oI 0 <| oI 1 <| oC3 (cM_X3_of) <| oAld 0 <| oI 0 <| oI 2 <| oC3 (cM_X3_of) <| oAld 0 <| oI 0 <| oI 3 <| oC3 (cM_X3_of) <| oC4 (cM_X3_startsAgain) <| oAld 0 <| oI 4 <| oI 20 <| oIld 1 <| oAdd <| oI 1 <| oC4 (cM_X3_puts) <| oI 0 <| oIst 2 <| oM [true, true, true] (oTo 62)) else oNo))) else (bif Nat.blt pc 89 then (bif Nat.beq pc 62 then (oIld 2 <| oAld 0 <| oI 0 <| oI 6 <| oC3 (cM_X3_of) <| oCGe 95 <| oAld 0 <| oIld 2 <| oI 1 <| oC3 (cM_X3_ofInput) <| oIld 1 <| oCEq 89 <| oAld 0 <| oI 4 <| oIld 2 <| oC3 (cM_X3_comesAgain) <| oTo 89) else oNo) else (bif Nat.blt pc 95 then (bif Nat.beq pc 89 then (oInc 2 1 <| oM [true, true, true] (oTo 62)) else oNo) else (bif Nat.beq pc 95 then (oAld 0 <| oI 0 <| oPut (fpM) 3 1 <| oAld 0 <| oAld 0 <| oI 4 <| oI 10 <| oC3 (cM_X3_of) <| oI2l <| oC2 (cM_X3_enters) <| oAld 0 <| oAld 0 <| oI 4 <| oI 5 <| oC3 (cM_X3_of) <| oI2l <| oC2 (cM_X3_enters) <| oAld 0 <| oAld 0 <| oI 4 <| oC2 (cM_X3_closedMany) <| oI2l <| oC2 (cM_X3_enters) <| oAld 0 <| oI 4 <| oI 4 <| oC3 (cM_X3_of) <| oIret) else oNo)))
theorem tX3_without_ok : ∀ pc, bOk (encM) (bdM) mX3_without 0 0 pc (tX3_without pc) := fun pc => (tNode (tNode (tLeaf (okAldn iX3_without_0 rfl <| okIc iX3_without_1 <| okPut (vFpM) iX3_without_2 <| okAldn iX3_without_5 rfl <| okIldn iX3_without_6 rfl <| okC2 (qM_X3_isSource iX3_without_7) <| okZNe (tl rfl) iX3_without_10 <| okIc iX3_without_13 <| okIret iX3_without_14 rfl)) (tNode (tLeaf (okAldn iX3_without_15 rfl <| okIc iX3_without_16 <| okIc iX3_without_17 <| okC3 (qM_X3_of iX3_without_18) <| okIc iX3_without_21 <| okCNe (tl rfl) iX3_without_22 <| okBi iX3_without_25 (by decide) <| okIret iX3_without_27 rfl)) (tLeaf (okAldn iX3_without_28 rfl <| okAldn iX3_without_29 rfl <| okIc iX3_without_30 <| okIc iX3_without_31 <| okC3 (qM_X3_of iX3_without_32) <| okAldn iX3_without_35 rfl <| okIc iX3_without_36 <| okIc iX3_without_37 <| okC3 (qM_X3_of iX3_without_38) <| okAldn iX3_without_41 rfl <| okIc iX3_without_42 <| okIc iX3_without_43 <| okC3 (qM_X3_of iX3_without_44) <| okC4 (qM_X3_startsAgain iX3_without_47) <| okAldn iX3_without_50 rfl <| okIc iX3_without_51 <| okBi iX3_without_52 (by decide) <| okIldn iX3_without_54 rfl <| okAdd iX3_without_55 <| okIc iX3_without_56 <| okC4 (qM_X3_puts iX3_without_57) <| okIc iX3_without_60 <| okIstn iX3_without_61 rfl (by decide) <| okM (okTo (tl rfl)))))) (tNode (tLeaf (okIldn iX3_without_62 rfl <| okAldn iX3_without_63 rfl <| okIc iX3_without_64 <| okBi iX3_without_65 (by decide) <| okC3 (qM_X3_of iX3_without_67) <| okCGe (tl rfl) iX3_without_70 <| okAldn iX3_without_73 rfl <| okIldn iX3_without_74 rfl <| okIc iX3_without_75 <| okC3 (qM_X3_ofInput iX3_without_76) <| okIldn iX3_without_79 rfl <| okCEq (tl rfl) iX3_without_80 <| okAldn iX3_without_83 rfl <| okIc iX3_without_84 <| okIldn iX3_without_85 rfl <| okC3 (qM_X3_comesAgain iX3_without_86) <| okTo (tl rfl))) (tNode (tLeaf (okInc iX3_without_89 (by decide) <| okGotoM (tl rfl) iX3_without_92)) (tLeaf (okAldn iX3_without_95 rfl <| okIc iX3_without_96 <| okPut (vFpM) iX3_without_97 <| okAldn iX3_without_100 rfl <| okAldn iX3_without_101 rfl <| okIc iX3_without_102 <| okBi iX3_without_103 (by decide) <| okC3 (qM_X3_of iX3_without_105) <| okI2l iX3_without_108 <| okC2 (qM_X3_enters iX3_without_109) <| okAldn iX3_without_112 rfl <| okAldn iX3_without_113 rfl <| okIc iX3_without_114 <| okIc iX3_without_115 <| okC3 (qM_X3_of iX3_without_116) <| okI2l iX3_without_119 <| okC2 (qM_X3_enters iX3_without_120) <| okAldn iX3_without_123 rfl <| okAldn iX3_without_124 rfl <| okIc iX3_without_125 <| okC2 (qM_X3_closedMany iX3_without_126) <| okI2l iX3_without_129 <| okC2 (qM_X3_enters iX3_without_130) <| okAldn iX3_without_133 rfl <| okIc iX3_without_134 <| okIc iX3_without_135 <| okC3 (qM_X3_of iX3_without_136) <| okIret iX3_without_139 rfl))))) pc
-- X3_years: heads [35]
def tX3_years : Nat → Blk MS := fun pc => bif Nat.blt pc 131 then (bif Nat.blt pc 35 then (bif Nat.blt pc 19 then (bif Nat.beq pc 0 then (oAld 0 <| oI 0 <| oPut (fpM) 3 0 <| oIld 2 <| oI2l <| oJ 1 <| oJ 40 <| oC3 (cM_X3_in) <| oZNe 19 <| oI (-1) <| oIret) else oNo) else (bif Nat.beq pc 19 then (oAld 0 <| oIld 1 <| oPut (fpM) 3 21 <| oAld 0 <| oI 0 <| oI 4 <| oC3 (cM_X3_copies) <| oI 0 <| oIst 3 <| oI 0 <| oIst 4 <| oM [true, false, true, true, true, false, false, false, false] (oTo 35)) else oNo)) else (bif Nat.blt pc 117 then (bif Nat.beq pc 35 then (oIld 4 <| oIld 2 <| oCGe 169 <| oAld 0 <| oI 4 <| oI 6 <| oC3 (cM_X3_of) <| oI 160 <| oCGe 169 <| oAld 0 <| oI 6 <| oC2 (cM_X3_draws) <| oIst 5 <| oAld 0 <| oI 4 <| oI 4 <| oC3 (cM_X3_of) <| oAld 0 <| oI 4 <| oI 2 <| oC3 (cM_X3_of) <| oSubW <| oAld 0 <| oI 100 <| oC2 (cM_X3_draws) <| oAddW <| oIst 6 <| oAld 0 <| oI 199 <| oC2 (cM_X3_draws) <| oI 99 <| oSubW <| oIst 7 <| oAld 0 <| oAld 0 <| oI 4 <| oI 0 <| oC3 (cM_X3_of) <| oC2 (cM_X3_draws) <| oIst 8 <| oIld 6 <| oZGe 117 <| oI 0 <| oTo 133) else oNo) else (bif Nat.beq pc 117 then (oIld 6 <| oI 9999 <| oCLe 131 <| oI 9999 <| oTo 133) else oNo))) else (bif Nat.blt pc 157 then (bif Nat.blt pc 133 then (bif Nat.beq pc 131 then (oIld 6 <| oTo 133) else oNo) else (bif Nat.beq pc 133 then (oIst 6 <| oIld 3 <| oAld 0 <| oI 4 <| oIld 5 <| oIld 6 <| oIld 7 <| oIld 8 <| oC6 (cM_X3_comes) <| oI 2 <| oCGe 157 <| oI 1 <| oTo 158) else oNo)) else (bif Nat.blt pc 158 then (bif Nat.beq pc 157 then (oI 0 <| oTo 158) else oNo) else (bif Nat.blt pc 169 then (bif Nat.beq pc 158 then (oC1 (cM_X3_flag) <| oAddW <| oIst 3 <| oInc 4 1 <| oM [true, false, true, true, true, false, false, false, false] (oTo 35)) else oNo) else (bif Nat.beq pc 169 then (oAld 0 <| oI 4 <| oAld 0 <| oI 0 <| oI 7 <| oC3 (cM_X3_of) <| oC3 (cM_X3_entersSince) <| oIld 3 <| oIret) else oNo))))
theorem tX3_years_ok : ∀ pc, bOk (encM) (bdM) mX3_years 0 0 pc (tX3_years pc) := fun pc => (tNode (tNode (tNode (tLeaf (okAldn iX3_years_0 rfl <| okIc iX3_years_1 <| okPut (vFpM) iX3_years_2 <| okIldn iX3_years_5 rfl <| okI2l iX3_years_6 <| okLc iX3_years_7 rfl <| okLdc2 (v := 40) iX3_years_8 ((wc_t6 15 rfl rfl)) (by decide) <| okC3 (qM_X3_in iX3_years_11) <| okZNe (tl rfl) iX3_years_14 <| okIc iX3_years_17 <| okIret iX3_years_18 rfl)) (tLeaf (okAldn iX3_years_19 rfl <| okIldn iX3_years_20 rfl <| okPut (vFpM) iX3_years_21 <| okAldn iX3_years_24 rfl <| okIc iX3_years_25 <| okIc iX3_years_26 <| okC3 (qM_X3_copies iX3_years_27) <| okIc iX3_years_30 <| okIstn iX3_years_31 rfl (by decide) <| okIc iX3_years_32 <| okIst iX3_years_33 (by decide) <| okM (okTo (tl rfl))))) (tNode (tLeaf (okIld iX3_years_35 <| okIldn iX3_years_37 rfl <| okCGe (tl rfl) iX3_years_38 <| okAldn iX3_years_41 rfl <| okIc iX3_years_42 <| okBi iX3_years_43 (by decide) <| okC3 (qM_X3_of iX3_years_45) <| okSi iX3_years_48 (by decide) <| okCGe (tl rfl) iX3_years_51 <| okAldn iX3_years_54 rfl <| okBi iX3_years_55 (by decide) <| okC2 (qM_X3_draws iX3_years_57) <| okIst iX3_years_60 (by decide) <| okAldn iX3_years_62 rfl <| okIc iX3_years_63 <| okIc iX3_years_64 <| okC3 (qM_X3_of iX3_years_65) <| okAldn iX3_years_68 rfl <| okIc iX3_years_69 <| okIc iX3_years_70 <| okC3 (qM_X3_of iX3_years_71) <| okSubW iX3_years_74 <| okAldn iX3_years_75 rfl <| okBi iX3_years_76 (by decide) <| okC2 (qM_X3_draws iX3_years_78) <| okAddW iX3_years_81 <| okIst iX3_years_82 (by decide) <| okAldn iX3_years_84 rfl <| okSi iX3_years_85 (by decide) <| okC2 (qM_X3_draws iX3_years_88) <| okBi iX3_years_91 (by decide) <| okSubW iX3_years_93 <| okIst iX3_years_94 (by decide) <| okAldn iX3_years_96 rfl <| okAldn iX3_years_97 rfl <| okIc iX3_years_98 <| okIc iX3_years_99 <| okC3 (qM_X3_of iX3_years_100) <| okC2 (qM_X3_draws iX3_years_103) <| okIst iX3_years_106 (by decide) <| okIld iX3_years_108 <| okZGe (tl rfl) iX3_years_110 <| okIc iX3_years_113 <| okGoto (tl rfl) iX3_years_114)) (tLeaf (okIld iX3_years_117 <| okSi iX3_years_119 (by decide) <| okCLe (tl rfl) iX3_years_122 <| okSi iX3_years_125 (by decide) <| okGoto (tl rfl) iX3_years_128)))) (tNode (tNode (tLeaf (okIld iX3_years_131 <| okTo (tl rfl))) (tLeaf (okIst iX3_years_133 (by decide) <| okIldn iX3_years_135 rfl <| okAldn iX3_years_136 rfl <| okIc iX3_years_137 <| okIld iX3_years_138 <| okIld iX3_years_140 <| okIld iX3_years_142 <| okIld iX3_years_144 <| okC6 (qM_X3_comes iX3_years_146) <| okIc iX3_years_149 <| okCGe (tl rfl) iX3_years_150 <| okIc iX3_years_153 <| okGoto (tl rfl) iX3_years_154))) (tNode (tLeaf (okIc iX3_years_157 <| okTo (tl rfl))) (tNode (tLeaf (okC1 (qM_X3_flag iX3_years_158) <| okAddW iX3_years_161 <| okIstn iX3_years_162 rfl (by decide) <| okInc iX3_years_163 (by decide) <| okGotoM (tl rfl) iX3_years_166)) (tLeaf (okAldn iX3_years_169 rfl <| okIc iX3_years_170 <| okAldn iX3_years_171 rfl <| okIc iX3_years_172 <| okBi iX3_years_173 (by decide) <| okC3 (qM_X3_of iX3_years_175) <| okC3 (qM_X3_entersSince iX3_years_178) <| okIldn iX3_years_181 rfl <| okIret iX3_years_182 rfl)))))) pc
abbrev nIn (s : MS) : Int := mg s (0 * 2804 + 6)
/-- how late the latest was -/
def laMv (s : MS) (i : Int) : Int := if iC s i 0 = 0 then wI (mg s (4 * 2804 + 4) - iC s i 2) else 0
def laP (K : Int → Int → MS → Prop) (n2 : Nat) : Nat → Int → Int → Int → MS → Prop
  | 0, i, a, b, s => nIn s ≤ i ∧ K a b s
  | n + 1, i, a, b, s => (nIn s ≤ i → K a b s) ∧ (i < nIn s → i ≤ 159 ∧ (a < laMv s i → agP s 4 i n2 (fun s' => laP K n2 n (i + 1) (laMv s i) i s')) ∧ (laMv s i ≤ a → agP s 4 i n2 (fun s' => laP K n2 n (i + 1) a b s')))
theorem X3_latest_l {K : KM} {Pt : MS → Prop} (n2 : Nat) : ∀ (n : Nat) (i a b : Int) (s : MS), xB a → xB b → 0 ≤ i → i ≤ 160 → laP (fun a b s => K [pI a] (mEn (mS s 1 0) b)) n2 n i a b s → wX encM bdM mX3_latest 0 0 K Pt 33 [some (pR 0), some (pI a), some (pI b), some (pI i), none] [] s := by
  have fin : ∀ (i a b : Int) (s : MS), xB b → 0 ≤ i → i ≤ 160 → nIn s ≤ i → K [pI a] (mEn (mS s 1 0) b) → wX encM bdM mX3_latest 0 0 K Pt 33 [some (pR 0), some (pI a), some (pI b), some (pI i), none] [] s := by
    intro i a b s hb2 h0 h1 hn hK
    refine wx_J [33] 9 tX3_latest_ok rfl (fun J hR hJ => ?_)
    exact ⟨⟨by omega, by omega⟩, fun hx => ⟨⟨⟨by omega, by omega⟩, hx⟩, fun _ => ⟨⟨by omega, by omega⟩, hb2, ⟨hb2, by show (0 : Int) ≤ 0; omega, by show (0 : Int) < 16; omega⟩, hR _ _ hK⟩, fun q => absurd (show i < mg s (0 * 2804 + 6) from q) (Int.not_lt.mpr hn)⟩⟩
  intro n
  induction n with
  | zero =>
    intro i a b s ha hb2 h0 h1 h
    exact fin i a b s hb2 h0 h1 h.1 h.2
  | succ n ih =>
    intro i a b s ha hb2 h0 h1 h
    obtain ⟨p1, p2⟩ := h
    by_cases c : nIn s ≤ i
    · exact fin i a b s hb2 h0 h1 c (p1 c)
    · obtain ⟨q1, q2, q3⟩ := p2 (by omega)
      refine wx_J [33] 9 tX3_latest_ok rfl (fun J hR hJ => ?_)
      have hl : xB (laMv s i) := by
        unfold laMv
        split
        · exact wI_B _
        · exact ⟨by omega, by omega⟩
      have dk : dOk 4 := ⟨by omega, by omega⟩
      have g1 : a < laMv s i → agP s 4 i n2 (fun s' => J 33 [some (pR 0), some (pI (laMv s i)), some (pI i), some (pI (i + 1)), none] [] s') := fun z => agP_mono (fun s' y => hJ _ _ _ _ (ih _ _ _ _ hl ⟨by omega, by omega⟩ (by omega) (by omega) y)) (q2 z)
      have g2 : laMv s i ≤ a → agP s 4 i n2 (fun s' => J 33 [some (pR 0), some (pI a), some (pI b), some (pI (i + 1)), none] [] s') := fun z => agP_mono (fun s' y => hJ _ _ _ _ (ih _ _ _ _ ha hb2 (by omega) (by omega) y)) (q3 z)
      refine ⟨⟨by omega, by omega⟩, fun hx => ⟨⟨⟨by omega, by omega⟩, hx⟩, fun q => absurd q c, fun _ => ⟨⟨by omega, by omega⟩, fun b0 => ⟨b0, fun e => ?_, fun e => ?_⟩⟩⟩⟩
      · have el : laMv s i = 0 := if_neg e
        rw [el] at g1 g2
        exact ⟨⟨⟨by omega, by omega⟩, ha⟩, fun z => ⟨⟨dk, h0, q1⟩, n2, g2 z⟩, fun z => ⟨⟨dk, h0, q1⟩, n2, g1 z⟩⟩
      · have el : laMv s i = wI (mg s (4 * 2804 + 4) - iC s i 2) := if_pos e
        rw [el] at g1 g2 hl
        exact ⟨⟨by omega, by omega⟩, fun _ => ⟨⟨by omega, by omega⟩, fun _ _ => ⟨⟨hl, ha⟩, fun z => ⟨⟨dk, h0, q1⟩, n2, g2 z⟩, fun z => ⟨⟨dk, h0, q1⟩, n2, g1 z⟩⟩⟩⟩
def gLatS (s : MS) : MS := mStartA (mS s 0 0) (mg s (0 * 2804 + 1)) (mg s (0 * 2804 + 2)) (mg s (0 * 2804 + 3))
def sX3_latest : MS → KM → Prop := fun s K => ∃ n2 n, laP (fun a b s => K [pI a] (mEn (mS s 1 0) b)) n2 n 0 0 (-1) (gLatS s)
theorem mX3_latest_ok : mOk encM bdM mX3_latest (atR 0 (a0 sX3_latest)) := by
  refine mOVa0 kX3_latest (fun _ => rfl) (fun s K h hb => wx_J [33] 9 tX3_latest_ok rfl (fun J hR hJ => ?_))
  obtain ⟨n2, n, p⟩ := h
  exact ⟨⟨by omega, by omega⟩, ⟨by omega, by omega⟩, fun b1 => ⟨⟨by omega, by omega⟩, fun b2 => ⟨⟨by omega, by omega⟩, fun b3 => ⟨⟨b1, b2, b3⟩, hJ _ _ _ _ (X3_latest_l n2 n 0 0 (-1) (gLatS s) ⟨by omega, by omega⟩ ⟨by omega, by omega⟩ (by omega) (by omega) p)⟩⟩⟩⟩
end
-- 68.My
section
/-! ===== the model: again, without, years ===== -/
def agM1 (K : MS → Prop) (n2 : Nat) : Nat → Int → MS → Prop
  | 0, i, s => nIn s ≤ i ∧ K s
  | n + 1, i, s => (nIn s ≤ i → K s) ∧ (i < nIn s → i ≤ 159 ∧ agP s 4 i n2 (fun s' => agM1 K n2 n (i + 1) s'))
def agM2 : Nat → Int → MS → MS
  | 0, _, s => s
  | m + 1, k, s => agM2 m (k + 1) (mEn s (mg s (4 * 2804 + (32 + k))))
def gAgE (s : MS) : Int × MS :=
  let s1 := agM2 4 0 (mS s 1 0)
  let s2 := mEn s1 (mg s1 (4 * 2804 + 5))
  (mg (mEn s2 (mClosed s2 4)) (4 * 2804 + 10), mEn s2 (mClosed s2 4))
theorem mg_En {s : MS} {x a : Int} : mg (mEn s x) a = mg s a := rfl
theorem X3_again_l2 {K : KM} {Pt : MS → Prop} : ∀ (m : Nat) (k : Int) (s : MS), s.1 1 = k → 0 ≤ k → k ≤ 4 → m = (4 - k).toNat → (let s1 := agM2 m k s
    let s2 := mEn s1 (mg s1 (4 * 2804 + 5))
    K [pI (mg (mEn s2 (mClosed s2 4)) (4 * 2804 + 10))] (mEn s2 (mClosed s2 4))) → wX encM bdM mX3_again 0 0 K Pt 59 [some (pR 0), none, none, none, some (pI k)] [] s := by
  intro m
  induction m with
  | zero =>
    intro k s hs h0 h1 hm hK
    refine wx_J [26, 59] 9 tX3_again_ok rfl (fun J hR hJ => ?_)
    rw [agM2] at hK
    refine ⟨⟨⟨by omega, by omega⟩, ⟨by omega, by omega⟩⟩, fun _ => ?_, fun q => absurd q (by omega)⟩
    exact ⟨⟨by omega, by omega⟩, fun b5 => ⟨b5, ⟨b5, by omega, by omega⟩, ⟨by omega, by omega⟩, fun bc => ⟨bc, ⟨bc, by show (0 : Int) ≤ s.1 1 + 1; omega, by show s.1 1 + 1 < 16; omega⟩, ⟨by omega, by omega⟩, fun _ => hR _ _ hK⟩⟩⟩
  | succ m ih =>
    intro k s hs h0 h1 hm hK
    refine wx_J [26, 59] 9 tX3_again_ok rfl (fun J hR hJ => ?_)
    rw [agM2] at hK
    have g := ih (k + 1) (mEn s (mg s (4 * 2804 + (32 + k)))) (by show s.1 1 + 1 = k + 1; omega) (by omega) (by omega) (by omega) hK
    exact ⟨⟨⟨by omega, by omega⟩, ⟨by omega, by omega⟩⟩, fun q => absurd q (by omega), fun _ => ⟨⟨by omega, by omega⟩, fun bx => ⟨bx, ⟨bx, by omega, by omega⟩, hJ _ _ _ _ g⟩⟩⟩
theorem X3_again_l1 {K : KM} {Pt : MS → Prop} (n2 : Nat) : ∀ (n : Nat) (i : Int) (s : MS), 0 ≤ i → i ≤ 160 → agM1 (fun s => K [pI (gAgE s).1] (gAgE s).2) n2 n i s → wX encM bdM mX3_again 0 0 K Pt 26 [some (pR 0), none, none, none, some (pI i)] [] s := by
  have fin : ∀ (i : Int) (s : MS), 0 ≤ i → i ≤ 160 → nIn s ≤ i → K [pI (gAgE s).1] (gAgE s).2 → wX encM bdM mX3_again 0 0 K Pt 26 [some (pR 0), none, none, none, some (pI i)] [] s := by
    intro i s h0 h1 hn hK
    refine wx_J [26, 59] 9 tX3_again_ok rfl (fun J hR hJ => ?_)
    exact ⟨⟨by omega, by omega⟩, fun hx => ⟨⟨⟨by omega, by omega⟩, hx⟩, fun _ => ⟨⟨by omega, by omega⟩, hJ _ _ _ _ (X3_again_l2 4 0 (mS s 1 0) rfl (by omega) (by omega) (by omega) hK)⟩, fun q => absurd (show i < mg s (0 * 2804 + 6) from q) (Int.not_lt.mpr hn)⟩⟩
  intro n
  induction n with
  | zero =>
    intro i s h0 h1 h
    exact fin i s h0 h1 h.1 h.2
  | succ n ih =>
    intro i s h0 h1 h
    obtain ⟨p1, p2⟩ := h
    by_cases c : nIn s ≤ i
    · exact fin i s h0 h1 c (p1 c)
    · obtain ⟨q1, q2⟩ := p2 (by omega)
      refine wx_J [26, 59] 9 tX3_again_ok rfl (fun J hR hJ => ?_)
      exact ⟨⟨by omega, by omega⟩, fun hx => ⟨⟨⟨by omega, by omega⟩, hx⟩, fun q => absurd q c, fun _ => ⟨⟨⟨by omega, by omega⟩, h0, q1⟩, n2, agP_mono (fun s' y => hJ _ _ _ _ (ih _ _ (by omega) (by omega) y)) q2⟩⟩⟩
def sX3_again : Int → Int → Int → MS → KM → Prop := fun g l e s K => (xB g ∧ xB l ∧ xB e) ∧ (¬ okSet g l e → K [pI (-1)] (mS s 0 0)) ∧ (okSet g l e → ∃ n2 n, agM1 (fun s => K [pI (gAgE s).1] (gAgE s).2) n2 n 0 (mStartA (mS s 0 0) g l e))
theorem mX3_again_ok : mOk encM bdM mX3_again (atR 0 (a3 sX3_again)) := by
  refine mOVa3 kX3_again (fun _ _ _ => rfl) (fun g l e s K h hb => wx_J [26, 59] 9 tX3_again_ok rfl (fun J hR hJ => ?_))
  obtain ⟨h1, p1, p2⟩ := h
  refine ⟨⟨by omega, by omega⟩, ⟨h1, fun c => ?_, fun c => ?_⟩⟩
  · obtain ⟨n2, n, p⟩ := p2 c
    exact ⟨⟨by omega, by omega⟩, fun _ => ⟨h1, hJ _ _ _ _ (X3_again_l1 n2 n 0 _ (by omega) (by omega) p)⟩, fun q => absurd q (by omega)⟩
  · exact ⟨⟨by omega, by omega⟩, fun q => absurd rfl q, fun _ => hR _ _ (p1 c)⟩
def woM (r : Int) (K : MS → Prop) (n2 : Nat) : Nat → Int → MS → Prop
  | 0, i, s => nIn s ≤ i ∧ K s
  | n + 1, i, s => (nIn s ≤ i → K s) ∧ (i < nIn s → i ≤ 159 ∧ (iC s i 1 = r → woM r K n2 n (i + 1) s) ∧ (iC s i 1 ≠ r → agP s 4 i n2 (fun s' => woM r K n2 n (i + 1) s')))
def gWoE (s : MS) : Int × MS :=
  let s1 := mEn (mS s 1 0) (mg s (4 * 2804 + 10))
  let s2 := mEn s1 (mg s1 (4 * 2804 + 5))
  (mg (mEn s2 (mClosed s2 4)) (4 * 2804 + 4), mEn s2 (mClosed s2 4))
theorem X3_without_l {K : KM} {Pt : MS → Prop} (r : Int) (hr : xB r) (n2 : Nat) : ∀ (n : Nat) (i : Int) (s : MS), 0 ≤ i → i ≤ 160 → woM r (fun s => K [pI (gWoE s).1] (gWoE s).2) n2 n i s → wX encM bdM mX3_without 0 0 K Pt 62 [some (pR 0), some (pI r), some (pI i)] [] s := by
  have fin : ∀ (i : Int) (s : MS), 0 ≤ i → i ≤ 160 → nIn s ≤ i → K [pI (gWoE s).1] (gWoE s).2 → wX encM bdM mX3_without 0 0 K Pt 62 [some (pR 0), some (pI r), some (pI i)] [] s := by
    intro i s h0 h1 hn hK
    refine wx_J [62] 9 tX3_without_ok rfl (fun J hR hJ => ?_)
    refine ⟨⟨by omega, by omega⟩, fun hx => ⟨⟨⟨by omega, by omega⟩, hx⟩, fun _ => ?_, fun q => absurd (show i < mg s (0 * 2804 + 6) from q) (Int.not_lt.mpr hn)⟩⟩
    exact ⟨⟨by omega, by omega⟩, ⟨by omega, by omega⟩, fun a => ⟨a, ⟨a, by show (0 : Int) ≤ 0; omega, by show (0 : Int) < 16; omega⟩, ⟨by omega, by omega⟩, fun b => ⟨b, ⟨b, by show (0 : Int) ≤ 0 + 1; omega, by show (0 : Int) + 1 < 16; omega⟩, ⟨by omega, by omega⟩, fun c => ⟨c, ⟨c, by show (0 : Int) ≤ 0 + 1 + 1; omega, by show (0 : Int) + 1 + 1 < 16; omega⟩, ⟨by omega, by omega⟩, fun _ => hR _ _ hK⟩⟩⟩⟩
  intro n
  induction n with
  | zero =>
    intro i s h0 h1 h
    exact fin i s h0 h1 h.1 h.2
  | succ n ih =>
    intro i s h0 h1 h
    obtain ⟨p1, p2⟩ := h
    by_cases c : nIn s ≤ i
    · exact fin i s h0 h1 c (p1 c)
    · obtain ⟨q1, q2, q3⟩ := p2 (by omega)
      refine wx_J [62] 9 tX3_without_ok rfl (fun J hR hJ => ?_)
      exact ⟨⟨by omega, by omega⟩, fun hx => ⟨⟨⟨by omega, by omega⟩, hx⟩, fun q => absurd q c, fun _ => ⟨⟨by omega, by omega⟩, fun b1 => ⟨⟨b1, hr⟩, fun e => hJ _ _ _ _ (ih _ _ (by omega) (by omega) (q2 e)), fun e => ⟨⟨⟨by omega, by omega⟩, h0, q1⟩, n2, agP_mono (fun s' y => hJ _ _ _ _ (ih _ _ (by omega) (by omega) y)) (q3 e)⟩⟩⟩⟩⟩
def gWiS (s : MS) (r : Int) : MS := mP (gLatS s) (4 * 2804 + (20 + r)) 1
def sX3_without : Int → MS → KM → Prop := fun r s K => (xB r ∧ mok1 s) ∧ (¬ mSrc s r → K [pI (-1)] (mS s 0 0)) ∧ (mSrc s r → (mg s (0 * 2804 + 0) = 1 → K [pI (-2)] (mS s 0 0)) ∧ (mg s (0 * 2804 + 0) ≠ 1 → ∃ n2 n, woM r (fun s => K [pI (gWoE s).1] (gWoE s).2) n2 n 0 (gWiS s r)))
theorem mX3_without_ok : mOk encM bdM mX3_without (atR 0 (a1 sX3_without)) := by
  refine mOVa1 kX3_without (fun _ => rfl) (fun r s K h hb => wx_J [62] 9 tX3_without_ok rfl (fun J hR hJ => ?_))
  obtain ⟨⟨h1, h2⟩, p1, p2⟩ := h
  refine ⟨⟨by omega, by omega⟩, ⟨⟨h1, h2.1⟩, fun c => ?_, fun c => ?_⟩⟩
  · obtain ⟨q1, q2⟩ := p2 c
    have hr : r < mg s 0 := c.2
    have hr0 : 0 ≤ r := c.1
    refine ⟨⟨by omega, by omega⟩, fun _ => ⟨⟨by omega, by omega⟩, fun hx => ⟨⟨hx, ⟨by omega, by omega⟩⟩, fun e => ?_, fun e => hR _ _ (q1 e)⟩⟩, fun q => absurd q (by omega)⟩
    obtain ⟨n2, n, p⟩ := q2 e
    exact ⟨⟨by omega, by omega⟩, fun b1 => ⟨⟨by omega, by omega⟩, fun b2 => ⟨⟨by omega, by omega⟩, fun b3 => ⟨⟨b1, b2, b3⟩, ⟨⟨by omega, by omega⟩, ⟨by omega, by omega⟩⟩, hJ _ _ _ _ (X3_without_l r h1 n2 n 0 (gWiS s r) (by omega) (by omega) p)⟩⟩⟩⟩
  · exact ⟨⟨by omega, by omega⟩, fun q => absurd rfl q, fun _ => hR _ _ (p1 c)⟩
/-- events drawn by a seed -/
def yrD4 (s : MS) : MS := mDraw (mDraw (mDraw (mDraw s)))
def yrT (s : MS) : Int := wI (wI (mg s (4 * 2804 + 4) - mg s (4 * 2804 + 2)) + dOf (dAfter (dAfter (s.1 21))) 100)
def yrTc (t : Int) : Int := if t < 0 then 0 else if 9999 < t then 9999 else t
def yrM (c : Int) (K : Int → MS → Prop) (n2 : Nat) : Nat → Int → Int → MS → Prop
  | 0, k, a, s => (c ≤ k ∨ 160 ≤ mg s (4 * 2804 + 6)) ∧ K a s
  | n + 1, k, a, s => ((c ≤ k ∨ 160 ≤ mg s (4 * 2804 + 6)) → K a s) ∧ ((k < c ∧ mg s (4 * 2804 + 6) < 160) → (0 ≤ mg s (4 * 2804 + 6) ∧ (0 < mg s (4 * 2804 + 0) ∧ mg s (4 * 2804 + 0) ≤ 4) ∧ (0 ≤ dOf (dAfter (dAfter (dAfter (dAfter (s.1 21))))) (mg s (4 * 2804 + 0)) ∧ dOf (dAfter (dAfter (dAfter (dAfter (s.1 21))))) (mg s (4 * 2804 + 0)) ≤ 3)) ∧ mComeP (yrD4 s) 4 (dOf (dAfter (s.1 21)) 6) (yrTc (yrT s)) (wI (dOf (dAfter (dAfter (dAfter (s.1 21)))) 199 - 99)) (dOf (dAfter (dAfter (dAfter (dAfter (s.1 21))))) (mg s (4 * 2804 + 0))) n2 (fun s' => yrM c K n2 n (k + 1) (wI (a + (if mHow (yrD4 s) 4 (yrTc (yrT s)) < 2 then 1 else 0))) s'))
end
-- 69.Mz
section
/-! ===== the model: years ===== -/
theorem yrD4_mg (s : MS) (i : Int) : mg (yrD4 s) i = mg s i := rfl
def gYrE (s : MS) (a : Int) : Int × MS := (a, mSince s 4 (mg s (0 * 2804 + 7)))
theorem X3_years_c {K : KM} {Pt : MS → Prop} (c a k key t0 tc v r : Int) (s : MS) (n2 : Nat) (hk : xB key) (ht : xB tc) (hv : xB v) (hr : 0 ≤ r ∧ r ≤ 3) (h6 : 0 ≤ mg s (4 * 2804 + 6) ∧ mg s (4 * 2804 + 6) ≤ 159) (h : mComeP s 4 key tc v r n2 (fun s' => wX encM bdM mX3_years 0 0 K Pt 35 [some (pR 0), none, some (pI c), some (pI (wI (a + (if mHow s 4 tc < 2 then 1 else 0)))), some (pI (k + 1)), none, none, none, none] [] s')) : wX encM bdM mX3_years 0 0 K Pt 133 [some (pR 0), none, some (pI c), some (pI a), some (pI k), some (pI key), some (pI t0), some (pI v), some (pI r)] [pI tc] s := by
  refine wx_J [35, 133] 9 tX3_years_ok rfl (fun J hR hJ => ?_)
  refine ⟨⟨⟨by omega, by omega⟩, hr, ⟨hk, ht, hv⟩, h6⟩, n2, mComeP_mono (fun s' y u1 u2 => ?_) h⟩
  refine ⟨⟨⟨by omega, by omega⟩, ⟨by omega, by omega⟩⟩, fun e => ?_, fun e => ?_⟩
  · rw [if_neg (Int.not_lt.mpr e)] at y
    exact ⟨Or.inl rfl, fun _ => hJ _ _ _ _ y⟩
  · rw [if_pos e] at y
    exact ⟨Or.inr rfl, fun _ => hJ _ _ _ _ y⟩
theorem X3_years_l {K : KM} {Pt : MS → Prop} (c : Int) (hc : xB c) (n2 : Nat) : ∀ (n : Nat) (k a : Int) (s : MS), 0 ≤ k → k ≤ max 0 c → yrM c (fun a s => K [pI (gYrE s a).1] (gYrE s a).2) n2 n k a s → wX encM bdM mX3_years 0 0 K Pt 35 [some (pR 0), none, some (pI c), some (pI a), some (pI k), none, none, none, none] [] s := by
  have fin : ∀ (k a : Int) (s : MS), 0 ≤ k → k ≤ max 0 c → (c ≤ k ∨ 160 ≤ mg s (4 * 2804 + 6)) → K [pI (gYrE s a).1] (gYrE s a).2 → wX encM bdM mX3_years 0 0 K Pt 35 [some (pR 0), none, some (pI c), some (pI a), some (pI k), none, none, none, none] [] s := by
    intro k a s h0 h1 hn hK
    refine wx_J [35, 133] 9 tX3_years_ok rfl (fun J hR hJ => ?_)
    refine ⟨⟨⟨by omega, by omega⟩, hc⟩, fun q => ?_, fun q => ?_⟩
    · exact ⟨⟨by omega, by omega⟩, fun _ => ⟨⟨by omega, by omega⟩, hR _ _ hK⟩⟩
    · refine ⟨⟨by omega, by omega⟩, fun hx => ⟨⟨hx, ⟨by omega, by omega⟩⟩, fun q2 => ?_, fun q2 => ?_⟩⟩
      · exact ⟨⟨by omega, by omega⟩, fun _ => ⟨⟨by omega, by omega⟩, hR _ _ hK⟩⟩
      · omega
  intro n
  induction n with
  | zero =>
    intro k a s h0 h1 h
    exact fin k a s h0 h1 h.1 h.2
  | succ n ih =>
    intro k a s h0 h1 h
    obtain ⟨p1, p2⟩ := h
    by_cases e : c ≤ k ∨ 160 ≤ mg s (4 * 2804 + 6)
    · exact fin k a s h0 h1 e (p1 e)
    · obtain ⟨⟨q1, q2, q3⟩, q4⟩ := p2 ⟨by omega, by omega⟩
      refine wx_J [35, 133] 9 tX3_years_ok rfl (fun J hR hJ => ?_)
      have g := mComeP_mono (fun s' y => ih (k + 1) _ s' (by omega) (by omega) y) q4
      have hN : ∀ x : Int, 0 < x → x ≤ 1000 → xB x ∧ 0 < x := fun x h1 h2 => ⟨⟨by omega, by omega⟩, h1⟩
      refine ⟨⟨⟨by omega, by omega⟩, hc⟩, fun q => absurd q (by omega), fun _ => ⟨⟨by omega, by omega⟩, fun hx => ⟨⟨hx, ⟨by omega, by omega⟩⟩, fun q => absurd (show 160 ≤ mg s (4 * 2804 + 6) from q) (by omega), fun _ => ?_⟩⟩⟩
      refine ⟨hN 6 (by omega) (by omega), fun hkey => ⟨⟨by omega, by omega⟩, fun _ => ⟨⟨by omega, by omega⟩, fun _ _ => ⟨hN 100 (by omega) (by omega), fun _ ht => ⟨hN 199 (by omega) (by omega), fun _ hv => ⟨⟨by omega, by omega⟩, fun hm => ⟨⟨hm, q2.1⟩, fun hr => ?_⟩⟩⟩⟩⟩⟩⟩
      have ht : xB (yrT s) := ht
      have h6 : 0 ≤ mg (yrD4 s) (4 * 2804 + 6) ∧ mg (yrD4 s) (4 * 2804 + 6) ≤ 159 := by rw [yrD4_mg]; exact ⟨q1, by omega⟩
      refine ⟨ht, fun e1 => ?_, fun e1 => ?_⟩
      · have e1 : 0 ≤ yrT s := e1
        refine ⟨⟨ht, ⟨by omega, by omega⟩⟩, fun e2 => ?_, fun e2 => ?_⟩
        · have e2 : yrT s ≤ 9999 := e2
          have et : yrTc (yrT s) = yrT s := by unfold yrTc; rw [if_neg (by omega), if_neg (by omega)]
          rw [et] at g
          exact hJ _ _ _ _ (X3_years_c c a k (dOf (dAfter (s.1 21)) 6) (yrT s) (yrT s) (wI (dOf (dAfter (dAfter (dAfter (s.1 21)))) 199 - 99)) (dOf (dAfter (dAfter (dAfter (dAfter (s.1 21))))) (mg s (4 * 2804 + 0))) (yrD4 s) n2 hkey ht hv q3 h6 g)
        · have e2 : 9999 < yrT s := e2
          have et : yrTc (yrT s) = 9999 := by unfold yrTc; rw [if_neg (by omega), if_pos e2]
          rw [et] at g
          exact hJ _ _ _ _ (X3_years_c c a k (dOf (dAfter (s.1 21)) 6) (yrT s) 9999 (wI (dOf (dAfter (dAfter (dAfter (s.1 21)))) 199 - 99)) (dOf (dAfter (dAfter (dAfter (dAfter (s.1 21))))) (mg s (4 * 2804 + 0))) (yrD4 s) n2 hkey ⟨by omega, by omega⟩ hv q3 h6 g)
      · have e1 : yrT s < 0 := e1
        have et : yrTc (yrT s) = 0 := by unfold yrTc; rw [if_pos e1]
        rw [et] at g
        exact hJ _ _ _ _ (X3_years_c c a k (dOf (dAfter (s.1 21)) 6) (yrT s) 0 (wI (dOf (dAfter (dAfter (dAfter (s.1 21)))) 199 - 99)) (dOf (dAfter (dAfter (dAfter (dAfter (s.1 21))))) (mg s (4 * 2804 + 0))) (yrD4 s) n2 hkey ⟨by omega, by omega⟩ hv q3 h6 g)
def gYrS (s : MS) (d : Int) : MS := mCopy (mS (mS s 0 0) 21 d) 0 4
def sX3_years : Int → Int → MS → KM → Prop := fun d c s K => (xB d ∧ xB c) ∧ (¬ inB c 1 40 → K [pI (-1)] (mS s 0 0)) ∧ (inB c 1 40 → ∃ n2 n, yrM c (fun a s => K [pI (gYrE s a).1] (gYrE s a).2) n2 n 0 0 (gYrS s d))
theorem mX3_years_ok : mOk encM bdM mX3_years (atR 0 (a2 sX3_years)) := by
  refine mOVa2 kX3_years (fun _ _ => rfl) (fun d c s K h hb => wx_J [35, 133] 9 tX3_years_ok rfl (fun J hR hJ => ?_))
  obtain ⟨⟨h1, h2⟩, p1, p2⟩ := h
  refine ⟨⟨by omega, by omega⟩, h2, ⟨⟨h2, ⟨by omega, by omega⟩, ⟨by omega, by omega⟩⟩, fun e => ?_, fun e => ?_⟩⟩
  · obtain ⟨n2, n, p⟩ := p2 e
    exact ⟨⟨by omega, by omega⟩, fun _ => ⟨h1, ⟨⟨by omega, by omega⟩, by omega, by omega⟩, hJ _ _ _ _ (X3_years_l c h2 n2 n 0 0 _ (by omega) (by omega) p)⟩, fun q => absurd q (by omega)⟩
  · exact ⟨⟨by omega, by omega⟩, fun q => absurd rfl q, fun _ => hR _ _ (p1 e)⟩
end
-- 70.Ma
section
/-! ===== the model: span ===== -/
-- X3_span: heads [46, 59]
def tX3_span : Nat → Blk MS := fun pc => bif Nat.blt pc 127 then (bif Nat.blt pc 46 then (bif Nat.blt pc 30 then (bif Nat.beq pc 0 then (oAld 0 <| oI 0 <| oPut (fpM) 3 0 <| oIld 1 <| oI2l <| oJ 0 <| oJ 9999 <| oC3 (cM_X3_in) <| oZEq 30 <| oIld 2 <| oI2l <| oIld 1 <| oI2l <| oJ 9999 <| oC3 (cM_X3_in) <| oZNe 32 <| oTo 30) else oNo) else (bif Nat.blt pc 32 then (bif Nat.beq pc 30 then (oI (-1) <| oIret) else oNo) else (bif Nat.beq pc 32 then (oI 0 <| oIst 3 <| oI 0 <| oIst 4 <| oI (-1) <| oIst 5 <| oI 0 <| oIst 6 <| oI 0 <| oIst 7 <| oM [true, true, true, true, true, true, true, true, false, false, false] (oTo 46)) else oNo))) else (bif Nat.blt pc 59 then (bif Nat.beq pc 46 then (oIld 7 <| oI 6 <| oCGe 202 <| oI 0 <| oIst 8 <| oI 0 <| oIst 9 <| oM [true, true, true, true, true, true, true, true, true, true, false] (oTo 59)) else oNo) else (bif Nat.blt pc 126 then (bif Nat.beq pc 59 then (oIld 9 <| oAld 0 <| oI 0 <| oI 6 <| oC3 (cM_X3_of) <| oCGe 166 <| oAld 0 <| oIld 9 <| oI 0 <| oC3 (cM_X3_ofInput) <| oZNe 126 <| oAld 0 <| oIld 9 <| oI 5 <| oC3 (cM_X3_ofInput) <| oI 1 <| oCNe 126 <| oAld 0 <| oIld 9 <| oI 3 <| oC3 (cM_X3_ofInput) <| oIld 7 <| oCNe 126 <| oAld 0 <| oIld 9 <| oI 2 <| oC3 (cM_X3_ofInput) <| oI2l <| oIld 1 <| oI2l <| oIld 2 <| oI2l <| oC3 (cM_X3_in) <| oZEq 126 <| oI 1 <| oTo 127) else oNo) else (bif Nat.beq pc 126 then (oI 0 <| oTo 127) else oNo)))) else (bif Nat.blt pc 166 then (bif Nat.blt pc 156 then (bif Nat.beq pc 127 then (oIst 10 <| oIld 8 <| oIld 10 <| oC1 (cM_X3_flag) <| oAddW <| oIst 8 <| oIld 4 <| oIld 10 <| oZEq 156 <| oAld 0 <| oIld 9 <| oI 4 <| oC3 (cM_X3_ofInput) <| oTo 157) else oNo) else (bif Nat.blt pc 157 then (bif Nat.beq pc 156 then (oI 0 <| oTo 157) else oNo) else (bif Nat.beq pc 157 then (oAddW <| oIst 4 <| oInc 9 1 <| oM [true, true, true, true, true, true, true, true, true, true, false] (oTo 59)) else oNo))) else (bif Nat.blt pc 185 then (bif Nat.blt pc 183 then (bif Nat.beq pc 166 then (oIld 3 <| oIld 8 <| oAddW <| oIst 3 <| oIld 8 <| oIld 6 <| oCLe 183 <| oIld 7 <| oTo 185) else oNo) else (bif Nat.beq pc 183 then (oIld 5 <| oTo 185) else oNo)) else (bif Nat.blt pc 202 then (bif Nat.beq pc 185 then (oIst 5 <| oIld 6 <| oIld 8 <| oMax <| oIst 6 <| oInc 7 1 <| oM [true, true, true, true, true, true, true, true, false, false, false] (oTo 46)) else oNo) else (bif Nat.beq pc 202 then (oAld 0 <| oI 0 <| oPut (fpM) 3 1 <| oAld 0 <| oIld 4 <| oI2l <| oC2 (cM_X3_enters) <| oAld 0 <| oIld 5 <| oI2l <| oC2 (cM_X3_enters) <| oAld 0 <| oIld 6 <| oI2l <| oC2 (cM_X3_enters) <| oIld 3 <| oIret) else oNo))))
theorem tX3_span_ok : ∀ pc, bOk (encM) (bdM) mX3_span 0 0 pc (tX3_span pc) := fun pc => (tNode (tNode (tNode (tLeaf (okAldn iX3_span_0 rfl <| okIc iX3_span_1 <| okPut (vFpM) iX3_span_2 <| okIldn iX3_span_5 rfl <| okI2l iX3_span_6 <| okLc iX3_span_7 rfl <| okLdc2 (v := 9999) iX3_span_8 ((wc_t4 211 rfl rfl)) (by decide) <| okC3 (qM_X3_in iX3_span_11) <| okZEq (tl rfl) iX3_span_14 <| okIldn iX3_span_17 rfl <| okI2l iX3_span_18 <| okIldn iX3_span_19 rfl <| okI2l iX3_span_20 <| okLdc2 (v := 9999) iX3_span_21 ((wc_t4 211 rfl rfl)) (by decide) <| okC3 (qM_X3_in iX3_span_24) <| okZNe (tl rfl) iX3_span_27 <| okTo (tl rfl))) (tNode (tLeaf (okIc iX3_span_30 <| okIret iX3_span_31 rfl)) (tLeaf (okIc iX3_span_32 <| okIstn iX3_span_33 rfl (by decide) <| okIc iX3_span_34 <| okIst iX3_span_35 (by decide) <| okIc iX3_span_37 <| okIst iX3_span_38 (by decide) <| okIc iX3_span_40 <| okIst iX3_span_41 (by decide) <| okIc iX3_span_43 <| okIst iX3_span_44 (by decide) <| okM (okTo (tl rfl)))))) (tNode (tLeaf (okIld iX3_span_46 <| okBi iX3_span_48 (by decide) <| okCGe (tl rfl) iX3_span_50 <| okIc iX3_span_53 <| okIst iX3_span_54 (by decide) <| okIc iX3_span_56 <| okIst iX3_span_57 (by decide) <| okM (okTo (tl rfl)))) (tNode (tLeaf (okIld iX3_span_59 <| okAldn iX3_span_61 rfl <| okIc iX3_span_62 <| okBi iX3_span_63 (by decide) <| okC3 (qM_X3_of iX3_span_65) <| okCGe (tl rfl) iX3_span_68 <| okAldn iX3_span_71 rfl <| okIld iX3_span_72 <| okIc iX3_span_74 <| okC3 (qM_X3_ofInput iX3_span_75) <| okZNe (tl rfl) iX3_span_78 <| okAldn iX3_span_81 rfl <| okIld iX3_span_82 <| okIc iX3_span_84 <| okC3 (qM_X3_ofInput iX3_span_85) <| okIc iX3_span_88 <| okCNe (tl rfl) iX3_span_89 <| okAldn iX3_span_92 rfl <| okIld iX3_span_93 <| okIc iX3_span_95 <| okC3 (qM_X3_ofInput iX3_span_96) <| okIld iX3_span_99 <| okCNe (tl rfl) iX3_span_101 <| okAldn iX3_span_104 rfl <| okIld iX3_span_105 <| okIc iX3_span_107 <| okC3 (qM_X3_ofInput iX3_span_108) <| okI2l iX3_span_111 <| okIldn iX3_span_112 rfl <| okI2l iX3_span_113 <| okIldn iX3_span_114 rfl <| okI2l iX3_span_115 <| okC3 (qM_X3_in iX3_span_116) <| okZEq (tl rfl) iX3_span_119 <| okIc iX3_span_122 <| okGoto (tl rfl) iX3_span_123)) (tLeaf (okIc iX3_span_126 <| okTo (tl rfl)))))) (tNode (tNode (tLeaf (okIst iX3_span_127 (by decide) <| okIld iX3_span_129 <| okIld iX3_span_131 <| okC1 (qM_X3_flag iX3_span_133) <| okAddW iX3_span_136 <| okIst iX3_span_137 (by decide) <| okIld iX3_span_139 <| okIld iX3_span_141 <| okZEq (tl rfl) iX3_span_143 <| okAldn iX3_span_146 rfl <| okIld iX3_span_147 <| okIc iX3_span_149 <| okC3 (qM_X3_ofInput iX3_span_150) <| okGoto (tl rfl) iX3_span_153)) (tNode (tLeaf (okIc iX3_span_156 <| okTo (tl rfl))) (tLeaf (okAddW iX3_span_157 <| okIst iX3_span_158 (by decide) <| okInc iX3_span_160 (by decide) <| okGotoM (tl rfl) iX3_span_163)))) (tNode (tNode (tLeaf (okIldn iX3_span_166 rfl <| okIld iX3_span_167 <| okAddW iX3_span_169 <| okIstn iX3_span_170 rfl (by decide) <| okIld iX3_span_171 <| okIld iX3_span_173 <| okCLe (tl rfl) iX3_span_175 <| okIld iX3_span_178 <| okGoto (tl rfl) iX3_span_180)) (tLeaf (okIld iX3_span_183 <| okTo (tl rfl)))) (tNode (tLeaf (okIst iX3_span_185 (by decide) <| okIld iX3_span_187 <| okIld iX3_span_189 <| okMax iX3_span_191 <| okIst iX3_span_194 (by decide) <| okInc iX3_span_196 (by decide) <| okGotoM (tl rfl) iX3_span_199)) (tLeaf (okAldn iX3_span_202 rfl <| okIc iX3_span_203 <| okPut (vFpM) iX3_span_204 <| okAldn iX3_span_207 rfl <| okIld iX3_span_208 <| okI2l iX3_span_210 <| okC2 (qM_X3_enters iX3_span_211) <| okAldn iX3_span_214 rfl <| okIld iX3_span_215 <| okI2l iX3_span_217 <| okC2 (qM_X3_enters iX3_span_218) <| okAldn iX3_span_221 rfl <| okIld iX3_span_222 <| okI2l iX3_span_224 <| okC2 (qM_X3_enters iX3_span_225) <| okIldn iX3_span_228 rfl <| okIret iX3_span_229 rfl)))))) pc
def gSpE (s : MS) (k f t i : Int) : Int := if iC s i 0 = 0 ∧ iC s i 5 = 1 ∧ iC s i 3 = k ∧ inB (iC s i 2) f t then 1 else 0
def gSpN (s : MS) (k f t : Int) : Nat → Int → Int → Int → Int × Int
  | 0, _, a, b => (a, b)
  | n + 1, i, a, b => if nIn s ≤ i then (a, b) else gSpN s k f t n (i + 1) (wI (a + gSpE s k f t i)) (wI (b + (if gSpE s k f t i = 1 then iC s i 4 else 0)))
theorem X3_span_e {K : KM} {Pt : MS → Prop} (f t n b best most k a i e : Int) (s : MS) (he : e = 0 ∨ e = 1) (h0 : 0 ≤ i) (h1 : i < 160) (h : wX encM bdM mX3_span 0 0 K Pt 59 [some (pR 0), some (pI f), some (pI t), some (pI n), some (pI (wI (b + (if e = 1 then iC s i 4 else 0)))), some (pI best), some (pI most), some (pI k), some (pI (wI (a + e))), some (pI (i + 1)), none] [] s) : wX encM bdM mX3_span 0 0 K Pt 127 [some (pR 0), some (pI f), some (pI t), some (pI n), some (pI b), some (pI best), some (pI most), some (pI k), some (pI a), some (pI i), none] [pI e] s := by
  refine wx_J [46, 59, 127, 166] 9 tX3_span_ok rfl (fun J hR hJ => ?_)
  refine ⟨he, fun _ => ⟨⟨by omega, by omega⟩, fun q => ?_, fun q => ?_⟩⟩
  · rw [if_neg (by omega)] at h
    exact fun _ => hJ _ _ _ _ h
  · rw [if_pos (by omega)] at h
    exact ⟨⟨by omega, by omega⟩, fun _ _ => hJ _ _ _ _ h⟩
theorem X3_span_i {K : KM} {Pt : MS → Prop} (f t n best most k : Int) (s : MS) (hf : xB f) (ht : xB t) (hk : xB k) (hn : nIn s ≤ 160) : ∀ (m : Nat) (i a b : Int), 0 ≤ i → i + m = 160 → (∀ j, wX encM bdM mX3_span 0 0 K Pt 166 [some (pR 0), some (pI f), some (pI t), some (pI n), some (pI (gSpN s k f t m i a b).2), some (pI best), some (pI most), some (pI k), some (pI (gSpN s k f t m i a b).1), some (pI j), none] [] s) → wX encM bdM mX3_span 0 0 K Pt 59 [some (pR 0), some (pI f), some (pI t), some (pI n), some (pI b), some (pI best), some (pI most), some (pI k), some (pI a), some (pI i), none] [] s := by
  have fin : ∀ (i a b : Int), 0 ≤ i → i ≤ 160 → nIn s ≤ i → (∀ j, wX encM bdM mX3_span 0 0 K Pt 166 [some (pR 0), some (pI f), some (pI t), some (pI n), some (pI b), some (pI best), some (pI most), some (pI k), some (pI a), some (pI j), none] [] s) → wX encM bdM mX3_span 0 0 K Pt 59 [some (pR 0), some (pI f), some (pI t), some (pI n), some (pI b), some (pI best), some (pI most), some (pI k), some (pI a), some (pI i), none] [] s := by
    intro i a b h0 h1 hi h
    refine wx_J [46, 59, 127, 166] 9 tX3_span_ok rfl (fun J hR hJ => ?_)
    exact ⟨⟨by omega, by omega⟩, fun hx => ⟨⟨⟨by omega, by omega⟩, hx⟩, fun _ => hJ _ _ _ _ (h i), fun q => absurd q (Int.not_lt.mpr hi)⟩⟩
  intro m
  induction m with
  | zero =>
    intro i a b h0 h1 h
    exact fin i a b h0 (by omega) (by omega) h
  | succ m ih =>
    intro i a b h0 h1 h
    by_cases c : nIn s ≤ i
    · refine fin i a b h0 (by omega) c ?_
      unfold gSpN at h
      rw [if_pos c] at h
      exact h
    · unfold gSpN at h
      rw [if_neg c] at h
      have g := ih (i + 1) _ _ (by omega) (by omega) h
      refine wx_J [46, 59, 127, 166] 9 tX3_span_ok rfl (fun J hR hJ => ?_)
      have z0 : gSpE s k f t i = 0 → J 127 [some (pR 0), some (pI f), some (pI t), some (pI n), some (pI b), some (pI best), some (pI most), some (pI k), some (pI a), some (pI i), none] [pI 0] s := fun e => by
        rw [e] at g
        exact hJ _ _ _ _ (X3_span_e f t n b best most k a i 0 s (Or.inl rfl) h0 (by omega) g)
      have z1 : gSpE s k f t i = 1 → J 127 [some (pR 0), some (pI f), some (pI t), some (pI n), some (pI b), some (pI best), some (pI most), some (pI k), some (pI a), some (pI i), none] [pI 1] s := fun e => by
        rw [e] at g
        exact hJ _ _ _ _ (X3_span_e f t n b best most k a i 1 s (Or.inr rfl) h0 (by omega) g)
      refine ⟨⟨by omega, by omega⟩, fun hx => ⟨⟨⟨by omega, by omega⟩, hx⟩, fun q => absurd q c, fun _ => ?_⟩⟩
      refine ⟨⟨by omega, by omega⟩, fun b0 => ⟨b0, fun c0 => z0 (if_neg (fun w => c0 w.1)), fun c0 => ?_⟩⟩
      refine ⟨⟨by omega, by omega⟩, fun b1 => ⟨⟨b1, ⟨by omega, by omega⟩⟩, fun c1 => z0 (if_neg (fun w => c1 w.2.1)), fun c1 => ?_⟩⟩
      refine ⟨⟨by omega, by omega⟩, fun b2 => ⟨⟨b2, hk⟩, fun c2 => z0 (if_neg (fun w => c2 w.2.2.1)), fun c2 => ?_⟩⟩
      refine ⟨⟨by omega, by omega⟩, fun b3 => ?_⟩
      refine ⟨b3, hf, ht, ⟨b3, hf, ht⟩, fun c3 => ?_, fun c3 => ?_⟩
      · exact ⟨⟨by omega, by omega⟩, fun q => absurd q (by omega), fun _ => z1 (if_pos ⟨c0, c1, c2, c3⟩)⟩
      · exact ⟨⟨by omega, by omega⟩, fun _ => z0 (if_neg (fun w => c3 w.2.2.2)), fun q => absurd rfl q⟩
theorem gSpN_B {s : MS} {k f t : Int} : ∀ (m : Nat) (i a b : Int), xB a → xB b → xB (gSpN s k f t m i a b).1 ∧ xB (gSpN s k f t m i a b).2 := by
  intro m
  induction m with
  | zero => exact fun i a b h1 h2 => ⟨h1, h2⟩
  | succ m ih =>
    intro i a b h1 h2
    unfold gSpN
    split
    · exact ⟨h1, h2⟩
    · exact ih _ _ _ (wI_B _) (wI_B _)
def gSpO (s : MS) (f t : Int) : Nat → Int → Int → Int → Int → Int → Int × MS
  | 0, _, n, b, best, most => (n, mEn (mEn (mEn (mS s 1 0) b) best) most)
  | m + 1, k, n, b, best, most => gSpO s f t m (k + 1) (wI (n + (gSpN s k f t 160 0 0 b).1)) (gSpN s k f t 160 0 0 b).2 (if (gSpN s k f t 160 0 0 b).1 ≤ most then best else k) (max most (gSpN s k f t 160 0 0 b).1)
theorem X3_span_g {K : KM} {Pt : MS → Prop} (f t n b best most k a j : Int) (s : MS) (ha : xB a) (hm : xB most) (h : wX encM bdM mX3_span 0 0 K Pt 46 [some (pR 0), some (pI f), some (pI t), some (pI (wI (n + a))), some (pI b), some (pI (if a ≤ most then best else k)), some (pI (max most a)), some (pI (k + 1)), none, none, none] [] s) : wX encM bdM mX3_span 0 0 K Pt 166 [some (pR 0), some (pI f), some (pI t), some (pI n), some (pI b), some (pI best), some (pI most), some (pI k), some (pI a), some (pI j), none] [] s := by
  refine wx_J [46, 59, 127, 166] 9 tX3_span_ok rfl (fun J hR hJ => ?_)
  refine fun _ => ⟨⟨ha, hm⟩, fun q => ?_, fun q => ?_⟩
  · rw [if_pos q] at h
    exact ⟨⟨hm, ha⟩, hJ _ _ _ _ h⟩
  · rw [if_neg (by omega)] at h
    exact ⟨⟨hm, ha⟩, hJ _ _ _ _ h⟩
theorem X3_span_l {K : KM} {Pt : MS → Prop} (f t : Int) (s : MS) (hf : xB f) (ht : xB t) (hn : nIn s ≤ 160) : ∀ (m : Nat) (k n b best most : Int), 0 ≤ k → k + m = 6 → xB b → xB best → xB most → K [pI (gSpO s f t m k n b best most).1] (gSpO s f t m k n b best most).2 → wX encM bdM mX3_span 0 0 K Pt 46 [some (pR 0), some (pI f), some (pI t), some (pI n), some (pI b), some (pI best), some (pI most), some (pI k), none, none, none] [] s := by
  intro m
  induction m with
  | zero =>
    intro k n b best most h0 h1 hb hbe hmo hK
    refine wx_J [46, 59, 127, 166] 9 tX3_span_ok rfl (fun J hR hJ => ?_)
    exact ⟨⟨⟨by omega, by omega⟩, ⟨by omega, by omega⟩⟩, fun _ => ⟨⟨by omega, by omega⟩, hb, ⟨hb, by show (0 : Int) ≤ 0; omega, by show (0 : Int) < 16; omega⟩, hbe, ⟨hbe, by show (0 : Int) ≤ 0 + 1; omega, by show (0 : Int) + 1 < 16; omega⟩, hmo, ⟨hmo, by show (0 : Int) ≤ 0 + 1 + 1; omega, by show (0 : Int) + 1 + 1 < 16; omega⟩, hR _ _ hK⟩, fun q => absurd q (by omega)⟩
  | succ m ih =>
    intro k n b best most h0 h1 hb hbe hmo hK
    have hB := gSpN_B (s := s) (k := k) (f := f) (t := t) 160 0 0 b ⟨by omega, by omega⟩ hb
    have hx : xB k := ⟨by omega, by omega⟩
    have g := ih (k + 1) _ _ _ _ (by omega) (by omega) hB.2 (by split <;> assumption) (by rw [Int.max_def]; split <;> first | exact hB.1 | exact hmo) hK
    refine wx_J [46, 59, 127, 166] 9 tX3_span_ok rfl (fun J hR hJ => ?_)
    refine ⟨⟨⟨by omega, by omega⟩, ⟨by omega, by omega⟩⟩, fun q => absurd q (by omega), fun _ => hJ _ _ _ _ (X3_span_i f t n best most k s hf ht hx hn 160 0 0 b (by omega) (by omega) (fun j => X3_span_g f t n _ best most k _ j s hB.1 hmo g))⟩
def sX3_span : Int → Int → MS → KM → Prop := fun f t s K => ((xB f ∧ xB t) ∧ nIn s ≤ 160) ∧ (¬ (inB f 0 9999 ∧ inB t f 9999) → K [pI (-1)] (mS s 0 0)) ∧ (inB f 0 9999 ∧ inB t f 9999 → K [pI (gSpO (mS s 0 0) f t 6 0 0 0 (-1) 0).1] (gSpO (mS s 0 0) f t 6 0 0 0 (-1) 0).2)
theorem mX3_span_ok : mOk encM bdM mX3_span (atR 0 (a2 sX3_span)) := by
  refine mOVa2 kX3_span (fun _ _ => rfl) (fun f t s K h hb => wx_J [46, 59, 127, 166] 9 tX3_span_ok rfl (fun J hR hJ => ?_))
  obtain ⟨⟨⟨h1, h2⟩, h3⟩, p1, p2⟩ := h
  refine ⟨⟨by omega, by omega⟩, h1, ⟨⟨h1, ⟨by omega, by omega⟩, ⟨by omega, by omega⟩⟩, fun e => ?_, fun e => ?_⟩⟩
  · refine ⟨⟨by omega, by omega⟩, fun q => absurd q (by omega), fun _ => ⟨h2, h1, ⟨⟨h2, h1, ⟨by omega, by omega⟩⟩, fun e2 => ?_, fun e2 => ?_⟩⟩⟩
    · exact ⟨⟨by omega, by omega⟩, fun _ => hJ _ _ _ _ (X3_span_l f t (mS s 0 0) h1 h2 h3 6 0 0 0 (-1) 0 (by omega) (by omega) ⟨by omega, by omega⟩ ⟨by omega, by omega⟩ ⟨by omega, by omega⟩ (p2 ⟨e, e2⟩)), fun q => absurd q (by omega)⟩
    · exact ⟨⟨by omega, by omega⟩, fun q => absurd rfl q, fun _ => hR _ _ (p1 (fun w => e2 w.2))⟩
  · exact ⟨⟨by omega, by omega⟩, fun _ => hR _ _ (p1 (fun w => e w.1)), fun q => absurd rfl q⟩
end
-- 71.Mb
section
/-! ===== the model: fallsInto, laysTimes, parts ===== -/
-- X3_fallsInto: heads [4]
def tX3_fallsInto : Nat → Blk MS := fun pc => bif Nat.blt pc 40 then (bif Nat.blt pc 4 then (bif Nat.beq pc 0 then (oI 0 <| oIst 2 <| oI 0 <| oIst 3 <| oM [true, true, true, true] (oTo 4)) else oNo) else (bif Nat.blt pc 36 then (bif Nat.beq pc 4 then (oIld 3 <| oAld 0 <| oGet (fgM) 3 19 <| oCGe 52 <| oIld 2 <| oIld 3 <| oZEq 36 <| oAld 0 <| oGet (fgM) 3 17 <| oIld 3 <| oIa (agM) <| oAld 0 <| oGet (fgM) 3 17 <| oIld 3 <| oI 1 <| oSub <| oIa (agM) <| oSubW <| oIld 1 <| oCLe 40 <| oTo 36) else oNo) else (bif Nat.beq pc 36 then (oI 1 <| oTo 41) else oNo))) else (bif Nat.blt pc 41 then (bif Nat.beq pc 40 then (oI 0 <| oTo 41) else oNo) else (bif Nat.blt pc 52 then (bif Nat.beq pc 41 then (oC1 (cM_X3_flag) <| oAddW <| oIst 2 <| oInc 3 1 <| oM [true, true, true, true] (oTo 4)) else oNo) else (bif Nat.beq pc 52 then (oIld 2 <| oIret) else oNo)))
theorem tX3_fallsInto_ok : ∀ pc, bOk (encM) (bdM) mX3_fallsInto 0 0 pc (tX3_fallsInto pc) := fun pc => (tNode (tNode (tLeaf (okIc iX3_fallsInto_0 <| okIstn iX3_fallsInto_1 rfl (by decide) <| okIc iX3_fallsInto_2 <| okIstn iX3_fallsInto_3 rfl (by decide) <| okM (okTo (tl rfl)))) (tNode (tLeaf (okIldn iX3_fallsInto_4 rfl <| okAldn iX3_fallsInto_5 rfl <| okGet (vFgM) iX3_fallsInto_6 <| okCGe (tl rfl) iX3_fallsInto_9 <| okIldn iX3_fallsInto_12 rfl <| okIldn iX3_fallsInto_13 rfl <| okZEq (tl rfl) iX3_fallsInto_14 <| okAldn iX3_fallsInto_17 rfl <| okGet (vFgM) iX3_fallsInto_18 <| okIldn iX3_fallsInto_21 rfl <| okIa (vAgM) iX3_fallsInto_22 <| okAldn iX3_fallsInto_23 rfl <| okGet (vFgM) iX3_fallsInto_24 <| okIldn iX3_fallsInto_27 rfl <| okIc iX3_fallsInto_28 <| okSub iX3_fallsInto_29 <| okIa (vAgM) iX3_fallsInto_30 <| okSubW iX3_fallsInto_31 <| okIldn iX3_fallsInto_32 rfl <| okCLe (tl rfl) iX3_fallsInto_33 <| okTo (tl rfl))) (tLeaf (okIc iX3_fallsInto_36 <| okGoto (tl rfl) iX3_fallsInto_37)))) (tNode (tLeaf (okIc iX3_fallsInto_40 <| okTo (tl rfl))) (tNode (tLeaf (okC1 (qM_X3_flag iX3_fallsInto_41) <| okAddW iX3_fallsInto_44 <| okIstn iX3_fallsInto_45 rfl (by decide) <| okInc iX3_fallsInto_46 (by decide) <| okGotoM (tl rfl) iX3_fallsInto_49)) (tLeaf (okIldn iX3_fallsInto_52 rfl <| okIret iX3_fallsInto_53 rfl))))) pc
-- X3_laysTimes: heads [7, 54]
def tX3_laysTimes : Nat → Blk MS := fun pc => bif Nat.blt pc 54 then (bif Nat.blt pc 7 then (bif Nat.beq pc 0 then (oAld 0 <| oI 0 <| oPut (fpM) 3 19 <| oI 0 <| oIst 2 <| oM [true, true, true, false] (oTo 7)) else oNo) else (bif Nat.blt pc 49 then (bif Nat.beq pc 7 then (oIld 2 <| oAld 0 <| oI 0 <| oI 6 <| oC3 (cM_X3_of) <| oCGe 149 <| oAld 0 <| oIld 2 <| oI 0 <| oC3 (cM_X3_ofInput) <| oZNe 143 <| oAld 0 <| oIld 2 <| oI 3 <| oC3 (cM_X3_ofInput) <| oIld 1 <| oCNe 143 <| oAld 0 <| oIld 2 <| oI 5 <| oC3 (cM_X3_ofInput) <| oZNe 49 <| oTo 143) else oNo) else (bif Nat.beq pc 49 then (oAld 0 <| oGet (fgM) 3 19 <| oIst 3 <| oM [true, true, true, true] (oTo 54)) else oNo))) else (bif Nat.blt pc 143 then (bif Nat.blt pc 109 then (bif Nat.beq pc 54 then (oIld 3 <| oZLe 109 <| oAld 0 <| oGet (fgM) 3 17 <| oIld 3 <| oI 1 <| oSub <| oIa (agM) <| oAld 0 <| oIld 2 <| oI 2 <| oC3 (cM_X3_ofInput) <| oCLe 109 <| oAld 0 <| oGet (fgM) 3 17 <| oIld 3 <| oAld 0 <| oGet (fgM) 3 17 <| oIld 3 <| oI 1 <| oSub <| oIa (agM) <| oIas (agM) (apM) <| oAld 0 <| oGet (fgM) 3 18 <| oIld 3 <| oAld 0 <| oGet (fgM) 3 18 <| oIld 3 <| oI 1 <| oSub <| oIa (agM) <| oIas (agM) (apM) <| oInc 3 (-1) <| oM [true, true, true, true] (oTo 54)) else oNo) else (bif Nat.beq pc 109 then (oAld 0 <| oGet (fgM) 3 17 <| oIld 3 <| oAld 0 <| oIld 2 <| oI 2 <| oC3 (cM_X3_ofInput) <| oIas (agM) (apM) <| oAld 0 <| oGet (fgM) 3 18 <| oIld 3 <| oAld 0 <| oIld 2 <| oI 4 <| oC3 (cM_X3_ofInput) <| oIas (agM) (apM) <| oAld 0 <| oDup <| oGet (fgM) 3 19 <| oI 1 <| oAdd <| oPut (fpM) 3 19 <| oTo 143) else oNo)) else (bif Nat.blt pc 149 then (bif Nat.beq pc 143 then (oInc 2 1 <| oM [true, true, true, false] (oTo 7)) else oNo) else (bif Nat.beq pc 149 then (oVret) else oNo)))
theorem tX3_laysTimes_ok : ∀ pc, bOk (encM) (bdM) mX3_laysTimes 0 0 pc (tX3_laysTimes pc) := fun pc => (tNode (tNode (tLeaf (okAldn iX3_laysTimes_0 rfl <| okIc iX3_laysTimes_1 <| okPut (vFpM) iX3_laysTimes_2 <| okIc iX3_laysTimes_5 <| okIstn iX3_laysTimes_6 rfl (by decide) <| okM (okTo (tl rfl)))) (tNode (tLeaf (okIldn iX3_laysTimes_7 rfl <| okAldn iX3_laysTimes_8 rfl <| okIc iX3_laysTimes_9 <| okBi iX3_laysTimes_10 (by decide) <| okC3 (qM_X3_of iX3_laysTimes_12) <| okCGe (tl rfl) iX3_laysTimes_15 <| okAldn iX3_laysTimes_18 rfl <| okIldn iX3_laysTimes_19 rfl <| okIc iX3_laysTimes_20 <| okC3 (qM_X3_ofInput iX3_laysTimes_21) <| okZNe (tl rfl) iX3_laysTimes_24 <| okAldn iX3_laysTimes_27 rfl <| okIldn iX3_laysTimes_28 rfl <| okIc iX3_laysTimes_29 <| okC3 (qM_X3_ofInput iX3_laysTimes_30) <| okIldn iX3_laysTimes_33 rfl <| okCNe (tl rfl) iX3_laysTimes_34 <| okAldn iX3_laysTimes_37 rfl <| okIldn iX3_laysTimes_38 rfl <| okIc iX3_laysTimes_39 <| okC3 (qM_X3_ofInput iX3_laysTimes_40) <| okZNe (tl rfl) iX3_laysTimes_43 <| okGoto (tl rfl) iX3_laysTimes_46)) (tLeaf (okAldn iX3_laysTimes_49 rfl <| okGet (vFgM) iX3_laysTimes_50 <| okIstn iX3_laysTimes_53 rfl (by decide) <| okM (okTo (tl rfl)))))) (tNode (tNode (tLeaf (okIldn iX3_laysTimes_54 rfl <| okZLe (tl rfl) iX3_laysTimes_55 <| okAldn iX3_laysTimes_58 rfl <| okGet (vFgM) iX3_laysTimes_59 <| okIldn iX3_laysTimes_62 rfl <| okIc iX3_laysTimes_63 <| okSub iX3_laysTimes_64 <| okIa (vAgM) iX3_laysTimes_65 <| okAldn iX3_laysTimes_66 rfl <| okIldn iX3_laysTimes_67 rfl <| okIc iX3_laysTimes_68 <| okC3 (qM_X3_ofInput iX3_laysTimes_69) <| okCLe (tl rfl) iX3_laysTimes_72 <| okAldn iX3_laysTimes_75 rfl <| okGet (vFgM) iX3_laysTimes_76 <| okIldn iX3_laysTimes_79 rfl <| okAldn iX3_laysTimes_80 rfl <| okGet (vFgM) iX3_laysTimes_81 <| okIldn iX3_laysTimes_84 rfl <| okIc iX3_laysTimes_85 <| okSub iX3_laysTimes_86 <| okIa (vAgM) iX3_laysTimes_87 <| okIas (vAgM) iX3_laysTimes_88 <| okAldn iX3_laysTimes_89 rfl <| okGet (vFgM) iX3_laysTimes_90 <| okIldn iX3_laysTimes_93 rfl <| okAldn iX3_laysTimes_94 rfl <| okGet (vFgM) iX3_laysTimes_95 <| okIldn iX3_laysTimes_98 rfl <| okIc iX3_laysTimes_99 <| okSub iX3_laysTimes_100 <| okIa (vAgM) iX3_laysTimes_101 <| okIas (vAgM) iX3_laysTimes_102 <| okInc iX3_laysTimes_103 (by decide) <| okGotoM (tl rfl) iX3_laysTimes_106)) (tLeaf (okAldn iX3_laysTimes_109 rfl <| okGet (vFgM) iX3_laysTimes_110 <| okIldn iX3_laysTimes_113 rfl <| okAldn iX3_laysTimes_114 rfl <| okIldn iX3_laysTimes_115 rfl <| okIc iX3_laysTimes_116 <| okC3 (qM_X3_ofInput iX3_laysTimes_117) <| okIas (vAgM) iX3_laysTimes_120 <| okAldn iX3_laysTimes_121 rfl <| okGet (vFgM) iX3_laysTimes_122 <| okIldn iX3_laysTimes_125 rfl <| okAldn iX3_laysTimes_126 rfl <| okIldn iX3_laysTimes_127 rfl <| okIc iX3_laysTimes_128 <| okC3 (qM_X3_ofInput iX3_laysTimes_129) <| okIas (vAgM) iX3_laysTimes_132 <| okAldn iX3_laysTimes_133 rfl <| okDup iX3_laysTimes_134 <| okGet (vFgM) iX3_laysTimes_135 <| okIc iX3_laysTimes_138 <| okAdd iX3_laysTimes_139 <| okPut (vFpM) iX3_laysTimes_140 <| okTo (tl rfl)))) (tNode (tLeaf (okInc iX3_laysTimes_143 (by decide) <| okGotoM (tl rfl) iX3_laysTimes_146)) (tLeaf (okVret iX3_laysTimes_149 rfl))))) pc
abbrev mT (s : MS) (k : Int) : Int := s.2 9 k.toNat
abbrev mV (s : MS) (k : Int) : Int := s.2 10 k.toNat
def fiB (s : MS) (g k : Int) : Int := if k = 0 then 1 else if wI (mT s k - mT s (k - 1)) ≤ g then 0 else 1
def fiN (s : MS) (g : Int) : Nat → Int → Int → Int
  | 0, _, n => n
  | m + 1, k, n => if s.1 19 ≤ k then n else fiN s g m (k + 1) (wI (n + fiB s g k))
theorem X3_fallsInto_e {K : KM} {Pt : MS → Prop} (g n k e : Int) (s : MS) (he : e = 0 ∨ e = 1) (h : wX encM bdM mX3_fallsInto 0 0 K Pt 4 [some (pR 0), some (pI g), some (pI (wI (n + e))), some (pI (k + 1))] [] s) : wX encM bdM mX3_fallsInto 0 0 K Pt 41 [some (pR 0), some (pI g), some (pI n), some (pI k)] [pI e, pI n] s := by
  refine wx_J [4, 41] 9 tX3_fallsInto_ok rfl (fun J hR hJ => ?_)
  exact ⟨he, fun _ => hJ _ _ _ _ h⟩
theorem X3_fallsInto_l {K : KM} {Pt : MS → Prop} (g : Int) (s : MS) (hg : xB g) (ht : s.1 19 ≤ 160) : ∀ (m : Nat) (k n : Int), 0 ≤ k → k + m = 160 → K [pI (fiN s g m k n)] s → wX encM bdM mX3_fallsInto 0 0 K Pt 4 [some (pR 0), some (pI g), some (pI n), some (pI k)] [] s := by
  have fin : ∀ (k n : Int), 0 ≤ k → k ≤ 160 → s.1 19 ≤ k → K [pI n] s → wX encM bdM mX3_fallsInto 0 0 K Pt 4 [some (pR 0), some (pI g), some (pI n), some (pI k)] [] s := by
    intro k n h0 h1 hk hK
    refine wx_J [4, 41] 9 tX3_fallsInto_ok rfl (fun J hR hJ => ?_)
    exact fun hx => ⟨⟨⟨by omega, by omega⟩, hx⟩, fun _ => hR _ _ hK, fun q => absurd q (by omega)⟩
  intro m
  induction m with
  | zero =>
    intro k n h0 h1 hK
    exact fin k n h0 (by omega) (by omega) hK
  | succ m ih =>
    intro k n h0 h1 hK
    unfold fiN at hK
    by_cases c : s.1 19 ≤ k
    · rw [if_pos c] at hK
      exact fin k n h0 (by omega) c hK
    · rw [if_neg c] at hK
      have w := ih (k + 1) _ (by omega) (by omega) hK
      refine wx_J [4, 41] 9 tX3_fallsInto_ok rfl (fun J hR hJ => ?_)
      have z0 : fiB s g k = 0 → J 41 [some (pR 0), some (pI g), some (pI n), some (pI k)] [pI 0, pI n] s := fun e => by
        rw [e] at w
        exact hJ _ _ _ _ (X3_fallsInto_e g n k 0 s (Or.inl rfl) w)
      have z1 : fiB s g k = 1 → J 41 [some (pR 0), some (pI g), some (pI n), some (pI k)] [pI 1, pI n] s := fun e => by
        rw [e] at w
        exact hJ _ _ _ _ (X3_fallsInto_e g n k 1 s (Or.inr rfl) w)
      refine fun hx => ⟨⟨⟨by omega, by omega⟩, hx⟩, fun q => absurd q c, fun _ => ⟨⟨by omega, by omega⟩, fun q => z1 (if_pos q), fun q => ?_⟩⟩
      refine ⟨⟨by omega, by omega⟩, fun b1 => ⟨⟨by omega, by omega⟩, fun b2 hw => ⟨⟨hw, hg⟩, fun q2 => z0 ?_, fun q2 => z1 ?_⟩⟩⟩
      · unfold fiB
        rw [if_neg q, if_pos q2]
      · unfold fiB
        rw [if_neg q, if_neg (Int.not_le.mpr q2)]
def sX3_fallsInto : Int → MS → KM → Prop := fun g s K => (xB g ∧ s.1 19 ≤ 160) ∧ K [pI (fiN s g 160 0 0)] s
theorem mX3_fallsInto_ok : mOk encM bdM mX3_fallsInto (atR 0 (a1 sX3_fallsInto)) := by
  refine mOVa1 kX3_fallsInto (fun _ => rfl) (fun g s K h hb => wx_J [4, 41] 9 tX3_fallsInto_ok rfl (fun J hR hJ => ?_))
  obtain ⟨⟨h1, h2⟩, p⟩ := h
  exact hJ _ _ _ _ (X3_fallsInto_l g s h1 h2 160 0 0 (by omega) (by omega) p)
def cM_X3_fallsInto : Sp MS := atR 0 (a1 sX3_fallsInto)
theorem qM_X3_fallsInto {M : XI} {rc rs pc pc2 : Nat} (d : xl_Ca M pc mX3_fallsInto pc2) : cOk encM bdM M rc rs pc pc2 2 cM_X3_fallsInto := cSame mX3_fallsInto_ok vX3_fallsInto d mcl rfl lenM recM
end
-- 72.Mc
section
/-! ===== the model: laysTimes ===== -/
def ltS (s : MS) (k : Int) : MS := mA (mA s 9 (xup (s.2 9) k.toNat (mT s (k - 1)))) 10 (xup (s.2 10) k.toNat (mV s (k - 1)))
theorem ltS_mg (s : MS) (k a : Int) : mg (ltS s k) a = mg s a := rfl
/-- where the next of them goes in, and the others moved up -/
def ltW (t : Int) : Nat → Int → MS → Int × MS
  | 0, k, s => (k, s)
  | m + 1, k, s => if 0 < k ∧ t < mT s (k - 1) then ltW t m (k - 1) (ltS s k) else (k, s)
theorem ltW_mg (t : Int) : ∀ (m : Nat) (k : Int) (s : MS) (a : Int), mg (ltW t m k s).2 a = mg s a ∧ (ltW t m k s).2.1 = s.1 := by
  intro m
  induction m with
  | zero => exact fun k s a => ⟨rfl, rfl⟩
  | succ m ih =>
    intro k s a
    unfold ltW
    split
    · exact ih (k - 1) (ltS s k) a
    · exact ⟨rfl, rfl⟩
theorem X3_laysTimes_w {K : KM} {Pt : MS → Prop} (key i : Int) (h0 : 0 ≤ i) (h1 : i < 160) : ∀ (m : Nat) (k : Int) (s : MS), k = m → k < 160 → wX encM bdM mX3_laysTimes 0 0 K Pt 109 [some (pR 0), some (pI key), some (pI i), some (pI (ltW (iC s i 2) m k s).1)] [] (ltW (iC s i 2) m k s).2 → wX encM bdM mX3_laysTimes 0 0 K Pt 54 [some (pR 0), some (pI key), some (pI i), some (pI k)] [] s := by
  intro m
  induction m with
  | zero =>
    intro k s hk hk2 h
    refine wx_J [7, 54, 109] 9 tX3_laysTimes_ok rfl (fun J hR hJ => ?_)
    exact ⟨⟨by omega, by omega⟩, fun _ => hJ _ _ _ _ h, fun q => absurd q (by omega)⟩
  | succ m ih =>
    intro k s hk hk2 h
    unfold ltW at h
    refine wx_J [7, 54, 109] 9 tX3_laysTimes_ok rfl (fun J hR hJ => ?_)
    refine ⟨⟨by omega, by omega⟩, fun q => absurd q (by omega), fun q => ⟨⟨by omega, by omega⟩, fun b1 => ⟨⟨by omega, by omega⟩, fun b2 => ⟨⟨b1, b2⟩, fun q2 => ?_, fun q2 => ?_⟩⟩⟩⟩
    · rw [if_neg (fun w => absurd w.2 (Int.not_lt.mpr q2))] at h
      exact hJ _ _ _ _ h
    · rw [if_pos ⟨q, q2⟩] at h
      have g := ih (k - 1) (ltS s k) (by omega) (by omega) h
      exact ⟨⟨by omega, by omega⟩, fun b3 => ⟨⟨by omega, by omega, b3⟩, ⟨by omega, by omega⟩, fun b4 => ⟨⟨by omega, by omega, b4⟩, hJ _ _ _ _ g⟩⟩⟩
def ltP (s q : MS) (i k : Int) : MS := mS (mA (mA q 9 (xup (q.2 9) k.toNat (iC q i 2))) 10 (xup (q.2 10) k.toNat (iC q i 4))) 19 (s.1 19 + 1)
def ltI (s : MS) (i : Int) : MS := ltP s (ltW (iC s i 2) (s.1 19).toNat (s.1 19) s).2 i (ltW (iC s i 2) (s.1 19).toNat (s.1 19) s).1
def ltO (key : Int) : Nat → Int → MS → MS
  | 0, _, s => s
  | m + 1, i, s => if nIn s ≤ i then s else ltO key m (i + 1) (if iC s i 0 = 0 ∧ iC s i 3 = key ∧ iC s i 5 ≠ 0 then ltI s i else s)
theorem ltI_mg (s : MS) (i a : Int) : mg (ltI s i) a = mg s a := (ltW_mg (iC s i 2) (s.1 19).toNat (s.1 19) s a).1
theorem ltW_k (t : Int) : ∀ (m : Nat) (k : Int) (s : MS), 0 ≤ k → 0 ≤ (ltW t m k s).1 ∧ (ltW t m k s).1 ≤ k := by
  intro m
  induction m with
  | zero => exact fun k s h => ⟨h, Int.le_refl _⟩
  | succ m ih =>
    intro k s h
    unfold ltW
    split
    · next c =>
      have g := ih (k - 1) (ltS s k) (by omega)
      exact ⟨g.1, by omega⟩
    · exact ⟨h, Int.le_refl _⟩
theorem X3_laysTimes_p {K : KM} {Pt : MS → Prop} (key i k : Int) (s q : MS) (hs : q.1 19 = s.1 19) (h0 : 0 ≤ i) (h1 : i < 160) (hk : 0 ≤ k ∧ k < 160) (ht : 0 ≤ s.1 19 ∧ s.1 19 < 160) (h : wX encM bdM mX3_laysTimes 0 0 K Pt 7 [some (pR 0), some (pI key), some (pI (i + 1)), none] [] (ltP s q i k)) : wX encM bdM mX3_laysTimes 0 0 K Pt 109 [some (pR 0), some (pI key), some (pI i), some (pI k)] [] q := by
  refine wx_J [7, 54, 109] 9 tX3_laysTimes_ok rfl (fun J hR hJ => ?_)
  unfold ltP at h
  rw [← hs] at h
  rw [← hs] at ht
  exact ⟨⟨by omega, by omega⟩, fun b1 => ⟨⟨by omega, by omega, b1⟩, ⟨by omega, by omega⟩, fun b2 => ⟨⟨by omega, by omega, b2⟩, fun b3 => ⟨⟨by show _ ≤ q.1 19 + 1; omega, by show q.1 19 + 1 ≤ _; omega⟩, hJ _ _ _ _ h⟩⟩⟩⟩
theorem X3_laysTimes_l {K : KM} {Pt : MS → Prop} (key : Int) (hy : xB key) : ∀ (m : Nat) (i : Int) (s : MS), 0 ≤ i → i + m = 160 → nIn s ≤ 160 → 0 ≤ s.1 19 → s.1 19 ≤ i → K [] (ltO key m i s) → wX encM bdM mX3_laysTimes 0 0 K Pt 7 [some (pR 0), some (pI key), some (pI i), none] [] s := by
  have fin : ∀ (i : Int) (s : MS), 0 ≤ i → i ≤ 160 → nIn s ≤ i → K [] s → wX encM bdM mX3_laysTimes 0 0 K Pt 7 [some (pR 0), some (pI key), some (pI i), none] [] s := by
    intro i s h0 h1 hi hK
    refine wx_J [7, 54, 109] 9 tX3_laysTimes_ok rfl (fun J hR hJ => ?_)
    exact ⟨⟨by omega, by omega⟩, fun hx => ⟨⟨⟨by omega, by omega⟩, hx⟩, fun _ => hR _ _ hK, fun q => absurd q (Int.not_lt.mpr hi)⟩⟩
  intro m
  induction m with
  | zero =>
    intro i s h0 h1 hn t0 t1 hK
    exact fin i s h0 (by omega) (by omega) hK
  | succ m ih =>
    intro i s h0 h1 hn t0 t1 hK
    unfold ltO at hK
    by_cases c : nIn s ≤ i
    · rw [if_pos c] at hK
      exact fin i s h0 (by omega) c hK
    · rw [if_neg c] at hK
      refine wx_J [7, 54, 109] 9 tX3_laysTimes_ok rfl (fun J hR hJ => ?_)
      have z0 : ¬ (iC s i 0 = 0 ∧ iC s i 3 = key ∧ iC s i 5 ≠ 0) → J 7 [some (pR 0), some (pI key), some (pI (i + 1)), none] [] s := fun e => by
        rw [if_neg e] at hK
        exact hJ _ _ _ _ (ih (i + 1) s (by omega) (by omega) hn t0 (by omega) hK)
      refine ⟨⟨by omega, by omega⟩, fun hx => ⟨⟨⟨by omega, by omega⟩, hx⟩, fun q => absurd q c, fun _ => ?_⟩⟩
      refine ⟨⟨by omega, by omega⟩, fun b0 => ⟨b0, fun c0 => z0 (fun w => c0 w.1), fun c0 => ?_⟩⟩
      refine ⟨⟨by omega, by omega⟩, fun b1 => ⟨⟨b1, hy⟩, fun c1 => z0 (fun w => c1 w.2.1), fun c1 => ?_⟩⟩
      refine ⟨⟨by omega, by omega⟩, fun b2 => ⟨b2, fun c2 => ?_, fun c2 => z0 (fun w => w.2.2 c2)⟩⟩
      rw [if_pos ⟨c0, c1, c2⟩] at hK
      have e19 : (ltI s i).1 19 = s.1 19 + 1 := rfl
      have hn2 : nIn (ltI s i) ≤ 160 := by show mg (ltI s i) _ ≤ 160; rw [ltI_mg]; exact hn
      have g := ih (i + 1) (ltI s i) (by omega) (by omega) hn2 (by omega) (by omega) hK
      have hk := ltW_k (iC s i 2) (s.1 19).toNat (s.1 19) s t0
      have h19 : (ltW (iC s i 2) (s.1 19).toNat (s.1 19) s).2.1 19 = s.1 19 := by rw [(ltW_mg (iC s i 2) (s.1 19).toNat (s.1 19) s 0).2]
      exact fun b3 => hJ _ _ _ _ (X3_laysTimes_w key i h0 (by omega) (s.1 19).toNat (s.1 19) s (by omega) (by omega) (X3_laysTimes_p key i _ s _ h19 h0 (by omega) ⟨hk.1, by omega⟩ ⟨t0, by omega⟩ g))
def gLt (s : MS) (key : Int) : MS := ltO key 160 0 (mS s 19 0)
def sX3_laysTimes : Int → MS → KM → Prop := fun key s K => (xB key ∧ nIn s ≤ 160) ∧ K [] (gLt s key)
theorem mX3_laysTimes_ok : mOk encM bdM mX3_laysTimes (atR 0 (a1 sX3_laysTimes)) := by
  refine mOVa1 kX3_laysTimes (fun _ => rfl) (fun key s K h hb => wx_J [7, 54, 109] 9 tX3_laysTimes_ok rfl (fun J hR hJ => ?_))
  obtain ⟨⟨h1, h2⟩, p⟩ := h
  exact ⟨⟨by omega, by omega⟩, hJ _ _ _ _ (X3_laysTimes_l key h1 160 0 (mS s 19 0) (by omega) (by omega) h2 (by show (0 : Int) ≤ 0; omega) (by show (0 : Int) ≤ 0; omega) p)⟩
def cM_X3_laysTimes : Sp MS := atR 0 (a1 sX3_laysTimes)
theorem qM_X3_laysTimes {M : XI} {rc rs pc pc2 : Nat} (d : xl_Ca M pc mX3_laysTimes pc2) : cOk encM bdM M rc rs pc pc2 2 cM_X3_laysTimes := cSame mX3_laysTimes_ok vX3_laysTimes d mcl rfl lenM recM
end
-- 73.Md
section
/-! ===== the model: parts, batch ===== -/
-- X3_parts: heads [34]
def tX3_parts : Nat → Blk MS := fun pc => bif Nat.blt pc 34 then (bif Nat.blt pc 24 then (bif Nat.beq pc 0 then (oAld 0 <| oI 0 <| oPut (fpM) 3 0 <| oIld 1 <| oC1 (cM_X3_isKey) <| oZEq 24 <| oIld 2 <| oI2l <| oJ 1 <| oJ 60 <| oC3 (cM_X3_in) <| oZNe 26 <| oTo 24) else oNo) else (bif Nat.blt pc 26 then (bif Nat.beq pc 24 then (oI (-1) <| oIret) else oNo) else (bif Nat.beq pc 26 then (oAld 0 <| oIld 1 <| oC2 (cM_X3_laysTimes) <| oI 99 <| oIst 3 <| oM [true, false, true, true] (oTo 34)) else oNo))) else (bif Nat.blt pc 62 then (bif Nat.blt pc 53 then (bif Nat.beq pc 34 then (oIld 3 <| oZLe 53 <| oAld 0 <| oIld 3 <| oC2 (cM_X3_fallsInto) <| oIld 2 <| oCGe 53 <| oInc 3 (-1) <| oM [true, false, true, true] (oTo 34)) else oNo) else (bif Nat.beq pc 53 then (oIld 3 <| oZNe 62 <| oI (-2) <| oTo 63) else oNo)) else (bif Nat.blt pc 63 then (bif Nat.beq pc 62 then (oIld 3 <| oTo 63) else oNo) else (bif Nat.beq pc 63 then (oIret) else oNo)))
theorem tX3_parts_ok : ∀ pc, bOk (encM) (bdM) mX3_parts 0 0 pc (tX3_parts pc) := fun pc => (tNode (tNode (tLeaf (okAldn iX3_parts_0 rfl <| okIc iX3_parts_1 <| okPut (vFpM) iX3_parts_2 <| okIldn iX3_parts_5 rfl <| okC1 (qM_X3_isKey iX3_parts_6) <| okZEq (tl rfl) iX3_parts_9 <| okIldn iX3_parts_12 rfl <| okI2l iX3_parts_13 <| okLc iX3_parts_14 rfl <| okLdc2 (v := 60) iX3_parts_15 ((wc_t5 213 rfl rfl)) (by decide) <| okC3 (qM_X3_in iX3_parts_18) <| okZNe (tl rfl) iX3_parts_21 <| okTo (tl rfl))) (tNode (tLeaf (okIc iX3_parts_24 <| okIret iX3_parts_25 rfl)) (tLeaf (okAldn iX3_parts_26 rfl <| okIldn iX3_parts_27 rfl <| okC2 (qM_X3_laysTimes iX3_parts_28) <| okBi iX3_parts_31 (by decide) <| okIstn iX3_parts_33 rfl (by decide) <| okM (okTo (tl rfl)))))) (tNode (tNode (tLeaf (okIldn iX3_parts_34 rfl <| okZLe (tl rfl) iX3_parts_35 <| okAldn iX3_parts_38 rfl <| okIldn iX3_parts_39 rfl <| okC2 (qM_X3_fallsInto iX3_parts_40) <| okIldn iX3_parts_43 rfl <| okCGe (tl rfl) iX3_parts_44 <| okInc iX3_parts_47 (by decide) <| okGotoM (tl rfl) iX3_parts_50)) (tLeaf (okIldn iX3_parts_53 rfl <| okZNe (tl rfl) iX3_parts_54 <| okBi iX3_parts_57 (by decide) <| okGoto (tl rfl) iX3_parts_59))) (tNode (tLeaf (okIldn iX3_parts_62 rfl <| okTo (tl rfl))) (tLeaf (okIret iX3_parts_63 rfl))))) pc
-- X3_batch: heads [46]
def tX3_batch : Nat → Blk MS := fun pc => bif Nat.blt pc 167 then (bif Nat.blt pc 86 then (bif Nat.blt pc 46 then (bif Nat.blt pc 14 then (bif Nat.beq pc 0 then (oAld 0 <| oI 0 <| oPut (fpM) 3 0 <| oIld 1 <| oC1 (cM_X3_isKey) <| oZNe 14 <| oI (-1) <| oIret) else oNo) else (bif Nat.beq pc 14 then (oAld 0 <| oIld 1 <| oC2 (cM_X3_laysTimes) <| oAld 0 <| oI 0 <| oI 1 <| oC3 (cM_X3_of) <| oIst 2 <| oI (-1) <| oIst 3 <| oI (-1) <| oIst 4 <| oI (-1) <| oIst 5 <| oI 0 <| oIst 6 <| oI 0 <| oIst 7 <| oI 0 <| oIst 8 <| oI 0 <| oIst 9 <| oM [true, false, true, true, true, true, true, true, true, true, false, false] (oTo 46)) else oNo)) else (bif Nat.blt pc 81 then (bif Nat.beq pc 46 then (oIld 9 <| oAld 0 <| oGet (fgM) 3 19 <| oCGe 264 <| oIld 9 <| oZEq 81 <| oAld 0 <| oGet (fgM) 3 17 <| oIld 9 <| oIa (agM) <| oAld 0 <| oGet (fgM) 3 17 <| oIld 9 <| oI 1 <| oSub <| oIa (agM) <| oSubW <| oIld 2 <| oCLe 85 <| oTo 81) else oNo) else (bif Nat.blt pc 85 then (bif Nat.beq pc 81 then (oI 1 <| oTo 86) else oNo) else (bif Nat.beq pc 85 then (oI 0 <| oTo 86) else oNo)))) else (bif Nat.blt pc 136 then (bif Nat.blt pc 123 then (bif Nat.beq pc 86 then (oIst 10 <| oIld 10 <| oZEq 123 <| oIld 9 <| oZLe 123 <| oIld 5 <| oAld 0 <| oGet (fgM) 3 17 <| oIld 9 <| oIa (agM) <| oAld 0 <| oGet (fgM) 3 17 <| oIld 9 <| oI 1 <| oSub <| oIa (agM) <| oSubW <| oMax <| oTo 125) else oNo) else (bif Nat.blt pc 125 then (bif Nat.beq pc 123 then (oIld 5 <| oTo 125) else oNo) else (bif Nat.beq pc 125 then (oIst 5 <| oIld 10 <| oZEq 136 <| oI 1 <| oTo 140) else oNo))) else (bif Nat.blt pc 140 then (bif Nat.beq pc 136 then (oIld 6 <| oI 1 <| oAddW <| oTo 140) else oNo) else (bif Nat.blt pc 157 then (bif Nat.beq pc 140 then (oIst 6 <| oIld 10 <| oZEq 157 <| oAld 0 <| oGet (fgM) 3 18 <| oIld 9 <| oIa (agM) <| oTo 167) else oNo) else (bif Nat.beq pc 157 then (oIld 7 <| oAld 0 <| oGet (fgM) 3 18 <| oIld 9 <| oIa (agM) <| oAddW <| oTo 167) else oNo))))) else (bif Nat.blt pc 237 then (bif Nat.blt pc 205 then (bif Nat.blt pc 201 then (bif Nat.beq pc 167 then (oIst 7 <| oIld 9 <| oAld 0 <| oGet (fgM) 3 19 <| oI 1 <| oSub <| oCEq 201 <| oAld 0 <| oGet (fgM) 3 17 <| oIld 9 <| oI 1 <| oAdd <| oIa (agM) <| oAld 0 <| oGet (fgM) 3 17 <| oIld 9 <| oIa (agM) <| oSubW <| oIld 2 <| oCLe 205 <| oTo 201) else oNo) else (bif Nat.beq pc 201 then (oI 1 <| oTo 206) else oNo)) else (bif Nat.blt pc 206 then (bif Nat.beq pc 205 then (oI 0 <| oTo 206) else oNo) else (bif Nat.blt pc 232 then (bif Nat.beq pc 206 then (oIst 11 <| oIld 3 <| oIld 6 <| oMax <| oIst 3 <| oIld 11 <| oZEq 237 <| oIld 8 <| oZEq 232 <| oIld 7 <| oIld 4 <| oCLe 237 <| oTo 232) else oNo) else (bif Nat.beq pc 232 then (oIld 7 <| oTo 239) else oNo)))) else (bif Nat.blt pc 255 then (bif Nat.blt pc 239 then (bif Nat.beq pc 237 then (oIld 4 <| oTo 239) else oNo) else (bif Nat.blt pc 251 then (bif Nat.beq pc 239 then (oIst 4 <| oIld 8 <| oZNe 251 <| oIld 11 <| oZEq 255 <| oTo 251) else oNo) else (bif Nat.beq pc 251 then (oI 1 <| oTo 256) else oNo))) else (bif Nat.blt pc 256 then (bif Nat.beq pc 255 then (oI 0 <| oTo 256) else oNo) else (bif Nat.blt pc 264 then (bif Nat.beq pc 256 then (oIst 8 <| oInc 9 1 <| oM [true, false, true, true, true, true, true, true, true, true, false, false] (oTo 46)) else oNo) else (bif Nat.beq pc 264 then (oAld 0 <| oI 0 <| oPut (fpM) 3 1 <| oAld 0 <| oIld 3 <| oI2l <| oC2 (cM_X3_enters) <| oAld 0 <| oIld 4 <| oI2l <| oC2 (cM_X3_enters) <| oAld 0 <| oIld 5 <| oI2l <| oC2 (cM_X3_enters) <| oAld 0 <| oIld 2 <| oC2 (cM_X3_fallsInto) <| oIret) else oNo)))))
theorem tX3_batch_ok : ∀ pc, bOk (encM) (bdM) mX3_batch 0 0 pc (tX3_batch pc) := fun pc => (tNode (tNode (tNode (tNode (tLeaf (okAldn iX3_batch_0 rfl <| okIc iX3_batch_1 <| okPut (vFpM) iX3_batch_2 <| okIldn iX3_batch_5 rfl <| okC1 (qM_X3_isKey iX3_batch_6) <| okZNe (tl rfl) iX3_batch_9 <| okIc iX3_batch_12 <| okIret iX3_batch_13 rfl)) (tLeaf (okAldn iX3_batch_14 rfl <| okIldn iX3_batch_15 rfl <| okC2 (qM_X3_laysTimes iX3_batch_16) <| okAldn iX3_batch_19 rfl <| okIc iX3_batch_20 <| okIc iX3_batch_21 <| okC3 (qM_X3_of iX3_batch_22) <| okIstn iX3_batch_25 rfl (by decide) <| okIc iX3_batch_26 <| okIstn iX3_batch_27 rfl (by decide) <| okIc iX3_batch_28 <| okIst iX3_batch_29 (by decide) <| okIc iX3_batch_31 <| okIst iX3_batch_32 (by decide) <| okIc iX3_batch_34 <| okIst iX3_batch_35 (by decide) <| okIc iX3_batch_37 <| okIst iX3_batch_38 (by decide) <| okIc iX3_batch_40 <| okIst iX3_batch_41 (by decide) <| okIc iX3_batch_43 <| okIst iX3_batch_44 (by decide) <| okM (okTo (tl rfl))))) (tNode (tLeaf (okIld iX3_batch_46 <| okAldn iX3_batch_48 rfl <| okGet (vFgM) iX3_batch_49 <| okCGe (tl rfl) iX3_batch_52 <| okIld iX3_batch_55 <| okZEq (tl rfl) iX3_batch_57 <| okAldn iX3_batch_60 rfl <| okGet (vFgM) iX3_batch_61 <| okIld iX3_batch_64 <| okIa (vAgM) iX3_batch_66 <| okAldn iX3_batch_67 rfl <| okGet (vFgM) iX3_batch_68 <| okIld iX3_batch_71 <| okIc iX3_batch_73 <| okSub iX3_batch_74 <| okIa (vAgM) iX3_batch_75 <| okSubW iX3_batch_76 <| okIldn iX3_batch_77 rfl <| okCLe (tl rfl) iX3_batch_78 <| okTo (tl rfl))) (tNode (tLeaf (okIc iX3_batch_81 <| okGoto (tl rfl) iX3_batch_82)) (tLeaf (okIc iX3_batch_85 <| okTo (tl rfl)))))) (tNode (tNode (tLeaf (okIst iX3_batch_86 (by decide) <| okIld iX3_batch_88 <| okZEq (tl rfl) iX3_batch_90 <| okIld iX3_batch_93 <| okZLe (tl rfl) iX3_batch_95 <| okIld iX3_batch_98 <| okAldn iX3_batch_100 rfl <| okGet (vFgM) iX3_batch_101 <| okIld iX3_batch_104 <| okIa (vAgM) iX3_batch_106 <| okAldn iX3_batch_107 rfl <| okGet (vFgM) iX3_batch_108 <| okIld iX3_batch_111 <| okIc iX3_batch_113 <| okSub iX3_batch_114 <| okIa (vAgM) iX3_batch_115 <| okSubW iX3_batch_116 <| okMax iX3_batch_117 <| okGoto (tl rfl) iX3_batch_120)) (tNode (tLeaf (okIld iX3_batch_123 <| okTo (tl rfl))) (tLeaf (okIst iX3_batch_125 (by decide) <| okIld iX3_batch_127 <| okZEq (tl rfl) iX3_batch_129 <| okIc iX3_batch_132 <| okGoto (tl rfl) iX3_batch_133)))) (tNode (tLeaf (okIld iX3_batch_136 <| okIc iX3_batch_138 <| okAddW iX3_batch_139 <| okTo (tl rfl))) (tNode (tLeaf (okIst iX3_batch_140 (by decide) <| okIld iX3_batch_142 <| okZEq (tl rfl) iX3_batch_144 <| okAldn iX3_batch_147 rfl <| okGet (vFgM) iX3_batch_148 <| okIld iX3_batch_151 <| okIa (vAgM) iX3_batch_153 <| okGoto (tl rfl) iX3_batch_154)) (tLeaf (okIld iX3_batch_157 <| okAldn iX3_batch_159 rfl <| okGet (vFgM) iX3_batch_160 <| okIld iX3_batch_163 <| okIa (vAgM) iX3_batch_165 <| okAddW iX3_batch_166 <| okTo (tl rfl))))))) (tNode (tNode (tNode (tLeaf (okIst iX3_batch_167 (by decide) <| okIld iX3_batch_169 <| okAldn iX3_batch_171 rfl <| okGet (vFgM) iX3_batch_172 <| okIc iX3_batch_175 <| okSub iX3_batch_176 <| okCEq (tl rfl) iX3_batch_177 <| okAldn iX3_batch_180 rfl <| okGet (vFgM) iX3_batch_181 <| okIld iX3_batch_184 <| okIc iX3_batch_186 <| okAdd iX3_batch_187 <| okIa (vAgM) iX3_batch_188 <| okAldn iX3_batch_189 rfl <| okGet (vFgM) iX3_batch_190 <| okIld iX3_batch_193 <| okIa (vAgM) iX3_batch_195 <| okSubW iX3_batch_196 <| okIldn iX3_batch_197 rfl <| okCLe (tl rfl) iX3_batch_198 <| okTo (tl rfl))) (tLeaf (okIc iX3_batch_201 <| okGoto (tl rfl) iX3_batch_202))) (tNode (tLeaf (okIc iX3_batch_205 <| okTo (tl rfl))) (tNode (tLeaf (okIst iX3_batch_206 (by decide) <| okIldn iX3_batch_208 rfl <| okIld iX3_batch_209 <| okMax iX3_batch_211 <| okIstn iX3_batch_214 rfl (by decide) <| okIld iX3_batch_215 <| okZEq (tl rfl) iX3_batch_217 <| okIld iX3_batch_220 <| okZEq (tl rfl) iX3_batch_222 <| okIld iX3_batch_225 <| okIld iX3_batch_227 <| okCLe (tl rfl) iX3_batch_229 <| okTo (tl rfl))) (tLeaf (okIld iX3_batch_232 <| okGoto (tl rfl) iX3_batch_234))))) (tNode (tNode (tLeaf (okIld iX3_batch_237 <| okTo (tl rfl))) (tNode (tLeaf (okIst iX3_batch_239 (by decide) <| okIld iX3_batch_241 <| okZNe (tl rfl) iX3_batch_243 <| okIld iX3_batch_246 <| okZEq (tl rfl) iX3_batch_248 <| okTo (tl rfl))) (tLeaf (okIc iX3_batch_251 <| okGoto (tl rfl) iX3_batch_252)))) (tNode (tLeaf (okIc iX3_batch_255 <| okTo (tl rfl))) (tNode (tLeaf (okIst iX3_batch_256 (by decide) <| okInc iX3_batch_258 (by decide) <| okGotoM (tl rfl) iX3_batch_261)) (tLeaf (okAldn iX3_batch_264 rfl <| okIc iX3_batch_265 <| okPut (vFpM) iX3_batch_266 <| okAldn iX3_batch_269 rfl <| okIldn iX3_batch_270 rfl <| okI2l iX3_batch_271 <| okC2 (qM_X3_enters iX3_batch_272) <| okAldn iX3_batch_275 rfl <| okIld iX3_batch_276 <| okI2l iX3_batch_278 <| okC2 (qM_X3_enters iX3_batch_279) <| okAldn iX3_batch_282 rfl <| okIld iX3_batch_283 <| okI2l iX3_batch_285 <| okC2 (qM_X3_enters iX3_batch_286) <| okAldn iX3_batch_289 rfl <| okIldn iX3_batch_290 rfl <| okC2 (qM_X3_fallsInto iX3_batch_291) <| okIret iX3_batch_294 rfl))))))) pc
theorem fiN_B {s : MS} {g : Int} : ∀ (m : Nat) (k n : Int), xB n → xB (fiN s g m k n) := by
  intro m
  induction m with
  | zero => exact fun k n h => h
  | succ m ih =>
    intro k n h
    unfold fiN
    split
    · exact h
    · exact ih _ _ (wI_B _)
theorem ltO_19 (key : Int) : ∀ (m : Nat) (i : Int) (s : MS), i + m = 160 → 0 ≤ s.1 19 → s.1 19 ≤ i → 0 ≤ (ltO key m i s).1 19 ∧ (ltO key m i s).1 19 ≤ 160 := by
  intro m
  induction m with
  | zero => exact fun i s h t0 t1 => ⟨t0, by show s.1 19 ≤ 160; omega⟩
  | succ m ih =>
    intro i s h t0 t1
    unfold ltO
    split
    · exact ⟨t0, by omega⟩
    · split
      · have e19 : (ltI s i).1 19 = s.1 19 + 1 := rfl
        exact ih (i + 1) (ltI s i) (by omega) (by omega) (by omega)
      · exact ih (i + 1) s (by omega) t0 (by omega)
theorem gLt_19 (s : MS) (key : Int) : 0 ≤ (gLt s key).1 19 ∧ (gLt s key).1 19 ≤ 160 := ltO_19 key 160 0 (mS s 19 0) (by omega) (by show (0 : Int) ≤ 0; omega) (by show (0 : Int) ≤ 0; omega)
def paN (s : MS) (n : Int) : Nat → Int
  | 0 => -2
  | m + 1 => if n ≤ fiN s ((m + 1 : Nat) : Int) 160 0 0 then ((m + 1 : Nat) : Int) else paN s n m
theorem X3_parts_l {K : KM} {Pt : MS → Prop} (n : Int) (s : MS) (hn : xB n) (ht : s.1 19 ≤ 160) : ∀ (m : Nat) (g : Int), g = m → m ≤ 99 → K [pI (paN s n m)] s → wX encM bdM mX3_parts 0 0 K Pt 34 [some (pR 0), none, some (pI n), some (pI g)] [] s := by
  intro m
  induction m with
  | zero =>
    intro g hg hm hK
    refine wx_J [34] 9 tX3_parts_ok rfl (fun J hR hJ => ?_)
    exact ⟨⟨by omega, by omega⟩, fun _ => ⟨⟨by omega, by omega⟩, fun q => absurd hg q, fun _ => hR _ _ hK⟩, fun q => absurd q (by omega)⟩
  | succ m ih =>
    intro g hg hm hK
    subst hg
    unfold paN at hK
    refine wx_J [34] 9 tX3_parts_ok rfl (fun J hR hJ => ?_)
    refine ⟨⟨by omega, by omega⟩, fun q => absurd q (by omega), fun _ => ⟨⟨⟨by omega, by omega⟩, ht⟩, ⟨fiN_B 160 0 0 ⟨by omega, by omega⟩, hn⟩, fun q => ?_, fun q => ?_⟩⟩
    · rw [if_pos q] at hK
      exact ⟨⟨by omega, by omega⟩, fun _ => hR _ _ hK, fun q => absurd q (by omega)⟩
    · rw [if_neg (Int.not_le.mpr q)] at hK
      exact hJ _ _ _ _ (ih _ (by omega) (by omega) hK)
def sX3_parts : Int → Int → MS → KM → Prop := fun key n s K => ((xB key ∧ xB n) ∧ nIn s ≤ 160) ∧ (¬ ((0 ≤ key ∧ key < 6) ∧ inB n 1 60) → K [pI (-1)] (mS s 0 0)) ∧ ((0 ≤ key ∧ key < 6) ∧ inB n 1 60 → K [pI (paN (gLt (mS s 0 0) key) n 99)] (gLt (mS s 0 0) key))
theorem mX3_parts_ok : mOk encM bdM mX3_parts (atR 0 (a2 sX3_parts)) := by
  refine mOVa2 kX3_parts (fun _ _ => rfl) (fun key n s K h hb => wx_J [34] 9 tX3_parts_ok rfl (fun J hR hJ => ?_))
  obtain ⟨⟨⟨h1, h2⟩, h3⟩, p1, p2⟩ := h
  refine ⟨⟨by omega, by omega⟩, ⟨h1, fun e => ?_, fun e => ?_⟩⟩
  · refine ⟨⟨by omega, by omega⟩, fun q => absurd q (by omega), fun _ => ⟨h2, ⟨⟨h2, ⟨by omega, by omega⟩, ⟨by omega, by omega⟩⟩, fun e2 => ?_, fun e2 => ?_⟩⟩⟩
    · exact ⟨⟨by omega, by omega⟩, fun _ => ⟨⟨h1, h3⟩, hJ _ _ _ _ (X3_parts_l n (gLt (mS s 0 0) key) h2 (gLt_19 (mS s 0 0) key).2 99 99 rfl (by omega) (p2 ⟨e, e2⟩))⟩, fun q => absurd q (by omega)⟩
    · exact ⟨⟨by omega, by omega⟩, fun q => absurd rfl q, fun _ => hR _ _ (p1 (fun w => e2 w.2))⟩
  · exact ⟨⟨by omega, by omega⟩, fun _ => hR _ _ (p1 (fun w => e w.1)), fun q => absurd rfl q⟩
end
-- 74.Me
section
/-! ===== the model: batch ===== -/
def baE (s : MS) (g k : Int) : Int := if k = s.1 19 - 1 then 1 else if wI (mT s (k + 1) - mT s k) ≤ g then 0 else 1
def baMs (ms su an e : Int) : Int := if e = 1 ∧ (an = 0 ∨ ms < su) then su else ms
def baAn (an e : Int) : Int := if an = 1 ∨ e = 1 then 1 else 0
theorem X3_batch_e {K : KM} {Pt : MS → Prop} (g mc ms ho co su an k b e : Int) (s : MS) (hmc : xB mc) (hco : xB co) (hms : xB ms) (hsu : xB su) (hb : b = 0 ∨ b = 1) (he : e = 0 ∨ e = 1) (ha : an = 0 ∨ an = 1) (h : wX encM bdM mX3_batch 0 0 K Pt 46 [some (pR 0), none, some (pI g), some (pI (max mc co)), some (pI (baMs ms su an e)), some (pI ho), some (pI co), some (pI su), some (pI (baAn an e)), some (pI (k + 1)), none, none] [] s) : wX encM bdM mX3_batch 0 0 K Pt 206 [some (pR 0), none, some (pI g), some (pI mc), some (pI ms), some (pI ho), some (pI co), some (pI su), some (pI an), some (pI k), some (pI b), none] [pI e] s := by
  refine wx_J [46, 86, 206] 9 tX3_batch_ok rfl (fun J hR hJ => ?_)
  unfold baMs baAn at h
  refine ⟨⟨hmc, hco⟩, ⟨by omega, by omega⟩, fun q => ?_, fun q => ?_⟩
  · rw [if_neg (by omega)] at h
    refine ⟨⟨by omega, by omega⟩, fun q2 => ?_, fun q2 => ?_⟩
    · rw [if_pos (by omega)] at h
      exact hJ _ _ _ _ h
    · rw [if_neg (by omega)] at h
      exact ⟨⟨by omega, by omega⟩, fun _ => hJ _ _ _ _ h, fun q3 => absurd q q3⟩
  · refine ⟨⟨by omega, by omega⟩, fun q2 => ?_, fun q2 => ⟨⟨hsu, hms⟩, fun q3 => ?_, fun q3 => ?_⟩⟩
    · rw [if_pos ⟨by omega, Or.inl q2⟩, if_pos (by omega)] at h
      exact ⟨⟨by omega, by omega⟩, fun q3 => absurd q2 q3, fun _ => ⟨⟨by omega, by omega⟩, fun q3 => absurd q3 q, fun _ => hJ _ _ _ _ h⟩⟩
    · rw [if_neg (by omega), if_pos (by omega)] at h
      exact ⟨⟨by omega, by omega⟩, fun _ => hJ _ _ _ _ h, fun q3 => absurd q3 q2⟩
    · rw [if_pos ⟨by omega, Or.inr q3⟩, if_pos (by omega)] at h
      exact ⟨⟨by omega, by omega⟩, fun _ => hJ _ _ _ _ h, fun q3 => absurd q3 q2⟩
def baHo (s : MS) (ho k b : Int) : Int := if b = 1 ∧ 0 < k then max ho (wI (mT s k - mT s (k - 1))) else ho
def baCo (co b : Int) : Int := if b = 1 then 1 else wI (co + 1)
def baSu (s : MS) (su k b : Int) : Int := if b = 1 then mV s k else wI (su + mV s k)
theorem X3_batch_b {K : KM} {Pt : MS → Prop} (g mc ms ho co su an k b : Int) (s : MS) (hg : xB g) (hho : xB ho) (hb : b = 0 ∨ b = 1) (hk : 0 ≤ k ∧ k < s.1 19) (ht : s.1 19 ≤ 160) (h : xB (baSu s su k b) → xB (baCo co b) → wX encM bdM mX3_batch 0 0 K Pt 206 [some (pR 0), none, some (pI g), some (pI mc), some (pI ms), some (pI (baHo s ho k b)), some (pI (baCo co b)), some (pI (baSu s su k b)), some (pI an), some (pI k), some (pI b), none] [pI (baE s g k)] s) : wX encM bdM mX3_batch 0 0 K Pt 86 [some (pR 0), none, some (pI g), some (pI mc), some (pI ms), some (pI ho), some (pI co), some (pI su), some (pI an), some (pI k), none, none] [pI b] s := by
  have x1 : xB 1 := ⟨by omega, by omega⟩
  refine wx_J [46, 86, 167, 206] 9 tX3_batch_ok rfl (fun J hR hJ => ?_)
  have z : ∀ (ho co su b : Int), wX encM bdM mX3_batch 0 0 K Pt 206 [some (pR 0), none, some (pI g), some (pI mc), some (pI ms), some (pI ho), some (pI co), some (pI su), some (pI an), some (pI k), some (pI b), none] [pI (baE s g k)] s → ∀ su0, wX encM bdM mX3_batch 0 0 K Pt 167 [some (pR 0), none, some (pI g), some (pI mc), some (pI ms), some (pI ho), some (pI co), some (pI su0), some (pI an), some (pI k), some (pI b), none] [pI su] s := by
    intro ho co su b y su0
    refine wx_J [46, 86, 206] 9 tX3_batch_ok rfl (fun J hR hJ => ?_)
    unfold baE at y
    refine fun hx => ⟨⟨⟨by omega, by omega⟩, ⟨by omega, by omega⟩⟩, fun q => ?_, fun q => ?_⟩
    · rw [if_pos q] at y
      exact hJ _ _ _ _ y
    · rw [if_neg q] at y
      refine ⟨⟨by omega, by omega⟩, fun b1 => ⟨⟨by omega, by omega⟩, fun b2 hw => ⟨⟨hw, hg⟩, fun q2 => ?_, fun q2 => ?_⟩⟩⟩
      · rw [if_pos q2] at y
        exact hJ _ _ _ _ y
      · rw [if_neg (Int.not_le.mpr q2)] at y
        exact hJ _ _ _ _ y
  rcases hb with hb | hb
  · subst hb
    refine ⟨⟨by omega, by omega⟩, fun _ => ⟨⟨by omega, by omega⟩, fun _ => ?_, fun q => absurd rfl q⟩, fun q => absurd rfl q⟩
    exact fun c1 => ⟨⟨by omega, by omega⟩, fun _ => ⟨⟨by omega, by omega⟩, fun _ c2 => hJ _ _ _ _ (z _ _ _ _ (h c2 c1) _)⟩, fun q => absurd rfl q⟩
  · subst hb
    refine ⟨⟨by omega, by omega⟩, fun q => absurd q (by omega), fun _ => ⟨⟨by omega, by omega⟩, fun q => ?_, fun q => ?_⟩⟩
    · have e : baHo s ho k 1 = ho := if_neg (by omega)
      rw [e] at h
      exact ⟨⟨by omega, by omega⟩, fun q => absurd q (by omega), fun _ => ⟨⟨by omega, by omega⟩, fun q => absurd q (by omega), fun _ => ⟨⟨by omega, by omega⟩, fun c2 => hJ _ _ _ _ (z _ _ _ _ (h c2 x1) _)⟩⟩⟩
    · have e : baHo s ho k 1 = max ho (wI (mT s k - mT s (k - 1))) := if_pos ⟨rfl, q⟩
      rw [e] at h
      exact ⟨⟨by omega, by omega⟩, fun b1 => ⟨⟨by omega, by omega⟩, fun b2 hw => ⟨⟨hho, hw⟩, ⟨by omega, by omega⟩, fun q => absurd q (by omega), fun _ => ⟨⟨by omega, by omega⟩, fun q => absurd q (by omega), fun _ => ⟨⟨by omega, by omega⟩, fun c2 => hJ _ _ _ _ (z _ _ _ _ (h c2 x1) _)⟩⟩⟩⟩⟩
end
-- 75.Mf
section
/-! ===== the model: batch, whole ===== -/
def baS (s : MS) (mc ms ho : Int) : MS := mEn (mEn (mEn (mS s 1 0) mc) ms) ho
def baF (s : MS) (g mc ms ho : Int) : Int × MS := (fiN (baS s mc ms ho) g 160 0 0, baS s mc ms ho)
def baN (s : MS) (g : Int) : Nat → Int → Int → Int → Int → Int → Int → Int → Int × MS
  | 0, _, mc, ms, ho, _, _, _ => baF s g mc ms ho
  | m + 1, k, mc, ms, ho, co, su, an => if s.1 19 ≤ k then baF s g mc ms ho else baN s g m (k + 1) (max mc (baCo co (fiB s g k))) (baMs ms (baSu s su k (fiB s g k)) an (baE s g k)) (baHo s ho k (fiB s g k)) (baCo co (fiB s g k)) (baSu s su k (fiB s g k)) (baAn an (baE s g k))
theorem xB_max {a b : Int} (h1 : xB a) (h2 : xB b) : xB (max a b) := by
  rw [Int.max_def]
  split
  · exact h2
  · exact h1
theorem X3_batch_l {K : KM} {Pt : MS → Prop} (g : Int) (s : MS) (hg : xB g) (ht : s.1 19 ≤ 160) : ∀ (m : Nat) (k mc ms ho co su an : Int), 0 ≤ k → k + m = 160 → xB mc → xB ms → xB ho → xB co → xB su → (an = 0 ∨ an = 1) → K [pI (baN s g m k mc ms ho co su an).1] (baN s g m k mc ms ho co su an).2 → wX encM bdM mX3_batch 0 0 K Pt 46 [some (pR 0), none, some (pI g), some (pI mc), some (pI ms), some (pI ho), some (pI co), some (pI su), some (pI an), some (pI k), none, none] [] s := by
  have fin : ∀ (k mc ms ho co su an : Int), 0 ≤ k → k ≤ 160 → s.1 19 ≤ k → xB mc → xB ms → xB ho → K [pI (baF s g mc ms ho).1] (baF s g mc ms ho).2 → wX encM bdM mX3_batch 0 0 K Pt 46 [some (pR 0), none, some (pI g), some (pI mc), some (pI ms), some (pI ho), some (pI co), some (pI su), some (pI an), some (pI k), none, none] [] s := by
    intro k mc ms ho co su an h0 h1 hk hmc hms hho hK
    refine wx_J [46, 86, 206] 9 tX3_batch_ok rfl (fun J hR hJ => ?_)
    exact fun hx => ⟨⟨⟨by omega, by omega⟩, hx⟩, fun _ => ⟨⟨by omega, by omega⟩, hmc, ⟨hmc, by show (0 : Int) ≤ 0; omega, by show (0 : Int) < 16; omega⟩, hms, ⟨hms, by show (0 : Int) ≤ 0 + 1; omega, by show (0 : Int) + 1 < 16; omega⟩, hho, ⟨hho, by show (0 : Int) ≤ 0 + 1 + 1; omega, by show (0 : Int) + 1 + 1 < 16; omega⟩, ⟨hg, ht⟩, hR _ _ hK⟩, fun q => absurd q (Int.not_lt.mpr hk)⟩
  intro m
  induction m with
  | zero =>
    intro k mc ms ho co su an h0 h1 hmc hms hho hco hsu ha hK
    exact fin k mc ms ho co su an h0 (by omega) (by omega) hmc hms hho hK
  | succ m ih =>
    intro k mc ms ho co su an h0 h1 hmc hms hho hco hsu ha hK
    unfold baN at hK
    by_cases c : s.1 19 ≤ k
    · rw [if_pos c] at hK
      exact fin k mc ms ho co su an h0 (by omega) c hmc hms hho hK
    · rw [if_neg c] at hK
      have hE : baE s g k = 0 ∨ baE s g k = 1 := by
        unfold baE
        split
        · exact Or.inr rfl
        · split
          · exact Or.inl rfl
          · exact Or.inr rfl
      have hA : baAn an (baE s g k) = 0 ∨ baAn an (baE s g k) = 1 := by
        unfold baAn
        split
        · exact Or.inr rfl
        · exact Or.inl rfl
      have hF : fiB s g k = 0 ∨ fiB s g k = 1 := by
        unfold fiB
        split
        · exact Or.inr rfl
        · split
          · exact Or.inl rfl
          · exact Or.inr rfl
      have st : wX encM bdM mX3_batch 0 0 K Pt 86 [some (pR 0), none, some (pI g), some (pI mc), some (pI ms), some (pI ho), some (pI co), some (pI su), some (pI an), some (pI k), none, none] [pI (fiB s g k)] s := by
        refine X3_batch_b g mc ms ho co su an k (fiB s g k) s hg hho hF ⟨h0, by omega⟩ ht (fun hs hc => ?_)
        have hM : xB (baMs ms (baSu s su k (fiB s g k)) an (baE s g k)) := by
          unfold baMs
          split
          · exact hs
          · exact hms
        have hH : xB (baHo s ho k (fiB s g k)) := by
          unfold baHo
          split
          · exact xB_max hho (wI_B _)
          · exact hho
        exact X3_batch_e g mc ms _ _ _ an k _ _ s hmc hc hms hs hF hE ha (ih (k + 1) _ _ _ _ _ _ (by omega) (by omega) (xB_max hmc hc) hM hH hc hs hA hK)
      refine wx_J [46, 86, 206] 9 tX3_batch_ok rfl (fun J hR hJ => ?_)
      have st := hJ _ _ _ _ st
      unfold fiB at st
      refine fun hx => ⟨⟨⟨by omega, by omega⟩, hx⟩, fun q => absurd q c, fun _ => ⟨⟨by omega, by omega⟩, fun q => ?_, fun q => ?_⟩⟩
      · rw [if_pos q] at st
        exact st
      · rw [if_neg q] at st
        refine ⟨⟨by omega, by omega⟩, fun b1 => ⟨⟨by omega, by omega⟩, fun b2 hw => ⟨⟨hw, hg⟩, fun q2 => ?_, fun q2 => ?_⟩⟩⟩
        · rw [if_pos q2] at st
          exact st
        · rw [if_neg (Int.not_le.mpr q2)] at st
          exact st
def gBa (s : MS) : Int × MS := baN s (mg s (0 * 2804 + 1)) 160 0 (-1) (-1) (-1) 0 0 0
def sX3_batch : Int → MS → KM → Prop := fun key s K => (xB key ∧ nIn s ≤ 160) ∧ (¬ (0 ≤ key ∧ key < 6) → K [pI (-1)] (mS s 0 0)) ∧ ((0 ≤ key ∧ key < 6) → K [pI (gBa (gLt (mS s 0 0) key)).1] (gBa (gLt (mS s 0 0) key)).2)
theorem mX3_batch_ok : mOk encM bdM mX3_batch (atR 0 (a1 sX3_batch)) := by
  refine mOVa1 kX3_batch (fun _ => rfl) (fun key s K h hb => wx_J [46, 86, 206] 9 tX3_batch_ok rfl (fun J hR hJ => ?_))
  obtain ⟨⟨h1, h3⟩, p1, p2⟩ := h
  have x0 : xB 0 := ⟨by omega, by omega⟩
  have x1 : xB (-1) := ⟨by omega, by omega⟩
  refine ⟨⟨by omega, by omega⟩, ⟨h1, fun e => ?_, fun e => ?_⟩⟩
  · exact ⟨⟨by omega, by omega⟩, fun _ => ⟨⟨h1, h3⟩, ⟨by omega, by omega⟩, fun hx => hJ _ _ _ _ (X3_batch_l _ (gLt (mS s 0 0) key) hx (gLt_19 (mS s 0 0) key).2 160 0 (-1) (-1) (-1) 0 0 0 (by omega) (by omega) x1 x1 x1 x0 x0 (Or.inl rfl) (p2 e))⟩, fun q => absurd q (by omega)⟩
  · exact ⟨⟨by omega, by omega⟩, fun q => absurd rfl q, fun _ => hR _ _ (p1 e)⟩
end
-- 76.Lt
section
/-! ===== LateSessions: what throws ===== -/
-- X2_source: heads []
def tX2_source : Nat → Blk LSt := fun pc => bif Nat.blt pc 43 then (bif Nat.blt pc 17 then (bif Nat.beq pc 0 then (oAld 0 <| oIld 1 <| oC2 (cL_X2_isSource) <| oZEq 17 <| oIld 2 <| oZLt 17 <| oIld 2 <| oI 5 <| oCLe 25 <| oTo 17) else oNo) else (bif Nat.blt pc 25 then (bif Nat.beq pc 17 then (oThr) else oNo) else (bif Nat.beq pc 25 then (oIld 2 <| oI 5 <| oCGe 43 <| oAld 0 <| oGet (fgL) 2 0 <| oGet (fgL) 1 10 <| oIld 1 <| oIld 2 <| oC3 (cL_X0_get) <| oIret) else oNo))) else (bif Nat.blt pc 72 then (bif Nat.beq pc 43 then (oAld 0 <| oGet (fgL) 2 0 <| oGet (fgL) 1 10 <| oIld 1 <| oI 0 <| oC3 (cL_X0_get) <| oAld 0 <| oGet (fgL) 2 0 <| oGet (fgL) 1 3 <| oSubW <| oIst 3 <| oIld 3 <| oZGe 72 <| oI (-1) <| oTo 73) else oNo) else (bif Nat.blt pc 73 then (bif Nat.beq pc 72 then (oIld 3 <| oTo 73) else oNo) else (bif Nat.beq pc 73 then (oIret) else oNo)))
theorem tX2_source_ok : ∀ pc, bOk (encL) (bdL) mX2_source 1 6 pc (tX2_source pc) := fun pc => (tNode (tNode (tLeaf (okAldn iX2_source_0 rfl <| okIldn iX2_source_1 rfl <| okC2 (qL_X2_isSource iX2_source_2) <| okZEq (tl rfl) iX2_source_5 <| okIldn iX2_source_8 rfl <| okZLt (tl rfl) iX2_source_9 <| okIldn iX2_source_12 rfl <| okIc iX2_source_13 <| okCLe (tl rfl) iX2_source_14 <| okTo (tl rfl))) (tNode (tLeaf (okThr ⟨_, _, iX2_source_17.1, iX2_source_20.1, iX2_source_21.1, iX2_source_24.1⟩)) (tLeaf (okIldn iX2_source_25 rfl <| okIc iX2_source_26 <| okCGe (tl rfl) iX2_source_27 <| okAldn iX2_source_30 rfl <| okGet (vFgL) iX2_source_31 <| okGet (vFgL) iX2_source_34 <| okIldn iX2_source_37 rfl <| okIldn iX2_source_38 rfl <| okC3 (qL_X0_get iX2_source_39) <| okIret iX2_source_42 rfl)))) (tNode (tLeaf (okAldn iX2_source_43 rfl <| okGet (vFgL) iX2_source_44 <| okGet (vFgL) iX2_source_47 <| okIldn iX2_source_50 rfl <| okIc iX2_source_51 <| okC3 (qL_X0_get iX2_source_52) <| okAldn iX2_source_55 rfl <| okGet (vFgL) iX2_source_56 <| okGet (vFgL) iX2_source_59 <| okSubW iX2_source_62 <| okIstn iX2_source_63 rfl (by decide) <| okIldn iX2_source_64 rfl <| okZGe (tl rfl) iX2_source_65 <| okIc iX2_source_68 <| okGoto (tl rfl) iX2_source_69)) (tNode (tLeaf (okIldn iX2_source_72 rfl <| okTo (tl rfl))) (tLeaf (okIret iX2_source_73 rfl))))) pc
-- X2_session: heads []
def tX2_session : Nat → Blk LSt := fun pc => bif Nat.blt pc 65 then (bif Nat.blt pc 36 then (bif Nat.blt pc 28 then (bif Nat.beq pc 0 then (oIld 1 <| oZLt 28 <| oIld 1 <| oAld 0 <| oGet (fgL) 2 0 <| oGet (fgL) 1 11 <| oGet (fgL) 0 3 <| oCGe 28 <| oIld 2 <| oZLt 28 <| oIld 2 <| oI 7 <| oCLe 36 <| oTo 28) else oNo) else (bif Nat.beq pc 28 then (oThr) else oNo)) else (bif Nat.blt pc 64 then (bif Nat.beq pc 36 then (oIld 2 <| oI 6 <| oCNe 66 <| oAld 0 <| oGet (fgL) 2 0 <| oIld 1 <| oAld 0 <| oGet (fgL) 2 0 <| oGet (fgL) 1 3 <| oC3 (cL_X1_isRipe) <| oZEq 64 <| oI 1 <| oTo 65) else oNo) else (bif Nat.beq pc 64 then (oI 0 <| oTo 65) else oNo))) else (bif Nat.blt pc 87 then (bif Nat.blt pc 66 then (bif Nat.beq pc 65 then (oIret) else oNo) else (bif Nat.beq pc 66 then (oIld 2 <| oI 7 <| oCNe 89 <| oAld 0 <| oGet (fgL) 2 0 <| oIld 1 <| oC2 (cL_X1_hasResult) <| oZEq 87 <| oI 1 <| oTo 88) else oNo)) else (bif Nat.blt pc 88 then (bif Nat.beq pc 87 then (oI 0 <| oTo 88) else oNo) else (bif Nat.blt pc 89 then (bif Nat.beq pc 88 then (oIret) else oNo) else (bif Nat.beq pc 89 then (oAld 0 <| oGet (fgL) 2 0 <| oGet (fgL) 1 11 <| oIld 1 <| oIld 2 <| oC3 (cL_X2_shifted) <| oIret) else oNo))))
theorem tX2_session_ok : ∀ pc, bOk (encL) (bdL) mX2_session 1 6 pc (tX2_session pc) := fun pc => (tNode (tNode (tNode (tLeaf (okIldn iX2_session_0 rfl <| okZLt (tl rfl) iX2_session_1 <| okIldn iX2_session_4 rfl <| okAldn iX2_session_5 rfl <| okGet (vFgL) iX2_session_6 <| okGet (vFgL) iX2_session_9 <| okGet (vFgL) iX2_session_12 <| okCGe (tl rfl) iX2_session_15 <| okIldn iX2_session_18 rfl <| okZLt (tl rfl) iX2_session_19 <| okIldn iX2_session_22 rfl <| okBi iX2_session_23 (by decide) <| okCLe (tl rfl) iX2_session_25 <| okTo (tl rfl))) (tLeaf (okThr ⟨_, _, iX2_session_28.1, iX2_session_31.1, iX2_session_32.1, iX2_session_35.1⟩))) (tNode (tLeaf (okIldn iX2_session_36 rfl <| okBi iX2_session_37 (by decide) <| okCNe (tl rfl) iX2_session_39 <| okAldn iX2_session_42 rfl <| okGet (vFgL) iX2_session_43 <| okIldn iX2_session_46 rfl <| okAldn iX2_session_47 rfl <| okGet (vFgL) iX2_session_48 <| okGet (vFgL) iX2_session_51 <| okC3 (qL_X1_isRipe iX2_session_54) <| okZEq (tl rfl) iX2_session_57 <| okIc iX2_session_60 <| okGoto (tl rfl) iX2_session_61)) (tLeaf (okIc iX2_session_64 <| okTo (tl rfl))))) (tNode (tNode (tLeaf (okIret iX2_session_65 rfl)) (tLeaf (okIldn iX2_session_66 rfl <| okBi iX2_session_67 (by decide) <| okCNe (tl rfl) iX2_session_69 <| okAldn iX2_session_72 rfl <| okGet (vFgL) iX2_session_73 <| okIldn iX2_session_76 rfl <| okC2 (qL_X1_hasResult iX2_session_77) <| okZEq (tl rfl) iX2_session_80 <| okIc iX2_session_83 <| okGoto (tl rfl) iX2_session_84))) (tNode (tLeaf (okIc iX2_session_87 <| okTo (tl rfl))) (tNode (tLeaf (okIret iX2_session_88 rfl)) (tLeaf (okAldn iX2_session_89 rfl <| okGet (vFgL) iX2_session_90 <| okGet (vFgL) iX2_session_93 <| okIldn iX2_session_96 rfl <| okIldn iX2_session_97 rfl <| okC3 (qL_X2_shifted iX2_session_98) <| okIret iX2_session_101 rfl)))))) pc
-- X2_message: heads []
def tX2_message : Nat → Blk LSt := fun pc => bif Nat.blt pc 36 then (bif Nat.blt pc 28 then (bif Nat.beq pc 0 then (oIld 1 <| oAld 0 <| oGet (fgL) 2 0 <| oGet (fgL) 1 4 <| oI 60 <| oC3 (cL_X2_isOfLatest) <| oIst 3 <| oIld 3 <| oZEq 28 <| oIld 2 <| oZLt 28 <| oIld 2 <| oI 6 <| oCLt 36 <| oTo 28) else oNo) else (bif Nat.beq pc 28 then (oThr) else oNo)) else (bif Nat.blt pc 67 then (bif Nat.beq pc 36 then (oAld 0 <| oGet (fgL) 2 0 <| oGet (fgL) 1 12 <| oIld 1 <| oI 60 <| oRemT <| oIld 2 <| oC3 (cL_X0_get) <| oIst 4 <| oIld 2 <| oI 5 <| oCNe 67 <| oIld 4 <| oI 20000 <| oAddW <| oTo 69) else oNo) else (bif Nat.blt pc 69 then (bif Nat.beq pc 67 then (oIld 4 <| oTo 69) else oNo) else (bif Nat.beq pc 69 then (oIret) else oNo)))
theorem tX2_message_ok : ∀ pc, bOk (encL) (bdL) mX2_message 1 6 pc (tX2_message pc) := fun pc => (tNode (tNode (tLeaf (okIldn iX2_message_0 rfl <| okAldn iX2_message_1 rfl <| okGet (vFgL) iX2_message_2 <| okGet (vFgL) iX2_message_5 <| okBi iX2_message_8 (by decide) <| okC3 (qL_X2_isOfLatest iX2_message_10) <| okIstn iX2_message_13 rfl (by decide) <| okIldn iX2_message_14 rfl <| okZEq (tl rfl) iX2_message_15 <| okIldn iX2_message_18 rfl <| okZLt (tl rfl) iX2_message_19 <| okIldn iX2_message_22 rfl <| okBi iX2_message_23 (by decide) <| okCLt (tl rfl) iX2_message_25 <| okTo (tl rfl))) (tLeaf (okThr ⟨_, _, iX2_message_28.1, iX2_message_31.1, iX2_message_32.1, iX2_message_35.1⟩))) (tNode (tLeaf (okAldn iX2_message_36 rfl <| okGet (vFgL) iX2_message_37 <| okGet (vFgL) iX2_message_40 <| okIldn iX2_message_43 rfl <| okBi iX2_message_44 (by decide) <| okRemT iX2_message_46 <| okIldn iX2_message_47 rfl <| okC3 (qL_X0_get iX2_message_48) <| okIst iX2_message_51 (by decide) <| okIldn iX2_message_53 rfl <| okIc iX2_message_54 <| okCNe (tl rfl) iX2_message_55 <| okIld iX2_message_58 <| okSi iX2_message_60 (by decide) <| okAddW iX2_message_63 <| okGoto (tl rfl) iX2_message_64)) (tNode (tLeaf (okIld iX2_message_67 <| okTo (tl rfl))) (tLeaf (okIret iX2_message_69 rfl))))) pc
-- X2_finals: heads []
def tX2_finals : Nat → Blk LSt := fun pc => bif Nat.blt pc 28 then (bif Nat.beq pc 0 then (oIld 1 <| oAld 0 <| oGet (fgL) 2 0 <| oGet (fgL) 1 5 <| oI 40 <| oC3 (cL_X2_isOfLatest) <| oIst 3 <| oIld 3 <| oZEq 28 <| oIld 2 <| oZLt 28 <| oIld 2 <| oI 7 <| oCLt 36 <| oTo 28) else oNo) else (bif Nat.blt pc 36 then (bif Nat.beq pc 28 then (oThr) else oNo) else (bif Nat.beq pc 36 then (oAld 0 <| oGet (fgL) 2 0 <| oGet (fgL) 1 13 <| oIld 1 <| oI 40 <| oRemT <| oIld 2 <| oC3 (cL_X2_shifted) <| oIret) else oNo))
theorem tX2_finals_ok : ∀ pc, bOk (encL) (bdL) mX2_finals 1 6 pc (tX2_finals pc) := fun pc => (tNode (tLeaf (okIldn iX2_finals_0 rfl <| okAldn iX2_finals_1 rfl <| okGet (vFgL) iX2_finals_2 <| okGet (vFgL) iX2_finals_5 <| okBi iX2_finals_8 (by decide) <| okC3 (qL_X2_isOfLatest iX2_finals_10) <| okIstn iX2_finals_13 rfl (by decide) <| okIldn iX2_finals_14 rfl <| okZEq (tl rfl) iX2_finals_15 <| okIldn iX2_finals_18 rfl <| okZLt (tl rfl) iX2_finals_19 <| okIldn iX2_finals_22 rfl <| okBi iX2_finals_23 (by decide) <| okCLt (tl rfl) iX2_finals_25 <| okTo (tl rfl))) (tNode (tLeaf (okThr ⟨_, _, iX2_finals_28.1, iX2_finals_31.1, iX2_finals_32.1, iX2_finals_35.1⟩)) (tLeaf (okAldn iX2_finals_36 rfl <| okGet (vFgL) iX2_finals_37 <| okGet (vFgL) iX2_finals_40 <| okIldn iX2_finals_43 rfl <| okBi iX2_finals_44 (by decide) <| okRemT iX2_finals_46 <| okIldn iX2_finals_47 rfl <| okC3 (qL_X2_shifted iX2_finals_48) <| okIret iX2_finals_51 rfl)))) pc
-- X2_input: heads []
def tX2_input : Nat → Blk LSt := fun pc => bif Nat.blt pc 27 then (bif Nat.beq pc 0 then (oIld 1 <| oZLt 27 <| oIld 1 <| oAld 0 <| oGet (fgL) 2 0 <| oGet (fgL) 1 14 <| oGet (fgL) 0 3 <| oCGe 27 <| oIld 2 <| oZLt 27 <| oIld 2 <| oI 3 <| oCLe 35 <| oTo 27) else oNo) else (bif Nat.blt pc 35 then (bif Nat.beq pc 27 then (oThr) else oNo) else (bif Nat.beq pc 35 then (oAld 0 <| oGet (fgL) 2 0 <| oGet (fgL) 1 14 <| oIld 1 <| oIld 2 <| oC3 (cL_X0_get) <| oIret) else oNo))
theorem tX2_input_ok : ∀ pc, bOk (encL) (bdL) mX2_input 1 6 pc (tX2_input pc) := fun pc => (tNode (tLeaf (okIldn iX2_input_0 rfl <| okZLt (tl rfl) iX2_input_1 <| okIldn iX2_input_4 rfl <| okAldn iX2_input_5 rfl <| okGet (vFgL) iX2_input_6 <| okGet (vFgL) iX2_input_9 <| okGet (vFgL) iX2_input_12 <| okCGe (tl rfl) iX2_input_15 <| okIldn iX2_input_18 rfl <| okZLt (tl rfl) iX2_input_19 <| okIldn iX2_input_22 rfl <| okIc iX2_input_23 <| okCLe (tl rfl) iX2_input_24 <| okTo (tl rfl))) (tNode (tLeaf (okThr ⟨_, _, iX2_input_27.1, iX2_input_30.1, iX2_input_31.1, iX2_input_34.1⟩)) (tLeaf (okAldn iX2_input_35 rfl <| okGet (vFgL) iX2_input_36 <| okGet (vFgL) iX2_input_39 <| okIldn iX2_input_42 rfl <| okIldn iX2_input_43 rfl <| okC3 (qL_X0_get iX2_input_44) <| okIret iX2_input_47 rfl)))) pc
-- X2_row: heads []
def tX2_row : Nat → Blk LSt := fun pc => bif Nat.blt pc 21 then (bif Nat.beq pc 0 then (oIld 1 <| oZLt 21 <| oIld 1 <| oAld 0 <| oGet (fgL) 2 8 <| oCGe 21 <| oIld 1 <| oAld 0 <| oGet (fgL) 2 7 <| oLen (agL) <| oCLt 29 <| oTo 21) else oNo) else (bif Nat.blt pc 29 then (bif Nat.beq pc 21 then (oThr) else oNo) else (bif Nat.beq pc 29 then (oAld 0 <| oGet (fgL) 2 7 <| oIld 1 <| oLa (agL) <| oLret) else oNo))
theorem tX2_row_ok : ∀ pc, bOk (encL) (bdL) mX2_row 1 6 pc (tX2_row pc) := fun pc => (tNode (tLeaf (okIldn iX2_row_0 rfl <| okZLt (tl rfl) iX2_row_1 <| okIldn iX2_row_4 rfl <| okAldn iX2_row_5 rfl <| okGet (vFgL) iX2_row_6 <| okCGe (tl rfl) iX2_row_9 <| okIldn iX2_row_12 rfl <| okAldn iX2_row_13 rfl <| okGet (vFgL) iX2_row_14 <| okLen (vAgL) iX2_row_17 <| okCLt (tl rfl) iX2_row_18 <| okTo (tl rfl))) (tNode (tLeaf (okThr ⟨_, _, iX2_row_21.1, iX2_row_24.1, iX2_row_25.1, iX2_row_28.1⟩)) (tLeaf (okAldn iX2_row_29 rfl <| okGet (vFgL) iX2_row_30 <| okIldn iX2_row_33 rfl <| okLa (vAgL) iX2_row_34 <| okLret iX2_row_35 rfl)))) pc
def fSource (s : LSt) (r c : Int) : Int := if c < 5 then wG (s.2.2 0) 0 r c else if wI (wG (s.2.2 0) 0 r 0 - (s.2.2 0).1 3) < 0 then -1 else wI (wG (s.2.2 0) 0 r 0 - (s.2.2 0).1 3)
theorem X2_source_t {K : KL} {Pt : LSt → Prop} (r c : Int) (s : LSt) (h1 : xB r) (h2 : xB c) (hT : ¬ (lSrc s r ∧ 0 ≤ c ∧ c ≤ 5) → Pt s) (hK : lSrc s r ∧ 0 ≤ c ∧ c ≤ 5 → K [pI (fSource s r c)] s) : wX encL bdL mX2_source 1 6 K Pt 0 [some (pR 0), some (pI r), some (pI c), none] [] s := by
  refine wx_J [] 9 tX2_source_ok rfl (fun J hR hJ => ?_)
  refine ⟨h1, fun e => ⟨⟨by omega, by omega⟩, fun q => absurd q (by omega), fun _ => ⟨h2, fun q => hJ _ _ _ _ (hT (by omega)), fun q => ⟨⟨h2, ⟨by omega, by omega⟩⟩, fun q2 => ?_, fun q2 => hJ _ _ _ _ (hT (by omega))⟩⟩⟩, fun e => ⟨⟨by omega, by omega⟩, fun _ => hJ _ _ _ _ (hT (fun w => e w.1)), fun q => absurd rfl q⟩⟩
  have hK := hK ⟨e, q, q2⟩
  unfold fSource at hK
  refine ⟨⟨h2, ⟨by omega, by omega⟩⟩, fun q3 => ?_, fun q3 => ?_⟩
  · rw [if_neg (by omega)] at hK
    refine ⟨⟨h1, ⟨by omega, by omega⟩⟩, fun _ _ hw => ⟨hw, fun q4 => ?_, fun q4 => ?_⟩⟩
    · rw [if_neg (Int.not_lt.mpr q4)] at hK
      exact hR _ _ hK
    · rw [if_pos q4] at hK
      exact hR _ _ hK
  · rw [if_pos q3] at hK
    exact ⟨⟨h1, h2⟩, fun _ => hR _ _ hK⟩
def fInput (s : LSt) (i c : Int) : Int := wG (s.2.2 0) 4 i c
theorem X2_input_t {K : KL} {Pt : LSt → Prop} (i c : Int) (s : LSt) (h1 : xB i) (h2 : xB c) (hT : ¬ ((0 ≤ i ∧ i < wZ (s.2.2 0) 4) ∧ 0 ≤ c ∧ c ≤ 3) → Pt s) (hK : (0 ≤ i ∧ i < wZ (s.2.2 0) 4) ∧ 0 ≤ c ∧ c ≤ 3 → K [pI (fInput s i c)] s) : wX encL bdL mX2_input 1 6 K Pt 0 [some (pR 0), some (pI i), some (pI c)] [] s := by
  refine wx_J [] 9 tX2_input_ok rfl (fun J hR hJ => ?_)
  refine ⟨h1, fun q => hJ _ _ _ _ (hT (by omega)), fun q hx => ⟨⟨h1, hx⟩, fun q2 => hJ _ _ _ _ (hT (fun w => absurd w.1.2 (Int.not_lt.mpr q2))), fun q2 => ⟨h2, fun q3 => hJ _ _ _ _ (hT (by omega)), fun q3 => ⟨⟨h2, ⟨by omega, by omega⟩⟩, fun q4 => ?_, fun q4 => hJ _ _ _ _ (hT (by omega))⟩⟩⟩⟩
  exact ⟨⟨h1, h2⟩, fun _ => hR _ _ (hK ⟨⟨q, q2⟩, q3, q4⟩)⟩
def fRow (s : LSt) (i : Int) : Int := s.2.1 0 i.toNat
theorem X2_row_t {K : KL} {Pt : LSt → Prop} (i : Int) (s : LSt) (h1 : xB i) (hT : ¬ (0 ≤ i ∧ i < s.1 3 ∧ i < 6) → Pt s) (hK : 0 ≤ i ∧ i < s.1 3 ∧ i < 6 → K [.inr (.inl (fRow s i))] s) : wX encL bdL mX2_row 1 6 K Pt 0 [some (pR 0), some (pI i)] [] s := by
  refine wx_J [] 9 tX2_row_ok rfl (fun J hR hJ => ?_)
  refine ⟨h1, fun q => hJ _ _ _ _ (hT (by omega)), fun q hx => ⟨⟨h1, hx⟩, fun q2 => hJ _ _ _ _ (hT (fun w => absurd w.2.1 (Int.not_lt.mpr q2))), fun q2 => ⟨⟨h1, ⟨by omega, by omega⟩⟩, fun q4 => ?_, fun q4 => hJ _ _ _ _ (hT (fun w => absurd w.2.2 (Int.not_lt.mpr q4)))⟩⟩⟩
  exact ⟨⟨q, q4⟩, fun _ => hR _ _ (hK ⟨q, q2, q4⟩)⟩
def fFinals (s : LSt) (i c : Int) : Int := shift7 (wG (s.2.2 0) 3 (Int.tmod i 40) c) c
theorem X2_finals_t {K : KL} {Pt : LSt → Prop} (i c : Int) (s : LSt) (h1 : xB i) (h2 : xB c) (hT : ¬ (ofLatest i ((s.2.2 0).1 5) 40 ∧ 0 ≤ c ∧ c < 7) → Pt s) (hK : ofLatest i ((s.2.2 0).1 5) 40 ∧ 0 ≤ c ∧ c < 7 → K [pI (fFinals s i c)] s) : wX encL bdL mX2_finals 1 6 K Pt 0 [some (pR 0), some (pI i), some (pI c), none] [] s := by
  refine wx_J [] 9 tX2_finals_ok rfl (fun J hR hJ => ?_)
  refine fun hx => ⟨⟨h1, hx, ⟨by omega, by omega⟩⟩, fun e => ⟨⟨by omega, by omega⟩, fun q => absurd q (by omega), fun _ => ⟨h2, fun q3 => hJ _ _ _ _ (hT (by omega)), fun q3 => ⟨⟨h2, ⟨by omega, by omega⟩⟩, fun q4 => ?_, fun q4 => hJ _ _ _ _ (hT (by omega))⟩⟩⟩, fun e => ⟨⟨by omega, by omega⟩, fun _ => hJ _ _ _ _ (hT (fun w => e w.1)), fun q => absurd rfl q⟩⟩
  have hK := hK ⟨e, q3, q4⟩
  have m1 := Int.tmod_lt_of_pos i (show (0 : Int) < 40 by omega)
  have m0 := Int.tmod_nonneg 40 e.1
  exact ⟨⟨by omega, h1, ⟨by omega, by omega⟩⟩, ⟨⟨by omega, by omega⟩, h2⟩, hR _ _ hK⟩
def fMessage (s : LSt) (i c : Int) : Int := if c = 5 then wI (wG (s.2.2 0) 2 (Int.tmod i 60) c + 20000) else wG (s.2.2 0) 2 (Int.tmod i 60) c
theorem X2_message_t {K : KL} {Pt : LSt → Prop} (i c : Int) (s : LSt) (h1 : xB i) (h2 : xB c) (hT : ¬ (ofLatest i ((s.2.2 0).1 4) 60 ∧ 0 ≤ c ∧ c < 6) → Pt s) (hK : ofLatest i ((s.2.2 0).1 4) 60 ∧ 0 ≤ c ∧ c < 6 → K [pI (fMessage s i c)] s) : wX encL bdL mX2_message 1 6 K Pt 0 [some (pR 0), some (pI i), some (pI c), none, none] [] s := by
  refine wx_J [] 9 tX2_message_ok rfl (fun J hR hJ => ?_)
  refine fun hx => ⟨⟨h1, hx, ⟨by omega, by omega⟩⟩, fun e => ⟨⟨by omega, by omega⟩, fun q => absurd q (by omega), fun _ => ⟨h2, fun q3 => hJ _ _ _ _ (hT (by omega)), fun q3 => ⟨⟨h2, ⟨by omega, by omega⟩⟩, fun q4 => ?_, fun q4 => hJ _ _ _ _ (hT (by omega))⟩⟩⟩, fun e => ⟨⟨by omega, by omega⟩, fun _ => hJ _ _ _ _ (hT (fun w => e w.1)), fun q => absurd rfl q⟩⟩
  have hK := hK ⟨e, q3, q4⟩
  unfold fMessage at hK
  have m1 := Int.tmod_lt_of_pos i (show (0 : Int) < 60 by omega)
  have m0 := Int.tmod_nonneg 60 e.1
  refine ⟨⟨by omega, h1, ⟨by omega, by omega⟩⟩, ⟨⟨by omega, by omega⟩, h2⟩, fun hw => ⟨⟨h2, ⟨by omega, by omega⟩⟩, fun q => ?_, fun q => ?_⟩⟩
  · rw [if_neg q] at hK
    exact hR _ _ hK
  · rw [if_pos q] at hK
    exact fun _ => hR _ _ hK
def fSession (s : LSt) (i c : Int) : Int := if c = 6 then (if wRipe (s.2.2 0) i ((s.2.2 0).1 3) then 1 else 0) else if c = 7 then (if wHas (s.2.2 0) i then 1 else 0) else shift7 (wG (s.2.2 0) 1 i c) c
theorem X2_session_t {K : KL} {Pt : LSt → Prop} (i c : Int) (s : LSt) (h1 : xB i) (h2 : xB c) (hT : ¬ ((0 ≤ i ∧ i < wZ (s.2.2 0) 1) ∧ 0 ≤ c ∧ c ≤ 7) → Pt s) (hK : (0 ≤ i ∧ i < wZ (s.2.2 0) 1) ∧ 0 ≤ c ∧ c ≤ 7 → K [pI (fSession s i c)] s) : wX encL bdL mX2_session 1 6 K Pt 0 [some (pR 0), some (pI i), some (pI c)] [] s := by
  refine wx_J [] 9 tX2_session_ok rfl (fun J hR hJ => ?_)
  refine ⟨h1, fun q => hJ _ _ _ _ (hT (by omega)), fun q hx => ⟨⟨h1, hx⟩, fun q2 => hJ _ _ _ _ (hT (fun w => absurd w.1.2 (Int.not_lt.mpr q2))), fun q2 => ⟨h2, fun q3 => hJ _ _ _ _ (hT (by omega)), fun q3 => ⟨⟨h2, ⟨by omega, by omega⟩⟩, fun q4 => ?_, fun q4 => hJ _ _ _ _ (hT (by omega))⟩⟩⟩⟩
  have hK := hK ⟨⟨q, q2⟩, q3, q4⟩
  unfold fSession at hK
  refine ⟨⟨h2, ⟨by omega, by omega⟩⟩, fun q5 => ⟨⟨h2, ⟨by omega, by omega⟩⟩, fun q6 => ?_, fun q6 => ?_⟩, fun q5 => ?_⟩
  · rw [if_neg q5, if_neg q6] at hK
    exact ⟨⟨h1, h2⟩, hR _ _ hK⟩
  · rw [if_neg q5, if_pos q6] at hK
    refine ⟨h1, fun e => ?_, fun e => ?_⟩
    · rw [if_pos e] at hK
      exact ⟨⟨by omega, by omega⟩, fun q => absurd q (by omega), fun _ => hR _ _ hK⟩
    · rw [if_neg e] at hK
      exact ⟨⟨by omega, by omega⟩, fun _ => hR _ _ hK, fun q => absurd rfl q⟩
  · rw [if_pos q5] at hK
    refine fun hp => ⟨⟨h1, hp⟩, fun e => ?_, fun e => ?_⟩
    · rw [if_pos e] at hK
      exact ⟨⟨by omega, by omega⟩, fun q => absurd q (by omega), fun _ => hR _ _ hK⟩
    · rw [if_neg e] at hK
      exact ⟨⟨by omega, by omega⟩, fun _ => hR _ _ hK, fun q => absurd rfl q⟩
end
