/-! ===== World: what is asked of it ===== -/
-- X1_fateOf: heads []
def tX1_fateOf : Nat → Blk WS := fun pc => bif Nat.blt pc 27 then (bif Nat.blt pc 15 then (bif Nat.beq pc 0 then (oIld 1 <| oAld 0 <| oGet (fgW) 1 3 <| oAld 0 <| oGet (fgW) 1 1 <| oSubW <| oCGe 15 <| oI 2 <| oIret) else oNo) else (bif Nat.beq pc 15 then (oIld 1 <| oAld 0 <| oGet (fgW) 1 3 <| oCGe 27 <| oI 1 <| oTo 28) else oNo)) else (bif Nat.blt pc 28 then (bif Nat.beq pc 27 then (oI 0 <| oTo 28) else oNo) else (bif Nat.beq pc 28 then (oIret) else oNo))
theorem tX1_fateOf_ok : ∀ pc, bOk (encW) (bdW) mX1_fateOf 0 0 pc (tX1_fateOf pc) := fun pc => (tNode (tNode (tLeaf (okIldn iX1_fateOf_0 rfl <| okAldn iX1_fateOf_1 rfl <| okGet (vFgW) iX1_fateOf_2 <| okAldn iX1_fateOf_5 rfl <| okGet (vFgW) iX1_fateOf_6 <| okSubW iX1_fateOf_9 <| okCGe (tl rfl) iX1_fateOf_10 <| okIc iX1_fateOf_13 <| okIret iX1_fateOf_14 rfl)) (tLeaf (okIldn iX1_fateOf_15 rfl <| okAldn iX1_fateOf_16 rfl <| okGet (vFgW) iX1_fateOf_17 <| okCGe (tl rfl) iX1_fateOf_20 <| okIc iX1_fateOf_23 <| okGoto (tl rfl) iX1_fateOf_24))) (tNode (tLeaf (okIc iX1_fateOf_27 <| okTo (tl rfl))) (tLeaf (okIret iX1_fateOf_28 rfl)))) pc
-- X1_isTakenOf: heads []
def tX1_isTakenOf : Nat → Blk WS := fun pc => bif Nat.blt pc 36 then (bif Nat.blt pc 32 then (bif Nat.beq pc 0 then (oAld 0 <| oGet (fgW) 1 14 <| oIld 1 <| oI 5 <| oC3 (cW_X0_get) <| oIst 3 <| oAld 0 <| oGet (fgW) 1 14 <| oIld 1 <| oI 3 <| oC3 (cW_X0_get) <| oIld 2 <| oCNe 36 <| oIld 3 <| oZEq 32 <| oIld 3 <| oI 1 <| oCNe 36 <| oTo 32) else oNo) else (bif Nat.beq pc 32 then (oI 1 <| oTo 37) else oNo)) else (bif Nat.blt pc 37 then (bif Nat.beq pc 36 then (oI 0 <| oTo 37) else oNo) else (bif Nat.beq pc 37 then (oZret) else oNo))
theorem tX1_isTakenOf_ok : ∀ pc, bOk (encW) (bdW) mX1_isTakenOf 0 0 pc (tX1_isTakenOf pc) := fun pc => (tNode (tNode (tLeaf (okAldn iX1_isTakenOf_0 rfl <| okGet (vFgW) iX1_isTakenOf_1 <| okIldn iX1_isTakenOf_4 rfl <| okIc iX1_isTakenOf_5 <| okC3 (qW_X0_get iX1_isTakenOf_6) <| okIstn iX1_isTakenOf_9 rfl (by decide) <| okAldn iX1_isTakenOf_10 rfl <| okGet (vFgW) iX1_isTakenOf_11 <| okIldn iX1_isTakenOf_14 rfl <| okIc iX1_isTakenOf_15 <| okC3 (qW_X0_get iX1_isTakenOf_16) <| okIldn iX1_isTakenOf_19 rfl <| okCNe (tl rfl) iX1_isTakenOf_20 <| okIldn iX1_isTakenOf_23 rfl <| okZEq (tl rfl) iX1_isTakenOf_24 <| okIldn iX1_isTakenOf_27 rfl <| okIc iX1_isTakenOf_28 <| okCNe (tl rfl) iX1_isTakenOf_29 <| okTo (tl rfl))) (tLeaf (okIc iX1_isTakenOf_32 <| okGoto (tl rfl) iX1_isTakenOf_33))) (tNode (tLeaf (okIc iX1_isTakenOf_36 <| okTo (tl rfl))) (tLeaf (okZret iX1_isTakenOf_37 rfl)))) pc
-- X1_hasResult: heads []
def tX1_hasResult : Nat → Blk WS := fun pc => bif Nat.blt pc 18 then (bif Nat.beq pc 0 then (oAld 0 <| oGet (fgW) 1 11 <| oIld 1 <| oI 6 <| oC3 (cW_X0_get) <| oI (-1) <| oCEq 18 <| oI 1 <| oTo 19) else oNo) else (bif Nat.blt pc 19 then (bif Nat.beq pc 18 then (oI 0 <| oTo 19) else oNo) else (bif Nat.beq pc 19 then (oZret) else oNo))
theorem tX1_hasResult_ok : ∀ pc, bOk (encW) (bdW) mX1_hasResult 0 0 pc (tX1_hasResult pc) := fun pc => (tNode (tLeaf (okAldn iX1_hasResult_0 rfl <| okGet (vFgW) iX1_hasResult_1 <| okIldn iX1_hasResult_4 rfl <| okBi iX1_hasResult_5 (by decide) <| okC3 (qW_X0_get iX1_hasResult_7) <| okIc iX1_hasResult_10 <| okCEq (tl rfl) iX1_hasResult_11 <| okIc iX1_hasResult_14 <| okGoto (tl rfl) iX1_hasResult_15)) (tNode (tLeaf (okIc iX1_hasResult_18 <| okTo (tl rfl))) (tLeaf (okZret iX1_hasResult_19 rfl)))) pc
-- X1_isRipe: heads []
def tX1_isRipe : Nat → Blk WS := fun pc => bif Nat.blt pc 22 then (bif Nat.beq pc 0 then (oAld 0 <| oGet (fgW) 1 11 <| oIld 1 <| oI 2 <| oC3 (cW_X0_get) <| oAld 0 <| oGet (fgW) 1 0 <| oAddW <| oIld 2 <| oCGe 22 <| oI 1 <| oTo 23) else oNo) else (bif Nat.blt pc 23 then (bif Nat.beq pc 22 then (oI 0 <| oTo 23) else oNo) else (bif Nat.beq pc 23 then (oZret) else oNo))
theorem tX1_isRipe_ok : ∀ pc, bOk (encW) (bdW) mX1_isRipe 0 0 pc (tX1_isRipe pc) := fun pc => (tNode (tLeaf (okAldn iX1_isRipe_0 rfl <| okGet (vFgW) iX1_isRipe_1 <| okIldn iX1_isRipe_4 rfl <| okIc iX1_isRipe_5 <| okC3 (qW_X0_get iX1_isRipe_6) <| okAldn iX1_isRipe_9 rfl <| okGet (vFgW) iX1_isRipe_10 <| okAddW iX1_isRipe_13 <| okIldn iX1_isRipe_14 rfl <| okCGe (tl rfl) iX1_isRipe_15 <| okIc iX1_isRipe_18 <| okGoto (tl rfl) iX1_isRipe_19)) (tNode (tLeaf (okIc iX1_isRipe_22 <| okTo (tl rfl))) (tLeaf (okZret iX1_isRipe_23 rfl)))) pc
-- X1_isOver: heads []
def tX1_isOver : Nat → Blk WS := fun pc => bif Nat.blt pc 27 then (bif Nat.beq pc 0 then (oAld 0 <| oGet (fgW) 1 11 <| oIld 1 <| oI 2 <| oC3 (cW_X0_get) <| oAld 0 <| oGet (fgW) 1 0 <| oAddW <| oAld 0 <| oGet (fgW) 1 1 <| oAddW <| oIld 2 <| oCGe 27 <| oI 1 <| oTo 28) else oNo) else (bif Nat.blt pc 28 then (bif Nat.beq pc 27 then (oI 0 <| oTo 28) else oNo) else (bif Nat.beq pc 28 then (oZret) else oNo))
theorem tX1_isOver_ok : ∀ pc, bOk (encW) (bdW) mX1_isOver 0 0 pc (tX1_isOver pc) := fun pc => (tNode (tLeaf (okAldn iX1_isOver_0 rfl <| okGet (vFgW) iX1_isOver_1 <| okIldn iX1_isOver_4 rfl <| okIc iX1_isOver_5 <| okC3 (qW_X0_get iX1_isOver_6) <| okAldn iX1_isOver_9 rfl <| okGet (vFgW) iX1_isOver_10 <| okAddW iX1_isOver_13 <| okAldn iX1_isOver_14 rfl <| okGet (vFgW) iX1_isOver_15 <| okAddW iX1_isOver_18 <| okIldn iX1_isOver_19 rfl <| okCGe (tl rfl) iX1_isOver_20 <| okIc iX1_isOver_23 <| okGoto (tl rfl) iX1_isOver_24)) (tNode (tLeaf (okIc iX1_isOver_27 <| okTo (tl rfl))) (tLeaf (okZret iX1_isOver_28 rfl)))) pc
def wFate (w : WS) (t : Int) : Int := if t < wI (w.1 3 - w.1 1) then 2 else if t < w.1 3 then 1 else 0
theorem wFate_b (w : WS) (t : Int) : 0 ≤ wFate w t ∧ wFate w t ≤ 2 := by
  unfold wFate
  split
  · omega
  · split <;> omega
def sX1_fateOf : Int → WS → KW → Prop := fun t s K => xB t ∧ (0 ≤ wFate s t → wFate s t ≤ 2 → K [pI (wFate s t)] s)
theorem mX1_fateOf_ok : mOk encW bdW mX1_fateOf (atR 0 (a1 sX1_fateOf)) := by
  refine mOVa1 kX1_fateOf (fun _ => rfl) (fun t s K h hb => wx_go [] 9 tX1_fateOf_ok rfl ?_)
  obtain ⟨h1, h2⟩ := h
  have hK := h2 (wFate_b s t).1 (wFate_b s t).2
  unfold wFate at hK
  by_cases c1 : t < wI (s.1 3 - s.1 1)
  · rw [if_pos c1] at hK
    repeat' (first | (refine And.intro ?_ ?_) | intro _)
    all_goals first | omega | exact hK
  · by_cases c2 : t < s.1 3
    · rw [if_neg c1, if_pos c2] at hK
      repeat' (first | (refine And.intro ?_ ?_) | intro _)
      all_goals first | omega | exact hK
    · rw [if_neg c1, if_neg c2] at hK
      repeat' (first | (refine And.intro ?_ ?_) | intro _)
      all_goals first | omega | exact hK
abbrev wTakenOf (w : WS) (i k : Int) : Prop := wG w 4 i 3 = k ∧ (wG w 4 i 5 = 0 ∨ wG w 4 i 5 = 1)
def sX1_isTakenOf : Int → Int → WS → KW → Prop := fun i k s K => (xB i ∧ xB k) ∧ (wTakenOf s i k → K [pI 1] s) ∧ (¬ wTakenOf s i k → K [pI 0] s)
theorem mX1_isTakenOf_ok : mOk encW bdW mX1_isTakenOf (atR 0 (a2 sX1_isTakenOf)) := by
  refine mOVa2 kX1_isTakenOf (fun _ _ => rfl) (fun i k s K h hb => wx_go [] 9 tX1_isTakenOf_ok rfl ?_)
  obtain ⟨h1, h2, h3⟩ := h
  repeat' (first | (refine And.intro ?_ ?_) | intro _)
  all_goals first | omega | exact h2 (by omega) | exact h3 (by omega)
abbrev wHas (w : WS) (i : Int) : Prop := wG w 1 i 6 ≠ -1
def sX1_hasResult : Int → WS → KW → Prop := fun i s K => xB i ∧ (wHas s i → K [pI 1] s) ∧ (¬ wHas s i → K [pI 0] s)
theorem mX1_hasResult_ok : mOk encW bdW mX1_hasResult (atR 0 (a1 sX1_hasResult)) := by
  refine mOVa1 kX1_hasResult (fun _ => rfl) (fun i s K h hb => wx_go [] 9 tX1_hasResult_ok rfl ?_)
  obtain ⟨h1, h2, h3⟩ := h
  repeat' (first | (refine And.intro ?_ ?_) | intro _)
  all_goals first | omega | exact h2 (by omega) | exact h3 (by omega)
abbrev wRipe (w : WS) (i p : Int) : Prop := wI (wG w 1 i 2 + w.1 0) < p
def sX1_isRipe : Int → Int → WS → KW → Prop := fun i p s K => (xB i ∧ xB p) ∧ (wRipe s i p → K [pI 1] s) ∧ (¬ wRipe s i p → K [pI 0] s)
theorem mX1_isRipe_ok : mOk encW bdW mX1_isRipe (atR 0 (a2 sX1_isRipe)) := by
  refine mOVa2 kX1_isRipe (fun _ _ => rfl) (fun i p s K h hb => wx_go [] 9 tX1_isRipe_ok rfl ?_)
  obtain ⟨h1, h2, h3⟩ := h
  repeat' (first | (refine And.intro ?_ ?_) | intro _)
  all_goals first | omega | exact h2 (by omega) | exact h3 (by omega)
abbrev wOver (w : WS) (i p : Int) : Prop := wI (wI (wG w 1 i 2 + w.1 0) + w.1 1) < p
def sX1_isOver : Int → Int → WS → KW → Prop := fun i p s K => (xB i ∧ xB p) ∧ (wOver s i p → K [pI 1] s) ∧ (¬ wOver s i p → K [pI 0] s)
theorem mX1_isOver_ok : mOk encW bdW mX1_isOver (atR 0 (a2 sX1_isOver)) := by
  refine mOVa2 kX1_isOver (fun _ _ => rfl) (fun i p s K h hb => wx_go [] 9 tX1_isOver_ok rfl ?_)
  obtain ⟨h1, h2, h3⟩ := h
  repeat' (first | (refine And.intro ?_ ?_) | intro _)
  all_goals first | omega | exact h2 (by omega) | exact h3 (by omega)
def cW_X1_fateOf : Sp WS := atR 0 (a1 sX1_fateOf)
theorem qW_X1_fateOf {M : XI} {rc rs pc pc2 : Nat} (d : xl_Ca M pc mX1_fateOf pc2) : cOk encW bdW M rc rs pc pc2 2 cW_X1_fateOf := cSame mX1_fateOf_ok vX1_fateOf d wcl rfl lenW recW
def cW_X1_hasResult : Sp WS := atR 0 (a1 sX1_hasResult)
theorem qW_X1_hasResult {M : XI} {rc rs pc pc2 : Nat} (d : xl_Ca M pc mX1_hasResult pc2) : cOk encW bdW M rc rs pc pc2 2 cW_X1_hasResult := cSame mX1_hasResult_ok vX1_hasResult d wcl rfl lenW recW
def cW_X1_isRipe : Sp WS := atR 0 (a2 sX1_isRipe)
theorem qW_X1_isRipe {M : XI} {rc rs pc pc2 : Nat} (d : xl_Ca M pc mX1_isRipe pc2) : cOk encW bdW M rc rs pc pc2 3 cW_X1_isRipe := cSame mX1_isRipe_ok vX1_isRipe d wcl rfl lenW recW
def cW_X1_isOver : Sp WS := atR 0 (a2 sX1_isOver)
theorem qW_X1_isOver {M : XI} {rc rs pc pc2 : Nat} (d : xl_Ca M pc mX1_isOver pc2) : cOk encW bdW M rc rs pc pc2 3 cW_X1_isOver := cSame mX1_isOver_ok vX1_isOver d wcl rfl lenW recW
-- X1_touches: heads []
def tX1_touches : Nat → Blk WS := fun pc => bif Nat.blt pc 53 then (bif Nat.beq pc 0 then (oAld 0 <| oGet (fgW) 1 11 <| oIld 1 <| oI 0 <| oC3 (cW_X0_get) <| oIld 2 <| oCNe 53 <| oAld 0 <| oGet (fgW) 1 11 <| oIld 1 <| oI 1 <| oC3 (cW_X0_get) <| oAld 0 <| oGet (fgW) 1 0 <| oSubW <| oIld 3 <| oCGt 53 <| oAld 0 <| oGet (fgW) 1 11 <| oIld 1 <| oI 2 <| oC3 (cW_X0_get) <| oAld 0 <| oGet (fgW) 1 0 <| oAddW <| oIld 3 <| oCLt 53 <| oI 1 <| oTo 54) else oNo) else (bif Nat.blt pc 54 then (bif Nat.beq pc 53 then (oI 0 <| oTo 54) else oNo) else (bif Nat.beq pc 54 then (oZret) else oNo))
theorem tX1_touches_ok : ∀ pc, bOk (encW) (bdW) mX1_touches 0 0 pc (tX1_touches pc) := fun pc => (tNode (tLeaf (okAldn iX1_touches_0 rfl <| okGet (vFgW) iX1_touches_1 <| okIldn iX1_touches_4 rfl <| okIc iX1_touches_5 <| okC3 (qW_X0_get iX1_touches_6) <| okIldn iX1_touches_9 rfl <| okCNe (tl rfl) iX1_touches_10 <| okAldn iX1_touches_13 rfl <| okGet (vFgW) iX1_touches_14 <| okIldn iX1_touches_17 rfl <| okIc iX1_touches_18 <| okC3 (qW_X0_get iX1_touches_19) <| okAldn iX1_touches_22 rfl <| okGet (vFgW) iX1_touches_23 <| okSubW iX1_touches_26 <| okIldn iX1_touches_27 rfl <| okCGt (tl rfl) iX1_touches_28 <| okAldn iX1_touches_31 rfl <| okGet (vFgW) iX1_touches_32 <| okIldn iX1_touches_35 rfl <| okIc iX1_touches_36 <| okC3 (qW_X0_get iX1_touches_37) <| okAldn iX1_touches_40 rfl <| okGet (vFgW) iX1_touches_41 <| okAddW iX1_touches_44 <| okIldn iX1_touches_45 rfl <| okCLt (tl rfl) iX1_touches_46 <| okIc iX1_touches_49 <| okGoto (tl rfl) iX1_touches_50)) (tNode (tLeaf (okIc iX1_touches_53 <| okTo (tl rfl))) (tLeaf (okZret iX1_touches_54 rfl)))) pc
-- X1_turnOf: heads []
def tX1_turnOf : Nat → Blk WS := fun pc => bif Nat.beq pc 0 then (oAld 0 <| oGet (fgW) 1 11 <| oIld 1 <| oI 2 <| oC3 (cW_X0_get) <| oI 6 <| oMulW <| oAld 0 <| oGet (fgW) 1 11 <| oIld 1 <| oI 0 <| oC3 (cW_X0_get) <| oAddW <| oIret) else oNo
theorem tX1_turnOf_ok : ∀ pc, bOk (encW) (bdW) mX1_turnOf 0 0 pc (tX1_turnOf pc) := fun pc => (tLeaf (okAldn iX1_turnOf_0 rfl <| okGet (vFgW) iX1_turnOf_1 <| okIldn iX1_turnOf_4 rfl <| okIc iX1_turnOf_5 <| okC3 (qW_X0_get iX1_turnOf_6) <| okBi iX1_turnOf_9 (by decide) <| okMulW iX1_turnOf_11 <| okAldn iX1_turnOf_12 rfl <| okGet (vFgW) iX1_turnOf_13 <| okIldn iX1_turnOf_16 rfl <| okIc iX1_turnOf_17 <| okC3 (qW_X0_get iX1_turnOf_18) <| okAddW iX1_turnOf_21 <| okIret iX1_turnOf_22 rfl)) pc
-- X1_ripening: heads [4]
def tX1_ripening : Nat → Blk WS := fun pc => bif Nat.blt pc 39 then (bif Nat.blt pc 4 then (bif Nat.beq pc 0 then (oI 0 <| oIst 2 <| oI 0 <| oIst 3 <| oM [true, true, true, true] (oTo 4)) else oNo) else (bif Nat.beq pc 4 then (oIld 3 <| oAld 0 <| oGet (fgW) 1 11 <| oGet (fgW) 0 3 <| oCGe 45 <| oAld 0 <| oIld 3 <| oAld 0 <| oGet (fgW) 1 3 <| oC3 (cW_X1_isRipe) <| oZNe 39 <| oAld 0 <| oIld 3 <| oIld 1 <| oC3 (cW_X1_isRipe) <| oZEq 39 <| oInc 2 1 <| oTo 39) else oNo)) else (bif Nat.blt pc 45 then (bif Nat.beq pc 39 then (oInc 3 1 <| oM [true, true, true, true] (oTo 4)) else oNo) else (bif Nat.beq pc 45 then (oIld 2 <| oIret) else oNo))
theorem tX1_ripening_ok : ∀ pc, bOk (encW) (bdW) mX1_ripening 0 0 pc (tX1_ripening pc) := fun pc => (tNode (tNode (tLeaf (okIc iX1_ripening_0 <| okIstn iX1_ripening_1 rfl (by decide) <| okIc iX1_ripening_2 <| okIstn iX1_ripening_3 rfl (by decide) <| okM (okTo (tl rfl)))) (tLeaf (okIldn iX1_ripening_4 rfl <| okAldn iX1_ripening_5 rfl <| okGet (vFgW) iX1_ripening_6 <| okGet (vFgW) iX1_ripening_9 <| okCGe (tl rfl) iX1_ripening_12 <| okAldn iX1_ripening_15 rfl <| okIldn iX1_ripening_16 rfl <| okAldn iX1_ripening_17 rfl <| okGet (vFgW) iX1_ripening_18 <| okC3 (qW_X1_isRipe iX1_ripening_21) <| okZNe (tl rfl) iX1_ripening_24 <| okAldn iX1_ripening_27 rfl <| okIldn iX1_ripening_28 rfl <| okIldn iX1_ripening_29 rfl <| okC3 (qW_X1_isRipe iX1_ripening_30) <| okZEq (tl rfl) iX1_ripening_33 <| okInc iX1_ripening_36 (by decide) <| okTo (tl rfl)))) (tNode (tLeaf (okInc iX1_ripening_39 (by decide) <| okGotoM (tl rfl) iX1_ripening_42)) (tLeaf (okIldn iX1_ripening_45 rfl <| okIret iX1_ripening_46 rfl)))) pc
abbrev wTouch (w : WS) (i k t : Int) : Prop := wG w 1 i 0 = k ∧ wI (wG w 1 i 1 - w.1 0) ≤ t ∧ t ≤ wI (wG w 1 i 2 + w.1 0)
def sX1_touches : Int → Int → Int → WS → KW → Prop := fun i k t s K => (xB i ∧ xB k ∧ xB t) ∧ (wTouch s i k t → K [pI 1] s) ∧ (¬ wTouch s i k t → K [pI 0] s)
theorem mX1_touches_ok : mOk encW bdW mX1_touches (atR 0 (a3 sX1_touches)) := by
  refine mOVa3 kX1_touches (fun _ _ _ => rfl) (fun i k t s K h hb => wx_go [] 9 tX1_touches_ok rfl ?_)
  obtain ⟨h1, h2, h3⟩ := h
  repeat' (first | (refine And.intro ?_ ?_) | intro _)
  all_goals first | omega | exact h2 (by omega) | exact h3 (by omega)
def cW_X1_touches : Sp WS := atR 0 (a3 sX1_touches)
theorem qW_X1_touches {M : XI} {rc rs pc pc2 : Nat} (d : xl_Ca M pc mX1_touches pc2) : cOk encW bdW M rc rs pc pc2 4 cW_X1_touches := cSame mX1_touches_ok vX1_touches d wcl rfl lenW recW
def wTurn (w : WS) (i : Int) : Int := wI (wI (wG w 1 i 2 * 6) + wG w 1 i 0)
def sX1_turnOf : Int → WS → KW → Prop := fun i s K => xB i ∧ (xB (wTurn s i) → K [pI (wTurn s i)] s)
theorem mX1_turnOf_ok : mOk encW bdW mX1_turnOf (atR 0 (a1 sX1_turnOf)) := by
  refine mOVa1 kX1_turnOf (fun _ => rfl) (fun i s K h hb => wx_go [] 9 tX1_turnOf_ok rfl ?_)
  obtain ⟨h1, h2⟩ := h
  have hK := h2 (wI_B _)
  repeat' (first | (refine And.intro ?_ ?_) | intro _)
  all_goals first | omega | exact hK
def cW_X1_turnOf : Sp WS := atR 0 (a1 sX1_turnOf)
theorem qW_X1_turnOf {M : XI} {rc rs pc pc2 : Nat} (d : xl_Ca M pc mX1_turnOf pc2) : cOk encW bdW M rc rs pc pc2 2 cW_X1_turnOf := cSame mX1_turnOf_ok vX1_turnOf d wcl rfl lenW recW
