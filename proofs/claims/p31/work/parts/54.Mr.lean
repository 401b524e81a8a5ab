/-! ===== the model: what is ripe, what is closed, what goes out and comes in ===== -/
-- X3_takesBack: heads []
def tX3_takesBack : Nat → Blk MS := fun pc => bif Nat.blt pc 18 then (bif Nat.beq pc 0 then (oAld 0 <| oIld 1 <| oIld 2 <| oI 6 <| oC4 (cM_X3_ofSession) <| oZLe 18 <| oAld 0 <| oIld 1 <| oI 3 <| oIld 2 <| oC4 (cM_X3_sends) <| oTo 18) else oNo) else (bif Nat.beq pc 18 then (oVret) else oNo)
theorem tX3_takesBack_ok : ∀ pc, bOk (encM) (bdM) mX3_takesBack 0 0 pc (tX3_takesBack pc) := fun pc => (tNode (tLeaf (okAldn iX3_takesBack_0 rfl <| okIldn iX3_takesBack_1 rfl <| okIldn iX3_takesBack_2 rfl <| okBi iX3_takesBack_3 (by decide) <| okC4 (qM_X3_ofSession iX3_takesBack_5) <| okZLe (tl rfl) iX3_takesBack_8 <| okAldn iX3_takesBack_11 rfl <| okIldn iX3_takesBack_12 rfl <| okIc iX3_takesBack_13 <| okIldn iX3_takesBack_14 rfl <| okC4 (qM_X3_sends iX3_takesBack_15) <| okTo (tl rfl))) (tLeaf (okVret iX3_takesBack_18 rfl))) pc
-- X3_firstRipe: heads [5]
def tX3_firstRipe : Nat → Blk MS := fun pc => bif Nat.blt pc 58 then (bif Nat.blt pc 5 then (bif Nat.beq pc 0 then (oI (-1) <| oIst 3 <| oI 0 <| oIst 4 <| oM [true, true, true, true, true, false] (oTo 5)) else oNo) else (bif Nat.blt pc 57 then (bif Nat.beq pc 5 then (oIld 4 <| oAld 0 <| oIld 1 <| oI 5 <| oC3 (cM_X3_of) <| oCGe 96 <| oAld 0 <| oIld 1 <| oIld 4 <| oAld 0 <| oIld 1 <| oI 4 <| oC3 (cM_X3_of) <| oC4 (cM_X3_isRipeBy) <| oZEq 57 <| oAld 0 <| oIld 1 <| oIld 4 <| oIld 2 <| oC4 (cM_X3_isRipeBy) <| oZNe 57 <| oAld 0 <| oIld 1 <| oIld 4 <| oC3 (cM_X3_isDone) <| oZNe 57 <| oI 1 <| oTo 58) else oNo) else (bif Nat.beq pc 57 then (oI 0 <| oTo 58) else oNo))) else (bif Nat.blt pc 90 then (bif Nat.blt pc 87 then (bif Nat.beq pc 58 then (oIst 5 <| oIld 5 <| oZEq 90 <| oIld 3 <| oZLt 87 <| oAld 0 <| oIld 1 <| oIld 4 <| oI 2 <| oC4 (cM_X3_ofSession) <| oAld 0 <| oIld 1 <| oIld 3 <| oI 2 <| oC4 (cM_X3_ofSession) <| oCGe 90 <| oTo 87) else oNo) else (bif Nat.beq pc 87 then (oIld 4 <| oIst 3 <| oTo 90) else oNo)) else (bif Nat.blt pc 96 then (bif Nat.beq pc 90 then (oInc 4 1 <| oM [true, true, true, true, true, false] (oTo 5)) else oNo) else (bif Nat.beq pc 96 then (oIld 3 <| oIret) else oNo)))
theorem tX3_firstRipe_ok : ∀ pc, bOk (encM) (bdM) mX3_firstRipe 0 0 pc (tX3_firstRipe pc) := fun pc => (tNode (tNode (tLeaf (okIc iX3_firstRipe_0 <| okIstn iX3_firstRipe_1 rfl (by decide) <| okIc iX3_firstRipe_2 <| okIst iX3_firstRipe_3 (by decide) <| okM (okTo (tl rfl)))) (tNode (tLeaf (okIld iX3_firstRipe_5 <| okAldn iX3_firstRipe_7 rfl <| okIldn iX3_firstRipe_8 rfl <| okIc iX3_firstRipe_9 <| okC3 (qM_X3_of iX3_firstRipe_10) <| okCGe (tl rfl) iX3_firstRipe_13 <| okAldn iX3_firstRipe_16 rfl <| okIldn iX3_firstRipe_17 rfl <| okIld iX3_firstRipe_18 <| okAldn iX3_firstRipe_20 rfl <| okIldn iX3_firstRipe_21 rfl <| okIc iX3_firstRipe_22 <| okC3 (qM_X3_of iX3_firstRipe_23) <| okC4 (qM_X3_isRipeBy iX3_firstRipe_26) <| okZEq (tl rfl) iX3_firstRipe_29 <| okAldn iX3_firstRipe_32 rfl <| okIldn iX3_firstRipe_33 rfl <| okIld iX3_firstRipe_34 <| okIldn iX3_firstRipe_36 rfl <| okC4 (qM_X3_isRipeBy iX3_firstRipe_37) <| okZNe (tl rfl) iX3_firstRipe_40 <| okAldn iX3_firstRipe_43 rfl <| okIldn iX3_firstRipe_44 rfl <| okIld iX3_firstRipe_45 <| okC3 (qM_X3_isDone iX3_firstRipe_47) <| okZNe (tl rfl) iX3_firstRipe_50 <| okIc iX3_firstRipe_53 <| okGoto (tl rfl) iX3_firstRipe_54)) (tLeaf (okIc iX3_firstRipe_57 <| okTo (tl rfl))))) (tNode (tNode (tLeaf (okIst iX3_firstRipe_58 (by decide) <| okIld iX3_firstRipe_60 <| okZEq (tl rfl) iX3_firstRipe_62 <| okIldn iX3_firstRipe_65 rfl <| okZLt (tl rfl) iX3_firstRipe_66 <| okAldn iX3_firstRipe_69 rfl <| okIldn iX3_firstRipe_70 rfl <| okIld iX3_firstRipe_71 <| okIc iX3_firstRipe_73 <| okC4 (qM_X3_ofSession iX3_firstRipe_74) <| okAldn iX3_firstRipe_77 rfl <| okIldn iX3_firstRipe_78 rfl <| okIldn iX3_firstRipe_79 rfl <| okIc iX3_firstRipe_80 <| okC4 (qM_X3_ofSession iX3_firstRipe_81) <| okCGe (tl rfl) iX3_firstRipe_84 <| okTo (tl rfl))) (tLeaf (okIld iX3_firstRipe_87 <| okIstn iX3_firstRipe_89 rfl (by decide) <| okTo (tl rfl)))) (tNode (tLeaf (okInc iX3_firstRipe_90 (by decide) <| okGotoM (tl rfl) iX3_firstRipe_93)) (tLeaf (okIldn iX3_firstRipe_96 rfl <| okIret iX3_firstRipe_97 rfl))))) pc
-- X3_firstClosed: heads [4]
def tX3_firstClosed : Nat → Blk MS := fun pc => bif Nat.blt pc 50 then (bif Nat.blt pc 4 then (bif Nat.beq pc 0 then (oI (-1) <| oIst 2 <| oI 0 <| oIst 3 <| oM [true, true, true, true] (oTo 4)) else oNo) else (bif Nat.beq pc 4 then (oIld 3 <| oAld 0 <| oIld 1 <| oI 5 <| oC3 (cM_X3_of) <| oCGe 58 <| oAld 0 <| oIld 1 <| oIld 3 <| oAld 0 <| oIld 1 <| oI 4 <| oC3 (cM_X3_of) <| oC4 (cM_X3_isClosedBy) <| oZEq 52 <| oIld 2 <| oZLt 50 <| oAld 0 <| oIld 1 <| oIld 3 <| oI 2 <| oC4 (cM_X3_ofSession) <| oAld 0 <| oIld 1 <| oIld 2 <| oI 2 <| oC4 (cM_X3_ofSession) <| oCGe 52 <| oTo 50) else oNo)) else (bif Nat.blt pc 52 then (bif Nat.beq pc 50 then (oIld 3 <| oIst 2 <| oTo 52) else oNo) else (bif Nat.blt pc 58 then (bif Nat.beq pc 52 then (oInc 3 1 <| oM [true, true, true, true] (oTo 4)) else oNo) else (bif Nat.beq pc 58 then (oIld 2 <| oIret) else oNo)))
theorem tX3_firstClosed_ok : ∀ pc, bOk (encM) (bdM) mX3_firstClosed 0 0 pc (tX3_firstClosed pc) := fun pc => (tNode (tNode (tLeaf (okIc iX3_firstClosed_0 <| okIstn iX3_firstClosed_1 rfl (by decide) <| okIc iX3_firstClosed_2 <| okIstn iX3_firstClosed_3 rfl (by decide) <| okM (okTo (tl rfl)))) (tLeaf (okIldn iX3_firstClosed_4 rfl <| okAldn iX3_firstClosed_5 rfl <| okIldn iX3_firstClosed_6 rfl <| okIc iX3_firstClosed_7 <| okC3 (qM_X3_of iX3_firstClosed_8) <| okCGe (tl rfl) iX3_firstClosed_11 <| okAldn iX3_firstClosed_14 rfl <| okIldn iX3_firstClosed_15 rfl <| okIldn iX3_firstClosed_16 rfl <| okAldn iX3_firstClosed_17 rfl <| okIldn iX3_firstClosed_18 rfl <| okIc iX3_firstClosed_19 <| okC3 (qM_X3_of iX3_firstClosed_20) <| okC4 (qM_X3_isClosedBy iX3_firstClosed_23) <| okZEq (tl rfl) iX3_firstClosed_26 <| okIldn iX3_firstClosed_29 rfl <| okZLt (tl rfl) iX3_firstClosed_30 <| okAldn iX3_firstClosed_33 rfl <| okIldn iX3_firstClosed_34 rfl <| okIldn iX3_firstClosed_35 rfl <| okIc iX3_firstClosed_36 <| okC4 (qM_X3_ofSession iX3_firstClosed_37) <| okAldn iX3_firstClosed_40 rfl <| okIldn iX3_firstClosed_41 rfl <| okIldn iX3_firstClosed_42 rfl <| okIc iX3_firstClosed_43 <| okC4 (qM_X3_ofSession iX3_firstClosed_44) <| okCGe (tl rfl) iX3_firstClosed_47 <| okTo (tl rfl)))) (tNode (tLeaf (okIldn iX3_firstClosed_50 rfl <| okIstn iX3_firstClosed_51 rfl (by decide) <| okTo (tl rfl))) (tNode (tLeaf (okInc iX3_firstClosed_52 (by decide) <| okGotoM (tl rfl) iX3_firstClosed_55)) (tLeaf (okIldn iX3_firstClosed_58 rfl <| okIret iX3_firstClosed_59 rfl))))) pc
-- X3_closedMany: heads [4]
def tX3_closedMany : Nat → Blk MS := fun pc => bif Nat.blt pc 4 then (bif Nat.beq pc 0 then (oI 0 <| oIst 2 <| oI 0 <| oIst 3 <| oM [true, true, true, true] (oTo 4)) else oNo) else (bif Nat.blt pc 28 then (bif Nat.beq pc 4 then (oIld 3 <| oI 6 <| oCGe 28 <| oIld 2 <| oAld 0 <| oIld 1 <| oI 36 <| oIld 3 <| oAdd <| oC3 (cM_X3_of) <| oAddW <| oIst 2 <| oInc 3 1 <| oM [true, true, true, true] (oTo 4)) else oNo) else (bif Nat.beq pc 28 then (oIld 2 <| oIret) else oNo))
theorem tX3_closedMany_ok : ∀ pc, bOk (encM) (bdM) mX3_closedMany 0 0 pc (tX3_closedMany pc) := fun pc => (tNode (tLeaf (okIc iX3_closedMany_0 <| okIstn iX3_closedMany_1 rfl (by decide) <| okIc iX3_closedMany_2 <| okIstn iX3_closedMany_3 rfl (by decide) <| okM (okTo (tl rfl)))) (tNode (tLeaf (okIldn iX3_closedMany_4 rfl <| okBi iX3_closedMany_5 (by decide) <| okCGe (tl rfl) iX3_closedMany_7 <| okIldn iX3_closedMany_10 rfl <| okAldn iX3_closedMany_11 rfl <| okIldn iX3_closedMany_12 rfl <| okBi iX3_closedMany_13 (by decide) <| okIldn iX3_closedMany_15 rfl <| okAdd iX3_closedMany_16 <| okC3 (qM_X3_of iX3_closedMany_17) <| okAddW iX3_closedMany_20 <| okIstn iX3_closedMany_21 rfl (by decide) <| okInc iX3_closedMany_22 (by decide) <| okGotoM (tl rfl) iX3_closedMany_25)) (tLeaf (okIldn iX3_closedMany_28 rfl <| okIret iX3_closedMany_29 rfl)))) pc
-- X3_goesOut: heads [13]
def tX3_goesOut : Nat → Blk MS := fun pc => bif Nat.blt pc 13 then (bif Nat.beq pc 0 then (oAld 0 <| oIld 1 <| oI 5 <| oI (-1) <| oC4 (cM_X3_adds) <| oIld 1 <| oIld 2 <| oC2 (cM_X3_place) <| oIst 3 <| oM [true, true, false, true] (oTo 13)) else oNo) else (bif Nat.blt pc 48 then (bif Nat.beq pc 13 then (oIld 3 <| oIld 1 <| oAld 0 <| oIld 1 <| oI 5 <| oC3 (cM_X3_of) <| oC2 (cM_X3_place) <| oCGe 48 <| oAld 0 <| oGet (fgM) 3 7 <| oIld 3 <| oAld 0 <| oGet (fgM) 3 7 <| oIld 3 <| oI 7 <| oAdd <| oIa (agM) <| oIas (agM) (apM) <| oInc 3 1 <| oM [true, true, false, true] (oTo 13)) else oNo) else (bif Nat.beq pc 48 then (oVret) else oNo))
theorem tX3_goesOut_ok : ∀ pc, bOk (encM) (bdM) mX3_goesOut 0 0 pc (tX3_goesOut pc) := fun pc => (tNode (tLeaf (okAldn iX3_goesOut_0 rfl <| okIldn iX3_goesOut_1 rfl <| okIc iX3_goesOut_2 <| okIc iX3_goesOut_3 <| okC4 (qM_X3_adds iX3_goesOut_4) <| okIldn iX3_goesOut_7 rfl <| okIldn iX3_goesOut_8 rfl <| okC2 (qM_X3_place iX3_goesOut_9) <| okIstn iX3_goesOut_12 rfl (by decide) <| okM (okTo (tl rfl)))) (tNode (tLeaf (okIldn iX3_goesOut_13 rfl <| okIldn iX3_goesOut_14 rfl <| okAldn iX3_goesOut_15 rfl <| okIldn iX3_goesOut_16 rfl <| okIc iX3_goesOut_17 <| okC3 (qM_X3_of iX3_goesOut_18) <| okC2 (qM_X3_place iX3_goesOut_21) <| okCGe (tl rfl) iX3_goesOut_24 <| okAldn iX3_goesOut_27 rfl <| okGet (vFgM) iX3_goesOut_28 <| okIldn iX3_goesOut_31 rfl <| okAldn iX3_goesOut_32 rfl <| okGet (vFgM) iX3_goesOut_33 <| okIldn iX3_goesOut_36 rfl <| okBi iX3_goesOut_37 (by decide) <| okAdd iX3_goesOut_39 <| okIa (vAgM) iX3_goesOut_40 <| okIas (vAgM) iX3_goesOut_41 <| okInc iX3_goesOut_42 (by decide) <| okGotoM (tl rfl) iX3_goesOut_45)) (tLeaf (okVret iX3_goesOut_48 rfl)))) pc
def mTake (s : MS) (d i : Int) : MS := if 0 < mg s ((d * 2804 + 364 + 7 * i) + 6) then mSend s d 3 i else s
abbrev mTakeP (s : MS) (d i : Int) : Prop := 0 < mg s ((d * 2804 + 364 + 7 * i) + 6) → mI (d * 2804 + (60 + 4 * mg (mSend4 s d 3 i) ((d * 2804 + 364 + 7 * i) + 0) + 3))
def sX3_takesBack : Int → Int → MS → KM → Prop := fun d i s K => (dOk d ∧ (0 ≤ i ∧ i ≤ 160) ∧ mTakeP s d i) ∧ K [] (mTake s d i)
theorem mX3_takesBack_ok : mOk encM bdM mX3_takesBack (atR 0 (a2 sX3_takesBack)) := by
  refine mOVa2 kX3_takesBack (fun _ _ => rfl) (fun d i s K h hb => wx_J [] 9 tX3_takesBack_ok rfl (fun J hR hJ => ?_))
  obtain ⟨⟨h1, h2, h3⟩, hK⟩ := h
  unfold mTake at hK
  by_cases c : 0 < mg s ((d * 2804 + 364 + 7 * i) + 6)
  · rw [if_pos c] at hK
    have h4 := h3 c
    repeat' (first | (refine And.intro ?_ ?_) | (intro hq; first | (exact absurd hq (by omega)) | skip))
    all_goals first | omega | exact h4.1 | exact h4.2 | exact hR _ _ hK
  · rw [if_neg c] at hK
    repeat' (first | (refine And.intro ?_ ?_) | (intro hq; first | (exact absurd hq (by omega)) | skip))
    all_goals first | omega | exact hR _ _ hK
def cM_X3_takesBack : Sp MS := atR 0 (a2 sX3_takesBack)
theorem qM_X3_takesBack {M : XI} {rc rs pc pc2 : Nat} (d : xl_Ca M pc mX3_takesBack pc2) : cOk encM bdM M rc rs pc pc2 3 cM_X3_takesBack := cSame mX3_takesBack_ok vX3_takesBack d mcl rfl lenM recM
abbrev mFr (s : MS) (d wa i : Int) : Prop := mRipe s d i (mg s (d * 2804 + 4)) ∧ ¬ mRipe s d i wa ∧ ¬ mDone s d i
def frL (s : MS) (d wa : Int) : Nat → Int → Int → Int
  | 0, _, b => b
  | n + 1, i, b => frL s d wa n (i + 1) (if mFr s d wa i ∧ (b < 0 ∨ mg s ((d * 2804 + 364 + 7 * i) + 2) < mg s ((d * 2804 + 364 + 7 * b) + 2)) then i else b)
def mFirstR (s : MS) (d wa : Int) : Int := frL s d wa (mg s (d * 2804 + 5)).toNat 0 (-1)
theorem frL_b (s : MS) (d wa : Int) : ∀ (n : Nat) (i b : Int), 0 ≤ i → -1 ≤ b → b < i → -1 ≤ frL s d wa n i b ∧ frL s d wa n i b < i + n
  | 0, i, b, h0, h1, h2 => by unfold frL; omega
  | n + 1, i, b, h0, h1, h2 => by
    unfold frL
    split
    · have := frL_b s d wa n (i + 1) i (by omega) (by omega) (by omega)
      omega
    · have := frL_b s d wa n (i + 1) b (by omega) (by omega) (by omega)
      omega
theorem X3_firstRipe_l {K : KM} {Pt : MS → Prop} (s : MS) (d wa : Int) (hd : dOk d) (hw : xB wa) (hn : mg s (d * 2804 + 5) ≤ 161) (hb : bdM s) : ∀ (m : Nat) (i b : Int), 0 ≤ i → i ≤ max 0 (mg s (d * 2804 + 5)) → -1 ≤ b → b < i → m = (mg s (d * 2804 + 5) - i).toNat → K [pI (frL s d wa m i b)] s → wX encM bdM mX3_firstRipe 0 0 K Pt 5 [some (pR 0), some (pI d), some (pI wa), some (pI b), some (pI i), none] [] s := by
  intro m
  induction m with
  | zero =>
    intro i b h0 h1 h2 h3 hm hK
    refine wx_J [5] 9 tX3_firstRipe_ok rfl (fun J hR hJ => ?_)
    repeat' (first | (refine And.intro ?_ ?_) | (intro hq; first | (exact absurd hq (by omega)) | skip))
    all_goals first | omega | exact hR _ _ hK
  | succ m ih =>
    intro i b h0 h1 h2 h3 hm hK
    refine wx_J [5] 9 tX3_firstRipe_ok rfl (fun J hR hJ => ?_)
    rw [frL] at hK
    have e1 : (mFr s d wa i ∧ (b < 0 ∨ mg s ((d * 2804 + 364 + 7 * i) + 2) < mg s ((d * 2804 + 364 + 7 * b) + 2))) → wX encM bdM mX3_firstRipe 0 0 K Pt 5 [some (pR 0), some (pI d), some (pI wa), some (pI i), some (pI (i + 1)), none] [] s := fun c => by
      rw [if_pos c] at hK
      exact ih (i + 1) i (by omega) (by omega) (by omega) (by omega) (by omega) hK
    have e2 : ¬ (mFr s d wa i ∧ (b < 0 ∨ mg s ((d * 2804 + 364 + 7 * i) + 2) < mg s ((d * 2804 + 364 + 7 * b) + 2))) → wX encM bdM mX3_firstRipe 0 0 K Pt 5 [some (pR 0), some (pI d), some (pI wa), some (pI b), some (pI (i + 1)), none] [] s := fun c => by
      rw [if_neg c] at hK
      exact ih (i + 1) b (by omega) (by omega) (by omega) (by omega) (by omega) hK
    have hp := mg_B (a := d * 2804 + 4) hb
    refine ⟨⟨by omega, by omega⟩, fun hn2 => ⟨⟨⟨by omega, by omega⟩, hn2⟩, fun c => absurd c (by omega), fun _ => ⟨⟨by omega, by omega⟩, fun hp2 => ⟨⟨hd, ⟨by omega, by omega⟩, hp2⟩, fun r1 => ?_, fun r1 => ?_⟩⟩⟩⟩
    · refine ⟨⟨by omega, by omega⟩, fun q => absurd q (by omega), fun _ => ⟨⟨hd, ⟨by omega, by omega⟩, hw⟩, fun r2 => ?_, fun r2 => ?_⟩⟩
      · have g := e2 (fun z => z.1.2.1 r2)
        repeat' (first | (refine And.intro ?_ ?_) | (intro hq; first | (exact absurd hq (by omega)) | skip))
        all_goals first | omega | exact hJ _ _ _ _ g
      · refine ⟨⟨by omega, by omega⟩, fun q => absurd rfl q, fun _ => ⟨⟨hd, ⟨by omega, by omega⟩⟩, fun r3 => ?_, fun r3 => ?_⟩⟩
        · have g := e2 (fun z => z.1.2.2 r3)
          repeat' (first | (refine And.intro ?_ ?_) | (intro hq; first | (exact absurd hq (by omega)) | skip))
          all_goals first | omega | exact hJ _ _ _ _ g
        · have e1' := fun z => e1 ⟨⟨r1, r2, r3⟩, z⟩
          have e2' : ¬ (b < 0 ∨ mg s ((d * 2804 + 364 + 7 * i) + 2) < mg s ((d * 2804 + 364 + 7 * b) + 2)) → _ := fun z => e2 (fun y => z y.2)
          repeat' (first | (refine And.intro ?_ ?_) | (intro hq; first | (exact absurd hq (by omega)) | skip))
          all_goals first | omega | exact hJ _ _ _ _ (e1' (by omega)) | exact hJ _ _ _ _ (e2' (by omega))
    · have g := e2 (fun z => r1 z.1.1)
      repeat' (first | (refine And.intro ?_ ?_) | (intro hq; first | (exact absurd hq (by omega)) | skip))
      all_goals first | omega | exact hJ _ _ _ _ g
def sX3_firstRipe : Int → Int → MS → KM → Prop := fun d wa s K => (dOk d ∧ xB wa ∧ mg s (d * 2804 + 5) ≤ 161) ∧ (-1 ≤ mFirstR s d wa → mFirstR s d wa ≤ 160 → K [pI (mFirstR s d wa)] s)
theorem mX3_firstRipe_ok : mOk encM bdM mX3_firstRipe (atR 0 (a2 sX3_firstRipe)) := by
  refine mOVa2 kX3_firstRipe (fun _ _ => rfl) (fun d wa s K h hb => wx_J [5] 9 tX3_firstRipe_ok rfl (fun J hR hJ => ?_))
  obtain ⟨⟨h1, h2, h3⟩, h4⟩ := h
  have hf := frL_b s d wa (mg s (d * 2804 + 5)).toNat 0 (-1) (by omega) (by omega) (by omega)
  have hK := h4 hf.1 (by unfold mFirstR; omega)
  exact hJ _ _ _ _ (X3_firstRipe_l s d wa h1 h2 h3 hb _ 0 (-1) (by omega) (by omega) (by omega) (by omega) (by rw [Int.sub_zero]) hK)
def cM_X3_firstRipe : Sp MS := atR 0 (a2 sX3_firstRipe)
theorem qM_X3_firstRipe {M : XI} {rc rs pc pc2 : Nat} (d : xl_Ca M pc mX3_firstRipe pc2) : cOk encM bdM M rc rs pc pc2 3 cM_X3_firstRipe := cSame mX3_firstRipe_ok vX3_firstRipe d mcl rfl lenM recM
def fcL (s : MS) (d : Int) : Nat → Int → Int → Int
  | 0, _, b => b
  | n + 1, i, b => fcL s d n (i + 1) (if mOver s d i (mg s (d * 2804 + 4)) ∧ (b < 0 ∨ mg s ((d * 2804 + 364 + 7 * i) + 2) < mg s ((d * 2804 + 364 + 7 * b) + 2)) then i else b)
def mFirstC (s : MS) (d : Int) : Int := fcL s d (mg s (d * 2804 + 5)).toNat 0 (-1)
theorem fcL_b (s : MS) (d : Int) : ∀ (n : Nat) (i b : Int), 0 ≤ i → -1 ≤ b → b < i → -1 ≤ fcL s d n i b ∧ fcL s d n i b < i + n
  | 0, i, b, h0, h1, h2 => by unfold fcL; omega
  | n + 1, i, b, h0, h1, h2 => by
    unfold fcL
    split
    · have := fcL_b s d n (i + 1) i (by omega) (by omega) (by omega)
      omega
    · have := fcL_b s d n (i + 1) b (by omega) (by omega) (by omega)
      omega
theorem X3_firstClosed_l {K : KM} {Pt : MS → Prop} (s : MS) (d : Int) (hd : dOk d) (hn : mg s (d * 2804 + 5) ≤ 161) (hb : bdM s) : ∀ (m : Nat) (i b : Int), 0 ≤ i → i ≤ max 0 (mg s (d * 2804 + 5)) → -1 ≤ b → b < i → m = (mg s (d * 2804 + 5) - i).toNat → K [pI (fcL s d m i b)] s → wX encM bdM mX3_firstClosed 0 0 K Pt 4 [some (pR 0), some (pI d), some (pI b), some (pI i)] [] s := by
  intro m
  induction m with
  | zero =>
    intro i b h0 h1 h2 h3 hm hK
    refine wx_J [4] 9 tX3_firstClosed_ok rfl (fun J hR hJ => ?_)
    repeat' (first | (refine And.intro ?_ ?_) | (intro hq; first | (exact absurd hq (by omega)) | skip))
    all_goals first | omega | exact hR _ _ hK
  | succ m ih =>
    intro i b h0 h1 h2 h3 hm hK
    refine wx_J [4] 9 tX3_firstClosed_ok rfl (fun J hR hJ => ?_)
    rw [fcL] at hK
    have e1 : (mOver s d i (mg s (d * 2804 + 4)) ∧ (b < 0 ∨ mg s ((d * 2804 + 364 + 7 * i) + 2) < mg s ((d * 2804 + 364 + 7 * b) + 2))) → wX encM bdM mX3_firstClosed 0 0 K Pt 4 [some (pR 0), some (pI d), some (pI i), some (pI (i + 1))] [] s := fun c => by
      rw [if_pos c] at hK
      exact ih (i + 1) i (by omega) (by omega) (by omega) (by omega) (by omega) hK
    have e2 : ¬ (mOver s d i (mg s (d * 2804 + 4)) ∧ (b < 0 ∨ mg s ((d * 2804 + 364 + 7 * i) + 2) < mg s ((d * 2804 + 364 + 7 * b) + 2))) → wX encM bdM mX3_firstClosed 0 0 K Pt 4 [some (pR 0), some (pI d), some (pI b), some (pI (i + 1))] [] s := fun c => by
      rw [if_neg c] at hK
      exact ih (i + 1) b (by omega) (by omega) (by omega) (by omega) (by omega) hK
    refine ⟨⟨by omega, by omega⟩, fun hn2 => ⟨⟨⟨by omega, by omega⟩, hn2⟩, fun c => absurd c (by omega), fun _ => ⟨⟨by omega, by omega⟩, fun hp2 => ⟨⟨hd, ⟨by omega, by omega⟩, hp2⟩, fun r1 => ?_, fun r1 => ?_⟩⟩⟩⟩
    · have e1' := fun z => e1 ⟨r1, z⟩
      have e2' : ¬ (b < 0 ∨ mg s ((d * 2804 + 364 + 7 * i) + 2) < mg s ((d * 2804 + 364 + 7 * b) + 2)) → _ := fun z => e2 (fun y => z y.2)
      repeat' (first | (refine And.intro ?_ ?_) | (intro hq; first | (exact absurd hq (by omega)) | skip))
      all_goals first | omega | exact hJ _ _ _ _ (e1' (by omega)) | exact hJ _ _ _ _ (e2' (by omega))
    · have g := e2 (fun z => r1 z.1)
      repeat' (first | (refine And.intro ?_ ?_) | (intro hq; first | (exact absurd hq (by omega)) | skip))
      all_goals first | omega | exact hJ _ _ _ _ g
def sX3_firstClosed : Int → MS → KM → Prop := fun d s K => (dOk d ∧ mg s (d * 2804 + 5) ≤ 161) ∧ (-1 ≤ mFirstC s d → mFirstC s d ≤ 160 → K [pI (mFirstC s d)] s)
theorem mX3_firstClosed_ok : mOk encM bdM mX3_firstClosed (atR 0 (a1 sX3_firstClosed)) := by
  refine mOVa1 kX3_firstClosed (fun _ => rfl) (fun d s K h hb => wx_J [4] 9 tX3_firstClosed_ok rfl (fun J hR hJ => ?_))
  obtain ⟨⟨h1, h3⟩, h4⟩ := h
  have hf := fcL_b s d (mg s (d * 2804 + 5)).toNat 0 (-1) (by omega) (by omega) (by omega)
  have hK := h4 hf.1 (by unfold mFirstC; omega)
  exact hJ _ _ _ _ (X3_firstClosed_l s d h1 h3 hb _ 0 (-1) (by omega) (by omega) (by omega) (by omega) (by rw [Int.sub_zero]) hK)
def cM_X3_firstClosed : Sp MS := atR 0 (a1 sX3_firstClosed)
theorem qM_X3_firstClosed {M : XI} {rc rs pc pc2 : Nat} (d : xl_Ca M pc mX3_firstClosed pc2) : cOk encM bdM M rc rs pc pc2 2 cM_X3_firstClosed := cSame mX3_firstClosed_ok vX3_firstClosed d mcl rfl lenM recM
def mClosed (s : MS) (d : Int) : Int := sumI (fun k => mg s (d * 2804 + (36 + k))) 6 0 0
theorem X3_closedMany_l {K : KM} {Pt : MS → Prop} (s : MS) (d : Int) (hd : dOk d) : ∀ (m : Nat) (k n : Int), 0 ≤ k → k ≤ 6 → m = (6 - k).toNat → K [pI (sumI (fun k => mg s (d * 2804 + (36 + k))) m k n)] s → wX encM bdM mX3_closedMany 0 0 K Pt 4 [some (pR 0), some (pI d), some (pI n), some (pI k)] [] s := by
  intro m
  induction m with
  | zero =>
    intro k n h0 h1 hm hK
    refine wx_J [4] 9 tX3_closedMany_ok rfl (fun J hR hJ => ?_)
    repeat' (first | (refine And.intro ?_ ?_) | (intro hq; first | (exact absurd hq (by omega)) | skip))
    all_goals first | omega | exact hR _ _ hK
  | succ m ih =>
    intro k n h0 h1 hm hK
    refine wx_J [4] 9 tX3_closedMany_ok rfl (fun J hR hJ => ?_)
    have g := ih (k + 1) _ (by omega) (by omega) (by omega) hK
    repeat' (first | (refine And.intro ?_ ?_) | (intro hq; first | (exact absurd hq (by omega)) | skip))
    all_goals first | omega | exact hJ _ _ _ _ g
def sX3_closedMany : Int → MS → KM → Prop := fun d s K => dOk d ∧ (xB (mClosed s d) → K [pI (mClosed s d)] s)
theorem mX3_closedMany_ok : mOk encM bdM mX3_closedMany (atR 0 (a1 sX3_closedMany)) := by
  refine mOVa1 kX3_closedMany (fun _ => rfl) (fun d s K h hb => wx_J [4] 9 tX3_closedMany_ok rfl (fun J hR hJ => ?_))
  obtain ⟨h1, h4⟩ := h
  exact hJ _ _ _ _ (X3_closedMany_l s d h1 6 0 0 (by omega) (by omega) (by omega) (h4 (sumI_B _ _ _ _ ⟨by omega, by omega⟩)))
def cM_X3_closedMany : Sp MS := atR 0 (a1 sX3_closedMany)
theorem qM_X3_closedMany {M : XI} {rc rs pc pc2 : Nat} (d : xl_Ca M pc mX3_closedMany pc2) : cOk encM bdM M rc rs pc pc2 2 cM_X3_closedMany := cSame mX3_closedMany_ok vX3_closedMany d mcl rfl lenM recM
/-- a session goes out -/
def mOut1 (s : MS) (d : Int) : MS := mInc s (d * 2804 + 5) (-1)
def mOut (s : MS) (d i : Int) : MS :=
  let s1 := mOut1 s d
  mA s1 3 (fun j => if ((d * 2804 + 364 + 7 * i)).toNat ≤ j ∧ j < ((d * 2804 + 364 + 7 * (mg s1 (d * 2804 + 5)))).toNat then s1.2 3 (j + 7) else s1.2 3 j)
theorem mg_mA {s : MS} {F : Nat → Int} {a : Int} : mg (mA s 3 F) a = F a.toNat := rfl
theorem X3_goesOut_l {K : KM} {Pt : MS → Prop} (s : MS) (d i : Int) (hd : dOk d) (hi : 0 ≤ i ∧ i ≤ 160) (hn : -1 ≤ mg s (d * 2804 + 5) ∧ mg s (d * 2804 + 5) ≤ 160) (hK : K [] (mA s 3 (fun j => if ((d * 2804 + 364 + 7 * i)).toNat ≤ j ∧ j < ((d * 2804 + 364 + 7 * (mg s (d * 2804 + 5)))).toNat then s.2 3 (j + 7) else s.2 3 j))) : ∀ (m : Nat) (k : Int), (d * 2804 + 364 + 7 * i) ≤ k → k ≤ max ((d * 2804 + 364 + 7 * i)) ((d * 2804 + 364 + 7 * (mg s (d * 2804 + 5)))) → m = ((d * 2804 + 364 + 7 * (mg s (d * 2804 + 5))) - k).toNat → wX encM bdM mX3_goesOut 0 0 K Pt 13 [some (pR 0), some (pI d), none, some (pI k)] [] (mA s 3 (fun j => if ((d * 2804 + 364 + 7 * i)).toNat ≤ j ∧ j < k.toNat then s.2 3 (j + 7) else s.2 3 j)) := by
  intro m
  have hh : ∀ k : Int, (d * 2804 + 364 + 7 * i) ≤ k → mg (mA s 3 (fun j => if ((d * 2804 + 364 + 7 * i)).toNat ≤ j ∧ j < k.toNat then s.2 3 (j + 7) else s.2 3 j)) (d * 2804 + 5) = mg s (d * 2804 + 5) := by
    intro k hk
    rw [mg_mA, if_neg (by omega)]
    rfl
  induction m with
  | zero =>
    intro k h0 h1 hm
    refine wx_J [13] 9 tX3_goesOut_ok rfl (fun J hR hJ => ?_)
    have hh := hh k h0
    have e : (fun j => if ((d * 2804 + 364 + 7 * i)).toNat ≤ j ∧ j < ((d * 2804 + 364 + 7 * (mg s (d * 2804 + 5)))).toNat then s.2 3 (j + 7) else s.2 3 j) = (fun j => if ((d * 2804 + 364 + 7 * i)).toNat ≤ j ∧ j < k.toNat then s.2 3 (j + 7) else s.2 3 j) := by
      funext j
      by_cases q : ((d * 2804 + 364 + 7 * i)).toNat ≤ j ∧ j < k.toNat
      · rw [if_pos q, if_pos (by omega)]
      · rw [if_neg q, if_neg (by omega)]
    rw [e] at hK
    refine ⟨⟨by omega, by omega⟩, fun hx => ?_⟩
    rw [hh] at hx ⊢
    repeat' (first | (refine And.intro ?_ ?_) | (intro hq; first | (exact absurd hq (by omega)) | skip))
    all_goals first | omega | exact hR _ _ hK
  | succ m ih =>
    intro k h0 h1 hm
    refine wx_J [13] 9 tX3_goesOut_ok rfl (fun J hR hJ => ?_)
    have hh := hh k h0
    have g := ih (k + 1) (by omega) (by omega) (by omega)
    have e : (fun j => if ((d * 2804 + 364 + 7 * i)).toNat ≤ j ∧ j < (k + 1).toNat then s.2 3 (j + 7) else s.2 3 j) = xup (fun j => if ((d * 2804 + 364 + 7 * i)).toNat ≤ j ∧ j < k.toNat then s.2 3 (j + 7) else s.2 3 j) k.toNat ((fun j => if ((d * 2804 + 364 + 7 * i)).toNat ≤ j ∧ j < k.toNat then s.2 3 (j + 7) else s.2 3 j) (k + 7).toNat) := by
      funext j
      unfold xup
      by_cases q : j = k.toNat
      · rw [if_pos q, if_pos (by omega)]
        dsimp only
        rw [if_neg (by omega), show (k + 7).toNat = j + 7 by omega]
      · rw [if_neg q]
        dsimp only
        by_cases q2 : ((d * 2804 + 364 + 7 * i)).toNat ≤ j ∧ j < k.toNat
        · rw [if_pos q2, if_pos (by omega)]
        · rw [if_neg q2, if_neg (by omega)]
    rw [e, ← mA_mA s 3 (fun j => if ((d * 2804 + 364 + 7 * i)).toNat ≤ j ∧ j < k.toNat then s.2 3 (j + 7) else s.2 3 j)] at g
    refine ⟨⟨by omega, by omega⟩, fun hx => ?_⟩
    rw [hh] at hx ⊢
    repeat' (first | (refine And.intro ?_ ?_) | (intro hq; first | (exact absurd hq (by omega)) | skip))
    all_goals first | omega | exact hJ _ _ _ _ g
def sX3_goesOut : Int → Int → MS → KM → Prop := fun d i s K => (dOk d ∧ (0 ≤ i ∧ i ≤ 160) ∧ -1 ≤ mg (mOut1 s d) (d * 2804 + 5) ∧ mg (mOut1 s d) (d * 2804 + 5) ≤ 160) ∧ K [] (mOut s d i)
theorem mX3_goesOut_ok : mOk encM bdM mX3_goesOut (atR 0 (a2 sX3_goesOut)) := by
  refine mOVa2 kX3_goesOut (fun _ _ => rfl) (fun d i s K h hb => wx_J [13] 9 tX3_goesOut_ok rfl (fun J hR hJ => ?_))
  obtain ⟨⟨h1, h2, h3⟩, hK⟩ := h
  have g := X3_goesOut_l (K := K) (Pt := fun _ => False) (mOut1 s d) d i h1 h2 h3 hK _ ((d * 2804 + 364 + 7 * i)) (by omega) (by omega) rfl
  have e : (fun j => if ((d * 2804 + 364 + 7 * i)).toNat ≤ j ∧ j < ((d * 2804 + 364 + 7 * i)).toNat then (mOut1 s d).2 3 (j + 7) else (mOut1 s d).2 3 j) = (mOut1 s d).2 3 := by
    funext j
    rw [if_neg (by omega)]
  rw [e, mA_self] at g
  repeat' (first | (refine And.intro ?_ ?_) | (intro hq; first | (exact absurd hq (by omega)) | skip))
  all_goals first | omega | exact hJ _ _ _ _ g
def cM_X3_goesOut : Sp MS := atR 0 (a2 sX3_goesOut)
theorem qM_X3_goesOut {M : XI} {rc rs pc pc2 : Nat} (d : xl_Ca M pc mX3_goesOut pc2) : cOk encM bdM M rc rs pc pc2 3 cM_X3_goesOut := cSame mX3_goesOut_ok vX3_goesOut d mcl rfl lenM recM
