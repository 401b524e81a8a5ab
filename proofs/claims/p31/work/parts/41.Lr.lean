/-! ===== LateSessions: reading numbers, remembering, sorting, playing again ===== -/
-- X2_numberAt: heads [5]
def tX2_numberAt : Nat → Blk LSt := fun pc => bif Nat.blt pc 5 then (bif Nat.beq pc 0 then (oI 0 <| oIst 3 <| oI 0 <| oIst 4 <| oM [true, true, true, true, true] (oTo 5)) else oNo) else (bif Nat.blt pc 34 then (bif Nat.beq pc 5 then (oIld 4 <| oIld 2 <| oCGe 34 <| oIld 3 <| oI 10 <| oMulW <| oAld 0 <| oIld 1 <| oIld 4 <| oAddW <| oC2 (cL_X2_signAt) <| oAddW <| oI 48 <| oSubW <| oIst 3 <| oInc 4 1 <| oM [true, true, true, true, true] (oTo 5)) else oNo) else (bif Nat.beq pc 34 then (oIld 3 <| oIret) else oNo))
theorem tX2_numberAt_ok : ∀ pc, bOk (encL) (bdL) mX2_numberAt 0 0 pc (tX2_numberAt pc) := fun pc => (tNode (tLeaf (okIc iX2_numberAt_0 <| okIstn iX2_numberAt_1 rfl (by decide) <| okIc iX2_numberAt_2 <| okIst iX2_numberAt_3 (by decide) <| okM (okTo (tl rfl)))) (tNode (tLeaf (okIld iX2_numberAt_5 <| okIldn iX2_numberAt_7 rfl <| okCGe (tl rfl) iX2_numberAt_8 <| okIldn iX2_numberAt_11 rfl <| okBi iX2_numberAt_12 (by decide) <| okMulW iX2_numberAt_14 <| okAldn iX2_numberAt_15 rfl <| okIldn iX2_numberAt_16 rfl <| okIld iX2_numberAt_17 <| okAddW iX2_numberAt_19 <| okC2 (qL_X2_signAt iX2_numberAt_20) <| okAddW iX2_numberAt_23 <| okBi iX2_numberAt_24 (by decide) <| okSubW iX2_numberAt_26 <| okIstn iX2_numberAt_27 rfl (by decide) <| okInc iX2_numberAt_28 (by decide) <| okGotoM (tl rfl) iX2_numberAt_31)) (tLeaf (okIldn iX2_numberAt_34 rfl <| okIret iX2_numberAt_35 rfl)))) pc
-- X2_keyAt: heads []
def tX2_keyAt : Nat → Blk LSt := fun pc => bif Nat.beq pc 0 then (oAld 0 <| oIld 1 <| oC2 (cL_X2_signAt) <| oI 97 <| oSubW <| oIret) else oNo
theorem tX2_keyAt_ok : ∀ pc, bOk (encL) (bdL) mX2_keyAt 0 0 pc (tX2_keyAt pc) := fun pc => (tLeaf (okAldn iX2_keyAt_0 rfl <| okIldn iX2_keyAt_1 rfl <| okC2 (qL_X2_signAt iX2_keyAt_2) <| okBi iX2_keyAt_5 (by decide) <| okSubW iX2_keyAt_7 <| okIret iX2_keyAt_8 rfl)) pc
def numL (s : LSt) (f : Int) : Nat → Int → Int → Int
  | 0, _, n => n
  | m + 1, k, n => numL s f m (k + 1) (wI (wI (wI (n * 10) + lSign s (wI (f + k))) - 48))
def lNum (s : LSt) (f d : Int) : Int := numL s f d.toNat 0 0
theorem numL_B (s : LSt) (f : Int) : ∀ (m : Nat) (k n : Int), xB n → xB (numL s f m k n)
  | 0, _, _, h => h
  | m + 1, k, n, _ => numL_B s f m (k + 1) _ (wI_B _)
theorem X2_numberAt_loop {K : KL} {Pt : LSt → Prop} (s : LSt) (f d : Int) (hf : xB f) (hd : xB d) : ∀ (m : Nat) (k n : Int), 0 ≤ k → k ≤ max 0 d → m = (d - k).toNat → K [pI (numL s f m k n)] s → wX encL bdL mX2_numberAt 0 0 K Pt 5 [some (pR 0), some (pI f), some (pI d), some (pI n), some (pI k)] [] s := by
  intro m
  induction m with
  | zero =>
    intro k n h0 h1 hm hK
    refine wx_J [5] 9 tX2_numberAt_ok rfl (fun J hR hJ => ?_)
    repeat' (first | (refine And.intro ?_ ?_) | intro _)
    all_goals first | omega | exact hR _ _ hK
  | succ m ih =>
    intro k n h0 h1 hm hK
    refine wx_J [5] 9 tX2_numberAt_ok rfl (fun J hR hJ => ?_)
    have g := ih (k + 1) _ (by omega) (by omega) (by omega) hK
    repeat' (first | (refine And.intro ?_ ?_) | intro _)
    all_goals first | omega | exact hJ _ _ _ _ g
def sX2_numberAt : Int → Int → LSt → KL → Prop := fun f d s K => (xB f ∧ xB d) ∧ (xB (lNum s f d) → K [pI (lNum s f d)] s)
theorem mX2_numberAt_ok : mOk encL bdL mX2_numberAt (atR 0 (a2 sX2_numberAt)) := by
  refine mOVa2 kX2_numberAt (fun _ _ => rfl) (fun f d s K h hb => wx_J [5] 9 tX2_numberAt_ok rfl (fun J hR hJ => ?_))
  obtain ⟨⟨h1, h3⟩, h2⟩ := h
  exact hJ _ _ _ _ (X2_numberAt_loop s f d h1 h3 d.toNat 0 0 (by omega) (by omega) (by omega) (h2 (numL_B _ _ _ _ _ ⟨by omega, by omega⟩)))
def cL_X2_numberAt : Sp LSt := atR 0 (a2 sX2_numberAt)
theorem qL_X2_numberAt {M : XI} {rc rs pc pc2 : Nat} (d : xl_Ca M pc mX2_numberAt pc2) : cOk encL bdL M rc rs pc pc2 3 cL_X2_numberAt := cSame mX2_numberAt_ok vX2_numberAt d lcl rfl lenL recL
def lKey (s : LSt) (a : Int) : Int := wI (lSign s a - 97)
def sX2_keyAt : Int → LSt → KL → Prop := fun a s K => xB a ∧ (xB (lKey s a) → K [pI (lKey s a)] s)
theorem mX2_keyAt_ok : mOk encL bdL mX2_keyAt (atR 0 (a1 sX2_keyAt)) := by
  refine mOVa1 kX2_keyAt (fun _ => rfl) (fun a s K h hb => wx_J [] 9 tX2_keyAt_ok rfl (fun J hR hJ => ?_))
  obtain ⟨h1, h2⟩ := h
  have hK := h2 (wI_B _)
  repeat' (first | (refine And.intro ?_ ?_) | intro _)
  all_goals first | omega | exact hR _ _ hK
def cL_X2_keyAt : Sp LSt := atR 0 (a1 sX2_keyAt)
theorem qL_X2_keyAt {M : XI} {rc rs pc pc2 : Nat} (d : xl_Ca M pc mX2_keyAt pc2) : cOk encL bdL M rc rs pc pc2 2 cL_X2_keyAt := cSame mX2_keyAt_ok vX2_keyAt d lcl rfl lenL recL
-- X2_valueAt: heads []
def tX2_valueAt : Nat → Blk LSt := fun pc => bif Nat.blt pc 24 then (bif Nat.beq pc 0 then (oAld 0 <| oIld 1 <| oI 1 <| oAddW <| oI 2 <| oC3 (cL_X2_numberAt) <| oIst 2 <| oAld 0 <| oIld 1 <| oC2 (cL_X2_signAt) <| oI 45 <| oCNe 24 <| oIld 2 <| oNegW <| oTo 25) else oNo) else (bif Nat.blt pc 25 then (bif Nat.beq pc 24 then (oIld 2 <| oTo 25) else oNo) else (bif Nat.beq pc 25 then (oIret) else oNo))
theorem tX2_valueAt_ok : ∀ pc, bOk (encL) (bdL) mX2_valueAt 0 0 pc (tX2_valueAt pc) := fun pc => (tNode (tLeaf (okAldn iX2_valueAt_0 rfl <| okIldn iX2_valueAt_1 rfl <| okIc iX2_valueAt_2 <| okAddW iX2_valueAt_3 <| okIc iX2_valueAt_4 <| okC3 (qL_X2_numberAt iX2_valueAt_5) <| okIstn iX2_valueAt_8 rfl (by decide) <| okAldn iX2_valueAt_9 rfl <| okIldn iX2_valueAt_10 rfl <| okC2 (qL_X2_signAt iX2_valueAt_11) <| okBi iX2_valueAt_14 (by decide) <| okCNe (tl rfl) iX2_valueAt_16 <| okIldn iX2_valueAt_19 rfl <| okNegW iX2_valueAt_20 <| okGoto (tl rfl) iX2_valueAt_21)) (tNode (tLeaf (okIldn iX2_valueAt_24 rfl <| okTo (tl rfl))) (tLeaf (okIret iX2_valueAt_25 rfl)))) pc
def lVal (s : LSt) (a : Int) : Int := if lSign s a = 45 then wI (-(lNum s (wI (a + 1)) 2)) else lNum s (wI (a + 1)) 2
theorem lVal_B (s : LSt) (a : Int) : xB (lVal s a) := by
  unfold lVal
  split
  · exact wI_B _
  · exact numL_B _ _ _ _ _ ⟨by omega, by omega⟩
def sX2_valueAt : Int → LSt → KL → Prop := fun a s K => xB a ∧ (xB (lVal s a) → K [pI (lVal s a)] s)
theorem mX2_valueAt_ok : mOk encL bdL mX2_valueAt (atR 0 (a1 sX2_valueAt)) := by
  refine mOVa1 kX2_valueAt (fun _ => rfl) (fun a s K h hb => wx_J [] 9 tX2_valueAt_ok rfl (fun J hR hJ => ?_))
  obtain ⟨h1, h2⟩ := h
  have hK := h2 (lVal_B _ _)
  unfold lVal at hK
  by_cases c : lSign s a = 45
  · rw [if_pos c] at hK
    repeat' (first | (refine And.intro ?_ ?_) | intro _)
    all_goals first | omega | exact hR _ _ hK
  · rw [if_neg c] at hK
    repeat' (first | (refine And.intro ?_ ?_) | intro _)
    all_goals first | omega | exact hR _ _ hK
def cL_X2_valueAt : Sp LSt := atR 0 (a1 sX2_valueAt)
theorem qL_X2_valueAt {M : XI} {rc rs pc pc2 : Nat} (d : xl_Ca M pc mX2_valueAt pc2) : cOk encL bdL M rc rs pc pc2 2 cL_X2_valueAt := cSame mX2_valueAt_ok vX2_valueAt d lcl rfl lenL recL
-- X2_comeEventAt: heads []
def tX2_comeEventAt : Nat → Blk LSt := fun pc => bif Nat.beq pc 0 then (oAld 0 <| oGet (fgL) 2 0 <| oAld 0 <| oIld 1 <| oC2 (cL_X2_keyAt) <| oAld 0 <| oIld 1 <| oI 1 <| oAddW <| oI 4 <| oC3 (cL_X2_numberAt) <| oAld 0 <| oIld 1 <| oI 5 <| oAddW <| oC2 (cL_X2_valueAt) <| oAld 0 <| oIld 1 <| oI 8 <| oAddW <| oI 1 <| oC3 (cL_X2_numberAt) <| oC5 (cL_X1_comeEvent) <| oIret) else oNo
theorem tX2_comeEventAt_ok : ∀ pc, bOk (encL) (bdL) mX2_comeEventAt 0 0 pc (tX2_comeEventAt pc) := fun pc => (tLeaf (okAldn iX2_comeEventAt_0 rfl <| okGet (vFgL) iX2_comeEventAt_1 <| okAldn iX2_comeEventAt_4 rfl <| okIldn iX2_comeEventAt_5 rfl <| okC2 (qL_X2_keyAt iX2_comeEventAt_6) <| okAldn iX2_comeEventAt_9 rfl <| okIldn iX2_comeEventAt_10 rfl <| okIc iX2_comeEventAt_11 <| okAddW iX2_comeEventAt_12 <| okIc iX2_comeEventAt_13 <| okC3 (qL_X2_numberAt iX2_comeEventAt_14) <| okAldn iX2_comeEventAt_17 rfl <| okIldn iX2_comeEventAt_18 rfl <| okIc iX2_comeEventAt_19 <| okAddW iX2_comeEventAt_20 <| okC2 (qL_X2_valueAt iX2_comeEventAt_21) <| okAldn iX2_comeEventAt_24 rfl <| okIldn iX2_comeEventAt_25 rfl <| okBi iX2_comeEventAt_26 (by decide) <| okAddW iX2_comeEventAt_28 <| okIc iX2_comeEventAt_29 <| okC3 (qL_X2_numberAt iX2_comeEventAt_30) <| okC5 (qL_X1_comeEvent iX2_comeEventAt_33) <| okIret iX2_comeEventAt_36 rfl)) pc
-- X2_actRefusal: heads []
def tX2_actRefusal : Nat → Blk LSt := fun pc => bif Nat.blt pc 69 then (bif Nat.blt pc 32 then (bif Nat.beq pc 0 then (oAld 0 <| oIld 1 <| oC2 (cL_X2_signAt) <| oLook [(101, 32), (109, 69)] 90) else oNo) else (bif Nat.beq pc 32 then (oAld 0 <| oAld 0 <| oIld 1 <| oI 1 <| oAddW <| oC2 (cL_X2_keyAt) <| oAld 0 <| oIld 1 <| oI 2 <| oAddW <| oI 4 <| oC3 (cL_X2_numberAt) <| oAld 0 <| oIld 1 <| oI 6 <| oAddW <| oC2 (cL_X2_valueAt) <| oAld 0 <| oIld 1 <| oI 9 <| oAddW <| oI 1 <| oC3 (cL_X2_numberAt) <| oC5 (cL_X2_eventRefusal) <| oIret) else oNo)) else (bif Nat.blt pc 90 then (bif Nat.beq pc 69 then (oAld 0 <| oAld 0 <| oIld 1 <| oI 1 <| oAddW <| oI 1 <| oC3 (cL_X2_numberAt) <| oAld 0 <| oIld 1 <| oI 2 <| oAddW <| oI 5 <| oC3 (cL_X2_numberAt) <| oC3 (cL_X2_markRefusal) <| oIret) else oNo) else (bif Nat.beq pc 90 then (oAld 0 <| oAld 0 <| oIld 1 <| oI 1 <| oAddW <| oI 1 <| oC3 (cL_X2_numberAt) <| oC2 (cL_X2_idleRefusal) <| oIret) else oNo))
theorem tX2_actRefusal_ok : ∀ pc, bOk (encL) (bdL) mX2_actRefusal 0 0 pc (tX2_actRefusal pc) := fun pc => (tNode (tNode (tLeaf (okAldn iX2_actRefusal_0 rfl <| okIldn iX2_actRefusal_1 rfl <| okC2 (qL_X2_signAt iX2_actRefusal_2) <| okLook (by decide +kernel) (by decide +kernel) (by decide +kernel) iX2_actRefusal_5.1)) (tLeaf (okAldn iX2_actRefusal_32 rfl <| okAldn iX2_actRefusal_33 rfl <| okIldn iX2_actRefusal_34 rfl <| okIc iX2_actRefusal_35 <| okAddW iX2_actRefusal_36 <| okC2 (qL_X2_keyAt iX2_actRefusal_37) <| okAldn iX2_actRefusal_40 rfl <| okIldn iX2_actRefusal_41 rfl <| okIc iX2_actRefusal_42 <| okAddW iX2_actRefusal_43 <| okIc iX2_actRefusal_44 <| okC3 (qL_X2_numberAt iX2_actRefusal_45) <| okAldn iX2_actRefusal_48 rfl <| okIldn iX2_actRefusal_49 rfl <| okBi iX2_actRefusal_50 (by decide) <| okAddW iX2_actRefusal_52 <| okC2 (qL_X2_valueAt iX2_actRefusal_53) <| okAldn iX2_actRefusal_56 rfl <| okIldn iX2_actRefusal_57 rfl <| okBi iX2_actRefusal_58 (by decide) <| okAddW iX2_actRefusal_60 <| okIc iX2_actRefusal_61 <| okC3 (qL_X2_numberAt iX2_actRefusal_62) <| okC5 (qL_X2_eventRefusal iX2_actRefusal_65) <| okIret iX2_actRefusal_68 rfl))) (tNode (tLeaf (okAldn iX2_actRefusal_69 rfl <| okAldn iX2_actRefusal_70 rfl <| okIldn iX2_actRefusal_71 rfl <| okIc iX2_actRefusal_72 <| okAddW iX2_actRefusal_73 <| okIc iX2_actRefusal_74 <| okC3 (qL_X2_numberAt iX2_actRefusal_75) <| okAldn iX2_actRefusal_78 rfl <| okIldn iX2_actRefusal_79 rfl <| okIc iX2_actRefusal_80 <| okAddW iX2_actRefusal_81 <| okIc iX2_actRefusal_82 <| okC3 (qL_X2_numberAt iX2_actRefusal_83) <| okC3 (qL_X2_markRefusal iX2_actRefusal_86) <| okIret iX2_actRefusal_89 rfl)) (tLeaf (okAldn iX2_actRefusal_90 rfl <| okAldn iX2_actRefusal_91 rfl <| okIldn iX2_actRefusal_92 rfl <| okIc iX2_actRefusal_93 <| okAddW iX2_actRefusal_94 <| okIc iX2_actRefusal_95 <| okC3 (qL_X2_numberAt iX2_actRefusal_96) <| okC2 (qL_X2_idleRefusal iX2_actRefusal_99) <| okIret iX2_actRefusal_102 rfl)))) pc
-- X2_comeAct: heads []
def tX2_comeAct : Nat → Blk LSt := fun pc => bif Nat.blt pc 75 then (bif Nat.blt pc 32 then (bif Nat.beq pc 0 then (oAld 0 <| oIld 1 <| oC2 (cL_X2_signAt) <| oLook [(101, 32), (109, 75)] 101) else oNo) else (bif Nat.beq pc 32 then (oAld 0 <| oGet (fgL) 2 0 <| oAld 0 <| oIld 1 <| oI 1 <| oAddW <| oC2 (cL_X2_keyAt) <| oAld 0 <| oIld 1 <| oI 2 <| oAddW <| oI 4 <| oC3 (cL_X2_numberAt) <| oAld 0 <| oIld 1 <| oI 6 <| oAddW <| oC2 (cL_X2_valueAt) <| oAld 0 <| oIld 1 <| oI 9 <| oAddW <| oI 1 <| oC3 (cL_X2_numberAt) <| oC5 (cL_X1_comeEvent) <| oPop <| oTo 116) else oNo)) else (bif Nat.blt pc 101 then (bif Nat.beq pc 75 then (oAld 0 <| oGet (fgL) 2 0 <| oAld 0 <| oIld 1 <| oI 1 <| oAddW <| oI 1 <| oC3 (cL_X2_numberAt) <| oAld 0 <| oIld 1 <| oI 2 <| oAddW <| oI 5 <| oC3 (cL_X2_numberAt) <| oC3 (cL_X1_comeMark) <| oTo 116) else oNo) else (bif Nat.blt pc 116 then (bif Nat.beq pc 101 then (oAld 0 <| oGet (fgL) 2 0 <| oAld 0 <| oIld 1 <| oI 1 <| oAddW <| oI 1 <| oC3 (cL_X2_numberAt) <| oC2 (cL_X1_comeIdle) <| oTo 116) else oNo) else (bif Nat.beq pc 116 then (oVret) else oNo)))
theorem tX2_comeAct_ok : ∀ pc, bOk (encL) (bdL) mX2_comeAct 0 0 pc (tX2_comeAct pc) := fun pc => (tNode (tNode (tLeaf (okAldn iX2_comeAct_0 rfl <| okIldn iX2_comeAct_1 rfl <| okC2 (qL_X2_signAt iX2_comeAct_2) <| okLook (by decide +kernel) (by decide +kernel) (by decide +kernel) iX2_comeAct_5.1)) (tLeaf (okAldn iX2_comeAct_32 rfl <| okGet (vFgL) iX2_comeAct_33 <| okAldn iX2_comeAct_36 rfl <| okIldn iX2_comeAct_37 rfl <| okIc iX2_comeAct_38 <| okAddW iX2_comeAct_39 <| okC2 (qL_X2_keyAt iX2_comeAct_40) <| okAldn iX2_comeAct_43 rfl <| okIldn iX2_comeAct_44 rfl <| okIc iX2_comeAct_45 <| okAddW iX2_comeAct_46 <| okIc iX2_comeAct_47 <| okC3 (qL_X2_numberAt iX2_comeAct_48) <| okAldn iX2_comeAct_51 rfl <| okIldn iX2_comeAct_52 rfl <| okBi iX2_comeAct_53 (by decide) <| okAddW iX2_comeAct_55 <| okC2 (qL_X2_valueAt iX2_comeAct_56) <| okAldn iX2_comeAct_59 rfl <| okIldn iX2_comeAct_60 rfl <| okBi iX2_comeAct_61 (by decide) <| okAddW iX2_comeAct_63 <| okIc iX2_comeAct_64 <| okC3 (qL_X2_numberAt iX2_comeAct_65) <| okC5 (qL_X1_comeEvent iX2_comeAct_68) <| okPop iX2_comeAct_71 <| okGoto (tl rfl) iX2_comeAct_72))) (tNode (tLeaf (okAldn iX2_comeAct_75 rfl <| okGet (vFgL) iX2_comeAct_76 <| okAldn iX2_comeAct_79 rfl <| okIldn iX2_comeAct_80 rfl <| okIc iX2_comeAct_81 <| okAddW iX2_comeAct_82 <| okIc iX2_comeAct_83 <| okC3 (qL_X2_numberAt iX2_comeAct_84) <| okAldn iX2_comeAct_87 rfl <| okIldn iX2_comeAct_88 rfl <| okIc iX2_comeAct_89 <| okAddW iX2_comeAct_90 <| okIc iX2_comeAct_91 <| okC3 (qL_X2_numberAt iX2_comeAct_92) <| okC3 (qL_X1_comeMark iX2_comeAct_95) <| okGoto (tl rfl) iX2_comeAct_98)) (tNode (tLeaf (okAldn iX2_comeAct_101 rfl <| okGet (vFgL) iX2_comeAct_102 <| okAldn iX2_comeAct_105 rfl <| okIldn iX2_comeAct_106 rfl <| okIc iX2_comeAct_107 <| okAddW iX2_comeAct_108 <| okIc iX2_comeAct_109 <| okC3 (qL_X2_numberAt iX2_comeAct_110) <| okC2 (qL_X1_comeIdle iX2_comeAct_113) <| okTo (tl rfl))) (tLeaf (okVret iX2_comeAct_116 rfl))))) pc
-- X2_remember: heads []
def tX2_remember : Nat → Blk LSt := fun pc => bif Nat.blt pc 53 then (bif Nat.blt pc 23 then (bif Nat.beq pc 0 then (oAld 0 <| oGet (fgL) 2 2 <| oAld 0 <| oGet (fgL) 2 3 <| oAld 0 <| oGet (fgL) 2 4 <| oAdd <| oI 6 <| oRemT <| oAa (arL) <| oAst 1 <| oAld 1 <| oNN 23) else oNo) else (bif Nat.beq pc 23 then (oAld 1 <| oAld 0 <| oGet (fgL) 2 0 <| oC2 (cL_X1_copyFrom) <| oAld 0 <| oGet (fgL) 2 4 <| oI 6 <| oCGe 53 <| oAld 0 <| oDup <| oGet (fgL) 2 4 <| oI 1 <| oAdd <| oPut (fpL) 2 4 <| oTo 66) else oNo)) else (bif Nat.blt pc 66 then (bif Nat.beq pc 53 then (oAld 0 <| oAld 0 <| oGet (fgL) 2 3 <| oI 1 <| oAdd <| oI 6 <| oRemT <| oPut (fpL) 2 3 <| oTo 66) else oNo) else (bif Nat.beq pc 66 then (oVret) else oNo))
theorem tX2_remember_ok : ∀ pc, bOk (encL) (bdL) mX2_remember 0 0 pc (tX2_remember pc) := fun pc => (tNode (tNode (tLeaf (okAldn iX2_remember_0 rfl <| okGet (vFgL) iX2_remember_1 <| okAldn iX2_remember_4 rfl <| okGet (vFgL) iX2_remember_5 <| okAldn iX2_remember_8 rfl <| okGet (vFgL) iX2_remember_9 <| okAdd iX2_remember_12 <| okBi iX2_remember_13 (by decide) <| okRemT iX2_remember_15 <| okAa (vArL) iX2_remember_16 <| okAstn iX2_remember_17 rfl (by decide) <| okAldn iX2_remember_18 rfl <| okNN (tl rfl) iX2_remember_19)) (tLeaf (okAldn iX2_remember_23 rfl <| okAldn iX2_remember_24 rfl <| okGet (vFgL) iX2_remember_25 <| okC2 (qL_X1_copyFrom iX2_remember_28) <| okAldn iX2_remember_31 rfl <| okGet (vFgL) iX2_remember_32 <| okBi iX2_remember_35 (by decide) <| okCGe (tl rfl) iX2_remember_37 <| okAldn iX2_remember_40 rfl <| okDup iX2_remember_41 <| okGet (vFgL) iX2_remember_42 <| okIc iX2_remember_45 <| okAdd iX2_remember_46 <| okPut (vFpL) iX2_remember_47 <| okGoto (tl rfl) iX2_remember_50))) (tNode (tLeaf (okAldn iX2_remember_53 rfl <| okAldn iX2_remember_54 rfl <| okGet (vFgL) iX2_remember_55 <| okIc iX2_remember_58 <| okAdd iX2_remember_59 <| okBi iX2_remember_60 (by decide) <| okRemT iX2_remember_62 <| okPut (vFpL) iX2_remember_63 <| okTo (tl rfl))) (tLeaf (okVret iX2_remember_66 rfl)))) pc
def lCEA (s : LSt) (a : Int) : LSt := setW s 0 (wComeE (s.2.2 0) (lKey s a) (lNum s (wI (a + 1)) 4) (lVal s (wI (a + 5))) (lNum s (wI (a + 8)) 1))
def lCEF (s : LSt) (a : Int) : Int := wFate (wNote (s.2.2 0) 0 (lNum s (wI (a + 8)) 1) (lNum s (wI (a + 1)) 4)) (lNum s (wI (a + 1)) 4)
def sX2_comeEventAt : Int → LSt → KL → Prop := fun a s K => (xB a ∧ wok (s.2.2 0)) ∧ (0 ≤ lCEF s a → lCEF s a ≤ 2 → K [pI (lCEF s a)] (lCEA s a))
theorem mX2_comeEventAt_ok : mOk encL bdL mX2_comeEventAt (atR 0 (a1 sX2_comeEventAt)) := by
  refine mOVa1 kX2_comeEventAt (fun _ => rfl) (fun a s K h hb => wx_J [] 9 tX2_comeEventAt_ok rfl (fun J hR hJ => ?_))
  obtain ⟨⟨h1, h3⟩, h2⟩ := h
  repeat' (first | (refine And.intro ?_ ?_) | intro _)
  all_goals first | omega | exact (h3 _ (by assumption)).1 | exact (h3 _ (by assumption)).2 | exact hR _ _ (h2 ‹_› ‹_›)
def cL_X2_comeEventAt : Sp LSt := atR 0 (a1 sX2_comeEventAt)
theorem qL_X2_comeEventAt {M : XI} {rc rs pc pc2 : Nat} (d : xl_Ca M pc mX2_comeEventAt pc2) : cOk encL bdL M rc rs pc pc2 2 cL_X2_comeEventAt := cSame mX2_comeEventAt_ok vX2_comeEventAt d lcl rfl lenL recL
def lActR (s : LSt) (a : Int) : Int := if lSign s a = 101 then lEvR s (lKey s (wI (a + 1))) (lNum s (wI (a + 2)) 4) (lVal s (wI (a + 6))) (lNum s (wI (a + 9)) 1) else if lSign s a = 109 then lMkR s (lNum s (wI (a + 1)) 1) (lNum s (wI (a + 2)) 5) else lIdR s (lNum s (wI (a + 1)) 1)
def sX2_actRefusal : Int → LSt → KL → Prop := fun a s K => xB a ∧ (-3 ≤ lActR s a → lActR s a ≤ 0 → K [pI (lActR s a)] s)
theorem mX2_actRefusal_ok : mOk encL bdL mX2_actRefusal (atR 0 (a1 sX2_actRefusal)) := by
  refine mOVa1 kX2_actRefusal (fun _ => rfl) (fun a s K h hb => wx_J [] 9 tX2_actRefusal_ok rfl (fun J hR hJ => ?_))
  obtain ⟨h1, h2⟩ := h
  unfold lActR at h2
  by_cases c : lSign s a = 101
  · rw [if_pos c] at h2
    repeat' (first | (refine And.intro ?_ ?_) | intro _)
    all_goals first | omega | exact hR _ _ (h2 ‹_› ‹_›) | (exact absurd c ‹_›)
  · rw [if_neg c] at h2
    by_cases c2 : lSign s a = 109
    · rw [if_pos c2] at h2
      repeat' (first | (refine And.intro ?_ ?_) | intro _)
      all_goals first | omega | exact hR _ _ (h2 ‹_› ‹_›)
    · rw [if_neg c2] at h2
      repeat' (first | (refine And.intro ?_ ?_) | intro _)
      all_goals first | omega | exact hR _ _ (h2 ‹_› ‹_›)
def cL_X2_actRefusal : Sp LSt := atR 0 (a1 sX2_actRefusal)
theorem qL_X2_actRefusal {M : XI} {rc rs pc pc2 : Nat} (d : xl_Ca M pc mX2_actRefusal pc2) : cOk encL bdL M rc rs pc pc2 2 cL_X2_actRefusal := cSame mX2_actRefusal_ok vX2_actRefusal d lcl rfl lenL recL
def lAct (s : LSt) (a : Int) : LSt := setW s 0 (if lSign s a = 101 then wComeE (s.2.2 0) (lKey s (wI (a + 1))) (lNum s (wI (a + 2)) 4) (lVal s (wI (a + 6))) (lNum s (wI (a + 9)) 1) else if lSign s a = 109 then wComeM (s.2.2 0) (lNum s (wI (a + 1)) 1) (lNum s (wI (a + 2)) 5) else wComeI (s.2.2 0) (lNum s (wI (a + 1)) 1))
def sX2_comeAct : Int → LSt → KL → Prop := fun a s K => (xB a ∧ wok (s.2.2 0)) ∧ K [] (lAct s a)
theorem mX2_comeAct_ok : mOk encL bdL mX2_comeAct (atR 0 (a1 sX2_comeAct)) := by
  refine mOVa1 kX2_comeAct (fun _ => rfl) (fun a s K h hb => wx_J [] 9 tX2_comeAct_ok rfl (fun J hR hJ => ?_))
  obtain ⟨⟨h1, h3⟩, h2⟩ := h
  unfold lAct at h2
  by_cases c : lSign s a = 101
  · rw [if_pos c] at h2
    repeat' (first | (refine And.intro ?_ ?_) | intro _)
    all_goals first | omega | exact (h3 _ (by assumption)).1 | exact (h3 _ (by assumption)).2 | exact hR _ _ h2
  · rw [if_neg c] at h2
    by_cases c2 : lSign s a = 109
    · rw [if_pos c2] at h2
      repeat' (first | (refine And.intro ?_ ?_) | intro _)
      all_goals first | omega | exact (h3 _ (by assumption)).1 | exact (h3 _ (by assumption)).2 | exact hR _ _ h2
    · rw [if_neg c2] at h2
      repeat' (first | (refine And.intro ?_ ?_) | intro _)
      all_goals first | omega | exact (h3 _ (by assumption)).1 | exact (h3 _ (by assumption)).2 | exact hR _ _ h2
def cL_X2_comeAct : Sp LSt := atR 0 (a1 sX2_comeAct)
theorem qL_X2_comeAct {M : XI} {rc rs pc pc2 : Nat} (d : xl_Ca M pc mX2_comeAct pc2) : cOk encL bdL M rc rs pc pc2 2 cL_X2_comeAct := cSame mX2_comeAct_ok vX2_comeAct d lcl rfl lenL recL
/-- what is remembered -/
def lRem (s : LSt) : LSt :=
  let j := 2 + (Int.tmod (s.1 0 + s.1 1) 6).toNat
  let s1 := setW s j (wCopy (s.2.2 j) (s.2.2 0))
  if s.1 1 < 6 then setS s1 1 (s.1 1 + 1) else setS s1 0 (Int.tmod (s.1 0 + 1) 6)
abbrev uok (s : LSt) : Prop := (0 ≤ s.1 0 ∧ s.1 0 < 6) ∧ (0 ≤ s.1 1 ∧ s.1 1 ≤ 6)
def sX2_remember : LSt → KL → Prop := fun s K => (uok s ∧ wok (s.2.2 0)) ∧ K [] (lRem s)
theorem mX2_remember_ok : mOk encL bdL mX2_remember (atR 0 (a0 sX2_remember)) := by
  refine mOVa0 kX2_remember (fun _ => rfl) (fun s K h hb => wx_J [] 9 tX2_remember_ok rfl (fun J hR hJ => ?_))
  obtain ⟨⟨⟨⟨u1, u2⟩, u3, u4⟩, h3⟩, h2⟩ := h
  unfold lRem at h2
  dsimp only at h2
  have t1 := Int.tmod_lt_of_pos (s.1 0 + s.1 1) (b := 6) (by omega)
  have t2 := Int.tmod_nonneg (a := s.1 0 + s.1 1) 6 (by omega)
  have t3 := Int.tmod_lt_of_pos (s.1 0 + 1) (b := 6) (by omega)
  have t4 := Int.tmod_nonneg (a := s.1 0 + 1) 6 (by omega)
  have hB : xB (Int.tmod (s.1 0 + 1) 6) := ⟨by omega, by omega⟩
  intro _ _
  refine ⟨⟨by omega, ⟨by omega, by omega⟩, ⟨by omega, by omega⟩⟩, ⟨t2, by omega⟩, fun j hj ej => ?_⟩
  have ejn : (Int.tmod (s.1 0 + s.1 1) 6).toNat = j := by omega
  rw [ejn] at h2
  by_cases c : s.1 1 < 6
  · rw [if_pos c] at h2
    have c0 : (-2147483648 : Int) ≤ s.1 1 + 1 ∧ s.1 1 + 1 ≤ 2147483647 := ⟨by omega, by omega⟩
    match j, hj with
    | 0, _ => exact ⟨h3, fun _ => ⟨⟨⟨by omega, by omega⟩, ⟨by omega, by omega⟩⟩, fun q => absurd (show 6 ≤ s.1 1 from q) (by omega), fun _ _ => ⟨c0, hR _ _ h2⟩⟩⟩
    | 1, _ => exact ⟨h3, fun _ => ⟨⟨⟨by omega, by omega⟩, ⟨by omega, by omega⟩⟩, fun q => absurd (show 6 ≤ s.1 1 from q) (by omega), fun _ _ => ⟨c0, hR _ _ h2⟩⟩⟩
    | 2, _ => exact ⟨h3, fun _ => ⟨⟨⟨by omega, by omega⟩, ⟨by omega, by omega⟩⟩, fun q => absurd (show 6 ≤ s.1 1 from q) (by omega), fun _ _ => ⟨c0, hR _ _ h2⟩⟩⟩
    | 3, _ => exact ⟨h3, fun _ => ⟨⟨⟨by omega, by omega⟩, ⟨by omega, by omega⟩⟩, fun q => absurd (show 6 ≤ s.1 1 from q) (by omega), fun _ _ => ⟨c0, hR _ _ h2⟩⟩⟩
    | 4, _ => exact ⟨h3, fun _ => ⟨⟨⟨by omega, by omega⟩, ⟨by omega, by omega⟩⟩, fun q => absurd (show 6 ≤ s.1 1 from q) (by omega), fun _ _ => ⟨c0, hR _ _ h2⟩⟩⟩
    | 5, _ => exact ⟨h3, fun _ => ⟨⟨⟨by omega, by omega⟩, ⟨by omega, by omega⟩⟩, fun q => absurd (show 6 ≤ s.1 1 from q) (by omega), fun _ _ => ⟨c0, hR _ _ h2⟩⟩⟩
    | j + 6, hj => exact absurd hj (by omega)
  · rw [if_neg c] at h2
    have c0 : (-2147483648 : Int) ≤ s.1 0 + 1 ∧ s.1 0 + 1 ≤ 2147483647 := ⟨by omega, by omega⟩
    have c6 : ((6 : Int) ≠ 0 ∧ xB (s.1 0 + 1) ∧ xB 6) := ⟨by omega, c0, ⟨by omega, by omega⟩⟩
    match j, hj with
    | 0, _ => exact ⟨h3, fun _ => ⟨⟨⟨by omega, by omega⟩, ⟨by omega, by omega⟩⟩, fun _ _ => ⟨c6, hB, hR _ _ h2⟩, fun q => absurd (show s.1 1 < 6 from q) (by omega)⟩⟩
    | 1, _ => exact ⟨h3, fun _ => ⟨⟨⟨by omega, by omega⟩, ⟨by omega, by omega⟩⟩, fun _ _ => ⟨c6, hB, hR _ _ h2⟩, fun q => absurd (show s.1 1 < 6 from q) (by omega)⟩⟩
    | 2, _ => exact ⟨h3, fun _ => ⟨⟨⟨by omega, by omega⟩, ⟨by omega, by omega⟩⟩, fun _ _ => ⟨c6, hB, hR _ _ h2⟩, fun q => absurd (show s.1 1 < 6 from q) (by omega)⟩⟩
    | 3, _ => exact ⟨h3, fun _ => ⟨⟨⟨by omega, by omega⟩, ⟨by omega, by omega⟩⟩, fun _ _ => ⟨c6, hB, hR _ _ h2⟩, fun q => absurd (show s.1 1 < 6 from q) (by omega)⟩⟩
    | 4, _ => exact ⟨h3, fun _ => ⟨⟨⟨by omega, by omega⟩, ⟨by omega, by omega⟩⟩, fun _ _ => ⟨c6, hB, hR _ _ h2⟩, fun q => absurd (show s.1 1 < 6 from q) (by omega)⟩⟩
    | 5, _ => exact ⟨h3, fun _ => ⟨⟨⟨by omega, by omega⟩, ⟨by omega, by omega⟩⟩, fun _ _ => ⟨c6, hB, hR _ _ h2⟩, fun q => absurd (show s.1 1 < 6 from q) (by omega)⟩⟩
    | j + 6, hj => exact absurd hj (by omega)
def cL_X2_remember : Sp LSt := atR 0 (a0 sX2_remember)
theorem qL_X2_remember {M : XI} {rc rs pc pc2 : Nat} (d : xl_Ca M pc mX2_remember pc2) : cOk encL bdL M rc rs pc pc2 1 cL_X2_remember := cSame mX2_remember_ok vX2_remember d lcl rfl lenL recL
