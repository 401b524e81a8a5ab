/-! ===== LateSessions: its face, first half ===== -/
abbrev lok (s : LSt) : Prop := uok s ∧ (0 ≤ s.1 3 ∧ s.1 3 ≤ 6) ∧ (0 ≤ s.1 4 ∧ s.1 4 ≤ 80) ∧ ∀ q, q < 10 → wok (s.2.2 q)
theorem lRem_0 {s : LSt} : (lRem s).2.2 0 = s.2.2 0 := by
  unfold lRem
  dsimp only
  split
  · exact setW_ne (by omega)
  · exact setW_ne (by omega)
theorem lRem_1 {s : LSt} : (lRem s).2.2 1 = s.2.2 1 := by
  unfold lRem
  dsimp only
  split
  · exact setW_ne (by omega)
  · exact setW_ne (by omega)
-- X2_sign: heads [16]
def tX2_sign : Nat → Blk LSt := fun pc => bif Nat.blt pc 16 then (bif Nat.blt pc 13 then (bif Nat.beq pc 0 then (oAld 0 <| oGet (fgL) 2 10 <| oI 4 <| oAdd <| oI 80 <| oCLe 13 <| oI (-1) <| oIret) else oNo) else (bif Nat.beq pc 13 then (oI 24 <| oIst 2 <| oM [true, true, true] (oTo 16)) else oNo)) else (bif Nat.blt pc 37 then (bif Nat.beq pc 16 then (oIld 2 <| oZLt 37 <| oAld 0 <| oIld 1 <| oIld 2 <| oUshr <| oI 255 <| oAnd <| oC2 (cL_X2_putSign) <| oInc 2 (-8) <| oM [true, true, true] (oTo 16)) else oNo) else (bif Nat.beq pc 37 then (oAld 0 <| oGet (fgL) 2 10 <| oIret) else oNo))
theorem tX2_sign_ok : ∀ pc, bOk (encL) (bdL) mX2_sign 0 0 pc (tX2_sign pc) := fun pc => (tNode (tNode (tLeaf (okAldn iX2_sign_0 rfl <| okGet (vFgL) iX2_sign_1 <| okIc iX2_sign_4 <| okAdd iX2_sign_5 <| okBi iX2_sign_6 (by decide) <| okCLe (tl rfl) iX2_sign_8 <| okIc iX2_sign_11 <| okIret iX2_sign_12 rfl)) (tLeaf (okBi iX2_sign_13 (by decide) <| okIstn iX2_sign_15 rfl (by decide) <| okM (okTo (tl rfl))))) (tNode (tLeaf (okIldn iX2_sign_16 rfl <| okZLt (tl rfl) iX2_sign_17 <| okAldn iX2_sign_20 rfl <| okIldn iX2_sign_21 rfl <| okIldn iX2_sign_22 rfl <| okUshr iX2_sign_23 <| okSi iX2_sign_24 (by decide) <| okAnd iX2_sign_27 <| okC2 (qL_X2_putSign iX2_sign_28) <| okInc iX2_sign_31 (by decide) <| okGotoM (tl rfl) iX2_sign_34)) (tLeaf (okAldn iX2_sign_37 rfl <| okGet (vFgL) iX2_sign_38 <| okIret iX2_sign_41 rfl)))) pc
-- X2_end: heads []
def tX2_end : Nat → Blk LSt := fun pc => bif Nat.blt pc 12 then (bif Nat.beq pc 0 then (oIld 1 <| oZLt 12 <| oIld 1 <| oAld 0 <| oGet (fgL) 2 10 <| oCLe 14 <| oTo 12) else oNo) else (bif Nat.blt pc 14 then (bif Nat.beq pc 12 then (oI 0 <| oZret) else oNo) else (bif Nat.beq pc 14 then (oAld 0 <| oIld 1 <| oPut (fpL) 2 10 <| oI 1 <| oZret) else oNo))
theorem tX2_end_ok : ∀ pc, bOk (encL) (bdL) mX2_end 0 0 pc (tX2_end pc) := fun pc => (tNode (tLeaf (okIldn iX2_end_0 rfl <| okZLt (tl rfl) iX2_end_1 <| okIldn iX2_end_4 rfl <| okAldn iX2_end_5 rfl <| okGet (vFgL) iX2_end_6 <| okCLe (tl rfl) iX2_end_9 <| okTo (tl rfl))) (tNode (tLeaf (okIc iX2_end_12 <| okZret iX2_end_13 rfl)) (tLeaf (okAldn iX2_end_14 rfl <| okIldn iX2_end_15 rfl <| okPut (vFpL) iX2_end_16 <| okIc iX2_end_19 <| okZret iX2_end_20 rfl)))) pc
-- X2_start: heads []
def tX2_start : Nat → Blk LSt := fun pc => bif Nat.blt pc 20 then (bif Nat.beq pc 0 then (oIld 1 <| oI 1 <| oCLt 20 <| oIld 1 <| oI 4 <| oCGt 20 <| oIld 2 <| oIld 3 <| oIld 4 <| oC3 (cL_X2_areSettings) <| oZNe 22 <| oTo 20) else oNo) else (bif Nat.blt pc 22 then (bif Nat.beq pc 20 then (oI (-1) <| oIret) else oNo) else (bif Nat.beq pc 22 then (oAld 0 <| oC1 (cL_X2_remember) <| oAld 0 <| oGet (fgL) 2 0 <| oIld 1 <| oIld 2 <| oIld 3 <| oIld 4 <| oC5 (cL_X1_reset) <| oIld 1 <| oIret) else oNo))
theorem tX2_start_ok : ∀ pc, bOk (encL) (bdL) mX2_start 0 0 pc (tX2_start pc) := fun pc => (tNode (tLeaf (okIldn iX2_start_0 rfl <| okIc iX2_start_1 <| okCLt (tl rfl) iX2_start_2 <| okIldn iX2_start_5 rfl <| okIc iX2_start_6 <| okCGt (tl rfl) iX2_start_7 <| okIldn iX2_start_10 rfl <| okIldn iX2_start_11 rfl <| okIld iX2_start_12 <| okC3 (qL_X2_areSettings iX2_start_14) <| okZNe (tl rfl) iX2_start_17 <| okTo (tl rfl))) (tNode (tLeaf (okIc iX2_start_20 <| okIret iX2_start_21 rfl)) (tLeaf (okAldn iX2_start_22 rfl <| okC1 (qL_X2_remember iX2_start_23) <| okAldn iX2_start_26 rfl <| okGet (vFgL) iX2_start_27 <| okIldn iX2_start_30 rfl <| okIldn iX2_start_31 rfl <| okIldn iX2_start_32 rfl <| okIld iX2_start_33 <| okC5 (qL_X1_reset iX2_start_35) <| okIldn iX2_start_38 rfl <| okIret iX2_start_39 rfl)))) pc
-- X2_delays: heads []
def tX2_delays : Nat → Blk LSt := fun pc => bif Nat.blt pc 21 then (bif Nat.blt pc 19 then (bif Nat.beq pc 0 then (oAld 0 <| oIld 1 <| oC2 (cL_X2_isSource) <| oZEq 19 <| oIld 2 <| oZLt 19 <| oIld 2 <| oI 999 <| oCLe 21 <| oTo 19) else oNo) else (bif Nat.beq pc 19 then (oI (-1) <| oIret) else oNo)) else (bif Nat.blt pc 42 then (bif Nat.beq pc 21 then (oAld 0 <| oGet (fgL) 2 0 <| oGet (fgL) 1 10 <| oIld 1 <| oI 1 <| oC3 (cL_X0_get) <| oIst 3 <| oIld 3 <| oIld 2 <| oCNe 42 <| oI (-2) <| oIret) else oNo) else (bif Nat.blt pc 58 then (bif Nat.beq pc 42 then (oAld 0 <| oGet (fgL) 2 0 <| oGet (fgL) 1 14 <| oGet (fgL) 0 3 <| oZLe 58 <| oI (-3) <| oIret) else oNo) else (bif Nat.beq pc 58 then (oAld 0 <| oC1 (cL_X2_remember) <| oAld 0 <| oGet (fgL) 2 0 <| oGet (fgL) 1 10 <| oIld 1 <| oI 1 <| oIld 2 <| oC4 (cL_X0_set) <| oIld 3 <| oIret) else oNo)))
theorem tX2_delays_ok : ∀ pc, bOk (encL) (bdL) mX2_delays 0 0 pc (tX2_delays pc) := fun pc => (tNode (tNode (tLeaf (okAldn iX2_delays_0 rfl <| okIldn iX2_delays_1 rfl <| okC2 (qL_X2_isSource iX2_delays_2) <| okZEq (tl rfl) iX2_delays_5 <| okIldn iX2_delays_8 rfl <| okZLt (tl rfl) iX2_delays_9 <| okIldn iX2_delays_12 rfl <| okSi iX2_delays_13 (by decide) <| okCLe (tl rfl) iX2_delays_16 <| okTo (tl rfl))) (tLeaf (okIc iX2_delays_19 <| okIret iX2_delays_20 rfl))) (tNode (tLeaf (okAldn iX2_delays_21 rfl <| okGet (vFgL) iX2_delays_22 <| okGet (vFgL) iX2_delays_25 <| okIldn iX2_delays_28 rfl <| okIc iX2_delays_29 <| okC3 (qL_X0_get iX2_delays_30) <| okIstn iX2_delays_33 rfl (by decide) <| okIldn iX2_delays_34 rfl <| okIldn iX2_delays_35 rfl <| okCNe (tl rfl) iX2_delays_36 <| okBi iX2_delays_39 (by decide) <| okIret iX2_delays_41 rfl)) (tNode (tLeaf (okAldn iX2_delays_42 rfl <| okGet (vFgL) iX2_delays_43 <| okGet (vFgL) iX2_delays_46 <| okGet (vFgL) iX2_delays_49 <| okZLe (tl rfl) iX2_delays_52 <| okBi iX2_delays_55 (by decide) <| okIret iX2_delays_57 rfl)) (tLeaf (okAldn iX2_delays_58 rfl <| okC1 (qL_X2_remember iX2_delays_59) <| okAldn iX2_delays_62 rfl <| okGet (vFgL) iX2_delays_63 <| okGet (vFgL) iX2_delays_66 <| okIldn iX2_delays_69 rfl <| okIc iX2_delays_70 <| okIldn iX2_delays_71 rfl <| okC4 (qL_X0_set iX2_delays_72) <| okIldn iX2_delays_75 rfl <| okIret iX2_delays_76 rfl))))) pc
-- X2_event: heads []
def tX2_event : Nat → Blk LSt := fun pc => bif Nat.blt pc 19 then (bif Nat.beq pc 0 then (oAld 0 <| oIld 1 <| oIld 2 <| oIld 3 <| oIld 4 <| oC5 (cL_X2_eventRefusal) <| oIst 5 <| oIld 5 <| oZGe 19 <| oIld 5 <| oIret) else oNo) else (bif Nat.beq pc 19 then (oAld 0 <| oC1 (cL_X2_remember) <| oAld 0 <| oGet (fgL) 2 0 <| oGet (fgL) 1 4 <| oIst 6 <| oAld 0 <| oGet (fgL) 2 0 <| oIld 1 <| oIld 2 <| oIld 3 <| oIld 4 <| oC5 (cL_X1_comeEvent) <| oIst 7 <| oAld 0 <| oAld 0 <| oGet (fgL) 2 0 <| oGet (fgL) 1 4 <| oIld 6 <| oSubW <| oI2l <| oAld 0 <| oGet (fgL) 2 0 <| oGet (fgL) 1 3 <| oI2l <| oC3 (cL_X2_tellTwo) <| oIld 7 <| oIret) else oNo)
theorem tX2_event_ok : ∀ pc, bOk (encL) (bdL) mX2_event 0 0 pc (tX2_event pc) := fun pc => (tNode (tLeaf (okAldn iX2_event_0 rfl <| okIldn iX2_event_1 rfl <| okIldn iX2_event_2 rfl <| okIldn iX2_event_3 rfl <| okIld iX2_event_4 <| okC5 (qL_X2_eventRefusal iX2_event_6) <| okIst iX2_event_9 (by decide) <| okIld iX2_event_11 <| okZGe (tl rfl) iX2_event_13 <| okIld iX2_event_16 <| okIret iX2_event_18 rfl)) (tLeaf (okAldn iX2_event_19 rfl <| okC1 (qL_X2_remember iX2_event_20) <| okAldn iX2_event_23 rfl <| okGet (vFgL) iX2_event_24 <| okGet (vFgL) iX2_event_27 <| okIst iX2_event_30 (by decide) <| okAldn iX2_event_32 rfl <| okGet (vFgL) iX2_event_33 <| okIldn iX2_event_36 rfl <| okIldn iX2_event_37 rfl <| okIldn iX2_event_38 rfl <| okIld iX2_event_39 <| okC5 (qL_X1_comeEvent iX2_event_41) <| okIst iX2_event_44 (by decide) <| okAldn iX2_event_46 rfl <| okAldn iX2_event_47 rfl <| okGet (vFgL) iX2_event_48 <| okGet (vFgL) iX2_event_51 <| okIld iX2_event_54 <| okSubW iX2_event_56 <| okI2l iX2_event_57 <| okAldn iX2_event_58 rfl <| okGet (vFgL) iX2_event_59 <| okGet (vFgL) iX2_event_62 <| okI2l iX2_event_65 <| okC3 (qL_X2_tellTwo iX2_event_66) <| okIld iX2_event_69 <| okIret iX2_event_71 rfl))) pc
-- X2_marks: heads []
def tX2_marks : Nat → Blk LSt := fun pc => bif Nat.blt pc 13 then (bif Nat.beq pc 0 then (oAld 0 <| oIld 1 <| oIld 2 <| oC3 (cL_X2_markRefusal) <| oIst 3 <| oIld 3 <| oZGe 13 <| oIld 3 <| oIret) else oNo) else (bif Nat.beq pc 13 then (oAld 0 <| oC1 (cL_X2_remember) <| oAld 0 <| oGet (fgL) 2 0 <| oGet (fgL) 1 4 <| oIst 4 <| oAld 0 <| oGet (fgL) 2 0 <| oIld 1 <| oIld 2 <| oC3 (cL_X1_comeMark) <| oAld 0 <| oAld 0 <| oGet (fgL) 2 0 <| oGet (fgL) 1 3 <| oI2l <| oC2 (cL_X2_tellOne) <| oAld 0 <| oGet (fgL) 2 0 <| oGet (fgL) 1 4 <| oIld 4 <| oSubW <| oIret) else oNo)
theorem tX2_marks_ok : ∀ pc, bOk (encL) (bdL) mX2_marks 0 0 pc (tX2_marks pc) := fun pc => (tNode (tLeaf (okAldn iX2_marks_0 rfl <| okIldn iX2_marks_1 rfl <| okIldn iX2_marks_2 rfl <| okC3 (qL_X2_markRefusal iX2_marks_3) <| okIstn iX2_marks_6 rfl (by decide) <| okIldn iX2_marks_7 rfl <| okZGe (tl rfl) iX2_marks_8 <| okIldn iX2_marks_11 rfl <| okIret iX2_marks_12 rfl)) (tLeaf (okAldn iX2_marks_13 rfl <| okC1 (qL_X2_remember iX2_marks_14) <| okAldn iX2_marks_17 rfl <| okGet (vFgL) iX2_marks_18 <| okGet (vFgL) iX2_marks_21 <| okIst iX2_marks_24 (by decide) <| okAldn iX2_marks_26 rfl <| okGet (vFgL) iX2_marks_27 <| okIldn iX2_marks_30 rfl <| okIldn iX2_marks_31 rfl <| okC3 (qL_X1_comeMark iX2_marks_32) <| okAldn iX2_marks_35 rfl <| okAldn iX2_marks_36 rfl <| okGet (vFgL) iX2_marks_37 <| okGet (vFgL) iX2_marks_40 <| okI2l iX2_marks_43 <| okC2 (qL_X2_tellOne iX2_marks_44) <| okAldn iX2_marks_47 rfl <| okGet (vFgL) iX2_marks_48 <| okGet (vFgL) iX2_marks_51 <| okIld iX2_marks_54 <| okSubW iX2_marks_56 <| okIret iX2_marks_57 rfl))) pc
-- X2_idles: heads []
def tX2_idles : Nat → Blk LSt := fun pc => bif Nat.blt pc 12 then (bif Nat.beq pc 0 then (oAld 0 <| oIld 1 <| oC2 (cL_X2_idleRefusal) <| oIst 2 <| oIld 2 <| oZGe 12 <| oIld 2 <| oIret) else oNo) else (bif Nat.beq pc 12 then (oAld 0 <| oC1 (cL_X2_remember) <| oAld 0 <| oGet (fgL) 2 0 <| oGet (fgL) 1 4 <| oIst 3 <| oAld 0 <| oGet (fgL) 2 0 <| oIld 1 <| oC2 (cL_X1_comeIdle) <| oAld 0 <| oAld 0 <| oGet (fgL) 2 0 <| oGet (fgL) 1 3 <| oI2l <| oC2 (cL_X2_tellOne) <| oAld 0 <| oGet (fgL) 2 0 <| oGet (fgL) 1 4 <| oIld 3 <| oSubW <| oIret) else oNo)
theorem tX2_idles_ok : ∀ pc, bOk (encL) (bdL) mX2_idles 0 0 pc (tX2_idles pc) := fun pc => (tNode (tLeaf (okAldn iX2_idles_0 rfl <| okIldn iX2_idles_1 rfl <| okC2 (qL_X2_idleRefusal iX2_idles_2) <| okIstn iX2_idles_5 rfl (by decide) <| okIldn iX2_idles_6 rfl <| okZGe (tl rfl) iX2_idles_7 <| okIldn iX2_idles_10 rfl <| okIret iX2_idles_11 rfl)) (tLeaf (okAldn iX2_idles_12 rfl <| okC1 (qL_X2_remember iX2_idles_13) <| okAldn iX2_idles_16 rfl <| okGet (vFgL) iX2_idles_17 <| okGet (vFgL) iX2_idles_20 <| okIstn iX2_idles_23 rfl (by decide) <| okAldn iX2_idles_24 rfl <| okGet (vFgL) iX2_idles_25 <| okIldn iX2_idles_28 rfl <| okC2 (qL_X1_comeIdle iX2_idles_29) <| okAldn iX2_idles_32 rfl <| okAldn iX2_idles_33 rfl <| okGet (vFgL) iX2_idles_34 <| okGet (vFgL) iX2_idles_37 <| okI2l iX2_idles_40 <| okC2 (qL_X2_tellOne iX2_idles_41) <| okAldn iX2_idles_44 rfl <| okGet (vFgL) iX2_idles_45 <| okGet (vFgL) iX2_idles_48 <| okIldn iX2_idles_51 rfl <| okSubW iX2_idles_52 <| okIret iX2_idles_53 rfl))) pc
def by8 (v k : Int) : Int := (iI (ush v k) &&& iI 255).toInt
def fSign (s : LSt) (v : Int) : Int × LSt := if 80 < s.1 4 + 4 then (-1, s) else ((lPutS (lPutS (lPutS (lPutS s (by8 v 24)) (by8 v 16)) (by8 v 8)) (by8 v 0)).1 4, lPutS (lPutS (lPutS (lPutS s (by8 v 24)) (by8 v 16)) (by8 v 8)) (by8 v 0))
theorem lPutS_t {s : LSt} {c : Int} (h : s.1 4 < 80) : (lPutS s c).1 4 = s.1 4 + 1 := by
  unfold lPutS
  rw [if_pos h]
  rfl
def sX2_sign : Int → LSt → KL → Prop := fun v s K => (xB v ∧ lok s) ∧ K [pI (fSign s v).1] (fSign s v).2
theorem X2_sign_it {K : KL} {Pt : LSt → Prop} (v k : Int) (hv : xB v) (hk : 0 ≤ k ∧ k ≤ 24) (s : LSt) (h0 : 0 ≤ s.1 4) (g : wX encL bdL mX2_sign 0 0 K Pt 16 [some (pR 0), some (pI v), some (pI (k + -8))] [] (lPutS s (by8 v k))) : wX encL bdL mX2_sign 0 0 K Pt 16 [some (pR 0), some (pI v), some (pI k)] [] s := by
  refine wx_J [16] 9 tX2_sign_ok rfl (fun J hR hJ => ?_)
  exact ⟨⟨by omega, by omega⟩, fun c => absurd c (by omega), fun c => ⟨⟨xb_of _, h0⟩, hJ _ _ _ _ g⟩⟩
theorem mX2_sign_ok : mOk encL bdL mX2_sign (atR 0 (a1 sX2_sign)) := by
  refine mOVa1 kX2_sign (fun _ => rfl) (fun v s K h hb => wx_J [16] 9 tX2_sign_ok rfl (fun J hR hJ => ?_))
  obtain ⟨⟨h1, h2⟩, hK⟩ := h
  unfold fSign at hK
  have hl := h2.2.2.1
  by_cases c : 80 < s.1 4 + 4
  · rw [if_pos c] at hK
    repeat' (first | (refine And.intro ?_ ?_) | intro _)
    all_goals first | omega | exact hR _ _ hK
  · rw [if_neg c] at hK
    have t1 := lPutS_t (s := s) (c := by8 v 24) (by omega)
    have t2 := lPutS_t (s := lPutS s (by8 v 24)) (c := by8 v 16) (by omega)
    have t3 := lPutS_t (s := lPutS (lPutS s (by8 v 24)) (by8 v 16)) (c := by8 v 8) (by omega)
    have g5 : wX encL bdL mX2_sign 0 0 K (fun _ => False) 16 [some (pR 0), some (pI v), some (pI (0 + -8))] [] (lPutS (lPutS (lPutS (lPutS s (by8 v 24)) (by8 v 16)) (by8 v 8)) (by8 v 0)) := by
      refine wx_J [16] 9 tX2_sign_ok rfl (fun J hR hJ => ?_)
      repeat' (first | (refine And.intro ?_ ?_) | intro _)
      all_goals first | omega | exact hR _ _ hK
    have g4 := X2_sign_it v 0 h1 (by omega) _ (by omega) g5
    have g3 := X2_sign_it v 8 h1 (by omega) _ (by omega) g4
    have g2 := X2_sign_it v 16 h1 (by omega) _ (by omega) g3
    have g1 := X2_sign_it v 24 h1 (by omega) s (by omega) g2
    repeat' (first | (refine And.intro ?_ ?_) | intro _)
    all_goals first | omega | exact hJ _ _ _ _ g1
def fEnd (s : LSt) (n : Int) : Int × LSt := if 0 ≤ n ∧ n ≤ s.1 4 then (1, setS s 4 n) else (0, s)
def sX2_end : Int → LSt → KL → Prop := fun n s K => xB n ∧ K [pI (fEnd s n).1] (fEnd s n).2
theorem mX2_end_ok : mOk encL bdL mX2_end (atR 0 (a1 sX2_end)) := by
  refine mOVa1 kX2_end (fun _ => rfl) (fun n s K h hb => wx_J [] 9 tX2_end_ok rfl (fun J hR hJ => ?_))
  obtain ⟨h1, hK⟩ := h
  unfold fEnd at hK
  by_cases c : 0 ≤ n ∧ n ≤ s.1 4
  · rw [if_pos c] at hK
    repeat' (first | (refine And.intro ?_ ?_) | intro _)
    all_goals first | omega | exact hR _ _ hK
  · rw [if_neg c] at hK
    repeat' (first | (refine And.intro ?_ ?_) | intro _)
    all_goals first | omega | exact hR _ _ hK
def fStart (s : LSt) (n g l e : Int) : Int × LSt := if (1 ≤ n ∧ n ≤ 4) ∧ okSet g l e then (n, setW (lRem s) 0 (wReset ((lRem s).2.2 0) n g l e)) else (-1, s)
def sX2_start : Int → Int → Int → Int → LSt → KL → Prop := fun n g l e s K => (xB n ∧ xB g ∧ xB l ∧ xB e ∧ lok s) ∧ K [pI (fStart s n g l e).1] (fStart s n g l e).2
theorem mX2_start_ok : mOk encL bdL mX2_start (atR 0 (a4 sX2_start)) := by
  refine mOVa4 kX2_start (fun _ _ _ _ => rfl) (fun n g l e s K h hb => wx_J [] 9 tX2_start_ok rfl (fun J hR hJ => ?_))
  obtain ⟨⟨h1, h2, h3, h4, h5⟩, hK⟩ := h
  have hw := h5.2.2.2 0 (by decide)
  have hu := h5.1
  unfold fStart at hK
  by_cases c : (1 ≤ n ∧ n ≤ 4) ∧ okSet g l e
  · rw [if_pos c] at hK
    repeat' (first | (refine And.intro ?_ ?_) | intro _)
    all_goals first | omega | exact (hw _ (by assumption)).1 | exact (hw _ (by assumption)).2 | exact hR _ _ hK
  · rw [if_neg c] at hK
    repeat' (first | (refine And.intro ?_ ?_) | intro _)
    all_goals first | omega | exact (hw _ (by assumption)).1 | exact (hw _ (by assumption)).2 | exact hR _ _ hK
def fDelays (s : LSt) (r v : Int) : Int × LSt := if lSrc s r ∧ 0 ≤ v ∧ v ≤ 999 then (if wG (s.2.2 0) 0 r 1 = v then (-2, s) else if 0 < wZ (s.2.2 0) 4 then (-3, s) else (wG (s.2.2 0) 0 r 1, setW (lRem s) 0 (wP ((lRem s).2.2 0) 0 r 1 v))) else (-1, s)
def sX2_delays : Int → Int → LSt → KL → Prop := fun r v s K => (xB r ∧ xB v ∧ lok s) ∧ K [pI (fDelays s r v).1] (fDelays s r v).2
theorem mX2_delays_ok : mOk encL bdL mX2_delays (atR 0 (a2 sX2_delays)) := by
  refine mOVa2 kX2_delays (fun _ _ => rfl) (fun r v s K h hb => wx_J [] 9 tX2_delays_ok rfl (fun J hR hJ => ?_))
  obtain ⟨⟨h1, h2, h5⟩, hK⟩ := h
  have hw := h5.2.2.2 0 (by decide)
  have hu := h5.1
  have hz : xB (wZ (s.2.2 0) 4) := ((hb.2.2 0).2 4).1
  unfold fDelays at hK
  by_cases c : lSrc s r ∧ 0 ≤ v ∧ v ≤ 999
  · rw [if_pos c] at hK
    by_cases c2 : wG (s.2.2 0) 0 r 1 = v
    · rw [if_pos c2] at hK
      repeat' (first | (refine And.intro ?_ ?_) | intro _)
      all_goals first | omega | exact (hw _ (by assumption)).1 | exact (hw _ (by assumption)).2 | exact hR _ _ hK | (exact absurd c.1 ‹_›) | (exact absurd c2 ‹_›)
    · rw [if_neg c2] at hK
      by_cases c3 : 0 < wZ (s.2.2 0) 4
      · rw [if_pos c3] at hK
        repeat' (first | (refine And.intro ?_ ?_) | intro _)
        all_goals first | omega | exact (hw _ (by assumption)).1 | exact (hw _ (by assumption)).2 | exact hR _ _ hK | (exact absurd c.1 ‹_›) | (have c4 : wZ (s.2.2 0) 4 ≤ 0 := ‹_›; omega)
      · rw [if_neg c3] at hK
        repeat' (first | (refine And.intro ?_ ?_) | intro _)
        all_goals first | omega | exact (hw _ (by assumption)).1 | exact (hw _ (by assumption)).2 | exact hR _ _ hK | (exact absurd c.1 ‹_›) | (exact absurd ‹_› c3)
  · rw [if_neg c] at hK
    repeat' (first | (refine And.intro ?_ ?_) | intro _)
    all_goals first | omega | exact (hw _ (by assumption)).1 | exact (hw _ (by assumption)).2 | exact hR _ _ hK
/-- an input that comes: what is told, what it is then -/
def fEvent (s : LSt) (k t v r : Int) : Int × LSt := if lEvR s k t v r < 0 then (lEvR s k t v r, s) else
  let w := (lRem s).2.2 0
  let w2 := wComeE w k t v r
  (wFate (wNote w 0 r t) t, lTell2 (setW (lRem s) 0 w2) (wI (w2.1 4 - w.1 4)) (w2.1 3))
def sX2_event : Int → Int → Int → Int → LSt → KL → Prop := fun k t v r s K => (xB k ∧ xB t ∧ xB v ∧ xB r ∧ lok s) ∧ K [pI (fEvent s k t v r).1] (fEvent s k t v r).2
theorem mX2_event_ok : mOk encL bdL mX2_event (atR 0 (a4 sX2_event)) := by
  refine mOVa4 kX2_event (fun _ _ _ _ => rfl) (fun k t v r s K h hb => wx_J [] 9 tX2_event_ok rfl (fun J hR hJ => ?_))
  obtain ⟨⟨h1, h2, h3, h4, h5⟩, hK⟩ := h
  have hw := h5.2.2.2 0 (by decide)
  have hw2 : wok ((lRem s).2.2 0) := by rw [lRem_0]; exact hw
  have hu := h5.1
  unfold fEvent at hK
  by_cases c : lEvR s k t v r < 0
  · rw [if_pos c] at hK
    repeat' (first | (refine And.intro ?_ ?_) | intro _)
    all_goals first | omega | exact (hw _ (by assumption)).1 | exact (hw _ (by assumption)).2 | exact (hw2 _ (by assumption)).1 | exact (hw2 _ (by assumption)).2 | exact hR _ _ hK
  · rw [if_neg c] at hK
    repeat' (first | (refine And.intro ?_ ?_) | intro _)
    all_goals first | omega | exact (hw _ (by assumption)).1 | exact (hw _ (by assumption)).2 | exact (hw2 _ (by assumption)).1 | exact (hw2 _ (by assumption)).2 | exact hR _ _ hK
def fMarks (s : LSt) (r t : Int) : Int × LSt := if lMkR s r t < 0 then (lMkR s r t, s) else
  let w := (lRem s).2.2 0
  let w2 := wComeM w r t
  (wI (w2.1 4 - w.1 4), lTell1 (setW (lRem s) 0 w2) (w2.1 3))
theorem lTell1_w {s : LSt} {x : Int} : (lTell1 s x).2.2 = s.2.2 := by
  unfold lTell1 lTell
  split <;> rfl
theorem lTell2_w {s : LSt} {x y : Int} : (lTell2 s x y).2.2 = s.2.2 := by
  unfold lTell2 lTell
  split
  · exact lTell1_w (s := s) (x := x)
  · exact lTell1_w (s := s) (x := x)
theorem lTell3_w {s : LSt} {x y z : Int} : (lTell3 s x y z).2.2 = s.2.2 := by
  unfold lTell3 lTell
  split
  · exact lTell2_w (s := s) (x := x) (y := y)
  · exact lTell2_w (s := s) (x := x) (y := y)
def sX2_marks : Int → Int → LSt → KL → Prop := fun r t s K => (xB r ∧ xB t ∧ lok s) ∧ K [pI (fMarks s r t).1] (fMarks s r t).2
theorem mX2_marks_ok : mOk encL bdL mX2_marks (atR 0 (a2 sX2_marks)) := by
  refine mOVa2 kX2_marks (fun _ _ => rfl) (fun r t s K h hb => wx_J [] 9 tX2_marks_ok rfl (fun J hR hJ => ?_))
  obtain ⟨⟨h1, h2, h5⟩, hK⟩ := h
  have hw := h5.2.2.2 0 (by decide)
  have hw2 : wok ((lRem s).2.2 0) := by rw [lRem_0]; exact hw
  have hu := h5.1
  unfold fMarks at hK
  by_cases c : lMkR s r t < 0
  · rw [if_pos c] at hK
    repeat' (first | (refine And.intro ?_ ?_) | intro _)
    all_goals first | omega | exact (hw _ (by assumption)).1 | exact (hw _ (by assumption)).2 | exact (hw2 _ (by assumption)).1 | exact (hw2 _ (by assumption)).2 | exact hR _ _ hK
  · rw [if_neg c] at hK
    repeat' (first | (refine And.intro ?_ ?_) | intro _)
    all_goals first | omega | exact (hw _ (by assumption)).1 | exact (hw _ (by assumption)).2 | exact (hw2 _ (by assumption)).1 | exact (hw2 _ (by assumption)).2 | exact hR _ _ hK
def fIdles (s : LSt) (r : Int) : Int × LSt := if lIdR s r < 0 then (lIdR s r, s) else
  let w := (lRem s).2.2 0
  let w2 := wComeI w r
  (wI (w2.1 4 - w.1 4), lTell1 (setW (lRem s) 0 w2) (w2.1 3))
def sX2_idles : Int → LSt → KL → Prop := fun r s K => (xB r ∧ lok s) ∧ K [pI (fIdles s r).1] (fIdles s r).2
theorem mX2_idles_ok : mOk encL bdL mX2_idles (atR 0 (a1 sX2_idles)) := by
  refine mOVa1 kX2_idles (fun _ => rfl) (fun r s K h hb => wx_J [] 9 tX2_idles_ok rfl (fun J hR hJ => ?_))
  obtain ⟨⟨h1, h5⟩, hK⟩ := h
  have hw := h5.2.2.2 0 (by decide)
  have hw2 : wok ((lRem s).2.2 0) := by rw [lRem_0]; exact hw
  have hu := h5.1
  unfold fIdles at hK
  by_cases c : lIdR s r < 0
  · rw [if_pos c] at hK
    repeat' (first | (refine And.intro ?_ ?_) | intro _)
    all_goals first | omega | exact (hw _ (by assumption)).1 | exact (hw _ (by assumption)).2 | exact (hw2 _ (by assumption)).1 | exact (hw2 _ (by assumption)).2 | exact hR _ _ hK
  · rw [if_neg c] at hK
    repeat' (first | (refine And.intro ?_ ?_) | intro _)
    all_goals first | omega | exact (hw _ (by assumption)).1 | exact (hw _ (by assumption)).2 | exact (hw2 _ (by assumption)).1 | exact (hw2 _ (by assumption)).2 | exact hR _ _ hK
