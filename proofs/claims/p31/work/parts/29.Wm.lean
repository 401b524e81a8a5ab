/-! ===== World: small changes ===== -/
-- X1_takeBack: heads []
def tX1_takeBack : Nat → Blk WS := fun pc => bif Nat.blt pc 25 then (bif Nat.beq pc 0 then (oAld 0 <| oIld 1 <| oC2 (cW_X1_hasResult) <| oZEq 25 <| oAld 0 <| oI 3 <| oIld 1 <| oC3 (cW_X1_send) <| oAld 0 <| oGet (fgW) 1 11 <| oIld 1 <| oI 6 <| oI (-1) <| oC4 (cW_X0_set) <| oTo 25) else oNo) else (bif Nat.beq pc 25 then (oVret) else oNo)
theorem tX1_takeBack_ok : ∀ pc, bOk (encW) (bdW) mX1_takeBack 0 0 pc (tX1_takeBack pc) := fun pc => (tNode (tLeaf (okAldn iX1_takeBack_0 rfl <| okIldn iX1_takeBack_1 rfl <| okC2 (qW_X1_hasResult iX1_takeBack_2) <| okZEq (tl rfl) iX1_takeBack_5 <| okAldn iX1_takeBack_8 rfl <| okIc iX1_takeBack_9 <| okIldn iX1_takeBack_10 rfl <| okC3 (qW_X1_send iX1_takeBack_11) <| okAldn iX1_takeBack_14 rfl <| okGet (vFgW) iX1_takeBack_15 <| okIldn iX1_takeBack_18 rfl <| okBi iX1_takeBack_19 (by decide) <| okIc iX1_takeBack_21 <| okC4 (qW_X0_set iX1_takeBack_22) <| okTo (tl rfl))) (tLeaf (okVret iX1_takeBack_25 rfl))) pc
-- X1_announce: heads []
def tX1_announce : Nat → Blk WS := fun pc => bif Nat.beq pc 0 then (oAld 0 <| oIld 1 <| oIld 2 <| oC3 (cW_X1_send) <| oAld 0 <| oGet (fgW) 1 11 <| oIld 2 <| oI 6 <| oIld 1 <| oC4 (cW_X0_set) <| oVret) else oNo
theorem tX1_announce_ok : ∀ pc, bOk (encW) (bdW) mX1_announce 0 0 pc (tX1_announce pc) := fun pc => (tLeaf (okAldn iX1_announce_0 rfl <| okIldn iX1_announce_1 rfl <| okIldn iX1_announce_2 rfl <| okC3 (qW_X1_send iX1_announce_3) <| okAldn iX1_announce_6 rfl <| okGet (vFgW) iX1_announce_7 <| okIldn iX1_announce_10 rfl <| okBi iX1_announce_11 (by decide) <| okIldn iX1_announce_13 rfl <| okC4 (qW_X0_set iX1_announce_14) <| okVret iX1_announce_17 rfl)) pc
-- X1_kindOfNew: heads []
def tX1_kindOfNew : Nat → Blk WS := fun pc => bif Nat.blt pc 43 then (bif Nat.blt pc 14 then (bif Nat.beq pc 0 then (oAld 0 <| oIld 1 <| oAld 0 <| oGet (fgW) 1 3 <| oC3 (cW_X1_isRipe) <| oZEq 14 <| oI 2 <| oIret) else oNo) else (bif Nat.blt pc 42 then (bif Nat.beq pc 14 then (oAld 0 <| oGet (fgW) 1 2 <| oZLe 42 <| oAld 0 <| oGet (fgW) 1 11 <| oIld 1 <| oI 3 <| oC3 (cW_X0_get) <| oAld 0 <| oGet (fgW) 1 2 <| oRemT <| oZNe 42 <| oI 1 <| oTo 43) else oNo) else (bif Nat.beq pc 42 then (oI 0 <| oTo 43) else oNo))) else (bif Nat.blt pc 52 then (bif Nat.beq pc 43 then (oIst 2 <| oIld 2 <| oZEq 52 <| oI 0 <| oTo 53) else oNo) else (bif Nat.blt pc 53 then (bif Nat.beq pc 52 then (oI (-1) <| oTo 53) else oNo) else (bif Nat.beq pc 53 then (oIret) else oNo)))
theorem tX1_kindOfNew_ok : ∀ pc, bOk (encW) (bdW) mX1_kindOfNew 0 0 pc (tX1_kindOfNew pc) := fun pc => (tNode (tNode (tLeaf (okAldn iX1_kindOfNew_0 rfl <| okIldn iX1_kindOfNew_1 rfl <| okAldn iX1_kindOfNew_2 rfl <| okGet (vFgW) iX1_kindOfNew_3 <| okC3 (qW_X1_isRipe iX1_kindOfNew_6) <| okZEq (tl rfl) iX1_kindOfNew_9 <| okIc iX1_kindOfNew_12 <| okIret iX1_kindOfNew_13 rfl)) (tNode (tLeaf (okAldn iX1_kindOfNew_14 rfl <| okGet (vFgW) iX1_kindOfNew_15 <| okZLe (tl rfl) iX1_kindOfNew_18 <| okAldn iX1_kindOfNew_21 rfl <| okGet (vFgW) iX1_kindOfNew_22 <| okIldn iX1_kindOfNew_25 rfl <| okIc iX1_kindOfNew_26 <| okC3 (qW_X0_get iX1_kindOfNew_27) <| okAldn iX1_kindOfNew_30 rfl <| okGet (vFgW) iX1_kindOfNew_31 <| okRemT iX1_kindOfNew_34 <| okZNe (tl rfl) iX1_kindOfNew_35 <| okIc iX1_kindOfNew_38 <| okGoto (tl rfl) iX1_kindOfNew_39)) (tLeaf (okIc iX1_kindOfNew_42 <| okTo (tl rfl))))) (tNode (tLeaf (okIstn iX1_kindOfNew_43 rfl (by decide) <| okIldn iX1_kindOfNew_44 rfl <| okZEq (tl rfl) iX1_kindOfNew_45 <| okIc iX1_kindOfNew_48 <| okGoto (tl rfl) iX1_kindOfNew_49)) (tNode (tLeaf (okIc iX1_kindOfNew_52 <| okTo (tl rfl))) (tLeaf (okIret iX1_kindOfNew_53 rfl))))) pc
-- X1_swallowNext: heads []
def tX1_swallowNext : Nat → Blk WS := fun pc => bif Nat.beq pc 0 then (oIld 1 <| oI 1 <| oAddW <| oIst 2 <| oAld 0 <| oGet (fgW) 1 11 <| oIld 1 <| oI 1 <| oAld 0 <| oGet (fgW) 1 11 <| oIld 1 <| oI 1 <| oC3 (cW_X0_get) <| oAld 0 <| oGet (fgW) 1 11 <| oIld 2 <| oI 1 <| oC3 (cW_X0_get) <| oMin <| oC4 (cW_X0_set) <| oAld 0 <| oGet (fgW) 1 11 <| oIld 1 <| oI 2 <| oAld 0 <| oGet (fgW) 1 11 <| oIld 1 <| oI 2 <| oC3 (cW_X0_get) <| oAld 0 <| oGet (fgW) 1 11 <| oIld 2 <| oI 2 <| oC3 (cW_X0_get) <| oMax <| oC4 (cW_X0_set) <| oAld 0 <| oGet (fgW) 1 11 <| oIld 1 <| oI 3 <| oAld 0 <| oGet (fgW) 1 11 <| oIld 2 <| oI 3 <| oC3 (cW_X0_get) <| oC4 (cW_X0_add) <| oAld 0 <| oGet (fgW) 1 11 <| oIld 1 <| oI 4 <| oAld 0 <| oGet (fgW) 1 11 <| oIld 2 <| oI 4 <| oC3 (cW_X0_get) <| oC4 (cW_X0_add) <| oAld 0 <| oGet (fgW) 1 11 <| oIld 1 <| oI 5 <| oAld 0 <| oGet (fgW) 1 11 <| oIld 1 <| oI 5 <| oC3 (cW_X0_get) <| oAld 0 <| oGet (fgW) 1 11 <| oIld 2 <| oI 5 <| oC3 (cW_X0_get) <| oMax <| oC4 (cW_X0_set) <| oAld 0 <| oGet (fgW) 1 11 <| oIld 2 <| oC2 (cW_X0_drop) <| oVret) else oNo
theorem tX1_swallowNext_ok : ∀ pc, bOk (encW) (bdW) mX1_swallowNext 0 0 pc (tX1_swallowNext pc) := fun pc => (tLeaf (okIldn iX1_swallowNext_0 rfl <| okIc iX1_swallowNext_1 <| okAddW iX1_swallowNext_2 <| okIstn iX1_swallowNext_3 rfl (by decide) <| okAldn iX1_swallowNext_4 rfl <| okGet (vFgW) iX1_swallowNext_5 <| okIldn iX1_swallowNext_8 rfl <| okIc iX1_swallowNext_9 <| okAldn iX1_swallowNext_10 rfl <| okGet (vFgW) iX1_swallowNext_11 <| okIldn iX1_swallowNext_14 rfl <| okIc iX1_swallowNext_15 <| okC3 (qW_X0_get iX1_swallowNext_16) <| okAldn iX1_swallowNext_19 rfl <| okGet (vFgW) iX1_swallowNext_20 <| okIldn iX1_swallowNext_23 rfl <| okIc iX1_swallowNext_24 <| okC3 (qW_X0_get iX1_swallowNext_25) <| okMin iX1_swallowNext_28 <| okC4 (qW_X0_set iX1_swallowNext_31) <| okAldn iX1_swallowNext_34 rfl <| okGet (vFgW) iX1_swallowNext_35 <| okIldn iX1_swallowNext_38 rfl <| okIc iX1_swallowNext_39 <| okAldn iX1_swallowNext_40 rfl <| okGet (vFgW) iX1_swallowNext_41 <| okIldn iX1_swallowNext_44 rfl <| okIc iX1_swallowNext_45 <| okC3 (qW_X0_get iX1_swallowNext_46) <| okAldn iX1_swallowNext_49 rfl <| okGet (vFgW) iX1_swallowNext_50 <| okIldn iX1_swallowNext_53 rfl <| okIc iX1_swallowNext_54 <| okC3 (qW_X0_get iX1_swallowNext_55) <| okMax iX1_swallowNext_58 <| okC4 (qW_X0_set iX1_swallowNext_61) <| okAldn iX1_swallowNext_64 rfl <| okGet (vFgW) iX1_swallowNext_65 <| okIldn iX1_swallowNext_68 rfl <| okIc iX1_swallowNext_69 <| okAldn iX1_swallowNext_70 rfl <| okGet (vFgW) iX1_swallowNext_71 <| okIldn iX1_swallowNext_74 rfl <| okIc iX1_swallowNext_75 <| okC3 (qW_X0_get iX1_swallowNext_76) <| okC4 (qW_X0_add iX1_swallowNext_79) <| okAldn iX1_swallowNext_82 rfl <| okGet (vFgW) iX1_swallowNext_83 <| okIldn iX1_swallowNext_86 rfl <| okIc iX1_swallowNext_87 <| okAldn iX1_swallowNext_88 rfl <| okGet (vFgW) iX1_swallowNext_89 <| okIldn iX1_swallowNext_92 rfl <| okIc iX1_swallowNext_93 <| okC3 (qW_X0_get iX1_swallowNext_94) <| okC4 (qW_X0_add iX1_swallowNext_97) <| okAldn iX1_swallowNext_100 rfl <| okGet (vFgW) iX1_swallowNext_101 <| okIldn iX1_swallowNext_104 rfl <| okIc iX1_swallowNext_105 <| okAldn iX1_swallowNext_106 rfl <| okGet (vFgW) iX1_swallowNext_107 <| okIldn iX1_swallowNext_110 rfl <| okIc iX1_swallowNext_111 <| okC3 (qW_X0_get iX1_swallowNext_112) <| okAldn iX1_swallowNext_115 rfl <| okGet (vFgW) iX1_swallowNext_116 <| okIldn iX1_swallowNext_119 rfl <| okIc iX1_swallowNext_120 <| okC3 (qW_X0_get iX1_swallowNext_121) <| okMax iX1_swallowNext_124 <| okC4 (qW_X0_set iX1_swallowNext_127) <| okAldn iX1_swallowNext_130 rfl <| okGet (vFgW) iX1_swallowNext_131 <| okIldn iX1_swallowNext_134 rfl <| okC2 (qW_X0_drop iX1_swallowNext_135) <| okVret iX1_swallowNext_138 rfl)) pc
-- X1_raiseMark: heads []
def tX1_raiseMark : Nat → Blk WS := fun pc => bif Nat.blt pc 23 then (bif Nat.beq pc 0 then (oIld 2 <| oAld 0 <| oGet (fgW) 1 10 <| oIld 1 <| oI 0 <| oC3 (cW_X0_get) <| oCLe 23 <| oAld 0 <| oGet (fgW) 1 10 <| oIld 1 <| oI 0 <| oIld 2 <| oC4 (cW_X0_set) <| oTo 23) else oNo) else (bif Nat.beq pc 23 then (oVret) else oNo)
theorem tX1_raiseMark_ok : ∀ pc, bOk (encW) (bdW) mX1_raiseMark 0 0 pc (tX1_raiseMark pc) := fun pc => (tNode (tLeaf (okIldn iX1_raiseMark_0 rfl <| okAldn iX1_raiseMark_1 rfl <| okGet (vFgW) iX1_raiseMark_2 <| okIldn iX1_raiseMark_5 rfl <| okIc iX1_raiseMark_6 <| okC3 (qW_X0_get iX1_raiseMark_7) <| okCLe (tl rfl) iX1_raiseMark_10 <| okAldn iX1_raiseMark_13 rfl <| okGet (vFgW) iX1_raiseMark_14 <| okIldn iX1_raiseMark_17 rfl <| okIc iX1_raiseMark_18 <| okIldn iX1_raiseMark_19 rfl <| okC4 (qW_X0_set iX1_raiseMark_20) <| okTo (tl rfl))) (tLeaf (okVret iX1_raiseMark_23 rfl))) pc
-- X1_note: heads []
def tX1_note : Nat → Blk WS := fun pc => bif Nat.blt pc 76 then (bif Nat.beq pc 0 then (oAld 0 <| oGet (fgW) 1 14 <| oGet (fgW) 0 3 <| oIst 4 <| oAld 0 <| oGet (fgW) 1 14 <| oIld 4 <| oC2 (cW_X0_open) <| oZEq 76 <| oAld 0 <| oGet (fgW) 1 14 <| oIld 4 <| oI 0 <| oIld 1 <| oC4 (cW_X0_set) <| oAld 0 <| oGet (fgW) 1 14 <| oIld 4 <| oI 1 <| oIld 2 <| oC4 (cW_X0_set) <| oAld 0 <| oGet (fgW) 1 14 <| oIld 4 <| oI 2 <| oIld 3 <| oC4 (cW_X0_set) <| oAld 0 <| oGet (fgW) 1 14 <| oIld 4 <| oI 3 <| oI (-1) <| oC4 (cW_X0_set) <| oAld 0 <| oGet (fgW) 1 14 <| oIld 4 <| oI 5 <| oI (-1) <| oC4 (cW_X0_set) <| oTo 76) else oNo) else (bif Nat.beq pc 76 then (oVret) else oNo)
theorem tX1_note_ok : ∀ pc, bOk (encW) (bdW) mX1_note 0 0 pc (tX1_note pc) := fun pc => (tNode (tLeaf (okAldn iX1_note_0 rfl <| okGet (vFgW) iX1_note_1 <| okGet (vFgW) iX1_note_4 <| okIst iX1_note_7 (by decide) <| okAldn iX1_note_9 rfl <| okGet (vFgW) iX1_note_10 <| okIld iX1_note_13 <| okC2 (qW_X0_open iX1_note_15) <| okZEq (tl rfl) iX1_note_18 <| okAldn iX1_note_21 rfl <| okGet (vFgW) iX1_note_22 <| okIld iX1_note_25 <| okIc iX1_note_27 <| okIldn iX1_note_28 rfl <| okC4 (qW_X0_set iX1_note_29) <| okAldn iX1_note_32 rfl <| okGet (vFgW) iX1_note_33 <| okIld iX1_note_36 <| okIc iX1_note_38 <| okIldn iX1_note_39 rfl <| okC4 (qW_X0_set iX1_note_40) <| okAldn iX1_note_43 rfl <| okGet (vFgW) iX1_note_44 <| okIld iX1_note_47 <| okIc iX1_note_49 <| okIldn iX1_note_50 rfl <| okC4 (qW_X0_set iX1_note_51) <| okAldn iX1_note_54 rfl <| okGet (vFgW) iX1_note_55 <| okIld iX1_note_58 <| okIc iX1_note_60 <| okIc iX1_note_61 <| okC4 (qW_X0_set iX1_note_62) <| okAldn iX1_note_65 rfl <| okGet (vFgW) iX1_note_66 <| okIld iX1_note_69 <| okIc iX1_note_71 <| okIc iX1_note_72 <| okC4 (qW_X0_set iX1_note_73) <| okTo (tl rfl))) (tLeaf (okVret iX1_note_76 rfl))) pc
def wTake (w : WS) (i : Int) : WS := if wHas w i then wP (wSend w 3 i) 1 i 6 (-1) else w
def sX1_takeBack : Int → WS → KW → Prop := fun i s K => xB i ∧ K [] (wTake s i)
theorem mX1_takeBack_ok : mOk encW bdW mX1_takeBack (atR 0 (a1 sX1_takeBack)) := by
  refine mOVa1 kX1_takeBack (fun _ => rfl) (fun i s K h hb => wx_J [] 9 tX1_takeBack_ok rfl (fun J hR hJ => ?_))
  obtain ⟨h1, hK⟩ := h
  unfold wTake at hK
  by_cases c : wHas s i
  · rw [if_pos c] at hK
    repeat' (first | (refine And.intro ?_ ?_) | intro _)
    all_goals first | omega | exact hR _ _ hK | contradiction
  · rw [if_neg c] at hK
    repeat' (first | (refine And.intro ?_ ?_) | intro _)
    all_goals first | omega | exact hR _ _ hK | contradiction
def cW_X1_takeBack : Sp WS := atR 0 (a1 sX1_takeBack)
theorem qW_X1_takeBack {M : XI} {rc rs pc pc2 : Nat} (d : xl_Ca M pc mX1_takeBack pc2) : cOk encW bdW M rc rs pc pc2 2 cW_X1_takeBack := cSame mX1_takeBack_ok vX1_takeBack d wcl rfl lenW recW
def wAnn (w : WS) (k i : Int) : WS := wP (wSend w k i) 1 i 6 k
def sX1_announce : Int → Int → WS → KW → Prop := fun k i s K => (xB k ∧ xB i) ∧ K [] (wAnn s k i)
theorem mX1_announce_ok : mOk encW bdW mX1_announce (atR 0 (a2 sX1_announce)) := by
  refine mOVa2 kX1_announce (fun _ _ => rfl) (fun k i s K h hb => wx_J [] 9 tX1_announce_ok rfl (fun J hR hJ => ?_))
  obtain ⟨h1, hK⟩ := h
  repeat' (first | (refine And.intro ?_ ?_) | intro _)
  all_goals first | omega | exact hR _ _ hK
def cW_X1_announce : Sp WS := atR 0 (a2 sX1_announce)
theorem qW_X1_announce {M : XI} {rc rs pc pc2 : Nat} (d : xl_Ca M pc mX1_announce pc2) : cOk encW bdW M rc rs pc pc2 3 cW_X1_announce := cSame mX1_announce_ok vX1_announce d wcl rfl lenW recW
def wKind (w : WS) (i : Int) : Int := if wRipe w i (w.1 3) then 2 else if 0 < w.1 2 ∧ Int.tmod (wG w 1 i 3) (w.1 2) = 0 then 0 else -1
def sX1_kindOfNew : Int → WS → KW → Prop := fun i s K => xB i ∧ (xB (wKind s i) → K [pI (wKind s i)] s)
theorem wKind_b (w : WS) (i : Int) : -1 ≤ wKind w i ∧ wKind w i ≤ 2 := by
  unfold wKind
  split
  · omega
  · split <;> omega
theorem mX1_kindOfNew_ok : mOk encW bdW mX1_kindOfNew (atR 0 (a1 sX1_kindOfNew)) := by
  refine mOVa1 kX1_kindOfNew (fun _ => rfl) (fun i s K h hb => wx_J [] 9 tX1_kindOfNew_ok rfl (fun J hR hJ => ?_))
  obtain ⟨h1, h2⟩ := h
  have hw := wKind_b s i
  have hK := h2 ⟨by omega, by omega⟩
  unfold wKind at hK
  have hB := wG_B (t := 1) (i := i) (c := 3) hb
  have hE := hb.1 2
  have hm : 0 < s.1 2 → xB (Int.tmod (wG s 1 i 3) (s.1 2)) := fun c => tmod_B hB c hE.2
  by_cases c : wRipe s i (s.1 3)
  · rw [if_pos c] at hK
    repeat' (first | (refine And.intro ?_ ?_) | intro _)
    all_goals first | omega | exact hR _ _ hK | contradiction
  · rw [if_neg c] at hK
    by_cases c2 : 0 < s.1 2
    · have hm := hm c2
      by_cases c3 : Int.tmod (wG s 1 i 3) (s.1 2) = 0
      · rw [if_pos ⟨c2, c3⟩] at hK
        repeat' (first | (refine And.intro ?_ ?_) | intro _)
        all_goals first | omega | exact hR _ _ hK | contradiction
      · rw [if_neg (fun z => c3 z.2)] at hK
        repeat' (first | (refine And.intro ?_ ?_) | intro _)
        all_goals first | omega | exact hR _ _ hK | contradiction
    · rw [if_neg (fun z => c2 z.1)] at hK
      repeat' (first | (refine And.intro ?_ ?_) | intro _)
      all_goals first | omega | exact hR _ _ hK | contradiction
def cW_X1_kindOfNew : Sp WS := atR 0 (a1 sX1_kindOfNew)
theorem qW_X1_kindOfNew {M : XI} {rc rs pc pc2 : Nat} (d : xl_Ca M pc mX1_kindOfNew pc2) : cOk encW bdW M rc rs pc pc2 2 cW_X1_kindOfNew := cSame mX1_kindOfNew_ok vX1_kindOfNew d wcl rfl lenW recW
def wSwallow (w : WS) (i : Int) : WS :=
  let j := wI (i + 1)
  let w1 := wP w 1 i 1 (min (wG w 1 i 1) (wG w 1 j 1))
  let w2 := wP w1 1 i 2 (max (wG w1 1 i 2) (wG w1 1 j 2))
  let w3 := wA w2 1 i 3 (wG w2 1 j 3)
  let w4 := wA w3 1 i 4 (wG w3 1 j 4)
  let w5 := wP w4 1 i 5 (max (wG w4 1 i 5) (wG w4 1 j 5))
  wDr w5 1 j
def sX1_swallowNext : Int → WS → KW → Prop := fun i s K => (xB i ∧ wZ s 1 ≤ 161) ∧ K [] (wSwallow s i)
theorem mX1_swallowNext_ok : mOk encW bdW mX1_swallowNext (atR 0 (a1 sX1_swallowNext)) := by
  refine mOVa1 kX1_swallowNext (fun _ => rfl) (fun i s K h hb => wx_J [] 9 tX1_swallowNext_ok rfl (fun J hR hJ => ?_))
  obtain ⟨⟨h1, h2⟩, hK⟩ := h
  repeat' (first | (refine And.intro ?_ ?_) | intro _)
  all_goals first | omega | exact h2 | exact hR _ _ hK
def cW_X1_swallowNext : Sp WS := atR 0 (a1 sX1_swallowNext)
theorem qW_X1_swallowNext {M : XI} {rc rs pc pc2 : Nat} (d : xl_Ca M pc mX1_swallowNext pc2) : cOk encW bdW M rc rs pc pc2 2 cW_X1_swallowNext := cSame mX1_swallowNext_ok vX1_swallowNext d wcl rfl lenW recW
def wRaise (w : WS) (r t : Int) : WS := if wG w 0 r 0 < t then wP w 0 r 0 t else w
def sX1_raiseMark : Int → Int → WS → KW → Prop := fun r t s K => (xB r ∧ xB t) ∧ K [] (wRaise s r t)
theorem mX1_raiseMark_ok : mOk encW bdW mX1_raiseMark (atR 0 (a2 sX1_raiseMark)) := by
  refine mOVa2 kX1_raiseMark (fun _ _ => rfl) (fun r t s K h hb => wx_J [] 9 tX1_raiseMark_ok rfl (fun J hR hJ => ?_))
  obtain ⟨h1, hK⟩ := h
  unfold wRaise at hK
  by_cases c : wG s 0 r 0 < t
  · rw [if_pos c] at hK
    repeat' (first | (refine And.intro ?_ ?_) | intro _)
    all_goals first | omega | exact hR _ _ hK
  · rw [if_neg c] at hK
    repeat' (first | (refine And.intro ?_ ?_) | intro _)
    all_goals first | omega | exact hR _ _ hK
def cW_X1_raiseMark : Sp WS := atR 0 (a2 sX1_raiseMark)
theorem qW_X1_raiseMark {M : XI} {rc rs pc pc2 : Nat} (d : xl_Ca M pc mX1_raiseMark pc2) : cOk encW bdW M rc rs pc pc2 3 cW_X1_raiseMark := cSame mX1_raiseMark_ok vX1_raiseMark d wcl rfl lenW recW
def wNote (w : WS) (a r t : Int) : WS := if 0 ≤ wZ w 4 ∧ wZ w 4 < 160 then wP (wP (wP (wP (wP (wOp w 4 (wZ w 4)) 4 (wZ w 4) 0 a) 4 (wZ w 4) 1 r) 4 (wZ w 4) 2 t) 4 (wZ w 4) 3 (-1)) 4 (wZ w 4) 5 (-1) else w
def sX1_note : Int → Int → Int → WS → KW → Prop := fun a r t s K => (xB a ∧ xB r ∧ xB t) ∧ K [] (wNote s a r t)
theorem mX1_note_ok : mOk encW bdW mX1_note (atR 0 (a3 sX1_note)) := by
  refine mOVa3 kX1_note (fun _ _ _ => rfl) (fun a r t s K h hb => wx_J [] 9 tX1_note_ok rfl (fun J hR hJ => ?_))
  obtain ⟨h1, hK⟩ := h
  have hz : xB (wZ s 4) := (hb.2 4).1
  have er : rmT 4 = 160 := rfl
  unfold wNote at hK
  by_cases c : 0 ≤ wZ s 4 ∧ wZ s 4 < 160
  · rw [if_pos c] at hK
    intro _
    refine ⟨hz, fun c2 => ?_, fun c2 => absurd ⟨c.1, Int.le_refl _, c.2⟩ c2⟩
    repeat' (first | (refine And.intro ?_ ?_) | intro _)
    all_goals first | omega | exact hR _ _ hK
  · rw [if_neg c] at hK
    intro _
    refine ⟨hz, fun c2 => absurd ⟨c2.1, c2.2.2⟩ c, fun c2 => ?_⟩
    repeat' (first | (refine And.intro ?_ ?_) | intro _)
    all_goals first | omega | exact hR _ _ hK
def cW_X1_note : Sp WS := atR 0 (a3 sX1_note)
theorem qW_X1_note {M : XI} {rc rs pc pc2 : Nat} (d : xl_Ca M pc mX1_note pc2) : cOk encW bdW M rc rs pc pc2 4 cW_X1_note := cSame mX1_note_ok vX1_note d wcl rfl lenW recW
