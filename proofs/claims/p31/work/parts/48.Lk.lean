/-! ===== LateSessions: batch, parts, years ===== -/
-- X2_batch: heads [35]
def tX2_batch : Nat → Blk LSt := fun pc => bif Nat.blt pc 93 then (bif Nat.blt pc 35 then (bif Nat.blt pc 9 then (bif Nat.beq pc 0 then (oIld 1 <| oC1 (cL_X2_isKey) <| oZNe 9 <| oI (-1) <| oIret) else oNo) else (bif Nat.beq pc 9 then (oAld 0 <| oIld 1 <| oC2 (cL_X2_sortTaken) <| oIst 2 <| oI 0 <| oIst 3 <| oI (-1) <| oIst 4 <| oI (-1) <| oIst 5 <| oI (-1) <| oIst 6 <| oI 0 <| oIst 7 <| oI 0 <| oIst 8 <| oI 0 <| oIst 9 <| oM [true, false, true, true, true, true, true, true, true, true, false] (oTo 35)) else oNo)) else (bif Nat.blt pc 73 then (bif Nat.beq pc 35 then (oIld 9 <| oIld 2 <| oCGe 152 <| oInc 7 1 <| oIld 8 <| oAld 0 <| oIld 9 <| oI 4 <| oC3 (cL_X2_sortedCell) <| oAddW <| oIst 8 <| oIld 9 <| oI 1 <| oAdd <| oIld 2 <| oCGe 73 <| oAld 0 <| oIld 9 <| oC2 (cL_X2_holeBehind) <| oTo 76) else oNo) else (bif Nat.blt pc 76 then (bif Nat.beq pc 73 then (oI 20000 <| oTo 76) else oNo) else (bif Nat.beq pc 76 then (oIst 10 <| oIld 10 <| oAld 0 <| oGet (fgL) 2 0 <| oGet (fgL) 1 0 <| oCGt 93 <| oTo 146) else oNo)))) else (bif Nat.blt pc 137 then (bif Nat.blt pc 102 then (bif Nat.beq pc 93 then (oIld 3 <| oZNe 102 <| oIld 8 <| oTo 109) else oNo) else (bif Nat.blt pc 109 then (bif Nat.beq pc 102 then (oIld 5 <| oIld 8 <| oMax <| oTo 109) else oNo) else (bif Nat.beq pc 109 then (oIst 5 <| oIld 4 <| oIld 7 <| oMax <| oIst 4 <| oIld 9 <| oI 1 <| oAdd <| oIld 2 <| oCGe 137 <| oIld 6 <| oIld 10 <| oMax <| oIst 6 <| oTo 137) else oNo))) else (bif Nat.blt pc 146 then (bif Nat.beq pc 137 then (oInc 3 1 <| oI 0 <| oIst 7 <| oI 0 <| oIst 8 <| oTo 146) else oNo) else (bif Nat.blt pc 152 then (bif Nat.beq pc 146 then (oInc 9 1 <| oM [true, false, true, true, true, true, true, true, true, true, false] (oTo 35)) else oNo) else (bif Nat.beq pc 152 then (oAld 0 <| oIld 4 <| oI2l <| oIld 5 <| oI2l <| oIld 6 <| oI2l <| oC4 (cL_X2_tellThree) <| oIld 3 <| oIret) else oNo))))
theorem tX2_batch_ok : ∀ pc, bOk (encL) (bdL) mX2_batch 0 0 pc (tX2_batch pc) := fun pc => (tNode (tNode (tNode (tLeaf (okIldn iX2_batch_0 rfl <| okC1 (qL_X2_isKey iX2_batch_1) <| okZNe (tl rfl) iX2_batch_4 <| okIc iX2_batch_7 <| okIret iX2_batch_8 rfl)) (tLeaf (okAldn iX2_batch_9 rfl <| okIldn iX2_batch_10 rfl <| okC2 (qL_X2_sortTaken iX2_batch_11) <| okIstn iX2_batch_14 rfl (by decide) <| okIc iX2_batch_15 <| okIstn iX2_batch_16 rfl (by decide) <| okIc iX2_batch_17 <| okIst iX2_batch_18 (by decide) <| okIc iX2_batch_20 <| okIst iX2_batch_21 (by decide) <| okIc iX2_batch_23 <| okIst iX2_batch_24 (by decide) <| okIc iX2_batch_26 <| okIst iX2_batch_27 (by decide) <| okIc iX2_batch_29 <| okIst iX2_batch_30 (by decide) <| okIc iX2_batch_32 <| okIst iX2_batch_33 (by decide) <| okM (okTo (tl rfl))))) (tNode (tLeaf (okIld iX2_batch_35 <| okIldn iX2_batch_37 rfl <| okCGe (tl rfl) iX2_batch_38 <| okInc iX2_batch_41 (by decide) <| okIld iX2_batch_44 <| okAldn iX2_batch_46 rfl <| okIld iX2_batch_47 <| okIc iX2_batch_49 <| okC3 (qL_X2_sortedCell iX2_batch_50) <| okAddW iX2_batch_53 <| okIst iX2_batch_54 (by decide) <| okIld iX2_batch_56 <| okIc iX2_batch_58 <| okAdd iX2_batch_59 <| okIldn iX2_batch_60 rfl <| okCGe (tl rfl) iX2_batch_61 <| okAldn iX2_batch_64 rfl <| okIld iX2_batch_65 <| okC2 (qL_X2_holeBehind iX2_batch_67) <| okGoto (tl rfl) iX2_batch_70)) (tNode (tLeaf (okSi iX2_batch_73 (by decide) <| okTo (tl rfl))) (tLeaf (okIst iX2_batch_76 (by decide) <| okIld iX2_batch_78 <| okAldn iX2_batch_80 rfl <| okGet (vFgL) iX2_batch_81 <| okGet (vFgL) iX2_batch_84 <| okCGt (tl rfl) iX2_batch_87 <| okGoto (tl rfl) iX2_batch_90))))) (tNode (tNode (tLeaf (okIldn iX2_batch_93 rfl <| okZNe (tl rfl) iX2_batch_94 <| okIld iX2_batch_97 <| okGoto (tl rfl) iX2_batch_99)) (tNode (tLeaf (okIld iX2_batch_102 <| okIld iX2_batch_104 <| okMax iX2_batch_106 <| okTo (tl rfl))) (tLeaf (okIst iX2_batch_109 (by decide) <| okIld iX2_batch_111 <| okIld iX2_batch_113 <| okMax iX2_batch_115 <| okIst iX2_batch_118 (by decide) <| okIld iX2_batch_120 <| okIc iX2_batch_122 <| okAdd iX2_batch_123 <| okIldn iX2_batch_124 rfl <| okCGe (tl rfl) iX2_batch_125 <| okIld iX2_batch_128 <| okIld iX2_batch_130 <| okMax iX2_batch_132 <| okIst iX2_batch_135 (by decide) <| okTo (tl rfl))))) (tNode (tLeaf (okInc iX2_batch_137 (by decide) <| okIc iX2_batch_140 <| okIst iX2_batch_141 (by decide) <| okIc iX2_batch_143 <| okIst iX2_batch_144 (by decide) <| okTo (tl rfl))) (tNode (tLeaf (okInc iX2_batch_146 (by decide) <| okGotoM (tl rfl) iX2_batch_149)) (tLeaf (okAldn iX2_batch_152 rfl <| okIld iX2_batch_153 <| okI2l iX2_batch_155 <| okIld iX2_batch_156 <| okI2l iX2_batch_158 <| okIld iX2_batch_159 <| okI2l iX2_batch_161 <| okC4 (qL_X2_tellThree iX2_batch_162) <| okIldn iX2_batch_165 rfl <| okIret iX2_batch_166 rfl)))))) pc
abbrev BT : Type := Int × Int × Int × Int
def baL (s : LSt) (n : Int) : Nat → Int → Int → Int → Int → Int → Int → Int → BT
  | 0, _, fa, mc, ms, wd, _, _ => (fa, mc, ms, wd)
  | m + 1, k, fa, mc, ms, wd, c, u =>
    if (if k + 1 < n then lHole s k else 20000) ≤ (s.2.2 0).1 0 then baL s n m (k + 1) fa mc ms wd (c + 1) (wI (u + lCell s k 4))
    else baL s n m (k + 1) (fa + 1) (max mc (c + 1)) (if fa = 0 then wI (u + lCell s k 4) else max ms (wI (u + lCell s k 4))) (if k + 1 < n then max wd (lHole s k) else wd) 0 0
def fBat2 (s : LSt) (p : BT) : Int × LSt := (p.1, lTell3 s p.2.1 p.2.2.1 p.2.2.2)
def fBatch (s : LSt) (k : Int) : Int × LSt := if 0 ≤ k ∧ k < 6 then
  let s1 := (lSort s k).2
  fBat2 s1 (baL s1 ((lSort s k).1 : Int) (lSort s k).1 0 0 (-1) (-1) (-1) 0 0) else (-1, s)
theorem X2_batch_l {K : KL} {Pt : LSt → Prop} (s : LSt) (n : Int) (hn : 0 ≤ n ∧ n ≤ 160) : ∀ (m : Nat) (k fa mc ms wd c u : Int), 0 ≤ k → k ≤ n → m = (n - k).toNat → 0 ≤ c → c ≤ k → 0 ≤ fa → fa ≤ k → xB mc → xB ms → xB wd → xB u → K [pI (fBat2 s (baL s n m k fa mc ms wd c u)).1] (fBat2 s (baL s n m k fa mc ms wd c u)).2 → wX encL bdL mX2_batch 0 0 K Pt 35 [some (pR 0), none, some (pI n), some (pI fa), some (pI mc), some (pI ms), some (pI wd), some (pI c), some (pI u), some (pI k), none] [] s := by
  intro m
  induction m with
  | zero =>
    intro k fa mc ms wd c u h0 h1 hm hc hc2 hf hf2 hmc hms hwd hu hK
    refine wx_J [35] 9 tX2_batch_ok rfl (fun J hR hJ => ?_)
    repeat' (first | (refine And.intro ?_ ?_) | intro _)
    all_goals first | omega | exact hR _ _ hK
  | succ m ih =>
    intro k fa mc ms wd c u h0 h1 hm hc hc2 hf hf2 hmc hms hwd hu hK
    refine wx_J [35] 9 tX2_batch_ok rfl (fun J hR hJ => ?_)
    rw [baL] at hK
    have hU := wI_B (u + lCell s k 4)
    have hM := max_B hmc (b := c + 1) ⟨by omega, by omega⟩
    have hS := max_B hms hU
    have hH : xB (lHole s k) := wI_B _
    have hW := max_B hwd hH
    have h20 := max_B hwd (b := 20000) ⟨by omega, by omega⟩
    by_cases q : k + 1 < n
    · rw [if_pos q, if_pos q] at hK
      by_cases q2 : lHole s k ≤ (s.2.2 0).1 0
      · rw [if_pos q2] at hK
        have g := ih (k + 1) _ _ _ _ _ _ (by omega) (by omega) (by omega) (by omega) (by omega) (by omega) (by omega) hmc hms hwd hU hK
        repeat' (first | (refine And.intro ?_ ?_) | (intro hq; first | (exact absurd hq (by omega)) | skip))
        all_goals first | omega | exact hJ _ _ _ _ g
      · rw [if_neg q2] at hK
        by_cases q3 : fa = 0
        · rw [if_pos q3] at hK
          have g := ih (k + 1) _ _ _ _ _ _ (by omega) (by omega) (by omega) (by omega) (by omega) (by omega) (by omega) hM hU hW ⟨by omega, by omega⟩ hK
          repeat' (first | (refine And.intro ?_ ?_) | (intro hq; first | (exact absurd hq (by omega)) | skip))
          all_goals first | omega | exact hJ _ _ _ _ g
        · rw [if_neg q3] at hK
          have g := ih (k + 1) _ _ _ _ _ _ (by omega) (by omega) (by omega) (by omega) (by omega) (by omega) (by omega) hM hS hW ⟨by omega, by omega⟩ hK
          repeat' (first | (refine And.intro ?_ ?_) | (intro hq; first | (exact absurd hq (by omega)) | skip))
          all_goals first | omega | exact hJ _ _ _ _ g
    · rw [if_neg q, if_neg q] at hK
      by_cases q2 : 20000 ≤ (s.2.2 0).1 0
      · rw [if_pos q2] at hK
        have g := ih (k + 1) _ _ _ _ _ _ (by omega) (by omega) (by omega) (by omega) (by omega) (by omega) (by omega) hmc hms hwd hU hK
        repeat' (first | (refine And.intro ?_ ?_) | (intro hq; first | (exact absurd hq (by omega)) | skip))
        all_goals first | omega | exact hJ _ _ _ _ g
      · rw [if_neg q2] at hK
        by_cases q3 : fa = 0
        · rw [if_pos q3] at hK
          have g := ih (k + 1) _ _ _ _ _ _ (by omega) (by omega) (by omega) (by omega) (by omega) (by omega) (by omega) hM hU hwd ⟨by omega, by omega⟩ hK
          repeat' (first | (refine And.intro ?_ ?_) | (intro hq; first | (exact absurd hq (by omega)) | skip))
          all_goals first | omega | exact hJ _ _ _ _ g
        · rw [if_neg q3] at hK
          have g := ih (k + 1) _ _ _ _ _ _ (by omega) (by omega) (by omega) (by omega) (by omega) (by omega) (by omega) hM hS hwd ⟨by omega, by omega⟩ hK
          repeat' (first | (refine And.intro ?_ ?_) | (intro hq; first | (exact absurd hq (by omega)) | skip))
          all_goals first | omega | exact hJ _ _ _ _ g
def sX2_batch : Int → LSt → KL → Prop := fun k s K => (xB k ∧ lok s) ∧ K [pI (fBatch s k).1] (fBatch s k).2
theorem mX2_batch_ok : mOk encL bdL mX2_batch (atR 0 (a1 sX2_batch)) := by
  refine mOVa1 kX2_batch (fun _ => rfl) (fun k s K h hb => wx_J [35] 9 tX2_batch_ok rfl (fun J hR hJ => ?_))
  obtain ⟨⟨h1, h5⟩, hK⟩ := h
  have hw := h5.2.2.2 0 (by decide)
  unfold fBatch at hK
  refine ⟨h1, fun c => ?_, fun c => ?_⟩
  · rw [if_pos c] at hK
    refine ⟨⟨by omega, by omega⟩, fun _ => ⟨⟨h1, hw⟩, fun n0 n1 => ?_⟩, fun q => absurd q (by omega)⟩
    exact hJ _ _ _ _ (X2_batch_l (lSort s k).2 ((lSort s k).1 : Int) ⟨n0, n1⟩ (lSort s k).1 0 0 (-1) (-1) (-1) 0 0 (by omega) (by omega) (by omega) (by omega) (by omega) (by omega) (by omega) ⟨by omega, by omega⟩ ⟨by omega, by omega⟩ ⟨by omega, by omega⟩ ⟨by omega, by omega⟩ hK)
  · rw [if_neg c] at hK
    exact ⟨⟨by omega, by omega⟩, fun q => absurd rfl q, fun _ => hR _ _ hK⟩
-- X2_years: heads [65]
def tX2_years : Nat → Blk LSt := fun pc => bif Nat.blt pc 13 then (bif Nat.blt pc 11 then (bif Nat.beq pc 0 then (oIld 2 <| oI 1 <| oCLt 11 <| oIld 2 <| oI 40 <| oCLe 13 <| oTo 11) else oNo) else (bif Nat.beq pc 11 then (oI (-1) <| oIret) else oNo)) else (bif Nat.blt pc 65 then (bif Nat.beq pc 13 then (oAld 0 <| oGet (fgL) 2 1 <| oAld 0 <| oGet (fgL) 2 0 <| oC2 (cL_X1_copyFrom) <| oIld 2 <| oI 160 <| oAld 0 <| oGet (fgL) 2 0 <| oGet (fgL) 1 14 <| oGet (fgL) 0 3 <| oSubW <| oMin <| oIst 3 <| oI 1 <| oAld 0 <| oGet (fgL) 2 0 <| oGet (fgL) 1 10 <| oGet (fgL) 0 3 <| oMax <| oIst 4 <| oIld 1 <| oIst 5 <| oI 0 <| oIst 6 <| oM [true, false, false, true, true, true, true, false, false, false, false] (oTo 65)) else oNo) else (bif Nat.blt pc 187 then (bif Nat.beq pc 65 then (oIld 6 <| oIld 3 <| oCGe 187 <| oIld 5 <| oC1 (cL_X2_drawAfter) <| oIst 5 <| oIld 5 <| oI 6 <| oC2 (cL_X2_drawOf) <| oIst 7 <| oIld 5 <| oC1 (cL_X2_drawAfter) <| oIst 5 <| oAld 0 <| oGet (fgL) 2 1 <| oGet (fgL) 1 3 <| oAld 0 <| oGet (fgL) 2 1 <| oGet (fgL) 1 1 <| oSubW <| oIld 5 <| oI 100 <| oC2 (cL_X2_drawOf) <| oAddW <| oIst 8 <| oIld 5 <| oC1 (cL_X2_drawAfter) <| oIst 5 <| oIld 5 <| oI 199 <| oC2 (cL_X2_drawOf) <| oI 99 <| oSubW <| oIst 9 <| oIld 5 <| oC1 (cL_X2_drawAfter) <| oIst 5 <| oIld 5 <| oIld 4 <| oC2 (cL_X2_drawOf) <| oIst 10 <| oAld 0 <| oGet (fgL) 2 1 <| oIld 7 <| oI 0 <| oI 9999 <| oIld 8 <| oMin <| oMax <| oIld 9 <| oIld 10 <| oC5 (cL_X1_playEvent) <| oPop <| oInc 6 1 <| oM [true, false, false, true, true, true, true, false, false, false, false] (oTo 65)) else oNo) else (bif Nat.beq pc 187 then (oAld 0 <| oAld 0 <| oGet (fgL) 2 1 <| oGet (fgL) 1 4 <| oAld 0 <| oGet (fgL) 2 0 <| oGet (fgL) 1 4 <| oSubW <| oI2l <| oAld 0 <| oGet (fgL) 2 1 <| oGet (fgL) 1 3 <| oI2l <| oC3 (cL_X2_tellTwo) <| oAld 0 <| oGet (fgL) 2 1 <| oGet (fgL) 1 6 <| oAld 0 <| oGet (fgL) 2 0 <| oGet (fgL) 1 6 <| oSubW <| oIret) else oNo)))
theorem tX2_years_ok : ∀ pc, bOk (encL) (bdL) mX2_years 0 0 pc (tX2_years pc) := fun pc => (tNode (tNode (tLeaf (okIldn iX2_years_0 rfl <| okIc iX2_years_1 <| okCLt (tl rfl) iX2_years_2 <| okIldn iX2_years_5 rfl <| okBi iX2_years_6 (by decide) <| okCLe (tl rfl) iX2_years_8 <| okTo (tl rfl))) (tLeaf (okIc iX2_years_11 <| okIret iX2_years_12 rfl))) (tNode (tLeaf (okAldn iX2_years_13 rfl <| okGet (vFgL) iX2_years_14 <| okAldn iX2_years_17 rfl <| okGet (vFgL) iX2_years_18 <| okC2 (qL_X1_copyFrom iX2_years_21) <| okIldn iX2_years_24 rfl <| okSi iX2_years_25 (by decide) <| okAldn iX2_years_28 rfl <| okGet (vFgL) iX2_years_29 <| okGet (vFgL) iX2_years_32 <| okGet (vFgL) iX2_years_35 <| okSubW iX2_years_38 <| okMin iX2_years_39 <| okIstn iX2_years_42 rfl (by decide) <| okIc iX2_years_43 <| okAldn iX2_years_44 rfl <| okGet (vFgL) iX2_years_45 <| okGet (vFgL) iX2_years_48 <| okGet (vFgL) iX2_years_51 <| okMax iX2_years_54 <| okIst iX2_years_57 (by decide) <| okIldn iX2_years_59 rfl <| okIst iX2_years_60 (by decide) <| okIc iX2_years_62 <| okIst iX2_years_63 (by decide) <| okM (okTo (tl rfl)))) (tNode (tLeaf (okIld iX2_years_65 <| okIldn iX2_years_67 rfl <| okCGe (tl rfl) iX2_years_68 <| okIld iX2_years_71 <| okC1 (qL_X2_drawAfter iX2_years_73) <| okIst iX2_years_76 (by decide) <| okIld iX2_years_78 <| okBi iX2_years_80 (by decide) <| okC2 (qL_X2_drawOf iX2_years_82) <| okIst iX2_years_85 (by decide) <| okIld iX2_years_87 <| okC1 (qL_X2_drawAfter iX2_years_89) <| okIst iX2_years_92 (by decide) <| okAldn iX2_years_94 rfl <| okGet (vFgL) iX2_years_95 <| okGet (vFgL) iX2_years_98 <| okAldn iX2_years_101 rfl <| okGet (vFgL) iX2_years_102 <| okGet (vFgL) iX2_years_105 <| okSubW iX2_years_108 <| okIld iX2_years_109 <| okBi iX2_years_111 (by decide) <| okC2 (qL_X2_drawOf iX2_years_113) <| okAddW iX2_years_116 <| okIst iX2_years_117 (by decide) <| okIld iX2_years_119 <| okC1 (qL_X2_drawAfter iX2_years_121) <| okIst iX2_years_124 (by decide) <| okIld iX2_years_126 <| okSi iX2_years_128 (by decide) <| okC2 (qL_X2_drawOf iX2_years_131) <| okBi iX2_years_134 (by decide) <| okSubW iX2_years_136 <| okIst iX2_years_137 (by decide) <| okIld iX2_years_139 <| okC1 (qL_X2_drawAfter iX2_years_141) <| okIst iX2_years_144 (by decide) <| okIld iX2_years_146 <| okIld iX2_years_148 <| okC2 (qL_X2_drawOf iX2_years_150) <| okIst iX2_years_153 (by decide) <| okAldn iX2_years_155 rfl <| okGet (vFgL) iX2_years_156 <| okIld iX2_years_159 <| okIc iX2_years_161 <| okSi iX2_years_162 (by decide) <| okIld iX2_years_165 <| okMin iX2_years_167 <| okMax iX2_years_170 <| okIld iX2_years_173 <| okIld iX2_years_175 <| okC5 (qL_X1_playEvent iX2_years_177) <| okPop iX2_years_180 <| okInc iX2_years_181 (by decide) <| okGotoM (tl rfl) iX2_years_184)) (tLeaf (okAldn iX2_years_187 rfl <| okAldn iX2_years_188 rfl <| okGet (vFgL) iX2_years_189 <| okGet (vFgL) iX2_years_192 <| okAldn iX2_years_195 rfl <| okGet (vFgL) iX2_years_196 <| okGet (vFgL) iX2_years_199 <| okSubW iX2_years_202 <| okI2l iX2_years_203 <| okAldn iX2_years_204 rfl <| okGet (vFgL) iX2_years_205 <| okGet (vFgL) iX2_years_208 <| okI2l iX2_years_211 <| okC3 (qL_X2_tellTwo iX2_years_212) <| okAldn iX2_years_215 rfl <| okGet (vFgL) iX2_years_216 <| okGet (vFgL) iX2_years_219 <| okAldn iX2_years_222 rfl <| okGet (vFgL) iX2_years_223 <| okGet (vFgL) iX2_years_226 <| okSubW iX2_years_229 <| okIret iX2_years_230 rfl))))) pc
def yrL (r : Int) : Nat → Int → LSt → LSt
  | 0, _, s => s
  | m + 1, d, s => yrL r m (dAfter (dAfter (dAfter (dAfter d)))) (setW s 1 (wPlayE (s.2.2 1) (dOf (dAfter d) 6) (max 0 (min 9999 (wI (wI ((s.2.2 1).1 3 - (s.2.2 1).1 1) + dOf (dAfter (dAfter d)) 100)))) (wI (dOf (dAfter (dAfter (dAfter d))) 199 - 99)) (dOf (dAfter (dAfter (dAfter (dAfter d)))) r)))
def fYear2 (s : LSt) : Int × LSt := (wI ((s.2.2 1).1 6 - (s.2.2 0).1 6), lTell2 s (wI ((s.2.2 1).1 4 - (s.2.2 0).1 4)) ((s.2.2 1).1 3))
def fYears (s : LSt) (d n : Int) : Int × LSt := if 1 ≤ n ∧ n ≤ 40 then
  fYear2 (yrL (max 1 (wZ (s.2.2 0) 0)) (min n (wI (160 - wZ (s.2.2 0) 4))).toNat d (setW s 1 (wCopy (s.2.2 1) (s.2.2 0)))) else (-1, s)
theorem X2_years_l {K : KL} {Pt : LSt → Prop} (c r : Int) (hc : xB c) (hr : xB r) : ∀ (m : Nat) (i d : Int) (s : LSt), wok (s.2.2 1) → xB d → 0 ≤ i → i ≤ max 0 c → m = (c - i).toNat → K [pI (fYear2 (yrL r m d s)).1] (fYear2 (yrL r m d s)).2 → wX encL bdL mX2_years 0 0 K Pt 65 [some (pR 0), none, none, some (pI c), some (pI r), some (pI d), some (pI i), none, none, none, none] [] s := by
  intro m
  induction m with
  | zero =>
    intro i d s ho hd h0 h1 hm hK
    refine wx_J [65] 9 tX2_years_ok rfl (fun J hR hJ => ?_)
    rw [yrL] at hK
    have hK2 : K [pI (wI (((lTell2 s (wI ((s.2.2 1).1 4 - (s.2.2 0).1 4)) ((s.2.2 1).1 3)).2.2 1).1 6 - ((lTell2 s (wI ((s.2.2 1).1 4 - (s.2.2 0).1 4)) ((s.2.2 1).1 3)).2.2 0).1 6))] (lTell2 s (wI ((s.2.2 1).1 4 - (s.2.2 0).1 4)) ((s.2.2 1).1 3)) := by
      rw [lTell2_w]; exact hK
    repeat' (first | (refine And.intro ?_ ?_) | intro _)
    all_goals first | omega | exact hR _ _ hK2
  | succ m ih =>
    intro i d s ho hd h0 h1 hm hK
    refine wx_J [65] 9 tX2_years_ok rfl (fun J hR hJ => ?_)
    rw [yrL] at hK
    have g := ih (i + 1) _ _ (wok_PlayE ho) (wI_B _) (by omega) (by omega) (by omega) hK
    have hmi : ∀ x, xB x → xB (min 9999 x) := fun x hx => min_B (a := 9999) ⟨by omega, by omega⟩ hx
    have hma : ∀ x, xB x → xB (max 0 x) := fun x hx => max_B (a := 0) ⟨by omega, by omega⟩ hx
    repeat' (first | exact ho | (refine And.intro ?_ ?_) | intro _)
    all_goals first | omega | exact hJ _ _ _ _ g
def sX2_years : Int → Int → LSt → KL → Prop := fun d n s K => (xB d ∧ xB n ∧ lok s) ∧ K [pI (fYears s d n).1] (fYears s d n).2
theorem mX2_years_ok : mOk encL bdL mX2_years (atR 0 (a2 sX2_years)) := by
  refine mOVa2 kX2_years (fun _ _ => rfl) (fun d n s K h hb => wx_J [65] 9 tX2_years_ok rfl (fun J hR hJ => ?_))
  obtain ⟨⟨h1, h2, h5⟩, hK⟩ := h
  have hw := h5.2.2.2 0 (by decide)
  have hw1 := h5.2.2.2 1 (by decide)
  have hz0 : xB (wZ (s.2.2 0) 0) := ((hb.2.2 0).2 0).1
  unfold fYears at hK
  by_cases c : 1 ≤ n ∧ n ≤ 40
  · rw [if_pos c] at hK
    have hmin := min_B h2 (wI_B (160 - wZ (s.2.2 0) 4))
    have hmax := max_B (a := 1) (b := wZ (s.2.2 0) 0) ⟨by omega, by omega⟩ hz0
    have g := X2_years_l (K := K) (Pt := fun _ => False) (min n (wI (160 - wZ (s.2.2 0) 4))) (max 1 (wZ (s.2.2 0) 0)) hmin hmax _ 0 d (setW s 1 (wCopy (s.2.2 1) (s.2.2 0))) (wok_Copy hw1 hw) h1 (by omega) (by omega) (by rw [Int.sub_zero]) hK
    refine ⟨⟨h2, ⟨by omega, by omega⟩⟩, fun q => absurd q (by omega), fun _ => ⟨⟨h2, ⟨by omega, by omega⟩⟩, fun _ => ⟨hw, ?_⟩, fun q => absurd q (by omega)⟩⟩
    refine fun _ hs => ⟨⟨h2, hs⟩, fun _ => ⟨⟨⟨by omega, by omega⟩, hz0⟩, hJ _ _ _ _ g⟩⟩
  · rw [if_neg c] at hK
    refine ⟨⟨h2, ⟨by omega, by omega⟩⟩, fun q => ?_, fun _ => ⟨⟨h2, ⟨by omega, by omega⟩⟩, fun q => ?_, fun q => ?_⟩⟩
    · exact hR _ _ hK
    · omega
    · exact hR _ _ hK
