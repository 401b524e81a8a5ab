/-! ===== LateSessions: small methods ===== -/
section NEGW
variable {σ : Type} {enc : σ → XH} {bd : σ → Prop} {M : XI} {rc rs pc pc2 : Nat} {B : Blk σ}
def oNegW (B : Blk σ) : Blk σ := fun J L st s => match st with
  | .inl a :: st => xB (wI (-a)) → B J L (.inl (wI (-a)) :: st) s
  | _ => False
theorem okNegW (d : xl_D M pc .ineg 1 pc2) (k : bOk enc bd M rc rs pc2 B) : bOk enc bd M rc rs pc (oNegW B) := by
  intro Po Pt J hJ L st s hb h
  unfold oNegW at h
  split at h
  · next a st => 
    have := k Po Pt J hJ _ _ _ hb (h (wI_B _))
    rw [List.map_cons, pV_wI] at this
    exact xz_ineg d this
  · exact h.elim
end NEGW
-- X2_isSource: heads []
def tX2_isSource : Nat → Blk LSt := fun pc => bif Nat.blt pc 22 then (bif Nat.beq pc 0 then (oIld 1 <| oZLt 22 <| oIld 1 <| oAld 0 <| oGet (fgL) 2 0 <| oGet (fgL) 1 10 <| oGet (fgL) 0 3 <| oCGe 22 <| oI 1 <| oTo 23) else oNo) else (bif Nat.blt pc 23 then (bif Nat.beq pc 22 then (oI 0 <| oTo 23) else oNo) else (bif Nat.beq pc 23 then (oZret) else oNo))
theorem tX2_isSource_ok : ∀ pc, bOk (encL) (bdL) mX2_isSource 0 0 pc (tX2_isSource pc) := fun pc => (tNode (tLeaf (okIldn iX2_isSource_0 rfl <| okZLt (tl rfl) iX2_isSource_1 <| okIldn iX2_isSource_4 rfl <| okAldn iX2_isSource_5 rfl <| okGet (vFgL) iX2_isSource_6 <| okGet (vFgL) iX2_isSource_9 <| okGet (vFgL) iX2_isSource_12 <| okCGe (tl rfl) iX2_isSource_15 <| okIc iX2_isSource_18 <| okGoto (tl rfl) iX2_isSource_19)) (tNode (tLeaf (okIc iX2_isSource_22 <| okTo (tl rfl))) (tLeaf (okZret iX2_isSource_23 rfl)))) pc
-- X2_inputRefusal: heads []
def tX2_inputRefusal : Nat → Blk LSt := fun pc => bif Nat.blt pc 21 then (bif Nat.beq pc 0 then (oAld 0 <| oGet (fgL) 2 0 <| oGet (fgL) 1 14 <| oGet (fgL) 0 3 <| oI 160 <| oCLt 21 <| oI (-3) <| oTo 22) else oNo) else (bif Nat.blt pc 22 then (bif Nat.beq pc 21 then (oI 0 <| oTo 22) else oNo) else (bif Nat.beq pc 22 then (oIret) else oNo))
theorem tX2_inputRefusal_ok : ∀ pc, bOk (encL) (bdL) mX2_inputRefusal 0 0 pc (tX2_inputRefusal pc) := fun pc => (tNode (tLeaf (okAldn iX2_inputRefusal_0 rfl <| okGet (vFgL) iX2_inputRefusal_1 <| okGet (vFgL) iX2_inputRefusal_4 <| okGet (vFgL) iX2_inputRefusal_7 <| okSi iX2_inputRefusal_10 (by decide) <| okCLt (tl rfl) iX2_inputRefusal_13 <| okBi iX2_inputRefusal_16 (by decide) <| okGoto (tl rfl) iX2_inputRefusal_18)) (tNode (tLeaf (okIc iX2_inputRefusal_21 <| okTo (tl rfl))) (tLeaf (okIret iX2_inputRefusal_22 rfl)))) pc
-- X2_tellNothing: heads []
def tX2_tellNothing : Nat → Blk LSt := fun pc => bif Nat.beq pc 0 then (oAld 0 <| oI 0 <| oPut (fpL) 2 8 <| oVret) else oNo
theorem tX2_tellNothing_ok : ∀ pc, bOk (encL) (bdL) mX2_tellNothing 0 0 pc (tX2_tellNothing pc) := fun pc => (tLeaf (okAldn iX2_tellNothing_0 rfl <| okIc iX2_tellNothing_1 <| okPut (vFpL) iX2_tellNothing_2 <| okVret iX2_tellNothing_5 rfl)) pc
-- X2_tellMore: heads []
def tX2_tellMore : Nat → Blk LSt := fun pc => bif Nat.blt pc 32 then (bif Nat.beq pc 0 then (oAld 0 <| oGet (fgL) 2 8 <| oAld 0 <| oGet (fgL) 2 7 <| oLen (agL) <| oCGe 32 <| oAld 0 <| oGet (fgL) 2 7 <| oAld 0 <| oGet (fgL) 2 8 <| oLld 1 <| oLas (agL) (apL) <| oAld 0 <| oDup <| oGet (fgL) 2 8 <| oI 1 <| oAdd <| oPut (fpL) 2 8 <| oTo 32) else oNo) else (bif Nat.beq pc 32 then (oVret) else oNo)
theorem tX2_tellMore_ok : ∀ pc, bOk (encL) (bdL) mX2_tellMore 0 0 pc (tX2_tellMore pc) := fun pc => (tNode (tLeaf (okAldn iX2_tellMore_0 rfl <| okGet (vFgL) iX2_tellMore_1 <| okAldn iX2_tellMore_4 rfl <| okGet (vFgL) iX2_tellMore_5 <| okLen (vAgL) iX2_tellMore_8 <| okCGe (tl rfl) iX2_tellMore_9 <| okAldn iX2_tellMore_12 rfl <| okGet (vFgL) iX2_tellMore_13 <| okAldn iX2_tellMore_16 rfl <| okGet (vFgL) iX2_tellMore_17 <| okLldn iX2_tellMore_20 rfl <| okLas (vAgL) iX2_tellMore_21 <| okAldn iX2_tellMore_22 rfl <| okDup iX2_tellMore_23 <| okGet (vFgL) iX2_tellMore_24 <| okIc iX2_tellMore_27 <| okAdd iX2_tellMore_28 <| okPut (vFpL) iX2_tellMore_29 <| okTo (tl rfl))) (tLeaf (okVret iX2_tellMore_32 rfl))) pc
-- X2_putSign: heads []
def tX2_putSign : Nat → Blk LSt := fun pc => bif Nat.blt pc 32 then (bif Nat.beq pc 0 then (oAld 0 <| oGet (fgL) 2 10 <| oAld 0 <| oGet (fgL) 2 9 <| oLen (agL) <| oCGe 32 <| oAld 0 <| oGet (fgL) 2 9 <| oAld 0 <| oGet (fgL) 2 10 <| oIld 1 <| oIas (agL) (apL) <| oAld 0 <| oDup <| oGet (fgL) 2 10 <| oI 1 <| oAdd <| oPut (fpL) 2 10 <| oTo 32) else oNo) else (bif Nat.beq pc 32 then (oVret) else oNo)
theorem tX2_putSign_ok : ∀ pc, bOk (encL) (bdL) mX2_putSign 0 0 pc (tX2_putSign pc) := fun pc => (tNode (tLeaf (okAldn iX2_putSign_0 rfl <| okGet (vFgL) iX2_putSign_1 <| okAldn iX2_putSign_4 rfl <| okGet (vFgL) iX2_putSign_5 <| okLen (vAgL) iX2_putSign_8 <| okCGe (tl rfl) iX2_putSign_9 <| okAldn iX2_putSign_12 rfl <| okGet (vFgL) iX2_putSign_13 <| okAldn iX2_putSign_16 rfl <| okGet (vFgL) iX2_putSign_17 <| okIldn iX2_putSign_20 rfl <| okIas (vAgL) iX2_putSign_21 <| okAldn iX2_putSign_22 rfl <| okDup iX2_putSign_23 <| okGet (vFgL) iX2_putSign_24 <| okIc iX2_putSign_27 <| okAdd iX2_putSign_28 <| okPut (vFpL) iX2_putSign_29 <| okTo (tl rfl))) (tLeaf (okVret iX2_putSign_32 rfl))) pc
-- X2_takeText: heads []
def tX2_takeText : Nat → Blk LSt := fun pc => bif Nat.beq pc 0 then (oAld 0 <| oGet (fgL) 2 10 <| oIst 1 <| oAld 0 <| oI 0 <| oPut (fpL) 2 10 <| oIld 1 <| oIret) else oNo
theorem tX2_takeText_ok : ∀ pc, bOk (encL) (bdL) mX2_takeText 0 0 pc (tX2_takeText pc) := fun pc => (tLeaf (okAldn iX2_takeText_0 rfl <| okGet (vFgL) iX2_takeText_1 <| okIstn iX2_takeText_4 rfl (by decide) <| okAldn iX2_takeText_5 rfl <| okIc iX2_takeText_6 <| okPut (vFpL) iX2_takeText_7 <| okIldn iX2_takeText_10 rfl <| okIret iX2_takeText_11 rfl)) pc
-- X2_signAt: heads []
def tX2_signAt : Nat → Blk LSt := fun pc => bif Nat.blt pc 22 then (bif Nat.beq pc 0 then (oIld 1 <| oZLt 22 <| oIld 1 <| oAld 0 <| oGet (fgL) 2 9 <| oLen (agL) <| oCGe 22 <| oAld 0 <| oGet (fgL) 2 9 <| oIld 1 <| oIa (agL) <| oTo 23) else oNo) else (bif Nat.blt pc 23 then (bif Nat.beq pc 22 then (oI (-1) <| oTo 23) else oNo) else (bif Nat.beq pc 23 then (oIret) else oNo))
theorem tX2_signAt_ok : ∀ pc, bOk (encL) (bdL) mX2_signAt 0 0 pc (tX2_signAt pc) := fun pc => (tNode (tLeaf (okIldn iX2_signAt_0 rfl <| okZLt (tl rfl) iX2_signAt_1 <| okIldn iX2_signAt_4 rfl <| okAldn iX2_signAt_5 rfl <| okGet (vFgL) iX2_signAt_6 <| okLen (vAgL) iX2_signAt_9 <| okCGe (tl rfl) iX2_signAt_10 <| okAldn iX2_signAt_13 rfl <| okGet (vFgL) iX2_signAt_14 <| okIldn iX2_signAt_17 rfl <| okIa (vAgL) iX2_signAt_18 <| okGoto (tl rfl) iX2_signAt_19)) (tNode (tLeaf (okIc iX2_signAt_22 <| okTo (tl rfl))) (tLeaf (okIret iX2_signAt_23 rfl)))) pc
-- X2_sortedCell: heads []
def tX2_sortedCell : Nat → Blk LSt := fun pc => bif Nat.blt pc 33 then (bif Nat.beq pc 0 then (oIld 1 <| oZLt 33 <| oIld 1 <| oAld 0 <| oGet (fgL) 2 11 <| oLen (agL) <| oCGe 33 <| oAld 0 <| oGet (fgL) 2 0 <| oGet (fgL) 1 14 <| oAld 0 <| oGet (fgL) 2 11 <| oIld 1 <| oIa (agL) <| oIld 2 <| oC3 (cL_X0_get) <| oTo 34) else oNo) else (bif Nat.blt pc 34 then (bif Nat.beq pc 33 then (oI 0 <| oTo 34) else oNo) else (bif Nat.beq pc 34 then (oIret) else oNo))
theorem tX2_sortedCell_ok : ∀ pc, bOk (encL) (bdL) mX2_sortedCell 0 0 pc (tX2_sortedCell pc) := fun pc => (tNode (tLeaf (okIldn iX2_sortedCell_0 rfl <| okZLt (tl rfl) iX2_sortedCell_1 <| okIldn iX2_sortedCell_4 rfl <| okAldn iX2_sortedCell_5 rfl <| okGet (vFgL) iX2_sortedCell_6 <| okLen (vAgL) iX2_sortedCell_9 <| okCGe (tl rfl) iX2_sortedCell_10 <| okAldn iX2_sortedCell_13 rfl <| okGet (vFgL) iX2_sortedCell_14 <| okGet (vFgL) iX2_sortedCell_17 <| okAldn iX2_sortedCell_20 rfl <| okGet (vFgL) iX2_sortedCell_21 <| okIldn iX2_sortedCell_24 rfl <| okIa (vAgL) iX2_sortedCell_25 <| okIldn iX2_sortedCell_26 rfl <| okC3 (qL_X0_get iX2_sortedCell_27) <| okGoto (tl rfl) iX2_sortedCell_30)) (tNode (tLeaf (okIc iX2_sortedCell_33 <| okTo (tl rfl))) (tLeaf (okIret iX2_sortedCell_34 rfl)))) pc
abbrev lSrc (s : LSt) (r : Int) : Prop := 0 ≤ r ∧ r < wZ (s.2.2 0) 0
def sX2_isSource : Int → LSt → KL → Prop := fun r s K => xB r ∧ (lSrc s r → K [pI 1] s) ∧ (¬ lSrc s r → K [pI 0] s)
theorem mX2_isSource_ok : mOk encL bdL mX2_isSource (atR 0 (a1 sX2_isSource)) := by
  refine mOVa1 kX2_isSource (fun _ => rfl) (fun r s K h hb => wx_J [] 9 tX2_isSource_ok rfl (fun J hR hJ => ?_))
  obtain ⟨h1, h2, h3⟩ := h
  have hz : xB (wZ (s.2.2 0) 0) := ((hb.2.2 0).2 0).1
  refine ⟨h1, fun c => ?_, fun c _ => ⟨⟨h1, hz⟩, fun c2 => ?_, fun c2 => ?_⟩⟩
  · exact ⟨Or.inl rfl, hR _ _ (h3 (fun q => by omega))⟩
  · have c2 : wZ (s.2.2 0) 0 ≤ r := c2
    exact ⟨Or.inl rfl, hR _ _ (h3 (fun q => by omega))⟩
  · have c2 : r < wZ (s.2.2 0) 0 := c2
    exact ⟨Or.inr rfl, hR _ _ (h2 ⟨c, c2⟩)⟩
def cL_X2_isSource : Sp LSt := atR 0 (a1 sX2_isSource)
theorem qL_X2_isSource {M : XI} {rc rs pc pc2 : Nat} (d : xl_Ca M pc mX2_isSource pc2) : cOk encL bdL M rc rs pc pc2 2 cL_X2_isSource := cSame mX2_isSource_ok vX2_isSource d lcl rfl lenL recL
def lIn (s : LSt) : Int := if 160 ≤ wZ (s.2.2 0) 4 then -3 else 0
def sX2_inputRefusal : LSt → KL → Prop := fun s K => K [pI (lIn s)] s
theorem mX2_inputRefusal_ok : mOk encL bdL mX2_inputRefusal (atR 0 (a0 sX2_inputRefusal)) := by
  refine mOVa0 kX2_inputRefusal (fun _ => rfl) (fun s K h hb => wx_J [] 9 tX2_inputRefusal_ok rfl (fun J hR hJ => ?_))
  have hz : xB (wZ (s.2.2 0) 4) := ((hb.2.2 0).2 4).1
  have hK : K [pI (lIn s)] s := h
  unfold lIn at hK
  refine fun _ => ⟨⟨hz, ⟨by omega, by omega⟩⟩, fun c => ?_, fun c => ?_⟩
  · have c : wZ (s.2.2 0) 4 < 160 := c
    rw [if_neg (by omega)] at hK
    exact hR _ _ hK
  · have c : 160 ≤ wZ (s.2.2 0) 4 := c
    rw [if_pos c] at hK
    exact hR _ _ hK
def cL_X2_inputRefusal : Sp LSt := atR 0 (a0 sX2_inputRefusal)
theorem qL_X2_inputRefusal {M : XI} {rc rs pc pc2 : Nat} (d : xl_Ca M pc mX2_inputRefusal pc2) : cOk encL bdL M rc rs pc pc2 1 cL_X2_inputRefusal := cSame mX2_inputRefusal_ok vX2_inputRefusal d lcl rfl lenL recL
def sX2_tellNothing : LSt → KL → Prop := fun s K => K [] (setS s 3 0)
theorem mX2_tellNothing_ok : mOk encL bdL mX2_tellNothing (atR 0 (a0 sX2_tellNothing)) := by
  refine mOVa0 kX2_tellNothing (fun _ => rfl) (fun s K h hb => wx_J [] 9 tX2_tellNothing_ok rfl (fun J hR hJ => ?_))
  exact ⟨⟨by omega, by omega⟩, hR _ _ h⟩
def cL_X2_tellNothing : Sp LSt := atR 0 (a0 sX2_tellNothing)
theorem qL_X2_tellNothing {M : XI} {rc rs pc pc2 : Nat} (d : xl_Ca M pc mX2_tellNothing pc2) : cOk encL bdL M rc rs pc pc2 1 cL_X2_tellNothing := cSame mX2_tellNothing_ok vX2_tellNothing d lcl rfl lenL recL
def lTell (s : LSt) (x : Int) : LSt := if s.1 3 < 6 then setS (setA s 0 (xup (s.2.1 0) (s.1 3).toNat x)) 3 (s.1 3 + 1) else s
def sX2_tellMore : Int → LSt → KL → Prop := fun x s K => (xB x ∧ 0 ≤ s.1 3) ∧ K [] (lTell s x)
theorem mX2_tellMore_ok : mOk encL bdL mX2_tellMore (atR 0 (j1 sX2_tellMore)) := by
  refine mOVj1 kX2_tellMore (fun _ => rfl) (fun x s K h hb => wx_J [] 9 tX2_tellMore_ok rfl (fun J hR hJ => ?_))
  obtain ⟨⟨h1, h2⟩, hK⟩ := h
  unfold lTell at hK
  by_cases c : s.1 3 < 6
  · rw [if_pos c] at hK
    repeat' (first | (refine And.intro ?_ ?_) | intro _)
    all_goals first | omega | exact hR _ _ hK | (show (-2147483648 : Int) ≤ s.1 3 + 1; omega) | (show s.1 3 + 1 ≤ (2147483647 : Int); omega)
  · rw [if_neg c] at hK
    repeat' (first | (refine And.intro ?_ ?_) | intro _)
    all_goals first | omega | exact hR _ _ hK
def cL_X2_tellMore : Sp LSt := atR 0 (j1 sX2_tellMore)
theorem qL_X2_tellMore {M : XI} {rc rs pc pc2 : Nat} (d : xl_Ca M pc mX2_tellMore pc2) : cOk encL bdL M rc rs pc pc2 2 cL_X2_tellMore := cSame mX2_tellMore_ok vX2_tellMore d lcl rfl lenL recL
def lPutS (s : LSt) (c : Int) : LSt := if s.1 4 < 80 then setS (setA s 1 (xup (s.2.1 1) (s.1 4).toNat c)) 4 (s.1 4 + 1) else s
def sX2_putSign : Int → LSt → KL → Prop := fun x s K => (xB x ∧ 0 ≤ s.1 4) ∧ K [] (lPutS s x)
theorem mX2_putSign_ok : mOk encL bdL mX2_putSign (atR 0 (a1 sX2_putSign)) := by
  refine mOVa1 kX2_putSign (fun _ => rfl) (fun x s K h hb => wx_J [] 9 tX2_putSign_ok rfl (fun J hR hJ => ?_))
  obtain ⟨⟨h1, h2⟩, hK⟩ := h
  unfold lPutS at hK
  by_cases c : s.1 4 < 80
  · rw [if_pos c] at hK
    repeat' (first | (refine And.intro ?_ ?_) | intro _)
    all_goals first | omega | exact hR _ _ hK | (show (-2147483648 : Int) ≤ s.1 4 + 1; omega) | (show s.1 4 + 1 ≤ (2147483647 : Int); omega)
  · rw [if_neg c] at hK
    repeat' (first | (refine And.intro ?_ ?_) | intro _)
    all_goals first | omega | exact hR _ _ hK
def cL_X2_putSign : Sp LSt := atR 0 (a1 sX2_putSign)
theorem qL_X2_putSign {M : XI} {rc rs pc pc2 : Nat} (d : xl_Ca M pc mX2_putSign pc2) : cOk encL bdL M rc rs pc pc2 2 cL_X2_putSign := cSame mX2_putSign_ok vX2_putSign d lcl rfl lenL recL
def sX2_takeText : LSt → KL → Prop := fun s K => xB (s.1 4) → K [pI (s.1 4)] (setS s 4 0)
theorem mX2_takeText_ok : mOk encL bdL mX2_takeText (atR 0 (a0 sX2_takeText)) := by
  refine mOVa0 kX2_takeText (fun _ => rfl) (fun s K h hb => wx_J [] 9 tX2_takeText_ok rfl (fun J hR hJ => ?_))
  have hK := h (hb.1 4)
  repeat' (first | (refine And.intro ?_ ?_) | intro _)
  all_goals first | omega | exact hR _ _ hK
def cL_X2_takeText : Sp LSt := atR 0 (a0 sX2_takeText)
theorem qL_X2_takeText {M : XI} {rc rs pc pc2 : Nat} (d : xl_Ca M pc mX2_takeText pc2) : cOk encL bdL M rc rs pc pc2 1 cL_X2_takeText := cSame mX2_takeText_ok vX2_takeText d lcl rfl lenL recL
def lSign (s : LSt) (i : Int) : Int := if 0 ≤ i ∧ i < 80 then s.2.1 1 i.toNat else -1
theorem lSign_B {s : LSt} {i : Int} (hb : bdL s) : xB (lSign s i) := by
  unfold lSign
  split
  · exact hb.2.1 1 _
  · exact ⟨by omega, by omega⟩
def sX2_signAt : Int → LSt → KL → Prop := fun i s K => xB i ∧ (xB (lSign s i) → K [pI (lSign s i)] s)
theorem mX2_signAt_ok : mOk encL bdL mX2_signAt (atR 0 (a1 sX2_signAt)) := by
  refine mOVa1 kX2_signAt (fun _ => rfl) (fun i s K h hb => wx_J [] 9 tX2_signAt_ok rfl (fun J hR hJ => ?_))
  obtain ⟨h1, h2⟩ := h
  have hK := h2 (lSign_B hb)
  unfold lSign at hK
  by_cases c : 0 ≤ i ∧ i < 80
  · rw [if_pos c] at hK
    repeat' (first | (refine And.intro ?_ ?_) | intro _)
    all_goals first | omega | exact hR _ _ hK
  · rw [if_neg c] at hK
    repeat' (first | (refine And.intro ?_ ?_) | intro _)
    all_goals first | omega | exact hR _ _ hK
def cL_X2_signAt : Sp LSt := atR 0 (a1 sX2_signAt)
theorem qL_X2_signAt {M : XI} {rc rs pc pc2 : Nat} (d : xl_Ca M pc mX2_signAt pc2) : cOk encL bdL M rc rs pc pc2 2 cL_X2_signAt := cSame mX2_signAt_ok vX2_signAt d lcl rfl lenL recL
def lCell (s : LSt) (k c : Int) : Int := if 0 ≤ k ∧ k < 160 then wG (s.2.2 0) 4 (s.2.1 2 k.toNat) c else 0
theorem lCell_B {s : LSt} {k c : Int} (hb : bdL s) : xB (lCell s k c) := by
  unfold lCell
  split
  · exact wG_B (hb.2.2 0)
  · exact ⟨by omega, by omega⟩
def sX2_sortedCell : Int → Int → LSt → KL → Prop := fun k c s K => (xB k ∧ xB c) ∧ (xB (lCell s k c) → K [pI (lCell s k c)] s)
theorem mX2_sortedCell_ok : mOk encL bdL mX2_sortedCell (atR 0 (a2 sX2_sortedCell)) := by
  refine mOVa2 kX2_sortedCell (fun _ _ => rfl) (fun k c s K h hb => wx_J [] 9 tX2_sortedCell_ok rfl (fun J hR hJ => ?_))
  obtain ⟨⟨h1, h3⟩, h2⟩ := h
  have hK := h2 (lCell_B hb)
  unfold lCell at hK
  by_cases q : 0 ≤ k ∧ k < 160
  · rw [if_pos q] at hK
    repeat' (first | (refine And.intro ?_ ?_) | intro _)
    all_goals first | omega | exact hR _ _ hK
  · rw [if_neg q] at hK
    repeat' (first | (refine And.intro ?_ ?_) | intro _)
    all_goals first | omega | exact hR _ _ hK
def cL_X2_sortedCell : Sp LSt := atR 0 (a2 sX2_sortedCell)
theorem qL_X2_sortedCell {M : XI} {rc rs pc pc2 : Nat} (d : xl_Ca M pc mX2_sortedCell pc2) : cOk encL bdL M rc rs pc pc2 3 cL_X2_sortedCell := cSame mX2_sortedCell_ok vX2_sortedCell d lcl rfl lenL recL
-- X2_holeBehind: heads []
def tX2_holeBehind : Nat → Blk LSt := fun pc => bif Nat.beq pc 0 then (oAld 0 <| oIld 1 <| oI 1 <| oAddW <| oI 2 <| oC3 (cL_X2_sortedCell) <| oAld 0 <| oIld 1 <| oI 2 <| oC3 (cL_X2_sortedCell) <| oSubW <| oIret) else oNo
theorem tX2_holeBehind_ok : ∀ pc, bOk (encL) (bdL) mX2_holeBehind 0 0 pc (tX2_holeBehind pc) := fun pc => (tLeaf (okAldn iX2_holeBehind_0 rfl <| okIldn iX2_holeBehind_1 rfl <| okIc iX2_holeBehind_2 <| okAddW iX2_holeBehind_3 <| okIc iX2_holeBehind_4 <| okC3 (qL_X2_sortedCell iX2_holeBehind_5) <| okAldn iX2_holeBehind_8 rfl <| okIldn iX2_holeBehind_9 rfl <| okIc iX2_holeBehind_10 <| okC3 (qL_X2_sortedCell iX2_holeBehind_11) <| okSubW iX2_holeBehind_14 <| okIret iX2_holeBehind_15 rfl)) pc
-- X2_isEvent: heads []
def tX2_isEvent : Nat → Blk LSt := fun pc => bif Nat.blt pc 39 then (bif Nat.beq pc 0 then (oIld 1 <| oC1 (cL_X2_isKey) <| oZEq 39 <| oIld 2 <| oC1 (cL_X2_isTime) <| oZEq 39 <| oIld 3 <| oI (-99) <| oCLt 39 <| oIld 3 <| oI 99 <| oCGt 39 <| oAld 0 <| oIld 4 <| oC2 (cL_X2_isSource) <| oZEq 39 <| oI 1 <| oTo 40) else oNo) else (bif Nat.blt pc 40 then (bif Nat.beq pc 39 then (oI 0 <| oTo 40) else oNo) else (bif Nat.beq pc 40 then (oZret) else oNo))
theorem tX2_isEvent_ok : ∀ pc, bOk (encL) (bdL) mX2_isEvent 0 0 pc (tX2_isEvent pc) := fun pc => (tNode (tLeaf (okIldn iX2_isEvent_0 rfl <| okC1 (qL_X2_isKey iX2_isEvent_1) <| okZEq (tl rfl) iX2_isEvent_4 <| okIldn iX2_isEvent_7 rfl <| okC1 (qL_X2_isTime iX2_isEvent_8) <| okZEq (tl rfl) iX2_isEvent_11 <| okIldn iX2_isEvent_14 rfl <| okBi iX2_isEvent_15 (by decide) <| okCLt (tl rfl) iX2_isEvent_17 <| okIldn iX2_isEvent_20 rfl <| okBi iX2_isEvent_21 (by decide) <| okCGt (tl rfl) iX2_isEvent_23 <| okAldn iX2_isEvent_26 rfl <| okIld iX2_isEvent_27 <| okC2 (qL_X2_isSource iX2_isEvent_29) <| okZEq (tl rfl) iX2_isEvent_32 <| okIc iX2_isEvent_35 <| okGoto (tl rfl) iX2_isEvent_36)) (tNode (tLeaf (okIc iX2_isEvent_39 <| okTo (tl rfl))) (tLeaf (okZret iX2_isEvent_40 rfl)))) pc
-- X2_tellOne: heads []
def tX2_tellOne : Nat → Blk LSt := fun pc => bif Nat.beq pc 0 then (oAld 0 <| oC1 (cL_X2_tellNothing) <| oAld 0 <| oLld 1 <| oC2 (cL_X2_tellMore) <| oVret) else oNo
theorem tX2_tellOne_ok : ∀ pc, bOk (encL) (bdL) mX2_tellOne 0 0 pc (tX2_tellOne pc) := fun pc => (tLeaf (okAldn iX2_tellOne_0 rfl <| okC1 (qL_X2_tellNothing iX2_tellOne_1) <| okAldn iX2_tellOne_4 rfl <| okLldn iX2_tellOne_5 rfl <| okC2 (qL_X2_tellMore iX2_tellOne_6) <| okVret iX2_tellOne_9 rfl)) pc
def lHole (s : LSt) (k : Int) : Int := wI (lCell s (wI (k + 1)) 2 - lCell s k 2)
def sX2_holeBehind : Int → LSt → KL → Prop := fun k s K => xB k ∧ (xB (lHole s k) → K [pI (lHole s k)] s)
theorem mX2_holeBehind_ok : mOk encL bdL mX2_holeBehind (atR 0 (a1 sX2_holeBehind)) := by
  refine mOVa1 kX2_holeBehind (fun _ => rfl) (fun k s K h hb => wx_J [] 9 tX2_holeBehind_ok rfl (fun J hR hJ => ?_))
  obtain ⟨h1, h2⟩ := h
  have hK := h2 (wI_B _)
  repeat' (first | (refine And.intro ?_ ?_) | intro _)
  all_goals first | omega | exact hR _ _ hK
def cL_X2_holeBehind : Sp LSt := atR 0 (a1 sX2_holeBehind)
theorem qL_X2_holeBehind {M : XI} {rc rs pc pc2 : Nat} (d : xl_Ca M pc mX2_holeBehind pc2) : cOk encL bdL M rc rs pc pc2 2 cL_X2_holeBehind := cSame mX2_holeBehind_ok vX2_holeBehind d lcl rfl lenL recL
abbrev lEv (s : LSt) (k t v r : Int) : Prop := (0 ≤ k ∧ k < 6) ∧ (0 ≤ t ∧ t ≤ 9999) ∧ (-99 ≤ v ∧ v ≤ 99) ∧ lSrc s r
def sX2_isEvent : Int → Int → Int → Int → LSt → KL → Prop := fun k t v r s K => (xB k ∧ xB t ∧ xB v ∧ xB r) ∧ (lEv s k t v r → K [pI 1] s) ∧ (¬ lEv s k t v r → K [pI 0] s)
theorem mX2_isEvent_ok : mOk encL bdL mX2_isEvent (atR 0 (a4 sX2_isEvent)) := by
  refine mOVa4 kX2_isEvent (fun _ _ _ _ => rfl) (fun k t v r s K h hb => wx_J [] 9 tX2_isEvent_ok rfl (fun J hR hJ => ?_))
  obtain ⟨h1, h2, h3⟩ := h
  repeat' (first | (refine And.intro ?_ ?_) | intro _)
  all_goals first | omega | exact hR _ _ (h2 (by omega)) | exact hR _ _ (h3 (by omega))
def cL_X2_isEvent : Sp LSt := atR 0 (a4 sX2_isEvent)
theorem qL_X2_isEvent {M : XI} {rc rs pc pc2 : Nat} (d : xl_Ca M pc mX2_isEvent pc2) : cOk encL bdL M rc rs pc pc2 5 cL_X2_isEvent := cSame mX2_isEvent_ok vX2_isEvent d lcl rfl lenL recL
-- X2_eventRefusal: heads []
def tX2_eventRefusal : Nat → Blk LSt := fun pc => bif Nat.blt pc 14 then (bif Nat.beq pc 0 then (oAld 0 <| oIld 1 <| oIld 2 <| oIld 3 <| oIld 4 <| oC5 (cL_X2_isEvent) <| oZNe 14 <| oI (-1) <| oIret) else oNo) else (bif Nat.beq pc 14 then (oAld 0 <| oC1 (cL_X2_inputRefusal) <| oIret) else oNo)
theorem tX2_eventRefusal_ok : ∀ pc, bOk (encL) (bdL) mX2_eventRefusal 0 0 pc (tX2_eventRefusal pc) := fun pc => (tNode (tLeaf (okAldn iX2_eventRefusal_0 rfl <| okIldn iX2_eventRefusal_1 rfl <| okIldn iX2_eventRefusal_2 rfl <| okIldn iX2_eventRefusal_3 rfl <| okIld iX2_eventRefusal_4 <| okC5 (qL_X2_isEvent iX2_eventRefusal_6) <| okZNe (tl rfl) iX2_eventRefusal_9 <| okIc iX2_eventRefusal_12 <| okIret iX2_eventRefusal_13 rfl)) (tLeaf (okAldn iX2_eventRefusal_14 rfl <| okC1 (qL_X2_inputRefusal iX2_eventRefusal_15) <| okIret iX2_eventRefusal_18 rfl))) pc
-- X2_markRefusal: heads []
def tX2_markRefusal : Nat → Blk LSt := fun pc => bif Nat.blt pc 21 then (bif Nat.blt pc 19 then (bif Nat.beq pc 0 then (oAld 0 <| oIld 1 <| oC2 (cL_X2_isSource) <| oZEq 19 <| oIld 2 <| oZLt 19 <| oIld 2 <| oI 20000 <| oCLe 21 <| oTo 19) else oNo) else (bif Nat.beq pc 19 then (oI (-1) <| oIret) else oNo)) else (bif Nat.blt pc 40 then (bif Nat.beq pc 21 then (oAld 0 <| oGet (fgL) 2 0 <| oGet (fgL) 1 10 <| oIld 1 <| oI 0 <| oC3 (cL_X0_get) <| oIld 2 <| oCLt 40 <| oI (-2) <| oIret) else oNo) else (bif Nat.beq pc 40 then (oAld 0 <| oC1 (cL_X2_inputRefusal) <| oIret) else oNo))
theorem tX2_markRefusal_ok : ∀ pc, bOk (encL) (bdL) mX2_markRefusal 0 0 pc (tX2_markRefusal pc) := fun pc => (tNode (tNode (tLeaf (okAldn iX2_markRefusal_0 rfl <| okIldn iX2_markRefusal_1 rfl <| okC2 (qL_X2_isSource iX2_markRefusal_2) <| okZEq (tl rfl) iX2_markRefusal_5 <| okIldn iX2_markRefusal_8 rfl <| okZLt (tl rfl) iX2_markRefusal_9 <| okIldn iX2_markRefusal_12 rfl <| okSi iX2_markRefusal_13 (by decide) <| okCLe (tl rfl) iX2_markRefusal_16 <| okTo (tl rfl))) (tLeaf (okIc iX2_markRefusal_19 <| okIret iX2_markRefusal_20 rfl))) (tNode (tLeaf (okAldn iX2_markRefusal_21 rfl <| okGet (vFgL) iX2_markRefusal_22 <| okGet (vFgL) iX2_markRefusal_25 <| okIldn iX2_markRefusal_28 rfl <| okIc iX2_markRefusal_29 <| okC3 (qL_X0_get iX2_markRefusal_30) <| okIldn iX2_markRefusal_33 rfl <| okCLt (tl rfl) iX2_markRefusal_34 <| okBi iX2_markRefusal_37 (by decide) <| okIret iX2_markRefusal_39 rfl)) (tLeaf (okAldn iX2_markRefusal_40 rfl <| okC1 (qL_X2_inputRefusal iX2_markRefusal_41) <| okIret iX2_markRefusal_44 rfl)))) pc
-- X2_idleRefusal: heads []
def tX2_idleRefusal : Nat → Blk LSt := fun pc => bif Nat.blt pc 10 then (bif Nat.beq pc 0 then (oAld 0 <| oIld 1 <| oC2 (cL_X2_isSource) <| oZNe 10 <| oI (-1) <| oIret) else oNo) else (bif Nat.blt pc 28 then (bif Nat.beq pc 10 then (oAld 0 <| oGet (fgL) 2 0 <| oGet (fgL) 1 10 <| oIld 1 <| oI 2 <| oC3 (cL_X0_get) <| oZEq 28 <| oI (-2) <| oIret) else oNo) else (bif Nat.beq pc 28 then (oAld 0 <| oC1 (cL_X2_inputRefusal) <| oIret) else oNo))
theorem tX2_idleRefusal_ok : ∀ pc, bOk (encL) (bdL) mX2_idleRefusal 0 0 pc (tX2_idleRefusal pc) := fun pc => (tNode (tLeaf (okAldn iX2_idleRefusal_0 rfl <| okIldn iX2_idleRefusal_1 rfl <| okC2 (qL_X2_isSource iX2_idleRefusal_2) <| okZNe (tl rfl) iX2_idleRefusal_5 <| okIc iX2_idleRefusal_8 <| okIret iX2_idleRefusal_9 rfl)) (tNode (tLeaf (okAldn iX2_idleRefusal_10 rfl <| okGet (vFgL) iX2_idleRefusal_11 <| okGet (vFgL) iX2_idleRefusal_14 <| okIldn iX2_idleRefusal_17 rfl <| okIc iX2_idleRefusal_18 <| okC3 (qL_X0_get iX2_idleRefusal_19) <| okZEq (tl rfl) iX2_idleRefusal_22 <| okBi iX2_idleRefusal_25 (by decide) <| okIret iX2_idleRefusal_27 rfl)) (tLeaf (okAldn iX2_idleRefusal_28 rfl <| okC1 (qL_X2_inputRefusal iX2_idleRefusal_29) <| okIret iX2_idleRefusal_32 rfl)))) pc
def lEvR (s : LSt) (k t v r : Int) : Int := if lEv s k t v r then lIn s else -1
theorem lIn_b (s : LSt) : -3 ≤ lIn s ∧ lIn s ≤ 0 := by
  unfold lIn
  split <;> omega
def sX2_eventRefusal : Int → Int → Int → Int → LSt → KL → Prop := fun k t v r s K => (xB k ∧ xB t ∧ xB v ∧ xB r) ∧ (-3 ≤ lEvR s k t v r → lEvR s k t v r ≤ 0 → K [pI (lEvR s k t v r)] s)
theorem mX2_eventRefusal_ok : mOk encL bdL mX2_eventRefusal (atR 0 (a4 sX2_eventRefusal)) := by
  refine mOVa4 kX2_eventRefusal (fun _ _ _ _ => rfl) (fun k t v r s K h hb => wx_J [] 9 tX2_eventRefusal_ok rfl (fun J hR hJ => ?_))
  obtain ⟨h1, h2⟩ := h
  have hl := lIn_b s
  unfold lEvR at h2
  by_cases c : lEv s k t v r
  · rw [if_pos c] at h2
    have hK := h2 hl.1 hl.2
    repeat' (first | (refine And.intro ?_ ?_) | intro _)
    all_goals first | omega | exact hR _ _ hK | contradiction
  · rw [if_neg c] at h2
    have hK := h2 (by omega) (by omega)
    repeat' (first | (refine And.intro ?_ ?_) | intro _)
    all_goals first | omega | exact hR _ _ hK | contradiction
def cL_X2_eventRefusal : Sp LSt := atR 0 (a4 sX2_eventRefusal)
theorem qL_X2_eventRefusal {M : XI} {rc rs pc pc2 : Nat} (d : xl_Ca M pc mX2_eventRefusal pc2) : cOk encL bdL M rc rs pc pc2 5 cL_X2_eventRefusal := cSame mX2_eventRefusal_ok vX2_eventRefusal d lcl rfl lenL recL
def lMkR (s : LSt) (r t : Int) : Int := if lSrc s r ∧ 0 ≤ t ∧ t ≤ 20000 then (if t ≤ wG (s.2.2 0) 0 r 0 then -2 else lIn s) else -1
def sX2_markRefusal : Int → Int → LSt → KL → Prop := fun r t s K => (xB r ∧ xB t) ∧ (-3 ≤ lMkR s r t → lMkR s r t ≤ 0 → K [pI (lMkR s r t)] s)
theorem mX2_markRefusal_ok : mOk encL bdL mX2_markRefusal (atR 0 (a2 sX2_markRefusal)) := by
  refine mOVa2 kX2_markRefusal (fun _ _ => rfl) (fun r t s K h hb => wx_J [] 9 tX2_markRefusal_ok rfl (fun J hR hJ => ?_))
  obtain ⟨h1, h2⟩ := h
  have hl := lIn_b s
  unfold lMkR at h2
  by_cases c : lSrc s r ∧ 0 ≤ t ∧ t ≤ 20000
  · rw [if_pos c] at h2
    by_cases c2 : t ≤ wG (s.2.2 0) 0 r 0
    · rw [if_pos c2] at h2
      have hK := h2 (by omega) (by omega)
      repeat' (first | (refine And.intro ?_ ?_) | intro _)
      all_goals first | omega | exact hR _ _ hK | (exact absurd c.1 ‹_›)
    · rw [if_neg c2] at h2
      have hK := h2 hl.1 hl.2
      repeat' (first | (refine And.intro ?_ ?_) | intro _)
      all_goals first | omega | exact hR _ _ hK | (exact absurd c.1 ‹_›)
  · rw [if_neg c] at h2
    have hK := h2 (by omega) (by omega)
    repeat' (first | (refine And.intro ?_ ?_) | intro _)
    all_goals first | omega | exact hR _ _ hK
def cL_X2_markRefusal : Sp LSt := atR 0 (a2 sX2_markRefusal)
theorem qL_X2_markRefusal {M : XI} {rc rs pc pc2 : Nat} (d : xl_Ca M pc mX2_markRefusal pc2) : cOk encL bdL M rc rs pc pc2 3 cL_X2_markRefusal := cSame mX2_markRefusal_ok vX2_markRefusal d lcl rfl lenL recL
def lIdR (s : LSt) (r : Int) : Int := if lSrc s r then (if wG (s.2.2 0) 0 r 2 ≠ 0 then -2 else lIn s) else -1
def sX2_idleRefusal : Int → LSt → KL → Prop := fun r s K => xB r ∧ (-3 ≤ lIdR s r → lIdR s r ≤ 0 → K [pI (lIdR s r)] s)
theorem mX2_idleRefusal_ok : mOk encL bdL mX2_idleRefusal (atR 0 (a1 sX2_idleRefusal)) := by
  refine mOVa1 kX2_idleRefusal (fun _ => rfl) (fun r s K h hb => wx_J [] 9 tX2_idleRefusal_ok rfl (fun J hR hJ => ?_))
  obtain ⟨h1, h2⟩ := h
  have hl := lIn_b s
  unfold lIdR at h2
  by_cases c : lSrc s r
  · rw [if_pos c] at h2
    by_cases c2 : wG (s.2.2 0) 0 r 2 ≠ 0
    · rw [if_pos c2] at h2
      have hK := h2 (by omega) (by omega)
      repeat' (first | (refine And.intro ?_ ?_) | intro _)
      all_goals first | omega | exact hR _ _ hK | (exact absurd c ‹_›)
    · rw [if_neg c2] at h2
      have hK := h2 hl.1 hl.2
      repeat' (first | (refine And.intro ?_ ?_) | intro _)
      all_goals first | omega | exact hR _ _ hK | (exact absurd c ‹_›)
  · rw [if_neg c] at h2
    have hK := h2 (by omega) (by omega)
    repeat' (first | (refine And.intro ?_ ?_) | intro _)
    all_goals first | omega | exact hR _ _ hK | (exact absurd ‹_› c)
def cL_X2_idleRefusal : Sp LSt := atR 0 (a1 sX2_idleRefusal)
theorem qL_X2_idleRefusal {M : XI} {rc rs pc pc2 : Nat} (d : xl_Ca M pc mX2_idleRefusal pc2) : cOk encL bdL M rc rs pc pc2 2 cL_X2_idleRefusal := cSame mX2_idleRefusal_ok vX2_idleRefusal d lcl rfl lenL recL
def lTell1 (s : LSt) (x : Int) : LSt := lTell (setS s 3 0) x
def sX2_tellOne : Int → LSt → KL → Prop := fun x s K => xB x ∧ K [] (lTell1 s x)
theorem mX2_tellOne_ok : mOk encL bdL mX2_tellOne (atR 0 (j1 sX2_tellOne)) := by
  refine mOVj1 kX2_tellOne (fun _ => rfl) (fun x s K h hb => wx_J [] 9 tX2_tellOne_ok rfl (fun J hR hJ => ?_))
  exact ⟨⟨h.1, by show (0 : Int) ≤ 0; omega⟩, hR _ _ h.2⟩
def cL_X2_tellOne : Sp LSt := atR 0 (j1 sX2_tellOne)
theorem qL_X2_tellOne {M : XI} {rc rs pc pc2 : Nat} (d : xl_Ca M pc mX2_tellOne pc2) : cOk encL bdL M rc rs pc pc2 2 cL_X2_tellOne := cSame mX2_tellOne_ok vX2_tellOne d lcl rfl lenL recL
-- X2_tellTwo: heads []
def tX2_tellTwo : Nat → Blk LSt := fun pc => bif Nat.beq pc 0 then (oAld 0 <| oLld 1 <| oC2 (cL_X2_tellOne) <| oAld 0 <| oLld 3 <| oC2 (cL_X2_tellMore) <| oVret) else oNo
theorem tX2_tellTwo_ok : ∀ pc, bOk (encL) (bdL) mX2_tellTwo 0 0 pc (tX2_tellTwo pc) := fun pc => (tLeaf (okAldn iX2_tellTwo_0 rfl <| okLldn iX2_tellTwo_1 rfl <| okC2 (qL_X2_tellOne iX2_tellTwo_2) <| okAldn iX2_tellTwo_5 rfl <| okLldn iX2_tellTwo_6 rfl <| okC2 (qL_X2_tellMore iX2_tellTwo_7) <| okVret iX2_tellTwo_10 rfl)) pc
theorem lTell1_n {s : LSt} {x : Int} : (lTell1 s x).1 3 = 1 := by
  unfold lTell1 lTell
  rw [if_pos (by show (0 : Int) < 6; omega)]
  rfl
def lTell2 (s : LSt) (x y : Int) : LSt := lTell (lTell1 s x) y
def sX2_tellTwo : Int → Int → LSt → KL → Prop := fun x y s K => (xB x ∧ xB y) ∧ K [] (lTell2 s x y)
theorem mX2_tellTwo_ok : mOk encL bdL mX2_tellTwo (atR 0 (j2 sX2_tellTwo)) := by
  refine mOVj2 kX2_tellTwo (fun _ _ => rfl) (fun x y s K h hb => wx_J [] 9 tX2_tellTwo_ok rfl (fun J hR hJ => ?_))
  exact ⟨h.1.1, ⟨h.1.2, by rw [lTell1_n]; omega⟩, hR _ _ h.2⟩
def cL_X2_tellTwo : Sp LSt := atR 0 (j2 sX2_tellTwo)
theorem qL_X2_tellTwo {M : XI} {rc rs pc pc2 : Nat} (d : xl_Ca M pc mX2_tellTwo pc2) : cOk encL bdL M rc rs pc pc2 3 cL_X2_tellTwo := cSame mX2_tellTwo_ok vX2_tellTwo d lcl rfl lenL recL
-- X2_tellThree: heads []
def tX2_tellThree : Nat → Blk LSt := fun pc => bif Nat.beq pc 0 then (oAld 0 <| oLld 1 <| oLld 3 <| oC3 (cL_X2_tellTwo) <| oAld 0 <| oLld 5 <| oC2 (cL_X2_tellMore) <| oVret) else oNo
theorem tX2_tellThree_ok : ∀ pc, bOk (encL) (bdL) mX2_tellThree 0 0 pc (tX2_tellThree pc) := fun pc => (tLeaf (okAldn iX2_tellThree_0 rfl <| okLldn iX2_tellThree_1 rfl <| okLldn iX2_tellThree_2 rfl <| okC3 (qL_X2_tellTwo iX2_tellThree_3) <| okAldn iX2_tellThree_6 rfl <| okLld iX2_tellThree_7 <| okC2 (qL_X2_tellMore iX2_tellThree_9) <| okVret iX2_tellThree_12 rfl)) pc
theorem lTell2_n {s : LSt} {x y : Int} : (lTell2 s x y).1 3 = 2 := by
  unfold lTell2 lTell
  rw [if_pos (by rw [lTell1_n]; omega)]
  show (lTell1 s x).1 3 + 1 = 2
  rw [lTell1_n]
  rfl
def lTell3 (s : LSt) (x y z : Int) : LSt := lTell (lTell2 s x y) z
def sX2_tellThree : Int → Int → Int → LSt → KL → Prop := fun x y z s K => (xB x ∧ xB y ∧ xB z) ∧ K [] (lTell3 s x y z)
theorem mX2_tellThree_ok : mOk encL bdL mX2_tellThree (atR 0 (j3 sX2_tellThree)) := by
  refine mOVj3 kX2_tellThree (fun _ _ _ => rfl) (fun x y z s K h hb => wx_J [] 9 tX2_tellThree_ok rfl (fun J hR hJ => ?_))
  exact ⟨⟨h.1.1, h.1.2.1⟩, ⟨h.1.2.2, by rw [lTell2_n]; omega⟩, hR _ _ h.2⟩
def cL_X2_tellThree : Sp LSt := atR 0 (j3 sX2_tellThree)
theorem qL_X2_tellThree {M : XI} {rc rs pc pc2 : Nat} (d : xl_Ca M pc mX2_tellThree pc2) : cOk encL bdL M rc rs pc pc2 4 cL_X2_tellThree := cSame mX2_tellThree_ok vX2_tellThree d lcl rfl lenL recL
