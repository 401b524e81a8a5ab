/-! ===== the model: fallsInto, laysTimes, parts ===== -/
-- X3_fallsInto: heads [4]
def tX3_fallsInto : Nat → Blk MS := fun pc => bif Nat.blt pc 40 then (bif Nat.blt pc 4 then (bif Nat.beq pc 0 then (oI 0 <| oIst 2 <| oI 0 <| oIst 3 <| oM [true, true, true, true] (oTo 4)) else oNo) else (bif Nat.blt pc 36 then (bif Nat.beq pc 4 then (oIld 3 <| oAld 0 <| oGet (fgM) 3 19 <| oCGe 52 <| oIld 2 <| oIld 3 <| oZEq 36 <| oAld 0 <| oGet (fgM) 3 17 <| oIld 3 <| oIa (agM) <| oAld 0 <| oGet (fgM) 3 17 <| oIld 3 <| oI 1 <| oSub <| oIa (agM) <| oSubW <| oIld 1 <| oCLe 40 <| oTo 36) else oNo) else (bif Nat.beq pc 36 then (oI 1 <| oTo 41) else oNo))) else (bif Nat.blt pc 41 then (bif Nat.beq pc 40 then (oI 0 <| oTo 41) else oNo) else (bif Nat.blt pc 52 then (bif Nat.beq pc 41 then (oC1 (cM_X3_flag) <| oAddW <| oIst 2 <| oInc 3 1 <| oM [true, true, true, true] (oTo 4)) else oNo) else (bif Nat.beq pc 52 then (oIld 2 <| oIret) else oNo)))
theorem tX3_fallsInto_ok : ∀ pc, bOk (encM) (bdM) mX3_fallsInto 0 0 pc (tX3_fallsInto pc) := fun pc => (tNode (tNode (tLeaf (okIc iX3_fallsInto_0 <| okIstn iX3_fallsInto_1 rfl (by decide) <| okIc iX3_fallsInto_2 <| okIstn iX3_fallsInto_3 rfl (by decide) <| okM (okTo (tl rfl)))) (tNode (tLeaf (okIldn iX3_fallsInto_4 rfl <| okAldn iX3_fallsInto_5 rfl <| okGet (vFgM) iX3_fallsInto_6 <| okCGe (tl rfl) iX3_fallsInto_9 <| okIldn iX3_fallsInto_12 rfl <| okIldn iX3_fallsInto_13 rfl <| okZEq (tl rfl) iX3_fallsInto_14 <| okAldn iX3_fallsInto_17 rfl <| okGet (vFgM) iX3_fallsInto_18 <| okIldn iX3_fallsInto_21 rfl <| okIa (vAgM) iX3_fallsInto_22 <| okAldn iX3_fallsInto_23 rfl <| okGet (vFgM) iX3_fallsInto_24 <| okIldn iX3_fallsInto_27 rfl <| okIc iX3_fallsInto_28 <| okSub iX3_fallsInto_29 <| okIa (vAgM) iX3_fallsInto_30 <| okSubW iX3_fallsInto_31 <| okIldn iX3_fallsInto_32 rfl <| okCLe (tl rfl) iX3_fallsInto_33 <| okTo (tl rfl))) (tLeaf (okIc iX3_fallsInto_36 <| okGoto (tl rfl) iX3_fallsInto_37)))) (tNode (tLeaf (okIc iX3_fallsInto_40 <| okTo (tl rfl))) (tNode (tLeaf (okC1 (qM_X3_flag iX3_fallsInto_41) <| okAddW iX3_fallsInto_44 <| okIstn iX3_fallsInto_45 rfl (by decide) <| okInc iX3_fallsInto_46 (by decide) <| okGotoM (tl rfl) iX3_fallsInto_49)) (tLeaf (okIldn iX3_fallsInto_52 rfl <| okIret iX3_fallsInto_53 rfl))))) pc
-- X3_laysTimes: heads [7, 54]
def tX3_laysTimes : Nat → Blk MS := fun pc => bif Nat.blt pc 54 then (bif Nat.blt pc 7 then (bif Nat.beq pc 0 then (oAld 0 <| oI 0 <| oPut (fpM) 3 19 <| oI 0 <| oIst 2 <| oM [true, true, true, false] (oTo 7)) else oNo) else (bif Nat.blt pc 49 then (bif Nat.beq pc 7 then (oIld 2 <| oAld 0 <| oI 0 <| oI 6 <| oC3 (cM_X3_of) <| oCGe 149 <| oAld 0 <| oIld 2 <| oI 0 <| oC3 (cM_X3_ofInput) <| oZNe 143 <| oAld 0 <| oIld 2 <| oI 3 <| oC3 (cM_X3_ofInput) <| oIld 1 <| oCNe 143 <| oAld 0 <| oIld 2 <| oI 5 <| oC3 (cM_X3_ofInput) <| oZNe 49 <| oTo 143) else oNo) else (bif Nat.beq pc 49 then (oAld 0 <| oGet (fgM) 3 19 <| oIst 3 <| oM [true, true, true, true] (oTo 54)) else oNo))) else (bif Nat.blt pc 143 then (bif Nat.blt pc 109 then (bif Nat.beq pc 54 then (oIld 3 <| oZLe 109 <| oAld 0 <| oGet (fgM) 3 17 <| oIld 3 <| oI 1 <| oSub <| oIa (agM) <| oAld 0 <| oIld 2 <| oI 2 <| oC3 (cM_X3_ofInput) <| oCLe 109 <| oAld 0 <| oGet (fgM) 3 17 <| oIld 3 <| oAld 0 <| oGet (fgM) 3 17 <| oIld 3 <| oI 1 <| oSub <| oIa (agM) <| oIas (agM) (apM) <| oAld 0 <| oGet (fgM) 3 18 <| oIld 3 <| oAld 0 <| oGet (fgM) 3 18 <| oIld 3 <| oI 1 <| oSub <| oIa (agM) <| oIas (agM) (apM) <| oInc 3 (-1) <| oM [true, true, true, true] (oTo 54)) else oNo) else (bif Nat.beq pc 109 then (oAld 0 <| oGet (fgM) 3 17 <| oIld 3 <| oAld 0 <| oIld 2 <| oI 2 <| oC3 (cM_X3_ofInput) <| oIas (agM) (apM) <| oAld 0 <| oGet (fgM) 3 18 <| oIld 3 <| oAld 0 <| oIld 2 <| oI 4 <| oC3 (cM_X3_ofInput) <| oIas (agM) (apM) <| oAld 0 <| oDup <| oGet (fgM) 3 19 <| oI 1 <| oAdd <| oPut (fpM) 3 19 <| oTo 143) else oNo)) else (bif Nat.blt pc 149 then (bif Nat.beq pc 143 then (oInc 2 1 <| oM [true, true, true, false] (oTo 7)) else oNo) else (bif Nat.beq pc 149 then (oVret) else oNo)))
theorem tX3_laysTimes_ok : ∀ pc, bOk (encM) (bdM) mX3_laysTimes 0 0 pc (tX3_laysTimes pc) := fun pc => (tNode (tNode (tLeaf (okAldn iX3_laysTimes_0 rfl <| okIc iX3_laysTimes_1 <| okPut (vFpM) iX3_laysTimes_2 <| okIc iX3_laysTimes_5 <| okIstn iX3_laysTimes_6 rfl (by decide) <| okM (okTo (tl rfl)))) (tNode (tLeaf (okIldn iX3_laysTimes_7 rfl <| okAldn iX3_laysTimes_8 rfl <| okIc iX3_laysTimes_9 <| okBi iX3_laysTimes_10 (by decide) <| okC3 (qM_X3_of iX3_laysTimes_12) <| okCGe (tl rfl) iX3_laysTimes_15 <| okAldn iX3_laysTimes_18 rfl <| okIldn iX3_laysTimes_19 rfl <| okIc iX3_laysTimes_20 <| okC3 (qM_X3_ofInput iX3_laysTimes_21) <| okZNe (tl rfl) iX3_laysTimes_24 <| okAldn iX3_laysTimes_27 rfl <| okIldn iX3_laysTimes_28 rfl <| okIc iX3_laysTimes_29 <| okC3 (qM_X3_ofInput iX3_laysTimes_30) <| okIldn iX3_laysTimes_33 rfl <| okCNe (tl rfl) iX3_laysTimes_34 <| okAldn iX3_laysTimes_37 rfl <| okIldn iX3_laysTimes_38 rfl <| okIc iX3_laysTimes_39 <| okC3 (qM_X3_ofInput iX3_laysTimes_40) <| okZNe (tl rfl) iX3_laysTimes_43 <| okGoto (tl rfl) iX3_laysTimes_46)) (tLeaf (okAldn iX3_laysTimes_49 rfl <| okGet (vFgM) iX3_laysTimes_50 <| okIstn iX3_laysTimes_53 rfl (by decide) <| okM (okTo (tl rfl)))))) (tNode (tNode (tLeaf (okIldn iX3_laysTimes_54 rfl <| okZLe (tl rfl) iX3_laysTimes_55 <| okAldn iX3_laysTimes_58 rfl <| okGet (vFgM) iX3_laysTimes_59 <| okIldn iX3_laysTimes_62 rfl <| okIc iX3_laysTimes_63 <| okSub iX3_laysTimes_64 <| okIa (vAgM) iX3_laysTimes_65 <| okAldn iX3_laysTimes_66 rfl <| okIldn iX3_laysTimes_67 rfl <| okIc iX3_laysTimes_68 <| okC3 (qM_X3_ofInput iX3_laysTimes_69) <| okCLe (tl rfl) iX3_laysTimes_72 <| okAldn iX3_laysTimes_75 rfl <| okGet (vFgM) iX3_laysTimes_76 <| okIldn iX3_laysTimes_79 rfl <| okAldn iX3_laysTimes_80 rfl <| okGet (vFgM) iX3_laysTimes_81 <| okIldn iX3_laysTimes_84 rfl <| okIc iX3_laysTimes_85 <| okSub iX3_laysTimes_86 <| okIa (vAgM) iX3_laysTimes_87 <| okIas (vAgM) iX3_laysTimes_88 <| okAldn iX3_laysTimes_89 rfl <| okGet (vFgM) iX3_laysTimes_90 <| okIldn iX3_laysTimes_93 rfl <| okAldn iX3_laysTimes_94 rfl <| okGet (vFgM) iX3_laysTimes_95 <| okIldn iX3_laysTimes_98 rfl <| okIc iX3_laysTimes_99 <| okSub iX3_laysTimes_100 <| okIa (vAgM) iX3_laysTimes_101 <| okIas (vAgM) iX3_laysTimes_102 <| okInc iX3_laysTimes_103 (by decide) <| okGotoM (tl rfl) iX3_laysTimes_106)) (tLeaf (okAldn iX3_laysTimes_109 rfl <| okGet (vFgM) iX3_laysTimes_110 <| okIldn iX3_laysTimes_113 rfl <| okAldn iX3_laysTimes_114 rfl <| okIldn iX3_laysTimes_115 rfl <| okIc iX3_laysTimes_116 <| okC3 (qM_X3_ofInput iX3_laysTimes_117) <| okIas (vAgM) iX3_laysTimes_120 <| okAldn iX3_laysTimes_121 rfl <| okGet (vFgM) iX3_laysTimes_122 <| okIldn iX3_laysTimes_125 rfl <| okAldn iX3_laysTimes_126 rfl <| okIldn iX3_laysTimes_127 rfl <| okIc iX3_laysTimes_128 <| okC3 (qM_X3_ofInput iX3_laysTimes_129) <| okIas (vAgM) iX3_laysTimes_132 <| okAldn iX3_laysTimes_133 rfl <| okDup iX3_laysTimes_134 <| okGet (vFgM) iX3_laysTimes_135 <| okIc iX3_laysTimes_138 <| okAdd iX3_laysTimes_139 <| okPut (vFpM) iX3_laysTimes_140 <| okTo (tl rfl)))) (tNode (tLeaf (okInc iX3_laysTimes_143 (by decide) <| okGotoM (tl rfl) iX3_laysTimes_146)) (tLeaf (okVret iX3_laysTimes_149 rfl))))) pc
abbrev mT (s : MS) (k : Int) : Int := s.2 9 k.toNat
abbrev mV (s : MS) (k : Int) : Int := s.2 10 k.toNat
def fiB (s : MS) (g k : Int) : Int := if k = 0 then 1 else if wI (mT s k - mT s (k - 1)) ≤ g then 0 else 1
def fiN (s : MS) (g : Int) : Nat → Int → Int → Int
  | 0, _, n => n
  | m + 1, k, n => if s.1 19 ≤ k then n else fiN s g m (k + 1) (wI (n + fiB s g k))
theorem X3_fallsInto_e {K : KM} {Pt : MS → Prop} (g n k e : Int) (s : MS) (he : e = 0 ∨ e = 1) (h : wX encM bdM mX3_fallsInto 0 0 K Pt 4 [some (pR 0), some (pI g), some (pI (wI (n + e))), some (pI (k + 1))] [] s) : wX encM bdM mX3_fallsInto 0 0 K Pt 41 [some (pR 0), some (pI g), some (pI n), some (pI k)] [pI e, pI n] s := by
  refine wx_J [4, 41] 9 tX3_fallsInto_ok rfl (fun J hR hJ => ?_)
  exact ⟨he, fun _ => hJ _ _ _ _ h⟩
theorem X3_fallsInto_l {K : KM} {Pt : MS → Prop} (g : Int) (s : MS) (hg : xB g) (ht : s.1 19 ≤ 160) : ∀ (m : Nat) (k n : Int), 0 ≤ k → k + m = 160 → K [pI (fiN s g m k n)] s → wX encM bdM mX3_fallsInto 0 0 K Pt 4 [some (pR 0), some (pI g), some (pI n), some (pI k)] [] s := by
  have fin : ∀ (k n : Int), 0 ≤ k → k ≤ 160 → s.1 19 ≤ k → K [pI n] s → wX encM bdM mX3_fallsInto 0 0 K Pt 4 [some (pR 0), some (pI g), some (pI n), some (pI k)] [] s := by
    intro k n h0 h1 hk hK
    refine wx_J [4, 41] 9 tX3_fallsInto_ok rfl (fun J hR hJ => ?_)
    exact fun hx => ⟨⟨⟨by omega, by omega⟩, hx⟩, fun _ => hR _ _ hK, fun q => absurd q (by omega)⟩
  intro m
  induction m with
  | zero =>
    intro k n h0 h1 hK
    exact fin k n h0 (by omega) (by omega) hK
  | succ m ih =>
    intro k n h0 h1 hK
    unfold fiN at hK
    by_cases c : s.1 19 ≤ k
    · rw [if_pos c] at hK
      exact fin k n h0 (by omega) c hK
    · rw [if_neg c] at hK
      have w := ih (k + 1) _ (by omega) (by omega) hK
      refine wx_J [4, 41] 9 tX3_fallsInto_ok rfl (fun J hR hJ => ?_)
      have z0 : fiB s g k = 0 → J 41 [some (pR 0), some (pI g), some (pI n), some (pI k)] [pI 0, pI n] s := fun e => by
        rw [e] at w
        exact hJ _ _ _ _ (X3_fallsInto_e g n k 0 s (Or.inl rfl) w)
      have z1 : fiB s g k = 1 → J 41 [some (pR 0), some (pI g), some (pI n), some (pI k)] [pI 1, pI n] s := fun e => by
        rw [e] at w
        exact hJ _ _ _ _ (X3_fallsInto_e g n k 1 s (Or.inr rfl) w)
      refine fun hx => ⟨⟨⟨by omega, by omega⟩, hx⟩, fun q => absurd q c, fun _ => ⟨⟨by omega, by omega⟩, fun q => z1 (if_pos q), fun q => ?_⟩⟩
      refine ⟨⟨by omega, by omega⟩, fun b1 => ⟨⟨by omega, by omega⟩, fun b2 hw => ⟨⟨hw, hg⟩, fun q2 => z0 ?_, fun q2 => z1 ?_⟩⟩⟩
      · unfold fiB
        rw [if_neg q, if_pos q2]
      · unfold fiB
        rw [if_neg q, if_neg (Int.not_le.mpr q2)]
def sX3_fallsInto : Int → MS → KM → Prop := fun g s K => (xB g ∧ s.1 19 ≤ 160) ∧ K [pI (fiN s g 160 0 0)] s
theorem mX3_fallsInto_ok : mOk encM bdM mX3_fallsInto (atR 0 (a1 sX3_fallsInto)) := by
  refine mOVa1 kX3_fallsInto (fun _ => rfl) (fun g s K h hb => wx_J [4, 41] 9 tX3_fallsInto_ok rfl (fun J hR hJ => ?_))
  obtain ⟨⟨h1, h2⟩, p⟩ := h
  exact hJ _ _ _ _ (X3_fallsInto_l g s h1 h2 160 0 0 (by omega) (by omega) p)
def cM_X3_fallsInto : Sp MS := atR 0 (a1 sX3_fallsInto)
theorem qM_X3_fallsInto {M : XI} {rc rs pc pc2 : Nat} (d : xl_Ca M pc mX3_fallsInto pc2) : cOk encM bdM M rc rs pc pc2 2 cM_X3_fallsInto := cSame mX3_fallsInto_ok vX3_fallsInto d mcl rfl lenM recM
