/-! ===== texts: the model reads an act ===== -/
theorem tkL_2 (s : MS) (j : Nat) : ∀ (m : Nat) (k : Int), (tkL s j m k).2.2 = s.2
  | 0, _ => rfl
  | m + 1, k => by
    rw [tkL]
    split
    · rfl
    · split
      · rfl
      · exact tkL_2 s j m (k + 1)
theorem dgL_2 : ∀ (m : Nat) (v : Int) (s : MS), (dgL m v s).2.2 = s.2
  | 0, _, _ => rfl
  | m + 1, v, s => by
    rw [dgL]
    split
    · rfl
    · rw [dgL_2 m]
      exact tkL_2 s 6 _ 0
theorem gDg_2 (s : MS) (n : Int) : (gDg s n).2.2 = s.2 := dgL_2 _ _ s
theorem gTk_2 (s : MS) (j : Nat) : (gTk s j).2.2 = s.2 := tkL_2 s j _ 0
theorem reF_01 (s : MS) (v any : Int) : (reF s v any).1 = 0 ∨ (reF s v any).1 = 1 := by
  unfold reF
  repeat' split
  all_goals first | exact Or.inl rfl | exact Or.inr rfl
theorem gRe_01 (s : MS) (k any : Int) : (gRe s k any).1 = 0 ∨ (gRe s k any).1 = 1 := by
  unfold gRe reE0 reE1 reE2 reE3 reE4 reE5
  repeat' split
  all_goals exact reF_01 _ _ _
-- X3_readsAct: heads []
def tX3_readsAct : Nat → Blk MS := fun pc => bif Nat.blt pc 71 then (bif Nat.blt pc 47 then (bif Nat.blt pc 29 then (bif Nat.beq pc 0 then (oAld 0 <| oGet (fgM) 3 20 <| oIld 1 <| oAld 0 <| oS 8 <| oC2 (cM_X3_takesOf) <| oIas (agM) (apM) <| oAld 0 <| oGet (fgM) 3 20 <| oIld 1 <| oIa (agM) <| oZNe 29 <| oAld 0 <| oIld 1 <| oI 1 <| oC3 (cM_X3_readsEvent) <| oZret) else oNo) else (bif Nat.beq pc 29 then (oAld 0 <| oGet (fgM) 3 16 <| oIld 1 <| oAld 0 <| oGet (fgM) 3 20 <| oIld 1 <| oIa (agM) <| oZGe 47 <| oI (-1) <| oTo 52) else oNo)) else (bif Nat.blt pc 52 then (bif Nat.beq pc 47 then (oAld 0 <| oI 1 <| oC2 (cM_X3_digits) <| oTo 52) else oNo) else (bif Nat.beq pc 52 then (oIas (agM) (apM) <| oAld 0 <| oGet (fgM) 3 14 <| oIld 1 <| oAld 0 <| oGet (fgM) 3 16 <| oIld 1 <| oIa (agM) <| oZGe 71 <| oI (-1) <| oTo 90) else oNo))) else (bif Nat.blt pc 90 then (bif Nat.blt pc 89 then (bif Nat.beq pc 71 then (oAld 0 <| oGet (fgM) 3 20 <| oIld 1 <| oIa (agM) <| oI 1 <| oCNe 89 <| oAld 0 <| oI 5 <| oC2 (cM_X3_digits) <| oTo 90) else oNo) else (bif Nat.beq pc 89 then (oI 0 <| oTo 90) else oNo)) else (bif Nat.blt pc 104 then (bif Nat.beq pc 90 then (oIas (agM) (apM) <| oAld 0 <| oGet (fgM) 3 14 <| oIld 1 <| oIa (agM) <| oZLt 104 <| oI 1 <| oTo 105) else oNo) else (bif Nat.blt pc 105 then (bif Nat.beq pc 104 then (oI 0 <| oTo 105) else oNo) else (bif Nat.beq pc 105 then (oZret) else oNo))))
theorem tX3_readsAct_ok : ∀ pc, bOk (encM) (bdM) mX3_readsAct 0 0 pc (tX3_readsAct pc) := fun pc => (tNode (tNode (tNode (tLeaf (okAldn iX3_readsAct_0 rfl <| okGet (vFgM) iX3_readsAct_1 <| okIldn iX3_readsAct_4 rfl <| okAldn iX3_readsAct_5 rfl <| okSw (j := 8) (by decide) rfl iX3_readsAct_6 <| okC2 (qM_X3_takesOf iX3_readsAct_9) <| okIas (vAgM) iX3_readsAct_12 <| okAldn iX3_readsAct_13 rfl <| okGet (vFgM) iX3_readsAct_14 <| okIldn iX3_readsAct_17 rfl <| okIa (vAgM) iX3_readsAct_18 <| okZNe (tl rfl) iX3_readsAct_19 <| okAldn iX3_readsAct_22 rfl <| okIldn iX3_readsAct_23 rfl <| okIc iX3_readsAct_24 <| okC3 (qM_X3_readsEvent iX3_readsAct_25) <| okZret iX3_readsAct_28 rfl)) (tLeaf (okAldn iX3_readsAct_29 rfl <| okGet (vFgM) iX3_readsAct_30 <| okIldn iX3_readsAct_33 rfl <| okAldn iX3_readsAct_34 rfl <| okGet (vFgM) iX3_readsAct_35 <| okIldn iX3_readsAct_38 rfl <| okIa (vAgM) iX3_readsAct_39 <| okZGe (tl rfl) iX3_readsAct_40 <| okIc iX3_readsAct_43 <| okGoto (tl rfl) iX3_readsAct_44))) (tNode (tLeaf (okAldn iX3_readsAct_47 rfl <| okIc iX3_readsAct_48 <| okC2 (qM_X3_digits iX3_readsAct_49) <| okTo (tl rfl))) (tLeaf (okIas (vAgM) iX3_readsAct_52 <| okAldn iX3_readsAct_53 rfl <| okGet (vFgM) iX3_readsAct_54 <| okIldn iX3_readsAct_57 rfl <| okAldn iX3_readsAct_58 rfl <| okGet (vFgM) iX3_readsAct_59 <| okIldn iX3_readsAct_62 rfl <| okIa (vAgM) iX3_readsAct_63 <| okZGe (tl rfl) iX3_readsAct_64 <| okIc iX3_readsAct_67 <| okGoto (tl rfl) iX3_readsAct_68)))) (tNode (tNode (tLeaf (okAldn iX3_readsAct_71 rfl <| okGet (vFgM) iX3_readsAct_72 <| okIldn iX3_readsAct_75 rfl <| okIa (vAgM) iX3_readsAct_76 <| okIc iX3_readsAct_77 <| okCNe (tl rfl) iX3_readsAct_78 <| okAldn iX3_readsAct_81 rfl <| okIc iX3_readsAct_82 <| okC2 (qM_X3_digits iX3_readsAct_83) <| okGoto (tl rfl) iX3_readsAct_86)) (tLeaf (okIc iX3_readsAct_89 <| okTo (tl rfl)))) (tNode (tLeaf (okIas (vAgM) iX3_readsAct_90 <| okAldn iX3_readsAct_91 rfl <| okGet (vFgM) iX3_readsAct_92 <| okIldn iX3_readsAct_95 rfl <| okIa (vAgM) iX3_readsAct_96 <| okZLt (tl rfl) iX3_readsAct_97 <| okIc iX3_readsAct_100 <| okGoto (tl rfl) iX3_readsAct_101)) (tNode (tLeaf (okIc iX3_readsAct_104 <| okTo (tl rfl))) (tLeaf (okZret iX3_readsAct_105 rfl)))))) pc
def st11 (p : Int × MS) (k : Int) : MS := mA p.2 11 (xup (p.2.2 11) k.toNat p.1)
def raE3 (p : Int × MS) (k : Int) : Int × MS := (if p.1 < 0 then 0 else 1, st6 p k)
def raE2 (p : Int × MS) (k a : Int) : Int × MS := if p.1 < 0 then raE3 (-1, st8 p k) k else if a = 1 then raE3 (gDg (st8 p k) 5) k else raE3 (0, st8 p k) k
def raE1 (s : MS) (k a : Int) : Int × MS := if a < 0 then raE2 (-1, s) k a else raE2 (gDg s 1) k a
def raE0 (p : Int × MS) (k : Int) : Int × MS := if p.1 = 0 then gRe (st11 p k) k 1 else raE1 (st11 p k) k p.1
def gRa (s : MS) (k : Int) : Int × MS := raE0 (gTk s 8) k
def sX3_readsAct : Int → MS → KM → Prop := fun k s K => ((0 ≤ k ∧ k < 80) ∧ 0 ≤ s.1 5 ∧ s.1 5 ≤ 80 ∧ s.1 6 ≤ 80 ∧ 0 ≤ mg s 0) ∧ K [pI (gRa s k).1] (gRa s k).2
theorem ra_90 {K : KM} {Pt : MS → Prop} (k : Int) (hk : 0 ≤ k ∧ k < 80) (p : Int × MS) (hp : -1 ≤ p.1 ∧ p.1 ≤ 1000000) (hK : K [pI (raE3 p k).1] (raE3 p k).2) : wX encM bdM mX3_readsAct 0 0 K Pt 90 [some (pR 0), some (pI k)] [pI p.1, pI k, pR 6] p.2 := by
  refine wx_J [] 9 tX3_readsAct_ok rfl (fun J hR hJ => ?_)
  refine ⟨⟨hk.1, by omega, by omega, by omega⟩, ⟨by omega, by omega⟩, fun b => ⟨b, fun q => ?_, fun q => ?_⟩⟩
  · have q2 : xup (p.2.2 6) k.toNat p.1 k.toNat < 0 := q
    rw [xup_e] at q2
    unfold raE3 at hK
    rw [if_pos q2] at hK
    exact ⟨Or.inl rfl, hR _ _ hK⟩
  · have q2 : 0 ≤ xup (p.2.2 6) k.toNat p.1 k.toNat := q
    rw [xup_e] at q2
    unfold raE3 at hK
    rw [if_neg (by omega)] at hK
    exact ⟨Or.inr rfl, hR _ _ hK⟩
theorem ra_52 {K : KM} {Pt : MS → Prop} (k : Int) (hk : 0 ≤ k ∧ k < 80) (p : Int × MS) (a : Int) (ha : p.2.2 11 k.toNat = a) (hp : -1 ≤ p.1 ∧ p.1 ≤ 1000000) (hg : gd p.2) (hK : K [pI (raE2 p k a).1] (raE2 p k a).2) : wX encM bdM mX3_readsAct 0 0 K Pt 52 [some (pR 0), some (pI k)] [pI p.1, pI k, pR 8] p.2 := by
  refine wx_J [90] 9 tX3_readsAct_ok rfl (fun J hR hJ => ?_)
  have hg1 : gd (st8 p k) := hg.r (rF_A (by decide))
  unfold raE2 at hK
  refine ⟨⟨hk.1, by omega, by omega, by omega⟩, ⟨by omega, by omega⟩, fun b => ⟨b, fun q => ?_, fun q => ?_⟩⟩
  · have q2 : 0 ≤ xup (p.2.2 8) k.toNat p.1 k.toNat := q
    rw [xup_e] at q2
    rw [if_neg (by omega)] at hK
    refine ⟨⟨by omega, by omega⟩, fun b2 => ⟨⟨b2, by omega, by omega⟩, fun c => ?_, fun c => ?_⟩⟩
    · have c : p.2.2 11 k.toNat ≠ 1 := c
      rw [if_neg (by rw [← ha]; exact c)] at hK
      exact hJ _ _ _ _ (ra_90 k hk (0, st8 p k) ⟨by show (-1 : Int) ≤ 0; decide, by show (0 : Int) ≤ 1000000; decide⟩ hK)
    · have c : p.2.2 11 k.toNat = 1 := c
      rw [if_pos (by rw [← ha]; exact c)] at hK
      have d := dg_b (st8 p k) (n := 5) (by decide)
      exact ⟨⟨by decide, hg1.1, hg1.2.2.1⟩, hJ _ _ _ _ (ra_90 k hk (gDg (st8 p k) 5) ⟨d.1.1, by omega⟩ hK)⟩
  · have q2 : xup (p.2.2 8) k.toNat p.1 k.toNat < 0 := q
    rw [xup_e] at q2
    rw [if_pos q2] at hK
    exact hJ _ _ _ _ (ra_90 k hk (-1, st8 p k) ⟨by show (-1 : Int) ≤ -1; decide, by show (-1 : Int) ≤ 1000000; decide⟩ hK)
theorem mX3_readsAct_ok : mOk encM bdM mX3_readsAct (atR 0 (a1 sX3_readsAct)) := by
  refine mOVa1 kX3_readsAct (fun _ => rfl) (fun k s K h hb => wx_J [52] 9 tX3_readsAct_ok rfl (fun J hR hJ => ?_))
  obtain ⟨⟨hk, hg⟩, hK⟩ := h
  have hg : gd s := hg
  have f := gTk_f s 8 (by decide)
  unfold gRa at hK
  refine ⟨⟨by decide, hg.1, hg.2.2.1⟩, ?_⟩
  generalize gTk s 8 = p at f hK ⊢
  obtain ⟨⟨g1, g2⟩, gF, -⟩ := f
  have hg0 := hg.r gF
  have hg1 : gd (st11 p k) := hg0.r (rF_A (by decide))
  have e11 : (st11 p k).2 11 k.toNat = p.1 := xup_e
  unfold raE0 at hK
  refine ⟨⟨hk.1, by omega, by omega, by omega⟩, ⟨by omega, by omega⟩, fun b => ⟨b, fun q => ?_, fun q => ?_⟩⟩
  · have q2 : xup (p.2.2 11) k.toNat p.1 k.toNat ≠ 0 := q
    rw [xup_e] at q2
    rw [if_neg q2] at hK
    unfold raE1 at hK
    refine ⟨⟨by omega, by omega⟩, fun b2 => ⟨b2, fun c => ?_, fun c => ?_⟩⟩
    · have c : 0 ≤ xup (p.2.2 11) k.toNat p.1 k.toNat := c
      rw [xup_e] at c
      rw [if_neg (by omega)] at hK
      have d := dg_b (st11 p k) (n := 1) (by decide)
      have ed : (gDg (st11 p k) 1).2.2 11 k.toNat = p.1 := by
        have := gDg_2 (st11 p k) 1
        rw [this, e11]
      exact ⟨⟨by decide, hg1.1, hg1.2.2.1⟩, hJ _ _ _ _ (ra_52 k hk (gDg (st11 p k) 1) p.1 ed ⟨d.1.1, by omega⟩ (hg1.r d.2.1) hK)⟩
    · have c : xup (p.2.2 11) k.toNat p.1 k.toNat < 0 := c
      rw [xup_e] at c
      rw [if_pos c] at hK
      exact hJ _ _ _ _ (ra_52 k hk (-1, st11 p k) p.1 e11 ⟨by show (-1 : Int) ≤ -1; decide, by show (-1 : Int) ≤ 1000000; decide⟩ hg1 hK)
  · have q2 : xup (p.2.2 11) k.toNat p.1 k.toNat = 0 := q
    rw [xup_e] at q2
    rw [if_pos q2] at hK
    refine ⟨⟨hk, Or.inr rfl, hg1⟩, ?_, hR _ _ hK⟩
    exact gRe_01 _ _ _
def cM_X3_readsAct : Sp MS := atR 0 (a1 sX3_readsAct)
theorem qM_X3_readsAct {M : XI} {rc rs pc pc2 : Nat} (d : xl_Ca M pc mX3_readsAct pc2) : cOk encM bdM M rc rs pc pc2 2 cM_X3_readsAct := cSame mX3_readsAct_ok vX3_readsAct d mcl rfl lenM recM
