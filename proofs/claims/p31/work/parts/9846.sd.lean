/-! ===== texts: the model reads an event ===== -/
-- X3_readsEvent: heads []
def tX3_readsEvent : Nat → Blk MS := fun pc => bif Nat.blt pc 69 then (bif Nat.blt pc 49 then (bif Nat.blt pc 30 then (bif Nat.beq pc 0 then (oAld 0 <| oGet (fgM) 3 13 <| oIld 1 <| oAld 0 <| oS 5 <| oC2 (cM_X3_takesOf) <| oIas (agM) (apM) <| oAld 0 <| oGet (fgM) 3 14 <| oIld 1 <| oAld 0 <| oGet (fgM) 3 13 <| oIld 1 <| oIa (agM) <| oZGe 30 <| oI (-1) <| oTo 35) else oNo) else (bif Nat.blt pc 35 then (bif Nat.beq pc 30 then (oAld 0 <| oI 4 <| oC2 (cM_X3_digits) <| oTo 35) else oNo) else (bif Nat.beq pc 35 then (oIas (agM) (apM) <| oAld 0 <| oGet (fgM) 3 14 <| oIld 1 <| oIa (agM) <| oZGe 49 <| oI (-1) <| oTo 55) else oNo))) else (bif Nat.blt pc 55 then (bif Nat.beq pc 49 then (oAld 0 <| oS 7 <| oC2 (cM_X3_takesOf) <| oTo 55) else oNo) else (bif Nat.blt pc 64 then (bif Nat.beq pc 55 then (oIst 3 <| oIld 3 <| oZGe 64 <| oI (-1) <| oTo 69) else oNo) else (bif Nat.beq pc 64 then (oAld 0 <| oI 2 <| oC2 (cM_X3_digits) <| oTo 69) else oNo)))) else (bif Nat.blt pc 104 then (bif Nat.blt pc 87 then (bif Nat.beq pc 69 then (oIst 4 <| oAld 0 <| oGet (fgM) 3 15 <| oIld 1 <| oIld 3 <| oI 1 <| oCNe 87 <| oIld 4 <| oNeg <| oTo 89) else oNo) else (bif Nat.blt pc 89 then (bif Nat.beq pc 87 then (oIld 4 <| oTo 89) else oNo) else (bif Nat.beq pc 89 then (oIas (agM) (apM) <| oAld 0 <| oGet (fgM) 3 16 <| oIld 1 <| oIld 4 <| oZGe 104 <| oI (-1) <| oTo 109) else oNo))) else (bif Nat.blt pc 121 then (bif Nat.blt pc 109 then (bif Nat.beq pc 104 then (oAld 0 <| oI 1 <| oC2 (cM_X3_digits) <| oTo 109) else oNo) else (bif Nat.beq pc 109 then (oIas (agM) (apM) <| oAld 0 <| oGet (fgM) 3 16 <| oIld 1 <| oIa (agM) <| oZGe 121 <| oI 0 <| oZret) else oNo)) else (bif Nat.blt pc 150 then (bif Nat.beq pc 121 then (oIld 2 <| oZNe 150 <| oAld 0 <| oAld 0 <| oGet (fgM) 3 16 <| oIld 1 <| oIa (agM) <| oC2 (cM_X3_isSource) <| oZNe 150 <| oAld 0 <| oDup <| oGet (fgM) 3 5 <| oI 1 <| oSub <| oPut (fpM) 3 5 <| oI 0 <| oZret) else oNo) else (bif Nat.beq pc 150 then (oI 1 <| oZret) else oNo))))
theorem tX3_readsEvent_ok : ∀ pc, bOk (encM) (bdM) mX3_readsEvent 0 0 pc (tX3_readsEvent pc) := fun pc => (tNode (tNode (tNode (tLeaf (okAldn iX3_readsEvent_0 rfl <| okGet (vFgM) iX3_readsEvent_1 <| okIldn iX3_readsEvent_4 rfl <| okAldn iX3_readsEvent_5 rfl <| okS (j := 5) (by decide) rfl iX3_readsEvent_6 <| okC2 (qM_X3_takesOf iX3_readsEvent_8) <| okIas (vAgM) iX3_readsEvent_11 <| okAldn iX3_readsEvent_12 rfl <| okGet (vFgM) iX3_readsEvent_13 <| okIldn iX3_readsEvent_16 rfl <| okAldn iX3_readsEvent_17 rfl <| okGet (vFgM) iX3_readsEvent_18 <| okIldn iX3_readsEvent_21 rfl <| okIa (vAgM) iX3_readsEvent_22 <| okZGe (tl rfl) iX3_readsEvent_23 <| okIc iX3_readsEvent_26 <| okGoto (tl rfl) iX3_readsEvent_27)) (tNode (tLeaf (okAldn iX3_readsEvent_30 rfl <| okIc iX3_readsEvent_31 <| okC2 (qM_X3_digits iX3_readsEvent_32) <| okTo (tl rfl))) (tLeaf (okIas (vAgM) iX3_readsEvent_35 <| okAldn iX3_readsEvent_36 rfl <| okGet (vFgM) iX3_readsEvent_37 <| okIldn iX3_readsEvent_40 rfl <| okIa (vAgM) iX3_readsEvent_41 <| okZGe (tl rfl) iX3_readsEvent_42 <| okIc iX3_readsEvent_45 <| okGoto (tl rfl) iX3_readsEvent_46)))) (tNode (tLeaf (okAldn iX3_readsEvent_49 rfl <| okS (j := 7) (by decide) rfl iX3_readsEvent_50 <| okC2 (qM_X3_takesOf iX3_readsEvent_52) <| okTo (tl rfl))) (tNode (tLeaf (okIstn iX3_readsEvent_55 rfl (by decide) <| okIldn iX3_readsEvent_56 rfl <| okZGe (tl rfl) iX3_readsEvent_57 <| okIc iX3_readsEvent_60 <| okGoto (tl rfl) iX3_readsEvent_61)) (tLeaf (okAldn iX3_readsEvent_64 rfl <| okIc iX3_readsEvent_65 <| okC2 (qM_X3_digits iX3_readsEvent_66) <| okTo (tl rfl)))))) (tNode (tNode (tLeaf (okIst iX3_readsEvent_69 (by decide) <| okAldn iX3_readsEvent_71 rfl <| okGet (vFgM) iX3_readsEvent_72 <| okIldn iX3_readsEvent_75 rfl <| okIldn iX3_readsEvent_76 rfl <| okIc iX3_readsEvent_77 <| okCNe (tl rfl) iX3_readsEvent_78 <| okIld iX3_readsEvent_81 <| okNeg iX3_readsEvent_83 <| okGoto (tl rfl) iX3_readsEvent_84)) (tNode (tLeaf (okIld iX3_readsEvent_87 <| okTo (tl rfl))) (tLeaf (okIas (vAgM) iX3_readsEvent_89 <| okAldn iX3_readsEvent_90 rfl <| okGet (vFgM) iX3_readsEvent_91 <| okIldn iX3_readsEvent_94 rfl <| okIld iX3_readsEvent_95 <| okZGe (tl rfl) iX3_readsEvent_97 <| okIc iX3_readsEvent_100 <| okGoto (tl rfl) iX3_readsEvent_101)))) (tNode (tNode (tLeaf (okAldn iX3_readsEvent_104 rfl <| okIc iX3_readsEvent_105 <| okC2 (qM_X3_digits iX3_readsEvent_106) <| okTo (tl rfl))) (tLeaf (okIas (vAgM) iX3_readsEvent_109 <| okAldn iX3_readsEvent_110 rfl <| okGet (vFgM) iX3_readsEvent_111 <| okIldn iX3_readsEvent_114 rfl <| okIa (vAgM) iX3_readsEvent_115 <| okZGe (tl rfl) iX3_readsEvent_116 <| okIc iX3_readsEvent_119 <| okZret iX3_readsEvent_120 rfl))) (tNode (tLeaf (okIldn iX3_readsEvent_121 rfl <| okZNe (tl rfl) iX3_readsEvent_122 <| okAldn iX3_readsEvent_125 rfl <| okAldn iX3_readsEvent_126 rfl <| okGet (vFgM) iX3_readsEvent_127 <| okIldn iX3_readsEvent_130 rfl <| okIa (vAgM) iX3_readsEvent_131 <| okC2 (qM_X3_isSource iX3_readsEvent_132) <| okZNe (tl rfl) iX3_readsEvent_135 <| okAldn iX3_readsEvent_138 rfl <| okDup iX3_readsEvent_139 <| okGet (vFgM) iX3_readsEvent_140 <| okIc iX3_readsEvent_143 <| okSub iX3_readsEvent_144 <| okPut (vFpM) iX3_readsEvent_145 <| okIc iX3_readsEvent_148 <| okZret iX3_readsEvent_149 rfl)) (tLeaf (okIc iX3_readsEvent_150 <| okZret iX3_readsEvent_151 rfl)))))) pc
theorem xup_e {g : Nat → Int} {k : Nat} {v : Int} : xup g k v k = v := if_pos rfl
theorem mA_e {s : MS} {a : Nat} {g : Nat → Int} : (mA s a g).2 a = g := by
  show (bif Nat.beq a a then g else s.2 a) = g
  rw [Nat.beq_refl]; rfl
def st5 (p : Int × MS) (k : Int) : MS := mA p.2 5 (xup (p.2.2 5) k.toNat p.1)
def st6 (p : Int × MS) (k : Int) : MS := mA p.2 6 (xup (p.2.2 6) k.toNat p.1)
def st7 (p : MS) (k v : Int) : MS := mA p 7 (xup (p.2 7) k.toNat v)
def st8 (p : Int × MS) (k : Int) : MS := mA p.2 8 (xup (p.2.2 8) k.toNat p.1)
def reF (s : MS) (v any : Int) : Int × MS := if v < 0 then (0, s) else if any = 0 ∧ ¬ mSrc s v then (0, mS s 5 (s.1 5 - 1)) else (1, s)
def reE5 (p : Int × MS) (k any : Int) : Int × MS := reF (st8 p k) p.1 any
def reE4 (s : MS) (k v any : Int) : Int × MS := if v < 0 then reE5 (-1, s) k any else reE5 (gDg s 1) k any
def reE3 (side : Int) (p : Int × MS) (k any : Int) : Int × MS := reE4 (st7 p.2 k (if side = 1 then -p.1 else p.1)) k p.1 any
def reE2 (p : Int × MS) (k any : Int) : Int × MS := if p.1 < 0 then reE3 p.1 (-1, p.2) k any else reE3 p.1 (gDg p.2 2) k any
def reE1 (p : Int × MS) (k any : Int) : Int × MS := if p.1 < 0 then reE2 (-1, st6 p k) k any else reE2 (gTk (st6 p k) 7) k any
def reE0 (p : Int × MS) (k any : Int) : Int × MS := if p.1 < 0 then reE1 (-1, st5 p k) k any else reE1 (gDg (st5 p k) 4) k any
def gRe (s : MS) (k any : Int) : Int × MS := reE0 (gTk s 5) k any
def sX3_readsEvent : Int → Int → MS → KM → Prop := fun k any s K => ((0 ≤ k ∧ k < 80) ∧ (any = 0 ∨ any = 1) ∧ 0 ≤ s.1 5 ∧ s.1 5 ≤ 80 ∧ s.1 6 ≤ 80 ∧ 0 ≤ mg s 0) ∧ K [pI (gRe s k any).1] (gRe s k any).2
section RE
variable {K : KM} {Pt : MS → Prop} (k any : Int) (hk : 0 ≤ k ∧ k < 80) (ha : any = 0 ∨ any = 1)
theorem re_121 (hk : 0 ≤ k ∧ k < 80) (ha : any = 0 ∨ any = 1) (s : MS) (v : Int) (L3 L4 : Option PV) (hv : s.2 8 k.toNat = v) (h5 : -100 ≤ s.1 5 ∧ s.1 5 ≤ 1000) (h0 : 0 ≤ mg s 0) (hK : K [pI (if any = 0 ∧ ¬ mSrc s v then ((0 : Int), mS s 5 (s.1 5 - 1)) else (1, s)).1] (if any = 0 ∧ ¬ mSrc s v then ((0 : Int), mS s 5 (s.1 5 - 1)) else (1, s)).2) : wX encM bdM mX3_readsEvent 0 0 K Pt 121 [some (pR 0), some (pI k), some (pI any), L3, L4] [] s := by
  refine wx_J [] 9 tX3_readsEvent_ok rfl (fun J hR hJ => ?_)
  subst hv
  by_cases c : any = 0 ∧ ¬ mSrc s (s.2 8 k.toNat)
  · rw [if_pos c] at hK
    obtain ⟨c1, c2⟩ := c
    repeat' (first | (refine And.intro ?_ ?_) | (intro hq; first | (exact absurd hq (by omega)) | skip))
    all_goals first | omega | exact hR _ _ hK | contradiction
  · rw [if_neg c] at hK
    repeat' (first | (refine And.intro ?_ ?_) | (intro hq; first | (exact absurd hq (by omega)) | skip))
    all_goals first | omega | exact hR _ _ hK | exact absurd ⟨by omega, by assumption⟩ c
theorem re_109 (hk : 0 ≤ k ∧ k < 80) (ha : any = 0 ∨ any = 1) (p : Int × MS) (L3 L4 : Option PV) (hp : -1 ≤ p.1 ∧ p.1 ≤ 1000000) (h5 : -100 ≤ p.2.1 5 ∧ p.2.1 5 ≤ 1000) (h0 : 0 ≤ mg p.2 0) (hK : K [pI (reE5 p k any).1] (reE5 p k any).2) : wX encM bdM mX3_readsEvent 0 0 K Pt 109 [some (pR 0), some (pI k), some (pI any), L3, L4] [pI p.1, pI k, pR 8] p.2 := by
  refine wx_J [121] 9 tX3_readsEvent_ok rfl (fun J hR hJ => ?_)
  refine ⟨⟨by omega, by omega, by omega, by omega⟩, ⟨by omega, by omega⟩, fun b => ⟨b, fun q => ?_, fun q => ?_⟩⟩
  · have q2 : 0 ≤ xup (p.2.2 8) k.toNat p.1 k.toNat := q
    rw [xup_e] at q2
    refine hJ _ _ _ _ (re_121 k any hk ha (st8 p k) p.1 L3 L4 xup_e h5 h0 ?_)
    unfold reE5 reF at hK
    rw [if_neg (by omega)] at hK
    exact hK
  · have q2 : xup (p.2.2 8) k.toNat p.1 k.toNat < 0 := q
    rw [xup_e] at q2
    unfold reE5 reF at hK
    rw [if_pos q2] at hK
    exact ⟨Or.inl rfl, hR _ _ hK⟩
def gd (s : MS) : Prop := 0 ≤ s.1 5 ∧ s.1 5 ≤ 80 ∧ s.1 6 ≤ 80 ∧ 0 ≤ mg s 0
theorem gd.r {s s' : MS} (h : gd s) (g : rF s s') : gd s' := by
  obtain ⟨a, b, c, d⟩ := h
  have e6 := g.1 6 (by decide)
  have e3 := g.2.1 3 (by decide) (by decide) (by decide) (by decide) (by decide)
  have e5 := g.2.2
  refine ⟨by omega, by omega, by omega, ?_⟩
  rw [mg_cong e3]
  exact d
theorem dg_b (s : MS) {n : Int} (hn : 1 ≤ n ∧ n ≤ 5) : (-1 ≤ (gDg s n).1 ∧ (gDg s n).1 < 1000000) ∧ rF s (gDg s n).2 ∧ (0 ≤ (gDg s n).1 → s.1 5 < (gDg s n).2.1 5) := by
  have ht : ∀ m : Nat, m ≤ 5 → 0 < tb m := by decide
  have g := dgL_f n.toNat 0 s (by decide) (Or.inl (ht _ (by omega)))
  exact ⟨g.1, g.2.1, fun q => g.2.2 (by omega) (by decide) q⟩
theorem re_89 (hk : 0 ≤ k ∧ k < 80) (ha : any = 0 ∨ any = 1) (q : MS) (w sd vv : Int) (hw : xB w) (hv : -1 ≤ vv ∧ vv ≤ 1000000) (hg : gd q) (hK : K [pI (reE4 (st7 q k w) k vv any).1] (reE4 (st7 q k w) k vv any).2) : wX encM bdM mX3_readsEvent 0 0 K Pt 89 [some (pR 0), some (pI k), some (pI any), some (pI sd), some (pI vv)] [pI w, pI k, pR 7] q := by
  refine wx_J [109] 9 tX3_readsEvent_ok rfl (fun J hR hJ => ?_)
  have hg1 : gd (st7 q k w) := hg.r (rF_A (by decide))
  refine ⟨⟨hk.1, by omega, hw⟩, ⟨by omega, by omega⟩, fun c => ?_, fun c => ?_⟩
  · have d := dg_b (st7 q k w) (n := 1) (by decide)
    have hg2 := hg1.r d.2.1
    unfold reE4 at hK
    rw [if_neg (by omega)] at hK
    exact ⟨⟨by decide, hg1.1, hg1.2.2.1⟩, hJ _ _ _ _ (re_109 k any hk ha (gDg (st7 q k w) 1) _ _ ⟨d.1.1, by omega⟩ ⟨by have := hg2.1; omega, by have := hg2.2.1; omega⟩ hg2.2.2.2 hK)⟩
  · unfold reE4 at hK
    rw [if_pos c] at hK
    exact hJ _ _ _ _ (re_109 k any hk ha (-1, st7 q k w) _ _ ⟨by show (-1 : Int) ≤ -1; decide, by show (-1 : Int) ≤ 1000000; decide⟩ ⟨by have := hg1.1; show -100 ≤ (st7 q k w).1 5; omega, by have := hg1.2.1; show (st7 q k w).1 5 ≤ 1000; omega⟩ hg1.2.2.2 hK)
theorem re_69 (hk : 0 ≤ k ∧ k < 80) (ha : any = 0 ∨ any = 1) (p : Int × MS) (sd : Int) (L4 : Option PV) (hs : -1 ≤ sd ∧ sd ≤ 9) (hp : -1 ≤ p.1 ∧ p.1 ≤ 1000000) (hg : gd p.2) (hK : K [pI (reE3 sd p k any).1] (reE3 sd p k any).2) : wX encM bdM mX3_readsEvent 0 0 K Pt 69 [some (pR 0), some (pI k), some (pI any), some (pI sd), L4] [pI p.1] p.2 := by
  refine wx_J [89] 9 tX3_readsEvent_ok rfl (fun J hR hJ => ?_)
  unfold reE3 at hK
  by_cases c : sd = 1
  · rw [if_pos c] at hK
    have g := re_89 (Pt := Pt) k any hk ha p.2 (-p.1) sd p.1 ⟨by omega, by omega⟩ hp hg hK
    repeat' (first | (refine And.intro ?_ ?_) | (intro hq; first | (exact absurd hq (by omega)) | skip))
    all_goals first | omega | exact hJ _ _ _ _ g
  · rw [if_neg c] at hK
    have g := re_89 (Pt := Pt) k any hk ha p.2 p.1 sd p.1 ⟨by omega, by omega⟩ hp hg hK
    repeat' (first | (refine And.intro ?_ ?_) | (intro hq; first | (exact absurd hq (by omega)) | skip))
    all_goals first | omega | exact hJ _ _ _ _ g
theorem re_55 (hk : 0 ≤ k ∧ k < 80) (ha : any = 0 ∨ any = 1) (p : Int × MS) (L3 L4 : Option PV) (hp : -1 ≤ p.1 ∧ p.1 ≤ 9) (hg : gd p.2) (hK : K [pI (reE2 p k any).1] (reE2 p k any).2) : wX encM bdM mX3_readsEvent 0 0 K Pt 55 [some (pR 0), some (pI k), some (pI any), L3, L4] [pI p.1] p.2 := by
  refine wx_J [69] 9 tX3_readsEvent_ok rfl (fun J hR hJ => ?_)
  unfold reE2 at hK
  have d := dg_b p.2 (n := 2) (by decide)
  by_cases c : p.1 < 0
  · rw [if_pos c] at hK
    have g := re_69 (Pt := Pt) k any hk ha (-1, p.2) p.1 L4 hp ⟨by show (-1 : Int) ≤ -1; decide, by show (-1 : Int) ≤ 1000000; decide⟩ hg hK
    repeat' (first | (refine And.intro ?_ ?_) | (intro hq; first | (exact absurd hq (by omega)) | skip))
    all_goals first | omega | exact hJ _ _ _ _ g
  · rw [if_neg c] at hK
    have g := re_69 (Pt := Pt) k any hk ha (gDg p.2 2) p.1 L4 hp ⟨d.1.1, by omega⟩ (hg.r d.2.1) hK
    obtain ⟨g1, g2, g3, g4⟩ := hg
    repeat' (first | (refine And.intro ?_ ?_) | (intro hq; first | (exact absurd hq (by omega)) | skip))
    all_goals first | omega | exact hJ _ _ _ _ g
theorem re_35 (hk : 0 ≤ k ∧ k < 80) (ha : any = 0 ∨ any = 1) (p : Int × MS) (L3 L4 : Option PV) (hp : -1 ≤ p.1 ∧ p.1 ≤ 1000000) (hg : gd p.2) (hK : K [pI (reE1 p k any).1] (reE1 p k any).2) : wX encM bdM mX3_readsEvent 0 0 K Pt 35 [some (pR 0), some (pI k), some (pI any), L3, L4] [pI p.1, pI k, pR 6] p.2 := by
  refine wx_J [55] 9 tX3_readsEvent_ok rfl (fun J hR hJ => ?_)
  have hg1 : gd (st6 p k) := hg.r (rF_A (by decide))
  refine ⟨⟨hk.1, by omega, by omega, by omega⟩, ⟨by omega, by omega⟩, fun b => ⟨b, fun q => ?_, fun q => ?_⟩⟩
  · have q2 : 0 ≤ xup (p.2.2 6) k.toNat p.1 k.toNat := q
    rw [xup_e] at q2
    unfold reE1 at hK
    rw [if_neg (by omega)] at hK
    have f := gTk_f (st6 p k) 7 (by decide)
    exact ⟨⟨by decide, hg1.1, hg1.2.2.1⟩, hJ _ _ _ _ (re_55 k any hk ha (gTk (st6 p k) 7) _ _ f.1 (hg1.r f.2.1) hK)⟩
  · have q2 : xup (p.2.2 6) k.toNat p.1 k.toNat < 0 := q
    rw [xup_e] at q2
    unfold reE1 at hK
    rw [if_pos q2] at hK
    exact hJ _ _ _ _ (re_55 k any hk ha (-1, st6 p k) _ _ ⟨by show (-1 : Int) ≤ -1; decide, by show (-1 : Int) ≤ 9; decide⟩ hg1 hK)
end RE
theorem mX3_readsEvent_ok : mOk encM bdM mX3_readsEvent (atR 0 (a2 sX3_readsEvent)) := by
  refine mOVa2 kX3_readsEvent (fun _ _ => rfl) (fun k any s K h hb => wx_J [35] 9 tX3_readsEvent_ok rfl (fun J hR hJ => ?_))
  obtain ⟨⟨hk, ha, hg⟩, hK⟩ := h
  have hg : gd s := hg
  have f := gTk_f s 5 (by decide)
  unfold gRe at hK
  refine ⟨⟨by decide, hg.1, hg.2.2.1⟩, ?_⟩
  generalize gTk s 5 = p at f hK ⊢
  obtain ⟨⟨g1, g2⟩, gF, -⟩ := f
  have hg0 := hg.r gF
  have hg1 : gd (st5 p k) := hg0.r (rF_A (by decide))
  refine ⟨⟨hk.1, by omega, by omega, by omega⟩, ⟨by omega, by omega⟩, fun b => ⟨b, fun q => ?_, fun q => ?_⟩⟩
  · have q2 : 0 ≤ xup (p.2.2 5) k.toNat p.1 k.toNat := q
    rw [xup_e] at q2
    unfold reE0 at hK
    rw [if_neg (by omega)] at hK
    have d := dg_b (st5 p k) (n := 4) (by decide)
    exact ⟨⟨by decide, hg1.1, hg1.2.2.1⟩, hJ _ _ _ _ (re_35 k any hk ha (gDg (st5 p k) 4) _ _ ⟨d.1.1, by omega⟩ (hg1.r d.2.1) hK)⟩
  · have q2 : xup (p.2.2 5) k.toNat p.1 k.toNat < 0 := q
    rw [xup_e] at q2
    unfold reE0 at hK
    rw [if_pos q2] at hK
    exact hJ _ _ _ _ (re_35 k any hk ha (-1, st5 p k) _ _ ⟨by show (-1 : Int) ≤ -1; decide, by show (-1 : Int) ≤ 1000000; decide⟩ hg1 hK)
def cM_X3_readsEvent : Sp MS := atR 0 (a2 sX3_readsEvent)
theorem qM_X3_readsEvent {M : XI} {rc rs pc pc2 : Nat} (d : xl_Ca M pc mX3_readsEvent pc2) : cOk encM bdM M rc rs pc pc2 3 cM_X3_readsEvent := cSame mX3_readsEvent_ok vX3_readsEvent d mcl rfl lenM recM
