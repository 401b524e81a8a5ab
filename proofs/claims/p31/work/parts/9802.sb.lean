/-! ===== texts: events and day of the class ===== -/
-- X2_events: heads [68]
def tX2_events : Nat → Blk LSt := fun pc => bif Nat.blt pc 53 then (bif Nat.blt pc 19 then (bif Nat.beq pc 0 then (oAld 0 <| oC1 (cL_X2_takeText) <| oIst 1 <| oAld 0 <| oIld 1 <| oC2 (cL_X2_eventsMisfit) <| oIst 2 <| oIld 2 <| oZLt 19 <| oI (-1) <| oIld 2 <| oSub <| oIret) else oNo) else (bif Nat.blt pc 45 then (bif Nat.beq pc 19 then (oIld 1 <| oI 9 <| oDiv <| oIst 3 <| oAld 0 <| oGet (fgL) 2 0 <| oGet (fgL) 1 14 <| oGet (fgL) 0 3 <| oIld 3 <| oAdd <| oI 160 <| oCLe 45 <| oI (-3) <| oIret) else oNo) else (bif Nat.beq pc 45 then (oIld 3 <| oZLe 53 <| oAld 0 <| oC1 (cL_X2_remember) <| oTo 53) else oNo))) else (bif Nat.blt pc 87 then (bif Nat.blt pc 68 then (bif Nat.beq pc 53 then (oAld 0 <| oGet (fgL) 2 0 <| oGet (fgL) 1 4 <| oIst 4 <| oI 0 <| oIst 5 <| oI 0 <| oIst 6 <| oM [true, true, false, false, true, true, true] (oTo 68)) else oNo) else (bif Nat.beq pc 68 then (oIld 6 <| oIld 1 <| oCGe 93 <| oAld 0 <| oIld 6 <| oC2 (cL_X2_comeEventAt) <| oI 2 <| oCEq 87 <| oInc 5 1 <| oTo 87) else oNo)) else (bif Nat.blt pc 93 then (bif Nat.beq pc 87 then (oInc 6 9 <| oM [true, true, false, false, true, true, true] (oTo 68)) else oNo) else (bif Nat.beq pc 93 then (oAld 0 <| oAld 0 <| oGet (fgL) 2 0 <| oGet (fgL) 1 4 <| oIld 4 <| oSubW <| oI2l <| oAld 0 <| oGet (fgL) 2 0 <| oGet (fgL) 1 3 <| oI2l <| oC3 (cL_X2_tellTwo) <| oIld 5 <| oIret) else oNo)))
theorem tX2_events_ok : ∀ pc, bOk (encL) (bdL) mX2_events 0 0 pc (tX2_events pc) := fun pc => (tNode (tNode (tLeaf (okAldn iX2_events_0 rfl <| okC1 (qL_X2_takeText iX2_events_1) <| okIstn iX2_events_4 rfl (by decide) <| okAldn iX2_events_5 rfl <| okIldn iX2_events_6 rfl <| okC2 (qL_X2_eventsMisfit iX2_events_7) <| okIstn iX2_events_10 rfl (by decide) <| okIldn iX2_events_11 rfl <| okZLt (tl rfl) iX2_events_12 <| okIc iX2_events_15 <| okIldn iX2_events_16 rfl <| okSub iX2_events_17 <| okIret iX2_events_18 rfl)) (tNode (tLeaf (okIldn iX2_events_19 rfl <| okBi iX2_events_20 (by decide) <| okDiv iX2_events_22 <| okIstn iX2_events_23 rfl (by decide) <| okAldn iX2_events_24 rfl <| okGet (vFgL) iX2_events_25 <| okGet (vFgL) iX2_events_28 <| okGet (vFgL) iX2_events_31 <| okIldn iX2_events_34 rfl <| okAdd iX2_events_35 <| okSi iX2_events_36 (by decide) <| okCLe (tl rfl) iX2_events_39 <| okBi iX2_events_42 (by decide) <| okIret iX2_events_44 rfl)) (tLeaf (okIldn iX2_events_45 rfl <| okZLe (tl rfl) iX2_events_46 <| okAldn iX2_events_49 rfl <| okC1 (qL_X2_remember iX2_events_50) <| okTo (tl rfl))))) (tNode (tNode (tLeaf (okAldn iX2_events_53 rfl <| okGet (vFgL) iX2_events_54 <| okGet (vFgL) iX2_events_57 <| okIst iX2_events_60 (by decide) <| okIc iX2_events_62 <| okIst iX2_events_63 (by decide) <| okIc iX2_events_65 <| okIst iX2_events_66 (by decide) <| okM (okTo (tl rfl)))) (tLeaf (okIld iX2_events_68 <| okIldn iX2_events_70 rfl <| okCGe (tl rfl) iX2_events_71 <| okAldn iX2_events_74 rfl <| okIld iX2_events_75 <| okC2 (qL_X2_comeEventAt iX2_events_77) <| okIc iX2_events_80 <| okCEq (tl rfl) iX2_events_81 <| okInc iX2_events_84 (by decide) <| okTo (tl rfl)))) (tNode (tLeaf (okInc iX2_events_87 (by decide) <| okGotoM (tl rfl) iX2_events_90)) (tLeaf (okAldn iX2_events_93 rfl <| okAldn iX2_events_94 rfl <| okGet (vFgL) iX2_events_95 <| okGet (vFgL) iX2_events_98 <| okIld iX2_events_101 <| okSubW iX2_events_103 <| okI2l iX2_events_104 <| okAldn iX2_events_105 rfl <| okGet (vFgL) iX2_events_106 <| okGet (vFgL) iX2_events_109 <| okI2l iX2_events_112 <| okC3 (qL_X2_tellTwo iX2_events_113) <| okIld iX2_events_116 <| okIret iX2_events_118 rfl))))) pc
def evL (len : Int) : Nat → Int → Int → LSt → Int × LSt
  | 0, _, g, s => (g, s)
  | m + 1, a, g, s => if len ≤ a then (g, s) else evL len m (a + 9) (if lCEF s a = 2 then g else g + 1) (lCEA s a)
def fEv3 (p : Int × LSt) (b : Int) : Int × LSt := (p.1, lTell2 p.2 (wI ((p.2.2.2 0).1 4 - b)) ((p.2.2.2 0).1 3))
def fEv2 (s : LSt) (len : Int) : Int × LSt := fEv3 (evL len 10 0 0 s) ((s.2.2 0).1 4)
def fEv1 (s : LSt) (len : Int) : Int × LSt := if 0 ≤ lEm s len then (-1 - lEm s len, s) else if 160 < wZ (s.2.2 0) 4 + len / 9 then (-3, s) else if 0 < len / 9 then fEv2 (lRem s) len else fEv2 s len
def fEvents (s : LSt) : Int × LSt := fEv1 (setS s 4 0) (s.1 4)
theorem wok_CEA {s : LSt} {a : Int} (h : wok (s.2.2 0)) : wok ((lCEA s a).2.2 0) := wok_ComeE (w := s.2.2 0) h
theorem lCEF_b (s : LSt) (a : Int) : 0 ≤ lCEF s a ∧ lCEF s a ≤ 2 := by
  unfold lCEF wFate
  repeat' split
  all_goals omega
theorem X2_events_l {K : KL} {Pt : LSt → Prop} (len b : Int) (hl : 0 ≤ len ∧ len ≤ 80) (hb0 : xB b) : ∀ (m : Nat) (a g : Int) (s : LSt), wok (s.2.2 0) → 0 ≤ a → a ≤ 89 → len ≤ a + 9 * m → 0 ≤ g → g ≤ a → K [pI (fEv3 (evL len m a g s) b).1] (fEv3 (evL len m a g s) b).2 → wX encL bdL mX2_events 0 0 K Pt 68 [some (pR 0), some (pI len), none, none, some (pI b), some (pI g), some (pI a)] [] s := by
  intro m
  have fin : ∀ (a g : Int) (s : LSt), 0 ≤ a → a ≤ 89 → len ≤ a → 0 ≤ g → g ≤ a → K [pI (fEv3 (g, s) b).1] (fEv3 (g, s) b).2 → wX encL bdL mX2_events 0 0 K Pt 68 [some (pR 0), some (pI len), none, none, some (pI b), some (pI g), some (pI a)] [] s := by
    intro a g s h0 h1 h2 h3 h4 hK
    refine wx_J [68] 9 tX2_events_ok rfl (fun J hR hJ => ?_)
    have hK : K [pI g] (lTell2 s (wI ((s.2.2 0).1 4 - b)) ((s.2.2 0).1 3)) := hK
    repeat' (first | (refine And.intro ?_ ?_) | (intro hq; first | (exact absurd hq (by omega)) | skip))
    all_goals first | omega | exact hR _ _ hK | assumption
  induction m with
  | zero =>
    intro a g s hw h0 h1 hm hg0 hg1 hK
    exact fin a g s h0 h1 (by omega) hg0 hg1 hK
  | succ m ih =>
    intro a g s hw h0 h1 hm hg0 hg1 hK
    rw [evL] at hK
    by_cases c : len ≤ a
    · rw [if_pos c] at hK
      exact fin a g s h0 h1 c hg0 hg1 hK
    · rw [if_neg c] at hK
      have hf := lCEF_b s a
      refine wx_J [68] 9 tX2_events_ok rfl (fun J hR hJ => ?_)
      by_cases c2 : lCEF s a = 2
      · rw [if_pos c2] at hK
        have g1 := ih (a + 9) g _ (wok_CEA hw) (by omega) (by omega) (by omega) (by omega) (by omega) hK
        repeat' (first | (refine And.intro ?_ ?_) | (intro hq; first | (exact absurd hq (by omega)) | skip))
        all_goals first | omega | exact hJ _ _ _ _ g1 | exact (hw _ (by assumption)).1 | exact (hw _ (by assumption)).2
      · rw [if_neg c2] at hK
        have g1 := ih (a + 9) (g + 1) _ (wok_CEA hw) (by omega) (by omega) (by omega) (by omega) (by omega) hK
        repeat' (first | (refine And.intro ?_ ?_) | (intro hq; first | (exact absurd hq (by omega)) | skip))
        all_goals first | omega | exact hJ _ _ _ _ g1 | exact (hw _ (by assumption)).1 | exact (hw _ (by assumption)).2
def sX2_events : LSt → KL → Prop := fun s K => lok s ∧ K [pI (fEvents s).1] (fEvents s).2
theorem mX2_events_ok : mOk encL bdL mX2_events (atR 0 (a0 sX2_events)) := by
  refine mOVa0 kX2_events (fun _ => rfl) (fun s K h hb => wx_J [68] 9 tX2_events_ok rfl (fun J hR hJ => ?_))
  obtain ⟨⟨hu, h3, h4, hw⟩, hK⟩ := h
  have hz0 := hw 0 (by decide) 0 (by decide)
  have hz4 := hw 0 (by decide) 4 (by decide)
  have hz : 0 ≤ wZ ((setS s 4 0).2.2 0) 0 ∧ wZ ((setS s 4 0).2.2 0) 0 ≤ 4 := hz0
  have hz160 : wZ ((setS s 4 0).2.2 0) 4 ≤ 160 ∧ 0 ≤ wZ ((setS s 4 0).2.2 0) 4 := ⟨hz4.2, hz4.1⟩
  have hw0 : wok ((setS s 4 0).2.2 0) := hw 0 (by decide)
  have hu0 : uok (setS s 4 0) := hu
  have hrem : ∀ s : LSt, wok (s.2.2 0) → wok ((lRem s).2.2 0) := fun s h => by rw [lRem_0]; exact h
  have hb1 : bdL (setS s 4 0) := bdL_S hb ⟨by omega, by omega⟩
  unfold fEvents at hK
  refine fun _ => ?_
  generalize es : setS s 4 0 = u at hK hz hz160 hw0 hu0 hb1 ⊢
  generalize s.1 4 = len at h4 hK ⊢
  have he := emL_b u len h4.2 10 0 (by omega)
  have he : -1 ≤ lEm u len ∧ lEm u len ≤ 90 := he
  unfold fEv1 at hK
  have hv4 : ((u.2.2 0).2 4).1 = wZ (u.2.2 0) 4 := rfl
  have x4 : xB ((u.2.2 0).1 4) := (hb1.2.2 0).1 4
  have x4r : xB (((lRem u).2.2 0).1 4) := by rw [lRem_0]; exact x4
  obtain ⟨⟨u1, u2⟩, u3, u4⟩ := hu0
  by_cases c1 : 0 ≤ lEm u len
  · rw [if_pos c1] at hK
    repeat' (first | (refine And.intro ?_ ?_) | (intro hq; first | (exact absurd hq (by omega)) | skip))
    all_goals first | omega | exact hR _ _ hK
  · rw [if_neg c1] at hK
    by_cases c2 : 160 < wZ (u.2.2 0) 4 + len / 9
    · rw [if_pos c2] at hK
      repeat' (first | (refine And.intro ?_ ?_) | (intro hq; first | (exact absurd hq (by omega)) | skip))
      all_goals first | omega | exact hR _ _ hK
    · rw [if_neg c2] at hK
      by_cases c3 : 0 < len / 9
      · rw [if_pos c3] at hK
        have g1 := X2_events_l (Pt := fun _ => False) len (((lRem u).2.2 0).1 4) h4 x4r 10 0 0 (lRem u) (hrem u hw0) (by omega) (by omega) (by omega) (by omega) (by omega) hK
        repeat' (first | (refine And.intro ?_ ?_) | (intro hq; first | (exact absurd hq (by omega)) | skip))
        all_goals first | omega | exact hJ _ _ _ _ g1 | exact (hw0 _ (by assumption)).1 | exact (hw0 _ (by assumption)).2
      · rw [if_neg c3] at hK
        have g1 := X2_events_l (Pt := fun _ => False) len ((u.2.2 0).1 4) h4 x4 10 0 0 u hw0 (by omega) (by omega) (by omega) (by omega) (by omega) hK
        repeat' (first | (refine And.intro ?_ ?_) | (intro hq; first | (exact absurd hq (by omega)) | skip))
        all_goals first | omega | exact hJ _ _ _ _ g1
-- X2_day: heads [39]
def tX2_day : Nat → Blk LSt := fun pc => bif Nat.blt pc 67 then (bif Nat.blt pc 19 then (bif Nat.beq pc 0 then (oAld 0 <| oC1 (cL_X2_takeText) <| oIst 1 <| oAld 0 <| oIld 1 <| oC2 (cL_X2_dayMisfit) <| oIst 2 <| oIld 2 <| oZLt 19 <| oI (-1) <| oIld 2 <| oSub <| oIret) else oNo) else (bif Nat.blt pc 39 then (bif Nat.beq pc 19 then (oAld 0 <| oGet (fgL) 2 0 <| oGet (fgL) 1 4 <| oIst 3 <| oI 0 <| oIst 4 <| oI 0 <| oIst 5 <| oI 0 <| oIst 6 <| oI 0 <| oIst 7 <| oM [true, true, false, true, true, true, true, true] (oTo 39)) else oNo) else (bif Nat.beq pc 39 then (oIld 7 <| oI 80 <| oCGe 107 <| oIld 6 <| oIld 1 <| oCGe 107 <| oAld 0 <| oIld 6 <| oC2 (cL_X2_actRefusal) <| oZGe 67 <| oI 1 <| oIst 5 <| oTo 107) else oNo))) else (bif Nat.blt pc 76 then (bif Nat.beq pc 67 then (oIld 4 <| oZNe 76 <| oAld 0 <| oC1 (cL_X2_remember) <| oTo 76) else oNo) else (bif Nat.blt pc 107 then (bif Nat.beq pc 76 then (oAld 0 <| oIld 6 <| oC2 (cL_X2_comeAct) <| oInc 4 1 <| oIld 6 <| oI 1 <| oAld 0 <| oIld 6 <| oC2 (cL_X2_actForm) <| oStrLength <| oAdd <| oAdd <| oIst 6 <| oInc 7 1 <| oM [true, true, false, true, true, true, true, true] (oTo 39)) else oNo) else (bif Nat.beq pc 107 then (oAld 0 <| oIld 5 <| oI2l <| oAld 0 <| oGet (fgL) 2 0 <| oGet (fgL) 1 4 <| oIld 3 <| oSubW <| oI2l <| oC3 (cL_X2_tellTwo) <| oIld 4 <| oIret) else oNo)))
theorem tX2_day_ok : ∀ pc, bOk (encL) (bdL) mX2_day 0 0 pc (tX2_day pc) := fun pc => (tNode (tNode (tLeaf (okAldn iX2_day_0 rfl <| okC1 (qL_X2_takeText iX2_day_1) <| okIstn iX2_day_4 rfl (by decide) <| okAldn iX2_day_5 rfl <| okIldn iX2_day_6 rfl <| okC2 (qL_X2_dayMisfit iX2_day_7) <| okIstn iX2_day_10 rfl (by decide) <| okIldn iX2_day_11 rfl <| okZLt (tl rfl) iX2_day_12 <| okIc iX2_day_15 <| okIldn iX2_day_16 rfl <| okSub iX2_day_17 <| okIret iX2_day_18 rfl)) (tNode (tLeaf (okAldn iX2_day_19 rfl <| okGet (vFgL) iX2_day_20 <| okGet (vFgL) iX2_day_23 <| okIstn iX2_day_26 rfl (by decide) <| okIc iX2_day_27 <| okIst iX2_day_28 (by decide) <| okIc iX2_day_30 <| okIst iX2_day_31 (by decide) <| okIc iX2_day_33 <| okIst iX2_day_34 (by decide) <| okIc iX2_day_36 <| okIst iX2_day_37 (by decide) <| okM (okTo (tl rfl)))) (tLeaf (okIld iX2_day_39 <| okBi iX2_day_41 (by decide) <| okCGe (tl rfl) iX2_day_43 <| okIld iX2_day_46 <| okIldn iX2_day_48 rfl <| okCGe (tl rfl) iX2_day_49 <| okAldn iX2_day_52 rfl <| okIld iX2_day_53 <| okC2 (qL_X2_actRefusal iX2_day_55) <| okZGe (tl rfl) iX2_day_58 <| okIc iX2_day_61 <| okIst iX2_day_62 (by decide) <| okGoto (tl rfl) iX2_day_64)))) (tNode (tLeaf (okIld iX2_day_67 <| okZNe (tl rfl) iX2_day_69 <| okAldn iX2_day_72 rfl <| okC1 (qL_X2_remember iX2_day_73) <| okTo (tl rfl))) (tNode (tLeaf (okAldn iX2_day_76 rfl <| okIld iX2_day_77 <| okC2 (qL_X2_comeAct iX2_day_79) <| okInc iX2_day_82 (by decide) <| okIld iX2_day_85 <| okIc iX2_day_87 <| okAldn iX2_day_88 rfl <| okIld iX2_day_89 <| okC2 (qL_X2_actForm iX2_day_91) <| okStrLength iX2_day_94 <| okAdd iX2_day_97 <| okAdd iX2_day_98 <| okIst iX2_day_99 (by decide) <| okInc iX2_day_101 (by decide) <| okGotoM (tl rfl) iX2_day_104)) (tLeaf (okAldn iX2_day_107 rfl <| okIld iX2_day_108 <| okI2l iX2_day_110 <| okAldn iX2_day_111 rfl <| okGet (vFgL) iX2_day_112 <| okGet (vFgL) iX2_day_115 <| okIldn iX2_day_118 rfl <| okSubW iX2_day_119 <| okI2l iX2_day_120 <| okC3 (qL_X2_tellTwo iX2_day_121) <| okIld iX2_day_124 <| okIret iX2_day_126 rfl))))) pc
def dyL (len : Int) : Nat → Int → Int → LSt → Int × Int × LSt
  | 0, _, d, s => (d, 0, s)
  | m + 1, a, d, s => if len ≤ a then (d, 0, s) else if lActR s a < 0 then (d, 1, s) else if d = 0 then dyL len m (a + (1 + slI (afJ (lAct (lRem s) a) a))) (d + 1) (lAct (lRem s) a) else dyL len m (a + (1 + slI (afJ (lAct s a) a))) (d + 1) (lAct s a)
def fDy3 (p : Int × Int × LSt) (b : Int) : Int × LSt := (p.1, lTell2 p.2.2 p.2.1 (wI ((p.2.2.2.2 0).1 4 - b)))
def fDy1 (s : LSt) (len : Int) : Int × LSt := if 0 ≤ lDm s len then (-1 - lDm s len, s) else fDy3 (dyL len 80 0 0 s) ((s.2.2 0).1 4)
def fDay (s : LSt) : Int × LSt := fDy1 (setS s 4 0) (s.1 4)
theorem wok_Act {s : LSt} {a : Int} (h : wok (s.2.2 0)) : wok ((lAct s a).2.2 0) := by
  show wok (if _ then _ else _)
  split
  · exact wok_ComeE h
  · split
    · exact wok_ComeM h
    · exact wok_ComeI h
theorem uok_Rem {s : LSt} (h : uok s) : uok (lRem s) := by
  unfold lRem
  dsimp only
  split
  · exact ⟨h.1, by show 0 ≤ s.1 1 + 1; omega, by show s.1 1 + 1 ≤ 6; omega⟩
  · exact ⟨⟨Int.tmod_nonneg _ (by omega), Int.tmod_lt_of_pos _ (by decide)⟩, h.2⟩
theorem lActR_b (s : LSt) (a : Int) : -3 ≤ lActR s a ∧ lActR s a ≤ 0 := by
  have := lIn_b s
  unfold lActR lEvR lMkR lIdR
  repeat' split
  all_goals omega
theorem X2_day_l {K : KL} {Pt : LSt → Prop} (len b : Int) (hl : 0 ≤ len ∧ len ≤ 80) (hb0 : xB b) : ∀ (m : Nat) (a d n : Int) (s : LSt), wok (s.2.2 0) → uok s → 0 ≤ a → a ≤ 99 → 0 ≤ d → d ≤ n → n ≤ 80 → m = (80 - n).toNat → K [pI (fDy3 (dyL len m a d s) b).1] (fDy3 (dyL len m a d s) b).2 → wX encL bdL mX2_day 0 0 K Pt 39 [some (pR 0), some (pI len), none, some (pI b), some (pI d), some (pI 0), some (pI a), some (pI n)] [] s := by
  intro m
  induction m with
  | zero =>
    intro a d n s hw hu h0 h1 hd0 hd1 hn hm hK
    refine wx_J [39] 9 tX2_day_ok rfl (fun J hR hJ => ?_)
    have hK : K [pI d] (lTell2 s 0 (wI ((s.2.2 0).1 4 - b))) := hK
    repeat' (first | (refine And.intro ?_ ?_) | (intro hq; first | (exact absurd hq (by omega)) | skip))
    all_goals first | omega | exact hR _ _ hK | assumption
  | succ m ih =>
    intro a d n s hw hu h0 h1 hd0 hd1 hn hm hK
    refine wx_J [39] 9 tX2_day_ok rfl (fun J hR hJ => ?_)
    rw [dyL] at hK
    have hr := lActR_b s a
    by_cases c : len ≤ a
    · rw [if_pos c] at hK
      have hK : K [pI d] (lTell2 s 0 (wI ((s.2.2 0).1 4 - b))) := hK
      repeat' (first | (refine And.intro ?_ ?_) | (intro hq; first | (exact absurd hq (by omega)) | skip))
      all_goals first | omega | exact hR _ _ hK | assumption
    · rw [if_neg c] at hK
      by_cases c1 : lActR s a < 0
      · rw [if_pos c1] at hK
        have hK : K [pI d] (lTell2 s 1 (wI ((s.2.2 0).1 4 - b))) := hK
        repeat' (first | (refine And.intro ?_ ?_) | (intro hq; first | (exact absurd hq (by omega)) | skip))
        all_goals first | omega | exact hR _ _ hK | assumption
      · rw [if_neg c1] at hK
        by_cases c2 : d = 0
        · rw [if_pos c2] at hK
          have hw1 : wok ((lRem s).2.2 0) := by rw [lRem_0]; exact hw
          have hj := afJ_b (lAct (lRem s) a) a
          have hs := slI_b (afJ (lAct (lRem s) a) a) hj
          have g := ih _ (d + 1) (n + 1) _ (wok_Act hw1) (uok_Rem hu) (by omega) (by omega) (by omega) (by omega) (by omega) (by omega) hK
          obtain ⟨⟨u1, u2⟩, u3, u4⟩ := hu
          repeat' (first | (refine And.intro ?_ ?_) | (intro hq; first | (exact absurd hq (by omega)) | skip))
          all_goals first | omega | exact hJ _ _ _ _ g | exact hj | exact (hw _ (by assumption)).1 | exact (hw _ (by assumption)).2 | exact (hw1 _ (by assumption)).1 | exact (hw1 _ (by assumption)).2
        · rw [if_neg c2] at hK
          have hj := afJ_b (lAct s a) a
          have hs := slI_b (afJ (lAct s a) a) hj
          have g := ih _ (d + 1) (n + 1) _ (wok_Act hw) hu (by omega) (by omega) (by omega) (by omega) (by omega) (by omega) hK
          repeat' (first | (refine And.intro ?_ ?_) | (intro hq; first | (exact absurd hq (by omega)) | skip))
          all_goals first | omega | exact hJ _ _ _ _ g | exact hj | exact (hw _ (by assumption)).1 | exact (hw _ (by assumption)).2
def sX2_day : LSt → KL → Prop := fun s K => lok s ∧ K [pI (fDay s).1] (fDay s).2
theorem mX2_day_ok : mOk encL bdL mX2_day (atR 0 (a0 sX2_day)) := by
  refine mOVa0 kX2_day (fun _ => rfl) (fun s K h hb => wx_J [39] 9 tX2_day_ok rfl (fun J hR hJ => ?_))
  obtain ⟨⟨hu, h3, h4, hw⟩, hK⟩ := h
  have hz0 := hw 0 (by decide) 0 (by decide)
  have hz : 0 ≤ wZ ((setS s 4 0).2.2 0) 0 ∧ wZ ((setS s 4 0).2.2 0) 0 ≤ 4 := hz0
  have hw0 : wok ((setS s 4 0).2.2 0) := hw 0 (by decide)
  have hu0 : uok (setS s 4 0) := hu
  have hb1 : bdL (setS s 4 0) := bdL_S hb ⟨by omega, by omega⟩
  unfold fDay at hK
  refine fun _ => ?_
  generalize setS s 4 0 = u at hK hz hw0 hu0 hb1 ⊢
  generalize s.1 4 = len at h4 hK ⊢
  have he := dmL_b u len h4.2 80 0 (by omega)
  have he : -1 ≤ lDm u len ∧ lDm u len ≤ 91 := he
  unfold fDy1 at hK
  have x4 : xB ((u.2.2 0).1 4) := (hb1.2.2 0).1 4
  by_cases c1 : 0 ≤ lDm u len
  · rw [if_pos c1] at hK
    repeat' (first | (refine And.intro ?_ ?_) | (intro hq; first | (exact absurd hq (by omega)) | skip))
    all_goals first | omega | exact hR _ _ hK
  · rw [if_neg c1] at hK
    have g1 := X2_day_l (Pt := fun _ => False) len ((u.2.2 0).1 4) h4 x4 80 0 0 0 u hw0 hu0 (by omega) (by omega) (by omega) (by omega) (by omega) (by omega) hK
    repeat' (first | (refine And.intro ?_ ?_) | (intro hq; first | (exact absurd hq (by omega)) | skip))
    all_goals first | omega | exact hJ _ _ _ _ g1
