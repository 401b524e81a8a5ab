/-! ===== LateSessions: next, ahead, latest, span ===== -/
def nxL (w : WS) : Nat → Int → Int → Int → Int × Int
  | 0, _, a, b => (a, b)
  | m + 1, i, a, b => if ¬ wRipe w i (w.1 3) ∧ (a < 0 ∨ wG w 1 i 2 < b) then nxL w m (i + 1) i (wG w 1 i 2) else nxL w m (i + 1) a b
def fNext2 (s : LSt) (p : Int × Int) : Int × LSt := if p.1 < 0 then (-2, s) else (p.1, lTell1 s (wI (wI (wI (p.2 + (s.2.2 0).1 0) + 1) - (s.2.2 0).1 3)))
def fNext (s : LSt) : Int × LSt := fNext2 s (nxL (s.2.2 0) (wZ (s.2.2 0) 1).toNat 0 (-1) 0)
theorem X2_next_l {K : KL} {Pt : LSt → Prop} (s : LSt) : ∀ (m : Nat) (i a b : Int), xB a → xB b → 0 ≤ i → i ≤ max 0 (wZ (s.2.2 0) 1) → m = (wZ (s.2.2 0) 1 - i).toNat → K [pI (fNext2 s (nxL (s.2.2 0) m i a b)).1] (fNext2 s (nxL (s.2.2 0) m i a b)).2 → wX encL bdL mX2_next 0 0 K Pt 6 [some (pR 0), some (pI a), some (pI b), some (pI i), none] [] s := by
  intro m
  induction m with
  | zero =>
    intro i a b ha hb2 h0 h1 hm hK
    refine wx_Jb [6] 9 tX2_next_ok rfl (fun hb J hR hJ => ?_)
    have hz : xB (wZ (s.2.2 0) 1) := ((hb.2.2 0).2 1).1
    rw [nxL] at hK
    unfold fNext2 at hK
    intro _
    refine ⟨⟨⟨by omega, by omega⟩, hz⟩, fun _ => ?_, fun c => ?_⟩
    · by_cases c : a < 0
      · rw [if_pos c] at hK
        repeat' (first | (refine And.intro ?_ ?_) | intro _)
        all_goals first | omega | exact hR _ _ hK
      · rw [if_neg c] at hK
        repeat' (first | (refine And.intro ?_ ?_) | intro _)
        all_goals first | omega | exact hR _ _ hK
    · have c : i < wZ (s.2.2 0) 1 := c
      omega
  | succ m ih =>
    intro i a b ha hb2 h0 h1 hm hK
    refine wx_Jb [6] 9 tX2_next_ok rfl (fun hb J hR hJ => ?_)
    have hz : xB (wZ (s.2.2 0) 1) := ((hb.2.2 0).2 1).1
    rw [nxL] at hK
    have e1 : (¬ wRipe (s.2.2 0) i ((s.2.2 0).1 3) ∧ (a < 0 ∨ wG (s.2.2 0) 1 i 2 < b)) → wX encL bdL mX2_next 0 0 K Pt 6 [some (pR 0), some (pI i), some (pI (wG (s.2.2 0) 1 i 2)), some (pI (i + 1)), none] [] s := fun c => by
      rw [if_pos c] at hK
      exact ih (i + 1) _ _ ⟨by omega, by omega⟩ (wG_B (hb.2.2 0)) (by omega) (by omega) (by omega) hK
    have e2 : ¬ (¬ wRipe (s.2.2 0) i ((s.2.2 0).1 3) ∧ (a < 0 ∨ wG (s.2.2 0) 1 i 2 < b)) → wX encL bdL mX2_next 0 0 K Pt 6 [some (pR 0), some (pI a), some (pI b), some (pI (i + 1)), none] [] s := fun c => by
      rw [if_neg c] at hK
      exact ih (i + 1) _ _ ha hb2 (by omega) (by omega) (by omega) hK
    intro _
    refine ⟨⟨⟨by omega, by omega⟩, hz⟩, fun c => ?_, fun _ => ?_⟩
    · have c : wZ (s.2.2 0) 1 ≤ i := c
      omega
    · repeat' (first | (refine And.intro ?_ ?_) | intro _)
      all_goals first | omega | exact hJ _ _ _ _ (e1 (by omega)) | exact hJ _ _ _ _ (e2 (by omega))
def sX2_next : LSt → KL → Prop := fun s K => K [pI (fNext s).1] (fNext s).2
theorem mX2_next_ok : mOk encL bdL mX2_next (atR 0 (a0 sX2_next)) := by
  refine mOVa0 kX2_next (fun _ => rfl) (fun s K h hb => wx_J [6] 9 tX2_next_ok rfl (fun J hR hJ => ?_))
  exact hJ _ _ _ _ (X2_next_l s _ 0 (-1) 0 ⟨by omega, by omega⟩ ⟨by omega, by omega⟩ (by omega) (by omega) (by rw [Int.sub_zero]) h)
def wOvers (w : WS) (p : Int) : Int → Bool := fun i => decide (wOver w i p)
def fAhead (s : LSt) (p : Int) : Int × LSt := if 0 ≤ p ∧ p ≤ 20000 then (if p < (s.2.2 0).1 3 then (-2, s) else (wRipening (s.2.2 0) p, lTell1 s (cntI (wOvers (s.2.2 0) p) (wZ (s.2.2 0) 1).toNat 0))) else (-1, s)
theorem X2_ahead_l {K : KL} {Pt : LSt → Prop} (s : LSt) (p : Int) (hp : xB p) : ∀ (m : Nat) (i a : Int), 0 ≤ a → a ≤ i → 0 ≤ i → i ≤ max 0 (wZ (s.2.2 0) 1) → m = (wZ (s.2.2 0) 1 - i).toNat → K [pI (wRipening (s.2.2 0) p)] (lTell1 s (a + cntI (wOvers (s.2.2 0) p) m i)) → wX encL bdL mX2_ahead 0 0 K Pt 31 [some (pR 0), some (pI p), some (pI a), some (pI i)] [] s := by
  intro m
  induction m with
  | zero =>
    intro i a ha1 ha2 h0 h1 hm hK
    refine wx_Jb [31] 9 tX2_ahead_ok rfl (fun hb J hR hJ => ?_)
    have hz : xB (wZ (s.2.2 0) 1) := ((hb.2.2 0).2 1).1
    rw [cntI, Int.add_zero] at hK
    have hK2 : K [pI (wRipening ((lTell1 s a).2.2 0) p)] (lTell1 s a) := by rw [lTell1_w]; exact hK
    intro _
    refine ⟨⟨⟨by omega, by omega⟩, hz⟩, fun _ => ?_, fun c => ?_⟩
    · repeat' (first | (refine And.intro ?_ ?_) | intro _)
      all_goals first | omega | exact hR _ _ hK2
    · have c : i < wZ (s.2.2 0) 1 := c
      omega
  | succ m ih =>
    intro i a ha1 ha2 h0 h1 hm hK
    refine wx_Jb [31] 9 tX2_ahead_ok rfl (fun hb J hR hJ => ?_)
    have hz : xB (wZ (s.2.2 0) 1) := ((hb.2.2 0).2 1).1
    have e1 : wOver (s.2.2 0) i p → wX encL bdL mX2_ahead 0 0 K Pt 31 [some (pR 0), some (pI p), some (pI (a + 1)), some (pI (i + 1))] [] s := fun c => by
      rw [cntI_t (decide_eq_true c), ← Int.add_assoc] at hK
      exact ih (i + 1) _ (by omega) (by omega) (by omega) (by omega) (by omega) hK
    have e2 : ¬ wOver (s.2.2 0) i p → wX encL bdL mX2_ahead 0 0 K Pt 31 [some (pR 0), some (pI p), some (pI a), some (pI (i + 1))] [] s := fun c => by
      rw [cntI_f (decide_eq_false c)] at hK
      exact ih (i + 1) _ (by omega) (by omega) (by omega) (by omega) (by omega) hK
    intro _
    refine ⟨⟨⟨by omega, by omega⟩, hz⟩, fun c => ?_, fun _ => ?_⟩
    · have c : wZ (s.2.2 0) 1 ≤ i := c
      omega
    · repeat' (first | (refine And.intro ?_ ?_) | intro _)
      all_goals first | omega | exact hJ _ _ _ _ (e1 (by omega)) | exact hJ _ _ _ _ (e2 (by omega))
def sX2_ahead : Int → LSt → KL → Prop := fun p s K => xB p ∧ K [pI (fAhead s p).1] (fAhead s p).2
theorem mX2_ahead_ok : mOk encL bdL mX2_ahead (atR 0 (a1 sX2_ahead)) := by
  refine mOVa1 kX2_ahead (fun _ => rfl) (fun p s K h hb => wx_J [31] 9 tX2_ahead_ok rfl (fun J hR hJ => ?_))
  obtain ⟨h1, hK⟩ := h
  unfold fAhead at hK
  by_cases c : 0 ≤ p ∧ p ≤ 20000
  · rw [if_pos c] at hK
    by_cases c2 : p < (s.2.2 0).1 3
    · rw [if_pos c2] at hK
      repeat' (first | (refine And.intro ?_ ?_) | intro _)
      all_goals first | omega | exact hR _ _ hK
    · rw [if_neg c2] at hK
      have g := X2_ahead_l (K := K) (Pt := fun _ => False) s p h1 _ 0 0 (by omega) (by omega) (by omega) (by omega) (by rw [Int.sub_zero]) (by rw [Int.zero_add]; exact hK)
      repeat' (first | (refine And.intro ?_ ?_) | intro _)
      all_goals first | omega | exact hJ _ _ _ _ g
  · rw [if_neg c] at hK
    repeat' (first | (refine And.intro ?_ ?_) | intro _)
    all_goals first | omega | exact hR _ _ hK
def laL (w : WS) : Nat → Int → Int → Int → Int × Int
  | 0, _, a, b => (a, b)
  | m + 1, i, a, b => if a < wG w 4 i 6 then laL w m (i + 1) (wG w 4 i 6) i else laL w m (i + 1) a b
def fLatest (s : LSt) : Int × LSt :=
  let p := laL (s.2.2 0) (wZ (s.2.2 0) 4).toNat 0 0 (-1)
  (p.1, lTell1 s p.2)
theorem X2_latest_l {K : KL} {Pt : LSt → Prop} (s : LSt) : ∀ (m : Nat) (i a b : Int), xB a → xB b → 0 ≤ i → i ≤ max 0 (wZ (s.2.2 0) 4) → m = (wZ (s.2.2 0) 4 - i).toNat → K [pI (laL (s.2.2 0) m i a b).1] (lTell1 s (laL (s.2.2 0) m i a b).2) → wX encL bdL mX2_latest 0 0 K Pt 6 [some (pR 0), some (pI a), some (pI b), some (pI i), none] [] s := by
  intro m
  induction m with
  | zero =>
    intro i a b ha hb2 h0 h1 hm hK
    refine wx_Jb [6] 9 tX2_latest_ok rfl (fun hb J hR hJ => ?_)
    have hz : xB (wZ (s.2.2 0) 4) := ((hb.2.2 0).2 4).1
    intro _
    refine ⟨⟨⟨by omega, by omega⟩, hz⟩, fun _ => ?_, fun c => ?_⟩
    · repeat' (first | (refine And.intro ?_ ?_) | intro _)
      all_goals first | omega | exact hR _ _ hK
    · have c : i < wZ (s.2.2 0) 4 := c
      omega
  | succ m ih =>
    intro i a b ha hb2 h0 h1 hm hK
    refine wx_Jb [6] 9 tX2_latest_ok rfl (fun hb J hR hJ => ?_)
    have hz : xB (wZ (s.2.2 0) 4) := ((hb.2.2 0).2 4).1
    rw [laL] at hK
    have e1 : a < wG (s.2.2 0) 4 i 6 → wX encL bdL mX2_latest 0 0 K Pt 6 [some (pR 0), some (pI (wG (s.2.2 0) 4 i 6)), some (pI i), some (pI (i + 1)), none] [] s := fun c => by
      rw [if_pos c] at hK
      exact ih (i + 1) _ _ (wG_B (hb.2.2 0)) ⟨by omega, by omega⟩ (by omega) (by omega) (by omega) hK
    have e2 : ¬ a < wG (s.2.2 0) 4 i 6 → wX encL bdL mX2_latest 0 0 K Pt 6 [some (pR 0), some (pI a), some (pI b), some (pI (i + 1)), none] [] s := fun c => by
      rw [if_neg c] at hK
      exact ih (i + 1) _ _ ha hb2 (by omega) (by omega) (by omega) hK
    intro _
    refine ⟨⟨⟨by omega, by omega⟩, hz⟩, fun c => ?_, fun _ => ?_⟩
    · have c : wZ (s.2.2 0) 4 ≤ i := c
      omega
    · repeat' (first | (refine And.intro ?_ ?_) | intro _)
      all_goals first | omega | exact hJ _ _ _ _ (e1 (by omega)) | exact hJ _ _ _ _ (e2 (by omega))
def sX2_latest : LSt → KL → Prop := fun s K => K [pI (fLatest s).1] (fLatest s).2
theorem mX2_latest_ok : mOk encL bdL mX2_latest (atR 0 (a0 sX2_latest)) := by
  refine mOVa0 kX2_latest (fun _ => rfl) (fun s K h hb => wx_J [6] 9 tX2_latest_ok rfl (fun J hR hJ => ?_))
  exact hJ _ _ _ _ (X2_latest_l s _ 0 0 (-1) ⟨by omega, by omega⟩ ⟨by omega, by omega⟩ (by omega) (by omega) (by rw [Int.sub_zero]) h)
-- X2_span: heads [35, 48]
def tX2_span : Nat → Blk LSt := fun pc => bif Nat.blt pc 48 then (bif Nat.blt pc 21 then (bif Nat.blt pc 19 then (bif Nat.beq pc 0 then (oIld 1 <| oC1 (cL_X2_isTime) <| oZEq 19 <| oIld 2 <| oC1 (cL_X2_isTime) <| oZEq 19 <| oIld 2 <| oIld 1 <| oCGe 21 <| oTo 19) else oNo) else (bif Nat.beq pc 19 then (oI (-1) <| oIret) else oNo)) else (bif Nat.blt pc 35 then (bif Nat.beq pc 21 then (oI 0 <| oIst 3 <| oI 0 <| oIst 4 <| oI (-1) <| oIst 5 <| oI 0 <| oIst 6 <| oI 0 <| oIst 7 <| oM [true, true, true, true, true, true, true, true, false, false, false] (oTo 35)) else oNo) else (bif Nat.beq pc 35 then (oIld 7 <| oI 6 <| oCGe 157 <| oI 0 <| oIst 8 <| oI 0 <| oIst 9 <| oM [true, true, true, true, true, true, true, true, true, true, false] (oTo 48)) else oNo))) else (bif Nat.blt pc 129 then (bif Nat.blt pc 123 then (bif Nat.beq pc 48 then (oIld 9 <| oAld 0 <| oGet (fgL) 2 0 <| oGet (fgL) 1 14 <| oGet (fgL) 0 3 <| oCGe 129 <| oAld 0 <| oGet (fgL) 2 0 <| oGet (fgL) 1 14 <| oIld 9 <| oI 2 <| oC3 (cL_X0_get) <| oIst 10 <| oAld 0 <| oGet (fgL) 2 0 <| oIld 9 <| oIld 7 <| oC3 (cL_X1_isTakenOf) <| oZEq 123 <| oIld 10 <| oIld 1 <| oCLt 123 <| oIld 10 <| oIld 2 <| oCGt 123 <| oInc 8 1 <| oIld 3 <| oAld 0 <| oGet (fgL) 2 0 <| oGet (fgL) 1 14 <| oIld 9 <| oI 4 <| oC3 (cL_X0_get) <| oAddW <| oIst 3 <| oTo 123) else oNo) else (bif Nat.beq pc 123 then (oInc 9 1 <| oM [true, true, true, true, true, true, true, true, true, true, false] (oTo 48)) else oNo)) else (bif Nat.blt pc 151 then (bif Nat.beq pc 129 then (oIld 4 <| oIld 8 <| oAddW <| oIst 4 <| oIld 8 <| oIld 6 <| oCLe 151 <| oIld 8 <| oIst 6 <| oIld 7 <| oIst 5 <| oTo 151) else oNo) else (bif Nat.blt pc 157 then (bif Nat.beq pc 151 then (oInc 7 1 <| oM [true, true, true, true, true, true, true, true, false, false, false] (oTo 35)) else oNo) else (bif Nat.beq pc 157 then (oAld 0 <| oIld 3 <| oI2l <| oIld 5 <| oI2l <| oIld 6 <| oI2l <| oC4 (cL_X2_tellThree) <| oIld 4 <| oIret) else oNo))))
theorem tX2_span_ok : ∀ pc, bOk (encL) (bdL) mX2_span 0 0 pc (tX2_span pc) := fun pc => (tNode (tNode (tNode (tLeaf (okIldn iX2_span_0 rfl <| okC1 (qL_X2_isTime iX2_span_1) <| okZEq (tl rfl) iX2_span_4 <| okIldn iX2_span_7 rfl <| okC1 (qL_X2_isTime iX2_span_8) <| okZEq (tl rfl) iX2_span_11 <| okIldn iX2_span_14 rfl <| okIldn iX2_span_15 rfl <| okCGe (tl rfl) iX2_span_16 <| okTo (tl rfl))) (tLeaf (okIc iX2_span_19 <| okIret iX2_span_20 rfl))) (tNode (tLeaf (okIc iX2_span_21 <| okIstn iX2_span_22 rfl (by decide) <| okIc iX2_span_23 <| okIst iX2_span_24 (by decide) <| okIc iX2_span_26 <| okIst iX2_span_27 (by decide) <| okIc iX2_span_29 <| okIst iX2_span_30 (by decide) <| okIc iX2_span_32 <| okIst iX2_span_33 (by decide) <| okM (okTo (tl rfl)))) (tLeaf (okIld iX2_span_35 <| okBi iX2_span_37 (by decide) <| okCGe (tl rfl) iX2_span_39 <| okIc iX2_span_42 <| okIst iX2_span_43 (by decide) <| okIc iX2_span_45 <| okIst iX2_span_46 (by decide) <| okM (okTo (tl rfl)))))) (tNode (tNode (tLeaf (okIld iX2_span_48 <| okAldn iX2_span_50 rfl <| okGet (vFgL) iX2_span_51 <| okGet (vFgL) iX2_span_54 <| okGet (vFgL) iX2_span_57 <| okCGe (tl rfl) iX2_span_60 <| okAldn iX2_span_63 rfl <| okGet (vFgL) iX2_span_64 <| okGet (vFgL) iX2_span_67 <| okIld iX2_span_70 <| okIc iX2_span_72 <| okC3 (qL_X0_get iX2_span_73) <| okIst iX2_span_76 (by decide) <| okAldn iX2_span_78 rfl <| okGet (vFgL) iX2_span_79 <| okIld iX2_span_82 <| okIld iX2_span_84 <| okC3 (qL_X1_isTakenOf iX2_span_86) <| okZEq (tl rfl) iX2_span_89 <| okIld iX2_span_92 <| okIldn iX2_span_94 rfl <| okCLt (tl rfl) iX2_span_95 <| okIld iX2_span_98 <| okIldn iX2_span_100 rfl <| okCGt (tl rfl) iX2_span_101 <| okInc iX2_span_104 (by decide) <| okIldn iX2_span_107 rfl <| okAldn iX2_span_108 rfl <| okGet (vFgL) iX2_span_109 <| okGet (vFgL) iX2_span_112 <| okIld iX2_span_115 <| okIc iX2_span_117 <| okC3 (qL_X0_get iX2_span_118) <| okAddW iX2_span_121 <| okIstn iX2_span_122 rfl (by decide) <| okTo (tl rfl))) (tLeaf (okInc iX2_span_123 (by decide) <| okGotoM (tl rfl) iX2_span_126))) (tNode (tLeaf (okIld iX2_span_129 <| okIld iX2_span_131 <| okAddW iX2_span_133 <| okIst iX2_span_134 (by decide) <| okIld iX2_span_136 <| okIld iX2_span_138 <| okCLe (tl rfl) iX2_span_140 <| okIld iX2_span_143 <| okIst iX2_span_145 (by decide) <| okIld iX2_span_147 <| okIst iX2_span_149 (by decide) <| okTo (tl rfl))) (tNode (tLeaf (okInc iX2_span_151 (by decide) <| okGotoM (tl rfl) iX2_span_154)) (tLeaf (okAldn iX2_span_157 rfl <| okIldn iX2_span_158 rfl <| okI2l iX2_span_159 <| okIld iX2_span_160 <| okI2l iX2_span_162 <| okIld iX2_span_163 <| okI2l iX2_span_165 <| okC4 (qL_X2_tellThree iX2_span_166) <| okIld iX2_span_169 <| okIret iX2_span_171 rfl)))))) pc
abbrev spC (w : WS) (f t k i : Int) : Prop := wTakenOf w i k ∧ f ≤ wG w 4 i 2 ∧ wG w 4 i 2 ≤ t
def spI (w : WS) (f t k : Int) : Nat → Int → Int → Int → Int × Int
  | 0, _, a, v => (a, v)
  | m + 1, i, a, v => if spC w f t k i then spI w f t k m (i + 1) (a + 1) (wI (v + wG w 4 i 4)) else spI w f t k m (i + 1) a v
/-- values, together, the key that has most, how many -/
def spO (w : WS) (f t : Int) : Nat → Int → Int → Int → Int → Int → Int × Int × Int × Int
  | 0, _, v, a, k, b => (v, a, k, b)
  | m + 1, i, v, a, k, b =>
    let p := spI w f t i (wZ w 4).toNat 0 0 v
    spO w f t m (i + 1) p.2 (wI (a + p.1)) (if b < p.1 then i else k) (if b < p.1 then p.1 else b)
def fSpan2 (s : LSt) (p : Int × Int × Int × Int) : Int × LSt := (p.2.1, lTell3 s p.1 p.2.2.1 p.2.2.2)
def fSpan (s : LSt) (f t : Int) : Int × LSt := if (0 ≤ f ∧ f ≤ 9999) ∧ (0 ≤ t ∧ t ≤ 9999) ∧ f ≤ t then fSpan2 s (spO (s.2.2 0) f t 6 0 0 0 (-1) 0) else (-1, s)
theorem spI_b (w : WS) (f t k : Int) : ∀ (m : Nat) (i a v : Int), a ≤ (spI w f t k m i a v).1 ∧ (spI w f t k m i a v).1 ≤ a + m ∧ (xB v → xB (spI w f t k m i a v).2)
  | 0, i, a, v => ⟨by simp [spI], by simp [spI], fun h => h⟩
  | m + 1, i, a, v => by
    unfold spI
    split
    · have := spI_b w f t k m (i + 1) (a + 1) (wI (v + wG w 4 i 4))
      exact ⟨by omega, by omega, fun _ => this.2.2 (wI_B _)⟩
    · have := spI_b w f t k m (i + 1) a v
      exact ⟨by omega, by omega, this.2.2⟩
theorem X2_span_l2 {K : KL} {Pt : LSt → Prop} (s : LSt) (f t a k b kk : Int) (hf : xB f) (ht : xB t) (hkk : xB kk) (hb3 : xB b) (x : Int × Int → Prop) (hx : ∀ p : Int × Int, x p → wX encL bdL mX2_span 0 0 K Pt 35 [some (pR 0), some (pI f), some (pI t), some (pI p.2), some (pI (wI (a + p.1))), some (pI (if b < p.1 then kk else k)), some (pI (if b < p.1 then p.1 else b)), some (pI (kk + 1)), none, none, none] [] s) : ∀ (m : Nat) (i c v : Int), 0 ≤ c → c ≤ i → 0 ≤ i → i ≤ max 0 (wZ (s.2.2 0) 4) → m = (wZ (s.2.2 0) 4 - i).toNat → x (spI (s.2.2 0) f t kk m i c v) → wX encL bdL mX2_span 0 0 K Pt 48 [some (pR 0), some (pI f), some (pI t), some (pI v), some (pI a), some (pI k), some (pI b), some (pI kk), some (pI c), some (pI i), none] [] s := by
  intro m
  induction m with
  | zero =>
    intro i c v hc hc2 h0 h1 hm hK
    refine wx_Jb [35, 48] 9 tX2_span_ok rfl (fun hb J hR hJ => ?_)
    have hz : xB (wZ (s.2.2 0) 4) := ((hb.2.2 0).2 4).1
    rw [spI] at hK
    have g := hx _ hK
    intro _
    refine ⟨⟨⟨by omega, by omega⟩, hz⟩, fun _ => ?_, fun c => ?_⟩
    · by_cases q : b < c
      · rw [if_pos (show b < (c, v).1 from q), if_pos (show b < (c, v).1 from q)] at g
        repeat' (first | (refine And.intro ?_ ?_) | intro _)
        all_goals first | omega | exact hJ _ _ _ _ g
      · rw [if_neg (show ¬ b < (c, v).1 from q), if_neg (show ¬ b < (c, v).1 from q)] at g
        repeat' (first | (refine And.intro ?_ ?_) | intro _)
        all_goals first | omega | exact hJ _ _ _ _ g
    · have c : i < wZ (s.2.2 0) 4 := c
      omega
  | succ m ih =>
    intro i c v hc hc2 h0 h1 hm hK
    refine wx_Jb [35, 48] 9 tX2_span_ok rfl (fun hb J hR hJ => ?_)
    have hz : xB (wZ (s.2.2 0) 4) := ((hb.2.2 0).2 4).1
    rw [spI] at hK
    have e1 : spC (s.2.2 0) f t kk i → wX encL bdL mX2_span 0 0 K Pt 48 [some (pR 0), some (pI f), some (pI t), some (pI (wI (v + wG (s.2.2 0) 4 i 4))), some (pI a), some (pI k), some (pI b), some (pI kk), some (pI (c + 1)), some (pI (i + 1)), none] [] s := fun q => by
      rw [if_pos q] at hK
      exact ih (i + 1) _ _ (by omega) (by omega) (by omega) (by omega) (by omega) hK
    have e2 : ¬ spC (s.2.2 0) f t kk i → wX encL bdL mX2_span 0 0 K Pt 48 [some (pR 0), some (pI f), some (pI t), some (pI v), some (pI a), some (pI k), some (pI b), some (pI kk), some (pI c), some (pI (i + 1)), none] [] s := fun q => by
      rw [if_neg q] at hK
      exact ih (i + 1) _ _ (by omega) (by omega) (by omega) (by omega) (by omega) hK
    intro _
    refine ⟨⟨⟨by omega, by omega⟩, hz⟩, fun c => ?_, fun _ => ?_⟩
    · have c : wZ (s.2.2 0) 4 ≤ i := c
      omega
    · repeat' (first | (refine And.intro ?_ ?_) | intro _)
      all_goals first | omega | exact hJ _ _ _ _ (e1 (by omega)) | exact hJ _ _ _ _ (e2 (by omega))
theorem X2_span_l1 {K : KL} {Pt : LSt → Prop} (s : LSt) (hs : bdL s) (f t : Int) (hf : xB f) (ht : xB t) : ∀ (m : Nat) (kk v a k b : Int), xB v → xB k → xB b → 0 ≤ kk → kk ≤ 6 → m = (6 - kk).toNat → K [pI (fSpan2 s (spO (s.2.2 0) f t m kk v a k b)).1] (fSpan2 s (spO (s.2.2 0) f t m kk v a k b)).2 → wX encL bdL mX2_span 0 0 K Pt 35 [some (pR 0), some (pI f), some (pI t), some (pI v), some (pI a), some (pI k), some (pI b), some (pI kk), none, none, none] [] s := by
  intro m
  have hz : xB (wZ (s.2.2 0) 4) := ((hs.2.2 0).2 4).1
  induction m with
  | zero =>
    intro kk v a k b hv hk hb2 h0 h1 hm hK
    refine wx_J [35, 48] 9 tX2_span_ok rfl (fun J hR hJ => ?_)
    repeat' (first | (refine And.intro ?_ ?_) | intro _)
    all_goals first | omega | exact hR _ _ hK
  | succ m ih =>
    intro kk v a k b hv hk hb2 h0 h1 hm hK
    refine wx_J [35, 48] 9 tX2_span_ok rfl (fun J hR hJ => ?_)
    rw [spO] at hK
    have hp := spI_b (s.2.2 0) f t kk (wZ (s.2.2 0) 4).toNat 0 0 v
    have g := X2_span_l2 (K := K) (Pt := Pt) s f t a k b kk hf ht ⟨by omega, by omega⟩ hb2 (fun p => p = spI (s.2.2 0) f t kk (wZ (s.2.2 0) 4).toNat 0 0 v) (fun p e => by
      subst e
      refine ih (kk + 1) _ _ _ _ (hp.2.2 hv) ?_ ?_ (by omega) (by omega) (by omega) hK
      · split
        · exact ⟨by omega, by omega⟩
        · exact hk
      · split
        · exact ⟨by omega, by omega⟩
        · exact hb2) _ 0 0 v (by omega) (by omega) (by omega) (by omega) (by rw [Int.sub_zero]) rfl
    repeat' (first | (refine And.intro ?_ ?_) | intro _)
    all_goals first | omega | exact hJ _ _ _ _ g
def sX2_span : Int → Int → LSt → KL → Prop := fun f t s K => (xB f ∧ xB t) ∧ K [pI (fSpan s f t).1] (fSpan s f t).2
theorem mX2_span_ok : mOk encL bdL mX2_span (atR 0 (a2 sX2_span)) := by
  refine mOVa2 kX2_span (fun _ _ => rfl) (fun f t s K h hb => wx_J [35, 48] 9 tX2_span_ok rfl (fun J hR hJ => ?_))
  obtain ⟨⟨h1, h2⟩, hK⟩ := h
  unfold fSpan at hK
  by_cases c : (0 ≤ f ∧ f ≤ 9999) ∧ (0 ≤ t ∧ t ≤ 9999) ∧ f ≤ t
  · rw [if_pos c] at hK
    have g := X2_span_l1 (K := K) (Pt := fun _ => False) s hb f t h1 h2 6 0 0 0 (-1) 0 ⟨by omega, by omega⟩ ⟨by omega, by omega⟩ ⟨by omega, by omega⟩ (by omega) (by omega) (by omega) hK
    repeat' (first | (refine And.intro ?_ ?_) | intro _)
    all_goals first | omega | exact hJ _ _ _ _ g
  · rw [if_neg c] at hK
    repeat' (first | (refine And.intro ?_ ?_) | intro _)
    all_goals first | omega | exact hR _ _ hK
