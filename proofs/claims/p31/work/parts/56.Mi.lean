/-! ===== the model: a session comes in ===== -/
def cpL (a b : Int) : Nat → Int → MS → MS
  | 0, _, s => s
  | m + 1, k, s => cpL a b m (k + 1) (mP s (a + k) (mg s (b + k)))
def fpL2 (a : Int) : Nat → Int → MS → MS
  | 0, _, s => s
  | m + 1, k, s => fpL2 a m (k + 1) (mP s (a + k) (s.2 4 k.toNat))
def cmL (d : Int) : Nat → MS → Nat × MS
  | 0, s => (0, s)
  | i + 1, s => if mBehind s d (i : Int) then cmL d i (cpL ((d * 2804 + 364 + 7 * ((i : Int) + 1))) ((d * 2804 + 364 + 7 * (i : Int))) 7 0 s) else (i + 1, s)
def mIn (s : MS) (d : Int) : Nat × MS :=
  let p := cmL d (mg s (d * 2804 + 5)).toNat s
  (p.1, mInc (fpL2 ((d * 2804 + 364 + 7 * (p.1 : Int))) 7 0 p.2) (d * 2804 + 5) 1)
theorem X3_comesIn_l3 {K : KM} {Pt : MS → Prop} (d i : Int) (hd : dOk d) (hi : 0 ≤ i ∧ i ≤ 160) : ∀ (m : Nat) (k : Int) (s : MS), 0 ≤ k → k ≤ 7 → m = (7 - k).toNat → K [pI i] (mInc (fpL2 ((d * 2804 + 364 + 7 * i)) m k s) (d * 2804 + 5) 1) → wX encM bdM mX3_comesIn 0 0 K Pt 70 [some (pR 0), some (pI d), some (pI i), some (pI k)] [] s := by
  intro m
  induction m with
  | zero =>
    intro k s h0 h1 hm hK
    refine wx_J [7, 24, 70] 9 tX3_comesIn_ok rfl (fun J hR hJ => ?_)
    repeat' (first | (refine And.intro ?_ ?_) | (intro hq; first | (exact absurd hq (by omega)) | skip))
    all_goals first | omega | exact hR _ _ hK
  | succ m ih =>
    intro k s h0 h1 hm hK
    refine wx_J [7, 24, 70] 9 tX3_comesIn_ok rfl (fun J hR hJ => ?_)
    rw [fpL2] at hK
    have g := ih (k + 1) _ (by omega) (by omega) (by omega) hK
    repeat' (first | (refine And.intro ?_ ?_) | (intro hq; first | (exact absurd hq (by omega)) | skip))
    all_goals first | omega | exact hJ _ _ _ _ g
theorem X3_comesIn_l2 {K : KM} {Pt : MS → Prop} (d i : Int) (hd : dOk d) (hi : 1 ≤ i ∧ i ≤ 160) (x : MS → Prop) (hx : ∀ s, x s → wX encM bdM mX3_comesIn 0 0 K Pt 7 [some (pR 0), some (pI d), some (pI (i + -1)), none] [] s) : ∀ (m : Nat) (k : Int) (s : MS), 0 ≤ k → k ≤ 7 → m = (7 - k).toNat → x (cpL ((d * 2804 + 364 + 7 * i)) ((d * 2804 + 364 + 7 * (i - 1))) m k s) → wX encM bdM mX3_comesIn 0 0 K Pt 24 [some (pR 0), some (pI d), some (pI i), some (pI k)] [] s := by
  intro m
  induction m with
  | zero =>
    intro k s h0 h1 hm hK
    have g := hx _ hK
    refine wx_J [7, 24, 70] 9 tX3_comesIn_ok rfl (fun J hR hJ => ?_)
    repeat' (first | (refine And.intro ?_ ?_) | (intro hq; first | (exact absurd hq (by omega)) | skip))
    all_goals first | omega | exact hJ _ _ _ _ g
  | succ m ih =>
    intro k s h0 h1 hm hK
    refine wx_J [7, 24, 70] 9 tX3_comesIn_ok rfl (fun J hR hJ => ?_)
    rw [cpL] at hK
    have g := ih (k + 1) _ (by omega) (by omega) (by omega) hK
    repeat' (first | (refine And.intro ?_ ?_) | (intro hq; first | (exact absurd hq (by omega)) | skip))
    all_goals first | omega | exact hJ _ _ _ _ g
theorem X3_comesIn_l1 {K : KM} {Pt : MS → Prop} (d : Int) (hd : dOk d) : ∀ (i : Nat) (s : MS), (i : Int) ≤ 160 → K [pI ((cmL d i s).1 : Int)] (mInc (fpL2 ((d * 2804 + 364 + 7 * ((cmL d i s).1 : Int))) 7 0 (cmL d i s).2) (d * 2804 + 5) 1) → wX encM bdM mX3_comesIn 0 0 K Pt 7 [some (pR 0), some (pI d), some (pI i), none] [] s := by
  intro i
  induction i with
  | zero =>
    intro s h1 hK
    refine wx_J [7, 24, 70] 9 tX3_comesIn_ok rfl (fun J hR hJ => ?_)
    rw [cmL] at hK
    have g := X3_comesIn_l3 (K := K) (Pt := Pt) d 0 hd (by omega) 7 0 s (by omega) (by omega) (by omega) hK
    repeat' (first | (refine And.intro ?_ ?_) | (intro hq; first | (exact absurd hq (by omega)) | skip))
    all_goals first | omega | exact hJ _ _ _ _ g
  | succ i ih =>
    intro s h1 hK
    refine wx_J [7, 24, 70] 9 tX3_comesIn_ok rfl (fun J hR hJ => ?_)
    rw [cmL] at hK
    have e0 : ((i + 1 : Nat) : Int) = (i : Int) + 1 := by omega
    have e1 : (i : Int) + 1 - 1 = (i : Int) := by omega
    have e2 : (i : Int) + 1 + -1 = (i : Int) := by omega
    rw [e0]
    rw [e0] at h1
    by_cases c : mBehind s d (i : Int)
    · rw [if_pos c] at hK
      have g := X3_comesIn_l2 (K := K) (Pt := Pt) d ((i : Int) + 1) hd ⟨by omega, by omega⟩ (fun s' => s' = cpL ((d * 2804 + 364 + 7 * ((i : Int) + 1))) ((d * 2804 + 364 + 7 * (i : Int))) 7 0 s) (fun s' e => by
        subst e
        rw [e2]
        exact ih _ (by omega) hK) 7 0 s (by omega) (by omega) (by omega) (by rw [e1])
      have c2 : mBehind s d ((i : Int) + 1 - 1) := by rw [e1]; exact c
      repeat' (first | (refine And.intro ?_ ?_) | (intro hq; first | (exact absurd hq (by omega)) | skip))
      all_goals first | omega | exact hJ _ _ _ _ g | (exact absurd c2 ‹_›)
    · rw [if_neg c] at hK
      have g := X3_comesIn_l3 (K := K) (Pt := Pt) d ((i : Int) + 1) hd ⟨by omega, by omega⟩ 7 0 s (by omega) (by omega) (by omega) (by rw [e0] at hK; exact hK)
      have c2 : ¬ mBehind s d ((i : Int) + 1 - 1) := by rw [e1]; exact c
      repeat' (first | (refine And.intro ?_ ?_) | (intro hq; first | (exact absurd hq (by omega)) | skip))
      all_goals first | omega | exact hJ _ _ _ _ g | (exact absurd ‹_› c2)
def sX3_comesIn : Int → MS → KM → Prop := fun d s K => (dOk d ∧ 0 ≤ mg s (d * 2804 + 5) ∧ mg s (d * 2804 + 5) ≤ 160) ∧ (0 ≤ ((mIn s d).1 : Int) → ((mIn s d).1 : Int) ≤ 160 → K [pI ((mIn s d).1 : Int)] (mIn s d).2)
theorem cmL_b (d : Int) : ∀ (i : Nat) (s : MS), (cmL d i s).1 ≤ i
  | 0, s => by simp [cmL]
  | i + 1, s => by
    unfold cmL
    split
    · have := cmL_b d i (cpL ((d * 2804 + 364 + 7 * ((i : Int) + 1))) ((d * 2804 + 364 + 7 * (i : Int))) 7 0 s)
      omega
    · exact Nat.le_refl _
theorem mX3_comesIn_ok : mOk encM bdM mX3_comesIn (atR 0 (a1 sX3_comesIn)) := by
  refine mOVa1 kX3_comesIn (fun _ => rfl) (fun d s K h hb => wx_J [7, 24, 70] 9 tX3_comesIn_ok rfl (fun J hR hJ => ?_))
  obtain ⟨⟨h1, h2, h3⟩, h4⟩ := h
  have hc := cmL_b d (mg s (d * 2804 + 5)).toNat s
  have hK := h4 (by omega) (by show ((cmL d (mg s (d * 2804 + 5)).toNat s).1 : Int) ≤ 160; omega)
  have g := X3_comesIn_l1 (K := K) (Pt := fun _ => False) d h1 (mg s (d * 2804 + 5)).toNat s (by omega) hK
  rw [show ((mg s (d * 2804 + 5)).toNat : Int) = mg s (d * 2804 + 5) by omega] at g
  repeat' (first | (refine And.intro ?_ ?_) | (intro hq; first | (exact absurd hq (by omega)) | skip))
  all_goals first | omega | exact hJ _ _ _ _ g
def cM_X3_comesIn : Sp MS := atR 0 (a1 sX3_comesIn)
theorem qM_X3_comesIn {M : XI} {rc rs pc pc2 : Nat} (d : xl_Ca M pc mX3_comesIn pc2) : cOk encM bdM M rc rs pc pc2 2 cM_X3_comesIn := cSame mX3_comesIn_ok vX3_comesIn d mcl rfl lenM recM
-- X3_rises: heads [44, 106]
def tX3_rises : Nat → Blk MS := fun pc => bif Nat.blt pc 99 then (bif Nat.blt pc 19 then (bif Nat.beq pc 0 then (oAld 0 <| oIld 1 <| oC2 (cM_X3_leastMark) <| oIst 2 <| oAld 0 <| oIld 1 <| oI 4 <| oC3 (cM_X3_of) <| oIst 3 <| oIld 2 <| oIld 3 <| oCGt 19 <| oVret) else oNo) else (bif Nat.blt pc 44 then (bif Nat.beq pc 19 then (oAld 0 <| oIld 1 <| oI 4 <| oIld 2 <| oC4 (cM_X3_puts) <| oAld 0 <| oI (-1) <| oPut (fpM) 3 10 <| oAld 0 <| oI (-1) <| oPut (fpM) 3 11 <| oAld 0 <| oIld 1 <| oIld 3 <| oC3 (cM_X3_firstRipe) <| oIst 4 <| oM [true, true, false, true, true] (oTo 44)) else oNo) else (bif Nat.beq pc 44 then (oIld 4 <| oZLt 99 <| oAld 0 <| oIld 1 <| oIld 4 <| oC3 (cM_X3_takesBack) <| oAld 0 <| oIld 1 <| oI 1 <| oIld 4 <| oC4 (cM_X3_sends) <| oAld 0 <| oAld 0 <| oIld 1 <| oIld 4 <| oI 2 <| oC4 (cM_X3_ofSession) <| oPut (fpM) 3 10 <| oAld 0 <| oAld 0 <| oIld 1 <| oIld 4 <| oI 0 <| oC4 (cM_X3_ofSession) <| oPut (fpM) 3 11 <| oAld 0 <| oIld 1 <| oIld 3 <| oC3 (cM_X3_firstRipe) <| oIst 4 <| oM [true, true, false, true, true] (oTo 44)) else oNo))) else (bif Nat.blt pc 106 then (bif Nat.beq pc 99 then (oAld 0 <| oIld 1 <| oC2 (cM_X3_firstClosed) <| oIst 4 <| oM [true, true, false, false, true] (oTo 106)) else oNo) else (bif Nat.blt pc 128 then (bif Nat.beq pc 106 then (oIld 4 <| oZLt 128 <| oAld 0 <| oIld 1 <| oIld 4 <| oC3 (cM_X3_closes) <| oAld 0 <| oIld 1 <| oC2 (cM_X3_firstClosed) <| oIst 4 <| oM [true, true, false, false, true] (oTo 106)) else oNo) else (bif Nat.beq pc 128 then (oVret) else oNo)))
theorem tX3_rises_ok : ∀ pc, bOk (encM) (bdM) mX3_rises 0 0 pc (tX3_rises pc) := fun pc => (tNode (tNode (tLeaf (okAldn iX3_rises_0 rfl <| okIldn iX3_rises_1 rfl <| okC2 (qM_X3_leastMark iX3_rises_2) <| okIstn iX3_rises_5 rfl (by decide) <| okAldn iX3_rises_6 rfl <| okIldn iX3_rises_7 rfl <| okIc iX3_rises_8 <| okC3 (qM_X3_of iX3_rises_9) <| okIstn iX3_rises_12 rfl (by decide) <| okIldn iX3_rises_13 rfl <| okIldn iX3_rises_14 rfl <| okCGt (tl rfl) iX3_rises_15 <| okVret iX3_rises_18 rfl)) (tNode (tLeaf (okAldn iX3_rises_19 rfl <| okIldn iX3_rises_20 rfl <| okIc iX3_rises_21 <| okIldn iX3_rises_22 rfl <| okC4 (qM_X3_puts iX3_rises_23) <| okAldn iX3_rises_26 rfl <| okIc iX3_rises_27 <| okPut (vFpM) iX3_rises_28 <| okAldn iX3_rises_31 rfl <| okIc iX3_rises_32 <| okPut (vFpM) iX3_rises_33 <| okAldn iX3_rises_36 rfl <| okIldn iX3_rises_37 rfl <| okIldn iX3_rises_38 rfl <| okC3 (qM_X3_firstRipe iX3_rises_39) <| okIst iX3_rises_42 (by decide) <| okM (okTo (tl rfl)))) (tLeaf (okIld iX3_rises_44 <| okZLt (tl rfl) iX3_rises_46 <| okAldn iX3_rises_49 rfl <| okIldn iX3_rises_50 rfl <| okIld iX3_rises_51 <| okC3 (qM_X3_takesBack iX3_rises_53) <| okAldn iX3_rises_56 rfl <| okIldn iX3_rises_57 rfl <| okIc iX3_rises_58 <| okIld iX3_rises_59 <| okC4 (qM_X3_sends iX3_rises_61) <| okAldn iX3_rises_64 rfl <| okAldn iX3_rises_65 rfl <| okIldn iX3_rises_66 rfl <| okIld iX3_rises_67 <| okIc iX3_rises_69 <| okC4 (qM_X3_ofSession iX3_rises_70) <| okPut (vFpM) iX3_rises_73 <| okAldn iX3_rises_76 rfl <| okAldn iX3_rises_77 rfl <| okIldn iX3_rises_78 rfl <| okIld iX3_rises_79 <| okIc iX3_rises_81 <| okC4 (qM_X3_ofSession iX3_rises_82) <| okPut (vFpM) iX3_rises_85 <| okAldn iX3_rises_88 rfl <| okIldn iX3_rises_89 rfl <| okIldn iX3_rises_90 rfl <| okC3 (qM_X3_firstRipe iX3_rises_91) <| okIst iX3_rises_94 (by decide) <| okGotoM (tl rfl) iX3_rises_96)))) (tNode (tLeaf (okAldn iX3_rises_99 rfl <| okIldn iX3_rises_100 rfl <| okC2 (qM_X3_firstClosed iX3_rises_101) <| okIst iX3_rises_104 (by decide) <| okM (okTo (tl rfl)))) (tNode (tLeaf (okIld iX3_rises_106 <| okZLt (tl rfl) iX3_rises_108 <| okAldn iX3_rises_111 rfl <| okIldn iX3_rises_112 rfl <| okIld iX3_rises_113 <| okC3 (qM_X3_closes iX3_rises_115) <| okAldn iX3_rises_118 rfl <| okIldn iX3_rises_119 rfl <| okC2 (qM_X3_firstClosed iX3_rises_120) <| okIst iX3_rises_123 (by decide) <| okGotoM (tl rfl) iX3_rises_125)) (tLeaf (okVret iX3_rises_128 rfl))))) pc
/-- what gets ripe, one behind another -/
def mRi1 (s : MS) (d i : Int) : MS :=
  let s2 := mSend (mTake s d i) d 1 i
  mS (mS s2 10 (mg s2 ((d * 2804 + 364 + 7 * i) + 2))) 11 (mg s2 ((d * 2804 + 364 + 7 * i) + 0))
abbrev mRiP (s : MS) (d i : Int) : Prop := mTakeP s d i ∧ mI (d * 2804 + (60 + 4 * mg (mSend4 (mTake s d i) d 1 i) ((d * 2804 + 364 + 7 * i) + 0) + 1)) ∧ mg (mRi1 s d i) (d * 2804 + 5) ≤ 161
def rrP (d wa : Int) (K : MS → Prop) : Nat → Int → MS → Prop
  | 0, i, s => i < 0 ∧ K s
  | n + 1, i, s => (i < 0 → K s) ∧ (0 ≤ i → mRiP s d i ∧ rrP d wa K n (mFirstR (mRi1 s d i) d wa) (mRi1 s d i))
abbrev mClP (s : MS) (d i : Int) : Prop := 0 ≤ pFi s d ∧ mCloseP (clL (pFi s d) d i 7 0 s) d i ∧ mg (mClose s d i) (d * 2804 + 5) ≤ 161
def ccP (d : Int) (K : MS → Prop) : Nat → Int → MS → Prop
  | 0, i, s => i < 0 ∧ K s
  | n + 1, i, s => (i < 0 → K s) ∧ (0 ≤ i → mClP s d i ∧ ccP d K n (mFirstC (mClose s d i) d) (mClose s d i))
def mRise0 (s : MS) (d : Int) : MS := mS (mS (mP s (d * 2804 + 4) (mLeast s d)) 10 (-1)) 11 (-1)
def mRisP (s : MS) (d : Int) (n : Nat) (K : MS → Prop) : Prop := (mLeast s d ≤ mg s (d * 2804 + 4) → K s) ∧ (mg s (d * 2804 + 4) < mLeast s d → mg (mRise0 s d) (d * 2804 + 5) ≤ 161 ∧ rrP d (mg s (d * 2804 + 4)) (fun s1 => mg s1 (d * 2804 + 5) ≤ 161 ∧ ccP d K n (mFirstC s1 d) s1) n (mFirstR (mRise0 s d) d (mg s (d * 2804 + 4))) (mRise0 s d))
theorem X3_rises_l2 {K : KM} {Pt : MS → Prop} (d : Int) (hd : dOk d) : ∀ (n : Nat) (i : Int) (s : MS), -1 ≤ i → i ≤ 160 → ccP d (K []) n i s → wX encM bdM mX3_rises 0 0 K Pt 106 [some (pR 0), some (pI d), none, none, some (pI i)] [] s := by
  intro n
  induction n with
  | zero =>
    intro i s h0 h1 h
    refine wx_J [44, 106] 9 tX3_rises_ok rfl (fun J hR hJ => ?_)
    obtain ⟨c, hK⟩ := h
    repeat' (first | (refine And.intro ?_ ?_) | (intro hq; first | (exact absurd hq (by omega)) | skip))
    all_goals first | omega | exact hR _ _ hK
  | succ n ih =>
    intro i s h0 h1 h
    refine wx_J [44, 106] 9 tX3_rises_ok rfl (fun J hR hJ => ?_)
    obtain ⟨ha, hc⟩ := h
    refine ⟨⟨by omega, by omega⟩, fun c => hR _ _ (ha c), fun c => ?_⟩
    obtain ⟨⟨p1, p2, p3⟩, hn⟩ := hc c
    exact ⟨⟨hd, ⟨c, h1⟩, p1, p2⟩, ⟨hd, p3⟩, fun q0 q1 => hJ _ _ _ _ (ih _ _ q0 q1 hn)⟩
theorem X3_rises_l1 {K : KM} {Pt : MS → Prop} (d wa : Int) (hd : dOk d) (hw : xB wa) (n2 : Nat) : ∀ (n : Nat) (i : Int) (s : MS), -1 ≤ i → i ≤ 160 → rrP d wa (fun s1 => mg s1 (d * 2804 + 5) ≤ 161 ∧ ccP d (K []) n2 (mFirstC s1 d) s1) n i s → wX encM bdM mX3_rises 0 0 K Pt 44 [some (pR 0), some (pI d), none, some (pI wa), some (pI i)] [] s := by
  intro n
  induction n with
  | zero =>
    intro i s h0 h1 h
    refine wx_J [44, 106] 9 tX3_rises_ok rfl (fun J hR hJ => ?_)
    obtain ⟨c, hs, hK⟩ := h
    exact ⟨⟨by omega, by omega⟩, fun _ => ⟨⟨hd, hs⟩, fun q0 q1 => hJ _ _ _ _ (X3_rises_l2 d hd n2 _ _ q0 q1 hK)⟩, fun q => absurd q (by omega)⟩
  | succ n ih =>
    intro i s h0 h1 h
    refine wx_J [44, 106] 9 tX3_rises_ok rfl (fun J hR hJ => ?_)
    obtain ⟨ha, hc⟩ := h
    refine ⟨⟨by omega, by omega⟩, fun c => ?_, fun c => ?_⟩
    · obtain ⟨hs, hK⟩ := ha c
      exact ⟨⟨hd, hs⟩, fun q0 q1 => hJ _ _ _ _ (X3_rises_l2 d hd n2 _ _ q0 q1 hK)⟩
    · obtain ⟨⟨p1, p2, p3⟩, hn⟩ := hc c
      refine ⟨⟨hd, ⟨c, h1⟩, p1⟩, ⟨⟨hd, ⟨by omega, by omega⟩, ⟨c, h1⟩, p2⟩, ?_⟩⟩
      refine ⟨⟨by omega, by omega⟩, fun b2 => ⟨b2, ⟨⟨by omega, by omega⟩, fun b0 => ⟨b0, ⟨⟨hd, hw, p3⟩, fun q0 q1 => hJ _ _ _ _ (ih _ _ q0 q1 hn)⟩⟩⟩⟩⟩
def sX3_rises : Int → MS → KM → Prop := fun d s K => (dOk d ∧ mg s (d * 2804 + 0) ≤ 4) ∧ ∃ n, mRisP s d n (K [])
theorem mX3_rises_ok : mOk encM bdM mX3_rises (atR 0 (a1 sX3_rises)) := by
  refine mOVa1 kX3_rises (fun _ => rfl) (fun d s K h hb => wx_J [44, 106] 9 tX3_rises_ok rfl (fun J hR hJ => ?_))
  obtain ⟨⟨h1, h2⟩, n, h3, h4⟩ := h
  refine ⟨⟨h1, h2⟩, fun hl => ⟨⟨by omega, by omega⟩, fun hp => ⟨⟨hl, hp⟩, fun c => ?_, fun c => ?_⟩⟩⟩
  · obtain ⟨hs, hr⟩ := h4 c
    refine ⟨⟨⟨by omega, by omega⟩, hl⟩, ⟨by omega, by omega⟩, ⟨by omega, by omega⟩, ⟨⟨h1, hp, hs⟩, fun q0 q1 => hJ _ _ _ _ (X3_rises_l1 d _ h1 hp n n _ _ q0 q1 hr)⟩⟩
  · exact hR _ _ (h3 c)
def cM_X3_rises : Sp MS := atR 0 (a1 sX3_rises)
theorem qM_X3_rises {M : XI} {rc rs pc pc2 : Nat} (d : xl_Ca M pc mX3_rises pc2) : cOk encM bdM M rc rs pc pc2 2 cM_X3_rises := cSame mX3_rises_ok vX3_rises d mcl rfl lenM recM
