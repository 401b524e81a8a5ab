/-! ===== the model: its face, what comes ===== -/
def sX3_delays : Int → Int → MS → KM → Prop := fun r v s K => ((xB r ∧ xB v) ∧ (0 ≤ mg s 0 ∧ mg s 0 ≤ 4) ∧ 0 ≤ s.1 8 ∧ s.1 8 ≤ 6) ∧ K [pI (gDelays s r v).1] (gDelays s r v).2
theorem mX3_delays_ok : mOk encM bdM mX3_delays (atR 0 (a2 sX3_delays)) := by
  refine mOVa2 kX3_delays (fun _ _ => rfl) (fun r v s K h hb => wx_J [] 9 tX3_delays_ok rfl (fun J hR hJ => ?_))
  obtain ⟨⟨⟨h1, h2⟩, h3, h5⟩, hK⟩ := h
  unfold gDelays at hK
  have f0 : mg (mS s 0 0) (0 * 2804 + 0) = mg s 0 := rfl
  by_cases c : mSrc s r
  · by_cases c1 : inB v 0 999
    · rw [if_pos ⟨c, c1⟩] at hK
      have hi : (0 * 2804 + (16 + r)) = 16 + r := by omega
      have f1 : mg (mS s 0 0) (0 * 2804 + (16 + r)) = mg s (16 + r) := by rw [hi]; rfl
      have f6 : mg (mS s 0 0) (0 * 2804 + 6) = mg s 6 := rfl
      refine ⟨⟨by omega, by omega⟩, ⟨⟨h1, h3.1⟩, fun c2 => ?_, fun c2 => absurd c c2⟩⟩
      refine ⟨⟨by omega, by omega⟩, fun q => absurd q (by omega), fun _ => ⟨h2, ⟨⟨h2, ⟨by omega, by omega⟩, ⟨by omega, by omega⟩⟩, fun c3 => ?_, fun c3 => absurd c1 c3⟩⟩⟩
      refine ⟨⟨by omega, by omega⟩, fun _ => ?_, fun q => absurd q (by omega)⟩
      refine ⟨⟨by omega, by omega⟩, fun hx => ?_⟩
      rw [f1] at hx ⊢
      refine ⟨⟨hx, h2⟩, fun c4 => ?_, fun c4 => ?_⟩
      · rw [if_neg c4] at hK
        refine ⟨⟨by omega, by omega⟩, fun hy => ?_⟩
        rw [f6] at hy ⊢
        refine ⟨hy, fun c5 => ?_, fun c5 => ?_⟩
        · rw [if_neg (Int.not_lt.mpr c5)] at hK
          rw [← hi] at hK
          refine ⟨⟨⟨by omega, by omega⟩, by omega, by omega⟩, ⟨⟨⟨by omega, by omega⟩, h2⟩, ⟨⟨hx, h5⟩, hR _ _ ?_⟩⟩⟩
          rw [hi] at hK ⊢
          exact hK
        · rw [if_pos c5] at hK
          exact hR _ _ hK
      · rw [if_pos c4] at hK
        exact hR _ _ hK
    · rw [if_neg (fun z => c1 z.2)] at hK
      refine ⟨⟨by omega, by omega⟩, ⟨⟨h1, h3.1⟩, fun c2 => ?_, fun c2 => absurd c c2⟩⟩
      refine ⟨⟨by omega, by omega⟩, fun q => absurd q (by omega), fun _ => ⟨h2, ⟨⟨h2, ⟨by omega, by omega⟩, ⟨by omega, by omega⟩⟩, fun c3 => absurd c3 c1, fun c3 => ?_⟩⟩⟩
      exact ⟨⟨by omega, by omega⟩, fun q => absurd rfl q, fun _ => hR _ _ hK⟩
  · rw [if_neg (fun z => c z.1)] at hK
    refine ⟨⟨by omega, by omega⟩, ⟨⟨h1, h3.1⟩, fun c2 => absurd c2 c, fun c2 => ?_⟩⟩
    exact ⟨⟨by omega, by omega⟩, fun _ => hR _ _ hK, fun q => absurd rfl q⟩
abbrev mEv (s : MS) (k t v r : Int) : Prop := inB k 0 5 ∧ inB t 0 9999 ∧ inB v (-99) 99 ∧ mSrc s r
def sX3_isEvent : Int → Int → Int → Int → MS → KM → Prop := fun k t v r s K => ((xB k ∧ xB t ∧ xB v ∧ xB r) ∧ 0 ≤ mg s 0) ∧ (mEv s k t v r → K [pI 1] s) ∧ (¬ mEv s k t v r → K [pI 0] s)
theorem mX3_isEvent_ok : mOk encM bdM mX3_isEvent (atR 0 (a4 sX3_isEvent)) := by
  refine mOVa4 kX3_isEvent (fun _ _ _ _ => rfl) (fun k t v r s K h hb => wx_J [] 9 tX3_isEvent_ok rfl (fun J hR hJ => ?_))
  obtain ⟨⟨h1, h0⟩, h2, h3⟩ := h
  repeat' (first | (refine And.intro ?_ ?_) | (intro hq; first | (exact absurd hq (by omega)) | skip))
  all_goals first | omega | exact h0 | exact hR _ _ (h2 (by omega)) | exact hR _ _ (h3 (by omega))
def cM_X3_isEvent : Sp MS := atR 0 (a4 sX3_isEvent)
theorem qM_X3_isEvent {M : XI} {rc rs pc pc2 : Nat} (d : xl_Ca M pc mX3_isEvent pc2) : cOk encM bdM M rc rs pc pc2 5 cM_X3_isEvent := cSame mX3_isEvent_ok vX3_isEvent d mcl rfl lenM recM
-- X3_eventOne: heads []
def tX3_eventOne : Nat → Blk MS := fun pc => bif Nat.blt pc 32 then (bif Nat.blt pc 14 then (bif Nat.beq pc 0 then (oAld 0 <| oIld 1 <| oIld 2 <| oIld 3 <| oIld 4 <| oC5 (cM_X3_isEvent) <| oZNe 14 <| oI (-1) <| oIret) else oNo) else (bif Nat.beq pc 14 then (oAld 0 <| oI 0 <| oI 6 <| oC3 (cM_X3_of) <| oI 160 <| oCNe 32 <| oI (-3) <| oTo 42) else oNo)) else (bif Nat.blt pc 42 then (bif Nat.beq pc 32 then (oAld 0 <| oI 0 <| oIld 1 <| oIld 2 <| oIld 3 <| oIld 4 <| oC6 (cM_X3_comes) <| oTo 42) else oNo) else (bif Nat.beq pc 42 then (oIret) else oNo))
theorem tX3_eventOne_ok : ∀ pc, bOk (encM) (bdM) mX3_eventOne 0 0 pc (tX3_eventOne pc) := fun pc => (tNode (tNode (tLeaf (okAldn iX3_eventOne_0 rfl <| okIldn iX3_eventOne_1 rfl <| okIldn iX3_eventOne_2 rfl <| okIldn iX3_eventOne_3 rfl <| okIld iX3_eventOne_4 <| okC5 (qM_X3_isEvent iX3_eventOne_6) <| okZNe (tl rfl) iX3_eventOne_9 <| okIc iX3_eventOne_12 <| okIret iX3_eventOne_13 rfl)) (tLeaf (okAldn iX3_eventOne_14 rfl <| okIc iX3_eventOne_15 <| okBi iX3_eventOne_16 (by decide) <| okC3 (qM_X3_of iX3_eventOne_18) <| okSi iX3_eventOne_21 (by decide) <| okCNe (tl rfl) iX3_eventOne_24 <| okBi iX3_eventOne_27 (by decide) <| okGoto (tl rfl) iX3_eventOne_29))) (tNode (tLeaf (okAldn iX3_eventOne_32 rfl <| okIc iX3_eventOne_33 <| okIldn iX3_eventOne_34 rfl <| okIldn iX3_eventOne_35 rfl <| okIldn iX3_eventOne_36 rfl <| okIld iX3_eventOne_37 <| okC6 (qM_X3_comes iX3_eventOne_39) <| okTo (tl rfl))) (tLeaf (okIret iX3_eventOne_42 rfl)))) pc
-- X3_entersSince: heads []
def tX3_entersSince : Nat → Blk MS := fun pc => bif Nat.beq pc 0 then (oAld 0 <| oI 0 <| oPut (fpM) 3 1 <| oAld 0 <| oAld 0 <| oIld 1 <| oI 7 <| oC3 (cM_X3_of) <| oIld 2 <| oSubW <| oI2l <| oC2 (cM_X3_enters) <| oAld 0 <| oAld 0 <| oIld 1 <| oI 4 <| oC3 (cM_X3_of) <| oI2l <| oC2 (cM_X3_enters) <| oVret) else oNo
theorem tX3_entersSince_ok : ∀ pc, bOk (encM) (bdM) mX3_entersSince 0 0 pc (tX3_entersSince pc) := fun pc => (tLeaf (okAldn iX3_entersSince_0 rfl <| okIc iX3_entersSince_1 <| okPut (vFpM) iX3_entersSince_2 <| okAldn iX3_entersSince_5 rfl <| okAldn iX3_entersSince_6 rfl <| okIldn iX3_entersSince_7 rfl <| okBi iX3_entersSince_8 (by decide) <| okC3 (qM_X3_of iX3_entersSince_10) <| okIldn iX3_entersSince_13 rfl <| okSubW iX3_entersSince_14 <| okI2l iX3_entersSince_15 <| okC2 (qM_X3_enters iX3_entersSince_16) <| okAldn iX3_entersSince_19 rfl <| okAldn iX3_entersSince_20 rfl <| okIldn iX3_entersSince_21 rfl <| okIc iX3_entersSince_22 <| okC3 (qM_X3_of iX3_entersSince_23) <| okI2l iX3_entersSince_26 <| okC2 (qM_X3_enters iX3_entersSince_27) <| okVret iX3_entersSince_30 rfl)) pc
-- X3_entersProgress: heads []
def tX3_entersProgress : Nat → Blk MS := fun pc => bif Nat.beq pc 0 then (oAld 0 <| oI 0 <| oPut (fpM) 3 1 <| oAld 0 <| oAld 0 <| oI 0 <| oI 4 <| oC3 (cM_X3_of) <| oI2l <| oC2 (cM_X3_enters) <| oVret) else oNo
theorem tX3_entersProgress_ok : ∀ pc, bOk (encM) (bdM) mX3_entersProgress 0 0 pc (tX3_entersProgress pc) := fun pc => (tLeaf (okAldn iX3_entersProgress_0 rfl <| okIc iX3_entersProgress_1 <| okPut (vFpM) iX3_entersProgress_2 <| okAldn iX3_entersProgress_5 rfl <| okAldn iX3_entersProgress_6 rfl <| okIc iX3_entersProgress_7 <| okIc iX3_entersProgress_8 <| okC3 (qM_X3_of iX3_entersProgress_9) <| okI2l iX3_entersProgress_12 <| okC2 (qM_X3_enters iX3_entersProgress_13) <| okVret iX3_entersProgress_16 rfl)) pc
-- X3_marksOne: heads []
def tX3_marksOne : Nat → Blk MS := fun pc => bif Nat.blt pc 22 then (bif Nat.blt pc 20 then (bif Nat.beq pc 0 then (oAld 0 <| oIld 1 <| oC2 (cM_X3_isSource) <| oZEq 20 <| oIld 2 <| oI2l <| oJ 0 <| oJ 20000 <| oC3 (cM_X3_in) <| oZNe 22 <| oTo 20) else oNo) else (bif Nat.beq pc 20 then (oI (-1) <| oIret) else oNo)) else (bif Nat.blt pc 38 then (bif Nat.beq pc 22 then (oAld 0 <| oI 0 <| oI 12 <| oIld 1 <| oAdd <| oC3 (cM_X3_of) <| oIld 2 <| oCLt 38 <| oI (-2) <| oIret) else oNo) else (bif Nat.blt pc 54 then (bif Nat.beq pc 38 then (oAld 0 <| oI 0 <| oI 6 <| oC3 (cM_X3_of) <| oI 160 <| oCNe 54 <| oI (-3) <| oIret) else oNo) else (bif Nat.beq pc 54 then (oAld 0 <| oI 0 <| oI 7 <| oC3 (cM_X3_of) <| oIst 3 <| oAld 0 <| oI 0 <| oIld 1 <| oIld 2 <| oC4 (cM_X3_isMarked) <| oAld 0 <| oI 0 <| oI 7 <| oC3 (cM_X3_of) <| oIld 3 <| oSubW <| oIret) else oNo)))
theorem tX3_marksOne_ok : ∀ pc, bOk (encM) (bdM) mX3_marksOne 0 0 pc (tX3_marksOne pc) := fun pc => (tNode (tNode (tLeaf (okAldn iX3_marksOne_0 rfl <| okIldn iX3_marksOne_1 rfl <| okC2 (qM_X3_isSource iX3_marksOne_2) <| okZEq (tl rfl) iX3_marksOne_5 <| okIldn iX3_marksOne_8 rfl <| okI2l iX3_marksOne_9 <| okLc iX3_marksOne_10 rfl <| okLdc2 (v := 20000) iX3_marksOne_11 (xl_Ti 1159 (by decide +kernel) rfl) (by decide) <| okC3 (qM_X3_in iX3_marksOne_14) <| okZNe (tl rfl) iX3_marksOne_17 <| okTo (tl rfl))) (tLeaf (okIc iX3_marksOne_20 <| okIret iX3_marksOne_21 rfl))) (tNode (tLeaf (okAldn iX3_marksOne_22 rfl <| okIc iX3_marksOne_23 <| okBi iX3_marksOne_24 (by decide) <| okIldn iX3_marksOne_26 rfl <| okAdd iX3_marksOne_27 <| okC3 (qM_X3_of iX3_marksOne_28) <| okIldn iX3_marksOne_31 rfl <| okCLt (tl rfl) iX3_marksOne_32 <| okBi iX3_marksOne_35 (by decide) <| okIret iX3_marksOne_37 rfl)) (tNode (tLeaf (okAldn iX3_marksOne_38 rfl <| okIc iX3_marksOne_39 <| okBi iX3_marksOne_40 (by decide) <| okC3 (qM_X3_of iX3_marksOne_42) <| okSi iX3_marksOne_45 (by decide) <| okCNe (tl rfl) iX3_marksOne_48 <| okBi iX3_marksOne_51 (by decide) <| okIret iX3_marksOne_53 rfl)) (tLeaf (okAldn iX3_marksOne_54 rfl <| okIc iX3_marksOne_55 <| okBi iX3_marksOne_56 (by decide) <| okC3 (qM_X3_of iX3_marksOne_58) <| okIstn iX3_marksOne_61 rfl (by decide) <| okAldn iX3_marksOne_62 rfl <| okIc iX3_marksOne_63 <| okIldn iX3_marksOne_64 rfl <| okIldn iX3_marksOne_65 rfl <| okC4 (qM_X3_isMarked iX3_marksOne_66) <| okAldn iX3_marksOne_69 rfl <| okIc iX3_marksOne_70 <| okBi iX3_marksOne_71 (by decide) <| okC3 (qM_X3_of iX3_marksOne_73) <| okIldn iX3_marksOne_76 rfl <| okSubW iX3_marksOne_77 <| okIret iX3_marksOne_78 rfl))))) pc
-- X3_idlesOne: heads []
def tX3_idlesOne : Nat → Blk MS := fun pc => bif Nat.blt pc 26 then (bif Nat.blt pc 10 then (bif Nat.beq pc 0 then (oAld 0 <| oIld 1 <| oC2 (cM_X3_isSource) <| oZNe 10 <| oI (-1) <| oIret) else oNo) else (bif Nat.beq pc 10 then (oAld 0 <| oI 0 <| oI 20 <| oIld 1 <| oAdd <| oC3 (cM_X3_of) <| oI 1 <| oCNe 26 <| oI (-2) <| oIret) else oNo)) else (bif Nat.blt pc 42 then (bif Nat.beq pc 26 then (oAld 0 <| oI 0 <| oI 6 <| oC3 (cM_X3_of) <| oI 160 <| oCNe 42 <| oI (-3) <| oIret) else oNo) else (bif Nat.beq pc 42 then (oAld 0 <| oI 0 <| oI 7 <| oC3 (cM_X3_of) <| oIst 2 <| oAld 0 <| oI 0 <| oIld 1 <| oC3 (cM_X3_isIdle) <| oAld 0 <| oI 0 <| oI 7 <| oC3 (cM_X3_of) <| oIld 2 <| oSubW <| oIret) else oNo))
theorem tX3_idlesOne_ok : ∀ pc, bOk (encM) (bdM) mX3_idlesOne 0 0 pc (tX3_idlesOne pc) := fun pc => (tNode (tNode (tLeaf (okAldn iX3_idlesOne_0 rfl <| okIldn iX3_idlesOne_1 rfl <| okC2 (qM_X3_isSource iX3_idlesOne_2) <| okZNe (tl rfl) iX3_idlesOne_5 <| okIc iX3_idlesOne_8 <| okIret iX3_idlesOne_9 rfl)) (tLeaf (okAldn iX3_idlesOne_10 rfl <| okIc iX3_idlesOne_11 <| okBi iX3_idlesOne_12 (by decide) <| okIldn iX3_idlesOne_14 rfl <| okAdd iX3_idlesOne_15 <| okC3 (qM_X3_of iX3_idlesOne_16) <| okIc iX3_idlesOne_19 <| okCNe (tl rfl) iX3_idlesOne_20 <| okBi iX3_idlesOne_23 (by decide) <| okIret iX3_idlesOne_25 rfl))) (tNode (tLeaf (okAldn iX3_idlesOne_26 rfl <| okIc iX3_idlesOne_27 <| okBi iX3_idlesOne_28 (by decide) <| okC3 (qM_X3_of iX3_idlesOne_30) <| okSi iX3_idlesOne_33 (by decide) <| okCNe (tl rfl) iX3_idlesOne_36 <| okBi iX3_idlesOne_39 (by decide) <| okIret iX3_idlesOne_41 rfl)) (tLeaf (okAldn iX3_idlesOne_42 rfl <| okIc iX3_idlesOne_43 <| okBi iX3_idlesOne_44 (by decide) <| okC3 (qM_X3_of iX3_idlesOne_46) <| okIstn iX3_idlesOne_49 rfl (by decide) <| okAldn iX3_idlesOne_50 rfl <| okIc iX3_idlesOne_51 <| okIldn iX3_idlesOne_52 rfl <| okC3 (qM_X3_isIdle iX3_idlesOne_53) <| okAldn iX3_idlesOne_56 rfl <| okIc iX3_idlesOne_57 <| okBi iX3_idlesOne_58 (by decide) <| okC3 (qM_X3_of iX3_idlesOne_60) <| okIldn iX3_idlesOne_63 rfl <| okSubW iX3_idlesOne_64 <| okIret iX3_idlesOne_65 rfl)))) pc
/-- one event, one mark, one idle source: K of the answer and the state -/
def evP (s : MS) (k t v r : Int) (n : Nat) (K : Int → MS → Prop) : Prop := (¬ mEv s k t v r → K (-1) s) ∧ (mEv s k t v r → (mg s 6 = 160 → K (-3) s) ∧ (mg s 6 ≠ 160 → (0 ≤ mg s 6 ∧ mg s 6 ≤ 159) ∧ mComeP s 0 k t v r n (fun s' => K (mHow s 0 t) s')))
def sX3_eventOne : Int → Int → Int → Int → MS → KM → Prop := fun k t v r s K => ((xB k ∧ xB t ∧ xB v ∧ xB r) ∧ 0 ≤ mg s 0 ∧ mg s 0 ≤ 4) ∧ ∃ n, evP s k t v r n (fun a s' => -3 ≤ a → a ≤ 2 → K [pI a] s')
theorem mX3_eventOne_ok : mOk encM bdM mX3_eventOne (atR 0 (a4 sX3_eventOne)) := by
  refine mOVa4 kX3_eventOne (fun _ _ _ _ => rfl) (fun k t v r s K h hb => wx_J [] 9 tX3_eventOne_ok rfl (fun J hR hJ => ?_))
  obtain ⟨⟨⟨h1, h2, h3, h4⟩, h5⟩, n, p1, p2⟩ := h
  refine ⟨⟨⟨h1, h2, h3, h4⟩, h5.1⟩, fun c => ?_, fun c => ?_⟩
  · obtain ⟨q1, q2⟩ := p2 c
    refine ⟨⟨by omega, by omega⟩, fun _ => ?_, fun y => absurd y (by omega)⟩
    refine ⟨⟨by omega, by omega⟩, fun (hx : xB (mg s 6)) => ⟨⟨hx, ⟨by omega, by omega⟩⟩, fun c2 => ?_, fun c2 => ?_⟩⟩
    · obtain ⟨q3, q4⟩ := q2 c2
      refine ⟨⟨⟨by omega, by omega⟩, ⟨by omega, by omega⟩, ⟨h1, h2, h3⟩, q3⟩, n, mComeP_mono (fun s' z u1 u2 => hR _ _ (z (by omega) u2)) q4⟩
    · exact hR _ _ (q1 c2 (by omega) (by omega))
  · exact ⟨⟨by omega, by omega⟩, fun y => absurd rfl y, fun _ => hR _ _ (p1 c (by omega) (by omega))⟩
def cM_X3_eventOne : Sp MS := atR 0 (a4 sX3_eventOne)
theorem qM_X3_eventOne {M : XI} {rc rs pc pc2 : Nat} (d : xl_Ca M pc mX3_eventOne pc2) : cOk encM bdM M rc rs pc pc2 5 cM_X3_eventOne := cSame mX3_eventOne_ok vX3_eventOne d mcl rfl lenM recM
def mSince (s : MS) (d w : Int) : MS := mEn (mEn (mS s 1 0) (wI (mg s (d * 2804 + 7) - w))) (mg s (d * 2804 + 4))
def sX3_entersSince : Int → Int → MS → KM → Prop := fun d w s K => dOk d ∧ K [] (mSince s d w)
theorem mX3_entersSince_ok : mOk encM bdM mX3_entersSince (atR 0 (a2 sX3_entersSince)) := by
  refine mOVa2 kX3_entersSince (fun _ _ => rfl) (fun d w s K h hb => wx_J [] 9 tX3_entersSince_ok rfl (fun J hR hJ => ?_))
  obtain ⟨h1, hK⟩ := h
  refine ⟨⟨by omega, by omega⟩, ⟨by omega, by omega⟩, fun a1 a2 => ⟨a2, ⟨a2, by show (0 : Int) ≤ 0; omega, by show (0 : Int) < 16; omega⟩, ⟨by omega, by omega⟩, fun a3 => ⟨a3, ⟨a3, by show (0 : Int) ≤ 0 + 1; omega, by show (0 : Int) + 1 < 16; omega⟩, hR _ _ hK⟩⟩⟩
def cM_X3_entersSince : Sp MS := atR 0 (a2 sX3_entersSince)
theorem qM_X3_entersSince {M : XI} {rc rs pc pc2 : Nat} (d : xl_Ca M pc mX3_entersSince pc2) : cOk encM bdM M rc rs pc pc2 3 cM_X3_entersSince := cSame mX3_entersSince_ok vX3_entersSince d mcl rfl lenM recM
def mProg (s : MS) : MS := mEn (mS s 1 0) (mg s 4)
def sX3_entersProgress : MS → KM → Prop := fun s K => K [] (mProg s)
theorem mX3_entersProgress_ok : mOk encM bdM mX3_entersProgress (atR 0 (a0 sX3_entersProgress)) := by
  refine mOVa0 kX3_entersProgress (fun _ => rfl) (fun s K h hb => wx_J [] 9 tX3_entersProgress_ok rfl (fun J hR hJ => ?_))
  exact ⟨⟨by omega, by omega⟩, ⟨by omega, by omega⟩, fun a1 => ⟨a1, ⟨a1, by show (0 : Int) ≤ 0; omega, by show (0 : Int) < 16; omega⟩, hR _ _ h⟩⟩
def cM_X3_entersProgress : Sp MS := atR 0 (a0 sX3_entersProgress)
theorem qM_X3_entersProgress {M : XI} {rc rs pc pc2 : Nat} (d : xl_Ca M pc mX3_entersProgress pc2) : cOk encM bdM M rc rs pc pc2 1 cM_X3_entersProgress := cSame mX3_entersProgress_ok vX3_entersProgress d mcl rfl lenM recM
def mkP (s : MS) (r t : Int) (n : Nat) (K : Int → MS → Prop) : Prop := (¬ (mSrc s r ∧ inB t 0 20000) → K (-1) s) ∧ ((mSrc s r ∧ inB t 0 20000) → (t ≤ mg s (12 + r) → K (-2) s) ∧ (mg s (12 + r) < t → (mg s 6 = 160 → K (-3) s) ∧ (mg s 6 ≠ 160 → (0 ≤ mg s 6 ∧ mg s 6 ≤ 159) ∧ mMarkP s 0 r t n (fun s' => K (wI (mg s' 7 - mg s 7)) s'))))
def sX3_marksOne : Int → Int → MS → KM → Prop := fun r t s K => ((xB r ∧ xB t) ∧ 0 ≤ mg s 0 ∧ mg s 0 ≤ 4) ∧ ∃ n, mkP s r t n (fun a s' => xB a → K [pI a] s')
theorem mX3_marksOne_ok : mOk encM bdM mX3_marksOne (atR 0 (a2 sX3_marksOne)) := by
  refine mOVa2 kX3_marksOne (fun _ _ => rfl) (fun r t s K h hb => wx_J [] 9 tX3_marksOne_ok rfl (fun J hR hJ => ?_))
  obtain ⟨⟨⟨h1, h2⟩, h5⟩, n, p1, p2⟩ := h
  have hi : (0 * 2804 + (12 + r)) = 12 + r := by omega
  refine ⟨⟨h1, h5.1⟩, fun c => ?_, fun c => ?_⟩
  · refine ⟨⟨by omega, by omega⟩, fun y => absurd y (by omega), fun _ => ⟨h2, ⟨⟨h2, ⟨by omega, by omega⟩, ⟨by omega, by omega⟩⟩, fun c2 => ?_, fun c2 => ?_⟩⟩⟩
    · obtain ⟨q1, q2⟩ := p2 ⟨c, c2⟩
      refine ⟨⟨by omega, by omega⟩, fun _ => ?_, fun y => absurd y (by omega)⟩
      refine ⟨⟨by omega, by omega⟩, fun hx => ?_⟩
      rw [hi] at hx ⊢
      refine ⟨⟨hx, h2⟩, fun c3 => ?_, fun c3 => ?_⟩
      · obtain ⟨q3, q4⟩ := q2 c3
        refine ⟨⟨by omega, by omega⟩, fun (hy : xB (mg s 6)) => ⟨⟨hy, ⟨by omega, by omega⟩⟩, fun c4 => ?_, fun c4 => ?_⟩⟩
        · obtain ⟨q5, q6, q7⟩ := q4 c4
          refine ⟨⟨by omega, by omega⟩, fun _ => ⟨⟨⟨by omega, by omega⟩, ⟨by omega, by omega⟩, h2, q5⟩, n, q6, mRisP_mono (fun s' z => ⟨⟨by omega, by omega⟩, fun _ hz => hR _ _ (z hz)⟩) q7⟩⟩
        · exact hR _ _ (q3 c4 ⟨by omega, by omega⟩)
      · exact hR _ _ (q1 c3 ⟨by omega, by omega⟩)
    · exact ⟨⟨by omega, by omega⟩, fun y => absurd rfl y, fun _ => hR _ _ (p1 (fun z => c2 z.2) ⟨by omega, by omega⟩)⟩
  · exact ⟨⟨by omega, by omega⟩, fun _ => hR _ _ (p1 (fun z => c z.1) ⟨by omega, by omega⟩), fun y => absurd rfl y⟩
def cM_X3_marksOne : Sp MS := atR 0 (a2 sX3_marksOne)
theorem qM_X3_marksOne {M : XI} {rc rs pc pc2 : Nat} (d : xl_Ca M pc mX3_marksOne pc2) : cOk encM bdM M rc rs pc pc2 3 cM_X3_marksOne := cSame mX3_marksOne_ok vX3_marksOne d mcl rfl lenM recM
def idP (s : MS) (r : Int) (n : Nat) (K : Int → MS → Prop) : Prop := (¬ mSrc s r → K (-1) s) ∧ (mSrc s r → (mg s (20 + r) = 1 → K (-2) s) ∧ (mg s (20 + r) ≠ 1 → (mg s 6 = 160 → K (-3) s) ∧ (mg s 6 ≠ 160 → (0 ≤ mg s 6 ∧ mg s 6 ≤ 159) ∧ mIdleP s 0 r n (fun s' => K (wI (mg s' 7 - mg s 7)) s'))))
def sX3_idlesOne : Int → MS → KM → Prop := fun r s K => (xB r ∧ 0 ≤ mg s 0 ∧ mg s 0 ≤ 4) ∧ ∃ n, idP s r n (fun a s' => xB a → K [pI a] s')
theorem mX3_idlesOne_ok : mOk encM bdM mX3_idlesOne (atR 0 (a1 sX3_idlesOne)) := by
  refine mOVa1 kX3_idlesOne (fun _ => rfl) (fun r s K h hb => wx_J [] 9 tX3_idlesOne_ok rfl (fun J hR hJ => ?_))
  obtain ⟨⟨h1, h5⟩, n, p1, p2⟩ := h
  have hi : (0 * 2804 + (20 + r)) = 20 + r := by omega
  refine ⟨⟨h1, h5.1⟩, fun c => ?_, fun c => ?_⟩
  · obtain ⟨q1, q2⟩ := p2 c
    refine ⟨⟨by omega, by omega⟩, fun _ => ?_, fun y => absurd y (by omega)⟩
    refine ⟨⟨by omega, by omega⟩, fun hx => ?_⟩
    rw [hi] at hx ⊢
    refine ⟨⟨hx, ⟨by omega, by omega⟩⟩, fun c3 => ?_, fun c3 => ?_⟩
    · obtain ⟨q3, q4⟩ := q2 c3
      refine ⟨⟨by omega, by omega⟩, fun (hy : xB (mg s 6)) => ⟨⟨hy, ⟨by omega, by omega⟩⟩, fun c4 => ?_, fun c4 => ?_⟩⟩
      · obtain ⟨q5, q6, q7⟩ := q4 c4
        refine ⟨⟨by omega, by omega⟩, fun _ => ⟨⟨⟨by omega, by omega⟩, ⟨by omega, by omega⟩, q5⟩, n, q6, mRisP_mono (fun s' z => ⟨⟨by omega, by omega⟩, fun _ hz => hR _ _ (z hz)⟩) q7⟩⟩
      · exact hR _ _ (q3 c4 ⟨by omega, by omega⟩)
    · exact hR _ _ (q1 c3 ⟨by omega, by omega⟩)
  · exact ⟨⟨by omega, by omega⟩, fun y => absurd rfl y, fun _ => hR _ _ (p1 c ⟨by omega, by omega⟩)⟩
def cM_X3_idlesOne : Sp MS := atR 0 (a1 sX3_idlesOne)
theorem qM_X3_idlesOne {M : XI} {rc rs pc pc2 : Nat} (d : xl_Ca M pc mX3_idlesOne pc2) : cOk encM bdM M rc rs pc pc2 2 cM_X3_idlesOne := cSame mX3_idlesOne_ok vX3_idlesOne d mcl rfl lenM recM
