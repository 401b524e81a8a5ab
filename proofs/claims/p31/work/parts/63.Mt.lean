/-! ===== the model: sessions, messages, finals told ===== -/
-- X3_message: heads []
def tX3_message : Nat → Blk MS := fun pc => bif Nat.blt pc 47 then (bif Nat.blt pc 42 then (bif Nat.beq pc 0 then (oAld 0 <| oI 0 <| oI 7 <| oC3 (cM_X3_of) <| oIst 3 <| oAld 0 <| oIld 1 <| oI2l <| oI 0 <| oIld 3 <| oI 60 <| oSubW <| oMax <| oI2l <| oIld 3 <| oI 1 <| oSubW <| oI2l <| oC3 (cM_X3_in) <| oZEq 42 <| oIld 2 <| oI2l <| oJ 0 <| oJ 5 <| oC3 (cM_X3_in) <| oZNe 46 <| oTo 42) else oNo) else (bif Nat.blt pc 46 then (bif Nat.beq pc 42 then (oI 1 <| oTo 47) else oNo) else (bif Nat.beq pc 46 then (oI 0 <| oTo 47) else oNo))) else (bif Nat.blt pc 97 then (bif Nat.blt pc 63 then (bif Nat.beq pc 47 then (oC1 (cM_X3_flag) <| oPut (fpM) 3 0 <| oAld 0 <| oGet (fgM) 3 0 <| oI 1 <| oCNe 63 <| oI 0 <| oIret) else oNo) else (bif Nat.beq pc 63 then (oAld 0 <| oGet (fgM) 3 7 <| oI 1484 <| oI 6 <| oIld 1 <| oI 60 <| oRemT <| oMul <| oAdd <| oIld 2 <| oAdd <| oIa (agM) <| oIst 4 <| oIld 2 <| oI 5 <| oCNe 97 <| oI 20000 <| oIld 4 <| oAddW <| oTo 99) else oNo)) else (bif Nat.blt pc 99 then (bif Nat.beq pc 97 then (oIld 4 <| oTo 99) else oNo) else (bif Nat.beq pc 99 then (oIret) else oNo)))
theorem tX3_message_ok : ∀ pc, bOk (encM) (bdM) mX3_message 0 0 pc (tX3_message pc) := fun pc => (tNode (tNode (tLeaf (okAldn iX3_message_0 rfl <| okIc iX3_message_1 <| okBi iX3_message_2 (by decide) <| okC3 (qM_X3_of iX3_message_4) <| okIstn iX3_message_7 rfl (by decide) <| okAldn iX3_message_8 rfl <| okIldn iX3_message_9 rfl <| okI2l iX3_message_10 <| okIc iX3_message_11 <| okIldn iX3_message_12 rfl <| okBi iX3_message_13 (by decide) <| okSubW iX3_message_15 <| okMax iX3_message_16 <| okI2l iX3_message_19 <| okIldn iX3_message_20 rfl <| okIc iX3_message_21 <| okSubW iX3_message_22 <| okI2l iX3_message_23 <| okC3 (qM_X3_in iX3_message_24) <| okZEq (tl rfl) iX3_message_27 <| okIldn iX3_message_30 rfl <| okI2l iX3_message_31 <| okLc iX3_message_32 rfl <| okLdc2 (v := 5) iX3_message_33 (xl_Ti 1027 (by decide +kernel) rfl) (by decide) <| okC3 (qM_X3_in iX3_message_36) <| okZNe (tl rfl) iX3_message_39 <| okTo (tl rfl))) (tNode (tLeaf (okIc iX3_message_42 <| okGoto (tl rfl) iX3_message_43)) (tLeaf (okIc iX3_message_46 <| okTo (tl rfl))))) (tNode (tNode (tLeaf (okC1 (qM_X3_flag iX3_message_47) <| okPut (vFpM) iX3_message_50 <| okAldn iX3_message_53 rfl <| okGet (vFgM) iX3_message_54 <| okIc iX3_message_57 <| okCNe (tl rfl) iX3_message_58 <| okIc iX3_message_61 <| okIret iX3_message_62 rfl)) (tLeaf (okAldn iX3_message_63 rfl <| okGet (vFgM) iX3_message_64 <| okSi iX3_message_67 (by decide) <| okBi iX3_message_70 (by decide) <| okIldn iX3_message_72 rfl <| okBi iX3_message_73 (by decide) <| okRemT iX3_message_75 <| okMul iX3_message_76 <| okAdd iX3_message_77 <| okIldn iX3_message_78 rfl <| okAdd iX3_message_79 <| okIa (vAgM) iX3_message_80 <| okIst iX3_message_81 (by decide) <| okIldn iX3_message_83 rfl <| okIc iX3_message_84 <| okCNe (tl rfl) iX3_message_85 <| okSi iX3_message_88 (by decide) <| okIld iX3_message_91 <| okAddW iX3_message_93 <| okGoto (tl rfl) iX3_message_94))) (tNode (tLeaf (okIld iX3_message_97 <| okTo (tl rfl))) (tLeaf (okIret iX3_message_99 rfl))))) pc
-- X3_finals: heads []
def tX3_finals : Nat → Blk MS := fun pc => bif Nat.blt pc 61 then (bif Nat.blt pc 44 then (bif Nat.blt pc 40 then (bif Nat.beq pc 0 then (oAld 0 <| oI 0 <| oC2 (cM_X3_closedMany) <| oIst 3 <| oAld 0 <| oIld 1 <| oI2l <| oI 0 <| oIld 3 <| oI 40 <| oSubW <| oMax <| oI2l <| oIld 3 <| oI 1 <| oSubW <| oI2l <| oC3 (cM_X3_in) <| oZEq 40 <| oIld 2 <| oI2l <| oJ 0 <| oJ 6 <| oC3 (cM_X3_in) <| oZNe 44 <| oTo 40) else oNo) else (bif Nat.beq pc 40 then (oI 1 <| oTo 45) else oNo)) else (bif Nat.blt pc 45 then (bif Nat.beq pc 44 then (oI 0 <| oTo 45) else oNo) else (bif Nat.beq pc 45 then (oC1 (cM_X3_flag) <| oPut (fpM) 3 0 <| oAld 0 <| oGet (fgM) 3 0 <| oI 1 <| oCNe 61 <| oI 0 <| oIret) else oNo))) else (bif Nat.blt pc 107 then (bif Nat.blt pc 94 then (bif Nat.beq pc 61 then (oAld 0 <| oGet (fgM) 3 7 <| oI 84 <| oI 7 <| oIld 1 <| oI 40 <| oRemT <| oMul <| oAdd <| oIld 2 <| oAdd <| oIa (agM) <| oIst 4 <| oIld 2 <| oI 4 <| oCNe 94 <| oI 20000 <| oIld 4 <| oAddW <| oTo 122) else oNo) else (bif Nat.beq pc 94 then (oIld 2 <| oI 5 <| oCNe 107 <| oI 99 <| oIld 4 <| oAddW <| oTo 122) else oNo)) else (bif Nat.blt pc 120 then (bif Nat.beq pc 107 then (oIld 2 <| oI 6 <| oCNe 120 <| oIld 4 <| oI 1 <| oSubW <| oTo 122) else oNo) else (bif Nat.blt pc 122 then (bif Nat.beq pc 120 then (oIld 4 <| oTo 122) else oNo) else (bif Nat.beq pc 122 then (oIret) else oNo))))
theorem tX3_finals_ok : ∀ pc, bOk (encM) (bdM) mX3_finals 0 0 pc (tX3_finals pc) := fun pc => (tNode (tNode (tNode (tLeaf (okAldn iX3_finals_0 rfl <| okIc iX3_finals_1 <| okC2 (qM_X3_closedMany iX3_finals_2) <| okIstn iX3_finals_5 rfl (by decide) <| okAldn iX3_finals_6 rfl <| okIldn iX3_finals_7 rfl <| okI2l iX3_finals_8 <| okIc iX3_finals_9 <| okIldn iX3_finals_10 rfl <| okBi iX3_finals_11 (by decide) <| okSubW iX3_finals_13 <| okMax iX3_finals_14 <| okI2l iX3_finals_17 <| okIldn iX3_finals_18 rfl <| okIc iX3_finals_19 <| okSubW iX3_finals_20 <| okI2l iX3_finals_21 <| okC3 (qM_X3_in iX3_finals_22) <| okZEq (tl rfl) iX3_finals_25 <| okIldn iX3_finals_28 rfl <| okI2l iX3_finals_29 <| okLc iX3_finals_30 rfl <| okLdc2 (v := 6) iX3_finals_31 (xl_Ti 1217 (by decide +kernel) rfl) (by decide) <| okC3 (qM_X3_in iX3_finals_34) <| okZNe (tl rfl) iX3_finals_37 <| okTo (tl rfl))) (tLeaf (okIc iX3_finals_40 <| okGoto (tl rfl) iX3_finals_41))) (tNode (tLeaf (okIc iX3_finals_44 <| okTo (tl rfl))) (tLeaf (okC1 (qM_X3_flag iX3_finals_45) <| okPut (vFpM) iX3_finals_48 <| okAldn iX3_finals_51 rfl <| okGet (vFgM) iX3_finals_52 <| okIc iX3_finals_55 <| okCNe (tl rfl) iX3_finals_56 <| okIc iX3_finals_59 <| okIret iX3_finals_60 rfl)))) (tNode (tNode (tLeaf (okAldn iX3_finals_61 rfl <| okGet (vFgM) iX3_finals_62 <| okBi iX3_finals_65 (by decide) <| okBi iX3_finals_67 (by decide) <| okIldn iX3_finals_69 rfl <| okBi iX3_finals_70 (by decide) <| okRemT iX3_finals_72 <| okMul iX3_finals_73 <| okAdd iX3_finals_74 <| okIldn iX3_finals_75 rfl <| okAdd iX3_finals_76 <| okIa (vAgM) iX3_finals_77 <| okIst iX3_finals_78 (by decide) <| okIldn iX3_finals_80 rfl <| okIc iX3_finals_81 <| okCNe (tl rfl) iX3_finals_82 <| okSi iX3_finals_85 (by decide) <| okIld iX3_finals_88 <| okAddW iX3_finals_90 <| okGoto (tl rfl) iX3_finals_91)) (tLeaf (okIldn iX3_finals_94 rfl <| okIc iX3_finals_95 <| okCNe (tl rfl) iX3_finals_96 <| okBi iX3_finals_99 (by decide) <| okIld iX3_finals_101 <| okAddW iX3_finals_103 <| okGoto (tl rfl) iX3_finals_104))) (tNode (tLeaf (okIldn iX3_finals_107 rfl <| okBi iX3_finals_108 (by decide) <| okCNe (tl rfl) iX3_finals_110 <| okIld iX3_finals_113 <| okIc iX3_finals_115 <| okSubW iX3_finals_116 <| okGoto (tl rfl) iX3_finals_117)) (tNode (tLeaf (okIld iX3_finals_120 <| okTo (tl rfl))) (tLeaf (okIret iX3_finals_122 rfl)))))) pc
def gSesA (s : MS) (i a : Int) : Int := if a = 4 then wI (20000 + mg s ((0 * 2804 + 364 + 7 * i) + 4)) else if a = 5 then wI (99 + mg s ((0 * 2804 + 364 + 7 * i) + 5)) else if a = 6 then (if mRipe s 0 i (mg s (0 * 2804 + 4)) then 1 else 0) else if a = 7 then (if 0 < mg s ((0 * 2804 + 364 + 7 * i) + 6) then 1 else 0) else mg s ((0 * 2804 + 364 + 7 * i) + a)
def gSession (s : MS) (i a : Int) : Int × MS := if inB i 0 (wI (mg s (0 * 2804 + 5) - 1)) ∧ inB a 0 7 then (gSesA s i a, mS s 0 0) else (0, mS s 0 1)
def sX3_session : Int → Int → MS → KM → Prop := fun i a s K => ((xB i ∧ xB a) ∧ 0 ≤ mg s (0 * 2804 + 5) ∧ mg s (0 * 2804 + 5) ≤ 160) ∧ K [pI (gSession s i a).1] (gSession s i a).2
theorem mX3_session_ok : mOk encM bdM mX3_session (atR 0 (a2 sX3_session)) := by
  refine mOVa2 kX3_session (fun _ _ => rfl) (fun i a s K h hb => wx_J [] 12 tX3_session_ok rfl (fun J hR hJ => ?_))
  obtain ⟨⟨⟨h1, h0⟩, h2⟩, hK⟩ := h
  unfold gSession at hK
  have hw : wI (mg s (0 * 2804 + 5) - 1) = mg s (0 * 2804 + 5) - 1 := wI_eq ⟨by omega, by omega⟩
  refine ⟨h1, ⟨by omega, by omega⟩, fun h3 h4 => ⟨h4, ⟨⟨h1, ⟨by omega, by omega⟩, h4⟩, fun c => ?_, fun c => ?_⟩⟩⟩
  · refine ⟨⟨by omega, by omega⟩, fun q => absurd q (by omega), fun _ => ⟨h0, ⟨⟨h0, ⟨by omega, by omega⟩, ⟨by omega, by omega⟩⟩, fun c2 => ?_, fun c2 => ?_⟩⟩⟩
    · rw [if_pos ⟨c, c2⟩] at hK
      refine ⟨⟨by omega, by omega⟩, fun _ => ⟨Or.inl rfl, ⟨by omega, by omega⟩, fun _ => ⟨⟨⟨by omega, by omega⟩, ⟨by omega, by omega⟩⟩, fun _ => ?_, fun q => absurd (show (0 : Int) = 1 from q) (by omega)⟩⟩, fun q => absurd q (by omega)⟩
      rw [hw] at c
      unfold gSesA at hK
      refine ⟨h0, fun e => ?_, fun e => ?_, fun e => ?_, fun e => ?_, fun e => ?_⟩
      · rw [if_pos (show a = 4 by omega)] at hK
        exact ⟨⟨by omega, by omega⟩, fun _ _ => hR _ _ hK⟩
      · rw [if_neg (show ¬ a = 4 by omega), if_pos (show a = 5 by omega)] at hK
        exact ⟨⟨by omega, by omega⟩, fun _ _ => hR _ _ hK⟩
      · rw [if_neg (show ¬ a = 4 by omega), if_neg (show ¬ a = 5 by omega), if_pos (show a = 6 by omega)] at hK
        refine ⟨⟨by omega, by omega⟩, fun hp => ⟨⟨⟨by omega, by omega⟩, ⟨by omega, by omega⟩, hp⟩, fun r => ?_, fun r => ?_⟩⟩
        · have r : mRipe s 0 i (mg s (0 * 2804 + 4)) := r
          rw [if_pos r] at hK
          exact ⟨Or.inr rfl, hR _ _ hK⟩
        · have r : ¬ mRipe s 0 i (mg s (0 * 2804 + 4)) := r
          rw [if_neg r] at hK
          exact ⟨Or.inl rfl, hR _ _ hK⟩
      · rw [if_neg (show ¬ a = 4 by omega), if_neg (show ¬ a = 5 by omega), if_neg (show ¬ a = 6 by omega), if_pos (show a = 7 by omega)] at hK
        refine ⟨⟨by omega, by omega⟩, fun hp => ⟨hp, fun r => ?_, fun r => ?_⟩⟩
        · have r : mg s ((0 * 2804 + 364 + 7 * i) + 6) ≤ 0 := r
          rw [if_neg (Int.not_lt.mpr r)] at hK
          exact ⟨Or.inl rfl, hR _ _ hK⟩
        · have r : 0 < mg s ((0 * 2804 + 364 + 7 * i) + 6) := r
          rw [if_pos r] at hK
          exact ⟨Or.inr rfl, hR _ _ hK⟩
      · rw [if_neg (show ¬ a = 4 by omega), if_neg (show ¬ a = 5 by omega), if_neg (show ¬ a = 6 by omega), if_neg (show ¬ a = 7 by omega)] at hK
        exact ⟨⟨by omega, by omega⟩, fun _ => hR _ _ hK⟩
    · rw [if_neg (fun z => c2 z.2)] at hK
      refine ⟨⟨by omega, by omega⟩, fun q => absurd rfl q, fun _ => ⟨Or.inr rfl, ⟨by omega, by omega⟩, fun _ => ⟨⟨⟨by omega, by omega⟩, ⟨by omega, by omega⟩⟩, fun q => absurd (show (1 : Int) = 1 from rfl) q, fun _ => hR _ _ hK⟩⟩⟩
  · rw [if_neg (fun z => c z.1)] at hK
    refine ⟨⟨by omega, by omega⟩, fun _ => ⟨Or.inr rfl, ⟨by omega, by omega⟩, fun _ => ⟨⟨⟨by omega, by omega⟩, ⟨by omega, by omega⟩⟩, fun q => absurd (show (1 : Int) = 1 from rfl) q, fun _ => hR _ _ hK⟩⟩, fun q => absurd rfl q⟩

def gMsgA (s : MS) (i a : Int) : Int := if a = 5 then wI (20000 + mg s (1484 + 6 * Int.tmod i 60 + a)) else mg s (1484 + 6 * Int.tmod i 60 + a)
def gMessage (s : MS) (i a : Int) : Int × MS := if inB i (max 0 (wI (mg s (0 * 2804 + 7) - 60))) (wI (mg s (0 * 2804 + 7) - 1)) ∧ inB a 0 5 then (gMsgA s i a, mS s 0 0) else (0, mS s 0 1)
def sX3_message : Int → Int → MS → KM → Prop := fun i a s K => (xB i ∧ xB a) ∧ K [pI (gMessage s i a).1] (gMessage s i a).2
theorem mX3_message_ok : mOk encM bdM mX3_message (atR 0 (a2 sX3_message)) := by
  refine mOVa2 kX3_message (fun _ _ => rfl) (fun i a s K h hb => wx_J [] 12 tX3_message_ok rfl (fun J hR hJ => ?_))
  obtain ⟨⟨h1, h0⟩, hK⟩ := h
  unfold gMessage at hK
  refine ⟨⟨by omega, by omega⟩, fun h3 => ⟨h1, fun h4 => ⟨⟨⟨by omega, by omega⟩, h4⟩, ⟨max_B (a := 0) ⟨by omega, by omega⟩ h4, fun h5 => ⟨h5, ⟨⟨h1, max_B (a := 0) ⟨by omega, by omega⟩ h4, h5⟩, fun c => ?_, fun c => ?_⟩⟩⟩⟩⟩⟩
  · refine ⟨⟨by omega, by omega⟩, fun q => absurd q (by omega), fun _ => ⟨h0, ⟨⟨h0, ⟨by omega, by omega⟩, ⟨by omega, by omega⟩⟩, fun c2 => ?_, fun c2 => ?_⟩⟩⟩
    · rw [if_pos ⟨c, c2⟩] at hK
      refine ⟨⟨by omega, by omega⟩, fun _ => ⟨Or.inl rfl, ⟨by omega, by omega⟩, fun _ => ⟨⟨⟨by omega, by omega⟩, ⟨by omega, by omega⟩⟩, fun _ => ?_, fun q => absurd (show (0 : Int) = 1 from q) (by omega)⟩⟩, fun q => absurd q (by omega)⟩
      unfold gMsgA at hK
      have t1 := Int.tmod_lt_of_pos i (b := 60) (by omega)
      have t2 := Int.lt_tmod_of_pos i (b := 60) (by omega)
      refine ⟨⟨by omega, h1, ⟨by omega, by omega⟩⟩, ⟨by omega, by omega⟩, fun _ => ⟨⟨h0, ⟨by omega, by omega⟩⟩, fun e => ?_, fun e => ?_⟩⟩
      · rw [if_neg e] at hK
        exact hR _ _ hK
      · rw [if_pos e] at hK
        exact fun _ => hR _ _ hK
    · rw [if_neg (fun z => c2 z.2)] at hK
      refine ⟨⟨by omega, by omega⟩, fun q => absurd rfl q, fun _ => ⟨Or.inr rfl, ⟨by omega, by omega⟩, fun _ => ⟨⟨⟨by omega, by omega⟩, ⟨by omega, by omega⟩⟩, fun q => absurd (show (1 : Int) = 1 from rfl) q, fun _ => hR _ _ hK⟩⟩⟩
  · rw [if_neg (fun z => c z.1)] at hK
    refine ⟨⟨by omega, by omega⟩, fun _ => ⟨Or.inr rfl, ⟨by omega, by omega⟩, fun _ => ⟨⟨⟨by omega, by omega⟩, ⟨by omega, by omega⟩⟩, fun q => absurd (show (1 : Int) = 1 from rfl) q, fun _ => hR _ _ hK⟩⟩, fun q => absurd rfl q⟩

def gFinA (s : MS) (i a : Int) : Int := if a = 4 then wI (20000 + mg s (84 + 7 * Int.tmod i 40 + a)) else if a = 5 then wI (99 + mg s (84 + 7 * Int.tmod i 40 + a)) else if a = 6 then wI (mg s (84 + 7 * Int.tmod i 40 + a) - 1) else mg s (84 + 7 * Int.tmod i 40 + a)
def gFinals (s : MS) (i a : Int) : Int × MS := if inB i (max 0 (wI (mClosed s 0 - 40))) (wI (mClosed s 0 - 1)) ∧ inB a 0 6 then (gFinA s i a, mS s 0 0) else (0, mS s 0 1)
def sX3_finals : Int → Int → MS → KM → Prop := fun i a s K => (xB i ∧ xB a) ∧ K [pI (gFinals s i a).1] (gFinals s i a).2
theorem mX3_finals_ok : mOk encM bdM mX3_finals (atR 0 (a2 sX3_finals)) := by
  refine mOVa2 kX3_finals (fun _ _ => rfl) (fun i a s K h hb => wx_J [] 14 tX3_finals_ok rfl (fun J hR hJ => ?_))
  obtain ⟨⟨h1, h0⟩, hK⟩ := h
  unfold gFinals at hK
  refine ⟨⟨by omega, by omega⟩, fun h3 => ⟨h1, fun h4 => ⟨⟨⟨by omega, by omega⟩, h4⟩, ⟨max_B (a := 0) ⟨by omega, by omega⟩ h4, fun h5 => ⟨h5, ⟨⟨h1, max_B (a := 0) ⟨by omega, by omega⟩ h4, h5⟩, fun c => ?_, fun c => ?_⟩⟩⟩⟩⟩⟩
  · refine ⟨⟨by omega, by omega⟩, fun q => absurd q (by omega), fun _ => ⟨h0, ⟨⟨h0, ⟨by omega, by omega⟩, ⟨by omega, by omega⟩⟩, fun c2 => ?_, fun c2 => ?_⟩⟩⟩
    · rw [if_pos ⟨c, c2⟩] at hK
      refine ⟨⟨by omega, by omega⟩, fun _ => ⟨Or.inl rfl, ⟨by omega, by omega⟩, fun _ => ⟨⟨⟨by omega, by omega⟩, ⟨by omega, by omega⟩⟩, fun _ => ?_, fun q => absurd (show (0 : Int) = 1 from q) (by omega)⟩⟩, fun q => absurd q (by omega)⟩
      unfold gFinA at hK
      have t1 := Int.tmod_lt_of_pos i (b := 40) (by omega)
      have t2 := Int.lt_tmod_of_pos i (b := 40) (by omega)
      have hi0 : 0 ≤ i := by omega
      have t3 := Int.tmod_nonneg (a := i) 40 hi0
      refine ⟨⟨by omega, h1, ⟨by omega, by omega⟩⟩, ⟨by omega, by omega⟩, fun _ => ⟨⟨h0, ⟨by omega, by omega⟩⟩, fun e => ?_, fun e => ?_⟩⟩
      · rw [if_neg e] at hK
        refine ⟨⟨h0, ⟨by omega, by omega⟩⟩, fun e2 => ?_, fun e2 => ?_⟩
        · rw [if_neg e2] at hK
          refine ⟨⟨h0, ⟨by omega, by omega⟩⟩, fun e3 => ?_, fun e3 => ?_⟩
          · rw [if_neg e3] at hK
            exact hR _ _ hK
          · rw [if_pos e3] at hK
            exact fun _ => hR _ _ hK
        · rw [if_pos e2] at hK
          exact fun _ => hR _ _ hK
      · rw [if_pos e] at hK
        exact fun _ => hR _ _ hK
    · rw [if_neg (fun z => c2 z.2)] at hK
      refine ⟨⟨by omega, by omega⟩, fun q => absurd rfl q, fun _ => ⟨Or.inr rfl, ⟨by omega, by omega⟩, fun _ => ⟨⟨⟨by omega, by omega⟩, ⟨by omega, by omega⟩⟩, fun q => absurd (show (1 : Int) = 1 from rfl) q, fun _ => hR _ _ hK⟩⟩⟩
  · rw [if_neg (fun z => c z.1)] at hK
    refine ⟨⟨by omega, by omega⟩, fun _ => ⟨Or.inr rfl, ⟨by omega, by omega⟩, fun _ => ⟨⟨⟨by omega, by omega⟩, ⟨by omega, by omega⟩⟩, fun q => absurd (show (1 : Int) = 1 from rfl) q, fun _ => hR _ _ hK⟩⟩, fun q => absurd rfl q⟩
