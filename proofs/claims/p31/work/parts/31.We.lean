/-! ===== World: rise, events, marks, idle ones ===== -/
section LOOK
variable {σ : Type} {enc : σ → XH} {bd : σ → Prop} {M : XI} {rc rs pc : Nat}
def lookOk (pc : Nat) : List (Int × Int) → List (Int × Nat) → Bool
  | [], [] => true
  | a :: as, t :: ts => decide (a.1 = t.1) && (decide ((pc : Int) + a.2 = (t.2 : Int)) && (decide (t.2 < 1000000) && lookOk pc as ts))
  | _, _ => false
theorem xl_look {L : List (Option Value)} {st : List Value} {h : XH} {Po : Option (Option Value) → XH → Prop} {a : Int32} {dflt off : Int} {ps : Array (Int × Int)} {len tgt : Nat} (d : decode M.2.1 pc = .ok (.lookupswitch dflt ps, len)) (hp : (ps.toList.zip (ps.toList.drop 1)).all (fun (a, next) => a.1 < next.1) = true) (ho : Op.lookupswitch.offset ps.toList dflt a.toInt = off) (ht : (pc : Int) + off = tgt) (k : xl_W M rc rs tgt L st h Po) : xl_W M rc rs pc L (.int a :: st) h Po := by
  intro p l e R s m args below meth c D aC ρ σ aV A H locs cells slots ls Q hX hH hL q1 q2 hr ht2
  exact lv_lookup hX.1 hX.2.1 d hp ho ht (k p l e R s m args below meth c D aC ρ σ aV A H locs cells slots ls Q hX hH hL q1 q2 hr ht2)
theorem lookP_of {J : JP σ} {L : PL} {st : PS} {s : σ} {z dflt : Int} {df : Nat} (hd : (pc : Int) + dflt = df) (hdl : df < 1000000) : ∀ (as : List (Int × Int)) (ts : List (Int × Nat)), lookOk pc as ts = true → oLookP J L st s z df ts → ∃ tgt : Nat, tgt < 1000000 ∧ (pc : Int) + Op.lookupswitch.offset as dflt z = tgt ∧ J tgt L st s
  | [], [], _, h => ⟨df, hdl, hd, h⟩
  | [], _ :: _, h0, _ => by simp [lookOk] at h0
  | _ :: _, [], h0, _ => by simp [lookOk] at h0
  | (k, o) :: as, (k2, t) :: ts, h0, h => by
    simp only [lookOk, Bool.and_eq_true, decide_eq_true_eq] at h0
    obtain ⟨e1, e2, e3, e4⟩ := h0
    subst e1
    rw [Op.lookupswitch.offset_cons]
    by_cases c : k = z
    · rw [if_pos c]
      exact ⟨t, e3, e2, h.1 c.symm⟩
    · rw [if_neg c]
      exact lookP_of hd hdl as ts e4 (h.2 (fun q => c q.symm))
theorem okLook {dflt : Int} {ps : Array (Int × Int)} {len : Nat} {ts : List (Int × Nat)} {df : Nat} (h1 : (pc : Int) + dflt = df ∧ df < 1000000) (h2 : lookOk pc ps.toList ts = true) (h3 : (ps.toList.zip (ps.toList.drop 1)).all (fun (a, next) => a.1 < next.1) = true) (d : decode M.2.1 pc = .ok (.lookupswitch dflt ps, len)) : bOk enc bd M rc rs pc (oLook ts df) := by
  intro Po Pt J hJ L st s hb h
  unfold oLook at h
  split at h
  · next z st =>
    have hz : (iI z).toInt = z := iI_toInt h.1
    obtain ⟨tgt, t1, t2, t3⟩ := lookP_of h1.1 h1.2 _ _ h2 h.2
    have := hJ _ _ _ _ t3
    rw [wX_lt t1] at this
    exact xl_look d h3 rfl (by rw [hz]; exact t2) (this hb)
  · exact h.elim
end LOOK
-- X1_rise: heads [33]
def tX1_rise : Nat → Blk WS := fun pc => bif Nat.blt pc 52 then (bif Nat.blt pc 17 then (bif Nat.beq pc 0 then (oAld 0 <| oGet (fgW) 1 3 <| oIst 1 <| oAld 0 <| oI (-1) <| oC2 (cW_X1_leastMark) <| oIst 2 <| oIld 2 <| oIld 1 <| oCGt 17 <| oVret) else oNo) else (bif Nat.blt pc 33 then (bif Nat.beq pc 17 then (oAld 0 <| oIld 2 <| oPut (fpW) 1 3 <| oI (-1) <| oIst 3 <| oAld 0 <| oGet (fgW) 1 11 <| oGet (fgW) 0 3 <| oIst 4 <| oM [true, true, false, true, true, false] (oTo 33)) else oNo) else (bif Nat.beq pc 33 then (oIld 4 <| oZLe 107 <| oAld 0 <| oIld 3 <| oIld 1 <| oC3 (cW_X1_dueBehind) <| oIst 5 <| oIld 5 <| oZGe 52 <| oVret) else oNo))) else (bif Nat.blt pc 101 then (bif Nat.blt pc 82 then (bif Nat.beq pc 52 then (oAld 0 <| oIld 5 <| oC2 (cW_X1_turnOf) <| oIst 3 <| oAld 0 <| oIld 5 <| oIld 1 <| oC3 (cW_X1_isRipe) <| oZNe 82 <| oAld 0 <| oIld 5 <| oC2 (cW_X1_takeBack) <| oAld 0 <| oI 1 <| oIld 5 <| oC3 (cW_X1_announce) <| oTo 82) else oNo) else (bif Nat.beq pc 82 then (oAld 0 <| oIld 5 <| oAld 0 <| oGet (fgW) 1 3 <| oC3 (cW_X1_isOver) <| oZEq 101 <| oAld 0 <| oIld 5 <| oC2 (cW_X1_finish) <| oTo 101) else oNo)) else (bif Nat.blt pc 107 then (bif Nat.beq pc 101 then (oInc 4 (-1) <| oM [true, true, false, true, true, false] (oTo 33)) else oNo) else (bif Nat.beq pc 107 then (oVret) else oNo)))
theorem tX1_rise_ok : ∀ pc, bOk (encW) (bdW) mX1_rise 0 0 pc (tX1_rise pc) := fun pc => (tNode (tNode (tLeaf (okAldn iX1_rise_0 rfl <| okGet (vFgW) iX1_rise_1 <| okIstn iX1_rise_4 rfl (by decide) <| okAldn iX1_rise_5 rfl <| okIc iX1_rise_6 <| okC2 (qW_X1_leastMark iX1_rise_7) <| okIstn iX1_rise_10 rfl (by decide) <| okIldn iX1_rise_11 rfl <| okIldn iX1_rise_12 rfl <| okCGt (tl rfl) iX1_rise_13 <| okVret iX1_rise_16 rfl)) (tNode (tLeaf (okAldn iX1_rise_17 rfl <| okIldn iX1_rise_18 rfl <| okPut (vFpW) iX1_rise_19 <| okIc iX1_rise_22 <| okIstn iX1_rise_23 rfl (by decide) <| okAldn iX1_rise_24 rfl <| okGet (vFgW) iX1_rise_25 <| okGet (vFgW) iX1_rise_28 <| okIst iX1_rise_31 (by decide) <| okM (okTo (tl rfl)))) (tLeaf (okIld iX1_rise_33 <| okZLe (tl rfl) iX1_rise_35 <| okAldn iX1_rise_38 rfl <| okIldn iX1_rise_39 rfl <| okIldn iX1_rise_40 rfl <| okC3 (qW_X1_dueBehind iX1_rise_41) <| okIst iX1_rise_44 (by decide) <| okIld iX1_rise_46 <| okZGe (tl rfl) iX1_rise_48 <| okVret iX1_rise_51 rfl)))) (tNode (tNode (tLeaf (okAldn iX1_rise_52 rfl <| okIld iX1_rise_53 <| okC2 (qW_X1_turnOf iX1_rise_55) <| okIstn iX1_rise_58 rfl (by decide) <| okAldn iX1_rise_59 rfl <| okIld iX1_rise_60 <| okIldn iX1_rise_62 rfl <| okC3 (qW_X1_isRipe iX1_rise_63) <| okZNe (tl rfl) iX1_rise_66 <| okAldn iX1_rise_69 rfl <| okIld iX1_rise_70 <| okC2 (qW_X1_takeBack iX1_rise_72) <| okAldn iX1_rise_75 rfl <| okIc iX1_rise_76 <| okIld iX1_rise_77 <| okC3 (qW_X1_announce iX1_rise_79) <| okTo (tl rfl))) (tLeaf (okAldn iX1_rise_82 rfl <| okIld iX1_rise_83 <| okAldn iX1_rise_85 rfl <| okGet (vFgW) iX1_rise_86 <| okC3 (qW_X1_isOver iX1_rise_89) <| okZEq (tl rfl) iX1_rise_92 <| okAldn iX1_rise_95 rfl <| okIld iX1_rise_96 <| okC2 (qW_X1_finish iX1_rise_98) <| okTo (tl rfl)))) (tNode (tLeaf (okInc iX1_rise_101 (by decide) <| okGotoM (tl rfl) iX1_rise_104)) (tLeaf (okVret iX1_rise_107 rfl))))) pc
def wStep (w : WS) (be i : Int) : WS :=
  let w1 := if wRipe w i be then w else wAnn (wTake w i) 1 i
  if wOver w1 i (w1.1 3) then wFin w1 i else w1
def riseL (be : Int) : Nat → Int → WS → WS
  | 0, _, w => w
  | n + 1, pa, w => if wDue w pa be < 0 then w else riseL be n (wTurn w (wDue w pa be)) (wStep w be (wDue w pa be))
def wRise (w : WS) : WS := if wLeast w (-1) ≤ w.1 3 then w else riseL (w.1 3) (wZ w 1).toNat (-1) (wFd w 3 (wLeast w (-1)))
theorem wok_Step {w : WS} {be i : Int} (h : wok w) : wok (wStep w be i) := by
  have key : ∀ x : WS, wok x → wok (if wOver x i (x.1 3) then wFin x i else x) := by
    intro x hx
    split
    · exact wok_Fin hx
    · exact hx
  refine key _ ?_
  split
  · exact h
  · exact wok_Ann (wok_Take h)
theorem wok_riseL (be : Int) : ∀ (n : Nat) (pa : Int) (w : WS), wok w → wok (riseL be n pa w)
  | 0, _, _, h => h
  | n + 1, pa, w, h => by
    rw [riseL]
    split
    · exact h
    · exact wok_riseL be n _ _ (wok_Step h)
theorem wok_Rise {w : WS} (h : wok w) : wok (wRise w) := by
  unfold wRise
  split
  · exact h
  · exact wok_riseL _ _ _ _ (wok_Fd h)
theorem X1_rise_loop {K : KW} {Pt : WS → Prop} (be : Int) (hbe : xB be) : ∀ (n : Nat) (pa : Int) (s : WS), wok s → xB pa → (n : Int) ≤ 2147483647 → K [] (riseL be n pa s) → wX encW bdW mX1_rise 0 0 K Pt 33 [some (pR 0), some (pI be), none, some (pI pa), some (pI n), none] [] s := by
  intro n
  induction n with
  | zero =>
    intro pa s ho hpa hn hK
    refine wx_J [33] 9 tX1_rise_ok rfl (fun J hR hJ => ?_)
    repeat' (first | (refine And.intro ?_ ?_) | intro _)
    all_goals first | omega | exact hR _ _ hK
  | succ n ih =>
    intro pa s ho hpa hn hK
    refine wx_J [33] 9 tX1_rise_ok rfl (fun J hR hJ => ?_)
    rw [riseL] at hK
    have hz : wZ s 1 ≤ 161 := (ho 1 (by decide)).2
    have en : ((n + 1 : Nat) : Int) + -1 = (n : Int) := by omega
    refine ⟨⟨by omega, by omega⟩, fun c => absurd c (by omega), fun _ => ⟨⟨hpa, hbe⟩, fun hd => ⟨hd, fun c => ?_, fun c => ?_⟩⟩⟩
    · rw [if_neg (by omega)] at hK
      refine ⟨hd, fun ht => ⟨⟨hd, hbe⟩, fun c1 => ?_, fun c1 => ?_⟩⟩
      · have g : ∀ x, x = wStep s be (wDue s pa be) → wX encW bdW mX1_rise 0 0 K Pt 33 [some (pR 0), some (pI be), none, some (pI (wTurn s (wDue s pa be))), some (pI (((n + 1 : Nat) : Int) + -1)), none] [] x := by
          intro x ex
          rw [en, ex]
          exact ih _ _ (wok_Step ho) ht (by omega) hK
        refine ⟨⟨by omega, by omega⟩, fun c2 => ?_, fun c2 => absurd c2 (by omega)⟩
        intro hp
        refine ⟨⟨hd, hp⟩, fun c3 => ?_, fun c3 => ?_⟩
        · refine ⟨⟨by omega, by omega⟩, fun c4 => absurd c4 (by omega), fun c4 => ⟨⟨hd, hz⟩, hJ _ _ _ _ (g _ ?_)⟩⟩
          unfold wStep
          rw [if_pos c1]
          dsimp only
          rw [if_pos c3]
        · refine ⟨⟨by omega, by omega⟩, fun c4 => hJ _ _ _ _ (g _ ?_), fun c4 => absurd rfl c4⟩
          unfold wStep
          rw [if_pos c1]
          dsimp only
          rw [if_neg c3]
      · have g : ∀ x, x = wStep s be (wDue s pa be) → wX encW bdW mX1_rise 0 0 K Pt 33 [some (pR 0), some (pI be), none, some (pI (wTurn s (wDue s pa be))), some (pI (((n + 1 : Nat) : Int) + -1)), none] [] x := by
          intro x ex
          rw [en, ex]
          exact ih _ _ (wok_Step ho) ht (by omega) hK
        have ho2 := wok_Ann (k := 1) (i := wDue s pa be) (wok_Take (i := wDue s pa be) ho)
        have hz2 : wZ (wAnn (wTake s (wDue s pa be)) 1 (wDue s pa be)) 1 ≤ 161 := (ho2 1 (by decide)).2
        refine ⟨⟨by omega, by omega⟩, fun c2 => absurd rfl c2, fun c2 => ⟨hd, ⟨⟨⟨by omega, by omega⟩, hd⟩, ?_⟩⟩⟩
        intro hp
        refine ⟨⟨hd, hp⟩, fun c3 => ?_, fun c3 => ?_⟩
        · refine ⟨⟨by omega, by omega⟩, fun c4 => absurd c4 (by omega), fun c4 => ⟨⟨hd, hz2⟩, hJ _ _ _ _ (g _ ?_)⟩⟩
          unfold wStep
          rw [if_neg c1]
          dsimp only
          rw [if_pos c3]
        · refine ⟨⟨by omega, by omega⟩, fun c4 => hJ _ _ _ _ (g _ ?_), fun c4 => absurd rfl c4⟩
          unfold wStep
          rw [if_neg c1]
          dsimp only
          rw [if_neg c3]
    · rw [if_pos c] at hK
      exact hR _ _ hK
def sX1_rise : WS → KW → Prop := fun s K => wok s ∧ K [] (wRise s)
theorem mX1_rise_ok : mOk encW bdW mX1_rise (atR 0 (a0 sX1_rise)) := by
  refine mOVa0 kX1_rise (fun _ => rfl) (fun s K h hb => wx_J [33] 9 tX1_rise_ok rfl (fun J hR hJ => ?_))
  obtain ⟨h1, hK⟩ := h
  have hz := h1 1 (by decide)
  have hz2 : wZ s 1 ≤ 161 := hz.2
  unfold wRise at hK
  by_cases c : wLeast s (-1) ≤ s.1 3
  · rw [if_pos c] at hK
    repeat' (first | (refine And.intro ?_ ?_) | intro _)
    all_goals first | omega | exact hR _ _ hK
  · rw [if_neg c] at hK
    have g := X1_rise_loop (K := K) (Pt := fun _ => False) (s.1 3) (hb.1 3) (wZ s 1).toNat (-1) (wFd s 3 (wLeast s (-1))) (wok_Fd h1) ⟨by omega, by omega⟩ (by omega) hK
    rw [show (((wZ s 1).toNat : Nat) : Int) = wZ s 1 by omega] at g
    repeat' (first | (refine And.intro ?_ ?_) | intro _)
    all_goals first | omega | exact hJ _ _ _ _ g
def cW_X1_rise : Sp WS := atR 0 (a0 sX1_rise)
theorem qW_X1_rise {M : XI} {rc rs pc pc2 : Nat} (d : xl_Ca M pc mX1_rise pc2) : cOk encW bdW M rc rs pc pc2 1 cW_X1_rise := cSame mX1_rise_ok vX1_rise d wcl rfl lenW recW
-- X1_playEvent: heads []
def tX1_playEvent : Nat → Blk WS := fun pc => bif Nat.blt pc 73 then (bif Nat.blt pc 48 then (bif Nat.beq pc 0 then (oAld 0 <| oIld 2 <| oC2 (cW_X1_fateOf) <| oIst 5 <| oAld 0 <| oGet (fgW) 1 10 <| oIld 4 <| oI 3 <| oI 1 <| oC4 (cW_X0_add) <| oIld 5 <| oI 2 <| oCNe 48 <| oAld 0 <| oDup <| oGet (fgW) 1 8 <| oI 1 <| oAddW <| oPut (fpW) 1 8 <| oAld 0 <| oGet (fgW) 1 10 <| oIld 4 <| oI 4 <| oI 1 <| oC4 (cW_X0_add) <| oTo 85) else oNo) else (bif Nat.beq pc 48 then (oAld 0 <| oDup <| oGet (fgW) 1 6 <| oI 1 <| oAddW <| oPut (fpW) 1 6 <| oAld 0 <| oDup <| oGet (fgW) 1 7 <| oIld 5 <| oI 1 <| oCNe 73 <| oI 1 <| oTo 74) else oNo)) else (bif Nat.blt pc 74 then (bif Nat.beq pc 73 then (oI 0 <| oTo 74) else oNo) else (bif Nat.blt pc 85 then (bif Nat.beq pc 74 then (oAddW <| oPut (fpW) 1 7 <| oAld 0 <| oIld 1 <| oIld 2 <| oIld 3 <| oC4 (cW_X1_melt) <| oTo 85) else oNo) else (bif Nat.beq pc 85 then (oAld 0 <| oGet (fgW) 1 10 <| oIld 4 <| oI 2 <| oI 0 <| oC4 (cW_X0_set) <| oAld 0 <| oIld 4 <| oIld 2 <| oAld 0 <| oGet (fgW) 1 10 <| oIld 4 <| oI 1 <| oC3 (cW_X0_get) <| oSubW <| oC3 (cW_X1_raiseMark) <| oAld 0 <| oC1 (cW_X1_rise) <| oIld 5 <| oIret) else oNo)))
theorem tX1_playEvent_ok : ∀ pc, bOk (encW) (bdW) mX1_playEvent 0 0 pc (tX1_playEvent pc) := fun pc => (tNode (tNode (tLeaf (okAldn iX1_playEvent_0 rfl <| okIldn iX1_playEvent_1 rfl <| okC2 (qW_X1_fateOf iX1_playEvent_2) <| okIst iX1_playEvent_5 (by decide) <| okAldn iX1_playEvent_7 rfl <| okGet (vFgW) iX1_playEvent_8 <| okIld iX1_playEvent_11 <| okIc iX1_playEvent_13 <| okIc iX1_playEvent_14 <| okC4 (qW_X0_add iX1_playEvent_15) <| okIld iX1_playEvent_18 <| okIc iX1_playEvent_20 <| okCNe (tl rfl) iX1_playEvent_21 <| okAldn iX1_playEvent_24 rfl <| okDup iX1_playEvent_25 <| okGet (vFgW) iX1_playEvent_26 <| okIc iX1_playEvent_29 <| okAddW iX1_playEvent_30 <| okPut (vFpW) iX1_playEvent_31 <| okAldn iX1_playEvent_34 rfl <| okGet (vFgW) iX1_playEvent_35 <| okIld iX1_playEvent_38 <| okIc iX1_playEvent_40 <| okIc iX1_playEvent_41 <| okC4 (qW_X0_add iX1_playEvent_42) <| okGoto (tl rfl) iX1_playEvent_45)) (tLeaf (okAldn iX1_playEvent_48 rfl <| okDup iX1_playEvent_49 <| okGet (vFgW) iX1_playEvent_50 <| okIc iX1_playEvent_53 <| okAddW iX1_playEvent_54 <| okPut (vFpW) iX1_playEvent_55 <| okAldn iX1_playEvent_58 rfl <| okDup iX1_playEvent_59 <| okGet (vFgW) iX1_playEvent_60 <| okIld iX1_playEvent_63 <| okIc iX1_playEvent_65 <| okCNe (tl rfl) iX1_playEvent_66 <| okIc iX1_playEvent_69 <| okGoto (tl rfl) iX1_playEvent_70))) (tNode (tLeaf (okIc iX1_playEvent_73 <| okTo (tl rfl))) (tNode (tLeaf (okAddW iX1_playEvent_74 <| okPut (vFpW) iX1_playEvent_75 <| okAldn iX1_playEvent_78 rfl <| okIldn iX1_playEvent_79 rfl <| okIldn iX1_playEvent_80 rfl <| okIldn iX1_playEvent_81 rfl <| okC4 (qW_X1_melt iX1_playEvent_82) <| okTo (tl rfl))) (tLeaf (okAldn iX1_playEvent_85 rfl <| okGet (vFgW) iX1_playEvent_86 <| okIld iX1_playEvent_89 <| okIc iX1_playEvent_91 <| okIc iX1_playEvent_92 <| okC4 (qW_X0_set iX1_playEvent_93) <| okAldn iX1_playEvent_96 rfl <| okIld iX1_playEvent_97 <| okIldn iX1_playEvent_99 rfl <| okAldn iX1_playEvent_100 rfl <| okGet (vFgW) iX1_playEvent_101 <| okIld iX1_playEvent_104 <| okIc iX1_playEvent_106 <| okC3 (qW_X0_get iX1_playEvent_107) <| okSubW iX1_playEvent_110 <| okC3 (qW_X1_raiseMark iX1_playEvent_111) <| okAldn iX1_playEvent_114 rfl <| okC1 (qW_X1_rise iX1_playEvent_115) <| okIld iX1_playEvent_118 <| okIret iX1_playEvent_120 rfl))))) pc
-- X1_playMark: heads []
def tX1_playMark : Nat → Blk WS := fun pc => bif Nat.beq pc 0 then (oAld 0 <| oIld 1 <| oIld 2 <| oC3 (cW_X1_raiseMark) <| oAld 0 <| oC1 (cW_X1_rise) <| oVret) else oNo
theorem tX1_playMark_ok : ∀ pc, bOk (encW) (bdW) mX1_playMark 0 0 pc (tX1_playMark pc) := fun pc => (tLeaf (okAldn iX1_playMark_0 rfl <| okIldn iX1_playMark_1 rfl <| okIldn iX1_playMark_2 rfl <| okC3 (qW_X1_raiseMark iX1_playMark_3) <| okAldn iX1_playMark_6 rfl <| okC1 (qW_X1_rise iX1_playMark_7) <| okVret iX1_playMark_10 rfl)) pc
-- X1_playIdle: heads []
def tX1_playIdle : Nat → Blk WS := fun pc => bif Nat.beq pc 0 then (oAld 0 <| oGet (fgW) 1 10 <| oIld 1 <| oI 2 <| oI 1 <| oC4 (cW_X0_set) <| oAld 0 <| oC1 (cW_X1_rise) <| oVret) else oNo
theorem tX1_playIdle_ok : ∀ pc, bOk (encW) (bdW) mX1_playIdle 0 0 pc (tX1_playIdle pc) := fun pc => (tLeaf (okAldn iX1_playIdle_0 rfl <| okGet (vFgW) iX1_playIdle_1 <| okIldn iX1_playIdle_4 rfl <| okIc iX1_playIdle_5 <| okIc iX1_playIdle_6 <| okC4 (qW_X0_set iX1_playIdle_7) <| okAldn iX1_playIdle_10 rfl <| okC1 (qW_X1_rise iX1_playIdle_11) <| okVret iX1_playIdle_14 rfl)) pc
def wPlayE (w : WS) (k t v r : Int) : WS :=
  let w1 := wA w 0 r 3 1
  let w2 := if wFate w t = 2 then wA (wFd w1 8 (wI (w1.1 8 + 1))) 0 r 4 1 else wMelt (wFd (wFd w1 6 (wI (w1.1 6 + 1))) 7 (wI (w1.1 7 + (if wFate w t = 1 then 1 else 0)))) k t v
  let w3 := wP w2 0 r 2 0
  wRise (wRaise w3 r (wI (t - wG w3 0 r 1)))
theorem wok_PlayE {w : WS} {k t v r : Int} (h : wok w) : wok (wPlayE w k t v r) := by
  unfold wPlayE
  refine wok_Rise (wok_Raise (wok_P (by decide) ?_))
  split
  · exact wok_A (by decide) (wok_Fd (wok_A (by decide) h))
  · exact wok_Melt (wok_Fd (wok_Fd (wok_A (by decide) h)))
def sX1_playEvent : Int → Int → Int → Int → WS → KW → Prop := fun k t v r s K => (xB k ∧ xB t ∧ xB v ∧ xB r ∧ wok s) ∧ (0 ≤ wFate s t → wFate s t ≤ 2 → K [pI (wFate s t)] (wPlayE s k t v r))
theorem mX1_playEvent_ok : mOk encW bdW mX1_playEvent (atR 0 (a4 sX1_playEvent)) := by
  refine mOVa4 kX1_playEvent (fun _ _ _ _ => rfl) (fun k t v r s K h hb => wx_J [] 9 tX1_playEvent_ok rfl (fun J hR hJ => ?_))
  obtain ⟨⟨h1, h2, h3, h4, h5⟩, hK⟩ := h
  have hf := wFate_b s t
  have hK := hK hf.1 hf.2
  unfold wPlayE at hK
  dsimp only at hK
  refine ⟨h2, fun f0 f1 => ?_⟩
  by_cases c : wFate s t = 2
  · rw [if_pos c] at hK
    have ho : wok (wRaise (wP (wA (wFd (wA s 0 r 3 1) 8 (wI ((wA s 0 r 3 1).1 8 + 1))) 0 r 4 1) 0 r 2 0) r (wI (t - wG (wP (wA (wFd (wA s 0 r 3 1) 8 (wI ((wA s 0 r 3 1).1 8 + 1))) 0 r 4 1) 0 r 2 0) 0 r 1))) := wok_Raise (wok_P (by decide) (wok_A (by decide) (wok_Fd (wok_A (by decide) h5))))
    repeat' (first | (refine And.intro ?_ ?_) | intro _)
    all_goals first | omega | exact (ho _ (by assumption)).1 | exact (ho _ (by assumption)).2 | exact hR _ _ hK | contradiction
  · rw [if_neg c] at hK
    have hA : wok (wA s 0 r 3 1) := wok_A (by decide) h5
    by_cases c2 : wFate s t = 1
    · rw [if_pos c2] at hK
      have hm : wok (wFd (wFd (wA s 0 r 3 1) 6 (wI ((wA s 0 r 3 1).1 6 + 1))) 7 (wI ((wA s 0 r 3 1).1 7 + 1))) := wok_Fd (wok_Fd hA)
      have ho := wok_Raise (r := r) (t := wI (t - wG (wP (wMelt (wFd (wFd (wA s 0 r 3 1) 6 (wI ((wA s 0 r 3 1).1 6 + 1))) 7 (wI ((wA s 0 r 3 1).1 7 + 1))) k t v) 0 r 2 0) 0 r 1)) (wok_P (t := 0) (i := r) (c := 2) (v := 0) (by decide) (wok_Melt (k := k) (t := t) (v := v) hm))
      repeat' (first | (refine And.intro ?_ ?_) | intro _)
      all_goals first | omega | exact (ho _ (by assumption)).1 | exact (ho _ (by assumption)).2 | exact (hm _ (by assumption)).1 | exact (hm _ (by assumption)).2 | exact hR _ _ hK | contradiction
    · rw [if_neg c2] at hK
      have hm : wok (wFd (wFd (wA s 0 r 3 1) 6 (wI ((wA s 0 r 3 1).1 6 + 1))) 7 (wI ((wA s 0 r 3 1).1 7 + 0))) := wok_Fd (wok_Fd hA)
      have ho := wok_Raise (r := r) (t := wI (t - wG (wP (wMelt (wFd (wFd (wA s 0 r 3 1) 6 (wI ((wA s 0 r 3 1).1 6 + 1))) 7 (wI ((wA s 0 r 3 1).1 7 + 0))) k t v) 0 r 2 0) 0 r 1)) (wok_P (t := 0) (i := r) (c := 2) (v := 0) (by decide) (wok_Melt (k := k) (t := t) (v := v) hm))
      repeat' (first | (refine And.intro ?_ ?_) | intro _)
      all_goals first | omega | exact (ho _ (by assumption)).1 | exact (ho _ (by assumption)).2 | exact (hm _ (by assumption)).1 | exact (hm _ (by assumption)).2 | exact hR _ _ hK | contradiction
def cW_X1_playEvent : Sp WS := atR 0 (a4 sX1_playEvent)
theorem qW_X1_playEvent {M : XI} {rc rs pc pc2 : Nat} (d : xl_Ca M pc mX1_playEvent pc2) : cOk encW bdW M rc rs pc pc2 5 cW_X1_playEvent := cSame mX1_playEvent_ok vX1_playEvent d wcl rfl lenW recW
def wPlayM (w : WS) (r t : Int) : WS := wRise (wRaise w r t)
def sX1_playMark : Int → Int → WS → KW → Prop := fun r t s K => (xB r ∧ xB t ∧ wok s) ∧ K [] (wPlayM s r t)
theorem mX1_playMark_ok : mOk encW bdW mX1_playMark (atR 0 (a2 sX1_playMark)) := by
  refine mOVa2 kX1_playMark (fun _ _ => rfl) (fun r t s K h hb => wx_J [] 9 tX1_playMark_ok rfl (fun J hR hJ => ?_))
  obtain ⟨⟨h1, h2, h3⟩, hK⟩ := h
  exact ⟨⟨h1, h2⟩, wok_Raise h3, hR _ _ hK⟩
def cW_X1_playMark : Sp WS := atR 0 (a2 sX1_playMark)
theorem qW_X1_playMark {M : XI} {rc rs pc pc2 : Nat} (d : xl_Ca M pc mX1_playMark pc2) : cOk encW bdW M rc rs pc pc2 3 cW_X1_playMark := cSame mX1_playMark_ok vX1_playMark d wcl rfl lenW recW
def wPlayI (w : WS) (r : Int) : WS := wRise (wP w 0 r 2 1)
def sX1_playIdle : Int → WS → KW → Prop := fun r s K => (xB r ∧ wok s) ∧ K [] (wPlayI s r)
theorem mX1_playIdle_ok : mOk encW bdW mX1_playIdle (atR 0 (a1 sX1_playIdle)) := by
  refine mOVa1 kX1_playIdle (fun _ => rfl) (fun r s K h hb => wx_J [] 9 tX1_playIdle_ok rfl (fun J hR hJ => ?_))
  obtain ⟨⟨h1, h2⟩, hK⟩ := h
  exact ⟨⟨h1, ⟨by omega, by omega⟩, ⟨by omega, by omega⟩⟩, wok_P (by decide) h2, hR _ _ hK⟩
def cW_X1_playIdle : Sp WS := atR 0 (a1 sX1_playIdle)
theorem qW_X1_playIdle {M : XI} {rc rs pc pc2 : Nat} (d : xl_Ca M pc mX1_playIdle pc2) : cOk encW bdW M rc rs pc pc2 2 cW_X1_playIdle := cSame mX1_playIdle_ok vX1_playIdle d wcl rfl lenW recW
theorem wok_PlayM {w : WS} {r t : Int} (h : wok w) : wok (wPlayM w r t) := wok_Rise (wok_Raise h)
theorem wok_PlayI {w : WS} {r : Int} (h : wok w) : wok (wPlayI w r) := wok_Rise (wok_P (by decide) h)
-- X1_comeEvent: heads []
def tX1_comeEvent : Nat → Blk WS := fun pc => bif Nat.beq pc 0 then (oAld 0 <| oGet (fgW) 1 14 <| oGet (fgW) 0 3 <| oIst 5 <| oI 0 <| oAld 0 <| oGet (fgW) 1 3 <| oIld 2 <| oSubW <| oMax <| oIst 6 <| oAld 0 <| oI 0 <| oIld 4 <| oIld 2 <| oC4 (cW_X1_note) <| oAld 0 <| oIld 1 <| oIld 2 <| oIld 3 <| oIld 4 <| oC5 (cW_X1_playEvent) <| oIst 7 <| oAld 0 <| oGet (fgW) 1 14 <| oIld 5 <| oI 3 <| oIld 1 <| oC4 (cW_X0_set) <| oAld 0 <| oGet (fgW) 1 14 <| oIld 5 <| oI 4 <| oIld 3 <| oC4 (cW_X0_set) <| oAld 0 <| oGet (fgW) 1 14 <| oIld 5 <| oI 5 <| oIld 7 <| oC4 (cW_X0_set) <| oAld 0 <| oGet (fgW) 1 14 <| oIld 5 <| oI 6 <| oIld 6 <| oC4 (cW_X0_set) <| oIld 7 <| oIret) else oNo
theorem tX1_comeEvent_ok : ∀ pc, bOk (encW) (bdW) mX1_comeEvent 0 0 pc (tX1_comeEvent pc) := fun pc => (tLeaf (okAldn iX1_comeEvent_0 rfl <| okGet (vFgW) iX1_comeEvent_1 <| okGet (vFgW) iX1_comeEvent_4 <| okIst iX1_comeEvent_7 (by decide) <| okIc iX1_comeEvent_9 <| okAldn iX1_comeEvent_10 rfl <| okGet (vFgW) iX1_comeEvent_11 <| okIldn iX1_comeEvent_14 rfl <| okSubW iX1_comeEvent_15 <| okMax iX1_comeEvent_16 <| okIst iX1_comeEvent_19 (by decide) <| okAldn iX1_comeEvent_21 rfl <| okIc iX1_comeEvent_22 <| okIld iX1_comeEvent_23 <| okIldn iX1_comeEvent_25 rfl <| okC4 (qW_X1_note iX1_comeEvent_26) <| okAldn iX1_comeEvent_29 rfl <| okIldn iX1_comeEvent_30 rfl <| okIldn iX1_comeEvent_31 rfl <| okIldn iX1_comeEvent_32 rfl <| okIld iX1_comeEvent_33 <| okC5 (qW_X1_playEvent iX1_comeEvent_35) <| okIst iX1_comeEvent_38 (by decide) <| okAldn iX1_comeEvent_40 rfl <| okGet (vFgW) iX1_comeEvent_41 <| okIld iX1_comeEvent_44 <| okIc iX1_comeEvent_46 <| okIldn iX1_comeEvent_47 rfl <| okC4 (qW_X0_set iX1_comeEvent_48) <| okAldn iX1_comeEvent_51 rfl <| okGet (vFgW) iX1_comeEvent_52 <| okIld iX1_comeEvent_55 <| okIc iX1_comeEvent_57 <| okIldn iX1_comeEvent_58 rfl <| okC4 (qW_X0_set iX1_comeEvent_59) <| okAldn iX1_comeEvent_62 rfl <| okGet (vFgW) iX1_comeEvent_63 <| okIld iX1_comeEvent_66 <| okIc iX1_comeEvent_68 <| okIld iX1_comeEvent_69 <| okC4 (qW_X0_set iX1_comeEvent_71) <| okAldn iX1_comeEvent_74 rfl <| okGet (vFgW) iX1_comeEvent_75 <| okIld iX1_comeEvent_78 <| okBi iX1_comeEvent_80 (by decide) <| okIld iX1_comeEvent_82 <| okC4 (qW_X0_set iX1_comeEvent_84) <| okIld iX1_comeEvent_87 <| okIret iX1_comeEvent_89 rfl)) pc
-- X1_comeMark: heads []
def tX1_comeMark : Nat → Blk WS := fun pc => bif Nat.beq pc 0 then (oAld 0 <| oI 1 <| oIld 1 <| oIld 2 <| oC4 (cW_X1_note) <| oAld 0 <| oIld 1 <| oIld 2 <| oC3 (cW_X1_playMark) <| oVret) else oNo
theorem tX1_comeMark_ok : ∀ pc, bOk (encW) (bdW) mX1_comeMark 0 0 pc (tX1_comeMark pc) := fun pc => (tLeaf (okAldn iX1_comeMark_0 rfl <| okIc iX1_comeMark_1 <| okIldn iX1_comeMark_2 rfl <| okIldn iX1_comeMark_3 rfl <| okC4 (qW_X1_note iX1_comeMark_4) <| okAldn iX1_comeMark_7 rfl <| okIldn iX1_comeMark_8 rfl <| okIldn iX1_comeMark_9 rfl <| okC3 (qW_X1_playMark iX1_comeMark_10) <| okVret iX1_comeMark_13 rfl)) pc
-- X1_comeIdle: heads []
def tX1_comeIdle : Nat → Blk WS := fun pc => bif Nat.beq pc 0 then (oAld 0 <| oI 2 <| oIld 1 <| oI 0 <| oC4 (cW_X1_note) <| oAld 0 <| oIld 1 <| oC2 (cW_X1_playIdle) <| oVret) else oNo
theorem tX1_comeIdle_ok : ∀ pc, bOk (encW) (bdW) mX1_comeIdle 0 0 pc (tX1_comeIdle pc) := fun pc => (tLeaf (okAldn iX1_comeIdle_0 rfl <| okIc iX1_comeIdle_1 <| okIldn iX1_comeIdle_2 rfl <| okIc iX1_comeIdle_3 <| okC4 (qW_X1_note iX1_comeIdle_4) <| okAldn iX1_comeIdle_7 rfl <| okIldn iX1_comeIdle_8 rfl <| okC2 (qW_X1_playIdle iX1_comeIdle_9) <| okVret iX1_comeIdle_12 rfl)) pc
-- X1_reset: heads [61, 133]
def tX1_reset : Nat → Blk WS := fun pc => bif Nat.blt pc 95 then (bif Nat.blt pc 61 then (bif Nat.beq pc 0 then (oAld 0 <| oIld 2 <| oPut (fpW) 1 0 <| oAld 0 <| oIld 3 <| oPut (fpW) 1 1 <| oAld 0 <| oIld 4 <| oPut (fpW) 1 2 <| oAld 0 <| oI 0 <| oPut (fpW) 1 3 <| oAld 0 <| oI 0 <| oPut (fpW) 1 4 <| oAld 0 <| oI 0 <| oPut (fpW) 1 5 <| oAld 0 <| oI 0 <| oPut (fpW) 1 6 <| oAld 0 <| oI 0 <| oPut (fpW) 1 7 <| oAld 0 <| oI 0 <| oPut (fpW) 1 8 <| oAld 0 <| oI 0 <| oPut (fpW) 1 9 <| oAld 0 <| oGet (fgW) 1 10 <| oC1 (cW_X0_clear) <| oI 0 <| oIst 5 <| oM [true, true, false, false, false, true] (oTo 61)) else oNo) else (bif Nat.beq pc 61 then (oIld 5 <| oIld 1 <| oCGe 95 <| oAld 0 <| oGet (fgW) 1 10 <| oIld 5 <| oC2 (cW_X0_open) <| oPop <| oAld 0 <| oGet (fgW) 1 10 <| oIld 5 <| oI 1 <| oI 20 <| oC4 (cW_X0_set) <| oInc 5 1 <| oM [true, true, false, false, false, true] (oTo 61)) else oNo)) else (bif Nat.blt pc 133 then (bif Nat.beq pc 95 then (oAld 0 <| oGet (fgW) 1 11 <| oC1 (cW_X0_clear) <| oAld 0 <| oGet (fgW) 1 12 <| oC1 (cW_X0_clear) <| oAld 0 <| oGet (fgW) 1 13 <| oC1 (cW_X0_clear) <| oAld 0 <| oGet (fgW) 1 14 <| oC1 (cW_X0_clear) <| oAld 0 <| oGet (fgW) 1 15 <| oC1 (cW_X0_clear) <| oI 0 <| oIst 5 <| oM [true, false, false, false, false, true] (oTo 133)) else oNo) else (bif Nat.blt pc 168 then (bif Nat.beq pc 133 then (oIld 5 <| oI 6 <| oCGe 168 <| oAld 0 <| oGet (fgW) 1 15 <| oIld 5 <| oC2 (cW_X0_open) <| oPop <| oAld 0 <| oGet (fgW) 1 15 <| oIld 5 <| oI 7 <| oI (-1) <| oC4 (cW_X0_set) <| oInc 5 1 <| oM [true, false, false, false, false, true] (oTo 133)) else oNo) else (bif Nat.beq pc 168 then (oVret) else oNo)))
theorem tX1_reset_ok : ∀ pc, bOk (encW) (bdW) mX1_reset 0 0 pc (tX1_reset pc) := fun pc => (tNode (tNode (tLeaf (okAldn iX1_reset_0 rfl <| okIldn iX1_reset_1 rfl <| okPut (vFpW) iX1_reset_2 <| okAldn iX1_reset_5 rfl <| okIldn iX1_reset_6 rfl <| okPut (vFpW) iX1_reset_7 <| okAldn iX1_reset_10 rfl <| okIld iX1_reset_11 <| okPut (vFpW) iX1_reset_13 <| okAldn iX1_reset_16 rfl <| okIc iX1_reset_17 <| okPut (vFpW) iX1_reset_18 <| okAldn iX1_reset_21 rfl <| okIc iX1_reset_22 <| okPut (vFpW) iX1_reset_23 <| okAldn iX1_reset_26 rfl <| okIc iX1_reset_27 <| okPut (vFpW) iX1_reset_28 <| okAldn iX1_reset_31 rfl <| okIc iX1_reset_32 <| okPut (vFpW) iX1_reset_33 <| okAldn iX1_reset_36 rfl <| okIc iX1_reset_37 <| okPut (vFpW) iX1_reset_38 <| okAldn iX1_reset_41 rfl <| okIc iX1_reset_42 <| okPut (vFpW) iX1_reset_43 <| okAldn iX1_reset_46 rfl <| okIc iX1_reset_47 <| okPut (vFpW) iX1_reset_48 <| okAldn iX1_reset_51 rfl <| okGet (vFgW) iX1_reset_52 <| okC1 (qW_X0_clear iX1_reset_55) <| okIc iX1_reset_58 <| okIst iX1_reset_59 (by decide) <| okM (okTo (tl rfl)))) (tLeaf (okIld iX1_reset_61 <| okIldn iX1_reset_63 rfl <| okCGe (tl rfl) iX1_reset_64 <| okAldn iX1_reset_67 rfl <| okGet (vFgW) iX1_reset_68 <| okIld iX1_reset_71 <| okC2 (qW_X0_open iX1_reset_73) <| okPop iX1_reset_76 <| okAldn iX1_reset_77 rfl <| okGet (vFgW) iX1_reset_78 <| okIld iX1_reset_81 <| okIc iX1_reset_83 <| okBi iX1_reset_84 (by decide) <| okC4 (qW_X0_set iX1_reset_86) <| okInc iX1_reset_89 (by decide) <| okGotoM (tl rfl) iX1_reset_92))) (tNode (tLeaf (okAldn iX1_reset_95 rfl <| okGet (vFgW) iX1_reset_96 <| okC1 (qW_X0_clear iX1_reset_99) <| okAldn iX1_reset_102 rfl <| okGet (vFgW) iX1_reset_103 <| okC1 (qW_X0_clear iX1_reset_106) <| okAldn iX1_reset_109 rfl <| okGet (vFgW) iX1_reset_110 <| okC1 (qW_X0_clear iX1_reset_113) <| okAldn iX1_reset_116 rfl <| okGet (vFgW) iX1_reset_117 <| okC1 (qW_X0_clear iX1_reset_120) <| okAldn iX1_reset_123 rfl <| okGet (vFgW) iX1_reset_124 <| okC1 (qW_X0_clear iX1_reset_127) <| okIc iX1_reset_130 <| okIst iX1_reset_131 (by decide) <| okM (okTo (tl rfl)))) (tNode (tLeaf (okIld iX1_reset_133 <| okBi iX1_reset_135 (by decide) <| okCGe (tl rfl) iX1_reset_137 <| okAldn iX1_reset_140 rfl <| okGet (vFgW) iX1_reset_141 <| okIld iX1_reset_144 <| okC2 (qW_X0_open iX1_reset_146) <| okPop iX1_reset_149 <| okAldn iX1_reset_150 rfl <| okGet (vFgW) iX1_reset_151 <| okIld iX1_reset_154 <| okBi iX1_reset_156 (by decide) <| okIc iX1_reset_158 <| okC4 (qW_X0_set iX1_reset_159) <| okInc iX1_reset_162 (by decide) <| okGotoM (tl rfl) iX1_reset_165)) (tLeaf (okVret iX1_reset_168 rfl))))) pc
def wComeE (w : WS) (k t v r : Int) : WS :=
  let w1 := wNote w 0 r t
  let w2 := wPlayE w1 k t v r
  wP (wP (wP (wP w2 4 (wZ w 4) 3 k) 4 (wZ w 4) 4 v) 4 (wZ w 4) 5 (wFate w1 t)) 4 (wZ w 4) 6 (max 0 (wI (w.1 3 - t)))
theorem wok_ComeE {w : WS} {k t v r : Int} (h : wok w) : wok (wComeE w k t v r) :=
  wok_P (by decide) (wok_P (by decide) (wok_P (by decide) (wok_P (by decide) (wok_PlayE (wok_Note h)))))
def sX1_comeEvent : Int → Int → Int → Int → WS → KW → Prop := fun k t v r s K => (xB k ∧ xB t ∧ xB v ∧ xB r ∧ wok s) ∧ (0 ≤ wFate (wNote s 0 r t) t → wFate (wNote s 0 r t) t ≤ 2 → K [pI (wFate (wNote s 0 r t) t)] (wComeE s k t v r))
theorem mX1_comeEvent_ok : mOk encW bdW mX1_comeEvent (atR 0 (a4 sX1_comeEvent)) := by
  refine mOVa4 kX1_comeEvent (fun _ _ _ _ => rfl) (fun k t v r s K h hb => wx_J [] 9 tX1_comeEvent_ok rfl (fun J hR hJ => ?_))
  obtain ⟨⟨h1, h2, h3, h4, h5⟩, hK⟩ := h
  have hf := wFate_b (wNote s 0 r t) t
  have hK := hK hf.1 hf.2
  have hn : wok (wNote s 0 r t) := wok_Note h5
  have hz : xB (wZ s 4) := (hb.2 4).1
  intro _ _ hw
  have hmx := max_B (a := 0) ⟨by omega, by omega⟩ hw
  repeat' (first | (refine And.intro ?_ ?_) | intro _)
  all_goals first | omega | exact (hn _ (by assumption)).1 | exact (hn _ (by assumption)).2 | exact hR _ _ hK
def wComeM (w : WS) (r t : Int) : WS := wPlayM (wNote w 1 r t) r t
def sX1_comeMark : Int → Int → WS → KW → Prop := fun r t s K => (xB r ∧ xB t ∧ wok s) ∧ K [] (wComeM s r t)
theorem mX1_comeMark_ok : mOk encW bdW mX1_comeMark (atR 0 (a2 sX1_comeMark)) := by
  refine mOVa2 kX1_comeMark (fun _ _ => rfl) (fun r t s K h hb => wx_J [] 9 tX1_comeMark_ok rfl (fun J hR hJ => ?_))
  obtain ⟨⟨h1, h2, h3⟩, hK⟩ := h
  exact ⟨⟨⟨by omega, by omega⟩, h1, h2⟩, ⟨⟨h1, h2, wok_Note h3⟩, hR _ _ hK⟩⟩
def wComeI (w : WS) (r : Int) : WS := wPlayI (wNote w 2 r 0) r
def sX1_comeIdle : Int → WS → KW → Prop := fun r s K => (xB r ∧ wok s) ∧ K [] (wComeI s r)
theorem mX1_comeIdle_ok : mOk encW bdW mX1_comeIdle (atR 0 (a1 sX1_comeIdle)) := by
  refine mOVa1 kX1_comeIdle (fun _ => rfl) (fun r s K h hb => wx_J [] 9 tX1_comeIdle_ok rfl (fun J hR hJ => ?_))
  obtain ⟨⟨h1, h2⟩, hK⟩ := h
  exact ⟨⟨⟨by omega, by omega⟩, h1, ⟨by omega, by omega⟩⟩, ⟨⟨h1, wok_Note h2⟩, hR _ _ hK⟩⟩
theorem wok_ComeM {w : WS} {r t : Int} (h : wok w) : wok (wComeM w r t) := wok_PlayM (wok_Note h)
theorem wok_ComeI {w : WS} {r : Int} (h : wok w) : wok (wComeI w r) := wok_PlayI (wok_Note h)
