/-! ===== World: loops that ask ===== -/
section WXJ
variable {σ : Type} {enc : σ → XH} {bd : σ → Prop} {M : XI} {rc rs : Nat}
theorem wx_J {T : Nat → Blk σ} (cut : List Nat) (n : Nat) {Po : PS → σ → Prop} {Pt : σ → Prop} {pc : Nat} {L : PL} {st : PS} {s : σ} (hT : ∀ pc, bOk enc bd M rc rs pc (T pc)) (hlt : Nat.blt pc 1000000 = true) (h : ∀ J : JP σ, (∀ v s, Po v s → J 1000000 [] v s) → (∀ pc L st s, wX enc bd M rc rs Po Pt pc L st s → J pc L st s) → T pc (wp T cut J n) L st s) : wX enc bd M rc rs Po Pt pc L st s :=
  wx_go cut n hT hlt (h _ (fun _ _ q => q) (fun _ _ _ _ q => q))
end WXJ
theorem cntI_t {P : Int → Bool} {n : Nat} {i : Int} (h : P i = true) : cntI P (n + 1) i = 1 + cntI P n (i + 1) := by rw [cntI, h]; rfl
theorem cntI_f {P : Int → Bool} {n : Nat} {i : Int} (h : P i = false) : cntI P (n + 1) i = cntI P n (i + 1) := by rw [cntI, h]; simp
-- X1_firstTouched: heads [2]
def tX1_firstTouched : Nat → Blk WS := fun pc => bif Nat.blt pc 25 then (bif Nat.blt pc 2 then (bif Nat.beq pc 0 then (oI 0 <| oIst 3 <| oM [true, true, true, true] (oTo 2)) else oNo) else (bif Nat.beq pc 2 then (oIld 3 <| oAld 0 <| oGet (fgW) 1 11 <| oGet (fgW) 0 3 <| oCGe 31 <| oAld 0 <| oIld 3 <| oIld 1 <| oIld 2 <| oC4 (cW_X1_touches) <| oZEq 25 <| oIld 3 <| oIret) else oNo)) else (bif Nat.blt pc 31 then (bif Nat.beq pc 25 then (oInc 3 1 <| oM [true, true, true, true] (oTo 2)) else oNo) else (bif Nat.beq pc 31 then (oI (-1) <| oIret) else oNo))
theorem tX1_firstTouched_ok : ∀ pc, bOk (encW) (bdW) mX1_firstTouched 0 0 pc (tX1_firstTouched pc) := fun pc => (tNode (tNode (tLeaf (okIc iX1_firstTouched_0 <| okIstn iX1_firstTouched_1 rfl (by decide) <| okM (okTo (tl rfl)))) (tLeaf (okIldn iX1_firstTouched_2 rfl <| okAldn iX1_firstTouched_3 rfl <| okGet (vFgW) iX1_firstTouched_4 <| okGet (vFgW) iX1_firstTouched_7 <| okCGe (tl rfl) iX1_firstTouched_10 <| okAldn iX1_firstTouched_13 rfl <| okIldn iX1_firstTouched_14 rfl <| okIldn iX1_firstTouched_15 rfl <| okIldn iX1_firstTouched_16 rfl <| okC4 (qW_X1_touches iX1_firstTouched_17) <| okZEq (tl rfl) iX1_firstTouched_20 <| okIldn iX1_firstTouched_23 rfl <| okIret iX1_firstTouched_24 rfl))) (tNode (tLeaf (okInc iX1_firstTouched_25 (by decide) <| okGotoM (tl rfl) iX1_firstTouched_28)) (tLeaf (okIc iX1_firstTouched_31 <| okIret iX1_firstTouched_32 rfl)))) pc
-- X1_touchedFrom: heads [6]
def tX1_touchedFrom : Nat → Blk WS := fun pc => bif Nat.blt pc 6 then (bif Nat.beq pc 0 then (oI 0 <| oIst 4 <| oIld 1 <| oIst 5 <| oM [true, false, true, true, true, true] (oTo 6)) else oNo) else (bif Nat.blt pc 43 then (bif Nat.beq pc 6 then (oIld 5 <| oZLt 43 <| oIld 5 <| oAld 0 <| oGet (fgW) 1 11 <| oGet (fgW) 0 3 <| oCGe 43 <| oAld 0 <| oIld 5 <| oIld 2 <| oIld 3 <| oC4 (cW_X1_touches) <| oZEq 43 <| oInc 4 1 <| oInc 5 1 <| oM [true, false, true, true, true, true] (oTo 6)) else oNo) else (bif Nat.beq pc 43 then (oIld 4 <| oIret) else oNo))
theorem tX1_touchedFrom_ok : ∀ pc, bOk (encW) (bdW) mX1_touchedFrom 0 0 pc (tX1_touchedFrom pc) := fun pc => (tNode (tLeaf (okIc iX1_touchedFrom_0 <| okIst iX1_touchedFrom_1 (by decide) <| okIldn iX1_touchedFrom_3 rfl <| okIst iX1_touchedFrom_4 (by decide) <| okM (okTo (tl rfl)))) (tNode (tLeaf (okIld iX1_touchedFrom_6 <| okZLt (tl rfl) iX1_touchedFrom_8 <| okIld iX1_touchedFrom_11 <| okAldn iX1_touchedFrom_13 rfl <| okGet (vFgW) iX1_touchedFrom_14 <| okGet (vFgW) iX1_touchedFrom_17 <| okCGe (tl rfl) iX1_touchedFrom_20 <| okAldn iX1_touchedFrom_23 rfl <| okIld iX1_touchedFrom_24 <| okIldn iX1_touchedFrom_26 rfl <| okIldn iX1_touchedFrom_27 rfl <| okC4 (qW_X1_touches iX1_touchedFrom_28) <| okZEq (tl rfl) iX1_touchedFrom_31 <| okInc iX1_touchedFrom_34 (by decide) <| okInc iX1_touchedFrom_37 (by decide) <| okGotoM (tl rfl) iX1_touchedFrom_40)) (tLeaf (okIld iX1_touchedFrom_43 <| okIret iX1_touchedFrom_45 rfl)))) pc
-- X1_placeFor: heads [2]
def tX1_placeFor : Nat → Blk WS := fun pc => bif Nat.blt pc 48 then (bif Nat.blt pc 2 then (bif Nat.beq pc 0 then (oI 0 <| oIst 3 <| oM [true, true, true, true, false, false] (oTo 2)) else oNo) else (bif Nat.blt pc 47 then (bif Nat.beq pc 2 then (oIld 3 <| oAld 0 <| oGet (fgW) 1 11 <| oGet (fgW) 0 3 <| oCGe 69 <| oAld 0 <| oGet (fgW) 1 11 <| oIld 3 <| oI 0 <| oC3 (cW_X0_get) <| oIst 4 <| oIld 4 <| oIld 1 <| oCNe 47 <| oAld 0 <| oGet (fgW) 1 11 <| oIld 3 <| oI 1 <| oC3 (cW_X0_get) <| oIld 2 <| oCLe 47 <| oI 1 <| oTo 48) else oNo) else (bif Nat.beq pc 47 then (oI 0 <| oTo 48) else oNo))) else (bif Nat.blt pc 63 then (bif Nat.blt pc 61 then (bif Nat.beq pc 48 then (oIst 5 <| oIld 4 <| oIld 1 <| oCGt 61 <| oIld 5 <| oZEq 63 <| oTo 61) else oNo) else (bif Nat.beq pc 61 then (oIld 3 <| oIret) else oNo)) else (bif Nat.blt pc 69 then (bif Nat.beq pc 63 then (oInc 3 1 <| oM [true, true, true, true, false, false] (oTo 2)) else oNo) else (bif Nat.beq pc 69 then (oAld 0 <| oGet (fgW) 1 11 <| oGet (fgW) 0 3 <| oIret) else oNo)))
theorem tX1_placeFor_ok : ∀ pc, bOk (encW) (bdW) mX1_placeFor 0 0 pc (tX1_placeFor pc) := fun pc => (tNode (tNode (tLeaf (okIc iX1_placeFor_0 <| okIstn iX1_placeFor_1 rfl (by decide) <| okM (okTo (tl rfl)))) (tNode (tLeaf (okIldn iX1_placeFor_2 rfl <| okAldn iX1_placeFor_3 rfl <| okGet (vFgW) iX1_placeFor_4 <| okGet (vFgW) iX1_placeFor_7 <| okCGe (tl rfl) iX1_placeFor_10 <| okAldn iX1_placeFor_13 rfl <| okGet (vFgW) iX1_placeFor_14 <| okIldn iX1_placeFor_17 rfl <| okIc iX1_placeFor_18 <| okC3 (qW_X0_get iX1_placeFor_19) <| okIst iX1_placeFor_22 (by decide) <| okIld iX1_placeFor_24 <| okIldn iX1_placeFor_26 rfl <| okCNe (tl rfl) iX1_placeFor_27 <| okAldn iX1_placeFor_30 rfl <| okGet (vFgW) iX1_placeFor_31 <| okIldn iX1_placeFor_34 rfl <| okIc iX1_placeFor_35 <| okC3 (qW_X0_get iX1_placeFor_36) <| okIldn iX1_placeFor_39 rfl <| okCLe (tl rfl) iX1_placeFor_40 <| okIc iX1_placeFor_43 <| okGoto (tl rfl) iX1_placeFor_44)) (tLeaf (okIc iX1_placeFor_47 <| okTo (tl rfl))))) (tNode (tNode (tLeaf (okIst iX1_placeFor_48 (by decide) <| okIld iX1_placeFor_50 <| okIldn iX1_placeFor_52 rfl <| okCGt (tl rfl) iX1_placeFor_53 <| okIld iX1_placeFor_56 <| okZEq (tl rfl) iX1_placeFor_58 <| okTo (tl rfl))) (tLeaf (okIldn iX1_placeFor_61 rfl <| okIret iX1_placeFor_62 rfl))) (tNode (tLeaf (okInc iX1_placeFor_63 (by decide) <| okGotoM (tl rfl) iX1_placeFor_66)) (tLeaf (okAldn iX1_placeFor_69 rfl <| okGet (vFgW) iX1_placeFor_70 <| okGet (vFgW) iX1_placeFor_73 <| okIret iX1_placeFor_76 rfl))))) pc
-- X1_leastMark: heads [4]
def tX1_leastMark : Nat → Blk WS := fun pc => bif Nat.blt pc 55 then (bif Nat.blt pc 4 then (bif Nat.beq pc 0 then (oI (-1) <| oIst 2 <| oI 0 <| oIst 3 <| oM [true, true, true, true, false] (oTo 4)) else oNo) else (bif Nat.blt pc 35 then (bif Nat.beq pc 4 then (oIld 3 <| oAld 0 <| oGet (fgW) 1 10 <| oGet (fgW) 0 3 <| oCGe 68 <| oIld 3 <| oIld 1 <| oCEq 62 <| oAld 0 <| oGet (fgW) 1 10 <| oIld 3 <| oI 2 <| oC3 (cW_X0_get) <| oZEq 35 <| oTo 62) else oNo) else (bif Nat.beq pc 35 then (oAld 0 <| oGet (fgW) 1 10 <| oIld 3 <| oI 0 <| oC3 (cW_X0_get) <| oIst 4 <| oIld 2 <| oZGe 55 <| oIld 4 <| oTo 61) else oNo))) else (bif Nat.blt pc 62 then (bif Nat.blt pc 61 then (bif Nat.beq pc 55 then (oIld 2 <| oIld 4 <| oMin <| oTo 61) else oNo) else (bif Nat.beq pc 61 then (oIst 2 <| oTo 62) else oNo)) else (bif Nat.blt pc 68 then (bif Nat.beq pc 62 then (oInc 3 1 <| oM [true, true, true, true, false] (oTo 4)) else oNo) else (bif Nat.beq pc 68 then (oIld 2 <| oIret) else oNo)))
theorem tX1_leastMark_ok : ∀ pc, bOk (encW) (bdW) mX1_leastMark 0 0 pc (tX1_leastMark pc) := fun pc => (tNode (tNode (tLeaf (okIc iX1_leastMark_0 <| okIstn iX1_leastMark_1 rfl (by decide) <| okIc iX1_leastMark_2 <| okIstn iX1_leastMark_3 rfl (by decide) <| okM (okTo (tl rfl)))) (tNode (tLeaf (okIldn iX1_leastMark_4 rfl <| okAldn iX1_leastMark_5 rfl <| okGet (vFgW) iX1_leastMark_6 <| okGet (vFgW) iX1_leastMark_9 <| okCGe (tl rfl) iX1_leastMark_12 <| okIldn iX1_leastMark_15 rfl <| okIldn iX1_leastMark_16 rfl <| okCEq (tl rfl) iX1_leastMark_17 <| okAldn iX1_leastMark_20 rfl <| okGet (vFgW) iX1_leastMark_21 <| okIldn iX1_leastMark_24 rfl <| okIc iX1_leastMark_25 <| okC3 (qW_X0_get iX1_leastMark_26) <| okZEq (tl rfl) iX1_leastMark_29 <| okGoto (tl rfl) iX1_leastMark_32)) (tLeaf (okAldn iX1_leastMark_35 rfl <| okGet (vFgW) iX1_leastMark_36 <| okIldn iX1_leastMark_39 rfl <| okIc iX1_leastMark_40 <| okC3 (qW_X0_get iX1_leastMark_41) <| okIst iX1_leastMark_44 (by decide) <| okIldn iX1_leastMark_46 rfl <| okZGe (tl rfl) iX1_leastMark_47 <| okIld iX1_leastMark_50 <| okGoto (tl rfl) iX1_leastMark_52)))) (tNode (tNode (tLeaf (okIldn iX1_leastMark_55 rfl <| okIld iX1_leastMark_56 <| okMin iX1_leastMark_58 <| okTo (tl rfl))) (tLeaf (okIstn iX1_leastMark_61 rfl (by decide) <| okTo (tl rfl)))) (tNode (tLeaf (okInc iX1_leastMark_62 (by decide) <| okGotoM (tl rfl) iX1_leastMark_65)) (tLeaf (okIldn iX1_leastMark_68 rfl <| okIret iX1_leastMark_69 rfl))))) pc
-- X1_sentOf: heads [4]
def tX1_sentOf : Nat → Blk WS := fun pc => bif Nat.blt pc 4 then (bif Nat.beq pc 0 then (oI 0 <| oIst 2 <| oI 0 <| oIst 3 <| oM [true, true, true, true] (oTo 4)) else oNo) else (bif Nat.blt pc 28 then (bif Nat.beq pc 4 then (oIld 3 <| oI 6 <| oCGe 28 <| oIld 2 <| oAld 0 <| oGet (fgW) 1 15 <| oIld 3 <| oIld 1 <| oC3 (cW_X0_get) <| oAddW <| oIst 2 <| oInc 3 1 <| oM [true, true, true, true] (oTo 4)) else oNo) else (bif Nat.beq pc 28 then (oIld 2 <| oIret) else oNo))
theorem tX1_sentOf_ok : ∀ pc, bOk (encW) (bdW) mX1_sentOf 0 0 pc (tX1_sentOf pc) := fun pc => (tNode (tLeaf (okIc iX1_sentOf_0 <| okIstn iX1_sentOf_1 rfl (by decide) <| okIc iX1_sentOf_2 <| okIstn iX1_sentOf_3 rfl (by decide) <| okM (okTo (tl rfl)))) (tNode (tLeaf (okIldn iX1_sentOf_4 rfl <| okBi iX1_sentOf_5 (by decide) <| okCGe (tl rfl) iX1_sentOf_7 <| okIldn iX1_sentOf_10 rfl <| okAldn iX1_sentOf_11 rfl <| okGet (vFgW) iX1_sentOf_12 <| okIldn iX1_sentOf_15 rfl <| okIldn iX1_sentOf_16 rfl <| okC3 (qW_X0_get iX1_sentOf_17) <| okAddW iX1_sentOf_20 <| okIstn iX1_sentOf_21 rfl (by decide) <| okInc iX1_sentOf_22 (by decide) <| okGotoM (tl rfl) iX1_sentOf_25)) (tLeaf (okIldn iX1_sentOf_28 rfl <| okIret iX1_sentOf_29 rfl)))) pc
-- X1_dueBehind: heads [8]
def tX1_dueBehind : Nat → Blk WS := fun pc => bif Nat.blt pc 84 then (bif Nat.blt pc 8 then (bif Nat.beq pc 0 then (oI (-1) <| oIst 3 <| oI 0 <| oIst 4 <| oI 0 <| oIst 5 <| oM [true, true, true, true, true, true, false] (oTo 8)) else oNo) else (bif Nat.blt pc 59 then (bif Nat.beq pc 8 then (oIld 5 <| oAld 0 <| oGet (fgW) 1 11 <| oGet (fgW) 0 3 <| oCGe 97 <| oAld 0 <| oIld 5 <| oAld 0 <| oGet (fgW) 1 3 <| oC3 (cW_X1_isRipe) <| oZEq 91 <| oAld 0 <| oIld 5 <| oIld 2 <| oC3 (cW_X1_isRipe) <| oZEq 59 <| oAld 0 <| oIld 5 <| oAld 0 <| oGet (fgW) 1 3 <| oC3 (cW_X1_isOver) <| oZNe 59 <| oTo 91) else oNo) else (bif Nat.beq pc 59 then (oAld 0 <| oIld 5 <| oC2 (cW_X1_turnOf) <| oIst 6 <| oIld 6 <| oIld 1 <| oCLe 91 <| oIld 3 <| oZLt 84 <| oIld 6 <| oIld 4 <| oCGe 91 <| oTo 84) else oNo))) else (bif Nat.blt pc 91 then (bif Nat.beq pc 84 then (oIld 5 <| oIst 3 <| oIld 6 <| oIst 4 <| oTo 91) else oNo) else (bif Nat.blt pc 97 then (bif Nat.beq pc 91 then (oInc 5 1 <| oM [true, true, true, true, true, true, false] (oTo 8)) else oNo) else (bif Nat.beq pc 97 then (oIld 3 <| oIret) else oNo)))
theorem tX1_dueBehind_ok : ∀ pc, bOk (encW) (bdW) mX1_dueBehind 0 0 pc (tX1_dueBehind pc) := fun pc => (tNode (tNode (tLeaf (okIc iX1_dueBehind_0 <| okIstn iX1_dueBehind_1 rfl (by decide) <| okIc iX1_dueBehind_2 <| okIst iX1_dueBehind_3 (by decide) <| okIc iX1_dueBehind_5 <| okIst iX1_dueBehind_6 (by decide) <| okM (okTo (tl rfl)))) (tNode (tLeaf (okIld iX1_dueBehind_8 <| okAldn iX1_dueBehind_10 rfl <| okGet (vFgW) iX1_dueBehind_11 <| okGet (vFgW) iX1_dueBehind_14 <| okCGe (tl rfl) iX1_dueBehind_17 <| okAldn iX1_dueBehind_20 rfl <| okIld iX1_dueBehind_21 <| okAldn iX1_dueBehind_23 rfl <| okGet (vFgW) iX1_dueBehind_24 <| okC3 (qW_X1_isRipe iX1_dueBehind_27) <| okZEq (tl rfl) iX1_dueBehind_30 <| okAldn iX1_dueBehind_33 rfl <| okIld iX1_dueBehind_34 <| okIldn iX1_dueBehind_36 rfl <| okC3 (qW_X1_isRipe iX1_dueBehind_37) <| okZEq (tl rfl) iX1_dueBehind_40 <| okAldn iX1_dueBehind_43 rfl <| okIld iX1_dueBehind_44 <| okAldn iX1_dueBehind_46 rfl <| okGet (vFgW) iX1_dueBehind_47 <| okC3 (qW_X1_isOver iX1_dueBehind_50) <| okZNe (tl rfl) iX1_dueBehind_53 <| okGoto (tl rfl) iX1_dueBehind_56)) (tLeaf (okAldn iX1_dueBehind_59 rfl <| okIld iX1_dueBehind_60 <| okC2 (qW_X1_turnOf iX1_dueBehind_62) <| okIst iX1_dueBehind_65 (by decide) <| okIld iX1_dueBehind_67 <| okIldn iX1_dueBehind_69 rfl <| okCLe (tl rfl) iX1_dueBehind_70 <| okIldn iX1_dueBehind_73 rfl <| okZLt (tl rfl) iX1_dueBehind_74 <| okIld iX1_dueBehind_77 <| okIld iX1_dueBehind_79 <| okCGe (tl rfl) iX1_dueBehind_81 <| okTo (tl rfl))))) (tNode (tLeaf (okIld iX1_dueBehind_84 <| okIstn iX1_dueBehind_86 rfl (by decide) <| okIld iX1_dueBehind_87 <| okIst iX1_dueBehind_89 (by decide) <| okTo (tl rfl))) (tNode (tLeaf (okInc iX1_dueBehind_91 (by decide) <| okGotoM (tl rfl) iX1_dueBehind_94)) (tLeaf (okIldn iX1_dueBehind_97 rfl <| okIret iX1_dueBehind_98 rfl))))) pc
def wRipens (w : WS) (p : Int) : Int → Bool := fun i => decide (¬ wRipe w i (w.1 3) ∧ wRipe w i p)
def wRipening (w : WS) (p : Int) : Int := cntI (wRipens w p) (wZ w 1).toNat 0
theorem X1_ripening_loop {K : KW} {Pt : WS → Prop} (s : WS) (p : Int) (hp : xB p) (hb : bdW s) : ∀ (m : Nat) (i n : Int), 0 ≤ i → i ≤ max 0 (wZ s 1) → m = (wZ s 1 - i).toNat → K [pI (n + cntI (wRipens s p) m i)] s → wX encW bdW mX1_ripening 0 0 K Pt 4 [some (pR 0), some (pI p), some (pI n), some (pI i)] [] s := by
  intro m
  have hz : xB (wZ s 1) := (hb.2 1).1
  induction m with
  | zero =>
    intro i n h0 h1 hm hK
    refine wx_J [4] 9 tX1_ripening_ok rfl (fun J hR hJ => ?_)
    rw [cntI, Int.add_zero] at hK
    intro _
    refine ⟨⟨⟨by omega, by omega⟩, hz⟩, fun _ => hR _ _ hK, fun c => ?_⟩
    have c : i < wZ s 1 := c
    omega
  | succ m ih =>
    intro i n h0 h1 hm hK
    refine wx_J [4] 9 tX1_ripening_ok rfl (fun J hR hJ => ?_)
    have g0 := ih (i + 1) n (by omega) (by omega) (by omega)
    have g1 := ih (i + 1) (n + 1) (by omega) (by omega) (by omega)
    have e0 : (¬ wRipe s i (s.1 3) ∧ wRipe s i p) → K [pI (n + 1 + cntI (wRipens s p) m (i + 1))] s := fun c => by
      rw [cntI_t (decide_eq_true c), ← Int.add_assoc] at hK; exact hK
    have e1 : ¬ (¬ wRipe s i (s.1 3) ∧ wRipe s i p) → K [pI (n + cntI (wRipens s p) m (i + 1))] s := fun c => by
      rw [cntI_f (decide_eq_false c)] at hK; exact hK
    intro _
    refine ⟨⟨⟨by omega, by omega⟩, hz⟩, fun c => ?_, fun c => ?_⟩
    · have c : wZ s 1 ≤ i := c
      omega
    · repeat' (first | (refine And.intro ?_ ?_) | intro _)
      all_goals first | omega | exact hJ _ _ _ _ (g0 (e1 (by omega))) | exact hJ _ _ _ _ (g1 (e0 (by omega)))
def sX1_ripening : Int → WS → KW → Prop := fun p s K => xB p ∧ (xB (wRipening s p) → K [pI (wRipening s p)] s)
theorem mX1_ripening_ok : mOk encW bdW mX1_ripening (atR 0 (a1 sX1_ripening)) := by
  refine mOVa1 kX1_ripening (fun _ => rfl) (fun p s K h hb => wx_J [4] 9 tX1_ripening_ok rfl (fun J hR hJ => ?_))
  obtain ⟨h1, h2⟩ := h
  have hz : xB (wZ s 1) := (hb.2 1).1
  have hc := cntI_b (wRipens s p) (wZ s 1).toNat 0
  have hK := h2 ⟨by unfold wRipening; omega, by unfold wRipening; omega⟩
  exact hJ _ _ _ _ (X1_ripening_loop s p h1 hb (wZ s 1).toNat 0 0 (by omega) (by omega) (by omega) (by rw [Int.zero_add]; exact hK))
def ftL (w : WS) (k t : Int) : Nat → Int → Int
  | 0, _ => -1
  | n + 1, i => if wTouch w i k t then i else ftL w k t n (i + 1)
def wFirst (w : WS) (k t : Int) : Int := ftL w k t (wZ w 1).toNat 0
theorem ftL_b (w : WS) (k t : Int) : ∀ (n : Nat) (i : Int), 0 ≤ i → -1 ≤ ftL w k t n i ∧ ftL w k t n i < i + n ∧ (ftL w k t n i = -1 ∨ i ≤ ftL w k t n i)
  | 0, i, h => by unfold ftL; omega
  | n + 1, i, h => by
    have := ftL_b w k t n (i + 1) (by omega)
    unfold ftL
    split <;> omega
theorem X1_firstTouched_loop {K : KW} {Pt : WS → Prop} (s : WS) (k t : Int) (hk : xB k) (ht : xB t) (hb : bdW s) : ∀ (m : Nat) (i : Int), 0 ≤ i → i ≤ max 0 (wZ s 1) → m = (wZ s 1 - i).toNat → K [pI (ftL s k t m i)] s → wX encW bdW mX1_firstTouched 0 0 K Pt 2 [some (pR 0), some (pI k), some (pI t), some (pI i)] [] s := by
  intro m
  have hz : xB (wZ s 1) := (hb.2 1).1
  induction m with
  | zero =>
    intro i h0 h1 hm hK
    refine wx_J [2] 9 tX1_firstTouched_ok rfl (fun J hR hJ => ?_)
    intro _
    refine ⟨⟨⟨by omega, by omega⟩, hz⟩, fun _ => hR _ _ hK, fun c => ?_⟩
    have c : i < wZ s 1 := c
    omega
  | succ m ih =>
    intro i h0 h1 hm hK
    refine wx_J [2] 9 tX1_firstTouched_ok rfl (fun J hR hJ => ?_)
    have g0 := ih (i + 1) (by omega) (by omega) (by omega)
    rw [ftL] at hK
    intro _
    refine ⟨⟨⟨by omega, by omega⟩, hz⟩, fun c => ?_, fun c => ?_⟩
    · have c : wZ s 1 ≤ i := c
      omega
    · refine ⟨⟨⟨by omega, by omega⟩, hk, ht⟩, fun c1 => ?_, fun c1 => ?_⟩
      · rw [if_pos c1] at hK
        repeat' (first | (refine And.intro ?_ ?_) | intro _)
        all_goals first | omega | exact hR _ _ hK
      · rw [if_neg c1] at hK
        repeat' (first | (refine And.intro ?_ ?_) | intro _)
        all_goals first | omega | exact hJ _ _ _ _ (g0 hK)
def sX1_firstTouched : Int → Int → WS → KW → Prop := fun k t s K => (xB k ∧ xB t) ∧ (xB (wFirst s k t) → K [pI (wFirst s k t)] s)
theorem mX1_firstTouched_ok : mOk encW bdW mX1_firstTouched (atR 0 (a2 sX1_firstTouched)) := by
  refine mOVa2 kX1_firstTouched (fun _ _ => rfl) (fun k t s K h hb => wx_J [2] 9 tX1_firstTouched_ok rfl (fun J hR hJ => ?_))
  obtain ⟨⟨h1, h3⟩, h2⟩ := h
  have hz : xB (wZ s 1) := (hb.2 1).1
  have hc := ftL_b s k t (wZ s 1).toNat 0 (by omega)
  have hK := h2 ⟨by unfold wFirst; omega, by unfold wFirst; omega⟩
  exact hJ _ _ _ _ (X1_firstTouched_loop s k t h1 h3 hb (wZ s 1).toNat 0 (by omega) (by omega) (by omega) hK)
def tfL (w : WS) (k t : Int) : Nat → Int → Int
  | 0, _ => 0
  | n + 1, i => if wTouch w i k t then 1 + tfL w k t n (i + 1) else 0
/-- how many touch from a place on -/
def wMany (w : WS) (f k t : Int) : Int := if 0 ≤ f then tfL w k t (wZ w 1 - f).toNat f else 0
theorem tfL_b (w : WS) (k t : Int) : ∀ (n : Nat) (i : Int), 0 ≤ tfL w k t n i ∧ tfL w k t n i ≤ n
  | 0, i => by simp [tfL]
  | n + 1, i => by
    have := tfL_b w k t n (i + 1)
    unfold tfL
    split <;> omega
theorem X1_touchedFrom_loop {K : KW} {Pt : WS → Prop} (s : WS) (f k t : Int) (hk : xB k) (ht : xB t) (hb : bdW s) : ∀ (m : Nat) (i n : Int), 0 ≤ i → xB i → m = (wZ s 1 - i).toNat → K [pI (n + tfL s k t m i)] s → wX encW bdW mX1_touchedFrom 0 0 K Pt 6 [some (pR 0), none, some (pI k), some (pI t), some (pI n), some (pI i)] [] s := by
  intro m
  have hz : xB (wZ s 1) := (hb.2 1).1
  induction m with
  | zero =>
    intro i n h0 h1 hm hK
    refine wx_J [6] 9 tX1_touchedFrom_ok rfl (fun J hR hJ => ?_)
    rw [tfL, Int.add_zero] at hK
    refine ⟨h1, fun c => absurd c (by omega), fun c1 _ => ⟨⟨h1, hz⟩, fun _ => hR _ _ hK, fun c => ?_⟩⟩
    have c : i < wZ s 1 := c
    omega
  | succ m ih =>
    intro i n h0 h1 hm hK
    refine wx_J [6] 9 tX1_touchedFrom_ok rfl (fun J hR hJ => ?_)
    have g0 := ih (i + 1) (n + 1) (by omega) ⟨by omega, by omega⟩ (by omega)
    rw [tfL] at hK
    refine ⟨h1, fun c => absurd c (by omega), fun c1 _ => ⟨⟨h1, hz⟩, fun c => ?_, fun c => ?_⟩⟩
    · have c : wZ s 1 ≤ i := c
      omega
    · refine ⟨⟨h1, hk, ht⟩, fun c1 => ?_, fun c1 => ?_⟩
      · rw [if_pos c1, ← Int.add_assoc] at hK
        repeat' (first | (refine And.intro ?_ ?_) | intro _)
        all_goals first | omega | exact hJ _ _ _ _ (g0 hK)
      · rw [if_neg c1, Int.add_zero] at hK
        repeat' (first | (refine And.intro ?_ ?_) | intro _)
        all_goals first | omega | exact hR _ _ hK
def sX1_touchedFrom : Int → Int → Int → WS → KW → Prop := fun f k t s K => (xB f ∧ xB k ∧ xB t) ∧ (xB (wMany s f k t) → K [pI (wMany s f k t)] s)
theorem mX1_touchedFrom_ok : mOk encW bdW mX1_touchedFrom (atR 0 (a3 sX1_touchedFrom)) := by
  refine mOVa3 kX1_touchedFrom (fun _ _ _ => rfl) (fun f k t s K h hb => wx_J [6] 9 tX1_touchedFrom_ok rfl (fun J hR hJ => ?_))
  obtain ⟨⟨h1, h3, h4⟩, h2⟩ := h
  have hz : xB (wZ s 1) := (hb.2 1).1
  have hc := tfL_b s k t (wZ s 1 - f).toNat f
  by_cases c : 0 ≤ f
  · have hK := h2 ⟨by unfold wMany; rw [if_pos c]; omega, by unfold wMany; rw [if_pos c]; omega⟩
    rw [wMany, if_pos c] at hK
    exact hJ _ _ _ _ (X1_touchedFrom_loop s f k t h3 h4 hb _ f 0 c h1 rfl (by rw [Int.zero_add]; exact hK))
  · have hK := h2 ⟨by unfold wMany; rw [if_neg c]; omega, by unfold wMany; rw [if_neg c]; omega⟩
    rw [wMany, if_neg c] at hK
    refine hJ _ _ _ _ (wx_J [6] 9 tX1_touchedFrom_ok rfl (fun J hR hJ => ?_))
    repeat' (first | (refine And.intro ?_ ?_) | intro _)
    all_goals first | omega | exact hR _ _ hK
def pfL (w : WS) (k t : Int) : Nat → Int → Int
  | 0, i => i
  | n + 1, i => if k < wG w 1 i 0 ∨ (wG w 1 i 0 = k ∧ t < wG w 1 i 1) then i else pfL w k t n (i + 1)
def wPlace (w : WS) (k t : Int) : Int := pfL w k t (wZ w 1).toNat 0
theorem pfL_b (w : WS) (k t : Int) : ∀ (n : Nat) (i : Int), i ≤ pfL w k t n i ∧ pfL w k t n i ≤ i + n
  | 0, i => by simp [pfL]
  | n + 1, i => by
    have := pfL_b w k t n (i + 1)
    unfold pfL
    split <;> omega
theorem X1_placeFor_loop {K : KW} {Pt : WS → Prop} (s : WS) (k t : Int) (hk : xB k) (ht : xB t) (hb : bdW s) (h00 : 0 ≤ wZ s 1) : ∀ (m : Nat) (i : Int), 0 ≤ i → i ≤ wZ s 1 → m = (wZ s 1 - i).toNat → K [pI (pfL s k t m i)] s → wX encW bdW mX1_placeFor 0 0 K Pt 2 [some (pR 0), some (pI k), some (pI t), some (pI i), none, none] [] s := by
  intro m
  have hz : xB (wZ s 1) := (hb.2 1).1
  induction m with
  | zero =>
    intro i h0 h1 hm hK
    refine wx_J [2] 9 tX1_placeFor_ok rfl (fun J hR hJ => ?_)
    intro _
    refine ⟨⟨⟨by omega, by omega⟩, hz⟩, fun _ _ => hR _ _ ?_, fun c => ?_⟩
    · have e : i = wZ s 1 := by omega
      rw [pfL, e] at hK
      exact hK
    · have c : i < wZ s 1 := c
      omega
  | succ m ih =>
    intro i h0 h1 hm hK
    refine wx_J [2] 9 tX1_placeFor_ok rfl (fun J hR hJ => ?_)
    have g0 := ih (i + 1) (by omega) (by omega) (by omega)
    rw [pfL] at hK
    intro _
    refine ⟨⟨⟨by omega, by omega⟩, hz⟩, fun c => ?_, fun c => ?_⟩
    · have c : wZ s 1 ≤ i := c
      omega
    · have eT : (k < wG s 1 i 0 ∨ (wG s 1 i 0 = k ∧ t < wG s 1 i 1)) → K [pI i] s := fun c1 => by rw [if_pos c1] at hK; exact hK
      have eF : ¬ (k < wG s 1 i 0 ∨ (wG s 1 i 0 = k ∧ t < wG s 1 i 1)) → K [pI (pfL s k t m (i + 1))] s := fun c1 => by rw [if_neg c1] at hK; exact hK
      repeat' (first | (refine And.intro ?_ ?_) | intro _)
      all_goals first | omega | exact hR _ _ (eT (by omega)) | exact hJ _ _ _ _ (g0 (eF (by omega)))
def sX1_placeFor : Int → Int → WS → KW → Prop := fun k t s K => (xB k ∧ xB t ∧ 0 ≤ wZ s 1) ∧ (xB (wPlace s k t) → K [pI (wPlace s k t)] s)
theorem mX1_placeFor_ok : mOk encW bdW mX1_placeFor (atR 0 (a2 sX1_placeFor)) := by
  refine mOVa2 kX1_placeFor (fun _ _ => rfl) (fun k t s K h hb => wx_J [2] 9 tX1_placeFor_ok rfl (fun J hR hJ => ?_))
  obtain ⟨⟨h1, h3, h4⟩, h2⟩ := h
  have hz : xB (wZ s 1) := (hb.2 1).1
  have hc := pfL_b s k t (wZ s 1).toNat 0
  have hK := h2 ⟨by unfold wPlace; omega, by unfold wPlace; omega⟩
  exact hJ _ _ _ _ (X1_placeFor_loop s k t h1 h3 hb h4 (wZ s 1).toNat 0 (by omega) (by omega) (by omega) hK)
