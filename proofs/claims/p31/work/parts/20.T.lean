/-! ===== Table: room, width, cells, size ===== -/
abbrev TS : Type := Int × (Nat → Int)
def encT (rm w : Int) (s : TS) : XH := [xO 0 [xi rm, xi w, .ref 1, xi s.1], xA (rm * w).toNat s.2]
def bdT (rm w : Int) (s : TS) : Prop := (0 ≤ rm ∧ rm ≤ 1000 ∧ 0 ≤ w ∧ w ≤ 100) ∧ xB s.1 ∧ ∀ k, xB (s.2 k)
def fgT (rm w : Int) : FG TS := fun s r ci k => bif Nat.beq r 0 then (bif Nat.beq ci 0 then xl_n [pI rm, pI w, pR 1, pI s.1] k else none) else none
def fpT (_rm _w : Int) : FP TS := fun s r ci k z => bif Nat.beq r 0 then (bif Nat.beq ci 0 then (bif Nat.beq k 3 then some (z, s.2) else none) else none) else none
def agT (rm w : Int) : AG TS := fun s r => bif Nat.beq r 1 then some (0, (rm * w).toNat, s.2) else none
def apT (_rm _w : Int) : AP TS := fun s _ g => (s.1, g)
theorem bN {α : Type} {b : Bool} {x : Option α} {v : α} (h : (bif b then x else none) = some v) : b = true ∧ x = some v := by
  cases b with
  | false => cases h
  | true => exact ⟨rfl, h⟩
theorem nB {a b : Nat} (h : Nat.beq a b = true) : a = b := Nat.eq_of_beq_eq_true h
theorem mulle {a b c d : Int} (h0 : 0 ≤ a) (h1 : a ≤ c) (h2 : 0 ≤ b) (h3 : b ≤ d) : 0 ≤ a * b ∧ a * b ≤ c * d := by
  have e1 := Int.mul_nonneg h0 h2
  have e2 := Int.mul_le_mul h1 h3 h2 (by omega)
  exact ⟨e1, e2⟩
theorem vFgT (rm w : Int) : vFg (encT rm w) (bdT rm w) (fgT rm w) := by
  intro s r ci k v hb h
  obtain ⟨h1, h⟩ := bN h
  obtain ⟨h2, h⟩ := bN h
  have h1 := nB h1
  have h2 := nB h2
  subst h1; subst h2
  obtain ⟨⟨b1, b2, b3, b4⟩, b5, b6⟩ := hb
  match k, h with
  | 0, h => cases h; exact ⟨_, _, rfl, rfl, rfl, fun z e => by cases e; exact ⟨by omega, by omega⟩⟩
  | 1, h => cases h; exact ⟨_, _, rfl, rfl, rfl, fun z e => by cases e; exact ⟨by omega, by omega⟩⟩
  | 2, h => cases h; exact ⟨_, _, rfl, rfl, rfl, fun z e => by cases e⟩
  | 3, h => cases h; exact ⟨_, _, rfl, rfl, rfl, fun z e => by cases e; exact b5⟩
theorem vFpT (rm w : Int) : vFp (encT rm w) (bdT rm w) (fpT rm w) := by
  intro s r ci k z s' hb hz h
  obtain ⟨h1, h⟩ := bN h
  obtain ⟨h2, h⟩ := bN h
  obtain ⟨h3, h⟩ := bN h
  have h1 := nB h1
  have h2 := nB h2
  have h3 := nB h3
  subst h1; subst h2; subst h3
  cases h
  exact ⟨_, rfl, Nat.lt_succ_self 3, rfl, hb.1, hz, hb.2.2⟩
theorem vAgT (rm w : Int) : vAg (encT rm w) (bdT rm w) (agT rm w) (apT rm w) := by
  intro s r t n g hb h
  obtain ⟨h1, h⟩ := bN h
  have h1 := nB h1
  subst h1
  cases h
  obtain ⟨⟨b1, b2, b3, b4⟩, b5, b6⟩ := hb
  have := mulle b1 b2 b3 b4
  exact ⟨by omega, b6, rfl, fun g' hg => ⟨⟨⟨b1, b2, b3, b4⟩, b5, hg⟩, rfl⟩⟩
theorem tcl : ∃ T N, vwCl[0]? = some (RX0, T, N) := ⟨_, _, rfl⟩
theorem wcl : ∃ T N, vwCl[1]? = some (RX1, T, N) := ⟨_, _, rfl⟩
theorem lcl : ∃ T N, vwCl[2]? = some (RX2, T, N) := ⟨_, _, rfl⟩
theorem mcl : ∃ T N, vwCl[3]? = some (RX3, T, N) := ⟨_, _, rfl⟩
/-- a cell; one that is not there reads 0 -/
def tin (rm w i c : Int) : Prop := 0 ≤ i ∧ i < rm ∧ 0 ≤ c ∧ c < w
theorem tin_b {rm w i c : Int} (h : tin rm w i c) : 0 ≤ i * w ∧ 0 ≤ i * w + c ∧ i * w + c < rm * w := by
  obtain ⟨h0, h1, h2, h3⟩ := h
  have e1 : 0 ≤ i * w := Int.mul_nonneg h0 (by omega)
  have e2 : (i + 1) * w ≤ rm * w := Int.mul_le_mul_of_nonneg_right (by omega) (by omega)
  rw [Int.add_mul] at e2
  omega
def tg (rm w : Int) (g : Nat → Int) (i c : Int) : Int := if 0 ≤ i ∧ i < rm ∧ 0 ≤ c ∧ c < w then g (i * w + c).toNat else 0
def ts (rm w : Int) (g : Nat → Int) (i c v : Int) : Nat → Int := if 0 ≤ i ∧ i < rm ∧ 0 ≤ c ∧ c < w then xup g (i * w + c).toNat v else g
-- X0_get: heads []
def tX0_get (rm w : Int) : Nat → Blk TS := fun pc => bif Nat.blt pc 24 then (bif Nat.beq pc 0 then (oIld 1 <| oZLt 24 <| oIld 1 <| oAld 0 <| oGet (fgT rm w) 0 0 <| oCGe 24 <| oIld 2 <| oZLt 24 <| oIld 2 <| oAld 0 <| oGet (fgT rm w) 0 1 <| oCLt 26 <| oTo 24) else oNo) else (bif Nat.blt pc 26 then (bif Nat.beq pc 24 then (oI 0 <| oIret) else oNo) else (bif Nat.beq pc 26 then (oAld 0 <| oGet (fgT rm w) 0 2 <| oIld 1 <| oAld 0 <| oGet (fgT rm w) 0 1 <| oMul <| oIld 2 <| oAdd <| oIa (agT rm w) <| oIret) else oNo))
theorem tX0_get_ok (rm w : Int) : ∀ pc, bOk (encT rm w) (bdT rm w) mX0_get 0 0 pc (tX0_get rm w pc) := fun pc => (tNode (tLeaf (okIldn iX0_get_0 rfl <| okZLt (tl rfl) iX0_get_1 <| okIldn iX0_get_4 rfl <| okAldn iX0_get_5 rfl <| okGet (vFgT rm w) iX0_get_6 <| okCGe (tl rfl) iX0_get_9 <| okIldn iX0_get_12 rfl <| okZLt (tl rfl) iX0_get_13 <| okIldn iX0_get_16 rfl <| okAldn iX0_get_17 rfl <| okGet (vFgT rm w) iX0_get_18 <| okCLt (tl rfl) iX0_get_21 <| okTo (tl rfl))) (tNode (tLeaf (okIc iX0_get_24 <| okIret iX0_get_25 rfl)) (tLeaf (okAldn iX0_get_26 rfl <| okGet (vFgT rm w) iX0_get_27 <| okIldn iX0_get_30 rfl <| okAldn iX0_get_31 rfl <| okGet (vFgT rm w) iX0_get_32 <| okMul iX0_get_35 <| okIldn iX0_get_36 rfl <| okAdd iX0_get_37 <| okIa (vAgT rm w) iX0_get_38 <| okIret iX0_get_39 rfl)))) pc
-- X0_set: heads []
def tX0_set (rm w : Int) : Nat → Blk TS := fun pc => bif Nat.blt pc 38 then (bif Nat.beq pc 0 then (oIld 1 <| oZLt 38 <| oIld 1 <| oAld 0 <| oGet (fgT rm w) 0 0 <| oCGe 38 <| oIld 2 <| oZLt 38 <| oIld 2 <| oAld 0 <| oGet (fgT rm w) 0 1 <| oCGe 38 <| oAld 0 <| oGet (fgT rm w) 0 2 <| oIld 1 <| oAld 0 <| oGet (fgT rm w) 0 1 <| oMul <| oIld 2 <| oAdd <| oIld 3 <| oIas (agT rm w) (apT rm w) <| oTo 38) else oNo) else (bif Nat.beq pc 38 then (oVret) else oNo)
theorem tX0_set_ok (rm w : Int) : ∀ pc, bOk (encT rm w) (bdT rm w) mX0_set 0 0 pc (tX0_set rm w pc) := fun pc => (tNode (tLeaf (okIldn iX0_set_0 rfl <| okZLt (tl rfl) iX0_set_1 <| okIldn iX0_set_4 rfl <| okAldn iX0_set_5 rfl <| okGet (vFgT rm w) iX0_set_6 <| okCGe (tl rfl) iX0_set_9 <| okIldn iX0_set_12 rfl <| okZLt (tl rfl) iX0_set_13 <| okIldn iX0_set_16 rfl <| okAldn iX0_set_17 rfl <| okGet (vFgT rm w) iX0_set_18 <| okCGe (tl rfl) iX0_set_21 <| okAldn iX0_set_24 rfl <| okGet (vFgT rm w) iX0_set_25 <| okIldn iX0_set_28 rfl <| okAldn iX0_set_29 rfl <| okGet (vFgT rm w) iX0_set_30 <| okMul iX0_set_33 <| okIldn iX0_set_34 rfl <| okAdd iX0_set_35 <| okIldn iX0_set_36 rfl <| okIas (vAgT rm w) iX0_set_37 <| okTo (tl rfl))) (tLeaf (okVret iX0_set_38 rfl))) pc
-- X0_add: heads []
def tX0_add (rm w : Int) : Nat → Blk TS := fun pc => bif Nat.blt pc 41 then (bif Nat.beq pc 0 then (oIld 1 <| oZLt 41 <| oIld 1 <| oAld 0 <| oGet (fgT rm w) 0 0 <| oCGe 41 <| oIld 2 <| oZLt 41 <| oIld 2 <| oAld 0 <| oGet (fgT rm w) 0 1 <| oCGe 41 <| oAld 0 <| oGet (fgT rm w) 0 2 <| oIld 1 <| oAld 0 <| oGet (fgT rm w) 0 1 <| oMul <| oIld 2 <| oAdd <| oDup2 <| oIa (agT rm w) <| oIld 3 <| oAddW <| oIas (agT rm w) (apT rm w) <| oTo 41) else oNo) else (bif Nat.beq pc 41 then (oVret) else oNo)
theorem tX0_add_ok (rm w : Int) : ∀ pc, bOk (encT rm w) (bdT rm w) mX0_add 0 0 pc (tX0_add rm w pc) := fun pc => (tNode (tLeaf (okIldn iX0_add_0 rfl <| okZLt (tl rfl) iX0_add_1 <| okIldn iX0_add_4 rfl <| okAldn iX0_add_5 rfl <| okGet (vFgT rm w) iX0_add_6 <| okCGe (tl rfl) iX0_add_9 <| okIldn iX0_add_12 rfl <| okZLt (tl rfl) iX0_add_13 <| okIldn iX0_add_16 rfl <| okAldn iX0_add_17 rfl <| okGet (vFgT rm w) iX0_add_18 <| okCGe (tl rfl) iX0_add_21 <| okAldn iX0_add_24 rfl <| okGet (vFgT rm w) iX0_add_25 <| okIldn iX0_add_28 rfl <| okAldn iX0_add_29 rfl <| okGet (vFgT rm w) iX0_add_30 <| okMul iX0_add_33 <| okIldn iX0_add_34 rfl <| okAdd iX0_add_35 <| okDup2 iX0_add_36 <| okIa (vAgT rm w) iX0_add_37 <| okIldn iX0_add_38 rfl <| okAddW iX0_add_39 <| okIas (vAgT rm w) iX0_add_40 <| okTo (tl rfl))) (tLeaf (okVret iX0_add_41 rfl))) pc
-- X0_clear: heads []
def tX0_clear (rm w : Int) : Nat → Blk TS := fun pc => bif Nat.beq pc 0 then (oAld 0 <| oI 0 <| oPut (fpT rm w) 0 3 <| oVret) else oNo
theorem tX0_clear_ok (rm w : Int) : ∀ pc, bOk (encT rm w) (bdT rm w) mX0_clear 0 0 pc (tX0_clear rm w pc) := fun pc => (tLeaf (okAldn iX0_clear_0 rfl <| okIc iX0_clear_1 <| okPut (vFpT rm w) iX0_clear_2 <| okVret iX0_clear_5 rfl)) pc
-- X0_reach: heads []
def tX0_reach (rm w : Int) : Nat → Blk TS := fun pc => bif Nat.blt pc 23 then (bif Nat.beq pc 0 then (oIld 1 <| oAld 0 <| oGet (fgT rm w) 0 3 <| oCLt 23 <| oIld 1 <| oAld 0 <| oGet (fgT rm w) 0 0 <| oCGe 23 <| oAld 0 <| oIld 1 <| oI 1 <| oAdd <| oPut (fpT rm w) 0 3 <| oTo 23) else oNo) else (bif Nat.beq pc 23 then (oVret) else oNo)
theorem tX0_reach_ok (rm w : Int) : ∀ pc, bOk (encT rm w) (bdT rm w) mX0_reach 0 0 pc (tX0_reach rm w pc) := fun pc => (tNode (tLeaf (okIldn iX0_reach_0 rfl <| okAldn iX0_reach_1 rfl <| okGet (vFgT rm w) iX0_reach_2 <| okCLt (tl rfl) iX0_reach_5 <| okIldn iX0_reach_8 rfl <| okAldn iX0_reach_9 rfl <| okGet (vFgT rm w) iX0_reach_10 <| okCGe (tl rfl) iX0_reach_13 <| okAldn iX0_reach_16 rfl <| okIldn iX0_reach_17 rfl <| okIc iX0_reach_18 <| okAdd iX0_reach_19 <| okPut (vFpT rm w) iX0_reach_20 <| okTo (tl rfl))) (tLeaf (okVret iX0_reach_23 rfl))) pc
-- X0_drop: heads []
def tX0_drop (rm w : Int) : Nat → Blk TS := fun pc => bif Nat.blt pc 12 then (bif Nat.beq pc 0 then (oIld 1 <| oZLt 12 <| oIld 1 <| oAld 0 <| oGet (fgT rm w) 0 3 <| oCLt 13 <| oTo 12) else oNo) else (bif Nat.blt pc 13 then (bif Nat.beq pc 12 then (oVret) else oNo) else (bif Nat.beq pc 13 then (oAld 0 <| oGet (fgT rm w) 0 2 <| oIld 1 <| oI 1 <| oAdd <| oAld 0 <| oGet (fgT rm w) 0 1 <| oMul <| oAld 0 <| oGet (fgT rm w) 0 2 <| oIld 1 <| oAld 0 <| oGet (fgT rm w) 0 1 <| oMul <| oAld 0 <| oGet (fgT rm w) 0 3 <| oIld 1 <| oSub <| oI 1 <| oSub <| oAld 0 <| oGet (fgT rm w) 0 1 <| oMul <| oCpy (agT rm w) (apT rm w) <| oAld 0 <| oDup <| oGet (fgT rm w) 0 3 <| oI 1 <| oSub <| oPut (fpT rm w) 0 3 <| oVret) else oNo))
theorem tX0_drop_ok (rm w : Int) : ∀ pc, bOk (encT rm w) (bdT rm w) mX0_drop 0 0 pc (tX0_drop rm w pc) := fun pc => (tNode (tLeaf (okIldn iX0_drop_0 rfl <| okZLt (tl rfl) iX0_drop_1 <| okIldn iX0_drop_4 rfl <| okAldn iX0_drop_5 rfl <| okGet (vFgT rm w) iX0_drop_6 <| okCLt (tl rfl) iX0_drop_9 <| okTo (tl rfl))) (tNode (tLeaf (okVret iX0_drop_12 rfl)) (tLeaf (okAldn iX0_drop_13 rfl <| okGet (vFgT rm w) iX0_drop_14 <| okIldn iX0_drop_17 rfl <| okIc iX0_drop_18 <| okAdd iX0_drop_19 <| okAldn iX0_drop_20 rfl <| okGet (vFgT rm w) iX0_drop_21 <| okMul iX0_drop_24 <| okAldn iX0_drop_25 rfl <| okGet (vFgT rm w) iX0_drop_26 <| okIldn iX0_drop_29 rfl <| okAldn iX0_drop_30 rfl <| okGet (vFgT rm w) iX0_drop_31 <| okMul iX0_drop_34 <| okAldn iX0_drop_35 rfl <| okGet (vFgT rm w) iX0_drop_36 <| okIldn iX0_drop_39 rfl <| okSub iX0_drop_40 <| okIc iX0_drop_41 <| okSub iX0_drop_42 <| okAldn iX0_drop_43 rfl <| okGet (vFgT rm w) iX0_drop_44 <| okMul iX0_drop_47 <| okCpy (vAgT rm w) iX0_drop_48 <| okAldn iX0_drop_51 rfl <| okDup iX0_drop_52 <| okGet (vFgT rm w) iX0_drop_53 <| okIc iX0_drop_56 <| okSub iX0_drop_57 <| okPut (vFpT rm w) iX0_drop_58 <| okVret iX0_drop_61 rfl)))) pc
abbrev KT : Type := PS → TS → Prop
def sX0_get (rm w : Int) : Int → Int → TS → KT → Prop := fun i c s K => (xB i ∧ xB c) ∧ K [pI (tg rm w s.2 i c)] s
theorem mX0_get_ok (rm w : Int) : mOk (encT rm w) (bdT rm w) mX0_get (atR 0 (a2 (sX0_get rm w))) := by
  refine mOVa2 kX0_get (fun _ _ => rfl) (fun i c s K h hb => wx_go [] 9 (tX0_get_ok rm w) rfl ?_)
  obtain ⟨⟨hi, hc⟩, hK⟩ := h
  obtain ⟨⟨b1, b2, b3, b4⟩, b5, b6⟩ := hb
  by_cases q : 0 ≤ i ∧ i < rm ∧ 0 ≤ c ∧ c < w
  · obtain ⟨e1, e2, e3⟩ := tin_b q
    rw [show tg rm w s.2 i c = s.2 (i * w + c).toNat from if_pos q] at hK
    repeat' (first | (refine And.intro ?_ ?_) | intro _)
    all_goals first | omega | exact hK | (dsimp only [apT]; omega)
  · rw [show tg rm w s.2 i c = 0 from if_neg q] at hK
    repeat' (first | (refine And.intro ?_ ?_) | intro _)
    all_goals first | omega | exact hK | (dsimp only [apT]; omega)
def sX0_set (rm w : Int) : Int → Int → Int → TS → KT → Prop := fun i c v s K => (xB i ∧ xB c ∧ xB v) ∧ K [] (s.1, ts rm w s.2 i c v)
theorem mX0_set_ok (rm w : Int) : mOk (encT rm w) (bdT rm w) mX0_set (atR 0 (a3 (sX0_set rm w))) := by
  refine mOVa3 kX0_set (fun _ _ _ => rfl) (fun i c v s K h hb => wx_go [] 9 (tX0_set_ok rm w) rfl ?_)
  obtain ⟨⟨hi, hc, hv⟩, hK⟩ := h
  obtain ⟨⟨b1, b2, b3, b4⟩, b5, b6⟩ := hb
  by_cases q : 0 ≤ i ∧ i < rm ∧ 0 ≤ c ∧ c < w
  · obtain ⟨e1, e2, e3⟩ := tin_b q
    rw [show ts rm w s.2 i c v = xup s.2 (i * w + c).toNat v from if_pos q] at hK
    repeat' (first | (refine And.intro ?_ ?_) | intro _)
    all_goals first | omega | exact hK | (dsimp only [apT]; omega)
  · rw [show ts rm w s.2 i c v = s.2 from if_neg q] at hK
    repeat' (first | (refine And.intro ?_ ?_) | intro _)
    all_goals first | omega | exact hK | (dsimp only [apT]; omega)
def sX0_add (rm w : Int) : Int → Int → Int → TS → KT → Prop := fun i c v s K => (xB i ∧ xB c ∧ xB v) ∧ K [] (s.1, ts rm w s.2 i c (wI (tg rm w s.2 i c + v)))
theorem mX0_add_ok (rm w : Int) : mOk (encT rm w) (bdT rm w) mX0_add (atR 0 (a3 (sX0_add rm w))) := by
  refine mOVa3 kX0_add (fun _ _ _ => rfl) (fun i c v s K h hb => wx_go [] 9 (tX0_add_ok rm w) rfl ?_)
  obtain ⟨⟨hi, hc, hv⟩, hK⟩ := h
  obtain ⟨⟨b1, b2, b3, b4⟩, b5, b6⟩ := hb
  by_cases q : 0 ≤ i ∧ i < rm ∧ 0 ≤ c ∧ c < w
  · obtain ⟨e1, e2, e3⟩ := tin_b q
    rw [show tg rm w s.2 i c = s.2 (i * w + c).toNat from if_pos q] at hK
    rw [show ts rm w s.2 i c (wI (s.2 (i * w + c).toNat + v)) = xup s.2 (i * w + c).toNat (wI (s.2 (i * w + c).toNat + v)) from if_pos q] at hK
    repeat' (first | (refine And.intro ?_ ?_) | intro _)
    all_goals first | omega | exact hK | (dsimp only [apT]; omega)
  · rw [show ts rm w s.2 i c (wI (tg rm w s.2 i c + v)) = s.2 from if_neg q] at hK
    repeat' (first | (refine And.intro ?_ ?_) | intro _)
    all_goals first | omega | exact hK | (dsimp only [apT]; omega)
def sX0_clear (_rm _w : Int) : TS → KT → Prop := fun s K => K [] (0, s.2)
theorem mX0_clear_ok (rm w : Int) : mOk (encT rm w) (bdT rm w) mX0_clear (atR 0 (a0 (sX0_clear rm w))) := by
  refine mOVa0 kX0_clear (fun _ => rfl) (fun s K h hb => wx_go [] 9 (tX0_clear_ok rm w) rfl ?_)
  exact ⟨⟨by omega, by omega⟩, h⟩
def sX0_reach (rm _w : Int) : Int → TS → KT → Prop := fun i s K => xB i ∧ K [] (if s.1 ≤ i ∧ i < rm then i + 1 else s.1, s.2)
theorem mX0_reach_ok (rm w : Int) : mOk (encT rm w) (bdT rm w) mX0_reach (atR 0 (a1 (sX0_reach rm w))) := by
  refine mOVa1 kX0_reach (fun _ => rfl) (fun i s K h hb => wx_go [] 9 (tX0_reach_ok rm w) rfl ?_)
  obtain ⟨hi, hK⟩ := h
  obtain ⟨⟨b1, b2, b3, b4⟩, b5, b6⟩ := hb
  by_cases q : s.1 ≤ i ∧ i < rm
  · rw [if_pos q] at hK
    repeat' (first | (refine And.intro ?_ ?_) | intro _)
    all_goals first | omega | exact hK | (dsimp only [apT]; omega)
  · rw [if_neg q] at hK
    repeat' (first | (refine And.intro ?_ ?_) | intro _)
    all_goals first | omega | exact hK | (dsimp only [apT]; omega)
def sX0_drop (rm w : Int) : Int → TS → KT → Prop := fun i s K => (xB i ∧ s.1 ≤ rm) ∧ K [] (if 0 ≤ i ∧ i < s.1 then (s.1 - 1, xcp s.2 s.2 ((i + 1) * w).toNat (i * w).toNat ((s.1 - i - 1) * w).toNat) else s)
theorem mulA {a b : Int} (h0 : 0 ≤ a) (h1 : 0 ≤ b) : 0 ≤ a * b := Int.mul_nonneg h0 h1
theorem mX0_drop_ok (rm w : Int) : mOk (encT rm w) (bdT rm w) mX0_drop (atR 0 (a1 (sX0_drop rm w))) := by
  refine mOVa1 kX0_drop (fun _ => rfl) (fun i s K h hb => wx_go [] 9 (tX0_drop_ok rm w) rfl ?_)
  obtain ⟨⟨hi, hs⟩, hK⟩ := h
  obtain ⟨⟨b1, b2, b3, b4⟩, b5, b6⟩ := hb
  by_cases q : 0 ≤ i ∧ i < s.1
  · rw [if_pos q] at hK
    have e1 := mulA q.1 b3
    have e2 := mulA (a := s.1 - i - 1) (by omega) b3
    have e3 : (i + 1) * w + (s.1 - i - 1) * w = s.1 * w := by rw [← Int.add_mul]; congr 1; omega
    have e4 : s.1 * w ≤ rm * w := Int.mul_le_mul_of_nonneg_right hs b3
    have e5 := mulA (a := i + 1) (by omega) b3
    have e6 : (i + 1) * w = i * w + w := by rw [Int.add_mul]; omega
    repeat' (first | (refine And.intro ?_ ?_) | intro _)
    all_goals first | omega | exact hK | (dsimp only [apT]; omega)
  · rw [if_neg q] at hK
    repeat' (first | (refine And.intro ?_ ?_) | intro _)
    all_goals first | omega | exact hK | (dsimp only [apT]; omega)
