/-! ===== Table: open, copyRow, copyFrom ===== -/
section T2
variable {M : XI} {rc rs pc pc2 : Nat}
theorem lenT {rm w : Int} (s s' : TS) : (encT rm w s').length = (encT rm w s).length := rfl
theorem recT {rm w : Int} (s : TS) : ∃ fs, xl_n (encT rm w s) 0 = some (.inr (0, fs)) := ⟨_, rfl⟩
def cT_X0_set (rm w : Int) : Sp TS := atR 0 (a3 (sX0_set rm w))
theorem qT_X0_set (rm w : Int) (d : xl_Ca M pc mX0_set pc2) : cOk (encT rm w) (bdT rm w) M rc rs pc pc2 4 (cT_X0_set rm w) := cSame (mX0_set_ok rm w) vX0_set d tcl rfl lenT recT
end T2
-- X0_open: heads [63]
def tX0_open (rm w : Int) : Nat → Blk TS := fun pc => bif Nat.blt pc 25 then (bif Nat.blt pc 23 then (bif Nat.beq pc 0 then (oIld 1 <| oZLt 23 <| oIld 1 <| oAld 0 <| oGet (fgT rm w) 0 3 <| oCGt 23 <| oAld 0 <| oGet (fgT rm w) 0 3 <| oAld 0 <| oGet (fgT rm w) 0 0 <| oCLt 25 <| oTo 23) else oNo) else (bif Nat.beq pc 23 then (oI 0 <| oZret) else oNo)) else (bif Nat.blt pc 63 then (bif Nat.beq pc 25 then (oAld 0 <| oGet (fgT rm w) 0 2 <| oIld 1 <| oAld 0 <| oGet (fgT rm w) 0 1 <| oMul <| oAld 0 <| oGet (fgT rm w) 0 2 <| oIld 1 <| oI 1 <| oAdd <| oAld 0 <| oGet (fgT rm w) 0 1 <| oMul <| oAld 0 <| oGet (fgT rm w) 0 3 <| oIld 1 <| oSub <| oAld 0 <| oGet (fgT rm w) 0 1 <| oMul <| oCpy (agT rm w) (apT rm w) <| oI 0 <| oIst 2 <| oM [true, true, true] (oTo 63)) else oNo) else (bif Nat.blt pc 84 then (bif Nat.beq pc 63 then (oIld 2 <| oAld 0 <| oGet (fgT rm w) 0 1 <| oCGe 84 <| oAld 0 <| oIld 1 <| oIld 2 <| oI 0 <| oC4 (cT_X0_set rm w) <| oInc 2 1 <| oM [true, true, true] (oTo 63)) else oNo) else (bif Nat.beq pc 84 then (oAld 0 <| oDup <| oGet (fgT rm w) 0 3 <| oI 1 <| oAdd <| oPut (fpT rm w) 0 3 <| oI 1 <| oZret) else oNo)))
theorem tX0_open_ok (rm w : Int) : ∀ pc, bOk (encT rm w) (bdT rm w) mX0_open 0 0 pc (tX0_open rm w pc) := fun pc => (tNode (tNode (tLeaf (okIldn iX0_open_0 rfl <| okZLt (tl rfl) iX0_open_1 <| okIldn iX0_open_4 rfl <| okAldn iX0_open_5 rfl <| okGet (vFgT rm w) iX0_open_6 <| okCGt (tl rfl) iX0_open_9 <| okAldn iX0_open_12 rfl <| okGet (vFgT rm w) iX0_open_13 <| okAldn iX0_open_16 rfl <| okGet (vFgT rm w) iX0_open_17 <| okCLt (tl rfl) iX0_open_20 <| okTo (tl rfl))) (tLeaf (okIc iX0_open_23 <| okZret iX0_open_24 rfl))) (tNode (tLeaf (okAldn iX0_open_25 rfl <| okGet (vFgT rm w) iX0_open_26 <| okIldn iX0_open_29 rfl <| okAldn iX0_open_30 rfl <| okGet (vFgT rm w) iX0_open_31 <| okMul iX0_open_34 <| okAldn iX0_open_35 rfl <| okGet (vFgT rm w) iX0_open_36 <| okIldn iX0_open_39 rfl <| okIc iX0_open_40 <| okAdd iX0_open_41 <| okAldn iX0_open_42 rfl <| okGet (vFgT rm w) iX0_open_43 <| okMul iX0_open_46 <| okAldn iX0_open_47 rfl <| okGet (vFgT rm w) iX0_open_48 <| okIldn iX0_open_51 rfl <| okSub iX0_open_52 <| okAldn iX0_open_53 rfl <| okGet (vFgT rm w) iX0_open_54 <| okMul iX0_open_57 <| okCpy (vAgT rm w) iX0_open_58 <| okIc iX0_open_61 <| okIstn iX0_open_62 rfl (by decide) <| okM (okTo (tl rfl)))) (tNode (tLeaf (okIldn iX0_open_63 rfl <| okAldn iX0_open_64 rfl <| okGet (vFgT rm w) iX0_open_65 <| okCGe (tl rfl) iX0_open_68 <| okAldn iX0_open_71 rfl <| okIldn iX0_open_72 rfl <| okIldn iX0_open_73 rfl <| okIc iX0_open_74 <| okC4 (qT_X0_set rm w iX0_open_75) <| okInc iX0_open_78 (by decide) <| okGotoM (tl rfl) iX0_open_81)) (tLeaf (okAldn iX0_open_84 rfl <| okDup iX0_open_85 <| okGet (vFgT rm w) iX0_open_86 <| okIc iX0_open_89 <| okAdd iX0_open_90 <| okPut (vFpT rm w) iX0_open_91 <| okIc iX0_open_94 <| okZret iX0_open_95 rfl))))) pc
/-- a row of zeros at a place, what stood there and behind it one further -/
def topen (w : Int) (g : Nat → Int) (sz i : Int) : Nat → Int := fun k => if (i * w).toNat ≤ k ∧ k < (i * w).toNat + w.toNat then 0 else xcp g g (i * w).toNat ((i + 1) * w).toNat ((sz - i) * w).toNat k
def sX0_open (rm w : Int) : Int → TS → KT → Prop := fun i s K => xB i ∧ ((0 ≤ i ∧ i ≤ s.1 ∧ s.1 < rm) → K [pI 1] (s.1 + 1, topen w s.2 s.1 i)) ∧ (¬ (0 ≤ i ∧ i ≤ s.1 ∧ s.1 < rm) → K [pI 0] s)
theorem X0_open_loop (rm w : Int) {K : KT} {Pt : TS → Prop} (i sz : Int) (g : Nat → Int) (b1 : 0 ≤ rm ∧ rm ≤ 1000 ∧ 0 ≤ w ∧ w ≤ 100) (hi : 0 ≤ i ∧ i < rm) (hsz : xB (sz + 1)) (hK : K [pI 1] (sz + 1, fun k => if (i * w).toNat ≤ k ∧ k < (i * w).toNat + w.toNat then 0 else g k)) : ∀ (n : Nat) (c : Int), 0 ≤ c → c ≤ w → n = (w - c).toNat → wX (encT rm w) (bdT rm w) mX0_open 0 0 K Pt 63 [some (pR 0), some (pI i), some (pI c)] [] (sz, fun k => if (i * w).toNat ≤ k ∧ k < (i * w).toNat + c.toNat then 0 else g k) := by
  intro n
  induction n with
  | zero =>
    intro c h0 h1 hn
    have : c = w := by omega
    subst this
    refine wx_go [63] 9 (tX0_open_ok rm c) rfl ?_
    repeat' (first | (refine And.intro ?_ ?_) | intro _)
    all_goals first | omega | exact hK
  | succ n ih =>
    intro c h0 h1 hn
    refine wx_go [63] 9 (tX0_open_ok rm w) rfl ?_
    intro _
    refine ⟨⟨⟨by omega, by omega⟩, ⟨by omega, by omega⟩⟩, fun c1 => absurd c1 (by omega), fun c1 => ?_⟩
    refine ⟨⟨⟨by omega, by omega⟩, ⟨by omega, by omega⟩, ⟨by omega, by omega⟩⟩, ?_⟩
    have e := ih (c + 1) (by omega) (by omega) (by omega)
    have q : 0 ≤ i ∧ i < rm ∧ 0 ≤ c ∧ c < w := ⟨hi.1, hi.2, h0, by omega⟩
    obtain ⟨e1, e2, e3⟩ := tin_b q
    have es : ts rm w (fun k => if (i * w).toNat ≤ k ∧ k < (i * w).toNat + c.toNat then 0 else g k) i c 0 = fun k => if (i * w).toNat ≤ k ∧ k < (i * w).toNat + (c + 1).toNat then 0 else g k := by
      rw [ts, if_pos q]
      funext k
      unfold xup
      by_cases hk : k = (i * w + c).toNat
      · rw [if_pos hk, if_pos (by omega)]
      · rw [if_neg hk]
        dsimp only
        by_cases hk2 : (i * w).toNat ≤ k ∧ k < (i * w).toNat + c.toNat
        · rw [if_pos hk2, if_pos (by omega)]
        · rw [if_neg hk2, if_neg (by omega)]
    rw [← es] at e
    exact e
theorem mX0_open_ok (rm w : Int) : mOk (encT rm w) (bdT rm w) mX0_open (atR 0 (a1 (sX0_open rm w))) := by
  refine mOVa1 kX0_open (fun _ => rfl) (fun i s K h hb => wx_go [63] 9 (tX0_open_ok rm w) rfl ?_)
  obtain ⟨hi, hK1, hK2⟩ := h
  obtain ⟨⟨b1, b2, b3, b4⟩, b5, b6⟩ := hb
  by_cases q : 0 ≤ i ∧ i ≤ s.1 ∧ s.1 < rm
  · have hK := hK1 q
    have e1 := mulA q.1 b3
    have e2 := mulA (a := s.1 - i) (by omega) b3
    have e3 : i * w + (s.1 - i) * w = s.1 * w := by rw [← Int.add_mul]; congr 1; omega
    have e4 : (s.1 + 1) * w ≤ rm * w := Int.mul_le_mul_of_nonneg_right (by omega) b3
    have e5 : (s.1 + 1) * w = s.1 * w + w := by rw [Int.add_mul]; omega
    have e6 : (i + 1) * w = i * w + w := by rw [Int.add_mul]; omega
    have hl := X0_open_loop rm w (K := K) (Pt := fun _ => False) i s.1 (xcp s.2 s.2 (i * w).toNat ((i + 1) * w).toNat ((s.1 - i) * w).toNat) ⟨b1, b2, b3, b4⟩ ⟨q.1, by omega⟩ ⟨by omega, by omega⟩ hK w.toNat 0 (by omega) b3 (by omega)
    have ez : (fun k => if (i * w).toNat ≤ k ∧ k < (i * w).toNat + Int.toNat 0 then (0 : Int) else xcp s.2 s.2 (i * w).toNat ((i + 1) * w).toNat ((s.1 - i) * w).toNat k) = xcp s.2 s.2 (i * w).toNat ((i + 1) * w).toNat ((s.1 - i) * w).toNat := by
      funext k
      rw [if_neg (by omega)]
    rw [ez] at hl
    refine ⟨hi, fun c1 => absurd c1 (by omega), fun c1 _ => ⟨⟨hi, b5⟩, fun c2 => absurd c2 (by omega), fun c2 _ _ => ⟨⟨b5, ⟨by omega, by omega⟩⟩, fun c3 => ?_, fun c3 => absurd c3 (by omega)⟩⟩⟩
    intro _ _ _ _
    exact ⟨⟨by omega, by omega, by omega, by omega, by omega⟩, hl⟩
  · have hK := hK2 q
    refine ⟨hi, fun c1 => ?_, fun c1 _ => ⟨⟨hi, b5⟩, fun c2 => ?_, fun c2 _ _ => ⟨⟨b5, ⟨by omega, by omega⟩⟩, fun c3 => absurd c3 (by omega), fun c3 => ?_⟩⟩⟩
    · exact ⟨Or.inl rfl, hK⟩
    · exact ⟨Or.inl rfl, hK⟩
    · exact ⟨Or.inl rfl, hK⟩
/-! two tables -/
abbrev TTS : Type := TS × TS
abbrev KTT : Type := PS → TTS → Prop
def encTT (rm w rn z : Int) (s : TTS) : XH := encT rm w s.1 ++ encT rn z s.2
def bdTT (rm w rn z : Int) (s : TTS) : Prop := bdT rm w s.1 ∧ bdT rn z s.2
def fgTT (rm w rn z : Int) : FG TTS := fun s r ci k => bif Nat.beq ci 0 then (bif Nat.beq r 0 then xl_n [pI rm, pI w, pR 1, pI s.1.1] k else bif Nat.beq r 2 then xl_n [pI rn, pI z, pR 3, pI s.2.1] k else none) else none
def fpTT (_rm _w _rn _z : Int) : FP TTS := fun s r ci k v => bif Nat.beq ci 0 then (bif Nat.beq r 0 then (bif Nat.beq k 3 then some ((v, s.1.2), s.2) else none) else none) else none
def agTT (rm w rn z : Int) : AG TTS := fun s r => bif Nat.beq r 1 then some (0, (rm * w).toNat, s.1.2) else bif Nat.beq r 3 then some (0, (rn * z).toNat, s.2.2) else none
def apTT (_rm _w _rn _z : Int) : AP TTS := fun s r g => bif Nat.beq r 1 then ((s.1.1, g), s.2) else (s.1, (s.2.1, g))
theorem vFgTT (rm w rn z : Int) : vFg (encTT rm w rn z) (bdTT rm w rn z) (fgTT rm w rn z) := by
  intro s r ci k v hb h0
  obtain ⟨h2, h⟩ := bN h0
  clear h0
  have h2 := nB h2
  subst h2
  obtain ⟨⟨⟨b1, b2, b3, b4⟩, b5, b6⟩, ⟨⟨d1, d2, d3, d4⟩, d5, d6⟩⟩ := hb
  cases e1 : Nat.beq r 0 with
  | true =>
    rw [e1] at h
    have e1 := nB e1
    subst e1
    match k, h with
    | 0, h => cases h; exact ⟨_, _, rfl, rfl, rfl, fun z e => by cases e; exact ⟨by omega, by omega⟩⟩
    | 1, h => cases h; exact ⟨_, _, rfl, rfl, rfl, fun z e => by cases e; exact ⟨by omega, by omega⟩⟩
    | 2, h => cases h; exact ⟨_, _, rfl, rfl, rfl, fun z e => by cases e⟩
    | 3, h => cases h; exact ⟨_, _, rfl, rfl, rfl, fun z e => by cases e; exact b5⟩
  | false =>
    rw [e1] at h
    obtain ⟨h3, h⟩ := bN h
    have h3 := nB h3
    subst h3
    match k, h with
    | 0, h => cases h; exact ⟨_, _, rfl, rfl, rfl, fun z e => by cases e; exact ⟨by omega, by omega⟩⟩
    | 1, h => cases h; exact ⟨_, _, rfl, rfl, rfl, fun z e => by cases e; exact ⟨by omega, by omega⟩⟩
    | 2, h => cases h; exact ⟨_, _, rfl, rfl, rfl, fun z e => by cases e⟩
    | 3, h => cases h; exact ⟨_, _, rfl, rfl, rfl, fun z e => by cases e; exact d5⟩
theorem vFpTT (rm w rn z : Int) : vFp (encTT rm w rn z) (bdTT rm w rn z) (fpTT rm w rn z) := by
  intro s r ci k v s' hb hz h
  obtain ⟨h1, h⟩ := bN h
  obtain ⟨h2, h⟩ := bN h
  obtain ⟨h3, h⟩ := bN h
  have h1 := nB h1
  have h2 := nB h2
  have h3 := nB h3
  subst h1; subst h2; subst h3
  cases h
  exact ⟨_, rfl, Nat.lt_succ_self 3, rfl, ⟨hb.1.1, hz, hb.1.2.2⟩, hb.2⟩
theorem vAgTT (rm w rn z : Int) : vAg (encTT rm w rn z) (bdTT rm w rn z) (agTT rm w rn z) (apTT rm w rn z) := by
  intro s r t n g hb h
  obtain ⟨⟨⟨b1, b2, b3, b4⟩, b5, b6⟩, ⟨⟨d1, d2, d3, d4⟩, d5, d6⟩⟩ := hb
  have m1 := mulle b1 b2 b3 b4
  have m2 := mulle d1 d2 d3 d4
  unfold agTT at h
  cases e1 : Nat.beq r 1 with
  | true =>
    rw [e1] at h
    have e1 := nB e1
    subst e1
    cases h
    exact ⟨by omega, b6, rfl, fun g' hg => ⟨⟨⟨⟨b1, b2, b3, b4⟩, b5, hg⟩, ⟨⟨d1, d2, d3, d4⟩, d5, d6⟩⟩, rfl⟩⟩
  | false =>
    rw [e1] at h
    obtain ⟨h3, h⟩ := bN h
    have h3 := nB h3
    subst h3
    cases h
    exact ⟨by omega, d6, rfl, fun g' hg => ⟨⟨⟨⟨b1, b2, b3, b4⟩, b5, b6⟩, ⟨⟨d1, d2, d3, d4⟩, d5, hg⟩⟩, rfl⟩⟩
section T3
variable {M : XI} {rc rs pc pc2 : Nat}
theorem lenTT {rm w rn z : Int} (s s' : TTS) : (encTT rm w rn z s').length = (encTT rm w rn z s).length := rfl
theorem lkTT0 (rm w rn z : Int) : vLk (encTT rm w rn z) (bdTT rm w rn z) (encT rm w) (bdT rm w) (fun k => 0 + k) (fun s => s.1) (fun s t => (t, s.2)) :=
  vLk_run (n := 2) (fun _ => rfl) (by decide) (fun s => rfl) (fun s t => rfl) (fun s hb => hb.1) (fun s t hb ht => ⟨ht, hb.2⟩) (fun s => by show 2 ≤ 4; decide)
theorem lkTT2 (rm w rn z : Int) : vLk (encTT rm w rn z) (bdTT rm w rn z) (encT rn z) (bdT rn z) (fun k => 2 + k) (fun s => s.2) (fun s t => (s.1, t)) :=
  vLk_run (n := 2) (fun _ => rfl) (by decide) (fun s => rfl) (fun s t => rfl) (fun s hb => hb.2) (fun s t hb ht => ⟨hb.1, ht⟩) (fun s => by show 4 ≤ 4; decide)
def cTT_X0_get (_rm _w rn z : Int) : Sp TTS := atR 2 (a2 (fun i c s K => (xB i ∧ xB c) ∧ K [pI (tg rn z s.2.2 i c)] s))
theorem a2_inv {σ : Type} {f : Int → Int → σ → (PS → σ → Prop) → Prop} {as : List PV} {s : σ} {K : PS → σ → Prop} (h : a2 f as s K) : ∃ x y, as = [pI x, pI y] ∧ f x y s K := by
  unfold a2 at h
  split at h
  · exact ⟨_, _, rfl, h⟩
  · exact h.elim
theorem a3_inv {σ : Type} {f : Int → Int → Int → σ → (PS → σ → Prop) → Prop} {as : List PV} {s : σ} {K : PS → σ → Prop} (h : a3 f as s K) : ∃ x y z, as = [pI x, pI y, pI z] ∧ f x y z s K := by
  unfold a3 at h
  split at h
  · exact ⟨_, _, _, rfl, h⟩
  · exact h.elim
theorem qTT_X0_get (rm w rn z : Int) (d : xl_Ca M pc mX0_get pc2) : cOk (encTT rm w rn z) (bdTT rm w rn z) M rc rs pc pc2 3 (cTT_X0_get rm w rn z) := by
  refine cVirt (mX0_get_ok rn z) vX0_get d tcl rfl (fun as s K hb h => ?_)
  obtain ⟨as, rfl, h1⟩ := atR_inv h
  obtain ⟨i, c, rfl, h2⟩ := a2_inv h1
  exact ⟨_, _, _, [pI i, pI c], lkTT2 rm w rn z, ⟨_, rfl⟩, rfl, h2⟩
def cTT_X0_set (rm w _rn _z : Int) : Sp TTS := atR 0 (a3 (fun i c v s K => (xB i ∧ xB c ∧ xB v) ∧ K [] ((s.1.1, ts rm w s.1.2 i c v), s.2)))
theorem qTT_X0_set (rm w rn z : Int) (d : xl_Ca M pc mX0_set pc2) : cOk (encTT rm w rn z) (bdTT rm w rn z) M rc rs pc pc2 4 (cTT_X0_set rm w rn z) := by
  refine cVirt (mX0_set_ok rm w) vX0_set d tcl rfl (fun as s K hb h => ?_)
  obtain ⟨as, rfl, h1⟩ := atR_inv h
  obtain ⟨i, c, v, rfl, h2⟩ := a3_inv h1
  exact ⟨_, _, _, [pI i, pI c, pI v], lkTT0 rm w rn z, ⟨_, rfl⟩, rfl, h2⟩
end T3
-- X0_copyFrom: heads []
def tX0_copyFrom (rm w rn z : Int) : Nat → Blk TTS := fun pc => bif Nat.blt pc 17 then (bif Nat.beq pc 0 then (oAld 1 <| oNu <| oAld 1 <| oGet (fgTT rm w rn z) 0 2 <| oLen (agTT rm w rn z) <| oAld 0 <| oGet (fgTT rm w rn z) 0 2 <| oLen (agTT rm w rn z) <| oCEq 18 <| oTo 17) else oNo) else (bif Nat.blt pc 18 then (bif Nat.beq pc 17 then (oVret) else oNo) else (bif Nat.beq pc 18 then (oAld 0 <| oAld 1 <| oGet (fgTT rm w rn z) 0 3 <| oPut (fpTT rm w rn z) 0 3 <| oAld 1 <| oGet (fgTT rm w rn z) 0 2 <| oI 0 <| oAld 0 <| oGet (fgTT rm w rn z) 0 2 <| oI 0 <| oAld 0 <| oGet (fgTT rm w rn z) 0 3 <| oAld 0 <| oGet (fgTT rm w rn z) 0 1 <| oMul <| oAld 0 <| oGet (fgTT rm w rn z) 0 2 <| oLen (agTT rm w rn z) <| oMin <| oCpy (agTT rm w rn z) (apTT rm w rn z) <| oVret) else oNo))
theorem tX0_copyFrom_ok (rm w rn z : Int) : ∀ pc, bOk (encTT rm w rn z) (bdTT rm w rn z) mX0_copyFrom 0 0 pc (tX0_copyFrom rm w rn z pc) := fun pc => (tNode (tLeaf (okAldn iX0_copyFrom_0 rfl <| okNu iX0_copyFrom_1 <| okAldn iX0_copyFrom_4 rfl <| okGet (vFgTT rm w rn z) iX0_copyFrom_5 <| okLen (vAgTT rm w rn z) iX0_copyFrom_8 <| okAldn iX0_copyFrom_9 rfl <| okGet (vFgTT rm w rn z) iX0_copyFrom_10 <| okLen (vAgTT rm w rn z) iX0_copyFrom_13 <| okCEq (tl rfl) iX0_copyFrom_14 <| okTo (tl rfl))) (tNode (tLeaf (okVret iX0_copyFrom_17 rfl)) (tLeaf (okAldn iX0_copyFrom_18 rfl <| okAldn iX0_copyFrom_19 rfl <| okGet (vFgTT rm w rn z) iX0_copyFrom_20 <| okPut (vFpTT rm w rn z) iX0_copyFrom_23 <| okAldn iX0_copyFrom_26 rfl <| okGet (vFgTT rm w rn z) iX0_copyFrom_27 <| okIc iX0_copyFrom_30 <| okAldn iX0_copyFrom_31 rfl <| okGet (vFgTT rm w rn z) iX0_copyFrom_32 <| okIc iX0_copyFrom_35 <| okAldn iX0_copyFrom_36 rfl <| okGet (vFgTT rm w rn z) iX0_copyFrom_37 <| okAldn iX0_copyFrom_40 rfl <| okGet (vFgTT rm w rn z) iX0_copyFrom_41 <| okMul iX0_copyFrom_44 <| okAldn iX0_copyFrom_45 rfl <| okGet (vFgTT rm w rn z) iX0_copyFrom_46 <| okLen (vAgTT rm w rn z) iX0_copyFrom_49 <| okMin iX0_copyFrom_50 <| okCpy (vAgTT rm w rn z) iX0_copyFrom_53 <| okVret iX0_copyFrom_56 rfl)))) pc
-- X0_copyRow: heads [8]
def tX0_copyRow (rm w rn z : Int) : Nat → Blk TTS := fun pc => bif Nat.blt pc 8 then (bif Nat.blt pc 5 then (bif Nat.beq pc 0 then (oAld 2 <| oNN 5) else oNo) else (bif Nat.beq pc 5 then (oI 0 <| oIst 4 <| oM [true, true, true, true, true] (oTo 8)) else oNo)) else (bif Nat.blt pc 37 then (bif Nat.beq pc 8 then (oIld 4 <| oAld 0 <| oGet (fgTT rm w rn z) 0 1 <| oCGe 37 <| oAld 0 <| oIld 1 <| oIld 4 <| oAld 2 <| oIld 3 <| oIld 4 <| oC3 (cTT_X0_get rm w rn z) <| oC4 (cTT_X0_set rm w rn z) <| oInc 4 1 <| oM [true, true, true, true, true] (oTo 8)) else oNo) else (bif Nat.beq pc 37 then (oVret) else oNo))
theorem tX0_copyRow_ok (rm w rn z : Int) : ∀ pc, bOk (encTT rm w rn z) (bdTT rm w rn z) mX0_copyRow 0 0 pc (tX0_copyRow rm w rn z pc) := fun pc => (tNode (tNode (tLeaf (okAldn iX0_copyRow_0 rfl <| okNN (tl rfl) iX0_copyRow_1)) (tLeaf (okIc iX0_copyRow_5 <| okIst iX0_copyRow_6 (by decide) <| okM (okTo (tl rfl))))) (tNode (tLeaf (okIld iX0_copyRow_8 <| okAldn iX0_copyRow_10 rfl <| okGet (vFgTT rm w rn z) iX0_copyRow_11 <| okCGe (tl rfl) iX0_copyRow_14 <| okAldn iX0_copyRow_17 rfl <| okIldn iX0_copyRow_18 rfl <| okIld iX0_copyRow_19 <| okAldn iX0_copyRow_21 rfl <| okIldn iX0_copyRow_22 rfl <| okIld iX0_copyRow_23 <| okC3 (qTT_X0_get rm w rn z iX0_copyRow_25) <| okC4 (qTT_X0_set rm w rn z iX0_copyRow_28) <| okInc iX0_copyRow_31 (by decide) <| okGotoM (tl rfl) iX0_copyRow_34)) (tLeaf (okVret iX0_copyRow_37 rfl)))) pc
/-- two tables' methods: i, the other one at place 2 -/
def sX0_copyFrom (rm w : Int) : List PV → TTS → KTT → Prop := fun as s K => match as with
  | [.inr (.inr (.inl 2))] => (0 ≤ s.2.1 ∧ s.2.1 ≤ rm) ∧ K [] ((s.2.1, xcp s.2.2 s.1.2 0 0 (s.2.1 * w).toNat), s.2)
  | _ => False
theorem mX0_copyFrom_ok (rm w : Int) : mOk (encTT rm w rm w) (bdTT rm w rm w) mX0_copyFrom (atR 0 (sX0_copyFrom rm w)) := by
  refine mOk_of kX0_copyFrom (fun as s K h => ?_)
  obtain ⟨as, rfl, h1⟩ := atR_inv h
  unfold sX0_copyFrom at h1
  split at h1
  · refine ⟨rfl, fun hb => wx_go [] 9 (tX0_copyFrom_ok rm w rm w) rfl ?_⟩
    obtain ⟨⟨q1, q2⟩, hK⟩ := h1
    obtain ⟨⟨⟨b1, b2, b3, b4⟩, b5, b6⟩, ⟨⟨d1, d2, d3, d4⟩, d5, d6⟩⟩ := hb
    have m1 := mulle b1 b2 b3 b4
    have m2 := mulA q1 b3
    have e4 : s.2.1 * w ≤ rm * w := Int.mul_le_mul_of_nonneg_right q2 b3
    have emin : min (s.2.1 * w) ((rm * w).toNat : Int) = s.2.1 * w := by omega
    refine ⟨⟨⟨by omega, by omega⟩, ⟨by omega, by omega⟩⟩, fun _ => ?_, fun c => absurd rfl c⟩
    intro _
    refine ⟨d5, ?_⟩
    intro _ _
    refine ⟨⟨⟨?_, ?_⟩, ⟨by omega, by omega⟩⟩, ?_⟩
    · show -2147483648 ≤ s.2.1 * w
      omega
    · show s.2.1 * w ≤ 2147483647
      omega
    · refine ⟨⟨by omega, by omega, ?_, ?_, ?_⟩, ?_⟩
      · show 0 ≤ min (s.2.1 * w) ((rm * w).toNat : Int)
        omega
      · show 0 + min (s.2.1 * w) ((rm * w).toNat : Int) ≤ ((rm * w).toNat : Int)
        omega
      · show 0 + min (s.2.1 * w) ((rm * w).toNat : Int) ≤ ((rm * w).toNat : Int)
        omega
      · show K [] ((s.2.1, xcp s.2.2 s.1.2 0 0 (min (s.2.1 * w) ((rm * w).toNat : Int)).toNat), s.2)
        rw [emin]
        exact hK
  · exact h1.elim
/-- a row of another table -/
def trow (rm w rn z : Int) (g f : Nat → Int) (i j : Int) : Nat → Int := fun k => if (0 ≤ i ∧ i < rm) ∧ (i * w).toNat ≤ k ∧ k < (i * w).toNat + w.toNat then tg rn z f j ((k - (i * w).toNat : Nat) : Int) else g k
def sX0_copyRow (rm w rn z : Int) : List PV → TTS → KTT → Prop := fun as s K => match as with
  | [.inl i, .inr (.inr (.inl 2)), .inl j] => (xB i ∧ xB j) ∧ K [] ((s.1.1, trow rm w rn z s.1.2 s.2.2 i j), s.2)
  | _ => False
theorem tg_B {rm w : Int} {g : Nat → Int} {i c : Int} (h : ∀ k, xB (g k)) : xB (tg rm w g i c) := by
  unfold tg
  split
  · exact h _
  · exact ⟨by omega, by omega⟩
theorem X0_copyRow_loop (rm w rn z : Int) {K : KTT} {Pt : TTS → Prop} (i j sz : Int) (g : Nat → Int) (o : TS) (b1 : 0 ≤ rm ∧ rm ≤ 1000 ∧ 0 ≤ w ∧ w ≤ 100) (hi : xB i) (hj : xB j) (ho : ∀ k, xB (o.2 k)) (hK : K [] ((sz, trow rm w rn z g o.2 i j), o)) : ∀ (n : Nat) (c : Int), 0 ≤ c → c ≤ w → n = (w - c).toNat → wX (encTT rm w rn z) (bdTT rm w rn z) mX0_copyRow 0 0 K Pt 8 [some (pR 0), some (pI i), some (pR 2), some (pI j), some (pI c)] [] ((sz, fun k => if (0 ≤ i ∧ i < rm) ∧ (i * w).toNat ≤ k ∧ k < (i * w).toNat + c.toNat then tg rn z o.2 j ((k - (i * w).toNat : Nat) : Int) else g k), o) := by
  intro n
  induction n with
  | zero =>
    intro c h0 h1 hn
    have : c = w := by omega
    subst this
    refine wx_go [8] 9 (tX0_copyRow_ok rm c rn z) rfl ?_
    repeat' (first | (refine And.intro ?_ ?_) | intro _)
    all_goals first | omega | exact hK
  | succ n ih =>
    intro c h0 h1 hn
    refine wx_go [8] 9 (tX0_copyRow_ok rm w rn z) rfl ?_
    intro _
    refine ⟨⟨⟨by omega, by omega⟩, ⟨by omega, by omega⟩⟩, fun c1 => absurd c1 (by omega), fun c1 => ?_⟩
    refine ⟨⟨hj, ⟨by omega, by omega⟩⟩, ?_⟩
    refine ⟨⟨hi, ⟨by omega, by omega⟩, tg_B ho⟩, ?_⟩
    have e := ih (c + 1) (by omega) (by omega) (by omega)
    have es : ts rm w (fun k => if (0 ≤ i ∧ i < rm) ∧ (i * w).toNat ≤ k ∧ k < (i * w).toNat + c.toNat then tg rn z o.2 j ((k - (i * w).toNat : Nat) : Int) else g k) i c (tg rn z o.2 j c) = fun k => if (0 ≤ i ∧ i < rm) ∧ (i * w).toNat ≤ k ∧ k < (i * w).toNat + (c + 1).toNat then tg rn z o.2 j ((k - (i * w).toNat : Nat) : Int) else g k := by
      unfold ts
      by_cases q : 0 ≤ i ∧ i < rm ∧ 0 ≤ c ∧ c < w
      · obtain ⟨e1, e2, e3⟩ := tin_b q
        rw [if_pos q]
        funext k
        unfold xup
        by_cases hk : k = (i * w + c).toNat
        · rw [if_pos hk, if_pos (by omega)]
          congr 1
          omega
        · rw [if_neg hk]
          dsimp only
          by_cases hk2 : (0 ≤ i ∧ i < rm) ∧ (i * w).toNat ≤ k ∧ k < (i * w).toNat + c.toNat
          · rw [if_pos hk2, if_pos (by omega)]
          · rw [if_neg hk2, if_neg (by omega)]
      · rw [if_neg q]
        funext k
        rw [if_neg (by omega), if_neg (by omega)]
    rw [← es] at e
    exact e
theorem mX0_copyRow_ok (rm w rn z : Int) : mOk (encTT rm w rn z) (bdTT rm w rn z) mX0_copyRow (atR 0 (sX0_copyRow rm w rn z)) := by
  refine mOk_of kX0_copyRow (fun as s K h => ?_)
  obtain ⟨as, rfl, h1⟩ := atR_inv h
  unfold sX0_copyRow at h1
  split at h1
  · next i j =>
    refine ⟨rfl, fun hb => wx_go [8] 9 (tX0_copyRow_ok rm w rn z) rfl ?_⟩
    obtain ⟨⟨hi, hj⟩, hK⟩ := h1
    obtain ⟨⟨⟨b1, b2, b3, b4⟩, b5, b6⟩, ⟨⟨d1, d2, d3, d4⟩, d5, d6⟩⟩ := hb
    have hl := X0_copyRow_loop rm w rn z (K := K) (Pt := fun _ => False) i j s.1.1 s.1.2 s.2 ⟨b1, b2, b3, b4⟩ hi hj d6 hK w.toNat 0 (by omega) b3 (by omega)
    have ez : (fun k => if (0 ≤ i ∧ i < rm) ∧ (i * w).toNat ≤ k ∧ k < (i * w).toNat + Int.toNat 0 then tg rn z s.2.2 j ((k - (i * w).toNat : Nat) : Int) else s.1.2 k) = s.1.2 := by
      funext k
      rw [if_neg (by omega)]
    rw [ez] at hl
    exact hl
  · exact h1.elim
