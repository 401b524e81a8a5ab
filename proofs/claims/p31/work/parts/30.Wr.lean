/-! ===== World: sizes stay in their rooms; finish, melt, rise ===== -/
section WXB
variable {σ : Type} {enc : σ → XH} {bd : σ → Prop} {M : XI} {rc rs : Nat}
theorem wx_Jb {T : Nat → Blk σ} (cut : List Nat) (n : Nat) {Po : PS → σ → Prop} {Pt : σ → Prop} {pc : Nat} {L : PL} {st : PS} {s : σ} (hT : ∀ pc, bOk enc bd M rc rs pc (T pc)) (hlt : Nat.blt pc 1000000 = true) (h : bd s → ∀ J : JP σ, (∀ v s, Po v s → J 1000000 [] v s) → (∀ pc L st s, wX enc bd M rc rs Po Pt pc L st s → J pc L st s) → T pc (wp T cut J n) L st s) : wX enc bd M rc rs Po Pt pc L st s := by
  have hl : pc < 1000000 := Nat.le_of_ble_eq_true hlt
  rw [wX_lt hl]
  intro hb
  have := wx_J (rc := rc) (rs := rs) cut n hT hlt (h hb)
  rw [wX_lt hl] at this
  exact this hb
end WXB
abbrev wok (w : WS) : Prop := ∀ t, t < 6 → 0 ≤ wZ w t ∧ wZ w t ≤ rmT t
theorem wok_set {w : WS} {t : Nat} {b : TS} (h : wok w) (hb : 0 ≤ b.1 ∧ b.1 ≤ rmT t) : wok (setT w t b) := by
  intro j hj
  show 0 ≤ (bif Nat.beq j t then b else w.2 j).1 ∧ (bif Nat.beq j t then b else w.2 j).1 ≤ rmT j
  cases e : Nat.beq j t with
  | true => rw [nB e]; exact hb
  | false => exact h j hj
theorem wok_Fd {w : WS} {k : Nat} {v : Int} (h : wok w) : wok (wFd w k v) := h
theorem wok_P {w : WS} {t : Nat} {i c v : Int} (ht : t < 6) (h : wok w) : wok (wP w t i c v) := wok_set h (h t ht)
theorem wok_A {w : WS} {t : Nat} {i c v : Int} (ht : t < 6) (h : wok w) : wok (wA w t i c v) := wok_P ht h
theorem wok_Re {w : WS} {t : Nat} {i : Int} (ht : t < 6) (h : wok w) : wok (wRe w t i) := by
  have := h t ht
  refine wok_set h ?_
  show 0 ≤ (if (w.2 t).1 ≤ i ∧ i < rmT t then i + 1 else (w.2 t).1) ∧ (if (w.2 t).1 ≤ i ∧ i < rmT t then i + 1 else (w.2 t).1) ≤ rmT t
  unfold wZ at this
  split <;> omega
theorem wok_Dr {w : WS} {t : Nat} {i : Int} (ht : t < 6) (h : wok w) : wok (wDr w t i) := by
  have := h t ht
  refine wok_set h ?_
  unfold wZ at this
  split
  · show 0 ≤ (w.2 t).1 - 1 ∧ (w.2 t).1 - 1 ≤ rmT t
    omega
  · exact this
theorem wok_Op {w : WS} {t : Nat} {i : Int} (ht : t < 6) (h : wok w) (h2 : wZ w t < rmT t) : wok (wOp w t i) := by
  have := h t ht
  refine wok_set h ?_
  unfold wZ at this h2
  show 0 ≤ (w.2 t).1 + 1 ∧ (w.2 t).1 + 1 ≤ rmT t
  omega
theorem wok_Send {w : WS} {k i : Int} (h : wok w) : wok (wSend w k i) := by
  unfold wSend
  exact wok_Fd (wok_A (by decide) (wok_P (by decide) (wok_P (by decide) (wok_P (by decide) (wok_P (by decide) (wok_P (by decide) (wok_P (by decide) (wok_Re (by decide) h))))))))
theorem wok_Take {w : WS} {i : Int} (h : wok w) : wok (wTake w i) := by
  unfold wTake
  split
  · exact wok_P (by decide) (wok_Send h)
  · exact h
theorem wok_Ann {w : WS} {k i : Int} (h : wok w) : wok (wAnn w k i) := wok_P (by decide) (wok_Send h)
theorem wok_Swallow {w : WS} {i : Int} (h : wok w) : wok (wSwallow w i) :=
  wok_Dr (by decide) (wok_P (by decide) (wok_A (by decide) (wok_A (by decide) (wok_P (by decide) (wok_P (by decide) h)))))
theorem wok_Raise {w : WS} {r t : Int} (h : wok w) : wok (wRaise w r t) := by
  unfold wRaise
  split
  · exact wok_P (by decide) h
  · exact h
theorem wok_Note {w : WS} {a r t : Int} (h : wok w) : wok (wNote w a r t) := by
  unfold wNote
  split
  · next c => exact wok_P (by decide) (wok_P (by decide) (wok_P (by decide) (wok_P (by decide) (wok_P (by decide) (wok_Op (by decide) h c.2)))))
  · exact h
/-! finals.copyRow(slot, sessions, i) -/
def piFS : Nat → Nat := fun k => bif Nat.blt k 2 then 7 + k else 1 + k
theorem lkFS : vLk encW bdW (encTT 40 7 161 7) (bdTT 40 7 161 7) piFS (fun s => (s.2 3, s.2 1)) (fun s b => setT (setT s 3 b.1) 1 b.2) := by
  have hok : ∀ (s : TTS) (j : Nat) (c : XE), (encTT 40 7 161 7 s)[j]? = some c → xl_ok piFS j c := by
    intro s j c h
    match j, h with
    | 0, h => cases h; exact fun aC ρ σ => rfl
    | 1, h => cases h; exact fun aC ρ σ => rfl
    | 2, h => cases h; exact fun aC ρ σ => rfl
    | 3, h => cases h; exact fun aC ρ σ => rfl
    | j + 4, h => cases h
  refine ⟨fun s hb => ⟨⟨⟨by omega, hb.2 3⟩, ⟨by omega, hb.2 1⟩⟩, ⟨fun i j hi hj e => ?_, fun j hj => ?_⟩, hok _⟩, fun s s' hb hb' => ⟨bdW_set (bdW_set hb hb'.1) hb'.2, rfl, ⟨rfl, fun j hj => ?_, fun k hk => ?_⟩, hok _⟩⟩
  · have hi : i < 4 := hi
    have hj : j < 4 := hj
    have key : ∀ a, a < 4 → ∀ b, b < 4 → piFS a = piFS b → a = b := by decide
    exact key i hi j hj e
  · match j, hj with
    | 0, _ => exact ⟨rfl, Nat.le_of_ble_eq_true rfl⟩
    | 1, _ => exact ⟨rfl, Nat.le_of_ble_eq_true rfl⟩
    | 2, _ => exact ⟨rfl, Nat.le_of_ble_eq_true rfl⟩
    | 3, _ => exact ⟨rfl, Nat.le_of_ble_eq_true rfl⟩
    | j + 4, hj => exact absurd (show j + 4 < 4 from hj) (by omega)
  · match j, hj with
    | 0, _ => rfl
    | 1, _ => rfl
    | 2, _ => rfl
    | 3, _ => rfl
    | j + 4, hj => exact absurd (show j + 4 < 4 from hj) (by omega)
  · match k, hk with
    | 0, _ => rfl
    | 1, _ => rfl
    | 2, _ => rfl
    | 3, hk => exact absurd rfl (hk 2 (Nat.le_of_ble_eq_true rfl))
    | 4, hk => exact absurd rfl (hk 3 (Nat.le_of_ble_eq_true rfl))
    | 5, _ => rfl
    | 6, _ => rfl
    | 7, hk => exact absurd rfl (hk 0 (Nat.le_of_ble_eq_true rfl))
    | 8, hk => exact absurd rfl (hk 1 (Nat.le_of_ble_eq_true rfl))
    | 9, _ => rfl
    | 10, _ => rfl
    | 11, _ => rfl
    | 12, _ => rfl
    | k + 13, _ => rfl
def wCR (w : WS) (i j : Int) : WS := setT w 3 ((w.2 3).1, trow 40 7 161 7 (w.2 3).2 (w.2 1).2 i j)
def cW_X0_copyRow : Sp WS := fun as s K => match as with
  | [.inr (.inr (.inl 7)), .inl i, .inr (.inr (.inl 3)), .inl j] => (xB i ∧ xB j) ∧ K [] (wCR s i j)
  | _ => False
theorem qW_X0_copyRow {M : XI} {rc rs pc pc2 : Nat} (d : xl_Ca M pc mX0_copyRow pc2) : cOk encW bdW M rc rs pc pc2 4 cW_X0_copyRow := by
  refine cVirt (mX0_copyRow_ok 40 7 161 7) vX0_copyRow d tcl rfl (fun as s K hb h => ?_)
  unfold cW_X0_copyRow at h
  split at h
  · next i j =>
    refine ⟨piFS, _, _, [pI i, pR 2, pI j], lkFS, ⟨_, rfl⟩, rfl, ?_⟩
    refine ⟨h.1, ?_⟩
    have e : setT (setT s 3 ((s.2 3).1, trow 40 7 161 7 (s.2 3).2 (s.2 1).2 i j)) 1 (s.2 1) = wCR s i j := setT_self (wCR s i j) 1
    show K [] (setT (setT s 3 ((s.2 3).1, trow 40 7 161 7 (s.2 3).2 (s.2 1).2 i j)) 1 (s.2 1))
    rw [e]
    exact h.2
  · exact h.elim
-- X1_finish: heads []
def tX1_finish : Nat → Blk WS := fun pc => bif Nat.beq pc 0 then (oAld 0 <| oGet (fgW) 1 5 <| oI 40 <| oRemT <| oIst 2 <| oAld 0 <| oGet (fgW) 1 13 <| oIld 2 <| oC2 (cW_X0_reach) <| oAld 0 <| oGet (fgW) 1 13 <| oIld 2 <| oAld 0 <| oGet (fgW) 1 11 <| oIld 1 <| oC4 (cW_X0_copyRow) <| oAld 0 <| oGet (fgW) 1 11 <| oIld 1 <| oI 0 <| oC3 (cW_X0_get) <| oIst 3 <| oAld 0 <| oGet (fgW) 1 11 <| oIld 1 <| oI 2 <| oC3 (cW_X0_get) <| oAld 0 <| oGet (fgW) 1 11 <| oIld 1 <| oI 1 <| oC3 (cW_X0_get) <| oSubW <| oIst 4 <| oAld 0 <| oGet (fgW) 1 15 <| oIld 3 <| oI 4 <| oI 1 <| oC4 (cW_X0_add) <| oAld 0 <| oGet (fgW) 1 15 <| oIld 3 <| oI 5 <| oAld 0 <| oGet (fgW) 1 11 <| oIld 1 <| oI 3 <| oC3 (cW_X0_get) <| oC4 (cW_X0_add) <| oAld 0 <| oGet (fgW) 1 15 <| oIld 3 <| oI 6 <| oAld 0 <| oGet (fgW) 1 11 <| oIld 1 <| oI 4 <| oC3 (cW_X0_get) <| oC4 (cW_X0_add) <| oAld 0 <| oGet (fgW) 1 15 <| oIld 3 <| oI 7 <| oAld 0 <| oGet (fgW) 1 15 <| oIld 3 <| oI 7 <| oC3 (cW_X0_get) <| oIld 4 <| oMax <| oC4 (cW_X0_set) <| oAld 0 <| oDup <| oGet (fgW) 1 5 <| oI 1 <| oAddW <| oPut (fpW) 1 5 <| oAld 0 <| oGet (fgW) 1 11 <| oIld 1 <| oC2 (cW_X0_drop) <| oVret) else oNo
theorem tX1_finish_ok : ∀ pc, bOk (encW) (bdW) mX1_finish 0 0 pc (tX1_finish pc) := fun pc => (tLeaf (okAldn iX1_finish_0 rfl <| okGet (vFgW) iX1_finish_1 <| okBi iX1_finish_4 (by decide) <| okRemT iX1_finish_6 <| okIstn iX1_finish_7 rfl (by decide) <| okAldn iX1_finish_8 rfl <| okGet (vFgW) iX1_finish_9 <| okIldn iX1_finish_12 rfl <| okC2 (qW_X0_reach iX1_finish_13) <| okAldn iX1_finish_16 rfl <| okGet (vFgW) iX1_finish_17 <| okIldn iX1_finish_20 rfl <| okAldn iX1_finish_21 rfl <| okGet (vFgW) iX1_finish_22 <| okIldn iX1_finish_25 rfl <| okC4 (qW_X0_copyRow iX1_finish_26) <| okAldn iX1_finish_29 rfl <| okGet (vFgW) iX1_finish_30 <| okIldn iX1_finish_33 rfl <| okIc iX1_finish_34 <| okC3 (qW_X0_get iX1_finish_35) <| okIstn iX1_finish_38 rfl (by decide) <| okAldn iX1_finish_39 rfl <| okGet (vFgW) iX1_finish_40 <| okIldn iX1_finish_43 rfl <| okIc iX1_finish_44 <| okC3 (qW_X0_get iX1_finish_45) <| okAldn iX1_finish_48 rfl <| okGet (vFgW) iX1_finish_49 <| okIldn iX1_finish_52 rfl <| okIc iX1_finish_53 <| okC3 (qW_X0_get iX1_finish_54) <| okSubW iX1_finish_57 <| okIst iX1_finish_58 (by decide) <| okAldn iX1_finish_60 rfl <| okGet (vFgW) iX1_finish_61 <| okIldn iX1_finish_64 rfl <| okIc iX1_finish_65 <| okIc iX1_finish_66 <| okC4 (qW_X0_add iX1_finish_67) <| okAldn iX1_finish_70 rfl <| okGet (vFgW) iX1_finish_71 <| okIldn iX1_finish_74 rfl <| okIc iX1_finish_75 <| okAldn iX1_finish_76 rfl <| okGet (vFgW) iX1_finish_77 <| okIldn iX1_finish_80 rfl <| okIc iX1_finish_81 <| okC3 (qW_X0_get iX1_finish_82) <| okC4 (qW_X0_add iX1_finish_85) <| okAldn iX1_finish_88 rfl <| okGet (vFgW) iX1_finish_89 <| okIldn iX1_finish_92 rfl <| okBi iX1_finish_93 (by decide) <| okAldn iX1_finish_95 rfl <| okGet (vFgW) iX1_finish_96 <| okIldn iX1_finish_99 rfl <| okIc iX1_finish_100 <| okC3 (qW_X0_get iX1_finish_101) <| okC4 (qW_X0_add iX1_finish_104) <| okAldn iX1_finish_107 rfl <| okGet (vFgW) iX1_finish_108 <| okIldn iX1_finish_111 rfl <| okBi iX1_finish_112 (by decide) <| okAldn iX1_finish_114 rfl <| okGet (vFgW) iX1_finish_115 <| okIldn iX1_finish_118 rfl <| okBi iX1_finish_119 (by decide) <| okC3 (qW_X0_get iX1_finish_121) <| okIld iX1_finish_124 <| okMax iX1_finish_126 <| okC4 (qW_X0_set iX1_finish_129) <| okAldn iX1_finish_132 rfl <| okDup iX1_finish_133 <| okGet (vFgW) iX1_finish_134 <| okIc iX1_finish_137 <| okAddW iX1_finish_138 <| okPut (vFpW) iX1_finish_139 <| okAldn iX1_finish_142 rfl <| okGet (vFgW) iX1_finish_143 <| okIldn iX1_finish_146 rfl <| okC2 (qW_X0_drop iX1_finish_147) <| okVret iX1_finish_150 rfl)) pc
-- X1_melt: heads [40, 156]
def tX1_melt : Nat → Blk WS := fun pc => bif Nat.blt pc 75 then (bif Nat.blt pc 34 then (bif Nat.blt pc 28 then (bif Nat.beq pc 0 then (oAld 0 <| oIld 1 <| oIld 2 <| oC3 (cW_X1_firstTouched) <| oIst 4 <| oAld 0 <| oIld 4 <| oIld 1 <| oIld 2 <| oC4 (cW_X1_touchedFrom) <| oIst 5 <| oIld 4 <| oZLt 28 <| oIld 4 <| oTo 34) else oNo) else (bif Nat.beq pc 28 then (oAld 0 <| oIld 1 <| oIld 2 <| oC3 (cW_X1_placeFor) <| oTo 34) else oNo)) else (bif Nat.blt pc 40 then (bif Nat.beq pc 34 then (oIst 6 <| oIld 6 <| oIst 7 <| oM [true, true, true, true, false, true, true, true] (oTo 40)) else oNo) else (bif Nat.blt pc 62 then (bif Nat.beq pc 40 then (oIld 7 <| oIld 6 <| oIld 5 <| oAdd <| oCGe 62 <| oAld 0 <| oIld 7 <| oC2 (cW_X1_takeBack) <| oInc 7 1 <| oM [true, true, true, true, false, true, true, true] (oTo 40)) else oNo) else (bif Nat.beq pc 62 then (oAld 0 <| oGet (fgW) 1 11 <| oIld 6 <| oC2 (cW_X0_open) <| oZNe 75 <| oVret) else oNo)))) else (bif Nat.blt pc 190 then (bif Nat.blt pc 156 then (bif Nat.beq pc 75 then (oAld 0 <| oGet (fgW) 1 11 <| oIld 6 <| oI 0 <| oIld 1 <| oC4 (cW_X0_set) <| oAld 0 <| oGet (fgW) 1 11 <| oIld 6 <| oI 1 <| oIld 2 <| oC4 (cW_X0_set) <| oAld 0 <| oGet (fgW) 1 11 <| oIld 6 <| oI 2 <| oIld 2 <| oC4 (cW_X0_set) <| oAld 0 <| oGet (fgW) 1 11 <| oIld 6 <| oI 3 <| oI 1 <| oC4 (cW_X0_set) <| oAld 0 <| oGet (fgW) 1 11 <| oIld 6 <| oI 4 <| oIld 3 <| oC4 (cW_X0_set) <| oAld 0 <| oGet (fgW) 1 11 <| oIld 6 <| oI 5 <| oIld 3 <| oC4 (cW_X0_set) <| oAld 0 <| oGet (fgW) 1 11 <| oIld 6 <| oI 6 <| oI (-1) <| oC4 (cW_X0_set) <| oI 0 <| oIst 7 <| oM [true, false, false, false, false, true, true, true] (oTo 156)) else oNo) else (bif Nat.blt pc 175 then (bif Nat.beq pc 156 then (oIld 7 <| oIld 5 <| oCGe 175 <| oAld 0 <| oIld 6 <| oC2 (cW_X1_swallowNext) <| oInc 7 1 <| oM [true, false, false, false, false, true, true, true] (oTo 156)) else oNo) else (bif Nat.beq pc 175 then (oAld 0 <| oDup <| oGet (fgW) 1 9 <| oIld 5 <| oI 1 <| oCLe 190 <| oI 1 <| oTo 191) else oNo))) else (bif Nat.blt pc 191 then (bif Nat.beq pc 190 then (oI 0 <| oTo 191) else oNo) else (bif Nat.blt pc 216 then (bif Nat.beq pc 191 then (oAddW <| oPut (fpW) 1 9 <| oAld 0 <| oIld 6 <| oC2 (cW_X1_kindOfNew) <| oIst 7 <| oIld 7 <| oZLt 216 <| oAld 0 <| oIld 7 <| oIld 6 <| oC3 (cW_X1_announce) <| oTo 216) else oNo) else (bif Nat.beq pc 216 then (oVret) else oNo))))
theorem tX1_melt_ok : ∀ pc, bOk (encW) (bdW) mX1_melt 0 0 pc (tX1_melt pc) := fun pc => (tNode (tNode (tNode (tLeaf (okAldn iX1_melt_0 rfl <| okIldn iX1_melt_1 rfl <| okIldn iX1_melt_2 rfl <| okC3 (qW_X1_firstTouched iX1_melt_3) <| okIst iX1_melt_6 (by decide) <| okAldn iX1_melt_8 rfl <| okIld iX1_melt_9 <| okIldn iX1_melt_11 rfl <| okIldn iX1_melt_12 rfl <| okC4 (qW_X1_touchedFrom iX1_melt_13) <| okIst iX1_melt_16 (by decide) <| okIld iX1_melt_18 <| okZLt (tl rfl) iX1_melt_20 <| okIld iX1_melt_23 <| okGoto (tl rfl) iX1_melt_25)) (tLeaf (okAldn iX1_melt_28 rfl <| okIldn iX1_melt_29 rfl <| okIldn iX1_melt_30 rfl <| okC3 (qW_X1_placeFor iX1_melt_31) <| okTo (tl rfl)))) (tNode (tLeaf (okIst iX1_melt_34 (by decide) <| okIld iX1_melt_36 <| okIst iX1_melt_38 (by decide) <| okM (okTo (tl rfl)))) (tNode (tLeaf (okIld iX1_melt_40 <| okIld iX1_melt_42 <| okIld iX1_melt_44 <| okAdd iX1_melt_46 <| okCGe (tl rfl) iX1_melt_47 <| okAldn iX1_melt_50 rfl <| okIld iX1_melt_51 <| okC2 (qW_X1_takeBack iX1_melt_53) <| okInc iX1_melt_56 (by decide) <| okGotoM (tl rfl) iX1_melt_59)) (tLeaf (okAldn iX1_melt_62 rfl <| okGet (vFgW) iX1_melt_63 <| okIld iX1_melt_66 <| okC2 (qW_X0_open iX1_melt_68) <| okZNe (tl rfl) iX1_melt_71 <| okVret iX1_melt_74 rfl))))) (tNode (tNode (tLeaf (okAldn iX1_melt_75 rfl <| okGet (vFgW) iX1_melt_76 <| okIld iX1_melt_79 <| okIc iX1_melt_81 <| okIldn iX1_melt_82 rfl <| okC4 (qW_X0_set iX1_melt_83) <| okAldn iX1_melt_86 rfl <| okGet (vFgW) iX1_melt_87 <| okIld iX1_melt_90 <| okIc iX1_melt_92 <| okIldn iX1_melt_93 rfl <| okC4 (qW_X0_set iX1_melt_94) <| okAldn iX1_melt_97 rfl <| okGet (vFgW) iX1_melt_98 <| okIld iX1_melt_101 <| okIc iX1_melt_103 <| okIldn iX1_melt_104 rfl <| okC4 (qW_X0_set iX1_melt_105) <| okAldn iX1_melt_108 rfl <| okGet (vFgW) iX1_melt_109 <| okIld iX1_melt_112 <| okIc iX1_melt_114 <| okIc iX1_melt_115 <| okC4 (qW_X0_set iX1_melt_116) <| okAldn iX1_melt_119 rfl <| okGet (vFgW) iX1_melt_120 <| okIld iX1_melt_123 <| okIc iX1_melt_125 <| okIldn iX1_melt_126 rfl <| okC4 (qW_X0_set iX1_melt_127) <| okAldn iX1_melt_130 rfl <| okGet (vFgW) iX1_melt_131 <| okIld iX1_melt_134 <| okIc iX1_melt_136 <| okIldn iX1_melt_137 rfl <| okC4 (qW_X0_set iX1_melt_138) <| okAldn iX1_melt_141 rfl <| okGet (vFgW) iX1_melt_142 <| okIld iX1_melt_145 <| okBi iX1_melt_147 (by decide) <| okIc iX1_melt_149 <| okC4 (qW_X0_set iX1_melt_150) <| okIc iX1_melt_153 <| okIst iX1_melt_154 (by decide) <| okM (okTo (tl rfl)))) (tNode (tLeaf (okIld iX1_melt_156 <| okIld iX1_melt_158 <| okCGe (tl rfl) iX1_melt_160 <| okAldn iX1_melt_163 rfl <| okIld iX1_melt_164 <| okC2 (qW_X1_swallowNext iX1_melt_166) <| okInc iX1_melt_169 (by decide) <| okGotoM (tl rfl) iX1_melt_172)) (tLeaf (okAldn iX1_melt_175 rfl <| okDup iX1_melt_176 <| okGet (vFgW) iX1_melt_177 <| okIld iX1_melt_180 <| okIc iX1_melt_182 <| okCLe (tl rfl) iX1_melt_183 <| okIc iX1_melt_186 <| okGoto (tl rfl) iX1_melt_187)))) (tNode (tLeaf (okIc iX1_melt_190 <| okTo (tl rfl))) (tNode (tLeaf (okAddW iX1_melt_191 <| okPut (vFpW) iX1_melt_192 <| okAldn iX1_melt_195 rfl <| okIld iX1_melt_196 <| okC2 (qW_X1_kindOfNew iX1_melt_198) <| okIst iX1_melt_201 (by decide) <| okIld iX1_melt_203 <| okZLt (tl rfl) iX1_melt_205 <| okAldn iX1_melt_208 rfl <| okIld iX1_melt_209 <| okIld iX1_melt_211 <| okC3 (qW_X1_announce iX1_melt_213) <| okTo (tl rfl))) (tLeaf (okVret iX1_melt_216 rfl)))))) pc
def wFin (w : WS) (i : Int) : WS :=
  let q := Int.tmod (w.1 5) 40
  let w1 := wCR (wRe w 3 q) q i
  let k := wG w 1 i 0
  let w2 := wA (wA (wA w1 5 k 4 1) 5 k 5 (wG w 1 i 3)) 5 k 6 (wG w 1 i 4)
  let w3 := wP w2 5 k 7 (max (wG w2 5 k 7) (wI (wG w 1 i 2 - wG w 1 i 1)))
  wDr (wFd w3 5 (wI (w.1 5 + 1))) 1 i
theorem wok_Fin {w : WS} {i : Int} (h : wok w) : wok (wFin w i) := by
  unfold wFin
  exact wok_Dr (by decide) (wok_Fd (wok_P (by decide) (wok_A (by decide) (wok_A (by decide) (wok_A (by decide) (wok_set (wok_Re (by decide) h) ((wok_Re (by decide) h) 3 (by decide))))))))
def sX1_finish : Int → WS → KW → Prop := fun i s K => (xB i ∧ wZ s 1 ≤ 161) ∧ K [] (wFin s i)
theorem mX1_finish_ok : mOk encW bdW mX1_finish (atR 0 (a1 sX1_finish)) := by
  refine mOVa1 kX1_finish (fun _ => rfl) (fun i s K h hb => wx_J [] 9 tX1_finish_ok rfl (fun J hR hJ => ?_))
  obtain ⟨⟨h1, h2⟩, hK⟩ := h
  have hq := tmod_B (b := 40) (hb.1 5) (by omega) (by omega)
  repeat' (first | (refine And.intro ?_ ?_) | intro _)
  all_goals first | omega | exact h2 | exact hR _ _ hK
def cW_X1_finish : Sp WS := atR 0 (a1 sX1_finish)
theorem qW_X1_finish {M : XI} {rc rs pc pc2 : Nat} (d : xl_Ca M pc mX1_finish pc2) : cOk encW bdW M rc rs pc pc2 2 cW_X1_finish := cSame mX1_finish_ok vX1_finish d wcl rfl lenW recW
def takeL : Nat → Int → WS → WS
  | 0, _, w => w
  | n + 1, i, w => takeL n (i + 1) (wTake w i)
def swL (p : Int) : Nat → WS → WS
  | 0, w => w
  | n + 1, w => swL p n (wSwallow w p)
def wMeltE (w : WS) (p m : Int) : WS :=
  let w4 := wFd w 9 (wI (w.1 9 + (if 1 < m then 1 else 0)))
  if 0 ≤ wKind w4 p then wAnn w4 (wKind w4 p) p else w4
def wRow (w : WS) (p k t v : Int) : WS := wP (wP (wP (wP (wP (wP (wP (wOp w 1 p) 1 p 0 k) 1 p 1 t) 1 p 2 t) 1 p 3 1) 1 p 4 v) 1 p 5 v) 1 p 6 (-1)
def wMelt2 (w : WS) (p m k t v : Int) : WS := if 0 ≤ p ∧ p ≤ wZ w 1 ∧ wZ w 1 < 161 then wMeltE (swL p m.toNat (wRow w p k t v)) p m else w
def wPl (w : WS) (k t : Int) : Int := if 0 ≤ wFirst w k t then wFirst w k t else wPlace w k t
def wMelt (w : WS) (k t v : Int) : WS := wMelt2 (takeL (wMany w (wFirst w k t) k t).toNat (wPl w k t) w) (wPl w k t) (wMany w (wFirst w k t) k t) k t v
theorem wZ_Take {w : WS} {i : Int} : wZ (wTake w i) 1 = wZ w 1 := by
  unfold wTake
  split <;> rfl
theorem wok_takeL : ∀ (n : Nat) (i : Int) (w : WS), wok w → wok (takeL n i w)
  | 0, _, _, h => h
  | n + 1, i, _, h => wok_takeL n (i + 1) _ (wok_Take h)
theorem wok_swL (p : Int) : ∀ (n : Nat) (w : WS), wok w → wok (swL p n w)
  | 0, _, h => h
  | n + 1, _, h => wok_swL p n _ (wok_Swallow h)
theorem wok_MeltE {w : WS} {p m : Int} (h : wok w) : wok (wMeltE w p m) := by
  have key : ∀ x : WS, wok x → wok (if 0 ≤ wKind x p then wAnn x (wKind x p) p else x) := by
    intro x hx
    split
    · exact wok_Ann hx
    · exact hx
  exact key _ (wok_Fd h)
theorem wok_Row {w : WS} {p k t v : Int} (h : wok w) (h2 : wZ w 1 < 161) : wok (wRow w p k t v) :=
  wok_P (by decide) (wok_P (by decide) (wok_P (by decide) (wok_P (by decide) (wok_P (by decide) (wok_P (by decide) (wok_P (by decide) (wok_Op (by decide) h h2)))))))
theorem wok_Melt2 {w : WS} {p m k t v : Int} (h : wok w) : wok (wMelt2 w p m k t v) := by
  unfold wMelt2
  split
  · next c => exact wok_MeltE (wok_swL _ _ _ (wok_Row h c.2.2))
  · exact h
theorem wok_Melt {w : WS} {k t v : Int} (h : wok w) : wok (wMelt w k t v) := wok_Melt2 (wok_takeL _ _ _ h)
theorem X1_melt_l2 {K : KW} {Pt : WS → Prop} (p m : Int) (hp : xB p) (hm : xB m) : ∀ (n : Nat) (i : Int) (s : WS), wok s → 0 ≤ i → i ≤ m → n = (m - i).toNat → K [] (wMeltE (swL p n s) p m) → wX encW bdW mX1_melt 0 0 K Pt 156 [some (pR 0), none, none, none, none, some (pI m), some (pI p), some (pI i)] [] s := by
  intro n
  induction n with
  | zero =>
    intro i s ho h0 h1 hn hK
    refine wx_J [40, 156] 9 tX1_melt_ok rfl (fun J hR hJ => ?_)
    rw [swL] at hK
    unfold wMeltE at hK
    dsimp only at hK
    by_cases c1 : 1 < m
    · rw [if_pos c1] at hK
      by_cases c2 : 0 ≤ wKind (wFd s 9 (wI (s.1 9 + 1))) p
      · rw [if_pos c2] at hK
        repeat' (first | (refine And.intro ?_ ?_) | intro _)
        all_goals first | omega | exact hR _ _ hK
      · rw [if_neg c2] at hK
        repeat' (first | (refine And.intro ?_ ?_) | intro _)
        all_goals first | omega | exact hR _ _ hK
    · rw [if_neg c1] at hK
      by_cases c2 : 0 ≤ wKind (wFd s 9 (wI (s.1 9 + 0))) p
      · rw [if_pos c2] at hK
        repeat' (first | (refine And.intro ?_ ?_) | intro _)
        all_goals first | omega | exact hR _ _ hK
      · rw [if_neg c2] at hK
        repeat' (first | (refine And.intro ?_ ?_) | intro _)
        all_goals first | omega | exact hR _ _ hK
  | succ n ih =>
    intro i s ho h0 h1 hn hK
    refine wx_J [40, 156] 9 tX1_melt_ok rfl (fun J hR hJ => ?_)
    have hz : wZ s 1 ≤ 161 := (ho 1 (by decide)).2
    have g := ih (i + 1) (wSwallow s p) (wok_Swallow ho) (by omega) (by omega) (by omega) hK
    repeat' (first | (refine And.intro ?_ ?_) | intro _)
    all_goals first | omega | exact hJ _ _ _ _ g
theorem X1_melt_l1 {K : KW} {Pt : WS → Prop} (p m k t v : Int) (hp : 0 ≤ p ∧ p ≤ 161) (hm : 0 ≤ m ∧ m ≤ 161) (hk : xB k) (ht : xB t) (hv : xB v) : ∀ (n : Nat) (i : Int) (s : WS), wok s → p ≤ i → i ≤ p + m → n = (p + m - i).toNat → K [] (wMelt2 (takeL n i s) p m k t v) → wX encW bdW mX1_melt 0 0 K Pt 40 [some (pR 0), some (pI k), some (pI t), some (pI v), none, some (pI m), some (pI p), some (pI i)] [] s := by
  intro n
  induction n with
  | zero =>
    intro i s ho h0 h1 hn hK
    refine wx_J [40, 156] 9 tX1_melt_ok rfl (fun J hR hJ => ?_)
    rw [takeL] at hK
    unfold wMelt2 at hK
    refine ⟨⟨⟨by omega, by omega⟩, ⟨by omega, by omega⟩⟩, fun _ => ?_, fun c => absurd c (by omega)⟩
    refine ⟨⟨by omega, by omega⟩, fun c => ?_, fun c => ?_⟩
    · have c : 0 ≤ p ∧ p ≤ wZ s 1 ∧ wZ s 1 < 161 := c
      rw [if_pos c] at hK
      have g := X1_melt_l2 (K := K) (Pt := Pt) p m ⟨by omega, by omega⟩ ⟨by omega, by omega⟩ m.toNat 0 (wRow s p k t v) (wok_Row ho c.2.2) (by omega) (by omega) (by omega) hK
      repeat' (first | (refine And.intro ?_ ?_) | intro _)
      all_goals first | omega | exact hJ _ _ _ _ g
    · have c : ¬ (0 ≤ p ∧ p ≤ wZ s 1 ∧ wZ s 1 < 161) := c
      rw [if_neg c] at hK
      repeat' (first | (refine And.intro ?_ ?_) | intro _)
      all_goals first | omega | exact hR _ _ hK
  | succ n ih =>
    intro i s ho h0 h1 hn hK
    refine wx_J [40, 156] 9 tX1_melt_ok rfl (fun J hR hJ => ?_)
    have g := ih (i + 1) (wTake s i) (wok_Take ho) (by omega) (by omega) (by omega) hK
    repeat' (first | (refine And.intro ?_ ?_) | intro _)
    all_goals first | omega | exact hJ _ _ _ _ g
def sX1_melt : Int → Int → Int → WS → KW → Prop := fun k t v s K => (xB k ∧ xB t ∧ xB v ∧ wok s) ∧ K [] (wMelt s k t v)
theorem wMelt_b {s : WS} {k t : Int} (ho : wok s) : (0 ≤ wPl s k t ∧ wPl s k t ≤ 161) ∧ (0 ≤ wMany s (wFirst s k t) k t ∧ wMany s (wFirst s k t) k t ≤ 161) := by
  have hz := ho 1 (by decide)
  have hz2 : wZ s 1 ≤ 161 := hz.2
  have f1 := ftL_b s k t (wZ s 1).toNat 0 (by omega)
  have f2 := pfL_b s k t (wZ s 1).toNat 0
  have f3 := tfL_b s k t (wZ s 1 - wFirst s k t).toNat (wFirst s k t)
  unfold wPl wMany wFirst wPlace at *
  constructor
  · split <;> omega
  · split <;> omega
theorem mX1_melt_ok : mOk encW bdW mX1_melt (atR 0 (a3 sX1_melt)) := by
  refine mOVa3 kX1_melt (fun _ _ _ => rfl) (fun k t v s K h hb => wx_J [40, 156] 9 tX1_melt_ok rfl (fun J hR hJ => ?_))
  obtain ⟨⟨h1, h2, h3, h4⟩, hK⟩ := h
  obtain ⟨b1, b2⟩ := wMelt_b (k := k) (t := t) h4
  have hz := h4 1 (by decide)
  have g := X1_melt_l1 (K := K) (Pt := fun _ => False) (wPl s k t) (wMany s (wFirst s k t) k t) k t v b1 b2 h1 h2 h3 _ (wPl s k t) s h4 (Int.le_refl _) (by omega) rfl (by
    rw [show (wPl s k t + wMany s (wFirst s k t) k t - wPl s k t).toNat = (wMany s (wFirst s k t) k t).toNat by omega]
    exact hK)
  refine ⟨⟨h1, h2⟩, fun q1 => ⟨⟨q1, h1, h2⟩, fun q2 => ⟨q1, fun c => ?_, fun c => ?_⟩⟩⟩
  · refine ⟨⟨h1, h2, hz.1⟩, fun q3 => hJ _ _ _ _ ?_⟩
    rw [wPl, if_neg (by omega)] at g
    exact g
  · refine hJ _ _ _ _ ?_
    rw [wPl, if_pos c] at g
    exact g
def cW_X1_melt : Sp WS := atR 0 (a3 sX1_melt)
theorem qW_X1_melt {M : XI} {rc rs pc pc2 : Nat} (d : xl_Ca M pc mX1_melt pc2) : cOk encW bdW M rc rs pc pc2 4 cW_X1_melt := cSame mX1_melt_ok vX1_melt d wcl rfl lenW recW
