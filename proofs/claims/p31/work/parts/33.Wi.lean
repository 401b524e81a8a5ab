/-! ===== World: an input is played; a World and a table of inputs ===== -/
abbrev WTS : Type := WS × TS
abbrev KWT : Type := PS → WTS → Prop
def encWT (s : WTS) : XH := encW s.1 ++ encT 160 7 s.2
def bdWT (s : WTS) : Prop := bdW s.1 ∧ bdT 160 7 s.2
theorem lkWT_t : vLk encWT bdWT (encT 160 7) (bdT 160 7) (fun k => 13 + k) (fun s => s.2) (fun s b => (s.1, b)) :=
  vLk_run (n := 2) (fun _ => rfl) (by decide) (fun s => rfl) (fun s t => rfl) (fun s hb => hb.2) (fun s t hb ht => ⟨hb.1, ht⟩) (fun s => Nat.le_of_ble_eq_true rfl)
theorem lkWT_w : vLk encWT bdWT encW bdW (fun k => 0 + k) (fun s => s.1) (fun s b => (b, s.2)) :=
  vLk_run (n := 13) (fun _ => rfl) (by decide) (fun s => rfl) (fun s t => rfl) (fun s hb => hb.1) (fun s t hb ht => ⟨ht, hb.2⟩) (fun s => Nat.le_of_ble_eq_true rfl)
section WTC
variable {M : XI} {rc rs pc pc2 : Nat}
def cWT_X0_get : Sp WTS := atR 13 (a2 (fun i c s K => (xB i ∧ xB c) ∧ (xB (tg 160 7 s.2.2 i c) → K [pI (tg 160 7 s.2.2 i c)] s)))
theorem qWT_X0_get (d : xl_Ca M pc mX0_get pc2) : cOk encWT bdWT M rc rs pc pc2 3 cWT_X0_get := by
  refine cVirt (mX0_get_ok 160 7) vX0_get d tcl rfl (fun as s K hb h => ?_)
  obtain ⟨as, rfl, h1⟩ := atR_inv h
  obtain ⟨i, c, rfl, h2, h3⟩ := a2_inv h1
  exact ⟨_, _, _, [pI i, pI c], lkWT_t, ⟨_, rfl⟩, rfl, h2, h3 (tg_B hb.2.2.2)⟩
def cWT_X1_playEvent : Sp WTS := atR 0 (a4 (fun k t v r s K => sX1_playEvent k t v r s.1 (fun a w => K a (w, s.2))))
theorem qWT_X1_playEvent (d : xl_Ca M pc mX1_playEvent pc2) : cOk encWT bdWT M rc rs pc pc2 5 cWT_X1_playEvent := by
  refine cVirt mX1_playEvent_ok vX1_playEvent d wcl rfl (fun as s K hb h => ?_)
  obtain ⟨as, rfl, h1⟩ := atR_inv h
  obtain ⟨x, y, z, u, rfl, h2⟩ := a4_inv h1
  exact ⟨_, _, _, [pI x, pI y, pI z, pI u], lkWT_w, ⟨_, rfl⟩, rfl, h2⟩
def cWT_X1_playMark : Sp WTS := atR 0 (a2 (fun r t s K => sX1_playMark r t s.1 (fun a w => K a (w, s.2))))
theorem qWT_X1_playMark (d : xl_Ca M pc mX1_playMark pc2) : cOk encWT bdWT M rc rs pc pc2 3 cWT_X1_playMark := by
  refine cVirt mX1_playMark_ok vX1_playMark d wcl rfl (fun as s K hb h => ?_)
  obtain ⟨as, rfl, h1⟩ := atR_inv h
  obtain ⟨x, y, rfl, h2⟩ := a2_inv h1
  exact ⟨_, _, _, [pI x, pI y], lkWT_w, ⟨_, rfl⟩, rfl, h2⟩
def cWT_X1_playIdle : Sp WTS := atR 0 (a1 (fun r s K => sX1_playIdle r s.1 (fun a w => K a (w, s.2))))
theorem qWT_X1_playIdle (d : xl_Ca M pc mX1_playIdle pc2) : cOk encWT bdWT M rc rs pc pc2 2 cWT_X1_playIdle := by
  refine cVirt mX1_playIdle_ok vX1_playIdle d wcl rfl (fun as s K hb h => ?_)
  obtain ⟨as, rfl, h1⟩ := atR_inv h
  obtain ⟨x, rfl, h2⟩ := a1_inv h1
  exact ⟨_, _, _, [pI x], lkWT_w, ⟨_, rfl⟩, rfl, h2⟩
end WTC
-- X1_playInput: heads []
def tX1_playInput : Nat → Blk WTS := fun pc => bif Nat.blt pc 71 then (bif Nat.blt pc 48 then (bif Nat.beq pc 0 then (oAld 1 <| oIld 2 <| oI 1 <| oC3 (cWT_X0_get) <| oIst 3 <| oAld 1 <| oIld 2 <| oI 2 <| oC3 (cWT_X0_get) <| oIst 4 <| oAld 1 <| oIld 2 <| oI 0 <| oC3 (cWT_X0_get) <| oLook [(0, 48), (1, 71)] 81) else oNo) else (bif Nat.beq pc 48 then (oAld 0 <| oAld 1 <| oIld 2 <| oI 3 <| oC3 (cWT_X0_get) <| oIld 4 <| oAld 1 <| oIld 2 <| oI 4 <| oC3 (cWT_X0_get) <| oIld 3 <| oC5 (cWT_X1_playEvent) <| oPop <| oTo 86) else oNo)) else (bif Nat.blt pc 81 then (bif Nat.beq pc 71 then (oAld 0 <| oIld 3 <| oIld 4 <| oC3 (cWT_X1_playMark) <| oTo 86) else oNo) else (bif Nat.blt pc 86 then (bif Nat.beq pc 81 then (oAld 0 <| oIld 3 <| oC2 (cWT_X1_playIdle) <| oTo 86) else oNo) else (bif Nat.beq pc 86 then (oVret) else oNo)))
theorem tX1_playInput_ok : ∀ pc, bOk (encWT) (bdWT) mX1_playInput 0 0 pc (tX1_playInput pc) := fun pc => (tNode (tNode (tLeaf (okAldn iX1_playInput_0 rfl <| okIldn iX1_playInput_1 rfl <| okIc iX1_playInput_2 <| okC3 (qWT_X0_get iX1_playInput_3) <| okIstn iX1_playInput_6 rfl (by decide) <| okAldn iX1_playInput_7 rfl <| okIldn iX1_playInput_8 rfl <| okIc iX1_playInput_9 <| okC3 (qWT_X0_get iX1_playInput_10) <| okIst iX1_playInput_13 (by decide) <| okAldn iX1_playInput_15 rfl <| okIldn iX1_playInput_16 rfl <| okIc iX1_playInput_17 <| okC3 (qWT_X0_get iX1_playInput_18) <| okLook (by decide +kernel) (by decide +kernel) (by decide +kernel) iX1_playInput_21.1)) (tLeaf (okAldn iX1_playInput_48 rfl <| okAldn iX1_playInput_49 rfl <| okIldn iX1_playInput_50 rfl <| okIc iX1_playInput_51 <| okC3 (qWT_X0_get iX1_playInput_52) <| okIld iX1_playInput_55 <| okAldn iX1_playInput_57 rfl <| okIldn iX1_playInput_58 rfl <| okIc iX1_playInput_59 <| okC3 (qWT_X0_get iX1_playInput_60) <| okIldn iX1_playInput_63 rfl <| okC5 (qWT_X1_playEvent iX1_playInput_64) <| okPop iX1_playInput_67 <| okGoto (tl rfl) iX1_playInput_68))) (tNode (tLeaf (okAldn iX1_playInput_71 rfl <| okIldn iX1_playInput_72 rfl <| okIld iX1_playInput_73 <| okC3 (qWT_X1_playMark iX1_playInput_75) <| okGoto (tl rfl) iX1_playInput_78)) (tNode (tLeaf (okAldn iX1_playInput_81 rfl <| okIldn iX1_playInput_82 rfl <| okC2 (qWT_X1_playIdle iX1_playInput_83) <| okTo (tl rfl))) (tLeaf (okVret iX1_playInput_86 rfl))))) pc
def wPlayN (w : WS) (g : Nat → Int) (i : Int) : WS := if tg 160 7 g i 0 = 0 then wPlayE w (tg 160 7 g i 3) (tg 160 7 g i 2) (tg 160 7 g i 4) (tg 160 7 g i 1) else if tg 160 7 g i 0 = 1 then wPlayM w (tg 160 7 g i 1) (tg 160 7 g i 2) else wPlayI w (tg 160 7 g i 1)
theorem wok_PlayN {w : WS} {g : Nat → Int} {i : Int} (h : wok w) : wok (wPlayN w g i) := by
  unfold wPlayN
  split
  · exact wok_PlayE h
  · split
    · exact wok_PlayM h
    · exact wok_PlayI h
def sX1_playInput : List PV → WTS → KWT → Prop := fun as s K => match as with
  | [.inr (.inr (.inl 13)), .inl i] => (xB i ∧ wok s.1) ∧ K [] (wPlayN s.1 s.2.2 i, s.2)
  | _ => False
theorem mX1_playInput_ok : mOk encWT bdWT mX1_playInput (atR 0 sX1_playInput) := by
  refine mOk_of kX1_playInput (fun as s K h => ?_)
  obtain ⟨as, rfl, h1⟩ := atR_inv h
  unfold sX1_playInput at h1
  split at h1
  · next i =>
    refine ⟨rfl, fun hb => wx_J [] 9 tX1_playInput_ok rfl (fun J hR hJ => ?_)⟩
    obtain ⟨⟨h2, h3⟩, hK⟩ := h1
    unfold wPlayN at hK
    refine ⟨⟨h2, ⟨by omega, by omega⟩⟩, fun b1 => ⟨⟨h2, ⟨by omega, by omega⟩⟩, fun b2 => ⟨⟨h2, ⟨by omega, by omega⟩⟩, fun b0 => ⟨b0, fun c0 => ?_, fun c0 => ⟨fun c1 => ?_, fun c1 => ?_⟩⟩⟩⟩⟩
    · rw [if_pos c0] at hK
      refine ⟨⟨h2, ⟨by omega, by omega⟩⟩, fun b3 => ⟨⟨h2, ⟨by omega, by omega⟩⟩, fun b4 => ⟨⟨b3, b2, b4, b1, h3⟩, fun _ _ => hR _ _ hK⟩⟩⟩
    · rw [if_neg c0, if_pos c1] at hK
      exact ⟨⟨b1, b2, h3⟩, hR _ _ hK⟩
    · rw [if_neg c0, if_neg c1] at hK
      exact ⟨⟨b1, h3⟩, hR _ _ hK⟩
  · exact h1.elim
