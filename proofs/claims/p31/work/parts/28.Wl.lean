/-! ===== World: leastMark, sentOf, dueBehind ===== -/
def cW_X1_ripening : Sp WS := atR 0 (a1 sX1_ripening)
theorem qW_X1_ripening {M : XI} {rc rs pc pc2 : Nat} (d : xl_Ca M pc mX1_ripening pc2) : cOk encW bdW M rc rs pc pc2 2 cW_X1_ripening := cSame mX1_ripening_ok vX1_ripening d wcl rfl lenW recW
def cW_X1_firstTouched : Sp WS := atR 0 (a2 sX1_firstTouched)
theorem qW_X1_firstTouched {M : XI} {rc rs pc pc2 : Nat} (d : xl_Ca M pc mX1_firstTouched pc2) : cOk encW bdW M rc rs pc pc2 3 cW_X1_firstTouched := cSame mX1_firstTouched_ok vX1_firstTouched d wcl rfl lenW recW
def cW_X1_touchedFrom : Sp WS := atR 0 (a3 sX1_touchedFrom)
theorem qW_X1_touchedFrom {M : XI} {rc rs pc pc2 : Nat} (d : xl_Ca M pc mX1_touchedFrom pc2) : cOk encW bdW M rc rs pc pc2 4 cW_X1_touchedFrom := cSame mX1_touchedFrom_ok vX1_touchedFrom d wcl rfl lenW recW
def cW_X1_placeFor : Sp WS := atR 0 (a2 sX1_placeFor)
theorem qW_X1_placeFor {M : XI} {rc rs pc pc2 : Nat} (d : xl_Ca M pc mX1_placeFor pc2) : cOk encW bdW M rc rs pc pc2 3 cW_X1_placeFor := cSame mX1_placeFor_ok vX1_placeFor d wcl rfl lenW recW
def lmL (w : WS) (lo : Int) : Nat → Int → Int → Int
  | 0, _, l => l
  | n + 1, s, l => lmL w lo n (s + 1) (if s = lo ∨ wG w 0 s 2 ≠ 0 then l else if l < 0 then wG w 0 s 0 else min l (wG w 0 s 0))
def wLeast (w : WS) (lo : Int) : Int := lmL w lo (wZ w 0).toNat 0 (-1)
theorem min_B {a b : Int} (h1 : xB a) (h2 : xB b) : xB (min a b) := ⟨by omega, by omega⟩
theorem max_B {a b : Int} (h1 : xB a) (h2 : xB b) : xB (max a b) := ⟨by omega, by omega⟩
theorem lmL_B (w : WS) (lo : Int) (hb : bdW w) : ∀ (n : Nat) (s l : Int), xB l → xB (lmL w lo n s l)
  | 0, _, _, h => h
  | n + 1, s, l, h => by
    refine lmL_B w lo hb n (s + 1) _ ?_
    split
    · exact h
    · split
      · exact wG_B hb
      · exact min_B h (wG_B hb)
theorem X1_leastMark_loop {K : KW} {Pt : WS → Prop} (s : WS) (lo : Int) (hlo : xB lo) (hb : bdW s) : ∀ (m : Nat) (i l : Int), 0 ≤ i → xB l → i ≤ max 0 (wZ s 0) → m = (wZ s 0 - i).toNat → K [pI (lmL s lo m i l)] s → wX encW bdW mX1_leastMark 0 0 K Pt 4 [some (pR 0), some (pI lo), some (pI l), some (pI i), none] [] s := by
  intro m
  have hz : xB (wZ s 0) := (hb.2 0).1
  induction m with
  | zero =>
    intro i l h0 hl h1 hm hK
    refine wx_J [4] 9 tX1_leastMark_ok rfl (fun J hR hJ => ?_)
    intro _
    refine ⟨⟨⟨by omega, by omega⟩, hz⟩, fun _ => hR _ _ hK, fun c => ?_⟩
    have c : i < wZ s 0 := c
    omega
  | succ m ih =>
    intro i l h0 hl h1 hm hK
    refine wx_J [4] 9 tX1_leastMark_ok rfl (fun J hR hJ => ?_)
    have hB := wG_B (t := 0) (i := i) (c := 0) hb
    have g1 := ih (i + 1) l (by omega) hl (by omega) (by omega)
    have g2 := ih (i + 1) (wG s 0 i 0) (by omega) hB (by omega) (by omega)
    have g3 := ih (i + 1) (min l (wG s 0 i 0)) (by omega) (min_B hl hB) (by omega) (by omega)
    rw [lmL] at hK
    have e1 : (i = lo ∨ wG s 0 i 2 ≠ 0) → K [pI (lmL s lo m (i + 1) l)] s := fun c => by rw [if_pos c] at hK; exact hK
    have e2 : ¬ (i = lo ∨ wG s 0 i 2 ≠ 0) → l < 0 → K [pI (lmL s lo m (i + 1) (wG s 0 i 0))] s := fun c c2 => by rw [if_neg c, if_pos c2] at hK; exact hK
    have e3 : ¬ (i = lo ∨ wG s 0 i 2 ≠ 0) → ¬ l < 0 → K [pI (lmL s lo m (i + 1) (min l (wG s 0 i 0)))] s := fun c c2 => by rw [if_neg c, if_neg c2] at hK; exact hK
    intro _
    refine ⟨⟨⟨by omega, by omega⟩, hz⟩, fun c => ?_, fun c => ?_⟩
    · have c : wZ s 0 ≤ i := c
      omega
    · repeat' (first | (refine And.intro ?_ ?_) | intro _)
      all_goals first | omega | exact hJ _ _ _ _ (g1 (e1 (by omega))) | exact hJ _ _ _ _ (g2 (e2 (by omega) (by omega))) | exact hJ _ _ _ _ (g3 (e3 (by omega) (by omega)))
def sX1_leastMark : Int → WS → KW → Prop := fun lo s K => xB lo ∧ (xB (wLeast s lo) → K [pI (wLeast s lo)] s)
theorem mX1_leastMark_ok : mOk encW bdW mX1_leastMark (atR 0 (a1 sX1_leastMark)) := by
  refine mOVa1 kX1_leastMark (fun _ => rfl) (fun lo s K h hb => wx_J [4] 9 tX1_leastMark_ok rfl (fun J hR hJ => ?_))
  obtain ⟨h1, h2⟩ := h
  have hz : xB (wZ s 0) := (hb.2 0).1
  have hK := h2 (lmL_B s lo hb _ _ _ ⟨by omega, by omega⟩)
  exact hJ _ _ _ _ (X1_leastMark_loop s lo h1 hb (wZ s 0).toNat 0 (-1) (by omega) ⟨by omega, by omega⟩ (by omega) (by omega) hK)
def cW_X1_leastMark : Sp WS := atR 0 (a1 sX1_leastMark)
theorem qW_X1_leastMark {M : XI} {rc rs pc pc2 : Nat} (d : xl_Ca M pc mX1_leastMark pc2) : cOk encW bdW M rc rs pc pc2 2 cW_X1_leastMark := cSame mX1_leastMark_ok vX1_leastMark d wcl rfl lenW recW
def wSentOf (w : WS) (k : Int) : Int := sumI (fun i => wG w 5 i k) 6 0 0
theorem X1_sentOf_loop {K : KW} {Pt : WS → Prop} (s : WS) (k : Int) (hk : xB k) (hb : bdW s) : ∀ (m : Nat) (i n : Int), 0 ≤ i → i ≤ 6 → m = (6 - i).toNat → K [pI (sumI (fun i => wG s 5 i k) m i n)] s → wX encW bdW mX1_sentOf 0 0 K Pt 4 [some (pR 0), some (pI k), some (pI n), some (pI i)] [] s := by
  intro m
  induction m with
  | zero =>
    intro i n h0 h1 hm hK
    refine wx_J [4] 9 tX1_sentOf_ok rfl (fun J hR hJ => ?_)
    repeat' (first | (refine And.intro ?_ ?_) | intro _)
    all_goals first | omega | exact hR _ _ hK
  | succ m ih =>
    intro i n h0 h1 hm hK
    refine wx_J [4] 9 tX1_sentOf_ok rfl (fun J hR hJ => ?_)
    have g0 := ih (i + 1) (wI (n + wG s 5 i k)) (by omega) (by omega) (by omega) hK
    repeat' (first | (refine And.intro ?_ ?_) | intro _)
    all_goals first | omega | exact hJ _ _ _ _ g0
def sX1_sentOf : Int → WS → KW → Prop := fun k s K => xB k ∧ (xB (wSentOf s k) → K [pI (wSentOf s k)] s)
theorem mX1_sentOf_ok : mOk encW bdW mX1_sentOf (atR 0 (a1 sX1_sentOf)) := by
  refine mOVa1 kX1_sentOf (fun _ => rfl) (fun k s K h hb => wx_J [4] 9 tX1_sentOf_ok rfl (fun J hR hJ => ?_))
  obtain ⟨h1, h2⟩ := h
  exact hJ _ _ _ _ (X1_sentOf_loop s k h1 hb 6 0 0 (by omega) (by omega) (by omega) (h2 (sumI_B _ _ _ _ ⟨by omega, by omega⟩)))
/-- whose turn it is: found, and its turn -/
abbrev wDueC (w : WS) (pa be i : Int) : Prop := wRipe w i (w.1 3) ∧ ¬ (wRipe w i be ∧ ¬ wOver w i (w.1 3)) ∧ pa < wTurn w i
def dbL (w : WS) (pa be : Int) : Nat → Int → Int → Int → Int
  | 0, _, f, _ => f
  | n + 1, i, f, l => if wDueC w pa be i ∧ (f < 0 ∨ wTurn w i < l) then dbL w pa be n (i + 1) i (wTurn w i) else dbL w pa be n (i + 1) f l
def wDue (w : WS) (pa be : Int) : Int := dbL w pa be (wZ w 1).toNat 0 (-1) 0
theorem dbL_b (w : WS) (pa be : Int) : ∀ (n : Nat) (i f l : Int), 0 ≤ i → (f = -1 ∨ (0 ≤ f ∧ f < i)) → dbL w pa be n i f l = -1 ∨ (0 ≤ dbL w pa be n i f l ∧ dbL w pa be n i f l < i + n)
  | 0, i, f, l, h, h1 => by unfold dbL; omega
  | n + 1, i, f, l, h, h1 => by
    unfold dbL
    split
    · have := dbL_b w pa be n (i + 1) i (wTurn w i) (by omega) (by omega)
      omega
    · have := dbL_b w pa be n (i + 1) f l (by omega) (by omega)
      omega
theorem X1_dueBehind_loop {K : KW} {Pt : WS → Prop} (s : WS) (pa be : Int) (hpa : xB pa) (hbe : xB be) (hb : bdW s) : ∀ (m : Nat) (i f l : Int), 0 ≤ i → xB f → xB l → i ≤ max 0 (wZ s 1) → m = (wZ s 1 - i).toNat → K [pI (dbL s pa be m i f l)] s → wX encW bdW mX1_dueBehind 0 0 K Pt 8 [some (pR 0), some (pI pa), some (pI be), some (pI f), some (pI l), some (pI i), none] [] s := by
  intro m
  have hz : xB (wZ s 1) := (hb.2 1).1
  induction m with
  | zero =>
    intro i f l h0 hf hl h1 hm hK
    refine wx_J [8] 9 tX1_dueBehind_ok rfl (fun J hR hJ => ?_)
    intro _
    refine ⟨⟨⟨by omega, by omega⟩, hz⟩, fun _ => hR _ _ hK, fun c => ?_⟩
    have c : i < wZ s 1 := c
    omega
  | succ m ih =>
    intro i f l h0 hf hl h1 hm hK
    refine wx_J [8] 9 tX1_dueBehind_ok rfl (fun J hR hJ => ?_)
    have g1 := ih (i + 1) f l (by omega) hf hl (by omega) (by omega)
    have g2 := ih (i + 1) i (wTurn s i) (by omega) ⟨by omega, by omega⟩ (wI_B _) (by omega) (by omega)
    rw [dbL] at hK
    have e1 : (wDueC s pa be i ∧ (f < 0 ∨ wTurn s i < l)) → K [pI (dbL s pa be m (i + 1) i (wTurn s i))] s := fun c => by rw [if_pos c] at hK; exact hK
    have e2 : ¬ (wDueC s pa be i ∧ (f < 0 ∨ wTurn s i < l)) → K [pI (dbL s pa be m (i + 1) f l)] s := fun c => by rw [if_neg c] at hK; exact hK
    intro _
    refine ⟨⟨⟨by omega, by omega⟩, hz⟩, fun c => ?_, fun c => ?_⟩
    · have c : wZ s 1 ≤ i := c
      omega
    · repeat' (first | (refine And.intro ?_ ?_) | intro _)
      all_goals first | omega | exact hJ _ _ _ _ (g1 (e2 (by omega))) | exact hJ _ _ _ _ (g2 (e1 (by omega)))
def sX1_dueBehind : Int → Int → WS → KW → Prop := fun pa be s K => (xB pa ∧ xB be) ∧ (xB (wDue s pa be) → K [pI (wDue s pa be)] s)
theorem mX1_dueBehind_ok : mOk encW bdW mX1_dueBehind (atR 0 (a2 sX1_dueBehind)) := by
  refine mOVa2 kX1_dueBehind (fun _ _ => rfl) (fun pa be s K h hb => wx_J [8] 9 tX1_dueBehind_ok rfl (fun J hR hJ => ?_))
  obtain ⟨⟨h1, h3⟩, h2⟩ := h
  have hz : xB (wZ s 1) := (hb.2 1).1
  have hc := dbL_b s pa be (wZ s 1).toNat 0 (-1) 0 (by omega) (by omega)
  have hK := h2 ⟨by unfold wDue; omega, by unfold wDue; omega⟩
  exact hJ _ _ _ _ (X1_dueBehind_loop s pa be h1 h3 hb (wZ s 1).toNat 0 (-1) 0 (by omega) ⟨by omega, by omega⟩ ⟨by omega, by omega⟩ (by omega) (by omega) hK)
def cW_X1_dueBehind : Sp WS := atR 0 (a2 sX1_dueBehind)
theorem qW_X1_dueBehind {M : XI} {rc rs pc pc2 : Nat} (d : xl_Ca M pc mX1_dueBehind pc2) : cOk encW bdW M rc rs pc pc2 3 cW_X1_dueBehind := cSame mX1_dueBehind_ok vX1_dueBehind d wcl rfl lenW recW
-- X1_send: heads []
def tX1_send : Nat → Blk WS := fun pc => bif Nat.beq pc 0 then (oAld 0 <| oGet (fgW) 1 4 <| oI 60 <| oRemT <| oIst 3 <| oAld 0 <| oGet (fgW) 1 12 <| oIld 3 <| oC2 (cW_X0_reach) <| oAld 0 <| oGet (fgW) 1 11 <| oIld 2 <| oI 0 <| oC3 (cW_X0_get) <| oIst 4 <| oAld 0 <| oGet (fgW) 1 12 <| oIld 3 <| oI 0 <| oIld 1 <| oC4 (cW_X0_set) <| oAld 0 <| oGet (fgW) 1 12 <| oIld 3 <| oI 1 <| oIld 4 <| oC4 (cW_X0_set) <| oAld 0 <| oGet (fgW) 1 12 <| oIld 3 <| oI 2 <| oAld 0 <| oGet (fgW) 1 11 <| oIld 2 <| oI 1 <| oC3 (cW_X0_get) <| oC4 (cW_X0_set) <| oAld 0 <| oGet (fgW) 1 12 <| oIld 3 <| oI 3 <| oAld 0 <| oGet (fgW) 1 11 <| oIld 2 <| oI 2 <| oC3 (cW_X0_get) <| oC4 (cW_X0_set) <| oAld 0 <| oGet (fgW) 1 12 <| oIld 3 <| oI 4 <| oAld 0 <| oGet (fgW) 1 11 <| oIld 2 <| oI 3 <| oC3 (cW_X0_get) <| oC4 (cW_X0_set) <| oAld 0 <| oGet (fgW) 1 12 <| oIld 3 <| oI 5 <| oAld 0 <| oGet (fgW) 1 11 <| oIld 2 <| oI 4 <| oC3 (cW_X0_get) <| oC4 (cW_X0_set) <| oAld 0 <| oGet (fgW) 1 15 <| oIld 4 <| oIld 1 <| oI 1 <| oC4 (cW_X0_add) <| oAld 0 <| oDup <| oGet (fgW) 1 4 <| oI 1 <| oAddW <| oPut (fpW) 1 4 <| oVret) else oNo
theorem tX1_send_ok : ∀ pc, bOk (encW) (bdW) mX1_send 0 0 pc (tX1_send pc) := fun pc => (tLeaf (okAldn iX1_send_0 rfl <| okGet (vFgW) iX1_send_1 <| okBi iX1_send_4 (by decide) <| okRemT iX1_send_6 <| okIstn iX1_send_7 rfl (by decide) <| okAldn iX1_send_8 rfl <| okGet (vFgW) iX1_send_9 <| okIldn iX1_send_12 rfl <| okC2 (qW_X0_reach iX1_send_13) <| okAldn iX1_send_16 rfl <| okGet (vFgW) iX1_send_17 <| okIldn iX1_send_20 rfl <| okIc iX1_send_21 <| okC3 (qW_X0_get iX1_send_22) <| okIst iX1_send_25 (by decide) <| okAldn iX1_send_27 rfl <| okGet (vFgW) iX1_send_28 <| okIldn iX1_send_31 rfl <| okIc iX1_send_32 <| okIldn iX1_send_33 rfl <| okC4 (qW_X0_set iX1_send_34) <| okAldn iX1_send_37 rfl <| okGet (vFgW) iX1_send_38 <| okIldn iX1_send_41 rfl <| okIc iX1_send_42 <| okIld iX1_send_43 <| okC4 (qW_X0_set iX1_send_45) <| okAldn iX1_send_48 rfl <| okGet (vFgW) iX1_send_49 <| okIldn iX1_send_52 rfl <| okIc iX1_send_53 <| okAldn iX1_send_54 rfl <| okGet (vFgW) iX1_send_55 <| okIldn iX1_send_58 rfl <| okIc iX1_send_59 <| okC3 (qW_X0_get iX1_send_60) <| okC4 (qW_X0_set iX1_send_63) <| okAldn iX1_send_66 rfl <| okGet (vFgW) iX1_send_67 <| okIldn iX1_send_70 rfl <| okIc iX1_send_71 <| okAldn iX1_send_72 rfl <| okGet (vFgW) iX1_send_73 <| okIldn iX1_send_76 rfl <| okIc iX1_send_77 <| okC3 (qW_X0_get iX1_send_78) <| okC4 (qW_X0_set iX1_send_81) <| okAldn iX1_send_84 rfl <| okGet (vFgW) iX1_send_85 <| okIldn iX1_send_88 rfl <| okIc iX1_send_89 <| okAldn iX1_send_90 rfl <| okGet (vFgW) iX1_send_91 <| okIldn iX1_send_94 rfl <| okIc iX1_send_95 <| okC3 (qW_X0_get iX1_send_96) <| okC4 (qW_X0_set iX1_send_99) <| okAldn iX1_send_102 rfl <| okGet (vFgW) iX1_send_103 <| okIldn iX1_send_106 rfl <| okIc iX1_send_107 <| okAldn iX1_send_108 rfl <| okGet (vFgW) iX1_send_109 <| okIldn iX1_send_112 rfl <| okIc iX1_send_113 <| okC3 (qW_X0_get iX1_send_114) <| okC4 (qW_X0_set iX1_send_117) <| okAldn iX1_send_120 rfl <| okGet (vFgW) iX1_send_121 <| okIld iX1_send_124 <| okIldn iX1_send_126 rfl <| okIc iX1_send_127 <| okC4 (qW_X0_add iX1_send_128) <| okAldn iX1_send_131 rfl <| okDup iX1_send_132 <| okGet (vFgW) iX1_send_133 <| okIc iX1_send_136 <| okAddW iX1_send_137 <| okPut (vFpW) iX1_send_138 <| okVret iX1_send_141 rfl)) pc
def wSend (w : WS) (k i : Int) : WS :=
  let q := Int.tmod (w.1 4) 60
  wFd (wA (wP (wP (wP (wP (wP (wP (wRe w 2 q) 2 q 0 k) 2 q 1 (wG w 1 i 0)) 2 q 2 (wG w 1 i 1)) 2 q 3 (wG w 1 i 2)) 2 q 4 (wG w 1 i 3)) 2 q 5 (wG w 1 i 4)) 5 (wG w 1 i 0) k 1) 4 (wI (w.1 4 + 1))
theorem tmod_B {a b : Int} (ha : xB a) (hb : 0 < b) (hb2 : b ≤ 2147483647) : xB (Int.tmod a b) := by
  have e1 := Int.tmod_lt_of_pos a hb
  have e2 := Int.lt_tmod_of_pos a hb
  exact ⟨by omega, by omega⟩
def sX1_send : Int → Int → WS → KW → Prop := fun k i s K => (xB k ∧ xB i) ∧ K [] (wSend s k i)
theorem mX1_send_ok : mOk encW bdW mX1_send (atR 0 (a2 sX1_send)) := by
  refine mOVa2 kX1_send (fun _ _ => rfl) (fun k i s K h hb => wx_J [] 9 tX1_send_ok rfl (fun J hR hJ => ?_))
  obtain ⟨h1, hK⟩ := h
  have hq := tmod_B (b := 60) (hb.1 4) (by omega) (by omega)
  repeat' (first | (refine And.intro ?_ ?_) | intro _)
  all_goals first | omega | exact hR _ _ hK
def cW_X1_send : Sp WS := atR 0 (a2 sX1_send)
theorem qW_X1_send {M : XI} {rc rs pc pc2 : Nat} (d : xl_Ca M pc mX1_send pc2) : cOk encW bdW M rc rs pc pc2 3 cW_X1_send := cSame mX1_send_ok vX1_send d wcl rfl lenW recW
