/-! ===== tables' sizes; copied, begun anew: sessions, messages, finals ===== -/
def zW (w : WS) : Prop := (0 ≤ wZ w 2 ∧ wZ w 2 ≤ 60 ∧ (wZ w 2 < 60 → w.1 4 = wZ w 2)) ∧ (0 ≤ wZ w 3 ∧ wZ w 3 ≤ 40 ∧ (wZ w 3 < 40 → w.1 5 = wZ w 3)) ∧ wZ w 5 = 6
theorem zW.of {w w' : WS} (h : zW w) (f4 : w'.1 4 = w.1 4) (f5 : w'.1 5 = w.1 5) (z2 : wZ w' 2 = wZ w 2) (z3 : wZ w' 3 = wZ w 3) (z5 : wZ w' 5 = wZ w 5) : zW w' := by
  unfold zW
  rw [f4, f5, z2, z3, z5]
  exact h
theorem re_z {w : WS} {t : Nat} {q : Int} : wZ (wRe w t q) t = if wZ w t ≤ q ∧ q < rmT t then q + 1 else wZ w t := by
  unfold wZ wRe
  show (bif Nat.beq t t then _ else _ : TS).1 = _
  rw [Nat.beq_refl]
  rfl
theorem send_z {w : WS} {k i : Int} : wZ (wSend w k i) 2 = wZ (wRe w 2 (Int.tmod (w.1 4) 60)) 2 := rfl
theorem send_f4 {w : WS} {k i : Int} : (wSend w k i).1 4 = wI (w.1 4 + 1) := rfl
theorem zW.send {w : WS} {k i : Int} (h : zW w) : zW (wSend w k i) := by
  obtain ⟨⟨a0, a1, a2⟩, b, c⟩ := h
  refine ⟨?_, b, c⟩
  have l := Int.tmod_lt_of_pos (w.1 4) (b := 60) (by decide)
  rw [send_z, send_f4, re_z, show rmT 2 = 60 from rfl]
  by_cases q : wZ w 2 < 60
  · have e := a2 q
    rw [e] at l ⊢
    have t : Int.tmod (wZ w 2) 60 = wZ w 2 := Int.tmod_eq_of_lt a0 q
    rw [t, if_pos ⟨Int.le_refl _, q⟩, wI_id (z := wZ w 2 + 1) ⟨by omega, by omega⟩]
    exact ⟨by omega, by omega, fun _ => rfl⟩
  · rw [if_neg (fun z => by omega)]
    exact ⟨a0, a1, fun z => absurd z q⟩
theorem fin_z {w : WS} {i : Int} : wZ (wFin w i) 3 = wZ (wRe w 3 (Int.tmod (w.1 5) 40)) 3 := by
  unfold wZ
  rw [fin_3]
  rfl
theorem fin_z2 {w : WS} {i : Int} : wZ (wFin w i) 2 = wZ w 2 := rfl
theorem fin_f4 {w : WS} {i : Int} : (wFin w i).1 4 = w.1 4 := rfl
theorem fin_z5 {w : WS} {i : Int} : wZ (wFin w i) 5 = wZ w 5 := by
  unfold wZ
  rw [fin_5]
  rfl
theorem zW.fin {w : WS} {i : Int} (h : zW w) : zW (wFin w i) := by
  obtain ⟨a, ⟨b0, b1, b2⟩, c⟩ := h
  unfold zW
  rw [fin_z2, fin_f4, fin_z5, fin_z, fin_f, re_z, show rmT 3 = 40 from rfl]
  refine ⟨a, ?_, c⟩
  have l := Int.tmod_lt_of_pos (w.1 5) (b := 40) (by decide)
  by_cases q : wZ w 3 < 40
  · have e := b2 q
    rw [e] at l ⊢
    have t : Int.tmod (wZ w 3) 40 = wZ w 3 := Int.tmod_eq_of_lt b0 q
    rw [t, if_pos ⟨Int.le_refl _, q⟩, wI_id (z := wZ w 3 + 1) ⟨by omega, by omega⟩]
    exact ⟨by omega, by omega, fun _ => rfl⟩
  · rw [if_neg (fun z => by omega)]
    exact ⟨b0, b1, fun z => absurd z q⟩
theorem zW.take {w : WS} {i : Int} (h : zW w) : zW (wTake w i) := by
  unfold wTake
  split
  · exact zW.of (w := wSend w 3 i) (zW.send (k := 3) (i := i) h) rfl rfl rfl rfl rfl
  · exact h
theorem zW.ann {w : WS} {k i : Int} (h : zW w) : zW (wAnn w k i) := zW.of (w := wSend w k i) (zW.send (k := k) (i := i) h) rfl rfl rfl rfl rfl
theorem zW.tkL : ∀ (n : Nat) (i : Int) (w : WS), zW w → zW (takeL n i w)
  | 0, _, _, h => h
  | n + 1, i, _, h => zW.tkL n (i + 1) _ h.take
theorem zW.sws (p : Int) : ∀ (n : Nat) (w : WS), zW w → zW (swL p n w)
  | 0, _, h => h
  | n + 1, w, h => zW.sws p n _ (h.of (w' := wSwallow w p) rfl rfl rfl rfl rfl)
theorem zW.melt {w : WS} {k t v : Int} (h : zW w) : zW (wMelt w k t v) := by
  have key : ∀ (u : WS) (p m : Int), zW u → zW (wMeltE u p m) := by
    intro u p m hu
    have k2 : ∀ x : WS, zW x → zW (if 0 ≤ wKind x p then wAnn x (wKind x p) p else x) := by
      intro x hx
      split
      · exact hx.ann
      · exact hx
    exact k2 _ (hu.of (w' := wFd u 9 (wI (u.1 9 + (if 1 < m then 1 else 0)))) rfl rfl rfl rfl rfl)
  unfold wMelt
  have a := zW.tkL (wMany w (wFirst w k t) k t).toNat (wPl w k t) w h
  generalize takeL (wMany w (wFirst w k t) k t).toNat (wPl w k t) w = u at a
  unfold wMelt2
  split
  · exact key _ _ _ (zW.sws _ _ _ (a.of (w' := wRow u (wPl w k t) k t v) rfl rfl rfl rfl rfl))
  · exact a
theorem zW.step {w : WS} {be i : Int} (h : zW w) : zW (wStep w be i) := by
  have key : ∀ x : WS, zW x → zW (if wOver x i (x.1 3) then wFin x i else x) := by
    intro x hx
    split
    · exact hx.fin
    · exact hx
  refine key _ ?_
  split
  · exact h
  · exact h.take.ann
theorem zW.rsL (be : Int) : ∀ (n : Nat) (pa : Int) (w : WS), zW w → zW (riseL be n pa w)
  | 0, _, _, h => h
  | n + 1, pa, w, h => by
    rw [riseL]
    split
    · exact h
    · exact zW.rsL be n _ _ h.step
theorem zW.rise {w : WS} (h : zW w) : zW (wRise w) := by
  unfold wRise
  split
  · exact h
  · exact zW.rsL _ _ _ _ (h.of rfl rfl rfl rfl rfl)
theorem zW.raise {w : WS} {r t : Int} (h : zW w) : zW (wRaise w r t) := by
  unfold wRaise
  split
  · exact h.of rfl rfl rfl rfl rfl
  · exact h
theorem zW.note {w : WS} {a r t : Int} (h : zW w) : zW (wNote w a r t) := h.of (note_f.1 4) (note_f.1 5) (by unfold wZ; rw [note_t 2 (by decide)]) (by unfold wZ; rw [note_t 3 (by decide)]) (by unfold wZ; rw [note_t 5 (by decide)])
theorem zW.playE {w : WS} {k t v r : Int} (h : zW w) : zW (wPlayE w k t v r) := by
  unfold wPlayE
  dsimp only
  have key : ∀ u : WS, zW u → zW (wRise (wRaise (wP u 0 r 2 0) r (wI (t - wG (wP u 0 r 2 0) 0 r 1)))) := fun u hu => (zW.raise (w := wP u 0 r 2 0) (hu.of rfl rfl rfl rfl rfl)).rise
  refine key _ ?_
  split
  · exact h.of rfl rfl rfl rfl rfl
  · exact zW.melt (h.of rfl rfl rfl rfl rfl)
theorem zW.comeE {w : WS} {k t v r : Int} (h : zW w) : zW (wComeE w k t v r) := zW.of (w := wPlayE (wNote w 0 r t) k t v r) (h.note (a := 0) (r := r) (t := t)).playE rfl rfl rfl rfl rfl
theorem zW.comeM {w : WS} {r t : Int} (h : zW w) : zW (wComeM w r t) := ((h.note (a := 1) (r := r) (t := t)).raise (r := r) (t := t)).rise
theorem zW.comeI {w : WS} {r : Int} (h : zW w) : zW (wComeI w r) := by
  have a : zW (wP (wNote w 2 r 0) 0 r 2 1) := zW.of (w := wNote w 2 r 0) (h.note (a := 2) (r := r) (t := 0)) rfl rfl rfl rfl rfl
  exact a.rise
/-! copied -/
theorem copy_g1 {a b : WS} {i c : Int} (h0 : 0 ≤ i) (h1 : i < wZ b 1) (c0 : 0 ≤ c) (c1 : c < 7) : wG (wCopy a b) 1 i c = wG b 1 i c := by
  show tg 161 7 (xcp (b.2 1).2 (a.2 1).2 0 0 ((b.2 1).1 * 7).toNat) i c = tg 161 7 (b.2 1).2 i c
  have h1 : i < (b.2 1).1 := h1
  generalize (b.2 1).1 = z at h1
  unfold tg xcp
  split
  · rw [if_pos (by omega), show 0 + ((i * 7 + c).toNat - 0) = (i * 7 + c).toNat by omega]
  · rfl
theorem copy_g2 {a b : WS} {i c : Int} (h0 : 0 ≤ i) (h1 : i < wZ b 2) (c0 : 0 ≤ c) (c1 : c < 6) : wG (wCopy a b) 2 i c = wG b 2 i c := by
  show tg 60 6 (xcp (b.2 2).2 (a.2 2).2 0 0 ((b.2 2).1 * 6).toNat) i c = tg 60 6 (b.2 2).2 i c
  have h1 : i < (b.2 2).1 := h1
  generalize (b.2 2).1 = z at h1
  unfold tg xcp
  split
  · rw [if_pos (by omega), show 0 + ((i * 6 + c).toNat - 0) = (i * 6 + c).toNat by omega]
  · rfl
theorem copy_g3 {a b : WS} {i c : Int} (h0 : 0 ≤ i) (h1 : i < wZ b 3) (c0 : 0 ≤ c) (c1 : c < 7) : wG (wCopy a b) 3 i c = wG b 3 i c := by
  show tg 40 7 (xcp (b.2 3).2 (a.2 3).2 0 0 ((b.2 3).1 * 7).toNat) i c = tg 40 7 (b.2 3).2 i c
  have h1 : i < (b.2 3).1 := h1
  generalize (b.2 3).1 = z at h1
  unfold tg xcp
  split
  · rw [if_pos (by omega), show 0 + ((i * 7 + c).toNat - 0) = (i * 7 + c).toNat by omega]
  · rfl
theorem copy_g5 {a b : WS} {i c : Int} (h0 : 0 ≤ i) (h1 : i < wZ b 5) (c0 : 0 ≤ c) (c1 : c < 8) : wG (wCopy a b) 5 i c = wG b 5 i c := by
  show tg 6 8 (xcp (b.2 5).2 (a.2 5).2 0 0 ((b.2 5).1 * 8).toNat) i c = tg 6 8 (b.2 5).2 i c
  have h1 : i < (b.2 5).1 := h1
  generalize (b.2 5).1 = z at h1
  unfold tg xcp
  split
  · rw [if_pos (by omega), show 0 + ((i * 8 + c).toNat - 0) = (i * 8 + c).toNat by omega]
  · rfl
theorem copy_z {a b : WS} : wZ (wCopy a b) 1 = wZ b 1 ∧ wZ (wCopy a b) 2 = wZ b 2 ∧ wZ (wCopy a b) 3 = wZ b 3 ∧ wZ (wCopy a b) 5 = wZ b 5 := ⟨rfl, rfl, rfl, rfl⟩
theorem copy_9 {a b : WS} : (wCopy a b).1 4 = b.1 4 ∧ (wCopy a b).1 5 = b.1 5 ∧ (wCopy a b).1 9 = b.1 9 := ⟨rfl, rfl, rfl⟩
theorem zW.copy {a b : WS} (h : zW b) : zW (wCopy a b) := h.of copy_9.1 copy_9.2.1 copy_z.2.1 copy_z.2.2.1 copy_z.2.2.2
theorem rB.copy {a b : WS} {g : Int → Int} (h : rB b g) (hz : zW b) : rB (wCopy a b) g := by
  obtain ⟨l, h1, ⟨⟨⟨l1, l2⟩, l3⟩, ⟨m1, m2, m3⟩, ⟨f1, f2, f3⟩⟩, h3, h4, h5⟩ := h
  obtain ⟨⟨a0, a1, a2⟩, ⟨b0, b1, b2⟩, z5⟩ := hz
  obtain ⟨c1, c2, c3, c5⟩ := copy_z (a := a) (b := b)
  obtain ⟨d4, d5, d9⟩ := copy_9 (a := a) (b := b)
  refine ⟨l, h1, ⟨⟨⟨c1.trans l1, l2⟩, fun i r hi => ?_⟩, ⟨d4.trans m1, fun q c q0 q1 q2 j0 j1 => ?_, fun k kd k0 k1 j0 j1 => ?_⟩, ⟨d5.trans f1, fun q c q0 q1 q2 j0 j1 => ?_, fun k k0 k1 => ?_⟩⟩, h3, d9.trans h4, h5⟩
  · have hl := lt_some hi
    exact (l3 i r hi).of (fun c c0 c1 => copy_g1 (by omega) (by omega) c0 c1)
  · rw [copy_g2 q0 (by omega) j0 j1]
    exact m2 q c q0 q1 q2 j0 j1
  · rw [copy_g5 k0 (by omega) j0 (by omega)]
    exact m3 k kd k0 k1 j0 j1
  · rw [copy_g3 q0 (by omega) j0 j1]
    exact f2 q c q0 q1 q2 j0 j1
  · rw [copy_g5 k0 (by omega) (by decide) (by decide), copy_g5 k0 (by omega) (by decide) (by decide), copy_g5 k0 (by omega) (by decide) (by decide), copy_g5 k0 (by omega) (by decide) (by decide)]
    exact f3 k k0 k1
/-- the cells that B looks at -/
def bC (c : Int) : Prop := c = 1 ∨ c = 5 ∨ c = 7 ∨ c = 11 ∨ (32 ≤ c ∧ c < 1844)
theorem rB.cg {w : WS} {g g' : Int → Int} (h : rB w g) (e : ∀ c, bC c → g' c = g c) : rB w g' := by
  obtain ⟨l, h1, h2, h3, h4, h5⟩ := h
  have hn := h1.1.2
  refine ⟨l, ⟨by rw [e 5 (by unfold bC; omega)]; exact h1.1, fun i r hi c c0 c1 => ?_⟩, h2.cg (fun c hc => e c (by unfold mC fC at hc; unfold bC; omega)), by rw [e 1 (by unfold bC; omega)]; exact h3, by rw [e 11 (by unfold bC; omega)]; exact h4, h5.cong (fun c hc => e c (by unfold bC; omega))⟩
  have hl := lt_some hi
  rw [e _ (by unfold bC; omega)]
  exact h1.2 i r hi c c0 c1
theorem rB.delay {w : WS} {g : Int → Int} {r v : Int} (h : rB w g) (hr : 0 ≤ r ∧ r < 4) : rB (wP w 0 r 1 v) (up1 g (16 + r) v) := (h.t4 (w' := wP w 0 r 1 v) rfl rfl rfl (fun q h0 _ => setT_ne h0)).cg (fun c hc => up1_ne (by unfold bC at hc; omega))
/-! begun anew -/
theorem op5_at {w : WS} {i c : Int} (h0 : 0 ≤ wZ w 5) (hi : 0 ≤ i ∧ i ≤ wZ w 5 ∧ i < 6) (hc : 0 ≤ c ∧ c < 8) : wG (wOp w 5 (wZ w 5)) 5 i c = if i = wZ w 5 then 0 else wG w 5 i c := by
  show tg 6 8 (topen 8 (w.2 5).2 (wZ w 5) (wZ w 5)) i c = if i = wZ w 5 then 0 else tg 6 8 (w.2 5).2 i c
  generalize wZ w 5 = z at h0 hi
  unfold tg topen xcp
  rw [if_pos (show 0 ≤ i ∧ i < 6 ∧ 0 ≤ c ∧ c < 8 by omega)]
  by_cases e : i = z
  · rw [if_pos e, if_pos (by omega)]
  · rw [if_neg e, if_neg (by omega), if_neg (by omega), if_pos (show 0 ≤ i ∧ i < 6 ∧ 0 ≤ c ∧ c < 8 by omega)]
theorem rkL_v : ∀ (m : Nat) (i : Int) (w : WS), 0 ≤ i → i + m ≤ 6 → wZ w 5 = i → (∀ r c, 0 ≤ r → r < i → 0 ≤ c → c < 8 → wG w 5 r c = if c = 7 then -1 else 0) → wZ (rkL m i w) 5 = i + m ∧ ∀ r c, 0 ≤ r → r < i + m → 0 ≤ c → c < 8 → wG (rkL m i w) 5 r c = if c = 7 then -1 else 0
  | 0, i, w, _, _, hz, h => ⟨by rw [rkL, hz]; omega, fun r c r0 r1 c0 c1 => h r c r0 (by omega) c0 c1⟩
  | m + 1, i, w, h0, h1, hz, h => by
    subst hz
    rw [rkL]
    have eo : wOpn w 5 (wZ w 5) = wOp w 5 (wZ w 5) := if_pos ⟨h0, Int.le_refl _, by show wZ w 5 < 6; omega⟩
    rw [eo]
    have z : wZ (wP (wOp w 5 (wZ w 5)) 5 (wZ w 5) 7 (-1)) 5 = wZ w 5 + 1 := rfl
    obtain ⟨a, b⟩ := rkL_v m (wZ w 5 + 1) (wP (wOp w 5 (wZ w 5)) 5 (wZ w 5) 7 (-1)) (by omega) (by omega) z (fun r c r0 r1 c0 c1 => by
      rw [p5_at ⟨h0, by omega⟩ (by decide)]
      by_cases e : r = wZ w 5 ∧ c = 7
      · rw [if_pos e, if_pos e.2]
      · rw [if_neg e, op5_at h0 ⟨r0, by omega, by omega⟩ ⟨c0, c1⟩]
        by_cases e2 : r = wZ w 5
        · rw [if_pos e2, if_neg (fun z => e ⟨e2, z⟩)]
        · rw [if_neg e2]
          exact h r c r0 (by omega) c0 c1)
    exact ⟨by rw [a]; omega, fun r c r0 r1 c0 c1 => b r c r0 (by omega) c0 c1⟩
theorem rkL_f : ∀ (m : Nat) (i : Int) (w : WS), (rkL m i w).1 = w.1 ∧ ∀ t, t ≠ 5 → (rkL m i w).2 t = w.2 t
  | 0, _, _ => ⟨rfl, fun _ _ => rfl⟩
  | m + 1, i, w => by
    rw [rkL]
    obtain ⟨a, b⟩ := rkL_f m (i + 1) (wP (wOpn w 5 i) 5 i 7 (-1))
    have k : (wP (wOpn w 5 i) 5 i 7 (-1)).1 = w.1 ∧ ∀ t, t ≠ 5 → (wP (wOpn w 5 i) 5 i 7 (-1)).2 t = w.2 t := by
      unfold wOpn
      split
      · exact ⟨rfl, fun t ht => (setT_ne ht).trans (setT_ne ht)⟩
      · exact ⟨rfl, fun t ht => setT_ne ht⟩
    exact ⟨a.trans k.1, fun t ht => (b t ht).trans (k.2 t ht)⟩
theorem rsL_f : ∀ (m : Nat) (i : Int) (w : WS), (rsL m i w).1 = w.1
  | 0, _, _ => rfl
  | m + 1, i, w => by
    rw [rsL, rsL_f m (i + 1)]
    unfold wOpn
    split <;> rfl
theorem reset_b {w : WS} {n g l e : Int} : ((wReset w n g l e).1 4 = 0 ∧ (wReset w n g l e).1 5 = 0 ∧ (wReset w n g l e).1 9 = 0) ∧ (wZ (wReset w n g l e) 1 = 0 ∧ wZ (wReset w n g l e) 2 = 0 ∧ wZ (wReset w n g l e) 3 = 0 ∧ wZ (wReset w n g l e) 5 = 6) ∧ ∀ k c, 0 ≤ k → k < 6 → 0 ≤ c → c < 8 → wG (wReset w n g l e) 5 k c = if c = 7 then -1 else 0 := by
  unfold wReset wRes2
  have r1 := rsL_f n.toNat 0 (wCl (wFd (wFd (wFd (wFd (wFd (wFd (wFd (wFd (wFd (wFd w 0 g) 1 l) 2 e) 3 0) 4 0) 5 0) 6 0) 7 0) 8 0) 9 0) 0)
  have e4 : (wCl (wFd (wFd (wFd (wFd (wFd (wFd (wFd (wFd (wFd (wFd w 0 g) 1 l) 2 e) 3 0) 4 0) 5 0) 6 0) 7 0) 8 0) 9 0) 0).1 4 = 0 ∧ (wCl (wFd (wFd (wFd (wFd (wFd (wFd (wFd (wFd (wFd (wFd w 0 g) 1 l) 2 e) 3 0) 4 0) 5 0) 6 0) 7 0) 8 0) 9 0) 0).1 5 = 0 ∧ (wCl (wFd (wFd (wFd (wFd (wFd (wFd (wFd (wFd (wFd (wFd w 0 g) 1 l) 2 e) 3 0) 4 0) 5 0) 6 0) 7 0) 8 0) 9 0) 0).1 9 = 0 := ⟨rfl, rfl, rfl⟩
  rw [← r1] at e4
  generalize rsL n.toNat 0 (wCl (wFd (wFd (wFd (wFd (wFd (wFd (wFd (wFd (wFd (wFd w 0 g) 1 l) 2 e) 3 0) 4 0) 5 0) 6 0) 7 0) 8 0) 9 0) 0) = u at e4
  have z5 : wZ (wCl (wCl (wCl (wCl (wCl u 1) 2) 3) 4) 5) 5 = 0 := rfl
  obtain ⟨v1, v2⟩ := rkL_v 6 0 (wCl (wCl (wCl (wCl (wCl u 1) 2) 3) 4) 5) (by decide) (by decide) z5 (fun r c r0 r1 => absurd r1 (by omega))
  obtain ⟨f1, f2⟩ := rkL_f 6 0 (wCl (wCl (wCl (wCl (wCl u 1) 2) 3) 4) 5)
  have z1 : wZ (wCl (wCl (wCl (wCl (wCl u 1) 2) 3) 4) 5) 1 = 0 := rfl
  have z2 : wZ (wCl (wCl (wCl (wCl (wCl u 1) 2) 3) 4) 5) 2 = 0 := rfl
  have z3 : wZ (wCl (wCl (wCl (wCl (wCl u 1) 2) 3) 4) 5) 3 = 0 := rfl
  have f0 : (wCl (wCl (wCl (wCl (wCl u 1) 2) 3) 4) 5).1 = u.1 := rfl
  generalize wCl (wCl (wCl (wCl (wCl u 1) 2) 3) 4) 5 = x at v1 v2 f1 f2 z1 z2 z3 f0 ⊢
  unfold wZ at z1 z2 z3 v1 ⊢
  rw [f1, f0, f2 1 (by decide), f2 2 (by decide), f2 3 (by decide)]
  exact ⟨e4, ⟨z1, z2, z3, v1⟩, fun k c k0 k1 c0 c1 => v2 k c k0 (by omega) c0 c1⟩
theorem zW.reset {w : WS} {n g l e : Int} : zW (wReset w n g l e) := by
  obtain ⟨⟨f4, f5, -⟩, ⟨-, z2, z3, z5⟩, -⟩ := reset_b (w := w) (n := n) (g := g) (l := l) (e := e)
  unfold zW
  rw [f4, f5, z2, z3, z5]
  exact ⟨⟨by decide, by decide, fun _ => rfl⟩, ⟨by decide, by decide, fun _ => rfl⟩, rfl⟩
theorem rB.reset {w : WS} {n g l e : Int} {G : Int → Int} (hG : ∀ c, (c = 5 ∨ c = 7 ∨ c = 11 ∨ (32 ≤ c ∧ c < 364) ∨ (1484 ≤ c ∧ c < 1844)) → G c = if 54 ≤ c ∧ c < 60 then -1 else 0) : rB (wReset w n g l e) G := by
  obtain ⟨⟨f4, f5, f9⟩, ⟨z1, z2, z3, z5⟩, v⟩ := reset_b (w := w) (n := n) (g := g) (l := l) (e := e)
  have G0 : ∀ c, (c = 5 ∨ c = 7 ∨ c = 11 ∨ (32 ≤ c ∧ c < 54) ∨ (60 ≤ c ∧ c < 364) ∨ (1484 ≤ c ∧ c < 1844)) → G c = 0 := fun c hc => by rw [hG c (by omega), if_neg (by omega)]
  have s0 : sm6 G = 0 := by
    rw [sm6_x (fun k k0 k1 => by rw [G0 (36 + k) (by omega)]; decide), G0 36 (by decide), G0 37 (by decide), G0 38 (by decide), G0 39 (by decide), G0 40 (by decide), G0 41 (by decide)]
    rfl
  have e7 := G0 7 (by decide)
  refine ⟨[], ⟨⟨G0 5 (by decide), by decide⟩, fun i r hi => by simp at hi⟩, ⟨⟨⟨z1, by decide⟩, fun i r hi => by simp at hi⟩, ⟨f4.trans e7.symm, fun q c q0 q1 q2 => by rw [e7] at q2; omega, fun k kd k0 k1 j0 j1 => ?_⟩, ⟨f5.trans s0.symm, fun q c q0 q1 q2 => by rw [s0] at q2; omega, fun k k0 k1 => ?_⟩⟩, ⟨fun r hr => absurd hr List.not_mem_nil, List.Pairwise.nil⟩, f9.trans (G0 11 (by decide)).symm, fun j j0 j1 => ?_, fun q q0 q1 => by rw [G0 _ (by omega)]; decide⟩
  · rw [v k kd k0 k1 j0 (by omega), if_neg (by omega), G0 _ (by omega)]
  · rw [v k 4 k0 k1 (by decide) (by decide), v k 5 k0 k1 (by decide) (by decide), v k 6 k0 k1 (by decide) (by decide), v k 7 k0 k1 (by decide) (by decide), G0 (36 + k) (by omega), G0 (42 + k) (by omega), G0 (48 + k) (by omega), hG (54 + k) (by omega), if_pos (show 54 ≤ 54 + k ∧ 54 + k < 60 by omega)]
    exact ⟨rfl, rfl, rfl, rfl⟩
  · rw [G0 (32 + j) (by omega), G0 (60 + j) (by omega), G0 (64 + j) (by omega), G0 (68 + j) (by omega), G0 (72 + j) (by omega), G0 (76 + j) (by omega), G0 (80 + j) (by omega)]
    exact ⟨by decide, fun k k0 k1 => by rw [G0 (60 + 4 * k + j) (by omega), e7]; decide⟩
theorem stL2_v (d : Int) (hd : 0 ≤ d) : ∀ (m : Nat) (k : Int) (s : MS), 0 ≤ k → k + m ≤ 6 → ∀ q, k ≤ q → q < k + m → mg (stL2 d m k s) (d * 2804 + (54 + q)) = -1
  | 0, k, s, _, _, q, h0, h1 => absurd h1 (by omega)
  | m + 1, k, s, h0, h1, q, q0, q1 => by
    rw [stL2]
    by_cases e : q = k
    · subst e
      rw [(stL2_f d hd m (q + 1) _ (by omega)).2 _ (by omega) (by omega), show d * 2804 + (54 + q) = d * 2804 + 54 + q by omega, mg_eq]
    · exact stL2_v d hd m (k + 1) _ (by omega) (by omega) q (by omega) (by omega)
theorem startsB {s : MS} {d n g l e : Int} (hd : 0 ≤ d) : ∀ c, (c = 5 ∨ c = 7 ∨ c = 11 ∨ (32 ≤ c ∧ c < 364) ∨ (1484 ≤ c ∧ c < 1844)) → mg (mStarts s d n g l e) (d * 2804 + c) = if 54 ≤ c ∧ c < 60 then -1 else 0 := by
  intro c hc
  have z2 : ∀ c, 0 ≤ c → c < 2804 → mg (mZero s d) (d * 2804 + c) = 0 := fun c c0 c1 => by
    rw [mZero, mg_mA, if_pos (by constructor <;> omega)]
  unfold mStarts mStart4
  generalize mZero s d = s1 at z2 ⊢
  obtain ⟨-, a2⟩ := stL2_f d hd 6 0 s1 (by decide)
  have a3 := stL2_v d hd 6 0 s1 (by decide) (by decide)
  generalize stL2 d 6 0 s1 = s2 at a2 a3 ⊢
  obtain ⟨-, b2⟩ := stL3_f d hd 4 0 s2 (by decide)
  generalize stL3 d 4 0 s2 = s3 at b2 ⊢
  rw [mg_ne (by omega) (by omega) (by omega), mg_ne (by omega) (by omega) (by omega), mg_ne (by omega) (by omega) (by omega), mg_ne (by omega) (by omega) (by omega), b2 _ (by omega) (by omega)]
  by_cases h : 54 ≤ c ∧ c < 60
  · rw [if_pos h]
    have := a3 (c - 54) (by omega) (by omega)
    rw [show d * 2804 + (54 + (c - 54)) = d * 2804 + c by omega] at this
    exact this
  · rw [if_neg h, a2 _ (by omega) (by omega), z2 c (by omega) (by omega)]
theorem rB.start {w : WS} {s : MS} {d n g l e : Int} (hd : 0 ≤ d) : rB (wReset w n g l e) (gD d (mStarts s d n g l e)) := rB.reset (fun c hc => startsB hd c hc)
