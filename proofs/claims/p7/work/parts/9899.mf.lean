/-! ===== calls that change what there is ===== -/
theorem gD0 (s : MS) (c : Int) : gD 0 s c = mg s c := by
  unfold gD
  rw [show (0 : Int) * 2804 + c = c by omega]
theorem rA.to {w : WS} {G : Int → Int} {d : Int} {s' : MS} (h : rA w G) (e : sA d s' G) : rA w (gD d s') := h.cong (fun c c0 _ hc => e c c0 hc)
theorem rA.fate {w : WS} {g : Int → Int} (h : rA w g) (r t : Int) : wFate (wNote w 0 r t) t = hw1 g t := by
  rw [← h.1.fate t]
  unfold wFate
  rw [note_f.1 3, note_f.1 1]
theorem rA.comeM {w : WS} {d k t v r : Int} {s : MS} {K : MS → Prop} (h : rA w (gD d s)) (I : dI d s) (hd : dOk d) (h6 : mg s (d * 2804 + 6) ≤ 159) (hk : 0 ≤ k ∧ k ≤ 5) (ht : 0 ≤ t ∧ t ≤ 9999) (hr : 0 ≤ r ∧ r < gD d s 0) (kk : ∀ s', rA (wComeE w k t v r) (gD d s') → dI d s' → oD d s s' → mg s' (d * 2804 + 6) = mg s (d * 2804 + 6) + 1 → K s') : mComeP s d k t v r 650 K := by
  have hz := h.1.2.2.1
  exact I.comeA hd h6 hk ⟨hr.1, by omega⟩ (fun s' ha i o e => kk s' ((h.event (by show mg s (d * 2804 + 6) < 160; omega) hk ht hr).to ha) i o e)
theorem rA.markM {w : WS} {d t r : Int} {s : MS} {K : MS → Prop} (h : rA w (gD d s)) (I : dI d s) (hd : dOk d) (h6 : mg s (d * 2804 + 6) ≤ 159) (ht : 0 ≤ t ∧ t ≤ 20000) (hr : 0 ≤ r ∧ r < gD d s 0) (hm : gD d s (12 + r) < t) (kk : ∀ s', rA (wComeM w r t) (gD d s') → mg s (d * 2804 + 7) ≤ mg s' (d * 2804 + 7) → dI d s' → oD d s s' → mg s' (d * 2804 + 6) = mg s (d * 2804 + 6) + 1 → K s') : mMarkP s d r t 650 K := by
  have hz := h.1.2.2.1
  exact I.markA hd h6 ⟨hr.1, by omega⟩ (fun s' ha l i o e => kk s' ((h.mark (by show mg s (d * 2804 + 6) < 160; omega) ht hr hm).to ha) l i o e)
theorem rA.idleM {w : WS} {d r : Int} {s : MS} {K : MS → Prop} (h : rA w (gD d s)) (I : dI d s) (hd : dOk d) (h6 : mg s (d * 2804 + 6) ≤ 159) (hr : 0 ≤ r ∧ r < gD d s 0) (kk : ∀ s', rA (wComeI w r) (gD d s') → mg s (d * 2804 + 7) ≤ mg s' (d * 2804 + 7) → dI d s' → oD d s s' → mg s' (d * 2804 + 6) = mg s (d * 2804 + 6) + 1 → K s') : mIdleP s d r 650 K := by
  have hz := h.1.2.2.1
  exact I.idleA hd h6 ⟨hr.1, by omega⟩ (fun s' ha l i o e => kk s' ((h.idle (by show mg s (d * 2804 + 6) < 160; omega) hr).to ha) l i o e)
theorem rW.comeM {w : WS} {d k t v r : Int} {s : MS} {K : MS → Prop} (h : rW w (gD d s)) (I : dI d s) (hd : dOk d) (h6 : mg s (d * 2804 + 6) ≤ 159) (hk : 0 ≤ k ∧ k ≤ 5) (ht : 0 ≤ t ∧ t ≤ 9999) (hv : xB v) (hr : 0 ≤ r ∧ r < gD d s 0) (kk : ∀ s', rW (wComeE w k t v r) (gD d s') → dI d s' → oD d s s' → mg s' (d * 2804 + 6) = mg s (d * 2804 + 6) + 1 → K s') : mComeP s d k t v r 650 K := by
  refine mComeP_mono (fun s' z => ?_) (rB.comeM (K := fun s' => rA (wComeE w k t v r) (gD d s') ∧ dI d s' ∧ oD d s s' ∧ mg s' (d * 2804 + 6) = mg s (d * 2804 + 6) + 1) h.2.1 h.1 I hd h6 hk ht hv hr (h.1.comeM I hd h6 hk ht hr (fun s' a b c e => ⟨a, b, c, e⟩)))
  exact kk s' ⟨z.1.1, z.2, h.2.2.comeE⟩ z.1.2.1 z.1.2.2.1 z.1.2.2.2
theorem rW.markM {w : WS} {d t r : Int} {s : MS} {K : MS → Prop} (h : rW w (gD d s)) (I : dI d s) (hd : dOk d) (h6 : mg s (d * 2804 + 6) ≤ 159) (ht : 0 ≤ t ∧ t ≤ 20000) (hr : 0 ≤ r ∧ r < gD d s 0) (hm : gD d s (12 + r) < t) (kk : ∀ s', rW (wComeM w r t) (gD d s') → mg s (d * 2804 + 7) ≤ mg s' (d * 2804 + 7) → dI d s' → oD d s s' → mg s' (d * 2804 + 6) = mg s (d * 2804 + 6) + 1 → K s') : mMarkP s d r t 650 K := by
  have q := rB.markM (K := fun s' => rA (wComeM w r t) (gD d s') ∧ mg s (d * 2804 + 7) ≤ mg s' (d * 2804 + 7) ∧ dI d s' ∧ oD d s s' ∧ mg s' (d * 2804 + 6) = mg s (d * 2804 + 6) + 1) h.2.1 h.1 I hd h6 ht hr hm (h.1.markM I hd h6 ht hr hm (fun s' a l b c e => ⟨a, l, b, c, e⟩))
  exact ⟨q.1, mRisP_mono (fun s' z => kk s' ⟨z.1.1, z.2, h.2.2.comeM⟩ z.1.2.1 z.1.2.2.1 z.1.2.2.2.1 z.1.2.2.2.2) q.2⟩
theorem rW.idleM {w : WS} {d r : Int} {s : MS} {K : MS → Prop} (h : rW w (gD d s)) (I : dI d s) (hd : dOk d) (h6 : mg s (d * 2804 + 6) ≤ 159) (hr : 0 ≤ r ∧ r < gD d s 0) (kk : ∀ s', rW (wComeI w r) (gD d s') → mg s (d * 2804 + 7) ≤ mg s' (d * 2804 + 7) → dI d s' → oD d s s' → mg s' (d * 2804 + 6) = mg s (d * 2804 + 6) + 1 → K s') : mIdleP s d r 650 K := by
  have q := rB.idleM (K := fun s' => rA (wComeI w r) (gD d s') ∧ mg s (d * 2804 + 7) ≤ mg s' (d * 2804 + 7) ∧ dI d s' ∧ oD d s s' ∧ mg s' (d * 2804 + 6) = mg s (d * 2804 + 6) + 1) h.2.1 h.1 I hd h6 hr (h.1.idleM I hd h6 hr (fun s' a l b c e => ⟨a, l, b, c, e⟩))
  exact ⟨q.1, mRisP_mono (fun s' z => kk s' ⟨z.1.1, z.2, h.2.2.comeI⟩ z.1.2.1 z.1.2.2.1 z.1.2.2.2.1 z.1.2.2.2.2) q.2⟩
section EV
variable {x : LSt} {s : MS}
theorem z0_eq (h : rA (x.2.2 0) (gD 0 s)) : wZ (x.2.2 0) 0 = mg s 0 := by
  have := h.1.2.2.1.1
  rw [gD0] at this
  exact this
theorem z6_eq (h : rA (x.2.2 0) (gD 0 s)) : wZ (x.2.2 0) 4 = mg s 6 ∧ 0 ≤ mg s 6 ∧ mg s 6 ≤ 160 := by
  have := h.2.1.1
  rw [gD0] at this
  exact this
theorem src_eq (h : rA (x.2.2 0) (gD 0 s)) {r q c : Int} (hr : 0 ≤ r ∧ r < mg s 0) (hq : 0 ≤ q ∧ q < 5) (hc : c = 12 + 4 * q + r) : wG (x.2.2 0) 0 r q = mg s c := by
  subst hc
  have := h.1.2.2.2 r q hr.1 (by rw [gD0]; exact hr.2) hq.1 hq.2
  rw [gD0] at this
  exact this
theorem idle_eq (h : rA (x.2.2 0) (gD 0 s)) {r : Int} (hr : 0 ≤ r ∧ r < 4) : mg s (20 + r) = 0 ∨ mg s (20 + r) = 1 := by
  have := (h.2.2.1.1.2.2.2.2 r hr.1 hr.2).2.2
  rw [gD0] at this
  exact this
theorem lSrc_iff (h : rA (x.2.2 0) (gD 0 s)) (r : Int) : lSrc x r ↔ mSrc s r := by
  have e := z0_eq h
  constructor
  · intro q
    obtain ⟨a, b⟩ := q
    exact ⟨a, by rw [← e]; exact b⟩
  · intro q
    obtain ⟨a, b⟩ := q
    exact ⟨a, by rw [e]; exact b⟩
theorem lEv_iff (h : rA (x.2.2 0) (gD 0 s)) (k t v r : Int) : lEv x k t v r ↔ mEv s k t v r := by
  have e := lSrc_iff h r
  constructor
  · intro q
    obtain ⟨⟨a, b⟩, c, d, f⟩ := q
    exact ⟨⟨a, by omega⟩, c, d, e.mp f⟩
  · intro q
    obtain ⟨⟨a, b⟩, c, d, f⟩ := q
    exact ⟨⟨a, by omega⟩, c, d, e.mpr f⟩
theorem evP_ok {k t v r : Int} {K : Int → MS → Prop} (hw : rW (x.2.2 0) (gD 0 s)) (I : dI 0 s) (k0 : lEvR x k t v r < 0 → K (lEvR x k t v r) s) (kk : ¬ lEvR x k t v r < 0 → ∀ s', rW (wComeE (x.2.2 0) k t v r) (gD 0 s') → dI 0 s' → oD 0 s s' → K (wFate (wNote (x.2.2 0) 0 r t) t) s') : evP s k t v r 650 K := by
  have h := hw.1
  have ev := lEv_iff h k t v r
  obtain ⟨e6, b6⟩ := z6_eq h
  refine ⟨fun q => ?_, fun q => ⟨fun q6 => ?_, fun q6 => ⟨⟨b6.1, by omega⟩, ?_⟩⟩⟩
  · have e : lEvR x k t v r = -1 := if_neg (fun z => q (ev.mp z))
    rw [e] at k0
    exact k0 (by decide)
  · have e : lEvR x k t v r = -3 := by
      unfold lEvR lIn
      rw [if_pos (ev.mpr q), if_pos (by omega)]
    rw [e] at k0
    exact k0 (by decide)
  · have e : ¬ lEvR x k t v r < 0 := by
      unfold lEvR lIn
      rw [if_pos (ev.mpr q), if_neg (by omega)]
      decide
    obtain ⟨⟨a, b⟩, ⟨c, d⟩, vb, f⟩ := q
    refine hw.comeM I ⟨by decide, by decide⟩ (show mg s 6 ≤ 159 by omega) ⟨a, b⟩ ⟨c, d⟩ ⟨by have := vb.1; omega, by have := vb.2; omega⟩ ⟨f.1, by rw [gD0]; exact f.2⟩ (fun s' ha i o _ => ?_)
    have hh : mHow s 0 t = wFate (wNote (x.2.2 0) 0 r t) t := (sA.self.how t).trans (h.fate r t).symm
    rw [hh]
    exact kk e s' ha i o
theorem b7_nn {d : Int} {s' : MS} (I : dI 0 s) (I' : dI 0 s') (l : mg s (0 * 2804 + 7) ≤ mg s' (0 * 2804 + 7)) : 0 ≤ wI (mg s' 7 - mg s 7) := by
  have a : 0 ≤ mg s 7 := I.2.2.1.2.1.1
  have b : mg s' 7 ≤ 2700 * mg s' (0 * 2804 + 6) := I'.2.2.1.2.1.2
  have c := I'.2.1.2
  have l : mg s 7 ≤ mg s' 7 := l
  rw [wI_id ⟨by omega, by omega⟩]
  omega
theorem mkP_ok {r t : Int} {K : Int → MS → Prop} (hw : rW (x.2.2 0) (gD 0 s)) (I : dI 0 s) (k0 : lMkR x r t < 0 → K (lMkR x r t) s) (kk : ¬ lMkR x r t < 0 → ∀ s', 0 ≤ wI (mg s' 7 - mg s 7) → rW (wComeM (x.2.2 0) r t) (gD 0 s') → dI 0 s' → oD 0 s s' → K (wI (mg s' 7 - mg s 7)) s') : mkP s r t 650 K := by
  have h := hw.1
  have ev := lSrc_iff h r
  have e0 := z0_eq h
  obtain ⟨e6, b6⟩ := z6_eq h
  refine ⟨fun q => ?_, fun q => ⟨fun qm => ?_, fun qm => ⟨fun q6 => ?_, fun q6 => ⟨⟨b6.1, by omega⟩, ?_⟩⟩⟩⟩
  · have e : lMkR x r t = -1 := if_neg (fun z => q ⟨ev.mp z.1, z.2⟩)
    rw [e] at k0
    exact k0 (by decide)
  · have em := src_eq h (q := 0) (c := 12 + r) q.1 (by decide) (by omega)
    have e : lMkR x r t = -2 := by
      unfold lMkR
      rw [if_pos ⟨ev.mpr q.1, q.2⟩, if_pos (by rw [em]; exact qm)]
    rw [e] at k0
    exact k0 (by decide)
  · have em := src_eq h (q := 0) (c := 12 + r) q.1 (by decide) (by omega)
    have e : lMkR x r t = -3 := by
      unfold lMkR lIn
      rw [if_pos ⟨ev.mpr q.1, q.2⟩, if_neg (by rw [em]; omega), if_pos (by omega)]
    rw [e] at k0
    exact k0 (by decide)
  · have em := src_eq h (q := 0) (c := 12 + r) q.1 (by decide) (by omega)
    have e : ¬ lMkR x r t < 0 := by
      unfold lMkR lIn
      rw [if_pos ⟨ev.mpr q.1, q.2⟩, if_neg (by rw [em]; omega), if_neg (by omega)]
      decide
    obtain ⟨f, g⟩ := q
    exact hw.markM I ⟨by decide, by decide⟩ (show mg s 6 ≤ 159 by omega) g ⟨f.1, by rw [gD0]; exact f.2⟩ (by rw [gD0]; exact qm) (fun s' ha l i o _ => kk e s' (b7_nn (d := 0) I i l) ha i o)
theorem idP_ok {r : Int} {K : Int → MS → Prop} (hw : rW (x.2.2 0) (gD 0 s)) (I : dI 0 s) (k0 : lIdR x r < 0 → K (lIdR x r) s) (kk : ¬ lIdR x r < 0 → ∀ s', 0 ≤ wI (mg s' 7 - mg s 7) → rW (wComeI (x.2.2 0) r) (gD 0 s') → dI 0 s' → oD 0 s s' → K (wI (mg s' 7 - mg s 7)) s') : idP s r 650 K := by
  have h := hw.1
  have ev := lSrc_iff h r
  have e0 := z0_eq h
  have i0 := I.1.2
  have i0 : mg s 0 ≤ 4 := i0
  obtain ⟨e6, b6⟩ := z6_eq h
  refine ⟨fun q => ?_, fun q => ⟨fun qm => ?_, fun qm => ⟨fun q6 => ?_, fun q6 => ⟨⟨b6.1, by omega⟩, ?_⟩⟩⟩⟩
  · have e : lIdR x r = -1 := if_neg (fun z => q (ev.mp z))
    rw [e] at k0
    exact k0 (by decide)
  · have em := src_eq h (q := 2) (c := 20 + r) q (by decide) (by omega)
    have e : lIdR x r = -2 := by
      unfold lIdR
      rw [if_pos (ev.mpr q), if_pos (by rw [em]; omega)]
    rw [e] at k0
    exact k0 (by decide)
  · have em := src_eq h (q := 2) (c := 20 + r) q (by decide) (by omega)
    have eb := idle_eq h (r := r) ⟨q.1, by have := q.2; omega⟩
    have e : lIdR x r = -3 := by
      unfold lIdR lIn
      rw [if_pos (ev.mpr q), if_neg (by rw [em]; omega), if_pos (by omega)]
    rw [e] at k0
    exact k0 (by decide)
  · have em := src_eq h (q := 2) (c := 20 + r) q (by decide) (by omega)
    have eb := idle_eq h (r := r) ⟨q.1, by have := q.2; omega⟩
    have e : ¬ lIdR x r < 0 := by
      unfold lIdR lIn
      rw [if_pos (ev.mpr q), if_neg (by rw [em]; omega), if_neg (by omega)]
      decide
    exact hw.idleM I ⟨by decide, by decide⟩ (show mg s 6 ≤ 159 by omega) ⟨q.1, by rw [gD0]; exact q.2⟩ (fun s' ha l i o _ => kk e s' (b7_nn (d := 0) I i l) ha i o)
end EV
/-- a change behind a state laid by -/
def Aft (m m2 : MS) : Prop := Inv m2 ∧ dI 3 m2 ∧ (m2.1 4 = m.1 4 ∧ m2.1 8 = m.1 8 ∧ m2.2 12 = m.2 12 ∧ m2.2 2 = m.2 2) ∧ (∀ c : Int, 0 ≤ c → c < 2804 → mg m2 (3 * 2804 + c) = mg m (0 * 2804 + c)) ∧ ∀ y : Int, 0 ≤ y → (2804 ≤ y ∧ y < 8412) ∨ 14020 ≤ y → mg m2 y = mg m y
theorem Aft.of {m s' : MS} (I : Inv m) (i : dI 0 s') (o : oD 0 (mCopy m 0 3) s') : Aft m s' := by
  have oc : oD 3 m (mCopy m 0 3) := copy_o (by decide)
  have q3 := I.on3 oc
  have d3 : dI 3 (mCopy m 0 3) := I.2.2.2.1.copy (by decide) (by decide)
  have q := q3.1.on0 i o
  refine ⟨q.1, d3.other (by decide) (by decide) (by decide) o, ⟨(q3.trans q).2.1, ?_, (q3.trans q).2.2, ?_⟩, fun c c0 c1 => ?_, fun y y0 hy => ?_⟩
  · rw [o.2.1 8 (by decide) (by decide) (by decide)]; rfl
  · rw [o.2.2 2 (by decide) (by decide)]; rfl
  · rw [o.1 _ (by omega) (by omega)]
    exact copy_at (by decide) (by decide) c0 c1
  · rw [o.1 y y0 (by omega)]
    exact copy_ne (by decide) y0 (by omega)
theorem Aft.more {m s' u : MS} (a : Aft m s') (e4 : u.1 4 = s'.1 4) (e8 : u.1 8 = s'.1 8) (e1 : 0 ≤ u.1 1 ∧ u.1 1 ≤ 16) (e3 : u.2 3 = s'.2 3) (e12 : u.2 12 = s'.2 12) (e2 : u.2 2 = s'.2 2) : Aft m u := by
  obtain ⟨I, d3, ⟨f4, f8, f12, f2⟩, c3, co⟩ := a
  have q := I.cong e1 e4 e8 e3 e12
  exact ⟨q.1, d3.cong e3, ⟨e4.trans f4, e8.trans f8, e12.trans f12, e2.trans f2⟩, fun c c0 c1 => (mg_cong e3 _).trans (c3 c c0 c1), fun y y0 hy => (mg_cong e3 y).trans (co y y0 hy)⟩
theorem Aft.e2 {m s' : MS} (a : Aft m s') {p q : Int} : Aft m (mEn (mEn (mS s' 1 0) p) q) := a.more rfl rfl ⟨by show (0 : Int) ≤ 0 + 1 + 1; decide, by show (0 : Int) + 1 + 1 ≤ 16; decide⟩ rfl rfl rfl
theorem Aft.e1 {m s' : MS} (a : Aft m s') {p : Int} : Aft m (mEn (mS s' 1 0) p) := a.more rfl rfl ⟨by show (0 : Int) ≤ 0 + 1; decide, by show (0 : Int) + 1 ≤ 16; decide⟩ rfl rfl rfl
theorem lwR.done {x : LSt} {m m2 : MS} {w' : WS} (h : lwR x m) (a : Aft m m2) (hw : rW w' (gD 0 m2)) (ok : wok w') : lwR (setW (lRem x) 0 w') (mLays m2) := by
  obtain ⟨I, d3, ⟨f4, f8, f12, f2⟩, c3, co⟩ := a
  exact h.step I d3 f4 f8 f12 f2 c3 co hw ok
theorem Aft.uok {m m2 : MS} (a : Aft m m2) : uok1 m2 := a.1.2.1
theorem lwR.wW {x : LSt} {m : MS} (h : lwR x m) : rW (x.2.2 0) (gD 0 m) := h.2.2.2.2.2.2
theorem lwR.w0 {x : LSt} {m : MS} (h : lwR x m) : rA (x.2.2 0) (gD 0 m) := h.2.2.2.2.2.2.1
theorem pre_n {m : MS} (h : Inv m) : Qn m (mCopy m 0 3) := ⟨h.on3 (copy_o (by decide)), rfl, rfl, fun y y0 hy => copy_ne (by decide) y0 (by omega)⟩
theorem lwR.pre {x : LSt} {m : MS} (h : lwR x m) : lwR x (mCopy m 0 3) := h.ask (Qx.self h.1) (pre_n h.2.1)
theorem lwR.s0 {x : LSt} {m : MS} (h : lwR x m) {v : Int} : lwR x (mS m 0 v) := h.ask (Qx.self h.1) h.2.1.n0
theorem rem_0 {x : LSt} (hu : uok x) : (lRem x).2.2 0 = x.2.2 0 := by
  obtain ⟨-, -, -, r⟩ := rem_c hu
  rw [r, if_neg]
  unfold uSl
  omega
section ST
variable {x : LSt} {m : MS} {K : Int → PS → LSt → MS → Prop}
theorem st_event {k t v r : Int} (hk : xB k) (ht : xB t) (hv : xB v) (hr : xB r) (h : lwR x m) (kk : ∀ q x' m', lwR x' m' → K q [pI q] x' m') : sX2_event k t v r x (fun v' x' => ∃ q, v' = [pI q] ∧ sX3_event k t v r m (fun w m' => K q w x' m')) := by
  have h0 := h.s0 (v := 0)
  have hp := h0.pre
  refine ⟨⟨hk, ht, hv, hr, h.1⟩, _, rfl, ⟨⟨hk, ht, hv, hr⟩, hp.2.1.mok⟩, 650, ?_⟩
  refine evP_ok hp.wW hp.2.1.2.2.2.1 (fun c => ?_) (fun c s' ha i o => ?_)
  · have e : fEvent x k t v r = (lEvR x k t v r, x) := if_pos c
    rw [e]
    exact ⟨fun _ => kk _ _ _ hp, fun q => absurd c (by omega)⟩
  · have e : fEvent x k t v r = (wFate (wNote ((lRem x).2.2 0) 0 r t) t, lTell2 (setW (lRem x) 0 (wComeE ((lRem x).2.2 0) k t v r)) (wI ((wComeE ((lRem x).2.2 0) k t v r).1 4 - ((lRem x).2.2 0).1 4)) ((wComeE ((lRem x).2.2 0) k t v r).1 3)) := if_neg c
    rw [e, rem_0 h.1.1]
    have a := (Aft.of h0.2.1 i o).e2 (p := wI (mg s' (0 * 2804 + 7) - mg s' (3 * 2804 + 7))) (q := mg s' (0 * 2804 + 4))
    have d := h0.done (w' := wComeE (x.2.2 0) k t v r) a (rW.cong ha (fun c _ _ => rfl)) (wok_ComeE (h.1.2.2.2 0 (by decide)))
    refine ⟨fun q => absurd q (by have := wFate_b (wNote (x.2.2 0) 0 r t) t; omega), fun _ => ⟨a.uok, kk _ _ _ (d.ask (qx_2 d.1) (Qn.self d.2.1))⟩⟩
theorem st_marks {r t : Int} (hr : xB r) (ht : xB t) (h : lwR x m) (kk : ∀ q x' m', lwR x' m' → K q [pI q] x' m') : sX2_marks r t x (fun v' x' => ∃ q, v' = [pI q] ∧ sX3_marks r t m (fun w m' => K q w x' m')) := by
  have h0 := h.s0 (v := 0)
  have hp := h0.pre
  refine ⟨⟨hr, ht, h.1⟩, _, rfl, ⟨⟨hr, ht⟩, hp.2.1.mok⟩, 650, ?_⟩
  refine mkP_ok hp.wW hp.2.1.2.2.2.1 (fun c => ?_) (fun c s' hb ha i o => ?_)
  · have e : fMarks x r t = (lMkR x r t, x) := if_pos c
    rw [e]
    exact ⟨fun _ => ⟨hp.2.1.2.1, kk _ _ _ hp⟩, fun q => absurd c (by omega)⟩
  · have e : fMarks x r t = (wI ((wComeM ((lRem x).2.2 0) r t).1 4 - ((lRem x).2.2 0).1 4), lTell1 (setW (lRem x) 0 (wComeM ((lRem x).2.2 0) r t)) ((wComeM ((lRem x).2.2 0) r t).1 3)) := if_neg c
    have eq : wI ((wComeM (x.2.2 0) r t).1 4 - (x.2.2 0).1 4) = wI (mg s' 7 - mg (mCopy (mS m 0 0) 0 3) 7) := by rw [ha.sent, hp.wW.sent, gD0, gD0]
    rw [e, rem_0 h.1.1, eq]
    have a := (Aft.of h0.2.1 i o).e1 (p := mg s' 4)
    have d := h0.done (w' := wComeM (x.2.2 0) r t) a (rW.cong ha (fun c _ _ => rfl)) (wok_ComeM (h.1.2.2.2 0 (by decide)))
    exact ⟨fun q => absurd q (by omega), fun _ => ⟨a.uok, kk _ _ _ (d.ask (qx_1 d.1) (Qn.self d.2.1))⟩⟩
theorem st_idles {r : Int} (hr : xB r) (h : lwR x m) (kk : ∀ q x' m', lwR x' m' → K q [pI q] x' m') : sX2_idles r x (fun v' x' => ∃ q, v' = [pI q] ∧ sX3_idles r m (fun w m' => K q w x' m')) := by
  have h0 := h.s0 (v := 0)
  have hp := h0.pre
  refine ⟨⟨hr, h.1⟩, _, rfl, ⟨hr, hp.2.1.mok⟩, 650, ?_⟩
  refine idP_ok hp.wW hp.2.1.2.2.2.1 (fun c => ?_) (fun c s' hb ha i o => ?_)
  · have e : fIdles x r = (lIdR x r, x) := if_pos c
    rw [e]
    exact ⟨fun _ => ⟨hp.2.1.2.1, kk _ _ _ hp⟩, fun q => absurd c (by omega)⟩
  · have e : fIdles x r = (wI ((wComeI ((lRem x).2.2 0) r).1 4 - ((lRem x).2.2 0).1 4), lTell1 (setW (lRem x) 0 (wComeI ((lRem x).2.2 0) r)) ((wComeI ((lRem x).2.2 0) r).1 3)) := if_neg c
    have eq : wI ((wComeI (x.2.2 0) r).1 4 - (x.2.2 0).1 4) = wI (mg s' 7 - mg (mCopy (mS m 0 0) 0 3) 7) := by rw [ha.sent, hp.wW.sent, gD0, gD0]
    rw [e, rem_0 h.1.1, eq]
    have a := (Aft.of h0.2.1 i o).e1 (p := mg s' 4)
    have d := h0.done (w' := wComeI (x.2.2 0) r) a (rW.cong ha (fun c _ _ => rfl)) (wok_ComeI (h.1.2.2.2 0 (by decide)))
    exact ⟨fun q => absurd q (by omega), fun _ => ⟨a.uok, kk _ _ _ (d.ask (qx_1 d.1) (Qn.self d.2.1))⟩⟩
theorem st_start {n g l e : Int} (hn : xB n) (hg : xB g) (hl : xB l) (he : xB e) (h : lwR x m) (kk : ∀ q x' m', lwR x' m' → K q [pI q] x' m') : sX2_start n g l e x (fun v' x' => ∃ q, v' = [pI q] ∧ sX3_start n g l e m (fun w m' => K q w x' m')) := by
  have h0 := h.s0 (v := 0)
  refine ⟨⟨hn, hg, hl, he, h.1⟩, _, rfl, ⟨⟨hn, hg, hl, he⟩, h.2.1.2.1⟩, ?_⟩
  by_cases c : (1 ≤ n ∧ n ≤ 4) ∧ okSet g l e
  · have e1 : fStart x n g l e = (n, setW (lRem x) 0 (wReset ((lRem x).2.2 0) n g l e)) := if_pos c
    have e2 : gStart m n g l e = (n, mLays (mStarts (mCopy (mS m 0 0) 0 3) 0 n g l e)) := if_pos c
    rw [e1, e2, rem_0 h.1.1]
    obtain ⟨s1, s2, -⟩ := starts_ok (s := mCopy (mS m 0 0) 0 3) (d := 0) (n := n) (g := g) (l := l) (e := e) (by decide) c.1
    have a := Aft.of h0.2.1 s1 s2
    exact kk _ _ _ (h0.done a ⟨(rA.reset c.1 c.2).cong (fun y y0 y1 hy => startsA (by decide) y y0 y1 hy), rB.start (by decide), zW.reset⟩ (wok_Reset (h.1.2.2.2 0 (by decide))))
  · have e1 : fStart x n g l e = (-1, x) := if_neg c
    have e2 : gStart m n g l e = (-1, mS m 0 0) := if_neg c
    rw [e1, e2]
    exact kk _ _ _ h0
theorem rA.delay {w : WS} {g : Int → Int} {r v : Int} (h : rA w g) (h6 : g 6 = 0) (hr : 0 ≤ r ∧ r < g 0) (hv : 0 ≤ v ∧ v ≤ 999) : rA (wP w 0 r 1 v) (up1 g (16 + r) v) := by
  have hz := h.1.2.2.1
  have a := h.1.src (v := v) hr.1 hr.2 (c := 1) (by decide) (by decide)
  rw [show 12 + 4 * 1 + r = 16 + r by omega] at a
  have e6 : up1 g (16 + r) v 6 = 0 := (up1_ne (by omega)).trans h6
  refine ⟨a, h.2.1.of rfl (fun _ _ _ _ _ _ => rfl) (up1_ne (by omega)) (up1_ne (by omega)) (fun c c0 c1 => up1_ne (by omega)), ⟨h.2.2.1.1.u16 ⟨hr.1, by omega⟩ hv, ?_⟩, fun c hc => ?_, fun i i0 i1 => absurd i1 (by rw [e6]; omega)⟩
  · rw [ls1_cong (by omega) (up1_ne (by omega)) (fun c hc => up1_ne (by omega)), up1_ne (by omega)]
    exact h.2.2.1.2
  · rw [e6]
    have := h.2.2.2.1 c hc
    rw [h6] at this
    have this : g c = if (0 ≤ c ∧ c < 4) ∨ (16 ≤ c ∧ c < 20) then g c else 0 := this
    show up1 g (16 + r) v c = if (0 ≤ c ∧ c < 4) ∨ (16 ≤ c ∧ c < 20) then up1 g (16 + r) v c else 0
    by_cases q : (0 ≤ c ∧ c < 4) ∨ (16 ≤ c ∧ c < 20)
    · rw [if_pos q]
    · rw [if_neg q] at this ⊢
      rw [up1_ne (by omega)]
      exact this
theorem st_delays {r v : Int} (hr : xB r) (hv : xB v) (h : lwR x m) (kk : ∀ q x' m', lwR x' m' → K q [pI q] x' m') : sX2_delays r v x (fun v' x' => ∃ q, v' = [pI q] ∧ sX3_delays r v m (fun w m' => K q w x' m')) := by
  have h0 := h.s0 (v := 0)
  have ev := lSrc_iff h.w0 r
  have i0 : mg m 0 ≤ 4 := h.2.1.zero.2
  obtain ⟨e6, b6⟩ := z6_eq h.w0
  refine ⟨⟨hr, hv, h.1⟩, _, rfl, ⟨⟨hr, hv⟩, h.2.1.mok, h.2.1.2.1⟩, ?_⟩
  by_cases c : mSrc m r ∧ inB v 0 999
  · have em := src_eq h.w0 (q := 1) (c := 16 + r) c.1 (by decide) (by omega)
    have bd := (h.w0.2.2.1.1.2.2.2.2 r c.1.1 (by have := c.1.2; omega)).2.1
    rw [gD0] at bd
    have e1 : fDelays x r v = (if wG (x.2.2 0) 0 r 1 = v then (-2, x) else if 0 < wZ (x.2.2 0) 4 then (-3, x) else (wG (x.2.2 0) 0 r 1, setW (lRem x) 0 (wP ((lRem x).2.2 0) 0 r 1 v))) := if_pos ⟨ev.mpr c.1, c.2⟩
    have e2 : gDelays m r v = (if mg m (16 + r) = v then (-2, mS m 0 0) else if 0 < mg m 6 then (-3, mS m 0 0) else (mg m (16 + r), if 0 ≤ mg m (16 + r) then mLays (mP (mCopy (mS m 0 0) 0 3) (16 + r) v) else mP (mCopy (mS m 0 0) 0 3) (16 + r) v)) := if_pos c
    rw [e1, e2, em, e6, rem_0 h.1.1]
    by_cases c2 : mg m (16 + r) = v
    · rw [if_pos c2, if_pos c2]
      exact kk _ _ _ h0
    · rw [if_neg c2, if_neg c2]
      by_cases c3 : 0 < mg m 6
      · rw [if_pos c3, if_pos c3]
        exact kk _ _ _ h0
      · rw [if_neg c3, if_neg c3, if_pos bd.1]
        have hp := h0.pre
        have c4 : 0 ≤ r ∧ r ≤ 3 := ⟨c.1.1, by have := c.1.2; omega⟩
        obtain ⟨a1, a2⟩ := hp.2.1.putd (v := v) c4
        have a := Aft.of h0.2.1 a1 a2
        refine kk _ _ _ (h0.done a ⟨rA.to (rA.delay hp.w0 (by rw [gD0]; exact (show mg (mCopy (mS m 0 0) 0 3) 6 = mg m 6 from copy_ne (s := mS m 0 0) (by decide) (by decide) (by decide)).trans (by omega)) ⟨c.1.1, by rw [gD0]; exact c.1.2⟩ c.2) ?_, (hp.wW.2.1.delay (v := v) ⟨c.1.1, by omega⟩).cg (fun y hy => by
          rw [up1_ne (by unfold bC at hy; omega), gD0, gD0]
          exact mg_ne (by omega) (by unfold bC at hy; omega) (by unfold bC at hy; omega)), hp.wW.2.2.of rfl rfl rfl rfl rfl⟩ (wok_P (by decide) (h.1.2.2.2 0 (by decide))))
        exact sA.put sA.self (by decide) (by omega) (by omega)
  · have e1 : fDelays x r v = (-1, x) := if_neg (fun z => c ⟨ev.mp z.1, z.2⟩)
    have e2 : gDelays m r v = (-1, mS m 0 0) := if_neg c
    rw [e1, e2]
    exact kk _ _ _ h0
theorem st_undo (h : lwR x m) (kk : ∀ q x' m', lwR x' m' → K q [pI q] x' m') : sX2_undo x (fun v' x' => ∃ q, v' = [pI q] ∧ sX3_undo m (fun w m' => K q w x' m')) := by
  obtain ⟨h1, h2, h3, h4, h5, h6, h7⟩ := h
  have h0 : lwR x (mS m 0 0) := lwR.s0 ⟨h1, h2, h3, h4, h5, h6, h7⟩
  have e8 := h5.1
  have hu := h1.1
  refine ⟨h1, _, rfl, h2.2.1, ?_⟩
  by_cases c : x.1 1 = 0
  · have e1 : fUndo x = (-1, x) := if_pos c
    have e2 : gUndo m = (-1, mS m 0 0) := if_pos (by omega)
    rw [e1, e2]
    exact kk _ _ _ h0
  · have e1 : fUndo x = (x.1 1 - 1, setW (setS x 1 (x.1 1 - 1)) 0 (wCopy (x.2.2 0) (x.2.2 (uSl x (x.1 1 - 1))))) := if_neg c
    have e2 : gUndo m = (m.1 8 - 1, mCopy (mS (mS m 0 0) 8 (m.1 8 - 1)) (5 + (m.1 8 - 1)) 0) := if_neg (by omega)
    have hr := h5.2 (m.1 8 - 1) (by omega) (by omega)
    rw [e1, e2, e8]
    obtain ⟨-, hu2, hu3⟩ := hu
    rw [e8] at hu2 hu3 c
    have q1 : lok (setS x 1 (m.1 8 - 1)) := ⟨⟨h1.1.1, by show 0 ≤ m.1 8 - 1; omega, by show m.1 8 - 1 ≤ 6; omega⟩, h1.2⟩
    have hb : uSl x (m.1 8 - 1) < 10 := by
      unfold uSl
      have := Int.tmod_lt_of_pos (x.1 0 + (m.1 8 - 1)) (b := 6) (by decide)
      omega
    have q2 := ql_W (q := 0) q1 (wok_Copy (h1.2.2.2 0 (by decide)) (h1.2.2.2 _ hb))
    have I2 : Inv (mCopy (mS (mS m 0 0) 8 (m.1 8 - 1)) (5 + (m.1 8 - 1)) 0) := by
      have hm := h2
      obtain ⟨a, b, cc, d, e, f⟩ := h2
      have o : oD 0 (mS (mS m 0 0) 8 (m.1 8 - 1)) (mCopy (mS (mS m 0 0) 8 (m.1 8 - 1)) (5 + (m.1 8 - 1)) 0) := copy_o (by decide)
      have e8' : (mCopy (mS (mS m 0 0) 8 (m.1 8 - 1)) (5 + (m.1 8 - 1)) 0).1 8 = m.1 8 - 1 := rfl
      refine ⟨a, by show 0 ≤ m.1 8 - 1 ∧ m.1 8 - 1 ≤ 6; omega, cc, ?_, fun i i0 i1 hi => ?_, fun k k0 k1 => ?_⟩
      · exact dI.copy (s := mS (mS m 0 0) 8 (m.1 8 - 1)) ((f (m.1 8 - 1) (by omega) (by omega)).cong rfl) (by omega) (by decide)
      · exact dI.other (s := mS (mS m 0 0) 8 (m.1 8 - 1)) ((e i i0 i1 hi).cong rfl) (by omega) (by decide) (by omega) o
      · rw [e8'] at k1
        exact dI.other (s := mS (mS m 0 0) 8 (m.1 8 - 1)) ((f k k0 (by omega)).cong rfl) (by omega) (by decide) (by omega) o
    have o : ∀ y : Int, 0 ≤ y → 2804 ≤ y → mg (mCopy (mS (mS m 0 0) 8 (m.1 8 - 1)) (5 + (m.1 8 - 1)) 0) y = mg m y := fun y y0 y1 => (copy_ne (by decide) y0 (by omega)).trans rfl
    refine kk _ _ _ ⟨q2.1, I2, h3.of rfl rfl rfl rfl, h4.of rfl rfl, ⟨rfl, fun k k0 k1 => ?_⟩, h6.of (fun q q0 => ?_) rfl (fun y y0 _ => o y (by omega) y0), ?_⟩
    · have k1 : k < m.1 8 - 1 := k1
      have es : uSl (setW (setS x 1 (m.1 8 - 1)) 0 (wCopy (x.2.2 0) (x.2.2 (uSl x (m.1 8 - 1))))) k = uSl x k := rfl
      rw [es]
      have ew : (setW (setS x 1 (m.1 8 - 1)) 0 (wCopy (x.2.2 0) (x.2.2 (uSl x (m.1 8 - 1))))).2.2 (uSl x k) = x.2.2 (uSl x k) := by
        show (bif Nat.beq (uSl x k) 0 then _ else x.2.2 (uSl x k)) = _
        rw [bqF (by unfold uSl; omega)]; rfl
      rw [ew]
      exact (h5.2 k k0 (by omega)).desk (fun c c0 c1 => o _ (by omega) (by omega))
    · show (bif Nat.beq q 0 then _ else x.2.2 q) = _
      rw [bqF (by omega)]; rfl
    · exact hr.copy.desk (fun c c0 c1 => copy_at (by omega) (by decide) c0 c1)
theorem st_back {i : Int} (hi : xB i) (h : lwR x m) (kk : ∀ q x' m', lwR x' m' → K q [pI q] x' m') (eq : (gBack m i).1 = (fBack x i).1) : sX2_back i x (fun v' x' => ∃ q, v' = [pI q] ∧ sX3_back i m (fun w m' => K q w x' m')) := by
  obtain ⟨h1, h2, h3, h4, h5, h6, h7⟩ := h
  have h0 : lwR x (mS m 0 0) := lwR.s0 ⟨h1, h2, h3, h4, h5, h6, h7⟩
  refine ⟨⟨hi, h1⟩, _, rfl, hi, ?_⟩
  by_cases c : inB i 0 1 ∧ m.2 12 i.toNat ≠ 0
  · have e2 : gBack m i = (1, mS (mCopy (mS m 0 0) (1 + i) 0) 8 0) := if_pos c
    have c0 : 0 ≤ i := c.1.1
    have c1 : i ≤ 1 := c.1.2
    have e1 : fBack x i = (1, setS (setW x 0 (wCopy (x.2.2 0) (x.2.2 (8 + i.toNat)))) 1 0) := by
      rw [e2] at eq
      unfold fBack at eq ⊢
      split at eq
      · rename_i c3
        rw [if_pos c3]
      · exact absurd eq (by show ¬ (1 : Int) = 0; decide)
    rw [e1, e2]
    have q0 := ql_W (q := 0) h1 (wok_Copy (h1.2.2.2 0 (by decide)) (h1.2.2.2 (8 + i.toNat) (by omega)))
    have o : oD 0 (mS m 0 0) (mCopy (mS m 0 0) (1 + i) 0) := copy_o (by decide)
    have oc : ∀ y : Int, 0 ≤ y → 2804 ≤ y → mg (mS (mCopy (mS m 0 0) (1 + i) 0) 8 0) y = mg m y := fun y y0 y1 => (copy_ne (s := mS m 0 0) (by decide) y0 (by omega)).trans rfl
    refine kk _ _ _ ⟨⟨⟨h1.1.1, by show (0 : Int) ≤ 0; decide, by show (0 : Int) ≤ 6; decide⟩, q0.1.2⟩, ?_, h3.of rfl rfl rfl rfl, h4.of rfl rfl, ⟨rfl, fun k k0 k1 => absurd k1 (by show ¬ k < 0; omega)⟩, h6.of (fun q q0 => ?_) rfl (fun y y0 _ => oc y (by omega) y0), ?_⟩
    · obtain ⟨a, b, cc, d, f, g⟩ := h2
      refine ⟨a, by show (0 : Int) ≤ 0 ∧ (0 : Int) ≤ 6; decide, cc, dI.cong (s := mCopy (mS m 0 0) (1 + i) 0) (dI.copy (s := mS m 0 0) ((f i c0 c1 c.2).cong rfl) (by omega) (by decide)) rfl, fun j j0 j1 hj => ?_, fun k k0 k1 => absurd k1 (by show ¬ k < 0; omega)⟩
      exact dI.cong (s := mCopy (mS m 0 0) (1 + i) 0) (dI.other (s := mS m 0 0) ((f j j0 j1 hj).cong rfl) (by omega) (by decide) (by omega) o) rfl
    · show (bif Nat.beq q 0 then _ else x.2.2 q) = _
      rw [bqF (by omega)]; rfl
    · exact (h6 i c0 c1 c.2).copy.desk (fun y y0 y1 => (copy_at (s := mS m 0 0) (by omega) (by decide) y0 y1).trans rfl)
  · have e2 : gBack m i = (0, mS m 0 0) := if_neg c
    have e1 : fBack x i = (0, x) := by
      rw [e2] at eq
      unfold fBack at eq ⊢
      split at eq
      · exact absurd eq (by show ¬ (0 : Int) = 1; decide)
      · rename_i c3
        rw [if_neg c3]
    rw [e1, e2]
    exact kk _ _ _ h0
end ST
