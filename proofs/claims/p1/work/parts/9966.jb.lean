/-! ===== the fresh state: a mark, an idle source ===== -/
theorem rise4 {w : WS} (h : wZ w 1 = 0) : (wRise w).1 4 = w.1 4 := by
  unfold wRise
  rw [h]
  split <;> rfl
theorem raise_f (w : WS) (r t : Int) : (wRaise w r t).1 = w.1 ∧ wZ (wRaise w r t) 1 = wZ w 1 := by
  unfold wRaise
  split <;> exact ⟨rfl, rfl⟩
theorem note_z (w : WS) (a r t : Int) : wZ (wNote w a r t) 1 = wZ w 1 := by
  unfold wNote
  split <;> rfl
theorem comeM4 (r t : Int) : (wComeM w1 r t).1 4 = 0 := by
  unfold wComeM wPlayM
  rw [rise4 (by rw [(raise_f _ _ _).2, note_z]; exact w1_Z1), (raise_f _ _ _).1, note_f]
  exact w1_f 4 (by decide)
theorem comeI4 (r : Int) : (wComeI w1 r).1 4 = 0 := by
  unfold wComeI wPlayI
  rw [rise4 (by show wZ (wNote w1 2 r 0) 1 = 0; rw [note_z]; exact w1_Z1)]
  show (wNote w1 2 r 0).1 4 = 0
  rw [note_f]
  exact w1_f 4 (by decide)
theorem aft {a q : Int} {s' : MS} (h8 : s'.1 8 = 0) (hq : a = q) : gAfter a s' (fun a _ => [pI a] = [pI q] ∧ True) :=
  ⟨fun _ => ⟨by show 0 ≤ s'.1 8 ∧ s'.1 8 ≤ 6; rw [h8]; decide, ev_q hq⟩, fun _ => ⟨by show 0 ≤ s'.1 8 ∧ s'.1 8 ≤ 6; rw [h8]; decide, ev_q hq⟩⟩
theorem u1_c {c : Int} (h0 : 0 ≤ c) (h1 : c < 2804) : mg u1 c = mg m1 c := by
  have := u1_g h0 h1
  rw [show 0 * 2804 + c = c by omega] at this
  exact this
theorem u1_8 : u1.1 8 = 0 := rfl
theorem ris_u {x a : Int} {q : Int} {s : MS} (hs : s.1 8 = 0) (h5 : mg s (0 * 2804 + 5) = 0) (h7 : mg s (0 * 2804 + 7) = 0) (hq : wI (0 - 0) = q) : mRisP s 0 0 (fun s' => gAfter (wI (mg s' 7 - mg u1 7)) s' (fun a _ => [pI a] = [pI q] ∧ True)) := by
  have e7 : mg u1 7 = 0 := (u1_c (by decide) (by decide)).trans (m1_c 7 (by decide))
  rw [e7]
  refine ris0 ⟨by decide, by decide⟩ h5 (aft hs ?_) (aft hs ?_)
  · rw [show mg s 7 = 0 from h7]; exact hq
  · rw [show mg (mRise0 s 0) 7 = 0 from (mg_ne (s := s) (a := 0 * 2804 + 4) (b := 0 * 2804 + 7) (v := mLeast s 0) (by decide) (by decide) (by decide)).trans h7]; exact hq
theorem ev_6 {a b c d : Int} (ha : xB a) (hb : xB b) (hc : xB c) (hd : xB d) : sX2_marks a b s1 (fun v _ => ∃ q, v = [pI q] ∧ sX3_marks a b m1 (fun w _ => w = [pI q] ∧ True)) := by
  have hu0 : mg u1 0 = 1 := (u1_c (by decide) (by decide)).trans m1_0
  have hu6 : mg u1 6 = 0 := (u1_c (by decide) (by decide)).trans (m1_c 6 (by decide))
  have hu12 : mg u1 (12 + 0) = 0 := (u1_c (by decide) (by decide)).trans (m1_c 12 (by decide))
  have hm : mok1 u1 := by show 0 ≤ mg u1 0 ∧ mg u1 0 ≤ 4; rw [hu0]; decide
  have h2 : mSrc u1 a ↔ a = 0 := by show 0 ≤ a ∧ a < mg u1 0 ↔ _; rw [hu0]; omega
  have hw : wG (s1.2.2 0) 0 0 0 = 0 := w1_sr 0 (by decide)
  refine ⟨⟨ha, hb, lok1⟩, _, rfl, ⟨⟨ha, hb⟩, hm⟩, 0, ?_⟩
  show mkP u1 a b 0 _
  refine ⟨fun h => aft u1_8 ?_, fun h => ?_⟩
  · have e : lMkR s1 a b = -1 := by
      unfold lMkR
      exact if_neg (fun q => h ⟨h2.mpr (src1.mp q.1), q.2⟩)
    unfold fMarks
    rw [e, if_pos (by decide)]
  · have h0 : a = 0 := h2.mp h.1
    subst h0
    have hb0 : 0 ≤ b ∧ b ≤ 20000 := h.2
    have hl : lSrc s1 0 ∧ 0 ≤ b ∧ b ≤ 20000 := ⟨src1.mpr rfl, hb0⟩
    refine ⟨fun q => aft u1_8 ?_, fun q => ⟨fun e => absurd (hu6.symm.trans e) (by decide), fun _ => ⟨⟨by rw [hu6]; decide, by rw [hu6]; decide⟩, ?_⟩⟩⟩
    · rw [hu12] at q
      have e : lMkR s1 0 b = -2 := by
        unfold lMkR
        exact (if_pos hl).trans (if_pos (by rw [hw]; exact q))
      unfold fMarks
      rw [e, if_pos (by decide)]
    · rw [hu12] at q
      have e : (fMarks s1 0 b).1 = wI (0 - 0) := by
        have e : lMkR s1 0 b = 0 := by
          unfold lMkR
          refine (if_pos hl).trans ((if_neg (by rw [hw]; omega)).trans ?_)
          unfold lIn
          exact if_neg (by rw [show wZ (s1.2.2 0) 4 = 0 from w1_Z4]; decide)
        unfold fMarks
        rw [e, if_neg (by decide)]
        show wI ((wComeM ((lRem s1).2.2 0) 0 b).1 4 - ((lRem s1).2.2 0).1 4) = _
        rw [rem1, comeM4, w1_f 4 (by decide)]
        rfl
      have n0 := note_lo (s := u1) (d := 0) (a := 1) (r := 0) (t := b) (k := -1) (v := 0) (b := 0) (x := 0 * 2804 + 0) ⟨by decide, by decide⟩ (by rw [show mg u1 (0 * 2804 + 6) = 0 from hu6]; decide) (by decide) (by decide) (by decide)
      have n5 := note_lo (s := u1) (d := 0) (a := 1) (r := 0) (t := b) (k := -1) (v := 0) (b := 0) (x := 0 * 2804 + 5) ⟨by decide, by decide⟩ (by rw [show mg u1 (0 * 2804 + 6) = 0 from hu6]; decide) (by decide) (by decide) (by decide)
      have n7 := note_lo (s := u1) (d := 0) (a := 1) (r := 0) (t := b) (k := -1) (v := 0) (b := 0) (x := 0 * 2804 + 7) ⟨by decide, by decide⟩ (by rw [show mg u1 (0 * 2804 + 6) = 0 from hu6]; decide) (by decide) (by decide) (by decide)
      have n8 : (mNote u1 0 1 0 b (-1) 0 0).1 8 = 0 := by rw [note_1]; exact u1_8
      unfold mMarkP
      simp only []
      generalize mNote u1 0 1 0 b (-1) 0 0 = u at n0 n5 n7 n8 ⊢
      refine ⟨?_, ris_u (x := 0) (a := 0) n8 ?_ ?_ e.symm⟩
      · rw [mg_ne (by decide) (by decide) (by decide), n0, show mg u1 (0 * 2804 + 0) = 1 from hu0]; decide
      · rw [mg_ne (by decide) (by decide) (by decide), n5]; exact (u1_g (c := 5) (by decide) (by decide)).trans (m1_c 5 (by decide))
      · rw [mg_ne (by decide) (by decide) (by decide), n7]; exact (u1_g (c := 7) (by decide) (by decide)).trans (m1_c 7 (by decide))
theorem ev_7 {a b c d : Int} (ha : xB a) (hb : xB b) (hc : xB c) (hd : xB d) : sX2_idles a s1 (fun v _ => ∃ q, v = [pI q] ∧ sX3_idles a m1 (fun w _ => w = [pI q] ∧ True)) := by
  have hu0 : mg u1 0 = 1 := (u1_c (by decide) (by decide)).trans m1_0
  have hu6 : mg u1 6 = 0 := (u1_c (by decide) (by decide)).trans (m1_c 6 (by decide))
  have hu20 : mg u1 (20 + 0) = 0 := (u1_c (by decide) (by decide)).trans (m1_c 20 (by decide))
  have hm : mok1 u1 := by show 0 ≤ mg u1 0 ∧ mg u1 0 ≤ 4; rw [hu0]; decide
  have h2 : mSrc u1 a ↔ a = 0 := by show 0 ≤ a ∧ a < mg u1 0 ↔ _; rw [hu0]; omega
  have hw : wG (s1.2.2 0) 0 0 2 = 0 := w1_sr 2 (by decide)
  refine ⟨⟨ha, lok1⟩, _, rfl, ⟨ha, hm⟩, 0, ?_⟩
  show idP u1 a 0 _
  refine ⟨fun h => aft u1_8 ?_, fun h => ?_⟩
  · have e : lIdR s1 a = -1 := by
      unfold lIdR
      exact if_neg (fun q => h (h2.mpr (src1.mp q)))
    unfold fIdles
    rw [e, if_pos (by decide)]
  · have h0 : a = 0 := h2.mp h
    subst h0
    have hl : lSrc s1 0 := src1.mpr rfl
    refine ⟨fun q => absurd (hu20.symm.trans q) (by decide), fun q => ⟨fun e => absurd (hu6.symm.trans e) (by decide), fun _ => ⟨⟨by rw [hu6]; decide, by rw [hu6]; decide⟩, ?_⟩⟩⟩
    have e : (fIdles s1 0).1 = wI (0 - 0) := by
      have e : lIdR s1 0 = 0 := by
        unfold lIdR
        refine (if_pos hl).trans ((if_neg (by rw [hw]; exact fun q => q rfl)).trans ?_)
        unfold lIn
        exact if_neg (by rw [show wZ (s1.2.2 0) 4 = 0 from w1_Z4]; decide)
      unfold fIdles
      rw [e, if_neg (by decide)]
      show wI ((wComeI ((lRem s1).2.2 0) 0).1 4 - ((lRem s1).2.2 0).1 4) = _
      rw [rem1, comeI4, w1_f 4 (by decide)]
      rfl
    have n0 := note_lo (s := u1) (d := 0) (a := 2) (r := 0) (t := 0) (k := -1) (v := 0) (b := 0) (x := 0 * 2804 + 0) ⟨by decide, by decide⟩ (by rw [show mg u1 (0 * 2804 + 6) = 0 from hu6]; decide) (by decide) (by decide) (by decide)
    have n5 := note_lo (s := u1) (d := 0) (a := 2) (r := 0) (t := 0) (k := -1) (v := 0) (b := 0) (x := 0 * 2804 + 5) ⟨by decide, by decide⟩ (by rw [show mg u1 (0 * 2804 + 6) = 0 from hu6]; decide) (by decide) (by decide) (by decide)
    have n7 := note_lo (s := u1) (d := 0) (a := 2) (r := 0) (t := 0) (k := -1) (v := 0) (b := 0) (x := 0 * 2804 + 7) ⟨by decide, by decide⟩ (by rw [show mg u1 (0 * 2804 + 6) = 0 from hu6]; decide) (by decide) (by decide) (by decide)
    have n8 : (mNote u1 0 2 0 0 (-1) 0 0).1 8 = 0 := by rw [note_1]; exact u1_8
    unfold mIdleP
    simp only []
    generalize mNote u1 0 2 0 0 (-1) 0 0 = u at n0 n5 n7 n8 ⊢
    refine ⟨?_, ris_u (x := 0) (a := 0) n8 ?_ ?_ e.symm⟩
    · rw [mg_ne (by decide) (by decide) (by decide), n0, show mg u1 (0 * 2804 + 0) = 1 from hu0]; decide
    · rw [mg_ne (by decide) (by decide) (by decide), n5]; exact (u1_g (c := 5) (by decide) (by decide)).trans (m1_c 5 (by decide))
    · rw [mg_ne (by decide) (by decide) (by decide), n7]; exact (u1_g (c := 7) (by decide) (by decide)).trans (m1_c 7 (by decide))
