/-! ===== an event that comes to a desk of one source ===== -/
theorem come_ok {d n b j k t v : Int} {m : Nat} {s : MS} {K : MS → Prop} (h : dI d n b j s) (hd : dOk d) (hn : n ≤ 99) (hm : n + 1 ≤ m) (hb : b + 4 * m + 1 ≤ 1000000) (hj : 0 ≤ j ∧ j ≤ 1000) (hk : 0 ≤ k ∧ k ≤ 5) (ht : 0 ≤ t ∧ t ≤ 9999) (hh : mHow s d t < 2) (kk : ∀ s', dI d (n + 1) (b + 4 * m + 1) (j + 1) s' → s'.1 8 = s.1 8 → K s') : mComeP s d k t v 0 m K := by
  have hd0 : 0 ≤ d := hd.1
  obtain ⟨V, i0, i2, i16, i6, i4, i12⟩ := h
  refine ⟨fun _ => ?_, fun q => absurd (q ▸ hh) (by decide)⟩
  have lo : ∀ c, 0 ≤ c → c < 1844 → c ≠ 6 → c ≠ 8 → c ≠ 9 → mg (mInc (mInc (mS (mNote s d 0 0 t k v 1) 12 0) (d * 2804 + 8) 1) (d * 2804 + 9) (mHow s d t)) (d * 2804 + c) = mg s (d * 2804 + c) := fun c c0 c1 c6 c8 c9 => by
    rw [mInc_ne (by omega) (by omega) (by omega), mInc_ne (by omega) (by omega) (by omega)]
    exact note_lo hd (by omega) (by omega) (by omega) (by omega)
  have a6 : mg (mInc (mInc (mS (mNote s d 0 0 t k v 1) 12 0) (d * 2804 + 8) 1) (d * 2804 + 9) (mHow s d t)) (d * 2804 + 6) = j + 1 := by
    rw [mInc_ne (by omega) (by omega) (by omega), mInc_ne (by omega) (by omega) (by omega)]
    refine (note_6 hd (by omega)).trans ?_
    rw [i6, wI_id ⟨by omega, by omega⟩]
  have a8 : (mInc (mInc (mS (mNote s d 0 0 t k v 1) 12 0) (d * 2804 + 8) 1) (d * 2804 + 9) (mHow s d t)).1 8 = s.1 8 := rfl
  generalize mInc (mInc (mS (mNote s d 0 0 t k v 1) 12 0) (d * 2804 + 8) 1) (d * 2804 + 9) (mHow s d t) = u at lo a6 a8 ⊢
  have Vu : dV d n b u := V.lo hd (by omega) (fun c hc => lo c (by omega) (by omega) (by omega) (by omega) (by omega))
  refine join_ok Vu hd hn (by omega) (by omega) hk (fun s2 G2 V2 => ?_)
  have c0 : mg s2 (d * 2804 + 0) = 1 := by rw [G2.1 0 (Or.inl ⟨by decide, by decide⟩), lo 0 (by decide) (by decide) (by decide) (by decide) (by decide), i0]
  have c2 : mg s2 (d * 2804 + 2) = 5 := by rw [G2.1 2 (Or.inl ⟨by decide, by decide⟩), lo 2 (by decide) (by decide) (by decide) (by decide) (by decide), i2]
  have c4 : mg s2 (d * 2804 + 4) = mg s (d * 2804 + 4) := by rw [G2.1 4 (Or.inl ⟨by decide, by decide⟩), lo 4 (by decide) (by decide) (by decide) (by decide) (by decide)]
  have c6 : mg s2 (d * 2804 + 6) = j + 1 := by rw [G2.1 6 (Or.inr (Or.inl rfl)), a6]
  have c12 : mg s2 (d * 2804 + 12) = mg s (d * 2804 + 12) := by rw [G2.1 12 (Or.inr (Or.inr ⟨by decide, by decide⟩)), lo 12 (by decide) (by decide) (by decide) (by decide) (by decide)]
  have c16 : mg s2 (d * 2804 + 16) = 20 := by rw [G2.1 16 (Or.inr (Or.inr ⟨by decide, by decide⟩)), lo 16 (by decide) (by decide) (by decide) (by decide) (by decide), i16]
  have c8 : s2.1 8 = s.1 8 := G2.2.trans a8
  unfold cmE
  simp only [Int.add_zero]
  have f3 : ∀ c, 0 ≤ c → c ≠ 24 → c ≠ 20 → mg (mP (mInc s2 (d * 2804 + 24) 1) (d * 2804 + 20) 0) (d * 2804 + c) = mg s2 (d * 2804 + c) := fun c h0 h1 h2 => by
    rw [mg_ne (by omega) (by omega) (by omega), mInc_ne (by omega) (by omega) (by omega)]
  have f20 : mg (mP (mInc s2 (d * 2804 + 24) 1) (d * 2804 + 20) 0) (d * 2804 + 20) = 0 := mg_eq
  have f8 : (mP (mInc s2 (d * 2804 + 24) 1) (d * 2804 + 20) 0).1 8 = s2.1 8 := rfl
  generalize mP (mInc s2 (d * 2804 + 24) 1) (d * 2804 + 20) 0 = s3 at f3 f20 f8 ⊢
  rw [f3 12 (by decide) (by decide) (by decide), f3 16 (by decide) (by decide) (by decide), c12, c16, wI_id (z := t - 20) ⟨by omega, by omega⟩]
  have g4 : ∀ c, 0 ≤ c → c ≠ 12 → mg (mP s3 (d * 2804 + 12) (max (mg s (d * 2804 + 12)) (t - 20))) (d * 2804 + c) = mg s3 (d * 2804 + c) := fun c h0 h1 => mg_ne (by omega) (by omega) (by omega)
  have g12 : mg (mP s3 (d * 2804 + 12) (max (mg s (d * 2804 + 12)) (t - 20))) (d * 2804 + 12) = max (mg s (d * 2804 + 12)) (t - 20) := mg_eq
  have g8 : (mP s3 (d * 2804 + 12) (max (mg s (d * 2804 + 12)) (t - 20))).1 8 = s3.1 8 := rfl
  generalize mP s3 (d * 2804 + 12) (max (mg s (d * 2804 + 12)) (t - 20)) = s4 at g4 g12 g8 ⊢
  have k0 : mg s4 (d * 2804 + 0) = 1 := by rw [g4 0 (by decide) (by decide), f3 0 (by decide) (by decide) (by decide), c0]
  have hl : mLeast s4 d = max (mg s (d * 2804 + 12)) (t - 20) := by
    have e : mg s4 (d * 2804 + (20 + 0)) = 0 := by
      show mg s4 (d * 2804 + 20) = 0
      rw [g4 20 (by decide) (by decide), f20]
    have e2 : mg s4 (d * 2804 + (12 + 0)) = max (mg s (d * 2804 + 12)) (t - 20) := g12
    unfold mLeast
    rw [k0]
    show (if mg s4 (d * 2804 + (20 + 0)) = 0 ∧ ((-1 : Int) < 0 ∨ _) then mg s4 (d * 2804 + (12 + 0)) else -1) = _
    rw [if_pos ⟨e, Or.inl (by decide)⟩, e2]
  have V4 : dV d (n + 1) (b + m + 1) s4 := V2.lo hd (by omega) (fun c hc => by rw [g4 c (by omega) (by omega), f3 c (by omega) (by omega) (by omega)])
  refine ⟨by rw [show d * 2804 = d * 2804 + 0 by omega, k0]; decide, ris_ok V4 hd (by omega) (by omega) (by omega) (fun s5 h5 p5 e8 V5 => kk s5 ⟨V5.more (by omega), ?_, ?_, ?_, ?_, ?_, ?_⟩ ?_)⟩
  · rw [h5 0 (Or.inl ⟨by decide, by decide⟩) (by decide), k0]
  · rw [h5 2 (Or.inl ⟨by decide, by decide⟩) (by decide), g4 2 (by decide) (by decide), f3 2 (by decide) (by decide) (by decide), c2]
  · rw [h5 16 (Or.inr (Or.inr ⟨by decide, by decide⟩)) (by decide), g4 16 (by decide) (by decide), f3 16 (by decide) (by decide) (by decide), c16]
  · rw [h5 6 (Or.inr (Or.inl rfl)) (by decide), g4 6 (by decide) (by decide), f3 6 (by decide) (by decide) (by decide), c6]
  · rw [g4 4 (by decide) (by decide), f3 4 (by decide) (by decide) (by decide), c4, hl] at p5
    omega
  · rw [h5 12 (Or.inr (Or.inr ⟨by decide, by decide⟩)) (by decide), g12]
    omega
  · rw [e8, g8, f8, c8]
theorem ris0 {d : Int} {s : MS} {K : MS → Prop} (hd : dOk d) (h5 : mg s (d * 2804 + 5) = 0) (k1 : K s) (k2 : K (mRise0 s d)) : mRisP s d 0 K := by
  have hd0 : 0 ≤ d := hd.1
  have e5 : mg (mRise0 s d) (d * 2804 + 5) = 0 := by
    refine (mg_ne (s := s) (v := mLeast s d) (by omega) (by omega) (by omega)).trans h5
  refine ⟨fun _ => k1, fun _ => ⟨by rw [e5]; decide, ?_, by rw [e5]; decide, ?_, k2⟩⟩
  · unfold mFirstR
    rw [e5]
    exact (by decide : (-1 : Int) < 0)
  · unfold mFirstC
    rw [e5]
    exact (by decide : (-1 : Int) < 0)
/-! ===== the fresh state: what comes ===== -/
theorem mg_S {s : MS} {k : Nat} {v x : Int} : mg (mS s k v) x = mg s x := rfl
theorem copy_g {s : MS} {f t c : Int} (hf : 0 ≤ f) (ht : 0 ≤ t) (h0 : 0 ≤ c) (h1 : c < 2804) : mg (mCopy s f t) (t * 2804 + c) = mg s (f * 2804 + c) := by
  rw [mCopy, mg_mA, if_pos (by constructor <;> omega)]
  show s.2 3 _ = s.2 3 _
  rw [show (t * 2804 + c).toNat - (t * 2804).toNat + (f * 2804).toNat = (f * 2804 + c).toNat by omega]
def u1 : MS := mCopy (mS m1 0 0) 0 3
theorem u1_g {c : Int} (h0 : 0 ≤ c) (h1 : c < 2804) : mg u1 (0 * 2804 + c) = mg m1 c := by
  show (if (3 * 2804 : Int).toNat ≤ (0 * 2804 + c).toNat ∧ _ then _ else _) = _
  rw [if_neg (fun q => by have := q.1; omega)]
  show m1.2 3 _ = m1.2 3 _
  rw [show (0 * 2804 + c).toNat = c.toNat by omega]
theorem dV_of {d : Int} {s : MS} (h5 : mg s (d * 2804 + 5) = 0) (h7 : mg s (d * 2804 + 7) = 0) (h36 : ∀ k, 0 ≤ k → k ≤ 5 → mg s (d * 2804 + (36 + k)) = 0) : dV d 0 0 s :=
  ⟨by rw [h5]; decide, by rw [h7]; decide, fun k k0 k1 => by rw [h36 k k0 k1]; decide, fun j j0 j1 => by rw [h5] at j1; omega⟩
theorem m1_36 {k : Int} (h0 : 0 ≤ k) (h1 : k ≤ 5) : mg m1 (36 + k) = 0 := toN (P := fun k => mg m1 (36 + k) = 0) 6 (by decide +kernel) h0 (by omega)
theorem dI_of {d : Int} {s : MS} (hg : ∀ c, 0 ≤ c → c < 60 → mg s (d * 2804 + c) = mg m1 c) : dI d 0 0 0 s := by
  refine ⟨dV_of ((hg 5 (by decide) (by decide)).trans (m1_c 5 (by decide))) ((hg 7 (by decide) (by decide)).trans (m1_c 7 (by decide))) (fun k k0 k1 => (hg _ (by omega) (by omega)).trans (m1_36 k0 k1)), (hg 0 (by decide) (by decide)).trans (m1_c 0 (by decide)), (hg 2 (by decide) (by decide)).trans (m1_c 2 (by decide)), (hg 16 (by decide) (by decide)).trans (m1_c 16 (by decide)), (hg 6 (by decide) (by decide)).trans (m1_c 6 (by decide)), ?_, ?_⟩
  · rw [(hg 4 (by decide) (by decide)).trans (m1_c 4 (by decide))]; decide
  · rw [(hg 12 (by decide) (by decide)).trans (m1_c 12 (by decide))]; decide
theorem how0 {d t : Int} {s : MS} (h4 : mg s (d * 2804 + 4) = 0) (h2 : mg s (d * 2804 + 2) = 5) (ht : 0 ≤ t) : mHow s d t = 0 := by
  unfold mHow
  rw [h4, h2, show wI (0 - 5) = -5 from by decide, if_neg (by omega), if_neg (by omega)]
theorem fate0 {w : WS} {t : Int} (h3 : w.1 3 = 0) (h1 : w.1 1 = 5) (ht : 0 ≤ t) : wFate w t = 0 := by
  unfold wFate
  rw [h3, h1, show wI (0 - 5) = -5 from by decide, if_neg (by omega), if_neg (by omega)]
theorem note_f (w : WS) (a r t : Int) : (wNote w a r t).1 = w.1 := by
  unfold wNote
  split <;> rfl
theorem rem1 : (lRem s1).2.2 0 = w1 := rfl
theorem ev_4 {a b c d : Int} (ha : xB a) (hb : xB b) (hc : xB c) (hd : xB d) : sX2_event a b c d s1 (fun v _ => ∃ q, v = [pI q] ∧ sX3_event a b c d m1 (fun w _ => w = [pI q] ∧ True)) := by
  have hu0 : mg u1 0 = 1 := (u1_g (c := 0) (by decide) (by decide)).trans m1_0
  have hm : mok1 u1 := by show 0 ≤ mg u1 0 ∧ mg u1 0 ≤ 4; rw [hu0]; decide
  have hu6 : mg u1 6 = 0 := (u1_g (c := 6) (by decide) (by decide)).trans (m1_c 6 (by decide))
  have hI : dI 0 0 0 0 u1 := dI_of (fun c h0 h1 => u1_g h0 (by omega))
  have he : mEv u1 a b c d ↔ lEv s1 a b c d := by
    have h1 := src1 (r := d)
    have h2 : mSrc u1 d ↔ d = 0 := by show 0 ≤ d ∧ d < mg u1 0 ↔ _; rw [hu0]; omega
    show (0 ≤ a ∧ a ≤ 5) ∧ (0 ≤ b ∧ b ≤ 9999) ∧ (-99 ≤ c ∧ c ≤ 99) ∧ mSrc u1 d ↔ (0 ≤ a ∧ a < 6) ∧ (0 ≤ b ∧ b ≤ 9999) ∧ (-99 ≤ c ∧ c ≤ 99) ∧ lSrc s1 d
    rw [h1, h2]
    omega
  refine ⟨⟨ha, hb, hc, hd, lok1⟩, _, rfl, ⟨⟨ha, hb, hc, hd⟩, hm⟩, 1, fun h => ?_, fun h => ⟨fun q => ?_, fun _ => ⟨⟨?_, ?_⟩, ?_⟩⟩⟩
  · have e : (fEvent s1 a b c d).1 = -1 := by
      unfold fEvent lEvR
      rw [if_neg (fun q => h (he.mpr q)), if_pos (by decide)]
    exact ⟨fun _ => ev_q e.symm, fun q => absurd q (by decide)⟩
  · exact absurd (hu6.symm.trans q) (by decide)
  · show 0 ≤ mg u1 6
    rw [hu6]; decide
  · show mg u1 6 ≤ 159
    rw [hu6]; decide
  · have hl := he.mp h
    have h0 : d = 0 := src1.mp hl.2.2.2
    subst h0
    have hb0 : 0 ≤ b ∧ b ≤ 9999 := hl.2.1
    have hh : mHow u1 0 b = 0 := how0 ((u1_g (c := 4) (by decide) (by decide)).trans (m1_c 4 (by decide))) ((u1_g (c := 2) (by decide) (by decide)).trans (m1_c 2 (by decide))) hb0.1
    have e : (fEvent s1 a b c 0).1 = 0 := by
      unfold fEvent lEvR lIn
      rw [if_pos hl, if_neg (by rw [show wZ (s1.2.2 0) 4 = 0 from w1_Z4]; decide)]
      exact fate0 (by rw [note_f, rem1]; exact w1_f 3 (by decide)) (by rw [note_f, rem1]; exact w1_f 1 (by decide)) hb0.1
    refine come_ok (m := 1) hI ⟨by decide, by decide⟩ (by decide) (by decide) (by decide) ⟨by decide, by decide⟩ ⟨hl.1.1, by have := hl.1.2; omega⟩ hb0 (by show mHow u1 0 b < 2; rw [hh]; decide) (fun s' _ e8 => ?_)
    have e80 : s'.1 8 = 0 := e8
    rw [show mHow (mCopy (mS m1 0 0) 0 3) 0 b = 0 from hh]
    exact ⟨fun q => absurd q (by decide), fun _ => ⟨by show 0 ≤ s'.1 8 ∧ s'.1 8 ≤ 6; rw [e80]; decide, ev_q e.symm⟩⟩
theorem ev_23 {a b c d : Int} (ha : xB a) (hb : xB b) (hc : xB c) (hd : xB d) : sX2_would a b c d s1 (fun v _ => ∃ q, v = [pI q] ∧ sX3_would a b c d m1 (fun w _ => w = [pI q] ∧ True)) := by
  have hm : mok1 m1 := by show 0 ≤ mg m1 0 ∧ mg m1 0 ≤ 4; rw [m1_0]; decide
  have hg : ∀ c, 0 ≤ c → c < 60 → mg (gWoS m1) (4 * 2804 + c) = mg m1 c := fun c h0 h1 => by
    unfold gWoS
    by_cases h6 : c = 6
    · subst h6
      rw [mg_eq]; exact (m1_c 6 (by decide)).symm
    · rw [mg_ne (by decide) (by omega) (by omega)]
      rw [copy_g (f := 0) (t := 4) (by decide) (by decide) h0 (by omega), mg_S, show 0 * 2804 + c = c by omega]
  have hI : dI 4 0 0 0 (gWoS m1) := dI_of hg
  have he : mEv (mS m1 0 0) a b c d ↔ lEv s1 a b c d := by
    have h1 := src1 (r := d)
    have h2 : mSrc (mS m1 0 0) d ↔ d = 0 := msrc1
    show (0 ≤ a ∧ a ≤ 5) ∧ (0 ≤ b ∧ b ≤ 9999) ∧ (-99 ≤ c ∧ c ≤ 99) ∧ mSrc (mS m1 0 0) d ↔ (0 ≤ a ∧ a < 6) ∧ (0 ≤ b ∧ b ≤ 9999) ∧ (-99 ≤ c ∧ c ≤ 99) ∧ lSrc s1 d
    rw [h1, h2]
    omega
  refine ⟨⟨ha, hb, hc, hd, lok1⟩, _, rfl, ⟨⟨ha, hb, hc, hd⟩, hm⟩, 1, fun h => ?_, fun h => ⟨?_, ?_⟩⟩
  · refine ev_q ?_
    unfold fWould
    rw [if_neg (fun q => h (he.mpr q))]
  · rw [(hg 6 (by decide) (by decide)).trans (m1_c 6 (by decide))]; decide
  · have hl := he.mp h
    have h0 : d = 0 := src1.mp hl.2.2.2
    subst h0
    have hb0 : 0 ≤ b ∧ b ≤ 9999 := hl.2.1
    have hh : mHow (gWoS m1) 4 b = 0 := how0 ((hg 4 (by decide) (by decide)).trans (m1_c 4 (by decide))) ((hg 2 (by decide) (by decide)).trans (m1_c 2 (by decide))) hb0.1
    refine come_ok (m := 1) hI ⟨by decide, by decide⟩ (by decide) (by decide) (by decide) ⟨by decide, by decide⟩ ⟨hl.1.1, by have := hl.1.2; omega⟩ hb0 (by rw [hh]; decide) (fun s' _ e8 => ?_)
    rw [hh]
    refine ev_q ?_
    unfold fWould
    rw [if_pos hl]
    exact (fate0 (w := wCopy w1 w1) (w1_f 3 (by decide)) (w1_f 1 (by decide)) hb0.1).symm
