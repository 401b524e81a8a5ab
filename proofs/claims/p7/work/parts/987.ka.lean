/-! ===== an input comes to a desk ===== -/
theorem note_lo {s : MS} {d a r t k v b x : Int} (hd : dOk d) (h6 : 0 ≤ mg s (d * 2804 + 6)) (hx : 0 ≤ x) (h : x < d * 2804 + (1844 + 6 * mg s (d * 2804 + 6)) ∨ d * 2804 + (1850 + 6 * mg s (d * 2804 + 6)) ≤ x) (hne : x ≠ d * 2804 + 6) : mg (mNote s d a r t k v b) x = mg s x := by
  have hd0 : 0 ≤ d := hd.1
  unfold mNote
  simp only []
  rw [mInc_ne (by omega) hx (fun e => hne e.symm), mg_ne (by omega) hx (by omega), mg_ne (by omega) hx (by omega), mg_ne (by omega) hx (by omega), mg_ne (by omega) hx (by omega), mg_ne (by omega) hx (by omega), mg_ne (by omega) hx (by omega)]
theorem note_6 {s : MS} {d a r t k v b : Int} (hd : dOk d) (h6 : 0 ≤ mg s (d * 2804 + 6)) : mg (mNote s d a r t k v b) (d * 2804 + 6) = wI (mg s (d * 2804 + 6) + 1) := by
  have hd0 : 0 ≤ d := hd.1
  unfold mNote
  simp only []
  rw [mInc_eq, mg_ne (by omega) (by omega) (by omega), mg_ne (by omega) (by omega) (by omega), mg_ne (by omega) (by omega) (by omega), mg_ne (by omega) (by omega) (by omega), mg_ne (by omega) (by omega) (by omega), mg_ne (by omega) (by omega) (by omega)]
theorem note_r {s : MS} {d a r t k v b : Int} (hd : dOk d) (h6 : 0 ≤ mg s (d * 2804 + 6)) : mg (mNote s d a r t k v b) (d * 2804 + (1844 + 6 * mg s (d * 2804 + 6) + 0)) = a ∧ mg (mNote s d a r t k v b) (d * 2804 + (1844 + 6 * mg s (d * 2804 + 6) + 1)) = r ∧ mg (mNote s d a r t k v b) (d * 2804 + (1844 + 6 * mg s (d * 2804 + 6) + 3)) = k := by
  have hd0 : 0 ≤ d := hd.1
  unfold mNote
  simp only []
  generalize mg s (d * 2804 + 6) = j at h6 ⊢
  refine ⟨?_, ?_, ?_⟩
  · rw [mInc_ne (by omega) (by omega) (by omega), mg_ne (by omega) (by omega) (by omega), mg_ne (by omega) (by omega) (by omega), mg_ne (by omega) (by omega) (by omega), mg_ne (by omega) (by omega) (by omega), mg_ne (by omega) (by omega) (by omega), show d * 2804 + (1844 + 6 * j + 0) = d * 2804 + 1844 + 6 * j + 0 by omega, mg_eq]
  · rw [mInc_ne (by omega) (by omega) (by omega), mg_ne (by omega) (by omega) (by omega), mg_ne (by omega) (by omega) (by omega), mg_ne (by omega) (by omega) (by omega), mg_ne (by omega) (by omega) (by omega), show d * 2804 + (1844 + 6 * j + 1) = d * 2804 + 1844 + 6 * j + 1 by omega, mg_eq]
  · rw [mInc_ne (by omega) (by omega) (by omega), mg_ne (by omega) (by omega) (by omega), mg_ne (by omega) (by omega) (by omega), show d * 2804 + (1844 + 6 * j + 3) = d * 2804 + 1844 + 6 * j + 3 by omega, mg_eq]
theorem note_c {s : MS} {d a r t k v b : Int} : cF s (mNote s d a r t k v b) := by
  unfold mNote
  exact (((((cF_P.trans cF_P).trans cF_P).trans cF_P).trans cF_P).trans cF_P).trans cF_I
/-- cells that stay while an input comes, but where it is noted -/
abbrev zC (c : Int) : Prop := c < 4 ∨ c = 6 ∨ (16 ≤ c ∧ c < 20) ∨ 1844 ≤ c
theorem cmE_ok {d n b t r : Int} {s : MS} {K : MS → Prop} (hV : dV d n b s) (hr : okRs d s) (hd : dOk d) (hn : n ≤ 161) (hb : b + 2000 ≤ 1000000) (h0 : mg s (d * 2804 + 0) ≤ 4) (hs : 0 ≤ r ∧ r ≤ 3) (kk : ∀ s', (∀ c, 0 ≤ d * 2804 + c → zC c → mg s' (d * 2804 + c) = mg s (d * 2804 + c)) → sF s s' → dV d n (b + 2000) s' → K s') : cmE s d t r 650 K := by
  have hd0 : 0 ≤ d := hd.1
  unfold cmE
  simp only []
  have f3 : ∀ c, 0 ≤ d * 2804 + c → (c < 20 ∨ 28 ≤ c) → mg (mP (mInc s (d * 2804 + (24 + r)) 1) (d * 2804 + (20 + r)) 0) (d * 2804 + c) = mg s (d * 2804 + c) := fun c c0 h => by
    rw [mg_ne (by omega) (by omega) (by omega), mInc_ne (by omega) (by omega) (by omega)]
  have S3 : sF s (mP (mInc s (d * 2804 + (24 + r)) 1) (d * 2804 + (20 + r)) 0) := (cF_I.trans cF_P).s
  generalize mP (mInc s (d * 2804 + (24 + r)) 1) (d * 2804 + (20 + r)) 0 = s3 at f3 S3 ⊢
  have f4 : ∀ c, 0 ≤ d * 2804 + c → (c < 12 ∨ (16 ≤ c ∧ c < 20) ∨ 28 ≤ c) → mg (mP s3 (d * 2804 + (12 + r)) (max (mg s3 (d * 2804 + (12 + r))) (wI (t - mg s3 (d * 2804 + (16 + r)))))) (d * 2804 + c) = mg s (d * 2804 + c) := fun c c0 h => by
    rw [mg_ne (by omega) (by omega) (by omega)]
    exact f3 c c0 (by omega)
  have S4 : sF s (mP s3 (d * 2804 + (12 + r)) (max (mg s3 (d * 2804 + (12 + r))) (wI (t - mg s3 (d * 2804 + (16 + r)))))) := S3.trans cF_P.s
  generalize mP s3 (d * 2804 + (12 + r)) (max (mg s3 (d * 2804 + (12 + r))) (wI (t - mg s3 (d * 2804 + (16 + r))))) = s4 at f4 S4 ⊢
  refine ⟨by rw [f4 0 (by omega) (by omega)]; exact h0, ris_ok (hV.at hd hn (fun c hc => f4 c (by omega) (by omega))) (hr.at hV hd hn (fun c hc => f4 c (by omega) (by omega))) hd hn hb (fun s5 h5 S5 V5 => kk s5 (fun c c0 hc => ?_) (S4.trans S5) V5)⟩
  rw [h5 c c0 (by unfold hC; omega) (by omega), f4 c c0 (by omega)]
/-- what an input leaves behind it -/
def cR (d j a r k : Int) (s s' : MS) : Prop := (∀ c, 0 ≤ d * 2804 + c → (c < 4 ∨ (16 ≤ c ∧ c < 20) ∨ (1844 ≤ c ∧ (c < 1844 + 6 * j ∨ 1850 + 6 * j ≤ c))) → mg s' (d * 2804 + c) = mg s (d * 2804 + c)) ∧ sF s s' ∧ mg s' (d * 2804 + 6) = j + 1 ∧ mg s' (d * 2804 + (1844 + 6 * j + 0)) = a ∧ mg s' (d * 2804 + (1844 + 6 * j + 1)) = r ∧ mg s' (d * 2804 + (1844 + 6 * j + 3)) = k
theorem cR_of {d j a r k t v b : Int} {s u s' : MS} (hd : dOk d) (h6 : mg s (d * 2804 + 6) = j) (hj : 0 ≤ j ∧ j ≤ 159) (hu : ∀ c, 0 ≤ d * 2804 + c → zC c → mg u (d * 2804 + c) = mg (mNote s d a r t k v b) (d * 2804 + c)) (S0 : sF s u) (h : ∀ c, 0 ≤ d * 2804 + c → zC c → mg s' (d * 2804 + c) = mg u (d * 2804 + c)) (S1 : sF u s') : cR d j a r k s s' := by
  have hd0 : 0 ≤ d := hd.1
  subst h6
  obtain ⟨n1, n2, n3⟩ := note_r (s := s) (d := d) (a := a) (r := r) (t := t) (k := k) (v := v) (b := b) hd hj.1
  refine ⟨fun c c0 hc => ?_, S0.trans S1, ?_, ?_, ?_, ?_⟩
  · rw [h c c0 (by omega), hu c c0 (by omega)]
    exact note_lo hd hj.1 c0 (by omega) (by omega)
  · rw [h 6 (by omega) (by omega), hu 6 (by omega) (by omega), note_6 hd hj.1, wI_id ⟨by omega, by omega⟩]
  · rw [h _ (by omega) (by omega), hu _ (by omega) (by omega), n1]
  · rw [h _ (by omega) (by omega), hu _ (by omega) (by omega), n2]
  · rw [h _ (by omega) (by omega), hu _ (by omega) (by omega), n3]
theorem come_ok {d n b j k t v r : Int} {s : MS} {K : MS → Prop} (hV : dV d n b s) (hd : dOk d) (hn : n ≤ 160) (hb : b + 2700 ≤ 1000000) (h0 : mg s (d * 2804 + 0) ≤ 4) (h6 : mg s (d * 2804 + 6) = j) (hj : 0 ≤ j ∧ j ≤ 159) (hk : 0 ≤ k ∧ k ≤ 5) (hs : 0 ≤ r ∧ r ≤ 3) (kk : ∀ s', cR d j 0 r k s s' → dV d (n + 1) (b + 2700) s' → K s') : mComeP s d k t v r 650 K := by
  have hd0 : 0 ≤ d := hd.1
  have hj6 : 0 ≤ mg s (d * 2804 + 6) ∧ mg s (d * 2804 + 6) ≤ 159 := by rw [h6]; exact hj
  have hok : okRs d s := fun i i0 i1 i2 => hV.2.2.2.2 hn i i0 i2
  refine ⟨fun _ => ?_, fun _ => ?_⟩
  · have lo : ∀ c, 0 ≤ d * 2804 + c → (c ≠ 8 ∧ c ≠ 9) → mg (mInc (mInc (mS (mNote s d 0 r t k v 1) 12 0) (d * 2804 + 8) 1) (d * 2804 + 9) (mHow s d t)) (d * 2804 + c) = mg (mNote s d 0 r t k v 1) (d * 2804 + c) := fun c c0 h => by
      rw [mInc_ne (by omega) (by omega) (by omega), mInc_ne (by omega) (by omega) (by omega)]
      rfl
    have S0 : sF s (mInc (mInc (mS (mNote s d 0 r t k v 1) 12 0) (d * 2804 + 8) 1) (d * 2804 + 9) (mHow s d t)) := ((note_c.s.trans (sF_S (Or.inr (Or.inr rfl)))).trans cF_I.s).trans cF_I.s
    generalize mInc (mInc (mS (mNote s d 0 r t k v 1) 12 0) (d * 2804 + 8) 1) (d * 2804 + 9) (mHow s d t) = u at lo S0 ⊢
    have Vu : dV d n b u := hV.at hd (by omega) (fun c hc => by rw [lo c (by omega) (by omega), note_lo hd hj6.1 (by omega) (by omega) (by omega)])
    refine join_ok Vu hd hn (by omega) hk (fun s2 G2 S2 V2 R2 => cmE_ok V2 R2 hd (by omega) (by omega) ?_ hs (fun s3 G3 S3 V3 => kk s3 (cR_of hd h6 hj (fun c c0 hc => lo c c0 (by omega)) S0 (fun c c0 hc => ?_) (S2.trans S3)) (V3.more (by omega))))
    · rw [G2 0 (by omega) (by unfold hC; omega), lo 0 (by omega) (by omega), note_lo hd hj6.1 (by omega) (by omega) (by omega)]
      exact h0
    · rw [G3 c c0 hc, G2 c c0 (by unfold hC; omega)]
  · have lo : ∀ c, 0 ≤ d * 2804 + c → (c ≠ 10 ∧ (c < 28 ∨ 32 ≤ c)) → mg (mInc (mInc (mS (mNote s d 0 r t k v 0) 12 0) (d * 2804 + 10) 1) (d * 2804 + (28 + r)) 1) (d * 2804 + c) = mg (mNote s d 0 r t k v 0) (d * 2804 + c) := fun c c0 h => by
      rw [mInc_ne (by omega) (by omega) (by omega), mInc_ne (by omega) (by omega) (by omega)]
      rfl
    have S0 : sF s (mInc (mInc (mS (mNote s d 0 r t k v 0) 12 0) (d * 2804 + 10) 1) (d * 2804 + (28 + r)) 1) := ((note_c.s.trans (sF_S (Or.inr (Or.inr rfl)))).trans cF_I.s).trans cF_I.s
    generalize mInc (mInc (mS (mNote s d 0 r t k v 0) 12 0) (d * 2804 + 10) 1) (d * 2804 + (28 + r)) 1 = u at lo S0 ⊢
    have eq : ∀ c, (c = 5 ∨ c = 7 ∨ (36 ≤ c ∧ c < 42) ∨ (364 ≤ c ∧ c < 1491)) → mg u (d * 2804 + c) = mg s (d * 2804 + c) := fun c hc => by rw [lo c (by omega) (by omega), note_lo hd hj6.1 (by omega) (by omega) (by omega)]
    refine cmE_ok (hV.at hd (by omega) eq) (hok.at hV hd (by omega) eq) hd (by omega) (by omega) ?_ hs (fun s3 G3 S3 V3 => kk s3 (cR_of hd h6 hj (fun c c0 hc => lo c c0 (by omega)) S0 G3 S3) ((V3.wide (by omega) hn).more (by omega)))
    rw [lo 0 (by omega) (by omega), note_lo hd hj6.1 (by omega) (by omega) (by omega)]
    exact h0
theorem mark_ok {d n b j t r : Int} {s : MS} {K : MS → Prop} (hV : dV d n b s) (hd : dOk d) (hn : n ≤ 160) (hb : b + 2700 ≤ 1000000) (h0 : mg s (d * 2804 + 0) ≤ 4) (h6 : mg s (d * 2804 + 6) = j) (hj : 0 ≤ j ∧ j ≤ 159) (hs : 0 ≤ r ∧ r ≤ 3) (kk : ∀ s', cR d j 1 r (-1) s s' → dV d (n + 1) (b + 2700) s' → K s') : mMarkP s d r t 650 K := by
  have hd0 : 0 ≤ d := hd.1
  have hj6 : 0 ≤ mg s (d * 2804 + 6) ∧ mg s (d * 2804 + 6) ≤ 159 := by rw [h6]; exact hj
  have hok : okRs d s := fun i i0 i1 i2 => hV.2.2.2.2 hn i i0 i2
  unfold mMarkP
  simp only []
  have lo : ∀ c, 0 ≤ d * 2804 + c → (c < 12 ∨ 16 ≤ c) → mg (mP (mNote s d 1 r t (-1) 0 0) (d * 2804 + (12 + r)) t) (d * 2804 + c) = mg (mNote s d 1 r t (-1) 0 0) (d * 2804 + c) := fun c c0 h => mg_ne (by omega) (by omega) (by omega)
  have S0 : sF s (mP (mNote s d 1 r t (-1) 0 0) (d * 2804 + (12 + r)) t) := note_c.s.trans cF_P.s
  generalize mP (mNote s d 1 r t (-1) 0 0) (d * 2804 + (12 + r)) t = u at lo S0 ⊢
  have eq : ∀ c, (c = 5 ∨ c = 7 ∨ (36 ≤ c ∧ c < 42) ∨ (364 ≤ c ∧ c < 1491)) → mg u (d * 2804 + c) = mg s (d * 2804 + c) := fun c hc => by rw [lo c (by omega) (by omega), note_lo hd hj6.1 (by omega) (by omega) (by omega)]
  refine ⟨?_, ris_ok (hV.at hd (by omega) eq) (hok.at hV hd (by omega) eq) hd (by omega) (by omega) (fun s3 G3 S3 V3 => kk s3 (cR_of hd h6 hj (fun c c0 hc => lo c c0 (by omega)) S0 (fun c c0 hc => G3 c c0 (by unfold hC; omega) (by omega)) S3) ((V3.wide (by omega) hn).more (by omega)))⟩
  rw [lo 0 (by omega) (by omega), note_lo hd hj6.1 (by omega) (by omega) (by omega)]
  exact h0
theorem idle_ok {d n b j r : Int} {s : MS} {K : MS → Prop} (hV : dV d n b s) (hd : dOk d) (hn : n ≤ 160) (hb : b + 2700 ≤ 1000000) (h0 : mg s (d * 2804 + 0) ≤ 4) (h6 : mg s (d * 2804 + 6) = j) (hj : 0 ≤ j ∧ j ≤ 159) (hs : 0 ≤ r ∧ r ≤ 3) (kk : ∀ s', cR d j 2 r (-1) s s' → dV d (n + 1) (b + 2700) s' → K s') : mIdleP s d r 650 K := by
  have hd0 : 0 ≤ d := hd.1
  have hj6 : 0 ≤ mg s (d * 2804 + 6) ∧ mg s (d * 2804 + 6) ≤ 159 := by rw [h6]; exact hj
  have hok : okRs d s := fun i i0 i1 i2 => hV.2.2.2.2 hn i i0 i2
  unfold mIdleP
  simp only []
  have lo : ∀ c, 0 ≤ d * 2804 + c → (c < 20 ∨ 24 ≤ c) → mg (mP (mNote s d 2 r 0 (-1) 0 0) (d * 2804 + (20 + r)) 1) (d * 2804 + c) = mg (mNote s d 2 r 0 (-1) 0 0) (d * 2804 + c) := fun c c0 h => mg_ne (by omega) (by omega) (by omega)
  have S0 : sF s (mP (mNote s d 2 r 0 (-1) 0 0) (d * 2804 + (20 + r)) 1) := note_c.s.trans cF_P.s
  generalize mP (mNote s d 2 r 0 (-1) 0 0) (d * 2804 + (20 + r)) 1 = u at lo S0 ⊢
  have eq : ∀ c, (c = 5 ∨ c = 7 ∨ (36 ≤ c ∧ c < 42) ∨ (364 ≤ c ∧ c < 1491)) → mg u (d * 2804 + c) = mg s (d * 2804 + c) := fun c hc => by rw [lo c (by omega) (by omega), note_lo hd hj6.1 (by omega) (by omega) (by omega)]
  refine ⟨?_, ris_ok (hV.at hd (by omega) eq) (hok.at hV hd (by omega) eq) hd (by omega) (by omega) (fun s3 G3 S3 V3 => kk s3 (cR_of hd h6 hj (fun c c0 hc => lo c c0 (by omega)) S0 (fun c c0 hc => G3 c c0 (by unfold hC; omega) (by omega)) S3) ((V3.wide (by omega) hn).more (by omega)))⟩
  rw [lo 0 (by omega) (by omega), note_lo hd hj6.1 (by omega) (by omega) (by omega)]
  exact h0
/-! ===== a desk as it always is ===== -/
def dI (d : Int) (s : MS) : Prop := (1 ≤ mg s (d * 2804 + 0) ∧ mg s (d * 2804 + 0) ≤ 4) ∧ (0 ≤ mg s (d * 2804 + 6) ∧ mg s (d * 2804 + 6) ≤ 160) ∧ dV d (mg s (d * 2804 + 6)) (2700 * mg s (d * 2804 + 6)) s ∧ ∀ i, 0 ≤ i → i < mg s (d * 2804 + 6) → (0 ≤ mg s (d * 2804 + (1844 + 6 * i + 1)) ∧ mg s (d * 2804 + (1844 + 6 * i + 1)) ≤ 3) ∧ (mg s (d * 2804 + (1844 + 6 * i + 0)) = 0 → 0 ≤ mg s (d * 2804 + (1844 + 6 * i + 3)) ∧ mg s (d * 2804 + (1844 + 6 * i + 3)) ≤ 5)
theorem dI.of {d d' : Int} {s s' : MS} (h : dI d s) (e : ∀ c, (c = 0 ∨ (5 ≤ c ∧ c < 8) ∨ (36 ≤ c ∧ c < 42) ∨ (364 ≤ c ∧ c < 1484) ∨ (1844 ≤ c ∧ c < 2804)) → mg s' (d' * 2804 + c) = mg s (d * 2804 + c)) : dI d' s' := by
  obtain ⟨h0, h6, hV, hi⟩ := h
  have h5 := hV.1
  refine ⟨by rw [e 0 (by omega)]; exact h0, by rw [e 6 (by omega)]; exact h6, ?_, fun i i0 i1 => ?_⟩
  · rw [e 6 (by omega)]
    refine ⟨by rw [e 5 (by omega)]; exact hV.1, by rw [e 7 (by omega)]; exact hV.2.1, fun k k0 k1 => by rw [e (36 + k) (by omega)]; exact hV.2.2.1 k k0 k1, fun j j0 j1 => ?_, fun hn2 j j0 j1 => ?_⟩
    · rw [e 5 (by omega)] at j1
      rw [row_at, e _ (by omega), ← row_at]
      exact hV.2.2.2.1 j j0 j1
    · rw [e 5 (by omega)] at j1
      rw [row_at, row_at, e _ (by omega), e _ (by omega), ← row_at, ← row_at]
      exact hV.2.2.2.2 hn2 j j0 j1
  · rw [e 6 (by omega)] at i1
    rw [e _ (by omega), e _ (by omega), e _ (by omega)]
    exact hi i i0 i1
/-- other desks -/
def oD (d : Int) (s s' : MS) : Prop := (∀ x, 0 ≤ x → (x < d * 2804 ∨ d * 2804 + 2804 ≤ x) → mg s' x = mg s x) ∧ sF s s'
theorem dI.next {d j a r k : Int} {s s' : MS} (h : dI d s) (hd : dOk d) (h6 : mg s (d * 2804 + 6) = j) (hj : j ≤ 159) (hr : 0 ≤ r ∧ r ≤ 3) (hk : a = 0 → 0 ≤ k ∧ k ≤ 5) (hc : cR d j a r k s s') (hV : dV d (j + 1) (2700 * j + 2700) s') : dI d s' ∧ oD d s s' ∧ mg s' (d * 2804 + 6) = j + 1 := by
  have hd0 : 0 ≤ d := hd.1
  obtain ⟨h0, h6', -, hi⟩ := h
  rw [h6] at h6' hi
  obtain ⟨c1, c2, c3, c4, c5, c6⟩ := hc
  refine ⟨⟨by rw [c1 0 (by omega) (by omega)]; exact h0, by rw [c3]; omega, by rw [c3]; exact hV.more (by omega), fun i i0 i1 => ?_⟩, ⟨fun x x0 hx => ?_, c2⟩, c3⟩
  · rw [c3] at i1
    by_cases e : i = j
    · subst e
      rw [c4, c5, c6]
      exact ⟨hr, hk⟩
    · rw [c1 _ (by omega) (by omega), c1 _ (by omega) (by omega), c1 _ (by omega) (by omega)]
      exact hi i i0 (by omega)
  · have := c1 (x - d * 2804) (by omega) (by omega)
    rw [show d * 2804 + (x - d * 2804) = x by omega] at this
    exact this
theorem dI.come {d k t v r : Int} {s : MS} {K : MS → Prop} (h : dI d s) (hd : dOk d) (h6 : mg s (d * 2804 + 6) ≤ 159) (hk : 0 ≤ k ∧ k ≤ 5) (hr : 0 ≤ r ∧ r ≤ 3) (kk : ∀ s', dI d s' → oD d s s' → mg s' (d * 2804 + 6) = mg s (d * 2804 + 6) + 1 → K s') : mComeP s d k t v r 650 K := by
  have q6 := h.2.1
  exact come_ok h.2.2.1 hd (by omega) (by omega) h.1.2 rfl ⟨q6.1, h6⟩ hk hr (fun s' hc hV => by
    obtain ⟨a1, a2, a3⟩ := h.next hd rfl h6 hr (fun _ => hk) hc hV
    exact kk s' a1 a2 a3)
theorem dI.mark {d t r : Int} {s : MS} {K : MS → Prop} (h : dI d s) (hd : dOk d) (h6 : mg s (d * 2804 + 6) ≤ 159) (hr : 0 ≤ r ∧ r ≤ 3) (kk : ∀ s', dI d s' → oD d s s' → mg s' (d * 2804 + 6) = mg s (d * 2804 + 6) + 1 → K s') : mMarkP s d r t 650 K := by
  have q6 := h.2.1
  exact mark_ok h.2.2.1 hd (by omega) (by omega) h.1.2 rfl ⟨q6.1, h6⟩ hr (fun s' hc hV => by
    obtain ⟨a1, a2, a3⟩ := h.next hd rfl h6 hr (fun e => absurd e (by decide)) hc hV
    exact kk s' a1 a2 a3)
theorem dI.idle {d r : Int} {s : MS} {K : MS → Prop} (h : dI d s) (hd : dOk d) (h6 : mg s (d * 2804 + 6) ≤ 159) (hr : 0 ≤ r ∧ r ≤ 3) (kk : ∀ s', dI d s' → oD d s s' → mg s' (d * 2804 + 6) = mg s (d * 2804 + 6) + 1 → K s') : mIdleP s d r 650 K := by
  have q6 := h.2.1
  exact idle_ok h.2.2.1 hd (by omega) (by omega) h.1.2 rfl ⟨q6.1, h6⟩ hr (fun s' hc hV => by
    obtain ⟨a1, a2, a3⟩ := h.next hd rfl h6 hr (fun e => absurd e (by decide)) hc hV
    exact kk s' a1 a2 a3)
