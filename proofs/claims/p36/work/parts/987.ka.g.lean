-- 987.ka
section
/-! ===== an input comes to a desk ===== -/
theorem note_lo {s : MS} {d a r t k v b x : Int} (hd : dOk d) (h6 : 0 ≤ mg s (d * 2804 + 6)) (hx : 0 ≤ x) (h : x < d * 2804 + (1844 + 6 * mg s (d * 2804 + 6)) ∨ d * 2804 + (1850 + 6 * mg s (d * 2804 + 6)) ≤ x) (hne : x ≠ d * 2804 + 6) : mg (mNote s d a r t k v b) x = mg s x := by
  have hd0 : 0 ≤ d := hd.1
  unfold mNote
  simp only []
  rw [mInc_ne (by omega) hx (fun e => hne e.symm), mg_ne (by omega) hx (by omega), mg_ne (by omega) hx (by omega), mg_ne (by omega) hx (by omega), mg_ne (by omega) hx (by omega), mg_ne (by omega) hx (by omega), mg_ne (by omega) hx (by omega)]
theorem note_6 {s : MS} {d a r t k v b : Int} (hd : dOk d) (h6 : 0 ≤ mg s (d * 2804 + 6)) : mg (mNote s d a r t k v b) (d * 2804 + 6) = wI (mg s (d * 2804 + 6) + 1) := by
  have hd0 : 0 ≤ d := hd.1
  unfold mNote
  simp only []
  rw [mInc_eq, mg_ne (by omega) (by omega) (by omega), mg_ne (by omega) (by omega) (by omega), mg_ne (by omega) (by omega) (by omega), mg_ne (by omega) (by omega) (by omega), mg_ne (by omega) (by omega) (by omega), mg_ne (by omega) (by omega) (by omega)]
theorem note_r {s : MS} {d a r t k v b : Int} (hd : dOk d) (h6 : 0 ≤ mg s (d * 2804 + 6)) : mg (mNote s d a r t k v b) (d * 2804 + (1844 + 6 * mg s (d * 2804 + 6) + 0)) = a ∧ mg (mNote s d a r t k v b) (d * 2804 + (1844 + 6 * mg s (d * 2804 + 6) + 1)) = r ∧ mg (mNote s d a r t k v b) (d * 2804 + (1844 + 6 * mg s (d * 2804 + 6) + 3)) = k := by
  have hd0 : 0 ≤ d := hd.1
  unfold mNote
  simp only []
  generalize mg s (d * 2804 + 6) = j at h6 ⊢
  refine ⟨?_, ?_, ?_⟩
  · rw [mInc_ne (by omega) (by omega) (by omega), mg_ne (by omega) (by omega) (by omega), mg_ne (by omega) (by omega) (by omega), mg_ne (by omega) (by omega) (by omega), mg_ne (by omega) (by omega) (by omega), mg_ne (by omega) (by omega) (by omega), show d * 2804 + (1844 + 6 * j + 0) = d * 2804 + 1844 + 6 * j + 0 by omega, mg_eq]
  · rw [mInc_ne (by omega) (by omega) (by omega), mg_ne (by omega) (by omega) (by omega), mg_ne (by omega) (by omega) (by omega), mg_ne (by omega) (by omega) (by omega), mg_ne (by omega) (by omega) (by omega), show d * 2804 + (1844 + 6 * j + 1) = d * 2804 + 1844 + 6 * j + 1 by omega, mg_eq]
  · rw [mInc_ne (by omega) (by omega) (by omega), mg_ne (by omega) (by omega) (by omega), mg_ne (by omega) (by omega) (by omega), show d * 2804 + (1844 + 6 * j + 3) = d * 2804 + 1844 + 6 * j + 3 by omega, mg_eq]
theorem note_c {s : MS} {d a r t k v b : Int} : cF s (mNote s d a r t k v b) := by
  unfold mNote
  exact (((((cF_P.trans cF_P).trans cF_P).trans cF_P).trans cF_P).trans cF_P).trans cF_I
/-- cells that stay while an input comes, but where it is noted -/
abbrev zC (c : Int) : Prop := c < 4 ∨ c = 6 ∨ (16 ≤ c ∧ c < 20) ∨ 1844 ≤ c
theorem cmE_ok {d n b t r : Int} {s : MS} {K : MS → Prop} (hV : dV d n b s) (hr : okRs d s) (hd : dOk d) (hn : n ≤ 161) (hb : b + 2000 ≤ 1000000) (h0 : mg s (d * 2804 + 0) ≤ 4) (hs : 0 ≤ r ∧ r ≤ 3) (kk : ∀ s', (∀ c, 0 ≤ d * 2804 + c → zC c → mg s' (d * 2804 + c) = mg s (d * 2804 + c)) → sF s s' → dV d n (b + 2000) s' → K s') : cmE s d t r 650 K := by
  have hd0 : 0 ≤ d := hd.1
  unfold cmE
  simp only []
  have f3 : ∀ c, 0 ≤ d * 2804 + c → (c < 20 ∨ 28 ≤ c) → mg (mP (mInc s (d * 2804 + (24 + r)) 1) (d * 2804 + (20 + r)) 0) (d * 2804 + c) = mg s (d * 2804 + c) := fun c c0 h => by
    rw [mg_ne (by omega) (by omega) (by omega), mInc_ne (by omega) (by omega) (by omega)]
  have S3 : sF s (mP (mInc s (d * 2804 + (24 + r)) 1) (d * 2804 + (20 + r)) 0) := (cF_I.trans cF_P).s
  generalize mP (mInc s (d * 2804 + (24 + r)) 1) (d * 2804 + (20 + r)) 0 = s3 at f3 S3 ⊢
  have f4 : ∀ c, 0 ≤ d * 2804 + c → (c < 12 ∨ (16 ≤ c ∧ c < 20) ∨ 28 ≤ c) → mg (mP s3 (d * 2804 + (12 + r)) (max (mg s3 (d * 2804 + (12 + r))) (wI (t - mg s3 (d * 2804 + (16 + r)))))) (d * 2804 + c) = mg s (d * 2804 + c) := fun c c0 h => by
    rw [mg_ne (by omega) (by omega) (by omega)]
    exact f3 c c0 (by omega)
  have S4 : sF s (mP s3 (d * 2804 + (12 + r)) (max (mg s3 (d * 2804 + (12 + r))) (wI (t - mg s3 (d * 2804 + (16 + r)))))) := S3.trans cF_P.s
  generalize mP s3 (d * 2804 + (12 + r)) (max (mg s3 (d * 2804 + (12 + r))) (wI (t - mg s3 (d * 2804 + (16 + r))))) = s4 at f4 S4 ⊢
  refine ⟨by rw [f4 0 (by omega) (by omega)]; exact h0, ris_ok (hV.at hd hn (fun c hc => f4 c (by omega) (by omega))) (hr.at hV hd hn (fun c hc => f4 c (by omega) (by omega))) hd hn hb (fun s5 h5 S5 V5 => kk s5 (fun c c0 hc => ?_) (S4.trans S5) V5)⟩
  rw [h5 c c0 (by unfold hC; omega) (by omega), f4 c c0 (by omega)]
/-- what an input leaves behind it -/
def cR (d j a r k : Int) (s s' : MS) : Prop := (∀ c, 0 ≤ d * 2804 + c → (c < 4 ∨ (16 ≤ c ∧ c < 20) ∨ (1844 ≤ c ∧ (c < 1844 + 6 * j ∨ 1850 + 6 * j ≤ c))) → mg s' (d * 2804 + c) = mg s (d * 2804 + c)) ∧ sF s s' ∧ mg s' (d * 2804 + 6) = j + 1 ∧ mg s' (d * 2804 + (1844 + 6 * j + 0)) = a ∧ mg s' (d * 2804 + (1844 + 6 * j + 1)) = r ∧ mg s' (d * 2804 + (1844 + 6 * j + 3)) = k
theorem cR_of {d j a r k t v b : Int} {s u s' : MS} (hd : dOk d) (h6 : mg s (d * 2804 + 6) = j) (hj : 0 ≤ j ∧ j ≤ 159) (hu : ∀ c, 0 ≤ d * 2804 + c → zC c → mg u (d * 2804 + c) = mg (mNote s d a r t k v b) (d * 2804 + c)) (S0 : sF s u) (h : ∀ c, 0 ≤ d * 2804 + c → zC c → mg s' (d * 2804 + c) = mg u (d * 2804 + c)) (S1 : sF u s') : cR d j a r k s s' := by
  have hd0 : 0 ≤ d := hd.1
  subst h6
  obtain ⟨n1, n2, n3⟩ := note_r (s := s) (d := d) (a := a) (r := r) (t := t) (k := k) (v := v) (b := b) hd hj.1
  refine ⟨fun c c0 hc => ?_, S0.trans S1, ?_, ?_, ?_, ?_⟩
  · rw [h c c0 (by omega), hu c c0 (by omega)]
    exact note_lo hd hj.1 c0 (by omega) (by omega)
  · rw [h 6 (by omega) (by omega), hu 6 (by omega) (by omega), note_6 hd hj.1, wI_id ⟨by omega, by omega⟩]
  · rw [h _ (by omega) (by omega), hu _ (by omega) (by omega), n1]
  · rw [h _ (by omega) (by omega), hu _ (by omega) (by omega), n2]
  · rw [h _ (by omega) (by omega), hu _ (by omega) (by omega), n3]
theorem come_ok {d n b j k t v r : Int} {s : MS} {K : MS → Prop} (hV : dV d n b s) (hd : dOk d) (hn : n ≤ 160) (hb : b + 2700 ≤ 1000000) (h0 : mg s (d * 2804 + 0) ≤ 4) (h6 : mg s (d * 2804 + 6) = j) (hj : 0 ≤ j ∧ j ≤ 159) (hk : 0 ≤ k ∧ k ≤ 5) (hs : 0 ≤ r ∧ r ≤ 3) (kk : ∀ s', cR d j 0 r k s s' → dV d (n + 1) (b + 2700) s' → K s') : mComeP s d k t v r 650 K := by
  have hd0 : 0 ≤ d := hd.1
  have hj6 : 0 ≤ mg s (d * 2804 + 6) ∧ mg s (d * 2804 + 6) ≤ 159 := by rw [h6]; exact hj
  have hok : okRs d s := fun i i0 i1 i2 => hV.2.2.2.2 hn i i0 i2
  refine ⟨fun _ => ?_, fun _ => ?_⟩
  · have lo : ∀ c, 0 ≤ d * 2804 + c → (c ≠ 8 ∧ c ≠ 9) → mg (mInc (mInc (mS (mNote s d 0 r t k v 1) 12 0) (d * 2804 + 8) 1) (d * 2804 + 9) (mHow s d t)) (d * 2804 + c) = mg (mNote s d 0 r t k v 1) (d * 2804 + c) := fun c c0 h => by
      rw [mInc_ne (by omega) (by omega) (by omega), mInc_ne (by omega) (by omega) (by omega)]
      rfl
    have S0 : sF s (mInc (mInc (mS (mNote s d 0 r t k v 1) 12 0) (d * 2804 + 8) 1) (d * 2804 + 9) (mHow s d t)) := ((note_c.s.trans (sF_S (Or.inr (Or.inr rfl)))).trans cF_I.s).trans cF_I.s
    generalize mInc (mInc (mS (mNote s d 0 r t k v 1) 12 0) (d * 2804 + 8) 1) (d * 2804 + 9) (mHow s d t) = u at lo S0 ⊢
    have Vu : dV d n b u := hV.at hd (by omega) (fun c hc => by rw [lo c (by omega) (by omega), note_lo hd hj6.1 (by omega) (by omega) (by omega)])
    refine join_ok Vu hd hn (by omega) hk (fun s2 G2 S2 V2 R2 => cmE_ok V2 R2 hd (by omega) (by omega) ?_ hs (fun s3 G3 S3 V3 => kk s3 (cR_of hd h6 hj (fun c c0 hc => lo c c0 (by omega)) S0 (fun c c0 hc => ?_) (S2.trans S3)) (V3.more (by omega))))
    · rw [G2 0 (by omega) (by unfold hC; omega), lo 0 (by omega) (by omega), note_lo hd hj6.1 (by omega) (by omega) (by omega)]
      exact h0
    · rw [G3 c c0 hc, G2 c c0 (by unfold hC; omega)]
  · have lo : ∀ c, 0 ≤ d * 2804 + c → (c ≠ 10 ∧ (c < 28 ∨ 32 ≤ c)) → mg (mInc (mInc (mS (mNote s d 0 r t k v 0) 12 0) (d * 2804 + 10) 1) (d * 2804 + (28 + r)) 1) (d * 2804 + c) = mg (mNote s d 0 r t k v 0) (d * 2804 + c) := fun c c0 h => by
      rw [mInc_ne (by omega) (by omega) (by omega), mInc_ne (by omega) (by omega) (by omega)]
      rfl
    have S0 : sF s (mInc (mInc (mS (mNote s d 0 r t k v 0) 12 0) (d * 2804 + 10) 1) (d * 2804 + (28 + r)) 1) := ((note_c.s.trans (sF_S (Or.inr (Or.inr rfl)))).trans cF_I.s).trans cF_I.s
    generalize mInc (mInc (mS (mNote s d 0 r t k v 0) 12 0) (d * 2804 + 10) 1) (d * 2804 + (28 + r)) 1 = u at lo S0 ⊢
    have eq : ∀ c, (c = 5 ∨ c = 7 ∨ (36 ≤ c ∧ c < 42) ∨ (364 ≤ c ∧ c < 1491)) → mg u (d * 2804 + c) = mg s (d * 2804 + c) := fun c hc => by rw [lo c (by omega) (by omega), note_lo hd hj6.1 (by omega) (by omega) (by omega)]
    refine cmE_ok (hV.at hd (by omega) eq) (hok.at hV hd (by omega) eq) hd (by omega) (by omega) ?_ hs (fun s3 G3 S3 V3 => kk s3 (cR_of hd h6 hj (fun c c0 hc => lo c c0 (by omega)) S0 G3 S3) ((V3.wide (by omega) hn).more (by omega)))
    rw [lo 0 (by omega) (by omega), note_lo hd hj6.1 (by omega) (by omega) (by omega)]
    exact h0
theorem mark_ok {d n b j t r : Int} {s : MS} {K : MS → Prop} (hV : dV d n b s) (hd : dOk d) (hn : n ≤ 160) (hb : b + 2700 ≤ 1000000) (h0 : mg s (d * 2804 + 0) ≤ 4) (h6 : mg s (d * 2804 + 6) = j) (hj : 0 ≤ j ∧ j ≤ 159) (hs : 0 ≤ r ∧ r ≤ 3) (kk : ∀ s', cR d j 1 r (-1) s s' → dV d (n + 1) (b + 2700) s' → K s') : mMarkP s d r t 650 K := by
  have hd0 : 0 ≤ d := hd.1
  have hj6 : 0 ≤ mg s (d * 2804 + 6) ∧ mg s (d * 2804 + 6) ≤ 159 := by rw [h6]; exact hj
  have hok : okRs d s := fun i i0 i1 i2 => hV.2.2.2.2 hn i i0 i2
  unfold mMarkP
  simp only []
  have lo : ∀ c, 0 ≤ d * 2804 + c → (c < 12 ∨ 16 ≤ c) → mg (mP (mNote s d 1 r t (-1) 0 0) (d * 2804 + (12 + r)) t) (d * 2804 + c) = mg (mNote s d 1 r t (-1) 0 0) (d * 2804 + c) := fun c c0 h => mg_ne (by omega) (by omega) (by omega)
  have S0 : sF s (mP (mNote s d 1 r t (-1) 0 0) (d * 2804 + (12 + r)) t) := note_c.s.trans cF_P.s
  generalize mP (mNote s d 1 r t (-1) 0 0) (d * 2804 + (12 + r)) t = u at lo S0 ⊢
  have eq : ∀ c, (c = 5 ∨ c = 7 ∨ (36 ≤ c ∧ c < 42) ∨ (364 ≤ c ∧ c < 1491)) → mg u (d * 2804 + c) = mg s (d * 2804 + c) := fun c hc => by rw [lo c (by omega) (by omega), note_lo hd hj6.1 (by omega) (by omega) (by omega)]
  refine ⟨?_, ris_ok (hV.at hd (by omega) eq) (hok.at hV hd (by omega) eq) hd (by omega) (by omega) (fun s3 G3 S3 V3 => kk s3 (cR_of hd h6 hj (fun c c0 hc => lo c c0 (by omega)) S0 (fun c c0 hc => G3 c c0 (by unfold hC; omega) (by omega)) S3) ((V3.wide (by omega) hn).more (by omega)))⟩
  rw [lo 0 (by omega) (by omega), note_lo hd hj6.1 (by omega) (by omega) (by omega)]
  exact h0
theorem idle_ok {d n b j r : Int} {s : MS} {K : MS → Prop} (hV : dV d n b s) (hd : dOk d) (hn : n ≤ 160) (hb : b + 2700 ≤ 1000000) (h0 : mg s (d * 2804 + 0) ≤ 4) (h6 : mg s (d * 2804 + 6) = j) (hj : 0 ≤ j ∧ j ≤ 159) (hs : 0 ≤ r ∧ r ≤ 3) (kk : ∀ s', cR d j 2 r (-1) s s' → dV d (n + 1) (b + 2700) s' → K s') : mIdleP s d r 650 K := by
  have hd0 : 0 ≤ d := hd.1
  have hj6 : 0 ≤ mg s (d * 2804 + 6) ∧ mg s (d * 2804 + 6) ≤ 159 := by rw [h6]; exact hj
  have hok : okRs d s := fun i i0 i1 i2 => hV.2.2.2.2 hn i i0 i2
  unfold mIdleP
  simp only []
  have lo : ∀ c, 0 ≤ d * 2804 + c → (c < 20 ∨ 24 ≤ c) → mg (mP (mNote s d 2 r 0 (-1) 0 0) (d * 2804 + (20 + r)) 1) (d * 2804 + c) = mg (mNote s d 2 r 0 (-1) 0 0) (d * 2804 + c) := fun c c0 h => mg_ne (by omega) (by omega) (by omega)
  have S0 : sF s (mP (mNote s d 2 r 0 (-1) 0 0) (d * 2804 + (20 + r)) 1) := note_c.s.trans cF_P.s
  generalize mP (mNote s d 2 r 0 (-1) 0 0) (d * 2804 + (20 + r)) 1 = u at lo S0 ⊢
  have eq : ∀ c, (c = 5 ∨ c = 7 ∨ (36 ≤ c ∧ c < 42) ∨ (364 ≤ c ∧ c < 1491)) → mg u (d * 2804 + c) = mg s (d * 2804 + c) := fun c hc => by rw [lo c (by omega) (by omega), note_lo hd hj6.1 (by omega) (by omega) (by omega)]
  refine ⟨?_, ris_ok (hV.at hd (by omega) eq) (hok.at hV hd (by omega) eq) hd (by omega) (by omega) (fun s3 G3 S3 V3 => kk s3 (cR_of hd h6 hj (fun c c0 hc => lo c c0 (by omega)) S0 (fun c c0 hc => G3 c c0 (by unfold hC; omega) (by omega)) S3) ((V3.wide (by omega) hn).more (by omega)))⟩
  rw [lo 0 (by omega) (by omega), note_lo hd hj6.1 (by omega) (by omega) (by omega)]
  exact h0
/-! ===== a desk as it always is ===== -/
def dI (d : Int) (s : MS) : Prop := (1 ≤ mg s (d * 2804 + 0) ∧ mg s (d * 2804 + 0) ≤ 4) ∧ (0 ≤ mg s (d * 2804 + 6) ∧ mg s (d * 2804 + 6) ≤ 160) ∧ dV d (mg s (d * 2804 + 6)) (2700 * mg s (d * 2804 + 6)) s ∧ ∀ i, 0 ≤ i → i < mg s (d * 2804 + 6) → (0 ≤ mg s (d * 2804 + (1844 + 6 * i + 1)) ∧ mg s (d * 2804 + (1844 + 6 * i + 1)) ≤ 3) ∧ (mg s (d * 2804 + (1844 + 6 * i + 0)) = 0 → 0 ≤ mg s (d * 2804 + (1844 + 6 * i + 3)) ∧ mg s (d * 2804 + (1844 + 6 * i + 3)) ≤ 5)
theorem dI.of {d d' : Int} {s s' : MS} (h : dI d s) (e : ∀ c, (c = 0 ∨ (5 ≤ c ∧ c < 8) ∨ (36 ≤ c ∧ c < 42) ∨ (364 ≤ c ∧ c < 1484) ∨ (1844 ≤ c ∧ c < 2804)) → mg s' (d' * 2804 + c) = mg s (d * 2804 + c)) : dI d' s' := by
  obtain ⟨h0, h6, hV, hi⟩ := h
  have h5 := hV.1
  refine ⟨by rw [e 0 (by omega)]; exact h0, by rw [e 6 (by omega)]; exact h6, ?_, fun i i0 i1 => ?_⟩
  · rw [e 6 (by omega)]
    refine ⟨by rw [e 5 (by omega)]; exact hV.1, by rw [e 7 (by omega)]; exact hV.2.1, fun k k0 k1 => by rw [e (36 + k) (by omega)]; exact hV.2.2.1 k k0 k1, fun j j0 j1 => ?_, fun hn2 j j0 j1 => ?_⟩
    · rw [e 5 (by omega)] at j1
      rw [row_at, e _ (by omega), ← row_at]
      exact hV.2.2.2.1 j j0 j1
    · rw [e 5 (by omega)] at j1
      rw [row_at, row_at, e _ (by omega), e _ (by omega), ← row_at, ← row_at]
      exact hV.2.2.2.2 hn2 j j0 j1
  · rw [e 6 (by omega)] at i1
    rw [e _ (by omega), e _ (by omega), e _ (by omega)]
    exact hi i i0 i1
/-- other desks -/
def oD (d : Int) (s s' : MS) : Prop := (∀ x, 0 ≤ x → (x < d * 2804 ∨ d * 2804 + 2804 ≤ x) → mg s' x = mg s x) ∧ sF s s'
theorem dI.next {d j a r k : Int} {s s' : MS} (h : dI d s) (hd : dOk d) (h6 : mg s (d * 2804 + 6) = j) (hj : j ≤ 159) (hr : 0 ≤ r ∧ r ≤ 3) (hk : a = 0 → 0 ≤ k ∧ k ≤ 5) (hc : cR d j a r k s s') (hV : dV d (j + 1) (2700 * j + 2700) s') : dI d s' ∧ oD d s s' ∧ mg s' (d * 2804 + 6) = j + 1 := by
  have hd0 : 0 ≤ d := hd.1
  obtain ⟨h0, h6', -, hi⟩ := h
  rw [h6] at h6' hi
  obtain ⟨c1, c2, c3, c4, c5, c6⟩ := hc
  refine ⟨⟨by rw [c1 0 (by omega) (by omega)]; exact h0, by rw [c3]; omega, by rw [c3]; exact hV.more (by omega), fun i i0 i1 => ?_⟩, ⟨fun x x0 hx => ?_, c2⟩, c3⟩
  · rw [c3] at i1
    by_cases e : i = j
    · subst e
      rw [c4, c5, c6]
      exact ⟨hr, hk⟩
    · rw [c1 _ (by omega) (by omega), c1 _ (by omega) (by omega), c1 _ (by omega) (by omega)]
      exact hi i i0 (by omega)
  · have := c1 (x - d * 2804) (by omega) (by omega)
    rw [show d * 2804 + (x - d * 2804) = x by omega] at this
    exact this
theorem dI.come {d k t v r : Int} {s : MS} {K : MS → Prop} (h : dI d s) (hd : dOk d) (h6 : mg s (d * 2804 + 6) ≤ 159) (hk : 0 ≤ k ∧ k ≤ 5) (hr : 0 ≤ r ∧ r ≤ 3) (kk : ∀ s', dI d s' → oD d s s' → mg s' (d * 2804 + 6) = mg s (d * 2804 + 6) + 1 → K s') : mComeP s d k t v r 650 K := by
  have q6 := h.2.1
  exact come_ok h.2.2.1 hd (by omega) (by omega) h.1.2 rfl ⟨q6.1, h6⟩ hk hr (fun s' hc hV => by
    obtain ⟨a1, a2, a3⟩ := h.next hd rfl h6 hr (fun _ => hk) hc hV
    exact kk s' a1 a2 a3)
theorem dI.mark {d t r : Int} {s : MS} {K : MS → Prop} (h : dI d s) (hd : dOk d) (h6 : mg s (d * 2804 + 6) ≤ 159) (hr : 0 ≤ r ∧ r ≤ 3) (kk : ∀ s', dI d s' → oD d s s' → mg s' (d * 2804 + 6) = mg s (d * 2804 + 6) + 1 → K s') : mMarkP s d r t 650 K := by
  have q6 := h.2.1
  exact mark_ok h.2.2.1 hd (by omega) (by omega) h.1.2 rfl ⟨q6.1, h6⟩ hr (fun s' hc hV => by
    obtain ⟨a1, a2, a3⟩ := h.next hd rfl h6 hr (fun e => absurd e (by decide)) hc hV
    exact kk s' a1 a2 a3)
theorem dI.idle {d r : Int} {s : MS} {K : MS → Prop} (h : dI d s) (hd : dOk d) (h6 : mg s (d * 2804 + 6) ≤ 159) (hr : 0 ≤ r ∧ r ≤ 3) (kk : ∀ s', dI d s' → oD d s s' → mg s' (d * 2804 + 6) = mg s (d * 2804 + 6) + 1 → K s') : mIdleP s d r 650 K := by
  have q6 := h.2.1
  exact idle_ok h.2.2.1 hd (by omega) (by omega) h.1.2 rfl ⟨q6.1, h6⟩ hr (fun s' hc hV => by
    obtain ⟨a1, a2, a3⟩ := h.next hd rfl h6 hr (fun e => absurd e (by decide)) hc hV
    exact kk s' a1 a2 a3)
end
-- 988.kb
section
/-! ===== what always holds of the model ===== -/
theorem dV.of {d d' n b : Int} {s s' : MS} (hV : dV d n b s) (hn : n ≤ 160) (e : ∀ c, ((5 ≤ c ∧ c < 8 ∧ c ≠ 6) ∨ (36 ≤ c ∧ c < 42) ∨ (364 ≤ c ∧ c < 1484)) → mg s' (d' * 2804 + c) = mg s (d * 2804 + c)) : dV d' n b s' := by
  have h5 := hV.1
  refine ⟨by rw [e 5 (by omega)]; exact hV.1, by rw [e 7 (by omega)]; exact hV.2.1, fun k k0 k1 => by rw [e (36 + k) (by omega)]; exact hV.2.2.1 k k0 k1, fun j j0 j1 => ?_, fun hn2 j j0 j1 => ?_⟩
  · rw [e 5 (by omega)] at j1
    rw [row_at, e _ (by omega), ← row_at]
    exact hV.2.2.2.1 j j0 j1
  · rw [e 5 (by omega)] at j1
    rw [row_at, row_at, e _ (by omega), e _ (by omega), ← row_at, ← row_at]
    exact hV.2.2.2.2 hn2 j j0 j1
theorem dI.cong {d : Int} {s s' : MS} (h : dI d s) (e : s'.2 3 = s.2 3) : dI d s' := h.of (fun c _ => mg_cong e _)
theorem oD.same {d : Int} {s : MS} : oD d s s := ⟨fun _ _ _ => rfl, sF.same⟩
theorem oD.trans {d : Int} {s t u : MS} (h : oD d s t) (g : oD d t u) : oD d s u := ⟨fun x x0 hx => (g.1 x x0 hx).trans (h.1 x x0 hx), h.2.trans g.2⟩
theorem dI.other {d d' : Int} {s s' : MS} (h : dI d s) (hd : 0 ≤ d) (hd' : 0 ≤ d') (hne : d ≠ d') (o : oD d' s s') : dI d s' := h.of (fun c hc => o.1 _ (by omega) (by omega))
theorem copy_at {s : MS} {f t c : Int} (hf : 0 ≤ f) (ht : 0 ≤ t) (h0 : 0 ≤ c) (h1 : c < 2804) : mg (mCopy s f t) (t * 2804 + c) = mg s (f * 2804 + c) := by
  rw [mCopy, mg_mA, if_pos (by constructor <;> omega)]
  show s.2 3 _ = s.2 3 _
  rw [show (t * 2804 + c).toNat - (t * 2804).toNat + (f * 2804).toNat = (f * 2804 + c).toNat by omega]
theorem copy_ne {s : MS} {f t x : Int} (ht : 0 ≤ t) (hx : 0 ≤ x) (h : x < t * 2804 ∨ t * 2804 + 2804 ≤ x) : mg (mCopy s f t) x = mg s x := by
  rw [mCopy, mg_mA, if_neg (fun q => by omega)]
  rfl
theorem copy_o {s : MS} {f t : Int} (ht : 0 ≤ t) : oD t s (mCopy s f t) := ⟨fun x x0 hx => copy_ne ht x0 hx, cF_A.s⟩
theorem dI.copy {s : MS} {f t : Int} (h : dI f s) (hf : 0 ≤ f) (ht : 0 ≤ t) : dI t (mCopy s f t) := h.of (fun c hc => copy_at hf ht (by omega) (by omega))
/-- what always holds -/
def Inv (m : MS) : Prop := (0 ≤ m.1 4 ∧ m.1 4 ≤ 80) ∧ (0 ≤ m.1 8 ∧ m.1 8 ≤ 6) ∧ (0 ≤ m.1 1 ∧ m.1 1 ≤ 16) ∧ dI 0 m ∧ (∀ i : Int, 0 ≤ i → i ≤ 1 → m.2 12 i.toNat ≠ 0 → dI (1 + i) m) ∧ ∀ k : Int, 0 ≤ k → k < m.1 8 → dI (5 + k) m
/-- kept, and the text's length and the kept flags with it -/
def Qi (m m' : MS) : Prop := Inv m' ∧ m'.1 4 = m.1 4 ∧ m'.2 12 = m.2 12
theorem Qi.trans {m n o : MS} (h : Qi m n) (g : Qi n o) : Qi m o := ⟨g.1, g.2.1.trans h.2.1, g.2.2.trans h.2.2⟩
theorem Inv.at {m m' : MS} (h : Inv m) (h1 : 0 ≤ m'.1 1 ∧ m'.1 1 ≤ 16) (e4 : m'.1 4 = m.1 4) (e8 : m'.1 8 = m.1 8) (e12 : m'.2 12 = m.2 12) (d0 : dI 0 m') (o : ∀ x : Int, (2804 ≤ x ∧ x < 8412) ∨ 14020 ≤ x → mg m' x = mg m x) : Qi m m' := by
  obtain ⟨a, b, -, -, e, f⟩ := h
  refine ⟨⟨by rw [e4]; exact a, by rw [e8]; exact b, h1, d0, fun i i0 i1 hi => ?_, fun k k0 k1 => ?_⟩, e4, e12⟩
  · rw [e12] at hi
    exact (e i i0 i1 hi).of (fun c hc => o _ (by omega))
  · rw [e8] at k1
    exact (f k k0 k1).of (fun c hc => o _ (by omega))
theorem Inv.cong {m m' : MS} (h : Inv m) (h1 : 0 ≤ m'.1 1 ∧ m'.1 1 ≤ 16) (e4 : m'.1 4 = m.1 4) (e8 : m'.1 8 = m.1 8) (e3 : m'.2 3 = m.2 3) (e12 : m'.2 12 = m.2 12) : Qi m m' := h.at h1 e4 e8 e12 (h.2.2.2.1.cong e3) (fun x _ => mg_cong e3 x)
theorem Inv.self {m : MS} (h : Inv m) : Qi m m := ⟨h, rfl, rfl⟩
theorem Inv.s0 {m : MS} (h : Inv m) {v : Int} : Qi m (mS m 0 v) := h.cong h.2.2.1 rfl rfl rfl rfl
/-- on the first desk alone -/
theorem Inv.on0 {m m' : MS} (h : Inv m) (d0 : dI 0 m') (o : oD 0 m m') : Qi m m' :=
  h.at (by rw [o.2.1 1 (by decide) (by decide) (by decide)]; exact h.2.2.1) (o.2.1 4 (by decide) (by decide) (by decide)) (o.2.1 8 (by decide) (by decide) (by decide)) (o.2.2 12 (by decide) (by decide)) d0 (fun x hx => o.1 x (by omega) (by omega))
theorem Inv.on3 {m m' : MS} (h : Inv m) (o : oD 3 m m') : Qi m m' :=
  h.at (by rw [o.2.1 1 (by decide) (by decide) (by decide)]; exact h.2.2.1) (o.2.1 4 (by decide) (by decide) (by decide)) (o.2.1 8 (by decide) (by decide) (by decide)) (o.2.2 12 (by decide) (by decide)) (h.2.2.2.1.other (by decide) (by decide) (by decide) o) (fun x hx => o.1 x (by omega) (by omega))
theorem Inv.on4 {m m' : MS} (h : Inv m) (o : oD 4 m m') : Qi m m' :=
  h.at (by rw [o.2.1 1 (by decide) (by decide) (by decide)]; exact h.2.2.1) (o.2.1 4 (by decide) (by decide) (by decide)) (o.2.1 8 (by decide) (by decide) (by decide)) (o.2.2 12 (by decide) (by decide)) (h.2.2.2.1.other (by decide) (by decide) (by decide) o) (fun x hx => o.1 x (by omega) (by omega))
/-- before a change: the state laid by -/
theorem Inv.pre {m : MS} (h : Inv m) : Qi m (mCopy (mS m 0 0) 0 3) ∧ dI 3 (mCopy (mS m 0 0) 0 3) :=
  ⟨h.s0.trans (h.s0.1.on3 (copy_o (by decide))), (h.s0.1.2.2.2.1).copy (by decide) (by decide)⟩
theorem lyL_f : ∀ (m : Nat) (k : Int) (s : MS), (lyL m k s).1 = s.1 ∧ ∀ a, a ≠ 3 → (lyL m k s).2 a = s.2 a
  | 0, _, _ => ⟨rfl, fun _ _ => rfl⟩
  | m + 1, k, s => by
    rw [lyL]
    obtain ⟨a, b⟩ := lyL_f m (k + 1) (mCopy s (5 + k + 1) (5 + k))
    exact ⟨a, fun q hq => (b q hq).trans (mA_ne hq)⟩
theorem lyL_c : ∀ (m : Nat) (k : Int) (s : MS), 0 ≤ k → (∀ x : Int, 0 ≤ x → (x < (5 + k) * 2804 ∨ (5 + k + m) * 2804 ≤ x) → mg (lyL m k s) x = mg s x) ∧ ∀ q c : Int, k ≤ q → q < k + m → 0 ≤ c → c < 2804 → mg (lyL m k s) ((5 + q) * 2804 + c) = mg s ((5 + q + 1) * 2804 + c)
  | 0, k, s, h0 => ⟨fun _ _ _ => rfl, fun q c h1 h2 => absurd h2 (by omega)⟩
  | m + 1, k, s, h0 => by
    rw [lyL]
    obtain ⟨a, b⟩ := lyL_c m (k + 1) (mCopy s (5 + k + 1) (5 + k)) (by omega)
    refine ⟨fun x x0 hx => ?_, fun q c h1 h2 h3 h4 => ?_⟩
    · rw [a x x0 (by omega)]
      exact copy_ne (by omega) x0 (by omega)
    · by_cases e : q = k
      · subst e
        rw [a _ (by omega) (by omega)]
        exact copy_at (by omega) (by omega) h3 h4
      · rw [b q c (by omega) (by omega) h3 h4]
        exact copy_ne (by omega) (by omega) (by omega)
theorem lays2_ok {m : MS} (h : Inv m) (h8 : m.1 8 ≤ 5) (h3 : dI 3 m) : Qi m (mLays2 m) := by
  obtain ⟨a, b, c, d, e, f⟩ := h
  have o : oD (5 + m.1 8) m (mCopy m 3 (5 + m.1 8)) := copy_o (by omega)
  have s1 : (mLays2 m).2 3 = (mCopy m 3 (5 + m.1 8)).2 3 := rfl
  have e8 : (mLays2 m).1 8 = m.1 8 + 1 := rfl
  refine ⟨⟨a, by rw [e8]; omega, c, (d.other (by omega) (by omega) (by omega) o).cong s1, fun i i0 i1 hi => ((e i i0 i1 hi).other (by omega) (by omega) (by omega) o).cong s1, fun k k0 k1 => ?_⟩, rfl, rfl⟩
  rw [e8] at k1
  by_cases q : k = m.1 8
  · subst q
    exact (h3.copy (by decide) (by omega)).cong s1
  · exact ((f k k0 (by omega)).other (by omega) (by omega) (by omega) o).cong s1
theorem lays_ok {m : MS} (h : Inv m) (h3 : dI 3 m) : Qi m (mLays m) := by
  unfold mLays
  split
  · rename_i h8
    obtain ⟨a, b, c, d, e, f⟩ := h
    obtain ⟨g1, g2⟩ := lyL_f 5 0 m
    obtain ⟨g3, g4⟩ := lyL_c 5 0 m (by decide)
    have z12 : (mS (lyL 5 0 m) 8 (m.1 8 - 1)).2 12 = m.2 12 := g2 12 (by decide)
    have z8 : (mS (lyL 5 0 m) 8 (m.1 8 - 1)).1 8 = 5 := by show m.1 8 - 1 = 5; omega
    have z4 : (mS (lyL 5 0 m) 8 (m.1 8 - 1)).1 4 = m.1 4 := by show (lyL 5 0 m).1 4 = _; rw [g1]
    have z1 : (mS (lyL 5 0 m) 8 (m.1 8 - 1)).1 1 = m.1 1 := by show (lyL 5 0 m).1 1 = _; rw [g1]
    have zc : ∀ x, mg (mS (lyL 5 0 m) 8 (m.1 8 - 1)) x = mg (lyL 5 0 m) x := fun _ => rfl
    generalize mS (lyL 5 0 m) 8 (m.1 8 - 1) = u at z12 z8 z4 z1 zc ⊢
    have I : Inv u := by
      refine ⟨by rw [z4]; exact a, by rw [z8]; omega, by rw [z1]; exact c, d.of (fun q hq => by rw [zc]; exact g3 _ (by omega) (by omega)), fun i i0 i1 hi => ?_, fun k k0 k1 => ?_⟩
      · rw [z12] at hi
        exact (e i i0 i1 hi).of (fun q hq => by rw [zc]; exact g3 _ (by omega) (by omega))
      · rw [z8] at k1
        have := f (k + 1) (by omega) (by omega)
        rw [show 5 + (k + 1) = 5 + k + 1 by omega] at this
        exact this.of (fun q hq => by rw [zc]; exact g4 k q k0 (by omega) (by omega) (by omega))
    have r := lays2_ok I (by omega) (h3.of (fun q hq => by rw [zc]; exact g3 _ (by omega) (by omega)))
    exact ⟨r.1, r.2.1.trans z4, r.2.2.trans z12⟩
  · exact lays2_ok h (by have := h.2.1; omega) h3
theorem stL2_f (d : Int) (hd : 0 ≤ d) : ∀ (m : Nat) (k : Int) (s : MS), 0 ≤ k → cF s (stL2 d m k s) ∧ ∀ x, 0 ≤ x → (x < d * 2804 + 54 + k ∨ d * 2804 + 54 + k + m ≤ x) → mg (stL2 d m k s) x = mg s x
  | 0, _, _, _ => ⟨cF.same, fun _ _ _ => rfl⟩
  | m + 1, k, s, hk => by
    rw [stL2]
    obtain ⟨a, b⟩ := stL2_f d hd m (k + 1) (mP s (d * 2804 + 54 + k) (-1)) (by omega)
    exact ⟨cF_P.trans a, fun x x0 hx => by rw [b x x0 (by omega), mg_ne (by omega) x0 (by omega)]⟩
theorem stL3_f (d : Int) (hd : 0 ≤ d) : ∀ (m : Nat) (k : Int) (s : MS), 0 ≤ k → cF s (stL3 d m k s) ∧ ∀ x, 0 ≤ x → (x < d * 2804 + 16 + k ∨ d * 2804 + 16 + k + m ≤ x) → mg (stL3 d m k s) x = mg s x
  | 0, _, _, _ => ⟨cF.same, fun _ _ _ => rfl⟩
  | m + 1, k, s, hk => by
    rw [stL3]
    obtain ⟨a, b⟩ := stL3_f d hd m (k + 1) (mP s (d * 2804 + 16 + k) 20) (by omega)
    exact ⟨cF_P.trans a, fun x x0 hx => by rw [b x x0 (by omega), mg_ne (by omega) x0 (by omega)]⟩
theorem starts_ok {s : MS} {d n g l e : Int} (hd : 0 ≤ d) (hn : 1 ≤ n ∧ n ≤ 4) : dI d (mStarts s d n g l e) ∧ oD d s (mStarts s d n g l e) ∧ mg (mStarts s d n g l e) (d * 2804 + 6) = 0 := by
  have z1 : ∀ x, 0 ≤ x → (x < d * 2804 ∨ d * 2804 + 2804 ≤ x) → mg (mZero s d) x = mg s x := fun x x0 hx => by
    rw [mZero, mg_mA, if_neg (fun q => by omega)]
    rfl
  have z2 : ∀ c, 0 ≤ c → c < 2804 → mg (mZero s d) (d * 2804 + c) = 0 := fun c c0 c1 => by
    rw [mZero, mg_mA, if_pos (by constructor <;> omega)]
  have z3 : cF s (mZero s d) := cF_A
  unfold mStarts mStart4
  generalize mZero s d = s1 at z1 z2 z3 ⊢
  obtain ⟨a1, a2⟩ := stL2_f d hd 6 0 s1 (by decide)
  generalize stL2 d 6 0 s1 = s2 at a1 a2 ⊢
  obtain ⟨b1, b2⟩ := stL3_f d hd 4 0 s2 (by decide)
  generalize stL3 d 4 0 s2 = s3 at b1 b2 ⊢
  have w : ∀ x, 0 ≤ x → (x < d * 2804 ∨ d * 2804 + 4 ≤ x) → mg (mP (mP (mP (mP s3 (d * 2804 + 0) n) (d * 2804 + 1) g) (d * 2804 + 2) l) (d * 2804 + 3) e) x = mg s3 x := fun x x0 hx => by
    rw [mg_ne (by omega) x0 (by omega), mg_ne (by omega) x0 (by omega), mg_ne (by omega) x0 (by omega), mg_ne (by omega) x0 (by omega)]
  have w0 : mg (mP (mP (mP (mP s3 (d * 2804 + 0) n) (d * 2804 + 1) g) (d * 2804 + 2) l) (d * 2804 + 3) e) (d * 2804 + 0) = n := by
    rw [mg_ne (by omega) (by omega) (by omega), mg_ne (by omega) (by omega) (by omega), mg_ne (by omega) (by omega) (by omega), mg_eq]
  have wf : cF s3 (mP (mP (mP (mP s3 (d * 2804 + 0) n) (d * 2804 + 1) g) (d * 2804 + 2) l) (d * 2804 + 3) e) := ((cF_P.trans cF_P).trans cF_P).trans cF_P
  generalize mP (mP (mP (mP s3 (d * 2804 + 0) n) (d * 2804 + 1) g) (d * 2804 + 2) l) (d * 2804 + 3) e = s4 at w w0 wf ⊢
  have v : ∀ c, (4 ≤ c ∧ c < 16) ∨ (20 ≤ c ∧ c < 54) ∨ (60 ≤ c ∧ c < 2804) → mg s4 (d * 2804 + c) = 0 := fun c hc => by
    rw [w _ (by omega) (by omega), b2 _ (by omega) (by omega), a2 _ (by omega) (by omega), z2 c (by omega) (by omega)]
  refine ⟨⟨by rw [w0]; exact hn, by rw [v 6 (by omega)]; omega, ?_, fun i i0 i1 => ?_⟩, ⟨fun x x0 hx => ?_, (((z3.trans a1).trans b1).trans wf).s⟩, v 6 (by omega)⟩
  · rw [v 6 (by omega)]
    exact ⟨by rw [v 5 (by omega)]; omega, by rw [v 7 (by omega)]; omega, fun k k0 k1 => by rw [v (36 + k) (by omega)]; omega, fun j j0 j1 => by rw [v 5 (by omega)] at j1; omega, fun _ j j0 j1 => by rw [v 5 (by omega)] at j1; omega⟩
  · rw [v 6 (by omega)] at i1
    omega
  · rw [w x x0 (by omega), b2 x x0 (by omega), a2 x x0 (by omega), z1 x x0 hx]
end
-- 989.kc
section
/-! ===== each method of the model keeps it ===== -/
section FM
variable {m : MS} {K : KM}
theorem Inv.five {m : MS} (h : Inv m) : 0 ≤ mg m (0 * 2804 + 5) ∧ mg m (0 * 2804 + 5) ≤ 160 := by
  have h5 := h.2.2.2.1.2.2.1.1
  have h6 := h.2.2.2.1.2.1
  omega
theorem Inv.six {m : MS} (h : Inv m) : 0 ≤ mg m (0 * 2804 + 6) ∧ mg m (0 * 2804 + 6) ≤ 160 := h.2.2.2.1.2.1
theorem Inv.zero {m : MS} (h : Inv m) : 1 ≤ mg m (0 * 2804 + 0) ∧ mg m (0 * 2804 + 0) ≤ 4 := h.2.2.2.1.1
theorem Inv.mok {m : MS} (h : Inv m) : mok1 m := ⟨by have := h.zero; show 0 ≤ mg m (0 * 2804 + 0); omega, h.zero.2⟩
theorem iv_sign {v : Int} (h : Inv m) (kk : ∀ m', Inv m' → m'.1 4 = (if 76 < m.1 4 then m.1 4 else m.1 4 + 4) → m'.2 12 = m.2 12 → K [pI (gSign m v).1] m') : sX3_sign v m K := by
  refine ⟨h.1, ?_⟩
  have e : (∀ k, k ≠ 0 → k ≠ 4 → (gSign m v).2.1 k = m.1 k) ∧ (gSign m v).2.2 3 = m.2 3 ∧ (gSign m v).2.2 12 = m.2 12 ∧ (gSign m v).2.1 4 = (if 76 < m.1 4 then m.1 4 else m.1 4 + 4) := by
    unfold gSign
    split
    · exact ⟨fun k h0 _ => mS_ne h0, rfl, rfl, rfl⟩
    · exact ⟨fun k h0 h4 => (mS_ne h4).trans (mS_ne h0), rfl, rfl, rfl⟩
  obtain ⟨e1, e3, e12, e4⟩ := e
  generalize (gSign m v).2 = u at e1 e3 e12 e4 ⊢
  obtain ⟨a, b, c, d, f, g⟩ := h
  refine kk u ⟨?_, by rw [e1 8 (by decide) (by decide)]; exact b, by rw [e1 1 (by decide) (by decide)]; exact c, d.cong e3, fun i i0 i1 hi => ?_, fun k k0 k1 => ?_⟩ e4 e12
  · rw [e4]
    split <;> omega
  · rw [e12] at hi
    exact (f i i0 i1 hi).cong e3
  · rw [e1 8 (by decide) (by decide)] at k1
    exact (g k k0 k1).cong e3
theorem Inv.len {m m' : MS} (h : Inv m) (h4 : 0 ≤ m'.1 4 ∧ m'.1 4 ≤ 80) (e1 : m'.1 1 = m.1 1) (e8 : m'.1 8 = m.1 8) (e3 : m'.2 3 = m.2 3) (e12 : m'.2 12 = m.2 12) : Inv m' := by
  obtain ⟨a, b, c, d, f, g⟩ := h
  refine ⟨h4, by rw [e8]; exact b, by rw [e1]; exact c, d.cong e3, fun i i0 i1 hi => ?_, fun k k0 k1 => ?_⟩
  · rw [e12] at hi
    exact (f i i0 i1 hi).cong e3
  · rw [e8] at k1
    exact (g k k0 k1).cong e3
theorem iv_end {n : Int} (hn : xB n) (h : Inv m) (kk : ∀ m', Inv m' → m'.1 4 = (if inB n 0 (m.1 4) then n else m.1 4) → m'.2 12 = m.2 12 → K [pI (gEnd m n).1] m') : sX3_end n m K := by
  refine ⟨hn, ?_⟩
  by_cases c : inB n 0 (m.1 4)
  · have e : gEnd m n = (1, mS (mS m 0 0) 4 n) := if_pos c
    have k2 := kk (mS (mS m 0 0) 4 n) (h.len (by have h1 := h.1; have h2 := c.1; have h3 := c.2; show 0 ≤ n ∧ n ≤ 80; omega) rfl rfl rfl rfl) (by rw [if_pos c]; rfl) rfl
    rw [e] at k2 ⊢
    exact k2
  · have e : gEnd m n = (0, mS m 0 0) := if_neg c
    have k2 := kk (mS m 0 0) h.s0.1 (by rw [if_neg c]; rfl) rfl
    rw [e] at k2 ⊢
    exact k2
theorem iv_start {n g l e : Int} (hn : xB n) (hg : xB g) (hl : xB l) (he : xB e) (h : Inv m) (kk : ∀ m', Qi m m' → K [pI (gStart m n g l e).1] m') : sX3_start n g l e m K := by
  refine ⟨⟨⟨hn, hg, hl, he⟩, h.2.1⟩, kk _ ?_⟩
  unfold gStart
  split
  · rename_i c
    obtain ⟨p1, p2⟩ := h.pre
    obtain ⟨s1, s2, -⟩ := starts_ok (s := mCopy (mS m 0 0) 0 3) (d := 0) (n := n) (g := g) (l := l) (e := e) (by decide) c.1
    have q := p1.1.on0 s1 s2
    exact (p1.trans q).trans (lays_ok q.1 (p2.other (by decide) (by decide) (by decide) s2))
  · exact h.s0
theorem Inv.putd {m : MS} (h : Inv m) {r v : Int} (hr : 0 ≤ r ∧ r ≤ 3) : dI 0 (mP m (16 + r) v) ∧ oD 0 m (mP m (16 + r) v) := by
  refine ⟨h.2.2.2.1.of (fun c hc => mg_ne (by omega) (by omega) (by omega)), fun x x0 hx => mg_ne (by omega) x0 (by omega), cF_P.s⟩
theorem iv_delays {r v : Int} (hr : xB r) (hv : xB v) (h : Inv m) (kk : ∀ a m', Qi m m' → K [pI a] m') : sX3_delays r v m K := by
  refine ⟨⟨⟨hr, hv⟩, h.mok, h.2.1⟩, kk _ _ ?_⟩
  unfold gDelays
  split
  · rename_i c
    have c1 := c.1
    have hz := h.mok
    have hr3 : 0 ≤ r ∧ r ≤ 3 := ⟨c1.1, by have := c1.2; have := hz.2; omega⟩
    split
    · exact h.s0
    · split
      · exact h.s0
      · obtain ⟨p1, p2⟩ := h.pre
        obtain ⟨a, b⟩ := p1.1.putd (v := v) hr3
        have q := p1.1.on0 a b
        show Qi m (if _ then _ else _)
        split
        · exact (p1.trans q).trans (lays_ok q.1 (p2.other (by decide) (by decide) (by decide) b))
        · exact p1.trans q
  · exact h.s0
theorem gt_ok {m' : MS} (p : Inv m) (q : Qi m m') (h3 : dI 3 m') : Qi m (mLays m') := q.trans (lays_ok q.1 h3)
theorem en2 {m m' : MS} (q : Qi m m') {a b : Int} : Qi m (mEn (mEn (mS m' 1 0) a) b) := q.trans (q.1.cong ⟨by show (0 : Int) ≤ 0 + 1 + 1; decide, by show (0 : Int) + 1 + 1 ≤ 16; decide⟩ rfl rfl rfl rfl)
theorem en1 {m m' : MS} (q : Qi m m') {a : Int} : Qi m (mEn (mS m' 1 0) a) := q.trans (q.1.cong ⟨by show (0 : Int) ≤ 0 + 1; decide, by show (0 : Int) + 1 ≤ 16; decide⟩ rfl rfl rfl rfl)
theorem en3 {m m' : MS} (q : Qi m m') {a b c : Int} : Qi m (mEn (mEn (mEn (mS m' 1 0) a) b) c) := q.trans (q.1.cong ⟨by show (0 : Int) ≤ 0 + 1 + 1 + 1; decide, by show (0 : Int) + 1 + 1 + 1 ≤ 16; decide⟩ rfl rfl rfl rfl)
theorem iv_eventOne {k t v r : Int} (h : Inv m) {K : Int → MS → Prop} (k0 : ∀ a, K a m) (kk : ∀ a m', dI 0 m' → oD 0 m m' → K a m') : evP m k t v r 650 K := by
  refine ⟨fun _ => k0 _, fun c => ⟨fun _ => k0 _, fun c6 => ?_⟩⟩
  have h6 := h.six
  have hz := h.mok
  have c6 : mg m (0 * 2804 + 6) ≠ 160 := c6
  refine ⟨⟨h6.1, by show mg m (0 * 2804 + 6) ≤ 159; omega⟩, ?_⟩
  have c4 : 0 ≤ r ∧ r < mg m 0 := c.2.2.2
  exact h.2.2.2.1.come ⟨by decide, by decide⟩ (by omega) c.1 ⟨c4.1, by have := hz.2; omega⟩ (fun s' a b _ => kk _ s' a b)
theorem iv_event {k t v r : Int} (hk : xB k) (ht : xB t) (hv : xB v) (hr : xB r) (h : Inv m) (kk : ∀ a m', Qi m m' → K [pI a] m') : sX3_event k t v r m K := by
  obtain ⟨p1, p2⟩ := h.pre
  refine ⟨⟨⟨hk, ht, hv, hr⟩, p1.1.mok⟩, 650, iv_eventOne p1.1 (fun a => ?_) (fun a m' d0 o => ?_)⟩
  · exact ⟨fun _ => kk _ _ p1, fun _ => ⟨(en2 p1).1.2.1, kk _ _ (gt_ok h (en2 p1) (p2.cong rfl))⟩⟩
  · have q := p1.trans (p1.1.on0 d0 o)
    have q3 := p2.other (by decide) (by decide) (by decide) o
    exact ⟨fun _ => kk _ _ q, fun _ => ⟨(en2 q).1.2.1, kk _ _ (gt_ok h (en2 q) (q3.cong rfl))⟩⟩
theorem iv_after {a : Int} {m' : MS} {K : Int → MS → Prop} (h : Inv m) (q : Qi m m') (h3 : dI 3 m') (kk : ∀ a m', Qi m m' → K a m') : gAfter a m' K :=
  ⟨fun _ => ⟨q.1.2.1, kk _ _ q⟩, fun _ => ⟨(en1 q).1.2.1, kk _ _ (gt_ok h (en1 q) (h3.cong rfl))⟩⟩
theorem iv_mk {r t : Int} (h : Inv m) {K : Int → MS → Prop} (k0 : ∀ a, K a m) (kk : ∀ a m', dI 0 m' → oD 0 m m' → K a m') : mkP m r t 650 K := by
  refine ⟨fun _ => k0 _, fun c => ⟨fun _ => k0 _, fun _ => ⟨fun _ => k0 _, fun c6 => ?_⟩⟩⟩
  have h6 := h.six
  have hz := h.mok
  have c6 : mg m (0 * 2804 + 6) ≠ 160 := c6
  refine ⟨⟨h6.1, by show mg m (0 * 2804 + 6) ≤ 159; omega⟩, ?_⟩
  have c4 : 0 ≤ r ∧ r < mg m 0 := c.1
  exact h.2.2.2.1.mark ⟨by decide, by decide⟩ (by omega) ⟨c4.1, by have := hz.2; omega⟩ (fun s' a b _ => kk _ s' a b)
theorem iv_marks {r t : Int} (hr : xB r) (ht : xB t) (h : Inv m) (kk : ∀ a m', Qi m m' → K [pI a] m') : sX3_marks r t m K := by
  obtain ⟨p1, p2⟩ := h.pre
  exact ⟨⟨⟨hr, ht⟩, p1.1.mok⟩, 650, iv_mk p1.1 (fun a => iv_after h p1 p2 kk) (fun a m' d0 o => iv_after h (p1.trans (p1.1.on0 d0 o)) (p2.other (by decide) (by decide) (by decide) o) kk)⟩
theorem iv_id {r : Int} (h : Inv m) {K : Int → MS → Prop} (k0 : ∀ a, K a m) (kk : ∀ a m', dI 0 m' → oD 0 m m' → K a m') : idP m r 650 K := by
  refine ⟨fun _ => k0 _, fun c => ⟨fun _ => k0 _, fun _ => ⟨fun _ => k0 _, fun c6 => ?_⟩⟩⟩
  have h6 := h.six
  have hz := h.mok
  have c6 : mg m (0 * 2804 + 6) ≠ 160 := c6
  refine ⟨⟨h6.1, by show mg m (0 * 2804 + 6) ≤ 159; omega⟩, ?_⟩
  have c4 : 0 ≤ r ∧ r < mg m 0 := c
  exact h.2.2.2.1.idle ⟨by decide, by decide⟩ (by omega) ⟨c4.1, by have := hz.2; omega⟩ (fun s' a b _ => kk _ s' a b)
theorem iv_idles {r : Int} (hr : xB r) (h : Inv m) (kk : ∀ a m', Qi m m' → K [pI a] m') : sX3_idles r m K := by
  obtain ⟨p1, p2⟩ := h.pre
  exact ⟨⟨hr, p1.1.mok⟩, 650, iv_id p1.1 (fun a => iv_after h p1 p2 kk) (fun a m' d0 o => iv_after h (p1.trans (p1.1.on0 d0 o)) (p2.other (by decide) (by decide) (by decide) o) kk)⟩
theorem iv_source {r a : Int} (hr : xB r) (ha : xB a) (h : Inv m) (kk : ∀ q m', Qi m m' → K [pI q] m') : sX3_source r a m K := by
  refine ⟨⟨⟨hr, ha⟩, h.mok⟩, kk _ _ ?_⟩
  unfold gSource
  split <;> exact h.s0
theorem iv_session {r a : Int} (hr : xB r) (ha : xB a) (h : Inv m) (kk : ∀ q m', Qi m m' → K [pI q] m') : sX3_session r a m K := by
  refine ⟨⟨⟨hr, ha⟩, h.five⟩, kk _ _ ?_⟩
  unfold gSession
  split <;> exact h.s0
theorem iv_message {r a : Int} (hr : xB r) (ha : xB a) (h : Inv m) (kk : ∀ q m', Qi m m' → K [pI q] m') : sX3_message r a m K := by
  refine ⟨⟨hr, ha⟩, kk _ _ ?_⟩
  unfold gMessage
  split <;> exact h.s0
theorem iv_finals {r a : Int} (hr : xB r) (ha : xB a) (h : Inv m) (kk : ∀ q m', Qi m m' → K [pI q] m') : sX3_finals r a m K := by
  refine ⟨⟨hr, ha⟩, kk _ _ ?_⟩
  unfold gFinals
  split <;> exact h.s0
theorem iv_input {r a : Int} (hr : xB r) (ha : xB a) (h : Inv m) (kk : ∀ q m', Qi m m' → K [pI q] m') : sX3_input r a m K := by
  refine ⟨⟨⟨hr, ha⟩, h.six⟩, kk _ _ ?_⟩
  unfold gInput
  split <;> exact h.s0
theorem iv_row {r : Int} (hr : xB r) (h : Inv m) (kk : ∀ q m', Qi m m' → K [pJ q] m') : sX3_row r m K := by
  refine ⟨⟨hr, h.2.2.1⟩, kk _ _ ?_⟩
  unfold gRow
  split <;> exact h.s0
theorem iv_count {a : Int} (ha : xB a) (h : Inv m) (kk : ∀ q m', Qi m m' → K [pI q] m') : sX3_count a m K := ⟨ha, kk _ _ h.s0⟩
theorem iv_taken (h : Inv m) (kk : ∀ q m', Qi m m' → K [pI q] m') : sX3_taken m K := kk _ _ (en3 h.s0)
theorem iv_sent {k : Int} (hk : xB k) (h : Inv m) (kk : ∀ q m', Qi m m' → K [pI q] m') : sX3_sent k m K := by
  refine ⟨hk, kk _ _ ?_⟩
  unfold gSent
  split
  · exact en1 h.s0
  · exact h.s0
theorem iv_closed {k : Int} (hk : xB k) (h : Inv m) (kk : ∀ q m', Qi m m' → K [pI q] m') : sX3_closed k m K := by
  refine ⟨hk, kk _ _ ?_⟩
  unfold gClosed
  split
  · exact en3 h.s0
  · exact h.s0
theorem iv_at {k t : Int} (hk : xB k) (ht : xB t) (h : Inv m) (kk : ∀ q m', Qi m m' → K [pI q] m') : sX3_at k t m K := by
  refine ⟨⟨⟨hk, ht⟩, h.five⟩, kk _ _ ?_⟩
  unfold gAt
  split
  · unfold gAt2
    split
    · exact h.s0
    · exact en1 h.s0
  · exact h.s0
theorem iv_stands (h : Inv m) (kk : ∀ q m', Qi m m' → K [pI q] m') : sX3_stands m K := ⟨h.five, kk _ _ (en2 h.s0)⟩
theorem iv_kinds {k : Int} (hk : xB k) (h : Inv m) (kk : ∀ q m', Qi m m' → K [pI q] m') : sX3_kinds k m K := by
  refine ⟨hk, kk _ _ ?_⟩
  unfold gKinds
  split
  · exact h.s0.trans (h.s0.1.cong ⟨by show (0 : Int) ≤ 0 + 1 + 1 + 1 + 1 + 1; decide, by show (0 : Int) + 1 + 1 + 1 + 1 + 1 ≤ 16; decide⟩ rfl rfl rfl rfl)
  · exact h.s0
theorem iv_holds (h : Inv m) (kk : ∀ q m', Qi m m' → K [pI q] m') : sX3_holds m K := ⟨h.mok, kk _ _ (en2 h.s0)⟩
theorem iv_next (h : Inv m) (kk : ∀ q m', Qi m m' → K [pI q] m') : sX3_next m K := by
  refine ⟨h.five, kk _ _ ?_⟩
  unfold gNext gNext0 gNx2
  split
  · exact h.s0
  · exact en1 h.s0
theorem iv_ahead {p : Int} (hp : xB p) (h : Inv m) (kk : ∀ q m', Qi m m' → K [pI q] m') : sX3_ahead p m K := by
  refine ⟨⟨hp, h.five⟩, kk _ _ ?_⟩
  unfold gAhead gAhead0
  split
  · split
    · exact h.s0
    · exact en1 h.s0
  · exact h.s0
theorem slM_ok : ∀ (n : Nat) (r b q : Int) (s : MS), 0 ≤ r → r + n ≤ 4 → cF s (slM n r b q s).2.2 ∧ ∀ x : Int, 0 ≤ x → (x < 20 ∨ 24 ≤ x) → mg (slM n r b q s).2.2 x = mg s x
  | 0, _, _, _, _, _, _ => ⟨cF.same, fun _ _ _ => rfl⟩
  | n + 1, r, b, q, s, h0, h1 => by
    have g : cF s (slS s r) ∧ ∀ x : Int, 0 ≤ x → (x < 20 ∨ 24 ≤ x) → mg (slS s r) x = mg s x := ⟨cF_P.trans cF_P, fun x x0 hx => by unfold slS; rw [mg_ne (by omega) x0 (by omega), mg_ne (by omega) x0 (by omega)]⟩
    rw [slM]
    split
    · exact slM_ok n (r + 1) b q s (by omega) (by omega)
    · split
      · have := slM_ok n (r + 1) r (slBy s r) (slS s r) (by omega) (by omega)
        exact ⟨g.1.trans this.1, fun x x0 hx => (this.2 x x0 hx).trans (g.2 x x0 hx)⟩
      · have := slM_ok n (r + 1) b q (slS s r) (by omega) (by omega)
        exact ⟨g.1.trans this.1, fun x x0 hx => (this.2 x x0 hx).trans (g.2 x x0 hx)⟩
theorem iv_slow (h : Inv m) (kk : ∀ q m', Qi m m' → K [pI q] m') : sX3_slow m K := by
  refine ⟨⟨h.mok, h.five⟩, kk _ _ ?_⟩
  have hz := h.mok
  have g := slM_ok (mg m (0 * 2804 + 0)).toNat 0 (-1) 0 (mS m 0 0) (by decide) (by have := hz.2; have hq : mg m (0 * 2804 + 0) = mg m 0 := rfl; omega)
  unfold gSlow
  generalize slM (mg m (0 * 2804 + 0)).toNat 0 (-1) 0 (mS m 0 0) = p at g ⊢
  have q : Qi m p.2.2 := h.s0.trans (h.s0.1.on0 (h.s0.1.2.2.2.1.of (fun c hc => g.2 _ (by omega) (by omega))) ⟨fun x x0 hx => g.2 x x0 (by omega), g.1.s⟩)
  unfold gSl2
  split
  · exact q
  · exact en2 q
theorem gSpO_ok (f t : Int) (s : MS) : ∀ (n : Nat) (k a b best most : Int), ∃ x y w, (gSpO s f t n k a b best most).2 = mEn (mEn (mEn (mS s 1 0) x) y) w
  | 0, _, _, _, _, _ => ⟨_, _, _, rfl⟩
  | n + 1, k, a, b, best, most => by
    rw [gSpO]
    exact gSpO_ok f t s n _ _ _ _ _
theorem iv_span {f t : Int} (hf : xB f) (ht : xB t) (h : Inv m) (kk : ∀ q m', Qi m m' → K [pI q] m') : sX3_span f t m K := by
  refine ⟨⟨⟨hf, ht⟩, h.six.2⟩, fun _ => kk _ _ h.s0, fun _ => ?_⟩
  obtain ⟨x, y, w, e⟩ := gSpO_ok f t (mS m 0 0) 6 0 0 0 (-1) 0
  rw [e]
  exact kk _ _ (en3 h.s0)
/-- times are laid beside -/
def tF (s s' : MS) : Prop := (∀ k, k ≠ 19 → s'.1 k = s.1 k) ∧ ∀ a, a ≠ 9 → a ≠ 10 → s'.2 a = s.2 a
theorem tF.same {s : MS} : tF s s := ⟨fun _ _ => rfl, fun _ _ _ => rfl⟩
theorem tF.trans {s t u : MS} (h : tF s t) (g : tF t u) : tF s u := ⟨fun k hk => (g.1 k hk).trans (h.1 k hk), fun a p q => (g.2 a p q).trans (h.2 a p q)⟩
theorem tF_9 {s : MS} {g : Nat → Int} : tF s (mA s 9 g) := ⟨fun _ _ => rfl, fun _ p _ => mA_ne p⟩
theorem tF_10 {s : MS} {g : Nat → Int} : tF s (mA s 10 g) := ⟨fun _ _ => rfl, fun _ _ p => mA_ne p⟩
theorem tF_19 {s : MS} {v : Int} : tF s (mS s 19 v) := ⟨fun _ p => mS_ne p, fun _ _ _ => rfl⟩
theorem ltW_f (t : Int) : ∀ (n : Nat) (k : Int) (s : MS), tF s (ltW t n k s).2
  | 0, _, _ => tF.same
  | n + 1, k, s => by
    rw [ltW]
    split
    · exact (tF_9.trans tF_10).trans (ltW_f t n (k - 1) (ltS s k))
    · exact tF.same
theorem ltI_f (s : MS) (i : Int) : tF s (ltI s i) := by
  unfold ltI ltP
  have := ltW_f (iC s i 2) (s.1 19).toNat (s.1 19) s
  generalize ltW (iC s i 2) (s.1 19).toNat (s.1 19) s = p at this ⊢
  exact ((this.trans tF_9).trans tF_10).trans tF_19
theorem ltO_f (key : Int) : ∀ (n : Nat) (i : Int) (s : MS), tF s (ltO key n i s)
  | 0, _, _ => tF.same
  | n + 1, i, s => by
    rw [ltO]
    split
    · exact tF.same
    · split
      · exact (ltI_f s i).trans (ltO_f key n (i + 1) _)
      · exact ltO_f key n (i + 1) s
theorem gLt_f (s : MS) (key : Int) : tF s (gLt s key) := by
  unfold gLt
  exact tF_19.trans (ltO_f key 160 0 _)
theorem Inv.lt {m m' : MS} (h : Inv m) (t : tF m m') : Qi m m' := h.cong (by rw [t.1 1 (by decide)]; exact h.2.2.1) (t.1 4 (by decide)) (t.1 8 (by decide)) (t.2 3 (by decide) (by decide)) (t.2 12 (by decide) (by decide))
theorem iv_parts {k n : Int} (hk : xB k) (hn : xB n) (h : Inv m) (kk : ∀ q m', Qi m m' → K [pI q] m') : sX3_parts k n m K :=
  ⟨⟨⟨hk, hn⟩, h.six.2⟩, fun _ => kk _ _ h.s0, fun _ => kk _ _ (h.s0.trans (h.s0.1.lt (gLt_f _ _)))⟩
theorem baN_f (s : MS) (g : Int) : ∀ (n : Nat) (k a b c d e f : Int), ∃ x y w, (baN s g n k a b c d e f).2 = mEn (mEn (mEn (mS s 1 0) x) y) w
  | 0, _, _, _, _, _, _, _ => ⟨_, _, _, rfl⟩
  | n + 1, k, a, b, c, d, e, f => by
    rw [baN]
    split
    · exact ⟨_, _, _, rfl⟩
    · exact baN_f s g n _ _ _ _ _ _ _
theorem iv_batch {k : Int} (hk : xB k) (h : Inv m) (kk : ∀ q m', Qi m m' → K [pI q] m') : sX3_batch k m K := by
  refine ⟨⟨hk, h.six.2⟩, fun _ => kk _ _ h.s0, fun _ => ?_⟩
  have q := h.s0.trans (h.s0.1.lt (gLt_f (mS m 0 0) k))
  unfold gBa
  generalize gLt (mS m 0 0) k = u at q ⊢
  obtain ⟨x, y, w, e⟩ := baN_f u (mg u (0 * 2804 + 1)) 160 0 (-1) (-1) (-1) 0 0 0
  rw [e]
  exact kk _ _ (en3 q)
theorem iv_undo (h : Inv m) (kk : ∀ q m', Qi m m' → K [pI q] m') : sX3_undo m K := by
  refine ⟨h.2.1, kk _ _ ?_⟩
  unfold gUndo
  split
  · exact h.s0
  · rename_i c
    obtain ⟨a, b, cc, d, e, f⟩ := h
    have o : oD 0 (mS (mS m 0 0) 8 (m.1 8 - 1)) (mCopy (mS (mS m 0 0) 8 (m.1 8 - 1)) (5 + (m.1 8 - 1)) 0) := copy_o (by decide)
    have e8 : (mCopy (mS (mS m 0 0) 8 (m.1 8 - 1)) (5 + (m.1 8 - 1)) 0).1 8 = m.1 8 - 1 := rfl
    refine ⟨⟨a, by show 0 ≤ m.1 8 - 1 ∧ m.1 8 - 1 ≤ 6; omega, cc, ?_, fun i i0 i1 hi => ?_, fun k k0 k1 => ?_⟩, rfl, rfl⟩
    · exact dI.copy (s := mS (mS m 0 0) 8 (m.1 8 - 1)) ((f (m.1 8 - 1) (by omega) (by omega)).cong rfl) (by omega) (by decide)
    · exact dI.other (s := mS (mS m 0 0) 8 (m.1 8 - 1)) ((e i i0 i1 hi).cong rfl) (by omega) (by decide) (by omega) o
    · rw [e8] at k1
      exact dI.other (s := mS (mS m 0 0) 8 (m.1 8 - 1)) ((f k k0 (by omega)).cong rfl) (by omega) (by decide) (by omega) o
theorem iv_keep {i : Int} (hi : xB i) (h : Inv m) (kk : ∀ m', Inv m' → m'.1 4 = m.1 4 → m'.2 12 = (if inB i 0 1 then xup (m.2 12) i.toNat 1 else m.2 12) → K [pI (gKeep m i).1] m') : sX3_keep i m K := by
  refine ⟨hi, ?_⟩
  by_cases c : inB i 0 1
  · have e : gKeep m i = (1, mCopy (mA (mS m 0 0) 12 (xup (m.2 12) i.toNat 1)) 0 (1 + i)) := if_pos c
    have c0 : 0 ≤ i := c.1
    have c1 : i ≤ 1 := c.2
    obtain ⟨a, b, cc, d, f, g⟩ := h
    have o : oD (1 + i) (mA (mS m 0 0) 12 (xup (m.2 12) i.toNat 1)) (mCopy (mA (mS m 0 0) 12 (xup (m.2 12) i.toNat 1)) 0 (1 + i)) := copy_o (by omega)
    have e12 : (mCopy (mA (mS m 0 0) 12 (xup (m.2 12) i.toNat 1)) 0 (1 + i)).2 12 = xup (m.2 12) i.toNat 1 := rfl
    have k2 := kk (mCopy (mA (mS m 0 0) 12 (xup (m.2 12) i.toNat 1)) 0 (1 + i)) (by
      refine ⟨a, b, cc, dI.other (s := mA (mS m 0 0) 12 (xup (m.2 12) i.toNat 1)) (d.cong rfl) (by decide) (by omega) (by omega) o, fun j j0 j1 hj => ?_, fun k k0 k1 => dI.other (s := mA (mS m 0 0) 12 (xup (m.2 12) i.toNat 1)) ((g k k0 k1).cong rfl) (by omega) (by omega) (by omega) o⟩
      by_cases q : j = i
      · subst q
        exact dI.copy (s := mA (mS m 0 0) 12 (xup (m.2 12) j.toNat 1)) (d.cong rfl) (by decide) (by omega)
      · rw [e12] at hj
        have hj2 : m.2 12 j.toNat ≠ 0 := by
          have : xup (m.2 12) i.toNat 1 j.toNat = m.2 12 j.toNat := if_neg (by omega)
          rw [this] at hj
          exact hj
        exact dI.other (s := mA (mS m 0 0) 12 (xup (m.2 12) i.toNat 1)) ((f j j0 j1 hj2).cong rfl) (by omega) (by omega) (by omega) o) rfl (by rw [if_pos c]; rfl)
    rw [e] at k2 ⊢
    exact k2
  · have e : gKeep m i = (0, mS m 0 0) := if_neg c
    have k2 := kk (mS m 0 0) h.s0.1 rfl (by rw [if_neg c]; rfl)
    rw [e] at k2 ⊢
    exact k2
theorem iv_back {i : Int} (hi : xB i) (h : Inv m) (kk : ∀ m', Qi m m' → K [pI (gBack m i).1] m') : sX3_back i m K := by
  refine ⟨hi, kk _ ?_⟩
  unfold gBack
  split
  · rename_i c
    have c0 : 0 ≤ i := c.1.1
    have c1 : i ≤ 1 := c.1.2
    obtain ⟨a, b, cc, d, f, g⟩ := h
    have o : oD 0 (mS m 0 0) (mCopy (mS m 0 0) (1 + i) 0) := copy_o (by decide)
    refine ⟨⟨a, by show (0 : Int) ≤ 0 ∧ (0 : Int) ≤ 6; decide, cc, dI.cong (s := mCopy (mS m 0 0) (1 + i) 0) (dI.copy (s := mS m 0 0) ((f i c0 c1 c.2).cong rfl) (by omega) (by decide)) rfl, fun j j0 j1 hj => ?_, fun k k0 k1 => absurd k1 (by show ¬ k < 0; omega)⟩, rfl, rfl⟩
    exact dI.cong (s := mCopy (mS m 0 0) (1 + i) 0) (dI.other (s := mS m 0 0) ((f j j0 j1 hj).cong rfl) (by omega) (by decide) (by omega) o) rfl
  · exact h.s0
end FM
end
-- 9891.kd
section
/-! ===== what is tried aside: would, again, latest, without, years ===== -/
theorem oD.e3 {d : Int} {s s' u : MS} (h : oD d s s') (e1 : u.1 = s'.1) (e2 : u.2 = s'.2) : oD d s u := by
  have : u = s' := by cases u; cases s'; cases e1; cases e2; rfl
  rw [this]; exact h
section FA
variable {m : MS} {K : KM}
theorem iv_would {k t v r : Int} (hk : xB k) (ht : xB t) (hv : xB v) (hr : xB r) (h : Inv m) (kk : ∀ q m', Qi m m' → K [pI q] m') : sX3_would k t v r m K := by
  refine ⟨⟨⟨hk, ht, hv, hr⟩, h.mok⟩, 650, fun _ => kk _ _ h.s0, fun c => ?_⟩
  have hz := h.mok
  have c4 : 0 ≤ r ∧ r < mg m 0 := c.2.2.2
  have h6 := h.six
  have q0 := h.s0 (v := 0)
  have w6 : mg (gWoS m) (4 * 2804 + 6) = 0 := mg_eq
  have wc : ∀ c : Int, 0 ≤ c → c < 2804 → c ≠ 6 → mg (gWoS m) (4 * 2804 + c) = mg m (0 * 2804 + c) := fun c c0 c1 c2 => by
    unfold gWoS
    rw [mg_ne (by decide) (by omega) (by omega), copy_at (by decide) (by decide) c0 c1]
    rfl
  have o : oD 4 (mS m 0 0) (gWoS m) := by
    have o1 : oD 4 (mS m 0 0) (mCopy (mS m 0 0) 0 4) := copy_o (by decide)
    exact o1.trans ⟨fun x x0 hx => mg_ne (by decide) x0 (by omega), cF_P.s⟩
  have V : dV 4 (mg m (0 * 2804 + 6)) (2700 * mg m (0 * 2804 + 6)) (gWoS m) := h.2.2.2.1.2.2.1.of h6.2 (fun c hc => wc c (by omega) (by omega) (by omega))
  refine ⟨by rw [w6]; decide, ?_⟩
  refine come_ok (j := 0) V ⟨by decide, by decide⟩ h6.2 (by omega) (by rw [wc 0 (by decide) (by decide) (by decide)]; exact h.zero.2) w6 (by decide) c.1 ⟨c4.1, by have := hz.2; omega⟩ (fun s' hc _ => ?_)
  have o2 : oD 4 (gWoS m) s' := ⟨fun x x0 hx => by
    have := hc.1 (x - 4 * 2804) (by omega) (by omega)
    rw [show 4 * 2804 + (x - 4 * 2804) = x by omega] at this
    exact this, hc.2.1⟩
  exact kk _ _ (en2 (q0.trans (q0.1.on4 (o.trans o2))))
theorem saL_f : ∀ (n : Nat) (r : Int) (s : MS), 0 ≤ r → cF s (saL n r s) ∧ ∀ x : Int, 0 ≤ x → (x < 4 * 2804 + 16 + r ∨ 4 * 2804 + 16 + r + n ≤ x) → mg (saL n r s) x = mg s x
  | 0, _, _, _ => ⟨cF.same, fun _ _ _ => rfl⟩
  | n + 1, r, s, hr => by
    rw [saL]
    obtain ⟨a, b⟩ := saL_f n (r + 1) (mP s (4 * 2804 + (16 + r)) (mg s (0 * 2804 + (16 + r)))) (by omega)
    exact ⟨cF_P.trans a, fun x x0 hx => by rw [b x x0 (by omega), mg_ne (by omega) x0 (by omega)]⟩
theorem startA_ok {g l e : Int} (h : Inv m) : dI 4 (mStartA m g l e) ∧ oD 4 m (mStartA m g l e) ∧ mg (mStartA m g l e) (4 * 2804 + 6) = 0 := by
  obtain ⟨a, b, c⟩ := starts_ok (s := m) (d := 4) (n := mg m (0 * 2804 + 0)) (g := g) (l := l) (e := e) (by decide) h.zero
  unfold mStartA
  generalize mStarts m 4 (mg m (0 * 2804 + 0)) g l e = u at a b c ⊢
  obtain ⟨f1, f2⟩ := saL_f 4 0 u (by decide)
  refine ⟨a.of (fun c hc => f2 _ (by omega) (by omega)), b.trans ⟨fun x x0 hx => f2 x x0 (by omega), f1.s⟩, ?_⟩
  rw [f2 _ (by decide) (by decide)]
  exact c
theorem ag_ok {i : Int} {s : MS} {K : MS → Prop} (d0 : dI 0 s) (d4 : dI 4 s) (h0 : 0 ≤ i) (h1 : i < nIn s) (h2 : mg s (4 * 2804 + 6) ≤ i) (kk : ∀ s', dI 4 s' → oD 4 s s' → mg s' (4 * 2804 + 6) = mg s (4 * 2804 + 6) + 1 → K s') : agP s 4 i 650 K := by
  have h6 := d0.2.1
  have h46 := d4.2.1
  have g := d0.2.2.2 i h0 h1
  have e : ∀ c : Int, 0 * 2804 + (1844 + 6 * i + c) = 1844 + 6 * i + c := fun c => by omega
  rw [e, e, e] at g
  have h1 : i < mg s (0 * 2804 + 6) := h1
  exact ⟨⟨g.1, h46.1, by omega⟩, fun c => d4.come ⟨by decide, by decide⟩ (by omega) (g.2 c) g.1 kk, fun _ => ⟨fun _ => d4.mark ⟨by decide, by decide⟩ (by omega) g.1 kk, fun _ => d4.idle ⟨by decide, by decide⟩ (by omega) g.1 kk⟩⟩
theorem nIn_o {s s' : MS} (o : oD 4 s s') : nIn s' = nIn s := o.1 _ (by decide) (by decide)
theorem agM_ok {K : MS → Prop} : ∀ (n : Nat) (i : Int) (s : MS), dI 0 s → dI 4 s → 0 ≤ i → mg s (4 * 2804 + 6) ≤ i → nIn s ≤ i + n → (∀ s', oD 4 s s' → K s') → agM1 K 650 n i s
  | 0, i, s, d0, d4, h0, h1, h2, kk => ⟨by omega, kk s oD.same⟩
  | n + 1, i, s, d0, d4, h0, h1, h2, kk => by
    refine ⟨fun _ => kk s oD.same, fun h => ⟨by have := d0.2.1; have : nIn s = mg s (0 * 2804 + 6) := rfl; omega, ag_ok d0 d4 h0 h h1 (fun s' d4' o e => ?_)⟩⟩
    exact agM_ok n (i + 1) s' (d0.other (by decide) (by decide) (by decide) o) d4' (by omega) (by omega) (by rw [nIn_o o]; omega) (fun s2 o2 => kk s2 (o.trans o2))
theorem iv_again {g l e : Int} (hg : xB g) (hl : xB l) (he : xB e) (h : Inv m) (kk : ∀ q m', Qi m m' → K [pI q] m') : sX3_again g l e m K := by
  refine ⟨⟨hg, hl, he⟩, fun _ => kk _ _ h.s0, fun _ => ⟨650, 160, ?_⟩⟩
  have q0 := h.s0 (v := 0)
  obtain ⟨a, b, c⟩ := startA_ok (g := g) (l := l) (e := e) q0.1
  have q1 := q0.1.on4 b
  refine agM_ok 160 0 _ q1.1.2.2.2.1 a (by decide) (by rw [c]; decide) (by have := q1.1.six; show mg _ (0 * 2804 + 6) ≤ 0 + 160; omega) (fun s' o => ?_)
  have q2 := q0.trans (q1.trans (q1.1.on4 o))
  refine kk _ _ (q2.trans (q2.1.cong ?_ rfl rfl rfl rfl))
  exact ⟨by show (0 : Int) ≤ 0 + 1 + 1 + 1 + 1 + 1 + 1; decide, by show (0 : Int) + 1 + 1 + 1 + 1 + 1 + 1 ≤ 16; decide⟩
theorem la_ok {K : Int → Int → MS → Prop} : ∀ (n : Nat) (i a b : Int) (s : MS), dI 0 s → dI 4 s → 0 ≤ i → mg s (4 * 2804 + 6) ≤ i → nIn s ≤ i + n → (∀ a b s', oD 4 s s' → K a b s') → laP K 650 n i a b s
  | 0, i, a, b, s, d0, d4, h0, h1, h2, kk => ⟨by omega, kk a b s oD.same⟩
  | n + 1, i, a, b, s, d0, d4, h0, h1, h2, kk => by
    refine ⟨fun _ => kk a b s oD.same, fun h => ⟨by have := d0.2.1; have : nIn s = mg s (0 * 2804 + 6) := rfl; omega, fun _ => ag_ok d0 d4 h0 h h1 (fun s' d4' o e => ?_), fun _ => ag_ok d0 d4 h0 h h1 (fun s' d4' o e => ?_)⟩⟩
    · exact la_ok n (i + 1) _ _ s' (d0.other (by decide) (by decide) (by decide) o) d4' (by omega) (by omega) (by rw [nIn_o o]; omega) (fun a b s2 o2 => kk a b s2 (o.trans o2))
    · exact la_ok n (i + 1) _ _ s' (d0.other (by decide) (by decide) (by decide) o) d4' (by omega) (by omega) (by rw [nIn_o o]; omega) (fun a b s2 o2 => kk a b s2 (o.trans o2))
theorem iv_latest (h : Inv m) (kk : ∀ q m', Qi m m' → K [pI q] m') : sX3_latest m K := by
  refine ⟨650, 160, ?_⟩
  have q0 := h.s0 (v := 0)
  unfold gLatS
  obtain ⟨a, b, c⟩ := startA_ok (g := mg m (0 * 2804 + 1)) (l := mg m (0 * 2804 + 2)) (e := mg m (0 * 2804 + 3)) q0.1
  have q1 := q0.1.on4 b
  refine la_ok 160 0 _ _ _ q1.1.2.2.2.1 a (by decide) (by rw [c]; decide) (by have := q1.1.six; show mg _ (0 * 2804 + 6) ≤ 0 + 160; omega) (fun x y s' o => ?_)
  exact kk _ _ (en1 (q0.trans (q1.trans (q1.1.on4 o))))
theorem wo_ok {r : Int} {K : MS → Prop} : ∀ (n : Nat) (i : Int) (s : MS), dI 0 s → dI 4 s → 0 ≤ i → mg s (4 * 2804 + 6) ≤ i → nIn s ≤ i + n → (∀ s', oD 4 s s' → K s') → woM r K 650 n i s
  | 0, i, s, d0, d4, h0, h1, h2, kk => ⟨by omega, kk s oD.same⟩
  | n + 1, i, s, d0, d4, h0, h1, h2, kk => by
    refine ⟨fun _ => kk s oD.same, fun h => ⟨by have := d0.2.1; have : nIn s = mg s (0 * 2804 + 6) := rfl; omega, fun _ => wo_ok n (i + 1) s d0 d4 (by omega) (by omega) (by omega) kk, fun _ => ag_ok d0 d4 h0 h h1 (fun s' d4' o e => ?_)⟩⟩
    exact wo_ok n (i + 1) s' (d0.other (by decide) (by decide) (by decide) o) d4' (by omega) (by omega) (by rw [nIn_o o]; omega) (fun s2 o2 => kk s2 (o.trans o2))
theorem iv_without {r : Int} (hr : xB r) (h : Inv m) (kk : ∀ q m', Qi m m' → K [pI q] m') : sX3_without r m K := by
  refine ⟨⟨hr, h.mok⟩, fun _ => kk _ _ h.s0, fun c => ⟨fun _ => kk _ _ h.s0, fun _ => ⟨650, 160, ?_⟩⟩⟩
  have hz := h.mok
  have c4 : 0 ≤ r ∧ r < mg m 0 := c
  have c5 : r ≤ 3 := by have := hz.2; omega
  have q0 := h.s0 (v := 0)
  unfold gWiS gLatS
  obtain ⟨a, b, c⟩ := startA_ok (g := mg m (0 * 2804 + 1)) (l := mg m (0 * 2804 + 2)) (e := mg m (0 * 2804 + 3)) q0.1
  generalize mStartA (mS m 0 0) (mg m (0 * 2804 + 1)) (mg m (0 * 2804 + 2)) (mg m (0 * 2804 + 3)) = u at a b c ⊢
  have o2 : oD 4 u (mP u (4 * 2804 + (20 + r)) 1) := ⟨fun x x0 hx => mg_ne (by omega) x0 (by omega), cF_P.s⟩
  have a2 : dI 4 (mP u (4 * 2804 + (20 + r)) 1) := a.of (fun c hc => mg_ne (by omega) (by omega) (by omega))
  have c2 : mg (mP u (4 * 2804 + (20 + r)) 1) (4 * 2804 + 6) = 0 := (mg_ne (by omega) (by decide) (by omega)).trans c
  have q1 := q0.1.on4 (b.trans o2)
  refine wo_ok 160 0 _ q1.1.2.2.2.1 a2 (by decide) (by rw [c2]; decide) (by have := q1.1.six; show mg _ (0 * 2804 + 6) ≤ 0 + 160; omega) (fun s' o => ?_)
  exact kk _ _ (en3 (q0.trans (q1.trans (q1.1.on4 o))))
theorem ush_nn (a : Int) : 0 ≤ ush a 16 := by
  unfold ush
  have e : ((iI a).toUInt32 >>> ((iI 16).toUInt32 &&& Int32.toUInt32 31)).toNat < 65536 := by
    rw [show ((iI 16).toUInt32 &&& Int32.toUInt32 31) = 16 from by decide, UInt32.toNat_shiftRight]
    have := (iI a).toUInt32.toNat_lt
    show (iI a).toUInt32.toNat >>> 16 < 65536
    rw [Nat.shiftRight_eq_div_pow]
    omega
  generalize ((iI a).toUInt32 >>> ((iI 16).toUInt32 &&& Int32.toUInt32 31)) = y at e ⊢
  show 0 ≤ y.toBitVec.toInt
  have e2 : y.toBitVec.toNat < 65536 := e
  rw [BitVec.toInt_eq_toNat_of_lt (by omega)]
  omega
theorem dOf_nn (x : Int) {n : Int} (hn : 0 < n) : 0 ≤ dOf x n ∧ dOf x n < n := by
  unfold dOf
  rw [if_pos hn]
  exact ⟨Int.tmod_nonneg _ (ush_nn x), Int.tmod_lt_of_pos _ hn⟩
/-- what draws leave alone -/
theorem drawI {s : MS} (d : dI 4 s) : dI 4 (yrD4 s) := d.cong rfl
def qD (s s' : MS) : Prop := (∀ x : Int, 0 ≤ x → (x < 4 * 2804 ∨ 4 * 2804 + 2804 ≤ x) → mg s' x = mg s x) ∧ s'.1 1 = s.1 1 ∧ s'.1 4 = s.1 4 ∧ s'.1 8 = s.1 8 ∧ s'.2 12 = s.2 12 ∧ s'.2 2 = s.2 2
theorem qD.trans {s t u : MS} (h : qD s t) (g : qD t u) : qD s u := ⟨fun x x0 hx => (g.1 x x0 hx).trans (h.1 x x0 hx), g.2.1.trans h.2.1, g.2.2.1.trans h.2.2.1, g.2.2.2.1.trans h.2.2.2.1, g.2.2.2.2.1.trans h.2.2.2.2.1, g.2.2.2.2.2.trans h.2.2.2.2.2⟩
theorem qD.same {s : MS} : qD s s := ⟨fun _ _ _ => rfl, rfl, rfl, rfl, rfl, rfl⟩
theorem oD.q {s s' : MS} (o : oD 4 s s') : qD s s' := ⟨o.1, o.2.1 1 (by decide) (by decide) (by decide), o.2.1 4 (by decide) (by decide) (by decide), o.2.1 8 (by decide) (by decide) (by decide), o.2.2 12 (by decide) (by decide), o.2.2 2 (by decide) (by decide)⟩
theorem Inv.qD {m m' : MS} (h : Inv m) (o : qD m m') : Qi m m' :=
  h.at (by rw [o.2.1]; exact h.2.2.1) o.2.2.1 o.2.2.2.1 o.2.2.2.2.1 (h.2.2.2.1.of (fun c hc => o.1 _ (by omega) (by omega))) (fun x hx => o.1 x (by omega) (by omega))
theorem yr_ok {c : Int} {K : Int → MS → Prop} : ∀ (n : Nat) (k a : Int) (s : MS), dI 4 s → c ≤ k + n → (∀ a s', qD s s' → K a s') → yrM c K 650 n k a s
  | 0, k, a, s, d4, h, kk => ⟨Or.inl (by omega), kk a s qD.same⟩
  | n + 1, k, a, s, d4, h, kk => by
    have h0 := d4.1
    have h6 := d4.2.1
    refine ⟨fun _ => kk a s qD.same, fun q => ⟨⟨h6.1, ⟨by omega, h0.2⟩, (dOf_nn _ (by omega)).1, by have := (dOf_nn (dAfter (dAfter (dAfter (dAfter (s.1 21))))) (n := mg s (4 * 2804 + 0)) (by omega)).2; omega⟩, ?_⟩⟩
    have hk := dOf_nn (dAfter (s.1 21)) (n := 6) (by decide)
    have hr := dOf_nn (dAfter (dAfter (dAfter (dAfter (s.1 21))))) (n := mg s (4 * 2804 + 0)) (by omega)
    have e6 : mg (yrD4 s) (4 * 2804 + 6) = mg s (4 * 2804 + 6) := rfl
    refine (drawI d4).come ⟨by decide, by decide⟩ (by rw [e6]; omega) ⟨hk.1, by omega⟩ ⟨hr.1, by omega⟩ (fun s' d' o _ => ?_)
    have qd : qD s s' := qD.trans (t := yrD4 s) ⟨fun _ _ _ => rfl, rfl, rfl, rfl, rfl, rfl⟩ o.q
    exact yr_ok n (k + 1) _ s' d' (by omega) (fun a s2 q2 => kk a s2 (qd.trans q2))
theorem iv_years {d c : Int} (hd : xB d) (hc : xB c) (h : Inv m) (kk : ∀ q m', Qi m m' → K [pI q] m') : sX3_years d c m K := by
  refine ⟨⟨hd, hc⟩, fun _ => kk _ _ h.s0, fun hb => ⟨650, 40, ?_⟩⟩
  have hb2 : c ≤ 40 := hb.2
  have q1 : qD m (gYrS m d) := qD.trans (t := mS (mS m 0 0) 21 d) ⟨fun _ _ _ => rfl, rfl, rfl, rfl, rfl, rfl⟩ (copy_o (f := 0) (t := 4) (by decide)).q
  have d4 : dI 4 (gYrS m d) := dI.copy (s := mS (mS m 0 0) 21 d) (h.2.2.2.1.cong rfl) (by decide) (by decide)
  exact yr_ok 40 0 0 _ d4 (by omega) (fun a s' q2 => kk _ _ (en2 (h.qD (q1.trans q2))))
end FA
end
-- 9892.ke
section
/-! ===== each method of the class keeps its sizes ===== -/
def Ql (x x' : LSt) : Prop := lok x' ∧ x'.1 4 = x.1 4 ∧ x'.1 2 = x.1 2
theorem Ql.trans {x y w : LSt} (h : Ql x y) (g : Ql y w) : Ql x w := ⟨g.1, g.2.1.trans h.2.1, g.2.2.trans h.2.2⟩
section FX
variable {x : LSt} {K : KL}
theorem Ql.self (h : lok x) : Ql x x := ⟨h, rfl, rfl⟩
theorem ql_W {q : Nat} {w : WS} (h : lok x) (hw : wok w) : Ql x (setW x q w) := by
  refine ⟨⟨h.1, h.2.1, h.2.2.1, fun j hj => ?_⟩, rfl, rfl⟩
  show wok (bif Nat.beq j q then w else x.2.2 j)
  cases Nat.beq j q
  · exact h.2.2.2 j hj
  · exact hw
theorem ql_A {a : Nat} {g : Nat → Int} (h : lok x) : Ql x (setA x a g) := ⟨h, rfl, rfl⟩
theorem ql_0 (h : lok x) : Ql x (setS x 3 0) := ⟨⟨h.1, ⟨by show (0 : Int) ≤ 0; decide, by show (0 : Int) ≤ 6; decide⟩, h.2.2.1, h.2.2.2⟩, rfl, rfl⟩
theorem ql_T {v : Int} (h : lok x) : Ql x (lTell x v) := by
  unfold lTell
  split
  · rename_i c
    have h3 := h.2.1
    exact ⟨⟨h.1, ⟨by show 0 ≤ x.1 3 + 1; omega, by show x.1 3 + 1 ≤ 6; omega⟩, h.2.2.1, h.2.2.2⟩, rfl, rfl⟩
  · exact Ql.self h
theorem ql_1 {a : Int} (h : lok x) : Ql x (lTell1 x a) := (ql_0 h).trans (ql_T (ql_0 h).1)
theorem ql_2 {a b : Int} (h : lok x) : Ql x (lTell2 x a b) := (ql_1 h).trans (ql_T (ql_1 h).1)
theorem ql_3 {a b c : Int} (h : lok x) : Ql x (lTell3 x a b c) := (ql_2 h).trans (ql_T (ql_2 h).1)
theorem ql_Rem (h : lok x) : Ql x (lRem x) := by
  have hu := h.1
  unfold lRem
  dsimp only
  have hj : 2 + (Int.tmod (x.1 0 + x.1 1) 6).toNat < 10 := by
    have := Int.tmod_lt_of_pos (x.1 0 + x.1 1) (b := 6) (by decide)
    omega
  have q := ql_W (q := 2 + (Int.tmod (x.1 0 + x.1 1) 6).toNat) h (wok_Copy (h.2.2.2 _ hj) (h.2.2.2 0 (by decide)))
  generalize setW x (2 + (Int.tmod (x.1 0 + x.1 1) 6).toNat) (wCopy (x.2.2 (2 + (Int.tmod (x.1 0 + x.1 1) 6).toNat)) (x.2.2 0)) = u at q ⊢
  obtain ⟨q1, q2, q3⟩ := q
  split
  · exact ⟨⟨⟨q1.1.1, by show 0 ≤ x.1 1 + 1; omega, by show x.1 1 + 1 ≤ 6; omega⟩, q1.2⟩, q2, q3⟩
  · have t0 : 0 ≤ Int.tmod (x.1 0 + 1) 6 := Int.tmod_nonneg _ (by omega)
    have t1 : Int.tmod (x.1 0 + 1) 6 < 6 := Int.tmod_lt_of_pos _ (by decide)
    exact ⟨⟨⟨⟨t0, t1⟩, q1.1.2⟩, q1.2⟩, q2, q3⟩
theorem ix_end {n : Int} (hn : xB n) (h : lok x) (kk : ∀ x', lok x' → x'.1 4 = (if 0 ≤ n ∧ n ≤ x.1 4 then n else x.1 4) → x'.1 2 = x.1 2 → K [pI (fEnd x n).1] x') : sX2_end n x K := by
  refine ⟨hn, ?_⟩
  have h4 := h.2.2.1
  by_cases c : 0 ≤ n ∧ n ≤ x.1 4
  · have e : fEnd x n = (1, setS x 4 n) := if_pos c
    have k2 := kk (setS x 4 n) ⟨h.1, h.2.1, ⟨by show 0 ≤ n; omega, by show n ≤ 80; omega⟩, h.2.2.2⟩ (by rw [if_pos c]; rfl) rfl
    rw [e] at k2 ⊢
    exact k2
  · have e : fEnd x n = (0, x) := if_neg c
    have k2 := kk x h (by rw [if_neg c]) rfl
    rw [e] at k2 ⊢
    exact k2
theorem putS_ok {v : Int} (h : lok x) (h4 : x.1 4 < 80) : lok (lPutS x v) ∧ (lPutS x v).1 4 = x.1 4 + 1 ∧ (lPutS x v).1 2 = x.1 2 := by
  have e : lPutS x v = setS (setA x 1 (xup (x.2.1 1) (x.1 4).toNat v)) 4 (x.1 4 + 1) := if_pos h4
  rw [e]
  have h5 := h.2.2.1
  exact ⟨⟨h.1, h.2.1, ⟨by show 0 ≤ x.1 4 + 1; omega, by show x.1 4 + 1 ≤ 80; omega⟩, h.2.2.2⟩, rfl, rfl⟩
theorem ix_sign {v : Int} (hv : xB v) (h : lok x) (kk : ∀ x', lok x' → x'.1 4 = (if 76 < x.1 4 then x.1 4 else x.1 4 + 4) → x'.1 2 = x.1 2 → K [pI (if 76 < x.1 4 then -1 else x.1 4 + 4)] x') : sX2_sign v x K := by
  refine ⟨⟨hv, h⟩, ?_⟩
  unfold fSign
  by_cases c : 80 < x.1 4 + 4
  · rw [if_pos c]
    have k2 := kk x h (by rw [if_pos (by omega)]) rfl
    rw [if_pos (by omega)] at k2
    exact k2
  · rw [if_neg c]
    obtain ⟨a1, b1, c1⟩ := putS_ok (v := by8 v 24) h (by omega)
    generalize lPutS x (by8 v 24) = u1 at a1 b1 c1 ⊢
    obtain ⟨a2, b2, c2⟩ := putS_ok (v := by8 v 16) a1 (by omega)
    generalize lPutS u1 (by8 v 16) = u2 at a2 b2 c2 ⊢
    obtain ⟨a3, b3, c3⟩ := putS_ok (v := by8 v 8) a2 (by omega)
    generalize lPutS u2 (by8 v 8) = u3 at a3 b3 c3 ⊢
    obtain ⟨a4, b4, c4⟩ := putS_ok (v := by8 v 0) a3 (by omega)
    generalize lPutS u3 (by8 v 0) = u4 at a4 b4 c4 ⊢
    have k2 := kk u4 a4 (by rw [if_neg (by omega)]; omega) (by rw [c4, c3, c2, c1])
    rw [if_neg (by omega)] at k2
    have e : u4.1 4 = x.1 4 + 4 := by omega
    show K [pI (u4.1 4)] u4
    rw [e]
    exact k2
theorem ix_start {n g l e : Int} (hn : xB n) (hg : xB g) (hl : xB l) (he : xB e) (h : lok x) (kk : ∀ x', Ql x x' → K [pI (fStart x n g l e).1] x') : sX2_start n g l e x K := by
  refine ⟨⟨hn, hg, hl, he, h⟩, kk _ ?_⟩
  unfold fStart
  split
  · have q := ql_Rem h
    exact q.trans (ql_W q.1 (wok_Reset (q.1.2.2.2 0 (by decide))))
  · exact Ql.self h
theorem ix_delays {r v : Int} (hr : xB r) (hv : xB v) (h : lok x) (kk : ∀ a x', Ql x x' → K [pI a] x') : sX2_delays r v x K := by
  refine ⟨⟨hr, hv, h⟩, kk _ _ ?_⟩
  unfold fDelays
  split
  · split
    · exact Ql.self h
    · split
      · exact Ql.self h
      · have q := ql_Rem h
        exact q.trans (ql_W q.1 (wok_P (by decide) (q.1.2.2.2 0 (by decide))))
  · exact Ql.self h
theorem ix_event {k t v r : Int} (hk : xB k) (ht : xB t) (hv : xB v) (hr : xB r) (h : lok x) (kk : ∀ a x', Ql x x' → K [pI a] x') : sX2_event k t v r x K := by
  refine ⟨⟨hk, ht, hv, hr, h⟩, kk _ _ ?_⟩
  unfold fEvent
  split
  · exact Ql.self h
  · have q := ql_Rem h
    have q2 := q.trans (ql_W (q := 0) q.1 (wok_ComeE (k := k) (t := t) (v := v) (r := r) (q.1.2.2.2 0 (by decide))))
    exact q2.trans (ql_2 q2.1)
theorem ix_marks {r t : Int} (hr : xB r) (ht : xB t) (h : lok x) (kk : ∀ a x', Ql x x' → K [pI a] x') : sX2_marks r t x K := by
  refine ⟨⟨hr, ht, h⟩, kk _ _ ?_⟩
  unfold fMarks
  split
  · exact Ql.self h
  · have q := ql_Rem h
    have q2 := q.trans (ql_W (q := 0) q.1 (wok_ComeM (r := r) (t := t) (q.1.2.2.2 0 (by decide))))
    exact q2.trans (ql_1 q2.1)
theorem ix_idles {r : Int} (hr : xB r) (h : lok x) (kk : ∀ a x', Ql x x' → K [pI a] x') : sX2_idles r x K := by
  refine ⟨⟨hr, h⟩, kk _ _ ?_⟩
  unfold fIdles
  split
  · exact Ql.self h
  · have q := ql_Rem h
    have q2 := q.trans (ql_W (q := 0) q.1 (wok_ComeI (r := r) (q.1.2.2.2 0 (by decide))))
    exact q2.trans (ql_1 q2.1)
theorem ix_at {k t : Int} (hk : xB k) (ht : xB t) (h : lok x) (kk : ∀ a x', Ql x x' → K [pI a] x') : sX2_at k t x K := by
  refine ⟨⟨hk, ht⟩, kk _ _ ?_⟩
  unfold fAt
  split
  · split
    · exact Ql.self h
    · exact ql_1 h
  · exact Ql.self h
theorem ix_sent {k : Int} (hk : xB k) (h : lok x) (kk : ∀ a x', Ql x x' → K [pI a] x') : sX2_sent k x K := by
  refine ⟨hk, kk _ _ ?_⟩
  unfold fSent
  split
  · exact ql_1 h
  · exact Ql.self h
theorem ix_closed {k : Int} (hk : xB k) (h : lok x) (kk : ∀ a x', Ql x x' → K [pI a] x') : sX2_closed k x K := by
  refine ⟨hk, kk _ _ ?_⟩
  unfold fClosed
  split
  · exact ql_3 h
  · exact Ql.self h
theorem ix_taken (h : lok x) (kk : ∀ a x', Ql x x' → K [pI a] x') : sX2_taken x K := kk _ _ (ql_3 h)
theorem ix_would {k t v r : Int} (hk : xB k) (ht : xB t) (hv : xB v) (hr : xB r) (h : lok x) (kk : ∀ a x', Ql x x' → K [pI a] x') : sX2_would k t v r x K := by
  refine ⟨⟨hk, ht, hv, hr, h⟩, kk _ _ ?_⟩
  unfold fWould
  split
  · have q := ql_W (q := 1) h (wok_Copy (h.2.2.2 1 (by decide)) (h.2.2.2 0 (by decide)))
    have q2 := q.trans (ql_W (q := 1) q.1 (wok_PlayE (k := k) (t := t) (v := v) (r := r) (q.1.2.2.2 1 (by decide))))
    exact q2.trans (ql_2 q2.1)
  · exact Ql.self h
theorem rd_ok (n : Int) : ∀ (m : Nat) (i : Int) (x : LSt), lok x → Ql x (rdL n m i x)
  | 0, _, _, h => Ql.self h
  | m + 1, i, x, h => by
    rw [rdL]
    have q := ql_W (q := 1) h (wok_P (t := 0) (i := i) (c := 1) (v := wG (x.2.2 0) 0 i 1) (by decide) (h.2.2.2 1 (by decide)))
    exact q.trans (rd_ok n m (i + 1) _ q.1)
theorem rp_ok (lo : Int) : ∀ (m : Nat) (i : Int) (x : LSt), lok x → Ql x (rpL lo m i x)
  | 0, _, _, h => Ql.self h
  | m + 1, i, x, h => by
    rw [rpL]
    split
    · exact rp_ok lo m (i + 1) x h
    · have q := ql_W (q := 1) h (wok_PlayN (g := ((x.2.2 0).2 4).2) (i := i) (h.2.2.2 1 (by decide)))
      exact q.trans (rp_ok lo m (i + 1) _ q.1)
theorem ql_Replay {g l e lo : Int} (h : lok x) : Ql x (lReplay x g l e lo) := by
  unfold lReplay lRep2
  dsimp only
  have q1 := ql_W (q := 1) h (wok_Reset (n := wZ (x.2.2 0) 0) (g := g) (l := l) (e := e) (h.2.2.2 1 (by decide)))
  have q2 := q1.trans (rd_ok (wZ (x.2.2 0) 0) (wZ (x.2.2 0) 0).toNat 0 _ q1.1)
  generalize rdL (wZ (x.2.2 0) 0) (wZ (x.2.2 0) 0).toNat 0 (setW x 1 (wReset (x.2.2 1) (wZ (x.2.2 0) 0) g l e)) = u at q2 ⊢
  split
  · have q3 := q2.trans (ql_W (q := 1) q2.1 (wok_P (t := 0) (i := lo) (c := 2) (v := 1) (by decide) (q2.1.2.2.2 1 (by decide))))
    exact q3.trans (rp_ok lo _ 0 _ q3.1)
  · exact q2.trans (rp_ok lo _ 0 _ q2.1)
theorem ix_without {r : Int} (hr : xB r) (h : lok x) (kk : ∀ a x', Ql x x' → K [pI a] x') : sX2_without r x K := by
  refine ⟨⟨hr, h⟩, kk _ _ ?_⟩
  unfold fWithout
  split
  · split
    · exact Ql.self h
    · have q := ql_Replay (g := (x.2.2 0).1 0) (l := (x.2.2 0).1 1) (e := (x.2.2 0).1 2) (lo := r) h
      exact q.trans (ql_3 q.1)
  · exact Ql.self h
theorem ix_undo (h : lok x) (kk : ∀ a x', Ql x x' → K [pI a] x') : sX2_undo x K := by
  refine ⟨h, kk _ _ ?_⟩
  unfold fUndo
  split
  · exact Ql.self h
  · have hu := h.1
    have hj : 2 + (Int.tmod (x.1 0 + (x.1 1 - 1)) 6).toNat < 10 := by
      have := Int.tmod_lt_of_pos (x.1 0 + (x.1 1 - 1)) (b := 6) (by decide)
      omega
    have q : Ql x (setS x 1 (x.1 1 - 1)) := ⟨⟨⟨h.1.1, by show 0 ≤ x.1 1 - 1; omega, by show x.1 1 - 1 ≤ 6; omega⟩, h.2⟩, rfl, rfl⟩
    exact q.trans (ql_W (q := 0) q.1 (wok_Copy (h.2.2.2 0 (by decide)) (h.2.2.2 _ hj)))
theorem ix_keep {i : Int} (hi : xB i) (h : lok x) (kk : ∀ x', lok x' → x'.1 4 = x.1 4 → x'.1 2 = (if 0 ≤ i ∧ i < 2 then (iI (x.1 2) ||| iI (bitOf i)).toInt else x.1 2) → K [pI (fKeep x i).1] x') : sX2_keep i x K := by
  refine ⟨⟨hi, h⟩, ?_⟩
  by_cases c : 0 ≤ i ∧ i < 2
  · have e : fKeep x i = (1, setS (setW x (8 + i.toNat) (wCopy (x.2.2 (8 + i.toNat)) (x.2.2 0))) 2 (iI (x.1 2) ||| iI (bitOf i)).toInt) := if_pos c
    have q := ql_W (q := 8 + i.toNat) h (wok_Copy (h.2.2.2 (8 + i.toNat) (by omega)) (h.2.2.2 0 (by decide)))
    have k2 := kk (setS (setW x (8 + i.toNat) (wCopy (x.2.2 (8 + i.toNat)) (x.2.2 0))) 2 (iI (x.1 2) ||| iI (bitOf i)).toInt) q.1 rfl (by rw [if_pos c]; rfl)
    rw [e] at k2 ⊢
    exact k2
  · have e : fKeep x i = (0, x) := if_neg c
    have k2 := kk x h rfl (by rw [if_neg c])
    rw [e] at k2 ⊢
    exact k2
theorem ix_back {i : Int} (hi : xB i) (h : lok x) (kk : ∀ x', Ql x x' → K [pI (fBack x i).1] x') : sX2_back i x K := by
  refine ⟨⟨hi, h⟩, kk _ ?_⟩
  unfold fBack
  split
  · rename_i c
    have q := ql_W (q := 0) h (wok_Copy (h.2.2.2 0 (by decide)) (h.2.2.2 (8 + i.toNat) (by omega)))
    exact ⟨⟨⟨q.1.1.1, by show (0 : Int) ≤ 0; decide, by show (0 : Int) ≤ 6; decide⟩, q.1.2⟩, rfl, rfl⟩
  · exact Ql.self h
theorem ix_count {a : Int} (ha : xB a) (h : lok x) (kk : ∀ a x', Ql x x' → K [pI a] x') : sX2_count a x K := ⟨ha, kk _ _ (Ql.self h)⟩
theorem agL2_ok : ∀ (m : Nat) (k : Int) (x : LSt), lok x → Ql x (agL2 m k x)
  | 0, _, _, h => Ql.self h
  | m + 1, k, x, h => by
    rw [agL2]
    exact (ql_T h).trans (agL2_ok m (k + 1) _ (ql_T h).1)
theorem ix_again {g l e : Int} (hg : xB g) (hl : xB l) (he : xB e) (h : lok x) (kk : ∀ a x', Ql x x' → K [pI a] x') : sX2_again g l e x K := by
  refine ⟨⟨hg, hl, he, h⟩, kk _ _ ?_⟩
  unfold fAgain
  split
  · have q := ql_Replay (g := g) (l := l) (e := e) (lo := -1) h
    have q2 := q.trans (ql_0 q.1)
    have q3 := q2.trans (agL2_ok 4 0 _ q2.1)
    have q4 := q3.trans (ql_T (v := wZ ((lReplay x g l e (-1)).2.2 1) 1) q3.1)
    exact q4.trans (ql_T q4.1)
  · exact Ql.self h
theorem ix_stands (h : lok x) (kk : ∀ a x', Ql x x' → K [pI a] x') : sX2_stands x K := kk _ _ (ql_2 h)
theorem knL_ok (k : Int) : ∀ (m : Nat) (i t : Int) (x : LSt), lok x → Ql x (knL k m i t x).2
  | 0, _, _, _, h => Ql.self h
  | m + 1, i, t, x, h => by
    rw [knL]
    exact (ql_T h).trans (knL_ok k m (i + 1) _ _ (ql_T h).1)
theorem ix_kinds {k : Int} (hk : xB k) (h : lok x) (kk : ∀ a x', Ql x x' → K [pI a] x') : sX2_kinds k x K := by
  refine ⟨hk, kk _ _ ?_⟩
  unfold fKinds
  split
  · have q := (ql_0 h).trans (knL_ok k 4 0 0 _ (ql_0 h).1)
    exact q.trans (ql_T q.1)
  · exact Ql.self h
theorem ix_slow (h : lok x) (kk : ∀ a x', Ql x x' → K [pI a] x') : sX2_slow x K := by
  refine kk _ _ ?_
  unfold fSlow fSlow2
  split
  · exact Ql.self h
  · exact ql_2 h
theorem ix_holds (h : lok x) (kk : ∀ a x', Ql x x' → K [pI a] x') : sX2_holds x K := kk _ _ (ql_2 h)
theorem ix_next (h : lok x) (kk : ∀ a x', Ql x x' → K [pI a] x') : sX2_next x K := by
  refine kk _ _ ?_
  unfold fNext fNext2
  split
  · exact Ql.self h
  · exact ql_1 h
theorem ix_ahead {p : Int} (hp : xB p) (h : lok x) (kk : ∀ a x', Ql x x' → K [pI a] x') : sX2_ahead p x K := by
  refine ⟨hp, kk _ _ ?_⟩
  unfold fAhead
  split
  · split
    · exact Ql.self h
    · exact ql_1 h
  · exact Ql.self h
theorem ix_latest (h : lok x) (kk : ∀ a x', Ql x x' → K [pI a] x') : sX2_latest x K := kk _ _ (ql_1 h)
theorem ix_span {f t : Int} (hf : xB f) (ht : xB t) (h : lok x) (kk : ∀ a x', Ql x x' → K [pI a] x') : sX2_span f t x K := by
  refine ⟨⟨hf, ht⟩, kk _ _ ?_⟩
  unfold fSpan
  split
  · exact ql_3 h
  · exact Ql.self h
/-- arrays alone -/
theorem ins_ok (t i : Int) : ∀ (p : Nat) (x : LSt), lok x → Ql x (insL t i p x)
  | 0, x, h => ql_A h
  | p + 1, x, h => by
    rw [insL]
    split
    · exact (ql_A h).trans (ins_ok t i p _ (ql_A h).1)
    · exact ql_A h
theorem srt_ok (k : Int) : ∀ (m : Nat) (i : Int) (n : Nat) (x : LSt), lok x → Ql x (srtL k m i n x).2
  | 0, _, _, _, h => Ql.self h
  | m + 1, i, n, x, h => by
    rw [srtL]
    split
    · have q := ins_ok (wG (x.2.2 0) 4 i 2) i n x h
      exact q.trans (srt_ok k m (i + 1) (n + 1) _ q.1)
    · exact srt_ok k m (i + 1) n x h
theorem ql_Sort {k : Int} (h : lok x) : Ql x (lSort x k).2 := srt_ok k _ 0 0 x h
theorem ix_batch {k : Int} (hk : xB k) (h : lok x) (kk : ∀ a x', Ql x x' → K [pI a] x') : sX2_batch k x K := by
  refine ⟨⟨hk, h⟩, kk _ _ ?_⟩
  unfold fBatch
  split
  · exact (ql_Sort h).trans (ql_3 (ql_Sort h).1)
  · exact Ql.self h
theorem yrL_ok (r : Int) : ∀ (m : Nat) (d : Int) (x : LSt), lok x → Ql x (yrL r m d x)
  | 0, _, _, h => Ql.self h
  | m + 1, d, x, h => by
    rw [yrL]
    have q := ql_W (q := 1) h (wok_PlayE (k := dOf (dAfter d) 6) (t := max 0 (min 9999 (wI (wI ((x.2.2 1).1 3 - (x.2.2 1).1 1) + dOf (dAfter (dAfter d)) 100)))) (v := wI (dOf (dAfter (dAfter (dAfter d))) 199 - 99)) (r := dOf (dAfter (dAfter (dAfter (dAfter d)))) r) (h.2.2.2 1 (by decide)))
    exact q.trans (yrL_ok r m _ _ q.1)
theorem ix_years {d n : Int} (hd : xB d) (hn : xB n) (h : lok x) (kk : ∀ a x', Ql x x' → K [pI a] x') : sX2_years d n x K := by
  refine ⟨⟨hd, hn, h⟩, kk _ _ ?_⟩
  unfold fYears
  split
  · have q := ql_W (q := 1) h (wok_Copy (h.2.2.2 1 (by decide)) (h.2.2.2 0 (by decide)))
    have q2 := q.trans (yrL_ok (max 1 (wZ (x.2.2 0) 0)) (min n (wI (160 - wZ (x.2.2 0) 4))).toNat d _ q.1)
    exact q2.trans (ql_2 q2.1)
  · exact Ql.self h
theorem ptL_ok (n : Int) : ∀ (m : Nat) (k : Int) (x : LSt), lok x → Ql x (ptL n m k x)
  | 0, _, _, h => Ql.self h
  | m + 1, k, x, h => by
    rw [ptL]
    split
    · exact (ql_A h).trans (ptL_ok n m (k + 1) _ (ql_A h).1)
    · exact ptL_ok n m (k + 1) x h
theorem ix_parts {k n : Int} (hk : xB k) (hn : xB n) (h : lok x) (kk : ∀ a x', Ql x x' → K [pI a] x') : sX2_parts k n x K := by
  refine ⟨⟨hk, hn, h⟩, kk _ _ ?_⟩
  unfold fParts
  split
  · split
    · exact ql_Sort h
    · have q := (ql_Sort (k := k) h).trans (ql_A (a := 3) (g := fun j => if j < 101 then 0 else (lSort x k).2.2.1 3 j) (ql_Sort (k := k) h).1)
      exact q.trans (ptL_ok _ _ 0 _ q.1)
  · exact Ql.self h
end FX
end
-- 9893.kf
section
/-! ===== events and day keep it ===== -/
section FE
variable {m : MS} {K : KM}
theorem eG.inv {m u : MS} (h : Inv m) (g : eG (gRd m) u) : Inv u ∧ u.1 4 = 0 ∧ u.2 12 = m.2 12 := by
  have e4 : u.1 4 = 0 := g.1 4 (by decide)
  have e12 : u.2 12 = m.2 12 := g.2 12 (by decide) (by decide) (by decide) (by decide) (by decide)
  exact ⟨h.len (by rw [e4]; decide) (g.1 1 (by decide)) (g.1 8 (by decide)) (g.2 3 (by decide) (by decide) (by decide) (by decide) (by decide)) e12, e4, e12⟩
theorem cl_ok {Q : Int → MS → Prop} : ∀ (n : Nat) (k t : Int) (s : MS), dI 0 s → rdE (k + n) s → mg s (0 * 2804 + 6) + n ≤ 160 → 0 ≤ k → (∀ t s', dI 0 s' → oD 0 s s' → Q t s') → clP Q n k t s
  | 0, k, t, s, d0, _, _, _, kk => kk t s d0 oD.same
  | n + 1, k, t, s, d0, he, h6, h0, kk => by
    have g := he k h0 (by omega)
    have g6 := d0.2.1
    refine ⟨⟨g.2, g6.1, by omega⟩, 650, d0.come ⟨by decide, by decide⟩ (by omega) g.1 g.2 (fun s' d' o e => ?_)⟩
    refine cl_ok n (k + 1) _ s' d' (fun j j0 j1 => ?_) (by omega) (by omega) (fun t s2 d2 o2 => kk t s2 d2 (o.trans o2))
    rw [o.2.2 5 (by decide) (by decide), o.2.2 8 (by decide) (by decide)]
    exact he j j0 (by omega)
theorem iv_events (h : Inv m) (kk : ∀ q m', Inv m' → m'.1 4 = 0 → m'.2 12 = m.2 12 → K [pI q] m') : sX3_events m K := by
  have hz := h.mok
  have hg := gRd_gd h.1 hz.1
  have f := reL_f 80 0 (gRd m) hg (by decide) (by show (0 : Int) ≤ 0; decide)
  have e := reL_e 80 0 (gRd m) hg hz.2 (by decide) (by show (0 : Int) ≤ 0; decide) (fun j j0 j1 => absurd j1 (by omega))
  refine ⟨⟨h.1, hz.1, h.six⟩, ?_⟩
  generalize reL 80 0 (gRd m) = p at f e ⊢
  obtain ⟨I, e4, e12⟩ := f.1.inv h
  refine ⟨fun _ => kk _ _ I e4 e12, fun c => ⟨fun _ => kk _ _ I e4 e12, fun c6 => ?_⟩⟩
  have e := e c
  have o3 : oD 3 p.2.2 (mCopy p.2.2 0 3) := copy_o (by decide)
  have q3 := I.on3 o3
  have d3 : dI 3 (mCopy p.2.2 0 3) := I.2.2.2.1.copy (by decide) (by decide)
  have e6 : mg (mCopy p.2.2 0 3) (0 * 2804 + 6) = mg p.2.2 (0 * 2804 + 6) := o3.1 _ (by decide) (by decide)
  refine cl_ok p.2.1.toNat 0 0 _ q3.1.2.2.2.1 (fun j j0 j1 => ?_) (by have := f.2.1; omega) (by decide) (fun t s' d0 o => ?_)
  · exact e j j0 (by have := f.2.1; omega)
  · have q := q3.trans (q3.1.on0 d0 o)
    have w3 := d3.other (by decide) (by decide) (by decide) o
    have qe := en2 q (a := wI (mg s' (0 * 2804 + 7) - mg s' (3 * 2804 + 7))) (b := mg s' (0 * 2804 + 4))
    have ql := gt_ok I qe (w3.cong rfl)
    exact ⟨fun _ => ⟨qe.1.2.1, kk _ _ ql.1 (ql.2.1.trans e4) (ql.2.2.trans e12)⟩, fun _ => kk _ _ qe.1 (qe.2.1.trans e4) (qe.2.2.trans e12)⟩
theorem da_ok {Q : Int → MS → Prop} : ∀ (n : Nat) (d : Int) (s : MS), Inv s → dI 3 s → 0 ≤ d → d + n ≤ 80 → (∀ d s', Qi s s' → dI 3 s' → Q d s') → daP Q n d s
  | 0, d, s, I, d3, h0, h1, kk => kk d s I.self d3
  | n + 1, d, s, I, d3, h0, h1, kk => by
    have hz := I.mok
    have k0 : ∀ a, xB a → (a < 0 → Q d s) ∧ (0 ≤ a → daP Q n (d + 1) s) := fun a _ => ⟨fun _ => kk d s I.self d3, fun _ => da_ok n (d + 1) s I d3 (by omega) (by omega) kk⟩
    have k1 : ∀ a s', dI 0 s' → oD 0 s s' → xB a → (a < 0 → Q d s') ∧ (0 ≤ a → daP Q n (d + 1) s') := fun a s' d0 o _ => by
      have q := I.on0 d0 o
      have w3 := d3.other (by decide) (by decide) (by decide) o
      exact ⟨fun _ => kk d s' q w3, fun _ => da_ok n (d + 1) s' q.1 w3 (by omega) (by omega) (fun d s2 q2 => kk d s2 (q.trans q2))⟩
    exact ⟨⟨⟨h0, by omega⟩, hz⟩, fun _ => ⟨650, iv_eventOne I k0 k1⟩, fun _ => ⟨fun _ => ⟨650, iv_mk I k0 k1⟩, fun _ => ⟨650, iv_id I k0 k1⟩⟩⟩
theorem iv_day (h : Inv m) (kk : ∀ q m', Inv m' → m'.1 4 = 0 → m'.2 12 = m.2 12 → K [pI q] m') : sX3_day m K := by
  have hz := h.mok
  have hg := gRd_gd h.1 hz.1
  have f := raL_f 80 0 (gRd m) hg (by decide) (by show (0 : Int) ≤ 0; decide)
  refine ⟨⟨h.1, hz.1⟩, ?_⟩
  generalize raL 80 0 (gRd m) = p at f ⊢
  obtain ⟨I, e4, e12⟩ := f.1.inv h
  refine ⟨fun _ => kk _ _ I e4 e12, fun c => ?_⟩
  have o3 : oD 3 p.2.2 (mCopy p.2.2 0 3) := copy_o (by decide)
  have q3 := I.on3 o3
  have d3 : dI 3 (mCopy p.2.2 0 3) := I.2.2.2.1.copy (by decide) (by decide)
  refine da_ok p.2.1.toNat 0 _ q3.1 d3 (by decide) (by have := f.2; omega) (fun d s' qs w3 => ?_)
  have q := q3.trans qs
  have qe := en2 q (a := if d < p.2.1 then 1 else 0) (b := wI (mg s' (0 * 2804 + 7) - mg s' (3 * 2804 + 7)))
  have ql := gt_ok I qe (w3.cong rfl)
  exact ⟨fun _ => ⟨qe.1.2.1, kk _ _ ql.1 (ql.2.1.trans e4) (ql.2.2.trans e12)⟩, fun _ => kk _ _ qe.1 (qe.2.1.trans e4) (qe.2.2.trans e12)⟩
end FE
section FF
variable {x : LSt} {K : KL}
theorem ql_S4 (h : lok x) : lok (setS x 4 0) ∧ (setS x 4 0).1 4 = 0 ∧ (setS x 4 0).1 2 = x.1 2 := ⟨⟨h.1, h.2.1, ⟨by show (0 : Int) ≤ 0; decide, by show (0 : Int) ≤ 80; decide⟩, h.2.2.2⟩, rfl, rfl⟩
theorem ql_CEA {a : Int} (h : lok x) : Ql x (lCEA x a) := ql_W (q := 0) h (wok_CEA (h.2.2.2 0 (by decide)))
theorem ql_Act {a : Int} (h : lok x) : Ql x (lAct x a) := ql_W (q := 0) h (wok_Act (h.2.2.2 0 (by decide)))
theorem evL_ok (len : Int) : ∀ (n : Nat) (a g : Int) (x : LSt), lok x → Ql x (evL len n a g x).2
  | 0, _, _, _, h => Ql.self h
  | n + 1, a, g, x, h => by
    rw [evL]
    split
    · exact Ql.self h
    · exact (ql_CEA h).trans (evL_ok len n _ _ _ (ql_CEA h).1)
theorem ix_events (h : lok x) (kk : ∀ a x', lok x' → x'.1 4 = 0 → x'.1 2 = x.1 2 → K [pI a] x') : sX2_events x K := by
  refine ⟨h, ?_⟩
  obtain ⟨l, e4, e2⟩ := ql_S4 h
  have q : Ql (setS x 4 0) (fEvents x).2 := by
    unfold fEvents fEv1
    split
    · exact Ql.self l
    · split
      · exact Ql.self l
      · split
        · unfold fEv2 fEv3
          have q1 := (ql_Rem l).trans (evL_ok (x.1 4) 10 0 0 _ (ql_Rem l).1)
          exact q1.trans (ql_2 q1.1)
        · unfold fEv2 fEv3
          have q1 := evL_ok (x.1 4) 10 0 0 _ l
          exact q1.trans (ql_2 q1.1)
  exact kk _ _ q.1 (q.2.1.trans e4) (q.2.2.trans e2)
theorem dyL_ok (len : Int) : ∀ (n : Nat) (a d : Int) (x : LSt), lok x → Ql x (dyL len n a d x).2.2
  | 0, _, _, _, h => Ql.self h
  | n + 1, a, d, x, h => by
    rw [dyL]
    split
    · exact Ql.self h
    · split
      · exact Ql.self h
      · split
        · have q := (ql_Rem h).trans (ql_Act (a := a) (ql_Rem h).1)
          exact q.trans (dyL_ok len n _ _ _ q.1)
        · exact (ql_Act h).trans (dyL_ok len n _ _ _ (ql_Act h).1)
theorem ix_day (h : lok x) (kk : ∀ a x', lok x' → x'.1 4 = 0 → x'.1 2 = x.1 2 → K [pI a] x') : sX2_day x K := by
  refine ⟨h, ?_⟩
  obtain ⟨l, e4, e2⟩ := ql_S4 h
  have q : Ql (setS x 4 0) (fDay x).2 := by
    unfold fDay fDy1
    split
    · exact Ql.self l
    · unfold fDy3
      have q1 := dyL_ok (x.1 4) 80 0 0 _ l
      exact q1.trans (ql_2 q1.1)
  exact kk _ _ q.1 (q.2.1.trans e4) (q.2.2.trans e2)
end FF
end
-- 9894.ma
section
/-! ===== sources and inputs: what melting and rising leave alone in the class ===== -/
def wF4 (w w' : WS) : Prop := (∀ k, k ≠ 4 → k ≠ 5 → k ≠ 9 → w'.1 k = w.1 k) ∧ w'.2 0 = w.2 0 ∧ w'.2 4 = w.2 4
theorem wF4.same {w : WS} : wF4 w w := ⟨fun _ _ _ _ => rfl, rfl, rfl⟩
theorem wF4.trans {a b c : WS} (h : wF4 a b) (g : wF4 b c) : wF4 a c := ⟨fun k p q r => (g.1 k p q r).trans (h.1 k p q r), g.2.1.trans h.2.1, g.2.2.trans h.2.2⟩
theorem wF4_T {w : WS} {t : Nat} {b : TS} (h0 : Nat.beq 0 t = false) (h4 : Nat.beq 4 t = false) : wF4 w (setT w t b) := by
  refine ⟨fun _ _ _ _ => rfl, ?_, ?_⟩
  · show (bif Nat.beq 0 t then b else w.2 0) = w.2 0
    rw [h0]; rfl
  · show (bif Nat.beq 4 t then b else w.2 4) = w.2 4
    rw [h4]; rfl
theorem wF4_F {w : WS} {k : Nat} {v : Int} (h : k = 4 ∨ k = 5 ∨ k = 9) : wF4 w (wFd w k v) := by
  refine ⟨fun j p q r => ?_, rfl, rfl⟩
  show (bif Nat.beq j k then v else w.1 j) = w.1 j
  have : Nat.beq j k = false := by
    cases e : Nat.beq j k with
    | false => rfl
    | true => exact absurd (Nat.eq_of_beq_eq_true e) (by omega)
  rw [this]; rfl
theorem wF4_Send {w : WS} {k i : Int} : wF4 w (wSend w k i) :=
  ((((((((wF4_T rfl rfl).trans (wF4_T rfl rfl)).trans (wF4_T rfl rfl)).trans (wF4_T rfl rfl)).trans (wF4_T rfl rfl)).trans (wF4_T rfl rfl)).trans (wF4_T rfl rfl)).trans (wF4_T rfl rfl)).trans (wF4_F (Or.inl rfl))
theorem wF4_Take {w : WS} {i : Int} : wF4 w (wTake w i) := by
  unfold wTake
  split
  · exact wF4_Send.trans (wF4_T rfl rfl)
  · exact wF4.same
theorem wF4_Ann {w : WS} {k i : Int} : wF4 w (wAnn w k i) := wF4_Send.trans (wF4_T rfl rfl)
theorem wF4_Swallow {w : WS} {i : Int} : wF4 w (wSwallow w i) :=
  (((((wF4_T rfl rfl).trans (wF4_T rfl rfl)).trans (wF4_T rfl rfl)).trans (wF4_T rfl rfl)).trans (wF4_T rfl rfl)).trans (wF4_T rfl rfl)
theorem wF4_Fin {w : WS} {i : Int} : wF4 w (wFin w i) :=
  (((((((wF4_T rfl rfl).trans (wF4_T rfl rfl)).trans (wF4_T rfl rfl)).trans (wF4_T rfl rfl)).trans (wF4_T rfl rfl)).trans (wF4_T rfl rfl)).trans (wF4_F (Or.inr (Or.inl rfl)))).trans (wF4_T rfl rfl)
theorem wF4_takeL : ∀ (n : Nat) (i : Int) (w : WS), wF4 w (takeL n i w)
  | 0, _, _ => wF4.same
  | n + 1, i, w => wF4_Take.trans (wF4_takeL n (i + 1) _)
theorem wF4_swL (p : Int) : ∀ (n : Nat) (w : WS), wF4 w (swL p n w)
  | 0, _ => wF4.same
  | n + 1, w => wF4_Swallow.trans (wF4_swL p n _)
theorem wF4_MeltE {w : WS} {p m : Int} : wF4 w (wMeltE w p m) := by
  have key : ∀ x : WS, wF4 w x → wF4 w (if 0 ≤ wKind x p then wAnn x (wKind x p) p else x) := by
    intro x hx
    split
    · exact hx.trans wF4_Ann
    · exact hx
  exact key _ (wF4_F (Or.inr (Or.inr rfl)))
theorem wF4_Row {w : WS} {p k t v : Int} : wF4 w (wRow w p k t v) :=
  (((((((wF4_T rfl rfl).trans (wF4_T rfl rfl)).trans (wF4_T rfl rfl)).trans (wF4_T rfl rfl)).trans (wF4_T rfl rfl)).trans (wF4_T rfl rfl)).trans (wF4_T rfl rfl)).trans (wF4_T rfl rfl)
theorem wF4_Melt {w : WS} {k t v : Int} : wF4 w (wMelt w k t v) := by
  unfold wMelt
  refine wF4.trans (wF4_takeL (wMany w (wFirst w k t) k t).toNat (wPl w k t) w) ?_
  unfold wMelt2
  split
  · exact (wF4_Row.trans (wF4_swL _ _ _)).trans wF4_MeltE
  · exact wF4.same
theorem wF4_Step {w : WS} {be i : Int} : wF4 w (wStep w be i) := by
  have key : ∀ x : WS, wF4 x (if wOver x i (x.1 3) then wFin x i else x) := by
    intro x
    split
    · exact wF4_Fin
    · exact wF4.same
  refine wF4.trans ?_ (key _)
  split
  · exact wF4.same
  · exact wF4_Take.trans wF4_Ann
theorem wF4_riseL (be : Int) : ∀ (n : Nat) (pa : Int) (w : WS), wF4 w (riseL be n pa w)
  | 0, _, _ => wF4.same
  | n + 1, pa, w => by
    rw [riseL]
    split
    · exact wF4.same
    · exact wF4_Step.trans (wF4_riseL be n _ _)
/-! ===== a desk's cells as a row of numbers ===== -/
def up1 (g : Int → Int) (c v : Int) : Int → Int := fun x => if x = c then v else g x
def in1 (g : Int → Int) (c v : Int) : Int → Int := up1 g c (wI (g c + v))
theorem up1_eq {g : Int → Int} {c v : Int} : up1 g c v c = v := if_pos rfl
theorem up1_ne {g : Int → Int} {c v x : Int} (h : x ≠ c) : up1 g c v x = g x := if_neg h
theorem up1_id (g : Int → Int) (c : Int) : up1 g c (g c) = g := by
  funext x
  unfold up1
  split
  · rename_i h; rw [h]
  · rfl
theorem in1_comm {g : Int → Int} {x y a b : Int} (h : x ≠ y) : in1 (in1 g x a) y b = in1 (in1 g y b) x a := by
  funext z
  unfold in1
  rw [up1_ne (c := x) (x := y) (fun e => h e.symm), up1_ne (c := y) (x := x) h]
  by_cases c1 : z = x
  · subst c1
    rw [up1_ne h, up1_eq, up1_eq]
  · by_cases c2 : z = y
    · subst c2
      rw [up1_eq, up1_ne c1, up1_eq]
    · rw [up1_ne c2, up1_ne c1, up1_ne c1, up1_ne c2]
def hw1 (g : Int → Int) (t : Int) : Int := if t < wI (g 4 - g 2) then 2 else if t < g 4 then 1 else 0
def lm1 (g : Int → Int) : Nat → Int → Int → Int
  | 0, _, l => l
  | n + 1, r, l => lm1 g n (r + 1) (if g (20 + r) = 0 ∧ (l < 0 ∨ g (12 + r) < l) then g (12 + r) else l)
def ls1 (g : Int → Int) : Int := lm1 g (g 0).toNat 0 (-1)
def ri1 (g : Int → Int) : Int → Int := up1 g 4 (max (g 4) (ls1 g))
def ra1 (g : Int → Int) (r t : Int) : Int → Int := up1 g (12 + r) (max (g (12 + r)) t)
def fa1 (g : Int → Int) (h r : Int) : Int → Int := if h = 2 then in1 (in1 g 10 1) (28 + r) 1 else in1 (in1 g 8 1) 9 h
def pE1 (g : Int → Int) (t r : Int) : Int → Int :=
  let g3 := up1 (fa1 (in1 g (24 + r) 1) (hw1 g t) r) (20 + r) 0
  ri1 (ra1 g3 r (wI (t - g3 (16 + r))))
def pM1 (g : Int → Int) (t r : Int) : Int → Int := ri1 (up1 g (12 + r) t)
def pI1 (g : Int → Int) (r : Int) : Int → Int := ri1 (up1 g (20 + r) 1)
/-- an input noted -/
def nt1 (g : Int → Int) (a r t k v b : Int) : Int → Int :=
  in1 (up1 (up1 (up1 (up1 (up1 (up1 g (1844 + 6 * g 6 + 0) a) (1844 + 6 * g 6 + 1) r) (1844 + 6 * g 6 + 2) t) (1844 + 6 * g 6 + 3) k) (1844 + 6 * g 6 + 4) v) (1844 + 6 * g 6 + 5) b) 6 1
theorem lm1_cong {g g' : Int → Int} : ∀ (n : Nat) (r l : Int), 0 ≤ r → r + n ≤ 4 → (∀ c, (12 ≤ c ∧ c < 16) ∨ (20 ≤ c ∧ c < 24) → g' c = g c) → lm1 g' n r l = lm1 g n r l
  | 0, _, _, _, _, _ => rfl
  | n + 1, r, l, h0, h1, e => by
    rw [lm1, lm1, e (20 + r) (by omega), e (12 + r) (by omega)]
    exact lm1_cong n (r + 1) _ (by omega) (by omega) e
/-! ===== the class's sources, and those of a desk ===== -/
def rS (w : WS) (g : Int → Int) : Prop := (w.1 0 = g 1 ∧ w.1 1 = g 2 ∧ w.1 2 = g 3 ∧ w.1 3 = g 4) ∧ (w.1 6 = g 8 ∧ w.1 7 = g 9 ∧ w.1 8 = g 10) ∧ (wZ w 0 = g 0 ∧ 1 ≤ g 0 ∧ g 0 ≤ 4) ∧ ∀ r c, 0 ≤ r → r < g 0 → 0 ≤ c → c < 5 → wG w 0 r c = g (12 + 4 * c + r)
theorem rS.F {w w' : WS} {g : Int → Int} (h : rS w g) (f : wF4 w w') : rS w' g := by
  obtain ⟨⟨a0, a1, a2, a3⟩, ⟨b6, b7, b8⟩, ⟨z, z1, z2⟩, s⟩ := h
  refine ⟨⟨?_, ?_, ?_, ?_⟩, ⟨?_, ?_, ?_⟩, ⟨?_, z1, z2⟩, fun r c r0 r1 c0 c1 => ?_⟩
  · rw [f.1 0 (by decide) (by decide) (by decide)]; exact a0
  · rw [f.1 1 (by decide) (by decide) (by decide)]; exact a1
  · rw [f.1 2 (by decide) (by decide) (by decide)]; exact a2
  · rw [f.1 3 (by decide) (by decide) (by decide)]; exact a3
  · rw [f.1 6 (by decide) (by decide) (by decide)]; exact b6
  · rw [f.1 7 (by decide) (by decide) (by decide)]; exact b7
  · rw [f.1 8 (by decide) (by decide) (by decide)]; exact b8
  · unfold wZ at z ⊢; rw [f.2.1]; exact z
  · have := s r c r0 r1 c0 c1
    unfold wG at this ⊢; rw [f.2.1]; exact this
theorem rS.cong {w : WS} {g g' : Int → Int} (h : rS w g) (e : ∀ c, 0 ≤ c → c < 32 → c ≠ 5 → c ≠ 6 → c ≠ 7 → c ≠ 11 → g' c = g c) : rS w g' := by
  obtain ⟨⟨a0, a1, a2, a3⟩, ⟨b6, b7, b8⟩, ⟨z, z1, z2⟩, s⟩ := h
  have e0 := e 0 (by decide) (by decide) (by decide) (by decide) (by decide) (by decide)
  refine ⟨⟨?_, ?_, ?_, ?_⟩, ⟨?_, ?_, ?_⟩, ⟨by rw [e0]; exact z, by rw [e0]; exact z1, by rw [e0]; exact z2⟩, fun r c r0 r1 c0 c1 => ?_⟩
  · rw [e 1 (by decide) (by decide) (by decide) (by decide) (by decide) (by decide)]; exact a0
  · rw [e 2 (by decide) (by decide) (by decide) (by decide) (by decide) (by decide)]; exact a1
  · rw [e 3 (by decide) (by decide) (by decide) (by decide) (by decide) (by decide)]; exact a2
  · rw [e 4 (by decide) (by decide) (by decide) (by decide) (by decide) (by decide)]; exact a3
  · rw [e 8 (by decide) (by decide) (by decide) (by decide) (by decide) (by decide)]; exact b6
  · rw [e 9 (by decide) (by decide) (by decide) (by decide) (by decide) (by decide)]; exact b7
  · rw [e 10 (by decide) (by decide) (by decide) (by decide) (by decide) (by decide)]; exact b8
  · rw [e0] at r1
    rw [e _ (by omega) (by omega) (by omega) (by omega) (by omega) (by omega)]
    exact s r c r0 r1 c0 c1
theorem p0_eq {w : WS} {r c v : Int} (hr : 0 ≤ r ∧ r < 4) (hc : 0 ≤ c ∧ c < 5) : wG (wP w 0 r c v) 0 r c = v := by
  show tg 4 5 (ts 4 5 (w.2 0).2 r c v) r c = v
  unfold tg ts
  rw [if_pos ⟨hr.1, hr.2, hc.1, hc.2⟩, if_pos ⟨hr.1, hr.2, hc.1, hc.2⟩]
  exact if_pos rfl
theorem p0_ne {w : WS} {r c v r' c' : Int} (h : r' ≠ r ∨ c' ≠ c) : wG (wP w 0 r c v) 0 r' c' = wG w 0 r' c' := by
  show tg 4 5 (ts 4 5 (w.2 0).2 r c v) r' c' = tg 4 5 (w.2 0).2 r' c'
  unfold tg ts
  split
  · split
    · exact if_neg (by omega)
    · rfl
  · rfl
theorem rS.src {w : WS} {g : Int → Int} {r c v : Int} (h : rS w g) (r0 : 0 ≤ r) (r1 : r < g 0) (c0 : 0 ≤ c) (c1 : c < 5) : rS (wP w 0 r c v) (up1 g (12 + 4 * c + r) v) := by
  obtain ⟨⟨a0, a1, a2, a3⟩, ⟨b6, b7, b8⟩, ⟨z, z1, z2⟩, s⟩ := h
  have e : ∀ x, x < 12 → up1 g (12 + 4 * c + r) v x = g x := fun x hx => up1_ne (by omega)
  refine ⟨⟨?_, ?_, ?_, ?_⟩, ⟨?_, ?_, ?_⟩, ⟨by rw [e 0 (by decide)]; exact z, by rw [e 0 (by decide)]; exact z1, by rw [e 0 (by decide)]; exact z2⟩, fun r' c' p0 p1 q0 q1 => ?_⟩
  · rw [e 1 (by decide)]; exact a0
  · rw [e 2 (by decide)]; exact a1
  · rw [e 3 (by decide)]; exact a2
  · rw [e 4 (by decide)]; exact a3
  · rw [e 8 (by decide)]; exact b6
  · rw [e 9 (by decide)]; exact b7
  · rw [e 10 (by decide)]; exact b8
  · rw [e 0 (by decide)] at p1
    by_cases q : r' = r ∧ c' = c
    · obtain ⟨rfl, rfl⟩ := q
      rw [p0_eq ⟨r0, by omega⟩ ⟨c0, c1⟩, up1_eq]
    · rw [p0_ne (by omega), up1_ne (by omega)]
      exact s r' c' p0 p1 q0 q1
theorem rS.srcA {w : WS} {g : Int → Int} {r c v : Int} (h : rS w g) (r0 : 0 ≤ r) (r1 : r < g 0) (c0 : 0 ≤ c) (c1 : c < 5) : rS (wA w 0 r c v) (in1 g (12 + 4 * c + r) v) := by
  have := h.src (v := wI (wG w 0 r c + v)) r0 r1 c0 c1
  unfold wA in1
  rw [← h.2.2.2 r c r0 r1 c0 c1]
  exact this
theorem rS.f6 {w : WS} {g : Int → Int} {v : Int} (h : rS w g) : rS (wFd w 6 v) (up1 g 8 v) := ⟨h.1, ⟨rfl, h.2.1.2.1, h.2.1.2.2⟩, h.2.2.1, fun r c r0 r1 c0 c1 => by
  have r1 : r < g 0 := r1
  have := h.2.2.1
  rw [up1_ne (by omega)]
  exact h.2.2.2 r c r0 r1 c0 c1⟩
theorem rS.f7 {w : WS} {g : Int → Int} {v : Int} (h : rS w g) : rS (wFd w 7 v) (up1 g 9 v) := ⟨h.1, ⟨h.2.1.1, rfl, h.2.1.2.2⟩, h.2.2.1, fun r c r0 r1 c0 c1 => by
  have r1 : r < g 0 := r1
  have := h.2.2.1
  rw [up1_ne (by omega)]
  exact h.2.2.2 r c r0 r1 c0 c1⟩
theorem rS.f8 {w : WS} {g : Int → Int} {v : Int} (h : rS w g) : rS (wFd w 8 v) (up1 g 10 v) := ⟨h.1, ⟨h.2.1.1, h.2.1.2.1, rfl⟩, h.2.2.1, fun r c r0 r1 c0 c1 => by
  have r1 : r < g 0 := r1
  have := h.2.2.1
  rw [up1_ne (by omega)]
  exact h.2.2.2 r c r0 r1 c0 c1⟩
theorem rS.f3 {w : WS} {g : Int → Int} {v : Int} (h : rS w g) : rS (wFd w 3 v) (up1 g 4 v) := ⟨⟨h.1.1, h.1.2.1, h.1.2.2.1, rfl⟩, h.2.1, h.2.2.1, fun r c r0 r1 c0 c1 => by
  have r1 : r < g 0 := r1
  have := h.2.2.1
  rw [up1_ne (by omega)]
  exact h.2.2.2 r c r0 r1 c0 c1⟩
theorem lm_eq {w : WS} {g : Int → Int} (h : rS w g) : ∀ (n : Nat) (r l : Int), 0 ≤ r → r + n ≤ g 0 → lmL w (-1) n r l = lm1 g n r l
  | 0, _, _, _, _ => rfl
  | n + 1, r, l, h0, h1 => by
    rw [lmL, lm1, lm_eq h n (r + 1) _ (by omega) (by omega)]
    have e2 := h.2.2.2 r 2 h0 (by omega) (by decide) (by decide)
    have e0 := h.2.2.2 r 0 h0 (by omega) (by decide) (by decide)
    rw [show 12 + 4 * 2 + r = 20 + r by omega] at e2
    rw [show 12 + 4 * 0 + r = 12 + r by omega] at e0
    rw [e2, e0]
    congr 1
    by_cases c : g (20 + r) = 0
    · rw [if_neg (by omega)]
      by_cases c1 : l < 0
      · rw [if_pos c1, if_pos ⟨c, Or.inl c1⟩]
      · rw [if_neg c1]
        by_cases c2 : g (12 + r) < l
        · rw [if_pos ⟨c, Or.inr c2⟩]; omega
        · rw [if_neg (by omega)]; omega
    · rw [if_pos (Or.inr c), if_neg (fun q => c q.1)]
theorem rS.least {w : WS} {g : Int → Int} (h : rS w g) : wLeast w (-1) = ls1 g := by
  unfold wLeast ls1
  rw [h.2.2.1.1]
  exact lm_eq h _ 0 (-1) (by decide) (by have := h.2.2.1; omega)
theorem rS.rise {w : WS} {g : Int → Int} (h : rS w g) : rS (wRise w) (ri1 g) := by
  unfold wRise ri1
  rw [h.least, h.1.2.2.2]
  split
  · rename_i c
    rw [show max (g 4) (ls1 g) = g 4 by omega, up1_id]
    exact h
  · rename_i c
    rw [show max (g 4) (ls1 g) = ls1 g by omega]
    exact h.f3.F (wF4_riseL _ _ _ _)
theorem rS.raise {w : WS} {g : Int → Int} {r t : Int} (h : rS w g) (r0 : 0 ≤ r) (r1 : r < g 0) : rS (wRaise w r t) (ra1 g r t) := by
  have e0 := h.2.2.2 r 0 r0 r1 (by decide) (by decide)
  rw [show 12 + 4 * 0 + r = 12 + r by omega] at e0
  unfold wRaise ra1
  rw [e0]
  split
  · rename_i c
    have := h.src (v := t) r0 r1 (c := 0) (by decide) (by decide)
    rw [show 12 + 4 * 0 + r = 12 + r by omega] at this
    rw [show max (g (12 + r)) t = t by omega]
    exact this
  · rw [show max (g (12 + r)) t = g (12 + r) by omega, up1_id]
    exact h
theorem rS.fate {w : WS} {g : Int → Int} (h : rS w g) (t : Int) : wFate w t = hw1 g t := by
  unfold wFate hw1
  rw [h.1.2.2.2, h.1.2.1]
theorem hw1_b (g : Int → Int) (t : Int) : hw1 g t = 0 ∨ hw1 g t = 1 ∨ hw1 g t = 2 := by
  unfold hw1
  repeat' split
  all_goals omega
theorem rS.playE {w : WS} {g : Int → Int} {k t v r : Int} (h : rS w g) (r0 : 0 ≤ r) (r1 : r < g 0) : rS (wPlayE w k t v r) (pE1 g t r) := by
  have hz := h.2.2.1
  have a := h.srcA (v := 1) r0 r1 (c := 3) (by decide) (by decide)
  rw [show 12 + 4 * 3 + r = 24 + r by omega] at a
  have g0 : in1 g (24 + r) 1 0 = g 0 := up1_ne (by omega)
  have b := hw1_b g t
  unfold wPlayE pE1
  dsimp only
  rw [h.fate t]
  have key : ∀ u, rS u (fa1 (in1 g (24 + r) 1) (hw1 g t) r) → fa1 (in1 g (24 + r) 1) (hw1 g t) r 0 = g 0 → rS (wRise (wRaise (wP u 0 r 2 0) r (wI (t - wG (wP u 0 r 2 0) 0 r 1)))) (ri1 (ra1 (up1 (fa1 (in1 g (24 + r) 1) (hw1 g t) r) (20 + r) 0) r (wI (t - (up1 (fa1 (in1 g (24 + r) 1) (hw1 g t) r) (20 + r) 0) (16 + r))))) := by
    intro u hu e0
    generalize fa1 (in1 g (24 + r) 1) (hw1 g t) r = q at hu e0
    have c := hu.src (v := 0) r0 (by rw [e0]; exact r1) (c := 2) (by decide) (by decide)
    rw [show 12 + 4 * 2 + r = 20 + r by omega] at c
    have e1 : up1 q (20 + r) 0 0 = g 0 := (up1_ne (by omega)).trans e0
    have d := c.2.2.2 r 1 r0 (by rw [e1]; exact r1) (by decide) (by decide)
    rw [show 12 + 4 * 1 + r = 16 + r by omega] at d
    rw [d]
    exact (c.raise r0 (by rw [e1]; exact r1)).rise
  refine key _ ?_ ?_
  · by_cases c2 : hw1 g t = 2
    · rw [if_pos c2]
      unfold fa1
      rw [if_pos c2]
      have f := a.f8 (v := wI ((wA w 0 r 3 1).1 8 + 1))
      rw [a.2.1.2.2] at f ⊢
      have e : up1 (in1 g (24 + r) 1) 10 (wI (in1 g (24 + r) 1 10 + 1)) 0 = g 0 := (up1_ne (by decide)).trans g0
      have f2 := f.srcA (v := 1) r0 (by rw [e]; exact r1) (c := 4) (by decide) (by decide)
      rw [show 12 + 4 * 4 + r = 28 + r by omega] at f2
      exact f2
    · rw [if_neg c2]
      unfold fa1
      rw [if_neg c2]
      refine rS.F ?_ wF4_Melt
      have f := a.f6 (v := wI ((wA w 0 r 3 1).1 6 + 1))
      have f2 := f.f7 (v := wI ((wA w 0 r 3 1).1 7 + (if hw1 g t = 1 then 1 else 0)))
      rw [a.2.1.1, a.2.1.2.1] at f2
      have e7 : in1 (in1 g (24 + r) 1) 8 1 9 = in1 g (24 + r) 1 9 := up1_ne (by decide)
      have e1 : (if hw1 g t = 1 then (1 : Int) else 0) = hw1 g t := by
        split <;> omega
      rw [e1] at f2 ⊢
      have e2 : in1 (in1 (in1 g (24 + r) 1) 8 1) 9 (hw1 g t) = up1 (in1 (in1 g (24 + r) 1) 8 1) 9 (wI (in1 g (24 + r) 1 9 + hw1 g t)) := by
        conv => lhs; unfold in1
        rw [show up1 (up1 g (24 + r) (wI (g (24 + r) + 1))) 8 (wI (up1 g (24 + r) (wI (g (24 + r) + 1)) 8 + 1)) 9 = in1 g (24 + r) 1 9 from e7]
        rfl
      rw [e2, a.2.1.1, a.2.1.2.1]
      exact f2
  · unfold fa1
    split
    · exact ((up1_ne (by omega)).trans (up1_ne (by decide))).trans g0
    · exact ((up1_ne (by decide)).trans (up1_ne (by decide))).trans g0
end
-- 9895.mb
section
/-! ===== a table's inputs, and those of a desk ===== -/
theorem rS.rows {w w' : WS} {g : Int → Int} (h : rS w g) (f : ∀ k, k < 10 → w'.1 k = w.1 k) (z' : wZ w' 0 = wZ w 0) (e : ∀ r c, 0 ≤ r → r < wZ w 0 → 0 ≤ c → c < 5 → wG w' 0 r c = wG w 0 r c) : rS w' g := by
  obtain ⟨⟨a0, a1, a2, a3⟩, ⟨b6, b7, b8⟩, ⟨z, z1, z2⟩, s⟩ := h
  refine ⟨⟨?_, ?_, ?_, ?_⟩, ⟨?_, ?_, ?_⟩, ⟨by rw [z']; exact z, z1, z2⟩, fun r c r0 r1 c0 c1 => ?_⟩
  · rw [f 0 (by decide)]; exact a0
  · rw [f 1 (by decide)]; exact a1
  · rw [f 2 (by decide)]; exact a2
  · rw [f 3 (by decide)]; exact a3
  · rw [f 6 (by decide)]; exact b6
  · rw [f 7 (by decide)]; exact b7
  · rw [f 8 (by decide)]; exact b8
  · rw [e r c r0 (by omega) c0 c1]
    exact s r c r0 r1 c0 c1
theorem rS.of {w w' : WS} {g : Int → Int} (h : rS w g) (f : ∀ k, w'.1 k = w.1 k) (e : w'.2 0 = w.2 0) : rS w' g :=
  h.rows (fun k _ => f k) (by unfold wZ; rw [e]) (fun r c _ _ _ _ => by unfold wG; rw [e])
theorem p4_eq {w : WS} {r c v : Int} (hr : 0 ≤ r ∧ r < 160) (hc : 0 ≤ c ∧ c < 7) : wG (wP w 4 r c v) 4 r c = v := by
  show tg 160 7 (ts 160 7 (w.2 4).2 r c v) r c = v
  unfold tg ts
  rw [if_pos ⟨hr.1, hr.2, hc.1, hc.2⟩, if_pos ⟨hr.1, hr.2, hc.1, hc.2⟩]
  exact if_pos rfl
theorem p4_ne {w : WS} {r c v r' c' : Int} (h : r' ≠ r ∨ c' ≠ c) : wG (wP w 4 r c v) 4 r' c' = wG w 4 r' c' := by
  show tg 160 7 (ts 160 7 (w.2 4).2 r c v) r' c' = tg 160 7 (w.2 4).2 r' c'
  unfold tg ts
  split
  · split
    · exact if_neg (by omega)
    · rfl
  · rfl
theorem op4_ne {w : WS} {i c : Int} (h0 : 0 ≤ wZ w 4) (h : i ≠ wZ w 4) : wG (wOp w 4 (wZ w 4)) 4 i c = wG w 4 i c := by
  show tg 160 7 (topen 7 (w.2 4).2 (wZ w 4) (wZ w 4)) i c = tg 160 7 (w.2 4).2 i c
  generalize wZ w 4 = z at h0 h
  unfold tg topen xcp
  split
  · rw [if_neg (by omega), if_neg (by omega)]
  · rfl
theorem op4_eq {w : WS} {c : Int} (h0 : 0 ≤ wZ w 4) (hc : 0 ≤ c ∧ c < 7) : wG (wOp w 4 (wZ w 4)) 4 (wZ w 4) c = 0 := by
  show tg 160 7 (topen 7 (w.2 4).2 (wZ w 4) (wZ w 4)) (wZ w 4) c = 0
  generalize wZ w 4 = z at h0
  unfold tg topen
  split
  · rw [if_pos (by omega)]
  · rfl
theorem note_e {w : WS} {a r t : Int} (h : 0 ≤ wZ w 4 ∧ wZ w 4 < 160) : wNote w a r t = wP (wP (wP (wP (wP (wOp w 4 (wZ w 4)) 4 (wZ w 4) 0 a) 4 (wZ w 4) 1 r) 4 (wZ w 4) 2 t) 4 (wZ w 4) 3 (-1)) 4 (wZ w 4) 5 (-1) := if_pos h
theorem note_z {w : WS} {a r t : Int} (h : 0 ≤ wZ w 4 ∧ wZ w 4 < 160) : wZ (wNote w a r t) 4 = wZ w 4 + 1 := by
  rw [note_e h]; rfl
theorem note_f {w : WS} {a r t : Int} : (∀ k, (wNote w a r t).1 k = w.1 k) ∧ (wNote w a r t).2 0 = w.2 0 := by
  unfold wNote
  split
  · exact ⟨fun _ => rfl, rfl⟩
  · exact ⟨fun _ => rfl, rfl⟩
theorem note_o {w : WS} {a r t i c : Int} (h : 0 ≤ wZ w 4 ∧ wZ w 4 < 160) (hi : i ≠ wZ w 4) : wG (wNote w a r t) 4 i c = wG w 4 i c := by
  rw [note_e h, p4_ne (Or.inl hi), p4_ne (Or.inl hi), p4_ne (Or.inl hi), p4_ne (Or.inl hi), p4_ne (Or.inl hi), op4_ne h.1 hi]
theorem note_w {w : WS} {a r t : Int} (h : 0 ≤ wZ w 4 ∧ wZ w 4 < 160) : wG (wNote w a r t) 4 (wZ w 4) 0 = a ∧ wG (wNote w a r t) 4 (wZ w 4) 1 = r ∧ wG (wNote w a r t) 4 (wZ w 4) 2 = t ∧ wG (wNote w a r t) 4 (wZ w 4) 3 = -1 ∧ wG (wNote w a r t) 4 (wZ w 4) 5 = -1 ∧ wG (wNote w a r t) 4 (wZ w 4) 6 = 0 := by
  rw [note_e h]
  refine ⟨?_, ?_, ?_, ?_, ?_, ?_⟩
  · rw [p4_ne (Or.inr (by decide)), p4_ne (Or.inr (by decide)), p4_ne (Or.inr (by decide)), p4_ne (Or.inr (by decide)), p4_eq h (by decide)]
  · rw [p4_ne (Or.inr (by decide)), p4_ne (Or.inr (by decide)), p4_ne (Or.inr (by decide)), p4_eq h (by decide)]
  · rw [p4_ne (Or.inr (by decide)), p4_ne (Or.inr (by decide)), p4_eq h (by decide)]
  · rw [p4_ne (Or.inr (by decide)), p4_eq h (by decide)]
  · rw [p4_eq h (by decide)]
  · rw [p4_ne (Or.inr (by decide)), p4_ne (Or.inr (by decide)), p4_ne (Or.inr (by decide)), p4_ne (Or.inr (by decide)), p4_ne (Or.inr (by decide)), op4_eq h.1 (by decide)]
/-! what playing leaves alone: the table of inputs -/
theorem f4_Raise {w : WS} {r t : Int} : (wRaise w r t).2 4 = w.2 4 := by
  unfold wRaise
  split <;> rfl
theorem f4_Rise {w : WS} : (wRise w).2 4 = w.2 4 := by
  unfold wRise
  split
  · rfl
  · exact (wF4_riseL _ _ _ _).2.2
theorem f4_PlayE {w : WS} {k t v r : Int} : (wPlayE w k t v r).2 4 = w.2 4 := by
  unfold wPlayE
  dsimp only
  rw [f4_Rise, f4_Raise]
  split
  · rfl
  · exact wF4_Melt.2.2
theorem f4_PlayM {w : WS} {r t : Int} : (wPlayM w r t).2 4 = w.2 4 := by
  unfold wPlayM
  rw [f4_Rise, f4_Raise]
theorem f4_PlayI {w : WS} {r : Int} : (wPlayI w r).2 4 = w.2 4 := by
  unfold wPlayI
  rw [f4_Rise]
  rfl
theorem g4_of {w w' : WS} (e : w'.2 4 = w.2 4) (i c : Int) : wG w' 4 i c = wG w 4 i c := by
  unfold wG; rw [e]
theorem z4_of {w w' : WS} (e : w'.2 4 = w.2 4) : wZ w' 4 = wZ w 4 := by
  unfold wZ; rw [e]
/-! the relation's rows -/
def rRow (w : WS) (g : Int → Int) (i : Int) : Prop := (wG w 4 i 0 = g (1844 + 6 * i + 0) ∧ wG w 4 i 1 = g (1844 + 6 * i + 1) ∧ wG w 4 i 2 = g (1844 + 6 * i + 2) ∧ wG w 4 i 3 = g (1844 + 6 * i + 3)) ∧ (0 ≤ g (1844 + 6 * i + 1) ∧ g (1844 + 6 * i + 1) < g 0) ∧ ((g (1844 + 6 * i + 0) = 0 ∧ wG w 4 i 4 = g (1844 + 6 * i + 4) ∧ (0 ≤ g (1844 + 6 * i + 2) ∧ g (1844 + 6 * i + 2) ≤ 9999) ∧ (0 ≤ g (1844 + 6 * i + 3) ∧ g (1844 + 6 * i + 3) ≤ 5) ∧ ((wG w 4 i 5 = 2 ∧ g (1844 + 6 * i + 5) = 0) ∨ ((wG w 4 i 5 = 0 ∨ wG w 4 i 5 = 1) ∧ g (1844 + 6 * i + 5) = 1))) ∨ ((g (1844 + 6 * i + 0) = 1 ∨ g (1844 + 6 * i + 0) = 2) ∧ (0 ≤ g (1844 + 6 * i + 2) ∧ g (1844 + 6 * i + 2) ≤ 20000) ∧ g (1844 + 6 * i + 3) = -1 ∧ wG w 4 i 5 = -1 ∧ g (1844 + 6 * i + 5) = 0))
def rI (w : WS) (g : Int → Int) : Prop := (wZ w 4 = g 6 ∧ 0 ≤ g 6 ∧ g 6 ≤ 160) ∧ ∀ i, 0 ≤ i → i < g 6 → rRow w g i
theorem rRow.of {w w' : WS} {g g' : Int → Int} {i : Int} (h : rRow w g i) (h0 : g' 0 = g 0) (e : ∀ c, 0 ≤ c → c < 7 → wG w' 4 i c = wG w 4 i c) (eg : ∀ q, 0 ≤ q → q < 6 → g' (1844 + 6 * i + q) = g (1844 + 6 * i + q)) : rRow w' g' i := by
  unfold rRow at h ⊢
  rw [e 0 (by decide) (by decide), e 1 (by decide) (by decide), e 2 (by decide) (by decide), e 3 (by decide) (by decide), e 4 (by decide) (by decide), e 5 (by decide) (by decide), eg 0 (by decide) (by decide), eg 1 (by decide) (by decide), eg 2 (by decide) (by decide), eg 3 (by decide) (by decide), eg 4 (by decide) (by decide), eg 5 (by decide) (by decide), h0]
  exact h
theorem rI.of {w w' : WS} {g g' : Int → Int} (h : rI w g) (z : wZ w' 4 = wZ w 4) (e : ∀ i c, 0 ≤ i → i < wZ w 4 → 0 ≤ c → c < 7 → wG w' 4 i c = wG w 4 i c) (h0 : g' 0 = g 0) (h6 : g' 6 = g 6) (eg : ∀ c, 1844 ≤ c → c < 2804 → g' c = g c) : rI w' g' := by
  have hz := h.1.1
  have hb := h.1.2.2
  refine ⟨by rw [z, h6]; exact h.1, fun i i0 i1 => ?_⟩
  rw [h6] at i1
  exact (h.2 i i0 i1).of h0 (fun c c0 c1 => e i c i0 (by omega) c0 c1) (fun q q0 q1 => eg _ (by omega) (by omega))
theorem nt1_ne {g : Int → Int} {a r t k v b c : Int} (h6 : c ≠ 6) (h : c < 1844 + 6 * g 6 ∨ 1850 + 6 * g 6 ≤ c) : nt1 g a r t k v b c = g c := by
  unfold nt1 in1
  rw [up1_ne h6, up1_ne (by omega), up1_ne (by omega), up1_ne (by omega), up1_ne (by omega), up1_ne (by omega), up1_ne (by omega)]
theorem nt1_6 {g : Int → Int} {a r t k v b : Int} (h0 : 0 ≤ g 6 ∧ g 6 ≤ 160) : nt1 g a r t k v b 6 = g 6 + 1 := by
  unfold nt1 in1
  rw [up1_eq, up1_ne (by omega), up1_ne (by omega), up1_ne (by omega), up1_ne (by omega), up1_ne (by omega), up1_ne (by omega), wI_id ⟨by omega, by omega⟩]
theorem nt1_at {g : Int → Int} {a r t k v b : Int} (h0 : 0 ≤ g 6) : nt1 g a r t k v b (1844 + 6 * g 6 + 0) = a ∧ nt1 g a r t k v b (1844 + 6 * g 6 + 1) = r ∧ nt1 g a r t k v b (1844 + 6 * g 6 + 2) = t ∧ nt1 g a r t k v b (1844 + 6 * g 6 + 3) = k ∧ nt1 g a r t k v b (1844 + 6 * g 6 + 4) = v ∧ nt1 g a r t k v b (1844 + 6 * g 6 + 5) = b := by
  unfold nt1 in1
  generalize g 6 = j at h0
  refine ⟨?_, ?_, ?_, ?_, ?_, ?_⟩
  · rw [up1_ne (by omega), up1_ne (by omega), up1_ne (by omega), up1_ne (by omega), up1_ne (by omega), up1_ne (by omega), up1_eq]
  · rw [up1_ne (by omega), up1_ne (by omega), up1_ne (by omega), up1_ne (by omega), up1_ne (by omega), up1_eq]
  · rw [up1_ne (by omega), up1_ne (by omega), up1_ne (by omega), up1_ne (by omega), up1_eq]
  · rw [up1_ne (by omega), up1_ne (by omega), up1_ne (by omega), up1_eq]
  · rw [up1_ne (by omega), up1_ne (by omega), up1_eq]
  · rw [up1_ne (by omega), up1_eq]
theorem rI.push {w w' : WS} {g : Int → Int} {a r t k v b : Int} (h : rI w g) (h6 : g 6 < 160) (z : wZ w' 4 = wZ w 4 + 1) (e : ∀ i c, i ≠ wZ w 4 → wG w' 4 i c = wG w 4 i c) (n1 : 1 ≤ g 0) (hr : 0 ≤ r ∧ r < g 0) (c0 : wG w' 4 (wZ w 4) 0 = a ∧ wG w' 4 (wZ w 4) 1 = r ∧ wG w' 4 (wZ w 4) 2 = t ∧ wG w' 4 (wZ w 4) 3 = k) (alt : (a = 0 ∧ wG w' 4 (wZ w 4) 4 = v ∧ (0 ≤ t ∧ t ≤ 9999) ∧ (0 ≤ k ∧ k ≤ 5) ∧ ((wG w' 4 (wZ w 4) 5 = 2 ∧ b = 0) ∨ ((wG w' 4 (wZ w 4) 5 = 0 ∨ wG w' 4 (wZ w 4) 5 = 1) ∧ b = 1))) ∨ ((a = 1 ∨ a = 2) ∧ (0 ≤ t ∧ t ≤ 20000) ∧ k = -1 ∧ wG w' 4 (wZ w 4) 5 = -1 ∧ b = 0)) : rI w' (nt1 g a r t k v b) := by
  obtain ⟨⟨hz, h60, h61⟩, hrow⟩ := h
  have q6 := nt1_6 (g := g) (a := a) (r := r) (t := t) (k := k) (v := v) (b := b) ⟨h60, h61⟩
  have q0 : nt1 g a r t k v b 0 = g 0 := nt1_ne (by decide) (by omega)
  refine ⟨by rw [q6, z, hz]; omega, fun i i0 i1 => ?_⟩
  rw [q6] at i1
  by_cases hi : i = g 6
  · subst hi
    rw [hz] at c0 alt
    obtain ⟨p0, p1, p2, p3, p4, p5⟩ := nt1_at (g := g) (a := a) (r := r) (t := t) (k := k) (v := v) (b := b) h60
    unfold rRow
    rw [p0, p1, p2, p3, p4, p5, q0]
    exact ⟨c0, hr, alt⟩
  · exact (hrow i i0 (by omega)).of q0 (fun c _ _ => e i c (by omega)) (fun q q0 q1 => nt1_ne (by omega) (by omega))
/-! bounds of a desk's numbers -/
def gB (g : Int → Int) : Prop := (1 ≤ g 1 ∧ g 1 ≤ 99) ∧ (0 ≤ g 2 ∧ g 2 ≤ 99) ∧ (0 ≤ g 3 ∧ g 3 ≤ 9) ∧ (0 ≤ g 4 ∧ g 4 ≤ 20000) ∧ ∀ r, 0 ≤ r → r < 4 → (0 ≤ g (12 + r) ∧ g (12 + r) ≤ 20000) ∧ (0 ≤ g (16 + r) ∧ g (16 + r) ≤ 999) ∧ (g (20 + r) = 0 ∨ g (20 + r) = 1)
def gA (g : Int → Int) : Prop := gB g ∧ ls1 g ≤ g 4
theorem gB.of {g g' : Int → Int} (h : gB g) (e : ∀ c, (1 ≤ c ∧ c < 5) ∨ (12 ≤ c ∧ c < 24) → g' c = g c) : gB g' := by
  obtain ⟨a, b, c, d, f⟩ := h
  refine ⟨by rw [e 1 (by decide)]; exact a, by rw [e 2 (by decide)]; exact b, by rw [e 3 (by decide)]; exact c, by rw [e 4 (by decide)]; exact d, fun r r0 r1 => ?_⟩
  rw [e (12 + r) (by omega), e (16 + r) (by omega), e (20 + r) (by omega)]
  exact f r r0 r1
theorem gB.u12 {g : Int → Int} (h : gB g) {r v : Int} (hr : 0 ≤ r ∧ r < 4) (hv : 0 ≤ v ∧ v ≤ 20000) : gB (up1 g (12 + r) v) := by
  obtain ⟨a, b, c, d, f⟩ := h
  refine ⟨by rw [up1_ne (by omega)]; exact a, by rw [up1_ne (by omega)]; exact b, by rw [up1_ne (by omega)]; exact c, by rw [up1_ne (by omega)]; exact d, fun q q0 q1 => ?_⟩
  rw [up1_ne (x := 16 + q) (by omega), up1_ne (x := 20 + q) (by omega)]
  refine ⟨?_, (f q q0 q1).2⟩
  by_cases e : q = r
  · subst e; rw [up1_eq]; exact hv
  · rw [up1_ne (by omega)]; exact (f q q0 q1).1
theorem gB.u16 {g : Int → Int} (h : gB g) {r v : Int} (hr : 0 ≤ r ∧ r < 4) (hv : 0 ≤ v ∧ v ≤ 999) : gB (up1 g (16 + r) v) := by
  obtain ⟨a, b, c, d, f⟩ := h
  refine ⟨by rw [up1_ne (by omega)]; exact a, by rw [up1_ne (by omega)]; exact b, by rw [up1_ne (by omega)]; exact c, by rw [up1_ne (by omega)]; exact d, fun q q0 q1 => ?_⟩
  rw [up1_ne (x := 12 + q) (by omega), up1_ne (x := 20 + q) (by omega)]
  refine ⟨(f q q0 q1).1, ?_, (f q q0 q1).2.2⟩
  by_cases e : q = r
  · subst e; rw [up1_eq]; exact hv
  · rw [up1_ne (by omega)]; exact (f q q0 q1).2.1
theorem gB.u20 {g : Int → Int} (h : gB g) {r v : Int} (hr : 0 ≤ r ∧ r < 4) (hv : v = 0 ∨ v = 1) : gB (up1 g (20 + r) v) := by
  obtain ⟨a, b, c, d, f⟩ := h
  refine ⟨by rw [up1_ne (by omega)]; exact a, by rw [up1_ne (by omega)]; exact b, by rw [up1_ne (by omega)]; exact c, by rw [up1_ne (by omega)]; exact d, fun q q0 q1 => ?_⟩
  rw [up1_ne (x := 12 + q) (by omega), up1_ne (x := 16 + q) (by omega)]
  refine ⟨(f q q0 q1).1, (f q q0 q1).2.1, ?_⟩
  by_cases e : q = r
  · subst e; rw [up1_eq]; exact hv
  · rw [up1_ne (by omega)]; exact (f q q0 q1).2.2
theorem gB.u4 {g : Int → Int} (h : gB g) {v : Int} (hv : 0 ≤ v ∧ v ≤ 20000) : gB (up1 g 4 v) := by
  obtain ⟨a, b, c, d, f⟩ := h
  refine ⟨by rw [up1_ne (by omega)]; exact a, by rw [up1_ne (by omega)]; exact b, by rw [up1_ne (by omega)]; exact c, by rw [up1_eq]; exact hv, fun q q0 q1 => ?_⟩
  rw [up1_ne (x := 12 + q) (by omega), up1_ne (x := 16 + q) (by omega), up1_ne (x := 20 + q) (by omega)]
  exact f q q0 q1
theorem lm1_b {g : Int → Int} (h : gB g) : ∀ (n : Nat) (r l : Int), 0 ≤ r → r + n ≤ 4 → l ≤ 20000 → lm1 g n r l ≤ 20000
  | 0, _, _, _, _, hl => hl
  | n + 1, r, l, h0, h1, hl => by
    rw [lm1]
    refine lm1_b h n (r + 1) _ (by omega) (by omega) ?_
    split
    · exact (h.2.2.2.2 r h0 (by omega)).1.2
    · exact hl
theorem ls1_b {g : Int → Int} (h : gB g) (h0 : g 0 ≤ 4) : ls1 g ≤ 20000 := lm1_b h _ 0 (-1) (by decide) (by omega) (by decide)
theorem ls1_4 {g : Int → Int} {v : Int} (h0 : g 0 ≤ 4) : ls1 (up1 g 4 v) = ls1 g := by
  unfold ls1
  rw [up1_ne (by decide)]
  exact lm1_cong _ 0 (-1) (by decide) (by omega) (fun c hc => up1_ne (by omega))
theorem gA.rise {g : Int → Int} (h : gB g) (h0 : g 0 ≤ 4) : gA (ri1 g) := by
  have b := ls1_b h h0
  have d := h.2.2.2.1
  unfold ri1
  refine ⟨h.u4 ⟨by omega, by omega⟩, ?_⟩
  rw [ls1_4 h0, up1_eq]
  omega
theorem ls1_cong {g g' : Int → Int} (h0 : g 0 ≤ 4) (e0 : g' 0 = g 0) (e : ∀ c, (12 ≤ c ∧ c < 16) ∨ (20 ≤ c ∧ c < 24) → g' c = g c) : ls1 g' = ls1 g := by
  unfold ls1
  rw [e0]
  exact lm1_cong _ 0 (-1) (by decide) (by omega) e
theorem gA.of {g g' : Int → Int} (h : gA g) (h0 : g 0 ≤ 4) (e : ∀ c, (0 ≤ c ∧ c < 5) ∨ (12 ≤ c ∧ c < 24) → g' c = g c) : gA g' :=
  ⟨h.1.of (fun c hc => e c (by omega)), by rw [ls1_cong h0 (e 0 (by decide)) (fun c hc => e c (by omega)), e 4 (by decide)]; exact h.2⟩
theorem in1_ne {g : Int → Int} {c v x : Int} (h : x ≠ c) : in1 g c v x = g x := up1_ne h
theorem fa1_ne {g : Int → Int} {h r x : Int} (hr : 0 ≤ r ∧ r < 4) (hx : x < 8 ∨ (11 ≤ x ∧ x < 28) ∨ 32 ≤ x) : fa1 g h r x = g x := by
  unfold fa1
  split
  · rw [in1_ne (by omega), in1_ne (by omega)]
  · rw [in1_ne (by omega), in1_ne (by omega)]
theorem gB.playE {g : Int → Int} {t r : Int} (h : gB g) (h0 : g 0 ≤ 4) (ht : 0 ≤ t ∧ t ≤ 9999) (hr : 0 ≤ r ∧ r < 4) : gA (pE1 g t r) := by
  unfold pE1
  try dsimp only
  have e : ∀ x, x < 8 ∨ (11 ≤ x ∧ x < 24) → fa1 (in1 g (24 + r) 1) (hw1 g t) r x = g x := fun x hx => by
    rw [fa1_ne hr (by omega), in1_ne (by omega)]
  have hB : gB (fa1 (in1 g (24 + r) 1) (hw1 g t) r) := h.of (fun c hc => e c (by omega))
  have h1 : fa1 (in1 g (24 + r) 1) (hw1 g t) r 0 ≤ 4 := by rw [e 0 (by decide)]; exact h0
  generalize fa1 (in1 g (24 + r) 1) (hw1 g t) r = q at hB h1
  have hC := hB.u20 hr (v := 0) (Or.inl rfl)
  have h2 : up1 q (20 + r) 0 0 ≤ 4 := by rw [up1_ne (by omega)]; exact h1
  generalize up1 q (20 + r) 0 = p at hC h2
  have b := hC.2.2.2.2 r hr.1 hr.2
  unfold ra1
  rw [wI_id ⟨by omega, by omega⟩]
  exact gA.rise (hC.u12 hr ⟨by omega, by omega⟩) (by rw [up1_ne (by omega)]; exact h2)
theorem gB.playM {g : Int → Int} {t r : Int} (h : gB g) (h0 : g 0 ≤ 4) (ht : 0 ≤ t ∧ t ≤ 20000) (hr : 0 ≤ r ∧ r < 4) : gA (pM1 g t r) :=
  gA.rise (h.u12 hr ht) (by rw [up1_ne (by omega)]; exact h0)
theorem gB.playI {g : Int → Int} {r : Int} (h : gB g) (h0 : g 0 ≤ 4) (hr : 0 ≤ r ∧ r < 4) : gA (pI1 g r) :=
  gA.rise (h.u20 hr (Or.inr rfl)) (by rw [up1_ne (by omega)]; exact h0)
theorem ri1_ne {g : Int → Int} {c : Int} (h : c ≠ 4) : ri1 g c = g c := up1_ne h
theorem pE1_ne {g : Int → Int} {t r c : Int} (hr : 0 ≤ r ∧ r < 4) (h : c < 4 ∨ (5 ≤ c ∧ c < 8) ∨ c = 11 ∨ (16 ≤ c ∧ c < 20) ∨ 32 ≤ c) : pE1 g t r c = g c := by
  unfold pE1 ra1
  try dsimp only
  rw [ri1_ne (by omega), up1_ne (by omega), up1_ne (by omega), fa1_ne hr (by omega), in1_ne (by omega)]
theorem pM1_ne {g : Int → Int} {t r c : Int} (hr : 0 ≤ r ∧ r < 4) (h : c < 4 ∨ (5 ≤ c ∧ c < 12) ∨ 16 ≤ c) : pM1 g t r c = g c := by
  unfold pM1
  rw [ri1_ne (by omega), up1_ne (by omega)]
theorem pI1_ne {g : Int → Int} {r c : Int} (hr : 0 ≤ r ∧ r < 4) (h : c < 4 ∨ (5 ≤ c ∧ c < 20) ∨ 24 ≤ c) : pI1 g r c = g c := by
  unfold pI1
  rw [ri1_ne (by omega), up1_ne (by omega)]
theorem hw1_cong {g g' : Int → Int} (t : Int) (e2 : g' 2 = g 2) (e4 : g' 4 = g 4) : hw1 g' t = hw1 g t := by
  unfold hw1
  rw [e2, e4]
theorem rS.playM {w : WS} {g : Int → Int} {t r : Int} (h : rS w g) (r0 : 0 ≤ r) (r1 : r < g 0) (hm : g (12 + r) < t) : rS (wPlayM w r t) (pM1 g t r) := by
  have a := h.raise (t := t) r0 r1
  unfold ra1 at a
  rw [show max (g (12 + r)) t = t by omega] at a
  exact a.rise
theorem rS.playI {w : WS} {g : Int → Int} {r : Int} (h : rS w g) (r0 : 0 ≤ r) (r1 : r < g 0) : rS (wPlayI w r) (pI1 g r) := by
  have a := h.src (v := 1) r0 r1 (c := 2) (by decide) (by decide)
  rw [show 12 + 4 * 2 + r = 20 + r by omega] at a
  exact a.rise
/-! ===== all that came, played again from the start ===== -/
def sS (c : Int) : Prop := (0 ≤ c ∧ c < 5) ∨ (8 ≤ c ∧ c < 11) ∨ (12 ≤ c ∧ c < 32)
def eqS (g g' : Int → Int) : Prop := ∀ c, sS c → g' c = g c
theorem eqS.same {g : Int → Int} : eqS g g := fun _ _ => rfl
theorem eqS.trans {a b c : Int → Int} (h : eqS a b) (g : eqS b c) : eqS a c := fun x hx => (g x hx).trans (h x hx)
theorem eqS.up {g g' : Int → Int} (h : eqS g g') (c v : Int) : eqS (up1 g c v) (up1 g' c v) := fun x hx => by
  by_cases e : x = c
  · subst e; rw [up1_eq, up1_eq]
  · rw [up1_ne e, up1_ne e]; exact h x hx
theorem eqS.inc {g g' : Int → Int} (h : eqS g g') (c v : Int) (hc : sS c) : eqS (in1 g c v) (in1 g' c v) := by
  unfold in1
  rw [h c hc]
  exact h.up c _
theorem eqS.hw {g g' : Int → Int} (h : eqS g g') (t : Int) : hw1 g' t = hw1 g t := hw1_cong t (h 2 (Or.inl (by decide))) (h 4 (Or.inl (by decide)))
theorem eqS.ls {g g' : Int → Int} (h : eqS g g') (h0 : g 0 ≤ 4) : ls1 g' = ls1 g := ls1_cong h0 (h 0 (Or.inl (by decide))) (fun c hc => h c (by unfold sS; omega))
theorem eqS.ri {g g' : Int → Int} (h : eqS g g') (h0 : g 0 ≤ 4) : eqS (ri1 g) (ri1 g') := by
  unfold ri1
  rw [h.ls h0, h 4 (Or.inl (by decide))]
  exact h.up 4 _
theorem eqS.fa {g g' : Int → Int} (h : eqS g g') (k : Int) {r : Int} (hr : 0 ≤ r ∧ r < 4) : eqS (fa1 g k r) (fa1 g' k r) := by
  unfold fa1
  split
  · exact (h.inc 10 1 (by unfold sS; omega)).inc (28 + r) 1 (by unfold sS; omega)
  · exact (h.inc 8 1 (by unfold sS; omega)).inc 9 k (by unfold sS; omega)
theorem eqS.pE {g g' : Int → Int} (h : eqS g g') (h0 : g 0 ≤ 4) (t : Int) {r : Int} (hr : 0 ≤ r ∧ r < 4) : eqS (pE1 g t r) (pE1 g' t r) := by
  unfold pE1
  try dsimp only
  rw [h.hw t]
  have a := (h.inc (24 + r) 1 (by unfold sS; omega)).fa (hw1 g t) hr
  have z : fa1 (in1 g (24 + r) 1) (hw1 g t) r 0 ≤ 4 := by rw [fa1_ne hr (by omega), in1_ne (by omega)]; exact h0
  generalize fa1 (in1 g (24 + r) 1) (hw1 g t) r = p at a z ⊢
  generalize fa1 (in1 g' (24 + r) 1) (hw1 g t) r = p' at a ⊢
  have b := a.up (20 + r) 0
  have z2 : up1 p (20 + r) 0 0 ≤ 4 := by rw [up1_ne (by omega)]; exact z
  generalize up1 p (20 + r) 0 = q at b z2 ⊢
  generalize up1 p' (20 + r) 0 = q' at b ⊢
  unfold ra1
  rw [b (16 + r) (by unfold sS; omega), b (12 + r) (by unfold sS; omega)]
  exact (b.up (12 + r) _).ri (by rw [up1_ne (by omega)]; exact z2)
theorem eqS.pM {g g' : Int → Int} (h : eqS g g') (h0 : g 0 ≤ 4) (t : Int) {r : Int} (hr : 0 ≤ r ∧ r < 4) : eqS (pM1 g t r) (pM1 g' t r) :=
  (h.up (12 + r) t).ri (by rw [up1_ne (by omega)]; exact h0)
theorem eqS.pI {g g' : Int → Int} (h : eqS g g') (h0 : g 0 ≤ 4) {r : Int} (hr : 0 ≤ r ∧ r < 4) : eqS (pI1 g r) (pI1 g' r) :=
  (h.up (20 + r) 1).ri (by rw [up1_ne (by omega)]; exact h0)
/-- an input's step -/
def rpS (g q : Int → Int) (i : Int) : Int → Int := if g (1844 + 6 * i + 0) = 0 then pE1 q (g (1844 + 6 * i + 2)) (g (1844 + 6 * i + 1)) else if g (1844 + 6 * i + 0) = 1 then pM1 q (g (1844 + 6 * i + 2)) (g (1844 + 6 * i + 1)) else pI1 q (g (1844 + 6 * i + 1))
def rp (g : Int → Int) : Nat → Int → Int
  | 0 => fun c => if (0 ≤ c ∧ c < 4) ∨ (16 ≤ c ∧ c < 20) then g c else 0
  | n + 1 => rpS g (rp g n) n
theorem rp_cong {g g' : Int → Int} (e : ∀ c, (0 ≤ c ∧ c < 4) ∨ (16 ≤ c ∧ c < 20) → g' c = g c) : ∀ n : Nat, (∀ c : Int, 1844 ≤ c → c < 1844 + 6 * n → g' c = g c) → rp g' n = rp g n
  | 0, _ => by
    funext c
    show (if (0 ≤ c ∧ c < 4) ∨ (16 ≤ c ∧ c < 20) then g' c else 0) = if (0 ≤ c ∧ c < 4) ∨ (16 ≤ c ∧ c < 20) then g c else 0
    by_cases q : (0 ≤ c ∧ c < 4) ∨ (16 ≤ c ∧ c < 20)
    · rw [if_pos q, if_pos q]; exact e c q
    · rw [if_neg q, if_neg q]
  | n + 1, h => by
    show rpS g' (rp g' n) n = rpS g (rp g n) n
    rw [rp_cong e n (fun c c0 c1 => h c c0 (by omega))]
    unfold rpS
    rw [h (1844 + 6 * (n : Int) + 0) (by omega) (by omega), h (1844 + 6 * (n : Int) + 1) (by omega) (by omega), h (1844 + 6 * (n : Int) + 2) (by omega) (by omega)]
def rR (w : WS) (g : Int → Int) : Prop := eqS (rp g (g 6).toNat) g ∧ ∀ i, 0 ≤ i → i < g 6 → (g (1844 + 6 * i + 0) = 0 → wG w 4 i 6 = max 0 (wI (rp g i.toNat 4 - g (1844 + 6 * i + 2)))) ∧ (g (1844 + 6 * i + 0) = 1 → rp g i.toNat (12 + g (1844 + 6 * i + 1)) < g (1844 + 6 * i + 2)) ∧ (g (1844 + 6 * i + 0) ≠ 0 → wG w 4 i 6 = 0)
theorem rR.of {w w' : WS} {g g' : Int → Int} (h : rR w g) (b6 : 0 ≤ g 6 ∧ g 6 ≤ 160) (e : ∀ i, 0 ≤ i → i < g 6 → wG w' 4 i 6 = wG w 4 i 6) (eg : ∀ c, sS c ∨ c = 6 ∨ (1844 ≤ c ∧ c < 2804) → g' c = g c) : rR w' g' := by
  have e6 := eg 6 (Or.inr (Or.inl rfl))
  have er : ∀ n : Nat, (n : Int) ≤ g 6 → rp g' n = rp g n := fun n hn => rp_cong (fun c hc => eg c (Or.inl (by unfold sS; omega))) n (fun c c0 c1 => eg c (Or.inr (Or.inr ⟨c0, by omega⟩)))
  refine ⟨fun c hc => ?_, fun i i0 i1 => ?_⟩
  · rw [e6, er _ (by omega), eg c (Or.inl hc)]
    exact h.1 c hc
  · rw [e6] at i1
    rw [er _ (by omega), e i i0 i1, eg (1844 + 6 * i + 0) (by omega), eg (1844 + 6 * i + 1) (by omega), eg (1844 + 6 * i + 2) (by omega)]
    exact h.2 i i0 i1
theorem rp_0 {g : Int → Int} (hr : ∀ i, 0 ≤ i → i < g 6 → 0 ≤ g (1844 + 6 * i + 1) ∧ g (1844 + 6 * i + 1) < 4) : ∀ n : Nat, (n : Int) ≤ g 6 → rp g n 0 = g 0
  | 0, _ => by
    show (if (0 ≤ (0 : Int) ∧ (0 : Int) < 4) ∨ (16 ≤ (0 : Int) ∧ (0 : Int) < 20) then g 0 else 0) = g 0
    rw [if_pos (Or.inl (by decide))]
  | n + 1, h => by
    have b := hr n (by omega) (by omega)
    have ih := rp_0 hr n (by omega)
    show rpS g (rp g n) n 0 = g 0
    unfold rpS
    split
    · rw [pE1_ne b (by decide)]; exact ih
    · split
      · rw [pM1_ne b (by decide)]; exact ih
      · rw [pI1_ne b (by decide)]; exact ih
/-- one more -/
theorem rR.push {w w' : WS} {g G : Int → Int} {a r t k v b : Int} (h : rR w g) (hI : rI w g) (h6 : g 6 < 160) (n4 : g 0 ≤ 4) (hr : 0 ≤ r ∧ r < 4) (e : ∀ i c, i ≠ wZ w 4 → wG w' 4 i c = wG w 4 i c) (alt : (a = 0 ∧ G = pE1 (nt1 g a r t k v b) t r ∧ wG w' 4 (wZ w 4) 6 = max 0 (wI (g 4 - t))) ∨ (a = 1 ∧ G = pM1 (nt1 g a r t k v b) t r ∧ g (12 + r) < t ∧ wG w' 4 (wZ w 4) 6 = 0) ∨ (a = 2 ∧ G = pI1 (nt1 g a r t k v b) r ∧ wG w' 4 (wZ w 4) 6 = 0)) : rR w' G := by
  obtain ⟨hz, h60, h61⟩ := hI.1
  have q6 := nt1_6 (g := g) (a := a) (r := r) (t := t) (k := k) (v := v) (b := b) ⟨h60, h61⟩
  have q0 : nt1 g a r t k v b 0 = g 0 := nt1_ne (by decide) (by omega)
  obtain ⟨p0, p1, p2, -, -, -⟩ := nt1_at (g := g) (a := a) (r := r) (t := t) (k := k) (v := v) (b := b) h60
  have ne : ∀ c, c ≠ 6 → (c < 1844 + 6 * g 6 ∨ 1850 + 6 * g 6 ≤ c) → nt1 g a r t k v b c = g c := fun c c6 hc => nt1_ne c6 hc
  -- the noted desk and the played one agree where it matters
  have GN : ∀ c, (c < 4 ∨ c = 6 ∨ (16 ≤ c ∧ c < 20) ∨ 1844 ≤ c) → G c = nt1 g a r t k v b c := by
    intro c hc
    rcases alt with ⟨-, eG, -⟩ | ⟨-, eG, -⟩ | ⟨-, eG, -⟩
    · rw [eG]; exact pE1_ne hr (by omega)
    · rw [eG]; exact pM1_ne hr (by omega)
    · rw [eG]; exact pI1_ne hr (by omega)
  have er : ∀ n : Nat, (n : Int) ≤ g 6 → rp G n = rp g n := fun n hn => rp_cong (fun c hc => by rw [GN c (by omega), ne c (by omega) (by omega)]) n (fun c c0 c1 => by rw [GN c (by omega), ne c (by omega) (by omega)])
  have eN : eqS (rp g (g 6).toNat) (nt1 g a r t k v b) := fun c hc => by
    rw [ne c (by unfold sS at hc; omega) (by unfold sS at hc; omega)]
    exact h.1 c hc
  have z0 : rp g (g 6).toNat 0 ≤ 4 := by
    have := eN 0 (Or.inl (by decide))
    rw [q0] at this
    omega
  have G6 : G 6 = g 6 + 1 := (GN 6 (by omega)).trans q6
  have en : (g 6 + 1).toNat = (g 6).toNat + 1 := by omega
  have ez : (((g 6).toNat : Nat) : Int) = g 6 := by omega
  refine ⟨?_, fun i i0 i1 => ?_⟩
  · rw [G6, en]
    show eqS (rpS G (rp G (g 6).toNat) ((g 6).toNat : Int)) G
    rw [er _ (by omega), ez]
    unfold rpS
    rw [GN (1844 + 6 * g 6 + 0) (by omega), GN (1844 + 6 * g 6 + 1) (by omega), GN (1844 + 6 * g 6 + 2) (by omega), p0, p1, p2]
    rcases alt with ⟨ea, eG, -⟩ | ⟨ea, eG, -⟩ | ⟨ea, eG, -⟩
    · rw [if_pos ea, eG]; exact eN.pE z0 t hr
    · rw [if_neg (by omega), if_pos ea, eG]; exact eN.pM z0 t hr
    · rw [if_neg (by omega), if_neg (by omega), eG]; exact eN.pI z0 hr
  · rw [G6] at i1
    rw [er _ (by omega), GN (1844 + 6 * i + 0) (by omega), GN (1844 + 6 * i + 1) (by omega), GN (1844 + 6 * i + 2) (by omega)]
    by_cases hi : i = g 6
    · subst hi
      rw [p0, p1, p2, ← h.1 4 (Or.inl (by decide)), ← h.1 (12 + r) (Or.inr (Or.inr (by omega)))]
      refine ⟨fun ea => ?_, fun ea => ?_, fun ea => ?_⟩
      · rcases alt with ⟨-, -, e6⟩ | ⟨ea', -, -⟩ | ⟨ea', -⟩
        · rw [← hz]; exact e6
        · omega
        · omega
      · rcases alt with ⟨ea', -, -⟩ | ⟨-, -, e6, -⟩ | ⟨ea', -⟩
        · omega
        · exact e6
        · omega
      · rcases alt with ⟨ea', -, -⟩ | ⟨-, -, -, e6⟩ | ⟨-, -, e6⟩
        · exact absurd ea' ea
        · rw [← hz]; exact e6
        · rw [← hz]; exact e6
    · rw [ne (1844 + 6 * i + 0) (by omega) (by omega), ne (1844 + 6 * i + 1) (by omega) (by omega), ne (1844 + 6 * i + 2) (by omega) (by omega), e i 6 (by omega)]
      exact h.2 i i0 (by omega)
/-! ===== a world and a desk alike, but for sessions: inputs come to both ===== -/
def rA (w : WS) (g : Int → Int) : Prop := rS w g ∧ rI w g ∧ gA g ∧ rR w g
theorem rS.note {w : WS} {g : Int → Int} {a r t k v b : Int} (h : rS w g) (h6 : 0 ≤ g 6) {a' r' t' : Int} : rS (wNote w a' r' t') (nt1 g a r t k v b) :=
  (h.of note_f.1 note_f.2).cong (fun c c0 c1 _ c6 _ _ => nt1_ne c6 (by omega))
theorem gA.note {g : Int → Int} {a r t k v b : Int} (h : gA g) (h0 : g 0 ≤ 4) (h6 : 0 ≤ g 6) : gA (nt1 g a r t k v b) := h.of h0 (fun c hc => nt1_ne (by omega) (by omega))
theorem rA.event {w : WS} {g : Int → Int} {k t v r : Int} (h : rA w g) (h6 : g 6 < 160) (hk : 0 ≤ k ∧ k ≤ 5) (ht : 0 ≤ t ∧ t ≤ 9999) (hr : 0 ≤ r ∧ r < g 0) : rA (wComeE w k t v r) (pE1 (nt1 g 0 r t k v (if hw1 g t < 2 then 1 else 0)) t r) := by
  obtain ⟨hS, hI, hA, hR⟩ := h
  have hz := hS.2.2.1
  have i6 := hI.1
  have i0 : 0 ≤ wZ w 4 ∧ wZ w 4 < 160 := by omega
  have hr4 : 0 ≤ r ∧ r < 4 := by omega
  have n0 : nt1 g 0 r t k v (if hw1 g t < 2 then 1 else 0) 0 = g 0 := nt1_ne (by decide) (by omega)
  have hS1 : rS (wNote w 0 r t) (nt1 g 0 r t k v (if hw1 g t < 2 then 1 else 0)) := hS.note i6.2.1
  have hS2 := hS1.playE (k := k) (t := t) (v := v) hr.1 (by rw [n0]; exact hr.2)
  have hf : wFate (wNote w 0 r t) t = hw1 g t := by
    rw [hS1.fate t]
    exact hw1_cong t (nt1_ne (by decide) (by omega)) (nt1_ne (by decide) (by omega))
  have hb := hw1_b g t
  refine ⟨hS2.of (fun _ => rfl) rfl, ?_, (hA.note (by omega) i6.2.1).1.playE (by omega) ht hr4, ?_⟩
  rotate_left
  · refine hR.push hI h6 (by omega) hr4 (fun i c hi => ?_) (Or.inl ⟨rfl, rfl, ?_⟩)
    · unfold wComeE
      dsimp only
      rw [p4_ne (Or.inl hi), p4_ne (Or.inl hi), p4_ne (Or.inl hi), p4_ne (Or.inl hi), g4_of f4_PlayE, note_o i0 hi]
    · unfold wComeE
      dsimp only
      rw [p4_eq i0 (by decide), hS.1.2.2.2]
  have nz := note_z (a := 0) (r := r) (t := t) i0
  obtain ⟨w0, w1, w2, -, -⟩ := note_w (a := 0) (r := r) (t := t) i0
  have e4 : ∀ i c, wG (wPlayE (wNote w 0 r t) k t v r) 4 i c = wG (wNote w 0 r t) 4 i c := fun i c => g4_of f4_PlayE i c
  have key : rI (wComeE w k t v r) (nt1 g 0 r t k v (if hw1 g t < 2 then 1 else 0)) := by
    unfold wComeE
    dsimp only
    refine hI.push h6 ?_ (fun i c hi => ?_) (by omega) hr ⟨?_, ?_, ?_, ?_⟩ (Or.inl ⟨rfl, ?_, ht, hk, ?_⟩)
    · exact (z4_of f4_PlayE).trans nz
    · rw [p4_ne (Or.inl hi), p4_ne (Or.inl hi), p4_ne (Or.inl hi), p4_ne (Or.inl hi), e4, note_o i0 hi]
    · rw [p4_ne (Or.inr (by decide)), p4_ne (Or.inr (by decide)), p4_ne (Or.inr (by decide)), p4_ne (Or.inr (by decide)), e4, w0]
    · rw [p4_ne (Or.inr (by decide)), p4_ne (Or.inr (by decide)), p4_ne (Or.inr (by decide)), p4_ne (Or.inr (by decide)), e4, w1]
    · rw [p4_ne (Or.inr (by decide)), p4_ne (Or.inr (by decide)), p4_ne (Or.inr (by decide)), p4_ne (Or.inr (by decide)), e4, w2]
    · rw [p4_ne (Or.inr (by decide)), p4_ne (Or.inr (by decide)), p4_ne (Or.inr (by decide)), p4_eq i0 (by decide)]
    · rw [p4_ne (Or.inr (by decide)), p4_ne (Or.inr (by decide)), p4_eq i0 (by decide)]
    · rw [p4_ne (Or.inr (by decide)), p4_eq i0 (by decide), hf]
      split <;> omega
  exact key.of rfl (fun _ _ _ _ _ _ => rfl) (pE1_ne hr4 (by decide)) (pE1_ne hr4 (by decide)) (fun c c0 c1 => pE1_ne hr4 (by omega))
theorem rA.mark {w : WS} {g : Int → Int} {t r : Int} (h : rA w g) (h6 : g 6 < 160) (ht : 0 ≤ t ∧ t ≤ 20000) (hr : 0 ≤ r ∧ r < g 0) (hm : g (12 + r) < t) : rA (wComeM w r t) (pM1 (nt1 g 1 r t (-1) 0 0) t r) := by
  obtain ⟨hS, hI, hA, hR⟩ := h
  have hz := hS.2.2.1
  have i6 := hI.1
  have i0 : 0 ≤ wZ w 4 ∧ wZ w 4 < 160 := by omega
  have hr4 : 0 ≤ r ∧ r < 4 := by omega
  have n0 : nt1 g 1 r t (-1) 0 0 0 = g 0 := nt1_ne (by decide) (by omega)
  have hS1 : rS (wNote w 1 r t) (nt1 g 1 r t (-1) 0 0) := hS.note i6.2.1
  have hS2 := hS1.playM (t := t) hr.1 (by rw [n0]; exact hr.2) (by rw [nt1_ne (by omega) (by omega)]; exact hm)
  refine ⟨hS2, ?_, (hA.note (by omega) i6.2.1).1.playM (by omega) ht hr4, ?_⟩
  rotate_left
  · refine hR.push hI h6 (by omega) hr4 (fun i c hi => ?_) (Or.inr (Or.inl ⟨rfl, rfl, hm, ?_⟩))
    · unfold wComeM
      rw [g4_of f4_PlayM, note_o i0 hi]
    · unfold wComeM
      rw [g4_of f4_PlayM]
      exact (note_w i0).2.2.2.2.2
  have nz := note_z (a := 1) (r := r) (t := t) i0
  obtain ⟨w0, w1, w2, w3, w5, -⟩ := note_w (a := 1) (r := r) (t := t) i0
  have e4 : ∀ i c, wG (wPlayM (wNote w 1 r t) r t) 4 i c = wG (wNote w 1 r t) 4 i c := fun i c => g4_of f4_PlayM i c
  have key : rI (wComeM w r t) (nt1 g 1 r t (-1) 0 0) := by
    unfold wComeM
    refine hI.push h6 ((z4_of f4_PlayM).trans nz) (fun i c hi => ?_) (by omega) hr ⟨?_, ?_, ?_, ?_⟩ (Or.inr ⟨Or.inl rfl, ht, rfl, ?_, rfl⟩)
    · rw [e4, note_o i0 hi]
    · rw [e4, w0]
    · rw [e4, w1]
    · rw [e4, w2]
    · rw [e4, w3]
    · rw [e4, w5]
  exact key.of rfl (fun _ _ _ _ _ _ => rfl) (pM1_ne hr4 (by decide)) (pM1_ne hr4 (by decide)) (fun c c0 c1 => pM1_ne hr4 (by omega))
theorem rA.idle {w : WS} {g : Int → Int} {r : Int} (h : rA w g) (h6 : g 6 < 160) (hr : 0 ≤ r ∧ r < g 0) : rA (wComeI w r) (pI1 (nt1 g 2 r 0 (-1) 0 0) r) := by
  obtain ⟨hS, hI, hA, hR⟩ := h
  have hz := hS.2.2.1
  have i6 := hI.1
  have i0 : 0 ≤ wZ w 4 ∧ wZ w 4 < 160 := by omega
  have hr4 : 0 ≤ r ∧ r < 4 := by omega
  have n0 : nt1 g 2 r 0 (-1) 0 0 0 = g 0 := nt1_ne (by decide) (by omega)
  have hS1 : rS (wNote w 2 r 0) (nt1 g 2 r 0 (-1) 0 0) := hS.note i6.2.1
  have hS2 := hS1.playI hr.1 (by rw [n0]; exact hr.2)
  refine ⟨hS2, ?_, (hA.note (by omega) i6.2.1).1.playI (by omega) hr4, ?_⟩
  rotate_left
  · refine hR.push hI h6 (by omega) hr4 (fun i c hi => ?_) (Or.inr (Or.inr ⟨rfl, rfl, ?_⟩))
    · unfold wComeI
      rw [g4_of f4_PlayI, note_o i0 hi]
    · unfold wComeI
      rw [g4_of f4_PlayI]
      exact (note_w i0).2.2.2.2.2
  have nz := note_z (a := 2) (r := r) (t := 0) i0
  obtain ⟨w0, w1, w2, w3, w5, -⟩ := note_w (a := 2) (r := r) (t := 0) i0
  have e4 : ∀ i c, wG (wPlayI (wNote w 2 r 0) r) 4 i c = wG (wNote w 2 r 0) 4 i c := fun i c => g4_of f4_PlayI i c
  have key : rI (wComeI w r) (nt1 g 2 r 0 (-1) 0 0) := by
    unfold wComeI
    refine hI.push h6 ((z4_of f4_PlayI).trans nz) (fun i c hi => ?_) (by omega) hr ⟨?_, ?_, ?_, ?_⟩ (Or.inr ⟨Or.inr rfl, by decide, rfl, ?_, rfl⟩)
    · rw [e4, note_o i0 hi]
    · rw [e4, w0]
    · rw [e4, w1]
    · rw [e4, w2]
    · rw [e4, w3]
    · rw [e4, w5]
  exact key.of rfl (fun _ _ _ _ _ _ => rfl) (pI1_ne hr4 (by decide)) (pI1_ne hr4 (by decide)) (fun c c0 c1 => pI1_ne hr4 (by omega))
end
-- 9896.mc
section
/-! ===== what an input does to a desk, but for its sessions: exactly ===== -/
def zA (c : Int) : Prop := c < 5 ∨ c = 6 ∨ (8 ≤ c ∧ c < 11) ∨ (12 ≤ c ∧ c < 32) ∨ 1844 ≤ c
/-- the desk's cells but for sessions are g's -/
def sA (d : Int) (s : MS) (g : Int → Int) : Prop := ∀ c, 0 ≤ c → zA c → mg s (d * 2804 + c) = g c
theorem sA.put {d : Int} {s : MS} {g : Int → Int} (h : sA d s g) (hd : 0 ≤ d) {x a v : Int} (hx : x = d * 2804 + a) (ha : 0 ≤ a) : sA d (mP s x v) (up1 g a v) := by
  subst hx
  intro c c0 hc
  by_cases e : c = a
  · subst e
    rw [mg_eq, up1_eq]
  · rw [mg_ne (by omega) (by omega) (by omega), up1_ne e]
    exact h c c0 hc
theorem sA.inc {d : Int} {s : MS} {g : Int → Int} (h : sA d s g) (hd : 0 ≤ d) {x a v : Int} (hx : x = d * 2804 + a) (ha : 0 ≤ a) (hz : zA a) : sA d (mInc s x v) (in1 g a v) := by
  unfold in1
  rw [← h a ha hz]
  subst hx
  exact h.put hd rfl ha
theorem sA.same {d : Int} {s s' : MS} {g : Int → Int} (h : sA d s g) (e : ∀ c, 0 ≤ c → zA c → mg s' (d * 2804 + c) = mg s (d * 2804 + c)) : sA d s' g := fun c c0 hc => (e c c0 hc).trans (h c c0 hc)
theorem sA.cong {d : Int} {s s' : MS} {g : Int → Int} (h : sA d s g) (e : s'.2 3 = s.2 3) : sA d s' g := h.same (fun _ _ _ => mg_cong e _)
theorem sA.note {d a r t k v b : Int} {s : MS} {g : Int → Int} (h : sA d s g) (hd : 0 ≤ d) (h6 : 0 ≤ g 6) : sA d (mNote s d a r t k v b) (nt1 g a r t k v b) := by
  unfold mNote nt1
  dsimp only
  rw [h 6 (by decide) (Or.inr (Or.inl rfl))]
  exact ((((((h.put hd (a := 1844 + 6 * g 6 + 0) (by omega) (by omega)).put hd (a := 1844 + 6 * g 6 + 1) (by omega) (by omega)).put hd (a := 1844 + 6 * g 6 + 2) (by omega) (by omega)).put hd (a := 1844 + 6 * g 6 + 3) (by omega) (by omega)).put hd (a := 1844 + 6 * g 6 + 4) (by omega) (by omega)).put hd (a := 1844 + 6 * g 6 + 5) (by omega) (by omega)).inc hd rfl (by decide) (Or.inr (Or.inl rfl))
theorem lmM_eq {d : Int} {s : MS} {g : Int → Int} (h : sA d s g) : ∀ (n : Nat) (r l : Int), 0 ≤ r → r + n ≤ 4 → lmM s d n r l = lm1 g n r l
  | 0, _, _, _, _ => rfl
  | n + 1, r, l, h0, h1 => by
    rw [lmM, lm1, lmM_eq h n (r + 1) _ (by omega) (by omega), h (20 + r) (by omega) (by unfold zA; omega), h (12 + r) (by omega) (by unfold zA; omega)]
theorem sA.least {d : Int} {s : MS} {g : Int → Int} (h : sA d s g) (h0 : g 0 ≤ 4) : mLeast s d = ls1 g := by
  unfold mLeast ls1
  rw [h 0 (by decide) (Or.inl (by decide))]
  exact lmM_eq h _ 0 (-1) (by decide) (by omega)
theorem sA.how {d : Int} {s : MS} {g : Int → Int} (h : sA d s g) (t : Int) : mHow s d t = hw1 g t := by
  unfold mHow hw1
  rw [h 4 (by decide) (Or.inl (by decide)), h 2 (by decide) (Or.inl (by decide))]
/-- the progress may rise -/
theorem risA {d n b : Int} {s : MS} {g : Int → Int} {K : MS → Prop} (hS : sA d s g) (h0 : g 0 ≤ 4) (hV : dV d n b s) (hr : okRs d s) (hd : dOk d) (hn : n ≤ 161) (hb : b + 2000 ≤ 1000000) (kk : ∀ s', sA d s' (ri1 g) → (∀ c, 0 ≤ d * 2804 + c → hC c → c ≠ 4 → mg s' (d * 2804 + c) = mg s (d * 2804 + c)) → sF s s' → mg s (d * 2804 + 7) ≤ mg s' (d * 2804 + 7) → dV d n (b + 2000) s' → K s') : mRisP s d 650 K := by
  have hd0 : 0 ≤ d := hd.1
  have hl := hS.least h0
  have h4 := hS 4 (by decide) (Or.inl (by decide))
  refine ⟨fun c => ?_, fun c => ?_⟩
  · rw [hl, h4] at c
    refine kk s ?_ (fun _ _ _ _ => rfl) sF.same (Int.le_refl _) (hV.more (by omega))
    unfold ri1
    rw [show max (g 4) (ls1 g) = g 4 by omega, up1_id]
    exact hS
  · rw [hl, h4] at c
    have fr : ∀ x, 0 ≤ x → x ≠ d * 2804 + 4 → mg (mRise0 s d) x = mg s x := fun x hx h => mg_ne (s := s) (v := mLeast s d) (by omega) hx (fun e => h e.symm)
    have S0 : sF s (mRise0 s d) := (cF_P.s.trans (sF_S (Or.inl rfl))).trans (sF_S (Or.inr (Or.inl rfl)))
    have V : dV d n b (mRise0 s d) := hV.at hd hn (fun c hc => fr _ (by omega) (by omega))
    have R : okRs d (mRise0 s d) := hr.at hV hd hn (fun c hc => fr _ (by omega) (by omega))
    have A : sA d (mRise0 s d) (ri1 g) := by
      unfold ri1
      rw [show max (g 4) (ls1 g) = ls1 g by omega, ← hl]
      exact (hS.put hd0 rfl (by decide)).cong rfl
    have h5 := V.1
    refine ⟨by omega, rr2_ok hd hn V R (by omega) (fun s1 F1 V1 => ⟨by rw [F1.five hd]; omega, cc_ok hd hn 650 (b + 1300) s1 V1 (by omega) (by rw [F1.five hd]; omega) (fun s2 H2 V2 => ?_)⟩)⟩
    have H := F1.hd.trans H2
    refine kk s2 (A.same (fun c c0 hc => H.1 c (by omega) (by unfold zA at hc; unfold hC; omega))) (fun c c0 hc h4 => ?_) (S0.trans H.2.1) (by have := H.2.2.2.2; rw [fr _ (by omega) (by omega)] at this; exact this) (V2.more (by omega))
    rw [H.1 c c0 hc]
    exact fr _ c0 (by omega)
/-- an input's last steps -/
def le1 (g : Int → Int) (t r : Int) : Int → Int :=
  let g3 := up1 (in1 g (24 + r) 1) (20 + r) 0
  ri1 (ra1 g3 r (wI (t - g3 (16 + r))))
theorem le1_pE {g : Int → Int} {t r : Int} (hr : 0 ≤ r ∧ r < 4) : le1 (fa1 g (hw1 g t) r) t r = pE1 g t r := by
  have e : in1 (fa1 g (hw1 g t) r) (24 + r) 1 = fa1 (in1 g (24 + r) 1) (hw1 g t) r := by
    unfold fa1
    split
    · rw [in1_comm (x := 28 + r) (y := 24 + r) (by omega), in1_comm (x := 10) (y := 24 + r) (by omega)]
    · rw [in1_comm (x := 9) (y := 24 + r) (by omega), in1_comm (x := 8) (y := 24 + r) (by omega)]
  have hw : hw1 (in1 g (24 + r) 1) t = hw1 g t := hw1_cong t (in1_ne (by omega)) (in1_ne (by omega))
  unfold le1 pE1
  dsimp only
  rw [e]
theorem cmEA {d n b t r : Int} {s : MS} {g : Int → Int} {K : MS → Prop} (hS : sA d s g) (hV : dV d n b s) (hr : okRs d s) (hd : dOk d) (hn : n ≤ 161) (hb : b + 2000 ≤ 1000000) (h0 : g 0 ≤ 4) (hs : 0 ≤ r ∧ r ≤ 3) (kk : ∀ s', sA d s' (le1 g t r) → (∀ c, 0 ≤ d * 2804 + c → zC c → mg s' (d * 2804 + c) = mg s (d * 2804 + c)) → sF s s' → dV d n (b + 2000) s' → K s') : cmE s d t r 650 K := by
  have hd0 : 0 ≤ d := hd.1
  unfold cmE
  dsimp only
  have A3 : sA d (mP (mInc s (d * 2804 + (24 + r)) 1) (d * 2804 + (20 + r)) 0) (up1 (in1 g (24 + r) 1) (20 + r) 0) := (hS.inc hd0 rfl (by omega) (by unfold zA; omega)).put hd0 rfl (by omega)
  have f3 : ∀ c, 0 ≤ d * 2804 + c → (c < 20 ∨ 28 ≤ c) → mg (mP (mInc s (d * 2804 + (24 + r)) 1) (d * 2804 + (20 + r)) 0) (d * 2804 + c) = mg s (d * 2804 + c) := fun c c0 h => by
    rw [mg_ne (by omega) (by omega) (by omega), mInc_ne (by omega) (by omega) (by omega)]
  have S3 : sF s (mP (mInc s (d * 2804 + (24 + r)) 1) (d * 2804 + (20 + r)) 0) := (cF_I.trans cF_P).s
  generalize mP (mInc s (d * 2804 + (24 + r)) 1) (d * 2804 + (20 + r)) 0 = s3 at A3 f3 S3 ⊢
  have e1 := A3 (12 + r) (by omega) (by unfold zA; omega)
  have e2 := A3 (16 + r) (by omega) (by unfold zA; omega)
  rw [e1, e2]
  have A4 : sA d (mP s3 (d * 2804 + (12 + r)) (max ((up1 (in1 g (24 + r) 1) (20 + r) 0) (12 + r)) (wI (t - (up1 (in1 g (24 + r) 1) (20 + r) 0) (16 + r))))) (ra1 (up1 (in1 g (24 + r) 1) (20 + r) 0) r (wI (t - (up1 (in1 g (24 + r) 1) (20 + r) 0) (16 + r)))) := A3.put hd0 rfl (by omega)
  have f4 : ∀ c, 0 ≤ d * 2804 + c → (c < 12 ∨ (16 ≤ c ∧ c < 20) ∨ 28 ≤ c) → mg (mP s3 (d * 2804 + (12 + r)) (max ((up1 (in1 g (24 + r) 1) (20 + r) 0) (12 + r)) (wI (t - (up1 (in1 g (24 + r) 1) (20 + r) 0) (16 + r))))) (d * 2804 + c) = mg s (d * 2804 + c) := fun c c0 h => by
    rw [mg_ne (by omega) (by omega) (by omega)]
    exact f3 c c0 (by omega)
  have S4 : sF s (mP s3 (d * 2804 + (12 + r)) (max ((up1 (in1 g (24 + r) 1) (20 + r) 0) (12 + r)) (wI (t - (up1 (in1 g (24 + r) 1) (20 + r) 0) (16 + r))))) := S3.trans cF_P.s
  generalize mP s3 (d * 2804 + (12 + r)) (max ((up1 (in1 g (24 + r) 1) (20 + r) 0) (12 + r)) (wI (t - (up1 (in1 g (24 + r) 1) (20 + r) 0) (16 + r)))) = s4 at A4 f4 S4 ⊢
  have z0 : ra1 (up1 (in1 g (24 + r) 1) (20 + r) 0) r (wI (t - (up1 (in1 g (24 + r) 1) (20 + r) 0) (16 + r))) 0 ≤ 4 := by
    unfold ra1
    rw [up1_ne (by omega), up1_ne (by omega), in1_ne (by omega)]
    exact h0
  refine ⟨by rw [f4 0 (by omega) (by omega), hS 0 (by decide) (Or.inl (by decide))]; exact h0, risA A4 z0 (hV.at hd hn (fun c hc => f4 c (by omega) (by omega))) (hr.at hV hd hn (fun c hc => f4 c (by omega) (by omega))) hd hn hb (fun s5 A5 h5 S5 _ V5 => kk s5 A5 (fun c c0 hc => ?_) (S4.trans S5) V5)⟩
  rw [h5 c c0 (by unfold hC; omega) (by omega), f4 c c0 (by omega)]
theorem cmA0 {d n b j k t v r : Int} {s : MS} {g : Int → Int} {K : MS → Prop} (hS : sA d s g) (hV : dV d n b s) (hd : dOk d) (hn : n ≤ 160) (hb : b + 2700 ≤ 1000000) (h0 : g 0 ≤ 4) (h6 : mg s (d * 2804 + 6) = j) (hj : 0 ≤ j ∧ j ≤ 159) (hk : 0 ≤ k ∧ k ≤ 5) (hs : 0 ≤ r ∧ r ≤ 3) (kk : ∀ s', sA d s' (pE1 (nt1 g 0 r t k v (if hw1 g t < 2 then 1 else 0)) t r) → cR d j 0 r k s s' → dV d (n + 1) (b + 2700) s' → K s') : mComeP s d k t v r 650 K := by
  have hd0 : 0 ≤ d := hd.1
  have hj6 : 0 ≤ mg s (d * 2804 + 6) ∧ mg s (d * 2804 + 6) ≤ 159 := by rw [h6]; exact hj
  have g6 : g 6 = j := (hS 6 (by decide) (Or.inr (Or.inl rfl))).symm.trans h6
  have hok : okRs d s := fun i i0 i1 i2 => hV.2.2.2.2 hn i i0 i2
  have hw := hS.how t
  have hr4 : 0 ≤ r ∧ r < 4 := by omega
  have N0 : ∀ x, nt1 g 0 r t k v x 0 = g 0 := fun x => nt1_ne (by decide) (by omega)
  have NH : ∀ x, hw1 (nt1 g 0 r t k v x) t = hw1 g t := fun x => hw1_cong t (nt1_ne (by decide) (by omega)) (nt1_ne (by decide) (by omega))
  have fin : ∀ x, x = (if hw1 g t < 2 then (1 : Int) else 0) → ∀ s', sA d s' (le1 (fa1 (nt1 g 0 r t k v x) (hw1 g t) r) t r) → sA d s' (pE1 (nt1 g 0 r t k v (if hw1 g t < 2 then 1 else 0)) t r) := fun x hx s' h => by
    have := le1_pE (g := nt1 g 0 r t k v x) (t := t) hr4
    rw [NH] at this
    rw [this] at h
    rw [← hx]
    exact h
  refine ⟨fun c2 => ?_, fun c2 => ?_⟩
  · rw [hw] at c2 ⊢
    have A0 : sA d (mInc (mInc (mS (mNote s d 0 r t k v 1) 12 0) (d * 2804 + 8) 1) (d * 2804 + 9) (hw1 g t)) (fa1 (nt1 g 0 r t k v 1) (hw1 g t) r) := by
      unfold fa1
      rw [if_neg (by omega)]
      exact (((hS.note hd0 (by omega)).cong (s' := mS (mNote s d 0 r t k v 1) 12 0) rfl).inc hd0 rfl (by decide) (by unfold zA; omega)).inc hd0 rfl (by decide) (by unfold zA; omega)
    have lo : ∀ c, 0 ≤ d * 2804 + c → (c ≠ 8 ∧ c ≠ 9) → mg (mInc (mInc (mS (mNote s d 0 r t k v 1) 12 0) (d * 2804 + 8) 1) (d * 2804 + 9) (hw1 g t)) (d * 2804 + c) = mg (mNote s d 0 r t k v 1) (d * 2804 + c) := fun c c0 h => by
      rw [mInc_ne (by omega) (by omega) (by omega), mInc_ne (by omega) (by omega) (by omega)]
      rfl
    have S0 : sF s (mInc (mInc (mS (mNote s d 0 r t k v 1) 12 0) (d * 2804 + 8) 1) (d * 2804 + 9) (hw1 g t)) := ((note_c.s.trans (sF_S (Or.inr (Or.inr rfl)))).trans cF_I.s).trans cF_I.s
    generalize mInc (mInc (mS (mNote s d 0 r t k v 1) 12 0) (d * 2804 + 8) 1) (d * 2804 + 9) (hw1 g t) = u at A0 lo S0 ⊢
    have Vu : dV d n b u := hV.at hd (by omega) (fun c hc => by rw [lo c (by omega) (by omega), note_lo hd hj6.1 (by omega) (by omega) (by omega)])
    have F0 : fa1 (nt1 g 0 r t k v 1) (hw1 g t) r 0 ≤ 4 := by rw [fa1_ne hr4 (by decide), N0]; exact h0
    refine join_ok Vu hd hn (by omega) hk (fun s2 G2 S2 V2 R2 => cmEA (A0.same (fun c c0 hc => G2 c (by omega) (by unfold zA at hc; unfold hC; omega))) V2 R2 hd (by omega) (by omega) F0 hs (fun s3 A3 G3 S3 V3 => kk s3 (fin 1 (if_pos c2).symm s3 A3) (cR_of hd h6 hj (fun c c0 hc => lo c c0 (by omega)) S0 (fun c c0 hc => ?_) (S2.trans S3)) (V3.more (by omega))))
    rw [G3 c c0 hc, G2 c c0 (by unfold hC; omega)]
  · rw [hw] at c2
    have A0 : sA d (mInc (mInc (mS (mNote s d 0 r t k v 0) 12 0) (d * 2804 + 10) 1) (d * 2804 + (28 + r)) 1) (fa1 (nt1 g 0 r t k v 0) (hw1 g t) r) := by
      unfold fa1
      rw [if_pos c2]
      exact (((hS.note hd0 (by omega)).cong (s' := mS (mNote s d 0 r t k v 0) 12 0) rfl).inc hd0 rfl (by decide) (by unfold zA; omega)).inc hd0 rfl (by omega) (by unfold zA; omega)
    have lo : ∀ c, 0 ≤ d * 2804 + c → (c ≠ 10 ∧ (c < 28 ∨ 32 ≤ c)) → mg (mInc (mInc (mS (mNote s d 0 r t k v 0) 12 0) (d * 2804 + 10) 1) (d * 2804 + (28 + r)) 1) (d * 2804 + c) = mg (mNote s d 0 r t k v 0) (d * 2804 + c) := fun c c0 h => by
      rw [mInc_ne (by omega) (by omega) (by omega), mInc_ne (by omega) (by omega) (by omega)]
      rfl
    have S0 : sF s (mInc (mInc (mS (mNote s d 0 r t k v 0) 12 0) (d * 2804 + 10) 1) (d * 2804 + (28 + r)) 1) := ((note_c.s.trans (sF_S (Or.inr (Or.inr rfl)))).trans cF_I.s).trans cF_I.s
    generalize mInc (mInc (mS (mNote s d 0 r t k v 0) 12 0) (d * 2804 + 10) 1) (d * 2804 + (28 + r)) 1 = u at A0 lo S0 ⊢
    have eq : ∀ c, (c = 5 ∨ c = 7 ∨ (36 ≤ c ∧ c < 42) ∨ (364 ≤ c ∧ c < 1491)) → mg u (d * 2804 + c) = mg s (d * 2804 + c) := fun c hc => by rw [lo c (by omega) (by omega), note_lo hd hj6.1 (by omega) (by omega) (by omega)]
    have F0 : fa1 (nt1 g 0 r t k v 0) (hw1 g t) r 0 ≤ 4 := by rw [fa1_ne hr4 (by decide), N0]; exact h0
    exact cmEA A0 (hV.at hd (by omega) eq) (hok.at hV hd (by omega) eq) hd (by omega) (by omega) F0 hs (fun s3 A3 G3 S3 V3 => kk s3 (fin 0 (if_neg (by omega)).symm s3 A3) (cR_of hd h6 hj (fun c c0 hc => lo c c0 (by omega)) S0 G3 S3) ((V3.wide (by omega) hn).more (by omega)))
theorem mkA0 {d n b j t r : Int} {s : MS} {g : Int → Int} {K : MS → Prop} (hS : sA d s g) (hV : dV d n b s) (hd : dOk d) (hn : n ≤ 160) (hb : b + 2700 ≤ 1000000) (h0 : g 0 ≤ 4) (h6 : mg s (d * 2804 + 6) = j) (hj : 0 ≤ j ∧ j ≤ 159) (hs : 0 ≤ r ∧ r ≤ 3) (kk : ∀ s', sA d s' (pM1 (nt1 g 1 r t (-1) 0 0) t r) → mg s (d * 2804 + 7) ≤ mg s' (d * 2804 + 7) → cR d j 1 r (-1) s s' → dV d (n + 1) (b + 2700) s' → K s') : mMarkP s d r t 650 K := by
  have hd0 : 0 ≤ d := hd.1
  have hj6 : 0 ≤ mg s (d * 2804 + 6) ∧ mg s (d * 2804 + 6) ≤ 159 := by rw [h6]; exact hj
  have g6 : g 6 = j := (hS 6 (by decide) (Or.inr (Or.inl rfl))).symm.trans h6
  have hok : okRs d s := fun i i0 i1 i2 => hV.2.2.2.2 hn i i0 i2
  unfold mMarkP
  dsimp only
  have A0 : sA d (mP (mNote s d 1 r t (-1) 0 0) (d * 2804 + (12 + r)) t) (up1 (nt1 g 1 r t (-1) 0 0) (12 + r) t) := (hS.note hd0 (by omega)).put hd0 rfl (by omega)
  have lo : ∀ c, 0 ≤ d * 2804 + c → (c < 12 ∨ 16 ≤ c) → mg (mP (mNote s d 1 r t (-1) 0 0) (d * 2804 + (12 + r)) t) (d * 2804 + c) = mg (mNote s d 1 r t (-1) 0 0) (d * 2804 + c) := fun c c0 h => mg_ne (by omega) (by omega) (by omega)
  have S0 : sF s (mP (mNote s d 1 r t (-1) 0 0) (d * 2804 + (12 + r)) t) := note_c.s.trans cF_P.s
  have z0 : up1 (nt1 g 1 r t (-1) 0 0) (12 + r) t 0 ≤ 4 := by rw [up1_ne (by omega), nt1_ne (by decide) (by omega)]; exact h0
  generalize mP (mNote s d 1 r t (-1) 0 0) (d * 2804 + (12 + r)) t = u at A0 lo S0 ⊢
  have eq : ∀ c, (c = 5 ∨ c = 7 ∨ (36 ≤ c ∧ c < 42) ∨ (364 ≤ c ∧ c < 1491)) → mg u (d * 2804 + c) = mg s (d * 2804 + c) := fun c hc => by rw [lo c (by omega) (by omega), note_lo hd hj6.1 (by omega) (by omega) (by omega)]
  refine ⟨?_, risA A0 z0 (hV.at hd (by omega) eq) (hok.at hV hd (by omega) eq) hd (by omega) (by omega) (fun s3 A3 G3 S3 L3 V3 => kk s3 A3 (by rw [lo 7 (by omega) (by omega), note_lo hd hj6.1 (by omega) (by omega) (by omega)] at L3; exact L3) (cR_of hd h6 hj (fun c c0 hc => lo c c0 (by omega)) S0 (fun c c0 hc => G3 c c0 (by unfold hC; omega) (by omega)) S3) ((V3.wide (by omega) hn).more (by omega)))⟩
  rw [A0 0 (by decide) (Or.inl (by decide))]
  exact z0
theorem idA0 {d n b j r : Int} {s : MS} {g : Int → Int} {K : MS → Prop} (hS : sA d s g) (hV : dV d n b s) (hd : dOk d) (hn : n ≤ 160) (hb : b + 2700 ≤ 1000000) (h0 : g 0 ≤ 4) (h6 : mg s (d * 2804 + 6) = j) (hj : 0 ≤ j ∧ j ≤ 159) (hs : 0 ≤ r ∧ r ≤ 3) (kk : ∀ s', sA d s' (pI1 (nt1 g 2 r 0 (-1) 0 0) r) → mg s (d * 2804 + 7) ≤ mg s' (d * 2804 + 7) → cR d j 2 r (-1) s s' → dV d (n + 1) (b + 2700) s' → K s') : mIdleP s d r 650 K := by
  have hd0 : 0 ≤ d := hd.1
  have hj6 : 0 ≤ mg s (d * 2804 + 6) ∧ mg s (d * 2804 + 6) ≤ 159 := by rw [h6]; exact hj
  have g6 : g 6 = j := (hS 6 (by decide) (Or.inr (Or.inl rfl))).symm.trans h6
  have hok : okRs d s := fun i i0 i1 i2 => hV.2.2.2.2 hn i i0 i2
  unfold mIdleP
  dsimp only
  have A0 : sA d (mP (mNote s d 2 r 0 (-1) 0 0) (d * 2804 + (20 + r)) 1) (up1 (nt1 g 2 r 0 (-1) 0 0) (20 + r) 1) := (hS.note hd0 (by omega)).put hd0 rfl (by omega)
  have lo : ∀ c, 0 ≤ d * 2804 + c → (c < 20 ∨ 24 ≤ c) → mg (mP (mNote s d 2 r 0 (-1) 0 0) (d * 2804 + (20 + r)) 1) (d * 2804 + c) = mg (mNote s d 2 r 0 (-1) 0 0) (d * 2804 + c) := fun c c0 h => mg_ne (by omega) (by omega) (by omega)
  have S0 : sF s (mP (mNote s d 2 r 0 (-1) 0 0) (d * 2804 + (20 + r)) 1) := note_c.s.trans cF_P.s
  have z0 : up1 (nt1 g 2 r 0 (-1) 0 0) (20 + r) 1 0 ≤ 4 := by rw [up1_ne (by omega), nt1_ne (by decide) (by omega)]; exact h0
  generalize mP (mNote s d 2 r 0 (-1) 0 0) (d * 2804 + (20 + r)) 1 = u at A0 lo S0 ⊢
  have eq : ∀ c, (c = 5 ∨ c = 7 ∨ (36 ≤ c ∧ c < 42) ∨ (364 ≤ c ∧ c < 1491)) → mg u (d * 2804 + c) = mg s (d * 2804 + c) := fun c hc => by rw [lo c (by omega) (by omega), note_lo hd hj6.1 (by omega) (by omega) (by omega)]
  refine ⟨?_, risA A0 z0 (hV.at hd (by omega) eq) (hok.at hV hd (by omega) eq) hd (by omega) (by omega) (fun s3 A3 G3 S3 L3 V3 => kk s3 A3 (by rw [lo 7 (by omega) (by omega), note_lo hd hj6.1 (by omega) (by omega) (by omega)] at L3; exact L3) (cR_of hd h6 hj (fun c c0 hc => lo c c0 (by omega)) S0 (fun c c0 hc => G3 c c0 (by unfold hC; omega) (by omega)) S3) ((V3.wide (by omega) hn).more (by omega)))⟩
  rw [A0 0 (by decide) (Or.inl (by decide))]
  exact z0
/-! on a desk as it always is -/
def gD (d : Int) (s : MS) : Int → Int := fun c => mg s (d * 2804 + c)
theorem sA.self {d : Int} {s : MS} : sA d s (gD d s) := fun _ _ _ => rfl
theorem dI.comeA {d k t v r : Int} {s : MS} {K : MS → Prop} (h : dI d s) (hd : dOk d) (h6 : mg s (d * 2804 + 6) ≤ 159) (hk : 0 ≤ k ∧ k ≤ 5) (hr : 0 ≤ r ∧ r ≤ 3) (kk : ∀ s', sA d s' (pE1 (nt1 (gD d s) 0 r t k v (if hw1 (gD d s) t < 2 then 1 else 0)) t r) → dI d s' → oD d s s' → mg s' (d * 2804 + 6) = mg s (d * 2804 + 6) + 1 → K s') : mComeP s d k t v r 650 K := by
  have q6 := h.2.1
  exact cmA0 sA.self h.2.2.1 hd (by omega) (by omega) h.1.2 rfl ⟨q6.1, h6⟩ hk hr (fun s' ha hc hV => by
    obtain ⟨a1, a2, a3⟩ := h.next hd rfl h6 hr (fun _ => hk) hc hV
    exact kk s' ha a1 a2 a3)
theorem dI.markA {d t r : Int} {s : MS} {K : MS → Prop} (h : dI d s) (hd : dOk d) (h6 : mg s (d * 2804 + 6) ≤ 159) (hr : 0 ≤ r ∧ r ≤ 3) (kk : ∀ s', sA d s' (pM1 (nt1 (gD d s) 1 r t (-1) 0 0) t r) → mg s (d * 2804 + 7) ≤ mg s' (d * 2804 + 7) → dI d s' → oD d s s' → mg s' (d * 2804 + 6) = mg s (d * 2804 + 6) + 1 → K s') : mMarkP s d r t 650 K := by
  have q6 := h.2.1
  exact mkA0 sA.self h.2.2.1 hd (by omega) (by omega) h.1.2 rfl ⟨q6.1, h6⟩ hr (fun s' ha hl hc hV => by
    obtain ⟨a1, a2, a3⟩ := h.next hd rfl h6 hr (fun e => absurd e (by decide)) hc hV
    exact kk s' ha hl a1 a2 a3)
theorem dI.idleA {d r : Int} {s : MS} {K : MS → Prop} (h : dI d s) (hd : dOk d) (h6 : mg s (d * 2804 + 6) ≤ 159) (hr : 0 ≤ r ∧ r ≤ 3) (kk : ∀ s', sA d s' (pI1 (nt1 (gD d s) 2 r 0 (-1) 0 0) r) → mg s (d * 2804 + 7) ≤ mg s' (d * 2804 + 7) → dI d s' → oD d s s' → mg s' (d * 2804 + 6) = mg s (d * 2804 + 6) + 1 → K s') : mIdleP s d r 650 K := by
  have q6 := h.2.1
  exact idA0 sA.self h.2.2.1 hd (by omega) (by omega) h.1.2 rfl ⟨q6.1, h6⟩ hr (fun s' ha hl hc hV => by
    obtain ⟨a1, a2, a3⟩ := h.next hd rfl h6 hr (fun e => absurd e (by decide)) hc hV
    exact kk s' ha hl a1 a2 a3)
end
