/-! ===== what closes, what joins ===== -/
/-- the cells that coming inputs leave alone but where they are told -/
def hC (c : Int) : Prop := c < 5 ∨ c = 6 ∨ (8 ≤ c ∧ c < 32 ∧ c ≠ 11) ∨ 1844 ≤ c
def dH (d : Int) (s s' : MS) : Prop := (∀ c, 0 ≤ d * 2804 + c → hC c → mg s' (d * 2804 + c) = mg s (d * 2804 + c)) ∧ sF s s' ∧ s'.2 4 0 = s.2 4 0 ∧ (s.2 4 1 ≤ s.2 4 2 → s'.2 4 1 ≤ s'.2 4 2) ∧ mg s (d * 2804 + 7) ≤ mg s' (d * 2804 + 7)
theorem dH.same {d : Int} {s : MS} : dH d s s := ⟨fun _ _ _ => rfl, sF.same, rfl, fun h => h, Int.le_refl _⟩
theorem dH.trans {d : Int} {s t u : MS} (h : dH d s t) (g : dH d t u) : dH d s u := ⟨fun c h0 hc => (g.1 c h0 hc).trans (h.1 c h0 hc), h.2.1.trans g.2.1, g.2.2.1.trans h.2.2.1, fun q => g.2.2.2.1 (h.2.2.2.1 q), Int.le_trans h.2.2.2.2 g.2.2.2.2⟩
theorem dH_c {d : Int} {s s' : MS} (h : ∀ c, 0 ≤ d * 2804 + c → hC c → mg s' (d * 2804 + c) = mg s (d * 2804 + c)) (g : cF s s') (h7 : mg s' (d * 2804 + 7) = mg s (d * 2804 + 7)) : dH d s s' := ⟨h, g.s, by rw [g.2 4 (by decide)], fun q => (by rw [g.2 4 (by decide)]; exact q), Int.le_of_eq h7.symm⟩
theorem dF.hd {d : Int} {s s' : MS} (h : dF d s s') : dH d s s' := ⟨fun c h0 hc => h.1 c h0 (by
  rcases hc with h | h | h | h
  · exact Or.inl (by omega)
  · exact Or.inl (by omega)
  · exact Or.inr (Or.inl ⟨by omega, by omega⟩)
  · exact Or.inr (Or.inr (Or.inr (Or.inr (Or.inl h))))), h.2.2.1, by rw [h.2.2.2.1], fun q => (by rw [h.2.2.2.1]; exact q), h.2.2.2.2⟩
theorem clL_fr (k d i : Int) (hk : 0 ≤ k) : ∀ (m : Nat) (w : Int) (s : MS) (x : Int), 0 ≤ w → 0 ≤ x → (x < k + w ∨ k + w + m ≤ x) → mg (clL k d i m w s) x = mg s x
  | 0, _, _, _, _, _, _ => rfl
  | m + 1, w, s, x, hw, hx, h => by
    rw [clL, clL_fr k d i hk m (w + 1) _ x (by omega) hx (by omega), mg_ne (by omega) hx (by omega)]
theorem clL_1 (k d i : Int) : ∀ (m : Nat) (w : Int) (s : MS), cF s (clL k d i m w s)
  | 0, _, _ => cF.same
  | m + 1, w, s => by
    rw [clL]
    exact cF_P.trans (clL_1 k d i m (w + 1) _)
theorem sum6_nn {f : Int → Int} {b : Int} (hb : b ≤ 1000001) (h : ∀ k, 0 ≤ k → k ≤ 5 → 0 ≤ f k ∧ f k ≤ b) : 0 ≤ sumI f 6 0 0 := by
  have h0 := h 0 (by decide) (by decide)
  have h1 := h 1 (by decide) (by decide)
  have h2 := h 2 (by decide) (by decide)
  have h3 := h 3 (by decide) (by decide)
  have h4 := h 4 (by decide) (by decide)
  have h5 := h 5 (by decide) (by decide)
  have e : sumI f 6 0 0 = wI (wI (wI (wI (wI (wI (0 + f 0) + f 1) + f 2) + f 3) + f 4) + f 5) := rfl
  have a0 : wI (0 + f 0) = f 0 := by rw [wI_id ⟨by omega, by omega⟩]; omega
  have a1 : wI (f 0 + f 1) = f 0 + f 1 := wI_id ⟨by omega, by omega⟩
  have a2 : wI (f 0 + f 1 + f 2) = f 0 + f 1 + f 2 := wI_id ⟨by omega, by omega⟩
  have a3 : wI (f 0 + f 1 + f 2 + f 3) = f 0 + f 1 + f 2 + f 3 := wI_id ⟨by omega, by omega⟩
  have a4 : wI (f 0 + f 1 + f 2 + f 3 + f 4) = f 0 + f 1 + f 2 + f 3 + f 4 := wI_id ⟨by omega, by omega⟩
  have a5 : wI (f 0 + f 1 + f 2 + f 3 + f 4 + f 5) = f 0 + f 1 + f 2 + f 3 + f 4 + f 5 := wI_id ⟨by omega, by omega⟩
  rw [e, a0, a1, a2, a3, a4, a5]
  omega
theorem out_fr {s : MS} {d i x : Int} (hd : dOk d) (hi : 0 ≤ i) (hx : 0 ≤ x) (hz : mg (mOut1 s d) (d * 2804 + 5) ≤ 160) (h : x < d * 2804 + 364 ∨ d * 2804 + 1484 ≤ x) : mg (mOut s d i) x = mg (mOut1 s d) x := by
  have hd0 : 0 ≤ d := hd.1
  show (if _ then _ else _) = _
  rw [if_neg (fun q => by omega)]
  rfl
theorem out1_5 {s : MS} {d : Int} : mg (mOut1 s d) (d * 2804 + 5) = wI (mg s (d * 2804 + 5) + -1) := mInc_eq
theorem out1_ne {s : MS} {d x : Int} (hd : dOk d) (hx : 0 ≤ x) (h : x ≠ d * 2804 + 5) : mg (mOut1 s d) x = mg s x := mInc_ne (by have := hd.1; omega) hx (fun e => h e.symm)
theorem out_row {s : MS} {d i j : Int} (hd : dOk d) (hi : 0 ≤ i) (hj : 0 ≤ j) (h : j < mg (mOut1 s d) (d * 2804 + 5)) : ∃ j', 0 ≤ j' ∧ j' < mg (mOut1 s d) (d * 2804 + 5) + 1 ∧ ∀ q, 0 ≤ q → q ≤ 6 → mg (mOut s d i) (rw_ d j + q) = mg s (rw_ d j' + q) := by
  have hd0 : 0 ≤ d := hd.1
  have r1 : rw_ d j = d * 2804 + 364 + 7 * j := rfl
  have r2 : rw_ d (j + 1) = d * 2804 + 364 + 7 * (j + 1) := rfl
  by_cases hc : i ≤ j
  · refine ⟨j + 1, by omega, by omega, fun q q0 q1 => ?_⟩
    show (if _ then (mOut1 s d).2 3 _ else _) = _
    rw [if_pos (by constructor <;> omega), show (rw_ d j + q).toNat + 7 = (rw_ d (j + 1) + q).toNat by omega]
    exact out1_ne hd (by omega) (by omega)
  · refine ⟨j, hj, by omega, fun q q0 q1 => ?_⟩
    show (if _ then _ else _) = _
    rw [if_neg (fun q => by omega)]
    exact out1_ne hd (by omega) (by omega)
theorem out_c {s : MS} {d i : Int} : cF s (mOut s d i) := by
  unfold mOut mOut1
  exact cF_I.trans cF_A
theorem out_hd {s : MS} {d i : Int} (hd : dOk d) (hi : 0 ≤ i) (hz : mg (mOut1 s d) (d * 2804 + 5) ≤ 160) : dH d s (mOut s d i) := by
  have hd0 : 0 ≤ d := hd.1
  refine dH_c (fun c h0 hc => ?_) out_c (by rw [out_fr hd hi (by omega) hz (by omega), out1_ne hd (by omega) (by omega)])
  have : (c < 32 ∨ 1844 ≤ c) ∧ c ≠ 5 := by rcases hc with h | h | h | h <;> omega
  rw [out_fr hd hi h0 hz (by omega), out1_ne hd h0 (by omega)]
/-- a row goes out: one session less -/
theorem dV.out {d n b i : Int} {s : MS} (h : dV d n b s) (hd : dOk d) (hn : n ≤ 161) (hi : 0 ≤ i ∧ i < mg s (d * 2804 + 5)) : dV d n b (mOut s d i) ∧ mg (mOut s d i) (d * 2804 + 5) = mg s (d * 2804 + 5) - 1 ∧ mg (mOut1 s d) (d * 2804 + 5) = mg s (d * 2804 + 5) - 1 := by
  have hd0 : 0 ≤ d := hd.1
  have h5 := h.1
  have e1 : mg (mOut1 s d) (d * 2804 + 5) = mg s (d * 2804 + 5) - 1 := by rw [out1_5, wI_id ⟨by omega, by omega⟩]; omega
  have hz : mg (mOut1 s d) (d * 2804 + 5) ≤ 160 := by omega
  have e5 : mg (mOut s d i) (d * 2804 + 5) = mg s (d * 2804 + 5) - 1 := by rw [out_fr hd hi.1 (by omega) hz (by omega)]; exact e1
  refine ⟨⟨by rw [e5]; omega, ?_, fun k k0 k1 => ?_, fun j j0 j1 => ?_, fun hn2 j j0 j1 => ?_⟩, e5, e1⟩
  · rw [out_fr hd hi.1 (by omega) hz (by omega), out1_ne hd (by omega) (by omega)]
    exact h.2.1
  · rw [out_fr hd hi.1 (by omega) hz (by omega), out1_ne hd (by omega) (by omega)]
    exact h.2.2.1 k k0 k1
  · rw [e5] at j1
    obtain ⟨j', a1, a2, a3⟩ := out_row (s := s) (i := i) (j := j) hd hi.1 j0 (by rw [e1]; exact j1)
    rw [a3 0 (by decide) (by decide)]
    exact h.2.2.2.1 j' a1 (by rw [e1] at a2; omega)
  · rw [e5] at j1
    obtain ⟨j', a1, a2, a3⟩ := out_row (s := s) (i := i) (j := j) hd hi.1 j0 (by rw [e1]; exact j1)
    rw [a3 1 (by decide) (by decide), a3 2 (by decide) (by decide)]
    exact h.2.2.2.2 hn2 j' a1 (by rw [e1] at a2; omega)
theorem cl2_ok {d n b i : Int} {s : MS} (h : dV d n b s) (hd : dOk d) (hn : n ≤ 161) (hb : b ≤ 1000000) (hi : 0 ≤ i ∧ i < mg s (d * 2804 + 5)) : dV d n (b + 1) (mCl2 s d i) ∧ dH d s (mCl2 s d i) ∧ mg (mCl2 s d i) (d * 2804 + 5) = mg s (d * 2804 + 5) := by
  have hd0 : 0 ≤ d := hd.1
  have hk := h.2.2.2.1 i hi.1 hi.2
  have fr : ∀ x, 0 ≤ x → (x < d * 2804 + 36 ∨ d * 2804 + 60 ≤ x) → mg (mCl2 s d i) x = mg s x := by
    intro x hx h
    have hk' : 0 ≤ mg s ((d * 2804 + 364 + 7 * i) + 0) ∧ mg s ((d * 2804 + 364 + 7 * i) + 0) ≤ 5 := hk
    unfold mCl2
    simp only []
    rw [mg_ne (by omega) hx (by omega), mInc_ne (by omega) hx (by omega), mInc_ne (by omega) hx (by omega), mInc_ne (by omega) hx (by omega)]
  have frk : ∀ k, 0 ≤ k → k ≤ 5 → mg (mCl2 s d i) (d * 2804 + (36 + k)) = mg s (d * 2804 + (36 + k)) ∨ mg (mCl2 s d i) (d * 2804 + (36 + k)) = wI (mg s (d * 2804 + (36 + k)) + 1) := by
    intro k k0 k1
    have hk' : 0 ≤ mg s ((d * 2804 + 364 + 7 * i) + 0) ∧ mg s ((d * 2804 + 364 + 7 * i) + 0) ≤ 5 := hk
    unfold mCl2
    simp only []
    rw [mg_ne (by omega) (by omega) (by omega), mInc_ne (by omega) (by omega) (by omega), mInc_ne (by omega) (by omega) (by omega)]
    by_cases e : mg s ((d * 2804 + 364 + 7 * i) + 0) = k
    · rw [e]
      exact Or.inr mInc_eq
    · exact Or.inl (mInc_ne (by omega) (by omega) (by omega))
  have h5 := h.1
  have cf : cF s (mCl2 s d i) := by
    unfold mCl2
    exact ((cF_I.trans cF_I).trans cF_I).trans cF_P
  refine ⟨⟨by rw [fr _ (by omega) (by omega)]; exact h.1, by rw [fr _ (by omega) (by omega)]; exact ⟨h.2.1.1, by have := h.2.1.2; omega⟩, fun k k0 k1 => ?_, fun j j0 j1 => ?_, fun hn2 j j0 j1 => ?_⟩, dH_c (fun c h0 hc => ?_) cf (fr _ (by omega) (by omega)), fr _ (by omega) (by omega)⟩
  · have := h.2.2.1 k k0 k1
    rcases frk k k0 k1 with e | e
    · rw [e]; omega
    · rw [e, wI_id ⟨by omega, by omega⟩]; omega
  · have r1 : rw_ d j = d * 2804 + 364 + 7 * j := rfl
    rw [fr _ (by omega) (by omega)] at j1
    rw [fr _ (by omega) (by omega)]
    exact h.2.2.2.1 j j0 j1
  · have r1 : rw_ d j = d * 2804 + 364 + 7 * j := rfl
    rw [fr _ (by omega) (by omega)] at j1
    rw [fr _ (by omega) (by omega), fr _ (by omega) (by omega)]
    exact h.2.2.2.2 hn2 j j0 j1
  · have : c < 32 ∨ 1844 ≤ c := by rcases hc with h | h | h | h <;> omega
    exact fr _ (by omega) (by omega)
theorem close_ok {d n b i : Int} {s : MS} (h : dV d n b s) (hd : dOk d) (hn : n ≤ 161) (hb : b ≤ 1000000) (hi : 0 ≤ i ∧ i < mg s (d * 2804 + 5)) : mClP s d i ∧ dV d n (b + 1) (mClose s d i) ∧ dH d s (mClose s d i) ∧ mg (mClose s d i) (d * 2804 + 5) = mg s (d * 2804 + 5) - 1 := by
  have hd0 : 0 ≤ d := hd.1
  have hcl : 0 ≤ mClosed s d := sum6_nn (f := fun k => mg s (d * 2804 + (36 + k))) (b := b) (by omega) h.2.2.1
  have ht := tmod40 hcl
  have hp : 0 ≤ pFi s d := by show 0 ≤ d * 2804 + 84 + 7 * Int.tmod (mClosed s d) 40; omega
  have hp1 : d * 2804 + 84 ≤ pFi s d ∧ pFi s d ≤ d * 2804 + 357 := by
    show d * 2804 + 84 ≤ d * 2804 + 84 + 7 * Int.tmod (mClosed s d) 40 ∧ d * 2804 + 84 + 7 * Int.tmod (mClosed s d) 40 ≤ _
    omega
  have fr : ∀ x, 0 ≤ x → (x < d * 2804 + 84 ∨ d * 2804 + 364 ≤ x) → mg (clL (pFi s d) d i 7 0 s) x = mg s x := fun x hx h => clL_fr _ d i hp 7 0 s x (by decide) hx (by omega)
  have h1 := clL_1 (pFi s d) d i 7 0 s
  have h5 := h.1
  have V : dV d n b (clL (pFi s d) d i 7 0 s) := by
    refine ⟨by rw [fr _ (by omega) (by omega)]; exact h.1, by rw [fr _ (by omega) (by omega)]; exact h.2.1, fun k k0 k1 => by rw [fr _ (by omega) (by omega)]; exact h.2.2.1 k k0 k1, fun j j0 j1 => ?_, fun hn2 j j0 j1 => ?_⟩
    · have r1 : rw_ d j = d * 2804 + 364 + 7 * j := rfl
      rw [fr _ (by omega) (by omega)] at j1
      rw [fr _ (by omega) (by omega)]
      exact h.2.2.2.1 j j0 j1
    · have r1 : rw_ d j = d * 2804 + 364 + 7 * j := rfl
      rw [fr _ (by omega) (by omega)] at j1
      rw [fr _ (by omega) (by omega), fr _ (by omega) (by omega)]
      exact h.2.2.2.2 hn2 j j0 j1
  have H0 : dH d s (clL (pFi s d) d i 7 0 s) := dH_c (fun c h0 hc => fr _ h0 (by rcases hc with h | h | h | h <;> omega)) h1 (fr _ (by omega) (by omega))
  have e5 : mg (clL (pFi s d) d i 7 0 s) (d * 2804 + 5) = mg s (d * 2804 + 5) := fr _ (by omega) (by omega)
  obtain ⟨V2, H2, f5⟩ := cl2_ok (i := i) V hd hn hb ⟨hi.1, by rw [e5]; exact hi.2⟩
  obtain ⟨V3, g5, g6⟩ := V2.out (i := i) hd hn ⟨hi.1, by rw [f5, e5]; exact hi.2⟩
  rw [f5, e5] at g5 g6
  refine ⟨⟨hp, ⟨V.2.2.2.1 i hi.1 (by rw [e5]; exact hi.2), by rw [g6]; omega, by rw [g6]; omega⟩, ?_⟩, V3, (H0.trans H2).trans (out_hd hd hi.1 (by rw [g6]; omega)), g5⟩
  show mg (mOut (mCl2 _ d i) d i) _ ≤ 161
  rw [g5]; omega
theorem cc_ok {d n : Int} {K : MS → Prop} (hd : dOk d) (hn : n ≤ 161) : ∀ (m : Nat) (b : Int) (s : MS), dV d n b s → b + m ≤ 1000000 → mg s (d * 2804 + 5) ≤ m → (∀ s', dH d s s' → dV d n (b + m) s' → K s') → ccP d K m (mFirstC s d) s
  | 0, b, s, hV, hb, hc, k => by
    refine ⟨?_, k s dH.same (hV.more (by omega))⟩
    rcases firstC_sp hV.1.1 with h | h
    · exact h
    · omega
  | m + 1, b, s, hV, hb, hc, k => by
    refine ⟨fun _ => k s dH.same (hV.more (by omega)), fun h0 => ?_⟩
    rcases firstC_sp hV.1.1 with h | h
    · exact absurd h (by omega)
    obtain ⟨c1, c2, c3, c4⟩ := close_ok (i := mFirstC s d) hV hd hn (by omega) h
    exact ⟨c1, cc_ok hd hn m (b + 1) _ c2 (by omega) (by omega) (fun s' hF hV' => k s' (c3.trans hF) (hV'.more (by omega)))⟩
