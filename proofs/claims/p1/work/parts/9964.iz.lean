/-! ===== an event that comes ===== -/
/-- what an input leaves alone -/
def dG (d : Int) (s s' : MS) : Prop := (∀ c, hC c → mg s' (d * 2804 + c) = mg s (d * 2804 + c)) ∧ s'.1 8 = s.1 8
theorem dH.g {d : Int} {s s' : MS} (h : dH d s s') : dG d s s' := ⟨h.1, h.2.1⟩
theorem dG.trans {d : Int} {s t u : MS} (h : dG d s t) (g : dG d t u) : dG d s u := ⟨fun c hc => (g.1 c hc).trans (h.1 c hc), g.2.trans h.2⟩
theorem jF_ok {d n b i : Int} {s : MS} {K : MS → Prop} (hV : dV d n b s) (hd : dOk d) (hn : n ≤ 100) (hb : b ≤ 1000000) (hi : 0 ≤ i ∧ i < mg s (d * 2804 + 5)) (kk : ∀ s', dH d s s' → dV d n (b + 1) s' → K s') : jnF s d i K := by
  obtain ⟨a1, a2, a3⟩ := hV.send (kd := 2) hd hn hb ⟨by decide, by decide⟩ hi
  obtain ⟨b1, b2, b3⟩ := hV.send (kd := 0) hd hn hb ⟨by decide, by decide⟩ hi
  exact ⟨fun _ => ⟨a3, kk _ a2.hd a1⟩, fun _ => ⟨fun _ => ⟨b3, kk _ b2.hd b1⟩, fun _ => kk s dH.same (hV.more (by omega))⟩⟩
theorem jE_ok {d n b : Int} {s : MS} {K : MS → Prop} (hV : dV d n b s) (hd : dOk d) (hn : n ≤ 99) (hb : b ≤ 1000000) (hk : 0 ≤ s.2 4 0 ∧ s.2 4 0 ≤ 5) (kk : ∀ s', dH d s s' → dV d (n + 1) (b + 1) s' → K s') : jnE s d K := by
  have hd0 : 0 ≤ d := hd.1
  have fr : ∀ x, 0 ≤ x → x ≠ d * 2804 + 11 → mg (mInc s (d * 2804 + 11) (if 1 < s.1 12 then 1 else 0)) x = mg s x := fun x hx h => mInc_ne (by omega) hx (fun e => h e.symm)
  have V : dV d n b (mInc s (d * 2804 + 11) (if 1 < s.1 12 then 1 else 0)) := by
    refine ⟨by rw [fr _ (by omega) (by omega)]; exact hV.1, by rw [fr _ (by omega) (by omega)]; exact hV.2.1, fun k k0 k1 => by rw [fr _ (by omega) (by omega)]; exact hV.2.2.1 k k0 k1, fun j j0 j1 => ?_⟩
    have r1 : rw_ d j = d * 2804 + 364 + 7 * j := rfl
    rw [fr _ (by omega) (by omega)] at j1
    rw [fr _ (by omega) (by omega)]
    exact hV.2.2.2 j j0 j1
  have H : dH d s (mInc s (d * 2804 + 11) (if 1 < s.1 12 then 1 else 0)) := ⟨fun c hc => fr _ (by rcases hc with h | h | h <;> omega) (by rcases hc with h | h | h <;> omega), rfl, rfl⟩
  have hk1 : 0 ≤ (mInc s (d * 2804 + 11) (if 1 < s.1 12 then 1 else 0)).2 4 0 ∧ (mInc s (d * 2804 + 11) (if 1 < s.1 12 then 1 else 0)).2 4 0 ≤ 5 := hk
  unfold jnE
  simp only []
  generalize mInc s (d * 2804 + 11) (if 1 < s.1 12 then 1 else 0) = u at V H hk1 ⊢
  obtain ⟨g1, g2, g3⟩ := in_ok V hd hn hk1
  have h5 := V.1
  exact ⟨⟨by omega, by omega⟩, jF_ok g1 hd (by omega) hb g2 (fun s' hs hv => kk s' ((H.trans g3).trans hs) hv)⟩
theorem fresh_3 (s : MS) (k t v : Int) : (mFresh s k t v).2 3 = s.2 3 := by
  unfold mFresh
  rw [mF_3, mF_3, mF_3, mF_3, mF_3, mF_3, mF_3]
  rfl
theorem fresh_0 (s : MS) (k t v : Int) : (mFresh s k t v).2 4 0 = k := by
  unfold mFresh
  rw [mF_0 _ 5, mF_0 _ 4, mF_0 _ 3, mF_0 _ 2, mF_0 _ 1, mF_0 _ 0]
  rfl
theorem fresh_1 (s : MS) (k t v : Int) : (mFresh s k t v).1 8 = s.1 8 := by
  unfold mFresh
  rw [mF_1, mF_1, mF_1, mF_1, mF_1, mF_1, mF_1]
  rfl
theorem join_ok {d n b k t v : Int} {m : Nat} {s : MS} {K : MS → Prop} (hV : dV d n b s) (hd : dOk d) (hn : n ≤ 99) (hm : n ≤ m) (hb : b + m ≤ 1000000) (hk : 0 ≤ k ∧ k ≤ 5) (kk : ∀ s', dG d s s' → dV d (n + 1) (b + m + 1) s' → K s') : mJoinP s d k t v m K := by
  have V := hV.cong (fresh_3 s k t v)
  have e := mg_cong (fresh_3 s k t v)
  have e0 := fresh_0 s k t v
  have e1 := fresh_1 s k t v
  unfold mJoinP
  generalize mFresh s k t v = u at V e e0 e1 ⊢
  have h5 := V.1
  refine j1_ok hd (by omega) m b 0 u V (Int.le_refl _) (by omega) hb (fun s1 F1 V1 => ?_)
  have h51 := V1.1
  refine j2_ok hd (by omega) m _ s1 V1 (by rw [wI_id ⟨by omega, by omega⟩]; omega) (by rw [wI_id ⟨by omega, by omega⟩]; omega) (fun s2 H2 V2 => ?_)
  have e2 : s2.2 4 0 = k := by rw [H2.2.2, F1.2.2, e0]
  refine jE_ok V2 hd hn (by omega) (by rw [e2]; exact hk) (fun s3 H3 V3 => kk s3 ?_ V3)
  have H13 := (F1.hd.trans H2).trans H3
  exact ⟨fun c hc => by rw [H13.1 c hc, e], H13.2.1.trans e1⟩
/-- the progress may rise -/
theorem ris_ok {d n b : Int} {m : Nat} {s : MS} {K : MS → Prop} (hV : dV d n b s) (hd : dOk d) (hn : n ≤ 100) (hm : n ≤ m) (hb : b + 3 * m ≤ 1000000) (kk : ∀ s', (∀ c, hC c → c ≠ 4 → mg s' (d * 2804 + c) = mg s (d * 2804 + c)) → (mg s' (d * 2804 + 4) = mg s (d * 2804 + 4) ∨ (mg s (d * 2804 + 4) < mLeast s d ∧ mg s' (d * 2804 + 4) = mLeast s d)) → s'.1 8 = s.1 8 → dV d n (b + 3 * m) s' → K s') : mRisP s d m K := by
  have hd0 : 0 ≤ d := hd.1
  refine ⟨fun _ => kk s (fun _ _ _ => rfl) (Or.inl rfl) rfl (hV.more (by omega)), fun hl => ?_⟩
  have fr : ∀ x, 0 ≤ x → x ≠ d * 2804 + 4 → mg (mRise0 s d) x = mg s x := fun x hx h => mg_ne (s := s) (v := mLeast s d) (by omega) hx (fun e => h e.symm)
  have f4 : mg (mRise0 s d) (d * 2804 + 4) = mLeast s d := mg_eq (s := s)
  have f8 : (mRise0 s d).1 8 = s.1 8 := rfl
  have V : dV d n b (mRise0 s d) := by
    refine ⟨by rw [fr _ (by omega) (by omega)]; exact hV.1, by rw [fr _ (by omega) (by omega)]; exact hV.2.1, fun k k0 k1 => by rw [fr _ (by omega) (by omega)]; exact hV.2.2.1 k k0 k1, fun j j0 j1 => ?_⟩
    have r1 : rw_ d j = d * 2804 + 364 + 7 * j := rfl
    rw [fr _ (by omega) (by omega)] at j1
    rw [fr _ (by omega) (by omega)]
    exact hV.2.2.2 j j0 j1
  have h5 := V.1
  refine ⟨by omega, rr_ok hd hn m b _ V (by omega) ?_ (fun s1 F1 V1 => ⟨by rw [F1.five]; omega, cc_ok hd hn m (b + 2 * m) s1 V1 (by omega) (by rw [F1.five]; omega) (fun s2 H2 V2 => ?_)⟩)⟩
  · have := nd_k (mRise0 s d) d (mg (mRise0 s d) (d * 2804 + 5)).toNat
    omega
  · have H := F1.hd.trans H2
    refine kk s2 (fun c hc h4 => ?_) (Or.inr ⟨hl, ?_⟩) (H.2.1.trans f8) (V2.more (by omega))
    · rw [H.1 c hc]
      exact fr _ (by rcases hc with h | h | h <;> omega) (by omega)
    · rw [H.1 4 (Or.inl ⟨by decide, by decide⟩)]
      exact f4
/-- a desk of one source, j inputs behind it -/
def dI (d n b j : Int) (s : MS) : Prop := dV d n b s ∧ mg s (d * 2804 + 0) = 1 ∧ mg s (d * 2804 + 2) = 5 ∧ mg s (d * 2804 + 16) = 20 ∧ mg s (d * 2804 + 6) = j ∧ (0 ≤ mg s (d * 2804 + 4) ∧ mg s (d * 2804 + 4) ≤ 9979) ∧ 0 ≤ mg s (d * 2804 + 12) ∧ mg s (d * 2804 + 12) ≤ 9979
theorem note_lo {s : MS} {d a r t k v b x : Int} (hd : dOk d) (h6 : 0 ≤ mg s (d * 2804 + 6)) (hx : 0 ≤ x) (h : x < d * 2804 + 1844) (hne : x ≠ d * 2804 + 6) : mg (mNote s d a r t k v b) x = mg s x := by
  have hd0 : 0 ≤ d := hd.1
  unfold mNote
  simp only []
  rw [mInc_ne (by omega) hx (fun e => hne e.symm), mg_ne (by omega) hx (by omega), mg_ne (by omega) hx (by omega), mg_ne (by omega) hx (by omega), mg_ne (by omega) hx (by omega), mg_ne (by omega) hx (by omega), mg_ne (by omega) hx (by omega)]
theorem note_6 {s : MS} {d a r t k v b : Int} (hd : dOk d) (h6 : 0 ≤ mg s (d * 2804 + 6)) : mg (mNote s d a r t k v b) (d * 2804 + 6) = wI (mg s (d * 2804 + 6) + 1) := by
  have hd0 : 0 ≤ d := hd.1
  unfold mNote
  simp only []
  rw [mInc_eq, mg_ne (by omega) (by omega) (by omega), mg_ne (by omega) (by omega) (by omega), mg_ne (by omega) (by omega) (by omega), mg_ne (by omega) (by omega) (by omega), mg_ne (by omega) (by omega) (by omega), mg_ne (by omega) (by omega) (by omega)]
theorem note_1 {s : MS} {d a r t k v b : Int} : (mNote s d a r t k v b).1 = s.1 := rfl
theorem dV.lo {d n b : Int} {s s' : MS} (hV : dV d n b s) (hd : dOk d) (hn : n ≤ 100) (h : ∀ c, (c = 5 ∨ c = 7 ∨ (36 ≤ c ∧ c < 42) ∨ (364 ≤ c ∧ c < 1484)) → mg s' (d * 2804 + c) = mg s (d * 2804 + c)) : dV d n b s' := by
  have h5 := hV.1
  refine ⟨by rw [h 5 (by omega)]; exact hV.1, by rw [h 7 (by omega)]; exact hV.2.1, fun k k0 k1 => by rw [h (36 + k) (by omega)]; exact hV.2.2.1 k k0 k1, fun j j0 j1 => ?_⟩
  rw [h 5 (by omega)] at j1
  rw [row_at, h _ (by omega), ← row_at]
  exact hV.2.2.2 j j0 j1
