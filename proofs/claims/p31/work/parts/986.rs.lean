/-! ===== what gets ripe, where 161 rows stand; the progress rises; an event joins ===== -/
theorem nu_ex : ∃ f : MS → Int → Nat, ∀ s d, f s d = nd s d 160 := ⟨_, fun _ _ => rfl⟩
noncomputable def nu : MS → Int → Nat := Classical.choose nu_ex
theorem nu_eq (s : MS) (d : Int) : nu s d = nd s d 160 := Classical.choose_spec nu_ex s d
theorem nu_k (s : MS) (d : Int) : nu s d ≤ 160 := by rw [nu_eq]; exact nd_k s d 160
theorem nu_pos {s : MS} {d i : Int} (h0 : 0 ≤ i) (h1 : i < 160) (h : ¬ mDone s d i) : 1 ≤ nu s d := by
  rw [nu_eq]
  exact nd_pos (s := s) (d := d) 160 i.toNat (by omega) (by rw [show ((i.toNat : Nat) : Int) = i by omega]; exact h)
theorem ri_s {d b i : Int} {s : MS} (hd : dOk d) (hV : dV d 161 b s) (hb : b + 2 ≤ 1000000) (hr : ∀ j, 0 ≤ j → j < 160 → mg s (rw_ d j + 1) ≤ mg s (rw_ d j + 2)) (h0 : 0 ≤ i) (hi : i < mg s (d * 2804 + 5)) (hdn : ¬ mDone s d i) : mRiP s d i ∧ dF d s (mRi1 s d i) ∧ dV d 161 (b + 2) (mRi1 s d i) ∧ (i < 160 → nu (mRi1 s d i) d < nu s d) ∧ (i = 160 → mDone (mRi1 s d i) d 160 ∧ (iq d s → nu (mRi1 s d i) d ≤ nu s d)) ∧ (iq d s ∨ i = 160 → iq d (mRi1 s d i)) := by
  rw [nu_eq, nu_eq]
  exact ri_step hd hV hb hr h0 hi hdn
theorem rrB {d wa : Int} {K : MS → Prop} (hd : dOk d) : ∀ (m : Nat) (b : Int) (s : MS), dV d 161 b s → b + 2 * m ≤ 1000000 → (∀ j, 0 ≤ j → j < 160 → mg s (rw_ d j + 1) ≤ mg s (rw_ d j + 2)) → iq d s → 2 * nu s d + (if mDone s d 160 then 0 else 1) ≤ m → (∀ s', dF d s s' → dV d 161 (b + 2 * m) s' → K s') → rrP d wa K m (mFirstR s d wa) s
  | 0, b, s, hV, hb, hr, hI, hc, k => by
    refine ⟨?_, k s dF.same (hV.more (by omega))⟩
    rcases firstR_sp (wa := wa) hV.1.1 with h | h
    · exact h
    · exfalso
      have h5 := hV.1
      by_cases e : mFirstR s d wa = 160
      · have := h.2.2.2.2
        rw [e] at this
        rw [if_neg this] at hc
        omega
      · have := nu_pos (s := s) (d := d) h.1 (by omega) h.2.2.2.2
        omega
  | m + 1, b, s, hV, hb, hr, hI, hc, k => by
    refine ⟨fun _ => k s dF.same (hV.more (by omega)), fun h0 => ?_⟩
    rcases firstR_sp (wa := wa) hV.1.1 with h | h
    · exact absurd h (by omega)
    generalize mFirstR s d wa = i at h h0
    have h5 := hV.1
    obtain ⟨g1, g2, g3, g4, g5, g6⟩ := ri_s hd hV (by omega) hr h0 h.2.1 h.2.2.2.2
    refine ⟨g1, rrB hd m (b + 2) _ g3 (by omega) (fun j j0 j1 => by rw [g2.row hd ⟨j0, j1⟩ ⟨by decide, by decide⟩, g2.row hd ⟨j0, j1⟩ ⟨by decide, by decide⟩]; exact hr j j0 j1) (g6 (Or.inl hI)) ?_ (fun s' hF hV' => k s' (g2.trans hF) (hV'.more (by omega)))⟩
    by_cases e : i = 160
    · have z := (g5 e).2 hI
      rw [if_pos (g5 e).1]
      have hd1 := h.2.2.2.2
      rw [e] at hd1
      rw [if_neg hd1] at hc
      omega
    · have z := g4 (by omega)
      split <;> omega
theorem rrA {d wa : Int} {K : MS → Prop} (hd : dOk d) : ∀ (m : Nat) (b : Int) (s : MS), dV d 161 b s → b + 2 * m ≤ 1000000 → (∀ j, 0 ≤ j → j < 160 → mg s (rw_ d j + 1) ≤ mg s (rw_ d j + 2)) → 2 * nu s d + 323 ≤ m → (∀ s', dF d s s' → dV d 161 (b + 2 * m) s' → K s') → rrP d wa K m (mFirstR s d wa) s
  | 0, b, s, hV, hb, hr, hc, k => absurd hc (by omega)
  | m + 1, b, s, hV, hb, hr, hc, k => by
    refine ⟨fun _ => k s dF.same (hV.more (by omega)), fun h0 => ?_⟩
    rcases firstR_sp (wa := wa) hV.1.1 with h | h
    · exact absurd h (by omega)
    generalize mFirstR s d wa = i at h h0
    have h5 := hV.1
    obtain ⟨g1, g2, g3, g4, g5, g6⟩ := ri_s hd hV (by omega) hr h0 h.2.1 h.2.2.2.2
    have hr2 : ∀ j, 0 ≤ j → j < 160 → mg (mRi1 s d i) (rw_ d j + 1) ≤ mg (mRi1 s d i) (rw_ d j + 2) := fun j j0 j1 => by
      rw [g2.row hd ⟨j0, j1⟩ ⟨by decide, by decide⟩, g2.row hd ⟨j0, j1⟩ ⟨by decide, by decide⟩]
      exact hr j j0 j1
    have n1 := nu_k (mRi1 s d i) d
    refine ⟨g1, ?_⟩
    by_cases hI : iq d (mRi1 s d i)
    · refine rrB hd m (b + 2) _ g3 (by omega) hr2 hI ?_ (fun s' hF hV' => k s' (g2.trans hF) (hV'.more (by omega)))
      by_cases e : i = 160
      · split <;> omega
      · have z := g4 (by omega)
        split <;> omega
    · have e : i ≠ 160 := fun e => hI (g6 (Or.inr e))
      have z := g4 (by omega)
      exact rrA hd m (b + 2) _ g3 (by omega) hr2 (by omega) (fun s' hF hV' => k s' (g2.trans hF) (hV'.more (by omega)))
theorem rrP_more {d wa : Int} {K : MS → Prop} : ∀ (n : Nat) (i : Int) (s : MS), rrP d wa K n i s → rrP d wa K (n + 1) i s
  | 0, i, s, h => ⟨fun _ => h.2, fun q => absurd h.1 (by omega)⟩
  | n + 1, i, s, h => ⟨h.1, fun q => ⟨(h.2 q).1, rrP_more n _ _ (h.2 q).2⟩⟩
theorem rrP_le {d wa : Int} {K : MS → Prop} {n : Nat} {i : Int} {s : MS} (h : rrP d wa K n i s) : ∀ m, n ≤ m → rrP d wa K m i s := by
  intro m hm
  induction m with
  | zero => exact (show n = 0 by omega) ▸ h
  | succ m ih =>
    by_cases e : n = m + 1
    · exact e ▸ h
    · exact rrP_more _ _ _ (ih (by omega))
/-- all rows of a desk as they should be -/
abbrev okRs (d : Int) (s : MS) : Prop := ∀ j, 0 ≤ j → j < 160 → j < mg s (d * 2804 + 5) → mg s (rw_ d j + 1) ≤ mg s (rw_ d j + 2)
theorem rr2_ok {d wa n b : Int} {s : MS} {K : MS → Prop} (hd : dOk d) (hn : n ≤ 161) (hV : dV d n b s) (hr : okRs d s) (hb : b + 1300 ≤ 1000000) (k : ∀ s', dF d s s' → dV d n (b + 1300) s' → K s') : rrP d wa K 650 (mFirstR s d wa) s := by
  have h5 := hV.1
  by_cases h : mg s (d * 2804 + 5) ≤ 160
  · have V : dV d (mg s (d * 2804 + 5)) b s := ⟨⟨h5.1, Int.le_refl _⟩, hV.2.1, hV.2.2.1, hV.2.2.2.1, fun _ j j0 j1 => hr j j0 (by omega) j1⟩
    refine rrP_le (rr_ok (n := mg s (d * 2804 + 5)) hd h (mg s (d * 2804 + 5)).toNat b s V (by omega) (nd_k _ _ _) (fun s' hF hV' => k s' hF ?_)) 650 (by omega)
    exact ⟨by rw [hF.five hd]; exact h5, ⟨hV'.2.1.1, by have := hV'.2.1.2; omega⟩, fun q q0 q1 => ⟨(hV'.2.2.1 q q0 q1).1, by have := (hV'.2.2.1 q q0 q1).2; omega⟩, hV'.2.2.2.1, fun _ => hV'.2.2.2.2 h⟩
  · have e : n = 161 := by omega
    subst e
    have n1 := nu_k s d
    exact rrA hd 650 b s hV (by omega) (fun j j0 j1 => hr j j0 j1 (by omega)) (by omega) (fun s' hF hV' => k s' hF (hV'.more (by omega)))
theorem ccP_more {d : Int} {K : MS → Prop} : ∀ (n : Nat) (i : Int) (s : MS), ccP d K n i s → ccP d K (n + 1) i s
  | 0, i, s, h => ⟨fun _ => h.2, fun q => absurd h.1 (by omega)⟩
  | n + 1, i, s, h => ⟨h.1, fun q => ⟨(h.2 q).1, ccP_more n _ _ (h.2 q).2⟩⟩
theorem dV.at {d n b : Int} {s s' : MS} (hV : dV d n b s) (hd : dOk d) (hn : n ≤ 161) (h : ∀ c, (c = 5 ∨ c = 7 ∨ (36 ≤ c ∧ c < 42) ∨ (364 ≤ c ∧ c < 1491)) → mg s' (d * 2804 + c) = mg s (d * 2804 + c)) : dV d n b s' := by
  have h5 := hV.1
  refine ⟨by rw [h 5 (by omega)]; exact hV.1, by rw [h 7 (by omega)]; exact hV.2.1, fun k k0 k1 => by rw [h (36 + k) (by omega)]; exact hV.2.2.1 k k0 k1, fun j j0 j1 => ?_, fun hn2 j j0 j1 => ?_⟩
  · rw [h 5 (by omega)] at j1
    rw [row_at, h _ (by omega), ← row_at]
    exact hV.2.2.2.1 j j0 j1
  · rw [h 5 (by omega)] at j1
    rw [row_at, row_at, h _ (by omega), h _ (by omega), ← row_at, ← row_at]
    exact hV.2.2.2.2 hn2 j j0 j1
theorem okRs.at {d n b : Int} {s s' : MS} (hr : okRs d s) (hV : dV d n b s) (hd : dOk d) (hn : n ≤ 161) (h : ∀ c, (c = 5 ∨ c = 7 ∨ (36 ≤ c ∧ c < 42) ∨ (364 ≤ c ∧ c < 1491)) → mg s' (d * 2804 + c) = mg s (d * 2804 + c)) : okRs d s' := by
  have h5 := hV.1
  intro j j0 j2 j1
  rw [h 5 (by omega)] at j1
  rw [row_at, row_at, h _ (by omega), h _ (by omega), ← row_at, ← row_at]
  exact hr j j0 j2 j1
theorem okRs.f {d : Int} {s s' : MS} (hr : okRs d s) (hd : dOk d) (h : dF d s s') : okRs d s' := by
  intro j j0 j2 j1
  rw [h.five hd] at j1
  rw [h.row hd ⟨j0, j2⟩ ⟨by decide, by decide⟩, h.row hd ⟨j0, j2⟩ ⟨by decide, by decide⟩]
  exact hr j j0 j2 j1
/-- the progress may rise -/
theorem ris_ok {d n b : Int} {s : MS} {K : MS → Prop} (hV : dV d n b s) (hr : okRs d s) (hd : dOk d) (hn : n ≤ 161) (hb : b + 2000 ≤ 1000000) (kk : ∀ s', (∀ c, 0 ≤ d * 2804 + c → hC c → c ≠ 4 → mg s' (d * 2804 + c) = mg s (d * 2804 + c)) → sF s s' → dV d n (b + 2000) s' → K s') : mRisP s d 650 K := by
  have hd0 : 0 ≤ d := hd.1
  refine ⟨fun _ => kk s (fun _ _ _ _ => rfl) sF.same (hV.more (by omega)), fun hl => ?_⟩
  have fr : ∀ x, 0 ≤ x → x ≠ d * 2804 + 4 → mg (mRise0 s d) x = mg s x := fun x hx h => mg_ne (s := s) (v := mLeast s d) (by omega) hx (fun e => h e.symm)
  have S0 : sF s (mRise0 s d) := (cF_P.s.trans (sF_S (Or.inl rfl))).trans (sF_S (Or.inr (Or.inl rfl)))
  have V : dV d n b (mRise0 s d) := hV.at hd hn (fun c hc => fr _ (by omega) (by omega))
  have R : okRs d (mRise0 s d) := hr.at hV hd hn (fun c hc => fr _ (by omega) (by omega))
  have h5 := V.1
  refine ⟨by omega, rr2_ok hd hn V R (by omega) (fun s1 F1 V1 => ⟨by rw [F1.five hd]; omega, cc_ok hd hn 650 (b + 1300) s1 V1 (by omega) (by rw [F1.five hd]; omega) (fun s2 H2 V2 => ?_)⟩)⟩
  have H := F1.hd.trans H2
  refine kk s2 (fun c c0 hc h4 => ?_) (S0.trans H.2.1) (V2.more (by omega))
  rw [H.1 c c0 hc]
  exact fr _ c0 (by omega)
theorem jF_ok {d n b i : Int} {s : MS} {K : MS → Prop} (hV : dV d n b s) (hr : okRs d s) (hd : dOk d) (hn : n ≤ 161) (hb : b ≤ 1000000) (hi : 0 ≤ i ∧ i < mg s (d * 2804 + 5)) (kk : ∀ s', dH d s s' → dV d n (b + 1) s' → okRs d s' → K s') : jnF s d i K := by
  obtain ⟨a1, a2, a3⟩ := hV.send (kd := 2) hd hn hb ⟨by decide, by decide⟩ hi
  obtain ⟨b1, b2, b3⟩ := hV.send (kd := 0) hd hn hb ⟨by decide, by decide⟩ hi
  exact ⟨fun _ => ⟨a3, kk _ a2.hd a1 (hr.f hd a2)⟩, fun _ => ⟨fun _ => ⟨b3, kk _ b2.hd b1 (hr.f hd b2)⟩, fun _ => kk s dH.same (hV.more (by omega)) hr⟩⟩
theorem jE_ok {d n b : Int} {s : MS} {K : MS → Prop} (hV : dV d n b s) (hd : dOk d) (hn : n ≤ 160) (hb : b ≤ 1000000) (hk : 0 ≤ s.2 4 0 ∧ s.2 4 0 ≤ 5) (hf : s.2 4 1 ≤ s.2 4 2) (kk : ∀ s', dH d s s' → dV d (n + 1) (b + 1) s' → okRs d s' → K s') : jnE s d K := by
  have hd0 : 0 ≤ d := hd.1
  have fr : ∀ x, 0 ≤ x → x ≠ d * 2804 + 11 → mg (mInc s (d * 2804 + 11) (if 1 < s.1 12 then 1 else 0)) x = mg s x := fun x hx h => mInc_ne (by omega) hx (fun e => h e.symm)
  have V : dV d n b (mInc s (d * 2804 + 11) (if 1 < s.1 12 then 1 else 0)) := hV.at hd (by omega) (fun c hc => fr _ (by omega) (by omega))
  have H : dH d s (mInc s (d * 2804 + 11) (if 1 < s.1 12 then 1 else 0)) := dH_c (fun c c0 hc => fr _ c0 (by rcases hc with h | h | h | h <;> omega)) cF_I (fr _ (by omega) (by omega))
  have hk1 : 0 ≤ (mInc s (d * 2804 + 11) (if 1 < s.1 12 then 1 else 0)).2 4 0 ∧ (mInc s (d * 2804 + 11) (if 1 < s.1 12 then 1 else 0)).2 4 0 ≤ 5 := hk
  have hf1 : (mInc s (d * 2804 + 11) (if 1 < s.1 12 then 1 else 0)).2 4 1 ≤ (mInc s (d * 2804 + 11) (if 1 < s.1 12 then 1 else 0)).2 4 2 := hf
  unfold jnE
  simp only []
  generalize mInc s (d * 2804 + 11) (if 1 < s.1 12 then 1 else 0) = u at V H hk1 hf1 ⊢
  obtain ⟨g1, g2, g3, g4⟩ := in_ok V hd hn hk1 hf1
  have h5 := V.1
  exact ⟨⟨by omega, by omega⟩, jF_ok g1 (fun j j0 _ j1 => (g4 j j0 j1).2) hd (by omega) hb g2 (fun s' hs hv ho => kk s' ((H.trans g3).trans hs) hv ho)⟩
theorem fresh_3 (s : MS) (k t v : Int) : (mFresh s k t v).2 3 = s.2 3 := by
  unfold mFresh
  rw [mF_3, mF_3, mF_3, mF_3, mF_3, mF_3, mF_3]
  rfl
theorem fresh_v (s : MS) (k t v : Int) : (mFresh s k t v).2 4 0 = k ∧ (mFresh s k t v).2 4 1 = t ∧ (mFresh s k t v).2 4 2 = t := by
  unfold mFresh
  refine ⟨?_, ?_, ?_⟩
  · rw [mF_n (by decide), mF_n (by decide), mF_n (by decide), mF_n (by decide), mF_n (by decide), mF_n (by decide), mF_e]
  · rw [mF_n (by decide), mF_n (by decide), mF_n (by decide), mF_n (by decide), mF_n (by decide), mF_e]
  · rw [mF_n (by decide), mF_n (by decide), mF_n (by decide), mF_n (by decide), mF_e]
theorem fresh_s (s : MS) (k t v : Int) : sF s (mFresh s k t v) := by
  unfold mFresh
  exact (((((((sF_S (Or.inr (Or.inr rfl))).trans sF_F).trans sF_F).trans sF_F).trans sF_F).trans sF_F).trans sF_F).trans sF_F
theorem jnP1_more {d k t : Int} {K : MS → Prop} : ∀ (n : Nat) (i : Int) (s : MS), jnP1 d k t K n i s → jnP1 d k t K (n + 1) i s
  | 0, i, s, h => ⟨fun _ => h.2, fun q => absurd h.1 (by omega)⟩
  | n + 1, i, s, h => ⟨h.1, fun q => ⟨(h.2 q).1, fun z => ⟨((h.2 q).2.1 z).1, jnP1_more n _ _ ((h.2 q).2.1 z).2⟩, fun z => jnP1_more n _ _ ((h.2 q).2.2 z)⟩⟩
/-- an event joins: cells of the desk's head alone stay -/
theorem join_ok {d n b k t v : Int} {s : MS} {K : MS → Prop} (hV : dV d n b s) (hd : dOk d) (hn : n ≤ 160) (hb : b + 651 ≤ 1000000) (hk : 0 ≤ k ∧ k ≤ 5) (kk : ∀ s', (∀ c, 0 ≤ d * 2804 + c → hC c → mg s' (d * 2804 + c) = mg s (d * 2804 + c)) → sF s s' → dV d (n + 1) (b + 651) s' → okRs d s' → K s') : mJoinP s d k t v 650 K := by
  have V := hV.cong (fresh_3 s k t v)
  have e := mg_cong (fresh_3 s k t v)
  have e0 := fresh_v s k t v
  have S0 := fresh_s s k t v
  unfold mJoinP
  generalize mFresh s k t v = u at V e e0 S0 ⊢
  have h5 := V.1
  refine j1_ok hd (by omega) 650 b 0 u V (Int.le_refl _) (by omega) (by omega) (fun s1 F1 V1 => ?_)
  have h51 := V1.1
  refine j2_ok hd (by omega) 650 _ s1 V1 (by rw [wI_id ⟨by omega, by omega⟩]; omega) (by rw [wI_id ⟨by omega, by omega⟩]; omega) (fun s2 H2 V2 => ?_)
  have e2 : s2.2 4 0 = k := by rw [H2.2.2.1, F1.2.2.2.1, e0.1]
  have e3 : s2.2 4 1 ≤ s2.2 4 2 := H2.2.2.2.1 (by rw [F1.2.2.2.1, e0.2.1, e0.2.2]; exact Int.le_refl _)
  refine jE_ok V2 hd hn (by omega) (by rw [e2]; exact hk) e3 (fun s3 H3 V3 R3 => kk s3 ?_ ?_ (V3.more (by omega)) R3)
  · intro c c0 hc
    rw [((F1.hd.trans H2).trans H3).1 c c0 hc, e]
  · exact S0.trans ((F1.hd.trans H2).trans H3).2.1
