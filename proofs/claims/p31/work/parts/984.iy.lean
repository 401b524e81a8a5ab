/-! ===== what joins, and an event that comes ===== -/
theorem j1_ok {d n k t : Int} {K : MS → Prop} (hd : dOk d) (hn : n ≤ 160) : ∀ (m : Nat) (b i : Int) (s : MS), dV d n b s → 0 ≤ i → mg s (d * 2804 + 5) - i ≤ m → b + m ≤ 1000000 → (∀ s', dF d s s' → dV d n (b + m) s' → K s') → jnP1 d k t K m i s
  | 0, b, i, s, hV, hi, hm, hb, kk => ⟨by omega, kk s dF.same (hV.more (by omega))⟩
  | m + 1, b, i, s, hV, hi, hm, hb, kk => by
    have h5 := hV.1
    refine ⟨fun _ => kk s dF.same (hV.more (by omega)), fun h => ⟨by omega, fun _ => ?_, fun _ => j1_ok hd hn m b (i + 1) s hV (by omega) (by omega) (by omega) (fun s' hF hV' => kk s' hF (hV'.more (by omega)))⟩⟩
    obtain ⟨t1, t2, t3⟩ := hV.take hd (by omega) (by omega) ⟨hi, h⟩
    have F : dF d s (mS (mTake s d i) 12 (wI ((mTake s d i).1 12 + 1))) := t2.S (Or.inr (Or.inr rfl))
    have V : dV d n (b + 1) (mS (mTake s d i) 12 (wI ((mTake s d i).1 12 + 1))) := t1
    exact ⟨t3, j1_ok hd hn m (b + 1) (i + 1) _ V (by omega) (by rw [F.five hd]; omega) (by omega) (fun s' hF hV' => kk s' (F.trans hF) (hV'.more (by omega)))⟩
theorem mg_cong {s s' : MS} (h : s'.2 3 = s.2 3) (x : Int) : mg s' x = mg s x := by
  show s'.2 3 _ = s.2 3 _
  rw [h]
theorem dV.cong {d n b : Int} {s s' : MS} (hV : dV d n b s) (h : s'.2 3 = s.2 3) : dV d n b s' := by
  have e := mg_cong h
  refine ⟨by rw [e]; exact hV.1, by rw [e]; exact hV.2.1, fun k h0 h1 => by rw [e]; exact hV.2.2.1 k h0 h1, fun i h0 h1 => ?_, fun hn i h0 h1 => ?_⟩
  · rw [e] at h1
    rw [e]
    exact hV.2.2.2.1 i h0 h1
  · rw [e] at h1
    rw [e, e]
    exact hV.2.2.2.2 hn i h0 h1
theorem mF_3 (s : MS) (k : Nat) (v : Int) : (mF s k v).2 3 = s.2 3 := rfl
theorem mF_0 (s : MS) (k : Nat) (v : Int) : (mF s (k + 1) v).2 4 0 = s.2 4 0 := rfl
theorem mF_n {s : MS} {k j : Nat} {v : Int} (h : j ≠ k) : (mF s k v).2 4 j = s.2 4 j := if_neg h
theorem mF_e {s : MS} {k : Nat} {v : Int} : (mF s k v).2 4 k = v := if_pos rfl
theorem swal_3 (s : MS) (d i : Int) : (mSwal s d i).2 3 = s.2 3 := by
  unfold mSwal
  simp only [mF_3]
theorem swal_H (s : MS) (d i : Int) : dH d s (mSwal s d i) := by
  refine ⟨fun c _ _ => mg_cong (swal_3 s d i) _, ?_, ?_, ?_, Int.le_of_eq (mg_cong (swal_3 s d i) _).symm⟩
  · unfold mSwal
    exact (((sF_F.trans sF_F).trans sF_F).trans sF_F).trans sF_F
  · unfold mSwal
    simp only []
    rw [mF_0 _ 4, mF_0 _ 3, mF_0 _ 2, mF_0 _ 1, mF_0 _ 0]
  · intro h
    unfold mSwal
    simp only []
    rw [mF_n (by decide), mF_n (by decide), mF_n (by decide), mF_n (by decide), mF_e, mF_n (by decide), mF_n (by decide), mF_n (by decide), mF_e, mF_n (by decide)]
    omega
theorem inc4 {s : MS} {a v : Int} : (mInc s a v).2 4 = s.2 4 := rfl
theorem inc1 {s : MS} {a v : Int} : (mInc s a v).1 = s.1 := rfl
theorem j2_ok {d n b k t : Int} {K : MS → Prop} (hd : dOk d) (hn : n ≤ 160) : ∀ (m : Nat) (i : Int) (s : MS), dV d n b s → i < mg s (d * 2804 + 5) → i + 1 ≤ m → (∀ s', dH d s s' → dV d n b s' → K s') → jnP2 d k t K m i s
  | 0, i, s, hV, hi, hm, kk => ⟨by omega, kk s dH.same hV⟩
  | m + 1, i, s, hV, hi, hm, kk => by
    have h5 := hV.1
    refine ⟨fun _ => kk s dH.same hV, fun h => ⟨by omega, fun _ => ?_, fun _ => j2_ok hd hn m (i + -1) s hV (by omega) (by omega) kk⟩⟩
    have V0 := hV.cong (swal_3 s d i)
    have H0 := swal_H s d i
    have e5 := mg_cong (swal_3 s d i) (d * 2804 + 5)
    generalize mSwal s d i = u at V0 H0 e5 ⊢
    obtain ⟨V, g5, g6⟩ := V0.out (i := i) hd (by omega) ⟨h, by rw [e5]; exact hi⟩
    rw [e5] at g5 g6
    exact ⟨⟨by rw [g6]; omega, by rw [g6]; omega⟩, j2_ok hd hn m (i + -1) _ V (by rw [g5]; omega) (by omega) (fun s' hF hV' => kk s' ((H0.trans (out_hd hd h (by rw [g6]; omega))).trans hF) hV')⟩
theorem cpL_fr (a b : Int) (ha : 0 ≤ a) : ∀ (m : Nat) (k : Int) (s : MS) (x : Int), 0 ≤ k → 0 ≤ x → (x < a + k ∨ a + k + m ≤ x) → mg (cpL a b m k s) x = mg s x
  | 0, _, _, _, _, _, _ => rfl
  | m + 1, k, s, x, hk, hx, h => by
    rw [cpL, cpL_fr a b ha m (k + 1) _ x (by omega) hx (by omega), mg_ne (by omega) hx (by omega)]
theorem cpL_eq (a b : Int) (hb : 0 ≤ b) (hab : b + 7 ≤ a) : ∀ (m : Nat) (k : Int) (s : MS) (q : Int), 0 ≤ k → k ≤ q → q < k + m → q < 7 → mg (cpL a b m k s) (a + q) = mg s (b + q)
  | 0, _, _, _, _, _, _, _ => by omega
  | m + 1, k, s, q, hk, h0, h1, h7 => by
    rw [cpL]
    by_cases e : q = k
    · subst e
      rw [cpL_fr a b (by omega) m (q + 1) _ _ (by omega) (by omega) (by omega)]
      exact mg_eq
    · rw [cpL_eq a b hb hab m (k + 1) _ q (by omega) (by omega) (by omega) h7]
      exact mg_ne (by omega) (by omega) (by omega)
theorem cpL_1 (a b : Int) : ∀ (m : Nat) (k : Int) (s : MS), cF s (cpL a b m k s)
  | 0, _, _ => cF.same
  | m + 1, k, s => by
    rw [cpL]
    exact cF_P.trans (cpL_1 a b m (k + 1) _)
theorem fpL2_fr (a : Int) (ha : 0 ≤ a) : ∀ (m : Nat) (k : Int) (s : MS) (x : Int), 0 ≤ k → 0 ≤ x → (x < a + k ∨ a + k + m ≤ x) → mg (fpL2 a m k s) x = mg s x
  | 0, _, _, _, _, _, _ => rfl
  | m + 1, k, s, x, hk, hx, h => by
    rw [fpL2, fpL2_fr a ha m (k + 1) _ x (by omega) hx (by omega), mg_ne (by omega) hx (by omega)]
theorem fpL2_1 (a : Int) : ∀ (m : Nat) (k : Int) (s : MS), cF s (fpL2 a m k s)
  | 0, _, _ => cF.same
  | m + 1, k, s => by
    rw [fpL2]
    exact cF_P.trans (fpL2_1 a m (k + 1) _)
theorem fpL2_eq (a : Int) (ha : 0 ≤ a) : ∀ (m : Nat) (k : Int) (s : MS) (q : Int), 0 ≤ k → k ≤ q → q < k + m → mg (fpL2 a m k s) (a + q) = s.2 4 q.toNat
  | 0, _, _, _, _, _, _ => by omega
  | m + 1, k, s, q, hk, h0, h1 => by
    rw [fpL2]
    by_cases e : q = k
    · subst e
      rw [fpL2_fr a ha m (q + 1) _ _ (by omega) (by omega) (by omega)]
      exact mg_eq
    · rw [fpL2_eq a ha m (k + 1) _ q (by omega) (by omega) (by omega)]
      rfl
/-- a row as it should be -/
abbrev okR (s : MS) (d j : Int) : Prop := (0 ≤ mg s (rw_ d j + 0) ∧ mg s (rw_ d j + 0) ≤ 5) ∧ mg s (rw_ d j + 1) ≤ mg s (rw_ d j + 2)
theorem okR.of {s s' : MS} {d j j' : Int} (h : okR s d j) (e : ∀ q, 0 ≤ q → q < 7 → mg s' (rw_ d j' + q) = mg s (rw_ d j + q)) : okR s' d j' := by
  show (0 ≤ mg s' (rw_ d j' + 0) ∧ mg s' (rw_ d j' + 0) ≤ 5) ∧ mg s' (rw_ d j' + 1) ≤ mg s' (rw_ d j' + 2)
  rw [e 0 (by decide) (by decide), e 1 (by decide) (by decide), e 2 (by decide) (by decide)]
  exact h
theorem cm_ok {d N : Int} (hd : dOk d) : ∀ (i : Nat) (s : MS), (i : Int) ≤ N → (∀ j, 0 ≤ j → j ≤ N → j ≠ (i : Int) → okR s d j) → (cmL d i s).1 ≤ i ∧ (∀ x, 0 ≤ x → (x < d * 2804 + 364 ∨ d * 2804 + 364 + 7 * (N + 1) ≤ x) → mg (cmL d i s).2 x = mg s x) ∧ (∀ j, 0 ≤ j → j ≤ N → j ≠ ((cmL d i s).1 : Int) → okR (cmL d i s).2 d j) ∧ cF s (cmL d i s).2
  | 0, s, h, hk => ⟨Nat.le_refl _, fun _ _ _ => rfl, hk, cF.same⟩
  | i + 1, s, h, hk => by
    have hd0 : 0 ≤ d := hd.1
    rw [cmL]
    by_cases hc : mBehind s d (i : Int)
    · rw [if_pos hc]
      have hr : ∀ j, 0 ≤ j → j ≠ (i : Int) + 1 → ∀ q, 0 ≤ q → q < 7 → mg (cpL (d * 2804 + 364 + 7 * ((i : Int) + 1)) (d * 2804 + 364 + 7 * (i : Int)) 7 0 s) (rw_ d j + q) = mg s (rw_ d j + q) := fun j j0 j1 q q0 q1 => by
        have r1 : rw_ d j = d * 2804 + 364 + 7 * j := rfl
        exact cpL_fr _ _ (by omega) 7 0 s _ (by decide) (by omega) (by omega)
      have hr1 : ∀ q, 0 ≤ q → q < 7 → mg (cpL (d * 2804 + 364 + 7 * ((i : Int) + 1)) (d * 2804 + 364 + 7 * (i : Int)) 7 0 s) (rw_ d ((i : Int) + 1) + q) = mg s (rw_ d (i : Int) + q) := fun q q0 q1 => cpL_eq _ _ (by omega) (by omega) 7 0 s q (by decide) q0 (by omega) q1
      obtain ⟨g1, g2, g3, g4⟩ := cm_ok (N := N) hd i (cpL (d * 2804 + 364 + 7 * ((i : Int) + 1)) (d * 2804 + 364 + 7 * (i : Int)) 7 0 s) (by omega) (fun j j0 j1 j2 => by
        by_cases e : j = (i : Int) + 1
        · subst e
          exact (hk i (by omega) (by omega) (by omega)).of hr1
        · exact (hk j j0 j1 (by omega)).of (hr j j0 e))
      refine ⟨by omega, fun x hx hx2 => ?_, g3, (cpL_1 _ _ 7 0 s).trans g4⟩
      rw [g2 x hx hx2]
      exact cpL_fr _ _ (by omega) 7 0 s _ (by decide) hx (by omega)
    · rw [if_neg hc]
      exact ⟨Nat.le_refl _, fun _ _ _ => rfl, hk, cF.same⟩
theorem in_ok {d n b : Int} {s : MS} (hV : dV d n b s) (hd : dOk d) (hn : n ≤ 160) (hk : 0 ≤ s.2 4 0 ∧ s.2 4 0 ≤ 5) (hf : s.2 4 1 ≤ s.2 4 2) : dV d (n + 1) b (mIn s d).2 ∧ (0 ≤ ((mIn s d).1 : Int) ∧ ((mIn s d).1 : Int) < mg (mIn s d).2 (d * 2804 + 5)) ∧ dH d s (mIn s d).2 ∧ ∀ j, 0 ≤ j → j < mg (mIn s d).2 (d * 2804 + 5) → okR (mIn s d).2 d j := by
  have hd0 : 0 ≤ d := hd.1
  have h5 := hV.1
  have ez : (((mg s (d * 2804 + 5)).toNat : Nat) : Int) = mg s (d * 2804 + 5) := by omega
  obtain ⟨g1, g2, g3, g4⟩ := cm_ok (N := mg s (d * 2804 + 5)) hd (mg s (d * 2804 + 5)).toNat s (by omega) (fun j j0 j1 j2 => ⟨hV.2.2.2.1 j j0 (by omega), hV.2.2.2.2 hn j j0 (by omega)⟩)
  show dV d (n + 1) b (mInc (fpL2 _ 7 0 (cmL d _ s).2) (d * 2804 + 5) 1) ∧ (0 ≤ ((cmL d _ s).1 : Int) ∧ ((cmL d _ s).1 : Int) < mg (mInc (fpL2 _ 7 0 (cmL d _ s).2) (d * 2804 + 5) 1) (d * 2804 + 5)) ∧ dH d s (mInc (fpL2 _ 7 0 (cmL d _ s).2) (d * 2804 + 5) 1) ∧ ∀ j, 0 ≤ j → j < mg (mInc (fpL2 _ 7 0 (cmL d _ s).2) (d * 2804 + 5) 1) (d * 2804 + 5) → okR (mInc (fpL2 _ 7 0 (cmL d _ s).2) (d * 2804 + 5) 1) d j
  generalize (cmL d (mg s (d * 2804 + 5)).toNat s) = p at g1 g2 g3 g4 ⊢
  have f1 := (fpL2_1 (d * 2804 + 364 + 7 * (p.1 : Int)) 7 0 p.2)
  have lo : ∀ x, 0 ≤ x → (x < d * 2804 + 364 ∨ d * 2804 + 1491 ≤ x) → x ≠ d * 2804 + 5 → mg (mInc (fpL2 (d * 2804 + 364 + 7 * (p.1 : Int)) 7 0 p.2) (d * 2804 + 5) 1) x = mg s x := fun x hx h hne => by
    rw [mInc_ne (by omega) hx (fun e => hne e.symm), fpL2_fr _ (by omega) 7 0 _ x (by decide) hx (by omega)]
    exact g2 x hx (by omega)
  have e5 : mg (mInc (fpL2 (d * 2804 + 364 + 7 * (p.1 : Int)) 7 0 p.2) (d * 2804 + 5) 1) (d * 2804 + 5) = mg s (d * 2804 + 5) + 1 := by
    rw [mInc_eq, fpL2_fr _ (by omega) 7 0 _ _ (by decide) (by omega) (by omega), g2 _ (by omega) (by omega), wI_id ⟨by omega, by omega⟩]
  have rows : ∀ j, 0 ≤ j → j < mg (mInc (fpL2 (d * 2804 + 364 + 7 * (p.1 : Int)) 7 0 p.2) (d * 2804 + 5) 1) (d * 2804 + 5) → okR (mInc (fpL2 (d * 2804 + 364 + 7 * (p.1 : Int)) 7 0 p.2) (d * 2804 + 5) 1) d j := by
    intro j j0 j1
    rw [e5] at j1
    have r1 : rw_ d j = d * 2804 + 364 + 7 * j := rfl
    by_cases e : j = (p.1 : Int)
    · subst e
      have c4 : p.2.2 4 = s.2 4 := g4.2 4 (by decide)
      have this : ∀ q, 0 ≤ q → q < 7 → mg (mInc (fpL2 (d * 2804 + 364 + 7 * (p.1 : Int)) 7 0 p.2) (d * 2804 + 5) 1) (rw_ d (p.1 : Int) + q) = s.2 4 q.toNat := fun q q0 q1 => by
        rw [mInc_ne (by omega) (by omega) (by omega), ← c4]
        exact fpL2_eq _ (by omega) 7 0 p.2 q (by decide) q0 (by omega)
      show (0 ≤ mg _ (rw_ d (p.1 : Int) + 0) ∧ mg _ (rw_ d (p.1 : Int) + 0) ≤ 5) ∧ mg _ (rw_ d (p.1 : Int) + 1) ≤ mg _ (rw_ d (p.1 : Int) + 2)
      rw [this 0 (by decide) (by decide), this 1 (by decide) (by decide), this 2 (by decide) (by decide)]
      exact ⟨hk, hf⟩
    · refine (g3 j j0 (by omega) e).of (fun q q0 q1 => ?_)
      rw [mInc_ne (by omega) (by omega) (by omega)]
      exact fpL2_fr _ (by omega) 7 0 _ _ (by decide) (by omega) (by omega)
  refine ⟨⟨by rw [e5]; omega, ?_, fun k k0 k1 => ?_, fun j j0 j1 => (rows j j0 j1).1, fun _ j j0 j1 => (rows j j0 j1).2⟩, ⟨by omega, by rw [e5]; omega⟩, dH_c (fun c h0 hc => ?_) ((g4.trans f1).trans cF_I) (lo _ (by omega) (by omega) (by omega)), rows⟩
  · rw [lo _ (by omega) (by omega) (by omega)]; exact hV.2.1
  · rw [lo _ (by omega) (by omega) (by omega)]; exact hV.2.2.1 k k0 k1
  · have : (c < 32 ∨ 1844 ≤ c) ∧ c ≠ 5 := by rcases hc with h | h | h | h <;> omega
    exact lo _ h0 (by omega) (by omega)
