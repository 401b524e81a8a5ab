/-! ===== what joins, and an event that comes ===== -/
theorem j1_ok {d n k t : Int} {K : MS → Prop} (hd : dOk d) (hn : n ≤ 100) : ∀ (m : Nat) (b i : Int) (s : MS), dV d n b s → 0 ≤ i → mg s (d * 2804 + 5) - i ≤ m → b + m ≤ 1000000 → (∀ s', dF d s s' → dV d n (b + m) s' → K s') → jnP1 d k t K m i s
  | 0, b, i, s, hV, hi, hm, hb, kk => ⟨by omega, kk s dF.rfl (hV.more (by omega))⟩
  | m + 1, b, i, s, hV, hi, hm, hb, kk => by
    have h5 := hV.1
    refine ⟨fun _ => kk s dF.rfl (hV.more (by omega)), fun h => ⟨by omega, fun _ => ?_, fun _ => j1_ok hd hn m b (i + 1) s hV (by omega) (by omega) (by omega) (fun s' hF hV' => kk s' hF (hV'.more (by omega)))⟩⟩
    obtain ⟨t1, t2, t3⟩ := hV.take hd hn (by omega) ⟨hi, h⟩
    have F : dF d s (mS (mTake s d i) 12 (wI ((mTake s d i).1 12 + 1))) := t2
    have V : dV d n (b + 1) (mS (mTake s d i) 12 (wI ((mTake s d i).1 12 + 1))) := t1
    exact ⟨t3, j1_ok hd hn m (b + 1) (i + 1) _ V (by omega) (by rw [F.five]; omega) (by omega) (fun s' hF hV' => kk s' (F.trans hF) (hV'.more (by omega)))⟩
theorem mg_cong {s s' : MS} (h : s'.2 3 = s.2 3) (x : Int) : mg s' x = mg s x := by
  show s'.2 3 _ = s.2 3 _
  rw [h]
theorem dV.cong {d n b : Int} {s s' : MS} (hV : dV d n b s) (h : s'.2 3 = s.2 3) : dV d n b s' := by
  have e := mg_cong h
  refine ⟨by rw [e]; exact hV.1, by rw [e]; exact hV.2.1, fun k h0 h1 => by rw [e]; exact hV.2.2.1 k h0 h1, fun i h0 h1 => ?_⟩
  rw [e] at h1
  rw [e]
  exact hV.2.2.2 i h0 h1
theorem mF_3 (s : MS) (k : Nat) (v : Int) : (mF s k v).2 3 = s.2 3 := rfl
theorem mF_1 (s : MS) (k : Nat) (v : Int) : (mF s k v).1 = s.1 := rfl
theorem mF_0 (s : MS) (k : Nat) (v : Int) : (mF s (k + 1) v).2 4 0 = s.2 4 0 := rfl
theorem swal_3 (s : MS) (d i : Int) : (mSwal s d i).2 3 = s.2 3 := by
  unfold mSwal
  simp only [mF_3]
theorem swal_H (s : MS) (d i : Int) : dH d s (mSwal s d i) := by
  refine ⟨fun c _ => mg_cong (swal_3 s d i) _, ?_, ?_⟩
  · unfold mSwal
    simp only [mF_1]
  · unfold mSwal
    simp only []
    rw [mF_0 _ 4, mF_0 _ 3, mF_0 _ 2, mF_0 _ 1, mF_0 _ 0]
theorem inc4 {s : MS} {a v : Int} : (mInc s a v).2 4 = s.2 4 := rfl
theorem inc1 {s : MS} {a v : Int} : (mInc s a v).1 = s.1 := rfl
theorem j2_ok {d n b k t : Int} {K : MS → Prop} (hd : dOk d) (hn : n ≤ 100) : ∀ (m : Nat) (i : Int) (s : MS), dV d n b s → i < mg s (d * 2804 + 5) → i + 1 ≤ m → (∀ s', dH d s s' → dV d n b s' → K s') → jnP2 d k t K m i s
  | 0, i, s, hV, hi, hm, kk => ⟨by omega, kk s dH.same hV⟩
  | m + 1, i, s, hV, hi, hm, kk => by
    have h5 := hV.1
    refine ⟨fun _ => kk s dH.same hV, fun h => ⟨by omega, fun _ => ?_, fun _ => j2_ok hd hn m (i + -1) s hV (by omega) (by omega) kk⟩⟩
    have V0 := hV.cong (swal_3 s d i)
    have H0 := swal_H s d i
    have e5 := mg_cong (swal_3 s d i) (d * 2804 + 5)
    generalize mSwal s d i = u at V0 H0 e5 ⊢
    obtain ⟨V, g5, g6⟩ := V0.out (i := i) hd hn ⟨h, by rw [e5]; exact hi⟩
    rw [e5] at g5 g6
    exact ⟨⟨by rw [g6]; omega, by rw [g6]; omega⟩, j2_ok hd hn m (i + -1) _ V (by rw [g5]; omega) (by omega) (fun s' hF hV' => kk s' ((H0.trans (out_hd hd h)).trans hF) hV')⟩
theorem cpL_fr (a b : Int) (ha : 0 ≤ a) : ∀ (m : Nat) (k : Int) (s : MS) (x : Int), 0 ≤ k → 0 ≤ x → (x < a + k ∨ a + k + m ≤ x) → mg (cpL a b m k s) x = mg s x
  | 0, _, _, _, _, _, _ => rfl
  | m + 1, k, s, x, hk, hx, h => by
    rw [cpL, cpL_fr a b ha m (k + 1) _ x (by omega) hx (by omega), mg_ne (by omega) hx (by omega)]
theorem cpL_1 (a b : Int) : ∀ (m : Nat) (k : Int) (s : MS), (cpL a b m k s).1 = s.1 ∧ (cpL a b m k s).2 4 = s.2 4
  | 0, _, _ => ⟨rfl, rfl⟩
  | m + 1, k, s => by
    rw [cpL]
    obtain ⟨h1, h2⟩ := cpL_1 a b m (k + 1) (mP s (a + k) (mg s (b + k)))
    exact ⟨h1, h2⟩
theorem fpL2_fr (a : Int) (ha : 0 ≤ a) : ∀ (m : Nat) (k : Int) (s : MS) (x : Int), 0 ≤ k → 0 ≤ x → (x < a + k ∨ a + k + m ≤ x) → mg (fpL2 a m k s) x = mg s x
  | 0, _, _, _, _, _, _ => rfl
  | m + 1, k, s, x, hk, hx, h => by
    rw [fpL2, fpL2_fr a ha m (k + 1) _ x (by omega) hx (by omega), mg_ne (by omega) hx (by omega)]
theorem fpL2_1 (a : Int) : ∀ (m : Nat) (k : Int) (s : MS), (fpL2 a m k s).1 = s.1 ∧ (fpL2 a m k s).2 4 = s.2 4
  | 0, _, _ => ⟨rfl, rfl⟩
  | m + 1, k, s => by
    rw [fpL2]
    obtain ⟨h1, h2⟩ := fpL2_1 a m (k + 1) (mP s (a + k) (s.2 4 k.toNat))
    exact ⟨h1, h2⟩
abbrev okKey (s : MS) (d j : Int) : Prop := 0 ≤ mg s (rw_ d j + 0) ∧ mg s (rw_ d j + 0) ≤ 5
theorem cm_ok {d N : Int} (hd : dOk d) : ∀ (i : Nat) (s : MS), (i : Int) ≤ N → (∀ j, 0 ≤ j → j ≤ N → j ≠ (i : Int) → okKey s d j) → (cmL d i s).1 ≤ i ∧ (∀ x, 0 ≤ x → x < d * 2804 + 364 → mg (cmL d i s).2 x = mg s x) ∧ (∀ j, 0 ≤ j → j ≤ N → j ≠ ((cmL d i s).1 : Int) → okKey (cmL d i s).2 d j) ∧ (cmL d i s).2.1 = s.1 ∧ (cmL d i s).2.2 4 = s.2 4
  | 0, s, h, hk => ⟨Nat.le_refl _, fun _ _ _ => rfl, hk, rfl, rfl⟩
  | i + 1, s, h, hk => by
    have hd0 : 0 ≤ d := hd.1
    rw [cmL]
    by_cases hc : mBehind s d (i : Int)
    · rw [if_pos hc]
      have hr : ∀ j, 0 ≤ j → j ≠ (i : Int) + 1 → mg (cpL (d * 2804 + 364 + 7 * ((i : Int) + 1)) (d * 2804 + 364 + 7 * (i : Int)) 7 0 s) (rw_ d j + 0) = mg s (rw_ d j + 0) := fun j j0 j1 => by
        have r1 : rw_ d j = d * 2804 + 364 + 7 * j := rfl
        exact cpL_fr _ _ (by omega) 7 0 s _ (by decide) (by omega) (by omega)
      have hr1 : mg (cpL (d * 2804 + 364 + 7 * ((i : Int) + 1)) (d * 2804 + 364 + 7 * (i : Int)) 7 0 s) (rw_ d ((i : Int) + 1) + 0) = mg s (rw_ d (i : Int) + 0) := by
        show mg (cpL _ _ 6 (0 + 1) (mP s _ _)) _ = _
        rw [cpL_fr _ _ (by omega) 6 (0 + 1) _ _ (by decide) (by show 0 ≤ d * 2804 + 364 + 7 * ((i : Int) + 1) + 0; omega) (by show d * 2804 + 364 + 7 * ((i : Int) + 1) + 0 < _ ∨ _; omega)]
        exact mg_eq
      obtain ⟨g1, g2, g3, g4, g5⟩ := cm_ok (N := N) hd i (cpL (d * 2804 + 364 + 7 * ((i : Int) + 1)) (d * 2804 + 364 + 7 * (i : Int)) 7 0 s) (by omega) (fun j j0 j1 j2 => by
        by_cases e : j = (i : Int) + 1
        · subst e
          show 0 ≤ mg _ (rw_ d ((i : Int) + 1) + 0) ∧ mg _ (rw_ d ((i : Int) + 1) + 0) ≤ 5
          rw [hr1]
          exact hk i (by omega) (by omega) (by omega)
        · show 0 ≤ mg _ (rw_ d j + 0) ∧ mg _ (rw_ d j + 0) ≤ 5
          rw [hr j j0 e]
          exact hk j j0 j1 (by omega))
      have h1 := cpL_1 (d * 2804 + 364 + 7 * ((i : Int) + 1)) (d * 2804 + 364 + 7 * (i : Int)) 7 0 s
      refine ⟨by omega, fun x hx hx2 => ?_, g3, g4.trans h1.1, g5.trans h1.2⟩
      rw [g2 x hx hx2]
      exact cpL_fr _ _ (by omega) 7 0 s _ (by decide) hx (by omega)
    · rw [if_neg hc]
      exact ⟨Nat.le_refl _, fun _ _ _ => rfl, hk, rfl, rfl⟩
theorem in_ok {d n b : Int} {s : MS} (hV : dV d n b s) (hd : dOk d) (hn : n ≤ 99) (hk : 0 ≤ s.2 4 0 ∧ s.2 4 0 ≤ 5) : dV d (n + 1) b (mIn s d).2 ∧ (0 ≤ ((mIn s d).1 : Int) ∧ ((mIn s d).1 : Int) < mg (mIn s d).2 (d * 2804 + 5)) ∧ dH d s (mIn s d).2 := by
  have hd0 : 0 ≤ d := hd.1
  have h5 := hV.1
  have ez : (((mg s (d * 2804 + 5)).toNat : Nat) : Int) = mg s (d * 2804 + 5) := by omega
  obtain ⟨g1, g2, g3, g4, g6⟩ := cm_ok (N := mg s (d * 2804 + 5)) hd (mg s (d * 2804 + 5)).toNat s (by omega) (fun j j0 j1 j2 => hV.2.2.2 j j0 (by omega))
  show dV d (n + 1) b (mInc (fpL2 _ 7 0 (cmL d _ s).2) (d * 2804 + 5) 1) ∧ (0 ≤ ((cmL d _ s).1 : Int) ∧ ((cmL d _ s).1 : Int) < mg (mInc (fpL2 _ 7 0 (cmL d _ s).2) (d * 2804 + 5) 1) (d * 2804 + 5)) ∧ dH d s (mInc (fpL2 _ 7 0 (cmL d _ s).2) (d * 2804 + 5) 1)
  generalize (cmL d (mg s (d * 2804 + 5)).toNat s) = p at g1 g2 g3 g4 g6 ⊢
  have f1 := fpL2_1 (d * 2804 + 364 + 7 * (p.1 : Int)) 7 0 p.2
  have lo : ∀ x, 0 ≤ x → x < d * 2804 + 364 → x ≠ d * 2804 + 5 → mg (mInc (fpL2 (d * 2804 + 364 + 7 * (p.1 : Int)) 7 0 p.2) (d * 2804 + 5) 1) x = mg s x := fun x hx h hne => by
    rw [mInc_ne (by omega) hx (fun e => hne e.symm), fpL2_fr _ (by omega) 7 0 _ x (by decide) hx (by omega)]
    exact g2 x hx h
  have e5 : mg (mInc (fpL2 (d * 2804 + 364 + 7 * (p.1 : Int)) 7 0 p.2) (d * 2804 + 5) 1) (d * 2804 + 5) = mg s (d * 2804 + 5) + 1 := by
    rw [mInc_eq, fpL2_fr _ (by omega) 7 0 _ _ (by decide) (by omega) (by omega), g2 _ (by omega) (by omega), wI_id ⟨by omega, by omega⟩]
  refine ⟨⟨by rw [e5]; omega, ?_, fun k k0 k1 => ?_, fun j j0 j1 => ?_⟩, ⟨by omega, by rw [e5]; omega⟩, fun c hc => ?_, ?_, ?_⟩
  · rw [lo _ (by omega) (by omega) (by omega)]; exact hV.2.1
  · rw [lo _ (by omega) (by omega) (by omega)]; exact hV.2.2.1 k k0 k1
  · rw [e5] at j1
    have r1 : rw_ d j = d * 2804 + 364 + 7 * j := rfl
    rw [mInc_ne (by omega) (by omega) (by omega)]
    by_cases e : j = (p.1 : Int)
    · subst e
      have : mg (fpL2 (d * 2804 + 364 + 7 * (p.1 : Int)) 7 0 p.2) (rw_ d (p.1 : Int) + 0) = p.2.2 4 0 := by
        show mg (fpL2 _ 6 (0 + 1) (mP p.2 _ _)) _ = _
        rw [fpL2_fr _ (by omega) 6 (0 + 1) _ _ (by decide) (by omega) (by omega)]
        exact mg_eq
      rw [this, g6]
      exact hk
    · rw [fpL2_fr _ (by omega) 7 0 _ _ (by decide) (by omega) (by omega)]
      exact g3 j j0 (by omega) e
  · have : 0 ≤ c ∧ c < 24 ∧ c ≠ 5 := by rcases hc with h | h | h <;> omega
    exact lo _ (by omega) (by omega) (by omega)
  · rw [inc1, f1.1, g4]
  · rw [inc4, f1.2, g6]
