/-! ===== what gets ripe where a row lies on the messages: it ends all the same ===== -/
theorem send_k {s : MS} {d kd i : Int} (hd : dOk d) (hm : 0 ≤ mg s (d * 2804 + 7)) (hi : 0 ≤ i ∧ i ≤ 160) (hk : 0 ≤ kd ∧ kd ≤ 3) (hq : 0 ≤ mg s (rw_ d i + 0) ∧ mg s (rw_ d i + 0) ≤ 5) : (mg s (d * 2804 + 7) % 60 ≠ 0 → mg (mSend s d kd i) (d * 2804 + 1484) = mg s (d * 2804 + 1484) ∧ mg (mSend s d kd i) (d * 2804 + 1486) = mg s (d * 2804 + 1486)) ∧ (mg s (d * 2804 + 7) % 60 = 0 → mg (mSend s d kd i) (d * 2804 + 1484) = kd ∧ (i < 160 → mg (mSend s d kd i) (d * 2804 + 1486) = mg s (rw_ d i + 1)) ∧ (i = 160 → mg (mSend s d kd i) (d * 2804 + 1486) = kd)) := by
  have hd0 : 0 ≤ d := hd.1
  have e0 : 0 ≤ mg (mSend4 s d kd i) ((d * 2804 + 364 + 7 * i) + 0) ∧ mg (mSend4 s d kd i) ((d * 2804 + 364 + 7 * i) + 0) ≤ 5 := send4_key hd hm hi hk hq
  have up : ∀ x, (x = d * 2804 + 1484 ∨ x = d * 2804 + 1486) → mg (mSend s d kd i) x = mg (sdL (d * 2804 + 1484 + 6 * Int.tmod (mg s (d * 2804 + 7)) 60) d i 5 0 (mP s (d * 2804 + 1484 + 6 * Int.tmod (mg s (d * 2804 + 7)) 60) kd)) x := fun x hx => by
    unfold mSend
    rw [mg_ne (by omega) (by omega) (by omega), mInc_ne (by omega) (by omega) (by omega)]
    unfold mSend4
    rw [mInc_ne (by omega) (by omega) (by omega), mInc_ne (by omega) (by omega) (by omega)]
  rw [up _ (Or.inl rfl), up _ (Or.inr rfl)]
  have ht : Int.tmod (mg s (d * 2804 + 7)) 60 = mg s (d * 2804 + 7) % 60 := Int.tmod_eq_emod_of_nonneg hm
  rw [ht]
  have hl : 0 ≤ mg s (d * 2804 + 7) % 60 := by omega
  generalize mg s (d * 2804 + 7) % 60 = w at hl ⊢
  refine ⟨fun h => ?_, fun h => ?_⟩
  · rw [sdL_fr _ d i (by omega) 5 0 _ _ (by decide) (by omega) (by omega), sdL_fr _ d i (by omega) 5 0 _ _ (by decide) (by omega) (by omega), mg_ne (by omega) (by omega) (by omega), mg_ne (by omega) (by omega) (by omega)]
    exact ⟨rfl, rfl⟩
  · subst h
    have hr : rw_ d i = d * 2804 + 364 + 7 * i := rfl
    rw [show d * 2804 + 1484 + 6 * 0 = d * 2804 + 1484 by omega]
    have c2 : mg (sdL (d * 2804 + 1484) d i 5 0 (mP s (d * 2804 + 1484) kd)) (d * 2804 + 1486) = mg (mP (mP s (d * 2804 + 1484) kd) (d * 2804 + 1484 + 1 + 0) (mg (mP s (d * 2804 + 1484) kd) (rw_ d i + 0))) (rw_ d i + (0 + 1)) := by
      show mg (sdL (d * 2804 + 1484) d i 3 (0 + 1 + 1) (mP (mP (mP s (d * 2804 + 1484) kd) (d * 2804 + 1484 + 1 + 0) (mg (mP s (d * 2804 + 1484) kd) (rw_ d i + 0))) (d * 2804 + 1484 + 1 + (0 + 1)) (mg (mP (mP s (d * 2804 + 1484) kd) (d * 2804 + 1484 + 1 + 0) (mg (mP s (d * 2804 + 1484) kd) (rw_ d i + 0))) (rw_ d i + (0 + 1))))) (d * 2804 + 1486) = _
      rw [sdL_fr _ d i (by omega) 3 _ _ _ (by decide) (by omega) (by omega), show d * 2804 + 1484 + 1 + (0 + 1) = d * 2804 + 1486 by omega]
      exact mg_eq
    refine ⟨?_, fun h => ?_, fun h => ?_⟩
    · rw [sdL_fr _ d i (by omega) 5 0 _ _ (by decide) (by omega) (by omega)]
      exact mg_eq
    · rw [c2, mg_ne (by omega) (by omega) (by omega), mg_ne (by omega) (by omega) (by omega)]
      rfl
    · subst h
      rw [c2, show rw_ d 160 + (0 + 1) = d * 2804 + 1484 + 1 + 0 by omega, mg_eq, show rw_ d 160 + 0 = d * 2804 + 1484 by omega]
      exact mg_eq
theorem nd_pos {s : MS} {d : Int} : ∀ (k i : Nat), i < k → ¬ mDone s d (i : Int) → 1 ≤ nd s d k
  | 0, _, hi, _ => absurd hi (Nat.not_lt_zero _)
  | k + 1, i, hi, h => by
    rw [nd]
    by_cases e : i = k
    · subst e
      rw [if_neg h]; omega
    · have := nd_pos k i (by omega) h
      omega
/-- the last row is no trouble any more -/
def iq (d : Int) (s : MS) : Prop := (mg s (d * 2804 + 1486) < s.1 10 ∨ (mg s (d * 2804 + 1486) = s.1 10 ∧ mg s (d * 2804 + 1484) ≤ s.1 11)) ∨ (mg s (d * 2804 + 1486) ≤ s.1 10 ∧ 1 ≤ mg s (d * 2804 + 7) % 60 ∧ mg s (d * 2804 + 7) % 60 ≤ 2 + 2 * s.1 11)
theorem d160 {d : Int} {s : MS} : mDone s d 160 ↔ (mg s (d * 2804 + 1486) < s.1 10 ∨ (mg s (d * 2804 + 1486) = s.1 10 ∧ mg s (d * 2804 + 1484) ≤ s.1 11)) := by
  have e2 : d * 2804 + 364 + 7 * 160 + 2 = d * 2804 + 1486 := by omega
  have e0 : d * 2804 + 364 + 7 * 160 + 0 = d * 2804 + 1484 := by omega
  show (mg s (d * 2804 + 364 + 7 * 160 + 2) < s.1 10 ∨ (mg s (d * 2804 + 364 + 7 * 160 + 2) = s.1 10 ∧ mg s (d * 2804 + 364 + 7 * 160 + 0) ≤ s.1 11)) ↔ _
  rw [e2, e0]
/-- one step -/
theorem ri_step {d b i : Int} {s : MS} (hd : dOk d) (hV : dV d 161 b s) (hb : b + 2 ≤ 1000000) (hr : ∀ j, 0 ≤ j → j < 160 → mg s (rw_ d j + 1) ≤ mg s (rw_ d j + 2)) (h0 : 0 ≤ i) (hi : i < mg s (d * 2804 + 5)) (hdn : ¬ mDone s d i) : mRiP s d i ∧ dF d s (mRi1 s d i) ∧ dV d 161 (b + 2) (mRi1 s d i) ∧ (i < 160 → nd (mRi1 s d i) d 160 < nd s d 160) ∧ (i = 160 → mDone (mRi1 s d i) d 160 ∧ (iq d s → nd (mRi1 s d i) d 160 ≤ nd s d 160)) ∧ (iq d s ∨ i = 160 → iq d (mRi1 s d i)) := by
  have hd0 : 0 ≤ d := hd.1
  have h5 := hV.1
  have h7 := hV.2.1
  obtain ⟨t1, t2, t3⟩ := hV.take hd (by omega) (by omega) ⟨h0, hi⟩
  have k0 := hV.2.2.2.1 i h0 hi
  have k1 := t1.2.2.2.1 i h0 (by rw [t2.five hd]; exact hi)
  obtain ⟨u1, u2, u3⟩ := t1.send (kd := 1) hd (by omega) (by omega) ⟨by decide, by decide⟩ ⟨h0, by rw [t2.five hd]; exact hi⟩
  have F : dF d s (mRi1 s d i) := ((t2.trans u2).S (Or.inl rfl)).S (Or.inr (Or.inl rfl))
  have V : dV d 161 (b + 1 + 1) (mRi1 s d i) := u1
  -- what the take and the send do to the last row
  have a7 : (mg (mTake s d i) (d * 2804 + 7) = mg s (d * 2804 + 7) ∧ mg (mTake s d i) (d * 2804 + 1484) = mg s (d * 2804 + 1484) ∧ mg (mTake s d i) (d * 2804 + 1486) = mg s (d * 2804 + 1486)) ∨ (mg (mTake s d i) (d * 2804 + 7) = mg s (d * 2804 + 7) + 1 ∧ (mg s (d * 2804 + 7) % 60 ≠ 0 → mg (mTake s d i) (d * 2804 + 1484) = mg s (d * 2804 + 1484) ∧ mg (mTake s d i) (d * 2804 + 1486) = mg s (d * 2804 + 1486)) ∧ (mg s (d * 2804 + 7) % 60 = 0 → mg (mTake s d i) (d * 2804 + 1484) = 3 ∧ (i < 160 → mg (mTake s d i) (d * 2804 + 1486) = mg s (rw_ d i + 1)) ∧ (i = 160 → mg (mTake s d i) (d * 2804 + 1486) = 3))) := by
    unfold mTake
    by_cases hc : 0 < mg s ((d * 2804 + 364 + 7 * i) + 6)
    · rw [if_pos hc]
      obtain ⟨-, g2, -⟩ := send_ok (kd := 3) hd h7.1 ⟨h0, by omega⟩ ⟨by decide, by decide⟩ k0 (by omega)
      rw [wI_id ⟨by omega, by omega⟩] at g2
      exact Or.inr ⟨g2, send_k hd h7.1 ⟨h0, by omega⟩ ⟨by decide, by decide⟩ k0⟩
    · rw [if_neg hc]
      exact Or.inl ⟨rfl, rfl, rfl⟩
  have t7 := t1.2.1
  obtain ⟨-, g7, -⟩ := send_ok (kd := 1) hd t7.1 ⟨h0, by omega⟩ ⟨by decide, by decide⟩ k1 (by omega)
  rw [wI_id ⟨by omega, by omega⟩] at g7
  have gk := send_k (kd := 1) hd t7.1 ⟨h0, by omega⟩ ⟨by decide, by decide⟩ k1
  have q10 : (mRi1 s d i).1 10 = mg (mSend (mTake s d i) d 1 i) (rw_ d i + 2) := rfl
  have q11 : (mRi1 s d i).1 11 = mg (mSend (mTake s d i) d 1 i) (rw_ d i + 0) := rfl
  have q7 : mg (mRi1 s d i) (d * 2804 + 7) = mg (mSend (mTake s d i) d 1 i) (d * 2804 + 7) := rfl
  have q84 : mg (mRi1 s d i) (d * 2804 + 1484) = mg (mSend (mTake s d i) d 1 i) (d * 2804 + 1484) := rfl
  have q86 : mg (mRi1 s d i) (d * 2804 + 1486) = mg (mSend (mTake s d i) d 1 i) (d * 2804 + 1486) := rfl
  have kk2 := u1.2.2.2.1 i h0 (by rw [u2.five hd, t2.five hd]; exact hi)
  refine ⟨⟨t3, u3, by rw [F.five hd]; omega⟩, F, V.more (by omega), fun hlt => ?_, fun he => ?_, ?_⟩
  · have e10 : (mRi1 s d i).1 10 = mg s (rw_ d i + 2) := (u2.row hd (q := 2) ⟨h0, by omega⟩ ⟨by decide, by decide⟩).trans (t2.row hd (q := 2) ⟨h0, by omega⟩ ⟨by decide, by decide⟩)
    have e11 : (mRi1 s d i).1 11 = mg s (rw_ d i + 0) := (u2.row hd (q := 0) ⟨h0, by omega⟩ ⟨by decide, by decide⟩).trans (t2.row hd (q := 0) ⟨h0, by omega⟩ ⟨by decide, by decide⟩)
    have hnd : ¬ (mg s (rw_ d i + 2) < s.1 10) ∧ ¬ (mg s (rw_ d i + 2) = s.1 10 ∧ mg s (rw_ d i + 0) ≤ s.1 11) := not_or.mp hdn
    have key : ∀ j : Nat, j < 160 → (mDone s d (j : Int) ∨ (j : Int) = i) → mDone (mRi1 s d i) d (j : Int) := by
      intro j hj hD
      have a2 := F.row hd (i := (j : Int)) (q := 2) ⟨by omega, by omega⟩ ⟨by decide, by decide⟩
      have a0 := F.row hd (i := (j : Int)) (q := 0) ⟨by omega, by omega⟩ ⟨by decide, by decide⟩
      show mg (mRi1 s d i) (rw_ d j + 2) < (mRi1 s d i).1 10 ∨ (mg (mRi1 s d i) (rw_ d j + 2) = (mRi1 s d i).1 10 ∧ mg (mRi1 s d i) (rw_ d j + 0) ≤ (mRi1 s d i).1 11)
      rw [a2, a0, e10, e11]
      rcases hD with hD | hD
      · have hD : mg s (rw_ d j + 2) < s.1 10 ∨ (mg s (rw_ d j + 2) = s.1 10 ∧ mg s (rw_ d j + 0) ≤ s.1 11) := hD
        omega
      · rw [hD]
        exact Or.inr ⟨Eq.refl _, Int.le_refl _⟩
    exact nd_lt (s := s) (s' := mRi1 s d i) (d := d) 160 i.toNat (by omega) (by rw [show ((i.toNat : Nat) : Int) = i by omega]; exact hdn) (key i.toNat (by omega) (Or.inr (by omega))) (fun j hj hD => key j hj (Or.inl hD))
  · subst he
    have r0 : rw_ d 160 + 0 = d * 2804 + 1484 := by show d * 2804 + 364 + 7 * 160 + 0 = _; omega
    have r2 : rw_ d 160 + 2 = d * 2804 + 1486 := by show d * 2804 + 364 + 7 * 160 + 2 = _; omega
    rw [r2, ← q86] at q10
    rw [r0, ← q84] at q11
    have hdn2 : ¬ (mg s (d * 2804 + 1486) < s.1 10 ∨ (mg s (d * 2804 + 1486) = s.1 10 ∧ mg s (d * 2804 + 1484) ≤ s.1 11)) := fun q => hdn (d160.mpr q)
    refine ⟨d160.mpr (Or.inr ⟨q10.symm, by rw [q11]; exact Int.le_refl _⟩), fun hq => ?_⟩
    rw [r0] at k0
    have i2 := hq.resolve_left hdn2
    have hk5 : s.1 11 ≤ 4 := by omega
    have nw : mg (mRi1 s d 160) (d * 2804 + 1484) = mg s (d * 2804 + 1484) ∧ mg (mRi1 s d 160) (d * 2804 + 1486) = mg s (d * 2804 + 1486) := by
      rcases a7 with ⟨a, b1, c⟩ | ⟨a, b1, c⟩
      · have z := gk.1 (by rw [a]; omega)
        exact ⟨z.1.trans b1, z.2.trans c⟩
      · have z := gk.1 (by rw [a]; omega)
        have y := b1 (by omega)
        exact ⟨z.1.trans y.1, z.2.trans y.2⟩
    rw [nw.2] at q10
    rw [nw.1] at q11
    refine nd_le 160 (fun j hj hD => ?_)
    have a2 := F.row hd (i := (j : Int)) (q := 2) ⟨by omega, by omega⟩ ⟨by decide, by decide⟩
    have a0 := F.row hd (i := (j : Int)) (q := 0) ⟨by omega, by omega⟩ ⟨by decide, by decide⟩
    have hD : mg s (rw_ d j + 2) < s.1 10 ∨ (mg s (rw_ d j + 2) = s.1 10 ∧ mg s (rw_ d j + 0) ≤ s.1 11) := hD
    show mg (mRi1 s d 160) (rw_ d j + 2) < (mRi1 s d 160).1 10 ∨ (mg (mRi1 s d 160) (rw_ d j + 2) = (mRi1 s d 160).1 10 ∧ mg (mRi1 s d 160) (rw_ d j + 0) ≤ (mRi1 s d 160).1 11)
    rw [a2, a0, q10, q11]
    omega
  · intro hq
    by_cases he : i = 160
    · subst he
      have r0 : rw_ d 160 + 0 = d * 2804 + 1484 := by show d * 2804 + 364 + 7 * 160 + 0 = _; omega
      have r2 : rw_ d 160 + 2 = d * 2804 + 1486 := by show d * 2804 + 364 + 7 * 160 + 2 = _; omega
      rw [r2, ← q86] at q10
      rw [r0, ← q84] at q11
      exact Or.inl (Or.inr ⟨q10.symm, by rw [q11]; exact Int.le_refl _⟩)
    · have hq := hq.resolve_right he
      have e10 : (mRi1 s d i).1 10 = mg s (rw_ d i + 2) := (u2.row hd (q := 2) ⟨h0, by omega⟩ ⟨by decide, by decide⟩).trans (t2.row hd (q := 2) ⟨h0, by omega⟩ ⟨by decide, by decide⟩)
      have e11 : (mRi1 s d i).1 11 = mg s (rw_ d i + 0) := (u2.row hd (q := 0) ⟨h0, by omega⟩ ⟨by decide, by decide⟩).trans (t2.row hd (q := 0) ⟨h0, by omega⟩ ⟨by decide, by decide⟩)
      have f1 : mg (mTake s d i) (rw_ d i + 1) = mg s (rw_ d i + 1) := t2.row hd (q := 1) ⟨h0, by omega⟩ ⟨by decide, by decide⟩
      have hfl := hr i h0 (by omega)
      have hnd : ¬ (mg s (rw_ d i + 2) < s.1 10) ∧ ¬ (mg s (rw_ d i + 2) = s.1 10 ∧ mg s (rw_ d i + 0) ≤ s.1 11) := not_or.mp hdn
      have hq1 : (mg s (d * 2804 + 1486) < s.1 10 ∨ (mg s (d * 2804 + 1486) = s.1 10 ∧ mg s (d * 2804 + 1484) ≤ s.1 11)) ∨ (mg s (d * 2804 + 1486) ≤ s.1 10 ∧ 1 ≤ mg s (d * 2804 + 7) % 60 ∧ mg s (d * 2804 + 7) % 60 ≤ 2 + 2 * s.1 11) := hq
      unfold iq
      rw [e10, e11, q7, q84, q86]
      generalize mg (mSend (mTake s d i) d 1 i) (d * 2804 + 7) = Z7 at g7 ⊢
      generalize mg (mSend (mTake s d i) d 1 i) (d * 2804 + 1484) = Z84 at gk ⊢
      generalize mg (mSend (mTake s d i) d 1 i) (d * 2804 + 1486) = Z86 at gk ⊢
      rw [f1] at gk
      generalize mg (mTake s d i) (d * 2804 + 7) = Y7 at g7 gk a7 t7
      generalize mg (mTake s d i) (d * 2804 + 1484) = Y84 at gk a7
      generalize mg (mTake s d i) (d * 2804 + 1486) = Y86 at gk a7
      generalize mg s (d * 2804 + 7) = X7 at *
      generalize mg s (d * 2804 + 1484) = X84 at *
      generalize mg s (d * 2804 + 1486) = X86 at *
      generalize mg s (rw_ d i + 0) = KE at *
      generalize mg s (rw_ d i + 1) = FI at *
      generalize mg s (rw_ d i + 2) = LA at *
      generalize s.1 10 = D at *
      generalize s.1 11 = E at *
      clear u3 t3 F V t2 u2
      omega
