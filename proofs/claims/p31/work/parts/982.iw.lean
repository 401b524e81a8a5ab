/-! ===== what gets ripe, what closes: the loops end ===== -/
theorem frL_sp (s : MS) (d wa : Int) : ∀ (n : Nat) (i b : Int), frL s d wa n i b = b ∨ (i ≤ frL s d wa n i b ∧ frL s d wa n i b < i + n ∧ mFr s d wa (frL s d wa n i b))
  | 0, i, b => Or.inl rfl
  | n + 1, i, b => by
    rw [frL]
    by_cases hc : mFr s d wa i ∧ (b < 0 ∨ mg s ((d * 2804 + 364 + 7 * i) + 2) < mg s ((d * 2804 + 364 + 7 * b) + 2))
    · rw [if_pos hc]
      rcases frL_sp s d wa n (i + 1) i with h | h
      · rw [h]; exact Or.inr ⟨Int.le_refl _, by omega, hc.1⟩
      · exact Or.inr ⟨by omega, by omega, h.2.2⟩
    · rw [if_neg hc]
      rcases frL_sp s d wa n (i + 1) b with h | h
      · exact Or.inl h
      · exact Or.inr ⟨by omega, by omega, h.2.2⟩
theorem fcL_sp (s : MS) (d : Int) : ∀ (n : Nat) (i b : Int), fcL s d n i b = b ∨ (i ≤ fcL s d n i b ∧ fcL s d n i b < i + n)
  | 0, i, b => Or.inl rfl
  | n + 1, i, b => by
    rw [fcL]
    by_cases hc : mOver s d i (mg s (d * 2804 + 4)) ∧ (b < 0 ∨ mg s ((d * 2804 + 364 + 7 * i) + 2) < mg s ((d * 2804 + 364 + 7 * b) + 2))
    · rw [if_pos hc]
      rcases fcL_sp s d n (i + 1) i with h | h
      · rw [h]; exact Or.inr ⟨Int.le_refl _, by omega⟩
      · exact Or.inr ⟨by omega, by omega⟩
    · rw [if_neg hc]
      rcases fcL_sp s d n (i + 1) b with h | h
      · exact Or.inl h
      · exact Or.inr ⟨by omega, by omega⟩
theorem firstR_sp {s : MS} {d wa : Int} (h5 : 0 ≤ mg s (d * 2804 + 5)) : mFirstR s d wa < 0 ∨ (0 ≤ mFirstR s d wa ∧ mFirstR s d wa < mg s (d * 2804 + 5) ∧ mFr s d wa (mFirstR s d wa)) := by
  unfold mFirstR
  rcases frL_sp s d wa (mg s (d * 2804 + 5)).toNat 0 (-1) with h | h
  · rw [h]; exact Or.inl (by decide)
  · exact Or.inr ⟨h.1, by omega, h.2.2⟩
theorem firstC_sp {s : MS} {d : Int} (h5 : 0 ≤ mg s (d * 2804 + 5)) : mFirstC s d < 0 ∨ (0 ≤ mFirstC s d ∧ mFirstC s d < mg s (d * 2804 + 5)) := by
  unfold mFirstC
  rcases fcL_sp s d (mg s (d * 2804 + 5)).toNat 0 (-1) with h | h
  · rw [h]; exact Or.inl (by decide)
  · exact Or.inr ⟨h.1, by omega⟩
/-- how many are not done -/
def nd (s : MS) (d : Int) : Nat → Nat
  | 0 => 0
  | k + 1 => nd s d k + (if mDone s d (k : Int) then 0 else 1)
theorem nd_k (s : MS) (d : Int) : ∀ k, nd s d k ≤ k
  | 0 => Nat.le_refl _
  | k + 1 => by
    rw [nd]
    have := nd_k s d k
    split <;> omega
theorem nd_le {s s' : MS} {d : Int} : ∀ k, (∀ j : Nat, j < k → mDone s d (j : Int) → mDone s' d (j : Int)) → nd s' d k ≤ nd s d k
  | 0, _ => Nat.le_refl _
  | k + 1, h => by
    rw [nd, nd]
    have h1 := nd_le k (fun j hj => h j (by omega))
    by_cases hc : mDone s d (k : Int)
    · rw [if_pos hc, if_pos (h k (by omega) hc)]; omega
    · rw [if_neg hc]
      split <;> omega
theorem nd_lt {s s' : MS} {d : Int} : ∀ (k i : Nat), i < k → ¬ mDone s d (i : Int) → mDone s' d (i : Int) → (∀ j : Nat, j < k → mDone s d (j : Int) → mDone s' d (j : Int)) → nd s' d k < nd s d k
  | 0, _, hi, _, _, _ => absurd hi (Nat.not_lt_zero _)
  | k + 1, i, hi, h0, h1, h => by
    rw [nd, nd]
    by_cases hik : i = k
    · subst hik
      rw [if_neg h0, if_pos h1]
      have := nd_le (d := d) i (fun j hj => h j (by omega))
      omega
    · have h2 := nd_lt (d := d) k i (by omega) h0 h1 (fun j hj => h j (by omega))
      by_cases hc : mDone s d (k : Int)
      · rw [if_pos hc, if_pos (h k (by omega) hc)]; omega
      · rw [if_neg hc]
        split <;> omega
theorem rr_ok {d wa n : Int} {K : MS → Prop} (hd : dOk d) (hn : n ≤ 160) : ∀ (m : Nat) (b : Int) (s : MS), dV d n b s → b + 2 * m ≤ 1000000 → nd s d (mg s (d * 2804 + 5)).toNat ≤ m → (∀ s', dF d s s' → dV d n (b + 2 * m) s' → K s') → rrP d wa K m (mFirstR s d wa) s
  | 0, b, s, hV, hb, hc, k => by
    refine ⟨?_, k s dF.same (hV.more (by omega))⟩
    rcases firstR_sp (wa := wa) hV.1.1 with h | h
    · exact h
    · have := nd_lt (s := s) (s' := mS s 10 (mg s ((d * 2804 + 364 + 7 * mFirstR s d wa) + 2) + 1)) (d := d) (mg s (d * 2804 + 5)).toNat (mFirstR s d wa).toNat (by omega) (by rw [show (((mFirstR s d wa).toNat : Nat) : Int) = mFirstR s d wa by omega]; exact h.2.2.2.2) (by
        rw [show (((mFirstR s d wa).toNat : Nat) : Int) = mFirstR s d wa by omega]
        exact Or.inl (show mg s _ < mg s _ + 1 by omega)) (fun j hj hD => by
        have h3 := h.2.2.2.2
        have e1 : (mS s 10 (mg s ((d * 2804 + 364 + 7 * mFirstR s d wa) + 2) + 1)).1 10 = mg s ((d * 2804 + 364 + 7 * mFirstR s d wa) + 2) + 1 := rfl
        refine Or.inl ?_
        rw [e1]
        show mg s _ < mg s _ + 1
        rcases hD with hD | hD
        · have := not_or.mp h3
          omega
        · have := not_or.mp h3
          omega)
      omega
  | m + 1, b, s, hV, hb, hc, k => by
    refine ⟨fun _ => k s dF.same (hV.more (by omega)), fun h0 => ?_⟩
    rcases firstR_sp (wa := wa) hV.1.1 with h | h
    · exact absurd h (by omega)
    generalize mFirstR s d wa = i at h h0
    obtain ⟨-, hi, hfr⟩ := h
    obtain ⟨t1, t2, t3⟩ := hV.take hd (by omega) (by omega) ⟨h0, hi⟩
    obtain ⟨u1, u2, u3⟩ := t1.send (kd := 1) hd (by omega) (by omega) ⟨by decide, by decide⟩ ⟨h0, by rw [t2.five hd]; exact hi⟩
    have F : dF d s (mRi1 s d i) := ((t2.trans u2).S (Or.inl rfl)).S (Or.inr (Or.inl rfl))
    have V : dV d n (b + 1 + 1) (mRi1 s d i) := u1
    have hn5 := hV.1
    refine ⟨⟨t3, u3, by rw [F.five hd]; omega⟩, ?_⟩
    refine rr_ok hd hn m (b + 1 + 1) (mRi1 s d i) V (by omega) ?_ (fun s' hF hV' => k s' (F.trans hF) (hV'.more (by omega)))
    rw [F.five hd]
    have e10 : (mRi1 s d i).1 10 = mg s (rw_ d i + 2) := (u2.row hd (q := 2) ⟨h0, by omega⟩ ⟨by decide, by decide⟩).trans (t2.row hd (q := 2) ⟨h0, by omega⟩ ⟨by decide, by decide⟩)
    have e11 : (mRi1 s d i).1 11 = mg s (rw_ d i + 0) := (u2.row hd (q := 0) ⟨h0, by omega⟩ ⟨by decide, by decide⟩).trans (t2.row hd (q := 0) ⟨h0, by omega⟩ ⟨by decide, by decide⟩)
    have hnd : ¬ (mg s (rw_ d i + 2) < s.1 10) ∧ ¬ (mg s (rw_ d i + 2) = s.1 10 ∧ mg s (rw_ d i + 0) ≤ s.1 11) := not_or.mp hfr.2.2
    have key : ∀ j : Nat, j < (mg s (d * 2804 + 5)).toNat → (mDone s d (j : Int) ∨ (j : Int) = i) → mDone (mRi1 s d i) d (j : Int) := by
      intro j hj hD
      have a2 := F.row hd (i := (j : Int)) (q := 2) ⟨by omega, by omega⟩ ⟨by decide, by decide⟩
      have a0 := F.row hd (i := (j : Int)) (q := 0) ⟨by omega, by omega⟩ ⟨by decide, by decide⟩
      show mg (mRi1 s d i) (rw_ d j + 2) < (mRi1 s d i).1 10 ∨ (mg (mRi1 s d i) (rw_ d j + 2) = (mRi1 s d i).1 10 ∧ mg (mRi1 s d i) (rw_ d j + 0) ≤ (mRi1 s d i).1 11)
      rw [a2, a0, e10, e11]
      rcases hD with hD | hD
      · have hD : mg s (rw_ d j + 2) < s.1 10 ∨ (mg s (rw_ d j + 2) = s.1 10 ∧ mg s (rw_ d j + 0) ≤ s.1 11) := hD
        omega
      · rw [hD]
        exact Or.inr ⟨Eq.refl _, Int.le_refl _⟩
    have := nd_lt (s := s) (s' := mRi1 s d i) (d := d) (mg s (d * 2804 + 5)).toNat i.toNat (by omega) (by rw [show ((i.toNat : Nat) : Int) = i by omega]; exact hfr.2.2) (key i.toNat (by omega) (Or.inr (by omega))) (fun j hj hD => key j hj (Or.inl hD))
    omega
