/-! ===== texts: the class reads the same ===== -/
def fq (x : LSt) (f len : Int) (j : Nat) (i : Int) : Prop := f + i < len ∧ lFits x (lSign x (f + i)) (sbI j i)
theorem fmL_sp (x : LSt) (f len : Int) (j : Nat) : ∀ (m : Nat) (k : Int), (∃ i, k ≤ i ∧ i < k + m ∧ (∀ q, k ≤ q → q < i → fq x f len j q) ∧ ¬ fq x f len j i ∧ fmL x f len j m k = f + i) ∨ ((∀ q, k ≤ q → q < k + m → fq x f len j q) ∧ fmL x f len j m k = -1)
  | 0, k => Or.inr ⟨fun q q0 q1 => absurd q1 (by omega), rfl⟩
  | m + 1, k => by
    rw [fmL]
    by_cases c : f + k < len ∧ lFits x (lSign x (f + k)) (sbI j k)
    · rw [if_pos c]
      rcases fmL_sp x f len j m (k + 1) with ⟨i, i0, i1, i2, i3, i4⟩ | ⟨h, e⟩
      · refine Or.inl ⟨i, by omega, by omega, fun q q0 q1 => ?_, i3, i4⟩
        by_cases e : q = k
        · subst e; exact c
        · exact i2 q (by omega) q1
      · refine Or.inr ⟨fun q q0 q1 => ?_, e⟩
        by_cases e : q = k
        · subst e; exact c
        · exact h q (by omega) (by omega)
    · rw [if_neg c]
      exact Or.inl ⟨k, Int.le_refl _, by omega, fun q q0 q1 => absurd q1 (by omega), c, rfl⟩
theorem lFm_sp (x : LSt) (f len : Int) (j : Nat) (n : Nat) (hn : (slI j).toNat = n) : (∃ i, fa (fq x f len j) n i ∧ lFm x f len j = f + i) ∨ ((∀ q, 0 ≤ q → q < (n : Int) → fq x f len j q) ∧ lFm x f len j = -1) := by
  unfold lFm
  rw [hn]
  rcases fmL_sp x f len j n 0 with ⟨i, i0, i1, i2, i3, i4⟩ | ⟨h, e⟩
  · exact Or.inl ⟨i, ⟨i0, by omega, i2, i3⟩, i4⟩
  · exact Or.inr ⟨fun q q0 q1 => h q q0 (by omega), e⟩
/-- the same text -/
def tE (x : LSt) (tt : Nat → Int) (len : Int) : Prop := len ≤ 80 ∧ ∀ j : Int, 0 ≤ j → j < len → x.2.1 1 j.toNat = tt j.toNat
theorem tE.sg {x : LSt} {tt : Nat → Int} {len i : Int} (h : tE x tt len) (h0 : 0 ≤ i) (h1 : i < len) : lSign x i = tt i.toNat := by
  have e : lSign x i = x.2.1 1 i.toNat := if_pos ⟨h0, by have := h.1; omega⟩
  rw [e]
  exact h.2 i h0 h1
theorem sbE : sbI 0 0 = 107 ∧ sbI 0 1 = 100 ∧ sbI 0 2 = 100 ∧ sbI 0 3 = 100 ∧ sbI 0 4 = 100 ∧ sbI 0 5 = 115 ∧ sbI 0 6 = 100 ∧ sbI 0 7 = 100 ∧ sbI 0 8 = 110 := by decide +kernel
theorem sbA : sbI 1 0 = 107 ∧ sbI 1 1 = 100 ∧ sbI 1 2 = 100 ∧ sbI 1 3 = 100 ∧ sbI 1 4 = 100 ∧ sbI 1 5 = 115 ∧ sbI 1 6 = 100 ∧ sbI 1 7 = 100 ∧ sbI 1 8 = 100 := by decide +kernel
theorem sbM : sbI 2 0 = 100 ∧ sbI 2 1 = 100 ∧ sbI 2 2 = 100 ∧ sbI 2 3 = 100 ∧ sbI 2 4 = 100 ∧ sbI 2 5 = 100 := by decide +kernel
theorem sbD : sbI 3 0 = 100 := by decide +kernel
theorem slE : (slI 0).toNat = 9 ∧ (slI 1).toNat = 9 ∧ (slI 2).toNat = 6 ∧ (slI 3).toNat = 1 ∧ slI 0 = 9 ∧ slI 1 = 9 ∧ slI 2 = 6 ∧ slI 3 = 1 ∧ slI 4 = 0 := by decide +kernel
theorem fits_k {x : LSt} {c : Int} : lFits x c 107 ↔ (97 ≤ c ∧ c < 103) := by
  constructor
  · intro q
    rcases q with q | q | q | q
    · exact q.2
    · exact absurd q.1 (by decide)
    · exact absurd q.1 (by decide)
    · exact absurd rfl q.1
  · exact fun q => Or.inl ⟨rfl, q⟩
theorem fits_d {x : LSt} {c : Int} : lFits x c 100 ↔ (48 ≤ c ∧ c < 58) := by
  constructor
  · intro q
    rcases q with q | q | q | q
    · exact absurd q.1 (by decide)
    · exact absurd q.1 (by decide)
    · exact absurd q.1 (by decide)
    · exact ⟨q.2.2.2.1, by have := q.2.2.2.2; omega⟩
  · exact fun q => Or.inr (Or.inr (Or.inr ⟨by decide, by decide, by decide, q.1, by omega⟩))
theorem fits_s {x : LSt} {c : Int} : lFits x c 115 ↔ (c = 43 ∨ c = 45) := by
  constructor
  · intro q
    rcases q with q | q | q | q
    · exact absurd q.1 (by decide)
    · exact absurd q.1 (by decide)
    · exact q.2
    · exact absurd rfl q.2.2.1
  · exact fun q => Or.inr (Or.inr (Or.inl ⟨rfl, q⟩))
theorem fits_n {x : LSt} {c : Int} : lFits x c 110 ↔ (48 ≤ c ∧ c < 48 + wZ (x.2.2 0) 0) := by
  constructor
  · intro q
    rcases q with q | q | q | q
    · exact absurd q.1 (by decide)
    · exact q.2
    · exact absurd q.1 (by decide)
    · exact absurd rfl q.2.1
  · exact fun q => Or.inr (Or.inl ⟨rfl, q⟩)
theorem fq_d {x : LSt} {tt : Nat → Int} {a len i : Int} {j : Nat} (h : tE x tt len) (h0 : 0 ≤ a + i) (e : sbI j i = 100) : fq x a len j i ↔ (a + i < len ∧ 48 ≤ tt (a + i).toNat ∧ tt (a + i).toNat < 58) := by
  unfold fq
  rw [e]
  constructor
  · intro q
    rw [h.sg h0 q.1] at q
    exact ⟨q.1, fits_d.mp q.2⟩
  · intro q
    rw [h.sg h0 q.1]
    exact ⟨q.1, fits_d.mpr q.2⟩
theorem fq_k {x : LSt} {tt : Nat → Int} {a len i : Int} {j : Nat} (h : tE x tt len) (h0 : 0 ≤ a + i) (e : sbI j i = 107) : fq x a len j i ↔ (a + i < len ∧ 97 ≤ tt (a + i).toNat ∧ tt (a + i).toNat < 103) := by
  unfold fq
  rw [e]
  constructor
  · intro q
    rw [h.sg h0 q.1] at q
    exact ⟨q.1, fits_k.mp q.2⟩
  · intro q
    rw [h.sg h0 q.1]
    exact ⟨q.1, fits_k.mpr q.2⟩
theorem fq_s {x : LSt} {tt : Nat → Int} {a len i : Int} {j : Nat} (h : tE x tt len) (h0 : 0 ≤ a + i) (e : sbI j i = 115) : fq x a len j i ↔ (a + i < len ∧ (tt (a + i).toNat = 43 ∨ tt (a + i).toNat = 45)) := by
  unfold fq
  rw [e]
  constructor
  · intro q
    rw [h.sg h0 q.1] at q
    exact ⟨q.1, fits_s.mp q.2⟩
  · intro q
    rw [h.sg h0 q.1]
    exact ⟨q.1, fits_s.mpr q.2⟩
theorem fq_n {x : LSt} {tt : Nat → Int} {a len i : Int} {j : Nat} (h : tE x tt len) (h0 : 0 ≤ a + i) (e : sbI j i = 110) : fq x a len j i ↔ (a + i < len ∧ 48 ≤ tt (a + i).toNat ∧ tt (a + i).toNat < 48 + wZ (x.2.2 0) 0) := by
  unfold fq
  rw [e]
  constructor
  · intro q
    rw [h.sg h0 q.1] at q
    exact ⟨q.1, fits_n.mp q.2⟩
  · intro q
    rw [h.sg h0 q.1]
    exact ⟨q.1, fits_n.mpr q.2⟩
theorem cases9 {i : Int} (h0 : 0 ≤ i) (h1 : i < 9) : i = 0 ∨ i = 1 ∨ i = 2 ∨ i = 3 ∨ i = 4 ∨ i = 5 ∨ i = 6 ∨ i = 7 ∨ i = 8 := by omega
theorem fq_ev0 {x : LSt} {tt : Nat → Int} {a len : Int} (h : tE x tt len) (ha : 0 ≤ a) (z4 : wZ (x.2.2 0) 0 ≤ 4) : ∀ i, 0 ≤ i → i < 9 → (fq x a len 0 i ↔ evG tt len a (wZ (x.2.2 0) 0) 0 i) := by
  intro i i0 i1
  obtain ⟨e0, e1, e2, e3, e4, e5, e6, e7, e8⟩ := sbE
  unfold evG
  rcases cases9 i0 i1 with rfl | rfl | rfl | rfl | rfl | rfl | rfl | rfl | rfl
  · rw [fq_k h (by omega) e0]; omega
  · rw [fq_d h (by omega) e1]; omega
  · rw [fq_d h (by omega) e2]; omega
  · rw [fq_d h (by omega) e3]; omega
  · rw [fq_d h (by omega) e4]; omega
  · rw [fq_s h (by omega) e5]; omega
  · rw [fq_d h (by omega) e6]; omega
  · rw [fq_d h (by omega) e7]; omega
  · rw [fq_n h (by omega) e8]; omega
theorem fq_ev1 {x : LSt} {tt : Nat → Int} {a len n0 : Int} (h : tE x tt len) (ha : 0 ≤ a) : ∀ i, 0 ≤ i → i < 9 → (fq x a len 1 i ↔ evG tt len a n0 1 i) := by
  intro i i0 i1
  obtain ⟨e0, e1, e2, e3, e4, e5, e6, e7, e8⟩ := sbA
  unfold evG
  rcases cases9 i0 i1 with rfl | rfl | rfl | rfl | rfl | rfl | rfl | rfl | rfl
  · rw [fq_k h (by omega) e0]; omega
  · rw [fq_d h (by omega) e1]; omega
  · rw [fq_d h (by omega) e2]; omega
  · rw [fq_d h (by omega) e3]; omega
  · rw [fq_d h (by omega) e4]; omega
  · rw [fq_s h (by omega) e5]; omega
  · rw [fq_d h (by omega) e6]; omega
  · rw [fq_d h (by omega) e7]; omega
  · rw [fq_d h (by omega) e8]; omega
/-! numbers -/
theorem tb_le : ∀ n, 0 ≤ tb n ∧ tb n ≤ 1000000
  | 0 => ⟨by decide, by decide⟩
  | n + 1 => by
    have := tb_le n
    show 0 ≤ tb n / 10 ∧ tb n / 10 ≤ 1000000
    omega
theorem numL_nv {x : LSt} {tt : Nat → Int} {f len : Int} (h : tE x tt len) : ∀ (n : Nat) (k v : Int), 0 ≤ v → v < tb n → 0 ≤ f + k → f + k + n ≤ len → (∀ j, f + k ≤ j → j < f + k + n → 48 ≤ tt j.toNat ∧ tt j.toNat < 58) → numL x f n k v = nv (fun j => tt j.toNat) n (f + k) v
  | 0, _, _, _, _, _, _, _ => rfl
  | n + 1, k, v, h0, h1, h2, h3, hd => by
    have h80 := h.1
    have d := hd (f + k) (Int.le_refl _) (by omega)
    have t1 : tb (n + 1) = tb n / 10 := rfl
    have t2 := tb_le n
    rw [numL, nv, wI_id (z := f + k) ⟨by omega, by omega⟩, h.sg h2 (by omega), wI_id (z := v * 10) ⟨by omega, by omega⟩, wI_id (z := v * 10 + tt (f + k).toNat) ⟨by omega, by omega⟩, wI_id ⟨by omega, by omega⟩, numL_nv h n (k + 1) _ (by omega) (by omega) (by omega) (by omega) (fun j j0 j1 => hd j (by omega) (by omega)), show v * 10 + tt (f + k).toNat - 48 = 10 * v + (tt (f + k).toNat - 48) by omega, show f + (k + 1) = f + k + 1 by omega]
theorem lNum_nv {x : LSt} {tt : Nat → Int} {f len d : Int} (h : tE x tt len) (n : Nat) (hn : d.toNat = n) (h5 : n ≤ 5) (h2 : 0 ≤ f) (h3 : f + n ≤ len) (hd : ∀ j, f ≤ j → j < f + n → 48 ≤ tt j.toNat ∧ tt j.toNat < 58) : lNum x f d = nv (fun j => tt j.toNat) n f 0 := by
  have key : ∀ n, n ≤ 5 → 0 < tb n := by decide
  unfold lNum
  rw [hn, numL_nv h n 0 0 (Int.le_refl _) (key n h5) (by omega) (by omega) (fun j j0 j1 => hd j (by omega) (by omega)), show f + 0 = f by omega]
theorem nv1 (T : Int → Int) (a : Int) : nv T 1 a 0 = T a - 48 := by
  show 10 * 0 + (T a - 48) = _
  omega
theorem nv2_b {T : Int → Int} {a : Int} (h : ∀ j, a ≤ j → j < a + 2 → 48 ≤ T j ∧ T j < 58) : 0 ≤ nv T 2 a 0 ∧ nv T 2 a 0 ≤ 99 := by
  have h0 := h a (by omega) (by omega)
  have h1 := h (a + 1) (by omega) (by omega)
  show 0 ≤ 10 * (10 * 0 + (T a - 48)) + (T (a + 1) - 48) ∧ 10 * (10 * 0 + (T a - 48)) + (T (a + 1) - 48) ≤ 99
  omega
theorem nv4_b {T : Int → Int} {a : Int} (h : ∀ j, a ≤ j → j < a + 4 → 48 ≤ T j ∧ T j < 58) : 0 ≤ nv T 4 a 0 ∧ nv T 4 a 0 ≤ 9999 := by
  have h0 := h a (by omega) (by omega)
  have h1 := h (a + 1) (by omega) (by omega)
  have h2 := h (a + 1 + 1) (by omega) (by omega)
  have h3 := h (a + 1 + 1 + 1) (by omega) (by omega)
  show 0 ≤ 10 * (10 * (10 * (10 * 0 + (T a - 48)) + (T (a + 1) - 48)) + (T (a + 1 + 1) - 48)) + (T (a + 1 + 1 + 1) - 48) ∧ 10 * (10 * (10 * (10 * 0 + (T a - 48)) + (T (a + 1) - 48)) + (T (a + 1 + 1) - 48)) + (T (a + 1 + 1 + 1) - 48) ≤ 9999
  omega
/-- what an event's signs say to the class -/
theorem ev_vals {x : LSt} {tt : Nat → Int} {a len n0 any : Int} (h : tE x tt len) (ha : 0 ≤ a) (hG : ∀ j, 0 ≤ j → j < 9 → evG tt len a n0 any j) : (lKey x a = tt a.toNat - 97 ∧ lNum x (wI (a + 1)) 4 = nv (fun j => tt j.toNat) 4 (a + 1) 0 ∧ lVal x (wI (a + 5)) = (if tt (a + 5).toNat = 45 then -(nv (fun j => tt j.toNat) 2 (a + 6) 0) else nv (fun j => tt j.toNat) 2 (a + 6) 0) ∧ lNum x (wI (a + 8)) 1 = tt (a + 8).toNat - 48) ∧ (0 ≤ lKey x a ∧ lKey x a ≤ 5) ∧ (0 ≤ lNum x (wI (a + 1)) 4 ∧ lNum x (wI (a + 1)) 4 ≤ 9999) ∧ (-99 ≤ lVal x (wI (a + 5)) ∧ lVal x (wI (a + 5)) ≤ 99) ∧ (0 ≤ lNum x (wI (a + 8)) 1 ∧ lNum x (wI (a + 8)) 1 ≤ 9 ∧ (any = 0 → lNum x (wI (a + 8)) 1 < n0)) := by
  have h80 := h.1
  have g0 := hG 0 (by decide) (by decide)
  have g5 := hG 5 (by decide) (by decide)
  have g8 := hG 8 (by decide) (by decide)
  unfold evG at g0 g5 g8
  rw [show a + 0 = a by omega] at g0
  have gd : ∀ j, 1 ≤ j → j < 8 → j ≠ 5 → 48 ≤ tt (a + j).toNat ∧ tt (a + j).toNat < 58 := fun j j0 j1 j5 => ((evG_d (by omega) j5 (by omega)).mp (hG j (by omega) (by omega))).2
  have d4 : ∀ j, a + 1 ≤ j → j < a + 1 + 4 → 48 ≤ tt j.toNat ∧ tt j.toNat < 58 := fun j j0 j1 => by
    have := gd (j - a) (by omega) (by omega) (by omega)
    rw [show a + (j - a) = j by omega] at this
    exact this
  have d2 : ∀ j, a + 6 ≤ j → j < a + 6 + 2 → 48 ≤ tt j.toNat ∧ tt j.toNat < 58 := fun j j0 j1 => by
    have := gd (j - a) (by omega) (by omega) (by omega)
    rw [show a + (j - a) = j by omega] at this
    exact this
  have d1 : ∀ j, a + 8 ≤ j → j < a + 8 + 1 → 48 ≤ tt j.toNat ∧ tt j.toNat < 58 := fun j j0 j1 => by
    rw [show j = a + 8 by omega]
    omega
  have k1 : lKey x a = tt a.toNat - 97 := by
    unfold lKey
    rw [h.sg ha g0.1, wI_id ⟨by omega, by omega⟩]
  have k2 : lNum x (wI (a + 1)) 4 = nv (fun j => tt j.toNat) 4 (a + 1) 0 := by
    rw [wI_id ⟨by omega, by omega⟩]
    exact lNum_nv h 4 rfl (by decide) (by omega) (by omega) d4
  have n2 : lNum x (wI (a + 5 + 1)) 2 = nv (fun j => tt j.toNat) 2 (a + 6) 0 := by
    rw [wI_id ⟨by omega, by omega⟩, show a + 5 + 1 = a + 6 by omega]
    exact lNum_nv h 2 rfl (by decide) (by omega) (by omega) d2
  have b2 := nv2_b (T := fun j => tt j.toNat) d2
  have b4 := nv4_b (T := fun j => tt j.toNat) d4
  have k3 : lVal x (wI (a + 5)) = (if tt (a + 5).toNat = 45 then -(nv (fun j => tt j.toNat) 2 (a + 6) 0) else nv (fun j => tt j.toNat) 2 (a + 6) 0) := by
    unfold lVal
    rw [wI_id (z := a + 5) ⟨by omega, by omega⟩, h.sg (by omega) g5.1, n2]
    split
    · rw [wI_id ⟨by omega, by omega⟩]
    · rfl
  have k4 : lNum x (wI (a + 8)) 1 = tt (a + 8).toNat - 48 := by
    rw [wI_id ⟨by omega, by omega⟩, lNum_nv h 1 rfl (by decide) (by omega) (by omega) d1, nv1]
  refine ⟨⟨k1, k2, k3, k4⟩, by rw [k1]; omega, by rw [k2]; exact b4, ?_, ?_⟩
  · rw [k3]
    split <;> omega
  · rw [k4]
    refine ⟨by omega, by omega, fun q => ?_⟩
    omega
