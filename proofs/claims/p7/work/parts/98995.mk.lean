/-! ===== day(): both read and do the same ===== -/
def acV (x : LSt) (s : MS) (j a : Int) : Prop := (lSign x a = 101 ∧ s.2 11 j.toNat = 0 ∧ s.2 5 j.toNat = lKey x (wI (a + 1)) ∧ s.2 6 j.toNat = lNum x (wI (a + 2)) 4 ∧ s.2 7 j.toNat = lVal x (wI (a + 6)) ∧ s.2 8 j.toNat = lNum x (wI (a + 9)) 1) ∨ (lSign x a = 109 ∧ s.2 11 j.toNat = 1 ∧ s.2 8 j.toNat = lNum x (wI (a + 1)) 1 ∧ s.2 6 j.toNat = lNum x (wI (a + 2)) 5) ∨ (lSign x a ≠ 101 ∧ lSign x a ≠ 109 ∧ s.2 11 j.toNat = 2 ∧ s.2 8 j.toNat = lNum x (wI (a + 1)) 1)
def acL (x : LSt) (a : Int) : Int := 1 + slI (afJ x a)
/-- entries of other numbers stay -/
def acF (s s' : MS) (k : Int) : Prop := ∀ j : Nat, j ≠ k.toNat → s'.2 5 j = s.2 5 j ∧ s'.2 6 j = s.2 6 j ∧ s'.2 7 j = s.2 7 j ∧ s'.2 8 j = s.2 8 j ∧ s'.2 11 j = s.2 11 j
theorem raE3_neg (s : MS) (k : Int) : (raE3 (-1, s) k).1 = 0 ∧ (raE3 (-1, s) k).2.1 5 = s.1 5 := ⟨rfl, rfl⟩
theorem raE2_neg (s : MS) (k a : Int) : (raE2 (-1, s) k a).1 = 0 ∧ (raE2 (-1, s) k a).2.1 5 = s.1 5 := ⟨rfl, rfl⟩
theorem raE1_neg (s : MS) (k : Int) : (raE1 s k (-1)).1 = 0 ∧ (raE1 s k (-1)).2.1 5 = s.1 5 := ⟨rfl, rfl⟩
theorem fq_m {x : LSt} {tt : Nat → Int} {a len : Int} (h : tE x tt len) (ha : 0 ≤ a) : ∀ i, 0 ≤ i → i < 6 → (fq x a len 2 i ↔ (a + i < len ∧ 48 ≤ tt (a + i).toNat ∧ tt (a + i).toNat < 58)) := by
  intro i i0 i1
  obtain ⟨e0, e1, e2, e3, e4, e5⟩ := sbM
  have : i = 0 ∨ i = 1 ∨ i = 2 ∨ i = 3 ∨ i = 4 ∨ i = 5 := by omega
  rcases this with rfl | rfl | rfl | rfl | rfl | rfl
  · exact fq_d h (by omega) e0
  · exact fq_d h (by omega) e1
  · exact fq_d h (by omega) e2
  · exact fq_d h (by omega) e3
  · exact fq_d h (by omega) e4
  · exact fq_d h (by omega) e5
theorem gDg1 (s : MS) {a to : Int} {tt : Nat → Int} (h2 : s.2 2 = tt) (h6 : s.1 6 = to) (h5 : s.1 5 = a) : gDg s 1 = if a < to ∧ 48 ≤ tt a.toNat ∧ tt a.toNat < 58 then (tt a.toNat - 48, mS s 5 (a + 1)) else (-1, s) := by
  have eg1 : gDg s 1 = dgL 0 (dgV 0 (gTk s 6).1) (gTk s 6).2 := by
    show dgL 1 0 s = _
    rfl
  rw [eg1, gTk6, h2, h6, h5]
  by_cases c : a < to ∧ 48 ≤ tt a.toNat ∧ tt a.toNat < 58
  · rw [if_pos c]
    have : dgV 0 (tt a.toNat - 48) = tt a.toNat - 48 := by
      unfold dgV
      rw [if_neg (by omega)]
      omega
    show (dgV 0 (tt a.toNat - 48), mS s 5 (a + 1)) = _
    rw [this]
  · rw [if_neg c]
    rfl
theorem ra_sp {x : LSt} {s : MS} {k a len : Int} {tt : Nat → Int} (hT : tE x tt len) (h2 : s.2 2 = tt) (h6 : s.1 6 = len) (h5 : s.1 5 = a) (ha : 0 ≤ a) (hl : a < len) : (slI (afJ x a) = 0 ∧ (gRa s k).1 = 0 ∧ (gRa s k).2.1 5 = a) ∨ (slI (afJ x a) ≠ 0 ∧ 0 ≤ lFm x (a + 1) len (afJ x a) ∧ (gRa s k).1 = 0 ∧ (gRa s k).2.1 5 = lFm x (a + 1) len (afJ x a)) ∨ (slI (afJ x a) ≠ 0 ∧ lFm x (a + 1) len (afJ x a) < 0 ∧ (gRa s k).1 = 1 ∧ (gRa s k).2.1 5 = a + acL x a ∧ a + acL x a ≤ len ∧ acV x (gRa s k).2 k a ∧ acF s (gRa s k).2 k) := by
  have h80 := hT.1
  have sg := hT.sg ha hl
  obtain ⟨-, m1, m2, m3, -, l1, l2, l3, l4⟩ := slE
  have w1 : wI (a + 1) = a + 1 := wI_id ⟨by omega, by omega⟩
  have w2 : wI (a + 2) = a + 2 := wI_id ⟨by omega, by omega⟩
  have w6 : wI (a + 6) = a + 6 := wI_id ⟨by omega, by omega⟩
  have w9 : wI (a + 9) = a + 9 := wI_id ⟨by omega, by omega⟩
  unfold gRa
  rw [gTk8, h2, h6, h5, if_neg (by omega)]
  by_cases c1 : 101 = tt a.toNat
  · rw [if_pos c1]
    have ej : afJ x a = 1 := if_pos (by rw [sg]; exact c1.symm)
    have el : acL x a = 10 := by unfold acL; rw [ej, l1]; decide
    rw [ej, el]
    have e0 : raE0 (0, mS s 5 (a + 1)) k = gRe (st11 (0, mS s 5 (a + 1)) k) k 1 := if_pos rfl
    rw [e0]
    have iff := fq_ev1 (n0 := mg (st11 (0, mS s 5 (a + 1)) k) 0) hT (a := a + 1) (by omega)
    have rs := re_sp (s := st11 (0, mS s 5 (a + 1)) k) (k := k) (any := 1) (a := a + 1) (to := len) (tt := tt) h2 h6 rfl
    rcases lFm_sp x (a + 1) len 1 9 m1 with ⟨i, hi, ei⟩ | ⟨hall, ei⟩
    · rcases rs with ⟨i', hi', r1, r2⟩ | ⟨hall', -⟩
      · have q := hi.one iff hi'
        subst q
        have p0 := hi.1
        exact Or.inr (Or.inl ⟨by rw [l1]; decide, by rw [ei]; omega, r1, by rw [r2, ei]⟩)
      · exact (hi.no iff hall').elim
    · rcases rs with ⟨i', hi', -, -⟩ | ⟨hall', r1, r2, r5, r6, r7, r8, r11⟩
      · exact (hi'.no (fun j j0 j1 => (iff j j0 j1).symm) hall).elim
      · obtain ⟨⟨v5, v6, v7, v8⟩, -⟩ := ev_vals hT (by omega : 0 ≤ a + 1) hall'
        have g8 : a + 1 + 8 < len := (hall' 8 (by decide) (by decide)).1
        refine Or.inr (Or.inr ⟨by rw [l1]; decide, by rw [ei]; decide, r1, by rw [r2]; omega, by omega, Or.inl ⟨by rw [sg]; exact c1.symm, ?_, ?_, ?_, ?_, ?_⟩, fun j hj => ⟨?_, ?_, ?_, ?_, ?_⟩⟩)
        · rw [r11]; exact xup_eq
        · rw [r5, xup_eq, w1, v5]
        · rw [r6, xup_eq, show a + 2 = a + 1 + 1 by omega, v6]
        · rw [r7, xup_eq, show a + 6 = a + 1 + 5 by omega, v7]
        · rw [r8, xup_eq, show a + 9 = a + 1 + 8 by omega, v8]
        · rw [r5, xup_ne hj]; rfl
        · rw [r6, xup_ne hj]; rfl
        · rw [r7, xup_ne hj]; rfl
        · rw [r8, xup_ne hj]; rfl
        · rw [r11]; exact xup_ne hj
  · rw [if_neg c1]
    by_cases c2 : 109 = tt a.toNat
    · rw [if_pos c2]
      have ej : afJ x a = 2 := by
        unfold afJ
        rw [sg, if_neg (fun z => c1 z.symm), if_neg (by omega), if_pos c2.symm]
      have el : acL x a = 7 := by unfold acL; rw [ej, l2]; decide
      rw [ej, el]
      have e0 : raE0 (1, mS s 5 (a + 1)) k = raE1 (st11 (1, mS s 5 (a + 1)) k) k 1 := if_neg (by show ¬ (1 : Int) = 0; decide)
      have e1 : raE1 (st11 (1, mS s 5 (a + 1)) k) k 1 = raE2 (gDg (st11 (1, mS s 5 (a + 1)) k) 1) k 1 := if_neg (by decide)
      rw [e0, e1, gDg1 (st11 (1, mS s 5 (a + 1)) k) (a := a + 1) (to := len) (tt := tt) h2 h6 rfl]
      have iff := fq_m hT (a := a + 1) (by omega)
      by_cases c3 : a + 1 < len ∧ 48 ≤ tt (a + 1).toNat ∧ tt (a + 1).toNat < 58
      · rw [if_pos c3]
        have e2 : raE2 (tt (a + 1).toNat - 48, mS (st11 (1, mS s 5 (a + 1)) k) 5 (a + 1 + 1)) k 1 = raE3 (gDg (st8 (tt (a + 1).toNat - 48, mS (st11 (1, mS s 5 (a + 1)) k) 5 (a + 1 + 1)) k) 5) k := (if_neg (by show ¬ tt (a + 1).toNat - 48 < 0; omega)).trans (if_pos rfl)
        rw [e2]
        have d5 := dg_sp tt len (a + 1) (fun i => a + 1 + i < len ∧ 48 ≤ tt (a + 1 + i).toNat ∧ tt (a + 1 + i).toNat < 58) 5 1 0 (st8 (tt (a + 1).toNat - 48, mS (st11 (1, mS s 5 (a + 1)) k) 5 (a + 1 + 1)) k) h2 h6 rfl (by decide) (by decide) (fun j _ _ => Iff.rfl) (fun j j0 j1 => by rw [show j = 0 by omega, show a + 1 + 0 = a + 1 by omega]; exact c3)
        have eg : gDg (st8 (tt (a + 1).toNat - 48, mS (st11 (1, mS s 5 (a + 1)) k) 5 (a + 1 + 1)) k) 5 = dgL 5 0 (st8 (tt (a + 1).toNat - 48, mS (st11 (1, mS s 5 (a + 1)) k) 5 (a + 1 + 1)) k) := rfl
        rw [eg]
        rcases lFm_sp x (a + 1) len 2 6 m2 with ⟨i, hi, ei⟩ | ⟨hall, ei⟩
        · rcases d5 with ⟨i', hi', e⟩ | ⟨hall', -⟩
          · have q := hi.one iff hi'
            subst q
            have p0 := hi.1
            rw [e]
            obtain ⟨x1, x2⟩ := raE3_neg (mS (st8 (tt (a + 1).toNat - 48, mS (st11 (1, mS s 5 (a + 1)) k) 5 (a + 1 + 1)) k) 5 (a + 1 + i)) k
            exact Or.inr (Or.inl ⟨by rw [l2]; decide, by rw [ei]; omega, x1, by rw [x2, ei]; rfl⟩)
          · exact (hi.no iff hall').elim
        · rcases d5 with ⟨i', hi', -⟩ | ⟨hall', e⟩
          · exact (hi'.no (fun j j0 j1 => (iff j j0 j1).symm) hall).elim
          · rw [e]
            have gl : a + 1 + 5 < len := (hall' 5 (by decide) (by decide)).1
            have dd : ∀ j, a + 2 ≤ j → j < a + 2 + 5 → 48 ≤ tt j.toNat ∧ tt j.toNat < 58 := fun j j0 j1 => by
              have := (hall' (j - (a + 1)) (by omega) (by omega)).2
              rw [show a + 1 + (j - (a + 1)) = j by omega] at this
              exact this
            have nn := nv_nn (fun j => tt j.toNat) 5 (a + 1 + 1) 0 (by decide) (fun j j0 j1 => (dd j (by omega) (by omega)).1)
            have k5 : lNum x (wI (a + 2)) 5 = nv (fun j => tt j.toNat) 5 (a + 1 + 1) 0 := by
              rw [w2, show a + 1 + 1 = a + 2 by omega]
              exact lNum_nv hT 5 rfl (by decide) (by omega) (by omega) dd
            have k1 : lNum x (wI (a + 1)) 1 = tt (a + 1).toNat - 48 := by
              rw [w1, lNum_nv hT 1 rfl (by decide) (by omega) (by omega) (fun j j0 j1 => by rw [show j = a + 1 by omega]; exact c3.2), nv1]
            generalize nv (fun j => tt j.toNat) 5 (a + 1 + 1) 0 = v at nn k5 ⊢
            have e3 : raE3 (v, mS (st8 (tt (a + 1).toNat - 48, mS (st11 (1, mS s 5 (a + 1)) k) 5 (a + 1 + 1)) k) 5 (a + 1 + 1 + ((5 : Nat) : Int))) k = (1, st6 (v, mS (st8 (tt (a + 1).toNat - 48, mS (st11 (1, mS s 5 (a + 1)) k) 5 (a + 1 + 1)) k) 5 (a + 1 + 1 + ((5 : Nat) : Int))) k) := by
              unfold raE3
              rw [if_neg (by show ¬ v < 0; omega)]
            rw [e3]
            refine Or.inr (Or.inr ⟨by rw [l2]; decide, by rw [ei]; decide, rfl, by show a + 1 + 1 + ((5 : Nat) : Int) = a + 7; omega, by omega, Or.inr (Or.inl ⟨by rw [sg]; exact c2.symm, ?_, ?_, ?_⟩), fun j hj => ⟨rfl, ?_, rfl, ?_, ?_⟩⟩)
            · exact xup_eq
            · rw [k1]; exact xup_eq
            · rw [k5]; exact xup_eq
            · exact xup_ne hj
            · exact xup_ne hj
            · exact xup_ne hj
      · rw [if_neg c3]
        obtain ⟨x1, x2⟩ := raE2_neg (st11 (1, mS s 5 (a + 1)) k) k 1
        rcases lFm_sp x (a + 1) len 2 6 m2 with ⟨i, hi, ei⟩ | ⟨hall, ei⟩
        · have q : i = 0 := by
            have nf : ¬ fq x (a + 1) len 2 0 := fun z => c3 (by have := (iff 0 (by decide) (by decide)).mp z; rw [show a + 1 + 0 = a + 1 by omega] at this; exact this)
            rcases Int.lt_trichotomy i 0 with q | q | q
            · exact absurd hi.1 (by omega)
            · exact q
            · exact absurd (hi.2.2.1 0 (by decide) q) nf
          subst q
          exact Or.inr (Or.inl ⟨by rw [l2]; decide, by rw [ei]; omega, x1, by rw [x2, ei]; show a + 1 = a + 1 + 0; omega⟩)
        · exact absurd ((iff 0 (by decide) (by decide)).mp (hall 0 (by decide) (by decide))) (by rw [show a + 1 + 0 = a + 1 by omega]; exact c3)
    · rw [if_neg c2]
      by_cases c4 : 105 = tt a.toNat
      · rw [if_pos c4]
        have ej : afJ x a = 3 := by
          unfold afJ
          rw [sg, if_neg (fun z => c1 z.symm), if_pos c4.symm]
        have el : acL x a = 2 := by unfold acL; rw [ej, l3]; decide
        rw [ej, el]
        have e0 : raE0 (2, mS s 5 (a + 1)) k = raE1 (st11 (2, mS s 5 (a + 1)) k) k 2 := if_neg (by show ¬ (2 : Int) = 0; decide)
        have e1 : raE1 (st11 (2, mS s 5 (a + 1)) k) k 2 = raE2 (gDg (st11 (2, mS s 5 (a + 1)) k) 1) k 2 := if_neg (by decide)
        rw [e0, e1, gDg1 (st11 (2, mS s 5 (a + 1)) k) (a := a + 1) (to := len) (tt := tt) h2 h6 rfl]
        have iff := fq_d (x := x) (i := 0) (j := 3) (a := a + 1) hT (by omega) sbD
        rw [show a + 1 + 0 = a + 1 by omega] at iff
        by_cases c3 : a + 1 < len ∧ 48 ≤ tt (a + 1).toNat ∧ tt (a + 1).toNat < 58
        · rw [if_pos c3]
          have e2 : raE2 (tt (a + 1).toNat - 48, mS (st11 (2, mS s 5 (a + 1)) k) 5 (a + 1 + 1)) k 2 = (1, st6 (0, st8 (tt (a + 1).toNat - 48, mS (st11 (2, mS s 5 (a + 1)) k) 5 (a + 1 + 1)) k) k) := (if_neg (by show ¬ tt (a + 1).toNat - 48 < 0; omega)).trans (if_neg (by decide))
          rw [e2]
          have k1 : lNum x (wI (a + 1)) 1 = tt (a + 1).toNat - 48 := by
            rw [w1, lNum_nv hT 1 rfl (by decide) (by omega) (by omega) (fun j j0 j1 => by rw [show j = a + 1 by omega]; exact c3.2), nv1]
          rcases lFm_sp x (a + 1) len 3 1 m3 with ⟨i, hi, ei⟩ | ⟨hall, ei⟩
          · have q : i = 0 := by have := hi.1; have := hi.2.1; omega
            subst q
            exact absurd (iff.mpr c3) hi.2.2.2
          · refine Or.inr (Or.inr ⟨by rw [l3]; decide, by rw [ei]; decide, rfl, by show a + 1 + 1 = a + 2; omega, by omega, Or.inr (Or.inr ⟨by rw [sg]; exact fun z => c1 z.symm, by rw [sg]; exact fun z => c2 z.symm, ?_, ?_⟩), fun j hj => ⟨rfl, ?_, rfl, ?_, ?_⟩⟩)
            · exact xup_eq
            · rw [k1]; exact xup_eq
            · exact xup_ne hj
            · exact xup_ne hj
            · exact xup_ne hj
        · rw [if_neg c3]
          obtain ⟨x1, x2⟩ := raE2_neg (st11 (2, mS s 5 (a + 1)) k) k 2
          rcases lFm_sp x (a + 1) len 3 1 m3 with ⟨i, hi, ei⟩ | ⟨hall, ei⟩
          · have q : i = 0 := by have := hi.1; have := hi.2.1; omega
            subst q
            exact Or.inr (Or.inl ⟨by rw [l3]; decide, by rw [ei]; omega, x1, by rw [x2, ei]; show a + 1 = a + 1 + 0; omega⟩)
          · exact absurd (iff.mp (hall 0 (by decide) (by decide))) c3
      · rw [if_neg c4]
        have ej : afJ x a = 4 := by
          unfold afJ
          rw [sg, if_neg (fun z => c1 z.symm), if_neg (fun z => c4 z.symm), if_neg (fun z => c2 z.symm)]
        rw [ej]
        have e0 : raE0 (-1, s) k = raE1 (st11 (-1, s) k) k (-1) := if_neg (by show ¬ (-1 : Int) = 0; decide)
        rw [e0]
        obtain ⟨x1, x2⟩ := raE1_neg (st11 (-1, s) k) k
        exact Or.inl ⟨l4, x1, x2.trans h5⟩
/-- where acts stand -/
def acP (x : LSt) : Nat → Int → Int
  | 0, a => a
  | n + 1, a => acP x n (a + acL x a)
theorem raL_dm {x : LSt} {len : Int} : ∀ (m : Nat) (a n : Int) (s : MS) (M : Nat), m ≤ M → s.1 5 = a → s.1 6 = len → tE x (s.2 2) len → 0 ≤ a → 0 ≤ n → a ≤ len → len ≤ a + m → (0 ≤ dmL x len m a → (raL M n s).1 = 0 ∧ (raL M n s).2.2.1 5 = dmL x len m a) ∧ (dmL x len m a < 0 → (raL M n s).1 = 1 ∧ n ≤ (raL M n s).2.1 ∧ acP x ((raL M n s).2.1 - n).toNat a = len ∧ (∀ q : Nat, n + q < (raL M n s).2.1 → acV x (raL M n s).2.2 (n + q) (acP x q a) ∧ acP x q a < len) ∧ ∀ j : Nat, (j : Int) < n → (raL M n s).2.2.2 5 j = s.2 5 j ∧ (raL M n s).2.2.2 6 j = s.2 6 j ∧ (raL M n s).2.2.2 7 j = s.2 7 j ∧ (raL M n s).2.2.2 8 j = s.2 8 j ∧ (raL M n s).2.2.2 11 j = s.2 11 j)
  | 0, a, n, s, M, hM, h5, h6, hT, ha, hn, hal, hlen => by
    have e : raL M n s = (1, n, s) := by
      match M with
      | 0 => rfl
      | M + 1 => exact if_pos (by omega)
    rw [e]
    refine ⟨fun q => absurd q (by show ¬ (0 : Int) ≤ -1; decide), fun _ => ⟨rfl, Int.le_refl _, ?_, fun q hq => absurd hq (by show ¬ n + _ < n; omega), fun j _ => ⟨rfl, rfl, rfl, rfl, rfl⟩⟩⟩
    show acP x (n - n).toNat a = len
    rw [show (n - n).toNat = 0 by omega]
    show a = len
    omega
  | m + 1, a, n, s, M, hM, h5, h6, hT, ha, hn, hal, hlen => by
    match M, hM with
    | M + 1, hM =>
      by_cases c : len ≤ a
      · have e1 : dmL x len (m + 1) a = -1 := if_pos c
        have e : raL (M + 1) n s = (1, n, s) := if_pos (by omega)
        rw [e, e1]
        refine ⟨fun q => absurd q (by decide), fun _ => ⟨rfl, Int.le_refl _, ?_, fun q hq => absurd hq (by show ¬ n + _ < n; omega), fun j _ => ⟨rfl, rfl, rfl, rfl, rfl⟩⟩⟩
        show acP x (n - n).toNat a = len
        rw [show (n - n).toNat = 0 by omega]
        show a = len
        omega
      · have e1 : dmL x len (m + 1) a = if slI (afJ x a) = 0 then a else if 0 ≤ lFm x (a + 1) len (afJ x a) then lFm x (a + 1) len (afJ x a) else dmL x len m (a + (1 + slI (afJ x a))) := if_neg c
        have e2 : raL (M + 1) n s = if (gRa s n).1 = 0 then (0, n, (gRa s n).2) else raL M (n + 1) (gRa s n).2 := if_neg (by omega)
        rw [e1, e2]
        rcases ra_sp (k := n) hT rfl h6 h5 ha (by omega) with ⟨p1, p2, p3⟩ | ⟨p1, p0, p2, p3⟩ | ⟨p1, p0, p2, p3, p4, p5, p6⟩
        · rw [if_pos p1, if_pos p2]
          exact ⟨fun _ => ⟨rfl, p3⟩, fun q => absurd q (by omega)⟩
        · rw [if_neg p1, if_pos p0, if_pos p2]
          exact ⟨fun _ => ⟨rfl, p3⟩, fun q => absurd q (by omega)⟩
        · rw [if_neg p1, if_neg (by omega), if_neg (by rw [p2]; decide)]
          obtain ⟨f1, -⟩ := gRa_f s n
          have t2 : (gRa s n).2.2 2 = s.2 2 := f1.2.1 2 (by decide) (by decide) (by decide) (by decide) (by decide)
          have t6 : (gRa s n).2.1 6 = len := (f1.1 6 (by decide)).trans h6
          have lp : 1 ≤ acL x a := by
            unfold acL
            have : 0 ≤ slI (afJ x a) := by unfold slI; omega
            omega
          have ep : a + (1 + slI (afJ x a)) = a + acL x a := rfl
          rw [ep]
          generalize (gRa s n).2 = u at p3 p5 p6 t2 t6 ⊢
          obtain ⟨ih1, ih2⟩ := raL_dm m (a + acL x a) (n + 1) u M (by omega) p3 t6 (by rw [t2]; exact hT) (by omega) (by omega) p4 (by omega)
          refine ⟨ih1, fun q => ?_⟩
          obtain ⟨k1, k2, k3, k4, k5⟩ := ih2 q
          refine ⟨k1, by omega, ?_, fun q hq => ?_, fun j hj => ?_⟩
          · rw [show ((raL M (n + 1) u).2.1 - n).toNat = ((raL M (n + 1) u).2.1 - (n + 1)).toNat + 1 by omega]
            exact k3
          · match q, hq with
            | 0, hq =>
              refine ⟨?_, by show a < len; omega⟩
              obtain ⟨w5, w6, w7, w8, w11⟩ := k5 n.toNat (by omega)
              rw [show n + ((0 : Nat) : Int) = n by omega]
              unfold acV at p5 ⊢
              rw [w5, w6, w7, w8, w11]
              exact p5
            | q + 1, hq =>
              have := k4 q (by omega)
              rw [show n + 1 + (q : Int) = n + ((q + 1 : Nat) : Int) by omega] at this
              exact this
          · obtain ⟨w5, w6, w7, w8, w11⟩ := k5 j (by omega)
            obtain ⟨v5, v6, v7, v8, v11⟩ := p6 j (by omega)
            exact ⟨w5.trans v5, w6.trans v6, w7.trans v7, w8.trans v8, w11.trans v11⟩
/-- one act -/
theorem act_ok {x y : LSt} {u s : MS} {d a : Int} {R : Int → MS → Prop} (hv : acV x u d a) (hx : y.2.1 1 = x.2.1 1) (ha : s.2 5 = u.2 5 ∧ s.2 6 = u.2 6 ∧ s.2 7 = u.2 7 ∧ s.2 8 = u.2 8 ∧ s.2 11 = u.2 11) (hr : rW (y.2.2 0) (gD 0 s)) (ho : wok (y.2.2 0)) (hd : dI 0 s) (bd : 0 ≤ d ∧ d < 80) (k0 : lActR y a < 0 → ∀ b, b < 0 → R b s) (kk : ¬ lActR y a < 0 → ∀ b s' w', 0 ≤ b → (∀ z : LSt, z.2.2 0 = y.2.2 0 → z.2.1 1 = y.2.1 1 → lAct z a = setW z 0 w') → rW w' (gD 0 s') → wok w' → dI 0 s' → oD 0 s s' → R b s') : doP d s R := by
  have i0 : 1 ≤ mg s 0 ∧ mg s 0 ≤ 4 := hd.1
  have lS : ∀ z : LSt, z.2.1 1 = y.2.1 1 → ∀ i, lSign z i = lSign x i := fun z hz i => by unfold lSign; rw [hz, hx]
  have nL : ∀ z : LSt, z.2.1 1 = y.2.1 1 → ∀ (f : Int) (q : Nat) (k v : Int), numL z f q k v = numL x f q k v := by
    intro z hz f q
    induction q with
    | zero => intro k v; rfl
    | succ q ih => intro k v; rw [numL, numL, lS z hz, ih]
  have nN : ∀ z : LSt, z.2.1 1 = y.2.1 1 → ∀ f d, lNum z f d = lNum x f d := fun z hz f d => nL z hz f _ _ _
  have nK : ∀ z : LSt, z.2.1 1 = y.2.1 1 → ∀ b, lKey z b = lKey x b := fun z hz b => by unfold lKey; rw [lS z hz]
  have nV : ∀ z : LSt, z.2.1 1 = y.2.1 1 → ∀ b, lVal z b = lVal x b := fun z hz b => by unfold lVal; rw [lS z hz, nN z hz]
  refine ⟨⟨bd, by omega, i0.2⟩, fun q => ?_, fun q => ⟨fun q1 => ?_, fun q1 => ?_⟩⟩
  · rcases hv with ⟨v0, v11, v5, v6, v7, v8⟩ | ⟨v0, v11, -⟩ | ⟨v0, v1, v11, -⟩
    · have eR : lActR y a = lEvR y (lKey x (wI (a + 1))) (lNum x (wI (a + 2)) 4) (lVal x (wI (a + 6))) (lNum x (wI (a + 9)) 1) := by
        unfold lActR
        rw [lS y rfl, if_pos v0, nK y rfl, nN y rfl, nV y rfl, nN y rfl]
      rw [eR] at k0 kk
      rw [ha.1, ha.2.1, ha.2.2.1, ha.2.2.2.1, v5, v6, v7, v8]
      exact ⟨650, evP_ok hr hd (fun c _ => k0 c _ c) (fun c s' r' d' o _ => kk c _ s' _ (by have := wFate_b (wNote (y.2.2 0) 0 (lNum x (wI (a + 9)) 1) (lNum x (wI (a + 2)) 4)) (lNum x (wI (a + 2)) 4); omega) (fun z hz hz1 => by
        unfold lAct
        rw [lS z hz1, if_pos v0, nK z hz1, nN z hz1, nV z hz1, nN z hz1, hz]) r' (wok_ComeE ho) d' o)⟩
    · rw [ha.2.2.2.2, v11] at q
      exact absurd q (by decide)
    · rw [ha.2.2.2.2, v11] at q
      exact absurd q (by decide)
  · rcases hv with ⟨v0, v11, -⟩ | ⟨v0, v11, v8, v6⟩ | ⟨v0, v1, v11, -⟩
    · rw [ha.2.2.2.2, v11] at q
      exact absurd rfl q
    · have eR : lActR y a = lMkR y (lNum x (wI (a + 1)) 1) (lNum x (wI (a + 2)) 5) := by
        unfold lActR
        rw [lS y rfl, if_neg (by rw [v0]; decide), if_pos v0, nN y rfl, nN y rfl]
      rw [eR] at k0 kk
      rw [ha.2.1, ha.2.2.2.1, v8, v6]
      exact ⟨650, mkP_ok hr hd (fun c _ => k0 c _ c) (fun c s' hb r' d' o _ => kk c _ s' _ hb (fun z hz hz1 => by
        unfold lAct
        rw [lS z hz1, if_neg (by rw [v0]; decide), if_pos v0, nN z hz1, nN z hz1, hz]) r' (wok_ComeM ho) d' o)⟩
    · rw [ha.2.2.2.2, v11] at q1
      exact absurd q1 (by decide)
  · rcases hv with ⟨v0, v11, -⟩ | ⟨v0, v11, -⟩ | ⟨v0, v1, v11, v8⟩
    · rw [ha.2.2.2.2, v11] at q
      exact absurd rfl q
    · rw [ha.2.2.2.2, v11] at q1
      exact absurd rfl q1
    · have eR : lActR y a = lIdR y (lNum x (wI (a + 1)) 1) := by
        unfold lActR
        rw [lS y rfl, if_neg v0, if_neg v1, nN y rfl]
      rw [eR] at k0 kk
      rw [ha.2.2.2.1, v8]
      exact ⟨650, idP_ok hr hd (fun c _ => k0 c _ c) (fun c s' hb r' d' o _ => kk c _ s' _ hb (fun z hz hz1 => by
        unfold lAct
        rw [lS z hz1, if_neg v0, if_neg v1, nN z hz1, hz]) r' (wok_ComeI ho) d' o)⟩
theorem af_text {x z : LSt} (h : z.2.1 1 = x.2.1 1) (a : Int) : afJ z a = afJ x a := by
  have lS : lSign z a = lSign x a := by unfold lSign; rw [h]
  unfold afJ
  rw [lS]
/-- acts done one by one, behind the first -/
theorem da_sp {x : LSt} {u : MS} {Q : Int → MS → Prop} {len N : Int} (hN : N ≤ 80) : ∀ (n : Nat) (d a : Int) (M : Nat) (s : MS) (y : LSt), n ≤ M → 1 ≤ d → d + n = N → acP x n a = len → (∀ q : Nat, q < n → acV x u (d + q) (acP x q a) ∧ acP x q a < len) → y.2.1 1 = x.2.1 1 → (s.2 5 = u.2 5 ∧ s.2 6 = u.2 6 ∧ s.2 7 = u.2 7 ∧ s.2 8 = u.2 8 ∧ s.2 11 = u.2 11) → rW (y.2.2 0) (gD 0 s) → wok (y.2.2 0) → dI 0 s → (∀ d' s' w', dyL len M a d y = (d', (if d' < N then 1 else 0), setW y 0 w') → d ≤ d' → rW w' (gD 0 s') → wok w' → dI 0 s' → oD 0 s s' → Q d' s') → daP Q n d s
  | 0, d, a, M, s, y, hM, h1, hdn, hp, hv, hx, ha, hr, ho, hd, kk => by
    refine kk d s (y.2.2 0) ?_ (Int.le_refl _) hr ho hd oD.same
    have hp : a = len := hp
    rw [setW_same, if_neg (by omega)]
    match M with
    | 0 => rfl
    | M + 1 => exact if_pos (by omega)
  | n + 1, d, a, M, s, y, hM, h1, hdn, hp, hv, hx, ha, hr, ho, hd, kk => by
    match M, hM with
    | M + 1, hM =>
      obtain ⟨v0, v1⟩ := hv 0 (by omega)
      rw [show d + ((0 : Nat) : Int) = d by omega] at v0
      have v0 : acV x u d a := v0
      have v1 : a < len := v1
      have eL : dyL len (M + 1) a d y = if lActR y a < 0 then (d, 1, y) else if d = 0 then dyL len M (a + (1 + slI (afJ (lAct (lRem y) a) a))) (d + 1) (lAct (lRem y) a) else dyL len M (a + (1 + slI (afJ (lAct y a) a))) (d + 1) (lAct y a) := if_neg (by omega)
      refine act_ok (R := fun b s' => (b < 0 → Q d s') ∧ (0 ≤ b → daP Q n (d + 1) s')) v0 hx ha hr ho hd ⟨by omega, by omega⟩ (fun c b hb => ⟨fun _ => ?_, fun q => absurd q (by omega)⟩) (fun c b s' w' hb el r' o' d' oo => ⟨fun q => absurd q (by omega), fun _ => ?_⟩)
      · refine kk d s (y.2.2 0) ?_ (Int.le_refl _) hr ho hd oD.same
        rw [eL, if_pos c, setW_same, if_pos (by omega)]
      · rw [eL, if_neg c, if_neg (by omega), el y rfl rfl] at kk
        rw [show 1 + slI (afJ (setW y 0 w') a) = acL x a from by unfold acL; rw [af_text (x := x) (z := setW y 0 w') hx a]] at kk
        refine da_sp (x := x) (u := u) (len := len) hN n (d + 1) (a + acL x a) M s' (setW y 0 w') (by omega) (by omega) (by omega) hp (fun q hq => ?_) hx ?_ r' o' d' (fun d2 s2 w2 e2 l2 r2 o2 d2' oo2 => kk d2 s2 w2 (by rw [e2, setW_setW]) (by omega) r2 o2 d2' (oo.trans oo2))
        · have := hv (q + 1) (by omega)
          rw [show d + ((q + 1 : Nat) : Int) = d + 1 + (q : Int) by omega] at this
          exact this
        · rw [oo.2.2 5 (by decide) (by decide), oo.2.2 6 (by decide) (by decide), oo.2.2 7 (by decide) (by decide), oo.2.2 8 (by decide) (by decide), oo.2.2 11 (by decide) (by decide)]
          exact ha
theorem dyL_end {len a d : Int} {y : LSt} (M : Nat) (h : len ≤ a) : dyL len (M + 1) a d y = (d, 0, y) := if_pos h
theorem dyL_go {len a d : Int} {y : LSt} (M : Nat) (h : ¬ len ≤ a) : dyL len (M + 1) a d y = if lActR y a < 0 then (d, 1, y) else if d = 0 then dyL len M (a + (1 + slI (afJ (lAct (lRem y) a) a))) (d + 1) (lAct (lRem y) a) else dyL len M (a + (1 + slI (afJ (lAct y a) a))) (d + 1) (lAct y a) := if_neg h
section SD
variable {x : LSt} {m : MS} {K : Int → PS → LSt → MS → Prop}
theorem st_day (h : lwR x m) (kk : ∀ q x' m', lwR x' m' → K q [pI q] x' m') : sX2_day x (fun v' x' => ∃ q, v' = [pI q] ∧ sX3_day m (fun w m' => K q w x' m')) := by
  have i4 := h.2.1.1
  have z := h.2.1.mok
  refine ⟨h.1, _, rfl, ⟨i4, z.1⟩, ?_⟩
  have hg := gRd_gd i4 z.1
  have f := raL_f 80 0 (gRd m) hg (by decide) (by show (0 : Int) ≤ 0; decide)
  have tE0 : tE (setS x 4 0) ((gRd m).2 2) (m.1 4) := ⟨i4.2, fun j j0 j1 => h.2.2.1.2 j j0 j1⟩
  have e := raL_dm (x := setS x 4 0) (len := m.1 4) 80 0 0 (gRd m) 80 (by decide) rfl rfl tE0 (by decide) (by decide) i4.1 (by omega)
  generalize raL 80 0 (gRd m) = p at f e ⊢
  obtain ⟨I, e4, e12⟩ := f.1.inv h.2.1
  have hu : lwR (setS x 4 0) p.2.2 := h.len ⟨Int.le_refl _, i4.1⟩ I e4 (f.1.1 8 (by decide)) (f.1.2 3 (by decide) (by decide) (by decide) (by decide) (by decide)) e12 (f.1.2 2 (by decide) (by decide) (by decide) (by decide) (by decide))
  have ex : fDay x = fDy1 (setS x 4 0) (m.1 4) := by unfold fDay; rw [h.2.2.1.1]
  rw [ex]
  generalize setS x 4 0 = y at e hu ⊢
  by_cases c : 0 ≤ lDm y (m.1 4)
  · obtain ⟨r1, r2⟩ := e.1 c
    have e1 : fDy1 y (m.1 4) = (-1 - lDm y (m.1 4), y) := if_pos c
    rw [e1]
    refine ⟨fun _ => ?_, fun q => absurd r1 q⟩
    rw [r2]
    exact kk _ _ _ hu
  · obtain ⟨r1, r2, r3, r4, -⟩ := e.2 (by unfold lDm at c; omega)
    refine ⟨fun q => absurd q (by rw [r1]; decide), fun _ => ?_⟩
    have e1 : fDy1 y (m.1 4) = fDy3 (dyL (m.1 4) 80 0 0 y) ((y.2.2 0).1 4) := if_neg c
    rw [e1]
    have hp := hu.pre
    have b80 : p.2.1 ≤ 80 := by have := f.2.2; omega
    -- nothing was done
    have none : ∀ fl, (fl = 0 ∨ fl = 1) → dyL (m.1 4) 80 0 0 y = (0, fl, y) → fl = (if 0 < p.2.1 then 1 else 0) → daE p.2.1 (fun w m' => K (fDy3 (dyL (m.1 4) 80 0 0 y) ((y.2.2 0).1 4)).1 w (fDy3 (dyL (m.1 4) 80 0 0 y) ((y.2.2 0).1 4)).2 m') 0 (mCopy p.2.2 0 3) := by
      intro fl _ ed efl
      have ef : ∃ a b, fDy3 (dyL (m.1 4) 80 0 0 y) ((y.2.2 0).1 4) = (0, lTell2 y a b) := ⟨_, _, by rw [ed]; rfl⟩
      obtain ⟨a, b, ef⟩ := ef
      rw [ef]
      exact ⟨fun q => absurd q (by decide), fun _ => kk _ _ _ (hp.ask (qx_2 hp.1) (Qn.self hp.2.1).e2)⟩
    by_cases cN : p.2.1 = 0
    · rw [cN, show (0 : Int).toNat = 0 from rfl]
      have a0 : (0 : Int) = m.1 4 := by
        rw [cN] at r3
        exact r3
      have := none 0 (Or.inl rfl) (dyL_end 79 (by omega)) (by rw [if_neg (by omega)])
      rw [cN] at this
      exact this
    · have n1 : p.2.1.toNat = (p.2.1.toNat - 1) + 1 := by omega
      have q0 := r4 0 (by omega)
      rw [show (0 : Int) + ((0 : Nat) : Int) = 0 by decide] at q0
      obtain ⟨v0, v1⟩ := q0
      have v0 : acV y p.2.2 0 0 := v0
      have v1 : 0 < m.1 4 := v1
      rw [n1]
      have eL : dyL (m.1 4) 80 0 0 y = if lActR y 0 < 0 then (0, 1, y) else dyL (m.1 4) 79 (0 + (1 + slI (afJ (lAct (lRem y) 0) 0))) (0 + 1) (lAct (lRem y) 0) := by
        have := dyL_go (y := y) (d := 0) 79 (show ¬ m.1 4 ≤ 0 by omega)
        rw [if_pos rfl] at this
        exact this
      obtain ⟨⟨-, -, rt⟩, -, -, -⟩ := rem_c hu.1.1
      refine act_ok (x := y) (u := p.2.2) (R := fun b s' => (b < 0 → _) ∧ (0 ≤ b → _)) v0 rfl ⟨rfl, rfl, rfl, rfl, rfl⟩ hp.wW (hu.1.2.2.2 0 (by decide)) hp.2.1.2.2.2.1 (by decide) (fun cc b hb => ⟨fun _ => none 1 (Or.inr rfl) (by rw [eL, if_pos cc]) (by rw [if_pos (by omega)]), fun q => absurd q (by omega)⟩) (fun cc b s' w' hb el r' o' d' oo => ⟨fun q => absurd q (by omega), fun _ => ?_⟩)
      have el2 : lAct (lRem y) 0 = setW (lRem y) 0 w' := el (lRem y) (rem_0 hu.1.1) rt
      rw [if_neg cc, el2, show 1 + slI (afJ (setW (lRem y) 0 w') 0) = acL y 0 from by unfold acL; rw [af_text (x := y) (z := setW (lRem y) 0 w') rt 0]] at eL
      refine da_sp (x := y) (u := p.2.2) (len := m.1 4) b80 (p.2.1.toNat - 1) (0 + 1) (0 + acL y 0) 79 s' (setW (lRem y) 0 w') (by omega) (by decide) (by omega) ?_ (fun q hq => ?_) rt ?_ r' o' d' (fun d2 s2 w2 e2 l2 r2 o2 d2' oo2 => ?_)
      · rw [show (p.2.1 - 0).toNat = (p.2.1.toNat - 1) + 1 by omega] at r3
        exact r3
      · have := r4 (q + 1) (by omega)
        rw [show (0 : Int) + ((q + 1 : Nat) : Int) = 0 + 1 + (q : Int) by omega] at this
        exact this
      · rw [oo.2.2 5 (by decide) (by decide), oo.2.2 6 (by decide) (by decide), oo.2.2 7 (by decide) (by decide), oo.2.2 8 (by decide) (by decide), oo.2.2 11 (by decide) (by decide)]
        exact ⟨rfl, rfl, rfl, rfl, rfl⟩
      · rw [setW_setW] at e2
        have ef : ∃ a b, fDy3 (dyL (m.1 4) 80 0 0 y) ((y.2.2 0).1 4) = (d2, lTell2 (setW (lRem y) 0 w2) a b) := ⟨_, _, by rw [eL, e2]; rfl⟩
        obtain ⟨a, b, ef⟩ := ef
        rw [ef]
        have af := (Aft.of I d2' (oo.trans oo2)).e2 (p := if d2 < p.2.1 then 1 else 0) (q := wI (mg s2 (0 * 2804 + 7) - mg s2 (3 * 2804 + 7)))
        have d := hu.done (w' := w2) af (rW.cong r2 (fun c _ _ => rfl)) o2
        exact ⟨fun _ => ⟨af.uok, kk _ _ _ (d.ask (qx_2 d.1) (Qn.self d.2.1))⟩, fun q => absurd q (by omega)⟩
end SD
