/-! ===== texts read by both: signs, numbers, events ===== -/
theorem mS_self (s : MS) (k : Nat) {v : Int} (h : s.1 k = v) : mS s k v = s := by
  subst h
  have : (fun j => bif Nat.beq j k then s.1 k else s.1 j) = s.1 := by
    funext j
    by_cases e : j = k
    · subst e; rw [Nat.beq_refl]; rfl
    · rw [bqF e]; rfl
  unfold mS
  rw [this]
theorem mS_mS (s : MS) (k : Nat) (v w : Int) : mS (mS s k v) k w = mS s k w := by
  have : (fun j => bif Nat.beq j k then w else (mS s k v).1 j) = (fun j => bif Nat.beq j k then w else s.1 j) := by
    funext j
    by_cases e : j = k
    · subst e; rw [Nat.beq_refl]; rfl
    · rw [bqF e]
      exact mS_ne e
  unfold mS
  unfold mS at this
  rw [this]
theorem tkL_run (s : MS) (j : Nat) (c0 n : Int) (hs : ∀ k, 0 ≤ k → k < n → sbI j k = c0 + k) : ∀ (m : Nat) (k : Int), 0 ≤ k → k + m = n → tkL s j m k = if s.1 5 < s.1 6 ∧ c0 + k ≤ s.2 2 (s.1 5).toNat ∧ s.2 2 (s.1 5).toNat < c0 + n then (s.2 2 (s.1 5).toNat - c0, mS s 5 (s.1 5 + 1)) else (-1, s)
  | 0, k, h0, h1 => by
    rw [tkL, if_neg (by omega)]
  | m + 1, k, h0, h1 => by
    rw [tkL, tkL_run s j c0 n hs m (k + 1) (by omega) (by omega), hs k h0 (by omega)]
    by_cases c : s.1 6 ≤ s.1 5
    · rw [if_pos c, if_neg (by omega)]
    · rw [if_neg c]
      by_cases c2 : c0 + k = s.2 2 (s.1 5).toNat
      · rw [if_pos c2, if_pos (by omega), show s.2 2 (s.1 5).toNat - c0 = k by omega]
      · rw [if_neg c2]
        by_cases c3 : s.1 5 < s.1 6 ∧ c0 + (k + 1) ≤ s.2 2 (s.1 5).toNat ∧ s.2 2 (s.1 5).toNat < c0 + n
        · rw [if_pos c3, if_pos (by omega)]
        · rw [if_neg c3, if_neg (by omega)]
theorem sb6 : ∀ k, 0 ≤ k → k < 10 → sbI 6 k = 48 + k := by
  have key : ∀ k : Nat, k < 10 → sbI 6 (k : Int) = 48 + (k : Int) := by decide +kernel
  intro k h0 h1
  have := key k.toNat (by omega)
  rw [show ((k.toNat : Nat) : Int) = k by omega] at this
  exact this
theorem sb5 : ∀ k, 0 ≤ k → k < 6 → sbI 5 k = 97 + k := by
  have key : ∀ k : Nat, k < 6 → sbI 5 (k : Int) = 97 + (k : Int) := by decide +kernel
  intro k h0 h1
  have := key k.toNat (by omega)
  rw [show ((k.toNat : Nat) : Int) = k by omega] at this
  exact this
theorem gTk6 (s : MS) : gTk s 6 = if s.1 5 < s.1 6 ∧ 48 ≤ s.2 2 (s.1 5).toNat ∧ s.2 2 (s.1 5).toNat < 58 then (s.2 2 (s.1 5).toNat - 48, mS s 5 (s.1 5 + 1)) else (-1, s) := by
  have e : (slI 6).toNat = 10 := by decide +kernel
  unfold gTk
  rw [e, tkL_run s 6 48 10 sb6 10 0 (by decide) (by decide)]
  rfl
theorem gTk5 (s : MS) : gTk s 5 = if s.1 5 < s.1 6 ∧ 97 ≤ s.2 2 (s.1 5).toNat ∧ s.2 2 (s.1 5).toNat < 103 then (s.2 2 (s.1 5).toNat - 97, mS s 5 (s.1 5 + 1)) else (-1, s) := by
  have e : (slI 5).toNat = 6 := by decide +kernel
  unfold gTk
  rw [e, tkL_run s 5 97 6 sb5 6 0 (by decide) (by decide)]
  rfl
theorem gTk7 (s : MS) : gTk s 7 = if s.1 6 ≤ s.1 5 then (-1, s) else if 43 = s.2 2 (s.1 5).toNat then (0, mS s 5 (s.1 5 + 1)) else if 45 = s.2 2 (s.1 5).toNat then (1, mS s 5 (s.1 5 + 1)) else (-1, s) := by
  have e : (slI 7).toNat = 2 := by decide +kernel
  have e0 : sbI 7 0 = 43 := by decide +kernel
  have e1 : sbI 7 (0 + 1) = 45 := by decide +kernel
  unfold gTk
  rw [e, tkL, tkL, tkL, e0, e1]
  by_cases c : s.1 6 ≤ s.1 5
  · rw [if_pos c, if_pos c]
  · rw [if_neg c, if_neg c, if_neg c]
    rfl
theorem gTk8 (s : MS) : gTk s 8 = if s.1 6 ≤ s.1 5 then (-1, s) else if 101 = s.2 2 (s.1 5).toNat then (0, mS s 5 (s.1 5 + 1)) else if 109 = s.2 2 (s.1 5).toNat then (1, mS s 5 (s.1 5 + 1)) else if 105 = s.2 2 (s.1 5).toNat then (2, mS s 5 (s.1 5 + 1)) else (-1, s) := by
  have e : (slI 8).toNat = 3 := by decide +kernel
  have e0 : sbI 8 0 = 101 := by decide +kernel
  have e1 : sbI 8 (0 + 1) = 109 := by decide +kernel
  have e2 : sbI 8 (0 + 1 + 1) = 105 := by decide +kernel
  unfold gTk
  rw [e, tkL, tkL, tkL, tkL, e0, e1, e2]
  by_cases c : s.1 6 ≤ s.1 5
  · rw [if_pos c, if_pos c]
  · rw [if_neg c, if_neg c, if_neg c, if_neg c]
    rfl
/-- a number by its digits -/
def nv (T : Int → Int) : Nat → Int → Int → Int
  | 0, _, v => v
  | n + 1, a, v => nv T n (a + 1) (10 * v + (T a - 48))
theorem nv_nn (T : Int → Int) : ∀ (n : Nat) (a v : Int), 0 ≤ v → (∀ j, a ≤ j → j < a + n → 48 ≤ T j) → 0 ≤ nv T n a v
  | 0, _, _, h, _ => h
  | n + 1, a, v, h, hd => by
    rw [nv]
    have := hd a (Int.le_refl _) (by omega)
    exact nv_nn T n (a + 1) _ (by omega) (fun j j0 j1 => hd j (by omega) (by omega))
/-- the first that is not so -/
def fa (G : Int → Prop) (p i : Int) : Prop := 0 ≤ i ∧ i < p ∧ (∀ j, 0 ≤ j → j < i → G j) ∧ ¬ G i
theorem fa.one {G G' : Int → Prop} {p i i' : Int} (e : ∀ j, 0 ≤ j → j < p → (G j ↔ G' j)) (h : fa G p i) (h' : fa G' p i') : i = i' := by
  obtain ⟨a, b, c, d⟩ := h
  obtain ⟨a', b', c', d'⟩ := h'
  rcases Int.lt_trichotomy i i' with q | q | q
  · exact absurd ((e i a b).mpr (c' i a q)) d
  · exact q
  · exact absurd ((e i' a' b').mp (c i' a' q)) d'
theorem fa.no {G G' : Int → Prop} {p i : Int} (e : ∀ j, 0 ≤ j → j < p → (G j ↔ G' j)) (h : fa G p i) (all : ∀ j, 0 ≤ j → j < p → G' j) : False := h.2.2.2 ((e i h.1 h.2.1).mpr (all i h.1 h.2.1))
theorem dgL_neg : ∀ (n : Nat) (s : MS), dgL n (-1) s = (-1, s)
  | 0, _ => rfl
  | _ + 1, _ => if_pos (by decide)
theorem dg_sp (tt : Nat → Int) (to a : Int) (G : Int → Prop) : ∀ (n : Nat) (o v : Int) (s : MS), s.2 2 = tt → s.1 6 = to → s.1 5 = a + o → 0 ≤ v → 0 ≤ o → (∀ j, o ≤ j → j < o + n → (G j ↔ (a + j < to ∧ 48 ≤ tt (a + j).toNat ∧ tt (a + j).toNat < 58))) → (∀ j, 0 ≤ j → j < o → G j) → (∃ i, fa G (o + n) i ∧ dgL n v s = (-1, mS s 5 (a + i))) ∨ ((∀ j, 0 ≤ j → j < o + n → G j) ∧ dgL n v s = (nv (fun j => tt j.toNat) n (a + o) v, mS s 5 (a + o + n)))
  | 0, o, v, s, h2, h6, h5, hv, ho, hG, hb => by
    refine Or.inr ⟨fun j j0 j1 => hb j j0 (by omega), ?_⟩
    rw [mS_self s 5 (by rw [h5]; omega)]
    rfl
  | n + 1, o, v, s, h2, h6, h5, hv, ho, hG, hb => by
    rw [dgL, if_neg (by omega), gTk6, h2, h6, h5]
    have g := hG o (Int.le_refl _) (by omega)
    by_cases c : a + o < to ∧ 48 ≤ tt (a + o).toNat ∧ tt (a + o).toNat < 58
    · rw [if_pos c]
      have e : dgV v (tt (a + o).toNat - 48) = 10 * v + (tt (a + o).toNat - 48) := if_neg (by omega)
      rw [e]
      have ih := dg_sp tt to a G n (o + 1) (10 * v + (tt (a + o).toNat - 48)) (mS s 5 (a + o + 1)) h2 h6 (by show a + o + 1 = _; omega) (by omega) (by omega) (fun j j0 j1 => hG j (by omega) (by omega)) (fun j j0 j1 => by
        by_cases q : j = o
        · subst q; exact g.mpr c
        · exact hb j j0 (by omega))
      rw [show o + ((n + 1 : Nat) : Int) = o + 1 + (n : Int) by omega, show a + o + ((n + 1 : Nat) : Int) = a + (o + 1) + (n : Int) by omega, nv, show a + o + 1 = a + (o + 1) by omega] at *
      rw [mS_mS] at ih
      rcases ih with ⟨i, hi, e2⟩ | ⟨hi, e2⟩
      · rw [mS_mS] at e2
        exact Or.inl ⟨i, hi, e2⟩
      · exact Or.inr ⟨hi, e2⟩
    · rw [if_neg c]
      have e : dgV v (-1) = -1 := if_pos (by decide)
      rw [e, dgL_neg]
      refine Or.inl ⟨o, ⟨ho, by omega, hb, fun q => c (g.mp q)⟩, ?_⟩
      rw [mS_self s 5 h5]
/-! what reading an event gives -/
theorem reE5_neg (s : MS) (k any : Int) : (reE5 (-1, s) k any).1 = 0 ∧ (reE5 (-1, s) k any).2.1 5 = s.1 5 := ⟨rfl, rfl⟩
theorem reE4_neg (s : MS) (k any : Int) : (reE4 s k (-1) any).1 = 0 ∧ (reE4 s k (-1) any).2.1 5 = s.1 5 := ⟨rfl, rfl⟩
theorem reE3_neg (s : MS) (side k any : Int) : (reE3 side (-1, s) k any).1 = 0 ∧ (reE3 side (-1, s) k any).2.1 5 = s.1 5 := ⟨rfl, rfl⟩
theorem reE2_neg (s : MS) (k any : Int) : (reE2 (-1, s) k any).1 = 0 ∧ (reE2 (-1, s) k any).2.1 5 = s.1 5 := ⟨rfl, rfl⟩
theorem reE1_neg (s : MS) (k any : Int) : (reE1 (-1, s) k any).1 = 0 ∧ (reE1 (-1, s) k any).2.1 5 = s.1 5 := ⟨rfl, rfl⟩
theorem reE0_neg (s : MS) (k any : Int) : (reE0 (-1, s) k any).1 = 0 ∧ (reE0 (-1, s) k any).2.1 5 = s.1 5 := ⟨rfl, rfl⟩
/-- an event's sign number j, from a on -/
def evG (tt : Nat → Int) (to a n0 any : Int) (j : Int) : Prop := a + j < to ∧ ((j = 0 ∧ 97 ≤ tt (a + j).toNat ∧ tt (a + j).toNat < 103) ∨ (j ≠ 0 ∧ j ≠ 5 ∧ 48 ≤ tt (a + j).toNat ∧ tt (a + j).toNat < 58 ∧ (j = 8 → any = 0 → tt (a + j).toNat < 48 + n0)) ∨ (j = 5 ∧ (tt (a + j).toNat = 43 ∨ tt (a + j).toNat = 45)))
theorem evG_d {tt : Nat → Int} {to a n0 any j : Int} (h0 : j ≠ 0) (h5 : j ≠ 5) (h8 : j ≠ 8) : evG tt to a n0 any j ↔ (a + j < to ∧ 48 ≤ tt (a + j).toNat ∧ tt (a + j).toNat < 58) := by
  unfold evG
  constructor
  · intro q
    omega
  · intro q
    exact ⟨q.1, Or.inr (Or.inl ⟨h0, h5, q.2.1, q.2.2, fun e => absurd e h8⟩)⟩
theorem re_sp {s : MS} {k any a to : Int} {tt : Nat → Int} (h2 : s.2 2 = tt) (h6 : s.1 6 = to) (h5 : s.1 5 = a) : (∃ i, fa (evG tt to a (mg s 0) any) 9 i ∧ (gRe s k any).1 = 0 ∧ (gRe s k any).2.1 5 = a + i) ∨ ((∀ j, 0 ≤ j → j < 9 → evG tt to a (mg s 0) any j) ∧ (gRe s k any).1 = 1 ∧ (gRe s k any).2.1 5 = a + 9 ∧ (gRe s k any).2.2 5 = xup (s.2 5) k.toNat (tt a.toNat - 97) ∧ (gRe s k any).2.2 6 = xup (s.2 6) k.toNat (nv (fun j => tt j.toNat) 4 (a + 1) 0) ∧ (gRe s k any).2.2 7 = xup (s.2 7) k.toNat (if tt (a + 5).toNat = 45 then -(nv (fun j => tt j.toNat) 2 (a + 6) 0) else nv (fun j => tt j.toNat) 2 (a + 6) 0) ∧ (gRe s k any).2.2 8 = xup (s.2 8) k.toNat (tt (a + 8).toNat - 48) ∧ (gRe s k any).2.2 11 = s.2 11) := by
  unfold gRe
  rw [gTk5, h2, h6, h5]
  by_cases c0 : a < to ∧ 97 ≤ tt a.toNat ∧ tt a.toNat < 103
  · rw [if_pos c0]
    have G0 : evG tt to a (mg s 0) any 0 := by
      unfold evG
      rw [show a + 0 = a by omega]
      exact ⟨c0.1, Or.inl ⟨rfl, c0.2⟩⟩
    have e0 : reE0 (tt a.toNat - 97, mS s 5 (a + 1)) k any = reE1 (gDg (st5 (tt a.toNat - 97, mS s 5 (a + 1)) k) 4) k any := if_neg (by show ¬ tt a.toNat - 97 < 0; omega)
    rw [e0]
    have d4 := dg_sp tt to a (evG tt to a (mg s 0) any) 4 1 0 (st5 (tt a.toNat - 97, mS s 5 (a + 1)) k) h2 h6 rfl (by decide) (by decide) (fun j j0 j1 => evG_d (by omega) (by omega) (by omega)) (fun j j0 j1 => by rw [show j = 0 by omega]; exact G0)
    have eg : gDg (st5 (tt a.toNat - 97, mS s 5 (a + 1)) k) 4 = dgL 4 0 (st5 (tt a.toNat - 97, mS s 5 (a + 1)) k) := rfl
    rw [eg]
    rcases d4 with ⟨i, hi, e⟩ | ⟨hG, e⟩
    · rw [e]
      obtain ⟨x1, x2⟩ := reE1_neg (mS (st5 (tt a.toNat - 97, mS s 5 (a + 1)) k) 5 (a + i)) k any
      exact Or.inl ⟨i, ⟨hi.1, by have := hi.2.1; omega, hi.2.2⟩, x1, x2⟩
    · rw [e]
      have nn := nv_nn (fun j => tt j.toNat) 4 (a + 1) 0 (by decide) (fun j j0 j1 => by
        have := (evG_d (by omega) (by omega) (by omega)).mp (hG (j - a) (by omega) (by omega))
        rw [show a + (j - a) = j by omega] at this
        exact this.2.1)
      generalize hV4 : nv (fun j => tt j.toNat) 4 (a + 1) 0 = v4 at nn ⊢
      generalize hs3 : mS (st5 (tt a.toNat - 97, mS s 5 (a + 1)) k) 5 (a + 1 + ((4 : Nat) : Int)) = s3
      have z2 : s3.2 2 = tt := by rw [← hs3]; exact h2
      have z6 : s3.1 6 = to := by rw [← hs3]; exact h6
      have z5 : s3.1 5 = a + 5 := by rw [← hs3]; show a + 1 + ((4 : Nat) : Int) = _; omega
      have y5 : s3.2 5 = xup (s.2 5) k.toNat (tt a.toNat - 97) := by rw [← hs3]; rfl
      have y6 : s3.2 6 = s.2 6 := by rw [← hs3]; rfl
      have y7 : s3.2 7 = s.2 7 := by rw [← hs3]; rfl
      have y8 : s3.2 8 = s.2 8 := by rw [← hs3]; rfl
      have ym : mg s3 0 = mg s 0 := by rw [← hs3]; rfl
      have y11 : s3.2 11 = s.2 11 := by rw [← hs3]; rfl
      have e1 : reE1 (v4, s3) k any = reE2 (gTk (st6 (v4, s3) k) 7) k any := if_neg (by show ¬ v4 < 0; omega)
      rw [e1, gTk7]
      have w2 : (st6 (v4, s3) k).2 2 = tt := z2
      have w6 : (st6 (v4, s3) k).1 6 = to := z6
      have w5 : (st6 (v4, s3) k).1 5 = a + 5 := z5
      rw [w2, w6, w5]
      have fail5 : ¬ evG tt to a (mg s 0) any 5 → fa (evG tt to a (mg s 0) any) 9 5 := fun q => ⟨by decide, by decide, fun j j0 j1 => hG j j0 (by omega), q⟩
      by_cases c5 : to ≤ a + 5
      · rw [if_pos c5]
        obtain ⟨x1, x2⟩ := reE2_neg (st6 (v4, s3) k) k any
        exact Or.inl ⟨5, fail5 (fun q => by unfold evG at q; omega), x1, x2.trans w5⟩
      · rw [if_neg c5]
        -- behind the sign
        have behind : ∀ side : Int, (side = 0 ∧ tt (a + 5).toNat = 43) ∨ (side = 1 ∧ tt (a + 5).toNat = 45) → (∃ i, fa (evG tt to a (mg s 0) any) 9 i ∧ (reE2 (side, mS (st6 (v4, s3) k) 5 (a + 5 + 1)) k any).1 = 0 ∧ (reE2 (side, mS (st6 (v4, s3) k) 5 (a + 5 + 1)) k any).2.1 5 = a + i) ∨ ((∀ j, 0 ≤ j → j < 9 → evG tt to a (mg s 0) any j) ∧ (reE2 (side, mS (st6 (v4, s3) k) 5 (a + 5 + 1)) k any).1 = 1 ∧ (reE2 (side, mS (st6 (v4, s3) k) 5 (a + 5 + 1)) k any).2.1 5 = a + 9 ∧ (reE2 (side, mS (st6 (v4, s3) k) 5 (a + 5 + 1)) k any).2.2 5 = xup (s.2 5) k.toNat (tt a.toNat - 97) ∧ (reE2 (side, mS (st6 (v4, s3) k) 5 (a + 5 + 1)) k any).2.2 6 = xup (s.2 6) k.toNat v4 ∧ (reE2 (side, mS (st6 (v4, s3) k) 5 (a + 5 + 1)) k any).2.2 7 = xup (s.2 7) k.toNat (if tt (a + 5).toNat = 45 then -(nv (fun j => tt j.toNat) 2 (a + 6) 0) else nv (fun j => tt j.toNat) 2 (a + 6) 0) ∧ (reE2 (side, mS (st6 (v4, s3) k) 5 (a + 5 + 1)) k any).2.2 8 = xup (s.2 8) k.toNat (tt (a + 8).toNat - 48) ∧ (reE2 (side, mS (st6 (v4, s3) k) 5 (a + 5 + 1)) k any).2.2 11 = s.2 11) := by
          intro side hside
          have G5 : evG tt to a (mg s 0) any 5 := ⟨by omega, Or.inr (Or.inr ⟨rfl, by omega⟩)⟩
          have hG6 : ∀ j, 0 ≤ j → j < 6 → evG tt to a (mg s 0) any j := fun j j0 j1 => by
            by_cases q : j = 5
            · subst q; exact G5
            · exact hG j j0 (by omega)
          have e2 : reE2 (side, mS (st6 (v4, s3) k) 5 (a + 5 + 1)) k any = reE3 side (gDg (mS (st6 (v4, s3) k) 5 (a + 5 + 1)) 2) k any := if_neg (by show ¬ side < 0; omega)
          rw [e2]
          have d2 := dg_sp tt to a (evG tt to a (mg s 0) any) 2 6 0 (mS (st6 (v4, s3) k) 5 (a + 5 + 1)) w2 w6 (by show a + 5 + 1 = a + 6; omega) (by decide) (by decide) (fun j j0 j1 => evG_d (by omega) (by omega) (by omega)) hG6
          have eg2 : gDg (mS (st6 (v4, s3) k) 5 (a + 5 + 1)) 2 = dgL 2 0 (mS (st6 (v4, s3) k) 5 (a + 5 + 1)) := rfl
          rw [eg2]
          rcases d2 with ⟨i, hi, e⟩ | ⟨hG8, e⟩
          · rw [e]
            obtain ⟨x1, x2⟩ := reE3_neg (mS (mS (st6 (v4, s3) k) 5 (a + 5 + 1)) 5 (a + i)) side k any
            exact Or.inl ⟨i, ⟨hi.1, by have := hi.2.1; omega, hi.2.2⟩, x1, x2⟩
          · rw [e]
            have nn2 := nv_nn (fun j => tt j.toNat) 2 (a + 6) 0 (by decide) (fun j j0 j1 => by
              have := (evG_d (by omega) (by omega) (by omega)).mp (hG8 (j - a) (by omega) (by omega))
              rw [show a + (j - a) = j by omega] at this
              exact this.2.1)
            generalize nv (fun j => tt j.toNat) 2 (a + 6) 0 = v2 at nn2 ⊢
            have e3 : reE3 side (v2, mS (mS (st6 (v4, s3) k) 5 (a + 5 + 1)) 5 (a + 6 + ((2 : Nat) : Int))) k any = reE5 (gDg (st7 (mS (mS (st6 (v4, s3) k) 5 (a + 5 + 1)) 5 (a + 6 + ((2 : Nat) : Int))) k (if side = 1 then -v2 else v2)) 1) k any := if_neg (by show ¬ v2 < 0; omega)
            rw [e3]
            generalize hs7 : st7 (mS (mS (st6 (v4, s3) k) 5 (a + 5 + 1)) 5 (a + 6 + ((2 : Nat) : Int))) k (if side = 1 then -v2 else v2) = s7
            have q2 : s7.2 2 = tt := by rw [← hs7]; exact z2
            have q6 : s7.1 6 = to := by rw [← hs7]; exact z6
            have q5 : s7.1 5 = a + 8 := by rw [← hs7]; show a + 6 + ((2 : Nat) : Int) = _; omega
            have p5 : s7.2 5 = xup (s.2 5) k.toNat (tt a.toNat - 97) := by rw [← hs7]; exact y5
            have p6 : s7.2 6 = xup (s.2 6) k.toNat v4 := by rw [← hs7, ← y6]; rfl
            have p7 : s7.2 7 = xup (s.2 7) k.toNat (if side = 1 then -v2 else v2) := by rw [← hs7, ← y7]; rfl
            have p8 : s7.2 8 = s.2 8 := by rw [← hs7]; exact y8
            have pm : mg s7 0 = mg s 0 := by rw [← hs7]; exact ym
            have p11 : s7.2 11 = s.2 11 := by rw [← hs7]; exact y11
            have pv : (if side = 1 then -v2 else v2) = (if tt (a + 5).toNat = 45 then -v2 else v2) := by
              rcases hside with ⟨u, w⟩ | ⟨u, w⟩
              · rw [if_neg (by omega), if_neg (by omega)]
              · rw [if_pos u, if_pos w]
            rw [pv] at p7
            have eg1 : gDg s7 1 = dgL 0 (dgV 0 (gTk s7 6).1) (gTk s7 6).2 := by
              show dgL 1 0 s7 = _
              rfl
            rw [eg1, gTk6, q2, q6, q5]
            by_cases c8 : a + 8 < to ∧ 48 ≤ tt (a + 8).toNat ∧ tt (a + 8).toNat < 58
            · rw [if_pos c8]
              have ed : dgL 0 (dgV 0 (tt (a + 8).toNat - 48, mS s7 5 (a + 8 + 1)).1) (tt (a + 8).toNat - 48, mS s7 5 (a + 8 + 1)).2 = (tt (a + 8).toNat - 48, mS s7 5 (a + 8 + 1)) := by
                have : dgV 0 (tt (a + 8).toNat - 48) = tt (a + 8).toNat - 48 := by
                  unfold dgV
                  rw [if_neg (by omega)]
                  omega
                show (dgV 0 (tt (a + 8).toNat - 48), mS s7 5 (a + 8 + 1)) = _
                rw [this]
              rw [ed]
              by_cases cs : any = 0 ∧ ¬ mSrc (st8 (tt (a + 8).toNat - 48, mS s7 5 (a + 8 + 1)) k) (tt (a + 8).toNat - 48)
              · have e5 : reE5 (tt (a + 8).toNat - 48, mS s7 5 (a + 8 + 1)) k any = (0, mS (st8 (tt (a + 8).toNat - 48, mS s7 5 (a + 8 + 1)) k) 5 ((st8 (tt (a + 8).toNat - 48, mS s7 5 (a + 8 + 1)) k).1 5 - 1)) := (if_neg (by show ¬ tt (a + 8).toNat - 48 < 0; omega)).trans (if_pos cs)
                rw [e5]
                refine Or.inl ⟨8, ⟨by decide, by decide, fun j j0 j1 => hG8 j j0 (by omega), fun q => ?_⟩, rfl, ?_⟩
                · refine cs.2 ⟨by omega, ?_⟩
                  show tt (a + 8).toNat - 48 < mg s7 0
                  rw [pm]
                  unfold evG at q
                  have ca := cs.1
                  omega
                · show a + 8 + 1 - 1 = a + 8
                  omega
              · have e5 : reE5 (tt (a + 8).toNat - 48, mS s7 5 (a + 8 + 1)) k any = (1, st8 (tt (a + 8).toNat - 48, mS s7 5 (a + 8 + 1)) k) := (if_neg (by show ¬ tt (a + 8).toNat - 48 < 0; omega)).trans (if_neg cs)
                rw [e5]
                refine Or.inr ⟨fun j j0 j1 => ?_, rfl, by show a + 8 + 1 = a + 9; omega, p5, p6, p7, ?_, p11⟩
                · by_cases q : j = 8
                  · subst q
                    refine ⟨c8.1, Or.inr (Or.inl ⟨by decide, by decide, c8.2.1, c8.2.2, fun _ ha => ?_⟩)⟩
                    have hm : mSrc (st8 (tt (a + 8).toNat - 48, mS s7 5 (a + 8 + 1)) k) (tt (a + 8).toNat - 48) := Classical.byContradiction (fun z => cs ⟨ha, z⟩)
                    have := hm.2
                    have this : tt (a + 8).toNat - 48 < mg s7 0 := this
                    rw [pm] at this
                    omega
                  · exact hG8 j j0 (by omega)
                · rw [← p8]; rfl
            · rw [if_neg c8]
              have ed : dgL 0 (dgV 0 ((-1 : Int), s7).1) ((-1 : Int), s7).2 = (-1, s7) := rfl
              rw [ed]
              obtain ⟨x1, x2⟩ := reE5_neg s7 k any
              exact Or.inl ⟨8, ⟨by decide, by decide, fun j j0 j1 => hG8 j j0 (by omega), fun q => c8 (by unfold evG at q; omega)⟩, x1, x2.trans q5⟩
        by_cases ca : 43 = tt (a + 5).toNat
        · rw [if_pos ca]
          exact behind 0 (Or.inl ⟨rfl, ca.symm⟩)
        · rw [if_neg ca]
          by_cases cb : 45 = tt (a + 5).toNat
          · rw [if_pos cb]
            exact behind 1 (Or.inr ⟨rfl, cb.symm⟩)
          · rw [if_neg cb]
            obtain ⟨x1, x2⟩ := reE2_neg (st6 (v4, s3) k) k any
            exact Or.inl ⟨5, fail5 (fun q => by unfold evG at q; omega), x1, x2.trans w5⟩
  · rw [if_neg c0]
    obtain ⟨x1, x2⟩ := reE0_neg s k any
    refine Or.inl ⟨0, ⟨by decide, by decide, fun j j0 j1 => absurd j1 (by omega), fun q => c0 ?_⟩, x1, by rw [x2, h5]; omega⟩
    unfold evG at q
    rw [show a + 0 = a by omega] at q
    omega
