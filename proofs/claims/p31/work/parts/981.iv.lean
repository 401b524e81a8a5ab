/-! ===== a desk of the model: what holds while inputs come ===== -/
theorem wI_id {z : Int} (h : xB z) : wI z = z := by
  show (iI z).toInt = z
  exact iI_toInt h
theorem bqF {a b : Nat} (h : a ≠ b) : Nat.beq a b = false := by
  cases e : Nat.beq a b with
  | false => rfl
  | true => exact absurd (Nat.eq_of_beq_eq_true e) h
theorem mS_ne {s : MS} {k j : Nat} {v : Int} (h : j ≠ k) : (mS s k v).1 j = s.1 j := by
  show (bif Nat.beq j k then v else s.1 j) = _
  rw [bqF h]; rfl
theorem mA_ne {s : MS} {k j : Nat} {g : Nat → Int} (h : j ≠ k) : (mA s k g).2 j = s.2 j := by
  show (bif Nat.beq j k then g else s.2 j) = _
  rw [bqF h]; rfl
/-- cells of the desks alone -/
def cF (s s' : MS) : Prop := s'.1 = s.1 ∧ ∀ a, a ≠ 3 → s'.2 a = s.2 a
theorem cF.same {s : MS} : cF s s := ⟨rfl, fun _ _ => rfl⟩
theorem cF.trans {s t u : MS} (h : cF s t) (g : cF t u) : cF s u := ⟨g.1.trans h.1, fun a ha => (g.2 a ha).trans (h.2 a ha)⟩
theorem cF_A {s : MS} {g : Nat → Int} : cF s (mA s 3 g) := ⟨rfl, fun _ h => mA_ne h⟩
theorem cF_P {s : MS} {x v : Int} : cF s (mP s x v) := cF_A
theorem cF_I {s : MS} {x v : Int} : cF s (mInc s x v) := cF_A
/-- what a desk's work leaves alone besides the cells -/
def sF (s s' : MS) : Prop := (∀ k, k ≠ 10 → k ≠ 11 → k ≠ 12 → s'.1 k = s.1 k) ∧ ∀ a, a ≠ 3 → a ≠ 4 → s'.2 a = s.2 a
theorem sF.same {s : MS} : sF s s := ⟨fun _ _ _ _ => rfl, fun _ _ _ => rfl⟩
theorem sF.trans {s t u : MS} (h : sF s t) (g : sF t u) : sF s u := ⟨fun k a b c => (g.1 k a b c).trans (h.1 k a b c), fun a p q => (g.2 a p q).trans (h.2 a p q)⟩
theorem cF.s {s s' : MS} (h : cF s s') : sF s s' := ⟨fun k _ _ _ => by rw [h.1], fun a p _ => h.2 a p⟩
theorem sF_S {s : MS} {k : Nat} {v : Int} (h : k = 10 ∨ k = 11 ∨ k = 12) : sF s (mS s k v) := ⟨fun j a b c => mS_ne (by omega), fun _ _ _ => rfl⟩
theorem sF_F {s : MS} {k : Nat} {v : Int} : sF s (mF s k v) := ⟨fun _ _ _ _ => rfl, fun _ _ h => mA_ne h⟩
/-- the cells of a desk that sending leaves alone -/
def kC (c : Int) : Prop := c < 7 ∨ (8 ≤ c ∧ c < 32) ∨ (36 ≤ c ∧ c < 60) ∨ (84 ≤ c ∧ c < 364) ∨ 1844 ≤ c ∨ ∃ j q : Int, 0 ≤ j ∧ j < 160 ∧ 0 ≤ q ∧ q ≤ 5 ∧ c = 364 + 7 * j + q
def okC (d : Int) (s : MS) : Prop := 0 ≤ mg s (d * 2804 + 1484) ∧ mg s (d * 2804 + 1484) ≤ 5
def dF (d : Int) (s s' : MS) : Prop := (∀ c, 0 ≤ d * 2804 + c → kC c → mg s' (d * 2804 + c) = mg s (d * 2804 + c)) ∧ (okC d s → okC d s') ∧ sF s s' ∧ s'.2 4 = s.2 4 ∧ mg s (d * 2804 + 7) ≤ mg s' (d * 2804 + 7)
theorem dF.same {d : Int} {s : MS} : dF d s s := ⟨fun _ _ _ => rfl, fun h => h, sF.same, rfl, Int.le_refl _⟩
theorem dF.trans {d : Int} {s t u : MS} (h : dF d s t) (g : dF d t u) : dF d s u := ⟨fun c h0 hc => (g.1 c h0 hc).trans (h.1 c h0 hc), fun q => g.2.1 (h.2.1 q), h.2.2.1.trans g.2.2.1, g.2.2.2.1.trans h.2.2.2.1, Int.le_trans h.2.2.2.2 g.2.2.2.2⟩
theorem dF.S {d : Int} {s s' : MS} {k : Nat} {v : Int} (h : dF d s s') (hk : k = 10 ∨ k = 11 ∨ k = 12) : dF d s (mS s' k v) := ⟨h.1, h.2.1, h.2.2.1.trans (sF_S hk), h.2.2.2⟩
theorem sdL_fr (k d i : Int) (hk : 0 ≤ k) : ∀ (m : Nat) (w : Int) (s : MS) (x : Int), 0 ≤ w → 0 ≤ x → (x < k + 1 + w ∨ k + 1 + w + m ≤ x) → mg (sdL k d i m w s) x = mg s x
  | 0, _, _, _, _, _, _ => rfl
  | m + 1, w, s, x, hw, hx, h => by
    rw [sdL, sdL_fr k d i hk m (w + 1) _ x (by omega) hx (by omega), mg_ne (by omega) hx (by omega)]
theorem sdL_1 (k d i : Int) : ∀ (m : Nat) (w : Int) (s : MS), cF s (sdL k d i m w s)
  | 0, _, _ => cF.same
  | m + 1, w, s => by
    rw [sdL]
    exact cF_P.trans (sdL_1 k d i m (w + 1) _)
theorem tmod60 {a : Int} (h : 0 ≤ a) : 0 ≤ Int.tmod a 60 ∧ Int.tmod a 60 < 60 := ⟨Int.tmod_nonneg _ h, Int.tmod_lt_of_pos a (by decide)⟩
theorem tmod40 {a : Int} (h : 0 ≤ a) : 0 ≤ Int.tmod a 40 ∧ Int.tmod a 40 < 40 := ⟨Int.tmod_nonneg _ h, Int.tmod_lt_of_pos a (by decide)⟩
theorem mInc_ne {s : MS} {a v x : Int} (ha : 0 ≤ a) (hx : 0 ≤ x) (h : a ≠ x) : mg (mInc s a v) x = mg s x := mg_ne ha hx h
theorem mInc_eq {s : MS} {a v : Int} : mg (mInc s a v) a = wI (mg s a + v) := mg_eq
/-- a message sent: the row it tells, all but its count and the place of its kind -/
theorem send4_fr {s : MS} {d kd i x : Int} (hd : dOk d) (hm : 0 ≤ mg s (d * 2804 + 7)) (hk : 0 ≤ kd ∧ kd ≤ 3) (h0 : 0 ≤ x) (h1 : x < d * 2804 + 1484 ∨ d * 2804 + 1844 ≤ x) (h7 : x ≠ d * 2804 + 7) (h32 : x ≠ d * 2804 + (32 + kd)) : mg (mSend4 s d kd i) x = mg s x := by
  have ht := tmod60 hm
  have hd0 : 0 ≤ d := hd.1
  unfold mSend4
  rw [mInc_ne (by omega) (by omega) (by omega), mInc_ne (by omega) (by omega) (by omega), sdL_fr _ d i (by omega) 5 0 _ x (by decide) (by omega) (by omega), mg_ne (by omega) (by omega) (by omega)]
theorem send4_7 {s : MS} {d kd i : Int} (hd : dOk d) (hm : 0 ≤ mg s (d * 2804 + 7)) (hk : 0 ≤ kd ∧ kd ≤ 3) : mg (mSend4 s d kd i) (d * 2804 + 7) = wI (mg s (d * 2804 + 7) + 1) := by
  have ht := tmod60 hm
  have hd0 : 0 ≤ d := hd.1
  unfold mSend4
  rw [mInc_ne (by omega) (by omega) (by omega), mInc_eq, sdL_fr _ d i (by omega) 5 0 _ _ (by decide) (by omega) (by omega), mg_ne (by omega) (by omega) (by omega)]
theorem send4_c {s : MS} {d kd i : Int} (hd : dOk d) (hm : 0 ≤ mg s (d * 2804 + 7)) (hk : 0 ≤ kd ∧ kd ≤ 3) : mg (mSend4 s d kd i) (d * 2804 + 1484) = mg s (d * 2804 + 1484) ∨ mg (mSend4 s d kd i) (d * 2804 + 1484) = kd := by
  have ht := tmod60 hm
  have hd0 : 0 ≤ d := hd.1
  unfold mSend4
  rw [mInc_ne (by omega) (by omega) (by omega), mInc_ne (by omega) (by omega) (by omega), sdL_fr _ d i (by omega) 5 0 _ _ (by decide) (by omega) (by omega)]
  by_cases e : Int.tmod (mg s (d * 2804 + 7)) 60 = 0
  · rw [e, show d * 2804 + 1484 + 6 * 0 = d * 2804 + 1484 by omega]
    exact Or.inr mg_eq
  · exact Or.inl (mg_ne (by omega) (by omega) (by omega))
abbrev rw_ (d i : Int) : Int := d * 2804 + 364 + 7 * i
theorem send4_key {s : MS} {d kd i : Int} (hd : dOk d) (hm : 0 ≤ mg s (d * 2804 + 7)) (hi : 0 ≤ i ∧ i ≤ 160) (hk : 0 ≤ kd ∧ kd ≤ 3) (hq : 0 ≤ mg s (rw_ d i + 0) ∧ mg s (rw_ d i + 0) ≤ 5) : 0 ≤ mg (mSend4 s d kd i) (rw_ d i + 0) ∧ mg (mSend4 s d kd i) (rw_ d i + 0) ≤ 5 := by
  have hd0 : 0 ≤ d := hd.1
  have r1 : rw_ d i = d * 2804 + 364 + 7 * i := rfl
  by_cases h : i = 160
  · subst h
    have e : rw_ d 160 + 0 = d * 2804 + 1484 := by omega
    rw [e] at hq ⊢
    rcases send4_c (i := 160) hd hm hk with c | c <;> rw [c]
    · exact hq
    · omega
  · rw [send4_fr hd hm hk (by omega) (by omega) (by omega) (by omega)]
    exact hq
theorem send_ok {s : MS} {d kd i : Int} (hd : dOk d) (hm : 0 ≤ mg s (d * 2804 + 7)) (hi : 0 ≤ i ∧ i ≤ 160) (hk : 0 ≤ kd ∧ kd ≤ 3) (hq : 0 ≤ mg s (rw_ d i + 0) ∧ mg s (rw_ d i + 0) ≤ 5) (hm2 : mg s (d * 2804 + 7) ≤ 2000000) : dF d s (mSend s d kd i) ∧ mg (mSend s d kd i) (d * 2804 + 7) = wI (mg s (d * 2804 + 7) + 1) ∧ mI (d * 2804 + (60 + 4 * mg (mSend4 s d kd i) ((d * 2804 + 364 + 7 * i) + 0) + kd)) := by
  have hd0 : 0 ≤ d := hd.1
  have hd1 : d ≤ 10 := hd.2
  have e0 : 0 ≤ mg (mSend4 s d kd i) ((d * 2804 + 364 + 7 * i) + 0) ∧ mg (mSend4 s d kd i) ((d * 2804 + 364 + 7 * i) + 0) ≤ 5 := send4_key hd hm hi hk hq
  have e1 : cF s (mSend s d kd i) := by
    unfold mSend mSend4
    exact ((((cF_P.trans (sdL_1 _ d i 5 0 _)).trans cF_I).trans cF_I).trans cF_I).trans cF_P
  have e7 : mg (mSend s d kd i) (d * 2804 + 7) = wI (mg s (d * 2804 + 7) + 1) := by
    unfold mSend
    rw [mg_ne (by omega) (by omega) (by omega), mInc_ne (by omega) (by omega) (by omega), send4_7 hd hm hk]
  refine ⟨⟨fun c h0 hc => ?_, fun q => ?_, e1.s, e1.2 4 (by decide), by rw [e7, wI_id ⟨by omega, by omega⟩]; omega⟩, e7, ?_⟩
  · have hc2 : (c < 1484 ∨ 1844 ≤ c) ∧ c ≠ 7 ∧ (c < 32 ∨ 36 ≤ c) ∧ (c < 60 ∨ 84 ≤ c) ∧ c ≠ 364 + 7 * i + 6 := by
      rcases hc with h | h | h | h | h | ⟨j, q, h1, h2, h3, h4, rfl⟩ <;> omega
    unfold mSend
    rw [mg_ne (by omega) (by omega) (by omega), mInc_ne (by omega) (by omega) (by omega)]
    exact send4_fr hd hm hk (by omega) (by omega) (by omega) (by omega)
  · have e : mg (mSend s d kd i) (d * 2804 + 1484) = mg (mSend4 s d kd i) (d * 2804 + 1484) := by
      unfold mSend
      rw [mg_ne (by omega) (by omega) (by omega), mInc_ne (by omega) (by omega) (by omega)]
    have q1 : 0 ≤ mg s (d * 2804 + 1484) ∧ mg s (d * 2804 + 1484) ≤ 5 := q
    show 0 ≤ mg (mSend s d kd i) (d * 2804 + 1484) ∧ mg (mSend s d kd i) (d * 2804 + 1484) ≤ 5
    rw [e]
    rcases send4_c (i := i) hd hm hk with c | c <;> rw [c]
    · exact q1
    · omega
  · constructor <;> omega
/-- the desk's numbers: sessions to n, what is sent and closed to b, keys, first times -/
def dV (d n b : Int) (s : MS) : Prop := (0 ≤ mg s (d * 2804 + 5) ∧ mg s (d * 2804 + 5) ≤ n) ∧ (0 ≤ mg s (d * 2804 + 7) ∧ mg s (d * 2804 + 7) ≤ b) ∧ (∀ k, 0 ≤ k → k ≤ 5 → 0 ≤ mg s (d * 2804 + (36 + k)) ∧ mg s (d * 2804 + (36 + k)) ≤ b) ∧ (∀ i, 0 ≤ i → i < mg s (d * 2804 + 5) → 0 ≤ mg s (rw_ d i + 0) ∧ mg s (rw_ d i + 0) ≤ 5) ∧ (n ≤ 160 → ∀ i, 0 ≤ i → i < mg s (d * 2804 + 5) → mg s (rw_ d i + 1) ≤ mg s (rw_ d i + 2))
theorem row_at {d i q : Int} : rw_ d i + q = d * 2804 + (364 + 7 * i + q) := by
  show d * 2804 + 364 + 7 * i + q = _
  omega
theorem dF.row {d : Int} {s s' : MS} (h : dF d s s') (hd : dOk d) {i q : Int} (hi : 0 ≤ i ∧ i < 160) (hq : 0 ≤ q ∧ q ≤ 5) : mg s' (rw_ d i + q) = mg s (rw_ d i + q) := by
  have hd0 : 0 ≤ d := hd.1
  rw [row_at]
  exact h.1 _ (by omega) (Or.inr (Or.inr (Or.inr (Or.inr (Or.inr ⟨i, q, hi.1, hi.2, hq.1, hq.2, Eq.refl _⟩)))))
theorem dF.five {d : Int} {s s' : MS} (h : dF d s s') (hd : dOk d) : mg s' (d * 2804 + 5) = mg s (d * 2804 + 5) := h.1 5 (by have := hd.1; omega) (Or.inl (by decide))
theorem dV.go {d n b b' : Int} {s s' : MS} (h : dV d n b s) (hd : dOk d) (hn : n ≤ 161) (hF : dF d s s') (hb : b ≤ b') (h7 : 0 ≤ mg s' (d * 2804 + 7) ∧ mg s' (d * 2804 + 7) ≤ b') : dV d n b' s' := by
  have hd0 : 0 ≤ d := hd.1
  have h5 := h.1
  refine ⟨by rw [hF.five hd]; exact h.1, h7, fun k h0 h1 => ?_, fun i h0 h1 => ?_, fun hn2 i h0 h1 => ?_⟩
  · rw [hF.1 _ (by omega) (Or.inr (Or.inr (Or.inl ⟨by omega, by omega⟩)))]
    have := h.2.2.1 k h0 h1
    omega
  · rw [hF.five hd] at h1
    by_cases e : i = 160
    · subst e
      have e : rw_ d 160 + 0 = d * 2804 + 1484 := by
        show d * 2804 + 364 + 7 * 160 + 0 = _
        omega
      have q := h.2.2.2.1 160 h0 h1
      rw [e] at q ⊢
      exact hF.2.1 q
    · rw [hF.row hd ⟨h0, by omega⟩ ⟨by decide, by decide⟩]
      exact h.2.2.2.1 i h0 h1
  · rw [hF.five hd] at h1
    rw [hF.row hd ⟨h0, by omega⟩ ⟨by decide, by decide⟩, hF.row hd ⟨h0, by omega⟩ ⟨by decide, by decide⟩]
    exact h.2.2.2.2 hn2 i h0 h1
theorem dV.send {d n b kd i : Int} {s : MS} (h : dV d n b s) (hd : dOk d) (hn : n ≤ 161) (hb : b ≤ 1000000) (hk : 0 ≤ kd ∧ kd ≤ 3) (hi : 0 ≤ i ∧ i < mg s (d * 2804 + 5)) : dV d n (b + 1) (mSend s d kd i) ∧ dF d s (mSend s d kd i) ∧ mI (d * 2804 + (60 + 4 * mg (mSend4 s d kd i) ((d * 2804 + 364 + 7 * i) + 0) + kd)) := by
  have h5 := h.1
  have h7 := h.2.1
  obtain ⟨g1, g2, g3⟩ := send_ok hd h7.1 ⟨hi.1, by omega⟩ hk (h.2.2.2.1 i hi.1 hi.2) (by omega)
  exact ⟨h.go hd hn g1 (by omega) (by rw [g2, wI_id ⟨by omega, by omega⟩]; omega), g1, g3⟩
theorem dV.more {d n b b' : Int} {s : MS} (h : dV d n b s) (hb : b ≤ b') : dV d n b' s :=
  ⟨h.1, ⟨h.2.1.1, by have := h.2.1.2; omega⟩, fun k h0 h1 => ⟨(h.2.2.1 k h0 h1).1, by have := (h.2.2.1 k h0 h1).2; omega⟩, h.2.2.2⟩
theorem dV.wide {d n n' b : Int} {s : MS} (h : dV d n b s) (hn : n ≤ n') (h160 : n ≤ 160) : dV d n' b s :=
  ⟨⟨h.1.1, by have := h.1.2; omega⟩, h.2.1, h.2.2.1, h.2.2.2.1, fun _ => h.2.2.2.2 h160⟩
theorem dV.take {d n b i : Int} {s : MS} (h : dV d n b s) (hd : dOk d) (hn : n ≤ 161) (hb : b ≤ 1000000) (hi : 0 ≤ i ∧ i < mg s (d * 2804 + 5)) : dV d n (b + 1) (mTake s d i) ∧ dF d s (mTake s d i) ∧ mTakeP s d i := by
  obtain ⟨g1, g2, g3⟩ := h.send (kd := 3) hd hn hb ⟨by decide, by decide⟩ hi
  unfold mTake
  by_cases hc : 0 < mg s ((d * 2804 + 364 + 7 * i) + 6)
  · rw [if_pos hc]
    exact ⟨g1, g2, fun _ => g3⟩
  · rw [if_neg hc]
    exact ⟨h.more (by omega), dF.same, fun q => absurd q hc⟩
