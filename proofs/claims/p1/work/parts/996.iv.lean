/-! ===== a desk of the model: what holds while inputs come ===== -/
theorem wI_id {z : Int} (h : xB z) : wI z = z := by
  show (iI z).toInt = z
  exact iI_toInt h
/-- the cells of a desk that sending leaves alone -/
def kC (c : Int) : Prop := (0 ≤ c ∧ c < 7) ∨ (8 ≤ c ∧ c < 32) ∨ (36 ≤ c ∧ c < 60) ∨ (84 ≤ c ∧ c < 364) ∨ ∃ j q : Int, 0 ≤ j ∧ j < 160 ∧ 0 ≤ q ∧ q ≤ 5 ∧ c = 364 + 7 * j + q
def dF (d : Int) (s s' : MS) : Prop := (∀ c, kC c → mg s' (d * 2804 + c) = mg s (d * 2804 + c)) ∧ s'.1 8 = s.1 8 ∧ s'.2 4 = s.2 4
theorem dF.rfl {d : Int} {s : MS} : dF d s s := ⟨fun _ _ => Eq.refl _, Eq.refl _, Eq.refl _⟩
theorem dF.trans {d : Int} {s t u : MS} (h : dF d s t) (g : dF d t u) : dF d s u := ⟨fun c hc => (g.1 c hc).trans (h.1 c hc), g.2.1.trans h.2.1, g.2.2.trans h.2.2⟩
theorem sdL_fr (k d i : Int) (hk : 0 ≤ k) : ∀ (m : Nat) (w : Int) (s : MS) (x : Int), 0 ≤ w → 0 ≤ x → x < k + 1 + w → mg (sdL k d i m w s) x = mg s x
  | 0, _, _, _, _, _, _ => rfl
  | m + 1, w, s, x, hw, hx, h => by
    rw [sdL, sdL_fr k d i hk m (w + 1) _ x (by omega) hx (by omega), mg_ne (by omega) hx (by omega)]
theorem sdL_1 (k d i : Int) : ∀ (m : Nat) (w : Int) (s : MS), (sdL k d i m w s).1 = s.1 ∧ (sdL k d i m w s).2 4 = s.2 4
  | 0, _, _ => ⟨rfl, rfl⟩
  | m + 1, w, s => by
    rw [sdL]
    obtain ⟨h1, h2⟩ := sdL_1 k d i m (w + 1) (mP s (k + 1 + w) (mg s ((d * 2804 + 364 + 7 * i) + w)))
    exact ⟨h1, h2⟩
theorem tmod60 {a : Int} (h : 0 ≤ a) : 0 ≤ Int.tmod a 60 ∧ Int.tmod a 60 < 60 := ⟨Int.tmod_nonneg _ h, Int.tmod_lt_of_pos a (by decide)⟩
theorem tmod40 {a : Int} (h : 0 ≤ a) : 0 ≤ Int.tmod a 40 ∧ Int.tmod a 40 < 40 := ⟨Int.tmod_nonneg _ h, Int.tmod_lt_of_pos a (by decide)⟩
theorem mInc_ne {s : MS} {a v x : Int} (ha : 0 ≤ a) (hx : 0 ≤ x) (h : a ≠ x) : mg (mInc s a v) x = mg s x := mg_ne ha hx h
theorem mInc_eq {s : MS} {a v : Int} : mg (mInc s a v) a = wI (mg s a + v) := mg_eq
/-- a message sent: the row it tells, all but its count and the place of its kind -/
theorem send4_fr {s : MS} {d kd i x : Int} (hd : dOk d) (hm : 0 ≤ mg s (d * 2804 + 7)) (hk : 0 ≤ kd ∧ kd ≤ 3) (h0 : d * 2804 ≤ x) (h1 : x < d * 2804 + 1484) (h7 : x ≠ d * 2804 + 7) (h32 : x ≠ d * 2804 + (32 + kd)) : mg (mSend4 s d kd i) x = mg s x := by
  have ht := tmod60 hm
  have hd0 : 0 ≤ d := hd.1
  unfold mSend4
  rw [mInc_ne (by omega) (by omega) (by omega), mInc_ne (by omega) (by omega) (by omega), sdL_fr _ d i (by omega) 5 0 _ x (by decide) (by omega) (by omega), mg_ne (by omega) (by omega) (by omega)]
theorem send4_7 {s : MS} {d kd i : Int} (hd : dOk d) (hm : 0 ≤ mg s (d * 2804 + 7)) (hk : 0 ≤ kd ∧ kd ≤ 3) : mg (mSend4 s d kd i) (d * 2804 + 7) = wI (mg s (d * 2804 + 7) + 1) := by
  have ht := tmod60 hm
  have hd0 : 0 ≤ d := hd.1
  unfold mSend4
  rw [mInc_ne (by omega) (by omega) (by omega), mInc_eq, sdL_fr _ d i (by omega) 5 0 _ _ (by decide) (by omega) (by omega), mg_ne (by omega) (by omega) (by omega)]
abbrev rw_ (d i : Int) : Int := d * 2804 + 364 + 7 * i
theorem send_ok {s : MS} {d kd i : Int} (hd : dOk d) (hm : 0 ≤ mg s (d * 2804 + 7)) (hi : 0 ≤ i ∧ i < 160) (hk : 0 ≤ kd ∧ kd ≤ 3) (hq : 0 ≤ mg s (rw_ d i + 0) ∧ mg s (rw_ d i + 0) ≤ 5) : dF d s (mSend s d kd i) ∧ mg (mSend s d kd i) (d * 2804 + 7) = wI (mg s (d * 2804 + 7) + 1) ∧ mI (d * 2804 + (60 + 4 * mg (mSend4 s d kd i) ((d * 2804 + 364 + 7 * i) + 0) + kd)) := by
  have hd0 : 0 ≤ d := hd.1
  have hd1 : d ≤ 10 := hd.2
  have e0 : mg (mSend4 s d kd i) ((d * 2804 + 364 + 7 * i) + 0) = mg s (rw_ d i + 0) := send4_fr hd hm hk (by omega) (by omega) (by omega) (by omega)
  have e1 := sdL_1 (d * 2804 + 1484 + 6 * Int.tmod (mg s (d * 2804 + 7)) 60) d i 5 0 (mP s ((d * 2804 + 1484 + 6 * Int.tmod (mg s (d * 2804 + 7)) 60)) kd)
  refine ⟨⟨fun c hc => ?_, ?_, ?_⟩, ?_, ?_⟩
  · have hc2 : 0 ≤ c ∧ c < 1484 ∧ c ≠ 7 ∧ (c < 32 ∨ 36 ≤ c) ∧ (c < 60 ∨ 84 ≤ c) ∧ c ≠ 364 + 7 * i + 6 := by
      rcases hc with h | h | h | h | ⟨j, q, h1, h2, h3, h4, rfl⟩ <;> omega
    unfold mSend
    rw [mg_ne (by omega) (by omega) (by omega), mInc_ne (by omega) (by omega) (by omega)]
    exact send4_fr hd hm hk (by omega) (by omega) (by omega) (by omega)
  · exact congrFun e1.1 8
  · exact e1.2
  · unfold mSend
    rw [mg_ne (by omega) (by omega) (by omega), mInc_ne (by omega) (by omega) (by omega), send4_7 hd hm hk]
  · rw [e0]
    constructor <;> omega
/-- the desk's numbers: sessions to n, what is sent and closed to b, keys -/
def dV (d n b : Int) (s : MS) : Prop := (0 ≤ mg s (d * 2804 + 5) ∧ mg s (d * 2804 + 5) ≤ n) ∧ (0 ≤ mg s (d * 2804 + 7) ∧ mg s (d * 2804 + 7) ≤ b) ∧ (∀ k, 0 ≤ k → k ≤ 5 → 0 ≤ mg s (d * 2804 + (36 + k)) ∧ mg s (d * 2804 + (36 + k)) ≤ b) ∧ ∀ i, 0 ≤ i → i < mg s (d * 2804 + 5) → 0 ≤ mg s (rw_ d i + 0) ∧ mg s (rw_ d i + 0) ≤ 5
theorem row_at {d i q : Int} : rw_ d i + q = d * 2804 + (364 + 7 * i + q) := by
  show d * 2804 + 364 + 7 * i + q = _
  omega
theorem dF.row {d : Int} {s s' : MS} (h : dF d s s') {i q : Int} (hi : 0 ≤ i ∧ i < 160) (hq : 0 ≤ q ∧ q ≤ 5) : mg s' (rw_ d i + q) = mg s (rw_ d i + q) := by
  rw [row_at]
  exact h.1 _ (Or.inr (Or.inr (Or.inr (Or.inr ⟨i, q, hi.1, hi.2, hq.1, hq.2, Eq.refl _⟩))))
theorem dF.five {d : Int} {s s' : MS} (h : dF d s s') : mg s' (d * 2804 + 5) = mg s (d * 2804 + 5) := h.1 5 (Or.inl ⟨by decide, by decide⟩)
theorem dV.go {d n b b' : Int} {s s' : MS} (h : dV d n b s) (hn : n ≤ 100) (hF : dF d s s') (hb : b ≤ b') (h7 : 0 ≤ mg s' (d * 2804 + 7) ∧ mg s' (d * 2804 + 7) ≤ b') : dV d n b' s' := by
  refine ⟨by rw [hF.five]; exact h.1, h7, fun k h0 h1 => ?_, fun i h0 h1 => ?_⟩
  · rw [hF.1 _ (Or.inr (Or.inr (Or.inl ⟨by omega, by omega⟩)))]
    have := h.2.2.1 k h0 h1
    omega
  · rw [hF.five] at h1
    have := h.1
    rw [hF.row ⟨h0, by omega⟩ ⟨by decide, by decide⟩]
    exact h.2.2.2 i h0 h1
theorem dV.send {d n b kd i : Int} {s : MS} (h : dV d n b s) (hd : dOk d) (hn : n ≤ 100) (hb : b ≤ 1000000) (hk : 0 ≤ kd ∧ kd ≤ 3) (hi : 0 ≤ i ∧ i < mg s (d * 2804 + 5)) : dV d n (b + 1) (mSend s d kd i) ∧ dF d s (mSend s d kd i) ∧ mI (d * 2804 + (60 + 4 * mg (mSend4 s d kd i) ((d * 2804 + 364 + 7 * i) + 0) + kd)) := by
  have h5 := h.1
  have h7 := h.2.1
  obtain ⟨g1, g2, g3⟩ := send_ok hd h7.1 ⟨hi.1, by omega⟩ hk (h.2.2.2 i hi.1 hi.2)
  exact ⟨h.go hn g1 (by omega) (by rw [g2, wI_id ⟨by omega, by omega⟩]; omega), g1, g3⟩
theorem dV.more {d n b b' : Int} {s : MS} (h : dV d n b s) (hb : b ≤ b') : dV d n b' s :=
  ⟨h.1, ⟨h.2.1.1, by have := h.2.1.2; omega⟩, fun k h0 h1 => ⟨(h.2.2.1 k h0 h1).1, by have := (h.2.2.1 k h0 h1).2; omega⟩, h.2.2.2⟩
theorem dV.take {d n b i : Int} {s : MS} (h : dV d n b s) (hd : dOk d) (hn : n ≤ 100) (hb : b ≤ 1000000) (hi : 0 ≤ i ∧ i < mg s (d * 2804 + 5)) : dV d n (b + 1) (mTake s d i) ∧ dF d s (mTake s d i) ∧ mTakeP s d i := by
  obtain ⟨g1, g2, g3⟩ := h.send (kd := 3) hd hn hb ⟨by decide, by decide⟩ hi
  unfold mTake
  by_cases hc : 0 < mg s ((d * 2804 + 364 + 7 * i) + 6)
  · rw [if_pos hc]
    exact ⟨g1, g2, fun _ => g3⟩
  · rw [if_neg hc]
    exact ⟨h.more (by omega), dF.rfl, fun q => absurd q hc⟩
