/-! ===== each method of the model keeps it ===== -/
section FM
variable {m : MS} {K : KM}
theorem Inv.five {m : MS} (h : Inv m) : 0 ≤ mg m (0 * 2804 + 5) ∧ mg m (0 * 2804 + 5) ≤ 160 := by
  have h5 := h.2.2.2.1.2.2.1.1
  have h6 := h.2.2.2.1.2.1
  omega
theorem Inv.six {m : MS} (h : Inv m) : 0 ≤ mg m (0 * 2804 + 6) ∧ mg m (0 * 2804 + 6) ≤ 160 := h.2.2.2.1.2.1
theorem Inv.zero {m : MS} (h : Inv m) : 1 ≤ mg m (0 * 2804 + 0) ∧ mg m (0 * 2804 + 0) ≤ 4 := h.2.2.2.1.1
theorem Inv.mok {m : MS} (h : Inv m) : mok1 m := ⟨by have := h.zero; show 0 ≤ mg m (0 * 2804 + 0); omega, h.zero.2⟩
theorem iv_sign {v : Int} (h : Inv m) (kk : ∀ m', Inv m' → m'.1 4 = (if 76 < m.1 4 then m.1 4 else m.1 4 + 4) → m'.2 12 = m.2 12 → K [pI (gSign m v).1] m') : sX3_sign v m K := by
  refine ⟨h.1, ?_⟩
  have e : (∀ k, k ≠ 0 → k ≠ 4 → (gSign m v).2.1 k = m.1 k) ∧ (gSign m v).2.2 3 = m.2 3 ∧ (gSign m v).2.2 12 = m.2 12 ∧ (gSign m v).2.1 4 = (if 76 < m.1 4 then m.1 4 else m.1 4 + 4) := by
    unfold gSign
    split
    · exact ⟨fun k h0 _ => mS_ne h0, rfl, rfl, rfl⟩
    · exact ⟨fun k h0 h4 => (mS_ne h4).trans (mS_ne h0), rfl, rfl, rfl⟩
  obtain ⟨e1, e3, e12, e4⟩ := e
  generalize (gSign m v).2 = u at e1 e3 e12 e4 ⊢
  obtain ⟨a, b, c, d, f, g⟩ := h
  refine kk u ⟨?_, by rw [e1 8 (by decide) (by decide)]; exact b, by rw [e1 1 (by decide) (by decide)]; exact c, d.cong e3, fun i i0 i1 hi => ?_, fun k k0 k1 => ?_⟩ e4 e12
  · rw [e4]
    split <;> omega
  · rw [e12] at hi
    exact (f i i0 i1 hi).cong e3
  · rw [e1 8 (by decide) (by decide)] at k1
    exact (g k k0 k1).cong e3
theorem Inv.len {m m' : MS} (h : Inv m) (h4 : 0 ≤ m'.1 4 ∧ m'.1 4 ≤ 80) (e1 : m'.1 1 = m.1 1) (e8 : m'.1 8 = m.1 8) (e3 : m'.2 3 = m.2 3) (e12 : m'.2 12 = m.2 12) : Inv m' := by
  obtain ⟨a, b, c, d, f, g⟩ := h
  refine ⟨h4, by rw [e8]; exact b, by rw [e1]; exact c, d.cong e3, fun i i0 i1 hi => ?_, fun k k0 k1 => ?_⟩
  · rw [e12] at hi
    exact (f i i0 i1 hi).cong e3
  · rw [e8] at k1
    exact (g k k0 k1).cong e3
theorem iv_end {n : Int} (hn : xB n) (h : Inv m) (kk : ∀ m', Inv m' → m'.1 4 = (if inB n 0 (m.1 4) then n else m.1 4) → m'.2 12 = m.2 12 → K [pI (gEnd m n).1] m') : sX3_end n m K := by
  refine ⟨hn, ?_⟩
  by_cases c : inB n 0 (m.1 4)
  · have e : gEnd m n = (1, mS (mS m 0 0) 4 n) := if_pos c
    have k2 := kk (mS (mS m 0 0) 4 n) (h.len (by have h1 := h.1; have h2 := c.1; have h3 := c.2; show 0 ≤ n ∧ n ≤ 80; omega) rfl rfl rfl rfl) (by rw [if_pos c]; rfl) rfl
    rw [e] at k2 ⊢
    exact k2
  · have e : gEnd m n = (0, mS m 0 0) := if_neg c
    have k2 := kk (mS m 0 0) h.s0.1 (by rw [if_neg c]; rfl) rfl
    rw [e] at k2 ⊢
    exact k2
theorem iv_start {n g l e : Int} (hn : xB n) (hg : xB g) (hl : xB l) (he : xB e) (h : Inv m) (kk : ∀ m', Qi m m' → K [pI (gStart m n g l e).1] m') : sX3_start n g l e m K := by
  refine ⟨⟨⟨hn, hg, hl, he⟩, h.2.1⟩, kk _ ?_⟩
  unfold gStart
  split
  · rename_i c
    obtain ⟨p1, p2⟩ := h.pre
    obtain ⟨s1, s2, -⟩ := starts_ok (s := mCopy (mS m 0 0) 0 3) (d := 0) (n := n) (g := g) (l := l) (e := e) (by decide) c.1
    have q := p1.1.on0 s1 s2
    exact (p1.trans q).trans (lays_ok q.1 (p2.other (by decide) (by decide) (by decide) s2))
  · exact h.s0
theorem Inv.putd {m : MS} (h : Inv m) {r v : Int} (hr : 0 ≤ r ∧ r ≤ 3) : dI 0 (mP m (16 + r) v) ∧ oD 0 m (mP m (16 + r) v) := by
  refine ⟨h.2.2.2.1.of (fun c hc => mg_ne (by omega) (by omega) (by omega)), fun x x0 hx => mg_ne (by omega) x0 (by omega), cF_P.s⟩
theorem iv_delays {r v : Int} (hr : xB r) (hv : xB v) (h : Inv m) (kk : ∀ a m', Qi m m' → K [pI a] m') : sX3_delays r v m K := by
  refine ⟨⟨⟨hr, hv⟩, h.mok, h.2.1⟩, kk _ _ ?_⟩
  unfold gDelays
  split
  · rename_i c
    have c1 := c.1
    have hz := h.mok
    have hr3 : 0 ≤ r ∧ r ≤ 3 := ⟨c1.1, by have := c1.2; have := hz.2; omega⟩
    split
    · exact h.s0
    · split
      · exact h.s0
      · obtain ⟨p1, p2⟩ := h.pre
        obtain ⟨a, b⟩ := p1.1.putd (v := v) hr3
        have q := p1.1.on0 a b
        show Qi m (if _ then _ else _)
        split
        · exact (p1.trans q).trans (lays_ok q.1 (p2.other (by decide) (by decide) (by decide) b))
        · exact p1.trans q
  · exact h.s0
theorem gt_ok {m' : MS} (p : Inv m) (q : Qi m m') (h3 : dI 3 m') : Qi m (mLays m') := q.trans (lays_ok q.1 h3)
theorem en2 {m m' : MS} (q : Qi m m') {a b : Int} : Qi m (mEn (mEn (mS m' 1 0) a) b) := q.trans (q.1.cong ⟨by show (0 : Int) ≤ 0 + 1 + 1; decide, by show (0 : Int) + 1 + 1 ≤ 16; decide⟩ rfl rfl rfl rfl)
theorem en1 {m m' : MS} (q : Qi m m') {a : Int} : Qi m (mEn (mS m' 1 0) a) := q.trans (q.1.cong ⟨by show (0 : Int) ≤ 0 + 1; decide, by show (0 : Int) + 1 ≤ 16; decide⟩ rfl rfl rfl rfl)
theorem en3 {m m' : MS} (q : Qi m m') {a b c : Int} : Qi m (mEn (mEn (mEn (mS m' 1 0) a) b) c) := q.trans (q.1.cong ⟨by show (0 : Int) ≤ 0 + 1 + 1 + 1; decide, by show (0 : Int) + 1 + 1 + 1 ≤ 16; decide⟩ rfl rfl rfl rfl)
theorem iv_eventOne {k t v r : Int} (h : Inv m) {K : Int → MS → Prop} (k0 : ∀ a, K a m) (kk : ∀ a m', dI 0 m' → oD 0 m m' → K a m') : evP m k t v r 650 K := by
  refine ⟨fun _ => k0 _, fun c => ⟨fun _ => k0 _, fun c6 => ?_⟩⟩
  have h6 := h.six
  have hz := h.mok
  have c6 : mg m (0 * 2804 + 6) ≠ 160 := c6
  refine ⟨⟨h6.1, by show mg m (0 * 2804 + 6) ≤ 159; omega⟩, ?_⟩
  have c4 : 0 ≤ r ∧ r < mg m 0 := c.2.2.2
  exact h.2.2.2.1.come ⟨by decide, by decide⟩ (by omega) c.1 ⟨c4.1, by have := hz.2; omega⟩ (fun s' a b _ => kk _ s' a b)
theorem iv_event {k t v r : Int} (hk : xB k) (ht : xB t) (hv : xB v) (hr : xB r) (h : Inv m) (kk : ∀ a m', Qi m m' → K [pI a] m') : sX3_event k t v r m K := by
  obtain ⟨p1, p2⟩ := h.pre
  refine ⟨⟨⟨hk, ht, hv, hr⟩, p1.1.mok⟩, 650, iv_eventOne p1.1 (fun a => ?_) (fun a m' d0 o => ?_)⟩
  · exact ⟨fun _ => kk _ _ p1, fun _ => ⟨(en2 p1).1.2.1, kk _ _ (gt_ok h (en2 p1) (p2.cong rfl))⟩⟩
  · have q := p1.trans (p1.1.on0 d0 o)
    have q3 := p2.other (by decide) (by decide) (by decide) o
    exact ⟨fun _ => kk _ _ q, fun _ => ⟨(en2 q).1.2.1, kk _ _ (gt_ok h (en2 q) (q3.cong rfl))⟩⟩
theorem iv_after {a : Int} {m' : MS} {K : Int → MS → Prop} (h : Inv m) (q : Qi m m') (h3 : dI 3 m') (kk : ∀ a m', Qi m m' → K a m') : gAfter a m' K :=
  ⟨fun _ => ⟨q.1.2.1, kk _ _ q⟩, fun _ => ⟨(en1 q).1.2.1, kk _ _ (gt_ok h (en1 q) (h3.cong rfl))⟩⟩
theorem iv_mk {r t : Int} (h : Inv m) {K : Int → MS → Prop} (k0 : ∀ a, K a m) (kk : ∀ a m', dI 0 m' → oD 0 m m' → K a m') : mkP m r t 650 K := by
  refine ⟨fun _ => k0 _, fun c => ⟨fun _ => k0 _, fun _ => ⟨fun _ => k0 _, fun c6 => ?_⟩⟩⟩
  have h6 := h.six
  have hz := h.mok
  have c6 : mg m (0 * 2804 + 6) ≠ 160 := c6
  refine ⟨⟨h6.1, by show mg m (0 * 2804 + 6) ≤ 159; omega⟩, ?_⟩
  have c4 : 0 ≤ r ∧ r < mg m 0 := c.1
  exact h.2.2.2.1.mark ⟨by decide, by decide⟩ (by omega) ⟨c4.1, by have := hz.2; omega⟩ (fun s' a b _ => kk _ s' a b)
theorem iv_marks {r t : Int} (hr : xB r) (ht : xB t) (h : Inv m) (kk : ∀ a m', Qi m m' → K [pI a] m') : sX3_marks r t m K := by
  obtain ⟨p1, p2⟩ := h.pre
  exact ⟨⟨⟨hr, ht⟩, p1.1.mok⟩, 650, iv_mk p1.1 (fun a => iv_after h p1 p2 kk) (fun a m' d0 o => iv_after h (p1.trans (p1.1.on0 d0 o)) (p2.other (by decide) (by decide) (by decide) o) kk)⟩
theorem iv_id {r : Int} (h : Inv m) {K : Int → MS → Prop} (k0 : ∀ a, K a m) (kk : ∀ a m', dI 0 m' → oD 0 m m' → K a m') : idP m r 650 K := by
  refine ⟨fun _ => k0 _, fun c => ⟨fun _ => k0 _, fun _ => ⟨fun _ => k0 _, fun c6 => ?_⟩⟩⟩
  have h6 := h.six
  have hz := h.mok
  have c6 : mg m (0 * 2804 + 6) ≠ 160 := c6
  refine ⟨⟨h6.1, by show mg m (0 * 2804 + 6) ≤ 159; omega⟩, ?_⟩
  have c4 : 0 ≤ r ∧ r < mg m 0 := c
  exact h.2.2.2.1.idle ⟨by decide, by decide⟩ (by omega) ⟨c4.1, by have := hz.2; omega⟩ (fun s' a b _ => kk _ s' a b)
theorem iv_idles {r : Int} (hr : xB r) (h : Inv m) (kk : ∀ a m', Qi m m' → K [pI a] m') : sX3_idles r m K := by
  obtain ⟨p1, p2⟩ := h.pre
  exact ⟨⟨hr, p1.1.mok⟩, 650, iv_id p1.1 (fun a => iv_after h p1 p2 kk) (fun a m' d0 o => iv_after h (p1.trans (p1.1.on0 d0 o)) (p2.other (by decide) (by decide) (by decide) o) kk)⟩
theorem iv_source {r a : Int} (hr : xB r) (ha : xB a) (h : Inv m) (kk : ∀ q m', Qi m m' → K [pI q] m') : sX3_source r a m K := by
  refine ⟨⟨⟨hr, ha⟩, h.mok⟩, kk _ _ ?_⟩
  unfold gSource
  split <;> exact h.s0
theorem iv_session {r a : Int} (hr : xB r) (ha : xB a) (h : Inv m) (kk : ∀ q m', Qi m m' → K [pI q] m') : sX3_session r a m K := by
  refine ⟨⟨⟨hr, ha⟩, h.five⟩, kk _ _ ?_⟩
  unfold gSession
  split <;> exact h.s0
theorem iv_message {r a : Int} (hr : xB r) (ha : xB a) (h : Inv m) (kk : ∀ q m', Qi m m' → K [pI q] m') : sX3_message r a m K := by
  refine ⟨⟨hr, ha⟩, kk _ _ ?_⟩
  unfold gMessage
  split <;> exact h.s0
theorem iv_finals {r a : Int} (hr : xB r) (ha : xB a) (h : Inv m) (kk : ∀ q m', Qi m m' → K [pI q] m') : sX3_finals r a m K := by
  refine ⟨⟨hr, ha⟩, kk _ _ ?_⟩
  unfold gFinals
  split <;> exact h.s0
theorem iv_input {r a : Int} (hr : xB r) (ha : xB a) (h : Inv m) (kk : ∀ q m', Qi m m' → K [pI q] m') : sX3_input r a m K := by
  refine ⟨⟨⟨hr, ha⟩, h.six⟩, kk _ _ ?_⟩
  unfold gInput
  split <;> exact h.s0
theorem iv_row {r : Int} (hr : xB r) (h : Inv m) (kk : ∀ q m', Qi m m' → K [pJ q] m') : sX3_row r m K := by
  refine ⟨⟨hr, h.2.2.1⟩, kk _ _ ?_⟩
  unfold gRow
  split <;> exact h.s0
theorem iv_count {a : Int} (ha : xB a) (h : Inv m) (kk : ∀ q m', Qi m m' → K [pI q] m') : sX3_count a m K := ⟨ha, kk _ _ h.s0⟩
theorem iv_taken (h : Inv m) (kk : ∀ q m', Qi m m' → K [pI q] m') : sX3_taken m K := kk _ _ (en3 h.s0)
theorem iv_sent {k : Int} (hk : xB k) (h : Inv m) (kk : ∀ q m', Qi m m' → K [pI q] m') : sX3_sent k m K := by
  refine ⟨hk, kk _ _ ?_⟩
  unfold gSent
  split
  · exact en1 h.s0
  · exact h.s0
theorem iv_closed {k : Int} (hk : xB k) (h : Inv m) (kk : ∀ q m', Qi m m' → K [pI q] m') : sX3_closed k m K := by
  refine ⟨hk, kk _ _ ?_⟩
  unfold gClosed
  split
  · exact en3 h.s0
  · exact h.s0
theorem iv_at {k t : Int} (hk : xB k) (ht : xB t) (h : Inv m) (kk : ∀ q m', Qi m m' → K [pI q] m') : sX3_at k t m K := by
  refine ⟨⟨⟨hk, ht⟩, h.five⟩, kk _ _ ?_⟩
  unfold gAt
  split
  · unfold gAt2
    split
    · exact h.s0
    · exact en1 h.s0
  · exact h.s0
theorem iv_stands (h : Inv m) (kk : ∀ q m', Qi m m' → K [pI q] m') : sX3_stands m K := ⟨h.five, kk _ _ (en2 h.s0)⟩
theorem iv_kinds {k : Int} (hk : xB k) (h : Inv m) (kk : ∀ q m', Qi m m' → K [pI q] m') : sX3_kinds k m K := by
  refine ⟨hk, kk _ _ ?_⟩
  unfold gKinds
  split
  · exact h.s0.trans (h.s0.1.cong ⟨by show (0 : Int) ≤ 0 + 1 + 1 + 1 + 1 + 1; decide, by show (0 : Int) + 1 + 1 + 1 + 1 + 1 ≤ 16; decide⟩ rfl rfl rfl rfl)
  · exact h.s0
theorem iv_holds (h : Inv m) (kk : ∀ q m', Qi m m' → K [pI q] m') : sX3_holds m K := ⟨h.mok, kk _ _ (en2 h.s0)⟩
theorem iv_next (h : Inv m) (kk : ∀ q m', Qi m m' → K [pI q] m') : sX3_next m K := by
  refine ⟨h.five, kk _ _ ?_⟩
  unfold gNext gNext0 gNx2
  split
  · exact h.s0
  · exact en1 h.s0
theorem iv_ahead {p : Int} (hp : xB p) (h : Inv m) (kk : ∀ q m', Qi m m' → K [pI q] m') : sX3_ahead p m K := by
  refine ⟨⟨hp, h.five⟩, kk _ _ ?_⟩
  unfold gAhead gAhead0
  split
  · split
    · exact h.s0
    · exact en1 h.s0
  · exact h.s0
theorem slM_ok : ∀ (n : Nat) (r b q : Int) (s : MS), 0 ≤ r → r + n ≤ 4 → cF s (slM n r b q s).2.2 ∧ ∀ x : Int, 0 ≤ x → (x < 20 ∨ 24 ≤ x) → mg (slM n r b q s).2.2 x = mg s x
  | 0, _, _, _, _, _, _ => ⟨cF.same, fun _ _ _ => rfl⟩
  | n + 1, r, b, q, s, h0, h1 => by
    have g : cF s (slS s r) ∧ ∀ x : Int, 0 ≤ x → (x < 20 ∨ 24 ≤ x) → mg (slS s r) x = mg s x := ⟨cF_P.trans cF_P, fun x x0 hx => by unfold slS; rw [mg_ne (by omega) x0 (by omega), mg_ne (by omega) x0 (by omega)]⟩
    rw [slM]
    split
    · exact slM_ok n (r + 1) b q s (by omega) (by omega)
    · split
      · have := slM_ok n (r + 1) r (slBy s r) (slS s r) (by omega) (by omega)
        exact ⟨g.1.trans this.1, fun x x0 hx => (this.2 x x0 hx).trans (g.2 x x0 hx)⟩
      · have := slM_ok n (r + 1) b q (slS s r) (by omega) (by omega)
        exact ⟨g.1.trans this.1, fun x x0 hx => (this.2 x x0 hx).trans (g.2 x x0 hx)⟩
theorem iv_slow (h : Inv m) (kk : ∀ q m', Qi m m' → K [pI q] m') : sX3_slow m K := by
  refine ⟨⟨h.mok, h.five⟩, kk _ _ ?_⟩
  have hz := h.mok
  have g := slM_ok (mg m (0 * 2804 + 0)).toNat 0 (-1) 0 (mS m 0 0) (by decide) (by have := hz.2; have hq : mg m (0 * 2804 + 0) = mg m 0 := rfl; omega)
  unfold gSlow
  generalize slM (mg m (0 * 2804 + 0)).toNat 0 (-1) 0 (mS m 0 0) = p at g ⊢
  have q : Qi m p.2.2 := h.s0.trans (h.s0.1.on0 (h.s0.1.2.2.2.1.of (fun c hc => g.2 _ (by omega) (by omega))) ⟨fun x x0 hx => g.2 x x0 (by omega), g.1.s⟩)
  unfold gSl2
  split
  · exact q
  · exact en2 q
theorem gSpO_ok (f t : Int) (s : MS) : ∀ (n : Nat) (k a b best most : Int), ∃ x y w, (gSpO s f t n k a b best most).2 = mEn (mEn (mEn (mS s 1 0) x) y) w
  | 0, _, _, _, _, _ => ⟨_, _, _, rfl⟩
  | n + 1, k, a, b, best, most => by
    rw [gSpO]
    exact gSpO_ok f t s n _ _ _ _ _
theorem iv_span {f t : Int} (hf : xB f) (ht : xB t) (h : Inv m) (kk : ∀ q m', Qi m m' → K [pI q] m') : sX3_span f t m K := by
  refine ⟨⟨⟨hf, ht⟩, h.six.2⟩, fun _ => kk _ _ h.s0, fun _ => ?_⟩
  obtain ⟨x, y, w, e⟩ := gSpO_ok f t (mS m 0 0) 6 0 0 0 (-1) 0
  rw [e]
  exact kk _ _ (en3 h.s0)
/-- times are laid beside -/
def tF (s s' : MS) : Prop := (∀ k, k ≠ 19 → s'.1 k = s.1 k) ∧ ∀ a, a ≠ 9 → a ≠ 10 → s'.2 a = s.2 a
theorem tF.same {s : MS} : tF s s := ⟨fun _ _ => rfl, fun _ _ _ => rfl⟩
theorem tF.trans {s t u : MS} (h : tF s t) (g : tF t u) : tF s u := ⟨fun k hk => (g.1 k hk).trans (h.1 k hk), fun a p q => (g.2 a p q).trans (h.2 a p q)⟩
theorem tF_9 {s : MS} {g : Nat → Int} : tF s (mA s 9 g) := ⟨fun _ _ => rfl, fun _ p _ => mA_ne p⟩
theorem tF_10 {s : MS} {g : Nat → Int} : tF s (mA s 10 g) := ⟨fun _ _ => rfl, fun _ _ p => mA_ne p⟩
theorem tF_19 {s : MS} {v : Int} : tF s (mS s 19 v) := ⟨fun _ p => mS_ne p, fun _ _ _ => rfl⟩
theorem ltW_f (t : Int) : ∀ (n : Nat) (k : Int) (s : MS), tF s (ltW t n k s).2
  | 0, _, _ => tF.same
  | n + 1, k, s => by
    rw [ltW]
    split
    · exact (tF_9.trans tF_10).trans (ltW_f t n (k - 1) (ltS s k))
    · exact tF.same
theorem ltI_f (s : MS) (i : Int) : tF s (ltI s i) := by
  unfold ltI ltP
  have := ltW_f (iC s i 2) (s.1 19).toNat (s.1 19) s
  generalize ltW (iC s i 2) (s.1 19).toNat (s.1 19) s = p at this ⊢
  exact ((this.trans tF_9).trans tF_10).trans tF_19
theorem ltO_f (key : Int) : ∀ (n : Nat) (i : Int) (s : MS), tF s (ltO key n i s)
  | 0, _, _ => tF.same
  | n + 1, i, s => by
    rw [ltO]
    split
    · exact tF.same
    · split
      · exact (ltI_f s i).trans (ltO_f key n (i + 1) _)
      · exact ltO_f key n (i + 1) s
theorem gLt_f (s : MS) (key : Int) : tF s (gLt s key) := by
  unfold gLt
  exact tF_19.trans (ltO_f key 160 0 _)
theorem Inv.lt {m m' : MS} (h : Inv m) (t : tF m m') : Qi m m' := h.cong (by rw [t.1 1 (by decide)]; exact h.2.2.1) (t.1 4 (by decide)) (t.1 8 (by decide)) (t.2 3 (by decide) (by decide)) (t.2 12 (by decide) (by decide))
theorem iv_parts {k n : Int} (hk : xB k) (hn : xB n) (h : Inv m) (kk : ∀ q m', Qi m m' → K [pI q] m') : sX3_parts k n m K :=
  ⟨⟨⟨hk, hn⟩, h.six.2⟩, fun _ => kk _ _ h.s0, fun _ => kk _ _ (h.s0.trans (h.s0.1.lt (gLt_f _ _)))⟩
theorem baN_f (s : MS) (g : Int) : ∀ (n : Nat) (k a b c d e f : Int), ∃ x y w, (baN s g n k a b c d e f).2 = mEn (mEn (mEn (mS s 1 0) x) y) w
  | 0, _, _, _, _, _, _, _ => ⟨_, _, _, rfl⟩
  | n + 1, k, a, b, c, d, e, f => by
    rw [baN]
    split
    · exact ⟨_, _, _, rfl⟩
    · exact baN_f s g n _ _ _ _ _ _ _
theorem iv_batch {k : Int} (hk : xB k) (h : Inv m) (kk : ∀ q m', Qi m m' → K [pI q] m') : sX3_batch k m K := by
  refine ⟨⟨hk, h.six.2⟩, fun _ => kk _ _ h.s0, fun _ => ?_⟩
  have q := h.s0.trans (h.s0.1.lt (gLt_f (mS m 0 0) k))
  unfold gBa
  generalize gLt (mS m 0 0) k = u at q ⊢
  obtain ⟨x, y, w, e⟩ := baN_f u (mg u (0 * 2804 + 1)) 160 0 (-1) (-1) (-1) 0 0 0
  rw [e]
  exact kk _ _ (en3 q)
theorem iv_undo (h : Inv m) (kk : ∀ q m', Qi m m' → K [pI q] m') : sX3_undo m K := by
  refine ⟨h.2.1, kk _ _ ?_⟩
  unfold gUndo
  split
  · exact h.s0
  · rename_i c
    obtain ⟨a, b, cc, d, e, f⟩ := h
    have o : oD 0 (mS (mS m 0 0) 8 (m.1 8 - 1)) (mCopy (mS (mS m 0 0) 8 (m.1 8 - 1)) (5 + (m.1 8 - 1)) 0) := copy_o (by decide)
    have e8 : (mCopy (mS (mS m 0 0) 8 (m.1 8 - 1)) (5 + (m.1 8 - 1)) 0).1 8 = m.1 8 - 1 := rfl
    refine ⟨⟨a, by show 0 ≤ m.1 8 - 1 ∧ m.1 8 - 1 ≤ 6; omega, cc, ?_, fun i i0 i1 hi => ?_, fun k k0 k1 => ?_⟩, rfl, rfl⟩
    · exact dI.copy (s := mS (mS m 0 0) 8 (m.1 8 - 1)) ((f (m.1 8 - 1) (by omega) (by omega)).cong rfl) (by omega) (by decide)
    · exact dI.other (s := mS (mS m 0 0) 8 (m.1 8 - 1)) ((e i i0 i1 hi).cong rfl) (by omega) (by decide) (by omega) o
    · rw [e8] at k1
      exact dI.other (s := mS (mS m 0 0) 8 (m.1 8 - 1)) ((f k k0 (by omega)).cong rfl) (by omega) (by decide) (by omega) o
theorem iv_keep {i : Int} (hi : xB i) (h : Inv m) (kk : ∀ m', Inv m' → m'.1 4 = m.1 4 → m'.2 12 = (if inB i 0 1 then xup (m.2 12) i.toNat 1 else m.2 12) → K [pI (gKeep m i).1] m') : sX3_keep i m K := by
  refine ⟨hi, ?_⟩
  by_cases c : inB i 0 1
  · have e : gKeep m i = (1, mCopy (mA (mS m 0 0) 12 (xup (m.2 12) i.toNat 1)) 0 (1 + i)) := if_pos c
    have c0 : 0 ≤ i := c.1
    have c1 : i ≤ 1 := c.2
    obtain ⟨a, b, cc, d, f, g⟩ := h
    have o : oD (1 + i) (mA (mS m 0 0) 12 (xup (m.2 12) i.toNat 1)) (mCopy (mA (mS m 0 0) 12 (xup (m.2 12) i.toNat 1)) 0 (1 + i)) := copy_o (by omega)
    have e12 : (mCopy (mA (mS m 0 0) 12 (xup (m.2 12) i.toNat 1)) 0 (1 + i)).2 12 = xup (m.2 12) i.toNat 1 := rfl
    have k2 := kk (mCopy (mA (mS m 0 0) 12 (xup (m.2 12) i.toNat 1)) 0 (1 + i)) (by
      refine ⟨a, b, cc, dI.other (s := mA (mS m 0 0) 12 (xup (m.2 12) i.toNat 1)) (d.cong rfl) (by decide) (by omega) (by omega) o, fun j j0 j1 hj => ?_, fun k k0 k1 => dI.other (s := mA (mS m 0 0) 12 (xup (m.2 12) i.toNat 1)) ((g k k0 k1).cong rfl) (by omega) (by omega) (by omega) o⟩
      by_cases q : j = i
      · subst q
        exact dI.copy (s := mA (mS m 0 0) 12 (xup (m.2 12) j.toNat 1)) (d.cong rfl) (by decide) (by omega)
      · rw [e12] at hj
        have hj2 : m.2 12 j.toNat ≠ 0 := by
          have : xup (m.2 12) i.toNat 1 j.toNat = m.2 12 j.toNat := if_neg (by omega)
          rw [this] at hj
          exact hj
        exact dI.other (s := mA (mS m 0 0) 12 (xup (m.2 12) i.toNat 1)) ((f j j0 j1 hj2).cong rfl) (by omega) (by omega) (by omega) o) rfl (by rw [if_pos c]; rfl)
    rw [e] at k2 ⊢
    exact k2
  · have e : gKeep m i = (0, mS m 0 0) := if_neg c
    have k2 := kk (mS m 0 0) h.s0.1 rfl (by rw [if_neg c]; rfl)
    rw [e] at k2 ⊢
    exact k2
theorem iv_back {i : Int} (hi : xB i) (h : Inv m) (kk : ∀ m', Qi m m' → K [pI (gBack m i).1] m') : sX3_back i m K := by
  refine ⟨hi, kk _ ?_⟩
  unfold gBack
  split
  · rename_i c
    have c0 : 0 ≤ i := c.1.1
    have c1 : i ≤ 1 := c.1.2
    obtain ⟨a, b, cc, d, f, g⟩ := h
    have o : oD 0 (mS m 0 0) (mCopy (mS m 0 0) (1 + i) 0) := copy_o (by decide)
    refine ⟨⟨a, by show (0 : Int) ≤ 0 ∧ (0 : Int) ≤ 6; decide, cc, dI.cong (s := mCopy (mS m 0 0) (1 + i) 0) (dI.copy (s := mS m 0 0) ((f i c0 c1 c.2).cong rfl) (by omega) (by decide)) rfl, fun j j0 j1 hj => ?_, fun k k0 k1 => absurd k1 (by show ¬ k < 0; omega)⟩, rfl, rfl⟩
    exact dI.cong (s := mCopy (mS m 0 0) (1 + i) 0) (dI.other (s := mS m 0 0) ((f j j0 j1 hj).cong rfl) (by omega) (by decide) (by omega) o) rfl
  · exact h.s0
end FM
