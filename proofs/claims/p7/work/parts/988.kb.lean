/-! ===== what always holds of the model ===== -/
theorem dV.of {d d' n b : Int} {s s' : MS} (hV : dV d n b s) (hn : n ≤ 160) (e : ∀ c, ((5 ≤ c ∧ c < 8 ∧ c ≠ 6) ∨ (36 ≤ c ∧ c < 42) ∨ (364 ≤ c ∧ c < 1484)) → mg s' (d' * 2804 + c) = mg s (d * 2804 + c)) : dV d' n b s' := by
  have h5 := hV.1
  refine ⟨by rw [e 5 (by omega)]; exact hV.1, by rw [e 7 (by omega)]; exact hV.2.1, fun k k0 k1 => by rw [e (36 + k) (by omega)]; exact hV.2.2.1 k k0 k1, fun j j0 j1 => ?_, fun hn2 j j0 j1 => ?_⟩
  · rw [e 5 (by omega)] at j1
    rw [row_at, e _ (by omega), ← row_at]
    exact hV.2.2.2.1 j j0 j1
  · rw [e 5 (by omega)] at j1
    rw [row_at, row_at, e _ (by omega), e _ (by omega), ← row_at, ← row_at]
    exact hV.2.2.2.2 hn2 j j0 j1
theorem dI.cong {d : Int} {s s' : MS} (h : dI d s) (e : s'.2 3 = s.2 3) : dI d s' := h.of (fun c _ => mg_cong e _)
theorem oD.same {d : Int} {s : MS} : oD d s s := ⟨fun _ _ _ => rfl, sF.same⟩
theorem oD.trans {d : Int} {s t u : MS} (h : oD d s t) (g : oD d t u) : oD d s u := ⟨fun x x0 hx => (g.1 x x0 hx).trans (h.1 x x0 hx), h.2.trans g.2⟩
theorem dI.other {d d' : Int} {s s' : MS} (h : dI d s) (hd : 0 ≤ d) (hd' : 0 ≤ d') (hne : d ≠ d') (o : oD d' s s') : dI d s' := h.of (fun c hc => o.1 _ (by omega) (by omega))
theorem copy_at {s : MS} {f t c : Int} (hf : 0 ≤ f) (ht : 0 ≤ t) (h0 : 0 ≤ c) (h1 : c < 2804) : mg (mCopy s f t) (t * 2804 + c) = mg s (f * 2804 + c) := by
  rw [mCopy, mg_mA, if_pos (by constructor <;> omega)]
  show s.2 3 _ = s.2 3 _
  rw [show (t * 2804 + c).toNat - (t * 2804).toNat + (f * 2804).toNat = (f * 2804 + c).toNat by omega]
theorem copy_ne {s : MS} {f t x : Int} (ht : 0 ≤ t) (hx : 0 ≤ x) (h : x < t * 2804 ∨ t * 2804 + 2804 ≤ x) : mg (mCopy s f t) x = mg s x := by
  rw [mCopy, mg_mA, if_neg (fun q => by omega)]
  rfl
theorem copy_o {s : MS} {f t : Int} (ht : 0 ≤ t) : oD t s (mCopy s f t) := ⟨fun x x0 hx => copy_ne ht x0 hx, cF_A.s⟩
theorem dI.copy {s : MS} {f t : Int} (h : dI f s) (hf : 0 ≤ f) (ht : 0 ≤ t) : dI t (mCopy s f t) := h.of (fun c hc => copy_at hf ht (by omega) (by omega))
/-- what always holds -/
def Inv (m : MS) : Prop := (0 ≤ m.1 4 ∧ m.1 4 ≤ 80) ∧ (0 ≤ m.1 8 ∧ m.1 8 ≤ 6) ∧ (0 ≤ m.1 1 ∧ m.1 1 ≤ 16) ∧ dI 0 m ∧ (∀ i : Int, 0 ≤ i → i ≤ 1 → m.2 12 i.toNat ≠ 0 → dI (1 + i) m) ∧ ∀ k : Int, 0 ≤ k → k < m.1 8 → dI (5 + k) m
/-- kept, and the text's length and the kept flags with it -/
def Qi (m m' : MS) : Prop := Inv m' ∧ m'.1 4 = m.1 4 ∧ m'.2 12 = m.2 12
theorem Qi.trans {m n o : MS} (h : Qi m n) (g : Qi n o) : Qi m o := ⟨g.1, g.2.1.trans h.2.1, g.2.2.trans h.2.2⟩
theorem Inv.at {m m' : MS} (h : Inv m) (h1 : 0 ≤ m'.1 1 ∧ m'.1 1 ≤ 16) (e4 : m'.1 4 = m.1 4) (e8 : m'.1 8 = m.1 8) (e12 : m'.2 12 = m.2 12) (d0 : dI 0 m') (o : ∀ x : Int, (2804 ≤ x ∧ x < 8412) ∨ 14020 ≤ x → mg m' x = mg m x) : Qi m m' := by
  obtain ⟨a, b, -, -, e, f⟩ := h
  refine ⟨⟨by rw [e4]; exact a, by rw [e8]; exact b, h1, d0, fun i i0 i1 hi => ?_, fun k k0 k1 => ?_⟩, e4, e12⟩
  · rw [e12] at hi
    exact (e i i0 i1 hi).of (fun c hc => o _ (by omega))
  · rw [e8] at k1
    exact (f k k0 k1).of (fun c hc => o _ (by omega))
theorem Inv.cong {m m' : MS} (h : Inv m) (h1 : 0 ≤ m'.1 1 ∧ m'.1 1 ≤ 16) (e4 : m'.1 4 = m.1 4) (e8 : m'.1 8 = m.1 8) (e3 : m'.2 3 = m.2 3) (e12 : m'.2 12 = m.2 12) : Qi m m' := h.at h1 e4 e8 e12 (h.2.2.2.1.cong e3) (fun x _ => mg_cong e3 x)
theorem Inv.self {m : MS} (h : Inv m) : Qi m m := ⟨h, rfl, rfl⟩
theorem Inv.s0 {m : MS} (h : Inv m) {v : Int} : Qi m (mS m 0 v) := h.cong h.2.2.1 rfl rfl rfl rfl
/-- on the first desk alone -/
theorem Inv.on0 {m m' : MS} (h : Inv m) (d0 : dI 0 m') (o : oD 0 m m') : Qi m m' :=
  h.at (by rw [o.2.1 1 (by decide) (by decide) (by decide)]; exact h.2.2.1) (o.2.1 4 (by decide) (by decide) (by decide)) (o.2.1 8 (by decide) (by decide) (by decide)) (o.2.2 12 (by decide) (by decide)) d0 (fun x hx => o.1 x (by omega) (by omega))
theorem Inv.on3 {m m' : MS} (h : Inv m) (o : oD 3 m m') : Qi m m' :=
  h.at (by rw [o.2.1 1 (by decide) (by decide) (by decide)]; exact h.2.2.1) (o.2.1 4 (by decide) (by decide) (by decide)) (o.2.1 8 (by decide) (by decide) (by decide)) (o.2.2 12 (by decide) (by decide)) (h.2.2.2.1.other (by decide) (by decide) (by decide) o) (fun x hx => o.1 x (by omega) (by omega))
theorem Inv.on4 {m m' : MS} (h : Inv m) (o : oD 4 m m') : Qi m m' :=
  h.at (by rw [o.2.1 1 (by decide) (by decide) (by decide)]; exact h.2.2.1) (o.2.1 4 (by decide) (by decide) (by decide)) (o.2.1 8 (by decide) (by decide) (by decide)) (o.2.2 12 (by decide) (by decide)) (h.2.2.2.1.other (by decide) (by decide) (by decide) o) (fun x hx => o.1 x (by omega) (by omega))
/-- before a change: the state laid by -/
theorem Inv.pre {m : MS} (h : Inv m) : Qi m (mCopy (mS m 0 0) 0 3) ∧ dI 3 (mCopy (mS m 0 0) 0 3) :=
  ⟨h.s0.trans (h.s0.1.on3 (copy_o (by decide))), (h.s0.1.2.2.2.1).copy (by decide) (by decide)⟩
theorem lyL_f : ∀ (m : Nat) (k : Int) (s : MS), (lyL m k s).1 = s.1 ∧ ∀ a, a ≠ 3 → (lyL m k s).2 a = s.2 a
  | 0, _, _ => ⟨rfl, fun _ _ => rfl⟩
  | m + 1, k, s => by
    rw [lyL]
    obtain ⟨a, b⟩ := lyL_f m (k + 1) (mCopy s (5 + k + 1) (5 + k))
    exact ⟨a, fun q hq => (b q hq).trans (mA_ne hq)⟩
theorem lyL_c : ∀ (m : Nat) (k : Int) (s : MS), 0 ≤ k → (∀ x : Int, 0 ≤ x → (x < (5 + k) * 2804 ∨ (5 + k + m) * 2804 ≤ x) → mg (lyL m k s) x = mg s x) ∧ ∀ q c : Int, k ≤ q → q < k + m → 0 ≤ c → c < 2804 → mg (lyL m k s) ((5 + q) * 2804 + c) = mg s ((5 + q + 1) * 2804 + c)
  | 0, k, s, h0 => ⟨fun _ _ _ => rfl, fun q c h1 h2 => absurd h2 (by omega)⟩
  | m + 1, k, s, h0 => by
    rw [lyL]
    obtain ⟨a, b⟩ := lyL_c m (k + 1) (mCopy s (5 + k + 1) (5 + k)) (by omega)
    refine ⟨fun x x0 hx => ?_, fun q c h1 h2 h3 h4 => ?_⟩
    · rw [a x x0 (by omega)]
      exact copy_ne (by omega) x0 (by omega)
    · by_cases e : q = k
      · subst e
        rw [a _ (by omega) (by omega)]
        exact copy_at (by omega) (by omega) h3 h4
      · rw [b q c (by omega) (by omega) h3 h4]
        exact copy_ne (by omega) (by omega) (by omega)
theorem lays2_ok {m : MS} (h : Inv m) (h8 : m.1 8 ≤ 5) (h3 : dI 3 m) : Qi m (mLays2 m) := by
  obtain ⟨a, b, c, d, e, f⟩ := h
  have o : oD (5 + m.1 8) m (mCopy m 3 (5 + m.1 8)) := copy_o (by omega)
  have s1 : (mLays2 m).2 3 = (mCopy m 3 (5 + m.1 8)).2 3 := rfl
  have e8 : (mLays2 m).1 8 = m.1 8 + 1 := rfl
  refine ⟨⟨a, by rw [e8]; omega, c, (d.other (by omega) (by omega) (by omega) o).cong s1, fun i i0 i1 hi => ((e i i0 i1 hi).other (by omega) (by omega) (by omega) o).cong s1, fun k k0 k1 => ?_⟩, rfl, rfl⟩
  rw [e8] at k1
  by_cases q : k = m.1 8
  · subst q
    exact (h3.copy (by decide) (by omega)).cong s1
  · exact ((f k k0 (by omega)).other (by omega) (by omega) (by omega) o).cong s1
theorem lays_ok {m : MS} (h : Inv m) (h3 : dI 3 m) : Qi m (mLays m) := by
  unfold mLays
  split
  · rename_i h8
    obtain ⟨a, b, c, d, e, f⟩ := h
    obtain ⟨g1, g2⟩ := lyL_f 5 0 m
    obtain ⟨g3, g4⟩ := lyL_c 5 0 m (by decide)
    have z12 : (mS (lyL 5 0 m) 8 (m.1 8 - 1)).2 12 = m.2 12 := g2 12 (by decide)
    have z8 : (mS (lyL 5 0 m) 8 (m.1 8 - 1)).1 8 = 5 := by show m.1 8 - 1 = 5; omega
    have z4 : (mS (lyL 5 0 m) 8 (m.1 8 - 1)).1 4 = m.1 4 := by show (lyL 5 0 m).1 4 = _; rw [g1]
    have z1 : (mS (lyL 5 0 m) 8 (m.1 8 - 1)).1 1 = m.1 1 := by show (lyL 5 0 m).1 1 = _; rw [g1]
    have zc : ∀ x, mg (mS (lyL 5 0 m) 8 (m.1 8 - 1)) x = mg (lyL 5 0 m) x := fun _ => rfl
    generalize mS (lyL 5 0 m) 8 (m.1 8 - 1) = u at z12 z8 z4 z1 zc ⊢
    have I : Inv u := by
      refine ⟨by rw [z4]; exact a, by rw [z8]; omega, by rw [z1]; exact c, d.of (fun q hq => by rw [zc]; exact g3 _ (by omega) (by omega)), fun i i0 i1 hi => ?_, fun k k0 k1 => ?_⟩
      · rw [z12] at hi
        exact (e i i0 i1 hi).of (fun q hq => by rw [zc]; exact g3 _ (by omega) (by omega))
      · rw [z8] at k1
        have := f (k + 1) (by omega) (by omega)
        rw [show 5 + (k + 1) = 5 + k + 1 by omega] at this
        exact this.of (fun q hq => by rw [zc]; exact g4 k q k0 (by omega) (by omega) (by omega))
    have r := lays2_ok I (by omega) (h3.of (fun q hq => by rw [zc]; exact g3 _ (by omega) (by omega)))
    exact ⟨r.1, r.2.1.trans z4, r.2.2.trans z12⟩
  · exact lays2_ok h (by have := h.2.1; omega) h3
theorem stL2_f (d : Int) (hd : 0 ≤ d) : ∀ (m : Nat) (k : Int) (s : MS), 0 ≤ k → cF s (stL2 d m k s) ∧ ∀ x, 0 ≤ x → (x < d * 2804 + 54 + k ∨ d * 2804 + 54 + k + m ≤ x) → mg (stL2 d m k s) x = mg s x
  | 0, _, _, _ => ⟨cF.same, fun _ _ _ => rfl⟩
  | m + 1, k, s, hk => by
    rw [stL2]
    obtain ⟨a, b⟩ := stL2_f d hd m (k + 1) (mP s (d * 2804 + 54 + k) (-1)) (by omega)
    exact ⟨cF_P.trans a, fun x x0 hx => by rw [b x x0 (by omega), mg_ne (by omega) x0 (by omega)]⟩
theorem stL3_f (d : Int) (hd : 0 ≤ d) : ∀ (m : Nat) (k : Int) (s : MS), 0 ≤ k → cF s (stL3 d m k s) ∧ ∀ x, 0 ≤ x → (x < d * 2804 + 16 + k ∨ d * 2804 + 16 + k + m ≤ x) → mg (stL3 d m k s) x = mg s x
  | 0, _, _, _ => ⟨cF.same, fun _ _ _ => rfl⟩
  | m + 1, k, s, hk => by
    rw [stL3]
    obtain ⟨a, b⟩ := stL3_f d hd m (k + 1) (mP s (d * 2804 + 16 + k) 20) (by omega)
    exact ⟨cF_P.trans a, fun x x0 hx => by rw [b x x0 (by omega), mg_ne (by omega) x0 (by omega)]⟩
theorem starts_ok {s : MS} {d n g l e : Int} (hd : 0 ≤ d) (hn : 1 ≤ n ∧ n ≤ 4) : dI d (mStarts s d n g l e) ∧ oD d s (mStarts s d n g l e) ∧ mg (mStarts s d n g l e) (d * 2804 + 6) = 0 := by
  have z1 : ∀ x, 0 ≤ x → (x < d * 2804 ∨ d * 2804 + 2804 ≤ x) → mg (mZero s d) x = mg s x := fun x x0 hx => by
    rw [mZero, mg_mA, if_neg (fun q => by omega)]
    rfl
  have z2 : ∀ c, 0 ≤ c → c < 2804 → mg (mZero s d) (d * 2804 + c) = 0 := fun c c0 c1 => by
    rw [mZero, mg_mA, if_pos (by constructor <;> omega)]
  have z3 : cF s (mZero s d) := cF_A
  unfold mStarts mStart4
  generalize mZero s d = s1 at z1 z2 z3 ⊢
  obtain ⟨a1, a2⟩ := stL2_f d hd 6 0 s1 (by decide)
  generalize stL2 d 6 0 s1 = s2 at a1 a2 ⊢
  obtain ⟨b1, b2⟩ := stL3_f d hd 4 0 s2 (by decide)
  generalize stL3 d 4 0 s2 = s3 at b1 b2 ⊢
  have w : ∀ x, 0 ≤ x → (x < d * 2804 ∨ d * 2804 + 4 ≤ x) → mg (mP (mP (mP (mP s3 (d * 2804 + 0) n) (d * 2804 + 1) g) (d * 2804 + 2) l) (d * 2804 + 3) e) x = mg s3 x := fun x x0 hx => by
    rw [mg_ne (by omega) x0 (by omega), mg_ne (by omega) x0 (by omega), mg_ne (by omega) x0 (by omega), mg_ne (by omega) x0 (by omega)]
  have w0 : mg (mP (mP (mP (mP s3 (d * 2804 + 0) n) (d * 2804 + 1) g) (d * 2804 + 2) l) (d * 2804 + 3) e) (d * 2804 + 0) = n := by
    rw [mg_ne (by omega) (by omega) (by omega), mg_ne (by omega) (by omega) (by omega), mg_ne (by omega) (by omega) (by omega), mg_eq]
  have wf : cF s3 (mP (mP (mP (mP s3 (d * 2804 + 0) n) (d * 2804 + 1) g) (d * 2804 + 2) l) (d * 2804 + 3) e) := ((cF_P.trans cF_P).trans cF_P).trans cF_P
  generalize mP (mP (mP (mP s3 (d * 2804 + 0) n) (d * 2804 + 1) g) (d * 2804 + 2) l) (d * 2804 + 3) e = s4 at w w0 wf ⊢
  have v : ∀ c, (4 ≤ c ∧ c < 16) ∨ (20 ≤ c ∧ c < 54) ∨ (60 ≤ c ∧ c < 2804) → mg s4 (d * 2804 + c) = 0 := fun c hc => by
    rw [w _ (by omega) (by omega), b2 _ (by omega) (by omega), a2 _ (by omega) (by omega), z2 c (by omega) (by omega)]
  refine ⟨⟨by rw [w0]; exact hn, by rw [v 6 (by omega)]; omega, ?_, fun i i0 i1 => ?_⟩, ⟨fun x x0 hx => ?_, (((z3.trans a1).trans b1).trans wf).s⟩, v 6 (by omega)⟩
  · rw [v 6 (by omega)]
    exact ⟨by rw [v 5 (by omega)]; omega, by rw [v 7 (by omega)]; omega, fun k k0 k1 => by rw [v (36 + k) (by omega)]; omega, fun j j0 j1 => by rw [v 5 (by omega)] at j1; omega, fun _ j j0 j1 => by rw [v 5 (by omega)] at j1; omega⟩
  · rw [v 6 (by omega)] at i1
    omega
  · rw [w x x0 (by omega), b2 x x0 (by omega), a2 x x0 (by omega), z1 x x0 hx]
