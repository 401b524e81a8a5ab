/-! ===== finals, the class's ===== -/
def exS (f : Int → Int) : Nat → Int → Int
  | 0, _ => 0
  | n + 1, i => f i + exS f n (i + 1)
theorem sumI_x (f : Int → Int) : ∀ (n : Nat) (i a : Int), (∀ j, i ≤ j → j < i + n → 0 ≤ f j ∧ f j ≤ 1000000) → 0 ≤ a → a + 1000000 * (n : Int) ≤ 10000000 → sumI f n i a = a + exS f n i
  | 0, i, a, h, a0, a1 => by
    rw [sumI, exS]
    omega
  | n + 1, i, a, h, a0, a1 => by
    have b := h i (by omega) (by omega)
    rw [sumI, exS, wI_id (z := a + f i) ⟨by omega, by omega⟩, sumI_x f n (i + 1) (a + f i) (fun j j0 j1 => h j (by omega) (by omega)) (by omega) (by omega)]
    omega
def sm6 (g : Int → Int) : Int := sumI (fun k => g (36 + k)) 6 0 0
def bd6 (g : Int → Int) : Prop := ∀ k, 0 ≤ k → k < 6 → 0 ≤ g (36 + k) ∧ g (36 + k) < 1000000
theorem sm6_x {g : Int → Int} (h : ∀ k, 0 ≤ k → k < 6 → 0 ≤ g (36 + k) ∧ g (36 + k) ≤ 1000000) : sm6 g = g 36 + g 37 + g 38 + g 39 + g 40 + g 41 := by
  unfold sm6
  rw [sumI_x (fun k => g (36 + k)) 6 0 0 (fun j j0 j1 => h j (by omega) (by omega)) (by decide) (by decide)]
  show 0 + (g 36 + (g 37 + (g 38 + (g 39 + (g 40 + (g 41 + 0)))))) = _
  omega
/-- a session is closed: the cells of a desk -/
def fn1 (g : Int → Int) (r : Row) : Int → Int :=
  up1 (in1 (in1 (in1 (up1 (up1 (up1 (up1 (up1 (up1 (up1 g (84 + 7 * Int.tmod (sm6 g) 40 + 0) (r 0)) (84 + 7 * Int.tmod (sm6 g) 40 + 1) (r 1)) (84 + 7 * Int.tmod (sm6 g) 40 + 2) (r 2)) (84 + 7 * Int.tmod (sm6 g) 40 + 3) (r 3)) (84 + 7 * Int.tmod (sm6 g) 40 + 4) (r 4)) (84 + 7 * Int.tmod (sm6 g) 40 + 5) (r 5)) (84 + 7 * Int.tmod (sm6 g) 40 + 6) (r 6)) (36 + r 0) 1) (42 + r 0) (r 3)) (48 + r 0) (r 4)) (54 + r 0) (max (wI (r 2 - r 1)) (g (54 + r 0)))
def fiW (w : WS) (g : Int → Int) : Prop := w.1 5 = sm6 g ∧ (∀ q c, 0 ≤ q → q < 40 → q < sm6 g → 0 ≤ c → c < 7 → wG w 3 q c = g (84 + 7 * q + c) - (if c = 6 then 1 else 0)) ∧ ∀ k, 0 ≤ k → k < 6 → wG w 5 k 4 = g (36 + k) ∧ wG w 5 k 5 = g (42 + k) ∧ wG w 5 k 6 = g (48 + k) ∧ wG w 5 k 7 = g (54 + k)
theorem fn1_m {g : Int → Int} {r : Row} {q c : Int} (h : 0 ≤ sm6 g) (hr : 0 ≤ r 0 ∧ r 0 < 6) (hq : 0 ≤ q ∧ q < 40) (hc : 0 ≤ c ∧ c < 7) : fn1 g r (84 + 7 * q + c) = if q = Int.tmod (sm6 g) 40 then r c else g (84 + 7 * q + c) := by
  have t := tm40 h
  unfold fn1
  generalize Int.tmod (sm6 g) 40 = p at t
  rw [up1_ne (by omega), in1_ne (by omega), in1_ne (by omega), in1_ne (by omega)]
  by_cases e : q = p
  · subst e
    rw [if_pos rfl]
    have : c = 0 ∨ c = 1 ∨ c = 2 ∨ c = 3 ∨ c = 4 ∨ c = 5 ∨ c = 6 := by omega
    rcases this with rfl | rfl | rfl | rfl | rfl | rfl | rfl
    · rw [up1_ne (by omega), up1_ne (by omega), up1_ne (by omega), up1_ne (by omega), up1_ne (by omega), up1_ne (by omega), up1_eq]
    · rw [up1_ne (by omega), up1_ne (by omega), up1_ne (by omega), up1_ne (by omega), up1_ne (by omega), up1_eq]
    · rw [up1_ne (by omega), up1_ne (by omega), up1_ne (by omega), up1_ne (by omega), up1_eq]
    · rw [up1_ne (by omega), up1_ne (by omega), up1_ne (by omega), up1_eq]
    · rw [up1_ne (by omega), up1_ne (by omega), up1_eq]
    · rw [up1_ne (by omega), up1_eq]
    · rw [up1_eq]
  · rw [if_neg e, up1_ne (by omega), up1_ne (by omega), up1_ne (by omega), up1_ne (by omega), up1_ne (by omega), up1_ne (by omega), up1_ne (by omega)]
theorem fn1_k {g : Int → Int} {r : Row} {k : Int} (h : 0 ≤ sm6 g) (hr : 0 ≤ r 0 ∧ r 0 < 6) (hk : 0 ≤ k ∧ k < 6) : fn1 g r (36 + k) = (if k = r 0 then wI (g (36 + k) + 1) else g (36 + k)) ∧ fn1 g r (42 + k) = (if k = r 0 then wI (g (42 + k) + r 3) else g (42 + k)) ∧ fn1 g r (48 + k) = (if k = r 0 then wI (g (48 + k) + r 4) else g (48 + k)) ∧ fn1 g r (54 + k) = (if k = r 0 then max (wI (r 2 - r 1)) (g (54 + k)) else g (54 + k)) := by
  have t := tm40 h
  unfold fn1
  generalize Int.tmod (sm6 g) 40 = p at t
  by_cases e : k = r 0
  · rw [if_pos e, if_pos e, if_pos e, if_pos e, e]
    refine ⟨?_, ?_, ?_, ?_⟩
    · rw [up1_ne (by omega), in1_ne (by omega), in1_ne (by omega)]
      unfold in1
      rw [up1_eq, up1_ne (by omega), up1_ne (by omega), up1_ne (by omega), up1_ne (by omega), up1_ne (by omega), up1_ne (by omega), up1_ne (by omega)]
    · rw [up1_ne (by omega), in1_ne (by omega)]
      unfold in1
      rw [up1_eq, up1_ne (by omega), up1_ne (by omega), up1_ne (by omega), up1_ne (by omega), up1_ne (by omega), up1_ne (by omega), up1_ne (by omega), up1_ne (by omega)]
    · rw [up1_ne (by omega)]
      unfold in1
      rw [up1_eq, up1_ne (by omega), up1_ne (by omega), up1_ne (by omega), up1_ne (by omega), up1_ne (by omega), up1_ne (by omega), up1_ne (by omega), up1_ne (by omega), up1_ne (by omega)]
    · rw [up1_eq]
  · rw [if_neg e, if_neg e, if_neg e, if_neg e]
    refine ⟨?_, ?_, ?_, ?_⟩
    all_goals rw [up1_ne (by omega), in1_ne (by omega), in1_ne (by omega), in1_ne (by omega), up1_ne (by omega), up1_ne (by omega), up1_ne (by omega), up1_ne (by omega), up1_ne (by omega), up1_ne (by omega), up1_ne (by omega)]
theorem fn1_s {g : Int → Int} {r : Row} (h : bd6 g) (hr : 0 ≤ r 0 ∧ r 0 < 6) : sm6 (fn1 g r) = sm6 g + 1 ∧ 0 ≤ sm6 g ∧ sm6 g < 6000000 := by
  have e := sm6_x (g := g) (fun k k0 k1 => ⟨(h k k0 k1).1, by have := (h k k0 k1).2; omega⟩)
  have b0 := h 0 (by decide) (by decide)
  have b1 := h 1 (by decide) (by decide)
  have b2 := h 2 (by decide) (by decide)
  have b3 := h 3 (by decide) (by decide)
  have b4 := h 4 (by decide) (by decide)
  have b5 := h 5 (by decide) (by decide)
  have b0 : 0 ≤ g 36 ∧ g 36 < 1000000 := b0
  have b1 : 0 ≤ g 37 ∧ g 37 < 1000000 := b1
  have b2 : 0 ≤ g 38 ∧ g 38 < 1000000 := b2
  have b3 : 0 ≤ g 39 ∧ g 39 < 1000000 := b3
  have b4 : 0 ≤ g 40 ∧ g 40 < 1000000 := b4
  have b5 : 0 ≤ g 41 ∧ g 41 < 1000000 := b5
  have s0 : 0 ≤ sm6 g := by omega
  have K : ∀ k, 0 ≤ k → k < 6 → fn1 g r (36 + k) = g (36 + k) + (if k = r 0 then 1 else 0) := fun k k0 k1 => by
    rw [(fn1_k s0 hr ⟨k0, k1⟩).1]
    have := h k k0 k1
    by_cases c : k = r 0
    · rw [if_pos c, if_pos c, wI_id (z := g (36 + k) + 1) ⟨by omega, by omega⟩]
    · rw [if_neg c, if_neg c]
      omega
  have e' := sm6_x (g := fn1 g r) (fun k k0 k1 => by
    have := h k k0 k1
    rw [K k k0 k1]
    by_cases c : k = r 0
    · rw [if_pos c]; omega
    · rw [if_neg c]; omega)
  have k0 : fn1 g r 36 = g 36 + (if 0 = r 0 then 1 else 0) := K 0 (by decide) (by decide)
  have k1 : fn1 g r 37 = g 37 + (if 1 = r 0 then 1 else 0) := K 1 (by decide) (by decide)
  have k2 : fn1 g r 38 = g 38 + (if 2 = r 0 then 1 else 0) := K 2 (by decide) (by decide)
  have k3 : fn1 g r 39 = g 39 + (if 3 = r 0 then 1 else 0) := K 3 (by decide) (by decide)
  have k4 : fn1 g r 40 = g 40 + (if 4 = r 0 then 1 else 0) := K 4 (by decide) (by decide)
  have k5 : fn1 g r 41 = g 41 + (if 5 = r 0 then 1 else 0) := K 5 (by decide) (by decide)
  have : r 0 = 0 ∨ r 0 = 1 ∨ r 0 = 2 ∨ r 0 = 3 ∨ r 0 = 4 ∨ r 0 = 5 := by omega
  refine ⟨?_, s0, by omega⟩
  rw [e', e, k0, k1, k2, k3, k4, k5]
  rcases this with q | q | q | q | q | q <;> rw [q] <;> simp <;> omega
theorem cr3_at {w : WS} {q i r c : Int} (hq : 0 ≤ q ∧ q < 40) (hr : 0 ≤ r ∧ r < 40) (hc : 0 ≤ c ∧ c < 7) : wG (wCR w q i) 3 r c = if r = q then wG w 1 i c else wG w 3 r c := by
  show tg 40 7 (trow 40 7 161 7 (w.2 3).2 (w.2 1).2 q i) r c = if r = q then tg 161 7 (w.2 1).2 i c else tg 40 7 (w.2 3).2 r c
  generalize (w.2 3).2 = g
  generalize (w.2 1).2 = f
  show (if 0 ≤ r ∧ r < 40 ∧ 0 ≤ c ∧ c < 7 then trow 40 7 161 7 g f q i (r * 7 + c).toNat else 0) = if r = q then tg 161 7 f i c else (if 0 ≤ r ∧ r < 40 ∧ 0 ≤ c ∧ c < 7 then g (r * 7 + c).toNat else 0)
  rw [if_pos (show 0 ≤ r ∧ r < 40 ∧ 0 ≤ c ∧ c < 7 by omega), if_pos (show 0 ≤ r ∧ r < 40 ∧ 0 ≤ c ∧ c < 7 by omega)]
  unfold trow
  by_cases e : r = q
  · rw [if_pos e, if_pos (by omega)]
    congr 1
    omega
  · rw [if_neg e, if_neg (by omega)]
theorem a5_at {w : WS} {r c m r' c' : Int} (hr : 0 ≤ r ∧ r < 6) (hc : 0 ≤ c ∧ c < 8) : wG (wA w 5 r c m) 5 r' c' = if r' = r ∧ c' = c then wI (wG w 5 r' c' + m) else wG w 5 r' c' := by
  unfold wA
  rw [p5_at hr hc]
  by_cases e : r' = r ∧ c' = c
  · rw [if_pos e, if_pos e, e.1, e.2]
  · rw [if_neg e, if_neg e]
theorem p5_cg {w w' : WS} {r c v v' : Int} (e : w'.2 5 = w.2 5) (ev : v' = v) : (wP w' 5 r c v').2 5 = (wP w 5 r c v).2 5 := by
  subst ev
  show ((w'.2 5).1, ts (rmT 5) (wdT 5) (w'.2 5).2 r c v') = ((w.2 5).1, ts (rmT 5) (wdT 5) (w.2 5).2 r c v')
  rw [e]
theorem g5_cg {w w' : WS} {r c : Int} (e : w'.2 5 = w.2 5) : wG w' 5 r c = wG w 5 r c := by
  unfold wG
  rw [e]
theorem a5_cg {w w' : WS} {r c m : Int} (e : w'.2 5 = w.2 5) : (wA w' 5 r c m).2 5 = (wA w 5 r c m).2 5 := p5_cg e (by rw [g5_cg e])
theorem dr_5 {w : WS} {i v : Int} : (wDr (wFd w 5 v) 1 i).2 5 = w.2 5 := rfl
theorem cr_5 {w : WS} {q q' i : Int} : (wCR (wRe w 3 q) q' i).2 5 = w.2 5 := rfl
/-- what closing adds to a key's counts -/
def fin5 (w : WS) (i : Int) : WS := wP (wA (wA (wA w 5 (wG w 1 i 0) 4 1) 5 (wG w 1 i 0) 5 (wG w 1 i 3)) 5 (wG w 1 i 0) 6 (wG w 1 i 4)) 5 (wG w 1 i 0) 7 (max (wG (wA (wA (wA w 5 (wG w 1 i 0) 4 1) 5 (wG w 1 i 0) 5 (wG w 1 i 3)) 5 (wG w 1 i 0) 6 (wG w 1 i 4)) 5 (wG w 1 i 0) 7) (wI (wG w 1 i 2 - wG w 1 i 1)))
theorem fin_5 {w : WS} {i : Int} : (wFin w i).2 5 = (fin5 w i).2 5 := by
  unfold wFin fin5
  dsimp only
  have e3 := a5_cg (r := wG w 1 i 0) (c := 6) (m := wG w 1 i 4) (a5_cg (r := wG w 1 i 0) (c := 5) (m := wG w 1 i 3) (a5_cg (r := wG w 1 i 0) (c := 4) (m := 1) (cr_5 (w := w) (q := Int.tmod (w.1 5) 40) (q' := Int.tmod (w.1 5) 40) (i := i))))
  exact dr_5.trans (p5_cg e3 (by rw [g5_cg e3]))
theorem fin_g {w : WS} {i k c : Int} : wG (wFin w i) 5 k c = wG (fin5 w i) 5 k c := g5_cg fin_5
theorem fin_f {w : WS} {i : Int} : (wFin w i).1 5 = wI (w.1 5 + 1) := rfl
theorem fin_3 {w : WS} {i : Int} : (wFin w i).2 3 = (wCR (wRe w 3 (Int.tmod (w.1 5) 40)) (Int.tmod (w.1 5) 40) i).2 3 := rfl
theorem fiW.fin {w : WS} {g : Int → Int} {i : Int} {r : Row} (h : fiW w g) (hr : rwW w i r) (hb : bd6 g) (h0 : 0 ≤ r 0 ∧ r 0 < 6) : fiW (wFin w i) (fn1 g r) := by
  obtain ⟨a, b, c⟩ := h
  obtain ⟨s1, s0, sx⟩ := fn1_s hb h0
  have t := tm40 s0
  have e0 := hr.1 0 (by decide) (by decide)
  have e1 := hr.1 1 (by decide) (by decide)
  have e2 := hr.1 2 (by decide) (by decide)
  have e3 := hr.1 3 (by decide) (by decide)
  have e4 := hr.1 4 (by decide) (by decide)
  refine ⟨?_, fun q j q0 q1 q2 j0 j1 => ?_, fun k k0 k1 => ?_⟩
  · rw [fin_f, s1, a, wI_id (z := sm6 g + 1) ⟨by omega, by omega⟩]
  · rw [s1] at q2
    rw [fn1_m s0 h0 ⟨q0, q1⟩ ⟨j0, j1⟩]
    have e33 : wG (wFin w i) 3 q j = wG (wCR (wRe w 3 (Int.tmod (w.1 5) 40)) (Int.tmod (w.1 5) 40) i) 3 q j := by
      unfold wG
      rw [fin_3]
    rw [e33, a, cr3_at ⟨t.1, t.2.1⟩ ⟨q0, q1⟩ ⟨j0, j1⟩]
    have f1 : wG (wRe w 3 (Int.tmod (sm6 g) 40)) 1 i j = wG w 1 i j := rfl
    have f3 : wG (wRe w 3 (Int.tmod (sm6 g) 40)) 3 q j = wG w 3 q j := rfl
    rw [f1, f3]
    by_cases e : q = Int.tmod (sm6 g) 40
    · rw [if_pos e, if_pos e]
      by_cases d : j = 6
      · subst d
        rw [if_pos rfl]
        exact hr.2
      · rw [if_neg d, hr.1 j j0 (by omega)]
        omega
    · rw [if_neg e, if_neg e]
      exact b q j q0 q1 (by omega) j0 j1
  · obtain ⟨c4, c5, c6, c7⟩ := c k k0 k1
    obtain ⟨f4, f5, f6, f7⟩ := fn1_k s0 h0 ⟨k0, k1⟩ (r := r)
    have key : ∀ j, wG (wFin w i) 5 k j = wG (fin5 w i) 5 k j := fun j => fin_g
    have m7 : ∀ x y : Int, wG (wA (wA (wA w 5 (r 0) 4 1) 5 (r 0) 5 x) 5 (r 0) 6 y) 5 (r 0) 7 = wG w 5 (r 0) 7 := fun x y => by
      rw [a5_at h0 (by decide), if_neg (fun z => absurd z.2 (by decide)), a5_at h0 (by decide), if_neg (fun z => absurd z.2 (by decide)), a5_at h0 (by decide), if_neg (fun z => absurd z.2 (by decide))]
    rw [key, key, key, key]
    unfold fin5
    rw [e0, e1, e2, e3, e4, m7, f4, f5, f6, f7]
    refine ⟨?_, ?_, ?_, ?_⟩
    · rw [p5_at h0 (by decide), if_neg (fun z => absurd z.2 (by decide)), a5_at h0 (by decide), if_neg (fun z => absurd z.2 (by decide)), a5_at h0 (by decide), if_neg (fun z => absurd z.2 (by decide)), a5_at h0 (by decide), c4]
      by_cases e : k = r 0
      · rw [if_pos ⟨e, rfl⟩, if_pos e]
      · rw [if_neg (fun z => e z.1), if_neg e]
    · rw [p5_at h0 (by decide), if_neg (fun z => absurd z.2 (by decide)), a5_at h0 (by decide), if_neg (fun z => absurd z.2 (by decide)), a5_at h0 (by decide), show wG (wA w 5 (r 0) 4 1) 5 k 5 = wG w 5 k 5 by rw [a5_at h0 (by decide), if_neg (fun z => absurd z.2 (by decide))], c5]
      by_cases e : k = r 0
      · rw [if_pos ⟨e, rfl⟩, if_pos e]
      · rw [if_neg (fun z => e z.1), if_neg e]
    · rw [p5_at h0 (by decide), if_neg (fun z => absurd z.2 (by decide)), a5_at h0 (by decide), show wG (wA (wA w 5 (r 0) 4 1) 5 (r 0) 5 (r 3)) 5 k 6 = wG w 5 k 6 by rw [a5_at h0 (by decide), if_neg (fun z => absurd z.2 (by decide)), a5_at h0 (by decide), if_neg (fun z => absurd z.2 (by decide))], c6]
      by_cases e : k = r 0
      · rw [if_pos ⟨e, rfl⟩, if_pos e]
      · rw [if_neg (fun z => e z.1), if_neg e]
    · rw [p5_at h0 (by decide)]
      by_cases e : k = r 0
      · rw [if_pos ⟨e, rfl⟩, if_pos e, ← e, c7]
        omega
      · rw [if_neg (fun z => e z.1), if_neg e, a5_at h0 (by decide), if_neg (fun z => absurd z.2 (by decide)), a5_at h0 (by decide), if_neg (fun z => absurd z.2 (by decide)), a5_at h0 (by decide), if_neg (fun z => absurd z.2 (by decide)), c7]
