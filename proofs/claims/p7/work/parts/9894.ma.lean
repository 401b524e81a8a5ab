/-! ===== sources and inputs: what melting and rising leave alone in the class ===== -/
def wF4 (w w' : WS) : Prop := (∀ k, k ≠ 4 → k ≠ 5 → k ≠ 9 → w'.1 k = w.1 k) ∧ w'.2 0 = w.2 0 ∧ w'.2 4 = w.2 4
theorem wF4.same {w : WS} : wF4 w w := ⟨fun _ _ _ _ => rfl, rfl, rfl⟩
theorem wF4.trans {a b c : WS} (h : wF4 a b) (g : wF4 b c) : wF4 a c := ⟨fun k p q r => (g.1 k p q r).trans (h.1 k p q r), g.2.1.trans h.2.1, g.2.2.trans h.2.2⟩
theorem wF4_T {w : WS} {t : Nat} {b : TS} (h0 : Nat.beq 0 t = false) (h4 : Nat.beq 4 t = false) : wF4 w (setT w t b) := by
  refine ⟨fun _ _ _ _ => rfl, ?_, ?_⟩
  · show (bif Nat.beq 0 t then b else w.2 0) = w.2 0
    rw [h0]; rfl
  · show (bif Nat.beq 4 t then b else w.2 4) = w.2 4
    rw [h4]; rfl
theorem wF4_F {w : WS} {k : Nat} {v : Int} (h : k = 4 ∨ k = 5 ∨ k = 9) : wF4 w (wFd w k v) := by
  refine ⟨fun j p q r => ?_, rfl, rfl⟩
  show (bif Nat.beq j k then v else w.1 j) = w.1 j
  have : Nat.beq j k = false := by
    cases e : Nat.beq j k with
    | false => rfl
    | true => exact absurd (Nat.eq_of_beq_eq_true e) (by omega)
  rw [this]; rfl
theorem wF4_Send {w : WS} {k i : Int} : wF4 w (wSend w k i) :=
  ((((((((wF4_T rfl rfl).trans (wF4_T rfl rfl)).trans (wF4_T rfl rfl)).trans (wF4_T rfl rfl)).trans (wF4_T rfl rfl)).trans (wF4_T rfl rfl)).trans (wF4_T rfl rfl)).trans (wF4_T rfl rfl)).trans (wF4_F (Or.inl rfl))
theorem wF4_Take {w : WS} {i : Int} : wF4 w (wTake w i) := by
  unfold wTake
  split
  · exact wF4_Send.trans (wF4_T rfl rfl)
  · exact wF4.same
theorem wF4_Ann {w : WS} {k i : Int} : wF4 w (wAnn w k i) := wF4_Send.trans (wF4_T rfl rfl)
theorem wF4_Swallow {w : WS} {i : Int} : wF4 w (wSwallow w i) :=
  (((((wF4_T rfl rfl).trans (wF4_T rfl rfl)).trans (wF4_T rfl rfl)).trans (wF4_T rfl rfl)).trans (wF4_T rfl rfl)).trans (wF4_T rfl rfl)
theorem wF4_Fin {w : WS} {i : Int} : wF4 w (wFin w i) :=
  (((((((wF4_T rfl rfl).trans (wF4_T rfl rfl)).trans (wF4_T rfl rfl)).trans (wF4_T rfl rfl)).trans (wF4_T rfl rfl)).trans (wF4_T rfl rfl)).trans (wF4_F (Or.inr (Or.inl rfl)))).trans (wF4_T rfl rfl)
theorem wF4_takeL : ∀ (n : Nat) (i : Int) (w : WS), wF4 w (takeL n i w)
  | 0, _, _ => wF4.same
  | n + 1, i, w => wF4_Take.trans (wF4_takeL n (i + 1) _)
theorem wF4_swL (p : Int) : ∀ (n : Nat) (w : WS), wF4 w (swL p n w)
  | 0, _ => wF4.same
  | n + 1, w => wF4_Swallow.trans (wF4_swL p n _)
theorem wF4_MeltE {w : WS} {p m : Int} : wF4 w (wMeltE w p m) := by
  have key : ∀ x : WS, wF4 w x → wF4 w (if 0 ≤ wKind x p then wAnn x (wKind x p) p else x) := by
    intro x hx
    split
    · exact hx.trans wF4_Ann
    · exact hx
  exact key _ (wF4_F (Or.inr (Or.inr rfl)))
theorem wF4_Row {w : WS} {p k t v : Int} : wF4 w (wRow w p k t v) :=
  (((((((wF4_T rfl rfl).trans (wF4_T rfl rfl)).trans (wF4_T rfl rfl)).trans (wF4_T rfl rfl)).trans (wF4_T rfl rfl)).trans (wF4_T rfl rfl)).trans (wF4_T rfl rfl)).trans (wF4_T rfl rfl)
theorem wF4_Melt {w : WS} {k t v : Int} : wF4 w (wMelt w k t v) := by
  unfold wMelt
  refine wF4.trans (wF4_takeL (wMany w (wFirst w k t) k t).toNat (wPl w k t) w) ?_
  unfold wMelt2
  split
  · exact (wF4_Row.trans (wF4_swL _ _ _)).trans wF4_MeltE
  · exact wF4.same
theorem wF4_Step {w : WS} {be i : Int} : wF4 w (wStep w be i) := by
  have key : ∀ x : WS, wF4 x (if wOver x i (x.1 3) then wFin x i else x) := by
    intro x
    split
    · exact wF4_Fin
    · exact wF4.same
  refine wF4.trans ?_ (key _)
  split
  · exact wF4.same
  · exact wF4_Take.trans wF4_Ann
theorem wF4_riseL (be : Int) : ∀ (n : Nat) (pa : Int) (w : WS), wF4 w (riseL be n pa w)
  | 0, _, _ => wF4.same
  | n + 1, pa, w => by
    rw [riseL]
    split
    · exact wF4.same
    · exact wF4_Step.trans (wF4_riseL be n _ _)
/-! ===== a desk's cells as a row of numbers ===== -/
def up1 (g : Int → Int) (c v : Int) : Int → Int := fun x => if x = c then v else g x
def in1 (g : Int → Int) (c v : Int) : Int → Int := up1 g c (wI (g c + v))
theorem up1_eq {g : Int → Int} {c v : Int} : up1 g c v c = v := if_pos rfl
theorem up1_ne {g : Int → Int} {c v x : Int} (h : x ≠ c) : up1 g c v x = g x := if_neg h
theorem up1_id (g : Int → Int) (c : Int) : up1 g c (g c) = g := by
  funext x
  unfold up1
  split
  · rename_i h; rw [h]
  · rfl
theorem in1_comm {g : Int → Int} {x y a b : Int} (h : x ≠ y) : in1 (in1 g x a) y b = in1 (in1 g y b) x a := by
  funext z
  unfold in1
  rw [up1_ne (c := x) (x := y) (fun e => h e.symm), up1_ne (c := y) (x := x) h]
  by_cases c1 : z = x
  · subst c1
    rw [up1_ne h, up1_eq, up1_eq]
  · by_cases c2 : z = y
    · subst c2
      rw [up1_eq, up1_ne c1, up1_eq]
    · rw [up1_ne c2, up1_ne c1, up1_ne c1, up1_ne c2]
def hw1 (g : Int → Int) (t : Int) : Int := if t < wI (g 4 - g 2) then 2 else if t < g 4 then 1 else 0
def lm1 (g : Int → Int) : Nat → Int → Int → Int
  | 0, _, l => l
  | n + 1, r, l => lm1 g n (r + 1) (if g (20 + r) = 0 ∧ (l < 0 ∨ g (12 + r) < l) then g (12 + r) else l)
def ls1 (g : Int → Int) : Int := lm1 g (g 0).toNat 0 (-1)
def ri1 (g : Int → Int) : Int → Int := up1 g 4 (max (g 4) (ls1 g))
def ra1 (g : Int → Int) (r t : Int) : Int → Int := up1 g (12 + r) (max (g (12 + r)) t)
def fa1 (g : Int → Int) (h r : Int) : Int → Int := if h = 2 then in1 (in1 g 10 1) (28 + r) 1 else in1 (in1 g 8 1) 9 h
def pE1 (g : Int → Int) (t r : Int) : Int → Int :=
  let g3 := up1 (fa1 (in1 g (24 + r) 1) (hw1 g t) r) (20 + r) 0
  ri1 (ra1 g3 r (wI (t - g3 (16 + r))))
def pM1 (g : Int → Int) (t r : Int) : Int → Int := ri1 (up1 g (12 + r) t)
def pI1 (g : Int → Int) (r : Int) : Int → Int := ri1 (up1 g (20 + r) 1)
/-- an input noted -/
def nt1 (g : Int → Int) (a r t k v b : Int) : Int → Int :=
  in1 (up1 (up1 (up1 (up1 (up1 (up1 g (1844 + 6 * g 6 + 0) a) (1844 + 6 * g 6 + 1) r) (1844 + 6 * g 6 + 2) t) (1844 + 6 * g 6 + 3) k) (1844 + 6 * g 6 + 4) v) (1844 + 6 * g 6 + 5) b) 6 1
theorem lm1_cong {g g' : Int → Int} : ∀ (n : Nat) (r l : Int), 0 ≤ r → r + n ≤ 4 → (∀ c, (12 ≤ c ∧ c < 16) ∨ (20 ≤ c ∧ c < 24) → g' c = g c) → lm1 g' n r l = lm1 g n r l
  | 0, _, _, _, _, _ => rfl
  | n + 1, r, l, h0, h1, e => by
    rw [lm1, lm1, e (20 + r) (by omega), e (12 + r) (by omega)]
    exact lm1_cong n (r + 1) _ (by omega) (by omega) e
/-! ===== the class's sources, and those of a desk ===== -/
def rS (w : WS) (g : Int → Int) : Prop := (w.1 0 = g 1 ∧ w.1 1 = g 2 ∧ w.1 2 = g 3 ∧ w.1 3 = g 4) ∧ (w.1 6 = g 8 ∧ w.1 7 = g 9 ∧ w.1 8 = g 10) ∧ (wZ w 0 = g 0 ∧ 1 ≤ g 0 ∧ g 0 ≤ 4) ∧ ∀ r c, 0 ≤ r → r < g 0 → 0 ≤ c → c < 5 → wG w 0 r c = g (12 + 4 * c + r)
theorem rS.F {w w' : WS} {g : Int → Int} (h : rS w g) (f : wF4 w w') : rS w' g := by
  obtain ⟨⟨a0, a1, a2, a3⟩, ⟨b6, b7, b8⟩, ⟨z, z1, z2⟩, s⟩ := h
  refine ⟨⟨?_, ?_, ?_, ?_⟩, ⟨?_, ?_, ?_⟩, ⟨?_, z1, z2⟩, fun r c r0 r1 c0 c1 => ?_⟩
  · rw [f.1 0 (by decide) (by decide) (by decide)]; exact a0
  · rw [f.1 1 (by decide) (by decide) (by decide)]; exact a1
  · rw [f.1 2 (by decide) (by decide) (by decide)]; exact a2
  · rw [f.1 3 (by decide) (by decide) (by decide)]; exact a3
  · rw [f.1 6 (by decide) (by decide) (by decide)]; exact b6
  · rw [f.1 7 (by decide) (by decide) (by decide)]; exact b7
  · rw [f.1 8 (by decide) (by decide) (by decide)]; exact b8
  · unfold wZ at z ⊢; rw [f.2.1]; exact z
  · have := s r c r0 r1 c0 c1
    unfold wG at this ⊢; rw [f.2.1]; exact this
theorem rS.cong {w : WS} {g g' : Int → Int} (h : rS w g) (e : ∀ c, 0 ≤ c → c < 32 → c ≠ 5 → c ≠ 6 → c ≠ 7 → c ≠ 11 → g' c = g c) : rS w g' := by
  obtain ⟨⟨a0, a1, a2, a3⟩, ⟨b6, b7, b8⟩, ⟨z, z1, z2⟩, s⟩ := h
  have e0 := e 0 (by decide) (by decide) (by decide) (by decide) (by decide) (by decide)
  refine ⟨⟨?_, ?_, ?_, ?_⟩, ⟨?_, ?_, ?_⟩, ⟨by rw [e0]; exact z, by rw [e0]; exact z1, by rw [e0]; exact z2⟩, fun r c r0 r1 c0 c1 => ?_⟩
  · rw [e 1 (by decide) (by decide) (by decide) (by decide) (by decide) (by decide)]; exact a0
  · rw [e 2 (by decide) (by decide) (by decide) (by decide) (by decide) (by decide)]; exact a1
  · rw [e 3 (by decide) (by decide) (by decide) (by decide) (by decide) (by decide)]; exact a2
  · rw [e 4 (by decide) (by decide) (by decide) (by decide) (by decide) (by decide)]; exact a3
  · rw [e 8 (by decide) (by decide) (by decide) (by decide) (by decide) (by decide)]; exact b6
  · rw [e 9 (by decide) (by decide) (by decide) (by decide) (by decide) (by decide)]; exact b7
  · rw [e 10 (by decide) (by decide) (by decide) (by decide) (by decide) (by decide)]; exact b8
  · rw [e0] at r1
    rw [e _ (by omega) (by omega) (by omega) (by omega) (by omega) (by omega)]
    exact s r c r0 r1 c0 c1
theorem p0_eq {w : WS} {r c v : Int} (hr : 0 ≤ r ∧ r < 4) (hc : 0 ≤ c ∧ c < 5) : wG (wP w 0 r c v) 0 r c = v := by
  show tg 4 5 (ts 4 5 (w.2 0).2 r c v) r c = v
  unfold tg ts
  rw [if_pos ⟨hr.1, hr.2, hc.1, hc.2⟩, if_pos ⟨hr.1, hr.2, hc.1, hc.2⟩]
  exact if_pos rfl
theorem p0_ne {w : WS} {r c v r' c' : Int} (h : r' ≠ r ∨ c' ≠ c) : wG (wP w 0 r c v) 0 r' c' = wG w 0 r' c' := by
  show tg 4 5 (ts 4 5 (w.2 0).2 r c v) r' c' = tg 4 5 (w.2 0).2 r' c'
  unfold tg ts
  split
  · split
    · exact if_neg (by omega)
    · rfl
  · rfl
theorem rS.src {w : WS} {g : Int → Int} {r c v : Int} (h : rS w g) (r0 : 0 ≤ r) (r1 : r < g 0) (c0 : 0 ≤ c) (c1 : c < 5) : rS (wP w 0 r c v) (up1 g (12 + 4 * c + r) v) := by
  obtain ⟨⟨a0, a1, a2, a3⟩, ⟨b6, b7, b8⟩, ⟨z, z1, z2⟩, s⟩ := h
  have e : ∀ x, x < 12 → up1 g (12 + 4 * c + r) v x = g x := fun x hx => up1_ne (by omega)
  refine ⟨⟨?_, ?_, ?_, ?_⟩, ⟨?_, ?_, ?_⟩, ⟨by rw [e 0 (by decide)]; exact z, by rw [e 0 (by decide)]; exact z1, by rw [e 0 (by decide)]; exact z2⟩, fun r' c' p0 p1 q0 q1 => ?_⟩
  · rw [e 1 (by decide)]; exact a0
  · rw [e 2 (by decide)]; exact a1
  · rw [e 3 (by decide)]; exact a2
  · rw [e 4 (by decide)]; exact a3
  · rw [e 8 (by decide)]; exact b6
  · rw [e 9 (by decide)]; exact b7
  · rw [e 10 (by decide)]; exact b8
  · rw [e 0 (by decide)] at p1
    by_cases q : r' = r ∧ c' = c
    · obtain ⟨rfl, rfl⟩ := q
      rw [p0_eq ⟨r0, by omega⟩ ⟨c0, c1⟩, up1_eq]
    · rw [p0_ne (by omega), up1_ne (by omega)]
      exact s r' c' p0 p1 q0 q1
theorem rS.srcA {w : WS} {g : Int → Int} {r c v : Int} (h : rS w g) (r0 : 0 ≤ r) (r1 : r < g 0) (c0 : 0 ≤ c) (c1 : c < 5) : rS (wA w 0 r c v) (in1 g (12 + 4 * c + r) v) := by
  have := h.src (v := wI (wG w 0 r c + v)) r0 r1 c0 c1
  unfold wA in1
  rw [← h.2.2.2 r c r0 r1 c0 c1]
  exact this
theorem rS.f6 {w : WS} {g : Int → Int} {v : Int} (h : rS w g) : rS (wFd w 6 v) (up1 g 8 v) := ⟨h.1, ⟨rfl, h.2.1.2.1, h.2.1.2.2⟩, h.2.2.1, fun r c r0 r1 c0 c1 => by
  have r1 : r < g 0 := r1
  have := h.2.2.1
  rw [up1_ne (by omega)]
  exact h.2.2.2 r c r0 r1 c0 c1⟩
theorem rS.f7 {w : WS} {g : Int → Int} {v : Int} (h : rS w g) : rS (wFd w 7 v) (up1 g 9 v) := ⟨h.1, ⟨h.2.1.1, rfl, h.2.1.2.2⟩, h.2.2.1, fun r c r0 r1 c0 c1 => by
  have r1 : r < g 0 := r1
  have := h.2.2.1
  rw [up1_ne (by omega)]
  exact h.2.2.2 r c r0 r1 c0 c1⟩
theorem rS.f8 {w : WS} {g : Int → Int} {v : Int} (h : rS w g) : rS (wFd w 8 v) (up1 g 10 v) := ⟨h.1, ⟨h.2.1.1, h.2.1.2.1, rfl⟩, h.2.2.1, fun r c r0 r1 c0 c1 => by
  have r1 : r < g 0 := r1
  have := h.2.2.1
  rw [up1_ne (by omega)]
  exact h.2.2.2 r c r0 r1 c0 c1⟩
theorem rS.f3 {w : WS} {g : Int → Int} {v : Int} (h : rS w g) : rS (wFd w 3 v) (up1 g 4 v) := ⟨⟨h.1.1, h.1.2.1, h.1.2.2.1, rfl⟩, h.2.1, h.2.2.1, fun r c r0 r1 c0 c1 => by
  have r1 : r < g 0 := r1
  have := h.2.2.1
  rw [up1_ne (by omega)]
  exact h.2.2.2 r c r0 r1 c0 c1⟩
theorem lm_eq {w : WS} {g : Int → Int} (h : rS w g) : ∀ (n : Nat) (r l : Int), 0 ≤ r → r + n ≤ g 0 → lmL w (-1) n r l = lm1 g n r l
  | 0, _, _, _, _ => rfl
  | n + 1, r, l, h0, h1 => by
    rw [lmL, lm1, lm_eq h n (r + 1) _ (by omega) (by omega)]
    have e2 := h.2.2.2 r 2 h0 (by omega) (by decide) (by decide)
    have e0 := h.2.2.2 r 0 h0 (by omega) (by decide) (by decide)
    rw [show 12 + 4 * 2 + r = 20 + r by omega] at e2
    rw [show 12 + 4 * 0 + r = 12 + r by omega] at e0
    rw [e2, e0]
    congr 1
    by_cases c : g (20 + r) = 0
    · rw [if_neg (by omega)]
      by_cases c1 : l < 0
      · rw [if_pos c1, if_pos ⟨c, Or.inl c1⟩]
      · rw [if_neg c1]
        by_cases c2 : g (12 + r) < l
        · rw [if_pos ⟨c, Or.inr c2⟩]; omega
        · rw [if_neg (by omega)]; omega
    · rw [if_pos (Or.inr c), if_neg (fun q => c q.1)]
theorem rS.least {w : WS} {g : Int → Int} (h : rS w g) : wLeast w (-1) = ls1 g := by
  unfold wLeast ls1
  rw [h.2.2.1.1]
  exact lm_eq h _ 0 (-1) (by decide) (by have := h.2.2.1; omega)
theorem rS.rise {w : WS} {g : Int → Int} (h : rS w g) : rS (wRise w) (ri1 g) := by
  unfold wRise ri1
  rw [h.least, h.1.2.2.2]
  split
  · rename_i c
    rw [show max (g 4) (ls1 g) = g 4 by omega, up1_id]
    exact h
  · rename_i c
    rw [show max (g 4) (ls1 g) = ls1 g by omega]
    exact h.f3.F (wF4_riseL _ _ _ _)
theorem rS.raise {w : WS} {g : Int → Int} {r t : Int} (h : rS w g) (r0 : 0 ≤ r) (r1 : r < g 0) : rS (wRaise w r t) (ra1 g r t) := by
  have e0 := h.2.2.2 r 0 r0 r1 (by decide) (by decide)
  rw [show 12 + 4 * 0 + r = 12 + r by omega] at e0
  unfold wRaise ra1
  rw [e0]
  split
  · rename_i c
    have := h.src (v := t) r0 r1 (c := 0) (by decide) (by decide)
    rw [show 12 + 4 * 0 + r = 12 + r by omega] at this
    rw [show max (g (12 + r)) t = t by omega]
    exact this
  · rw [show max (g (12 + r)) t = g (12 + r) by omega, up1_id]
    exact h
theorem rS.fate {w : WS} {g : Int → Int} (h : rS w g) (t : Int) : wFate w t = hw1 g t := by
  unfold wFate hw1
  rw [h.1.2.2.2, h.1.2.1]
theorem hw1_b (g : Int → Int) (t : Int) : hw1 g t = 0 ∨ hw1 g t = 1 ∨ hw1 g t = 2 := by
  unfold hw1
  repeat' split
  all_goals omega
theorem rS.playE {w : WS} {g : Int → Int} {k t v r : Int} (h : rS w g) (r0 : 0 ≤ r) (r1 : r < g 0) : rS (wPlayE w k t v r) (pE1 g t r) := by
  have hz := h.2.2.1
  have a := h.srcA (v := 1) r0 r1 (c := 3) (by decide) (by decide)
  rw [show 12 + 4 * 3 + r = 24 + r by omega] at a
  have g0 : in1 g (24 + r) 1 0 = g 0 := up1_ne (by omega)
  have b := hw1_b g t
  unfold wPlayE pE1
  dsimp only
  rw [h.fate t]
  have key : ∀ u, rS u (fa1 (in1 g (24 + r) 1) (hw1 g t) r) → fa1 (in1 g (24 + r) 1) (hw1 g t) r 0 = g 0 → rS (wRise (wRaise (wP u 0 r 2 0) r (wI (t - wG (wP u 0 r 2 0) 0 r 1)))) (ri1 (ra1 (up1 (fa1 (in1 g (24 + r) 1) (hw1 g t) r) (20 + r) 0) r (wI (t - (up1 (fa1 (in1 g (24 + r) 1) (hw1 g t) r) (20 + r) 0) (16 + r))))) := by
    intro u hu e0
    generalize fa1 (in1 g (24 + r) 1) (hw1 g t) r = q at hu e0
    have c := hu.src (v := 0) r0 (by rw [e0]; exact r1) (c := 2) (by decide) (by decide)
    rw [show 12 + 4 * 2 + r = 20 + r by omega] at c
    have e1 : up1 q (20 + r) 0 0 = g 0 := (up1_ne (by omega)).trans e0
    have d := c.2.2.2 r 1 r0 (by rw [e1]; exact r1) (by decide) (by decide)
    rw [show 12 + 4 * 1 + r = 16 + r by omega] at d
    rw [d]
    exact (c.raise r0 (by rw [e1]; exact r1)).rise
  refine key _ ?_ ?_
  · by_cases c2 : hw1 g t = 2
    · rw [if_pos c2]
      unfold fa1
      rw [if_pos c2]
      have f := a.f8 (v := wI ((wA w 0 r 3 1).1 8 + 1))
      rw [a.2.1.2.2] at f ⊢
      have e : up1 (in1 g (24 + r) 1) 10 (wI (in1 g (24 + r) 1 10 + 1)) 0 = g 0 := (up1_ne (by decide)).trans g0
      have f2 := f.srcA (v := 1) r0 (by rw [e]; exact r1) (c := 4) (by decide) (by decide)
      rw [show 12 + 4 * 4 + r = 28 + r by omega] at f2
      exact f2
    · rw [if_neg c2]
      unfold fa1
      rw [if_neg c2]
      refine rS.F ?_ wF4_Melt
      have f := a.f6 (v := wI ((wA w 0 r 3 1).1 6 + 1))
      have f2 := f.f7 (v := wI ((wA w 0 r 3 1).1 7 + (if hw1 g t = 1 then 1 else 0)))
      rw [a.2.1.1, a.2.1.2.1] at f2
      have e7 : in1 (in1 g (24 + r) 1) 8 1 9 = in1 g (24 + r) 1 9 := up1_ne (by decide)
      have e1 : (if hw1 g t = 1 then (1 : Int) else 0) = hw1 g t := by
        split <;> omega
      rw [e1] at f2 ⊢
      have e2 : in1 (in1 (in1 g (24 + r) 1) 8 1) 9 (hw1 g t) = up1 (in1 (in1 g (24 + r) 1) 8 1) 9 (wI (in1 g (24 + r) 1 9 + hw1 g t)) := by
        conv => lhs; unfold in1
        rw [show up1 (up1 g (24 + r) (wI (g (24 + r) + 1))) 8 (wI (up1 g (24 + r) (wI (g (24 + r) + 1)) 8 + 1)) 9 = in1 g (24 + r) 1 9 from e7]
        rfl
      rw [e2, a.2.1.1, a.2.1.2.1]
      exact f2
  · unfold fa1
    split
    · exact ((up1_ne (by omega)).trans (up1_ne (by decide))).trans g0
    · exact ((up1_ne (by decide)).trans (up1_ne (by decide))).trans g0
