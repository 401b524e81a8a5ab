/-! ===== texts: what reading an event leaves alone; events of the model ===== -/
def eF (s s' : MS) : Prop := (∀ k, k ≠ 5 → s'.1 k = s.1 k) ∧ (∀ a, a ≠ 5 → a ≠ 6 → a ≠ 7 → a ≠ 8 → a ≠ 11 → s'.2 a = s.2 a) ∧ s.1 5 - 1 ≤ s'.1 5 ∧ s'.1 5 ≤ max (s.1 5) (s.1 6)
theorem rF.e {s t u : MS} (h : rF s t) (g : eF t u) : eF s u := ⟨fun k hk => (g.1 k hk).trans (h.1 k hk), fun a p q r t v => (g.2.1 a p q r t v).trans (h.2.1 a p q r t v), by have := h.2.2; have := g.2.2; omega, by have h2 := h.2.2; have g2 := g.2.2; rw [h.1 6 (by decide)] at g2; omega⟩
/-- an event read -/
def rs1 (s : MS) (r : Int × MS) : Prop := eF s r.2 ∧ (r.1 = 1 → s.1 5 < r.2.1 5)
theorem rs1.b {s t : MS} {r : Int × MS} (h : rF s t) (g : rs1 t r) : rs1 s r := ⟨h.e g.1, fun q => by have := h.2.2.1; have := g.2 q; omega⟩
theorem reE5_f (p : Int × MS) (k any : Int) : eF p.2 (reE5 p k any).2 ∧ ((reE5 p k any).1 = 1 → p.2.1 5 ≤ (reE5 p k any).2.1 5 ∧ 0 ≤ p.1) := by
  have h : rF p.2 (st8 p k) := rF_A (by decide)
  have e5 : (st8 p k).1 5 = p.2.1 5 := rfl
  unfold reE5 reF
  split
  · exact ⟨h.e ⟨fun _ _ => rfl, fun _ _ _ _ _ _ => rfl, by show (st8 p k).1 5 - 1 ≤ (st8 p k).1 5; omega, by show (st8 p k).1 5 ≤ _; omega⟩, fun q => absurd q (by show ¬ (0 : Int) = 1; decide)⟩
  · split
    · exact ⟨h.e ⟨fun j hj => mS_ne hj, fun _ _ _ _ _ _ => rfl, by show (st8 p k).1 5 - 1 ≤ (st8 p k).1 5 - 1; omega, by show (st8 p k).1 5 - 1 ≤ _; omega⟩, fun q => absurd q (by show ¬ (0 : Int) = 1; decide)⟩
    · exact ⟨h.e ⟨fun _ _ => rfl, fun _ _ _ _ _ _ => rfl, by show (st8 p k).1 5 - 1 ≤ (st8 p k).1 5; omega, by show (st8 p k).1 5 ≤ _; omega⟩, fun _ => ⟨by show p.2.1 5 ≤ (st8 p k).1 5; omega, by omega⟩⟩
theorem reE4_f (s : MS) (k v any : Int) : rs1 s (reE4 s k v any) := by
  unfold reE4
  split
  · have f := reE5_f (-1, s) k any
    exact ⟨f.1, fun q => absurd (f.2 q).2 (by show ¬ (0 : Int) ≤ -1; decide)⟩
  · have f := reE5_f (gDg s 1) k any
    have d := dg_b s (n := 1) (by decide)
    exact ⟨d.2.1.e f.1, fun q => by have := (f.2 q).1; have := d.2.2 (f.2 q).2; omega⟩
theorem gRe_f (s : MS) (k any : Int) : rs1 s (gRe s k any) := by
  have h3 : ∀ sd p, rs1 p.2 (reE3 sd p k any) := fun sd p => rs1.b (rF_A (by decide)) (reE4_f _ k p.1 any)
  have h2 : ∀ p, rs1 p.2 (reE2 p k any) := fun p => by
    unfold reE2
    split
    · exact h3 p.1 (-1, p.2)
    · exact rs1.b (dg_b p.2 (n := 2) (by decide)).2.1 (h3 p.1 (gDg p.2 2))
  have h1 : ∀ p, rs1 p.2 (reE1 p k any) := fun p => by
    have a : rF p.2 (st6 p k) := rF_A (by decide)
    unfold reE1
    split
    · exact rs1.b a (h2 (-1, st6 p k))
    · exact rs1.b a (rs1.b (gTk_f (st6 p k) 7 (by decide)).2.1 (h2 (gTk (st6 p k) 7)))
  have h0 : ∀ p, rs1 p.2 (reE0 p k any) := fun p => by
    have a : rF p.2 (st5 p k) := rF_A (by decide)
    unfold reE0
    split
    · exact rs1.b a (h1 (-1, st5 p k))
    · exact rs1.b a (rs1.b (dg_b (st5 p k) (n := 4) (by decide)).2.1 (h1 (gDg (st5 p k) 4)))
  exact rs1.b (gTk_f s 5 (by decide)).2.1 (h0 (gTk s 5))
