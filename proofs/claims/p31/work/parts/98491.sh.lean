/-! ===== texts: the entries read ===== -/
/-- what stands in the rows of keys and sources behind a reading -/
def en1r (k any : Int) (s : MS) (r : Int × MS) : Prop := r.2.2 5 = s.2 5 ∧ ∃ v, r.2.2 8 = xup (s.2 8) k.toNat v ∧ (r.1 = 1 → any = 0 → mSrc r.2 v)
theorem en1r.b {k any : Int} {s t : MS} {r : Int × MS} (h5 : t.2 5 = s.2 5) (h8 : t.2 8 = s.2 8) (g : en1r k any t r) : en1r k any s r := by
  obtain ⟨a, v, b, c⟩ := g
  exact ⟨a.trans h5, v, by rw [b, h8], c⟩
theorem reE5_e (p : Int × MS) (k any : Int) : en1r k any p.2 (reE5 p k any) := by
  unfold reE5 reF
  split
  · exact ⟨rfl, p.1, rfl, fun q => absurd q (by show ¬ (0 : Int) = 1; decide)⟩
  · split
    · exact ⟨rfl, p.1, rfl, fun q => absurd q (by show ¬ (0 : Int) = 1; decide)⟩
    · rename_i c
      exact ⟨rfl, p.1, rfl, fun _ q => Decidable.byContradiction (fun h => c ⟨q, h⟩)⟩
theorem reE4_e (s : MS) (k v any : Int) : en1r k any s (reE4 s k v any) := by
  unfold reE4
  split
  · exact reE5_e (-1, s) k any
  · exact en1r.b (t := (gDg s 1).2) (by rw [gDg_2]) (by rw [gDg_2]) (reE5_e (gDg s 1) k any)
theorem reE1_e (p : Int × MS) (k any : Int) : en1r k any p.2 (reE1 p k any) := by
  have h3 : ∀ sd p, en1r k any p.2 (reE3 sd p k any) := fun sd p => en1r.b (t := st7 p.2 k (if sd = 1 then -p.1 else p.1)) rfl rfl (reE4_e _ k p.1 any)
  have h2 : ∀ p, en1r k any p.2 (reE2 p k any) := fun p => by
    unfold reE2
    split
    · exact h3 p.1 (-1, p.2)
    · exact en1r.b (t := (gDg p.2 2).2) (by rw [gDg_2]) (by rw [gDg_2]) (h3 p.1 (gDg p.2 2))
  unfold reE1
  split
  · exact en1r.b (t := st6 p k) rfl rfl (h2 (-1, st6 p k))
  · exact en1r.b (s := p.2) (t := (gTk (st6 p k) 7).2) (by rw [gTk_2]; rfl) (by rw [gTk_2]; rfl) (h2 (gTk (st6 p k) 7))
theorem reE1_n (s : MS) (k any : Int) : (reE1 (-1, s) k any).1 = 0 := by
  unfold reE1
  rw [if_pos (show (-1 : Int) < 0 by decide)]
  unfold reE2
  rw [if_pos (show (-1 : Int) < 0 by decide)]
  unfold reE3 reE4
  rw [if_pos (show (-1 : Int) < 0 by decide)]
  unfold reE5 reF
  rw [if_pos (show (-1 : Int) < 0 by decide)]
theorem gRe_e (s : MS) (k any : Int) : (∃ w, (gRe s k any).2.2 5 = xup (s.2 5) k.toNat w ∧ ((gRe s k any).1 = 1 → 0 ≤ w ∧ w ≤ 5)) ∧ ∃ v, (gRe s k any).2.2 8 = xup (s.2 8) k.toNat v ∧ ((gRe s k any).1 = 1 → any = 0 → mSrc (gRe s k any).2 v) := by
  have f := gTk_f s 5 (by decide)
  have hl : slI 5 = 6 := by decide
  have f2 := gTk_2 s 5
  unfold gRe
  generalize gTk s 5 = p at f f2 ⊢
  unfold reE0
  split
  · obtain ⟨a, v, b, c⟩ := reE1_e (-1, st5 p k) k any
    refine ⟨⟨p.1, by rw [a]; show xup (p.2.2 5) _ _ = _; rw [f2], fun q => ?_⟩, v, by rw [b]; show xup (p.2.2 8) _ _ = _; rw [f2], c⟩
    rw [reE1_n] at q
    omega
  · obtain ⟨a, v, b, c⟩ := reE1_e (gDg (st5 p k) 4) k any
    refine ⟨⟨p.1, by rw [a, gDg_2]; show xup (p.2.2 5) _ _ = _; rw [f2], fun q => ?_⟩, v, by rw [b, gDg_2]; show xup (p.2.2 8) _ _ = _; rw [f2], c⟩
    have := f.2.2.2
    omega
