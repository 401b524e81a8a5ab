/-! ===== texts: events of the model, played ===== -/
def clP (Q : Int → MS → Prop) : Nat → Int → Int → MS → Prop
  | 0, _, t, s => Q t s
  | m + 1, k, t, s => ((0 ≤ s.2 8 k.toNat ∧ s.2 8 k.toNat ≤ 3) ∧ 0 ≤ mg s (0 * 2804 + 6) ∧ mg s (0 * 2804 + 6) ≤ 159) ∧ ∃ f, mComeP s 0 (s.2 5 k.toNat) (s.2 6 k.toNat) (s.2 7 k.toNat) (s.2 8 k.toNat) f (fun s' => clP Q m (k + 1) (t + (if mHow s 0 (s.2 6 k.toNat) < 2 then 1 else 0)) s')
def evE (n : Int) (K : KM) : Int → MS → Prop := fun t s => (0 < n → uok1 (mSince s 0 (mg s (3 * 2804 + 7))) ∧ K [pI t] (mLays (mSince s 0 (mg s (3 * 2804 + 7))))) ∧ (n ≤ 0 → K [pI t] (mSince s 0 (mg s (3 * 2804 + 7))))
theorem X3_events_e {K : KM} {Pt : MS → Prop} (n t k : Int) (hn : 0 ≤ n ∧ n ≤ 80) (ht : 0 ≤ t ∧ t ≤ 80) (s : MS) (h : evE n K t s) : wX encM bdM mX3_events 0 0 K Pt 127 [some (pR 0), some (pI n), some (pI t), some (pI k)] [] s := by
  refine wx_J [] 9 tX3_events_ok rfl (fun J hR hJ => ?_)
  obtain ⟨h1, h2⟩ := h
  exact ⟨⟨by omega, by omega⟩, fun _ => ⟨⟨by omega, by omega⟩, ⟨⟨by omega, by omega⟩, fun c => hR _ _ (h2 c), fun c => ⟨(h1 c).1, hR _ _ (h1 c).2⟩⟩⟩⟩
theorem X3_events_p {K : KM} {Pt : MS → Prop} (n : Int) (hn : 0 ≤ n ∧ n ≤ 80) : ∀ (m : Nat) (k t : Int) (s : MS), 0 ≤ k → k + m = n → 0 ≤ t → t ≤ k → clP (evE n K) m k t s → wX encM bdM mX3_events 0 0 K Pt 72 [some (pR 0), some (pI n), some (pI t), some (pI k)] [] s := by
  intro m
  induction m with
  | zero =>
    intro k t s h0 h1 h2 h3 h
    refine wx_J [72, 127] 9 tX3_events_ok rfl (fun J hR hJ => ?_)
    have g := X3_events_e (Pt := Pt) n t k hn (by omega) s h
    exact ⟨⟨⟨by omega, by omega⟩, ⟨by omega, by omega⟩⟩, fun _ => hJ _ _ _ _ g, fun q => absurd q (by omega)⟩
  | succ m ih =>
    intro k t s h0 h1 h2 h3 h
    refine wx_J [72, 127] 9 tX3_events_ok rfl (fun J hR hJ => ?_)
    obtain ⟨⟨hr, h6⟩, f, hc⟩ := h
    have z80 : 0 ≤ k ∧ k < ((80 : Nat) : Int) := ⟨h0, by omega⟩
    refine ⟨⟨⟨by omega, by omega⟩, ⟨by omega, by omega⟩⟩, fun q => absurd q (by omega), fun _ => ?_⟩
    refine ⟨z80, fun b1 => ⟨z80, fun b2 => ⟨z80, fun b3 => ⟨z80, fun b4 => ⟨⟨⟨by omega, by omega⟩, hr, ⟨b1, b2, b3⟩, h6⟩, f, mComeP_mono (fun s' z u1 u2 => ?_) hc⟩⟩⟩⟩⟩
    refine ⟨⟨⟨by omega, by omega⟩, ⟨by omega, by omega⟩⟩, fun c => ?_, fun c => ?_⟩
    · rw [if_neg (by omega)] at z
      exact ⟨Or.inl rfl, hJ _ _ _ _ (ih (k + 1) (t + 0) s' (by omega) (by omega) (by omega) (by omega) z)⟩
    · rw [if_pos c] at z
      exact ⟨Or.inr rfl, hJ _ _ _ _ (ih (k + 1) (t + 1) s' (by omega) (by omega) (by omega) (by omega) z)⟩
def evM (n : Int) (s : MS) (K : KM) : Prop := (160 < mg s (0 * 2804 + 6) + n → K [pI (-3)] s) ∧ (mg s (0 * 2804 + 6) + n ≤ 160 → clP (evE n K) n.toNat 0 0 (mCopy s 0 3))
theorem X3_events_m {K : KM} {Pt : MS → Prop} (n : Int) (hn : 0 ≤ n ∧ n ≤ 80) (s : MS) (h6 : 0 ≤ mg s (0 * 2804 + 6) ∧ mg s (0 * 2804 + 6) ≤ 160) (h : evM n s K) : wX encM bdM mX3_events 0 0 K Pt 44 [some (pR 0), some (pI n), none, none] [] s := by
  refine wx_J [72] 9 tX3_events_ok rfl (fun J hR hJ => ?_)
  refine ⟨⟨by omega, by omega⟩, fun hz => ⟨⟨⟨by omega, by omega⟩, ⟨by omega, by omega⟩⟩, fun c => ?_, fun c => hR _ _ (h.1 c)⟩⟩
  exact ⟨⟨⟨by omega, by omega⟩, by omega, by omega⟩, hJ _ _ _ _ (X3_events_p n hn n.toNat 0 0 _ (by omega) (by omega) (by omega) (by omega) (h.2 c))⟩
/-- what reading leaves alone -/
def eG (s s' : MS) : Prop := (∀ k, k ≠ 5 → s'.1 k = s.1 k) ∧ ∀ a, a ≠ 5 → a ≠ 6 → a ≠ 7 → a ≠ 8 → a ≠ 11 → s'.2 a = s.2 a
theorem eG.trans {s t u : MS} (h : eG s t) (g : eG t u) : eG s u := ⟨fun k hk => (g.1 k hk).trans (h.1 k hk), fun a p q r t v => (g.2 a p q r t v).trans (h.2 a p q r t v)⟩
theorem eF.g {s t : MS} (h : eF s t) : eG s t := ⟨h.1, h.2.1⟩
theorem eG.same {s : MS} : eG s s := ⟨fun _ _ => rfl, fun _ _ _ _ _ _ => rfl⟩
theorem reL_f : ∀ (m : Nat) (n : Int) (s : MS), gd s → 0 ≤ n → n ≤ s.1 5 → eG s (reL m n s).2.2 ∧ 0 ≤ (reL m n s).2.1 ∧ (reL m n s).2.1 ≤ 80
  | 0, n, s, hg, h0, h1 => ⟨eG.same, h0, by have := hg.2.1; show n ≤ 80; omega⟩
  | m + 1, n, s, hg, h0, h1 => by
    have h80 := hg.2.1
    have hg0 := hg.1
    rw [reL]
    split
    · exact ⟨eG.same, h0, by show n ≤ 80; omega⟩
    · have f := gRe_f s n 0
      have r01 := gRe_01 s n 0
      split
      · exact ⟨f.1.g, h0, by show n ≤ 80; omega⟩
      · have f2 := f.2 (by omega)
        have g := reL_f m (n + 1) _ (hg.e f.1 (by omega)) (by omega) (by omega)
        exact ⟨f.1.g.trans g.1, g.2⟩
/-- entries read -/
def rdE (n : Int) (s : MS) : Prop := ∀ j : Int, 0 ≤ j → j < n → (0 ≤ s.2 5 j.toNat ∧ s.2 5 j.toNat ≤ 5) ∧ 0 ≤ s.2 8 j.toNat ∧ s.2 8 j.toNat ≤ 3
theorem reL_e : ∀ (m : Nat) (n : Int) (s : MS), gd s → mg s 0 ≤ 4 → 0 ≤ n → n ≤ s.1 5 → rdE n s → (reL m n s).1 ≠ 0 → rdE (reL m n s).2.1 (reL m n s).2.2
  | 0, n, s, hg, h4, h0, h1, he, _ => he
  | m + 1, n, s, hg, h4, h0, h1, he, hq => by
    have h80 := hg.2.1
    have hg0 := hg.1
    rw [reL] at hq ⊢
    by_cases c : s.1 6 ≤ s.1 5
    · rw [if_pos c]
      exact he
    · rw [if_neg c] at hq ⊢
      have f := gRe_f s n 0
      have r01 := gRe_01 s n 0
      obtain ⟨⟨w, e5, w5⟩, v, e8, v8⟩ := gRe_e s n 0
      by_cases c2 : (gRe s n 0).1 = 0
      · rw [if_pos c2] at hq
        exact absurd rfl hq
      · rw [if_neg c2] at hq ⊢
        have c3 : (gRe s n 0).1 = 1 := by omega
        have f2 := f.2 c3
        have w6 := w5 c3
        have v9 := v8 c3 rfl
        clear w5 v8
        have e0 : mg (gRe s n 0).2 0 = mg s 0 := mg_cong (f.1.2.1 3 (by decide) (by decide) (by decide) (by decide) (by decide)) 0
        generalize gRe s n 0 = p at *
        have v0 : 0 ≤ v ∧ v < mg p.2 0 := v9
        refine reL_e m (n + 1) _ (hg.e f.1 (by omega)) (by omega) (by omega) (by omega) (fun j j0 j1 => ?_) hq
        rw [e5, e8]
        by_cases q : j = n
        · subst q
          rw [xup_e, xup_e]
          exact ⟨w6, v0.1, by omega⟩
        · have x5 : xup (s.2 5) n.toNat w j.toNat = s.2 5 j.toNat := if_neg (by omega)
          have x8 : xup (s.2 8) n.toNat v j.toNat = s.2 8 j.toNat := if_neg (by omega)
          rw [x5, x8]
          exact he j j0 (by omega)
def gRd (s : MS) : MS := mReads (mS s 0 0)
def sX3_events : MS → KM → Prop := fun s K => ((0 ≤ s.1 4 ∧ s.1 4 ≤ 80) ∧ 0 ≤ mg s 0 ∧ 0 ≤ mg s (0 * 2804 + 6) ∧ mg s (0 * 2804 + 6) ≤ 160) ∧ ((reL 80 0 (gRd s)).1 = 0 → K [pI (-1 - (reL 80 0 (gRd s)).2.2.1 5)] (reL 80 0 (gRd s)).2.2) ∧ ((reL 80 0 (gRd s)).1 ≠ 0 → evM (reL 80 0 (gRd s)).2.1 (reL 80 0 (gRd s)).2.2 K)
theorem gRd_gd {s : MS} (h4 : 0 ≤ s.1 4 ∧ s.1 4 ≤ 80) (h0 : 0 ≤ mg s 0) : gd (gRd s) := ⟨by show (0 : Int) ≤ 0; decide, by show (0 : Int) ≤ 80; decide, by show s.1 4 ≤ 80; omega, h0⟩
theorem mX3_events_ok : mOk encM bdM mX3_events (atR 0 (a0 sX3_events)) := by
  refine mOVa0 kX3_events (fun _ => rfl) (fun s K h hb => wx_J [11] 9 tX3_events_ok rfl (fun J hR hJ => ?_))
  obtain ⟨⟨h4, h0, h6⟩, k0, k1⟩ := h
  have hg := gRd_gd h4 h0
  have e5 : (gRd s).1 5 = 0 := rfl
  have e6 : (gRd s).1 6 = s.1 4 := rfl
  have f := reL_f 80 0 (gRd s) hg (by omega) (by omega)
  have g6 : mg (reL 80 0 (gRd s)).2.2 (0 * 2804 + 6) = mg s (0 * 2804 + 6) := mg_cong (f.1.2 3 (by decide) (by decide) (by decide) (by decide) (by decide)) _
  exact ⟨⟨by omega, by omega⟩, hJ _ _ _ _ (X3_events_r 80 0 (gRd s) hg (by omega) (by omega) (by omega) k0 (fun c => X3_events_m _ f.2 _ (by omega) (k1 c)))⟩
