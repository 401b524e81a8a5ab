/-! ===== events and day keep it ===== -/
section FE
variable {m : MS} {K : KM}
theorem eG.inv {m u : MS} (h : Inv m) (g : eG (gRd m) u) : Inv u ∧ u.1 4 = 0 ∧ u.2 12 = m.2 12 := by
  have e4 : u.1 4 = 0 := g.1 4 (by decide)
  have e12 : u.2 12 = m.2 12 := g.2 12 (by decide) (by decide) (by decide) (by decide) (by decide)
  exact ⟨h.len (by rw [e4]; decide) (g.1 1 (by decide)) (g.1 8 (by decide)) (g.2 3 (by decide) (by decide) (by decide) (by decide) (by decide)) e12, e4, e12⟩
theorem cl_ok {Q : Int → MS → Prop} : ∀ (n : Nat) (k t : Int) (s : MS), dI 0 s → rdE (k + n) s → mg s (0 * 2804 + 6) + n ≤ 160 → 0 ≤ k → (∀ t s', dI 0 s' → oD 0 s s' → Q t s') → clP Q n k t s
  | 0, k, t, s, d0, _, _, _, kk => kk t s d0 oD.same
  | n + 1, k, t, s, d0, he, h6, h0, kk => by
    have g := he k h0 (by omega)
    have g6 := d0.2.1
    refine ⟨⟨g.2, g6.1, by omega⟩, 650, d0.come ⟨by decide, by decide⟩ (by omega) g.1 g.2 (fun s' d' o e => ?_)⟩
    refine cl_ok n (k + 1) _ s' d' (fun j j0 j1 => ?_) (by omega) (by omega) (fun t s2 d2 o2 => kk t s2 d2 (o.trans o2))
    rw [o.2.2 5 (by decide) (by decide), o.2.2 8 (by decide) (by decide)]
    exact he j j0 (by omega)
theorem iv_events (h : Inv m) (kk : ∀ q m', Inv m' → m'.1 4 = 0 → m'.2 12 = m.2 12 → K [pI q] m') : sX3_events m K := by
  have hz := h.mok
  have hg := gRd_gd h.1 hz.1
  have f := reL_f 80 0 (gRd m) hg (by decide) (by show (0 : Int) ≤ 0; decide)
  have e := reL_e 80 0 (gRd m) hg hz.2 (by decide) (by show (0 : Int) ≤ 0; decide) (fun j j0 j1 => absurd j1 (by omega))
  refine ⟨⟨h.1, hz.1, h.six⟩, ?_⟩
  generalize reL 80 0 (gRd m) = p at f e ⊢
  obtain ⟨I, e4, e12⟩ := f.1.inv h
  refine ⟨fun _ => kk _ _ I e4 e12, fun c => ⟨fun _ => kk _ _ I e4 e12, fun c6 => ?_⟩⟩
  have e := e c
  have o3 : oD 3 p.2.2 (mCopy p.2.2 0 3) := copy_o (by decide)
  have q3 := I.on3 o3
  have d3 : dI 3 (mCopy p.2.2 0 3) := I.2.2.2.1.copy (by decide) (by decide)
  have e6 : mg (mCopy p.2.2 0 3) (0 * 2804 + 6) = mg p.2.2 (0 * 2804 + 6) := o3.1 _ (by decide) (by decide)
  refine cl_ok p.2.1.toNat 0 0 _ q3.1.2.2.2.1 (fun j j0 j1 => ?_) (by have := f.2.1; omega) (by decide) (fun t s' d0 o => ?_)
  · exact e j j0 (by have := f.2.1; omega)
  · have q := q3.trans (q3.1.on0 d0 o)
    have w3 := d3.other (by decide) (by decide) (by decide) o
    have qe := en2 q (a := wI (mg s' (0 * 2804 + 7) - mg s' (3 * 2804 + 7))) (b := mg s' (0 * 2804 + 4))
    have ql := gt_ok I qe (w3.cong rfl)
    exact ⟨fun _ => ⟨qe.1.2.1, kk _ _ ql.1 (ql.2.1.trans e4) (ql.2.2.trans e12)⟩, fun _ => kk _ _ qe.1 (qe.2.1.trans e4) (qe.2.2.trans e12)⟩
theorem da_ok {Q : Int → MS → Prop} : ∀ (n : Nat) (d : Int) (s : MS), Inv s → dI 3 s → 0 ≤ d → d + n ≤ 80 → (∀ d s', Qi s s' → dI 3 s' → Q d s') → daP Q n d s
  | 0, d, s, I, d3, h0, h1, kk => kk d s I.self d3
  | n + 1, d, s, I, d3, h0, h1, kk => by
    have hz := I.mok
    have k0 : ∀ a, xB a → (a < 0 → Q d s) ∧ (0 ≤ a → daP Q n (d + 1) s) := fun a _ => ⟨fun _ => kk d s I.self d3, fun _ => da_ok n (d + 1) s I d3 (by omega) (by omega) kk⟩
    have k1 : ∀ a s', dI 0 s' → oD 0 s s' → xB a → (a < 0 → Q d s') ∧ (0 ≤ a → daP Q n (d + 1) s') := fun a s' d0 o _ => by
      have q := I.on0 d0 o
      have w3 := d3.other (by decide) (by decide) (by decide) o
      exact ⟨fun _ => kk d s' q w3, fun _ => da_ok n (d + 1) s' q.1 w3 (by omega) (by omega) (fun d s2 q2 => kk d s2 (q.trans q2))⟩
    exact ⟨⟨⟨h0, by omega⟩, hz⟩, fun _ => ⟨650, iv_eventOne I k0 k1⟩, fun _ => ⟨fun _ => ⟨650, iv_mk I k0 k1⟩, fun _ => ⟨650, iv_id I k0 k1⟩⟩⟩
theorem iv_day (h : Inv m) (kk : ∀ q m', Inv m' → m'.1 4 = 0 → m'.2 12 = m.2 12 → K [pI q] m') : sX3_day m K := by
  have hz := h.mok
  have hg := gRd_gd h.1 hz.1
  have f := raL_f 80 0 (gRd m) hg (by decide) (by show (0 : Int) ≤ 0; decide)
  refine ⟨⟨h.1, hz.1⟩, ?_⟩
  generalize raL 80 0 (gRd m) = p at f ⊢
  obtain ⟨I, e4, e12⟩ := f.1.inv h
  refine ⟨fun _ => kk _ _ I e4 e12, fun c => ?_⟩
  have o3 : oD 3 p.2.2 (mCopy p.2.2 0 3) := copy_o (by decide)
  have q3 := I.on3 o3
  have d3 : dI 3 (mCopy p.2.2 0 3) := I.2.2.2.1.copy (by decide) (by decide)
  refine da_ok p.2.1.toNat 0 _ q3.1 d3 (by decide) (by have := f.2; omega) (fun d s' qs w3 => ?_)
  have q := q3.trans qs
  have qe := en2 q (a := if d < p.2.1 then 1 else 0) (b := wI (mg s' (0 * 2804 + 7) - mg s' (3 * 2804 + 7)))
  have ql := gt_ok I qe (w3.cong rfl)
  exact ⟨fun _ => ⟨qe.1.2.1, kk _ _ ql.1 (ql.2.1.trans e4) (ql.2.2.trans e12)⟩, fun _ => kk _ _ qe.1 (qe.2.1.trans e4) (qe.2.2.trans e12)⟩
end FE
section FF
variable {x : LSt} {K : KL}
theorem ql_S4 (h : lok x) : lok (setS x 4 0) ∧ (setS x 4 0).1 4 = 0 ∧ (setS x 4 0).1 2 = x.1 2 := ⟨⟨h.1, h.2.1, ⟨by show (0 : Int) ≤ 0; decide, by show (0 : Int) ≤ 80; decide⟩, h.2.2.2⟩, rfl, rfl⟩
theorem ql_CEA {a : Int} (h : lok x) : Ql x (lCEA x a) := ql_W (q := 0) h (wok_CEA (h.2.2.2 0 (by decide)))
theorem ql_Act {a : Int} (h : lok x) : Ql x (lAct x a) := ql_W (q := 0) h (wok_Act (h.2.2.2 0 (by decide)))
theorem evL_ok (len : Int) : ∀ (n : Nat) (a g : Int) (x : LSt), lok x → Ql x (evL len n a g x).2
  | 0, _, _, _, h => Ql.self h
  | n + 1, a, g, x, h => by
    rw [evL]
    split
    · exact Ql.self h
    · exact (ql_CEA h).trans (evL_ok len n _ _ _ (ql_CEA h).1)
theorem ix_events (h : lok x) (kk : ∀ a x', lok x' → x'.1 4 = 0 → x'.1 2 = x.1 2 → K [pI a] x') : sX2_events x K := by
  refine ⟨h, ?_⟩
  obtain ⟨l, e4, e2⟩ := ql_S4 h
  have q : Ql (setS x 4 0) (fEvents x).2 := by
    unfold fEvents fEv1
    split
    · exact Ql.self l
    · split
      · exact Ql.self l
      · split
        · unfold fEv2 fEv3
          have q1 := (ql_Rem l).trans (evL_ok (x.1 4) 10 0 0 _ (ql_Rem l).1)
          exact q1.trans (ql_2 q1.1)
        · unfold fEv2 fEv3
          have q1 := evL_ok (x.1 4) 10 0 0 _ l
          exact q1.trans (ql_2 q1.1)
  exact kk _ _ q.1 (q.2.1.trans e4) (q.2.2.trans e2)
theorem dyL_ok (len : Int) : ∀ (n : Nat) (a d : Int) (x : LSt), lok x → Ql x (dyL len n a d x).2.2
  | 0, _, _, _, h => Ql.self h
  | n + 1, a, d, x, h => by
    rw [dyL]
    split
    · exact Ql.self h
    · split
      · exact Ql.self h
      · split
        · have q := (ql_Rem h).trans (ql_Act (a := a) (ql_Rem h).1)
          exact q.trans (dyL_ok len n _ _ _ q.1)
        · exact (ql_Act h).trans (dyL_ok len n _ _ _ (ql_Act h).1)
theorem ix_day (h : lok x) (kk : ∀ a x', lok x' → x'.1 4 = 0 → x'.1 2 = x.1 2 → K [pI a] x') : sX2_day x K := by
  refine ⟨h, ?_⟩
  obtain ⟨l, e4, e2⟩ := ql_S4 h
  have q : Ql (setS x 4 0) (fDay x).2 := by
    unfold fDay fDy1
    split
    · exact Ql.self l
    · unfold fDy3
      have q1 := dyL_ok (x.1 4) 80 0 0 _ l
      exact q1.trans (ql_2 q1.1)
  exact kk _ _ q.1 (q.2.1.trans e4) (q.2.2.trans e2)
end FF
