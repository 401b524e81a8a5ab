/-! ===== events(): both read and play the same ===== -/
theorem reR_1 (s : MS) (k any : Int) : (gRe s k any).1 = 0 ∨ (gRe s k any).1 = 1 := by
  rcases re_sp (s := s) (k := k) (any := any) rfl rfl rfl with ⟨i, -, e, -⟩ | ⟨-, e, -⟩
  · exact Or.inl e
  · exact Or.inr e
/-- what stands read under a number is the text's event at a place -/
def rdV (x : LSt) (s : MS) (j a : Int) : Prop := (s.2 5 j.toNat = lKey x a ∧ s.2 6 j.toNat = lNum x (wI (a + 1)) 4 ∧ s.2 7 j.toNat = lVal x (wI (a + 5)) ∧ s.2 8 j.toNat = lNum x (wI (a + 8)) 1) ∧ (0 ≤ lKey x a ∧ lKey x a ≤ 5) ∧ (0 ≤ lNum x (wI (a + 1)) 4 ∧ lNum x (wI (a + 1)) 4 ≤ 9999) ∧ (0 ≤ lNum x (wI (a + 8)) 1 ∧ lNum x (wI (a + 8)) 1 < wZ (x.2.2 0) 0)
theorem reL_em {x : LSt} {len : Int} (z4 : wZ (x.2.2 0) 0 ≤ 4) : ∀ (m : Nat) (a n : Int) (s : MS) (M : Nat), m ≤ M → s.1 5 = a → s.1 6 = len → tE x (s.2 2) len → mg s 0 = wZ (x.2.2 0) 0 → 0 ≤ a → 0 ≤ n → a ≤ len → len ≤ a + 9 * m → (0 ≤ emL x len m a → (reL M n s).1 = 0 ∧ (reL M n s).2.2.1 5 = emL x len m a) ∧ (emL x len m a < 0 → (reL M n s).1 = 1 ∧ n ≤ (reL M n s).2.1 ∧ 9 * ((reL M n s).2.1 - n) = len - a ∧ (∀ j, n ≤ j → j < (reL M n s).2.1 → rdV x (reL M n s).2.2 j (a + 9 * (j - n))) ∧ ∀ j, 0 ≤ j → j < n → (reL M n s).2.2.2 5 j.toNat = s.2 5 j.toNat ∧ (reL M n s).2.2.2 6 j.toNat = s.2 6 j.toNat ∧ (reL M n s).2.2.2 7 j.toNat = s.2 7 j.toNat ∧ (reL M n s).2.2.2 8 j.toNat = s.2 8 j.toNat)
  | 0, a, n, s, M, hM, h5, h6, hT, h0, ha, hn, hal, hlen => by
    have e : reL M n s = (1, n, s) := by
      match M with
      | 0 => rfl
      | M + 1 => exact if_pos (by omega)
    rw [e]
    exact ⟨fun q => absurd q (by show ¬ (0 : Int) ≤ -1; decide), fun _ => ⟨rfl, Int.le_refl _, by show 9 * (n - n) = _; omega, fun j j0 j1 => absurd j1 (by show ¬ j < n; omega), fun j _ _ => ⟨rfl, rfl, rfl, rfl⟩⟩⟩
  | m + 1, a, n, s, M, hM, h5, h6, hT, h0, ha, hn, hal, hlen => by
    match M, hM with
    | M + 1, hM =>
      by_cases c : len ≤ a
      · have e1 : emL x len (m + 1) a = -1 := if_pos c
        have e : reL (M + 1) n s = (1, n, s) := if_pos (by omega)
        rw [e, e1]
        exact ⟨fun q => absurd q (by decide), fun _ => ⟨rfl, Int.le_refl _, by show 9 * (n - n) = _; omega, fun j j0 j1 => absurd j1 (by show ¬ j < n; omega), fun j _ _ => ⟨rfl, rfl, rfl, rfl⟩⟩⟩
      · have iff := fq_ev0 hT ha z4
        have sp := lFm_sp x a len 0 9 slE.1
        have rs := re_sp (s := s) (k := n) (any := 0) rfl h6 h5
        rw [h0] at rs
        have e1 : emL x len (m + 1) a = if 0 ≤ lFm x a len 0 then lFm x a len 0 else emL x len m (a + 9) := if_neg c
        have e2 : reL (M + 1) n s = if (gRe s n 0).1 = 0 then (0, n, (gRe s n 0).2) else reL M (n + 1) (gRe s n 0).2 := if_neg (by omega)
        rw [e1, e2]
        rcases sp with ⟨i, hi, ei⟩ | ⟨hall, ei⟩
        · rcases rs with ⟨i', hi', r1, r2⟩ | ⟨hall', -⟩
          · have q := hi.one iff hi'
            subst q
            have p0 := hi.1
            rw [ei, if_pos (by omega), if_pos r1]
            exact ⟨fun _ => ⟨rfl, r2⟩, fun q => absurd q (by omega)⟩
          · exact (hi.no iff hall').elim
        · rcases rs with ⟨i', hi', -, -⟩ | ⟨hall', r1, r2, r5, r6, r7, r8, -⟩
          · exact (hi'.no (fun j j0 j1 => (iff j j0 j1).symm) hall).elim
          · rw [ei, if_neg (by decide), if_neg (by rw [r1]; decide)]
            have g8 := hall' 8 (by decide) (by decide)
            have g8 : a + 8 < len := g8.1
            obtain ⟨f1, -⟩ := gRe_f s n 0
            have t2 : (gRe s n 0).2.2 2 = s.2 2 := f1.2.1 2 (by decide) (by decide) (by decide) (by decide) (by decide)
            have t3 : (gRe s n 0).2.2 3 = s.2 3 := f1.2.1 3 (by decide) (by decide) (by decide) (by decide) (by decide)
            have t6 : (gRe s n 0).2.1 6 = len := (f1.1 6 (by decide)).trans h6
            have tm : mg (gRe s n 0).2 0 = wZ (x.2.2 0) 0 := (mg_cong t3 0).trans h0
            obtain ⟨⟨v5, v6, v7, v8⟩, b5, b6, -, b8, -, b8'⟩ := ev_vals hT ha hall'
            generalize (gRe s n 0).2 = u at r2 r5 r6 r7 r8 t2 t6 tm ⊢
            obtain ⟨ih1, ih2⟩ := reL_em z4 m (a + 9) (n + 1) u M (by omega) r2 t6 (by rw [t2]; exact hT) tm (by omega) (by omega) (by omega) (by omega)
            refine ⟨ih1, fun q => ?_⟩
            obtain ⟨k1, k2, k3, k4, k5⟩ := ih2 q
            refine ⟨k1, by omega, by omega, fun j j0 j1 => ?_, fun j j0 j1 => ?_⟩
            · by_cases ej : j = n
              · subst ej
                obtain ⟨w5, w6, w7, w8⟩ := k5 j (by omega) (by omega)
                rw [show a + 9 * (j - j) = a by omega]
                refine ⟨⟨?_, ?_, ?_, ?_⟩, b5, b6, b8, b8' rfl⟩
                · rw [w5, r5, xup_eq, v5]
                · rw [w6, r6, xup_eq, v6]
                · rw [w7, r7, xup_eq, v7]
                · rw [w8, r8, xup_eq, v8]
              · have := k4 j (by omega) j1
                rw [show a + 9 + 9 * (j - (n + 1)) = a + 9 * (j - n) by omega] at this
                exact this
            · obtain ⟨w5, w6, w7, w8⟩ := k5 j j0 (by omega)
              rw [w5, w6, w7, w8, r5, r6, r7, r8, xup_ne (by omega), xup_ne (by omega), xup_ne (by omega), xup_ne (by omega)]
              exact ⟨rfl, rfl, rfl, rfl⟩
theorem setW_setW (y : LSt) (w w' : WS) : setW (setW y 0 w) 0 w' = setW y 0 w' := by
  have : (fun j => bif Nat.beq j 0 then w' else (setW y 0 w).2.2 j) = (fun j => bif Nat.beq j 0 then w' else y.2.2 j) := by
    funext j
    by_cases e : j = 0
    · subst e; rfl
    · rw [bqF e]
      show (bif Nat.beq j 0 then w else y.2.2 j) = _
      rw [bqF e]
      rfl
  unfold setW at this ⊢
  rw [this]
theorem setW_same (y : LSt) : setW y 0 (y.2.2 0) = y := by
  have : (fun j => bif Nat.beq j 0 then y.2.2 0 else y.2.2 j) = y.2.2 := by
    funext j
    by_cases e : j = 0
    · subst e; rfl
    · rw [bqF e]; rfl
  unfold setW
  rw [this]
theorem rA.evz {w : WS} {g : Int → Int} {k t v r : Int} (h : rA w g) (h6 : g 6 < 160) (hk : 0 ≤ k ∧ k ≤ 5) (ht : 0 ≤ t ∧ t ≤ 9999) (hr : 0 ≤ r ∧ r < g 0) : wZ (wComeE w k t v r) 0 = wZ w 0 := by
  have i6 := h.2.1.1
  have hz := h.1.2.2.1
  rw [(h.event (v := v) h6 hk ht hr).1.2.2.1.1, pE1_ne ⟨hr.1, by omega⟩ (Or.inl (by decide)), nt1_ne (by decide) (by omega), hz.1]
/-- events played one by one -/
theorem cl_sp {x : LSt} {u : MS} {Q : Int → MS → Prop} {len : Int} : ∀ (n : Nat) (k t : Int) (M : Nat) (s : MS) (y : LSt), n ≤ M → 0 ≤ k → len = 9 * (k + n) → (∀ j, k ≤ j → j < k + n → rdV x u j (9 * j)) → y.2.1 1 = x.2.1 1 → (s.2 5 = u.2 5 ∧ s.2 6 = u.2 6 ∧ s.2 7 = u.2 7 ∧ s.2 8 = u.2 8) → rW (y.2.2 0) (gD 0 s) → wok (y.2.2 0) → dI 0 s → wZ (y.2.2 0) 0 = wZ (x.2.2 0) 0 → mg s (0 * 2804 + 6) + n ≤ 160 → (∀ t' s' w', evL len M (9 * k) t y = (t', setW y 0 w') → rW w' (gD 0 s') → wok w' → dI 0 s' → oD 0 s s' → Q t' s') → clP Q n k t s
  | 0, k, t, M, s, y, hM, hk, hl, hv, hx, ha, hr, ho, hd, hz, h6, kk => by
    refine kk t s (y.2.2 0) ?_ hr ho hd oD.same
    rw [setW_same]
    match M with
    | 0 => rfl
    | M + 1 => exact if_pos (by omega)
  | n + 1, k, t, M, s, y, hM, hk, hl, hv, hx, ha, hr, ho, hd, hz, h6, kk => by
    match M, hM with
    | M + 1, hM =>
      obtain ⟨⟨v5, v6, v7, v8⟩, b5, b6, b8⟩ := hv k (Int.le_refl _) (by omega)
      have g6 := hd.2.1
      have z0 := z0_eq (x := y) hr.1
      have i0 : mg s 0 ≤ 4 := hd.1.2
      -- what the class reads hangs on the text alone
      have lS : ∀ i, lSign y i = lSign x i := fun i => by unfold lSign; rw [hx]
      have nL : ∀ (f : Int) (q : Nat) (k v : Int), numL y f q k v = numL x f q k v := by
        intro f q
        induction q with
        | zero => intro k v; rfl
        | succ q ih => intro k v; rw [numL, numL, lS, ih]
      have nN : ∀ f d, lNum y f d = lNum x f d := fun f d => nL f _ _ _
      have nK : lKey y (9 * k) = lKey x (9 * k) := by unfold lKey; rw [lS]
      have nV : lVal y (wI (9 * k + 5)) = lVal x (wI (9 * k + 5)) := by unfold lVal; rw [lS, nN]
      have eA : lCEA y (9 * k) = setW y 0 (wComeE (y.2.2 0) (lKey x (9 * k)) (lNum x (wI (9 * k + 1)) 4) (lVal x (wI (9 * k + 5))) (lNum x (wI (9 * k + 8)) 1)) := by
        unfold lCEA
        rw [nK, nN, nV, nN]
      have eF : lCEF y (9 * k) = hw1 (gD 0 s) (lNum x (wI (9 * k + 1)) 4) := by
        unfold lCEF
        rw [nN, nN]
        exact hr.1.fate _ _
      have hh : mHow s 0 (lNum x (wI (9 * k + 1)) 4) = hw1 (gD 0 s) (lNum x (wI (9 * k + 1)) 4) := sA.self.how _
      have hb := hw1_b (gD 0 s) (lNum x (wI (9 * k + 1)) 4)
      have eL : evL len (M + 1) (9 * k) t y = evL len M (9 * k + 9) (if lCEF y (9 * k) = 2 then t else t + 1) (lCEA y (9 * k)) := if_neg (by omega)
      rw [eL, eF, eA] at kk
      refine ⟨⟨by rw [ha.2.2.2, v8]; omega, g6.1, by omega⟩, 650, ?_⟩
      rw [ha.1, ha.2.1, ha.2.2.1, ha.2.2.2, v5, v6, v7, v8, hh]
      refine hr.comeM hd ⟨by decide, by decide⟩ (by omega) b5 b6 (lVal_B _ _) ⟨b8.1, by rw [gD0]; omega⟩ (fun s' r' d' o e => ?_)
      have et : (if hw1 (gD 0 s) (lNum x (wI (9 * k + 1)) 4) = 2 then t else t + 1) = t + (if hw1 (gD 0 s) (lNum x (wI (9 * k + 1)) 4) < 2 then 1 else 0) := by
        split <;> split <;> omega
      rw [et] at kk
      refine cl_sp (x := x) (u := u) (len := len) n (k + 1) _ M s' (setW y 0 (wComeE (y.2.2 0) (lKey x (9 * k)) (lNum x (wI (9 * k + 1)) 4) (lVal x (wI (9 * k + 5))) (lNum x (wI (9 * k + 8)) 1))) (by omega) (by omega) (by omega) (fun j j0 j1 => hv j (by omega) (by omega)) hx ?_ r' (wok_ComeE ho) d' ?_ (by rw [e]; omega) (fun t' s2 w' e2 r2 o2 d2 oo => kk t' s2 w' ?_ r2 o2 d2 (o.trans oo))
      · rw [o.2.2 5 (by decide) (by decide), o.2.2 6 (by decide) (by decide), o.2.2 7 (by decide) (by decide), o.2.2 8 (by decide) (by decide)]
        exact ha
      · exact (hr.1.evz (by rw [gD0]; have g6 : mg s (0 * 2804 + 6) + _ ≤ 160 := h6; show mg s 6 < 160; have : mg s 6 = mg s (0 * 2804 + 6) := rfl; omega) b5 b6 ⟨b8.1, by rw [gD0]; omega⟩).trans hz
      · rw [show 9 * k + 9 = 9 * (k + 1) by omega, e2, setW_setW]
section SE
variable {x : LSt} {m : MS} {K : Int → PS → LSt → MS → Prop}
theorem st_events (h : lwR x m) (kk : ∀ q x' m', lwR x' m' → K q [pI q] x' m') : sX2_events x (fun v' x' => ∃ q, v' = [pI q] ∧ sX3_events m (fun w m' => K q w x' m')) := by
  have i4 := h.2.1.1
  have z := h.2.1.mok
  have z0 := z0_eq h.w0
  refine ⟨h.1, _, rfl, ⟨i4, z.1, h.2.1.six⟩, ?_⟩
  have hg := gRd_gd i4 z.1
  have f := reL_f 80 0 (gRd m) hg (by decide) (by show (0 : Int) ≤ 0; decide)
  have tE0 : tE (setS x 4 0) ((gRd m).2 2) (m.1 4) := ⟨i4.2, fun j j0 j1 => h.2.2.1.2 j j0 j1⟩
  have e := reL_em (x := setS x 4 0) (len := m.1 4) (by show wZ (x.2.2 0) 0 ≤ 4; omega) 10 0 0 (gRd m) 80 (by decide) rfl rfl tE0 z0.symm (by decide) (by decide) i4.1 (by omega)
  generalize reL 80 0 (gRd m) = p at f e ⊢
  obtain ⟨I, e4, e12⟩ := f.1.inv h.2.1
  have hu : lwR (setS x 4 0) p.2.2 := h.len ⟨Int.le_refl _, i4.1⟩ I e4 (f.1.1 8 (by decide)) (f.1.2 3 (by decide) (by decide) (by decide) (by decide) (by decide)) e12 (f.1.2 2 (by decide) (by decide) (by decide) (by decide) (by decide))
  have ex : fEvents x = fEv1 (setS x 4 0) (m.1 4) := by unfold fEvents; rw [h.2.2.1.1]
  rw [ex]
  generalize setS x 4 0 = y at e hu ⊢
  have z6 := (z6_eq hu.w0).1
  by_cases c : 0 ≤ lEm y (m.1 4)
  · obtain ⟨r1, r2⟩ := e.1 c
    have e1 : fEv1 y (m.1 4) = (-1 - lEm y (m.1 4), y) := if_pos c
    rw [e1]
    refine ⟨fun _ => ?_, fun q => absurd r1 q⟩
    rw [r2]
    exact kk _ _ _ hu
  · obtain ⟨r1, r2, r3, r4, -⟩ := e.2 (by unfold lEm at c; omega)
    have q6 : mg p.2.2 (0 * 2804 + 6) = mg p.2.2 6 := rfl
    refine ⟨fun q => absurd q (by rw [r1]; decide), fun _ => ⟨fun c6 => ?_, fun c6 => ?_⟩⟩
    · have e1 : fEv1 y (m.1 4) = (-3, y) := (if_neg c).trans (if_pos (by omega))
      rw [e1]
      exact kk _ _ _ hu
    · by_cases cN : 0 < p.2.1
      · have e1 : fEv1 y (m.1 4) = fEv2 (lRem y) (m.1 4) := (if_neg c).trans ((if_neg (by omega)).trans (if_pos (by omega)))
        rw [e1]
        have hp := hu.pre
        obtain ⟨⟨-, -, rt⟩, -, -, -⟩ := rem_c hu.1.1
        have rz := rem_0 hu.1.1
        have c7 : mg (mCopy p.2.2 0 3) (0 * 2804 + 6) = mg p.2.2 (0 * 2804 + 6) := copy_ne (by decide) (by decide) (by decide)
        refine cl_sp (x := y) (u := p.2.2) (len := m.1 4) p.2.1.toNat 0 0 10 (mCopy p.2.2 0 3) (lRem y) (by omega) (by decide) (by omega) (fun j j0 j1 => ?_) rt ⟨rfl, rfl, rfl, rfl⟩ (by rw [rz]; exact hp.wW) (by rw [rz]; exact hu.1.2.2.2 0 (by decide)) hp.2.1.2.2.2.1 (by rw [rz]) (by rw [c7]; omega) (fun t' s' w' e2 r' o' d' oo => ?_)
        · have := r4 j j0 (by omega)
          rw [show 0 + 9 * (j - 0) = 9 * j by omega] at this
          exact this
        · have e3 : evL (m.1 4) 10 0 0 (lRem y) = (t', setW (lRem y) 0 w') := e2
          have ef : ∃ a b, fEv2 (lRem y) (m.1 4) = (t', lTell2 (setW (lRem y) 0 w') a b) := ⟨_, _, by unfold fEv2; rw [e3]; rfl⟩
          obtain ⟨a, b, ef⟩ := ef
          rw [ef]
          have af := (Aft.of I d' oo).e2 (p := wI (mg s' (0 * 2804 + 7) - mg s' (3 * 2804 + 7))) (q := mg s' (0 * 2804 + 4))
          have d := hu.done (w' := w') af (rW.cong r' (fun c _ _ => rfl)) o'
          exact ⟨fun _ => ⟨af.uok, kk _ _ _ (d.ask (qx_2 d.1) (Qn.self d.2.1))⟩, fun q => absurd q (by omega)⟩
      · have e1 : fEv1 y (m.1 4) = fEv2 y (m.1 4) := (if_neg c).trans ((if_neg (by omega)).trans (if_neg (by omega)))
        rw [e1]
        have e3 : evL (m.1 4) 10 0 0 y = (0, y) := if_pos (by omega)
        have ef : ∃ a b, fEv2 y (m.1 4) = (0, lTell2 y a b) := ⟨_, _, by unfold fEv2; rw [e3]; rfl⟩
        obtain ⟨a, b, ef⟩ := ef
        rw [ef, show p.2.1.toNat = 0 by omega]
        have hp := hu.pre
        exact ⟨fun q => absurd q cN, fun _ => kk _ _ _ (hp.ask (qx_2 hp.1) (Qn.self hp.2.1).e2)⟩
end SE
