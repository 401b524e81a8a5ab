/-! ===== what an input does to a desk, but for its sessions: exactly ===== -/
def zA (c : Int) : Prop := c < 5 ∨ c = 6 ∨ (8 ≤ c ∧ c < 11) ∨ (12 ≤ c ∧ c < 32) ∨ 1844 ≤ c
/-- the desk's cells but for sessions are g's -/
def sA (d : Int) (s : MS) (g : Int → Int) : Prop := ∀ c, 0 ≤ c → zA c → mg s (d * 2804 + c) = g c
theorem sA.put {d : Int} {s : MS} {g : Int → Int} (h : sA d s g) (hd : 0 ≤ d) {x a v : Int} (hx : x = d * 2804 + a) (ha : 0 ≤ a) : sA d (mP s x v) (up1 g a v) := by
  subst hx
  intro c c0 hc
  by_cases e : c = a
  · subst e
    rw [mg_eq, up1_eq]
  · rw [mg_ne (by omega) (by omega) (by omega), up1_ne e]
    exact h c c0 hc
theorem sA.inc {d : Int} {s : MS} {g : Int → Int} (h : sA d s g) (hd : 0 ≤ d) {x a v : Int} (hx : x = d * 2804 + a) (ha : 0 ≤ a) (hz : zA a) : sA d (mInc s x v) (in1 g a v) := by
  unfold in1
  rw [← h a ha hz]
  subst hx
  exact h.put hd rfl ha
theorem sA.same {d : Int} {s s' : MS} {g : Int → Int} (h : sA d s g) (e : ∀ c, 0 ≤ c → zA c → mg s' (d * 2804 + c) = mg s (d * 2804 + c)) : sA d s' g := fun c c0 hc => (e c c0 hc).trans (h c c0 hc)
theorem sA.cong {d : Int} {s s' : MS} {g : Int → Int} (h : sA d s g) (e : s'.2 3 = s.2 3) : sA d s' g := h.same (fun _ _ _ => mg_cong e _)
theorem sA.note {d a r t k v b : Int} {s : MS} {g : Int → Int} (h : sA d s g) (hd : 0 ≤ d) (h6 : 0 ≤ g 6) : sA d (mNote s d a r t k v b) (nt1 g a r t k v b) := by
  unfold mNote nt1
  dsimp only
  rw [h 6 (by decide) (Or.inr (Or.inl rfl))]
  exact ((((((h.put hd (a := 1844 + 6 * g 6 + 0) (by omega) (by omega)).put hd (a := 1844 + 6 * g 6 + 1) (by omega) (by omega)).put hd (a := 1844 + 6 * g 6 + 2) (by omega) (by omega)).put hd (a := 1844 + 6 * g 6 + 3) (by omega) (by omega)).put hd (a := 1844 + 6 * g 6 + 4) (by omega) (by omega)).put hd (a := 1844 + 6 * g 6 + 5) (by omega) (by omega)).inc hd rfl (by decide) (Or.inr (Or.inl rfl))
theorem lmM_eq {d : Int} {s : MS} {g : Int → Int} (h : sA d s g) : ∀ (n : Nat) (r l : Int), 0 ≤ r → r + n ≤ 4 → lmM s d n r l = lm1 g n r l
  | 0, _, _, _, _ => rfl
  | n + 1, r, l, h0, h1 => by
    rw [lmM, lm1, lmM_eq h n (r + 1) _ (by omega) (by omega), h (20 + r) (by omega) (by unfold zA; omega), h (12 + r) (by omega) (by unfold zA; omega)]
theorem sA.least {d : Int} {s : MS} {g : Int → Int} (h : sA d s g) (h0 : g 0 ≤ 4) : mLeast s d = ls1 g := by
  unfold mLeast ls1
  rw [h 0 (by decide) (Or.inl (by decide))]
  exact lmM_eq h _ 0 (-1) (by decide) (by omega)
theorem sA.how {d : Int} {s : MS} {g : Int → Int} (h : sA d s g) (t : Int) : mHow s d t = hw1 g t := by
  unfold mHow hw1
  rw [h 4 (by decide) (Or.inl (by decide)), h 2 (by decide) (Or.inl (by decide))]
/-- the progress may rise -/
theorem risA {d n b : Int} {s : MS} {g : Int → Int} {K : MS → Prop} (hS : sA d s g) (h0 : g 0 ≤ 4) (hV : dV d n b s) (hr : okRs d s) (hd : dOk d) (hn : n ≤ 161) (hb : b + 2000 ≤ 1000000) (kk : ∀ s', sA d s' (ri1 g) → (∀ c, 0 ≤ d * 2804 + c → hC c → c ≠ 4 → mg s' (d * 2804 + c) = mg s (d * 2804 + c)) → sF s s' → mg s (d * 2804 + 7) ≤ mg s' (d * 2804 + 7) → dV d n (b + 2000) s' → K s') : mRisP s d 650 K := by
  have hd0 : 0 ≤ d := hd.1
  have hl := hS.least h0
  have h4 := hS 4 (by decide) (Or.inl (by decide))
  refine ⟨fun c => ?_, fun c => ?_⟩
  · rw [hl, h4] at c
    refine kk s ?_ (fun _ _ _ _ => rfl) sF.same (Int.le_refl _) (hV.more (by omega))
    unfold ri1
    rw [show max (g 4) (ls1 g) = g 4 by omega, up1_id]
    exact hS
  · rw [hl, h4] at c
    have fr : ∀ x, 0 ≤ x → x ≠ d * 2804 + 4 → mg (mRise0 s d) x = mg s x := fun x hx h => mg_ne (s := s) (v := mLeast s d) (by omega) hx (fun e => h e.symm)
    have S0 : sF s (mRise0 s d) := (cF_P.s.trans (sF_S (Or.inl rfl))).trans (sF_S (Or.inr (Or.inl rfl)))
    have V : dV d n b (mRise0 s d) := hV.at hd hn (fun c hc => fr _ (by omega) (by omega))
    have R : okRs d (mRise0 s d) := hr.at hV hd hn (fun c hc => fr _ (by omega) (by omega))
    have A : sA d (mRise0 s d) (ri1 g) := by
      unfold ri1
      rw [show max (g 4) (ls1 g) = ls1 g by omega, ← hl]
      exact (hS.put hd0 rfl (by decide)).cong rfl
    have h5 := V.1
    refine ⟨by omega, rr2_ok hd hn V R (by omega) (fun s1 F1 V1 => ⟨by rw [F1.five hd]; omega, cc_ok hd hn 650 (b + 1300) s1 V1 (by omega) (by rw [F1.five hd]; omega) (fun s2 H2 V2 => ?_)⟩)⟩
    have H := F1.hd.trans H2
    refine kk s2 (A.same (fun c c0 hc => H.1 c (by omega) (by unfold zA at hc; unfold hC; omega))) (fun c c0 hc h4 => ?_) (S0.trans H.2.1) (by have := H.2.2.2.2; rw [fr _ (by omega) (by omega)] at this; exact this) (V2.more (by omega))
    rw [H.1 c c0 hc]
    exact fr _ c0 (by omega)
/-- an input's last steps -/
def le1 (g : Int → Int) (t r : Int) : Int → Int :=
  let g3 := up1 (in1 g (24 + r) 1) (20 + r) 0
  ri1 (ra1 g3 r (wI (t - g3 (16 + r))))
theorem le1_pE {g : Int → Int} {t r : Int} (hr : 0 ≤ r ∧ r < 4) : le1 (fa1 g (hw1 g t) r) t r = pE1 g t r := by
  have e : in1 (fa1 g (hw1 g t) r) (24 + r) 1 = fa1 (in1 g (24 + r) 1) (hw1 g t) r := by
    unfold fa1
    split
    · rw [in1_comm (x := 28 + r) (y := 24 + r) (by omega), in1_comm (x := 10) (y := 24 + r) (by omega)]
    · rw [in1_comm (x := 9) (y := 24 + r) (by omega), in1_comm (x := 8) (y := 24 + r) (by omega)]
  have hw : hw1 (in1 g (24 + r) 1) t = hw1 g t := hw1_cong t (in1_ne (by omega)) (in1_ne (by omega))
  unfold le1 pE1
  dsimp only
  rw [e]
theorem cmEA {d n b t r : Int} {s : MS} {g : Int → Int} {K : MS → Prop} (hS : sA d s g) (hV : dV d n b s) (hr : okRs d s) (hd : dOk d) (hn : n ≤ 161) (hb : b + 2000 ≤ 1000000) (h0 : g 0 ≤ 4) (hs : 0 ≤ r ∧ r ≤ 3) (kk : ∀ s', sA d s' (le1 g t r) → (∀ c, 0 ≤ d * 2804 + c → zC c → mg s' (d * 2804 + c) = mg s (d * 2804 + c)) → sF s s' → dV d n (b + 2000) s' → K s') : cmE s d t r 650 K := by
  have hd0 : 0 ≤ d := hd.1
  unfold cmE
  dsimp only
  have A3 : sA d (mP (mInc s (d * 2804 + (24 + r)) 1) (d * 2804 + (20 + r)) 0) (up1 (in1 g (24 + r) 1) (20 + r) 0) := (hS.inc hd0 rfl (by omega) (by unfold zA; omega)).put hd0 rfl (by omega)
  have f3 : ∀ c, 0 ≤ d * 2804 + c → (c < 20 ∨ 28 ≤ c) → mg (mP (mInc s (d * 2804 + (24 + r)) 1) (d * 2804 + (20 + r)) 0) (d * 2804 + c) = mg s (d * 2804 + c) := fun c c0 h => by
    rw [mg_ne (by omega) (by omega) (by omega), mInc_ne (by omega) (by omega) (by omega)]
  have S3 : sF s (mP (mInc s (d * 2804 + (24 + r)) 1) (d * 2804 + (20 + r)) 0) := (cF_I.trans cF_P).s
  generalize mP (mInc s (d * 2804 + (24 + r)) 1) (d * 2804 + (20 + r)) 0 = s3 at A3 f3 S3 ⊢
  have e1 := A3 (12 + r) (by omega) (by unfold zA; omega)
  have e2 := A3 (16 + r) (by omega) (by unfold zA; omega)
  rw [e1, e2]
  have A4 : sA d (mP s3 (d * 2804 + (12 + r)) (max ((up1 (in1 g (24 + r) 1) (20 + r) 0) (12 + r)) (wI (t - (up1 (in1 g (24 + r) 1) (20 + r) 0) (16 + r))))) (ra1 (up1 (in1 g (24 + r) 1) (20 + r) 0) r (wI (t - (up1 (in1 g (24 + r) 1) (20 + r) 0) (16 + r)))) := A3.put hd0 rfl (by omega)
  have f4 : ∀ c, 0 ≤ d * 2804 + c → (c < 12 ∨ (16 ≤ c ∧ c < 20) ∨ 28 ≤ c) → mg (mP s3 (d * 2804 + (12 + r)) (max ((up1 (in1 g (24 + r) 1) (20 + r) 0) (12 + r)) (wI (t - (up1 (in1 g (24 + r) 1) (20 + r) 0) (16 + r))))) (d * 2804 + c) = mg s (d * 2804 + c) := fun c c0 h => by
    rw [mg_ne (by omega) (by omega) (by omega)]
    exact f3 c c0 (by omega)
  have S4 : sF s (mP s3 (d * 2804 + (12 + r)) (max ((up1 (in1 g (24 + r) 1) (20 + r) 0) (12 + r)) (wI (t - (up1 (in1 g (24 + r) 1) (20 + r) 0) (16 + r))))) := S3.trans cF_P.s
  generalize mP s3 (d * 2804 + (12 + r)) (max ((up1 (in1 g (24 + r) 1) (20 + r) 0) (12 + r)) (wI (t - (up1 (in1 g (24 + r) 1) (20 + r) 0) (16 + r)))) = s4 at A4 f4 S4 ⊢
  have z0 : ra1 (up1 (in1 g (24 + r) 1) (20 + r) 0) r (wI (t - (up1 (in1 g (24 + r) 1) (20 + r) 0) (16 + r))) 0 ≤ 4 := by
    unfold ra1
    rw [up1_ne (by omega), up1_ne (by omega), in1_ne (by omega)]
    exact h0
  refine ⟨by rw [f4 0 (by omega) (by omega), hS 0 (by decide) (Or.inl (by decide))]; exact h0, risA A4 z0 (hV.at hd hn (fun c hc => f4 c (by omega) (by omega))) (hr.at hV hd hn (fun c hc => f4 c (by omega) (by omega))) hd hn hb (fun s5 A5 h5 S5 _ V5 => kk s5 A5 (fun c c0 hc => ?_) (S4.trans S5) V5)⟩
  rw [h5 c c0 (by unfold hC; omega) (by omega), f4 c c0 (by omega)]
theorem cmA0 {d n b j k t v r : Int} {s : MS} {g : Int → Int} {K : MS → Prop} (hS : sA d s g) (hV : dV d n b s) (hd : dOk d) (hn : n ≤ 160) (hb : b + 2700 ≤ 1000000) (h0 : g 0 ≤ 4) (h6 : mg s (d * 2804 + 6) = j) (hj : 0 ≤ j ∧ j ≤ 159) (hk : 0 ≤ k ∧ k ≤ 5) (hs : 0 ≤ r ∧ r ≤ 3) (kk : ∀ s', sA d s' (pE1 (nt1 g 0 r t k v (if hw1 g t < 2 then 1 else 0)) t r) → cR d j 0 r k s s' → dV d (n + 1) (b + 2700) s' → K s') : mComeP s d k t v r 650 K := by
  have hd0 : 0 ≤ d := hd.1
  have hj6 : 0 ≤ mg s (d * 2804 + 6) ∧ mg s (d * 2804 + 6) ≤ 159 := by rw [h6]; exact hj
  have g6 : g 6 = j := (hS 6 (by decide) (Or.inr (Or.inl rfl))).symm.trans h6
  have hok : okRs d s := fun i i0 i1 i2 => hV.2.2.2.2 hn i i0 i2
  have hw := hS.how t
  have hr4 : 0 ≤ r ∧ r < 4 := by omega
  have N0 : ∀ x, nt1 g 0 r t k v x 0 = g 0 := fun x => nt1_ne (by decide) (by omega)
  have NH : ∀ x, hw1 (nt1 g 0 r t k v x) t = hw1 g t := fun x => hw1_cong t (nt1_ne (by decide) (by omega)) (nt1_ne (by decide) (by omega))
  have fin : ∀ x, x = (if hw1 g t < 2 then (1 : Int) else 0) → ∀ s', sA d s' (le1 (fa1 (nt1 g 0 r t k v x) (hw1 g t) r) t r) → sA d s' (pE1 (nt1 g 0 r t k v (if hw1 g t < 2 then 1 else 0)) t r) := fun x hx s' h => by
    have := le1_pE (g := nt1 g 0 r t k v x) (t := t) hr4
    rw [NH] at this
    rw [this] at h
    rw [← hx]
    exact h
  refine ⟨fun c2 => ?_, fun c2 => ?_⟩
  · rw [hw] at c2 ⊢
    have A0 : sA d (mInc (mInc (mS (mNote s d 0 r t k v 1) 12 0) (d * 2804 + 8) 1) (d * 2804 + 9) (hw1 g t)) (fa1 (nt1 g 0 r t k v 1) (hw1 g t) r) := by
      unfold fa1
      rw [if_neg (by omega)]
      exact (((hS.note hd0 (by omega)).cong (s' := mS (mNote s d 0 r t k v 1) 12 0) rfl).inc hd0 rfl (by decide) (by unfold zA; omega)).inc hd0 rfl (by decide) (by unfold zA; omega)
    have lo : ∀ c, 0 ≤ d * 2804 + c → (c ≠ 8 ∧ c ≠ 9) → mg (mInc (mInc (mS (mNote s d 0 r t k v 1) 12 0) (d * 2804 + 8) 1) (d * 2804 + 9) (hw1 g t)) (d * 2804 + c) = mg (mNote s d 0 r t k v 1) (d * 2804 + c) := fun c c0 h => by
      rw [mInc_ne (by omega) (by omega) (by omega), mInc_ne (by omega) (by omega) (by omega)]
      rfl
    have S0 : sF s (mInc (mInc (mS (mNote s d 0 r t k v 1) 12 0) (d * 2804 + 8) 1) (d * 2804 + 9) (hw1 g t)) := ((note_c.s.trans (sF_S (Or.inr (Or.inr rfl)))).trans cF_I.s).trans cF_I.s
    generalize mInc (mInc (mS (mNote s d 0 r t k v 1) 12 0) (d * 2804 + 8) 1) (d * 2804 + 9) (hw1 g t) = u at A0 lo S0 ⊢
    have Vu : dV d n b u := hV.at hd (by omega) (fun c hc => by rw [lo c (by omega) (by omega), note_lo hd hj6.1 (by omega) (by omega) (by omega)])
    have F0 : fa1 (nt1 g 0 r t k v 1) (hw1 g t) r 0 ≤ 4 := by rw [fa1_ne hr4 (by decide), N0]; exact h0
    refine join_ok Vu hd hn (by omega) hk (fun s2 G2 S2 V2 R2 => cmEA (A0.same (fun c c0 hc => G2 c (by omega) (by unfold zA at hc; unfold hC; omega))) V2 R2 hd (by omega) (by omega) F0 hs (fun s3 A3 G3 S3 V3 => kk s3 (fin 1 (if_pos c2).symm s3 A3) (cR_of hd h6 hj (fun c c0 hc => lo c c0 (by omega)) S0 (fun c c0 hc => ?_) (S2.trans S3)) (V3.more (by omega))))
    rw [G3 c c0 hc, G2 c c0 (by unfold hC; omega)]
  · rw [hw] at c2
    have A0 : sA d (mInc (mInc (mS (mNote s d 0 r t k v 0) 12 0) (d * 2804 + 10) 1) (d * 2804 + (28 + r)) 1) (fa1 (nt1 g 0 r t k v 0) (hw1 g t) r) := by
      unfold fa1
      rw [if_pos c2]
      exact (((hS.note hd0 (by omega)).cong (s' := mS (mNote s d 0 r t k v 0) 12 0) rfl).inc hd0 rfl (by decide) (by unfold zA; omega)).inc hd0 rfl (by omega) (by unfold zA; omega)
    have lo : ∀ c, 0 ≤ d * 2804 + c → (c ≠ 10 ∧ (c < 28 ∨ 32 ≤ c)) → mg (mInc (mInc (mS (mNote s d 0 r t k v 0) 12 0) (d * 2804 + 10) 1) (d * 2804 + (28 + r)) 1) (d * 2804 + c) = mg (mNote s d 0 r t k v 0) (d * 2804 + c) := fun c c0 h => by
      rw [mInc_ne (by omega) (by omega) (by omega), mInc_ne (by omega) (by omega) (by omega)]
      rfl
    have S0 : sF s (mInc (mInc (mS (mNote s d 0 r t k v 0) 12 0) (d * 2804 + 10) 1) (d * 2804 + (28 + r)) 1) := ((note_c.s.trans (sF_S (Or.inr (Or.inr rfl)))).trans cF_I.s).trans cF_I.s
    generalize mInc (mInc (mS (mNote s d 0 r t k v 0) 12 0) (d * 2804 + 10) 1) (d * 2804 + (28 + r)) 1 = u at A0 lo S0 ⊢
    have eq : ∀ c, (c = 5 ∨ c = 7 ∨ (36 ≤ c ∧ c < 42) ∨ (364 ≤ c ∧ c < 1491)) → mg u (d * 2804 + c) = mg s (d * 2804 + c) := fun c hc => by rw [lo c (by omega) (by omega), note_lo hd hj6.1 (by omega) (by omega) (by omega)]
    have F0 : fa1 (nt1 g 0 r t k v 0) (hw1 g t) r 0 ≤ 4 := by rw [fa1_ne hr4 (by decide), N0]; exact h0
    exact cmEA A0 (hV.at hd (by omega) eq) (hok.at hV hd (by omega) eq) hd (by omega) (by omega) F0 hs (fun s3 A3 G3 S3 V3 => kk s3 (fin 0 (if_neg (by omega)).symm s3 A3) (cR_of hd h6 hj (fun c c0 hc => lo c c0 (by omega)) S0 G3 S3) ((V3.wide (by omega) hn).more (by omega)))
theorem mkA0 {d n b j t r : Int} {s : MS} {g : Int → Int} {K : MS → Prop} (hS : sA d s g) (hV : dV d n b s) (hd : dOk d) (hn : n ≤ 160) (hb : b + 2700 ≤ 1000000) (h0 : g 0 ≤ 4) (h6 : mg s (d * 2804 + 6) = j) (hj : 0 ≤ j ∧ j ≤ 159) (hs : 0 ≤ r ∧ r ≤ 3) (kk : ∀ s', sA d s' (pM1 (nt1 g 1 r t (-1) 0 0) t r) → mg s (d * 2804 + 7) ≤ mg s' (d * 2804 + 7) → cR d j 1 r (-1) s s' → dV d (n + 1) (b + 2700) s' → K s') : mMarkP s d r t 650 K := by
  have hd0 : 0 ≤ d := hd.1
  have hj6 : 0 ≤ mg s (d * 2804 + 6) ∧ mg s (d * 2804 + 6) ≤ 159 := by rw [h6]; exact hj
  have g6 : g 6 = j := (hS 6 (by decide) (Or.inr (Or.inl rfl))).symm.trans h6
  have hok : okRs d s := fun i i0 i1 i2 => hV.2.2.2.2 hn i i0 i2
  unfold mMarkP
  dsimp only
  have A0 : sA d (mP (mNote s d 1 r t (-1) 0 0) (d * 2804 + (12 + r)) t) (up1 (nt1 g 1 r t (-1) 0 0) (12 + r) t) := (hS.note hd0 (by omega)).put hd0 rfl (by omega)
  have lo : ∀ c, 0 ≤ d * 2804 + c → (c < 12 ∨ 16 ≤ c) → mg (mP (mNote s d 1 r t (-1) 0 0) (d * 2804 + (12 + r)) t) (d * 2804 + c) = mg (mNote s d 1 r t (-1) 0 0) (d * 2804 + c) := fun c c0 h => mg_ne (by omega) (by omega) (by omega)
  have S0 : sF s (mP (mNote s d 1 r t (-1) 0 0) (d * 2804 + (12 + r)) t) := note_c.s.trans cF_P.s
  have z0 : up1 (nt1 g 1 r t (-1) 0 0) (12 + r) t 0 ≤ 4 := by rw [up1_ne (by omega), nt1_ne (by decide) (by omega)]; exact h0
  generalize mP (mNote s d 1 r t (-1) 0 0) (d * 2804 + (12 + r)) t = u at A0 lo S0 ⊢
  have eq : ∀ c, (c = 5 ∨ c = 7 ∨ (36 ≤ c ∧ c < 42) ∨ (364 ≤ c ∧ c < 1491)) → mg u (d * 2804 + c) = mg s (d * 2804 + c) := fun c hc => by rw [lo c (by omega) (by omega), note_lo hd hj6.1 (by omega) (by omega) (by omega)]
  refine ⟨?_, risA A0 z0 (hV.at hd (by omega) eq) (hok.at hV hd (by omega) eq) hd (by omega) (by omega) (fun s3 A3 G3 S3 L3 V3 => kk s3 A3 (by rw [lo 7 (by omega) (by omega), note_lo hd hj6.1 (by omega) (by omega) (by omega)] at L3; exact L3) (cR_of hd h6 hj (fun c c0 hc => lo c c0 (by omega)) S0 (fun c c0 hc => G3 c c0 (by unfold hC; omega) (by omega)) S3) ((V3.wide (by omega) hn).more (by omega)))⟩
  rw [A0 0 (by decide) (Or.inl (by decide))]
  exact z0
theorem idA0 {d n b j r : Int} {s : MS} {g : Int → Int} {K : MS → Prop} (hS : sA d s g) (hV : dV d n b s) (hd : dOk d) (hn : n ≤ 160) (hb : b + 2700 ≤ 1000000) (h0 : g 0 ≤ 4) (h6 : mg s (d * 2804 + 6) = j) (hj : 0 ≤ j ∧ j ≤ 159) (hs : 0 ≤ r ∧ r ≤ 3) (kk : ∀ s', sA d s' (pI1 (nt1 g 2 r 0 (-1) 0 0) r) → mg s (d * 2804 + 7) ≤ mg s' (d * 2804 + 7) → cR d j 2 r (-1) s s' → dV d (n + 1) (b + 2700) s' → K s') : mIdleP s d r 650 K := by
  have hd0 : 0 ≤ d := hd.1
  have hj6 : 0 ≤ mg s (d * 2804 + 6) ∧ mg s (d * 2804 + 6) ≤ 159 := by rw [h6]; exact hj
  have g6 : g 6 = j := (hS 6 (by decide) (Or.inr (Or.inl rfl))).symm.trans h6
  have hok : okRs d s := fun i i0 i1 i2 => hV.2.2.2.2 hn i i0 i2
  unfold mIdleP
  dsimp only
  have A0 : sA d (mP (mNote s d 2 r 0 (-1) 0 0) (d * 2804 + (20 + r)) 1) (up1 (nt1 g 2 r 0 (-1) 0 0) (20 + r) 1) := (hS.note hd0 (by omega)).put hd0 rfl (by omega)
  have lo : ∀ c, 0 ≤ d * 2804 + c → (c < 20 ∨ 24 ≤ c) → mg (mP (mNote s d 2 r 0 (-1) 0 0) (d * 2804 + (20 + r)) 1) (d * 2804 + c) = mg (mNote s d 2 r 0 (-1) 0 0) (d * 2804 + c) := fun c c0 h => mg_ne (by omega) (by omega) (by omega)
  have S0 : sF s (mP (mNote s d 2 r 0 (-1) 0 0) (d * 2804 + (20 + r)) 1) := note_c.s.trans cF_P.s
  have z0 : up1 (nt1 g 2 r 0 (-1) 0 0) (20 + r) 1 0 ≤ 4 := by rw [up1_ne (by omega), nt1_ne (by decide) (by omega)]; exact h0
  generalize mP (mNote s d 2 r 0 (-1) 0 0) (d * 2804 + (20 + r)) 1 = u at A0 lo S0 ⊢
  have eq : ∀ c, (c = 5 ∨ c = 7 ∨ (36 ≤ c ∧ c < 42) ∨ (364 ≤ c ∧ c < 1491)) → mg u (d * 2804 + c) = mg s (d * 2804 + c) := fun c hc => by rw [lo c (by omega) (by omega), note_lo hd hj6.1 (by omega) (by omega) (by omega)]
  refine ⟨?_, risA A0 z0 (hV.at hd (by omega) eq) (hok.at hV hd (by omega) eq) hd (by omega) (by omega) (fun s3 A3 G3 S3 L3 V3 => kk s3 A3 (by rw [lo 7 (by omega) (by omega), note_lo hd hj6.1 (by omega) (by omega) (by omega)] at L3; exact L3) (cR_of hd h6 hj (fun c c0 hc => lo c c0 (by omega)) S0 (fun c c0 hc => G3 c c0 (by unfold hC; omega) (by omega)) S3) ((V3.wide (by omega) hn).more (by omega)))⟩
  rw [A0 0 (by decide) (Or.inl (by decide))]
  exact z0
/-! on a desk as it always is -/
def gD (d : Int) (s : MS) : Int → Int := fun c => mg s (d * 2804 + c)
theorem sA.self {d : Int} {s : MS} : sA d s (gD d s) := fun _ _ _ => rfl
theorem dI.comeA {d k t v r : Int} {s : MS} {K : MS → Prop} (h : dI d s) (hd : dOk d) (h6 : mg s (d * 2804 + 6) ≤ 159) (hk : 0 ≤ k ∧ k ≤ 5) (hr : 0 ≤ r ∧ r ≤ 3) (kk : ∀ s', sA d s' (pE1 (nt1 (gD d s) 0 r t k v (if hw1 (gD d s) t < 2 then 1 else 0)) t r) → dI d s' → oD d s s' → mg s' (d * 2804 + 6) = mg s (d * 2804 + 6) + 1 → K s') : mComeP s d k t v r 650 K := by
  have q6 := h.2.1
  exact cmA0 sA.self h.2.2.1 hd (by omega) (by omega) h.1.2 rfl ⟨q6.1, h6⟩ hk hr (fun s' ha hc hV => by
    obtain ⟨a1, a2, a3⟩ := h.next hd rfl h6 hr (fun _ => hk) hc hV
    exact kk s' ha a1 a2 a3)
theorem dI.markA {d t r : Int} {s : MS} {K : MS → Prop} (h : dI d s) (hd : dOk d) (h6 : mg s (d * 2804 + 6) ≤ 159) (hr : 0 ≤ r ∧ r ≤ 3) (kk : ∀ s', sA d s' (pM1 (nt1 (gD d s) 1 r t (-1) 0 0) t r) → mg s (d * 2804 + 7) ≤ mg s' (d * 2804 + 7) → dI d s' → oD d s s' → mg s' (d * 2804 + 6) = mg s (d * 2804 + 6) + 1 → K s') : mMarkP s d r t 650 K := by
  have q6 := h.2.1
  exact mkA0 sA.self h.2.2.1 hd (by omega) (by omega) h.1.2 rfl ⟨q6.1, h6⟩ hr (fun s' ha hl hc hV => by
    obtain ⟨a1, a2, a3⟩ := h.next hd rfl h6 hr (fun e => absurd e (by decide)) hc hV
    exact kk s' ha hl a1 a2 a3)
theorem dI.idleA {d r : Int} {s : MS} {K : MS → Prop} (h : dI d s) (hd : dOk d) (h6 : mg s (d * 2804 + 6) ≤ 159) (hr : 0 ≤ r ∧ r ≤ 3) (kk : ∀ s', sA d s' (pI1 (nt1 (gD d s) 2 r 0 (-1) 0 0) r) → mg s (d * 2804 + 7) ≤ mg s' (d * 2804 + 7) → dI d s' → oD d s s' → mg s' (d * 2804 + 6) = mg s (d * 2804 + 6) + 1 → K s') : mIdleP s d r 650 K := by
  have q6 := h.2.1
  exact idA0 sA.self h.2.2.1 hd (by omega) (by omega) h.1.2 rfl ⟨q6.1, h6⟩ hr (fun s' ha hl hc hV => by
    obtain ⟨a1, a2, a3⟩ := h.next hd rfl h6 hr (fun e => absurd e (by decide)) hc hV
    exact kk s' ha hl a1 a2 a3)
