/-! ===== texts: the model reads ===== -/
-- X3_takesOf: heads [2]
def tX3_takesOf : Nat → Blk MS := fun pc => bif Nat.blt pc 50 then (bif Nat.blt pc 2 then (bif Nat.beq pc 0 then (oI 0 <| oIst 2 <| oM [true, true, true] (oTo 2)) else oNo) else (bif Nat.beq pc 2 then (oIld 2 <| oAld 1 <| oStrLength <| oCGe 56 <| oAld 0 <| oGet (fgM) 3 5 <| oAld 0 <| oGet (fgM) 3 6 <| oCGe 56 <| oAld 1 <| oIld 2 <| oStrCharat <| oAld 0 <| oGet (fgM) 3 3 <| oAld 0 <| oGet (fgM) 3 5 <| oIa (agM) <| oCNe 50 <| oAld 0 <| oDup <| oGet (fgM) 3 5 <| oI 1 <| oAdd <| oPut (fpM) 3 5 <| oIld 2 <| oIret) else oNo)) else (bif Nat.blt pc 56 then (bif Nat.beq pc 50 then (oInc 2 1 <| oM [true, true, true] (oTo 2)) else oNo) else (bif Nat.beq pc 56 then (oI (-1) <| oIret) else oNo))
theorem tX3_takesOf_ok : ∀ pc, bOk (encM) (bdM) mX3_takesOf 0 0 pc (tX3_takesOf pc) := fun pc => (tNode (tNode (tLeaf (okIc iX3_takesOf_0 <| okIstn iX3_takesOf_1 rfl (by decide) <| okM (okTo (tl rfl)))) (tLeaf (okIldn iX3_takesOf_2 rfl <| okAldn iX3_takesOf_3 rfl <| okStrLength iX3_takesOf_4 <| okCGe (tl rfl) iX3_takesOf_7 <| okAldn iX3_takesOf_10 rfl <| okGet (vFgM) iX3_takesOf_11 <| okAldn iX3_takesOf_14 rfl <| okGet (vFgM) iX3_takesOf_15 <| okCGe (tl rfl) iX3_takesOf_18 <| okAldn iX3_takesOf_21 rfl <| okIldn iX3_takesOf_22 rfl <| okStrCharat iX3_takesOf_23 <| okAldn iX3_takesOf_26 rfl <| okGet (vFgM) iX3_takesOf_27 <| okAldn iX3_takesOf_30 rfl <| okGet (vFgM) iX3_takesOf_31 <| okIa (vAgM) iX3_takesOf_34 <| okCNe (tl rfl) iX3_takesOf_35 <| okAldn iX3_takesOf_38 rfl <| okDup iX3_takesOf_39 <| okGet (vFgM) iX3_takesOf_40 <| okIc iX3_takesOf_43 <| okAdd iX3_takesOf_44 <| okPut (vFpM) iX3_takesOf_45 <| okIldn iX3_takesOf_48 rfl <| okIret iX3_takesOf_49 rfl))) (tNode (tLeaf (okInc iX3_takesOf_50 (by decide) <| okGotoM (tl rfl) iX3_takesOf_53)) (tLeaf (okIc iX3_takesOf_56 <| okIret iX3_takesOf_57 rfl)))) pc
def tkL (s : MS) (j : Nat) : Nat → Int → Int × MS
  | 0, _ => (-1, s)
  | m + 1, k => if s.1 6 ≤ s.1 5 then (-1, s) else if sbI j k = s.2 2 (s.1 5).toNat then (k, mS s 5 (s.1 5 + 1)) else tkL s j m (k + 1)
def gTk (s : MS) (j : Nat) : Int × MS := tkL s j (slI j).toNat 0
/-- reading goes on -/
def rF (s s' : MS) : Prop := (∀ k, k ≠ 5 → s'.1 k = s.1 k) ∧ (∀ a, a ≠ 5 → a ≠ 6 → a ≠ 7 → a ≠ 8 → a ≠ 11 → s'.2 a = s.2 a) ∧ s.1 5 ≤ s'.1 5 ∧ s'.1 5 ≤ max (s.1 5) (s.1 6)
theorem rF.same {s : MS} : rF s s := ⟨fun _ _ => rfl, fun _ _ _ _ _ _ => rfl, Int.le_refl _, by omega⟩
theorem rF.trans {s t u : MS} (h : rF s t) (g : rF t u) : rF s u := ⟨fun k hk => (g.1 k hk).trans (h.1 k hk), fun a p q r t v => (g.2.1 a p q r t v).trans (h.2.1 a p q r t v), by have := h.2.2; have := g.2.2; omega, by have h2 := h.2.2; have g2 := g.2.2; rw [h.1 6 (by decide)] at g2; omega⟩
theorem rF_A {s : MS} {a : Nat} {g : Nat → Int} (h : a = 5 ∨ a = 6 ∨ a = 7 ∨ a = 8 ∨ a = 11) : rF s (mA s a g) := ⟨fun _ _ => rfl, fun b h5 h6 h7 h8 h11 => mA_ne (by omega), Int.le_refl _, by show s.1 5 ≤ _; omega⟩
theorem tkL_f (s : MS) (j : Nat) : ∀ (m : Nat) (k : Int), 0 ≤ k → (tkL s j m k = (-1, s)) ∨ ((k ≤ (tkL s j m k).1 ∧ (tkL s j m k).1 < k + m) ∧ (tkL s j m k).2 = mS s 5 (s.1 5 + 1) ∧ s.1 5 < s.1 6)
  | 0, _, _ => Or.inl rfl
  | m + 1, k, hk => by
    rw [tkL]
    split
    · exact Or.inl rfl
    · split
      · exact Or.inr ⟨⟨Int.le_refl _, by show k < _; omega⟩, rfl, by omega⟩
      · rcases tkL_f s j m (k + 1) (by omega) with h | h
        · exact Or.inl h
        · exact Or.inr ⟨⟨by omega, by omega⟩, h.2⟩
theorem gTk_f (s : MS) (j : Nat) (hj : j < 9) : (-1 ≤ (gTk s j).1 ∧ (gTk s j).1 ≤ 9) ∧ rF s (gTk s j).2 ∧ (0 ≤ (gTk s j).1 → s.1 5 < (gTk s j).2.1 5) ∧ ((gTk s j).1 < slI j) := by
  have hs := slI_b j hj
  rcases tkL_f s j (slI j).toNat 0 (by decide) with h | ⟨h1, h2, h3⟩
  · have e : gTk s j = (-1, s) := h
    rw [e]
    exact ⟨⟨by show (-1 : Int) ≤ -1; decide, by show (-1 : Int) ≤ 9; decide⟩, rF.same, fun q => absurd q (by show ¬ (0 : Int) ≤ -1; decide), by show (-1 : Int) < _; omega⟩
  · have h1 : 0 ≤ (gTk s j).1 ∧ (gTk s j).1 < 0 + (((slI j).toNat : Nat) : Int) := h1
    have h2 : (gTk s j).2 = mS s 5 (s.1 5 + 1) := h2
    rw [h2]
    refine ⟨by omega, ⟨fun k hk => mS_ne hk, fun _ _ _ _ _ _ => rfl, by show s.1 5 ≤ s.1 5 + 1; omega, by show s.1 5 + 1 ≤ _; omega⟩, fun _ => by show s.1 5 < s.1 5 + 1; omega, by omega⟩
theorem X3_takesOf_l {K : KM} {Pt : MS → Prop} (s : MS) (j : Nat) (hj : j < 9) (h5 : 0 ≤ s.1 5) (h6 : s.1 6 ≤ 80) : ∀ (m : Nat) (k : Int), 0 ≤ k → k ≤ slI j → m = (slI j - k).toNat → K [pI (tkL s j m k).1] (tkL s j m k).2 → wX encM bdM mX3_takesOf 0 0 K Pt 2 [some (pR 0), some (pS j), some (pI k)] [] s := by
  intro m
  have hs := slI_b j hj
  induction m with
  | zero =>
    intro k h0 h1 hm hK
    refine wx_J [2] 9 tX3_takesOf_ok rfl (fun J hR hJ => ?_)
    have hK : K [pI (-1)] s := hK
    repeat' (first | (refine And.intro ?_ ?_) | (intro hq; first | (exact absurd hq (by omega)) | skip))
    all_goals first | omega | exact hR _ _ hK
  | succ m ih =>
    intro k h0 h1 hm hK
    refine wx_J [2] 9 tX3_takesOf_ok rfl (fun J hR hJ => ?_)
    rw [tkL] at hK
    have hc := sbI_B j k
    by_cases c : s.1 6 ≤ s.1 5
    · rw [if_pos c] at hK
      repeat' (first | (refine And.intro ?_ ?_) | (intro hq; first | (exact absurd hq (by omega)) | skip))
      all_goals first | omega | exact hR _ _ hK
    · rw [if_neg c] at hK
      by_cases c2 : sbI j k = s.2 2 (s.1 5).toNat
      · rw [if_pos c2] at hK
        repeat' (first | (refine And.intro ?_ ?_) | (intro hq; first | (exact absurd hq (by omega)) | skip))
        all_goals first | omega | exact hR _ _ hK | contradiction
      · rw [if_neg c2] at hK
        have g := ih (k + 1) (by omega) (by omega) (by omega) hK
        repeat' (first | (refine And.intro ?_ ?_) | (intro hq; first | (exact absurd hq (by omega)) | skip))
        all_goals first | omega | exact hJ _ _ _ _ g | contradiction
def sX3_takesOf : Nat → MS → KM → Prop := fun j s K => (j < 9 ∧ 0 ≤ s.1 5 ∧ s.1 6 ≤ 80) ∧ K [pI (gTk s j).1] (gTk s j).2
theorem mX3_takesOf_ok : mOk encM bdM mX3_takesOf (atR 0 (a0s sX3_takesOf)) := by
  refine mOVa0s kX3_takesOf (fun _ => rfl) (fun j s K h hb => wx_J [2] 9 tX3_takesOf_ok rfl (fun J hR hJ => ?_))
  obtain ⟨⟨h1, h2, h3⟩, hK⟩ := h
  have hs := slI_b j h1
  exact hJ _ _ _ _ (X3_takesOf_l s j h1 h2 h3 (slI j).toNat 0 (by omega) (by omega) (by omega) hK)
def cM_X3_takesOf : Sp MS := atR 0 (a0s sX3_takesOf)
theorem qM_X3_takesOf {M : XI} {rc rs pc pc2 : Nat} (d : xl_Ca M pc mX3_takesOf pc2) : cOk encM bdM M rc rs pc pc2 2 cM_X3_takesOf := cSame mX3_takesOf_ok vX3_takesOf d mcl rfl lenM recM
-- X3_digits: heads [4]
def tX3_digits : Nat → Blk MS := fun pc => bif Nat.blt pc 30 then (bif Nat.blt pc 4 then (bif Nat.beq pc 0 then (oI 0 <| oIst 2 <| oI 0 <| oIst 3 <| oM [true, true, true, true, false] (oTo 4)) else oNo) else (bif Nat.beq pc 4 then (oIld 3 <| oIld 1 <| oCGe 44 <| oIld 2 <| oZLt 44 <| oAld 0 <| oS 6 <| oC2 (cM_X3_takesOf) <| oIst 4 <| oIld 4 <| oZGe 30 <| oI (-1) <| oTo 37) else oNo)) else (bif Nat.blt pc 37 then (bif Nat.beq pc 30 then (oI 10 <| oIld 2 <| oMul <| oIld 4 <| oAdd <| oTo 37) else oNo) else (bif Nat.blt pc 44 then (bif Nat.beq pc 37 then (oIst 2 <| oInc 3 1 <| oM [true, true, true, true, false] (oTo 4)) else oNo) else (bif Nat.beq pc 44 then (oIld 2 <| oIret) else oNo)))
theorem tX3_digits_ok : ∀ pc, bOk (encM) (bdM) mX3_digits 0 0 pc (tX3_digits pc) := fun pc => (tNode (tNode (tLeaf (okIc iX3_digits_0 <| okIstn iX3_digits_1 rfl (by decide) <| okIc iX3_digits_2 <| okIstn iX3_digits_3 rfl (by decide) <| okM (okTo (tl rfl)))) (tLeaf (okIldn iX3_digits_4 rfl <| okIldn iX3_digits_5 rfl <| okCGe (tl rfl) iX3_digits_6 <| okIldn iX3_digits_9 rfl <| okZLt (tl rfl) iX3_digits_10 <| okAldn iX3_digits_13 rfl <| okS (j := 6) (by decide) rfl iX3_digits_14 <| okC2 (qM_X3_takesOf iX3_digits_16) <| okIst iX3_digits_19 (by decide) <| okIld iX3_digits_21 <| okZGe (tl rfl) iX3_digits_23 <| okIc iX3_digits_26 <| okGoto (tl rfl) iX3_digits_27))) (tNode (tLeaf (okBi iX3_digits_30 (by decide) <| okIldn iX3_digits_32 rfl <| okMul iX3_digits_33 <| okIld iX3_digits_34 <| okAdd iX3_digits_36 <| okTo (tl rfl))) (tNode (tLeaf (okIstn iX3_digits_37 rfl (by decide) <| okInc iX3_digits_38 (by decide) <| okGotoM (tl rfl) iX3_digits_41)) (tLeaf (okIldn iX3_digits_44 rfl <| okIret iX3_digits_45 rfl))))) pc
def dgV (v p : Int) : Int := if p < 0 then -1 else 10 * v + p
def dgL : Nat → Int → MS → Int × MS
  | 0, v, s => (v, s)
  | m + 1, v, s => if v < 0 then (v, s) else dgL m (dgV v (gTk s 6).1) (gTk s 6).2
def gDg (s : MS) (n : Int) : Int × MS := dgL n.toNat 0 s
def tb : Nat → Int
  | 0 => 1000000
  | m + 1 => tb m / 10
theorem tb_b : ∀ m, 0 ≤ tb m ∧ tb m ≤ 1000000
  | 0 => by decide
  | m + 1 => by
    have := tb_b m
    rw [tb]
    omega
theorem dgV_b {v p : Int} {m : Nat} (h : v < tb (m + 1)) (h0 : 0 ≤ v) (hp : p ≤ 9) : -1 ≤ dgV v p ∧ dgV v p < tb m ∨ dgV v p = -1 := by
  rw [tb] at h
  have := tb_b m
  unfold dgV
  split
  · exact Or.inr rfl
  · omega
theorem dgL_f : ∀ (m : Nat) (v : Int) (s : MS), -1 ≤ v → v < tb m ∨ v = -1 → (-1 ≤ (dgL m v s).1 ∧ (dgL m v s).1 < 1000000) ∧ rF s (dgL m v s).2 ∧ (0 < m → 0 ≤ v → 0 ≤ (dgL m v s).1 → s.1 5 < (dgL m v s).2.1 5)
  | 0, v, s, h0, h1 => ⟨⟨h0, by have h2 : tb 0 = 1000000 := rfl; show v < 1000000; omega⟩, rF.same, fun h => absurd h (by decide)⟩
  | m + 1, v, s, h0, h1 => by
    rw [dgL]
    split
    · exact ⟨⟨h0, by show v < 1000000; omega⟩, rF.same, fun _ _ q => by have q : 0 ≤ v := q; omega⟩
    · have g := gTk_f s 6 (by decide)
      rename_i c
      have hv : v < tb (m + 1) := by omega
      have b := dgV_b (p := (gTk s 6).1) hv (by omega) g.1.2
      have r := dgL_f m (dgV v (gTk s 6).1) (gTk s 6).2 (by omega) (by omega)
      refine ⟨r.1, g.2.1.trans r.2.1, fun _ _ q => ?_⟩
      have r2 := r.2.1.2.2.1
      by_cases hp : (gTk s 6).1 < 0
      · exfalso
        have e : dgV v (gTk s 6).1 = -1 := if_pos hp
        rw [e] at q
        have e2 : ∀ (m : Nat) (s : MS), (dgL m (-1) s).1 = -1 := fun m s => by
          cases m with
          | zero => rfl
          | succ m => rw [dgL, if_pos (by decide)]
        rw [e2] at q
        omega
      · have := g.2.2.1 (by omega)
        omega
theorem X3_digits_l {K : KM} {Pt : MS → Prop} (n : Int) (hn : 0 ≤ n ∧ n ≤ 5) : ∀ (m : Nat) (k v : Int) (s : MS), 0 ≤ s.1 5 → s.1 6 ≤ 80 → 0 ≤ k → k ≤ n → m = (n - k).toNat → -1 ≤ v → v < tb m ∨ v = -1 → K [pI (dgL m v s).1] (dgL m v s).2 → wX encM bdM mX3_digits 0 0 K Pt 4 [some (pR 0), some (pI n), some (pI v), some (pI k), none] [] s := by
  intro m
  induction m with
  | zero =>
    intro k v s h5 h6 h0 h1 hm hv0 hv1 hK
    refine wx_J [4] 9 tX3_digits_ok rfl (fun J hR hJ => ?_)
    have ht : tb 0 = 1000000 := rfl
    have hK : K [pI v] s := hK
    repeat' (first | (refine And.intro ?_ ?_) | (intro hq; first | (exact absurd hq (by omega)) | skip))
    all_goals first | omega | exact hR _ _ hK
  | succ m ih =>
    intro k v s h5 h6 h0 h1 hm hv0 hv1 hK
    refine wx_J [4] 9 tX3_digits_ok rfl (fun J hR hJ => ?_)
    rw [dgL] at hK
    have ht := tb_b m
    have ht2 : tb (m + 1) = tb m / 10 := rfl
    by_cases c : v < 0
    · rw [if_pos c] at hK
      repeat' (first | (refine And.intro ?_ ?_) | (intro hq; first | (exact absurd hq (by omega)) | skip))
      all_goals first | omega | exact hR _ _ hK
    · rw [if_neg c] at hK
      have g := gTk_f s 6 (by decide)
      have hv : v < tb (m + 1) := by omega
      have b := dgV_b (p := (gTk s 6).1) hv (by omega) g.1.2
      obtain ⟨⟨g1, g2⟩, gF, -⟩ := g
      have e5 := gF.2.2
      have e6 := gF.1 6 (by decide)
      have gg := ih (k + 1) _ _ (by omega) (by omega) (by omega) (by omega) (by omega) (by omega) (by omega) hK
      unfold dgV at gg
      by_cases cp : (gTk s 6).1 < 0
      · rw [if_pos cp] at gg
        repeat' (first | (refine And.intro ?_ ?_) | (intro hq; first | (exact absurd hq (by omega)) | skip))
        all_goals first | omega | exact hJ _ _ _ _ gg | decide
      · rw [if_neg cp] at gg
        repeat' (first | (refine And.intro ?_ ?_) | (intro hq; first | (exact absurd hq (by omega)) | skip))
        all_goals first | omega | exact hJ _ _ _ _ gg | decide
def sX3_digits : Int → MS → KM → Prop := fun n s K => ((0 ≤ n ∧ n ≤ 5) ∧ 0 ≤ s.1 5 ∧ s.1 6 ≤ 80) ∧ K [pI (gDg s n).1] (gDg s n).2
theorem mX3_digits_ok : mOk encM bdM mX3_digits (atR 0 (a1 sX3_digits)) := by
  refine mOVa1 kX3_digits (fun _ => rfl) (fun n s K h hb => wx_J [4] 9 tX3_digits_ok rfl (fun J hR hJ => ?_))
  obtain ⟨⟨h1, h2, h3⟩, hK⟩ := h
  have ht : ∀ m : Nat, m ≤ 5 → 0 < tb m := by decide
  have g := X3_digits_l (K := K) (Pt := fun _ => False) n h1 n.toNat 0 0 s h2 h3 (by omega) (by omega) (by omega) (by omega) (Or.inl (ht _ (by omega))) hK
  exact hJ _ _ _ _ g
def cM_X3_digits : Sp MS := atR 0 (a1 sX3_digits)
theorem qM_X3_digits {M : XI} {rc rs pc pc2 : Nat} (d : xl_Ca M pc mX3_digits pc2) : cOk encM bdM M rc rs pc pc2 2 cM_X3_digits := cSame mX3_digits_ok vX3_digits d mcl rfl lenM recM
