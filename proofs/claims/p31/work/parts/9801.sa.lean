/-! ===== texts: the class's forms ===== -/
section AS
variable {σ : Type} {enc : σ → XH} {bd : σ → Prop} {μ : XI}
def a2s (f : Int → Int → Nat → σ → (PS → σ → Prop) → Prop) : List PV → σ → (PS → σ → Prop) → Prop := fun as s K => match as with
  | [.inl x0, .inl x1, .inr (.inr (.inr j))] => f x0 x1 j s K
  | _ => False
theorem mOVa2s {f : Int → Int → Nat → σ → (PS → σ → Prop) → Prop} (hk : xl_K μ) (hp : ∀ (x0 x1 : Int) (j : Nat), Nat.ble (pw (pR 0 :: [(.inl x0 : PV), (.inl x1 : PV), pS j])) μ.2.2.1 = true) (h : ∀ (x0 x1 : Int) (j : Nat) (s : σ) (K : PS → σ → Prop), f x0 x1 j s K → bd s → wX enc bd μ 0 0 K (fun _ => False) 0 (pe (pR 0 :: [(.inl x0 : PV), (.inl x1 : PV), pS j]) μ.2.2.1) [] s) : mOk enc bd μ (atR 0 (a2s f)) := by
  refine mOk_of hk (fun as s K q => ?_)
  obtain ⟨as, rfl, q1⟩ := atR_inv q
  unfold a2s at q1
  split at q1
  · next x0 x1 j =>
    exact ⟨hp x0 x1 j, fun hb => h x0 x1 j s K q1 hb⟩
  · exact q1.elim
def a0s (f : Nat → σ → (PS → σ → Prop) → Prop) : List PV → σ → (PS → σ → Prop) → Prop := fun as s K => match as with
  | [.inr (.inr (.inr j))] => f j s K
  | _ => False
theorem mOVa0s {f : Nat → σ → (PS → σ → Prop) → Prop} (hk : xl_K μ) (hp : ∀ (j : Nat), Nat.ble (pw (pR 0 :: [pS j])) μ.2.2.1 = true) (h : ∀ (j : Nat) (s : σ) (K : PS → σ → Prop), f j s K → bd s → wX enc bd μ 0 0 K (fun _ => False) 0 (pe (pR 0 :: [pS j]) μ.2.2.1) [] s) : mOk enc bd μ (atR 0 (a0s f)) := by
  refine mOk_of hk (fun as s K q => ?_)
  obtain ⟨as, rfl, q1⟩ := atR_inv q
  unfold a0s at q1
  split at q1
  · next j =>
    exact ⟨hp j, fun hb => h j s K q1 hb⟩
  · exact q1.elim
end AS
theorem sbI_B (j : Nat) (k : Int) : xB (sbI j k) := by
  have h := xb_of (xs_ch j k.toNat)
  exact h
theorem slI_b : ∀ j, j < 9 → 0 ≤ slI j ∧ slI j ≤ 10 := by decide
-- X2_fits: heads []
def tX2_fits : Nat → Blk LSt := fun pc => bif Nat.blt pc 71 then (bif Nat.blt pc 53 then (bif Nat.blt pc 36 then (bif Nat.beq pc 0 then (oIld 2 <| oLook [(107, 36), (110, 72), (115, 54)] 101) else oNo) else (bif Nat.blt pc 52 then (bif Nat.beq pc 36 then (oIld 1 <| oI 97 <| oCLt 52 <| oIld 1 <| oI 103 <| oCGe 52 <| oI 1 <| oTo 53) else oNo) else (bif Nat.beq pc 52 then (oI 0 <| oTo 53) else oNo))) else (bif Nat.blt pc 66 then (bif Nat.blt pc 54 then (bif Nat.beq pc 53 then (oZret) else oNo) else (bif Nat.beq pc 54 then (oIld 1 <| oI 43 <| oCEq 66 <| oIld 1 <| oI 45 <| oCNe 70 <| oTo 66) else oNo)) else (bif Nat.blt pc 70 then (bif Nat.beq pc 66 then (oI 1 <| oTo 71) else oNo) else (bif Nat.beq pc 70 then (oI 0 <| oTo 71) else oNo)))) else (bif Nat.blt pc 100 then (bif Nat.blt pc 72 then (bif Nat.beq pc 71 then (oZret) else oNo) else (bif Nat.blt pc 99 then (bif Nat.beq pc 72 then (oIld 1 <| oI 48 <| oCLt 99 <| oIld 1 <| oI 48 <| oAld 0 <| oGet (fgL) 2 0 <| oGet (fgL) 1 10 <| oGet (fgL) 0 3 <| oAdd <| oCGe 99 <| oI 1 <| oTo 100) else oNo) else (bif Nat.beq pc 99 then (oI 0 <| oTo 100) else oNo))) else (bif Nat.blt pc 117 then (bif Nat.blt pc 101 then (bif Nat.beq pc 100 then (oZret) else oNo) else (bif Nat.beq pc 101 then (oIld 1 <| oI 48 <| oCLt 117 <| oIld 1 <| oI 57 <| oCGt 117 <| oI 1 <| oTo 118) else oNo)) else (bif Nat.blt pc 118 then (bif Nat.beq pc 117 then (oI 0 <| oTo 118) else oNo) else (bif Nat.beq pc 118 then (oZret) else oNo))))
theorem tX2_fits_ok : ∀ pc, bOk (encL) (bdL) mX2_fits 0 0 pc (tX2_fits pc) := fun pc => (tNode (tNode (tNode (tLeaf (okIldn iX2_fits_0 rfl <| okLook (by decide +kernel) (by decide +kernel) (by decide +kernel) iX2_fits_1.1)) (tNode (tLeaf (okIldn iX2_fits_36 rfl <| okBi iX2_fits_37 (by decide) <| okCLt (tl rfl) iX2_fits_39 <| okIldn iX2_fits_42 rfl <| okBi iX2_fits_43 (by decide) <| okCGe (tl rfl) iX2_fits_45 <| okIc iX2_fits_48 <| okGoto (tl rfl) iX2_fits_49)) (tLeaf (okIc iX2_fits_52 <| okTo (tl rfl))))) (tNode (tNode (tLeaf (okZret iX2_fits_53 rfl)) (tLeaf (okIldn iX2_fits_54 rfl <| okBi iX2_fits_55 (by decide) <| okCEq (tl rfl) iX2_fits_57 <| okIldn iX2_fits_60 rfl <| okBi iX2_fits_61 (by decide) <| okCNe (tl rfl) iX2_fits_63 <| okTo (tl rfl)))) (tNode (tLeaf (okIc iX2_fits_66 <| okGoto (tl rfl) iX2_fits_67)) (tLeaf (okIc iX2_fits_70 <| okTo (tl rfl)))))) (tNode (tNode (tLeaf (okZret iX2_fits_71 rfl)) (tNode (tLeaf (okIldn iX2_fits_72 rfl <| okBi iX2_fits_73 (by decide) <| okCLt (tl rfl) iX2_fits_75 <| okIldn iX2_fits_78 rfl <| okBi iX2_fits_79 (by decide) <| okAldn iX2_fits_81 rfl <| okGet (vFgL) iX2_fits_82 <| okGet (vFgL) iX2_fits_85 <| okGet (vFgL) iX2_fits_88 <| okAdd iX2_fits_91 <| okCGe (tl rfl) iX2_fits_92 <| okIc iX2_fits_95 <| okGoto (tl rfl) iX2_fits_96)) (tLeaf (okIc iX2_fits_99 <| okTo (tl rfl))))) (tNode (tNode (tLeaf (okZret iX2_fits_100 rfl)) (tLeaf (okIldn iX2_fits_101 rfl <| okBi iX2_fits_102 (by decide) <| okCLt (tl rfl) iX2_fits_104 <| okIldn iX2_fits_107 rfl <| okBi iX2_fits_108 (by decide) <| okCGt (tl rfl) iX2_fits_110 <| okIc iX2_fits_113 <| okGoto (tl rfl) iX2_fits_114))) (tNode (tLeaf (okIc iX2_fits_117 <| okTo (tl rfl))) (tLeaf (okZret iX2_fits_118 rfl)))))) pc
abbrev lFits (s : LSt) (c f : Int) : Prop := (f = 107 ∧ 97 ≤ c ∧ c < 103) ∨ (f = 110 ∧ 48 ≤ c ∧ c < 48 + wZ (s.2.2 0) 0) ∨ (f = 115 ∧ (c = 43 ∨ c = 45)) ∨ (f ≠ 107 ∧ f ≠ 110 ∧ f ≠ 115 ∧ 48 ≤ c ∧ c ≤ 57)
def sX2_fits : Int → Int → LSt → KL → Prop := fun c f s K => ((xB c ∧ xB f) ∧ 0 ≤ wZ (s.2.2 0) 0 ∧ wZ (s.2.2 0) 0 ≤ 4) ∧ (lFits s c f → K [pI 1] s) ∧ (¬ lFits s c f → K [pI 0] s)
theorem mX2_fits_ok : mOk encL bdL mX2_fits (atR 0 (a2 sX2_fits)) := by
  refine mOVa2 kX2_fits (fun _ _ => rfl) (fun c f s K h hb => wx_J [] 9 tX2_fits_ok rfl (fun J hR hJ => ?_))
  obtain ⟨⟨⟨h1, h2⟩, h3, h4⟩, k1, k0⟩ := h
  have h3 : 0 ≤ wZ (s.2.2 0) 0 := h3
  have h4 : wZ (s.2.2 0) 0 ≤ 4 := h4
  have hw : ((s.2.2 0).2 0).1 = wZ (s.2.2 0) 0 := rfl
  repeat' (first | (refine And.intro ?_ ?_) | (intro hq; first | (exact absurd hq (by omega)) | skip))
  all_goals first | omega | exact hR _ _ (k1 (by omega)) | exact hR _ _ (k0 (by omega))
def cL_X2_fits : Sp LSt := atR 0 (a2 sX2_fits)
theorem qL_X2_fits {M : XI} {rc rs pc pc2 : Nat} (d : xl_Ca M pc mX2_fits pc2) : cOk encL bdL M rc rs pc pc2 3 cL_X2_fits := cSame mX2_fits_ok vX2_fits d lcl rfl lenL recL
-- X2_formMisfit: heads [3]
def tX2_formMisfit : Nat → Blk LSt := fun pc => bif Nat.blt pc 41 then (bif Nat.blt pc 3 then (bif Nat.beq pc 0 then (oI 0 <| oIst 4 <| oM [true, true, true, true, true] (oTo 3)) else oNo) else (bif Nat.beq pc 3 then (oIld 4 <| oAld 3 <| oStrLength <| oCGe 52 <| oIld 1 <| oIld 4 <| oAdd <| oIld 2 <| oCGe 41 <| oAld 0 <| oAld 0 <| oIld 1 <| oIld 4 <| oAdd <| oC2 (cL_X2_signAt) <| oAld 3 <| oIld 4 <| oStrCharat <| oC3 (cL_X2_fits) <| oZNe 46 <| oTo 41) else oNo)) else (bif Nat.blt pc 46 then (bif Nat.beq pc 41 then (oIld 1 <| oIld 4 <| oAdd <| oIret) else oNo) else (bif Nat.blt pc 52 then (bif Nat.beq pc 46 then (oInc 4 1 <| oM [true, true, true, true, true] (oTo 3)) else oNo) else (bif Nat.beq pc 52 then (oI (-1) <| oIret) else oNo)))
theorem tX2_formMisfit_ok : ∀ pc, bOk (encL) (bdL) mX2_formMisfit 0 0 pc (tX2_formMisfit pc) := fun pc => (tNode (tNode (tLeaf (okIc iX2_formMisfit_0 <| okIst iX2_formMisfit_1 (by decide) <| okM (okTo (tl rfl)))) (tLeaf (okIld iX2_formMisfit_3 <| okAldn iX2_formMisfit_5 rfl <| okStrLength iX2_formMisfit_6 <| okCGe (tl rfl) iX2_formMisfit_9 <| okIldn iX2_formMisfit_12 rfl <| okIld iX2_formMisfit_13 <| okAdd iX2_formMisfit_15 <| okIldn iX2_formMisfit_16 rfl <| okCGe (tl rfl) iX2_formMisfit_17 <| okAldn iX2_formMisfit_20 rfl <| okAldn iX2_formMisfit_21 rfl <| okIldn iX2_formMisfit_22 rfl <| okIld iX2_formMisfit_23 <| okAdd iX2_formMisfit_25 <| okC2 (qL_X2_signAt iX2_formMisfit_26) <| okAldn iX2_formMisfit_29 rfl <| okIld iX2_formMisfit_30 <| okStrCharat iX2_formMisfit_32 <| okC3 (qL_X2_fits iX2_formMisfit_35) <| okZNe (tl rfl) iX2_formMisfit_38 <| okTo (tl rfl)))) (tNode (tLeaf (okIldn iX2_formMisfit_41 rfl <| okIld iX2_formMisfit_42 <| okAdd iX2_formMisfit_44 <| okIret iX2_formMisfit_45 rfl)) (tNode (tLeaf (okInc iX2_formMisfit_46 (by decide) <| okGotoM (tl rfl) iX2_formMisfit_49)) (tLeaf (okIc iX2_formMisfit_52 <| okIret iX2_formMisfit_53 rfl))))) pc
def fmL (s : LSt) (f len : Int) (j : Nat) : Nat → Int → Int
  | 0, _ => -1
  | m + 1, k => if f + k < len ∧ lFits s (lSign s (f + k)) (sbI j k) then fmL s f len j m (k + 1) else f + k
def lFm (s : LSt) (f len : Int) (j : Nat) : Int := fmL s f len j (slI j).toNat 0
theorem fmL_b (s : LSt) (f len : Int) (j : Nat) : ∀ (m : Nat) (k : Int), fmL s f len j m k = -1 ∨ (f + k ≤ fmL s f len j m k ∧ fmL s f len j m k < f + k + m)
  | 0, _ => Or.inl rfl
  | m + 1, k => by
    rw [fmL]
    split
    · have := fmL_b s f len j m (k + 1)
      omega
    · omega
theorem X2_formMisfit_l {K : KL} {Pt : LSt → Prop} (s : LSt) (f len : Int) (j : Nat) (hf : 0 ≤ f ∧ f ≤ 1000) (hl : 0 ≤ len ∧ len ≤ 1000) (hj : j < 9) (hz : 0 ≤ wZ (s.2.2 0) 0 ∧ wZ (s.2.2 0) 0 ≤ 4) : ∀ (m : Nat) (k : Int), 0 ≤ k → k ≤ slI j → m = (slI j - k).toNat → K [pI (fmL s f len j m k)] s → wX encL bdL mX2_formMisfit 0 0 K Pt 3 [some (pR 0), some (pI f), some (pI len), some (pS j), some (pI k)] [] s := by
  intro m
  have hs := slI_b j hj
  induction m with
  | zero =>
    intro k h0 h1 hm hK
    refine wx_J [3] 9 tX2_formMisfit_ok rfl (fun J hR hJ => ?_)
    have hK : K [pI (-1)] s := hK
    repeat' (first | (refine And.intro ?_ ?_) | (intro hq; first | (exact absurd hq (by omega)) | skip))
    all_goals first | omega | exact hR _ _ hK
  | succ m ih =>
    intro k h0 h1 hm hK
    refine wx_J [3] 9 tX2_formMisfit_ok rfl (fun J hR hJ => ?_)
    rw [fmL] at hK
    have hc := sbI_B j k
    by_cases c : f + k < len ∧ lFits s (lSign s (f + k)) (sbI j k)
    · rw [if_pos c] at hK
      have g := ih (k + 1) (by omega) (by omega) (by omega) hK
      obtain ⟨c1, c2⟩ := c
      repeat' (first | (refine And.intro ?_ ?_) | (intro hq; first | (exact absurd hq (by omega)) | skip))
      all_goals first | omega | exact hJ _ _ _ _ g | contradiction
    · rw [if_neg c] at hK
      repeat' (first | (refine And.intro ?_ ?_) | (intro hq; first | (exact absurd hq (by omega)) | skip))
      all_goals first | omega | exact hR _ _ hK | contradiction
def sX2_formMisfit : Int → Int → Nat → LSt → KL → Prop := fun f len j s K => ((0 ≤ f ∧ f ≤ 1000) ∧ (0 ≤ len ∧ len ≤ 1000) ∧ j < 9 ∧ 0 ≤ wZ (s.2.2 0) 0 ∧ wZ (s.2.2 0) 0 ≤ 4) ∧ K [pI (lFm s f len j)] s
theorem mX2_formMisfit_ok : mOk encL bdL mX2_formMisfit (atR 0 (a2s sX2_formMisfit)) := by
  refine mOVa2s kX2_formMisfit (fun _ _ _ => rfl) (fun f len j s K h hb => wx_J [3] 9 tX2_formMisfit_ok rfl (fun J hR hJ => ?_))
  obtain ⟨⟨h1, h2, h3, h4⟩, hK⟩ := h
  have hs := slI_b j h3
  exact hJ _ _ _ _ (X2_formMisfit_l s f len j h1 h2 h3 h4 (slI j).toNat 0 (by omega) (by omega) (by omega) hK)
def cL_X2_formMisfit : Sp LSt := atR 0 (a2s sX2_formMisfit)
theorem qL_X2_formMisfit {M : XI} {rc rs pc pc2 : Nat} (d : xl_Ca M pc mX2_formMisfit pc2) : cOk encL bdL M rc rs pc pc2 4 cL_X2_formMisfit := cSame mX2_formMisfit_ok vX2_formMisfit d lcl rfl lenL recL
-- X2_eventsMisfit: heads [2]
def tX2_eventsMisfit : Nat → Blk LSt := fun pc => bif Nat.blt pc 23 then (bif Nat.blt pc 2 then (bif Nat.beq pc 0 then (oI 0 <| oIst 2 <| oM [true, true, true, false] (oTo 2)) else oNo) else (bif Nat.beq pc 2 then (oIld 2 <| oIld 1 <| oCGe 29 <| oAld 0 <| oIld 2 <| oIld 1 <| oS 0 <| oC4 (cL_X2_formMisfit) <| oIst 3 <| oIld 3 <| oZLt 23 <| oIld 3 <| oIret) else oNo)) else (bif Nat.blt pc 29 then (bif Nat.beq pc 23 then (oInc 2 9 <| oM [true, true, true, false] (oTo 2)) else oNo) else (bif Nat.beq pc 29 then (oI (-1) <| oIret) else oNo))
theorem tX2_eventsMisfit_ok : ∀ pc, bOk (encL) (bdL) mX2_eventsMisfit 0 0 pc (tX2_eventsMisfit pc) := fun pc => (tNode (tNode (tLeaf (okIc iX2_eventsMisfit_0 <| okIstn iX2_eventsMisfit_1 rfl (by decide) <| okM (okTo (tl rfl)))) (tLeaf (okIldn iX2_eventsMisfit_2 rfl <| okIldn iX2_eventsMisfit_3 rfl <| okCGe (tl rfl) iX2_eventsMisfit_4 <| okAldn iX2_eventsMisfit_7 rfl <| okIldn iX2_eventsMisfit_8 rfl <| okIldn iX2_eventsMisfit_9 rfl <| okSw (j := 0) (by decide) rfl iX2_eventsMisfit_10 <| okC4 (qL_X2_formMisfit iX2_eventsMisfit_13) <| okIstn iX2_eventsMisfit_16 rfl (by decide) <| okIldn iX2_eventsMisfit_17 rfl <| okZLt (tl rfl) iX2_eventsMisfit_18 <| okIldn iX2_eventsMisfit_21 rfl <| okIret iX2_eventsMisfit_22 rfl))) (tNode (tLeaf (okInc iX2_eventsMisfit_23 (by decide) <| okGotoM (tl rfl) iX2_eventsMisfit_26)) (tLeaf (okIc iX2_eventsMisfit_29 <| okIret iX2_eventsMisfit_30 rfl)))) pc
def emL (s : LSt) (len : Int) : Nat → Int → Int
  | 0, _ => -1
  | m + 1, a => if len ≤ a then -1 else if 0 ≤ lFm s a len 0 then lFm s a len 0 else emL s len m (a + 9)
def lEm (s : LSt) (len : Int) : Int := emL s len 10 0
theorem lFm_b (s : LSt) (f len : Int) (j : Nat) (hj : j < 9) : lFm s f len j = -1 ∨ (f ≤ lFm s f len j ∧ lFm s f len j < f + 10) := by
  have hs := slI_b j hj
  have := fmL_b s f len j (slI j).toNat 0
  unfold lFm
  omega
theorem emL_b (s : LSt) (len : Int) (hl : len ≤ 80) : ∀ (m : Nat) (a : Int), 0 ≤ a → -1 ≤ emL s len m a ∧ emL s len m a ≤ 90
  | 0, _, _ => by rw [emL]; omega
  | m + 1, a, ha => by
    rw [emL]
    split
    · omega
    · split
      · have := lFm_b s a len 0 (by decide)
        omega
      · exact emL_b s len hl m (a + 9) (by omega)
theorem X2_eventsMisfit_l {K : KL} {Pt : LSt → Prop} (s : LSt) (len : Int) (hl : 0 ≤ len ∧ len ≤ 80) (hz : 0 ≤ wZ (s.2.2 0) 0 ∧ wZ (s.2.2 0) 0 ≤ 4) : ∀ (m : Nat) (a : Int), 0 ≤ a → a ≤ 89 → len ≤ a + 9 * m → K [pI (emL s len m a)] s → wX encL bdL mX2_eventsMisfit 0 0 K Pt 2 [some (pR 0), some (pI len), some (pI a), none] [] s := by
  intro m
  induction m with
  | zero =>
    intro a h0 h1 hm hK
    refine wx_J [2] 9 tX2_eventsMisfit_ok rfl (fun J hR hJ => ?_)
    have hK : K [pI (-1)] s := hK
    repeat' (first | (refine And.intro ?_ ?_) | (intro hq; first | (exact absurd hq (by omega)) | skip))
    all_goals first | omega | exact hR _ _ hK
  | succ m ih =>
    intro a h0 h1 hm hK
    refine wx_J [2] 9 tX2_eventsMisfit_ok rfl (fun J hR hJ => ?_)
    rw [emL] at hK
    have hf := lFm_b s a len 0 (by decide)
    by_cases c : len ≤ a
    · rw [if_pos c] at hK
      repeat' (first | (refine And.intro ?_ ?_) | (intro hq; first | (exact absurd hq (by omega)) | skip))
      all_goals first | omega | exact hR _ _ hK
    · rw [if_neg c] at hK
      by_cases c2 : 0 ≤ lFm s a len 0
      · rw [if_pos c2] at hK
        repeat' (first | (refine And.intro ?_ ?_) | (intro hq; first | (exact absurd hq (by omega)) | skip))
        all_goals first | omega | exact hR _ _ hK | decide
      · rw [if_neg c2] at hK
        have g := ih (a + 9) (by omega) (by omega) (by omega) hK
        repeat' (first | (refine And.intro ?_ ?_) | (intro hq; first | (exact absurd hq (by omega)) | skip))
        all_goals first | omega | exact hJ _ _ _ _ g | decide
def sX2_eventsMisfit : Int → LSt → KL → Prop := fun len s K => ((0 ≤ len ∧ len ≤ 80) ∧ 0 ≤ wZ (s.2.2 0) 0 ∧ wZ (s.2.2 0) 0 ≤ 4) ∧ K [pI (lEm s len)] s
theorem mX2_eventsMisfit_ok : mOk encL bdL mX2_eventsMisfit (atR 0 (a1 sX2_eventsMisfit)) := by
  refine mOVa1 kX2_eventsMisfit (fun _ => rfl) (fun len s K h hb => wx_J [2] 9 tX2_eventsMisfit_ok rfl (fun J hR hJ => ?_))
  obtain ⟨⟨h1, h2⟩, hK⟩ := h
  exact hJ _ _ _ _ (X2_eventsMisfit_l s len h1 h2 10 0 (by omega) (by omega) (by omega) hK)
def cL_X2_eventsMisfit : Sp LSt := atR 0 (a1 sX2_eventsMisfit)
theorem qL_X2_eventsMisfit {M : XI} {rc rs pc pc2 : Nat} (d : xl_Ca M pc mX2_eventsMisfit pc2) : cOk encL bdL M rc rs pc pc2 2 cL_X2_eventsMisfit := cSame mX2_eventsMisfit_ok vX2_eventsMisfit d lcl rfl lenL recL
-- X2_actForm: heads []
def tX2_actForm : Nat → Blk LSt := fun pc => bif Nat.blt pc 44 then (bif Nat.blt pc 40 then (bif Nat.beq pc 0 then (oAld 0 <| oIld 1 <| oC2 (cL_X2_signAt) <| oLook [(101, 40), (105, 48), (109, 44)] 52) else oNo) else (bif Nat.beq pc 40 then (oS 1 <| oSret) else oNo)) else (bif Nat.blt pc 48 then (bif Nat.beq pc 44 then (oS 2 <| oSret) else oNo) else (bif Nat.blt pc 52 then (bif Nat.beq pc 48 then (oS 3 <| oSret) else oNo) else (bif Nat.beq pc 52 then (oS 4 <| oSret) else oNo)))
theorem tX2_actForm_ok : ∀ pc, bOk (encL) (bdL) mX2_actForm 0 0 pc (tX2_actForm pc) := fun pc => (tNode (tNode (tLeaf (okAldn iX2_actForm_0 rfl <| okIldn iX2_actForm_1 rfl <| okC2 (qL_X2_signAt iX2_actForm_2) <| okLook (by decide +kernel) (by decide +kernel) (by decide +kernel) iX2_actForm_5.1)) (tLeaf (okSw (j := 1) (by decide) rfl iX2_actForm_40 <| okSret iX2_actForm_43 rfl))) (tNode (tLeaf (okSw (j := 2) (by decide) rfl iX2_actForm_44 <| okSret iX2_actForm_47 rfl)) (tNode (tLeaf (okSw (j := 3) (by decide) rfl iX2_actForm_48 <| okSret iX2_actForm_51 rfl)) (tLeaf (okSw (j := 4) (by decide) rfl iX2_actForm_52 <| okSret iX2_actForm_55 rfl))))) pc
def afJ (s : LSt) (a : Int) : Nat := if lSign s a = 101 then 1 else if lSign s a = 105 then 3 else if lSign s a = 109 then 2 else 4
theorem afJ_b (s : LSt) (a : Int) : afJ s a < 9 := by
  unfold afJ
  repeat' split
  all_goals decide
def sX2_actForm : Int → LSt → KL → Prop := fun a s K => xB a ∧ K [pS (afJ s a)] s
theorem mX2_actForm_ok : mOk encL bdL mX2_actForm (atR 0 (a1 sX2_actForm)) := by
  refine mOVa1 kX2_actForm (fun _ => rfl) (fun a s K h hb => wx_J [] 9 tX2_actForm_ok rfl (fun J hR hJ => ?_))
  obtain ⟨h1, hK⟩ := h
  unfold afJ at hK
  by_cases c1 : lSign s a = 101
  · rw [if_pos c1] at hK
    repeat' (first | (refine And.intro ?_ ?_) | (intro hq; first | (exact absurd hq (by omega)) | skip))
    all_goals first | omega | exact hR _ _ hK
  · rw [if_neg c1] at hK
    by_cases c2 : lSign s a = 105
    · rw [if_pos c2] at hK
      repeat' (first | (refine And.intro ?_ ?_) | (intro hq; first | (exact absurd hq (by omega)) | skip))
      all_goals first | omega | exact hR _ _ hK
    · rw [if_neg c2] at hK
      by_cases c3 : lSign s a = 109
      · rw [if_pos c3] at hK
        repeat' (first | (refine And.intro ?_ ?_) | (intro hq; first | (exact absurd hq (by omega)) | skip))
        all_goals first | omega | exact hR _ _ hK
      · rw [if_neg c3] at hK
        repeat' (first | (refine And.intro ?_ ?_) | (intro hq; first | (exact absurd hq (by omega)) | skip))
        all_goals first | omega | exact hR _ _ hK
def cL_X2_actForm : Sp LSt := atR 0 (a1 sX2_actForm)
theorem qL_X2_actForm {M : XI} {rc rs pc pc2 : Nat} (d : xl_Ca M pc mX2_actForm pc2) : cOk encL bdL M rc rs pc pc2 2 cL_X2_actForm := cSame mX2_actForm_ok vX2_actForm d lcl rfl lenL recL
-- X2_dayMisfit: heads [4]
def tX2_dayMisfit : Nat → Blk LSt := fun pc => bif Nat.blt pc 32 then (bif Nat.blt pc 4 then (bif Nat.beq pc 0 then (oI 0 <| oIst 2 <| oI 0 <| oIst 3 <| oM [true, true, true, true, false, false] (oTo 4)) else oNo) else (bif Nat.beq pc 4 then (oIld 3 <| oI 80 <| oCGe 68 <| oIld 2 <| oIld 1 <| oCGe 68 <| oAld 0 <| oIld 2 <| oC2 (cL_X2_actForm) <| oAst 4 <| oAld 4 <| oStrIsempty <| oZEq 32 <| oIld 2 <| oIret) else oNo)) else (bif Nat.blt pc 52 then (bif Nat.beq pc 32 then (oAld 0 <| oIld 2 <| oI 1 <| oAdd <| oIld 1 <| oAld 4 <| oC4 (cL_X2_formMisfit) <| oIst 5 <| oIld 5 <| oZLt 52 <| oIld 5 <| oIret) else oNo) else (bif Nat.blt pc 68 then (bif Nat.beq pc 52 then (oIld 2 <| oI 1 <| oAld 4 <| oStrLength <| oAdd <| oAdd <| oIst 2 <| oInc 3 1 <| oM [true, true, true, true, false, false] (oTo 4)) else oNo) else (bif Nat.beq pc 68 then (oI (-1) <| oIret) else oNo)))
theorem tX2_dayMisfit_ok : ∀ pc, bOk (encL) (bdL) mX2_dayMisfit 0 0 pc (tX2_dayMisfit pc) := fun pc => (tNode (tNode (tLeaf (okIc iX2_dayMisfit_0 <| okIstn iX2_dayMisfit_1 rfl (by decide) <| okIc iX2_dayMisfit_2 <| okIstn iX2_dayMisfit_3 rfl (by decide) <| okM (okTo (tl rfl)))) (tLeaf (okIldn iX2_dayMisfit_4 rfl <| okBi iX2_dayMisfit_5 (by decide) <| okCGe (tl rfl) iX2_dayMisfit_7 <| okIldn iX2_dayMisfit_10 rfl <| okIldn iX2_dayMisfit_11 rfl <| okCGe (tl rfl) iX2_dayMisfit_12 <| okAldn iX2_dayMisfit_15 rfl <| okIldn iX2_dayMisfit_16 rfl <| okC2 (qL_X2_actForm iX2_dayMisfit_17) <| okAst iX2_dayMisfit_20 (by decide) <| okAld iX2_dayMisfit_22 <| okStrIsempty iX2_dayMisfit_24 <| okZEq (tl rfl) iX2_dayMisfit_27 <| okIldn iX2_dayMisfit_30 rfl <| okIret iX2_dayMisfit_31 rfl))) (tNode (tLeaf (okAldn iX2_dayMisfit_32 rfl <| okIldn iX2_dayMisfit_33 rfl <| okIc iX2_dayMisfit_34 <| okAdd iX2_dayMisfit_35 <| okIldn iX2_dayMisfit_36 rfl <| okAld iX2_dayMisfit_37 <| okC4 (qL_X2_formMisfit iX2_dayMisfit_39) <| okIst iX2_dayMisfit_42 (by decide) <| okIld iX2_dayMisfit_44 <| okZLt (tl rfl) iX2_dayMisfit_46 <| okIld iX2_dayMisfit_49 <| okIret iX2_dayMisfit_51 rfl)) (tNode (tLeaf (okIldn iX2_dayMisfit_52 rfl <| okIc iX2_dayMisfit_53 <| okAld iX2_dayMisfit_54 <| okStrLength iX2_dayMisfit_56 <| okAdd iX2_dayMisfit_59 <| okAdd iX2_dayMisfit_60 <| okIstn iX2_dayMisfit_61 rfl (by decide) <| okInc iX2_dayMisfit_62 (by decide) <| okGotoM (tl rfl) iX2_dayMisfit_65)) (tLeaf (okIc iX2_dayMisfit_68 <| okIret iX2_dayMisfit_69 rfl))))) pc
def dmL (s : LSt) (len : Int) : Nat → Int → Int
  | 0, _ => -1
  | m + 1, a => if len ≤ a then -1 else if slI (afJ s a) = 0 then a else if 0 ≤ lFm s (a + 1) len (afJ s a) then lFm s (a + 1) len (afJ s a) else dmL s len m (a + (1 + slI (afJ s a)))
def lDm (s : LSt) (len : Int) : Int := dmL s len 80 0
theorem dmL_b (s : LSt) (len : Int) (hl : len ≤ 80) : ∀ (m : Nat) (a : Int), 0 ≤ a → -1 ≤ dmL s len m a ∧ dmL s len m a ≤ 91
  | 0, _, _ => by rw [dmL]; omega
  | m + 1, a, ha => by
    rw [dmL]
    have hs := slI_b (afJ s a) (afJ_b s a)
    split
    · omega
    · split
      · omega
      · split
        · have := lFm_b s (a + 1) len (afJ s a) (afJ_b s a)
          omega
        · exact dmL_b s len hl m _ (by omega)
theorem X2_dayMisfit_l {K : KL} {Pt : LSt → Prop} (s : LSt) (len : Int) (hl : 0 ≤ len ∧ len ≤ 80) (hz : 0 ≤ wZ (s.2.2 0) 0 ∧ wZ (s.2.2 0) 0 ≤ 4) : ∀ (m : Nat) (a n : Int), 0 ≤ a → a ≤ 99 → 0 ≤ n → n ≤ 80 → m = (80 - n).toNat → K [pI (dmL s len m a)] s → wX encL bdL mX2_dayMisfit 0 0 K Pt 4 [some (pR 0), some (pI len), some (pI a), some (pI n), none, none] [] s := by
  intro m
  induction m with
  | zero =>
    intro a n h0 h1 h2 h3 hm hK
    refine wx_J [4] 9 tX2_dayMisfit_ok rfl (fun J hR hJ => ?_)
    have hK : K [pI (-1)] s := hK
    repeat' (first | (refine And.intro ?_ ?_) | (intro hq; first | (exact absurd hq (by omega)) | skip))
    all_goals first | omega | exact hR _ _ hK
  | succ m ih =>
    intro a n h0 h1 h2 h3 hm hK
    refine wx_J [4] 9 tX2_dayMisfit_ok rfl (fun J hR hJ => ?_)
    rw [dmL] at hK
    have hj := afJ_b s a
    have hs := slI_b (afJ s a) hj
    have hf := lFm_b s (a + 1) len (afJ s a) hj
    by_cases c : len ≤ a
    · rw [if_pos c] at hK
      repeat' (first | (refine And.intro ?_ ?_) | (intro hq; first | (exact absurd hq (by omega)) | skip))
      all_goals first | omega | exact hR _ _ hK
    · rw [if_neg c] at hK
      by_cases c1 : slI (afJ s a) = 0
      · rw [if_pos c1] at hK
        have e : (if slI (afJ s a) = 0 then (1 : Int) else 0) = 1 := if_pos c1
        repeat' (first | (refine And.intro ?_ ?_) | (intro hq; first | (exact absurd hq (by omega)) | skip))
        all_goals first | omega | exact hR _ _ hK | exact hj
      · rw [if_neg c1] at hK
        have e : (if slI (afJ s a) = 0 then (1 : Int) else 0) = 0 := if_neg c1
        by_cases c2 : 0 ≤ lFm s (a + 1) len (afJ s a)
        · rw [if_pos c2] at hK
          repeat' (first | (refine And.intro ?_ ?_) | (intro hq; first | (exact absurd hq (by omega)) | skip))
          all_goals first | omega | exact hR _ _ hK | exact hj
        · rw [if_neg c2] at hK
          have g := ih _ (n + 1) (by omega) (by omega) (by omega) (by omega) (by omega) hK
          repeat' (first | (refine And.intro ?_ ?_) | (intro hq; first | (exact absurd hq (by omega)) | skip))
          all_goals first | omega | exact hJ _ _ _ _ g | exact hj
def sX2_dayMisfit : Int → LSt → KL → Prop := fun len s K => ((0 ≤ len ∧ len ≤ 80) ∧ 0 ≤ wZ (s.2.2 0) 0 ∧ wZ (s.2.2 0) 0 ≤ 4) ∧ K [pI (lDm s len)] s
theorem mX2_dayMisfit_ok : mOk encL bdL mX2_dayMisfit (atR 0 (a1 sX2_dayMisfit)) := by
  refine mOVa1 kX2_dayMisfit (fun _ => rfl) (fun len s K h hb => wx_J [4] 9 tX2_dayMisfit_ok rfl (fun J hR hJ => ?_))
  obtain ⟨⟨h1, h2⟩, hK⟩ := h
  exact hJ _ _ _ _ (X2_dayMisfit_l s len h1 h2 80 0 0 (by omega) (by omega) (by omega) (by omega) (by omega) hK)
def cL_X2_dayMisfit : Sp LSt := atR 0 (a1 sX2_dayMisfit)
theorem qL_X2_dayMisfit {M : XI} {rc rs pc pc2 : Nat} (d : xl_Ca M pc mX2_dayMisfit pc2) : cOk encL bdL M rc rs pc pc2 2 cL_X2_dayMisfit := cSame mX2_dayMisfit_ok vX2_dayMisfit d lcl rfl lenL recL
