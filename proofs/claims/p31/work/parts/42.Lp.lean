/-! ===== LateSessions: sorting, playing again ===== -/
section WXBD
theorem wX_bd {σ : Type} {enc : σ → XH} {bd : σ → Prop} {M : XI} {rc rs : Nat} {Po : PS → σ → Prop} {Pt : σ → Prop} {pc : Nat} {L : PL} {st : PS} {s : σ} (h : bd s → wX enc bd M rc rs Po Pt pc L st s) (hl : pc < 1000000 := by decide) : wX enc bd M rc rs Po Pt pc L st s := by
  rw [wX_lt hl] at h ⊢
  exact fun hb => h hb hb
end WXBD
-- X2_sortTaken: heads [4, 59]
def tX2_sortTaken : Nat → Blk LSt := fun pc => bif Nat.blt pc 59 then (bif Nat.blt pc 4 then (bif Nat.beq pc 0 then (oI 0 <| oIst 2 <| oI 0 <| oIst 3 <| oM [true, true, true, true, false, false] (oTo 4)) else oNo) else (bif Nat.blt pc 42 then (bif Nat.beq pc 4 then (oIld 3 <| oAld 0 <| oGet (fgL) 2 0 <| oGet (fgL) 1 14 <| oGet (fgL) 0 3 <| oCGe 117 <| oIld 2 <| oAld 0 <| oGet (fgL) 2 11 <| oLen (agL) <| oCGe 117 <| oAld 0 <| oGet (fgL) 2 0 <| oIld 3 <| oIld 1 <| oC3 (cL_X1_isTakenOf) <| oZNe 42 <| oTo 111) else oNo) else (bif Nat.beq pc 42 then (oAld 0 <| oGet (fgL) 2 0 <| oGet (fgL) 1 14 <| oIld 3 <| oI 2 <| oC3 (cL_X0_get) <| oIst 4 <| oIld 2 <| oIst 5 <| oM [true, true, true, true, true, true] (oTo 59)) else oNo))) else (bif Nat.blt pc 111 then (bif Nat.blt pc 100 then (bif Nat.beq pc 59 then (oIld 5 <| oZLe 100 <| oAld 0 <| oIld 5 <| oI 1 <| oSub <| oI 2 <| oC3 (cL_X2_sortedCell) <| oIld 4 <| oCLe 100 <| oAld 0 <| oGet (fgL) 2 11 <| oIld 5 <| oAld 0 <| oGet (fgL) 2 11 <| oIld 5 <| oI 1 <| oSub <| oIa (agL) <| oIas (agL) (apL) <| oInc 5 (-1) <| oM [true, true, true, true, true, true] (oTo 59)) else oNo) else (bif Nat.beq pc 100 then (oAld 0 <| oGet (fgL) 2 11 <| oIld 5 <| oIld 3 <| oIas (agL) (apL) <| oInc 2 1 <| oTo 111) else oNo)) else (bif Nat.blt pc 117 then (bif Nat.beq pc 111 then (oInc 3 1 <| oM [true, true, true, true, false, false] (oTo 4)) else oNo) else (bif Nat.beq pc 117 then (oIld 2 <| oIret) else oNo)))
theorem tX2_sortTaken_ok : ∀ pc, bOk (encL) (bdL) mX2_sortTaken 0 0 pc (tX2_sortTaken pc) := fun pc => (tNode (tNode (tLeaf (okIc iX2_sortTaken_0 <| okIstn iX2_sortTaken_1 rfl (by decide) <| okIc iX2_sortTaken_2 <| okIstn iX2_sortTaken_3 rfl (by decide) <| okM (okTo (tl rfl)))) (tNode (tLeaf (okIldn iX2_sortTaken_4 rfl <| okAldn iX2_sortTaken_5 rfl <| okGet (vFgL) iX2_sortTaken_6 <| okGet (vFgL) iX2_sortTaken_9 <| okGet (vFgL) iX2_sortTaken_12 <| okCGe (tl rfl) iX2_sortTaken_15 <| okIldn iX2_sortTaken_18 rfl <| okAldn iX2_sortTaken_19 rfl <| okGet (vFgL) iX2_sortTaken_20 <| okLen (vAgL) iX2_sortTaken_23 <| okCGe (tl rfl) iX2_sortTaken_24 <| okAldn iX2_sortTaken_27 rfl <| okGet (vFgL) iX2_sortTaken_28 <| okIldn iX2_sortTaken_31 rfl <| okIldn iX2_sortTaken_32 rfl <| okC3 (qL_X1_isTakenOf iX2_sortTaken_33) <| okZNe (tl rfl) iX2_sortTaken_36 <| okGoto (tl rfl) iX2_sortTaken_39)) (tLeaf (okAldn iX2_sortTaken_42 rfl <| okGet (vFgL) iX2_sortTaken_43 <| okGet (vFgL) iX2_sortTaken_46 <| okIldn iX2_sortTaken_49 rfl <| okIc iX2_sortTaken_50 <| okC3 (qL_X0_get iX2_sortTaken_51) <| okIst iX2_sortTaken_54 (by decide) <| okIldn iX2_sortTaken_56 rfl <| okIst iX2_sortTaken_57 (by decide) <| okM (okTo (tl rfl)))))) (tNode (tNode (tLeaf (okIld iX2_sortTaken_59 <| okZLe (tl rfl) iX2_sortTaken_61 <| okAldn iX2_sortTaken_64 rfl <| okIld iX2_sortTaken_65 <| okIc iX2_sortTaken_67 <| okSub iX2_sortTaken_68 <| okIc iX2_sortTaken_69 <| okC3 (qL_X2_sortedCell iX2_sortTaken_70) <| okIld iX2_sortTaken_73 <| okCLe (tl rfl) iX2_sortTaken_75 <| okAldn iX2_sortTaken_78 rfl <| okGet (vFgL) iX2_sortTaken_79 <| okIld iX2_sortTaken_82 <| okAldn iX2_sortTaken_84 rfl <| okGet (vFgL) iX2_sortTaken_85 <| okIld iX2_sortTaken_88 <| okIc iX2_sortTaken_90 <| okSub iX2_sortTaken_91 <| okIa (vAgL) iX2_sortTaken_92 <| okIas (vAgL) iX2_sortTaken_93 <| okInc iX2_sortTaken_94 (by decide) <| okGotoM (tl rfl) iX2_sortTaken_97)) (tLeaf (okAldn iX2_sortTaken_100 rfl <| okGet (vFgL) iX2_sortTaken_101 <| okIld iX2_sortTaken_104 <| okIldn iX2_sortTaken_106 rfl <| okIas (vAgL) iX2_sortTaken_107 <| okInc iX2_sortTaken_108 (by decide) <| okTo (tl rfl)))) (tNode (tLeaf (okInc iX2_sortTaken_111 (by decide) <| okGotoM (tl rfl) iX2_sortTaken_114)) (tLeaf (okIldn iX2_sortTaken_117 rfl <| okIret iX2_sortTaken_118 rfl))))) pc
/-- an input's number comes into the row by its time -/
def insL (t i : Int) : Nat → LSt → LSt
  | 0, s => setA s 2 (xup (s.2.1 2) 0 i)
  | p + 1, s => if t < lCell s (p : Int) 2 then insL t i p (setA s 2 (xup (s.2.1 2) (p + 1) (s.2.1 2 p))) else setA s 2 (xup (s.2.1 2) (p + 1) i)
def srtL (k : Int) : Nat → Int → Nat → LSt → Nat × LSt
  | 0, _, n, s => (n, s)
  | m + 1, i, n, s => if wTakenOf (s.2.2 0) i k then srtL k m (i + 1) (n + 1) (insL (wG (s.2.2 0) 4 i 2) i n s) else srtL k m (i + 1) n s
theorem insL_w (t i : Int) : ∀ (p : Nat) (s : LSt), (insL t i p s).2.2 = s.2.2
  | 0, s => rfl
  | p + 1, s => by
    unfold insL
    split
    · rw [insL_w t i p]; rfl
    · rfl
theorem insL_1 (t i : Int) : ∀ (p : Nat) (s : LSt), (insL t i p s).1 = s.1
  | 0, s => rfl
  | p + 1, s => by
    unfold insL
    split
    · rw [insL_1 t i p]; rfl
    · rfl
theorem X2_sortTaken_l2 {K : KL} {Pt : LSt → Prop} (k n i t : Int) (hk : xB k) (hn : 0 ≤ n ∧ n < 160) (hi : xB i) (ht : xB t) (x : LSt → Prop) (hx : ∀ s', x s' → wX encL bdL mX2_sortTaken 0 0 K Pt 4 [some (pR 0), some (pI k), some (pI (n + 1)), some (pI (i + 1)), none, none] [] s') : ∀ (p : Nat) (s : LSt), (p : Int) ≤ n → x (insL t i p s) → wX encL bdL mX2_sortTaken 0 0 K Pt 59 [some (pR 0), some (pI k), some (pI n), some (pI i), some (pI t), some (pI p)] [] s := by
  intro p
  induction p with
  | zero =>
    intro s hp hs
    have g := hx _ hs
    refine wx_J [4, 59] 9 tX2_sortTaken_ok rfl (fun J hR hJ => ?_)
    repeat' (first | (refine And.intro ?_ ?_) | intro _)
    all_goals first | omega | exact hJ _ _ _ _ g
  | succ p ih =>
    intro s hp hs
    refine wx_J [4, 59] 9 tX2_sortTaken_ok rfl (fun J hR hJ => ?_)
    rw [insL] at hs
    have e1 : ((p + 1 : Nat) : Int) - 1 = (p : Int) := by omega
    have e2 : ((p + 1 : Nat) : Int) + -1 = (p : Int) := by omega
    have e3 : (((p + 1 : Nat) : Int) - 1).toNat = p := by omega
    have e4 : (((p + 1 : Nat) : Int)).toNat = p + 1 := by omega
    refine ⟨⟨by omega, by omega⟩, fun c => absurd c (by omega), fun _ => ⟨⟨⟨by omega, by omega⟩, ⟨by omega, by omega⟩⟩, fun hc => ⟨⟨hc, ht⟩, fun c => ?_, fun c => ?_⟩⟩⟩
    · rw [e1] at c
      rw [if_neg (by omega)] at hs
      have g := hx _ hs
      have e5 : setA s 2 (xup (s.2.1 2) (p + 1) i) = apL s 5 (xup (s.2.1 2) (((p + 1 : Nat) : Int)).toNat i) := by rw [e4]; rfl
      rw [e5] at g
      exact ⟨⟨by omega, by omega, hi⟩, hJ _ _ _ _ g⟩
    · rw [e1] at c
      rw [if_pos c] at hs
      have g := ih _ (by omega) hs
      have e5 : setA s 2 (xup (s.2.1 2) (p + 1) (s.2.1 2 p)) = apL s 5 (xup (s.2.1 2) (((p + 1 : Nat) : Int)).toNat (s.2.1 2 (((p + 1 : Nat) : Int) - 1).toNat)) := by rw [e4, e3]; rfl
      rw [e5, ← e2] at g
      refine ⟨⟨by omega, by omega⟩, fun hb1 => ⟨⟨by omega, by omega, hb1⟩, hJ _ _ _ _ g⟩⟩
theorem X2_sortTaken_l1 {K : KL} {Pt : LSt → Prop} (k : Int) (hk : xB k) : ∀ (m : Nat) (i : Int) (n : Nat) (s : LSt), bdL s → wok (s.2.2 0) → 0 ≤ i → (n : Int) ≤ i → i ≤ wZ (s.2.2 0) 4 → m = (wZ (s.2.2 0) 4 - i).toNat → K [pI ((srtL k m i n s).1 : Int)] (srtL k m i n s).2 → wX encL bdL mX2_sortTaken 0 0 K Pt 4 [some (pR 0), some (pI k), some (pI n), some (pI i), none, none] [] s := by
  intro m
  induction m with
  | zero =>
    intro i n s hb ho h0 hn h1 hm hK
    refine wx_J [4, 59] 9 tX2_sortTaken_ok rfl (fun J hR hJ => ?_)
    have hz : xB (wZ (s.2.2 0) 4) := ((hb.2.2 0).2 4).1
    intro _
    refine ⟨⟨⟨by omega, by omega⟩, hz⟩, fun _ => hR _ _ hK, fun c => ?_⟩
    have c : i < wZ (s.2.2 0) 4 := c
    omega
  | succ m ih =>
    intro i n s hb ho h0 hn h1 hm hK
    refine wx_J [4, 59] 9 tX2_sortTaken_ok rfl (fun J hR hJ => ?_)
    have hz : xB (wZ (s.2.2 0) 4) := ((hb.2.2 0).2 4).1
    have hz2 : wZ (s.2.2 0) 4 ≤ 160 := (ho 4 (by decide)).2
    rw [srtL] at hK
    intro _
    refine ⟨⟨⟨by omega, by omega⟩, hz⟩, fun c => ?_, fun c => ⟨⟨⟨by omega, by omega⟩, ⟨by omega, by omega⟩⟩, fun c2 => absurd c2 (by show ¬ (160 : Int) ≤ (n : Int); omega), fun c2 => ⟨⟨⟨by omega, by omega⟩, hk⟩, fun c3 => ?_, fun c3 => ?_⟩⟩⟩
    · have c : wZ (s.2.2 0) 4 ≤ i := c
      omega
    · rw [if_pos c3] at hK
      refine ⟨⟨by omega, by omega⟩, fun c4 => ?_, fun c4 => absurd c4 (by omega)⟩
      refine ⟨⟨⟨by omega, by omega⟩, ⟨by omega, by omega⟩⟩, fun ht => ?_⟩
      refine hJ _ _ _ _ (X2_sortTaken_l2 k n i (wG (s.2.2 0) 4 i 2) hk ⟨by omega, by omega⟩ ⟨by omega, by omega⟩ ht (fun s' => bdL s' → s' = insL (wG (s.2.2 0) 4 i 2) i n s) ?_ n s (by omega) (fun _ => rfl))
      intro s' hs'
      refine wX_bd (fun hb' => ?_)
      have hs' := hs' hb'
      subst hs'
      have e1 : ((n + 1 : Nat) : Int) = (n : Int) + 1 := by omega
      rw [← e1]
      exact ih (i + 1) (n + 1) _ hb' (by rw [insL_w]; exact ho) (by omega) (by omega) (by rw [insL_w]; omega) (by rw [insL_w]; omega) hK
    · rw [if_neg c3] at hK
      have g := ih (i + 1) n s hb ho (by omega) (by omega) (by omega) (by omega) hK
      refine ⟨⟨by omega, by omega⟩, fun c4 => absurd c4 (by omega), fun c4 => hJ _ _ _ _ g⟩
def lSort (s : LSt) (k : Int) : Nat × LSt := srtL k (wZ (s.2.2 0) 4).toNat 0 0 s
theorem srtL_b (k : Int) : ∀ (m : Nat) (i : Int) (n : Nat) (s : LSt), (srtL k m i n s).1 ≤ n + m ∧ (srtL k m i n s).2.2.2 = s.2.2 ∧ (srtL k m i n s).2.1 = s.1
  | 0, i, n, s => ⟨by simp [srtL], rfl, rfl⟩
  | m + 1, i, n, s => by
    unfold srtL
    split
    · have := srtL_b k m (i + 1) (n + 1) (insL (wG (s.2.2 0) 4 i 2) i n s)
      rw [insL_w, insL_1] at this
      exact ⟨by omega, this.2⟩
    · have := srtL_b k m (i + 1) n s
      exact ⟨by omega, this.2⟩
def sX2_sortTaken : Int → LSt → KL → Prop := fun k s K => (xB k ∧ wok (s.2.2 0)) ∧ (0 ≤ ((lSort s k).1 : Int) → ((lSort s k).1 : Int) ≤ 160 → K [pI ((lSort s k).1 : Int)] (lSort s k).2)
theorem mX2_sortTaken_ok : mOk encL bdL mX2_sortTaken (atR 0 (a1 sX2_sortTaken)) := by
  refine mOVa1 kX2_sortTaken (fun _ => rfl) (fun k s K h hb => wx_J [4, 59] 9 tX2_sortTaken_ok rfl (fun J hR hJ => ?_))
  obtain ⟨⟨h1, h3⟩, h2⟩ := h
  have hz := h3 4 (by decide)
  have hz2 : wZ (s.2.2 0) 4 ≤ 160 := hz.2
  have hs := srtL_b k (wZ (s.2.2 0) 4).toNat 0 0 s
  have hK := h2 (by omega) (by unfold lSort; omega)
  exact hJ _ _ _ _ (X2_sortTaken_l1 k h1 (wZ (s.2.2 0) 4).toNat 0 0 s hb h3 (by omega) (by omega) hz.1 (by omega) hK)
def cL_X2_sortTaken : Sp LSt := atR 0 (a1 sX2_sortTaken)
theorem qL_X2_sortTaken {M : XI} {rc rs pc pc2 : Nat} (d : xl_Ca M pc mX2_sortTaken pc2) : cOk encL bdL M rc rs pc pc2 2 cL_X2_sortTaken := cSame mX2_sortTaken_ok vX2_sortTaken d lcl rfl lenL recL
/-! trial.playInput(world.inputs, i) -/
def piWI : Nat → Nat := fun k => bif Nat.blt k 13 then k else 9 + k
theorem lkWI : vLk encWW bdWW encWT bdWT piWI (fun s => (s.1, s.2.2 4)) (fun s b => (b.1, setT s.2 4 b.2)) := by
  have hinj : ∀ i j, i < 15 → j < 15 → piWI i = piWI j → i = j := by
    have key : ∀ i, i < 15 → ∀ j, j < 15 → piWI i = piWI j → i = j := by decide
    exact fun i j hi hj e => key i hi j hj e
  have hok : ∀ (s : WTS) (j : Nat) (c : XE), (encWT s)[j]? = some c → xl_ok piWI j c := by
    intro s j c h
    match j, h with
    | 0, h => cases h; exact fun aC ρ σ => rfl
    | 1, h => cases h; exact fun aC ρ σ => rfl
    | 2, h => cases h; exact fun aC ρ σ => rfl
    | 3, h => cases h; exact fun aC ρ σ => rfl
    | 4, h => cases h; exact fun aC ρ σ => rfl
    | 5, h => cases h; exact fun aC ρ σ => rfl
    | 6, h => cases h; exact fun aC ρ σ => rfl
    | 7, h => cases h; exact fun aC ρ σ => rfl
    | 8, h => cases h; exact fun aC ρ σ => rfl
    | 9, h => cases h; exact fun aC ρ σ => rfl
    | 10, h => cases h; exact fun aC ρ σ => rfl
    | 11, h => cases h; exact fun aC ρ σ => rfl
    | 12, h => cases h; exact fun aC ρ σ => rfl
    | 13, h => cases h; exact fun aC ρ σ => rfl
    | 14, h => cases h; exact fun aC ρ σ => rfl
    | j + 15, h => cases h
  refine ⟨fun s hb => ⟨⟨hb.1, ⟨by omega, hb.2.2 4⟩⟩, ⟨hinj, fun j hj => ?_⟩, hok _⟩, fun s s' hb hb' => ⟨⟨hb'.1, bdW_set hb.2 hb'.2⟩, rfl, ⟨rfl, fun j hj => ?_, fun k hk => ?_⟩, hok _⟩⟩
  · match j, hj with
    | 0, _ => exact ⟨rfl, Nat.le_of_ble_eq_true rfl⟩
    | 1, _ => exact ⟨rfl, Nat.le_of_ble_eq_true rfl⟩
    | 2, _ => exact ⟨rfl, Nat.le_of_ble_eq_true rfl⟩
    | 3, _ => exact ⟨rfl, Nat.le_of_ble_eq_true rfl⟩
    | 4, _ => exact ⟨rfl, Nat.le_of_ble_eq_true rfl⟩
    | 5, _ => exact ⟨rfl, Nat.le_of_ble_eq_true rfl⟩
    | 6, _ => exact ⟨rfl, Nat.le_of_ble_eq_true rfl⟩
    | 7, _ => exact ⟨rfl, Nat.le_of_ble_eq_true rfl⟩
    | 8, _ => exact ⟨rfl, Nat.le_of_ble_eq_true rfl⟩
    | 9, _ => exact ⟨rfl, Nat.le_of_ble_eq_true rfl⟩
    | 10, _ => exact ⟨rfl, Nat.le_of_ble_eq_true rfl⟩
    | 11, _ => exact ⟨rfl, Nat.le_of_ble_eq_true rfl⟩
    | 12, _ => exact ⟨rfl, Nat.le_of_ble_eq_true rfl⟩
    | 13, _ => exact ⟨rfl, Nat.le_of_ble_eq_true rfl⟩
    | 14, _ => exact ⟨rfl, Nat.le_of_ble_eq_true rfl⟩
    | j + 15, hj => exact absurd (show j + 15 < 15 from hj) (by omega)
  · match j, hj with
    | 0, _ => rfl
    | 1, _ => rfl
    | 2, _ => rfl
    | 3, _ => rfl
    | 4, _ => rfl
    | 5, _ => rfl
    | 6, _ => rfl
    | 7, _ => rfl
    | 8, _ => rfl
    | 9, _ => rfl
    | 10, _ => rfl
    | 11, _ => rfl
    | 12, _ => rfl
    | 13, _ => rfl
    | 14, _ => rfl
    | j + 15, hj => exact absurd (show j + 15 < 15 from hj) (by omega)
  · match k, hk with
    | 0, hk => exact absurd rfl (hk 0 (Nat.le_of_ble_eq_true rfl))
    | 1, hk => exact absurd rfl (hk 1 (Nat.le_of_ble_eq_true rfl))
    | 2, hk => exact absurd rfl (hk 2 (Nat.le_of_ble_eq_true rfl))
    | 3, hk => exact absurd rfl (hk 3 (Nat.le_of_ble_eq_true rfl))
    | 4, hk => exact absurd rfl (hk 4 (Nat.le_of_ble_eq_true rfl))
    | 5, hk => exact absurd rfl (hk 5 (Nat.le_of_ble_eq_true rfl))
    | 6, hk => exact absurd rfl (hk 6 (Nat.le_of_ble_eq_true rfl))
    | 7, hk => exact absurd rfl (hk 7 (Nat.le_of_ble_eq_true rfl))
    | 8, hk => exact absurd rfl (hk 8 (Nat.le_of_ble_eq_true rfl))
    | 9, hk => exact absurd rfl (hk 9 (Nat.le_of_ble_eq_true rfl))
    | 10, hk => exact absurd rfl (hk 10 (Nat.le_of_ble_eq_true rfl))
    | 11, hk => exact absurd rfl (hk 11 (Nat.le_of_ble_eq_true rfl))
    | 12, hk => exact absurd rfl (hk 12 (Nat.le_of_ble_eq_true rfl))
    | 13, _ => rfl
    | 14, _ => rfl
    | 15, _ => rfl
    | 16, _ => rfl
    | 17, _ => rfl
    | 18, _ => rfl
    | 19, _ => rfl
    | 20, _ => rfl
    | 21, _ => rfl
    | 22, hk => exact absurd rfl (hk 13 (Nat.le_of_ble_eq_true rfl))
    | 23, hk => exact absurd rfl (hk 14 (Nat.le_of_ble_eq_true rfl))
    | 24, _ => rfl
    | 25, _ => rfl
    | k + 26, _ => rfl
def cL_X1_playInput : Sp LSt := fun as s K => match as with
  | [.inr (.inr (.inl 20)), .inr (.inr (.inl 16)), .inl i] => (xB i ∧ wok (s.2.2 1)) ∧ K [] (setW s 1 (wPlayN (s.2.2 1) ((s.2.2 0).2 4).2 i))
  | _ => False
theorem qL_X1_playInput {M : XI} {rc rs pc pc2 : Nat} (d : xl_Ca M pc mX1_playInput pc2) : cOk encL bdL M rc rs pc pc2 3 cL_X1_playInput := by
  refine cVirt mX1_playInput_ok vX1_playInput d wcl rfl (fun as s K hb h => ?_)
  unfold cL_X1_playInput at h
  split at h
  · next i =>
    have hl := vLk_trans (lkL2 (a := 1) (b := 0) (by decide) (by decide) (by decide)) lkWI
    refine ⟨_, _, _, [pR 13, pI i], hl, ?_, rfl, ⟨h.1, ?_⟩⟩
    · obtain ⟨fs, hf⟩ := recW (s.2.2 1)
      refine ⟨fs, ?_⟩
      rw [xl_n_eq] at hf ⊢
      exact (encL_w s (q := 1) (j := 0) (by decide) (by decide)).trans hf
    · show K [] (setW (setW s 1 (wPlayN (s.2.2 1) ((s.2.2 0).2 4).2 i)) 0 (setT (s.2.2 0) 4 ((s.2.2 0).2 4)))
      rw [setT_self, setW_keep (by decide)]
      exact h.2
  · exact h.elim
-- X2_replay: heads [27, 88]
def tX2_replay : Nat → Blk LSt := fun pc => bif Nat.blt pc 85 then (bif Nat.blt pc 27 then (bif Nat.beq pc 0 then (oAld 0 <| oGet (fgL) 2 0 <| oGet (fgL) 1 10 <| oGet (fgL) 0 3 <| oIst 5 <| oAld 0 <| oGet (fgL) 2 1 <| oIld 5 <| oIld 1 <| oIld 2 <| oIld 3 <| oC5 (cL_X1_reset) <| oI 0 <| oIst 6 <| oM [true, false, false, false, true, true, true] (oTo 27)) else oNo) else (bif Nat.blt pc 66 then (bif Nat.beq pc 27 then (oIld 6 <| oIld 5 <| oCGe 66 <| oAld 0 <| oGet (fgL) 2 1 <| oGet (fgL) 1 10 <| oIld 6 <| oI 1 <| oAld 0 <| oGet (fgL) 2 0 <| oGet (fgL) 1 10 <| oIld 6 <| oI 1 <| oC3 (cL_X0_get) <| oC4 (cL_X0_set) <| oInc 6 1 <| oM [true, false, false, false, true, true, true] (oTo 27)) else oNo) else (bif Nat.beq pc 66 then (oIld 4 <| oZLt 85 <| oAld 0 <| oGet (fgL) 2 1 <| oGet (fgL) 1 10 <| oIld 4 <| oI 2 <| oI 1 <| oC4 (cL_X0_set) <| oTo 85) else oNo))) else (bif Nat.blt pc 137 then (bif Nat.blt pc 88 then (bif Nat.beq pc 85 then (oI 0 <| oIst 6 <| oM [true, false, false, false, true, false, true] (oTo 88)) else oNo) else (bif Nat.beq pc 88 then (oIld 6 <| oAld 0 <| oGet (fgL) 2 0 <| oGet (fgL) 1 14 <| oGet (fgL) 0 3 <| oCGe 143 <| oAld 0 <| oGet (fgL) 2 0 <| oGet (fgL) 1 14 <| oIld 6 <| oI 1 <| oC3 (cL_X0_get) <| oIld 4 <| oCEq 137 <| oAld 0 <| oGet (fgL) 2 1 <| oAld 0 <| oGet (fgL) 2 0 <| oGet (fgL) 1 14 <| oIld 6 <| oC3 (cL_X1_playInput) <| oTo 137) else oNo)) else (bif Nat.blt pc 143 then (bif Nat.beq pc 137 then (oInc 6 1 <| oM [true, false, false, false, true, false, true] (oTo 88)) else oNo) else (bif Nat.beq pc 143 then (oVret) else oNo)))
theorem tX2_replay_ok : ∀ pc, bOk (encL) (bdL) mX2_replay 0 0 pc (tX2_replay pc) := fun pc => (tNode (tNode (tLeaf (okAldn iX2_replay_0 rfl <| okGet (vFgL) iX2_replay_1 <| okGet (vFgL) iX2_replay_4 <| okGet (vFgL) iX2_replay_7 <| okIst iX2_replay_10 (by decide) <| okAldn iX2_replay_12 rfl <| okGet (vFgL) iX2_replay_13 <| okIld iX2_replay_16 <| okIldn iX2_replay_18 rfl <| okIldn iX2_replay_19 rfl <| okIldn iX2_replay_20 rfl <| okC5 (qL_X1_reset iX2_replay_21) <| okIc iX2_replay_24 <| okIst iX2_replay_25 (by decide) <| okM (okTo (tl rfl)))) (tNode (tLeaf (okIld iX2_replay_27 <| okIld iX2_replay_29 <| okCGe (tl rfl) iX2_replay_31 <| okAldn iX2_replay_34 rfl <| okGet (vFgL) iX2_replay_35 <| okGet (vFgL) iX2_replay_38 <| okIld iX2_replay_41 <| okIc iX2_replay_43 <| okAldn iX2_replay_44 rfl <| okGet (vFgL) iX2_replay_45 <| okGet (vFgL) iX2_replay_48 <| okIld iX2_replay_51 <| okIc iX2_replay_53 <| okC3 (qL_X0_get iX2_replay_54) <| okC4 (qL_X0_set iX2_replay_57) <| okInc iX2_replay_60 (by decide) <| okGotoM (tl rfl) iX2_replay_63)) (tLeaf (okIld iX2_replay_66 <| okZLt (tl rfl) iX2_replay_68 <| okAldn iX2_replay_71 rfl <| okGet (vFgL) iX2_replay_72 <| okGet (vFgL) iX2_replay_75 <| okIld iX2_replay_78 <| okIc iX2_replay_80 <| okIc iX2_replay_81 <| okC4 (qL_X0_set iX2_replay_82) <| okTo (tl rfl))))) (tNode (tNode (tLeaf (okIc iX2_replay_85 <| okIst iX2_replay_86 (by decide) <| okM (okTo (tl rfl)))) (tLeaf (okIld iX2_replay_88 <| okAldn iX2_replay_90 rfl <| okGet (vFgL) iX2_replay_91 <| okGet (vFgL) iX2_replay_94 <| okGet (vFgL) iX2_replay_97 <| okCGe (tl rfl) iX2_replay_100 <| okAldn iX2_replay_103 rfl <| okGet (vFgL) iX2_replay_104 <| okGet (vFgL) iX2_replay_107 <| okIld iX2_replay_110 <| okIc iX2_replay_112 <| okC3 (qL_X0_get iX2_replay_113) <| okIld iX2_replay_116 <| okCEq (tl rfl) iX2_replay_118 <| okAldn iX2_replay_121 rfl <| okGet (vFgL) iX2_replay_122 <| okAldn iX2_replay_125 rfl <| okGet (vFgL) iX2_replay_126 <| okGet (vFgL) iX2_replay_129 <| okIld iX2_replay_132 <| okC3 (qL_X1_playInput iX2_replay_134) <| okTo (tl rfl)))) (tNode (tLeaf (okInc iX2_replay_137 (by decide) <| okGotoM (tl rfl) iX2_replay_140)) (tLeaf (okVret iX2_replay_143 rfl))))) pc
def rdL (n : Int) : Nat → Int → LSt → LSt
  | 0, _, s => s
  | m + 1, i, s => rdL n m (i + 1) (setW s 1 (wP (s.2.2 1) 0 i 1 (wG (s.2.2 0) 0 i 1)))
def rpL (lo : Int) : Nat → Int → LSt → LSt
  | 0, _, s => s
  | m + 1, i, s => rpL lo m (i + 1) (if wG (s.2.2 0) 4 i 1 = lo then s else setW s 1 (wPlayN (s.2.2 1) ((s.2.2 0).2 4).2 i))
def lRep2 (s : LSt) (lo : Int) : LSt :=
  let s1 := if 0 ≤ lo then setW s 1 (wP (s.2.2 1) 0 lo 2 1) else s
  rpL lo (wZ (s.2.2 0) 4).toNat 0 s1
def lReplay (s : LSt) (g l e lo : Int) : LSt := lRep2 (rdL (wZ (s.2.2 0) 0) (wZ (s.2.2 0) 0).toNat 0 (setW s 1 (wReset (s.2.2 1) (wZ (s.2.2 0) 0) g l e))) lo
theorem X2_replay_l2 {K : KL} {Pt : LSt → Prop} (lo : Int) (hlo : xB lo) : ∀ (m : Nat) (i : Int) (s : LSt), wok (s.2.2 0) → wok (s.2.2 1) → 0 ≤ i → i ≤ wZ (s.2.2 0) 4 → m = (wZ (s.2.2 0) 4 - i).toNat → K [] (rpL lo m i s) → wX encL bdL mX2_replay 0 0 K Pt 88 [some (pR 0), none, none, none, some (pI lo), none, some (pI i)] [] s := by
  intro m
  induction m with
  | zero =>
    intro i s ho ho1 h0 h1 hm hK
    refine wx_Jb [27, 88] 9 tX2_replay_ok rfl (fun hb J hR hJ => ?_)
    have hz : xB (wZ (s.2.2 0) 4) := ((hb.2.2 0).2 4).1
    intro _
    refine ⟨⟨⟨by omega, by omega⟩, hz⟩, fun _ => hR _ _ hK, fun c => ?_⟩
    have c : i < wZ (s.2.2 0) 4 := c
    omega
  | succ m ih =>
    intro i s ho ho1 h0 h1 hm hK
    refine wx_Jb [27, 88] 9 tX2_replay_ok rfl (fun hb J hR hJ => ?_)
    have hz : xB (wZ (s.2.2 0) 4) := ((hb.2.2 0).2 4).1
    rw [rpL] at hK
    intro _
    refine ⟨⟨⟨by omega, by omega⟩, hz⟩, fun c => ?_, fun c => ⟨⟨⟨by omega, by omega⟩, ⟨by omega, by omega⟩⟩, fun hx => ⟨⟨hx, hlo⟩, fun c2 => ?_, fun c2 => ?_⟩⟩⟩
    · have c : wZ (s.2.2 0) 4 ≤ i := c
      omega
    · rw [if_pos c2] at hK
      exact hJ _ _ _ _ (ih (i + 1) s ho ho1 (by omega) (by omega) (by omega) hK)
    · rw [if_neg c2] at hK
      exact ⟨⟨⟨by omega, by omega⟩, ho1⟩, hJ _ _ _ _ (ih (i + 1) (setW s 1 (wPlayN (s.2.2 1) ((s.2.2 0).2 4).2 i)) ho (wok_PlayN ho1) (by omega) (by show i + 1 ≤ wZ (s.2.2 0) 4; omega) (by show m = (wZ (s.2.2 0) 4 - (i + 1)).toNat; omega) hK)⟩
theorem X2_replay_l1 {K : KL} {Pt : LSt → Prop} (lo n : Int) (hlo : xB lo) (hn : xB n) : ∀ (m : Nat) (i : Int) (s : LSt), wok (s.2.2 0) → wok (s.2.2 1) → 0 ≤ i → i ≤ max 0 n → m = (n - i).toNat → K [] (lRep2 (rdL n m i s) lo) → wX encL bdL mX2_replay 0 0 K Pt 27 [some (pR 0), none, none, none, some (pI lo), some (pI n), some (pI i)] [] s := by
  intro m
  induction m with
  | zero =>
    intro i s ho ho1 h0 h1 hm hK
    refine wx_J [27, 88] 9 tX2_replay_ok rfl (fun J hR hJ => ?_)
    rw [rdL] at hK
    unfold lRep2 at hK
    dsimp only at hK
    have hz := ho 4 (by decide)
    refine ⟨⟨⟨by omega, by omega⟩, hn⟩, fun _ => ⟨hlo, fun c => ?_, fun c => ?_⟩, fun c => absurd c (by omega)⟩
    · rw [if_neg (by omega)] at hK
      exact hJ _ _ _ _ (X2_replay_l2 lo hlo _ 0 s ho ho1 (by omega) (by omega) (by omega) hK)
    · rw [if_pos c] at hK
      have g := X2_replay_l2 (K := K) (Pt := Pt) lo hlo _ 0 (setW s 1 (wP (s.2.2 1) 0 lo 2 1)) ho (wok_P (t := 0) (by decide) ho1) (by omega) (by show 0 ≤ wZ (s.2.2 0) 4; omega) (by show _ = (wZ (s.2.2 0) 4 - 0).toNat; rw [Int.sub_zero]) hK
      exact ⟨⟨hlo, ⟨by omega, by omega⟩, ⟨by omega, by omega⟩⟩, hJ _ _ _ _ g⟩
  | succ m ih =>
    intro i s ho ho1 h0 h1 hm hK
    refine wx_J [27, 88] 9 tX2_replay_ok rfl (fun J hR hJ => ?_)
    rw [rdL] at hK
    have g := ih (i + 1) (setW s 1 (wP (s.2.2 1) 0 i 1 (wG (s.2.2 0) 0 i 1))) ho (wok_P (t := 0) (i := i) (c := 1) (v := wG (s.2.2 0) 0 i 1) (by decide) ho1) (by omega) (by omega) (by omega) hK
    repeat' (first | (refine And.intro ?_ ?_) | intro _)
    all_goals first | omega | exact hJ _ _ _ _ g
def sX2_replay : Int → Int → Int → Int → LSt → KL → Prop := fun g l e lo s K => (xB g ∧ xB l ∧ xB e ∧ xB lo ∧ wok (s.2.2 0) ∧ wok (s.2.2 1)) ∧ K [] (lReplay s g l e lo)
theorem mX2_replay_ok : mOk encL bdL mX2_replay (atR 0 (a4 sX2_replay)) := by
  refine mOVa4 kX2_replay (fun _ _ _ _ => rfl) (fun g l e lo s K h hb => wx_J [27, 88] 9 tX2_replay_ok rfl (fun J hR hJ => ?_))
  obtain ⟨⟨h1, h2, h3, h4, h5, h6⟩, hK⟩ := h
  have hz : xB (wZ (s.2.2 0) 0) := ((hb.2.2 0).2 0).1
  have hz2 := h5 0 (by decide)
  have q := X2_replay_l1 (K := K) (Pt := fun _ => False) lo (wZ (s.2.2 0) 0) h4 hz _ 0 (setW s 1 (wReset (s.2.2 1) (wZ (s.2.2 0) 0) g l e)) h5 (wok_Reset h6) (by omega) (by omega) (by omega) hK
  refine fun _ => ⟨⟨hz, h1, h2, h3⟩, hJ _ _ _ _ q⟩
def cL_X2_replay : Sp LSt := atR 0 (a4 sX2_replay)
theorem qL_X2_replay {M : XI} {rc rs pc pc2 : Nat} (d : xl_Ca M pc mX2_replay pc2) : cOk encL bdL M rc rs pc pc2 5 cL_X2_replay := cSame mX2_replay_ok vX2_replay d lcl rfl lenL recL