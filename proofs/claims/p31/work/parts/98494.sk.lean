/-! ===== texts: day of the model ===== -/
theorem rF.toE {s t : MS} (h : rF s t) : eF s t := ⟨h.1, h.2.1, by have := h.2.2; omega, h.2.2.2⟩
theorem raE3_r (p : Int × MS) (k : Int) : rF p.2 (raE3 p k).2 := rF_A (by decide)
theorem raE2_r (p : Int × MS) (k a : Int) : rF p.2 (raE2 p k a).2 := by
  have h : rF p.2 (st8 p k) := rF_A (by decide)
  unfold raE2
  split
  · exact h.trans (raE3_r (-1, st8 p k) k)
  · split
    · exact h.trans ((dg_b (st8 p k) (n := 5) (by decide)).2.1.trans (raE3_r (gDg (st8 p k) 5) k))
    · exact h.trans (raE3_r (0, st8 p k) k)
theorem raE1_r (s : MS) (k a : Int) : rF s (raE1 s k a).2 := by
  unfold raE1
  split
  · exact raE2_r (-1, s) k a
  · exact (dg_b s (n := 1) (by decide)).2.1.trans (raE2_r (gDg s 1) k a)
theorem raE1_n (s : MS) (k a : Int) (h : a < 0) : (raE1 s k a).1 = 0 := by
  unfold raE1
  rw [if_pos h]
  unfold raE2
  rw [if_pos (show (-1 : Int) < 0 by decide)]
  unfold raE3
  rw [if_pos (show (-1 : Int) < 0 by decide)]
theorem raE3_01 (p : Int × MS) (k : Int) : (raE3 p k).1 = 0 ∨ (raE3 p k).1 = 1 := by
  unfold raE3
  dsimp only
  split
  · exact Or.inl rfl
  · exact Or.inr rfl
theorem gRa_01 (s : MS) (k : Int) : (gRa s k).1 = 0 ∨ (gRa s k).1 = 1 := by
  unfold gRa raE0
  split
  · exact gRe_01 _ _ _
  · unfold raE1 raE2
    repeat' split
    all_goals exact raE3_01 _ _
theorem gRa_f (s : MS) (k : Int) : rs1 s (gRa s k) := by
  have f := gTk_f s 8 (by decide)
  unfold gRa
  generalize gTk s 8 = p at f ⊢
  obtain ⟨f1, f2, f3, f4⟩ := f
  have h : rF p.2 (st11 p k) := rF_A (by decide)
  have e5 : (st11 p k).1 5 = p.2.1 5 := rfl
  unfold raE0
  split
  · exact rs1.b (f2.trans h) (gRe_f (st11 p k) k 1)
  · have r := raE1_r (st11 p k) k p.1
    refine ⟨((f2.trans h).trans r).toE, fun q => ?_⟩
    have r5 := r.2.2.1
    by_cases c : p.1 < 0
    · rw [raE1_n _ _ _ c] at q
      exact absurd q (by decide)
    · have := f3 (by omega)
      omega
-- X3_day: heads [11, 51]
def tX3_day : Nat → Blk MS := fun pc => bif Nat.blt pc 51 then (bif Nat.blt pc 37 then (bif Nat.blt pc 11 then (bif Nat.beq pc 0 then (oAld 0 <| oI 0 <| oPut (fpM) 3 0 <| oAld 0 <| oC1 (cM_X3_reads) <| oI 0 <| oIst 1 <| oM [true, true, false] (oTo 11)) else oNo) else (bif Nat.beq pc 11 then (oAld 0 <| oGet (fgM) 3 5 <| oAld 0 <| oGet (fgM) 3 6 <| oCGe 43 <| oAld 0 <| oIld 1 <| oC2 (cM_X3_readsAct) <| oZNe 37 <| oI (-1) <| oAld 0 <| oGet (fgM) 3 5 <| oSub <| oIret) else oNo)) else (bif Nat.blt pc 43 then (bif Nat.beq pc 37 then (oInc 1 1 <| oM [true, true, false] (oTo 11)) else oNo) else (bif Nat.beq pc 43 then (oAld 0 <| oI 0 <| oI 3 <| oC3 (cM_X3_copies) <| oI 0 <| oIst 2 <| oM [true, true, true] (oTo 51)) else oNo))) else (bif Nat.blt pc 85 then (bif Nat.blt pc 70 then (bif Nat.beq pc 51 then (oIld 2 <| oIld 1 <| oCGe 70 <| oAld 0 <| oIld 2 <| oC2 (cM_X3_doesAct) <| oZLt 70 <| oInc 2 1 <| oM [true, true, true] (oTo 51)) else oNo) else (bif Nat.beq pc 70 then (oAld 0 <| oI 0 <| oPut (fpM) 3 1 <| oAld 0 <| oIld 2 <| oIld 1 <| oCGe 85 <| oI 1 <| oTo 86) else oNo)) else (bif Nat.blt pc 86 then (bif Nat.beq pc 85 then (oI 0 <| oTo 86) else oNo) else (bif Nat.blt pc 121 then (bif Nat.beq pc 86 then (oC1 (cM_X3_flag) <| oI2l <| oC2 (cM_X3_enters) <| oAld 0 <| oAld 0 <| oI 0 <| oI 7 <| oC3 (cM_X3_of) <| oAld 0 <| oI 3 <| oI 7 <| oC3 (cM_X3_of) <| oSubW <| oI2l <| oC2 (cM_X3_enters) <| oIld 2 <| oZLe 121 <| oAld 0 <| oC1 (cM_X3_lays) <| oTo 121) else oNo) else (bif Nat.beq pc 121 then (oIld 2 <| oIret) else oNo))))
theorem tX3_day_ok : ∀ pc, bOk (encM) (bdM) mX3_day 0 0 pc (tX3_day pc) := fun pc => (tNode (tNode (tNode (tLeaf (okAldn iX3_day_0 rfl <| okIc iX3_day_1 <| okPut (vFpM) iX3_day_2 <| okAldn iX3_day_5 rfl <| okC1 (qM_X3_reads iX3_day_6) <| okIc iX3_day_9 <| okIstn iX3_day_10 rfl (by decide) <| okM (okTo (tl rfl)))) (tLeaf (okAldn iX3_day_11 rfl <| okGet (vFgM) iX3_day_12 <| okAldn iX3_day_15 rfl <| okGet (vFgM) iX3_day_16 <| okCGe (tl rfl) iX3_day_19 <| okAldn iX3_day_22 rfl <| okIldn iX3_day_23 rfl <| okC2 (qM_X3_readsAct iX3_day_24) <| okZNe (tl rfl) iX3_day_27 <| okIc iX3_day_30 <| okAldn iX3_day_31 rfl <| okGet (vFgM) iX3_day_32 <| okSub iX3_day_35 <| okIret iX3_day_36 rfl))) (tNode (tLeaf (okInc iX3_day_37 (by decide) <| okGotoM (tl rfl) iX3_day_40)) (tLeaf (okAldn iX3_day_43 rfl <| okIc iX3_day_44 <| okIc iX3_day_45 <| okC3 (qM_X3_copies iX3_day_46) <| okIc iX3_day_49 <| okIstn iX3_day_50 rfl (by decide) <| okM (okTo (tl rfl)))))) (tNode (tNode (tLeaf (okIldn iX3_day_51 rfl <| okIldn iX3_day_52 rfl <| okCGe (tl rfl) iX3_day_53 <| okAldn iX3_day_56 rfl <| okIldn iX3_day_57 rfl <| okC2 (qM_X3_doesAct iX3_day_58) <| okZLt (tl rfl) iX3_day_61 <| okInc iX3_day_64 (by decide) <| okGotoM (tl rfl) iX3_day_67)) (tLeaf (okAldn iX3_day_70 rfl <| okIc iX3_day_71 <| okPut (vFpM) iX3_day_72 <| okAldn iX3_day_75 rfl <| okIldn iX3_day_76 rfl <| okIldn iX3_day_77 rfl <| okCGe (tl rfl) iX3_day_78 <| okIc iX3_day_81 <| okGoto (tl rfl) iX3_day_82))) (tNode (tLeaf (okIc iX3_day_85 <| okTo (tl rfl))) (tNode (tLeaf (okC1 (qM_X3_flag iX3_day_86) <| okI2l iX3_day_89 <| okC2 (qM_X3_enters iX3_day_90) <| okAldn iX3_day_93 rfl <| okAldn iX3_day_94 rfl <| okIc iX3_day_95 <| okBi iX3_day_96 (by decide) <| okC3 (qM_X3_of iX3_day_98) <| okAldn iX3_day_101 rfl <| okIc iX3_day_102 <| okBi iX3_day_103 (by decide) <| okC3 (qM_X3_of iX3_day_105) <| okSubW iX3_day_108 <| okI2l iX3_day_109 <| okC2 (qM_X3_enters iX3_day_110) <| okIldn iX3_day_113 rfl <| okZLe (tl rfl) iX3_day_114 <| okAldn iX3_day_117 rfl <| okC1 (qM_X3_lays iX3_day_118) <| okTo (tl rfl))) (tLeaf (okIldn iX3_day_121 rfl <| okIret iX3_day_122 rfl)))))) pc
def raL : Nat → Int → MS → Int × Int × MS
  | 0, n, s => (1, n, s)
  | m + 1, n, s => if s.1 6 ≤ s.1 5 then (1, n, s) else if (gRa s n).1 = 0 then (0, n, (gRa s n).2) else raL m (n + 1) (gRa s n).2
theorem X3_day_r {K : KM} {Pt : MS → Prop} : ∀ (m : Nat) (n : Int) (s : MS), gd s → 0 ≤ n → n ≤ s.1 5 → s.1 6 ≤ s.1 5 + m → ((raL m n s).1 = 0 → K [pI (-1 - (raL m n s).2.2.1 5)] (raL m n s).2.2) → ((raL m n s).1 ≠ 0 → wX encM bdM mX3_day 0 0 K Pt 43 [some (pR 0), some (pI (raL m n s).2.1), none] [] (raL m n s).2.2) → wX encM bdM mX3_day 0 0 K Pt 11 [some (pR 0), some (pI n), none] [] s := by
  intro m
  induction m with
  | zero =>
    intro n s hg h0 h1 hm k0 k1
    refine wx_J [11, 43] 9 tX3_day_ok rfl (fun J hR hJ => ?_)
    have g := k1 (by show (1 : Int) ≠ 0; decide)
    obtain ⟨g1, g2, g3, g4⟩ := hg
    repeat' (first | (refine And.intro ?_ ?_) | (intro hq; first | (exact absurd hq (by omega)) | skip))
    all_goals first | omega | exact hJ _ _ _ _ g
  | succ m ih =>
    intro n s hg h0 h1 hm k0 k1
    refine wx_J [11, 43] 9 tX3_day_ok rfl (fun J hR hJ => ?_)
    rw [raL] at k0 k1
    by_cases c : s.1 6 ≤ s.1 5
    · rw [if_pos c] at k0 k1
      have g := k1 (by show (1 : Int) ≠ 0; decide)
      obtain ⟨g1, g2, g3, g4⟩ := hg
      repeat' (first | (refine And.intro ?_ ?_) | (intro hq; first | (exact absurd hq (by omega)) | skip))
      all_goals first | omega | exact hJ _ _ _ _ g
    · rw [if_neg c] at k0 k1
      have f := gRa_f s n
      have r01 := gRa_01 s n
      have e6 := f.1.1 6 (by decide)
      have e5 := f.1.2.2
      by_cases c2 : (gRa s n).1 = 0
      · rw [if_pos c2] at k0 k1
        have hK := k0 rfl
        obtain ⟨g1, g2, g3, g4⟩ := hg
        repeat' (first | (refine And.intro ?_ ?_) | (intro hq; first | (exact absurd hq (by omega)) | skip))
        all_goals first | omega | exact hR _ _ hK | contradiction
      · rw [if_neg c2] at k0 k1
        have f2 := f.2 (by omega)
        have g := ih (n + 1) _ (hg.e f.1 (by have := hg.1; omega)) (by omega) (by omega) (by omega) k0 k1
        obtain ⟨g1, g2, g3, g4⟩ := hg
        repeat' (first | (refine And.intro ?_ ?_) | (intro hq; first | (exact absurd hq (by omega)) | skip))
        all_goals first | omega | exact hJ _ _ _ _ g | contradiction
theorem raL_f : ∀ (m : Nat) (n : Int) (s : MS), gd s → 0 ≤ n → n ≤ s.1 5 → eG s (raL m n s).2.2 ∧ 0 ≤ (raL m n s).2.1 ∧ (raL m n s).2.1 ≤ 80
  | 0, n, s, hg, h0, h1 => ⟨eG.same, h0, by have := hg.2.1; show n ≤ 80; omega⟩
  | m + 1, n, s, hg, h0, h1 => by
    have h80 := hg.2.1
    have hg0 := hg.1
    rw [raL]
    split
    · exact ⟨eG.same, h0, by show n ≤ 80; omega⟩
    · have f := gRa_f s n
      have r01 := gRa_01 s n
      split
      · exact ⟨f.1.g, h0, by show n ≤ 80; omega⟩
      · have f2 := f.2 (by omega)
        have g := raL_f m (n + 1) _ (hg.e f.1 (by omega)) (by omega) (by omega)
        exact ⟨f.1.g.trans g.1, g.2⟩
/-- an act done: the answer and the state -/
def doP (k : Int) (s : MS) (Q : Int → MS → Prop) : Prop := ((0 ≤ k ∧ k < 80) ∧ 0 ≤ mg s 0 ∧ mg s 0 ≤ 4) ∧ (s.2 11 k.toNat = 0 → ∃ n, evP s (s.2 5 k.toNat) (s.2 6 k.toNat) (s.2 7 k.toNat) (s.2 8 k.toNat) n (fun a s' => xB a → Q a s')) ∧ (s.2 11 k.toNat ≠ 0 → (s.2 11 k.toNat = 1 → ∃ n, mkP s (s.2 8 k.toNat) (s.2 6 k.toNat) n (fun a s' => xB a → Q a s')) ∧ (s.2 11 k.toNat ≠ 1 → ∃ n, idP s (s.2 8 k.toNat) n (fun a s' => xB a → Q a s')))
theorem doP_mono {k : Int} {s : MS} {Q R : Int → MS → Prop} (h : ∀ a s', xB a → Q a s' → R a s') (p : doP k s Q) : doP k s R := by
  obtain ⟨p0, p1, p2⟩ := p
  refine ⟨p0, fun c => ?_, fun c => ⟨fun c1 => ?_, fun c1 => ?_⟩⟩
  · obtain ⟨n, q⟩ := p1 c
    exact ⟨n, evP_mono (fun a s' r u => h a s' u (r u)) q⟩
  · obtain ⟨n, q⟩ := (p2 c).1 c1
    exact ⟨n, mkP_mono (fun a s' r u => h a s' u (r u)) q⟩
  · obtain ⟨n, q⟩ := (p2 c).2 c1
    exact ⟨n, idP_mono (fun a s' r u => h a s' u (r u)) q⟩
def daP (Q : Int → MS → Prop) : Nat → Int → MS → Prop
  | 0, d, s => Q d s
  | m + 1, d, s => doP d s (fun a s' => (a < 0 → Q d s') ∧ (0 ≤ a → daP Q m (d + 1) s'))
def gDyE (s : MS) (b : Int) : MS := mEn (mEn (mS s 1 0) b) (wI (mg s (0 * 2804 + 7) - mg s (3 * 2804 + 7)))
def daE (n : Int) (K : KM) : Int → MS → Prop := fun d s => (0 < d → uok1 (gDyE s (if d < n then 1 else 0)) ∧ K [pI d] (mLays (gDyE s (if d < n then 1 else 0)))) ∧ (d ≤ 0 → K [pI d] (gDyE s (if d < n then 1 else 0)))
theorem X3_day_e {K : KM} {Pt : MS → Prop} (n d : Int) (hn : 0 ≤ n ∧ n ≤ 80) (hd : 0 ≤ d ∧ d ≤ n) (s : MS) (h : daE n K d s) : wX encM bdM mX3_day 0 0 K Pt 70 [some (pR 0), some (pI n), some (pI d)] [] s := by
  refine wx_J [] 9 tX3_day_ok rfl (fun J hR hJ => ?_)
  obtain ⟨h1, h2⟩ := h
  have x0 : xB 0 := ⟨by omega, by omega⟩
  have x1 : xB 1 := ⟨by omega, by omega⟩
  have xd : xB d := ⟨by omega, by omega⟩
  refine ⟨x0, ⟨xd, ⟨by omega, by omega⟩⟩, fun c => ?_, fun c => ?_⟩
  · rw [if_neg (by omega)] at h1 h2
    exact ⟨Or.inl rfl, x0, ⟨x0, by show (0 : Int) ≤ 0; omega, by show (0 : Int) < 16; omega⟩, ⟨by omega, by omega⟩, fun _ => ⟨⟨by omega, by omega⟩, fun _ hw => ⟨hw, ⟨hw, by show (0 : Int) ≤ 0 + 1; omega, by show (0 : Int) + 1 < 16; omega⟩, ⟨xd, fun c => hR _ _ (h2 c), fun c => ⟨(h1 c).1, hR _ _ (h1 c).2⟩⟩⟩⟩⟩
  · rw [if_pos c] at h1 h2
    exact ⟨Or.inr rfl, x1, ⟨x1, by show (0 : Int) ≤ 0; omega, by show (0 : Int) < 16; omega⟩, ⟨by omega, by omega⟩, fun _ => ⟨⟨by omega, by omega⟩, fun _ hw => ⟨hw, ⟨hw, by show (0 : Int) ≤ 0 + 1; omega, by show (0 : Int) + 1 < 16; omega⟩, ⟨xd, fun c => hR _ _ (h2 c), fun c => ⟨(h1 c).1, hR _ _ (h1 c).2⟩⟩⟩⟩⟩
theorem X3_day_p {K : KM} {Pt : MS → Prop} (n : Int) (hn : 0 ≤ n ∧ n ≤ 80) : ∀ (m : Nat) (d : Int) (s : MS), 0 ≤ d → d + m = n → daP (daE n K) m d s → wX encM bdM mX3_day 0 0 K Pt 51 [some (pR 0), some (pI n), some (pI d)] [] s := by
  intro m
  induction m with
  | zero =>
    intro d s h0 h1 h
    refine wx_J [51, 70] 9 tX3_day_ok rfl (fun J hR hJ => ?_)
    have g := X3_day_e (Pt := Pt) n d hn (by omega) s h
    exact ⟨⟨⟨by omega, by omega⟩, ⟨by omega, by omega⟩⟩, fun _ => hJ _ _ _ _ g, fun q => absurd q (by omega)⟩
  | succ m ih =>
    intro d s h0 h1 h
    refine wx_J [51, 70] 9 tX3_day_ok rfl (fun J hR hJ => ?_)
    refine ⟨⟨⟨by omega, by omega⟩, ⟨by omega, by omega⟩⟩, fun q => absurd q (by omega), fun _ => ?_⟩
    refine doP_mono (fun a s' xa z => ?_) h
    refine ⟨xa, fun c => ?_, fun c => ?_⟩
    · first | exact hJ _ _ _ _ (X3_day_e (Pt := Pt) n d hn (by omega) s' (z.1 c)) | exact hJ _ _ _ _ (ih (d + 1) s' (by omega) (by omega) (z.2 c))
    · first | exact hJ _ _ _ _ (ih (d + 1) s' (by omega) (by omega) (z.2 c)) | exact hJ _ _ _ _ (X3_day_e (Pt := Pt) n d hn (by omega) s' (z.1 c))
def sX3_day : MS → KM → Prop := fun s K => ((0 ≤ s.1 4 ∧ s.1 4 ≤ 80) ∧ 0 ≤ mg s 0) ∧ ((raL 80 0 (gRd s)).1 = 0 → K [pI (-1 - (raL 80 0 (gRd s)).2.2.1 5)] (raL 80 0 (gRd s)).2.2) ∧ ((raL 80 0 (gRd s)).1 ≠ 0 → daP (daE (raL 80 0 (gRd s)).2.1 K) (raL 80 0 (gRd s)).2.1.toNat 0 (mCopy (raL 80 0 (gRd s)).2.2 0 3))
theorem X3_day_m {K : KM} {Pt : MS → Prop} (n : Int) (hn : 0 ≤ n ∧ n ≤ 80) (s : MS) (h : daP (daE n K) n.toNat 0 (mCopy s 0 3)) : wX encM bdM mX3_day 0 0 K Pt 43 [some (pR 0), some (pI n), none] [] s := by
  refine wx_J [51] 9 tX3_day_ok rfl (fun J hR hJ => ?_)
  exact ⟨⟨⟨by omega, by omega⟩, by omega, by omega⟩, hJ _ _ _ _ (X3_day_p n hn n.toNat 0 _ (by omega) (by omega) h)⟩
theorem mX3_day_ok : mOk encM bdM mX3_day (atR 0 (a0 sX3_day)) := by
  refine mOVa0 kX3_day (fun _ => rfl) (fun s K h hb => wx_J [11] 9 tX3_day_ok rfl (fun J hR hJ => ?_))
  obtain ⟨⟨h4, h0⟩, k0, k1⟩ := h
  have hg := gRd_gd h4 h0
  have e5 : (gRd s).1 5 = 0 := rfl
  have e6 : (gRd s).1 6 = s.1 4 := rfl
  have f := raL_f 80 0 (gRd s) hg (by omega) (by omega)
  exact ⟨⟨by omega, by omega⟩, hJ _ _ _ _ (X3_day_r 80 0 (gRd s) hg (by omega) (by omega) (by omega) k0 (fun c => X3_day_m _ f.2 _ (k1 c)))⟩
