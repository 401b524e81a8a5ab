/-! ===== Arrays.fill; LateSessions: parts ===== -/
def encA (z : Nat) (g : Nat → Int) : XH := [xA z g]
def bdA (z : Nat) (g : Nat → Int) : Prop := z ≤ 1000000 ∧ ∀ k, xB (g k)
def agA (z : Nat) : AG (Nat → Int) := fun g r => bif Nat.beq r 0 then some (0, z, g) else none
def apA (_z : Nat) : AP (Nat → Int) := fun _ _ g => g
theorem vAgA (z : Nat) : vAg (encA z) (bdA z) (agA z) (apA z) := by
  intro s r t n g hb h
  obtain ⟨h1, h2⟩ := bN h
  have h1 := nB h1
  subst h1
  cases h2
  exact ⟨hb.1, hb.2, rfl, fun g' hg => ⟨⟨hb.1, hg⟩, rfl⟩⟩
-- J7_fill_53178: heads [5]
def tJ7_fill_53178 (z : Nat) : Nat → Blk (Nat → Int) := fun pc => bif Nat.blt pc 5 then (bif Nat.beq pc 0 then (oI 0 <| oIst 2 <| oAld 0 <| oLen (agA z) <| oIst 3 <| oM [true, true, true, true] (oTo 5)) else oNo) else (bif Nat.blt pc 20 then (bif Nat.beq pc 5 then (oIld 2 <| oIld 3 <| oCGe 20 <| oAld 0 <| oIld 2 <| oIld 1 <| oIas (agA z) (apA z) <| oInc 2 1 <| oM [true, true, true, true] (oTo 5)) else oNo) else (bif Nat.beq pc 20 then (oVret) else oNo))
theorem tJ7_fill_53178_ok (z : Nat) : ∀ pc, bOk (encA z) (bdA z) mJ7_fill_53178 0 0 pc (tJ7_fill_53178 z pc) := fun pc => (tNode (tLeaf (okIc iJ7_fill_53178_0 <| okIstn iJ7_fill_53178_1 rfl (by decide) <| okAldn iJ7_fill_53178_2 rfl <| okLen (vAgA z) iJ7_fill_53178_3 <| okIstn iJ7_fill_53178_4 rfl (by decide) <| okM (okTo (tl rfl)))) (tNode (tLeaf (okIldn iJ7_fill_53178_5 rfl <| okIldn iJ7_fill_53178_6 rfl <| okCGe (tl rfl) iJ7_fill_53178_7 <| okAldn iJ7_fill_53178_10 rfl <| okIldn iJ7_fill_53178_11 rfl <| okIldn iJ7_fill_53178_12 rfl <| okIas (vAgA z) iJ7_fill_53178_13 <| okInc iJ7_fill_53178_14 (by decide) <| okGotoM (tl rfl) iJ7_fill_53178_17)) (tLeaf (okVret iJ7_fill_53178_20 rfl)))) pc
def sJ7_fill (z : Nat) : List PV → (Nat → Int) → (PS → (Nat → Int) → Prop) → Prop := fun as g K => match as with
  | [.inr (.inr (.inl 0)), .inl v] => xB v ∧ K [] (fun k => if k < z then v else g k)
  | _ => False
theorem J7_fill_loop (z : Nat) {K : PS → (Nat → Int) → Prop} {Pt : (Nat → Int) → Prop} (v : Int) (hv : xB v) (g0 : Nat → Int) (hz : z ≤ 1000000) (hK : K [] (fun k => if k < z then v else g0 k)) : ∀ (m c : Nat), c ≤ z → m = z - c → wX (encA z) (bdA z) mJ7_fill_53178 0 0 K Pt 5 [some (pR 0), some (pI v), some (pI c), some (pI z)] [] (fun k => if k < c then v else g0 k) := by
  intro m
  induction m with
  | zero =>
    intro c h1 hm
    have : c = z := by omega
    subst this
    refine wx_J [5] 9 (tJ7_fill_53178_ok c) rfl (fun J hR hJ => ?_)
    repeat' (first | (refine And.intro ?_ ?_) | intro _)
    all_goals first | omega | exact hR _ _ hK
  | succ m ih =>
    intro c h1 hm
    refine wx_J [5] 9 (tJ7_fill_53178_ok z) rfl (fun J hR hJ => ?_)
    have g := ih (c + 1) (by omega) (by omega)
    have e : (fun k => if k < c + 1 then v else g0 k) = xup (fun k => if k < c then v else g0 k) ((c : Int)).toNat v := by
      funext k
      unfold xup
      by_cases q : k = c
      · rw [if_pos (by omega), if_pos (by omega)]
      · rw [if_neg (show ¬ k = ((c : Int)).toNat by omega)]
        dsimp only
        by_cases q2 : k < c
        · rw [if_pos (by omega), if_pos q2]
        · rw [if_neg (by omega), if_neg q2]
    rw [e, show ((c + 1 : Nat) : Int) = (c : Int) + 1 by omega] at g
    repeat' (first | (refine And.intro ?_ ?_) | intro _)
    all_goals first | omega | exact hJ _ _ _ _ g
theorem mJ7_fill_ok (z : Nat) : mOk (encA z) (bdA z) mJ7_fill_53178 (sJ7_fill z) := by
  refine mOk_of kJ7_fill_53178 (fun as s K h => ?_)
  unfold sJ7_fill at h
  split at h
  · next v =>
    refine ⟨rfl, fun hb => wx_J [5] 9 (tJ7_fill_53178_ok z) rfl (fun J hR hJ => ?_)⟩
    have g := J7_fill_loop z (K := K) (Pt := fun _ => False) v h.1 s hb.1 h.2 z 0 (by omega) (by omega)
    have e : (fun k => if k < 0 then v else s k) = s := by funext k; rw [if_neg (by omega)]
    rw [e] at g
    exact hJ _ _ _ _ g
  · exact h.elim
def cL_J7_fill_53178 : Sp LSt := fun as s K => match as with
  | [.inr (.inr (.inl 6)), .inl v] => xB v ∧ K [] (setA s 3 (fun k => if k < 101 then v else s.2.1 3 k))
  | _ => False
theorem lkLA : vLk encL bdL (encA 101) (bdA 101) (fun k => 6 + k) (fun s => s.2.1 3) (fun s g => setA s 3 g) := by
  refine vLk_run (n := 1) (fun _ => rfl) (by decide) (fun s => rfl) (fun s t => rfl) (fun s hb => ⟨by decide, hb.2.1 3⟩) (fun s t hb ht => bdL_A hb ht.2) (fun s => by rw [lenL137]; decide)
theorem qL_J7_fill_53178 {M : XI} {rc rs pc pc2 : Nat} (d : xl_Cs M pc mJ7_fill_53178 pc2) : cOk encL bdL M rc rs pc pc2 2 cL_J7_fill_53178 := by
  refine cStat (mJ7_fill_ok 101) vJ7_fill_53178 d rfl (fun as s K hb h => ?_)
  unfold cL_J7_fill_53178 at h
  split at h
  · next v => exact ⟨_, _, _, [pR 0, pI v], lkLA, rfl, h⟩
  · exact h.elim
-- X2_parts: heads [44, 104]
def tX2_parts : Nat → Blk LSt := fun pc => bif Nat.blt pc 97 then (bif Nat.blt pc 33 then (bif Nat.blt pc 18 then (bif Nat.beq pc 0 then (oIld 1 <| oC1 (cL_X2_isKey) <| oZEq 18 <| oIld 2 <| oI 1 <| oCLt 18 <| oIld 2 <| oI 60 <| oCLe 20 <| oTo 18) else oNo) else (bif Nat.blt pc 20 then (bif Nat.beq pc 18 then (oI (-1) <| oIret) else oNo) else (bif Nat.beq pc 20 then (oAld 0 <| oIld 1 <| oC2 (cL_X2_sortTaken) <| oIst 3 <| oIld 3 <| oZNe 33 <| oI (-2) <| oIret) else oNo))) else (bif Nat.blt pc 44 then (bif Nat.beq pc 33 then (oAld 0 <| oGet (fgL) 2 12 <| oI 0 <| oC2 (cL_J7_fill_53178) <| oI 0 <| oIst 4 <| oM [true, false, true, true, true, false] (oTo 44)) else oNo) else (bif Nat.blt pc 91 then (bif Nat.beq pc 44 then (oIld 4 <| oI 1 <| oAdd <| oIld 3 <| oCGe 97 <| oAld 0 <| oIld 4 <| oC2 (cL_X2_holeBehind) <| oI 100 <| oMin <| oIst 5 <| oIld 5 <| oZLt 91 <| oIld 5 <| oAld 0 <| oGet (fgL) 2 12 <| oLen (agL) <| oCGe 91 <| oAld 0 <| oGet (fgL) 2 12 <| oIld 5 <| oDup2 <| oIa (agL) <| oI 1 <| oAddW <| oIas (agL) (apL) <| oTo 91) else oNo) else (bif Nat.beq pc 91 then (oInc 4 1 <| oM [true, false, true, true, true, false] (oTo 44)) else oNo)))) else (bif Nat.blt pc 137 then (bif Nat.blt pc 104 then (bif Nat.beq pc 97 then (oI 1 <| oIst 4 <| oI 99 <| oIst 5 <| oM [true, false, true, false, true, true] (oTo 104)) else oNo) else (bif Nat.blt pc 136 then (bif Nat.beq pc 104 then (oIld 5 <| oI 1 <| oCLt 155 <| oIld 4 <| oIld 5 <| oI 1 <| oAdd <| oAld 0 <| oGet (fgL) 2 12 <| oLen (agL) <| oCGe 136 <| oAld 0 <| oGet (fgL) 2 12 <| oIld 5 <| oI 1 <| oAdd <| oIa (agL) <| oTo 137) else oNo) else (bif Nat.beq pc 136 then (oI 0 <| oTo 137) else oNo))) else (bif Nat.blt pc 149 then (bif Nat.beq pc 137 then (oAddW <| oIst 4 <| oIld 4 <| oIld 2 <| oCLt 149 <| oIld 5 <| oIret) else oNo) else (bif Nat.blt pc 155 then (bif Nat.beq pc 149 then (oInc 5 (-1) <| oM [true, false, true, false, true, true] (oTo 104)) else oNo) else (bif Nat.beq pc 155 then (oI (-2) <| oIret) else oNo))))
theorem tX2_parts_ok : ∀ pc, bOk (encL) (bdL) mX2_parts 0 0 pc (tX2_parts pc) := fun pc => (tNode (tNode (tNode (tLeaf (okIldn iX2_parts_0 rfl <| okC1 (qL_X2_isKey iX2_parts_1) <| okZEq (tl rfl) iX2_parts_4 <| okIldn iX2_parts_7 rfl <| okIc iX2_parts_8 <| okCLt (tl rfl) iX2_parts_9 <| okIldn iX2_parts_12 rfl <| okBi iX2_parts_13 (by decide) <| okCLe (tl rfl) iX2_parts_15 <| okTo (tl rfl))) (tNode (tLeaf (okIc iX2_parts_18 <| okIret iX2_parts_19 rfl)) (tLeaf (okAldn iX2_parts_20 rfl <| okIldn iX2_parts_21 rfl <| okC2 (qL_X2_sortTaken iX2_parts_22) <| okIstn iX2_parts_25 rfl (by decide) <| okIldn iX2_parts_26 rfl <| okZNe (tl rfl) iX2_parts_27 <| okBi iX2_parts_30 (by decide) <| okIret iX2_parts_32 rfl)))) (tNode (tLeaf (okAldn iX2_parts_33 rfl <| okGet (vFgL) iX2_parts_34 <| okIc iX2_parts_37 <| okC2 (qL_J7_fill_53178 iX2_parts_38) <| okIc iX2_parts_41 <| okIst iX2_parts_42 (by decide) <| okM (okTo (tl rfl)))) (tNode (tLeaf (okIld iX2_parts_44 <| okIc iX2_parts_46 <| okAdd iX2_parts_47 <| okIldn iX2_parts_48 rfl <| okCGe (tl rfl) iX2_parts_49 <| okAldn iX2_parts_52 rfl <| okIld iX2_parts_53 <| okC2 (qL_X2_holeBehind iX2_parts_55) <| okBi iX2_parts_58 (by decide) <| okMin iX2_parts_60 <| okIst iX2_parts_63 (by decide) <| okIld iX2_parts_65 <| okZLt (tl rfl) iX2_parts_67 <| okIld iX2_parts_70 <| okAldn iX2_parts_72 rfl <| okGet (vFgL) iX2_parts_73 <| okLen (vAgL) iX2_parts_76 <| okCGe (tl rfl) iX2_parts_77 <| okAldn iX2_parts_80 rfl <| okGet (vFgL) iX2_parts_81 <| okIld iX2_parts_84 <| okDup2 iX2_parts_86 <| okIa (vAgL) iX2_parts_87 <| okIc iX2_parts_88 <| okAddW iX2_parts_89 <| okIas (vAgL) iX2_parts_90 <| okTo (tl rfl))) (tLeaf (okInc iX2_parts_91 (by decide) <| okGotoM (tl rfl) iX2_parts_94))))) (tNode (tNode (tLeaf (okIc iX2_parts_97 <| okIst iX2_parts_98 (by decide) <| okBi iX2_parts_100 (by decide) <| okIst iX2_parts_102 (by decide) <| okM (okTo (tl rfl)))) (tNode (tLeaf (okIld iX2_parts_104 <| okIc iX2_parts_106 <| okCLt (tl rfl) iX2_parts_107 <| okIld iX2_parts_110 <| okIld iX2_parts_112 <| okIc iX2_parts_114 <| okAdd iX2_parts_115 <| okAldn iX2_parts_116 rfl <| okGet (vFgL) iX2_parts_117 <| okLen (vAgL) iX2_parts_120 <| okCGe (tl rfl) iX2_parts_121 <| okAldn iX2_parts_124 rfl <| okGet (vFgL) iX2_parts_125 <| okIld iX2_parts_128 <| okIc iX2_parts_130 <| okAdd iX2_parts_131 <| okIa (vAgL) iX2_parts_132 <| okGoto (tl rfl) iX2_parts_133)) (tLeaf (okIc iX2_parts_136 <| okTo (tl rfl))))) (tNode (tLeaf (okAddW iX2_parts_137 <| okIst iX2_parts_138 (by decide) <| okIld iX2_parts_140 <| okIldn iX2_parts_142 rfl <| okCLt (tl rfl) iX2_parts_143 <| okIld iX2_parts_146 <| okIret iX2_parts_148 rfl)) (tNode (tLeaf (okInc iX2_parts_149 (by decide) <| okGotoM (tl rfl) iX2_parts_152)) (tLeaf (okBi iX2_parts_155 (by decide) <| okIret iX2_parts_157 rfl)))))) pc
/-- how many holes have a width -/
def ptL (n : Int) : Nat → Int → LSt → LSt
  | 0, _, s => s
  | m + 1, k, s => ptL n m (k + 1) (if 0 ≤ min (lHole s k) 100 ∧ min (lHole s k) 100 < 101 then setA s 3 (xup (s.2.1 3) (min (lHole s k) 100).toNat (wI (s.2.1 3 (min (lHole s k) 100).toNat + 1))) else s)
def pgL (s : LSt) (n : Int) : Nat → Int → Int
  | 0, _ => -2
  | m + 1, f => if n ≤ wI (f + s.2.1 3 (m + 2)) then ((m + 1 : Nat) : Int) else pgL s n m (wI (f + s.2.1 3 (m + 2)))
def fParts2 (s : LSt) (n : Int) : Int × LSt := (pgL s n 99 1, s)
def fParts (s : LSt) (k n : Int) : Int × LSt := if (0 ≤ k ∧ k < 6) ∧ 1 ≤ n ∧ n ≤ 60 then (if (lSort s k).1 = 0 then (-2, (lSort s k).2) else
  fParts2 (ptL ((lSort s k).1 : Int) ((lSort s k).1 - 1) 0 (setA (lSort s k).2 3 (fun j => if j < 101 then 0 else (lSort s k).2.2.1 3 j))) n) else (-1, s)
theorem X2_parts_l2 {K : KL} {Pt : LSt → Prop} (s : LSt) (n : Int) (hn : xB n) : ∀ (m : Nat) (f : Int), m ≤ 99 → xB f → K [pI (pgL s n m f)] s → wX encL bdL mX2_parts 0 0 K Pt 104 [some (pR 0), none, some (pI n), none, some (pI f), some (pI m)] [] s := by
  intro m
  induction m with
  | zero =>
    intro f h1 hf hK
    refine wx_J [44, 104] 9 tX2_parts_ok rfl (fun J hR hJ => ?_)
    repeat' (first | (refine And.intro ?_ ?_) | intro _)
    all_goals first | omega | exact hR _ _ hK
  | succ m ih =>
    intro f h1 hf hK
    refine wx_J [44, 104] 9 tX2_parts_ok rfl (fun J hR hJ => ?_)
    rw [pgL] at hK
    have e1 : (((m + 1 : Nat) : Int) + 1).toNat = m + 2 := by omega
    have e2 : ((m + 1 : Nat) : Int) + -1 = (m : Int) := by omega
    refine ⟨⟨⟨by omega, by omega⟩, ⟨by omega, by omega⟩⟩, fun c => absurd c (by omega), fun _ => ⟨⟨⟨by omega, by omega⟩, ⟨by omega, by omega⟩⟩, fun c => absurd (show (101 : Int) ≤ ((m + 1 : Nat) : Int) + 1 from c) (by omega), fun c => ⟨⟨by omega, by show ((m + 1 : Nat) : Int) + 1 < (101 : Int); omega⟩, fun hx => ?_⟩⟩⟩
    rw [e1] at hx ⊢
    intro hs
    refine ⟨⟨hs, hn⟩, fun c2 => ?_, fun c2 => ?_⟩
    · rw [if_neg (by omega)] at hK
      have g := ih _ (by omega) (wI_B _) hK
      rw [← e2] at g
      exact hJ _ _ _ _ g
    · rw [if_pos c2] at hK
      exact hR _ _ hK
theorem X2_parts_l1 {K : KL} {Pt : LSt → Prop} (n so : Int) (hn : xB n) (hso : 1 ≤ so ∧ so ≤ 160) : ∀ (m : Nat) (k : Int) (s : LSt), 0 ≤ k → k ≤ so - 1 → m = (so - 1 - k).toNat → K [pI (fParts2 (ptL so m k s) n).1] (fParts2 (ptL so m k s) n).2 → wX encL bdL mX2_parts 0 0 K Pt 44 [some (pR 0), none, some (pI n), some (pI so), some (pI k), none] [] s := by
  intro m
  induction m with
  | zero =>
    intro k s h0 h1 hm hK
    refine wx_J [44, 104] 9 tX2_parts_ok rfl (fun J hR hJ => ?_)
    rw [ptL] at hK
    have g := X2_parts_l2 (K := K) (Pt := Pt) s n hn 99 1 (by omega) ⟨by omega, by omega⟩ hK
    repeat' (first | (refine And.intro ?_ ?_) | intro _)
    all_goals first | omega | exact hJ _ _ _ _ g
  | succ m ih =>
    intro k s h0 h1 hm hK
    refine wx_J [44, 104] 9 tX2_parts_ok rfl (fun J hR hJ => ?_)
    rw [ptL] at hK
    have hm2 := min_B (wI_B (lCell s (wI (k + 1)) 2 - lCell s k 2)) (b := 100) ⟨by omega, by omega⟩
    have hm3 : xB (min (lHole s k) 100) := hm2
    have g := ih (k + 1) _ (by omega) (by omega) (by omega) hK
    refine ⟨⟨⟨by omega, by omega⟩, ⟨by omega, by omega⟩⟩, fun c => absurd c (by omega), fun _ => ⟨⟨by omega, by omega⟩, fun hx => ⟨⟨hx, ⟨by omega, by omega⟩⟩, ⟨hm3, fun c => ?_, fun c => ?_⟩⟩⟩⟩
    · rw [if_neg (by omega)] at g
      exact hJ _ _ _ _ g
    · refine ⟨⟨hm3, ⟨by omega, by omega⟩⟩, fun c2 => ?_, fun c2 => ?_⟩
      · have c2 : (101 : Int) ≤ min (lHole s k) 100 := c2
        omega
      · have c2 : min (lHole s k) 100 < (101 : Int) := c2
        rw [if_pos ⟨c, c2⟩] at g
        exact ⟨⟨c, c2⟩, fun hy hz => ⟨⟨c, c2, hz⟩, hJ _ _ _ _ g⟩⟩
def sX2_parts : Int → Int → LSt → KL → Prop := fun k n s K => (xB k ∧ xB n ∧ lok s) ∧ K [pI (fParts s k n).1] (fParts s k n).2
theorem mX2_parts_ok : mOk encL bdL mX2_parts (atR 0 (a2 sX2_parts)) := by
  refine mOVa2 kX2_parts (fun _ _ => rfl) (fun k n s K h hb => wx_J [44, 104] 9 tX2_parts_ok rfl (fun J hR hJ => ?_))
  obtain ⟨⟨h1, h2, h5⟩, hK⟩ := h
  have hw := h5.2.2.2 0 (by decide)
  unfold fParts at hK
  by_cases c : (0 ≤ k ∧ k < 6) ∧ 1 ≤ n ∧ n ≤ 60
  · rw [if_pos c] at hK
    refine ⟨h1, fun c1 => ⟨⟨by omega, by omega⟩, fun q => absurd q (by omega), fun _ => ⟨⟨h2, ⟨by omega, by omega⟩⟩, fun q => absurd q (by omega), fun _ => ⟨⟨h2, ⟨by omega, by omega⟩⟩, fun _ => ?_, fun q => absurd q (by omega)⟩⟩⟩, fun c1 => absurd c.1 c1⟩
    refine ⟨⟨h1, hw⟩, fun n0 n1 => ⟨⟨by omega, by omega⟩, fun q => ?_, fun q => ?_⟩⟩
    · rw [if_neg (by omega)] at hK
      have g := X2_parts_l1 (K := K) (Pt := fun _ => False) n ((lSort s k).1 : Int) h2 ⟨by omega, by omega⟩ ((lSort s k).1 - 1) 0 _ (by omega) (by omega) (by omega) hK
      exact ⟨⟨by omega, by omega⟩, hJ _ _ _ _ g⟩
    · rw [if_pos (by omega)] at hK
      exact hR _ _ hK
  · rw [if_neg c] at hK
    repeat' (first | (refine And.intro ?_ ?_) | (intro hq; first | (exact absurd hq (by omega)) | skip))
    all_goals first | omega | exact hR _ _ hK | (exact absurd ⟨‹_›, by omega, by omega⟩ c)
