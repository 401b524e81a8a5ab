/-! ===== the model: an event comes, a mark, an idle source ===== -/
-- X3_comes: heads []
def tX3_comes : Nat → Blk MS := fun pc => bif Nat.blt pc 57 then (bif Nat.blt pc 35 then (bif Nat.blt pc 25 then (bif Nat.beq pc 0 then (oAld 0 <| oIld 1 <| oI 4 <| oC3 (cM_X3_of) <| oIst 6 <| oIld 3 <| oIld 6 <| oAld 0 <| oIld 1 <| oI 2 <| oC3 (cM_X3_of) <| oSubW <| oCGe 25 <| oI 2 <| oTo 36) else oNo) else (bif Nat.beq pc 25 then (oIld 3 <| oIld 6 <| oCGe 35 <| oI 1 <| oTo 36) else oNo)) else (bif Nat.blt pc 36 then (bif Nat.beq pc 35 then (oI 0 <| oTo 36) else oNo) else (bif Nat.beq pc 36 then (oIst 7 <| oAld 0 <| oIld 1 <| oI 0 <| oIld 5 <| oIld 3 <| oIld 2 <| oIld 4 <| oIld 7 <| oI 2 <| oCGe 57 <| oI 1 <| oTo 58) else oNo))) else (bif Nat.blt pc 104 then (bif Nat.blt pc 58 then (bif Nat.beq pc 57 then (oI 0 <| oTo 58) else oNo) else (bif Nat.beq pc 58 then (oC1 (cM_X3_flag) <| oC8 (cM_X3_notes) <| oAld 0 <| oI 0 <| oPut (fpM) 3 12 <| oIld 7 <| oI 2 <| oCGe 104 <| oAld 0 <| oIld 1 <| oI 8 <| oI 1 <| oC4 (cM_X3_adds) <| oAld 0 <| oIld 1 <| oI 9 <| oIld 7 <| oC4 (cM_X3_adds) <| oAld 0 <| oIld 1 <| oIld 2 <| oIld 3 <| oIld 4 <| oC5 (cM_X3_joins) <| oTo 123) else oNo)) else (bif Nat.blt pc 123 then (bif Nat.beq pc 104 then (oAld 0 <| oIld 1 <| oI 10 <| oI 1 <| oC4 (cM_X3_adds) <| oAld 0 <| oIld 1 <| oI 28 <| oIld 5 <| oAdd <| oI 1 <| oC4 (cM_X3_adds) <| oTo 123) else oNo) else (bif Nat.beq pc 123 then (oAld 0 <| oIld 1 <| oI 24 <| oIld 5 <| oAdd <| oI 1 <| oC4 (cM_X3_adds) <| oAld 0 <| oIld 1 <| oI 20 <| oIld 5 <| oAdd <| oI 0 <| oC4 (cM_X3_puts) <| oAld 0 <| oIld 1 <| oI 12 <| oIld 5 <| oAdd <| oAld 0 <| oIld 1 <| oI 12 <| oIld 5 <| oAdd <| oC3 (cM_X3_of) <| oIld 3 <| oAld 0 <| oIld 1 <| oI 16 <| oIld 5 <| oAdd <| oC3 (cM_X3_of) <| oSubW <| oMax <| oC4 (cM_X3_puts) <| oAld 0 <| oIld 1 <| oC2 (cM_X3_rises) <| oIld 7 <| oIret) else oNo)))
theorem tX3_comes_ok : ∀ pc, bOk (encM) (bdM) mX3_comes 0 0 pc (tX3_comes pc) := fun pc => (tNode (tNode (tNode (tLeaf (okAldn iX3_comes_0 rfl <| okIldn iX3_comes_1 rfl <| okIc iX3_comes_2 <| okC3 (qM_X3_of iX3_comes_3) <| okIst iX3_comes_6 (by decide) <| okIldn iX3_comes_8 rfl <| okIld iX3_comes_9 <| okAldn iX3_comes_11 rfl <| okIldn iX3_comes_12 rfl <| okIc iX3_comes_13 <| okC3 (qM_X3_of iX3_comes_14) <| okSubW iX3_comes_17 <| okCGe (tl rfl) iX3_comes_18 <| okIc iX3_comes_21 <| okGoto (tl rfl) iX3_comes_22)) (tLeaf (okIldn iX3_comes_25 rfl <| okIld iX3_comes_26 <| okCGe (tl rfl) iX3_comes_28 <| okIc iX3_comes_31 <| okGoto (tl rfl) iX3_comes_32))) (tNode (tLeaf (okIc iX3_comes_35 <| okTo (tl rfl))) (tLeaf (okIst iX3_comes_36 (by decide) <| okAldn iX3_comes_38 rfl <| okIldn iX3_comes_39 rfl <| okIc iX3_comes_40 <| okIld iX3_comes_41 <| okIldn iX3_comes_43 rfl <| okIldn iX3_comes_44 rfl <| okIld iX3_comes_45 <| okIld iX3_comes_47 <| okIc iX3_comes_49 <| okCGe (tl rfl) iX3_comes_50 <| okIc iX3_comes_53 <| okGoto (tl rfl) iX3_comes_54)))) (tNode (tNode (tLeaf (okIc iX3_comes_57 <| okTo (tl rfl))) (tLeaf (okC1 (qM_X3_flag iX3_comes_58) <| okC8 (qM_X3_notes iX3_comes_61) <| okAldn iX3_comes_64 rfl <| okIc iX3_comes_65 <| okPut (vFpM) iX3_comes_66 <| okIld iX3_comes_69 <| okIc iX3_comes_71 <| okCGe (tl rfl) iX3_comes_72 <| okAldn iX3_comes_75 rfl <| okIldn iX3_comes_76 rfl <| okBi iX3_comes_77 (by decide) <| okIc iX3_comes_79 <| okC4 (qM_X3_adds iX3_comes_80) <| okAldn iX3_comes_83 rfl <| okIldn iX3_comes_84 rfl <| okBi iX3_comes_85 (by decide) <| okIld iX3_comes_87 <| okC4 (qM_X3_adds iX3_comes_89) <| okAldn iX3_comes_92 rfl <| okIldn iX3_comes_93 rfl <| okIldn iX3_comes_94 rfl <| okIldn iX3_comes_95 rfl <| okIld iX3_comes_96 <| okC5 (qM_X3_joins iX3_comes_98) <| okGoto (tl rfl) iX3_comes_101))) (tNode (tLeaf (okAldn iX3_comes_104 rfl <| okIldn iX3_comes_105 rfl <| okBi iX3_comes_106 (by decide) <| okIc iX3_comes_108 <| okC4 (qM_X3_adds iX3_comes_109) <| okAldn iX3_comes_112 rfl <| okIldn iX3_comes_113 rfl <| okBi iX3_comes_114 (by decide) <| okIld iX3_comes_116 <| okAdd iX3_comes_118 <| okIc iX3_comes_119 <| okC4 (qM_X3_adds iX3_comes_120) <| okTo (tl rfl))) (tLeaf (okAldn iX3_comes_123 rfl <| okIldn iX3_comes_124 rfl <| okBi iX3_comes_125 (by decide) <| okIld iX3_comes_127 <| okAdd iX3_comes_129 <| okIc iX3_comes_130 <| okC4 (qM_X3_adds iX3_comes_131) <| okAldn iX3_comes_134 rfl <| okIldn iX3_comes_135 rfl <| okBi iX3_comes_136 (by decide) <| okIld iX3_comes_138 <| okAdd iX3_comes_140 <| okIc iX3_comes_141 <| okC4 (qM_X3_puts iX3_comes_142) <| okAldn iX3_comes_145 rfl <| okIldn iX3_comes_146 rfl <| okBi iX3_comes_147 (by decide) <| okIld iX3_comes_149 <| okAdd iX3_comes_151 <| okAldn iX3_comes_152 rfl <| okIldn iX3_comes_153 rfl <| okBi iX3_comes_154 (by decide) <| okIld iX3_comes_156 <| okAdd iX3_comes_158 <| okC3 (qM_X3_of iX3_comes_159) <| okIldn iX3_comes_162 rfl <| okAldn iX3_comes_163 rfl <| okIldn iX3_comes_164 rfl <| okBi iX3_comes_165 (by decide) <| okIld iX3_comes_167 <| okAdd iX3_comes_169 <| okC3 (qM_X3_of iX3_comes_170) <| okSubW iX3_comes_173 <| okMax iX3_comes_174 <| okC4 (qM_X3_puts iX3_comes_177) <| okAldn iX3_comes_180 rfl <| okIldn iX3_comes_181 rfl <| okC2 (qM_X3_rises iX3_comes_182) <| okIld iX3_comes_185 <| okIret iX3_comes_187 rfl))))) pc
-- X3_isMarked: heads []
def tX3_isMarked : Nat → Blk MS := fun pc => bif Nat.beq pc 0 then (oAld 0 <| oIld 1 <| oI 1 <| oIld 2 <| oIld 3 <| oI (-1) <| oI 0 <| oI 0 <| oC8 (cM_X3_notes) <| oAld 0 <| oIld 1 <| oI 12 <| oIld 2 <| oAdd <| oIld 3 <| oC4 (cM_X3_puts) <| oAld 0 <| oIld 1 <| oC2 (cM_X3_rises) <| oVret) else oNo
theorem tX3_isMarked_ok : ∀ pc, bOk (encM) (bdM) mX3_isMarked 0 0 pc (tX3_isMarked pc) := fun pc => (tLeaf (okAldn iX3_isMarked_0 rfl <| okIldn iX3_isMarked_1 rfl <| okIc iX3_isMarked_2 <| okIldn iX3_isMarked_3 rfl <| okIldn iX3_isMarked_4 rfl <| okIc iX3_isMarked_5 <| okIc iX3_isMarked_6 <| okIc iX3_isMarked_7 <| okC8 (qM_X3_notes iX3_isMarked_8) <| okAldn iX3_isMarked_11 rfl <| okIldn iX3_isMarked_12 rfl <| okBi iX3_isMarked_13 (by decide) <| okIldn iX3_isMarked_15 rfl <| okAdd iX3_isMarked_16 <| okIldn iX3_isMarked_17 rfl <| okC4 (qM_X3_puts iX3_isMarked_18) <| okAldn iX3_isMarked_21 rfl <| okIldn iX3_isMarked_22 rfl <| okC2 (qM_X3_rises iX3_isMarked_23) <| okVret iX3_isMarked_26 rfl)) pc
-- X3_isIdle: heads []
def tX3_isIdle : Nat → Blk MS := fun pc => bif Nat.beq pc 0 then (oAld 0 <| oIld 1 <| oI 2 <| oIld 2 <| oI 0 <| oI (-1) <| oI 0 <| oI 0 <| oC8 (cM_X3_notes) <| oAld 0 <| oIld 1 <| oI 20 <| oIld 2 <| oAdd <| oI 1 <| oC4 (cM_X3_puts) <| oAld 0 <| oIld 1 <| oC2 (cM_X3_rises) <| oVret) else oNo
theorem tX3_isIdle_ok : ∀ pc, bOk (encM) (bdM) mX3_isIdle 0 0 pc (tX3_isIdle pc) := fun pc => (tLeaf (okAldn iX3_isIdle_0 rfl <| okIldn iX3_isIdle_1 rfl <| okIc iX3_isIdle_2 <| okIldn iX3_isIdle_3 rfl <| okIc iX3_isIdle_4 <| okIc iX3_isIdle_5 <| okIc iX3_isIdle_6 <| okIc iX3_isIdle_7 <| okC8 (qM_X3_notes iX3_isIdle_8) <| okAldn iX3_isIdle_11 rfl <| okIldn iX3_isIdle_12 rfl <| okBi iX3_isIdle_13 (by decide) <| okIldn iX3_isIdle_15 rfl <| okAdd iX3_isIdle_16 <| okIc iX3_isIdle_17 <| okC4 (qM_X3_puts iX3_isIdle_18) <| okAldn iX3_isIdle_21 rfl <| okIldn iX3_isIdle_22 rfl <| okC2 (qM_X3_rises iX3_isIdle_23) <| okVret iX3_isIdle_26 rfl)) pc
def mHow (s : MS) (d t : Int) : Int := if t < wI (mg s (d * 2804 + 4) - mg s (d * 2804 + 2)) then 2 else if t < mg s (d * 2804 + 4) then 1 else 0
theorem mHow_b (s : MS) (d t : Int) : 0 ≤ mHow s d t ∧ mHow s d t ≤ 2 := by
  unfold mHow
  split
  · omega
  · split <;> omega
def cmE (s : MS) (d t r : Int) (n : Nat) (K : MS → Prop) : Prop :=
  let s3 := mP (mInc s (d * 2804 + (24 + r)) 1) (d * 2804 + (20 + r)) 0
  let s4 := mP s3 (d * 2804 + (12 + r)) (max (mg s3 (d * 2804 + (12 + r))) (wI (t - mg s3 (d * 2804 + (16 + r)))))
  mg s4 (d * 2804 + 0) ≤ 4 ∧ mRisP s4 d n K
def mComeP (s : MS) (d k t v r : Int) (n : Nat) (K : MS → Prop) : Prop :=
  (mHow s d t < 2 → mJoinP (mInc (mInc (mS (mNote s d 0 r t k v 1) 12 0) (d * 2804 + 8) 1) (d * 2804 + 9) (mHow s d t)) d k t v n (fun s2 => cmE s2 d t r n K)) ∧ (mHow s d t = 2 → cmE (mInc (mInc (mS (mNote s d 0 r t k v 0) 12 0) (d * 2804 + 10) 1) (d * 2804 + (28 + r)) 1) d t r n K)
def sX3_comes : Int → Int → Int → Int → Int → MS → KM → Prop := fun d k t v r s K => (dOk d ∧ (0 ≤ r ∧ r ≤ 3) ∧ (xB k ∧ xB t ∧ xB v) ∧ 0 ≤ mg s (d * 2804 + 6) ∧ mg s (d * 2804 + 6) ≤ 159) ∧ ∃ n, mComeP s d k t v r n (fun s' => 0 ≤ mHow s d t → mHow s d t ≤ 2 → K [pI (mHow s d t)] s')
theorem rrP_mono {d wa : Int} {K K' : MS → Prop} (h : ∀ s, K s → K' s) : ∀ (n : Nat) (i : Int) (s : MS), rrP d wa K n i s → rrP d wa K' n i s
  | 0, i, s, q => ⟨q.1, h s q.2⟩
  | n + 1, i, s, q => ⟨fun c => h s (q.1 c), fun c => ⟨(q.2 c).1, rrP_mono h n _ _ (q.2 c).2⟩⟩
theorem ccP_mono {d : Int} {K K' : MS → Prop} (h : ∀ s, K s → K' s) : ∀ (n : Nat) (i : Int) (s : MS), ccP d K n i s → ccP d K' n i s
  | 0, i, s, q => ⟨q.1, h s q.2⟩
  | n + 1, i, s, q => ⟨fun c => h s (q.1 c), fun c => ⟨(q.2 c).1, ccP_mono h n _ _ (q.2 c).2⟩⟩
theorem mRisP_mono {s : MS} {d : Int} {n : Nat} {K K' : MS → Prop} (h : ∀ s, K s → K' s) (q : mRisP s d n K) : mRisP s d n K' :=
  ⟨fun c => h s (q.1 c), fun c => ⟨(q.2 c).1, rrP_mono (fun s1 z => ⟨z.1, ccP_mono h _ _ _ z.2⟩) _ _ _ (q.2 c).2⟩⟩
theorem jnP1_mono {d k t : Int} {K K' : MS → Prop} (h : ∀ s, K s → K' s) : ∀ (n : Nat) (i : Int) (s : MS), jnP1 d k t K n i s → jnP1 d k t K' n i s
  | 0, i, s, q => ⟨q.1, h s q.2⟩
  | n + 1, i, s, q => ⟨fun c => h s (q.1 c), fun c => ⟨(q.2 c).1, fun z => ⟨((q.2 c).2.1 z).1, jnP1_mono h n _ _ ((q.2 c).2.1 z).2⟩, fun z => jnP1_mono h n _ _ ((q.2 c).2.2 z)⟩⟩
theorem jnP2_mono {d k t : Int} {K K' : MS → Prop} (h : ∀ s, K s → K' s) : ∀ (n : Nat) (i : Int) (s : MS), jnP2 d k t K n i s → jnP2 d k t K' n i s
  | 0, i, s, q => ⟨q.1, h s q.2⟩
  | n + 1, i, s, q => ⟨fun c => h s (q.1 c), fun c => ⟨(q.2 c).1, fun z => ⟨((q.2 c).2.1 z).1, jnP2_mono h n _ _ ((q.2 c).2.1 z).2⟩, fun z => jnP2_mono h n _ _ ((q.2 c).2.2 z)⟩⟩
theorem jnE_mono {s : MS} {d : Int} {K K' : MS → Prop} (h : ∀ s, K s → K' s) (q : jnE s d K) : jnE s d K' :=
  ⟨q.1, fun z => ⟨(q.2.1 z).1, h _ (q.2.1 z).2⟩, fun z => ⟨fun y => ⟨((q.2.2 z).1 y).1, h _ ((q.2.2 z).1 y).2⟩, fun y => h _ ((q.2.2 z).2 y)⟩⟩
theorem mJoinP_mono {s : MS} {d k t v : Int} {n : Nat} {K K' : MS → Prop} (h : ∀ s, K s → K' s) (q : mJoinP s d k t v n K) : mJoinP s d k t v n K' :=
  jnP1_mono (fun _ z => jnP2_mono (fun _ y => jnE_mono h y) _ _ _ z) _ _ _ q
theorem cmE_mono {s : MS} {d t r : Int} {n : Nat} {K K' : MS → Prop} (h : ∀ s, K s → K' s) (q : cmE s d t r n K) : cmE s d t r n K' := ⟨q.1, mRisP_mono h q.2⟩
theorem mComeP_mono {s : MS} {d k t v r : Int} {n : Nat} {K K' : MS → Prop} (h : ∀ s, K s → K' s) (q : mComeP s d k t v r n K) : mComeP s d k t v r n K' :=
  ⟨fun c => mJoinP_mono (fun _ z => cmE_mono h z) (q.1 c), fun c => cmE_mono h (q.2 c)⟩
theorem X3_comes_e {K : KM} {Pt : MS → Prop} (d k t v r P how : Int) (hd : dOk d) (hr : 0 ≤ r ∧ r ≤ 3) (ht : xB t) (s : MS) (n : Nat) (h : cmE s d t r n (K [pI how])) : wX encM bdM mX3_comes 0 0 K Pt 123 [some (pR 0), some (pI d), some (pI k), some (pI t), some (pI v), some (pI r), some (pI P), some (pI how)] [] s := by
  refine wx_J [] 9 tX3_comes_ok rfl (fun J hR hJ => ?_)
  obtain ⟨h1, h2⟩ := h
  refine ⟨⟨by omega, by omega⟩, ⟨⟨by omega, by omega⟩, ⟨by omega, by omega⟩⟩, ⟨by omega, by omega⟩, fun a1 => ⟨⟨by omega, by omega⟩, fun a2 a3 => ⟨⟨a1, a3⟩, ⟨⟨by omega, by omega⟩, max_B a1 a3⟩, ⟨⟨hd, h1⟩, n, mRisP_mono (fun s' q => hR _ _ q) h2⟩⟩⟩⟩
theorem mX3_comes_ok : mOk encM bdM mX3_comes (atR 0 (a5 sX3_comes)) := by
  refine mOVa5 kX3_comes (fun _ _ _ _ _ => rfl) (fun d k t v r s K h hb => wx_J [123] 9 tX3_comes_ok rfl (fun J hR hJ => ?_))
  obtain ⟨⟨h1, h2, ⟨h3, h4, h5⟩, h6⟩, n, p1, p2⟩ := h
  have hw := mHow_b s d t
  unfold mHow at p1 p2 hw
  have z0 : xB 0 := ⟨by omega, by omega⟩
  have z1 : xB 1 := ⟨by omega, by omega⟩
  have z2 : xB 2 := ⟨by omega, by omega⟩
  have zr : xB r := ⟨by omega, by omega⟩
  refine ⟨⟨by omega, by omega⟩, fun hp => ⟨⟨by omega, by omega⟩, fun hl hx => ⟨⟨h4, hx⟩, fun c => ?_, fun c => ?_⟩⟩⟩
  · refine ⟨⟨h4, hp⟩, fun c2 => ?_, fun c2 => ?_⟩
    · rw [if_neg (Int.not_lt.mpr c), if_neg (Int.not_lt.mpr c2)] at p1 p2
      have q := p1 (by omega)
      refine ⟨⟨z0, z2⟩, fun y => absurd y (by omega), fun _ => ⟨Or.inr rfl, ⟨⟨h1, ⟨z0, zr, h4, h3, h5, z1⟩, h6⟩, ⟨z0, ⟨⟨z0, z2⟩, fun y => absurd y (by omega), fun _ => ?_⟩⟩⟩⟩⟩
      exact ⟨⟨by omega, by omega⟩, ⟨by omega, by omega⟩, ⟨⟨h1, h3, h4, h5⟩, n, mJoinP_mono (fun s2 y => hJ _ _ _ _ (X3_comes_e d k t v r _ 0 h1 h2 h4 s2 n (cmE_mono (fun s3 x => x (by omega) (by omega)) y))) q⟩⟩
    · rw [if_neg (Int.not_lt.mpr c), if_pos c2] at p1 p2
      have q := p1 (by omega)
      refine ⟨⟨z1, z2⟩, fun y => absurd y (by omega), fun _ => ⟨Or.inr rfl, ⟨⟨h1, ⟨z0, zr, h4, h3, h5, z1⟩, h6⟩, ⟨z0, ⟨⟨z1, z2⟩, fun y => absurd y (by omega), fun _ => ?_⟩⟩⟩⟩⟩
      exact ⟨⟨by omega, by omega⟩, ⟨by omega, by omega⟩, ⟨⟨h1, h3, h4, h5⟩, n, mJoinP_mono (fun s2 y => hJ _ _ _ _ (X3_comes_e d k t v r _ 1 h1 h2 h4 s2 n (cmE_mono (fun s3 x => x (by omega) (by omega)) y))) q⟩⟩
  · rw [if_pos c] at p1 p2
    have q := p2 rfl
    refine ⟨⟨z2, z2⟩, fun _ => ⟨Or.inl rfl, ⟨⟨h1, ⟨z0, zr, h4, h3, h5, z0⟩, h6⟩, ⟨z0, ⟨⟨z2, z2⟩, fun _ => ?_, fun y => absurd y (by omega)⟩⟩⟩⟩, fun y => absurd y (by omega)⟩
    exact ⟨⟨by omega, by omega⟩, ⟨by omega, by omega⟩, hJ _ _ _ _ (X3_comes_e d k t v r _ 2 h1 h2 h4 _ n (cmE_mono (fun s3 x => x (by omega) (by omega)) q))⟩
def cM_X3_comes : Sp MS := atR 0 (a5 sX3_comes)
theorem qM_X3_comes {M : XI} {rc rs pc pc2 : Nat} (d : xl_Ca M pc mX3_comes pc2) : cOk encM bdM M rc rs pc pc2 6 cM_X3_comes := cSame mX3_comes_ok vX3_comes d mcl rfl lenM recM
def mMarkP (s : MS) (d r t : Int) (n : Nat) (K : MS → Prop) : Prop :=
  let s1 := mP (mNote s d 1 r t (-1) 0 0) (d * 2804 + (12 + r)) t
  mg s1 (d * 2804 + 0) ≤ 4 ∧ mRisP s1 d n K
def sX3_isMarked : Int → Int → Int → MS → KM → Prop := fun d r t s K => (dOk d ∧ (0 ≤ r ∧ r ≤ 3) ∧ xB t ∧ 0 ≤ mg s (d * 2804 + 6) ∧ mg s (d * 2804 + 6) ≤ 159) ∧ ∃ n, mMarkP s d r t n (K [])
theorem mX3_isMarked_ok : mOk encM bdM mX3_isMarked (atR 0 (a3 sX3_isMarked)) := by
  refine mOVa3 kX3_isMarked (fun _ _ _ => rfl) (fun d r t s K h hb => wx_J [] 9 tX3_isMarked_ok rfl (fun J hR hJ => ?_))
  obtain ⟨⟨h1, h2, h3, h4⟩, n, q1, q2⟩ := h
  have z0 : xB 0 := ⟨by omega, by omega⟩
  exact ⟨⟨h1, ⟨⟨by omega, by omega⟩, ⟨by omega, by omega⟩, h3, ⟨by omega, by omega⟩, z0, z0⟩, h4⟩, ⟨⟨by omega, by omega⟩, h3⟩, ⟨h1, q1⟩, n, mRisP_mono (fun s' z => hR _ _ z) q2⟩
def cM_X3_isMarked : Sp MS := atR 0 (a3 sX3_isMarked)
theorem qM_X3_isMarked {M : XI} {rc rs pc pc2 : Nat} (d : xl_Ca M pc mX3_isMarked pc2) : cOk encM bdM M rc rs pc pc2 4 cM_X3_isMarked := cSame mX3_isMarked_ok vX3_isMarked d mcl rfl lenM recM
def mIdleP (s : MS) (d r : Int) (n : Nat) (K : MS → Prop) : Prop :=
  let s1 := mP (mNote s d 2 r 0 (-1) 0 0) (d * 2804 + (20 + r)) 1
  mg s1 (d * 2804 + 0) ≤ 4 ∧ mRisP s1 d n K
def sX3_isIdle : Int → Int → MS → KM → Prop := fun d r s K => (dOk d ∧ (0 ≤ r ∧ r ≤ 3) ∧ 0 ≤ mg s (d * 2804 + 6) ∧ mg s (d * 2804 + 6) ≤ 159) ∧ ∃ n, mIdleP s d r n (K [])
theorem mX3_isIdle_ok : mOk encM bdM mX3_isIdle (atR 0 (a2 sX3_isIdle)) := by
  refine mOVa2 kX3_isIdle (fun _ _ => rfl) (fun d r s K h hb => wx_J [] 9 tX3_isIdle_ok rfl (fun J hR hJ => ?_))
  obtain ⟨⟨h1, h2, h4⟩, n, q1, q2⟩ := h
  have z0 : xB 0 := ⟨by omega, by omega⟩
  exact ⟨⟨h1, ⟨⟨by omega, by omega⟩, ⟨by omega, by omega⟩, z0, ⟨by omega, by omega⟩, z0, z0⟩, h4⟩, ⟨⟨by omega, by omega⟩, ⟨by omega, by omega⟩⟩, ⟨h1, q1⟩, n, mRisP_mono (fun s' z => hR _ _ z) q2⟩
def cM_X3_isIdle : Sp MS := atR 0 (a2 sX3_isIdle)
theorem qM_X3_isIdle {M : XI} {rc rs pc pc2 : Nat} (d : xl_Ca M pc mX3_isIdle pc2) : cOk encM bdM M rc rs pc pc2 3 cM_X3_isIdle := cSame mX3_isIdle_ok vX3_isIdle d mcl rfl lenM recM
