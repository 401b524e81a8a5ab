/-! ===== the model: span ===== -/
-- X3_span: heads [46, 59]
def tX3_span : Nat → Blk MS := fun pc => bif Nat.blt pc 127 then (bif Nat.blt pc 46 then (bif Nat.blt pc 30 then (bif Nat.beq pc 0 then (oAld 0 <| oI 0 <| oPut (fpM) 3 0 <| oIld 1 <| oI2l <| oJ 0 <| oJ 9999 <| oC3 (cM_X3_in) <| oZEq 30 <| oIld 2 <| oI2l <| oIld 1 <| oI2l <| oJ 9999 <| oC3 (cM_X3_in) <| oZNe 32 <| oTo 30) else oNo) else (bif Nat.blt pc 32 then (bif Nat.beq pc 30 then (oI (-1) <| oIret) else oNo) else (bif Nat.beq pc 32 then (oI 0 <| oIst 3 <| oI 0 <| oIst 4 <| oI (-1) <| oIst 5 <| oI 0 <| oIst 6 <| oI 0 <| oIst 7 <| oM [true, true, true, true, true, true, true, true, false, false, false] (oTo 46)) else oNo))) else (bif Nat.blt pc 59 then (bif Nat.beq pc 46 then (oIld 7 <| oI 6 <| oCGe 202 <| oI 0 <| oIst 8 <| oI 0 <| oIst 9 <| oM [true, true, true, true, true, true, true, true, true, true, false] (oTo 59)) else oNo) else (bif Nat.blt pc 126 then (bif Nat.beq pc 59 then (oIld 9 <| oAld 0 <| oI 0 <| oI 6 <| oC3 (cM_X3_of) <| oCGe 166 <| oAld 0 <| oIld 9 <| oI 0 <| oC3 (cM_X3_ofInput) <| oZNe 126 <| oAld 0 <| oIld 9 <| oI 5 <| oC3 (cM_X3_ofInput) <| oI 1 <| oCNe 126 <| oAld 0 <| oIld 9 <| oI 3 <| oC3 (cM_X3_ofInput) <| oIld 7 <| oCNe 126 <| oAld 0 <| oIld 9 <| oI 2 <| oC3 (cM_X3_ofInput) <| oI2l <| oIld 1 <| oI2l <| oIld 2 <| oI2l <| oC3 (cM_X3_in) <| oZEq 126 <| oI 1 <| oTo 127) else oNo) else (bif Nat.beq pc 126 then (oI 0 <| oTo 127) else oNo)))) else (bif Nat.blt pc 166 then (bif Nat.blt pc 156 then (bif Nat.beq pc 127 then (oIst 10 <| oIld 8 <| oIld 10 <| oC1 (cM_X3_flag) <| oAddW <| oIst 8 <| oIld 4 <| oIld 10 <| oZEq 156 <| oAld 0 <| oIld 9 <| oI 4 <| oC3 (cM_X3_ofInput) <| oTo 157) else oNo) else (bif Nat.blt pc 157 then (bif Nat.beq pc 156 then (oI 0 <| oTo 157) else oNo) else (bif Nat.beq pc 157 then (oAddW <| oIst 4 <| oInc 9 1 <| oM [true, true, true, true, true, true, true, true, true, true, false] (oTo 59)) else oNo))) else (bif Nat.blt pc 185 then (bif Nat.blt pc 183 then (bif Nat.beq pc 166 then (oIld 3 <| oIld 8 <| oAddW <| oIst 3 <| oIld 8 <| oIld 6 <| oCLe 183 <| oIld 7 <| oTo 185) else oNo) else (bif Nat.beq pc 183 then (oIld 5 <| oTo 185) else oNo)) else (bif Nat.blt pc 202 then (bif Nat.beq pc 185 then (oIst 5 <| oIld 6 <| oIld 8 <| oMax <| oIst 6 <| oInc 7 1 <| oM [true, true, true, true, true, true, true, true, false, false, false] (oTo 46)) else oNo) else (bif Nat.beq pc 202 then (oAld 0 <| oI 0 <| oPut (fpM) 3 1 <| oAld 0 <| oIld 4 <| oI2l <| oC2 (cM_X3_enters) <| oAld 0 <| oIld 5 <| oI2l <| oC2 (cM_X3_enters) <| oAld 0 <| oIld 6 <| oI2l <| oC2 (cM_X3_enters) <| oIld 3 <| oIret) else oNo))))
theorem tX3_span_ok : ∀ pc, bOk (encM) (bdM) mX3_span 0 0 pc (tX3_span pc) := fun pc => (tNode (tNode (tNode (tLeaf (okAldn iX3_span_0 rfl <| okIc iX3_span_1 <| okPut (vFpM) iX3_span_2 <| okIldn iX3_span_5 rfl <| okI2l iX3_span_6 <| okLc iX3_span_7 rfl <| okLdc2 (v := 9999) iX3_span_8 (xl_Ti 1028 (by decide +kernel) rfl) (by decide) <| okC3 (qM_X3_in iX3_span_11) <| okZEq (tl rfl) iX3_span_14 <| okIldn iX3_span_17 rfl <| okI2l iX3_span_18 <| okIldn iX3_span_19 rfl <| okI2l iX3_span_20 <| okLdc2 (v := 9999) iX3_span_21 (xl_Ti 1028 (by decide +kernel) rfl) (by decide) <| okC3 (qM_X3_in iX3_span_24) <| okZNe (tl rfl) iX3_span_27 <| okTo (tl rfl))) (tNode (tLeaf (okIc iX3_span_30 <| okIret iX3_span_31 rfl)) (tLeaf (okIc iX3_span_32 <| okIstn iX3_span_33 rfl (by decide) <| okIc iX3_span_34 <| okIst iX3_span_35 (by decide) <| okIc iX3_span_37 <| okIst iX3_span_38 (by decide) <| okIc iX3_span_40 <| okIst iX3_span_41 (by decide) <| okIc iX3_span_43 <| okIst iX3_span_44 (by decide) <| okM (okTo (tl rfl)))))) (tNode (tLeaf (okIld iX3_span_46 <| okBi iX3_span_48 (by decide) <| okCGe (tl rfl) iX3_span_50 <| okIc iX3_span_53 <| okIst iX3_span_54 (by decide) <| okIc iX3_span_56 <| okIst iX3_span_57 (by decide) <| okM (okTo (tl rfl)))) (tNode (tLeaf (okIld iX3_span_59 <| okAldn iX3_span_61 rfl <| okIc iX3_span_62 <| okBi iX3_span_63 (by decide) <| okC3 (qM_X3_of iX3_span_65) <| okCGe (tl rfl) iX3_span_68 <| okAldn iX3_span_71 rfl <| okIld iX3_span_72 <| okIc iX3_span_74 <| okC3 (qM_X3_ofInput iX3_span_75) <| okZNe (tl rfl) iX3_span_78 <| okAldn iX3_span_81 rfl <| okIld iX3_span_82 <| okIc iX3_span_84 <| okC3 (qM_X3_ofInput iX3_span_85) <| okIc iX3_span_88 <| okCNe (tl rfl) iX3_span_89 <| okAldn iX3_span_92 rfl <| okIld iX3_span_93 <| okIc iX3_span_95 <| okC3 (qM_X3_ofInput iX3_span_96) <| okIld iX3_span_99 <| okCNe (tl rfl) iX3_span_101 <| okAldn iX3_span_104 rfl <| okIld iX3_span_105 <| okIc iX3_span_107 <| okC3 (qM_X3_ofInput iX3_span_108) <| okI2l iX3_span_111 <| okIldn iX3_span_112 rfl <| okI2l iX3_span_113 <| okIldn iX3_span_114 rfl <| okI2l iX3_span_115 <| okC3 (qM_X3_in iX3_span_116) <| okZEq (tl rfl) iX3_span_119 <| okIc iX3_span_122 <| okGoto (tl rfl) iX3_span_123)) (tLeaf (okIc iX3_span_126 <| okTo (tl rfl)))))) (tNode (tNode (tLeaf (okIst iX3_span_127 (by decide) <| okIld iX3_span_129 <| okIld iX3_span_131 <| okC1 (qM_X3_flag iX3_span_133) <| okAddW iX3_span_136 <| okIst iX3_span_137 (by decide) <| okIld iX3_span_139 <| okIld iX3_span_141 <| okZEq (tl rfl) iX3_span_143 <| okAldn iX3_span_146 rfl <| okIld iX3_span_147 <| okIc iX3_span_149 <| okC3 (qM_X3_ofInput iX3_span_150) <| okGoto (tl rfl) iX3_span_153)) (tNode (tLeaf (okIc iX3_span_156 <| okTo (tl rfl))) (tLeaf (okAddW iX3_span_157 <| okIst iX3_span_158 (by decide) <| okInc iX3_span_160 (by decide) <| okGotoM (tl rfl) iX3_span_163)))) (tNode (tNode (tLeaf (okIldn iX3_span_166 rfl <| okIld iX3_span_167 <| okAddW iX3_span_169 <| okIstn iX3_span_170 rfl (by decide) <| okIld iX3_span_171 <| okIld iX3_span_173 <| okCLe (tl rfl) iX3_span_175 <| okIld iX3_span_178 <| okGoto (tl rfl) iX3_span_180)) (tLeaf (okIld iX3_span_183 <| okTo (tl rfl)))) (tNode (tLeaf (okIst iX3_span_185 (by decide) <| okIld iX3_span_187 <| okIld iX3_span_189 <| okMax iX3_span_191 <| okIst iX3_span_194 (by decide) <| okInc iX3_span_196 (by decide) <| okGotoM (tl rfl) iX3_span_199)) (tLeaf (okAldn iX3_span_202 rfl <| okIc iX3_span_203 <| okPut (vFpM) iX3_span_204 <| okAldn iX3_span_207 rfl <| okIld iX3_span_208 <| okI2l iX3_span_210 <| okC2 (qM_X3_enters iX3_span_211) <| okAldn iX3_span_214 rfl <| okIld iX3_span_215 <| okI2l iX3_span_217 <| okC2 (qM_X3_enters iX3_span_218) <| okAldn iX3_span_221 rfl <| okIld iX3_span_222 <| okI2l iX3_span_224 <| okC2 (qM_X3_enters iX3_span_225) <| okIldn iX3_span_228 rfl <| okIret iX3_span_229 rfl)))))) pc
def gSpE (s : MS) (k f t i : Int) : Int := if iC s i 0 = 0 ∧ iC s i 5 = 1 ∧ iC s i 3 = k ∧ inB (iC s i 2) f t then 1 else 0
def gSpN (s : MS) (k f t : Int) : Nat → Int → Int → Int → Int × Int
  | 0, _, a, b => (a, b)
  | n + 1, i, a, b => if nIn s ≤ i then (a, b) else gSpN s k f t n (i + 1) (wI (a + gSpE s k f t i)) (wI (b + (if gSpE s k f t i = 1 then iC s i 4 else 0)))
theorem X3_span_e {K : KM} {Pt : MS → Prop} (f t n b best most k a i e : Int) (s : MS) (he : e = 0 ∨ e = 1) (h0 : 0 ≤ i) (h1 : i < 160) (h : wX encM bdM mX3_span 0 0 K Pt 59 [some (pR 0), some (pI f), some (pI t), some (pI n), some (pI (wI (b + (if e = 1 then iC s i 4 else 0)))), some (pI best), some (pI most), some (pI k), some (pI (wI (a + e))), some (pI (i + 1)), none] [] s) : wX encM bdM mX3_span 0 0 K Pt 127 [some (pR 0), some (pI f), some (pI t), some (pI n), some (pI b), some (pI best), some (pI most), some (pI k), some (pI a), some (pI i), none] [pI e] s := by
  refine wx_J [46, 59, 127, 166] 9 tX3_span_ok rfl (fun J hR hJ => ?_)
  refine ⟨he, fun _ => ⟨⟨by omega, by omega⟩, fun q => ?_, fun q => ?_⟩⟩
  · rw [if_neg (by omega)] at h
    exact fun _ => hJ _ _ _ _ h
  · rw [if_pos (by omega)] at h
    exact ⟨⟨by omega, by omega⟩, fun _ _ => hJ _ _ _ _ h⟩
theorem X3_span_i {K : KM} {Pt : MS → Prop} (f t n best most k : Int) (s : MS) (hf : xB f) (ht : xB t) (hk : xB k) (hn : nIn s ≤ 160) : ∀ (m : Nat) (i a b : Int), 0 ≤ i → i + m = 160 → (∀ j, wX encM bdM mX3_span 0 0 K Pt 166 [some (pR 0), some (pI f), some (pI t), some (pI n), some (pI (gSpN s k f t m i a b).2), some (pI best), some (pI most), some (pI k), some (pI (gSpN s k f t m i a b).1), some (pI j), none] [] s) → wX encM bdM mX3_span 0 0 K Pt 59 [some (pR 0), some (pI f), some (pI t), some (pI n), some (pI b), some (pI best), some (pI most), some (pI k), some (pI a), some (pI i), none] [] s := by
  have fin : ∀ (i a b : Int), 0 ≤ i → i ≤ 160 → nIn s ≤ i → (∀ j, wX encM bdM mX3_span 0 0 K Pt 166 [some (pR 0), some (pI f), some (pI t), some (pI n), some (pI b), some (pI best), some (pI most), some (pI k), some (pI a), some (pI j), none] [] s) → wX encM bdM mX3_span 0 0 K Pt 59 [some (pR 0), some (pI f), some (pI t), some (pI n), some (pI b), some (pI best), some (pI most), some (pI k), some (pI a), some (pI i), none] [] s := by
    intro i a b h0 h1 hi h
    refine wx_J [46, 59, 127, 166] 9 tX3_span_ok rfl (fun J hR hJ => ?_)
    exact ⟨⟨by omega, by omega⟩, fun hx => ⟨⟨⟨by omega, by omega⟩, hx⟩, fun _ => hJ _ _ _ _ (h i), fun q => absurd q (Int.not_lt.mpr hi)⟩⟩
  intro m
  induction m with
  | zero =>
    intro i a b h0 h1 h
    exact fin i a b h0 (by omega) (by omega) h
  | succ m ih =>
    intro i a b h0 h1 h
    by_cases c : nIn s ≤ i
    · refine fin i a b h0 (by omega) c ?_
      unfold gSpN at h
      rw [if_pos c] at h
      exact h
    · unfold gSpN at h
      rw [if_neg c] at h
      have g := ih (i + 1) _ _ (by omega) (by omega) h
      refine wx_J [46, 59, 127, 166] 9 tX3_span_ok rfl (fun J hR hJ => ?_)
      have z0 : gSpE s k f t i = 0 → J 127 [some (pR 0), some (pI f), some (pI t), some (pI n), some (pI b), some (pI best), some (pI most), some (pI k), some (pI a), some (pI i), none] [pI 0] s := fun e => by
        rw [e] at g
        exact hJ _ _ _ _ (X3_span_e f t n b best most k a i 0 s (Or.inl rfl) h0 (by omega) g)
      have z1 : gSpE s k f t i = 1 → J 127 [some (pR 0), some (pI f), some (pI t), some (pI n), some (pI b), some (pI best), some (pI most), some (pI k), some (pI a), some (pI i), none] [pI 1] s := fun e => by
        rw [e] at g
        exact hJ _ _ _ _ (X3_span_e f t n b best most k a i 1 s (Or.inr rfl) h0 (by omega) g)
      refine ⟨⟨by omega, by omega⟩, fun hx => ⟨⟨⟨by omega, by omega⟩, hx⟩, fun q => absurd q c, fun _ => ?_⟩⟩
      refine ⟨⟨by omega, by omega⟩, fun b0 => ⟨b0, fun c0 => z0 (if_neg (fun w => c0 w.1)), fun c0 => ?_⟩⟩
      refine ⟨⟨by omega, by omega⟩, fun b1 => ⟨⟨b1, ⟨by omega, by omega⟩⟩, fun c1 => z0 (if_neg (fun w => c1 w.2.1)), fun c1 => ?_⟩⟩
      refine ⟨⟨by omega, by omega⟩, fun b2 => ⟨⟨b2, hk⟩, fun c2 => z0 (if_neg (fun w => c2 w.2.2.1)), fun c2 => ?_⟩⟩
      refine ⟨⟨by omega, by omega⟩, fun b3 => ?_⟩
      refine ⟨b3, hf, ht, ⟨b3, hf, ht⟩, fun c3 => ?_, fun c3 => ?_⟩
      · exact ⟨⟨by omega, by omega⟩, fun q => absurd q (by omega), fun _ => z1 (if_pos ⟨c0, c1, c2, c3⟩)⟩
      · exact ⟨⟨by omega, by omega⟩, fun _ => z0 (if_neg (fun w => c3 w.2.2.2)), fun q => absurd rfl q⟩
theorem gSpN_B {s : MS} {k f t : Int} : ∀ (m : Nat) (i a b : Int), xB a → xB b → xB (gSpN s k f t m i a b).1 ∧ xB (gSpN s k f t m i a b).2 := by
  intro m
  induction m with
  | zero => exact fun i a b h1 h2 => ⟨h1, h2⟩
  | succ m ih =>
    intro i a b h1 h2
    unfold gSpN
    split
    · exact ⟨h1, h2⟩
    · exact ih _ _ _ (wI_B _) (wI_B _)
def gSpO (s : MS) (f t : Int) : Nat → Int → Int → Int → Int → Int → Int × MS
  | 0, _, n, b, best, most => (n, mEn (mEn (mEn (mS s 1 0) b) best) most)
  | m + 1, k, n, b, best, most => gSpO s f t m (k + 1) (wI (n + (gSpN s k f t 160 0 0 b).1)) (gSpN s k f t 160 0 0 b).2 (if (gSpN s k f t 160 0 0 b).1 ≤ most then best else k) (max most (gSpN s k f t 160 0 0 b).1)
theorem X3_span_g {K : KM} {Pt : MS → Prop} (f t n b best most k a j : Int) (s : MS) (ha : xB a) (hm : xB most) (h : wX encM bdM mX3_span 0 0 K Pt 46 [some (pR 0), some (pI f), some (pI t), some (pI (wI (n + a))), some (pI b), some (pI (if a ≤ most then best else k)), some (pI (max most a)), some (pI (k + 1)), none, none, none] [] s) : wX encM bdM mX3_span 0 0 K Pt 166 [some (pR 0), some (pI f), some (pI t), some (pI n), some (pI b), some (pI best), some (pI most), some (pI k), some (pI a), some (pI j), none] [] s := by
  refine wx_J [46, 59, 127, 166] 9 tX3_span_ok rfl (fun J hR hJ => ?_)
  refine fun _ => ⟨⟨ha, hm⟩, fun q => ?_, fun q => ?_⟩
  · rw [if_pos q] at h
    exact ⟨⟨hm, ha⟩, hJ _ _ _ _ h⟩
  · rw [if_neg (by omega)] at h
    exact ⟨⟨hm, ha⟩, hJ _ _ _ _ h⟩
theorem X3_span_l {K : KM} {Pt : MS → Prop} (f t : Int) (s : MS) (hf : xB f) (ht : xB t) (hn : nIn s ≤ 160) : ∀ (m : Nat) (k n b best most : Int), 0 ≤ k → k + m = 6 → xB b → xB best → xB most → K [pI (gSpO s f t m k n b best most).1] (gSpO s f t m k n b best most).2 → wX encM bdM mX3_span 0 0 K Pt 46 [some (pR 0), some (pI f), some (pI t), some (pI n), some (pI b), some (pI best), some (pI most), some (pI k), none, none, none] [] s := by
  intro m
  induction m with
  | zero =>
    intro k n b best most h0 h1 hb hbe hmo hK
    refine wx_J [46, 59, 127, 166] 9 tX3_span_ok rfl (fun J hR hJ => ?_)
    exact ⟨⟨⟨by omega, by omega⟩, ⟨by omega, by omega⟩⟩, fun _ => ⟨⟨by omega, by omega⟩, hb, ⟨hb, by show (0 : Int) ≤ 0; omega, by show (0 : Int) < 16; omega⟩, hbe, ⟨hbe, by show (0 : Int) ≤ 0 + 1; omega, by show (0 : Int) + 1 < 16; omega⟩, hmo, ⟨hmo, by show (0 : Int) ≤ 0 + 1 + 1; omega, by show (0 : Int) + 1 + 1 < 16; omega⟩, hR _ _ hK⟩, fun q => absurd q (by omega)⟩
  | succ m ih =>
    intro k n b best most h0 h1 hb hbe hmo hK
    have hB := gSpN_B (s := s) (k := k) (f := f) (t := t) 160 0 0 b ⟨by omega, by omega⟩ hb
    have hx : xB k := ⟨by omega, by omega⟩
    have g := ih (k + 1) _ _ _ _ (by omega) (by omega) hB.2 (by split <;> assumption) (by rw [Int.max_def]; split <;> first | exact hB.1 | exact hmo) hK
    refine wx_J [46, 59, 127, 166] 9 tX3_span_ok rfl (fun J hR hJ => ?_)
    refine ⟨⟨⟨by omega, by omega⟩, ⟨by omega, by omega⟩⟩, fun q => absurd q (by omega), fun _ => hJ _ _ _ _ (X3_span_i f t n best most k s hf ht hx hn 160 0 0 b (by omega) (by omega) (fun j => X3_span_g f t n _ best most k _ j s hB.1 hmo g))⟩
def sX3_span : Int → Int → MS → KM → Prop := fun f t s K => ((xB f ∧ xB t) ∧ nIn s ≤ 160) ∧ (¬ (inB f 0 9999 ∧ inB t f 9999) → K [pI (-1)] (mS s 0 0)) ∧ (inB f 0 9999 ∧ inB t f 9999 → K [pI (gSpO (mS s 0 0) f t 6 0 0 0 (-1) 0).1] (gSpO (mS s 0 0) f t 6 0 0 0 (-1) 0).2)
theorem mX3_span_ok : mOk encM bdM mX3_span (atR 0 (a2 sX3_span)) := by
  refine mOVa2 kX3_span (fun _ _ => rfl) (fun f t s K h hb => wx_J [46, 59, 127, 166] 9 tX3_span_ok rfl (fun J hR hJ => ?_))
  obtain ⟨⟨⟨h1, h2⟩, h3⟩, p1, p2⟩ := h
  refine ⟨⟨by omega, by omega⟩, h1, ⟨⟨h1, ⟨by omega, by omega⟩, ⟨by omega, by omega⟩⟩, fun e => ?_, fun e => ?_⟩⟩
  · refine ⟨⟨by omega, by omega⟩, fun q => absurd q (by omega), fun _ => ⟨h2, h1, ⟨⟨h2, h1, ⟨by omega, by omega⟩⟩, fun e2 => ?_, fun e2 => ?_⟩⟩⟩
    · exact ⟨⟨by omega, by omega⟩, fun _ => hJ _ _ _ _ (X3_span_l f t (mS s 0 0) h1 h2 h3 6 0 0 0 (-1) 0 (by omega) (by omega) ⟨by omega, by omega⟩ ⟨by omega, by omega⟩ ⟨by omega, by omega⟩ (p2 ⟨e, e2⟩)), fun q => absurd q (by omega)⟩
    · exact ⟨⟨by omega, by omega⟩, fun q => absurd rfl q, fun _ => hR _ _ (p1 (fun w => e2 w.2))⟩
  · exact ⟨⟨by omega, by omega⟩, fun _ => hR _ _ (p1 (fun w => e w.1)), fun q => absurd rfl q⟩
