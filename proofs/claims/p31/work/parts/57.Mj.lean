/-! ===== the model: an event joins, comes ===== -/
-- X3_notes: heads []
def tX3_notes : Nat → Blk MS := fun pc => bif Nat.beq pc 0 then (oIld 1 <| oI 2804 <| oMul <| oI 1844 <| oAdd <| oI 6 <| oAld 0 <| oIld 1 <| oI 6 <| oC3 (cM_X3_of) <| oMul <| oAdd <| oIst 8 <| oAld 0 <| oGet (fgM) 3 7 <| oIld 8 <| oI 0 <| oAdd <| oIld 2 <| oIas (agM) (apM) <| oAld 0 <| oGet (fgM) 3 7 <| oIld 8 <| oI 1 <| oAdd <| oIld 3 <| oIas (agM) (apM) <| oAld 0 <| oGet (fgM) 3 7 <| oIld 8 <| oI 2 <| oAdd <| oIld 4 <| oIas (agM) (apM) <| oAld 0 <| oGet (fgM) 3 7 <| oIld 8 <| oI 3 <| oAdd <| oIld 5 <| oIas (agM) (apM) <| oAld 0 <| oGet (fgM) 3 7 <| oIld 8 <| oI 4 <| oAdd <| oIld 6 <| oIas (agM) (apM) <| oAld 0 <| oGet (fgM) 3 7 <| oIld 8 <| oI 5 <| oAdd <| oIld 7 <| oIas (agM) (apM) <| oAld 0 <| oIld 1 <| oI 6 <| oI 1 <| oC4 (cM_X3_adds) <| oVret) else oNo
theorem tX3_notes_ok : ∀ pc, bOk (encM) (bdM) mX3_notes 0 0 pc (tX3_notes pc) := fun pc => (tLeaf (okIldn iX3_notes_0 rfl <| okSi iX3_notes_1 (by decide) <| okMul iX3_notes_4 <| okSi iX3_notes_5 (by decide) <| okAdd iX3_notes_8 <| okBi iX3_notes_9 (by decide) <| okAldn iX3_notes_11 rfl <| okIldn iX3_notes_12 rfl <| okBi iX3_notes_13 (by decide) <| okC3 (qM_X3_of iX3_notes_15) <| okMul iX3_notes_18 <| okAdd iX3_notes_19 <| okIst iX3_notes_20 (by decide) <| okAldn iX3_notes_22 rfl <| okGet (vFgM) iX3_notes_23 <| okIld iX3_notes_26 <| okIc iX3_notes_28 <| okAdd iX3_notes_29 <| okIldn iX3_notes_30 rfl <| okIas (vAgM) iX3_notes_31 <| okAldn iX3_notes_32 rfl <| okGet (vFgM) iX3_notes_33 <| okIld iX3_notes_36 <| okIc iX3_notes_38 <| okAdd iX3_notes_39 <| okIldn iX3_notes_40 rfl <| okIas (vAgM) iX3_notes_41 <| okAldn iX3_notes_42 rfl <| okGet (vFgM) iX3_notes_43 <| okIld iX3_notes_46 <| okIc iX3_notes_48 <| okAdd iX3_notes_49 <| okIld iX3_notes_50 <| okIas (vAgM) iX3_notes_52 <| okAldn iX3_notes_53 rfl <| okGet (vFgM) iX3_notes_54 <| okIld iX3_notes_57 <| okIc iX3_notes_59 <| okAdd iX3_notes_60 <| okIld iX3_notes_61 <| okIas (vAgM) iX3_notes_63 <| okAldn iX3_notes_64 rfl <| okGet (vFgM) iX3_notes_65 <| okIld iX3_notes_68 <| okIc iX3_notes_70 <| okAdd iX3_notes_71 <| okIld iX3_notes_72 <| okIas (vAgM) iX3_notes_74 <| okAldn iX3_notes_75 rfl <| okGet (vFgM) iX3_notes_76 <| okIld iX3_notes_79 <| okIc iX3_notes_81 <| okAdd iX3_notes_82 <| okIld iX3_notes_83 <| okIas (vAgM) iX3_notes_85 <| okAldn iX3_notes_86 rfl <| okIldn iX3_notes_87 rfl <| okBi iX3_notes_88 (by decide) <| okIc iX3_notes_90 <| okC4 (qM_X3_adds iX3_notes_91) <| okVret iX3_notes_94 rfl)) pc
-- X3_joins: heads [60, 116]
def tX3_joins : Nat → Blk MS := fun pc => bif Nat.blt pc 243 then (bif Nat.blt pc 100 then (bif Nat.blt pc 60 then (bif Nat.beq pc 0 then (oAld 0 <| oI 0 <| oPut (fpM) 3 12 <| oAld 0 <| oGet (fgM) 3 9 <| oI 0 <| oIld 2 <| oIas (agM) (apM) <| oAld 0 <| oGet (fgM) 3 9 <| oI 1 <| oIld 3 <| oIas (agM) (apM) <| oAld 0 <| oGet (fgM) 3 9 <| oI 2 <| oIld 3 <| oIas (agM) (apM) <| oAld 0 <| oGet (fgM) 3 9 <| oI 3 <| oI 1 <| oIas (agM) (apM) <| oAld 0 <| oGet (fgM) 3 9 <| oI 4 <| oIld 4 <| oIas (agM) (apM) <| oAld 0 <| oGet (fgM) 3 9 <| oI 5 <| oIld 4 <| oIas (agM) (apM) <| oAld 0 <| oGet (fgM) 3 9 <| oI 6 <| oI 0 <| oIas (agM) (apM) <| oI 0 <| oIst 5 <| oM [true, true, true, true, false, true, false] (oTo 60)) else oNo) else (bif Nat.beq pc 60 then (oIld 5 <| oAld 0 <| oIld 1 <| oI 5 <| oC3 (cM_X3_of) <| oCGe 106 <| oAld 0 <| oIld 1 <| oIld 5 <| oIld 2 <| oIld 3 <| oC5 (cM_X3_melts) <| oZEq 100 <| oAld 0 <| oIld 1 <| oIld 5 <| oC3 (cM_X3_takesBack) <| oAld 0 <| oDup <| oGet (fgM) 3 12 <| oI 1 <| oAddW <| oPut (fpM) 3 12 <| oTo 100) else oNo)) else (bif Nat.blt pc 106 then (bif Nat.beq pc 100 then (oInc 5 1 <| oM [true, true, true, true, false, true, false] (oTo 60)) else oNo) else (bif Nat.blt pc 116 then (bif Nat.beq pc 106 then (oAld 0 <| oIld 1 <| oI 5 <| oC3 (cM_X3_of) <| oI 1 <| oSubW <| oIst 5 <| oM [true, true, true, true, false, true, false] (oTo 116)) else oNo) else (bif Nat.beq pc 116 then (oIld 5 <| oZLt 249 <| oAld 0 <| oIld 1 <| oIld 5 <| oIld 2 <| oIld 3 <| oC5 (cM_X3_melts) <| oZEq 243 <| oAld 0 <| oGet (fgM) 3 9 <| oI 1 <| oAld 0 <| oGet (fgM) 3 9 <| oI 1 <| oIa (agM) <| oAld 0 <| oIld 1 <| oIld 5 <| oI 1 <| oC4 (cM_X3_ofSession) <| oMin <| oIas (agM) (apM) <| oAld 0 <| oGet (fgM) 3 9 <| oI 2 <| oAld 0 <| oGet (fgM) 3 9 <| oI 2 <| oIa (agM) <| oAld 0 <| oIld 1 <| oIld 5 <| oI 2 <| oC4 (cM_X3_ofSession) <| oMax <| oIas (agM) (apM) <| oAld 0 <| oGet (fgM) 3 9 <| oI 3 <| oDup2 <| oIa (agM) <| oAld 0 <| oIld 1 <| oIld 5 <| oI 3 <| oC4 (cM_X3_ofSession) <| oAddW <| oIas (agM) (apM) <| oAld 0 <| oGet (fgM) 3 9 <| oI 4 <| oDup2 <| oIa (agM) <| oAld 0 <| oIld 1 <| oIld 5 <| oI 4 <| oC4 (cM_X3_ofSession) <| oAddW <| oIas (agM) (apM) <| oAld 0 <| oGet (fgM) 3 9 <| oI 5 <| oAld 0 <| oGet (fgM) 3 9 <| oI 5 <| oIa (agM) <| oAld 0 <| oIld 1 <| oIld 5 <| oI 5 <| oC4 (cM_X3_ofSession) <| oMax <| oIas (agM) (apM) <| oAld 0 <| oIld 1 <| oIld 5 <| oC3 (cM_X3_goesOut) <| oTo 243) else oNo)))) else (bif Nat.blt pc 266 then (bif Nat.blt pc 249 then (bif Nat.beq pc 243 then (oInc 5 (-1) <| oM [true, true, true, true, false, true, false] (oTo 116)) else oNo) else (bif Nat.blt pc 265 then (bif Nat.beq pc 249 then (oAld 0 <| oIld 1 <| oI 11 <| oAld 0 <| oGet (fgM) 3 12 <| oI 1 <| oCLe 265 <| oI 1 <| oTo 266) else oNo) else (bif Nat.beq pc 265 then (oI 0 <| oTo 266) else oNo))) else (bif Nat.blt pc 314 then (bif Nat.beq pc 266 then (oC1 (cM_X3_flag) <| oC4 (cM_X3_adds) <| oAld 0 <| oIld 1 <| oC2 (cM_X3_comesIn) <| oIst 5 <| oAld 0 <| oIld 1 <| oI 3 <| oC3 (cM_X3_of) <| oIst 6 <| oAld 0 <| oIld 1 <| oIld 5 <| oAld 0 <| oIld 1 <| oI 4 <| oC3 (cM_X3_of) <| oC4 (cM_X3_isRipeBy) <| oZEq 314 <| oAld 0 <| oIld 1 <| oI 2 <| oIld 5 <| oC4 (cM_X3_sends) <| oTo 339) else oNo) else (bif Nat.blt pc 339 then (bif Nat.beq pc 314 then (oIld 6 <| oZLe 339 <| oAld 0 <| oGet (fgM) 3 9 <| oI 3 <| oIa (agM) <| oIld 6 <| oRemT <| oZNe 339 <| oAld 0 <| oIld 1 <| oI 0 <| oIld 5 <| oC4 (cM_X3_sends) <| oTo 339) else oNo) else (bif Nat.beq pc 339 then (oVret) else oNo))))
theorem tX3_joins_ok : ∀ pc, bOk (encM) (bdM) mX3_joins 0 0 pc (tX3_joins pc) := fun pc => (tNode (tNode (tNode (tLeaf (okAldn iX3_joins_0 rfl <| okIc iX3_joins_1 <| okPut (vFpM) iX3_joins_2 <| okAldn iX3_joins_5 rfl <| okGet (vFgM) iX3_joins_6 <| okIc iX3_joins_9 <| okIldn iX3_joins_10 rfl <| okIas (vAgM) iX3_joins_11 <| okAldn iX3_joins_12 rfl <| okGet (vFgM) iX3_joins_13 <| okIc iX3_joins_16 <| okIldn iX3_joins_17 rfl <| okIas (vAgM) iX3_joins_18 <| okAldn iX3_joins_19 rfl <| okGet (vFgM) iX3_joins_20 <| okIc iX3_joins_23 <| okIldn iX3_joins_24 rfl <| okIas (vAgM) iX3_joins_25 <| okAldn iX3_joins_26 rfl <| okGet (vFgM) iX3_joins_27 <| okIc iX3_joins_30 <| okIc iX3_joins_31 <| okIas (vAgM) iX3_joins_32 <| okAldn iX3_joins_33 rfl <| okGet (vFgM) iX3_joins_34 <| okIc iX3_joins_37 <| okIld iX3_joins_38 <| okIas (vAgM) iX3_joins_40 <| okAldn iX3_joins_41 rfl <| okGet (vFgM) iX3_joins_42 <| okIc iX3_joins_45 <| okIld iX3_joins_46 <| okIas (vAgM) iX3_joins_48 <| okAldn iX3_joins_49 rfl <| okGet (vFgM) iX3_joins_50 <| okBi iX3_joins_53 (by decide) <| okIc iX3_joins_55 <| okIas (vAgM) iX3_joins_56 <| okIc iX3_joins_57 <| okIst iX3_joins_58 (by decide) <| okM (okTo (tl rfl)))) (tLeaf (okIld iX3_joins_60 <| okAldn iX3_joins_62 rfl <| okIldn iX3_joins_63 rfl <| okIc iX3_joins_64 <| okC3 (qM_X3_of iX3_joins_65) <| okCGe (tl rfl) iX3_joins_68 <| okAldn iX3_joins_71 rfl <| okIldn iX3_joins_72 rfl <| okIld iX3_joins_73 <| okIldn iX3_joins_75 rfl <| okIldn iX3_joins_76 rfl <| okC5 (qM_X3_melts iX3_joins_77) <| okZEq (tl rfl) iX3_joins_80 <| okAldn iX3_joins_83 rfl <| okIldn iX3_joins_84 rfl <| okIld iX3_joins_85 <| okC3 (qM_X3_takesBack iX3_joins_87) <| okAldn iX3_joins_90 rfl <| okDup iX3_joins_91 <| okGet (vFgM) iX3_joins_92 <| okIc iX3_joins_95 <| okAddW iX3_joins_96 <| okPut (vFpM) iX3_joins_97 <| okTo (tl rfl)))) (tNode (tLeaf (okInc iX3_joins_100 (by decide) <| okGotoM (tl rfl) iX3_joins_103)) (tNode (tLeaf (okAldn iX3_joins_106 rfl <| okIldn iX3_joins_107 rfl <| okIc iX3_joins_108 <| okC3 (qM_X3_of iX3_joins_109) <| okIc iX3_joins_112 <| okSubW iX3_joins_113 <| okIst iX3_joins_114 (by decide) <| okM (okTo (tl rfl)))) (tLeaf (okIld iX3_joins_116 <| okZLt (tl rfl) iX3_joins_118 <| okAldn iX3_joins_121 rfl <| okIldn iX3_joins_122 rfl <| okIld iX3_joins_123 <| okIldn iX3_joins_125 rfl <| okIldn iX3_joins_126 rfl <| okC5 (qM_X3_melts iX3_joins_127) <| okZEq (tl rfl) iX3_joins_130 <| okAldn iX3_joins_133 rfl <| okGet (vFgM) iX3_joins_134 <| okIc iX3_joins_137 <| okAldn iX3_joins_138 rfl <| okGet (vFgM) iX3_joins_139 <| okIc iX3_joins_142 <| okIa (vAgM) iX3_joins_143 <| okAldn iX3_joins_144 rfl <| okIldn iX3_joins_145 rfl <| okIld iX3_joins_146 <| okIc iX3_joins_148 <| okC4 (qM_X3_ofSession iX3_joins_149) <| okMin iX3_joins_152 <| okIas (vAgM) iX3_joins_155 <| okAldn iX3_joins_156 rfl <| okGet (vFgM) iX3_joins_157 <| okIc iX3_joins_160 <| okAldn iX3_joins_161 rfl <| okGet (vFgM) iX3_joins_162 <| okIc iX3_joins_165 <| okIa (vAgM) iX3_joins_166 <| okAldn iX3_joins_167 rfl <| okIldn iX3_joins_168 rfl <| okIld iX3_joins_169 <| okIc iX3_joins_171 <| okC4 (qM_X3_ofSession iX3_joins_172) <| okMax iX3_joins_175 <| okIas (vAgM) iX3_joins_178 <| okAldn iX3_joins_179 rfl <| okGet (vFgM) iX3_joins_180 <| okIc iX3_joins_183 <| okDup2 iX3_joins_184 <| okIa (vAgM) iX3_joins_185 <| okAldn iX3_joins_186 rfl <| okIldn iX3_joins_187 rfl <| okIld iX3_joins_188 <| okIc iX3_joins_190 <| okC4 (qM_X3_ofSession iX3_joins_191) <| okAddW iX3_joins_194 <| okIas (vAgM) iX3_joins_195 <| okAldn iX3_joins_196 rfl <| okGet (vFgM) iX3_joins_197 <| okIc iX3_joins_200 <| okDup2 iX3_joins_201 <| okIa (vAgM) iX3_joins_202 <| okAldn iX3_joins_203 rfl <| okIldn iX3_joins_204 rfl <| okIld iX3_joins_205 <| okIc iX3_joins_207 <| okC4 (qM_X3_ofSession iX3_joins_208) <| okAddW iX3_joins_211 <| okIas (vAgM) iX3_joins_212 <| okAldn iX3_joins_213 rfl <| okGet (vFgM) iX3_joins_214 <| okIc iX3_joins_217 <| okAldn iX3_joins_218 rfl <| okGet (vFgM) iX3_joins_219 <| okIc iX3_joins_222 <| okIa (vAgM) iX3_joins_223 <| okAldn iX3_joins_224 rfl <| okIldn iX3_joins_225 rfl <| okIld iX3_joins_226 <| okIc iX3_joins_228 <| okC4 (qM_X3_ofSession iX3_joins_229) <| okMax iX3_joins_232 <| okIas (vAgM) iX3_joins_235 <| okAldn iX3_joins_236 rfl <| okIldn iX3_joins_237 rfl <| okIld iX3_joins_238 <| okC3 (qM_X3_goesOut iX3_joins_240) <| okTo (tl rfl)))))) (tNode (tNode (tLeaf (okInc iX3_joins_243 (by decide) <| okGotoM (tl rfl) iX3_joins_246)) (tNode (tLeaf (okAldn iX3_joins_249 rfl <| okIldn iX3_joins_250 rfl <| okBi iX3_joins_251 (by decide) <| okAldn iX3_joins_253 rfl <| okGet (vFgM) iX3_joins_254 <| okIc iX3_joins_257 <| okCLe (tl rfl) iX3_joins_258 <| okIc iX3_joins_261 <| okGoto (tl rfl) iX3_joins_262)) (tLeaf (okIc iX3_joins_265 <| okTo (tl rfl))))) (tNode (tLeaf (okC1 (qM_X3_flag iX3_joins_266) <| okC4 (qM_X3_adds iX3_joins_269) <| okAldn iX3_joins_272 rfl <| okIldn iX3_joins_273 rfl <| okC2 (qM_X3_comesIn iX3_joins_274) <| okIst iX3_joins_277 (by decide) <| okAldn iX3_joins_279 rfl <| okIldn iX3_joins_280 rfl <| okIc iX3_joins_281 <| okC3 (qM_X3_of iX3_joins_282) <| okIst iX3_joins_285 (by decide) <| okAldn iX3_joins_287 rfl <| okIldn iX3_joins_288 rfl <| okIld iX3_joins_289 <| okAldn iX3_joins_291 rfl <| okIldn iX3_joins_292 rfl <| okIc iX3_joins_293 <| okC3 (qM_X3_of iX3_joins_294) <| okC4 (qM_X3_isRipeBy iX3_joins_297) <| okZEq (tl rfl) iX3_joins_300 <| okAldn iX3_joins_303 rfl <| okIldn iX3_joins_304 rfl <| okIc iX3_joins_305 <| okIld iX3_joins_306 <| okC4 (qM_X3_sends iX3_joins_308) <| okGoto (tl rfl) iX3_joins_311)) (tNode (tLeaf (okIld iX3_joins_314 <| okZLe (tl rfl) iX3_joins_316 <| okAldn iX3_joins_319 rfl <| okGet (vFgM) iX3_joins_320 <| okIc iX3_joins_323 <| okIa (vAgM) iX3_joins_324 <| okIld iX3_joins_325 <| okRemT iX3_joins_327 <| okZNe (tl rfl) iX3_joins_328 <| okAldn iX3_joins_331 rfl <| okIldn iX3_joins_332 rfl <| okIc iX3_joins_333 <| okIld iX3_joins_334 <| okC4 (qM_X3_sends iX3_joins_336) <| okTo (tl rfl))) (tLeaf (okVret iX3_joins_339 rfl)))))) pc
def mNote (s : MS) (d a r t k v b : Int) : MS :=
  let p := d * 2804 + 1844 + 6 * mg s (d * 2804 + 6)
  mInc (mP (mP (mP (mP (mP (mP s (p + 0) a) (p + 1) r) (p + 2) t) (p + 3) k) (p + 4) v) (p + 5) b) (d * 2804 + 6) 1
def sX3_notes : Int → Int → Int → Int → Int → Int → Int → MS → KM → Prop := fun d a r t k v b s K => (dOk d ∧ (xB a ∧ xB r ∧ xB t ∧ xB k ∧ xB v ∧ xB b) ∧ 0 ≤ mg s (d * 2804 + 6) ∧ mg s (d * 2804 + 6) ≤ 159) ∧ K [] (mNote s d a r t k v b)
theorem mX3_notes_ok : mOk encM bdM mX3_notes (atR 0 (a7 sX3_notes)) := by
  refine mOVa7 kX3_notes (fun _ _ _ _ _ _ _ => rfl) (fun d a r t k v b s K h hb => wx_J [] 9 tX3_notes_ok rfl (fun J hR hJ => ?_))
  obtain ⟨h1, hK⟩ := h
  repeat' (first | (refine And.intro ?_ ?_) | (intro hq; first | (exact absurd hq (by omega)) | skip))
  all_goals first | omega | exact hR _ _ hK
def cM_X3_notes : Sp MS := atR 0 (a7 sX3_notes)
theorem qM_X3_notes {M : XI} {rc rs pc pc2 : Nat} (d : xl_Ca M pc mX3_notes pc2) : cOk encM bdM M rc rs pc pc2 8 cM_X3_notes := cSame mX3_notes_ok vX3_notes d mcl rfl lenM recM
def mF (s : MS) (k : Nat) (v : Int) : MS := mA s 4 (xup (s.2 4) k v)
def mFresh (s : MS) (k t v : Int) : MS := mF (mF (mF (mF (mF (mF (mF (mS s 12 0) 0 k) 1 t) 2 t) 3 1) 4 v) 5 v) 6 0
abbrev sE (s : MS) (d : Int) : Int := mg s (d * 2804 + 5)
def jnP1 (d k t : Int) (K : MS → Prop) : Nat → Int → MS → Prop
  | 0, i, s => mg s (d * 2804 + 5) ≤ i ∧ K s
  | n + 1, i, s => (mg s (d * 2804 + 5) ≤ i → K s) ∧ (i < mg s (d * 2804 + 5) → i ≤ 160 ∧ (mMelts s d i k t → mTakeP s d i ∧ jnP1 d k t K n (i + 1) (mS (mTake s d i) 12 (wI ((mTake s d i).1 12 + 1)))) ∧ (¬ mMelts s d i k t → jnP1 d k t K n (i + 1) s))
def mSwal (s : MS) (d i : Int) : MS :=
  let s1 := mF s 1 (min (s.2 4 1) (mg s ((d * 2804 + 364 + 7 * i) + 1)))
  let s2 := mF s1 2 (max (s1.2 4 2) (mg s1 ((d * 2804 + 364 + 7 * i) + 2)))
  let s3 := mF s2 3 (wI (s2.2 4 3 + mg s2 ((d * 2804 + 364 + 7 * i) + 3)))
  let s4 := mF s3 4 (wI (s3.2 4 4 + mg s3 ((d * 2804 + 364 + 7 * i) + 4)))
  mF s4 5 (max (s4.2 4 5) (mg s4 ((d * 2804 + 364 + 7 * i) + 5)))
def jnP2 (d k t : Int) (K : MS → Prop) : Nat → Int → MS → Prop
  | 0, i, s => i < 0 ∧ K s
  | n + 1, i, s => (i < 0 → K s) ∧ (0 ≤ i → i ≤ 160 ∧ (mMelts s d i k t → (-1 ≤ mg (mOut1 (mSwal s d i) d) (d * 2804 + 5) ∧ mg (mOut1 (mSwal s d i) d) (d * 2804 + 5) ≤ 160) ∧ jnP2 d k t K n (i + -1) (mOut (mSwal s d i) d i)) ∧ (¬ mMelts s d i k t → jnP2 d k t K n (i + -1) s))
def jnF (s : MS) (d i : Int) (K : MS → Prop) : Prop :=
  (mRipe s d i (mg s (d * 2804 + 4)) → mI (d * 2804 + (60 + 4 * mg (mSend4 s d 2 i) ((d * 2804 + 364 + 7 * i) + 0) + 2)) ∧ K (mSend s d 2 i)) ∧ (¬ mRipe s d i (mg s (d * 2804 + 4)) → ((0 < mg s (d * 2804 + 3) ∧ Int.tmod (s.2 4 3) (mg s (d * 2804 + 3)) = 0) → mI (d * 2804 + (60 + 4 * mg (mSend4 s d 0 i) ((d * 2804 + 364 + 7 * i) + 0) + 0)) ∧ K (mSend s d 0 i)) ∧ (¬ (0 < mg s (d * 2804 + 3) ∧ Int.tmod (s.2 4 3) (mg s (d * 2804 + 3)) = 0) → K s))
def jnE (s : MS) (d : Int) (K : MS → Prop) : Prop :=
  let s1 := mInc s (d * 2804 + 11) (if 1 < s.1 12 then 1 else 0)
  (0 ≤ mg s1 (d * 2804 + 5) ∧ mg s1 (d * 2804 + 5) ≤ 160) ∧ jnF (mIn s1 d).2 d ((mIn s1 d).1 : Int) K
def mJoinP (s : MS) (d k t v : Int) (n : Nat) (K : MS → Prop) : Prop := jnP1 d k t (fun s1 => jnP2 d k t (fun s2 => jnE s2 d K) n (wI (mg s1 (d * 2804 + 5) - 1)) s1) n 0 (mFresh s k t v)
theorem X3_joins_e {K : KM} {Pt : MS → Prop} (d k t : Int) (hd : dOk d) (s : MS) (i : Int) (hi : xB i ∧ i < 0) (h : jnE s d (K [])) : wX encM bdM mX3_joins 0 0 K Pt 116 [some (pR 0), some (pI d), some (pI k), some (pI t), none, some (pI i), none] [] s := by
  refine wx_Jb [60, 116] 9 tX3_joins_ok rfl (fun hb J hR hJ => ?_)
  obtain ⟨hs, hf⟩ := h
  obtain ⟨f1, f2⟩ := hf
  have hm12 := hb.1 12
  refine ⟨hi.1, fun _ => ?_, fun q => absurd q (by omega)⟩
  intro _
  by_cases c : 1 < s.1 12
  · rw [if_pos c] at hs f1 f2
    refine ⟨⟨hm12, ⟨by omega, by omega⟩⟩, fun q => absurd q (by omega), fun q => ?_⟩
    refine ⟨Or.inr rfl, ⟨by omega, by omega⟩, ⟨⟨hd, hs⟩, fun i0 i1 => ⟨⟨by omega, by omega⟩, fun he => ⟨⟨by omega, by omega⟩, fun hp => ⟨⟨hd, ⟨i0, i1⟩, hp⟩, fun r => ?_, fun r => ?_⟩⟩⟩⟩⟩
    · obtain ⟨g1, g2⟩ := f1 r
      exact ⟨⟨by omega, by omega⟩, fun q => absurd q (by omega), fun _ => ⟨⟨hd, ⟨by omega, by omega⟩, ⟨i0, i1⟩, g1⟩, hR _ _ g2⟩⟩
    · obtain ⟨g1, g2⟩ := f2 r
      refine ⟨⟨by omega, by omega⟩, fun _ => ⟨he, fun c3 => ?_, fun c3 => ?_⟩, fun q => absurd rfl q⟩
      · exact hR _ _ (g2 (fun z => absurd z.1 (Int.not_lt.mpr c3)))
      · refine ⟨⟨by omega, by omega⟩, fun hf3 => ⟨⟨by omega, hf3, he⟩, ⟨tmod_B hf3 c3 he.2, fun c4 => ?_, fun c4 => ?_⟩⟩⟩
        · exact hR _ _ (g2 (fun z => c4 z.2))
        · obtain ⟨k1, k2⟩ := g1 ⟨c3, c4⟩
          exact ⟨⟨hd, ⟨by omega, by omega⟩, ⟨i0, i1⟩, k1⟩, hR _ _ k2⟩
  · rw [if_neg c] at hs f1 f2
    refine ⟨⟨hm12, ⟨by omega, by omega⟩⟩, fun q => ?_, fun q => absurd q (by omega)⟩
    refine ⟨Or.inl rfl, ⟨by omega, by omega⟩, ⟨⟨hd, hs⟩, fun i0 i1 => ⟨⟨by omega, by omega⟩, fun he => ⟨⟨by omega, by omega⟩, fun hp => ⟨⟨hd, ⟨i0, i1⟩, hp⟩, fun r => ?_, fun r => ?_⟩⟩⟩⟩⟩
    · obtain ⟨g1, g2⟩ := f1 r
      exact ⟨⟨by omega, by omega⟩, fun q => absurd q (by omega), fun _ => ⟨⟨hd, ⟨by omega, by omega⟩, ⟨i0, i1⟩, g1⟩, hR _ _ g2⟩⟩
    · obtain ⟨g1, g2⟩ := f2 r
      refine ⟨⟨by omega, by omega⟩, fun _ => ⟨he, fun c3 => ?_, fun c3 => ?_⟩, fun q => absurd rfl q⟩
      · exact hR _ _ (g2 (fun z => absurd z.1 (Int.not_lt.mpr c3)))
      · refine ⟨⟨by omega, by omega⟩, fun hf3 => ⟨⟨by omega, hf3, he⟩, ⟨tmod_B hf3 c3 he.2, fun c4 => ?_, fun c4 => ?_⟩⟩⟩
        · exact hR _ _ (g2 (fun z => c4 z.2))
        · obtain ⟨k1, k2⟩ := g1 ⟨c3, c4⟩
          exact ⟨⟨hd, ⟨by omega, by omega⟩, ⟨i0, i1⟩, k1⟩, hR _ _ k2⟩
theorem X3_joins_l2 {K : KM} {Pt : MS → Prop} (d k t : Int) (hd : dOk d) (hk : xB k) (ht : xB t) : ∀ (n : Nat) (i : Int) (s : MS), xB i → jnP2 d k t (fun s2 => jnE s2 d (K [])) n i s → wX encM bdM mX3_joins 0 0 K Pt 116 [some (pR 0), some (pI d), some (pI k), some (pI t), none, some (pI i), none] [] s := by
  intro n
  induction n with
  | zero =>
    intro i s hi h
    exact X3_joins_e d k t hd s i ⟨hi, h.1⟩ h.2
  | succ n ih =>
    intro i s hi h
    obtain ⟨ha, hc⟩ := h
    by_cases c : i < 0
    · exact X3_joins_e d k t hd s i ⟨hi, c⟩ (ha c)
    · obtain ⟨h1, h2, h3⟩ := hc (by omega)
      refine wx_Jb [60, 116] 9 tX3_joins_ok rfl (fun hb J hR hJ => ?_)
      refine ⟨hi, fun q => absurd q c, fun _ => ⟨⟨hd, ⟨by omega, h1⟩, hk, ht⟩, fun r => ?_, fun r => ?_⟩⟩
      · obtain ⟨g1, g2⟩ := h2 r
        have g := ih _ _ ⟨by omega, by omega⟩ g2
        refine ⟨⟨by omega, by omega⟩, fun q => absurd q (by omega), fun _ => ⟨⟨by omega, by omega⟩, fun a1 => ⟨⟨by omega, by omega⟩, fun b1 => ⟨⟨a1, b1⟩, ⟨by omega, by omega, min_B a1 b1⟩, ?_⟩⟩⟩⟩
        refine ⟨⟨by omega, by omega⟩, fun a2 => ⟨⟨by omega, by omega⟩, fun b2 => ⟨⟨a2, b2⟩, ⟨by omega, by omega, max_B a2 b2⟩, ?_⟩⟩⟩
        refine ⟨⟨by omega, by omega⟩, fun a3 => ⟨⟨by omega, by omega⟩, fun b3 w3 => ⟨⟨by omega, by omega, w3⟩, ?_⟩⟩⟩
        refine ⟨⟨by omega, by omega⟩, fun a4 => ⟨⟨by omega, by omega⟩, fun b4 w4 => ⟨⟨by omega, by omega, w4⟩, ?_⟩⟩⟩
        refine ⟨⟨by omega, by omega⟩, fun a5 => ⟨⟨by omega, by omega⟩, fun b5 => ⟨⟨a5, b5⟩, ⟨by omega, by omega, max_B a5 b5⟩, ?_⟩⟩⟩
        exact ⟨⟨hd, ⟨by omega, h1⟩, g1⟩, hJ _ _ _ _ g⟩
      · have g := ih _ _ ⟨by omega, by omega⟩ (h3 r)
        repeat' (first | (refine And.intro ?_ ?_) | (intro hq; first | (exact absurd hq (by omega)) | skip))
        all_goals first | omega | exact hJ _ _ _ _ g
theorem X3_joins_l1 {K : KM} {Pt : MS → Prop} (d k t : Int) (hd : dOk d) (hk : xB k) (ht : xB t) (n2 : Nat) : ∀ (n : Nat) (i : Int) (s : MS), 0 ≤ i → i ≤ 161 → jnP1 d k t (fun s1 => jnP2 d k t (fun s2 => jnE s2 d (K [])) n2 (wI (mg s1 (d * 2804 + 5) - 1)) s1) n i s → wX encM bdM mX3_joins 0 0 K Pt 60 [some (pR 0), some (pI d), some (pI k), some (pI t), none, some (pI i), none] [] s := by
  have fin : ∀ (i : Int) (s : MS), 0 ≤ i → i ≤ 161 → mg s (d * 2804 + 5) ≤ i → jnP2 d k t (fun s2 => jnE s2 d (K [])) n2 (wI (mg s (d * 2804 + 5) - 1)) s → wX encM bdM mX3_joins 0 0 K Pt 60 [some (pR 0), some (pI d), some (pI k), some (pI t), none, some (pI i), none] [] s := by
    intro i s h0 h1 hn h
    refine wx_J [60, 116] 9 tX3_joins_ok rfl (fun J hR hJ => ?_)
    have g := X3_joins_l2 (K := K) (Pt := Pt) d k t hd hk ht n2 _ s (wI_B _) h
    repeat' (first | (refine And.intro ?_ ?_) | (intro hq; first | (exact absurd hq (by omega)) | skip))
    all_goals first | omega | exact hJ _ _ _ _ g
  intro n
  induction n with
  | zero =>
    intro i s h0 h1 h
    exact fin i s h0 h1 h.1 h.2
  | succ n ih =>
    intro i s h0 h1 h
    obtain ⟨ha, hc⟩ := h
    by_cases c : mg s (d * 2804 + 5) ≤ i
    · exact fin i s h0 h1 c (ha c)
    · obtain ⟨h2, h3, h4⟩ := hc (by omega)
      refine wx_J [60, 116] 9 tX3_joins_ok rfl (fun J hR hJ => ?_)
      refine ⟨⟨by omega, by omega⟩, fun hS => ⟨⟨⟨by omega, by omega⟩, hS⟩, fun q => absurd q c, fun _ => ⟨⟨hd, ⟨by omega, h2⟩, hk, ht⟩, fun r => ?_, fun r => ?_⟩⟩⟩
      · obtain ⟨g1, g2⟩ := h3 r
        have g := ih _ _ (by omega) (by omega) g2
        exact ⟨⟨by omega, by omega⟩, fun q => absurd q (by omega), fun _ => ⟨⟨hd, ⟨by omega, h2⟩, g1⟩, fun _ hw => ⟨hw, hJ _ _ _ _ g⟩⟩⟩
      · have g := ih _ _ (by omega) (by omega) (h4 r)
        exact ⟨⟨by omega, by omega⟩, fun _ => hJ _ _ _ _ g, fun q => absurd rfl q⟩
def sX3_joins : Int → Int → Int → Int → MS → KM → Prop := fun d k t v s K => (dOk d ∧ xB k ∧ xB t ∧ xB v) ∧ ∃ n, mJoinP s d k t v n (K [])
theorem mX3_joins_ok : mOk encM bdM mX3_joins (atR 0 (a4 sX3_joins)) := by
  refine mOVa4 kX3_joins (fun _ _ _ _ => rfl) (fun d k t v s K h hb => wx_J [60, 116] 9 tX3_joins_ok rfl (fun J hR hJ => ?_))
  obtain ⟨⟨h1, h2, h3, h4⟩, n, hn⟩ := h
  have g := X3_joins_l1 (K := K) (Pt := fun _ => False) d k t h1 h2 h3 n n 0 (mFresh s k t v) (by omega) (by omega) hn
  repeat' (first | (refine And.intro ?_ ?_) | (intro hq; first | (exact absurd hq (by omega)) | skip))
  all_goals first | omega | exact hJ _ _ _ _ g
def cM_X3_joins : Sp MS := atR 0 (a4 sX3_joins)
theorem qM_X3_joins {M : XI} {rc rs pc pc2 : Nat} (d : xl_Ca M pc mX3_joins pc2) : cOk encM bdM M rc rs pc pc2 5 cM_X3_joins := cSame mX3_joins_ok vX3_joins d mcl rfl lenM recM
