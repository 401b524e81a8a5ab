/-! ===== the model: leaves ===== -/
-- X3_in: heads []
def tX3_in : Nat → Blk Unit := fun pc => bif Nat.blt pc 17 then (bif Nat.beq pc 0 then (oLld 0 <| oLld 2 <| oLcmp <| oZLt 17 <| oLld 0 <| oLld 4 <| oLcmp <| oZGt 17 <| oI 1 <| oTo 18) else oNo) else (bif Nat.blt pc 18 then (bif Nat.beq pc 17 then (oI 0 <| oTo 18) else oNo) else (bif Nat.beq pc 18 then (oZret) else oNo))
theorem tX3_in_ok : ∀ pc, bOk (encU) (bdU) mX3_in 0 0 pc (tX3_in pc) := fun pc => (tNode (tLeaf (okLldn iX3_in_0 rfl <| okLldn iX3_in_1 rfl <| okLcmp iX3_in_2 <| okZLt (tl rfl) iX3_in_3 <| okLldn iX3_in_6 rfl <| okLld iX3_in_7 <| okLcmp iX3_in_9 <| okZGt (tl rfl) iX3_in_10 <| okIc iX3_in_13 <| okGoto (tl rfl) iX3_in_14)) (tNode (tLeaf (okIc iX3_in_17 <| okTo (tl rfl))) (tLeaf (okZret iX3_in_18 rfl)))) pc
-- X3_flag: heads []
def tX3_flag : Nat → Blk Unit := fun pc => bif Nat.blt pc 8 then (bif Nat.beq pc 0 then (oIld 0 <| oZEq 8 <| oI 1 <| oTo 9) else oNo) else (bif Nat.blt pc 9 then (bif Nat.beq pc 8 then (oI 0 <| oTo 9) else oNo) else (bif Nat.beq pc 9 then (oIret) else oNo))
theorem tX3_flag_ok : ∀ pc, bOk (encU) (bdU) mX3_flag 0 0 pc (tX3_flag pc) := fun pc => (tNode (tLeaf (okIldn iX3_flag_0 rfl <| okZEq (tl rfl) iX3_flag_1 <| okIc iX3_flag_4 <| okGoto (tl rfl) iX3_flag_5)) (tNode (tLeaf (okIc iX3_flag_8 <| okTo (tl rfl))) (tLeaf (okIret iX3_flag_9 rfl)))) pc
-- X3_place: heads []
def tX3_place : Nat → Blk Unit := fun pc => bif Nat.beq pc 0 then (oIld 0 <| oI 2804 <| oMul <| oI 364 <| oAdd <| oI 7 <| oIld 1 <| oMul <| oAdd <| oIret) else oNo
theorem tX3_place_ok : ∀ pc, bOk (encU) (bdU) mX3_place 0 0 pc (tX3_place pc) := fun pc => (tLeaf (okIldn iX3_place_0 rfl <| okSi iX3_place_1 (by decide) <| okMul iX3_place_4 <| okSi iX3_place_5 (by decide) <| okAdd iX3_place_8 <| okBi iX3_place_9 (by decide) <| okIldn iX3_place_11 rfl <| okMul iX3_place_12 <| okAdd iX3_place_13 <| okIret iX3_place_14 rfl)) pc
-- X3_thrown: heads []
def tX3_thrown : Nat → Blk MS := fun pc => bif Nat.beq pc 0 then (oAld 0 <| oGet (fgM) 3 0 <| oIret) else oNo
theorem tX3_thrown_ok : ∀ pc, bOk (encM) (bdM) mX3_thrown 0 0 pc (tX3_thrown pc) := fun pc => (tLeaf (okAldn iX3_thrown_0 rfl <| okGet (vFgM) iX3_thrown_1 <| okIret iX3_thrown_4 rfl)) pc
-- X3_of: heads []
def tX3_of : Nat → Blk MS := fun pc => bif Nat.beq pc 0 then (oAld 0 <| oGet (fgM) 3 7 <| oIld 1 <| oI 2804 <| oMul <| oIld 2 <| oAdd <| oIa (agM) <| oIret) else oNo
theorem tX3_of_ok : ∀ pc, bOk (encM) (bdM) mX3_of 0 0 pc (tX3_of pc) := fun pc => (tLeaf (okAldn iX3_of_0 rfl <| okGet (vFgM) iX3_of_1 <| okIldn iX3_of_4 rfl <| okSi iX3_of_5 (by decide) <| okMul iX3_of_8 <| okIldn iX3_of_9 rfl <| okAdd iX3_of_10 <| okIa (vAgM) iX3_of_11 <| okIret iX3_of_12 rfl)) pc
-- X3_puts: heads []
def tX3_puts : Nat → Blk MS := fun pc => bif Nat.beq pc 0 then (oAld 0 <| oGet (fgM) 3 7 <| oIld 1 <| oI 2804 <| oMul <| oIld 2 <| oAdd <| oIld 3 <| oIas (agM) (apM) <| oVret) else oNo
theorem tX3_puts_ok : ∀ pc, bOk (encM) (bdM) mX3_puts 0 0 pc (tX3_puts pc) := fun pc => (tLeaf (okAldn iX3_puts_0 rfl <| okGet (vFgM) iX3_puts_1 <| okIldn iX3_puts_4 rfl <| okSi iX3_puts_5 (by decide) <| okMul iX3_puts_8 <| okIldn iX3_puts_9 rfl <| okAdd iX3_puts_10 <| okIldn iX3_puts_11 rfl <| okIas (vAgM) iX3_puts_12 <| okVret iX3_puts_13 rfl)) pc
-- X3_adds: heads []
def tX3_adds : Nat → Blk MS := fun pc => bif Nat.beq pc 0 then (oAld 0 <| oGet (fgM) 3 7 <| oIld 1 <| oI 2804 <| oMul <| oIld 2 <| oAdd <| oDup2 <| oIa (agM) <| oIld 3 <| oAddW <| oIas (agM) (apM) <| oVret) else oNo
theorem tX3_adds_ok : ∀ pc, bOk (encM) (bdM) mX3_adds 0 0 pc (tX3_adds pc) := fun pc => (tLeaf (okAldn iX3_adds_0 rfl <| okGet (vFgM) iX3_adds_1 <| okIldn iX3_adds_4 rfl <| okSi iX3_adds_5 (by decide) <| okMul iX3_adds_8 <| okIldn iX3_adds_9 rfl <| okAdd iX3_adds_10 <| okDup2 iX3_adds_11 <| okIa (vAgM) iX3_adds_12 <| okIldn iX3_adds_13 rfl <| okAddW iX3_adds_14 <| okIas (vAgM) iX3_adds_15 <| okVret iX3_adds_16 rfl)) pc
-- X3_enters: heads []
def tX3_enters : Nat → Blk MS := fun pc => bif Nat.beq pc 0 then (oAld 0 <| oGet (fgM) 3 2 <| oAld 0 <| oGet (fgM) 3 1 <| oLld 1 <| oLas (agM) (apM) <| oAld 0 <| oDup <| oGet (fgM) 3 1 <| oI 1 <| oAdd <| oPut (fpM) 3 1 <| oVret) else oNo
theorem tX3_enters_ok : ∀ pc, bOk (encM) (bdM) mX3_enters 0 0 pc (tX3_enters pc) := fun pc => (tLeaf (okAldn iX3_enters_0 rfl <| okGet (vFgM) iX3_enters_1 <| okAldn iX3_enters_4 rfl <| okGet (vFgM) iX3_enters_5 <| okLldn iX3_enters_8 rfl <| okLas (vAgM) iX3_enters_9 <| okAldn iX3_enters_10 rfl <| okDup iX3_enters_11 <| okGet (vFgM) iX3_enters_12 <| okIc iX3_enters_15 <| okAdd iX3_enters_16 <| okPut (vFpM) iX3_enters_17 <| okVret iX3_enters_20 rfl)) pc
-- X3_reads: heads []
def tX3_reads : Nat → Blk MS := fun pc => bif Nat.beq pc 0 then (oAld 0 <| oAld 0 <| oGet (fgM) 3 4 <| oPut (fpM) 3 6 <| oAld 0 <| oI 0 <| oPut (fpM) 3 4 <| oAld 0 <| oI 0 <| oPut (fpM) 3 5 <| oVret) else oNo
theorem tX3_reads_ok : ∀ pc, bOk (encM) (bdM) mX3_reads 0 0 pc (tX3_reads pc) := fun pc => (tLeaf (okAldn iX3_reads_0 rfl <| okAldn iX3_reads_1 rfl <| okGet (vFgM) iX3_reads_2 <| okPut (vFpM) iX3_reads_5 <| okAldn iX3_reads_8 rfl <| okIc iX3_reads_9 <| okPut (vFpM) iX3_reads_10 <| okAldn iX3_reads_13 rfl <| okIc iX3_reads_14 <| okPut (vFpM) iX3_reads_15 <| okVret iX3_reads_18 rfl)) pc
abbrev inB (v l h : Int) : Prop := l ≤ v ∧ v ≤ h
def sX3_in : Int → Int → Int → Unit → KU → Prop := fun v l h s K => (xB v ∧ xB l ∧ xB h) ∧ (inB v l h → K [pI 1] s) ∧ (¬ inB v l h → K [pI 0] s)
theorem mX3_in_ok : mOk encU bdU mX3_in (j3 sX3_in) := by
  refine mOSj3 kX3_in (fun _ _ _ => rfl) (fun v l h s K q hb => wx_J [] 9 tX3_in_ok rfl (fun J hR hJ => ?_))
  obtain ⟨h1, h2, h3⟩ := q
  repeat' (first | (refine And.intro ?_ ?_) | (intro hq; first | (exact absurd hq (by omega)) | skip))
  all_goals first | omega | exact hR _ _ (h2 (by omega)) | exact hR _ _ (h3 (by omega))
def sX3_flag : Int → Unit → KU → Prop := fun z s K => (z = 0 ∨ z = 1) ∧ K [pI z] s
theorem mX3_flag_ok : mOk encU bdU mX3_flag (a1 sX3_flag) := by
  refine mOSa1 kX3_flag (fun _ => rfl) (fun z s K h hb => wx_J [] 9 tX3_flag_ok rfl (fun J hR hJ => ?_))
  obtain ⟨h1, hK⟩ := h
  rcases h1 with rfl | rfl
  · repeat' (first | (refine And.intro ?_ ?_) | (intro hq; first | (exact absurd hq (by omega)) | skip))
    all_goals first | omega | exact hR _ _ hK
  · repeat' (first | (refine And.intro ?_ ?_) | (intro hq; first | (exact absurd hq (by omega)) | skip))
    all_goals first | omega | exact hR _ _ hK
def sX3_place : Int → Int → Unit → KU → Prop := fun d i s K => K [pI ((d * 2804 + 364 + 7 * i))] s
theorem mX3_place_ok : mOk encU bdU mX3_place (a2 sX3_place) := by
  refine mOSa2 kX3_place (fun _ _ => rfl) (fun d i s K h hb => wx_J [] 9 tX3_place_ok rfl (fun J hR hJ => ?_))
  have hK : K [pI ((d * 2804 + 364 + 7 * i))] s := h
  repeat' (first | (refine And.intro ?_ ?_) | (intro hq; first | (exact absurd hq (by omega)) | skip))
  all_goals first | omega | exact hR _ _ hK
section MSC
variable {M : XI} {rc rs pc pc2 : Nat}
theorem j3_inv {σ : Type} {f : Int → Int → Int → σ → (PS → σ → Prop) → Prop} {as : List PV} {s : σ} {K : PS → σ → Prop} (h : j3 f as s K) : ∃ x y z, as = [pJ x, pJ y, pJ z] ∧ f x y z s K := by
  unfold j3 at h
  split at h
  · exact ⟨_, _, _, rfl, h⟩
  · exact h.elim
def cM_X3_in : Sp MS := j3 (fun x y z s K => sX3_in x y z () (fun v _ => K v s))
theorem qM_X3_in (d : xl_Cs M pc mX3_in pc2) : cOk encM bdM M rc rs pc pc2 3 cM_X3_in := cUn mX3_in_ok vX3_in d rfl (fun as s K h1 => by
  obtain ⟨x, y, z, rfl, h2⟩ := j3_inv h1
  exact h2)
def cU_X3_in : Sp Unit := j3 sX3_in
theorem qU_X3_in (d : xl_Cs M pc mX3_in pc2) : cOk encU bdU M rc rs pc pc2 3 cU_X3_in := cUn mX3_in_ok vX3_in d rfl (fun as s K h1 => by
  obtain ⟨x, y, z, rfl, h2⟩ := j3_inv h1
  exact h2)
def cM_X3_flag : Sp MS := a1 (fun x s K => sX3_flag x () (fun v _ => K v s))
theorem qM_X3_flag (d : xl_Cs M pc mX3_flag pc2) : cOk encM bdM M rc rs pc pc2 1 cM_X3_flag := cUn mX3_flag_ok vX3_flag d rfl (fun as s K h1 => by
  obtain ⟨x, rfl, h2⟩ := a1_inv h1
  exact h2)
def cM_X3_place : Sp MS := a2 (fun x y s K => sX3_place x y () (fun v _ => K v s))
theorem qM_X3_place (d : xl_Cs M pc mX3_place pc2) : cOk encM bdM M rc rs pc pc2 2 cM_X3_place := cUn mX3_place_ok vX3_place d rfl (fun as s K h1 => by
  obtain ⟨x, y, rfl, h2⟩ := a2_inv h1
  exact h2)
end MSC
-- X3_areSettings: heads []
def tX3_areSettings : Nat → Blk Unit := fun pc => bif Nat.blt pc 40 then (bif Nat.beq pc 0 then (oIld 0 <| oI2l <| oJ 1 <| oJ 99 <| oC3 (cU_X3_in) <| oZEq 40 <| oIld 1 <| oI2l <| oJ 0 <| oJ 99 <| oC3 (cU_X3_in) <| oZEq 40 <| oIld 2 <| oI2l <| oJ 0 <| oJ 9 <| oC3 (cU_X3_in) <| oZEq 40 <| oI 1 <| oTo 41) else oNo) else (bif Nat.blt pc 41 then (bif Nat.beq pc 40 then (oI 0 <| oTo 41) else oNo) else (bif Nat.beq pc 41 then (oZret) else oNo))
theorem tX3_areSettings_ok : ∀ pc, bOk (encU) (bdU) mX3_areSettings 0 0 pc (tX3_areSettings pc) := fun pc => (tNode (tLeaf (okIldn iX3_areSettings_0 rfl <| okI2l iX3_areSettings_1 <| okLc iX3_areSettings_2 rfl <| okLdc2 (v := 99) iX3_areSettings_3 (xl_Ti 992 (by decide +kernel) rfl) (by decide) <| okC3 (qU_X3_in iX3_areSettings_6) <| okZEq (tl rfl) iX3_areSettings_9 <| okIldn iX3_areSettings_12 rfl <| okI2l iX3_areSettings_13 <| okLc iX3_areSettings_14 rfl <| okLdc2 (v := 99) iX3_areSettings_15 (xl_Ti 992 (by decide +kernel) rfl) (by decide) <| okC3 (qU_X3_in iX3_areSettings_18) <| okZEq (tl rfl) iX3_areSettings_21 <| okIldn iX3_areSettings_24 rfl <| okI2l iX3_areSettings_25 <| okLc iX3_areSettings_26 rfl <| okLdc2 (v := 9) iX3_areSettings_27 (xl_Ti 993 (by decide +kernel) rfl) (by decide) <| okC3 (qU_X3_in iX3_areSettings_30) <| okZEq (tl rfl) iX3_areSettings_33 <| okIc iX3_areSettings_36 <| okGoto (tl rfl) iX3_areSettings_37)) (tNode (tLeaf (okIc iX3_areSettings_40 <| okTo (tl rfl))) (tLeaf (okZret iX3_areSettings_41 rfl)))) pc
-- X3_isKey: heads []
def tX3_isKey : Nat → Blk Unit := fun pc => bif Nat.beq pc 0 then (oIld 0 <| oI2l <| oJ 0 <| oJ 5 <| oC3 (cU_X3_in) <| oZret) else oNo
theorem tX3_isKey_ok : ∀ pc, bOk (encU) (bdU) mX3_isKey 0 0 pc (tX3_isKey pc) := fun pc => (tLeaf (okIldn iX3_isKey_0 rfl <| okI2l iX3_isKey_1 <| okLc iX3_isKey_2 rfl <| okLdc2 (v := 5) iX3_isKey_3 (xl_Ti 1027 (by decide +kernel) rfl) (by decide) <| okC3 (qU_X3_in iX3_isKey_6) <| okZret iX3_isKey_9 rfl)) pc
def sX3_areSettings : Int → Int → Int → Unit → KU → Prop := fun g l e s K => (xB g ∧ xB l ∧ xB e) ∧ (okSet g l e → K [pI 1] s) ∧ (¬ okSet g l e → K [pI 0] s)
theorem mX3_areSettings_ok : mOk encU bdU mX3_areSettings (a3 sX3_areSettings) := by
  refine mOSa3 kX3_areSettings (fun _ _ _ => rfl) (fun g l e s K h hb => wx_J [] 9 tX3_areSettings_ok rfl (fun J hR hJ => ?_))
  obtain ⟨h1, h2, h3⟩ := h
  repeat' (first | (refine And.intro ?_ ?_) | (intro hq; first | (exact absurd hq (by omega)) | skip))
  all_goals first | omega | exact hR _ _ (h2 (by omega)) | exact hR _ _ (h3 (by omega))
def sX3_isKey : Int → Unit → KU → Prop := fun k s K => xB k ∧ ((0 ≤ k ∧ k < 6) → K [pI 1] s) ∧ (¬ (0 ≤ k ∧ k < 6) → K [pI 0] s)
theorem mX3_isKey_ok : mOk encU bdU mX3_isKey (a1 sX3_isKey) := by
  refine mOSa1 kX3_isKey (fun _ => rfl) (fun k s K h hb => wx_J [] 9 tX3_isKey_ok rfl (fun J hR hJ => ?_))
  obtain ⟨h1, h2, h3⟩ := h
  repeat' (first | (refine And.intro ?_ ?_) | (intro hq; first | (exact absurd hq (by omega)) | skip))
  all_goals first | omega | exact hR _ _ (h2 (by omega)) | exact hR _ _ (h3 (by omega))
section MSD
variable {M : XI} {rc rs pc pc2 : Nat}
def cM_X3_areSettings : Sp MS := a3 (fun x y z s K => sX3_areSettings x y z () (fun v _ => K v s))
theorem qM_X3_areSettings (d : xl_Cs M pc mX3_areSettings pc2) : cOk encM bdM M rc rs pc pc2 3 cM_X3_areSettings := cUn mX3_areSettings_ok vX3_areSettings d rfl (fun as s K h1 => by
  obtain ⟨x, y, z, rfl, h2⟩ := a3_inv h1
  exact h2)
def cM_X3_isKey : Sp MS := a1 (fun x s K => sX3_isKey x () (fun v _ => K v s))
theorem qM_X3_isKey (d : xl_Cs M pc mX3_isKey pc2) : cOk encM bdM M rc rs pc pc2 1 cM_X3_isKey := cUn mX3_isKey_ok vX3_isKey d rfl (fun as s K h1 => by
  obtain ⟨x, rfl, h2⟩ := a1_inv h1
  exact h2)
end MSD
/-- a cell of the row of all -/
def mg (s : MS) (a : Int) : Int := s.2 3 a.toNat
def mP (s : MS) (a v : Int) : MS := mA s 3 (xup (s.2 3) a.toNat v)
abbrev mI (a : Int) : Prop := 0 ≤ a ∧ a < 30844
theorem mg_B {s : MS} {a : Int} (hb : bdM s) : xB (mg s a) := hb.2 3 _
def sX3_of : Int → Int → MS → KM → Prop := fun d a s K => mI (d * 2804 + a) ∧ (xB (mg s (d * 2804 + a)) → K [pI (mg s (d * 2804 + a))] s)
theorem mX3_of_ok : mOk encM bdM mX3_of (atR 0 (a2 sX3_of)) := by
  refine mOVa2 kX3_of (fun _ _ => rfl) (fun d a s K h hb => wx_J [] 9 tX3_of_ok rfl (fun J hR hJ => ?_))
  obtain ⟨h1, h2⟩ := h
  have hK := h2 (mg_B hb)
  repeat' (first | (refine And.intro ?_ ?_) | (intro hq; first | (exact absurd hq (by omega)) | skip))
  all_goals first | omega | exact hR _ _ hK
def cM_X3_of : Sp MS := atR 0 (a2 sX3_of)
theorem qM_X3_of {M : XI} {rc rs pc pc2 : Nat} (d : xl_Ca M pc mX3_of pc2) : cOk encM bdM M rc rs pc pc2 3 cM_X3_of := cSame mX3_of_ok vX3_of d mcl rfl lenM recM
def sX3_puts : Int → Int → Int → MS → KM → Prop := fun d a v s K => (mI (d * 2804 + a) ∧ xB v) ∧ K [] (mP s (d * 2804 + a) v)
theorem mX3_puts_ok : mOk encM bdM mX3_puts (atR 0 (a3 sX3_puts)) := by
  refine mOVa3 kX3_puts (fun _ _ _ => rfl) (fun d a v s K h hb => wx_J [] 9 tX3_puts_ok rfl (fun J hR hJ => ?_))
  obtain ⟨h1, hK⟩ := h
  repeat' (first | (refine And.intro ?_ ?_) | (intro hq; first | (exact absurd hq (by omega)) | skip))
  all_goals first | omega | exact hR _ _ hK
def cM_X3_puts : Sp MS := atR 0 (a3 sX3_puts)
theorem qM_X3_puts {M : XI} {rc rs pc pc2 : Nat} (d : xl_Ca M pc mX3_puts pc2) : cOk encM bdM M rc rs pc pc2 4 cM_X3_puts := cSame mX3_puts_ok vX3_puts d mcl rfl lenM recM
def sX3_adds : Int → Int → Int → MS → KM → Prop := fun d a v s K => mI (d * 2804 + a) ∧ K [] (mP s (d * 2804 + a) (wI (mg s (d * 2804 + a) + v)))
theorem mX3_adds_ok : mOk encM bdM mX3_adds (atR 0 (a3 sX3_adds)) := by
  refine mOVa3 kX3_adds (fun _ _ _ => rfl) (fun d a v s K h hb => wx_J [] 9 tX3_adds_ok rfl (fun J hR hJ => ?_))
  obtain ⟨h1, hK⟩ := h
  repeat' (first | (refine And.intro ?_ ?_) | (intro hq; first | (exact absurd hq (by omega)) | skip))
  all_goals first | omega | exact hR _ _ hK
def cM_X3_adds : Sp MS := atR 0 (a3 sX3_adds)
theorem qM_X3_adds {M : XI} {rc rs pc pc2 : Nat} (d : xl_Ca M pc mX3_adds pc2) : cOk encM bdM M rc rs pc pc2 4 cM_X3_adds := cSame mX3_adds_ok vX3_adds d mcl rfl lenM recM
def mEn (s : MS) (x : Int) : MS := mS (mA s 1 (xup (s.2 1) (s.1 1).toNat x)) 1 (s.1 1 + 1)
def sX3_enters : Int → MS → KM → Prop := fun x s K => (xB x ∧ 0 ≤ s.1 1 ∧ s.1 1 < 16) ∧ K [] (mEn s x)
theorem mX3_enters_ok : mOk encM bdM mX3_enters (atR 0 (j1 sX3_enters)) := by
  refine mOVj1 kX3_enters (fun _ => rfl) (fun x s K h hb => wx_J [] 9 tX3_enters_ok rfl (fun J hR hJ => ?_))
  obtain ⟨⟨h1, h2, h3⟩, hK⟩ := h
  have c0 : (-2147483648 : Int) ≤ s.1 1 + 1 ∧ s.1 1 + 1 ≤ 2147483647 := ⟨by omega, by omega⟩
  repeat' (first | (refine And.intro ?_ ?_) | (intro hq; first | (exact absurd hq (by omega)) | skip))
  all_goals first | omega | exact c0.1 | exact c0.2 | exact hR _ _ hK
def cM_X3_enters : Sp MS := atR 0 (j1 sX3_enters)
theorem qM_X3_enters {M : XI} {rc rs pc pc2 : Nat} (d : xl_Ca M pc mX3_enters pc2) : cOk encM bdM M rc rs pc pc2 2 cM_X3_enters := cSame mX3_enters_ok vX3_enters d mcl rfl lenM recM
def mReads (s : MS) : MS := mS (mS (mS s 6 (s.1 4)) 4 0) 5 0
def sX3_reads : MS → KM → Prop := fun s K => K [] (mReads s)
theorem mX3_reads_ok : mOk encM bdM mX3_reads (atR 0 (a0 sX3_reads)) := by
  refine mOVa0 kX3_reads (fun _ => rfl) (fun s K h hb => wx_J [] 9 tX3_reads_ok rfl (fun J hR hJ => ?_))
  repeat' (first | (refine And.intro ?_ ?_) | (intro hq; first | (exact absurd hq (by omega)) | skip))
  all_goals first | omega | exact hR _ _ h
def cM_X3_reads : Sp MS := atR 0 (a0 sX3_reads)
theorem qM_X3_reads {M : XI} {rc rs pc pc2 : Nat} (d : xl_Ca M pc mX3_reads pc2) : cOk encM bdM M rc rs pc pc2 1 cM_X3_reads := cSame mX3_reads_ok vX3_reads d mcl rfl lenM recM
def sX3_thrown : MS → KM → Prop := fun s K => xB (s.1 0) → K [pI (s.1 0)] s
theorem mX3_thrown_ok : mOk encM bdM mX3_thrown (atR 0 (a0 sX3_thrown)) := by
  refine mOVa0 kX3_thrown (fun _ => rfl) (fun s K h hb => wx_J [] 9 tX3_thrown_ok rfl (fun J hR hJ => ?_))
  have hK := h (hb.1 0)
  repeat' (first | (refine And.intro ?_ ?_) | (intro hq; first | (exact absurd hq (by omega)) | skip))
  all_goals first | omega | exact hR _ _ hK
-- X3_isSource: heads []
def tX3_isSource : Nat → Blk MS := fun pc => bif Nat.beq pc 0 then (oIld 1 <| oI2l <| oJ 0 <| oAld 0 <| oI 0 <| oI 0 <| oC3 (cM_X3_of) <| oI 1 <| oSub <| oI2l <| oC3 (cM_X3_in) <| oZret) else oNo
theorem tX3_isSource_ok : ∀ pc, bOk (encM) (bdM) mX3_isSource 0 0 pc (tX3_isSource pc) := fun pc => (tLeaf (okIldn iX3_isSource_0 rfl <| okI2l iX3_isSource_1 <| okLc iX3_isSource_2 rfl <| okAldn iX3_isSource_3 rfl <| okIc iX3_isSource_4 <| okIc iX3_isSource_5 <| okC3 (qM_X3_of iX3_isSource_6) <| okIc iX3_isSource_9 <| okSub iX3_isSource_10 <| okI2l iX3_isSource_11 <| okC3 (qM_X3_in iX3_isSource_12) <| okZret iX3_isSource_15 rfl)) pc
-- X3_ofSession: heads []
def tX3_ofSession : Nat → Blk MS := fun pc => bif Nat.beq pc 0 then (oAld 0 <| oGet (fgM) 3 7 <| oIld 1 <| oIld 2 <| oC2 (cM_X3_place) <| oIld 3 <| oAdd <| oIa (agM) <| oIret) else oNo
theorem tX3_ofSession_ok : ∀ pc, bOk (encM) (bdM) mX3_ofSession 0 0 pc (tX3_ofSession pc) := fun pc => (tLeaf (okAldn iX3_ofSession_0 rfl <| okGet (vFgM) iX3_ofSession_1 <| okIldn iX3_ofSession_4 rfl <| okIldn iX3_ofSession_5 rfl <| okC2 (qM_X3_place iX3_ofSession_6) <| okIldn iX3_ofSession_9 rfl <| okAdd iX3_ofSession_10 <| okIa (vAgM) iX3_ofSession_11 <| okIret iX3_ofSession_12 rfl)) pc
-- X3_copies: heads [2]
def tX3_copies : Nat → Blk MS := fun pc => bif Nat.blt pc 2 then (bif Nat.beq pc 0 then (oI 0 <| oIst 3 <| oM [true, true, true, true] (oTo 2)) else oNo) else (bif Nat.blt pc 39 then (bif Nat.beq pc 2 then (oIld 3 <| oI 2804 <| oCGe 39 <| oAld 0 <| oGet (fgM) 3 7 <| oIld 2 <| oI 2804 <| oMul <| oIld 3 <| oAdd <| oAld 0 <| oGet (fgM) 3 7 <| oIld 1 <| oI 2804 <| oMul <| oIld 3 <| oAdd <| oIa (agM) <| oIas (agM) (apM) <| oInc 3 1 <| oM [true, true, true, true] (oTo 2)) else oNo) else (bif Nat.beq pc 39 then (oVret) else oNo))
theorem tX3_copies_ok : ∀ pc, bOk (encM) (bdM) mX3_copies 0 0 pc (tX3_copies pc) := fun pc => (tNode (tLeaf (okIc iX3_copies_0 <| okIstn iX3_copies_1 rfl (by decide) <| okM (okTo (tl rfl)))) (tNode (tLeaf (okIldn iX3_copies_2 rfl <| okSi iX3_copies_3 (by decide) <| okCGe (tl rfl) iX3_copies_6 <| okAldn iX3_copies_9 rfl <| okGet (vFgM) iX3_copies_10 <| okIldn iX3_copies_13 rfl <| okSi iX3_copies_14 (by decide) <| okMul iX3_copies_17 <| okIldn iX3_copies_18 rfl <| okAdd iX3_copies_19 <| okAldn iX3_copies_20 rfl <| okGet (vFgM) iX3_copies_21 <| okIldn iX3_copies_24 rfl <| okSi iX3_copies_25 (by decide) <| okMul iX3_copies_28 <| okIldn iX3_copies_29 rfl <| okAdd iX3_copies_30 <| okIa (vAgM) iX3_copies_31 <| okIas (vAgM) iX3_copies_32 <| okInc iX3_copies_33 (by decide) <| okGotoM (tl rfl) iX3_copies_36)) (tLeaf (okVret iX3_copies_39 rfl)))) pc
-- X3_ofInput: heads []
def tX3_ofInput : Nat → Blk MS := fun pc => bif Nat.beq pc 0 then (oAld 0 <| oGet (fgM) 3 7 <| oI 1844 <| oI 6 <| oIld 1 <| oMul <| oAdd <| oIld 2 <| oAdd <| oIa (agM) <| oIret) else oNo
theorem tX3_ofInput_ok : ∀ pc, bOk (encM) (bdM) mX3_ofInput 0 0 pc (tX3_ofInput pc) := fun pc => (tLeaf (okAldn iX3_ofInput_0 rfl <| okGet (vFgM) iX3_ofInput_1 <| okSi iX3_ofInput_4 (by decide) <| okBi iX3_ofInput_7 (by decide) <| okIldn iX3_ofInput_9 rfl <| okMul iX3_ofInput_10 <| okAdd iX3_ofInput_11 <| okIldn iX3_ofInput_12 rfl <| okAdd iX3_ofInput_13 <| okIa (vAgM) iX3_ofInput_14 <| okIret iX3_ofInput_15 rfl)) pc
def sX3_ofSession : Int → Int → Int → MS → KM → Prop := fun d i c s K => mI ((d * 2804 + 364 + 7 * i) + c) ∧ (xB (mg s ((d * 2804 + 364 + 7 * i) + c)) → K [pI (mg s ((d * 2804 + 364 + 7 * i) + c))] s)
theorem mX3_ofSession_ok : mOk encM bdM mX3_ofSession (atR 0 (a3 sX3_ofSession)) := by
  refine mOVa3 kX3_ofSession (fun _ _ _ => rfl) (fun d i c s K h hb => wx_J [] 9 tX3_ofSession_ok rfl (fun J hR hJ => ?_))
  obtain ⟨h1, h2⟩ := h
  have hK := h2 (mg_B hb)
  repeat' (first | (refine And.intro ?_ ?_) | (intro hq; first | (exact absurd hq (by omega)) | skip))
  all_goals first | omega | exact hR _ _ hK
def cM_X3_ofSession : Sp MS := atR 0 (a3 sX3_ofSession)
theorem qM_X3_ofSession {M : XI} {rc rs pc pc2 : Nat} (d : xl_Ca M pc mX3_ofSession pc2) : cOk encM bdM M rc rs pc pc2 4 cM_X3_ofSession := cSame mX3_ofSession_ok vX3_ofSession d mcl rfl lenM recM
def sX3_ofInput : Int → Int → MS → KM → Prop := fun i c s K => mI (1844 + 6 * i + c) ∧ (xB (mg s (1844 + 6 * i + c)) → K [pI (mg s (1844 + 6 * i + c))] s)
theorem mX3_ofInput_ok : mOk encM bdM mX3_ofInput (atR 0 (a2 sX3_ofInput)) := by
  refine mOVa2 kX3_ofInput (fun _ _ => rfl) (fun i c s K h hb => wx_J [] 9 tX3_ofInput_ok rfl (fun J hR hJ => ?_))
  obtain ⟨h1, h2⟩ := h
  have hK := h2 (mg_B hb)
  repeat' (first | (refine And.intro ?_ ?_) | (intro hq; first | (exact absurd hq (by omega)) | skip))
  all_goals first | omega | exact hR _ _ hK
def cM_X3_ofInput : Sp MS := atR 0 (a2 sX3_ofInput)
theorem qM_X3_ofInput {M : XI} {rc rs pc pc2 : Nat} (d : xl_Ca M pc mX3_ofInput pc2) : cOk encM bdM M rc rs pc pc2 3 cM_X3_ofInput := cSame mX3_ofInput_ok vX3_ofInput d mcl rfl lenM recM
abbrev mSrc (s : MS) (r : Int) : Prop := 0 ≤ r ∧ r < mg s 0
def sX3_isSource : Int → MS → KM → Prop := fun r s K => (xB r ∧ 0 ≤ mg s 0) ∧ (mSrc s r → K [pI 1] s) ∧ (¬ mSrc s r → K [pI 0] s)
theorem mX3_isSource_ok : mOk encM bdM mX3_isSource (atR 0 (a1 sX3_isSource)) := by
  refine mOVa1 kX3_isSource (fun _ => rfl) (fun r s K h hb => wx_J [] 9 tX3_isSource_ok rfl (fun J hR hJ => ?_))
  obtain ⟨⟨h1, h0⟩, h2, h3⟩ := h
  refine ⟨h1, ⟨⟨by omega, by omega⟩, fun (hm : xB (mg s 0)) => ?_⟩⟩
  refine ⟨⟨?_, ?_⟩, ⟨h1, ⟨by omega, by omega⟩, ⟨?_, ?_⟩⟩, fun c => ?_, fun c => ?_⟩
  · show -2147483648 ≤ mg s 0 - 1
    omega
  · show mg s 0 - 1 ≤ 2147483647
    omega
  · show -2147483648 ≤ mg s 0 - 1
    omega
  · show mg s 0 - 1 ≤ 2147483647
    omega
  · have c : 0 ≤ r ∧ r ≤ mg s 0 - 1 := c
    exact ⟨Or.inr rfl, hR _ _ (h2 ⟨c.1, by omega⟩)⟩
  · have c : ¬ (0 ≤ r ∧ r ≤ mg s 0 - 1) := c
    exact ⟨Or.inl rfl, hR _ _ (h3 (fun q => by omega))⟩
def cM_X3_isSource : Sp MS := atR 0 (a1 sX3_isSource)
theorem qM_X3_isSource {M : XI} {rc rs pc pc2 : Nat} (d : xl_Ca M pc mX3_isSource pc2) : cOk encM bdM M rc rs pc pc2 2 cM_X3_isSource := cSame mX3_isSource_ok vX3_isSource d mcl rfl lenM recM
theorem mA_mA (s : MS) (a : Nat) (F G : Nat → Int) : mA (mA s a F) a G = mA s a G := by
  refine Prod.ext rfl (funext fun j => ?_)
  show (bif Nat.beq j a then G else (bif Nat.beq j a then F else s.2 j)) = (bif Nat.beq j a then G else s.2 j)
  cases Nat.beq j a <;> rfl
theorem mA_self (s : MS) (a : Nat) : mA s a (s.2 a) = s := by
  refine Prod.ext rfl (funext fun j => ?_)
  show (bif Nat.beq j a then s.2 a else s.2 j) = s.2 j
  cases e : Nat.beq j a with
  | false => rfl
  | true => rw [nB e]; rfl
/-- a desk's cells onto another desk -/
def mCopy (s : MS) (f t : Int) : MS := mA s 3 (fun j => if (t * 2804).toNat ≤ j ∧ j < (t * 2804).toNat + 2804 then s.2 3 (j - (t * 2804).toNat + (f * 2804).toNat) else s.2 3 j)
theorem X3_copies_loop {K : KM} {Pt : MS → Prop} (s : MS) (f t : Int) (hf : 0 ≤ f ∧ f ≤ 10) (ht : 0 ≤ t ∧ t ≤ 10) (hK : K [] (mCopy s f t)) : ∀ (m : Nat) (k : Nat), k ≤ 2804 → m = 2804 - k → wX encM bdM mX3_copies 0 0 K Pt 2 [some (pR 0), some (pI f), some (pI t), some (pI k)] [] (mA s 3 (fun j => if (t * 2804).toNat ≤ j ∧ j < (t * 2804).toNat + k then s.2 3 (j - (t * 2804).toNat + (f * 2804).toNat) else s.2 3 j)) := by
  intro m
  induction m with
  | zero =>
    intro k h1 hm
    have : k = 2804 := by omega
    subst this
    refine wx_J [2] 9 tX3_copies_ok rfl (fun J hR hJ => ?_)
    repeat' (first | (refine And.intro ?_ ?_) | (intro hq; first | (exact absurd hq (by omega)) | skip))
    all_goals first | omega | exact hR _ _ hK
  | succ m ih =>
    intro k h1 hm
    refine wx_J [2] 9 tX3_copies_ok rfl (fun J hR hJ => ?_)
    have g := ih (k + 1) (by omega) (by omega)
    have e0 : ((f * 2804 + (k : Int))).toNat = (f * 2804).toNat + k := by omega
    have e1 : ((t * 2804 + (k : Int))).toNat = (t * 2804).toNat + k := by omega
    have hval : (fun j => if (t * 2804).toNat ≤ j ∧ j < (t * 2804).toNat + k then s.2 3 (j - (t * 2804).toNat + (f * 2804).toNat) else s.2 3 j) ((f * 2804).toNat + k) = s.2 3 ((f * 2804).toNat + k) := by
      dsimp only
      by_cases q : (t * 2804).toNat ≤ (f * 2804).toNat + k ∧ (f * 2804).toNat + k < (t * 2804).toNat + k
      · rcases Int.lt_trichotomy f t with c | c | c
        · omega
        · omega
        · omega
      · rw [if_neg q]
    have e : (fun j => if (t * 2804).toNat ≤ j ∧ j < (t * 2804).toNat + (k + 1) then s.2 3 (j - (t * 2804).toNat + (f * 2804).toNat) else s.2 3 j) = xup (fun j => if (t * 2804).toNat ≤ j ∧ j < (t * 2804).toNat + k then s.2 3 (j - (t * 2804).toNat + (f * 2804).toNat) else s.2 3 j) ((t * 2804 + (k : Int))).toNat ((fun j => if (t * 2804).toNat ≤ j ∧ j < (t * 2804).toNat + k then s.2 3 (j - (t * 2804).toNat + (f * 2804).toNat) else s.2 3 j) ((f * 2804 + (k : Int))).toNat) := by
      rw [e0, hval, e1]
      funext j
      unfold xup
      by_cases q : j = (t * 2804).toNat + k
      · rw [if_pos q, if_pos (by omega), show j - (t * 2804).toNat + (f * 2804).toNat = (f * 2804).toNat + k by omega]
      · rw [if_neg q]
        dsimp only
        by_cases q2 : (t * 2804).toNat ≤ j ∧ j < (t * 2804).toNat + k
        · rw [if_pos q2, if_pos (by omega)]
        · rw [if_neg q2, if_neg (by omega)]
    rw [e, show ((k + 1 : Nat) : Int) = (k : Int) + 1 by omega, ← mA_mA s 3 (fun j => if (t * 2804).toNat ≤ j ∧ j < (t * 2804).toNat + k then s.2 3 (j - (t * 2804).toNat + (f * 2804).toNat) else s.2 3 j)] at g
    repeat' (first | (refine And.intro ?_ ?_) | (intro hq; first | (exact absurd hq (by omega)) | skip))
    all_goals first | omega | exact hJ _ _ _ _ g
def sX3_copies : Int → Int → MS → KM → Prop := fun f t s K => ((0 ≤ f ∧ f ≤ 10) ∧ 0 ≤ t ∧ t ≤ 10) ∧ K [] (mCopy s f t)
theorem mX3_copies_ok : mOk encM bdM mX3_copies (atR 0 (a2 sX3_copies)) := by
  refine mOVa2 kX3_copies (fun _ _ => rfl) (fun f t s K h hb => wx_J [2] 9 tX3_copies_ok rfl (fun J hR hJ => ?_))
  obtain ⟨⟨h1, h2⟩, hK⟩ := h
  have g := X3_copies_loop (K := K) (Pt := fun _ => False) s f t h1 h2 hK 2804 0 (by omega) (by omega)
  have e : (fun j => if (t * 2804).toNat ≤ j ∧ j < (t * 2804).toNat + 0 then s.2 3 (j - (t * 2804).toNat + (f * 2804).toNat) else s.2 3 j) = s.2 3 := by
    funext j
    rw [if_neg (by omega)]
  rw [e, mA_self] at g
  exact hJ _ _ _ _ g
def cM_X3_copies : Sp MS := atR 0 (a2 sX3_copies)
theorem qM_X3_copies {M : XI} {rc rs pc pc2 : Nat} (d : xl_Ca M pc mX3_copies pc2) : cOk encM bdM M rc rs pc pc2 3 cM_X3_copies := cSame mX3_copies_ok vX3_copies d mcl rfl lenM recM
