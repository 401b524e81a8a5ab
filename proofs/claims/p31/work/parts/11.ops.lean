/-! ===== the ops and why they hold ===== -/
def pw : PS → Nat
  | [] => 0
  | .inr (.inl _) :: l => 2 + pw l
  | _ :: l => 1 + pw l
theorem pw_ok : ∀ (st : PS), ((st.map pV).map fun v => if xl_1 v = true then 1 else 2).sum = pw st
  | [] => rfl
  | v :: l => by
    have ih := pw_ok l
    rcases v with z | z | r | j <;> simp only [List.map_cons, List.sum_cons, ih] <;> rfl
section OPS
variable {σ : Type} {enc : σ → XH} {bd : σ → Prop} {M : XI} {rc rs pc pc2 tgt : Nat} {B : Blk σ}
abbrev Sp (σ : Type) : Type := List PV → σ → (PS → σ → Prop) → Prop
def oTo (t : Nat) : Blk σ := fun J L st s => J t L st s
def oM (m : List Bool) (B : Blk σ) : Blk σ := fun J L st s => B J (pm m L) st s
theorem okTo (h : pc < 1000000) : bOk enc bd M rc rs pc (oTo pc) := by
  intro Po Pt J hJ L st s hb h1
  have := hJ _ _ _ _ h1
  rw [wX_lt h] at this
  exact this hb
theorem okM {m : List Bool} (k : bOk enc bd M rc rs pc B) : bOk enc bd M rc rs pc (oM m B) := by
  intro Po Pt J hJ L st s hb h1
  exact pm_weak (k Po Pt J hJ _ _ _ hb h1)
theorem okGoto (h : tgt < 1000000) (d : xl_J M pc (fun o => .goto o) pc2 tgt) : bOk enc bd M rc rs pc (oTo tgt) := by
  intro Po Pt J hJ L st s hb h1
  have := hJ _ _ _ _ h1
  rw [wX_lt h] at this
  exact xl_goto d (this hb)
theorem okGotoM {m : List Bool} (h : tgt < 1000000) (d : xl_J M pc (fun o => .goto o) pc2 tgt) : bOk enc bd M rc rs pc (oM m (oTo tgt)) := okM (okGoto h d)
/-- constants -/
def oI (z : Int) (B : Blk σ) : Blk σ := fun J L st s => B J L (.inl z :: st) s
def oJ (z : Int) (B : Blk σ) : Blk σ := fun J L st s => B J L (.inr (.inl z) :: st) s
def oS (j : Nat) (B : Blk σ) : Blk σ := fun J L st s => B J L (.inr (.inr (.inr j)) :: st) s
theorem okIc {n : Int} (d : xl_D M pc (.iconst n) 1 pc2) (k : bOk enc bd M rc rs pc2 B) : bOk enc bd M rc rs pc (oI n B) := fun Po Pt J hJ _ _ _ hb h => xz_iconst d (k Po Pt J hJ _ _ _ hb h)
theorem okBi {n : Int} (d : xl_D M pc (.bipush n) 2 pc2) (hv : (Int8.ofInt n).toInt32 = iI n) (k : bOk enc bd M rc rs pc2 B) : bOk enc bd M rc rs pc (oI n B) := fun Po Pt J hJ _ _ _ hb h => xz_bipush d hv (k Po Pt J hJ _ _ _ hb h)
theorem okSi {n : Int} (d : xl_D M pc (.sipush n) 3 pc2) (hv : (Int16.ofInt n).toInt32 = iI n) (k : bOk enc bd M rc rs pc2 B) : bOk enc bd M rc rs pc (oI n B) := fun Po Pt J hJ _ _ _ hb h => xz_sipush d hv (k Po Pt J hJ _ _ _ hb h)
theorem okLdcw {i : Nat} {v : Int32} {n : Int} (d : xl_D M pc (.ldc_w i) 3 pc2) (hw : Cond.constant M.1.cls i v ∈ xl_T) (hv : v = iI n) (k : bOk enc bd M rc rs pc2 B) : bOk enc bd M rc rs pc (oI n B) := fun Po Pt J hJ _ _ _ hb h => xl_ldcw d hw (by rw [hv]; exact k Po Pt J hJ _ _ _ hb h)
theorem okLc {n : Fin 2} {z : Int} (d : xl_D M pc (.lconst n) 1 pc2) (hz : (n.val : Int) = z) (k : bOk enc bd M rc rs pc2 B) : bOk enc bd M rc rs pc (oJ z B) := fun Po Pt J hJ _ _ _ hb h => xz_lconst d (by rw [hz]; exact k Po Pt J hJ _ _ _ hb h)
theorem okLdc2 {i : Nat} {v : Int64} {n : Int} (d : xl_D M pc (.ldc2_w i) 3 pc2) (hw : Cond.constantLong M.1.cls i v ∈ xl_T) (hv : v = lI n) (k : bOk enc bd M rc rs pc2 B) : bOk enc bd M rc rs pc (oJ n B) := fun Po Pt J hJ _ _ _ hb h => xl_ldc2 d hw (by rw [hv]; exact k Po Pt J hJ _ _ _ hb h)

def oAdd (B : Blk σ) : Blk σ := fun J L st s => match st with
  | .inl b :: .inl a :: st => B J L (.inl (a + b) :: st) s
  | _ => False
theorem okAdd (d : xl_D M pc  .iadd 1 pc2) (k : bOk enc bd M rc rs pc2 B) : bOk enc bd M rc rs pc (oAdd B) := by
  intro Po Pt J hJ L st s hb h
  unfold oAdd at h
  split at h
  · exact xz_iadd d (k Po Pt J hJ _ _ _ hb h)
  · exact h.elim
def oSub (B : Blk σ) : Blk σ := fun J L st s => match st with
  | .inl b :: .inl a :: st => B J L (.inl (a - b) :: st) s
  | _ => False
theorem okSub (d : xl_D M pc  .isub 1 pc2) (k : bOk enc bd M rc rs pc2 B) : bOk enc bd M rc rs pc (oSub B) := by
  intro Po Pt J hJ L st s hb h
  unfold oSub at h
  split at h
  · exact xz_isub d (k Po Pt J hJ _ _ _ hb h)
  · exact h.elim
def oMul (B : Blk σ) : Blk σ := fun J L st s => match st with
  | .inl b :: .inl a :: st => B J L (.inl (a * b) :: st) s
  | _ => False
theorem okMul (d : xl_D M pc  .imul 1 pc2) (k : bOk enc bd M rc rs pc2 B) : bOk enc bd M rc rs pc (oMul B) := by
  intro Po Pt J hJ L st s hb h
  unfold oMul at h
  split at h
  · exact xz_imul d (k Po Pt J hJ _ _ _ hb h)
  · exact h.elim
def oRem (B : Blk σ) : Blk σ := fun J L st s => match st with
  | .inl b :: .inl a :: st => (0 ≤ a ∧ 0 < b ∧ xB a ∧ xB b) ∧ B J L (.inl (a % b) :: st) s
  | _ => False
theorem okRem (d : xl_D M pc  .irem 1 pc2) (k : bOk enc bd M rc rs pc2 B) : bOk enc bd M rc rs pc (oRem B) := by
  intro Po Pt J hJ L st s hb h
  unfold oRem at h
  split at h
  · exact xz_irem d h.1.1 h.1.2.1 h.1.2.2.1 h.1.2.2.2 (k Po Pt J hJ _ _ _ hb h.2)
  · exact h.elim
def oDiv (B : Blk σ) : Blk σ := fun J L st s => match st with
  | .inl b :: .inl a :: st => (0 ≤ a ∧ 0 < b ∧ xB a ∧ xB b) ∧ B J L (.inl (a / b) :: st) s
  | _ => False
theorem okDiv (d : xl_D M pc  .idiv 1 pc2) (k : bOk enc bd M rc rs pc2 B) : bOk enc bd M rc rs pc (oDiv B) := by
  intro Po Pt J hJ L st s hb h
  unfold oDiv at h
  split at h
  · exact xz_idiv d h.1.1 h.1.2.1 h.1.2.2.1 h.1.2.2.2 (k Po Pt J hJ _ _ _ hb h.2)
  · exact h.elim
def oAnd (B : Blk σ) : Blk σ := fun J L st s => match st with
  | .inl b :: .inl a :: st => B J L (.inl (iI a &&& iI b).toInt :: st) s
  | _ => False
theorem okAnd (d : xl_D M pc .iand 1 pc2) (k : bOk enc bd M rc rs pc2 B) : bOk enc bd M rc rs pc (oAnd B) := by
  intro Po Pt J hJ L st s hb h
  unfold oAnd at h
  split at h
  · next b a st =>
    have := k Po Pt J hJ _ _ _ hb h
    rw [List.map_cons, show pV (.inl (iI a &&& iI b).toInt) = .int (iI a &&& iI b) from congrArg Value.int (iI_of _)] at this
    exact xl_iand d this
  · exact h.elim
def oOr (B : Blk σ) : Blk σ := fun J L st s => match st with
  | .inl b :: .inl a :: st => B J L (.inl (iI a ||| iI b).toInt :: st) s
  | _ => False
theorem okOr (d : xl_D M pc .ior 1 pc2) (k : bOk enc bd M rc rs pc2 B) : bOk enc bd M rc rs pc (oOr B) := by
  intro Po Pt J hJ L st s hb h
  unfold oOr at h
  split at h
  · next b a st =>
    have := k Po Pt J hJ _ _ _ hb h
    rw [List.map_cons, show pV (.inl (iI a ||| iI b).toInt) = .int (iI a ||| iI b) from congrArg Value.int (iI_of _)] at this
    exact xl_ior d this
  · exact h.elim
def oShl (B : Blk σ) : Blk σ := fun J L st s => match st with
  | .inl b :: .inl a :: st => B J L (.inl (iI a <<< (iI b &&& 31)).toInt :: st) s
  | _ => False
theorem okShl (d : xl_D M pc .ishl 1 pc2) (k : bOk enc bd M rc rs pc2 B) : bOk enc bd M rc rs pc (oShl B) := by
  intro Po Pt J hJ L st s hb h
  unfold oShl at h
  split at h
  · next b a st =>
    have := k Po Pt J hJ _ _ _ hb h
    rw [List.map_cons, show pV (.inl (iI a <<< (iI b &&& 31)).toInt) = .int (iI a <<< (iI b &&& 31)) from congrArg Value.int (iI_of _)] at this
    exact xl_ishl d this
  · exact h.elim
def oShr (B : Blk σ) : Blk σ := fun J L st s => match st with
  | .inl b :: .inl a :: st => B J L (.inl (iI a >>> (iI b &&& 31)).toInt :: st) s
  | _ => False
theorem okShr (d : xl_D M pc .ishr 1 pc2) (k : bOk enc bd M rc rs pc2 B) : bOk enc bd M rc rs pc (oShr B) := by
  intro Po Pt J hJ L st s hb h
  unfold oShr at h
  split at h
  · next b a st =>
    have := k Po Pt J hJ _ _ _ hb h
    rw [List.map_cons, show pV (.inl (iI a >>> (iI b &&& 31)).toInt) = .int (iI a >>> (iI b &&& 31)) from congrArg Value.int (iI_of _)] at this
    exact xl_ishr d this
  · exact h.elim
def oUshr (B : Blk σ) : Blk σ := fun J L st s => match st with
  | .inl b :: .inl a :: st => B J L (.inl (((iI a).toUInt32 >>> ((iI b).toUInt32 &&& Int32.toUInt32 31)).toInt32).toInt :: st) s
  | _ => False
theorem okUshr (d : xl_D M pc .iushr 1 pc2) (k : bOk enc bd M rc rs pc2 B) : bOk enc bd M rc rs pc (oUshr B) := by
  intro Po Pt J hJ L st s hb h
  unfold oUshr at h
  split at h
  · next b a st =>
    have := k Po Pt J hJ _ _ _ hb h
    rw [List.map_cons, show pV (.inl (((iI a).toUInt32 >>> ((iI b).toUInt32 &&& Int32.toUInt32 31)).toInt32).toInt) = .int (((iI a).toUInt32 >>> ((iI b).toUInt32 &&& Int32.toUInt32 31)).toInt32) from congrArg Value.int (iI_of _)] at this
    exact xl_iushr d this
  · exact h.elim
def oNeg (B : Blk σ) : Blk σ := fun J L st s => match st with
  | .inl a :: st => B J L (.inl (-a) :: st) s
  | _ => False
theorem okNeg (d : xl_D M pc .ineg 1 pc2) (k : bOk enc bd M rc rs pc2 B) : bOk enc bd M rc rs pc (oNeg B) := by
  intro Po Pt J hJ L st s hb h
  unfold oNeg at h
  split at h
  · exact xz_ineg d (k Po Pt J hJ _ _ _ hb h)
  · exact h.elim
def oI2l (B : Blk σ) : Blk σ := fun J L st s => match st with
  | .inl a :: st => xB a ∧ B J L (.inr (.inl a) :: st) s
  | _ => False
theorem okI2l (d : xl_D M pc .i2l 1 pc2) (k : bOk enc bd M rc rs pc2 B) : bOk enc bd M rc rs pc (oI2l B) := by
  intro Po Pt J hJ L st s hb h
  unfold oI2l at h
  split at h
  · exact xz_i2l d h.1 (k Po Pt J hJ _ _ _ hb h.2)
  · exact h.elim
def oLcmp (B : Blk σ) : Blk σ := fun J L st s => match st with
  | .inr (.inl b) :: .inr (.inl a) :: st => (xB a ∧ xB b) ∧ ((a < b → B J L (.inl (-1) :: st) s) ∧ (a = b → B J L (.inl 0 :: st) s) ∧ (b < a → B J L (.inl 1 :: st) s))
  | _ => False
theorem okLcmp (d : xl_D M pc .lcmp 1 pc2) (k : bOk enc bd M rc rs pc2 B) : bOk enc bd M rc rs pc (oLcmp B) := by
  intro Po Pt J hJ L st s hb h
  unfold oLcmp at h
  split at h
  · next b a st =>
    refine xz_lcmp d h.1.1 h.1.2 ?_
    by_cases h1 : a < b
    · rw [if_pos h1]; exact k Po Pt J hJ _ _ _ hb (h.2.1 h1)
    · by_cases h2 : a = b
      · rw [if_neg h1, if_pos h2]; exact k Po Pt J hJ _ _ _ hb (h.2.2.1 h2)
      · rw [if_neg h1, if_neg h2]; exact k Po Pt J hJ _ _ _ hb (h.2.2.2 (by omega))
  · exact h.elim
def oDup (B : Blk σ) : Blk σ := fun J L st s => match st with
  | .inl a :: st => B J L (.inl a :: .inl a :: st) s
  | .inr (.inr a) :: st => B J L (.inr (.inr a) :: .inr (.inr a) :: st) s
  | _ => False
theorem okDup (d : xl_D M pc .dup 1 pc2) (k : bOk enc bd M rc rs pc2 B) : bOk enc bd M rc rs pc (oDup B) := by
  intro Po Pt J hJ L st s hb h
  unfold oDup at h
  split at h
  · exact xl_dup d rfl (k Po Pt J hJ _ _ _ hb h)
  · next a st => rcases a with r | j
                 · exact xl_dup d rfl (k Po Pt J hJ _ _ _ hb h)
                 · exact xl_dup d rfl (k Po Pt J hJ _ _ _ hb h)
  · exact h.elim
def oPop (B : Blk σ) : Blk σ := fun J L st s => match st with
  | .inl _ :: st => B J L st s
  | .inr (.inr _) :: st => B J L st s
  | _ => False
theorem okPop (d : xl_D M pc .pop 1 pc2) (k : bOk enc bd M rc rs pc2 B) : bOk enc bd M rc rs pc (oPop B) := by
  intro Po Pt J hJ L st s hb h
  unfold oPop at h
  split at h
  · exact xl_pop d rfl (k Po Pt J hJ _ _ _ hb h)
  · next a st => rcases a with r | j
                 · exact xl_pop d rfl (k Po Pt J hJ _ _ _ hb h)
                 · exact xl_pop d rfl (k Po Pt J hJ _ _ _ hb h)
  · exact h.elim
/-- an array's place and an index, twice -/
def oDup2 (B : Blk σ) : Blk σ := fun J L st s => match st with
  | .inl a :: .inr (.inr b) :: st => B J L (.inl a :: .inr (.inr b) :: .inl a :: .inr (.inr b) :: st) s
  | _ => False
theorem okDup2 (d : xl_D M pc .dup2 1 pc2) (k : bOk enc bd M rc rs pc2 B) : bOk enc bd M rc rs pc (oDup2 B) := by
  intro Po Pt J hJ L st s hb h
  unfold oDup2 at h
  split at h
  · next a b st => rcases b with r | j
                   · exact xl_dup2 d rfl rfl (k Po Pt J hJ _ _ _ hb h)
                   · exact xl_dup2 d rfl rfl (k Po Pt J hJ _ _ _ hb h)
  · exact h.elim

def oZEq (t : Nat) (B : Blk σ) : Blk σ := fun J L st s => match st with
  | .inl a :: st => xB a ∧ (a = 0 → J t L st s) ∧ (a ≠ 0 → B J L st s)
  | _ => False
theorem okZEq (ht : tgt < 1000000) (d : xl_J M pc (fun o => .ifCond .eq o) pc2 tgt) (k : bOk enc bd M rc rs pc2 B) : bOk enc bd M rc rs pc (oZEq tgt B) := by
  intro Po Pt J hJ L st s hb h
  unfold oZEq at h
  split at h
  · refine xl_if_eq d (fun c1 => ?_) (fun c1 => ?_)
    · have := hJ _ _ _ _ (h.2.1 ((iI_eq0 h.1).mp c1))
      rw [wX_lt ht] at this
      exact this hb
    · exact k Po Pt J hJ _ _ _ hb (h.2.2 (fun c => c1 ((iI_eq0 h.1).mpr c)))
  · exact h.elim
def oCEq (t : Nat) (B : Blk σ) : Blk σ := fun J L st s => match st with
  | .inl b :: .inl a :: st => (xB a ∧ xB b) ∧ (a = b → J t L st s) ∧ (a ≠ b → B J L st s)
  | _ => False
theorem okCEq (ht : tgt < 1000000) (d : xl_J M pc (fun o => .if_icmp .eq o) pc2 tgt) (k : bOk enc bd M rc rs pc2 B) : bOk enc bd M rc rs pc (oCEq tgt B) := by
  intro Po Pt J hJ L st s hb h
  unfold oCEq at h
  split at h
  · refine xl_icmp_eq d (fun c1 => ?_) (fun c1 => ?_)
    · have := hJ _ _ _ _ (h.2.1 ((iI_eq h.1.1 h.1.2).mp c1))
      rw [wX_lt ht] at this
      exact this hb
    · exact k Po Pt J hJ _ _ _ hb (h.2.2 (fun c => c1 ((iI_eq h.1.1 h.1.2).mpr c)))
  · exact h.elim
def oZNe (t : Nat) (B : Blk σ) : Blk σ := fun J L st s => match st with
  | .inl a :: st => xB a ∧ (a ≠ 0 → J t L st s) ∧ (a = 0 → B J L st s)
  | _ => False
theorem okZNe (ht : tgt < 1000000) (d : xl_J M pc (fun o => .ifCond .ne o) pc2 tgt) (k : bOk enc bd M rc rs pc2 B) : bOk enc bd M rc rs pc (oZNe tgt B) := by
  intro Po Pt J hJ L st s hb h
  unfold oZNe at h
  split at h
  · refine xl_if_ne d (fun c1 => ?_) (fun c1 => ?_)
    · have := hJ _ _ _ _ (h.2.1 (fun c => c1 ((iI_eq0 h.1).mpr c)))
      rw [wX_lt ht] at this
      exact this hb
    · exact k Po Pt J hJ _ _ _ hb (h.2.2 ((iI_eq0 h.1).mp c1))
  · exact h.elim
def oCNe (t : Nat) (B : Blk σ) : Blk σ := fun J L st s => match st with
  | .inl b :: .inl a :: st => (xB a ∧ xB b) ∧ (a ≠ b → J t L st s) ∧ (a = b → B J L st s)
  | _ => False
theorem okCNe (ht : tgt < 1000000) (d : xl_J M pc (fun o => .if_icmp .ne o) pc2 tgt) (k : bOk enc bd M rc rs pc2 B) : bOk enc bd M rc rs pc (oCNe tgt B) := by
  intro Po Pt J hJ L st s hb h
  unfold oCNe at h
  split at h
  · refine xl_icmp_ne d (fun c1 => ?_) (fun c1 => ?_)
    · have := hJ _ _ _ _ (h.2.1 (fun c => c1 ((iI_eq h.1.1 h.1.2).mpr c)))
      rw [wX_lt ht] at this
      exact this hb
    · exact k Po Pt J hJ _ _ _ hb (h.2.2 ((iI_eq h.1.1 h.1.2).mp c1))
  · exact h.elim
def oZLt (t : Nat) (B : Blk σ) : Blk σ := fun J L st s => match st with
  | .inl a :: st => xB a ∧ (a < 0 → J t L st s) ∧ (0 ≤ a → B J L st s)
  | _ => False
theorem okZLt (ht : tgt < 1000000) (d : xl_J M pc (fun o => .ifCond .lt o) pc2 tgt) (k : bOk enc bd M rc rs pc2 B) : bOk enc bd M rc rs pc (oZLt tgt B) := by
  intro Po Pt J hJ L st s hb h
  unfold oZLt at h
  split at h
  · refine xl_if_lt d (fun c1 => ?_) (fun c1 => ?_)
    · have := hJ _ _ _ _ (h.2.1 ((iI_lt0 h.1).mp c1))
      rw [wX_lt ht] at this
      exact this hb
    · exact k Po Pt J hJ _ _ _ hb (h.2.2 (by have := mt (iI_lt0 h.1).mpr c1; omega))
  · exact h.elim
def oCLt (t : Nat) (B : Blk σ) : Blk σ := fun J L st s => match st with
  | .inl b :: .inl a :: st => (xB a ∧ xB b) ∧ (a < b → J t L st s) ∧ (b ≤ a → B J L st s)
  | _ => False
theorem okCLt (ht : tgt < 1000000) (d : xl_J M pc (fun o => .if_icmp .lt o) pc2 tgt) (k : bOk enc bd M rc rs pc2 B) : bOk enc bd M rc rs pc (oCLt tgt B) := by
  intro Po Pt J hJ L st s hb h
  unfold oCLt at h
  split at h
  · refine xl_icmp_lt d (fun c1 => ?_) (fun c1 => ?_)
    · have := hJ _ _ _ _ (h.2.1 ((iI_lt h.1.1 h.1.2).mp c1))
      rw [wX_lt ht] at this
      exact this hb
    · exact k Po Pt J hJ _ _ _ hb (h.2.2 (by have := mt (iI_lt h.1.1 h.1.2).mpr c1; omega))
  · exact h.elim
def oZGe (t : Nat) (B : Blk σ) : Blk σ := fun J L st s => match st with
  | .inl a :: st => xB a ∧ (0 ≤ a → J t L st s) ∧ (a < 0 → B J L st s)
  | _ => False
theorem okZGe (ht : tgt < 1000000) (d : xl_J M pc (fun o => .ifCond .ge o) pc2 tgt) (k : bOk enc bd M rc rs pc2 B) : bOk enc bd M rc rs pc (oZGe tgt B) := by
  intro Po Pt J hJ L st s hb h
  unfold oZGe at h
  split at h
  · refine xl_if_ge d (fun c1 => ?_) (fun c1 => ?_)
    · have := hJ _ _ _ _ (h.2.1 ((iI_0le h.1).mp c1))
      rw [wX_lt ht] at this
      exact this hb
    · exact k Po Pt J hJ _ _ _ hb (h.2.2 (by have := mt (iI_0le h.1).mpr c1; omega))
  · exact h.elim
def oCGe (t : Nat) (B : Blk σ) : Blk σ := fun J L st s => match st with
  | .inl b :: .inl a :: st => (xB a ∧ xB b) ∧ (b ≤ a → J t L st s) ∧ (a < b → B J L st s)
  | _ => False
theorem okCGe (ht : tgt < 1000000) (d : xl_J M pc (fun o => .if_icmp .ge o) pc2 tgt) (k : bOk enc bd M rc rs pc2 B) : bOk enc bd M rc rs pc (oCGe tgt B) := by
  intro Po Pt J hJ L st s hb h
  unfold oCGe at h
  split at h
  · refine xl_icmp_ge d (fun c1 => ?_) (fun c1 => ?_)
    · have := hJ _ _ _ _ (h.2.1 ((iI_le h.1.2 h.1.1).mp c1))
      rw [wX_lt ht] at this
      exact this hb
    · exact k Po Pt J hJ _ _ _ hb (h.2.2 (by have := mt (iI_le h.1.2 h.1.1).mpr c1; omega))
  · exact h.elim
def oZGt (t : Nat) (B : Blk σ) : Blk σ := fun J L st s => match st with
  | .inl a :: st => xB a ∧ (0 < a → J t L st s) ∧ (a ≤ 0 → B J L st s)
  | _ => False
theorem okZGt (ht : tgt < 1000000) (d : xl_J M pc (fun o => .ifCond .gt o) pc2 tgt) (k : bOk enc bd M rc rs pc2 B) : bOk enc bd M rc rs pc (oZGt tgt B) := by
  intro Po Pt J hJ L st s hb h
  unfold oZGt at h
  split at h
  · refine xl_if_gt d (fun c1 => ?_) (fun c1 => ?_)
    · have := hJ _ _ _ _ (h.2.1 ((iI_0lt h.1).mp c1))
      rw [wX_lt ht] at this
      exact this hb
    · exact k Po Pt J hJ _ _ _ hb (h.2.2 (by have := mt (iI_0lt h.1).mpr c1; omega))
  · exact h.elim
def oCGt (t : Nat) (B : Blk σ) : Blk σ := fun J L st s => match st with
  | .inl b :: .inl a :: st => (xB a ∧ xB b) ∧ (b < a → J t L st s) ∧ (a ≤ b → B J L st s)
  | _ => False
theorem okCGt (ht : tgt < 1000000) (d : xl_J M pc (fun o => .if_icmp .gt o) pc2 tgt) (k : bOk enc bd M rc rs pc2 B) : bOk enc bd M rc rs pc (oCGt tgt B) := by
  intro Po Pt J hJ L st s hb h
  unfold oCGt at h
  split at h
  · refine xl_icmp_gt d (fun c1 => ?_) (fun c1 => ?_)
    · have := hJ _ _ _ _ (h.2.1 ((iI_lt h.1.2 h.1.1).mp c1))
      rw [wX_lt ht] at this
      exact this hb
    · exact k Po Pt J hJ _ _ _ hb (h.2.2 (by have := mt (iI_lt h.1.2 h.1.1).mpr c1; omega))
  · exact h.elim
def oZLe (t : Nat) (B : Blk σ) : Blk σ := fun J L st s => match st with
  | .inl a :: st => xB a ∧ (a ≤ 0 → J t L st s) ∧ (0 < a → B J L st s)
  | _ => False
theorem okZLe (ht : tgt < 1000000) (d : xl_J M pc (fun o => .ifCond .le o) pc2 tgt) (k : bOk enc bd M rc rs pc2 B) : bOk enc bd M rc rs pc (oZLe tgt B) := by
  intro Po Pt J hJ L st s hb h
  unfold oZLe at h
  split at h
  · refine xl_if_le d (fun c1 => ?_) (fun c1 => ?_)
    · have := hJ _ _ _ _ (h.2.1 ((iI_le0 h.1).mp c1))
      rw [wX_lt ht] at this
      exact this hb
    · exact k Po Pt J hJ _ _ _ hb (h.2.2 (by have := mt (iI_le0 h.1).mpr c1; omega))
  · exact h.elim
def oCLe (t : Nat) (B : Blk σ) : Blk σ := fun J L st s => match st with
  | .inl b :: .inl a :: st => (xB a ∧ xB b) ∧ (a ≤ b → J t L st s) ∧ (b < a → B J L st s)
  | _ => False
theorem okCLe (ht : tgt < 1000000) (d : xl_J M pc (fun o => .if_icmp .le o) pc2 tgt) (k : bOk enc bd M rc rs pc2 B) : bOk enc bd M rc rs pc (oCLe tgt B) := by
  intro Po Pt J hJ L st s hb h
  unfold oCLe at h
  split at h
  · refine xl_icmp_le d (fun c1 => ?_) (fun c1 => ?_)
    · have := hJ _ _ _ _ (h.2.1 ((iI_le h.1.1 h.1.2).mp c1))
      rw [wX_lt ht] at this
      exact this hb
    · exact k Po Pt J hJ _ _ _ hb (h.2.2 (by have := mt (iI_le h.1.1 h.1.2).mpr c1; omega))
  · exact h.elim
def oNN (t : Nat) : Blk σ := fun J L st s => match st with
  | .inr (.inr (.inl _)) :: st => J t L st s
  | _ => False
theorem okNN (ht : tgt < 1000000) (d : xl_J M pc (fun o => .ifnonnull o) pc2 tgt) : bOk enc bd M rc rs pc (oNN tgt) := by
  intro Po Pt J hJ L st s hb h
  unfold oNN at h
  split at h
  · have := hJ _ _ _ _ h
    rw [wX_lt ht] at this
    exact xl_ifnonnull d (this hb)
  · exact h.elim
def oNu (B : Blk σ) : Blk σ := fun J L st s => match st with
  | .inr (.inr (.inl _)) :: st => B J L st s
  | _ => False
theorem okNu (d : xl_J M pc (fun o => .ifnull o) pc2 tgt) (k : bOk enc bd M rc rs pc2 B) : bOk enc bd M rc rs pc (oNu B) := by
  intro Po Pt J hJ L st s hb h
  unfold oNu at h
  split at h
  · exact xl_ifnull d (k Po Pt J hJ _ _ _ hb h)
  · exact h.elim
/-- locals -/
def oIld (i : Nat) (B : Blk σ) : Blk σ := fun J L st s => match xl_n L i with
  | some (some (.inl z)) => B J L (.inl z :: st) s
  | _ => False
def oLld (i : Nat) (B : Blk σ) : Blk σ := fun J L st s => match xl_n L i with
  | some (some (.inr (.inl z))) => B J L (.inr (.inl z) :: st) s
  | _ => False
def oAld (i : Nat) (B : Blk σ) : Blk σ := fun J L st s => match xl_n L i with
  | some (some (.inr (.inr x))) => B J L (.inr (.inr x) :: st) s
  | _ => False
def oIst (i : Nat) (B : Blk σ) : Blk σ := fun J L st s => match st with
  | .inl z :: st => bif pk L i then B J (xl_s L i (some (.inl z))) st s else False
  | _ => False
def oAst (i : Nat) (B : Blk σ) : Blk σ := fun J L st s => match st with
  | .inr (.inr x) :: st => bif pk L i then B J (xl_s L i (some (.inr (.inr x)))) st s else False
  | _ => False
def oInc (i : Nat) (n : Int) (B : Blk σ) : Blk σ := fun J L st s => match xl_n L i with
  | some (some (.inl z)) => bif pk L i then B J (xl_s L i (some (.inl (z + n)))) st s else False
  | _ => False
theorem condT {b : Bool} {P : Prop} (h : bif b then P else False) : b = true ∧ P := by
  cases b with
  | false => exact h.elim
  | true => exact ⟨rfl, h⟩
theorem okIld {i : Nat} (d : xl_D M pc (.iload i) 2 pc2) (k : bOk enc bd M rc rs pc2 B) : bOk enc bd M rc rs pc (oIld i B) := by
  intro Po Pt J hJ L st s hb h
  unfold oIld at h
  split at h
  · next z hz => exact xl_iload d (eL_at hz) (k Po Pt J hJ _ _ _ hb h)
  · exact h.elim
theorem okIldn {i : Fin 4} {j : Nat} (d : xl_D M pc (.iload_n i) 1 pc2) (e : i.val = j) (k : bOk enc bd M rc rs pc2 B) : bOk enc bd M rc rs pc (oIld j B) := by
  subst e
  intro Po Pt J hJ L st s hb h
  unfold oIld at h
  split at h
  · next z hz => exact xl_iload_n d (eL_at hz) (k Po Pt J hJ _ _ _ hb h)
  · exact h.elim
theorem okLld {i : Nat} (d : xl_D M pc (.lload i) 2 pc2) (k : bOk enc bd M rc rs pc2 B) : bOk enc bd M rc rs pc (oLld i B) := by
  intro Po Pt J hJ L st s hb h
  unfold oLld at h
  split at h
  · next z hz => exact xl_lload d (eL_at hz) (k Po Pt J hJ _ _ _ hb h)
  · exact h.elim
theorem okLldn {i : Fin 4} {j : Nat} (d : xl_D M pc (.lload_n i) 1 pc2) (e : i.val = j) (k : bOk enc bd M rc rs pc2 B) : bOk enc bd M rc rs pc (oLld j B) := by
  subst e
  intro Po Pt J hJ L st s hb h
  unfold oLld at h
  split at h
  · next z hz => exact xl_lload_n d (eL_at hz) (k Po Pt J hJ _ _ _ hb h)
  · exact h.elim
theorem okAld {i : Nat} (d : xl_D M pc (.aload i) 2 pc2) (k : bOk enc bd M rc rs pc2 B) : bOk enc bd M rc rs pc (oAld i B) := by
  intro Po Pt J hJ L st s hb h
  unfold oAld at h
  split at h
  · next x hz => rcases x with r | j
                 · exact xl_aload d (eL_at hz) (k Po Pt J hJ _ _ _ hb h)
                 · exact xl_saload d (eL_at hz) (k Po Pt J hJ _ _ _ hb h)
  · exact h.elim
theorem okAldn {i : Fin 4} {j : Nat} (d : xl_D M pc (.aload_n i) 1 pc2) (e : i.val = j) (k : bOk enc bd M rc rs pc2 B) : bOk enc bd M rc rs pc (oAld j B) := by
  subst e
  intro Po Pt J hJ L st s hb h
  unfold oAld at h
  split at h
  · next x hz => rcases x with r | j
                 · exact xl_aload_n d (eL_at hz) (k Po Pt J hJ _ _ _ hb h)
                 · exact xl_saload_n d (eL_at hz) (k Po Pt J hJ _ _ _ hb h)
  · exact h.elim
theorem okIst {i : Nat} (d : xl_D M pc (.istore i) 2 pc2) (hn : i < M.2.2.1) (k : bOk enc bd M rc rs pc2 B) : bOk enc bd M rc rs pc (oIst i B) := by
  intro Po Pt J hJ L st s hb h
  unfold oIst at h
  split at h
  · next z st => 
    obtain ⟨h1, h2⟩ := condT h
    have := k Po Pt J hJ _ _ _ hb h2
    rw [← eL_s] at this
    exact xl_istore d (pk_ok _ _ h1) hn this
  · exact h.elim
theorem okIstn {i : Fin 4} {j : Nat} (d : xl_D M pc (.istore_n i) 1 pc2) (e : i.val = j) (hn : j < M.2.2.1) (k : bOk enc bd M rc rs pc2 B) : bOk enc bd M rc rs pc (oIst j B) := by
  subst e
  intro Po Pt J hJ L st s hb h
  unfold oIst at h
  split at h
  · next z st => 
    obtain ⟨h1, h2⟩ := condT h
    have := k Po Pt J hJ _ _ _ hb h2
    rw [← eL_s] at this
    exact xl_istore_n d (pk_ok _ _ h1) hn this
  · exact h.elim
theorem okAst {i : Nat} (d : xl_D M pc (.astore i) 2 pc2) (hn : i < M.2.2.1) (k : bOk enc bd M rc rs pc2 B) : bOk enc bd M rc rs pc (oAst i B) := by
  intro Po Pt J hJ L st s hb h
  unfold oAst at h
  split at h
  · next x st => 
    obtain ⟨h1, h2⟩ := condT h
    have := k Po Pt J hJ _ _ _ hb h2
    rw [← eL_s] at this
    rcases x with r | j
    · exact xl_astore d (pk_ok _ _ h1) hn this
    · exact xl_sastore d (pk_ok _ _ h1) hn this
  · exact h.elim
theorem okAstn {i : Fin 4} {j : Nat} (d : xl_D M pc (.astore_n i) 1 pc2) (e : i.val = j) (hn : j < M.2.2.1) (k : bOk enc bd M rc rs pc2 B) : bOk enc bd M rc rs pc (oAst j B) := by
  subst e
  intro Po Pt J hJ L st s hb h
  unfold oAst at h
  split at h
  · next x st => 
    obtain ⟨h1, h2⟩ := condT h
    have := k Po Pt J hJ _ _ _ hb h2
    rw [← eL_s] at this
    rcases x with r | j
    · exact xl_astore_n d (pk_ok _ _ h1) hn this
    · exact xl_sastore_n d (pk_ok _ _ h1) hn this
  · exact h.elim
theorem okInc {i : Nat} {n : Int} (d : xl_D M pc (.iinc i n) 3 pc2) (hn : i < M.2.2.1) (k : bOk enc bd M rc rs pc2 B) : bOk enc bd M rc rs pc (oInc i n B) := by
  intro Po Pt J hJ L st s hb h
  unfold oInc at h
  split at h
  · next z hz => 
    obtain ⟨h1, h2⟩ := condT h
    have := k Po Pt J hJ _ _ _ hb h2
    rw [← eL_s] at this
    exact xz_iinc d (eL_at hz) (pk_ok _ _ h1) hn this
  · exact h.elim
/-- ends -/
def oIret : Blk σ := fun J _ st s => match st with
  | [.inl z] => J 1000000 [] [.inl z] s
  | _ => False
def oZret : Blk σ := fun J _ st s => match st with
  | [.inl z] => (z = 0 ∨ z = 1) ∧ J 1000000 [] [.inl z] s
  | _ => False
def oLret : Blk σ := fun J _ st s => match st with
  | [.inr (.inl z)] => J 1000000 [] [.inr (.inl z)] s
  | _ => False
def oSret : Blk σ := fun J _ st s => match st with
  | [.inr (.inr (.inr j))] => J 1000000 [] [.inr (.inr (.inr j))] s
  | _ => False
def oVret : Blk σ := fun J _ st s => match st with
  | [] => J 1000000 [] [] s
  | _ => False
def oThr : Blk σ := fun J _ st s => match st with
  | [] => J 1000001 [] [] s
  | _ => False
theorem okIret (d : xl_D M pc .ireturn 1 pc2) (hr : M.2.2.2.1 = some .int) : bOk enc bd M rc rs pc oIret := by
  intro Po Pt J hJ L st s hb h
  unfold oIret at h
  split at h
  · exact xl_ireturn d hr ⟨_, s, rfl, rfl, hb, (fun a e => by cases e), hJ _ _ _ _ h⟩
  · exact h.elim
theorem okZret (d : xl_D M pc .ireturn 1 pc2) (hr : M.2.2.2.1 = some .boolean) : bOk enc bd M rc rs pc oZret := by
  intro Po Pt J hJ L st s hb h
  unfold oZret at h
  split at h
  · next z => exact xl_zreturn d hr (by rcases h.1 with rfl | rfl
                                        · exact Or.inl rfl
                                        · exact Or.inr rfl) ⟨_, s, rfl, rfl, hb, (fun a e => by cases e), hJ _ _ _ _ h.2⟩
  · exact h.elim
theorem okLret (d : xl_D M pc .lreturn 1 pc2) (hr : M.2.2.2.1 = some .long) : bOk enc bd M rc rs pc oLret := by
  intro Po Pt J hJ L st s hb h
  unfold oLret at h
  split at h
  · exact xl_lreturn d hr ⟨_, s, rfl, rfl, hb, (fun a e => by cases e), hJ _ _ _ _ h⟩
  · exact h.elim
theorem okSret {n : String} (d : xl_D M pc .areturn 1 pc2) (hr : M.2.2.2.1 = some (.object n)) : bOk enc bd M rc rs pc oSret := by
  intro Po Pt J hJ L st s hb h
  unfold oSret at h
  split at h
  · exact xl_sreturn d hr ⟨_, s, rfl, rfl, hb, (fun a e => by cases e), hJ _ _ _ _ h⟩
  · exact h.elim
theorem okVret (d : xl_D M pc .return_ 1 pc2) (hr : M.2.2.2.1 = none) : bOk enc bd M rc rs pc oVret := by
  intro Po Pt J hJ L st s hb h
  unfold oVret at h
  split at h
  · exact xl_return d hr ⟨[], s, rfl, rfl, hb, (fun a e => by cases e), hJ _ _ _ _ h⟩
  · exact h.elim
theorem okThr (d : xl_Y M pc) : bOk enc bd M (rc + 1) (rs + 6) pc oThr := by
  intro Po Pt J hJ L st s hb h
  unfold oThr at h
  split at h
  · exact xl_thr ⟨s, rfl, hb, hJ _ _ _ _ h⟩ d
  · exact h.elim
/-- fields -/
abbrev FG (σ : Type) : Type := σ → Nat → Nat → Nat → Option PV
abbrev FP (σ : Type) : Type := σ → Nat → Nat → Nat → Int → Option σ
abbrev AG (σ : Type) : Type := σ → Nat → Option (Nat × Nat × (Nat → Int))
abbrev AP (σ : Type) : Type := σ → Nat → (Nat → Int) → σ
def vFg (enc : σ → XH) (bd : σ → Prop) (fg : FG σ) : Prop := ∀ s r ci k v, bd s → fg s r ci k = some v → ∃ fs w, xl_n (enc s) r = some (.inr (ci, fs)) ∧ xl_n fs k = some w ∧ xl_o r w = pV v ∧ ∀ z, v = .inl z → xB z
def vFp (enc : σ → XH) (bd : σ → Prop) (fp : FP σ) : Prop := ∀ s r ci k z s', bd s → xB z → fp s r ci k z = some s' → ∃ fs, xl_n (enc s) r = some (.inr (ci, fs)) ∧ k < fs.length ∧ enc s' = xl_s (enc s) r (.inr (ci, xl_s fs k (.int (iI z)))) ∧ bd s'
def aE (t n : Nat) (g : Nat → Int) : XE := match t with
  | 0 => xA n g
  | 1 => xL n g
  | _ => xZ n g
def vAg (enc : σ → XH) (bd : σ → Prop) (ag : AG σ) (ap : AP σ) : Prop := ∀ s r t n g, bd s → ag s r = some (t, n, g) → n ≤ 1000000 ∧ (∀ k, xB (g k)) ∧ xl_n (enc s) r = some (aE t n g) ∧ ∀ g', (∀ k, xB (g' k)) → bd (ap s r g') ∧ enc (ap s r g') = xl_s (enc s) r (aE t n g')
def oGet (fg : FG σ) (ci k : Nat) (B : Blk σ) : Blk σ := fun J L st s => match st with
  | .inr (.inr (.inl r)) :: st => match fg s r ci k with
    | some (.inl z) => xB z → B J L (.inl z :: st) s
    | some (.inr v) => B J L (.inr v :: st) s
    | none => False
  | _ => False
theorem okGet {fg : FG σ} {ci f : Nat} (hv : vFg enc bd fg) (d : xl_G M pc ci f pc2) (k : bOk enc bd M rc rs pc2 B) : bOk enc bd M rc rs pc (oGet fg ci f B) := by
  intro Po Pt J hJ L st s hb h
  unfold oGet at h
  split at h
  · next r st =>
    split at h
    · next z hz =>
      obtain ⟨fs, w, e1, e2, e3, e4⟩ := hv s r ci f _ hb hz
      have := k Po Pt J hJ _ _ _ hb (h (e4 z rfl))
      rw [List.map_cons, ← e3] at this
      exact xl_get d e1 e2 this
    · next v hz =>
      obtain ⟨fs, w, e1, e2, e3, e4⟩ := hv s r ci f _ hb hz
      have := k Po Pt J hJ _ _ _ hb h
      rw [List.map_cons, ← e3] at this
      exact xl_get d e1 e2 this
    · exact h.elim
  · exact h.elim
def oPut (fp : FP σ) (ci k : Nat) (B : Blk σ) : Blk σ := fun J L st s => match st with
  | .inl z :: .inr (.inr (.inl r)) :: st => match fp s r ci k z with
    | some s' => xB z ∧ B J L st s'
    | none => False
  | _ => False
theorem okPut {fp : FP σ} {ci f : Nat} (hv : vFp enc bd fp) (d : xl_P M pc ci f .int pc2) (k : bOk enc bd M rc rs pc2 B) : bOk enc bd M rc rs pc (oPut fp ci f B) := by
  intro Po Pt J hJ L st s hb h
  unfold oPut at h
  split at h
  · next z r st =>
    split at h
    · next s' hz =>
      obtain ⟨fs, e1, e2, e3, e4⟩ := hv s r ci f z s' hb h.1 hz
      have := k Po Pt J hJ _ _ _ e4 h.2
      rw [e3] at this
      exact xl_put d e1 e2 this
    · exact h.elim
  · exact h.elim
/-- arrays -/
def oIa (ag : AG σ) (B : Blk σ) : Blk σ := fun J L st s => match st with
  | .inl i :: .inr (.inr (.inl r)) :: st => match ag s r with
    | some (0, n, g) => (0 ≤ i ∧ i < (n : Int)) ∧ (xB (g i.toNat) → B J L (.inl (g i.toNat) :: st) s)
    | _ => False
  | _ => False
def oLa (ag : AG σ) (B : Blk σ) : Blk σ := fun J L st s => match st with
  | .inl i :: .inr (.inr (.inl r)) :: st => match ag s r with
    | some (1, n, g) => (0 ≤ i ∧ i < (n : Int)) ∧ (xB (g i.toNat) → B J L (.inr (.inl (g i.toNat)) :: st) s)
    | _ => False
  | _ => False
def oZa (ag : AG σ) (B : Blk σ) : Blk σ := fun J L st s => match st with
  | .inl i :: .inr (.inr (.inl r)) :: st => match ag s r with
    | some (2, n, g) => (0 ≤ i ∧ i < (n : Int)) ∧ (xB (g i.toNat) → B J L (.inl (g i.toNat) :: st) s)
    | _ => False
  | _ => False
def oLen (ag : AG σ) (B : Blk σ) : Blk σ := fun J L st s => match st with
  | .inr (.inr (.inl r)) :: st => match ag s r with
    | some (_, n, _) => B J L (.inl (n : Int) :: st) s
    | _ => False
  | _ => False
def oIas (ag : AG σ) (ap : AP σ) (B : Blk σ) : Blk σ := fun J L st s => match st with
  | .inl v :: .inl i :: .inr (.inr (.inl r)) :: st => match ag s r with
    | some (0, n, g) => (0 ≤ i ∧ i < (n : Int) ∧ xB v) ∧ B J L st (ap s r (xup g i.toNat v))
    | _ => False
  | _ => False
def oLas (ag : AG σ) (ap : AP σ) (B : Blk σ) : Blk σ := fun J L st s => match st with
  | .inr (.inl v) :: .inl i :: .inr (.inr (.inl r)) :: st => match ag s r with
    | some (1, n, g) => (0 ≤ i ∧ i < (n : Int) ∧ xB v) ∧ B J L st (ap s r (xup g i.toNat v))
    | _ => False
  | _ => False
def oZas (ag : AG σ) (ap : AP σ) (B : Blk σ) : Blk σ := fun J L st s => match st with
  | .inl v :: .inl i :: .inr (.inr (.inl r)) :: st => match ag s r with
    | some (2, n, g) => (0 ≤ i ∧ i < (n : Int) ∧ (v = 0 ∨ v = 1)) ∧ B J L st (ap s r (xup g i.toNat v))
    | _ => False
  | _ => False
theorem xup_B {g : Nat → Int} {k : Nat} {z : Int} (hg : ∀ k, xB (g k)) (hz : xB z) : ∀ j, xB (xup g k z j) := by
  intro j
  unfold xup
  by_cases h : j = k
  · rw [if_pos h]; exact hz
  · rw [if_neg h]; exact hg j
theorem iI_inN {i : Int} {n : Nat} (hn : n ≤ 1000000) (h : 0 ≤ i ∧ i < (n : Int)) : vp_in (iI i) n ∧ (iI i).toNatClampNeg = i.toNat := by
  have hb : xb i := ⟨by omega, by omega⟩
  exact ⟨iI_in hb h.1 h.2, iI_nat hb⟩
theorem okIa {ag : AG σ} {ap : AP σ} (hv : vAg enc bd ag ap) (d : xl_D M pc .iaload 1 pc2) (k : bOk enc bd M rc rs pc2 B) : bOk enc bd M rc rs pc (oIa ag B) := by
  intro Po Pt J hJ L st s hb h
  unfold oIa at h
  split at h
  · next i r st =>
    split at h
    · next n g hz =>
      obtain ⟨hn, hg, e1, -⟩ := hv s r _ _ _ hb hz
      obtain ⟨q1, q2⟩ := iI_inN hn h.1
      refine xl_iald d e1 q1 ?_
      rw [q2]
      exact k Po Pt J hJ _ _ _ hb (h.2 (hg _))
    · exact h.elim
  · exact h.elim
theorem okLa {ag : AG σ} {ap : AP σ} (hv : vAg enc bd ag ap) (d : xl_D M pc .laload 1 pc2) (k : bOk enc bd M rc rs pc2 B) : bOk enc bd M rc rs pc (oLa ag B) := by
  intro Po Pt J hJ L st s hb h
  unfold oLa at h
  split at h
  · next i r st =>
    split at h
    · next n g hz =>
      obtain ⟨hn, hg, e1, -⟩ := hv s r _ _ _ hb hz
      obtain ⟨q1, q2⟩ := iI_inN hn h.1
      refine xl_lald d e1 q1 ?_
      rw [q2]
      exact k Po Pt J hJ _ _ _ hb (h.2 (hg _))
    · exact h.elim
  · exact h.elim
theorem okZa {ag : AG σ} {ap : AP σ} (hv : vAg enc bd ag ap) (d : xl_D M pc .baload 1 pc2) (k : bOk enc bd M rc rs pc2 B) : bOk enc bd M rc rs pc (oZa ag B) := by
  intro Po Pt J hJ L st s hb h
  unfold oZa at h
  split at h
  · next i r st =>
    split at h
    · next n g hz =>
      obtain ⟨hn, hg, e1, -⟩ := hv s r _ _ _ hb hz
      obtain ⟨q1, q2⟩ := iI_inN hn h.1
      refine xl_zald d e1 q1 ?_
      rw [q2]
      exact k Po Pt J hJ _ _ _ hb (h.2 (hg _))
    · exact h.elim
  · exact h.elim
theorem okLen {ag : AG σ} {ap : AP σ} (hv : vAg enc bd ag ap) (d : xl_D M pc .arraylength 1 pc2) (k : bOk enc bd M rc rs pc2 B) : bOk enc bd M rc rs pc (oLen ag B) := by
  intro Po Pt J hJ L st s hb h
  unfold oLen at h
  split at h
  · next r st =>
    split at h
    · next t n g hz =>
      obtain ⟨hn, hg, e1, -⟩ := hv s r _ _ _ hb hz
      have kk := k Po Pt J hJ _ _ _ hb h
      rw [List.map_cons, show pV (.inl (n : Int)) = .int (nI n) by rw [iI_nI]; rfl] at kk
      match t, e1 with
      | 0, e1 => exact xl_alen d e1 (by decide) kk
      | 1, e1 => exact xl_alen d e1 (by decide) kk
      | t + 2, e1 => exact xl_alen (t := 2) d e1 (by decide) kk
    · exact h.elim
  · exact h.elim
theorem okIas {ag : AG σ} {ap : AP σ} (hv : vAg enc bd ag ap) (d : xl_D M pc .iastore 1 pc2) (k : bOk enc bd M rc rs pc2 B) : bOk enc bd M rc rs pc (oIas ag ap B) := by
  intro Po Pt J hJ L st s hb h
  unfold oIas at h
  split at h
  · next v i r st =>
    split at h
    · next n g hz =>
      obtain ⟨hn, hg, e1, e2⟩ := hv s r _ _ _ hb hz
      obtain ⟨q1, q2⟩ := iI_inN hn ⟨h.1.1, h.1.2.1⟩
      obtain ⟨b1, b2⟩ := e2 (xup g i.toNat v) (xup_B hg h.1.2.2)
      have kk := k Po Pt J hJ _ _ _ b1 h.2
      rw [b2] at kk
      refine xl_iast d e1 q1 ?_
      rw [q2, xup_upd]
      exact kk
    · exact h.elim
  · exact h.elim
theorem okLas {ag : AG σ} {ap : AP σ} (hv : vAg enc bd ag ap) (d : xl_D M pc .lastore 1 pc2) (k : bOk enc bd M rc rs pc2 B) : bOk enc bd M rc rs pc (oLas ag ap B) := by
  intro Po Pt J hJ L st s hb h
  unfold oLas at h
  split at h
  · next v i r st =>
    split at h
    · next n g hz =>
      obtain ⟨hn, hg, e1, e2⟩ := hv s r _ _ _ hb hz
      obtain ⟨q1, q2⟩ := iI_inN hn ⟨h.1.1, h.1.2.1⟩
      obtain ⟨b1, b2⟩ := e2 (xup g i.toNat v) (xup_B hg h.1.2.2)
      have kk := k Po Pt J hJ _ _ _ b1 h.2
      rw [b2] at kk
      refine xl_last d e1 q1 ?_
      rw [q2, xup_updL]
      exact kk
    · exact h.elim
  · exact h.elim
theorem okZas {ag : AG σ} {ap : AP σ} (hv : vAg enc bd ag ap) (d : xl_D M pc .bastore 1 pc2) (k : bOk enc bd M rc rs pc2 B) : bOk enc bd M rc rs pc (oZas ag ap B) := by
  intro Po Pt J hJ L st s hb h
  unfold oZas at h
  split at h
  · next v i r st =>
    split at h
    · next n g hz =>
      obtain ⟨hn, hg, e1, e2⟩ := hv s r _ _ _ hb hz
      obtain ⟨q1, q2⟩ := iI_inN hn ⟨h.1.1, h.1.2.1⟩
      obtain ⟨b1, b2⟩ := e2 (xup g i.toNat v) (xup_B hg (by rcases h.1.2.2 with rfl | rfl <;> exact ⟨by omega, by omega⟩))
      have kk := k Po Pt J hJ _ _ _ b1 h.2
      rw [b2] at kk
      refine xl_zast d e1 q1 ?_
      rw [q2, show vp_nar .boolean (iI v) = iI v by rcases h.1.2.2 with rfl | rfl <;> decide, xup_upd]
      exact kk
    · exact h.elim
  · exact h.elim
/-- Math.max, Math.min, System.arraycopy -/
def oMax (B : Blk σ) : Blk σ := fun J L st s => match st with
  | .inl b :: .inl a :: st => bif Nat.ble (pw st) 8 then (xB a ∧ xB b) ∧ B J L (.inl (max a b) :: st) s else False
  | _ => False
def oMin (B : Blk σ) : Blk σ := fun J L st s => match st with
  | .inl b :: .inl a :: st => bif Nat.ble (pw st) 8 then (xB a ∧ xB b) ∧ B J L (.inl (min a b) :: st) s else False
  | _ => False
theorem okMax (d : xl_Cm M pc Lib.Math.max.name Lib.Math.max.code pc2) (k : bOk enc bd M rc rs pc2 B) : bOk enc bd M rc rs pc (oMax B) := by
  intro Po Pt J hJ L st s hb h
  unfold oMax at h
  split at h
  · next b a st =>
    obtain ⟨h1, h2⟩ := condT h
    exact xz_max h2.1.1 h2.1.2 d (by rw [pw_ok]; exact Nat.le_of_ble_eq_true h1) (k Po Pt J hJ _ _ _ hb h2.2)
  · exact h.elim
theorem okMin (d : xl_Cm M pc Lib.Math.min.name Lib.Math.min.code pc2) (k : bOk enc bd M rc rs pc2 B) : bOk enc bd M rc rs pc (oMin B) := by
  intro Po Pt J hJ L st s hb h
  unfold oMin at h
  split at h
  · next b a st =>
    obtain ⟨h1, h2⟩ := condT h
    exact xz_min h2.1.1 h2.1.2 d (by rw [pw_ok]; exact Nat.le_of_ble_eq_true h1) (k Po Pt J hJ _ _ _ hb h2.2)
  · exact h.elim
def oCpy (ag : AG σ) (ap : AP σ) (B : Blk σ) : Blk σ := fun J L st s => match st with
  | .inl n :: .inl q :: .inr (.inr (.inl r1)) :: .inl p :: .inr (.inr (.inl r0)) :: st => match ag s r0 with
    | some (0, n0, f) => match ag s r1 with
      | some (0, n1, g) => bif Nat.ble (pw st) 8 then (0 ≤ p ∧ 0 ≤ q ∧ 0 ≤ n ∧ p + n ≤ (n0 : Int) ∧ q + n ≤ (n1 : Int)) ∧ B J L st (ap s r1 (xcp f g p.toNat q.toNat n.toNat)) else False
      | _ => False
    | _ => False
  | _ => False
theorem xcp_B {f g : Nat → Int} {p q n : Nat} (hf : ∀ k, xB (f k)) (hg : ∀ k, xB (g k)) : ∀ j, xB (xcp f g p q n j) := by
  intro j
  unfold xcp
  split
  · exact hf _
  · exact hg _
theorem okCpy {ag : AG σ} {ap : AP σ} (hv : vAg enc bd ag ap) (d : xl_Cy M pc pc2) (k : bOk enc bd M rc rs pc2 B) : bOk enc bd M rc rs pc (oCpy ag ap B) := by
  intro Po Pt J hJ L st s hb h
  unfold oCpy at h
  split at h
  · next n q r1 p r0 st =>
    split at h
    · next n0 f hz0 =>
      split at h
      · next n1 g hz1 =>
        obtain ⟨h1, h2, h3⟩ := condT h
        obtain ⟨hn0, hf, e0, -⟩ := hv s r0 _ _ _ hb hz0
        obtain ⟨hn1, hg, e1, e2⟩ := hv s r1 _ _ _ hb hz1
        obtain ⟨b1, b2⟩ := e2 _ (xcp_B (p := p.toNat) (q := q.toNat) (n := n.toNat) hf hg)
        have kk := k Po Pt J hJ _ _ _ b1 h3
        rw [b2] at kk
        have xp : xb p := ⟨by omega, by omega⟩
        have xq : xb q := ⟨by omega, by omega⟩
        have xn : xb n := ⟨by omega, by omega⟩
        refine xl_copy d e0 e1 (fun c => by have := (iI_lt0 xp).mp c; omega) (fun c => by have := (iI_lt0 xq).mp c; omega) (fun c => by have := (iI_lt0 xn).mp c; omega) (by rw [iI_nat xp, iI_nat xn]; omega) (by rw [iI_nat xq, iI_nat xn]; omega) (by rw [pw_ok]; exact Nat.le_of_ble_eq_true h1) ?_
        rw [iI_nat xp, iI_nat xq, iI_nat xn, xcp_cpy]
        exact kk
      · exact h.elim
    · exact h.elim
  · exact h.elim
/-- calls: a spec, by the arguments (the receiver first) -/
def cOk (enc : σ → XH) (bd : σ → Prop) (M : XI) (rc rs pc pc2 n : Nat) (sp : Sp σ) : Prop := ∀ (as : List PV) (L : PL) (st : PS) (s : σ) (K : PS → σ → Prop) (Q : Option (Option Value) → XH → Prop), as.length = n → pw st ≤ 8 → bd s → sp as s K → (∀ v s', K v s' → bd s' → xl_W M rc rs pc2 (eL L) ((v ++ st).map pV) (enc s') Q) → xl_W M rc rs pc (eL L) ((as.reverse ++ st).map pV) (enc s) Q

def oC0 (sp : Sp σ) (B : Blk σ) : Blk σ := fun J L st s => match st with
  | st => bif Nat.ble (pw st) 8 then sp [] s (fun v s' => B J L (v ++ st) s') else False
theorem okC0 {sp : Sp σ} (hc : cOk enc bd M rc rs pc pc2 0 sp) (k : bOk enc bd M rc rs pc2 B) : bOk enc bd M rc rs pc (oC0 sp B) := by
  intro Po Pt J hJ L st s hb h
  unfold oC0 at h
  obtain ⟨h1, h2⟩ := condT h
  exact hc [] L st s _ _ rfl (Nat.le_of_ble_eq_true h1) hb h2 (fun v s' q hb' => k Po Pt J hJ _ _ _ hb' q)
def oC1 (sp : Sp σ) (B : Blk σ) : Blk σ := fun J L st s => match st with
  | a0 :: st => bif Nat.ble (pw st) 8 then sp [a0] s (fun v s' => B J L (v ++ st) s') else False
  | _ => False
theorem okC1 {sp : Sp σ} (hc : cOk enc bd M rc rs pc pc2 1 sp) (k : bOk enc bd M rc rs pc2 B) : bOk enc bd M rc rs pc (oC1 sp B) := by
  intro Po Pt J hJ L st s hb h
  unfold oC1 at h
  split at h
  · next a0 st =>
    obtain ⟨h1, h2⟩ := condT h
    exact hc [a0] L st s _ _ rfl (Nat.le_of_ble_eq_true h1) hb h2 (fun v s' q hb' => k Po Pt J hJ _ _ _ hb' q)
  · exact h.elim
def oC2 (sp : Sp σ) (B : Blk σ) : Blk σ := fun J L st s => match st with
  | a1 :: a0 :: st => bif Nat.ble (pw st) 8 then sp [a0, a1] s (fun v s' => B J L (v ++ st) s') else False
  | _ => False
theorem okC2 {sp : Sp σ} (hc : cOk enc bd M rc rs pc pc2 2 sp) (k : bOk enc bd M rc rs pc2 B) : bOk enc bd M rc rs pc (oC2 sp B) := by
  intro Po Pt J hJ L st s hb h
  unfold oC2 at h
  split at h
  · next a1 a0 st =>
    obtain ⟨h1, h2⟩ := condT h
    exact hc [a0, a1] L st s _ _ rfl (Nat.le_of_ble_eq_true h1) hb h2 (fun v s' q hb' => k Po Pt J hJ _ _ _ hb' q)
  · exact h.elim
def oC3 (sp : Sp σ) (B : Blk σ) : Blk σ := fun J L st s => match st with
  | a2 :: a1 :: a0 :: st => bif Nat.ble (pw st) 8 then sp [a0, a1, a2] s (fun v s' => B J L (v ++ st) s') else False
  | _ => False
theorem okC3 {sp : Sp σ} (hc : cOk enc bd M rc rs pc pc2 3 sp) (k : bOk enc bd M rc rs pc2 B) : bOk enc bd M rc rs pc (oC3 sp B) := by
  intro Po Pt J hJ L st s hb h
  unfold oC3 at h
  split at h
  · next a2 a1 a0 st =>
    obtain ⟨h1, h2⟩ := condT h
    exact hc [a0, a1, a2] L st s _ _ rfl (Nat.le_of_ble_eq_true h1) hb h2 (fun v s' q hb' => k Po Pt J hJ _ _ _ hb' q)
  · exact h.elim
def oC4 (sp : Sp σ) (B : Blk σ) : Blk σ := fun J L st s => match st with
  | a3 :: a2 :: a1 :: a0 :: st => bif Nat.ble (pw st) 8 then sp [a0, a1, a2, a3] s (fun v s' => B J L (v ++ st) s') else False
  | _ => False
theorem okC4 {sp : Sp σ} (hc : cOk enc bd M rc rs pc pc2 4 sp) (k : bOk enc bd M rc rs pc2 B) : bOk enc bd M rc rs pc (oC4 sp B) := by
  intro Po Pt J hJ L st s hb h
  unfold oC4 at h
  split at h
  · next a3 a2 a1 a0 st =>
    obtain ⟨h1, h2⟩ := condT h
    exact hc [a0, a1, a2, a3] L st s _ _ rfl (Nat.le_of_ble_eq_true h1) hb h2 (fun v s' q hb' => k Po Pt J hJ _ _ _ hb' q)
  · exact h.elim
def oC5 (sp : Sp σ) (B : Blk σ) : Blk σ := fun J L st s => match st with
  | a4 :: a3 :: a2 :: a1 :: a0 :: st => bif Nat.ble (pw st) 8 then sp [a0, a1, a2, a3, a4] s (fun v s' => B J L (v ++ st) s') else False
  | _ => False
theorem okC5 {sp : Sp σ} (hc : cOk enc bd M rc rs pc pc2 5 sp) (k : bOk enc bd M rc rs pc2 B) : bOk enc bd M rc rs pc (oC5 sp B) := by
  intro Po Pt J hJ L st s hb h
  unfold oC5 at h
  split at h
  · next a4 a3 a2 a1 a0 st =>
    obtain ⟨h1, h2⟩ := condT h
    exact hc [a0, a1, a2, a3, a4] L st s _ _ rfl (Nat.le_of_ble_eq_true h1) hb h2 (fun v s' q hb' => k Po Pt J hJ _ _ _ hb' q)
  · exact h.elim
def oC6 (sp : Sp σ) (B : Blk σ) : Blk σ := fun J L st s => match st with
  | a5 :: a4 :: a3 :: a2 :: a1 :: a0 :: st => bif Nat.ble (pw st) 8 then sp [a0, a1, a2, a3, a4, a5] s (fun v s' => B J L (v ++ st) s') else False
  | _ => False
theorem okC6 {sp : Sp σ} (hc : cOk enc bd M rc rs pc pc2 6 sp) (k : bOk enc bd M rc rs pc2 B) : bOk enc bd M rc rs pc (oC6 sp B) := by
  intro Po Pt J hJ L st s hb h
  unfold oC6 at h
  split at h
  · next a5 a4 a3 a2 a1 a0 st =>
    obtain ⟨h1, h2⟩ := condT h
    exact hc [a0, a1, a2, a3, a4, a5] L st s _ _ rfl (Nat.le_of_ble_eq_true h1) hb h2 (fun v s' q hb' => k Po Pt J hJ _ _ _ hb' q)
  · exact h.elim
def oC7 (sp : Sp σ) (B : Blk σ) : Blk σ := fun J L st s => match st with
  | a6 :: a5 :: a4 :: a3 :: a2 :: a1 :: a0 :: st => bif Nat.ble (pw st) 8 then sp [a0, a1, a2, a3, a4, a5, a6] s (fun v s' => B J L (v ++ st) s') else False
  | _ => False
theorem okC7 {sp : Sp σ} (hc : cOk enc bd M rc rs pc pc2 7 sp) (k : bOk enc bd M rc rs pc2 B) : bOk enc bd M rc rs pc (oC7 sp B) := by
  intro Po Pt J hJ L st s hb h
  unfold oC7 at h
  split at h
  · next a6 a5 a4 a3 a2 a1 a0 st =>
    obtain ⟨h1, h2⟩ := condT h
    exact hc [a0, a1, a2, a3, a4, a5, a6] L st s _ _ rfl (Nat.le_of_ble_eq_true h1) hb h2 (fun v s' q hb' => k Po Pt J hJ _ _ _ hb' q)
  · exact h.elim
def oC8 (sp : Sp σ) (B : Blk σ) : Blk σ := fun J L st s => match st with
  | a7 :: a6 :: a5 :: a4 :: a3 :: a2 :: a1 :: a0 :: st => bif Nat.ble (pw st) 8 then sp [a0, a1, a2, a3, a4, a5, a6, a7] s (fun v s' => B J L (v ++ st) s') else False
  | _ => False
theorem okC8 {sp : Sp σ} (hc : cOk enc bd M rc rs pc pc2 8 sp) (k : bOk enc bd M rc rs pc2 B) : bOk enc bd M rc rs pc (oC8 sp B) := by
  intro Po Pt J hJ L st s hb h
  unfold oC8 at h
  split at h
  · next a7 a6 a5 a4 a3 a2 a1 a0 st =>
    obtain ⟨h1, h2⟩ := condT h
    exact hc [a0, a1, a2, a3, a4, a5, a6, a7] L st s _ _ rfl (Nat.le_of_ble_eq_true h1) hb h2 (fun v s' q hb' => k Po Pt J hJ _ _ _ hb' q)
  · exact h.elim
/-- the table of blocks -/
theorem tNode {A C : Nat → Blk σ} {c : Nat} (ha : ∀ pc, bOk enc bd M rc rs pc (A pc)) (hc : ∀ pc, bOk enc bd M rc rs pc (C pc)) : ∀ pc, bOk enc bd M rc rs pc (bif Nat.blt pc c then A pc else C pc) := by
  intro pc
  cases Nat.blt pc c with
  | true => exact ha pc
  | false => exact hc pc
def oNo : Blk σ := fun _ _ _ _ => False
theorem tLeaf {c : Nat} (ha : bOk enc bd M rc rs c B) : ∀ pc, bOk enc bd M rc rs pc (bif Nat.beq pc c then B else oNo) := by
  intro pc
  cases e : Nat.beq pc c with
  | true => rw [Nat.eq_of_beq_eq_true e]; exact ha
  | false => intro Po Pt J hJ L st s hb h; exact h.elim
theorem wp_ok {T : Nat → Blk σ} {cut : List Nat} {Po : PS → σ → Prop} {Pt : σ → Prop} (hT : ∀ pc, bOk enc bd M rc rs pc (T pc)) : ∀ (n pc : Nat) (L : PL) (st : PS) (s : σ), wp T cut (wX enc bd M rc rs Po Pt) n pc L st s → wX enc bd M rc rs Po Pt pc L st s
  | 0, pc, L, st, s, h => h
  | n + 1, pc, L, st, s, h => by
    unfold wp at h
    cases e1 : Nat.ble 1000000 pc with
    | true => rw [e1] at h; exact h
    | false =>
      rw [e1] at h
      cases e2 : pIn cut pc with
      | true => rw [e2] at h; exact h
      | false =>
        rw [e2] at h
        have hlt : pc < 1000000 := by
          cases Nat.lt_or_ge pc 1000000 with
          | inl q => exact q
          | inr q => rw [Nat.ble_eq_true_of_le q] at e1; cases e1
        rw [wX_lt hlt]
        intro hb
        exact hT pc Po Pt _ (fun pc L st s q => wp_ok hT n pc L st s q) L st s hb h
/-- from a place of the code on -/
theorem wx_go {T : Nat → Blk σ} (cut : List Nat) (n : Nat) {Po : PS → σ → Prop} {Pt : σ → Prop} {pc : Nat} {L : PL} {st : PS} {s : σ} (hT : ∀ pc, bOk enc bd M rc rs pc (T pc)) (hlt : Nat.blt pc 1000000 = true) (h : T pc (wp T cut (wX enc bd M rc rs Po Pt) n) L st s) : wX enc bd M rc rs Po Pt pc L st s := by
  rw [wX_lt (Nat.le_of_ble_eq_true hlt)]
  intro hb
  exact hT pc Po Pt _ (fun pc L st s q => wp_ok hT n pc L st s q) L st s hb h
/-- a method's contract: the spec by its arguments -/
def mOk (enc : σ → XH) (bd : σ → Prop) (μ : XI) (sp : Sp σ) : Prop := ∀ as s K, bd s → sp as s K → xl_C μ 0 0 (as.map pV) (enc s) (fun v h' => ∃ (v' : PS) (s' : σ), v.toList = v'.map pV ∧ h' = enc s' ∧ bd s' ∧ (∀ a, v ≠ some (.ref a)) ∧ K v' s')
def pe : List PV → Nat → PL
  | [], n => List.replicate n none
  | .inr (.inl z) :: vs, n => some (.inr (.inl z)) :: none :: pe vs (n - 2)
  | v :: vs, n => some v :: pe vs (n - 1)
theorem pe_ok : ∀ (as : List PV) (n : Nat), xl_e (as.map pV) n = eL (pe as n)
  | [], n => by simp [xl_e, pe, eL]
  | v :: vs, n => by
    rcases v with z | z | r | j
    · simp only [List.map_cons, xl_e, pe, pV, xl_1, if_true, pe_ok vs (n - 1)]; rfl
    · simp only [List.map_cons, xl_e, pe, pV, xl_1, pe_ok vs (n - 2)]; rfl
    · simp only [List.map_cons, xl_e, pe, pV, xl_1, if_true, pe_ok vs (n - 1)]; rfl
    · simp only [List.map_cons, xl_e, pe, pV, xl_1, if_true, pe_ok vs (n - 1)]; rfl
theorem pz_ok : ∀ (as : List PV), xl_z (as.map pV) = pw as
  | [] => rfl
  | v :: vs => by
    rcases v with z | z | r | j <;> simp only [List.map_cons, xl_z, pz_ok vs] <;> rfl
/-- a contract out of the walk -/
theorem mOk_of {μ : XI} {sp : Sp σ} (hk : xl_K μ) (h : ∀ as s K, sp as s K → Nat.ble (pw as) μ.2.2.1 = true ∧ (bd s → wX enc bd μ 0 0 K (fun _ => False) 0 (pe as μ.2.2.1) [] s)) : mOk enc bd μ sp := by
  intro as s K hb hs
  obtain ⟨h1, h2⟩ := h as s K hs
  have h2 := h2 hb
  rw [wX_lt (by decide)] at h2
  refine xl_con hk _ (pe_ok as _) (by rw [pz_ok]; exact Nat.le_of_ble_eq_true h1) ?_
  have e : (fun (v : Option (Option Value)) (h' : XH) => ∃ w, v = some w ∧ ∃ (v' : PS) (s' : σ), w.toList = v'.map pV ∧ h' = enc s' ∧ bd s' ∧ (∀ a, w ≠ some (.ref a)) ∧ K v' s') = wQ enc bd K (fun _ => False) := by
    funext v h'
    cases v with
    | none => apply propext; constructor
              · rintro ⟨w, e, -⟩; cases e
              · rintro ⟨s', -, -, e⟩; exact e.elim
    | some w => apply propext; constructor
                · rintro ⟨w', e, q⟩; cases e; exact q
                · intro q; exact ⟨w, rfl, q⟩
  rw [e]
  exact h2 hb
end OPS

