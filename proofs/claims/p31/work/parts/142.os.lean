/-! ===== ops of String constants ===== -/
section OS
variable {σ : Type} {enc : σ → XH} {bd : σ → Prop} {M : XI} {rc rs pc pc2 : Nat} {B : Blk σ}
theorem okS {j : Nat} (hj : j < 9) (hc : (xl_sc j).1 = M.1.cls) (d : xl_D M pc (.ldc (xl_sc j).2.1) 2 pc2) (k : bOk enc bd M rc rs pc2 B) : bOk enc bd M rc rs pc (oS j B) := fun Po Pt J hJ _ _ _ hb h => xl_ldcS hj hc d (k Po Pt J hJ _ _ _ hb h)
theorem okSw {j : Nat} (hj : j < 9) (hc : (xl_sc j).1 = M.1.cls) (d : xl_D M pc (.ldc_w (xl_sc j).2.1) 3 pc2) (k : bOk enc bd M rc rs pc2 B) : bOk enc bd M rc rs pc (oS j B) := fun Po Pt J hJ _ _ _ hb h => xl_ldcSw hj hc d (k Po Pt J hJ _ _ _ hb h)
def slI (j : Nat) : Int := ((xl_sl.getD j 0 : Nat) : Int)
def sbI (j : Nat) (k : Int) : Int := (xs_ch j k.toNat).toInt
def oStrLength (B : Blk σ) : Blk σ := fun J L st s => match st with
  | .inr (.inr (.inr j)) :: st => bif Nat.ble (pw st) 8 then j < 9 ∧ B J L (.inl (slI j) :: st) s else False
  | _ => False
def oStrIsempty (B : Blk σ) : Blk σ := fun J L st s => match st with
  | .inr (.inr (.inr j)) :: st => bif Nat.ble (pw st) 8 then j < 9 ∧ B J L (.inl (if slI j = 0 then 1 else 0) :: st) s else False
  | _ => False
def oStrCharat (B : Blk σ) : Blk σ := fun J L st s => match st with
  | .inl k :: .inr (.inr (.inr j)) :: st => bif Nat.ble (pw st) 8 then (j < 9 ∧ 0 ≤ k ∧ k < slI j) ∧ B J L (.inl (sbI j k) :: st) s else False
  | _ => False
theorem okStrLength (d : xl_Ca M pc mJ0_length_8abf5 pc2) (k : bOk enc bd M rc rs pc2 B) : bOk enc bd M rc rs pc (oStrLength B) := by
  intro Po Pt J hJ L st s hb h
  unfold oStrLength at h
  split at h
  · next j st =>
    obtain ⟨h1, h2, h3⟩ := condT h
    refine xl_callK (As := []) h2 d vJ0_length_8abf5 rfl rfl rfl (by rw [pw_ok]; exact Nat.le_of_ble_eq_true h1) (xs_length h2) (fun v h' q => ⟨q.2, fun a => by rw [q.1]; exact fun e => by cases e⟩) (fun v q => ?_)
    rw [q.1, show Int32.ofNat (xl_sl.getD j 0) = iI (slI j) by simp [iI, slI, Int32.ofInt_eq_ofNat]]
    exact k Po Pt J hJ _ _ _ hb h3
  · exact h.elim
theorem okStrIsempty (d : xl_Ca M pc mJ0_isEmpty_aae02 pc2) (k : bOk enc bd M rc rs pc2 B) : bOk enc bd M rc rs pc (oStrIsempty B) := by
  intro Po Pt J hJ L st s hb h
  unfold oStrIsempty at h
  split at h
  · next j st =>
    obtain ⟨h1, h2, h3⟩ := condT h
    refine xl_callK (As := []) h2 d vJ0_isEmpty_aae02 rfl rfl rfl (by rw [pw_ok]; exact Nat.le_of_ble_eq_true h1) (xs_empty h2) (fun v h' q => ⟨q.2, fun a => by rw [q.1]; exact fun e => by cases e⟩) (fun v q => ?_)
    have e : (if xl_sl.getD j 0 = 0 then (1 : Int32) else 0) = iI (if slI j = 0 then 1 else 0) := by
      have h0 : slI j = 0 ↔ xl_sl.getD j 0 = 0 := by unfold slI; omega
      by_cases hz : xl_sl.getD j 0 = 0
      · rw [if_pos hz, if_pos (h0.mpr hz)]; rfl
      · rw [if_neg hz, if_neg (fun q => hz (h0.mp q))]; rfl
    rw [q.1, e]
    exact k Po Pt J hJ _ _ _ hb h3
  · exact h.elim
theorem okStrCharat (d : xl_Ca M pc mJ0_charAt_5068e pc2) (k : bOk enc bd M rc rs pc2 B) : bOk enc bd M rc rs pc (oStrCharat B) := by
  intro Po Pt J hJ L st s hb h
  unfold oStrCharat at h
  split at h
  · next z j st =>
    obtain ⟨h1, ⟨h2, h4, h5⟩, h3⟩ := condT h
    have hz : z.toNat < xl_sl.getD j 0 := by unfold slI at h5; omega
    have ez : Int32.ofNat z.toNat = iI z := by
      obtain ⟨n, rfl⟩ := Int.eq_ofNat_of_zero_le h4
      simp [iI, Int32.ofInt_eq_ofNat]
    have hc := xs_char h2 hz
    rw [ez] at hc
    refine xl_callK (As := [.int (iI z)]) h2 d vJ0_charAt_5068e rfl rfl rfl (by rw [pw_ok]; exact Nat.le_of_ble_eq_true h1) hc (fun v h' q => ⟨q.2, fun a => by rw [q.1]; exact fun e => by cases e⟩) (fun v q => ?_)
    rw [q.1, show xs_ch j z.toNat = iI (sbI j z) from (iI_of _).symm]
    exact k Po Pt J hJ _ _ _ hb h3
  · exact h.elim
end OS
