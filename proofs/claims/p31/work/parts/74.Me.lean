/-! ===== the model: batch ===== -/
def baE (s : MS) (g k : Int) : Int := if k = s.1 19 - 1 then 1 else if wI (mT s (k + 1) - mT s k) ≤ g then 0 else 1
def baMs (ms su an e : Int) : Int := if e = 1 ∧ (an = 0 ∨ ms < su) then su else ms
def baAn (an e : Int) : Int := if an = 1 ∨ e = 1 then 1 else 0
theorem X3_batch_e {K : KM} {Pt : MS → Prop} (g mc ms ho co su an k b e : Int) (s : MS) (hmc : xB mc) (hco : xB co) (hms : xB ms) (hsu : xB su) (hb : b = 0 ∨ b = 1) (he : e = 0 ∨ e = 1) (ha : an = 0 ∨ an = 1) (h : wX encM bdM mX3_batch 0 0 K Pt 46 [some (pR 0), none, some (pI g), some (pI (max mc co)), some (pI (baMs ms su an e)), some (pI ho), some (pI co), some (pI su), some (pI (baAn an e)), some (pI (k + 1)), none, none] [] s) : wX encM bdM mX3_batch 0 0 K Pt 206 [some (pR 0), none, some (pI g), some (pI mc), some (pI ms), some (pI ho), some (pI co), some (pI su), some (pI an), some (pI k), some (pI b), none] [pI e] s := by
  refine wx_J [46, 86, 206] 9 tX3_batch_ok rfl (fun J hR hJ => ?_)
  unfold baMs baAn at h
  refine ⟨⟨hmc, hco⟩, ⟨by omega, by omega⟩, fun q => ?_, fun q => ?_⟩
  · rw [if_neg (by omega)] at h
    refine ⟨⟨by omega, by omega⟩, fun q2 => ?_, fun q2 => ?_⟩
    · rw [if_pos (by omega)] at h
      exact hJ _ _ _ _ h
    · rw [if_neg (by omega)] at h
      exact ⟨⟨by omega, by omega⟩, fun _ => hJ _ _ _ _ h, fun q3 => absurd q q3⟩
  · refine ⟨⟨by omega, by omega⟩, fun q2 => ?_, fun q2 => ⟨⟨hsu, hms⟩, fun q3 => ?_, fun q3 => ?_⟩⟩
    · rw [if_pos ⟨by omega, Or.inl q2⟩, if_pos (by omega)] at h
      exact ⟨⟨by omega, by omega⟩, fun q3 => absurd q2 q3, fun _ => ⟨⟨by omega, by omega⟩, fun q3 => absurd q3 q, fun _ => hJ _ _ _ _ h⟩⟩
    · rw [if_neg (by omega), if_pos (by omega)] at h
      exact ⟨⟨by omega, by omega⟩, fun _ => hJ _ _ _ _ h, fun q3 => absurd q3 q2⟩
    · rw [if_pos ⟨by omega, Or.inr q3⟩, if_pos (by omega)] at h
      exact ⟨⟨by omega, by omega⟩, fun _ => hJ _ _ _ _ h, fun q3 => absurd q3 q2⟩
def baHo (s : MS) (ho k b : Int) : Int := if b = 1 ∧ 0 < k then max ho (wI (mT s k - mT s (k - 1))) else ho
def baCo (co b : Int) : Int := if b = 1 then 1 else wI (co + 1)
def baSu (s : MS) (su k b : Int) : Int := if b = 1 then mV s k else wI (su + mV s k)
theorem X3_batch_b {K : KM} {Pt : MS → Prop} (g mc ms ho co su an k b : Int) (s : MS) (hg : xB g) (hho : xB ho) (hb : b = 0 ∨ b = 1) (hk : 0 ≤ k ∧ k < s.1 19) (ht : s.1 19 ≤ 160) (h : xB (baSu s su k b) → xB (baCo co b) → wX encM bdM mX3_batch 0 0 K Pt 206 [some (pR 0), none, some (pI g), some (pI mc), some (pI ms), some (pI (baHo s ho k b)), some (pI (baCo co b)), some (pI (baSu s su k b)), some (pI an), some (pI k), some (pI b), none] [pI (baE s g k)] s) : wX encM bdM mX3_batch 0 0 K Pt 86 [some (pR 0), none, some (pI g), some (pI mc), some (pI ms), some (pI ho), some (pI co), some (pI su), some (pI an), some (pI k), none, none] [pI b] s := by
  have x1 : xB 1 := ⟨by omega, by omega⟩
  refine wx_J [46, 86, 167, 206] 9 tX3_batch_ok rfl (fun J hR hJ => ?_)
  have z : ∀ (ho co su b : Int), wX encM bdM mX3_batch 0 0 K Pt 206 [some (pR 0), none, some (pI g), some (pI mc), some (pI ms), some (pI ho), some (pI co), some (pI su), some (pI an), some (pI k), some (pI b), none] [pI (baE s g k)] s → ∀ su0, wX encM bdM mX3_batch 0 0 K Pt 167 [some (pR 0), none, some (pI g), some (pI mc), some (pI ms), some (pI ho), some (pI co), some (pI su0), some (pI an), some (pI k), some (pI b), none] [pI su] s := by
    intro ho co su b y su0
    refine wx_J [46, 86, 206] 9 tX3_batch_ok rfl (fun J hR hJ => ?_)
    unfold baE at y
    refine fun hx => ⟨⟨⟨by omega, by omega⟩, ⟨by omega, by omega⟩⟩, fun q => ?_, fun q => ?_⟩
    · rw [if_pos q] at y
      exact hJ _ _ _ _ y
    · rw [if_neg q] at y
      refine ⟨⟨by omega, by omega⟩, fun b1 => ⟨⟨by omega, by omega⟩, fun b2 hw => ⟨⟨hw, hg⟩, fun q2 => ?_, fun q2 => ?_⟩⟩⟩
      · rw [if_pos q2] at y
        exact hJ _ _ _ _ y
      · rw [if_neg (Int.not_le.mpr q2)] at y
        exact hJ _ _ _ _ y
  rcases hb with hb | hb
  · subst hb
    refine ⟨⟨by omega, by omega⟩, fun _ => ⟨⟨by omega, by omega⟩, fun _ => ?_, fun q => absurd rfl q⟩, fun q => absurd rfl q⟩
    exact fun c1 => ⟨⟨by omega, by omega⟩, fun _ => ⟨⟨by omega, by omega⟩, fun _ c2 => hJ _ _ _ _ (z _ _ _ _ (h c2 c1) _)⟩, fun q => absurd rfl q⟩
  · subst hb
    refine ⟨⟨by omega, by omega⟩, fun q => absurd q (by omega), fun _ => ⟨⟨by omega, by omega⟩, fun q => ?_, fun q => ?_⟩⟩
    · have e : baHo s ho k 1 = ho := if_neg (by omega)
      rw [e] at h
      exact ⟨⟨by omega, by omega⟩, fun q => absurd q (by omega), fun _ => ⟨⟨by omega, by omega⟩, fun q => absurd q (by omega), fun _ => ⟨⟨by omega, by omega⟩, fun c2 => hJ _ _ _ _ (z _ _ _ _ (h c2 x1) _)⟩⟩⟩
    · have e : baHo s ho k 1 = max ho (wI (mT s k - mT s (k - 1))) := if_pos ⟨rfl, q⟩
      rw [e] at h
      exact ⟨⟨by omega, by omega⟩, fun b1 => ⟨⟨by omega, by omega⟩, fun b2 hw => ⟨⟨hho, hw⟩, ⟨by omega, by omega⟩, fun q => absurd q (by omega), fun _ => ⟨⟨by omega, by omega⟩, fun q => absurd q (by omega), fun _ => ⟨⟨by omega, by omega⟩, fun c2 => hJ _ _ _ _ (z _ _ _ _ (h c2 x1) _)⟩⟩⟩⟩⟩
