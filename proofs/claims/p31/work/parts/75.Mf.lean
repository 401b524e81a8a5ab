/-! ===== the model: batch, whole ===== -/
def baS (s : MS) (mc ms ho : Int) : MS := mEn (mEn (mEn (mS s 1 0) mc) ms) ho
def baF (s : MS) (g mc ms ho : Int) : Int × MS := (fiN (baS s mc ms ho) g 160 0 0, baS s mc ms ho)
def baN (s : MS) (g : Int) : Nat → Int → Int → Int → Int → Int → Int → Int → Int × MS
  | 0, _, mc, ms, ho, _, _, _ => baF s g mc ms ho
  | m + 1, k, mc, ms, ho, co, su, an => if s.1 19 ≤ k then baF s g mc ms ho else baN s g m (k + 1) (max mc (baCo co (fiB s g k))) (baMs ms (baSu s su k (fiB s g k)) an (baE s g k)) (baHo s ho k (fiB s g k)) (baCo co (fiB s g k)) (baSu s su k (fiB s g k)) (baAn an (baE s g k))
theorem xB_max {a b : Int} (h1 : xB a) (h2 : xB b) : xB (max a b) := by
  rw [Int.max_def]
  split
  · exact h2
  · exact h1
theorem X3_batch_l {K : KM} {Pt : MS → Prop} (g : Int) (s : MS) (hg : xB g) (ht : s.1 19 ≤ 160) : ∀ (m : Nat) (k mc ms ho co su an : Int), 0 ≤ k → k + m = 160 → xB mc → xB ms → xB ho → xB co → xB su → (an = 0 ∨ an = 1) → K [pI (baN s g m k mc ms ho co su an).1] (baN s g m k mc ms ho co su an).2 → wX encM bdM mX3_batch 0 0 K Pt 46 [some (pR 0), none, some (pI g), some (pI mc), some (pI ms), some (pI ho), some (pI co), some (pI su), some (pI an), some (pI k), none, none] [] s := by
  have fin : ∀ (k mc ms ho co su an : Int), 0 ≤ k → k ≤ 160 → s.1 19 ≤ k → xB mc → xB ms → xB ho → K [pI (baF s g mc ms ho).1] (baF s g mc ms ho).2 → wX encM bdM mX3_batch 0 0 K Pt 46 [some (pR 0), none, some (pI g), some (pI mc), some (pI ms), some (pI ho), some (pI co), some (pI su), some (pI an), some (pI k), none, none] [] s := by
    intro k mc ms ho co su an h0 h1 hk hmc hms hho hK
    refine wx_J [46, 86, 206] 9 tX3_batch_ok rfl (fun J hR hJ => ?_)
    exact fun hx => ⟨⟨⟨by omega, by omega⟩, hx⟩, fun _ => ⟨⟨by omega, by omega⟩, hmc, ⟨hmc, by show (0 : Int) ≤ 0; omega, by show (0 : Int) < 16; omega⟩, hms, ⟨hms, by show (0 : Int) ≤ 0 + 1; omega, by show (0 : Int) + 1 < 16; omega⟩, hho, ⟨hho, by show (0 : Int) ≤ 0 + 1 + 1; omega, by show (0 : Int) + 1 + 1 < 16; omega⟩, ⟨hg, ht⟩, hR _ _ hK⟩, fun q => absurd q (Int.not_lt.mpr hk)⟩
  intro m
  induction m with
  | zero =>
    intro k mc ms ho co su an h0 h1 hmc hms hho hco hsu ha hK
    exact fin k mc ms ho co su an h0 (by omega) (by omega) hmc hms hho hK
  | succ m ih =>
    intro k mc ms ho co su an h0 h1 hmc hms hho hco hsu ha hK
    unfold baN at hK
    by_cases c : s.1 19 ≤ k
    · rw [if_pos c] at hK
      exact fin k mc ms ho co su an h0 (by omega) c hmc hms hho hK
    · rw [if_neg c] at hK
      have hE : baE s g k = 0 ∨ baE s g k = 1 := by
        unfold baE
        split
        · exact Or.inr rfl
        · split
          · exact Or.inl rfl
          · exact Or.inr rfl
      have hA : baAn an (baE s g k) = 0 ∨ baAn an (baE s g k) = 1 := by
        unfold baAn
        split
        · exact Or.inr rfl
        · exact Or.inl rfl
      have hF : fiB s g k = 0 ∨ fiB s g k = 1 := by
        unfold fiB
        split
        · exact Or.inr rfl
        · split
          · exact Or.inl rfl
          · exact Or.inr rfl
      have st : wX encM bdM mX3_batch 0 0 K Pt 86 [some (pR 0), none, some (pI g), some (pI mc), some (pI ms), some (pI ho), some (pI co), some (pI su), some (pI an), some (pI k), none, none] [pI (fiB s g k)] s := by
        refine X3_batch_b g mc ms ho co su an k (fiB s g k) s hg hho hF ⟨h0, by omega⟩ ht (fun hs hc => ?_)
        have hM : xB (baMs ms (baSu s su k (fiB s g k)) an (baE s g k)) := by
          unfold baMs
          split
          · exact hs
          · exact hms
        have hH : xB (baHo s ho k (fiB s g k)) := by
          unfold baHo
          split
          · exact xB_max hho (wI_B _)
          · exact hho
        exact X3_batch_e g mc ms _ _ _ an k _ _ s hmc hc hms hs hF hE ha (ih (k + 1) _ _ _ _ _ _ (by omega) (by omega) (xB_max hmc hc) hM hH hc hs hA hK)
      refine wx_J [46, 86, 206] 9 tX3_batch_ok rfl (fun J hR hJ => ?_)
      have st := hJ _ _ _ _ st
      unfold fiB at st
      refine fun hx => ⟨⟨⟨by omega, by omega⟩, hx⟩, fun q => absurd q c, fun _ => ⟨⟨by omega, by omega⟩, fun q => ?_, fun q => ?_⟩⟩
      · rw [if_pos q] at st
        exact st
      · rw [if_neg q] at st
        refine ⟨⟨by omega, by omega⟩, fun b1 => ⟨⟨by omega, by omega⟩, fun b2 hw => ⟨⟨hw, hg⟩, fun q2 => ?_, fun q2 => ?_⟩⟩⟩
        · rw [if_pos q2] at st
          exact st
        · rw [if_neg (Int.not_le.mpr q2)] at st
          exact st
def gBa (s : MS) : Int × MS := baN s (mg s (0 * 2804 + 1)) 160 0 (-1) (-1) (-1) 0 0 0
def sX3_batch : Int → MS → KM → Prop := fun key s K => (xB key ∧ nIn s ≤ 160) ∧ (¬ (0 ≤ key ∧ key < 6) → K [pI (-1)] (mS s 0 0)) ∧ ((0 ≤ key ∧ key < 6) → K [pI (gBa (gLt (mS s 0 0) key)).1] (gBa (gLt (mS s 0 0) key)).2)
theorem mX3_batch_ok : mOk encM bdM mX3_batch (atR 0 (a1 sX3_batch)) := by
  refine mOVa1 kX3_batch (fun _ => rfl) (fun key s K h hb => wx_J [46, 86, 206] 9 tX3_batch_ok rfl (fun J hR hJ => ?_))
  obtain ⟨⟨h1, h3⟩, p1, p2⟩ := h
  have x0 : xB 0 := ⟨by omega, by omega⟩
  have x1 : xB (-1) := ⟨by omega, by omega⟩
  refine ⟨⟨by omega, by omega⟩, ⟨h1, fun e => ?_, fun e => ?_⟩⟩
  · exact ⟨⟨by omega, by omega⟩, fun _ => ⟨⟨h1, h3⟩, ⟨by omega, by omega⟩, fun hx => hJ _ _ _ _ (X3_batch_l _ (gLt (mS s 0 0) key) hx (gLt_19 (mS s 0 0) key).2 160 0 (-1) (-1) (-1) 0 0 0 (by omega) (by omega) x1 x1 x1 x0 x0 (Or.inl rfl) (p2 e))⟩, fun q => absurd q (by omega)⟩
  · exact ⟨⟨by omega, by omega⟩, fun q => absurd rfl q, fun _ => hR _ _ (p1 e)⟩
