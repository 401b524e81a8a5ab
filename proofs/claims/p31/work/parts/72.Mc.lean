/-! ===== the model: laysTimes ===== -/
def ltS (s : MS) (k : Int) : MS := mA (mA s 9 (xup (s.2 9) k.toNat (mT s (k - 1)))) 10 (xup (s.2 10) k.toNat (mV s (k - 1)))
theorem ltS_mg (s : MS) (k a : Int) : mg (ltS s k) a = mg s a := rfl
/-- where the next of them goes in, and the others moved up -/
def ltW (t : Int) : Nat → Int → MS → Int × MS
  | 0, k, s => (k, s)
  | m + 1, k, s => if 0 < k ∧ t < mT s (k - 1) then ltW t m (k - 1) (ltS s k) else (k, s)
theorem ltW_mg (t : Int) : ∀ (m : Nat) (k : Int) (s : MS) (a : Int), mg (ltW t m k s).2 a = mg s a ∧ (ltW t m k s).2.1 = s.1 := by
  intro m
  induction m with
  | zero => exact fun k s a => ⟨rfl, rfl⟩
  | succ m ih =>
    intro k s a
    unfold ltW
    split
    · exact ih (k - 1) (ltS s k) a
    · exact ⟨rfl, rfl⟩
theorem X3_laysTimes_w {K : KM} {Pt : MS → Prop} (key i : Int) (h0 : 0 ≤ i) (h1 : i < 160) : ∀ (m : Nat) (k : Int) (s : MS), k = m → k < 160 → wX encM bdM mX3_laysTimes 0 0 K Pt 109 [some (pR 0), some (pI key), some (pI i), some (pI (ltW (iC s i 2) m k s).1)] [] (ltW (iC s i 2) m k s).2 → wX encM bdM mX3_laysTimes 0 0 K Pt 54 [some (pR 0), some (pI key), some (pI i), some (pI k)] [] s := by
  intro m
  induction m with
  | zero =>
    intro k s hk hk2 h
    refine wx_J [7, 54, 109] 9 tX3_laysTimes_ok rfl (fun J hR hJ => ?_)
    exact ⟨⟨by omega, by omega⟩, fun _ => hJ _ _ _ _ h, fun q => absurd q (by omega)⟩
  | succ m ih =>
    intro k s hk hk2 h
    unfold ltW at h
    refine wx_J [7, 54, 109] 9 tX3_laysTimes_ok rfl (fun J hR hJ => ?_)
    refine ⟨⟨by omega, by omega⟩, fun q => absurd q (by omega), fun q => ⟨⟨by omega, by omega⟩, fun b1 => ⟨⟨by omega, by omega⟩, fun b2 => ⟨⟨b1, b2⟩, fun q2 => ?_, fun q2 => ?_⟩⟩⟩⟩
    · rw [if_neg (fun w => absurd w.2 (Int.not_lt.mpr q2))] at h
      exact hJ _ _ _ _ h
    · rw [if_pos ⟨q, q2⟩] at h
      have g := ih (k - 1) (ltS s k) (by omega) (by omega) h
      exact ⟨⟨by omega, by omega⟩, fun b3 => ⟨⟨by omega, by omega, b3⟩, ⟨by omega, by omega⟩, fun b4 => ⟨⟨by omega, by omega, b4⟩, hJ _ _ _ _ g⟩⟩⟩
def ltP (s q : MS) (i k : Int) : MS := mS (mA (mA q 9 (xup (q.2 9) k.toNat (iC q i 2))) 10 (xup (q.2 10) k.toNat (iC q i 4))) 19 (s.1 19 + 1)
def ltI (s : MS) (i : Int) : MS := ltP s (ltW (iC s i 2) (s.1 19).toNat (s.1 19) s).2 i (ltW (iC s i 2) (s.1 19).toNat (s.1 19) s).1
def ltO (key : Int) : Nat → Int → MS → MS
  | 0, _, s => s
  | m + 1, i, s => if nIn s ≤ i then s else ltO key m (i + 1) (if iC s i 0 = 0 ∧ iC s i 3 = key ∧ iC s i 5 ≠ 0 then ltI s i else s)
theorem ltI_mg (s : MS) (i a : Int) : mg (ltI s i) a = mg s a := (ltW_mg (iC s i 2) (s.1 19).toNat (s.1 19) s a).1
theorem ltW_k (t : Int) : ∀ (m : Nat) (k : Int) (s : MS), 0 ≤ k → 0 ≤ (ltW t m k s).1 ∧ (ltW t m k s).1 ≤ k := by
  intro m
  induction m with
  | zero => exact fun k s h => ⟨h, Int.le_refl _⟩
  | succ m ih =>
    intro k s h
    unfold ltW
    split
    · next c =>
      have g := ih (k - 1) (ltS s k) (by omega)
      exact ⟨g.1, by omega⟩
    · exact ⟨h, Int.le_refl _⟩
theorem X3_laysTimes_p {K : KM} {Pt : MS → Prop} (key i k : Int) (s q : MS) (hs : q.1 19 = s.1 19) (h0 : 0 ≤ i) (h1 : i < 160) (hk : 0 ≤ k ∧ k < 160) (ht : 0 ≤ s.1 19 ∧ s.1 19 < 160) (h : wX encM bdM mX3_laysTimes 0 0 K Pt 7 [some (pR 0), some (pI key), some (pI (i + 1)), none] [] (ltP s q i k)) : wX encM bdM mX3_laysTimes 0 0 K Pt 109 [some (pR 0), some (pI key), some (pI i), some (pI k)] [] q := by
  refine wx_J [7, 54, 109] 9 tX3_laysTimes_ok rfl (fun J hR hJ => ?_)
  unfold ltP at h
  rw [← hs] at h
  rw [← hs] at ht
  exact ⟨⟨by omega, by omega⟩, fun b1 => ⟨⟨by omega, by omega, b1⟩, ⟨by omega, by omega⟩, fun b2 => ⟨⟨by omega, by omega, b2⟩, fun b3 => ⟨⟨by show _ ≤ q.1 19 + 1; omega, by show q.1 19 + 1 ≤ _; omega⟩, hJ _ _ _ _ h⟩⟩⟩⟩
theorem X3_laysTimes_l {K : KM} {Pt : MS → Prop} (key : Int) (hy : xB key) : ∀ (m : Nat) (i : Int) (s : MS), 0 ≤ i → i + m = 160 → nIn s ≤ 160 → 0 ≤ s.1 19 → s.1 19 ≤ i → K [] (ltO key m i s) → wX encM bdM mX3_laysTimes 0 0 K Pt 7 [some (pR 0), some (pI key), some (pI i), none] [] s := by
  have fin : ∀ (i : Int) (s : MS), 0 ≤ i → i ≤ 160 → nIn s ≤ i → K [] s → wX encM bdM mX3_laysTimes 0 0 K Pt 7 [some (pR 0), some (pI key), some (pI i), none] [] s := by
    intro i s h0 h1 hi hK
    refine wx_J [7, 54, 109] 9 tX3_laysTimes_ok rfl (fun J hR hJ => ?_)
    exact ⟨⟨by omega, by omega⟩, fun hx => ⟨⟨⟨by omega, by omega⟩, hx⟩, fun _ => hR _ _ hK, fun q => absurd q (Int.not_lt.mpr hi)⟩⟩
  intro m
  induction m with
  | zero =>
    intro i s h0 h1 hn t0 t1 hK
    exact fin i s h0 (by omega) (by omega) hK
  | succ m ih =>
    intro i s h0 h1 hn t0 t1 hK
    unfold ltO at hK
    by_cases c : nIn s ≤ i
    · rw [if_pos c] at hK
      exact fin i s h0 (by omega) c hK
    · rw [if_neg c] at hK
      refine wx_J [7, 54, 109] 9 tX3_laysTimes_ok rfl (fun J hR hJ => ?_)
      have z0 : ¬ (iC s i 0 = 0 ∧ iC s i 3 = key ∧ iC s i 5 ≠ 0) → J 7 [some (pR 0), some (pI key), some (pI (i + 1)), none] [] s := fun e => by
        rw [if_neg e] at hK
        exact hJ _ _ _ _ (ih (i + 1) s (by omega) (by omega) hn t0 (by omega) hK)
      refine ⟨⟨by omega, by omega⟩, fun hx => ⟨⟨⟨by omega, by omega⟩, hx⟩, fun q => absurd q c, fun _ => ?_⟩⟩
      refine ⟨⟨by omega, by omega⟩, fun b0 => ⟨b0, fun c0 => z0 (fun w => c0 w.1), fun c0 => ?_⟩⟩
      refine ⟨⟨by omega, by omega⟩, fun b1 => ⟨⟨b1, hy⟩, fun c1 => z0 (fun w => c1 w.2.1), fun c1 => ?_⟩⟩
      refine ⟨⟨by omega, by omega⟩, fun b2 => ⟨b2, fun c2 => ?_, fun c2 => z0 (fun w => w.2.2 c2)⟩⟩
      rw [if_pos ⟨c0, c1, c2⟩] at hK
      have e19 : (ltI s i).1 19 = s.1 19 + 1 := rfl
      have hn2 : nIn (ltI s i) ≤ 160 := by show mg (ltI s i) _ ≤ 160; rw [ltI_mg]; exact hn
      have g := ih (i + 1) (ltI s i) (by omega) (by omega) hn2 (by omega) (by omega) hK
      have hk := ltW_k (iC s i 2) (s.1 19).toNat (s.1 19) s t0
      have h19 : (ltW (iC s i 2) (s.1 19).toNat (s.1 19) s).2.1 19 = s.1 19 := by rw [(ltW_mg (iC s i 2) (s.1 19).toNat (s.1 19) s 0).2]
      exact fun b3 => hJ _ _ _ _ (X3_laysTimes_w key i h0 (by omega) (s.1 19).toNat (s.1 19) s (by omega) (by omega) (X3_laysTimes_p key i _ s _ h19 h0 (by omega) ⟨hk.1, by omega⟩ ⟨t0, by omega⟩ g))
def gLt (s : MS) (key : Int) : MS := ltO key 160 0 (mS s 19 0)
def sX3_laysTimes : Int → MS → KM → Prop := fun key s K => (xB key ∧ nIn s ≤ 160) ∧ K [] (gLt s key)
theorem mX3_laysTimes_ok : mOk encM bdM mX3_laysTimes (atR 0 (a1 sX3_laysTimes)) := by
  refine mOVa1 kX3_laysTimes (fun _ => rfl) (fun key s K h hb => wx_J [7, 54, 109] 9 tX3_laysTimes_ok rfl (fun J hR hJ => ?_))
  obtain ⟨⟨h1, h2⟩, p⟩ := h
  exact ⟨⟨by omega, by omega⟩, hJ _ _ _ _ (X3_laysTimes_l key h1 160 0 (mS s 19 0) (by omega) (by omega) h2 (by show (0 : Int) ≤ 0; omega) (by show (0 : Int) ≤ 0; omega) p)⟩
def cM_X3_laysTimes : Sp MS := atR 0 (a1 sX3_laysTimes)
theorem qM_X3_laysTimes {M : XI} {rc rs pc pc2 : Nat} (d : xl_Ca M pc mX3_laysTimes pc2) : cOk encM bdM M rc rs pc pc2 2 cM_X3_laysTimes := cSame mX3_laysTimes_ok vX3_laysTimes d mcl rfl lenM recM
