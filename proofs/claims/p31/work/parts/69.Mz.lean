/-! ===== the model: years ===== -/
theorem yrD4_mg (s : MS) (i : Int) : mg (yrD4 s) i = mg s i := rfl
def gYrE (s : MS) (a : Int) : Int × MS := (a, mSince s 4 (mg s (0 * 2804 + 7)))
theorem X3_years_c {K : KM} {Pt : MS → Prop} (c a k key t0 tc v r : Int) (s : MS) (n2 : Nat) (hk : xB key) (ht : xB tc) (hv : xB v) (hr : 0 ≤ r ∧ r ≤ 3) (h6 : 0 ≤ mg s (4 * 2804 + 6) ∧ mg s (4 * 2804 + 6) ≤ 159) (h : mComeP s 4 key tc v r n2 (fun s' => wX encM bdM mX3_years 0 0 K Pt 35 [some (pR 0), none, some (pI c), some (pI (wI (a + (if mHow s 4 tc < 2 then 1 else 0)))), some (pI (k + 1)), none, none, none, none] [] s')) : wX encM bdM mX3_years 0 0 K Pt 133 [some (pR 0), none, some (pI c), some (pI a), some (pI k), some (pI key), some (pI t0), some (pI v), some (pI r)] [pI tc] s := by
  refine wx_J [35, 133] 9 tX3_years_ok rfl (fun J hR hJ => ?_)
  refine ⟨⟨⟨by omega, by omega⟩, hr, ⟨hk, ht, hv⟩, h6⟩, n2, mComeP_mono (fun s' y u1 u2 => ?_) h⟩
  refine ⟨⟨⟨by omega, by omega⟩, ⟨by omega, by omega⟩⟩, fun e => ?_, fun e => ?_⟩
  · rw [if_neg (Int.not_lt.mpr e)] at y
    exact ⟨Or.inl rfl, fun _ => hJ _ _ _ _ y⟩
  · rw [if_pos e] at y
    exact ⟨Or.inr rfl, fun _ => hJ _ _ _ _ y⟩
theorem X3_years_l {K : KM} {Pt : MS → Prop} (c : Int) (hc : xB c) (n2 : Nat) : ∀ (n : Nat) (k a : Int) (s : MS), 0 ≤ k → k ≤ max 0 c → yrM c (fun a s => K [pI (gYrE s a).1] (gYrE s a).2) n2 n k a s → wX encM bdM mX3_years 0 0 K Pt 35 [some (pR 0), none, some (pI c), some (pI a), some (pI k), none, none, none, none] [] s := by
  have fin : ∀ (k a : Int) (s : MS), 0 ≤ k → k ≤ max 0 c → (c ≤ k ∨ 160 ≤ mg s (4 * 2804 + 6)) → K [pI (gYrE s a).1] (gYrE s a).2 → wX encM bdM mX3_years 0 0 K Pt 35 [some (pR 0), none, some (pI c), some (pI a), some (pI k), none, none, none, none] [] s := by
    intro k a s h0 h1 hn hK
    refine wx_J [35, 133] 9 tX3_years_ok rfl (fun J hR hJ => ?_)
    refine ⟨⟨⟨by omega, by omega⟩, hc⟩, fun q => ?_, fun q => ?_⟩
    · exact ⟨⟨by omega, by omega⟩, fun _ => ⟨⟨by omega, by omega⟩, hR _ _ hK⟩⟩
    · refine ⟨⟨by omega, by omega⟩, fun hx => ⟨⟨hx, ⟨by omega, by omega⟩⟩, fun q2 => ?_, fun q2 => ?_⟩⟩
      · exact ⟨⟨by omega, by omega⟩, fun _ => ⟨⟨by omega, by omega⟩, hR _ _ hK⟩⟩
      · omega
  intro n
  induction n with
  | zero =>
    intro k a s h0 h1 h
    exact fin k a s h0 h1 h.1 h.2
  | succ n ih =>
    intro k a s h0 h1 h
    obtain ⟨p1, p2⟩ := h
    by_cases e : c ≤ k ∨ 160 ≤ mg s (4 * 2804 + 6)
    · exact fin k a s h0 h1 e (p1 e)
    · obtain ⟨⟨q1, q2, q3⟩, q4⟩ := p2 ⟨by omega, by omega⟩
      refine wx_J [35, 133] 9 tX3_years_ok rfl (fun J hR hJ => ?_)
      have g := mComeP_mono (fun s' y => ih (k + 1) _ s' (by omega) (by omega) y) q4
      have hN : ∀ x : Int, 0 < x → x ≤ 1000 → xB x ∧ 0 < x := fun x h1 h2 => ⟨⟨by omega, by omega⟩, h1⟩
      refine ⟨⟨⟨by omega, by omega⟩, hc⟩, fun q => absurd q (by omega), fun _ => ⟨⟨by omega, by omega⟩, fun hx => ⟨⟨hx, ⟨by omega, by omega⟩⟩, fun q => absurd (show 160 ≤ mg s (4 * 2804 + 6) from q) (by omega), fun _ => ?_⟩⟩⟩
      refine ⟨hN 6 (by omega) (by omega), fun hkey => ⟨⟨by omega, by omega⟩, fun _ => ⟨⟨by omega, by omega⟩, fun _ _ => ⟨hN 100 (by omega) (by omega), fun _ ht => ⟨hN 199 (by omega) (by omega), fun _ hv => ⟨⟨by omega, by omega⟩, fun hm => ⟨⟨hm, q2.1⟩, fun hr => ?_⟩⟩⟩⟩⟩⟩⟩
      have ht : xB (yrT s) := ht
      have h6 : 0 ≤ mg (yrD4 s) (4 * 2804 + 6) ∧ mg (yrD4 s) (4 * 2804 + 6) ≤ 159 := by rw [yrD4_mg]; exact ⟨q1, by omega⟩
      refine ⟨ht, fun e1 => ?_, fun e1 => ?_⟩
      · have e1 : 0 ≤ yrT s := e1
        refine ⟨⟨ht, ⟨by omega, by omega⟩⟩, fun e2 => ?_, fun e2 => ?_⟩
        · have e2 : yrT s ≤ 9999 := e2
          have et : yrTc (yrT s) = yrT s := by unfold yrTc; rw [if_neg (by omega), if_neg (by omega)]
          rw [et] at g
          exact hJ _ _ _ _ (X3_years_c c a k (dOf (dAfter (s.1 21)) 6) (yrT s) (yrT s) (wI (dOf (dAfter (dAfter (dAfter (s.1 21)))) 199 - 99)) (dOf (dAfter (dAfter (dAfter (dAfter (s.1 21))))) (mg s (4 * 2804 + 0))) (yrD4 s) n2 hkey ht hv q3 h6 g)
        · have e2 : 9999 < yrT s := e2
          have et : yrTc (yrT s) = 9999 := by unfold yrTc; rw [if_neg (by omega), if_pos e2]
          rw [et] at g
          exact hJ _ _ _ _ (X3_years_c c a k (dOf (dAfter (s.1 21)) 6) (yrT s) 9999 (wI (dOf (dAfter (dAfter (dAfter (s.1 21)))) 199 - 99)) (dOf (dAfter (dAfter (dAfter (dAfter (s.1 21))))) (mg s (4 * 2804 + 0))) (yrD4 s) n2 hkey ⟨by omega, by omega⟩ hv q3 h6 g)
      · have e1 : yrT s < 0 := e1
        have et : yrTc (yrT s) = 0 := by unfold yrTc; rw [if_pos e1]
        rw [et] at g
        exact hJ _ _ _ _ (X3_years_c c a k (dOf (dAfter (s.1 21)) 6) (yrT s) 0 (wI (dOf (dAfter (dAfter (dAfter (s.1 21)))) 199 - 99)) (dOf (dAfter (dAfter (dAfter (dAfter (s.1 21))))) (mg s (4 * 2804 + 0))) (yrD4 s) n2 hkey ⟨by omega, by omega⟩ hv q3 h6 g)
def gYrS (s : MS) (d : Int) : MS := mCopy (mS (mS s 0 0) 21 d) 0 4
def sX3_years : Int → Int → MS → KM → Prop := fun d c s K => (xB d ∧ xB c) ∧ (¬ inB c 1 40 → K [pI (-1)] (mS s 0 0)) ∧ (inB c 1 40 → ∃ n2 n, yrM c (fun a s => K [pI (gYrE s a).1] (gYrE s a).2) n2 n 0 0 (gYrS s d))
theorem mX3_years_ok : mOk encM bdM mX3_years (atR 0 (a2 sX3_years)) := by
  refine mOVa2 kX3_years (fun _ _ => rfl) (fun d c s K h hb => wx_J [35, 133] 9 tX3_years_ok rfl (fun J hR hJ => ?_))
  obtain ⟨⟨h1, h2⟩, p1, p2⟩ := h
  refine ⟨⟨by omega, by omega⟩, h2, ⟨⟨h2, ⟨by omega, by omega⟩, ⟨by omega, by omega⟩⟩, fun e => ?_, fun e => ?_⟩⟩
  · obtain ⟨n2, n, p⟩ := p2 e
    exact ⟨⟨by omega, by omega⟩, fun _ => ⟨h1, ⟨⟨by omega, by omega⟩, by omega, by omega⟩, hJ _ _ _ _ (X3_years_l c h2 n2 n 0 0 _ (by omega) (by omega) p)⟩, fun q => absurd q (by omega)⟩
  · exact ⟨⟨by omega, by omega⟩, fun q => absurd rfl q, fun _ => hR _ _ (p1 e)⟩
