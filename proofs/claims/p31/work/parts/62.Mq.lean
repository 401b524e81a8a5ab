/-! ===== the model: its face, single answers ===== -/
def gSent (s : MS) (k : Int) : Int × MS := if inB k 0 3 then (mg s (0 * 2804 + (32 + k)), mEn (mS (mS s 0 0) 1 0) (mg s (0 * 2804 + 7))) else (-1, mS s 0 0)
def sX3_sent : Int → MS → KM → Prop := fun k s K => xB k ∧ K [pI (gSent s k).1] (gSent s k).2
theorem mX3_sent_ok : mOk encM bdM mX3_sent (atR 0 (a1 sX3_sent)) := by
  refine mOVa1 kX3_sent (fun _ => rfl) (fun k s K h hb => wx_J [] 9 tX3_sent_ok rfl (fun J hR hJ => ?_))
  obtain ⟨h1, hK⟩ := h
  unfold gSent at hK
  refine ⟨⟨by omega, by omega⟩, h1, ⟨⟨h1, ⟨by omega, by omega⟩, ⟨by omega, by omega⟩⟩, fun c => ?_, fun c => ?_⟩⟩
  · rw [if_pos c] at hK
    exact ⟨⟨by omega, by omega⟩, fun _ => ⟨⟨by omega, by omega⟩, ⟨by omega, by omega⟩, fun a => ⟨a, ⟨a, by show (0 : Int) ≤ 0; omega, by show (0 : Int) < 16; omega⟩, ⟨by omega, by omega⟩, fun _ => hR _ _ hK⟩⟩, fun q => absurd q (by omega)⟩
  · rw [if_neg c] at hK
    exact ⟨⟨by omega, by omega⟩, fun q => absurd rfl q, fun _ => hR _ _ hK⟩
def gClosed (s : MS) (k : Int) : Int × MS := if 0 ≤ k ∧ k < 6 then (mg s (0 * 2804 + (36 + k)), mEn (mEn (mEn (mS (mS s 0 0) 1 0) (mg s (0 * 2804 + (42 + k)))) (mg s (0 * 2804 + (48 + k)))) (mg s (0 * 2804 + (54 + k)))) else (-1, mS s 0 0)
def sX3_closed : Int → MS → KM → Prop := fun k s K => xB k ∧ K [pI (gClosed s k).1] (gClosed s k).2
theorem mX3_closed_ok : mOk encM bdM mX3_closed (atR 0 (a1 sX3_closed)) := by
  refine mOVa1 kX3_closed (fun _ => rfl) (fun k s K h hb => wx_J [] 9 tX3_closed_ok rfl (fun J hR hJ => ?_))
  obtain ⟨h1, hK⟩ := h
  unfold gClosed at hK
  refine ⟨⟨by omega, by omega⟩, ⟨h1, fun c => ?_, fun c => ?_⟩⟩
  · rw [if_pos c] at hK
    exact ⟨⟨by omega, by omega⟩, fun _ => ⟨⟨by omega, by omega⟩, ⟨by omega, by omega⟩, fun a => ⟨a, ⟨a, by show (0 : Int) ≤ 0; omega, by show (0 : Int) < 16; omega⟩, ⟨by omega, by omega⟩, fun b => ⟨b, ⟨b, by show (0 : Int) ≤ 0 + 1; omega, by show (0 : Int) + 1 < 16; omega⟩, ⟨by omega, by omega⟩, fun c => ⟨c, ⟨c, by show (0 : Int) ≤ 0 + 1 + 1; omega, by show (0 : Int) + 1 + 1 < 16; omega⟩, ⟨by omega, by omega⟩, fun _ => hR _ _ hK⟩⟩⟩⟩, fun q => absurd q (by omega)⟩
  · rw [if_neg c] at hK
    exact ⟨⟨by omega, by omega⟩, fun q => absurd rfl q, fun _ => hR _ _ hK⟩
def gCount (s : MS) (a : Int) : Int := if a = 8 then s.1 8 else if a = 9 then s.1 1 else if a = 10 then s.1 4 else if inB a 0 7 then mg s (0 * 2804 + a) else -1
def sX3_count : Int → MS → KM → Prop := fun a s K => xB a ∧ K [pI (gCount s a)] (mS s 0 0)
theorem mX3_count_ok : mOk encM bdM mX3_count (atR 0 (a1 sX3_count)) := by
  refine mOVa1 kX3_count (fun _ => rfl) (fun a s K h hb => wx_J [] 9 tX3_count_ok rfl (fun J hR hJ => ?_))
  obtain ⟨h1, hK⟩ := h
  unfold gCount at hK
  refine ⟨⟨by omega, by omega⟩, h1, fun c => ?_, fun c => ?_, fun c => ?_, fun c => ?_⟩
  · rw [if_pos (show a = 8 by omega)] at hK
    exact fun _ => hR _ _ hK
  · rw [if_neg (show ¬ a = 8 by omega), if_pos (show a = 9 by omega)] at hK
    exact fun _ => hR _ _ hK
  · rw [if_neg (show ¬ a = 8 by omega), if_neg (show ¬ a = 9 by omega), if_pos (show a = 10 by omega)] at hK
    exact fun _ => hR _ _ hK
  · rw [if_neg (show ¬ a = 8 by omega), if_neg (show ¬ a = 9 by omega), if_neg (show ¬ a = 10 by omega)] at hK
    refine ⟨h1, ⟨⟨h1, ⟨by omega, by omega⟩, ⟨by omega, by omega⟩⟩, fun c2 => ?_, fun c2 => ?_⟩⟩
    · rw [if_pos c2] at hK
      exact ⟨⟨by omega, by omega⟩, fun q => absurd q (by omega), fun _ => ⟨⟨by omega, by omega⟩, fun _ => hR _ _ hK⟩⟩
    · rw [if_neg c2] at hK
      exact ⟨⟨by omega, by omega⟩, fun _ => hR _ _ hK, fun q => absurd rfl q⟩
def gRow (s : MS) (i : Int) : Int × MS := if inB i 0 (wI (s.1 1 - 1)) then (s.2 1 i.toNat, mS s 0 0) else (0, mS s 0 1)
def sX3_row : Int → MS → KM → Prop := fun i s K => (xB i ∧ 0 ≤ s.1 1 ∧ s.1 1 ≤ 16) ∧ K [pJ (gRow s i).1] (gRow s i).2
theorem mX3_row_ok : mOk encM bdM mX3_row (atR 0 (a1 sX3_row)) := by
  refine mOVa1 kX3_row (fun _ => rfl) (fun i s K h hb => wx_J [] 9 tX3_row_ok rfl (fun J hR hJ => ?_))
  obtain ⟨⟨h1, h2⟩, hK⟩ := h
  unfold gRow at hK
  have hw : wI (s.1 1 - 1) = s.1 1 - 1 := wI_eq ⟨by omega, by omega⟩
  refine ⟨h1, fun h3 h4 => ⟨h4, ⟨⟨h1, ⟨by omega, by omega⟩, h4⟩, fun c => ?_, fun c => ?_⟩⟩⟩
  · rw [if_pos c] at hK
    refine ⟨⟨by omega, by omega⟩, fun _ => ⟨Or.inl rfl, ⟨by omega, by omega⟩, fun _ => ⟨⟨⟨by omega, by omega⟩, ⟨by omega, by omega⟩⟩, fun _ => ?_, fun q => absurd (show (0 : Int) = 1 from q) (by omega)⟩⟩, fun q => absurd q (by omega)⟩
    exact ⟨⟨c.1, by rw [hw] at c; omega⟩, fun _ => hR _ _ hK⟩
  · rw [if_neg c] at hK
    refine ⟨⟨by omega, by omega⟩, fun q => absurd rfl q, fun _ => ⟨Or.inr rfl, ⟨by omega, by omega⟩, fun _ => ⟨⟨⟨by omega, by omega⟩, ⟨by omega, by omega⟩⟩, fun q => absurd (show (1 : Int) = 1 from rfl) q, fun _ => hR _ _ hK⟩⟩⟩
def gInput (s : MS) (i a : Int) : Int × MS := if inB i 0 (wI (mg s (0 * 2804 + 6) - 1)) ∧ inB a 0 3 then (mg s (1844 + 6 * i + a), mS s 0 0) else (0, mS s 0 1)
def sX3_input : Int → Int → MS → KM → Prop := fun i a s K => ((xB i ∧ xB a) ∧ 0 ≤ mg s (0 * 2804 + 6) ∧ mg s (0 * 2804 + 6) ≤ 160) ∧ K [pI (gInput s i a).1] (gInput s i a).2
theorem mX3_input_ok : mOk encM bdM mX3_input (atR 0 (a2 sX3_input)) := by
  refine mOVa2 kX3_input (fun _ _ => rfl) (fun i a s K h hb => wx_J [] 9 tX3_input_ok rfl (fun J hR hJ => ?_))
  obtain ⟨⟨⟨h1, h0⟩, h2⟩, hK⟩ := h
  unfold gInput at hK
  have hw : wI (mg s (0 * 2804 + 6) - 1) = mg s (0 * 2804 + 6) - 1 := wI_eq ⟨by omega, by omega⟩
  refine ⟨h1, ⟨by omega, by omega⟩, fun h3 h4 => ⟨h4, ⟨⟨h1, ⟨by omega, by omega⟩, h4⟩, fun c => ?_, fun c => ?_⟩⟩⟩
  · refine ⟨⟨by omega, by omega⟩, fun q => absurd q (by omega), fun _ => ⟨h0, ⟨⟨h0, ⟨by omega, by omega⟩, ⟨by omega, by omega⟩⟩, fun c2 => ?_, fun c2 => ?_⟩⟩⟩
    · rw [if_pos ⟨c, c2⟩] at hK
      refine ⟨⟨by omega, by omega⟩, fun _ => ⟨Or.inl rfl, ⟨by omega, by omega⟩, fun _ => ⟨⟨⟨by omega, by omega⟩, ⟨by omega, by omega⟩⟩, fun _ => ?_, fun q => absurd (show (0 : Int) = 1 from q) (by omega)⟩⟩, fun q => absurd q (by omega)⟩
      rw [hw] at c
      exact ⟨⟨by omega, by omega⟩, fun _ => hR _ _ hK⟩
    · rw [if_neg (fun z => c2 z.2)] at hK
      refine ⟨⟨by omega, by omega⟩, fun q => absurd rfl q, fun _ => ⟨Or.inr rfl, ⟨by omega, by omega⟩, fun _ => ⟨⟨⟨by omega, by omega⟩, ⟨by omega, by omega⟩⟩, fun q => absurd (show (1 : Int) = 1 from rfl) q, fun _ => hR _ _ hK⟩⟩⟩
  · rw [if_neg (fun z => c z.1)] at hK
    refine ⟨⟨by omega, by omega⟩, fun _ => ⟨Or.inr rfl, ⟨by omega, by omega⟩, fun _ => ⟨⟨⟨by omega, by omega⟩, ⟨by omega, by omega⟩⟩, fun q => absurd (show (1 : Int) = 1 from rfl) q, fun _ => hR _ _ hK⟩⟩, fun q => absurd rfl q⟩
def gSrcA (s : MS) (r a : Int) : Int := if a = 0 then mg s (0 * 2804 + (12 + r)) else if a = 1 then mg s (0 * 2804 + (16 + r)) else if a = 2 then mg s (0 * 2804 + (20 + r)) else if a = 3 then mg s (0 * 2804 + (24 + r)) else if a = 4 then mg s (0 * 2804 + (28 + r)) else if wI (mg s (0 * 2804 + (12 + r)) - mg s (0 * 2804 + 4)) < 0 then -1 else wI (mg s (0 * 2804 + (12 + r)) - mg s (0 * 2804 + 4))
def gSource (s : MS) (r a : Int) : Int × MS := if mSrc s r ∧ inB a 0 5 then (gSrcA s r a, mS s 0 0) else (0, mS s 0 1)
def sX3_source : Int → Int → MS → KM → Prop := fun r a s K => ((xB r ∧ xB a) ∧ mok1 s) ∧ K [pI (gSource s r a).1] (gSource s r a).2
theorem mX3_source_ok : mOk encM bdM mX3_source (atR 0 (a2 sX3_source)) := by
  refine mOVa2 kX3_source (fun _ _ => rfl) (fun r a s K h hb => wx_J [] 12 tX3_source_ok rfl (fun J hR hJ => ?_))
  obtain ⟨⟨⟨h1, h0⟩, h2⟩, hK⟩ := h
  unfold gSource at hK
  refine ⟨⟨h1, h2.1⟩, fun c => ?_, fun c => ?_⟩
  · refine ⟨⟨by omega, by omega⟩, fun q => absurd q (by omega), fun _ => ⟨h0, ⟨⟨h0, ⟨by omega, by omega⟩, ⟨by omega, by omega⟩⟩, fun c2 => ?_, fun c2 => ?_⟩⟩⟩
    · rw [if_pos ⟨c, c2⟩] at hK
      refine ⟨⟨by omega, by omega⟩, fun _ => ⟨Or.inl rfl, ⟨by omega, by omega⟩, fun _ => ⟨⟨⟨by omega, by omega⟩, ⟨by omega, by omega⟩⟩, fun _ => ?_, fun q => absurd (show (0 : Int) = 1 from q) (by omega)⟩⟩, fun q => absurd q (by omega)⟩
      unfold gSrcA at hK
      refine ⟨⟨by omega, by omega⟩, fun b1 => ⟨⟨by omega, by omega⟩, fun b2 b3 => ⟨h0, fun e => ?_, fun e => ?_, fun e => ?_, fun e => ?_, fun e => ?_, fun e => ?_⟩⟩⟩
      · rw [if_pos (show a = 0 by omega)] at hK
        exact ⟨⟨by omega, by omega⟩, fun _ => hR _ _ hK⟩
      · rw [if_neg (show ¬ a = 0 by omega), if_pos (show a = 1 by omega)] at hK
        exact ⟨⟨by omega, by omega⟩, fun _ => hR _ _ hK⟩
      · rw [if_neg (show ¬ a = 0 by omega), if_neg (show ¬ a = 1 by omega), if_pos (show a = 2 by omega)] at hK
        exact ⟨⟨by omega, by omega⟩, fun _ => hR _ _ hK⟩
      · rw [if_neg (show ¬ a = 0 by omega), if_neg (show ¬ a = 1 by omega), if_neg (show ¬ a = 2 by omega), if_pos (show a = 3 by omega)] at hK
        exact ⟨⟨by omega, by omega⟩, fun _ => hR _ _ hK⟩
      · rw [if_neg (show ¬ a = 0 by omega), if_neg (show ¬ a = 1 by omega), if_neg (show ¬ a = 2 by omega), if_neg (show ¬ a = 3 by omega), if_pos (show a = 4 by omega)] at hK
        exact ⟨⟨by omega, by omega⟩, fun _ => hR _ _ hK⟩
      · rw [if_neg (show ¬ a = 0 by omega), if_neg (show ¬ a = 1 by omega), if_neg (show ¬ a = 2 by omega), if_neg (show ¬ a = 3 by omega), if_neg (show ¬ a = 4 by omega)] at hK
        refine ⟨b3, fun e2 => ?_, fun e2 => ?_⟩
        · have e2 : 0 ≤ wI (mg s (0 * 2804 + (12 + r)) - mg s (0 * 2804 + 4)) := e2
          rw [if_neg (Int.not_lt.mpr e2)] at hK
          exact hR _ _ hK
        · have e2 : wI (mg s (0 * 2804 + (12 + r)) - mg s (0 * 2804 + 4)) < 0 := e2
          rw [if_pos e2] at hK
          exact hR _ _ hK
    · rw [if_neg (fun z => c2 z.2)] at hK
      refine ⟨⟨by omega, by omega⟩, fun q => absurd rfl q, fun _ => ⟨Or.inr rfl, ⟨by omega, by omega⟩, fun _ => ⟨⟨⟨by omega, by omega⟩, ⟨by omega, by omega⟩⟩, fun q => absurd (show (1 : Int) = 1 from rfl) q, fun _ => hR _ _ hK⟩⟩⟩
  · rw [if_neg (fun z => c z.1)] at hK
    refine ⟨⟨by omega, by omega⟩, fun _ => ⟨Or.inr rfl, ⟨by omega, by omega⟩, fun _ => ⟨⟨⟨by omega, by omega⟩, ⟨by omega, by omega⟩⟩, fun q => absurd (show (1 : Int) = 1 from rfl) q, fun _ => hR _ _ hK⟩⟩, fun q => absurd rfl q⟩
