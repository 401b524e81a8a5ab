/-! ===== the model: holds, next, ahead, slow ===== -/
def hoM (s : MS) (l : Int) : Nat → Int → Int → Int → Int × Int
  | 0, _, a, b => (a, b)
  | m + 1, i, a, b => hoM s l m (i + 1) (iI a ||| iI (iI (if mg s (0 * 2804 + (20 + i)) = 0 ∧ mg s (0 * 2804 + (12 + i)) = l then 1 else 0) <<< (iI i &&& 31)).toInt).toInt (max b (mg s (0 * 2804 + (12 + i))))
def gHo2 (s : MS) (l : Int) (p : Int × Int) : Int × MS := (p.1, mEn (mEn (mS s 1 0) l) (wI (p.2 - mg s (0 * 2804 + 4))))
def gHolds0 (s : MS) : Int × MS := gHo2 s (mLeast s 0) (hoM s (mLeast s 0) (mg s (0 * 2804 + 0)).toNat 0 0 0)
def gHolds (s : MS) : Int × MS := gHolds0 (mS s 0 0)
theorem X3_holds_l {K : KM} {Pt : MS → Prop} (s : MS) (hb : bdM s) (l : Int) (hl : xB l) (hn : 0 ≤ mg s (0 * 2804 + 0) ∧ mg s (0 * 2804 + 0) ≤ 4) : ∀ (m : Nat) (i a b : Int), xB a → xB b → 0 ≤ i → i ≤ mg s (0 * 2804 + 0) → m = (mg s (0 * 2804 + 0) - i).toNat → K [pI (gHo2 s l (hoM s l m i a b)).1] (gHo2 s l (hoM s l m i a b)).2 → wX encM bdM mX3_holds 0 0 K Pt 18 [some (pR 0), some (pI l), some (pI a), some (pI b), some (pI i)] [] s := by
  intro m
  induction m with
  | zero =>
    intro i a b ha hb2 h0 h1 hm hK
    refine wx_J [18] 9 tX3_holds_ok rfl (fun J hR hJ => ?_)
    refine ⟨⟨by omega, by omega⟩, fun hx => ⟨⟨⟨by omega, by omega⟩, hx⟩, fun _ => ?_, fun q => absurd q (by omega)⟩⟩
    exact ⟨⟨by omega, by omega⟩, hl, ⟨hl, by show (0 : Int) ≤ 0; omega, by show (0 : Int) < 16; omega⟩, ⟨by omega, by omega⟩, fun _ hz => ⟨hz, ⟨hz, by show (0 : Int) ≤ 0 + 1; omega, by show (0 : Int) + 1 < 16; omega⟩, hR _ _ hK⟩⟩
  | succ m ih =>
    intro i a b ha hb2 h0 h1 hm hK
    refine wx_J [18] 9 tX3_holds_ok rfl (fun J hR hJ => ?_)
    rw [hoM] at hK
    have hM := max_B hb2 (mg_B (s := s) (a := 0 * 2804 + (12 + i)) hb)
    refine ⟨⟨by omega, by omega⟩, fun hx => ⟨⟨⟨by omega, by omega⟩, hx⟩, fun q => absurd q (by omega), fun _ => ⟨⟨by omega, by omega⟩, fun hy => ⟨hy, fun q => ?_, fun q => ?_⟩⟩⟩⟩
    · rw [if_neg (fun z => q z.1)] at hK
      have g := ih (i + 1) _ _ (xb_of _) hM (by omega) (by omega) (by omega) hK
      exact ⟨Or.inl rfl, ⟨by omega, by omega⟩, fun hz => ⟨⟨hb2, hz⟩, hJ _ _ _ _ g⟩⟩
    · refine ⟨⟨by omega, by omega⟩, fun hz => ⟨⟨hz, hl⟩, fun q2 => ?_, fun q2 => ?_⟩⟩
      · rw [if_neg (fun z => q2 z.2)] at hK
        have g := ih (i + 1) _ _ (xb_of _) hM (by omega) (by omega) (by omega) hK
        exact ⟨Or.inl rfl, ⟨by omega, by omega⟩, fun hz => ⟨⟨hb2, hz⟩, hJ _ _ _ _ g⟩⟩
      · rw [if_pos ⟨q, q2⟩] at hK
        have g := ih (i + 1) _ _ (xb_of _) hM (by omega) (by omega) (by omega) hK
        exact ⟨Or.inr rfl, ⟨by omega, by omega⟩, fun hz => ⟨⟨hb2, hz⟩, hJ _ _ _ _ g⟩⟩
def sX3_holds : MS → KM → Prop := fun s K => (0 ≤ mg s (0 * 2804 + 0) ∧ mg s (0 * 2804 + 0) ≤ 4) ∧ K [pI (gHolds s).1] (gHolds s).2
theorem mX3_holds_ok : mOk encM bdM mX3_holds (atR 0 (a0 sX3_holds)) := by
  refine mOVa0 kX3_holds (fun _ => rfl) (fun s K h hb => wx_J [18] 9 tX3_holds_ok rfl (fun J hR hJ => ?_))
  obtain ⟨h1, hK⟩ := h
  have hb0 : bdM (mS s 0 0) := bdM_S hb ⟨by omega, by omega⟩
  exact ⟨⟨by omega, by omega⟩, ⟨⟨by omega, by omega⟩, h1.2⟩, fun hl => hJ _ _ _ _ (X3_holds_l (mS s 0 0) hb0 _ hl h1 _ 0 0 0 ⟨by omega, by omega⟩ ⟨by omega, by omega⟩ (by omega) h1.1 (by rw [Int.sub_zero]) hK)⟩
def nxM (s : MS) : Nat → Int → Int → Int
  | 0, _, b => b
  | m + 1, i, b => nxM s m (i + 1) (if ¬ mRipe s 0 i (mg s (0 * 2804 + 4)) ∧ (b < 0 ∨ mg s ((0 * 2804 + 364 + 7 * i) + 2) < mg s ((0 * 2804 + 364 + 7 * b) + 2)) then i else b)
def gNx2 (s : MS) (b : Int) : Int × MS := if b < 0 then (-2, s) else (b, mEn (mS s 1 0) (wI (wI (wI (mg s ((0 * 2804 + 364 + 7 * b) + 2) + mg s (0 * 2804 + 1)) + 1) - mg s (0 * 2804 + 4))))
def gNext0 (s : MS) : Int × MS := gNx2 s (nxM s (mg s (0 * 2804 + 5)).toNat 0 (-1))
def gNext (s : MS) : Int × MS := gNext0 (mS s 0 0)
theorem X3_next_l {K : KM} {Pt : MS → Prop} (s : MS) (hn : 0 ≤ mg s (0 * 2804 + 5) ∧ mg s (0 * 2804 + 5) ≤ 160) : ∀ (m : Nat) (i b : Int), -1 ≤ b → b < i → 0 ≤ i → i ≤ mg s (0 * 2804 + 5) → m = (mg s (0 * 2804 + 5) - i).toNat → K [pI (gNx2 s (nxM s m i b)).1] (gNx2 s (nxM s m i b)).2 → wX encM bdM mX3_next 0 0 K Pt 9 [some (pR 0), some (pI b), some (pI i), none] [] s := by
  intro m
  induction m with
  | zero =>
    intro i b hb1 hb2 h0 h1 hm hK
    refine wx_J [9] 9 tX3_next_ok rfl (fun J hR hJ => ?_)
    rw [nxM] at hK
    unfold gNx2 at hK
    refine ⟨⟨by omega, by omega⟩, fun hx => ⟨⟨⟨by omega, by omega⟩, hx⟩, fun _ => ?_, fun q => absurd q (by omega)⟩⟩
    refine ⟨⟨by omega, by omega⟩, fun c => ?_, fun c => ?_⟩
    · rw [if_neg (Int.not_lt.mpr c)] at hK
      exact ⟨⟨by omega, by omega⟩, ⟨by omega, by omega⟩, fun _ => ⟨⟨by omega, by omega⟩, fun _ _ _ => ⟨⟨by omega, by omega⟩, fun _ hz => ⟨hz, ⟨hz, by show (0 : Int) ≤ 0; omega, by show (0 : Int) < 16; omega⟩, hR _ _ hK⟩⟩⟩⟩
    · rw [if_pos c] at hK
      exact hR _ _ hK
  | succ m ih =>
    intro i b hb1 hb2 h0 h1 hm hK
    refine wx_J [9] 9 tX3_next_ok rfl (fun J hR hJ => ?_)
    rw [nxM] at hK
    have e1 : (¬ mRipe s 0 i (mg s (0 * 2804 + 4)) ∧ (b < 0 ∨ mg s ((0 * 2804 + 364 + 7 * i) + 2) < mg s ((0 * 2804 + 364 + 7 * b) + 2))) → wX encM bdM mX3_next 0 0 K Pt 9 [some (pR 0), some (pI i), some (pI (i + 1)), none] [] s := fun c => by
      rw [if_pos c] at hK
      exact ih (i + 1) i (by omega) (by omega) (by omega) (by omega) (by omega) hK
    have e2 : ¬ (¬ mRipe s 0 i (mg s (0 * 2804 + 4)) ∧ (b < 0 ∨ mg s ((0 * 2804 + 364 + 7 * i) + 2) < mg s ((0 * 2804 + 364 + 7 * b) + 2))) → wX encM bdM mX3_next 0 0 K Pt 9 [some (pR 0), some (pI b), some (pI (i + 1)), none] [] s := fun c => by
      rw [if_neg c] at hK
      exact ih (i + 1) b (by omega) (by omega) (by omega) (by omega) (by omega) hK
    refine ⟨⟨by omega, by omega⟩, fun hx => ⟨⟨⟨by omega, by omega⟩, hx⟩, fun q => absurd q (by omega), fun _ => ⟨⟨by omega, by omega⟩, fun hp => ⟨⟨⟨by omega, by omega⟩, ⟨by omega, by omega⟩, hp⟩, fun r => ?_, fun r => ?_⟩⟩⟩⟩
    · have g := e2 (fun z => z.1 r)
      repeat' (first | (refine And.intro ?_ ?_) | (intro hq; first | (exact absurd hq (by omega)) | skip))
      all_goals first | omega | exact hJ _ _ _ _ g
    · have e1' := fun z => e1 ⟨r, z⟩
      have e2' : ¬ (b < 0 ∨ mg s ((0 * 2804 + 364 + 7 * i) + 2) < mg s ((0 * 2804 + 364 + 7 * b) + 2)) → _ := fun z => e2 (fun y => z y.2)
      repeat' (first | (refine And.intro ?_ ?_) | (intro hq; first | (exact absurd hq (by omega)) | skip))
      all_goals first | omega | exact hJ _ _ _ _ (e1' (by omega)) | exact hJ _ _ _ _ (e2' (by omega))
def sX3_next : MS → KM → Prop := fun s K => (0 ≤ mg s (0 * 2804 + 5) ∧ mg s (0 * 2804 + 5) ≤ 160) ∧ K [pI (gNext s).1] (gNext s).2
theorem mX3_next_ok : mOk encM bdM mX3_next (atR 0 (a0 sX3_next)) := by
  refine mOVa0 kX3_next (fun _ => rfl) (fun s K h hb => wx_J [9] 9 tX3_next_ok rfl (fun J hR hJ => ?_))
  obtain ⟨h1, hK⟩ := h
  exact ⟨⟨by omega, by omega⟩, hJ _ _ _ _ (X3_next_l (mS s 0 0) h1 _ 0 (-1) (by omega) (by omega) (by omega) h1.1 (by rw [Int.sub_zero]) hK)⟩
def ahM (s : MS) (p : Int) : Nat → Int → Int → Int → Int × Int
  | 0, _, a, b => (a, b)
  | m + 1, i, a, b => ahM s p m (i + 1) (wI (a + (if mRipe s 0 i p ∧ ¬ mRipe s 0 i (mg s (0 * 2804 + 4)) then 1 else 0))) (wI (b + (if mOver s 0 i p then 1 else 0)))
def gAh2 (s : MS) (p : Int × Int) : Int × MS := (p.1, mEn (mS s 1 0) p.2)
def gAhead0 (s : MS) (p : Int) : Int × MS := if inB p 0 20000 then (if p < mg s (0 * 2804 + 4) then (-2, s) else gAh2 s (ahM s p (mg s (0 * 2804 + 5)).toNat 0 0 0)) else (-1, s)
def gAhead (s : MS) (p : Int) : Int × MS := gAhead0 (mS s 0 0) p
theorem X3_ahead_l {K : KM} {Pt : MS → Prop} (s : MS) (p : Int) (hp : xB p) (hn : 0 ≤ mg s (0 * 2804 + 5) ∧ mg s (0 * 2804 + 5) ≤ 160) : ∀ (m : Nat) (i a b : Int), xB b → 0 ≤ i → i ≤ mg s (0 * 2804 + 5) → m = (mg s (0 * 2804 + 5) - i).toNat → K [pI (gAh2 s (ahM s p m i a b)).1] (gAh2 s (ahM s p m i a b)).2 → wX encM bdM mX3_ahead 0 0 K Pt 39 [some (pR 0), some (pI p), some (pI a), some (pI b), some (pI i)] [] s := by
  intro m
  induction m with
  | zero =>
    intro i a b hb2 h0 h1 hm hK
    refine wx_J [39] 9 tX3_ahead_ok rfl (fun J hR hJ => ?_)
    refine ⟨⟨by omega, by omega⟩, fun hx => ⟨⟨⟨by omega, by omega⟩, hx⟩, fun _ => ?_, fun q => absurd q (by omega)⟩⟩
    exact ⟨⟨by omega, by omega⟩, hb2, ⟨hb2, by show (0 : Int) ≤ 0; omega, by show (0 : Int) < 16; omega⟩, hR _ _ hK⟩
  | succ m ih =>
    intro i a b hb2 h0 h1 hm hK
    refine wx_J [39] 9 tX3_ahead_ok rfl (fun J hR hJ => ?_)
    rw [ahM] at hK
    have g := ih (i + 1) _ _ (wI_B _) (by omega) (by omega) (by omega) hK
    have z0 : xB 0 := ⟨by omega, by omega⟩
    have z1 : xB 1 := ⟨by omega, by omega⟩
    have dk : dOk 0 := ⟨by omega, by omega⟩
    have hi : 0 ≤ i ∧ i ≤ 160 := ⟨by omega, by omega⟩
    refine ⟨⟨by omega, by omega⟩, fun hx => ⟨⟨⟨by omega, by omega⟩, hx⟩, fun q => absurd q (by omega), fun _ => ⟨⟨dk, hi, hp⟩, fun r => ?_, fun r => ?_⟩⟩⟩
    · refine ⟨z1, fun q => absurd q (by omega), fun _ => ⟨⟨by omega, by omega⟩, fun hy => ⟨⟨dk, hi, hy⟩, fun r2 => ?_, fun r2 => ?_⟩⟩⟩
      · rw [if_neg (fun z => z.2 r2)] at g
        refine ⟨z1, fun _ => ⟨Or.inl rfl, fun _ => ⟨⟨dk, hi, hp⟩, fun r3 => ?_, fun r3 => ?_⟩⟩, fun q => absurd q (by omega)⟩
        · rw [if_pos r3] at g
          exact ⟨Or.inr rfl, fun _ => hJ _ _ _ _ g⟩
        · rw [if_neg r3] at g
          exact ⟨Or.inl rfl, fun _ => hJ _ _ _ _ g⟩
      · rw [if_pos ⟨r, r2⟩] at g
        refine ⟨z0, fun q => absurd rfl q, fun _ => ⟨Or.inr rfl, fun _ => ⟨⟨dk, hi, hp⟩, fun r3 => ?_, fun r3 => ?_⟩⟩⟩
        · rw [if_pos r3] at g
          exact ⟨Or.inr rfl, fun _ => hJ _ _ _ _ g⟩
        · rw [if_neg r3] at g
          exact ⟨Or.inl rfl, fun _ => hJ _ _ _ _ g⟩
    · rw [if_neg (fun z => r z.1)] at g
      refine ⟨z0, fun _ => ⟨Or.inl rfl, fun _ => ⟨⟨dk, hi, hp⟩, fun r3 => ?_, fun r3 => ?_⟩⟩, fun q => absurd rfl q⟩
      · rw [if_pos r3] at g
        exact ⟨Or.inr rfl, fun _ => hJ _ _ _ _ g⟩
      · rw [if_neg r3] at g
        exact ⟨Or.inl rfl, fun _ => hJ _ _ _ _ g⟩
def sX3_ahead : Int → MS → KM → Prop := fun p s K => (xB p ∧ 0 ≤ mg s (0 * 2804 + 5) ∧ mg s (0 * 2804 + 5) ≤ 160) ∧ K [pI (gAhead s p).1] (gAhead s p).2
theorem mX3_ahead_ok : mOk encM bdM mX3_ahead (atR 0 (a1 sX3_ahead)) := by
  refine mOVa1 kX3_ahead (fun _ => rfl) (fun p s K h hb => wx_J [39] 9 tX3_ahead_ok rfl (fun J hR hJ => ?_))
  obtain ⟨⟨h1, h2⟩, hK⟩ := h
  unfold gAhead gAhead0 at hK
  refine ⟨⟨by omega, by omega⟩, h1, ⟨⟨h1, ⟨by omega, by omega⟩, ⟨by omega, by omega⟩⟩, fun c => ?_, fun c => ?_⟩⟩
  · rw [if_pos c] at hK
    refine ⟨⟨by omega, by omega⟩, fun _ => ⟨⟨by omega, by omega⟩, fun hx => ⟨⟨h1, hx⟩, fun c2 => ?_, fun c2 => ?_⟩⟩, fun q => absurd q (by omega)⟩
    · rw [if_neg (Int.not_lt.mpr c2)] at hK
      exact hJ _ _ _ _ (X3_ahead_l (mS s 0 0) p h1 h2 _ 0 0 0 ⟨by omega, by omega⟩ (by omega) h2.1 (by rw [Int.sub_zero]) hK)
    · rw [if_pos c2] at hK
      exact hR _ _ hK
  · rw [if_neg c] at hK
    exact ⟨⟨by omega, by omega⟩, fun q => absurd rfl q, fun _ => hR _ _ hK⟩
