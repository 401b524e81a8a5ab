/-! ===== the model: again, without, years ===== -/
def agM1 (K : MS → Prop) (n2 : Nat) : Nat → Int → MS → Prop
  | 0, i, s => nIn s ≤ i ∧ K s
  | n + 1, i, s => (nIn s ≤ i → K s) ∧ (i < nIn s → i ≤ 159 ∧ agP s 4 i n2 (fun s' => agM1 K n2 n (i + 1) s'))
def agM2 : Nat → Int → MS → MS
  | 0, _, s => s
  | m + 1, k, s => agM2 m (k + 1) (mEn s (mg s (4 * 2804 + (32 + k))))
def gAgE (s : MS) : Int × MS :=
  let s1 := agM2 4 0 (mS s 1 0)
  let s2 := mEn s1 (mg s1 (4 * 2804 + 5))
  (mg (mEn s2 (mClosed s2 4)) (4 * 2804 + 10), mEn s2 (mClosed s2 4))
theorem mg_En {s : MS} {x a : Int} : mg (mEn s x) a = mg s a := rfl
theorem X3_again_l2 {K : KM} {Pt : MS → Prop} : ∀ (m : Nat) (k : Int) (s : MS), s.1 1 = k → 0 ≤ k → k ≤ 4 → m = (4 - k).toNat → (let s1 := agM2 m k s
    let s2 := mEn s1 (mg s1 (4 * 2804 + 5))
    K [pI (mg (mEn s2 (mClosed s2 4)) (4 * 2804 + 10))] (mEn s2 (mClosed s2 4))) → wX encM bdM mX3_again 0 0 K Pt 59 [some (pR 0), none, none, none, some (pI k)] [] s := by
  intro m
  induction m with
  | zero =>
    intro k s hs h0 h1 hm hK
    refine wx_J [26, 59] 9 tX3_again_ok rfl (fun J hR hJ => ?_)
    rw [agM2] at hK
    refine ⟨⟨⟨by omega, by omega⟩, ⟨by omega, by omega⟩⟩, fun _ => ?_, fun q => absurd q (by omega)⟩
    exact ⟨⟨by omega, by omega⟩, fun b5 => ⟨b5, ⟨b5, by omega, by omega⟩, ⟨by omega, by omega⟩, fun bc => ⟨bc, ⟨bc, by show (0 : Int) ≤ s.1 1 + 1; omega, by show s.1 1 + 1 < 16; omega⟩, ⟨by omega, by omega⟩, fun _ => hR _ _ hK⟩⟩⟩
  | succ m ih =>
    intro k s hs h0 h1 hm hK
    refine wx_J [26, 59] 9 tX3_again_ok rfl (fun J hR hJ => ?_)
    rw [agM2] at hK
    have g := ih (k + 1) (mEn s (mg s (4 * 2804 + (32 + k)))) (by show s.1 1 + 1 = k + 1; omega) (by omega) (by omega) (by omega) hK
    exact ⟨⟨⟨by omega, by omega⟩, ⟨by omega, by omega⟩⟩, fun q => absurd q (by omega), fun _ => ⟨⟨by omega, by omega⟩, fun bx => ⟨bx, ⟨bx, by omega, by omega⟩, hJ _ _ _ _ g⟩⟩⟩
theorem X3_again_l1 {K : KM} {Pt : MS → Prop} (n2 : Nat) : ∀ (n : Nat) (i : Int) (s : MS), 0 ≤ i → i ≤ 160 → agM1 (fun s => K [pI (gAgE s).1] (gAgE s).2) n2 n i s → wX encM bdM mX3_again 0 0 K Pt 26 [some (pR 0), none, none, none, some (pI i)] [] s := by
  have fin : ∀ (i : Int) (s : MS), 0 ≤ i → i ≤ 160 → nIn s ≤ i → K [pI (gAgE s).1] (gAgE s).2 → wX encM bdM mX3_again 0 0 K Pt 26 [some (pR 0), none, none, none, some (pI i)] [] s := by
    intro i s h0 h1 hn hK
    refine wx_J [26, 59] 9 tX3_again_ok rfl (fun J hR hJ => ?_)
    exact ⟨⟨by omega, by omega⟩, fun hx => ⟨⟨⟨by omega, by omega⟩, hx⟩, fun _ => ⟨⟨by omega, by omega⟩, hJ _ _ _ _ (X3_again_l2 4 0 (mS s 1 0) rfl (by omega) (by omega) (by omega) hK)⟩, fun q => absurd (show i < mg s (0 * 2804 + 6) from q) (Int.not_lt.mpr hn)⟩⟩
  intro n
  induction n with
  | zero =>
    intro i s h0 h1 h
    exact fin i s h0 h1 h.1 h.2
  | succ n ih =>
    intro i s h0 h1 h
    obtain ⟨p1, p2⟩ := h
    by_cases c : nIn s ≤ i
    · exact fin i s h0 h1 c (p1 c)
    · obtain ⟨q1, q2⟩ := p2 (by omega)
      refine wx_J [26, 59] 9 tX3_again_ok rfl (fun J hR hJ => ?_)
      exact ⟨⟨by omega, by omega⟩, fun hx => ⟨⟨⟨by omega, by omega⟩, hx⟩, fun q => absurd q c, fun _ => ⟨⟨⟨by omega, by omega⟩, h0, q1⟩, n2, agP_mono (fun s' y => hJ _ _ _ _ (ih _ _ (by omega) (by omega) y)) q2⟩⟩⟩
def sX3_again : Int → Int → Int → MS → KM → Prop := fun g l e s K => (xB g ∧ xB l ∧ xB e) ∧ (¬ okSet g l e → K [pI (-1)] (mS s 0 0)) ∧ (okSet g l e → ∃ n2 n, agM1 (fun s => K [pI (gAgE s).1] (gAgE s).2) n2 n 0 (mStartA (mS s 0 0) g l e))
theorem mX3_again_ok : mOk encM bdM mX3_again (atR 0 (a3 sX3_again)) := by
  refine mOVa3 kX3_again (fun _ _ _ => rfl) (fun g l e s K h hb => wx_J [26, 59] 9 tX3_again_ok rfl (fun J hR hJ => ?_))
  obtain ⟨h1, p1, p2⟩ := h
  refine ⟨⟨by omega, by omega⟩, ⟨h1, fun c => ?_, fun c => ?_⟩⟩
  · obtain ⟨n2, n, p⟩ := p2 c
    exact ⟨⟨by omega, by omega⟩, fun _ => ⟨h1, hJ _ _ _ _ (X3_again_l1 n2 n 0 _ (by omega) (by omega) p)⟩, fun q => absurd q (by omega)⟩
  · exact ⟨⟨by omega, by omega⟩, fun q => absurd rfl q, fun _ => hR _ _ (p1 c)⟩
def woM (r : Int) (K : MS → Prop) (n2 : Nat) : Nat → Int → MS → Prop
  | 0, i, s => nIn s ≤ i ∧ K s
  | n + 1, i, s => (nIn s ≤ i → K s) ∧ (i < nIn s → i ≤ 159 ∧ (iC s i 1 = r → woM r K n2 n (i + 1) s) ∧ (iC s i 1 ≠ r → agP s 4 i n2 (fun s' => woM r K n2 n (i + 1) s')))
def gWoE (s : MS) : Int × MS :=
  let s1 := mEn (mS s 1 0) (mg s (4 * 2804 + 10))
  let s2 := mEn s1 (mg s1 (4 * 2804 + 5))
  (mg (mEn s2 (mClosed s2 4)) (4 * 2804 + 4), mEn s2 (mClosed s2 4))
theorem X3_without_l {K : KM} {Pt : MS → Prop} (r : Int) (hr : xB r) (n2 : Nat) : ∀ (n : Nat) (i : Int) (s : MS), 0 ≤ i → i ≤ 160 → woM r (fun s => K [pI (gWoE s).1] (gWoE s).2) n2 n i s → wX encM bdM mX3_without 0 0 K Pt 62 [some (pR 0), some (pI r), some (pI i)] [] s := by
  have fin : ∀ (i : Int) (s : MS), 0 ≤ i → i ≤ 160 → nIn s ≤ i → K [pI (gWoE s).1] (gWoE s).2 → wX encM bdM mX3_without 0 0 K Pt 62 [some (pR 0), some (pI r), some (pI i)] [] s := by
    intro i s h0 h1 hn hK
    refine wx_J [62] 9 tX3_without_ok rfl (fun J hR hJ => ?_)
    refine ⟨⟨by omega, by omega⟩, fun hx => ⟨⟨⟨by omega, by omega⟩, hx⟩, fun _ => ?_, fun q => absurd (show i < mg s (0 * 2804 + 6) from q) (Int.not_lt.mpr hn)⟩⟩
    exact ⟨⟨by omega, by omega⟩, ⟨by omega, by omega⟩, fun a => ⟨a, ⟨a, by show (0 : Int) ≤ 0; omega, by show (0 : Int) < 16; omega⟩, ⟨by omega, by omega⟩, fun b => ⟨b, ⟨b, by show (0 : Int) ≤ 0 + 1; omega, by show (0 : Int) + 1 < 16; omega⟩, ⟨by omega, by omega⟩, fun c => ⟨c, ⟨c, by show (0 : Int) ≤ 0 + 1 + 1; omega, by show (0 : Int) + 1 + 1 < 16; omega⟩, ⟨by omega, by omega⟩, fun _ => hR _ _ hK⟩⟩⟩⟩
  intro n
  induction n with
  | zero =>
    intro i s h0 h1 h
    exact fin i s h0 h1 h.1 h.2
  | succ n ih =>
    intro i s h0 h1 h
    obtain ⟨p1, p2⟩ := h
    by_cases c : nIn s ≤ i
    · exact fin i s h0 h1 c (p1 c)
    · obtain ⟨q1, q2, q3⟩ := p2 (by omega)
      refine wx_J [62] 9 tX3_without_ok rfl (fun J hR hJ => ?_)
      exact ⟨⟨by omega, by omega⟩, fun hx => ⟨⟨⟨by omega, by omega⟩, hx⟩, fun q => absurd q c, fun _ => ⟨⟨by omega, by omega⟩, fun b1 => ⟨⟨b1, hr⟩, fun e => hJ _ _ _ _ (ih _ _ (by omega) (by omega) (q2 e)), fun e => ⟨⟨⟨by omega, by omega⟩, h0, q1⟩, n2, agP_mono (fun s' y => hJ _ _ _ _ (ih _ _ (by omega) (by omega) y)) (q3 e)⟩⟩⟩⟩⟩
def gWiS (s : MS) (r : Int) : MS := mP (gLatS s) (4 * 2804 + (20 + r)) 1
def sX3_without : Int → MS → KM → Prop := fun r s K => (xB r ∧ mok1 s) ∧ (¬ mSrc s r → K [pI (-1)] (mS s 0 0)) ∧ (mSrc s r → (mg s (0 * 2804 + 0) = 1 → K [pI (-2)] (mS s 0 0)) ∧ (mg s (0 * 2804 + 0) ≠ 1 → ∃ n2 n, woM r (fun s => K [pI (gWoE s).1] (gWoE s).2) n2 n 0 (gWiS s r)))
theorem mX3_without_ok : mOk encM bdM mX3_without (atR 0 (a1 sX3_without)) := by
  refine mOVa1 kX3_without (fun _ => rfl) (fun r s K h hb => wx_J [62] 9 tX3_without_ok rfl (fun J hR hJ => ?_))
  obtain ⟨⟨h1, h2⟩, p1, p2⟩ := h
  refine ⟨⟨by omega, by omega⟩, ⟨⟨h1, h2.1⟩, fun c => ?_, fun c => ?_⟩⟩
  · obtain ⟨q1, q2⟩ := p2 c
    have hr : r < mg s 0 := c.2
    have hr0 : 0 ≤ r := c.1
    refine ⟨⟨by omega, by omega⟩, fun _ => ⟨⟨by omega, by omega⟩, fun hx => ⟨⟨hx, ⟨by omega, by omega⟩⟩, fun e => ?_, fun e => hR _ _ (q1 e)⟩⟩, fun q => absurd q (by omega)⟩
    obtain ⟨n2, n, p⟩ := q2 e
    exact ⟨⟨by omega, by omega⟩, fun b1 => ⟨⟨by omega, by omega⟩, fun b2 => ⟨⟨by omega, by omega⟩, fun b3 => ⟨⟨b1, b2, b3⟩, ⟨⟨by omega, by omega⟩, ⟨by omega, by omega⟩⟩, hJ _ _ _ _ (X3_without_l r h1 n2 n 0 (gWiS s r) (by omega) (by omega) p)⟩⟩⟩⟩
  · exact ⟨⟨by omega, by omega⟩, fun q => absurd rfl q, fun _ => hR _ _ (p1 c)⟩
/-- events drawn by a seed -/
def yrD4 (s : MS) : MS := mDraw (mDraw (mDraw (mDraw s)))
def yrT (s : MS) : Int := wI (wI (mg s (4 * 2804 + 4) - mg s (4 * 2804 + 2)) + dOf (dAfter (dAfter (s.1 21))) 100)
def yrTc (t : Int) : Int := if t < 0 then 0 else if 9999 < t then 9999 else t
def yrM (c : Int) (K : Int → MS → Prop) (n2 : Nat) : Nat → Int → Int → MS → Prop
  | 0, k, a, s => (c ≤ k ∨ 160 ≤ mg s (4 * 2804 + 6)) ∧ K a s
  | n + 1, k, a, s => ((c ≤ k ∨ 160 ≤ mg s (4 * 2804 + 6)) → K a s) ∧ ((k < c ∧ mg s (4 * 2804 + 6) < 160) → (0 ≤ mg s (4 * 2804 + 6) ∧ (0 < mg s (4 * 2804 + 0) ∧ mg s (4 * 2804 + 0) ≤ 4) ∧ (0 ≤ dOf (dAfter (dAfter (dAfter (dAfter (s.1 21))))) (mg s (4 * 2804 + 0)) ∧ dOf (dAfter (dAfter (dAfter (dAfter (s.1 21))))) (mg s (4 * 2804 + 0)) ≤ 3)) ∧ mComeP (yrD4 s) 4 (dOf (dAfter (s.1 21)) 6) (yrTc (yrT s)) (wI (dOf (dAfter (dAfter (dAfter (s.1 21)))) 199 - 99)) (dOf (dAfter (dAfter (dAfter (dAfter (s.1 21))))) (mg s (4 * 2804 + 0))) n2 (fun s' => yrM c K n2 n (k + 1) (wI (a + (if mHow (yrD4 s) 4 (yrTc (yrT s)) < 2 then 1 else 0))) s'))
