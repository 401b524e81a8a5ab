/-! ===== messages and finals, the class's ===== -/
/-- a message is sent: the cells of a desk -/
def sn1 (g : Int → Int) (kd : Int) (r : Row) : Int → Int :=
  in1 (in1 (in1 (up1 (up1 (up1 (up1 (up1 (up1 g (1484 + 6 * Int.tmod (g 7) 60 + 0) kd) (1484 + 6 * Int.tmod (g 7) 60 + 1) (r 0)) (1484 + 6 * Int.tmod (g 7) 60 + 2) (r 1)) (1484 + 6 * Int.tmod (g 7) 60 + 3) (r 2)) (1484 + 6 * Int.tmod (g 7) 60 + 4) (r 3)) (1484 + 6 * Int.tmod (g 7) 60 + 5) (r 4)) 7 1) (32 + kd) 1) (60 + 4 * r 0 + kd) 1
def msW (w : WS) (g : Int → Int) : Prop := w.1 4 = g 7 ∧ (∀ q c, 0 ≤ q → q < 60 → q < g 7 → 0 ≤ c → c < 6 → wG w 2 q c = g (1484 + 6 * q + c)) ∧ ∀ k kd, 0 ≤ k → k < 6 → 0 ≤ kd → kd < 4 → wG w 5 k kd = g (60 + 4 * k + kd)
theorem tm60 {z : Int} (h : 0 ≤ z) : 0 ≤ Int.tmod z 60 ∧ Int.tmod z 60 < 60 ∧ (z < 60 → Int.tmod z 60 = z) :=
  ⟨Int.tmod_nonneg 60 h, Int.tmod_lt_of_pos z (by decide), fun q => Int.tmod_eq_of_lt h q⟩
theorem tm40 {z : Int} (h : 0 ≤ z) : 0 ≤ Int.tmod z 40 ∧ Int.tmod z 40 < 40 ∧ (z < 40 → Int.tmod z 40 = z) :=
  ⟨Int.tmod_nonneg 40 h, Int.tmod_lt_of_pos z (by decide), fun q => Int.tmod_eq_of_lt h q⟩
theorem sn1_ne {g : Int → Int} {kd : Int} {r : Row} {c : Int} (h7 : 0 ≤ g 7) (hk : 0 ≤ kd ∧ kd < 4) (hr : 0 ≤ r 0 ∧ r 0 < 6) (hc : c < 7 ∨ (8 ≤ c ∧ c < 32) ∨ (36 ≤ c ∧ c < 60) ∨ (84 ≤ c ∧ c < 1484) ∨ 1844 ≤ c) : sn1 g kd r c = g c := by
  have t := tm60 h7
  unfold sn1
  generalize Int.tmod (g 7) 60 = q at t
  rw [in1_ne (by omega), in1_ne (by omega), in1_ne (by omega), up1_ne (by omega), up1_ne (by omega), up1_ne (by omega), up1_ne (by omega), up1_ne (by omega), up1_ne (by omega)]
theorem sn1_7 {g : Int → Int} {kd : Int} {r : Row} (h7 : 0 ≤ g 7 ∧ g 7 < 1000000) (hk : 0 ≤ kd ∧ kd < 4) (hr : 0 ≤ r 0 ∧ r 0 < 6) : sn1 g kd r 7 = g 7 + 1 := by
  have t := tm60 h7.1
  unfold sn1
  generalize Int.tmod (g 7) 60 = q at t
  rw [in1_ne (by omega), in1_ne (by omega)]
  unfold in1
  rw [up1_eq, up1_ne (by omega), up1_ne (by omega), up1_ne (by omega), up1_ne (by omega), up1_ne (by omega), up1_ne (by omega), wI_id (z := g 7 + 1) ⟨by omega, by omega⟩]
/-- the columns of a message -/
def mgC (kd : Int) (r : Row) (c : Int) : Int := if c = 0 then kd else r (c - 1)
theorem sn1_m {g : Int → Int} {kd : Int} {r : Row} {q c : Int} (h7 : 0 ≤ g 7) (hk : 0 ≤ kd ∧ kd < 4) (hr : 0 ≤ r 0 ∧ r 0 < 6) (hq : 0 ≤ q ∧ q < 60) (hc : 0 ≤ c ∧ c < 6) : sn1 g kd r (1484 + 6 * q + c) = if q = Int.tmod (g 7) 60 then mgC kd r c else g (1484 + 6 * q + c) := by
  have t := tm60 h7
  unfold sn1
  generalize Int.tmod (g 7) 60 = p at t
  rw [in1_ne (by omega), in1_ne (by omega), in1_ne (by omega)]
  by_cases e : q = p
  · subst e
    rw [if_pos rfl]
    have : c = 0 ∨ c = 1 ∨ c = 2 ∨ c = 3 ∨ c = 4 ∨ c = 5 := by omega
    rcases this with rfl | rfl | rfl | rfl | rfl | rfl
    · rw [up1_ne (by omega), up1_ne (by omega), up1_ne (by omega), up1_ne (by omega), up1_ne (by omega), up1_eq]
      rfl
    · rw [up1_ne (by omega), up1_ne (by omega), up1_ne (by omega), up1_ne (by omega), up1_eq]
      rfl
    · rw [up1_ne (by omega), up1_ne (by omega), up1_ne (by omega), up1_eq]
      rfl
    · rw [up1_ne (by omega), up1_ne (by omega), up1_eq]
      rfl
    · rw [up1_ne (by omega), up1_eq]
      rfl
    · rw [up1_eq]
      rfl
  · rw [if_neg e, up1_ne (by omega), up1_ne (by omega), up1_ne (by omega), up1_ne (by omega), up1_ne (by omega), up1_ne (by omega)]
theorem sn1_k {g : Int → Int} {kd : Int} {r : Row} {k j : Int} (h7 : 0 ≤ g 7) (hk : 0 ≤ kd ∧ kd < 4) (hr : 0 ≤ r 0 ∧ r 0 < 6) (h : 0 ≤ k ∧ k < 6) (hj : 0 ≤ j ∧ j < 4) : sn1 g kd r (60 + 4 * k + j) = if k = r 0 ∧ j = kd then wI (g (60 + 4 * k + j) + 1) else g (60 + 4 * k + j) := by
  have t := tm60 h7
  unfold sn1
  generalize Int.tmod (g 7) 60 = p at t
  by_cases e : k = r 0 ∧ j = kd
  · rw [if_pos e, e.1, e.2]
    unfold in1
    rw [up1_eq, up1_ne (by omega), up1_ne (by omega), up1_ne (by omega), up1_ne (by omega), up1_ne (by omega), up1_ne (by omega), up1_ne (by omega), up1_ne (by omega)]
  · rw [if_neg e, in1_ne (by omega), in1_ne (by omega), in1_ne (by omega), up1_ne (by omega), up1_ne (by omega), up1_ne (by omega), up1_ne (by omega), up1_ne (by omega), up1_ne (by omega)]
theorem sn1_o {g : Int → Int} {kd : Int} {r : Row} {j : Int} (h7 : 0 ≤ g 7) (hk : 0 ≤ kd ∧ kd < 4) (hr : 0 ≤ r 0 ∧ r 0 < 6) (hj : 0 ≤ j ∧ j < 4) : sn1 g kd r (32 + j) = if j = kd then wI (g (32 + j) + 1) else g (32 + j) := by
  have t := tm60 h7
  unfold sn1
  generalize Int.tmod (g 7) 60 = p at t
  rw [in1_ne (by omega)]
  by_cases e : j = kd
  · rw [if_pos e, e]
    unfold in1
    rw [up1_eq, up1_ne (by omega), up1_ne (by omega), up1_ne (by omega), up1_ne (by omega), up1_ne (by omega), up1_ne (by omega), up1_ne (by omega)]
  · rw [if_neg e, in1_ne (by omega), in1_ne (by omega), up1_ne (by omega), up1_ne (by omega), up1_ne (by omega), up1_ne (by omega), up1_ne (by omega), up1_ne (by omega)]
theorem msW.send {w : WS} {g : Int → Int} {kd i : Int} {r : Row} (h : msW w g) (hr : rwW w i r) (h7 : 0 ≤ g 7 ∧ g 7 < 1000000) (hk : 0 ≤ kd ∧ kd < 4) (h0 : 0 ≤ r 0 ∧ r 0 < 6) : msW (wSend w kd i) (sn1 g kd r) := by
  obtain ⟨a, b, c⟩ := h
  have t := tm60 h7.1
  refine ⟨?_, fun q j q0 q1 q2 j0 j1 => ?_, fun k j k0 k1 j0 j1 => ?_⟩
  · show wI (w.1 4 + 1) = _
    rw [sn1_7 h7 hk h0, a, wI_id (z := g 7 + 1) ⟨by omega, by omega⟩]
  · rw [sn1_7 h7 hk h0] at q2
    rw [sn1_m h7.1 hk h0 ⟨q0, q1⟩ ⟨j0, j1⟩]
    show wG (wP (wP (wP (wP (wP (wP (wRe w 2 (Int.tmod (w.1 4) 60)) 2 (Int.tmod (w.1 4) 60) 0 kd) 2 (Int.tmod (w.1 4) 60) 1 (wG w 1 i 0)) 2 (Int.tmod (w.1 4) 60) 2 (wG w 1 i 1)) 2 (Int.tmod (w.1 4) 60) 3 (wG w 1 i 2)) 2 (Int.tmod (w.1 4) 60) 4 (wG w 1 i 3)) 2 (Int.tmod (w.1 4) 60) 5 (wG w 1 i 4)) 2 q j = _
    rw [a, hr.1 0 (by decide) (by decide), hr.1 1 (by decide) (by decide), hr.1 2 (by decide) (by decide), hr.1 3 (by decide) (by decide), hr.1 4 (by decide) (by decide)]
    have e0 : wG (wRe w 2 (Int.tmod (g 7) 60)) 2 q j = wG w 2 q j := rfl
    have bb := b q j q0 q1
    generalize Int.tmod (g 7) 60 = p at t e0 ⊢
    have tp : 0 ≤ p ∧ p < 60 := ⟨t.1, t.2.1⟩
    rw [p2_at tp (by decide), p2_at tp (by decide), p2_at tp (by decide), p2_at tp (by decide), p2_at tp (by decide), p2_at tp (by decide), e0]
    by_cases e : q = p
    · rw [if_pos e]
      have : j = 0 ∨ j = 1 ∨ j = 2 ∨ j = 3 ∨ j = 4 ∨ j = 5 := by omega
      rcases this with rfl | rfl | rfl | rfl | rfl | rfl
      · rw [if_neg (by omega), if_neg (by omega), if_neg (by omega), if_neg (by omega), if_neg (by omega), if_pos ⟨e, rfl⟩]; rfl
      · rw [if_neg (by omega), if_neg (by omega), if_neg (by omega), if_neg (by omega), if_pos ⟨e, rfl⟩]; rfl
      · rw [if_neg (by omega), if_neg (by omega), if_neg (by omega), if_pos ⟨e, rfl⟩]; rfl
      · rw [if_neg (by omega), if_neg (by omega), if_pos ⟨e, rfl⟩]; rfl
      · rw [if_neg (by omega), if_pos ⟨e, rfl⟩]; rfl
      · rw [if_pos ⟨e, rfl⟩]; rfl
    · rw [if_neg e, if_neg (fun z => e z.1), if_neg (fun z => e z.1), if_neg (fun z => e z.1), if_neg (fun z => e z.1), if_neg (fun z => e z.1), if_neg (fun z => e z.1)]
      exact bb (by omega) j0 j1
  · rw [sn1_k h7.1 hk h0 ⟨k0, k1⟩ ⟨j0, j1⟩]
    show wG (wP (wRe w 2 0) 5 (wG w 1 i 0) kd (wI (wG w 5 (wG w 1 i 0) kd + 1))) 5 k j = _
    rw [hr.1 0 (by decide) (by decide), p5_at h0 (by omega)]
    by_cases e : k = r 0 ∧ j = kd
    · rw [if_pos e, if_pos e, e.1, e.2, c _ _ h0.1 h0.2 hk.1 hk.2]
    · rw [if_neg e, if_neg e]
      exact c k j k0 k1 j0 j1
/-- what of the finals a message leaves alone, and the sessions -/
theorem send_t {w : WS} {k i : Int} : (wSend w k i).2 1 = w.2 1 ∧ (wSend w k i).2 3 = w.2 3 ∧ (wSend w k i).1 5 = w.1 5 ∧ (wSend w k i).1 9 = w.1 9 := ⟨rfl, rfl, rfl, rfl⟩
theorem send_5 {w : WS} {kd i k c : Int} (hi : 0 ≤ wG w 1 i 0 ∧ wG w 1 i 0 < 6) (hk : 0 ≤ kd ∧ kd < 4) (hc : 4 ≤ c) : wG (wSend w kd i) 5 k c = wG w 5 k c := by
  show wG (wP (wRe w 2 0) 5 (wG w 1 i 0) kd (wI (wG w 5 (wG w 1 i 0) kd + 1))) 5 k c = _
  rw [p5_at hi (by omega), if_neg (by omega)]
  rfl
