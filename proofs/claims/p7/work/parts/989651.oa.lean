/-! ===== the model's sessions as a list, its other cells ===== -/
def zB (c : Int) : Prop := c ≠ 5 ∧ (c < 364 ∨ 1484 ≤ c)
/-- the desk's cells but for its sessions are g's -/
def sB (d : Int) (s : MS) (g : Int → Int) : Prop := ∀ c, 0 ≤ c → zB c → mg s (d * 2804 + c) = g c
theorem sB.put {d : Int} {s : MS} {g : Int → Int} (h : sB d s g) (hd : 0 ≤ d) {x a v : Int} (hx : x = d * 2804 + a) (ha : 0 ≤ a) : sB d (mP s x v) (up1 g a v) := by
  subst hx
  intro c c0 hc
  by_cases e : c = a
  · subst e
    rw [mg_eq, up1_eq]
  · rw [mg_ne (by omega) (by omega) (by omega), up1_ne e]
    exact h c c0 hc
theorem sB.inc {d : Int} {s : MS} {g : Int → Int} (h : sB d s g) (hd : 0 ≤ d) {x a v : Int} (hx : x = d * 2804 + a) (ha : 0 ≤ a) (hz : zB a) : sB d (mInc s x v) (in1 g a v) := by
  unfold in1
  rw [← h a ha hz]
  subst hx
  exact h.put hd rfl ha
theorem sB.same {d : Int} {s s' : MS} {g : Int → Int} (h : sB d s g) (e : ∀ c, 0 ≤ c → zB c → mg s' (d * 2804 + c) = mg s (d * 2804 + c)) : sB d s' g := fun c c0 hc => (e c c0 hc).trans (h c c0 hc)
theorem sB.cong {d : Int} {s s' : MS} {g : Int → Int} (h : sB d s g) (e : s'.2 3 = s.2 3) : sB d s' g := h.same (fun _ _ _ => mg_cong e _)
theorem sB.ro {d : Int} {s : MS} {g : Int → Int} (h : sB d s g) (hd : 0 ≤ d) {i c v : Int} (hi : 0 ≤ i ∧ i < 160) (hc : 0 ≤ c ∧ c < 7) : sB d (mP s (d * 2804 + 364 + 7 * i + c) v) g := h.same (fun q q0 hq => by
  unfold zB at hq
  exact mg_ne (by omega) (by omega) (by omega))
def rwM (d : Int) (s : MS) (i : Int) (r : Row) : Prop := ∀ c, 0 ≤ c → c < 7 → mg s (d * 2804 + 364 + 7 * i + c) = r c
def lsM (d : Int) (s : MS) (l : List Row) : Prop := (mg s (d * 2804 + 5) = l.length ∧ l.length ≤ 160) ∧ ∀ (i : Nat) (r : Row), l[i]? = some r → rwM d s i r
theorem rwM.of {d d' : Int} {s s' : MS} {i i' : Int} {r : Row} (h : rwM d s i r) (e : ∀ c, 0 ≤ c → c < 7 → mg s' (d' * 2804 + 364 + 7 * i' + c) = mg s (d * 2804 + 364 + 7 * i + c)) : rwM d' s' i' r := fun c c0 c1 => (e c c0 c1).trans (h c c0 c1)
theorem lsM.of {d d' : Int} {s s' : MS} {l : List Row} (h : lsM d s l) (e5 : mg s' (d' * 2804 + 5) = mg s (d * 2804 + 5)) (e : ∀ q, 364 ≤ q → q < 1484 → mg s' (d' * 2804 + q) = mg s (d * 2804 + q)) : lsM d' s' l := by
  refine ⟨⟨e5.trans h.1.1, h.1.2⟩, fun i r hi => (h.2 i r hi).of (fun c c0 c1 => ?_)⟩
  have hl := lt_some hi
  have := h.1.2
  have a := e (364 + 7 * (i : Int) + c) (by omega) (by omega)
  rw [show d' * 2804 + 364 + 7 * (i : Int) + c = d' * 2804 + (364 + 7 * (i : Int) + c) by omega, show d * 2804 + 364 + 7 * (i : Int) + c = d * 2804 + (364 + 7 * (i : Int) + c) by omega]
  exact a
theorem lsM.cong {d : Int} {s s' : MS} {l : List Row} (h : lsM d s l) (e : s'.2 3 = s.2 3) : lsM d s' l := h.of (mg_cong e _) (fun _ _ _ => mg_cong e _)
theorem lsM.ne {d : Int} {s : MS} {l : List Row} (h : lsM d s l) (hd : 0 ≤ d) {a v : Int} (ha : 0 ≤ a) (hz : zB a) : lsM d (mP s (d * 2804 + a) v) l := by
  unfold zB at hz
  exact h.of (mg_ne (by omega) (by omega) (by omega)) (fun q q0 q1 => mg_ne (by omega) (by omega) (by omega))
theorem lsM.put {d : Int} {s : MS} {l : List Row} {i : Nat} {r : Row} {c v : Int} (h : lsM d s l) (hd : 0 ≤ d) (hi : l[i]? = some r) (hc : 0 ≤ c ∧ c < 7) : lsM d (mP s (d * 2804 + 364 + 7 * (i : Int) + c) v) (l.set i (up1 r c v)) := by
  have hl := lt_some hi
  have hn := h.1.2
  refine ⟨⟨by rw [mg_ne (by omega) (by omega) (by omega), List.length_set]; exact h.1.1, by rw [List.length_set]; exact hn⟩, fun j q hj => ?_⟩
  rw [List.getElem?_set] at hj
  by_cases e : i = j
  · subst e
    rw [if_pos rfl, if_pos hl] at hj
    have hr := h.2 i r hi
    cases hj
    intro k k0 k1
    by_cases ek : k = c
    · subst ek
      rw [mg_eq, up1_eq]
    · rw [mg_ne (by omega) (by omega) (by omega), up1_ne ek]
      exact hr k k0 k1
  · rw [if_neg e] at hj
    have hj2 := lt_some hj
    exact (h.2 j q hj).of (fun k k0 k1 => mg_ne (by omega) (by omega) (by omega))
theorem lsM.at {d : Int} {s : MS} {l : List Row} {i : Nat} {r : Row} (h : lsM d s l) (hi : l[i]? = some r) {c : Int} (c0 : 0 ≤ c) (c1 : c < 7) : mg s (d * 2804 + 364 + 7 * (i : Int) + c) = r c := h.2 i r hi c c0 c1
/-! a message is sent -/
def sdG (a : Int) (r : Row) : Nat → Int → (Int → Int) → Int → Int
  | 0, _, g => g
  | m + 1, w, g => sdG a r m (w + 1) (up1 g (a + 1 + w) (r w))
theorem sdL_B {d a : Int} {l : List Row} {i : Nat} {r : Row} (hd : 0 ≤ d) (ha : 1484 ≤ a ∧ a < 1844) (hi : l[i]? = some r) : ∀ (m : Nat) (w : Int) (s : MS) (g : Int → Int), 0 ≤ w → w + m ≤ 5 → lsM d s l → sB d s g → lsM d (sdL (d * 2804 + a) d i m w s) l ∧ sB d (sdL (d * 2804 + a) d i m w s) (sdG a r m w g)
  | 0, _, _, _, _, _, hL, hB => ⟨hL, hB⟩
  | m + 1, w, s, g, h0, h1, hL, hB => by
    rw [sdL, sdG, hL.at hi h0 (by omega), show d * 2804 + a + 1 + w = d * 2804 + (a + 1 + w) by omega]
    exact sdL_B hd ha hi m (w + 1) _ _ (by omega) (by omega) (hL.ne hd (by omega) (by unfold zB; omega)) (hB.put hd rfl (by omega))
theorem sdG5 {a kd : Int} {r : Row} {g : Int → Int} : sdG a r 5 0 (up1 g a kd) = up1 (up1 (up1 (up1 (up1 (up1 g (a + 0) kd) (a + 1) (r 0)) (a + 2) (r 1)) (a + 3) (r 2)) (a + 4) (r 3)) (a + 5) (r 4) := by
  show up1 (up1 (up1 (up1 (up1 (up1 g a kd) (a + 1 + 0) (r 0)) (a + 1 + (0 + 1)) (r (0 + 1))) (a + 1 + (0 + 1 + 1)) (r (0 + 1 + 1))) (a + 1 + (0 + 1 + 1 + 1)) (r (0 + 1 + 1 + 1))) (a + 1 + (0 + 1 + 1 + 1 + 1)) (r (0 + 1 + 1 + 1 + 1)) = _
  rw [show (0 : Int) + 1 = 1 from rfl, show (1 : Int) + 1 = 2 from rfl, show (2 : Int) + 1 = 3 from rfl, show (3 : Int) + 1 = 4 from rfl, show a + 1 + 0 = a + 1 by omega, show a + 1 + 1 = a + 2 by omega, show a + 1 + 2 = a + 3 by omega, show a + 1 + 3 = a + 4 by omega, show a + 1 + 4 = a + 5 by omega, show a + 0 = a by omega]
theorem snM {d kd : Int} {s : MS} {l : List Row} {g : Int → Int} {i : Nat} {r : Row} (hL : lsM d s l) (hB : sB d s g) (hd : 0 ≤ d) (hi : l[i]? = some r) (h7 : 0 ≤ g 7) (hk : 0 ≤ kd ∧ kd < 4) (h0 : 0 ≤ r 0 ∧ r 0 < 6) : lsM d (mSend s d kd i) (l.set i (up1 r 6 (if kd = 3 then 0 else 1 + kd))) ∧ sB d (mSend s d kd i) (sn1 g kd r) := by
  have t := tm60 h7
  have e7 := hB 7 (by decide) (by unfold zB; omega)
  have hl := lt_some hi
  have hn := hL.1.2
  have key : lsM d (mSend4 s d kd i) l ∧ sB d (mSend4 s d kd i) (in1 (in1 (sdG (1484 + 6 * Int.tmod (g 7) 60) r 5 0 (up1 g (1484 + 6 * Int.tmod (g 7) 60) kd)) 7 1) (32 + kd) 1) := by
    unfold mSend4
    rw [e7, show d * 2804 + 1484 + 6 * Int.tmod (g 7) 60 = d * 2804 + (1484 + 6 * Int.tmod (g 7) 60) by omega]
    generalize Int.tmod (g 7) 60 = q at t
    obtain ⟨a, b⟩ := sdL_B (a := 1484 + 6 * q) hd (by omega) hi 5 0 (mP s (d * 2804 + (1484 + 6 * q)) kd) (up1 g (1484 + 6 * q) kd) (by decide) (by decide) (hL.ne hd (by omega) (by unfold zB; omega)) (hB.put hd rfl (by omega))
    exact ⟨(a.ne hd (by decide) (by unfold zB; omega)).ne hd (by omega) (by unfold zB; omega), (b.inc hd rfl (by decide) (by unfold zB; omega)).inc hd rfl (by omega) (by unfold zB; omega)⟩
  obtain ⟨a, b⟩ := key
  have e0 := a.at hi (c := 0) (by decide) (by decide)
  unfold mSend
  dsimp only
  rw [e0]
  refine ⟨(a.ne hd (by omega) (by unfold zB; omega)).put hd hi (by decide), ?_⟩
  refine sB.ro ?_ hd (by omega) (by decide)
  have := b.inc (x := d * 2804 + (60 + 4 * r 0 + kd)) (a := 60 + 4 * r 0 + kd) (v := 1) hd rfl (by omega) (by unfold zB; omega)
  rw [sdG5] at this
  exact this
