/-! ===== a table's inputs, and those of a desk ===== -/
theorem rS.rows {w w' : WS} {g : Int → Int} (h : rS w g) (f : ∀ k, k < 10 → w'.1 k = w.1 k) (z' : wZ w' 0 = wZ w 0) (e : ∀ r c, 0 ≤ r → r < wZ w 0 → 0 ≤ c → c < 5 → wG w' 0 r c = wG w 0 r c) : rS w' g := by
  obtain ⟨⟨a0, a1, a2, a3⟩, ⟨b6, b7, b8⟩, ⟨z, z1, z2⟩, s⟩ := h
  refine ⟨⟨?_, ?_, ?_, ?_⟩, ⟨?_, ?_, ?_⟩, ⟨by rw [z']; exact z, z1, z2⟩, fun r c r0 r1 c0 c1 => ?_⟩
  · rw [f 0 (by decide)]; exact a0
  · rw [f 1 (by decide)]; exact a1
  · rw [f 2 (by decide)]; exact a2
  · rw [f 3 (by decide)]; exact a3
  · rw [f 6 (by decide)]; exact b6
  · rw [f 7 (by decide)]; exact b7
  · rw [f 8 (by decide)]; exact b8
  · rw [e r c r0 (by omega) c0 c1]
    exact s r c r0 r1 c0 c1
theorem rS.of {w w' : WS} {g : Int → Int} (h : rS w g) (f : ∀ k, w'.1 k = w.1 k) (e : w'.2 0 = w.2 0) : rS w' g :=
  h.rows (fun k _ => f k) (by unfold wZ; rw [e]) (fun r c _ _ _ _ => by unfold wG; rw [e])
theorem p4_eq {w : WS} {r c v : Int} (hr : 0 ≤ r ∧ r < 160) (hc : 0 ≤ c ∧ c < 7) : wG (wP w 4 r c v) 4 r c = v := by
  show tg 160 7 (ts 160 7 (w.2 4).2 r c v) r c = v
  unfold tg ts
  rw [if_pos ⟨hr.1, hr.2, hc.1, hc.2⟩, if_pos ⟨hr.1, hr.2, hc.1, hc.2⟩]
  exact if_pos rfl
theorem p4_ne {w : WS} {r c v r' c' : Int} (h : r' ≠ r ∨ c' ≠ c) : wG (wP w 4 r c v) 4 r' c' = wG w 4 r' c' := by
  show tg 160 7 (ts 160 7 (w.2 4).2 r c v) r' c' = tg 160 7 (w.2 4).2 r' c'
  unfold tg ts
  split
  · split
    · exact if_neg (by omega)
    · rfl
  · rfl
theorem op4_ne {w : WS} {i c : Int} (h0 : 0 ≤ wZ w 4) (h : i ≠ wZ w 4) : wG (wOp w 4 (wZ w 4)) 4 i c = wG w 4 i c := by
  show tg 160 7 (topen 7 (w.2 4).2 (wZ w 4) (wZ w 4)) i c = tg 160 7 (w.2 4).2 i c
  generalize wZ w 4 = z at h0 h
  unfold tg topen xcp
  split
  · rw [if_neg (by omega), if_neg (by omega)]
  · rfl
theorem op4_eq {w : WS} {c : Int} (h0 : 0 ≤ wZ w 4) (hc : 0 ≤ c ∧ c < 7) : wG (wOp w 4 (wZ w 4)) 4 (wZ w 4) c = 0 := by
  show tg 160 7 (topen 7 (w.2 4).2 (wZ w 4) (wZ w 4)) (wZ w 4) c = 0
  generalize wZ w 4 = z at h0
  unfold tg topen
  split
  · rw [if_pos (by omega)]
  · rfl
theorem note_e {w : WS} {a r t : Int} (h : 0 ≤ wZ w 4 ∧ wZ w 4 < 160) : wNote w a r t = wP (wP (wP (wP (wP (wOp w 4 (wZ w 4)) 4 (wZ w 4) 0 a) 4 (wZ w 4) 1 r) 4 (wZ w 4) 2 t) 4 (wZ w 4) 3 (-1)) 4 (wZ w 4) 5 (-1) := if_pos h
theorem note_z {w : WS} {a r t : Int} (h : 0 ≤ wZ w 4 ∧ wZ w 4 < 160) : wZ (wNote w a r t) 4 = wZ w 4 + 1 := by
  rw [note_e h]; rfl
theorem note_f {w : WS} {a r t : Int} : (∀ k, (wNote w a r t).1 k = w.1 k) ∧ (wNote w a r t).2 0 = w.2 0 := by
  unfold wNote
  split
  · exact ⟨fun _ => rfl, rfl⟩
  · exact ⟨fun _ => rfl, rfl⟩
theorem note_o {w : WS} {a r t i c : Int} (h : 0 ≤ wZ w 4 ∧ wZ w 4 < 160) (hi : i ≠ wZ w 4) : wG (wNote w a r t) 4 i c = wG w 4 i c := by
  rw [note_e h, p4_ne (Or.inl hi), p4_ne (Or.inl hi), p4_ne (Or.inl hi), p4_ne (Or.inl hi), p4_ne (Or.inl hi), op4_ne h.1 hi]
theorem note_w {w : WS} {a r t : Int} (h : 0 ≤ wZ w 4 ∧ wZ w 4 < 160) : wG (wNote w a r t) 4 (wZ w 4) 0 = a ∧ wG (wNote w a r t) 4 (wZ w 4) 1 = r ∧ wG (wNote w a r t) 4 (wZ w 4) 2 = t ∧ wG (wNote w a r t) 4 (wZ w 4) 3 = -1 ∧ wG (wNote w a r t) 4 (wZ w 4) 5 = -1 ∧ wG (wNote w a r t) 4 (wZ w 4) 6 = 0 := by
  rw [note_e h]
  refine ⟨?_, ?_, ?_, ?_, ?_, ?_⟩
  · rw [p4_ne (Or.inr (by decide)), p4_ne (Or.inr (by decide)), p4_ne (Or.inr (by decide)), p4_ne (Or.inr (by decide)), p4_eq h (by decide)]
  · rw [p4_ne (Or.inr (by decide)), p4_ne (Or.inr (by decide)), p4_ne (Or.inr (by decide)), p4_eq h (by decide)]
  · rw [p4_ne (Or.inr (by decide)), p4_ne (Or.inr (by decide)), p4_eq h (by decide)]
  · rw [p4_ne (Or.inr (by decide)), p4_eq h (by decide)]
  · rw [p4_eq h (by decide)]
  · rw [p4_ne (Or.inr (by decide)), p4_ne (Or.inr (by decide)), p4_ne (Or.inr (by decide)), p4_ne (Or.inr (by decide)), p4_ne (Or.inr (by decide)), op4_eq h.1 (by decide)]
/-! what playing leaves alone: the table of inputs -/
theorem f4_Raise {w : WS} {r t : Int} : (wRaise w r t).2 4 = w.2 4 := by
  unfold wRaise
  split <;> rfl
theorem f4_Rise {w : WS} : (wRise w).2 4 = w.2 4 := by
  unfold wRise
  split
  · rfl
  · exact (wF4_riseL _ _ _ _).2.2
theorem f4_PlayE {w : WS} {k t v r : Int} : (wPlayE w k t v r).2 4 = w.2 4 := by
  unfold wPlayE
  dsimp only
  rw [f4_Rise, f4_Raise]
  split
  · rfl
  · exact wF4_Melt.2.2
theorem f4_PlayM {w : WS} {r t : Int} : (wPlayM w r t).2 4 = w.2 4 := by
  unfold wPlayM
  rw [f4_Rise, f4_Raise]
theorem f4_PlayI {w : WS} {r : Int} : (wPlayI w r).2 4 = w.2 4 := by
  unfold wPlayI
  rw [f4_Rise]
  rfl
theorem g4_of {w w' : WS} (e : w'.2 4 = w.2 4) (i c : Int) : wG w' 4 i c = wG w 4 i c := by
  unfold wG; rw [e]
theorem z4_of {w w' : WS} (e : w'.2 4 = w.2 4) : wZ w' 4 = wZ w 4 := by
  unfold wZ; rw [e]
/-! the relation's rows -/
def rRow (w : WS) (g : Int → Int) (i : Int) : Prop := (wG w 4 i 0 = g (1844 + 6 * i + 0) ∧ wG w 4 i 1 = g (1844 + 6 * i + 1) ∧ wG w 4 i 2 = g (1844 + 6 * i + 2) ∧ wG w 4 i 3 = g (1844 + 6 * i + 3)) ∧ (0 ≤ g (1844 + 6 * i + 1) ∧ g (1844 + 6 * i + 1) < g 0) ∧ ((g (1844 + 6 * i + 0) = 0 ∧ wG w 4 i 4 = g (1844 + 6 * i + 4) ∧ (0 ≤ g (1844 + 6 * i + 2) ∧ g (1844 + 6 * i + 2) ≤ 9999) ∧ (0 ≤ g (1844 + 6 * i + 3) ∧ g (1844 + 6 * i + 3) ≤ 5) ∧ ((wG w 4 i 5 = 2 ∧ g (1844 + 6 * i + 5) = 0) ∨ ((wG w 4 i 5 = 0 ∨ wG w 4 i 5 = 1) ∧ g (1844 + 6 * i + 5) = 1))) ∨ ((g (1844 + 6 * i + 0) = 1 ∨ g (1844 + 6 * i + 0) = 2) ∧ (0 ≤ g (1844 + 6 * i + 2) ∧ g (1844 + 6 * i + 2) ≤ 20000) ∧ g (1844 + 6 * i + 3) = -1 ∧ wG w 4 i 5 = -1 ∧ g (1844 + 6 * i + 5) = 0))
def rI (w : WS) (g : Int → Int) : Prop := (wZ w 4 = g 6 ∧ 0 ≤ g 6 ∧ g 6 ≤ 160) ∧ ∀ i, 0 ≤ i → i < g 6 → rRow w g i
theorem rRow.of {w w' : WS} {g g' : Int → Int} {i : Int} (h : rRow w g i) (h0 : g' 0 = g 0) (e : ∀ c, 0 ≤ c → c < 7 → wG w' 4 i c = wG w 4 i c) (eg : ∀ q, 0 ≤ q → q < 6 → g' (1844 + 6 * i + q) = g (1844 + 6 * i + q)) : rRow w' g' i := by
  unfold rRow at h ⊢
  rw [e 0 (by decide) (by decide), e 1 (by decide) (by decide), e 2 (by decide) (by decide), e 3 (by decide) (by decide), e 4 (by decide) (by decide), e 5 (by decide) (by decide), eg 0 (by decide) (by decide), eg 1 (by decide) (by decide), eg 2 (by decide) (by decide), eg 3 (by decide) (by decide), eg 4 (by decide) (by decide), eg 5 (by decide) (by decide), h0]
  exact h
theorem rI.of {w w' : WS} {g g' : Int → Int} (h : rI w g) (z : wZ w' 4 = wZ w 4) (e : ∀ i c, 0 ≤ i → i < wZ w 4 → 0 ≤ c → c < 7 → wG w' 4 i c = wG w 4 i c) (h0 : g' 0 = g 0) (h6 : g' 6 = g 6) (eg : ∀ c, 1844 ≤ c → c < 2804 → g' c = g c) : rI w' g' := by
  have hz := h.1.1
  have hb := h.1.2.2
  refine ⟨by rw [z, h6]; exact h.1, fun i i0 i1 => ?_⟩
  rw [h6] at i1
  exact (h.2 i i0 i1).of h0 (fun c c0 c1 => e i c i0 (by omega) c0 c1) (fun q q0 q1 => eg _ (by omega) (by omega))
theorem nt1_ne {g : Int → Int} {a r t k v b c : Int} (h6 : c ≠ 6) (h : c < 1844 + 6 * g 6 ∨ 1850 + 6 * g 6 ≤ c) : nt1 g a r t k v b c = g c := by
  unfold nt1 in1
  rw [up1_ne h6, up1_ne (by omega), up1_ne (by omega), up1_ne (by omega), up1_ne (by omega), up1_ne (by omega), up1_ne (by omega)]
theorem nt1_6 {g : Int → Int} {a r t k v b : Int} (h0 : 0 ≤ g 6 ∧ g 6 ≤ 160) : nt1 g a r t k v b 6 = g 6 + 1 := by
  unfold nt1 in1
  rw [up1_eq, up1_ne (by omega), up1_ne (by omega), up1_ne (by omega), up1_ne (by omega), up1_ne (by omega), up1_ne (by omega), wI_id ⟨by omega, by omega⟩]
theorem nt1_at {g : Int → Int} {a r t k v b : Int} (h0 : 0 ≤ g 6) : nt1 g a r t k v b (1844 + 6 * g 6 + 0) = a ∧ nt1 g a r t k v b (1844 + 6 * g 6 + 1) = r ∧ nt1 g a r t k v b (1844 + 6 * g 6 + 2) = t ∧ nt1 g a r t k v b (1844 + 6 * g 6 + 3) = k ∧ nt1 g a r t k v b (1844 + 6 * g 6 + 4) = v ∧ nt1 g a r t k v b (1844 + 6 * g 6 + 5) = b := by
  unfold nt1 in1
  generalize g 6 = j at h0
  refine ⟨?_, ?_, ?_, ?_, ?_, ?_⟩
  · rw [up1_ne (by omega), up1_ne (by omega), up1_ne (by omega), up1_ne (by omega), up1_ne (by omega), up1_ne (by omega), up1_eq]
  · rw [up1_ne (by omega), up1_ne (by omega), up1_ne (by omega), up1_ne (by omega), up1_ne (by omega), up1_eq]
  · rw [up1_ne (by omega), up1_ne (by omega), up1_ne (by omega), up1_ne (by omega), up1_eq]
  · rw [up1_ne (by omega), up1_ne (by omega), up1_ne (by omega), up1_eq]
  · rw [up1_ne (by omega), up1_ne (by omega), up1_eq]
  · rw [up1_ne (by omega), up1_eq]
theorem rI.push {w w' : WS} {g : Int → Int} {a r t k v b : Int} (h : rI w g) (h6 : g 6 < 160) (z : wZ w' 4 = wZ w 4 + 1) (e : ∀ i c, i ≠ wZ w 4 → wG w' 4 i c = wG w 4 i c) (n1 : 1 ≤ g 0) (hr : 0 ≤ r ∧ r < g 0) (c0 : wG w' 4 (wZ w 4) 0 = a ∧ wG w' 4 (wZ w 4) 1 = r ∧ wG w' 4 (wZ w 4) 2 = t ∧ wG w' 4 (wZ w 4) 3 = k) (alt : (a = 0 ∧ wG w' 4 (wZ w 4) 4 = v ∧ (0 ≤ t ∧ t ≤ 9999) ∧ (0 ≤ k ∧ k ≤ 5) ∧ ((wG w' 4 (wZ w 4) 5 = 2 ∧ b = 0) ∨ ((wG w' 4 (wZ w 4) 5 = 0 ∨ wG w' 4 (wZ w 4) 5 = 1) ∧ b = 1))) ∨ ((a = 1 ∨ a = 2) ∧ (0 ≤ t ∧ t ≤ 20000) ∧ k = -1 ∧ wG w' 4 (wZ w 4) 5 = -1 ∧ b = 0)) : rI w' (nt1 g a r t k v b) := by
  obtain ⟨⟨hz, h60, h61⟩, hrow⟩ := h
  have q6 := nt1_6 (g := g) (a := a) (r := r) (t := t) (k := k) (v := v) (b := b) ⟨h60, h61⟩
  have q0 : nt1 g a r t k v b 0 = g 0 := nt1_ne (by decide) (by omega)
  refine ⟨by rw [q6, z, hz]; omega, fun i i0 i1 => ?_⟩
  rw [q6] at i1
  by_cases hi : i = g 6
  · subst hi
    rw [hz] at c0 alt
    obtain ⟨p0, p1, p2, p3, p4, p5⟩ := nt1_at (g := g) (a := a) (r := r) (t := t) (k := k) (v := v) (b := b) h60
    unfold rRow
    rw [p0, p1, p2, p3, p4, p5, q0]
    exact ⟨c0, hr, alt⟩
  · exact (hrow i i0 (by omega)).of q0 (fun c _ _ => e i c (by omega)) (fun q q0 q1 => nt1_ne (by omega) (by omega))
/-! bounds of a desk's numbers -/
def gB (g : Int → Int) : Prop := (1 ≤ g 1 ∧ g 1 ≤ 99) ∧ (0 ≤ g 2 ∧ g 2 ≤ 99) ∧ (0 ≤ g 3 ∧ g 3 ≤ 9) ∧ (0 ≤ g 4 ∧ g 4 ≤ 20000) ∧ ∀ r, 0 ≤ r → r < 4 → (0 ≤ g (12 + r) ∧ g (12 + r) ≤ 20000) ∧ (0 ≤ g (16 + r) ∧ g (16 + r) ≤ 999) ∧ (g (20 + r) = 0 ∨ g (20 + r) = 1)
def gA (g : Int → Int) : Prop := gB g ∧ ls1 g ≤ g 4
theorem gB.of {g g' : Int → Int} (h : gB g) (e : ∀ c, (1 ≤ c ∧ c < 5) ∨ (12 ≤ c ∧ c < 24) → g' c = g c) : gB g' := by
  obtain ⟨a, b, c, d, f⟩ := h
  refine ⟨by rw [e 1 (by decide)]; exact a, by rw [e 2 (by decide)]; exact b, by rw [e 3 (by decide)]; exact c, by rw [e 4 (by decide)]; exact d, fun r r0 r1 => ?_⟩
  rw [e (12 + r) (by omega), e (16 + r) (by omega), e (20 + r) (by omega)]
  exact f r r0 r1
theorem gB.u12 {g : Int → Int} (h : gB g) {r v : Int} (hr : 0 ≤ r ∧ r < 4) (hv : 0 ≤ v ∧ v ≤ 20000) : gB (up1 g (12 + r) v) := by
  obtain ⟨a, b, c, d, f⟩ := h
  refine ⟨by rw [up1_ne (by omega)]; exact a, by rw [up1_ne (by omega)]; exact b, by rw [up1_ne (by omega)]; exact c, by rw [up1_ne (by omega)]; exact d, fun q q0 q1 => ?_⟩
  rw [up1_ne (x := 16 + q) (by omega), up1_ne (x := 20 + q) (by omega)]
  refine ⟨?_, (f q q0 q1).2⟩
  by_cases e : q = r
  · subst e; rw [up1_eq]; exact hv
  · rw [up1_ne (by omega)]; exact (f q q0 q1).1
theorem gB.u16 {g : Int → Int} (h : gB g) {r v : Int} (hr : 0 ≤ r ∧ r < 4) (hv : 0 ≤ v ∧ v ≤ 999) : gB (up1 g (16 + r) v) := by
  obtain ⟨a, b, c, d, f⟩ := h
  refine ⟨by rw [up1_ne (by omega)]; exact a, by rw [up1_ne (by omega)]; exact b, by rw [up1_ne (by omega)]; exact c, by rw [up1_ne (by omega)]; exact d, fun q q0 q1 => ?_⟩
  rw [up1_ne (x := 12 + q) (by omega), up1_ne (x := 20 + q) (by omega)]
  refine ⟨(f q q0 q1).1, ?_, (f q q0 q1).2.2⟩
  by_cases e : q = r
  · subst e; rw [up1_eq]; exact hv
  · rw [up1_ne (by omega)]; exact (f q q0 q1).2.1
theorem gB.u20 {g : Int → Int} (h : gB g) {r v : Int} (hr : 0 ≤ r ∧ r < 4) (hv : v = 0 ∨ v = 1) : gB (up1 g (20 + r) v) := by
  obtain ⟨a, b, c, d, f⟩ := h
  refine ⟨by rw [up1_ne (by omega)]; exact a, by rw [up1_ne (by omega)]; exact b, by rw [up1_ne (by omega)]; exact c, by rw [up1_ne (by omega)]; exact d, fun q q0 q1 => ?_⟩
  rw [up1_ne (x := 12 + q) (by omega), up1_ne (x := 16 + q) (by omega)]
  refine ⟨(f q q0 q1).1, (f q q0 q1).2.1, ?_⟩
  by_cases e : q = r
  · subst e; rw [up1_eq]; exact hv
  · rw [up1_ne (by omega)]; exact (f q q0 q1).2.2
theorem gB.u4 {g : Int → Int} (h : gB g) {v : Int} (hv : 0 ≤ v ∧ v ≤ 20000) : gB (up1 g 4 v) := by
  obtain ⟨a, b, c, d, f⟩ := h
  refine ⟨by rw [up1_ne (by omega)]; exact a, by rw [up1_ne (by omega)]; exact b, by rw [up1_ne (by omega)]; exact c, by rw [up1_eq]; exact hv, fun q q0 q1 => ?_⟩
  rw [up1_ne (x := 12 + q) (by omega), up1_ne (x := 16 + q) (by omega), up1_ne (x := 20 + q) (by omega)]
  exact f q q0 q1
theorem lm1_b {g : Int → Int} (h : gB g) : ∀ (n : Nat) (r l : Int), 0 ≤ r → r + n ≤ 4 → l ≤ 20000 → lm1 g n r l ≤ 20000
  | 0, _, _, _, _, hl => hl
  | n + 1, r, l, h0, h1, hl => by
    rw [lm1]
    refine lm1_b h n (r + 1) _ (by omega) (by omega) ?_
    split
    · exact (h.2.2.2.2 r h0 (by omega)).1.2
    · exact hl
theorem ls1_b {g : Int → Int} (h : gB g) (h0 : g 0 ≤ 4) : ls1 g ≤ 20000 := lm1_b h _ 0 (-1) (by decide) (by omega) (by decide)
theorem ls1_4 {g : Int → Int} {v : Int} (h0 : g 0 ≤ 4) : ls1 (up1 g 4 v) = ls1 g := by
  unfold ls1
  rw [up1_ne (by decide)]
  exact lm1_cong _ 0 (-1) (by decide) (by omega) (fun c hc => up1_ne (by omega))
theorem gA.rise {g : Int → Int} (h : gB g) (h0 : g 0 ≤ 4) : gA (ri1 g) := by
  have b := ls1_b h h0
  have d := h.2.2.2.1
  unfold ri1
  refine ⟨h.u4 ⟨by omega, by omega⟩, ?_⟩
  rw [ls1_4 h0, up1_eq]
  omega
theorem ls1_cong {g g' : Int → Int} (h0 : g 0 ≤ 4) (e0 : g' 0 = g 0) (e : ∀ c, (12 ≤ c ∧ c < 16) ∨ (20 ≤ c ∧ c < 24) → g' c = g c) : ls1 g' = ls1 g := by
  unfold ls1
  rw [e0]
  exact lm1_cong _ 0 (-1) (by decide) (by omega) e
theorem gA.of {g g' : Int → Int} (h : gA g) (h0 : g 0 ≤ 4) (e : ∀ c, (0 ≤ c ∧ c < 5) ∨ (12 ≤ c ∧ c < 24) → g' c = g c) : gA g' :=
  ⟨h.1.of (fun c hc => e c (by omega)), by rw [ls1_cong h0 (e 0 (by decide)) (fun c hc => e c (by omega)), e 4 (by decide)]; exact h.2⟩
theorem in1_ne {g : Int → Int} {c v x : Int} (h : x ≠ c) : in1 g c v x = g x := up1_ne h
theorem fa1_ne {g : Int → Int} {h r x : Int} (hr : 0 ≤ r ∧ r < 4) (hx : x < 8 ∨ (11 ≤ x ∧ x < 28) ∨ 32 ≤ x) : fa1 g h r x = g x := by
  unfold fa1
  split
  · rw [in1_ne (by omega), in1_ne (by omega)]
  · rw [in1_ne (by omega), in1_ne (by omega)]
theorem gB.playE {g : Int → Int} {t r : Int} (h : gB g) (h0 : g 0 ≤ 4) (ht : 0 ≤ t ∧ t ≤ 9999) (hr : 0 ≤ r ∧ r < 4) : gA (pE1 g t r) := by
  unfold pE1
  try dsimp only
  have e : ∀ x, x < 8 ∨ (11 ≤ x ∧ x < 24) → fa1 (in1 g (24 + r) 1) (hw1 g t) r x = g x := fun x hx => by
    rw [fa1_ne hr (by omega), in1_ne (by omega)]
  have hB : gB (fa1 (in1 g (24 + r) 1) (hw1 g t) r) := h.of (fun c hc => e c (by omega))
  have h1 : fa1 (in1 g (24 + r) 1) (hw1 g t) r 0 ≤ 4 := by rw [e 0 (by decide)]; exact h0
  generalize fa1 (in1 g (24 + r) 1) (hw1 g t) r = q at hB h1
  have hC := hB.u20 hr (v := 0) (Or.inl rfl)
  have h2 : up1 q (20 + r) 0 0 ≤ 4 := by rw [up1_ne (by omega)]; exact h1
  generalize up1 q (20 + r) 0 = p at hC h2
  have b := hC.2.2.2.2 r hr.1 hr.2
  unfold ra1
  rw [wI_id ⟨by omega, by omega⟩]
  exact gA.rise (hC.u12 hr ⟨by omega, by omega⟩) (by rw [up1_ne (by omega)]; exact h2)
theorem gB.playM {g : Int → Int} {t r : Int} (h : gB g) (h0 : g 0 ≤ 4) (ht : 0 ≤ t ∧ t ≤ 20000) (hr : 0 ≤ r ∧ r < 4) : gA (pM1 g t r) :=
  gA.rise (h.u12 hr ht) (by rw [up1_ne (by omega)]; exact h0)
theorem gB.playI {g : Int → Int} {r : Int} (h : gB g) (h0 : g 0 ≤ 4) (hr : 0 ≤ r ∧ r < 4) : gA (pI1 g r) :=
  gA.rise (h.u20 hr (Or.inr rfl)) (by rw [up1_ne (by omega)]; exact h0)
theorem ri1_ne {g : Int → Int} {c : Int} (h : c ≠ 4) : ri1 g c = g c := up1_ne h
theorem pE1_ne {g : Int → Int} {t r c : Int} (hr : 0 ≤ r ∧ r < 4) (h : c < 4 ∨ (5 ≤ c ∧ c < 8) ∨ c = 11 ∨ (16 ≤ c ∧ c < 20) ∨ 32 ≤ c) : pE1 g t r c = g c := by
  unfold pE1 ra1
  try dsimp only
  rw [ri1_ne (by omega), up1_ne (by omega), up1_ne (by omega), fa1_ne hr (by omega), in1_ne (by omega)]
theorem pM1_ne {g : Int → Int} {t r c : Int} (hr : 0 ≤ r ∧ r < 4) (h : c < 4 ∨ (5 ≤ c ∧ c < 12) ∨ 16 ≤ c) : pM1 g t r c = g c := by
  unfold pM1
  rw [ri1_ne (by omega), up1_ne (by omega)]
theorem pI1_ne {g : Int → Int} {r c : Int} (hr : 0 ≤ r ∧ r < 4) (h : c < 4 ∨ (5 ≤ c ∧ c < 20) ∨ 24 ≤ c) : pI1 g r c = g c := by
  unfold pI1
  rw [ri1_ne (by omega), up1_ne (by omega)]
theorem hw1_cong {g g' : Int → Int} (t : Int) (e2 : g' 2 = g 2) (e4 : g' 4 = g 4) : hw1 g' t = hw1 g t := by
  unfold hw1
  rw [e2, e4]
theorem rS.playM {w : WS} {g : Int → Int} {t r : Int} (h : rS w g) (r0 : 0 ≤ r) (r1 : r < g 0) (hm : g (12 + r) < t) : rS (wPlayM w r t) (pM1 g t r) := by
  have a := h.raise (t := t) r0 r1
  unfold ra1 at a
  rw [show max (g (12 + r)) t = t by omega] at a
  exact a.rise
theorem rS.playI {w : WS} {g : Int → Int} {r : Int} (h : rS w g) (r0 : 0 ≤ r) (r1 : r < g 0) : rS (wPlayI w r) (pI1 g r) := by
  have a := h.src (v := 1) r0 r1 (c := 2) (by decide) (by decide)
  rw [show 12 + 4 * 2 + r = 20 + r by omega] at a
  exact a.rise
/-! ===== all that came, played again from the start ===== -/
def sS (c : Int) : Prop := (0 ≤ c ∧ c < 5) ∨ (8 ≤ c ∧ c < 11) ∨ (12 ≤ c ∧ c < 32)
def eqS (g g' : Int → Int) : Prop := ∀ c, sS c → g' c = g c
theorem eqS.same {g : Int → Int} : eqS g g := fun _ _ => rfl
theorem eqS.trans {a b c : Int → Int} (h : eqS a b) (g : eqS b c) : eqS a c := fun x hx => (g x hx).trans (h x hx)
theorem eqS.up {g g' : Int → Int} (h : eqS g g') (c v : Int) : eqS (up1 g c v) (up1 g' c v) := fun x hx => by
  by_cases e : x = c
  · subst e; rw [up1_eq, up1_eq]
  · rw [up1_ne e, up1_ne e]; exact h x hx
theorem eqS.inc {g g' : Int → Int} (h : eqS g g') (c v : Int) (hc : sS c) : eqS (in1 g c v) (in1 g' c v) := by
  unfold in1
  rw [h c hc]
  exact h.up c _
theorem eqS.hw {g g' : Int → Int} (h : eqS g g') (t : Int) : hw1 g' t = hw1 g t := hw1_cong t (h 2 (Or.inl (by decide))) (h 4 (Or.inl (by decide)))
theorem eqS.ls {g g' : Int → Int} (h : eqS g g') (h0 : g 0 ≤ 4) : ls1 g' = ls1 g := ls1_cong h0 (h 0 (Or.inl (by decide))) (fun c hc => h c (by unfold sS; omega))
theorem eqS.ri {g g' : Int → Int} (h : eqS g g') (h0 : g 0 ≤ 4) : eqS (ri1 g) (ri1 g') := by
  unfold ri1
  rw [h.ls h0, h 4 (Or.inl (by decide))]
  exact h.up 4 _
theorem eqS.fa {g g' : Int → Int} (h : eqS g g') (k : Int) {r : Int} (hr : 0 ≤ r ∧ r < 4) : eqS (fa1 g k r) (fa1 g' k r) := by
  unfold fa1
  split
  · exact (h.inc 10 1 (by unfold sS; omega)).inc (28 + r) 1 (by unfold sS; omega)
  · exact (h.inc 8 1 (by unfold sS; omega)).inc 9 k (by unfold sS; omega)
theorem eqS.pE {g g' : Int → Int} (h : eqS g g') (h0 : g 0 ≤ 4) (t : Int) {r : Int} (hr : 0 ≤ r ∧ r < 4) : eqS (pE1 g t r) (pE1 g' t r) := by
  unfold pE1
  try dsimp only
  rw [h.hw t]
  have a := (h.inc (24 + r) 1 (by unfold sS; omega)).fa (hw1 g t) hr
  have z : fa1 (in1 g (24 + r) 1) (hw1 g t) r 0 ≤ 4 := by rw [fa1_ne hr (by omega), in1_ne (by omega)]; exact h0
  generalize fa1 (in1 g (24 + r) 1) (hw1 g t) r = p at a z ⊢
  generalize fa1 (in1 g' (24 + r) 1) (hw1 g t) r = p' at a ⊢
  have b := a.up (20 + r) 0
  have z2 : up1 p (20 + r) 0 0 ≤ 4 := by rw [up1_ne (by omega)]; exact z
  generalize up1 p (20 + r) 0 = q at b z2 ⊢
  generalize up1 p' (20 + r) 0 = q' at b ⊢
  unfold ra1
  rw [b (16 + r) (by unfold sS; omega), b (12 + r) (by unfold sS; omega)]
  exact (b.up (12 + r) _).ri (by rw [up1_ne (by omega)]; exact z2)
theorem eqS.pM {g g' : Int → Int} (h : eqS g g') (h0 : g 0 ≤ 4) (t : Int) {r : Int} (hr : 0 ≤ r ∧ r < 4) : eqS (pM1 g t r) (pM1 g' t r) :=
  (h.up (12 + r) t).ri (by rw [up1_ne (by omega)]; exact h0)
theorem eqS.pI {g g' : Int → Int} (h : eqS g g') (h0 : g 0 ≤ 4) {r : Int} (hr : 0 ≤ r ∧ r < 4) : eqS (pI1 g r) (pI1 g' r) :=
  (h.up (20 + r) 1).ri (by rw [up1_ne (by omega)]; exact h0)
/-- an input's step -/
def rpS (g q : Int → Int) (i : Int) : Int → Int := if g (1844 + 6 * i + 0) = 0 then pE1 q (g (1844 + 6 * i + 2)) (g (1844 + 6 * i + 1)) else if g (1844 + 6 * i + 0) = 1 then pM1 q (g (1844 + 6 * i + 2)) (g (1844 + 6 * i + 1)) else pI1 q (g (1844 + 6 * i + 1))
def rp (g : Int → Int) : Nat → Int → Int
  | 0 => fun c => if (0 ≤ c ∧ c < 4) ∨ (16 ≤ c ∧ c < 20) then g c else 0
  | n + 1 => rpS g (rp g n) n
theorem rp_cong {g g' : Int → Int} (e : ∀ c, (0 ≤ c ∧ c < 4) ∨ (16 ≤ c ∧ c < 20) → g' c = g c) : ∀ n : Nat, (∀ c : Int, 1844 ≤ c → c < 1844 + 6 * n → g' c = g c) → rp g' n = rp g n
  | 0, _ => by
    funext c
    show (if (0 ≤ c ∧ c < 4) ∨ (16 ≤ c ∧ c < 20) then g' c else 0) = if (0 ≤ c ∧ c < 4) ∨ (16 ≤ c ∧ c < 20) then g c else 0
    by_cases q : (0 ≤ c ∧ c < 4) ∨ (16 ≤ c ∧ c < 20)
    · rw [if_pos q, if_pos q]; exact e c q
    · rw [if_neg q, if_neg q]
  | n + 1, h => by
    show rpS g' (rp g' n) n = rpS g (rp g n) n
    rw [rp_cong e n (fun c c0 c1 => h c c0 (by omega))]
    unfold rpS
    rw [h (1844 + 6 * (n : Int) + 0) (by omega) (by omega), h (1844 + 6 * (n : Int) + 1) (by omega) (by omega), h (1844 + 6 * (n : Int) + 2) (by omega) (by omega)]
def rR (w : WS) (g : Int → Int) : Prop := eqS (rp g (g 6).toNat) g ∧ ∀ i, 0 ≤ i → i < g 6 → (g (1844 + 6 * i + 0) = 0 → wG w 4 i 6 = max 0 (wI (rp g i.toNat 4 - g (1844 + 6 * i + 2)))) ∧ (g (1844 + 6 * i + 0) = 1 → rp g i.toNat (12 + g (1844 + 6 * i + 1)) < g (1844 + 6 * i + 2)) ∧ (g (1844 + 6 * i + 0) ≠ 0 → wG w 4 i 6 = 0)
theorem rR.of {w w' : WS} {g g' : Int → Int} (h : rR w g) (b6 : 0 ≤ g 6 ∧ g 6 ≤ 160) (e : ∀ i, 0 ≤ i → i < g 6 → wG w' 4 i 6 = wG w 4 i 6) (eg : ∀ c, sS c ∨ c = 6 ∨ (1844 ≤ c ∧ c < 2804) → g' c = g c) : rR w' g' := by
  have e6 := eg 6 (Or.inr (Or.inl rfl))
  have er : ∀ n : Nat, (n : Int) ≤ g 6 → rp g' n = rp g n := fun n hn => rp_cong (fun c hc => eg c (Or.inl (by unfold sS; omega))) n (fun c c0 c1 => eg c (Or.inr (Or.inr ⟨c0, by omega⟩)))
  refine ⟨fun c hc => ?_, fun i i0 i1 => ?_⟩
  · rw [e6, er _ (by omega), eg c (Or.inl hc)]
    exact h.1 c hc
  · rw [e6] at i1
    rw [er _ (by omega), e i i0 i1, eg (1844 + 6 * i + 0) (by omega), eg (1844 + 6 * i + 1) (by omega), eg (1844 + 6 * i + 2) (by omega)]
    exact h.2 i i0 i1
theorem rp_0 {g : Int → Int} (hr : ∀ i, 0 ≤ i → i < g 6 → 0 ≤ g (1844 + 6 * i + 1) ∧ g (1844 + 6 * i + 1) < 4) : ∀ n : Nat, (n : Int) ≤ g 6 → rp g n 0 = g 0
  | 0, _ => by
    show (if (0 ≤ (0 : Int) ∧ (0 : Int) < 4) ∨ (16 ≤ (0 : Int) ∧ (0 : Int) < 20) then g 0 else 0) = g 0
    rw [if_pos (Or.inl (by decide))]
  | n + 1, h => by
    have b := hr n (by omega) (by omega)
    have ih := rp_0 hr n (by omega)
    show rpS g (rp g n) n 0 = g 0
    unfold rpS
    split
    · rw [pE1_ne b (by decide)]; exact ih
    · split
      · rw [pM1_ne b (by decide)]; exact ih
      · rw [pI1_ne b (by decide)]; exact ih
/-- one more -/
theorem rR.push {w w' : WS} {g G : Int → Int} {a r t k v b : Int} (h : rR w g) (hI : rI w g) (h6 : g 6 < 160) (n4 : g 0 ≤ 4) (hr : 0 ≤ r ∧ r < 4) (e : ∀ i c, i ≠ wZ w 4 → wG w' 4 i c = wG w 4 i c) (alt : (a = 0 ∧ G = pE1 (nt1 g a r t k v b) t r ∧ wG w' 4 (wZ w 4) 6 = max 0 (wI (g 4 - t))) ∨ (a = 1 ∧ G = pM1 (nt1 g a r t k v b) t r ∧ g (12 + r) < t ∧ wG w' 4 (wZ w 4) 6 = 0) ∨ (a = 2 ∧ G = pI1 (nt1 g a r t k v b) r ∧ wG w' 4 (wZ w 4) 6 = 0)) : rR w' G := by
  obtain ⟨hz, h60, h61⟩ := hI.1
  have q6 := nt1_6 (g := g) (a := a) (r := r) (t := t) (k := k) (v := v) (b := b) ⟨h60, h61⟩
  have q0 : nt1 g a r t k v b 0 = g 0 := nt1_ne (by decide) (by omega)
  obtain ⟨p0, p1, p2, -, -, -⟩ := nt1_at (g := g) (a := a) (r := r) (t := t) (k := k) (v := v) (b := b) h60
  have ne : ∀ c, c ≠ 6 → (c < 1844 + 6 * g 6 ∨ 1850 + 6 * g 6 ≤ c) → nt1 g a r t k v b c = g c := fun c c6 hc => nt1_ne c6 hc
  -- the noted desk and the played one agree where it matters
  have GN : ∀ c, (c < 4 ∨ c = 6 ∨ (16 ≤ c ∧ c < 20) ∨ 1844 ≤ c) → G c = nt1 g a r t k v b c := by
    intro c hc
    rcases alt with ⟨-, eG, -⟩ | ⟨-, eG, -⟩ | ⟨-, eG, -⟩
    · rw [eG]; exact pE1_ne hr (by omega)
    · rw [eG]; exact pM1_ne hr (by omega)
    · rw [eG]; exact pI1_ne hr (by omega)
  have er : ∀ n : Nat, (n : Int) ≤ g 6 → rp G n = rp g n := fun n hn => rp_cong (fun c hc => by rw [GN c (by omega), ne c (by omega) (by omega)]) n (fun c c0 c1 => by rw [GN c (by omega), ne c (by omega) (by omega)])
  have eN : eqS (rp g (g 6).toNat) (nt1 g a r t k v b) := fun c hc => by
    rw [ne c (by unfold sS at hc; omega) (by unfold sS at hc; omega)]
    exact h.1 c hc
  have z0 : rp g (g 6).toNat 0 ≤ 4 := by
    have := eN 0 (Or.inl (by decide))
    rw [q0] at this
    omega
  have G6 : G 6 = g 6 + 1 := (GN 6 (by omega)).trans q6
  have en : (g 6 + 1).toNat = (g 6).toNat + 1 := by omega
  have ez : (((g 6).toNat : Nat) : Int) = g 6 := by omega
  refine ⟨?_, fun i i0 i1 => ?_⟩
  · rw [G6, en]
    show eqS (rpS G (rp G (g 6).toNat) ((g 6).toNat : Int)) G
    rw [er _ (by omega), ez]
    unfold rpS
    rw [GN (1844 + 6 * g 6 + 0) (by omega), GN (1844 + 6 * g 6 + 1) (by omega), GN (1844 + 6 * g 6 + 2) (by omega), p0, p1, p2]
    rcases alt with ⟨ea, eG, -⟩ | ⟨ea, eG, -⟩ | ⟨ea, eG, -⟩
    · rw [if_pos ea, eG]; exact eN.pE z0 t hr
    · rw [if_neg (by omega), if_pos ea, eG]; exact eN.pM z0 t hr
    · rw [if_neg (by omega), if_neg (by omega), eG]; exact eN.pI z0 hr
  · rw [G6] at i1
    rw [er _ (by omega), GN (1844 + 6 * i + 0) (by omega), GN (1844 + 6 * i + 1) (by omega), GN (1844 + 6 * i + 2) (by omega)]
    by_cases hi : i = g 6
    · subst hi
      rw [p0, p1, p2, ← h.1 4 (Or.inl (by decide)), ← h.1 (12 + r) (Or.inr (Or.inr (by omega)))]
      refine ⟨fun ea => ?_, fun ea => ?_, fun ea => ?_⟩
      · rcases alt with ⟨-, -, e6⟩ | ⟨ea', -, -⟩ | ⟨ea', -⟩
        · rw [← hz]; exact e6
        · omega
        · omega
      · rcases alt with ⟨ea', -, -⟩ | ⟨-, -, e6, -⟩ | ⟨ea', -⟩
        · omega
        · exact e6
        · omega
      · rcases alt with ⟨ea', -, -⟩ | ⟨-, -, -, e6⟩ | ⟨-, -, e6⟩
        · exact absurd ea' ea
        · rw [← hz]; exact e6
        · rw [← hz]; exact e6
    · rw [ne (1844 + 6 * i + 0) (by omega) (by omega), ne (1844 + 6 * i + 1) (by omega) (by omega), ne (1844 + 6 * i + 2) (by omega) (by omega), e i 6 (by omega)]
      exact h.2 i i0 (by omega)
/-! ===== a world and a desk alike, but for sessions: inputs come to both ===== -/
def rA (w : WS) (g : Int → Int) : Prop := rS w g ∧ rI w g ∧ gA g ∧ rR w g
theorem rS.note {w : WS} {g : Int → Int} {a r t k v b : Int} (h : rS w g) (h6 : 0 ≤ g 6) {a' r' t' : Int} : rS (wNote w a' r' t') (nt1 g a r t k v b) :=
  (h.of note_f.1 note_f.2).cong (fun c c0 c1 _ c6 _ _ => nt1_ne c6 (by omega))
theorem gA.note {g : Int → Int} {a r t k v b : Int} (h : gA g) (h0 : g 0 ≤ 4) (h6 : 0 ≤ g 6) : gA (nt1 g a r t k v b) := h.of h0 (fun c hc => nt1_ne (by omega) (by omega))
theorem rA.event {w : WS} {g : Int → Int} {k t v r : Int} (h : rA w g) (h6 : g 6 < 160) (hk : 0 ≤ k ∧ k ≤ 5) (ht : 0 ≤ t ∧ t ≤ 9999) (hr : 0 ≤ r ∧ r < g 0) : rA (wComeE w k t v r) (pE1 (nt1 g 0 r t k v (if hw1 g t < 2 then 1 else 0)) t r) := by
  obtain ⟨hS, hI, hA, hR⟩ := h
  have hz := hS.2.2.1
  have i6 := hI.1
  have i0 : 0 ≤ wZ w 4 ∧ wZ w 4 < 160 := by omega
  have hr4 : 0 ≤ r ∧ r < 4 := by omega
  have n0 : nt1 g 0 r t k v (if hw1 g t < 2 then 1 else 0) 0 = g 0 := nt1_ne (by decide) (by omega)
  have hS1 : rS (wNote w 0 r t) (nt1 g 0 r t k v (if hw1 g t < 2 then 1 else 0)) := hS.note i6.2.1
  have hS2 := hS1.playE (k := k) (t := t) (v := v) hr.1 (by rw [n0]; exact hr.2)
  have hf : wFate (wNote w 0 r t) t = hw1 g t := by
    rw [hS1.fate t]
    exact hw1_cong t (nt1_ne (by decide) (by omega)) (nt1_ne (by decide) (by omega))
  have hb := hw1_b g t
  refine ⟨hS2.of (fun _ => rfl) rfl, ?_, (hA.note (by omega) i6.2.1).1.playE (by omega) ht hr4, ?_⟩
  rotate_left
  · refine hR.push hI h6 (by omega) hr4 (fun i c hi => ?_) (Or.inl ⟨rfl, rfl, ?_⟩)
    · unfold wComeE
      dsimp only
      rw [p4_ne (Or.inl hi), p4_ne (Or.inl hi), p4_ne (Or.inl hi), p4_ne (Or.inl hi), g4_of f4_PlayE, note_o i0 hi]
    · unfold wComeE
      dsimp only
      rw [p4_eq i0 (by decide), hS.1.2.2.2]
  have nz := note_z (a := 0) (r := r) (t := t) i0
  obtain ⟨w0, w1, w2, -, -⟩ := note_w (a := 0) (r := r) (t := t) i0
  have e4 : ∀ i c, wG (wPlayE (wNote w 0 r t) k t v r) 4 i c = wG (wNote w 0 r t) 4 i c := fun i c => g4_of f4_PlayE i c
  have key : rI (wComeE w k t v r) (nt1 g 0 r t k v (if hw1 g t < 2 then 1 else 0)) := by
    unfold wComeE
    dsimp only
    refine hI.push h6 ?_ (fun i c hi => ?_) (by omega) hr ⟨?_, ?_, ?_, ?_⟩ (Or.inl ⟨rfl, ?_, ht, hk, ?_⟩)
    · exact (z4_of f4_PlayE).trans nz
    · rw [p4_ne (Or.inl hi), p4_ne (Or.inl hi), p4_ne (Or.inl hi), p4_ne (Or.inl hi), e4, note_o i0 hi]
    · rw [p4_ne (Or.inr (by decide)), p4_ne (Or.inr (by decide)), p4_ne (Or.inr (by decide)), p4_ne (Or.inr (by decide)), e4, w0]
    · rw [p4_ne (Or.inr (by decide)), p4_ne (Or.inr (by decide)), p4_ne (Or.inr (by decide)), p4_ne (Or.inr (by decide)), e4, w1]
    · rw [p4_ne (Or.inr (by decide)), p4_ne (Or.inr (by decide)), p4_ne (Or.inr (by decide)), p4_ne (Or.inr (by decide)), e4, w2]
    · rw [p4_ne (Or.inr (by decide)), p4_ne (Or.inr (by decide)), p4_ne (Or.inr (by decide)), p4_eq i0 (by decide)]
    · rw [p4_ne (Or.inr (by decide)), p4_ne (Or.inr (by decide)), p4_eq i0 (by decide)]
    · rw [p4_ne (Or.inr (by decide)), p4_eq i0 (by decide), hf]
      split <;> omega
  exact key.of rfl (fun _ _ _ _ _ _ => rfl) (pE1_ne hr4 (by decide)) (pE1_ne hr4 (by decide)) (fun c c0 c1 => pE1_ne hr4 (by omega))
theorem rA.mark {w : WS} {g : Int → Int} {t r : Int} (h : rA w g) (h6 : g 6 < 160) (ht : 0 ≤ t ∧ t ≤ 20000) (hr : 0 ≤ r ∧ r < g 0) (hm : g (12 + r) < t) : rA (wComeM w r t) (pM1 (nt1 g 1 r t (-1) 0 0) t r) := by
  obtain ⟨hS, hI, hA, hR⟩ := h
  have hz := hS.2.2.1
  have i6 := hI.1
  have i0 : 0 ≤ wZ w 4 ∧ wZ w 4 < 160 := by omega
  have hr4 : 0 ≤ r ∧ r < 4 := by omega
  have n0 : nt1 g 1 r t (-1) 0 0 0 = g 0 := nt1_ne (by decide) (by omega)
  have hS1 : rS (wNote w 1 r t) (nt1 g 1 r t (-1) 0 0) := hS.note i6.2.1
  have hS2 := hS1.playM (t := t) hr.1 (by rw [n0]; exact hr.2) (by rw [nt1_ne (by omega) (by omega)]; exact hm)
  refine ⟨hS2, ?_, (hA.note (by omega) i6.2.1).1.playM (by omega) ht hr4, ?_⟩
  rotate_left
  · refine hR.push hI h6 (by omega) hr4 (fun i c hi => ?_) (Or.inr (Or.inl ⟨rfl, rfl, hm, ?_⟩))
    · unfold wComeM
      rw [g4_of f4_PlayM, note_o i0 hi]
    · unfold wComeM
      rw [g4_of f4_PlayM]
      exact (note_w i0).2.2.2.2.2
  have nz := note_z (a := 1) (r := r) (t := t) i0
  obtain ⟨w0, w1, w2, w3, w5, -⟩ := note_w (a := 1) (r := r) (t := t) i0
  have e4 : ∀ i c, wG (wPlayM (wNote w 1 r t) r t) 4 i c = wG (wNote w 1 r t) 4 i c := fun i c => g4_of f4_PlayM i c
  have key : rI (wComeM w r t) (nt1 g 1 r t (-1) 0 0) := by
    unfold wComeM
    refine hI.push h6 ((z4_of f4_PlayM).trans nz) (fun i c hi => ?_) (by omega) hr ⟨?_, ?_, ?_, ?_⟩ (Or.inr ⟨Or.inl rfl, ht, rfl, ?_, rfl⟩)
    · rw [e4, note_o i0 hi]
    · rw [e4, w0]
    · rw [e4, w1]
    · rw [e4, w2]
    · rw [e4, w3]
    · rw [e4, w5]
  exact key.of rfl (fun _ _ _ _ _ _ => rfl) (pM1_ne hr4 (by decide)) (pM1_ne hr4 (by decide)) (fun c c0 c1 => pM1_ne hr4 (by omega))
theorem rA.idle {w : WS} {g : Int → Int} {r : Int} (h : rA w g) (h6 : g 6 < 160) (hr : 0 ≤ r ∧ r < g 0) : rA (wComeI w r) (pI1 (nt1 g 2 r 0 (-1) 0 0) r) := by
  obtain ⟨hS, hI, hA, hR⟩ := h
  have hz := hS.2.2.1
  have i6 := hI.1
  have i0 : 0 ≤ wZ w 4 ∧ wZ w 4 < 160 := by omega
  have hr4 : 0 ≤ r ∧ r < 4 := by omega
  have n0 : nt1 g 2 r 0 (-1) 0 0 0 = g 0 := nt1_ne (by decide) (by omega)
  have hS1 : rS (wNote w 2 r 0) (nt1 g 2 r 0 (-1) 0 0) := hS.note i6.2.1
  have hS2 := hS1.playI hr.1 (by rw [n0]; exact hr.2)
  refine ⟨hS2, ?_, (hA.note (by omega) i6.2.1).1.playI (by omega) hr4, ?_⟩
  rotate_left
  · refine hR.push hI h6 (by omega) hr4 (fun i c hi => ?_) (Or.inr (Or.inr ⟨rfl, rfl, ?_⟩))
    · unfold wComeI
      rw [g4_of f4_PlayI, note_o i0 hi]
    · unfold wComeI
      rw [g4_of f4_PlayI]
      exact (note_w i0).2.2.2.2.2
  have nz := note_z (a := 2) (r := r) (t := 0) i0
  obtain ⟨w0, w1, w2, w3, w5, -⟩ := note_w (a := 2) (r := r) (t := 0) i0
  have e4 : ∀ i c, wG (wPlayI (wNote w 2 r 0) r) 4 i c = wG (wNote w 2 r 0) 4 i c := fun i c => g4_of f4_PlayI i c
  have key : rI (wComeI w r) (nt1 g 2 r 0 (-1) 0 0) := by
    unfold wComeI
    refine hI.push h6 ((z4_of f4_PlayI).trans nz) (fun i c hi => ?_) (by omega) hr ⟨?_, ?_, ?_, ?_⟩ (Or.inr ⟨Or.inr rfl, by decide, rfl, ?_, rfl⟩)
    · rw [e4, note_o i0 hi]
    · rw [e4, w0]
    · rw [e4, w1]
    · rw [e4, w2]
    · rw [e4, w3]
    · rw [e4, w5]
  exact key.of rfl (fun _ _ _ _ _ _ => rfl) (pI1_ne hr4 (by decide)) (pI1_ne hr4 (by decide)) (fun c c0 c1 => pI1_ne hr4 (by omega))
