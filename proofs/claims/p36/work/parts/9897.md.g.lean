-- 9897.md
section
/-! ===== worlds and desks alike: copied, begun anew ===== -/
theorem copy_g0 {a b : WS} {i c : Int} (h0 : 0 ≤ i) (h1 : i < wZ b 0) (c0 : 0 ≤ c) (c1 : c < 5) : wG (wCopy a b) 0 i c = wG b 0 i c := by
  show tg 4 5 (xcp (b.2 0).2 (a.2 0).2 0 0 ((b.2 0).1 * 5).toNat) i c = tg 4 5 (b.2 0).2 i c
  have h1 : i < (b.2 0).1 := h1
  generalize (b.2 0).1 = z at h1
  unfold tg xcp
  split
  · rw [if_pos (by omega), show 0 + ((i * 5 + c).toNat - 0) = (i * 5 + c).toNat by omega]
  · rfl
theorem copy_g4 {a b : WS} {i c : Int} (h0 : 0 ≤ i) (h1 : i < wZ b 4) (c0 : 0 ≤ c) (c1 : c < 7) : wG (wCopy a b) 4 i c = wG b 4 i c := by
  show tg 160 7 (xcp (b.2 4).2 (a.2 4).2 0 0 ((b.2 4).1 * 7).toNat) i c = tg 160 7 (b.2 4).2 i c
  have h1 : i < (b.2 4).1 := h1
  generalize (b.2 4).1 = z at h1
  unfold tg xcp
  split
  · rw [if_pos (by omega), show 0 + ((i * 7 + c).toNat - 0) = (i * 7 + c).toNat by omega]
  · rfl
theorem copy_f {a b : WS} : ∀ k, k < 10 → (wCopy a b).1 k = b.1 k
  | 0, _ => rfl
  | 1, _ => rfl
  | 2, _ => rfl
  | 3, _ => rfl
  | 4, _ => rfl
  | 5, _ => rfl
  | 6, _ => rfl
  | 7, _ => rfl
  | 8, _ => rfl
  | 9, _ => rfl
  | _ + 10, h => absurd h (by omega)
theorem rA.copy {a b : WS} {g : Int → Int} (h : rA b g) : rA (wCopy a b) g :=
  ⟨h.1.rows copy_f rfl (fun _ _ r0 r1 c0 c1 => copy_g0 r0 r1 c0 c1), h.2.1.of rfl (fun _ _ i0 i1 c0 c1 => copy_g4 i0 i1 c0 c1) rfl rfl (fun _ _ _ => rfl), h.2.2.1, h.2.2.2.of h.2.1.1.2 (fun i i0 i1 => copy_g4 i0 (by have := h.2.1.1.1; omega) (by decide) (by decide)) (fun _ _ => rfl)⟩
theorem rA.cong {w : WS} {g g' : Int → Int} (h : rA w g) (e : ∀ c, 0 ≤ c → c < 2804 → zA c → g' c = g c) : rA w g' := by
  have hz := h.1.2.2.1
  refine ⟨h.1.cong (fun c c0 c1 a b d f => e c c0 (by omega) (by unfold zA; omega)), h.2.1.of rfl (fun _ _ _ _ _ _ => rfl) (e 0 (by decide) (by decide) (Or.inl (by decide))) (e 6 (by decide) (by decide) (Or.inr (Or.inl rfl))) (fun c c0 c1 => e c (by omega) c1 (by unfold zA; omega)), h.2.2.1.of (by omega) (fun c hc => e c (by omega) (by omega) (by unfold zA; omega)), h.2.2.2.of h.2.1.1.2 (fun _ _ _ => rfl) (fun c hc => e c (by unfold sS at hc; omega) (by unfold sS at hc; omega) (by unfold sS at hc; unfold zA; omega))⟩
/-- a desk begun anew -/
def st0 (n g l e : Int) : Int → Int := fun c => if c = 0 then n else if c = 1 then g else if c = 2 then l else if c = 3 then e else if 16 ≤ c ∧ c < 20 then 20 else 0
theorem op0_ne {w : WS} {i c : Int} (h0 : 0 ≤ wZ w 0) (h : i ≠ wZ w 0) : wG (wOp w 0 (wZ w 0)) 0 i c = wG w 0 i c := by
  show tg 4 5 (topen 5 (w.2 0).2 (wZ w 0) (wZ w 0)) i c = tg 4 5 (w.2 0).2 i c
  generalize wZ w 0 = z at h0 h
  unfold tg topen xcp
  split
  · rw [if_neg (by omega), if_neg (by omega)]
  · rfl
theorem op0_eq {w : WS} {c : Int} (h0 : 0 ≤ wZ w 0) (hc : 0 ≤ c ∧ c < 5) : wG (wOp w 0 (wZ w 0)) 0 (wZ w 0) c = 0 := by
  show tg 4 5 (topen 5 (w.2 0).2 (wZ w 0) (wZ w 0)) (wZ w 0) c = 0
  generalize wZ w 0 = z at h0
  unfold tg topen
  split
  · rw [if_pos (by omega)]
  · rfl
/-- sources from 0 on as at first -/
def rs0 (w : WS) : Prop := ∀ r c, 0 ≤ r → r < wZ w 0 → 0 ≤ c → c < 5 → wG w 0 r c = (if c = 1 then 20 else 0)
theorem rsL_ok : ∀ (m : Nat) (i : Int) (w : WS), 0 ≤ i → i + m ≤ 4 → wZ w 0 = i → rs0 w → wZ (rsL m i w) 0 = i + m ∧ rs0 (rsL m i w) ∧ (rsL m i w).1 = w.1 ∧ ∀ t, t ≠ 0 → (rsL m i w).2 t = w.2 t
  | 0, i, w, _, _, hz, h => ⟨by rw [rsL, hz]; omega, h, rfl, fun _ _ => rfl⟩
  | m + 1, i, w, h0, h1, hz, h => by
    subst hz
    rw [rsL]
    have eo : wOpn w 0 (wZ w 0) = wOp w 0 (wZ w 0) := if_pos ⟨h0, Int.le_refl _, by show wZ w 0 < 4; omega⟩
    rw [eo]
    have z : wZ (wP (wOp w 0 (wZ w 0)) 0 (wZ w 0) 1 20) 0 = wZ w 0 + 1 := rfl
    have r : rs0 (wP (wOp w 0 (wZ w 0)) 0 (wZ w 0) 1 20) := by
      intro r c r0 r1 c0 c1
      rw [z] at r1
      by_cases q : r = wZ w 0
      · subst q
        by_cases q2 : c = 1
        · subst q2
          rw [p0_eq ⟨h0, by omega⟩ ⟨by decide, by decide⟩, if_pos rfl]
        · rw [p0_ne (Or.inr q2), op0_eq h0 ⟨c0, c1⟩, if_neg q2]
      · rw [p0_ne (Or.inl q), op0_ne h0 q]
        exact h r c r0 (by omega) c0 c1
    obtain ⟨a, b, c, d⟩ := rsL_ok m (wZ w 0 + 1) (wP (wOp w 0 (wZ w 0)) 0 (wZ w 0) 1 20) (by omega) (by omega) z r
    refine ⟨by rw [a]; omega, b, c, fun t ht => ?_⟩
    rw [d t ht]
    match t, ht with
    | 0, ht => exact absurd rfl ht
    | t + 1, _ => rfl
theorem rkL_ok : ∀ (m : Nat) (i : Int) (w : WS), (rkL m i w).1 = w.1 ∧ ∀ t, t < 5 → (rkL m i w).2 t = w.2 t
  | 0, _, _ => ⟨rfl, fun _ _ => rfl⟩
  | m + 1, i, w => by
    rw [rkL]
    obtain ⟨a, b⟩ := rkL_ok m (i + 1) (wP (wOpn w 5 i) 5 i 7 (-1))
    have k : (wP (wOpn w 5 i) 5 i 7 (-1)).1 = w.1 ∧ ∀ t, t < 5 → (wP (wOpn w 5 i) 5 i 7 (-1)).2 t = w.2 t := by
      unfold wOpn
      split
      · refine ⟨rfl, fun t ht => ?_⟩
        match t, ht with
        | 0, _ => rfl
        | 1, _ => rfl
        | 2, _ => rfl
        | 3, _ => rfl
        | 4, _ => rfl
        | t + 5, ht => exact absurd ht (by omega)
      · refine ⟨rfl, fun t ht => ?_⟩
        match t, ht with
        | 0, _ => rfl
        | 1, _ => rfl
        | 2, _ => rfl
        | 3, _ => rfl
        | 4, _ => rfl
        | t + 5, ht => exact absurd ht (by omega)
    exact ⟨a.trans k.1, fun t ht => (b t ht).trans (k.2 t ht)⟩
theorem st0_B {n g l e : Int} (ok : okSet g l e) (hn : 1 ≤ n ∧ n ≤ 4) : gA (st0 n g l e) := by
  have hB : gB (st0 n g l e) := by
    refine ⟨⟨ok.1, ok.2.1⟩, ⟨ok.2.2.1, ok.2.2.2.1⟩, ⟨ok.2.2.2.2.1, ok.2.2.2.2.2⟩, ⟨by show (0 : Int) ≤ 0; decide, by show (0 : Int) ≤ 20000; decide⟩, fun r r0 r1 => ?_⟩
    have a : st0 n g l e (12 + r) = 0 := by
      unfold st0
      rw [if_neg (by omega), if_neg (by omega), if_neg (by omega), if_neg (by omega), if_neg (by omega)]
    have b : st0 n g l e (16 + r) = 20 := by
      unfold st0
      rw [if_neg (by omega), if_neg (by omega), if_neg (by omega), if_neg (by omega), if_pos (by omega)]
    have c : st0 n g l e (20 + r) = 0 := by
      unfold st0
      rw [if_neg (by omega), if_neg (by omega), if_neg (by omega), if_neg (by omega), if_neg (by omega)]
    rw [a, b, c]
    omega
  refine ⟨hB, ?_⟩
  have key : ∀ (m : Nat) (r x : Int), 0 ≤ r → r + m ≤ 4 → x ≤ 0 → lm1 (st0 n g l e) m r x ≤ 0 := by
    intro m
    induction m with
    | zero => intro r x _ _ hx; exact hx
    | succ m ih =>
      intro r x h0 h1 hx
      rw [lm1]
      refine ih (r + 1) _ (by omega) (by omega) ?_
      split
      · have a : st0 n g l e (12 + r) = 0 := by
          unfold st0
          rw [if_neg (by omega), if_neg (by omega), if_neg (by omega), if_neg (by omega), if_neg (by omega)]
        rw [a]
        decide
      · exact hx
  have n0 : st0 n g l e 0 = n := if_pos rfl
  have := key (st0 n g l e 0).toNat 0 (-1) (by decide) (by rw [n0]; omega) (by decide)
  exact this
theorem rA.reset {w : WS} {n g l e : Int} (hn : 1 ≤ n ∧ n ≤ 4) (ok : okSet g l e) : rA (wReset w n g l e) (st0 n g l e) := by
  have hA := st0_B ok hn
  have n0 : st0 n g l e 0 = n := if_pos rfl
  unfold wReset wRes2
  have w0 : rs0 (wCl (wFd (wFd (wFd (wFd (wFd (wFd (wFd (wFd (wFd (wFd w 0 g) 1 l) 2 e) 3 0) 4 0) 5 0) 6 0) 7 0) 8 0) 9 0) 0) := fun r c r0 r1 => absurd r1 (by show ¬ r < 0; omega)
  obtain ⟨a, b, c, d⟩ := rsL_ok n.toNat 0 (wCl (wFd (wFd (wFd (wFd (wFd (wFd (wFd (wFd (wFd (wFd w 0 g) 1 l) 2 e) 3 0) 4 0) 5 0) 6 0) 7 0) 8 0) 9 0) 0) (by decide) (by omega) rfl w0
  generalize rsL n.toNat 0 (wCl (wFd (wFd (wFd (wFd (wFd (wFd (wFd (wFd (wFd (wFd w 0 g) 1 l) 2 e) 3 0) 4 0) 5 0) 6 0) 7 0) 8 0) 9 0) 0) = u at a b c d
  obtain ⟨f1, f2⟩ := rkL_ok 6 0 (wCl (wCl (wCl (wCl (wCl u 1) 2) 3) 4) 5)
  have z4 : wZ (rkL 6 0 (wCl (wCl (wCl (wCl (wCl u 1) 2) 3) 4) 5)) 4 = 0 := by
    show ((rkL 6 0 (wCl (wCl (wCl (wCl (wCl u 1) 2) 3) 4) 5)).2 4).1 = 0
    rw [f2 4 (by decide)]
    rfl
  have t0 : (rkL 6 0 (wCl (wCl (wCl (wCl (wCl u 1) 2) 3) 4) 5)).2 0 = u.2 0 := f2 0 (by decide)
  have t1 : (rkL 6 0 (wCl (wCl (wCl (wCl (wCl u 1) 2) 3) 4) 5)).1 = u.1 := f1
  generalize rkL 6 0 (wCl (wCl (wCl (wCl (wCl u 1) 2) 3) 4) 5) = v at z4 t0 t1 ⊢
  rw [c] at t1
  have g6 : st0 n g l e 6 = 0 := by unfold st0; rfl
  refine ⟨⟨⟨?_, ?_, ?_, ?_⟩, ⟨?_, ?_, ?_⟩, ⟨?_, by rw [n0]; exact hn.1, by rw [n0]; exact hn.2⟩, fun r q r0 r1 q0 q1 => ?_⟩, ⟨by rw [g6, z4]; decide, fun i i0 i1 => ?_⟩, hA, ⟨fun c hc => ?_, fun i i0 i1 => absurd i1 (by rw [g6]; omega)⟩⟩
  · rw [t1]; rfl
  · rw [t1]; rfl
  · rw [t1]; rfl
  · rw [t1]; rfl
  · rw [t1]; rfl
  · rw [t1]; rfl
  · rw [t1]; rfl
  · unfold wZ at a ⊢
    rw [t0, a, n0]
    omega
  · rw [n0] at r1
    have := b r q r0 (by rw [a]; omega) q0 q1
    unfold wG at this ⊢
    rw [t0, this]
    unfold st0
    by_cases q2 : q = 1
    · subst q2
      rw [if_pos rfl, if_neg (by omega), if_neg (by omega), if_neg (by omega), if_neg (by omega), if_pos (by omega)]
    · rw [if_neg q2, if_neg (by omega), if_neg (by omega), if_neg (by omega), if_neg (by omega), if_neg (by omega)]
  · rw [g6] at i1
    omega
  · rw [g6]
    show st0 n g l e c = if (0 ≤ c ∧ c < 4) ∨ (16 ≤ c ∧ c < 20) then st0 n g l e c else 0
    by_cases q : (0 ≤ c ∧ c < 4) ∨ (16 ≤ c ∧ c < 20)
    · rw [if_pos q]
    · rw [if_neg q]
      unfold st0
      rw [if_neg (by omega), if_neg (by omega), if_neg (by omega), if_neg (by omega), if_neg (by omega)]
theorem stL2_a (d : Int) (hd : 0 ≤ d) : ∀ (m : Nat) (k : Int) (s : MS) (g : Int → Int), 0 ≤ k → k + m ≤ 6 → sA d s g → sA d (stL2 d m k s) g
  | 0, _, _, _, _, _, h => h
  | m + 1, k, s, g, h0, h1, h => by
    rw [stL2]
    exact stL2_a d hd m (k + 1) _ g (by omega) (by omega) (h.same (fun c c0 hc => mg_ne (by omega) (by omega) (by unfold zA at hc; omega)))
theorem stL3_v (d : Int) (hd : 0 ≤ d) : ∀ (m : Nat) (k : Int) (s : MS), 0 ≤ k → k + m ≤ 4 → ∀ q, k ≤ q → q < k + m → mg (stL3 d m k s) (d * 2804 + (16 + q)) = 20
  | 0, k, s, _, _, q, h0, h1 => absurd h1 (by omega)
  | m + 1, k, s, h0, h1, q, q0, q1 => by
    rw [stL3]
    by_cases e : q = k
    · subst e
      rw [(stL3_f d hd m (q + 1) _ (by omega)).2 _ (by omega) (by omega), show d * 2804 + (16 + q) = d * 2804 + 16 + q by omega, mg_eq]
    · exact stL3_v d hd m (k + 1) _ (by omega) (by omega) q (by omega) (by omega)
theorem startsA {s : MS} {d n g l e : Int} (hd : 0 ≤ d) : ∀ c, 0 ≤ c → c < 2804 → zA c → mg (mStarts s d n g l e) (d * 2804 + c) = st0 n g l e c := by
  intro c c0 c1 hc
  have z2 : ∀ c, 0 ≤ c → c < 2804 → mg (mZero s d) (d * 2804 + c) = 0 := fun c c0 c1 => by
    rw [mZero, mg_mA, if_pos (by constructor <;> omega)]
  unfold mStarts mStart4
  generalize mZero s d = s1 at z2 ⊢
  obtain ⟨-, a2⟩ := stL2_f d hd 6 0 s1 (by decide)
  generalize stL2 d 6 0 s1 = s2 at a2 ⊢
  obtain ⟨-, b2⟩ := stL3_f d hd 4 0 s2 (by decide)
  have b3 := stL3_v d hd 4 0 s2 (by decide) (by decide)
  generalize stL3 d 4 0 s2 = s3 at b2 b3 ⊢
  unfold st0
  by_cases h0 : c = 0
  · subst h0
    rw [if_pos rfl, mg_ne (by omega) (by omega) (by omega), mg_ne (by omega) (by omega) (by omega), mg_ne (by omega) (by omega) (by omega), mg_eq]
  · rw [if_neg h0]
    by_cases h1 : c = 1
    · subst h1
      rw [if_pos rfl, mg_ne (by omega) (by omega) (by omega), mg_ne (by omega) (by omega) (by omega), mg_eq]
    · rw [if_neg h1]
      by_cases h2 : c = 2
      · subst h2
        rw [if_pos rfl, mg_ne (by omega) (by omega) (by omega), mg_eq]
      · rw [if_neg h2]
        by_cases h3 : c = 3
        · subst h3
          rw [if_pos rfl, mg_eq]
        · rw [if_neg h3, mg_ne (by omega) (by omega) (by omega), mg_ne (by omega) (by omega) (by omega), mg_ne (by omega) (by omega) (by omega), mg_ne (by omega) (by omega) (by omega)]
          by_cases h4 : 16 ≤ c ∧ c < 20
          · rw [if_pos h4]
            have := b3 (c - 16) (by omega) (by omega)
            rw [show d * 2804 + (16 + (c - 16)) = d * 2804 + c by omega] at this
            exact this
          · unfold zA at hc
            rw [if_neg h4, b2 _ (by omega) (by omega), a2 _ (by omega) (by omega), z2 c c0 c1]
/-! ===== what the law's two sides have in common ===== -/
def rW (w : WS) (g : Int → Int) : Prop := rA w g
def tR (x : LSt) (m : MS) : Prop := x.1 4 = m.1 4 ∧ ∀ j : Int, 0 ≤ j → j < m.1 4 → x.2.1 1 j.toNat = m.2 2 j.toNat
def uSl (x : LSt) (k : Int) : Nat := 2 + (Int.tmod (x.1 0 + k) 6).toNat
def uR (x : LSt) (m : MS) : Prop := x.1 1 = m.1 8 ∧ ∀ k : Int, 0 ≤ k → k < m.1 8 → rW (x.2.2 (uSl x k)) (gD (5 + k) m)
def kR (x : LSt) (m : MS) : Prop := ∀ i : Int, 0 ≤ i → i ≤ 1 → m.2 12 i.toNat ≠ 0 → rW (x.2.2 (8 + i.toNat)) (gD (1 + i) m)
def kfR (x : LSt) (m : MS) : Prop := (m.2 12 0 = 0 ∨ m.2 12 0 = 1) ∧ (m.2 12 1 = 0 ∨ m.2 12 1 = 1) ∧ x.1 2 = m.2 12 0 + 2 * m.2 12 1
def lwR (x : LSt) (m : MS) : Prop := lok x ∧ Inv m ∧ tR x m ∧ kfR x m ∧ uR x m ∧ kR x m ∧ rW (x.2.2 0) (gD 0 m)
theorem rW.cong {w : WS} {g g' : Int → Int} (h : rW w g) (e : ∀ c, 0 ≤ c → c < 2804 → g' c = g c) : rW w g' := rA.cong h (fun c c0 c1 _ => e c c0 c1)
theorem rW.copy {a b : WS} {g : Int → Int} (h : rW b g) : rW (wCopy a b) g := rA.copy h
theorem rW.desk {w : WS} {d d' : Int} {m m' : MS} (h : rW w (gD d m)) (e : ∀ c, 0 ≤ c → c < 2804 → mg m' (d' * 2804 + c) = mg m (d * 2804 + c)) : rW w (gD d' m') := h.cong e
theorem kfR.of {x x' : LSt} {m m' : MS} (h : kfR x m) (e2 : x'.1 2 = x.1 2) (e12 : m'.2 12 = m.2 12) : kfR x' m' := by
  unfold kfR
  rw [e2, e12]
  exact h
theorem tR.of {x x' : LSt} {m m' : MS} (h : tR x m) (e4 : x'.1 4 = x.1 4) (e1 : x'.2.1 1 = x.2.1 1) (f4 : m'.1 4 = m.1 4) (f2 : m'.2 2 = m.2 2) : tR x' m' := by
  unfold tR
  rw [e4, e1, f4, f2]
  exact h
theorem kR.of {x x' : LSt} {m m' : MS} (h : kR x m) (e : ∀ q, 8 ≤ q → x'.2.2 q = x.2.2 q) (e12 : m'.2 12 = m.2 12) (o : ∀ y : Int, 2804 ≤ y → y < 8412 → mg m' y = mg m y) : kR x' m' := by
  intro i i0 i1 hi
  rw [e12] at hi
  rw [e _ (by omega)]
  exact (h i i0 i1 hi).desk (fun c c0 c1 => o _ (by omega) (by omega))
theorem uR.of {x x' : LSt} {m m' : MS} (h : uR x m) (e0 : x'.1 0 = x.1 0) (e1 : x'.1 1 = x.1 1) (e : ∀ q, 2 ≤ q → q < 8 → x'.2.2 q = x.2.2 q) (hu : uok x) (f8 : m'.1 8 = m.1 8) (o : ∀ y : Int, 14020 ≤ y → mg m' y = mg m y) : uR x' m' := by
  refine ⟨by rw [e1, f8]; exact h.1, fun k k0 k1 => ?_⟩
  rw [f8] at k1
  have hs : uSl x' k = uSl x k := by unfold uSl; rw [e0]
  have hb : uSl x k < 8 := by
    unfold uSl
    have := Int.tmod_lt_of_pos (x.1 0 + k) (b := 6) (by decide)
    omega
  rw [hs, e _ (by unfold uSl; omega) hb]
  exact (h.2 k k0 k1).desk (fun c c0 c1 => o _ (by omega))
/-- what a question leaves alone -/
def Qx (x x' : LSt) : Prop := lok x' ∧ (x'.1 0 = x.1 0 ∧ x'.1 1 = x.1 1 ∧ x'.1 2 = x.1 2 ∧ x'.1 4 = x.1 4) ∧ x'.2.1 1 = x.2.1 1 ∧ ∀ q, q ≠ 1 → x'.2.2 q = x.2.2 q
def Qn (m m' : MS) : Prop := Qi m m' ∧ m'.1 8 = m.1 8 ∧ m'.2 2 = m.2 2 ∧ ∀ y : Int, 0 ≤ y → (y < 8412 ∨ 14020 ≤ y) → mg m' y = mg m y
theorem Qx.trans {x y z : LSt} (h : Qx x y) (g : Qx y z) : Qx x z :=
  ⟨g.1, ⟨g.2.1.1.trans h.2.1.1, g.2.1.2.1.trans h.2.1.2.1, g.2.1.2.2.1.trans h.2.1.2.2.1, g.2.1.2.2.2.trans h.2.1.2.2.2⟩, g.2.2.1.trans h.2.2.1, fun q hq => (g.2.2.2 q hq).trans (h.2.2.2 q hq)⟩
theorem Qx.self {x : LSt} (h : lok x) : Qx x x := ⟨h, ⟨rfl, rfl, rfl, rfl⟩, rfl, fun _ _ => rfl⟩
theorem Qn.trans {m n o : MS} (h : Qn m n) (g : Qn n o) : Qn m o := ⟨h.1.trans g.1, g.2.1.trans h.2.1, g.2.2.1.trans h.2.2.1, fun y y0 hy => (g.2.2.2 y y0 hy).trans (h.2.2.2 y y0 hy)⟩
theorem Qn.self {m : MS} (h : Inv m) : Qn m m := ⟨h.self, rfl, rfl, fun _ _ _ => rfl⟩
theorem lwR.ask {x x' : LSt} {m m' : MS} (h : lwR x m) (a : Qx x x') (b : Qn m m') : lwR x' m' := by
  obtain ⟨h1, h2, h3, h4, h5, h6, h7⟩ := h
  obtain ⟨a1, ⟨a20, a21, a22, a24⟩, a3, a4⟩ := a
  obtain ⟨⟨b1, b4, b12⟩, b8, b2, b3⟩ := b
  refine ⟨a1, b1, h3.of a24 a3 b4 b2, h4.of a22 b12, h5.of a20 a21 (fun q q0 _ => a4 q (by omega)) h1.1 b8 (fun y y0 => b3 y (by omega) (Or.inr y0)), h6.of (fun q q0 => a4 q (by omega)) b12 (fun y y0 y1 => b3 y (by omega) (Or.inl y1)), ?_⟩
  rw [a4 0 (by decide)]
  exact h7.desk (fun c c0 c1 => b3 _ (by omega) (by omega))
/-! what is laid by -/
theorem lays_c {m : MS} (h8 : 0 ≤ m.1 8 ∧ m.1 8 ≤ 6) : ((mLays m).1 4 = m.1 4 ∧ (mLays m).2 12 = m.2 12 ∧ (mLays m).2 2 = m.2 2) ∧ (∀ y : Int, 0 ≤ y → y < 14020 → mg (mLays m) y = mg m y) ∧ (m.1 8 < 6 → (mLays m).1 8 = m.1 8 + 1 ∧ (∀ k c : Int, 0 ≤ k → k < m.1 8 → 0 ≤ c → c < 2804 → mg (mLays m) ((5 + k) * 2804 + c) = mg m ((5 + k) * 2804 + c)) ∧ ∀ c : Int, 0 ≤ c → c < 2804 → mg (mLays m) ((5 + m.1 8) * 2804 + c) = mg m (3 * 2804 + c)) ∧ (m.1 8 = 6 → (mLays m).1 8 = 6 ∧ (∀ k c : Int, 0 ≤ k → k < 5 → 0 ≤ c → c < 2804 → mg (mLays m) ((5 + k) * 2804 + c) = mg m ((5 + (k + 1)) * 2804 + c)) ∧ ∀ c : Int, 0 ≤ c → c < 2804 → mg (mLays m) ((5 + 5) * 2804 + c) = mg m (3 * 2804 + c)) := by
  have two : ∀ u : MS, 0 ≤ u.1 8 → ((mLays2 u).1 4 = u.1 4 ∧ (mLays2 u).2 12 = u.2 12 ∧ (mLays2 u).2 2 = u.2 2) ∧ (mLays2 u).1 8 = u.1 8 + 1 ∧ (∀ y : Int, 0 ≤ y → y < (5 + u.1 8) * 2804 → mg (mLays2 u) y = mg u y) ∧ ∀ c : Int, 0 ≤ c → c < 2804 → mg (mLays2 u) ((5 + u.1 8) * 2804 + c) = mg u (3 * 2804 + c) := by
    intro u hu
    refine ⟨⟨rfl, rfl, rfl⟩, rfl, fun y y0 y1 => ?_, fun c c0 c1 => ?_⟩
    · exact (show mg (mLays2 u) y = mg (mCopy u 3 (5 + u.1 8)) y from rfl).trans (copy_ne (by omega) y0 (by omega))
    · exact (show mg (mLays2 u) ((5 + u.1 8) * 2804 + c) = mg (mCopy u 3 (5 + u.1 8)) ((5 + u.1 8) * 2804 + c) from rfl).trans (copy_at (by decide) (by omega) c0 c1)
  by_cases c6 : m.1 8 = 6
  · have e : mLays m = mLays2 (mS (lyL 5 0 m) 8 (m.1 8 - 1)) := if_pos c6
    rw [e]
    obtain ⟨g1, g2⟩ := lyL_f 5 0 m
    obtain ⟨g3, g4⟩ := lyL_c 5 0 m (by decide)
    have z12 : (mS (lyL 5 0 m) 8 (m.1 8 - 1)).2 12 = m.2 12 := g2 12 (by decide)
    have z2 : (mS (lyL 5 0 m) 8 (m.1 8 - 1)).2 2 = m.2 2 := g2 2 (by decide)
    have z8 : (mS (lyL 5 0 m) 8 (m.1 8 - 1)).1 8 = 5 := by show m.1 8 - 1 = 5; omega
    have z4 : (mS (lyL 5 0 m) 8 (m.1 8 - 1)).1 4 = m.1 4 := by show (lyL 5 0 m).1 4 = _; rw [g1]
    have zc : ∀ x, mg (mS (lyL 5 0 m) 8 (m.1 8 - 1)) x = mg (lyL 5 0 m) x := fun _ => rfl
    generalize mS (lyL 5 0 m) 8 (m.1 8 - 1) = u at z12 z2 z8 z4 zc ⊢
    obtain ⟨⟨t1, t2, t3⟩, t4, t5, t6⟩ := two u (by omega)
    rw [z8] at t4 t5 t6
    refine ⟨⟨t1.trans z4, t2.trans z12, t3.trans z2⟩, fun y y0 y1 => ?_, fun q => absurd q (by omega), fun _ => ⟨t4, fun k c k0 k1 c0 c1 => ?_, fun c c0 c1 => ?_⟩⟩
    · rw [t5 y y0 (by omega), zc, g3 y y0 (by omega)]
    · rw [t5 _ (by omega) (by omega), zc, g4 k c k0 (by omega) c0 c1, show 5 + k + 1 = 5 + (k + 1) by omega]
    · rw [t6 c c0 c1, zc, g3 _ (by omega) (by omega)]
  · have e : mLays m = mLays2 m := if_neg c6
    rw [e]
    obtain ⟨t0, t4, t5, t6⟩ := two m h8.1
    exact ⟨t0, fun y y0 y1 => t5 y y0 (by omega), fun _ => ⟨t4, fun k c k0 k1 c0 c1 => t5 _ (by omega) (by omega), t6⟩, fun q => absurd q c6⟩
theorem rem_c {x : LSt} (hu : uok x) : ((lRem x).1 2 = x.1 2 ∧ (lRem x).1 4 = x.1 4 ∧ (lRem x).2.1 1 = x.2.1 1) ∧ (x.1 1 < 6 → (lRem x).1 1 = x.1 1 + 1 ∧ (lRem x).1 0 = x.1 0) ∧ (x.1 1 = 6 → (lRem x).1 1 = 6 ∧ (lRem x).1 0 = Int.tmod (x.1 0 + 1) 6) ∧ ∀ q, (lRem x).2.2 q = if q = uSl x (x.1 1) then wCopy (x.2.2 (uSl x (x.1 1))) (x.2.2 0) else x.2.2 q := by
  have hw : ∀ q, (setW x (uSl x (x.1 1)) (wCopy (x.2.2 (uSl x (x.1 1))) (x.2.2 0))).2.2 q = if q = uSl x (x.1 1) then wCopy (x.2.2 (uSl x (x.1 1))) (x.2.2 0) else x.2.2 q := by
    intro q
    show (bif Nat.beq q (uSl x (x.1 1)) then _ else _) = _
    by_cases e : q = uSl x (x.1 1)
    · rw [if_pos e, e, Nat.beq_refl]; rfl
    · rw [if_neg e, bqF e]; rfl
  unfold lRem
  dsimp only
  by_cases c : x.1 1 < 6
  · rw [if_pos c]
    exact ⟨⟨rfl, rfl, rfl⟩, fun _ => ⟨rfl, rfl⟩, fun q => absurd q (by omega), hw⟩
  · rw [if_neg c]
    exact ⟨⟨rfl, rfl, rfl⟩, fun q => absurd q c, fun q => ⟨q, rfl⟩, hw⟩
theorem uR.step {x : LSt} {m m2 : MS} (h : uR x m) (hu : uok x) (hw : rW (x.2.2 0) (gD 0 m)) (e8 : m2.1 8 = m.1 8) (c3 : ∀ c : Int, 0 ≤ c → c < 2804 → mg m2 (3 * 2804 + c) = mg m (0 * 2804 + c)) (co : ∀ y : Int, 14020 ≤ y → mg m2 y = mg m y) : uR (lRem x) (mLays m2) := by
  obtain ⟨h1, h2⟩ := h
  obtain ⟨r1, r2, r3, r4⟩ := rem_c hu
  obtain ⟨l1, l2, l3, l4⟩ := lays_c (m := m2) (by omega)
  have sl : ∀ k, 0 ≤ k → uSl x k = 2 + ((x.1 0 + k) % 6).toNat := fun k hk => by
    unfold uSl
    rw [Int.tmod_eq_emod_of_nonneg (by omega)]
  by_cases c : x.1 1 < 6
  · obtain ⟨r5, r6⟩ := r2 c
    obtain ⟨l5, l6, l7⟩ := l3 (by omega)
    refine ⟨by rw [r5, l5]; omega, fun k k0 k1 => ?_⟩
    have es : uSl (lRem x) k = uSl x k := by unfold uSl; rw [r6]
    rw [es, r4]
    by_cases q : k = x.1 1
    · subst q
      rw [if_pos rfl]
      refine hw.copy.desk (fun c c0 c1 => ?_)
      rw [h1, ← e8, l7 c c0 c1, c3 c c0 c1]
    · rw [l5] at k1
      rw [if_neg (by rw [sl k k0, sl (x.1 1) (by omega)]; omega)]
      exact (h2 k k0 (by omega)).desk (fun c c0 c1 => by rw [l6 k c k0 (by omega) c0 c1]; exact co _ (by omega))
  · have c6 : x.1 1 = 6 := by omega
    obtain ⟨r5, r6⟩ := r3 c6
    obtain ⟨l5, l6, l7⟩ := l4 (by omega)
    refine ⟨by rw [r5, l5], fun k k0 k1 => ?_⟩
    rw [l5] at k1
    have es : uSl (lRem x) k = 2 + ((x.1 0 + 1 + k) % 6).toNat := by
      unfold uSl
      rw [r6, Int.tmod_eq_emod_of_nonneg (by omega : 0 ≤ x.1 0 + 1), Int.tmod_eq_emod_of_nonneg (by omega)]
      omega
    rw [r4]
    by_cases q : k = 5
    · subst q
      rw [if_pos (by rw [es, sl (x.1 1) (by omega)]; omega)]
      exact hw.copy.desk (fun c c0 c1 => by rw [l7 c c0 c1, c3 c c0 c1])
    · rw [if_neg (by rw [es, sl (x.1 1) (by omega)]; omega)]
      have := h2 (k + 1) (by omega) (by omega)
      rw [sl (k + 1) (by omega), show x.1 0 + (k + 1) = x.1 0 + 1 + k by omega, ← es] at this
      exact this.desk (fun c c0 c1 => by rw [l6 k c k0 (by omega) c0 c1]; exact co _ (by omega))
/-- a call that is done, and can be undone -/
theorem lwR.step {x : LSt} {m m2 : MS} {w' : WS} (h : lwR x m) (I2 : Inv m2) (d3 : dI 3 m2) (e4 : m2.1 4 = m.1 4) (e8 : m2.1 8 = m.1 8) (e12 : m2.2 12 = m.2 12) (e2 : m2.2 2 = m.2 2) (c3 : ∀ c : Int, 0 ≤ c → c < 2804 → mg m2 (3 * 2804 + c) = mg m (0 * 2804 + c)) (co : ∀ y : Int, 0 ≤ y → (2804 ≤ y ∧ y < 8412) ∨ 14020 ≤ y → mg m2 y = mg m y) (hw : rW w' (gD 0 m2)) (ok : wok w') : lwR (setW (lRem x) 0 w') (mLays m2) := by
  obtain ⟨h1, h2, h3, h4, h5, h6, h7⟩ := h
  have q := ql_Rem h1
  have q2 := ql_W (q := 0) q.1 ok
  have l := lays_ok I2 d3
  obtain ⟨⟨r1, r2, r3⟩, -, -, r4⟩ := rem_c h1.1
  obtain ⟨⟨l1, l2, l3⟩, l4, -, -⟩ := lays_c (m := m2) I2.2.1
  have u := h5.step h1.1 h7 e8 c3 (fun y hy => co y (by omega) (Or.inr hy))
  refine ⟨q2.1, l.1, h3.of r2 r3 (l1.trans e4) (l3.trans e2), h4.of r1 (l2.trans e12), u.of rfl rfl (fun q q0 _ => ?_) q.1.1 rfl (fun _ _ => rfl), h6.of (fun q q0 => ?_) (l2.trans e12) (fun y y0 y1 => ?_), ?_⟩
  · show (bif Nat.beq q 0 then w' else (lRem x).2.2 q) = _
    rw [bqF (by omega)]; rfl
  · show (bif Nat.beq q 0 then w' else (lRem x).2.2 q) = _
    rw [bqF (by omega)]
    show (lRem x).2.2 q = _
    rw [r4, if_neg ?_]
    unfold uSl
    have := Int.tmod_lt_of_pos (x.1 0 + x.1 1) (b := 6) (by decide)
    omega
  · rw [l4 y (by omega) (by omega)]
    exact co y (by omega) (Or.inl ⟨y0, y1⟩)
  · exact hw.desk (fun c c0 c1 => l4 _ (by omega) (by omega))
end
