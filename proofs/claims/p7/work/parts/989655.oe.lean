/-! ===== the model: what is taken back, told, closed; its loops ===== -/
theorem cF_S3 {s : MS} {k : Nat} {v : Int} : (mS s k v).2 3 = s.2 3 := rfl
theorem send_1 {s : MS} {d kd i : Int} : (mSend s d kd i).1 = s.1 := by
  unfold mSend mSend4
  exact ((((cF_P.trans (sdL_1 _ d i 5 0 _)).trans cF_I).trans cF_I).trans (cF_I.trans cF_P)).1
theorem tkM {d : Int} {s : MS} {l : List Row} {g : Int → Int} {i : Nat} {r : Row} (hL : lsM d s l) (hB : sB d s g) (hd : 0 ≤ d) (hi : l[i]? = some r) (hg : gR r) (h7 : 0 ≤ g 7) : lsM d (mTake s d i) (l.set i (up1 r 6 0)) ∧ sB d (mTake s d i) (tkG g r) ∧ (mTake s d i).1 = s.1 := by
  have e6 := hL.at hi (c := 6) (by decide) (by decide)
  have h6 := hg.2.2.1
  unfold mTake tkG
  rw [e6]
  by_cases c : 0 < r 6
  · rw [if_pos c, if_pos c]
    obtain ⟨a, b⟩ := snM (kd := 3) hL hB hd hi h7 (by decide) hg.1
    exact ⟨a, b, send_1⟩
  · rw [if_neg c, if_neg c, up1_self (show r 6 = 0 by omega), set_same hi]
    exact ⟨hL, hB, rfl⟩
/-! finals -/
theorem sumI_c (f f' : Int → Int) : ∀ (n : Nat) (i a : Int), (∀ j, i ≤ j → j < i + n → f j = f' j) → sumI f n i a = sumI f' n i a
  | 0, _, _, _ => rfl
  | n + 1, i, a, h => by
    rw [sumI, sumI, h i (Int.le_refl _) (by omega)]
    exact sumI_c f f' n (i + 1) _ (fun j j0 j1 => h j (by omega) (by omega))
theorem closed_B {d : Int} {s : MS} {g : Int → Int} (hB : sB d s g) : mClosed s d = sm6 g := sumI_c _ _ 6 0 0 (fun j j0 j1 => hB (36 + j) (by omega) (by unfold zB; omega))
def clG (a : Int) (r : Row) : Nat → Int → (Int → Int) → Int → Int
  | 0, _, g => g
  | m + 1, w, g => clG a r m (w + 1) (up1 g (a + w) (r w))
theorem clL_B {d a : Int} {l : List Row} {i : Nat} {r : Row} (hd : 0 ≤ d) (ha : 84 ≤ a ∧ a ≤ 357) (hi : l[i]? = some r) : ∀ (m : Nat) (w : Int) (s : MS) (g : Int → Int), 0 ≤ w → w + m ≤ 7 → lsM d s l → sB d s g → lsM d (clL (d * 2804 + a) d i m w s) l ∧ sB d (clL (d * 2804 + a) d i m w s) (clG a r m w g)
  | 0, _, _, _, _, _, hL, hB => ⟨hL, hB⟩
  | m + 1, w, s, g, h0, h1, hL, hB => by
    rw [clL, clG, hL.at hi h0 (by omega), show d * 2804 + a + w = d * 2804 + (a + w) by omega]
    exact clL_B hd ha hi m (w + 1) _ _ (by omega) (by omega) (hL.ne hd (by omega) (by unfold zB; omega)) (hB.put hd rfl (by omega))
theorem clG7 {a : Int} {r : Row} {g : Int → Int} : clG a r 7 0 g = up1 (up1 (up1 (up1 (up1 (up1 (up1 g (a + 0) (r 0)) (a + 1) (r 1)) (a + 2) (r 2)) (a + 3) (r 3)) (a + 4) (r 4)) (a + 5) (r 5)) (a + 6) (r 6) := by
  show up1 (up1 (up1 (up1 (up1 (up1 (up1 g (a + 0) (r 0)) (a + (0 + 1)) (r (0 + 1))) (a + (0 + 1 + 1)) (r (0 + 1 + 1))) (a + (0 + 1 + 1 + 1)) (r (0 + 1 + 1 + 1))) (a + (0 + 1 + 1 + 1 + 1)) (r (0 + 1 + 1 + 1 + 1))) (a + (0 + 1 + 1 + 1 + 1 + 1)) (r (0 + 1 + 1 + 1 + 1 + 1))) (a + (0 + 1 + 1 + 1 + 1 + 1 + 1)) (r (0 + 1 + 1 + 1 + 1 + 1 + 1)) = _
  rw [show (0 : Int) + 1 = 1 from rfl, show (1 : Int) + 1 = 2 from rfl, show (2 : Int) + 1 = 3 from rfl, show (3 : Int) + 1 = 4 from rfl, show (4 : Int) + 1 = 5 from rfl, show (5 : Int) + 1 = 6 from rfl]
theorem out_at {d : Int} {s : MS} {i j q : Int} (hd : 0 ≤ d) (hi : 0 ≤ i) (hj : 0 ≤ j) (h : j < mg (mOut1 s d) (d * 2804 + 5)) (hq : 0 ≤ q ∧ q < 7) : mg (mOut s d i) (d * 2804 + 364 + 7 * j + q) = if i ≤ j then mg s (d * 2804 + 364 + 7 * (j + 1) + q) else mg s (d * 2804 + 364 + 7 * j + q) := by
  by_cases hc : i ≤ j
  · rw [if_pos hc]
    show (if _ then (mOut1 s d).2 3 _ else _) = _
    rw [if_pos (by constructor <;> omega), show (d * 2804 + 364 + 7 * j + q).toNat + 7 = (d * 2804 + 364 + 7 * (j + 1) + q).toNat by omega]
    exact mInc_ne (by omega) (by omega) (by omega)
  · rw [if_neg hc]
    show (if _ then _ else _) = _
    rw [if_neg (fun q => by omega)]
    exact mInc_ne (by omega) (by omega) (by omega)
theorem outM {d : Int} {s : MS} {l : List Row} {g : Int → Int} {i : Nat} (hL : lsM d s l) (hB : sB d s g) (hd : dOk d) (hi : i < l.length) : lsM d (mOut s d i) (l.eraseIdx i) ∧ sB d (mOut s d i) g := by
  have hd0 : 0 ≤ d := hd.1
  have hn := hL.1
  have e1 : mg (mOut1 s d) (d * 2804 + 5) = (l.length : Int) - 1 := by rw [out1_5, hn.1, wI_id ⟨by omega, by omega⟩]; omega
  have el : (l.eraseIdx i).length = l.length - 1 := List.length_eraseIdx_of_lt hi
  refine ⟨⟨⟨?_, by omega⟩, fun j r hj => ?_⟩, hB.same (fun c c0 hc => ?_)⟩
  · rw [out_fr hd (by omega) (by omega) (by omega) (by omega), e1, el]; omega
  · have hl := lt_some hj
    rw [el] at hl
    rw [List.getElem?_eraseIdx] at hj
    by_cases q : j < i
    · rw [if_pos q] at hj
      refine (hL.2 j r hj).of (fun c c0 c1 => ?_)
      rw [out_at hd0 (by omega) (by omega) (by omega) ⟨c0, c1⟩, if_neg (by omega)]
    · rw [if_neg q] at hj
      refine (hL.2 (j + 1) r hj).of (fun c c0 c1 => ?_)
      rw [out_at hd0 (by omega) (by omega) (by omega) ⟨c0, c1⟩, if_pos (by omega)]
      rfl
  · unfold zB at hc
    rw [out_fr hd (by omega) (by omega) (by omega) (by omega)]
    exact out1_ne hd (by omega) (by omega)
theorem clM {d : Int} {s : MS} {l : List Row} {g : Int → Int} {i : Nat} {r : Row} (hL : lsM d s l) (hB : sB d s g) (hd : dOk d) (hi : l[i]? = some r) (hg : gR r) (hb : bd6 g) : lsM d (mClose s d i) (l.eraseIdx i) ∧ sB d (mClose s d i) (fn1 g r) ∧ (mClose s d i).1 = s.1 := by
  have hd0 : 0 ≤ d := hd.1
  have s0 := (fn1_s (r := r) hb hg.1).2.1
  have t := tm40 s0
  have ep : pFi s d = d * 2804 + (84 + 7 * Int.tmod (sm6 g) 40) := by
    show d * 2804 + 84 + 7 * Int.tmod (mClosed s d) 40 = _
    rw [closed_B hB]; omega
  have key : lsM d (mCl2 (clL (pFi s d) d i 7 0 s) d i) l ∧ sB d (mCl2 (clL (pFi s d) d i 7 0 s) d i) (fn1 g r) := by
    rw [ep]
    unfold fn1
    generalize Int.tmod (sm6 g) 40 = q at t
    obtain ⟨a, b⟩ := clL_B (a := 84 + 7 * q) hd0 (by omega) hi 7 0 s g (by decide) (by decide) hL hB
    rw [clG7] at b
    generalize clL (d * 2804 + (84 + 7 * q)) d i 7 0 s = u at a b ⊢
    have hz : ∀ c, 36 ≤ c → c < 60 → zB c := fun c c0 c1 => by unfold zB; omega
    have k0 := hg.1
    unfold mCl2
    dsimp only
    rw [a.at hi (c := 0) (by decide) (by decide), a.at hi (c := 1) (by decide) (by decide), a.at hi (c := 2) (by decide) (by decide)]
    have a1 : lsM d (mInc u (d * 2804 + (36 + r 0)) 1) l := a.ne hd0 (by omega) (hz _ (by omega) (by omega))
    have b1 := b.inc (v := 1) hd0 (rfl : d * 2804 + (36 + r 0) = d * 2804 + (36 + r 0)) (by omega) (hz _ (by omega) (by omega))
    rw [a1.at hi (c := 3) (by decide) (by decide)]
    generalize mInc u (d * 2804 + (36 + r 0)) 1 = u1 at a1 b1 ⊢
    have a2 : lsM d (mInc u1 (d * 2804 + (42 + r 0)) (r 3)) l := a1.ne hd0 (by omega) (hz _ (by omega) (by omega))
    have b2 := b1.inc (v := r 3) hd0 (rfl : d * 2804 + (42 + r 0) = d * 2804 + (42 + r 0)) (by omega) (hz _ (by omega) (by omega))
    rw [a2.at hi (c := 4) (by decide) (by decide)]
    generalize mInc u1 (d * 2804 + (42 + r 0)) (r 3) = u2 at a2 b2 ⊢
    have a3 : lsM d (mInc u2 (d * 2804 + (48 + r 0)) (r 4)) l := a2.ne hd0 (by omega) (hz _ (by omega) (by omega))
    have b3 := b2.inc (v := r 4) hd0 (rfl : d * 2804 + (48 + r 0) = d * 2804 + (48 + r 0)) (by omega) (hz _ (by omega) (by omega))
    generalize mInc u2 (d * 2804 + (48 + r 0)) (r 4) = u3 at a3 b3 ⊢
    have e54 := b3 (54 + r 0) (by omega) (hz _ (by omega) (by omega))
    rw [in1_ne (by omega), in1_ne (by omega), in1_ne (by omega), up1_ne (by omega), up1_ne (by omega), up1_ne (by omega), up1_ne (by omega), up1_ne (by omega), up1_ne (by omega), up1_ne (by omega)] at e54
    rw [e54]
    exact ⟨a3.ne hd0 (by omega) (hz _ (by omega) (by omega)), b3.put hd0 rfl (by omega)⟩
  obtain ⟨a, b⟩ := key
  obtain ⟨a2, b2⟩ := outM a b hd (lt_some hi)
  refine ⟨a2, b2, ?_⟩
  unfold mClose mCl2
  dsimp only
  exact ((((clL_1 (pFi s d) d i 7 0 s).trans cF_I).trans cF_I).trans (cF_I.trans (cF_P.trans out_c))).1
/-! whose turn it is -/
def stG (g : Int → Int) (ga la p : Int) : Prop := (g 1 = ga ∧ g 2 = la ∧ g 4 = p) ∧ (0 ≤ ga ∧ ga ≤ 99) ∧ 0 ≤ la ∧ la ≤ 99
theorem stG.of {g g' : Int → Int} {ga la p : Int} (h : stG g ga la p) (e : ∀ c, 0 ≤ c → c < 5 → g' c = g c) : stG g' ga la p :=
  ⟨⟨(e 1 (by decide) (by decide)).trans h.1.1, (e 2 (by decide) (by decide)).trans h.1.2.1, (e 4 (by decide) (by decide)).trans h.1.2.2⟩, h.2⟩
theorem rip_m {d : Int} {s : MS} {l : List Row} {g : Int → Int} {ga la p q : Int} {i : Nat} {r : Row} (hL : lsM d s l) (hB : sB d s g) (hi : l[i]? = some r) (hg : gR r) (hs : stG g ga la p) : mRipe s d i q ↔ r 2 + ga < q := by
  obtain ⟨-, ⟨a1, a2, a3⟩, -⟩ := hg
  obtain ⟨⟨s1, s2, s5⟩, s3, s4⟩ := hs
  show wI (mg s (d * 2804 + 364 + 7 * (i : Int) + 2) + mg s (d * 2804 + 1)) < q ↔ _
  rw [hL.at hi (by decide) (by decide), hB 1 (by decide) (by unfold zB; omega), s1, wI_id (z := r 2 + ga) ⟨by omega, by omega⟩]
theorem ov_m {d : Int} {s : MS} {l : List Row} {g : Int → Int} {ga la p q : Int} {i : Nat} {r : Row} (hL : lsM d s l) (hB : sB d s g) (hi : l[i]? = some r) (hg : gR r) (hs : stG g ga la p) : mOver s d i q ↔ r 2 + ga + la < q := by
  obtain ⟨-, ⟨a1, a2, a3⟩, -⟩ := hg
  obtain ⟨⟨s1, s2, s5⟩, s3, s4⟩ := hs
  show wI (wI (mg s (d * 2804 + 364 + 7 * (i : Int) + 2) + mg s (d * 2804 + 1)) + mg s (d * 2804 + 2)) < q ↔ _
  rw [hL.at hi (by decide) (by decide), hB 1 (by decide) (by unfold zB; omega), hB 2 (by decide) (by unfold zB; omega), s1, s2, wI_id (z := r 2 + ga) ⟨by omega, by omega⟩, wI_id (z := r 2 + ga + la) ⟨by omega, by omega⟩]
theorem fr_m {d : Int} {s : MS} {l : List Row} {g : Int → Int} {ga la p wa T : Int} {i : Nat} {r : Row} (hL : lsM d s l) (hB : sB d s g) (hi : l[i]? = some r) (hg : gR r) (hs : stG g ga la p) (hT : T = 6 * s.1 10 + s.1 11 ∧ -1 ≤ s.1 11 ∧ s.1 11 ≤ 5) : mFr s d wa i ↔ newB ga wa p r = true ∧ T < tuR r := by
  have e1 := rip_m (q := mg s (d * 2804 + 4)) hL hB hi hg hs
  have e2 := rip_m (q := wa) hL hB hi hg hs
  have e4 := hB 4 (by decide) (by unfold zB; omega)
  rw [e4, hs.1.2.2] at e1
  have e3 : mDone s d i ↔ ¬ T < tuR r := by
    obtain ⟨a0, ⟨a1, a2, a3⟩, -⟩ := hg
    show (mg s (d * 2804 + 364 + 7 * (i : Int) + 2) < s.1 10 ∨ (mg s (d * 2804 + 364 + 7 * (i : Int) + 2) = s.1 10 ∧ mg s (d * 2804 + 364 + 7 * (i : Int) + 0) ≤ s.1 11)) ↔ _
    rw [hL.at hi (c := 2) (by decide) (by decide), hL.at hi (c := 0) (by decide) (by decide)]
    unfold tuR
    omega
  show (mRipe s d i (mg s (d * 2804 + 4)) ∧ ¬ mRipe s d i wa ∧ ¬ mDone s d i) ↔ _
  rw [e4, hs.1.2.2, e1, e2, e3, Classical.not_not]
  unfold newB
  rw [decide_eq_true_iff, and_assoc]
theorem bef_at {ga : Int} {l l1 l2 : List Row} {r x : Row} (hl : gdL ga l) (e : l = l1 ++ x :: l2) (hr : r ∈ l1) : bef ga r x := by
  have := hl.2
  rw [e] at this
  exact (List.pairwise_append.mp this).2.2 r hr x List.mem_cons_self
theorem frL_s {d : Int} {s : MS} {l : List Row} {g : Int → Int} {ga la p wa T : Int} (hL : lsM d s l) (hB : sB d s g) (hl : gdL ga l) (hs : stG g ga la p) (hT : T = 6 * s.1 10 + s.1 11 ∧ -1 ≤ s.1 11 ∧ s.1 11 ≤ 5) : ∀ (l2 l1 : List Row) (f : Int), l = l1 ++ l2 → bst (newB ga wa p) T l l1 f → bst (newB ga wa p) T l l (frL s d wa l2.length (l1.length : Int) f)
  | [], l1, f, e, hb => by
    rw [List.append_nil] at e
    subst e
    exact hb
  | x :: l2, l1, f, e, hb => by
    have hx : l[l1.length]? = some x := by rw [e]; exact at_len
    have hgx := hl.1 x (mem_at hx)
    have hd := fr_m (wa := wa) hL hB hx hgx hs hT
    have x2 := hL.at hx (c := 2) (by decide) (by decide)
    have e2 : l = (l1 ++ [x]) ++ l2 := by rw [e, List.append_assoc]; rfl
    show bst (newB ga wa p) T l l (frL s d wa l2.length ((l1.length : Int) + 1) (if mFr s d wa (l1.length : Int) ∧ (f < 0 ∨ mg s (d * 2804 + 364 + 7 * (l1.length : Int) + 2) < mg s (d * 2804 + 364 + 7 * f + 2)) then (l1.length : Int) else f))
    rw [← len_1 (x := x)]
    have q0 := hgx.1
    by_cases c : mFr s d wa (l1.length : Int) ∧ (f < 0 ∨ mg s (d * 2804 + 364 + 7 * (l1.length : Int) + 2) < mg s (d * 2804 + 364 + 7 * f + 2))
    · rw [if_pos c]
      obtain ⟨d1, d2⟩ := hd.mp c.1
      refine frL_s hL hB hl hs hT l2 (l1 ++ [x]) _ e2 (hb.yes hx d1 d2 (fun i r ei hi _ => ?_))
      have r0 := (hl.1 r (mem_at hi)).1
      have c2 := c.2
      rw [x2, ei, hL.at hi (c := 2) (by decide) (by decide)] at c2
      unfold tuR
      omega
    · rw [if_neg c]
      refine frL_s hL hB hl hs hT l2 (l1 ++ [x]) f e2 (hb.no (fun d1 d2 => ?_))
      have c2 : ¬ (f < 0 ∨ mg s (d * 2804 + 364 + 7 * (l1.length : Int) + 2) < mg s (d * 2804 + 364 + 7 * f + 2)) := fun z => c ⟨hd.mpr ⟨d1, d2⟩, z⟩
      rw [x2] at c2
      refine ⟨by omega, fun i r ei hi hm => ?_⟩
      obtain ⟨r0, ⟨r1, r2, r3⟩, -⟩ := hl.1 r (mem_at hi)
      obtain ⟨-, ⟨y1, y2, y3⟩, -⟩ := hgx
      have hbf := bef_at hl e hm
      have ga0 := hs.2.1.1
      rw [ei, hL.at hi (c := 2) (by decide) (by decide)] at c2
      unfold bef at hbf
      unfold tuR
      omega
theorem firstR_s {d : Int} {s : MS} {l : List Row} {g : Int → Int} {ga la p wa T : Int} (hL : lsM d s l) (hB : sB d s g) (hl : gdL ga l) (hs : stG g ga la p) (hT : T = 6 * s.1 10 + s.1 11 ∧ -1 ≤ s.1 11 ∧ s.1 11 ≤ 5) : bst (newB ga wa p) T l l (mFirstR s d wa) := by
  have := frL_s (wa := wa) hL hB hl hs hT l [] (-1) rfl (Or.inl ⟨rfl, fun x hx => absurd hx List.not_mem_nil⟩)
  unfold mFirstR
  rw [hL.1.1, show ((l.length : Int)).toNat = l.length by omega]
  exact this
theorem fcL_s {d : Int} {s : MS} {l : List Row} {g : Int → Int} {ga la p : Int} (hL : lsM d s l) (hB : sB d s g) (hl : gdL ga l) (hs : stG g ga la p) : ∀ (l2 l1 : List Row) (f : Int), l = l1 ++ l2 → bst (ovB ga la p) (-1) l l1 f → bst (ovB ga la p) (-1) l l (fcL s d l2.length (l1.length : Int) f)
  | [], l1, f, e, hb => by
    rw [List.append_nil] at e
    subst e
    exact hb
  | x :: l2, l1, f, e, hb => by
    have hx : l[l1.length]? = some x := by rw [e]; exact at_len
    have hgx := hl.1 x (mem_at hx)
    have e4 := hB 4 (by decide) (by unfold zB; omega)
    have e4p : mg s (d * 2804 + 4) = p := e4.trans hs.1.2.2
    have hd := ov_m (q := mg s (d * 2804 + 4)) hL hB hx hgx hs
    have x2 := hL.at hx (c := 2) (by decide) (by decide)
    have e2 : l = (l1 ++ [x]) ++ l2 := by rw [e, List.append_assoc]; rfl
    have tx := hgx.tu
    show bst (ovB ga la p) (-1) l l (fcL s d l2.length ((l1.length : Int) + 1) (if mOver s d (l1.length : Int) (mg s (d * 2804 + 4)) ∧ (f < 0 ∨ mg s (d * 2804 + 364 + 7 * (l1.length : Int) + 2) < mg s (d * 2804 + 364 + 7 * f + 2)) then (l1.length : Int) else f))
    rw [← len_1 (x := x)]
    have q0 := hgx.1
    by_cases c : mOver s d (l1.length : Int) (mg s (d * 2804 + 4)) ∧ (f < 0 ∨ mg s (d * 2804 + 364 + 7 * (l1.length : Int) + 2) < mg s (d * 2804 + 364 + 7 * f + 2))
    · rw [if_pos c]
      refine fcL_s hL hB hl hs l2 (l1 ++ [x]) _ e2 (hb.yes hx (decide_eq_true (by have := hd.mp c.1; rw [e4p] at this; exact this)) (by omega) (fun i r ei hi _ => ?_))
      have r0 := (hl.1 r (mem_at hi)).1
      have c2 := c.2
      rw [x2, ei, hL.at hi (c := 2) (by decide) (by decide)] at c2
      unfold tuR
      omega
    · rw [if_neg c]
      refine fcL_s hL hB hl hs l2 (l1 ++ [x]) f e2 (hb.no (fun d1 d2 => ?_))
      have c2 : ¬ (f < 0 ∨ mg s (d * 2804 + 364 + 7 * (l1.length : Int) + 2) < mg s (d * 2804 + 364 + 7 * f + 2)) := fun z => c ⟨hd.mpr (by rw [e4p]; exact of_decide_eq_true d1), z⟩
      rw [x2] at c2
      refine ⟨by omega, fun i r ei hi hm => ?_⟩
      obtain ⟨r0, ⟨r1, r2, r3⟩, -⟩ := hl.1 r (mem_at hi)
      obtain ⟨-, ⟨y1, y2, y3⟩, -⟩ := hgx
      have hbf := bef_at hl e hm
      have ga0 := hs.2.1.1
      rw [ei, hL.at hi (c := 2) (by decide) (by decide)] at c2
      unfold bef at hbf
      unfold tuR
      omega
theorem firstC_s {d : Int} {s : MS} {l : List Row} {g : Int → Int} {ga la p : Int} (hL : lsM d s l) (hB : sB d s g) (hl : gdL ga l) (hs : stG g ga la p) : bst (ovB ga la p) (-1) l l (mFirstC s d) := by
  have := fcL_s hL hB hl hs l [] (-1) rfl (Or.inl ⟨rfl, fun x hx => absurd hx List.not_mem_nil⟩)
  unfold mFirstC
  rw [hL.1.1, show ((l.length : Int)).toNat = l.length by omega]
  exact this
