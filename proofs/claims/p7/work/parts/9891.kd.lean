/-! ===== what is tried aside: would, again, latest, without, years ===== -/
theorem oD.e3 {d : Int} {s s' u : MS} (h : oD d s s') (e1 : u.1 = s'.1) (e2 : u.2 = s'.2) : oD d s u := by
  have : u = s' := by cases u; cases s'; cases e1; cases e2; rfl
  rw [this]; exact h
section FA
variable {m : MS} {K : KM}
theorem iv_would {k t v r : Int} (hk : xB k) (ht : xB t) (hv : xB v) (hr : xB r) (h : Inv m) (kk : ∀ q m', Qi m m' → K [pI q] m') : sX3_would k t v r m K := by
  refine ⟨⟨⟨hk, ht, hv, hr⟩, h.mok⟩, 650, fun _ => kk _ _ h.s0, fun c => ?_⟩
  have hz := h.mok
  have c4 : 0 ≤ r ∧ r < mg m 0 := c.2.2.2
  have h6 := h.six
  have q0 := h.s0 (v := 0)
  have w6 : mg (gWoS m) (4 * 2804 + 6) = 0 := mg_eq
  have wc : ∀ c : Int, 0 ≤ c → c < 2804 → c ≠ 6 → mg (gWoS m) (4 * 2804 + c) = mg m (0 * 2804 + c) := fun c c0 c1 c2 => by
    unfold gWoS
    rw [mg_ne (by decide) (by omega) (by omega), copy_at (by decide) (by decide) c0 c1]
    rfl
  have o : oD 4 (mS m 0 0) (gWoS m) := by
    have o1 : oD 4 (mS m 0 0) (mCopy (mS m 0 0) 0 4) := copy_o (by decide)
    exact o1.trans ⟨fun x x0 hx => mg_ne (by decide) x0 (by omega), cF_P.s⟩
  have V : dV 4 (mg m (0 * 2804 + 6)) (2700 * mg m (0 * 2804 + 6)) (gWoS m) := h.2.2.2.1.2.2.1.of h6.2 (fun c hc => wc c (by omega) (by omega) (by omega))
  refine ⟨by rw [w6]; decide, ?_⟩
  refine come_ok (j := 0) V ⟨by decide, by decide⟩ h6.2 (by omega) (by rw [wc 0 (by decide) (by decide) (by decide)]; exact h.zero.2) w6 (by decide) c.1 ⟨c4.1, by have := hz.2; omega⟩ (fun s' hc _ => ?_)
  have o2 : oD 4 (gWoS m) s' := ⟨fun x x0 hx => by
    have := hc.1 (x - 4 * 2804) (by omega) (by omega)
    rw [show 4 * 2804 + (x - 4 * 2804) = x by omega] at this
    exact this, hc.2.1⟩
  exact kk _ _ (en2 (q0.trans (q0.1.on4 (o.trans o2))))
theorem saL_f : ∀ (n : Nat) (r : Int) (s : MS), 0 ≤ r → cF s (saL n r s) ∧ ∀ x : Int, 0 ≤ x → (x < 4 * 2804 + 16 + r ∨ 4 * 2804 + 16 + r + n ≤ x) → mg (saL n r s) x = mg s x
  | 0, _, _, _ => ⟨cF.same, fun _ _ _ => rfl⟩
  | n + 1, r, s, hr => by
    rw [saL]
    obtain ⟨a, b⟩ := saL_f n (r + 1) (mP s (4 * 2804 + (16 + r)) (mg s (0 * 2804 + (16 + r)))) (by omega)
    exact ⟨cF_P.trans a, fun x x0 hx => by rw [b x x0 (by omega), mg_ne (by omega) x0 (by omega)]⟩
theorem startA_ok {g l e : Int} (h : Inv m) : dI 4 (mStartA m g l e) ∧ oD 4 m (mStartA m g l e) ∧ mg (mStartA m g l e) (4 * 2804 + 6) = 0 := by
  obtain ⟨a, b, c⟩ := starts_ok (s := m) (d := 4) (n := mg m (0 * 2804 + 0)) (g := g) (l := l) (e := e) (by decide) h.zero
  unfold mStartA
  generalize mStarts m 4 (mg m (0 * 2804 + 0)) g l e = u at a b c ⊢
  obtain ⟨f1, f2⟩ := saL_f 4 0 u (by decide)
  refine ⟨a.of (fun c hc => f2 _ (by omega) (by omega)), b.trans ⟨fun x x0 hx => f2 x x0 (by omega), f1.s⟩, ?_⟩
  rw [f2 _ (by decide) (by decide)]
  exact c
theorem ag_ok {i : Int} {s : MS} {K : MS → Prop} (d0 : dI 0 s) (d4 : dI 4 s) (h0 : 0 ≤ i) (h1 : i < nIn s) (h2 : mg s (4 * 2804 + 6) ≤ i) (kk : ∀ s', dI 4 s' → oD 4 s s' → mg s' (4 * 2804 + 6) = mg s (4 * 2804 + 6) + 1 → K s') : agP s 4 i 650 K := by
  have h6 := d0.2.1
  have h46 := d4.2.1
  have g := d0.2.2.2 i h0 h1
  have e : ∀ c : Int, 0 * 2804 + (1844 + 6 * i + c) = 1844 + 6 * i + c := fun c => by omega
  rw [e, e, e] at g
  have h1 : i < mg s (0 * 2804 + 6) := h1
  exact ⟨⟨g.1, h46.1, by omega⟩, fun c => d4.come ⟨by decide, by decide⟩ (by omega) (g.2 c) g.1 kk, fun _ => ⟨fun _ => d4.mark ⟨by decide, by decide⟩ (by omega) g.1 kk, fun _ => d4.idle ⟨by decide, by decide⟩ (by omega) g.1 kk⟩⟩
theorem nIn_o {s s' : MS} (o : oD 4 s s') : nIn s' = nIn s := o.1 _ (by decide) (by decide)
theorem agM_ok {K : MS → Prop} : ∀ (n : Nat) (i : Int) (s : MS), dI 0 s → dI 4 s → 0 ≤ i → mg s (4 * 2804 + 6) ≤ i → nIn s ≤ i + n → (∀ s', oD 4 s s' → K s') → agM1 K 650 n i s
  | 0, i, s, d0, d4, h0, h1, h2, kk => ⟨by omega, kk s oD.same⟩
  | n + 1, i, s, d0, d4, h0, h1, h2, kk => by
    refine ⟨fun _ => kk s oD.same, fun h => ⟨by have := d0.2.1; have : nIn s = mg s (0 * 2804 + 6) := rfl; omega, ag_ok d0 d4 h0 h h1 (fun s' d4' o e => ?_)⟩⟩
    exact agM_ok n (i + 1) s' (d0.other (by decide) (by decide) (by decide) o) d4' (by omega) (by omega) (by rw [nIn_o o]; omega) (fun s2 o2 => kk s2 (o.trans o2))
theorem iv_again {g l e : Int} (hg : xB g) (hl : xB l) (he : xB e) (h : Inv m) (kk : ∀ q m', Qi m m' → K [pI q] m') : sX3_again g l e m K := by
  refine ⟨⟨hg, hl, he⟩, fun _ => kk _ _ h.s0, fun _ => ⟨650, 160, ?_⟩⟩
  have q0 := h.s0 (v := 0)
  obtain ⟨a, b, c⟩ := startA_ok (g := g) (l := l) (e := e) q0.1
  have q1 := q0.1.on4 b
  refine agM_ok 160 0 _ q1.1.2.2.2.1 a (by decide) (by rw [c]; decide) (by have := q1.1.six; show mg _ (0 * 2804 + 6) ≤ 0 + 160; omega) (fun s' o => ?_)
  have q2 := q0.trans (q1.trans (q1.1.on4 o))
  refine kk _ _ (q2.trans (q2.1.cong ?_ rfl rfl rfl rfl))
  exact ⟨by show (0 : Int) ≤ 0 + 1 + 1 + 1 + 1 + 1 + 1; decide, by show (0 : Int) + 1 + 1 + 1 + 1 + 1 + 1 ≤ 16; decide⟩
theorem la_ok {K : Int → Int → MS → Prop} : ∀ (n : Nat) (i a b : Int) (s : MS), dI 0 s → dI 4 s → 0 ≤ i → mg s (4 * 2804 + 6) ≤ i → nIn s ≤ i + n → (∀ a b s', oD 4 s s' → K a b s') → laP K 650 n i a b s
  | 0, i, a, b, s, d0, d4, h0, h1, h2, kk => ⟨by omega, kk a b s oD.same⟩
  | n + 1, i, a, b, s, d0, d4, h0, h1, h2, kk => by
    refine ⟨fun _ => kk a b s oD.same, fun h => ⟨by have := d0.2.1; have : nIn s = mg s (0 * 2804 + 6) := rfl; omega, fun _ => ag_ok d0 d4 h0 h h1 (fun s' d4' o e => ?_), fun _ => ag_ok d0 d4 h0 h h1 (fun s' d4' o e => ?_)⟩⟩
    · exact la_ok n (i + 1) _ _ s' (d0.other (by decide) (by decide) (by decide) o) d4' (by omega) (by omega) (by rw [nIn_o o]; omega) (fun a b s2 o2 => kk a b s2 (o.trans o2))
    · exact la_ok n (i + 1) _ _ s' (d0.other (by decide) (by decide) (by decide) o) d4' (by omega) (by omega) (by rw [nIn_o o]; omega) (fun a b s2 o2 => kk a b s2 (o.trans o2))
theorem iv_latest (h : Inv m) (kk : ∀ q m', Qi m m' → K [pI q] m') : sX3_latest m K := by
  refine ⟨650, 160, ?_⟩
  have q0 := h.s0 (v := 0)
  unfold gLatS
  obtain ⟨a, b, c⟩ := startA_ok (g := mg m (0 * 2804 + 1)) (l := mg m (0 * 2804 + 2)) (e := mg m (0 * 2804 + 3)) q0.1
  have q1 := q0.1.on4 b
  refine la_ok 160 0 _ _ _ q1.1.2.2.2.1 a (by decide) (by rw [c]; decide) (by have := q1.1.six; show mg _ (0 * 2804 + 6) ≤ 0 + 160; omega) (fun x y s' o => ?_)
  exact kk _ _ (en1 (q0.trans (q1.trans (q1.1.on4 o))))
theorem wo_ok {r : Int} {K : MS → Prop} : ∀ (n : Nat) (i : Int) (s : MS), dI 0 s → dI 4 s → 0 ≤ i → mg s (4 * 2804 + 6) ≤ i → nIn s ≤ i + n → (∀ s', oD 4 s s' → K s') → woM r K 650 n i s
  | 0, i, s, d0, d4, h0, h1, h2, kk => ⟨by omega, kk s oD.same⟩
  | n + 1, i, s, d0, d4, h0, h1, h2, kk => by
    refine ⟨fun _ => kk s oD.same, fun h => ⟨by have := d0.2.1; have : nIn s = mg s (0 * 2804 + 6) := rfl; omega, fun _ => wo_ok n (i + 1) s d0 d4 (by omega) (by omega) (by omega) kk, fun _ => ag_ok d0 d4 h0 h h1 (fun s' d4' o e => ?_)⟩⟩
    exact wo_ok n (i + 1) s' (d0.other (by decide) (by decide) (by decide) o) d4' (by omega) (by omega) (by rw [nIn_o o]; omega) (fun s2 o2 => kk s2 (o.trans o2))
theorem iv_without {r : Int} (hr : xB r) (h : Inv m) (kk : ∀ q m', Qi m m' → K [pI q] m') : sX3_without r m K := by
  refine ⟨⟨hr, h.mok⟩, fun _ => kk _ _ h.s0, fun c => ⟨fun _ => kk _ _ h.s0, fun _ => ⟨650, 160, ?_⟩⟩⟩
  have hz := h.mok
  have c4 : 0 ≤ r ∧ r < mg m 0 := c
  have c5 : r ≤ 3 := by have := hz.2; omega
  have q0 := h.s0 (v := 0)
  unfold gWiS gLatS
  obtain ⟨a, b, c⟩ := startA_ok (g := mg m (0 * 2804 + 1)) (l := mg m (0 * 2804 + 2)) (e := mg m (0 * 2804 + 3)) q0.1
  generalize mStartA (mS m 0 0) (mg m (0 * 2804 + 1)) (mg m (0 * 2804 + 2)) (mg m (0 * 2804 + 3)) = u at a b c ⊢
  have o2 : oD 4 u (mP u (4 * 2804 + (20 + r)) 1) := ⟨fun x x0 hx => mg_ne (by omega) x0 (by omega), cF_P.s⟩
  have a2 : dI 4 (mP u (4 * 2804 + (20 + r)) 1) := a.of (fun c hc => mg_ne (by omega) (by omega) (by omega))
  have c2 : mg (mP u (4 * 2804 + (20 + r)) 1) (4 * 2804 + 6) = 0 := (mg_ne (by omega) (by decide) (by omega)).trans c
  have q1 := q0.1.on4 (b.trans o2)
  refine wo_ok 160 0 _ q1.1.2.2.2.1 a2 (by decide) (by rw [c2]; decide) (by have := q1.1.six; show mg _ (0 * 2804 + 6) ≤ 0 + 160; omega) (fun s' o => ?_)
  exact kk _ _ (en3 (q0.trans (q1.trans (q1.1.on4 o))))
theorem ush_nn (a : Int) : 0 ≤ ush a 16 := by
  unfold ush
  have e : ((iI a).toUInt32 >>> ((iI 16).toUInt32 &&& Int32.toUInt32 31)).toNat < 65536 := by
    rw [show ((iI 16).toUInt32 &&& Int32.toUInt32 31) = 16 from by decide, UInt32.toNat_shiftRight]
    have := (iI a).toUInt32.toNat_lt
    show (iI a).toUInt32.toNat >>> 16 < 65536
    rw [Nat.shiftRight_eq_div_pow]
    omega
  generalize ((iI a).toUInt32 >>> ((iI 16).toUInt32 &&& Int32.toUInt32 31)) = y at e ⊢
  show 0 ≤ y.toBitVec.toInt
  have e2 : y.toBitVec.toNat < 65536 := e
  rw [BitVec.toInt_eq_toNat_of_lt (by omega)]
  omega
theorem dOf_nn (x : Int) {n : Int} (hn : 0 < n) : 0 ≤ dOf x n ∧ dOf x n < n := by
  unfold dOf
  rw [if_pos hn]
  exact ⟨Int.tmod_nonneg _ (ush_nn x), Int.tmod_lt_of_pos _ hn⟩
/-- what draws leave alone -/
theorem drawI {s : MS} (d : dI 4 s) : dI 4 (yrD4 s) := d.cong rfl
def qD (s s' : MS) : Prop := (∀ x : Int, 0 ≤ x → (x < 4 * 2804 ∨ 4 * 2804 + 2804 ≤ x) → mg s' x = mg s x) ∧ s'.1 1 = s.1 1 ∧ s'.1 4 = s.1 4 ∧ s'.1 8 = s.1 8 ∧ s'.2 12 = s.2 12 ∧ s'.2 2 = s.2 2
theorem qD.trans {s t u : MS} (h : qD s t) (g : qD t u) : qD s u := ⟨fun x x0 hx => (g.1 x x0 hx).trans (h.1 x x0 hx), g.2.1.trans h.2.1, g.2.2.1.trans h.2.2.1, g.2.2.2.1.trans h.2.2.2.1, g.2.2.2.2.1.trans h.2.2.2.2.1, g.2.2.2.2.2.trans h.2.2.2.2.2⟩
theorem qD.same {s : MS} : qD s s := ⟨fun _ _ _ => rfl, rfl, rfl, rfl, rfl, rfl⟩
theorem oD.q {s s' : MS} (o : oD 4 s s') : qD s s' := ⟨o.1, o.2.1 1 (by decide) (by decide) (by decide), o.2.1 4 (by decide) (by decide) (by decide), o.2.1 8 (by decide) (by decide) (by decide), o.2.2 12 (by decide) (by decide), o.2.2 2 (by decide) (by decide)⟩
theorem Inv.qD {m m' : MS} (h : Inv m) (o : qD m m') : Qi m m' :=
  h.at (by rw [o.2.1]; exact h.2.2.1) o.2.2.1 o.2.2.2.1 o.2.2.2.2.1 (h.2.2.2.1.of (fun c hc => o.1 _ (by omega) (by omega))) (fun x hx => o.1 x (by omega) (by omega))
theorem yr_ok {c : Int} {K : Int → MS → Prop} : ∀ (n : Nat) (k a : Int) (s : MS), dI 4 s → c ≤ k + n → (∀ a s', qD s s' → K a s') → yrM c K 650 n k a s
  | 0, k, a, s, d4, h, kk => ⟨Or.inl (by omega), kk a s qD.same⟩
  | n + 1, k, a, s, d4, h, kk => by
    have h0 := d4.1
    have h6 := d4.2.1
    refine ⟨fun _ => kk a s qD.same, fun q => ⟨⟨h6.1, ⟨by omega, h0.2⟩, (dOf_nn _ (by omega)).1, by have := (dOf_nn (dAfter (dAfter (dAfter (dAfter (s.1 21))))) (n := mg s (4 * 2804 + 0)) (by omega)).2; omega⟩, ?_⟩⟩
    have hk := dOf_nn (dAfter (s.1 21)) (n := 6) (by decide)
    have hr := dOf_nn (dAfter (dAfter (dAfter (dAfter (s.1 21))))) (n := mg s (4 * 2804 + 0)) (by omega)
    have e6 : mg (yrD4 s) (4 * 2804 + 6) = mg s (4 * 2804 + 6) := rfl
    refine (drawI d4).come ⟨by decide, by decide⟩ (by rw [e6]; omega) ⟨hk.1, by omega⟩ ⟨hr.1, by omega⟩ (fun s' d' o _ => ?_)
    have qd : qD s s' := qD.trans (t := yrD4 s) ⟨fun _ _ _ => rfl, rfl, rfl, rfl, rfl, rfl⟩ o.q
    exact yr_ok n (k + 1) _ s' d' (by omega) (fun a s2 q2 => kk a s2 (qd.trans q2))
theorem iv_years {d c : Int} (hd : xB d) (hc : xB c) (h : Inv m) (kk : ∀ q m', Qi m m' → K [pI q] m') : sX3_years d c m K := by
  refine ⟨⟨hd, hc⟩, fun _ => kk _ _ h.s0, fun hb => ⟨650, 40, ?_⟩⟩
  have hb2 : c ≤ 40 := hb.2
  have q1 : qD m (gYrS m d) := qD.trans (t := mS (mS m 0 0) 21 d) ⟨fun _ _ _ => rfl, rfl, rfl, rfl, rfl, rfl⟩ (copy_o (f := 0) (t := 4) (by decide)).q
  have d4 : dI 4 (gYrS m d) := dI.copy (s := mS (mS m 0 0) 21 d) (h.2.2.2.1.cong rfl) (by decide) (by decide)
  exact yr_ok 40 0 0 _ d4 (by omega) (fun a s' q2 => kk _ _ (en2 (h.qD (q1.trans q2))))
end FA
