/-! ===== questions: both sides stay alike; some answers ===== -/
section QS
variable {x : LSt} {m : MS} {K : Int → PS → LSt → MS → Prop}
theorem st_taken (h : lwR x m) (kk : ∀ q x' m', lwR x' m' → K q [pI q] x' m') : sX2_taken x (fun v' x' => ∃ q, v' = [pI q] ∧ sX3_taken m (fun w m' => K q w x' m')) := by
  have e : (gTaken m).1 = (fTaken x).1 := by
    have := h.w0.1.2.1.1
    rw [gD0] at this
    exact this.symm
  refine ⟨_, rfl, ?_⟩
  show K (fTaken x).1 [pI (gTaken m).1] (fTaken x).2 (gTaken m).2
  rw [e]
  exact kk _ _ _ (h.ask (qx_taken h.1) (qn_taken h.2.1))
theorem st_at {k t : Int} (hk : xB k) (ht : xB t) (h : lwR x m) (kk : ∀ q b x' m', lwR x' m' → K q [pI b] x' m') : sX2_at k t x (fun v' x' => ∃ q, v' = [pI q] ∧ sX3_at k t m (fun w m' => K q w x' m')) :=
  ⟨⟨hk, ht⟩, _, rfl, ⟨⟨hk, ht⟩, h.2.1.five⟩, kk _ _ _ _ (h.ask (qx_at h.1) (qn_at h.2.1))⟩
theorem st_sent {k : Int} (hk : xB k) (h : lwR x m) (kk : ∀ q b x' m', lwR x' m' → K q [pI b] x' m') : sX2_sent k x (fun v' x' => ∃ q, v' = [pI q] ∧ sX3_sent k m (fun w m' => K q w x' m')) :=
  ⟨hk, _, rfl, hk, kk _ _ _ _ (h.ask (qx_sent h.1) (qn_sent h.2.1))⟩
theorem st_stands (h : lwR x m) (kk : ∀ q b x' m', lwR x' m' → K q [pI b] x' m') : sX2_stands x (fun v' x' => ∃ q, v' = [pI q] ∧ sX3_stands m (fun w m' => K q w x' m')) :=
  ⟨_, rfl, h.2.1.five, kk _ _ _ _ (h.ask (qx_stands h.1) (qn_stands h.2.1))⟩
theorem st_closed {k : Int} (hk : xB k) (h : lwR x m) (kk : ∀ q b x' m', lwR x' m' → K q [pI b] x' m') : sX2_closed k x (fun v' x' => ∃ q, v' = [pI q] ∧ sX3_closed k m (fun w m' => K q w x' m')) :=
  ⟨hk, _, rfl, hk, kk _ _ _ _ (h.ask (qx_closed h.1) (qn_closed h.2.1))⟩
theorem st_kinds {k : Int} (hk : xB k) (h : lwR x m) (kk : ∀ q b x' m', lwR x' m' → K q [pI b] x' m') : sX2_kinds k x (fun v' x' => ∃ q, v' = [pI q] ∧ sX3_kinds k m (fun w m' => K q w x' m')) :=
  ⟨hk, _, rfl, hk, kk _ _ _ _ (h.ask (qx_kinds h.1) (qn_kinds h.2.1))⟩
theorem st_slow (h : lwR x m) (kk : ∀ q b x' m', lwR x' m' → K q [pI b] x' m') : sX2_slow x (fun v' x' => ∃ q, v' = [pI q] ∧ sX3_slow m (fun w m' => K q w x' m')) :=
  ⟨_, rfl, ⟨h.2.1.mok, h.2.1.five⟩, kk _ _ _ _ (h.ask (qx_slow h.1) (qn_slow h.2.1 (fun j j0 j1 => idle_eq h.w0 ⟨j0, j1⟩)))⟩
theorem st_span {f t : Int} (hf : xB f) (ht : xB t) (h : lwR x m) (kk : ∀ q b x' m', lwR x' m' → K q [pI b] x' m') : sX2_span f t x (fun v' x' => ∃ q, v' = [pI q] ∧ sX3_span f t m (fun w m' => K q w x' m')) :=
  ⟨⟨hf, ht⟩, _, rfl, ⟨⟨hf, ht⟩, h.2.1.six.2⟩, fun _ => kk _ _ _ _ (h.ask (qx_span h.1) h.2.1.n0), fun _ => kk _ _ _ _ (h.ask (qx_span h.1) (qn_span h.2.1))⟩
theorem st_holds (h : lwR x m) (kk : ∀ q b x' m', lwR x' m' → K q [pI b] x' m') : sX2_holds x (fun v' x' => ∃ q, v' = [pI q] ∧ sX3_holds m (fun w m' => K q w x' m')) :=
  ⟨_, rfl, h.2.1.mok, kk _ _ _ _ (h.ask (qx_holds h.1) (qn_holds h.2.1))⟩
theorem st_next (h : lwR x m) (kk : ∀ q b x' m', lwR x' m' → K q [pI b] x' m') : sX2_next x (fun v' x' => ∃ q, v' = [pI q] ∧ sX3_next m (fun w m' => K q w x' m')) :=
  ⟨_, rfl, h.2.1.five, kk _ _ _ _ (h.ask (qx_next h.1) (qn_next h.2.1))⟩
theorem st_ahead {p : Int} (hp : xB p) (h : lwR x m) (kk : ∀ q b x' m', lwR x' m' → K q [pI b] x' m') : sX2_ahead p x (fun v' x' => ∃ q, v' = [pI q] ∧ sX3_ahead p m (fun w m' => K q w x' m')) :=
  ⟨hp, _, rfl, ⟨hp, h.2.1.five⟩, kk _ _ _ _ (h.ask (qx_ahead h.1) (qn_ahead h.2.1))⟩
theorem st_count {a : Int} (ha : xB a) (h : lwR x m) (kk : ∀ q b x' m', lwR x' m' → K q [pI b] x' m') : sX2_count a x (fun v' x' => ∃ q, v' = [pI q] ∧ sX3_count a m (fun w m' => K q w x' m')) :=
  ⟨ha, _, rfl, ha, kk _ _ _ _ h.s0⟩
theorem st_batch {k : Int} (hk : xB k) (h : lwR x m) (kk : ∀ q b x' m', lwR x' m' → K q [pI b] x' m') : sX2_batch k x (fun v' x' => ∃ q, v' = [pI q] ∧ sX3_batch k m (fun w m' => K q w x' m')) :=
  ⟨⟨hk, h.1⟩, _, rfl, ⟨hk, h.2.1.six.2⟩, fun _ => kk _ _ _ _ (h.ask (qx_batch h.1) h.2.1.n0), fun _ => kk _ _ _ _ (h.ask (qx_batch h.1) (qn_batch h.2.1))⟩
theorem st_parts {k n : Int} (hk : xB k) (hn : xB n) (h : lwR x m) (kk : ∀ q b x' m', lwR x' m' → K q [pI b] x' m') : sX2_parts k n x (fun v' x' => ∃ q, v' = [pI q] ∧ sX3_parts k n m (fun w m' => K q w x' m')) :=
  ⟨⟨hk, hn, h.1⟩, _, rfl, ⟨⟨hk, hn⟩, h.2.1.six.2⟩, fun _ => kk _ _ _ _ (h.ask (qx_parts h.1) h.2.1.n0), fun _ => kk _ _ _ _ (h.ask (qx_parts h.1) (qn_parts h.2.1))⟩
theorem st_would {k t v r : Int} (hk : xB k) (ht : xB t) (hv : xB v) (hr : xB r) (h : lwR x m) (kk : ∀ q x' m', lwR x' m' → K q [pI q] x' m') : sX2_would k t v r x (fun v' x' => ∃ q, v' = [pI q] ∧ sX3_would k t v r m (fun w m' => K q w x' m')) := by
  have ev := lEv_iff h.w0 k t v r
  refine ⟨⟨hk, ht, hv, hr, h.1⟩, _, rfl, ⟨⟨hk, ht, hv, hr⟩, h.2.1.mok⟩, 650, fun c => ?_, fun c => ?_⟩
  · have e : fWould x k t v r = (-1, x) := if_neg (fun z => c (ev.mp z))
    rw [e]
    exact kk _ _ _ h.s0
  · have qx := qx_would (k := k) (t := t) (v := v) (r := r) h.1
    have e : (fWould x k t v r).1 = hw1 (gD 0 m) t := by
      have e1 : fWould x k t v r = (wFate ((setW x 1 (wCopy (x.2.2 1) (x.2.2 0))).2.2 1) t, lTell2 (setW (setW x 1 (wCopy (x.2.2 1) (x.2.2 0))) 1 (wPlayE ((setW x 1 (wCopy (x.2.2 1) (x.2.2 0))).2.2 1) k t v r)) (if wFate ((setW x 1 (wCopy (x.2.2 1) (x.2.2 0))).2.2 1) t = 2 then 0 else wMany (x.2.2 0) (wFirst (x.2.2 0) k t) k t) (wI ((wPlayE ((setW x 1 (wCopy (x.2.2 1) (x.2.2 0))).2.2 1) k t v r).1 4 - (x.2.2 0).1 4))) := if_pos (ev.mpr c)
      rw [e1]
      exact (rA.copy (a := x.2.2 1) h.w0).1.fate t
    have hz := h.2.1.mok
    have c4 : 0 ≤ r ∧ r < mg m 0 := c.2.2.2
    have h6 := h.2.1.six
    have q0 := h.2.1.n0 (v := 0)
    have w6 : mg (gWoS m) (4 * 2804 + 6) = 0 := mg_eq
    have wc : ∀ c : Int, 0 ≤ c → c < 2804 → c ≠ 6 → mg (gWoS m) (4 * 2804 + c) = mg m (0 * 2804 + c) := fun c c0 c1 c2 => by
      unfold gWoS
      rw [mg_ne (by decide) (by omega) (by omega), copy_at (by decide) (by decide) c0 c1]
      rfl
    have o : oD 4 (mS m 0 0) (gWoS m) := by
      have o1 : oD 4 (mS m 0 0) (mCopy (mS m 0 0) 0 4) := copy_o (by decide)
      exact o1.trans ⟨fun x x0 hx => mg_ne (by decide) x0 (by omega), cF_P.s⟩
    have V : dV 4 (mg m (0 * 2804 + 6)) (2700 * mg m (0 * 2804 + 6)) (gWoS m) := h.2.1.2.2.2.1.2.2.1.of h6.2 (fun c hc => wc c (by omega) (by omega) (by omega))
    refine ⟨by rw [w6]; decide, ?_⟩
    refine come_ok (j := 0) V ⟨by decide, by decide⟩ h6.2 (by omega) (by rw [wc 0 (by decide) (by decide) (by decide)]; exact h.2.1.zero.2) w6 (by decide) c.1 ⟨c4.1, by have := hz.2; omega⟩ (fun s' hc _ => ?_)
    have o2 : oD 4 (gWoS m) s' := ⟨fun x x0 hx => by
      have := hc.1 (x - 4 * 2804) (by omega) (by omega)
      rw [show 4 * 2804 + (x - 4 * 2804) = x by omega] at this
      exact this, hc.2.1⟩
    have eh : mHow (gWoS m) 4 t = hw1 (gD 0 m) t := by
      unfold mHow hw1 gD
      rw [wc 4 (by decide) (by decide) (by decide), wc 2 (by decide) (by decide) (by decide)]
    rw [eh, e]
    exact kk _ _ _ (h.ask qx (q0.trans (q0.1.1.n4 (o.trans o2))).e2)
theorem st_again {g l e : Int} (hg : xB g) (hl : xB l) (he : xB e) (h : lwR x m) (kk : ∀ q b x' m', lwR x' m' → K q [pI b] x' m') : sX2_again g l e x (fun v' x' => ∃ q, v' = [pI q] ∧ sX3_again g l e m (fun w m' => K q w x' m')) := by
  refine ⟨⟨hg, hl, he, h.1⟩, _, rfl, ⟨hg, hl, he⟩, fun _ => kk _ _ _ _ (h.ask (qx_again h.1) h.2.1.n0), fun _ => ⟨650, 160, ?_⟩⟩
  have q0 := h.2.1.n0 (v := 0)
  obtain ⟨a, b, c⟩ := startA_ok (g := g) (l := l) (e := e) q0.1.1
  have q1 := q0.1.1.n4 b
  refine agM_ok 160 0 _ q1.1.1.2.2.2.1 a (by decide) (by rw [c]; decide) (by have := q1.1.1.six; show mg _ (0 * 2804 + 6) ≤ 0 + 160; omega) (fun s' o => ?_)
  have q2 := q0.trans (q1.trans (q1.1.1.n4 o))
  refine kk _ _ _ _ (h.ask (qx_again h.1) ⟨q2.1.trans (q2.1.1.cong ?_ rfl rfl rfl rfl), q2.2.1, q2.2.2.1, q2.2.2.2⟩)
  exact ⟨by show (0 : Int) ≤ 0 + 1 + 1 + 1 + 1 + 1 + 1; decide, by show (0 : Int) + 1 + 1 + 1 + 1 + 1 + 1 ≤ 16; decide⟩
theorem st_latest (h : lwR x m) (kk : ∀ q b x' m', lwR x' m' → K q [pI b] x' m') : sX2_latest x (fun v' x' => ∃ q, v' = [pI q] ∧ sX3_latest m (fun w m' => K q w x' m')) := by
  refine ⟨_, rfl, 650, 160, ?_⟩
  have q0 := h.2.1.n0 (v := 0)
  unfold gLatS
  obtain ⟨a, b, c⟩ := startA_ok (g := mg m (0 * 2804 + 1)) (l := mg m (0 * 2804 + 2)) (e := mg m (0 * 2804 + 3)) q0.1.1
  have q1 := q0.1.1.n4 b
  refine la_ok 160 0 _ _ _ q1.1.1.2.2.2.1 a (by decide) (by rw [c]; decide) (by have := q1.1.1.six; show mg _ (0 * 2804 + 6) ≤ 0 + 160; omega) (fun u y s' o => ?_)
  exact kk _ _ _ _ (h.ask (qx_latest h.1) (q0.trans (q1.trans (q1.1.1.n4 o))).e1)
theorem st_without {r : Int} (hr : xB r) (h : lwR x m) (kk : ∀ q b x' m', lwR x' m' → K q [pI b] x' m') : sX2_without r x (fun v' x' => ∃ q, v' = [pI q] ∧ sX3_without r m (fun w m' => K q w x' m')) := by
  refine ⟨⟨hr, h.1⟩, _, rfl, ⟨hr, h.2.1.mok⟩, fun _ => kk _ _ _ _ (h.ask (qx_without h.1) h.2.1.n0), fun c => ⟨fun _ => kk _ _ _ _ (h.ask (qx_without h.1) h.2.1.n0), fun _ => ⟨650, 160, ?_⟩⟩⟩
  have hz := h.2.1.mok
  have c4 : 0 ≤ r ∧ r < mg m 0 := c
  have c5 : r ≤ 3 := by have := hz.2; omega
  have q0 := h.2.1.n0 (v := 0)
  unfold gWiS gLatS
  obtain ⟨a, b, c⟩ := startA_ok (g := mg m (0 * 2804 + 1)) (l := mg m (0 * 2804 + 2)) (e := mg m (0 * 2804 + 3)) q0.1.1
  generalize mStartA (mS m 0 0) (mg m (0 * 2804 + 1)) (mg m (0 * 2804 + 2)) (mg m (0 * 2804 + 3)) = u at a b c ⊢
  have o2 : oD 4 u (mP u (4 * 2804 + (20 + r)) 1) := ⟨fun x x0 hx => mg_ne (by omega) x0 (by omega), cF_P.s⟩
  have a2 : dI 4 (mP u (4 * 2804 + (20 + r)) 1) := a.of (fun c hc => mg_ne (by omega) (by omega) (by omega))
  have c2 : mg (mP u (4 * 2804 + (20 + r)) 1) (4 * 2804 + 6) = 0 := (mg_ne (by omega) (by decide) (by omega)).trans c
  have q1 := q0.1.1.n4 (b.trans o2)
  refine wo_ok 160 0 _ q1.1.1.2.2.2.1 a2 (by decide) (by rw [c2]; decide) (by have := q1.1.1.six; show mg _ (0 * 2804 + 6) ≤ 0 + 160; omega) (fun s' o => ?_)
  exact kk _ _ _ _ (h.ask (qx_without h.1) (q0.trans (q1.trans (q1.1.1.n4 o))).e3)
theorem qdn {m' : MS} (h : Inv m) (o : qD m m') : Qn m m' := ⟨h.qD o, o.2.2.2.1, o.2.2.2.2.2, fun y y0 hy => o.1 y y0 (by omega)⟩
theorem st_years {d c : Int} (hd : xB d) (hc : xB c) (h : lwR x m) (kk : ∀ q b x' m', lwR x' m' → K q [pI b] x' m') : sX2_years d c x (fun v' x' => ∃ q, v' = [pI q] ∧ sX3_years d c m (fun w m' => K q w x' m')) := by
  refine ⟨⟨hd, hc, h.1⟩, _, rfl, ⟨hd, hc⟩, fun _ => kk _ _ _ _ (h.ask (qx_years h.1) h.2.1.n0), fun hb => ⟨650, 40, ?_⟩⟩
  have hb2 : c ≤ 40 := hb.2
  have q1 : qD m (gYrS m d) := qD.trans (t := mS (mS m 0 0) 21 d) ⟨fun _ _ _ => rfl, rfl, rfl, rfl, rfl, rfl⟩ (copy_o (f := 0) (t := 4) (by decide)).q
  have d4 : dI 4 (gYrS m d) := dI.copy (s := mS (mS m 0 0) 21 d) (h.2.1.2.2.2.1.cong rfl) (by decide) (by decide)
  exact yr_ok 40 0 0 _ d4 (by omega) (fun a s' q2 => kk _ _ _ _ (h.ask (qx_years h.1) (qdn h.2.1 (q1.trans q2)).e2))
end QS
section QT
variable {x : LSt} {m : MS} {K0 K1 : PS → MS → Prop}
theorem st_source {r a : Int} (hr : xB r) (ha : xB a) (h : lwR x m) (k0 : ∀ m', m'.1 0 = 0 → lwR x m' → K0 [pI (fSource x r a)] m') (k1 : ∀ b m', m'.1 0 = 1 → lwR x m' → K1 [pI b] m') : (lSrc x r ∧ 0 ≤ a ∧ a ≤ 5 → sX3_source r a m K0) ∧ (¬ (lSrc x r ∧ 0 ≤ a ∧ a ≤ 5) → sX3_source r a m K1) := by
  have ev := lSrc_iff h.w0 r
  refine ⟨fun c => ⟨⟨⟨hr, ha⟩, h.2.1.mok⟩, ?_⟩, fun c => ⟨⟨⟨hr, ha⟩, h.2.1.mok⟩, ?_⟩⟩
  · have cm := ev.mp c.1
    have e : gSource m r a = (gSrcA m r a, mS m 0 0) := if_pos ⟨cm, c.2⟩
    have e2 : gSrcA m r a = fSource x r a := by
      have s0 := src_eq h.w0 (q := 0) (c := 0 * 2804 + (12 + r)) cm (by decide) (by omega)
      have s1 := src_eq h.w0 (q := 1) (c := 0 * 2804 + (16 + r)) cm (by decide) (by omega)
      have s2 := src_eq h.w0 (q := 2) (c := 0 * 2804 + (20 + r)) cm (by decide) (by omega)
      have s3 := src_eq h.w0 (q := 3) (c := 0 * 2804 + (24 + r)) cm (by decide) (by omega)
      have s4 := src_eq h.w0 (q := 4) (c := 0 * 2804 + (28 + r)) cm (by decide) (by omega)
      have p : (x.2.2 0).1 3 = mg m (0 * 2804 + 4) := h.w0.1.1.2.2.2
      unfold gSrcA fSource
      have ca := c.2
      by_cases c5 : a = 5
      · subst c5
        rw [if_neg (by decide), if_neg (by decide), if_neg (by decide), if_neg (by decide), if_neg (by decide), if_neg (show ¬ (5 : Int) < 5 by decide), s0, p]
      · rw [if_pos (show a < 5 by omega)]
        have : a = 0 ∨ a = 1 ∨ a = 2 ∨ a = 3 ∨ a = 4 := by omega
        rcases this with rfl | rfl | rfl | rfl | rfl
        · rw [if_pos rfl, s0]
        · rw [if_neg (by decide), if_pos rfl, s1]
        · rw [if_neg (by decide), if_neg (by decide), if_pos rfl, s2]
        · rw [if_neg (by decide), if_neg (by decide), if_neg (by decide), if_pos rfl, s3]
        · rw [if_neg (by decide), if_neg (by decide), if_neg (by decide), if_neg (by decide), if_pos rfl, s4]
    rw [e, e2]
    exact k0 _ rfl h.s0
  · have e : gSource m r a = (0, mS m 0 1) := if_neg (fun z => c ⟨ev.mpr z.1, z.2⟩)
    rw [e]
    exact k1 _ _ rfl h.s0
theorem st_input {r a : Int} (hr : xB r) (ha : xB a) (h : lwR x m) (k0 : ∀ m', m'.1 0 = 0 → lwR x m' → K0 [pI (fInput x r a)] m') (k1 : ∀ b m', m'.1 0 = 1 → lwR x m' → K1 [pI b] m') : ((0 ≤ r ∧ r < wZ (x.2.2 0) 4) ∧ 0 ≤ a ∧ a ≤ 3 → sX3_input r a m K0) ∧ (¬ ((0 ≤ r ∧ r < wZ (x.2.2 0) 4) ∧ 0 ≤ a ∧ a ≤ 3) → sX3_input r a m K1) := by
  obtain ⟨z6, z60, z61⟩ := z6_eq h.w0
  have q6 : mg m (0 * 2804 + 6) = mg m 6 := rfl
  have ew : wI (mg m (0 * 2804 + 6) - 1) = mg m 6 - 1 := by rw [q6, wI_id ⟨by omega, by omega⟩]
  refine ⟨fun c => ⟨⟨⟨hr, ha⟩, h.2.1.six⟩, ?_⟩, fun c => ⟨⟨⟨hr, ha⟩, h.2.1.six⟩, ?_⟩⟩
  · have e : gInput m r a = (mg m (1844 + 6 * r + a), mS m 0 0) := if_pos ⟨⟨c.1.1, by rw [ew]; have := c.1.2; omega⟩, c.2⟩
    have e2 : mg m (1844 + 6 * r + a) = fInput x r a := by
      have g := (h.w0.2.1.2 r c.1.1 (by rw [gD0]; have := c.1.2; omega)).1
      rw [gD0, gD0, gD0, gD0] at g
      unfold fInput
      have ca := c.2
      have : a = 0 ∨ a = 1 ∨ a = 2 ∨ a = 3 := by omega
      rcases this with rfl | rfl | rfl | rfl
      · exact g.1.symm
      · exact g.2.1.symm
      · exact g.2.2.1.symm
      · exact g.2.2.2.symm
    rw [e, e2]
    exact k0 _ rfl h.s0
  · have e : gInput m r a = (0, mS m 0 1) := if_neg (fun z => c ⟨⟨z.1.1, by have z2 := z.1.2; rw [ew] at z2; omega⟩, z.2⟩)
    rw [e]
    exact k1 _ _ rfl h.s0
theorem lwR.thr (h : lwR x m) {v : Int} : lwR x (mS m 0 v) := h.s0
theorem st_session {r a : Int} (hr : xB r) (ha : xB a) (h : lwR x m) (k0 : ∀ b m', lwR x m' → K0 [pI b] m') : sX3_session r a m K0 := ⟨⟨⟨hr, ha⟩, h.2.1.five⟩, k0 _ _ (h.ask (Qx.self h.1) (qn_session h.2.1))⟩
theorem st_message {r a : Int} (hr : xB r) (ha : xB a) (h : lwR x m) (k0 : ∀ b m', lwR x m' → K0 [pI b] m') : sX3_message r a m K0 := ⟨⟨hr, ha⟩, k0 _ _ (h.ask (Qx.self h.1) (qn_message h.2.1))⟩
theorem st_finals {r a : Int} (hr : xB r) (ha : xB a) (h : lwR x m) (k0 : ∀ b m', lwR x m' → K0 [pI b] m') : sX3_finals r a m K0 := ⟨⟨hr, ha⟩, k0 _ _ (h.ask (Qx.self h.1) (qn_finals h.2.1))⟩
theorem st_row {r : Int} (hr : xB r) (h : lwR x m) (k0 : ∀ b m', lwR x m' → K0 [pJ b] m') : sX3_row r m K0 := ⟨⟨hr, h.2.1.2.2.1⟩, k0 _ _ (h.ask (Qx.self h.1) (qn_row h.2.1))⟩
end QT
/-! ===== the fresh states ===== -/
theorem inv1 : Inv m1 := by
  obtain ⟨a, b, c⟩ := starts_ok (s := m0) (d := 0) (n := 1) (g := 10) (l := 5) (e := 0) (by decide) (by decide)
  have e := b.2
  refine ⟨?_, ?_, ?_, a, fun i _ _ hi => ?_, fun k k0 k1 => ?_⟩
  · rw [show m1.1 4 = 0 from e.1 4 (by decide) (by decide) (by decide)]; decide
  · rw [show m1.1 8 = 0 from e.1 8 (by decide) (by decide) (by decide)]; decide
  · rw [show m1.1 1 = 0 from e.1 1 (by decide) (by decide) (by decide)]; decide
  · rw [show m1.2 12 = fun _ => 0 from e.2 12 (by decide) (by decide)] at hi
    exact absurd rfl hi
  · rw [show m1.1 8 = 0 from e.1 8 (by decide) (by decide) (by decide)] at k1
    omega
theorem w1_okR : wok w1 := by decide +kernel
theorem lok1R : lok s1 := ⟨⟨⟨by decide, by decide⟩, by decide, by decide⟩, ⟨by decide, by decide⟩, ⟨by decide, by decide⟩, fun _ _ => w1_okR⟩
theorem lwR1 : lwR s1 m1 := by
  obtain ⟨-, b, -⟩ := starts_ok (s := m0) (d := 0) (n := 1) (g := 10) (l := 5) (e := 0) (by decide) (by decide)
  have e12 : m1.2 12 = fun _ => 0 := b.2.2 12 (by decide) (by decide)
  have e4 : m1.1 4 = 0 := b.2.1 4 (by decide) (by decide) (by decide)
  have e8 : m1.1 8 = 0 := b.2.1 8 (by decide) (by decide) (by decide)
  refine ⟨lok1R, inv1, ⟨by rw [e4]; rfl, fun j j0 j1 => absurd j1 (by rw [e4]; omega)⟩, ?_, ⟨by rw [e8]; rfl, fun k k0 k1 => absurd k1 (by rw [e8]; omega)⟩, fun i _ _ hi => absurd hi (by rw [e12]; exact fun z => z rfl), ?_⟩
  · unfold kfR
    rw [e12]
    exact ⟨Or.inl rfl, Or.inl rfl, rfl⟩
  · have r : rA (wReset wraw 1 10 5 0) (st0 1 10 5 0) := rA.reset (by decide) (by decide)
    exact ⟨r.cong (fun c c0 c1 hc => startsA (by decide) c c0 c1 hc), rB.start (by decide), zW.reset⟩
