/-! ===== an event comes to both ===== -/
def midL (w : WS) (r h : Int) : WS := wFd (wFd (wA w 0 r 3 1) 6 (wI ((wA w 0 r 3 1).1 6 + 1))) 7 (wI ((wA w 0 r 3 1).1 7 + (if h = 1 then 1 else 0)))
def midD (w : WS) (r : Int) : WS := wA (wFd (wA w 0 r 3 1) 8 (wI ((wA w 0 r 3 1).1 8 + 1))) 0 r 4 1
theorem midL_s {w : WS} {g : Int → Int} {r h : Int} (hS : rS w g) (r0 : 0 ≤ r) (r1 : r < g 0) (hh : h = 0 ∨ h = 1) : rS (midL w r h) (fa1 (in1 g (24 + r) 1) h r) := by
  have a := hS.srcA (v := 1) r0 r1 (c := 3) (by decide) (by decide)
  rw [show 12 + 4 * 3 + r = 24 + r by omega] at a
  unfold midL fa1
  rw [if_neg (show ¬ h = 2 by omega)]
  have f := a.f6 (v := wI ((wA w 0 r 3 1).1 6 + 1))
  have f2 := f.f7 (v := wI ((wA w 0 r 3 1).1 7 + (if h = 1 then 1 else 0)))
  rw [a.2.1.1, a.2.1.2.1] at f2
  have e7 : in1 (in1 g (24 + r) 1) 8 1 9 = in1 g (24 + r) 1 9 := up1_ne (by decide)
  have e1 : (if h = 1 then (1 : Int) else 0) = h := by
    split <;> omega
  rw [e1] at f2 ⊢
  have e2 : in1 (in1 (in1 g (24 + r) 1) 8 1) 9 h = up1 (in1 (in1 g (24 + r) 1) 8 1) 9 (wI (in1 g (24 + r) 1 9 + h)) := by
    conv => lhs; unfold in1
    rw [show up1 (up1 g (24 + r) (wI (g (24 + r) + 1))) 8 (wI (up1 g (24 + r) (wI (g (24 + r) + 1)) 8 + 1)) 9 = in1 g (24 + r) 1 9 from e7]
    rfl
  rw [e2, a.2.1.1, a.2.1.2.1]
  exact f2
theorem midD_s {w : WS} {g : Int → Int} {r : Int} (hS : rS w g) (r0 : 0 ≤ r) (r1 : r < g 0) : rS (midD w r) (fa1 (in1 g (24 + r) 1) 2 r) := by
  have hz := hS.2.2.1
  have a := hS.srcA (v := 1) r0 r1 (c := 3) (by decide) (by decide)
  rw [show 12 + 4 * 3 + r = 24 + r by omega] at a
  have g0 : in1 g (24 + r) 1 0 = g 0 := up1_ne (by omega)
  unfold midD fa1
  rw [if_pos rfl]
  have f := a.f8 (v := wI ((wA w 0 r 3 1).1 8 + 1))
  rw [a.2.1.2.2] at f ⊢
  have e : up1 (in1 g (24 + r) 1) 10 (wI (in1 g (24 + r) 1 10 + 1)) 0 = g 0 := (up1_ne (by decide)).trans g0
  have f2 := f.srcA (v := 1) r0 (by rw [e]; exact r1) (c := 4) (by decide) (by decide)
  rw [show 12 + 4 * 4 + r = 28 + r by omega] at f2
  exact f2
theorem fa_sw {g : Int → Int} {h r : Int} (hr : 0 ≤ r ∧ r < 4) : in1 (fa1 g h r) (24 + r) 1 = fa1 (in1 g (24 + r) 1) h r := by
  unfold fa1
  split
  · rw [in1_comm (x := 28 + r) (y := 24 + r) (by omega), in1_comm (x := 10) (y := 24 + r) (by omega)]
  · rw [in1_comm (x := 9) (y := 24 + r) (by omega), in1_comm (x := 8) (y := 24 + r) (by omega)]
theorem anG_ne {kd : Int} {R : Row} {g : Int → Int} {c : Int} (h7 : 0 ≤ g 7) (hk : kd < 4) (hr : gR R) (hc : c < 7 ∨ (8 ≤ c ∧ c < 32) ∨ (36 ≤ c ∧ c < 60) ∨ (84 ≤ c ∧ c < 1484) ∨ 1844 ≤ c) : anG kd R g c = g c := by
  unfold anG
  split
  · exact sn1_ne h7 ⟨by omega, hk⟩ hr.1 hc
  · rfl
theorem anG_cg {kd : Int} {R : Row} {g g' : Int → Int} (h : ∀ c, mC c → g' c = g c) (hk : kd < 4) (hr : gR R) : ∀ c, mC c → anG kd R g' c = anG kd R g c := by
  intro c hc
  unfold anG
  split
  · exact sn1_cg h ⟨by omega, hk⟩ hr.1 c hc
  · exact h c hc
/-- the last steps of an event -/
theorem tailE {u : WS} {d b t r : Int} {s : MS} {G : Int → Int} {l : List Row} {K : MS → Prop} (hd : dOk d) (hS : rS u (in1 G (24 + r) 1)) (hW : cW u l G G) (hL : lsM d s l) (hM : sB d s G) (hl : gdL (G 1) l) (h9 : u.1 9 = G 11) (hk : kSF G) (hB : gB G) (h0 : 1 ≤ G 0 ∧ G 0 ≤ 4) (hr : 0 ≤ r ∧ r < G 0) (ht : 0 ≤ t ∧ t ≤ 9999) (h7 : b7 b G) (h36 : b36 b G) (hb : b ≤ 900000) (hK : cmE s d t r 650 K) : cmE s d t r 650 (fun s' => K s' ∧ ∃ G' l', jR (wRise (wRaise (wP u 0 r 2 0) r (wI (t - wG (wP u 0 r 2 0) 0 r 1)))) d s' G' l') := by
  have hd0 : 0 ≤ d := hd.1
  unfold cmE at hK ⊢
  dsimp only at hK ⊢
  refine ⟨hK.1, ?_⟩
  have hK2 := hK.2
  -- the model
  have L3 : lsM d (mP (mInc s (d * 2804 + (24 + r)) 1) (d * 2804 + (20 + r)) 0) l := (hL.in hd0 (by omega) (by unfold zB; omega)).ne hd0 (by omega) (by unfold zB; omega)
  have M3 : sB d (mP (mInc s (d * 2804 + (24 + r)) 1) (d * 2804 + (20 + r)) 0) (up1 (in1 G (24 + r) 1) (20 + r) 0) := (hM.inc hd0 rfl (by omega) (by unfold zB; omega)).put hd0 rfl (by omega)
  generalize mP (mInc s (d * 2804 + (24 + r)) 1) (d * 2804 + (20 + r)) 0 = s3 at L3 M3 hK2 ⊢
  have i0 : ∀ c, c ≠ 24 + r → in1 G (24 + r) 1 c = G c := fun c hc => in1_ne hc
  have c := hS.src (v := 0) hr.1 (by rw [i0 0 (by omega)]; exact hr.2) (c := 2) (by decide) (by decide)
  rw [show 12 + 4 * 2 + r = 20 + r by omega] at c
  have e3 : ∀ c, c ≠ 24 + r → c ≠ 20 + r → up1 (in1 G (24 + r) 1) (20 + r) 0 c = G c := fun c hc hc2 => by rw [up1_ne hc2, i0 c hc]
  have hB3 : gB (up1 (in1 G (24 + r) 1) (20 + r) 0) := (hB.of (fun c hc => i0 c (by omega))).u20 (by omega) (Or.inl rfl)
  generalize up1 (in1 G (24 + r) 1) (20 + r) 0 = G3 at M3 c e3 hB3
  have e0 : G3 0 = G 0 := e3 0 (by omega) (by omega)
  have dl := c.2.2.2 r 1 hr.1 (by rw [e0]; exact hr.2) (by decide) (by decide)
  rw [show 12 + 4 * 1 + r = 16 + r by omega] at dl
  rw [dl]
  have rs := c.raise (t := wI (t - G3 (16 + r))) hr.1 (by rw [e0]; exact hr.2)
  have m12 := M3 (12 + r) (by omega) (by unfold zB; omega)
  have m16 := M3 (16 + r) (by omega) (by unfold zB; omega)
  rw [m12, m16] at hK2 ⊢
  have b3 := hB3.2.2.2.2 r hr.1 (by omega)
  have M4 : sB d (mP s3 (d * 2804 + (12 + r)) (max (G3 (12 + r)) (wI (t - G3 (16 + r))))) (ra1 G3 r (wI (t - G3 (16 + r)))) := M3.put hd0 rfl (by omega)
  have L4 : lsM d (mP s3 (d * 2804 + (12 + r)) (max (G3 (12 + r)) (wI (t - G3 (16 + r))))) l := L3.ne hd0 (by omega) (by unfold zB; omega)
  have hB4 : gB (ra1 G3 r (wI (t - G3 (16 + r)))) := by
    unfold ra1
    rw [wI_id (z := t - G3 (16 + r)) ⟨by omega, by omega⟩]
    exact hB3.u12 (by omega) ⟨by omega, by omega⟩
  have e4 : ∀ c, c ≠ 24 + r → c ≠ 20 + r → c ≠ 12 + r → ra1 G3 r (wI (t - G3 (16 + r))) c = G c := fun c h1 h2 h3 => by
    unfold ra1
    rw [up1_ne h3, e3 c h1 h2]
  generalize ra1 G3 r (wI (t - G3 (16 + r))) = G4 at M4 hB4 e4 rs
  have cw : ∀ q, cW (wRaise (wP u 0 r 2 0) r q) l G4 G4 := fun q => by
    have c1 : cW (wRaise (wP u 0 r 2 0) r q) l G G := by
      unfold wRaise
      split
      · exact hW.of rfl rfl (fun q hq => by rcases hq with rfl | rfl | rfl | rfl <;> rfl)
      · exact hW.of rfl rfl (fun q hq => by rcases hq with rfl | rfl | rfl | rfl <;> rfl)
    exact c1.cg (fun c hc => e4 c (by unfold mC fC at hc; omega) (by unfold mC fC at hc; omega) (by unfold mC fC at hc; omega))
  have f9 : ∀ q, (wRaise (wP u 0 r 2 0) r q).1 9 = G 11 := fun q => by
    unfold wRaise
    split
    · exact h9
    · exact h9
  have jj : jR (wRaise (wP u 0 r 2 0) r (wI (t - G3 (16 + r)))) d (mP s3 (d * 2804 + (12 + r)) (max (G3 (12 + r)) (wI (t - G3 (16 + r))))) G4 l :=
    ⟨rs, cw _, L4, M4, by rw [e4 1 (by omega) (by omega) (by omega)]; exact hl, by rw [f9, e4 11 (by omega) (by omega) (by omega)], hk.cong (fun c hc => e4 c (by omega) (by omega) (by omega))⟩
  have fin := jj.rise hd hB4 (by rw [e4 0 (by omega) (by omega) (by omega)]; exact h0.2) (b := b) (by unfold b7; rw [e4 7 (by omega) (by omega) (by omega)]; exact h7) (fun k k0 k1 => by rw [e4 (36 + k) (by omega) (by omega) (by omega)]; exact h36 k k0 k1) hb hK2
  refine mRisP_mono (fun s' z => ?_) fin
  obtain ⟨z1, G', l', z2, -⟩ := z
  exact ⟨z1, G', l', z2⟩
theorem rB.t4 {w w' : WS} {g : Int → Int} (h : rB w g) (f4 : w'.1 4 = w.1 4) (f5 : w'.1 5 = w.1 5) (f9 : w'.1 9 = w.1 9) (e : ∀ q, q ≠ 0 → q ≠ 4 → w'.2 q = w.2 q) : rB w' g := by
  obtain ⟨l, h1, h2, h3, h4, h5⟩ := h
  exact ⟨l, h1, h2.tb f4 f5 e, h3, f9.trans h4, h5⟩
theorem setT_ne {u : WS} {n q : Nat} {b : TS} (h : q ≠ n) : (setT u n b).2 q = u.2 q := by
  show (bif Nat.beq q n then b else u.2 q) = u.2 q
  rw [bqF h]
  rfl
theorem rB.comeM {w : WS} {d k t v r : Int} {s : MS} {K : MS → Prop} (h : rB w (gD d s)) (hA : rA w (gD d s)) (I : dI d s) (hd : dOk d) (h6 : mg s (d * 2804 + 6) ≤ 159) (hk : 0 ≤ k ∧ k ≤ 5) (ht : 0 ≤ t ∧ t ≤ 9999) (hv : xB v) (hr : 0 ≤ r ∧ r < gD d s 0) (hK : mComeP s d k t v r 650 K) : mComeP s d k t v r 650 (fun s' => K s' ∧ rB (wComeE w k t v r) (gD d s')) := by
  have hd0 : 0 ≤ d := hd.1
  obtain ⟨l, j⟩ := h.j hA
  obtain ⟨i7, i36, i5⟩ := I.b
  have q6 := I.2.1
  have h6g : 0 ≤ gD d s 6 := q6.1
  have hz := hA.1.2.2.1
  have hB := hA.2.2.1.1
  have hBc := hB
  obtain ⟨⟨b1, b1'⟩, ⟨b2, b2'⟩, -⟩ := hBc
  have hh : wFate (wNote w 0 r t) t = hw1 (gD d s) t := by
    rw [← hA.1.fate t]
    unfold wFate
    rw [note_f.1 3, note_f.1 1]
  have hb := hw1_b (gD d s) t
  have how : mHow s d t = hw1 (gD d s) t := sA.self.how t
  obtain ⟨j1, j2, j3, j4, j5, j6, j7⟩ := j
  have hlen : l.length ≤ 159 := by have := j3.1.1; omega
  have N : ∀ x c, c ≠ 6 → c < 1844 → nt1 (gD d s) 0 r t k v x c = gD d s c := fun x c hc h => nt1_o h6g hc h
  have rN : ∀ x, rS (wNote w 0 r t) (nt1 (gD d s) 0 r t k v x) := fun x => hA.1.note h6g
  have cN : cW (wNote w 0 r t) l (gD d s) (gD d s) := j2.tb (note_f.1 4) (note_f.1 5) (fun q _ h => note_t q h)
  have n9 : (wNote w 0 r t).1 9 = w.1 9 := note_f.1 9
  -- behind the tail
  have fin : ∀ u : WS, wPlayE (wNote w 0 r t) k t v r = wRise (wRaise (wP u 0 r 2 0) r (wI (t - wG (wP u 0 r 2 0) 0 r 1))) → ∀ s', (∃ G' l', jR (wRise (wRaise (wP u 0 r 2 0) r (wI (t - wG (wP u 0 r 2 0) 0 r 1)))) d s' G' l') → rB (wComeE w k t v r) (gD d s') := fun u eu s' hj => by
    obtain ⟨G', l', z⟩ := hj
    rw [← eu] at z
    have q := z.rB
    unfold wComeE
    dsimp only
    refine q.t4 rfl rfl rfl (fun q _ h4 => ?_)
    show (setT _ 4 _).2 q = _
    rw [setT_ne h4]
    show (setT _ 4 _).2 q = _
    rw [setT_ne h4]
    show (setT _ 4 _).2 q = _
    rw [setT_ne h4]
    show (setT _ 4 _).2 q = _
    rw [setT_ne h4]
  refine ⟨fun c2 => ?_, fun c2 => ?_⟩
  · have hK1 := hK.1 c2
    rw [how] at c2 hK1 ⊢
    have h01 : hw1 (gD d s) t = 0 ∨ hw1 (gD d s) t = 1 := by omega
    obtain ⟨A, T, C, sp⟩ := sp3_ex (k := k) (t := t) (show 0 ≤ gD d s 1 by omega) l j5
    have e0 := sp.1
    have hTg : ∀ x, x ∈ T → gR x := fun x hx => j5.1 x (by rw [e0]; exact List.mem_append_right _ (List.mem_append_left _ hx))
    have lT : T.length ≤ l.length := by rw [e0, List.length_append, List.length_append]; omega
    -- the class
    have rM := midL_s (rN 1) hr.1 (by rw [N 1 0 (by decide) (by decide)]; exact hr.2) h01
    have mW : cW (midL (wNote w 0 r t) r (hw1 (gD d s) t)) l (gD d s) (gD d s) := cN.of rfl rfl (fun q hq => by rcases hq with rfl | rfl | rfl | rfl <;> rfl)
    have m9 : (midL (wNote w 0 r t) r (hw1 (gD d s) t)).1 9 = gD d s 11 := n9.trans j6
    have eu : wPlayE (wNote w 0 r t) k t v r = wRise (wRaise (wP (wMelt (midL (wNote w 0 r t) r (hw1 (gD d s) t)) k t v) 0 r 2 0) r (wI (t - wG (wP (wMelt (midL (wNote w 0 r t) r (hw1 (gD d s) t)) k t v) 0 r 2 0) 0 r 1))) := by
      unfold wPlayE midL
      dsimp only
      rw [hh, if_neg (by omega)]
    have fe : ∀ c, (1 ≤ c ∧ c < 5) → fa1 (in1 (nt1 (gD d s) 0 r t k v 1) (24 + r) 1) (hw1 (gD d s) t) r c = gD d s c := fun c hc => by
      rw [fa1_ne (by omega) (by omega), in1_ne (by omega), N 1 c (by omega) (by omega)]
    have sW : stW (midL (wNote w 0 r t) r (hw1 (gD d s) t)) (gD d s 1) (gD d s 2) := ⟨⟨by rw [rM.1.1, fe 1 (by decide)], by rw [rM.1.2.1, fe 2 (by decide)]⟩, ⟨by omega, b1'⟩, b2, b2'⟩
    obtain ⟨w1, w9⟩ := melt_s (b := 432000) mW j5 sW (by rw [rM.1.2.2.2, fe 4 (by decide)]) (by rw [rM.1.2.2.1, fe 3 (by decide)]) ⟨hk.1, by omega⟩ ht hv sp (by omega) i7 (by omega)
    have uS := rM.F (wF4_Melt (k := k) (t := t) (v := v))
    generalize midL (wNote w 0 r t) r (hw1 (gD d s) t) = wm at rM mW m9 eu sW w1 w9 uS
    -- the model
    have La : lsM d (mInc (mInc (mS (mNote s d 0 r t k v 1) 12 0) (d * 2804 + 8) 1) (d * 2804 + 9) (hw1 (gD d s) t)) l := (((j3.note hd0 q6.1).cong (s' := mS (mNote s d 0 r t k v 1) 12 0) rfl).in hd0 (by decide) (by unfold zB; omega)).in hd0 (by decide) (by unfold zB; omega)
    have Ma : sB d (mInc (mInc (mS (mNote s d 0 r t k v 1) 12 0) (d * 2804 + 8) 1) (d * 2804 + 9) (hw1 (gD d s) t)) (fa1 (nt1 (gD d s) 0 r t k v 1) (hw1 (gD d s) t) r) := by
      unfold fa1
      rw [if_neg (by omega)]
      exact (((j4.note hd0 h6g).cong (s' := mS (mNote s d 0 r t k v 1) 12 0) rfl).inc hd0 rfl (by decide) (by unfold zB; omega)).inc hd0 rfl (by decide) (by unfold zB; omega)
    have ga : ∀ c, c ≠ 6 → c < 1844 → (c < 8 ∨ (11 ≤ c ∧ c < 28) ∨ 32 ≤ c) → fa1 (nt1 (gD d s) 0 r t k v 1) (hw1 (gD d s) t) r c = gD d s c := fun c h1 h2 h3 => by rw [fa1_ne (by omega) h3, N 1 c h1 h2]
    have sw := fa_sw (g := nt1 (gD d s) 0 r t k v 1) (h := hw1 (gD d s) t) (r := r) (by omega)
    rw [← sw] at uS
    have hBa : gB (fa1 (nt1 (gD d s) 0 r t k v 1) (hw1 (gD d s) t) r) := hB.of (fun c hc => ga c (by omega) (by omega) (by omega))
    generalize mInc (mInc (mS (mNote s d 0 r t k v 1) 12 0) (d * 2804 + 8) 1) (d * 2804 + 9) (hw1 (gD d s) t) = sa at La Ma hK1 ⊢
    generalize fa1 (nt1 (gD d s) 0 r t k v 1) (hw1 (gD d s) t) r = g2 at Ma ga hBa uS
    have sG : stG g2 (gD d s 1) (gD d s 2) (gD d s 4) := ⟨⟨ga 1 (by decide) (by decide) (by decide), ga 2 (by decide) (by decide) (by decide), ga 4 (by decide) (by decide) (by decide)⟩, ⟨by omega, b1'⟩, b2, b2'⟩
    have g7 : b7 432000 g2 := by unfold b7; rw [ga 7 (by decide) (by decide) (by decide)]; exact i7
    have g36 : ∀ k, 0 ≤ k → k < 6 → g2 (36 + k) = gD d s (36 + k) := fun k k0 k1 => ga _ (by omega) (by omega) (by omega)
    have big := joinS hd hK1 La Ma sG (ga 3 (by decide) (by decide) (by decide)) j5 sp ⟨hk.1, by omega⟩ ht hv hlen g7 (by omega)
    refine mJoinP_mono (fun s2 z => ?_) big
    obtain ⟨z1, z2, z3⟩ := z
    have hR : gR (T.foldl mrR (frR k t v)) := mrs_g T _ (frR_g ⟨hk.1, by omega⟩ ht hv) hTg
    have hkd := kdR_b (gD d s 1) (gD d s 4) (gD d s 3) (T.foldl mrR (frR k t v))
    have hgd := j5.join (v := v) (kd := kdR (gD d s 1) (gD d s 4) (gD d s 3) (T.foldl mrR (frR k t v))) (by omega) sp ⟨hk.1, by omega⟩ ht hv (by omega)
    generalize kdR (gD d s 1) (gD d s 4) (gD d s 3) (T.foldl mrR (frR k t v)) = kd at w1 z2 z3 hkd hgd
    generalize T.foldl mrR (frR k t v) = R at w1 z2 z3 hR hgd
    obtain ⟨t7, tne⟩ := tk_f T 432000 g2 hTg g7 (by omega)
    obtain ⟨-, tne0⟩ := tk_f T 432000 (gD d s) hTg i7 (by omega)
    have in7 : b7 (432000 + T.length) (in1 (T.foldl tkG g2) 11 (if 1 < (T.length : Int) then 1 else 0)) := by
      unfold b7
      rw [in1_ne (by decide)]
      exact t7
    have G : ∀ c, c ≠ 11 → (c < 7 ∨ (8 ≤ c ∧ c < 32) ∨ (36 ≤ c ∧ c < 60) ∨ (84 ≤ c ∧ c < 1484) ∨ 1844 ≤ c) → anG kd R (in1 (T.foldl tkG g2) 11 (if 1 < (T.length : Int) then 1 else 0)) c = g2 c := fun c h11 hc => by
      rw [anG_ne in7.1 (by omega) hR hc, in1_ne h11, tne c hc]
    have G11 : anG kd R (in1 (T.foldl tkG g2) 11 (if 1 < (T.length : Int) then 1 else 0)) 11 = wI (gD d s 11 + (if 1 < (T.length : Int) then 1 else 0)) := by
      rw [anG_ne in7.1 (by omega) hR (by decide)]
      unfold in1
      rw [up1_eq, tne 11 (by decide), ga 11 (by decide) (by decide) (by decide)]
    have G7 : b7 (432000 + T.length + 1) (anG kd R (in1 (T.foldl tkG g2) 11 (if 1 < (T.length : Int) then 1 else 0))) := by
      unfold anG
      split
      · exact in7.sn (by omega) (by omega) hR
      · exact ⟨in7.1, Int.le_trans in7.2 (by omega)⟩
    have Gk : kSF (anG kd R (in1 (T.foldl tkG g2) 11 (if 1 < (T.length : Int) then 1 else 0))) := by
      have a := kSF.tks T 432000 g2 hTg (j7.cong (fun c hc => ga c (by omega) (by omega) (by omega))) g7 (by omega)
      have b := a.cong (g' := in1 (T.foldl tkG g2) 11 (if 1 < (T.length : Int) then 1 else 0)) (fun c hc => in1_ne (by omega))
      unfold anG
      split
      · exact b.sn in7 (by omega) (by omega) hR
      · exact b
    have Gw : cW (wMelt wm k t v) (A ++ anR kd R :: C) (anG kd R (in1 (T.foldl tkG g2) 11 (if 1 < (T.length : Int) then 1 else 0))) (anG kd R (in1 (T.foldl tkG g2) 11 (if 1 < (T.length : Int) then 1 else 0))) := by
      refine ⟨w1.1, w1.2.1.cong (anG_cg (fun c hc => ?_) (by omega) hR), w1.2.2.cong (fun c hc => ?_)⟩
      · rw [in1_ne (by unfold mC at hc; omega)]
        exact foldl_cg (C := mC) (f := tkG) (fun g g' r hr h => tkG_cg h hr) T (gD d s) g2 hTg (fun c hc => ga c (by unfold mC at hc; omega) (by unfold mC at hc; omega) (by unfold mC at hc; omega)) c hc
      · unfold fC at hc
        rw [G c (by omega) (by omega), ga c (by omega) (by omega) (by omega)]
    generalize anG kd R (in1 (T.foldl tkG g2) 11 (if 1 < (T.length : Int) then 1 else 0)) = G2 at z3 G G11 G7 Gk Gw
    have uS2 : rS (wMelt wm k t v) (in1 G2 (24 + r) 1) := uS.cong (fun c c0 c1 h5 h6' h7' h11 => by
      refine in1_cg (G c h11 (by omega)) (fun _ => G (24 + r) (by omega) (by omega)))
    have tl := tailE (b := 433000) hd uS2 Gw z2 z3 (by rw [G 1 (by decide) (by decide), ga 1 (by decide) (by decide) (by decide)]; exact hgd) (by rw [w9, m9, G11]) Gk (hBa.of (fun c hc => G c (by omega) (by omega))) (by rw [G 0 (by decide) (by decide), ga 0 (by decide) (by decide) (by decide)]; omega) (by rw [G 0 (by decide) (by decide), ga 0 (by decide) (by decide) (by decide)]; exact hr) ht ⟨G7.1, Int.le_trans G7.2 (by omega)⟩ (fun k k0 k1 => by
      rw [G (36 + k) (by omega) (by omega), g36 k k0 k1]
      have := i36 k k0 k1
      omega) (by decide) z1
    refine cmE_mono (fun s' y => ⟨y.1, fin _ eu s' y.2⟩) tl
  · have hK2 := hK.2 c2
    rw [how] at c2
    have rM := midD_s (rN 0) hr.1 (by rw [N 0 0 (by decide) (by decide)]; exact hr.2)
    have mW : cW (midD (wNote w 0 r t) r) l (gD d s) (gD d s) := cN.of rfl rfl (fun q hq => by rcases hq with rfl | rfl | rfl | rfl <;> rfl)
    have m9 : (midD (wNote w 0 r t) r).1 9 = gD d s 11 := n9.trans j6
    have eu : wPlayE (wNote w 0 r t) k t v r = wRise (wRaise (wP (midD (wNote w 0 r t) r) 0 r 2 0) r (wI (t - wG (wP (midD (wNote w 0 r t) r) 0 r 2 0) 0 r 1))) := by
      unfold wPlayE midD
      dsimp only
      rw [hh, if_pos c2]
    have La : lsM d (mInc (mInc (mS (mNote s d 0 r t k v 0) 12 0) (d * 2804 + 10) 1) (d * 2804 + (28 + r)) 1) l := (((j3.note hd0 q6.1).cong (s' := mS (mNote s d 0 r t k v 0) 12 0) rfl).in hd0 (by decide) (by unfold zB; omega)).in hd0 (by omega) (by unfold zB; omega)
    have Ma : sB d (mInc (mInc (mS (mNote s d 0 r t k v 0) 12 0) (d * 2804 + 10) 1) (d * 2804 + (28 + r)) 1) (fa1 (nt1 (gD d s) 0 r t k v 0) 2 r) := by
      unfold fa1
      rw [if_pos rfl]
      exact (((j4.note hd0 h6g).cong (s' := mS (mNote s d 0 r t k v 0) 12 0) rfl).inc hd0 rfl (by decide) (by unfold zB; omega)).inc hd0 rfl (by omega) (by unfold zB; omega)
    have ga : ∀ c, c ≠ 6 → c < 1844 → (c < 8 ∨ (11 ≤ c ∧ c < 28) ∨ 32 ≤ c) → fa1 (nt1 (gD d s) 0 r t k v 0) 2 r c = gD d s c := fun c h1 h2 h3 => by rw [fa1_ne (by omega) h3, N 0 c h1 h2]
    have sw := fa_sw (g := nt1 (gD d s) 0 r t k v 0) (h := 2) (r := r) (by omega)
    rw [← sw] at rM
    generalize mInc (mInc (mS (mNote s d 0 r t k v 0) 12 0) (d * 2804 + 10) 1) (d * 2804 + (28 + r)) 1 = sa at La Ma hK2 ⊢
    generalize fa1 (nt1 (gD d s) 0 r t k v 0) 2 r = g2 at Ma ga rM
    have tl := tailE (b := 433000) hd rM (mW.cg (fun c hc => ga c (by unfold mC fC at hc; omega) (by unfold mC fC at hc; omega) (by unfold mC fC at hc; omega))) La Ma (by rw [ga 1 (by decide) (by decide) (by decide)]; exact j5) (by rw [m9, ga 11 (by decide) (by decide) (by decide)]) (j7.cong (fun c hc => ga c (by omega) (by omega) (by omega))) (hB.of (fun c hc => ga c (by omega) (by omega) (by omega))) (by rw [ga 0 (by decide) (by decide) (by decide)]; omega) (by rw [ga 0 (by decide) (by decide) (by decide)]; exact hr) ht (by unfold b7; rw [ga 7 (by decide) (by decide) (by decide)]; exact ⟨i7.1, Int.le_trans i7.2 (by decide)⟩) (fun k k0 k1 => by
      rw [ga (36 + k) (by omega) (by omega) (by omega)]
      have := i36 k k0 k1
      omega) (by decide) hK2
    refine cmE_mono (fun s' y => ⟨y.1, fin _ eu s' y.2⟩) tl
