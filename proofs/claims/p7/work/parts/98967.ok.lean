/-! ===== both sides: sessions, messages, finals; an input comes to both ===== -/
def jR (w : WS) (d : Int) (s : MS) (G : Int → Int) (l : List Row) : Prop := rS w G ∧ cW w l G G ∧ lsM d s l ∧ sB d s G ∧ gdL (G 1) l ∧ w.1 9 = G 11 ∧ kSF G
theorem riG_ne {ga la be p b : Int} {L : List Row} {g : Int → Int} (hL : ∀ r, r ∈ L → gR r) (h7 : b7 b g) (h36 : b36 b g) (hb : b + 2 * L.length + 2 < 1000000) : (∀ c, (c < 7 ∨ (8 ≤ c ∧ c < 32) ∨ 1844 ≤ c) → riG ga la be p L g c = up1 g 4 p c) ∧ (kSF g → kSF (riG ga la be p L g)) := by
  have lf : ∀ Q : Row → Bool, (L.filter Q).length ≤ L.length := fun Q => List.length_filter_le Q L
  have n1 := lf (newB ga be p)
  have n2 := lf (ovB ga la p)
  have n3 : ((L.filter (ovB ga la p)).map (nwR ga be p)).length = (L.filter (ovB ga la p)).length := List.length_map _
  have hN : ∀ r, r ∈ L.filter (newB ga be p) → gR r := fun r hr => hL r (List.mem_filter.mp hr).1
  have hO : ∀ r, r ∈ (L.filter (ovB ga la p)).map (nwR ga be p) → gR r := fun r hr => by
    obtain ⟨y, hy, e⟩ := List.mem_map.mp hr
    rw [← e]
    exact nwR_g (hL y (List.mem_filter.mp hy).1)
  have h7u : b7 b (up1 g 4 p) := by unfold b7; rw [up1_ne (by decide)]; exact h7
  obtain ⟨r7, r36⟩ := rm_fold (C := fun c => c < 7 ∨ (8 ≤ c ∧ c < 32) ∨ (36 ≤ c ∧ c < 60) ∨ (84 ≤ c ∧ c < 1484) ∨ 1844 ≤ c) (fun c hc => hc) (L.filter (newB ga be p)) b (up1 g 4 p) hN h7u (by omega)
  have h36u : b36 b ((L.filter (newB ga be p)).foldl rmG (up1 g 4 p)) := fun k k0 k1 => by
    rw [r36 (36 + k) (by omega), up1_ne (by omega)]
    exact h36 k k0 k1
  obtain ⟨-, fn⟩ := fn_fold (C := fun c => c < 36 ∨ (60 ≤ c ∧ c < 84) ∨ 364 ≤ c) (fun c hc => hc) ((L.filter (ovB ga la p)).map (nwR ga be p)) b ((L.filter (newB ga be p)).foldl rmG (up1 g 4 p)) hO h36u (by omega)
  refine ⟨fun c hc => ?_, fun hk => ?_⟩
  · unfold riG
    rw [fn c (by omega), r36 c (by omega)]
  · unfold riG
    have a := kSF.rms (L.filter (newB ga be p)) b (up1 g 4 p) hN (hk.cong (fun c hc => up1_ne (by omega))) h7u (by omega)
    exact kSF.fns _ b _ hO a h36u (by omega)
theorem fnC_g {ga la be p : Int} {x y : Row} (hx : gR x) (h : fnC ga la be p x = some y) : gR y ∧ y 0 = x 0 ∧ y 1 = x 1 ∧ y 2 = x 2 := by
  unfold fnC at h
  split at h
  · split at h
    · cases h
    · cases h
      exact ⟨nwR_g hx, nwR_c (by decide), nwR_c (by decide), nwR_c (by decide)⟩
  · cases h
    exact ⟨hx, rfl, rfl, rfl⟩
theorem sB.A {d : Int} {s : MS} {g : Int → Int} (h : sB d s g) : sA d s g := fun c c0 hc => h c c0 (by unfold zA at hc; unfold zB; omega)
theorem jR.rise {w : WS} {d b : Int} {s : MS} {G : Int → Int} {l : List Row} {K : MS → Prop} {n : Nat} (h : jR w d s G l) (hd : dOk d) (hB : gB G) (h0 : G 0 ≤ 4) (h7 : b7 b G) (h36 : b36 b G) (hb : b ≤ 900000) (hK : mRisP s d n K) : mRisP s d n (fun s' => K s' ∧ ∃ G' l', jR (wRise w) d s' G' l' ∧ ∀ c, (c < 4 ∨ c = 6 ∨ (8 ≤ c ∧ c < 32) ∨ 1844 ≤ c) → G' c = G c) := by
  obtain ⟨j1, j2, j3, j4, j5, j6, j7⟩ := h
  obtain ⟨⟨g1, g1'⟩, ⟨g2, g2'⟩, -, -, -⟩ := hB
  have hl := j4.A.least h0
  have e4 := j4 4 (by decide) (by unfold zB; omega)
  by_cases c : ls1 G ≤ G 4
  · have eR : wRise w = w := by
      unfold wRise
      rw [j1.least, j1.1.2.2.2, if_pos c]
    refine ⟨fun q => ⟨hK.1 q, G, l, by rw [eR]; exact ⟨j1, j2, j3, j4, j5, j6, j7⟩, fun _ _ => rfl⟩, fun q => ?_⟩
    rw [hl, e4] at q
    omega
  · obtain ⟨L, hc, hL⟩ := chn_ex (dueB (G 1) (G 2) (G 4) (ls1 G)) l l.length (-1) (ctR_k _ _ _)
    have hl160 := j3.1.2
    have sW : stW w (G 1) (G 2) := ⟨⟨j1.1.1, j1.1.2.1⟩, ⟨by omega, g1'⟩, g2, g2'⟩
    have sG : stG G (G 1) (G 2) (G 4) := ⟨⟨rfl, rfl, rfl⟩, ⟨by omega, g1'⟩, g2, g2'⟩
    obtain ⟨c1, c2, c3⟩ := rise_c j2 j5 sW j1.1.2.2.2 j1.least (by omega) hc hL h7 h36 (by omega)
    have m := rise_m hd j5 hK j3 j4 sG hl (by omega) hc h7 h36 (by omega)
    have hLg : ∀ r, r ∈ L → gR r := fun r hr => j5.1 r (chn_mem L (-1) hc r hr)
    obtain ⟨ne, kk⟩ := riG_ne (ga := G 1) (la := G 2) (be := G 4) (p := ls1 G) hLg h7 h36 (by omega)
    refine mRisP_mono (fun s' z => ⟨z.1, _, _, ⟨?_, c1, z.2.1, z.2.2, ?_, ?_, kk j7⟩, fun c hc => ?_⟩) m
    · have rs := j1.rise
      unfold ri1 at rs
      rw [show max (G 4) (ls1 G) = ls1 G by omega] at rs
      exact rs.cong (fun c c0 c1 h5 h6 h7 h11 => ne c (by omega))
    · rw [ne 1 (by decide), up1_ne (by decide)]
      exact j5.cut (fun x y hx e => fnC_g (j5.1 x hx) e)
    · have f9 : (wRise w).1 9 = w.1 9 := by
        unfold wRise
        split
        · rfl
        · exact f9_rise _ _ _ _
      rw [f9, ne 11 (by decide), up1_ne (by decide)]
      exact j6
    · rw [ne c (by omega), up1_ne (by omega)]
/-! notes, sources: what both keep -/
theorem note_t {w : WS} {a r t : Int} : ∀ q, q ≠ 4 → (wNote w a r t).2 q = w.2 q := fun q hq => by
  unfold wNote
  split
  · show (setT _ 4 _).2 q = w.2 q
    have : ∀ (u : WS) (b : TS), (setT u 4 b).2 q = u.2 q := fun u b => by
      show (bif Nat.beq q 4 then b else u.2 q) = u.2 q
      rw [bqF hq]
      rfl
    rw [this]
    show (setT _ 4 _).2 q = w.2 q
    rw [this]
    show (setT _ 4 _).2 q = w.2 q
    rw [this]
    show (setT _ 4 _).2 q = w.2 q
    rw [this]
    show (setT _ 4 _).2 q = w.2 q
    rw [this]
    show (setT _ 4 _).2 q = w.2 q
    rw [this]
  · rfl
theorem cW.tb {w w' : WS} {l : List Row} {gm gf : Int → Int} (h : cW w l gm gf) (f4 : w'.1 4 = w.1 4) (f5 : w'.1 5 = w.1 5) (e : ∀ q, q ≠ 0 → q ≠ 4 → w'.2 q = w.2 q) : cW w' l gm gf := h.of f4 f5 (fun t ht => e t (by omega) (by omega))
theorem cW.cg {w : WS} {l : List Row} {g g' : Int → Int} (h : cW w l g g) (e : ∀ c, mC c ∨ fC c → g' c = g c) : cW w l g' g' := ⟨h.1, h.2.1.cong (fun c hc => e c (Or.inl hc)), h.2.2.cong (fun c hc => e c (Or.inr hc))⟩
theorem lsM.in {d : Int} {s : MS} {l : List Row} (h : lsM d s l) (hd : 0 ≤ d) {a v : Int} (ha : 0 ≤ a) (hz : zB a) : lsM d (mInc s (d * 2804 + a) v) l := h.ne hd ha hz
theorem lsM.note {d a r t k v b : Int} {s : MS} {l : List Row} (h : lsM d s l) (hd : 0 ≤ d) (h6 : 0 ≤ mg s (d * 2804 + 6)) : lsM d (mNote s d a r t k v b) l := by
  unfold mNote
  dsimp only
  generalize mg s (d * 2804 + 6) = j at h6
  have hz : ∀ c, 1844 ≤ c → zB c := fun c hc => by unfold zB; omega
  rw [show d * 2804 + 1844 + 6 * j + 0 = d * 2804 + (1844 + 6 * j + 0) by omega, show d * 2804 + 1844 + 6 * j + 1 = d * 2804 + (1844 + 6 * j + 1) by omega, show d * 2804 + 1844 + 6 * j + 2 = d * 2804 + (1844 + 6 * j + 2) by omega, show d * 2804 + 1844 + 6 * j + 3 = d * 2804 + (1844 + 6 * j + 3) by omega, show d * 2804 + 1844 + 6 * j + 4 = d * 2804 + (1844 + 6 * j + 4) by omega, show d * 2804 + 1844 + 6 * j + 5 = d * 2804 + (1844 + 6 * j + 5) by omega]
  exact ((((((h.ne hd (by omega) (hz _ (by omega))).ne hd (by omega) (hz _ (by omega))).ne hd (by omega) (hz _ (by omega))).ne hd (by omega) (hz _ (by omega))).ne hd (by omega) (hz _ (by omega))).ne hd (by omega) (hz _ (by omega))).ne hd (by decide) (by unfold zB; omega)
theorem sB.note {d a r t k v b : Int} {s : MS} {g : Int → Int} (h : sB d s g) (hd : 0 ≤ d) (h6 : 0 ≤ g 6) : sB d (mNote s d a r t k v b) (nt1 g a r t k v b) := by
  unfold mNote nt1
  dsimp only
  rw [h 6 (by decide) (by unfold zB; omega)]
  exact ((((((h.put hd (a := 1844 + 6 * g 6 + 0) (by omega) (by omega)).put hd (a := 1844 + 6 * g 6 + 1) (by omega) (by omega)).put hd (a := 1844 + 6 * g 6 + 2) (by omega) (by omega)).put hd (a := 1844 + 6 * g 6 + 3) (by omega) (by omega)).put hd (a := 1844 + 6 * g 6 + 4) (by omega) (by omega)).put hd (a := 1844 + 6 * g 6 + 5) (by omega) (by omega)).inc hd rfl (by decide) (by unfold zB; omega)
theorem nt1_o {g : Int → Int} {a r t k v b c : Int} (h6 : 0 ≤ g 6) (hc : c ≠ 6) (h : c < 1844) : nt1 g a r t k v b c = g c := nt1_ne hc (Or.inl (by omega))
/-- the relation of a world and a desk: what B adds -/
def lsG (g : Int → Int) (l : List Row) : Prop := (g 5 = l.length ∧ l.length ≤ 160) ∧ ∀ (i : Nat) (r : Row), l[i]? = some r → ∀ c, 0 ≤ c → c < 7 → g (364 + 7 * (i : Int) + c) = r c
def rB (w : WS) (g : Int → Int) : Prop := ∃ l, lsG g l ∧ cW w l g g ∧ gdL (g 1) l ∧ w.1 9 = g 11 ∧ kSF g
theorem lsG_M {d : Int} {s : MS} {l : List Row} : lsG (gD d s) l ↔ lsM d s l := by
  constructor
  · intro h
    refine ⟨h.1, fun i r hi c c0 c1 => ?_⟩
    have := h.2 i r hi c c0 c1
    unfold gD at this
    rw [show d * 2804 + (364 + 7 * (i : Int) + c) = d * 2804 + 364 + 7 * (i : Int) + c by omega] at this
    exact this
  · intro h
    refine ⟨h.1, fun i r hi c c0 c1 => ?_⟩
    have := h.2 i r hi c c0 c1
    unfold gD
    rw [show d * 2804 + (364 + 7 * (i : Int) + c) = d * 2804 + 364 + 7 * (i : Int) + c by omega]
    exact this
theorem rB.cong {w : WS} {g g' : Int → Int} (h : rB w g) (e : ∀ c, 0 ≤ c → c < 2804 → g' c = g c) : rB w g' := by
  obtain ⟨l, h1, h2, h3, h4, h5⟩ := h
  have hn := h1.1.2
  refine ⟨l, ⟨by rw [e 5 (by decide) (by decide)]; exact h1.1, fun i r hi c c0 c1 => ?_⟩, h2.cg (fun c hc => e c (by unfold mC fC at hc; omega) (by unfold mC fC at hc; omega)), by rw [e 1 (by decide) (by decide)]; exact h3, by rw [e 11 (by decide) (by decide)]; exact h4, h5.cong (fun c hc => e c (by omega) (by omega))⟩
  have hl := lt_some hi
  rw [e _ (by omega) (by omega)]
  exact h1.2 i r hi c c0 c1
theorem jR.rB {w : WS} {d : Int} {s : MS} {G : Int → Int} {l : List Row} (h : jR w d s G l) : rB w (gD d s) := by
  obtain ⟨j1, j2, j3, j4, j5, j6, j7⟩ := h
  have e : ∀ c, 0 ≤ c → zB c → gD d s c = G c := j4
  refine ⟨l, lsG_M.mpr j3, j2.cg (fun c hc => e c (by unfold mC fC at hc; omega) (by unfold mC fC at hc; unfold zB; omega)), by rw [e 1 (by decide) (by unfold zB; omega)]; exact j5, by rw [e 11 (by decide) (by unfold zB; omega)]; exact j6, j7.cong (fun c hc => e c (by omega) (by unfold zB; omega))⟩
theorem rB.j {w : WS} {d : Int} {s : MS} (h : rB w (gD d s)) (hA : rA w (gD d s)) : ∃ l, jR w d s (gD d s) l := by
  obtain ⟨l, h1, h2, h3, h4, h5⟩ := h
  exact ⟨l, hA.1, h2, lsG_M.mp h1, fun _ _ _ => rfl, h3, h4, h5⟩
theorem dI.b {d : Int} {s : MS} (h : dI d s) : b7 432000 (gD d s) ∧ b36 432000 (gD d s) ∧ (mg s (d * 2804 + 5)) ≤ mg s (d * 2804 + 6) := by
  have h6 := h.2.1
  have hV := h.2.2.1
  have a := hV.2.1
  refine ⟨⟨a.1, ?_⟩, fun k k0 k1 => ?_, hV.1.2⟩
  · show mg s (d * 2804 + 7) ≤ 432000
    omega
  · have q := hV.2.2.1 k k0 (by omega)
    show 0 ≤ mg s (d * 2804 + (36 + k)) ∧ mg s (d * 2804 + (36 + k)) ≤ 432000
    omega
/-! marks, idles -/
theorem rB.markM {w : WS} {d t r : Int} {s : MS} {K : MS → Prop} (h : rB w (gD d s)) (hA : rA w (gD d s)) (I : dI d s) (hd : dOk d) (h6 : mg s (d * 2804 + 6) ≤ 159) (ht : 0 ≤ t ∧ t ≤ 20000) (hr : 0 ≤ r ∧ r < gD d s 0) (hm : gD d s (12 + r) < t) (hK : mMarkP s d r t 650 K) : mMarkP s d r t 650 (fun s' => K s' ∧ rB (wComeM w r t) (gD d s')) := by
  have hd0 : 0 ≤ d := hd.1
  obtain ⟨l, j⟩ := h.j hA
  obtain ⟨i7, i36, -⟩ := I.b
  have q6 := I.2.1
  have h6g : 0 ≤ gD d s 6 := q6.1
  have hz := hA.1.2.2.1
  have hB := hA.2.2.1.1
  unfold mMarkP at hK ⊢
  dsimp only at hK ⊢
  refine ⟨hK.1, ?_⟩
  obtain ⟨j1, j2, j3, j4, j5, j6, j7⟩ := j
  have N : ∀ c, c ≠ 6 → c < 1844 → nt1 (gD d s) 1 r t (-1) 0 0 c = gD d s c := fun c hc h => nt1_o h6g hc h
  have eG : ∀ c, c ≠ 6 → c < 1844 → c ≠ 12 + r → up1 (nt1 (gD d s) 1 r t (-1) 0 0) (12 + r) t c = gD d s c := fun c hc h h2 => by rw [up1_ne h2, N c hc h]
  have hBG : gB (up1 (nt1 (gD d s) 1 r t (-1) 0 0) (12 + r) t) := (hB.of (fun c hc => N c (by omega) (by omega))).u12 (by omega) ht
  have rs : rS (wRaise (wNote w 1 r t) r t) (up1 (nt1 (gD d s) 1 r t (-1) 0 0) (12 + r) t) := by
    have := (hA.1.note (a := 1) (r := r) (t := t) (k := -1) (v := 0) (b := 0) h6g (a' := 1) (r' := r) (t' := t)).raise (t := t) hr.1 (by rw [N 0 (by decide) (by decide)]; exact hr.2)
    unfold ra1 at this
    rw [N (12 + r) (by omega) (by omega), show max (gD d s (12 + r)) t = t by omega] at this
    exact this
  have cw : cW (wRaise (wNote w 1 r t) r t) l (gD d s) (gD d s) := by
    have c1 : cW (wNote w 1 r t) l (gD d s) (gD d s) := j2.tb (note_f.1 4) (note_f.1 5) (fun q _ h => note_t q h)
    unfold wRaise
    split
    · exact c1.of rfl rfl (fun q hq => by rcases hq with rfl | rfl | rfl | rfl <;> rfl)
    · exact c1
  have f9 : (wRaise (wNote w 1 r t) r t).1 9 = w.1 9 := by
    have c1 : (wNote w 1 r t).1 9 = w.1 9 := note_f.1 9
    unfold wRaise
    split
    · exact c1
    · exact c1
  have jj : jR (wRaise (wNote w 1 r t) r t) d (mP (mNote s d 1 r t (-1) 0 0) (d * 2804 + (12 + r)) t) (up1 (nt1 (gD d s) 1 r t (-1) 0 0) (12 + r) t) l := by
    refine ⟨rs, cw.cg (fun c hc => eG c (by unfold mC fC at hc; omega) (by unfold mC fC at hc; omega) (by unfold mC fC at hc; omega)), (j3.note hd0 q6.1).ne hd0 (by omega) (by unfold zB; omega), (j4.note hd0 h6g).put hd0 rfl (by omega), ?_, ?_, ?_⟩
    · rw [eG 1 (by decide) (by decide) (by omega)]; exact j5
    · rw [f9, eG 11 (by decide) (by decide) (by omega)]; exact j6
    · exact j7.cong (fun c hc => eG c (by omega) (by omega) (by omega))
  have fin := jj.rise hd hBG (by rw [eG 0 (by decide) (by decide) (by omega)]; omega) (b := 432000) (by unfold b7; rw [eG 7 (by decide) (by decide) (by omega)]; exact i7) (fun k k0 k1 => by rw [eG (36 + k) (by omega) (by omega) (by omega)]; exact i36 k k0 k1) (by decide) hK.2
  refine mRisP_mono (fun s' z => ?_) fin
  obtain ⟨z1, G', l', z2, -⟩ := z
  exact ⟨z1, z2.rB⟩
theorem rB.idleM {w : WS} {d r : Int} {s : MS} {K : MS → Prop} (h : rB w (gD d s)) (hA : rA w (gD d s)) (I : dI d s) (hd : dOk d) (h6 : mg s (d * 2804 + 6) ≤ 159) (hr : 0 ≤ r ∧ r < gD d s 0) (hK : mIdleP s d r 650 K) : mIdleP s d r 650 (fun s' => K s' ∧ rB (wComeI w r) (gD d s')) := by
  have hd0 : 0 ≤ d := hd.1
  obtain ⟨l, j⟩ := h.j hA
  obtain ⟨i7, i36, -⟩ := I.b
  have q6 := I.2.1
  have h6g : 0 ≤ gD d s 6 := q6.1
  have hz := hA.1.2.2.1
  have hB := hA.2.2.1.1
  unfold mIdleP at hK ⊢
  dsimp only at hK ⊢
  refine ⟨hK.1, ?_⟩
  obtain ⟨j1, j2, j3, j4, j5, j6, j7⟩ := j
  have N : ∀ c, c ≠ 6 → c < 1844 → nt1 (gD d s) 2 r 0 (-1) 0 0 c = gD d s c := fun c hc h => nt1_o h6g hc h
  have eG : ∀ c, c ≠ 6 → c < 1844 → c ≠ 20 + r → up1 (nt1 (gD d s) 2 r 0 (-1) 0 0) (20 + r) 1 c = gD d s c := fun c hc h h2 => by rw [up1_ne h2, N c hc h]
  have hBG : gB (up1 (nt1 (gD d s) 2 r 0 (-1) 0 0) (20 + r) 1) := (hB.of (fun c hc => N c (by omega) (by omega))).u20 (by omega) (Or.inr rfl)
  have rs : rS (wP (wNote w 2 r 0) 0 r 2 1) (up1 (nt1 (gD d s) 2 r 0 (-1) 0 0) (20 + r) 1) := by
    have := (hA.1.note (a := 2) (r := r) (t := 0) (k := -1) (v := 0) (b := 0) h6g (a' := 2) (r' := r) (t' := 0)).src (v := 1) hr.1 (by rw [N 0 (by decide) (by decide)]; exact hr.2) (c := 2) (by decide) (by decide)
    rw [show 12 + 4 * 2 + r = 20 + r by omega] at this
    exact this
  have cw : cW (wP (wNote w 2 r 0) 0 r 2 1) l (gD d s) (gD d s) := by
    have c1 : cW (wNote w 2 r 0) l (gD d s) (gD d s) := j2.tb (note_f.1 4) (note_f.1 5) (fun q _ h => note_t q h)
    exact c1.of rfl rfl (fun q hq => by rcases hq with rfl | rfl | rfl | rfl <;> rfl)
  have f9 : (wP (wNote w 2 r 0) 0 r 2 1).1 9 = w.1 9 := note_f.1 9
  have jj : jR (wP (wNote w 2 r 0) 0 r 2 1) d (mP (mNote s d 2 r 0 (-1) 0 0) (d * 2804 + (20 + r)) 1) (up1 (nt1 (gD d s) 2 r 0 (-1) 0 0) (20 + r) 1) l := by
    refine ⟨rs, cw.cg (fun c hc => eG c (by unfold mC fC at hc; omega) (by unfold mC fC at hc; omega) (by unfold mC fC at hc; omega)), (j3.note hd0 q6.1).ne hd0 (by omega) (by unfold zB; omega), (j4.note hd0 h6g).put hd0 rfl (by omega), ?_, ?_, ?_⟩
    · rw [eG 1 (by decide) (by decide) (by omega)]; exact j5
    · rw [f9, eG 11 (by decide) (by decide) (by omega)]; exact j6
    · exact j7.cong (fun c hc => eG c (by omega) (by omega) (by omega))
  have fin := jj.rise hd hBG (by rw [eG 0 (by decide) (by decide) (by omega)]; omega) (b := 432000) (by unfold b7; rw [eG 7 (by decide) (by decide) (by omega)]; exact i7) (fun k k0 k1 => by rw [eG (36 + k) (by omega) (by omega) (by omega)]; exact i36 k k0 k1) (by decide) hK.2
  refine mRisP_mono (fun s' z => ?_) fin
  obtain ⟨z1, G', l', z2, -⟩ := z
  exact ⟨z1, z2.rB⟩
