/-! ===== the class: progress rises ===== -/
def nwR (ga be p : Int) (r : Row) : Row := if newB ga be p r = true then up1 r 6 2 else r
def mfR (ga be p : Int) (g : Int → Int) (r : Row) : Int → Int := if newB ga be p r = true then sn1 (tkG g r) 1 r else g
def ffR (ga la be p : Int) (g : Int → Int) (r : Row) : Int → Int := if ovB ga la p r = true then fn1 g (nwR ga be p r) else g
def cuC (ga la be p T : Int) (x : Row) : Option Row := if dueB ga la be p x = true ∧ tuR x ≤ T then (if ovB ga la p x = true then none else some (nwR ga be p x)) else some x
theorem nwR_tu {ga be p : Int} {r : Row} : tuR (nwR ga be p r) = tuR r := by
  unfold nwR
  split
  · exact up1_tu
  · rfl
theorem nwR_c {ga be p : Int} {r : Row} {c : Int} (h : c ≠ 6) : nwR ga be p r c = r c := by
  unfold nwR
  split
  · exact up1_ne h
  · rfl
theorem nwR_g {ga be p : Int} {r : Row} (h : gR r) : gR (nwR ga be p r) := by
  unfold nwR
  split
  · exact h.up (by decide)
  · exact h
theorem cuC_g {ga la be p T : Int} {x y : Row} (hx : gR x) (h : cuC ga la be p T x = some y) : gR y ∧ y 0 = x 0 ∧ y 1 = x 1 ∧ y 2 = x 2 := by
  unfold cuC at h
  split at h
  · split at h
    · cases h
    · cases h
      exact ⟨nwR_g hx, nwR_c (by decide), nwR_c (by decide), nwR_c (by decide)⟩
  · cases h
    exact ⟨hx, rfl, rfl, rfl⟩
theorem gdL_cu {ga la be p T : Int} {l : List Row} (h : gdL ga l) : gdL ga (l.filterMap (cuC ga la be p T)) := h.cut (fun x y hx e => cuC_g (h.1 x hx) e)
/-- those whose turn is behind T stand as they stood -/
theorem cuC_m {ga la be p T : Int} {l : List Row} {x : Row} (h : T < tuR x) : x ∈ l.filterMap (cuC ga la be p T) ↔ x ∈ l := by
  constructor
  · intro q
    obtain ⟨y, hy, e⟩ := List.mem_filterMap.mp q
    unfold cuC at e
    split at e
    · rename_i c
      split at e
      · cases e
      · cases e
        rw [nwR_tu] at h
        omega
    · cases e
      exact hy
  · intro q
    exact List.mem_filterMap.mpr ⟨x, q, if_neg (fun z => by omega)⟩
theorem bd6.more {g g' : Int → Int} (h : ∀ k, 0 ≤ k → k < 6 → 0 ≤ g (36 + k) ∧ g (36 + k) < 1000000) : bd6 g := h
/-- what is sent, what closed: to b -/
def b7 (b : Int) (g : Int → Int) : Prop := 0 ≤ g 7 ∧ g 7 ≤ b
def b36 (b : Int) (g : Int → Int) : Prop := ∀ k, 0 ≤ k → k < 6 → 0 ≤ g (36 + k) ∧ g (36 + k) ≤ b
theorem b36.bd {b : Int} {g : Int → Int} (h : b36 b g) (hb : b < 1000000) : bd6 g := fun k k0 k1 => ⟨(h k k0 k1).1, by have := (h k k0 k1).2; omega⟩
theorem b36.fn {b : Int} {g : Int → Int} {r : Row} (h : b36 b g) (hb : b < 1000000) (hr : gR r) : b36 (b + 1) (fn1 g r) := fun k k0 k1 => by
  have q := h k k0 k1
  have s0 := (fn1_s (r := r) (h.bd hb) hr.1).2.1
  rw [(fn1_k s0 hr.1 ⟨k0, k1⟩).1]
  by_cases c : k = r 0
  · rw [if_pos c, wI_id (z := g (36 + k) + 1) ⟨by omega, by omega⟩]; omega
  · rw [if_neg c]; omega
theorem b7.sn {b kd : Int} {g : Int → Int} {r : Row} (h : b7 b g) (hb : b < 1000000) (hk : 0 ≤ kd ∧ kd < 4) (hr : gR r) : b7 (b + 1) (sn1 g kd r) := by
  have e := sn1_7 (g := g) (kd := kd) (r := r) ⟨h.1, by have := h.2; omega⟩ hk hr.1
  have := h.1
  have := h.2
  unfold b7
  rw [e]
  omega
theorem b7.tk {b : Int} {g : Int → Int} {r : Row} (h : b7 b g) (hb : b < 1000000) (hr : gR r) : b7 (b + 1) (tkG g r) := by
  unfold tkG
  split
  · exact h.sn hb (by decide) hr
  · exact ⟨h.1, by have := h.2; omega⟩
theorem b7.mf {b ga be p : Int} {g : Int → Int} {r : Row} (h : b7 b g) (hb : b + 2 < 1000000) (hr : gR r) : b7 (b + 2) (mfR ga be p g r) := by
  unfold mfR
  split
  · have := (h.tk (by omega) hr).sn (kd := 1) (by omega) (by decide) hr
    exact ⟨this.1, by have := this.2; omega⟩
  · exact ⟨h.1, by have := h.2; omega⟩
theorem b36.ff {b ga la be p : Int} {g : Int → Int} {r : Row} (h : b36 b g) (hb : b < 1000000) (hr : gR r) : b36 (b + 1) (ffR ga la be p g r) := by
  unfold ffR
  split
  · exact h.fn hb (nwR_g hr)
  · exact fun k k0 k1 => ⟨(h k k0 k1).1, by have := (h k k0 k1).2; omega⟩
theorem step_s {w : WS} {l : List Row} {gm gf : Int → Int} {ga la be p b : Int} {i : Nat} {r : Row} (h : cW w l gm gf) (hi : l[i]? = some r) (hg : gR r) (hs : stW w ga la) (h3 : w.1 3 = p) (hd : dueB ga la be p r = true) (h7 : b7 b gm) (h36 : b36 b gf) (hb : b + 2 < 1000000) : cW (wStep w be i) (if ovB ga la p r = true then (l.set i (nwR ga be p r)).eraseIdx i else l.set i (nwR ga be p r)) (mfR ga be p gm r) (ffR ga la be p gf r) ∧ stW (wStep w be i) ga la ∧ (wStep w be i).1 3 = p := by
  have hr := h.1.2 i r hi
  have e1 := rip_w (q := be) hr hg hs
  have hd' := of_decide_eq_true hd
  have hb7 : 0 ≤ gm 7 ∧ gm 7 < 1000000 := ⟨h7.1, by have := h7.2; omega⟩
  have key : cW (if wRipe w i be then w else wAnn (wTake w i) 1 i) (l.set i (nwR ga be p r)) (mfR ga be p gm r) gf ∧ stW (if wRipe w i be then w else wAnn (wTake w i) 1 i) ga la ∧ (if wRipe w i be then w else wAnn (wTake w i) 1 i).1 3 = p := by
    by_cases c : wRipe w i be
    · have n : ¬ newB ga be p r = true := fun z => (of_decide_eq_true z).2 (e1.mp c)
      unfold nwR mfR
      rw [if_pos c, if_neg n, if_neg n, set_same hi]
      exact ⟨h, hs, h3⟩
    · have n : newB ga be p r = true := decide_eq_true ⟨hd'.1, fun z => c (e1.mpr z)⟩
      unfold nwR mfR
      rw [if_neg c, if_pos n, if_pos n]
      have a := h.take hi hg hb7
      have b1 := h7.tk (by omega) hg
      have a2 := a.ann (kd := 1) (set_at hi) (hg.up (v := 0) (by decide)) ⟨b1.1, by have := b1.2; omega⟩ (by decide)
      rw [List.set_set, up1_up1, sn1_up] at a2
      have f : ∀ k, k < 4 → (wAnn (wTake w i) 1 i).1 k = w.1 k := fun k hk => by
        have f2 : ∀ v : WS, ∀ kd q : Int, (wSend v kd q).1 k = v.1 k := fun v kd q => by
          show (bif Nat.beq k 4 then _ else v.1 k) = v.1 k
          rw [bqF (by omega)]
          rfl
        show (wSend (wTake w i) 1 i).1 k = w.1 k
        rw [f2]
        unfold wTake
        split
        · exact f2 w 3 i
        · rfl
      refine ⟨a2, ⟨⟨?_, ?_⟩, hs.2⟩, ?_⟩
      · rw [f 0 (by decide)]; exact hs.1.1
      · rw [f 1 (by decide)]; exact hs.1.2
      · rw [f 3 (by decide)]; exact h3
  unfold wStep
  dsimp only
  generalize (if wRipe w i be then w else wAnn (wTake w i) 1 i) = w1 at key ⊢
  obtain ⟨a, s, q3⟩ := key
  have hr1 := a.1.2 i _ (set_at hi)
  have e3 := ov_w (q := w1.1 3) hr1 (nwR_g hg) s
  rw [q3, nwR_c (by decide)] at e3
  rw [q3]
  unfold ffR
  by_cases c : wOver w1 i p
  · have o : ovB ga la p r = true := decide_eq_true (e3.mp c)
    rw [if_pos c, if_pos o, if_pos o]
    refine ⟨a.fin (set_at hi) (nwR_g hg) (h36.bd (by omega)), ?_, ?_⟩
    · exact s
    · exact q3
  · have o : ¬ ovB ga la p r = true := fun z => c (e3.mpr (of_decide_eq_true z))
    rw [if_neg c, if_neg o, if_neg o]
    exact ⟨a, s, q3⟩
theorem cuC_s {ga la be p T : Int} {l : List Row} {i : Nat} {r : Row} (g0 : 0 ≤ ga) (hl : gdL ga l) (hr : r ∈ l) (hd : dueB ga la be p r = true) (hT : T < tuR r) (hm : ∀ x, x ∈ l → dueB ga la be p x = true → T < tuR x → tuR r ≤ tuR x) (hi : (l.filterMap (cuC ga la be p T))[i]? = some r) : (if ovB ga la p r = true then ((l.filterMap (cuC ga la be p T)).set i (nwR ga be p r)).eraseIdx i else (l.filterMap (cuC ga la be p T)).set i (nwR ga be p r)) = l.filterMap (cuC ga la be p (tuR r)) := by
  have dt := (gdL_cu hl (la := la) (be := be) (p := p) (T := T)).dt g0
  have inj := (hl.dt g0).inj
  rw [set_f (nwR ga be p) _ i r hi dt]
  have hi2 : ((l.filterMap (cuC ga la be p T)).map (fun x => if tuR x = tuR r then nwR ga be p x else x))[i]? = some (nwR ga be p r) := by
    rw [List.getElem?_map, hi]
    show some (if tuR r = tuR r then nwR ga be p r else r) = _
    rw [if_pos rfl]
  have dt2 : dtR ((l.filterMap (cuC ga la be p T)).map (fun x => if tuR x = tuR r then nwR ga be p x else x)) := dt.map (fun x => by
    split
    · exact nwR_tu
    · rfl)
  have main : ∀ H : Row → Bool, (∀ x, H x = (if ovB ga la p r = true then neR (nwR ga be p r) x else true)) → ((l.filterMap (cuC ga la be p T)).map (fun x => if tuR x = tuR r then nwR ga be p x else x)).filter H = l.filterMap (cuC ga la be p (tuR r)) := by
    intro H hH
    refine cut_s l (fun x hx => ?_)
    have hHy : ∀ y, tuR y ≠ tuR r → H y = true := fun y hy => by
      rw [hH]
      split
      · exact neR_t (by rw [nwR_tu]; exact hy)
      · rfl
    by_cases c : dueB ga la be p x = true ∧ tuR x ≤ T
    · have c2 : dueB ga la be p x = true ∧ tuR x ≤ tuR r := ⟨c.1, by omega⟩
      unfold cuC
      rw [if_pos c, if_pos c2]
      by_cases o : ovB ga la p x = true
      · rw [if_pos o]
      · rw [if_neg o]
        dsimp only
        have hy : tuR (nwR ga be p x) ≠ tuR r := by rw [nwR_tu]; omega
        rw [if_neg hy, if_pos (hHy _ hy)]
    · have e : cuC ga la be p T x = some x := if_neg c
      rw [e]
      dsimp only
      by_cases q : tuR x = tuR r
      · have : x = r := inj x r hx hr q
        subst this
        rw [if_pos q]
        unfold cuC
        rw [if_pos ⟨hd, Int.le_refl _⟩, hH]
        by_cases o : ovB ga la p x = true
        · rw [if_pos o, if_pos o, if_neg (neR_f rfl)]
        · rw [if_neg o, if_neg o, if_pos rfl]
      · rw [if_neg q, if_pos (hHy x q)]
        refine if_neg (fun z => ?_)
        by_cases zt : T < tuR x
        · have := hm x hx z.1 zt
          have := z.2
          omega
        · exact c ⟨z.1, by omega⟩
  by_cases o : ovB ga la p r = true
  · rw [if_pos o, erase_f _ i _ hi2 dt2]
    exact main _ (fun x => by rw [if_pos o])
  · rw [if_neg o]
    have := main (fun _ => true) (fun x => by rw [if_neg o])
    rw [← this]
    exact (List.filter_eq_self.mpr (fun _ _ => rfl)).symm
theorem riseL_s {ga la be p : Int} {l : List Row} (hl : gdL ga l) : ∀ (L : List Row) (n : Nat) (T b : Int) (w : WS) (gm gf : Int → Int), cW w (l.filterMap (cuC ga la be p T)) gm gf → stW w ga la → w.1 3 = p → chn (dueB ga la be p) l T L → L.length ≤ n → b7 b gm → b36 b gf → b + 2 * L.length + 2 < 1000000 → ∃ T', T ≤ T' ∧ (∀ x, x ∈ l → dueB ga la be p x = true → tuR x ≤ T') ∧ cW (riseL be n T w) (l.filterMap (cuC ga la be p T')) (L.foldl (mfR ga be p) gm) (L.foldl (ffR ga la be p) gf) ∧ stW (riseL be n T w) ga la ∧ (riseL be n T w).1 3 = p
  | [], n, T, b, w, gm, gf, h, hs, h3, hc, hn, h7, h36, hb => by
    have e : riseL be n T w = w := by
      cases n with
      | zero => rfl
      | succ n =>
        rcases due_s (be := be) (pa := T) h.1 (gdL_cu hl) hs h3 with ⟨q, -⟩ | ⟨i, r, -, -, hm, hP, hT, -⟩
        · show (if wDue w T be < 0 then w else _) = w
          rw [q, if_pos (by decide)]
        · have := hc r ((cuC_m hT).mp hm) hP
          omega
    rw [e]
    exact ⟨T, Int.le_refl _, hc, h, hs, h3⟩
  | r :: L, 0, T, b, w, gm, gf, h, hs, h3, hc, hn, h7, h36, hb => absurd hn (Nat.not_succ_le_zero _)
  | r :: L, n + 1, T, b, w, gm, gf, h, hs, h3, hc, hn, h7, h36, hb => by
    obtain ⟨⟨c1, c2, c3, c4⟩, hc2⟩ := hc
    have g0 := hs.2.1.1
    have hg := hl.1 r c1
    have hmr : r ∈ l.filterMap (cuC ga la be p T) := (cuC_m c3).mpr c1
    rcases due_s (be := be) (pa := T) h.1 (gdL_cu hl) hs h3 with ⟨-, q⟩ | ⟨i, r', ei, hi, hm, hP, hT, hmin⟩
    · have := q r hmr c2
      omega
    · have hm' := (cuC_m hT).mp hm
      have a1 := c4 r' hm' hP hT
      have a2 := hmin r hmr c2 c3
      have er : r' = r := (hl.dt g0).inj r' r hm' c1 (by omega)
      subst er
      have ht := tu_w (h.1.2 i r' hi) hg
      rw [List.length_cons] at hn hb
      obtain ⟨s1, s2, s3⟩ := step_s (be := be) h hi hg hs h3 c2 h7 h36 (by omega)
      rw [cuC_s g0 hl c1 c2 c3 c4 hi] at s1
      obtain ⟨T', t1, t2, t3⟩ := riseL_s hl L n (tuR r') (b + 2) (wStep w be i) _ _ s1 s2 s3 hc2 (by omega) (h7.mf (by omega) hg) (by
        have := h36.ff (ga := ga) (la := la) (be := be) (p := p) (by omega) hg
        exact fun k k0 k1 => ⟨(this k k0 k1).1, by have := (this k k0 k1).2; omega⟩) (by omega)
      refine ⟨T', by omega, t2, ?_⟩
      show cW (if wDue w T be < 0 then w else riseL be n (wTurn w (wDue w T be)) (wStep w be (wDue w T be))) _ _ _ ∧ stW (if wDue w T be < 0 then w else riseL be n (wTurn w (wDue w T be)) (wStep w be (wDue w T be))) ga la ∧ (if wDue w T be < 0 then w else riseL be n (wTurn w (wDue w T be)) (wStep w be (wDue w T be))).1 3 = p
      rw [ei, if_neg (by omega), ht]
      exact t3
