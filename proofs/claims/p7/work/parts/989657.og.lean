/-! ===== progress rises: class and model leave the same ===== -/
def mC (c : Int) : Prop := c = 7 ∨ (60 ≤ c ∧ c < 84) ∨ (1484 ≤ c ∧ c < 1844)
def fC (c : Int) : Prop := (36 ≤ c ∧ c < 60) ∨ (84 ≤ c ∧ c < 364)
theorem msW.cong {w : WS} {g g' : Int → Int} (h : msW w g) (e : ∀ c, mC c → g' c = g c) : msW w g' := by
  obtain ⟨a, b, c⟩ := h
  have e7 := e 7 (Or.inl rfl)
  refine ⟨by rw [e7]; exact a, fun q j q0 q1 q2 j0 j1 => ?_, fun k j k0 k1 j0 j1 => ?_⟩
  · rw [e7] at q2
    rw [e _ (by unfold mC; omega)]
    exact b q j q0 q1 q2 j0 j1
  · rw [e _ (by unfold mC; omega)]
    exact c k j k0 k1 j0 j1
theorem sm6_c {g g' : Int → Int} (e : ∀ c, fC c → g' c = g c) : sm6 g' = sm6 g := sumI_c _ _ 6 0 0 (fun j j0 j1 => e _ (by unfold fC; omega))
theorem fiW.cong {w : WS} {g g' : Int → Int} (h : fiW w g) (e : ∀ c, fC c → g' c = g c) : fiW w g' := by
  obtain ⟨a, b, c⟩ := h
  have e6 := sm6_c e
  refine ⟨by rw [e6]; exact a, fun q j q0 q1 q2 j0 j1 => ?_, fun k k0 k1 => ?_⟩
  · rw [e6] at q2
    rw [e _ (by unfold fC; omega)]
    exact b q j q0 q1 q2 j0 j1
  · rw [e (36 + k) (by unfold fC; omega), e (42 + k) (by unfold fC; omega), e (48 + k) (by unfold fC; omega), e (54 + k) (by unfold fC; omega)]
    exact c k k0 k1
/-- two that are alike on some cells: told alike -/
theorem up1_cg {g g' : Int → Int} {c v x : Int} (h : g' x = g x) : up1 g' c v x = up1 g c v x := by
  by_cases e : x = c
  · subst e; rw [up1_eq, up1_eq]
  · rw [up1_ne e, up1_ne e]; exact h
theorem in1_cg {g g' : Int → Int} {c v x : Int} (h : g' x = g x) (hc : x = c → g' c = g c) : in1 g' c v x = in1 g c v x := by
  unfold in1
  by_cases e : x = c
  · rw [hc e]; exact up1_cg h
  · rw [up1_ne e, up1_ne e]; exact h
theorem sn1_cg {g g' : Int → Int} {kd : Int} {r : Row} (h : ∀ c, mC c → g' c = g c) (hk : 0 ≤ kd ∧ kd < 4) (hr : 0 ≤ r 0 ∧ r 0 < 6) : ∀ c, mC c → sn1 g' kd r c = sn1 g kd r c := by
  intro c hc
  unfold sn1
  rw [h 7 (Or.inl rfl)]
  have six : ∀ x, mC x → (up1 (up1 (up1 (up1 (up1 (up1 g' (1484 + 6 * Int.tmod (g 7) 60 + 0) kd) (1484 + 6 * Int.tmod (g 7) 60 + 1) (r 0)) (1484 + 6 * Int.tmod (g 7) 60 + 2) (r 1)) (1484 + 6 * Int.tmod (g 7) 60 + 3) (r 2)) (1484 + 6 * Int.tmod (g 7) 60 + 4) (r 3)) (1484 + 6 * Int.tmod (g 7) 60 + 5) (r 4)) x = (up1 (up1 (up1 (up1 (up1 (up1 g (1484 + 6 * Int.tmod (g 7) 60 + 0) kd) (1484 + 6 * Int.tmod (g 7) 60 + 1) (r 0)) (1484 + 6 * Int.tmod (g 7) 60 + 2) (r 1)) (1484 + 6 * Int.tmod (g 7) 60 + 3) (r 2)) (1484 + 6 * Int.tmod (g 7) 60 + 4) (r 3)) (1484 + 6 * Int.tmod (g 7) 60 + 5) (r 4)) x := fun x hx => up1_cg (up1_cg (up1_cg (up1_cg (up1_cg (up1_cg (h x hx))))))
  generalize (up1 (up1 (up1 (up1 (up1 (up1 g' (1484 + 6 * Int.tmod (g 7) 60 + 0) kd) (1484 + 6 * Int.tmod (g 7) 60 + 1) (r 0)) (1484 + 6 * Int.tmod (g 7) 60 + 2) (r 1)) (1484 + 6 * Int.tmod (g 7) 60 + 3) (r 2)) (1484 + 6 * Int.tmod (g 7) 60 + 4) (r 3)) (1484 + 6 * Int.tmod (g 7) 60 + 5) (r 4)) = u' at six ⊢
  generalize (up1 (up1 (up1 (up1 (up1 (up1 g (1484 + 6 * Int.tmod (g 7) 60 + 0) kd) (1484 + 6 * Int.tmod (g 7) 60 + 1) (r 0)) (1484 + 6 * Int.tmod (g 7) 60 + 2) (r 1)) (1484 + 6 * Int.tmod (g 7) 60 + 3) (r 2)) (1484 + 6 * Int.tmod (g 7) 60 + 4) (r 3)) (1484 + 6 * Int.tmod (g 7) 60 + 5) (r 4)) = u at six ⊢
  have s1 : ∀ x, mC x → in1 u' 7 1 x = in1 u 7 1 x := fun x hx => in1_cg (six x hx) (fun _ => six 7 (Or.inl rfl))
  have s2 : ∀ x, mC x → in1 (in1 u' 7 1) (32 + kd) 1 x = in1 (in1 u 7 1) (32 + kd) 1 x := fun x hx => in1_cg (s1 x hx) (fun e => by unfold mC at hx; omega)
  exact in1_cg (s2 c hc) (fun e => s2 _ (by unfold mC; omega))
theorem tkG_cg {g g' : Int → Int} {r : Row} (h : ∀ c, mC c → g' c = g c) (hr : gR r) : ∀ c, mC c → tkG g' r c = tkG g r c := by
  intro c hc
  unfold tkG
  split
  · exact sn1_cg h (by decide) hr.1 c hc
  · exact h c hc
theorem rmG_cg {g g' : Int → Int} {r : Row} (h : ∀ c, mC c → g' c = g c) (hr : gR r) : ∀ c, mC c → rmG g' r c = rmG g r c :=
  sn1_cg (tkG_cg h hr) (by decide) hr.1
theorem fn1_cg {g g' : Int → Int} {r : Row} (h : ∀ c, fC c → g' c = g c) (hr : 0 ≤ r 0 ∧ r 0 < 6) : ∀ c, fC c → fn1 g' r c = fn1 g r c := by
  intro c hc
  unfold fn1
  rw [sm6_c h, h (54 + r 0) (by unfold fC; omega)]
  refine up1_cg ?_
  have seven : ∀ x, fC x → (up1 (up1 (up1 (up1 (up1 (up1 (up1 g' (84 + 7 * Int.tmod (sm6 g) 40 + 0) (r 0)) (84 + 7 * Int.tmod (sm6 g) 40 + 1) (r 1)) (84 + 7 * Int.tmod (sm6 g) 40 + 2) (r 2)) (84 + 7 * Int.tmod (sm6 g) 40 + 3) (r 3)) (84 + 7 * Int.tmod (sm6 g) 40 + 4) (r 4)) (84 + 7 * Int.tmod (sm6 g) 40 + 5) (r 5)) (84 + 7 * Int.tmod (sm6 g) 40 + 6) (r 6)) x = (up1 (up1 (up1 (up1 (up1 (up1 (up1 g (84 + 7 * Int.tmod (sm6 g) 40 + 0) (r 0)) (84 + 7 * Int.tmod (sm6 g) 40 + 1) (r 1)) (84 + 7 * Int.tmod (sm6 g) 40 + 2) (r 2)) (84 + 7 * Int.tmod (sm6 g) 40 + 3) (r 3)) (84 + 7 * Int.tmod (sm6 g) 40 + 4) (r 4)) (84 + 7 * Int.tmod (sm6 g) 40 + 5) (r 5)) (84 + 7 * Int.tmod (sm6 g) 40 + 6) (r 6)) x := fun x hx => up1_cg (up1_cg (up1_cg (up1_cg (up1_cg (up1_cg (up1_cg (h x hx)))))))
  generalize (up1 (up1 (up1 (up1 (up1 (up1 (up1 g' (84 + 7 * Int.tmod (sm6 g) 40 + 0) (r 0)) (84 + 7 * Int.tmod (sm6 g) 40 + 1) (r 1)) (84 + 7 * Int.tmod (sm6 g) 40 + 2) (r 2)) (84 + 7 * Int.tmod (sm6 g) 40 + 3) (r 3)) (84 + 7 * Int.tmod (sm6 g) 40 + 4) (r 4)) (84 + 7 * Int.tmod (sm6 g) 40 + 5) (r 5)) (84 + 7 * Int.tmod (sm6 g) 40 + 6) (r 6)) = u' at seven ⊢
  generalize (up1 (up1 (up1 (up1 (up1 (up1 (up1 g (84 + 7 * Int.tmod (sm6 g) 40 + 0) (r 0)) (84 + 7 * Int.tmod (sm6 g) 40 + 1) (r 1)) (84 + 7 * Int.tmod (sm6 g) 40 + 2) (r 2)) (84 + 7 * Int.tmod (sm6 g) 40 + 3) (r 3)) (84 + 7 * Int.tmod (sm6 g) 40 + 4) (r 4)) (84 + 7 * Int.tmod (sm6 g) 40 + 5) (r 5)) (84 + 7 * Int.tmod (sm6 g) 40 + 6) (r 6)) = u at seven ⊢
  have s1 : ∀ x, fC x → in1 u' (36 + r 0) 1 x = in1 u (36 + r 0) 1 x := fun x hx => in1_cg (seven x hx) (fun _ => seven _ (by unfold fC; omega))
  have s2 : ∀ x, fC x → in1 (in1 u' (36 + r 0) 1) (42 + r 0) (r 3) x = in1 (in1 u (36 + r 0) 1) (42 + r 0) (r 3) x := fun x hx => in1_cg (s1 x hx) (fun _ => s1 _ (by unfold fC; omega))
  exact in1_cg (s2 c hc) (fun _ => s2 _ (by unfold fC; omega))
theorem foldl_cg {C : Int → Prop} {f : (Int → Int) → Row → Int → Int} (hf : ∀ (g g' : Int → Int) (r : Row), gR r → (∀ c, C c → g' c = g c) → ∀ c, C c → f g' r c = f g r c) : ∀ (L : List Row) (g g' : Int → Int), (∀ r, r ∈ L → gR r) → (∀ c, C c → g' c = g c) → ∀ c, C c → L.foldl f g' c = L.foldl f g c
  | [], _, _, _, h => h
  | r :: L, g, g', hL, h => foldl_cg hf L _ _ (fun x hx => hL x (List.mem_cons_of_mem r hx)) (hf g g' r (hL r List.mem_cons_self) h)
theorem rm_fold {C : Int → Prop} (hC : ∀ c, C c → c < 7 ∨ (8 ≤ c ∧ c < 32) ∨ (36 ≤ c ∧ c < 60) ∨ (84 ≤ c ∧ c < 1484) ∨ 1844 ≤ c) : ∀ (L : List Row) (b : Int) (g : Int → Int), (∀ r, r ∈ L → gR r) → b7 b g → b + 2 * L.length < 1000000 → b7 (b + 2 * L.length) (L.foldl rmG g) ∧ ∀ c, C c → L.foldl rmG g c = g c
  | [], b, g, _, h7, hb => ⟨⟨h7.1, by have := h7.2; show g 7 ≤ b + 2 * (0 : Nat); omega⟩, fun _ _ => rfl⟩
  | r :: L, b, g, hL, h7, hb => by
    rw [List.length_cons] at hb ⊢
    have hg := hL r List.mem_cons_self
    obtain ⟨a, e⟩ := rm_fold hC L (b + 2) (rmG g r) (fun x hx => hL x (List.mem_cons_of_mem r hx)) (h7.rm (by omega) hg) (by omega)
    exact ⟨⟨a.1, by have := a.2; show _ ≤ b + 2 * ((L.length + 1 : Nat) : Int); have z := a.2; exact Int.le_trans z (by omega)⟩, fun c hc => (e c hc).trans (rmG_ne h7 (by omega) hg (hC c hc))⟩
theorem fn_fold {C : Int → Prop} (hC : ∀ c, C c → c < 36 ∨ (60 ≤ c ∧ c < 84) ∨ 364 ≤ c) : ∀ (L : List Row) (b : Int) (g : Int → Int), (∀ r, r ∈ L → gR r) → b36 b g → b + L.length < 1000000 → b36 (b + L.length) (L.foldl fn1 g) ∧ ∀ c, C c → L.foldl fn1 g c = g c
  | [], b, g, _, h, hb => ⟨fun k k0 k1 => ⟨(h k k0 k1).1, by have := (h k k0 k1).2; show g (36 + k) ≤ b + (0 : Nat); omega⟩, fun _ _ => rfl⟩
  | r :: L, b, g, hL, h, hb => by
    rw [List.length_cons] at hb ⊢
    have hg := hL r List.mem_cons_self
    obtain ⟨a, e⟩ := fn_fold hC L (b + 1) (fn1 g r) (fun x hx => hL x (List.mem_cons_of_mem r hx)) (h.fn (by omega) hg) (by omega)
    exact ⟨fun k k0 k1 => ⟨(a k k0 k1).1, Int.le_trans (a k k0 k1).2 (by omega)⟩, fun c hc => (e c hc).trans (fn1_ne (fn1_s (r := r) (h.bd (by omega)) hg.1).2.1 hg.1 (hC c hc))⟩
/-- all that are due, told and closed -/
def fnC (ga la be p : Int) (x : Row) : Option Row := if dueB ga la be p x = true then (if ovB ga la p x = true then none else some (nwR ga be p x)) else some x
theorem ov_due {ga la be p : Int} (hl : 0 ≤ la) {x : Row} (h : ovB ga la p x = true) : dueB ga la be p x = true := by
  have := of_decide_eq_true h
  exact decide_eq_true ⟨by omega, fun z => z.2 this⟩
theorem new_due {ga la be p : Int} {x : Row} (h : newB ga be p x = true) : dueB ga la be p x = true := by
  have := of_decide_eq_true h
  exact decide_eq_true ⟨this.1, fun z => this.2 z.1⟩
theorem chn_map {P : Row → Bool} {G : Row → Row} {l : List Row} (hG : ∀ x, tuR (G x) = tuR x ∧ P (G x) = P x) : ∀ (L : List Row) (T : Int), chn P l T L → chn P (l.map G) T (L.map G)
  | [], T, h => fun x hx hP => by
    obtain ⟨y, hy, e⟩ := List.mem_map.mp hx
    rw [← e, (hG y).2] at hP
    rw [← e, (hG y).1]
    exact h y hy hP
  | r :: L, T, h => by
    have ih := chn_map hG L (tuR r) h.2
    refine ⟨⟨List.mem_map.mpr ⟨r, h.1.1, rfl⟩, (hG r).2.trans h.1.2.1, by rw [(hG r).1]; exact h.1.2.2.1, fun x hx hP ht => ?_⟩, by rw [(hG r).1]; exact ih⟩
    obtain ⟨y, hy, e⟩ := List.mem_map.mp hx
    rw [← e, (hG y).2] at hP
    rw [← e, (hG y).1] at ht
    rw [← e, (hG y).1, (hG r).1]
    exact h.1.2.2.2 y hy hP ht
theorem chn_mem {P : Row → Bool} {l : List Row} : ∀ (L : List Row) (T : Int), chn P l T L → ∀ r, r ∈ L → r ∈ l
  | [], _, _, _, hr => absurd hr List.not_mem_nil
  | a :: L, T, h, r, hr => by
    rcases List.mem_cons.mp hr with e | e
    · rw [e]; exact h.1.1
    · exact chn_mem L (tuR a) h.2 r e
/-- what rising makes of the told and the closed -/
def riG (ga la be p : Int) (L : List Row) (g : Int → Int) : Int → Int := ((L.filter (ovB ga la p)).map (nwR ga be p)).foldl fn1 ((L.filter (newB ga be p)).foldl rmG (up1 g 4 p))
theorem rise_c {w : WS} {l L : List Row} {g : Int → Int} {ga la be p b : Int} (h : cW w l g g) (hl : gdL ga l) (hs : stW w ga la) (hp : w.1 3 = be) (hle : wLeast w (-1) = p) (hlt : be < p) (hc : chn (dueB ga la be p) l (-1) L) (hL : L.length ≤ l.length) (h7 : b7 b g) (h36 : b36 b g) (hb : b + 2 * L.length + 2 < 1000000) : cW (wRise w) (l.filterMap (fnC ga la be p)) (riG ga la be p L g) (riG ga la be p L g) ∧ stW (wRise w) ga la ∧ (wRise w).1 3 = p := by
  have h0 : cW (wFd w 3 p) (l.filterMap (cuC ga la be p (-1))) g g := by
    have e : l.filterMap (cuC ga la be p (-1)) = l := by
      have : ∀ x, x ∈ l → cuC ga la be p (-1) x = some x := fun x hx => if_neg (fun z => by have := (hl.1 x hx).tu; have := z.2; omega)
      rw [cut_c l this, List.filterMap_some]
    rw [e]
    exact h.of rfl rfl (fun _ _ => rfl)
  obtain ⟨T', t1, t2, t3, t4, t5⟩ := riseL_s hl L (wZ w 1).toNat (-1) b (wFd w 3 p) g g h0 hs rfl hc (by have := h.1.1.1; omega) h7 h36 hb
  have eR : wRise w = riseL be (wZ w 1).toNat (-1) (wFd w 3 p) := by
    unfold wRise
    rw [hle, hp, if_neg (by omega)]
  rw [eR]
  have el : l.filterMap (cuC ga la be p T') = l.filterMap (fnC ga la be p) := cut_c (F := fnC ga la be p) (F' := cuC ga la be p T') l (fun x hx => by
    unfold cuC fnC
    by_cases c : dueB ga la be p x = true
    · rw [if_pos ⟨c, t2 x hx c⟩, if_pos c]
    · rw [if_neg (fun z => c z.1), if_neg c])
  have hLg : ∀ r, r ∈ L → gR r := fun r hr => hl.1 r (chn_mem L (-1) hc r hr)
  have e1 : L.foldl (mfR ga be p) g = (L.filter (newB ga be p)).foldl rmG g := (fold_f (newB ga be p) rmG L g).symm
  have e2 : L.foldl (ffR ga la be p) g = ((L.filter (ovB ga la p)).map (nwR ga be p)).foldl fn1 g := by
    rw [List.foldl_map, fold_f]
    rfl
  rw [el, e1, e2] at t3
  have lf : ∀ Q : Row → Bool, (L.filter Q).length ≤ L.length := fun Q => List.length_filter_le Q L
  have hN : ∀ r, r ∈ L.filter (newB ga be p) → gR r := fun r hr => hLg r (List.mem_filter.mp hr).1
  have hO : ∀ r, r ∈ (L.filter (ovB ga la p)).map (nwR ga be p) → gR r := fun r hr => by
    obtain ⟨y, hy, e⟩ := List.mem_map.mp hr
    rw [← e]
    exact nwR_g (hLg y (List.mem_filter.mp hy).1)
  have n1 := lf (newB ga be p)
  have n2 := lf (ovB ga la p)
  have n3 : ((L.filter (ovB ga la p)).map (nwR ga be p)).length = (L.filter (ovB ga la p)).length := List.length_map _
  have u4 : ∀ c : Int, c ≠ 4 → up1 g 4 p c = g c := fun c hc => up1_ne hc
  have h7u : b7 b (up1 g 4 p) := by unfold b7; rw [u4 7 (by decide)]; exact h7
  obtain ⟨r7, r36⟩ := rm_fold (C := fun c => c < 7 ∨ (8 ≤ c ∧ c < 32) ∨ (36 ≤ c ∧ c < 60) ∨ (84 ≤ c ∧ c < 1484) ∨ 1844 ≤ c) (fun c hc => hc) (L.filter (newB ga be p)) b (up1 g 4 p) hN h7u (by omega)
  have hf : ∀ c, fC c → ((L.filter (newB ga be p)).foldl rmG (up1 g 4 p)) c = g c := fun c hc => by
    unfold fC at hc
    rw [r36 c (by omega), u4 c (by omega)]
  have h36u : b36 b ((L.filter (newB ga be p)).foldl rmG (up1 g 4 p)) := fun k k0 k1 => by
    rw [hf (36 + k) (by unfold fC; omega)]
    exact h36 k k0 k1
  refine ⟨⟨t3.1, t3.2.1.cong (fun c hc => ?_), t3.2.2.cong (fun c hc => ?_)⟩, t4, t5⟩
  · have := (fn_fold (C := mC) (fun c hc => by unfold mC at hc; omega) ((L.filter (ovB ga la p)).map (nwR ga be p)) b ((L.filter (newB ga be p)).foldl rmG (up1 g 4 p)) hO h36u (by omega)).2 c hc
    unfold riG
    rw [this]
    exact foldl_cg (C := mC) (f := rmG) (fun g g' r hr h => rmG_cg h hr) (L.filter (newB ga be p)) g (up1 g 4 p) hN (fun c hc => u4 c (by unfold mC at hc; omega)) c hc
  · unfold riG
    exact foldl_cg (C := fC) (f := fn1) (fun g g' r hr h => fn1_cg h hr.1) ((L.filter (ovB ga la p)).map (nwR ga be p)) g ((L.filter (newB ga be p)).foldl rmG (up1 g 4 p)) hO hf c hc
theorem nwR_P {ga be p : Int} {P : Row → Bool} (hP : ∀ x y : Row, (∀ c, c ≠ 6 → y c = x c) → P y = P x) (x : Row) : P (nwR ga be p x) = P x := hP x _ (fun c hc => nwR_c hc)
theorem ovB_c {ga la p : Int} (x y : Row) (h : ∀ c, c ≠ 6 → y c = x c) : ovB ga la p y = ovB ga la p x := by
  unfold ovB
  rw [h 2 (by decide)]
theorem rise_m {d ga la be p b : Int} {s : MS} {K : MS → Prop} {n : Nat} {l L : List Row} {g : Int → Int} (hd : dOk d) (hl : gdL ga l) (h : mRisP s d n K) (hL : lsM d s l) (hB : sB d s g) (hs : stG g ga la be) (hle : mLeast s d = p) (hlt : be < p) (hc : chn (dueB ga la be p) l (-1) L) (h7 : b7 b g) (h36 : b36 b g) (hb : b + 2 * L.length + 2 < 1000000) : mRisP s d n (fun s' => K s' ∧ lsM d s' (l.filterMap (fnC ga la be p)) ∧ sB d s' (riG ga la be p L g)) := by
  have hd0 : 0 ≤ d := hd.1
  have g0 := hs.2.1.1
  have la0 := hs.2.2.1
  have e4 : mg s (d * 2804 + 4) = be := (hB 4 (by decide) (by unfold zB; omega)).trans hs.1.2.2
  refine ⟨fun q => by rw [hle, e4] at q; omega, fun q => ⟨(h.2 q).1, ?_⟩⟩
  have h2 := (h.2 q).2
  rw [e4] at h2 ⊢
  have L0 : lsM d (mRise0 s d) (l.map (mpM ga be p (-7))) := by
    have e : l.map (mpM ga be p (-7)) = l := by
      have : ∀ x, x ∈ l → mpM ga be p (-7) x = x := fun x hx => if_neg (fun z => by have := (hl.1 x hx).tu; have := z.2; omega)
      rw [List.map_congr_left this, List.map_id']
    rw [e]
    exact (hL.ne (v := mLeast s d) hd0 (a := 4) (by decide) (by unfold zB; omega)).cong rfl
  have B0 : sB d (mRise0 s d) (up1 g 4 p) := by
    have e : up1 g 4 p = up1 g 4 (mLeast s d) := by rw [hle]
    rw [e]
    exact (hB.put (v := mLeast s d) hd0 (rfl : d * 2804 + 4 = d * 2804 + 4) (by decide)).cong rfl
  have r10 : (mRise0 s d).1 10 = -1 := rfl
  have r11 : (mRise0 s d).1 11 = -1 := rfl
  have s0 : stG (up1 g 4 p) ga la p := ⟨⟨by rw [up1_ne (by decide)]; exact hs.1.1, by rw [up1_ne (by decide)]; exact hs.1.2.1, up1_eq⟩, hs.2⟩
  have inj := (hl.dt g0).inj
  have hLg : ∀ r, r ∈ L → gR r := fun r hr => hl.1 r (chn_mem L (-1) hc r hr)
  have lf : ∀ Q : Row → Bool, (L.filter Q).length ≤ L.length := fun Q => List.length_filter_le Q L
  have n1 := lf (newB ga be p)
  have n2 := lf (ovB ga la p)
  have n3 : ((L.filter (ovB ga la p)).map (nwR ga be p)).length = (L.filter (ovB ga la p)).length := List.length_map _
  have cN : chn (newB ga be p) l (-7) (L.filter (newB ga be p)) := chn_low (fun x hx _ _ => by have := (hl.1 x hx).tu; omega) (by decide) _ (chn_sub inj (fun x => new_due) L (-1) hc)
  have cO : chn (ovB ga la p) l (-1) (L.filter (ovB ga la p)) := chn_sub inj (fun x => ov_due la0) L (-1) hc
  have cO2 := chn_map (G := nwR ga be p) (fun x => ⟨nwR_tu, nwR_P ovB_c x⟩) _ _ cO
  have h7u : b7 b (up1 g 4 p) := by unfold b7; rw [up1_ne (by decide)]; exact h7
  have hN : ∀ r, r ∈ L.filter (newB ga be p) → gR r := fun r hr => hLg r (List.mem_filter.mp hr).1
  obtain ⟨r7, r36⟩ := rm_fold (C := fun c => c < 7 ∨ (8 ≤ c ∧ c < 32) ∨ (36 ≤ c ∧ c < 60) ∨ (84 ≤ c ∧ c < 1484) ∨ 1844 ≤ c) (fun c hc => hc) (L.filter (newB ga be p)) b (up1 g 4 p) hN h7u (by omega)
  have h36u : b36 b ((L.filter (newB ga be p)).foldl rmG (up1 g 4 p)) := fun k k0 k1 => by
    rw [r36 (36 + k) (by omega), up1_ne (by omega)]
    exact h36 k k0 k1
  have big := rrS hd0 hl n (L.filter (newB ga be p)) (-7) b (mRise0 s d) (up1 g 4 p) h2 L0 B0 s0 ⟨by rw [r10, r11]; decide, by rw [r11]; decide, by rw [r11]; decide⟩ cN h7u (by omega)
  refine rrP_mono (fun s1 z => ?_) _ _ _ big
  obtain ⟨⟨z1, z2⟩, T', z3, z4, z5⟩ := z
  have em : l.map (mpM ga be p T') = l.map (nwR ga be p) := List.map_congr_left (fun x hx => by
    unfold mpM nwR
    by_cases c : newB ga be p x = true
    · rw [if_pos c, if_pos ⟨c, z3 x hx c⟩]
    · rw [if_neg c, if_neg (fun y => c y.1)])
  rw [em] at z4
  have hl1 : gdL ga (l.map (nwR ga be p)) := hl.map (fun x hx => ⟨nwR_g hx, nwR_c (by decide), nwR_c (by decide), nwR_c (by decide)⟩)
  have s1' : stG ((L.filter (newB ga be p)).foldl rmG (up1 g 4 p)) ga la p := s0.of (fun c c0 c1 => r36 c (by omega))
  have L1 : lsM d s1 ((l.map (nwR ga be p)).filter (kpC ga la p (-1))) := by
    have e : (l.map (nwR ga be p)).filter (kpC ga la p (-1)) = l.map (nwR ga be p) := List.filter_eq_self.mpr (fun x hx => kpC_t (fun y => by have := (hl1.1 x hx).tu; have := y.2; omega))
    rw [e]
    exact z4
  refine ⟨z1, ccP_mono (fun s2 y => ?_) _ _ _ (ccS hd hl1 n _ (-1) b s1 _ z2 L1 z5 s1' cO2 h36u (by omega))⟩
  obtain ⟨y1, T2, y2, y3, y4⟩ := y
  refine ⟨y1, ?_, y4⟩
  have ef : (l.map (nwR ga be p)).filter (kpC ga la p T2) = l.filterMap (fnC ga la be p) := by
    have := cut_s (F := fun x => some x) (F' := fnC ga la be p) (G := nwR ga be p) (H := kpC ga la p T2) l (fun x hx => by
      show fnC ga la be p x = if kpC ga la p T2 (nwR ga be p x) = true then some (nwR ga be p x) else none
      unfold fnC
      have eo := nwR_P (ga := ga) (be := be) (p := p) (P := ovB ga la p) ovB_c x
      by_cases o : ovB ga la p x = true
      · have hy := y2 (nwR ga be p x) (List.mem_map.mpr ⟨x, hx, rfl⟩) (eo.trans o)
        rw [if_pos (ov_due la0 o), if_pos o, if_neg (kpC_f ⟨eo.trans o, hy⟩)]
      · rw [if_neg o, if_pos (kpC_t (fun z => o (eo.symm.trans z.1)))]
        by_cases c : dueB ga la be p x = true
        · rw [if_pos c]
        · rw [if_neg c]
          unfold nwR
          rw [if_neg (fun z => c (new_due z))])
    rw [List.filterMap_some] at this
    exact this
  rw [← ef]
  exact y3
