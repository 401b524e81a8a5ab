-- 98961.na
section
/-! ===== rows in a list; what comes in the order of turns ===== -/
abbrev Row : Type := Int → Int
def tuR (r : Row) : Int := r 2 * 6 + r 0
def chn (P : Row → Bool) (l : List Row) : Int → List Row → Prop
  | T, [] => ∀ x, x ∈ l → P x = true → tuR x ≤ T
  | T, r :: L => (r ∈ l ∧ P r = true ∧ T < tuR r ∧ ∀ x, x ∈ l → P x = true → T < tuR x → tuR r ≤ tuR x) ∧ chn P l (tuR r) L
theorem chn_u {P : Row → Bool} {l : List Row} (hd : ∀ x y, x ∈ l → y ∈ l → tuR x = tuR y → x = y) : ∀ (L L' : List Row) (T : Int), chn P l T L → chn P l T L' → L = L'
  | [], [], _, _, _ => rfl
  | [], r :: L', T, h, h' => absurd (h r h'.1.1 h'.1.2.1) (by have := h'.1.2.2.1; omega)
  | r :: L, [], T, h, h' => absurd (h' r h.1.1 h.1.2.1) (by have := h.1.2.2.1; omega)
  | r :: L, r' :: L', T, h, h' => by
    have a := h.1.2.2.2 r' h'.1.1 h'.1.2.1 h'.1.2.2.1
    have b := h'.1.2.2.2 r h.1.1 h.1.2.1 h.1.2.2.1
    have e : r = r' := hd r r' h.1.1 h'.1.1 (by omega)
    subst e
    rw [chn_u hd L L' (tuR r) h.2 h'.2]
theorem chn_low {Q : Row → Bool} {l : List Row} {T T' : Int} (h : ∀ x, x ∈ l → Q x = true → T < tuR x → T' < tuR x) (ht : T ≤ T') : ∀ L, chn Q l T' L → chn Q l T L
  | [], h0 => fun x hx hQ => by
    have a : tuR x ≤ T' := h0 x hx hQ
    by_cases c : T < tuR x
    · have := h x hx hQ c
      omega
    · omega
  | r :: L, h0 => ⟨⟨h0.1.1, h0.1.2.1, by have := h0.1.2.2.1; omega, fun x hx hQ hT => h0.1.2.2.2 x hx hQ (h x hx hQ hT)⟩, h0.2⟩
theorem chn_sub {P Q : Row → Bool} {l : List Row} (hd : ∀ x y, x ∈ l → y ∈ l → tuR x = tuR y → x = y) (hq : ∀ x, Q x = true → P x = true) : ∀ (L : List Row) (T : Int), chn P l T L → chn Q l T (L.filter Q)
  | [], T, h => fun x hx hQ => h x hx (hq x hQ)
  | r :: L, T, h => by
    have ih := chn_sub hd hq L (tuR r) h.2
    by_cases c : Q r = true
    · rw [List.filter_cons_of_pos c]
      exact ⟨⟨h.1.1, c, h.1.2.2.1, fun x hx hQ ht => h.1.2.2.2 x hx (hq x hQ) ht⟩, ih⟩
    · rw [List.filter_cons_of_neg c]
      refine chn_low (fun x hx hQ ht => ?_) (by have := h.1.2.2.1; omega) _ ih
      have a := h.1.2.2.2 x hx (hq x hQ) ht
      by_cases e : tuR r = tuR x
      · have := hd r x h.1.1 hx e
        subst this
        exact absurd hQ c
      · omega
theorem fold_f {α : Type} (Q : Row → Bool) (f : α → Row → α) : ∀ (L : List Row) (g : α), (L.filter Q).foldl f g = L.foldl (fun g r => if Q r = true then f g r else g) g
  | [], _ => rfl
  | r :: L, g => by
    by_cases c : Q r = true
    · rw [List.filter_cons_of_pos c, List.foldl_cons, List.foldl_cons, if_pos c]
      exact fold_f Q f L _
    · rw [List.filter_cons_of_neg c, List.foldl_cons, if_neg c]
      exact fold_f Q f L _
/-! turns that differ -/
def dtR (l : List Row) : Prop := l.Pairwise (fun a b => tuR a ≠ tuR b)
theorem dtR.inj : ∀ {l : List Row}, dtR l → ∀ x y, x ∈ l → y ∈ l → tuR x = tuR y → x = y
  | [], _, x, y, hx, _, _ => absurd hx (List.not_mem_nil)
  | a :: l, h, x, y, hx, hy, e => by
    obtain ⟨h1, h2⟩ := List.pairwise_cons.mp h
    rcases List.mem_cons.mp hx with ex | mx
    · rcases List.mem_cons.mp hy with ey | my
      · rw [ex, ey]
      · rw [ex] at e
        exact absurd e (h1 y my)
    · rcases List.mem_cons.mp hy with ey | my
      · rw [ey] at e
        exact absurd e.symm (h1 x mx)
      · exact dtR.inj h2 x y mx my e
def neR (r : Row) : Row → Bool := fun x => !(decide (tuR x = tuR r))
theorem neR_t {r x : Row} (h : tuR x ≠ tuR r) : neR r x = true := by
  unfold neR
  rw [decide_eq_false h]
  rfl
theorem neR_f {r x : Row} (h : tuR x = tuR r) : ¬ neR r x = true := by
  unfold neR
  rw [decide_eq_true h]
  decide
theorem erase_f : ∀ (l : List Row) (i : Nat) (r : Row), l[i]? = some r → dtR l → l.eraseIdx i = l.filter (neR r)
  | [], i, r, h, _ => by simp at h
  | a :: l, 0, r, h, hp => by
    have e : a = r := by simpa using h
    subst e
    obtain ⟨h1, h2⟩ := List.pairwise_cons.mp hp
    rw [List.filter_cons_of_neg (neR_f rfl)]
    show l = _
    exact (List.filter_eq_self.mpr (fun x hx => neR_t (fun z => h1 x hx z.symm))).symm
  | a :: l, i + 1, r, h, hp => by
    have h' : l[i]? = some r := by simpa using h
    obtain ⟨h1, h2⟩ := List.pairwise_cons.mp hp
    have hm : r ∈ l := List.mem_of_getElem? h'
    rw [List.filter_cons_of_pos (neR_t (h1 r hm)), ← erase_f l i r h' h2]
    rfl
theorem set_f (F : Row → Row) : ∀ (l : List Row) (i : Nat) (r : Row), l[i]? = some r → dtR l → l.set i (F r) = l.map (fun x => if tuR x = tuR r then F x else x)
  | [], i, r, h, _ => by simp at h
  | a :: l, 0, r, h, hp => by
    have e : a = r := by simpa using h
    subst e
    obtain ⟨h1, h2⟩ := List.pairwise_cons.mp hp
    rw [List.map_cons, if_pos rfl]
    show F a :: l = _
    congr 1
    have : ∀ x, x ∈ l → (if tuR x = tuR a then F x else x) = x := fun x hx => if_neg (fun z => h1 x hx z.symm)
    rw [List.map_congr_left this, List.map_id']
  | a :: l, i + 1, r, h, hp => by
    have h' : l[i]? = some r := by simpa using h
    obtain ⟨h1, h2⟩ := List.pairwise_cons.mp hp
    have hm : r ∈ l := List.mem_of_getElem? h'
    rw [List.map_cons, if_neg (h1 r hm), ← set_f F l i r h' h2]
    rfl
theorem dtR.map {G : Row → Row} (hG : ∀ x, tuR (G x) = tuR x) : ∀ {l : List Row}, dtR l → dtR (l.map G)
  | [], _ => List.Pairwise.nil
  | a :: l, h => by
    obtain ⟨h1, h2⟩ := List.pairwise_cons.mp h
    refine List.pairwise_cons.mpr ⟨fun y hy => ?_, dtR.map hG h2⟩
    obtain ⟨x, hx, e⟩ := List.mem_map.mp hy
    rw [← e, hG, hG]
    exact h1 x hx
theorem dtR.cut {F : Row → Option Row} (hF : ∀ x y, F x = some y → tuR y = tuR x) : ∀ {l : List Row}, dtR l → dtR (l.filterMap F)
  | [], _ => List.Pairwise.nil
  | a :: l, h => by
    obtain ⟨h1, h2⟩ := List.pairwise_cons.mp h
    have ih := dtR.cut hF h2
    cases e : F a with
    | none => rw [List.filterMap_cons_none e]; exact ih
    | some b =>
      rw [List.filterMap_cons_some e]
      refine List.pairwise_cons.mpr ⟨fun y hy => ?_, ih⟩
      obtain ⟨x, hx, ex⟩ := List.mem_filterMap.mp hy
      rw [hF a b e, hF x y ex]
      exact h1 x hx
theorem cut_c {F F' : Row → Option Row} : ∀ (l : List Row), (∀ x, x ∈ l → F' x = F x) → l.filterMap F' = l.filterMap F
  | [], _ => rfl
  | a :: l, h => by
    have ih := cut_c l (fun x hx => h x (List.mem_cons_of_mem a hx))
    have e := h a List.mem_cons_self
    cases e2 : F a with
    | none => rw [List.filterMap_cons_none e2, List.filterMap_cons_none (e.trans e2), ih]
    | some b => rw [List.filterMap_cons_some e2, List.filterMap_cons_some (e.trans e2), ih]
/-- a cut, then all put by G, then what H keeps -/
theorem cut_s {F F' : Row → Option Row} {G : Row → Row} {H : Row → Bool} : ∀ (l : List Row), (∀ x, x ∈ l → F' x = (match F x with | none => none | some y => if H (G y) = true then some (G y) else none)) → ((l.filterMap F).map G).filter H = l.filterMap F'
  | [], _ => rfl
  | a :: l, h => by
    have ih := cut_s (F := F) (F' := F') (G := G) (H := H) l (fun x hx => h x (List.mem_cons_of_mem a hx))
    have e := h a List.mem_cons_self
    cases e2 : F a with
    | none =>
      rw [e2] at e
      rw [List.filterMap_cons_none e2, List.filterMap_cons_none e, ih]
    | some b =>
      rw [e2] at e
      dsimp only at e
      rw [List.filterMap_cons_some e2, List.map_cons]
      by_cases c : H (G b) = true
      · rw [if_pos c] at e
        rw [List.filter_cons_of_pos c, List.filterMap_cons_some e, ih]
      · rw [if_neg c] at e
        rw [List.filter_cons_of_neg c, List.filterMap_cons_none e, ih]
end
-- 98962.nb
section
/-! ===== the class's tables as lists: sessions ===== -/
theorem p1_at {w : WS} {r c v r' c' : Int} (hr : 0 ≤ r ∧ r < 161) (hc : 0 ≤ c ∧ c < 7) : wG (wP w 1 r c v) 1 r' c' = if r' = r ∧ c' = c then v else wG w 1 r' c' := by
  show tg 161 7 (ts 161 7 (w.2 1).2 r c v) r' c' = if r' = r ∧ c' = c then v else tg 161 7 (w.2 1).2 r' c'
  unfold tg ts
  rw [if_pos (show 0 ≤ r ∧ r < 161 ∧ 0 ≤ c ∧ c < 7 from ⟨hr.1, hr.2, hc.1, hc.2⟩)]
  by_cases q : 0 ≤ r' ∧ r' < 161 ∧ 0 ≤ c' ∧ c' < 7
  · rw [if_pos q, if_pos q]
    by_cases e : r' = r ∧ c' = c
    · rw [if_pos e]
      exact if_pos (by rw [e.1, e.2])
    · rw [if_neg e]
      exact if_neg (by omega)
  · rw [if_neg q, if_neg q, if_neg (by omega)]
theorem p2_at {w : WS} {r c v r' c' : Int} (hr : 0 ≤ r ∧ r < 60) (hc : 0 ≤ c ∧ c < 6) : wG (wP w 2 r c v) 2 r' c' = if r' = r ∧ c' = c then v else wG w 2 r' c' := by
  show tg 60 6 (ts 60 6 (w.2 2).2 r c v) r' c' = if r' = r ∧ c' = c then v else tg 60 6 (w.2 2).2 r' c'
  unfold tg ts
  rw [if_pos (show 0 ≤ r ∧ r < 60 ∧ 0 ≤ c ∧ c < 6 from ⟨hr.1, hr.2, hc.1, hc.2⟩)]
  by_cases q : 0 ≤ r' ∧ r' < 60 ∧ 0 ≤ c' ∧ c' < 6
  · rw [if_pos q, if_pos q]
    by_cases e : r' = r ∧ c' = c
    · rw [if_pos e]
      exact if_pos (by rw [e.1, e.2])
    · rw [if_neg e]
      exact if_neg (by omega)
  · rw [if_neg q, if_neg q, if_neg (by omega)]
theorem p5_at {w : WS} {r c v r' c' : Int} (hr : 0 ≤ r ∧ r < 6) (hc : 0 ≤ c ∧ c < 8) : wG (wP w 5 r c v) 5 r' c' = if r' = r ∧ c' = c then v else wG w 5 r' c' := by
  show tg 6 8 (ts 6 8 (w.2 5).2 r c v) r' c' = if r' = r ∧ c' = c then v else tg 6 8 (w.2 5).2 r' c'
  unfold tg ts
  rw [if_pos (show 0 ≤ r ∧ r < 6 ∧ 0 ≤ c ∧ c < 8 from ⟨hr.1, hr.2, hc.1, hc.2⟩)]
  by_cases q : 0 ≤ r' ∧ r' < 6 ∧ 0 ≤ c' ∧ c' < 8
  · rw [if_pos q, if_pos q]
    by_cases e : r' = r ∧ c' = c
    · rw [if_pos e]
      exact if_pos (by rw [e.1, e.2])
    · rw [if_neg e]
      exact if_neg (by omega)
  · rw [if_neg q, if_neg q, if_neg (by omega)]
theorem dr1_at {w : WS} {i r c : Int} (hi : 0 ≤ i ∧ i < wZ w 1) (hz : wZ w 1 ≤ 161) (hr : 0 ≤ r ∧ r < wZ w 1 - 1) (hc : 0 ≤ c ∧ c < 7) : wG (wDr w 1 i) 1 r c = if r < i then wG w 1 r c else wG w 1 (r + 1) c := by
  show tg 161 7 (if 0 ≤ i ∧ i < (w.2 1).1 then ((w.2 1).1 - 1, xcp (w.2 1).2 (w.2 1).2 ((i + 1) * 7).toNat (i * 7).toNat (((w.2 1).1 - i - 1) * 7).toNat) else w.2 1).2 r c = if r < i then tg 161 7 (w.2 1).2 r c else tg 161 7 (w.2 1).2 (r + 1) c
  have hi : 0 ≤ i ∧ i < (w.2 1).1 := hi
  have hz : (w.2 1).1 ≤ 161 := hz
  have hr : 0 ≤ r ∧ r < (w.2 1).1 - 1 := hr
  rw [if_pos hi]
  show tg 161 7 (xcp (w.2 1).2 (w.2 1).2 ((i + 1) * 7).toNat (i * 7).toNat (((w.2 1).1 - i - 1) * 7).toNat) r c = _
  generalize (w.2 1).1 = z at hi hz hr ⊢
  generalize (w.2 1).2 = g
  unfold tg
  rw [if_pos (show 0 ≤ r ∧ r < 161 ∧ 0 ≤ c ∧ c < 7 by omega), if_pos (show 0 ≤ r + 1 ∧ r + 1 < 161 ∧ 0 ≤ c ∧ c < 7 by omega)]
  unfold xcp
  by_cases q : r < i
  · rw [if_pos q, if_neg (by omega), if_pos (show 0 ≤ r ∧ r < 161 ∧ 0 ≤ c ∧ c < 7 by omega)]
  · rw [if_neg q, if_pos (by omega)]
    congr 1
    omega
theorem dr1_z {w : WS} {i : Int} (hi : 0 ≤ i ∧ i < wZ w 1) : wZ (wDr w 1 i) 1 = wZ w 1 - 1 := by
  show (if 0 ≤ i ∧ i < (w.2 1).1 then ((w.2 1).1 - 1, xcp (w.2 1).2 (w.2 1).2 ((i + 1) * 7).toNat (i * 7).toNat (((w.2 1).1 - i - 1) * 7).toNat) else w.2 1).1 = (w.2 1).1 - 1
  have hi : 0 ≤ i ∧ i < (w.2 1).1 := hi
  rw [if_pos hi]
theorem op1_at {w : WS} {p r c : Int} (hp : 0 ≤ p ∧ p ≤ wZ w 1) (hz : wZ w 1 < 161) (hr : 0 ≤ r ∧ r ≤ wZ w 1) (hc : 0 ≤ c ∧ c < 7) : wG (wOp w 1 p) 1 r c = if r < p then wG w 1 r c else if r = p then 0 else wG w 1 (r - 1) c := by
  show tg 161 7 (topen 7 (w.2 1).2 (w.2 1).1 p) r c = if r < p then tg 161 7 (w.2 1).2 r c else if r = p then 0 else tg 161 7 (w.2 1).2 (r - 1) c
  have hp : 0 ≤ p ∧ p ≤ (w.2 1).1 := hp
  have hz : (w.2 1).1 < 161 := hz
  have hr : 0 ≤ r ∧ r ≤ (w.2 1).1 := hr
  generalize (w.2 1).1 = z at hp hz hr ⊢
  generalize (w.2 1).2 = g
  unfold tg topen
  rw [if_pos (show 0 ≤ r ∧ r < 161 ∧ 0 ≤ c ∧ c < 7 by omega)]
  by_cases q : r < p
  · rw [if_pos q, if_neg (by omega)]
    unfold xcp
    rw [if_neg (by omega), if_pos (show 0 ≤ r ∧ r < 161 ∧ 0 ≤ c ∧ c < 7 by omega)]
  · rw [if_neg q]
    by_cases e : r = p
    · rw [if_pos e, if_pos (by omega)]
    · rw [if_neg e, if_neg (by omega), if_pos (show 0 ≤ r - 1 ∧ r - 1 < 161 ∧ 0 ≤ c ∧ c < 7 by omega)]
      unfold xcp
      rw [if_pos (by omega)]
      congr 1
      omega
/-- the class's sessions are these rows -/
def rwW (w : WS) (i : Int) (r : Row) : Prop := (∀ c, 0 ≤ c → c < 6 → wG w 1 i c = r c) ∧ wG w 1 i 6 = r 6 - 1
def lsW (w : WS) (l : List Row) : Prop := (wZ w 1 = l.length ∧ l.length ≤ 161) ∧ ∀ (i : Nat) (r : Row), l[i]? = some r → rwW w i r
theorem rwW.of {w w' : WS} {i i' : Int} {r : Row} (h : rwW w i r) (e : ∀ c, 0 ≤ c → c < 7 → wG w' 1 i' c = wG w 1 i c) : rwW w' i' r := ⟨fun c c0 c1 => (e c c0 (by omega)).trans (h.1 c c0 c1), (e 6 (by decide) (by decide)).trans h.2⟩
theorem lsW.of {w w' : WS} {l : List Row} (h : lsW w l) (e : w'.2 1 = w.2 1) : lsW w' l :=
  ⟨⟨by unfold wZ; rw [e]; exact h.1.1, h.1.2⟩, fun i r hi => (h.2 i r hi).of (fun c _ _ => by unfold wG; rw [e])⟩
theorem lt_some {l : List Row} {i : Nat} {r : Row} (h : l[i]? = some r) : i < l.length := by
  obtain ⟨a, -⟩ := List.getElem?_eq_some_iff.mp h
  exact a
theorem lsW.erase {w : WS} {l : List Row} {i : Nat} (h : lsW w l) (hi : i < l.length) : lsW (wDr w 1 i) (l.eraseIdx i) := by
  obtain ⟨⟨z, z1⟩, hr⟩ := h
  have hi0 : 0 ≤ (i : Int) ∧ (i : Int) < wZ w 1 := by omega
  have el : (l.eraseIdx i).length = l.length - 1 := List.length_eraseIdx_of_lt hi
  refine ⟨⟨by rw [dr1_z hi0, el]; omega, by omega⟩, fun j r hj => ?_⟩
  have hl := lt_some hj
  rw [el] at hl
  rw [List.getElem?_eraseIdx] at hj
  by_cases q : j < i
  · rw [if_pos q] at hj
    refine (hr j r hj).of (fun c c0 c1 => ?_)
    rw [dr1_at hi0 (by omega) ⟨by omega, by omega⟩ ⟨c0, c1⟩, if_pos (by omega)]
  · rw [if_neg q] at hj
    refine (hr (j + 1) r hj).of (fun c c0 c1 => ?_)
    rw [dr1_at hi0 (by omega) ⟨by omega, by omega⟩ ⟨c0, c1⟩, if_neg (by omega)]
    rfl
theorem p1_z {w : WS} {i c v : Int} : wZ (wP w 1 i c v) 1 = wZ w 1 := rfl
theorem lsW.put {w : WS} {l : List Row} {i : Nat} {r : Row} {c v : Int} (h : lsW w l) (hi : l[i]? = some r) (hc : 0 ≤ c ∧ c < 7) : lsW (wP w 1 i c v) (l.set i (up1 r c (if c = 6 then v + 1 else v))) := by
  obtain ⟨⟨z, z1⟩, hr⟩ := h
  have hl := lt_some hi
  refine ⟨⟨by rw [p1_z, List.length_set]; exact z, by rw [List.length_set]; exact z1⟩, fun j q hj => ?_⟩
  rw [List.getElem?_set] at hj
  by_cases e : i = j
  · subst e
    rw [if_pos rfl, if_pos hl] at hj
    have := hr i r hi
    cases hj
    refine ⟨fun d d0 d1 => ?_, ?_⟩
    · rw [p1_at ⟨by omega, by omega⟩ hc]
      by_cases k : d = c
      · subst k
        rw [if_pos ⟨rfl, rfl⟩, up1_eq, if_neg (by omega)]
      · rw [if_neg (fun y => k y.2), up1_ne k]
        exact this.1 d d0 d1
    · rw [p1_at ⟨by omega, by omega⟩ hc]
      by_cases k : c = 6
      · subst k
        rw [if_pos ⟨rfl, rfl⟩, up1_eq, if_pos rfl]
        omega
      · rw [if_neg (fun y => k y.2.symm), up1_ne (fun y => k y.symm)]
        exact this.2
  · rw [if_neg e] at hj
    refine (hr j q hj).of (fun d d0 d1 => ?_)
    rw [p1_at ⟨by omega, by omega⟩ hc, if_neg (by omega)]
theorem lsW.opn {w : WS} {A C : List Row} (h : lsW w (A ++ C)) (hz : (A ++ C).length < 161) : lsW (wOp w 1 A.length) (A ++ (fun c => if c = 6 then 1 else 0) :: C) := by
  obtain ⟨⟨z, z1⟩, hr⟩ := h
  have hlen : (A ++ C).length = A.length + C.length := List.length_append
  refine ⟨⟨?_, ?_⟩, fun j r hj => ?_⟩
  · show wZ w 1 + 1 = _
    rw [List.length_append, List.length_cons, z, hlen]
    omega
  · rw [List.length_append, List.length_cons]
    omega
  · have hl := lt_some hj
    rw [List.length_append, List.length_cons] at hl
    have key : ∀ c : Int, 0 ≤ c → c < 7 → wG (wOp w 1 A.length) 1 j c = if (j : Int) < A.length then wG w 1 j c else if (j : Int) = A.length then 0 else wG w 1 ((j : Int) - 1) c := fun c c0 c1 => op1_at ⟨by omega, by omega⟩ (by omega) ⟨by omega, by omega⟩ ⟨c0, c1⟩
    rw [List.getElem?_append] at hj
    by_cases q : j < A.length
    · rw [if_pos q] at hj
      have : (A ++ C)[j]? = some r := by rw [List.getElem?_append, if_pos q]; exact hj
      refine (hr j r this).of (fun c c0 c1 => ?_)
      rw [key c c0 c1, if_pos (by omega)]
    · rw [if_neg q] at hj
      by_cases e : j = A.length
      · subst e
        rw [Nat.sub_self] at hj
        have hj : (fun c : Int => if c = 6 then (1 : Int) else 0) = r := by simpa using hj
        subst hj
        refine ⟨fun c c0 c1 => ?_, ?_⟩
        · rw [key c c0 (by omega), if_neg (by omega), if_pos rfl]
          exact (if_neg (by omega)).symm
        · rw [key 6 (by decide) (by decide), if_neg (by omega), if_pos rfl]
          rfl
      · have ej : j - A.length = (j - 1 - A.length) + 1 := by omega
        rw [ej, List.getElem?_cons_succ] at hj
        have : (A ++ C)[j - 1]? = some r := by rw [List.getElem?_append, if_neg (by omega)]; exact hj
        refine (hr (j - 1) r this).of (fun c c0 c1 => ?_)
        rw [key c c0 c1, if_neg (by omega), if_neg (by omega), show ((j - 1 : Nat) : Int) = (j : Int) - 1 by omega]
end
-- 98963.nc
section
/-! ===== messages and finals, the class's ===== -/
/-- a message is sent: the cells of a desk -/
def sn1 (g : Int → Int) (kd : Int) (r : Row) : Int → Int :=
  in1 (in1 (in1 (up1 (up1 (up1 (up1 (up1 (up1 g (1484 + 6 * Int.tmod (g 7) 60 + 0) kd) (1484 + 6 * Int.tmod (g 7) 60 + 1) (r 0)) (1484 + 6 * Int.tmod (g 7) 60 + 2) (r 1)) (1484 + 6 * Int.tmod (g 7) 60 + 3) (r 2)) (1484 + 6 * Int.tmod (g 7) 60 + 4) (r 3)) (1484 + 6 * Int.tmod (g 7) 60 + 5) (r 4)) 7 1) (32 + kd) 1) (60 + 4 * r 0 + kd) 1
def msW (w : WS) (g : Int → Int) : Prop := w.1 4 = g 7 ∧ (∀ q c, 0 ≤ q → q < 60 → q < g 7 → 0 ≤ c → c < 6 → wG w 2 q c = g (1484 + 6 * q + c)) ∧ ∀ k kd, 0 ≤ k → k < 6 → 0 ≤ kd → kd < 4 → wG w 5 k kd = g (60 + 4 * k + kd)
theorem tm60 {z : Int} (h : 0 ≤ z) : 0 ≤ Int.tmod z 60 ∧ Int.tmod z 60 < 60 ∧ (z < 60 → Int.tmod z 60 = z) :=
  ⟨Int.tmod_nonneg 60 h, Int.tmod_lt_of_pos z (by decide), fun q => Int.tmod_eq_of_lt h q⟩
theorem tm40 {z : Int} (h : 0 ≤ z) : 0 ≤ Int.tmod z 40 ∧ Int.tmod z 40 < 40 ∧ (z < 40 → Int.tmod z 40 = z) :=
  ⟨Int.tmod_nonneg 40 h, Int.tmod_lt_of_pos z (by decide), fun q => Int.tmod_eq_of_lt h q⟩
theorem sn1_ne {g : Int → Int} {kd : Int} {r : Row} {c : Int} (h7 : 0 ≤ g 7) (hk : 0 ≤ kd ∧ kd < 4) (hr : 0 ≤ r 0 ∧ r 0 < 6) (hc : c < 7 ∨ (8 ≤ c ∧ c < 32) ∨ (36 ≤ c ∧ c < 60) ∨ (84 ≤ c ∧ c < 1484) ∨ 1844 ≤ c) : sn1 g kd r c = g c := by
  have t := tm60 h7
  unfold sn1
  generalize Int.tmod (g 7) 60 = q at t
  rw [in1_ne (by omega), in1_ne (by omega), in1_ne (by omega), up1_ne (by omega), up1_ne (by omega), up1_ne (by omega), up1_ne (by omega), up1_ne (by omega), up1_ne (by omega)]
theorem sn1_7 {g : Int → Int} {kd : Int} {r : Row} (h7 : 0 ≤ g 7 ∧ g 7 < 1000000) (hk : 0 ≤ kd ∧ kd < 4) (hr : 0 ≤ r 0 ∧ r 0 < 6) : sn1 g kd r 7 = g 7 + 1 := by
  have t := tm60 h7.1
  unfold sn1
  generalize Int.tmod (g 7) 60 = q at t
  rw [in1_ne (by omega), in1_ne (by omega)]
  unfold in1
  rw [up1_eq, up1_ne (by omega), up1_ne (by omega), up1_ne (by omega), up1_ne (by omega), up1_ne (by omega), up1_ne (by omega), wI_id (z := g 7 + 1) ⟨by omega, by omega⟩]
/-- the columns of a message -/
def mgC (kd : Int) (r : Row) (c : Int) : Int := if c = 0 then kd else r (c - 1)
theorem sn1_m {g : Int → Int} {kd : Int} {r : Row} {q c : Int} (h7 : 0 ≤ g 7) (hk : 0 ≤ kd ∧ kd < 4) (hr : 0 ≤ r 0 ∧ r 0 < 6) (hq : 0 ≤ q ∧ q < 60) (hc : 0 ≤ c ∧ c < 6) : sn1 g kd r (1484 + 6 * q + c) = if q = Int.tmod (g 7) 60 then mgC kd r c else g (1484 + 6 * q + c) := by
  have t := tm60 h7
  unfold sn1
  generalize Int.tmod (g 7) 60 = p at t
  rw [in1_ne (by omega), in1_ne (by omega), in1_ne (by omega)]
  by_cases e : q = p
  · subst e
    rw [if_pos rfl]
    have : c = 0 ∨ c = 1 ∨ c = 2 ∨ c = 3 ∨ c = 4 ∨ c = 5 := by omega
    rcases this with rfl | rfl | rfl | rfl | rfl | rfl
    · rw [up1_ne (by omega), up1_ne (by omega), up1_ne (by omega), up1_ne (by omega), up1_ne (by omega), up1_eq]
      rfl
    · rw [up1_ne (by omega), up1_ne (by omega), up1_ne (by omega), up1_ne (by omega), up1_eq]
      rfl
    · rw [up1_ne (by omega), up1_ne (by omega), up1_ne (by omega), up1_eq]
      rfl
    · rw [up1_ne (by omega), up1_ne (by omega), up1_eq]
      rfl
    · rw [up1_ne (by omega), up1_eq]
      rfl
    · rw [up1_eq]
      rfl
  · rw [if_neg e, up1_ne (by omega), up1_ne (by omega), up1_ne (by omega), up1_ne (by omega), up1_ne (by omega), up1_ne (by omega)]
theorem sn1_k {g : Int → Int} {kd : Int} {r : Row} {k j : Int} (h7 : 0 ≤ g 7) (hk : 0 ≤ kd ∧ kd < 4) (hr : 0 ≤ r 0 ∧ r 0 < 6) (h : 0 ≤ k ∧ k < 6) (hj : 0 ≤ j ∧ j < 4) : sn1 g kd r (60 + 4 * k + j) = if k = r 0 ∧ j = kd then wI (g (60 + 4 * k + j) + 1) else g (60 + 4 * k + j) := by
  have t := tm60 h7
  unfold sn1
  generalize Int.tmod (g 7) 60 = p at t
  by_cases e : k = r 0 ∧ j = kd
  · rw [if_pos e, e.1, e.2]
    unfold in1
    rw [up1_eq, up1_ne (by omega), up1_ne (by omega), up1_ne (by omega), up1_ne (by omega), up1_ne (by omega), up1_ne (by omega), up1_ne (by omega), up1_ne (by omega)]
  · rw [if_neg e, in1_ne (by omega), in1_ne (by omega), in1_ne (by omega), up1_ne (by omega), up1_ne (by omega), up1_ne (by omega), up1_ne (by omega), up1_ne (by omega), up1_ne (by omega)]
theorem sn1_o {g : Int → Int} {kd : Int} {r : Row} {j : Int} (h7 : 0 ≤ g 7) (hk : 0 ≤ kd ∧ kd < 4) (hr : 0 ≤ r 0 ∧ r 0 < 6) (hj : 0 ≤ j ∧ j < 4) : sn1 g kd r (32 + j) = if j = kd then wI (g (32 + j) + 1) else g (32 + j) := by
  have t := tm60 h7
  unfold sn1
  generalize Int.tmod (g 7) 60 = p at t
  rw [in1_ne (by omega)]
  by_cases e : j = kd
  · rw [if_pos e, e]
    unfold in1
    rw [up1_eq, up1_ne (by omega), up1_ne (by omega), up1_ne (by omega), up1_ne (by omega), up1_ne (by omega), up1_ne (by omega), up1_ne (by omega)]
  · rw [if_neg e, in1_ne (by omega), in1_ne (by omega), up1_ne (by omega), up1_ne (by omega), up1_ne (by omega), up1_ne (by omega), up1_ne (by omega), up1_ne (by omega)]
theorem msW.send {w : WS} {g : Int → Int} {kd i : Int} {r : Row} (h : msW w g) (hr : rwW w i r) (h7 : 0 ≤ g 7 ∧ g 7 < 1000000) (hk : 0 ≤ kd ∧ kd < 4) (h0 : 0 ≤ r 0 ∧ r 0 < 6) : msW (wSend w kd i) (sn1 g kd r) := by
  obtain ⟨a, b, c⟩ := h
  have t := tm60 h7.1
  refine ⟨?_, fun q j q0 q1 q2 j0 j1 => ?_, fun k j k0 k1 j0 j1 => ?_⟩
  · show wI (w.1 4 + 1) = _
    rw [sn1_7 h7 hk h0, a, wI_id (z := g 7 + 1) ⟨by omega, by omega⟩]
  · rw [sn1_7 h7 hk h0] at q2
    rw [sn1_m h7.1 hk h0 ⟨q0, q1⟩ ⟨j0, j1⟩]
    show wG (wP (wP (wP (wP (wP (wP (wRe w 2 (Int.tmod (w.1 4) 60)) 2 (Int.tmod (w.1 4) 60) 0 kd) 2 (Int.tmod (w.1 4) 60) 1 (wG w 1 i 0)) 2 (Int.tmod (w.1 4) 60) 2 (wG w 1 i 1)) 2 (Int.tmod (w.1 4) 60) 3 (wG w 1 i 2)) 2 (Int.tmod (w.1 4) 60) 4 (wG w 1 i 3)) 2 (Int.tmod (w.1 4) 60) 5 (wG w 1 i 4)) 2 q j = _
    rw [a, hr.1 0 (by decide) (by decide), hr.1 1 (by decide) (by decide), hr.1 2 (by decide) (by decide), hr.1 3 (by decide) (by decide), hr.1 4 (by decide) (by decide)]
    have e0 : wG (wRe w 2 (Int.tmod (g 7) 60)) 2 q j = wG w 2 q j := rfl
    have bb := b q j q0 q1
    generalize Int.tmod (g 7) 60 = p at t e0 ⊢
    have tp : 0 ≤ p ∧ p < 60 := ⟨t.1, t.2.1⟩
    rw [p2_at tp (by decide), p2_at tp (by decide), p2_at tp (by decide), p2_at tp (by decide), p2_at tp (by decide), p2_at tp (by decide), e0]
    by_cases e : q = p
    · rw [if_pos e]
      have : j = 0 ∨ j = 1 ∨ j = 2 ∨ j = 3 ∨ j = 4 ∨ j = 5 := by omega
      rcases this with rfl | rfl | rfl | rfl | rfl | rfl
      · rw [if_neg (by omega), if_neg (by omega), if_neg (by omega), if_neg (by omega), if_neg (by omega), if_pos ⟨e, rfl⟩]; rfl
      · rw [if_neg (by omega), if_neg (by omega), if_neg (by omega), if_neg (by omega), if_pos ⟨e, rfl⟩]; rfl
      · rw [if_neg (by omega), if_neg (by omega), if_neg (by omega), if_pos ⟨e, rfl⟩]; rfl
      · rw [if_neg (by omega), if_neg (by omega), if_pos ⟨e, rfl⟩]; rfl
      · rw [if_neg (by omega), if_pos ⟨e, rfl⟩]; rfl
      · rw [if_pos ⟨e, rfl⟩]; rfl
    · rw [if_neg e, if_neg (fun z => e z.1), if_neg (fun z => e z.1), if_neg (fun z => e z.1), if_neg (fun z => e z.1), if_neg (fun z => e z.1), if_neg (fun z => e z.1)]
      exact bb (by omega) j0 j1
  · rw [sn1_k h7.1 hk h0 ⟨k0, k1⟩ ⟨j0, j1⟩]
    show wG (wP (wRe w 2 0) 5 (wG w 1 i 0) kd (wI (wG w 5 (wG w 1 i 0) kd + 1))) 5 k j = _
    rw [hr.1 0 (by decide) (by decide), p5_at h0 (by omega)]
    by_cases e : k = r 0 ∧ j = kd
    · rw [if_pos e, if_pos e, e.1, e.2, c _ _ h0.1 h0.2 hk.1 hk.2]
    · rw [if_neg e, if_neg e]
      exact c k j k0 k1 j0 j1
/-- what of the finals a message leaves alone, and the sessions -/
theorem send_t {w : WS} {k i : Int} : (wSend w k i).2 1 = w.2 1 ∧ (wSend w k i).2 3 = w.2 3 ∧ (wSend w k i).1 5 = w.1 5 ∧ (wSend w k i).1 9 = w.1 9 := ⟨rfl, rfl, rfl, rfl⟩
theorem send_5 {w : WS} {kd i k c : Int} (hi : 0 ≤ wG w 1 i 0 ∧ wG w 1 i 0 < 6) (hk : 0 ≤ kd ∧ kd < 4) (hc : 4 ≤ c) : wG (wSend w kd i) 5 k c = wG w 5 k c := by
  show wG (wP (wRe w 2 0) 5 (wG w 1 i 0) kd (wI (wG w 5 (wG w 1 i 0) kd + 1))) 5 k c = _
  rw [p5_at hi (by omega), if_neg (by omega)]
  rfl
end
-- 98964.nd
section
/-! ===== finals, the class's ===== -/
def exS (f : Int → Int) : Nat → Int → Int
  | 0, _ => 0
  | n + 1, i => f i + exS f n (i + 1)
theorem sumI_x (f : Int → Int) : ∀ (n : Nat) (i a : Int), (∀ j, i ≤ j → j < i + n → 0 ≤ f j ∧ f j ≤ 1000000) → 0 ≤ a → a + 1000000 * (n : Int) ≤ 10000000 → sumI f n i a = a + exS f n i
  | 0, i, a, h, a0, a1 => by
    rw [sumI, exS]
    omega
  | n + 1, i, a, h, a0, a1 => by
    have b := h i (by omega) (by omega)
    rw [sumI, exS, wI_id (z := a + f i) ⟨by omega, by omega⟩, sumI_x f n (i + 1) (a + f i) (fun j j0 j1 => h j (by omega) (by omega)) (by omega) (by omega)]
    omega
def sm6 (g : Int → Int) : Int := sumI (fun k => g (36 + k)) 6 0 0
def bd6 (g : Int → Int) : Prop := ∀ k, 0 ≤ k → k < 6 → 0 ≤ g (36 + k) ∧ g (36 + k) < 1000000
theorem sm6_x {g : Int → Int} (h : ∀ k, 0 ≤ k → k < 6 → 0 ≤ g (36 + k) ∧ g (36 + k) ≤ 1000000) : sm6 g = g 36 + g 37 + g 38 + g 39 + g 40 + g 41 := by
  unfold sm6
  rw [sumI_x (fun k => g (36 + k)) 6 0 0 (fun j j0 j1 => h j (by omega) (by omega)) (by decide) (by decide)]
  show 0 + (g 36 + (g 37 + (g 38 + (g 39 + (g 40 + (g 41 + 0)))))) = _
  omega
/-- a session is closed: the cells of a desk -/
def fn1 (g : Int → Int) (r : Row) : Int → Int :=
  up1 (in1 (in1 (in1 (up1 (up1 (up1 (up1 (up1 (up1 (up1 g (84 + 7 * Int.tmod (sm6 g) 40 + 0) (r 0)) (84 + 7 * Int.tmod (sm6 g) 40 + 1) (r 1)) (84 + 7 * Int.tmod (sm6 g) 40 + 2) (r 2)) (84 + 7 * Int.tmod (sm6 g) 40 + 3) (r 3)) (84 + 7 * Int.tmod (sm6 g) 40 + 4) (r 4)) (84 + 7 * Int.tmod (sm6 g) 40 + 5) (r 5)) (84 + 7 * Int.tmod (sm6 g) 40 + 6) (r 6)) (36 + r 0) 1) (42 + r 0) (r 3)) (48 + r 0) (r 4)) (54 + r 0) (max (wI (r 2 - r 1)) (g (54 + r 0)))
def fiW (w : WS) (g : Int → Int) : Prop := w.1 5 = sm6 g ∧ (∀ q c, 0 ≤ q → q < 40 → q < sm6 g → 0 ≤ c → c < 7 → wG w 3 q c = g (84 + 7 * q + c) - (if c = 6 then 1 else 0)) ∧ ∀ k, 0 ≤ k → k < 6 → wG w 5 k 4 = g (36 + k) ∧ wG w 5 k 5 = g (42 + k) ∧ wG w 5 k 6 = g (48 + k) ∧ wG w 5 k 7 = g (54 + k)
theorem fn1_m {g : Int → Int} {r : Row} {q c : Int} (h : 0 ≤ sm6 g) (hr : 0 ≤ r 0 ∧ r 0 < 6) (hq : 0 ≤ q ∧ q < 40) (hc : 0 ≤ c ∧ c < 7) : fn1 g r (84 + 7 * q + c) = if q = Int.tmod (sm6 g) 40 then r c else g (84 + 7 * q + c) := by
  have t := tm40 h
  unfold fn1
  generalize Int.tmod (sm6 g) 40 = p at t
  rw [up1_ne (by omega), in1_ne (by omega), in1_ne (by omega), in1_ne (by omega)]
  by_cases e : q = p
  · subst e
    rw [if_pos rfl]
    have : c = 0 ∨ c = 1 ∨ c = 2 ∨ c = 3 ∨ c = 4 ∨ c = 5 ∨ c = 6 := by omega
    rcases this with rfl | rfl | rfl | rfl | rfl | rfl | rfl
    · rw [up1_ne (by omega), up1_ne (by omega), up1_ne (by omega), up1_ne (by omega), up1_ne (by omega), up1_ne (by omega), up1_eq]
    · rw [up1_ne (by omega), up1_ne (by omega), up1_ne (by omega), up1_ne (by omega), up1_ne (by omega), up1_eq]
    · rw [up1_ne (by omega), up1_ne (by omega), up1_ne (by omega), up1_ne (by omega), up1_eq]
    · rw [up1_ne (by omega), up1_ne (by omega), up1_ne (by omega), up1_eq]
    · rw [up1_ne (by omega), up1_ne (by omega), up1_eq]
    · rw [up1_ne (by omega), up1_eq]
    · rw [up1_eq]
  · rw [if_neg e, up1_ne (by omega), up1_ne (by omega), up1_ne (by omega), up1_ne (by omega), up1_ne (by omega), up1_ne (by omega), up1_ne (by omega)]
theorem fn1_k {g : Int → Int} {r : Row} {k : Int} (h : 0 ≤ sm6 g) (hr : 0 ≤ r 0 ∧ r 0 < 6) (hk : 0 ≤ k ∧ k < 6) : fn1 g r (36 + k) = (if k = r 0 then wI (g (36 + k) + 1) else g (36 + k)) ∧ fn1 g r (42 + k) = (if k = r 0 then wI (g (42 + k) + r 3) else g (42 + k)) ∧ fn1 g r (48 + k) = (if k = r 0 then wI (g (48 + k) + r 4) else g (48 + k)) ∧ fn1 g r (54 + k) = (if k = r 0 then max (wI (r 2 - r 1)) (g (54 + k)) else g (54 + k)) := by
  have t := tm40 h
  unfold fn1
  generalize Int.tmod (sm6 g) 40 = p at t
  by_cases e : k = r 0
  · rw [if_pos e, if_pos e, if_pos e, if_pos e, e]
    refine ⟨?_, ?_, ?_, ?_⟩
    · rw [up1_ne (by omega), in1_ne (by omega), in1_ne (by omega)]
      unfold in1
      rw [up1_eq, up1_ne (by omega), up1_ne (by omega), up1_ne (by omega), up1_ne (by omega), up1_ne (by omega), up1_ne (by omega), up1_ne (by omega)]
    · rw [up1_ne (by omega), in1_ne (by omega)]
      unfold in1
      rw [up1_eq, up1_ne (by omega), up1_ne (by omega), up1_ne (by omega), up1_ne (by omega), up1_ne (by omega), up1_ne (by omega), up1_ne (by omega), up1_ne (by omega)]
    · rw [up1_ne (by omega)]
      unfold in1
      rw [up1_eq, up1_ne (by omega), up1_ne (by omega), up1_ne (by omega), up1_ne (by omega), up1_ne (by omega), up1_ne (by omega), up1_ne (by omega), up1_ne (by omega), up1_ne (by omega)]
    · rw [up1_eq]
  · rw [if_neg e, if_neg e, if_neg e, if_neg e]
    refine ⟨?_, ?_, ?_, ?_⟩
    all_goals rw [up1_ne (by omega), in1_ne (by omega), in1_ne (by omega), in1_ne (by omega), up1_ne (by omega), up1_ne (by omega), up1_ne (by omega), up1_ne (by omega), up1_ne (by omega), up1_ne (by omega), up1_ne (by omega)]
theorem fn1_s {g : Int → Int} {r : Row} (h : bd6 g) (hr : 0 ≤ r 0 ∧ r 0 < 6) : sm6 (fn1 g r) = sm6 g + 1 ∧ 0 ≤ sm6 g ∧ sm6 g < 6000000 := by
  have e := sm6_x (g := g) (fun k k0 k1 => ⟨(h k k0 k1).1, by have := (h k k0 k1).2; omega⟩)
  have b0 := h 0 (by decide) (by decide)
  have b1 := h 1 (by decide) (by decide)
  have b2 := h 2 (by decide) (by decide)
  have b3 := h 3 (by decide) (by decide)
  have b4 := h 4 (by decide) (by decide)
  have b5 := h 5 (by decide) (by decide)
  have b0 : 0 ≤ g 36 ∧ g 36 < 1000000 := b0
  have b1 : 0 ≤ g 37 ∧ g 37 < 1000000 := b1
  have b2 : 0 ≤ g 38 ∧ g 38 < 1000000 := b2
  have b3 : 0 ≤ g 39 ∧ g 39 < 1000000 := b3
  have b4 : 0 ≤ g 40 ∧ g 40 < 1000000 := b4
  have b5 : 0 ≤ g 41 ∧ g 41 < 1000000 := b5
  have s0 : 0 ≤ sm6 g := by omega
  have K : ∀ k, 0 ≤ k → k < 6 → fn1 g r (36 + k) = g (36 + k) + (if k = r 0 then 1 else 0) := fun k k0 k1 => by
    rw [(fn1_k s0 hr ⟨k0, k1⟩).1]
    have := h k k0 k1
    by_cases c : k = r 0
    · rw [if_pos c, if_pos c, wI_id (z := g (36 + k) + 1) ⟨by omega, by omega⟩]
    · rw [if_neg c, if_neg c]
      omega
  have e' := sm6_x (g := fn1 g r) (fun k k0 k1 => by
    have := h k k0 k1
    rw [K k k0 k1]
    by_cases c : k = r 0
    · rw [if_pos c]; omega
    · rw [if_neg c]; omega)
  have k0 : fn1 g r 36 = g 36 + (if 0 = r 0 then 1 else 0) := K 0 (by decide) (by decide)
  have k1 : fn1 g r 37 = g 37 + (if 1 = r 0 then 1 else 0) := K 1 (by decide) (by decide)
  have k2 : fn1 g r 38 = g 38 + (if 2 = r 0 then 1 else 0) := K 2 (by decide) (by decide)
  have k3 : fn1 g r 39 = g 39 + (if 3 = r 0 then 1 else 0) := K 3 (by decide) (by decide)
  have k4 : fn1 g r 40 = g 40 + (if 4 = r 0 then 1 else 0) := K 4 (by decide) (by decide)
  have k5 : fn1 g r 41 = g 41 + (if 5 = r 0 then 1 else 0) := K 5 (by decide) (by decide)
  have : r 0 = 0 ∨ r 0 = 1 ∨ r 0 = 2 ∨ r 0 = 3 ∨ r 0 = 4 ∨ r 0 = 5 := by omega
  refine ⟨?_, s0, by omega⟩
  rw [e', e, k0, k1, k2, k3, k4, k5]
  rcases this with q | q | q | q | q | q <;> rw [q] <;> simp <;> omega
theorem cr3_at {w : WS} {q i r c : Int} (hq : 0 ≤ q ∧ q < 40) (hr : 0 ≤ r ∧ r < 40) (hc : 0 ≤ c ∧ c < 7) : wG (wCR w q i) 3 r c = if r = q then wG w 1 i c else wG w 3 r c := by
  show tg 40 7 (trow 40 7 161 7 (w.2 3).2 (w.2 1).2 q i) r c = if r = q then tg 161 7 (w.2 1).2 i c else tg 40 7 (w.2 3).2 r c
  generalize (w.2 3).2 = g
  generalize (w.2 1).2 = f
  show (if 0 ≤ r ∧ r < 40 ∧ 0 ≤ c ∧ c < 7 then trow 40 7 161 7 g f q i (r * 7 + c).toNat else 0) = if r = q then tg 161 7 f i c else (if 0 ≤ r ∧ r < 40 ∧ 0 ≤ c ∧ c < 7 then g (r * 7 + c).toNat else 0)
  rw [if_pos (show 0 ≤ r ∧ r < 40 ∧ 0 ≤ c ∧ c < 7 by omega), if_pos (show 0 ≤ r ∧ r < 40 ∧ 0 ≤ c ∧ c < 7 by omega)]
  unfold trow
  by_cases e : r = q
  · rw [if_pos e, if_pos (by omega)]
    congr 1
    omega
  · rw [if_neg e, if_neg (by omega)]
theorem a5_at {w : WS} {r c m r' c' : Int} (hr : 0 ≤ r ∧ r < 6) (hc : 0 ≤ c ∧ c < 8) : wG (wA w 5 r c m) 5 r' c' = if r' = r ∧ c' = c then wI (wG w 5 r' c' + m) else wG w 5 r' c' := by
  unfold wA
  rw [p5_at hr hc]
  by_cases e : r' = r ∧ c' = c
  · rw [if_pos e, if_pos e, e.1, e.2]
  · rw [if_neg e, if_neg e]
theorem p5_cg {w w' : WS} {r c v v' : Int} (e : w'.2 5 = w.2 5) (ev : v' = v) : (wP w' 5 r c v').2 5 = (wP w 5 r c v).2 5 := by
  subst ev
  show ((w'.2 5).1, ts (rmT 5) (wdT 5) (w'.2 5).2 r c v') = ((w.2 5).1, ts (rmT 5) (wdT 5) (w.2 5).2 r c v')
  rw [e]
theorem g5_cg {w w' : WS} {r c : Int} (e : w'.2 5 = w.2 5) : wG w' 5 r c = wG w 5 r c := by
  unfold wG
  rw [e]
theorem a5_cg {w w' : WS} {r c m : Int} (e : w'.2 5 = w.2 5) : (wA w' 5 r c m).2 5 = (wA w 5 r c m).2 5 := p5_cg e (by rw [g5_cg e])
theorem dr_5 {w : WS} {i v : Int} : (wDr (wFd w 5 v) 1 i).2 5 = w.2 5 := rfl
theorem cr_5 {w : WS} {q q' i : Int} : (wCR (wRe w 3 q) q' i).2 5 = w.2 5 := rfl
/-- what closing adds to a key's counts -/
def fin5 (w : WS) (i : Int) : WS := wP (wA (wA (wA w 5 (wG w 1 i 0) 4 1) 5 (wG w 1 i 0) 5 (wG w 1 i 3)) 5 (wG w 1 i 0) 6 (wG w 1 i 4)) 5 (wG w 1 i 0) 7 (max (wG (wA (wA (wA w 5 (wG w 1 i 0) 4 1) 5 (wG w 1 i 0) 5 (wG w 1 i 3)) 5 (wG w 1 i 0) 6 (wG w 1 i 4)) 5 (wG w 1 i 0) 7) (wI (wG w 1 i 2 - wG w 1 i 1)))
theorem fin_5 {w : WS} {i : Int} : (wFin w i).2 5 = (fin5 w i).2 5 := by
  unfold wFin fin5
  dsimp only
  have e3 := a5_cg (r := wG w 1 i 0) (c := 6) (m := wG w 1 i 4) (a5_cg (r := wG w 1 i 0) (c := 5) (m := wG w 1 i 3) (a5_cg (r := wG w 1 i 0) (c := 4) (m := 1) (cr_5 (w := w) (q := Int.tmod (w.1 5) 40) (q' := Int.tmod (w.1 5) 40) (i := i))))
  exact dr_5.trans (p5_cg e3 (by rw [g5_cg e3]))
theorem fin_g {w : WS} {i k c : Int} : wG (wFin w i) 5 k c = wG (fin5 w i) 5 k c := g5_cg fin_5
theorem fin_f {w : WS} {i : Int} : (wFin w i).1 5 = wI (w.1 5 + 1) := rfl
theorem fin_3 {w : WS} {i : Int} : (wFin w i).2 3 = (wCR (wRe w 3 (Int.tmod (w.1 5) 40)) (Int.tmod (w.1 5) 40) i).2 3 := rfl
theorem fiW.fin {w : WS} {g : Int → Int} {i : Int} {r : Row} (h : fiW w g) (hr : rwW w i r) (hb : bd6 g) (h0 : 0 ≤ r 0 ∧ r 0 < 6) : fiW (wFin w i) (fn1 g r) := by
  obtain ⟨a, b, c⟩ := h
  obtain ⟨s1, s0, sx⟩ := fn1_s hb h0
  have t := tm40 s0
  have e0 := hr.1 0 (by decide) (by decide)
  have e1 := hr.1 1 (by decide) (by decide)
  have e2 := hr.1 2 (by decide) (by decide)
  have e3 := hr.1 3 (by decide) (by decide)
  have e4 := hr.1 4 (by decide) (by decide)
  refine ⟨?_, fun q j q0 q1 q2 j0 j1 => ?_, fun k k0 k1 => ?_⟩
  · rw [fin_f, s1, a, wI_id (z := sm6 g + 1) ⟨by omega, by omega⟩]
  · rw [s1] at q2
    rw [fn1_m s0 h0 ⟨q0, q1⟩ ⟨j0, j1⟩]
    have e33 : wG (wFin w i) 3 q j = wG (wCR (wRe w 3 (Int.tmod (w.1 5) 40)) (Int.tmod (w.1 5) 40) i) 3 q j := by
      unfold wG
      rw [fin_3]
    rw [e33, a, cr3_at ⟨t.1, t.2.1⟩ ⟨q0, q1⟩ ⟨j0, j1⟩]
    have f1 : wG (wRe w 3 (Int.tmod (sm6 g) 40)) 1 i j = wG w 1 i j := rfl
    have f3 : wG (wRe w 3 (Int.tmod (sm6 g) 40)) 3 q j = wG w 3 q j := rfl
    rw [f1, f3]
    by_cases e : q = Int.tmod (sm6 g) 40
    · rw [if_pos e, if_pos e]
      by_cases d : j = 6
      · subst d
        rw [if_pos rfl]
        exact hr.2
      · rw [if_neg d, hr.1 j j0 (by omega)]
        omega
    · rw [if_neg e, if_neg e]
      exact b q j q0 q1 (by omega) j0 j1
  · obtain ⟨c4, c5, c6, c7⟩ := c k k0 k1
    obtain ⟨f4, f5, f6, f7⟩ := fn1_k s0 h0 ⟨k0, k1⟩ (r := r)
    have key : ∀ j, wG (wFin w i) 5 k j = wG (fin5 w i) 5 k j := fun j => fin_g
    have m7 : ∀ x y : Int, wG (wA (wA (wA w 5 (r 0) 4 1) 5 (r 0) 5 x) 5 (r 0) 6 y) 5 (r 0) 7 = wG w 5 (r 0) 7 := fun x y => by
      rw [a5_at h0 (by decide), if_neg (fun z => absurd z.2 (by decide)), a5_at h0 (by decide), if_neg (fun z => absurd z.2 (by decide)), a5_at h0 (by decide), if_neg (fun z => absurd z.2 (by decide))]
    rw [key, key, key, key]
    unfold fin5
    rw [e0, e1, e2, e3, e4, m7, f4, f5, f6, f7]
    refine ⟨?_, ?_, ?_, ?_⟩
    · rw [p5_at h0 (by decide), if_neg (fun z => absurd z.2 (by decide)), a5_at h0 (by decide), if_neg (fun z => absurd z.2 (by decide)), a5_at h0 (by decide), if_neg (fun z => absurd z.2 (by decide)), a5_at h0 (by decide), c4]
      by_cases e : k = r 0
      · rw [if_pos ⟨e, rfl⟩, if_pos e]
      · rw [if_neg (fun z => e z.1), if_neg e]
    · rw [p5_at h0 (by decide), if_neg (fun z => absurd z.2 (by decide)), a5_at h0 (by decide), if_neg (fun z => absurd z.2 (by decide)), a5_at h0 (by decide), show wG (wA w 5 (r 0) 4 1) 5 k 5 = wG w 5 k 5 by rw [a5_at h0 (by decide), if_neg (fun z => absurd z.2 (by decide))], c5]
      by_cases e : k = r 0
      · rw [if_pos ⟨e, rfl⟩, if_pos e]
      · rw [if_neg (fun z => e z.1), if_neg e]
    · rw [p5_at h0 (by decide), if_neg (fun z => absurd z.2 (by decide)), a5_at h0 (by decide), show wG (wA (wA w 5 (r 0) 4 1) 5 (r 0) 5 (r 3)) 5 k 6 = wG w 5 k 6 by rw [a5_at h0 (by decide), if_neg (fun z => absurd z.2 (by decide)), a5_at h0 (by decide), if_neg (fun z => absurd z.2 (by decide))], c6]
      by_cases e : k = r 0
      · rw [if_pos ⟨e, rfl⟩, if_pos e]
      · rw [if_neg (fun z => e z.1), if_neg e]
    · rw [p5_at h0 (by decide)]
      by_cases e : k = r 0
      · rw [if_pos ⟨e, rfl⟩, if_pos e, ← e, c7]
        omega
      · rw [if_neg (fun z => e z.1), if_neg e, a5_at h0 (by decide), if_neg (fun z => absurd z.2 (by decide)), a5_at h0 (by decide), if_neg (fun z => absurd z.2 (by decide)), a5_at h0 (by decide), if_neg (fun z => absurd z.2 (by decide)), c7]
end
-- 989651.oa
section
/-! ===== the model's sessions as a list, its other cells ===== -/
def zB (c : Int) : Prop := c ≠ 5 ∧ (c < 364 ∨ 1484 ≤ c)
/-- the desk's cells but for its sessions are g's -/
def sB (d : Int) (s : MS) (g : Int → Int) : Prop := ∀ c, 0 ≤ c → zB c → mg s (d * 2804 + c) = g c
theorem sB.put {d : Int} {s : MS} {g : Int → Int} (h : sB d s g) (hd : 0 ≤ d) {x a v : Int} (hx : x = d * 2804 + a) (ha : 0 ≤ a) : sB d (mP s x v) (up1 g a v) := by
  subst hx
  intro c c0 hc
  by_cases e : c = a
  · subst e
    rw [mg_eq, up1_eq]
  · rw [mg_ne (by omega) (by omega) (by omega), up1_ne e]
    exact h c c0 hc
theorem sB.inc {d : Int} {s : MS} {g : Int → Int} (h : sB d s g) (hd : 0 ≤ d) {x a v : Int} (hx : x = d * 2804 + a) (ha : 0 ≤ a) (hz : zB a) : sB d (mInc s x v) (in1 g a v) := by
  unfold in1
  rw [← h a ha hz]
  subst hx
  exact h.put hd rfl ha
theorem sB.same {d : Int} {s s' : MS} {g : Int → Int} (h : sB d s g) (e : ∀ c, 0 ≤ c → zB c → mg s' (d * 2804 + c) = mg s (d * 2804 + c)) : sB d s' g := fun c c0 hc => (e c c0 hc).trans (h c c0 hc)
theorem sB.cong {d : Int} {s s' : MS} {g : Int → Int} (h : sB d s g) (e : s'.2 3 = s.2 3) : sB d s' g := h.same (fun _ _ _ => mg_cong e _)
theorem sB.ro {d : Int} {s : MS} {g : Int → Int} (h : sB d s g) (hd : 0 ≤ d) {i c v : Int} (hi : 0 ≤ i ∧ i < 160) (hc : 0 ≤ c ∧ c < 7) : sB d (mP s (d * 2804 + 364 + 7 * i + c) v) g := h.same (fun q q0 hq => by
  unfold zB at hq
  exact mg_ne (by omega) (by omega) (by omega))
def rwM (d : Int) (s : MS) (i : Int) (r : Row) : Prop := ∀ c, 0 ≤ c → c < 7 → mg s (d * 2804 + 364 + 7 * i + c) = r c
def lsM (d : Int) (s : MS) (l : List Row) : Prop := (mg s (d * 2804 + 5) = l.length ∧ l.length ≤ 160) ∧ ∀ (i : Nat) (r : Row), l[i]? = some r → rwM d s i r
theorem rwM.of {d d' : Int} {s s' : MS} {i i' : Int} {r : Row} (h : rwM d s i r) (e : ∀ c, 0 ≤ c → c < 7 → mg s' (d' * 2804 + 364 + 7 * i' + c) = mg s (d * 2804 + 364 + 7 * i + c)) : rwM d' s' i' r := fun c c0 c1 => (e c c0 c1).trans (h c c0 c1)
theorem lsM.of {d d' : Int} {s s' : MS} {l : List Row} (h : lsM d s l) (e5 : mg s' (d' * 2804 + 5) = mg s (d * 2804 + 5)) (e : ∀ q, 364 ≤ q → q < 1484 → mg s' (d' * 2804 + q) = mg s (d * 2804 + q)) : lsM d' s' l := by
  refine ⟨⟨e5.trans h.1.1, h.1.2⟩, fun i r hi => (h.2 i r hi).of (fun c c0 c1 => ?_)⟩
  have hl := lt_some hi
  have := h.1.2
  have a := e (364 + 7 * (i : Int) + c) (by omega) (by omega)
  rw [show d' * 2804 + 364 + 7 * (i : Int) + c = d' * 2804 + (364 + 7 * (i : Int) + c) by omega, show d * 2804 + 364 + 7 * (i : Int) + c = d * 2804 + (364 + 7 * (i : Int) + c) by omega]
  exact a
theorem lsM.cong {d : Int} {s s' : MS} {l : List Row} (h : lsM d s l) (e : s'.2 3 = s.2 3) : lsM d s' l := h.of (mg_cong e _) (fun _ _ _ => mg_cong e _)
theorem lsM.ne {d : Int} {s : MS} {l : List Row} (h : lsM d s l) (hd : 0 ≤ d) {a v : Int} (ha : 0 ≤ a) (hz : zB a) : lsM d (mP s (d * 2804 + a) v) l := by
  unfold zB at hz
  exact h.of (mg_ne (by omega) (by omega) (by omega)) (fun q q0 q1 => mg_ne (by omega) (by omega) (by omega))
theorem lsM.put {d : Int} {s : MS} {l : List Row} {i : Nat} {r : Row} {c v : Int} (h : lsM d s l) (hd : 0 ≤ d) (hi : l[i]? = some r) (hc : 0 ≤ c ∧ c < 7) : lsM d (mP s (d * 2804 + 364 + 7 * (i : Int) + c) v) (l.set i (up1 r c v)) := by
  have hl := lt_some hi
  have hn := h.1.2
  refine ⟨⟨by rw [mg_ne (by omega) (by omega) (by omega), List.length_set]; exact h.1.1, by rw [List.length_set]; exact hn⟩, fun j q hj => ?_⟩
  rw [List.getElem?_set] at hj
  by_cases e : i = j
  · subst e
    rw [if_pos rfl, if_pos hl] at hj
    have hr := h.2 i r hi
    cases hj
    intro k k0 k1
    by_cases ek : k = c
    · subst ek
      rw [mg_eq, up1_eq]
    · rw [mg_ne (by omega) (by omega) (by omega), up1_ne ek]
      exact hr k k0 k1
  · rw [if_neg e] at hj
    have hj2 := lt_some hj
    exact (h.2 j q hj).of (fun k k0 k1 => mg_ne (by omega) (by omega) (by omega))
theorem lsM.at {d : Int} {s : MS} {l : List Row} {i : Nat} {r : Row} (h : lsM d s l) (hi : l[i]? = some r) {c : Int} (c0 : 0 ≤ c) (c1 : c < 7) : mg s (d * 2804 + 364 + 7 * (i : Int) + c) = r c := h.2 i r hi c c0 c1
/-! a message is sent -/
def sdG (a : Int) (r : Row) : Nat → Int → (Int → Int) → Int → Int
  | 0, _, g => g
  | m + 1, w, g => sdG a r m (w + 1) (up1 g (a + 1 + w) (r w))
theorem sdL_B {d a : Int} {l : List Row} {i : Nat} {r : Row} (hd : 0 ≤ d) (ha : 1484 ≤ a ∧ a < 1844) (hi : l[i]? = some r) : ∀ (m : Nat) (w : Int) (s : MS) (g : Int → Int), 0 ≤ w → w + m ≤ 5 → lsM d s l → sB d s g → lsM d (sdL (d * 2804 + a) d i m w s) l ∧ sB d (sdL (d * 2804 + a) d i m w s) (sdG a r m w g)
  | 0, _, _, _, _, _, hL, hB => ⟨hL, hB⟩
  | m + 1, w, s, g, h0, h1, hL, hB => by
    rw [sdL, sdG, hL.at hi h0 (by omega), show d * 2804 + a + 1 + w = d * 2804 + (a + 1 + w) by omega]
    exact sdL_B hd ha hi m (w + 1) _ _ (by omega) (by omega) (hL.ne hd (by omega) (by unfold zB; omega)) (hB.put hd rfl (by omega))
theorem sdG5 {a kd : Int} {r : Row} {g : Int → Int} : sdG a r 5 0 (up1 g a kd) = up1 (up1 (up1 (up1 (up1 (up1 g (a + 0) kd) (a + 1) (r 0)) (a + 2) (r 1)) (a + 3) (r 2)) (a + 4) (r 3)) (a + 5) (r 4) := by
  show up1 (up1 (up1 (up1 (up1 (up1 g a kd) (a + 1 + 0) (r 0)) (a + 1 + (0 + 1)) (r (0 + 1))) (a + 1 + (0 + 1 + 1)) (r (0 + 1 + 1))) (a + 1 + (0 + 1 + 1 + 1)) (r (0 + 1 + 1 + 1))) (a + 1 + (0 + 1 + 1 + 1 + 1)) (r (0 + 1 + 1 + 1 + 1)) = _
  rw [show (0 : Int) + 1 = 1 from rfl, show (1 : Int) + 1 = 2 from rfl, show (2 : Int) + 1 = 3 from rfl, show (3 : Int) + 1 = 4 from rfl, show a + 1 + 0 = a + 1 by omega, show a + 1 + 1 = a + 2 by omega, show a + 1 + 2 = a + 3 by omega, show a + 1 + 3 = a + 4 by omega, show a + 1 + 4 = a + 5 by omega, show a + 0 = a by omega]
theorem snM {d kd : Int} {s : MS} {l : List Row} {g : Int → Int} {i : Nat} {r : Row} (hL : lsM d s l) (hB : sB d s g) (hd : 0 ≤ d) (hi : l[i]? = some r) (h7 : 0 ≤ g 7) (hk : 0 ≤ kd ∧ kd < 4) (h0 : 0 ≤ r 0 ∧ r 0 < 6) : lsM d (mSend s d kd i) (l.set i (up1 r 6 (if kd = 3 then 0 else 1 + kd))) ∧ sB d (mSend s d kd i) (sn1 g kd r) := by
  have t := tm60 h7
  have e7 := hB 7 (by decide) (by unfold zB; omega)
  have hl := lt_some hi
  have hn := hL.1.2
  have key : lsM d (mSend4 s d kd i) l ∧ sB d (mSend4 s d kd i) (in1 (in1 (sdG (1484 + 6 * Int.tmod (g 7) 60) r 5 0 (up1 g (1484 + 6 * Int.tmod (g 7) 60) kd)) 7 1) (32 + kd) 1) := by
    unfold mSend4
    rw [e7, show d * 2804 + 1484 + 6 * Int.tmod (g 7) 60 = d * 2804 + (1484 + 6 * Int.tmod (g 7) 60) by omega]
    generalize Int.tmod (g 7) 60 = q at t
    obtain ⟨a, b⟩ := sdL_B (a := 1484 + 6 * q) hd (by omega) hi 5 0 (mP s (d * 2804 + (1484 + 6 * q)) kd) (up1 g (1484 + 6 * q) kd) (by decide) (by decide) (hL.ne hd (by omega) (by unfold zB; omega)) (hB.put hd rfl (by omega))
    exact ⟨(a.ne hd (by decide) (by unfold zB; omega)).ne hd (by omega) (by unfold zB; omega), (b.inc hd rfl (by decide) (by unfold zB; omega)).inc hd rfl (by omega) (by unfold zB; omega)⟩
  obtain ⟨a, b⟩ := key
  have e0 := a.at hi (c := 0) (by decide) (by decide)
  unfold mSend
  dsimp only
  rw [e0]
  refine ⟨(a.ne hd (by omega) (by unfold zB; omega)).put hd hi (by decide), ?_⟩
  refine sB.ro ?_ hd (by omega) (by decide)
  have := b.inc (x := d * 2804 + (60 + 4 * r 0 + kd)) (a := 60 + 4 * r 0 + kd) (v := 1) hd rfl (by omega) (by unfold zB; omega)
  rw [sdG5] at this
  exact this
end
-- 989652.ob
section
/-! ===== rows as they should be, in their order; ripe, over, due ===== -/
def gR (r : Row) : Prop := (0 ≤ r 0 ∧ r 0 < 6) ∧ (0 ≤ r 1 ∧ r 1 ≤ r 2 ∧ r 2 ≤ 9999) ∧ (0 ≤ r 6 ∧ r 6 ≤ 3) ∧ xB (r 3) ∧ xB (r 4) ∧ xB (r 5)
def bef (ga : Int) (a b : Row) : Prop := a 0 < b 0 ∨ (a 0 = b 0 ∧ a 2 + ga < b 1)
def gdL (ga : Int) (l : List Row) : Prop := (∀ r, r ∈ l → gR r) ∧ l.Pairwise (bef ga)
def ripB (ga p : Int) : Row → Bool := fun r => decide (r 2 + ga < p)
def ovB (ga la p : Int) : Row → Bool := fun r => decide (r 2 + ga + la < p)
def newB (ga be p : Int) : Row → Bool := fun r => decide (r 2 + ga < p ∧ ¬ r 2 + ga < be)
def dueB (ga la be p : Int) : Row → Bool := fun r => decide (r 2 + ga < p ∧ ¬ (r 2 + ga < be ∧ ¬ r 2 + ga + la < p))
theorem gdL.tl {ga : Int} {a : Row} {l : List Row} (h : gdL ga (a :: l)) : gdL ga l := ⟨fun r hr => h.1 r (List.mem_cons_of_mem a hr), (List.pairwise_cons.mp h.2).2⟩
theorem bef_tu {ga : Int} (g0 : 0 ≤ ga) {a b : Row} (ha : gR a) (hb : gR b) (h : bef ga a b) : tuR a ≠ tuR b := by
  obtain ⟨⟨a0, a1⟩, ⟨a2, a3, a4⟩, -⟩ := ha
  obtain ⟨⟨b0, b1⟩, ⟨b2, b3, b4⟩, -⟩ := hb
  unfold tuR
  rcases h with h | h <;> omega
theorem gdL.dt {ga : Int} (g0 : 0 ≤ ga) : ∀ {l : List Row}, gdL ga l → dtR l
  | [], _ => List.Pairwise.nil
  | a :: l, h => by
    obtain ⟨h1, h2⟩ := List.pairwise_cons.mp h.2
    exact List.pairwise_cons.mpr ⟨fun x hx => bef_tu g0 (h.1 a List.mem_cons_self) (h.1 x (List.mem_cons_of_mem a hx)) (h1 x hx), gdL.dt g0 h.tl⟩
/-- rows cut and put anew, where they stand stays -/
theorem gdL.cut {ga : Int} {F : Row → Option Row} : ∀ {l : List Row}, gdL ga l → (∀ x y, x ∈ l → F x = some y → gR y ∧ y 0 = x 0 ∧ y 1 = x 1 ∧ y 2 = x 2) → gdL ga (l.filterMap F)
  | [], _, _ => ⟨fun r hr => absurd hr List.not_mem_nil, List.Pairwise.nil⟩
  | a :: l, h, hF => by
    obtain ⟨h1, h2⟩ := List.pairwise_cons.mp h.2
    have ih := gdL.cut h.tl (fun x y hx e => hF x y (List.mem_cons_of_mem a hx) e)
    cases e : F a with
    | none => rw [List.filterMap_cons_none e]; exact ih
    | some b =>
      rw [List.filterMap_cons_some e]
      obtain ⟨q0, q1, q2, q3⟩ := hF a b List.mem_cons_self e
      refine ⟨fun r hr => ?_, List.pairwise_cons.mpr ⟨fun y hy => ?_, ih.2⟩⟩
      · rcases List.mem_cons.mp hr with hr | hr
        · rw [hr]; exact q0
        · exact ih.1 r hr
      · obtain ⟨x, hx, ex⟩ := List.mem_filterMap.mp hy
        obtain ⟨-, p1, p2, p3⟩ := hF x y (List.mem_cons_of_mem a hx) ex
        have := h1 x hx
        unfold bef at this ⊢
        rw [q1, q3, p1, p2]
        exact this
theorem up1_6 {r : Row} {v : Int} : up1 r 6 v 0 = r 0 ∧ up1 r 6 v 1 = r 1 ∧ up1 r 6 v 2 = r 2 ∧ up1 r 6 v 3 = r 3 ∧ up1 r 6 v 4 = r 4 ∧ up1 r 6 v 5 = r 5 ∧ up1 r 6 v 6 = v :=
  ⟨up1_ne (by decide), up1_ne (by decide), up1_ne (by decide), up1_ne (by decide), up1_ne (by decide), up1_ne (by decide), up1_eq⟩
theorem up1_tu {r : Row} {v : Int} : tuR (up1 r 6 v) = tuR r := by
  unfold tuR
  rw [up1_6.1, up1_6.2.2.1]
theorem up1_up1 {r : Row} {c v w : Int} : up1 (up1 r c v) c w = up1 r c w := by
  funext x
  by_cases e : x = c
  · subst e; rw [up1_eq, up1_eq]
  · rw [up1_ne e, up1_ne e, up1_ne e]
theorem gR.up {r : Row} {v : Int} (h : gR r) (hv : 0 ≤ v ∧ v ≤ 3) : gR (up1 r 6 v) := by
  obtain ⟨e0, e1, e2, e3, e4, e5, e6⟩ := up1_6 (r := r) (v := v)
  unfold gR at h ⊢
  rw [e0, e1, e2, e3, e4, e5, e6]
  exact ⟨h.1, h.2.1, hv, h.2.2.2⟩
theorem gR.tu {r : Row} (h : gR r) : 0 ≤ tuR r ∧ tuR r < 60000 := by
  obtain ⟨⟨a0, a1⟩, ⟨a2, a3, a4⟩, -⟩ := h
  unfold tuR
  omega
/-! who is first: one behind another -/
theorem lst_min (P : Row → Bool) (T : Int) : ∀ (l : List Row), (∀ x, x ∈ l → P x = true → tuR x ≤ T) ∨ ∃ r, r ∈ l ∧ P r = true ∧ T < tuR r ∧ ∀ x, x ∈ l → P x = true → T < tuR x → tuR r ≤ tuR x
  | [] => Or.inl (fun x hx => absurd hx List.not_mem_nil)
  | a :: l => by
    by_cases c : P a = true ∧ T < tuR a
    · rcases lst_min P T l with h | ⟨r, h1, h2, h3, h4⟩
      · refine Or.inr ⟨a, List.mem_cons_self, c.1, c.2, fun x hx hP ht => ?_⟩
        rcases List.mem_cons.mp hx with e | e
        · rw [e]; exact Int.le_refl _
        · have := h x e hP; omega
      · by_cases q : tuR a ≤ tuR r
        · refine Or.inr ⟨a, List.mem_cons_self, c.1, c.2, fun x hx hP ht => ?_⟩
          rcases List.mem_cons.mp hx with e | e
          · rw [e]; exact Int.le_refl _
          · have := h4 x e hP ht; omega
        · refine Or.inr ⟨r, List.mem_cons_of_mem a h1, h2, h3, fun x hx hP ht => ?_⟩
          rcases List.mem_cons.mp hx with e | e
          · rw [e]; omega
          · exact h4 x e hP ht
    · rcases lst_min P T l with h | ⟨r, h1, h2, h3, h4⟩
      · refine Or.inl (fun x hx hP => ?_)
        rcases List.mem_cons.mp hx with e | e
        · subst e
          by_cases q : T < tuR x
          · exact absurd ⟨hP, q⟩ c
          · omega
        · exact h x e hP
      · refine Or.inr ⟨r, List.mem_cons_of_mem a h1, h2, h3, fun x hx hP ht => ?_⟩
        rcases List.mem_cons.mp hx with e | e
        · subst e; exact absurd ⟨hP, ht⟩ c
        · exact h4 x e hP ht
/-- how many have their turn behind T -/
def ctR (P : Row → Bool) (T : Int) : List Row → Nat
  | [] => 0
  | a :: l => ctR P T l + (if P a = true ∧ T < tuR a then 1 else 0)
theorem ctR_k (P : Row → Bool) (T : Int) : ∀ l : List Row, ctR P T l ≤ l.length
  | [] => Nat.le_refl _
  | a :: l => by
    rw [ctR, List.length_cons]
    have := ctR_k P T l
    split <;> omega
theorem ctR_le (P : Row → Bool) {T T' : Int} (h : T ≤ T') : ∀ l : List Row, ctR P T' l ≤ ctR P T l
  | [] => Nat.le_refl _
  | a :: l => by
    rw [ctR, ctR]
    have := ctR_le P h l
    by_cases c : P a = true ∧ T' < tuR a
    · rw [if_pos c, if_pos ⟨c.1, by omega⟩]; omega
    · rw [if_neg c]; omega
theorem ctR_lt (P : Row → Bool) {T : Int} {r : Row} (hP : P r = true) (h : T < tuR r) : ∀ l : List Row, r ∈ l → ctR P (tuR r) l < ctR P T l
  | [], hr => absurd hr List.not_mem_nil
  | a :: l, hr => by
    rw [ctR, ctR]
    rcases List.mem_cons.mp hr with e | e
    · subst e
      rw [if_neg (fun q => by omega), if_pos ⟨hP, h⟩]
      have := ctR_le P (T := T) (T' := tuR r) (by omega) l
      omega
    · have := ctR_lt P hP h l e
      by_cases c : P a = true ∧ tuR r < tuR a
      · rw [if_pos c, if_pos ⟨c.1, by omega⟩]; omega
      · rw [if_neg c]; omega
theorem chn_ex (P : Row → Bool) (l : List Row) : ∀ (n : Nat) (T : Int), ctR P T l ≤ n → ∃ L, chn P l T L ∧ L.length ≤ n
  | 0, T, h => by
    rcases lst_min P T l with q | ⟨r, h1, h2, h3, h4⟩
    · exact ⟨[], q, Nat.le_refl _⟩
    · have := ctR_lt P h2 h3 l h1
      omega
  | n + 1, T, h => by
    rcases lst_min P T l with q | ⟨r, h1, h2, h3, h4⟩
    · exact ⟨[], q, Nat.zero_le _⟩
    · have := ctR_lt P h2 h3 l h1
      obtain ⟨L, a, b⟩ := chn_ex P l n (tuR r) (by omega)
      exact ⟨r :: L, ⟨⟨h1, h2, h3, h4⟩, a⟩, Nat.succ_le_succ b⟩
/-- a chain looks at the rows behind T alone, and at their turns -/
theorem chn_m {P : Row → Bool} {l l' : List Row} : ∀ (L : List Row) (T : Int), (∀ x, T < tuR x → (x ∈ l' ↔ x ∈ l)) → chn P l T L → chn P l' T L
  | [], T, h, q => fun x hx hP => by
    by_cases c : T < tuR x
    · exact q x ((h x c).mp hx) hP
    · omega
  | r :: L, T, h, q => ⟨⟨(h r q.1.2.2.1).mpr q.1.1, q.1.2.1, q.1.2.2.1, fun x hx hP ht => q.1.2.2.2 x ((h x ht).mp hx) hP ht⟩, chn_m L (tuR r) (fun x hx => h x (by have := q.1.2.2.1; omega)) q.2⟩
end
-- 989653.oc
section
/-! ===== the class: sessions, messages, finals together; who is due ===== -/
theorem sn1_row {g : Int → Int} {kd : Int} {r r' : Row} (h : ∀ c, 0 ≤ c → c < 5 → r' c = r c) : sn1 g kd r' = sn1 g kd r := by
  unfold sn1
  rw [h 0 (by decide) (by decide), h 1 (by decide) (by decide), h 2 (by decide) (by decide), h 3 (by decide) (by decide), h 4 (by decide) (by decide)]
theorem sn1_up {g : Int → Int} {kd v : Int} {r : Row} : sn1 g kd (up1 r 6 v) = sn1 g kd r := sn1_row (fun c _ _ => up1_ne (by omega))
theorem up1_self {r : Row} {c v : Int} (h : r c = v) : up1 r c v = r := by
  rw [← h]
  exact up1_id r c
theorem set_same {l : List Row} {i : Nat} {r : Row} (h : l[i]? = some r) : l.set i r = l := by
  apply List.ext_getElem?
  intro j
  rw [List.getElem?_set]
  by_cases e : i = j
  · subst e
    rw [if_pos rfl, if_pos (lt_some h), h]
  · rw [if_neg e]
theorem set_at {l : List Row} {i : Nat} {r q : Row} (h : l[i]? = some r) : (l.set i q)[i]? = some q := by
  rw [List.getElem?_set, if_pos rfl, if_pos (lt_some h)]
theorem mem_at {l : List Row} {i : Nat} {r : Row} (h : l[i]? = some r) : r ∈ l := List.mem_of_getElem? h
theorem msW.of {w w' : WS} {g : Int → Int} (h : msW w g) (f4 : w'.1 4 = w.1 4) (e2 : w'.2 2 = w.2 2) (e5 : ∀ k c, 0 ≤ c → c < 4 → wG w' 5 k c = wG w 5 k c) : msW w' g := by
  obtain ⟨a, b, c⟩ := h
  refine ⟨f4.trans a, fun q j q0 q1 q2 j0 j1 => ?_, fun k j k0 k1 j0 j1 => (e5 k j j0 j1).trans (c k j k0 k1 j0 j1)⟩
  unfold wG
  rw [e2]
  exact b q j q0 q1 q2 j0 j1
theorem fiW.of {w w' : WS} {g : Int → Int} (h : fiW w g) (f5 : w'.1 5 = w.1 5) (e3 : w'.2 3 = w.2 3) (e5 : ∀ k c, 4 ≤ c → wG w' 5 k c = wG w 5 k c) : fiW w' g := by
  obtain ⟨a, b, c⟩ := h
  refine ⟨f5.trans a, fun q j q0 q1 q2 j0 j1 => ?_, fun k k0 k1 => ?_⟩
  · unfold wG
    rw [e3]
    exact b q j q0 q1 q2 j0 j1
  · rw [e5 k 4 (by decide), e5 k 5 (by decide), e5 k 6 (by decide), e5 k 7 (by decide)]
    exact c k k0 k1
def cW (w : WS) (l : List Row) (gm gf : Int → Int) : Prop := lsW w l ∧ msW w gm ∧ fiW w gf
theorem cW.of {w w' : WS} {l : List Row} {gm gf : Int → Int} (h : cW w l gm gf) (f4 : w'.1 4 = w.1 4) (f5 : w'.1 5 = w.1 5) (e : ∀ t, t = 1 ∨ t = 2 ∨ t = 3 ∨ t = 5 → w'.2 t = w.2 t) : cW w' l gm gf :=
  ⟨h.1.of (e 1 (Or.inl rfl)), h.2.1.of f4 (e 2 (Or.inr (Or.inl rfl))) (fun k c _ _ => by unfold wG; rw [e 5 (Or.inr (Or.inr (Or.inr rfl)))]), h.2.2.of f5 (e 3 (Or.inr (Or.inr (Or.inl rfl)))) (fun k c _ => by unfold wG; rw [e 5 (Or.inr (Or.inr (Or.inr rfl)))])⟩
theorem cW.send {w : WS} {l : List Row} {gm gf : Int → Int} {i : Nat} {r : Row} {kd : Int} (h : cW w l gm gf) (hi : l[i]? = some r) (hg : gR r) (h7 : 0 ≤ gm 7 ∧ gm 7 < 1000000) (hk : 0 ≤ kd ∧ kd < 4) : cW (wSend w kd i) l (sn1 gm kd r) gf := by
  have hr := h.1.2 i r hi
  have e0 := hr.1 0 (by decide) (by decide)
  exact ⟨h.1.of (send_t (k := kd) (i := (i : Int))).1, h.2.1.send hr h7 hk hg.1, h.2.2.of rfl rfl (fun k c hc => send_5 (by rw [e0]; exact hg.1) hk hc)⟩
theorem cW.put {w : WS} {l : List Row} {gm gf : Int → Int} {i : Nat} {r : Row} {c v : Int} (h : cW w l gm gf) (hi : l[i]? = some r) (hc : 0 ≤ c ∧ c < 7) : cW (wP w 1 i c v) (l.set i (up1 r c (if c = 6 then v + 1 else v))) gm gf :=
  ⟨h.1.put hi hc, h.2.1.of rfl rfl (fun _ _ _ _ => rfl), h.2.2.of rfl rfl (fun _ _ _ => rfl)⟩
theorem cW.fin {w : WS} {l : List Row} {gm gf : Int → Int} {i : Nat} {r : Row} (h : cW w l gm gf) (hi : l[i]? = some r) (hg : gR r) (hb : bd6 gf) : cW (wFin w i) (l.eraseIdx i) gm (fn1 gf r) := by
  have hr := h.1.2 i r hi
  have e0 := hr.1 0 (by decide) (by decide)
  have e0' : 0 ≤ wG w 1 i 0 ∧ wG w 1 i 0 < 6 := by rw [e0]; exact hg.1
  refine ⟨?_, h.2.1.of rfl rfl (fun k c c0 c1 => ?_), h.2.2.fin hr hb hg.1⟩
  · have hl := lt_some hi
    unfold wFin
    dsimp only
    refine lsW.erase (lsW.of h.1 ?_) hl
    rfl
  · rw [fin_g]
    unfold fin5
    rw [p5_at e0' (by decide), if_neg (fun z => by omega), a5_at e0' (by decide), if_neg (fun z => by omega), a5_at e0' (by decide), if_neg (fun z => by omega), a5_at e0' (by decide), if_neg (fun z => by omega)]
/-- taken back -/
def tkG (g : Int → Int) (r : Row) : Int → Int := if 0 < r 6 then sn1 g 3 r else g
theorem cW.take {w : WS} {l : List Row} {gm gf : Int → Int} {i : Nat} {r : Row} (h : cW w l gm gf) (hi : l[i]? = some r) (hg : gR r) (h7 : 0 ≤ gm 7 ∧ gm 7 < 1000000) : cW (wTake w i) (l.set i (up1 r 6 0)) (tkG gm r) gf := by
  have hr := h.1.2 i r hi
  have e6 := hr.2
  have h6 := hg.2.2.1
  unfold wTake tkG
  by_cases c : 0 < r 6
  · rw [if_pos (show wG w 1 i 6 ≠ -1 by omega), if_pos c]
    exact (h.send hi hg h7 (by decide)).put (c := 6) (v := -1) hi (by decide)
  · rw [if_neg (show ¬ wG w 1 i 6 ≠ -1 by omega), if_neg c, up1_self (show r 6 = 0 by omega), set_same hi]
    exact h
theorem cW.ann {w : WS} {l : List Row} {gm gf : Int → Int} {i : Nat} {r : Row} {kd : Int} (h : cW w l gm gf) (hi : l[i]? = some r) (hg : gR r) (h7 : 0 ≤ gm 7 ∧ gm 7 < 1000000) (hk : 0 ≤ kd ∧ kd < 4) : cW (wAnn w kd i) (l.set i (up1 r 6 (kd + 1))) (sn1 gm kd r) gf :=
  (h.send hi hg h7 hk).put (c := 6) (v := kd) hi (by decide)
theorem tkG_7 {g : Int → Int} {r : Row} (hg : gR r) (h7 : 0 ≤ g 7 ∧ g 7 < 1000000) : g 7 ≤ tkG g r 7 ∧ tkG g r 7 ≤ g 7 + 1 := by
  unfold tkG
  split
  · rw [sn1_7 h7 (by decide) hg.1]; omega
  · omega
/-! ripe, over, due, turns: of a row -/
def stW (w : WS) (ga la : Int) : Prop := (w.1 0 = ga ∧ w.1 1 = la) ∧ (0 ≤ ga ∧ ga ≤ 99) ∧ 0 ≤ la ∧ la ≤ 99
theorem rip_w {w : WS} {i : Int} {r : Row} {ga la q : Int} (hr : rwW w i r) (hg : gR r) (hs : stW w ga la) : wRipe w i q ↔ r 2 + ga < q := by
  obtain ⟨-, ⟨a1, a2, a3⟩, -⟩ := hg
  obtain ⟨⟨s1, s2⟩, s3, s4⟩ := hs
  show wI (wG w 1 i 2 + w.1 0) < q ↔ _
  rw [hr.1 2 (by decide) (by decide), s1, wI_id (z := r 2 + ga) ⟨by omega, by omega⟩]
theorem ov_w {w : WS} {i : Int} {r : Row} {ga la q : Int} (hr : rwW w i r) (hg : gR r) (hs : stW w ga la) : wOver w i q ↔ r 2 + ga + la < q := by
  obtain ⟨-, ⟨a1, a2, a3⟩, -⟩ := hg
  obtain ⟨⟨s1, s2⟩, s3, s4⟩ := hs
  show wI (wI (wG w 1 i 2 + w.1 0) + w.1 1) < q ↔ _
  rw [hr.1 2 (by decide) (by decide), s1, s2, wI_id (z := r 2 + ga) ⟨by omega, by omega⟩, wI_id (z := r 2 + ga + la) ⟨by omega, by omega⟩]
theorem tu_w {w : WS} {i : Int} {r : Row} (hr : rwW w i r) (hg : gR r) : wTurn w i = tuR r := by
  obtain ⟨a0, ⟨a1, a2, a3⟩, -⟩ := hg
  show wI (wI (wG w 1 i 2 * 6) + wG w 1 i 0) = _
  rw [hr.1 2 (by decide) (by decide), hr.1 0 (by decide) (by decide), wI_id (z := r 2 * 6) ⟨by omega, by omega⟩, wI_id (z := r 2 * 6 + r 0) ⟨by omega, by omega⟩]
  rfl
theorem due_w {w : WS} {i : Int} {r : Row} {ga la be p pa : Int} (hr : rwW w i r) (hg : gR r) (hs : stW w ga la) (h3 : w.1 3 = p) : wDueC w pa be i ↔ dueB ga la be p r = true ∧ pa < tuR r := by
  have e1 := rip_w (q := w.1 3) hr hg hs
  have e2 := rip_w (q := be) hr hg hs
  have e3 := ov_w (q := w.1 3) hr hg hs
  have e4 := tu_w hr hg
  rw [h3] at e1 e3
  show (wRipe w i (w.1 3) ∧ ¬ (wRipe w i be ∧ ¬ wOver w i (w.1 3)) ∧ pa < wTurn w i) ↔ _
  rw [h3, e1, e2, e3, e4]
  unfold dueB
  rw [decide_eq_true_iff, and_assoc]
/-- the best so far of those whose turn is behind T -/
def bst (P : Row → Bool) (T : Int) (l l1 : List Row) (f : Int) : Prop := (f = -1 ∧ ∀ x, x ∈ l1 → P x = true → tuR x ≤ T) ∨ ∃ (i : Nat) (r : Row), f = (i : Int) ∧ l[i]? = some r ∧ r ∈ l1 ∧ P r = true ∧ T < tuR r ∧ ∀ x, x ∈ l1 → P x = true → T < tuR x → tuR r ≤ tuR x
theorem bst.yes {P : Row → Bool} {T : Int} {l l1 : List Row} {f : Int} {x : Row} (h : bst P T l l1 f) (hx : l[l1.length]? = some x) (hP : P x = true) (hT : T < tuR x) (hm : ∀ (i : Nat) (r : Row), f = (i : Int) → l[i]? = some r → r ∈ l1 → tuR x ≤ tuR r) : bst P T l (l1 ++ [x]) (l1.length : Int) := by
  refine Or.inr ⟨l1.length, x, rfl, hx, List.mem_append_right _ (List.mem_singleton.mpr rfl), hP, hT, fun y hy hPy hTy => ?_⟩
  rcases List.mem_append.mp hy with m | m
  · rcases h with ⟨-, h⟩ | ⟨i, r, e, hi, hm1, -, -, h⟩
    · have := h y m hPy
      omega
    · have a := h y m hPy hTy
      have b := hm i r e hi hm1
      omega
  · rw [List.mem_singleton.mp m]
    exact Int.le_refl _
theorem bst.no {P : Row → Bool} {T : Int} {l l1 : List Row} {f : Int} {x : Row} (h : bst P T l l1 f) (hn : P x = true → T < tuR x → 0 ≤ f ∧ ∀ (i : Nat) (r : Row), f = (i : Int) → l[i]? = some r → r ∈ l1 → tuR r ≤ tuR x) : bst P T l (l1 ++ [x]) f := by
  rcases h with ⟨e, h⟩ | ⟨i, r, e, hi, hm, hP, hT, h⟩
  · refine Or.inl ⟨e, fun y hy hPy => ?_⟩
    rcases List.mem_append.mp hy with m | m
    · exact h y m hPy
    · rw [List.mem_singleton.mp m] at hPy ⊢
      by_cases c : T < tuR x
      · have := (hn hPy c).1
        omega
      · omega
  · refine Or.inr ⟨i, r, e, hi, List.mem_append_left _ hm, hP, hT, fun y hy hPy hTy => ?_⟩
    rcases List.mem_append.mp hy with m | m
    · exact h y m hPy hTy
    · rw [List.mem_singleton.mp m] at hPy hTy ⊢
      exact (hn hPy hTy).2 i r e hi hm
theorem at_len {l1 l2 : List Row} {x : Row} : (l1 ++ x :: l2)[l1.length]? = some x := by
  rw [List.getElem?_append_right (Nat.le_refl _), Nat.sub_self]
  rfl
theorem len_1 {l1 : List Row} {x : Row} : ((l1 ++ [x]).length : Int) = (l1.length : Int) + 1 := by
  rw [List.length_append]
  rfl
theorem dbL_s {w : WS} {l : List Row} {ga la be p pa : Int} (h : lsW w l) (hg : gdL ga l) (hs : stW w ga la) (h3 : w.1 3 = p) : ∀ (l2 l1 : List Row) (f le : Int), l = l1 ++ l2 → bst (dueB ga la be p) pa l l1 f → (0 ≤ f → le = wTurn w f) → bst (dueB ga la be p) pa l l (dbL w pa be l2.length (l1.length : Int) f le)
  | [], l1, f, le, e, hb, _ => by
    rw [List.append_nil] at e
    subst e
    exact hb
  | x :: l2, l1, f, le, e, hb, hle => by
    have hx : l[l1.length]? = some x := by rw [e]; exact at_len
    have hgx := hg.1 x (mem_at hx)
    have hrx := h.2 l1.length x hx
    have hd := due_w (pa := pa) (be := be) hrx hgx hs h3
    have ht := tu_w hrx hgx
    have e2 : l = (l1 ++ [x]) ++ l2 := by rw [e, List.append_assoc]; rfl
    show bst (dueB ga la be p) pa l l (if wDueC w pa be (l1.length : Int) ∧ (f < 0 ∨ wTurn w (l1.length : Int) < le) then dbL w pa be l2.length ((l1.length : Int) + 1) (l1.length : Int) (wTurn w (l1.length : Int)) else dbL w pa be l2.length ((l1.length : Int) + 1) f le)
    rw [← len_1 (x := x)]
    by_cases c : wDueC w pa be (l1.length : Int) ∧ (f < 0 ∨ wTurn w (l1.length : Int) < le)
    · rw [if_pos c]
      obtain ⟨d1, d2⟩ := hd.mp c.1
      refine dbL_s h hg hs h3 l2 (l1 ++ [x]) _ _ e2 (hb.yes hx d1 d2 (fun i r ei hi _ => ?_)) (fun _ => rfl)
      have hr := tu_w (h.2 i r hi) (hg.1 r (mem_at hi))
      have c2 := c.2
      have := hle (by omega)
      rw [ei, hr] at this
      rw [ht] at c2
      omega
    · rw [if_neg c]
      refine dbL_s h hg hs h3 l2 (l1 ++ [x]) f le e2 (hb.no (fun d1 d2 => ?_)) hle
      have c2 : ¬ (f < 0 ∨ wTurn w (l1.length : Int) < le) := fun z => c ⟨hd.mpr ⟨d1, d2⟩, z⟩
      refine ⟨by omega, fun i r ei hi _ => ?_⟩
      have hr := tu_w (h.2 i r hi) (hg.1 r (mem_at hi))
      have := hle (by omega)
      rw [ei, hr] at this
      rw [ht] at c2
      omega
theorem due_s {w : WS} {l : List Row} {ga la be p pa : Int} (h : lsW w l) (hg : gdL ga l) (hs : stW w ga la) (h3 : w.1 3 = p) : bst (dueB ga la be p) pa l l (wDue w pa be) := by
  have := dbL_s (be := be) (pa := pa) h hg hs h3 l [] (-1) 0 rfl (Or.inl ⟨rfl, fun x hx => absurd hx List.not_mem_nil⟩) (fun z => absurd z (by decide))
  unfold wDue
  rw [show (wZ w 1).toNat = l.length by rw [h.1.1]; omega]
  exact this
end
-- 989654.od
section
/-! ===== the class: progress rises ===== -/
def nwR (ga be p : Int) (r : Row) : Row := if newB ga be p r = true then up1 r 6 2 else r
def mfR (ga be p : Int) (g : Int → Int) (r : Row) : Int → Int := if newB ga be p r = true then sn1 (tkG g r) 1 r else g
def ffR (ga la be p : Int) (g : Int → Int) (r : Row) : Int → Int := if ovB ga la p r = true then fn1 g (nwR ga be p r) else g
def cuC (ga la be p T : Int) (x : Row) : Option Row := if dueB ga la be p x = true ∧ tuR x ≤ T then (if ovB ga la p x = true then none else some (nwR ga be p x)) else some x
theorem nwR_tu {ga be p : Int} {r : Row} : tuR (nwR ga be p r) = tuR r := by
  unfold nwR
  split
  · exact up1_tu
  · rfl
theorem nwR_c {ga be p : Int} {r : Row} {c : Int} (h : c ≠ 6) : nwR ga be p r c = r c := by
  unfold nwR
  split
  · exact up1_ne h
  · rfl
theorem nwR_g {ga be p : Int} {r : Row} (h : gR r) : gR (nwR ga be p r) := by
  unfold nwR
  split
  · exact h.up (by decide)
  · exact h
theorem cuC_g {ga la be p T : Int} {x y : Row} (hx : gR x) (h : cuC ga la be p T x = some y) : gR y ∧ y 0 = x 0 ∧ y 1 = x 1 ∧ y 2 = x 2 := by
  unfold cuC at h
  split at h
  · split at h
    · cases h
    · cases h
      exact ⟨nwR_g hx, nwR_c (by decide), nwR_c (by decide), nwR_c (by decide)⟩
  · cases h
    exact ⟨hx, rfl, rfl, rfl⟩
theorem gdL_cu {ga la be p T : Int} {l : List Row} (h : gdL ga l) : gdL ga (l.filterMap (cuC ga la be p T)) := h.cut (fun x y hx e => cuC_g (h.1 x hx) e)
/-- those whose turn is behind T stand as they stood -/
theorem cuC_m {ga la be p T : Int} {l : List Row} {x : Row} (h : T < tuR x) : x ∈ l.filterMap (cuC ga la be p T) ↔ x ∈ l := by
  constructor
  · intro q
    obtain ⟨y, hy, e⟩ := List.mem_filterMap.mp q
    unfold cuC at e
    split at e
    · rename_i c
      split at e
      · cases e
      · cases e
        rw [nwR_tu] at h
        omega
    · cases e
      exact hy
  · intro q
    exact List.mem_filterMap.mpr ⟨x, q, if_neg (fun z => by omega)⟩
theorem bd6.more {g g' : Int → Int} (h : ∀ k, 0 ≤ k → k < 6 → 0 ≤ g (36 + k) ∧ g (36 + k) < 1000000) : bd6 g := h
/-- what is sent, what closed: to b -/
def b7 (b : Int) (g : Int → Int) : Prop := 0 ≤ g 7 ∧ g 7 ≤ b
def b36 (b : Int) (g : Int → Int) : Prop := ∀ k, 0 ≤ k → k < 6 → 0 ≤ g (36 + k) ∧ g (36 + k) ≤ b
theorem b36.bd {b : Int} {g : Int → Int} (h : b36 b g) (hb : b < 1000000) : bd6 g := fun k k0 k1 => ⟨(h k k0 k1).1, by have := (h k k0 k1).2; omega⟩
theorem b36.fn {b : Int} {g : Int → Int} {r : Row} (h : b36 b g) (hb : b < 1000000) (hr : gR r) : b36 (b + 1) (fn1 g r) := fun k k0 k1 => by
  have q := h k k0 k1
  have s0 := (fn1_s (r := r) (h.bd hb) hr.1).2.1
  rw [(fn1_k s0 hr.1 ⟨k0, k1⟩).1]
  by_cases c : k = r 0
  · rw [if_pos c, wI_id (z := g (36 + k) + 1) ⟨by omega, by omega⟩]; omega
  · rw [if_neg c]; omega
theorem b7.sn {b kd : Int} {g : Int → Int} {r : Row} (h : b7 b g) (hb : b < 1000000) (hk : 0 ≤ kd ∧ kd < 4) (hr : gR r) : b7 (b + 1) (sn1 g kd r) := by
  have e := sn1_7 (g := g) (kd := kd) (r := r) ⟨h.1, by have := h.2; omega⟩ hk hr.1
  have := h.1
  have := h.2
  unfold b7
  rw [e]
  omega
theorem b7.tk {b : Int} {g : Int → Int} {r : Row} (h : b7 b g) (hb : b < 1000000) (hr : gR r) : b7 (b + 1) (tkG g r) := by
  unfold tkG
  split
  · exact h.sn hb (by decide) hr
  · exact ⟨h.1, by have := h.2; omega⟩
theorem b7.mf {b ga be p : Int} {g : Int → Int} {r : Row} (h : b7 b g) (hb : b + 2 < 1000000) (hr : gR r) : b7 (b + 2) (mfR ga be p g r) := by
  unfold mfR
  split
  · have := (h.tk (by omega) hr).sn (kd := 1) (by omega) (by decide) hr
    exact ⟨this.1, by have := this.2; omega⟩
  · exact ⟨h.1, by have := h.2; omega⟩
theorem b36.ff {b ga la be p : Int} {g : Int → Int} {r : Row} (h : b36 b g) (hb : b < 1000000) (hr : gR r) : b36 (b + 1) (ffR ga la be p g r) := by
  unfold ffR
  split
  · exact h.fn hb (nwR_g hr)
  · exact fun k k0 k1 => ⟨(h k k0 k1).1, by have := (h k k0 k1).2; omega⟩
theorem step_s {w : WS} {l : List Row} {gm gf : Int → Int} {ga la be p b : Int} {i : Nat} {r : Row} (h : cW w l gm gf) (hi : l[i]? = some r) (hg : gR r) (hs : stW w ga la) (h3 : w.1 3 = p) (hd : dueB ga la be p r = true) (h7 : b7 b gm) (h36 : b36 b gf) (hb : b + 2 < 1000000) : cW (wStep w be i) (if ovB ga la p r = true then (l.set i (nwR ga be p r)).eraseIdx i else l.set i (nwR ga be p r)) (mfR ga be p gm r) (ffR ga la be p gf r) ∧ stW (wStep w be i) ga la ∧ (wStep w be i).1 3 = p := by
  have hr := h.1.2 i r hi
  have e1 := rip_w (q := be) hr hg hs
  have hd' := of_decide_eq_true hd
  have hb7 : 0 ≤ gm 7 ∧ gm 7 < 1000000 := ⟨h7.1, by have := h7.2; omega⟩
  have key : cW (if wRipe w i be then w else wAnn (wTake w i) 1 i) (l.set i (nwR ga be p r)) (mfR ga be p gm r) gf ∧ stW (if wRipe w i be then w else wAnn (wTake w i) 1 i) ga la ∧ (if wRipe w i be then w else wAnn (wTake w i) 1 i).1 3 = p := by
    by_cases c : wRipe w i be
    · have n : ¬ newB ga be p r = true := fun z => (of_decide_eq_true z).2 (e1.mp c)
      unfold nwR mfR
      rw [if_pos c, if_neg n, if_neg n, set_same hi]
      exact ⟨h, hs, h3⟩
    · have n : newB ga be p r = true := decide_eq_true ⟨hd'.1, fun z => c (e1.mpr z)⟩
      unfold nwR mfR
      rw [if_neg c, if_pos n, if_pos n]
      have a := h.take hi hg hb7
      have b1 := h7.tk (by omega) hg
      have a2 := a.ann (kd := 1) (set_at hi) (hg.up (v := 0) (by decide)) ⟨b1.1, by have := b1.2; omega⟩ (by decide)
      rw [List.set_set, up1_up1, sn1_up] at a2
      have f : ∀ k, k < 4 → (wAnn (wTake w i) 1 i).1 k = w.1 k := fun k hk => by
        have f2 : ∀ v : WS, ∀ kd q : Int, (wSend v kd q).1 k = v.1 k := fun v kd q => by
          show (bif Nat.beq k 4 then _ else v.1 k) = v.1 k
          rw [bqF (by omega)]
          rfl
        show (wSend (wTake w i) 1 i).1 k = w.1 k
        rw [f2]
        unfold wTake
        split
        · exact f2 w 3 i
        · rfl
      refine ⟨a2, ⟨⟨?_, ?_⟩, hs.2⟩, ?_⟩
      · rw [f 0 (by decide)]; exact hs.1.1
      · rw [f 1 (by decide)]; exact hs.1.2
      · rw [f 3 (by decide)]; exact h3
  unfold wStep
  dsimp only
  generalize (if wRipe w i be then w else wAnn (wTake w i) 1 i) = w1 at key ⊢
  obtain ⟨a, s, q3⟩ := key
  have hr1 := a.1.2 i _ (set_at hi)
  have e3 := ov_w (q := w1.1 3) hr1 (nwR_g hg) s
  rw [q3, nwR_c (by decide)] at e3
  rw [q3]
  unfold ffR
  by_cases c : wOver w1 i p
  · have o : ovB ga la p r = true := decide_eq_true (e3.mp c)
    rw [if_pos c, if_pos o, if_pos o]
    refine ⟨a.fin (set_at hi) (nwR_g hg) (h36.bd (by omega)), ?_, ?_⟩
    · exact s
    · exact q3
  · have o : ¬ ovB ga la p r = true := fun z => c (e3.mpr (of_decide_eq_true z))
    rw [if_neg c, if_neg o, if_neg o]
    exact ⟨a, s, q3⟩
theorem cuC_s {ga la be p T : Int} {l : List Row} {i : Nat} {r : Row} (g0 : 0 ≤ ga) (hl : gdL ga l) (hr : r ∈ l) (hd : dueB ga la be p r = true) (hT : T < tuR r) (hm : ∀ x, x ∈ l → dueB ga la be p x = true → T < tuR x → tuR r ≤ tuR x) (hi : (l.filterMap (cuC ga la be p T))[i]? = some r) : (if ovB ga la p r = true then ((l.filterMap (cuC ga la be p T)).set i (nwR ga be p r)).eraseIdx i else (l.filterMap (cuC ga la be p T)).set i (nwR ga be p r)) = l.filterMap (cuC ga la be p (tuR r)) := by
  have dt := (gdL_cu hl (la := la) (be := be) (p := p) (T := T)).dt g0
  have inj := (hl.dt g0).inj
  rw [set_f (nwR ga be p) _ i r hi dt]
  have hi2 : ((l.filterMap (cuC ga la be p T)).map (fun x => if tuR x = tuR r then nwR ga be p x else x))[i]? = some (nwR ga be p r) := by
    rw [List.getElem?_map, hi]
    show some (if tuR r = tuR r then nwR ga be p r else r) = _
    rw [if_pos rfl]
  have dt2 : dtR ((l.filterMap (cuC ga la be p T)).map (fun x => if tuR x = tuR r then nwR ga be p x else x)) := dt.map (fun x => by
    split
    · exact nwR_tu
    · rfl)
  have main : ∀ H : Row → Bool, (∀ x, H x = (if ovB ga la p r = true then neR (nwR ga be p r) x else true)) → ((l.filterMap (cuC ga la be p T)).map (fun x => if tuR x = tuR r then nwR ga be p x else x)).filter H = l.filterMap (cuC ga la be p (tuR r)) := by
    intro H hH
    refine cut_s l (fun x hx => ?_)
    have hHy : ∀ y, tuR y ≠ tuR r → H y = true := fun y hy => by
      rw [hH]
      split
      · exact neR_t (by rw [nwR_tu]; exact hy)
      · rfl
    by_cases c : dueB ga la be p x = true ∧ tuR x ≤ T
    · have c2 : dueB ga la be p x = true ∧ tuR x ≤ tuR r := ⟨c.1, by omega⟩
      unfold cuC
      rw [if_pos c, if_pos c2]
      by_cases o : ovB ga la p x = true
      · rw [if_pos o]
      · rw [if_neg o]
        dsimp only
        have hy : tuR (nwR ga be p x) ≠ tuR r := by rw [nwR_tu]; omega
        rw [if_neg hy, if_pos (hHy _ hy)]
    · have e : cuC ga la be p T x = some x := if_neg c
      rw [e]
      dsimp only
      by_cases q : tuR x = tuR r
      · have : x = r := inj x r hx hr q
        subst this
        rw [if_pos q]
        unfold cuC
        rw [if_pos ⟨hd, Int.le_refl _⟩, hH]
        by_cases o : ovB ga la p x = true
        · rw [if_pos o, if_pos o, if_neg (neR_f rfl)]
        · rw [if_neg o, if_neg o, if_pos rfl]
      · rw [if_neg q, if_pos (hHy x q)]
        refine if_neg (fun z => ?_)
        by_cases zt : T < tuR x
        · have := hm x hx z.1 zt
          have := z.2
          omega
        · exact c ⟨z.1, by omega⟩
  by_cases o : ovB ga la p r = true
  · rw [if_pos o, erase_f _ i _ hi2 dt2]
    exact main _ (fun x => by rw [if_pos o])
  · rw [if_neg o]
    have := main (fun _ => true) (fun x => by rw [if_neg o])
    rw [← this]
    exact (List.filter_eq_self.mpr (fun _ _ => rfl)).symm
theorem riseL_s {ga la be p : Int} {l : List Row} (hl : gdL ga l) : ∀ (L : List Row) (n : Nat) (T b : Int) (w : WS) (gm gf : Int → Int), cW w (l.filterMap (cuC ga la be p T)) gm gf → stW w ga la → w.1 3 = p → chn (dueB ga la be p) l T L → L.length ≤ n → b7 b gm → b36 b gf → b + 2 * L.length + 2 < 1000000 → ∃ T', T ≤ T' ∧ (∀ x, x ∈ l → dueB ga la be p x = true → tuR x ≤ T') ∧ cW (riseL be n T w) (l.filterMap (cuC ga la be p T')) (L.foldl (mfR ga be p) gm) (L.foldl (ffR ga la be p) gf) ∧ stW (riseL be n T w) ga la ∧ (riseL be n T w).1 3 = p
  | [], n, T, b, w, gm, gf, h, hs, h3, hc, hn, h7, h36, hb => by
    have e : riseL be n T w = w := by
      cases n with
      | zero => rfl
      | succ n =>
        rcases due_s (be := be) (pa := T) h.1 (gdL_cu hl) hs h3 with ⟨q, -⟩ | ⟨i, r, -, -, hm, hP, hT, -⟩
        · show (if wDue w T be < 0 then w else _) = w
          rw [q, if_pos (by decide)]
        · have := hc r ((cuC_m hT).mp hm) hP
          omega
    rw [e]
    exact ⟨T, Int.le_refl _, hc, h, hs, h3⟩
  | r :: L, 0, T, b, w, gm, gf, h, hs, h3, hc, hn, h7, h36, hb => absurd hn (Nat.not_succ_le_zero _)
  | r :: L, n + 1, T, b, w, gm, gf, h, hs, h3, hc, hn, h7, h36, hb => by
    obtain ⟨⟨c1, c2, c3, c4⟩, hc2⟩ := hc
    have g0 := hs.2.1.1
    have hg := hl.1 r c1
    have hmr : r ∈ l.filterMap (cuC ga la be p T) := (cuC_m c3).mpr c1
    rcases due_s (be := be) (pa := T) h.1 (gdL_cu hl) hs h3 with ⟨-, q⟩ | ⟨i, r', ei, hi, hm, hP, hT, hmin⟩
    · have := q r hmr c2
      omega
    · have hm' := (cuC_m hT).mp hm
      have a1 := c4 r' hm' hP hT
      have a2 := hmin r hmr c2 c3
      have er : r' = r := (hl.dt g0).inj r' r hm' c1 (by omega)
      subst er
      have ht := tu_w (h.1.2 i r' hi) hg
      rw [List.length_cons] at hn hb
      obtain ⟨s1, s2, s3⟩ := step_s (be := be) h hi hg hs h3 c2 h7 h36 (by omega)
      rw [cuC_s g0 hl c1 c2 c3 c4 hi] at s1
      obtain ⟨T', t1, t2, t3⟩ := riseL_s hl L n (tuR r') (b + 2) (wStep w be i) _ _ s1 s2 s3 hc2 (by omega) (h7.mf (by omega) hg) (by
        have := h36.ff (ga := ga) (la := la) (be := be) (p := p) (by omega) hg
        exact fun k k0 k1 => ⟨(this k k0 k1).1, by have := (this k k0 k1).2; omega⟩) (by omega)
      refine ⟨T', by omega, t2, ?_⟩
      show cW (if wDue w T be < 0 then w else riseL be n (wTurn w (wDue w T be)) (wStep w be (wDue w T be))) _ _ _ ∧ stW (if wDue w T be < 0 then w else riseL be n (wTurn w (wDue w T be)) (wStep w be (wDue w T be))) ga la ∧ (if wDue w T be < 0 then w else riseL be n (wTurn w (wDue w T be)) (wStep w be (wDue w T be))).1 3 = p
      rw [ei, if_neg (by omega), ht]
      exact t3
end
-- 989655.oe
section
/-! ===== the model: what is taken back, told, closed; its loops ===== -/
theorem cF_S3 {s : MS} {k : Nat} {v : Int} : (mS s k v).2 3 = s.2 3 := rfl
theorem send_1 {s : MS} {d kd i : Int} : (mSend s d kd i).1 = s.1 := by
  unfold mSend mSend4
  exact ((((cF_P.trans (sdL_1 _ d i 5 0 _)).trans cF_I).trans cF_I).trans (cF_I.trans cF_P)).1
theorem tkM {d : Int} {s : MS} {l : List Row} {g : Int → Int} {i : Nat} {r : Row} (hL : lsM d s l) (hB : sB d s g) (hd : 0 ≤ d) (hi : l[i]? = some r) (hg : gR r) (h7 : 0 ≤ g 7) : lsM d (mTake s d i) (l.set i (up1 r 6 0)) ∧ sB d (mTake s d i) (tkG g r) ∧ (mTake s d i).1 = s.1 := by
  have e6 := hL.at hi (c := 6) (by decide) (by decide)
  have h6 := hg.2.2.1
  unfold mTake tkG
  rw [e6]
  by_cases c : 0 < r 6
  · rw [if_pos c, if_pos c]
    obtain ⟨a, b⟩ := snM (kd := 3) hL hB hd hi h7 (by decide) hg.1
    exact ⟨a, b, send_1⟩
  · rw [if_neg c, if_neg c, up1_self (show r 6 = 0 by omega), set_same hi]
    exact ⟨hL, hB, rfl⟩
/-! finals -/
theorem sumI_c (f f' : Int → Int) : ∀ (n : Nat) (i a : Int), (∀ j, i ≤ j → j < i + n → f j = f' j) → sumI f n i a = sumI f' n i a
  | 0, _, _, _ => rfl
  | n + 1, i, a, h => by
    rw [sumI, sumI, h i (Int.le_refl _) (by omega)]
    exact sumI_c f f' n (i + 1) _ (fun j j0 j1 => h j (by omega) (by omega))
theorem closed_B {d : Int} {s : MS} {g : Int → Int} (hB : sB d s g) : mClosed s d = sm6 g := sumI_c _ _ 6 0 0 (fun j j0 j1 => hB (36 + j) (by omega) (by unfold zB; omega))
def clG (a : Int) (r : Row) : Nat → Int → (Int → Int) → Int → Int
  | 0, _, g => g
  | m + 1, w, g => clG a r m (w + 1) (up1 g (a + w) (r w))
theorem clL_B {d a : Int} {l : List Row} {i : Nat} {r : Row} (hd : 0 ≤ d) (ha : 84 ≤ a ∧ a ≤ 357) (hi : l[i]? = some r) : ∀ (m : Nat) (w : Int) (s : MS) (g : Int → Int), 0 ≤ w → w + m ≤ 7 → lsM d s l → sB d s g → lsM d (clL (d * 2804 + a) d i m w s) l ∧ sB d (clL (d * 2804 + a) d i m w s) (clG a r m w g)
  | 0, _, _, _, _, _, hL, hB => ⟨hL, hB⟩
  | m + 1, w, s, g, h0, h1, hL, hB => by
    rw [clL, clG, hL.at hi h0 (by omega), show d * 2804 + a + w = d * 2804 + (a + w) by omega]
    exact clL_B hd ha hi m (w + 1) _ _ (by omega) (by omega) (hL.ne hd (by omega) (by unfold zB; omega)) (hB.put hd rfl (by omega))
theorem clG7 {a : Int} {r : Row} {g : Int → Int} : clG a r 7 0 g = up1 (up1 (up1 (up1 (up1 (up1 (up1 g (a + 0) (r 0)) (a + 1) (r 1)) (a + 2) (r 2)) (a + 3) (r 3)) (a + 4) (r 4)) (a + 5) (r 5)) (a + 6) (r 6) := by
  show up1 (up1 (up1 (up1 (up1 (up1 (up1 g (a + 0) (r 0)) (a + (0 + 1)) (r (0 + 1))) (a + (0 + 1 + 1)) (r (0 + 1 + 1))) (a + (0 + 1 + 1 + 1)) (r (0 + 1 + 1 + 1))) (a + (0 + 1 + 1 + 1 + 1)) (r (0 + 1 + 1 + 1 + 1))) (a + (0 + 1 + 1 + 1 + 1 + 1)) (r (0 + 1 + 1 + 1 + 1 + 1))) (a + (0 + 1 + 1 + 1 + 1 + 1 + 1)) (r (0 + 1 + 1 + 1 + 1 + 1 + 1)) = _
  rw [show (0 : Int) + 1 = 1 from rfl, show (1 : Int) + 1 = 2 from rfl, show (2 : Int) + 1 = 3 from rfl, show (3 : Int) + 1 = 4 from rfl, show (4 : Int) + 1 = 5 from rfl, show (5 : Int) + 1 = 6 from rfl]
theorem out_at {d : Int} {s : MS} {i j q : Int} (hd : 0 ≤ d) (hi : 0 ≤ i) (hj : 0 ≤ j) (h : j < mg (mOut1 s d) (d * 2804 + 5)) (hq : 0 ≤ q ∧ q < 7) : mg (mOut s d i) (d * 2804 + 364 + 7 * j + q) = if i ≤ j then mg s (d * 2804 + 364 + 7 * (j + 1) + q) else mg s (d * 2804 + 364 + 7 * j + q) := by
  by_cases hc : i ≤ j
  · rw [if_pos hc]
    show (if _ then (mOut1 s d).2 3 _ else _) = _
    rw [if_pos (by constructor <;> omega), show (d * 2804 + 364 + 7 * j + q).toNat + 7 = (d * 2804 + 364 + 7 * (j + 1) + q).toNat by omega]
    exact mInc_ne (by omega) (by omega) (by omega)
  · rw [if_neg hc]
    show (if _ then _ else _) = _
    rw [if_neg (fun q => by omega)]
    exact mInc_ne (by omega) (by omega) (by omega)
theorem outM {d : Int} {s : MS} {l : List Row} {g : Int → Int} {i : Nat} (hL : lsM d s l) (hB : sB d s g) (hd : dOk d) (hi : i < l.length) : lsM d (mOut s d i) (l.eraseIdx i) ∧ sB d (mOut s d i) g := by
  have hd0 : 0 ≤ d := hd.1
  have hn := hL.1
  have e1 : mg (mOut1 s d) (d * 2804 + 5) = (l.length : Int) - 1 := by rw [out1_5, hn.1, wI_id ⟨by omega, by omega⟩]; omega
  have el : (l.eraseIdx i).length = l.length - 1 := List.length_eraseIdx_of_lt hi
  refine ⟨⟨⟨?_, by omega⟩, fun j r hj => ?_⟩, hB.same (fun c c0 hc => ?_)⟩
  · rw [out_fr hd (by omega) (by omega) (by omega) (by omega), e1, el]; omega
  · have hl := lt_some hj
    rw [el] at hl
    rw [List.getElem?_eraseIdx] at hj
    by_cases q : j < i
    · rw [if_pos q] at hj
      refine (hL.2 j r hj).of (fun c c0 c1 => ?_)
      rw [out_at hd0 (by omega) (by omega) (by omega) ⟨c0, c1⟩, if_neg (by omega)]
    · rw [if_neg q] at hj
      refine (hL.2 (j + 1) r hj).of (fun c c0 c1 => ?_)
      rw [out_at hd0 (by omega) (by omega) (by omega) ⟨c0, c1⟩, if_pos (by omega)]
      rfl
  · unfold zB at hc
    rw [out_fr hd (by omega) (by omega) (by omega) (by omega)]
    exact out1_ne hd (by omega) (by omega)
theorem clM {d : Int} {s : MS} {l : List Row} {g : Int → Int} {i : Nat} {r : Row} (hL : lsM d s l) (hB : sB d s g) (hd : dOk d) (hi : l[i]? = some r) (hg : gR r) (hb : bd6 g) : lsM d (mClose s d i) (l.eraseIdx i) ∧ sB d (mClose s d i) (fn1 g r) ∧ (mClose s d i).1 = s.1 := by
  have hd0 : 0 ≤ d := hd.1
  have s0 := (fn1_s (r := r) hb hg.1).2.1
  have t := tm40 s0
  have ep : pFi s d = d * 2804 + (84 + 7 * Int.tmod (sm6 g) 40) := by
    show d * 2804 + 84 + 7 * Int.tmod (mClosed s d) 40 = _
    rw [closed_B hB]; omega
  have key : lsM d (mCl2 (clL (pFi s d) d i 7 0 s) d i) l ∧ sB d (mCl2 (clL (pFi s d) d i 7 0 s) d i) (fn1 g r) := by
    rw [ep]
    unfold fn1
    generalize Int.tmod (sm6 g) 40 = q at t
    obtain ⟨a, b⟩ := clL_B (a := 84 + 7 * q) hd0 (by omega) hi 7 0 s g (by decide) (by decide) hL hB
    rw [clG7] at b
    generalize clL (d * 2804 + (84 + 7 * q)) d i 7 0 s = u at a b ⊢
    have hz : ∀ c, 36 ≤ c → c < 60 → zB c := fun c c0 c1 => by unfold zB; omega
    have k0 := hg.1
    unfold mCl2
    dsimp only
    rw [a.at hi (c := 0) (by decide) (by decide), a.at hi (c := 1) (by decide) (by decide), a.at hi (c := 2) (by decide) (by decide)]
    have a1 : lsM d (mInc u (d * 2804 + (36 + r 0)) 1) l := a.ne hd0 (by omega) (hz _ (by omega) (by omega))
    have b1 := b.inc (v := 1) hd0 (rfl : d * 2804 + (36 + r 0) = d * 2804 + (36 + r 0)) (by omega) (hz _ (by omega) (by omega))
    rw [a1.at hi (c := 3) (by decide) (by decide)]
    generalize mInc u (d * 2804 + (36 + r 0)) 1 = u1 at a1 b1 ⊢
    have a2 : lsM d (mInc u1 (d * 2804 + (42 + r 0)) (r 3)) l := a1.ne hd0 (by omega) (hz _ (by omega) (by omega))
    have b2 := b1.inc (v := r 3) hd0 (rfl : d * 2804 + (42 + r 0) = d * 2804 + (42 + r 0)) (by omega) (hz _ (by omega) (by omega))
    rw [a2.at hi (c := 4) (by decide) (by decide)]
    generalize mInc u1 (d * 2804 + (42 + r 0)) (r 3) = u2 at a2 b2 ⊢
    have a3 : lsM d (mInc u2 (d * 2804 + (48 + r 0)) (r 4)) l := a2.ne hd0 (by omega) (hz _ (by omega) (by omega))
    have b3 := b2.inc (v := r 4) hd0 (rfl : d * 2804 + (48 + r 0) = d * 2804 + (48 + r 0)) (by omega) (hz _ (by omega) (by omega))
    generalize mInc u2 (d * 2804 + (48 + r 0)) (r 4) = u3 at a3 b3 ⊢
    have e54 := b3 (54 + r 0) (by omega) (hz _ (by omega) (by omega))
    rw [in1_ne (by omega), in1_ne (by omega), in1_ne (by omega), up1_ne (by omega), up1_ne (by omega), up1_ne (by omega), up1_ne (by omega), up1_ne (by omega), up1_ne (by omega), up1_ne (by omega)] at e54
    rw [e54]
    exact ⟨a3.ne hd0 (by omega) (hz _ (by omega) (by omega)), b3.put hd0 rfl (by omega)⟩
  obtain ⟨a, b⟩ := key
  obtain ⟨a2, b2⟩ := outM a b hd (lt_some hi)
  refine ⟨a2, b2, ?_⟩
  unfold mClose mCl2
  dsimp only
  exact ((((clL_1 (pFi s d) d i 7 0 s).trans cF_I).trans cF_I).trans (cF_I.trans (cF_P.trans out_c))).1
/-! whose turn it is -/
def stG (g : Int → Int) (ga la p : Int) : Prop := (g 1 = ga ∧ g 2 = la ∧ g 4 = p) ∧ (0 ≤ ga ∧ ga ≤ 99) ∧ 0 ≤ la ∧ la ≤ 99
theorem stG.of {g g' : Int → Int} {ga la p : Int} (h : stG g ga la p) (e : ∀ c, 0 ≤ c → c < 5 → g' c = g c) : stG g' ga la p :=
  ⟨⟨(e 1 (by decide) (by decide)).trans h.1.1, (e 2 (by decide) (by decide)).trans h.1.2.1, (e 4 (by decide) (by decide)).trans h.1.2.2⟩, h.2⟩
theorem rip_m {d : Int} {s : MS} {l : List Row} {g : Int → Int} {ga la p q : Int} {i : Nat} {r : Row} (hL : lsM d s l) (hB : sB d s g) (hi : l[i]? = some r) (hg : gR r) (hs : stG g ga la p) : mRipe s d i q ↔ r 2 + ga < q := by
  obtain ⟨-, ⟨a1, a2, a3⟩, -⟩ := hg
  obtain ⟨⟨s1, s2, s5⟩, s3, s4⟩ := hs
  show wI (mg s (d * 2804 + 364 + 7 * (i : Int) + 2) + mg s (d * 2804 + 1)) < q ↔ _
  rw [hL.at hi (by decide) (by decide), hB 1 (by decide) (by unfold zB; omega), s1, wI_id (z := r 2 + ga) ⟨by omega, by omega⟩]
theorem ov_m {d : Int} {s : MS} {l : List Row} {g : Int → Int} {ga la p q : Int} {i : Nat} {r : Row} (hL : lsM d s l) (hB : sB d s g) (hi : l[i]? = some r) (hg : gR r) (hs : stG g ga la p) : mOver s d i q ↔ r 2 + ga + la < q := by
  obtain ⟨-, ⟨a1, a2, a3⟩, -⟩ := hg
  obtain ⟨⟨s1, s2, s5⟩, s3, s4⟩ := hs
  show wI (wI (mg s (d * 2804 + 364 + 7 * (i : Int) + 2) + mg s (d * 2804 + 1)) + mg s (d * 2804 + 2)) < q ↔ _
  rw [hL.at hi (by decide) (by decide), hB 1 (by decide) (by unfold zB; omega), hB 2 (by decide) (by unfold zB; omega), s1, s2, wI_id (z := r 2 + ga) ⟨by omega, by omega⟩, wI_id (z := r 2 + ga + la) ⟨by omega, by omega⟩]
theorem fr_m {d : Int} {s : MS} {l : List Row} {g : Int → Int} {ga la p wa T : Int} {i : Nat} {r : Row} (hL : lsM d s l) (hB : sB d s g) (hi : l[i]? = some r) (hg : gR r) (hs : stG g ga la p) (hT : T = 6 * s.1 10 + s.1 11 ∧ -1 ≤ s.1 11 ∧ s.1 11 ≤ 5) : mFr s d wa i ↔ newB ga wa p r = true ∧ T < tuR r := by
  have e1 := rip_m (q := mg s (d * 2804 + 4)) hL hB hi hg hs
  have e2 := rip_m (q := wa) hL hB hi hg hs
  have e4 := hB 4 (by decide) (by unfold zB; omega)
  rw [e4, hs.1.2.2] at e1
  have e3 : mDone s d i ↔ ¬ T < tuR r := by
    obtain ⟨a0, ⟨a1, a2, a3⟩, -⟩ := hg
    show (mg s (d * 2804 + 364 + 7 * (i : Int) + 2) < s.1 10 ∨ (mg s (d * 2804 + 364 + 7 * (i : Int) + 2) = s.1 10 ∧ mg s (d * 2804 + 364 + 7 * (i : Int) + 0) ≤ s.1 11)) ↔ _
    rw [hL.at hi (c := 2) (by decide) (by decide), hL.at hi (c := 0) (by decide) (by decide)]
    unfold tuR
    omega
  show (mRipe s d i (mg s (d * 2804 + 4)) ∧ ¬ mRipe s d i wa ∧ ¬ mDone s d i) ↔ _
  rw [e4, hs.1.2.2, e1, e2, e3, Classical.not_not]
  unfold newB
  rw [decide_eq_true_iff, and_assoc]
theorem bef_at {ga : Int} {l l1 l2 : List Row} {r x : Row} (hl : gdL ga l) (e : l = l1 ++ x :: l2) (hr : r ∈ l1) : bef ga r x := by
  have := hl.2
  rw [e] at this
  exact (List.pairwise_append.mp this).2.2 r hr x List.mem_cons_self
theorem frL_s {d : Int} {s : MS} {l : List Row} {g : Int → Int} {ga la p wa T : Int} (hL : lsM d s l) (hB : sB d s g) (hl : gdL ga l) (hs : stG g ga la p) (hT : T = 6 * s.1 10 + s.1 11 ∧ -1 ≤ s.1 11 ∧ s.1 11 ≤ 5) : ∀ (l2 l1 : List Row) (f : Int), l = l1 ++ l2 → bst (newB ga wa p) T l l1 f → bst (newB ga wa p) T l l (frL s d wa l2.length (l1.length : Int) f)
  | [], l1, f, e, hb => by
    rw [List.append_nil] at e
    subst e
    exact hb
  | x :: l2, l1, f, e, hb => by
    have hx : l[l1.length]? = some x := by rw [e]; exact at_len
    have hgx := hl.1 x (mem_at hx)
    have hd := fr_m (wa := wa) hL hB hx hgx hs hT
    have x2 := hL.at hx (c := 2) (by decide) (by decide)
    have e2 : l = (l1 ++ [x]) ++ l2 := by rw [e, List.append_assoc]; rfl
    show bst (newB ga wa p) T l l (frL s d wa l2.length ((l1.length : Int) + 1) (if mFr s d wa (l1.length : Int) ∧ (f < 0 ∨ mg s (d * 2804 + 364 + 7 * (l1.length : Int) + 2) < mg s (d * 2804 + 364 + 7 * f + 2)) then (l1.length : Int) else f))
    rw [← len_1 (x := x)]
    have q0 := hgx.1
    by_cases c : mFr s d wa (l1.length : Int) ∧ (f < 0 ∨ mg s (d * 2804 + 364 + 7 * (l1.length : Int) + 2) < mg s (d * 2804 + 364 + 7 * f + 2))
    · rw [if_pos c]
      obtain ⟨d1, d2⟩ := hd.mp c.1
      refine frL_s hL hB hl hs hT l2 (l1 ++ [x]) _ e2 (hb.yes hx d1 d2 (fun i r ei hi _ => ?_))
      have r0 := (hl.1 r (mem_at hi)).1
      have c2 := c.2
      rw [x2, ei, hL.at hi (c := 2) (by decide) (by decide)] at c2
      unfold tuR
      omega
    · rw [if_neg c]
      refine frL_s hL hB hl hs hT l2 (l1 ++ [x]) f e2 (hb.no (fun d1 d2 => ?_))
      have c2 : ¬ (f < 0 ∨ mg s (d * 2804 + 364 + 7 * (l1.length : Int) + 2) < mg s (d * 2804 + 364 + 7 * f + 2)) := fun z => c ⟨hd.mpr ⟨d1, d2⟩, z⟩
      rw [x2] at c2
      refine ⟨by omega, fun i r ei hi hm => ?_⟩
      obtain ⟨r0, ⟨r1, r2, r3⟩, -⟩ := hl.1 r (mem_at hi)
      obtain ⟨-, ⟨y1, y2, y3⟩, -⟩ := hgx
      have hbf := bef_at hl e hm
      have ga0 := hs.2.1.1
      rw [ei, hL.at hi (c := 2) (by decide) (by decide)] at c2
      unfold bef at hbf
      unfold tuR
      omega
theorem firstR_s {d : Int} {s : MS} {l : List Row} {g : Int → Int} {ga la p wa T : Int} (hL : lsM d s l) (hB : sB d s g) (hl : gdL ga l) (hs : stG g ga la p) (hT : T = 6 * s.1 10 + s.1 11 ∧ -1 ≤ s.1 11 ∧ s.1 11 ≤ 5) : bst (newB ga wa p) T l l (mFirstR s d wa) := by
  have := frL_s (wa := wa) hL hB hl hs hT l [] (-1) rfl (Or.inl ⟨rfl, fun x hx => absurd hx List.not_mem_nil⟩)
  unfold mFirstR
  rw [hL.1.1, show ((l.length : Int)).toNat = l.length by omega]
  exact this
theorem fcL_s {d : Int} {s : MS} {l : List Row} {g : Int → Int} {ga la p : Int} (hL : lsM d s l) (hB : sB d s g) (hl : gdL ga l) (hs : stG g ga la p) : ∀ (l2 l1 : List Row) (f : Int), l = l1 ++ l2 → bst (ovB ga la p) (-1) l l1 f → bst (ovB ga la p) (-1) l l (fcL s d l2.length (l1.length : Int) f)
  | [], l1, f, e, hb => by
    rw [List.append_nil] at e
    subst e
    exact hb
  | x :: l2, l1, f, e, hb => by
    have hx : l[l1.length]? = some x := by rw [e]; exact at_len
    have hgx := hl.1 x (mem_at hx)
    have e4 := hB 4 (by decide) (by unfold zB; omega)
    have e4p : mg s (d * 2804 + 4) = p := e4.trans hs.1.2.2
    have hd := ov_m (q := mg s (d * 2804 + 4)) hL hB hx hgx hs
    have x2 := hL.at hx (c := 2) (by decide) (by decide)
    have e2 : l = (l1 ++ [x]) ++ l2 := by rw [e, List.append_assoc]; rfl
    have tx := hgx.tu
    show bst (ovB ga la p) (-1) l l (fcL s d l2.length ((l1.length : Int) + 1) (if mOver s d (l1.length : Int) (mg s (d * 2804 + 4)) ∧ (f < 0 ∨ mg s (d * 2804 + 364 + 7 * (l1.length : Int) + 2) < mg s (d * 2804 + 364 + 7 * f + 2)) then (l1.length : Int) else f))
    rw [← len_1 (x := x)]
    have q0 := hgx.1
    by_cases c : mOver s d (l1.length : Int) (mg s (d * 2804 + 4)) ∧ (f < 0 ∨ mg s (d * 2804 + 364 + 7 * (l1.length : Int) + 2) < mg s (d * 2804 + 364 + 7 * f + 2))
    · rw [if_pos c]
      refine fcL_s hL hB hl hs l2 (l1 ++ [x]) _ e2 (hb.yes hx (decide_eq_true (by have := hd.mp c.1; rw [e4p] at this; exact this)) (by omega) (fun i r ei hi _ => ?_))
      have r0 := (hl.1 r (mem_at hi)).1
      have c2 := c.2
      rw [x2, ei, hL.at hi (c := 2) (by decide) (by decide)] at c2
      unfold tuR
      omega
    · rw [if_neg c]
      refine fcL_s hL hB hl hs l2 (l1 ++ [x]) f e2 (hb.no (fun d1 d2 => ?_))
      have c2 : ¬ (f < 0 ∨ mg s (d * 2804 + 364 + 7 * (l1.length : Int) + 2) < mg s (d * 2804 + 364 + 7 * f + 2)) := fun z => c ⟨hd.mpr (by rw [e4p]; exact of_decide_eq_true d1), z⟩
      rw [x2] at c2
      refine ⟨by omega, fun i r ei hi hm => ?_⟩
      obtain ⟨r0, ⟨r1, r2, r3⟩, -⟩ := hl.1 r (mem_at hi)
      obtain ⟨-, ⟨y1, y2, y3⟩, -⟩ := hgx
      have hbf := bef_at hl e hm
      have ga0 := hs.2.1.1
      rw [ei, hL.at hi (c := 2) (by decide) (by decide)] at c2
      unfold bef at hbf
      unfold tuR
      omega
theorem firstC_s {d : Int} {s : MS} {l : List Row} {g : Int → Int} {ga la p : Int} (hL : lsM d s l) (hB : sB d s g) (hl : gdL ga l) (hs : stG g ga la p) : bst (ovB ga la p) (-1) l l (mFirstC s d) := by
  have := fcL_s hL hB hl hs l [] (-1) rfl (Or.inl ⟨rfl, fun x hx => absurd hx List.not_mem_nil⟩)
  unfold mFirstC
  rw [hL.1.1, show ((l.length : Int)).toNat = l.length by omega]
  exact this
end
-- 989656.of
section
/-! ===== the model: its two loops, then progress rises: what it leaves ===== -/
theorem gdL.map {ga : Int} {G : Row → Row} (hG : ∀ x, gR x → gR (G x) ∧ G x 0 = x 0 ∧ G x 1 = x 1 ∧ G x 2 = x 2) : ∀ {l : List Row}, gdL ga l → gdL ga (l.map G)
  | [], _ => ⟨fun r hr => absurd hr List.not_mem_nil, List.Pairwise.nil⟩
  | a :: l, h => by
    obtain ⟨h1, h2⟩ := List.pairwise_cons.mp h.2
    have ih := gdL.map hG h.tl
    obtain ⟨q0, q1, q2, q3⟩ := hG a (h.1 a List.mem_cons_self)
    refine ⟨fun r hr => ?_, List.pairwise_cons.mpr ⟨fun y hy => ?_, ih.2⟩⟩
    · rcases List.mem_cons.mp hr with hr | hr
      · rw [hr]; exact q0
      · exact ih.1 r hr
    · obtain ⟨x, hx, ex⟩ := List.mem_map.mp hy
      obtain ⟨-, p1, p2, p3⟩ := hG x (h.1 x (List.mem_cons_of_mem a hx))
      have := h1 x hx
      rw [← ex]
      unfold bef at this ⊢
      rw [q1, q3, p1, p2]
      exact this
theorem gdL.flt {ga : Int} {H : Row → Bool} : ∀ {l : List Row}, gdL ga l → gdL ga (l.filter H)
  | [], h => h
  | a :: l, h => by
    obtain ⟨h1, h2⟩ := List.pairwise_cons.mp h.2
    have ih := gdL.flt (H := H) h.tl
    by_cases c : H a = true
    · rw [List.filter_cons_of_pos c]
      refine ⟨fun r hr => ?_, List.pairwise_cons.mpr ⟨fun y hy => h1 y (List.mem_filter.mp hy).1, ih.2⟩⟩
      rcases List.mem_cons.mp hr with hr | hr
      · rw [hr]; exact h.1 a List.mem_cons_self
      · exact ih.1 r hr
    · rw [List.filter_cons_of_neg c]
      exact ih
/-- ripe ones up to a turn -/
def mpM (ga wa p T : Int) (x : Row) : Row := if newB ga wa p x = true ∧ tuR x ≤ T then up1 x 6 2 else x
theorem mpM_tu {ga wa p T : Int} {x : Row} : tuR (mpM ga wa p T x) = tuR x := by
  unfold mpM
  split
  · exact up1_tu
  · rfl
theorem mpM_g {ga wa p T : Int} (x : Row) (h : gR x) : gR (mpM ga wa p T x) ∧ mpM ga wa p T x 0 = x 0 ∧ mpM ga wa p T x 1 = x 1 ∧ mpM ga wa p T x 2 = x 2 := by
  unfold mpM
  split
  · exact ⟨h.up (by decide), up1_6.1, up1_6.2.1, up1_6.2.2.1⟩
  · exact ⟨h, rfl, rfl, rfl⟩
theorem mpM_m {ga wa p T : Int} {l : List Row} {x : Row} (h : T < tuR x) : x ∈ l.map (mpM ga wa p T) ↔ x ∈ l := by
  constructor
  · intro q
    obtain ⟨y, hy, e⟩ := List.mem_map.mp q
    by_cases c : newB ga wa p y = true ∧ tuR y ≤ T
    · have := mpM_tu (ga := ga) (wa := wa) (p := p) (T := T) (x := y)
      rw [e] at this
      omega
    · have : mpM ga wa p T y = y := if_neg c
      rw [this] at e
      rw [← e]
      exact hy
  · intro q
    exact List.mem_map.mpr ⟨x, q, if_neg (fun z => by omega)⟩
theorem mpM_s {ga wa p T : Int} {l : List Row} {i : Nat} {r : Row} (g0 : 0 ≤ ga) (hl : gdL ga l) (hr : r ∈ l) (hd : newB ga wa p r = true) (hT : T < tuR r) (hm : ∀ x, x ∈ l → newB ga wa p x = true → T < tuR x → tuR r ≤ tuR x) (hi : (l.map (mpM ga wa p T))[i]? = some r) : (l.map (mpM ga wa p T)).set i (up1 r 6 2) = l.map (mpM ga wa p (tuR r)) := by
  have inj := (hl.dt g0).inj
  rw [set_f (fun y => up1 y 6 2) _ i r hi ((hl.map mpM_g).dt g0), List.map_map]
  refine List.map_congr_left (fun x hx => ?_)
  show (if tuR (mpM ga wa p T x) = tuR r then up1 (mpM ga wa p T x) 6 2 else mpM ga wa p T x) = mpM ga wa p (tuR r) x
  rw [mpM_tu]
  by_cases q : tuR x = tuR r
  · have : x = r := inj x r hx hr q
    subst this
    rw [if_pos q]
    unfold mpM
    rw [if_neg (fun z => by omega), if_pos ⟨hd, Int.le_refl _⟩]
  · rw [if_neg q]
    unfold mpM
    by_cases c : newB ga wa p x = true ∧ tuR x ≤ T
    · rw [if_pos c, if_pos ⟨c.1, by omega⟩]
    · rw [if_neg c, if_neg (fun z => ?_)]
      by_cases zt : T < tuR x
      · have := hm x hx z.1 zt
        have := z.2
        omega
      · exact c ⟨z.1, by omega⟩
def rmG (g : Int → Int) (r : Row) : Int → Int := sn1 (tkG g r) 1 r
theorem b7.rm {b : Int} {g : Int → Int} {r : Row} (h : b7 b g) (hb : b + 2 < 1000000) (hr : gR r) : b7 (b + 2) (rmG g r) := by
  have := (h.tk (by omega) hr).sn (kd := 1) (by omega) (by decide) hr
  exact ⟨this.1, Int.le_trans this.2 (by omega)⟩
theorem tkG_ne {g : Int → Int} {r : Row} {c : Int} (h7 : 0 ≤ g 7) (hr : gR r) (hc : c < 7 ∨ (8 ≤ c ∧ c < 32) ∨ (36 ≤ c ∧ c < 60) ∨ (84 ≤ c ∧ c < 1484) ∨ 1844 ≤ c) : tkG g r c = g c := by
  unfold tkG
  split
  · exact sn1_ne h7 (by decide) hr.1 hc
  · rfl
theorem rmG_ne {b : Int} {g : Int → Int} {r : Row} {c : Int} (h : b7 b g) (hb : b < 1000000) (hr : gR r) (hc : c < 7 ∨ (8 ≤ c ∧ c < 32) ∨ (36 ≤ c ∧ c < 60) ∨ (84 ≤ c ∧ c < 1484) ∨ 1844 ≤ c) : rmG g r c = g c := by
  unfold rmG
  rw [sn1_ne (h.tk hb hr).1 (by decide) hr.1 hc, tkG_ne h.1 hr hc]
theorem rrS {d wa ga la p : Int} {K : MS → Prop} (hd : 0 ≤ d) {l : List Row} (hl : gdL ga l) : ∀ (n : Nat) (L : List Row) (T b : Int) (s : MS) (g : Int → Int), rrP d wa K n (mFirstR s d wa) s → lsM d s (l.map (mpM ga wa p T)) → sB d s g → stG g ga la p → (T = 6 * s.1 10 + s.1 11 ∧ -1 ≤ s.1 11 ∧ s.1 11 ≤ 5) → chn (newB ga wa p) l T L → b7 b g → b + 2 * L.length + 2 < 1000000 → rrP d wa (fun s' => K s' ∧ ∃ T', (∀ x, x ∈ l → newB ga wa p x = true → tuR x ≤ T') ∧ lsM d s' (l.map (mpM ga wa p T')) ∧ sB d s' (L.foldl rmG g)) n (mFirstR s d wa) s := by
  intro n
  induction n with
  | zero =>
    intro L T b s g h hL hB hs hT hc h7 hb
    refine ⟨h.1, h.2, ?_⟩
    cases L with
    | nil => exact ⟨T, hc, hL, hB⟩
    | cons r L =>
      exfalso
      rcases firstR_s (wa := wa) hL hB (hl.map mpM_g) hs hT with ⟨-, q⟩ | ⟨i, r', e, -⟩
      · have := q r ((mpM_m hc.1.2.2.1).mpr hc.1.1) hc.1.2.1
        have := hc.1.2.2.1
        omega
      · have := h.1
        omega
  | succ n ih =>
    intro L T b s g h hL hB hs hT hc h7 hb
    have hF := firstR_s (wa := wa) hL hB (hl.map mpM_g) hs hT
    refine ⟨fun q => ⟨h.1 q, ?_⟩, fun q => ⟨(h.2 q).1, ?_⟩⟩
    · cases L with
      | nil => exact ⟨T, hc, hL, hB⟩
      | cons r L =>
        exfalso
        rcases hF with ⟨-, z⟩ | ⟨i, r', e, -⟩
        · have := z r ((mpM_m hc.1.2.2.1).mpr hc.1.1) hc.1.2.1
          have := hc.1.2.2.1
          omega
        · omega
    · have h2 := (h.2 q).2
      rcases hF with ⟨e, -⟩ | ⟨i, r', ei, hi, hm, hP, hTr, hmin⟩
      · omega
      · have hm' := (mpM_m hTr).mp hm
        cases L with
        | nil =>
          have := hc r' hm' hP
          omega
        | cons r L =>
          obtain ⟨⟨c1, c2, c3, c4⟩, hc2⟩ := hc
          have a1 := c4 r' hm' hP hTr
          have a2 := hmin r ((mpM_m c3).mpr c1) c2 c3
          have g0 := hs.2.1.1
          have er : r' = r := (hl.dt g0).inj r' r hm' c1 (by omega)
          subst er
          have hg := hl.1 r' c1
          rw [List.length_cons] at hb
          rw [ei] at h2 ⊢
          obtain ⟨t1, t2, t3⟩ := tkM hL hB hd hi hg h7.1
          have h7' := h7.tk (by omega) hg
          obtain ⟨u1', u2'⟩ := snM (kd := 1) t1 t2 hd (set_at hi) h7'.1 (by decide) (hg.up (v := 0) (by decide)).1
          have u1 : lsM d (mSend (mTake s d i) d 1 i) (((l.map (mpM ga wa p T)).set i (up1 r' 6 0)).set i (up1 (up1 r' 6 0) 6 2)) := u1'
          have u2 : sB d (mSend (mTake s d i) d 1 i) (sn1 (tkG g r') 1 (up1 r' 6 0)) := u2'
          rw [List.set_set, up1_up1] at u1
          rw [sn1_up] at u2
          have w2 := u1.at (set_at hi) (c := 2) (by decide) (by decide)
          have w0 := u1.at (set_at hi) (c := 0) (by decide) (by decide)
          rw [up1_6.2.2.1] at w2
          rw [up1_6.1] at w0
          have v1 : lsM d (mRi1 s d i) (l.map (mpM ga wa p (tuR r'))) := by
            rw [← mpM_s g0 hl c1 c2 c3 c4 hi]
            exact u1.cong rfl
          have v2 : sB d (mRi1 s d i) (rmG g r') := u2.cong rfl
          have v10 : (mRi1 s d i).1 10 = r' 2 := w2
          have v11 : (mRi1 s d i).1 11 = r' 0 := w0
          exact ih L (tuR r') (b + 2) (mRi1 s d i) (rmG g r') h2 v1 v2 (hs.of (fun c c0 c1 => rmG_ne h7 (by omega) hg (by omega))) ⟨by rw [v10, v11]; unfold tuR; omega, by rw [v11]; have := hg.1; omega, by rw [v11]; have := hg.1; omega⟩ hc2 (h7.rm (by omega) hg) (by omega)
/-! what closes -/
def kpC (ga la p T : Int) (x : Row) : Bool := !(ovB ga la p x && decide (tuR x ≤ T))
theorem kpC_t {ga la p T : Int} {x : Row} (h : ¬ (ovB ga la p x = true ∧ tuR x ≤ T)) : kpC ga la p T x = true := by
  unfold kpC
  cases e : ovB ga la p x with
  | false => rfl
  | true =>
    rw [decide_eq_false (fun z => h ⟨e, z⟩)]
    rfl
theorem kpC_f {ga la p T : Int} {x : Row} (h : ovB ga la p x = true ∧ tuR x ≤ T) : ¬ kpC ga la p T x = true := by
  unfold kpC
  rw [h.1, decide_eq_true h.2]
  decide
theorem kpC_m {ga la p T : Int} {l : List Row} {x : Row} (h : T < tuR x) : x ∈ l.filter (kpC ga la p T) ↔ x ∈ l :=
  ⟨fun q => (List.mem_filter.mp q).1, fun q => List.mem_filter.mpr ⟨q, kpC_t (fun z => by omega)⟩⟩
theorem kpC_s {ga la p T : Int} {l : List Row} {i : Nat} {r : Row} (g0 : 0 ≤ ga) (hl : gdL ga l) (hr : r ∈ l) (hd : ovB ga la p r = true) (hT : T < tuR r) (hm : ∀ x, x ∈ l → ovB ga la p x = true → T < tuR x → tuR r ≤ tuR x) (hi : (l.filter (kpC ga la p T))[i]? = some r) : (l.filter (kpC ga la p T)).eraseIdx i = l.filter (kpC ga la p (tuR r)) := by
  have inj := (hl.dt g0).inj
  rw [erase_f _ i r hi ((hl.flt).dt g0), List.filter_filter]
  refine List.filter_congr (fun x hx => ?_)
  by_cases q : tuR x = tuR r
  · have : x = r := inj x r hx hr q
    subst this
    have a : neR x x = false := Bool.eq_false_iff.mpr (neR_f rfl)
    have b : kpC ga la p (tuR x) x = false := Bool.eq_false_iff.mpr (kpC_f ⟨hd, Int.le_refl _⟩)
    rw [a, b]
    rfl
  · rw [neR_t q, Bool.true_and]
    by_cases c : ovB ga la p x = true ∧ tuR x ≤ T
    · rw [Bool.eq_false_iff.mpr (kpC_f c), Bool.eq_false_iff.mpr (kpC_f (T := tuR r) ⟨c.1, by omega⟩)]
    · rw [kpC_t c, kpC_t (fun z => ?_)]
      by_cases zt : T < tuR x
      · have := hm x hx z.1 zt
        have := z.2
        omega
      · exact c ⟨z.1, by omega⟩
theorem fn1_ne {g : Int → Int} {r : Row} {c : Int} (h : 0 ≤ sm6 g) (hr : 0 ≤ r 0 ∧ r 0 < 6) (hc : c < 36 ∨ (60 ≤ c ∧ c < 84) ∨ 364 ≤ c) : fn1 g r c = g c := by
  have t := tm40 h
  unfold fn1
  generalize Int.tmod (sm6 g) 40 = q at t
  rw [up1_ne (by omega), in1_ne (by omega), in1_ne (by omega), in1_ne (by omega), up1_ne (by omega), up1_ne (by omega), up1_ne (by omega), up1_ne (by omega), up1_ne (by omega), up1_ne (by omega), up1_ne (by omega)]
theorem ccS {d ga la p : Int} {K : MS → Prop} (hd : dOk d) {l : List Row} (hl : gdL ga l) : ∀ (n : Nat) (L : List Row) (T b : Int) (s : MS) (g : Int → Int), ccP d K n (mFirstC s d) s → lsM d s (l.filter (kpC ga la p T)) → sB d s g → stG g ga la p → chn (ovB ga la p) l T L → b36 b g → b + L.length + 1 < 1000000 → ccP d (fun s' => K s' ∧ ∃ T', (∀ x, x ∈ l → ovB ga la p x = true → tuR x ≤ T') ∧ lsM d s' (l.filter (kpC ga la p T')) ∧ sB d s' (L.foldl fn1 g)) n (mFirstC s d) s := by
  intro n
  induction n with
  | zero =>
    intro L T b s g h hL hB hs hc h36 hb
    refine ⟨h.1, h.2, ?_⟩
    cases L with
    | nil => exact ⟨T, hc, hL, hB⟩
    | cons r L =>
      exfalso
      rcases firstC_s hL hB hl.flt hs with ⟨-, q⟩ | ⟨i, r', e, -⟩
      · have := q r ((kpC_m hc.1.2.2.1).mpr hc.1.1) hc.1.2.1
        have := (hl.1 r hc.1.1).tu
        omega
      · have := h.1
        omega
  | succ n ih =>
    intro L T b s g h hL hB hs hc h36 hb
    have hF := firstC_s hL hB hl.flt hs
    have none : ∀ x, x ∈ l → ovB ga la p x = true → tuR x ≤ T → ¬ x ∈ l.filter (kpC ga la p T) := fun x _ ho ht z => kpC_f ⟨ho, ht⟩ (List.mem_filter.mp z).2
    refine ⟨fun q => ⟨h.1 q, ?_⟩, fun q => ⟨(h.2 q).1, ?_⟩⟩
    · cases L with
      | nil => exact ⟨T, hc, hL, hB⟩
      | cons r L =>
        exfalso
        rcases hF with ⟨-, z⟩ | ⟨i, r', e, -⟩
        · have := z r ((kpC_m hc.1.2.2.1).mpr hc.1.1) hc.1.2.1
          have := (hl.1 r hc.1.1).tu
          omega
        · omega
    · have h2 := (h.2 q).2
      rcases hF with ⟨e, -⟩ | ⟨i, r', ei, hi, hm, hP, hTr, hmin⟩
      · omega
      · have hm' := (List.mem_filter.mp hm).1
        have hTr' : T < tuR r' := by
          by_cases z : tuR r' ≤ T
          · exact absurd hm (none r' hm' hP z)
          · omega
        cases L with
        | nil =>
          have := hc r' hm' hP
          omega
        | cons r L =>
          obtain ⟨⟨c1, c2, c3, c4⟩, hc2⟩ := hc
          have a1 := c4 r' hm' hP hTr'
          have a2 := hmin r ((kpC_m c3).mpr c1) c2 (by have := (hl.1 r c1).tu; omega)
          have g0 := hs.2.1.1
          have er : r' = r := (hl.dt g0).inj r' r hm' c1 (by omega)
          subst er
          have hg := hl.1 r' c1
          rw [List.length_cons] at hb
          rw [ei] at h2 ⊢
          have hbd := h36.bd (by omega)
          obtain ⟨v1, v2, -⟩ := clM hL hB hd hi hg hbd
          rw [kpC_s g0 hl c1 c2 c3 c4 hi] at v1
          have s0 := (fn1_s (r := r') hbd hg.1).2.1
          exact ih L (tuR r') (b + 1) (mClose s d i) (fn1 g r') h2 v1 v2 (hs.of (fun c c0 c1 => fn1_ne s0 hg.1 (by omega))) hc2 (h36.fn (by omega) hg) (by omega)
end
-- 989657.og
section
/-! ===== progress rises: class and model leave the same ===== -/
def mC (c : Int) : Prop := c = 7 ∨ (60 ≤ c ∧ c < 84) ∨ (1484 ≤ c ∧ c < 1844)
def fC (c : Int) : Prop := (36 ≤ c ∧ c < 60) ∨ (84 ≤ c ∧ c < 364)
theorem msW.cong {w : WS} {g g' : Int → Int} (h : msW w g) (e : ∀ c, mC c → g' c = g c) : msW w g' := by
  obtain ⟨a, b, c⟩ := h
  have e7 := e 7 (Or.inl rfl)
  refine ⟨by rw [e7]; exact a, fun q j q0 q1 q2 j0 j1 => ?_, fun k j k0 k1 j0 j1 => ?_⟩
  · rw [e7] at q2
    rw [e _ (by unfold mC; omega)]
    exact b q j q0 q1 q2 j0 j1
  · rw [e _ (by unfold mC; omega)]
    exact c k j k0 k1 j0 j1
theorem sm6_c {g g' : Int → Int} (e : ∀ c, fC c → g' c = g c) : sm6 g' = sm6 g := sumI_c _ _ 6 0 0 (fun j j0 j1 => e _ (by unfold fC; omega))
theorem fiW.cong {w : WS} {g g' : Int → Int} (h : fiW w g) (e : ∀ c, fC c → g' c = g c) : fiW w g' := by
  obtain ⟨a, b, c⟩ := h
  have e6 := sm6_c e
  refine ⟨by rw [e6]; exact a, fun q j q0 q1 q2 j0 j1 => ?_, fun k k0 k1 => ?_⟩
  · rw [e6] at q2
    rw [e _ (by unfold fC; omega)]
    exact b q j q0 q1 q2 j0 j1
  · rw [e (36 + k) (by unfold fC; omega), e (42 + k) (by unfold fC; omega), e (48 + k) (by unfold fC; omega), e (54 + k) (by unfold fC; omega)]
    exact c k k0 k1
/-- two that are alike on some cells: told alike -/
theorem up1_cg {g g' : Int → Int} {c v x : Int} (h : g' x = g x) : up1 g' c v x = up1 g c v x := by
  by_cases e : x = c
  · subst e; rw [up1_eq, up1_eq]
  · rw [up1_ne e, up1_ne e]; exact h
theorem in1_cg {g g' : Int → Int} {c v x : Int} (h : g' x = g x) (hc : x = c → g' c = g c) : in1 g' c v x = in1 g c v x := by
  unfold in1
  by_cases e : x = c
  · rw [hc e]; exact up1_cg h
  · rw [up1_ne e, up1_ne e]; exact h
theorem sn1_cg {g g' : Int → Int} {kd : Int} {r : Row} (h : ∀ c, mC c → g' c = g c) (hk : 0 ≤ kd ∧ kd < 4) (hr : 0 ≤ r 0 ∧ r 0 < 6) : ∀ c, mC c → sn1 g' kd r c = sn1 g kd r c := by
  intro c hc
  unfold sn1
  rw [h 7 (Or.inl rfl)]
  have six : ∀ x, mC x → (up1 (up1 (up1 (up1 (up1 (up1 g' (1484 + 6 * Int.tmod (g 7) 60 + 0) kd) (1484 + 6 * Int.tmod (g 7) 60 + 1) (r 0)) (1484 + 6 * Int.tmod (g 7) 60 + 2) (r 1)) (1484 + 6 * Int.tmod (g 7) 60 + 3) (r 2)) (1484 + 6 * Int.tmod (g 7) 60 + 4) (r 3)) (1484 + 6 * Int.tmod (g 7) 60 + 5) (r 4)) x = (up1 (up1 (up1 (up1 (up1 (up1 g (1484 + 6 * Int.tmod (g 7) 60 + 0) kd) (1484 + 6 * Int.tmod (g 7) 60 + 1) (r 0)) (1484 + 6 * Int.tmod (g 7) 60 + 2) (r 1)) (1484 + 6 * Int.tmod (g 7) 60 + 3) (r 2)) (1484 + 6 * Int.tmod (g 7) 60 + 4) (r 3)) (1484 + 6 * Int.tmod (g 7) 60 + 5) (r 4)) x := fun x hx => up1_cg (up1_cg (up1_cg (up1_cg (up1_cg (up1_cg (h x hx))))))
  generalize (up1 (up1 (up1 (up1 (up1 (up1 g' (1484 + 6 * Int.tmod (g 7) 60 + 0) kd) (1484 + 6 * Int.tmod (g 7) 60 + 1) (r 0)) (1484 + 6 * Int.tmod (g 7) 60 + 2) (r 1)) (1484 + 6 * Int.tmod (g 7) 60 + 3) (r 2)) (1484 + 6 * Int.tmod (g 7) 60 + 4) (r 3)) (1484 + 6 * Int.tmod (g 7) 60 + 5) (r 4)) = u' at six ⊢
  generalize (up1 (up1 (up1 (up1 (up1 (up1 g (1484 + 6 * Int.tmod (g 7) 60 + 0) kd) (1484 + 6 * Int.tmod (g 7) 60 + 1) (r 0)) (1484 + 6 * Int.tmod (g 7) 60 + 2) (r 1)) (1484 + 6 * Int.tmod (g 7) 60 + 3) (r 2)) (1484 + 6 * Int.tmod (g 7) 60 + 4) (r 3)) (1484 + 6 * Int.tmod (g 7) 60 + 5) (r 4)) = u at six ⊢
  have s1 : ∀ x, mC x → in1 u' 7 1 x = in1 u 7 1 x := fun x hx => in1_cg (six x hx) (fun _ => six 7 (Or.inl rfl))
  have s2 : ∀ x, mC x → in1 (in1 u' 7 1) (32 + kd) 1 x = in1 (in1 u 7 1) (32 + kd) 1 x := fun x hx => in1_cg (s1 x hx) (fun e => by unfold mC at hx; omega)
  exact in1_cg (s2 c hc) (fun e => s2 _ (by unfold mC; omega))
theorem tkG_cg {g g' : Int → Int} {r : Row} (h : ∀ c, mC c → g' c = g c) (hr : gR r) : ∀ c, mC c → tkG g' r c = tkG g r c := by
  intro c hc
  unfold tkG
  split
  · exact sn1_cg h (by decide) hr.1 c hc
  · exact h c hc
theorem rmG_cg {g g' : Int → Int} {r : Row} (h : ∀ c, mC c → g' c = g c) (hr : gR r) : ∀ c, mC c → rmG g' r c = rmG g r c :=
  sn1_cg (tkG_cg h hr) (by decide) hr.1
theorem fn1_cg {g g' : Int → Int} {r : Row} (h : ∀ c, fC c → g' c = g c) (hr : 0 ≤ r 0 ∧ r 0 < 6) : ∀ c, fC c → fn1 g' r c = fn1 g r c := by
  intro c hc
  unfold fn1
  rw [sm6_c h, h (54 + r 0) (by unfold fC; omega)]
  refine up1_cg ?_
  have seven : ∀ x, fC x → (up1 (up1 (up1 (up1 (up1 (up1 (up1 g' (84 + 7 * Int.tmod (sm6 g) 40 + 0) (r 0)) (84 + 7 * Int.tmod (sm6 g) 40 + 1) (r 1)) (84 + 7 * Int.tmod (sm6 g) 40 + 2) (r 2)) (84 + 7 * Int.tmod (sm6 g) 40 + 3) (r 3)) (84 + 7 * Int.tmod (sm6 g) 40 + 4) (r 4)) (84 + 7 * Int.tmod (sm6 g) 40 + 5) (r 5)) (84 + 7 * Int.tmod (sm6 g) 40 + 6) (r 6)) x = (up1 (up1 (up1 (up1 (up1 (up1 (up1 g (84 + 7 * Int.tmod (sm6 g) 40 + 0) (r 0)) (84 + 7 * Int.tmod (sm6 g) 40 + 1) (r 1)) (84 + 7 * Int.tmod (sm6 g) 40 + 2) (r 2)) (84 + 7 * Int.tmod (sm6 g) 40 + 3) (r 3)) (84 + 7 * Int.tmod (sm6 g) 40 + 4) (r 4)) (84 + 7 * Int.tmod (sm6 g) 40 + 5) (r 5)) (84 + 7 * Int.tmod (sm6 g) 40 + 6) (r 6)) x := fun x hx => up1_cg (up1_cg (up1_cg (up1_cg (up1_cg (up1_cg (up1_cg (h x hx)))))))
  generalize (up1 (up1 (up1 (up1 (up1 (up1 (up1 g' (84 + 7 * Int.tmod (sm6 g) 40 + 0) (r 0)) (84 + 7 * Int.tmod (sm6 g) 40 + 1) (r 1)) (84 + 7 * Int.tmod (sm6 g) 40 + 2) (r 2)) (84 + 7 * Int.tmod (sm6 g) 40 + 3) (r 3)) (84 + 7 * Int.tmod (sm6 g) 40 + 4) (r 4)) (84 + 7 * Int.tmod (sm6 g) 40 + 5) (r 5)) (84 + 7 * Int.tmod (sm6 g) 40 + 6) (r 6)) = u' at seven ⊢
  generalize (up1 (up1 (up1 (up1 (up1 (up1 (up1 g (84 + 7 * Int.tmod (sm6 g) 40 + 0) (r 0)) (84 + 7 * Int.tmod (sm6 g) 40 + 1) (r 1)) (84 + 7 * Int.tmod (sm6 g) 40 + 2) (r 2)) (84 + 7 * Int.tmod (sm6 g) 40 + 3) (r 3)) (84 + 7 * Int.tmod (sm6 g) 40 + 4) (r 4)) (84 + 7 * Int.tmod (sm6 g) 40 + 5) (r 5)) (84 + 7 * Int.tmod (sm6 g) 40 + 6) (r 6)) = u at seven ⊢
  have s1 : ∀ x, fC x → in1 u' (36 + r 0) 1 x = in1 u (36 + r 0) 1 x := fun x hx => in1_cg (seven x hx) (fun _ => seven _ (by unfold fC; omega))
  have s2 : ∀ x, fC x → in1 (in1 u' (36 + r 0) 1) (42 + r 0) (r 3) x = in1 (in1 u (36 + r 0) 1) (42 + r 0) (r 3) x := fun x hx => in1_cg (s1 x hx) (fun _ => s1 _ (by unfold fC; omega))
  exact in1_cg (s2 c hc) (fun _ => s2 _ (by unfold fC; omega))
theorem foldl_cg {C : Int → Prop} {f : (Int → Int) → Row → Int → Int} (hf : ∀ (g g' : Int → Int) (r : Row), gR r → (∀ c, C c → g' c = g c) → ∀ c, C c → f g' r c = f g r c) : ∀ (L : List Row) (g g' : Int → Int), (∀ r, r ∈ L → gR r) → (∀ c, C c → g' c = g c) → ∀ c, C c → L.foldl f g' c = L.foldl f g c
  | [], _, _, _, h => h
  | r :: L, g, g', hL, h => foldl_cg hf L _ _ (fun x hx => hL x (List.mem_cons_of_mem r hx)) (hf g g' r (hL r List.mem_cons_self) h)
theorem rm_fold {C : Int → Prop} (hC : ∀ c, C c → c < 7 ∨ (8 ≤ c ∧ c < 32) ∨ (36 ≤ c ∧ c < 60) ∨ (84 ≤ c ∧ c < 1484) ∨ 1844 ≤ c) : ∀ (L : List Row) (b : Int) (g : Int → Int), (∀ r, r ∈ L → gR r) → b7 b g → b + 2 * L.length < 1000000 → b7 (b + 2 * L.length) (L.foldl rmG g) ∧ ∀ c, C c → L.foldl rmG g c = g c
  | [], b, g, _, h7, hb => ⟨⟨h7.1, by have := h7.2; show g 7 ≤ b + 2 * (0 : Nat); omega⟩, fun _ _ => rfl⟩
  | r :: L, b, g, hL, h7, hb => by
    rw [List.length_cons] at hb ⊢
    have hg := hL r List.mem_cons_self
    obtain ⟨a, e⟩ := rm_fold hC L (b + 2) (rmG g r) (fun x hx => hL x (List.mem_cons_of_mem r hx)) (h7.rm (by omega) hg) (by omega)
    exact ⟨⟨a.1, by have := a.2; show _ ≤ b + 2 * ((L.length + 1 : Nat) : Int); have z := a.2; exact Int.le_trans z (by omega)⟩, fun c hc => (e c hc).trans (rmG_ne h7 (by omega) hg (hC c hc))⟩
theorem fn_fold {C : Int → Prop} (hC : ∀ c, C c → c < 36 ∨ (60 ≤ c ∧ c < 84) ∨ 364 ≤ c) : ∀ (L : List Row) (b : Int) (g : Int → Int), (∀ r, r ∈ L → gR r) → b36 b g → b + L.length < 1000000 → b36 (b + L.length) (L.foldl fn1 g) ∧ ∀ c, C c → L.foldl fn1 g c = g c
  | [], b, g, _, h, hb => ⟨fun k k0 k1 => ⟨(h k k0 k1).1, by have := (h k k0 k1).2; show g (36 + k) ≤ b + (0 : Nat); omega⟩, fun _ _ => rfl⟩
  | r :: L, b, g, hL, h, hb => by
    rw [List.length_cons] at hb ⊢
    have hg := hL r List.mem_cons_self
    obtain ⟨a, e⟩ := fn_fold hC L (b + 1) (fn1 g r) (fun x hx => hL x (List.mem_cons_of_mem r hx)) (h.fn (by omega) hg) (by omega)
    exact ⟨fun k k0 k1 => ⟨(a k k0 k1).1, Int.le_trans (a k k0 k1).2 (by omega)⟩, fun c hc => (e c hc).trans (fn1_ne (fn1_s (r := r) (h.bd (by omega)) hg.1).2.1 hg.1 (hC c hc))⟩
/-- all that are due, told and closed -/
def fnC (ga la be p : Int) (x : Row) : Option Row := if dueB ga la be p x = true then (if ovB ga la p x = true then none else some (nwR ga be p x)) else some x
theorem ov_due {ga la be p : Int} (hl : 0 ≤ la) {x : Row} (h : ovB ga la p x = true) : dueB ga la be p x = true := by
  have := of_decide_eq_true h
  exact decide_eq_true ⟨by omega, fun z => z.2 this⟩
theorem new_due {ga la be p : Int} {x : Row} (h : newB ga be p x = true) : dueB ga la be p x = true := by
  have := of_decide_eq_true h
  exact decide_eq_true ⟨this.1, fun z => this.2 z.1⟩
theorem chn_map {P : Row → Bool} {G : Row → Row} {l : List Row} (hG : ∀ x, tuR (G x) = tuR x ∧ P (G x) = P x) : ∀ (L : List Row) (T : Int), chn P l T L → chn P (l.map G) T (L.map G)
  | [], T, h => fun x hx hP => by
    obtain ⟨y, hy, e⟩ := List.mem_map.mp hx
    rw [← e, (hG y).2] at hP
    rw [← e, (hG y).1]
    exact h y hy hP
  | r :: L, T, h => by
    have ih := chn_map hG L (tuR r) h.2
    refine ⟨⟨List.mem_map.mpr ⟨r, h.1.1, rfl⟩, (hG r).2.trans h.1.2.1, by rw [(hG r).1]; exact h.1.2.2.1, fun x hx hP ht => ?_⟩, by rw [(hG r).1]; exact ih⟩
    obtain ⟨y, hy, e⟩ := List.mem_map.mp hx
    rw [← e, (hG y).2] at hP
    rw [← e, (hG y).1] at ht
    rw [← e, (hG y).1, (hG r).1]
    exact h.1.2.2.2 y hy hP ht
theorem chn_mem {P : Row → Bool} {l : List Row} : ∀ (L : List Row) (T : Int), chn P l T L → ∀ r, r ∈ L → r ∈ l
  | [], _, _, _, hr => absurd hr List.not_mem_nil
  | a :: L, T, h, r, hr => by
    rcases List.mem_cons.mp hr with e | e
    · rw [e]; exact h.1.1
    · exact chn_mem L (tuR a) h.2 r e
/-- what rising makes of the told and the closed -/
def riG (ga la be p : Int) (L : List Row) (g : Int → Int) : Int → Int := ((L.filter (ovB ga la p)).map (nwR ga be p)).foldl fn1 ((L.filter (newB ga be p)).foldl rmG (up1 g 4 p))
theorem rise_c {w : WS} {l L : List Row} {g : Int → Int} {ga la be p b : Int} (h : cW w l g g) (hl : gdL ga l) (hs : stW w ga la) (hp : w.1 3 = be) (hle : wLeast w (-1) = p) (hlt : be < p) (hc : chn (dueB ga la be p) l (-1) L) (hL : L.length ≤ l.length) (h7 : b7 b g) (h36 : b36 b g) (hb : b + 2 * L.length + 2 < 1000000) : cW (wRise w) (l.filterMap (fnC ga la be p)) (riG ga la be p L g) (riG ga la be p L g) ∧ stW (wRise w) ga la ∧ (wRise w).1 3 = p := by
  have h0 : cW (wFd w 3 p) (l.filterMap (cuC ga la be p (-1))) g g := by
    have e : l.filterMap (cuC ga la be p (-1)) = l := by
      have : ∀ x, x ∈ l → cuC ga la be p (-1) x = some x := fun x hx => if_neg (fun z => by have := (hl.1 x hx).tu; have := z.2; omega)
      rw [cut_c l this, List.filterMap_some]
    rw [e]
    exact h.of rfl rfl (fun _ _ => rfl)
  obtain ⟨T', t1, t2, t3, t4, t5⟩ := riseL_s hl L (wZ w 1).toNat (-1) b (wFd w 3 p) g g h0 hs rfl hc (by have := h.1.1.1; omega) h7 h36 hb
  have eR : wRise w = riseL be (wZ w 1).toNat (-1) (wFd w 3 p) := by
    unfold wRise
    rw [hle, hp, if_neg (by omega)]
  rw [eR]
  have el : l.filterMap (cuC ga la be p T') = l.filterMap (fnC ga la be p) := cut_c (F := fnC ga la be p) (F' := cuC ga la be p T') l (fun x hx => by
    unfold cuC fnC
    by_cases c : dueB ga la be p x = true
    · rw [if_pos ⟨c, t2 x hx c⟩, if_pos c]
    · rw [if_neg (fun z => c z.1), if_neg c])
  have hLg : ∀ r, r ∈ L → gR r := fun r hr => hl.1 r (chn_mem L (-1) hc r hr)
  have e1 : L.foldl (mfR ga be p) g = (L.filter (newB ga be p)).foldl rmG g := (fold_f (newB ga be p) rmG L g).symm
  have e2 : L.foldl (ffR ga la be p) g = ((L.filter (ovB ga la p)).map (nwR ga be p)).foldl fn1 g := by
    rw [List.foldl_map, fold_f]
    rfl
  rw [el, e1, e2] at t3
  have lf : ∀ Q : Row → Bool, (L.filter Q).length ≤ L.length := fun Q => List.length_filter_le Q L
  have hN : ∀ r, r ∈ L.filter (newB ga be p) → gR r := fun r hr => hLg r (List.mem_filter.mp hr).1
  have hO : ∀ r, r ∈ (L.filter (ovB ga la p)).map (nwR ga be p) → gR r := fun r hr => by
    obtain ⟨y, hy, e⟩ := List.mem_map.mp hr
    rw [← e]
    exact nwR_g (hLg y (List.mem_filter.mp hy).1)
  have n1 := lf (newB ga be p)
  have n2 := lf (ovB ga la p)
  have n3 : ((L.filter (ovB ga la p)).map (nwR ga be p)).length = (L.filter (ovB ga la p)).length := List.length_map _
  have u4 : ∀ c : Int, c ≠ 4 → up1 g 4 p c = g c := fun c hc => up1_ne hc
  have h7u : b7 b (up1 g 4 p) := by unfold b7; rw [u4 7 (by decide)]; exact h7
  obtain ⟨r7, r36⟩ := rm_fold (C := fun c => c < 7 ∨ (8 ≤ c ∧ c < 32) ∨ (36 ≤ c ∧ c < 60) ∨ (84 ≤ c ∧ c < 1484) ∨ 1844 ≤ c) (fun c hc => hc) (L.filter (newB ga be p)) b (up1 g 4 p) hN h7u (by omega)
  have hf : ∀ c, fC c → ((L.filter (newB ga be p)).foldl rmG (up1 g 4 p)) c = g c := fun c hc => by
    unfold fC at hc
    rw [r36 c (by omega), u4 c (by omega)]
  have h36u : b36 b ((L.filter (newB ga be p)).foldl rmG (up1 g 4 p)) := fun k k0 k1 => by
    rw [hf (36 + k) (by unfold fC; omega)]
    exact h36 k k0 k1
  refine ⟨⟨t3.1, t3.2.1.cong (fun c hc => ?_), t3.2.2.cong (fun c hc => ?_)⟩, t4, t5⟩
  · have := (fn_fold (C := mC) (fun c hc => by unfold mC at hc; omega) ((L.filter (ovB ga la p)).map (nwR ga be p)) b ((L.filter (newB ga be p)).foldl rmG (up1 g 4 p)) hO h36u (by omega)).2 c hc
    unfold riG
    rw [this]
    exact foldl_cg (C := mC) (f := rmG) (fun g g' r hr h => rmG_cg h hr) (L.filter (newB ga be p)) g (up1 g 4 p) hN (fun c hc => u4 c (by unfold mC at hc; omega)) c hc
  · unfold riG
    exact foldl_cg (C := fC) (f := fn1) (fun g g' r hr h => fn1_cg h hr.1) ((L.filter (ovB ga la p)).map (nwR ga be p)) g ((L.filter (newB ga be p)).foldl rmG (up1 g 4 p)) hO hf c hc
theorem nwR_P {ga be p : Int} {P : Row → Bool} (hP : ∀ x y : Row, (∀ c, c ≠ 6 → y c = x c) → P y = P x) (x : Row) : P (nwR ga be p x) = P x := hP x _ (fun c hc => nwR_c hc)
theorem ovB_c {ga la p : Int} (x y : Row) (h : ∀ c, c ≠ 6 → y c = x c) : ovB ga la p y = ovB ga la p x := by
  unfold ovB
  rw [h 2 (by decide)]
theorem rise_m {d ga la be p b : Int} {s : MS} {K : MS → Prop} {n : Nat} {l L : List Row} {g : Int → Int} (hd : dOk d) (hl : gdL ga l) (h : mRisP s d n K) (hL : lsM d s l) (hB : sB d s g) (hs : stG g ga la be) (hle : mLeast s d = p) (hlt : be < p) (hc : chn (dueB ga la be p) l (-1) L) (h7 : b7 b g) (h36 : b36 b g) (hb : b + 2 * L.length + 2 < 1000000) : mRisP s d n (fun s' => K s' ∧ lsM d s' (l.filterMap (fnC ga la be p)) ∧ sB d s' (riG ga la be p L g)) := by
  have hd0 : 0 ≤ d := hd.1
  have g0 := hs.2.1.1
  have la0 := hs.2.2.1
  have e4 : mg s (d * 2804 + 4) = be := (hB 4 (by decide) (by unfold zB; omega)).trans hs.1.2.2
  refine ⟨fun q => by rw [hle, e4] at q; omega, fun q => ⟨(h.2 q).1, ?_⟩⟩
  have h2 := (h.2 q).2
  rw [e4] at h2 ⊢
  have L0 : lsM d (mRise0 s d) (l.map (mpM ga be p (-7))) := by
    have e : l.map (mpM ga be p (-7)) = l := by
      have : ∀ x, x ∈ l → mpM ga be p (-7) x = x := fun x hx => if_neg (fun z => by have := (hl.1 x hx).tu; have := z.2; omega)
      rw [List.map_congr_left this, List.map_id']
    rw [e]
    exact (hL.ne (v := mLeast s d) hd0 (a := 4) (by decide) (by unfold zB; omega)).cong rfl
  have B0 : sB d (mRise0 s d) (up1 g 4 p) := by
    have e : up1 g 4 p = up1 g 4 (mLeast s d) := by rw [hle]
    rw [e]
    exact (hB.put (v := mLeast s d) hd0 (rfl : d * 2804 + 4 = d * 2804 + 4) (by decide)).cong rfl
  have r10 : (mRise0 s d).1 10 = -1 := rfl
  have r11 : (mRise0 s d).1 11 = -1 := rfl
  have s0 : stG (up1 g 4 p) ga la p := ⟨⟨by rw [up1_ne (by decide)]; exact hs.1.1, by rw [up1_ne (by decide)]; exact hs.1.2.1, up1_eq⟩, hs.2⟩
  have inj := (hl.dt g0).inj
  have hLg : ∀ r, r ∈ L → gR r := fun r hr => hl.1 r (chn_mem L (-1) hc r hr)
  have lf : ∀ Q : Row → Bool, (L.filter Q).length ≤ L.length := fun Q => List.length_filter_le Q L
  have n1 := lf (newB ga be p)
  have n2 := lf (ovB ga la p)
  have n3 : ((L.filter (ovB ga la p)).map (nwR ga be p)).length = (L.filter (ovB ga la p)).length := List.length_map _
  have cN : chn (newB ga be p) l (-7) (L.filter (newB ga be p)) := chn_low (fun x hx _ _ => by have := (hl.1 x hx).tu; omega) (by decide) _ (chn_sub inj (fun x => new_due) L (-1) hc)
  have cO : chn (ovB ga la p) l (-1) (L.filter (ovB ga la p)) := chn_sub inj (fun x => ov_due la0) L (-1) hc
  have cO2 := chn_map (G := nwR ga be p) (fun x => ⟨nwR_tu, nwR_P ovB_c x⟩) _ _ cO
  have h7u : b7 b (up1 g 4 p) := by unfold b7; rw [up1_ne (by decide)]; exact h7
  have hN : ∀ r, r ∈ L.filter (newB ga be p) → gR r := fun r hr => hLg r (List.mem_filter.mp hr).1
  obtain ⟨r7, r36⟩ := rm_fold (C := fun c => c < 7 ∨ (8 ≤ c ∧ c < 32) ∨ (36 ≤ c ∧ c < 60) ∨ (84 ≤ c ∧ c < 1484) ∨ 1844 ≤ c) (fun c hc => hc) (L.filter (newB ga be p)) b (up1 g 4 p) hN h7u (by omega)
  have h36u : b36 b ((L.filter (newB ga be p)).foldl rmG (up1 g 4 p)) := fun k k0 k1 => by
    rw [r36 (36 + k) (by omega), up1_ne (by omega)]
    exact h36 k k0 k1
  have big := rrS hd0 hl n (L.filter (newB ga be p)) (-7) b (mRise0 s d) (up1 g 4 p) h2 L0 B0 s0 ⟨by rw [r10, r11]; decide, by rw [r11]; decide, by rw [r11]; decide⟩ cN h7u (by omega)
  refine rrP_mono (fun s1 z => ?_) _ _ _ big
  obtain ⟨⟨z1, z2⟩, T', z3, z4, z5⟩ := z
  have em : l.map (mpM ga be p T') = l.map (nwR ga be p) := List.map_congr_left (fun x hx => by
    unfold mpM nwR
    by_cases c : newB ga be p x = true
    · rw [if_pos c, if_pos ⟨c, z3 x hx c⟩]
    · rw [if_neg c, if_neg (fun y => c y.1)])
  rw [em] at z4
  have hl1 : gdL ga (l.map (nwR ga be p)) := hl.map (fun x hx => ⟨nwR_g hx, nwR_c (by decide), nwR_c (by decide), nwR_c (by decide)⟩)
  have s1' : stG ((L.filter (newB ga be p)).foldl rmG (up1 g 4 p)) ga la p := s0.of (fun c c0 c1 => r36 c (by omega))
  have L1 : lsM d s1 ((l.map (nwR ga be p)).filter (kpC ga la p (-1))) := by
    have e : (l.map (nwR ga be p)).filter (kpC ga la p (-1)) = l.map (nwR ga be p) := List.filter_eq_self.mpr (fun x hx => kpC_t (fun y => by have := (hl1.1 x hx).tu; have := y.2; omega))
    rw [e]
    exact z4
  refine ⟨z1, ccP_mono (fun s2 y => ?_) _ _ _ (ccS hd hl1 n _ (-1) b s1 _ z2 L1 z5 s1' cO2 h36u (by omega))⟩
  obtain ⟨y1, T2, y2, y3, y4⟩ := y
  refine ⟨y1, ?_, y4⟩
  have ef : (l.map (nwR ga be p)).filter (kpC ga la p T2) = l.filterMap (fnC ga la be p) := by
    have := cut_s (F := fun x => some x) (F' := fnC ga la be p) (G := nwR ga be p) (H := kpC ga la p T2) l (fun x hx => by
      show fnC ga la be p x = if kpC ga la p T2 (nwR ga be p x) = true then some (nwR ga be p x) else none
      unfold fnC
      have eo := nwR_P (ga := ga) (be := be) (p := p) (P := ovB ga la p) ovB_c x
      by_cases o : ovB ga la p x = true
      · have hy := y2 (nwR ga be p x) (List.mem_map.mpr ⟨x, hx, rfl⟩) (eo.trans o)
        rw [if_pos (ov_due la0 o), if_pos o, if_neg (kpC_f ⟨eo.trans o, hy⟩)]
      · rw [if_neg o, if_pos (kpC_t (fun z => o (eo.symm.trans z.1)))]
        by_cases c : dueB ga la be p x = true
        · rw [if_pos c]
        · rw [if_neg c]
          unfold nwR
          rw [if_neg (fun z => c (new_due z))])
    rw [List.filterMap_some] at this
    exact this
  rw [← ef]
  exact y3
end
-- 989658.oh
section
/-! ===== an event joins: the class ===== -/
def tcB (ga k t : Int) : Row → Bool := fun r => decide (r 0 = k ∧ r 1 - ga ≤ t ∧ t ≤ r 2 + ga)
def loB (ga k t : Int) (r : Row) : Prop := r 0 < k ∨ (r 0 = k ∧ r 2 + ga < t)
def hiB (ga k t : Int) (r : Row) : Prop := k < r 0 ∨ (r 0 = k ∧ t < r 1 - ga)
theorem lo_tc {ga k t : Int} {r : Row} (h : loB ga k t r) : ¬ tcB ga k t r = true := fun z => by
  have := of_decide_eq_true z
  unfold loB at h
  omega
theorem hi_tc {ga k t : Int} {r : Row} (h : hiB ga k t r) : ¬ tcB ga k t r = true := fun z => by
  have := of_decide_eq_true z
  unfold hiB at h
  omega
/-- before it, joined with it, behind it -/
def sp3 (ga k t : Int) (l A T C : List Row) : Prop := l = A ++ (T ++ C) ∧ (∀ x, x ∈ A → loB ga k t x) ∧ (∀ x, x ∈ T → tcB ga k t x = true) ∧ ∀ x, x ∈ C → hiB ga k t x
theorem sp3_ex {ga k t : Int} (g0 : 0 ≤ ga) : ∀ l : List Row, gdL ga l → ∃ A T C, sp3 ga k t l A T C
  | [], _ => ⟨[], [], [], rfl, fun x hx => absurd hx List.not_mem_nil, fun x hx => absurd hx List.not_mem_nil, fun x hx => absurd hx List.not_mem_nil⟩
  | a :: l, h => by
    obtain ⟨A, T, C, e, hA, hT, hC⟩ := sp3_ex (k := k) (t := t) g0 l h.tl
    obtain ⟨h1, h2⟩ := List.pairwise_cons.mp h.2
    have ga1 := (h.1 a List.mem_cons_self).2.1
    have hb : ∀ x, x ∈ l → bef ga a x ∧ x 1 ≤ x 2 := fun x hx => ⟨h1 x hx, (h.1 x (List.mem_cons_of_mem a hx)).2.1.2.1⟩
    by_cases c1 : loB ga k t a
    · refine ⟨a :: A, T, C, by rw [e]; rfl, fun x hx => ?_, hT, hC⟩
      rcases List.mem_cons.mp hx with q | q
      · rw [q]; exact c1
      · exact hA x q
    · have eA : A = [] := by
        cases A with
        | nil => rfl
        | cons y A =>
          exfalso
          have m : y ∈ l := by rw [e]; exact List.mem_append_left _ List.mem_cons_self
          have q := hA y List.mem_cons_self
          obtain ⟨q1, q2⟩ := hb y m
          unfold loB at q c1
          unfold bef at q1
          omega
      subst eA
      by_cases c2 : tcB ga k t a = true
      · refine ⟨[], a :: T, C, by rw [e]; rfl, fun x hx => absurd hx List.not_mem_nil, fun x hx => ?_, hC⟩
        rcases List.mem_cons.mp hx with q | q
        · rw [q]; exact c2
        · exact hT x q
      · have c3 : hiB ga k t a := by
          have : ¬ (a 0 = k ∧ a 1 - ga ≤ t ∧ t ≤ a 2 + ga) := fun z => c2 (decide_eq_true z)
          unfold loB at c1
          unfold hiB
          omega
        have eT : T = [] := by
          cases T with
          | nil => rfl
          | cons y T =>
            exfalso
            have m : y ∈ l := by rw [e]; exact List.mem_append_right _ (List.mem_append_left _ List.mem_cons_self)
            have q := of_decide_eq_true (hT y List.mem_cons_self)
            obtain ⟨q1, q2⟩ := hb y m
            unfold hiB at c3
            unfold bef at q1
            omega
        subst eT
        refine ⟨[], [], a :: C, by rw [e]; rfl, fun x hx => absurd hx List.not_mem_nil, fun x hx => absurd hx List.not_mem_nil, fun x hx => ?_⟩
        rcases List.mem_cons.mp hx with q | q
        · rw [q]; exact c3
        · exact hC x q
theorem tc_w {w : WS} {i : Int} {r : Row} {ga la k t : Int} (hr : rwW w i r) (hg : gR r) (hs : stW w ga la) : wTouch w i k t ↔ tcB ga k t r = true := by
  obtain ⟨-, ⟨a1, a2, a3⟩, -⟩ := hg
  obtain ⟨⟨s1, s2⟩, s3, s4⟩ := hs
  show (wG w 1 i 0 = k ∧ wI (wG w 1 i 1 - w.1 0) ≤ t ∧ t ≤ wI (wG w 1 i 2 + w.1 0)) ↔ _
  rw [hr.1 0 (by decide) (by decide), hr.1 1 (by decide) (by decide), hr.1 2 (by decide) (by decide), s1, wI_id (z := r 1 - ga) ⟨by omega, by omega⟩, wI_id (z := r 2 + ga) ⟨by omega, by omega⟩]
  unfold tcB
  rw [decide_eq_true_iff]
theorem app_c {l1 A : List Row} {a : Row} : (l1 ++ [a]) ++ A = l1 ++ (a :: A) := by
  rw [List.append_assoc]
  rfl
theorem ft_skip {w : WS} {l : List Row} {ga la k t : Int} (h : lsW w l) (hg : ∀ r, r ∈ l → gR r) (hs : stW w ga la) (m : Nat) : ∀ (A l1 R : List Row), l = l1 ++ (A ++ R) → (∀ x, x ∈ A → ¬ tcB ga k t x = true) → ftL w k t (A.length + m) (l1.length : Int) = ftL w k t m ((l1 ++ A).length : Int)
  | [], l1, R, _, _ => by
    rw [List.append_nil]
    show ftL w k t (0 + m) _ = _
    rw [Nat.zero_add]
  | a :: A, l1, R, e, hA => by
    have hx : l[l1.length]? = some a := by rw [e]; exact at_len
    have ht := tc_w (k := k) (t := t) (h.2 _ a hx) (hg a (mem_at hx)) hs
    rw [show (a :: A).length + m = (A.length + m) + 1 by rw [List.length_cons]; omega, ftL, if_neg (fun z => hA a List.mem_cons_self (ht.mp z)), ← len_1 (x := a), ft_skip h hg hs m A (l1 ++ [a]) R (by rw [e, app_c]; rfl) (fun x hx => hA x (List.mem_cons_of_mem a hx)), app_c]
theorem tf_run {w : WS} {l : List Row} {ga la k t : Int} (h : lsW w l) (hg : ∀ r, r ∈ l → gR r) (hs : stW w ga la) {C : List Row} (hC : ∀ x, x ∈ C → ¬ tcB ga k t x = true) : ∀ (T l1 : List Row), l = l1 ++ (T ++ C) → (∀ x, x ∈ T → tcB ga k t x = true) → tfL w k t (T.length + C.length) (l1.length : Int) = T.length
  | [], l1, e, _ => by
    cases C with
    | nil => rfl
    | cons c C =>
      have hx : l[l1.length]? = some c := by rw [e]; exact at_len
      have ht := tc_w (k := k) (t := t) (h.2 _ c hx) (hg c (mem_at hx)) hs
      rw [show ([] : List Row).length + (c :: C).length = C.length + 1 by rw [List.length_cons, List.length_nil]; omega, tfL, if_neg (fun z => hC c List.mem_cons_self (ht.mp z))]
      rfl
  | y :: T, l1, e, hT => by
    have hx : l[l1.length]? = some y := by rw [e]; exact at_len
    have ht := tc_w (k := k) (t := t) (h.2 _ y hx) (hg y (mem_at hx)) hs
    rw [show (y :: T).length + C.length = (T.length + C.length) + 1 by rw [List.length_cons]; omega, tfL, if_pos (ht.mpr (hT y List.mem_cons_self)), ← len_1 (x := y), tf_run h hg hs hC T (l1 ++ [y]) (by rw [e, app_c]; rfl) (fun x hx => hT x (List.mem_cons_of_mem y hx)), List.length_cons]
    omega
theorem pf_skip {w : WS} {l : List Row} {k t : Int} (h : lsW w l) (m : Nat) : ∀ (A l1 R : List Row), l = l1 ++ (A ++ R) → (∀ x : Row, x ∈ A → ¬ (k < x 0 ∨ (x 0 = k ∧ t < x 1))) → pfL w k t (A.length + m) (l1.length : Int) = pfL w k t m ((l1 ++ A).length : Int)
  | [], l1, R, _, _ => by
    rw [List.append_nil]
    show pfL w k t (0 + m) _ = _
    rw [Nat.zero_add]
  | a :: A, l1, R, e, hA => by
    have hx : l[l1.length]? = some a := by rw [e]; exact at_len
    have hr := h.2 _ a hx
    have ha := hA a List.mem_cons_self
    rw [← hr.1 0 (by decide) (by decide), ← hr.1 1 (by decide) (by decide)] at ha
    rw [show (a :: A).length + m = (A.length + m) + 1 by rw [List.length_cons]; omega, pfL, if_neg ha, ← len_1 (x := a), pf_skip h m A (l1 ++ [a]) R (by rw [e, app_c]; rfl) (fun x hx => hA x (List.mem_cons_of_mem a hx)), app_c]
theorem place_s {w : WS} {l A T C : List Row} {ga la k t : Int} (h : lsW w l) (hl : gdL ga l) (hs : stW w ga la) (sp : sp3 ga k t l A T C) : wPl w k t = A.length ∧ wMany w (wFirst w k t) k t = T.length := by
  obtain ⟨e, hA, hT, hC⟩ := sp
  have g0 := hs.2.1.1
  have ez : (wZ w 1).toNat = l.length := by rw [h.1.1]; omega
  have el : l.length = A.length + (T.length + C.length) := by rw [e, List.length_append, List.length_append]
  have f1 : wFirst w k t = ftL w k t (T.length + C.length) (A.length : Int) := by
    unfold wFirst
    rw [ez, el]
    exact ft_skip h hl.1 hs _ A [] (T ++ C) e (fun x hx => lo_tc (hA x hx))
  cases T with
  | nil =>
    have f2 : wFirst w k t = -1 := by
      rw [f1]
      have := ft_skip h hl.1 hs 0 C A [] (by rw [e, List.append_nil]; rfl) (fun x hx => hi_tc (hC x hx))
      rw [show ([] : List Row).length + C.length = C.length + 0 by rw [List.length_nil]; omega, this]
      rfl
    have pl : wPlace w k t = A.length := by
      unfold wPlace
      rw [ez, el]
      have := pf_skip (k := k) (t := t) h (([] : List Row).length + C.length) A [] ([] ++ C) e (fun x hx z => by
        have q := hA x hx
        have q2 := (hl.1 x (by rw [e]; exact List.mem_append_left _ hx)).2.1.2.1
        unfold loB at q
        omega)
      refine Eq.trans this ?_
      cases C with
      | nil => rfl
      | cons c C =>
        have hx : l[A.length]? = some c := by rw [e]; exact at_len
        have hr := h.2 _ c hx
        have q := hC c List.mem_cons_self
        have hc : k < wG w 1 (A.length : Int) 0 ∨ (wG w 1 (A.length : Int) 0 = k ∧ t < wG w 1 (A.length : Int) 1) := by
          rw [hr.1 0 (by decide) (by decide), hr.1 1 (by decide) (by decide)]
          unfold hiB at q
          omega
        rw [show ([] : List Row).length + (c :: C).length = C.length + 1 by rw [List.length_cons, List.length_nil]; omega]
        show pfL w k t (C.length + 1) (A.length : Int) = _
        rw [pfL, if_pos hc]
    refine ⟨?_, ?_⟩
    · unfold wPl
      rw [f2, if_neg (by decide)]
      exact pl
    · unfold wMany
      rw [f2, if_neg (by decide)]
      rfl
  | cons y T =>
    have f2 : wFirst w k t = A.length := by
      rw [f1]
      have hx : l[A.length]? = some y := by rw [e]; exact at_len
      have ht := tc_w (k := k) (t := t) (h.2 _ y hx) (hl.1 y (mem_at hx)) hs
      rw [show (y :: T).length + C.length = (T.length + C.length) + 1 by rw [List.length_cons]; omega, ftL, if_pos (ht.mpr (hT y List.mem_cons_self))]
    refine ⟨?_, ?_⟩
    · unfold wPl
      rw [f2, if_pos (by omega)]
    · unfold wMany
      rw [f2, if_pos (by omega), show (wZ w 1 - (A.length : Int)).toNat = (y :: T).length + C.length by rw [h.1.1]; omega]
      exact tf_run h hl.1 hs (fun x hx => hi_tc (hC x hx)) (y :: T) A e hT
/-! the row that joins -/
def frR (k t v : Int) : Row := up1 (up1 (up1 (up1 (up1 (up1 (up1 (fun c => if c = 6 then 1 else 0) 0 k) 1 t) 2 t) 3 1) 4 v) 5 v) 6 0
def mrR (x y : Row) : Row := up1 (up1 (up1 (up1 (up1 x 1 (min (x 1) (y 1))) 2 (max (x 2) (y 2))) 3 (wI (x 3 + y 3))) 4 (wI (x 4 + y 4))) 5 (max (x 5) (y 5))
theorem frR_c {k t v : Int} : frR k t v 0 = k ∧ frR k t v 1 = t ∧ frR k t v 2 = t ∧ frR k t v 3 = 1 ∧ frR k t v 4 = v ∧ frR k t v 5 = v ∧ frR k t v 6 = 0 := ⟨rfl, rfl, rfl, rfl, rfl, rfl, rfl⟩
theorem mrR_c {x y : Row} : mrR x y 0 = x 0 ∧ mrR x y 1 = min (x 1) (y 1) ∧ mrR x y 2 = max (x 2) (y 2) ∧ mrR x y 3 = wI (x 3 + y 3) ∧ mrR x y 4 = wI (x 4 + y 4) ∧ mrR x y 5 = max (x 5) (y 5) ∧ mrR x y 6 = x 6 := ⟨rfl, rfl, rfl, rfl, rfl, rfl, rfl⟩
theorem frR_g {k t v : Int} (hk : 0 ≤ k ∧ k < 6) (ht : 0 ≤ t ∧ t ≤ 9999) (hv : xB v) : gR (frR k t v) := by
  obtain ⟨e0, e1, e2, e3, e4, e5, e6⟩ := frR_c (k := k) (t := t) (v := v)
  unfold gR
  rw [e0, e1, e2, e3, e4, e5, e6]
  exact ⟨hk, ⟨by omega, by omega, by omega⟩, by decide, by decide, hv, hv⟩
theorem mrR_g {x y : Row} (hx : gR x) (hy : gR y) : gR (mrR x y) := by
  obtain ⟨e0, e1, e2, e3, e4, e5, e6⟩ := mrR_c (x := x) (y := y)
  obtain ⟨a0, ⟨a1, a2, a3⟩, a6, b3, b4, b5⟩ := hx
  obtain ⟨-, ⟨c1, c2, c3⟩, -, -, -, c5⟩ := hy
  unfold gR
  rw [e0, e1, e2, e3, e4, e5, e6]
  exact ⟨a0, ⟨by omega, by omega, by omega⟩, a6, wI_B _, wI_B _, max_B b5 c5⟩
theorem mrs_g : ∀ (T : List Row) (x : Row), gR x → (∀ y, y ∈ T → gR y) → gR (T.foldl mrR x)
  | [], _, h, _ => h
  | y :: T, x, h, hT => mrs_g T (mrR x y) (mrR_g h (hT y List.mem_cons_self)) (fun z hz => hT z (List.mem_cons_of_mem y hz))
theorem mrR_up {x y : Row} {v : Int} : mrR x (up1 y 6 v) = mrR x y := by
  obtain ⟨-, e1, e2, e3, e4, e5, -⟩ := up1_6 (r := y) (v := v)
  unfold mrR
  rw [e1, e2, e3, e4, e5]
theorem mrs_up : ∀ (T : List Row) (x : Row), (T.map (fun r => up1 r 6 0)).foldl mrR x = T.foldl mrR x
  | [], _ => rfl
  | y :: T, x => by
    show (T.map (fun r => up1 r 6 0)).foldl mrR (mrR x (up1 y 6 0)) = T.foldl mrR (mrR x y)
    rw [mrR_up]
    exact mrs_up T _
theorem mrs_0 : ∀ (T : List Row) (x : Row), T.foldl mrR x 0 = x 0 ∧ T.foldl mrR x 6 = x 6
  | [], _ => ⟨rfl, rfl⟩
  | y :: T, x => by
    obtain ⟨a, b⟩ := mrs_0 T (mrR x y)
    exact ⟨a.trans mrR_c.1, b.trans mrR_c.2.2.2.2.2.2⟩
/-! lists put anew in their middle -/
theorem set_len {x y : Row} {R : List Row} : ∀ A : List Row, (A ++ x :: R).set A.length y = A ++ y :: R
  | [] => rfl
  | a :: A => by
    show a :: ((A ++ x :: R).set A.length y) = a :: (A ++ y :: R)
    rw [set_len A]
theorem era_len {x : Row} {R : List Row} : ∀ A : List Row, (A ++ x :: R).eraseIdx A.length = A ++ R
  | [] => rfl
  | a :: A => by
    show a :: ((A ++ x :: R).eraseIdx A.length) = a :: (A ++ R)
    rw [era_len A]
theorem cW.pl {w : WS} {A R : List Row} {x : Row} {gm gf : Int → Int} {c v : Int} (h : cW w (A ++ x :: R) gm gf) (hc : 0 ≤ c ∧ c < 6) : cW (wP w 1 A.length c v) (A ++ up1 x c v :: R) gm gf := by
  have := h.put (i := A.length) (v := v) at_len (show 0 ≤ c ∧ c < 7 by omega)
  rw [if_neg (by omega), set_len] at this
  exact this
theorem cW.p6 {w : WS} {A R : List Row} {x : Row} {gm gf : Int → Int} {v : Int} (h : cW w (A ++ x :: R) gm gf) : cW (wP w 1 A.length 6 v) (A ++ up1 x 6 (v + 1) :: R) gm gf := by
  have := h.put (i := A.length) (c := 6) (v := v) at_len (by decide)
  rw [if_pos rfl, set_len] at this
  exact this
theorem cW.dr {w : WS} {l : List Row} {gm gf : Int → Int} {i : Nat} (h : cW w l gm gf) (hi : i < l.length) : cW (wDr w 1 i) (l.eraseIdx i) gm gf := ⟨h.1.erase hi, h.2.1.of rfl rfl (fun _ _ _ _ => rfl), h.2.2.of rfl rfl (fun _ _ _ => rfl)⟩
theorem cW.opn {w : WS} {A C : List Row} {gm gf : Int → Int} (h : cW w (A ++ C) gm gf) (hz : (A ++ C).length < 161) : cW (wOp w 1 A.length) (A ++ (fun c => if c = 6 then 1 else 0) :: C) gm gf := ⟨h.1.opn hz, h.2.1.of rfl rfl (fun _ _ _ _ => rfl), h.2.2.of rfl rfl (fun _ _ _ => rfl)⟩
theorem cW.swal {w : WS} {A R : List Row} {x y : Row} {gm gf : Int → Int} (h : cW w (A ++ x :: y :: R) gm gf) : cW (wSwallow w A.length) (A ++ mrR x y :: R) gm gf := by
  have hn := h.1.1.2
  have eL : (A ++ x :: y :: R).length = A.length + (R.length + 1 + 1) := by rw [List.length_append, List.length_cons, List.length_cons]
  have ej : wI ((A.length : Int) + 1) = (A.length : Int) + 1 := wI_id ⟨by omega, by omega⟩
  have gx : ∀ {w' : WS} {x' : Row}, cW w' (A ++ x' :: y :: R) gm gf → ∀ c, 0 ≤ c → c < 6 → wG w' 1 (A.length : Int) c = x' c := fun h' c c0 c1 => (h'.1.2 A.length _ at_len).1 c c0 c1
  have gy : ∀ {w' : WS} {x' : Row}, cW w' (A ++ x' :: y :: R) gm gf → ∀ c, 0 ≤ c → c < 6 → wG w' 1 ((A.length : Int) + 1) c = y c := fun {w' x'} h' c c0 c1 => by
    have e : A ++ x' :: y :: R = (A ++ [x']) ++ y :: R := by rw [List.append_assoc]; rfl
    have h2 := h'.1
    rw [e] at h2
    have := (h2.2 (A ++ [x']).length y at_len).1 c c0 c1
    rw [len_1] at this
    exact this
  unfold wSwallow
  dsimp only
  rw [ej, gx h 1 (by decide) (by decide), gy h 1 (by decide) (by decide)]
  have h1 := h.pl (c := 1) (v := min (x 1) (y 1)) (by decide)
  generalize wP w 1 (A.length : Int) 1 (min (x 1) (y 1)) = w1 at h1 ⊢
  rw [gx h1 2 (by decide) (by decide), gy h1 2 (by decide) (by decide), up1_ne (show (2 : Int) ≠ 1 by decide)]
  have h2 := h1.pl (c := 2) (v := max (x 2) (y 2)) (by decide)
  generalize wP w1 1 (A.length : Int) 2 (max (x 2) (y 2)) = w2 at h2 ⊢
  unfold wA
  rw [gx h2 3 (by decide) (by decide), gy h2 3 (by decide) (by decide), up1_ne (show (3 : Int) ≠ 2 by decide), up1_ne (show (3 : Int) ≠ 1 by decide)]
  have h3 := h2.pl (c := 3) (v := wI (x 3 + y 3)) (by decide)
  generalize wP w2 1 (A.length : Int) 3 (wI (x 3 + y 3)) = w3 at h3 ⊢
  rw [gx h3 4 (by decide) (by decide), gy h3 4 (by decide) (by decide), up1_ne (show (4 : Int) ≠ 3 by decide), up1_ne (show (4 : Int) ≠ 2 by decide), up1_ne (show (4 : Int) ≠ 1 by decide)]
  have h4 := h3.pl (c := 4) (v := wI (x 4 + y 4)) (by decide)
  generalize wP w3 1 (A.length : Int) 4 (wI (x 4 + y 4)) = w4 at h4 ⊢
  rw [gx h4 5 (by decide) (by decide), gy h4 5 (by decide) (by decide), up1_ne (show (5 : Int) ≠ 4 by decide), up1_ne (show (5 : Int) ≠ 3 by decide), up1_ne (show (5 : Int) ≠ 2 by decide), up1_ne (show (5 : Int) ≠ 1 by decide)]
  have h5 := h4.pl (c := 5) (v := max (x 5) (y 5)) (by decide)
  have e : A ++ up1 (up1 (up1 (up1 (up1 x 1 (min (x 1) (y 1))) 2 (max (x 2) (y 2))) 3 (wI (x 3 + y 3))) 4 (wI (x 4 + y 4))) 5 (max (x 5) (y 5)) :: y :: R = (A ++ [mrR x y]) ++ y :: R := by rw [List.append_assoc]; rfl
  rw [e] at h5
  have h6 := h5.dr (i := (A ++ [mrR x y]).length) (by rw [List.length_append (bs := y :: R), List.length_cons]; omega)
  rw [era_len, len_1, List.append_assoc] at h6
  exact h6
theorem cW.sws {C A : List Row} {gm gf : Int → Int} : ∀ (T : List Row) (x : Row) (w : WS), cW w (A ++ x :: (T ++ C)) gm gf → cW (swL (A.length : Int) T.length w) (A ++ T.foldl mrR x :: C) gm gf
  | [], x, w, h => h
  | y :: T, x, w, h => cW.sws T (mrR x y) _ (cW.swal h)
theorem cW.tks {C : List Row} {gf : Int → Int} : ∀ (T A : List Row) (b : Int) (w : WS) (gm : Int → Int), cW w (A ++ (T ++ C)) gm gf → (∀ r, r ∈ T → gR r) → b7 b gm → b + T.length < 1000000 → cW (takeL T.length (A.length : Int) w) (A ++ (T.map (fun r => up1 r 6 0) ++ C)) (T.foldl tkG gm) gf ∧ b7 (b + T.length) (T.foldl tkG gm)
  | [], A, b, w, gm, h, _, h7, hb => ⟨h, ⟨h7.1, by have := h7.2; show gm 7 ≤ b + ((0 : Nat) : Int); omega⟩⟩
  | r :: T, A, b, w, gm, h, hg, h7, hb => by
    rw [List.length_cons] at hb ⊢
    have gr := hg r List.mem_cons_self
    have t := h.take (i := A.length) at_len gr ⟨h7.1, by have := h7.2; omega⟩
    have t2 : cW (wTake w (A.length : Int)) ((A ++ [up1 r 6 0]) ++ (T ++ C)) (tkG gm r) gf := by
      rw [app_c]
      have := set_len (x := r) (y := up1 r 6 0) (R := T ++ C) A
      rw [← this]
      exact t
    obtain ⟨a, a7⟩ := cW.tks T (A ++ [up1 r 6 0]) (b + 1) _ _ t2 (fun x hx => hg x (List.mem_cons_of_mem r hx)) (h7.tk (by omega) gr) (by omega)
    rw [len_1, app_c] at a
    exact ⟨a, ⟨a7.1, by have := a7.2; exact Int.le_trans this (by omega)⟩⟩
theorem f9_take : ∀ (n : Nat) (i : Int) (w : WS), (takeL n i w).1 9 = w.1 9
  | 0, _, _ => rfl
  | n + 1, i, w => (f9_take n (i + 1) (wTake w i)).trans (by
    unfold wTake
    split <;> rfl)
theorem f9_swL (p : Int) : ∀ (n : Nat) (w : WS), (swL p n w).1 9 = w.1 9
  | 0, _ => rfl
  | n + 1, w => (f9_swL p n (wSwallow w p)).trans rfl
def kdR (ga p e : Int) (r : Row) : Int := if r 2 + ga < p then 2 else if 0 < e ∧ Int.tmod (r 3) e = 0 then 0 else -1
def anR (kd : Int) (r : Row) : Row := if 0 ≤ kd then up1 r 6 (kd + 1) else r
def anG (kd : Int) (r : Row) (g : Int → Int) : Int → Int := if 0 ≤ kd then sn1 g kd r else g
theorem kdR_b (ga p e : Int) (r : Row) : kdR ga p e r = 2 ∨ kdR ga p e r = 0 ∨ kdR ga p e r = -1 := by
  unfold kdR
  split
  · exact Or.inl rfl
  · split
    · exact Or.inr (Or.inl rfl)
    · exact Or.inr (Or.inr rfl)
theorem melt_s {w : WS} {l A T C : List Row} {gm gf : Int → Int} {ga la p e b k t v : Int} (h : cW w l gm gf) (hl : gdL ga l) (hs : stW w ga la) (h3 : w.1 3 = p) (h2 : w.1 2 = e) (hk : 0 ≤ k ∧ k < 6) (ht : 0 ≤ t ∧ t ≤ 9999) (hv : xB v) (sp : sp3 ga k t l A T C) (hn : l.length < 161) (h7 : b7 b gm) (hb : b + T.length + 2 < 1000000) : cW (wMelt w k t v) (A ++ anR (kdR ga p e (T.foldl mrR (frR k t v))) (T.foldl mrR (frR k t v)) :: C) (anG (kdR ga p e (T.foldl mrR (frR k t v))) (T.foldl mrR (frR k t v)) (T.foldl tkG gm)) gf ∧ (wMelt w k t v).1 9 = wI (w.1 9 + (if 1 < (T.length : Int) then 1 else 0)) := by
  obtain ⟨ep, em⟩ := place_s h.1 hl hs sp
  have F := wF4_Melt (w := w) (k := k) (t := t) (v := v)
  obtain ⟨e0, hA, hT, hC⟩ := sp
  have hTg : ∀ r, r ∈ T → gR r := fun r hr => hl.1 r (by rw [e0]; exact List.mem_append_right _ (List.mem_append_left _ hr))
  have h' : cW w (A ++ (T ++ C)) gm gf := by rw [← e0]; exact h
  obtain ⟨t1, t7⟩ := cW.tks T A b w gm h' hTg h7 (by omega)
  have F1 := wF4_takeL T.length (A.length : Int) w
  have q9 := f9_take T.length (A.length : Int) w
  unfold wMelt at F ⊢
  rw [ep, em] at F ⊢
  rw [show ((T.length : Int)).toNat = T.length by omega] at F ⊢
  generalize takeL T.length (A.length : Int) w = w1 at t1 F1 q9 F ⊢
  have el : (A ++ (T.map (fun r => up1 r 6 0) ++ C)).length = l.length := by rw [e0, List.length_append, List.length_append, List.length_append, List.length_append, List.length_map]
  have ez : wZ w1 1 = l.length := by rw [t1.1.1.1, el]
  have eA : A.length ≤ l.length := by rw [e0, List.length_append]; omega
  have cond : 0 ≤ (A.length : Int) ∧ (A.length : Int) ≤ wZ w1 1 ∧ wZ w1 1 < 161 := ⟨by omega, by omega, by omega⟩
  unfold wMelt2 at F ⊢
  rw [if_pos cond] at F ⊢
  rw [show ((T.length : Int)).toNat = T.length by omega] at F ⊢
  have o1 := t1.opn (by rw [el]; exact hn)
  have o2 : cW (wRow w1 (A.length : Int) k t v) (A ++ frR k t v :: (T.map (fun r => up1 r 6 0) ++ C)) (T.foldl tkG gm) gf := by
    unfold wRow frR
    exact ((((((o1.pl (c := 0) (v := k) (by decide)).pl (c := 1) (v := t) (by decide)).pl (c := 2) (v := t) (by decide)).pl (c := 3) (v := 1) (by decide)).pl (c := 4) (v := v) (by decide)).pl (c := 5) (v := v) (by decide)).p6 (v := -1)
  have o3 := cW.sws (T.map (fun r => up1 r 6 0)) (frR k t v) _ o2
  rw [List.length_map, mrs_up] at o3
  have F2 := F1.trans ((wF4_Row (w := w1) (p := (A.length : Int)) (k := k) (t := t) (v := v)).trans (wF4_swL (A.length : Int) T.length _))
  have r9 : (swL (A.length : Int) T.length (wRow w1 (A.length : Int) k t v)).1 9 = w.1 9 := (f9_swL _ _ _).trans (Eq.trans rfl q9)
  generalize swL (A.length : Int) T.length (wRow w1 (A.length : Int) k t v) = w2 at o3 F2 r9 F ⊢
  have hR : gR (T.foldl mrR (frR k t v)) := mrs_g T _ (frR_g hk ht hv) hTg
  generalize T.foldl mrR (frR k t v) = R at o3 hR ⊢
  generalize T.foldl tkG gm = g1 at o3 t7 ⊢
  unfold wMeltE
  dsimp only
  have o4 : cW (wFd w2 9 (wI (w2.1 9 + (if 1 < (T.length : Int) then 1 else 0)))) (A ++ R :: C) g1 gf := o3.of rfl rfl (fun _ _ => rfl)
  have s4 : stW (wFd w2 9 (wI (w2.1 9 + (if 1 < (T.length : Int) then 1 else 0)))) ga la := ⟨⟨(F2.1 0 (by decide) (by decide) (by decide)).trans hs.1.1, (F2.1 1 (by decide) (by decide) (by decide)).trans hs.1.2⟩, hs.2⟩
  have s43 : (wFd w2 9 (wI (w2.1 9 + (if 1 < (T.length : Int) then 1 else 0)))).1 3 = p := (F2.1 3 (by decide) (by decide) (by decide)).trans h3
  have s42 : (wFd w2 9 (wI (w2.1 9 + (if 1 < (T.length : Int) then 1 else 0)))).1 2 = e := (F2.1 2 (by decide) (by decide) (by decide)).trans h2
  have s49 : (wFd w2 9 (wI (w2.1 9 + (if 1 < (T.length : Int) then 1 else 0)))).1 9 = wI (w.1 9 + (if 1 < (T.length : Int) then 1 else 0)) := by rw [← r9]; rfl
  generalize wFd w2 9 (wI (w2.1 9 + (if 1 < (T.length : Int) then 1 else 0))) = w3 at o4 s4 s43 s42 s49 ⊢
  have rr := o4.1.2 A.length R at_len
  have ek : wKind w3 (A.length : Int) = kdR ga p e R := by
    have e1 := rip_w (q := w3.1 3) rr hR s4
    unfold wKind kdR
    rw [s43] at e1 ⊢
    rw [s42, rr.1 3 (by decide) (by decide)]
    by_cases c : R 2 + ga < p
    · rw [if_pos c, if_pos (e1.mpr c)]
    · rw [if_neg c, if_neg (fun z => c (e1.mp z))]
  rw [ek]
  have hkd := kdR_b ga p e R
  unfold anR anG
  by_cases c : 0 ≤ kdR ga p e R
  · rw [if_pos c, if_pos c, if_pos c]
    have := o4.ann (i := A.length) (kd := kdR ga p e R) at_len hR ⟨t7.1, by have := t7.2; omega⟩ (by omega)
    rw [set_len] at this
    refine ⟨this, ?_⟩
    rw [← s49]
    rfl
  · rw [if_neg c, if_neg c, if_neg c]
    exact ⟨o4, s49⟩
end
-- 989659.oi
section
/-! ===== an event joins: the model ===== -/
theorem wI_a2 (a b : Int) : wI (wI a + b) = wI (a + b) := by
  show (iI ((iI a).toInt + b)).toInt = (iI (a + b)).toInt
  rw [← iI_add (iI a).toInt b, iI_of, iI_add]
theorem mrR_o {x y : Row} {c : Int} (h : c ≠ 1 ∧ c ≠ 2 ∧ c ≠ 3 ∧ c ≠ 4 ∧ c ≠ 5) : mrR x y c = x c := by
  obtain ⟨h1, h2, h3, h4, h5⟩ := h
  unfold mrR
  rw [up1_ne h5, up1_ne h4, up1_ne h3, up1_ne h2, up1_ne h1]
theorem mrR_sw (x y z : Row) : mrR (mrR x y) z = mrR (mrR x z) y := by
  obtain ⟨a0, a1, a2, a3, a4, a5, a6⟩ := mrR_c (x := mrR x y) (y := z)
  obtain ⟨b0, b1, b2, b3, b4, b5, b6⟩ := mrR_c (x := mrR x z) (y := y)
  obtain ⟨c0, c1, c2, c3, c4, c5, c6⟩ := mrR_c (x := x) (y := y)
  obtain ⟨d0, d1, d2, d3, d4, d5, d6⟩ := mrR_c (x := x) (y := z)
  funext c
  by_cases h1 : c = 1
  · subst h1; rw [a1, b1, c1, d1]; omega
  by_cases h2 : c = 2
  · subst h2; rw [a2, b2, c2, d2]; omega
  by_cases h3 : c = 3
  · subst h3; rw [a3, b3, c3, d3, wI_a2, wI_a2, show x 3 + y 3 + z 3 = x 3 + z 3 + y 3 by omega]
  by_cases h4 : c = 4
  · subst h4; rw [a4, b4, c4, d4, wI_a2, wI_a2, show x 4 + y 4 + z 4 = x 4 + z 4 + y 4 by omega]
  by_cases h5 : c = 5
  · subst h5; rw [a5, b5, c5, d5]; omega
  · rw [mrR_o ⟨h1, h2, h3, h4, h5⟩, mrR_o ⟨h1, h2, h3, h4, h5⟩, mrR_o ⟨h1, h2, h3, h4, h5⟩, mrR_o ⟨h1, h2, h3, h4, h5⟩]
theorem mrs_sw : ∀ (T : List Row) (x y : Row), T.foldl mrR (mrR x y) = mrR (T.foldl mrR x) y
  | [], _, _ => rfl
  | z :: T, x, y => by
    show T.foldl mrR (mrR (mrR x y) z) = mrR (T.foldl mrR (mrR x z)) y
    rw [mrR_sw, mrs_sw T]
theorem mrs_rev : ∀ (T : List Row) (x : Row), T.reverse.foldl mrR x = T.foldl mrR x
  | [], _ => rfl
  | z :: T, x => by
    rw [List.reverse_cons, List.foldl_append, mrs_rev T]
    show mrR (T.foldl mrR x) z = T.foldl mrR (mrR x z)
    rw [mrs_sw]
theorem mrs_lt : ∀ (T : List Row) (x : Row) (z : Int), z < x 1 → (∀ y : Row, y ∈ T → z < y 1) → z < T.foldl mrR x 1
  | [], _, _, h, _ => h
  | y :: T, x, z, h, hT => mrs_lt T (mrR x y) z (by
    rw [mrR_c.2.1]
    have := hT y List.mem_cons_self
    omega) (fun q hq => hT q (List.mem_cons_of_mem y hq))
theorem mrs_le : ∀ (T : List Row) (x : Row), T.foldl mrR x 1 ≤ x 1
  | [], _ => Int.le_refl _
  | y :: T, x => by
    have := mrs_le T (mrR x y)
    rw [mrR_c.2.1] at this
    show T.foldl mrR (mrR x y) 1 ≤ x 1
    omega
theorem tc_m {d : Int} {s : MS} {l : List Row} {g : Int → Int} {ga la p k t : Int} {i : Nat} {r : Row} (hL : lsM d s l) (hB : sB d s g) (hi : l[i]? = some r) (hg : gR r) (hs : stG g ga la p) : mMelts s d i k t ↔ tcB ga k t r = true := by
  obtain ⟨-, ⟨a1, a2, a3⟩, -⟩ := hg
  obtain ⟨⟨s1, s2, s5⟩, s3, s4⟩ := hs
  show (mg s (d * 2804 + 364 + 7 * (i : Int) + 0) = k ∧ wI (mg s (d * 2804 + 364 + 7 * (i : Int) + 1) - mg s (d * 2804 + 1)) ≤ t ∧ t ≤ wI (mg s (d * 2804 + 364 + 7 * (i : Int) + 2) + mg s (d * 2804 + 1))) ↔ _
  rw [hL.at hi (c := 0) (by decide) (by decide), hL.at hi (c := 1) (by decide) (by decide), hL.at hi (c := 2) (by decide) (by decide), hB 1 (by decide) (by unfold zB; omega), s1, wI_id (z := r 1 - ga) ⟨by omega, by omega⟩, wI_id (z := r 2 + ga) ⟨by omega, by omega⟩]
  unfold tcB
  rw [decide_eq_true_iff]
def tkT (ga k t : Int) (x : Row) : Row := if tcB ga k t x = true then up1 x 6 0 else x
theorem tkT_tc {ga k t : Int} {x : Row} : tcB ga k t (tkT ga k t x) = tcB ga k t x := by
  unfold tkT
  split
  · unfold tcB
    rw [up1_6.1, up1_6.2.1, up1_6.2.2.1]
  · rfl
theorem tkT_g {ga k t : Int} {x : Row} (h : gR x) : gR (tkT ga k t x) := by
  unfold tkT
  split
  · exact h.up (by decide)
  · exact h
theorem jn1S {d ga la p k t : Int} {K : MS → Prop} (hd : 0 ≤ d) : ∀ (n : Nat) (l2 l1 : List Row) (b : Int) (s : MS) (g : Int → Int), jnP1 d k t K n (l1.length : Int) s → lsM d s (l1 ++ l2) → sB d s g → stG g ga la p → (∀ r, r ∈ l2 → gR r) → b7 b g → b + l2.length < 1000000 → 0 ≤ s.1 12 → s.1 12 + l2.length < 1000000 → jnP1 d k t (fun s' => K s' ∧ lsM d s' (l1 ++ l2.map (tkT ga k t)) ∧ sB d s' ((l2.filter (tcB ga k t)).foldl tkG g) ∧ s'.2 4 = s.2 4 ∧ s'.1 12 = s.1 12 + (l2.filter (tcB ga k t)).length) n (l1.length : Int) s := by
  intro n
  induction n with
  | zero =>
    intro l2 l1 b s g h hL hB hs hg h7 hb h12 h12'
    obtain ⟨q, hK⟩ := h
    rw [hL.1.1, List.length_append] at q
    have e : l2 = [] := List.eq_nil_of_length_eq_zero (by omega)
    subst e
    exact ⟨by rw [hL.1.1, List.length_append]; show ((l1.length + 0 : Nat) : Int) ≤ _; omega, hK, hL, hB, rfl, by show s.1 12 = s.1 12 + ((0 : Nat) : Int); omega⟩
  | succ n ih =>
    intro l2 l1 b s g h hL hB hs hg h7 hb h12 h12'
    cases l2 with
    | nil =>
      refine ⟨fun q => ⟨h.1 q, hL, hB, rfl, by show s.1 12 = s.1 12 + ((0 : Nat) : Int); omega⟩, fun q => ?_⟩
      rw [hL.1.1, List.append_nil] at q
      omega
    | cons x l2 =>
      have hx : (l1 ++ x :: l2)[l1.length]? = some x := at_len
      have hgx := hg x List.mem_cons_self
      have ht := tc_m (k := k) (t := t) hL hB hx hgx hs
      rw [List.length_cons] at hb h12'
      refine ⟨fun q => ?_, fun q => ⟨(h.2 q).1, fun z => ⟨((h.2 q).2.1 z).1, ?_⟩, fun z => ?_⟩⟩
      · rw [hL.1.1, List.length_append, List.length_cons] at q
        omega
      · have h2 := ((h.2 q).2.1 z).2
        have tc := ht.mp z
        obtain ⟨t1, t2, t3⟩ := tkM hL hB hd hx hgx h7.1
        have e12 : wI ((mTake s d (l1.length : Int)).1 12 + 1) = s.1 12 + 1 := by rw [t3, wI_id (z := s.1 12 + 1) ⟨by omega, by omega⟩]
        rw [e12, ← len_1 (x := up1 x 6 0)] at h2
        rw [e12, ← len_1 (x := up1 x 6 0)]
        rw [set_len, ← app_c] at t1
        have u := ih l2 (l1 ++ [up1 x 6 0]) (b + 1) (mS (mTake s d (l1.length : Int)) 12 (s.1 12 + 1)) (tkG g x) h2 (t1.cong rfl) (t2.cong rfl) (hs.of (fun c c0 c1 => tkG_ne h7.1 hgx (by omega))) (fun r hr => hg r (List.mem_cons_of_mem x hr)) (h7.tk (by omega) hgx) (by omega) (show 0 ≤ s.1 12 + 1 by omega) (show s.1 12 + 1 + (l2.length : Int) < 1000000 by omega)
        refine jnP1_mono (fun s' y => ?_) _ _ _ u
        obtain ⟨y1, y2, y3, y4, y5⟩ := y
        rw [List.filter_cons_of_pos tc, List.map_cons]
        have e4 : (mTake s d (l1.length : Int)).2 4 = s.2 4 := by
          unfold mTake
          split
          · unfold mSend mSend4
            exact ((((cF_P.trans (sdL_1 _ d (l1.length : Int) 5 0 _)).trans cF_I).trans cF_I).trans (cF_I.trans cF_P)).2 4 (by decide)
          · rfl
        refine ⟨y1, ?_, y3, y4.trans e4, ?_⟩
        · rw [app_c] at y2
          have : tkT ga k t x = up1 x 6 0 := if_pos tc
          rw [this]
          exact y2
        · rw [y5, List.length_cons]
          show s.1 12 + 1 + _ = _
          omega
      · have h2 := (h.2 q).2.2 z
        have tc : ¬ tcB ga k t x = true := fun y => z (ht.mpr y)
        rw [← len_1 (x := x)] at h2 ⊢
        rw [← app_c] at hL
        have u := ih l2 (l1 ++ [x]) b s g h2 hL hB hs (fun r hr => hg r (List.mem_cons_of_mem x hr)) h7 (by omega) h12 (by omega)
        refine jnP1_mono (fun s' y => ?_) _ _ _ u
        obtain ⟨y1, y2, y3, y4, y5⟩ := y
        rw [List.filter_cons_of_neg tc, List.map_cons]
        refine ⟨y1, ?_, y3, y4, y5⟩
        rw [app_c] at y2
        have : tkT ga k t x = x := if_neg tc
        rw [this]
        exact y2
/-- the fresh row -/
def frM (f : Nat → Int) (F : Row) : Prop := ∀ c : Nat, c < 7 → f c = F (c : Int)
theorem fresh_F (s : MS) (k t v : Int) : frM ((mFresh s k t v).2 4) (frR k t v) := by
  intro c hc
  match c, hc with
  | 0, _ => rfl
  | 1, _ => rfl
  | 2, _ => rfl
  | 3, _ => rfl
  | 4, _ => rfl
  | 5, _ => rfl
  | 6, _ => rfl
  | c + 7, hc => exact absurd hc (by omega)
theorem swal_F {d : Int} {s : MS} {l : List Row} {i : Nat} {x F : Row} (hL : lsM d s l) (hi : l[i]? = some x) (hF : frM (s.2 4) F) : frM ((mSwal s d i).2 4) (mrR F x) := by
  have q1 := hL.at hi (c := 1) (by decide) (by decide)
  have q2 := hL.at hi (c := 2) (by decide) (by decide)
  have q3 := hL.at hi (c := 3) (by decide) (by decide)
  have q4 := hL.at hi (c := 4) (by decide) (by decide)
  have q5 := hL.at hi (c := 5) (by decide) (by decide)
  have mgF : ∀ (u : MS) (k : Nat) (v z : Int), mg (mF u k v) z = mg u z := fun u k v z => mg_cong (mF_3 u k v) z
  obtain ⟨e0, e1, e2, e3, e4, e5, e6⟩ := mrR_c (x := F) (y := x)
  intro c hc
  unfold mSwal
  dsimp only
  simp only [mgF]
  match c, hc with
  | 0, _ =>
    rw [mF_n (by decide), mF_n (by decide), mF_n (by decide), mF_n (by decide), mF_n (by decide), hF 0 (by decide)]
    exact e0.symm
  | 1, _ =>
    rw [mF_n (by decide), mF_n (by decide), mF_n (by decide), mF_n (by decide), mF_e, hF 1 (by decide), q1]
    exact e1.symm
  | 2, _ =>
    rw [mF_n (by decide), mF_n (by decide), mF_n (by decide), mF_e, mF_n (by decide), hF 2 (by decide), q2]
    exact e2.symm
  | 3, _ =>
    rw [mF_n (by decide), mF_n (by decide), mF_e, mF_n (by decide), mF_n (by decide), hF 3 (by decide), q3]
    exact e3.symm
  | 4, _ =>
    rw [mF_n (by decide), mF_e, mF_n (by decide), mF_n (by decide), mF_n (by decide), hF 4 (by decide), q4]
    exact e4.symm
  | 5, _ =>
    rw [mF_e, mF_n (by decide), mF_n (by decide), mF_n (by decide), mF_n (by decide), hF 5 (by decide), q5]
    exact e5.symm
  | 6, _ =>
    rw [mF_n (by decide), mF_n (by decide), mF_n (by decide), mF_n (by decide), mF_n (by decide), hF 6 (by decide)]
    exact e6.symm
  | c + 7, hc => exact absurd hc (by omega)
theorem lst_last : ∀ l : List Row, l = [] ∨ ∃ L b, l = L ++ [b]
  | [] => Or.inl rfl
  | a :: l => by
    rcases lst_last l with e | ⟨L, b, e⟩
    · rw [e]; exact Or.inr ⟨[], a, rfl⟩
    · rw [e]; exact Or.inr ⟨a :: L, b, rfl⟩
theorem jn2S {d ga la p k t : Int} {K : MS → Prop} (hd : dOk d) : ∀ (n : Nat) (l1 C : List Row) (s : MS) (g : Int → Int) (F : Row), jnP2 d k t K n ((l1.length : Int) - 1) s → lsM d s (l1 ++ C) → sB d s g → stG g ga la p → frM (s.2 4) F → (∀ r, r ∈ l1 → gR r) → jnP2 d k t (fun s' => K s' ∧ lsM d s' (l1.filter (fun x => !tcB ga k t x) ++ C) ∧ sB d s' g ∧ frM (s'.2 4) ((l1.filter (tcB ga k t)).reverse.foldl mrR F) ∧ s'.1 12 = s.1 12) n ((l1.length : Int) - 1) s := by
  intro n
  induction n with
  | zero =>
    intro l1 C s g F h hL hB hs hF hg
    obtain ⟨q, hK⟩ := h
    have e : l1 = [] := List.eq_nil_of_length_eq_zero (by omega)
    subst e
    exact ⟨q, hK, hL, hB, hF, rfl⟩
  | succ n ih =>
    intro l1 C s g F h hL hB hs hF hg
    rcases lst_last l1 with e | ⟨L, x, e⟩
    · subst e
      refine ⟨fun q => ⟨h.1 q, hL, hB, hF, rfl⟩, fun q => ?_⟩
      have : (([] : List Row).length : Int) = 0 := rfl
      omega
    · subst e
      have el : ((L ++ [x]).length : Int) - 1 = L.length := by rw [len_1]; omega
      have e2 : (L ++ [x]) ++ C = L ++ x :: C := app_c
      rw [el] at h ⊢
      rw [e2] at hL
      have hx : (L ++ x :: C)[L.length]? = some x := at_len
      have hgx := hg x (List.mem_append_right _ (List.mem_singleton.mpr rfl))
      have hgL : ∀ r, r ∈ L → gR r := fun r hr => hg r (List.mem_append_left _ hr)
      have ht := tc_m (k := k) (t := t) hL hB hx hgx hs
      refine ⟨fun q => by omega, fun q => ⟨(h.2 q).1, fun z => ⟨((h.2 q).2.1 z).1, ?_⟩, fun z => ?_⟩⟩
      · have h2 := ((h.2 q).2.1 z).2
        have tc := ht.mp z
        have c3 := swal_3 s d (L.length : Int)
        obtain ⟨o1, o2⟩ := outM (i := L.length) (hL.cong c3) (hB.cong c3) hd (lt_some hx)
        rw [era_len] at o1
        have oc := out_c (s := mSwal s d (L.length : Int)) (d := d) (i := (L.length : Int))
        have f4 : frM ((mOut (mSwal s d (L.length : Int)) d (L.length : Int)).2 4) (mrR F x) := by
          rw [oc.2 4 (by decide)]
          exact swal_F hL hx hF
        have f1 : (mOut (mSwal s d (L.length : Int)) d (L.length : Int)).1 12 = s.1 12 := by
          rw [oc.1]
          rfl
        rw [show (L.length : Int) + -1 = (L.length : Int) - 1 by omega] at h2 ⊢
        have u := ih L C _ g (mrR F x) h2 o1 o2 hs f4 hgL
        refine jnP2_mono (fun s' y => ?_) _ _ _ u
        obtain ⟨y1, y2, y3, y4, y5⟩ := y
        rw [List.filter_append, List.filter_append, List.filter_cons_of_pos tc, List.filter_cons_of_neg (by rw [tc]; decide), List.filter_nil, List.filter_nil, List.append_nil, List.reverse_append]
        exact ⟨y1, y2, y3, y4, y5.trans f1⟩
      · have h2 := (h.2 q).2.2 z
        have tc : ¬ tcB ga k t x = true := fun y => z (ht.mpr y)
        have tcf : tcB ga k t x = false := Bool.eq_false_iff.mpr tc
        rw [show (L.length : Int) + -1 = (L.length : Int) - 1 by omega] at h2 ⊢
        have u := ih L (x :: C) s g F h2 hL hB hs hF hgL
        refine jnP2_mono (fun s' y => ?_) _ _ _ u
        obtain ⟨y1, y2, y3, y4, y5⟩ := y
        rw [List.filter_append, List.filter_append, List.filter_cons_of_neg tc, List.filter_cons_of_pos (by rw [tcf]; rfl), List.filter_nil, List.filter_nil, List.append_nil, app_c]
        exact ⟨y1, y2, y3, y4, y5⟩
/-! it comes in -/
def behR (F x : Row) : Prop := F 0 < x 0 ∨ (x 0 = F 0 ∧ F 1 < x 1)
def shM (d : Int) (s : MS) (l1 C : List Row) : Prop := (∀ (i : Nat) (r : Row), l1[i]? = some r → rwM d s i r) ∧ ∀ (i : Nat) (r : Row), C[i]? = some r → rwM d s ((l1.length : Int) + 1 + i) r
theorem beh_m {d : Int} {s : MS} {i : Int} {x F : Row} (hr : rwM d s i x) (hF : frM (s.2 4) F) : mBehind s d i ↔ behR F x := by
  show (s.2 4 0 < mg s (d * 2804 + 364 + 7 * i + 0) ∨ (mg s (d * 2804 + 364 + 7 * i + 0) = s.2 4 0 ∧ s.2 4 1 < mg s (d * 2804 + 364 + 7 * i + 1))) ↔ _
  rw [hr 0 (by decide) (by decide), hr 1 (by decide) (by decide), hF 0 (by decide), hF 1 (by decide)]
  exact Iff.rfl
theorem cm_s {d : Int} {F : Row} {A : List Row} (hd : 0 ≤ d) (hA : ∀ x, x ∈ A → ¬ behR F x) : ∀ (n : Nat) (C C2 : List Row) (s : MS), C.length = n → shM d s (A ++ C) C2 → frM (s.2 4) F → (A ++ C).length + 1 + C2.length ≤ 160 → (∀ x, x ∈ C → behR F x) → (cmL d (A ++ C).length s).1 = A.length ∧ shM d (cmL d (A ++ C).length s).2 A (C ++ C2) ∧ cF s (cmL d (A ++ C).length s).2 ∧ ∀ x, 0 ≤ x → (x < d * 2804 + 364 ∨ d * 2804 + 1484 ≤ x) → mg (cmL d (A ++ C).length s).2 x = mg s x := by
  intro n
  induction n with
  | zero =>
    intro C C2 s hn hS hF hl hC
    have e : C = [] := List.eq_nil_of_length_eq_zero hn
    subst e
    rw [List.append_nil] at hS hl ⊢
    have stop : cmL d A.length s = (A.length, s) := by
      rcases lst_last A with e | ⟨L, x, e⟩
      · subst e; rfl
      · subst e
        have nb := hA x (List.mem_append_right _ (List.mem_singleton.mpr rfl))
        have hx : (L ++ [x])[L.length]? = some x := at_len
        have hm := beh_m (hS.1 L.length x hx) hF
        rw [show (L ++ [x]).length = L.length + 1 by rw [List.length_append]; rfl, cmL, if_neg (fun z => nb (hm.mp z))]
    rw [stop]
    exact ⟨rfl, hS, cF.same, fun _ _ _ => rfl⟩
  | succ n ih =>
    intro C C2 s hn hS hF hl hC
    rcases lst_last C with e | ⟨L, x, e⟩
    · subst e
      exact absurd hn (fun z => by cases z)
    · subst e
      rw [← List.append_assoc] at hS hl ⊢
      have hln : (A ++ L ++ [x]).length = (A ++ L).length + 1 := by rw [List.length_append (as := A ++ L)]; rfl
      have hx : (A ++ L ++ [x])[(A ++ L).length]? = some x := at_len
      have bx := hC x (List.mem_append_right _ (List.mem_singleton.mpr rfl))
      have hrx := hS.1 _ x hx
      have hm := (beh_m hrx hF).mpr bx
      rw [hln, cmL, if_pos hm]
      rw [hln] at hl
      have cf := cpL_1 (d * 2804 + 364 + 7 * (((A ++ L).length : Int) + 1)) (d * 2804 + 364 + 7 * ((A ++ L).length : Int)) 7 0 s
      have fr : ∀ z, 0 ≤ z → (z < d * 2804 + 364 + 7 * (((A ++ L).length : Int) + 1) ∨ d * 2804 + 364 + 7 * (((A ++ L).length : Int) + 1) + 7 ≤ z) → mg (cpL (d * 2804 + 364 + 7 * (((A ++ L).length : Int) + 1)) (d * 2804 + 364 + 7 * ((A ++ L).length : Int)) 7 0 s) z = mg s z := fun z z0 hz => cpL_fr _ _ (by omega) 7 0 s z (by decide) z0 (by omega)
      have eq : ∀ q, 0 ≤ q → q < 7 → mg (cpL (d * 2804 + 364 + 7 * (((A ++ L).length : Int) + 1)) (d * 2804 + 364 + 7 * ((A ++ L).length : Int)) 7 0 s) (d * 2804 + 364 + 7 * (((A ++ L).length : Int) + 1) + q) = mg s (d * 2804 + 364 + 7 * ((A ++ L).length : Int) + q) := fun q q0 q1 => cpL_eq _ _ (by omega) (by omega) 7 0 s q (by decide) q0 (by omega) q1
      generalize cpL (d * 2804 + 364 + 7 * (((A ++ L).length : Int) + 1)) (d * 2804 + 364 + 7 * ((A ++ L).length : Int)) 7 0 s = s1 at cf fr eq ⊢
      have hS1 : shM d s1 (A ++ L) (x :: C2) := by
        refine ⟨fun i r hi => ?_, fun i r hi => ?_⟩
        · have hil := lt_some hi
          have hi2 : (A ++ L ++ [x])[i]? = some r := by rw [List.getElem?_append_left hil]; exact hi
          exact (hS.1 i r hi2).of (fun c c0 c1 => fr _ (by omega) (by omega))
        · cases i with
          | zero =>
            have : x = r := by simpa using hi
            subst this
            intro c c0 c1
            have := eq c c0 c1
            show mg s1 (d * 2804 + 364 + 7 * (((A ++ L).length : Int) + 1 + ((0 : Nat) : Int)) + c) = _
            rw [show ((A ++ L).length : Int) + 1 + ((0 : Nat) : Int) = ((A ++ L).length : Int) + 1 by omega, this]
            exact hrx c c0 c1
          | succ i =>
            have hi2 : C2[i]? = some r := by simpa using hi
            have hil := lt_some hi2
            have := hS.2 i r hi2
            rw [hln] at this
            refine this.of (fun c c0 c1 => ?_)
            rw [show ((A ++ L).length : Int) + 1 + ((i + 1 : Nat) : Int) = (((A ++ L).length + 1 : Nat) : Int) + 1 + (i : Int) by omega]
            exact fr _ (by omega) (by omega)
      have hln2 : (L ++ [x]).length = L.length + 1 := by rw [List.length_append]; rfl
      obtain ⟨r1, r2, r3, r4⟩ := ih L (x :: C2) s1 (by omega) hS1 (by
        intro c hc
        rw [cf.2 4 (by decide)]
        exact hF c hc) (by rw [List.length_cons]; omega) (fun y hy => hC y (List.mem_append_left _ hy))
      refine ⟨r1, ?_, cf.trans r3, fun z z0 hz => ?_⟩
      · rw [app_c]
        exact r2
      · rw [r4 z z0 hz]
        have := hl
        exact fr z z0 (by omega)
theorem inM {d : Int} {s : MS} {A C : List Row} {F : Row} {g : Int → Int} (hd : 0 ≤ d) (hL : lsM d s (A ++ C)) (hB : sB d s g) (hF : frM (s.2 4) F) (hn : (A ++ C).length ≤ 159) (hA : ∀ x, x ∈ A → ¬ behR F x) (hC : ∀ x, x ∈ C → behR F x) : (mIn s d).1 = A.length ∧ lsM d (mIn s d).2 (A ++ F :: C) ∧ sB d (mIn s d).2 g ∧ (mIn s d).2.2 4 = s.2 4 := by
  have e5 := hL.1.1
  obtain ⟨c1, c2, c3, c4⟩ := cm_s hd hA C.length C [] s rfl ⟨hL.2, fun i r hi => by simp at hi⟩ hF (by rw [List.length_nil]; omega) hC
  rw [List.append_nil] at c2
  show (cmL d (mg s (d * 2804 + 5)).toNat s).1 = A.length ∧ lsM d (mInc (fpL2 (d * 2804 + 364 + 7 * ((cmL d (mg s (d * 2804 + 5)).toNat s).1 : Int)) 7 0 (cmL d (mg s (d * 2804 + 5)).toNat s).2) (d * 2804 + 5) 1) (A ++ F :: C) ∧ sB d (mInc (fpL2 (d * 2804 + 364 + 7 * ((cmL d (mg s (d * 2804 + 5)).toNat s).1 : Int)) 7 0 (cmL d (mg s (d * 2804 + 5)).toNat s).2) (d * 2804 + 5) 1) g ∧ (mInc (fpL2 (d * 2804 + 364 + 7 * ((cmL d (mg s (d * 2804 + 5)).toNat s).1 : Int)) 7 0 (cmL d (mg s (d * 2804 + 5)).toNat s).2) (d * 2804 + 5) 1).2 4 = s.2 4
  rw [show (mg s (d * 2804 + 5)).toNat = (A ++ C).length by rw [e5]; omega]
  generalize cmL d (A ++ C).length s = pr at c1 c2 c3 c4 ⊢
  obtain ⟨i, u⟩ := pr
  have c1 : i = A.length := c1
  subst c1
  have c2 : shM d u A C := c2
  have c3 : cF s u := c3
  have c4 : ∀ x, 0 ≤ x → (x < d * 2804 + 364 ∨ d * 2804 + 1484 ≤ x) → mg u x = mg s x := c4
  have la : (A ++ C).length = A.length + C.length := List.length_append
  have lf : (A ++ F :: C).length = A.length + (C.length + 1) := by rw [List.length_append, List.length_cons]
  have f1 := fpL2_1 (d * 2804 + 364 + 7 * (A.length : Int)) 7 0 u
  have ff : ∀ z, 0 ≤ z → (z < d * 2804 + 364 + 7 * (A.length : Int) ∨ d * 2804 + 364 + 7 * (A.length : Int) + 7 ≤ z) → mg (fpL2 (d * 2804 + 364 + 7 * (A.length : Int)) 7 0 u) z = mg u z := fun z z0 hz => fpL2_fr _ (by omega) 7 0 u z (by decide) z0 (by omega)
  have fe : ∀ q, 0 ≤ q → q < 7 → mg (fpL2 (d * 2804 + 364 + 7 * (A.length : Int)) 7 0 u) (d * 2804 + 364 + 7 * (A.length : Int) + q) = u.2 4 q.toNat := fun q q0 q1 => fpL2_eq _ (by omega) 7 0 u q (by decide) q0 (by omega)
  show A.length = A.length ∧ lsM d (mInc (fpL2 (d * 2804 + 364 + 7 * (A.length : Int)) 7 0 u) (d * 2804 + 5) 1) (A ++ F :: C) ∧ sB d (mInc (fpL2 (d * 2804 + 364 + 7 * (A.length : Int)) 7 0 u) (d * 2804 + 5) 1) g ∧ (mInc (fpL2 (d * 2804 + 364 + 7 * (A.length : Int)) 7 0 u) (d * 2804 + 5) 1).2 4 = s.2 4
  generalize fpL2 (d * 2804 + 364 + 7 * (A.length : Int)) 7 0 u = u2 at f1 ff fe ⊢
  have ne5 : ∀ z, 0 ≤ z → z ≠ d * 2804 + 5 → mg (mInc u2 (d * 2804 + 5) 1) z = mg u2 z := fun z z0 hz => mInc_ne (by omega) z0 (fun e => hz e.symm)
  refine ⟨rfl, ⟨⟨?_, by omega⟩, fun j r hj => ?_⟩, fun c c0 hc => ?_, ?_⟩
  · rw [mInc_eq, ff _ (by omega) (by omega), c4 _ (by omega) (by omega), e5, wI_id ⟨by omega, by omega⟩, lf, la]
    omega
  · have hjl := lt_some hj
    rw [lf] at hjl
    have up : ∀ q, 0 ≤ q → q < 7 → mg (mInc u2 (d * 2804 + 5) 1) (d * 2804 + 364 + 7 * (j : Int) + q) = mg u2 (d * 2804 + 364 + 7 * (j : Int) + q) := fun q q0 q1 => ne5 _ (by omega) (by omega)
    by_cases q : j < A.length
    · have hj2 : A[j]? = some r := by rw [List.getElem?_append_left q] at hj; exact hj
      refine (c2.1 j r hj2).of (fun c c0 c1 => ?_)
      rw [up c c0 c1]
      exact ff _ (by omega) (by omega)
    · rw [List.getElem?_append_right (by omega)] at hj
      by_cases e : j = A.length
      · subst e
        rw [Nat.sub_self] at hj
        have : F = r := by simpa using hj
        subst this
        intro c c0 c1
        rw [up c c0 c1, fe c c0 c1, c3.2 4 (by decide), hF c.toNat (by omega), show ((c.toNat : Nat) : Int) = c by omega]
      · have ej : j - A.length = (j - 1 - A.length) + 1 := by omega
        rw [ej, List.getElem?_cons_succ] at hj
        refine (c2.2 _ r hj).of (fun c c0 c1 => ?_)
        rw [up c c0 c1, ff _ (by omega) (by omega), show (A.length : Int) + 1 + ((j - 1 - A.length : Nat) : Int) = (j : Int) by omega]
  · have hc' := hc
    unfold zB at hc'
    rw [ne5 _ (by omega) (by omega), ff _ (by omega) (by omega), c4 _ (by omega) (by omega)]
    exact hB c c0 hc
  · exact (f1.trans cF_I).2 4 (by decide) |>.trans (c3.2 4 (by decide))
end
-- 98966.oj
section
/-! ===== an event joins: what the model leaves; the order stays ===== -/
theorem tk_f : ∀ (T : List Row) (b : Int) (g : Int → Int), (∀ r, r ∈ T → gR r) → b7 b g → b + T.length < 1000000 → b7 (b + T.length) (T.foldl tkG g) ∧ ∀ c, (c < 7 ∨ (8 ≤ c ∧ c < 32) ∨ (36 ≤ c ∧ c < 60) ∨ (84 ≤ c ∧ c < 1484) ∨ 1844 ≤ c) → T.foldl tkG g c = g c
  | [], b, g, _, h7, hb => ⟨⟨h7.1, by have := h7.2; show g 7 ≤ b + ((0 : Nat) : Int); omega⟩, fun _ _ => rfl⟩
  | r :: T, b, g, hT, h7, hb => by
    rw [List.length_cons] at hb ⊢
    have hg := hT r List.mem_cons_self
    obtain ⟨a, e⟩ := tk_f T (b + 1) (tkG g r) (fun x hx => hT x (List.mem_cons_of_mem r hx)) (h7.tk (by omega) hg) (by omega)
    exact ⟨⟨a.1, Int.le_trans a.2 (by omega)⟩, fun c hc => (e c hc).trans (tkG_ne h7.1 hg hc)⟩
theorem flt_all {P : Row → Bool} {T : List Row} (h : ∀ x, x ∈ T → P x = true) : T.filter P = T := List.filter_eq_self.mpr h
theorem flt_none {P : Row → Bool} {T : List Row} (h : ∀ x, x ∈ T → ¬ P x = true) : T.filter P = [] := List.filter_eq_nil_iff.mpr h
theorem joinS {d ga la p e b k t v : Int} {n : Nat} {K : MS → Prop} {s : MS} {g : Int → Int} {l A T C : List Row} (hd : dOk d) (h : mJoinP s d k t v n K) (hL : lsM d s l) (hB : sB d s g) (hs : stG g ga la p) (he : g 3 = e) (hl : gdL ga l) (sp : sp3 ga k t l A T C) (hk : 0 ≤ k ∧ k < 6) (ht : 0 ≤ t ∧ t ≤ 9999) (hv : xB v) (hn : l.length ≤ 159) (h7 : b7 b g) (hb : b + l.length + 2 < 1000000) : mJoinP s d k t v n (fun s' => K s' ∧ lsM d s' (A ++ anR (kdR ga p e (T.foldl mrR (frR k t v))) (T.foldl mrR (frR k t v)) :: C) ∧ sB d s' (anG (kdR ga p e (T.foldl mrR (frR k t v))) (T.foldl mrR (frR k t v)) (in1 (T.foldl tkG g) 11 (if 1 < (T.length : Int) then 1 else 0)))) := by
  have hd0 : 0 ≤ d := hd.1
  have sp' := sp
  obtain ⟨e0, hA, hT, hC⟩ := sp
  have el : l.length = A.length + (T.length + C.length) := by rw [e0, List.length_append, List.length_append]
  have hTg : ∀ r, r ∈ T → gR r := fun r hr => hl.1 r (by rw [e0]; exact List.mem_append_right _ (List.mem_append_left _ hr))
  have fT : l.filter (tcB ga k t) = T := by
    rw [e0, List.filter_append, List.filter_append, flt_none (fun x hx => lo_tc (hA x hx)), flt_all hT, flt_none (fun x hx => hi_tc (hC x hx)), List.append_nil]
    rfl
  have mA : A.map (tkT ga k t) = A := by
    have : ∀ x, x ∈ A → tkT ga k t x = x := fun x hx => if_neg (lo_tc (hA x hx))
    rw [List.map_congr_left this, List.map_id']
  have mC' : C.map (tkT ga k t) = C := by
    have : ∀ x, x ∈ C → tkT ga k t x = x := fun x hx => if_neg (hi_tc (hC x hx))
    rw [List.map_congr_left this, List.map_id']
  have mT : T.map (tkT ga k t) = T.map (fun r => up1 r 6 0) := List.map_congr_left (fun x hx => if_pos (hT x hx))
  have mT' : ∀ x, x ∈ T.map (tkT ga k t) → tcB ga k t x = true := fun x hx => by
    obtain ⟨y, hy, ey⟩ := List.mem_map.mp hx
    rw [← ey, tkT_tc]
    exact hT y hy
  have lm : l.map (tkT ga k t) = A ++ (T.map (tkT ga k t) ++ C) := by rw [e0, List.map_append, List.map_append, mA, mC']
  have f1 : (l.map (tkT ga k t)).filter (tcB ga k t) = T.map (fun r => up1 r 6 0) := by
    rw [lm, List.filter_append, List.filter_append, flt_none (fun x hx => lo_tc (hA x hx)), flt_all mT', flt_none (fun x hx => hi_tc (hC x hx)), List.append_nil, mT]
    rfl
  have f2 : (l.map (tkT ga k t)).filter (fun x => !tcB ga k t x) = A ++ C := by
    rw [lm, List.filter_append, List.filter_append, flt_all (fun x hx => by rw [Bool.eq_false_iff.mpr (lo_tc (hA x hx))]; rfl), flt_none (fun x hx => by rw [mT' x hx]; decide), flt_all (fun x hx => by rw [Bool.eq_false_iff.mpr (hi_tc (hC x hx))]; rfl)]
    rfl
  obtain ⟨t7, tne⟩ := tk_f T b g hTg h7 (by omega)
  have hR : gR (T.foldl mrR (frR k t v)) := mrs_g T _ (frR_g hk ht hv) hTg
  have hRA : ∀ x, x ∈ A → ¬ behR (T.foldl mrR (frR k t v)) x := fun x hx z => by
    have q := hA x hx
    have gx := (hl.1 x (by rw [e0]; exact List.mem_append_left _ hx)).2.1
    unfold behR at z
    rw [(mrs_0 T (frR k t v)).1, frR_c.1] at z
    unfold loB at q
    have g0 := hs.2.1.1
    by_cases c : x 0 = k
    · have := mrs_lt T (frR k t v) (x 1) (by rw [frR_c.2.1]; omega) (fun y hy => by
        have hb := hl.2
        rw [e0] at hb
        have b1 := (List.pairwise_append.mp hb).2.2 x hx y (List.mem_append_left _ hy)
        have yk := (of_decide_eq_true (hT y hy)).1
        unfold bef at b1
        omega)
      omega
    · omega
  have hRC : ∀ x, x ∈ C → behR (T.foldl mrR (frR k t v)) x := fun x hx => by
    have q := hC x hx
    have := mrs_le T (frR k t v)
    rw [frR_c.2.1] at this
    unfold behR
    rw [(mrs_0 T (frR k t v)).1, frR_c.1]
    unfold hiB at q
    have g0 := hs.2.1.1
    omega
  unfold mJoinP at h ⊢
  have u := jn1S hd0 n l [] b (mFresh s k t v) g h (hL.cong rfl) (hB.cong rfl) hs hl.1 h7 (by omega) (Int.le_refl 0) (show (0 : Int) + l.length < 1000000 by omega)
  refine jnP1_mono (fun s1 y => ?_) _ _ _ u
  obtain ⟨y1, y2, y3, y4, y5⟩ := y
  have y2 : lsM d s1 (l.map (tkT ga k t)) := y2
  have y5 : s1.1 12 = 0 + ((l.filter (tcB ga k t)).length : Int) := y5
  rw [fT] at y3 y5
  have e5 : wI (mg s1 (d * 2804 + 5) - 1) = ((l.map (tkT ga k t)).length : Int) - 1 := by
    have q := y2.1
    rw [q.1, wI_id ⟨by omega, by omega⟩]
  rw [e5] at y1 ⊢
  have hs1 : stG (T.foldl tkG g) ga la p := hs.of (fun c c0 c1 => tne c (by omega))
  have v1 := jn2S hd n (l.map (tkT ga k t)) [] s1 (T.foldl tkG g) (frR k t v) y1 (by rw [List.append_nil]; exact y2) y3 hs1 (by rw [y4]; exact fresh_F s k t v) (fun r hr => by
    obtain ⟨z, hz, ez⟩ := List.mem_map.mp hr
    rw [← ez]
    exact tkT_g (hl.1 z hz))
  refine jnP2_mono (fun s2 z => ?_) _ _ _ v1
  obtain ⟨z1, z2, z3, z4, z5⟩ := z
  rw [f2, List.append_nil] at z2
  rw [f1, mrs_rev, mrs_up] at z4
  rw [y5] at z5
  have z5 : s2.1 12 = T.length := by rw [z5]; omega
  generalize T.foldl mrR (frR k t v) = R at z4 hR hRA hRC ⊢
  unfold jnE at z1 ⊢
  rw [z5] at z1 ⊢
  dsimp only at z1 ⊢
  refine ⟨z1.1, ?_⟩
  have w2 := z1.2
  have L3 : lsM d (mInc s2 (d * 2804 + 11) (if 1 < (T.length : Int) then 1 else 0)) (A ++ C) := z2.ne hd0 (by decide) (by unfold zB; omega)
  have B3 := z3.inc (v := if 1 < (T.length : Int) then 1 else 0) hd0 (rfl : d * 2804 + 11 = d * 2804 + 11) (by decide) (by unfold zB; omega)
  have F3 : frM ((mInc s2 (d * 2804 + 11) (if 1 < (T.length : Int) then 1 else 0)).2 4) R := by
    rw [inc4]
    exact z4
  have G7 : b7 (b + T.length) (in1 (T.foldl tkG g) 11 (if 1 < (T.length : Int) then 1 else 0)) := by
    unfold b7
    rw [in1_ne (by decide)]
    exact t7
  have G5 : ∀ c, 0 ≤ c → c < 5 → in1 (T.foldl tkG g) 11 (if 1 < (T.length : Int) then 1 else 0) c = g c := fun c c0 c1 => by
    rw [in1_ne (by omega), tne c (by omega)]
  generalize mInc s2 (d * 2804 + 11) (if 1 < (T.length : Int) then 1 else 0) = s3 at L3 B3 F3 w2 ⊢
  generalize in1 (T.foldl tkG g) 11 (if 1 < (T.length : Int) then 1 else 0) = g3 at B3 G7 G5 ⊢
  obtain ⟨i1, i2, i3, i4⟩ := inM hd0 L3 B3 F3 (by rw [List.length_append]; omega) hRA hRC
  rw [i1] at w2 ⊢
  have F4 : frM ((mIn s3 d).2.2 4) R := by rw [i4]; exact F3
  generalize (mIn s3 d).2 = s4 at i2 i3 F4 w2 ⊢
  have hs4 : stG g3 ga la p := hs.of G5
  have rp := rip_m (q := mg s4 (d * 2804 + 4)) i2 i3 at_len hR hs4
  have e4 := i3 4 (by decide) (by unfold zB; omega)
  have e3 := i3 3 (by decide) (by unfold zB; omega)
  rw [hs4.1.2.2] at e4
  rw [G5 3 (by decide) (by decide), he] at e3
  have f3 := F4 3 (by decide)
  have f3 : s4.2 4 3 = R 3 := f3
  have hb7 : 0 ≤ g3 7 := G7.1
  have snd : ∀ kd, 0 ≤ kd ∧ kd < 4 → kd ≠ 3 → lsM d (mSend s4 d kd (A.length : Int)) (A ++ up1 R 6 (kd + 1) :: C) ∧ sB d (mSend s4 d kd (A.length : Int)) (sn1 g3 kd R) := fun kd hkd h3 => by
    obtain ⟨a, b⟩ := snM (kd := kd) i2 i3 hd0 at_len hb7 hkd hR.1
    rw [if_neg h3, set_len, show 1 + kd = kd + 1 by omega] at a
    exact ⟨a, b⟩
  unfold jnF at w2 ⊢
  refine ⟨fun q => ⟨(w2.1 q).1, (w2.1 q).2, ?_⟩, fun q => ⟨fun q2 => ⟨((w2.2 q).1 q2).1, ((w2.2 q).1 q2).2, ?_⟩, fun q2 => ⟨(w2.2 q).2 q2, ?_⟩⟩⟩
  · have c := rp.mp q
    rw [e4] at c
    have ek : kdR ga p e R = 2 := if_pos c
    unfold anR anG
    rw [ek, if_pos (by decide), if_pos (by decide)]
    exact snd 2 (by decide) (by decide)
  · have c : ¬ R 2 + ga < p := fun y => q (rp.mpr (by rw [e4]; exact y))
    rw [e3, f3] at q2
    have ek : kdR ga p e R = 0 := (if_neg c).trans (if_pos q2)
    unfold anR anG
    rw [ek, if_pos (by decide), if_pos (by decide)]
    exact snd 0 (by decide) (by decide)
  · have c : ¬ R 2 + ga < p := fun y => q (rp.mpr (by rw [e4]; exact y))
    rw [e3, f3] at q2
    have ek : kdR ga p e R = -1 := (if_neg c).trans (if_neg q2)
    unfold anR anG
    rw [ek, if_neg (by decide), if_neg (by decide)]
    exact ⟨i2, i3⟩
/-! the order stays -/
theorem mrs_2 : ∀ (T : List Row) (x : Row) (z : Int), x 2 < z → (∀ y : Row, y ∈ T → y 2 < z) → T.foldl mrR x 2 < z
  | [], _, _, h, _ => h
  | y :: T, x, z, h, hT => mrs_2 T (mrR x y) z (by
    rw [mrR_c.2.2.1]
    have := hT y List.mem_cons_self
    omega) (fun q hq => hT q (List.mem_cons_of_mem y hq))
theorem anR_g {kd : Int} {R : Row} (h : gR R) (hk : kd ≤ 2) : gR (anR kd R) ∧ anR kd R 0 = R 0 ∧ anR kd R 1 = R 1 ∧ anR kd R 2 = R 2 := by
  unfold anR
  split
  · exact ⟨h.up (by omega), up1_6.1, up1_6.2.1, up1_6.2.2.1⟩
  · exact ⟨h, rfl, rfl, rfl⟩
theorem gdL.join {ga k t v kd : Int} {l A T C : List Row} (g0 : 0 ≤ ga) (hl : gdL ga l) (sp : sp3 ga k t l A T C) (hk : 0 ≤ k ∧ k < 6) (ht : 0 ≤ t ∧ t ≤ 9999) (hv : xB v) (hkd : kd ≤ 2) : gdL ga (A ++ anR kd (T.foldl mrR (frR k t v)) :: C) := by
  obtain ⟨e0, hA, hT, hC⟩ := sp
  have hTg : ∀ r, r ∈ T → gR r := fun r hr => hl.1 r (by rw [e0]; exact List.mem_append_right _ (List.mem_append_left _ hr))
  have hR : gR (T.foldl mrR (frR k t v)) := mrs_g T _ (frR_g hk ht hv) hTg
  have R0 : T.foldl mrR (frR k t v) 0 = k := (mrs_0 T _).1
  have hb := hl.2
  rw [e0] at hb
  obtain ⟨p1, p2, p3⟩ := List.pairwise_append.mp hb
  obtain ⟨q1, q2, q3⟩ := List.pairwise_append.mp p2
  have hRA : ∀ x : Row, x ∈ A → x 0 < k ∨ (x 0 = k ∧ x 2 + ga < T.foldl mrR (frR k t v) 1) := fun x hx => by
    have q := hA x hx
    unfold loB at q
    by_cases c : x 0 = k
    · refine Or.inr ⟨c, mrs_lt T (frR k t v) (x 2 + ga) (by rw [frR_c.2.1]; omega) (fun y hy => ?_)⟩
      have b1 := p3 x hx y (List.mem_append_left _ hy)
      have yk := (of_decide_eq_true (hT y hy)).1
      unfold bef at b1
      omega
    · omega
  have hRC : ∀ x : Row, x ∈ C → k < x 0 ∨ (x 0 = k ∧ T.foldl mrR (frR k t v) 2 + ga < x 1) := fun x hx => by
    have q := hC x hx
    unfold hiB at q
    by_cases c : x 0 = k
    · have := mrs_2 T (frR k t v) (x 1 - ga) (by rw [frR_c.2.2.1]; omega) (fun y hy => by
        have b1 := q3 y hy x hx
        have yk := (of_decide_eq_true (hT y hy)).1
        unfold bef at b1
        omega)
      exact Or.inr ⟨c, by omega⟩
    · omega
  obtain ⟨a0, a1, a2, a3⟩ := anR_g hR hkd
  generalize anR kd (T.foldl mrR (frR k t v)) = R' at a0 a1 a2 a3 ⊢
  refine ⟨fun r hr => ?_, List.pairwise_append.mpr ⟨p1, List.pairwise_cons.mpr ⟨fun x hx => ?_, q2⟩, fun x hx y hy => ?_⟩⟩
  · rcases List.mem_append.mp hr with m | m
    · exact hl.1 r (by rw [e0]; exact List.mem_append_left _ m)
    · rcases List.mem_cons.mp m with m | m
      · rw [m]; exact a0
      · exact hl.1 r (by rw [e0]; exact List.mem_append_right _ (List.mem_append_right _ m))
  · unfold bef
    rw [a1, a3, R0]
    have := hRC x hx
    omega
  · rcases List.mem_cons.mp hy with m | m
    · rw [m]
      unfold bef
      rw [a1, a2, R0]
      exact hRA x hx
    · exact p3 x hx y (List.mem_append_right _ m)
/-! melted, counts by kinds -/
theorem f9_step {w : WS} {be i : Int} : (wStep w be i).1 9 = w.1 9 := by
  have key : ∀ x : WS, (if wOver x i (x.1 3) then wFin x i else x).1 9 = x.1 9 := by
    intro x
    split
    · rfl
    · rfl
  unfold wStep
  dsimp only
  rw [key]
  split
  · rfl
  · show (wTake w i).1 9 = w.1 9
    unfold wTake
    split <;> rfl
theorem f9_rise (be : Int) : ∀ (n : Nat) (pa : Int) (w : WS), (riseL be n pa w).1 9 = w.1 9
  | 0, _, _ => rfl
  | n + 1, pa, w => by
    rw [riseL]
    split
    · rfl
    · exact (f9_rise be n _ _).trans f9_step
def kS (g : Int → Int) : Prop := ∀ j, 0 ≤ j → j < 4 → g (32 + j) = g (60 + j) + g (64 + j) + g (68 + j) + g (72 + j) + g (76 + j) + g (80 + j) ∧ ∀ k, 0 ≤ k → k < 6 → 0 ≤ g (60 + 4 * k + j) ∧ g (60 + 4 * k + j) ≤ g 7
theorem kS.cong {g g' : Int → Int} (h : kS g) (e : ∀ c, c = 7 ∨ (32 ≤ c ∧ c < 36) ∨ (60 ≤ c ∧ c < 84) → g' c = g c) : kS g' := fun j j0 j1 => by
  obtain ⟨a, b⟩ := h j j0 j1
  refine ⟨?_, fun k k0 k1 => ?_⟩
  · rw [e (32 + j) (by omega), e (60 + j) (by omega), e (64 + j) (by omega), e (68 + j) (by omega), e (72 + j) (by omega), e (76 + j) (by omega), e (80 + j) (by omega)]
    exact a
  · rw [e (60 + 4 * k + j) (by omega), e 7 (by omega)]
    exact b k k0 k1
theorem kS.sn {b kd : Int} {g : Int → Int} {r : Row} (h : kS g) (h7 : b7 b g) (hb : b < 1000000) (hk : 0 ≤ kd ∧ kd < 4) (hr : gR r) : kS (sn1 g kd r) := fun j j0 j1 => by
  obtain ⟨a, c⟩ := h j j0 j1
  have g7 := h7.1
  have g7' := h7.2
  have e7 := sn1_7 (g := g) (kd := kd) (r := r) ⟨g7, by omega⟩ hk hr.1
  have c0 := c 0 (by decide) (by decide)
  have c1 := c 1 (by decide) (by decide)
  have c2 := c 2 (by decide) (by decide)
  have c3 := c 3 (by decide) (by decide)
  have c4 := c 4 (by decide) (by decide)
  have c5 := c 5 (by decide) (by decide)
  rw [show (60 : Int) + 4 * 0 + j = 60 + j by omega] at c0
  rw [show (60 : Int) + 4 * 1 + j = 64 + j by omega] at c1
  rw [show (60 : Int) + 4 * 2 + j = 68 + j by omega] at c2
  rw [show (60 : Int) + 4 * 3 + j = 72 + j by omega] at c3
  rw [show (60 : Int) + 4 * 4 + j = 76 + j by omega] at c4
  rw [show (60 : Int) + 4 * 5 + j = 80 + j by omega] at c5
  have K : ∀ k, 0 ≤ k → k < 6 → sn1 g kd r (60 + 4 * k + j) = g (60 + 4 * k + j) + (if k = r 0 ∧ j = kd then 1 else 0) := fun k k0 k1 => by
    have q := c k k0 k1
    rw [sn1_k g7 hk hr.1 ⟨k0, k1⟩ ⟨j0, j1⟩]
    by_cases z : k = r 0 ∧ j = kd
    · rw [if_pos z, if_pos z, wI_id (z := g (60 + 4 * k + j) + 1) ⟨by omega, by omega⟩]
    · rw [if_neg z, if_neg z]; omega
  have O : sn1 g kd r (32 + j) = g (32 + j) + (if j = kd then 1 else 0) := by
    rw [sn1_o g7 hk hr.1 ⟨j0, j1⟩]
    by_cases z : j = kd
    · rw [if_pos z, if_pos z, wI_id (z := g (32 + j) + 1) ⟨by omega, by omega⟩]
    · rw [if_neg z, if_neg z]; omega
  refine ⟨?_, fun k k0 k1 => ?_⟩
  · have k0 := K 0 (by decide) (by decide)
    have k1 := K 1 (by decide) (by decide)
    have k2 := K 2 (by decide) (by decide)
    have k3 := K 3 (by decide) (by decide)
    have k4 := K 4 (by decide) (by decide)
    have k5 := K 5 (by decide) (by decide)
    rw [show (60 : Int) + 4 * 0 + j = 60 + j by omega] at k0
    rw [show (60 : Int) + 4 * 1 + j = 64 + j by omega] at k1
    rw [show (60 : Int) + 4 * 2 + j = 68 + j by omega] at k2
    rw [show (60 : Int) + 4 * 3 + j = 72 + j by omega] at k3
    rw [show (60 : Int) + 4 * 4 + j = 76 + j by omega] at k4
    rw [show (60 : Int) + 4 * 5 + j = 80 + j by omega] at k5
    rw [O, k0, k1, k2, k3, k4, k5]
    have h0 := hr.1
    by_cases z : j = kd
    · rw [if_pos z]
      have : r 0 = 0 ∨ r 0 = 1 ∨ r 0 = 2 ∨ r 0 = 3 ∨ r 0 = 4 ∨ r 0 = 5 := by omega
      rcases this with q | q | q | q | q | q <;> rw [q] <;> simp [z] <;> rw [← z] <;> omega
    · rw [if_neg z, if_neg (fun y => z y.2), if_neg (fun y => z y.2), if_neg (fun y => z y.2), if_neg (fun y => z y.2), if_neg (fun y => z y.2), if_neg (fun y => z y.2)]
      omega
  · have q := c k k0 k1
    rw [K k k0 k1, e7]
    split <;> omega
theorem kS.tk {b : Int} {g : Int → Int} {r : Row} (h : kS g) (h7 : b7 b g) (hb : b < 1000000) (hr : gR r) : kS (tkG g r) := by
  unfold tkG
  split
  · exact h.sn h7 hb (by decide) hr
  · exact h
theorem kS.tks : ∀ (T : List Row) (b : Int) (g : Int → Int), (∀ r, r ∈ T → gR r) → kS g → b7 b g → b + T.length < 1000000 → kS (T.foldl tkG g)
  | [], _, _, _, h, _, _ => h
  | r :: T, b, g, hT, h, h7, hb => by
    rw [List.length_cons] at hb
    have hg := hT r List.mem_cons_self
    exact kS.tks T (b + 1) (tkG g r) (fun x hx => hT x (List.mem_cons_of_mem r hx)) (h.tk h7 (by omega) hg) (h7.tk (by omega) hg) (by omega)
theorem kS.rms : ∀ (T : List Row) (b : Int) (g : Int → Int), (∀ r, r ∈ T → gR r) → kS g → b7 b g → b + 2 * T.length < 1000000 → kS (T.foldl rmG g)
  | [], _, _, _, h, _, _ => h
  | r :: T, b, g, hT, h, h7, hb => by
    rw [List.length_cons] at hb
    have hg := hT r List.mem_cons_self
    exact kS.rms T (b + 2) (rmG g r) (fun x hx => hT x (List.mem_cons_of_mem r hx)) ((h.tk h7 (by omega) hg).sn (h7.tk (by omega) hg) (by omega) (by decide) hg) (h7.rm (by omega) hg) (by omega)
/-! with the finals' kinds -/
def fSF (g : Int → Int) : Prop := ∀ q, 0 ≤ q → q < 40 → 0 ≤ g (84 + 7 * q + 6) ∧ g (84 + 7 * q + 6) ≤ 3
def kSF (g : Int → Int) : Prop := kS g ∧ fSF g
theorem fSF.cong {g g' : Int → Int} (h : fSF g) (e : ∀ c, 84 ≤ c → c < 364 → g' c = g c) : fSF g' := fun q q0 q1 => by
  rw [e _ (by omega) (by omega)]
  exact h q q0 q1
theorem kSF.cong {g g' : Int → Int} (h : kSF g) (e : ∀ c, c = 7 ∨ (32 ≤ c ∧ c < 36) ∨ (60 ≤ c ∧ c < 84) ∨ (84 ≤ c ∧ c < 364) → g' c = g c) : kSF g' :=
  ⟨h.1.cong (fun c hc => e c (by omega)), h.2.cong (fun c c0 c1 => e c (by omega))⟩
theorem kSF.sn {b kd : Int} {g : Int → Int} {r : Row} (h : kSF g) (h7 : b7 b g) (hb : b < 1000000) (hk : 0 ≤ kd ∧ kd < 4) (hr : gR r) : kSF (sn1 g kd r) :=
  ⟨h.1.sn h7 hb hk hr, h.2.cong (fun c c0 c1 => sn1_ne h7.1 hk hr.1 (by omega))⟩
theorem kSF.tks (T : List Row) (b : Int) (g : Int → Int) (hT : ∀ r, r ∈ T → gR r) (h : kSF g) (h7 : b7 b g) (hb : b + T.length < 1000000) : kSF (T.foldl tkG g) :=
  ⟨kS.tks T b g hT h.1 h7 hb, h.2.cong (fun c c0 c1 => (tk_f T b g hT h7 hb).2 c (by omega))⟩
theorem kSF.rms (T : List Row) (b : Int) (g : Int → Int) (hT : ∀ r, r ∈ T → gR r) (h : kSF g) (h7 : b7 b g) (hb : b + 2 * T.length < 1000000) : kSF (T.foldl rmG g) :=
  ⟨kS.rms T b g hT h.1 h7 hb, h.2.cong (fun c c0 c1 => (rm_fold (C := fun c => 84 ≤ c ∧ c < 364) (fun c hc => by omega) T b g hT h7 hb).2 c ⟨c0, c1⟩)⟩
theorem kSF.fns : ∀ (T : List Row) (b : Int) (g : Int → Int), (∀ r, r ∈ T → gR r) → kSF g → b36 b g → b + T.length < 1000000 → kSF (T.foldl fn1 g)
  | [], _, _, _, h, _, _ => h
  | r :: T, b, g, hT, h, h36, hb => by
    rw [List.length_cons] at hb
    have hg := hT r List.mem_cons_self
    have s0 := (fn1_s (r := r) (h36.bd (by omega)) hg.1).2.1
    refine kSF.fns T (b + 1) (fn1 g r) (fun x hx => hT x (List.mem_cons_of_mem r hx)) ⟨h.1.cong (fun c hc => fn1_ne s0 hg.1 (by omega)), fun q q0 q1 => ?_⟩ (h36.fn (by omega) hg) (by omega)
    rw [fn1_m s0 hg.1 ⟨q0, q1⟩ (by decide)]
    split
    · exact hg.2.2.1
    · exact h.2 q q0 q1
end
-- 98967.ok
section
/-! ===== both sides: sessions, messages, finals; an input comes to both ===== -/
def jR (w : WS) (d : Int) (s : MS) (G : Int → Int) (l : List Row) : Prop := rS w G ∧ cW w l G G ∧ lsM d s l ∧ sB d s G ∧ gdL (G 1) l ∧ w.1 9 = G 11 ∧ kSF G
theorem riG_ne {ga la be p b : Int} {L : List Row} {g : Int → Int} (hL : ∀ r, r ∈ L → gR r) (h7 : b7 b g) (h36 : b36 b g) (hb : b + 2 * L.length + 2 < 1000000) : (∀ c, (c < 7 ∨ (8 ≤ c ∧ c < 32) ∨ 1844 ≤ c) → riG ga la be p L g c = up1 g 4 p c) ∧ (kSF g → kSF (riG ga la be p L g)) := by
  have lf : ∀ Q : Row → Bool, (L.filter Q).length ≤ L.length := fun Q => List.length_filter_le Q L
  have n1 := lf (newB ga be p)
  have n2 := lf (ovB ga la p)
  have n3 : ((L.filter (ovB ga la p)).map (nwR ga be p)).length = (L.filter (ovB ga la p)).length := List.length_map _
  have hN : ∀ r, r ∈ L.filter (newB ga be p) → gR r := fun r hr => hL r (List.mem_filter.mp hr).1
  have hO : ∀ r, r ∈ (L.filter (ovB ga la p)).map (nwR ga be p) → gR r := fun r hr => by
    obtain ⟨y, hy, e⟩ := List.mem_map.mp hr
    rw [← e]
    exact nwR_g (hL y (List.mem_filter.mp hy).1)
  have h7u : b7 b (up1 g 4 p) := by unfold b7; rw [up1_ne (by decide)]; exact h7
  obtain ⟨r7, r36⟩ := rm_fold (C := fun c => c < 7 ∨ (8 ≤ c ∧ c < 32) ∨ (36 ≤ c ∧ c < 60) ∨ (84 ≤ c ∧ c < 1484) ∨ 1844 ≤ c) (fun c hc => hc) (L.filter (newB ga be p)) b (up1 g 4 p) hN h7u (by omega)
  have h36u : b36 b ((L.filter (newB ga be p)).foldl rmG (up1 g 4 p)) := fun k k0 k1 => by
    rw [r36 (36 + k) (by omega), up1_ne (by omega)]
    exact h36 k k0 k1
  obtain ⟨-, fn⟩ := fn_fold (C := fun c => c < 36 ∨ (60 ≤ c ∧ c < 84) ∨ 364 ≤ c) (fun c hc => hc) ((L.filter (ovB ga la p)).map (nwR ga be p)) b ((L.filter (newB ga be p)).foldl rmG (up1 g 4 p)) hO h36u (by omega)
  refine ⟨fun c hc => ?_, fun hk => ?_⟩
  · unfold riG
    rw [fn c (by omega), r36 c (by omega)]
  · unfold riG
    have a := kSF.rms (L.filter (newB ga be p)) b (up1 g 4 p) hN (hk.cong (fun c hc => up1_ne (by omega))) h7u (by omega)
    exact kSF.fns _ b _ hO a h36u (by omega)
theorem fnC_g {ga la be p : Int} {x y : Row} (hx : gR x) (h : fnC ga la be p x = some y) : gR y ∧ y 0 = x 0 ∧ y 1 = x 1 ∧ y 2 = x 2 := by
  unfold fnC at h
  split at h
  · split at h
    · cases h
    · cases h
      exact ⟨nwR_g hx, nwR_c (by decide), nwR_c (by decide), nwR_c (by decide)⟩
  · cases h
    exact ⟨hx, rfl, rfl, rfl⟩
theorem sB.A {d : Int} {s : MS} {g : Int → Int} (h : sB d s g) : sA d s g := fun c c0 hc => h c c0 (by unfold zA at hc; unfold zB; omega)
theorem jR.rise {w : WS} {d b : Int} {s : MS} {G : Int → Int} {l : List Row} {K : MS → Prop} {n : Nat} (h : jR w d s G l) (hd : dOk d) (hB : gB G) (h0 : G 0 ≤ 4) (h7 : b7 b G) (h36 : b36 b G) (hb : b ≤ 900000) (hK : mRisP s d n K) : mRisP s d n (fun s' => K s' ∧ ∃ G' l', jR (wRise w) d s' G' l' ∧ ∀ c, (c < 4 ∨ c = 6 ∨ (8 ≤ c ∧ c < 32) ∨ 1844 ≤ c) → G' c = G c) := by
  obtain ⟨j1, j2, j3, j4, j5, j6, j7⟩ := h
  obtain ⟨⟨g1, g1'⟩, ⟨g2, g2'⟩, -, -, -⟩ := hB
  have hl := j4.A.least h0
  have e4 := j4 4 (by decide) (by unfold zB; omega)
  by_cases c : ls1 G ≤ G 4
  · have eR : wRise w = w := by
      unfold wRise
      rw [j1.least, j1.1.2.2.2, if_pos c]
    refine ⟨fun q => ⟨hK.1 q, G, l, by rw [eR]; exact ⟨j1, j2, j3, j4, j5, j6, j7⟩, fun _ _ => rfl⟩, fun q => ?_⟩
    rw [hl, e4] at q
    omega
  · obtain ⟨L, hc, hL⟩ := chn_ex (dueB (G 1) (G 2) (G 4) (ls1 G)) l l.length (-1) (ctR_k _ _ _)
    have hl160 := j3.1.2
    have sW : stW w (G 1) (G 2) := ⟨⟨j1.1.1, j1.1.2.1⟩, ⟨by omega, g1'⟩, g2, g2'⟩
    have sG : stG G (G 1) (G 2) (G 4) := ⟨⟨rfl, rfl, rfl⟩, ⟨by omega, g1'⟩, g2, g2'⟩
    obtain ⟨c1, c2, c3⟩ := rise_c j2 j5 sW j1.1.2.2.2 j1.least (by omega) hc hL h7 h36 (by omega)
    have m := rise_m hd j5 hK j3 j4 sG hl (by omega) hc h7 h36 (by omega)
    have hLg : ∀ r, r ∈ L → gR r := fun r hr => j5.1 r (chn_mem L (-1) hc r hr)
    obtain ⟨ne, kk⟩ := riG_ne (ga := G 1) (la := G 2) (be := G 4) (p := ls1 G) hLg h7 h36 (by omega)
    refine mRisP_mono (fun s' z => ⟨z.1, _, _, ⟨?_, c1, z.2.1, z.2.2, ?_, ?_, kk j7⟩, fun c hc => ?_⟩) m
    · have rs := j1.rise
      unfold ri1 at rs
      rw [show max (G 4) (ls1 G) = ls1 G by omega] at rs
      exact rs.cong (fun c c0 c1 h5 h6 h7 h11 => ne c (by omega))
    · rw [ne 1 (by decide), up1_ne (by decide)]
      exact j5.cut (fun x y hx e => fnC_g (j5.1 x hx) e)
    · have f9 : (wRise w).1 9 = w.1 9 := by
        unfold wRise
        split
        · rfl
        · exact f9_rise _ _ _ _
      rw [f9, ne 11 (by decide), up1_ne (by decide)]
      exact j6
    · rw [ne c (by omega), up1_ne (by omega)]
/-! notes, sources: what both keep -/
theorem note_t {w : WS} {a r t : Int} : ∀ q, q ≠ 4 → (wNote w a r t).2 q = w.2 q := fun q hq => by
  unfold wNote
  split
  · show (setT _ 4 _).2 q = w.2 q
    have : ∀ (u : WS) (b : TS), (setT u 4 b).2 q = u.2 q := fun u b => by
      show (bif Nat.beq q 4 then b else u.2 q) = u.2 q
      rw [bqF hq]
      rfl
    rw [this]
    show (setT _ 4 _).2 q = w.2 q
    rw [this]
    show (setT _ 4 _).2 q = w.2 q
    rw [this]
    show (setT _ 4 _).2 q = w.2 q
    rw [this]
    show (setT _ 4 _).2 q = w.2 q
    rw [this]
    show (setT _ 4 _).2 q = w.2 q
    rw [this]
  · rfl
theorem cW.tb {w w' : WS} {l : List Row} {gm gf : Int → Int} (h : cW w l gm gf) (f4 : w'.1 4 = w.1 4) (f5 : w'.1 5 = w.1 5) (e : ∀ q, q ≠ 0 → q ≠ 4 → w'.2 q = w.2 q) : cW w' l gm gf := h.of f4 f5 (fun t ht => e t (by omega) (by omega))
theorem cW.cg {w : WS} {l : List Row} {g g' : Int → Int} (h : cW w l g g) (e : ∀ c, mC c ∨ fC c → g' c = g c) : cW w l g' g' := ⟨h.1, h.2.1.cong (fun c hc => e c (Or.inl hc)), h.2.2.cong (fun c hc => e c (Or.inr hc))⟩
theorem lsM.in {d : Int} {s : MS} {l : List Row} (h : lsM d s l) (hd : 0 ≤ d) {a v : Int} (ha : 0 ≤ a) (hz : zB a) : lsM d (mInc s (d * 2804 + a) v) l := h.ne hd ha hz
theorem lsM.note {d a r t k v b : Int} {s : MS} {l : List Row} (h : lsM d s l) (hd : 0 ≤ d) (h6 : 0 ≤ mg s (d * 2804 + 6)) : lsM d (mNote s d a r t k v b) l := by
  unfold mNote
  dsimp only
  generalize mg s (d * 2804 + 6) = j at h6
  have hz : ∀ c, 1844 ≤ c → zB c := fun c hc => by unfold zB; omega
  rw [show d * 2804 + 1844 + 6 * j + 0 = d * 2804 + (1844 + 6 * j + 0) by omega, show d * 2804 + 1844 + 6 * j + 1 = d * 2804 + (1844 + 6 * j + 1) by omega, show d * 2804 + 1844 + 6 * j + 2 = d * 2804 + (1844 + 6 * j + 2) by omega, show d * 2804 + 1844 + 6 * j + 3 = d * 2804 + (1844 + 6 * j + 3) by omega, show d * 2804 + 1844 + 6 * j + 4 = d * 2804 + (1844 + 6 * j + 4) by omega, show d * 2804 + 1844 + 6 * j + 5 = d * 2804 + (1844 + 6 * j + 5) by omega]
  exact ((((((h.ne hd (by omega) (hz _ (by omega))).ne hd (by omega) (hz _ (by omega))).ne hd (by omega) (hz _ (by omega))).ne hd (by omega) (hz _ (by omega))).ne hd (by omega) (hz _ (by omega))).ne hd (by omega) (hz _ (by omega))).ne hd (by decide) (by unfold zB; omega)
theorem sB.note {d a r t k v b : Int} {s : MS} {g : Int → Int} (h : sB d s g) (hd : 0 ≤ d) (h6 : 0 ≤ g 6) : sB d (mNote s d a r t k v b) (nt1 g a r t k v b) := by
  unfold mNote nt1
  dsimp only
  rw [h 6 (by decide) (by unfold zB; omega)]
  exact ((((((h.put hd (a := 1844 + 6 * g 6 + 0) (by omega) (by omega)).put hd (a := 1844 + 6 * g 6 + 1) (by omega) (by omega)).put hd (a := 1844 + 6 * g 6 + 2) (by omega) (by omega)).put hd (a := 1844 + 6 * g 6 + 3) (by omega) (by omega)).put hd (a := 1844 + 6 * g 6 + 4) (by omega) (by omega)).put hd (a := 1844 + 6 * g 6 + 5) (by omega) (by omega)).inc hd rfl (by decide) (by unfold zB; omega)
theorem nt1_o {g : Int → Int} {a r t k v b c : Int} (h6 : 0 ≤ g 6) (hc : c ≠ 6) (h : c < 1844) : nt1 g a r t k v b c = g c := nt1_ne hc (Or.inl (by omega))
/-- the relation of a world and a desk: what B adds -/
def lsG (g : Int → Int) (l : List Row) : Prop := (g 5 = l.length ∧ l.length ≤ 160) ∧ ∀ (i : Nat) (r : Row), l[i]? = some r → ∀ c, 0 ≤ c → c < 7 → g (364 + 7 * (i : Int) + c) = r c
def rB (w : WS) (g : Int → Int) : Prop := ∃ l, lsG g l ∧ cW w l g g ∧ gdL (g 1) l ∧ w.1 9 = g 11 ∧ kSF g
theorem lsG_M {d : Int} {s : MS} {l : List Row} : lsG (gD d s) l ↔ lsM d s l := by
  constructor
  · intro h
    refine ⟨h.1, fun i r hi c c0 c1 => ?_⟩
    have := h.2 i r hi c c0 c1
    unfold gD at this
    rw [show d * 2804 + (364 + 7 * (i : Int) + c) = d * 2804 + 364 + 7 * (i : Int) + c by omega] at this
    exact this
  · intro h
    refine ⟨h.1, fun i r hi c c0 c1 => ?_⟩
    have := h.2 i r hi c c0 c1
    unfold gD
    rw [show d * 2804 + (364 + 7 * (i : Int) + c) = d * 2804 + 364 + 7 * (i : Int) + c by omega]
    exact this
theorem rB.cong {w : WS} {g g' : Int → Int} (h : rB w g) (e : ∀ c, 0 ≤ c → c < 2804 → g' c = g c) : rB w g' := by
  obtain ⟨l, h1, h2, h3, h4, h5⟩ := h
  have hn := h1.1.2
  refine ⟨l, ⟨by rw [e 5 (by decide) (by decide)]; exact h1.1, fun i r hi c c0 c1 => ?_⟩, h2.cg (fun c hc => e c (by unfold mC fC at hc; omega) (by unfold mC fC at hc; omega)), by rw [e 1 (by decide) (by decide)]; exact h3, by rw [e 11 (by decide) (by decide)]; exact h4, h5.cong (fun c hc => e c (by omega) (by omega))⟩
  have hl := lt_some hi
  rw [e _ (by omega) (by omega)]
  exact h1.2 i r hi c c0 c1
theorem jR.rB {w : WS} {d : Int} {s : MS} {G : Int → Int} {l : List Row} (h : jR w d s G l) : rB w (gD d s) := by
  obtain ⟨j1, j2, j3, j4, j5, j6, j7⟩ := h
  have e : ∀ c, 0 ≤ c → zB c → gD d s c = G c := j4
  refine ⟨l, lsG_M.mpr j3, j2.cg (fun c hc => e c (by unfold mC fC at hc; omega) (by unfold mC fC at hc; unfold zB; omega)), by rw [e 1 (by decide) (by unfold zB; omega)]; exact j5, by rw [e 11 (by decide) (by unfold zB; omega)]; exact j6, j7.cong (fun c hc => e c (by omega) (by unfold zB; omega))⟩
theorem rB.j {w : WS} {d : Int} {s : MS} (h : rB w (gD d s)) (hA : rA w (gD d s)) : ∃ l, jR w d s (gD d s) l := by
  obtain ⟨l, h1, h2, h3, h4, h5⟩ := h
  exact ⟨l, hA.1, h2, lsG_M.mp h1, fun _ _ _ => rfl, h3, h4, h5⟩
theorem dI.b {d : Int} {s : MS} (h : dI d s) : b7 432000 (gD d s) ∧ b36 432000 (gD d s) ∧ (mg s (d * 2804 + 5)) ≤ mg s (d * 2804 + 6) := by
  have h6 := h.2.1
  have hV := h.2.2.1
  have a := hV.2.1
  refine ⟨⟨a.1, ?_⟩, fun k k0 k1 => ?_, hV.1.2⟩
  · show mg s (d * 2804 + 7) ≤ 432000
    omega
  · have q := hV.2.2.1 k k0 (by omega)
    show 0 ≤ mg s (d * 2804 + (36 + k)) ∧ mg s (d * 2804 + (36 + k)) ≤ 432000
    omega
/-! marks, idles -/
theorem rB.markM {w : WS} {d t r : Int} {s : MS} {K : MS → Prop} (h : rB w (gD d s)) (hA : rA w (gD d s)) (I : dI d s) (hd : dOk d) (h6 : mg s (d * 2804 + 6) ≤ 159) (ht : 0 ≤ t ∧ t ≤ 20000) (hr : 0 ≤ r ∧ r < gD d s 0) (hm : gD d s (12 + r) < t) (hK : mMarkP s d r t 650 K) : mMarkP s d r t 650 (fun s' => K s' ∧ rB (wComeM w r t) (gD d s')) := by
  have hd0 : 0 ≤ d := hd.1
  obtain ⟨l, j⟩ := h.j hA
  obtain ⟨i7, i36, -⟩ := I.b
  have q6 := I.2.1
  have h6g : 0 ≤ gD d s 6 := q6.1
  have hz := hA.1.2.2.1
  have hB := hA.2.2.1.1
  unfold mMarkP at hK ⊢
  dsimp only at hK ⊢
  refine ⟨hK.1, ?_⟩
  obtain ⟨j1, j2, j3, j4, j5, j6, j7⟩ := j
  have N : ∀ c, c ≠ 6 → c < 1844 → nt1 (gD d s) 1 r t (-1) 0 0 c = gD d s c := fun c hc h => nt1_o h6g hc h
  have eG : ∀ c, c ≠ 6 → c < 1844 → c ≠ 12 + r → up1 (nt1 (gD d s) 1 r t (-1) 0 0) (12 + r) t c = gD d s c := fun c hc h h2 => by rw [up1_ne h2, N c hc h]
  have hBG : gB (up1 (nt1 (gD d s) 1 r t (-1) 0 0) (12 + r) t) := (hB.of (fun c hc => N c (by omega) (by omega))).u12 (by omega) ht
  have rs : rS (wRaise (wNote w 1 r t) r t) (up1 (nt1 (gD d s) 1 r t (-1) 0 0) (12 + r) t) := by
    have := (hA.1.note (a := 1) (r := r) (t := t) (k := -1) (v := 0) (b := 0) h6g (a' := 1) (r' := r) (t' := t)).raise (t := t) hr.1 (by rw [N 0 (by decide) (by decide)]; exact hr.2)
    unfold ra1 at this
    rw [N (12 + r) (by omega) (by omega), show max (gD d s (12 + r)) t = t by omega] at this
    exact this
  have cw : cW (wRaise (wNote w 1 r t) r t) l (gD d s) (gD d s) := by
    have c1 : cW (wNote w 1 r t) l (gD d s) (gD d s) := j2.tb (note_f.1 4) (note_f.1 5) (fun q _ h => note_t q h)
    unfold wRaise
    split
    · exact c1.of rfl rfl (fun q hq => by rcases hq with rfl | rfl | rfl | rfl <;> rfl)
    · exact c1
  have f9 : (wRaise (wNote w 1 r t) r t).1 9 = w.1 9 := by
    have c1 : (wNote w 1 r t).1 9 = w.1 9 := note_f.1 9
    unfold wRaise
    split
    · exact c1
    · exact c1
  have jj : jR (wRaise (wNote w 1 r t) r t) d (mP (mNote s d 1 r t (-1) 0 0) (d * 2804 + (12 + r)) t) (up1 (nt1 (gD d s) 1 r t (-1) 0 0) (12 + r) t) l := by
    refine ⟨rs, cw.cg (fun c hc => eG c (by unfold mC fC at hc; omega) (by unfold mC fC at hc; omega) (by unfold mC fC at hc; omega)), (j3.note hd0 q6.1).ne hd0 (by omega) (by unfold zB; omega), (j4.note hd0 h6g).put hd0 rfl (by omega), ?_, ?_, ?_⟩
    · rw [eG 1 (by decide) (by decide) (by omega)]; exact j5
    · rw [f9, eG 11 (by decide) (by decide) (by omega)]; exact j6
    · exact j7.cong (fun c hc => eG c (by omega) (by omega) (by omega))
  have fin := jj.rise hd hBG (by rw [eG 0 (by decide) (by decide) (by omega)]; omega) (b := 432000) (by unfold b7; rw [eG 7 (by decide) (by decide) (by omega)]; exact i7) (fun k k0 k1 => by rw [eG (36 + k) (by omega) (by omega) (by omega)]; exact i36 k k0 k1) (by decide) hK.2
  refine mRisP_mono (fun s' z => ?_) fin
  obtain ⟨z1, G', l', z2, -⟩ := z
  exact ⟨z1, z2.rB⟩
theorem rB.idleM {w : WS} {d r : Int} {s : MS} {K : MS → Prop} (h : rB w (gD d s)) (hA : rA w (gD d s)) (I : dI d s) (hd : dOk d) (h6 : mg s (d * 2804 + 6) ≤ 159) (hr : 0 ≤ r ∧ r < gD d s 0) (hK : mIdleP s d r 650 K) : mIdleP s d r 650 (fun s' => K s' ∧ rB (wComeI w r) (gD d s')) := by
  have hd0 : 0 ≤ d := hd.1
  obtain ⟨l, j⟩ := h.j hA
  obtain ⟨i7, i36, -⟩ := I.b
  have q6 := I.2.1
  have h6g : 0 ≤ gD d s 6 := q6.1
  have hz := hA.1.2.2.1
  have hB := hA.2.2.1.1
  unfold mIdleP at hK ⊢
  dsimp only at hK ⊢
  refine ⟨hK.1, ?_⟩
  obtain ⟨j1, j2, j3, j4, j5, j6, j7⟩ := j
  have N : ∀ c, c ≠ 6 → c < 1844 → nt1 (gD d s) 2 r 0 (-1) 0 0 c = gD d s c := fun c hc h => nt1_o h6g hc h
  have eG : ∀ c, c ≠ 6 → c < 1844 → c ≠ 20 + r → up1 (nt1 (gD d s) 2 r 0 (-1) 0 0) (20 + r) 1 c = gD d s c := fun c hc h h2 => by rw [up1_ne h2, N c hc h]
  have hBG : gB (up1 (nt1 (gD d s) 2 r 0 (-1) 0 0) (20 + r) 1) := (hB.of (fun c hc => N c (by omega) (by omega))).u20 (by omega) (Or.inr rfl)
  have rs : rS (wP (wNote w 2 r 0) 0 r 2 1) (up1 (nt1 (gD d s) 2 r 0 (-1) 0 0) (20 + r) 1) := by
    have := (hA.1.note (a := 2) (r := r) (t := 0) (k := -1) (v := 0) (b := 0) h6g (a' := 2) (r' := r) (t' := 0)).src (v := 1) hr.1 (by rw [N 0 (by decide) (by decide)]; exact hr.2) (c := 2) (by decide) (by decide)
    rw [show 12 + 4 * 2 + r = 20 + r by omega] at this
    exact this
  have cw : cW (wP (wNote w 2 r 0) 0 r 2 1) l (gD d s) (gD d s) := by
    have c1 : cW (wNote w 2 r 0) l (gD d s) (gD d s) := j2.tb (note_f.1 4) (note_f.1 5) (fun q _ h => note_t q h)
    exact c1.of rfl rfl (fun q hq => by rcases hq with rfl | rfl | rfl | rfl <;> rfl)
  have f9 : (wP (wNote w 2 r 0) 0 r 2 1).1 9 = w.1 9 := note_f.1 9
  have jj : jR (wP (wNote w 2 r 0) 0 r 2 1) d (mP (mNote s d 2 r 0 (-1) 0 0) (d * 2804 + (20 + r)) 1) (up1 (nt1 (gD d s) 2 r 0 (-1) 0 0) (20 + r) 1) l := by
    refine ⟨rs, cw.cg (fun c hc => eG c (by unfold mC fC at hc; omega) (by unfold mC fC at hc; omega) (by unfold mC fC at hc; omega)), (j3.note hd0 q6.1).ne hd0 (by omega) (by unfold zB; omega), (j4.note hd0 h6g).put hd0 rfl (by omega), ?_, ?_, ?_⟩
    · rw [eG 1 (by decide) (by decide) (by omega)]; exact j5
    · rw [f9, eG 11 (by decide) (by decide) (by omega)]; exact j6
    · exact j7.cong (fun c hc => eG c (by omega) (by omega) (by omega))
  have fin := jj.rise hd hBG (by rw [eG 0 (by decide) (by decide) (by omega)]; omega) (b := 432000) (by unfold b7; rw [eG 7 (by decide) (by decide) (by omega)]; exact i7) (fun k k0 k1 => by rw [eG (36 + k) (by omega) (by omega) (by omega)]; exact i36 k k0 k1) (by decide) hK.2
  refine mRisP_mono (fun s' z => ?_) fin
  obtain ⟨z1, G', l', z2, -⟩ := z
  exact ⟨z1, z2.rB⟩
end
-- 98968.ol
section
/-! ===== an event comes to both ===== -/
def midL (w : WS) (r h : Int) : WS := wFd (wFd (wA w 0 r 3 1) 6 (wI ((wA w 0 r 3 1).1 6 + 1))) 7 (wI ((wA w 0 r 3 1).1 7 + (if h = 1 then 1 else 0)))
def midD (w : WS) (r : Int) : WS := wA (wFd (wA w 0 r 3 1) 8 (wI ((wA w 0 r 3 1).1 8 + 1))) 0 r 4 1
theorem midL_s {w : WS} {g : Int → Int} {r h : Int} (hS : rS w g) (r0 : 0 ≤ r) (r1 : r < g 0) (hh : h = 0 ∨ h = 1) : rS (midL w r h) (fa1 (in1 g (24 + r) 1) h r) := by
  have a := hS.srcA (v := 1) r0 r1 (c := 3) (by decide) (by decide)
  rw [show 12 + 4 * 3 + r = 24 + r by omega] at a
  unfold midL fa1
  rw [if_neg (show ¬ h = 2 by omega)]
  have f := a.f6 (v := wI ((wA w 0 r 3 1).1 6 + 1))
  have f2 := f.f7 (v := wI ((wA w 0 r 3 1).1 7 + (if h = 1 then 1 else 0)))
  rw [a.2.1.1, a.2.1.2.1] at f2
  have e7 : in1 (in1 g (24 + r) 1) 8 1 9 = in1 g (24 + r) 1 9 := up1_ne (by decide)
  have e1 : (if h = 1 then (1 : Int) else 0) = h := by
    split <;> omega
  rw [e1] at f2 ⊢
  have e2 : in1 (in1 (in1 g (24 + r) 1) 8 1) 9 h = up1 (in1 (in1 g (24 + r) 1) 8 1) 9 (wI (in1 g (24 + r) 1 9 + h)) := by
    conv => lhs; unfold in1
    rw [show up1 (up1 g (24 + r) (wI (g (24 + r) + 1))) 8 (wI (up1 g (24 + r) (wI (g (24 + r) + 1)) 8 + 1)) 9 = in1 g (24 + r) 1 9 from e7]
    rfl
  rw [e2, a.2.1.1, a.2.1.2.1]
  exact f2
theorem midD_s {w : WS} {g : Int → Int} {r : Int} (hS : rS w g) (r0 : 0 ≤ r) (r1 : r < g 0) : rS (midD w r) (fa1 (in1 g (24 + r) 1) 2 r) := by
  have hz := hS.2.2.1
  have a := hS.srcA (v := 1) r0 r1 (c := 3) (by decide) (by decide)
  rw [show 12 + 4 * 3 + r = 24 + r by omega] at a
  have g0 : in1 g (24 + r) 1 0 = g 0 := up1_ne (by omega)
  unfold midD fa1
  rw [if_pos rfl]
  have f := a.f8 (v := wI ((wA w 0 r 3 1).1 8 + 1))
  rw [a.2.1.2.2] at f ⊢
  have e : up1 (in1 g (24 + r) 1) 10 (wI (in1 g (24 + r) 1 10 + 1)) 0 = g 0 := (up1_ne (by decide)).trans g0
  have f2 := f.srcA (v := 1) r0 (by rw [e]; exact r1) (c := 4) (by decide) (by decide)
  rw [show 12 + 4 * 4 + r = 28 + r by omega] at f2
  exact f2
theorem fa_sw {g : Int → Int} {h r : Int} (hr : 0 ≤ r ∧ r < 4) : in1 (fa1 g h r) (24 + r) 1 = fa1 (in1 g (24 + r) 1) h r := by
  unfold fa1
  split
  · rw [in1_comm (x := 28 + r) (y := 24 + r) (by omega), in1_comm (x := 10) (y := 24 + r) (by omega)]
  · rw [in1_comm (x := 9) (y := 24 + r) (by omega), in1_comm (x := 8) (y := 24 + r) (by omega)]
theorem anG_ne {kd : Int} {R : Row} {g : Int → Int} {c : Int} (h7 : 0 ≤ g 7) (hk : kd < 4) (hr : gR R) (hc : c < 7 ∨ (8 ≤ c ∧ c < 32) ∨ (36 ≤ c ∧ c < 60) ∨ (84 ≤ c ∧ c < 1484) ∨ 1844 ≤ c) : anG kd R g c = g c := by
  unfold anG
  split
  · exact sn1_ne h7 ⟨by omega, hk⟩ hr.1 hc
  · rfl
theorem anG_cg {kd : Int} {R : Row} {g g' : Int → Int} (h : ∀ c, mC c → g' c = g c) (hk : kd < 4) (hr : gR R) : ∀ c, mC c → anG kd R g' c = anG kd R g c := by
  intro c hc
  unfold anG
  split
  · exact sn1_cg h ⟨by omega, hk⟩ hr.1 c hc
  · exact h c hc
/-- the last steps of an event -/
theorem tailE {u : WS} {d b t r : Int} {s : MS} {G : Int → Int} {l : List Row} {K : MS → Prop} (hd : dOk d) (hS : rS u (in1 G (24 + r) 1)) (hW : cW u l G G) (hL : lsM d s l) (hM : sB d s G) (hl : gdL (G 1) l) (h9 : u.1 9 = G 11) (hk : kSF G) (hB : gB G) (h0 : 1 ≤ G 0 ∧ G 0 ≤ 4) (hr : 0 ≤ r ∧ r < G 0) (ht : 0 ≤ t ∧ t ≤ 9999) (h7 : b7 b G) (h36 : b36 b G) (hb : b ≤ 900000) (hK : cmE s d t r 650 K) : cmE s d t r 650 (fun s' => K s' ∧ ∃ G' l', jR (wRise (wRaise (wP u 0 r 2 0) r (wI (t - wG (wP u 0 r 2 0) 0 r 1)))) d s' G' l') := by
  have hd0 : 0 ≤ d := hd.1
  unfold cmE at hK ⊢
  dsimp only at hK ⊢
  refine ⟨hK.1, ?_⟩
  have hK2 := hK.2
  -- the model
  have L3 : lsM d (mP (mInc s (d * 2804 + (24 + r)) 1) (d * 2804 + (20 + r)) 0) l := (hL.in hd0 (by omega) (by unfold zB; omega)).ne hd0 (by omega) (by unfold zB; omega)
  have M3 : sB d (mP (mInc s (d * 2804 + (24 + r)) 1) (d * 2804 + (20 + r)) 0) (up1 (in1 G (24 + r) 1) (20 + r) 0) := (hM.inc hd0 rfl (by omega) (by unfold zB; omega)).put hd0 rfl (by omega)
  generalize mP (mInc s (d * 2804 + (24 + r)) 1) (d * 2804 + (20 + r)) 0 = s3 at L3 M3 hK2 ⊢
  have i0 : ∀ c, c ≠ 24 + r → in1 G (24 + r) 1 c = G c := fun c hc => in1_ne hc
  have c := hS.src (v := 0) hr.1 (by rw [i0 0 (by omega)]; exact hr.2) (c := 2) (by decide) (by decide)
  rw [show 12 + 4 * 2 + r = 20 + r by omega] at c
  have e3 : ∀ c, c ≠ 24 + r → c ≠ 20 + r → up1 (in1 G (24 + r) 1) (20 + r) 0 c = G c := fun c hc hc2 => by rw [up1_ne hc2, i0 c hc]
  have hB3 : gB (up1 (in1 G (24 + r) 1) (20 + r) 0) := (hB.of (fun c hc => i0 c (by omega))).u20 (by omega) (Or.inl rfl)
  generalize up1 (in1 G (24 + r) 1) (20 + r) 0 = G3 at M3 c e3 hB3
  have e0 : G3 0 = G 0 := e3 0 (by omega) (by omega)
  have dl := c.2.2.2 r 1 hr.1 (by rw [e0]; exact hr.2) (by decide) (by decide)
  rw [show 12 + 4 * 1 + r = 16 + r by omega] at dl
  rw [dl]
  have rs := c.raise (t := wI (t - G3 (16 + r))) hr.1 (by rw [e0]; exact hr.2)
  have m12 := M3 (12 + r) (by omega) (by unfold zB; omega)
  have m16 := M3 (16 + r) (by omega) (by unfold zB; omega)
  rw [m12, m16] at hK2 ⊢
  have b3 := hB3.2.2.2.2 r hr.1 (by omega)
  have M4 : sB d (mP s3 (d * 2804 + (12 + r)) (max (G3 (12 + r)) (wI (t - G3 (16 + r))))) (ra1 G3 r (wI (t - G3 (16 + r)))) := M3.put hd0 rfl (by omega)
  have L4 : lsM d (mP s3 (d * 2804 + (12 + r)) (max (G3 (12 + r)) (wI (t - G3 (16 + r))))) l := L3.ne hd0 (by omega) (by unfold zB; omega)
  have hB4 : gB (ra1 G3 r (wI (t - G3 (16 + r)))) := by
    unfold ra1
    rw [wI_id (z := t - G3 (16 + r)) ⟨by omega, by omega⟩]
    exact hB3.u12 (by omega) ⟨by omega, by omega⟩
  have e4 : ∀ c, c ≠ 24 + r → c ≠ 20 + r → c ≠ 12 + r → ra1 G3 r (wI (t - G3 (16 + r))) c = G c := fun c h1 h2 h3 => by
    unfold ra1
    rw [up1_ne h3, e3 c h1 h2]
  generalize ra1 G3 r (wI (t - G3 (16 + r))) = G4 at M4 hB4 e4 rs
  have cw : ∀ q, cW (wRaise (wP u 0 r 2 0) r q) l G4 G4 := fun q => by
    have c1 : cW (wRaise (wP u 0 r 2 0) r q) l G G := by
      unfold wRaise
      split
      · exact hW.of rfl rfl (fun q hq => by rcases hq with rfl | rfl | rfl | rfl <;> rfl)
      · exact hW.of rfl rfl (fun q hq => by rcases hq with rfl | rfl | rfl | rfl <;> rfl)
    exact c1.cg (fun c hc => e4 c (by unfold mC fC at hc; omega) (by unfold mC fC at hc; omega) (by unfold mC fC at hc; omega))
  have f9 : ∀ q, (wRaise (wP u 0 r 2 0) r q).1 9 = G 11 := fun q => by
    unfold wRaise
    split
    · exact h9
    · exact h9
  have jj : jR (wRaise (wP u 0 r 2 0) r (wI (t - G3 (16 + r)))) d (mP s3 (d * 2804 + (12 + r)) (max (G3 (12 + r)) (wI (t - G3 (16 + r))))) G4 l :=
    ⟨rs, cw _, L4, M4, by rw [e4 1 (by omega) (by omega) (by omega)]; exact hl, by rw [f9, e4 11 (by omega) (by omega) (by omega)], hk.cong (fun c hc => e4 c (by omega) (by omega) (by omega))⟩
  have fin := jj.rise hd hB4 (by rw [e4 0 (by omega) (by omega) (by omega)]; exact h0.2) (b := b) (by unfold b7; rw [e4 7 (by omega) (by omega) (by omega)]; exact h7) (fun k k0 k1 => by rw [e4 (36 + k) (by omega) (by omega) (by omega)]; exact h36 k k0 k1) hb hK2
  refine mRisP_mono (fun s' z => ?_) fin
  obtain ⟨z1, G', l', z2, -⟩ := z
  exact ⟨z1, G', l', z2⟩
theorem rB.t4 {w w' : WS} {g : Int → Int} (h : rB w g) (f4 : w'.1 4 = w.1 4) (f5 : w'.1 5 = w.1 5) (f9 : w'.1 9 = w.1 9) (e : ∀ q, q ≠ 0 → q ≠ 4 → w'.2 q = w.2 q) : rB w' g := by
  obtain ⟨l, h1, h2, h3, h4, h5⟩ := h
  exact ⟨l, h1, h2.tb f4 f5 e, h3, f9.trans h4, h5⟩
theorem setT_ne {u : WS} {n q : Nat} {b : TS} (h : q ≠ n) : (setT u n b).2 q = u.2 q := by
  show (bif Nat.beq q n then b else u.2 q) = u.2 q
  rw [bqF h]
  rfl
theorem rB.comeM {w : WS} {d k t v r : Int} {s : MS} {K : MS → Prop} (h : rB w (gD d s)) (hA : rA w (gD d s)) (I : dI d s) (hd : dOk d) (h6 : mg s (d * 2804 + 6) ≤ 159) (hk : 0 ≤ k ∧ k ≤ 5) (ht : 0 ≤ t ∧ t ≤ 9999) (hv : xB v) (hr : 0 ≤ r ∧ r < gD d s 0) (hK : mComeP s d k t v r 650 K) : mComeP s d k t v r 650 (fun s' => K s' ∧ rB (wComeE w k t v r) (gD d s')) := by
  have hd0 : 0 ≤ d := hd.1
  obtain ⟨l, j⟩ := h.j hA
  obtain ⟨i7, i36, i5⟩ := I.b
  have q6 := I.2.1
  have h6g : 0 ≤ gD d s 6 := q6.1
  have hz := hA.1.2.2.1
  have hB := hA.2.2.1.1
  have hBc := hB
  obtain ⟨⟨b1, b1'⟩, ⟨b2, b2'⟩, -⟩ := hBc
  have hh : wFate (wNote w 0 r t) t = hw1 (gD d s) t := by
    rw [← hA.1.fate t]
    unfold wFate
    rw [note_f.1 3, note_f.1 1]
  have hb := hw1_b (gD d s) t
  have how : mHow s d t = hw1 (gD d s) t := sA.self.how t
  obtain ⟨j1, j2, j3, j4, j5, j6, j7⟩ := j
  have hlen : l.length ≤ 159 := by have := j3.1.1; omega
  have N : ∀ x c, c ≠ 6 → c < 1844 → nt1 (gD d s) 0 r t k v x c = gD d s c := fun x c hc h => nt1_o h6g hc h
  have rN : ∀ x, rS (wNote w 0 r t) (nt1 (gD d s) 0 r t k v x) := fun x => hA.1.note h6g
  have cN : cW (wNote w 0 r t) l (gD d s) (gD d s) := j2.tb (note_f.1 4) (note_f.1 5) (fun q _ h => note_t q h)
  have n9 : (wNote w 0 r t).1 9 = w.1 9 := note_f.1 9
  -- behind the tail
  have fin : ∀ u : WS, wPlayE (wNote w 0 r t) k t v r = wRise (wRaise (wP u 0 r 2 0) r (wI (t - wG (wP u 0 r 2 0) 0 r 1))) → ∀ s', (∃ G' l', jR (wRise (wRaise (wP u 0 r 2 0) r (wI (t - wG (wP u 0 r 2 0) 0 r 1)))) d s' G' l') → rB (wComeE w k t v r) (gD d s') := fun u eu s' hj => by
    obtain ⟨G', l', z⟩ := hj
    rw [← eu] at z
    have q := z.rB
    unfold wComeE
    dsimp only
    refine q.t4 rfl rfl rfl (fun q _ h4 => ?_)
    show (setT _ 4 _).2 q = _
    rw [setT_ne h4]
    show (setT _ 4 _).2 q = _
    rw [setT_ne h4]
    show (setT _ 4 _).2 q = _
    rw [setT_ne h4]
    show (setT _ 4 _).2 q = _
    rw [setT_ne h4]
  refine ⟨fun c2 => ?_, fun c2 => ?_⟩
  · have hK1 := hK.1 c2
    rw [how] at c2 hK1 ⊢
    have h01 : hw1 (gD d s) t = 0 ∨ hw1 (gD d s) t = 1 := by omega
    obtain ⟨A, T, C, sp⟩ := sp3_ex (k := k) (t := t) (show 0 ≤ gD d s 1 by omega) l j5
    have e0 := sp.1
    have hTg : ∀ x, x ∈ T → gR x := fun x hx => j5.1 x (by rw [e0]; exact List.mem_append_right _ (List.mem_append_left _ hx))
    have lT : T.length ≤ l.length := by rw [e0, List.length_append, List.length_append]; omega
    -- the class
    have rM := midL_s (rN 1) hr.1 (by rw [N 1 0 (by decide) (by decide)]; exact hr.2) h01
    have mW : cW (midL (wNote w 0 r t) r (hw1 (gD d s) t)) l (gD d s) (gD d s) := cN.of rfl rfl (fun q hq => by rcases hq with rfl | rfl | rfl | rfl <;> rfl)
    have m9 : (midL (wNote w 0 r t) r (hw1 (gD d s) t)).1 9 = gD d s 11 := n9.trans j6
    have eu : wPlayE (wNote w 0 r t) k t v r = wRise (wRaise (wP (wMelt (midL (wNote w 0 r t) r (hw1 (gD d s) t)) k t v) 0 r 2 0) r (wI (t - wG (wP (wMelt (midL (wNote w 0 r t) r (hw1 (gD d s) t)) k t v) 0 r 2 0) 0 r 1))) := by
      unfold wPlayE midL
      dsimp only
      rw [hh, if_neg (by omega)]
    have fe : ∀ c, (1 ≤ c ∧ c < 5) → fa1 (in1 (nt1 (gD d s) 0 r t k v 1) (24 + r) 1) (hw1 (gD d s) t) r c = gD d s c := fun c hc => by
      rw [fa1_ne (by omega) (by omega), in1_ne (by omega), N 1 c (by omega) (by omega)]
    have sW : stW (midL (wNote w 0 r t) r (hw1 (gD d s) t)) (gD d s 1) (gD d s 2) := ⟨⟨by rw [rM.1.1, fe 1 (by decide)], by rw [rM.1.2.1, fe 2 (by decide)]⟩, ⟨by omega, b1'⟩, b2, b2'⟩
    obtain ⟨w1, w9⟩ := melt_s (b := 432000) mW j5 sW (by rw [rM.1.2.2.2, fe 4 (by decide)]) (by rw [rM.1.2.2.1, fe 3 (by decide)]) ⟨hk.1, by omega⟩ ht hv sp (by omega) i7 (by omega)
    have uS := rM.F (wF4_Melt (k := k) (t := t) (v := v))
    generalize midL (wNote w 0 r t) r (hw1 (gD d s) t) = wm at rM mW m9 eu sW w1 w9 uS
    -- the model
    have La : lsM d (mInc (mInc (mS (mNote s d 0 r t k v 1) 12 0) (d * 2804 + 8) 1) (d * 2804 + 9) (hw1 (gD d s) t)) l := (((j3.note hd0 q6.1).cong (s' := mS (mNote s d 0 r t k v 1) 12 0) rfl).in hd0 (by decide) (by unfold zB; omega)).in hd0 (by decide) (by unfold zB; omega)
    have Ma : sB d (mInc (mInc (mS (mNote s d 0 r t k v 1) 12 0) (d * 2804 + 8) 1) (d * 2804 + 9) (hw1 (gD d s) t)) (fa1 (nt1 (gD d s) 0 r t k v 1) (hw1 (gD d s) t) r) := by
      unfold fa1
      rw [if_neg (by omega)]
      exact (((j4.note hd0 h6g).cong (s' := mS (mNote s d 0 r t k v 1) 12 0) rfl).inc hd0 rfl (by decide) (by unfold zB; omega)).inc hd0 rfl (by decide) (by unfold zB; omega)
    have ga : ∀ c, c ≠ 6 → c < 1844 → (c < 8 ∨ (11 ≤ c ∧ c < 28) ∨ 32 ≤ c) → fa1 (nt1 (gD d s) 0 r t k v 1) (hw1 (gD d s) t) r c = gD d s c := fun c h1 h2 h3 => by rw [fa1_ne (by omega) h3, N 1 c h1 h2]
    have sw := fa_sw (g := nt1 (gD d s) 0 r t k v 1) (h := hw1 (gD d s) t) (r := r) (by omega)
    rw [← sw] at uS
    have hBa : gB (fa1 (nt1 (gD d s) 0 r t k v 1) (hw1 (gD d s) t) r) := hB.of (fun c hc => ga c (by omega) (by omega) (by omega))
    generalize mInc (mInc (mS (mNote s d 0 r t k v 1) 12 0) (d * 2804 + 8) 1) (d * 2804 + 9) (hw1 (gD d s) t) = sa at La Ma hK1 ⊢
    generalize fa1 (nt1 (gD d s) 0 r t k v 1) (hw1 (gD d s) t) r = g2 at Ma ga hBa uS
    have sG : stG g2 (gD d s 1) (gD d s 2) (gD d s 4) := ⟨⟨ga 1 (by decide) (by decide) (by decide), ga 2 (by decide) (by decide) (by decide), ga 4 (by decide) (by decide) (by decide)⟩, ⟨by omega, b1'⟩, b2, b2'⟩
    have g7 : b7 432000 g2 := by unfold b7; rw [ga 7 (by decide) (by decide) (by decide)]; exact i7
    have g36 : ∀ k, 0 ≤ k → k < 6 → g2 (36 + k) = gD d s (36 + k) := fun k k0 k1 => ga _ (by omega) (by omega) (by omega)
    have big := joinS hd hK1 La Ma sG (ga 3 (by decide) (by decide) (by decide)) j5 sp ⟨hk.1, by omega⟩ ht hv hlen g7 (by omega)
    refine mJoinP_mono (fun s2 z => ?_) big
    obtain ⟨z1, z2, z3⟩ := z
    have hR : gR (T.foldl mrR (frR k t v)) := mrs_g T _ (frR_g ⟨hk.1, by omega⟩ ht hv) hTg
    have hkd := kdR_b (gD d s 1) (gD d s 4) (gD d s 3) (T.foldl mrR (frR k t v))
    have hgd := j5.join (v := v) (kd := kdR (gD d s 1) (gD d s 4) (gD d s 3) (T.foldl mrR (frR k t v))) (by omega) sp ⟨hk.1, by omega⟩ ht hv (by omega)
    generalize kdR (gD d s 1) (gD d s 4) (gD d s 3) (T.foldl mrR (frR k t v)) = kd at w1 z2 z3 hkd hgd
    generalize T.foldl mrR (frR k t v) = R at w1 z2 z3 hR hgd
    obtain ⟨t7, tne⟩ := tk_f T 432000 g2 hTg g7 (by omega)
    obtain ⟨-, tne0⟩ := tk_f T 432000 (gD d s) hTg i7 (by omega)
    have in7 : b7 (432000 + T.length) (in1 (T.foldl tkG g2) 11 (if 1 < (T.length : Int) then 1 else 0)) := by
      unfold b7
      rw [in1_ne (by decide)]
      exact t7
    have G : ∀ c, c ≠ 11 → (c < 7 ∨ (8 ≤ c ∧ c < 32) ∨ (36 ≤ c ∧ c < 60) ∨ (84 ≤ c ∧ c < 1484) ∨ 1844 ≤ c) → anG kd R (in1 (T.foldl tkG g2) 11 (if 1 < (T.length : Int) then 1 else 0)) c = g2 c := fun c h11 hc => by
      rw [anG_ne in7.1 (by omega) hR hc, in1_ne h11, tne c hc]
    have G11 : anG kd R (in1 (T.foldl tkG g2) 11 (if 1 < (T.length : Int) then 1 else 0)) 11 = wI (gD d s 11 + (if 1 < (T.length : Int) then 1 else 0)) := by
      rw [anG_ne in7.1 (by omega) hR (by decide)]
      unfold in1
      rw [up1_eq, tne 11 (by decide), ga 11 (by decide) (by decide) (by decide)]
    have G7 : b7 (432000 + T.length + 1) (anG kd R (in1 (T.foldl tkG g2) 11 (if 1 < (T.length : Int) then 1 else 0))) := by
      unfold anG
      split
      · exact in7.sn (by omega) (by omega) hR
      · exact ⟨in7.1, Int.le_trans in7.2 (by omega)⟩
    have Gk : kSF (anG kd R (in1 (T.foldl tkG g2) 11 (if 1 < (T.length : Int) then 1 else 0))) := by
      have a := kSF.tks T 432000 g2 hTg (j7.cong (fun c hc => ga c (by omega) (by omega) (by omega))) g7 (by omega)
      have b := a.cong (g' := in1 (T.foldl tkG g2) 11 (if 1 < (T.length : Int) then 1 else 0)) (fun c hc => in1_ne (by omega))
      unfold anG
      split
      · exact b.sn in7 (by omega) (by omega) hR
      · exact b
    have Gw : cW (wMelt wm k t v) (A ++ anR kd R :: C) (anG kd R (in1 (T.foldl tkG g2) 11 (if 1 < (T.length : Int) then 1 else 0))) (anG kd R (in1 (T.foldl tkG g2) 11 (if 1 < (T.length : Int) then 1 else 0))) := by
      refine ⟨w1.1, w1.2.1.cong (anG_cg (fun c hc => ?_) (by omega) hR), w1.2.2.cong (fun c hc => ?_)⟩
      · rw [in1_ne (by unfold mC at hc; omega)]
        exact foldl_cg (C := mC) (f := tkG) (fun g g' r hr h => tkG_cg h hr) T (gD d s) g2 hTg (fun c hc => ga c (by unfold mC at hc; omega) (by unfold mC at hc; omega) (by unfold mC at hc; omega)) c hc
      · unfold fC at hc
        rw [G c (by omega) (by omega), ga c (by omega) (by omega) (by omega)]
    generalize anG kd R (in1 (T.foldl tkG g2) 11 (if 1 < (T.length : Int) then 1 else 0)) = G2 at z3 G G11 G7 Gk Gw
    have uS2 : rS (wMelt wm k t v) (in1 G2 (24 + r) 1) := uS.cong (fun c c0 c1 h5 h6' h7' h11 => by
      refine in1_cg (G c h11 (by omega)) (fun _ => G (24 + r) (by omega) (by omega)))
    have tl := tailE (b := 433000) hd uS2 Gw z2 z3 (by rw [G 1 (by decide) (by decide), ga 1 (by decide) (by decide) (by decide)]; exact hgd) (by rw [w9, m9, G11]) Gk (hBa.of (fun c hc => G c (by omega) (by omega))) (by rw [G 0 (by decide) (by decide), ga 0 (by decide) (by decide) (by decide)]; omega) (by rw [G 0 (by decide) (by decide), ga 0 (by decide) (by decide) (by decide)]; exact hr) ht ⟨G7.1, Int.le_trans G7.2 (by omega)⟩ (fun k k0 k1 => by
      rw [G (36 + k) (by omega) (by omega), g36 k k0 k1]
      have := i36 k k0 k1
      omega) (by decide) z1
    refine cmE_mono (fun s' y => ⟨y.1, fin _ eu s' y.2⟩) tl
  · have hK2 := hK.2 c2
    rw [how] at c2
    have rM := midD_s (rN 0) hr.1 (by rw [N 0 0 (by decide) (by decide)]; exact hr.2)
    have mW : cW (midD (wNote w 0 r t) r) l (gD d s) (gD d s) := cN.of rfl rfl (fun q hq => by rcases hq with rfl | rfl | rfl | rfl <;> rfl)
    have m9 : (midD (wNote w 0 r t) r).1 9 = gD d s 11 := n9.trans j6
    have eu : wPlayE (wNote w 0 r t) k t v r = wRise (wRaise (wP (midD (wNote w 0 r t) r) 0 r 2 0) r (wI (t - wG (wP (midD (wNote w 0 r t) r) 0 r 2 0) 0 r 1))) := by
      unfold wPlayE midD
      dsimp only
      rw [hh, if_pos c2]
    have La : lsM d (mInc (mInc (mS (mNote s d 0 r t k v 0) 12 0) (d * 2804 + 10) 1) (d * 2804 + (28 + r)) 1) l := (((j3.note hd0 q6.1).cong (s' := mS (mNote s d 0 r t k v 0) 12 0) rfl).in hd0 (by decide) (by unfold zB; omega)).in hd0 (by omega) (by unfold zB; omega)
    have Ma : sB d (mInc (mInc (mS (mNote s d 0 r t k v 0) 12 0) (d * 2804 + 10) 1) (d * 2804 + (28 + r)) 1) (fa1 (nt1 (gD d s) 0 r t k v 0) 2 r) := by
      unfold fa1
      rw [if_pos rfl]
      exact (((j4.note hd0 h6g).cong (s' := mS (mNote s d 0 r t k v 0) 12 0) rfl).inc hd0 rfl (by decide) (by unfold zB; omega)).inc hd0 rfl (by omega) (by unfold zB; omega)
    have ga : ∀ c, c ≠ 6 → c < 1844 → (c < 8 ∨ (11 ≤ c ∧ c < 28) ∨ 32 ≤ c) → fa1 (nt1 (gD d s) 0 r t k v 0) 2 r c = gD d s c := fun c h1 h2 h3 => by rw [fa1_ne (by omega) h3, N 0 c h1 h2]
    have sw := fa_sw (g := nt1 (gD d s) 0 r t k v 0) (h := 2) (r := r) (by omega)
    rw [← sw] at rM
    generalize mInc (mInc (mS (mNote s d 0 r t k v 0) 12 0) (d * 2804 + 10) 1) (d * 2804 + (28 + r)) 1 = sa at La Ma hK2 ⊢
    generalize fa1 (nt1 (gD d s) 0 r t k v 0) 2 r = g2 at Ma ga rM
    have tl := tailE (b := 433000) hd rM (mW.cg (fun c hc => ga c (by unfold mC fC at hc; omega) (by unfold mC fC at hc; omega) (by unfold mC fC at hc; omega))) La Ma (by rw [ga 1 (by decide) (by decide) (by decide)]; exact j5) (by rw [m9, ga 11 (by decide) (by decide) (by decide)]) (j7.cong (fun c hc => ga c (by omega) (by omega) (by omega))) (hB.of (fun c hc => ga c (by omega) (by omega) (by omega))) (by rw [ga 0 (by decide) (by decide) (by decide)]; omega) (by rw [ga 0 (by decide) (by decide) (by decide)]; exact hr) ht (by unfold b7; rw [ga 7 (by decide) (by decide) (by decide)]; exact ⟨i7.1, Int.le_trans i7.2 (by decide)⟩) (fun k k0 k1 => by
      rw [ga (36 + k) (by omega) (by omega) (by omega)]
      have := i36 k k0 k1
      omega) (by decide) hK2
    refine cmE_mono (fun s' y => ⟨y.1, fin _ eu s' y.2⟩) tl
end
-- 98969.om
section
/-! ===== tables' sizes; copied, begun anew: sessions, messages, finals ===== -/
def zW (w : WS) : Prop := (0 ≤ wZ w 2 ∧ wZ w 2 ≤ 60 ∧ (wZ w 2 < 60 → w.1 4 = wZ w 2)) ∧ (0 ≤ wZ w 3 ∧ wZ w 3 ≤ 40 ∧ (wZ w 3 < 40 → w.1 5 = wZ w 3)) ∧ wZ w 5 = 6
theorem zW.of {w w' : WS} (h : zW w) (f4 : w'.1 4 = w.1 4) (f5 : w'.1 5 = w.1 5) (z2 : wZ w' 2 = wZ w 2) (z3 : wZ w' 3 = wZ w 3) (z5 : wZ w' 5 = wZ w 5) : zW w' := by
  unfold zW
  rw [f4, f5, z2, z3, z5]
  exact h
theorem re_z {w : WS} {t : Nat} {q : Int} : wZ (wRe w t q) t = if wZ w t ≤ q ∧ q < rmT t then q + 1 else wZ w t := by
  unfold wZ wRe
  show (bif Nat.beq t t then _ else _ : TS).1 = _
  rw [Nat.beq_refl]
  rfl
theorem send_z {w : WS} {k i : Int} : wZ (wSend w k i) 2 = wZ (wRe w 2 (Int.tmod (w.1 4) 60)) 2 := rfl
theorem send_f4 {w : WS} {k i : Int} : (wSend w k i).1 4 = wI (w.1 4 + 1) := rfl
theorem zW.send {w : WS} {k i : Int} (h : zW w) : zW (wSend w k i) := by
  obtain ⟨⟨a0, a1, a2⟩, b, c⟩ := h
  refine ⟨?_, b, c⟩
  have l := Int.tmod_lt_of_pos (w.1 4) (b := 60) (by decide)
  rw [send_z, send_f4, re_z, show rmT 2 = 60 from rfl]
  by_cases q : wZ w 2 < 60
  · have e := a2 q
    rw [e] at l ⊢
    have t : Int.tmod (wZ w 2) 60 = wZ w 2 := Int.tmod_eq_of_lt a0 q
    rw [t, if_pos ⟨Int.le_refl _, q⟩, wI_id (z := wZ w 2 + 1) ⟨by omega, by omega⟩]
    exact ⟨by omega, by omega, fun _ => rfl⟩
  · rw [if_neg (fun z => by omega)]
    exact ⟨a0, a1, fun z => absurd z q⟩
theorem fin_z {w : WS} {i : Int} : wZ (wFin w i) 3 = wZ (wRe w 3 (Int.tmod (w.1 5) 40)) 3 := by
  unfold wZ
  rw [fin_3]
  rfl
theorem fin_z2 {w : WS} {i : Int} : wZ (wFin w i) 2 = wZ w 2 := rfl
theorem fin_f4 {w : WS} {i : Int} : (wFin w i).1 4 = w.1 4 := rfl
theorem fin_z5 {w : WS} {i : Int} : wZ (wFin w i) 5 = wZ w 5 := by
  unfold wZ
  rw [fin_5]
  rfl
theorem zW.fin {w : WS} {i : Int} (h : zW w) : zW (wFin w i) := by
  obtain ⟨a, ⟨b0, b1, b2⟩, c⟩ := h
  unfold zW
  rw [fin_z2, fin_f4, fin_z5, fin_z, fin_f, re_z, show rmT 3 = 40 from rfl]
  refine ⟨a, ?_, c⟩
  have l := Int.tmod_lt_of_pos (w.1 5) (b := 40) (by decide)
  by_cases q : wZ w 3 < 40
  · have e := b2 q
    rw [e] at l ⊢
    have t : Int.tmod (wZ w 3) 40 = wZ w 3 := Int.tmod_eq_of_lt b0 q
    rw [t, if_pos ⟨Int.le_refl _, q⟩, wI_id (z := wZ w 3 + 1) ⟨by omega, by omega⟩]
    exact ⟨by omega, by omega, fun _ => rfl⟩
  · rw [if_neg (fun z => by omega)]
    exact ⟨b0, b1, fun z => absurd z q⟩
theorem zW.take {w : WS} {i : Int} (h : zW w) : zW (wTake w i) := by
  unfold wTake
  split
  · exact zW.of (w := wSend w 3 i) (zW.send (k := 3) (i := i) h) rfl rfl rfl rfl rfl
  · exact h
theorem zW.ann {w : WS} {k i : Int} (h : zW w) : zW (wAnn w k i) := zW.of (w := wSend w k i) (zW.send (k := k) (i := i) h) rfl rfl rfl rfl rfl
theorem zW.tkL : ∀ (n : Nat) (i : Int) (w : WS), zW w → zW (takeL n i w)
  | 0, _, _, h => h
  | n + 1, i, _, h => zW.tkL n (i + 1) _ h.take
theorem zW.sws (p : Int) : ∀ (n : Nat) (w : WS), zW w → zW (swL p n w)
  | 0, _, h => h
  | n + 1, w, h => zW.sws p n _ (h.of (w' := wSwallow w p) rfl rfl rfl rfl rfl)
theorem zW.melt {w : WS} {k t v : Int} (h : zW w) : zW (wMelt w k t v) := by
  have key : ∀ (u : WS) (p m : Int), zW u → zW (wMeltE u p m) := by
    intro u p m hu
    have k2 : ∀ x : WS, zW x → zW (if 0 ≤ wKind x p then wAnn x (wKind x p) p else x) := by
      intro x hx
      split
      · exact hx.ann
      · exact hx
    exact k2 _ (hu.of (w' := wFd u 9 (wI (u.1 9 + (if 1 < m then 1 else 0)))) rfl rfl rfl rfl rfl)
  unfold wMelt
  have a := zW.tkL (wMany w (wFirst w k t) k t).toNat (wPl w k t) w h
  generalize takeL (wMany w (wFirst w k t) k t).toNat (wPl w k t) w = u at a
  unfold wMelt2
  split
  · exact key _ _ _ (zW.sws _ _ _ (a.of (w' := wRow u (wPl w k t) k t v) rfl rfl rfl rfl rfl))
  · exact a
theorem zW.step {w : WS} {be i : Int} (h : zW w) : zW (wStep w be i) := by
  have key : ∀ x : WS, zW x → zW (if wOver x i (x.1 3) then wFin x i else x) := by
    intro x hx
    split
    · exact hx.fin
    · exact hx
  refine key _ ?_
  split
  · exact h
  · exact h.take.ann
theorem zW.rsL (be : Int) : ∀ (n : Nat) (pa : Int) (w : WS), zW w → zW (riseL be n pa w)
  | 0, _, _, h => h
  | n + 1, pa, w, h => by
    rw [riseL]
    split
    · exact h
    · exact zW.rsL be n _ _ h.step
theorem zW.rise {w : WS} (h : zW w) : zW (wRise w) := by
  unfold wRise
  split
  · exact h
  · exact zW.rsL _ _ _ _ (h.of rfl rfl rfl rfl rfl)
theorem zW.raise {w : WS} {r t : Int} (h : zW w) : zW (wRaise w r t) := by
  unfold wRaise
  split
  · exact h.of rfl rfl rfl rfl rfl
  · exact h
theorem zW.note {w : WS} {a r t : Int} (h : zW w) : zW (wNote w a r t) := h.of (note_f.1 4) (note_f.1 5) (by unfold wZ; rw [note_t 2 (by decide)]) (by unfold wZ; rw [note_t 3 (by decide)]) (by unfold wZ; rw [note_t 5 (by decide)])
theorem zW.playE {w : WS} {k t v r : Int} (h : zW w) : zW (wPlayE w k t v r) := by
  unfold wPlayE
  dsimp only
  have key : ∀ u : WS, zW u → zW (wRise (wRaise (wP u 0 r 2 0) r (wI (t - wG (wP u 0 r 2 0) 0 r 1)))) := fun u hu => (zW.raise (w := wP u 0 r 2 0) (hu.of rfl rfl rfl rfl rfl)).rise
  refine key _ ?_
  split
  · exact h.of rfl rfl rfl rfl rfl
  · exact zW.melt (h.of rfl rfl rfl rfl rfl)
theorem zW.comeE {w : WS} {k t v r : Int} (h : zW w) : zW (wComeE w k t v r) := zW.of (w := wPlayE (wNote w 0 r t) k t v r) (h.note (a := 0) (r := r) (t := t)).playE rfl rfl rfl rfl rfl
theorem zW.comeM {w : WS} {r t : Int} (h : zW w) : zW (wComeM w r t) := ((h.note (a := 1) (r := r) (t := t)).raise (r := r) (t := t)).rise
theorem zW.comeI {w : WS} {r : Int} (h : zW w) : zW (wComeI w r) := by
  have a : zW (wP (wNote w 2 r 0) 0 r 2 1) := zW.of (w := wNote w 2 r 0) (h.note (a := 2) (r := r) (t := 0)) rfl rfl rfl rfl rfl
  exact a.rise
/-! copied -/
theorem copy_g1 {a b : WS} {i c : Int} (h0 : 0 ≤ i) (h1 : i < wZ b 1) (c0 : 0 ≤ c) (c1 : c < 7) : wG (wCopy a b) 1 i c = wG b 1 i c := by
  show tg 161 7 (xcp (b.2 1).2 (a.2 1).2 0 0 ((b.2 1).1 * 7).toNat) i c = tg 161 7 (b.2 1).2 i c
  have h1 : i < (b.2 1).1 := h1
  generalize (b.2 1).1 = z at h1
  unfold tg xcp
  split
  · rw [if_pos (by omega), show 0 + ((i * 7 + c).toNat - 0) = (i * 7 + c).toNat by omega]
  · rfl
theorem copy_g2 {a b : WS} {i c : Int} (h0 : 0 ≤ i) (h1 : i < wZ b 2) (c0 : 0 ≤ c) (c1 : c < 6) : wG (wCopy a b) 2 i c = wG b 2 i c := by
  show tg 60 6 (xcp (b.2 2).2 (a.2 2).2 0 0 ((b.2 2).1 * 6).toNat) i c = tg 60 6 (b.2 2).2 i c
  have h1 : i < (b.2 2).1 := h1
  generalize (b.2 2).1 = z at h1
  unfold tg xcp
  split
  · rw [if_pos (by omega), show 0 + ((i * 6 + c).toNat - 0) = (i * 6 + c).toNat by omega]
  · rfl
theorem copy_g3 {a b : WS} {i c : Int} (h0 : 0 ≤ i) (h1 : i < wZ b 3) (c0 : 0 ≤ c) (c1 : c < 7) : wG (wCopy a b) 3 i c = wG b 3 i c := by
  show tg 40 7 (xcp (b.2 3).2 (a.2 3).2 0 0 ((b.2 3).1 * 7).toNat) i c = tg 40 7 (b.2 3).2 i c
  have h1 : i < (b.2 3).1 := h1
  generalize (b.2 3).1 = z at h1
  unfold tg xcp
  split
  · rw [if_pos (by omega), show 0 + ((i * 7 + c).toNat - 0) = (i * 7 + c).toNat by omega]
  · rfl
theorem copy_g5 {a b : WS} {i c : Int} (h0 : 0 ≤ i) (h1 : i < wZ b 5) (c0 : 0 ≤ c) (c1 : c < 8) : wG (wCopy a b) 5 i c = wG b 5 i c := by
  show tg 6 8 (xcp (b.2 5).2 (a.2 5).2 0 0 ((b.2 5).1 * 8).toNat) i c = tg 6 8 (b.2 5).2 i c
  have h1 : i < (b.2 5).1 := h1
  generalize (b.2 5).1 = z at h1
  unfold tg xcp
  split
  · rw [if_pos (by omega), show 0 + ((i * 8 + c).toNat - 0) = (i * 8 + c).toNat by omega]
  · rfl
theorem copy_z {a b : WS} : wZ (wCopy a b) 1 = wZ b 1 ∧ wZ (wCopy a b) 2 = wZ b 2 ∧ wZ (wCopy a b) 3 = wZ b 3 ∧ wZ (wCopy a b) 5 = wZ b 5 := ⟨rfl, rfl, rfl, rfl⟩
theorem copy_9 {a b : WS} : (wCopy a b).1 4 = b.1 4 ∧ (wCopy a b).1 5 = b.1 5 ∧ (wCopy a b).1 9 = b.1 9 := ⟨rfl, rfl, rfl⟩
theorem zW.copy {a b : WS} (h : zW b) : zW (wCopy a b) := h.of copy_9.1 copy_9.2.1 copy_z.2.1 copy_z.2.2.1 copy_z.2.2.2
theorem rB.copy {a b : WS} {g : Int → Int} (h : rB b g) (hz : zW b) : rB (wCopy a b) g := by
  obtain ⟨l, h1, ⟨⟨⟨l1, l2⟩, l3⟩, ⟨m1, m2, m3⟩, ⟨f1, f2, f3⟩⟩, h3, h4, h5⟩ := h
  obtain ⟨⟨a0, a1, a2⟩, ⟨b0, b1, b2⟩, z5⟩ := hz
  obtain ⟨c1, c2, c3, c5⟩ := copy_z (a := a) (b := b)
  obtain ⟨d4, d5, d9⟩ := copy_9 (a := a) (b := b)
  refine ⟨l, h1, ⟨⟨⟨c1.trans l1, l2⟩, fun i r hi => ?_⟩, ⟨d4.trans m1, fun q c q0 q1 q2 j0 j1 => ?_, fun k kd k0 k1 j0 j1 => ?_⟩, ⟨d5.trans f1, fun q c q0 q1 q2 j0 j1 => ?_, fun k k0 k1 => ?_⟩⟩, h3, d9.trans h4, h5⟩
  · have hl := lt_some hi
    exact (l3 i r hi).of (fun c c0 c1 => copy_g1 (by omega) (by omega) c0 c1)
  · rw [copy_g2 q0 (by omega) j0 j1]
    exact m2 q c q0 q1 q2 j0 j1
  · rw [copy_g5 k0 (by omega) j0 (by omega)]
    exact m3 k kd k0 k1 j0 j1
  · rw [copy_g3 q0 (by omega) j0 j1]
    exact f2 q c q0 q1 q2 j0 j1
  · rw [copy_g5 k0 (by omega) (by decide) (by decide), copy_g5 k0 (by omega) (by decide) (by decide), copy_g5 k0 (by omega) (by decide) (by decide), copy_g5 k0 (by omega) (by decide) (by decide)]
    exact f3 k k0 k1
/-- the cells that B looks at -/
def bC (c : Int) : Prop := c = 1 ∨ c = 5 ∨ c = 7 ∨ c = 11 ∨ (32 ≤ c ∧ c < 1844)
theorem rB.cg {w : WS} {g g' : Int → Int} (h : rB w g) (e : ∀ c, bC c → g' c = g c) : rB w g' := by
  obtain ⟨l, h1, h2, h3, h4, h5⟩ := h
  have hn := h1.1.2
  refine ⟨l, ⟨by rw [e 5 (by unfold bC; omega)]; exact h1.1, fun i r hi c c0 c1 => ?_⟩, h2.cg (fun c hc => e c (by unfold mC fC at hc; unfold bC; omega)), by rw [e 1 (by unfold bC; omega)]; exact h3, by rw [e 11 (by unfold bC; omega)]; exact h4, h5.cong (fun c hc => e c (by unfold bC; omega))⟩
  have hl := lt_some hi
  rw [e _ (by unfold bC; omega)]
  exact h1.2 i r hi c c0 c1
theorem rB.delay {w : WS} {g : Int → Int} {r v : Int} (h : rB w g) (hr : 0 ≤ r ∧ r < 4) : rB (wP w 0 r 1 v) (up1 g (16 + r) v) := (h.t4 (w' := wP w 0 r 1 v) rfl rfl rfl (fun q h0 _ => setT_ne h0)).cg (fun c hc => up1_ne (by unfold bC at hc; omega))
/-! begun anew -/
theorem op5_at {w : WS} {i c : Int} (h0 : 0 ≤ wZ w 5) (hi : 0 ≤ i ∧ i ≤ wZ w 5 ∧ i < 6) (hc : 0 ≤ c ∧ c < 8) : wG (wOp w 5 (wZ w 5)) 5 i c = if i = wZ w 5 then 0 else wG w 5 i c := by
  show tg 6 8 (topen 8 (w.2 5).2 (wZ w 5) (wZ w 5)) i c = if i = wZ w 5 then 0 else tg 6 8 (w.2 5).2 i c
  generalize wZ w 5 = z at h0 hi
  unfold tg topen xcp
  rw [if_pos (show 0 ≤ i ∧ i < 6 ∧ 0 ≤ c ∧ c < 8 by omega)]
  by_cases e : i = z
  · rw [if_pos e, if_pos (by omega)]
  · rw [if_neg e, if_neg (by omega), if_neg (by omega), if_pos (show 0 ≤ i ∧ i < 6 ∧ 0 ≤ c ∧ c < 8 by omega)]
theorem rkL_v : ∀ (m : Nat) (i : Int) (w : WS), 0 ≤ i → i + m ≤ 6 → wZ w 5 = i → (∀ r c, 0 ≤ r → r < i → 0 ≤ c → c < 8 → wG w 5 r c = if c = 7 then -1 else 0) → wZ (rkL m i w) 5 = i + m ∧ ∀ r c, 0 ≤ r → r < i + m → 0 ≤ c → c < 8 → wG (rkL m i w) 5 r c = if c = 7 then -1 else 0
  | 0, i, w, _, _, hz, h => ⟨by rw [rkL, hz]; omega, fun r c r0 r1 c0 c1 => h r c r0 (by omega) c0 c1⟩
  | m + 1, i, w, h0, h1, hz, h => by
    subst hz
    rw [rkL]
    have eo : wOpn w 5 (wZ w 5) = wOp w 5 (wZ w 5) := if_pos ⟨h0, Int.le_refl _, by show wZ w 5 < 6; omega⟩
    rw [eo]
    have z : wZ (wP (wOp w 5 (wZ w 5)) 5 (wZ w 5) 7 (-1)) 5 = wZ w 5 + 1 := rfl
    obtain ⟨a, b⟩ := rkL_v m (wZ w 5 + 1) (wP (wOp w 5 (wZ w 5)) 5 (wZ w 5) 7 (-1)) (by omega) (by omega) z (fun r c r0 r1 c0 c1 => by
      rw [p5_at ⟨h0, by omega⟩ (by decide)]
      by_cases e : r = wZ w 5 ∧ c = 7
      · rw [if_pos e, if_pos e.2]
      · rw [if_neg e, op5_at h0 ⟨r0, by omega, by omega⟩ ⟨c0, c1⟩]
        by_cases e2 : r = wZ w 5
        · rw [if_pos e2, if_neg (fun z => e ⟨e2, z⟩)]
        · rw [if_neg e2]
          exact h r c r0 (by omega) c0 c1)
    exact ⟨by rw [a]; omega, fun r c r0 r1 c0 c1 => b r c r0 (by omega) c0 c1⟩
theorem rkL_f : ∀ (m : Nat) (i : Int) (w : WS), (rkL m i w).1 = w.1 ∧ ∀ t, t ≠ 5 → (rkL m i w).2 t = w.2 t
  | 0, _, _ => ⟨rfl, fun _ _ => rfl⟩
  | m + 1, i, w => by
    rw [rkL]
    obtain ⟨a, b⟩ := rkL_f m (i + 1) (wP (wOpn w 5 i) 5 i 7 (-1))
    have k : (wP (wOpn w 5 i) 5 i 7 (-1)).1 = w.1 ∧ ∀ t, t ≠ 5 → (wP (wOpn w 5 i) 5 i 7 (-1)).2 t = w.2 t := by
      unfold wOpn
      split
      · exact ⟨rfl, fun t ht => (setT_ne ht).trans (setT_ne ht)⟩
      · exact ⟨rfl, fun t ht => setT_ne ht⟩
    exact ⟨a.trans k.1, fun t ht => (b t ht).trans (k.2 t ht)⟩
theorem rsL_f : ∀ (m : Nat) (i : Int) (w : WS), (rsL m i w).1 = w.1
  | 0, _, _ => rfl
  | m + 1, i, w => by
    rw [rsL, rsL_f m (i + 1)]
    unfold wOpn
    split <;> rfl
theorem reset_b {w : WS} {n g l e : Int} : ((wReset w n g l e).1 4 = 0 ∧ (wReset w n g l e).1 5 = 0 ∧ (wReset w n g l e).1 9 = 0) ∧ (wZ (wReset w n g l e) 1 = 0 ∧ wZ (wReset w n g l e) 2 = 0 ∧ wZ (wReset w n g l e) 3 = 0 ∧ wZ (wReset w n g l e) 5 = 6) ∧ ∀ k c, 0 ≤ k → k < 6 → 0 ≤ c → c < 8 → wG (wReset w n g l e) 5 k c = if c = 7 then -1 else 0 := by
  unfold wReset wRes2
  have r1 := rsL_f n.toNat 0 (wCl (wFd (wFd (wFd (wFd (wFd (wFd (wFd (wFd (wFd (wFd w 0 g) 1 l) 2 e) 3 0) 4 0) 5 0) 6 0) 7 0) 8 0) 9 0) 0)
  have e4 : (wCl (wFd (wFd (wFd (wFd (wFd (wFd (wFd (wFd (wFd (wFd w 0 g) 1 l) 2 e) 3 0) 4 0) 5 0) 6 0) 7 0) 8 0) 9 0) 0).1 4 = 0 ∧ (wCl (wFd (wFd (wFd (wFd (wFd (wFd (wFd (wFd (wFd (wFd w 0 g) 1 l) 2 e) 3 0) 4 0) 5 0) 6 0) 7 0) 8 0) 9 0) 0).1 5 = 0 ∧ (wCl (wFd (wFd (wFd (wFd (wFd (wFd (wFd (wFd (wFd (wFd w 0 g) 1 l) 2 e) 3 0) 4 0) 5 0) 6 0) 7 0) 8 0) 9 0) 0).1 9 = 0 := ⟨rfl, rfl, rfl⟩
  rw [← r1] at e4
  generalize rsL n.toNat 0 (wCl (wFd (wFd (wFd (wFd (wFd (wFd (wFd (wFd (wFd (wFd w 0 g) 1 l) 2 e) 3 0) 4 0) 5 0) 6 0) 7 0) 8 0) 9 0) 0) = u at e4
  have z5 : wZ (wCl (wCl (wCl (wCl (wCl u 1) 2) 3) 4) 5) 5 = 0 := rfl
  obtain ⟨v1, v2⟩ := rkL_v 6 0 (wCl (wCl (wCl (wCl (wCl u 1) 2) 3) 4) 5) (by decide) (by decide) z5 (fun r c r0 r1 => absurd r1 (by omega))
  obtain ⟨f1, f2⟩ := rkL_f 6 0 (wCl (wCl (wCl (wCl (wCl u 1) 2) 3) 4) 5)
  have z1 : wZ (wCl (wCl (wCl (wCl (wCl u 1) 2) 3) 4) 5) 1 = 0 := rfl
  have z2 : wZ (wCl (wCl (wCl (wCl (wCl u 1) 2) 3) 4) 5) 2 = 0 := rfl
  have z3 : wZ (wCl (wCl (wCl (wCl (wCl u 1) 2) 3) 4) 5) 3 = 0 := rfl
  have f0 : (wCl (wCl (wCl (wCl (wCl u 1) 2) 3) 4) 5).1 = u.1 := rfl
  generalize wCl (wCl (wCl (wCl (wCl u 1) 2) 3) 4) 5 = x at v1 v2 f1 f2 z1 z2 z3 f0 ⊢
  unfold wZ at z1 z2 z3 v1 ⊢
  rw [f1, f0, f2 1 (by decide), f2 2 (by decide), f2 3 (by decide)]
  exact ⟨e4, ⟨z1, z2, z3, v1⟩, fun k c k0 k1 c0 c1 => v2 k c k0 (by omega) c0 c1⟩
theorem zW.reset {w : WS} {n g l e : Int} : zW (wReset w n g l e) := by
  obtain ⟨⟨f4, f5, -⟩, ⟨-, z2, z3, z5⟩, -⟩ := reset_b (w := w) (n := n) (g := g) (l := l) (e := e)
  unfold zW
  rw [f4, f5, z2, z3, z5]
  exact ⟨⟨by decide, by decide, fun _ => rfl⟩, ⟨by decide, by decide, fun _ => rfl⟩, rfl⟩
theorem rB.reset {w : WS} {n g l e : Int} {G : Int → Int} (hG : ∀ c, (c = 5 ∨ c = 7 ∨ c = 11 ∨ (32 ≤ c ∧ c < 364) ∨ (1484 ≤ c ∧ c < 1844)) → G c = if 54 ≤ c ∧ c < 60 then -1 else 0) : rB (wReset w n g l e) G := by
  obtain ⟨⟨f4, f5, f9⟩, ⟨z1, z2, z3, z5⟩, v⟩ := reset_b (w := w) (n := n) (g := g) (l := l) (e := e)
  have G0 : ∀ c, (c = 5 ∨ c = 7 ∨ c = 11 ∨ (32 ≤ c ∧ c < 54) ∨ (60 ≤ c ∧ c < 364) ∨ (1484 ≤ c ∧ c < 1844)) → G c = 0 := fun c hc => by rw [hG c (by omega), if_neg (by omega)]
  have s0 : sm6 G = 0 := by
    rw [sm6_x (fun k k0 k1 => by rw [G0 (36 + k) (by omega)]; decide), G0 36 (by decide), G0 37 (by decide), G0 38 (by decide), G0 39 (by decide), G0 40 (by decide), G0 41 (by decide)]
    rfl
  have e7 := G0 7 (by decide)
  refine ⟨[], ⟨⟨G0 5 (by decide), by decide⟩, fun i r hi => by simp at hi⟩, ⟨⟨⟨z1, by decide⟩, fun i r hi => by simp at hi⟩, ⟨f4.trans e7.symm, fun q c q0 q1 q2 => by rw [e7] at q2; omega, fun k kd k0 k1 j0 j1 => ?_⟩, ⟨f5.trans s0.symm, fun q c q0 q1 q2 => by rw [s0] at q2; omega, fun k k0 k1 => ?_⟩⟩, ⟨fun r hr => absurd hr List.not_mem_nil, List.Pairwise.nil⟩, f9.trans (G0 11 (by decide)).symm, fun j j0 j1 => ?_, fun q q0 q1 => by rw [G0 _ (by omega)]; decide⟩
  · rw [v k kd k0 k1 j0 (by omega), if_neg (by omega), G0 _ (by omega)]
  · rw [v k 4 k0 k1 (by decide) (by decide), v k 5 k0 k1 (by decide) (by decide), v k 6 k0 k1 (by decide) (by decide), v k 7 k0 k1 (by decide) (by decide), G0 (36 + k) (by omega), G0 (42 + k) (by omega), G0 (48 + k) (by omega), hG (54 + k) (by omega), if_pos (show 54 ≤ 54 + k ∧ 54 + k < 60 by omega)]
    exact ⟨rfl, rfl, rfl, rfl⟩
  · rw [G0 (32 + j) (by omega), G0 (60 + j) (by omega), G0 (64 + j) (by omega), G0 (68 + j) (by omega), G0 (72 + j) (by omega), G0 (76 + j) (by omega), G0 (80 + j) (by omega)]
    exact ⟨by decide, fun k k0 k1 => by rw [G0 (60 + 4 * k + j) (by omega), e7]; decide⟩
theorem stL2_v (d : Int) (hd : 0 ≤ d) : ∀ (m : Nat) (k : Int) (s : MS), 0 ≤ k → k + m ≤ 6 → ∀ q, k ≤ q → q < k + m → mg (stL2 d m k s) (d * 2804 + (54 + q)) = -1
  | 0, k, s, _, _, q, h0, h1 => absurd h1 (by omega)
  | m + 1, k, s, h0, h1, q, q0, q1 => by
    rw [stL2]
    by_cases e : q = k
    · subst e
      rw [(stL2_f d hd m (q + 1) _ (by omega)).2 _ (by omega) (by omega), show d * 2804 + (54 + q) = d * 2804 + 54 + q by omega, mg_eq]
    · exact stL2_v d hd m (k + 1) _ (by omega) (by omega) q (by omega) (by omega)
theorem startsB {s : MS} {d n g l e : Int} (hd : 0 ≤ d) : ∀ c, (c = 5 ∨ c = 7 ∨ c = 11 ∨ (32 ≤ c ∧ c < 364) ∨ (1484 ≤ c ∧ c < 1844)) → mg (mStarts s d n g l e) (d * 2804 + c) = if 54 ≤ c ∧ c < 60 then -1 else 0 := by
  intro c hc
  have z2 : ∀ c, 0 ≤ c → c < 2804 → mg (mZero s d) (d * 2804 + c) = 0 := fun c c0 c1 => by
    rw [mZero, mg_mA, if_pos (by constructor <;> omega)]
  unfold mStarts mStart4
  generalize mZero s d = s1 at z2 ⊢
  obtain ⟨-, a2⟩ := stL2_f d hd 6 0 s1 (by decide)
  have a3 := stL2_v d hd 6 0 s1 (by decide) (by decide)
  generalize stL2 d 6 0 s1 = s2 at a2 a3 ⊢
  obtain ⟨-, b2⟩ := stL3_f d hd 4 0 s2 (by decide)
  generalize stL3 d 4 0 s2 = s3 at b2 ⊢
  rw [mg_ne (by omega) (by omega) (by omega), mg_ne (by omega) (by omega) (by omega), mg_ne (by omega) (by omega) (by omega), mg_ne (by omega) (by omega) (by omega), b2 _ (by omega) (by omega)]
  by_cases h : 54 ≤ c ∧ c < 60
  · rw [if_pos h]
    have := a3 (c - 54) (by omega) (by omega)
    rw [show d * 2804 + (54 + (c - 54)) = d * 2804 + c by omega] at this
    exact this
  · rw [if_neg h, a2 _ (by omega) (by omega), z2 c (by omega) (by omega)]
theorem rB.start {w : WS} {s : MS} {d n g l e : Int} (hd : 0 ≤ d) : rB (wReset w n g l e) (gD d (mStarts s d n g l e)) := rB.reset (fun c hc => startsB hd c hc)
end
