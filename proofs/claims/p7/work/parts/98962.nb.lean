/-! ===== the class's tables as lists: sessions ===== -/
theorem p1_at {w : WS} {r c v r' c' : Int} (hr : 0 ≤ r ∧ r < 161) (hc : 0 ≤ c ∧ c < 7) : wG (wP w 1 r c v) 1 r' c' = if r' = r ∧ c' = c then v else wG w 1 r' c' := by
  show tg 161 7 (ts 161 7 (w.2 1).2 r c v) r' c' = if r' = r ∧ c' = c then v else tg 161 7 (w.2 1).2 r' c'
  unfold tg ts
  rw [if_pos (show 0 ≤ r ∧ r < 161 ∧ 0 ≤ c ∧ c < 7 from ⟨hr.1, hr.2, hc.1, hc.2⟩)]
  by_cases q : 0 ≤ r' ∧ r' < 161 ∧ 0 ≤ c' ∧ c' < 7
  · rw [if_pos q, if_pos q]
    by_cases e : r' = r ∧ c' = c
    · rw [if_pos e]
      exact if_pos (by rw [e.1, e.2])
    · rw [if_neg e]
      exact if_neg (by omega)
  · rw [if_neg q, if_neg q, if_neg (by omega)]
theorem p2_at {w : WS} {r c v r' c' : Int} (hr : 0 ≤ r ∧ r < 60) (hc : 0 ≤ c ∧ c < 6) : wG (wP w 2 r c v) 2 r' c' = if r' = r ∧ c' = c then v else wG w 2 r' c' := by
  show tg 60 6 (ts 60 6 (w.2 2).2 r c v) r' c' = if r' = r ∧ c' = c then v else tg 60 6 (w.2 2).2 r' c'
  unfold tg ts
  rw [if_pos (show 0 ≤ r ∧ r < 60 ∧ 0 ≤ c ∧ c < 6 from ⟨hr.1, hr.2, hc.1, hc.2⟩)]
  by_cases q : 0 ≤ r' ∧ r' < 60 ∧ 0 ≤ c' ∧ c' < 6
  · rw [if_pos q, if_pos q]
    by_cases e : r' = r ∧ c' = c
    · rw [if_pos e]
      exact if_pos (by rw [e.1, e.2])
    · rw [if_neg e]
      exact if_neg (by omega)
  · rw [if_neg q, if_neg q, if_neg (by omega)]
theorem p5_at {w : WS} {r c v r' c' : Int} (hr : 0 ≤ r ∧ r < 6) (hc : 0 ≤ c ∧ c < 8) : wG (wP w 5 r c v) 5 r' c' = if r' = r ∧ c' = c then v else wG w 5 r' c' := by
  show tg 6 8 (ts 6 8 (w.2 5).2 r c v) r' c' = if r' = r ∧ c' = c then v else tg 6 8 (w.2 5).2 r' c'
  unfold tg ts
  rw [if_pos (show 0 ≤ r ∧ r < 6 ∧ 0 ≤ c ∧ c < 8 from ⟨hr.1, hr.2, hc.1, hc.2⟩)]
  by_cases q : 0 ≤ r' ∧ r' < 6 ∧ 0 ≤ c' ∧ c' < 8
  · rw [if_pos q, if_pos q]
    by_cases e : r' = r ∧ c' = c
    · rw [if_pos e]
      exact if_pos (by rw [e.1, e.2])
    · rw [if_neg e]
      exact if_neg (by omega)
  · rw [if_neg q, if_neg q, if_neg (by omega)]
theorem dr1_at {w : WS} {i r c : Int} (hi : 0 ≤ i ∧ i < wZ w 1) (hz : wZ w 1 ≤ 161) (hr : 0 ≤ r ∧ r < wZ w 1 - 1) (hc : 0 ≤ c ∧ c < 7) : wG (wDr w 1 i) 1 r c = if r < i then wG w 1 r c else wG w 1 (r + 1) c := by
  show tg 161 7 (if 0 ≤ i ∧ i < (w.2 1).1 then ((w.2 1).1 - 1, xcp (w.2 1).2 (w.2 1).2 ((i + 1) * 7).toNat (i * 7).toNat (((w.2 1).1 - i - 1) * 7).toNat) else w.2 1).2 r c = if r < i then tg 161 7 (w.2 1).2 r c else tg 161 7 (w.2 1).2 (r + 1) c
  have hi : 0 ≤ i ∧ i < (w.2 1).1 := hi
  have hz : (w.2 1).1 ≤ 161 := hz
  have hr : 0 ≤ r ∧ r < (w.2 1).1 - 1 := hr
  rw [if_pos hi]
  show tg 161 7 (xcp (w.2 1).2 (w.2 1).2 ((i + 1) * 7).toNat (i * 7).toNat (((w.2 1).1 - i - 1) * 7).toNat) r c = _
  generalize (w.2 1).1 = z at hi hz hr ⊢
  generalize (w.2 1).2 = g
  unfold tg
  rw [if_pos (show 0 ≤ r ∧ r < 161 ∧ 0 ≤ c ∧ c < 7 by omega), if_pos (show 0 ≤ r + 1 ∧ r + 1 < 161 ∧ 0 ≤ c ∧ c < 7 by omega)]
  unfold xcp
  by_cases q : r < i
  · rw [if_pos q, if_neg (by omega), if_pos (show 0 ≤ r ∧ r < 161 ∧ 0 ≤ c ∧ c < 7 by omega)]
  · rw [if_neg q, if_pos (by omega)]
    congr 1
    omega
theorem dr1_z {w : WS} {i : Int} (hi : 0 ≤ i ∧ i < wZ w 1) : wZ (wDr w 1 i) 1 = wZ w 1 - 1 := by
  show (if 0 ≤ i ∧ i < (w.2 1).1 then ((w.2 1).1 - 1, xcp (w.2 1).2 (w.2 1).2 ((i + 1) * 7).toNat (i * 7).toNat (((w.2 1).1 - i - 1) * 7).toNat) else w.2 1).1 = (w.2 1).1 - 1
  have hi : 0 ≤ i ∧ i < (w.2 1).1 := hi
  rw [if_pos hi]
theorem op1_at {w : WS} {p r c : Int} (hp : 0 ≤ p ∧ p ≤ wZ w 1) (hz : wZ w 1 < 161) (hr : 0 ≤ r ∧ r ≤ wZ w 1) (hc : 0 ≤ c ∧ c < 7) : wG (wOp w 1 p) 1 r c = if r < p then wG w 1 r c else if r = p then 0 else wG w 1 (r - 1) c := by
  show tg 161 7 (topen 7 (w.2 1).2 (w.2 1).1 p) r c = if r < p then tg 161 7 (w.2 1).2 r c else if r = p then 0 else tg 161 7 (w.2 1).2 (r - 1) c
  have hp : 0 ≤ p ∧ p ≤ (w.2 1).1 := hp
  have hz : (w.2 1).1 < 161 := hz
  have hr : 0 ≤ r ∧ r ≤ (w.2 1).1 := hr
  generalize (w.2 1).1 = z at hp hz hr ⊢
  generalize (w.2 1).2 = g
  unfold tg topen
  rw [if_pos (show 0 ≤ r ∧ r < 161 ∧ 0 ≤ c ∧ c < 7 by omega)]
  by_cases q : r < p
  · rw [if_pos q, if_neg (by omega)]
    unfold xcp
    rw [if_neg (by omega), if_pos (show 0 ≤ r ∧ r < 161 ∧ 0 ≤ c ∧ c < 7 by omega)]
  · rw [if_neg q]
    by_cases e : r = p
    · rw [if_pos e, if_pos (by omega)]
    · rw [if_neg e, if_neg (by omega), if_pos (show 0 ≤ r - 1 ∧ r - 1 < 161 ∧ 0 ≤ c ∧ c < 7 by omega)]
      unfold xcp
      rw [if_pos (by omega)]
      congr 1
      omega
/-- the class's sessions are these rows -/
def rwW (w : WS) (i : Int) (r : Row) : Prop := (∀ c, 0 ≤ c → c < 6 → wG w 1 i c = r c) ∧ wG w 1 i 6 = r 6 - 1
def lsW (w : WS) (l : List Row) : Prop := (wZ w 1 = l.length ∧ l.length ≤ 161) ∧ ∀ (i : Nat) (r : Row), l[i]? = some r → rwW w i r
theorem rwW.of {w w' : WS} {i i' : Int} {r : Row} (h : rwW w i r) (e : ∀ c, 0 ≤ c → c < 7 → wG w' 1 i' c = wG w 1 i c) : rwW w' i' r := ⟨fun c c0 c1 => (e c c0 (by omega)).trans (h.1 c c0 c1), (e 6 (by decide) (by decide)).trans h.2⟩
theorem lsW.of {w w' : WS} {l : List Row} (h : lsW w l) (e : w'.2 1 = w.2 1) : lsW w' l :=
  ⟨⟨by unfold wZ; rw [e]; exact h.1.1, h.1.2⟩, fun i r hi => (h.2 i r hi).of (fun c _ _ => by unfold wG; rw [e])⟩
theorem lt_some {l : List Row} {i : Nat} {r : Row} (h : l[i]? = some r) : i < l.length := by
  obtain ⟨a, -⟩ := List.getElem?_eq_some_iff.mp h
  exact a
theorem lsW.erase {w : WS} {l : List Row} {i : Nat} (h : lsW w l) (hi : i < l.length) : lsW (wDr w 1 i) (l.eraseIdx i) := by
  obtain ⟨⟨z, z1⟩, hr⟩ := h
  have hi0 : 0 ≤ (i : Int) ∧ (i : Int) < wZ w 1 := by omega
  have el : (l.eraseIdx i).length = l.length - 1 := List.length_eraseIdx_of_lt hi
  refine ⟨⟨by rw [dr1_z hi0, el]; omega, by omega⟩, fun j r hj => ?_⟩
  have hl := lt_some hj
  rw [el] at hl
  rw [List.getElem?_eraseIdx] at hj
  by_cases q : j < i
  · rw [if_pos q] at hj
    refine (hr j r hj).of (fun c c0 c1 => ?_)
    rw [dr1_at hi0 (by omega) ⟨by omega, by omega⟩ ⟨c0, c1⟩, if_pos (by omega)]
  · rw [if_neg q] at hj
    refine (hr (j + 1) r hj).of (fun c c0 c1 => ?_)
    rw [dr1_at hi0 (by omega) ⟨by omega, by omega⟩ ⟨c0, c1⟩, if_neg (by omega)]
    rfl
theorem p1_z {w : WS} {i c v : Int} : wZ (wP w 1 i c v) 1 = wZ w 1 := rfl
theorem lsW.put {w : WS} {l : List Row} {i : Nat} {r : Row} {c v : Int} (h : lsW w l) (hi : l[i]? = some r) (hc : 0 ≤ c ∧ c < 7) : lsW (wP w 1 i c v) (l.set i (up1 r c (if c = 6 then v + 1 else v))) := by
  obtain ⟨⟨z, z1⟩, hr⟩ := h
  have hl := lt_some hi
  refine ⟨⟨by rw [p1_z, List.length_set]; exact z, by rw [List.length_set]; exact z1⟩, fun j q hj => ?_⟩
  rw [List.getElem?_set] at hj
  by_cases e : i = j
  · subst e
    rw [if_pos rfl, if_pos hl] at hj
    have := hr i r hi
    cases hj
    refine ⟨fun d d0 d1 => ?_, ?_⟩
    · rw [p1_at ⟨by omega, by omega⟩ hc]
      by_cases k : d = c
      · subst k
        rw [if_pos ⟨rfl, rfl⟩, up1_eq, if_neg (by omega)]
      · rw [if_neg (fun y => k y.2), up1_ne k]
        exact this.1 d d0 d1
    · rw [p1_at ⟨by omega, by omega⟩ hc]
      by_cases k : c = 6
      · subst k
        rw [if_pos ⟨rfl, rfl⟩, up1_eq, if_pos rfl]
        omega
      · rw [if_neg (fun y => k y.2.symm), up1_ne (fun y => k y.symm)]
        exact this.2
  · rw [if_neg e] at hj
    refine (hr j q hj).of (fun d d0 d1 => ?_)
    rw [p1_at ⟨by omega, by omega⟩ hc, if_neg (by omega)]
theorem lsW.opn {w : WS} {A C : List Row} (h : lsW w (A ++ C)) (hz : (A ++ C).length < 161) : lsW (wOp w 1 A.length) (A ++ (fun c => if c = 6 then 1 else 0) :: C) := by
  obtain ⟨⟨z, z1⟩, hr⟩ := h
  have hlen : (A ++ C).length = A.length + C.length := List.length_append
  refine ⟨⟨?_, ?_⟩, fun j r hj => ?_⟩
  · show wZ w 1 + 1 = _
    rw [List.length_append, List.length_cons, z, hlen]
    omega
  · rw [List.length_append, List.length_cons]
    omega
  · have hl := lt_some hj
    rw [List.length_append, List.length_cons] at hl
    have key : ∀ c : Int, 0 ≤ c → c < 7 → wG (wOp w 1 A.length) 1 j c = if (j : Int) < A.length then wG w 1 j c else if (j : Int) = A.length then 0 else wG w 1 ((j : Int) - 1) c := fun c c0 c1 => op1_at ⟨by omega, by omega⟩ (by omega) ⟨by omega, by omega⟩ ⟨c0, c1⟩
    rw [List.getElem?_append] at hj
    by_cases q : j < A.length
    · rw [if_pos q] at hj
      have : (A ++ C)[j]? = some r := by rw [List.getElem?_append, if_pos q]; exact hj
      refine (hr j r this).of (fun c c0 c1 => ?_)
      rw [key c c0 c1, if_pos (by omega)]
    · rw [if_neg q] at hj
      by_cases e : j = A.length
      · subst e
        rw [Nat.sub_self] at hj
        have hj : (fun c : Int => if c = 6 then (1 : Int) else 0) = r := by simpa using hj
        subst hj
        refine ⟨fun c c0 c1 => ?_, ?_⟩
        · rw [key c c0 (by omega), if_neg (by omega), if_pos rfl]
          exact (if_neg (by omega)).symm
        · rw [key 6 (by decide) (by decide), if_neg (by omega), if_pos rfl]
          rfl
      · have ej : j - A.length = (j - 1 - A.length) + 1 := by omega
        rw [ej, List.getElem?_cons_succ] at hj
        have : (A ++ C)[j - 1]? = some r := by rw [List.getElem?_append, if_neg (by omega)]; exact hj
        refine (hr (j - 1) r this).of (fun c c0 c1 => ?_)
        rw [key c c0 c1, if_neg (by omega), if_neg (by omega), show ((j - 1 : Nat) : Int) = (j : Int) - 1 by omega]
