/-! ===== the class: sessions, messages, finals together; who is due ===== -/
theorem sn1_row {g : Int → Int} {kd : Int} {r r' : Row} (h : ∀ c, 0 ≤ c → c < 5 → r' c = r c) : sn1 g kd r' = sn1 g kd r := by
  unfold sn1
  rw [h 0 (by decide) (by decide), h 1 (by decide) (by decide), h 2 (by decide) (by decide), h 3 (by decide) (by decide), h 4 (by decide) (by decide)]
theorem sn1_up {g : Int → Int} {kd v : Int} {r : Row} : sn1 g kd (up1 r 6 v) = sn1 g kd r := sn1_row (fun c _ _ => up1_ne (by omega))
theorem up1_self {r : Row} {c v : Int} (h : r c = v) : up1 r c v = r := by
  rw [← h]
  exact up1_id r c
theorem set_same {l : List Row} {i : Nat} {r : Row} (h : l[i]? = some r) : l.set i r = l := by
  apply List.ext_getElem?
  intro j
  rw [List.getElem?_set]
  by_cases e : i = j
  · subst e
    rw [if_pos rfl, if_pos (lt_some h), h]
  · rw [if_neg e]
theorem set_at {l : List Row} {i : Nat} {r q : Row} (h : l[i]? = some r) : (l.set i q)[i]? = some q := by
  rw [List.getElem?_set, if_pos rfl, if_pos (lt_some h)]
theorem mem_at {l : List Row} {i : Nat} {r : Row} (h : l[i]? = some r) : r ∈ l := List.mem_of_getElem? h
theorem msW.of {w w' : WS} {g : Int → Int} (h : msW w g) (f4 : w'.1 4 = w.1 4) (e2 : w'.2 2 = w.2 2) (e5 : ∀ k c, 0 ≤ c → c < 4 → wG w' 5 k c = wG w 5 k c) : msW w' g := by
  obtain ⟨a, b, c⟩ := h
  refine ⟨f4.trans a, fun q j q0 q1 q2 j0 j1 => ?_, fun k j k0 k1 j0 j1 => (e5 k j j0 j1).trans (c k j k0 k1 j0 j1)⟩
  unfold wG
  rw [e2]
  exact b q j q0 q1 q2 j0 j1
theorem fiW.of {w w' : WS} {g : Int → Int} (h : fiW w g) (f5 : w'.1 5 = w.1 5) (e3 : w'.2 3 = w.2 3) (e5 : ∀ k c, 4 ≤ c → wG w' 5 k c = wG w 5 k c) : fiW w' g := by
  obtain ⟨a, b, c⟩ := h
  refine ⟨f5.trans a, fun q j q0 q1 q2 j0 j1 => ?_, fun k k0 k1 => ?_⟩
  · unfold wG
    rw [e3]
    exact b q j q0 q1 q2 j0 j1
  · rw [e5 k 4 (by decide), e5 k 5 (by decide), e5 k 6 (by decide), e5 k 7 (by decide)]
    exact c k k0 k1
def cW (w : WS) (l : List Row) (gm gf : Int → Int) : Prop := lsW w l ∧ msW w gm ∧ fiW w gf
theorem cW.of {w w' : WS} {l : List Row} {gm gf : Int → Int} (h : cW w l gm gf) (f4 : w'.1 4 = w.1 4) (f5 : w'.1 5 = w.1 5) (e : ∀ t, t = 1 ∨ t = 2 ∨ t = 3 ∨ t = 5 → w'.2 t = w.2 t) : cW w' l gm gf :=
  ⟨h.1.of (e 1 (Or.inl rfl)), h.2.1.of f4 (e 2 (Or.inr (Or.inl rfl))) (fun k c _ _ => by unfold wG; rw [e 5 (Or.inr (Or.inr (Or.inr rfl)))]), h.2.2.of f5 (e 3 (Or.inr (Or.inr (Or.inl rfl)))) (fun k c _ => by unfold wG; rw [e 5 (Or.inr (Or.inr (Or.inr rfl)))])⟩
theorem cW.send {w : WS} {l : List Row} {gm gf : Int → Int} {i : Nat} {r : Row} {kd : Int} (h : cW w l gm gf) (hi : l[i]? = some r) (hg : gR r) (h7 : 0 ≤ gm 7 ∧ gm 7 < 1000000) (hk : 0 ≤ kd ∧ kd < 4) : cW (wSend w kd i) l (sn1 gm kd r) gf := by
  have hr := h.1.2 i r hi
  have e0 := hr.1 0 (by decide) (by decide)
  exact ⟨h.1.of (send_t (k := kd) (i := (i : Int))).1, h.2.1.send hr h7 hk hg.1, h.2.2.of rfl rfl (fun k c hc => send_5 (by rw [e0]; exact hg.1) hk hc)⟩
theorem cW.put {w : WS} {l : List Row} {gm gf : Int → Int} {i : Nat} {r : Row} {c v : Int} (h : cW w l gm gf) (hi : l[i]? = some r) (hc : 0 ≤ c ∧ c < 7) : cW (wP w 1 i c v) (l.set i (up1 r c (if c = 6 then v + 1 else v))) gm gf :=
  ⟨h.1.put hi hc, h.2.1.of rfl rfl (fun _ _ _ _ => rfl), h.2.2.of rfl rfl (fun _ _ _ => rfl)⟩
theorem cW.fin {w : WS} {l : List Row} {gm gf : Int → Int} {i : Nat} {r : Row} (h : cW w l gm gf) (hi : l[i]? = some r) (hg : gR r) (hb : bd6 gf) : cW (wFin w i) (l.eraseIdx i) gm (fn1 gf r) := by
  have hr := h.1.2 i r hi
  have e0 := hr.1 0 (by decide) (by decide)
  have e0' : 0 ≤ wG w 1 i 0 ∧ wG w 1 i 0 < 6 := by rw [e0]; exact hg.1
  refine ⟨?_, h.2.1.of rfl rfl (fun k c c0 c1 => ?_), h.2.2.fin hr hb hg.1⟩
  · have hl := lt_some hi
    unfold wFin
    dsimp only
    refine lsW.erase (lsW.of h.1 ?_) hl
    rfl
  · rw [fin_g]
    unfold fin5
    rw [p5_at e0' (by decide), if_neg (fun z => by omega), a5_at e0' (by decide), if_neg (fun z => by omega), a5_at e0' (by decide), if_neg (fun z => by omega), a5_at e0' (by decide), if_neg (fun z => by omega)]
/-- taken back -/
def tkG (g : Int → Int) (r : Row) : Int → Int := if 0 < r 6 then sn1 g 3 r else g
theorem cW.take {w : WS} {l : List Row} {gm gf : Int → Int} {i : Nat} {r : Row} (h : cW w l gm gf) (hi : l[i]? = some r) (hg : gR r) (h7 : 0 ≤ gm 7 ∧ gm 7 < 1000000) : cW (wTake w i) (l.set i (up1 r 6 0)) (tkG gm r) gf := by
  have hr := h.1.2 i r hi
  have e6 := hr.2
  have h6 := hg.2.2.1
  unfold wTake tkG
  by_cases c : 0 < r 6
  · rw [if_pos (show wG w 1 i 6 ≠ -1 by omega), if_pos c]
    exact (h.send hi hg h7 (by decide)).put (c := 6) (v := -1) hi (by decide)
  · rw [if_neg (show ¬ wG w 1 i 6 ≠ -1 by omega), if_neg c, up1_self (show r 6 = 0 by omega), set_same hi]
    exact h
theorem cW.ann {w : WS} {l : List Row} {gm gf : Int → Int} {i : Nat} {r : Row} {kd : Int} (h : cW w l gm gf) (hi : l[i]? = some r) (hg : gR r) (h7 : 0 ≤ gm 7 ∧ gm 7 < 1000000) (hk : 0 ≤ kd ∧ kd < 4) : cW (wAnn w kd i) (l.set i (up1 r 6 (kd + 1))) (sn1 gm kd r) gf :=
  (h.send hi hg h7 hk).put (c := 6) (v := kd) hi (by decide)
theorem tkG_7 {g : Int → Int} {r : Row} (hg : gR r) (h7 : 0 ≤ g 7 ∧ g 7 < 1000000) : g 7 ≤ tkG g r 7 ∧ tkG g r 7 ≤ g 7 + 1 := by
  unfold tkG
  split
  · rw [sn1_7 h7 (by decide) hg.1]; omega
  · omega
/-! ripe, over, due, turns: of a row -/
def stW (w : WS) (ga la : Int) : Prop := (w.1 0 = ga ∧ w.1 1 = la) ∧ (0 ≤ ga ∧ ga ≤ 99) ∧ 0 ≤ la ∧ la ≤ 99
theorem rip_w {w : WS} {i : Int} {r : Row} {ga la q : Int} (hr : rwW w i r) (hg : gR r) (hs : stW w ga la) : wRipe w i q ↔ r 2 + ga < q := by
  obtain ⟨-, ⟨a1, a2, a3⟩, -⟩ := hg
  obtain ⟨⟨s1, s2⟩, s3, s4⟩ := hs
  show wI (wG w 1 i 2 + w.1 0) < q ↔ _
  rw [hr.1 2 (by decide) (by decide), s1, wI_id (z := r 2 + ga) ⟨by omega, by omega⟩]
theorem ov_w {w : WS} {i : Int} {r : Row} {ga la q : Int} (hr : rwW w i r) (hg : gR r) (hs : stW w ga la) : wOver w i q ↔ r 2 + ga + la < q := by
  obtain ⟨-, ⟨a1, a2, a3⟩, -⟩ := hg
  obtain ⟨⟨s1, s2⟩, s3, s4⟩ := hs
  show wI (wI (wG w 1 i 2 + w.1 0) + w.1 1) < q ↔ _
  rw [hr.1 2 (by decide) (by decide), s1, s2, wI_id (z := r 2 + ga) ⟨by omega, by omega⟩, wI_id (z := r 2 + ga + la) ⟨by omega, by omega⟩]
theorem tu_w {w : WS} {i : Int} {r : Row} (hr : rwW w i r) (hg : gR r) : wTurn w i = tuR r := by
  obtain ⟨a0, ⟨a1, a2, a3⟩, -⟩ := hg
  show wI (wI (wG w 1 i 2 * 6) + wG w 1 i 0) = _
  rw [hr.1 2 (by decide) (by decide), hr.1 0 (by decide) (by decide), wI_id (z := r 2 * 6) ⟨by omega, by omega⟩, wI_id (z := r 2 * 6 + r 0) ⟨by omega, by omega⟩]
  rfl
theorem due_w {w : WS} {i : Int} {r : Row} {ga la be p pa : Int} (hr : rwW w i r) (hg : gR r) (hs : stW w ga la) (h3 : w.1 3 = p) : wDueC w pa be i ↔ dueB ga la be p r = true ∧ pa < tuR r := by
  have e1 := rip_w (q := w.1 3) hr hg hs
  have e2 := rip_w (q := be) hr hg hs
  have e3 := ov_w (q := w.1 3) hr hg hs
  have e4 := tu_w hr hg
  rw [h3] at e1 e3
  show (wRipe w i (w.1 3) ∧ ¬ (wRipe w i be ∧ ¬ wOver w i (w.1 3)) ∧ pa < wTurn w i) ↔ _
  rw [h3, e1, e2, e3, e4]
  unfold dueB
  rw [decide_eq_true_iff, and_assoc]
/-- the best so far of those whose turn is behind T -/
def bst (P : Row → Bool) (T : Int) (l l1 : List Row) (f : Int) : Prop := (f = -1 ∧ ∀ x, x ∈ l1 → P x = true → tuR x ≤ T) ∨ ∃ (i : Nat) (r : Row), f = (i : Int) ∧ l[i]? = some r ∧ r ∈ l1 ∧ P r = true ∧ T < tuR r ∧ ∀ x, x ∈ l1 → P x = true → T < tuR x → tuR r ≤ tuR x
theorem bst.yes {P : Row → Bool} {T : Int} {l l1 : List Row} {f : Int} {x : Row} (h : bst P T l l1 f) (hx : l[l1.length]? = some x) (hP : P x = true) (hT : T < tuR x) (hm : ∀ (i : Nat) (r : Row), f = (i : Int) → l[i]? = some r → r ∈ l1 → tuR x ≤ tuR r) : bst P T l (l1 ++ [x]) (l1.length : Int) := by
  refine Or.inr ⟨l1.length, x, rfl, hx, List.mem_append_right _ (List.mem_singleton.mpr rfl), hP, hT, fun y hy hPy hTy => ?_⟩
  rcases List.mem_append.mp hy with m | m
  · rcases h with ⟨-, h⟩ | ⟨i, r, e, hi, hm1, -, -, h⟩
    · have := h y m hPy
      omega
    · have a := h y m hPy hTy
      have b := hm i r e hi hm1
      omega
  · rw [List.mem_singleton.mp m]
    exact Int.le_refl _
theorem bst.no {P : Row → Bool} {T : Int} {l l1 : List Row} {f : Int} {x : Row} (h : bst P T l l1 f) (hn : P x = true → T < tuR x → 0 ≤ f ∧ ∀ (i : Nat) (r : Row), f = (i : Int) → l[i]? = some r → r ∈ l1 → tuR r ≤ tuR x) : bst P T l (l1 ++ [x]) f := by
  rcases h with ⟨e, h⟩ | ⟨i, r, e, hi, hm, hP, hT, h⟩
  · refine Or.inl ⟨e, fun y hy hPy => ?_⟩
    rcases List.mem_append.mp hy with m | m
    · exact h y m hPy
    · rw [List.mem_singleton.mp m] at hPy ⊢
      by_cases c : T < tuR x
      · have := (hn hPy c).1
        omega
      · omega
  · refine Or.inr ⟨i, r, e, hi, List.mem_append_left _ hm, hP, hT, fun y hy hPy hTy => ?_⟩
    rcases List.mem_append.mp hy with m | m
    · exact h y m hPy hTy
    · rw [List.mem_singleton.mp m] at hPy hTy ⊢
      exact (hn hPy hTy).2 i r e hi hm
theorem at_len {l1 l2 : List Row} {x : Row} : (l1 ++ x :: l2)[l1.length]? = some x := by
  rw [List.getElem?_append_right (Nat.le_refl _), Nat.sub_self]
  rfl
theorem len_1 {l1 : List Row} {x : Row} : ((l1 ++ [x]).length : Int) = (l1.length : Int) + 1 := by
  rw [List.length_append]
  rfl
theorem dbL_s {w : WS} {l : List Row} {ga la be p pa : Int} (h : lsW w l) (hg : gdL ga l) (hs : stW w ga la) (h3 : w.1 3 = p) : ∀ (l2 l1 : List Row) (f le : Int), l = l1 ++ l2 → bst (dueB ga la be p) pa l l1 f → (0 ≤ f → le = wTurn w f) → bst (dueB ga la be p) pa l l (dbL w pa be l2.length (l1.length : Int) f le)
  | [], l1, f, le, e, hb, _ => by
    rw [List.append_nil] at e
    subst e
    exact hb
  | x :: l2, l1, f, le, e, hb, hle => by
    have hx : l[l1.length]? = some x := by rw [e]; exact at_len
    have hgx := hg.1 x (mem_at hx)
    have hrx := h.2 l1.length x hx
    have hd := due_w (pa := pa) (be := be) hrx hgx hs h3
    have ht := tu_w hrx hgx
    have e2 : l = (l1 ++ [x]) ++ l2 := by rw [e, List.append_assoc]; rfl
    show bst (dueB ga la be p) pa l l (if wDueC w pa be (l1.length : Int) ∧ (f < 0 ∨ wTurn w (l1.length : Int) < le) then dbL w pa be l2.length ((l1.length : Int) + 1) (l1.length : Int) (wTurn w (l1.length : Int)) else dbL w pa be l2.length ((l1.length : Int) + 1) f le)
    rw [← len_1 (x := x)]
    by_cases c : wDueC w pa be (l1.length : Int) ∧ (f < 0 ∨ wTurn w (l1.length : Int) < le)
    · rw [if_pos c]
      obtain ⟨d1, d2⟩ := hd.mp c.1
      refine dbL_s h hg hs h3 l2 (l1 ++ [x]) _ _ e2 (hb.yes hx d1 d2 (fun i r ei hi _ => ?_)) (fun _ => rfl)
      have hr := tu_w (h.2 i r hi) (hg.1 r (mem_at hi))
      have c2 := c.2
      have := hle (by omega)
      rw [ei, hr] at this
      rw [ht] at c2
      omega
    · rw [if_neg c]
      refine dbL_s h hg hs h3 l2 (l1 ++ [x]) f le e2 (hb.no (fun d1 d2 => ?_)) hle
      have c2 : ¬ (f < 0 ∨ wTurn w (l1.length : Int) < le) := fun z => c ⟨hd.mpr ⟨d1, d2⟩, z⟩
      refine ⟨by omega, fun i r ei hi _ => ?_⟩
      have hr := tu_w (h.2 i r hi) (hg.1 r (mem_at hi))
      have := hle (by omega)
      rw [ei, hr] at this
      rw [ht] at c2
      omega
theorem due_s {w : WS} {l : List Row} {ga la be p pa : Int} (h : lsW w l) (hg : gdL ga l) (hs : stW w ga la) (h3 : w.1 3 = p) : bst (dueB ga la be p) pa l l (wDue w pa be) := by
  have := dbL_s (be := be) (pa := pa) h hg hs h3 l [] (-1) 0 rfl (Or.inl ⟨rfl, fun x hx => absurd hx List.not_mem_nil⟩) (fun z => absurd z (by decide))
  unfold wDue
  rw [show (wZ w 1).toNat = l.length by rw [h.1.1]; omega]
  exact this
