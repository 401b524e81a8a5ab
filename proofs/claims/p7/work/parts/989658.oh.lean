/-! ===== an event joins: the class ===== -/
def tcB (ga k t : Int) : Row → Bool := fun r => decide (r 0 = k ∧ r 1 - ga ≤ t ∧ t ≤ r 2 + ga)
def loB (ga k t : Int) (r : Row) : Prop := r 0 < k ∨ (r 0 = k ∧ r 2 + ga < t)
def hiB (ga k t : Int) (r : Row) : Prop := k < r 0 ∨ (r 0 = k ∧ t < r 1 - ga)
theorem lo_tc {ga k t : Int} {r : Row} (h : loB ga k t r) : ¬ tcB ga k t r = true := fun z => by
  have := of_decide_eq_true z
  unfold loB at h
  omega
theorem hi_tc {ga k t : Int} {r : Row} (h : hiB ga k t r) : ¬ tcB ga k t r = true := fun z => by
  have := of_decide_eq_true z
  unfold hiB at h
  omega
/-- before it, joined with it, behind it -/
def sp3 (ga k t : Int) (l A T C : List Row) : Prop := l = A ++ (T ++ C) ∧ (∀ x, x ∈ A → loB ga k t x) ∧ (∀ x, x ∈ T → tcB ga k t x = true) ∧ ∀ x, x ∈ C → hiB ga k t x
theorem sp3_ex {ga k t : Int} (g0 : 0 ≤ ga) : ∀ l : List Row, gdL ga l → ∃ A T C, sp3 ga k t l A T C
  | [], _ => ⟨[], [], [], rfl, fun x hx => absurd hx List.not_mem_nil, fun x hx => absurd hx List.not_mem_nil, fun x hx => absurd hx List.not_mem_nil⟩
  | a :: l, h => by
    obtain ⟨A, T, C, e, hA, hT, hC⟩ := sp3_ex (k := k) (t := t) g0 l h.tl
    obtain ⟨h1, h2⟩ := List.pairwise_cons.mp h.2
    have ga1 := (h.1 a List.mem_cons_self).2.1
    have hb : ∀ x, x ∈ l → bef ga a x ∧ x 1 ≤ x 2 := fun x hx => ⟨h1 x hx, (h.1 x (List.mem_cons_of_mem a hx)).2.1.2.1⟩
    by_cases c1 : loB ga k t a
    · refine ⟨a :: A, T, C, by rw [e]; rfl, fun x hx => ?_, hT, hC⟩
      rcases List.mem_cons.mp hx with q | q
      · rw [q]; exact c1
      · exact hA x q
    · have eA : A = [] := by
        cases A with
        | nil => rfl
        | cons y A =>
          exfalso
          have m : y ∈ l := by rw [e]; exact List.mem_append_left _ List.mem_cons_self
          have q := hA y List.mem_cons_self
          obtain ⟨q1, q2⟩ := hb y m
          unfold loB at q c1
          unfold bef at q1
          omega
      subst eA
      by_cases c2 : tcB ga k t a = true
      · refine ⟨[], a :: T, C, by rw [e]; rfl, fun x hx => absurd hx List.not_mem_nil, fun x hx => ?_, hC⟩
        rcases List.mem_cons.mp hx with q | q
        · rw [q]; exact c2
        · exact hT x q
      · have c3 : hiB ga k t a := by
          have : ¬ (a 0 = k ∧ a 1 - ga ≤ t ∧ t ≤ a 2 + ga) := fun z => c2 (decide_eq_true z)
          unfold loB at c1
          unfold hiB
          omega
        have eT : T = [] := by
          cases T with
          | nil => rfl
          | cons y T =>
            exfalso
            have m : y ∈ l := by rw [e]; exact List.mem_append_right _ (List.mem_append_left _ List.mem_cons_self)
            have q := of_decide_eq_true (hT y List.mem_cons_self)
            obtain ⟨q1, q2⟩ := hb y m
            unfold hiB at c3
            unfold bef at q1
            omega
        subst eT
        refine ⟨[], [], a :: C, by rw [e]; rfl, fun x hx => absurd hx List.not_mem_nil, fun x hx => absurd hx List.not_mem_nil, fun x hx => ?_⟩
        rcases List.mem_cons.mp hx with q | q
        · rw [q]; exact c3
        · exact hC x q
theorem tc_w {w : WS} {i : Int} {r : Row} {ga la k t : Int} (hr : rwW w i r) (hg : gR r) (hs : stW w ga la) : wTouch w i k t ↔ tcB ga k t r = true := by
  obtain ⟨-, ⟨a1, a2, a3⟩, -⟩ := hg
  obtain ⟨⟨s1, s2⟩, s3, s4⟩ := hs
  show (wG w 1 i 0 = k ∧ wI (wG w 1 i 1 - w.1 0) ≤ t ∧ t ≤ wI (wG w 1 i 2 + w.1 0)) ↔ _
  rw [hr.1 0 (by decide) (by decide), hr.1 1 (by decide) (by decide), hr.1 2 (by decide) (by decide), s1, wI_id (z := r 1 - ga) ⟨by omega, by omega⟩, wI_id (z := r 2 + ga) ⟨by omega, by omega⟩]
  unfold tcB
  rw [decide_eq_true_iff]
theorem app_c {l1 A : List Row} {a : Row} : (l1 ++ [a]) ++ A = l1 ++ (a :: A) := by
  rw [List.append_assoc]
  rfl
theorem ft_skip {w : WS} {l : List Row} {ga la k t : Int} (h : lsW w l) (hg : ∀ r, r ∈ l → gR r) (hs : stW w ga la) (m : Nat) : ∀ (A l1 R : List Row), l = l1 ++ (A ++ R) → (∀ x, x ∈ A → ¬ tcB ga k t x = true) → ftL w k t (A.length + m) (l1.length : Int) = ftL w k t m ((l1 ++ A).length : Int)
  | [], l1, R, _, _ => by
    rw [List.append_nil]
    show ftL w k t (0 + m) _ = _
    rw [Nat.zero_add]
  | a :: A, l1, R, e, hA => by
    have hx : l[l1.length]? = some a := by rw [e]; exact at_len
    have ht := tc_w (k := k) (t := t) (h.2 _ a hx) (hg a (mem_at hx)) hs
    rw [show (a :: A).length + m = (A.length + m) + 1 by rw [List.length_cons]; omega, ftL, if_neg (fun z => hA a List.mem_cons_self (ht.mp z)), ← len_1 (x := a), ft_skip h hg hs m A (l1 ++ [a]) R (by rw [e, app_c]; rfl) (fun x hx => hA x (List.mem_cons_of_mem a hx)), app_c]
theorem tf_run {w : WS} {l : List Row} {ga la k t : Int} (h : lsW w l) (hg : ∀ r, r ∈ l → gR r) (hs : stW w ga la) {C : List Row} (hC : ∀ x, x ∈ C → ¬ tcB ga k t x = true) : ∀ (T l1 : List Row), l = l1 ++ (T ++ C) → (∀ x, x ∈ T → tcB ga k t x = true) → tfL w k t (T.length + C.length) (l1.length : Int) = T.length
  | [], l1, e, _ => by
    cases C with
    | nil => rfl
    | cons c C =>
      have hx : l[l1.length]? = some c := by rw [e]; exact at_len
      have ht := tc_w (k := k) (t := t) (h.2 _ c hx) (hg c (mem_at hx)) hs
      rw [show ([] : List Row).length + (c :: C).length = C.length + 1 by rw [List.length_cons, List.length_nil]; omega, tfL, if_neg (fun z => hC c List.mem_cons_self (ht.mp z))]
      rfl
  | y :: T, l1, e, hT => by
    have hx : l[l1.length]? = some y := by rw [e]; exact at_len
    have ht := tc_w (k := k) (t := t) (h.2 _ y hx) (hg y (mem_at hx)) hs
    rw [show (y :: T).length + C.length = (T.length + C.length) + 1 by rw [List.length_cons]; omega, tfL, if_pos (ht.mpr (hT y List.mem_cons_self)), ← len_1 (x := y), tf_run h hg hs hC T (l1 ++ [y]) (by rw [e, app_c]; rfl) (fun x hx => hT x (List.mem_cons_of_mem y hx)), List.length_cons]
    omega
theorem pf_skip {w : WS} {l : List Row} {k t : Int} (h : lsW w l) (m : Nat) : ∀ (A l1 R : List Row), l = l1 ++ (A ++ R) → (∀ x : Row, x ∈ A → ¬ (k < x 0 ∨ (x 0 = k ∧ t < x 1))) → pfL w k t (A.length + m) (l1.length : Int) = pfL w k t m ((l1 ++ A).length : Int)
  | [], l1, R, _, _ => by
    rw [List.append_nil]
    show pfL w k t (0 + m) _ = _
    rw [Nat.zero_add]
  | a :: A, l1, R, e, hA => by
    have hx : l[l1.length]? = some a := by rw [e]; exact at_len
    have hr := h.2 _ a hx
    have ha := hA a List.mem_cons_self
    rw [← hr.1 0 (by decide) (by decide), ← hr.1 1 (by decide) (by decide)] at ha
    rw [show (a :: A).length + m = (A.length + m) + 1 by rw [List.length_cons]; omega, pfL, if_neg ha, ← len_1 (x := a), pf_skip h m A (l1 ++ [a]) R (by rw [e, app_c]; rfl) (fun x hx => hA x (List.mem_cons_of_mem a hx)), app_c]
theorem place_s {w : WS} {l A T C : List Row} {ga la k t : Int} (h : lsW w l) (hl : gdL ga l) (hs : stW w ga la) (sp : sp3 ga k t l A T C) : wPl w k t = A.length ∧ wMany w (wFirst w k t) k t = T.length := by
  obtain ⟨e, hA, hT, hC⟩ := sp
  have g0 := hs.2.1.1
  have ez : (wZ w 1).toNat = l.length := by rw [h.1.1]; omega
  have el : l.length = A.length + (T.length + C.length) := by rw [e, List.length_append, List.length_append]
  have f1 : wFirst w k t = ftL w k t (T.length + C.length) (A.length : Int) := by
    unfold wFirst
    rw [ez, el]
    exact ft_skip h hl.1 hs _ A [] (T ++ C) e (fun x hx => lo_tc (hA x hx))
  cases T with
  | nil =>
    have f2 : wFirst w k t = -1 := by
      rw [f1]
      have := ft_skip h hl.1 hs 0 C A [] (by rw [e, List.append_nil]; rfl) (fun x hx => hi_tc (hC x hx))
      rw [show ([] : List Row).length + C.length = C.length + 0 by rw [List.length_nil]; omega, this]
      rfl
    have pl : wPlace w k t = A.length := by
      unfold wPlace
      rw [ez, el]
      have := pf_skip (k := k) (t := t) h (([] : List Row).length + C.length) A [] ([] ++ C) e (fun x hx z => by
        have q := hA x hx
        have q2 := (hl.1 x (by rw [e]; exact List.mem_append_left _ hx)).2.1.2.1
        unfold loB at q
        omega)
      refine Eq.trans this ?_
      cases C with
      | nil => rfl
      | cons c C =>
        have hx : l[A.length]? = some c := by rw [e]; exact at_len
        have hr := h.2 _ c hx
        have q := hC c List.mem_cons_self
        have hc : k < wG w 1 (A.length : Int) 0 ∨ (wG w 1 (A.length : Int) 0 = k ∧ t < wG w 1 (A.length : Int) 1) := by
          rw [hr.1 0 (by decide) (by decide), hr.1 1 (by decide) (by decide)]
          unfold hiB at q
          omega
        rw [show ([] : List Row).length + (c :: C).length = C.length + 1 by rw [List.length_cons, List.length_nil]; omega]
        show pfL w k t (C.length + 1) (A.length : Int) = _
        rw [pfL, if_pos hc]
    refine ⟨?_, ?_⟩
    · unfold wPl
      rw [f2, if_neg (by decide)]
      exact pl
    · unfold wMany
      rw [f2, if_neg (by decide)]
      rfl
  | cons y T =>
    have f2 : wFirst w k t = A.length := by
      rw [f1]
      have hx : l[A.length]? = some y := by rw [e]; exact at_len
      have ht := tc_w (k := k) (t := t) (h.2 _ y hx) (hl.1 y (mem_at hx)) hs
      rw [show (y :: T).length + C.length = (T.length + C.length) + 1 by rw [List.length_cons]; omega, ftL, if_pos (ht.mpr (hT y List.mem_cons_self))]
    refine ⟨?_, ?_⟩
    · unfold wPl
      rw [f2, if_pos (by omega)]
    · unfold wMany
      rw [f2, if_pos (by omega), show (wZ w 1 - (A.length : Int)).toNat = (y :: T).length + C.length by rw [h.1.1]; omega]
      exact tf_run h hl.1 hs (fun x hx => hi_tc (hC x hx)) (y :: T) A e hT
/-! the row that joins -/
def frR (k t v : Int) : Row := up1 (up1 (up1 (up1 (up1 (up1 (up1 (fun c => if c = 6 then 1 else 0) 0 k) 1 t) 2 t) 3 1) 4 v) 5 v) 6 0
def mrR (x y : Row) : Row := up1 (up1 (up1 (up1 (up1 x 1 (min (x 1) (y 1))) 2 (max (x 2) (y 2))) 3 (wI (x 3 + y 3))) 4 (wI (x 4 + y 4))) 5 (max (x 5) (y 5))
theorem frR_c {k t v : Int} : frR k t v 0 = k ∧ frR k t v 1 = t ∧ frR k t v 2 = t ∧ frR k t v 3 = 1 ∧ frR k t v 4 = v ∧ frR k t v 5 = v ∧ frR k t v 6 = 0 := ⟨rfl, rfl, rfl, rfl, rfl, rfl, rfl⟩
theorem mrR_c {x y : Row} : mrR x y 0 = x 0 ∧ mrR x y 1 = min (x 1) (y 1) ∧ mrR x y 2 = max (x 2) (y 2) ∧ mrR x y 3 = wI (x 3 + y 3) ∧ mrR x y 4 = wI (x 4 + y 4) ∧ mrR x y 5 = max (x 5) (y 5) ∧ mrR x y 6 = x 6 := ⟨rfl, rfl, rfl, rfl, rfl, rfl, rfl⟩
theorem frR_g {k t v : Int} (hk : 0 ≤ k ∧ k < 6) (ht : 0 ≤ t ∧ t ≤ 9999) (hv : xB v) : gR (frR k t v) := by
  obtain ⟨e0, e1, e2, e3, e4, e5, e6⟩ := frR_c (k := k) (t := t) (v := v)
  unfold gR
  rw [e0, e1, e2, e3, e4, e5, e6]
  exact ⟨hk, ⟨by omega, by omega, by omega⟩, by decide, by decide, hv, hv⟩
theorem mrR_g {x y : Row} (hx : gR x) (hy : gR y) : gR (mrR x y) := by
  obtain ⟨e0, e1, e2, e3, e4, e5, e6⟩ := mrR_c (x := x) (y := y)
  obtain ⟨a0, ⟨a1, a2, a3⟩, a6, b3, b4, b5⟩ := hx
  obtain ⟨-, ⟨c1, c2, c3⟩, -, -, -, c5⟩ := hy
  unfold gR
  rw [e0, e1, e2, e3, e4, e5, e6]
  exact ⟨a0, ⟨by omega, by omega, by omega⟩, a6, wI_B _, wI_B _, max_B b5 c5⟩
theorem mrs_g : ∀ (T : List Row) (x : Row), gR x → (∀ y, y ∈ T → gR y) → gR (T.foldl mrR x)
  | [], _, h, _ => h
  | y :: T, x, h, hT => mrs_g T (mrR x y) (mrR_g h (hT y List.mem_cons_self)) (fun z hz => hT z (List.mem_cons_of_mem y hz))
theorem mrR_up {x y : Row} {v : Int} : mrR x (up1 y 6 v) = mrR x y := by
  obtain ⟨-, e1, e2, e3, e4, e5, -⟩ := up1_6 (r := y) (v := v)
  unfold mrR
  rw [e1, e2, e3, e4, e5]
theorem mrs_up : ∀ (T : List Row) (x : Row), (T.map (fun r => up1 r 6 0)).foldl mrR x = T.foldl mrR x
  | [], _ => rfl
  | y :: T, x => by
    show (T.map (fun r => up1 r 6 0)).foldl mrR (mrR x (up1 y 6 0)) = T.foldl mrR (mrR x y)
    rw [mrR_up]
    exact mrs_up T _
theorem mrs_0 : ∀ (T : List Row) (x : Row), T.foldl mrR x 0 = x 0 ∧ T.foldl mrR x 6 = x 6
  | [], _ => ⟨rfl, rfl⟩
  | y :: T, x => by
    obtain ⟨a, b⟩ := mrs_0 T (mrR x y)
    exact ⟨a.trans mrR_c.1, b.trans mrR_c.2.2.2.2.2.2⟩
/-! lists put anew in their middle -/
theorem set_len {x y : Row} {R : List Row} : ∀ A : List Row, (A ++ x :: R).set A.length y = A ++ y :: R
  | [] => rfl
  | a :: A => by
    show a :: ((A ++ x :: R).set A.length y) = a :: (A ++ y :: R)
    rw [set_len A]
theorem era_len {x : Row} {R : List Row} : ∀ A : List Row, (A ++ x :: R).eraseIdx A.length = A ++ R
  | [] => rfl
  | a :: A => by
    show a :: ((A ++ x :: R).eraseIdx A.length) = a :: (A ++ R)
    rw [era_len A]
theorem cW.pl {w : WS} {A R : List Row} {x : Row} {gm gf : Int → Int} {c v : Int} (h : cW w (A ++ x :: R) gm gf) (hc : 0 ≤ c ∧ c < 6) : cW (wP w 1 A.length c v) (A ++ up1 x c v :: R) gm gf := by
  have := h.put (i := A.length) (v := v) at_len (show 0 ≤ c ∧ c < 7 by omega)
  rw [if_neg (by omega), set_len] at this
  exact this
theorem cW.p6 {w : WS} {A R : List Row} {x : Row} {gm gf : Int → Int} {v : Int} (h : cW w (A ++ x :: R) gm gf) : cW (wP w 1 A.length 6 v) (A ++ up1 x 6 (v + 1) :: R) gm gf := by
  have := h.put (i := A.length) (c := 6) (v := v) at_len (by decide)
  rw [if_pos rfl, set_len] at this
  exact this
theorem cW.dr {w : WS} {l : List Row} {gm gf : Int → Int} {i : Nat} (h : cW w l gm gf) (hi : i < l.length) : cW (wDr w 1 i) (l.eraseIdx i) gm gf := ⟨h.1.erase hi, h.2.1.of rfl rfl (fun _ _ _ _ => rfl), h.2.2.of rfl rfl (fun _ _ _ => rfl)⟩
theorem cW.opn {w : WS} {A C : List Row} {gm gf : Int → Int} (h : cW w (A ++ C) gm gf) (hz : (A ++ C).length < 161) : cW (wOp w 1 A.length) (A ++ (fun c => if c = 6 then 1 else 0) :: C) gm gf := ⟨h.1.opn hz, h.2.1.of rfl rfl (fun _ _ _ _ => rfl), h.2.2.of rfl rfl (fun _ _ _ => rfl)⟩
theorem cW.swal {w : WS} {A R : List Row} {x y : Row} {gm gf : Int → Int} (h : cW w (A ++ x :: y :: R) gm gf) : cW (wSwallow w A.length) (A ++ mrR x y :: R) gm gf := by
  have hn := h.1.1.2
  have eL : (A ++ x :: y :: R).length = A.length + (R.length + 1 + 1) := by rw [List.length_append, List.length_cons, List.length_cons]
  have ej : wI ((A.length : Int) + 1) = (A.length : Int) + 1 := wI_id ⟨by omega, by omega⟩
  have gx : ∀ {w' : WS} {x' : Row}, cW w' (A ++ x' :: y :: R) gm gf → ∀ c, 0 ≤ c → c < 6 → wG w' 1 (A.length : Int) c = x' c := fun h' c c0 c1 => (h'.1.2 A.length _ at_len).1 c c0 c1
  have gy : ∀ {w' : WS} {x' : Row}, cW w' (A ++ x' :: y :: R) gm gf → ∀ c, 0 ≤ c → c < 6 → wG w' 1 ((A.length : Int) + 1) c = y c := fun {w' x'} h' c c0 c1 => by
    have e : A ++ x' :: y :: R = (A ++ [x']) ++ y :: R := by rw [List.append_assoc]; rfl
    have h2 := h'.1
    rw [e] at h2
    have := (h2.2 (A ++ [x']).length y at_len).1 c c0 c1
    rw [len_1] at this
    exact this
  unfold wSwallow
  dsimp only
  rw [ej, gx h 1 (by decide) (by decide), gy h 1 (by decide) (by decide)]
  have h1 := h.pl (c := 1) (v := min (x 1) (y 1)) (by decide)
  generalize wP w 1 (A.length : Int) 1 (min (x 1) (y 1)) = w1 at h1 ⊢
  rw [gx h1 2 (by decide) (by decide), gy h1 2 (by decide) (by decide), up1_ne (show (2 : Int) ≠ 1 by decide)]
  have h2 := h1.pl (c := 2) (v := max (x 2) (y 2)) (by decide)
  generalize wP w1 1 (A.length : Int) 2 (max (x 2) (y 2)) = w2 at h2 ⊢
  unfold wA
  rw [gx h2 3 (by decide) (by decide), gy h2 3 (by decide) (by decide), up1_ne (show (3 : Int) ≠ 2 by decide), up1_ne (show (3 : Int) ≠ 1 by decide)]
  have h3 := h2.pl (c := 3) (v := wI (x 3 + y 3)) (by decide)
  generalize wP w2 1 (A.length : Int) 3 (wI (x 3 + y 3)) = w3 at h3 ⊢
  rw [gx h3 4 (by decide) (by decide), gy h3 4 (by decide) (by decide), up1_ne (show (4 : Int) ≠ 3 by decide), up1_ne (show (4 : Int) ≠ 2 by decide), up1_ne (show (4 : Int) ≠ 1 by decide)]
  have h4 := h3.pl (c := 4) (v := wI (x 4 + y 4)) (by decide)
  generalize wP w3 1 (A.length : Int) 4 (wI (x 4 + y 4)) = w4 at h4 ⊢
  rw [gx h4 5 (by decide) (by decide), gy h4 5 (by decide) (by decide), up1_ne (show (5 : Int) ≠ 4 by decide), up1_ne (show (5 : Int) ≠ 3 by decide), up1_ne (show (5 : Int) ≠ 2 by decide), up1_ne (show (5 : Int) ≠ 1 by decide)]
  have h5 := h4.pl (c := 5) (v := max (x 5) (y 5)) (by decide)
  have e : A ++ up1 (up1 (up1 (up1 (up1 x 1 (min (x 1) (y 1))) 2 (max (x 2) (y 2))) 3 (wI (x 3 + y 3))) 4 (wI (x 4 + y 4))) 5 (max (x 5) (y 5)) :: y :: R = (A ++ [mrR x y]) ++ y :: R := by rw [List.append_assoc]; rfl
  rw [e] at h5
  have h6 := h5.dr (i := (A ++ [mrR x y]).length) (by rw [List.length_append (bs := y :: R), List.length_cons]; omega)
  rw [era_len, len_1, List.append_assoc] at h6
  exact h6
theorem cW.sws {C A : List Row} {gm gf : Int → Int} : ∀ (T : List Row) (x : Row) (w : WS), cW w (A ++ x :: (T ++ C)) gm gf → cW (swL (A.length : Int) T.length w) (A ++ T.foldl mrR x :: C) gm gf
  | [], x, w, h => h
  | y :: T, x, w, h => cW.sws T (mrR x y) _ (cW.swal h)
theorem cW.tks {C : List Row} {gf : Int → Int} : ∀ (T A : List Row) (b : Int) (w : WS) (gm : Int → Int), cW w (A ++ (T ++ C)) gm gf → (∀ r, r ∈ T → gR r) → b7 b gm → b + T.length < 1000000 → cW (takeL T.length (A.length : Int) w) (A ++ (T.map (fun r => up1 r 6 0) ++ C)) (T.foldl tkG gm) gf ∧ b7 (b + T.length) (T.foldl tkG gm)
  | [], A, b, w, gm, h, _, h7, hb => ⟨h, ⟨h7.1, by have := h7.2; show gm 7 ≤ b + ((0 : Nat) : Int); omega⟩⟩
  | r :: T, A, b, w, gm, h, hg, h7, hb => by
    rw [List.length_cons] at hb ⊢
    have gr := hg r List.mem_cons_self
    have t := h.take (i := A.length) at_len gr ⟨h7.1, by have := h7.2; omega⟩
    have t2 : cW (wTake w (A.length : Int)) ((A ++ [up1 r 6 0]) ++ (T ++ C)) (tkG gm r) gf := by
      rw [app_c]
      have := set_len (x := r) (y := up1 r 6 0) (R := T ++ C) A
      rw [← this]
      exact t
    obtain ⟨a, a7⟩ := cW.tks T (A ++ [up1 r 6 0]) (b + 1) _ _ t2 (fun x hx => hg x (List.mem_cons_of_mem r hx)) (h7.tk (by omega) gr) (by omega)
    rw [len_1, app_c] at a
    exact ⟨a, ⟨a7.1, by have := a7.2; exact Int.le_trans this (by omega)⟩⟩
theorem f9_take : ∀ (n : Nat) (i : Int) (w : WS), (takeL n i w).1 9 = w.1 9
  | 0, _, _ => rfl
  | n + 1, i, w => (f9_take n (i + 1) (wTake w i)).trans (by
    unfold wTake
    split <;> rfl)
theorem f9_swL (p : Int) : ∀ (n : Nat) (w : WS), (swL p n w).1 9 = w.1 9
  | 0, _ => rfl
  | n + 1, w => (f9_swL p n (wSwallow w p)).trans rfl
def kdR (ga p e : Int) (r : Row) : Int := if r 2 + ga < p then 2 else if 0 < e ∧ Int.tmod (r 3) e = 0 then 0 else -1
def anR (kd : Int) (r : Row) : Row := if 0 ≤ kd then up1 r 6 (kd + 1) else r
def anG (kd : Int) (r : Row) (g : Int → Int) : Int → Int := if 0 ≤ kd then sn1 g kd r else g
theorem kdR_b (ga p e : Int) (r : Row) : kdR ga p e r = 2 ∨ kdR ga p e r = 0 ∨ kdR ga p e r = -1 := by
  unfold kdR
  split
  · exact Or.inl rfl
  · split
    · exact Or.inr (Or.inl rfl)
    · exact Or.inr (Or.inr rfl)
theorem melt_s {w : WS} {l A T C : List Row} {gm gf : Int → Int} {ga la p e b k t v : Int} (h : cW w l gm gf) (hl : gdL ga l) (hs : stW w ga la) (h3 : w.1 3 = p) (h2 : w.1 2 = e) (hk : 0 ≤ k ∧ k < 6) (ht : 0 ≤ t ∧ t ≤ 9999) (hv : xB v) (sp : sp3 ga k t l A T C) (hn : l.length < 161) (h7 : b7 b gm) (hb : b + T.length + 2 < 1000000) : cW (wMelt w k t v) (A ++ anR (kdR ga p e (T.foldl mrR (frR k t v))) (T.foldl mrR (frR k t v)) :: C) (anG (kdR ga p e (T.foldl mrR (frR k t v))) (T.foldl mrR (frR k t v)) (T.foldl tkG gm)) gf ∧ (wMelt w k t v).1 9 = wI (w.1 9 + (if 1 < (T.length : Int) then 1 else 0)) := by
  obtain ⟨ep, em⟩ := place_s h.1 hl hs sp
  have F := wF4_Melt (w := w) (k := k) (t := t) (v := v)
  obtain ⟨e0, hA, hT, hC⟩ := sp
  have hTg : ∀ r, r ∈ T → gR r := fun r hr => hl.1 r (by rw [e0]; exact List.mem_append_right _ (List.mem_append_left _ hr))
  have h' : cW w (A ++ (T ++ C)) gm gf := by rw [← e0]; exact h
  obtain ⟨t1, t7⟩ := cW.tks T A b w gm h' hTg h7 (by omega)
  have F1 := wF4_takeL T.length (A.length : Int) w
  have q9 := f9_take T.length (A.length : Int) w
  unfold wMelt at F ⊢
  rw [ep, em] at F ⊢
  rw [show ((T.length : Int)).toNat = T.length by omega] at F ⊢
  generalize takeL T.length (A.length : Int) w = w1 at t1 F1 q9 F ⊢
  have el : (A ++ (T.map (fun r => up1 r 6 0) ++ C)).length = l.length := by rw [e0, List.length_append, List.length_append, List.length_append, List.length_append, List.length_map]
  have ez : wZ w1 1 = l.length := by rw [t1.1.1.1, el]
  have eA : A.length ≤ l.length := by rw [e0, List.length_append]; omega
  have cond : 0 ≤ (A.length : Int) ∧ (A.length : Int) ≤ wZ w1 1 ∧ wZ w1 1 < 161 := ⟨by omega, by omega, by omega⟩
  unfold wMelt2 at F ⊢
  rw [if_pos cond] at F ⊢
  rw [show ((T.length : Int)).toNat = T.length by omega] at F ⊢
  have o1 := t1.opn (by rw [el]; exact hn)
  have o2 : cW (wRow w1 (A.length : Int) k t v) (A ++ frR k t v :: (T.map (fun r => up1 r 6 0) ++ C)) (T.foldl tkG gm) gf := by
    unfold wRow frR
    exact ((((((o1.pl (c := 0) (v := k) (by decide)).pl (c := 1) (v := t) (by decide)).pl (c := 2) (v := t) (by decide)).pl (c := 3) (v := 1) (by decide)).pl (c := 4) (v := v) (by decide)).pl (c := 5) (v := v) (by decide)).p6 (v := -1)
  have o3 := cW.sws (T.map (fun r => up1 r 6 0)) (frR k t v) _ o2
  rw [List.length_map, mrs_up] at o3
  have F2 := F1.trans ((wF4_Row (w := w1) (p := (A.length : Int)) (k := k) (t := t) (v := v)).trans (wF4_swL (A.length : Int) T.length _))
  have r9 : (swL (A.length : Int) T.length (wRow w1 (A.length : Int) k t v)).1 9 = w.1 9 := (f9_swL _ _ _).trans (Eq.trans rfl q9)
  generalize swL (A.length : Int) T.length (wRow w1 (A.length : Int) k t v) = w2 at o3 F2 r9 F ⊢
  have hR : gR (T.foldl mrR (frR k t v)) := mrs_g T _ (frR_g hk ht hv) hTg
  generalize T.foldl mrR (frR k t v) = R at o3 hR ⊢
  generalize T.foldl tkG gm = g1 at o3 t7 ⊢
  unfold wMeltE
  dsimp only
  have o4 : cW (wFd w2 9 (wI (w2.1 9 + (if 1 < (T.length : Int) then 1 else 0)))) (A ++ R :: C) g1 gf := o3.of rfl rfl (fun _ _ => rfl)
  have s4 : stW (wFd w2 9 (wI (w2.1 9 + (if 1 < (T.length : Int) then 1 else 0)))) ga la := ⟨⟨(F2.1 0 (by decide) (by decide) (by decide)).trans hs.1.1, (F2.1 1 (by decide) (by decide) (by decide)).trans hs.1.2⟩, hs.2⟩
  have s43 : (wFd w2 9 (wI (w2.1 9 + (if 1 < (T.length : Int) then 1 else 0)))).1 3 = p := (F2.1 3 (by decide) (by decide) (by decide)).trans h3
  have s42 : (wFd w2 9 (wI (w2.1 9 + (if 1 < (T.length : Int) then 1 else 0)))).1 2 = e := (F2.1 2 (by decide) (by decide) (by decide)).trans h2
  have s49 : (wFd w2 9 (wI (w2.1 9 + (if 1 < (T.length : Int) then 1 else 0)))).1 9 = wI (w.1 9 + (if 1 < (T.length : Int) then 1 else 0)) := by rw [← r9]; rfl
  generalize wFd w2 9 (wI (w2.1 9 + (if 1 < (T.length : Int) then 1 else 0))) = w3 at o4 s4 s43 s42 s49 ⊢
  have rr := o4.1.2 A.length R at_len
  have ek : wKind w3 (A.length : Int) = kdR ga p e R := by
    have e1 := rip_w (q := w3.1 3) rr hR s4
    unfold wKind kdR
    rw [s43] at e1 ⊢
    rw [s42, rr.1 3 (by decide) (by decide)]
    by_cases c : R 2 + ga < p
    · rw [if_pos c, if_pos (e1.mpr c)]
    · rw [if_neg c, if_neg (fun z => c (e1.mp z))]
  rw [ek]
  have hkd := kdR_b ga p e R
  unfold anR anG
  by_cases c : 0 ≤ kdR ga p e R
  · rw [if_pos c, if_pos c, if_pos c]
    have := o4.ann (i := A.length) (kd := kdR ga p e R) at_len hR ⟨t7.1, by have := t7.2; omega⟩ (by omega)
    rw [set_len] at this
    refine ⟨this, ?_⟩
    rw [← s49]
    rfl
  · rw [if_neg c, if_neg c, if_neg c]
    exact ⟨o4, s49⟩
