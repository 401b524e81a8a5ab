/-! ===== an event joins: the model ===== -/
theorem wI_a2 (a b : Int) : wI (wI a + b) = wI (a + b) := by
  show (iI ((iI a).toInt + b)).toInt = (iI (a + b)).toInt
  rw [← iI_add (iI a).toInt b, iI_of, iI_add]
theorem mrR_o {x y : Row} {c : Int} (h : c ≠ 1 ∧ c ≠ 2 ∧ c ≠ 3 ∧ c ≠ 4 ∧ c ≠ 5) : mrR x y c = x c := by
  obtain ⟨h1, h2, h3, h4, h5⟩ := h
  unfold mrR
  rw [up1_ne h5, up1_ne h4, up1_ne h3, up1_ne h2, up1_ne h1]
theorem mrR_sw (x y z : Row) : mrR (mrR x y) z = mrR (mrR x z) y := by
  obtain ⟨a0, a1, a2, a3, a4, a5, a6⟩ := mrR_c (x := mrR x y) (y := z)
  obtain ⟨b0, b1, b2, b3, b4, b5, b6⟩ := mrR_c (x := mrR x z) (y := y)
  obtain ⟨c0, c1, c2, c3, c4, c5, c6⟩ := mrR_c (x := x) (y := y)
  obtain ⟨d0, d1, d2, d3, d4, d5, d6⟩ := mrR_c (x := x) (y := z)
  funext c
  by_cases h1 : c = 1
  · subst h1; rw [a1, b1, c1, d1]; omega
  by_cases h2 : c = 2
  · subst h2; rw [a2, b2, c2, d2]; omega
  by_cases h3 : c = 3
  · subst h3; rw [a3, b3, c3, d3, wI_a2, wI_a2, show x 3 + y 3 + z 3 = x 3 + z 3 + y 3 by omega]
  by_cases h4 : c = 4
  · subst h4; rw [a4, b4, c4, d4, wI_a2, wI_a2, show x 4 + y 4 + z 4 = x 4 + z 4 + y 4 by omega]
  by_cases h5 : c = 5
  · subst h5; rw [a5, b5, c5, d5]; omega
  · rw [mrR_o ⟨h1, h2, h3, h4, h5⟩, mrR_o ⟨h1, h2, h3, h4, h5⟩, mrR_o ⟨h1, h2, h3, h4, h5⟩, mrR_o ⟨h1, h2, h3, h4, h5⟩]
theorem mrs_sw : ∀ (T : List Row) (x y : Row), T.foldl mrR (mrR x y) = mrR (T.foldl mrR x) y
  | [], _, _ => rfl
  | z :: T, x, y => by
    show T.foldl mrR (mrR (mrR x y) z) = mrR (T.foldl mrR (mrR x z)) y
    rw [mrR_sw, mrs_sw T]
theorem mrs_rev : ∀ (T : List Row) (x : Row), T.reverse.foldl mrR x = T.foldl mrR x
  | [], _ => rfl
  | z :: T, x => by
    rw [List.reverse_cons, List.foldl_append, mrs_rev T]
    show mrR (T.foldl mrR x) z = T.foldl mrR (mrR x z)
    rw [mrs_sw]
theorem mrs_lt : ∀ (T : List Row) (x : Row) (z : Int), z < x 1 → (∀ y : Row, y ∈ T → z < y 1) → z < T.foldl mrR x 1
  | [], _, _, h, _ => h
  | y :: T, x, z, h, hT => mrs_lt T (mrR x y) z (by
    rw [mrR_c.2.1]
    have := hT y List.mem_cons_self
    omega) (fun q hq => hT q (List.mem_cons_of_mem y hq))
theorem mrs_le : ∀ (T : List Row) (x : Row), T.foldl mrR x 1 ≤ x 1
  | [], _ => Int.le_refl _
  | y :: T, x => by
    have := mrs_le T (mrR x y)
    rw [mrR_c.2.1] at this
    show T.foldl mrR (mrR x y) 1 ≤ x 1
    omega
theorem tc_m {d : Int} {s : MS} {l : List Row} {g : Int → Int} {ga la p k t : Int} {i : Nat} {r : Row} (hL : lsM d s l) (hB : sB d s g) (hi : l[i]? = some r) (hg : gR r) (hs : stG g ga la p) : mMelts s d i k t ↔ tcB ga k t r = true := by
  obtain ⟨-, ⟨a1, a2, a3⟩, -⟩ := hg
  obtain ⟨⟨s1, s2, s5⟩, s3, s4⟩ := hs
  show (mg s (d * 2804 + 364 + 7 * (i : Int) + 0) = k ∧ wI (mg s (d * 2804 + 364 + 7 * (i : Int) + 1) - mg s (d * 2804 + 1)) ≤ t ∧ t ≤ wI (mg s (d * 2804 + 364 + 7 * (i : Int) + 2) + mg s (d * 2804 + 1))) ↔ _
  rw [hL.at hi (c := 0) (by decide) (by decide), hL.at hi (c := 1) (by decide) (by decide), hL.at hi (c := 2) (by decide) (by decide), hB 1 (by decide) (by unfold zB; omega), s1, wI_id (z := r 1 - ga) ⟨by omega, by omega⟩, wI_id (z := r 2 + ga) ⟨by omega, by omega⟩]
  unfold tcB
  rw [decide_eq_true_iff]
def tkT (ga k t : Int) (x : Row) : Row := if tcB ga k t x = true then up1 x 6 0 else x
theorem tkT_tc {ga k t : Int} {x : Row} : tcB ga k t (tkT ga k t x) = tcB ga k t x := by
  unfold tkT
  split
  · unfold tcB
    rw [up1_6.1, up1_6.2.1, up1_6.2.2.1]
  · rfl
theorem tkT_g {ga k t : Int} {x : Row} (h : gR x) : gR (tkT ga k t x) := by
  unfold tkT
  split
  · exact h.up (by decide)
  · exact h
theorem jn1S {d ga la p k t : Int} {K : MS → Prop} (hd : 0 ≤ d) : ∀ (n : Nat) (l2 l1 : List Row) (b : Int) (s : MS) (g : Int → Int), jnP1 d k t K n (l1.length : Int) s → lsM d s (l1 ++ l2) → sB d s g → stG g ga la p → (∀ r, r ∈ l2 → gR r) → b7 b g → b + l2.length < 1000000 → 0 ≤ s.1 12 → s.1 12 + l2.length < 1000000 → jnP1 d k t (fun s' => K s' ∧ lsM d s' (l1 ++ l2.map (tkT ga k t)) ∧ sB d s' ((l2.filter (tcB ga k t)).foldl tkG g) ∧ s'.2 4 = s.2 4 ∧ s'.1 12 = s.1 12 + (l2.filter (tcB ga k t)).length) n (l1.length : Int) s := by
  intro n
  induction n with
  | zero =>
    intro l2 l1 b s g h hL hB hs hg h7 hb h12 h12'
    obtain ⟨q, hK⟩ := h
    rw [hL.1.1, List.length_append] at q
    have e : l2 = [] := List.eq_nil_of_length_eq_zero (by omega)
    subst e
    exact ⟨by rw [hL.1.1, List.length_append]; show ((l1.length + 0 : Nat) : Int) ≤ _; omega, hK, hL, hB, rfl, by show s.1 12 = s.1 12 + ((0 : Nat) : Int); omega⟩
  | succ n ih =>
    intro l2 l1 b s g h hL hB hs hg h7 hb h12 h12'
    cases l2 with
    | nil =>
      refine ⟨fun q => ⟨h.1 q, hL, hB, rfl, by show s.1 12 = s.1 12 + ((0 : Nat) : Int); omega⟩, fun q => ?_⟩
      rw [hL.1.1, List.append_nil] at q
      omega
    | cons x l2 =>
      have hx : (l1 ++ x :: l2)[l1.length]? = some x := at_len
      have hgx := hg x List.mem_cons_self
      have ht := tc_m (k := k) (t := t) hL hB hx hgx hs
      rw [List.length_cons] at hb h12'
      refine ⟨fun q => ?_, fun q => ⟨(h.2 q).1, fun z => ⟨((h.2 q).2.1 z).1, ?_⟩, fun z => ?_⟩⟩
      · rw [hL.1.1, List.length_append, List.length_cons] at q
        omega
      · have h2 := ((h.2 q).2.1 z).2
        have tc := ht.mp z
        obtain ⟨t1, t2, t3⟩ := tkM hL hB hd hx hgx h7.1
        have e12 : wI ((mTake s d (l1.length : Int)).1 12 + 1) = s.1 12 + 1 := by rw [t3, wI_id (z := s.1 12 + 1) ⟨by omega, by omega⟩]
        rw [e12, ← len_1 (x := up1 x 6 0)] at h2
        rw [e12, ← len_1 (x := up1 x 6 0)]
        rw [set_len, ← app_c] at t1
        have u := ih l2 (l1 ++ [up1 x 6 0]) (b + 1) (mS (mTake s d (l1.length : Int)) 12 (s.1 12 + 1)) (tkG g x) h2 (t1.cong rfl) (t2.cong rfl) (hs.of (fun c c0 c1 => tkG_ne h7.1 hgx (by omega))) (fun r hr => hg r (List.mem_cons_of_mem x hr)) (h7.tk (by omega) hgx) (by omega) (show 0 ≤ s.1 12 + 1 by omega) (show s.1 12 + 1 + (l2.length : Int) < 1000000 by omega)
        refine jnP1_mono (fun s' y => ?_) _ _ _ u
        obtain ⟨y1, y2, y3, y4, y5⟩ := y
        rw [List.filter_cons_of_pos tc, List.map_cons]
        have e4 : (mTake s d (l1.length : Int)).2 4 = s.2 4 := by
          unfold mTake
          split
          · unfold mSend mSend4
            exact ((((cF_P.trans (sdL_1 _ d (l1.length : Int) 5 0 _)).trans cF_I).trans cF_I).trans (cF_I.trans cF_P)).2 4 (by decide)
          · rfl
        refine ⟨y1, ?_, y3, y4.trans e4, ?_⟩
        · rw [app_c] at y2
          have : tkT ga k t x = up1 x 6 0 := if_pos tc
          rw [this]
          exact y2
        · rw [y5, List.length_cons]
          show s.1 12 + 1 + _ = _
          omega
      · have h2 := (h.2 q).2.2 z
        have tc : ¬ tcB ga k t x = true := fun y => z (ht.mpr y)
        rw [← len_1 (x := x)] at h2 ⊢
        rw [← app_c] at hL
        have u := ih l2 (l1 ++ [x]) b s g h2 hL hB hs (fun r hr => hg r (List.mem_cons_of_mem x hr)) h7 (by omega) h12 (by omega)
        refine jnP1_mono (fun s' y => ?_) _ _ _ u
        obtain ⟨y1, y2, y3, y4, y5⟩ := y
        rw [List.filter_cons_of_neg tc, List.map_cons]
        refine ⟨y1, ?_, y3, y4, y5⟩
        rw [app_c] at y2
        have : tkT ga k t x = x := if_neg tc
        rw [this]
        exact y2
/-- the fresh row -/
def frM (f : Nat → Int) (F : Row) : Prop := ∀ c : Nat, c < 7 → f c = F (c : Int)
theorem fresh_F (s : MS) (k t v : Int) : frM ((mFresh s k t v).2 4) (frR k t v) := by
  intro c hc
  match c, hc with
  | 0, _ => rfl
  | 1, _ => rfl
  | 2, _ => rfl
  | 3, _ => rfl
  | 4, _ => rfl
  | 5, _ => rfl
  | 6, _ => rfl
  | c + 7, hc => exact absurd hc (by omega)
theorem swal_F {d : Int} {s : MS} {l : List Row} {i : Nat} {x F : Row} (hL : lsM d s l) (hi : l[i]? = some x) (hF : frM (s.2 4) F) : frM ((mSwal s d i).2 4) (mrR F x) := by
  have q1 := hL.at hi (c := 1) (by decide) (by decide)
  have q2 := hL.at hi (c := 2) (by decide) (by decide)
  have q3 := hL.at hi (c := 3) (by decide) (by decide)
  have q4 := hL.at hi (c := 4) (by decide) (by decide)
  have q5 := hL.at hi (c := 5) (by decide) (by decide)
  have mgF : ∀ (u : MS) (k : Nat) (v z : Int), mg (mF u k v) z = mg u z := fun u k v z => mg_cong (mF_3 u k v) z
  obtain ⟨e0, e1, e2, e3, e4, e5, e6⟩ := mrR_c (x := F) (y := x)
  intro c hc
  unfold mSwal
  dsimp only
  simp only [mgF]
  match c, hc with
  | 0, _ =>
    rw [mF_n (by decide), mF_n (by decide), mF_n (by decide), mF_n (by decide), mF_n (by decide), hF 0 (by decide)]
    exact e0.symm
  | 1, _ =>
    rw [mF_n (by decide), mF_n (by decide), mF_n (by decide), mF_n (by decide), mF_e, hF 1 (by decide), q1]
    exact e1.symm
  | 2, _ =>
    rw [mF_n (by decide), mF_n (by decide), mF_n (by decide), mF_e, mF_n (by decide), hF 2 (by decide), q2]
    exact e2.symm
  | 3, _ =>
    rw [mF_n (by decide), mF_n (by decide), mF_e, mF_n (by decide), mF_n (by decide), hF 3 (by decide), q3]
    exact e3.symm
  | 4, _ =>
    rw [mF_n (by decide), mF_e, mF_n (by decide), mF_n (by decide), mF_n (by decide), hF 4 (by decide), q4]
    exact e4.symm
  | 5, _ =>
    rw [mF_e, mF_n (by decide), mF_n (by decide), mF_n (by decide), mF_n (by decide), hF 5 (by decide), q5]
    exact e5.symm
  | 6, _ =>
    rw [mF_n (by decide), mF_n (by decide), mF_n (by decide), mF_n (by decide), mF_n (by decide), hF 6 (by decide)]
    exact e6.symm
  | c + 7, hc => exact absurd hc (by omega)
theorem lst_last : ∀ l : List Row, l = [] ∨ ∃ L b, l = L ++ [b]
  | [] => Or.inl rfl
  | a :: l => by
    rcases lst_last l with e | ⟨L, b, e⟩
    · rw [e]; exact Or.inr ⟨[], a, rfl⟩
    · rw [e]; exact Or.inr ⟨a :: L, b, rfl⟩
theorem jn2S {d ga la p k t : Int} {K : MS → Prop} (hd : dOk d) : ∀ (n : Nat) (l1 C : List Row) (s : MS) (g : Int → Int) (F : Row), jnP2 d k t K n ((l1.length : Int) - 1) s → lsM d s (l1 ++ C) → sB d s g → stG g ga la p → frM (s.2 4) F → (∀ r, r ∈ l1 → gR r) → jnP2 d k t (fun s' => K s' ∧ lsM d s' (l1.filter (fun x => !tcB ga k t x) ++ C) ∧ sB d s' g ∧ frM (s'.2 4) ((l1.filter (tcB ga k t)).reverse.foldl mrR F) ∧ s'.1 12 = s.1 12) n ((l1.length : Int) - 1) s := by
  intro n
  induction n with
  | zero =>
    intro l1 C s g F h hL hB hs hF hg
    obtain ⟨q, hK⟩ := h
    have e : l1 = [] := List.eq_nil_of_length_eq_zero (by omega)
    subst e
    exact ⟨q, hK, hL, hB, hF, rfl⟩
  | succ n ih =>
    intro l1 C s g F h hL hB hs hF hg
    rcases lst_last l1 with e | ⟨L, x, e⟩
    · subst e
      refine ⟨fun q => ⟨h.1 q, hL, hB, hF, rfl⟩, fun q => ?_⟩
      have : (([] : List Row).length : Int) = 0 := rfl
      omega
    · subst e
      have el : ((L ++ [x]).length : Int) - 1 = L.length := by rw [len_1]; omega
      have e2 : (L ++ [x]) ++ C = L ++ x :: C := app_c
      rw [el] at h ⊢
      rw [e2] at hL
      have hx : (L ++ x :: C)[L.length]? = some x := at_len
      have hgx := hg x (List.mem_append_right _ (List.mem_singleton.mpr rfl))
      have hgL : ∀ r, r ∈ L → gR r := fun r hr => hg r (List.mem_append_left _ hr)
      have ht := tc_m (k := k) (t := t) hL hB hx hgx hs
      refine ⟨fun q => by omega, fun q => ⟨(h.2 q).1, fun z => ⟨((h.2 q).2.1 z).1, ?_⟩, fun z => ?_⟩⟩
      · have h2 := ((h.2 q).2.1 z).2
        have tc := ht.mp z
        have c3 := swal_3 s d (L.length : Int)
        obtain ⟨o1, o2⟩ := outM (i := L.length) (hL.cong c3) (hB.cong c3) hd (lt_some hx)
        rw [era_len] at o1
        have oc := out_c (s := mSwal s d (L.length : Int)) (d := d) (i := (L.length : Int))
        have f4 : frM ((mOut (mSwal s d (L.length : Int)) d (L.length : Int)).2 4) (mrR F x) := by
          rw [oc.2 4 (by decide)]
          exact swal_F hL hx hF
        have f1 : (mOut (mSwal s d (L.length : Int)) d (L.length : Int)).1 12 = s.1 12 := by
          rw [oc.1]
          rfl
        rw [show (L.length : Int) + -1 = (L.length : Int) - 1 by omega] at h2 ⊢
        have u := ih L C _ g (mrR F x) h2 o1 o2 hs f4 hgL
        refine jnP2_mono (fun s' y => ?_) _ _ _ u
        obtain ⟨y1, y2, y3, y4, y5⟩ := y
        rw [List.filter_append, List.filter_append, List.filter_cons_of_pos tc, List.filter_cons_of_neg (by rw [tc]; decide), List.filter_nil, List.filter_nil, List.append_nil, List.reverse_append]
        exact ⟨y1, y2, y3, y4, y5.trans f1⟩
      · have h2 := (h.2 q).2.2 z
        have tc : ¬ tcB ga k t x = true := fun y => z (ht.mpr y)
        have tcf : tcB ga k t x = false := Bool.eq_false_iff.mpr tc
        rw [show (L.length : Int) + -1 = (L.length : Int) - 1 by omega] at h2 ⊢
        have u := ih L (x :: C) s g F h2 hL hB hs hF hgL
        refine jnP2_mono (fun s' y => ?_) _ _ _ u
        obtain ⟨y1, y2, y3, y4, y5⟩ := y
        rw [List.filter_append, List.filter_append, List.filter_cons_of_neg tc, List.filter_cons_of_pos (by rw [tcf]; rfl), List.filter_nil, List.filter_nil, List.append_nil, app_c]
        exact ⟨y1, y2, y3, y4, y5⟩
/-! it comes in -/
def behR (F x : Row) : Prop := F 0 < x 0 ∨ (x 0 = F 0 ∧ F 1 < x 1)
def shM (d : Int) (s : MS) (l1 C : List Row) : Prop := (∀ (i : Nat) (r : Row), l1[i]? = some r → rwM d s i r) ∧ ∀ (i : Nat) (r : Row), C[i]? = some r → rwM d s ((l1.length : Int) + 1 + i) r
theorem beh_m {d : Int} {s : MS} {i : Int} {x F : Row} (hr : rwM d s i x) (hF : frM (s.2 4) F) : mBehind s d i ↔ behR F x := by
  show (s.2 4 0 < mg s (d * 2804 + 364 + 7 * i + 0) ∨ (mg s (d * 2804 + 364 + 7 * i + 0) = s.2 4 0 ∧ s.2 4 1 < mg s (d * 2804 + 364 + 7 * i + 1))) ↔ _
  rw [hr 0 (by decide) (by decide), hr 1 (by decide) (by decide), hF 0 (by decide), hF 1 (by decide)]
  exact Iff.rfl
theorem cm_s {d : Int} {F : Row} {A : List Row} (hd : 0 ≤ d) (hA : ∀ x, x ∈ A → ¬ behR F x) : ∀ (n : Nat) (C C2 : List Row) (s : MS), C.length = n → shM d s (A ++ C) C2 → frM (s.2 4) F → (A ++ C).length + 1 + C2.length ≤ 160 → (∀ x, x ∈ C → behR F x) → (cmL d (A ++ C).length s).1 = A.length ∧ shM d (cmL d (A ++ C).length s).2 A (C ++ C2) ∧ cF s (cmL d (A ++ C).length s).2 ∧ ∀ x, 0 ≤ x → (x < d * 2804 + 364 ∨ d * 2804 + 1484 ≤ x) → mg (cmL d (A ++ C).length s).2 x = mg s x := by
  intro n
  induction n with
  | zero =>
    intro C C2 s hn hS hF hl hC
    have e : C = [] := List.eq_nil_of_length_eq_zero hn
    subst e
    rw [List.append_nil] at hS hl ⊢
    have stop : cmL d A.length s = (A.length, s) := by
      rcases lst_last A with e | ⟨L, x, e⟩
      · subst e; rfl
      · subst e
        have nb := hA x (List.mem_append_right _ (List.mem_singleton.mpr rfl))
        have hx : (L ++ [x])[L.length]? = some x := at_len
        have hm := beh_m (hS.1 L.length x hx) hF
        rw [show (L ++ [x]).length = L.length + 1 by rw [List.length_append]; rfl, cmL, if_neg (fun z => nb (hm.mp z))]
    rw [stop]
    exact ⟨rfl, hS, cF.same, fun _ _ _ => rfl⟩
  | succ n ih =>
    intro C C2 s hn hS hF hl hC
    rcases lst_last C with e | ⟨L, x, e⟩
    · subst e
      exact absurd hn (fun z => by cases z)
    · subst e
      rw [← List.append_assoc] at hS hl ⊢
      have hln : (A ++ L ++ [x]).length = (A ++ L).length + 1 := by rw [List.length_append (as := A ++ L)]; rfl
      have hx : (A ++ L ++ [x])[(A ++ L).length]? = some x := at_len
      have bx := hC x (List.mem_append_right _ (List.mem_singleton.mpr rfl))
      have hrx := hS.1 _ x hx
      have hm := (beh_m hrx hF).mpr bx
      rw [hln, cmL, if_pos hm]
      rw [hln] at hl
      have cf := cpL_1 (d * 2804 + 364 + 7 * (((A ++ L).length : Int) + 1)) (d * 2804 + 364 + 7 * ((A ++ L).length : Int)) 7 0 s
      have fr : ∀ z, 0 ≤ z → (z < d * 2804 + 364 + 7 * (((A ++ L).length : Int) + 1) ∨ d * 2804 + 364 + 7 * (((A ++ L).length : Int) + 1) + 7 ≤ z) → mg (cpL (d * 2804 + 364 + 7 * (((A ++ L).length : Int) + 1)) (d * 2804 + 364 + 7 * ((A ++ L).length : Int)) 7 0 s) z = mg s z := fun z z0 hz => cpL_fr _ _ (by omega) 7 0 s z (by decide) z0 (by omega)
      have eq : ∀ q, 0 ≤ q → q < 7 → mg (cpL (d * 2804 + 364 + 7 * (((A ++ L).length : Int) + 1)) (d * 2804 + 364 + 7 * ((A ++ L).length : Int)) 7 0 s) (d * 2804 + 364 + 7 * (((A ++ L).length : Int) + 1) + q) = mg s (d * 2804 + 364 + 7 * ((A ++ L).length : Int) + q) := fun q q0 q1 => cpL_eq _ _ (by omega) (by omega) 7 0 s q (by decide) q0 (by omega) q1
      generalize cpL (d * 2804 + 364 + 7 * (((A ++ L).length : Int) + 1)) (d * 2804 + 364 + 7 * ((A ++ L).length : Int)) 7 0 s = s1 at cf fr eq ⊢
      have hS1 : shM d s1 (A ++ L) (x :: C2) := by
        refine ⟨fun i r hi => ?_, fun i r hi => ?_⟩
        · have hil := lt_some hi
          have hi2 : (A ++ L ++ [x])[i]? = some r := by rw [List.getElem?_append_left hil]; exact hi
          exact (hS.1 i r hi2).of (fun c c0 c1 => fr _ (by omega) (by omega))
        · cases i with
          | zero =>
            have : x = r := by simpa using hi
            subst this
            intro c c0 c1
            have := eq c c0 c1
            show mg s1 (d * 2804 + 364 + 7 * (((A ++ L).length : Int) + 1 + ((0 : Nat) : Int)) + c) = _
            rw [show ((A ++ L).length : Int) + 1 + ((0 : Nat) : Int) = ((A ++ L).length : Int) + 1 by omega, this]
            exact hrx c c0 c1
          | succ i =>
            have hi2 : C2[i]? = some r := by simpa using hi
            have hil := lt_some hi2
            have := hS.2 i r hi2
            rw [hln] at this
            refine this.of (fun c c0 c1 => ?_)
            rw [show ((A ++ L).length : Int) + 1 + ((i + 1 : Nat) : Int) = (((A ++ L).length + 1 : Nat) : Int) + 1 + (i : Int) by omega]
            exact fr _ (by omega) (by omega)
      have hln2 : (L ++ [x]).length = L.length + 1 := by rw [List.length_append]; rfl
      obtain ⟨r1, r2, r3, r4⟩ := ih L (x :: C2) s1 (by omega) hS1 (by
        intro c hc
        rw [cf.2 4 (by decide)]
        exact hF c hc) (by rw [List.length_cons]; omega) (fun y hy => hC y (List.mem_append_left _ hy))
      refine ⟨r1, ?_, cf.trans r3, fun z z0 hz => ?_⟩
      · rw [app_c]
        exact r2
      · rw [r4 z z0 hz]
        have := hl
        exact fr z z0 (by omega)
theorem inM {d : Int} {s : MS} {A C : List Row} {F : Row} {g : Int → Int} (hd : 0 ≤ d) (hL : lsM d s (A ++ C)) (hB : sB d s g) (hF : frM (s.2 4) F) (hn : (A ++ C).length ≤ 159) (hA : ∀ x, x ∈ A → ¬ behR F x) (hC : ∀ x, x ∈ C → behR F x) : (mIn s d).1 = A.length ∧ lsM d (mIn s d).2 (A ++ F :: C) ∧ sB d (mIn s d).2 g ∧ (mIn s d).2.2 4 = s.2 4 := by
  have e5 := hL.1.1
  obtain ⟨c1, c2, c3, c4⟩ := cm_s hd hA C.length C [] s rfl ⟨hL.2, fun i r hi => by simp at hi⟩ hF (by rw [List.length_nil]; omega) hC
  rw [List.append_nil] at c2
  show (cmL d (mg s (d * 2804 + 5)).toNat s).1 = A.length ∧ lsM d (mInc (fpL2 (d * 2804 + 364 + 7 * ((cmL d (mg s (d * 2804 + 5)).toNat s).1 : Int)) 7 0 (cmL d (mg s (d * 2804 + 5)).toNat s).2) (d * 2804 + 5) 1) (A ++ F :: C) ∧ sB d (mInc (fpL2 (d * 2804 + 364 + 7 * ((cmL d (mg s (d * 2804 + 5)).toNat s).1 : Int)) 7 0 (cmL d (mg s (d * 2804 + 5)).toNat s).2) (d * 2804 + 5) 1) g ∧ (mInc (fpL2 (d * 2804 + 364 + 7 * ((cmL d (mg s (d * 2804 + 5)).toNat s).1 : Int)) 7 0 (cmL d (mg s (d * 2804 + 5)).toNat s).2) (d * 2804 + 5) 1).2 4 = s.2 4
  rw [show (mg s (d * 2804 + 5)).toNat = (A ++ C).length by rw [e5]; omega]
  generalize cmL d (A ++ C).length s = pr at c1 c2 c3 c4 ⊢
  obtain ⟨i, u⟩ := pr
  have c1 : i = A.length := c1
  subst c1
  have c2 : shM d u A C := c2
  have c3 : cF s u := c3
  have c4 : ∀ x, 0 ≤ x → (x < d * 2804 + 364 ∨ d * 2804 + 1484 ≤ x) → mg u x = mg s x := c4
  have la : (A ++ C).length = A.length + C.length := List.length_append
  have lf : (A ++ F :: C).length = A.length + (C.length + 1) := by rw [List.length_append, List.length_cons]
  have f1 := fpL2_1 (d * 2804 + 364 + 7 * (A.length : Int)) 7 0 u
  have ff : ∀ z, 0 ≤ z → (z < d * 2804 + 364 + 7 * (A.length : Int) ∨ d * 2804 + 364 + 7 * (A.length : Int) + 7 ≤ z) → mg (fpL2 (d * 2804 + 364 + 7 * (A.length : Int)) 7 0 u) z = mg u z := fun z z0 hz => fpL2_fr _ (by omega) 7 0 u z (by decide) z0 (by omega)
  have fe : ∀ q, 0 ≤ q → q < 7 → mg (fpL2 (d * 2804 + 364 + 7 * (A.length : Int)) 7 0 u) (d * 2804 + 364 + 7 * (A.length : Int) + q) = u.2 4 q.toNat := fun q q0 q1 => fpL2_eq _ (by omega) 7 0 u q (by decide) q0 (by omega)
  show A.length = A.length ∧ lsM d (mInc (fpL2 (d * 2804 + 364 + 7 * (A.length : Int)) 7 0 u) (d * 2804 + 5) 1) (A ++ F :: C) ∧ sB d (mInc (fpL2 (d * 2804 + 364 + 7 * (A.length : Int)) 7 0 u) (d * 2804 + 5) 1) g ∧ (mInc (fpL2 (d * 2804 + 364 + 7 * (A.length : Int)) 7 0 u) (d * 2804 + 5) 1).2 4 = s.2 4
  generalize fpL2 (d * 2804 + 364 + 7 * (A.length : Int)) 7 0 u = u2 at f1 ff fe ⊢
  have ne5 : ∀ z, 0 ≤ z → z ≠ d * 2804 + 5 → mg (mInc u2 (d * 2804 + 5) 1) z = mg u2 z := fun z z0 hz => mInc_ne (by omega) z0 (fun e => hz e.symm)
  refine ⟨rfl, ⟨⟨?_, by omega⟩, fun j r hj => ?_⟩, fun c c0 hc => ?_, ?_⟩
  · rw [mInc_eq, ff _ (by omega) (by omega), c4 _ (by omega) (by omega), e5, wI_id ⟨by omega, by omega⟩, lf, la]
    omega
  · have hjl := lt_some hj
    rw [lf] at hjl
    have up : ∀ q, 0 ≤ q → q < 7 → mg (mInc u2 (d * 2804 + 5) 1) (d * 2804 + 364 + 7 * (j : Int) + q) = mg u2 (d * 2804 + 364 + 7 * (j : Int) + q) := fun q q0 q1 => ne5 _ (by omega) (by omega)
    by_cases q : j < A.length
    · have hj2 : A[j]? = some r := by rw [List.getElem?_append_left q] at hj; exact hj
      refine (c2.1 j r hj2).of (fun c c0 c1 => ?_)
      rw [up c c0 c1]
      exact ff _ (by omega) (by omega)
    · rw [List.getElem?_append_right (by omega)] at hj
      by_cases e : j = A.length
      · subst e
        rw [Nat.sub_self] at hj
        have : F = r := by simpa using hj
        subst this
        intro c c0 c1
        rw [up c c0 c1, fe c c0 c1, c3.2 4 (by decide), hF c.toNat (by omega), show ((c.toNat : Nat) : Int) = c by omega]
      · have ej : j - A.length = (j - 1 - A.length) + 1 := by omega
        rw [ej, List.getElem?_cons_succ] at hj
        refine (c2.2 _ r hj).of (fun c c0 c1 => ?_)
        rw [up c c0 c1, ff _ (by omega) (by omega), show (A.length : Int) + 1 + ((j - 1 - A.length : Nat) : Int) = (j : Int) by omega]
  · have hc' := hc
    unfold zB at hc'
    rw [ne5 _ (by omega) (by omega), ff _ (by omega) (by omega), c4 _ (by omega) (by omega)]
    exact hB c c0 hc
  · exact (f1.trans cF_I).2 4 (by decide) |>.trans (c3.2 4 (by decide))
