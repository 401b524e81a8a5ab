/-! ===== the model: its two loops, then progress rises: what it leaves ===== -/
theorem gdL.map {ga : Int} {G : Row → Row} (hG : ∀ x, gR x → gR (G x) ∧ G x 0 = x 0 ∧ G x 1 = x 1 ∧ G x 2 = x 2) : ∀ {l : List Row}, gdL ga l → gdL ga (l.map G)
  | [], _ => ⟨fun r hr => absurd hr List.not_mem_nil, List.Pairwise.nil⟩
  | a :: l, h => by
    obtain ⟨h1, h2⟩ := List.pairwise_cons.mp h.2
    have ih := gdL.map hG h.tl
    obtain ⟨q0, q1, q2, q3⟩ := hG a (h.1 a List.mem_cons_self)
    refine ⟨fun r hr => ?_, List.pairwise_cons.mpr ⟨fun y hy => ?_, ih.2⟩⟩
    · rcases List.mem_cons.mp hr with hr | hr
      · rw [hr]; exact q0
      · exact ih.1 r hr
    · obtain ⟨x, hx, ex⟩ := List.mem_map.mp hy
      obtain ⟨-, p1, p2, p3⟩ := hG x (h.1 x (List.mem_cons_of_mem a hx))
      have := h1 x hx
      rw [← ex]
      unfold bef at this ⊢
      rw [q1, q3, p1, p2]
      exact this
theorem gdL.flt {ga : Int} {H : Row → Bool} : ∀ {l : List Row}, gdL ga l → gdL ga (l.filter H)
  | [], h => h
  | a :: l, h => by
    obtain ⟨h1, h2⟩ := List.pairwise_cons.mp h.2
    have ih := gdL.flt (H := H) h.tl
    by_cases c : H a = true
    · rw [List.filter_cons_of_pos c]
      refine ⟨fun r hr => ?_, List.pairwise_cons.mpr ⟨fun y hy => h1 y (List.mem_filter.mp hy).1, ih.2⟩⟩
      rcases List.mem_cons.mp hr with hr | hr
      · rw [hr]; exact h.1 a List.mem_cons_self
      · exact ih.1 r hr
    · rw [List.filter_cons_of_neg c]
      exact ih
/-- ripe ones up to a turn -/
def mpM (ga wa p T : Int) (x : Row) : Row := if newB ga wa p x = true ∧ tuR x ≤ T then up1 x 6 2 else x
theorem mpM_tu {ga wa p T : Int} {x : Row} : tuR (mpM ga wa p T x) = tuR x := by
  unfold mpM
  split
  · exact up1_tu
  · rfl
theorem mpM_g {ga wa p T : Int} (x : Row) (h : gR x) : gR (mpM ga wa p T x) ∧ mpM ga wa p T x 0 = x 0 ∧ mpM ga wa p T x 1 = x 1 ∧ mpM ga wa p T x 2 = x 2 := by
  unfold mpM
  split
  · exact ⟨h.up (by decide), up1_6.1, up1_6.2.1, up1_6.2.2.1⟩
  · exact ⟨h, rfl, rfl, rfl⟩
theorem mpM_m {ga wa p T : Int} {l : List Row} {x : Row} (h : T < tuR x) : x ∈ l.map (mpM ga wa p T) ↔ x ∈ l := by
  constructor
  · intro q
    obtain ⟨y, hy, e⟩ := List.mem_map.mp q
    by_cases c : newB ga wa p y = true ∧ tuR y ≤ T
    · have := mpM_tu (ga := ga) (wa := wa) (p := p) (T := T) (x := y)
      rw [e] at this
      omega
    · have : mpM ga wa p T y = y := if_neg c
      rw [this] at e
      rw [← e]
      exact hy
  · intro q
    exact List.mem_map.mpr ⟨x, q, if_neg (fun z => by omega)⟩
theorem mpM_s {ga wa p T : Int} {l : List Row} {i : Nat} {r : Row} (g0 : 0 ≤ ga) (hl : gdL ga l) (hr : r ∈ l) (hd : newB ga wa p r = true) (hT : T < tuR r) (hm : ∀ x, x ∈ l → newB ga wa p x = true → T < tuR x → tuR r ≤ tuR x) (hi : (l.map (mpM ga wa p T))[i]? = some r) : (l.map (mpM ga wa p T)).set i (up1 r 6 2) = l.map (mpM ga wa p (tuR r)) := by
  have inj := (hl.dt g0).inj
  rw [set_f (fun y => up1 y 6 2) _ i r hi ((hl.map mpM_g).dt g0), List.map_map]
  refine List.map_congr_left (fun x hx => ?_)
  show (if tuR (mpM ga wa p T x) = tuR r then up1 (mpM ga wa p T x) 6 2 else mpM ga wa p T x) = mpM ga wa p (tuR r) x
  rw [mpM_tu]
  by_cases q : tuR x = tuR r
  · have : x = r := inj x r hx hr q
    subst this
    rw [if_pos q]
    unfold mpM
    rw [if_neg (fun z => by omega), if_pos ⟨hd, Int.le_refl _⟩]
  · rw [if_neg q]
    unfold mpM
    by_cases c : newB ga wa p x = true ∧ tuR x ≤ T
    · rw [if_pos c, if_pos ⟨c.1, by omega⟩]
    · rw [if_neg c, if_neg (fun z => ?_)]
      by_cases zt : T < tuR x
      · have := hm x hx z.1 zt
        have := z.2
        omega
      · exact c ⟨z.1, by omega⟩
def rmG (g : Int → Int) (r : Row) : Int → Int := sn1 (tkG g r) 1 r
theorem b7.rm {b : Int} {g : Int → Int} {r : Row} (h : b7 b g) (hb : b + 2 < 1000000) (hr : gR r) : b7 (b + 2) (rmG g r) := by
  have := (h.tk (by omega) hr).sn (kd := 1) (by omega) (by decide) hr
  exact ⟨this.1, Int.le_trans this.2 (by omega)⟩
theorem tkG_ne {g : Int → Int} {r : Row} {c : Int} (h7 : 0 ≤ g 7) (hr : gR r) (hc : c < 7 ∨ (8 ≤ c ∧ c < 32) ∨ (36 ≤ c ∧ c < 60) ∨ (84 ≤ c ∧ c < 1484) ∨ 1844 ≤ c) : tkG g r c = g c := by
  unfold tkG
  split
  · exact sn1_ne h7 (by decide) hr.1 hc
  · rfl
theorem rmG_ne {b : Int} {g : Int → Int} {r : Row} {c : Int} (h : b7 b g) (hb : b < 1000000) (hr : gR r) (hc : c < 7 ∨ (8 ≤ c ∧ c < 32) ∨ (36 ≤ c ∧ c < 60) ∨ (84 ≤ c ∧ c < 1484) ∨ 1844 ≤ c) : rmG g r c = g c := by
  unfold rmG
  rw [sn1_ne (h.tk hb hr).1 (by decide) hr.1 hc, tkG_ne h.1 hr hc]
theorem rrS {d wa ga la p : Int} {K : MS → Prop} (hd : 0 ≤ d) {l : List Row} (hl : gdL ga l) : ∀ (n : Nat) (L : List Row) (T b : Int) (s : MS) (g : Int → Int), rrP d wa K n (mFirstR s d wa) s → lsM d s (l.map (mpM ga wa p T)) → sB d s g → stG g ga la p → (T = 6 * s.1 10 + s.1 11 ∧ -1 ≤ s.1 11 ∧ s.1 11 ≤ 5) → chn (newB ga wa p) l T L → b7 b g → b + 2 * L.length + 2 < 1000000 → rrP d wa (fun s' => K s' ∧ ∃ T', (∀ x, x ∈ l → newB ga wa p x = true → tuR x ≤ T') ∧ lsM d s' (l.map (mpM ga wa p T')) ∧ sB d s' (L.foldl rmG g)) n (mFirstR s d wa) s := by
  intro n
  induction n with
  | zero =>
    intro L T b s g h hL hB hs hT hc h7 hb
    refine ⟨h.1, h.2, ?_⟩
    cases L with
    | nil => exact ⟨T, hc, hL, hB⟩
    | cons r L =>
      exfalso
      rcases firstR_s (wa := wa) hL hB (hl.map mpM_g) hs hT with ⟨-, q⟩ | ⟨i, r', e, -⟩
      · have := q r ((mpM_m hc.1.2.2.1).mpr hc.1.1) hc.1.2.1
        have := hc.1.2.2.1
        omega
      · have := h.1
        omega
  | succ n ih =>
    intro L T b s g h hL hB hs hT hc h7 hb
    have hF := firstR_s (wa := wa) hL hB (hl.map mpM_g) hs hT
    refine ⟨fun q => ⟨h.1 q, ?_⟩, fun q => ⟨(h.2 q).1, ?_⟩⟩
    · cases L with
      | nil => exact ⟨T, hc, hL, hB⟩
      | cons r L =>
        exfalso
        rcases hF with ⟨-, z⟩ | ⟨i, r', e, -⟩
        · have := z r ((mpM_m hc.1.2.2.1).mpr hc.1.1) hc.1.2.1
          have := hc.1.2.2.1
          omega
        · omega
    · have h2 := (h.2 q).2
      rcases hF with ⟨e, -⟩ | ⟨i, r', ei, hi, hm, hP, hTr, hmin⟩
      · omega
      · have hm' := (mpM_m hTr).mp hm
        cases L with
        | nil =>
          have := hc r' hm' hP
          omega
        | cons r L =>
          obtain ⟨⟨c1, c2, c3, c4⟩, hc2⟩ := hc
          have a1 := c4 r' hm' hP hTr
          have a2 := hmin r ((mpM_m c3).mpr c1) c2 c3
          have g0 := hs.2.1.1
          have er : r' = r := (hl.dt g0).inj r' r hm' c1 (by omega)
          subst er
          have hg := hl.1 r' c1
          rw [List.length_cons] at hb
          rw [ei] at h2 ⊢
          obtain ⟨t1, t2, t3⟩ := tkM hL hB hd hi hg h7.1
          have h7' := h7.tk (by omega) hg
          obtain ⟨u1', u2'⟩ := snM (kd := 1) t1 t2 hd (set_at hi) h7'.1 (by decide) (hg.up (v := 0) (by decide)).1
          have u1 : lsM d (mSend (mTake s d i) d 1 i) (((l.map (mpM ga wa p T)).set i (up1 r' 6 0)).set i (up1 (up1 r' 6 0) 6 2)) := u1'
          have u2 : sB d (mSend (mTake s d i) d 1 i) (sn1 (tkG g r') 1 (up1 r' 6 0)) := u2'
          rw [List.set_set, up1_up1] at u1
          rw [sn1_up] at u2
          have w2 := u1.at (set_at hi) (c := 2) (by decide) (by decide)
          have w0 := u1.at (set_at hi) (c := 0) (by decide) (by decide)
          rw [up1_6.2.2.1] at w2
          rw [up1_6.1] at w0
          have v1 : lsM d (mRi1 s d i) (l.map (mpM ga wa p (tuR r'))) := by
            rw [← mpM_s g0 hl c1 c2 c3 c4 hi]
            exact u1.cong rfl
          have v2 : sB d (mRi1 s d i) (rmG g r') := u2.cong rfl
          have v10 : (mRi1 s d i).1 10 = r' 2 := w2
          have v11 : (mRi1 s d i).1 11 = r' 0 := w0
          exact ih L (tuR r') (b + 2) (mRi1 s d i) (rmG g r') h2 v1 v2 (hs.of (fun c c0 c1 => rmG_ne h7 (by omega) hg (by omega))) ⟨by rw [v10, v11]; unfold tuR; omega, by rw [v11]; have := hg.1; omega, by rw [v11]; have := hg.1; omega⟩ hc2 (h7.rm (by omega) hg) (by omega)
/-! what closes -/
def kpC (ga la p T : Int) (x : Row) : Bool := !(ovB ga la p x && decide (tuR x ≤ T))
theorem kpC_t {ga la p T : Int} {x : Row} (h : ¬ (ovB ga la p x = true ∧ tuR x ≤ T)) : kpC ga la p T x = true := by
  unfold kpC
  cases e : ovB ga la p x with
  | false => rfl
  | true =>
    rw [decide_eq_false (fun z => h ⟨e, z⟩)]
    rfl
theorem kpC_f {ga la p T : Int} {x : Row} (h : ovB ga la p x = true ∧ tuR x ≤ T) : ¬ kpC ga la p T x = true := by
  unfold kpC
  rw [h.1, decide_eq_true h.2]
  decide
theorem kpC_m {ga la p T : Int} {l : List Row} {x : Row} (h : T < tuR x) : x ∈ l.filter (kpC ga la p T) ↔ x ∈ l :=
  ⟨fun q => (List.mem_filter.mp q).1, fun q => List.mem_filter.mpr ⟨q, kpC_t (fun z => by omega)⟩⟩
theorem kpC_s {ga la p T : Int} {l : List Row} {i : Nat} {r : Row} (g0 : 0 ≤ ga) (hl : gdL ga l) (hr : r ∈ l) (hd : ovB ga la p r = true) (hT : T < tuR r) (hm : ∀ x, x ∈ l → ovB ga la p x = true → T < tuR x → tuR r ≤ tuR x) (hi : (l.filter (kpC ga la p T))[i]? = some r) : (l.filter (kpC ga la p T)).eraseIdx i = l.filter (kpC ga la p (tuR r)) := by
  have inj := (hl.dt g0).inj
  rw [erase_f _ i r hi ((hl.flt).dt g0), List.filter_filter]
  refine List.filter_congr (fun x hx => ?_)
  by_cases q : tuR x = tuR r
  · have : x = r := inj x r hx hr q
    subst this
    have a : neR x x = false := Bool.eq_false_iff.mpr (neR_f rfl)
    have b : kpC ga la p (tuR x) x = false := Bool.eq_false_iff.mpr (kpC_f ⟨hd, Int.le_refl _⟩)
    rw [a, b]
    rfl
  · rw [neR_t q, Bool.true_and]
    by_cases c : ovB ga la p x = true ∧ tuR x ≤ T
    · rw [Bool.eq_false_iff.mpr (kpC_f c), Bool.eq_false_iff.mpr (kpC_f (T := tuR r) ⟨c.1, by omega⟩)]
    · rw [kpC_t c, kpC_t (fun z => ?_)]
      by_cases zt : T < tuR x
      · have := hm x hx z.1 zt
        have := z.2
        omega
      · exact c ⟨z.1, by omega⟩
theorem fn1_ne {g : Int → Int} {r : Row} {c : Int} (h : 0 ≤ sm6 g) (hr : 0 ≤ r 0 ∧ r 0 < 6) (hc : c < 36 ∨ (60 ≤ c ∧ c < 84) ∨ 364 ≤ c) : fn1 g r c = g c := by
  have t := tm40 h
  unfold fn1
  generalize Int.tmod (sm6 g) 40 = q at t
  rw [up1_ne (by omega), in1_ne (by omega), in1_ne (by omega), in1_ne (by omega), up1_ne (by omega), up1_ne (by omega), up1_ne (by omega), up1_ne (by omega), up1_ne (by omega), up1_ne (by omega), up1_ne (by omega)]
theorem ccS {d ga la p : Int} {K : MS → Prop} (hd : dOk d) {l : List Row} (hl : gdL ga l) : ∀ (n : Nat) (L : List Row) (T b : Int) (s : MS) (g : Int → Int), ccP d K n (mFirstC s d) s → lsM d s (l.filter (kpC ga la p T)) → sB d s g → stG g ga la p → chn (ovB ga la p) l T L → b36 b g → b + L.length + 1 < 1000000 → ccP d (fun s' => K s' ∧ ∃ T', (∀ x, x ∈ l → ovB ga la p x = true → tuR x ≤ T') ∧ lsM d s' (l.filter (kpC ga la p T')) ∧ sB d s' (L.foldl fn1 g)) n (mFirstC s d) s := by
  intro n
  induction n with
  | zero =>
    intro L T b s g h hL hB hs hc h36 hb
    refine ⟨h.1, h.2, ?_⟩
    cases L with
    | nil => exact ⟨T, hc, hL, hB⟩
    | cons r L =>
      exfalso
      rcases firstC_s hL hB hl.flt hs with ⟨-, q⟩ | ⟨i, r', e, -⟩
      · have := q r ((kpC_m hc.1.2.2.1).mpr hc.1.1) hc.1.2.1
        have := (hl.1 r hc.1.1).tu
        omega
      · have := h.1
        omega
  | succ n ih =>
    intro L T b s g h hL hB hs hc h36 hb
    have hF := firstC_s hL hB hl.flt hs
    have none : ∀ x, x ∈ l → ovB ga la p x = true → tuR x ≤ T → ¬ x ∈ l.filter (kpC ga la p T) := fun x _ ho ht z => kpC_f ⟨ho, ht⟩ (List.mem_filter.mp z).2
    refine ⟨fun q => ⟨h.1 q, ?_⟩, fun q => ⟨(h.2 q).1, ?_⟩⟩
    · cases L with
      | nil => exact ⟨T, hc, hL, hB⟩
      | cons r L =>
        exfalso
        rcases hF with ⟨-, z⟩ | ⟨i, r', e, -⟩
        · have := z r ((kpC_m hc.1.2.2.1).mpr hc.1.1) hc.1.2.1
          have := (hl.1 r hc.1.1).tu
          omega
        · omega
    · have h2 := (h.2 q).2
      rcases hF with ⟨e, -⟩ | ⟨i, r', ei, hi, hm, hP, hTr, hmin⟩
      · omega
      · have hm' := (List.mem_filter.mp hm).1
        have hTr' : T < tuR r' := by
          by_cases z : tuR r' ≤ T
          · exact absurd hm (none r' hm' hP z)
          · omega
        cases L with
        | nil =>
          have := hc r' hm' hP
          omega
        | cons r L =>
          obtain ⟨⟨c1, c2, c3, c4⟩, hc2⟩ := hc
          have a1 := c4 r' hm' hP hTr'
          have a2 := hmin r ((kpC_m c3).mpr c1) c2 (by have := (hl.1 r c1).tu; omega)
          have g0 := hs.2.1.1
          have er : r' = r := (hl.dt g0).inj r' r hm' c1 (by omega)
          subst er
          have hg := hl.1 r' c1
          rw [List.length_cons] at hb
          rw [ei] at h2 ⊢
          have hbd := h36.bd (by omega)
          obtain ⟨v1, v2, -⟩ := clM hL hB hd hi hg hbd
          rw [kpC_s g0 hl c1 c2 c3 c4 hi] at v1
          have s0 := (fn1_s (r := r') hbd hg.1).2.1
          exact ih L (tuR r') (b + 1) (mClose s d i) (fn1 g r') h2 v1 v2 (hs.of (fun c c0 c1 => fn1_ne s0 hg.1 (by omega))) hc2 (h36.fn (by omega) hg) (by omega)
