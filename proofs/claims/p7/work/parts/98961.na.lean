/-! ===== rows in a list; what comes in the order of turns ===== -/
abbrev Row : Type := Int → Int
def tuR (r : Row) : Int := r 2 * 6 + r 0
def chn (P : Row → Bool) (l : List Row) : Int → List Row → Prop
  | T, [] => ∀ x, x ∈ l → P x = true → tuR x ≤ T
  | T, r :: L => (r ∈ l ∧ P r = true ∧ T < tuR r ∧ ∀ x, x ∈ l → P x = true → T < tuR x → tuR r ≤ tuR x) ∧ chn P l (tuR r) L
theorem chn_u {P : Row → Bool} {l : List Row} (hd : ∀ x y, x ∈ l → y ∈ l → tuR x = tuR y → x = y) : ∀ (L L' : List Row) (T : Int), chn P l T L → chn P l T L' → L = L'
  | [], [], _, _, _ => rfl
  | [], r :: L', T, h, h' => absurd (h r h'.1.1 h'.1.2.1) (by have := h'.1.2.2.1; omega)
  | r :: L, [], T, h, h' => absurd (h' r h.1.1 h.1.2.1) (by have := h.1.2.2.1; omega)
  | r :: L, r' :: L', T, h, h' => by
    have a := h.1.2.2.2 r' h'.1.1 h'.1.2.1 h'.1.2.2.1
    have b := h'.1.2.2.2 r h.1.1 h.1.2.1 h.1.2.2.1
    have e : r = r' := hd r r' h.1.1 h'.1.1 (by omega)
    subst e
    rw [chn_u hd L L' (tuR r) h.2 h'.2]
theorem chn_low {Q : Row → Bool} {l : List Row} {T T' : Int} (h : ∀ x, x ∈ l → Q x = true → T < tuR x → T' < tuR x) (ht : T ≤ T') : ∀ L, chn Q l T' L → chn Q l T L
  | [], h0 => fun x hx hQ => by
    have a : tuR x ≤ T' := h0 x hx hQ
    by_cases c : T < tuR x
    · have := h x hx hQ c
      omega
    · omega
  | r :: L, h0 => ⟨⟨h0.1.1, h0.1.2.1, by have := h0.1.2.2.1; omega, fun x hx hQ hT => h0.1.2.2.2 x hx hQ (h x hx hQ hT)⟩, h0.2⟩
theorem chn_sub {P Q : Row → Bool} {l : List Row} (hd : ∀ x y, x ∈ l → y ∈ l → tuR x = tuR y → x = y) (hq : ∀ x, Q x = true → P x = true) : ∀ (L : List Row) (T : Int), chn P l T L → chn Q l T (L.filter Q)
  | [], T, h => fun x hx hQ => h x hx (hq x hQ)
  | r :: L, T, h => by
    have ih := chn_sub hd hq L (tuR r) h.2
    by_cases c : Q r = true
    · rw [List.filter_cons_of_pos c]
      exact ⟨⟨h.1.1, c, h.1.2.2.1, fun x hx hQ ht => h.1.2.2.2 x hx (hq x hQ) ht⟩, ih⟩
    · rw [List.filter_cons_of_neg c]
      refine chn_low (fun x hx hQ ht => ?_) (by have := h.1.2.2.1; omega) _ ih
      have a := h.1.2.2.2 x hx (hq x hQ) ht
      by_cases e : tuR r = tuR x
      · have := hd r x h.1.1 hx e
        subst this
        exact absurd hQ c
      · omega
theorem fold_f {α : Type} (Q : Row → Bool) (f : α → Row → α) : ∀ (L : List Row) (g : α), (L.filter Q).foldl f g = L.foldl (fun g r => if Q r = true then f g r else g) g
  | [], _ => rfl
  | r :: L, g => by
    by_cases c : Q r = true
    · rw [List.filter_cons_of_pos c, List.foldl_cons, List.foldl_cons, if_pos c]
      exact fold_f Q f L _
    · rw [List.filter_cons_of_neg c, List.foldl_cons, if_neg c]
      exact fold_f Q f L _
/-! turns that differ -/
def dtR (l : List Row) : Prop := l.Pairwise (fun a b => tuR a ≠ tuR b)
theorem dtR.inj : ∀ {l : List Row}, dtR l → ∀ x y, x ∈ l → y ∈ l → tuR x = tuR y → x = y
  | [], _, x, y, hx, _, _ => absurd hx (List.not_mem_nil)
  | a :: l, h, x, y, hx, hy, e => by
    obtain ⟨h1, h2⟩ := List.pairwise_cons.mp h
    rcases List.mem_cons.mp hx with ex | mx
    · rcases List.mem_cons.mp hy with ey | my
      · rw [ex, ey]
      · rw [ex] at e
        exact absurd e (h1 y my)
    · rcases List.mem_cons.mp hy with ey | my
      · rw [ey] at e
        exact absurd e.symm (h1 x mx)
      · exact dtR.inj h2 x y mx my e
def neR (r : Row) : Row → Bool := fun x => !(decide (tuR x = tuR r))
theorem neR_t {r x : Row} (h : tuR x ≠ tuR r) : neR r x = true := by
  unfold neR
  rw [decide_eq_false h]
  rfl
theorem neR_f {r x : Row} (h : tuR x = tuR r) : ¬ neR r x = true := by
  unfold neR
  rw [decide_eq_true h]
  decide
theorem erase_f : ∀ (l : List Row) (i : Nat) (r : Row), l[i]? = some r → dtR l → l.eraseIdx i = l.filter (neR r)
  | [], i, r, h, _ => by simp at h
  | a :: l, 0, r, h, hp => by
    have e : a = r := by simpa using h
    subst e
    obtain ⟨h1, h2⟩ := List.pairwise_cons.mp hp
    rw [List.filter_cons_of_neg (neR_f rfl)]
    show l = _
    exact (List.filter_eq_self.mpr (fun x hx => neR_t (fun z => h1 x hx z.symm))).symm
  | a :: l, i + 1, r, h, hp => by
    have h' : l[i]? = some r := by simpa using h
    obtain ⟨h1, h2⟩ := List.pairwise_cons.mp hp
    have hm : r ∈ l := List.mem_of_getElem? h'
    rw [List.filter_cons_of_pos (neR_t (h1 r hm)), ← erase_f l i r h' h2]
    rfl
theorem set_f (F : Row → Row) : ∀ (l : List Row) (i : Nat) (r : Row), l[i]? = some r → dtR l → l.set i (F r) = l.map (fun x => if tuR x = tuR r then F x else x)
  | [], i, r, h, _ => by simp at h
  | a :: l, 0, r, h, hp => by
    have e : a = r := by simpa using h
    subst e
    obtain ⟨h1, h2⟩ := List.pairwise_cons.mp hp
    rw [List.map_cons, if_pos rfl]
    show F a :: l = _
    congr 1
    have : ∀ x, x ∈ l → (if tuR x = tuR a then F x else x) = x := fun x hx => if_neg (fun z => h1 x hx z.symm)
    rw [List.map_congr_left this, List.map_id']
  | a :: l, i + 1, r, h, hp => by
    have h' : l[i]? = some r := by simpa using h
    obtain ⟨h1, h2⟩ := List.pairwise_cons.mp hp
    have hm : r ∈ l := List.mem_of_getElem? h'
    rw [List.map_cons, if_neg (h1 r hm), ← set_f F l i r h' h2]
    rfl
theorem dtR.map {G : Row → Row} (hG : ∀ x, tuR (G x) = tuR x) : ∀ {l : List Row}, dtR l → dtR (l.map G)
  | [], _ => List.Pairwise.nil
  | a :: l, h => by
    obtain ⟨h1, h2⟩ := List.pairwise_cons.mp h
    refine List.pairwise_cons.mpr ⟨fun y hy => ?_, dtR.map hG h2⟩
    obtain ⟨x, hx, e⟩ := List.mem_map.mp hy
    rw [← e, hG, hG]
    exact h1 x hx
theorem dtR.cut {F : Row → Option Row} (hF : ∀ x y, F x = some y → tuR y = tuR x) : ∀ {l : List Row}, dtR l → dtR (l.filterMap F)
  | [], _ => List.Pairwise.nil
  | a :: l, h => by
    obtain ⟨h1, h2⟩ := List.pairwise_cons.mp h
    have ih := dtR.cut hF h2
    cases e : F a with
    | none => rw [List.filterMap_cons_none e]; exact ih
    | some b =>
      rw [List.filterMap_cons_some e]
      refine List.pairwise_cons.mpr ⟨fun y hy => ?_, ih⟩
      obtain ⟨x, hx, ex⟩ := List.mem_filterMap.mp hy
      rw [hF a b e, hF x y ex]
      exact h1 x hx
theorem cut_c {F F' : Row → Option Row} : ∀ (l : List Row), (∀ x, x ∈ l → F' x = F x) → l.filterMap F' = l.filterMap F
  | [], _ => rfl
  | a :: l, h => by
    have ih := cut_c l (fun x hx => h x (List.mem_cons_of_mem a hx))
    have e := h a List.mem_cons_self
    cases e2 : F a with
    | none => rw [List.filterMap_cons_none e2, List.filterMap_cons_none (e.trans e2), ih]
    | some b => rw [List.filterMap_cons_some e2, List.filterMap_cons_some (e.trans e2), ih]
/-- a cut, then all put by G, then what H keeps -/
theorem cut_s {F F' : Row → Option Row} {G : Row → Row} {H : Row → Bool} : ∀ (l : List Row), (∀ x, x ∈ l → F' x = (match F x with | none => none | some y => if H (G y) = true then some (G y) else none)) → ((l.filterMap F).map G).filter H = l.filterMap F'
  | [], _ => rfl
  | a :: l, h => by
    have ih := cut_s (F := F) (F' := F') (G := G) (H := H) l (fun x hx => h x (List.mem_cons_of_mem a hx))
    have e := h a List.mem_cons_self
    cases e2 : F a with
    | none =>
      rw [e2] at e
      rw [List.filterMap_cons_none e2, List.filterMap_cons_none e, ih]
    | some b =>
      rw [e2] at e
      dsimp only at e
      rw [List.filterMap_cons_some e2, List.map_cons]
      by_cases c : H (G b) = true
      · rw [if_pos c] at e
        rw [List.filter_cons_of_pos c, List.filterMap_cons_some e, ih]
      · rw [if_neg c] at e
        rw [List.filter_cons_of_neg c, List.filterMap_cons_none e, ih]
