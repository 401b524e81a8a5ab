/-! ===== rows as they should be, in their order; ripe, over, due ===== -/
def gR (r : Row) : Prop := (0 ≤ r 0 ∧ r 0 < 6) ∧ (0 ≤ r 1 ∧ r 1 ≤ r 2 ∧ r 2 ≤ 9999) ∧ (0 ≤ r 6 ∧ r 6 ≤ 3) ∧ xB (r 3) ∧ xB (r 4) ∧ xB (r 5)
def bef (ga : Int) (a b : Row) : Prop := a 0 < b 0 ∨ (a 0 = b 0 ∧ a 2 + ga < b 1)
def gdL (ga : Int) (l : List Row) : Prop := (∀ r, r ∈ l → gR r) ∧ l.Pairwise (bef ga)
def ripB (ga p : Int) : Row → Bool := fun r => decide (r 2 + ga < p)
def ovB (ga la p : Int) : Row → Bool := fun r => decide (r 2 + ga + la < p)
def newB (ga be p : Int) : Row → Bool := fun r => decide (r 2 + ga < p ∧ ¬ r 2 + ga < be)
def dueB (ga la be p : Int) : Row → Bool := fun r => decide (r 2 + ga < p ∧ ¬ (r 2 + ga < be ∧ ¬ r 2 + ga + la < p))
theorem gdL.tl {ga : Int} {a : Row} {l : List Row} (h : gdL ga (a :: l)) : gdL ga l := ⟨fun r hr => h.1 r (List.mem_cons_of_mem a hr), (List.pairwise_cons.mp h.2).2⟩
theorem bef_tu {ga : Int} (g0 : 0 ≤ ga) {a b : Row} (ha : gR a) (hb : gR b) (h : bef ga a b) : tuR a ≠ tuR b := by
  obtain ⟨⟨a0, a1⟩, ⟨a2, a3, a4⟩, -⟩ := ha
  obtain ⟨⟨b0, b1⟩, ⟨b2, b3, b4⟩, -⟩ := hb
  unfold tuR
  rcases h with h | h <;> omega
theorem gdL.dt {ga : Int} (g0 : 0 ≤ ga) : ∀ {l : List Row}, gdL ga l → dtR l
  | [], _ => List.Pairwise.nil
  | a :: l, h => by
    obtain ⟨h1, h2⟩ := List.pairwise_cons.mp h.2
    exact List.pairwise_cons.mpr ⟨fun x hx => bef_tu g0 (h.1 a List.mem_cons_self) (h.1 x (List.mem_cons_of_mem a hx)) (h1 x hx), gdL.dt g0 h.tl⟩
/-- rows cut and put anew, where they stand stays -/
theorem gdL.cut {ga : Int} {F : Row → Option Row} : ∀ {l : List Row}, gdL ga l → (∀ x y, x ∈ l → F x = some y → gR y ∧ y 0 = x 0 ∧ y 1 = x 1 ∧ y 2 = x 2) → gdL ga (l.filterMap F)
  | [], _, _ => ⟨fun r hr => absurd hr List.not_mem_nil, List.Pairwise.nil⟩
  | a :: l, h, hF => by
    obtain ⟨h1, h2⟩ := List.pairwise_cons.mp h.2
    have ih := gdL.cut h.tl (fun x y hx e => hF x y (List.mem_cons_of_mem a hx) e)
    cases e : F a with
    | none => rw [List.filterMap_cons_none e]; exact ih
    | some b =>
      rw [List.filterMap_cons_some e]
      obtain ⟨q0, q1, q2, q3⟩ := hF a b List.mem_cons_self e
      refine ⟨fun r hr => ?_, List.pairwise_cons.mpr ⟨fun y hy => ?_, ih.2⟩⟩
      · rcases List.mem_cons.mp hr with hr | hr
        · rw [hr]; exact q0
        · exact ih.1 r hr
      · obtain ⟨x, hx, ex⟩ := List.mem_filterMap.mp hy
        obtain ⟨-, p1, p2, p3⟩ := hF x y (List.mem_cons_of_mem a hx) ex
        have := h1 x hx
        unfold bef at this ⊢
        rw [q1, q3, p1, p2]
        exact this
theorem up1_6 {r : Row} {v : Int} : up1 r 6 v 0 = r 0 ∧ up1 r 6 v 1 = r 1 ∧ up1 r 6 v 2 = r 2 ∧ up1 r 6 v 3 = r 3 ∧ up1 r 6 v 4 = r 4 ∧ up1 r 6 v 5 = r 5 ∧ up1 r 6 v 6 = v :=
  ⟨up1_ne (by decide), up1_ne (by decide), up1_ne (by decide), up1_ne (by decide), up1_ne (by decide), up1_ne (by decide), up1_eq⟩
theorem up1_tu {r : Row} {v : Int} : tuR (up1 r 6 v) = tuR r := by
  unfold tuR
  rw [up1_6.1, up1_6.2.2.1]
theorem up1_up1 {r : Row} {c v w : Int} : up1 (up1 r c v) c w = up1 r c w := by
  funext x
  by_cases e : x = c
  · subst e; rw [up1_eq, up1_eq]
  · rw [up1_ne e, up1_ne e, up1_ne e]
theorem gR.up {r : Row} {v : Int} (h : gR r) (hv : 0 ≤ v ∧ v ≤ 3) : gR (up1 r 6 v) := by
  obtain ⟨e0, e1, e2, e3, e4, e5, e6⟩ := up1_6 (r := r) (v := v)
  unfold gR at h ⊢
  rw [e0, e1, e2, e3, e4, e5, e6]
  exact ⟨h.1, h.2.1, hv, h.2.2.2⟩
theorem gR.tu {r : Row} (h : gR r) : 0 ≤ tuR r ∧ tuR r < 60000 := by
  obtain ⟨⟨a0, a1⟩, ⟨a2, a3, a4⟩, -⟩ := h
  unfold tuR
  omega
/-! who is first: one behind another -/
theorem lst_min (P : Row → Bool) (T : Int) : ∀ (l : List Row), (∀ x, x ∈ l → P x = true → tuR x ≤ T) ∨ ∃ r, r ∈ l ∧ P r = true ∧ T < tuR r ∧ ∀ x, x ∈ l → P x = true → T < tuR x → tuR r ≤ tuR x
  | [] => Or.inl (fun x hx => absurd hx List.not_mem_nil)
  | a :: l => by
    by_cases c : P a = true ∧ T < tuR a
    · rcases lst_min P T l with h | ⟨r, h1, h2, h3, h4⟩
      · refine Or.inr ⟨a, List.mem_cons_self, c.1, c.2, fun x hx hP ht => ?_⟩
        rcases List.mem_cons.mp hx with e | e
        · rw [e]; exact Int.le_refl _
        · have := h x e hP; omega
      · by_cases q : tuR a ≤ tuR r
        · refine Or.inr ⟨a, List.mem_cons_self, c.1, c.2, fun x hx hP ht => ?_⟩
          rcases List.mem_cons.mp hx with e | e
          · rw [e]; exact Int.le_refl _
          · have := h4 x e hP ht; omega
        · refine Or.inr ⟨r, List.mem_cons_of_mem a h1, h2, h3, fun x hx hP ht => ?_⟩
          rcases List.mem_cons.mp hx with e | e
          · rw [e]; omega
          · exact h4 x e hP ht
    · rcases lst_min P T l with h | ⟨r, h1, h2, h3, h4⟩
      · refine Or.inl (fun x hx hP => ?_)
        rcases List.mem_cons.mp hx with e | e
        · subst e
          by_cases q : T < tuR x
          · exact absurd ⟨hP, q⟩ c
          · omega
        · exact h x e hP
      · refine Or.inr ⟨r, List.mem_cons_of_mem a h1, h2, h3, fun x hx hP ht => ?_⟩
        rcases List.mem_cons.mp hx with e | e
        · subst e; exact absurd ⟨hP, ht⟩ c
        · exact h4 x e hP ht
/-- how many have their turn behind T -/
def ctR (P : Row → Bool) (T : Int) : List Row → Nat
  | [] => 0
  | a :: l => ctR P T l + (if P a = true ∧ T < tuR a then 1 else 0)
theorem ctR_k (P : Row → Bool) (T : Int) : ∀ l : List Row, ctR P T l ≤ l.length
  | [] => Nat.le_refl _
  | a :: l => by
    rw [ctR, List.length_cons]
    have := ctR_k P T l
    split <;> omega
theorem ctR_le (P : Row → Bool) {T T' : Int} (h : T ≤ T') : ∀ l : List Row, ctR P T' l ≤ ctR P T l
  | [] => Nat.le_refl _
  | a :: l => by
    rw [ctR, ctR]
    have := ctR_le P h l
    by_cases c : P a = true ∧ T' < tuR a
    · rw [if_pos c, if_pos ⟨c.1, by omega⟩]; omega
    · rw [if_neg c]; omega
theorem ctR_lt (P : Row → Bool) {T : Int} {r : Row} (hP : P r = true) (h : T < tuR r) : ∀ l : List Row, r ∈ l → ctR P (tuR r) l < ctR P T l
  | [], hr => absurd hr List.not_mem_nil
  | a :: l, hr => by
    rw [ctR, ctR]
    rcases List.mem_cons.mp hr with e | e
    · subst e
      rw [if_neg (fun q => by omega), if_pos ⟨hP, h⟩]
      have := ctR_le P (T := T) (T' := tuR r) (by omega) l
      omega
    · have := ctR_lt P hP h l e
      by_cases c : P a = true ∧ tuR r < tuR a
      · rw [if_pos c, if_pos ⟨c.1, by omega⟩]; omega
      · rw [if_neg c]; omega
theorem chn_ex (P : Row → Bool) (l : List Row) : ∀ (n : Nat) (T : Int), ctR P T l ≤ n → ∃ L, chn P l T L ∧ L.length ≤ n
  | 0, T, h => by
    rcases lst_min P T l with q | ⟨r, h1, h2, h3, h4⟩
    · exact ⟨[], q, Nat.le_refl _⟩
    · have := ctR_lt P h2 h3 l h1
      omega
  | n + 1, T, h => by
    rcases lst_min P T l with q | ⟨r, h1, h2, h3, h4⟩
    · exact ⟨[], q, Nat.zero_le _⟩
    · have := ctR_lt P h2 h3 l h1
      obtain ⟨L, a, b⟩ := chn_ex P l n (tuR r) (by omega)
      exact ⟨r :: L, ⟨⟨h1, h2, h3, h4⟩, a⟩, Nat.succ_le_succ b⟩
/-- a chain looks at the rows behind T alone, and at their turns -/
theorem chn_m {P : Row → Bool} {l l' : List Row} : ∀ (L : List Row) (T : Int), (∀ x, T < tuR x → (x ∈ l' ↔ x ∈ l)) → chn P l T L → chn P l' T L
  | [], T, h, q => fun x hx hP => by
    by_cases c : T < tuR x
    · exact q x ((h x c).mp hx) hP
    · omega
  | r :: L, T, h, q => ⟨⟨(h r q.1.2.2.1).mpr q.1.1, q.1.2.1, q.1.2.2.1, fun x hx hP ht => q.1.2.2.2 x ((h x ht).mp hx) hP ht⟩, chn_m L (tuR r) (fun x hx => h x (by have := q.1.2.2.1; omega)) q.2⟩
