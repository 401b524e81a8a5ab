/-! ===== LateSessions: five numbers (0 undoOldest, 1 undoSize, 2 keptBits, 3 toldSize, 4 textSize), four arrays (0 told, 1 text, 2 byTime, 3 holes), ten Worlds (0 world, 1 trial, 2 to 7 undone, 8 and 9 kept) ===== -/
section TRS
variable {σ τ υ : Type} {enc : σ → XH} {bd : σ → Prop} {enc1 : τ → XH} {bd1 : τ → Prop} {enc2 : υ → XH} {bd2 : υ → Prop}
theorem vLk_trans {π1 π2 : Nat → Nat} {sub1 : σ → τ} {put1 : σ → τ → σ} {sub2 : τ → υ} {put2 : τ → υ → τ} (h1 : vLk enc bd enc1 bd1 π1 sub1 put1) (h2 : vLk enc1 bd1 enc2 bd2 π2 sub2 put2) : vLk enc bd enc2 bd2 (fun k => π1 (π2 k)) (fun s => sub2 (sub1 s)) (fun s t => put1 s (put2 (sub1 s) t)) := by
  refine ⟨fun s hb => ?_, fun s t hb hb2 => ?_⟩
  · obtain ⟨a1, a2, a3⟩ := h1.1 s hb
    obtain ⟨b1, b2, b3⟩ := h2.1 (sub1 s) a1
    refine ⟨b1, ⟨fun i j hi hj e => b2.1 i j hi hj (a2.1 _ _ (b2.2 i hi).2 (b2.2 j hj).2 e), fun j hj => ?_⟩, fun j c hc => ?_⟩
    · obtain ⟨c1, c2⟩ := b2.2 j hj
      obtain ⟨d1, d2⟩ := a2.2 (π2 j) c2
      exact ⟨d1.trans c1, d2⟩
    · have hj := (List.getElem?_eq_some_iff.mp hc).1
      obtain ⟨c1, c2⟩ := b2.2 j hj
      intro aC ρ σ'
      rw [b3 j c hc aC (fun k => ρ (π1 k)) σ', a3 (π2 j) c (c1.trans hc) aC ρ σ']
  · obtain ⟨a1, a2, a3⟩ := h1.1 s hb
    obtain ⟨b1, b2, b3⟩ := h2.1 (sub1 s) a1
    obtain ⟨q1, q2, q3, q4⟩ := h2.2 (sub1 s) t a1 hb2
    obtain ⟨p1, p2, p3, p4⟩ := h1.2 s (put2 (sub1 s) t) hb q1
    refine ⟨p1, q2, ⟨p3.1, fun j hj => ?_, fun k hk => ?_⟩, fun j c hc => ?_⟩
    · rw [p3.2.1 (π2 j) (b2.2 j hj).2, q3.2.1 j hj]
    · by_cases hin : ∃ j, j < (enc1 (sub1 s)).length ∧ π1 j = k
      · obtain ⟨j, hj, rfl⟩ := hin
        rw [p3.2.1 j hj, q3.2.2 j (fun i hi e => hk i hi (congrArg π1 e)), (a2.2 j hj).1]
      · exact p3.2.2 k (fun j hj e => hin ⟨j, hj, e⟩)
    · have hj := (List.getElem?_eq_some_iff.mp hc).1
      rw [q2] at hj
      have c1 := q3.2.1 j hj
      intro aC ρ σ'
      rw [q4 j c hc aC (fun k => ρ (π1 k)) σ', p4 (π2 j) c (c1.trans hc) aC ρ σ']
end TRS
abbrev LSt : Type := (Nat → Int) × (Nat → Nat → Int) × (Nat → WS)
abbrev KL : Type := PS → LSt → Prop
def wsL (f : Nat → WS) : Nat → Nat → XH
  | _, 0 => []
  | k, n + 1 => encW (f k) ++ wsL f (k + 1) n
def hdL (s : LSt) : XH := [xO 2 [.ref 7, .ref 20, .ref 1, xi (s.1 0), xi (s.1 1), .ref 2, xi (s.1 2), .ref 3, xi (s.1 3), .ref 4, xi (s.1 4), .ref 5, .ref 6], xQ 6 (fun j => some (32 + 13 * j)), xQ 2 (fun j => some (109 + 13 * j)), xL 6 (s.2.1 0), xA 80 (s.2.1 1), xA 160 (s.2.1 2), xA 101 (s.2.1 3)]
def encL (s : LSt) : XH := hdL s ++ wsL s.2.2 0 10
def bdL (s : LSt) : Prop := (∀ k, xB (s.1 k)) ∧ (∀ a k, xB (s.2.1 a k)) ∧ ∀ q, bdW (s.2.2 q)
theorem wsL_at (f : Nat → WS) : ∀ (n k q j : Nat), q < n → j < 13 → (wsL f k n)[13 * q + j]? = (encW (f (k + q)))[j]?
  | 0, k, q, j, hq, hj => by omega
  | n + 1, k, 0, j, hq, hj => by
    rw [wsL, List.getElem?_append_left (by rw [lenW13]; omega)]
    congr 1; omega
  | n + 1, k, q + 1, j, hq, hj => by
    rw [wsL, List.getElem?_append_right (by rw [lenW13]; omega), lenW13, show 13 * (q + 1) + j - 13 = 13 * q + j by omega, wsL_at f n (k + 1) q j (by omega) hj]
    congr 2; rw [show k + 1 + q = k + (q + 1) by omega]
theorem wsL_len (f : Nat → WS) : ∀ (n k : Nat), (wsL f k n).length = 13 * n
  | 0, k => rfl
  | n + 1, k => by rw [wsL, List.length_append, lenW13, wsL_len f n (k + 1)]; omega
theorem lenL137 (s : LSt) : (encL s).length = 137 := by rw [encL, List.length_append, wsL_len]; rfl
theorem lenL (s s' : LSt) : (encL s').length = (encL s).length := by rw [lenL137, lenL137]
theorem recL (s : LSt) : ∃ fs, xl_n (encL s) 0 = some (.inr (2, fs)) := ⟨_, rfl⟩
theorem encL_w (s : LSt) {q j : Nat} (hq : q < 10) (hj : j < 13) : (encL s)[7 + 13 * q + j]? = (encW (s.2.2 q))[j]? := by
  rw [encL, List.getElem?_append_right (by show 7 ≤ _; omega), show 7 + 13 * q + j - (hdL s).length = 13 * q + j by show 7 + 13 * q + j - 7 = _; omega, wsL_at _ _ _ _ _ hq hj, Nat.zero_add]
theorem encL_h (s : LSt) {k : Nat} (hk : k < 7) : (encL s)[k]? = (hdL s)[k]? := by
  rw [encL, List.getElem?_append_left (show k < 7 from hk)]
def setW (s : LSt) (q : Nat) (w : WS) : LSt := (s.1, s.2.1, fun j => bif Nat.beq j q then w else s.2.2 j)
theorem setW_self (s : LSt) (q : Nat) : setW s q (s.2.2 q) = s := by
  refine Prod.ext rfl (Prod.ext rfl (funext fun j => ?_))
  show (bif Nat.beq j q then s.2.2 q else s.2.2 j) = s.2.2 j
  cases e : Nat.beq j q with
  | false => rfl
  | true => rw [nB e]; rfl
theorem setW_at (s : LSt) (q : Nat) (w : WS) : (setW s q w).2.2 q = w := by
  show (bif Nat.beq q q then w else s.2.2 q) = w
  rw [Nat.beq_refl]; rfl
theorem setW_ne {s : LSt} {q j : Nat} {w : WS} (h : j ≠ q) : (setW s q w).2.2 j = s.2.2 j := by
  show (bif Nat.beq j q then w else s.2.2 j) = s.2.2 j
  cases e : Nat.beq j q with
  | false => rfl
  | true => exact absurd (nB e) h
theorem bdL_set {s : LSt} {q : Nat} {w : WS} (hb : bdL s) (hw : bdW w) : bdL (setW s q w) := by
  refine ⟨hb.1, hb.2.1, fun j => ?_⟩
  show bdW (bif Nat.beq j q then w else s.2.2 j)
  cases Nat.beq j q with
  | true => exact hw
  | false => exact hb.2.2 j
theorem encL_split (k : Nat) : k < 7 ∨ (∃ q j, q < 10 ∧ j < 13 ∧ k = 7 + 13 * q + j) ∨ 137 ≤ k := by
  rcases Nat.lt_or_ge k 7 with h | h
  · exact Or.inl h
  · rcases Nat.lt_or_ge k 137 with h2 | h2
    · exact Or.inr (Or.inl ⟨(k - 7) / 13, (k - 7) % 13, by omega, by omega, by omega⟩)
    · exact Or.inr (Or.inr h2)
/-- one World -/
theorem lkL {q : Nat} (hq : q < 10) : vLk encL bdL encW bdW (fun k => 7 + 13 * q + k) (fun s => s.2.2 q) (fun s w => setW s q w) := by
  refine ⟨fun s hb => ⟨hb.2.2 q, ⟨fun i j _ _ e => Nat.add_left_cancel e, fun j hj => ?_⟩, fun j c _ => xl_ok_add _ j c⟩, fun s w hb hw => ⟨bdL_set hb hw, rfl, ⟨lenL _ _, fun j hj => ?_, fun k hk => ?_⟩, fun j c _ => xl_ok_add _ j c⟩⟩
  · have hj : j < 13 := hj
    exact ⟨encL_w s hq hj, by rw [lenL137]; show 7 + 13 * q + j < 137; omega⟩
  · have hj : j < 13 := hj
    show (encL (setW s q w))[7 + 13 * q + j]? = _
    rw [encL_w _ hq hj, setW_at]
  · rcases encL_split k with h | ⟨p, j, hp, hj, rfl⟩ | h
    · rw [encL_h _ h, encL_h _ h]; rfl
    · have hne : p ≠ q := fun e => by subst e; exact hk j hj rfl
      rw [encL_w _ hp hj, encL_w _ hp hj, setW_ne hne]
    · rw [List.getElem?_eq_none (by rw [lenL137]; omega), List.getElem?_eq_none (by rw [lenL137]; omega)]
/-- two Worlds -/
def piL (a b : Nat) : Nat → Nat := fun k => if k < 13 then 7 + 13 * a + k else 7 + 13 * b + (k - 13)
theorem encWW_at1 (s : WWS) {j : Nat} (h : j < 13) : (encWW s)[j]? = (encW s.1)[j]? := by rw [encWW, List.getElem?_append_left (by rw [lenW13]; exact h)]
theorem encWW_at2 (s : WWS) {j : Nat} (h : ¬ j < 13) : (encWW s)[j]? = (encW s.2)[j - 13]? := by rw [encWW, List.getElem?_append_right (by rw [lenW13]; omega), lenW13]
theorem lenWW26 (s : WWS) : (encWW s).length = 26 := rfl
theorem encW_ref (w : WS) {j : Nat} {c : XE} (h : (encW w)[j]? = some c) (π : Nat → Nat) (hπ : ∀ d, j + d < 13 → π (j + d) = π j + d) : xl_ok π j c := by
  intro aC ρ σ'
  match j, h with
  | 0, h => cases h; simp only [xl_c, List.map_cons, List.map_nil, xl_v, hπ 1 (by decide), hπ 3 (by decide), hπ 5 (by decide), hπ 7 (by decide), hπ 9 (by decide), hπ 11 (by decide)]
  | 1, h => cases h; simp only [xl_c, List.map_cons, List.map_nil, xl_v, hπ 1 (by decide)]
  | 2, h => cases h; rfl
  | 3, h => cases h; simp only [xl_c, List.map_cons, List.map_nil, xl_v, hπ 1 (by decide)]
  | 4, h => cases h; rfl
  | 5, h => cases h; simp only [xl_c, List.map_cons, List.map_nil, xl_v, hπ 1 (by decide)]
  | 6, h => cases h; rfl
  | 7, h => cases h; simp only [xl_c, List.map_cons, List.map_nil, xl_v, hπ 1 (by decide)]
  | 8, h => cases h; rfl
  | 9, h => cases h; simp only [xl_c, List.map_cons, List.map_nil, xl_v, hπ 1 (by decide)]
  | 10, h => cases h; rfl
  | 11, h => cases h; simp only [xl_c, List.map_cons, List.map_nil, xl_v, hπ 1 (by decide)]
  | 12, h => cases h; rfl
  | j + 13, h => cases h
theorem lkL2 {a b : Nat} (ha : a < 10) (hb : b < 10) (hab : a ≠ b) : vLk encL bdL encWW bdWW (piL a b) (fun s => (s.2.2 a, s.2.2 b)) (fun s w => setW (setW s a w.1) b w.2) := by
  have hok : ∀ (s : WWS) (j : Nat) (c : XE), (encWW s)[j]? = some c → xl_ok (piL a b) j c := by
    intro s j c h
    by_cases hj : j < 13
    · rw [encWW_at1 s hj] at h
      refine encW_ref s.1 h _ (fun d hd => ?_)
      unfold piL
      rw [if_pos (by omega), if_pos (by omega)]; omega
    · have hj2 : j < 26 := (List.getElem?_eq_some_iff.mp h).1
      rw [encWW_at2 s hj] at h
      have key := encW_ref s.2 h (fun k => 7 + 13 * b + k) (fun d _ => by omega)
      have e : ∀ ρ : Nat → Nat, (fun d => (fun k => ρ (piL a b k)) (j + d)) = fun d => ρ (7 + 13 * b + (j - 13) + d) := by
        intro ρ
        funext d
        show ρ (piL a b (j + d)) = _
        unfold piL
        rw [if_neg (by omega)]
        congr 1; omega
      intro aC ρ σ'
      have e2 : piL a b j = 7 + 13 * b + (j - 13) := by unfold piL; rw [if_neg hj]
      rw [e2]
      cases c with
      | inr o => simp only [xl_c]; rw [e ρ]
      | inl o =>
        obtain ⟨t, n, f | f | f | f | f⟩ := o
        · rfl
        · rfl
        · rfl
        · rfl
        · have := congrFun (e ρ)
          simp only [xl_c, xl_a]
          rw [show (fun d => ρ (piL a b (j + d))) = fun d => ρ (7 + 13 * b + (j - 13) + d) from e ρ]
  refine ⟨fun s hs => ⟨⟨hs.2.2 a, hs.2.2 b⟩, ⟨fun i j hi hj e => ?_, fun j hj => ?_⟩, hok _⟩, fun s w hs hw => ⟨bdL_set (bdL_set hs hw.1) hw.2, rfl, ⟨lenL _ _, fun j hj => ?_, fun k hk => ?_⟩, hok _⟩⟩
  · rw [lenWW26] at hi hj
    unfold piL at e
    split at e <;> split at e <;> omega
  · rw [lenWW26] at hj
    by_cases c : j < 13
    · rw [encWW_at1 _ c, show piL a b j = 7 + 13 * a + j from if_pos c]
      exact ⟨encL_w s ha c, by rw [lenL137]; omega⟩
    · rw [encWW_at2 _ c, show piL a b j = 7 + 13 * b + (j - 13) from if_neg c]
      exact ⟨encL_w s hb (by omega), by rw [lenL137]; omega⟩
  · rw [lenWW26] at hj
    by_cases c : j < 13
    · rw [encWW_at1 _ c, show piL a b j = 7 + 13 * a + j from if_pos c, encL_w _ ha c, setW_ne hab, setW_at]
    · rw [encWW_at2 _ c, show piL a b j = 7 + 13 * b + (j - 13) from if_neg c, encL_w _ hb (by omega), setW_at]
  · rcases encL_split k with h | ⟨p, j, hp, hj, rfl⟩ | h
    · rw [encL_h _ h, encL_h _ h]; rfl
    · have hne : p ≠ a := fun e => by subst e; exact hk j (by rw [lenWW26]; omega) (if_pos hj)
      have hne2 : p ≠ b := fun e => by subst e; exact hk (13 + j) (by rw [lenWW26]; omega) (by unfold piL; rw [if_neg (by omega)]; omega)
      rw [encL_w _ hp hj, encL_w _ hp hj, setW_ne hne2, setW_ne hne]
    · rw [List.getElem?_eq_none (by rw [lenL137]; omega), List.getElem?_eq_none (by rw [lenL137]; omega)]
/-- views -/
def tabL : Nat → Option (Nat × Nat) := fun r => match xl_n [none, none, none, none, none, none, none, some (0, 0), some (0, 1), some (0, 2), some (0, 3), some (0, 4), some (0, 5), some (0, 6), some (0, 7), some (0, 8), some (0, 9), some (0, 10), some (0, 11), some (0, 12), some (1, 0), some (1, 1), some (1, 2), some (1, 3), some (1, 4), some (1, 5), some (1, 6), some (1, 7), some (1, 8), some (1, 9), some (1, 10), some (1, 11), some (1, 12)] r with
  | some x => x
  | none => none
theorem tabL_inv {r q j : Nat} (h : tabL r = some (q, j)) : q < 10 ∧ j < 13 ∧ r = 7 + 13 * q + j := by
  match r, h with
  | 0, h => cases h
  | 1, h => cases h
  | 2, h => cases h
  | 3, h => cases h
  | 4, h => cases h
  | 5, h => cases h
  | 6, h => cases h
  | 7, h => cases h; exact ⟨by decide, by decide, rfl⟩
  | 8, h => cases h; exact ⟨by decide, by decide, rfl⟩
  | 9, h => cases h; exact ⟨by decide, by decide, rfl⟩
  | 10, h => cases h; exact ⟨by decide, by decide, rfl⟩
  | 11, h => cases h; exact ⟨by decide, by decide, rfl⟩
  | 12, h => cases h; exact ⟨by decide, by decide, rfl⟩
  | 13, h => cases h; exact ⟨by decide, by decide, rfl⟩
  | 14, h => cases h; exact ⟨by decide, by decide, rfl⟩
  | 15, h => cases h; exact ⟨by decide, by decide, rfl⟩
  | 16, h => cases h; exact ⟨by decide, by decide, rfl⟩
  | 17, h => cases h; exact ⟨by decide, by decide, rfl⟩
  | 18, h => cases h; exact ⟨by decide, by decide, rfl⟩
  | 19, h => cases h; exact ⟨by decide, by decide, rfl⟩
  | 20, h => cases h; exact ⟨by decide, by decide, rfl⟩
  | 21, h => cases h; exact ⟨by decide, by decide, rfl⟩
  | 22, h => cases h; exact ⟨by decide, by decide, rfl⟩
  | 23, h => cases h; exact ⟨by decide, by decide, rfl⟩
  | 24, h => cases h; exact ⟨by decide, by decide, rfl⟩
  | 25, h => cases h; exact ⟨by decide, by decide, rfl⟩
  | 26, h => cases h; exact ⟨by decide, by decide, rfl⟩
  | 27, h => cases h; exact ⟨by decide, by decide, rfl⟩
  | 28, h => cases h; exact ⟨by decide, by decide, rfl⟩
  | 29, h => cases h; exact ⟨by decide, by decide, rfl⟩
  | 30, h => cases h; exact ⟨by decide, by decide, rfl⟩
  | 31, h => cases h; exact ⟨by decide, by decide, rfl⟩
  | 32, h => cases h; exact ⟨by decide, by decide, rfl⟩
  | r + 33, h => cases h
def fgL : FG LSt := fun s r ci k => bif Nat.beq r 0 then (bif Nat.beq ci 2 then xl_n [pR 7, pR 20, pR 1, pI (s.1 0), pI (s.1 1), pR 2, pI (s.1 2), pR 3, pI (s.1 3), pR 4, pI (s.1 4), pR 5, pR 6] k else none) else match tabL r with
  | some (q, j) => oUp (7 + 13 * q) (fgW (s.2.2 q) j ci k)
  | none => none
def setS (s : LSt) (k : Nat) (v : Int) : LSt := (fun j => bif Nat.beq j k then v else s.1 j, s.2)
def setA (s : LSt) (a : Nat) (g : Nat → Int) : LSt := (s.1, fun j => bif Nat.beq j a then g else s.2.1 j, s.2.2)
def fpL : FP LSt := fun s r ci k z => bif Nat.beq r 0 then (bif Nat.beq ci 2 then (match xl_n [none, none, none, some 0, some 1, none, some 2, none, some 3, none, some 4] k with
  | some (some j) => some (setS s j z)
  | _ => none) else none) else none
def agL : AG LSt := fun s r => match xl_n [none, none, none, some (1, 6, s.2.1 0), some (0, 80, s.2.1 1), some (0, 160, s.2.1 2), some (0, 101, s.2.1 3)] r with
  | some x => x
  | none => none
def apL : AP LSt := fun s r g => setA s (r - 3) g
def arL : LSt → Nat → Option (Nat × (Nat → Nat)) := fun _ r => bif Nat.beq r 1 then some (6, fun j => 33 + 13 * j) else bif Nat.beq r 2 then some (2, fun j => 111 + 13 * j) else none
theorem vFgL : vFg encL bdL fgL := by
  intro s r ci k v hb h
  unfold fgL at h
  cases e : Nat.beq r 0 with
  | true =>
    rw [e] at h
    obtain ⟨h2, h3⟩ := bN h
    have e := nB e
    have h2 := nB h2
    subst e; subst h2
    match k, h3 with
    | 0, h3 => cases h3; exact ⟨_, _, rfl, rfl, rfl, fun z e => by cases e⟩
    | 1, h3 => cases h3; exact ⟨_, _, rfl, rfl, rfl, fun z e => by cases e⟩
    | 2, h3 => cases h3; exact ⟨_, _, rfl, rfl, rfl, fun z e => by cases e⟩
    | 3, h3 => cases h3; exact ⟨_, _, rfl, rfl, rfl, fun z e => by cases e; exact hb.1 0⟩
    | 4, h3 => cases h3; exact ⟨_, _, rfl, rfl, rfl, fun z e => by cases e; exact hb.1 1⟩
    | 5, h3 => cases h3; exact ⟨_, _, rfl, rfl, rfl, fun z e => by cases e⟩
    | 6, h3 => cases h3; exact ⟨_, _, rfl, rfl, rfl, fun z e => by cases e; exact hb.1 2⟩
    | 7, h3 => cases h3; exact ⟨_, _, rfl, rfl, rfl, fun z e => by cases e⟩
    | 8, h3 => cases h3; exact ⟨_, _, rfl, rfl, rfl, fun z e => by cases e; exact hb.1 3⟩
    | 9, h3 => cases h3; exact ⟨_, _, rfl, rfl, rfl, fun z e => by cases e⟩
    | 10, h3 => cases h3; exact ⟨_, _, rfl, rfl, rfl, fun z e => by cases e; exact hb.1 4⟩
    | 11, h3 => cases h3; exact ⟨_, _, rfl, rfl, rfl, fun z e => by cases e⟩
    | 12, h3 => cases h3; exact ⟨_, _, rfl, rfl, rfl, fun z e => by cases e⟩
  | false =>
    rw [e] at h
    dsimp only [cond_false] at h
    split at h
    · next q j hq =>
      obtain ⟨hq1, hj1, rfl⟩ := tabL_inv hq
      cases e3 : fgW (s.2.2 q) j ci k with
      | none => rw [e3] at h; cases h
      | some v0 =>
        rw [e3] at h
        cases h
        obtain ⟨fs, w, e1, e2, e3, e4⟩ := vFgW _ _ _ _ _ (hb.2.2 _) e3
        refine ⟨fs, w, ?_, e2, pUp_o e3, ?_⟩
        · rw [xl_n_eq] at e1 ⊢
          rw [encL_w s hq1 hj1]; exact e1
        · intro z hz
          rcases v0 with z0 | z0 | q | j
          · cases hz; exact e4 z rfl
          · cases hz
          · cases hz
          · cases hz
    · cases h
theorem bdL_S {s : LSt} {k : Nat} {v : Int} (hb : bdL s) (hv : xB v) : bdL (setS s k v) := by
  refine ⟨fun j => ?_, hb.2⟩
  show xB (bif Nat.beq j k then v else s.1 j)
  cases Nat.beq j k with
  | true => exact hv
  | false => exact hb.1 j
theorem bdL_A {s : LSt} {a : Nat} {g : Nat → Int} (hb : bdL s) (hv : ∀ k, xB (g k)) : bdL (setA s a g) := by
  refine ⟨hb.1, fun j => ?_, hb.2.2⟩
  show ∀ k, xB ((bif Nat.beq j a then g else s.2.1 j) k)
  cases Nat.beq j a with
  | true => exact hv
  | false => exact hb.2.1 j
theorem vFpL : vFp encL bdL fpL := by
  intro s r ci k z s' hb hz h
  obtain ⟨h1, g1⟩ := bN h
  obtain ⟨h2, g2⟩ := bN g1
  clear h g1
  have h1 := nB h1
  have h2 := nB h2
  subst h1; subst h2
  match k, g2 with
  | 3, g2 => cases g2; exact ⟨_, rfl, Nat.le_of_ble_eq_true rfl, rfl, bdL_S hb hz⟩
  | 4, g2 => cases g2; exact ⟨_, rfl, Nat.le_of_ble_eq_true rfl, rfl, bdL_S hb hz⟩
  | 6, g2 => cases g2; exact ⟨_, rfl, Nat.le_of_ble_eq_true rfl, rfl, bdL_S hb hz⟩
  | 8, g2 => cases g2; exact ⟨_, rfl, Nat.le_of_ble_eq_true rfl, rfl, bdL_S hb hz⟩
  | 10, g2 => cases g2; exact ⟨_, rfl, Nat.le_of_ble_eq_true rfl, rfl, bdL_S hb hz⟩
theorem vAgL : vAg encL bdL agL apL := by
  intro s r t n g hb h
  match r, h with
  | 3, h => cases h; exact ⟨by decide, hb.2.1 0, rfl, fun g' hg => ⟨bdL_A hb hg, rfl⟩⟩
  | 4, h => cases h; exact ⟨by decide, hb.2.1 1, rfl, fun g' hg => ⟨bdL_A hb hg, rfl⟩⟩
  | 5, h => cases h; exact ⟨by decide, hb.2.1 2, rfl, fun g' hg => ⟨bdL_A hb hg, rfl⟩⟩
  | 6, h => cases h; exact ⟨by decide, hb.2.1 3, rfl, fun g' hg => ⟨bdL_A hb hg, rfl⟩⟩
theorem vArL : vAr encL bdL arL := by
  intro s r n q hb h
  unfold arL at h
  cases e1 : Nat.beq r 1 with
  | true =>
    rw [e1] at h
    have e1 := nB e1
    subst e1
    cases h
    exact ⟨by decide, _, rfl, fun j hj => ⟨_, rfl, by show 1 + (32 + 13 * j) = 33 + 13 * j; omega⟩⟩
  | false =>
    rw [e1] at h
    obtain ⟨h3, h4⟩ := bN h
    have h3 := nB h3
    subst h3
    cases h4
    exact ⟨by decide, _, rfl, fun j hj => ⟨_, rfl, by show 2 + (109 + 13 * j) = 111 + 13 * j; omega⟩⟩
