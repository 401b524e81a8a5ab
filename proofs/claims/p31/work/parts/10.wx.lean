/-! ===== ops: a block of code as a predicate transformer over plain data; whole numbers, a view of the cells (σ with enc) ===== -/
abbrev xB (z : Int) : Prop := -2147483648 ≤ z ∧ z ≤ 2147483647
abbrev PV : Type := Int ⊕ (Int ⊕ (Nat ⊕ Nat))
abbrev PL : Type := List (Option PV)
abbrev PS : Type := List PV
abbrev pI (z : Int) : PV := .inl z
abbrev pJ (z : Int) : PV := .inr (.inl z)
abbrev pR (r : Nat) : PV := .inr (.inr (.inl r))
abbrev pS (j : Nat) : PV := .inr (.inr (.inr j))
def pV : PV → Value := fun v => match v with
  | .inl z => .int (iI z)
  | .inr (.inl z) => .long (lI z)
  | .inr (.inr (.inl r)) => .ref r
  | .inr (.inr (.inr j)) => .float j.toUInt32
def eL (L : PL) : List (Option Value) := L.map (Option.map pV)
theorem eL_n (L : PL) (i : Nat) : xl_n (eL L) i = (xl_n L i).map (Option.map pV) := by
  rw [xl_n_eq, xl_n_eq, eL, List.getElem?_map]
theorem eL_s (L : PL) (i : Nat) (v : PV) : xl_s (eL L) i (some (pV v)) = eL (xl_s L i (some v)) := by
  rw [xl_s_eq, xl_s_eq, eL, eL, List.map_set]; rfl
theorem eL_at {L : PL} {i : Nat} {v : PV} (h : xl_n L i = some (some v)) : xl_n (eL L) i = some (some (pV v)) := by rw [eL_n, h]; rfl
/-- no value of two words ends at a place -/
def pk : PL → Nat → Bool
  | [], _ => true
  | _ :: _, 0 => true
  | a :: _, 1 => match a with
    | some (.inr (.inl _)) => false
    | _ => true
  | _ :: l, k + 2 => pk l (k + 1)
theorem pk_ok : ∀ (L : PL) (i : Nat), pk L i = true → xl_k (eL L) i = true
  | [], i, _ => by cases i <;> rfl
  | a :: l, 0, _ => rfl
  | a :: l, 1, h => by
    cases a with
    | none => rfl
    | some v => 
      rcases v with z | z | r | j
      · rfl
      · simp [pk] at h
      · rfl
      · rfl
  | a :: l, k + 2, h => pk_ok l (k + 1) h
/-- what is dead at a place is forgotten -/
def pm : List Bool → PL → PL
  | [], L => L
  | _, [] => []
  | true :: m, a :: l => a :: pm m l
  | false :: m, _ :: l => none :: pm m l
theorem pm_n : ∀ (m : List Bool) (L : PL) (i : Nat) (v : PV), xl_n (pm m L) i = some (some v) → xl_n L i = some (some v)
  | [], L, i, v, h => h
  | _ :: _, [], i, v, h => by simp [pm, xl_n] at h
  | true :: m, a :: l, 0, v, h => h
  | false :: m, a :: l, 0, v, h => by simp [pm, xl_n] at h
  | true :: m, a :: l, i + 1, v, h => pm_n m l i v h
  | false :: m, a :: l, i + 1, v, h => pm_n m l i v h
theorem xl_weak {M : XI} {rc rs pc : Nat} {L L' : List (Option Value)} {st : List Value} {h : XH} {Po : Option (Option Value) → XH → Prop} (hl : ∀ i v, xl_n L' i = some (some v) → xl_n L i = some (some v)) (k : xl_W M rc rs pc L' st h Po) : xl_W M rc rs pc L st h Po := by
  intro p l e R s m args below meth c D aC ρ σ aV A H locs cells slots ls Q hX hH hL h1 h2 hr ht
  exact k p l e R s m args below meth c D aC ρ σ aV A H locs cells slots ls Q hX hH ⟨hL.1, hL.2.1, fun i v hi => hL.2.2 i v (hl i v hi)⟩ h1 h2 hr ht
theorem pm_weak {M : XI} {rc rs pc : Nat} {m : List Bool} {L : PL} {st : List Value} {h : XH} {Po : Option (Option Value) → XH → Prop} (k : xl_W M rc rs pc (eL (pm m L)) st h Po) : xl_W M rc rs pc (eL L) st h Po := by
  refine xl_weak (fun i v hi => ?_) k
  rw [eL_n] at hi ⊢
  cases hx : xl_n (pm m L) i with
  | none => rw [hx] at hi; cases hi
  | some o =>
    cases o with
    | none => rw [hx] at hi; cases hi
    | some w => rw [hx] at hi; rw [pm_n m L i w hx]; exact hi
section WX
variable {σ : Type}
abbrev JP (σ : Type) : Type := Nat → PL → PS → σ → Prop
abbrev Blk (σ : Type) : Type := JP σ → PL → PS → σ → Prop
/-- a method's end, plainly -/
def wQ (enc : σ → XH) (bd : σ → Prop) (Po : PS → σ → Prop) (Pt : σ → Prop) : Option (Option Value) → XH → Prop := fun r h' => match r with
  | some v => ∃ (v' : PS) (s' : σ), v.toList = v'.map pV ∧ h' = enc s' ∧ bd s' ∧ (∀ a, v ≠ some (.ref a)) ∧ Po v' s'
  | none => ∃ s' : σ, h' = enc s' ∧ bd s' ∧ Pt s'
def wX (enc : σ → XH) (bd : σ → Prop) (M : XI) (rc rs : Nat) (Po : PS → σ → Prop) (Pt : σ → Prop) : JP σ := fun pc L st s =>
  bif Nat.beq pc 1000000 then Po st s else bif Nat.beq pc 1000001 then Pt s else (bd s → xl_W M rc rs pc (eL L) (st.map pV) (enc s) (wQ enc bd Po Pt))
def bOk (enc : σ → XH) (bd : σ → Prop) (M : XI) (rc rs pc : Nat) (B : Blk σ) : Prop :=
  ∀ Po Pt (J : JP σ), (∀ pc L st s, J pc L st s → wX enc bd M rc rs Po Pt pc L st s) → ∀ L st s, bd s → B J L st s → xl_W M rc rs pc (eL L) (st.map pV) (enc s) (wQ enc bd Po Pt)
/-- the blocks, one behind another, up to a cut -/
def pIn : List Nat → Nat → Bool
  | [], _ => false
  | a :: l, k => bif Nat.beq k a then true else pIn l k
def wp (T : Nat → Blk σ) (cut : List Nat) (J : JP σ) : Nat → JP σ
  | 0, pc, L, st, s => J pc L st s
  | n + 1, pc, L, st, s => bif Nat.ble 1000000 pc then J pc L st s else bif pIn cut pc then J pc L st s else T pc (wp T cut J n) L st s
variable {enc : σ → XH} {bd : σ → Prop} {M : XI} {rc rs pc pc2 tgt : Nat} {B : Blk σ}
theorem beqF {a b : Nat} (h : a < b) : Nat.beq a b = false := by
  cases e : Nat.beq a b with
  | false => rfl
  | true => have := Nat.eq_of_beq_eq_true e; omega
theorem wX_lt {Po : PS → σ → Prop} {Pt : σ → Prop} {L : PL} {st : PS} {s : σ} (h : tgt < 1000000) : wX enc bd M rc rs Po Pt tgt L st s = (bd s → xl_W M rc rs tgt (eL L) (st.map pV) (enc s) (wQ enc bd Po Pt)) := by
  unfold wX
  rw [beqF h, beqF (by omega)]
  rfl
end WX
