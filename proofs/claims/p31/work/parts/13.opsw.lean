/-! ===== more ops: sums that may go round, switches, arrays of objects ===== -/
theorem tl {t : Nat} (h : Nat.blt t 1000000 = true) : t < 1000000 := Nat.le_of_ble_eq_true h
/-- a whole number as an int has it -/
def wI (z : Int) : Int := (iI z).toInt
theorem wI_B (z : Int) : xB (wI z) := xb_of _
theorem wI_eq {z : Int} (h : xB z) : wI z = z := iI_toInt h
theorem iI_wI (z : Int) : iI (wI z) = iI z := iI_of _
section OPW
variable {σ : Type} {enc : σ → XH} {bd : σ → Prop} {M : XI} {rc rs pc pc2 tgt : Nat} {B : Blk σ}
def oAddW (B : Blk σ) : Blk σ := fun J L st s => match st with
  | .inl b :: .inl a :: st => xB (wI (a + b)) → B J L (.inl (wI (a + b)) :: st) s
  | _ => False
def oSubW (B : Blk σ) : Blk σ := fun J L st s => match st with
  | .inl b :: .inl a :: st => xB (wI (a - b)) → B J L (.inl (wI (a - b)) :: st) s
  | _ => False
def oMulW (B : Blk σ) : Blk σ := fun J L st s => match st with
  | .inl b :: .inl a :: st => xB (wI (a * b)) → B J L (.inl (wI (a * b)) :: st) s
  | _ => False
theorem pV_wI (z : Int) : pV (.inl (wI z)) = pV (.inl z) := congrArg Value.int (iI_wI z)
theorem okAddW (d : xl_D M pc .iadd 1 pc2) (k : bOk enc bd M rc rs pc2 B) : bOk enc bd M rc rs pc (oAddW B) := by
  intro Po Pt J hJ L st s hb h
  unfold oAddW at h
  split at h
  · next b a st => 
    have := k Po Pt J hJ _ _ _ hb (h (wI_B _))
    rw [List.map_cons, pV_wI] at this
    exact xz_iadd d this
  · exact h.elim
theorem okSubW (d : xl_D M pc .isub 1 pc2) (k : bOk enc bd M rc rs pc2 B) : bOk enc bd M rc rs pc (oSubW B) := by
  intro Po Pt J hJ L st s hb h
  unfold oSubW at h
  split at h
  · next b a st => 
    have := k Po Pt J hJ _ _ _ hb (h (wI_B _))
    rw [List.map_cons, pV_wI] at this
    exact xz_isub d this
  · exact h.elim
theorem okMulW (d : xl_D M pc .imul 1 pc2) (k : bOk enc bd M rc rs pc2 B) : bOk enc bd M rc rs pc (oMulW B) := by
  intro Po Pt J hJ L st s hb h
  unfold oMulW at h
  split at h
  · next b a st => 
    have := k Po Pt J hJ _ _ _ hb (h (wI_B _))
    rw [List.map_cons, pV_wI] at this
    exact xz_imul d this
  · exact h.elim
/-- the place of an object in an array: each one by itself -/
def oAa (ar : σ → Nat → Option (Nat × (Nat → Nat))) (B : Blk σ) : Blk σ := fun J L st s => match st with
  | .inl i :: .inr (.inr (.inl r)) :: st => match ar s r with
    | some (n, q) => (0 ≤ i ∧ i < (n : Int)) ∧ ∀ j : Nat, j < n → i = (j : Int) → B J L (.inr (.inr (.inl (q j))) :: st) s
    | none => False
  | _ => False
def vAr (enc : σ → XH) (bd : σ → Prop) (ar : σ → Nat → Option (Nat × (Nat → Nat))) : Prop := ∀ s r n q, bd s → ar s r = some (n, q) → n ≤ 1000000 ∧ ∃ f, xl_n (enc s) r = some (xQ n f) ∧ ∀ j, j < n → ∃ d, f j = some d ∧ r + d = q j
theorem okAa {ar : σ → Nat → Option (Nat × (Nat → Nat))} (hv : vAr enc bd ar) (d : xl_D M pc .aaload 1 pc2) (k : bOk enc bd M rc rs pc2 B) : bOk enc bd M rc rs pc (oAa ar B) := by
  intro Po Pt J hJ L st s hb h
  unfold oAa at h
  split at h
  · next i r st =>
    split at h
    · next n q hz =>
      obtain ⟨hn, f, e1, e2⟩ := hv s r _ _ hb hz
      obtain ⟨q1, q2⟩ := iI_inN hn h.1
      obtain ⟨dd, e3, e4⟩ := e2 i.toNat (by omega)
      refine xl_aald d e1 q1 (q := dd) (by rw [q2]; exact e3) ?_
      rw [e4]
      exact k Po Pt J hJ _ _ _ hb (h.2 i.toNat (by omega) (by omega))
    · exact h.elim
  · exact h.elim
/-- switches -/
def oTabP (J : JP σ) (L : PL) (st : PS) (s : σ) (z lo0 : Int) (df : Nat) : List Nat → Int → Prop
  | [], lo => (z < lo0 ∨ lo ≤ z) → J df L st s
  | t :: ts, lo => (z = lo → J t L st s) ∧ oTabP J L st s z lo0 df ts (lo + 1)
def oTab (lo : Int) (ts : List Nat) (df : Nat) : Blk σ := fun J L st s => match st with
  | .inl z :: st => xB z ∧ oTabP J L st s z lo df ts lo
  | _ => False
theorem oTabP_in {J : JP σ} {L : PL} {st : PS} {s : σ} {z lo0 : Int} {df : Nat} : ∀ (ts : List Nat) (lo : Int), oTabP J L st s z lo0 df ts lo → ∀ (k t : Nat), ts[k]? = some t → z = lo + k → J t L st s
  | [], lo, _, k, t, e, _ => by simp at e
  | a :: ts, lo, h, 0, t, e, hz => by
    simp at e; subst e
    exact h.1 (by omega)
  | a :: ts, lo, h, k + 1, t, e, hz => oTabP_in ts (lo + 1) h.2 k t (by simpa using e) (by omega)
theorem oTabP_out {J : JP σ} {L : PL} {st : PS} {s : σ} {z lo0 : Int} {df : Nat} : ∀ (ts : List Nat) (lo : Int), oTabP J L st s z lo0 df ts lo → (z < lo0 ∨ lo + ts.length ≤ z) → J df L st s
  | [], lo, h, hz => h (by simpa using hz)
  | a :: ts, lo, h, hz => oTabP_out ts (lo + 1) h.2 (by simp only [List.length_cons] at hz; omega)
theorem xl_tab {L : List (Option Value)} {st : List Value} {h : XH} {Po : Option (Option Value) → XH → Prop} {a : Int32} {dflt lo hi : Int} {offs : Array Int} {len : Nat} (d : decode M.2.1 pc = .ok (.tableswitch dflt lo hi offs, len)) (ts : List Nat) (df : Nat) (h1 : (pc : Int) + dflt = df) (h2 : ∀ k : Nat, (k : Int) ≤ hi - lo → ∃ (off : Int) (t : Nat), offs[k]? = some off ∧ ts[k]? = some t ∧ (pc : Int) + off = t)
    (ki : ∀ (k t : Nat), ts[k]? = some t → a.toInt = lo + k → xl_W M rc rs t L st h Po) (ko : a.toInt < lo ∨ hi < a.toInt → xl_W M rc rs df L st h Po) : xl_W M rc rs pc L (.int a :: st) h Po := by
  intro p l e R s m args below meth c D aC ρ σ aV A H locs cells slots ls Q hX hH hL q1 q2 hr ht
  by_cases c1 : a.toInt < lo ∨ hi < a.toInt
  · exact lv_tableOut hX.1 hX.2.1 d c1 h1 (ko c1 p l e R s m args below meth c D aC ρ σ aV A H locs cells slots ls Q hX hH hL q1 q2 hr ht)
  · obtain ⟨off, t, e1, e2, e3⟩ := h2 (a.toInt - lo).toNat (by omega)
    exact lv_tableIn hX.1 hX.2.1 d (by omega) (by omega) e1 e3 (ki _ t e2 (by omega) p l e R s m args below meth c D aC ρ σ aV A H locs cells slots ls Q hX hH hL q1 q2 hr ht)
def tabOk (pc : Nat) : List Int → List Nat → Bool
  | [], [] => true
  | o :: os, t :: ts => decide ((pc : Int) + o = (t : Int)) && (decide (t < 1000000) && tabOk pc os ts)
  | _, _ => false
theorem tabOk_at {pc : Nat} : ∀ (os : List Int) (ts : List Nat), tabOk pc os ts = true → os.length = ts.length ∧ ∀ (k : Nat), k < ts.length → ∃ (off : Int) (t : Nat), os[k]? = some off ∧ ts[k]? = some t ∧ (pc : Int) + off = t ∧ t < 1000000
  | [], [], _ => ⟨rfl, fun k hk => by simp at hk⟩
  | [], _ :: _, h => by simp [tabOk] at h
  | _ :: _, [], h => by simp [tabOk] at h
  | o :: os, t :: ts, h => by
    simp only [tabOk, Bool.and_eq_true, decide_eq_true_eq] at h
    obtain ⟨e1, e2⟩ := tabOk_at os ts h.2.2
    refine ⟨by simp [e1], fun k hk => ?_⟩
    cases k with
    | zero => exact ⟨o, t, rfl, rfl, h.1, h.2.1⟩
    | succ k => 
      obtain ⟨off, t', a1, a2, a3, a4⟩ := e2 k (by simpa using hk)
      exact ⟨off, t', by simpa using a1, by simpa using a2, a3, a4⟩
theorem okTab {dflt lo hi : Int} {offs : Array Int} {len : Nat} {ts : List Nat} {df : Nat} (h1 : (pc : Int) + dflt = df ∧ df < 1000000) (h2 : tabOk pc offs.toList ts = true) (h3 : lo + ts.length = hi + 1) (d : decode M.2.1 pc = .ok (.tableswitch dflt lo hi offs, len)) : bOk enc bd M rc rs pc (oTab lo ts df) := by
  intro Po Pt J hJ L st s hb h
  unfold oTab at h
  split at h
  · next z st =>
    obtain ⟨l1, l2⟩ := tabOk_at _ _ h2
    have hz : (iI z).toInt = z := iI_toInt h.1
    refine xl_tab d ts df h1.1 (fun k hk => ?_) (fun k t e1 e2 => ?_) (fun c => ?_)
    · obtain ⟨off, t, a1, a2, a3, a4⟩ := l2 k (by omega)
      exact ⟨off, t, by rw [← Array.getElem?_toList]; exact a1, a2, a3⟩
    · rw [hz] at e2
      have := hJ _ _ _ _ (oTabP_in ts lo h.2 k t e1 e2)
      obtain ⟨hk, -⟩ := List.getElem?_eq_some_iff.mp e1
      obtain ⟨off, t', a1, a2, a3, a4⟩ := l2 k hk
      rw [e1] at a2
      cases a2
      rw [wX_lt a4] at this
      exact this hb
    · rw [hz] at c
      have := hJ _ _ _ _ (oTabP_out ts lo h.2 (by omega))
      rw [wX_lt h1.2] at this
      exact this hb
  · exact h.elim
def oLookP (J : JP σ) (L : PL) (st : PS) (s : σ) (z : Int) (df : Nat) : List (Int × Nat) → Prop
  | [] => J df L st s
  | (k, t) :: ps => (z = k → J t L st s) ∧ (z ≠ k → oLookP J L st s z df ps)
def oLook (ps : List (Int × Nat)) (df : Nat) : Blk σ := fun J L st s => match st with
  | .inl z :: st => xB z ∧ oLookP J L st s z df ps
  | _ => False
end OPW
