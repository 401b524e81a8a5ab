/-! ===== World: ten numbers (0 gap, 1 lateness, 2 early, 3 progress, 4 sent, 5 closed, 6 taken, 7 late, 8 dropped, 9 melted), six tables (0 sources, 1 sessions, 2 messages, 3 finals, 4 inputs, 5 keys) ===== -/
abbrev WS : Type := (Nat → Int) × (Nat → TS)
abbrev KW : Type := PS → WS → Prop
def rmT : Nat → Int := fun t => (xl_n [4, 161, 60, 40, 160, 6] t).getD 0
def wdT : Nat → Int := fun t => (xl_n [5, 7, 6, 7, 7, 8] t).getD 0
def encW (w : WS) : XH := xO 1 [xi (w.1 0), xi (w.1 1), xi (w.1 2), xi (w.1 3), xi (w.1 4), xi (w.1 5), xi (w.1 6), xi (w.1 7), xi (w.1 8), xi (w.1 9), .ref 1, .ref 3, .ref 5, .ref 7, .ref 9, .ref 11] :: (encT (rmT 0) (wdT 0) (w.2 0) ++ (encT (rmT 1) (wdT 1) (w.2 1) ++ (encT (rmT 2) (wdT 2) (w.2 2) ++ (encT (rmT 3) (wdT 3) (w.2 3) ++ (encT (rmT 4) (wdT 4) (w.2 4) ++ (encT (rmT 5) (wdT 5) (w.2 5)))))))
def bdW (w : WS) : Prop := (∀ k, xB (w.1 k)) ∧ ∀ t, xB (w.2 t).1 ∧ ∀ k, xB ((w.2 t).2 k)
def tixW : Nat → Option Nat := fun r => match xl_n [none, some 0, none, some 1, none, some 2, none, some 3, none, some 4, none, some 5] r with
  | some (some t) => some t
  | _ => none
def wFd (w : WS) (k : Nat) (v : Int) : WS := (fun j => bif Nat.beq j k then v else w.1 j, w.2)
def setT (w : WS) (t : Nat) (b : TS) : WS := (w.1, fun j => bif Nat.beq j t then b else w.2 j)
theorem setT_self (w : WS) (t : Nat) : setT w t (w.2 t) = w := by
  refine Prod.ext rfl (funext fun j => ?_)
  show (bif Nat.beq j t then w.2 t else w.2 j) = w.2 j
  cases e : Nat.beq j t with
  | false => rfl
  | true => rw [nB e]; rfl
def fgW : FG WS := fun s r ci k => bif Nat.beq r 0 then (bif Nat.beq ci 1 then xl_n [pI (s.1 0), pI (s.1 1), pI (s.1 2), pI (s.1 3), pI (s.1 4), pI (s.1 5), pI (s.1 6), pI (s.1 7), pI (s.1 8), pI (s.1 9), pR 1, pR 3, pR 5, pR 7, pR 9, pR 11] k else none) else match tixW r with
  | some t => bif Nat.beq ci 0 then xl_n [pI (rmT t), pI (wdT t), pR (r + 1), pI (s.2 t).1] k else none
  | none => none
def fpW : FP WS := fun s r ci k z => bif Nat.beq r 0 then (bif Nat.beq ci 1 then (bif Nat.blt k 10 then some (wFd s k z) else none) else none) else none
theorem tixW_inv {r t : Nat} (h : tixW r = some t) : (r = 1 ∧ t = 0) ∨ (r = 3 ∧ t = 1) ∨ (r = 5 ∧ t = 2) ∨ (r = 7 ∧ t = 3) ∨ (r = 9 ∧ t = 4) ∨ (r = 11 ∧ t = 5) := by
  match r, h with
  | 0, h => cases h
  | 1, h => cases h; exact Or.inl ⟨rfl, rfl⟩
  | 2, h => cases h
  | 3, h => cases h; exact Or.inr (Or.inl ⟨rfl, rfl⟩)
  | 4, h => cases h
  | 5, h => cases h; exact Or.inr (Or.inr (Or.inl ⟨rfl, rfl⟩))
  | 6, h => cases h
  | 7, h => cases h; exact Or.inr (Or.inr (Or.inr (Or.inl ⟨rfl, rfl⟩)))
  | 8, h => cases h
  | 9, h => cases h; exact Or.inr (Or.inr (Or.inr (Or.inr (Or.inl ⟨rfl, rfl⟩))))
  | 10, h => cases h
  | 11, h => cases h; exact Or.inr (Or.inr (Or.inr (Or.inr (Or.inr (⟨rfl, rfl⟩)))))
  | n + 12, h => cases h
theorem rmT_b {r t : Nat} (h : tixW r = some t) : 0 ≤ rmT t ∧ rmT t ≤ 1000 ∧ 0 ≤ wdT t ∧ wdT t ≤ 100 := by
  rcases tixW_inv h with ⟨rfl, rfl⟩ | ⟨rfl, rfl⟩ | ⟨rfl, rfl⟩ | ⟨rfl, rfl⟩ | ⟨rfl, rfl⟩ | ⟨rfl, rfl⟩ <;> decide
theorem vFgW_t : ∀ (t r : Nat), tixW r = some t → ∀ (s : WS) (k : Nat) (v : PV), bdW s → xl_n [pI (rmT t), pI (wdT t), pR (r + 1), pI (s.2 t).1] k = some v → ∃ fs w, xl_n (encW s) r = some (.inr (0, fs)) ∧ xl_n fs k = some w ∧ xl_o r w = pV v ∧ ∀ z, v = .inl z → xB z := by
  intro t r ht s k v hb h
  obtain ⟨c1, c2, c3, c4⟩ := rmT_b ht
  rcases tixW_inv ht with ⟨rfl, rfl⟩ | ⟨rfl, rfl⟩ | ⟨rfl, rfl⟩ | ⟨rfl, rfl⟩ | ⟨rfl, rfl⟩ | ⟨rfl, rfl⟩
  · match k, h with
    | 0, h => cases h; exact ⟨_, _, rfl, rfl, rfl, fun z e => by cases e; exact ⟨by omega, by omega⟩⟩
    | 1, h => cases h; exact ⟨_, _, rfl, rfl, rfl, fun z e => by cases e; exact ⟨by omega, by omega⟩⟩
    | 2, h => cases h; exact ⟨_, _, rfl, rfl, rfl, fun z e => by cases e⟩
    | 3, h => cases h; exact ⟨_, _, rfl, rfl, rfl, fun z e => by cases e; exact (hb.2 0).1⟩
  · match k, h with
    | 0, h => cases h; exact ⟨_, _, rfl, rfl, rfl, fun z e => by cases e; exact ⟨by omega, by omega⟩⟩
    | 1, h => cases h; exact ⟨_, _, rfl, rfl, rfl, fun z e => by cases e; exact ⟨by omega, by omega⟩⟩
    | 2, h => cases h; exact ⟨_, _, rfl, rfl, rfl, fun z e => by cases e⟩
    | 3, h => cases h; exact ⟨_, _, rfl, rfl, rfl, fun z e => by cases e; exact (hb.2 1).1⟩
  · match k, h with
    | 0, h => cases h; exact ⟨_, _, rfl, rfl, rfl, fun z e => by cases e; exact ⟨by omega, by omega⟩⟩
    | 1, h => cases h; exact ⟨_, _, rfl, rfl, rfl, fun z e => by cases e; exact ⟨by omega, by omega⟩⟩
    | 2, h => cases h; exact ⟨_, _, rfl, rfl, rfl, fun z e => by cases e⟩
    | 3, h => cases h; exact ⟨_, _, rfl, rfl, rfl, fun z e => by cases e; exact (hb.2 2).1⟩
  · match k, h with
    | 0, h => cases h; exact ⟨_, _, rfl, rfl, rfl, fun z e => by cases e; exact ⟨by omega, by omega⟩⟩
    | 1, h => cases h; exact ⟨_, _, rfl, rfl, rfl, fun z e => by cases e; exact ⟨by omega, by omega⟩⟩
    | 2, h => cases h; exact ⟨_, _, rfl, rfl, rfl, fun z e => by cases e⟩
    | 3, h => cases h; exact ⟨_, _, rfl, rfl, rfl, fun z e => by cases e; exact (hb.2 3).1⟩
  · match k, h with
    | 0, h => cases h; exact ⟨_, _, rfl, rfl, rfl, fun z e => by cases e; exact ⟨by omega, by omega⟩⟩
    | 1, h => cases h; exact ⟨_, _, rfl, rfl, rfl, fun z e => by cases e; exact ⟨by omega, by omega⟩⟩
    | 2, h => cases h; exact ⟨_, _, rfl, rfl, rfl, fun z e => by cases e⟩
    | 3, h => cases h; exact ⟨_, _, rfl, rfl, rfl, fun z e => by cases e; exact (hb.2 4).1⟩
  · match k, h with
    | 0, h => cases h; exact ⟨_, _, rfl, rfl, rfl, fun z e => by cases e; exact ⟨by omega, by omega⟩⟩
    | 1, h => cases h; exact ⟨_, _, rfl, rfl, rfl, fun z e => by cases e; exact ⟨by omega, by omega⟩⟩
    | 2, h => cases h; exact ⟨_, _, rfl, rfl, rfl, fun z e => by cases e⟩
    | 3, h => cases h; exact ⟨_, _, rfl, rfl, rfl, fun z e => by cases e; exact (hb.2 5).1⟩
theorem vFgW : vFg encW bdW fgW := by
  intro s r ci k v hb h
  unfold fgW at h
  cases e : Nat.beq r 0 with
  | true =>
    rw [e] at h
    obtain ⟨h2, h3⟩ := bN h
    have e := nB e
    have h2 := nB h2
    subst e; subst h2
    match k, h3 with
    | 0, h3 => cases h3; exact ⟨_, _, rfl, rfl, rfl, fun z e => by cases e; exact hb.1 0⟩
    | 1, h3 => cases h3; exact ⟨_, _, rfl, rfl, rfl, fun z e => by cases e; exact hb.1 1⟩
    | 2, h3 => cases h3; exact ⟨_, _, rfl, rfl, rfl, fun z e => by cases e; exact hb.1 2⟩
    | 3, h3 => cases h3; exact ⟨_, _, rfl, rfl, rfl, fun z e => by cases e; exact hb.1 3⟩
    | 4, h3 => cases h3; exact ⟨_, _, rfl, rfl, rfl, fun z e => by cases e; exact hb.1 4⟩
    | 5, h3 => cases h3; exact ⟨_, _, rfl, rfl, rfl, fun z e => by cases e; exact hb.1 5⟩
    | 6, h3 => cases h3; exact ⟨_, _, rfl, rfl, rfl, fun z e => by cases e; exact hb.1 6⟩
    | 7, h3 => cases h3; exact ⟨_, _, rfl, rfl, rfl, fun z e => by cases e; exact hb.1 7⟩
    | 8, h3 => cases h3; exact ⟨_, _, rfl, rfl, rfl, fun z e => by cases e; exact hb.1 8⟩
    | 9, h3 => cases h3; exact ⟨_, _, rfl, rfl, rfl, fun z e => by cases e; exact hb.1 9⟩
    | 10, h3 => cases h3; exact ⟨_, _, rfl, rfl, rfl, fun z e => by cases e⟩
    | 11, h3 => cases h3; exact ⟨_, _, rfl, rfl, rfl, fun z e => by cases e⟩
    | 12, h3 => cases h3; exact ⟨_, _, rfl, rfl, rfl, fun z e => by cases e⟩
    | 13, h3 => cases h3; exact ⟨_, _, rfl, rfl, rfl, fun z e => by cases e⟩
    | 14, h3 => cases h3; exact ⟨_, _, rfl, rfl, rfl, fun z e => by cases e⟩
    | 15, h3 => cases h3; exact ⟨_, _, rfl, rfl, rfl, fun z e => by cases e⟩
  | false =>
    rw [e] at h
    dsimp only [cond_false] at h
    split at h
    · next t ht =>
      obtain ⟨h2, h3⟩ := bN h
      have h2 := nB h2
      subst h2
      exact vFgW_t t r ht s k v hb h3
    · cases h
theorem vFpW : vFp encW bdW fpW := by
  intro s r ci k z s' hb hz h
  obtain ⟨h1, g1⟩ := bN h
  obtain ⟨h2, g2⟩ := bN g1
  obtain ⟨h3, g3⟩ := bN g2
  clear h g1 g2
  have h1 := nB h1
  have h2 := nB h2
  subst h1; subst h2
  cases g3
  have hbd : bdW (wFd s k z) := ⟨fun j => by
    show xB (bif Nat.beq j k then z else s.1 j)
    cases Nat.beq j k with
    | true => exact hz
    | false => exact hb.1 j, hb.2⟩
  match k, h3 with
  | 0, _ => exact ⟨_, rfl, Nat.le_of_ble_eq_true rfl, rfl, hbd⟩
  | 1, _ => exact ⟨_, rfl, Nat.le_of_ble_eq_true rfl, rfl, hbd⟩
  | 2, _ => exact ⟨_, rfl, Nat.le_of_ble_eq_true rfl, rfl, hbd⟩
  | 3, _ => exact ⟨_, rfl, Nat.le_of_ble_eq_true rfl, rfl, hbd⟩
  | 4, _ => exact ⟨_, rfl, Nat.le_of_ble_eq_true rfl, rfl, hbd⟩
  | 5, _ => exact ⟨_, rfl, Nat.le_of_ble_eq_true rfl, rfl, hbd⟩
  | 6, _ => exact ⟨_, rfl, Nat.le_of_ble_eq_true rfl, rfl, hbd⟩
  | 7, _ => exact ⟨_, rfl, Nat.le_of_ble_eq_true rfl, rfl, hbd⟩
  | 8, _ => exact ⟨_, rfl, Nat.le_of_ble_eq_true rfl, rfl, hbd⟩
  | 9, _ => exact ⟨_, rfl, Nat.le_of_ble_eq_true rfl, rfl, hbd⟩
  | n + 10, h3 => exact absurd (Nat.le_of_ble_eq_true h3) (by omega)
theorem lenW (s s' : WS) : (encW s').length = (encW s).length := rfl
theorem recW (s : WS) : ∃ fs, xl_n (encW s) 0 = some (.inr (1, fs)) := ⟨_, rfl⟩
theorem bdW_set {s : WS} {t : Nat} {b : TS} {rm w : Int} (hb : bdW s) (ht : bdT rm w b) : bdW (setT s t b) := by
  refine ⟨hb.1, fun j => ?_⟩
  show xB (bif Nat.beq j t then b else s.2 j).1 ∧ ∀ k, xB ((bif Nat.beq j t then b else s.2 j).2 k)
  cases Nat.beq j t with
  | true => exact ht.2
  | false => exact hb.2 j
theorem lkW : ∀ (r t : Nat), tixW r = some t → vLk encW bdW (encT (rmT t) (wdT t)) (bdT (rmT t) (wdT t)) (fun k => r + k) (fun s => s.2 t) (fun s b => setT s t b) ∧ ∀ s, ∃ fs, xl_n (encW s) r = some (.inr (0, fs)) := by
  intro r t ht
  have hm := rmT_b ht
  rcases tixW_inv ht with ⟨rfl, rfl⟩ | ⟨rfl, rfl⟩ | ⟨rfl, rfl⟩ | ⟨rfl, rfl⟩ | ⟨rfl, rfl⟩ | ⟨rfl, rfl⟩
  · exact ⟨vLk_run (n := 2) (fun _ => rfl) (by decide) (fun s => rfl) (fun s t => rfl) (fun s hb => ⟨hm, hb.2 0⟩) (fun s t hb ht => bdW_set hb ht) (fun s => Nat.le_of_ble_eq_true rfl), fun s => ⟨_, rfl⟩⟩
  · exact ⟨vLk_run (n := 2) (fun _ => rfl) (by decide) (fun s => rfl) (fun s t => rfl) (fun s hb => ⟨hm, hb.2 1⟩) (fun s t hb ht => bdW_set hb ht) (fun s => Nat.le_of_ble_eq_true rfl), fun s => ⟨_, rfl⟩⟩
  · exact ⟨vLk_run (n := 2) (fun _ => rfl) (by decide) (fun s => rfl) (fun s t => rfl) (fun s hb => ⟨hm, hb.2 2⟩) (fun s t hb ht => bdW_set hb ht) (fun s => Nat.le_of_ble_eq_true rfl), fun s => ⟨_, rfl⟩⟩
  · exact ⟨vLk_run (n := 2) (fun _ => rfl) (by decide) (fun s => rfl) (fun s t => rfl) (fun s hb => ⟨hm, hb.2 3⟩) (fun s t hb ht => bdW_set hb ht) (fun s => Nat.le_of_ble_eq_true rfl), fun s => ⟨_, rfl⟩⟩
  · exact ⟨vLk_run (n := 2) (fun _ => rfl) (by decide) (fun s => rfl) (fun s t => rfl) (fun s hb => ⟨hm, hb.2 4⟩) (fun s t hb ht => bdW_set hb ht) (fun s => Nat.le_of_ble_eq_true rfl), fun s => ⟨_, rfl⟩⟩
  · exact ⟨vLk_run (n := 2) (fun _ => rfl) (by decide) (fun s => rfl) (fun s t => rfl) (fun s hb => ⟨hm, hb.2 5⟩) (fun s t hb ht => bdW_set hb ht) (fun s => Nat.le_of_ble_eq_true rfl), fun s => ⟨_, rfl⟩⟩
section WC
variable {M μ : XI} {rc rs pc pc2 n : Nat}
theorem qWT {f : Int → Int → List PV → TS → KT → Prop} (hm : ∀ rm w, mOk (encT rm w) (bdT rm w) μ (atR 0 (f rm w))) (hv : xl_V μ) (hcl : ∃ T N, vwCl[0]? = some (μ.1.cls, T, N)) (d : xl_Ca M pc μ pc2) (hn : n = μ.2.2.2.2.2.2 + 1) : cOk encW bdW M rc rs pc pc2 n (inT tixW (fun t as s K => f (rmT t) (wdT t) as (s.2 t) (fun v b => K v (setT s t b)))) := by
  intro as L st s K Q hl hw hb hs hk
  obtain ⟨q, t, as', rfl, ht, hnr, h1⟩ := inT_inv hs
  exact (cVirt (sp := fun as s K => as = pR q :: as' ∧ f (rmT t) (wdT t) as' (s.2 t) (fun v b => K v (setT s t b))) (hm (rmT t) (wdT t)) hv d hcl hn (fun as2 s2 K2 _ h2 => by
    obtain ⟨e, h3⟩ := h2
    exact ⟨_, _, _, as', (lkW q t ht).1, (lkW q t ht).2 s2, by rw [e, pnr_rel hnr]; rfl, h3⟩)) _ L st s K Q hl hw hb ⟨rfl, h1⟩ hk
/-- what World says of its tables -/
def wG (w : WS) (t : Nat) (i c : Int) : Int := tg (rmT t) (wdT t) (w.2 t).2 i c
def wP (w : WS) (t : Nat) (i c v : Int) : WS := setT w t ((w.2 t).1, ts (rmT t) (wdT t) (w.2 t).2 i c v)
def wA (w : WS) (t : Nat) (i c m : Int) : WS := wP w t i c (wI (wG w t i c + m))
def wZ (w : WS) (t : Nat) : Int := (w.2 t).1
def wRe (w : WS) (t : Nat) (i : Int) : WS := setT w t (if (w.2 t).1 ≤ i ∧ i < rmT t then i + 1 else (w.2 t).1, (w.2 t).2)
def wDr (w : WS) (t : Nat) (i : Int) : WS := setT w t (if 0 ≤ i ∧ i < (w.2 t).1 then ((w.2 t).1 - 1, xcp (w.2 t).2 (w.2 t).2 ((i + 1) * wdT t).toNat (i * wdT t).toNat (((w.2 t).1 - i - 1) * wdT t).toNat) else w.2 t)
def wOp (w : WS) (t : Nat) (i : Int) : WS := setT w t ((w.2 t).1 + 1, topen (wdT t) (w.2 t).2 (w.2 t).1 i)
theorem wG_B {w : WS} {t : Nat} {i c : Int} (h : bdW w) : xB (wG w t i c) := tg_B (h.2 t).2
def cW_X0_get : Sp WS := inT tixW (fun t => a2 (fun i c s K => (xB i ∧ xB c) ∧ (xB (wG s t i c) → K [pI (wG s t i c)] s)))
theorem qW_X0_get (d : xl_Ca M pc mX0_get pc2) : cOk encW bdW M rc rs pc pc2 3 cW_X0_get := by
  refine cMono (fun as s K hb h => ?_) (qWT (f := fun rm w => a2 (sX0_get rm w)) mX0_get_ok vX0_get tcl d rfl)
  obtain ⟨q, t, as', rfl, ht, hnr, h1⟩ := inT_inv h
  obtain ⟨i, c, rfl, h2, h3⟩ := a2_inv h1
  refine inT_mk ht hnr ⟨h2, ?_⟩
  show K _ (setT s t (s.2 t))
  rw [setT_self]
  exact h3 (wG_B hb)
def cW_X0_set : Sp WS := inT tixW (fun t => a3 (fun i c v s K => (xB i ∧ xB c ∧ xB v) ∧ K [] (wP s t i c v)))
theorem qW_X0_set (d : xl_Ca M pc mX0_set pc2) : cOk encW bdW M rc rs pc pc2 4 cW_X0_set := by
  refine cMono (fun as s K hb h => ?_) (qWT (f := fun rm w => a3 (sX0_set rm w)) mX0_set_ok vX0_set tcl d rfl)
  obtain ⟨q, t, as', rfl, ht, hnr, h1⟩ := inT_inv h
  obtain ⟨i, c, v, rfl, h2⟩ := a3_inv h1
  exact inT_mk ht hnr h2
def cW_X0_add : Sp WS := inT tixW (fun t => a3 (fun i c v s K => (xB i ∧ xB c ∧ xB v) ∧ K [] (wA s t i c v)))
theorem qW_X0_add (d : xl_Ca M pc mX0_add pc2) : cOk encW bdW M rc rs pc pc2 4 cW_X0_add := by
  refine cMono (fun as s K hb h => ?_) (qWT (f := fun rm w => a3 (sX0_add rm w)) mX0_add_ok vX0_add tcl d rfl)
  obtain ⟨q, t, as', rfl, ht, hnr, h1⟩ := inT_inv h
  obtain ⟨i, c, v, rfl, h2⟩ := a3_inv h1
  exact inT_mk ht hnr h2
def cW_X0_clear : Sp WS := inT tixW (fun t => a0 (fun s K => K [] (setT s t (0, (s.2 t).2))))
theorem qW_X0_clear (d : xl_Ca M pc mX0_clear pc2) : cOk encW bdW M rc rs pc pc2 1 cW_X0_clear := by
  refine cMono (fun as s K hb h => ?_) (qWT (f := fun rm w => a0 (sX0_clear rm w)) mX0_clear_ok vX0_clear tcl d rfl)
  obtain ⟨q, t, as', rfl, ht, hnr, h1⟩ := inT_inv h
  obtain ⟨rfl, h2⟩ := a0_inv h1
  exact inT_mk ht hnr h2
def cW_X0_reach : Sp WS := inT tixW (fun t => a1 (fun i s K => xB i ∧ K [] (wRe s t i)))
theorem qW_X0_reach (d : xl_Ca M pc mX0_reach pc2) : cOk encW bdW M rc rs pc pc2 2 cW_X0_reach := by
  refine cMono (fun as s K hb h => ?_) (qWT (f := fun rm w => a1 (sX0_reach rm w)) mX0_reach_ok vX0_reach tcl d rfl)
  obtain ⟨q, t, as', rfl, ht, hnr, h1⟩ := inT_inv h
  obtain ⟨i, rfl, h2⟩ := a1_inv h1
  exact inT_mk ht hnr h2
def cW_X0_drop : Sp WS := inT tixW (fun t => a1 (fun i s K => (xB i ∧ wZ s t ≤ rmT t) ∧ K [] (wDr s t i)))
theorem qW_X0_drop (d : xl_Ca M pc mX0_drop pc2) : cOk encW bdW M rc rs pc pc2 2 cW_X0_drop := by
  refine cMono (fun as s K hb h => ?_) (qWT (f := fun rm w => a1 (sX0_drop rm w)) mX0_drop_ok vX0_drop tcl d rfl)
  obtain ⟨q, t, as', rfl, ht, hnr, h1⟩ := inT_inv h
  obtain ⟨i, rfl, h2⟩ := a1_inv h1
  exact inT_mk ht hnr h2
def cW_X0_open : Sp WS := inT tixW (fun t => a1 (fun i s K => xB i ∧ ((0 ≤ i ∧ i ≤ wZ s t ∧ wZ s t < rmT t) → K [pI 1] (wOp s t i)) ∧ (¬ (0 ≤ i ∧ i ≤ wZ s t ∧ wZ s t < rmT t) → K [pI 0] s)))
theorem qW_X0_open (d : xl_Ca M pc mX0_open pc2) : cOk encW bdW M rc rs pc pc2 2 cW_X0_open := by
  refine cMono (fun as s K hb h => ?_) (qWT (f := fun rm w => a1 (sX0_open rm w)) mX0_open_ok vX0_open tcl d rfl)
  obtain ⟨q, t, as', rfl, ht, hnr, h1⟩ := inT_inv h
  obtain ⟨i, rfl, h2, h3, h4⟩ := a1_inv h1
  refine inT_mk ht hnr ⟨h2, h3, fun c => ?_⟩
  show K _ (setT s t (s.2 t))
  rw [setT_self]
  exact h4 c
end WC
