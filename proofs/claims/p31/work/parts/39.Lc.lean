/-! ===== LateSessions: the calls that it makes on its Worlds and tables; functions without an object ===== -/
section LCA
variable {M μ : XI} {rc rs pc pc2 n : Nat}
def inP {σ : Type} (tix : Nat → Option (Nat × Nat)) (f : Nat → Nat → List PV → σ → (PS → σ → Prop) → Prop) : Sp σ := fun as s K => match as with
  | .inr (.inr (.inl r)) :: as => match tix r with
    | some (q, t) => bif as.all pnr then f q t as s K else False
    | none => False
  | _ => False
theorem inP_inv {σ : Type} {tix : Nat → Option (Nat × Nat)} {f : Nat → Nat → List PV → σ → (PS → σ → Prop) → Prop} {as : List PV} {s : σ} {K : PS → σ → Prop} (h : inP tix f as s K) : ∃ r q t as', as = pR r :: as' ∧ tix r = some (q, t) ∧ as'.all pnr = true ∧ f q t as' s K := by
  unfold inP at h
  split at h
  · next r as =>
    split at h
    · next q t e =>
      obtain ⟨h1, h2⟩ := condT h
      exact ⟨r, q, t, as, rfl, e, h1, h2⟩
    · exact h.elim
  · exact h.elim
def tixL : Nat → Option (Nat × Nat) := fun r => match xl_n [none, none, none, none, none, none, none, none, some (0, 0), none, some (0, 1), none, some (0, 2), none, some (0, 3), none, some (0, 4), none, some (0, 5), none, none, some (1, 0), none, some (1, 1), none, some (1, 2), none, some (1, 3), none, some (1, 4), none, some (1, 5), none] r with
  | some x => x
  | none => none
theorem tixL_inv {r q t : Nat} (h : tixL r = some (q, t)) : q < 10 ∧ ∃ j, r = 7 + 13 * q + j ∧ tixW j = some t := by
  match r, h with
  | 0, h => cases h
  | 1, h => cases h
  | 2, h => cases h
  | 3, h => cases h
  | 4, h => cases h
  | 5, h => cases h
  | 6, h => cases h
  | 7, h => cases h
  | 8, h => cases h; exact ⟨by decide, 1, rfl, rfl⟩
  | 9, h => cases h
  | 10, h => cases h; exact ⟨by decide, 3, rfl, rfl⟩
  | 11, h => cases h
  | 12, h => cases h; exact ⟨by decide, 5, rfl, rfl⟩
  | 13, h => cases h
  | 14, h => cases h; exact ⟨by decide, 7, rfl, rfl⟩
  | 15, h => cases h
  | 16, h => cases h; exact ⟨by decide, 9, rfl, rfl⟩
  | 17, h => cases h
  | 18, h => cases h; exact ⟨by decide, 11, rfl, rfl⟩
  | 19, h => cases h
  | 20, h => cases h
  | 21, h => cases h; exact ⟨by decide, 1, rfl, rfl⟩
  | 22, h => cases h
  | 23, h => cases h; exact ⟨by decide, 3, rfl, rfl⟩
  | 24, h => cases h
  | 25, h => cases h; exact ⟨by decide, 5, rfl, rfl⟩
  | 26, h => cases h
  | 27, h => cases h; exact ⟨by decide, 7, rfl, rfl⟩
  | 28, h => cases h
  | 29, h => cases h; exact ⟨by decide, 9, rfl, rfl⟩
  | 30, h => cases h
  | 31, h => cases h; exact ⟨by decide, 11, rfl, rfl⟩
  | 32, h => cases h
  | r + 33, h => cases h
theorem lkLT {r q t : Nat} (h : tixL r = some (q, t)) : vLk encL bdL (encT (rmT t) (wdT t)) (bdT (rmT t) (wdT t)) (fun k => r + k) (fun s => (s.2.2 q).2 t) (fun s b => setW s q (setT (s.2.2 q) t b)) ∧ ∀ s, ∃ fs, xl_n (encL s) r = some (.inr (0, fs)) := by
  obtain ⟨hq, j, rfl, hj⟩ := tixL_inv h
  obtain ⟨l1, l2⟩ := lkW j t hj
  have := vLk_trans (lkL hq) l1
  refine ⟨?_, fun s => ?_⟩
  · have e : (fun k => 7 + 13 * q + (j + k)) = fun k => 7 + 13 * q + j + k := by funext k; omega
    rw [← e]
    exact this
  · obtain ⟨fs, hf⟩ := l2 (s.2.2 q)
    refine ⟨fs, ?_⟩
    rw [xl_n_eq] at hf ⊢
    have hj13 : j < 13 := by
      rcases tixW_inv hj with ⟨rfl, _⟩ | ⟨rfl, _⟩ | ⟨rfl, _⟩ | ⟨rfl, _⟩ | ⟨rfl, _⟩ | ⟨rfl, _⟩ <;> decide
    rw [encL_w s hq hj13]
    exact hf
theorem qLT {f : Int → Int → List PV → TS → KT → Prop} (hm : ∀ rm w, mOk (encT rm w) (bdT rm w) μ (atR 0 (f rm w))) (hv : xl_V μ) (hcl : ∃ T N, vwCl[0]? = some (μ.1.cls, T, N)) (d : xl_Ca M pc μ pc2) (hn : n = μ.2.2.2.2.2.2 + 1) : cOk encL bdL M rc rs pc pc2 n (inP tixL (fun q t as s K => f (rmT t) (wdT t) as ((s.2.2 q).2 t) (fun v b => K v (setW s q (setT (s.2.2 q) t b))))) := by
  intro as L st s K Q hl hw hb hs hk
  obtain ⟨r, q, t, as', rfl, ht, hnr, h1⟩ := inP_inv hs
  exact (cVirt (sp := fun as s K => as = pR r :: as' ∧ f (rmT t) (wdT t) as' ((s.2.2 q).2 t) (fun v b => K v (setW s q (setT (s.2.2 q) t b)))) (hm (rmT t) (wdT t)) hv d hcl hn (fun as2 s2 K2 _ h2 => by
    obtain ⟨e, h3⟩ := h2
    exact ⟨_, _, _, as', (lkLT ht).1, (lkLT ht).2 s2, by rw [e, pnr_rel hnr]; rfl, h3⟩)) _ L st s K Q hl hw hb ⟨rfl, h1⟩ hk
theorem inP_mk {σ : Type} {tix : Nat → Option (Nat × Nat)} {f : Nat → Nat → List PV → σ → (PS → σ → Prop) → Prop} {as : List PV} {s : σ} {K : PS → σ → Prop} {r q t : Nat} (h1 : tix r = some (q, t)) (h2 : as.all pnr = true) (h3 : f q t as s K) : inP tix f (pR r :: as) s K := by
  show (match tix r with
    | some (q, t) => bif as.all pnr then f q t as s K else False
    | none => False)
  rw [h1, h2]
  exact h3
def cL_X0_get : Sp LSt := inP tixL (fun q t => a2 (fun i c s K => (xB i ∧ xB c) ∧ (xB (wG (s.2.2 q) t i c) → K [pI (wG (s.2.2 q) t i c)] s)))
theorem qL_X0_get (d : xl_Ca M pc mX0_get pc2) : cOk encL bdL M rc rs pc pc2 3 cL_X0_get := by
  refine cMono (fun as s K hb h => ?_) (qLT (f := fun rm w => a2 (sX0_get rm w)) mX0_get_ok vX0_get tcl d rfl)
  obtain ⟨r, q, t, as', rfl, ht, hnr, h1⟩ := inP_inv h
  obtain ⟨i, c, rfl, h2, h3⟩ := a2_inv h1
  refine inP_mk ht hnr ⟨h2, ?_⟩
  show K _ (setW s q (setT (s.2.2 q) t ((s.2.2 q).2 t)))
  rw [setT_self, setW_self]
  exact h3 (wG_B (hb.2.2 q))
def cL_X0_set : Sp LSt := inP tixL (fun q t => a3 (fun i c v s K => (xB i ∧ xB c ∧ xB v) ∧ K [] (setW s q (wP (s.2.2 q) t i c v))))
theorem qL_X0_set (d : xl_Ca M pc mX0_set pc2) : cOk encL bdL M rc rs pc pc2 4 cL_X0_set := by
  refine cMono (fun as s K hb h => ?_) (qLT (f := fun rm w => a3 (sX0_set rm w)) mX0_set_ok vX0_set tcl d rfl)
  obtain ⟨r, q, t, as', rfl, ht, hnr, h1⟩ := inP_inv h
  obtain ⟨i, c, v, rfl, h2⟩ := a3_inv h1
  exact inP_mk ht hnr h2
/-- Worlds -/
def tixQ : Nat → Option Nat := fun r => bif Nat.beq r 7 then some 0 else bif Nat.beq r 20 then some 1 else none
theorem tixQ_inv {r q : Nat} (h : tixQ r = some q) : q < 10 ∧ r = 7 + 13 * q := by
  unfold tixQ at h
  cases e : Nat.beq r 7 with
  | true => rw [e] at h; cases h; exact ⟨by decide, nB e⟩
  | false =>
    rw [e] at h
    obtain ⟨h1, h2⟩ := bN h
    cases h2
    exact ⟨by decide, nB h1⟩
theorem qLW {f : List PV → WS → KW → Prop} (hm : mOk encW bdW μ (atR 0 f)) (hv : xl_V μ) (hcl : ∃ T N, vwCl[1]? = some (μ.1.cls, T, N)) (d : xl_Ca M pc μ pc2) (hn : n = μ.2.2.2.2.2.2 + 1) : cOk encL bdL M rc rs pc pc2 n (inT tixQ (fun q as s K => f as (s.2.2 q) (fun v w => K v (setW s q w)))) := by
  intro as L st s K Q hl hw hb hs hk
  obtain ⟨r, q, as', rfl, ht, hnr, h1⟩ := inT_inv hs
  obtain ⟨hq, rfl⟩ := tixQ_inv ht
  exact (cVirt (sp := fun as s K => as = pR (7 + 13 * q) :: as' ∧ f as' (s.2.2 q) (fun v w => K v (setW s q w))) hm hv d hcl hn (fun as2 s2 K2 _ h2 => by
    obtain ⟨e, h3⟩ := h2
    refine ⟨_, _, _, as', lkL hq, ?_, by rw [e, pnr_rel hnr]; rfl, h3⟩
    obtain ⟨fs, hf⟩ := recW (s2.2.2 q)
    refine ⟨fs, ?_⟩
    rw [xl_n_eq] at hf ⊢
    rw [encL_w s2 hq (by decide)]
    exact hf)) _ L st s K Q hl hw hb ⟨rfl, h1⟩ hk
def cL_X1_firstTouched : Sp LSt := inT tixQ (fun q => a2 (fun x y s K => sX1_firstTouched x y (s.2.2 q) (fun v _ => K v s)))
theorem qL_X1_firstTouched (d : xl_Ca M pc mX1_firstTouched pc2) : cOk encL bdL M rc rs pc pc2 3 cL_X1_firstTouched := by
  refine cMono (fun as s K hb h => ?_) (qLW (f := a2 sX1_firstTouched) mX1_firstTouched_ok vX1_firstTouched wcl d rfl)
  obtain ⟨r, q, as', rfl, ht, hnr, h1⟩ := inT_inv h
  obtain ⟨x, y, rfl, h2⟩ := a2_inv h1
  refine inT_mk ht hnr ?_
  show sX1_firstTouched x y (s.2.2 q) (fun v w => K v (setW s q w))
  simpa only [sX1_firstTouched, setW_self] using h2
def cL_X1_hasResult : Sp LSt := inT tixQ (fun q => a1 (fun x s K => sX1_hasResult x (s.2.2 q) (fun v _ => K v s)))
theorem qL_X1_hasResult (d : xl_Ca M pc mX1_hasResult pc2) : cOk encL bdL M rc rs pc pc2 2 cL_X1_hasResult := by
  refine cMono (fun as s K hb h => ?_) (qLW (f := a1 sX1_hasResult) mX1_hasResult_ok vX1_hasResult wcl d rfl)
  obtain ⟨r, q, as', rfl, ht, hnr, h1⟩ := inT_inv h
  obtain ⟨x, rfl, h2⟩ := a1_inv h1
  refine inT_mk ht hnr ?_
  show sX1_hasResult x (s.2.2 q) (fun v w => K v (setW s q w))
  simpa only [sX1_hasResult, setW_self] using h2
def cL_X1_isOver : Sp LSt := inT tixQ (fun q => a2 (fun x y s K => sX1_isOver x y (s.2.2 q) (fun v _ => K v s)))
theorem qL_X1_isOver (d : xl_Ca M pc mX1_isOver pc2) : cOk encL bdL M rc rs pc pc2 3 cL_X1_isOver := by
  refine cMono (fun as s K hb h => ?_) (qLW (f := a2 sX1_isOver) mX1_isOver_ok vX1_isOver wcl d rfl)
  obtain ⟨r, q, as', rfl, ht, hnr, h1⟩ := inT_inv h
  obtain ⟨x, y, rfl, h2⟩ := a2_inv h1
  refine inT_mk ht hnr ?_
  show sX1_isOver x y (s.2.2 q) (fun v w => K v (setW s q w))
  simpa only [sX1_isOver, setW_self] using h2
def cL_X1_isRipe : Sp LSt := inT tixQ (fun q => a2 (fun x y s K => sX1_isRipe x y (s.2.2 q) (fun v _ => K v s)))
theorem qL_X1_isRipe (d : xl_Ca M pc mX1_isRipe pc2) : cOk encL bdL M rc rs pc pc2 3 cL_X1_isRipe := by
  refine cMono (fun as s K hb h => ?_) (qLW (f := a2 sX1_isRipe) mX1_isRipe_ok vX1_isRipe wcl d rfl)
  obtain ⟨r, q, as', rfl, ht, hnr, h1⟩ := inT_inv h
  obtain ⟨x, y, rfl, h2⟩ := a2_inv h1
  refine inT_mk ht hnr ?_
  show sX1_isRipe x y (s.2.2 q) (fun v w => K v (setW s q w))
  simpa only [sX1_isRipe, setW_self] using h2
def cL_X1_isTakenOf : Sp LSt := inT tixQ (fun q => a2 (fun x y s K => sX1_isTakenOf x y (s.2.2 q) (fun v _ => K v s)))
theorem qL_X1_isTakenOf (d : xl_Ca M pc mX1_isTakenOf pc2) : cOk encL bdL M rc rs pc pc2 3 cL_X1_isTakenOf := by
  refine cMono (fun as s K hb h => ?_) (qLW (f := a2 sX1_isTakenOf) mX1_isTakenOf_ok vX1_isTakenOf wcl d rfl)
  obtain ⟨r, q, as', rfl, ht, hnr, h1⟩ := inT_inv h
  obtain ⟨x, y, rfl, h2⟩ := a2_inv h1
  refine inT_mk ht hnr ?_
  show sX1_isTakenOf x y (s.2.2 q) (fun v w => K v (setW s q w))
  simpa only [sX1_isTakenOf, setW_self] using h2
def cL_X1_leastMark : Sp LSt := inT tixQ (fun q => a1 (fun x s K => sX1_leastMark x (s.2.2 q) (fun v _ => K v s)))
theorem qL_X1_leastMark (d : xl_Ca M pc mX1_leastMark pc2) : cOk encL bdL M rc rs pc pc2 2 cL_X1_leastMark := by
  refine cMono (fun as s K hb h => ?_) (qLW (f := a1 sX1_leastMark) mX1_leastMark_ok vX1_leastMark wcl d rfl)
  obtain ⟨r, q, as', rfl, ht, hnr, h1⟩ := inT_inv h
  obtain ⟨x, rfl, h2⟩ := a1_inv h1
  refine inT_mk ht hnr ?_
  show sX1_leastMark x (s.2.2 q) (fun v w => K v (setW s q w))
  simpa only [sX1_leastMark, setW_self] using h2
def cL_X1_ripening : Sp LSt := inT tixQ (fun q => a1 (fun x s K => sX1_ripening x (s.2.2 q) (fun v _ => K v s)))
theorem qL_X1_ripening (d : xl_Ca M pc mX1_ripening pc2) : cOk encL bdL M rc rs pc pc2 2 cL_X1_ripening := by
  refine cMono (fun as s K hb h => ?_) (qLW (f := a1 sX1_ripening) mX1_ripening_ok vX1_ripening wcl d rfl)
  obtain ⟨r, q, as', rfl, ht, hnr, h1⟩ := inT_inv h
  obtain ⟨x, rfl, h2⟩ := a1_inv h1
  refine inT_mk ht hnr ?_
  show sX1_ripening x (s.2.2 q) (fun v w => K v (setW s q w))
  simpa only [sX1_ripening, setW_self] using h2
def cL_X1_sentOf : Sp LSt := inT tixQ (fun q => a1 (fun x s K => sX1_sentOf x (s.2.2 q) (fun v _ => K v s)))
theorem qL_X1_sentOf (d : xl_Ca M pc mX1_sentOf pc2) : cOk encL bdL M rc rs pc pc2 2 cL_X1_sentOf := by
  refine cMono (fun as s K hb h => ?_) (qLW (f := a1 sX1_sentOf) mX1_sentOf_ok vX1_sentOf wcl d rfl)
  obtain ⟨r, q, as', rfl, ht, hnr, h1⟩ := inT_inv h
  obtain ⟨x, rfl, h2⟩ := a1_inv h1
  refine inT_mk ht hnr ?_
  show sX1_sentOf x (s.2.2 q) (fun v w => K v (setW s q w))
  simpa only [sX1_sentOf, setW_self] using h2
def cL_X1_touchedFrom : Sp LSt := inT tixQ (fun q => a3 (fun x y z s K => sX1_touchedFrom x y z (s.2.2 q) (fun v _ => K v s)))
theorem qL_X1_touchedFrom (d : xl_Ca M pc mX1_touchedFrom pc2) : cOk encL bdL M rc rs pc pc2 4 cL_X1_touchedFrom := by
  refine cMono (fun as s K hb h => ?_) (qLW (f := a3 sX1_touchedFrom) mX1_touchedFrom_ok vX1_touchedFrom wcl d rfl)
  obtain ⟨r, q, as', rfl, ht, hnr, h1⟩ := inT_inv h
  obtain ⟨x, y, z, rfl, h2⟩ := a3_inv h1
  refine inT_mk ht hnr ?_
  show sX1_touchedFrom x y z (s.2.2 q) (fun v w => K v (setW s q w))
  simpa only [sX1_touchedFrom, setW_self] using h2
def cL_X1_comeEvent : Sp LSt := inT tixQ (fun q => a4 (fun x y z u s K => sX1_comeEvent x y z u (s.2.2 q) (fun v w => K v (setW s q w))))
theorem qL_X1_comeEvent (d : xl_Ca M pc mX1_comeEvent pc2) : cOk encL bdL M rc rs pc pc2 5 cL_X1_comeEvent := by
  refine cMono (fun as s K hb h => ?_) (qLW (f := a4 sX1_comeEvent) mX1_comeEvent_ok vX1_comeEvent wcl d rfl)
  obtain ⟨r, q, as', rfl, ht, hnr, h1⟩ := inT_inv h
  obtain ⟨x, y, z, u, rfl, h2⟩ := a4_inv h1
  exact inT_mk ht hnr h2
def cL_X1_comeIdle : Sp LSt := inT tixQ (fun q => a1 (fun x s K => sX1_comeIdle x (s.2.2 q) (fun v w => K v (setW s q w))))
theorem qL_X1_comeIdle (d : xl_Ca M pc mX1_comeIdle pc2) : cOk encL bdL M rc rs pc pc2 2 cL_X1_comeIdle := by
  refine cMono (fun as s K hb h => ?_) (qLW (f := a1 sX1_comeIdle) mX1_comeIdle_ok vX1_comeIdle wcl d rfl)
  obtain ⟨r, q, as', rfl, ht, hnr, h1⟩ := inT_inv h
  obtain ⟨x, rfl, h2⟩ := a1_inv h1
  exact inT_mk ht hnr h2
def cL_X1_comeMark : Sp LSt := inT tixQ (fun q => a2 (fun x y s K => sX1_comeMark x y (s.2.2 q) (fun v w => K v (setW s q w))))
theorem qL_X1_comeMark (d : xl_Ca M pc mX1_comeMark pc2) : cOk encL bdL M rc rs pc pc2 3 cL_X1_comeMark := by
  refine cMono (fun as s K hb h => ?_) (qLW (f := a2 sX1_comeMark) mX1_comeMark_ok vX1_comeMark wcl d rfl)
  obtain ⟨r, q, as', rfl, ht, hnr, h1⟩ := inT_inv h
  obtain ⟨x, y, rfl, h2⟩ := a2_inv h1
  exact inT_mk ht hnr h2
def cL_X1_playEvent : Sp LSt := inT tixQ (fun q => a4 (fun x y z u s K => sX1_playEvent x y z u (s.2.2 q) (fun v w => K v (setW s q w))))
theorem qL_X1_playEvent (d : xl_Ca M pc mX1_playEvent pc2) : cOk encL bdL M rc rs pc pc2 5 cL_X1_playEvent := by
  refine cMono (fun as s K hb h => ?_) (qLW (f := a4 sX1_playEvent) mX1_playEvent_ok vX1_playEvent wcl d rfl)
  obtain ⟨r, q, as', rfl, ht, hnr, h1⟩ := inT_inv h
  obtain ⟨x, y, z, u, rfl, h2⟩ := a4_inv h1
  exact inT_mk ht hnr h2
def cL_X1_reset : Sp LSt := inT tixQ (fun q => a4 (fun x y z u s K => sX1_reset x y z u (s.2.2 q) (fun v w => K v (setW s q w))))
theorem qL_X1_reset (d : xl_Ca M pc mX1_reset pc2) : cOk encL bdL M rc rs pc pc2 5 cL_X1_reset := by
  refine cMono (fun as s K hb h => ?_) (qLW (f := a4 sX1_reset) mX1_reset_ok vX1_reset wcl d rfl)
  obtain ⟨r, q, as', rfl, ht, hnr, h1⟩ := inT_inv h
  obtain ⟨x, y, z, u, rfl, h2⟩ := a4_inv h1
  exact inT_mk ht hnr h2
/-- a World out of another -/
def okQ (r : Nat) : Bool := bif Nat.blt r 7 then false else bif Nat.blt r 137 then Nat.beq ((r - 7) % 13) 0 else false
def qOf (r : Nat) : Nat := (r - 7) / 13
theorem okQ_inv {r : Nat} (h : okQ r = true) : qOf r < 10 ∧ r = 7 + 13 * qOf r := by
  unfold okQ at h
  cases e : Nat.blt r 7 with
  | true => rw [e] at h; cases h
  | false =>
    rw [e] at h
    have h7 : ¬ r < 7 := fun q => by rw [show Nat.blt r 7 = true from Nat.ble_eq_true_of_le q] at e; cases e
    dsimp only [cond_false] at h
    cases e2 : Nat.blt r 137 with
    | false => rw [e2] at h; cases h
    | true =>
      rw [e2] at h
      have h137 : r < 137 := Nat.le_of_ble_eq_true e2
      have := nB h
      unfold qOf
      omega
def cL_X1_copyFrom : Sp LSt := fun as s K => match as with
  | [.inr (.inr (.inl r1)), .inr (.inr (.inl r2))] => bif okQ r1 then (bif okQ r2 then (bif Nat.beq (qOf r1) (qOf r2) then False else (wok (s.2.2 (qOf r2)) ∧ K [] (setW s (qOf r1) (wCopy (s.2.2 (qOf r1)) (s.2.2 (qOf r2)))))) else False) else False
  | _ => False
theorem setW_keep {s : LSt} {a b : Nat} {w : WS} (h : b ≠ a) : setW (setW s a w) b (s.2.2 b) = setW s a w := by
  have := setW_self (setW s a w) b
  rw [setW_ne h] at this
  exact this
theorem qL_copyAB {a b : Nat} (ha : a < 10) (hb : b < 10) (hab : a ≠ b) (d : xl_Ca M pc mX1_copyFrom pc2) : cOk encL bdL M rc rs pc pc2 2 (fun as s K => as = [pR (7 + 13 * a), pR (7 + 13 * b)] ∧ wok (s.2.2 b) ∧ K [] (setW s a (wCopy (s.2.2 a) (s.2.2 b)))) := by
  refine cVirt mX1_copyFrom_ok vX1_copyFrom d wcl rfl (fun as2 s2 K2 hb2 h2 => ?_)
  obtain ⟨e1, h3, h4⟩ := h2
  refine ⟨piL a b, _, _, [pR 13], lkL2 ha hb hab, ?_, ?_, ⟨h3, ?_⟩⟩
  · obtain ⟨fs, hf⟩ := recW (s2.2.2 a)
    refine ⟨fs, ?_⟩
    rw [xl_n_eq] at hf ⊢
    rw [show piL a b 0 = 7 + 13 * a + 0 from if_pos (by decide), encL_w s2 ha (by decide)]
    exact hf
  · rw [e1]
    rfl
  · show K2 [] (setW (setW s2 a (wCopy (s2.2.2 a) (s2.2.2 b))) b (s2.2.2 b))
    rw [setW_keep (fun q => hab q.symm)]
    exact h4
theorem qL_X1_copyFrom (d : xl_Ca M pc mX1_copyFrom pc2) : cOk encL bdL M rc rs pc pc2 2 cL_X1_copyFrom := by
  intro as L st s K Q hl hw hb hs hk
  unfold cL_X1_copyFrom at hs
  split at hs
  · next r1 r2 =>
    obtain ⟨h1, hs1⟩ := condT hs
    obtain ⟨h2, hs2⟩ := condT hs1
    obtain ⟨ha, ea⟩ := okQ_inv h1
    obtain ⟨hb1, eb⟩ := okQ_inv h2
    cases e : Nat.beq (qOf r1) (qOf r2) with
    | true => rw [e] at hs2; exact hs2.elim
    | false =>
      rw [e] at hs2
      have hab : qOf r1 ≠ qOf r2 := fun q => by rw [q, Nat.beq_refl] at e; cases e
      exact qL_copyAB ha hb1 hab d _ L st s K Q hl hw hb ⟨by rw [← ea, ← eb], hs2⟩ hk
  · exact hs.elim
end LCA
/-! functions without an object -/
abbrev KU : Type := PS → Unit → Prop
def encU : Unit → XH := fun _ => []
def bdU : Unit → Prop := fun _ => True
-- X2_isKey: heads []
def tX2_isKey : Nat → Blk Unit := fun pc => bif Nat.blt pc 14 then (bif Nat.beq pc 0 then (oIld 0 <| oZLt 14 <| oIld 0 <| oI 6 <| oCGe 14 <| oI 1 <| oTo 15) else oNo) else (bif Nat.blt pc 15 then (bif Nat.beq pc 14 then (oI 0 <| oTo 15) else oNo) else (bif Nat.beq pc 15 then (oZret) else oNo))
theorem tX2_isKey_ok : ∀ pc, bOk (encU) (bdU) mX2_isKey 0 0 pc (tX2_isKey pc) := fun pc => (tNode (tLeaf (okIldn iX2_isKey_0 rfl <| okZLt (tl rfl) iX2_isKey_1 <| okIldn iX2_isKey_4 rfl <| okBi iX2_isKey_5 (by decide) <| okCGe (tl rfl) iX2_isKey_7 <| okIc iX2_isKey_10 <| okGoto (tl rfl) iX2_isKey_11)) (tNode (tLeaf (okIc iX2_isKey_14 <| okTo (tl rfl))) (tLeaf (okZret iX2_isKey_15 rfl)))) pc
-- X2_isTime: heads []
def tX2_isTime : Nat → Blk Unit := fun pc => bif Nat.blt pc 15 then (bif Nat.beq pc 0 then (oIld 0 <| oZLt 15 <| oIld 0 <| oI 9999 <| oCGt 15 <| oI 1 <| oTo 16) else oNo) else (bif Nat.blt pc 16 then (bif Nat.beq pc 15 then (oI 0 <| oTo 16) else oNo) else (bif Nat.beq pc 16 then (oZret) else oNo))
theorem tX2_isTime_ok : ∀ pc, bOk (encU) (bdU) mX2_isTime 0 0 pc (tX2_isTime pc) := fun pc => (tNode (tLeaf (okIldn iX2_isTime_0 rfl <| okZLt (tl rfl) iX2_isTime_1 <| okIldn iX2_isTime_4 rfl <| okSi iX2_isTime_5 (by decide) <| okCGt (tl rfl) iX2_isTime_8 <| okIc iX2_isTime_11 <| okGoto (tl rfl) iX2_isTime_12)) (tNode (tLeaf (okIc iX2_isTime_15 <| okTo (tl rfl))) (tLeaf (okZret iX2_isTime_16 rfl)))) pc
-- X2_areSettings: heads []
def tX2_areSettings : Nat → Blk Unit := fun pc => bif Nat.blt pc 35 then (bif Nat.beq pc 0 then (oIld 0 <| oI 1 <| oCLt 35 <| oIld 0 <| oI 99 <| oCGt 35 <| oIld 1 <| oZLt 35 <| oIld 1 <| oI 99 <| oCGt 35 <| oIld 2 <| oZLt 35 <| oIld 2 <| oI 9 <| oCGt 35 <| oI 1 <| oTo 36) else oNo) else (bif Nat.blt pc 36 then (bif Nat.beq pc 35 then (oI 0 <| oTo 36) else oNo) else (bif Nat.beq pc 36 then (oZret) else oNo))
theorem tX2_areSettings_ok : ∀ pc, bOk (encU) (bdU) mX2_areSettings 0 0 pc (tX2_areSettings pc) := fun pc => (tNode (tLeaf (okIldn iX2_areSettings_0 rfl <| okIc iX2_areSettings_1 <| okCLt (tl rfl) iX2_areSettings_2 <| okIldn iX2_areSettings_5 rfl <| okBi iX2_areSettings_6 (by decide) <| okCGt (tl rfl) iX2_areSettings_8 <| okIldn iX2_areSettings_11 rfl <| okZLt (tl rfl) iX2_areSettings_12 <| okIldn iX2_areSettings_15 rfl <| okBi iX2_areSettings_16 (by decide) <| okCGt (tl rfl) iX2_areSettings_18 <| okIldn iX2_areSettings_21 rfl <| okZLt (tl rfl) iX2_areSettings_22 <| okIldn iX2_areSettings_25 rfl <| okBi iX2_areSettings_26 (by decide) <| okCGt (tl rfl) iX2_areSettings_28 <| okIc iX2_areSettings_31 <| okGoto (tl rfl) iX2_areSettings_32)) (tNode (tLeaf (okIc iX2_areSettings_35 <| okTo (tl rfl))) (tLeaf (okZret iX2_areSettings_36 rfl)))) pc
-- X2_isOfLatest: heads []
def tX2_isOfLatest : Nat → Blk Unit := fun pc => bif Nat.blt pc 20 then (bif Nat.beq pc 0 then (oIld 0 <| oZLt 20 <| oIld 0 <| oIld 1 <| oCGe 20 <| oIld 0 <| oIld 1 <| oIld 2 <| oSubW <| oCLt 20 <| oI 1 <| oTo 21) else oNo) else (bif Nat.blt pc 21 then (bif Nat.beq pc 20 then (oI 0 <| oTo 21) else oNo) else (bif Nat.beq pc 21 then (oZret) else oNo))
theorem tX2_isOfLatest_ok : ∀ pc, bOk (encU) (bdU) mX2_isOfLatest 0 0 pc (tX2_isOfLatest pc) := fun pc => (tNode (tLeaf (okIldn iX2_isOfLatest_0 rfl <| okZLt (tl rfl) iX2_isOfLatest_1 <| okIldn iX2_isOfLatest_4 rfl <| okIldn iX2_isOfLatest_5 rfl <| okCGe (tl rfl) iX2_isOfLatest_6 <| okIldn iX2_isOfLatest_9 rfl <| okIldn iX2_isOfLatest_10 rfl <| okIldn iX2_isOfLatest_11 rfl <| okSubW iX2_isOfLatest_12 <| okCLt (tl rfl) iX2_isOfLatest_13 <| okIc iX2_isOfLatest_16 <| okGoto (tl rfl) iX2_isOfLatest_17)) (tNode (tLeaf (okIc iX2_isOfLatest_20 <| okTo (tl rfl))) (tLeaf (okZret iX2_isOfLatest_21 rfl)))) pc
-- X2_drawAfter: heads []
def tX2_drawAfter : Nat → Blk Unit := fun pc => bif Nat.beq pc 0 then (oIld 0 <| oI 1103515245 <| oMulW <| oI 12345 <| oAddW <| oIret) else oNo
theorem tX2_drawAfter_ok : ∀ pc, bOk (encU) (bdU) mX2_drawAfter 0 0 pc (tX2_drawAfter pc) := fun pc => (tLeaf (okIldn iX2_drawAfter_0 rfl <| okLdcw (v := 1103515245) iX2_drawAfter_1 (xl_Ti 750 (by decide +kernel) rfl) (by decide) <| okMulW iX2_drawAfter_4 <| okSi iX2_drawAfter_5 (by decide) <| okAddW iX2_drawAfter_8 <| okIret iX2_drawAfter_9 rfl)) pc
-- X2_drawOf: heads []
def tX2_drawOf : Nat → Blk Unit := fun pc => bif Nat.blt pc 13 then (bif Nat.beq pc 0 then (oIld 1 <| oZLe 13 <| oIld 0 <| oI 16 <| oUshr <| oIld 1 <| oRemT <| oTo 14) else oNo) else (bif Nat.blt pc 14 then (bif Nat.beq pc 13 then (oI 0 <| oTo 14) else oNo) else (bif Nat.beq pc 14 then (oIret) else oNo))
theorem tX2_drawOf_ok : ∀ pc, bOk (encU) (bdU) mX2_drawOf 0 0 pc (tX2_drawOf pc) := fun pc => (tNode (tLeaf (okIldn iX2_drawOf_0 rfl <| okZLe (tl rfl) iX2_drawOf_1 <| okIldn iX2_drawOf_4 rfl <| okBi iX2_drawOf_5 (by decide) <| okUshr iX2_drawOf_7 <| okIldn iX2_drawOf_8 rfl <| okRemT iX2_drawOf_9 <| okGoto (tl rfl) iX2_drawOf_10)) (tNode (tLeaf (okIc iX2_drawOf_13 <| okTo (tl rfl))) (tLeaf (okIret iX2_drawOf_14 rfl)))) pc
def sX2_isKey : Int → Unit → KU → Prop := fun k s K => xB k ∧ ((0 ≤ k ∧ k < 6) → K [pI 1] s) ∧ (¬ (0 ≤ k ∧ k < 6) → K [pI 0] s)
theorem mX2_isKey_ok : mOk encU bdU mX2_isKey (a1 sX2_isKey) := by
  refine mOSa1 kX2_isKey (fun _ => rfl) (fun k s K h hb => wx_J [] 9 tX2_isKey_ok rfl (fun J hR hJ => ?_))
  obtain ⟨h1, h2, h3⟩ := h
  repeat' (first | (refine And.intro ?_ ?_) | intro _)
  all_goals first | omega | exact hR _ _ (h2 (by omega)) | exact hR _ _ (h3 (by omega))
def sX2_isTime : Int → Unit → KU → Prop := fun t s K => xB t ∧ ((0 ≤ t ∧ t ≤ 9999) → K [pI 1] s) ∧ (¬ (0 ≤ t ∧ t ≤ 9999) → K [pI 0] s)
theorem mX2_isTime_ok : mOk encU bdU mX2_isTime (a1 sX2_isTime) := by
  refine mOSa1 kX2_isTime (fun _ => rfl) (fun k s K h hb => wx_J [] 9 tX2_isTime_ok rfl (fun J hR hJ => ?_))
  obtain ⟨h1, h2, h3⟩ := h
  repeat' (first | (refine And.intro ?_ ?_) | intro _)
  all_goals first | omega | exact hR _ _ (h2 (by omega)) | exact hR _ _ (h3 (by omega))
abbrev okSet (g l e : Int) : Prop := 1 ≤ g ∧ g ≤ 99 ∧ 0 ≤ l ∧ l ≤ 99 ∧ 0 ≤ e ∧ e ≤ 9
def sX2_areSettings : Int → Int → Int → Unit → KU → Prop := fun g l e s K => (xB g ∧ xB l ∧ xB e) ∧ (okSet g l e → K [pI 1] s) ∧ (¬ okSet g l e → K [pI 0] s)
theorem mX2_areSettings_ok : mOk encU bdU mX2_areSettings (a3 sX2_areSettings) := by
  refine mOSa3 kX2_areSettings (fun _ _ _ => rfl) (fun g l e s K h hb => wx_J [] 9 tX2_areSettings_ok rfl (fun J hR hJ => ?_))
  obtain ⟨h1, h2, h3⟩ := h
  repeat' (first | (refine And.intro ?_ ?_) | intro _)
  all_goals first | omega | exact hR _ _ (h2 (by omega)) | exact hR _ _ (h3 (by omega))
abbrev ofLatest (i z k : Int) : Prop := 0 ≤ i ∧ i < z ∧ wI (z - k) ≤ i
def sX2_isOfLatest : Int → Int → Int → Unit → KU → Prop := fun i z k s K => (xB i ∧ xB z ∧ xB k) ∧ (ofLatest i z k → K [pI 1] s) ∧ (¬ ofLatest i z k → K [pI 0] s)
theorem mX2_isOfLatest_ok : mOk encU bdU mX2_isOfLatest (a3 sX2_isOfLatest) := by
  refine mOSa3 kX2_isOfLatest (fun _ _ _ => rfl) (fun i z k s K h hb => wx_J [] 9 tX2_isOfLatest_ok rfl (fun J hR hJ => ?_))
  obtain ⟨h1, h2, h3⟩ := h
  repeat' (first | (refine And.intro ?_ ?_) | intro _)
  all_goals first | omega | exact hR _ _ (h2 (by omega)) | exact hR _ _ (h3 (by omega))
def dAfter (d : Int) : Int := wI (wI (d * 1103515245) + 12345)
def sX2_drawAfter : Int → Unit → KU → Prop := fun d s K => xB d ∧ (xB (dAfter d) → K [pI (dAfter d)] s)
theorem mX2_drawAfter_ok : mOk encU bdU mX2_drawAfter (a1 sX2_drawAfter) := by
  refine mOSa1 kX2_drawAfter (fun _ => rfl) (fun d s K h hb => wx_J [] 9 tX2_drawAfter_ok rfl (fun J hR hJ => ?_))
  obtain ⟨h1, h2⟩ := h
  have hK := h2 (wI_B _)
  repeat' (first | (refine And.intro ?_ ?_) | intro _)
  all_goals first | omega | exact hR _ _ hK
def ush (a b : Int) : Int := ((iI a).toUInt32 >>> ((iI b).toUInt32 &&& Int32.toUInt32 31)).toInt32.toInt
theorem ush_B (a b : Int) : xB (ush a b) := xb_of _
def dOf (d n : Int) : Int := if 0 < n then Int.tmod (ush d 16) n else 0
def sX2_drawOf : Int → Int → Unit → KU → Prop := fun d n s K => (xB d ∧ xB n) ∧ (xB (dOf d n) → K [pI (dOf d n)] s)
theorem dOf_B {d n : Int} (hn : xB n) : xB (dOf d n) := by
  unfold dOf
  split
  · next c => exact tmod_B (ush_B _ _) c hn.2
  · exact ⟨by omega, by omega⟩
theorem mX2_drawOf_ok : mOk encU bdU mX2_drawOf (a2 sX2_drawOf) := by
  refine mOSa2 kX2_drawOf (fun _ _ => rfl) (fun d n s K h hb => wx_J [] 9 tX2_drawOf_ok rfl (fun J hR hJ => ?_))
  obtain ⟨⟨h1, h3⟩, h2⟩ := h
  have hK := h2 (dOf_B h3)
  have hu := ush_B d 16
  unfold dOf at hK
  by_cases c : 0 < n
  · rw [if_pos c] at hK
    have hu1 : -2147483648 ≤ ((iI d).toUInt32 >>> ((iI 16).toUInt32 &&& Int32.toUInt32 31)).toInt32.toInt := hu.1
    have hu2 : ((iI d).toUInt32 >>> ((iI 16).toUInt32 &&& Int32.toUInt32 31)).toInt32.toInt ≤ 2147483647 := hu.2
    repeat' (first | (refine And.intro ?_ ?_) | intro _)
    all_goals first | omega | exact hR _ _ hK
  · rw [if_neg c] at hK
    repeat' (first | (refine And.intro ?_ ?_) | intro _)
    all_goals first | omega | exact hR _ _ hK
section USC
variable {σ : Type} {enc : σ → XH} {bd : σ → Prop} {M μ : XI} {rc rs pc pc2 n : Nat}
theorem cUn {f : Sp Unit} {g : Sp σ} (hm : mOk encU bdU μ f) (hv : xl_U μ) (d : xl_Cs M pc μ pc2) (hn : n = μ.2.2.2.2.2.2) (h : ∀ as s K, g as s K → f as () (fun v _ => K v s)) : cOk enc bd M rc rs pc pc2 n g :=
  cStat hm hv d hn (fun as s K _ hs => ⟨fun k => k, fun _ => (), fun s _ => s, as, vLk_no, (pid_rel as).symm, h as s K hs⟩)
def cL_X2_isKey : Sp LSt := a1 (fun x s K => sX2_isKey x () (fun v _ => K v s))
theorem qL_X2_isKey (d : xl_Cs M pc mX2_isKey pc2) : cOk encL bdL M rc rs pc pc2 1 cL_X2_isKey := cUn mX2_isKey_ok vX2_isKey d rfl (fun as s K h1 => by
  obtain ⟨x, rfl, h2⟩ := a1_inv h1
  exact h2)
def cL_X2_isTime : Sp LSt := a1 (fun x s K => sX2_isTime x () (fun v _ => K v s))
theorem qL_X2_isTime (d : xl_Cs M pc mX2_isTime pc2) : cOk encL bdL M rc rs pc pc2 1 cL_X2_isTime := cUn mX2_isTime_ok vX2_isTime d rfl (fun as s K h1 => by
  obtain ⟨x, rfl, h2⟩ := a1_inv h1
  exact h2)
def cL_X2_areSettings : Sp LSt := a3 (fun x y z s K => sX2_areSettings x y z () (fun v _ => K v s))
theorem qL_X2_areSettings (d : xl_Cs M pc mX2_areSettings pc2) : cOk encL bdL M rc rs pc pc2 3 cL_X2_areSettings := cUn mX2_areSettings_ok vX2_areSettings d rfl (fun as s K h1 => by
  obtain ⟨x, y, z, rfl, h2⟩ := a3_inv h1
  exact h2)
def cL_X2_isOfLatest : Sp LSt := a3 (fun x y z s K => sX2_isOfLatest x y z () (fun v _ => K v s))
theorem qL_X2_isOfLatest (d : xl_Cs M pc mX2_isOfLatest pc2) : cOk encL bdL M rc rs pc pc2 3 cL_X2_isOfLatest := cUn mX2_isOfLatest_ok vX2_isOfLatest d rfl (fun as s K h1 => by
  obtain ⟨x, y, z, rfl, h2⟩ := a3_inv h1
  exact h2)
def cL_X2_drawAfter : Sp LSt := a1 (fun x s K => sX2_drawAfter x () (fun v _ => K v s))
theorem qL_X2_drawAfter (d : xl_Cs M pc mX2_drawAfter pc2) : cOk encL bdL M rc rs pc pc2 1 cL_X2_drawAfter := cUn mX2_drawAfter_ok vX2_drawAfter d rfl (fun as s K h1 => by
  obtain ⟨x, rfl, h2⟩ := a1_inv h1
  exact h2)
def cL_X2_drawOf : Sp LSt := a2 (fun x y s K => sX2_drawOf x y () (fun v _ => K v s))
theorem qL_X2_drawOf (d : xl_Cs M pc mX2_drawOf pc2) : cOk encL bdL M rc rs pc pc2 2 cL_X2_drawOf := cUn mX2_drawOf_ok vX2_drawOf d rfl (fun as s K h1 => by
  obtain ⟨x, y, rfl, h2⟩ := a2_inv h1
  exact h2)
end USC
section TSH
variable {M : XI} {rc rs pc pc2 : Nat}
def cT_X0_get (rm w : Int) : Sp TS := atR 0 (a2 (fun i c s K => (xB i ∧ xB c) ∧ (xB (tg rm w s.2 i c) → K [pI (tg rm w s.2 i c)] s)))
theorem qT_X0_get (rm w : Int) (d : xl_Ca M pc mX0_get pc2) : cOk (encT rm w) (bdT rm w) M rc rs pc pc2 3 (cT_X0_get rm w) := by
  refine cMono (fun as s K hb h => ?_) (cSame (mX0_get_ok rm w) vX0_get d tcl rfl lenT recT)
  obtain ⟨as, rfl, h1⟩ := atR_inv h
  obtain ⟨i, c, rfl, h2, h3⟩ := a2_inv h1
  exact ⟨h2, h3 (tg_B hb.2.2)⟩
end TSH
-- X2_shifted: heads []
def tX2_shifted (rm w : Int) : Nat → Blk TS := fun pc => bif Nat.blt pc 30 then (bif Nat.blt pc 18 then (bif Nat.beq pc 0 then (oAld 0 <| oIld 1 <| oIld 2 <| oC3 (cT_X0_get rm w) <| oIst 3 <| oIld 2 <| oI 4 <| oCNe 18 <| oIld 3 <| oI 20000 <| oAddW <| oIret) else oNo) else (bif Nat.beq pc 18 then (oIld 2 <| oI 5 <| oCNe 30 <| oIld 3 <| oI 99 <| oAddW <| oTo 31) else oNo)) else (bif Nat.blt pc 31 then (bif Nat.beq pc 30 then (oIld 3 <| oTo 31) else oNo) else (bif Nat.beq pc 31 then (oIret) else oNo))
theorem tX2_shifted_ok (rm w : Int) : ∀ pc, bOk (encT rm w) (bdT rm w) mX2_shifted 0 0 pc (tX2_shifted rm w pc) := fun pc => (tNode (tNode (tLeaf (okAldn iX2_shifted_0 rfl <| okIldn iX2_shifted_1 rfl <| okIldn iX2_shifted_2 rfl <| okC3 (qT_X0_get rm w iX2_shifted_3) <| okIstn iX2_shifted_6 rfl (by decide) <| okIldn iX2_shifted_7 rfl <| okIc iX2_shifted_8 <| okCNe (tl rfl) iX2_shifted_9 <| okIldn iX2_shifted_12 rfl <| okSi iX2_shifted_13 (by decide) <| okAddW iX2_shifted_16 <| okIret iX2_shifted_17 rfl)) (tLeaf (okIldn iX2_shifted_18 rfl <| okIc iX2_shifted_19 <| okCNe (tl rfl) iX2_shifted_20 <| okIldn iX2_shifted_23 rfl <| okBi iX2_shifted_24 (by decide) <| okAddW iX2_shifted_26 <| okGoto (tl rfl) iX2_shifted_27))) (tNode (tLeaf (okIldn iX2_shifted_30 rfl <| okTo (tl rfl))) (tLeaf (okIret iX2_shifted_31 rfl)))) pc
def shift7 (x c : Int) : Int := if c = 4 then wI (x + 20000) else if c = 5 then wI (x + 99) else x
def sX2_shifted (rm w : Int) : List PV → TS → KT → Prop := fun as s K => match as with
  | [.inr (.inr (.inl 0)), .inl i, .inl c] => (xB i ∧ xB c) ∧ K [pI (shift7 (tg rm w s.2 i c) c)] s
  | _ => False
theorem mX2_shifted_ok (rm w : Int) : mOk (encT rm w) (bdT rm w) mX2_shifted (sX2_shifted rm w) := by
  refine mOk_of kX2_shifted (fun as s K h => ?_)
  unfold sX2_shifted at h
  split at h
  · next i c =>
    refine ⟨rfl, fun hb => wx_J [] 9 (tX2_shifted_ok rm w) rfl (fun J hR hJ => ?_)⟩
    obtain ⟨⟨h1, h2⟩, hK⟩ := h
    unfold shift7 at hK
    by_cases c1 : c = 4
    · rw [if_pos c1] at hK
      repeat' (first | (refine And.intro ?_ ?_) | intro _)
      all_goals first | omega | exact hR _ _ hK
    · by_cases c2 : c = 5
      · rw [if_neg c1, if_pos c2] at hK
        repeat' (first | (refine And.intro ?_ ?_) | intro _)
        all_goals first | omega | exact hR _ _ hK
      · rw [if_neg c1, if_neg c2] at hK
        repeat' (first | (refine And.intro ?_ ?_) | intro _)
        all_goals first | omega | exact hR _ _ hK
  · exact h.elim
def cL_X2_shifted : Sp LSt := fun as s K => match as with
  | [.inr (.inr (.inl r)), .inl i, .inl c] => match tixL r with
    | some (q, t) => (xB i ∧ xB c) ∧ K [pI (shift7 (wG (s.2.2 q) t i c) c)] s
    | none => False
  | _ => False
theorem qL_sh {r q t : Nat} {i c : Int} (ht : tixL r = some (q, t)) {M : XI} {rc rs pc pc2 : Nat} (d : xl_Cs M pc mX2_shifted pc2) : cOk encL bdL M rc rs pc pc2 3 (fun as s K => as = [pR r, pI i, pI c] ∧ (xB i ∧ xB c) ∧ K [pI (shift7 (wG (s.2.2 q) t i c) c)] s) := by
  refine cStat (mX2_shifted_ok (rmT t) (wdT t)) vX2_shifted d rfl (fun as2 s2 K2 hb2 h2 => ?_)
  obtain ⟨e1, h3, h4⟩ := h2
  have h5 : K2 [pI (shift7 (wG (s2.2.2 q) t i c) c)] (setW s2 q (setT (s2.2.2 q) t ((s2.2.2 q).2 t))) := by
    rw [setT_self, setW_self]
    exact h4
  exact ⟨_, _, _, [pR 0, pI i, pI c], (lkLT ht).1, e1, h3, h5⟩
theorem qL_X2_shifted {M : XI} {rc rs pc pc2 : Nat} (d : xl_Cs M pc mX2_shifted pc2) : cOk encL bdL M rc rs pc pc2 3 cL_X2_shifted := by
  intro as L st s K Q hl hw hb hs hk
  unfold cL_X2_shifted at hs
  split at hs
  · next r i c =>
    split at hs
    · next q t ht => exact qL_sh ht d _ L st s K Q hl hw hb ⟨rfl, hs⟩ hk
    · exact hs.elim
  · exact hs.elim
