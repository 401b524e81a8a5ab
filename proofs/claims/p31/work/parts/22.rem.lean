/-! ===== the rest of a division, signs as Java has them; counting ===== -/
section RMT
variable {σ : Type} {enc : σ → XH} {bd : σ → Prop} {M : XI} {rc rs pc pc2 : Nat} {B : Blk σ}
def oRemT (B : Blk σ) : Blk σ := fun J L st s => match st with
  | .inl b :: .inl a :: st => (b ≠ 0 ∧ xB a ∧ xB b) ∧ B J L (.inl (Int.tmod a b) :: st) s
  | _ => False
theorem iI_tmod {a b : Int} (ha : xB a) (hb : xB b) : iI a - iI a / iI b * iI b = iI (Int.tmod a b) := by
  have e : iI (a.tdiv b) = iI a / iI b := Int32.ofInt_tdiv (show Int32.minValue.toInt ≤ a from by show (-2147483648 : Int) ≤ a; exact ha.1) (show a ≤ Int32.maxValue.toInt from by show a ≤ (2147483647 : Int); exact ha.2) (show Int32.minValue.toInt ≤ b from by show (-2147483648 : Int) ≤ b; exact hb.1) (show b ≤ Int32.maxValue.toInt from by show b ≤ (2147483647 : Int); exact hb.2)
  rw [← e, iI_mul, iI_sub, Int.tmod_def, Int.mul_comm b]
theorem okRemT (d : xl_D M pc .irem 1 pc2) (k : bOk enc bd M rc rs pc2 B) : bOk enc bd M rc rs pc (oRemT B) := by
  intro Po Pt J hJ L st s hb h
  unfold oRemT at h
  split at h
  · next b a st => 
    obtain ⟨⟨h1, h2, h3⟩, h4⟩ := h
    exact xl_irem d (fun e => h1 ((iI_eq0 h3).mp e)) (by rw [iI_tmod h2 h3]; exact k Po Pt J hJ _ _ _ hb h4)
  · exact h.elim
theorem cMono {sp sp2 : Sp σ} {n : Nat} (h : ∀ as s K, bd s → sp as s K → sp2 as s K) (hc : cOk enc bd M rc rs pc pc2 n sp2) : cOk enc bd M rc rs pc pc2 n sp :=
  fun as L st s K Q hl hw hb hs hk => hc as L st s K Q hl hw hb (h as s K hb hs) hk
/-- an object among the caller's cells: which one, by its place -/
def inT (tix : Nat → Option Nat) (f : Nat → List PV → σ → (PS → σ → Prop) → Prop) : Sp σ := fun as s K => match as with
  | .inr (.inr (.inl q)) :: as => match tix q with
    | some t => bif as.all pnr then f t as s K else False
    | none => False
  | _ => False
theorem inT_inv {tix : Nat → Option Nat} {f : Nat → List PV → σ → (PS → σ → Prop) → Prop} {as : List PV} {s : σ} {K : PS → σ → Prop} (h : inT tix f as s K) : ∃ q t as', as = pR q :: as' ∧ tix q = some t ∧ as'.all pnr = true ∧ f t as' s K := by
  unfold inT at h
  split at h
  · next q as =>
    split at h
    · next t e =>
      obtain ⟨h1, h2⟩ := condT h
      exact ⟨q, t, as, rfl, e, h1, h2⟩
    · exact h.elim
  · exact h.elim
theorem inT_mk {tix : Nat → Option Nat} {f : Nat → List PV → σ → (PS → σ → Prop) → Prop} {as : List PV} {s : σ} {K : PS → σ → Prop} {q t : Nat} (h1 : tix q = some t) (h2 : as.all pnr = true) (h3 : f t as s K) : inT tix f (pR q :: as) s K := by
  show (match tix q with
    | some t => bif as.all pnr then f t as s K else False
    | none => False)
  rw [h1, h2]
  exact h3
theorem a0_inv {f : σ → (PS → σ → Prop) → Prop} {as : List PV} {s : σ} {K : PS → σ → Prop} (h : a0 f as s K) : as = [] ∧ f s K := by
  unfold a0 at h
  split at h
  · exact ⟨rfl, h⟩
  · exact h.elim
theorem a1_inv {f : Int → σ → (PS → σ → Prop) → Prop} {as : List PV} {s : σ} {K : PS → σ → Prop} (h : a1 f as s K) : ∃ x, as = [pI x] ∧ f x s K := by
  unfold a1 at h
  split at h
  · exact ⟨_, rfl, h⟩
  · exact h.elim
theorem a4_inv {f : Int → Int → Int → Int → σ → (PS → σ → Prop) → Prop} {as : List PV} {s : σ} {K : PS → σ → Prop} (h : a4 f as s K) : ∃ x y z u, as = [pI x, pI y, pI z, pI u] ∧ f x y z u s K := by
  unfold a4 at h
  split at h
  · exact ⟨_, _, _, _, rfl, h⟩
  · exact h.elim
/-- how many of n places from i on -/
def cntI (P : Int → Bool) : Nat → Int → Int
  | 0, _ => 0
  | n + 1, i => (bif P i then 1 else 0) + cntI P n (i + 1)
theorem cntI_b (P : Int → Bool) : ∀ (n : Nat) (i : Int), 0 ≤ cntI P n i ∧ cntI P n i ≤ n
  | 0, i => by simp [cntI]
  | n + 1, i => by
    have := cntI_b P n (i + 1)
    unfold cntI
    cases P i <;> simp only [cond_true, cond_false] <;> omega
def sumI (f : Int → Int) : Nat → Int → Int → Int
  | 0, _, a => a
  | n + 1, i, a => sumI f n (i + 1) (wI (a + f i))
theorem sumI_B (f : Int → Int) : ∀ (n : Nat) (i a : Int), xB a → xB (sumI f n i a)
  | 0, _, _, h => h
  | n + 1, i, a, _ => sumI_B f n (i + 1) _ (wI_B _)
end RMT
