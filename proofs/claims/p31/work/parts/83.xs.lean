/-! ===== the contract of a constructor ===== -/
def xn_Pc (D : va_G) (aC : Nat → ClassId) (ρ σ aV : Nat → Nat) (sz : Nat) (As : List Value) (h : XH) : Array Value → State → Prop :=
  va_Pc (As.map (xl_v ρ σ)) (fun U => (U.heap.size = sz ∧ va_P D vwCl (xl_w aC ρ σ h) U.heap ∧ va_K D vwCl (xl_ty aC) U ∧ va_D (fun _ => True) (xl_w aC ρ σ h) ∧ xl_S σ aV (va_A (xl_w aC ρ σ h) sz) U U.heap) ∧ xn_A aC U)
def xn_Qc (n : Nat) (D : va_G) (aC : Nat → ClassId) (ρ σ : Nat → Nat) (A : Nat → Prop) (Po : XH → Prop) : Array Value → State → Outcome → State → Prop := fun _ st oc t =>
  (∃ (ρ' : Nat → Nat) (h' : XH), oc = .returned none ∧ (∀ i, i < n → ρ' i = ρ i) ∧ Po h' ∧ va_P D vwCl (xl_w aC ρ' σ h') t.heap ∧ va_K D vwCl (xl_ty aC) t ∧ va_D A (xl_w aC ρ' σ h')) ∧ va_F A st t
def xn_C (μ : XI) (mc ms : Nat) (As : List Value) (h : XH) (Po : XH → Prop) : Prop :=
  ∀ (l : Launch), l.flags = flags0 → ∀ (D : va_G) (aC : Nat → ClassId) (ρ σ aV : Nat → Nat) (sz : Nat), Met l μ.1 (xl_ws μ) (xl_rm μ mc ms) (xn_Pc D aC ρ σ aV sz As h) (xn_Qc h.length D aC ρ σ (va_A (xl_w aC ρ σ h) sz) Po) mc ms (va_A (xl_w aC ρ σ h) sz)
theorem xn_con {μ : XI} {mc ms : Nat} {As : List Value} {h : XH} {Po : XH → Prop} (hk : xl_K μ) (L0 : List (Option Value)) (he : xl_e As μ.2.2.1 = L0) (hz : xl_z As ≤ μ.2.2.1) (hW : xn_W none h.length μ mc ms 0 L0 [] h (fun v h' => v = some none ∧ Po h')) : xn_C μ mc ms As h Po := by
  intro l hl D aC ρ σ aV sz
  refine Met.ofW (cc := μ.2.1) (maxL := μ.2.2.1) (ret := μ.2.2.2.1) hk.1 rfl ?_
  intro p e s m args below meth c s₁ B hml hv
  obtain ⟨rfl, ⟨hsz, hP, hK, hD0, hE⟩, hZ⟩ := hv
  have hts := atoms_spec (ws := xl_ws μ) B.pre
  have hown : s.vm.findClass μ.1.cls = some m.cls := findClass_of_methodNamed B.named
  have hlocks := B.notSynchronized
  have hin : meth.name = μ.1.name := (name_of_methodNamed B.named B.method).1
  subst hsz
  have hD := hD0.self (sz := s.heap.size)
  generalize hAe : va_A (xl_w aC ρ σ h) s.heap.size = A at hD hE ⊢
  have hA : ∀ q : Nat, s.heap.size ≤ q → A q := fun q h => by rw [← hAe]; exact Or.inr h
  have hS : va_S A s.heap s.heap [] := va_S.rf
  have hl0 := lv_entry (As.map (xl_v ρ σ)) (n := μ.2.2.1) (by rw [xl_z_eq]; exact hz)
  rw [lg_entry_eq]
  refine hW p l e _ s m _ below meth c D aC ρ σ aV A s.heap [] 0 0 _ _ ⟨B.exec, B.bytes, B.returns, hml, hown, fun w hw => hts w (List.mem_cons_of_mem _ hw), hlocks, Nat.le_refl _, Nat.le_refl _, hl⟩ ⟨hK, hP, hD, hS, hE, hA⟩ ⟨hl0.1, hl0.2.1, fun i v hi => ?_⟩ (by show 0 + mc ≤ mc; omega) (by show 0 + ms ≤ ms; omega) ?_ ?_ ⟨hZ, fun _ => hin, trivial⟩
  · rw [← he] at hi
    have := xl_e_in (ρ := ρ) (σ := σ) As μ.2.2.1 0 i v hi
    rw [Nat.zero_add] at this
    exact hl0.2.2 _ this
  · intro ρ' v h' H' locs' pc' cells' slots' ls' ha hPo hH' hR hc1 hc2
    obtain ⟨ew, hPo⟩ := hPo
    cases ew
    obtain ⟨hK', hP', hD', hS', hE', hA'⟩ := hH'
    refine W.widen (k := mc) (n := ms) (by omega) (by omega) ?_
    exact W.vret B.exec B.bytes (B.returns.trans hR.1) (fun t ht hW => ⟨⟨ρ', h', rfl, ha, hPo, by rw [ht]; exact hP', va_K.moved hW.alike hK', hD'⟩, hS'.F ht⟩) hS'.2.2 hR.2 hlocks
  · intro ρ' h' H' locs' pc' cells' slots' ls' ha hPo
    cases hPo.1
