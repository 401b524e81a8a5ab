/-! ===== contracts of methods that may throw ===== -/
def xt_E (A : Nat → Prop) (U : State) : Prop := vx_Zq Bundle.tN "UNASSIGNED_STACK" Bundle.steD A U U.heap ∧ vx_Zq Bundle.tN "SUPPRESSED_SENTINEL" Bundle.listD A U U.heap ∧ va_Nw (.castable nseC nseC) U ∧ va_Nw (.declares (Bundle.init0 "java/lang/RuntimeException")) U ∧ va_Nw (.declares (Bundle.init0 "java/lang/Exception")) U ∧ va_Nw (.declares (Bundle.init0 Bundle.tN)) U
theorem xt_E.go {A B : Nat → Prop} {s U : State} (h : xt_E A s) (hW : s.WarmedH U.vm) (hq : ∀ a : Nat, a < s.heap.size → ¬ A a → U.heap[a]? = s.heap[a]?) (hAB : ∀ q, B q → A q) : xt_E B U :=
  ⟨((h.1.kept hq).moved hW.alike).narrow hAB, ((h.2.1.kept hq).moved hW.alike).narrow hAB, h.2.2.1.warmC hW, h.2.2.2.1.warmD hW, h.2.2.2.2.1.warmD hW, h.2.2.2.2.2.warmD hW⟩
theorem xt_E.same {A : Nat → Prop} {s U : State} (h : xt_E A s) (hv : s.vm = U.vm) (hh : U.heap = s.heap) : xt_E A U :=
  ⟨by rw [hh]; exact h.1.moved (by rw [hv]; exact Vm.Alike.refl _), by rw [hh]; exact h.2.1.moved (by rw [hv]; exact Vm.Alike.refl _), h.2.2.1.same rfl hv, h.2.2.2.1.same rfl hv, h.2.2.2.2.1.same rfl hv, h.2.2.2.2.2.same rfl hv⟩
def xt_rm : Room := { frames := 6, cells := 1, slots := 6, locals := 100 }
def xt_Pc (D : va_G) (aC : Nat → ClassId) (ρ σ aV : Nat → Nat) (sz : Nat) (As : List Value) (h : XH) : Array Value → State → Prop :=
  va_Pc (As.map (xl_v ρ σ)) (fun U => (U.heap.size = sz ∧ va_P D vwCl (xl_w aC ρ σ h) U.heap ∧ va_K D vwCl (xl_ty aC) U ∧ va_D (fun _ => True) (xl_w aC ρ σ h) ∧ xl_S σ aV (va_A (xl_w aC ρ σ h) sz) U U.heap) ∧ xt_E (va_A (xl_w aC ρ σ h) sz) U)
def xt_X (D : va_G) (aC : Nat → ClassId) (ρ σ : Nat → Nat) (A : Nat → Prop) (Pt : XH → Prop) : String → State → State → Prop := vx_X Pt (fun E h' t => E = nseC ∧ va_P D vwCl (xl_w aC ρ σ h') t.heap ∧ va_D A (xl_w aC ρ σ h')) A
def xt_C (μ : XI) (As : List Value) (h : XH) (PP : Option (Option Value) → XH → Prop) : Prop :=
  ∀ (l : Launch), l.flags = flags0 → ∀ (D : va_G) (aC : Nat → ClassId) (ρ σ aV : Nat → Nat) (sz : Nat), vx_Met l μ.1 (xl_ws μ) xt_rm (xt_Pc D aC ρ σ aV sz As h) (xl_Qc D aC ρ σ (va_A (xl_w aC ρ σ h) sz) (fun v h' => PP (some v) h')) (xt_X D aC ρ σ (va_A (xl_w aC ρ σ h) sz) (fun h' => PP none h')) 1 6 (va_A (xl_w aC ρ σ h) sz)
theorem xt_con {μ : XI} {As : List Value} {h : XH} {PP : Option (Option Value) → XH → Prop} (hk : xl_K μ) (hy : xt_y μ) (hcls : μ.1.cls = RX2) (hfr : μ.2.2.2.2.1 ≤ 6) (hlo : μ.2.2.2.2.2.1 ≤ 100) (L0 : List (Option Value)) (he : xl_e As μ.2.2.1 = L0) (hz : xl_z As ≤ μ.2.2.1) (hW : xl_W μ 1 6 0 L0 [] h PP) : xt_C μ As h PP := by
  intro l hl D aC ρ σ aV sz
  refine vx_ofW (cc := μ.2.1) (maxL := μ.2.2.1) (ret := μ.2.2.2.1) hk.1 rfl ?_
  intro p e s m args below meth c s₁ B hml htab hv
  obtain ⟨rfl, ⟨hsz, hP, hK, hD0, hE⟩, hX⟩ := hv
  have hts := atoms_spec (ws := xl_ws μ) B.pre
  have hT : ∀ w ∈ xl_T, w.before _ s = true := fun w hw => hts w (List.mem_cons_of_mem _ hw)
  have hown : s.vm.findClass μ.1.cls = some m.cls := findClass_of_methodNamed B.named
  have hlocks := B.notSynchronized
  subst hsz
  have hD := hD0.self (sz := s.heap.size)
  generalize hAe : va_A (xl_w aC ρ σ h) s.heap.size = A at hD hE hX ⊢
  have hA : ∀ q : Nat, s.heap.size ≤ q → A q := fun q h => by rw [← hAe]; exact Or.inr h
  have hS : va_S A s.heap s.heap [] := va_S.rf
  have hl0 := lv_entry (As.map (xl_v ρ σ)) (n := μ.2.2.1) (by rw [xl_z_eq]; exact hz)
  rw [lg_entry_eq]
  refine hW p l e _ s m _ below meth c D aC ρ σ aV A s.heap [] 0 0 _ _ ⟨B.exec, B.bytes, B.returns, hml, hown, hT, hlocks, hfr, hlo, hl⟩ ⟨hK, hP, hD, hS, hE, hA⟩ ⟨hl0.1, hl0.2.1, fun i v hi => ?_⟩ (by show 0 + 1 ≤ 1; omega) (by show 0 + 6 ≤ 6; omega) ?_ ?_
  · rw [← he] at hi
    have := xl_e_in (ρ := ρ) (σ := σ) As μ.2.2.1 0 i v hi
    rw [Nat.zero_add] at this
    exact hl0.2.2 _ this
  · intro v h' H' locs' pc' cells' slots' ls' hPo hH' hR hc1 hc2
    obtain ⟨hK', hP', hD', hS', hE', hA'⟩ := hH'
    refine vx_ret ?_
    refine W.widen (k := 1) (n := 6) (by omega) (by omega) ?_
    have fin : ∀ t : State, t.heap = H' → s.WarmedH t.vm → xl_Qc D aC ρ σ A (fun v h' => PP (some v) h') (As.map (xl_v ρ σ)).toArray s (.returned (v.map (xl_v ρ σ))) t := fun t ht hW => ⟨⟨v, h', rfl, hPo, by rw [ht]; exact hP', va_K.moved hW.alike hK', hD'⟩, hS'.F ht⟩
    match v, hR, fin with
    | none, hR, fin => exact W.vret B.exec B.bytes (B.returns.trans hR.1) fin hS'.2.2 hR.2 hlocks
    | some (.int a), hR, fin =>
      obtain ⟨⟨ty, e1, e2⟩, e3⟩ := hR
      exact W.zret B.exec B.bytes (B.returns.trans e1) e2 fin hS'.2.2 e3 hlocks
    | some (.long a), hR, fin => exact W.lret B.exec B.bytes (B.returns.trans hR.1) fin hS'.2.2 hR.2 hlocks
    | some (.float a), hR, fin =>
      obtain ⟨⟨n, e1⟩, e3⟩ := hR
      exact W.aret B.exec B.bytes (B.returns.trans e1) (Or.inl ⟨n, rfl⟩) (Or.inr ⟨_, rfl⟩) fin hS'.2.2 e3 hlocks
  · intro h' H' locs' pc' cells' slots' ls' hPt hH' hYY hc1 hc2 hls
    obtain ⟨hK', hP', hD', hS', hE', hA'⟩ := hH'
    obtain ⟨d0, d3, d4, d7⟩ := xt_Y hy hYY
    obtain ⟨x1, x2, x3, x4, x5, x6⟩ := hX
    have hall : ∀ w ∈ xt_L, w.before _ s = true := vx_hat (B := xt_B) (fun w hw => hT w (xt_in w hw)) xt_bad (vx_c (va_Nw.use rfl x3) (vx_c (va_Nw.use rfl x4) (vx_c (va_Nw.use rfl x5) (vx_c (va_Nw.use rfl x6) vx_n))))
    refine vx_throw0 (own := RX2) (cls := nseC) (names := nseN) (ik := 128) (ic := 130) (A := A) B.exec B.bytes (xt_tr hl) (by rw [← hcls]; exact hown) xt_fit xt_fits (hall _ List.mem_cons_self) (hall _ (List.mem_cons_of_mem _ List.mem_cons_self)) (fun w hw => hall w (List.mem_cons_of_mem _ (List.mem_cons_of_mem _ hw))) (fun w hw => List.all_eq_true.mp xt_ot w hw) x1 x2 hS' (hls.trans hml.symm) d0 d3 d4 d7 (fun x hx => (htab x hx).elim) (by show 5 < 6; decide) (by show 81 ≤ 100; decide) (by show cells' + 1 ≤ 1; omega) (by show slots' + 6 ≤ 6; omega) hlocks (fun t hal hz hk => ?_) hS'.2.2 (by omega) (by omega)
    exact ⟨h', hPt, ⟨rfl, hP'.kept (fun k q hq => hk _ (hP' k q hq).lt), hD'⟩, Nat.le_trans hS'.1 hz, fun q h1 h2 => (hk q (Nat.lt_of_lt_of_le h1 hS'.1)).trans (hS'.2.1 q h1 h2)⟩
section XTA
variable {p : Program} {l : Launch} {e : Env} {R : Room} {s : State} {m : MethodId} {args : Array Value} {below : List Frame} {meth : Method} {c : Code} {H : Heap} {locs : List Loc} {cells slots : Nat} {Q : State → Prop}
theorem xt_after {pc mc ms : Nat} {ls : Array Slot} {rest st0 : List Value} {a : Array Value} {A0 A1 free : Nat → Prop} {D : va_G} {aC : Nat → ClassId} {ρ σ : Nat → Nat} {Po : Option Value → XH → Prop} {Pt : XH → Prop}
    (hr : vx_Run p l e R s m args below meth c H locs cells slots mc ms (F0 m pc ls st0) rest (xl_Qc D aC ρ σ A1 Po a) (xt_X D aC ρ σ A1 Pt) free) (hS : va_S A0 s.heap H locs) (hA : ∀ q, q < H.size → A1 q → A0 q) (hf : ∀ q, free q → A0 q)
    (kx : ∀ (h' : XH) (q9 : Addr) (ce : Cell) (H1 : Heap) (locs1 : List Loc), Pt h' → va_P D vwCl (xl_w aC ρ σ h') H1 → va_D A1 (xl_w aC ρ σ h') → H.size ≤ H1.size → (∀ q : Nat, q < H.size → ¬ A1 q → H1[q]? = H[q]?) → va_S A0 s.heap H1 locs1 → H1[q9]? = some ce → ce.vm = .none → s.vm.findClass nseC = some ce.cls → vx_W p l e R s m args below meth c H1 locs1 (cells + mc) (slots + ms) Q (F0 m pc ls rest) q9)
    (kk : ∀ (v : Option Value) (h' : XH) (H1 : Heap) (locs1 : List Loc), Po v h' → va_P D vwCl (xl_w aC ρ σ h') H1 → va_D A1 (xl_w aC ρ σ h') → H.size ≤ H1.size → (∀ q : Nat, q < H.size → ¬ A1 q → H1[q]? = H[q]?) → va_S A0 s.heap H1 locs1 → W p l e R s m args below meth c H1 locs1 (cells + mc) (slots + ms) Q (F0 m (pc + 3) ls ((v.map (xl_v ρ σ)).toList ++ rest))) : W p l e R s m args below meth c H locs cells slots Q (F0 m pc ls st0) := by
  intro T hT X
  rcases hr T hT X with ⟨v, st₀, t, T', L, h0, X', hL, e1, e2, ⟨⟨v', h', hv, hp, hP1, hK1, hD1⟩, hF⟩, st⟩ | ⟨q, st₀, t, T', L, E, ce, h0, X', hL, e1, e2, ⟨h', hp, ⟨rfl, hP1, hD1⟩, hF⟩, hce, hcv, hcl, st⟩
  · cases hv
    obtain ⟨k1, k2, k3⟩ := vx_keep h0 e1 hS hA hf hL hF
    obtain ⟨t2, a1, b1⟩ := kk v' h' T'.heap (locs ++ L) hp (by rw [e1]; exact hP1) hD1 k1 k2 k3 T' rfl X'
    exact ⟨t2, st t2 a1, b1⟩
  · obtain ⟨k1, k2, k3⟩ := vx_keep h0 e1 hS hA hf hL hF
    obtain ⟨t2, a1, b1⟩ := kx h' q ce T'.heap (locs ++ L) hp (by rw [e1]; exact hP1) hD1 k1 k2 k3 (by rw [e1]; exact hce) hcv hcl T' rfl X'
    exact ⟨t2, st.trans a1, b1⟩
end XTA
