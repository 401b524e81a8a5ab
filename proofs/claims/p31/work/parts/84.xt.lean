/-! ===== what cells, stack and locals point at: places below n alone ===== -/
def xn_ca (n k : Nat) : ((Nat → Int32) ⊕ (Nat → Int64) ⊕ (Nat → UInt32) ⊕ (Nat → UInt64) ⊕ (Nat → Option Nat)) → Prop := fun a => match a with
  | .inl _ => True
  | .inr (.inl _) => True
  | .inr (.inr (.inl _)) => True
  | .inr (.inr (.inr (.inl _))) => True
  | .inr (.inr (.inr (.inr f))) => ∀ j d, f j = some d → k + d < n
def xn_vl (n k : Nat) : Value → Bool := fun v => match v with
  | .ref d => Nat.blt (k + d) n
  | _ => true
def xn_ce (n k : Nat) : XE → Prop := fun c => match c with
  | .inl a => xn_ca n k a.2.2
  | .inr o => o.2.all (xn_vl n k) = true
def xn_cl (n : Nat) : Nat → XH → Prop
  | _, [] => True
  | k, c :: t => xn_ce n k c ∧ xn_cl n (k + 1) t
def xn_ol (n : Nat) : Option Value → Bool := fun o => match o with
  | some v => xn_vl n 0 v
  | none => true
def xn_ok (n : Nat) (L : List (Option Value)) (st : List Value) (h : XH) : Prop := h.length ≤ n ∧ xn_cl n 0 h ∧ st.all (xn_vl n 0) = true ∧ L.all (xn_ol n) = true
theorem xn_blt {a b : Nat} (h : Nat.blt a b = true) : a < b := Nat.le_of_ble_eq_true h
theorem xn_vl_eq {n k : Nat} {ρ ρ' σ : Nat → Nat} {v : Value} (h : xn_vl n k v = true) (he : ∀ i, i < n → ρ' i = ρ i) : xl_v (fun d => ρ' (k + d)) σ v = xl_v (fun d => ρ (k + d)) σ v := by
  cases v with
  | ref d =>
    show Value.ref (ρ' (k + d)) = .ref (ρ (k + d))
    rw [he _ (xn_blt h)]
  | _ => rfl
theorem xn_v0_eq {n : Nat} {ρ ρ' σ : Nat → Nat} {v : Value} (h : xn_vl n 0 v = true) (he : ∀ i, i < n → ρ' i = ρ i) : xl_v ρ' σ v = xl_v ρ σ v := by
  cases v with
  | ref d =>
    show Value.ref (ρ' d) = .ref (ρ d)
    have := xn_blt h
    rw [he _ (by omega)]
  | _ => rfl
theorem xn_ce_eq {n k : Nat} {aC : Nat → ClassId} {ρ ρ' σ : Nat → Nat} {c : XE} (h : xn_ce n k c) (he : ∀ i, i < n → ρ' i = ρ i) : xl_c aC ρ' σ k c = xl_c aC ρ σ k c := by
  rcases c with ⟨t, m, f | f | f | f | f⟩ | ⟨ci, fs⟩
  · rfl
  · rfl
  · rfl
  · rfl
  · have h : ∀ j d, f j = some d → k + d < n := h
    have e : (fun j => (f j).map (fun d => ρ' (k + d))) = (fun j => (f j).map (fun d => ρ (k + d))) := by
      funext j
      cases hj : f j with
      | none => rfl
      | some d =>
        show some (ρ' (k + d)) = some (ρ (k + d))
        rw [he _ (h j d hj)]
    show Sum.inl (aC t, m, Sum.inr (Sum.inr (Sum.inr (Sum.inr (fun j => (f j).map (fun d => ρ' (k + d))))))) = _
    rw [e]
    rfl
  · have h : fs.all (xn_vl n k) = true := h
    show Sum.inr (ci, fs.map (xl_v (fun d => ρ' (k + d)) σ)) = Sum.inr (ci, fs.map (xl_v (fun d => ρ (k + d)) σ))
    rw [List.map_congr_left (fun v hv => xn_vl_eq (List.all_eq_true.mp h v hv) he)]
theorem xn_cl_at {n : Nat} : ∀ {h : XH} {b j : Nat} {c : XE}, xn_cl n b h → h[j]? = some c → xn_ce n (b + j) c
  | [], b, j, c, _, e => by simp at e
  | a :: t, b, 0, c, h, e => by
    simp at e
    subst e
    exact h.1
  | a :: t, b, j + 1, c, h, e => by
    have := xn_cl_at (h := t) (b := b + 1) (j := j) h.2 (by simpa using e)
    rw [show b + (j + 1) = b + 1 + j by omega]
    exact this
theorem xn_w_eq {n : Nat} {aC : Nat → ClassId} {ρ ρ' σ : Nat → Nat} {h : XH} (hn : h.length ≤ n) (hc : xn_cl n 0 h) (he : ∀ i, i < n → ρ' i = ρ i) : xl_w aC ρ' σ h = xl_w aC ρ σ h := by
  apply List.ext_getElem?
  intro i
  rw [xl_w_at, xl_w_at]
  cases e : h[i]? with
  | none => rfl
  | some c =>
    have hi := (List.getElem?_eq_some_iff.mp e).1
    have := xn_cl_at hc e
    rw [Nat.zero_add] at this
    show some (ρ' i, xl_c aC ρ' σ i c) = some (ρ i, xl_c aC ρ σ i c)
    rw [he i (by omega), xn_ce_eq this he]
theorem xn_ok_st {n : Nat} {L : List (Option Value)} {st : List Value} {h : XH} {ρ ρ' σ : Nat → Nat} (hk : xn_ok n L st h) (he : ∀ i, i < n → ρ' i = ρ i) : st.map (xl_v ρ' σ) = st.map (xl_v ρ σ) :=
  List.map_congr_left (fun v hv => xn_v0_eq (List.all_eq_true.mp hk.2.2.1 v hv) he)
theorem xn_ok_L {n : Nat} {L : List (Option Value)} {st : List Value} {h : XH} {ρ ρ' σ : Nat → Nat} {N : Nat} {ls : Array Slot} (hk : xn_ok n L st h) (he : ∀ i, i < n → ρ' i = ρ i) (hL : xl_L ρ σ N ls L) : xl_L ρ' σ N ls L :=
  ⟨hL.1, hL.2.1, fun i v e => by
    have e1 : L[i]? = some (some v) := by rw [← xl_n_eq]; exact e
    rw [xn_v0_eq (List.all_eq_true.mp hk.2.2.2 _ (List.mem_of_getElem? e1)) he]
    exact hL.2.2 i v e⟩
theorem xn_up_lt {ρ : Nat → Nat} {n q i : Nat} (h : i < n) : xn_up ρ n q i = ρ i := by
  unfold xn_up
  rw [beqF h]
  rfl
theorem xn_fr_ok {n : Nat} {L : List (Option Value)} {st : List Value} {h : XH} (hk : xn_ok n L st h) : xn_fr n L st h := fun ρ σ q =>
  ⟨fun aC => xn_w_eq hk.1 hk.2.1 (fun _ hi => xn_up_lt hi), xn_ok_st hk (fun _ hi => xn_up_lt hi), fun N ls hL => xn_ok_L hk (fun _ hi => xn_up_lt hi) hL⟩
theorem xn_cl_app {n : Nat} : ∀ {a b : XH} {k : Nat}, xn_cl n k a → xn_cl n (k + a.length) b → xn_cl n k (a ++ b)
  | [], b, k, _, h2 => by simpa using h2
  | c :: t, b, k, h1, h2 => ⟨h1.1, xn_cl_app h1.2 (by rw [show k + 1 + t.length = k + (c :: t).length by simp; omega]; exact h2)⟩
theorem xn_ce_mono {n n' k k' : Nat} {c : XE} (hn : n + k' ≤ n' + k) (h : xn_ce n k c) : xn_ce n' k' c := by
  rcases c with ⟨t, m, f | f | f | f | f⟩ | ⟨ci, fs⟩
  · trivial
  · trivial
  · trivial
  · trivial
  · intro j d e
    have h : ∀ j d, f j = some d → k + d < n := h
    have := h j d e
    omega
  · have h : fs.all (xn_vl n k) = true := h
    show fs.all (xn_vl n' k') = true
    rw [List.all_eq_true] at h ⊢
    intro v hv
    have := h v hv
    cases v with
    | ref d =>
      have := xn_blt this
      show Nat.blt (k' + d) n' = true
      exact Nat.ble_eq_true_of_le (by omega)
    | _ => rfl
theorem xn_cl_mono {n n' : Nat} : ∀ {h : XH} {k k' : Nat}, n + k' ≤ n' + k → xn_cl n k h → xn_cl n' k' h
  | [], _, _, _, _ => trivial
  | c :: t, k, k', hn, h => ⟨xn_ce_mono hn h.1, xn_cl_mono (k := k + 1) (k' := k' + 1) (by omega) h.2⟩
/-! ===== a final int field, an array of references, its elements, Object.<init> ===== -/
section XT
variable {S : XS} {Nn : Nat} {M μ : XI} {rc rs pc pc2 mc ms : Nat} {L : List (Option Value)} {st rest : List Value} {h h0 : XH} {Po : Option (Option Value) → XH → Prop}
theorem xn_putfi {ci k r : Nat} {fs : List Value} {a : Int32} (d : xn_Fp M pc ci k .int pc2) (hh : xl_n h r = some (.inr (ci, fs))) (hf : k < fs.length) (kk : xn_W S Nn M rc rs pc2 L st (xl_s h r (.inr (ci, xl_s fs k (.int a)))) Po) : xn_W S Nn M rc rs pc L (.int a :: .ref r :: st) h Po := by
  obtain ⟨i, C, T, N, ty0, d, rfl, e1, e2, e3, e4, e5, e6, e7, e8, e9, e10⟩ := d
  intro p l e R s m args below meth c D aC ρ σ aV A H locs cells slots ls Q hX hH hL h1 h2 hr ht hZ
  obtain ⟨hK, hP, hD, hS, hE, hA⟩ := id hH
  rw [xl_n_eq] at hh
  refine va_putF hX.1 hX.2.1 hX.2.2.2.2.2.1 e3 ty0 e5 e6 hX.2.2.2.2.1 hK hP hD hS r (xl_w_of hh) e1 k e2 (hX.2.2.2.2.2.1 _ e4) (fun _ h9 => h9) e7 ((hZ.2.1 e9).trans e9) e10 e8 (v := .int a) rfl rfl (by rw [List.length_map]; exact hf) d (fun H1 locs1 hP1 hD1 hS1 => ?_)
  have ew : (xl_w aC ρ σ h).set r (ρ r, Sum.inr (ci, (fs.map (xl_v (fun d => ρ (r + d)) σ)).set k (.int a))) = xl_w aC ρ σ (xl_s h r (.inr (ci, xl_s fs k (.int a)))) := by
    rw [xl_s_eq, xl_s_eq, ← xl_w_set]
    show _ = (xl_w aC ρ σ h).set r (ρ r, Sum.inr (ci, (fs.set k (.int a)).map (xl_v (fun d => ρ (r + d)) σ)))
    rw [List.map_set]
    rfl
  rw [ew] at hP1 hD1
  exact kk p l e R s m args below meth c D aC ρ σ aV A H1 locs1 cells slots ls Q hX ⟨hK, hP1, hD1, hS1, hE, hA⟩ hL h1 h2 hr ht hZ
def xn_Aq (M : XI) (pc pc2 : Nat) : Prop := ∃ i, decode M.2.1 pc = .ok (.anewarray i, 3) ∧ pc + 3 = pc2 ∧ Cond.classLink M.1.cls i RX1 ∈ xl_T
theorem xn_newq {n : Int32} {N : Nat} (d : xn_Aq M pc pc2) (h0 : ¬ n < 0) (hN : n.toNatClampNeg = N) (hB : N * 4 ≤ 536870912) (hn : Nn ≤ h.length) (hk : xn_ok h.length L st h) (k : xn_W S Nn M rc rs pc2 L (.ref h.length :: st) (h ++ [xQ N (fun _ => none)]) Po) : xn_W S Nn M (rc + 1) (rs + N) pc L (.int n :: st) h Po := by
  intro p l e R s m args below meth c D aC ρ σ aV A H locs cells slots ls Q hX hH hL h1 h2 hr ht hZ
  obtain ⟨i, d1, rfl, d2⟩ := d
  obtain ⟨g1, g2, g3, g4, g5, g6⟩ := hH
  refine va_newq hX.1 hX.2.1 hX.2.2.2.2.1 (hX.2.2.2.2.2.1 _ d2) hZ.1.2 g1 g2 g3 g4 g6 h0 hN hB (by omega) (by omega) d1 (fun q cA H1 q0 q1 q2 q3 => ?_)
  have ec : cA = aC 3 := by
    have := (q0.2 4 (cA, .object RX1) rfl).2
    obtain ⟨_, _, _, _, _, f4⟩ := this
    exact Option.some.inj (f4.symm.trans (hZ.1.1 3 (aC 3, .object RX1) rfl))
  subst ec
  have eq : xn_up ρ h.length q h.length = q := by
    unfold xn_up
    rw [Nat.beq_refl]
    rfl
  have ew : xl_w aC (xn_up ρ h.length q) σ (h ++ [xQ N (fun _ => none)]) = xl_w aC ρ σ h ++ [(q, .inl (aC 3, N, .inr (.inr (.inr (.inr (fun _ => none))))))] := by
    rw [xl_w_snoc, xn_w_eq hk.1 hk.2.1 (fun _ hi => xn_up_lt hi), eq]
    rfl
  have g := k p l e R s m args below meth c D aC (xn_up ρ h.length q) σ aV A H1 locs (cells + 1) (slots + N) ls Q hX ⟨g1, by rw [ew]; exact q1, by rw [ew]; exact q2, q3, g5, g6⟩ (xn_ok_L hk (fun _ hi => xn_up_lt hi) hL) (by omega) (by omega)
    (fun ρ' v h' H' locs' pc' cells' slots' ls' a1 a2 a3 a4 a5 a6 => hr ρ' v h' H' locs' pc' cells' slots' ls' (fun i hi => (a1 i hi).trans (xn_up_lt (by omega))) a2 a3 a4 (by omega) (by omega))
    (fun ρ' h' H' locs' pc' cells' slots' ls' a1 a2 a3 a4 a5 a6 a7 => ht ρ' h' H' locs' pc' cells' slots' ls' (fun i hi => (a1 i hi).trans (xn_up_lt (by omega))) a2 a3 a4 (by omega) (by omega) a7) hZ
  rw [List.map_cons, xn_ok_st hk (fun _ hi => xn_up_lt hi)] at g
  have e0 : xl_v (xn_up ρ h.length q) σ (.ref h.length) = .ref q := by
    show Value.ref (xn_up ρ h.length q h.length) = .ref q
    rw [eq]
  rw [e0] at g
  exact g
theorem xn_aast {r b n : Nat} {f : Nat → Option Nat} {fs : List Value} {i : Int32} (d : xl_D M pc .aastore 1 pc2) (hh : xl_n h r = some (xQ n f)) (hb : r ≤ b) (hv : xl_n h b = some (.inr (1, fs))) (hin : vp_in i n) (kk : xn_W S Nn M rc rs pc2 L st (xl_s h r (xQ n (va_up f i.toNatClampNeg (some (b - r))))) Po) : xn_W S Nn M rc rs pc L (.ref b :: .int i :: .ref r :: st) h Po := by
  obtain ⟨d, rfl⟩ := d
  intro p l e R s m args below meth c D aC ρ σ aV A H locs cells slots ls Q hX hH hL h1 h2 hr ht hZ
  obtain ⟨hK, hP, hD, hS, hE, hA⟩ := id hH
  rw [xl_n_eq] at hh hv
  refine va_astq hX.1 hX.2.1 hK hP hD hS r 3 b 1 (r := (RX1, TX1, 16)) (xl_w_of hh) rfl (xl_w_of hv) rfl hin d (fun H1 locs1 hP1 hD1 hS1 => ?_)
  have ew : (xl_w aC ρ σ h).set r (ρ r, Sum.inl (aC 3, n, Sum.inr (Sum.inr (Sum.inr (Sum.inr (va_up (fun j => (f j).map (fun d => ρ (r + d))) i.toNatClampNeg (some (ρ b)))))))) = xl_w aC ρ σ (xl_s h r (xQ n (va_up f i.toNatClampNeg (some (b - r))))) := by
    rw [xl_s_eq, ← xl_w_set]
    have e0 : va_up (fun j => (f j).map (fun d => ρ (r + d))) i.toNatClampNeg (some (ρ b)) = fun j => (va_up f i.toNatClampNeg (some (b - r)) j).map (fun d => ρ (r + d)) := by
      funext j
      unfold va_up
      by_cases hj : j = i.toNatClampNeg
      · rw [if_pos hj, if_pos hj]
        show some (ρ b) = some (ρ (r + (b - r)))
        rw [Nat.add_sub_cancel' hb]
      · rw [if_neg hj, if_neg hj]
    rw [e0]
    rfl
  exact kk p l e R s m args below meth c D aC ρ σ aV A H1 locs1 cells slots ls Q hX ⟨hK, by rw [← ew]; exact hP1, by rw [← ew]; exact hD1, hS1, hE, hA⟩ hL h1 h2 hr ht hZ
def xn_Oi (M : XI) (pc pc2 : Nat) : Prop := ∃ i, decode M.2.1 pc = .ok (.invokespecial i, 3) ∧ pc + 3 = pc2 ∧ Cond.methodLink M.1.cls i Lib.objectInit ∈ xl_T ∧ Cond.instanceMethod Lib.objectInit ∈ xl_T ∧ Cond.code Lib.objectInit ⟨#[0xb1]⟩ 1 none ∈ xl_T ∧ 1 ≤ M.2.2.2.2.1 ∧ 12 ≤ M.2.2.2.2.2.1
theorem xn_obj {r : Nat} (d : xn_Oi M pc pc2) (kk : xn_W S Nn M rc rs pc2 L [] h Po) : xn_W S Nn M rc rs pc L [.ref r] h Po := by
  obtain ⟨i, d, rfl, d3, d4, d5, d6, d7⟩ := d
  intro p l e R s m args below meth c D aC ρ σ aV A H locs cells slots ls Q hX hH hL h1 h2 hr ht hZ
  have hT := hX.2.2.2.2.2.1
  exact W.objInit hX.1 hX.2.1 hX.2.2.2.2.1 (hT _ d3) (hT _ d4) (hT _ d5) (g := F0 m pc ls [.ref (ρ r)]) rfl (hL.1.trans hX.2.2.2.1.symm) (a := ρ r) (rest := []) rfl d (Nat.le_trans d6 hX.2.2.2.2.2.2.2.1) (by show 2 * 0 + 0 + 12 ≤ R.locals; have := hX.2.2.2.2.2.2.2.2.1; omega) (kk p l e R s m args below meth c D aC ρ σ aV A H locs cells slots ls Q hX hH hL h1 h2 hr ht hZ)
end XT
