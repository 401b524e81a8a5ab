/-! ===== new: a cell more, and a place more ===== -/
def xn_up (ρ : Nat → Nat) (n q : Nat) : Nat → Nat := fun i => bif Nat.beq i n then q else ρ i
/-- nothing points behind the cells -/
def xn_fr (n : Nat) (L : List (Option Value)) (st : List Value) (h : XH) : Prop := ∀ (ρ σ : Nat → Nat) (q : Nat), (∀ aC, xl_w aC (xn_up ρ n q) σ h = xl_w aC ρ σ h) ∧ st.map (xl_v (xn_up ρ n q) σ) = st.map (xl_v ρ σ) ∧ ∀ N ls, xl_L ρ σ N ls L → xl_L (xn_up ρ n q) σ N ls L
def xn_Nw (M : XI) (pc ci : Nat) (fs : List Value) (N pc2 : Nat) : Prop := ∃ (i : Nat) (C : String) (T : u_T) (ty : Nat → FieldType), decode M.2.1 pc = .ok (.new i, 3) ∧ pc + 3 = pc2 ∧ vwCl[ci]? = some (C, T, N) ∧ (∀ w ∈ u_ws C T N, w ∈ xl_T) ∧ Cond.classLink M.1.cls i C ∈ xl_T ∧ Cond.instantiable C N ∈ xl_T ∧ Cond.initialized C ∈ xl_T ∧ (∀ k, k < N → parseFieldDescriptor (T k).2.2.1 = some (ty k)) ∧ (∀ j, j < N → defaultValue (ty j) = vp_V fs j)
theorem xl_w_snoc (aC : Nat → ClassId) (ρ σ : Nat → Nat) (h : XH) (c : XE) : xl_w aC ρ σ (h ++ [c]) = xl_w aC ρ σ h ++ [(ρ h.length, xl_c aC ρ σ h.length c)] := by
  simp [xl_w, List.mapIdx_append]
theorem xn_new {S : XS} {Nn : Nat} {M : XI} {rc rs pc pc2 : Nat} {L : List (Option Value)} {st : List Value} {h : XH} {Po : Option (Option Value) → XH → Prop} {ci N : Nat} {fs : List Value} (d : xn_Nw M pc ci fs N pc2) (hn : Nn ≤ h.length) (hf : xn_fr h.length L st h) (hv : ∀ ρ σ, fs.map (xl_v ρ σ) = fs) (k : xn_W S Nn M rc rs pc2 L (.ref h.length :: st) (h ++ [.inr (ci, fs)]) Po) : xn_W S Nn M (rc + 1) (rs + N) pc L st h Po := by
  intro p l e R s m args below meth c D aC ρ σ aV A H locs cells slots ls Q hX hH hL h1 h2 hr ht hZ
  obtain ⟨i, C, T, ty, d1, rfl, d2, d3, d4, d5, d6, d7, d8⟩ := d
  obtain ⟨g1, g2, g3, g4, g5, g6⟩ := hH
  refine va_new hX.1 hX.2.1 hX.2.2.2.2.2.1 d3 ty d7 hX.2.2.2.2.1 (hX.2.2.2.2.2.1 _ d4) (hX.2.2.2.2.2.1 _ d5) (hX.2.2.2.2.2.1 _ d6) g1 g2 g3 g4 g6 d2 d8 (by omega) (by omega) d1 (fun q H1 q1 q2 q3 => ?_)
  obtain ⟨f1, f2, f3⟩ := hf ρ σ q
  have eq : xn_up ρ h.length q h.length = q := by
    unfold xn_up
    rw [Nat.beq_refl]
    rfl
  have ew : xl_w aC (xn_up ρ h.length q) σ (h ++ [.inr (ci, fs)]) = xl_w aC ρ σ h ++ [(q, .inr (ci, fs))] := by
    rw [xl_w_snoc, f1, eq]
    show _ ++ [(q, Sum.inr (ci, fs.map _))] = _
    rw [hv]
  have ek : ∀ i, i < Nn → xn_up ρ h.length q i = ρ i := by
    intro i hi
    unfold xn_up
    rw [beqF (by omega)]
    rfl
  have g := k p l e R s m args below meth c D aC (xn_up ρ h.length q) σ aV A H1 locs (cells + 1) (slots + N) ls Q hX ⟨g1, by rw [ew]; exact q1, by rw [ew]; exact q2, q3, g5, g6⟩ (f3 _ _ hL) (by omega) (by omega)
    (fun ρ' v h' H' locs' pc' cells' slots' ls' a1 a2 a3 a4 a5 a6 => hr ρ' v h' H' locs' pc' cells' slots' ls' (fun i hi => (a1 i hi).trans (ek i hi)) a2 a3 a4 (by omega) (by omega))
    (fun ρ' h' H' locs' pc' cells' slots' ls' a1 a2 a3 a4 a5 a6 a7 => ht ρ' h' H' locs' pc' cells' slots' ls' (fun i hi => (a1 i hi).trans (ek i hi)) a2 a3 a4 (by omega) (by omega) a7) hZ
  rw [List.map_cons, f2] at g
  have e0 : xl_v (xn_up ρ h.length q) σ (.ref h.length) = .ref q := by
    show Value.ref (xn_up ρ h.length q h.length) = .ref q
    rw [eq]
  rw [e0] at g
  exact g
/-- arrays of numbers -/
theorem xn_newa {S : XS} {Nn : Nat} {M : XI} {rc rs pc pc2 : Nat} {L : List (Option Value)} {st : List Value} {h : XH} {Po : Option (Option Value) → XH → Prop} {at0 : ArrayType} {t : Nat} {a0 : vp_A} {n : Int32} {N : Nat} (d : xl_D M pc (.newarray at0) 2 pc2) (hc : Cond.arrayClass (newarray.typeOf at0) ∈ xl_T) (ht0 : ∀ aC, (xl_ty aC)[t]? = some (aC t, newarray.typeOf at0)) (ha : ∀ cA : ClassId, vp_cell cA a0 = arrV cA N (fun _ => defaultValue (newarray.typeOf at0))) (h0 : ¬ n < 0) (hN : n.toNatClampNeg = N) (hB : N * componentBytes (newarray.typeOf at0) ≤ 536870912) (hn : Nn ≤ h.length) (hf : xn_fr h.length L st h) (hv : ∀ ρ k, xl_a ρ k a0.2 = a0.2) (k : xn_W S Nn M rc rs pc2 L (.ref h.length :: st) (h ++ [.inl (t, a0)]) Po) : xn_W S Nn M (rc + 1) (rs + N) pc L (.int n :: st) h Po := by
  intro p l e R s m args below meth c D aC ρ σ aV A H locs cells slots ls Q hX hH hL h1 h2 hr ht hZ
  obtain ⟨d1, rfl⟩ := d
  obtain ⟨g1, g2, g3, g4, g5, g6⟩ := hH
  refine va_newaK hX.1 hX.2.1 (hX.2.2.2.2.2.1 _ hc) (g := F0 m pc ls (.int n :: st.map (xl_v ρ σ))) rfl d1 rfl h0 hN hB (by omega) (by omega) rfl (fun H1 cA e1 z1 o1 hAr hNm => ?_)
  have ec : cA = aC t := Option.some.inj (hNm.symm.trans (hZ.1.1 t _ (ht0 aC)))
  subst ec
  obtain ⟨f1, f2, f3⟩ := hf ρ σ H.size
  have hk : ∀ (k : Nat) (x : Nat × va_E), (xl_w aC ρ σ h)[k]? = some x → H1[x.1]? = H[x.1]? := fun k x hx => o1 x.1 ((g2 k x hx).lt)
  have eq : xn_up ρ h.length H.size h.length = H.size := by
    unfold xn_up
    rw [Nat.beq_refl]
    rfl
  have ew : xl_w aC (xn_up ρ h.length H.size) σ (h ++ [.inl (t, a0)]) = xl_w aC ρ σ h ++ [(H.size, .inl (aC t, a0))] := by
    rw [xl_w_snoc, f1, eq]
    show _ ++ [(H.size, Sum.inl (aC t, a0.1, xl_a _ _ a0.2))] = _
    rw [hv]
  have ek : ∀ i, i < Nn → xn_up ρ h.length H.size i = ρ i := by
    intro i hi
    unfold xn_up
    rw [beqF (by omega)]
    rfl
  have q1 : va_P D vwCl (xl_w aC ρ σ h ++ [(H.size, .inl (aC t, a0))]) H1 := by
    refine (g2.kept hk).app (fun k x hx => ?_)
    match k, hx with
    | 0, hx =>
      cases hx
      exact e1.trans (congrArg some (ha (aC t)).symm)
    | k + 1, hx => cases hx
  have q2 : va_D A (xl_w aC ρ σ h ++ [(H.size, .inl (aC t, a0))]) := g3.push g2 rfl (g6 _ g4.1)
  have q3 : va_S A s.heap H1 locs := ⟨Nat.le_trans g4.1 (by omega), fun x h1 h2 => (o1 x (Nat.lt_of_lt_of_le h1 g4.1)).trans (g4.2.1 x h1 h2), g4.2.2⟩
  have g := k p l e R s m args below meth c D aC (xn_up ρ h.length H.size) σ aV A H1 locs (cells + 1) (slots + N) ls Q hX ⟨g1, by rw [ew]; exact q1, by rw [ew]; exact q2, q3, g5, g6⟩ (f3 _ _ hL) (by omega) (by omega)
    (fun ρ' v h' H' locs' pc' cells' slots' ls' a1 a2 a3 a4 a5 a6 => hr ρ' v h' H' locs' pc' cells' slots' ls' (fun i hi => (a1 i hi).trans (ek i hi)) a2 a3 a4 (by omega) (by omega))
    (fun ρ' h' H' locs' pc' cells' slots' ls' a1 a2 a3 a4 a5 a6 a7 => ht ρ' h' H' locs' pc' cells' slots' ls' (fun i hi => (a1 i hi).trans (ek i hi)) a2 a3 a4 (by omega) (by omega) a7) hZ
  have fin : (Value.ref h.length :: st).map (xl_v (xn_up ρ h.length H.size) σ) = .ref H.size :: st.map (xl_v ρ σ) := by
    rw [List.map_cons]
    show Value.ref (xn_up ρ h.length H.size h.length) :: _ = _
    rw [eq]
    exact congrArg _ (List.cons.inj (congrArg (List.cons Value.null) ((hf ρ σ H.size).2.1))).2
  rw [fin] at g
  exact g
