/-! ===== a reference into a field ===== -/
theorem xn_putr {S : XS} {Nn : Nat} {M : XI} {rc rs pc pc2 : Nat} {L : List (Option Value)} {st : List Value} {h : XH} {Po : Option (Option Value) → XH → Prop} {ci k r b : Nat} {fs : List Value} {ty : FieldType} (d : xl_P M pc ci k ty pc2) (hy : ∀ a, narrow ty (.ref a) = .ref a ∧ fits ty (.ref a) = true) (hb : r ≤ b) (hh : xl_n h r = some (.inr (ci, fs))) (hf : k < fs.length) (kk : xn_W S Nn M rc rs pc2 L st (xl_s h r (.inr (ci, xl_s fs k (.ref (b - r))))) Po) : xn_W S Nn M rc rs pc L (.ref b :: .ref r :: st) h Po := by
  obtain ⟨i, d, rfl, C, T, N, ty0, e1, e2, e3, e4, e5, e6, e7, e8⟩ := d
  intro p l e R s m args below meth c D aC ρ σ aV A H locs cells slots ls Q hX hH hL h1 h2 hr ht hZ
  obtain ⟨hK, hP, hD, hS, hE, hA⟩ := id hH
  rw [xl_n_eq] at hh
  refine va_put hX.1 hX.2.1 hX.2.2.2.2.2.1 e3 ty0 e5 e6 hX.2.2.2.2.1 hK hP hD hS r (xl_w_of hh) e1 k e2 (hX.2.2.2.2.2.1 _ e4) (fun _ h9 => h9) e7 e8 (v := .ref (ρ b)) (hy _).1 (hy _).2 (by rw [List.length_map]; exact hf) d (fun H1 locs1 hP1 hD1 hS1 => ?_)
  have ew : (xl_w aC ρ σ h).set r (ρ r, Sum.inr (ci, (fs.map (xl_v (fun d => ρ (r + d)) σ)).set k (.ref (ρ b)))) = xl_w aC ρ σ (xl_s h r (.inr (ci, xl_s fs k (.ref (b - r))))) := by
    rw [xl_s_eq, xl_s_eq, ← xl_w_set]
    show _ = (xl_w aC ρ σ h).set r (ρ r, Sum.inr (ci, (fs.set k (.ref (b - r))).map (xl_v (fun d => ρ (r + d)) σ)))
    rw [List.map_set]
    have e0 : xl_v (fun d => ρ (r + d)) σ (.ref (b - r)) = .ref (ρ b) := by
      show Value.ref (ρ (r + (b - r))) = .ref (ρ b)
      rw [Nat.add_sub_cancel' hb]
    rw [e0]
  rw [ew] at hP1 hD1
  exact kk p l e R s m args below meth c D aC ρ σ aV A H1 locs1 cells slots ls Q hX ⟨hK, hP1, hD1, hS1, hE, hA⟩ hL h1 h2 hr ht hZ
/-- a final field, in a constructor -/
def xn_Fp (M : XI) (pc ci k : Nat) (ty : FieldType) (pc2 : Nat) : Prop := ∃ (i : Nat) (C : String) (T : u_T) (N : Nat) (ty0 : Nat → FieldType), decode M.2.1 pc = .ok (.putfield i, 3) ∧ pc + 3 = pc2 ∧ vwCl[ci]? = some (C, T, N) ∧ k < N ∧ (∀ w ∈ u_ws C T N, w ∈ xl_T) ∧ Cond.fieldLink M.1.cls i (T k).1 (T k).2.1 (T k).2.2.1 ∈ xl_T ∧ (∀ k, k < N → parseFieldDescriptor (T k).2.2.1 = some (ty0 k)) ∧ (∀ a, a < N → ∀ b, b < N → a ≠ b → (T a).2.1 ≠ (T b).2.1) ∧ (T k).2.2.2 = true ∧ parseFieldDescriptor (T k).2.2.1 = some ty ∧ M.1.name = "<init>" ∧ (T k).1 = M.1.cls
theorem xn_putf {S : XS} {Nn : Nat} {M : XI} {rc rs pc pc2 : Nat} {L : List (Option Value)} {st : List Value} {h : XH} {Po : Option (Option Value) → XH → Prop} {ci k r b : Nat} {fs : List Value} {ty : FieldType} (d : xn_Fp M pc ci k ty pc2) (hy : ∀ a, narrow ty (.ref a) = .ref a ∧ fits ty (.ref a) = true) (hb : r ≤ b) (hh : xl_n h r = some (.inr (ci, fs))) (hf : k < fs.length) (kk : xn_W S Nn M rc rs pc2 L st (xl_s h r (.inr (ci, xl_s fs k (.ref (b - r))))) Po) : xn_W S Nn M rc rs pc L (.ref b :: .ref r :: st) h Po := by
  obtain ⟨i, C, T, N, ty0, d, rfl, e1, e2, e3, e4, e5, e6, e7, e8, e9, e10⟩ := d
  intro p l e R s m args below meth c D aC ρ σ aV A H locs cells slots ls Q hX hH hL h1 h2 hr ht hZ
  obtain ⟨hK, hP, hD, hS, hE, hA⟩ := id hH
  rw [xl_n_eq] at hh
  refine va_putF hX.1 hX.2.1 hX.2.2.2.2.2.1 e3 ty0 e5 e6 hX.2.2.2.2.1 hK hP hD hS r (xl_w_of hh) e1 k e2 (hX.2.2.2.2.2.1 _ e4) (fun _ h9 => h9) e7 ((hZ.2.1 e9).trans e9) e10 e8 (v := .ref (ρ b)) (hy _).1 (hy _).2 (by rw [List.length_map]; exact hf) d (fun H1 locs1 hP1 hD1 hS1 => ?_)
  have ew : (xl_w aC ρ σ h).set r (ρ r, Sum.inr (ci, (fs.map (xl_v (fun d => ρ (r + d)) σ)).set k (.ref (ρ b)))) = xl_w aC ρ σ (xl_s h r (.inr (ci, xl_s fs k (.ref (b - r))))) := by
    rw [xl_s_eq, xl_s_eq, ← xl_w_set]
    show _ = (xl_w aC ρ σ h).set r (ρ r, Sum.inr (ci, (fs.set k (.ref (b - r))).map (xl_v (fun d => ρ (r + d)) σ)))
    rw [List.map_set]
    have e0 : xl_v (fun d => ρ (r + d)) σ (.ref (b - r)) = .ref (ρ b) := by
      show Value.ref (ρ (r + (b - r))) = .ref (ρ b)
      rw [Nat.add_sub_cancel' hb]
    rw [e0]
  rw [ew] at hP1 hD1
  exact kk p l e R s m args below meth c D aC ρ σ aV A H1 locs1 cells slots ls Q hX ⟨hK, hP1, hD1, hS1, hE, hA⟩ hL h1 h2 hr ht hZ
