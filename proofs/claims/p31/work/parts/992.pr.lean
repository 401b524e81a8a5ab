/-! ===== the law: its beginning ===== -/
theorem xl_ok_sh {π : Nat → Nat} {j : Nat} (h : ∀ d, π (j + d) = π j + d) (c : XE) : xl_ok π j c := by
  intro aC ρ σ
  cases c with
  | inl a =>
    obtain ⟨t, n, f | f | f | f | f⟩ := a <;> first | rfl | (simp only [xl_c, xl_a, h])
  | inr o => simp only [xl_c, h]
def piZ (j : Nat) : Nat := bif Nat.blt j 137 then j else bif Nat.beq j 137 then 150 else j - 1
theorem piZ_lo {j : Nat} (h : j < 137) : piZ j = j := by
  have e : Nat.blt j 137 = true := Nat.ble_eq_true_of_le h
  unfold piZ
  rw [e]; rfl
theorem piZ_hi (k : Nat) : piZ (138 + k) = 137 + k := by
  have e : Nat.blt (138 + k) 137 = false := by
    cases h : Nat.blt (138 + k) 137 with
    | false => rfl
    | true => exact absurd (xn_blt h) (by omega)
  have e2 : Nat.beq (138 + k) 137 = false := by
    cases h : Nat.beq (138 + k) 137 with
    | false => rfl
    | true => exact absurd (Nat.eq_of_beq_eq_true h) (by omega)
  unfold piZ
  rw [e, e2]
  show 138 + k - 1 = _
  omega
theorem piZ_inj : ∀ i, i < 151 → ∀ j, j < 151 → piZ i = piZ j → i = j := by
  intro i hi j hj e
  have key : ∀ i, i < 151 → (i < 137 ∧ piZ i = i) ∨ (i = 137 ∧ piZ i = 150) ∨ (137 < i ∧ piZ i + 1 = i) := by
    intro i hi
    rcases Nat.lt_trichotomy i 137 with h | h | h
    · exact Or.inl ⟨h, piZ_lo h⟩
    · subst h; exact Or.inr (Or.inl ⟨rfl, rfl⟩)
    · obtain ⟨k, rfl⟩ : ∃ k, i = 138 + k := ⟨i - 138, by omega⟩
      exact Or.inr (Or.inr ⟨h, by rw [piZ_hi]; omega⟩)
  rcases key i hi with h1 | h1 | h1 <;> rcases key j hj with h2 | h2 | h2 <;> omega
theorem piZ_u : ∀ i, i < 6 → piZ (1 + (32 + 13 * i)) = 1 + (32 + 13 * i) := fun i hi => piZ_lo (by omega)
theorem piZ_k : ∀ i, i < 2 → piZ (2 + (109 + 13 * i)) = 2 + (109 + 13 * i) := fun i hi => piZ_lo (by omega)
def natZ (s : LSt) (m : MS) : XH := (encN s ++ encM m) ++ [xL 1 (fun _ => 0)]
theorem natZ_lo (s : LSt) (m : MS) {j : Nat} (h : j < 137) : (natZ s m)[j]? = (encN s)[j]? := by
  rw [natZ, List.append_assoc, List.getElem?_append_left (by rw [lenN137]; exact h)]
theorem natZ_hi (s : LSt) (m : MS) {k : Nat} (h : k < 13) : (natZ s m)[137 + k]? = (encM m)[k]? := by
  rw [natZ, List.append_assoc, List.getElem?_append_right (by rw [lenN137]; omega), lenN137, show 137 + k - 137 = k by omega, List.getElem?_append_left (by rw [lenM13]; exact h)]
theorem natZ_o (s : LSt) (m : MS) : (natZ s m)[150]? = some (xL 1 (fun _ => 0)) := by
  rw [natZ, List.getElem?_append_right (by rw [List.length_append, lenN137, lenM13]; decide), List.length_append, lenN137, lenM13]
  rfl
theorem encZ_lo (s : LSt) (m : MS) (out : Nat → Int) {j : Nat} (h : j < 137) : (encZ s m out)[j]? = (encL s)[j]? := by
  rw [encZ, List.getElem?_append_left (by rw [lenL137]; exact h)]
theorem encZ_hi (s : LSt) (m : MS) (out : Nat → Int) (k : Nat) : (encZ s m out)[138 + k]? = (encM m)[k]? := by
  rw [encZ, List.getElem?_append_right (by rw [lenL137]; omega), lenL137, show 138 + k - 137 = k + 1 by omega, List.getElem?_cons_succ]
theorem encZ_o (s : LSt) (m : MS) (out : Nat → Int) : (encZ s m out)[137]? = some (xL 1 out) := by
  rw [encZ, List.getElem?_append_right (by rw [lenL137]; decide), lenL137]
  rfl
theorem natZ_perm (s : LSt) (m : MS) : ∀ j c, (encZ s m (fun _ => 0))[j]? = some c → ∃ c', (natZ s m)[piZ j]? = some c' ∧ xn_sm piZ j c (piZ j) c' := by
  intro j c hc
  rcases Nat.lt_trichotomy j 137 with h | h | h
  · rw [piZ_lo h, natZ_lo s m h]
    rw [encZ_lo _ _ _ h] at hc
    rcases encL_split j with h | ⟨q, i, hq, hi, rfl⟩ | h
    · rw [encL_h _ h] at hc
      rw [encN_h _ h]
      match j, h, hc with
      | 0, _, hc => cases hc; exact ⟨_, rfl, fun D aC ρ σ a H q => q⟩
      | 1, _, hc => cases hc; exact ⟨_, rfl, xn_sm_q (fun i hi => ⟨_, _, rfl, hdN_u i hi, piZ_u i hi⟩)⟩
      | 2, _, hc => cases hc; exact ⟨_, rfl, xn_sm_q (fun i hi => ⟨_, _, rfl, hdN_k i hi, piZ_k i hi⟩)⟩
      | 3, _, hc => cases hc; exact ⟨_, rfl, fun D aC ρ σ a H q => q⟩
      | 4, _, hc => cases hc; exact ⟨_, rfl, fun D aC ρ σ a H q => q⟩
      | 5, _, hc => cases hc; exact ⟨_, rfl, fun D aC ρ σ a H q => q⟩
      | 6, _, hc => cases hc; exact ⟨_, rfl, fun D aC ρ σ a H q => q⟩
    · rw [encL_w _ hq hi] at hc
      rw [encN_w _ hq hi]
      refine ⟨c, hc, ?_⟩
      have h9 := xn_sm_ok (π := piZ) (j := 7 + 13 * q + i) (c := c) ?_
      · rw [piZ_lo h] at h9
        exact h9
      intro aC ρ σ
      have h1 := encW_ref _ hc (fun k => piZ (7 + 13 * q + k)) (fun d hd => by
        show piZ (7 + 13 * q + (i + d)) = piZ (7 + 13 * q + i) + d
        rw [piZ_lo (by omega), piZ_lo (by omega)]; omega) aC ρ σ
      rw [← xl_ok_add (7 + 13 * q) i c aC (fun k => ρ (piZ k)) σ]
      exact h1
    · omega
  · subst h
    rw [encZ_o] at hc
    cases hc
    exact ⟨_, natZ_o s m, fun D aC ρ σ a H q => q⟩
  · obtain ⟨k, rfl⟩ : ∃ k, j = 138 + k := ⟨j - 138, by omega⟩
    rw [encZ_hi] at hc
    have hk : k < 13 := by
      have := (List.getElem?_eq_some_iff.mp hc).1
      rw [lenM13] at this
      exact this
    refine ⟨c, by rw [piZ_hi, natZ_hi s m hk]; exact hc, xn_sm_ok (xl_ok_sh (fun d => ?_) c)⟩
    rw [Nat.add_assoc, piZ_hi, piZ_hi, Nat.add_assoc]
theorem encM_cl (m : MS) {n j : Nat} (h : j + 13 ≤ n) : xn_cl n j (encM m) := by
  refine xn_cl_mono (n := j + 13) (k := j) (by omega) ?_
  refine ⟨?_, trivial, trivial, trivial, trivial, trivial, trivial, trivial, trivial, trivial, trivial, trivial, trivial, trivial⟩
  have e : ∀ d, d < 13 → Nat.blt (j + d) (j + 13) = true := fun d hd => Nat.ble_eq_true_of_le (by omega)
  show List.all _ (xn_vl (j + 13) j) = true
  simp only [List.all_cons, List.all_nil, xn_vl, e 1 (by decide), e 2 (by decide), e 3 (by decide), e 4 (by decide), e 5 (by decide), e 6 (by decide), e 7 (by decide), e 8 (by decide), e 9 (by decide), e 10 (by decide), e 11 (by decide), e 12 (by decide), Bool.and_self, Bool.and_true]
set_option maxRecDepth 100000 in
theorem law_pro {N : Nat} {z : Nat → Int} {rc rs : Nat} {Po : Option (Option Value) → XH → Prop} (kk : bdL s1 → bdM m1 → xn_W (some (N, fun j => iI (z j), xt_E)) 0 mL_law rc rs 23 (lwL 0) [] (encZ s1 m1 (fun _ => 0)) Po) : xn_W (some (N, fun j => iI (z j), xt_E)) 0 mL_law (rc + 1 + 12 + 1 + 136 + 1) (rs + 1 + 31669 + 23 + 30305 + 13) 0 [some (.float 99), none, none, none, none, none, none, none] [] [] Po := by
  refine xn_new (rc := rc + 1 + 12 + 1 + 136) (rs := rs + 1 + 31669 + 23 + 30305) iL_law_0 (Nat.zero_le _) (xn_fr_ok ⟨Nat.le_refl _, trivial, rfl, rfl⟩) (fun _ _ => rfl) ?_
  refine xn_dup iL_law_3 rfl ?_
  refine xn_callI (rc := rc + 1 + 12 + 1) (rs := rs + 1 + 31669 + 23) (h0 := []) (As := []) (rest := [.ref 0]) iL_law_4 nkX2_init rfl rfl rfl (by decide) ⟨Nat.le_succ _, trivial, rfl, rfl⟩ (Nat.zero_le _) cX2_init_ok (fun h' e => ?_)
  obtain ⟨rfl, hb1⟩ := e
  rw [List.nil_append]
  refine xn_astore_n iL_law_7 rfl (by decide) ?_
  have l0 := lenN137 s1
  refine xn_new (rc := rc + 1 + 12) (rs := rs + 1 + 31669) iL_law_8 (Nat.zero_le _) (xn_fr_ok ⟨Nat.le_refl _, by rw [l0]; exact encN_cl s1 (Nat.le_refl _), rfl, by rw [l0]; rfl⟩) (fun _ _ => rfl) ?_
  refine xn_dup iL_law_11 rfl ?_
  refine xn_callI (rc := rc + 1) (rs := rs + 1) (h0 := encN s1) (As := []) (rest := [.ref (encN s1).length]) iL_law_12 nkX3_init rfl rfl rfl (by simp [xl_1]) ⟨Nat.le_succ _, by rw [l0]; exact encN_cl s1 (by decide), by rw [l0]; rfl, by rw [l0]; rfl⟩ (Nat.zero_le _) cX3_init_ok (fun h' e => ?_)
  obtain ⟨rfl, hb2⟩ := e
  refine xn_astore_n iL_law_15 rfl (by decide) ?_
  have l1 : (encN s1 ++ encM m1).length = 150 := by rw [List.length_append, l0, lenM13]
  refine xn_iconst (iI 1) iL_law_16 rfl ?_
  refine xn_newa (rc := rc) (rs := rs) (t := 1) (a0 := (1, .inr (.inl (fun _ => lI 0)))) iL_law_17 ac_l (fun _ => rfl) newl (by decide) (by decide) (by decide) (Nat.zero_le _) (xn_fr_ok ⟨Nat.le_refl _, ?_, rfl, ?_⟩) (fun _ _ => rfl) ?_
  · rw [l1]
    exact xn_cl_app (encN_cl s1 (by decide)) (encM_cl m1 (by rw [l0]; decide))
  · rw [l1, l0]
    rfl
  refine xn_astore_n iL_law_19 rfl (by decide) ?_
  refine xn_iconst (iI 0) iL_law_20 rfl ?_
  refine xn_istore iL_law_21 rfl (by decide) ?_
  refine xn_permL (h := natZ s1 m1) piZ (hl := encZ s1 m1 (fun _ => 0)) (L' := lwL 0) (fun i j hi hj e => ?_) (natZ_perm s1 m1) (fun i hi => absurd hi (Nat.not_lt_zero _)) (fun ρ σ i v hv => ?_) (kk hb1 hb2)
  · rw [lenZ] at hi hj
    exact piZ_inj i hi j hj e
  · rw [l0, l1]
    match i, hv with
    | 0, hv => cases hv; exact ⟨_, rfl, rfl⟩
    | 1, hv => cases hv; exact ⟨_, rfl, rfl⟩
    | 2, hv => cases hv; exact ⟨_, rfl, rfl⟩
    | 3, hv => cases hv; exact ⟨_, rfl, rfl⟩
    | 4, hv => cases hv; exact ⟨_, rfl, rfl⟩
    | 5, hv => cases hv
    | 6, hv => cases hv
    | 7, hv => cases hv
    | i + 8, hv => cases hv
