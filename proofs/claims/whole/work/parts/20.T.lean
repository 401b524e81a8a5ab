/-! ===== Table: room, width, cells, size ===== -/
abbrev tv (rm w sz : Int) (n : Nat) (g : Nat → Int) : XH := [xO 0 [xi rm, xi w, .ref 1, xi sz], xA n g]
theorem mulb {i rm w c : Int} {n : Nat} (h : rm * w = n) (h0 : 0 ≤ i) (h1 : i < rm) (h2 : 0 ≤ c) (h3 : c < w) : 0 ≤ i * w ∧ 0 ≤ i * w + c ∧ i * w + c < n := by
  have e1 : 0 ≤ i * w := Int.mul_nonneg h0 (by omega)
  have e2 : (i + 1) * w ≤ rm * w := Int.mul_le_mul_of_nonneg_right (by omega) (by omega)
  rw [Int.add_mul, h] at e2
  omega
theorem c_T_get {rm w sz i c : Int} {n : Nat} {g : Nat → Int} (hn : rm * w = n) (hb : n ≤ 1000000) (hr : rm ≤ 1000000 ∧ w ≤ 1000000) (h0 : 0 ≤ i) (h1 : i < rm) (h2 : 0 ≤ c) (h3 : c < w) : xl_RI mX0_get [.ref 0, xi i, xi c] (tv rm w sz n g) (iI (g (i * w + c).toNat)) := by
  obtain ⟨b1, b2, b3⟩ := mulb hn h0 h1 h2 h3
  refine xl_con kX0_get [some (.ref 0), some (xi i), some (xi c)] rfl (Nat.le_of_ble_eq_true rfl) ?_
  refine xl_iload_n iX0_get_0 rfl ?_
  refine xz_if_lt iX0_get_1 ⟨by omega, by omega⟩ (fun c1 => ?_) (fun c1 => ?_)
  · exact absurd c1 (by omega)
  refine xl_iload_n iX0_get_4 rfl ?_
  refine xl_aload_n iX0_get_5 rfl ?_
  refine xy_getI iX0_get_6 rfl rfl ?_
  refine xz_icmp_ge iX0_get_9 ⟨by omega, by omega⟩ ⟨by omega, by omega⟩ (fun c9 => ?_) (fun c9 => ?_)
  · exact absurd c9 (by omega)
  refine xl_iload_n iX0_get_12 rfl ?_
  refine xz_if_lt iX0_get_13 ⟨by omega, by omega⟩ (fun c13 => ?_) (fun c13 => ?_)
  · exact absurd c13 (by omega)
  refine xl_iload_n iX0_get_16 rfl ?_
  refine xl_aload_n iX0_get_17 rfl ?_
  refine xy_getI iX0_get_18 rfl rfl ?_
  refine xz_icmp_lt iX0_get_21 ⟨by omega, by omega⟩ ⟨by omega, by omega⟩ (fun c21 => ?_) (fun c21 => ?_)
  · sorry
  · sorry
