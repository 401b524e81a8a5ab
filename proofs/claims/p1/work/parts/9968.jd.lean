/-! ===== years: both ===== -/
theorem ush_nn (a : Int) : 0 ≤ ush a 16 := by
  unfold ush
  have e : ((iI a).toUInt32 >>> ((iI 16).toUInt32 &&& Int32.toUInt32 31)).toNat < 65536 := by
    rw [show ((iI 16).toUInt32 &&& Int32.toUInt32 31) = 16 from by decide, UInt32.toNat_shiftRight]
    have := (iI a).toUInt32.toNat_lt
    show (iI a).toUInt32.toNat >>> 16 < 65536
    rw [Nat.shiftRight_eq_div_pow]
    omega
  generalize ((iI a).toUInt32 >>> ((iI 16).toUInt32 &&& Int32.toUInt32 31)) = y at e ⊢
  show 0 ≤ y.toBitVec.toInt
  have e2 : y.toBitVec.toNat < 65536 := e
  rw [BitVec.toInt_eq_toNat_of_lt (by omega)]
  omega
theorem dOf_nn (x : Int) {n : Int} (hn : 0 < n) : 0 ≤ dOf x n ∧ dOf x n < n := by
  unfold dOf
  rw [if_pos hn]
  exact ⟨Int.tmod_nonneg _ (ush_nn x), Int.tmod_lt_of_pos _ hn⟩
theorem dOf_1 (x : Int) : dOf x 1 = 0 := by
  have := dOf_nn x (n := 1) (by decide)
  omega
theorem yr_t {p x : Int} (hp : 0 ≤ p ∧ p ≤ 9979) (hx : 0 ≤ x ∧ x < 100) : wI (wI (p - 5) + x) = p - 5 + x := by
  rw [wI_id (z := p - 5) ⟨by omega, by omega⟩, wI_id ⟨by omega, by omega⟩]
theorem yrL_ok : ∀ (m : Nat) (d j : Int) (s : LSt), wJ j (s.2.2 1) → 0 ≤ j → j + m ≤ 1000 → wJ (j + m) ((yrL 1 m d s).2.2 1) ∧ (yrL 1 m d s).2.2 0 = s.2.2 0
  | 0, d, j, s, h, h0, h1 => ⟨by rw [show j + ((0 : Nat) : Int) = j by omega]; exact h, rfl⟩
  | m + 1, d, j, s, h, h0, h1 => by
    rw [yrL]
    have hx := dOf_nn (dAfter (dAfter d)) (n := 100) (by decide)
    have e : wI (wI ((s.2.2 1).1 3 - (s.2.2 1).1 1) + dOf (dAfter (dAfter d)) 100) = (s.2.2 1).1 3 - 5 + dOf (dAfter (dAfter d)) 100 := by
      rw [h.1]
      exact yr_t h.2.1 hx
    rw [dOf_1, e]
    have h3 := h.2.1
    have hP := play_ok (k := dOf (dAfter d) 6) (t := max 0 (min 9999 ((s.2.2 1).1 3 - 5 + dOf (dAfter (dAfter d)) 100))) (v := wI (dOf (dAfter (dAfter (dAfter d))) 199 - 99)) h ⟨h0, by omega⟩ ⟨by omega, by omega⟩ (by
      unfold wFate
      rw [h.1, wI_id (z := (s.2.2 1).1 3 - 5) ⟨by omega, by omega⟩, if_neg (by omega)]
      split <;> decide)
    generalize wPlayE (s.2.2 1) (dOf (dAfter d) 6) (max 0 (min 9999 ((s.2.2 1).1 3 - 5 + dOf (dAfter (dAfter d)) 100))) (wI (dOf (dAfter (dAfter (dAfter d))) 199 - 99)) 0 = w2 at hP ⊢
    obtain ⟨g1, g2⟩ := yrL_ok m (dAfter (dAfter (dAfter (dAfter d)))) (j + 1) (setW s 1 w2) hP (by omega) (by omega)
    exact ⟨by rw [show j + ((m + 1 : Nat) : Int) = j + 1 + (m : Int) by omega]; exact g1, g2⟩
theorem dI.cong {d n b j : Int} {s s' : MS} (h : dI d n b j s) (e : s'.2 3 = s.2 3) : dI d n b j s' := by
  have g := mg_cong e
  refine ⟨h.1.cong e, ?_⟩
  rw [g, g, g, g, g, g]
  exact h.2
theorem yrM_ok {c : Int} {K : Int → MS → Prop} (hc : c ≤ 40) (hK : ∀ s, K c s) : ∀ (m : Nat) (k : Int) (s : MS), dI 4 k (241 * k) k s → 0 ≤ k → k + m = c → yrM c K 60 m k k s
  | 0, k, s, h, h0, h1 => ⟨Or.inl (by omega), by rw [show k = c by omega]; exact hK s⟩
  | m + 1, k, s, h, h0, h1 => by
    obtain ⟨V, i0, i2, i16, i6, i4, i12⟩ := id h
    refine ⟨fun q => ?_, fun _ => ?_⟩
    · rw [i6] at q
      omega
    · have hx := dOf_nn (dAfter (dAfter (s.1 21))) (n := 100) (by decide)
      have hk := dOf_nn (dAfter (s.1 21)) (n := 6) (by decide)
      have ht : yrT s = mg s (4 * 2804 + 4) - 5 + dOf (dAfter (dAfter (s.1 21))) 100 := by
        unfold yrT
        rw [i2]
        exact yr_t i4 hx
      rw [i0, dOf_1, i6, ht]
      have htc : yrTc (mg s (4 * 2804 + 4) - 5 + dOf (dAfter (dAfter (s.1 21))) 100) = max 0 (min 9999 (mg s (4 * 2804 + 4) - 5 + dOf (dAfter (dAfter (s.1 21))) 100)) := by
        unfold yrTc
        split
        · omega
        · split <;> omega
      rw [htc]
      have hh : mHow (yrD4 s) 4 (max 0 (min 9999 (mg s (4 * 2804 + 4) - 5 + dOf (dAfter (dAfter (s.1 21))) 100))) < 2 := by
        unfold mHow
        rw [yrD4_mg, yrD4_mg, i2, wI_id (z := mg s (4 * 2804 + 4) - 5) ⟨by omega, by omega⟩, if_neg (by omega)]
        split <;> decide
      rw [if_pos hh]
      refine ⟨⟨h0, ⟨by decide, by decide⟩, by decide, by decide⟩, come_ok (m := 60) (h.cong (s' := yrD4 s) rfl) ⟨by decide, by decide⟩ (by omega) (by omega) (by omega) ⟨h0, by omega⟩ ⟨hk.1, by omega⟩ ⟨by omega, by omega⟩ hh (fun s' hI _ => ?_)⟩
      rw [wI_id (z := k + 1) ⟨by omega, by omega⟩]
      exact yrM_ok hc hK m (k + 1) s' (by rw [show 241 * (k + 1) = 241 * k + 4 * ((60 : Nat) : Int) + 1 by omega]; exact hI) (by omega) (by omega)
theorem w1_J : wJ 0 (wCopy w1 w1) := by
  unfold wJ
  decide +kernel
theorem ev_32 {a b : Int} (ha : xB a) (hb : xB b) : sX2_years a b s1 (fun v _ => ∃ q, v = [pI q] ∧ sX3_years a b m1 (fun w _ => w = [pI q] ∧ True)) := by
  refine ⟨⟨ha, hb, lok1⟩, _, rfl, ⟨ha, hb⟩, fun h => ev_q ?_, fun h => ?_⟩
  · unfold fYears
    rw [if_neg h]
  · have hb0 : 1 ≤ b ∧ b ≤ 40 := h
    have e : (fYears s1 a b).1 = b := by
      unfold fYears
      rw [if_pos h, show wZ (s1.2.2 0) 4 = 0 from w1_Z4, show wZ (s1.2.2 0) 0 = 1 from w1_Z0, show max (1 : Int) 1 = 1 from rfl, show wI (160 - 0) = 160 from by decide, show min b 160 = b by omega]
      have g := yrL_ok b.toNat a 0 (setW s1 1 (wCopy (s1.2.2 1) (s1.2.2 0))) w1_J (by decide) (by omega)
      generalize yrL 1 b.toNat a (setW s1 1 (wCopy (s1.2.2 1) (s1.2.2 0))) = S at g ⊢
      show wI ((S.2.2 1).1 6 - (S.2.2 0).1 6) = b
      have e0 : (S.2.2 0).1 6 = 0 := by rw [g.2]; exact w1_f 6 (by decide)
      rw [e0, g.1.2.2.1, wI_id ⟨by omega, by omega⟩]
      omega
    refine ⟨60, b.toNat, yrM_ok hb0.2 (fun s => ev_q (by rw [e]; rfl)) b.toNat 0 _ (dI_of (fun c h0 h1 => ?_)) (by decide) (by omega)⟩
    unfold gYrS
    rw [copy_g (f := 0) (t := 4) (by decide) (by decide) h0 (by omega), mg_S, mg_S, show 0 * 2804 + c = c by omega]
