/-! ===== the law: one turn, its end (by program) ===== -/
def lwS (z : Nat → Int) (i : Nat) (x : LSt) (m : MS) (Post : LSt → MS → Prop) (k : Nat) : Prop := match k with
  | 0 => sX2_sign (z (i + 1)) x (fun v x' => ∃ q, v = [pI q] ∧ sX3_sign (z (i + 1)) m (fun w m' => (∃ q, w = [pI q]) ∧ Post x' m'))
  | 1 => sX2_end (z (i + 1)) x (fun v x' => ∃ q, v = [pI q] ∧ sX3_end (z (i + 1)) m (fun w m' => (∃ q, w = [pI q]) ∧ Post x' m'))
  | 2 => sX2_start (z (i + 1)) (z (i + 2)) (z (i + 3)) (z (i + 4)) x (fun v x' => ∃ q, v = [pI q] ∧ sX3_start (z (i + 1)) (z (i + 2)) (z (i + 3)) (z (i + 4)) m (fun w m' => (∃ q, w = [pI q]) ∧ Post x' m'))
  | 3 => sX2_delays (z (i + 1)) (z (i + 2)) x (fun v x' => ∃ q, v = [pI q] ∧ sX3_delays (z (i + 1)) (z (i + 2)) m (fun w m' => (∃ q, w = [pI q]) ∧ Post x' m'))
  | 4 => sX2_event (z (i + 1)) (z (i + 2)) (z (i + 3)) (z (i + 4)) x (fun v x' => ∃ q, v = [pI q] ∧ sX3_event (z (i + 1)) (z (i + 2)) (z (i + 3)) (z (i + 4)) m (fun w m' => (∃ q, w = [pI q]) ∧ Post x' m'))
  | 5 => sX2_events x (fun v x' => ∃ q, v = [pI q] ∧ sX3_events m (fun w m' => (∃ q, w = [pI q]) ∧ Post x' m'))
  | 6 => sX2_marks (z (i + 1)) (z (i + 2)) x (fun v x' => ∃ q, v = [pI q] ∧ sX3_marks (z (i + 1)) (z (i + 2)) m (fun w m' => (∃ q, w = [pI q]) ∧ Post x' m'))
  | 7 => sX2_idles (z (i + 1)) x (fun v x' => ∃ q, v = [pI q] ∧ sX3_idles (z (i + 1)) m (fun w m' => (∃ q, w = [pI q]) ∧ Post x' m'))
  | 8 => (lSrc x (z (i + 1)) ∧ 0 ≤ z (i + 2) ∧ z (i + 2) ≤ 5 → sX3_source (z (i + 1)) (z (i + 2)) m (fun w m' => (∃ q, w = [pI q]) ∧ Post x m')) ∧ (¬ (lSrc x (z (i + 1)) ∧ 0 ≤ z (i + 2) ∧ z (i + 2) ≤ 5) → sX3_source (z (i + 1)) (z (i + 2)) m (fun w m' => (∃ q, w = [pI q]) ∧ Post x m'))
  | 9 => ((0 ≤ z (i + 1) ∧ z (i + 1) < wZ (x.2.2 0) 1) ∧ 0 ≤ z (i + 2) ∧ z (i + 2) ≤ 7 → sX3_session (z (i + 1)) (z (i + 2)) m (fun w m' => (∃ q, w = [pI q]) ∧ Post x m')) ∧ (¬ ((0 ≤ z (i + 1) ∧ z (i + 1) < wZ (x.2.2 0) 1) ∧ 0 ≤ z (i + 2) ∧ z (i + 2) ≤ 7) → sX3_session (z (i + 1)) (z (i + 2)) m (fun w m' => (∃ q, w = [pI q]) ∧ Post x m'))
  | 10 => sX2_at (z (i + 1)) (z (i + 2)) x (fun v x' => ∃ q, v = [pI q] ∧ sX3_at (z (i + 1)) (z (i + 2)) m (fun w m' => (∃ q, w = [pI q]) ∧ Post x' m'))
  | 11 => (ofLatest (z (i + 1)) ((x.2.2 0).1 4) 60 ∧ 0 ≤ z (i + 2) ∧ z (i + 2) < 6 → sX3_message (z (i + 1)) (z (i + 2)) m (fun w m' => (∃ q, w = [pI q]) ∧ Post x m')) ∧ (¬ (ofLatest (z (i + 1)) ((x.2.2 0).1 4) 60 ∧ 0 ≤ z (i + 2) ∧ z (i + 2) < 6) → sX3_message (z (i + 1)) (z (i + 2)) m (fun w m' => (∃ q, w = [pI q]) ∧ Post x m'))
  | 12 => sX2_sent (z (i + 1)) x (fun v x' => ∃ q, v = [pI q] ∧ sX3_sent (z (i + 1)) m (fun w m' => (∃ q, w = [pI q]) ∧ Post x' m'))
  | 13 => sX2_stands x (fun v x' => ∃ q, v = [pI q] ∧ sX3_stands m (fun w m' => (∃ q, w = [pI q]) ∧ Post x' m'))
  | 14 => sX2_closed (z (i + 1)) x (fun v x' => ∃ q, v = [pI q] ∧ sX3_closed (z (i + 1)) m (fun w m' => (∃ q, w = [pI q]) ∧ Post x' m'))
  | 15 => (ofLatest (z (i + 1)) ((x.2.2 0).1 5) 40 ∧ 0 ≤ z (i + 2) ∧ z (i + 2) < 7 → sX3_finals (z (i + 1)) (z (i + 2)) m (fun w m' => (∃ q, w = [pI q]) ∧ Post x m')) ∧ (¬ (ofLatest (z (i + 1)) ((x.2.2 0).1 5) 40 ∧ 0 ≤ z (i + 2) ∧ z (i + 2) < 7) → sX3_finals (z (i + 1)) (z (i + 2)) m (fun w m' => (∃ q, w = [pI q]) ∧ Post x m'))
  | 16 => sX2_kinds (z (i + 1)) x (fun v x' => ∃ q, v = [pI q] ∧ sX3_kinds (z (i + 1)) m (fun w m' => (∃ q, w = [pI q]) ∧ Post x' m'))
  | 17 => sX2_slow x (fun v x' => ∃ q, v = [pI q] ∧ sX3_slow m (fun w m' => (∃ q, w = [pI q]) ∧ Post x' m'))
  | 18 => sX2_span (z (i + 1)) (z (i + 2)) x (fun v x' => ∃ q, v = [pI q] ∧ sX3_span (z (i + 1)) (z (i + 2)) m (fun w m' => (∃ q, w = [pI q]) ∧ Post x' m'))
  | 19 => sX2_taken x (fun v x' => ∃ q, v = [pI q] ∧ sX3_taken m (fun w m' => (∃ q, w = [pI q]) ∧ Post x' m'))
  | 20 => sX2_holds x (fun v x' => ∃ q, v = [pI q] ∧ sX3_holds m (fun w m' => (∃ q, w = [pI q]) ∧ Post x' m'))
  | 21 => sX2_next x (fun v x' => ∃ q, v = [pI q] ∧ sX3_next m (fun w m' => (∃ q, w = [pI q]) ∧ Post x' m'))
  | 22 => sX2_ahead (z (i + 1)) x (fun v x' => ∃ q, v = [pI q] ∧ sX3_ahead (z (i + 1)) m (fun w m' => (∃ q, w = [pI q]) ∧ Post x' m'))
  | 23 => sX2_would (z (i + 1)) (z (i + 2)) (z (i + 3)) (z (i + 4)) x (fun v x' => ∃ q, v = [pI q] ∧ sX3_would (z (i + 1)) (z (i + 2)) (z (i + 3)) (z (i + 4)) m (fun w m' => (∃ q, w = [pI q]) ∧ Post x' m'))
  | 24 => sX2_batch (z (i + 1)) x (fun v x' => ∃ q, v = [pI q] ∧ sX3_batch (z (i + 1)) m (fun w m' => (∃ q, w = [pI q]) ∧ Post x' m'))
  | 25 => sX2_latest x (fun v x' => ∃ q, v = [pI q] ∧ sX3_latest m (fun w m' => (∃ q, w = [pI q]) ∧ Post x' m'))
  | 26 => sX2_parts (z (i + 1)) (z (i + 2)) x (fun v x' => ∃ q, v = [pI q] ∧ sX3_parts (z (i + 1)) (z (i + 2)) m (fun w m' => (∃ q, w = [pI q]) ∧ Post x' m'))
  | 27 => sX2_again (z (i + 1)) (z (i + 2)) (z (i + 3)) x (fun v x' => ∃ q, v = [pI q] ∧ sX3_again (z (i + 1)) (z (i + 2)) (z (i + 3)) m (fun w m' => (∃ q, w = [pI q]) ∧ Post x' m'))
  | 28 => sX2_without (z (i + 1)) x (fun v x' => ∃ q, v = [pI q] ∧ sX3_without (z (i + 1)) m (fun w m' => (∃ q, w = [pI q]) ∧ Post x' m'))
  | 29 => ((0 ≤ z (i + 1) ∧ z (i + 1) < wZ (x.2.2 0) 4) ∧ 0 ≤ z (i + 2) ∧ z (i + 2) ≤ 3 → sX3_input (z (i + 1)) (z (i + 2)) m (fun w m' => w = [pI (fInput x (z (i + 1)) (z (i + 2)))] ∧ m'.1 0 = 0 ∧ Post x m')) ∧ (¬ ((0 ≤ z (i + 1) ∧ z (i + 1) < wZ (x.2.2 0) 4) ∧ 0 ≤ z (i + 2) ∧ z (i + 2) ≤ 3) → sX3_input (z (i + 1)) (z (i + 2)) m (fun w m' => (∃ q, w = [pI q]) ∧ m'.1 0 = 1 ∧ Post x m'))
  | 30 => sX2_day x (fun v x' => ∃ q, v = [pI q] ∧ sX3_day m (fun w m' => (∃ q, w = [pI q]) ∧ Post x' m'))
  | 31 => sX2_undo x (fun v x' => ∃ q, v = [pI q] ∧ sX3_undo m (fun w m' => (∃ q, w = [pI q]) ∧ Post x' m'))
  | 32 => sX2_years (z (i + 1)) (z (i + 2)) x (fun v x' => ∃ q, v = [pI q] ∧ sX3_years (z (i + 1)) (z (i + 2)) m (fun w m' => (∃ q, w = [pI q]) ∧ Post x' m'))
  | 33 => sX2_keep (z (i + 1)) x (fun v x' => ∃ q, v = [pI q] ∧ sX3_keep (z (i + 1)) m (fun w m' => (∃ q, w = [pI q]) ∧ Post x' m'))
  | 34 => sX2_back (z (i + 1)) x (fun v x' => ∃ q, v = [pI q] ∧ sX3_back (z (i + 1)) m (fun w m' => (∃ q, w = [pI q]) ∧ Post x' m'))
  | 35 => sX2_count (z (i + 1)) x (fun v x' => ∃ q, v = [pI q] ∧ sX3_count (z (i + 1)) m (fun w m' => (∃ q, w = [pI q]) ∧ Post x' m'))
  | 36 => (0 ≤ z (i + 1) ∧ z (i + 1) < x.1 3 ∧ z (i + 1) < 6 → sX3_row (z (i + 1)) m (fun w m' => (∃ q, w = [pJ q]) ∧ Post x m')) ∧ (¬ (0 ≤ z (i + 1) ∧ z (i + 1) < x.1 3 ∧ z (i + 1) < 6) → sX3_row (z (i + 1)) m (fun w m' => (∃ q, w = [pJ q]) ∧ Post x m'))
  | _ => Post x m
theorem and63 (x : Int32) : ∃ k : Nat, k < 64 ∧ x &&& 63 = iI k := by
  refine ⟨(x &&& 63).toBitVec.toNat, ?_, ?_⟩
  · have e : (x &&& 63).toBitVec.toNat = x.toBitVec.toNat &&& 63 := by
      rw [Int32.toBitVec_and, BitVec.toNat_and]
      rfl
    rw [e]
    exact Nat.lt_of_le_of_lt Nat.and_le_right (by decide)
  · apply Int32.toBitVec_inj.mp
    show _ = BitVec.ofInt 32 _
    rw [BitVec.ofInt_natCast, BitVec.ofNat_toNat]
    simp
section LT
variable {N : Nat} {z : Nat → Int} {Nn rc rs : Nat} {Po : Option (Option Value) → XH → Prop}
theorem law_end (i : Nat) (hi : N < i + 5) (hi2 : i ≤ 3005) (hN : N ≤ 3000) (h : XH) (hP : Po (some (some (xi 1))) h) : xn_W (some (N, fun j => iI (z j), xt_E)) Nn mL_law rc rs 23 (lwL i) [] h Po := by
  refine xn_iload iL_law_23 rfl ?_
  refine xn_saload_n iL_law_25 rfl ?_
  refine xn_slen iL_law_26 ?_
  refine xn_iconst (iI 5) iL_law_27 rfl ?_
  refine xn_isub iL_law_28 ?_
  rw [iI_nI, iI_sub]
  refine xn_icmp_gt iL_law_29 (fun _ => ?_) (fun h => absurd ((iI_lt ⟨by omega, by omega⟩ ⟨by omega, by omega⟩).mpr (show (N : Int) - 5 < (i : Int) by omega)) h)
  refine xn_iconst (iI 1) iL_law_1333 rfl ?_
  exact xn_zreturn iL_law_1334 rfl (Or.inr rfl) hP
theorem law_at (i : Nat) (hi : i + 5 ≤ N) (hN : N ≤ 3000) (x : LSt) (m : MS) (out : Nat → Int) (hbx : bdL x) (hbm : bdM m) (hz : ∀ j, xB (z j)) {Post : LSt → MS → Prop} (hs : ∀ k : Nat, k < 64 → iI (z i) &&& 63 = iI k → lwS z i x m Post k) (kk : ∀ x' m' out', bdL x' → bdM m' → Post x' m' → xn_W (some (N, fun j => iI (z j), xt_E)) Nn mL_law rc rs 23 (lwL (i + 5)) [] (encZ x' m' out') Po) : xn_W (some (N, fun j => iI (z j), xt_E)) Nn mL_law (rc + 1) (rs + 6) 23 (lwL i) [] (encZ x m out) Po := by
  refine xn_iload iL_law_23 rfl ?_
  refine xn_saload_n iL_law_25 rfl ?_
  refine xn_slen iL_law_26 ?_
  refine xn_iconst (iI 5) iL_law_27 rfl ?_
  refine xn_isub iL_law_28 ?_
  rw [iI_nI, iI_sub]
  refine xn_icmp_gt iL_law_29 (fun h => absurd ((iI_lt ⟨by omega, by omega⟩ ⟨by omega, by omega⟩).mp h) (by omega)) (fun _ => ?_)
  refine xn_saload_n iL_law_32 rfl ?_
  refine xn_iload iL_law_33 rfl ?_
  refine xn_sld iL_law_35 (iI_in ⟨by omega, by omega⟩ (by omega) (by omega)) ?_
  rw [iI_nat ⟨by omega, by omega⟩, show ((i : Int)).toNat = i from rfl]
  refine xn_bipush (iI 63) iL_law_36 (by decide) ?_
  refine xn_iand iL_law_38 ?_
  obtain ⟨k, hk, ek⟩ := and63 (iI (z i))
  have hS := hs k hk ek
  rw [show iI 63 = (63 : Int32) from rfl, ek]
  have kI : ∀ x' m' out', bdL x' → bdM m' → Post x' m' → xn_W (some (N, fun j => iI (z j), xt_E)) Nn mL_law rc rs 1327 (lwL i) [] (encZ x' m' out') Po := by
    intro x' m' out' h1 h2 h3
    refine xn_iinc iL_law_1327 rfl rfl (by decide) ?_
    refine xn_goto iL_law_1330 ?_
    have e5 : iI i + Int32.ofInt 5 = iI ((i + 5 : Nat) : Int) := by
      rw [show Int32.ofInt 5 = iI 5 from rfl, iI_add]
      rfl
    rw [e5]
    exact kk x' m' out' h1 h2 h3
  have kT : (iI k).toInt = k := iI_toInt ⟨by omega, by omega⟩
  match k, hk, hS, kT with
  | 0, hk, hS, kT => exact xn_tabI (tgt := 200) iL_law_39.1 (by rw [kT]; decide) (by rw [kT]; decide) (by rw [kT]; rfl) (by decide) (xn_wid (Nat.le_succ _) (Nat.le_add_right _ 6) (law_c0 i hi hN x m out hbx hbm hS kI))
  | 1, hk, hS, kT => exact xn_tabI (tgt := 225) iL_law_39.1 (by rw [kT]; decide) (by rw [kT]; decide) (by rw [kT]; rfl) (by decide) (xn_wid (Nat.le_succ _) (Nat.le_add_right _ 6) (law_c1 i hi hN x m out hbx hbm hS kI))
  | 2, hk, hS, kT => exact xn_tabI (tgt := 250) iL_law_39.1 (by rw [kT]; decide) (by rw [kT]; decide) (by rw [kT]; rfl) (by decide) (xn_wid (Nat.le_succ _) (Nat.le_add_right _ 6) (law_c2 i hi hN x m out hbx hbm hS kI))
  | 3, hk, hS, kT => exact xn_tabI (tgt := 311) iL_law_39.1 (by rw [kT]; decide) (by rw [kT]; decide) (by rw [kT]; rfl) (by decide) (xn_wid (Nat.le_succ _) (Nat.le_add_right _ 6) (law_c3 i hi hN x m out hbx hbm hS kI))
  | 4, hk, hS, kT => exact xn_tabI (tgt := 348) iL_law_39.1 (by rw [kT]; decide) (by rw [kT]; decide) (by rw [kT]; rfl) (by decide) (xn_wid (Nat.le_succ _) (Nat.le_add_right _ 6) (law_c4 i hi hN x m out hbx hbm hS kI))
  | 5, hk, hS, kT => exact xn_tabI (tgt := 409) iL_law_39.1 (by rw [kT]; decide) (by rw [kT]; decide) (by rw [kT]; rfl) (by decide) (xn_wid (Nat.le_succ _) (Nat.le_add_right _ 6) (law_c5 i hi hN x m out hbx hbm hS kI))
  | 6, hk, hS, kT => exact xn_tabI (tgt := 422) iL_law_39.1 (by rw [kT]; decide) (by rw [kT]; decide) (by rw [kT]; rfl) (by decide) (xn_wid (Nat.le_succ _) (Nat.le_add_right _ 6) (law_c6 i hi hN x m out hbx hbm hS kI))
  | 7, hk, hS, kT => exact xn_tabI (tgt := 459) iL_law_39.1 (by rw [kT]; decide) (by rw [kT]; decide) (by rw [kT]; rfl) (by decide) (xn_wid (Nat.le_succ _) (Nat.le_add_right _ 6) (law_c7 i hi hN x m out hbx hbm hS kI))
  | 8, hk, hS, kT => exact xn_tabI (tgt := 484) iL_law_39.1 (by rw [kT]; decide) (by rw [kT]; decide) (by rw [kT]; rfl) (by decide) (law_c8 i hi hN x m out hbx hbm (fun j => hz _) hS kI)
  | 9, hk, hS, kT => exact xn_tabI (tgt := 524) iL_law_39.1 (by rw [kT]; decide) (by rw [kT]; decide) (by rw [kT]; rfl) (by decide) (law_c9 i hi hN x m out hbx hbm (fun j => hz _) hS kI)
  | 10, hk, hS, kT => exact xn_tabI (tgt := 564) iL_law_39.1 (by rw [kT]; decide) (by rw [kT]; decide) (by rw [kT]; rfl) (by decide) (xn_wid (Nat.le_succ _) (Nat.le_add_right _ 6) (law_c10 i hi hN x m out hbx hbm hS kI))
  | 11, hk, hS, kT => exact xn_tabI (tgt := 601) iL_law_39.1 (by rw [kT]; decide) (by rw [kT]; decide) (by rw [kT]; rfl) (by decide) (law_c11 i hi hN x m out hbx hbm (fun j => hz _) hS kI)
  | 12, hk, hS, kT => exact xn_tabI (tgt := 641) iL_law_39.1 (by rw [kT]; decide) (by rw [kT]; decide) (by rw [kT]; rfl) (by decide) (xn_wid (Nat.le_succ _) (Nat.le_add_right _ 6) (law_c12 i hi hN x m out hbx hbm hS kI))
  | 13, hk, hS, kT => exact xn_tabI (tgt := 666) iL_law_39.1 (by rw [kT]; decide) (by rw [kT]; decide) (by rw [kT]; rfl) (by decide) (xn_wid (Nat.le_succ _) (Nat.le_add_right _ 6) (law_c13 i hi hN x m out hbx hbm hS kI))
  | 14, hk, hS, kT => exact xn_tabI (tgt := 679) iL_law_39.1 (by rw [kT]; decide) (by rw [kT]; decide) (by rw [kT]; rfl) (by decide) (xn_wid (Nat.le_succ _) (Nat.le_add_right _ 6) (law_c14 i hi hN x m out hbx hbm hS kI))
  | 15, hk, hS, kT => exact xn_tabI (tgt := 704) iL_law_39.1 (by rw [kT]; decide) (by rw [kT]; decide) (by rw [kT]; rfl) (by decide) (law_c15 i hi hN x m out hbx hbm (fun j => hz _) hS kI)
  | 16, hk, hS, kT => exact xn_tabI (tgt := 744) iL_law_39.1 (by rw [kT]; decide) (by rw [kT]; decide) (by rw [kT]; rfl) (by decide) (xn_wid (Nat.le_succ _) (Nat.le_add_right _ 6) (law_c16 i hi hN x m out hbx hbm hS kI))
  | 17, hk, hS, kT => exact xn_tabI (tgt := 769) iL_law_39.1 (by rw [kT]; decide) (by rw [kT]; decide) (by rw [kT]; rfl) (by decide) (xn_wid (Nat.le_succ _) (Nat.le_add_right _ 6) (law_c17 i hi hN x m out hbx hbm hS kI))
  | 18, hk, hS, kT => exact xn_tabI (tgt := 782) iL_law_39.1 (by rw [kT]; decide) (by rw [kT]; decide) (by rw [kT]; rfl) (by decide) (xn_wid (Nat.le_succ _) (Nat.le_add_right _ 6) (law_c18 i hi hN x m out hbx hbm hS kI))
  | 19, hk, hS, kT => exact xn_tabI (tgt := 819) iL_law_39.1 (by rw [kT]; decide) (by rw [kT]; decide) (by rw [kT]; rfl) (by decide) (xn_wid (Nat.le_succ _) (Nat.le_add_right _ 6) (law_c19 i hi hN x m out hbx hbm hS kI))
  | 20, hk, hS, kT => exact xn_tabI (tgt := 832) iL_law_39.1 (by rw [kT]; decide) (by rw [kT]; decide) (by rw [kT]; rfl) (by decide) (xn_wid (Nat.le_succ _) (Nat.le_add_right _ 6) (law_c20 i hi hN x m out hbx hbm hS kI))
  | 21, hk, hS, kT => exact xn_tabI (tgt := 845) iL_law_39.1 (by rw [kT]; decide) (by rw [kT]; decide) (by rw [kT]; rfl) (by decide) (xn_wid (Nat.le_succ _) (Nat.le_add_right _ 6) (law_c21 i hi hN x m out hbx hbm hS kI))
  | 22, hk, hS, kT => exact xn_tabI (tgt := 858) iL_law_39.1 (by rw [kT]; decide) (by rw [kT]; decide) (by rw [kT]; rfl) (by decide) (xn_wid (Nat.le_succ _) (Nat.le_add_right _ 6) (law_c22 i hi hN x m out hbx hbm hS kI))
  | 23, hk, hS, kT => exact xn_tabI (tgt := 883) iL_law_39.1 (by rw [kT]; decide) (by rw [kT]; decide) (by rw [kT]; rfl) (by decide) (xn_wid (Nat.le_succ _) (Nat.le_add_right _ 6) (law_c23 i hi hN x m out hbx hbm hS kI))
  | 24, hk, hS, kT => exact xn_tabI (tgt := 944) iL_law_39.1 (by rw [kT]; decide) (by rw [kT]; decide) (by rw [kT]; rfl) (by decide) (xn_wid (Nat.le_succ _) (Nat.le_add_right _ 6) (law_c24 i hi hN x m out hbx hbm hS kI))
  | 25, hk, hS, kT => exact xn_tabI (tgt := 969) iL_law_39.1 (by rw [kT]; decide) (by rw [kT]; decide) (by rw [kT]; rfl) (by decide) (xn_wid (Nat.le_succ _) (Nat.le_add_right _ 6) (law_c25 i hi hN x m out hbx hbm hS kI))
  | 26, hk, hS, kT => exact xn_tabI (tgt := 982) iL_law_39.1 (by rw [kT]; decide) (by rw [kT]; decide) (by rw [kT]; rfl) (by decide) (xn_wid (Nat.le_succ _) (Nat.le_add_right _ 6) (law_c26 i hi hN x m out hbx hbm hS kI))
  | 27, hk, hS, kT => exact xn_tabI (tgt := 1019) iL_law_39.1 (by rw [kT]; decide) (by rw [kT]; decide) (by rw [kT]; rfl) (by decide) (xn_wid (Nat.le_succ _) (Nat.le_add_right _ 6) (law_c27 i hi hN x m out hbx hbm hS kI))
  | 28, hk, hS, kT => exact xn_tabI (tgt := 1068) iL_law_39.1 (by rw [kT]; decide) (by rw [kT]; decide) (by rw [kT]; rfl) (by decide) (xn_wid (Nat.le_succ _) (Nat.le_add_right _ 6) (law_c28 i hi hN x m out hbx hbm hS kI))
  | 29, hk, hS, kT => exact xn_tabI (tgt := 1093) iL_law_39.1 (by rw [kT]; decide) (by rw [kT]; decide) (by rw [kT]; rfl) (by decide) (law_c29 i hi hN x m out hbx hbm (fun j => hz _) hS kI)
  | 30, hk, hS, kT => exact xn_tabI (tgt := 1161) iL_law_39.1 (by rw [kT]; decide) (by rw [kT]; decide) (by rw [kT]; rfl) (by decide) (xn_wid (Nat.le_succ _) (Nat.le_add_right _ 6) (law_c30 i hi hN x m out hbx hbm hS kI))
  | 31, hk, hS, kT => exact xn_tabI (tgt := 1174) iL_law_39.1 (by rw [kT]; decide) (by rw [kT]; decide) (by rw [kT]; rfl) (by decide) (xn_wid (Nat.le_succ _) (Nat.le_add_right _ 6) (law_c31 i hi hN x m out hbx hbm hS kI))
  | 32, hk, hS, kT => exact xn_tabI (tgt := 1187) iL_law_39.1 (by rw [kT]; decide) (by rw [kT]; decide) (by rw [kT]; rfl) (by decide) (xn_wid (Nat.le_succ _) (Nat.le_add_right _ 6) (law_c32 i hi hN x m out hbx hbm hS kI))
  | 33, hk, hS, kT => exact xn_tabI (tgt := 1224) iL_law_39.1 (by rw [kT]; decide) (by rw [kT]; decide) (by rw [kT]; rfl) (by decide) (xn_wid (Nat.le_succ _) (Nat.le_add_right _ 6) (law_c33 i hi hN x m out hbx hbm hS kI))
  | 34, hk, hS, kT => exact xn_tabI (tgt := 1249) iL_law_39.1 (by rw [kT]; decide) (by rw [kT]; decide) (by rw [kT]; rfl) (by decide) (xn_wid (Nat.le_succ _) (Nat.le_add_right _ 6) (law_c34 i hi hN x m out hbx hbm hS kI))
  | 35, hk, hS, kT => exact xn_tabI (tgt := 1274) iL_law_39.1 (by rw [kT]; decide) (by rw [kT]; decide) (by rw [kT]; rfl) (by decide) (xn_wid (Nat.le_succ _) (Nat.le_add_right _ 6) (law_c35 i hi hN x m out hbx hbm hS kI))
  | 36, hk, hS, kT => exact xn_tabI (tgt := 1299) iL_law_39.1 (by rw [kT]; decide) (by rw [kT]; decide) (by rw [kT]; rfl) (by decide) (law_c36 i hi hN x m out hbx hbm (fun j => hz _) hS kI)
  | k + 37, hk, hS, kT => exact xn_tabO (tgt := 1327) iL_law_39.1 (Or.inr (by rw [kT]; omega)) (by decide) (xn_wid (Nat.le_succ _) (Nat.le_add_right _ 6) (kI x m out hbx hbm hS))
end LT
