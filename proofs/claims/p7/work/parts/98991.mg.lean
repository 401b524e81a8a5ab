/-! ===== the text, what is kept ===== -/
theorem byte_eq (x : BitVec 32) (k : Nat) (hk : k ≤ 24) : (x >>> k) &&& 255#32 = (x.sshiftRight k) &&& 255#32 := by
  apply BitVec.eq_of_getLsbD_eq
  intro i hi
  rw [BitVec.getLsbD_and, BitVec.getLsbD_and, BitVec.getLsbD_ushiftRight, BitVec.getLsbD_sshiftRight]
  by_cases c : i < 8
  · rw [if_pos (by omega), show decide (32 ≤ i) = false from decide_eq_false (by omega)]
    rfl
  · have key : ∀ i, i < 32 → 8 ≤ i → (255#32).getLsbD i = false := by decide
    rw [key i hi (by omega), Bool.and_false, Bool.and_false]
theorem b8_24 (a : Int32) : ((a.toUInt32 >>> (24 : UInt32)).toInt32 &&& (255 : Int32)) = ((a >>> (24 : Int32)) &&& (255 : Int32)) := Int32.toBitVec.inj (byte_eq a.toBitVec 24 (by decide))
theorem b8_16 (a : Int32) : ((a.toUInt32 >>> (16 : UInt32)).toInt32 &&& (255 : Int32)) = ((a >>> (16 : Int32)) &&& (255 : Int32)) := Int32.toBitVec.inj (byte_eq a.toBitVec 16 (by decide))
theorem b8_8 (a : Int32) : ((a.toUInt32 >>> (8 : UInt32)).toInt32 &&& (255 : Int32)) = ((a >>> (8 : Int32)) &&& (255 : Int32)) := Int32.toBitVec.inj (byte_eq a.toBitVec 8 (by decide))
theorem b8_0 (a : Int32) : ((a.toUInt32 >>> (0 : UInt32)).toInt32 &&& (255 : Int32)) = ((a >>> (0 : Int32)) &&& (255 : Int32)) := Int32.toBitVec.inj (byte_eq a.toBitVec 0 (by decide))
theorem by_0 (v : Int) : by8 v 24 = gs8 v 0 := by
  unfold by8 gs8 ush
  rw [iI_of, iI_of, show ((iI 24).toUInt32 &&& Int32.toUInt32 31) = 24 by decide, show (iI (24 - 8 * 0) &&& 31) = 24 by decide, show iI 255 = 255 by decide, b8_24]
theorem by_1 (v : Int) : by8 v 16 = gs8 v 1 := by
  unfold by8 gs8 ush
  rw [iI_of, iI_of, show ((iI 16).toUInt32 &&& Int32.toUInt32 31) = 16 by decide, show (iI (24 - 8 * 1) &&& 31) = 16 by decide, show iI 255 = 255 by decide, b8_16]
theorem by_2 (v : Int) : by8 v 8 = gs8 v 2 := by
  unfold by8 gs8 ush
  rw [iI_of, iI_of, show ((iI 8).toUInt32 &&& Int32.toUInt32 31) = 8 by decide, show (iI (24 - 8 * 2) &&& 31) = 8 by decide, show iI 255 = 255 by decide, b8_8]
theorem by_3 (v : Int) : by8 v 0 = gs8 v 3 := by
  unfold by8 gs8 ush
  rw [iI_of, iI_of, show ((iI 0).toUInt32 &&& Int32.toUInt32 31) = 0 by decide, show (iI (24 - 8 * 3) &&& 31) = 0 by decide, show iI 255 = 255 by decide, b8_0]
theorem put_c {x : LSt} {c : Int} (h : lok x) (h4 : x.1 4 < 80) : lok (lPutS x c) ∧ (lPutS x c).1 4 = x.1 4 + 1 ∧ (lPutS x c).2.1 1 = xup (x.2.1 1) (x.1 4).toNat c ∧ (∀ k, k ≠ 4 → (lPutS x c).1 k = x.1 k) ∧ (lPutS x c).2.2 = x.2.2 := by
  have l := (putS_ok (v := c) h h4).1
  have e : lPutS x c = setS (setA x 1 (xup (x.2.1 1) (x.1 4).toNat c)) 4 (x.1 4 + 1) := if_pos h4
  rw [e] at l ⊢
  refine ⟨l, rfl, rfl, fun k hk => ?_, rfl⟩
  show (bif Nat.beq k 4 then _ else x.1 k) = x.1 k
  rw [bqF hk]; rfl
theorem uR.fld {x x' : LSt} {m m' : MS} (h : uR x m) (e0 : x'.1 0 = x.1 0) (e1 : x'.1 1 = x.1 1) (e : x'.2.2 = x.2.2) (f8 : m'.1 8 = m.1 8) (f3 : m'.2 3 = m.2 3) : uR x' m' := by
  refine ⟨by rw [e1, f8]; exact h.1, fun k k0 k1 => ?_⟩
  rw [f8] at k1
  have hs : uSl x' k = uSl x k := by unfold uSl; rw [e0]
  rw [hs, e]
  exact (h.2 k k0 k1).desk (fun c _ _ => mg_cong f3 _)
theorem xup_eq {g : Nat → Int} {k : Nat} {v : Int} : xup g k v k = v := if_pos rfl
theorem xup_ne {g : Nat → Int} {k j : Nat} {v : Int} (h : j ≠ k) : xup g k v j = g j := if_neg h
section SG
variable {x : LSt} {m : MS} {K : Int → PS → LSt → MS → Prop}
theorem st_sign {v : Int} (hv : xB v) (h : lwR x m) (kk : ∀ q x' m', lwR x' m' → K q [pI q] x' m') : sX2_sign v x (fun v' x' => ∃ q, v' = [pI q] ∧ sX3_sign v m (fun w m' => K q w x' m')) := by
  have h0 := h.s0 (v := 0)
  refine ⟨⟨hv, h.1⟩, _, rfl, h.2.1.1, ?_⟩
  obtain ⟨h1, h2, h3, h4, h5, h6, h7⟩ := h
  have e4 := h3.1
  have b4 := h1.2.2.1
  by_cases c : 76 < m.1 4
  · have e1 : fSign x v = (-1, x) := if_pos (by omega)
    have e2 : gSign m v = (-1, mS m 0 0) := if_pos c
    rw [e1, e2]
    exact kk _ _ _ h0
  · have e1 : fSign x v = ((lPutS (lPutS (lPutS (lPutS x (by8 v 24)) (by8 v 16)) (by8 v 8)) (by8 v 0)).1 4, lPutS (lPutS (lPutS (lPutS x (by8 v 24)) (by8 v 16)) (by8 v 8)) (by8 v 0)) := if_neg (by omega)
    have e2 : gSign m v = (m.1 4 + 4, mS (sgL v 4 0 (mS m 0 0)) 4 (m.1 4 + 4)) := if_neg c
    rw [e1, e2]
    obtain ⟨a1, a2, a3, a4, a5⟩ := put_c (c := by8 v 24) h1 (by omega)
    generalize lPutS x (by8 v 24) = u1 at a1 a2 a3 a4 a5 ⊢
    obtain ⟨c1, c2, c3, c4, c5⟩ := put_c (c := by8 v 16) a1 (by omega)
    generalize lPutS u1 (by8 v 16) = u2 at c1 c2 c3 c4 c5 ⊢
    obtain ⟨d1, d2, d3, d4, d5⟩ := put_c (c := by8 v 8) c1 (by omega)
    generalize lPutS u2 (by8 v 8) = u3 at d1 d2 d3 d4 d5 ⊢
    obtain ⟨f1, f2, f3, f4, f5⟩ := put_c (c := by8 v 0) d1 (by omega)
    generalize lPutS u3 (by8 v 0) = u4 at f1 f2 f3 f4 f5 ⊢
    have t4 : u4.1 4 = m.1 4 + 4 := by omega
    rw [t4]
    have ea : (mS (sgL v 4 0 (mS m 0 0)) 4 (m.1 4 + 4)).2 2 = xup (xup (xup (xup (m.2 2) (m.1 4 + 0).toNat (gs8 v 0)) (m.1 4 + (0 + 1)).toNat (gs8 v (0 + 1))) (m.1 4 + (0 + 1 + 1)).toNat (gs8 v (0 + 1 + 1))) (m.1 4 + (0 + 1 + 1 + 1)).toNat (gs8 v (0 + 1 + 1 + 1)) := rfl
    have I : Inv (mS (sgL v 4 0 (mS m 0 0)) 4 (m.1 4 + 4)) := h2.len (by show 0 ≤ m.1 4 + 4 ∧ m.1 4 + 4 ≤ 80; omega) rfl rfl rfl rfl
    have z8 : (mS (sgL v 4 0 (mS m 0 0)) 4 (m.1 4 + 4)).1 8 = m.1 8 := rfl
    have z4 : (mS (sgL v 4 0 (mS m 0 0)) 4 (m.1 4 + 4)).1 4 = m.1 4 + 4 := rfl
    have z3 : (mS (sgL v 4 0 (mS m 0 0)) 4 (m.1 4 + 4)).2 3 = m.2 3 := rfl
    have z12 : (mS (sgL v 4 0 (mS m 0 0)) 4 (m.1 4 + 4)).2 12 = m.2 12 := rfl
    generalize mS (sgL v 4 0 (mS m 0 0)) 4 (m.1 4 + 4) = m' at ea I z8 z4 z3 z12 ⊢
    have k5 : u4.2.2 = x.2.2 := f5.trans (d5.trans (c5.trans a5))
    have kf : ∀ k, k ≠ 4 → u4.1 k = x.1 k := fun k hk => (f4 k hk).trans ((d4 k hk).trans ((c4 k hk).trans (a4 k hk)))
    refine kk _ _ _ ⟨f1, I, ⟨by rw [t4, z4], fun j j0 j1 => ?_⟩, h4.of (kf 2 (by decide)) z12, h5.fld (kf 0 (by decide)) (kf 1 (by decide)) k5 z8 z3, h6.of (fun q _ => by rw [k5]) z12 (fun y _ _ => mg_cong z3 y), ?_⟩
    · rw [z4] at j1
      have hL : ∀ q : Nat, u4.2.1 1 q = if q = (u3.1 4).toNat then by8 v 0 else if q = (u2.1 4).toNat then by8 v 8 else if q = (u1.1 4).toNat then by8 v 16 else if q = (x.1 4).toNat then by8 v 24 else x.2.1 1 q := by
        intro q
        rw [f3, d3, c3, a3]
        rfl
      have hR : ∀ q : Nat, m'.2 2 q = if q = (m.1 4 + (0 + 1 + 1 + 1)).toNat then gs8 v 3 else if q = (m.1 4 + (0 + 1 + 1)).toNat then gs8 v 2 else if q = (m.1 4 + (0 + 1)).toNat then gs8 v 1 else if q = (m.1 4 + 0).toNat then gs8 v 0 else m.2 2 q := by
        intro q
        rw [ea]
        rfl
      rw [hL, hR]
      by_cases j4 : j = m.1 4 + 3
      · rw [if_pos (show j.toNat = (u3.1 4).toNat by omega), if_pos (show j.toNat = (m.1 4 + (0 + 1 + 1 + 1)).toNat by omega)]
        exact by_3 v
      · rw [if_neg (show ¬ j.toNat = (u3.1 4).toNat by omega), if_neg (show ¬ j.toNat = (m.1 4 + (0 + 1 + 1 + 1)).toNat by omega)]
        by_cases j3 : j = m.1 4 + 2
        · rw [if_pos (show j.toNat = (u2.1 4).toNat by omega), if_pos (show j.toNat = (m.1 4 + (0 + 1 + 1)).toNat by omega)]
          exact by_2 v
        · rw [if_neg (show ¬ j.toNat = (u2.1 4).toNat by omega), if_neg (show ¬ j.toNat = (m.1 4 + (0 + 1 + 1)).toNat by omega)]
          by_cases j2 : j = m.1 4 + 1
          · rw [if_pos (show j.toNat = (u1.1 4).toNat by omega), if_pos (show j.toNat = (m.1 4 + (0 + 1)).toNat by omega)]
            exact by_1 v
          · rw [if_neg (show ¬ j.toNat = (u1.1 4).toNat by omega), if_neg (show ¬ j.toNat = (m.1 4 + (0 + 1)).toNat by omega)]
            by_cases j5 : j = m.1 4
            · rw [if_pos (show j.toNat = (x.1 4).toNat by omega), if_pos (show j.toNat = (m.1 4 + 0).toNat by omega)]
              exact by_0 v
            · rw [if_neg (show ¬ j.toNat = (x.1 4).toNat by omega), if_neg (show ¬ j.toNat = (m.1 4 + 0).toNat by omega)]
              exact h3.2 j j0 (by omega)
    · rw [k5]
      exact h7.desk (fun y _ _ => mg_cong z3 _)
/-- the text's length alone -/
theorem lwR.len {m' : MS} {n : Int} (h : lwR x m) (hn : 0 ≤ n ∧ n ≤ m.1 4) (I : Inv m') (e4 : m'.1 4 = n) (e8 : m'.1 8 = m.1 8) (e3 : m'.2 3 = m.2 3) (e12 : m'.2 12 = m.2 12) (e2 : m'.2 2 = m.2 2) : lwR (setS x 4 n) m' := by
  obtain ⟨h1, h2, h3, h4, h5, h6, h7⟩ := h
  have b4 := h1.2.2.1
  have f4 := h3.1
  refine ⟨⟨h1.1, h1.2.1, ⟨hn.1, by show n ≤ 80; omega⟩, h1.2.2.2⟩, I, ⟨e4.symm, fun j j0 j1 => ?_⟩, h4.of rfl e12, h5.fld rfl rfl rfl e8 e3, h6.of (fun _ _ => rfl) e12 (fun y _ _ => mg_cong e3 y), h7.desk (fun y _ _ => mg_cong e3 _)⟩
  rw [e4] at j1
  rw [e2]
  exact h3.2 j j0 (by omega)
theorem st_end {n : Int} (hn : xB n) (h : lwR x m) (kk : ∀ q x' m', lwR x' m' → K q [pI q] x' m') : sX2_end n x (fun v' x' => ∃ q, v' = [pI q] ∧ sX3_end n m (fun w m' => K q w x' m')) := by
  have h0 := h.s0 (v := 0)
  have e4 := h.2.2.1.1
  refine ⟨hn, _, rfl, hn, ?_⟩
  by_cases c : 0 ≤ n ∧ n ≤ m.1 4
  · have e1 : fEnd x n = (1, setS x 4 n) := if_pos (by omega)
    have e2 : gEnd m n = (1, mS (mS m 0 0) 4 n) := if_pos c
    rw [e1, e2]
    have b4 := h.2.1.1
    exact kk _ _ _ (h.len c (h.2.1.len (by show 0 ≤ n ∧ n ≤ 80; omega) rfl rfl rfl rfl) rfl rfl rfl rfl rfl)
  · have e1 : fEnd x n = (0, x) := if_neg (by omega)
    have e2 : gEnd m n = (0, mS m 0 0) := if_neg c
    rw [e1, e2]
    exact kk _ _ _ h0
theorem or0 : ∀ a : Nat, a < 4 → (iI (a : Int) ||| iI (bitOf 0)).toInt = (if a % 2 = 0 then (a : Int) + 1 else a) := by decide +kernel
theorem or1 : ∀ a : Nat, a < 4 → (iI (a : Int) ||| iI (bitOf 1)).toInt = (if a < 2 then (a : Int) + 2 else a) := by decide +kernel
theorem an0 : ∀ a : Nat, a < 4 → ((iI (a : Int) &&& iI (bitOf 0)).toInt ≠ 0 ↔ a % 2 = 1) := by decide +kernel
theorem an1 : ∀ a : Nat, a < 4 → ((iI (a : Int) &&& iI (bitOf 1)).toInt ≠ 0 ↔ 2 ≤ a) := by decide +kernel
theorem kfR.nat (h : kfR x m) : ∃ a : Nat, a < 4 ∧ x.1 2 = (a : Int) := by
  obtain ⟨h0, h1, h2⟩ := h
  exact ⟨(x.1 2).toNat, by omega, by omega⟩
theorem eq_back (h : kfR x m) (i : Int) : (gBack m i).1 = (fBack x i).1 := by
  obtain ⟨a, a4, ea⟩ := h.nat
  obtain ⟨h0, h1, h2⟩ := h
  unfold gBack fBack
  rw [ea]
  by_cases c : inB i 0 1
  · have q : (iI (a : Int) &&& iI (bitOf i)).toInt ≠ 0 ↔ m.2 12 i.toNat ≠ 0 := by
      by_cases c0 : i = 0
      · subst c0
        rw [an0 a a4]
        show a % 2 = 1 ↔ m.2 12 0 ≠ 0
        omega
      · have c1 : i = 1 := by omega
        subst c1
        rw [an1 a a4]
        show 2 ≤ a ↔ m.2 12 1 ≠ 0
        omega
    by_cases c2 : m.2 12 i.toNat ≠ 0
    · rw [if_pos ⟨c, c2⟩, if_pos ⟨by omega, q.mpr c2⟩]
    · rw [if_neg (fun z => c2 z.2), if_neg (fun z => c2 (q.mp z.2))]
  · rw [if_neg (fun z => c z.1), if_neg (fun z => c (by omega))]
theorem kf_keep {x' : LSt} {m' : MS} {i : Int} (h : kfR x m) (c : inB i 0 1) (e2 : x'.1 2 = (iI (x.1 2) ||| iI (bitOf i)).toInt) (e12 : m'.2 12 = xup (m.2 12) i.toNat 1) : kfR x' m' := by
  obtain ⟨a, a4, ea⟩ := h.nat
  obtain ⟨h0, h1, h2⟩ := h
  rw [ea] at e2
  by_cases c0 : i = 0
  · subst c0
    rw [or0 a a4] at e2
    have f0 : m'.2 12 0 = 1 := by rw [e12]; rfl
    have f1 : m'.2 12 1 = m.2 12 1 := by rw [e12]; rfl
    refine ⟨by omega, by omega, ?_⟩
    rw [e2, f0, f1]
    split <;> omega
  · have c1 : i = 1 := by omega
    subst c1
    rw [or1 a a4] at e2
    have f0 : m'.2 12 1 = 1 := by rw [e12]; rfl
    have f1 : m'.2 12 0 = m.2 12 0 := by rw [e12]; rfl
    refine ⟨by omega, by omega, ?_⟩
    rw [e2, f0, f1]
    split <;> omega
theorem st_keep {i : Int} (hi : xB i) (h : lwR x m) (kk : ∀ q x' m', lwR x' m' → K q [pI q] x' m') : sX2_keep i x (fun v' x' => ∃ q, v' = [pI q] ∧ sX3_keep i m (fun w m' => K q w x' m')) := by
  have h0 := h.s0 (v := 0)
  refine ⟨⟨hi, h.1⟩, _, rfl, hi, ?_⟩
  obtain ⟨h1, h2, h3, h4, h5, h6, h7⟩ := h
  by_cases c : 0 ≤ i ∧ i ≤ 1
  · have e1 : fKeep x i = (1, setS (setW x (8 + i.toNat) (wCopy (x.2.2 (8 + i.toNat)) (x.2.2 0))) 2 (iI (x.1 2) ||| iI (bitOf i)).toInt) := if_pos (by omega)
    have e2 : gKeep m i = (1, mCopy (mA (mS m 0 0) 12 (xup (m.2 12) i.toNat 1)) 0 (1 + i)) := if_pos c
    rw [e1, e2]
    have q := ql_W (q := 8 + i.toNat) h1 (wok_Copy (h1.2.2.2 (8 + i.toNat) (by omega)) (h1.2.2.2 0 (by decide)))
    have o : oD (1 + i) (mA (mS m 0 0) 12 (xup (m.2 12) i.toNat 1)) (mCopy (mA (mS m 0 0) 12 (xup (m.2 12) i.toNat 1)) 0 (1 + i)) := copy_o (by omega)
    have e12 : (mCopy (mA (mS m 0 0) 12 (xup (m.2 12) i.toNat 1)) 0 (1 + i)).2 12 = xup (m.2 12) i.toNat 1 := rfl
    have oc : ∀ y : Int, 0 ≤ y → (y < (1 + i) * 2804 ∨ (1 + i) * 2804 + 2804 ≤ y) → mg (mCopy (mA (mS m 0 0) 12 (xup (m.2 12) i.toNat 1)) 0 (1 + i)) y = mg m y := fun y y0 hy => (copy_ne (by omega) y0 hy).trans rfl
    have oa : ∀ y : Int, 0 ≤ y → y < 2804 → mg (mCopy (mA (mS m 0 0) 12 (xup (m.2 12) i.toNat 1)) 0 (1 + i)) ((1 + i) * 2804 + y) = mg m (0 * 2804 + y) := fun y y0 y1 => (copy_at (by decide) (by omega) y0 y1).trans rfl
    have ot : ∀ j, j ≠ i → 0 ≤ j → (xup (m.2 12) i.toNat 1) j.toNat = m.2 12 j.toNat := fun j hj j0 => if_neg (by omega)
    have I : Inv (mCopy (mA (mS m 0 0) 12 (xup (m.2 12) i.toNat 1)) 0 (1 + i)) := by
      obtain ⟨a, b, cc, d, f, g⟩ := h2
      refine ⟨a, b, cc, dI.other (s := mA (mS m 0 0) 12 (xup (m.2 12) i.toNat 1)) (d.cong rfl) (by decide) (by omega) (by omega) o, fun j j0 j1 hj => ?_, fun k k0 k1 => dI.other (s := mA (mS m 0 0) 12 (xup (m.2 12) i.toNat 1)) ((g k k0 k1).cong rfl) (by omega) (by omega) (by omega) o⟩
      by_cases q : j = i
      · subst q
        exact dI.copy (s := mA (mS m 0 0) 12 (xup (m.2 12) j.toNat 1)) (d.cong rfl) (by decide) (by omega)
      · rw [e12, ot j q j0] at hj
        exact dI.other (s := mA (mS m 0 0) 12 (xup (m.2 12) i.toNat 1)) ((f j j0 j1 hj).cong rfl) (by omega) (by omega) (by omega) o
    have ew : ∀ q, q ≠ 8 + i.toNat → (setS (setW x (8 + i.toNat) (wCopy (x.2.2 (8 + i.toNat)) (x.2.2 0))) 2 (iI (x.1 2) ||| iI (bitOf i)).toInt).2.2 q = x.2.2 q := fun q hq => by
      show (bif Nat.beq q (8 + i.toNat) then _ else x.2.2 q) = _
      rw [bqF hq]; rfl
    have ez : (setS (setW x (8 + i.toNat) (wCopy (x.2.2 (8 + i.toNat)) (x.2.2 0))) 2 (iI (x.1 2) ||| iI (bitOf i)).toInt).2.2 (8 + i.toNat) = wCopy (x.2.2 (8 + i.toNat)) (x.2.2 0) := by
      show (bif Nat.beq (8 + i.toNat) (8 + i.toNat) then _ else x.2.2 (8 + i.toNat)) = _
      rw [Nat.beq_refl]; rfl
    refine kk _ _ _ ⟨q.1, I, h3.of rfl rfl rfl rfl, kf_keep h4 c rfl e12, h5.of rfl rfl (fun q _ _ => ew q (by omega)) h1.1 rfl (fun y y0 => oc y (by omega) (by omega)), fun j j0 j1 hj => ?_, ?_⟩
    · by_cases q : j = i
      · subst q
        rw [ez]
        exact h7.copy.desk (fun y y0 y1 => oa y y0 y1)
      · rw [e12, ot j q j0] at hj
        rw [ew _ (by omega)]
        exact (h6 j j0 j1 hj).desk (fun y y0 y1 => oc _ (by omega) (by omega))
    · rw [ew 0 (by omega)]
      exact h7.desk (fun y y0 y1 => oc _ (by omega) (by omega))
  · have e1 : fKeep x i = (0, x) := if_neg (by omega)
    have e2 : gKeep m i = (0, mS m 0 0) := if_neg c
    rw [e1, e2]
    exact kk _ _ _ h0
end SG
