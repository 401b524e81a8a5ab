/-! ===== the same over whole numbers: an int is iI z, an array a function to whole numbers ===== -/
def iI (z : Int) : Int32 := Int32.ofInt z
def lI (z : Int) : Int64 := Int64.ofInt z
/-- z is an int -/
def xb (z : Int) : Prop := -2147483648 ≤ z ∧ z ≤ 2147483647
theorem iI_toInt {z : Int} (h : xb z) : (iI z).toInt = z := by
  unfold xb at h
  rw [iI, Int32.toInt_ofInt, show Int32.size = 4294967296 from rfl]
  exact Int.bmod_eq_of_le (by omega) (by omega)
theorem lI_toInt {z : Int} (h : xb z) : (lI z).toInt = z := by
  unfold xb at h
  rw [lI, Int64.toInt_ofInt, show Int64.size = 18446744073709551616 from rfl]
  exact Int.bmod_eq_of_le (by omega) (by omega)
theorem iI_of (x : Int32) : iI x.toInt = x := by rw [iI, Int32.ofInt_toInt]
theorem xb_of (x : Int32) : xb x.toInt := ⟨Int32.le_toInt x, by have := Int32.toInt_lt x; omega⟩
theorem iI_add (a b : Int) : iI a + iI b = iI (a + b) := by simp [iI, Int32.ofInt_add]
theorem iI_sub (a b : Int) : iI a - iI b = iI (a - b) := by simp [iI, Int32.ofInt_sub]
theorem iI_mul (a b : Int) : iI a * iI b = iI (a * b) := by simp [iI, Int32.ofInt_mul]
theorem iI_neg (a : Int) : -iI a = iI (-a) := by simp [iI, Int32.ofInt_neg]
theorem iI_lt {a b : Int} (ha : xb a) (hb : xb b) : iI a < iI b ↔ a < b := by rw [Int32.lt_iff_toInt_lt, iI_toInt ha, iI_toInt hb]
theorem iI_le {a b : Int} (ha : xb a) (hb : xb b) : iI a ≤ iI b ↔ a ≤ b := by rw [Int32.le_iff_toInt_le, iI_toInt ha, iI_toInt hb]
theorem iI_eq {a b : Int} (ha : xb a) (hb : xb b) : iI a = iI b ↔ a = b := by rw [← Int32.toInt_inj, iI_toInt ha, iI_toInt hb]
theorem iI_0 : iI 0 = 0 := rfl
theorem xb_0 : xb 0 := by unfold xb; omega
theorem iI_lt0 {a : Int} (ha : xb a) : iI a < 0 ↔ a < 0 := iI_lt ha xb_0
theorem iI_le0 {a : Int} (ha : xb a) : iI a ≤ 0 ↔ a ≤ 0 := iI_le ha xb_0
theorem iI_0lt {a : Int} (ha : xb a) : 0 < iI a ↔ 0 < a := iI_lt xb_0 ha
theorem iI_0le {a : Int} (ha : xb a) : 0 ≤ iI a ↔ 0 ≤ a := iI_le xb_0 ha
theorem iI_eq0 {a : Int} (ha : xb a) : iI a = 0 ↔ a = 0 := iI_eq ha xb_0
theorem iI_nat {z : Int} (h : xb z) : (iI z).toNatClampNeg = z.toNat := by
  show (iI z).toInt.toNat = z.toNat
  rw [iI_toInt h]
theorem iI_in {z : Int} {n : Nat} (h : xb z) (h0 : 0 ≤ z) (h1 : z < n) : vp_in (iI z) n := by
  rw [vp_in_iff, iI_toInt h]
  exact ⟨h0, h1⟩
theorem iI_long {z : Int} (h : xb z) : (iI z).toInt64 = lI z := by
  apply Int64.toInt_inj.mp
  rw [lI_toInt h, Int32.toInt_toInt64, iI_toInt h]
theorem iI_nI (n : Nat) : nI n = iI n := by simp [iI, nI, Int32.ofInt_eq_ofNat]
/-- cells -/
abbrev xO (ci : Nat) (vs : List Value) : XE := .inr (ci, vs)
abbrev xA (n : Nat) (g : Nat → Int) : XE := .inl (0, n, .inl (fun k => iI (g k)))
abbrev xL (n : Nat) (g : Nat → Int) : XE := .inl (1, n, .inr (.inl (fun k => lI (g k))))
abbrev xZ (n : Nat) (g : Nat → Int) : XE := .inl (2, n, .inl (fun k => iI (g k)))
abbrev xQ (n : Nat) (f : Nat → Option Nat) : XE := .inl (3, n, .inr (.inr (.inr (.inr f))))
abbrev xi (z : Int) : Value := .int (iI z)
abbrev xl (z : Int) : Value := .long (lI z)
def xup (g : Nat → Int) (k : Nat) (z : Int) : Nat → Int := fun j => if j = k then z else g j
theorem xup_upd (g : Nat → Int) (k : Nat) (z : Int) : upd (fun j => iI (g j)) k (iI z) = fun j => iI (xup g k z j) := by
  funext j
  unfold upd xup
  by_cases h : j = k <;> simp [h]
theorem xup_updL (g : Nat → Int) (k : Nat) (z : Int) : vp_updL (fun j => lI (g j)) k (lI z) = fun j => lI (xup g k z j) := by
  funext j
  unfold vp_updL xup
  by_cases h : j = k <;> simp [h]
/-- System.arraycopy -/
def xcp (f g : Nat → Int) (sp dp n : Nat) : Nat → Int := fun k => if dp ≤ k ∧ k < dp + n then f (sp + (k - dp)) else g k
theorem xcp_cpy (f g : Nat → Int) (sp dp n : Nat) : va_cpy (fun j => iI (f j)) (fun j => iI (g j)) sp dp n = fun k => iI (xcp f g sp dp n k) := by
  funext j
  unfold va_cpy xcp
  by_cases h : dp ≤ j ∧ j < dp + n <;> simp [h]
section XZ
variable {M : XI} {rc rs pc pc2 tgt : Nat} {L : List (Option Value)} {st : List Value} {h : XH} {Po : Option (Option Value) → XH → Prop} {a b : Int}
theorem xz_iconst {n : Int} (d : xl_D M pc (.iconst n) 1 pc2) (k : xl_W M rc rs pc2 L (xi n :: st) h Po) : xl_W M rc rs pc L st h Po := xl_iconst _ d rfl k
theorem xz_bipush {n : Int} (d : xl_D M pc (.bipush n) 2 pc2) (hv : (Int8.ofInt n).toInt32 = iI n) (k : xl_W M rc rs pc2 L (xi n :: st) h Po) : xl_W M rc rs pc L st h Po := xl_bipush _ d hv k
theorem xz_sipush {n : Int} (d : xl_D M pc (.sipush n) 3 pc2) (hv : (Int16.ofInt n).toInt32 = iI n) (k : xl_W M rc rs pc2 L (xi n :: st) h Po) : xl_W M rc rs pc L st h Po := xl_sipush _ d hv k
theorem xz_lconst {n : Fin 2} (d : xl_D M pc (.lconst n) 1 pc2) (k : xl_W M rc rs pc2 L (xl (n.val : Int) :: st) h Po) : xl_W M rc rs pc L st h Po := xl_lconst _ d (by simp [lI, Int64.ofInt_eq_ofNat]) k
theorem xz_iadd (d : xl_D M pc .iadd 1 pc2) (k : xl_W M rc rs pc2 L (xi (a + b) :: st) h Po) : xl_W M rc rs pc L (xi b :: xi a :: st) h Po := xl_iadd d (by rw [iI_add]; exact k)
theorem xz_isub (d : xl_D M pc .isub 1 pc2) (k : xl_W M rc rs pc2 L (xi (a - b) :: st) h Po) : xl_W M rc rs pc L (xi b :: xi a :: st) h Po := xl_isub d (by rw [iI_sub]; exact k)
theorem xz_imul (d : xl_D M pc .imul 1 pc2) (k : xl_W M rc rs pc2 L (xi (a * b) :: st) h Po) : xl_W M rc rs pc L (xi b :: xi a :: st) h Po := xl_imul d (by rw [iI_mul]; exact k)
theorem xz_ineg (d : xl_D M pc .ineg 1 pc2) (k : xl_W M rc rs pc2 L (xi (-a) :: st) h Po) : xl_W M rc rs pc L (xi a :: st) h Po := xl_ineg d (by rw [iI_neg]; exact k)
theorem xz_i2l (d : xl_D M pc .i2l 1 pc2) (ha : xb a) (k : xl_W M rc rs pc2 L (xl a :: st) h Po) : xl_W M rc rs pc L (xi a :: st) h Po := xl_i2l d (by rw [iI_long ha]; exact k)
theorem xz_iinc {i : Nat} {n : Int} (d : xl_D M pc (.iinc i n) 3 pc2) (hl : xl_n L i = some (some (xi a))) (hk : xl_k L i = true) (hn : i < M.2.2.1) (k : xl_W M rc rs pc2 (xl_s L i (some (xi (a + n)))) st h Po) : xl_W M rc rs pc L st h Po := xl_iinc d hl hk hn (by rw [show iI a + Int32.ofInt n = iI (a + n) from iI_add a n]; exact k)
theorem xz_rem0 (ha : 0 ≤ a) (hb : 0 < b) (ha2 : xb a) (hb2 : xb b) : iI a - iI a / iI b * iI b = iI (a % b) := by
  obtain ⟨n, rfl⟩ := Int.eq_ofNat_of_zero_le ha
  obtain ⟨m, rfl⟩ := Int.eq_ofNat_of_zero_le (Int.le_of_lt hb)
  unfold xb at ha2 hb2
  rw [← iI_nI, ← iI_nI, pk_rem (by omega) (by omega) (by omega), iI_nI]
  rfl
theorem xz_irem (d : xl_D M pc .irem 1 pc2) (ha : 0 ≤ a) (hb : 0 < b) (ha2 : xb a) (hb2 : xb b) (k : xl_W M rc rs pc2 L (xi (a % b) :: st) h Po) : xl_W M rc rs pc L (xi b :: xi a :: st) h Po :=
  xl_irem d (fun e => by rw [iI_eq0 hb2] at e; omega) (by rw [xz_rem0 ha hb ha2 hb2]; exact k)
theorem xz_idiv (d : xl_D M pc .idiv 1 pc2) (ha : 0 ≤ a) (hb : 0 < b) (ha2 : xb a) (hb2 : xb b) (k : xl_W M rc rs pc2 L (xi (a / b) :: st) h Po) : xl_W M rc rs pc L (xi b :: xi a :: st) h Po :=
  xl_idiv d (fun e => by rw [iI_eq0 hb2] at e; omega) (by
    obtain ⟨n, rfl⟩ := Int.eq_ofNat_of_zero_le ha
    obtain ⟨m, rfl⟩ := Int.eq_ofNat_of_zero_le (Int.le_of_lt hb)
    unfold xb at ha2 hb2
    rw [← iI_nI, ← iI_nI, pk_div (by omega) (by omega) (by omega), iI_nI]
    exact k)
theorem lg_cmp_lI (ha : xb a) (hb : xb b) : lg_cmp (lI a) (lI b) = iI (if a < b then -1 else if a = b then 0 else 1) := by
  have e1 : lI a < lI b ↔ a < b := by rw [Int64.lt_iff_toInt_lt, lI_toInt ha, lI_toInt hb]
  have e2 : lI a = lI b ↔ a = b := by rw [← Int64.toInt_inj, lI_toInt ha, lI_toInt hb]
  have e3 : lI b < lI a ↔ b < a := by rw [Int64.lt_iff_toInt_lt, lI_toInt ha, lI_toInt hb]
  unfold lg_cmp
  by_cases h1 : a < b
  · rw [if_neg (fun q => by have := e3.mp q; omega), if_neg (fun q => by have := e2.mp q; omega), if_pos h1]
    rfl
  · by_cases h2 : a = b
    · rw [if_neg (fun q => by have := e3.mp q; omega), if_pos (e2.mpr h2), if_neg h1, if_pos h2]
      rfl
    · rw [if_pos (e3.mpr (by omega)), if_neg h1, if_neg h2]
      rfl
theorem xz_lcmp (d : xl_D M pc .lcmp 1 pc2) (ha : xb a) (hb : xb b) (k : xl_W M rc rs pc2 L (xi (if a < b then -1 else if a = b then 0 else 1) :: st) h Po) : xl_W M rc rs pc L (xl b :: xl a :: st) h Po := xl_lcmp d (by rw [lg_cmp_lI ha hb]; exact k)
theorem xz_max (ha : xb a) (hb : xb b) (d : xl_Cm M pc Lib.Math.max.name Lib.Math.max.code pc2) (hw : (st.map fun v => if xl_1 v = true then 1 else 2).sum ≤ 8) (k : xl_W M rc rs pc2 L (xi (max a b) :: st) h Po) : xl_W M rc rs pc L (xi b :: xi a :: st) h Po := xl_max d hw (by
  have e : (if iI a < iI b then iI b else iI a) = iI (max a b) := by
    by_cases q : a < b
    · rw [if_pos ((iI_lt ha hb).mpr q), Int.max_def, if_pos (by omega)]
    · rw [if_neg (fun z => q ((iI_lt ha hb).mp z)), Int.max_def]
      by_cases q2 : a ≤ b
      · rw [if_pos q2, show a = b by omega]
      · rw [if_neg q2]
  rw [e]; exact k)
theorem xz_min (ha : xb a) (hb : xb b) (d : xl_Cm M pc Lib.Math.min.name Lib.Math.min.code pc2) (hw : (st.map fun v => if xl_1 v = true then 1 else 2).sum ≤ 8) (k : xl_W M rc rs pc2 L (xi (min a b) :: st) h Po) : xl_W M rc rs pc L (xi b :: xi a :: st) h Po := xl_min d hw (by
  have e : (if iI b < iI a then iI b else iI a) = iI (min a b) := by
    by_cases q : b < a
    · rw [if_pos ((iI_lt hb ha).mpr q), Int.min_def, if_neg (by omega)]
    · rw [if_neg (fun z => q ((iI_lt hb ha).mp z)), Int.min_def, if_pos (by omega)]
  rw [e]; exact k)
theorem xz_iald {r n : Nat} {g : Nat → Int} (d : xl_D M pc .iaload 1 pc2) (hh : xl_n h r = some (xA n g)) (h0 : 0 ≤ a) (h1 : a < n) (ha : xb a) (kk : xl_W M rc rs pc2 L (xi (g a.toNat) :: st) h Po) : xl_W M rc rs pc L (xi a :: .ref r :: st) h Po :=
  xl_iald d hh (iI_in ha h0 h1) (by rw [iI_nat ha]; exact kk)
theorem xz_lald {r n : Nat} {g : Nat → Int} (d : xl_D M pc .laload 1 pc2) (hh : xl_n h r = some (xL n g)) (h0 : 0 ≤ a) (h1 : a < n) (ha : xb a) (kk : xl_W M rc rs pc2 L (xl (g a.toNat) :: st) h Po) : xl_W M rc rs pc L (xi a :: .ref r :: st) h Po :=
  xl_lald d hh (iI_in ha h0 h1) (by rw [iI_nat ha]; exact kk)
theorem xz_zald {r n : Nat} {g : Nat → Int} (d : xl_D M pc .baload 1 pc2) (hh : xl_n h r = some (xZ n g)) (h0 : 0 ≤ a) (h1 : a < n) (ha : xb a) (kk : xl_W M rc rs pc2 L (xi (g a.toNat) :: st) h Po) : xl_W M rc rs pc L (xi a :: .ref r :: st) h Po :=
  xl_zald d hh (iI_in ha h0 h1) (by rw [iI_nat ha]; exact kk)
theorem xz_aald {r n q : Nat} {f : Nat → Option Nat} (d : xl_D M pc .aaload 1 pc2) (hh : xl_n h r = some (xQ n f)) (h0 : 0 ≤ a) (h1 : a < n) (ha : xb a) (hq : f a.toNat = some q) (kk : xl_W M rc rs pc2 L (.ref (r + q) :: st) h Po) : xl_W M rc rs pc L (xi a :: .ref r :: st) h Po :=
  xl_aald d hh (iI_in ha h0 h1) (by rw [iI_nat ha]; exact hq) kk
theorem xz_alen {r n : Nat} {t : Nat} {x : (Nat → Int32) ⊕ (Nat → Int64) ⊕ (Nat → UInt32) ⊕ (Nat → UInt64) ⊕ (Nat → Option Nat)} (d : xl_D M pc .arraylength 1 pc2) (hh : xl_n h r = some (.inl (t, n, x))) (ht4 : t < 4) (kk : xl_W M rc rs pc2 L (xi n :: st) h Po) : xl_W M rc rs pc L (.ref r :: st) h Po :=
  xl_alen d hh ht4 (by rw [iI_nI]; exact kk)
theorem xz_iast {r n : Nat} {g : Nat → Int} (d : xl_D M pc .iastore 1 pc2) (hh : xl_n h r = some (xA n g)) (h0 : 0 ≤ a) (h1 : a < n) (ha : xb a) (kk : xl_W M rc rs pc2 L st (xl_s h r (xA n (xup g a.toNat b))) Po) : xl_W M rc rs pc L (xi b :: xi a :: .ref r :: st) h Po :=
  xl_iast d hh (iI_in ha h0 h1) (by rw [iI_nat ha, xup_upd]; exact kk)
theorem xz_last {r n : Nat} {g : Nat → Int} (d : xl_D M pc .lastore 1 pc2) (hh : xl_n h r = some (xL n g)) (h0 : 0 ≤ a) (h1 : a < n) (ha : xb a) (kk : xl_W M rc rs pc2 L st (xl_s h r (xL n (xup g a.toNat b))) Po) : xl_W M rc rs pc L (xl b :: xi a :: .ref r :: st) h Po :=
  xl_last d hh (iI_in ha h0 h1) (by rw [iI_nat ha, xup_updL]; exact kk)
theorem xz_zast {r n : Nat} {g : Nat → Int} (d : xl_D M pc .bastore 1 pc2) (hh : xl_n h r = some (xZ n g)) (h0 : 0 ≤ a) (h1 : a < n) (ha : xb a) (hb : b = 0 ∨ b = 1) (kk : xl_W M rc rs pc2 L st (xl_s h r (xZ n (xup g a.toNat b))) Po) : xl_W M rc rs pc L (xi b :: xi a :: .ref r :: st) h Po :=
  xl_zast d hh (iI_in ha h0 h1) (by rw [iI_nat ha, show vp_nar .boolean (iI b) = iI b by rcases hb with rfl | rfl <;> decide, xup_upd]; exact kk)
theorem xz_copy {r0 r1 n0 n1 : Nat} {f g : Nat → Int} {sp dp n : Int} (d : xl_Cy M pc pc2) (hh0 : xl_n h r0 = some (xA n0 f)) (hh1 : xl_n h r1 = some (xA n1 g)) (q1 : 0 ≤ sp) (q2 : 0 ≤ dp) (q3 : 0 ≤ n) (q4 : sp + n ≤ n0) (q5 : dp + n ≤ n1) (hb : n0 ≤ 2147483647 ∧ n1 ≤ 2147483647) (hw : (st.map fun v => if xl_1 v = true then 1 else 2).sum ≤ 8)
    (kk : xl_W M rc rs pc2 L st (xl_s h r1 (xA n1 (xcp f g sp.toNat dp.toNat n.toNat))) Po) : xl_W M rc rs pc L (xi n :: xi dp :: .ref r1 :: xi sp :: .ref r0 :: st) h Po := by
  have b1 : xb sp := ⟨by omega, by omega⟩
  have b2 : xb dp := ⟨by omega, by omega⟩
  have b3 : xb n := ⟨by omega, by omega⟩
  refine xl_copy d hh0 hh1 (by rw [iI_lt0 b1]; omega) (by rw [iI_lt0 b2]; omega) (by rw [iI_lt0 b3]; omega) (by rw [iI_nat b1, iI_nat b3]; omega) (by rw [iI_nat b2, iI_nat b3]; omega) hw ?_
  rw [iI_nat b1, iI_nat b2, iI_nat b3, xcp_cpy]
  exact kk
theorem xz_if_eq (d : xl_J M pc (fun o => .ifCond .eq o) pc2 tgt) (ha : xb a) (kt : a = 0 → xl_W M rc rs tgt L st h Po) (kf : ¬ a = 0 → xl_W M rc rs pc2 L st h Po) : xl_W M rc rs pc L (xi a :: st) h Po := xl_if_eq d (fun q => kt ((iI_eq0 ha).mp q)) (fun q => kf (fun z => q ((iI_eq0 ha).mpr z)))
theorem xz_icmp_eq (d : xl_J M pc (fun o => .if_icmp .eq o) pc2 tgt) (ha : xb a) (hb : xb b) (kt : a = b → xl_W M rc rs tgt L st h Po) (kf : ¬ a = b → xl_W M rc rs pc2 L st h Po) : xl_W M rc rs pc L (xi b :: xi a :: st) h Po := xl_icmp_eq d (fun q => kt ((iI_eq ha hb).mp q)) (fun q => kf (fun z => q ((iI_eq ha hb).mpr z)))
theorem xz_if_ne (d : xl_J M pc (fun o => .ifCond .ne o) pc2 tgt) (ha : xb a) (kt : ¬ a = 0 → xl_W M rc rs tgt L st h Po) (kf : a = 0 → xl_W M rc rs pc2 L st h Po) : xl_W M rc rs pc L (xi a :: st) h Po := xl_if_ne d (fun q => kt (fun z => q ((iI_eq0 ha).mpr z))) (fun q => kf ((iI_eq0 ha).mp q))
theorem xz_icmp_ne (d : xl_J M pc (fun o => .if_icmp .ne o) pc2 tgt) (ha : xb a) (hb : xb b) (kt : ¬ a = b → xl_W M rc rs tgt L st h Po) (kf : a = b → xl_W M rc rs pc2 L st h Po) : xl_W M rc rs pc L (xi b :: xi a :: st) h Po := xl_icmp_ne d (fun q => kt (fun z => q ((iI_eq ha hb).mpr z))) (fun q => kf ((iI_eq ha hb).mp q))
theorem xz_if_lt (d : xl_J M pc (fun o => .ifCond .lt o) pc2 tgt) (ha : xb a) (kt : a < 0 → xl_W M rc rs tgt L st h Po) (kf : ¬ a < 0 → xl_W M rc rs pc2 L st h Po) : xl_W M rc rs pc L (xi a :: st) h Po := xl_if_lt d (fun q => kt ((iI_lt0 ha).mp q)) (fun q => kf (fun z => q ((iI_lt0 ha).mpr z)))
theorem xz_icmp_lt (d : xl_J M pc (fun o => .if_icmp .lt o) pc2 tgt) (ha : xb a) (hb : xb b) (kt : a < b → xl_W M rc rs tgt L st h Po) (kf : ¬ a < b → xl_W M rc rs pc2 L st h Po) : xl_W M rc rs pc L (xi b :: xi a :: st) h Po := xl_icmp_lt d (fun q => kt ((iI_lt ha hb).mp q)) (fun q => kf (fun z => q ((iI_lt ha hb).mpr z)))
theorem xz_if_ge (d : xl_J M pc (fun o => .ifCond .ge o) pc2 tgt) (ha : xb a) (kt : 0 ≤ a → xl_W M rc rs tgt L st h Po) (kf : ¬ 0 ≤ a → xl_W M rc rs pc2 L st h Po) : xl_W M rc rs pc L (xi a :: st) h Po := xl_if_ge d (fun q => kt ((iI_0le ha).mp q)) (fun q => kf (fun z => q ((iI_0le ha).mpr z)))
theorem xz_icmp_ge (d : xl_J M pc (fun o => .if_icmp .ge o) pc2 tgt) (ha : xb a) (hb : xb b) (kt : b ≤ a → xl_W M rc rs tgt L st h Po) (kf : ¬ b ≤ a → xl_W M rc rs pc2 L st h Po) : xl_W M rc rs pc L (xi b :: xi a :: st) h Po := xl_icmp_ge d (fun q => kt ((iI_le hb ha).mp q)) (fun q => kf (fun z => q ((iI_le hb ha).mpr z)))
theorem xz_if_gt (d : xl_J M pc (fun o => .ifCond .gt o) pc2 tgt) (ha : xb a) (kt : 0 < a → xl_W M rc rs tgt L st h Po) (kf : ¬ 0 < a → xl_W M rc rs pc2 L st h Po) : xl_W M rc rs pc L (xi a :: st) h Po := xl_if_gt d (fun q => kt ((iI_0lt ha).mp q)) (fun q => kf (fun z => q ((iI_0lt ha).mpr z)))
theorem xz_icmp_gt (d : xl_J M pc (fun o => .if_icmp .gt o) pc2 tgt) (ha : xb a) (hb : xb b) (kt : b < a → xl_W M rc rs tgt L st h Po) (kf : ¬ b < a → xl_W M rc rs pc2 L st h Po) : xl_W M rc rs pc L (xi b :: xi a :: st) h Po := xl_icmp_gt d (fun q => kt ((iI_lt hb ha).mp q)) (fun q => kf (fun z => q ((iI_lt hb ha).mpr z)))
theorem xz_if_le (d : xl_J M pc (fun o => .ifCond .le o) pc2 tgt) (ha : xb a) (kt : a ≤ 0 → xl_W M rc rs tgt L st h Po) (kf : ¬ a ≤ 0 → xl_W M rc rs pc2 L st h Po) : xl_W M rc rs pc L (xi a :: st) h Po := xl_if_le d (fun q => kt ((iI_le0 ha).mp q)) (fun q => kf (fun z => q ((iI_le0 ha).mpr z)))
theorem xz_icmp_le (d : xl_J M pc (fun o => .if_icmp .le o) pc2 tgt) (ha : xb a) (hb : xb b) (kt : a ≤ b → xl_W M rc rs tgt L st h Po) (kf : ¬ a ≤ b → xl_W M rc rs pc2 L st h Po) : xl_W M rc rs pc L (xi b :: xi a :: st) h Po := xl_icmp_le d (fun q => kt ((iI_le ha hb).mp q)) (fun q => kf (fun z => q ((iI_le ha hb).mpr z)))
end XZ
