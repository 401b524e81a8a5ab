/-! ===== LateSessions: its constructor ===== -/
theorem encW_cl (w : WS) : xn_cl 13 0 (encW w) := ⟨rfl, rfl, trivial, rfl, trivial, rfl, trivial, rfl, trivial, rfl, trivial, rfl, trivial, trivial⟩
theorem encW_cln (w : WS) {n k : Nat} (h : k + 13 ≤ n) : xn_cl n k (encW w) := xn_cl_mono (n := 13) (k := 0) (by omega) (encW_cl w)
def rpW : Nat → XH
  | 0 => []
  | m + 1 => encW w1 ++ rpW m
theorem rpW_len : ∀ m, (rpW m).length = 13 * m
  | 0 => rfl
  | m + 1 => by rw [rpW, List.length_append, lenW13, rpW_len m]; omega
theorem rpW_cl : ∀ (m n k : Nat), k + 13 * m ≤ n → xn_cl n k (rpW m)
  | 0, _, _, _ => trivial
  | m + 1, n, k, h => xn_cl_app (encW_cln w1 (by omega)) (rpW_cl m n _ (by rw [lenW13]; omega))
def upF : Nat → Nat → (Nat → Option Nat) → (Nat → Option Nat)
  | 0, _, f => f
  | m + 1, j, f => upF m (j + 1) (va_up f j (some (1 + 13 * j)))
theorem upF_lt : ∀ (m j : Nat) (f : Nat → Option Nat), (∀ i d, f i = some d → d < 1 + 13 * j) → ∀ i d, upF m j f i = some d → d < 1 + 13 * (j + m)
  | 0, j, f, h, i, d, e => h i d e
  | m + 1, j, f, h, i, d, e => by
    have := upF_lt m (j + 1) _ (fun i d e => ?_) i d e
    · omega
    · unfold va_up at e
      split at e
      · cases e; omega
      · have := h i d e; omega
theorem xn_ar {n k : Nat} {st : List Value} (hk : k < n) (h : st.all (xn_vl n 0) = true) : (Value.ref k :: st).all (xn_vl n 0) = true := by
  show (Nat.blt (0 + k) n && st.all (xn_vl n 0)) = true
  rw [h, Bool.and_true]
  exact Nat.ble_eq_true_of_le (by omega)
theorem xl_n_lft {α : Type} {P X : List α} {i : Nat} (h : i < P.length) : xl_n (P ++ X) i = xl_n P i := by rw [xl_n_eq, xl_n_eq, List.getElem?_append_left h]
theorem xl_n_mid {α : Type} (P : List α) (c : α) (T : List α) : xl_n (P ++ c :: T) P.length = some c := by rw [xl_n_eq]; simp
theorem xl_s_mid {α : Type} (P : List α) (c c' : α) (T : List α) : xl_s (P ++ c :: T) P.length c' = P ++ c' :: T := by rw [xl_s_eq]; simp
theorem mid_cl {P : XH} {n0 : Nat} {N : Nat} {f : Nat → Option Nat} {T : XH} {n : Nat} (h1 : xn_cl n0 0 P) (h2 : n0 ≤ n) (h3 : ∀ i d, f i = some d → P.length + d < n) (h4 : xn_cl n (P.length + 1) T) : xn_cl n 0 (P ++ xQ N f :: T) :=
  xn_cl_app (xn_cl_mono (by omega) h1) ⟨fun i d e => by rw [Nat.zero_add]; exact h3 i d e, by rw [Nat.zero_add]; exact h4⟩
theorem X2_init_l1 {Po : Option (Option Value) → XH → Prop} (P : XH) (fs : List Value) (hP : P.length = 27) (hPc : xn_cl 28 0 P) (hO : xl_n P 0 = some (.inr (2, fs))) (hf : xl_n fs 2 = some (.ref 27)) : ∀ (m j : Nat) (T : XH) (f : Nat → Option Nat) (rc rs : Nat), j + m = 6 → T.length = 13 * j → xn_cl (28 + 13 * j) 28 T → (∀ i d, f i = some d → d < 1 + 13 * j) →
    xn_W none 1 mX2_init rc rs 62 [some (.ref 0), some (xi 6)] [] (P ++ xQ 6 (upF m j f) :: (T ++ rpW m)) Po → xn_W none 1 mX2_init (rc + 13 * m) (rs + 2995 * m) 37 [some (.ref 0), some (xi j)] [] (P ++ xQ 6 f :: T) Po
  | 0, j, T, f, rc, rs, hj, hT, hTc, hF, k => by
    have e : j = 6 := by omega
    subst e
    refine xn_iload_n iX2_init_37 rfl ?_
    refine xn_bipush (iI 6) iX2_init_38 (by decide) ?_
    refine xn_icmp_ge iX2_init_40 (fun _ => ?_) (fun h => absurd (by decide) h)
    rw [rpW, List.append_nil] at k
    exact k
  | m + 1, j, T, f, rc, rs, hj, hT, hTc, hF, k => by
    have hlen : (P ++ xQ 6 f :: T).length = 28 + 13 * j := by simp; omega
    have hcl : xn_cl (28 + 13 * j) 0 (P ++ xQ 6 f :: T) := mid_cl hPc (by omega) (fun i d e => by have := hF i d e; omega) (by rw [hP]; exact hTc)
    refine xn_iload_n iX2_init_37 rfl ?_
    refine xn_bipush (iI 6) iX2_init_38 (by decide) ?_
    refine xn_icmp_ge iX2_init_40 (fun h => absurd ((iI_le (a := 6) (b := (j : Int)) ⟨by omega, by omega⟩ ⟨by omega, by omega⟩).mp h) (by omega)) (fun _ => ?_)
    refine xn_aload_n iX2_init_43 rfl ?_
    refine xn_get iX2_init_44 (v := .ref 27) (by rw [xl_n_lft (by omega)]; exact hO) hf ?_
    refine xn_iload_n iX2_init_47 rfl ?_
    show xn_W none 1 mX2_init _ _ 48 _ [xi j, .ref 27] _ _
    rw [show rc + 13 * (m + 1) = rc + 13 * m + 12 + 1 by omega, show rs + 2995 * (m + 1) = rs + 2995 * m + 2979 + 16 by omega]
    refine xn_new nX2_init_48 (by omega) (xn_fr_ok ⟨Nat.le_refl _, by rw [hlen]; exact hcl, by rw [hlen]; exact xn_ar (st := []) (by omega) rfl, by rw [hlen]; exact xn_ar (st := []) (k := 0) (by omega) rfl⟩) (fun _ _ => rfl) ?_
    refine xn_dup iX2_init_51 rfl ?_
    refine xn_callI (h0 := P ++ xQ 6 f :: T) (As := []) (rest := [.ref (P ++ xQ 6 f :: T).length, xi j, .ref 27]) sX2_init_52 nkX1_init rfl rfl rfl (by simp [xl_1]) ⟨Nat.le_succ _, by rw [hlen]; exact xn_cl_mono (by omega) hcl, by rw [hlen]; exact xn_ar (by omega) (xn_ar (st := []) (by omega) rfl), by rw [hlen]; exact xn_ar (st := []) (k := 0) (by omega) rfl⟩ (by omega) cX1_init_ok (fun h' e => ?_)
    obtain ⟨rfl, -⟩ := e
    have ea : (P ++ xQ 6 f :: T) ++ encW w1 = P ++ xQ 6 f :: (T ++ encW w1) := by simp
    have hob : xl_n (P ++ xQ 6 f :: (T ++ encW w1)) (28 + 13 * j) = some (xO 1 [xi (w1.1 0), xi (w1.1 1), xi (w1.1 2), xi (w1.1 3), xi (w1.1 4), xi (w1.1 5), xi (w1.1 6), xi (w1.1 7), xi (w1.1 8), xi (w1.1 9), .ref 1, .ref 3, .ref 5, .ref 7, .ref 9, .ref 11]) := by
      rw [← ea, xl_n_eq, List.getElem?_append_right (by omega), hlen, Nat.sub_self]
      rfl
    rw [ea, hlen]
    refine xn_aast (r := 27) (b := 28 + 13 * j) (i := iI j) iX2_init_55 (by rw [← hP]; exact xl_n_mid P _ _) (by omega) hob (iI_in ⟨by omega, by omega⟩ (by omega) (by omega)) ?_
    have es : xl_s (P ++ xQ 6 f :: (T ++ encW w1)) 27 (xQ 6 (va_up f (iI j).toNatClampNeg (some (28 + 13 * j - 27)))) = P ++ xQ 6 (va_up f j (some (1 + 13 * j))) :: (T ++ encW w1) := by
      rw [iI_nat ⟨by omega, by omega⟩, show ((j : Int)).toNat = j from rfl, show 28 + 13 * j - 27 = 1 + 13 * j by omega]
      have := xl_s_mid P (xQ 6 f) (xQ 6 (va_up f j (some (1 + 13 * j)))) (T ++ encW w1)
      rw [hP] at this
      exact this
    rw [es]
    refine xn_iinc iX2_init_56 rfl rfl (by decide) ?_
    have ei : iI j + Int32.ofInt 1 = iI ((j + 1 : Nat) : Int) := by
      rw [show Int32.ofInt 1 = iI 1 from rfl, iI_add]
      rfl
    rw [ei]
    refine xn_goto iX2_init_59 ?_
    refine X2_init_l1 P fs hP hPc hO hf m (j + 1) (T ++ encW w1) _ rc rs (by omega) (by rw [List.length_append, hT, lenW13]; omega) (xn_cl_app (xn_cl_mono (by omega) hTc) (encW_cln w1 (by omega))) (fun i d e => ?_) ?_
    · unfold va_up at e
      split at e
      · cases e; omega
      · have := hF i d e; omega
    · rw [List.append_assoc]
      exact k
theorem X2_init_l2 {Po : Option (Option Value) → XH → Prop} (P : XH) (fs : List Value) (hP : P.length = 106) (hPc : xn_cl 107 0 P) (hO : xl_n P 0 = some (.inr (2, fs))) (hf : xl_n fs 5 = some (.ref 106)) : ∀ (m j : Nat) (T : XH) (f : Nat → Option Nat) (rc rs : Nat), j + m = 2 → T.length = 13 * j → xn_cl (107 + 13 * j) 107 T → (∀ i d, f i = some d → d < 1 + 13 * j) →
    xn_W none 1 mX2_init rc rs 96 [some (.ref 0), some (xi 2)] [] (P ++ xQ 2 (upF m j f) :: (T ++ rpW m)) Po → xn_W none 1 mX2_init (rc + 13 * m) (rs + 2995 * m) 72 [some (.ref 0), some (xi j)] [] (P ++ xQ 2 f :: T) Po
  | 0, j, T, f, rc, rs, hj, hT, hTc, hF, k => by
    have e : j = 2 := by omega
    subst e
    refine xn_iload_n iX2_init_72 rfl ?_
    refine xn_iconst (iI 2) iX2_init_73 (by decide) ?_
    refine xn_icmp_ge iX2_init_74 (fun _ => ?_) (fun h => absurd (by decide) h)
    rw [rpW, List.append_nil] at k
    exact k
  | m + 1, j, T, f, rc, rs, hj, hT, hTc, hF, k => by
    have hlen : (P ++ xQ 2 f :: T).length = 107 + 13 * j := by simp; omega
    have hcl : xn_cl (107 + 13 * j) 0 (P ++ xQ 2 f :: T) := mid_cl hPc (by omega) (fun i d e => by have := hF i d e; omega) (by rw [hP]; exact hTc)
    refine xn_iload_n iX2_init_72 rfl ?_
    refine xn_iconst (iI 2) iX2_init_73 (by decide) ?_
    refine xn_icmp_ge iX2_init_74 (fun h => absurd ((iI_le (a := 2) (b := (j : Int)) ⟨by omega, by omega⟩ ⟨by omega, by omega⟩).mp h) (by omega)) (fun _ => ?_)
    refine xn_aload_n iX2_init_77 rfl ?_
    refine xn_get iX2_init_78 (v := .ref 106) (by rw [xl_n_lft (by omega)]; exact hO) hf ?_
    refine xn_iload_n iX2_init_81 rfl ?_
    show xn_W none 1 mX2_init _ _ 82 _ [xi j, .ref 106] _ _
    rw [show rc + 13 * (m + 1) = rc + 13 * m + 12 + 1 by omega, show rs + 2995 * (m + 1) = rs + 2995 * m + 2979 + 16 by omega]
    refine xn_new nX2_init_82 (by omega) (xn_fr_ok ⟨Nat.le_refl _, by rw [hlen]; exact hcl, by rw [hlen]; exact xn_ar (st := []) (by omega) rfl, by rw [hlen]; exact xn_ar (st := []) (k := 0) (by omega) rfl⟩) (fun _ _ => rfl) ?_
    refine xn_dup iX2_init_85 rfl ?_
    refine xn_callI (h0 := P ++ xQ 2 f :: T) (As := []) (rest := [.ref (P ++ xQ 2 f :: T).length, xi j, .ref 106]) sX2_init_86 nkX1_init rfl rfl rfl (by simp [xl_1]) ⟨Nat.le_succ _, by rw [hlen]; exact xn_cl_mono (by omega) hcl, by rw [hlen]; exact xn_ar (by omega) (xn_ar (st := []) (by omega) rfl), by rw [hlen]; exact xn_ar (st := []) (k := 0) (by omega) rfl⟩ (by omega) cX1_init_ok (fun h' e => ?_)
    obtain ⟨rfl, -⟩ := e
    have ea : (P ++ xQ 2 f :: T) ++ encW w1 = P ++ xQ 2 f :: (T ++ encW w1) := by simp
    have hob : xl_n (P ++ xQ 2 f :: (T ++ encW w1)) (107 + 13 * j) = some (xO 1 [xi (w1.1 0), xi (w1.1 1), xi (w1.1 2), xi (w1.1 3), xi (w1.1 4), xi (w1.1 5), xi (w1.1 6), xi (w1.1 7), xi (w1.1 8), xi (w1.1 9), .ref 1, .ref 3, .ref 5, .ref 7, .ref 9, .ref 11]) := by
      rw [← ea, xl_n_eq, List.getElem?_append_right (by omega), hlen, Nat.sub_self]
      rfl
    rw [ea, hlen]
    refine xn_aast (r := 106) (b := 107 + 13 * j) (i := iI j) iX2_init_89 (by rw [← hP]; exact xl_n_mid P _ _) (by omega) hob (iI_in ⟨by omega, by omega⟩ (by omega) (by omega)) ?_
    have es : xl_s (P ++ xQ 2 f :: (T ++ encW w1)) 106 (xQ 2 (va_up f (iI j).toNatClampNeg (some (107 + 13 * j - 106)))) = P ++ xQ 2 (va_up f j (some (1 + 13 * j))) :: (T ++ encW w1) := by
      rw [iI_nat ⟨by omega, by omega⟩, show ((j : Int)).toNat = j from rfl, show 107 + 13 * j - 106 = 1 + 13 * j by omega]
      have := xl_s_mid P (xQ 2 f) (xQ 2 (va_up f j (some (1 + 13 * j)))) (T ++ encW w1)
      rw [hP] at this
      exact this
    rw [es]
    refine xn_iinc iX2_init_90 rfl rfl (by decide) ?_
    have ei : iI j + Int32.ofInt 1 = iI ((j + 1 : Nat) : Int) := by
      rw [show Int32.ofInt 1 = iI 1 from rfl, iI_add]
      rfl
    rw [ei]
    refine xn_goto iX2_init_93 ?_
    refine X2_init_l2 P fs hP hPc hO hf m (j + 1) (T ++ encW w1) _ rc rs (by omega) (by rw [List.length_append, hT, lenW13]; omega) (xn_cl_app (xn_cl_mono (by omega) hTc) (encW_cln w1 (by omega))) (fun i d e => ?_) ?_
    · unfold va_up at e
      split at e
      · cases e; omega
      · have := hF i d e; omega
    · rw [List.append_assoc]
      exact k
