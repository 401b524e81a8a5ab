/-! ===== LateSessions: its constructor, whole ===== -/
def natL (fs : List Value) (u k : Nat → Option Nat) (t : XH) : XH := (xO 2 fs :: (encW w1 ++ (encW w1 ++ xQ 6 u :: rpW 6))) ++ xQ 2 k :: (rpW 2 ++ t)
theorem natP1_len (fs : List Value) : (xO 2 fs :: (encW w1 ++ encW w1)).length = 27 := rfl
theorem natP2_len (fs : List Value) (u : Nat → Option Nat) : (xO 2 fs :: (encW w1 ++ (encW w1 ++ xQ 6 u :: rpW 6))).length = 106 := rfl
theorem natP1_cl (fs : List Value) {n : Nat} (hn : 27 ≤ n) (h : fs.all (xn_vl n 0) = true) : xn_cl n 0 (xO 2 fs :: (encW w1 ++ encW w1)) :=
  ⟨h, xn_cl_app (encW_cln w1 (by omega)) (encW_cln w1 (by rw [lenW13]; omega))⟩
theorem natP2_cl (fs : List Value) {u : Nat → Option Nat} {n : Nat} (hn : 106 ≤ n) (h : fs.all (xn_vl n 0) = true) (hu : ∀ i d, u i = some d → 27 + d < n) : xn_cl n 0 (xO 2 fs :: (encW w1 ++ (encW w1 ++ xQ 6 u :: rpW 6))) :=
  ⟨h, xn_cl_app (encW_cln w1 (by omega)) (xn_cl_app (encW_cln w1 (by rw [lenW13]; omega)) ⟨hu, rpW_cl 6 n 28 (by omega)⟩)⟩
theorem natL_len (fs : List Value) (u k : Nat → Option Nat) (t : XH) : (natL fs u k t).length = 133 + t.length := by
  rw [natL, List.length_append, natP2_len, List.length_cons, List.length_append, rpW_len]; omega
theorem natL_cl (fs : List Value) {u k : Nat → Option Nat} {t : XH} {n : Nat} (hn : 133 ≤ n) (h : fs.all (xn_vl n 0) = true) (hu : ∀ i d, u i = some d → 27 + d < n) (hk : ∀ i d, k i = some d → 106 + d < n) (ht : xn_cl n 133 t) : xn_cl n 0 (natL fs u k t) :=
  xn_cl_app (natP2_cl fs (by omega) h hu) ⟨hk, xn_cl_app (rpW_cl 2 n 107 (by omega)) ht⟩
def uF : Nat → Option Nat := upF 6 0 (fun _ => none)
def kF : Nat → Option Nat := upF 2 0 (fun _ => none)
theorem uF_lt (i d : Nat) (h : uF i = some d) : d < 79 := upF_lt 6 0 _ (fun i d e => by cases e) i d h
theorem kF_lt (i d : Nat) (h : kF i = some d) : d < 27 := upF_lt 2 0 _ (fun i d e => by cases e) i d h
def s1 : LSt := (fun _ => 0, fun _ _ => 0, fun _ => w1)
/-- where what encL lays first was made -/
def piN (j : Nat) : Nat := bif Nat.blt j 7 then (bif Nat.beq j 0 then 0 else bif Nat.beq j 1 then 27 else bif Nat.beq j 2 then 106 else j + 130) else bif Nat.blt j 33 then j - 6 else bif Nat.blt j 111 then j - 5 else j - 4
def piI (j : Nat) : Nat := bif Nat.beq j 0 then 0 else bif Nat.beq j 27 then 1 else bif Nat.beq j 106 then 2 else bif Nat.blt 132 j then j - 130 else bif Nat.blt j 27 then j + 6 else bif Nat.blt j 106 then j + 5 else j + 4
theorem piN_inv : ∀ j, j < 137 → piI (piN j) = j := by decide +kernel
theorem piN_w : ∀ q, q < 10 → ∀ j, j < 13 → piN (7 + 13 * q + j) = piN (7 + 13 * q) + j := by decide +kernel
def fsL : List Value := [.ref 1, .ref 14, .ref 27, xi 0, xi 0, .ref 106, xi 0, .ref 133, xi 0, .ref 134, xi 0, .ref 135, .ref 136]
def tlL : XH := [xL 6 (fun _ => 0), xA 80 (fun _ => 0), xA 160 (fun _ => 0), xA 101 (fun _ => 0)]
theorem midW {A E B : XH} {j : Nat} (h : j < E.length) : (A ++ (E ++ B))[A.length + j]? = E[j]? := by
  rw [List.getElem?_append_right (by omega), Nat.add_sub_cancel_left, List.getElem?_append_left h]
theorem natL_w : ∀ q, q < 10 → ∀ j, j < 13 → (natL fsL uF kF tlL)[piN (7 + 13 * q) + j]? = (encW w1)[j]?
  | 0, _, j, hj => midW (A := [xO 2 fsL]) (E := encW w1) (B := encW w1 ++ xQ 6 uF :: (rpW 6 ++ xQ 2 kF :: (rpW 2 ++ tlL))) hj
  | 1, _, j, hj => midW (A := xO 2 fsL :: encW w1) (E := encW w1) (B := xQ 6 uF :: (rpW 6 ++ xQ 2 kF :: (rpW 2 ++ tlL))) hj
  | 2, _, j, hj => midW (A := xO 2 fsL :: (encW w1 ++ (encW w1 ++ [xQ 6 uF]))) (E := encW w1) (B := rpW 5 ++ xQ 2 kF :: (rpW 2 ++ tlL)) hj
  | 3, _, j, hj => midW (A := xO 2 fsL :: (encW w1 ++ (encW w1 ++ xQ 6 uF :: rpW 1))) (E := encW w1) (B := rpW 4 ++ xQ 2 kF :: (rpW 2 ++ tlL)) hj
  | 4, _, j, hj => midW (A := xO 2 fsL :: (encW w1 ++ (encW w1 ++ xQ 6 uF :: rpW 2))) (E := encW w1) (B := rpW 3 ++ xQ 2 kF :: (rpW 2 ++ tlL)) hj
  | 5, _, j, hj => midW (A := xO 2 fsL :: (encW w1 ++ (encW w1 ++ xQ 6 uF :: rpW 3))) (E := encW w1) (B := rpW 2 ++ xQ 2 kF :: (rpW 2 ++ tlL)) hj
  | 6, _, j, hj => midW (A := xO 2 fsL :: (encW w1 ++ (encW w1 ++ xQ 6 uF :: rpW 4))) (E := encW w1) (B := rpW 1 ++ xQ 2 kF :: (rpW 2 ++ tlL)) hj
  | 7, _, j, hj => midW (A := xO 2 fsL :: (encW w1 ++ (encW w1 ++ xQ 6 uF :: rpW 5))) (E := encW w1) (B := xQ 2 kF :: (rpW 2 ++ tlL)) hj
  | 8, _, j, hj => midW (A := xO 2 fsL :: (encW w1 ++ (encW w1 ++ xQ 6 uF :: (rpW 6 ++ [xQ 2 kF])))) (E := encW w1) (B := rpW 1 ++ tlL) hj
  | 9, _, j, hj => midW (A := xO 2 fsL :: (encW w1 ++ (encW w1 ++ xQ 6 uF :: (rpW 6 ++ xQ 2 kF :: rpW 1)))) (E := encW w1) (B := tlL) hj
  | q + 10, h, _, _ => absurd h (by omega)
/-- the same with nothing behind the ends of the two arrays -/
def hdN (s : LSt) : XH := [xO 2 [.ref 7, .ref 20, .ref 1, xi (s.1 0), xi (s.1 1), .ref 2, xi (s.1 2), .ref 3, xi (s.1 3), .ref 4, xi (s.1 4), .ref 5, .ref 6], xQ 6 (fun j => bif Nat.blt j 6 then some (32 + 13 * j) else none), xQ 2 (fun j => bif Nat.blt j 2 then some (109 + 13 * j) else none), xL 6 (s.2.1 0), xA 80 (s.2.1 1), xA 160 (s.2.1 2), xA 101 (s.2.1 3)]
def encN (s : LSt) : XH := hdN s ++ wsL s.2.2 0 10
theorem lenN137 (s : LSt) : (encN s).length = 137 := by rw [encN, List.length_append, wsL_len]; rfl
theorem encN_w (s : LSt) {q j : Nat} (hq : q < 10) (hj : j < 13) : (encN s)[7 + 13 * q + j]? = (encW (s.2.2 q))[j]? := by
  rw [encN, List.getElem?_append_right (by show 7 ≤ _; omega), show 7 + 13 * q + j - (hdN s).length = 13 * q + j by show 7 + 13 * q + j - 7 = _; omega, wsL_at _ _ _ _ _ hq hj, Nat.zero_add]
theorem encN_h (s : LSt) {k : Nat} (hk : k < 7) : (encN s)[k]? = (hdN s)[k]? := by
  rw [encN, List.getElem?_append_left (show k < 7 from hk)]
theorem wsL_cl (f : Nat → WS) : ∀ (n k j m : Nat), j + 13 * n ≤ m → xn_cl m j (wsL f k n)
  | 0, _, _, _, _ => trivial
  | n + 1, k, j, m, h => xn_cl_app (encW_cln _ (by omega)) (wsL_cl f n (k + 1) _ m (by rw [lenW13]; omega))
theorem cutF {n j d : Nat} {g : Nat → Nat} (e : (bif Nat.blt j n then some (g j) else none) = some d) : j < n ∧ g j = d := by
  cases h : Nat.blt j n with
  | false => rw [h] at e; cases e
  | true => rw [h] at e; exact ⟨xn_blt h, Option.some.inj e⟩
theorem encN_cl (s : LSt) {n : Nat} (h : 137 ≤ n) : xn_cl n 0 (encN s) := by
  refine xn_cl_mono (n := 137) (k := 0) (by omega) (xn_cl_app ⟨rfl, fun i d e => ?_, fun i d e => ?_, trivial, trivial, trivial, trivial, trivial⟩ (wsL_cl _ 10 0 7 137 (by omega)))
  · have := cutF (g := fun j => 32 + 13 * j) e
    have h2 : 32 + 13 * i = d := this.2
    omega
  · have := cutF (g := fun j => 109 + 13 * j) e
    have h2 : 109 + 13 * i = d := this.2
    omega
theorem hdN_u : ∀ i, i < 6 → (bif Nat.blt i 6 then some (32 + 13 * i) else none) = some (32 + 13 * i) := by decide +kernel
theorem hdN_k : ∀ i, i < 2 → (bif Nat.blt i 2 then some (109 + 13 * i) else none) = some (109 + 13 * i) := by decide +kernel
theorem uF_at : ∀ i, i < 6 → uF i = some (1 + 13 * i) := by decide +kernel
theorem kF_at : ∀ i, i < 2 → kF i = some (1 + 13 * i) := by decide +kernel
theorem piN_u : ∀ i, i < 6 → piN (1 + (32 + 13 * i)) = 27 + (1 + 13 * i) := by decide +kernel
theorem piN_k : ∀ i, i < 2 → piN (2 + (109 + 13 * i)) = 106 + (1 + 13 * i) := by decide +kernel
theorem natL_perm : ∀ j c, (encN s1)[j]? = some c → ∃ c', (natL fsL uF kF tlL)[piN j]? = some c' ∧ xn_sm piN j c (piN j) c' := by
  intro j c hc
  rcases encL_split j with h | ⟨q, i, hq, hi, rfl⟩ | h
  · rw [encN_h _ h] at hc
    match j, h, hc with
    | 0, _, hc => cases hc; exact ⟨_, rfl, fun D aC ρ σ a H q => q⟩
    | 1, _, hc => cases hc; exact ⟨_, rfl, xn_sm_q (fun i hi => ⟨_, _, hdN_u i hi, uF_at i hi, piN_u i hi⟩)⟩
    | 2, _, hc => cases hc; exact ⟨_, rfl, xn_sm_q (fun i hi => ⟨_, _, hdN_k i hi, kF_at i hi, piN_k i hi⟩)⟩
    | 3, _, hc => cases hc; exact ⟨_, rfl, fun D aC ρ σ a H q => q⟩
    | 4, _, hc => cases hc; exact ⟨_, rfl, fun D aC ρ σ a H q => q⟩
    | 5, _, hc => cases hc; exact ⟨_, rfl, fun D aC ρ σ a H q => q⟩
    | 6, _, hc => cases hc; exact ⟨_, rfl, fun D aC ρ σ a H q => q⟩
  · rw [encN_w _ hq hi] at hc
    refine ⟨c, by rw [piN_w q hq i hi, natL_w q hq i hi]; exact hc, xn_sm_ok ?_⟩
    intro aC ρ σ
    have h1 := encW_ref w1 hc (fun k => piN (7 + 13 * q + k)) (fun d hd => by
      show piN (7 + 13 * q + (i + d)) = piN (7 + 13 * q + i) + d
      rw [piN_w q hq _ hd, piN_w q hq i hi, Nat.add_assoc]) aC ρ σ
    rw [← xl_ok_add (7 + 13 * q) i c aC (fun k => ρ (piN k)) σ]
    exact h1
  · rw [List.getElem?_eq_none (by rw [lenN137]; omega)] at hc
    cases hc
set_option maxRecDepth 100000 in
set_option maxHeartbeats 4000000 in
theorem cX2_init_ok : xn_C mX2_init 136 30305 [.ref 0] [xO 2 dfX2] (fun h' => h' = encN s1 ∧ bdL s1) := by
  refine xn_con kX2_init [some (.ref 0), none] rfl (Nat.le_of_ble_eq_true rfl) ?_
  refine xn_aload_n iX2_init_0 rfl ?_
  refine xn_obj oX2_init_1 ?_
  refine xn_aload_n iX2_init_4 rfl ?_
  refine xn_new (rc := 135) (rs := 30289) nX2_init_5 (Nat.le_of_ble_eq_true rfl) (xn_fr_ok ⟨Nat.le_refl _, ⟨rfl, trivial⟩, rfl, rfl⟩) (fun _ _ => rfl) ?_
  refine xn_dup iX2_init_8 rfl ?_
  refine xn_callI (rc := 123) (rs := 27310) (h0 := [xO 2 dfX2]) (As := []) (rest := [.ref 1, .ref 0]) sX2_init_9 nkX1_init rfl rfl rfl (by decide) ⟨Nat.le_succ _, ⟨rfl, trivial⟩, rfl, rfl⟩ (Nat.le_of_ble_eq_true rfl) cX1_init_ok (fun h' e => ?_)
  obtain ⟨rfl, hbw⟩ := e
  refine xn_putf pX2_init_12 (hyq _) (Nat.zero_le _) rfl (Nat.le_of_ble_eq_true rfl) ?_
  show xn_W none 1 mX2_init 123 27310 15 _ _ (xO 2 [.ref 1, .null, .null, xi 0, xi 0, .null, xi 0, .null, xi 0, .null, xi 0, .null, .null] :: encW w1) _
  refine xn_aload_n iX2_init_15 rfl ?_
  refine xn_new (rc := 122) (rs := 27294) nX2_init_16 (Nat.le_of_ble_eq_true rfl) (xn_fr_ok ⟨Nat.le_refl _, ⟨rfl, encW_cln w1 (Nat.le_of_ble_eq_true rfl)⟩, rfl, rfl⟩) (fun _ _ => rfl) ?_
  refine xn_dup iX2_init_19 rfl ?_
  refine xn_callI (rc := 110) (rs := 24315) (h0 := xO 2 [.ref 1, .null, .null, xi 0, xi 0, .null, xi 0, .null, xi 0, .null, xi 0, .null, .null] :: encW w1) (As := []) (rest := [.ref 14, .ref 0]) sX2_init_20 nkX1_init rfl rfl rfl (by decide) ⟨Nat.le_succ _, ⟨rfl, encW_cln w1 (Nat.le_of_ble_eq_true rfl)⟩, rfl, rfl⟩ (Nat.le_of_ble_eq_true rfl) cX1_init_ok (fun h' e => ?_)
  obtain ⟨rfl, -⟩ := e
  refine xn_putf pX2_init_23 (hyq _) (Nat.zero_le _) rfl (Nat.le_of_ble_eq_true rfl) ?_
  show xn_W none 1 mX2_init 110 24315 26 _ _ (xO 2 [.ref 1, .ref 14, .null, xi 0, xi 0, .null, xi 0, .null, xi 0, .null, xi 0, .null, .null] :: (encW w1 ++ encW w1)) _
  refine xn_aload_n iX2_init_26 rfl ?_
  refine xn_bipush (iI 6) iX2_init_27 (by decide) ?_
  refine xn_newq (rc := 109) (rs := 24309) (N := 6) qX2_init_29 (by decide) (by decide) (by decide) (Nat.le_of_ble_eq_true rfl) ⟨Nat.le_refl _, natP1_cl _ (Nat.le_refl 27) rfl, rfl, rfl⟩ ?_
  refine xn_putf pX2_init_32 (hya _) (Nat.zero_le _) rfl (Nat.le_of_ble_eq_true rfl) ?_
  show xn_W none 1 mX2_init (31 + 13 * 6) (6339 + 2995 * 6) 35 _ _ ((xO 2 [.ref 1, .ref 14, .ref 27, xi 0, xi 0, .null, xi 0, .null, xi 0, .null, xi 0, .null, .null] :: (encW w1 ++ encW w1)) ++ xQ 6 (fun _ => none) :: []) _
  refine xn_iconst (iI 0) iX2_init_35 rfl ?_
  refine xn_istore_n iX2_init_36 rfl (by decide) ?_
  refine X2_init_l1 _ _ (natP1_len _) (natP1_cl _ (Nat.le_of_ble_eq_true rfl) rfl) rfl rfl 6 0 [] _ 31 6339 rfl rfl trivial (fun i d e => by cases e) ?_
  show xn_W none 1 mX2_init 31 6339 62 _ _ (xO 2 [.ref 1, .ref 14, .ref 27, xi 0, xi 0, .null, xi 0, .null, xi 0, .null, xi 0, .null, .null] :: (encW w1 ++ (encW w1 ++ xQ 6 uF :: rpW 6))) _
  refine xn_aload_n iX2_init_62 rfl ?_
  refine xn_iconst (iI 2) iX2_init_63 rfl ?_
  refine xn_newq (rc := 30) (rs := 6337) (N := 2) qX2_init_64 (by decide) (by decide) (by decide) (Nat.le_of_ble_eq_true rfl) ⟨Nat.le_refl _, natP2_cl _ (Nat.le_refl 106) rfl (fun i d e => by have := uF_lt i d e; show 27 + d < 106; omega), rfl, rfl⟩ ?_
  refine xn_putf pX2_init_67 (hya _) (Nat.zero_le _) rfl (Nat.le_of_ble_eq_true rfl) ?_
  show xn_W none 1 mX2_init (4 + 13 * 2) (347 + 2995 * 2) 70 _ _ ((xO 2 [.ref 1, .ref 14, .ref 27, xi 0, xi 0, .ref 106, xi 0, .null, xi 0, .null, xi 0, .null, .null] :: (encW w1 ++ (encW w1 ++ xQ 6 uF :: rpW 6))) ++ xQ 2 (fun _ => none) :: []) _
  refine xn_iconst (iI 0) iX2_init_70 rfl ?_
  refine xn_istore_n iX2_init_71 rfl (by decide) ?_
  refine X2_init_l2 _ _ (natP2_len _ _) (natP2_cl _ (Nat.le_of_ble_eq_true rfl) rfl (fun i d e => by have := uF_lt i d e; omega)) rfl rfl 2 0 [] _ 4 347 rfl rfl trivial (fun i d e => by cases e) ?_
  have cl : ∀ (fs : List Value) (t : XH) (n : Nat), 133 ≤ n → fs.all (xn_vl n 0) = true → xn_cl n 133 t → xn_cl n 0 (natL fs uF kF t) := fun fs t n hn h ht => natL_cl fs hn h (fun i d e => by have := uF_lt i d e; omega) (fun i d e => by have := kF_lt i d e; omega) ht
  show xn_W none 1 mX2_init 4 347 96 _ _ (natL [.ref 1, .ref 14, .ref 27, xi 0, xi 0, .ref 106, xi 0, .null, xi 0, .null, xi 0, .null, .null] uF kF []) _
  refine xn_aload_n iX2_init_96 rfl ?_
  refine xn_bipush (iI 6) iX2_init_97 (by decide) ?_
  refine xn_newa (rc := 3) (rs := 341) (t := 1) (a0 := (6, .inr (.inl (fun _ => lI 0)))) iX2_init_99 ac_l (fun _ => rfl) newl (by decide) (by decide) (by decide) (Nat.le_of_ble_eq_true rfl) (xn_fr_ok ⟨Nat.le_refl _, cl _ [] _ (Nat.le_refl 133) rfl trivial, rfl, rfl⟩) (fun _ _ => rfl) ?_
  refine xn_putf pX2_init_101 (hya _) (Nat.zero_le _) rfl (Nat.le_of_ble_eq_true rfl) ?_
  show xn_W none 1 mX2_init 3 341 104 _ _ (natL [.ref 1, .ref 14, .ref 27, xi 0, xi 0, .ref 106, xi 0, .ref 133, xi 0, .null, xi 0, .null, .null] uF kF [xL 6 (fun _ => 0)]) _
  refine xn_aload_n iX2_init_104 rfl ?_
  refine xn_bipush (iI 80) iX2_init_105 (by decide) ?_
  refine xn_newa (rc := 2) (rs := 261) (t := 0) (a0 := (80, .inl (fun _ => iI 0))) iX2_init_107 ac_i (fun _ => rfl) newi (by decide) (by decide) (by decide) (Nat.le_of_ble_eq_true rfl) (xn_fr_ok ⟨Nat.le_refl _, cl _ [xL 6 (fun _ => 0)] 134 (Nat.le_of_ble_eq_true rfl) rfl ⟨trivial, trivial⟩, rfl, rfl⟩) (fun _ _ => rfl) ?_
  refine xn_putf pX2_init_109 (hya _) (Nat.zero_le _) rfl (Nat.le_of_ble_eq_true rfl) ?_
  show xn_W none 1 mX2_init 2 261 112 _ _ (natL [.ref 1, .ref 14, .ref 27, xi 0, xi 0, .ref 106, xi 0, .ref 133, xi 0, .ref 134, xi 0, .null, .null] uF kF [xL 6 (fun _ => 0), xA 80 (fun _ => 0)]) _
  refine xn_aload_n iX2_init_112 rfl ?_
  refine xn_sipush (iI 160) iX2_init_113 (by decide) ?_
  refine xn_newa (rc := 1) (rs := 101) (t := 0) (a0 := (160, .inl (fun _ => iI 0))) iX2_init_116 ac_i (fun _ => rfl) newi (by decide) (by decide) (by decide) (Nat.le_of_ble_eq_true rfl) (xn_fr_ok ⟨Nat.le_refl _, cl _ [xL 6 (fun _ => 0), xA 80 (fun _ => 0)] 135 (Nat.le_of_ble_eq_true rfl) rfl ⟨trivial, trivial, trivial⟩, rfl, rfl⟩) (fun _ _ => rfl) ?_
  refine xn_putf pX2_init_118 (hya _) (Nat.zero_le _) rfl (Nat.le_of_ble_eq_true rfl) ?_
  show xn_W none 1 mX2_init 1 101 121 _ _ (natL [.ref 1, .ref 14, .ref 27, xi 0, xi 0, .ref 106, xi 0, .ref 133, xi 0, .ref 134, xi 0, .ref 135, .null] uF kF [xL 6 (fun _ => 0), xA 80 (fun _ => 0), xA 160 (fun _ => 0)]) _
  refine xn_aload_n iX2_init_121 rfl ?_
  refine xn_bipush (iI 101) iX2_init_122 (by decide) ?_
  refine xn_newa (rc := 0) (rs := 0) (t := 0) (a0 := (101, .inl (fun _ => iI 0))) iX2_init_124 ac_i (fun _ => rfl) newi (by decide) (by decide) (by decide) (Nat.le_of_ble_eq_true rfl) (xn_fr_ok ⟨Nat.le_refl _, cl _ [xL 6 (fun _ => 0), xA 80 (fun _ => 0), xA 160 (fun _ => 0)] 136 (Nat.le_of_ble_eq_true rfl) rfl ⟨trivial, trivial, trivial, trivial⟩, rfl, rfl⟩) (fun _ _ => rfl) ?_
  refine xn_putf pX2_init_126 (hya _) (Nat.zero_le _) rfl (Nat.le_of_ble_eq_true rfl) ?_
  show xn_W none 1 mX2_init 0 0 129 _ _ (natL fsL uF kF tlL) _
  refine xn_perm piN (hl := encN s1) (fun i j hi hj e => ?_) natL_perm (fun i hi => ?_) ?_
  · rw [lenN137] at hi hj
    rw [← piN_inv i hi, ← piN_inv j hj, e]
  · rw [show i = 0 by omega]
    rfl
  · exact xn_return iX2_init_129 rfl ⟨rfl, rfl, fun _ => xB_z, fun _ _ => xB_z, fun _ => hbw⟩
