/-! ===== World: its constructor ===== -/
theorem cX0_t0 : xn_C mX0_init 1 20 [.ref 0, xi 4, xi 5] [xO 0 dfX0] (fun h' => h' = encT (rmT 0) (wdT 0) tab0) := cX0_init_ok 4 5 20 (by decide) (by decide) (by decide) (by decide) (by decide) (by decide) (by decide)
theorem cX0_t1 : xn_C mX0_init 1 1127 [.ref 0, xi 161, xi 7] [xO 0 dfX0] (fun h' => h' = encT (rmT 1) (wdT 1) tab0) := cX0_init_ok 161 7 1127 (by decide) (by decide) (by decide) (by decide) (by decide) (by decide) (by decide)
theorem cX0_t2 : xn_C mX0_init 1 360 [.ref 0, xi 60, xi 6] [xO 0 dfX0] (fun h' => h' = encT (rmT 2) (wdT 2) tab0) := cX0_init_ok 60 6 360 (by decide) (by decide) (by decide) (by decide) (by decide) (by decide) (by decide)
theorem cX0_t3 : xn_C mX0_init 1 280 [.ref 0, xi 40, xi 7] [xO 0 dfX0] (fun h' => h' = encT (rmT 3) (wdT 3) tab0) := cX0_init_ok 40 7 280 (by decide) (by decide) (by decide) (by decide) (by decide) (by decide) (by decide)
theorem cX0_t4 : xn_C mX0_init 1 1120 [.ref 0, xi 160, xi 7] [xO 0 dfX0] (fun h' => h' = encT (rmT 4) (wdT 4) tab0) := cX0_init_ok 160 7 1120 (by decide) (by decide) (by decide) (by decide) (by decide) (by decide) (by decide)
theorem cX0_t5 : xn_C mX0_init 1 48 [.ref 0, xi 6, xi 8] [xO 0 dfX0] (fun h' => h' = encT (rmT 5) (wdT 5) tab0) := cX0_init_ok 6 8 48 (by decide) (by decide) (by decide) (by decide) (by decide) (by decide) (by decide)
def wraw : WS := (fun _ => 0, fun _ => tab0)
def w1 : WS := wReset wraw 1 10 5 0
theorem xB_z : xB 0 := ⟨by decide, by decide⟩
theorem wraw_b : bdW wraw := ⟨fun _ => xB_z, fun _ => ⟨xB_z, fun _ => xB_z⟩⟩
theorem cX1_init_ok : xn_C mX1_init 12 2979 [.ref 0] [xO 1 dfX1] (fun h' => h' = encW w1 ∧ bdW w1) := by
  refine xn_con kX1_init [some (.ref 0)] rfl (Nat.le_of_ble_eq_true rfl) ?_
  refine xn_aload_n iX1_init_0 rfl ?_
  refine xn_obj oX1_init_1 ?_
  refine xn_aload_n iX1_init_4 rfl ?_
  refine xn_new (rc := 11) (rs := 2975) nX1_init_5 (Nat.le_of_ble_eq_true rfl) (xn_fr_ok ⟨Nat.le_refl _, ⟨rfl, trivial⟩, rfl, rfl⟩) (fun _ _ => rfl) ?_
  refine xn_dup iX1_init_8 rfl ?_
  refine xn_iconst (iI 4) iX1_init_9 rfl ?_
  refine xn_iconst (iI 5) iX1_init_10 rfl ?_
  refine xn_callI (rc := 10) (rs := 2955) (h0 := (xO 1 [xi 0, xi 0, xi 0, xi 0, xi 0, xi 0, xi 0, xi 0, xi 0, xi 0, .null, .null, .null, .null, .null, .null] :: [])) (As := [xi 4, xi 5]) (rest := [.ref 1, .ref 0]) sX1_init_11 nkX0_init rfl rfl rfl (by decide) ⟨Nat.le_succ _, ⟨rfl, trivial⟩, rfl, rfl⟩ (Nat.le_of_ble_eq_true rfl) cX0_t0 (fun h' e => ?_)
  subst e
  refine xn_putf pX1_init_14 (hyq _) (Nat.zero_le _) rfl (Nat.le_of_ble_eq_true rfl) ?_
  show xn_W none 1 mX1_init 10 2955 17 _ _ (xO 1 [xi 0, xi 0, xi 0, xi 0, xi 0, xi 0, xi 0, xi 0, xi 0, xi 0, .ref 1, .null, .null, .null, .null, .null] :: (encT (rmT 0) (wdT 0) tab0)) _
  refine xn_aload_n iX1_init_17 rfl ?_
  refine xn_new (rc := 9) (rs := 2951) nX1_init_18 (Nat.le_of_ble_eq_true rfl) (xn_fr_ok ⟨Nat.le_refl _, ⟨rfl, rfl, trivial, trivial⟩, rfl, rfl⟩) (fun _ _ => rfl) ?_
  refine xn_dup iX1_init_21 rfl ?_
  refine xn_sipush (iI 161) iX1_init_22 (by decide) ?_
  refine xn_bipush (iI 7) iX1_init_25 (by decide) ?_
  refine xn_callI (rc := 8) (rs := 1824) (h0 := (xO 1 [xi 0, xi 0, xi 0, xi 0, xi 0, xi 0, xi 0, xi 0, xi 0, xi 0, .ref 1, .null, .null, .null, .null, .null] :: (encT (rmT 0) (wdT 0) tab0))) (As := [xi 161, xi 7]) (rest := [.ref 3, .ref 0]) sX1_init_27 nkX0_init rfl rfl rfl (by decide) ⟨Nat.le_succ _, ⟨rfl, rfl, trivial, trivial⟩, rfl, rfl⟩ (Nat.le_of_ble_eq_true rfl) cX0_t1 (fun h' e => ?_)
  subst e
  refine xn_putf pX1_init_30 (hyq _) (Nat.zero_le _) rfl (Nat.le_of_ble_eq_true rfl) ?_
  show xn_W none 1 mX1_init 8 1824 33 _ _ (xO 1 [xi 0, xi 0, xi 0, xi 0, xi 0, xi 0, xi 0, xi 0, xi 0, xi 0, .ref 1, .ref 3, .null, .null, .null, .null] :: (encT (rmT 0) (wdT 0) tab0 ++ (encT (rmT 1) (wdT 1) tab0))) _
  refine xn_aload_n iX1_init_33 rfl ?_
  refine xn_new (rc := 7) (rs := 1820) nX1_init_34 (Nat.le_of_ble_eq_true rfl) (xn_fr_ok ⟨Nat.le_refl _, ⟨rfl, rfl, trivial, rfl, trivial, trivial⟩, rfl, rfl⟩) (fun _ _ => rfl) ?_
  refine xn_dup iX1_init_37 rfl ?_
  refine xn_bipush (iI 60) iX1_init_38 (by decide) ?_
  refine xn_bipush (iI 6) iX1_init_40 (by decide) ?_
  refine xn_callI (rc := 6) (rs := 1460) (h0 := (xO 1 [xi 0, xi 0, xi 0, xi 0, xi 0, xi 0, xi 0, xi 0, xi 0, xi 0, .ref 1, .ref 3, .null, .null, .null, .null] :: (encT (rmT 0) (wdT 0) tab0 ++ (encT (rmT 1) (wdT 1) tab0)))) (As := [xi 60, xi 6]) (rest := [.ref 5, .ref 0]) sX1_init_42 nkX0_init rfl rfl rfl (by decide) ⟨Nat.le_succ _, ⟨rfl, rfl, trivial, rfl, trivial, trivial⟩, rfl, rfl⟩ (Nat.le_of_ble_eq_true rfl) cX0_t2 (fun h' e => ?_)
  subst e
  refine xn_putf pX1_init_45 (hyq _) (Nat.zero_le _) rfl (Nat.le_of_ble_eq_true rfl) ?_
  show xn_W none 1 mX1_init 6 1460 48 _ _ (xO 1 [xi 0, xi 0, xi 0, xi 0, xi 0, xi 0, xi 0, xi 0, xi 0, xi 0, .ref 1, .ref 3, .ref 5, .null, .null, .null] :: (encT (rmT 0) (wdT 0) tab0 ++ (encT (rmT 1) (wdT 1) tab0 ++ (encT (rmT 2) (wdT 2) tab0)))) _
  refine xn_aload_n iX1_init_48 rfl ?_
  refine xn_new (rc := 5) (rs := 1456) nX1_init_49 (Nat.le_of_ble_eq_true rfl) (xn_fr_ok ⟨Nat.le_refl _, ⟨rfl, rfl, trivial, rfl, trivial, rfl, trivial, trivial⟩, rfl, rfl⟩) (fun _ _ => rfl) ?_
  refine xn_dup iX1_init_52 rfl ?_
  refine xn_bipush (iI 40) iX1_init_53 (by decide) ?_
  refine xn_bipush (iI 7) iX1_init_55 (by decide) ?_
  refine xn_callI (rc := 4) (rs := 1176) (h0 := (xO 1 [xi 0, xi 0, xi 0, xi 0, xi 0, xi 0, xi 0, xi 0, xi 0, xi 0, .ref 1, .ref 3, .ref 5, .null, .null, .null] :: (encT (rmT 0) (wdT 0) tab0 ++ (encT (rmT 1) (wdT 1) tab0 ++ (encT (rmT 2) (wdT 2) tab0))))) (As := [xi 40, xi 7]) (rest := [.ref 7, .ref 0]) sX1_init_57 nkX0_init rfl rfl rfl (by decide) ⟨Nat.le_succ _, ⟨rfl, rfl, trivial, rfl, trivial, rfl, trivial, trivial⟩, rfl, rfl⟩ (Nat.le_of_ble_eq_true rfl) cX0_t3 (fun h' e => ?_)
  subst e
  refine xn_putf pX1_init_60 (hyq _) (Nat.zero_le _) rfl (Nat.le_of_ble_eq_true rfl) ?_
  show xn_W none 1 mX1_init 4 1176 63 _ _ (xO 1 [xi 0, xi 0, xi 0, xi 0, xi 0, xi 0, xi 0, xi 0, xi 0, xi 0, .ref 1, .ref 3, .ref 5, .ref 7, .null, .null] :: (encT (rmT 0) (wdT 0) tab0 ++ (encT (rmT 1) (wdT 1) tab0 ++ (encT (rmT 2) (wdT 2) tab0 ++ (encT (rmT 3) (wdT 3) tab0))))) _
  refine xn_aload_n iX1_init_63 rfl ?_
  refine xn_new (rc := 3) (rs := 1172) nX1_init_64 (Nat.le_of_ble_eq_true rfl) (xn_fr_ok ⟨Nat.le_refl _, ⟨rfl, rfl, trivial, rfl, trivial, rfl, trivial, rfl, trivial, trivial⟩, rfl, rfl⟩) (fun _ _ => rfl) ?_
  refine xn_dup iX1_init_67 rfl ?_
  refine xn_sipush (iI 160) iX1_init_68 (by decide) ?_
  refine xn_bipush (iI 7) iX1_init_71 (by decide) ?_
  refine xn_callI (rc := 2) (rs := 52) (h0 := (xO 1 [xi 0, xi 0, xi 0, xi 0, xi 0, xi 0, xi 0, xi 0, xi 0, xi 0, .ref 1, .ref 3, .ref 5, .ref 7, .null, .null] :: (encT (rmT 0) (wdT 0) tab0 ++ (encT (rmT 1) (wdT 1) tab0 ++ (encT (rmT 2) (wdT 2) tab0 ++ (encT (rmT 3) (wdT 3) tab0)))))) (As := [xi 160, xi 7]) (rest := [.ref 9, .ref 0]) sX1_init_73 nkX0_init rfl rfl rfl (by decide) ⟨Nat.le_succ _, ⟨rfl, rfl, trivial, rfl, trivial, rfl, trivial, rfl, trivial, trivial⟩, rfl, rfl⟩ (Nat.le_of_ble_eq_true rfl) cX0_t4 (fun h' e => ?_)
  subst e
  refine xn_putf pX1_init_76 (hyq _) (Nat.zero_le _) rfl (Nat.le_of_ble_eq_true rfl) ?_
  show xn_W none 1 mX1_init 2 52 79 _ _ (xO 1 [xi 0, xi 0, xi 0, xi 0, xi 0, xi 0, xi 0, xi 0, xi 0, xi 0, .ref 1, .ref 3, .ref 5, .ref 7, .ref 9, .null] :: (encT (rmT 0) (wdT 0) tab0 ++ (encT (rmT 1) (wdT 1) tab0 ++ (encT (rmT 2) (wdT 2) tab0 ++ (encT (rmT 3) (wdT 3) tab0 ++ (encT (rmT 4) (wdT 4) tab0)))))) _
  refine xn_aload_n iX1_init_79 rfl ?_
  refine xn_new (rc := 1) (rs := 48) nX1_init_80 (Nat.le_of_ble_eq_true rfl) (xn_fr_ok ⟨Nat.le_refl _, ⟨rfl, rfl, trivial, rfl, trivial, rfl, trivial, rfl, trivial, rfl, trivial, trivial⟩, rfl, rfl⟩) (fun _ _ => rfl) ?_
  refine xn_dup iX1_init_83 rfl ?_
  refine xn_bipush (iI 6) iX1_init_84 (by decide) ?_
  refine xn_bipush (iI 8) iX1_init_86 (by decide) ?_
  refine xn_callI (rc := 0) (rs := 0) (h0 := (xO 1 [xi 0, xi 0, xi 0, xi 0, xi 0, xi 0, xi 0, xi 0, xi 0, xi 0, .ref 1, .ref 3, .ref 5, .ref 7, .ref 9, .null] :: (encT (rmT 0) (wdT 0) tab0 ++ (encT (rmT 1) (wdT 1) tab0 ++ (encT (rmT 2) (wdT 2) tab0 ++ (encT (rmT 3) (wdT 3) tab0 ++ (encT (rmT 4) (wdT 4) tab0))))))) (As := [xi 6, xi 8]) (rest := [.ref 11, .ref 0]) sX1_init_88 nkX0_init rfl rfl rfl (by decide) ⟨Nat.le_succ _, ⟨rfl, rfl, trivial, rfl, trivial, rfl, trivial, rfl, trivial, rfl, trivial, trivial⟩, rfl, rfl⟩ (Nat.le_of_ble_eq_true rfl) cX0_t5 (fun h' e => ?_)
  subst e
  refine xn_putf pX1_init_91 (hyq _) (Nat.zero_le _) rfl (Nat.le_of_ble_eq_true rfl) ?_
  show xn_W none 1 mX1_init 0 0 94 _ _ (xO 1 [xi 0, xi 0, xi 0, xi 0, xi 0, xi 0, xi 0, xi 0, xi 0, xi 0, .ref 1, .ref 3, .ref 5, .ref 7, .ref 9, .ref 11] :: (encT (rmT 0) (wdT 0) tab0 ++ (encT (rmT 1) (wdT 1) tab0 ++ (encT (rmT 2) (wdT 2) tab0 ++ (encT (rmT 3) (wdT 3) tab0 ++ (encT (rmT 4) (wdT 4) tab0 ++ (encT (rmT 5) (wdT 5) tab0))))))) _
  refine xn_aload_n iX1_init_94 rfl ?_
  refine xn_iconst (iI 1) iX1_init_95 rfl ?_
  refine xn_bipush (iI 10) iX1_init_96 (by decide) ?_
  refine xn_iconst (iI 5) iX1_init_98 rfl ?_
  refine xn_iconst (iI 0) iX1_init_99 rfl ?_
  refine xn_callR (enc := encW) (bd := bdW) [] [] (as := [pI 1, pI 10, pI 5, pI 0]) (s := wraw) (K := fun v s' => v = [] ∧ s' = w1) (rest := []) iX1_init_100 vX1_reset mX1_reset_ok wcl lenW recW rfl rfl (by decide) wraw_b ⟨⟨⟨by decide, by decide⟩, ⟨by decide, by decide⟩, ⟨by decide, by decide⟩, ⟨by decide, by decide⟩⟩, rfl, rfl⟩ (fun v s' e hb => ?_)
  obtain ⟨rfl, rfl⟩ := e
  refine xn_return iX1_init_103 rfl ⟨rfl, ?_, hb⟩
  rw [List.nil_append, List.append_nil]
