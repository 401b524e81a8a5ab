/-! ===== the model: its constructor ===== -/
def m0 : MS := (fun _ => 0, fun _ _ => 0)
def m1 : MS := mStarts m0 0 1 10 5 0
theorem m0_b : bdM m0 := ⟨fun _ => xB_z, fun _ _ => xB_z⟩
set_option maxRecDepth 100000 in
set_option maxHeartbeats 4000000 in
theorem cX3_init_ok : xn_C mX3_init 12 31669 [.ref 0] [xO 3 dfX3] (fun h' => h' = encM m1 ∧ bdM m1) := by
  refine xn_con kX3_init [some (.ref 0)] rfl (Nat.le_of_ble_eq_true rfl) ?_
  refine xn_aload_n iX3_init_0 rfl ?_
  refine xn_obj oX3_init_1 ?_
  refine xn_aload_n iX3_init_4 rfl ?_
  refine xn_bipush (iI 16) iX3_init_5 (by decide) ?_
  refine xn_newa (rc := 11) (rs := 31653) (t := 1) (a0 := (16, .inr (.inl (fun _ => lI 0)))) iX3_init_7 ac_l (fun _ => rfl) newl (by decide) (by decide) (by decide) (Nat.le_of_ble_eq_true rfl) (xn_fr_ok ⟨Nat.le_refl _, ⟨rfl, trivial⟩, rfl, rfl⟩) (fun _ _ => rfl) ?_
  refine xn_putf pX3_init_9 (hya _) (Nat.zero_le _) rfl (Nat.le_of_ble_eq_true rfl) ?_
  show xn_W none 1 mX3_init 11 31653 12 _ _ [xO 3 [xi 0, xi 0, .ref 1, .null, xi 0, xi 0, xi 0, .null, xi 0, .null, xi 0, xi 0, xi 0, .null, .null, .null, .null, .null, .null, xi 0, .null, xi 0, .null], xL 16 (fun _ => 0)] _
  refine xn_aload_n iX3_init_12 rfl ?_
  refine xn_bipush (iI 80) iX3_init_13 (by decide) ?_
  refine xn_newa (rc := 10) (rs := 31573) (t := 0) (a0 := (80, .inl (fun _ => iI 0))) iX3_init_15 ac_i (fun _ => rfl) newi (by decide) (by decide) (by decide) (Nat.le_of_ble_eq_true rfl) (xn_fr_ok ⟨Nat.le_refl _, ⟨rfl, trivial, trivial⟩, rfl, rfl⟩) (fun _ _ => rfl) ?_
  refine xn_putf pX3_init_17 (hya _) (Nat.zero_le _) rfl (Nat.le_of_ble_eq_true rfl) ?_
  show xn_W none 1 mX3_init 10 31573 20 _ _ [xO 3 [xi 0, xi 0, .ref 1, .ref 2, xi 0, xi 0, xi 0, .null, xi 0, .null, xi 0, xi 0, xi 0, .null, .null, .null, .null, .null, .null, xi 0, .null, xi 0, .null], xL 16 (fun _ => 0), xA 80 (fun _ => 0)] _
  refine xn_aload_n iX3_init_20 rfl ?_
  refine xn_sipush (iI 30844) iX3_init_21 (by decide) ?_
  refine xn_newa (rc := 9) (rs := 729) (t := 0) (a0 := (30844, .inl (fun _ => iI 0))) iX3_init_24 ac_i (fun _ => rfl) newi (by decide) (by decide) (by decide) (Nat.le_of_ble_eq_true rfl) (xn_fr_ok ⟨Nat.le_refl _, ⟨rfl, trivial, trivial, trivial⟩, rfl, rfl⟩) (fun _ _ => rfl) ?_
  refine xn_putf pX3_init_26 (hya _) (Nat.zero_le _) rfl (Nat.le_of_ble_eq_true rfl) ?_
  show xn_W none 1 mX3_init 9 729 29 _ _ [xO 3 [xi 0, xi 0, .ref 1, .ref 2, xi 0, xi 0, xi 0, .ref 3, xi 0, .null, xi 0, xi 0, xi 0, .null, .null, .null, .null, .null, .null, xi 0, .null, xi 0, .null], xL 16 (fun _ => 0), xA 80 (fun _ => 0), xA 30844 (fun _ => 0)] _
  refine xn_aload_n iX3_init_29 rfl ?_
  refine xn_bipush (iI 7) iX3_init_30 (by decide) ?_
  refine xn_newa (rc := 8) (rs := 722) (t := 0) (a0 := (7, .inl (fun _ => iI 0))) iX3_init_32 ac_i (fun _ => rfl) newi (by decide) (by decide) (by decide) (Nat.le_of_ble_eq_true rfl) (xn_fr_ok ⟨Nat.le_refl _, ⟨rfl, trivial, trivial, trivial, trivial⟩, rfl, rfl⟩) (fun _ _ => rfl) ?_
  refine xn_putf pX3_init_34 (hya _) (Nat.zero_le _) rfl (Nat.le_of_ble_eq_true rfl) ?_
  show xn_W none 1 mX3_init 8 722 37 _ _ [xO 3 [xi 0, xi 0, .ref 1, .ref 2, xi 0, xi 0, xi 0, .ref 3, xi 0, .ref 4, xi 0, xi 0, xi 0, .null, .null, .null, .null, .null, .null, xi 0, .null, xi 0, .null], xL 16 (fun _ => 0), xA 80 (fun _ => 0), xA 30844 (fun _ => 0), xA 7 (fun _ => 0)] _
  refine xn_aload_n iX3_init_37 rfl ?_
  refine xn_bipush (iI 80) iX3_init_38 (by decide) ?_
  refine xn_newa (rc := 7) (rs := 642) (t := 0) (a0 := (80, .inl (fun _ => iI 0))) iX3_init_40 ac_i (fun _ => rfl) newi (by decide) (by decide) (by decide) (Nat.le_of_ble_eq_true rfl) (xn_fr_ok ⟨Nat.le_refl _, ⟨rfl, trivial, trivial, trivial, trivial, trivial⟩, rfl, rfl⟩) (fun _ _ => rfl) ?_
  refine xn_putf pX3_init_42 (hya _) (Nat.zero_le _) rfl (Nat.le_of_ble_eq_true rfl) ?_
  show xn_W none 1 mX3_init 7 642 45 _ _ [xO 3 [xi 0, xi 0, .ref 1, .ref 2, xi 0, xi 0, xi 0, .ref 3, xi 0, .ref 4, xi 0, xi 0, xi 0, .ref 5, .null, .null, .null, .null, .null, xi 0, .null, xi 0, .null], xL 16 (fun _ => 0), xA 80 (fun _ => 0), xA 30844 (fun _ => 0), xA 7 (fun _ => 0), xA 80 (fun _ => 0)] _
  refine xn_aload_n iX3_init_45 rfl ?_
  refine xn_bipush (iI 80) iX3_init_46 (by decide) ?_
  refine xn_newa (rc := 6) (rs := 562) (t := 0) (a0 := (80, .inl (fun _ => iI 0))) iX3_init_48 ac_i (fun _ => rfl) newi (by decide) (by decide) (by decide) (Nat.le_of_ble_eq_true rfl) (xn_fr_ok ⟨Nat.le_refl _, ⟨rfl, trivial, trivial, trivial, trivial, trivial, trivial⟩, rfl, rfl⟩) (fun _ _ => rfl) ?_
  refine xn_putf pX3_init_50 (hya _) (Nat.zero_le _) rfl (Nat.le_of_ble_eq_true rfl) ?_
  show xn_W none 1 mX3_init 6 562 53 _ _ [xO 3 [xi 0, xi 0, .ref 1, .ref 2, xi 0, xi 0, xi 0, .ref 3, xi 0, .ref 4, xi 0, xi 0, xi 0, .ref 5, .ref 6, .null, .null, .null, .null, xi 0, .null, xi 0, .null], xL 16 (fun _ => 0), xA 80 (fun _ => 0), xA 30844 (fun _ => 0), xA 7 (fun _ => 0), xA 80 (fun _ => 0), xA 80 (fun _ => 0)] _
  refine xn_aload_n iX3_init_53 rfl ?_
  refine xn_bipush (iI 80) iX3_init_54 (by decide) ?_
  refine xn_newa (rc := 5) (rs := 482) (t := 0) (a0 := (80, .inl (fun _ => iI 0))) iX3_init_56 ac_i (fun _ => rfl) newi (by decide) (by decide) (by decide) (Nat.le_of_ble_eq_true rfl) (xn_fr_ok ⟨Nat.le_refl _, ⟨rfl, trivial, trivial, trivial, trivial, trivial, trivial, trivial⟩, rfl, rfl⟩) (fun _ _ => rfl) ?_
  refine xn_putf pX3_init_58 (hya _) (Nat.zero_le _) rfl (Nat.le_of_ble_eq_true rfl) ?_
  show xn_W none 1 mX3_init 5 482 61 _ _ [xO 3 [xi 0, xi 0, .ref 1, .ref 2, xi 0, xi 0, xi 0, .ref 3, xi 0, .ref 4, xi 0, xi 0, xi 0, .ref 5, .ref 6, .ref 7, .null, .null, .null, xi 0, .null, xi 0, .null], xL 16 (fun _ => 0), xA 80 (fun _ => 0), xA 30844 (fun _ => 0), xA 7 (fun _ => 0), xA 80 (fun _ => 0), xA 80 (fun _ => 0), xA 80 (fun _ => 0)] _
  refine xn_aload_n iX3_init_61 rfl ?_
  refine xn_bipush (iI 80) iX3_init_62 (by decide) ?_
  refine xn_newa (rc := 4) (rs := 402) (t := 0) (a0 := (80, .inl (fun _ => iI 0))) iX3_init_64 ac_i (fun _ => rfl) newi (by decide) (by decide) (by decide) (Nat.le_of_ble_eq_true rfl) (xn_fr_ok ⟨Nat.le_refl _, ⟨rfl, trivial, trivial, trivial, trivial, trivial, trivial, trivial, trivial⟩, rfl, rfl⟩) (fun _ _ => rfl) ?_
  refine xn_putf pX3_init_66 (hya _) (Nat.zero_le _) rfl (Nat.le_of_ble_eq_true rfl) ?_
  show xn_W none 1 mX3_init 4 402 69 _ _ [xO 3 [xi 0, xi 0, .ref 1, .ref 2, xi 0, xi 0, xi 0, .ref 3, xi 0, .ref 4, xi 0, xi 0, xi 0, .ref 5, .ref 6, .ref 7, .ref 8, .null, .null, xi 0, .null, xi 0, .null], xL 16 (fun _ => 0), xA 80 (fun _ => 0), xA 30844 (fun _ => 0), xA 7 (fun _ => 0), xA 80 (fun _ => 0), xA 80 (fun _ => 0), xA 80 (fun _ => 0), xA 80 (fun _ => 0)] _
  refine xn_aload_n iX3_init_69 rfl ?_
  refine xn_sipush (iI 160) iX3_init_70 (by decide) ?_
  refine xn_newa (rc := 3) (rs := 242) (t := 0) (a0 := (160, .inl (fun _ => iI 0))) iX3_init_73 ac_i (fun _ => rfl) newi (by decide) (by decide) (by decide) (Nat.le_of_ble_eq_true rfl) (xn_fr_ok ⟨Nat.le_refl _, ⟨rfl, trivial, trivial, trivial, trivial, trivial, trivial, trivial, trivial, trivial⟩, rfl, rfl⟩) (fun _ _ => rfl) ?_
  refine xn_putf pX3_init_75 (hya _) (Nat.zero_le _) rfl (Nat.le_of_ble_eq_true rfl) ?_
  show xn_W none 1 mX3_init 3 242 78 _ _ [xO 3 [xi 0, xi 0, .ref 1, .ref 2, xi 0, xi 0, xi 0, .ref 3, xi 0, .ref 4, xi 0, xi 0, xi 0, .ref 5, .ref 6, .ref 7, .ref 8, .ref 9, .null, xi 0, .null, xi 0, .null], xL 16 (fun _ => 0), xA 80 (fun _ => 0), xA 30844 (fun _ => 0), xA 7 (fun _ => 0), xA 80 (fun _ => 0), xA 80 (fun _ => 0), xA 80 (fun _ => 0), xA 80 (fun _ => 0), xA 160 (fun _ => 0)] _
  refine xn_aload_n iX3_init_78 rfl ?_
  refine xn_sipush (iI 160) iX3_init_79 (by decide) ?_
  refine xn_newa (rc := 2) (rs := 82) (t := 0) (a0 := (160, .inl (fun _ => iI 0))) iX3_init_82 ac_i (fun _ => rfl) newi (by decide) (by decide) (by decide) (Nat.le_of_ble_eq_true rfl) (xn_fr_ok ⟨Nat.le_refl _, ⟨rfl, trivial, trivial, trivial, trivial, trivial, trivial, trivial, trivial, trivial, trivial⟩, rfl, rfl⟩) (fun _ _ => rfl) ?_
  refine xn_putf pX3_init_84 (hya _) (Nat.zero_le _) rfl (Nat.le_of_ble_eq_true rfl) ?_
  show xn_W none 1 mX3_init 2 82 87 _ _ [xO 3 [xi 0, xi 0, .ref 1, .ref 2, xi 0, xi 0, xi 0, .ref 3, xi 0, .ref 4, xi 0, xi 0, xi 0, .ref 5, .ref 6, .ref 7, .ref 8, .ref 9, .ref 10, xi 0, .null, xi 0, .null], xL 16 (fun _ => 0), xA 80 (fun _ => 0), xA 30844 (fun _ => 0), xA 7 (fun _ => 0), xA 80 (fun _ => 0), xA 80 (fun _ => 0), xA 80 (fun _ => 0), xA 80 (fun _ => 0), xA 160 (fun _ => 0), xA 160 (fun _ => 0)] _
  refine xn_aload_n iX3_init_87 rfl ?_
  refine xn_bipush (iI 80) iX3_init_88 (by decide) ?_
  refine xn_newa (rc := 1) (rs := 2) (t := 0) (a0 := (80, .inl (fun _ => iI 0))) iX3_init_90 ac_i (fun _ => rfl) newi (by decide) (by decide) (by decide) (Nat.le_of_ble_eq_true rfl) (xn_fr_ok ⟨Nat.le_refl _, ⟨rfl, trivial, trivial, trivial, trivial, trivial, trivial, trivial, trivial, trivial, trivial, trivial⟩, rfl, rfl⟩) (fun _ _ => rfl) ?_
  refine xn_putf pX3_init_92 (hya _) (Nat.zero_le _) rfl (Nat.le_of_ble_eq_true rfl) ?_
  show xn_W none 1 mX3_init 1 2 95 _ _ [xO 3 [xi 0, xi 0, .ref 1, .ref 2, xi 0, xi 0, xi 0, .ref 3, xi 0, .ref 4, xi 0, xi 0, xi 0, .ref 5, .ref 6, .ref 7, .ref 8, .ref 9, .ref 10, xi 0, .ref 11, xi 0, .null], xL 16 (fun _ => 0), xA 80 (fun _ => 0), xA 30844 (fun _ => 0), xA 7 (fun _ => 0), xA 80 (fun _ => 0), xA 80 (fun _ => 0), xA 80 (fun _ => 0), xA 80 (fun _ => 0), xA 160 (fun _ => 0), xA 160 (fun _ => 0), xA 80 (fun _ => 0)] _
  refine xn_aload_n iX3_init_95 rfl ?_
  refine xn_iconst (iI 2) iX3_init_96 rfl ?_
  refine xn_newa (rc := 0) (rs := 0) (t := 2) (a0 := (2, .inl (fun _ => iI 0))) iX3_init_97 ac_z (fun _ => rfl) newz (by decide) (by decide) (by decide) (Nat.le_of_ble_eq_true rfl) (xn_fr_ok ⟨Nat.le_refl _, ⟨rfl, trivial, trivial, trivial, trivial, trivial, trivial, trivial, trivial, trivial, trivial, trivial, trivial⟩, rfl, rfl⟩) (fun _ _ => rfl) ?_
  refine xn_putf pX3_init_99 (hya _) (Nat.zero_le _) rfl (Nat.le_of_ble_eq_true rfl) ?_
  show xn_W none 1 mX3_init 0 0 102 _ _ [xO 3 [xi 0, xi 0, .ref 1, .ref 2, xi 0, xi 0, xi 0, .ref 3, xi 0, .ref 4, xi 0, xi 0, xi 0, .ref 5, .ref 6, .ref 7, .ref 8, .ref 9, .ref 10, xi 0, .ref 11, xi 0, .ref 12], xL 16 (fun _ => 0), xA 80 (fun _ => 0), xA 30844 (fun _ => 0), xA 7 (fun _ => 0), xA 80 (fun _ => 0), xA 80 (fun _ => 0), xA 80 (fun _ => 0), xA 80 (fun _ => 0), xA 160 (fun _ => 0), xA 160 (fun _ => 0), xA 80 (fun _ => 0), xZ 2 (fun _ => 0)] _
  refine xn_aload_n iX3_init_102 rfl ?_
  refine xn_iconst (iI 0) iX3_init_103 rfl ?_
  refine xn_iconst (iI 1) iX3_init_104 rfl ?_
  refine xn_bipush (iI 10) iX3_init_105 (by decide) ?_
  refine xn_iconst (iI 5) iX3_init_107 rfl ?_
  refine xn_iconst (iI 0) iX3_init_108 rfl ?_
  refine xn_callR (enc := encM) (bd := bdM) [] [] (as := [pI 0, pI 1, pI 10, pI 5, pI 0]) (s := m0) (K := fun v s' => v = [] ∧ s' = m1) (rest := []) iX3_init_109 vX3_starts mX3_starts_ok mcl lenM recM rfl rfl (by decide) m0_b ⟨⟨⟨by decide, by decide⟩, ⟨by decide, by decide⟩, ⟨by decide, by decide⟩, ⟨by decide, by decide⟩, ⟨by decide, by decide⟩⟩, rfl, rfl⟩ (fun v s' e hb => ?_)
  obtain ⟨rfl, rfl⟩ := e
  refine xn_return iX3_init_112 rfl ⟨rfl, ?_, hb⟩
  rw [List.nil_append, List.append_nil]
