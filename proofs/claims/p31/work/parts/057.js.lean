/-! ===== String: the methods of the JDK that are used, by program ===== -/
def mJ0_coder_7d493 : XI := (yJ0_coder_7d493, cJ0_coder_7d493, 1, (some .byte), 0, 0, 0)
theorem kJ0_coder_7d493 : xl_K mJ0_coder_7d493 := ⟨by decide +kernel, xl_Ti 497 (by decide +kernel) rfl, xl_iJ0, by decide +kernel, by decide +kernel, by decide +kernel⟩
theorem vJ0_coder_7d493 : xl_V mJ0_coder_7d493 := ⟨kJ0_coder_7d493, xl_Ti 495 (by decide +kernel) rfl, xl_Ti 496 (by decide +kernel) rfl⟩
def mJ0_isLatin1_aae02 : XI := (yJ0_isLatin1_aae02, cJ0_isLatin1_aae02, 1, (some .boolean), 0, 0, 0)
theorem kJ0_isLatin1_aae02 : xl_K mJ0_isLatin1_aae02 := ⟨by decide +kernel, xl_Ti 511 (by decide +kernel) rfl, xl_iJ0, by decide +kernel, by decide +kernel, by decide +kernel⟩
theorem vJ0_isLatin1_aae02 : xl_V mJ0_isLatin1_aae02 := ⟨kJ0_isLatin1_aae02, xl_Ti 509 (by decide +kernel) rfl, xl_Ti 510 (by decide +kernel) rfl⟩
def mJ0_length_8abf5 : XI := (yJ0_length_8abf5, cJ0_length_8abf5, 1, (some .int), 1, 20, 0)
theorem kJ0_length_8abf5 : xl_K mJ0_length_8abf5 := ⟨by decide +kernel, xl_Ti 493 (by decide +kernel) rfl, xl_iJ0, by decide +kernel, by decide +kernel, by decide +kernel⟩
theorem vJ0_length_8abf5 : xl_V mJ0_length_8abf5 := ⟨kJ0_length_8abf5, xl_Ti 491 (by decide +kernel) rfl, xl_Ti 492 (by decide +kernel) rfl⟩
def mJ0_isEmpty_aae02 : XI := (yJ0_isEmpty_aae02, cJ0_isEmpty_aae02, 1, (some .boolean), 0, 0, 0)
theorem kJ0_isEmpty_aae02 : xl_K mJ0_isEmpty_aae02 := ⟨by decide +kernel, xl_Ti 730 (by decide +kernel) rfl, xl_iJ0, by decide +kernel, by decide +kernel, by decide +kernel⟩
theorem vJ0_isEmpty_aae02 : xl_V mJ0_isEmpty_aae02 := ⟨kJ0_isEmpty_aae02, xl_Ti 728 (by decide +kernel) rfl, xl_Ti 729 (by decide +kernel) rfl⟩
def mJ3_checkIndex_8e157 : XI := (yJ3_checkIndex_8e157, cJ3_checkIndex_8e157, 3, (some .int), 0, 0, 3)
theorem kJ3_checkIndex_8e157 : xl_K mJ3_checkIndex_8e157 := ⟨by decide +kernel, xl_Ti 522 (by decide +kernel) rfl, xl_iJ3, by decide +kernel, by decide +kernel, by decide +kernel⟩
theorem vJ3_checkIndex_8e157 : xl_U mJ3_checkIndex_8e157 := ⟨kJ3_checkIndex_8e157, xl_Ti 521 (by decide +kernel) rfl⟩
def mJ0_checkIndex_df160 : XI := (yJ0_checkIndex_df160, cJ0_checkIndex_df160, 2, none, 1, 22, 2)
theorem kJ0_checkIndex_df160 : xl_K mJ0_checkIndex_df160 := ⟨by decide +kernel, xl_Ti 517 (by decide +kernel) rfl, xl_iJ0, by decide +kernel, by decide +kernel, by decide +kernel⟩
theorem vJ0_checkIndex_df160 : xl_U mJ0_checkIndex_df160 := ⟨kJ0_checkIndex_df160, xl_Ti 516 (by decide +kernel) rfl⟩
def mJ1_charAt_3b067 : XI := (yJ1_charAt_3b067, cJ1_charAt_3b067, 2, (some .char), 2, 43, 2)
theorem kJ1_charAt_3b067 : xl_K mJ1_charAt_3b067 := ⟨by decide +kernel, xl_Ti 514 (by decide +kernel) rfl, xl_iJ1, by decide +kernel, by decide +kernel, by decide +kernel⟩
theorem vJ1_charAt_3b067 : xl_U mJ1_charAt_3b067 := ⟨kJ1_charAt_3b067, xl_Ti 513 (by decide +kernel) rfl⟩
def mJ0_charAt_5068e : XI := (yJ0_charAt_5068e, cJ0_charAt_5068e, 2, (some .char), 4, 85, 1)
theorem kJ0_charAt_5068e : xl_K mJ0_charAt_5068e := ⟨by decide +kernel, xl_Ti 507 (by decide +kernel) rfl, xl_iJ0, by decide +kernel, by decide +kernel, by decide +kernel⟩
theorem vJ0_charAt_5068e : xl_V mJ0_charAt_5068e := ⟨kJ0_charAt_5068e, xl_Ti 505 (by decide +kernel) rfl, xl_Ti 506 (by decide +kernel) rfl⟩
theorem lJ0_335 : Cond.methodLink RJ0 335 yJ0_coder_7d493 ∈ xl_T := xl_Ti 494 (by decide +kernel) rfl
theorem lJ0_492 : Cond.methodLink RJ0 492 yJ0_isLatin1_aae02 ∈ xl_T := xl_Ti 508 (by decide +kernel) rfl
theorem lJ0_495 : Cond.methodLink RJ0 495 yJ1_charAt_3b067 ∈ xl_T := xl_Ti 512 (by decide +kernel) rfl
theorem lJ0_1059 : Cond.methodLink RJ0 1059 yJ3_checkIndex_8e157 ∈ xl_T := xl_Ti 520 (by decide +kernel) rfl
theorem lJ1_9 : Cond.methodLink RJ1 9 yJ0_checkIndex_df160 ∈ xl_T := xl_Ti 515 (by decide +kernel) rfl
theorem fJ0_9 : Cond.fieldLink RJ0 9 "java/lang/String" "value" "[B" ∈ xl_T := xl_Ti 1342 (by decide +kernel) rfl
theorem fJ0_15 : Cond.fieldLink RJ0 15 "java/lang/String" "coder" "B" ∈ xl_T := xl_Ti 1343 (by decide +kernel) rfl
theorem fJ0_38 : Cond.fieldLink RJ0 38 "java/lang/String" "COMPACT_STRINGS" "Z" ∈ xl_T := xl_Ti 498 (by decide +kernel) rfl
theorem fJ0_1053 : Cond.fieldLink RJ0 1053 "jdk/internal/util/Preconditions" "SIOOBE_FORMATTER" "Ljava/util/function/BiFunction;" ∈ xl_T := xl_Ti 518 (by decide +kernel) rfl
theorem iJ0_coder_7d493_0 : xl_D mJ0_coder_7d493 0 (.getstatic 38) 3 3 := ⟨by decide +kernel, rfl⟩
theorem iJ0_coder_7d493_3 : xl_J mJ0_coder_7d493 3 (fun o => .ifCond .eq o) 6 13 := ⟨10, by decide +kernel, rfl, rfl⟩
theorem iJ0_coder_7d493_6 : xl_D mJ0_coder_7d493 6 (.aload_n 0) 1 7 := ⟨by decide +kernel, rfl⟩
theorem iJ0_coder_7d493_7 : xl_D mJ0_coder_7d493 7 (.getfield 15) 3 10 := ⟨by decide +kernel, rfl⟩
theorem iJ0_coder_7d493_10 : xl_J mJ0_coder_7d493 10 (fun o => .goto o) 13 14 := ⟨4, by decide +kernel, rfl, rfl⟩
theorem iJ0_coder_7d493_13 : xl_D mJ0_coder_7d493 13 (.iconst 1) 1 14 := ⟨by decide +kernel, rfl⟩
theorem iJ0_coder_7d493_14 : xl_D mJ0_coder_7d493 14 (.ireturn) 1 15 := ⟨by decide +kernel, rfl⟩
theorem iJ0_isLatin1_aae02_0 : xl_D mJ0_isLatin1_aae02 0 (.getstatic 38) 3 3 := ⟨by decide +kernel, rfl⟩
theorem iJ0_isLatin1_aae02_3 : xl_J mJ0_isLatin1_aae02 3 (fun o => .ifCond .eq o) 6 17 := ⟨14, by decide +kernel, rfl, rfl⟩
theorem iJ0_isLatin1_aae02_6 : xl_D mJ0_isLatin1_aae02 6 (.aload_n 0) 1 7 := ⟨by decide +kernel, rfl⟩
theorem iJ0_isLatin1_aae02_7 : xl_D mJ0_isLatin1_aae02 7 (.getfield 15) 3 10 := ⟨by decide +kernel, rfl⟩
theorem iJ0_isLatin1_aae02_10 : xl_J mJ0_isLatin1_aae02 10 (fun o => .ifCond .ne o) 13 17 := ⟨7, by decide +kernel, rfl, rfl⟩
theorem iJ0_isLatin1_aae02_13 : xl_D mJ0_isLatin1_aae02 13 (.iconst 1) 1 14 := ⟨by decide +kernel, rfl⟩
theorem iJ0_isLatin1_aae02_14 : xl_J mJ0_isLatin1_aae02 14 (fun o => .goto o) 17 18 := ⟨4, by decide +kernel, rfl, rfl⟩
theorem iJ0_isLatin1_aae02_17 : xl_D mJ0_isLatin1_aae02 17 (.iconst 0) 1 18 := ⟨by decide +kernel, rfl⟩
theorem iJ0_isLatin1_aae02_18 : xl_D mJ0_isLatin1_aae02 18 (.ireturn) 1 19 := ⟨by decide +kernel, rfl⟩
theorem iJ0_length_8abf5_0 : xl_D mJ0_length_8abf5 0 (.aload_n 0) 1 1 := ⟨by decide +kernel, rfl⟩
theorem iJ0_length_8abf5_1 : xl_D mJ0_length_8abf5 1 (.getfield 9) 3 4 := ⟨by decide +kernel, rfl⟩
theorem iJ0_length_8abf5_4 : xl_D mJ0_length_8abf5 4 (.arraylength) 1 5 := ⟨by decide +kernel, rfl⟩
theorem iJ0_length_8abf5_5 : xl_D mJ0_length_8abf5 5 (.aload_n 0) 1 6 := ⟨by decide +kernel, rfl⟩
theorem iJ0_length_8abf5_6 : xl_Ca mJ0_length_8abf5 6 mJ0_coder_7d493 9 := ⟨335, by decide +kernel, rfl, lJ0_335, Nat.le_of_ble_eq_true rfl, Nat.le_of_ble_eq_true rfl⟩
theorem iJ0_length_8abf5_9 : xl_D mJ0_length_8abf5 9 (.ishr) 1 10 := ⟨by decide +kernel, rfl⟩
theorem iJ0_length_8abf5_10 : xl_D mJ0_length_8abf5 10 (.ireturn) 1 11 := ⟨by decide +kernel, rfl⟩
theorem iJ0_isEmpty_aae02_0 : xl_D mJ0_isEmpty_aae02 0 (.aload_n 0) 1 1 := ⟨by decide +kernel, rfl⟩
theorem iJ0_isEmpty_aae02_1 : xl_D mJ0_isEmpty_aae02 1 (.getfield 9) 3 4 := ⟨by decide +kernel, rfl⟩
theorem iJ0_isEmpty_aae02_4 : xl_D mJ0_isEmpty_aae02 4 (.arraylength) 1 5 := ⟨by decide +kernel, rfl⟩
theorem iJ0_isEmpty_aae02_5 : xl_J mJ0_isEmpty_aae02 5 (fun o => .ifCond .ne o) 8 12 := ⟨7, by decide +kernel, rfl, rfl⟩
theorem iJ0_isEmpty_aae02_8 : xl_D mJ0_isEmpty_aae02 8 (.iconst 1) 1 9 := ⟨by decide +kernel, rfl⟩
theorem iJ0_isEmpty_aae02_9 : xl_J mJ0_isEmpty_aae02 9 (fun o => .goto o) 12 13 := ⟨4, by decide +kernel, rfl, rfl⟩
theorem iJ0_isEmpty_aae02_12 : xl_D mJ0_isEmpty_aae02 12 (.iconst 0) 1 13 := ⟨by decide +kernel, rfl⟩
theorem iJ0_isEmpty_aae02_13 : xl_D mJ0_isEmpty_aae02 13 (.ireturn) 1 14 := ⟨by decide +kernel, rfl⟩
theorem iJ3_checkIndex_8e157_0 : xl_D mJ3_checkIndex_8e157 0 (.iload_n 0) 1 1 := ⟨by decide +kernel, rfl⟩
theorem iJ3_checkIndex_8e157_1 : xl_J mJ3_checkIndex_8e157 1 (fun o => .ifCond .lt o) 4 9 := ⟨8, by decide +kernel, rfl, rfl⟩
theorem iJ3_checkIndex_8e157_4 : xl_D mJ3_checkIndex_8e157 4 (.iload_n 0) 1 5 := ⟨by decide +kernel, rfl⟩
theorem iJ3_checkIndex_8e157_5 : xl_D mJ3_checkIndex_8e157 5 (.iload_n 1) 1 6 := ⟨by decide +kernel, rfl⟩
theorem iJ3_checkIndex_8e157_6 : xl_J mJ3_checkIndex_8e157 6 (fun o => .if_icmp .lt o) 9 16 := ⟨10, by decide +kernel, rfl, rfl⟩
theorem iJ3_checkIndex_8e157_9 : xl_D mJ3_checkIndex_8e157 9 (.aload_n 2) 1 10 := ⟨by decide +kernel, rfl⟩
theorem iJ3_checkIndex_8e157_10 : xl_D mJ3_checkIndex_8e157 10 (.iload_n 0) 1 11 := ⟨by decide +kernel, rfl⟩
theorem iJ3_checkIndex_8e157_11 : xl_D mJ3_checkIndex_8e157 11 (.iload_n 1) 1 12 := ⟨by decide +kernel, rfl⟩
theorem iJ3_checkIndex_8e157_15 : xl_D mJ3_checkIndex_8e157 15 (.athrow) 1 16 := ⟨by decide +kernel, rfl⟩
theorem iJ3_checkIndex_8e157_16 : xl_D mJ3_checkIndex_8e157 16 (.iload_n 0) 1 17 := ⟨by decide +kernel, rfl⟩
theorem iJ3_checkIndex_8e157_17 : xl_D mJ3_checkIndex_8e157 17 (.ireturn) 1 18 := ⟨by decide +kernel, rfl⟩
theorem iJ0_checkIndex_df160_0 : xl_D mJ0_checkIndex_df160 0 (.iload_n 0) 1 1 := ⟨by decide +kernel, rfl⟩
theorem iJ0_checkIndex_df160_1 : xl_D mJ0_checkIndex_df160 1 (.iload_n 1) 1 2 := ⟨by decide +kernel, rfl⟩
theorem iJ0_checkIndex_df160_2 : xl_D mJ0_checkIndex_df160 2 (.getstatic 1053) 3 5 := ⟨by decide +kernel, rfl⟩
theorem iJ0_checkIndex_df160_5 : xl_Cs mJ0_checkIndex_df160 5 mJ3_checkIndex_8e157 8 := ⟨1059, by decide +kernel, rfl, lJ0_1059, Nat.le_of_ble_eq_true rfl, Nat.le_of_ble_eq_true rfl⟩
theorem iJ0_checkIndex_df160_8 : xl_D mJ0_checkIndex_df160 8 (.pop) 1 9 := ⟨by decide +kernel, rfl⟩
theorem iJ0_checkIndex_df160_9 : xl_D mJ0_checkIndex_df160 9 (.return_) 1 10 := ⟨by decide +kernel, rfl⟩
theorem iJ1_charAt_3b067_0 : xl_D mJ1_charAt_3b067 0 (.iload_n 1) 1 1 := ⟨by decide +kernel, rfl⟩
theorem iJ1_charAt_3b067_1 : xl_D mJ1_charAt_3b067 1 (.aload_n 0) 1 2 := ⟨by decide +kernel, rfl⟩
theorem iJ1_charAt_3b067_2 : xl_D mJ1_charAt_3b067 2 (.arraylength) 1 3 := ⟨by decide +kernel, rfl⟩
theorem iJ1_charAt_3b067_3 : xl_Cs mJ1_charAt_3b067 3 mJ0_checkIndex_df160 6 := ⟨9, by decide +kernel, rfl, lJ1_9, Nat.le_of_ble_eq_true rfl, Nat.le_of_ble_eq_true rfl⟩
theorem iJ1_charAt_3b067_6 : xl_D mJ1_charAt_3b067 6 (.aload_n 0) 1 7 := ⟨by decide +kernel, rfl⟩
theorem iJ1_charAt_3b067_7 : xl_D mJ1_charAt_3b067 7 (.iload_n 1) 1 8 := ⟨by decide +kernel, rfl⟩
theorem iJ1_charAt_3b067_8 : xl_D mJ1_charAt_3b067 8 (.baload) 1 9 := ⟨by decide +kernel, rfl⟩
theorem iJ1_charAt_3b067_9 : xl_D mJ1_charAt_3b067 9 (.sipush 255) 3 12 := ⟨by decide +kernel, rfl⟩
theorem iJ1_charAt_3b067_12 : xl_D mJ1_charAt_3b067 12 (.iand) 1 13 := ⟨by decide +kernel, rfl⟩
theorem iJ1_charAt_3b067_13 : xl_D mJ1_charAt_3b067 13 (.i2c) 1 14 := ⟨by decide +kernel, rfl⟩
theorem iJ1_charAt_3b067_14 : xl_D mJ1_charAt_3b067 14 (.ireturn) 1 15 := ⟨by decide +kernel, rfl⟩
theorem iJ0_charAt_5068e_0 : xl_D mJ0_charAt_5068e 0 (.aload_n 0) 1 1 := ⟨by decide +kernel, rfl⟩
theorem iJ0_charAt_5068e_1 : xl_Ca mJ0_charAt_5068e 1 mJ0_isLatin1_aae02 4 := ⟨492, by decide +kernel, rfl, lJ0_492, Nat.le_of_ble_eq_true rfl, Nat.le_of_ble_eq_true rfl⟩
theorem iJ0_charAt_5068e_4 : xl_J mJ0_charAt_5068e 4 (fun o => .ifCond .eq o) 7 16 := ⟨12, by decide +kernel, rfl, rfl⟩
theorem iJ0_charAt_5068e_7 : xl_D mJ0_charAt_5068e 7 (.aload_n 0) 1 8 := ⟨by decide +kernel, rfl⟩
theorem iJ0_charAt_5068e_8 : xl_D mJ0_charAt_5068e 8 (.getfield 9) 3 11 := ⟨by decide +kernel, rfl⟩
theorem iJ0_charAt_5068e_11 : xl_D mJ0_charAt_5068e 11 (.iload_n 1) 1 12 := ⟨by decide +kernel, rfl⟩
theorem iJ0_charAt_5068e_12 : xl_Cs mJ0_charAt_5068e 12 mJ1_charAt_3b067 15 := ⟨495, by decide +kernel, rfl, lJ0_495, Nat.le_of_ble_eq_true rfl, Nat.le_of_ble_eq_true rfl⟩
theorem iJ0_charAt_5068e_15 : xl_D mJ0_charAt_5068e 15 (.ireturn) 1 16 := ⟨by decide +kernel, rfl⟩
theorem iJ0_charAt_5068e_16 : xl_D mJ0_charAt_5068e 16 (.aload_n 0) 1 17 := ⟨by decide +kernel, rfl⟩
theorem iJ0_charAt_5068e_17 : xl_D mJ0_charAt_5068e 17 (.getfield 9) 3 20 := ⟨by decide +kernel, rfl⟩
theorem iJ0_charAt_5068e_20 : xl_D mJ0_charAt_5068e 20 (.iload_n 1) 1 21 := ⟨by decide +kernel, rfl⟩
theorem iJ0_charAt_5068e_24 : xl_D mJ0_charAt_5068e 24 (.ireturn) 1 25 := ⟨by decide +kernel, rfl⟩
/-! ===== String constants: what the machine does with them ===== -/
theorem xs_n {j : Nat} (hj : j < 1000) : j.toUInt32.toNat = j := by
  show (UInt32.ofNat j).toNat = j
  rw [UInt32.toNat_ofNat']
  omega
theorem xs_v {ρ σ : Nat → Nat} {j : Nat} (hj : j < 1000) : xl_v ρ σ (.float j.toUInt32) = .ref (σ j) := by
  show Value.ref (σ j.toUInt32.toNat) = _
  rw [xs_n hj]
section XS
variable {M μ : XI} {rc rs pc pc2 : Nat} {L : List (Option Value)} {st rest : List Value} {h : XH} {Po : Option (Option Value) → XH → Prop} {Po' : Option Value → XH → Prop} {j i : Nat}
theorem xl_sval (hj : j < 9) (d : xl_D M pc (.getfield i) 3 pc2) (hl : Cond.fieldLink M.1.cls i "java/lang/String" "value" "[B" ∈ xl_T) (k : xl_W M rc rs pc2 L (.float (200 + j).toUInt32 :: st) h Po) : xl_W M rc rs pc L (.float j.toUInt32 :: st) h Po := by
  obtain ⟨d, rfl⟩ := d
  intro p l e R s m args below meth c D aC ρ σ aV A H locs cells slots ls Q hX hH hL h1 h2 hr ht
  have hE := hH.2.2.2.2.1
  have := k p l e R s m args below meth c D aC ρ σ aV A H locs cells slots ls Q hX hH hL h1 h2 hr ht
  rw [List.map_cons, xs_v (by omega), hE.2.2.2.2 j hj] at this
  rw [List.map_cons, xs_v (by omega)]
  exact vk_getf hX.1 hX.2.1 (hE.1.1 j hj).2.2.1 hH.2.2.2.1 hX.2.2.2.2.1 (hX.2.2.2.2.2.1 _ hl) (fun _ h => h) d this
theorem xl_scod (hj : j < 9) (d : xl_D M pc (.getfield i) 3 pc2) (hl : Cond.fieldLink M.1.cls i "java/lang/String" "coder" "B" ∈ xl_T) (k : xl_W M rc rs pc2 L (.int 0 :: st) h Po) : xl_W M rc rs pc L (.float j.toUInt32 :: st) h Po := by
  obtain ⟨d, rfl⟩ := d
  intro p l e R s m args below meth c D aC ρ σ aV A H locs cells slots ls Q hX hH hL h1 h2 hr ht
  have hE := hH.2.2.2.2.1
  have := k p l e R s m args below meth c D aC ρ σ aV A H locs cells slots ls Q hX hH hL h1 h2 hr ht
  rw [List.map_cons, xs_v (by omega)]
  exact vk_getf hX.1 hX.2.1 (hE.1.1 j hj).2.1 hH.2.2.2.1 hX.2.2.2.2.1 (hX.2.2.2.2.2.1 _ hl) (fun _ h => h) d this
theorem xl_slen (hj : j < 9) (d : xl_D M pc .arraylength 1 pc2) (k : xl_W M rc rs pc2 L (.int (Int32.ofNat (xl_sl.getD j 0)) :: st) h Po) : xl_W M rc rs pc L (.float (200 + j).toUInt32 :: st) h Po := by
  obtain ⟨d, rfl⟩ := d
  intro p l e R s m args below meth c D aC ρ σ aV A H locs cells slots ls Q hX hH hL h1 h2 hr ht
  have hE := hH.2.2.2.2.1
  have := k p l e R s m args below meth c D aC ρ σ aV A H locs cells slots ls Q hX hH hL h1 h2 hr ht
  rw [List.map_cons, xs_v (by omega), hE.2.2.2.2 j hj]
  exact va_tlen hX.1 hX.2.1 (hE.1.1 j hj).2.2.2 hH.2.2.2.1 rfl d this
theorem xl_sbal {z : Int32} (hj : j < 9) (d : xl_D M pc .baload 1 pc2) (hin : vp_in z (xl_sl.getD j 0)) (k : xl_W M rc rs pc2 L (.int ((xl_sb.getD j []).getD z.toNatClampNeg 0) :: st) h Po) : xl_W M rc rs pc L (.int z :: .float (200 + j).toUInt32 :: st) h Po := by
  obtain ⟨d, rfl⟩ := d
  intro p l e R s m args below meth c D aC ρ σ aV A H locs cells slots ls Q hX hH hL h1 h2 hr ht
  have hE := hH.2.2.2.2.1
  have := k p l e R s m args below meth c D aC ρ σ aV A H locs cells slots ls Q hX hH hL h1 h2 hr ht
  rw [List.map_cons, List.map_cons, xs_v (by omega), hE.2.2.2.2 j hj]
  exact va_tb hX.1 hX.2.1 (hE.1.1 j hj).2.2.2 hH.2.2.2.1 hin rfl d this
theorem xl_szip (d : xl_D M pc (.getstatic i) 3 pc2) (hl : Cond.fieldLink M.1.cls i "java/lang/String" "COMPACT_STRINGS" "Z" ∈ xl_T) (k : xl_W M rc rs pc2 L (.int 1 :: st) h Po) : xl_W M rc rs pc L st h Po := by
  obtain ⟨d, rfl⟩ := d
  intro p l e R s m args below meth c D aC ρ σ aV A H locs cells slots ls Q hX hH hL h1 h2 hr ht
  have hE := hH.2.2.2.2.1
  exact va_gets hX.1 hX.2.1 hE.2.1 hH.2.2.2.1 hX.2.2.2.2.1 (hX.2.2.2.2.2.1 _ hl) (fun _ h => h) d (k p l e R s m args below meth c D aC ρ σ aV A H locs cells slots ls Q hX hH hL h1 h2 hr ht)
theorem xl_sfmt (d : xl_D M pc (.getstatic i) 3 pc2) (hl : Cond.fieldLink M.1.cls i "jdk/internal/util/Preconditions" "SIOOBE_FORMATTER" "Ljava/util/function/BiFunction;" ∈ xl_T) (kn : xl_W M rc rs pc2 L (.null :: st) h Po) (kr : xl_W M rc rs pc2 L (.float (300 : Nat).toUInt32 :: st) h Po) : xl_W M rc rs pc L st h Po := by
  obtain ⟨d, rfl⟩ := d
  intro p l e R s m args below meth c D aC ρ σ aV A H locs cells slots ls Q hX hH hL h1 h2 hr ht
  have hE := hH.2.2.2.2.1
  rcases hE.2.2.1 with hz | hz
  · exact va_gets hX.1 hX.2.1 hz hH.2.2.2.1 hX.2.2.2.2.1 (hX.2.2.2.2.2.1 _ hl) (fun _ h => h) d (kn p l e R s m args below meth c D aC ρ σ aV A H locs cells slots ls Q hX hH hL h1 h2 hr ht)
  · have := kr p l e R s m args below meth c D aC ρ σ aV A H locs cells slots ls Q hX hH hL h1 h2 hr ht
    rw [List.map_cons, xs_v (by omega)] at this
    exact va_gets hX.1 hX.2.1 hz hH.2.2.2.1 hX.2.2.2.2.1 (hX.2.2.2.2.2.1 _ hl) (fun _ h => h) d this
theorem xl_i2c {z v : Int32} (d : xl_D M pc .i2c 1 pc2) (hv : (z.toUInt32 % 65536).toInt32 = v) (k : xl_W M rc rs pc2 L (.int v :: st) h Po) : xl_W M rc rs pc L (.int z :: st) h Po := by
  obtain ⟨d, rfl⟩ := d
  exact xl_go (fun hX k => lv_i2c hX.1 hX.2.1 d hv k) k
theorem xl_creturn {a : Int32} (d : xl_D M pc .ireturn 1 pc2) (hr : M.2.2.2.1 = some .char) (h01 : narrow .char (.int a) = .int a) (hP : Po (some (some (.int a))) h) : xl_W M rc rs pc L [.int a] h Po :=
  xl_ret (v := some (.int a)) hP ⟨⟨.char, hr, h01⟩, d.1⟩
theorem xl_breturn {a : Int32} (d : xl_D M pc .ireturn 1 pc2) (hr : M.2.2.2.1 = some .byte) (h01 : narrow .byte (.int a) = .int a) (hP : Po (some (some (.int a))) h) : xl_W M rc rs pc L [.int a] h Po :=
  xl_ret (v := some (.int a)) hP ⟨⟨.byte, hr, h01⟩, d.1⟩
theorem xl_pi0 {π : Nat → Nat} : xl_pi π h [] := ⟨fun i j hi => absurd hi (Nat.not_lt_zero _), fun j hj => absurd hj (Nat.not_lt_zero _)⟩
theorem xl_back0 {π : Nat → Nat} {h' h1 : XH} (hb : xl_back π 0 h h' h1) : h1 = h := by
  apply List.ext_getElem?
  intro k
  exact hb.2.2 k (fun j hj => absurd hj (Nat.not_lt_zero _))
/-- a static method that sees no cells -/
theorem xl_sK {As : List Value} (d : xl_Cs M pc μ pc2) (hv : xl_U μ) (hst : st = As.reverse ++ rest) (hn : As.length = μ.2.2.2.2.2.2) (hw : (rest.map fun v => if xl_1 v = true then 1 else 2).sum ≤ 8) (hnr : As.all xl_nr = true)
    (hc : xl_C μ 0 0 As [] Po') (hlen : ∀ v h', Po' v h' → h' = [] ∧ ∀ a, v ≠ some (.ref a)) (kk : ∀ v, Po' v [] → xl_W M rc rs pc2 L (v.toList ++ rest) h Po) : xl_W M rc rs pc L st h Po :=
  xl_callS (mc := 0) (ms := 0) (hl := []) (fun k => k) d hv hst hn hw (fun ρ σ => rfl) xl_pi0 (fun j c q => by cases q) hc (fun v h' p => by
    obtain ⟨rfl, q⟩ := hlen v h' p
    exact ⟨rfl, fun j c e => (by cases e), q⟩) (fun v h' h1 p hb => by
    obtain ⟨rfl, -⟩ := hlen v h' p
    rw [xl_back0 hb]
    exact kk v p)
/-- a method of a String constant -/
theorem xl_callK {As : List Value} (hj : j < 9) (d : xl_Ca M pc μ pc2) (hv : xl_V μ) (hcl : μ.1.cls = "java/lang/String") (hst : st = As.reverse ++ .float j.toUInt32 :: rest) (hn : As.length = μ.2.2.2.2.2.2) (hw : (rest.map fun v => if xl_1 v = true then 1 else 2).sum ≤ 8)
    (hc : xl_C μ 0 0 (.float j.toUInt32 :: As) [] Po') (hlen : ∀ v h', Po' v h' → h' = [] ∧ ∀ a, v ≠ some (.ref a)) (kk : ∀ v, Po' v [] → xl_W M rc rs pc2 L (v.toList ++ rest) h Po) : xl_W M rc rs pc L st h Po := by
  obtain ⟨i, d, rfl, d3, d4, d5⟩ := d
  subst hst
  intro p l e R s m args below meth c D aC ρ σ aV A H locs cells slots ls Q hX hH hL h1 h2 hr ht
  obtain ⟨hK, hP, hD, hS, hE, hA⟩ := id hH
  have hp : xl_pi (fun k => k) h [] := xl_pi0
  have hok : ∀ (j : Nat) (c : XE), ([] : XH)[j]? = some c → xl_ok (fun k => k) j c := fun j c q => by cases q
  obtain ⟨g1, g2, g3⟩ := xl_part hH hp hok
  have hrecv := vk_recv hE.1 hj hS
  rw [← hcl] at hrecv
  have hcw : CallW R s args M.1.cls μ.1.cls i μ.1 μ.2.1 μ.2.2.1 μ.2.2.2.1 (xl_ws μ) (xl_rm μ 0 0) 0 0 μ.2.2.2.2.2.2 := ⟨xl_callB hX.2.2.2.2.2.1 hv.1 d3 (Nat.le_trans d4 hX.2.2.2.2.2.2.2.1) (Nat.le_trans d5 hX.2.2.2.2.2.2.2.2.1), hX.2.2.2.2.2.1 _ hv.2.1, hX.2.2.2.2.2.1 _ hv.2.2⟩
  have hrun := va_runV (As := As.map (xl_v ρ σ)) (rest := rest.map (xl_v ρ σ)) (g := F0 m pc ls ((As.reverse ++ .float j.toUInt32 :: rest).map (xl_v ρ σ))) (H := H) (locs := locs) (cells := cells) (slots := slots) (e := e) (below := below) (meth := meth) (b := σ j) (C := μ.1.cls) ⟨hX.1, hX.2.1, hX.2.2.2.1, hX.2.2.2.2.1, hX.2.2.2.2.2.1⟩ (hc l hX.2.2.2.2.2.2.2.2.2 D aC (fun k => ρ ((fun k => k) k)) σ aV H.size) hcw
    ⟨xl_blind, hrecv, fun U hU hW => xl_ready hH hp hok hU hW (by rw [List.map_cons, xs_v (by omega)])⟩ rfl (by rw [List.length_map]; exact hn) hL.1 (by simp [xs_v (σ := σ) (ρ := ρ) (show j < 1000 by omega)]) (lv_room (by rw [xl_cats]; exact hw)) d ⟨by omega, by omega⟩
  refine xl_after hrun hS (fun q _ hq => g3 q hq) g3 (fun v h' H1 locs1 hPo hP1 hD1 hz1 hk1 hS1 => ?_)
  obtain ⟨rfl, q3⟩ := hlen v h' hPo
  have hb : xl_back (fun k => k) 0 h [] h := ⟨rfl, fun j hj => absurd hj (Nat.not_lt_zero _), fun k _ => rfl⟩
  have hH1 := xl_joined hH hp hb rfl hok hP1 hk1 hS1
  have := kk v hPo p l e R s m args below meth c D aC ρ σ aV A H1 locs1 (cells + 0) (slots + 0) ls Q hX hH1 hL (by omega) (by omega) (fun v h' H' locs' pc' cells' slots' ls' a1 a2 a3 a4 a5 => hr v h' H' locs' pc' cells' slots' ls' a1 a2 a3 (by omega) (by omega)) (fun h' H' locs' pc' cells' slots' ls' a1 a2 a3 a4 a5 => ht h' H' locs' pc' cells' slots' ls' a1 a2 a3 (by omega) (by omega))
  rw [List.map_append] at this
  have ev : (v.map (xl_v (fun k => ρ ((fun k => k) k)) σ)).toList = v.toList.map (xl_v ρ σ) := by
    cases v with
    | none => rfl
    | some v => cases v <;> first | rfl | exact absurd rfl (q3 _)
  rw [ev]
  exact this
end XS
/-! ===== String: the methods, walked ===== -/
theorem xs_coder {j : Nat} (hj : j < 9) : xl_C mJ0_coder_7d493 0 0 [.float j.toUInt32] [] (fun v h' => v = some (.int 0) ∧ h' = []) := by
  refine xl_con kJ0_coder_7d493 [some (.float j.toUInt32)] rfl (Nat.le_of_ble_eq_true rfl) ?_
  refine xl_szip iJ0_coder_7d493_0 fJ0_38 (xl_if_eq iJ0_coder_7d493_3 (fun q => absurd q (by decide)) (fun _ => ?_))
  refine xl_saload_n iJ0_coder_7d493_6 rfl (xl_scod hj iJ0_coder_7d493_7 fJ0_15 (xl_goto iJ0_coder_7d493_10 ?_))
  exact xl_breturn iJ0_coder_7d493_14 rfl (by decide) ⟨_, rfl, rfl, rfl⟩
theorem xs_latin {j : Nat} (hj : j < 9) : xl_C mJ0_isLatin1_aae02 0 0 [.float j.toUInt32] [] (fun v h' => v = some (.int 1) ∧ h' = []) := by
  refine xl_con kJ0_isLatin1_aae02 [some (.float j.toUInt32)] rfl (Nat.le_of_ble_eq_true rfl) ?_
  refine xl_szip iJ0_isLatin1_aae02_0 fJ0_38 (xl_if_eq iJ0_isLatin1_aae02_3 (fun q => absurd q (by decide)) (fun _ => ?_))
  refine xl_saload_n iJ0_isLatin1_aae02_6 rfl (xl_scod hj iJ0_isLatin1_aae02_7 fJ0_15 (xl_if_ne iJ0_isLatin1_aae02_10 (fun q => absurd rfl q) (fun _ => ?_)))
  refine xl_iconst 1 iJ0_isLatin1_aae02_13 rfl (xl_goto iJ0_isLatin1_aae02_14 ?_)
  exact xl_zreturn iJ0_isLatin1_aae02_18 rfl (Or.inr rfl) ⟨_, rfl, rfl, rfl⟩
theorem xs_length {j : Nat} (hj : j < 9) : xl_C mJ0_length_8abf5 0 0 [.float j.toUInt32] [] (fun v h' => v = some (.int (Int32.ofNat (xl_sl.getD j 0))) ∧ h' = []) := by
  refine xl_con kJ0_length_8abf5 [some (.float j.toUInt32)] rfl (Nat.le_of_ble_eq_true rfl) ?_
  refine xl_saload_n iJ0_length_8abf5_0 rfl (xl_sval hj iJ0_length_8abf5_1 fJ0_9 (xl_slen hj iJ0_length_8abf5_4 (xl_saload_n iJ0_length_8abf5_5 rfl ?_)))
  refine xl_callK (As := []) hj iJ0_length_8abf5_6 vJ0_coder_7d493 rfl rfl rfl (Nat.le_of_ble_eq_true rfl) (xs_coder hj) (fun v h' q => ⟨q.2, fun a => by rw [q.1]; exact fun e => by cases e⟩) (fun v q => ?_)
  rw [q.1]
  refine xl_ishr iJ0_length_8abf5_9 ?_
  exact xl_ireturn iJ0_length_8abf5_10 rfl ⟨_, rfl, by rw [show (0 : Int32) &&& 31 = 0 from by decide, Int32.shiftRight_zero], rfl⟩
theorem xs_empty {j : Nat} (hj : j < 9) : xl_C mJ0_isEmpty_aae02 0 0 [.float j.toUInt32] [] (fun v h' => v = some (.int (if xl_sl.getD j 0 = 0 then 1 else 0)) ∧ h' = []) := by
  have key : ∀ j, j < 9 → ((Int32.ofNat (xl_sl.getD j 0) = 0) ↔ xl_sl.getD j 0 = 0) := by decide
  refine xl_con kJ0_isEmpty_aae02 [some (.float j.toUInt32)] rfl (Nat.le_of_ble_eq_true rfl) ?_
  refine xl_saload_n iJ0_isEmpty_aae02_0 rfl (xl_sval hj iJ0_isEmpty_aae02_1 fJ0_9 (xl_slen hj iJ0_isEmpty_aae02_4 (xl_if_ne iJ0_isEmpty_aae02_5 (fun q => ?_) (fun q => ?_))))
  · rw [key j hj] at q
    refine xl_iconst 0 iJ0_isEmpty_aae02_12 rfl ?_
    exact xl_zreturn iJ0_isEmpty_aae02_13 rfl (Or.inl rfl) ⟨_, rfl, by rw [if_neg q], rfl⟩
  · rw [key j hj] at q
    refine xl_iconst 1 iJ0_isEmpty_aae02_8 rfl (xl_goto iJ0_isEmpty_aae02_9 ?_)
    exact xl_zreturn iJ0_isEmpty_aae02_13 rfl (Or.inr rfl) ⟨_, rfl, by rw [if_pos q], rfl⟩
theorem xs_chk3 {a b : Int32} {v2 : Value} (h1 : v2 = .null ∨ v2 = .float (300 : Nat).toUInt32) (h0 : ¬ a < 0) (hb : a < b) : xl_C mJ3_checkIndex_8e157 0 0 [.int a, .int b, v2] [] (fun v h' => v = some (.int a) ∧ h' = []) := by
  refine xl_con kJ3_checkIndex_8e157 [some (.int a), some (.int b), some v2] (by rcases h1 with rfl | rfl <;> rfl) (by rcases h1 with rfl | rfl <;> exact Nat.le_of_ble_eq_true rfl) ?_
  refine xl_iload_n iJ3_checkIndex_8e157_0 rfl (xl_if_lt iJ3_checkIndex_8e157_1 (fun q => absurd q h0) (fun _ => ?_))
  refine xl_iload_n iJ3_checkIndex_8e157_4 rfl (xl_iload_n iJ3_checkIndex_8e157_5 rfl (xl_icmp_lt iJ3_checkIndex_8e157_6 (fun _ => ?_) (fun q => absurd hb q)))
  refine xl_iload_n iJ3_checkIndex_8e157_16 rfl ?_
  exact xl_ireturn iJ3_checkIndex_8e157_17 rfl ⟨_, rfl, rfl, rfl⟩
theorem xs_chk0 {a b : Int32} (h0 : ¬ a < 0) (hb : a < b) : xl_C mJ0_checkIndex_df160 0 0 [.int a, .int b] [] (fun v h' => v = none ∧ h' = []) := by
  refine xl_con kJ0_checkIndex_df160 [some (.int a), some (.int b)] rfl (Nat.le_of_ble_eq_true rfl) ?_
  refine xl_iload_n iJ0_checkIndex_df160_0 rfl (xl_iload_n iJ0_checkIndex_df160_1 rfl (xl_sfmt iJ0_checkIndex_df160_2 fJ0_1053 ?_ ?_))
  · refine xl_sK (As := [.int a, .int b, .null]) iJ0_checkIndex_df160_5 vJ3_checkIndex_8e157 rfl rfl (Nat.le_of_ble_eq_true rfl) rfl (xs_chk3 (Or.inl rfl) h0 hb) (fun v h' q => ⟨q.2, fun a => by rw [q.1]; exact fun e => by cases e⟩) (fun v q => ?_)
    rw [q.1]
    refine xl_pop iJ0_checkIndex_df160_8 rfl ?_
    exact xl_return iJ0_checkIndex_df160_9 rfl ⟨_, rfl, rfl, rfl⟩
  · refine xl_sK (As := [.int a, .int b, .float (300 : Nat).toUInt32]) iJ0_checkIndex_df160_5 vJ3_checkIndex_8e157 rfl rfl (Nat.le_of_ble_eq_true rfl) rfl (xs_chk3 (Or.inr rfl) h0 hb) (fun v h' q => ⟨q.2, fun a => by rw [q.1]; exact fun e => by cases e⟩) (fun v q => ?_)
    rw [q.1]
    refine xl_pop iJ0_checkIndex_df160_8 rfl ?_
    exact xl_return iJ0_checkIndex_df160_9 rfl ⟨_, rfl, rfl, rfl⟩
/-- the char at a place -/
def xs_ch (j k : Nat) : Int32 := (xl_sb.getD j []).getD k 0
theorem xs_chN : ∀ j, j < 9 → ∀ k, k < xl_sl.getD j 0 → ((((xs_ch j k &&& 255).toUInt32 % 65536).toInt32 = xs_ch j k) ∧ narrow .char (.int (xs_ch j k)) = .int (xs_ch j k)) := by decide
theorem xs_char1 {j k : Nat} (hj : j < 9) (hk : k < xl_sl.getD j 0) : xl_C mJ1_charAt_3b067 0 0 [.float (200 + j).toUInt32, .int (Int32.ofNat k)] [] (fun v h' => v = some (.int (xs_ch j k)) ∧ h' = []) := by
  have key : ∀ j, j < 9 → ∀ k, k < xl_sl.getD j 0 → ¬ (Int32.ofNat k < 0) ∧ Int32.ofNat k < Int32.ofNat (xl_sl.getD j 0) ∧ vp_in (Int32.ofNat k) (xl_sl.getD j 0) ∧ (Int32.ofNat k).toNatClampNeg = k := by
    intro j hj k hk
    have h9 : ∀ j, j < 9 → xl_sl.getD j 0 ≤ 10 := by decide
    have := h9 j hj
    have e1 : (Int32.ofNat k).toInt = (k : Int) := by rw [Int32.toInt_ofNat_of_lt (by omega)]
    have e2 : (Int32.ofNat (xl_sl.getD j 0)).toInt = ((xl_sl.getD j 0 : Nat) : Int) := by rw [Int32.toInt_ofNat_of_lt (by omega)]
    refine ⟨?_, ?_, ?_, ?_⟩
    · rw [Int32.lt_iff_toInt_lt, e1]; simp
    · rw [Int32.lt_iff_toInt_lt, e1, e2]; omega
    · have : iI (k : Int) = Int32.ofNat k := by simp [iI, Int32.ofInt_eq_ofNat]
      rw [← this]
      exact iI_in ⟨by omega, by omega⟩ (by omega) (by omega)
    · show (Int32.ofNat k).toInt.toNat = k
      rw [e1]; omega
  obtain ⟨q1, q2, q3, q4⟩ := key j hj k hk
  obtain ⟨c1, c2⟩ := xs_chN j hj k hk
  refine xl_con kJ1_charAt_3b067 [some (.float (200 + j).toUInt32), some (.int (Int32.ofNat k))] rfl (Nat.le_of_ble_eq_true rfl) ?_
  refine xl_iload_n iJ1_charAt_3b067_0 rfl (xl_saload_n iJ1_charAt_3b067_1 rfl (xl_slen hj iJ1_charAt_3b067_2 ?_))
  refine xl_sK (As := [.int (Int32.ofNat k), .int (Int32.ofNat (xl_sl.getD j 0))]) iJ1_charAt_3b067_3 vJ0_checkIndex_df160 rfl rfl (Nat.le_of_ble_eq_true rfl) rfl (xs_chk0 q1 q2) (fun v h' q => ⟨q.2, fun a => by rw [q.1]; exact fun e => by cases e⟩) (fun v q => ?_)
  rw [q.1]
  refine xl_saload_n iJ1_charAt_3b067_6 rfl (xl_iload_n iJ1_charAt_3b067_7 rfl (xl_sbal hj iJ1_charAt_3b067_8 q3 ?_))
  rw [q4]
  refine xl_sipush 255 iJ1_charAt_3b067_9 (by decide) (xl_iand iJ1_charAt_3b067_12 (xl_i2c iJ1_charAt_3b067_13 c1 ?_))
  exact xl_creturn iJ1_charAt_3b067_14 rfl c2 ⟨_, rfl, rfl, rfl⟩
theorem xs_char {j k : Nat} (hj : j < 9) (hk : k < xl_sl.getD j 0) : xl_C mJ0_charAt_5068e 0 0 [.float j.toUInt32, .int (Int32.ofNat k)] [] (fun v h' => v = some (.int (xs_ch j k)) ∧ h' = []) := by
  refine xl_con kJ0_charAt_5068e [some (.float j.toUInt32), some (.int (Int32.ofNat k))] rfl (Nat.le_of_ble_eq_true rfl) ?_
  refine xl_saload_n iJ0_charAt_5068e_0 rfl ?_
  refine xl_callK (As := []) hj iJ0_charAt_5068e_1 vJ0_isLatin1_aae02 rfl rfl rfl (Nat.le_of_ble_eq_true rfl) (xs_latin hj) (fun v h' q => ⟨q.2, fun a => by rw [q.1]; exact fun e => by cases e⟩) (fun v q => ?_)
  rw [q.1]
  refine xl_if_eq iJ0_charAt_5068e_4 (fun q => absurd q (by decide)) (fun _ => ?_)
  refine xl_saload_n iJ0_charAt_5068e_7 rfl (xl_sval hj iJ0_charAt_5068e_8 fJ0_9 (xl_iload_n iJ0_charAt_5068e_11 rfl ?_))
  refine xl_sK (As := [.float (200 + j).toUInt32, .int (Int32.ofNat k)]) iJ0_charAt_5068e_12 vJ1_charAt_3b067 rfl rfl (Nat.le_of_ble_eq_true rfl) rfl (xs_char1 hj hk) (fun v h' q => ⟨q.2, fun a => by rw [q.1]; exact fun e => by cases e⟩) (fun v q => ?_)
  rw [q.1]
  exact xl_creturn iJ0_charAt_5068e_15 rfl (xs_chN j hj k hk).2 ⟨_, rfl, rfl, rfl⟩
theorem xs_ldcwS {p : Program} {l : Launch} {e : Env} {R : Room} {s : State} {m : MethodId} {args : Array Value} {below : List Frame} {meth : Method} {c : Code} {T : State} {locs : List Loc} {cells slots : Nat} (X : Stand p l e R s m args below meth c T locs cells slots) (hexec : p.tables.exec = Jvm.exec) {own text : String} {index : Nat} {a : Addr} (hown : s.vm.findClass own = some m.cls)
    (hconst : (Cond.stringRef own index text).before args s = true) (hev : (Term.string own index).eval args s none [] s = some (.ref a)) {g : JFrame} (hg : g.method = m) (hdg : decode c.code g.pc = .ok (.ldc_w index, 3)) :
    ∀ target, Steps p.tables e below (T.setTop { g with pc := g.pc + 3, stack := .ref a :: g.stack }) target → Steps p.tables e below (T.setTop g) target := by
  obtain ⟨k, cf, i, a', hk, hcf, hcp, -, hr, hev'⟩ := Cond.stringRef_spec hown hconst
  cases hev.symm.trans hev'
  obtain ⟨k', hk', he⟩ := X.warmed.alike.2.2 _ _ hk
  have hr' : k'.resolved[index]? = some (some (.string a)) := by
    rcases X.warmed.entry hk hk' index with h | ⟨h, -⟩
    · rw [h]; exact hr
    · rw [hr] at h; cases h
  intro target hrest
  subst hg
  jvm_step X.here [hexec, hdg, ldc_w.wp_string (e := e) (s := T) (f := g) X.here.top hk' (by rw [he]; exact hcf) hcp hr']
  exact hrest
section XSL
variable {M : XI} {rc rs pc pc2 : Nat} {L : List (Option Value)} {st : List Value} {h : XH} {Po : Option (Option Value) → XH → Prop} {j : Nat}
theorem xl_ldcS (hj : j < 9) (hc : (xl_sc j).1 = M.1.cls) (d : xl_D M pc (.ldc (xl_sc j).2.1) 2 pc2) (k : xl_W M rc rs pc2 L (.float j.toUInt32 :: st) h Po) : xl_W M rc rs pc L st h Po := by
  obtain ⟨d, rfl⟩ := d
  intro p l e R s m args below meth c D aC ρ σ aV A H locs cells slots ls Q hX hH hL h1 h2 hr ht
  have hE := hH.2.2.2.2.1
  have := k p l e R s m args below meth c D aC ρ σ aV A H locs cells slots ls Q hX hH hL h1 h2 hr ht
  rw [List.map_cons, xs_v (by omega)] at this
  exact va_ldcS hX.1 hX.2.1 (by rw [hc]; exact hX.2.2.2.2.1) (hE.2.2.2.1 j hj) d this
theorem xl_ldcSw (hj : j < 9) (hc : (xl_sc j).1 = M.1.cls) (d : xl_D M pc (.ldc_w (xl_sc j).2.1) 3 pc2) (k : xl_W M rc rs pc2 L (.float j.toUInt32 :: st) h Po) : xl_W M rc rs pc L st h Po := by
  obtain ⟨d, rfl⟩ := d
  intro p l e R s m args below meth c D aC ρ σ aV A H locs cells slots ls Q hX hH hL h1 h2 hr ht
  have hE := hH.2.2.2.2.1
  have k2 := k p l e R s m args below meth c D aC ρ σ aV A H locs cells slots ls Q hX hH hL h1 h2 hr ht
  rw [List.map_cons, xs_v (by omega)] at k2
  intro T hT X
  obtain ⟨t, a1, b1⟩ := k2 T hT X
  have hz := hE.2.2.2.1 j hj
  have hown : s.vm.findClass (xl_sc j).1 = some m.cls := by rw [hc]; exact hX.2.2.2.2.1
  exact ⟨t, xs_ldcwS X hX.1 hown hz.1 hz.2 (g := F0 m pc ls (st.map (xl_v ρ σ))) rfl (by rw [hX.2.1]; exact d) t a1, b1⟩
end XSL

