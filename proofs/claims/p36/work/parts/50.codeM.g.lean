-- 50.codeM
section
theorem iX3_in_0 : xl_D mX3_in 0 (.lload_n 0) 1 1 := ⟨zd zq_494 (by decide +kernel), rfl⟩
theorem iX3_in_1 : xl_D mX3_in 1 (.lload_n 2) 1 2 := ⟨zd zq_495 (by decide +kernel), rfl⟩
theorem iX3_in_2 : xl_D mX3_in 2 (.lcmp) 1 3 := ⟨zd zq_496 (by decide +kernel), rfl⟩
theorem iX3_in_3 : xl_J mX3_in 3 (fun o => .ifCond .lt o) 6 17 := ⟨14, zd zq_417 (by decide +kernel), rfl, rfl⟩
theorem iX3_in_6 : xl_D mX3_in 6 (.lload_n 0) 1 7 := ⟨zd zq_494 (by decide +kernel), rfl⟩
theorem iX3_in_7 : xl_D mX3_in 7 (.lload 4) 2 9 := ⟨zd zq_497 (by decide +kernel), rfl⟩
theorem iX3_in_9 : xl_D mX3_in 9 (.lcmp) 1 10 := ⟨zd zq_496 (by decide +kernel), rfl⟩
theorem iX3_in_10 : xl_J mX3_in 10 (fun o => .ifCond .gt o) 13 17 := ⟨7, zd zq_498 (by decide +kernel), rfl, rfl⟩
theorem iX3_in_13 : xl_D mX3_in 13 (.iconst 1) 1 14 := ⟨zd zq_36 (by decide +kernel), rfl⟩
theorem iX3_in_14 : xl_J mX3_in 14 (fun o => .goto o) 17 18 := ⟨4, zd zq_139 (by decide +kernel), rfl, rfl⟩
theorem iX3_in_17 : xl_D mX3_in 17 (.iconst 0) 1 18 := ⟨zd zq_2 (by decide +kernel), rfl⟩
theorem iX3_in_18 : xl_D mX3_in 18 (.ireturn) 1 19 := ⟨zd zq_17 (by decide +kernel), rfl⟩
theorem iX3_flag_0 : xl_D mX3_flag 0 (.iload_n 0) 1 1 := ⟨zd zq_415 (by decide +kernel), rfl⟩
theorem iX3_flag_1 : xl_J mX3_flag 1 (fun o => .ifCond .eq o) 4 8 := ⟨7, zd zq_193 (by decide +kernel), rfl, rfl⟩
theorem iX3_flag_4 : xl_D mX3_flag 4 (.iconst 1) 1 5 := ⟨zd zq_36 (by decide +kernel), rfl⟩
theorem iX3_flag_5 : xl_J mX3_flag 5 (fun o => .goto o) 8 9 := ⟨4, zd zq_139 (by decide +kernel), rfl, rfl⟩
theorem iX3_flag_8 : xl_D mX3_flag 8 (.iconst 0) 1 9 := ⟨zd zq_2 (by decide +kernel), rfl⟩
theorem iX3_flag_9 : xl_D mX3_flag 9 (.ireturn) 1 10 := ⟨zd zq_17 (by decide +kernel), rfl⟩
theorem iX3_enters_0 : xl_D mX3_enters 0 (.aload_n 0) 1 1 := ⟨zd zq_0 (by decide +kernel), rfl⟩
theorem iX3_enters_1 : xl_G mX3_enters 1 3 2 4 := ⟨7, zd zq_499 (by decide +kernel), rfl, fX3_7⟩
theorem iX3_enters_4 : xl_D mX3_enters 4 (.aload_n 0) 1 5 := ⟨zd zq_0 (by decide +kernel), rfl⟩
theorem iX3_enters_5 : xl_G mX3_enters 5 3 1 8 := ⟨11, zd zq_500 (by decide +kernel), rfl, fX3_11⟩
theorem iX3_enters_8 : xl_D mX3_enters 8 (.lload_n 1) 1 9 := ⟨zd zq_432 (by decide +kernel), rfl⟩
theorem iX3_enters_9 : xl_D mX3_enters 9 (.lastore) 1 10 := ⟨zd zq_433 (by decide +kernel), rfl⟩
theorem iX3_enters_10 : xl_D mX3_enters 10 (.aload_n 0) 1 11 := ⟨zd zq_0 (by decide +kernel), rfl⟩
theorem iX3_enters_11 : xl_D mX3_enters 11 (.dup) 1 12 := ⟨zd zq_46 (by decide +kernel), rfl⟩
theorem iX3_enters_12 : xl_G mX3_enters 12 3 1 15 := ⟨11, zd zq_500 (by decide +kernel), rfl, fX3_11⟩
theorem iX3_enters_15 : xl_D mX3_enters 15 (.iconst 1) 1 16 := ⟨zd zq_36 (by decide +kernel), rfl⟩
theorem iX3_enters_16 : xl_D mX3_enters 16 (.iadd) 1 17 := ⟨zd zq_19 (by decide +kernel), rfl⟩
theorem iX3_enters_17 : xl_P mX3_enters 17 3 1 .int 20 := ⟨11, zd zq_501 (by decide +kernel), rfl, wX3_11⟩
theorem iX3_enters_20 : xl_D mX3_enters 20 (.return_) 1 21 := ⟨zd zq_12 (by decide +kernel), rfl⟩
theorem iX3_sign_0 : xl_D mX3_sign 0 (.aload_n 0) 1 1 := ⟨zd zq_0 (by decide +kernel), rfl⟩
theorem iX3_sign_1 : xl_D mX3_sign 1 (.iconst 0) 1 2 := ⟨zd zq_2 (by decide +kernel), rfl⟩
theorem iX3_sign_2 : xl_P mX3_sign 2 3 0 .int 5 := ⟨3, zd zq_502 (by decide +kernel), rfl, wX3_3⟩
theorem iX3_sign_5 : xl_D mX3_sign 5 (.aload_n 0) 1 6 := ⟨zd zq_0 (by decide +kernel), rfl⟩
theorem iX3_sign_6 : xl_G mX3_sign 6 3 4 9 := ⟨14, zd zq_89 (by decide +kernel), rfl, fX3_14⟩
theorem iX3_sign_9 : xl_D mX3_sign 9 (.bipush 76) 2 11 := ⟨zd zq_503 (by decide +kernel), rfl⟩
theorem iX3_sign_11 : xl_J mX3_sign 11 (fun o => .if_icmp .le o) 14 16 := ⟨5, zd zq_235 (by decide +kernel), rfl, rfl⟩
theorem iX3_sign_14 : xl_D mX3_sign 14 (.iconst (-1)) 1 15 := ⟨zd zq_104 (by decide +kernel), rfl⟩
theorem iX3_sign_15 : xl_D mX3_sign 15 (.ireturn) 1 16 := ⟨zd zq_17 (by decide +kernel), rfl⟩
theorem iX3_sign_16 : xl_D mX3_sign 16 (.iconst 0) 1 17 := ⟨zd zq_2 (by decide +kernel), rfl⟩
theorem iX3_sign_17 : xl_D mX3_sign 17 (.istore_n 2) 1 18 := ⟨zd zq_41 (by decide +kernel), rfl⟩
theorem iX3_sign_18 : xl_D mX3_sign 18 (.iload_n 2) 1 19 := ⟨zd zq_6 (by decide +kernel), rfl⟩
theorem iX3_sign_19 : xl_D mX3_sign 19 (.iconst 4) 1 20 := ⟨zd zq_63 (by decide +kernel), rfl⟩
theorem iX3_sign_20 : xl_J mX3_sign 20 (fun o => .if_icmp .ge o) 23 53 := ⟨33, zd zq_149 (by decide +kernel), rfl, rfl⟩
theorem iX3_sign_23 : xl_D mX3_sign 23 (.aload_n 0) 1 24 := ⟨zd zq_0 (by decide +kernel), rfl⟩
theorem iX3_sign_24 : xl_G mX3_sign 24 3 3 27 := ⟨17, zd zq_504 (by decide +kernel), rfl, fX3_17⟩
theorem iX3_sign_27 : xl_D mX3_sign 27 (.aload_n 0) 1 28 := ⟨zd zq_0 (by decide +kernel), rfl⟩
theorem iX3_sign_28 : xl_G mX3_sign 28 3 4 31 := ⟨14, zd zq_89 (by decide +kernel), rfl, fX3_14⟩
theorem iX3_sign_31 : xl_D mX3_sign 31 (.iload_n 2) 1 32 := ⟨zd zq_6 (by decide +kernel), rfl⟩
theorem iX3_sign_32 : xl_D mX3_sign 32 (.iadd) 1 33 := ⟨zd zq_19 (by decide +kernel), rfl⟩
theorem iX3_sign_33 : xl_D mX3_sign 33 (.iload_n 1) 1 34 := ⟨zd zq_3 (by decide +kernel), rfl⟩
theorem iX3_sign_34 : xl_D mX3_sign 34 (.bipush 24) 2 36 := ⟨zd zq_236 (by decide +kernel), rfl⟩
theorem iX3_sign_36 : xl_D mX3_sign 36 (.bipush 8) 2 38 := ⟨zd zq_76 (by decide +kernel), rfl⟩
theorem iX3_sign_38 : xl_D mX3_sign 38 (.iload_n 2) 1 39 := ⟨zd zq_6 (by decide +kernel), rfl⟩
theorem iX3_sign_39 : xl_D mX3_sign 39 (.imul) 1 40 := ⟨zd zq_10 (by decide +kernel), rfl⟩
theorem iX3_sign_40 : xl_D mX3_sign 40 (.isub) 1 41 := ⟨zd zq_39 (by decide +kernel), rfl⟩
theorem iX3_sign_41 : xl_D mX3_sign 41 (.ishr) 1 42 := ⟨zd zq_505 (by decide +kernel), rfl⟩
theorem iX3_sign_42 : xl_D mX3_sign 42 (.sipush 255) 3 45 := ⟨zd zq_239 (by decide +kernel), rfl⟩
theorem iX3_sign_45 : xl_D mX3_sign 45 (.iand) 1 46 := ⟨zd zq_240 (by decide +kernel), rfl⟩
theorem iX3_sign_46 : xl_D mX3_sign 46 (.iastore) 1 47 := ⟨zd zq_26 (by decide +kernel), rfl⟩
theorem iX3_sign_47 : xl_D mX3_sign 47 (.iinc 2 1) 3 50 := ⟨zd zq_44 (by decide +kernel), rfl⟩
theorem iX3_sign_50 : xl_J mX3_sign 50 (fun o => .goto o) 53 18 := ⟨-32, zd zq_105 (by decide +kernel), rfl, rfl⟩
theorem iX3_sign_53 : xl_D mX3_sign 53 (.aload_n 0) 1 54 := ⟨zd zq_0 (by decide +kernel), rfl⟩
theorem iX3_sign_54 : xl_D mX3_sign 54 (.dup) 1 55 := ⟨zd zq_46 (by decide +kernel), rfl⟩
theorem iX3_sign_55 : xl_G mX3_sign 55 3 4 58 := ⟨14, zd zq_89 (by decide +kernel), rfl, fX3_14⟩
theorem iX3_sign_58 : xl_D mX3_sign 58 (.iconst 4) 1 59 := ⟨zd zq_63 (by decide +kernel), rfl⟩
theorem iX3_sign_59 : xl_D mX3_sign 59 (.iadd) 1 60 := ⟨zd zq_19 (by decide +kernel), rfl⟩
theorem iX3_sign_60 : xl_P mX3_sign 60 3 4 .int 63 := ⟨14, zd zq_66 (by decide +kernel), rfl, wX3_14⟩
theorem iX3_sign_63 : xl_D mX3_sign 63 (.aload_n 0) 1 64 := ⟨zd zq_0 (by decide +kernel), rfl⟩
theorem iX3_sign_64 : xl_G mX3_sign 64 3 4 67 := ⟨14, zd zq_89 (by decide +kernel), rfl, fX3_14⟩
theorem iX3_sign_67 : xl_D mX3_sign 67 (.ireturn) 1 68 := ⟨zd zq_17 (by decide +kernel), rfl⟩
theorem iX3_end_0 : xl_D mX3_end 0 (.aload_n 0) 1 1 := ⟨zd zq_0 (by decide +kernel), rfl⟩
theorem iX3_end_1 : xl_D mX3_end 1 (.iconst 0) 1 2 := ⟨zd zq_2 (by decide +kernel), rfl⟩
theorem iX3_end_2 : xl_P mX3_end 2 3 0 .int 5 := ⟨3, zd zq_502 (by decide +kernel), rfl, wX3_3⟩
theorem iX3_end_5 : xl_D mX3_end 5 (.iload_n 1) 1 6 := ⟨zd zq_3 (by decide +kernel), rfl⟩
theorem iX3_end_6 : xl_D mX3_end 6 (.i2l) 1 7 := ⟨zd zq_266 (by decide +kernel), rfl⟩
theorem iX3_end_7 : xl_D mX3_end 7 (.lconst 0) 1 8 := ⟨zd zq_506 (by decide +kernel), rfl⟩
theorem iX3_end_8 : xl_D mX3_end 8 (.aload_n 0) 1 9 := ⟨zd zq_0 (by decide +kernel), rfl⟩
theorem iX3_end_9 : xl_G mX3_end 9 3 4 12 := ⟨14, zd zq_89 (by decide +kernel), rfl, fX3_14⟩
theorem iX3_end_12 : xl_D mX3_end 12 (.i2l) 1 13 := ⟨zd zq_266 (by decide +kernel), rfl⟩
theorem iX3_end_13 : xl_Cs mX3_end 13 mX3_in 16 := ⟨21, zd zq_507 (by decide +kernel), rfl, lX3_21, Nat.le_of_ble_eq_true rfl, Nat.le_of_ble_eq_true rfl⟩
theorem iX3_end_16 : xl_J mX3_end 16 (fun o => .ifCond .ne o) 19 21 := ⟨5, zd zq_246 (by decide +kernel), rfl, rfl⟩
theorem iX3_end_19 : xl_D mX3_end 19 (.iconst 0) 1 20 := ⟨zd zq_2 (by decide +kernel), rfl⟩
theorem iX3_end_20 : xl_D mX3_end 20 (.ireturn) 1 21 := ⟨zd zq_17 (by decide +kernel), rfl⟩
theorem iX3_end_21 : xl_D mX3_end 21 (.aload_n 0) 1 22 := ⟨zd zq_0 (by decide +kernel), rfl⟩
theorem iX3_end_22 : xl_D mX3_end 22 (.iload_n 1) 1 23 := ⟨zd zq_3 (by decide +kernel), rfl⟩
theorem iX3_end_23 : xl_P mX3_end 23 3 4 .int 26 := ⟨14, zd zq_66 (by decide +kernel), rfl, wX3_14⟩
theorem iX3_end_26 : xl_D mX3_end 26 (.iconst 1) 1 27 := ⟨zd zq_36 (by decide +kernel), rfl⟩
theorem iX3_end_27 : xl_D mX3_end 27 (.ireturn) 1 28 := ⟨zd zq_17 (by decide +kernel), rfl⟩
theorem iX3_reads_0 : xl_D mX3_reads 0 (.aload_n 0) 1 1 := ⟨zd zq_0 (by decide +kernel), rfl⟩
theorem iX3_reads_1 : xl_D mX3_reads 1 (.aload_n 0) 1 2 := ⟨zd zq_0 (by decide +kernel), rfl⟩
theorem iX3_reads_2 : xl_G mX3_reads 2 3 4 5 := ⟨14, zd zq_89 (by decide +kernel), rfl, fX3_14⟩
theorem iX3_reads_5 : xl_P mX3_reads 5 3 6 .int 8 := ⟨25, zd zq_508 (by decide +kernel), rfl, wX3_25⟩
theorem iX3_reads_8 : xl_D mX3_reads 8 (.aload_n 0) 1 9 := ⟨zd zq_0 (by decide +kernel), rfl⟩
theorem iX3_reads_9 : xl_D mX3_reads 9 (.iconst 0) 1 10 := ⟨zd zq_2 (by decide +kernel), rfl⟩
theorem iX3_reads_10 : xl_P mX3_reads 10 3 4 .int 13 := ⟨14, zd zq_66 (by decide +kernel), rfl, wX3_14⟩
theorem iX3_reads_13 : xl_D mX3_reads 13 (.aload_n 0) 1 14 := ⟨zd zq_0 (by decide +kernel), rfl⟩
theorem iX3_reads_14 : xl_D mX3_reads 14 (.iconst 0) 1 15 := ⟨zd zq_2 (by decide +kernel), rfl⟩
theorem iX3_reads_15 : xl_P mX3_reads 15 3 5 .int 18 := ⟨28, zd zq_509 (by decide +kernel), rfl, wX3_28⟩
theorem iX3_reads_18 : xl_D mX3_reads 18 (.return_) 1 19 := ⟨zd zq_12 (by decide +kernel), rfl⟩
theorem iX3_takesOf_0 : xl_D mX3_takesOf 0 (.iconst 0) 1 1 := ⟨zd zq_2 (by decide +kernel), rfl⟩
theorem iX3_takesOf_1 : xl_D mX3_takesOf 1 (.istore_n 2) 1 2 := ⟨zd zq_41 (by decide +kernel), rfl⟩
theorem iX3_takesOf_2 : xl_D mX3_takesOf 2 (.iload_n 2) 1 3 := ⟨zd zq_6 (by decide +kernel), rfl⟩
theorem iX3_takesOf_3 : xl_D mX3_takesOf 3 (.aload_n 1) 1 4 := ⟨zd zq_56 (by decide +kernel), rfl⟩
theorem iX3_takesOf_4 : xl_Ca mX3_takesOf 4 mJ0_length_8abf5 7 := ⟨31, zd zq_510 (by decide +kernel), rfl, lX3_31, Nat.le_of_ble_eq_true rfl, Nat.le_of_ble_eq_true rfl⟩
theorem iX3_takesOf_7 : xl_J mX3_takesOf 7 (fun o => .if_icmp .ge o) 10 56 := ⟨49, zd zq_511 (by decide +kernel), rfl, rfl⟩
theorem iX3_takesOf_10 : xl_D mX3_takesOf 10 (.aload_n 0) 1 11 := ⟨zd zq_0 (by decide +kernel), rfl⟩
theorem iX3_takesOf_11 : xl_G mX3_takesOf 11 3 5 14 := ⟨28, zd zq_512 (by decide +kernel), rfl, fX3_28⟩
theorem iX3_takesOf_14 : xl_D mX3_takesOf 14 (.aload_n 0) 1 15 := ⟨zd zq_0 (by decide +kernel), rfl⟩
theorem iX3_takesOf_15 : xl_G mX3_takesOf 15 3 6 18 := ⟨25, zd zq_513 (by decide +kernel), rfl, fX3_25⟩
theorem iX3_takesOf_18 : xl_J mX3_takesOf 18 (fun o => .if_icmp .ge o) 21 56 := ⟨38, zd zq_316 (by decide +kernel), rfl, rfl⟩
theorem iX3_takesOf_21 : xl_D mX3_takesOf 21 (.aload_n 1) 1 22 := ⟨zd zq_56 (by decide +kernel), rfl⟩
theorem iX3_takesOf_22 : xl_D mX3_takesOf 22 (.iload_n 2) 1 23 := ⟨zd zq_6 (by decide +kernel), rfl⟩
theorem iX3_takesOf_23 : xl_Ca mX3_takesOf 23 mJ0_charAt_5068e 26 := ⟨37, zd zq_514 (by decide +kernel), rfl, lX3_37, Nat.le_of_ble_eq_true rfl, Nat.le_of_ble_eq_true rfl⟩
theorem iX3_takesOf_26 : xl_D mX3_takesOf 26 (.aload_n 0) 1 27 := ⟨zd zq_0 (by decide +kernel), rfl⟩
theorem iX3_takesOf_27 : xl_G mX3_takesOf 27 3 3 30 := ⟨17, zd zq_504 (by decide +kernel), rfl, fX3_17⟩
theorem iX3_takesOf_30 : xl_D mX3_takesOf 30 (.aload_n 0) 1 31 := ⟨zd zq_0 (by decide +kernel), rfl⟩
theorem iX3_takesOf_31 : xl_G mX3_takesOf 31 3 5 34 := ⟨28, zd zq_512 (by decide +kernel), rfl, fX3_28⟩
theorem iX3_takesOf_34 : xl_D mX3_takesOf 34 (.iaload) 1 35 := ⟨zd zq_20 (by decide +kernel), rfl⟩
theorem iX3_takesOf_35 : xl_J mX3_takesOf 35 (fun o => .if_icmp .ne o) 38 50 := ⟨15, zd zq_515 (by decide +kernel), rfl, rfl⟩
theorem iX3_takesOf_38 : xl_D mX3_takesOf 38 (.aload_n 0) 1 39 := ⟨zd zq_0 (by decide +kernel), rfl⟩
theorem iX3_takesOf_39 : xl_D mX3_takesOf 39 (.dup) 1 40 := ⟨zd zq_46 (by decide +kernel), rfl⟩
theorem iX3_takesOf_40 : xl_G mX3_takesOf 40 3 5 43 := ⟨28, zd zq_512 (by decide +kernel), rfl, fX3_28⟩
theorem iX3_takesOf_43 : xl_D mX3_takesOf 43 (.iconst 1) 1 44 := ⟨zd zq_36 (by decide +kernel), rfl⟩
theorem iX3_takesOf_44 : xl_D mX3_takesOf 44 (.iadd) 1 45 := ⟨zd zq_19 (by decide +kernel), rfl⟩
theorem iX3_takesOf_45 : xl_P mX3_takesOf 45 3 5 .int 48 := ⟨28, zd zq_509 (by decide +kernel), rfl, wX3_28⟩
theorem iX3_takesOf_48 : xl_D mX3_takesOf 48 (.iload_n 2) 1 49 := ⟨zd zq_6 (by decide +kernel), rfl⟩
theorem iX3_takesOf_49 : xl_D mX3_takesOf 49 (.ireturn) 1 50 := ⟨zd zq_17 (by decide +kernel), rfl⟩
theorem iX3_takesOf_50 : xl_D mX3_takesOf 50 (.iinc 2 1) 3 53 := ⟨zd zq_44 (by decide +kernel), rfl⟩
theorem iX3_takesOf_53 : xl_J mX3_takesOf 53 (fun o => .goto o) 56 2 := ⟨-51, zd zq_516 (by decide +kernel), rfl, rfl⟩
theorem iX3_takesOf_56 : xl_D mX3_takesOf 56 (.iconst (-1)) 1 57 := ⟨zd zq_104 (by decide +kernel), rfl⟩
theorem iX3_takesOf_57 : xl_D mX3_takesOf 57 (.ireturn) 1 58 := ⟨zd zq_17 (by decide +kernel), rfl⟩
theorem iX3_digits_0 : xl_D mX3_digits 0 (.iconst 0) 1 1 := ⟨zd zq_2 (by decide +kernel), rfl⟩
theorem iX3_digits_1 : xl_D mX3_digits 1 (.istore_n 2) 1 2 := ⟨zd zq_41 (by decide +kernel), rfl⟩
theorem iX3_digits_2 : xl_D mX3_digits 2 (.iconst 0) 1 3 := ⟨zd zq_2 (by decide +kernel), rfl⟩
theorem iX3_digits_3 : xl_D mX3_digits 3 (.istore_n 3) 1 4 := ⟨zd zq_131 (by decide +kernel), rfl⟩
theorem iX3_digits_4 : xl_D mX3_digits 4 (.iload_n 3) 1 5 := ⟨zd zq_25 (by decide +kernel), rfl⟩
theorem iX3_digits_5 : xl_D mX3_digits 5 (.iload_n 1) 1 6 := ⟨zd zq_3 (by decide +kernel), rfl⟩
theorem iX3_digits_6 : xl_J mX3_digits 6 (fun o => .if_icmp .ge o) 9 44 := ⟨38, zd zq_316 (by decide +kernel), rfl, rfl⟩
theorem iX3_digits_9 : xl_D mX3_digits 9 (.iload_n 2) 1 10 := ⟨zd zq_6 (by decide +kernel), rfl⟩
theorem iX3_digits_10 : xl_J mX3_digits 10 (fun o => .ifCond .lt o) 13 44 := ⟨34, zd zq_517 (by decide +kernel), rfl, rfl⟩
theorem iX3_digits_13 : xl_D mX3_digits 13 (.aload_n 0) 1 14 := ⟨zd zq_0 (by decide +kernel), rfl⟩
theorem iX3_digits_14 : xl_D mX3_digits 14 (.ldc 41) 2 16 := ⟨zd zq_518 (by decide +kernel), rfl⟩
theorem iX3_digits_16 : xl_Ca mX3_digits 16 mX3_takesOf 19 := ⟨43, zd zq_519 (by decide +kernel), rfl, lX3_43, Nat.le_of_ble_eq_true rfl, Nat.le_of_ble_eq_true rfl⟩
theorem iX3_digits_19 : xl_D mX3_digits 19 (.istore 4) 2 21 := ⟨zd zq_50 (by decide +kernel), rfl⟩
theorem iX3_digits_21 : xl_D mX3_digits 21 (.iload 4) 2 23 := ⟨zd zq_51 (by decide +kernel), rfl⟩
theorem iX3_digits_23 : xl_J mX3_digits 23 (fun o => .ifCond .ge o) 26 30 := ⟨7, zd zq_285 (by decide +kernel), rfl, rfl⟩
theorem iX3_digits_26 : xl_D mX3_digits 26 (.iconst (-1)) 1 27 := ⟨zd zq_104 (by decide +kernel), rfl⟩
theorem iX3_digits_27 : xl_J mX3_digits 27 (fun o => .goto o) 30 37 := ⟨10, zd zq_368 (by decide +kernel), rfl, rfl⟩
theorem iX3_digits_30 : xl_D mX3_digits 30 (.bipush 10) 2 32 := ⟨zd zq_78 (by decide +kernel), rfl⟩
theorem iX3_digits_32 : xl_D mX3_digits 32 (.iload_n 2) 1 33 := ⟨zd zq_6 (by decide +kernel), rfl⟩
theorem iX3_digits_33 : xl_D mX3_digits 33 (.imul) 1 34 := ⟨zd zq_10 (by decide +kernel), rfl⟩
theorem iX3_digits_34 : xl_D mX3_digits 34 (.iload 4) 2 36 := ⟨zd zq_51 (by decide +kernel), rfl⟩
theorem iX3_digits_36 : xl_D mX3_digits 36 (.iadd) 1 37 := ⟨zd zq_19 (by decide +kernel), rfl⟩
theorem iX3_digits_37 : xl_D mX3_digits 37 (.istore_n 2) 1 38 := ⟨zd zq_41 (by decide +kernel), rfl⟩
theorem iX3_digits_38 : xl_D mX3_digits 38 (.iinc 3 1) 3 41 := ⟨zd zq_153 (by decide +kernel), rfl⟩
theorem iX3_digits_41 : xl_J mX3_digits 41 (fun o => .goto o) 44 4 := ⟨-37, zd zq_520 (by decide +kernel), rfl, rfl⟩
theorem iX3_digits_44 : xl_D mX3_digits 44 (.iload_n 2) 1 45 := ⟨zd zq_6 (by decide +kernel), rfl⟩
theorem iX3_digits_45 : xl_D mX3_digits 45 (.ireturn) 1 46 := ⟨zd zq_17 (by decide +kernel), rfl⟩
theorem iX3_init_0 : xl_D mX3_init 0 (.aload_n 0) 1 1 := ⟨zd zq_0 (by decide +kernel), rfl⟩
theorem iX3_init_1 : xl_D mX3_init 1 (.invokespecial 47) 3 4 := ⟨zd zq_521 (by decide +kernel), rfl⟩
theorem iX3_init_4 : xl_D mX3_init 4 (.aload_n 0) 1 5 := ⟨zd zq_0 (by decide +kernel), rfl⟩
theorem iX3_init_5 : xl_D mX3_init 5 (.bipush 16) 2 7 := ⟨zd zq_493 (by decide +kernel), rfl⟩
theorem iX3_init_7 : xl_D mX3_init 7 (.newarray .long) 2 9 := ⟨by decide +kernel, rfl⟩
theorem iX3_init_12 : xl_D mX3_init 12 (.aload_n 0) 1 13 := ⟨zd zq_0 (by decide +kernel), rfl⟩
theorem iX3_init_13 : xl_D mX3_init 13 (.bipush 80) 2 15 := ⟨zd zq_229 (by decide +kernel), rfl⟩
theorem iX3_init_15 : xl_D mX3_init 15 (.newarray .int) 2 17 := ⟨by decide +kernel, rfl⟩
theorem iX3_init_20 : xl_D mX3_init 20 (.aload_n 0) 1 21 := ⟨zd zq_0 (by decide +kernel), rfl⟩
theorem iX3_init_21 : xl_D mX3_init 21 (.sipush 30844) 3 24 := ⟨zd zq_524 (by decide +kernel), rfl⟩
theorem iX3_init_24 : xl_D mX3_init 24 (.newarray .int) 2 26 := ⟨by decide +kernel, rfl⟩
theorem iX3_init_29 : xl_D mX3_init 29 (.aload_n 0) 1 30 := ⟨zd zq_0 (by decide +kernel), rfl⟩
theorem iX3_init_30 : xl_D mX3_init 30 (.bipush 7) 2 32 := ⟨zd zq_68 (by decide +kernel), rfl⟩
theorem iX3_init_32 : xl_D mX3_init 32 (.newarray .int) 2 34 := ⟨by decide +kernel, rfl⟩
theorem iX3_init_37 : xl_D mX3_init 37 (.aload_n 0) 1 38 := ⟨zd zq_0 (by decide +kernel), rfl⟩
theorem iX3_init_38 : xl_D mX3_init 38 (.bipush 80) 2 40 := ⟨zd zq_229 (by decide +kernel), rfl⟩
theorem iX3_init_40 : xl_D mX3_init 40 (.newarray .int) 2 42 := ⟨by decide +kernel, rfl⟩
theorem iX3_init_45 : xl_D mX3_init 45 (.aload_n 0) 1 46 := ⟨zd zq_0 (by decide +kernel), rfl⟩
theorem iX3_init_46 : xl_D mX3_init 46 (.bipush 80) 2 48 := ⟨zd zq_229 (by decide +kernel), rfl⟩
theorem iX3_init_48 : xl_D mX3_init 48 (.newarray .int) 2 50 := ⟨by decide +kernel, rfl⟩
theorem iX3_init_53 : xl_D mX3_init 53 (.aload_n 0) 1 54 := ⟨zd zq_0 (by decide +kernel), rfl⟩
theorem iX3_init_54 : xl_D mX3_init 54 (.bipush 80) 2 56 := ⟨zd zq_229 (by decide +kernel), rfl⟩
theorem iX3_init_56 : xl_D mX3_init 56 (.newarray .int) 2 58 := ⟨by decide +kernel, rfl⟩
theorem iX3_init_61 : xl_D mX3_init 61 (.aload_n 0) 1 62 := ⟨zd zq_0 (by decide +kernel), rfl⟩
theorem iX3_init_62 : xl_D mX3_init 62 (.bipush 80) 2 64 := ⟨zd zq_229 (by decide +kernel), rfl⟩
theorem iX3_init_64 : xl_D mX3_init 64 (.newarray .int) 2 66 := ⟨by decide +kernel, rfl⟩
theorem iX3_init_69 : xl_D mX3_init 69 (.aload_n 0) 1 70 := ⟨zd zq_0 (by decide +kernel), rfl⟩
theorem iX3_init_70 : xl_D mX3_init 70 (.sipush 160) 3 73 := ⟨zd zq_74 (by decide +kernel), rfl⟩
theorem iX3_init_73 : xl_D mX3_init 73 (.newarray .int) 2 75 := ⟨by decide +kernel, rfl⟩
theorem iX3_init_78 : xl_D mX3_init 78 (.aload_n 0) 1 79 := ⟨zd zq_0 (by decide +kernel), rfl⟩
theorem iX3_init_79 : xl_D mX3_init 79 (.sipush 160) 3 82 := ⟨zd zq_74 (by decide +kernel), rfl⟩
theorem iX3_init_82 : xl_D mX3_init 82 (.newarray .int) 2 84 := ⟨by decide +kernel, rfl⟩
theorem iX3_init_87 : xl_D mX3_init 87 (.aload_n 0) 1 88 := ⟨zd zq_0 (by decide +kernel), rfl⟩
theorem iX3_init_88 : xl_D mX3_init 88 (.bipush 80) 2 90 := ⟨zd zq_229 (by decide +kernel), rfl⟩
theorem iX3_init_90 : xl_D mX3_init 90 (.newarray .int) 2 92 := ⟨by decide +kernel, rfl⟩
theorem iX3_init_95 : xl_D mX3_init 95 (.aload_n 0) 1 96 := ⟨zd zq_0 (by decide +kernel), rfl⟩
theorem iX3_init_96 : xl_D mX3_init 96 (.iconst 2) 1 97 := ⟨zd zq_127 (by decide +kernel), rfl⟩
theorem iX3_init_97 : xl_D mX3_init 97 (.newarray .boolean) 2 99 := ⟨by decide +kernel, rfl⟩
theorem iX3_init_102 : xl_D mX3_init 102 (.aload_n 0) 1 103 := ⟨zd zq_0 (by decide +kernel), rfl⟩
theorem iX3_init_103 : xl_D mX3_init 103 (.iconst 0) 1 104 := ⟨zd zq_2 (by decide +kernel), rfl⟩
theorem iX3_init_104 : xl_D mX3_init 104 (.iconst 1) 1 105 := ⟨zd zq_36 (by decide +kernel), rfl⟩
theorem iX3_init_105 : xl_D mX3_init 105 (.bipush 10) 2 107 := ⟨zd zq_78 (by decide +kernel), rfl⟩
theorem iX3_init_107 : xl_D mX3_init 107 (.iconst 5) 1 108 := ⟨zd zq_64 (by decide +kernel), rfl⟩
theorem iX3_init_108 : xl_D mX3_init 108 (.iconst 0) 1 109 := ⟨zd zq_2 (by decide +kernel), rfl⟩
theorem iX3_init_109 : xl_Ca mX3_init 109 mX3_starts 112 := ⟨84, zd zq_535 (by decide +kernel), rfl, lX3_84, Nat.le_of_ble_eq_true rfl, Nat.le_of_ble_eq_true rfl⟩
theorem iX3_init_112 : xl_D mX3_init 112 (.return_) 1 113 := ⟨zd zq_12 (by decide +kernel), rfl⟩
theorem iX3_copies_0 : xl_D mX3_copies 0 (.iconst 0) 1 1 := ⟨zd zq_2 (by decide +kernel), rfl⟩
theorem iX3_copies_1 : xl_D mX3_copies 1 (.istore_n 3) 1 2 := ⟨zd zq_131 (by decide +kernel), rfl⟩
theorem iX3_copies_2 : xl_D mX3_copies 2 (.iload_n 3) 1 3 := ⟨zd zq_25 (by decide +kernel), rfl⟩
theorem iX3_copies_3 : xl_D mX3_copies 3 (.sipush 2804) 3 6 := ⟨zd zq_536 (by decide +kernel), rfl⟩
theorem iX3_copies_6 : xl_J mX3_copies 6 (fun o => .if_icmp .ge o) 9 39 := ⟨33, zd zq_149 (by decide +kernel), rfl, rfl⟩
theorem iX3_copies_9 : xl_D mX3_copies 9 (.aload_n 0) 1 10 := ⟨zd zq_0 (by decide +kernel), rfl⟩
theorem iX3_copies_10 : xl_G mX3_copies 10 3 7 13 := ⟨53, zd zq_537 (by decide +kernel), rfl, fX3_53⟩
theorem iX3_copies_13 : xl_D mX3_copies 13 (.iload_n 2) 1 14 := ⟨zd zq_6 (by decide +kernel), rfl⟩
theorem iX3_copies_14 : xl_D mX3_copies 14 (.sipush 2804) 3 17 := ⟨zd zq_536 (by decide +kernel), rfl⟩
theorem iX3_copies_17 : xl_D mX3_copies 17 (.imul) 1 18 := ⟨zd zq_10 (by decide +kernel), rfl⟩
theorem iX3_copies_18 : xl_D mX3_copies 18 (.iload_n 3) 1 19 := ⟨zd zq_25 (by decide +kernel), rfl⟩
theorem iX3_copies_19 : xl_D mX3_copies 19 (.iadd) 1 20 := ⟨zd zq_19 (by decide +kernel), rfl⟩
theorem iX3_copies_20 : xl_D mX3_copies 20 (.aload_n 0) 1 21 := ⟨zd zq_0 (by decide +kernel), rfl⟩
theorem iX3_copies_21 : xl_G mX3_copies 21 3 7 24 := ⟨53, zd zq_537 (by decide +kernel), rfl, fX3_53⟩
theorem iX3_copies_24 : xl_D mX3_copies 24 (.iload_n 1) 1 25 := ⟨zd zq_3 (by decide +kernel), rfl⟩
theorem iX3_copies_25 : xl_D mX3_copies 25 (.sipush 2804) 3 28 := ⟨zd zq_536 (by decide +kernel), rfl⟩
theorem iX3_copies_28 : xl_D mX3_copies 28 (.imul) 1 29 := ⟨zd zq_10 (by decide +kernel), rfl⟩
theorem iX3_copies_29 : xl_D mX3_copies 29 (.iload_n 3) 1 30 := ⟨zd zq_25 (by decide +kernel), rfl⟩
theorem iX3_copies_30 : xl_D mX3_copies 30 (.iadd) 1 31 := ⟨zd zq_19 (by decide +kernel), rfl⟩
theorem iX3_copies_31 : xl_D mX3_copies 31 (.iaload) 1 32 := ⟨zd zq_20 (by decide +kernel), rfl⟩
theorem iX3_copies_32 : xl_D mX3_copies 32 (.iastore) 1 33 := ⟨zd zq_26 (by decide +kernel), rfl⟩
theorem iX3_copies_33 : xl_D mX3_copies 33 (.iinc 3 1) 3 36 := ⟨zd zq_153 (by decide +kernel), rfl⟩
theorem iX3_copies_36 : xl_J mX3_copies 36 (fun o => .goto o) 39 2 := ⟨-34, zd zq_171 (by decide +kernel), rfl, rfl⟩
theorem iX3_copies_39 : xl_D mX3_copies 39 (.return_) 1 40 := ⟨zd zq_12 (by decide +kernel), rfl⟩
theorem iX3_starts_0 : xl_D mX3_starts 0 (.iconst 0) 1 1 := ⟨zd zq_2 (by decide +kernel), rfl⟩
theorem iX3_starts_1 : xl_D mX3_starts 1 (.istore 6) 2 3 := ⟨zd zq_119 (by decide +kernel), rfl⟩
theorem iX3_starts_3 : xl_D mX3_starts 3 (.iload 6) 2 5 := ⟨zd zq_125 (by decide +kernel), rfl⟩
theorem iX3_starts_5 : xl_D mX3_starts 5 (.sipush 2804) 3 8 := ⟨zd zq_536 (by decide +kernel), rfl⟩
theorem iX3_starts_8 : xl_J mX3_starts 8 (fun o => .if_icmp .ge o) 11 31 := ⟨23, zd zq_52 (by decide +kernel), rfl, rfl⟩
theorem iX3_starts_11 : xl_D mX3_starts 11 (.aload_n 0) 1 12 := ⟨zd zq_0 (by decide +kernel), rfl⟩
theorem iX3_starts_12 : xl_G mX3_starts 12 3 7 15 := ⟨53, zd zq_537 (by decide +kernel), rfl, fX3_53⟩
theorem iX3_starts_15 : xl_D mX3_starts 15 (.iload_n 1) 1 16 := ⟨zd zq_3 (by decide +kernel), rfl⟩
theorem iX3_starts_16 : xl_D mX3_starts 16 (.sipush 2804) 3 19 := ⟨zd zq_536 (by decide +kernel), rfl⟩
theorem iX3_starts_19 : xl_D mX3_starts 19 (.imul) 1 20 := ⟨zd zq_10 (by decide +kernel), rfl⟩
theorem iX3_starts_20 : xl_D mX3_starts 20 (.iload 6) 2 22 := ⟨zd zq_125 (by decide +kernel), rfl⟩
theorem iX3_starts_22 : xl_D mX3_starts 22 (.iadd) 1 23 := ⟨zd zq_19 (by decide +kernel), rfl⟩
theorem iX3_starts_23 : xl_D mX3_starts 23 (.iconst 0) 1 24 := ⟨zd zq_2 (by decide +kernel), rfl⟩
theorem iX3_starts_24 : xl_D mX3_starts 24 (.iastore) 1 25 := ⟨zd zq_26 (by decide +kernel), rfl⟩
theorem iX3_starts_25 : xl_D mX3_starts 25 (.iinc 6 1) 3 28 := ⟨zd zq_406 (by decide +kernel), rfl⟩
theorem iX3_starts_28 : xl_J mX3_starts 28 (fun o => .goto o) 31 3 := ⟨-25, zd zq_538 (by decide +kernel), rfl, rfl⟩
theorem iX3_starts_31 : xl_D mX3_starts 31 (.iconst 0) 1 32 := ⟨zd zq_2 (by decide +kernel), rfl⟩
theorem iX3_starts_32 : xl_D mX3_starts 32 (.istore 6) 2 34 := ⟨zd zq_119 (by decide +kernel), rfl⟩
theorem iX3_starts_34 : xl_D mX3_starts 34 (.iload 6) 2 36 := ⟨zd zq_125 (by decide +kernel), rfl⟩
theorem iX3_starts_36 : xl_D mX3_starts 36 (.bipush 6) 2 38 := ⟨zd zq_71 (by decide +kernel), rfl⟩
theorem iX3_starts_38 : xl_J mX3_starts 38 (fun o => .if_icmp .ge o) 41 64 := ⟨26, zd zq_467 (by decide +kernel), rfl, rfl⟩
theorem iX3_starts_41 : xl_D mX3_starts 41 (.aload_n 0) 1 42 := ⟨zd zq_0 (by decide +kernel), rfl⟩
theorem iX3_starts_42 : xl_G mX3_starts 42 3 7 45 := ⟨53, zd zq_537 (by decide +kernel), rfl, fX3_53⟩
theorem iX3_starts_45 : xl_D mX3_starts 45 (.iload_n 1) 1 46 := ⟨zd zq_3 (by decide +kernel), rfl⟩
theorem iX3_starts_46 : xl_D mX3_starts 46 (.sipush 2804) 3 49 := ⟨zd zq_536 (by decide +kernel), rfl⟩
theorem iX3_starts_49 : xl_D mX3_starts 49 (.imul) 1 50 := ⟨zd zq_10 (by decide +kernel), rfl⟩
theorem iX3_starts_50 : xl_D mX3_starts 50 (.bipush 54) 2 52 := ⟨zd zq_539 (by decide +kernel), rfl⟩
theorem iX3_starts_52 : xl_D mX3_starts 52 (.iadd) 1 53 := ⟨zd zq_19 (by decide +kernel), rfl⟩
theorem iX3_starts_53 : xl_D mX3_starts 53 (.iload 6) 2 55 := ⟨zd zq_125 (by decide +kernel), rfl⟩
theorem iX3_starts_55 : xl_D mX3_starts 55 (.iadd) 1 56 := ⟨zd zq_19 (by decide +kernel), rfl⟩
theorem iX3_starts_56 : xl_D mX3_starts 56 (.iconst (-1)) 1 57 := ⟨zd zq_104 (by decide +kernel), rfl⟩
theorem iX3_starts_57 : xl_D mX3_starts 57 (.iastore) 1 58 := ⟨zd zq_26 (by decide +kernel), rfl⟩
theorem iX3_starts_58 : xl_D mX3_starts 58 (.iinc 6 1) 3 61 := ⟨zd zq_406 (by decide +kernel), rfl⟩
theorem iX3_starts_61 : xl_J mX3_starts 61 (fun o => .goto o) 64 34 := ⟨-27, zd zq_540 (by decide +kernel), rfl, rfl⟩
theorem iX3_starts_64 : xl_D mX3_starts 64 (.iconst 0) 1 65 := ⟨zd zq_2 (by decide +kernel), rfl⟩
theorem iX3_starts_65 : xl_D mX3_starts 65 (.istore 6) 2 67 := ⟨zd zq_119 (by decide +kernel), rfl⟩
theorem iX3_starts_67 : xl_D mX3_starts 67 (.iload 6) 2 69 := ⟨zd zq_125 (by decide +kernel), rfl⟩
theorem iX3_starts_69 : xl_D mX3_starts 69 (.iconst 4) 1 70 := ⟨zd zq_63 (by decide +kernel), rfl⟩
theorem iX3_starts_70 : xl_J mX3_starts 70 (fun o => .if_icmp .ge o) 73 97 := ⟨27, zd zq_541 (by decide +kernel), rfl, rfl⟩
theorem iX3_starts_73 : xl_D mX3_starts 73 (.aload_n 0) 1 74 := ⟨zd zq_0 (by decide +kernel), rfl⟩
theorem iX3_starts_74 : xl_G mX3_starts 74 3 7 77 := ⟨53, zd zq_537 (by decide +kernel), rfl, fX3_53⟩
theorem iX3_starts_77 : xl_D mX3_starts 77 (.iload_n 1) 1 78 := ⟨zd zq_3 (by decide +kernel), rfl⟩
theorem iX3_starts_78 : xl_D mX3_starts 78 (.sipush 2804) 3 81 := ⟨zd zq_536 (by decide +kernel), rfl⟩
theorem iX3_starts_81 : xl_D mX3_starts 81 (.imul) 1 82 := ⟨zd zq_10 (by decide +kernel), rfl⟩
theorem iX3_starts_82 : xl_D mX3_starts 82 (.bipush 16) 2 84 := ⟨zd zq_493 (by decide +kernel), rfl⟩
theorem iX3_starts_84 : xl_D mX3_starts 84 (.iadd) 1 85 := ⟨zd zq_19 (by decide +kernel), rfl⟩
theorem iX3_starts_85 : xl_D mX3_starts 85 (.iload 6) 2 87 := ⟨zd zq_125 (by decide +kernel), rfl⟩
theorem iX3_starts_87 : xl_D mX3_starts 87 (.iadd) 1 88 := ⟨zd zq_19 (by decide +kernel), rfl⟩
theorem iX3_starts_88 : xl_D mX3_starts 88 (.bipush 20) 2 90 := ⟨zd zq_96 (by decide +kernel), rfl⟩
theorem iX3_starts_90 : xl_D mX3_starts 90 (.iastore) 1 91 := ⟨zd zq_26 (by decide +kernel), rfl⟩
theorem iX3_starts_91 : xl_D mX3_starts 91 (.iinc 6 1) 3 94 := ⟨zd zq_406 (by decide +kernel), rfl⟩
theorem iX3_starts_94 : xl_J mX3_starts 94 (fun o => .goto o) 97 67 := ⟨-27, zd zq_540 (by decide +kernel), rfl, rfl⟩
theorem iX3_starts_97 : xl_D mX3_starts 97 (.aload_n 0) 1 98 := ⟨zd zq_0 (by decide +kernel), rfl⟩
theorem iX3_starts_98 : xl_D mX3_starts 98 (.iload_n 1) 1 99 := ⟨zd zq_3 (by decide +kernel), rfl⟩
theorem iX3_starts_99 : xl_D mX3_starts 99 (.iconst 0) 1 100 := ⟨zd zq_2 (by decide +kernel), rfl⟩
theorem iX3_starts_100 : xl_D mX3_starts 100 (.iload_n 2) 1 101 := ⟨zd zq_6 (by decide +kernel), rfl⟩
theorem iX3_starts_101 : xl_Ca mX3_starts 101 mX3_puts 104 := ⟨88, zd zq_542 (by decide +kernel), rfl, lX3_88, Nat.le_of_ble_eq_true rfl, Nat.le_of_ble_eq_true rfl⟩
theorem iX3_starts_104 : xl_D mX3_starts 104 (.aload_n 0) 1 105 := ⟨zd zq_0 (by decide +kernel), rfl⟩
theorem iX3_starts_105 : xl_D mX3_starts 105 (.iload_n 1) 1 106 := ⟨zd zq_3 (by decide +kernel), rfl⟩
theorem iX3_starts_106 : xl_D mX3_starts 106 (.iconst 1) 1 107 := ⟨zd zq_36 (by decide +kernel), rfl⟩
theorem iX3_starts_107 : xl_D mX3_starts 107 (.iload_n 3) 1 108 := ⟨zd zq_25 (by decide +kernel), rfl⟩
theorem iX3_starts_108 : xl_Ca mX3_starts 108 mX3_puts 111 := ⟨88, zd zq_542 (by decide +kernel), rfl, lX3_88, Nat.le_of_ble_eq_true rfl, Nat.le_of_ble_eq_true rfl⟩
theorem iX3_starts_111 : xl_D mX3_starts 111 (.aload_n 0) 1 112 := ⟨zd zq_0 (by decide +kernel), rfl⟩
theorem iX3_starts_112 : xl_D mX3_starts 112 (.iload_n 1) 1 113 := ⟨zd zq_3 (by decide +kernel), rfl⟩
theorem iX3_starts_113 : xl_D mX3_starts 113 (.iconst 2) 1 114 := ⟨zd zq_127 (by decide +kernel), rfl⟩
theorem iX3_starts_114 : xl_D mX3_starts 114 (.iload 4) 2 116 := ⟨zd zq_51 (by decide +kernel), rfl⟩
theorem iX3_starts_116 : xl_Ca mX3_starts 116 mX3_puts 119 := ⟨88, zd zq_542 (by decide +kernel), rfl, lX3_88, Nat.le_of_ble_eq_true rfl, Nat.le_of_ble_eq_true rfl⟩
theorem iX3_starts_119 : xl_D mX3_starts 119 (.aload_n 0) 1 120 := ⟨zd zq_0 (by decide +kernel), rfl⟩
theorem iX3_starts_120 : xl_D mX3_starts 120 (.iload_n 1) 1 121 := ⟨zd zq_3 (by decide +kernel), rfl⟩
theorem iX3_starts_121 : xl_D mX3_starts 121 (.iconst 3) 1 122 := ⟨zd zq_123 (by decide +kernel), rfl⟩
theorem iX3_starts_122 : xl_D mX3_starts 122 (.iload 5) 2 124 := ⟨zd zq_92 (by decide +kernel), rfl⟩
theorem iX3_starts_124 : xl_Ca mX3_starts 124 mX3_puts 127 := ⟨88, zd zq_542 (by decide +kernel), rfl, lX3_88, Nat.le_of_ble_eq_true rfl, Nat.le_of_ble_eq_true rfl⟩
theorem iX3_starts_127 : xl_D mX3_starts 127 (.return_) 1 128 := ⟨zd zq_12 (by decide +kernel), rfl⟩
theorem iX3_of_0 : xl_D mX3_of 0 (.aload_n 0) 1 1 := ⟨zd zq_0 (by decide +kernel), rfl⟩
theorem iX3_of_1 : xl_G mX3_of 1 3 7 4 := ⟨53, zd zq_537 (by decide +kernel), rfl, fX3_53⟩
theorem iX3_of_4 : xl_D mX3_of 4 (.iload_n 1) 1 5 := ⟨zd zq_3 (by decide +kernel), rfl⟩
theorem iX3_of_5 : xl_D mX3_of 5 (.sipush 2804) 3 8 := ⟨zd zq_536 (by decide +kernel), rfl⟩
theorem iX3_of_8 : xl_D mX3_of 8 (.imul) 1 9 := ⟨zd zq_10 (by decide +kernel), rfl⟩
theorem iX3_of_9 : xl_D mX3_of 9 (.iload_n 2) 1 10 := ⟨zd zq_6 (by decide +kernel), rfl⟩
theorem iX3_of_10 : xl_D mX3_of 10 (.iadd) 1 11 := ⟨zd zq_19 (by decide +kernel), rfl⟩
theorem iX3_of_11 : xl_D mX3_of 11 (.iaload) 1 12 := ⟨zd zq_20 (by decide +kernel), rfl⟩
theorem iX3_of_12 : xl_D mX3_of 12 (.ireturn) 1 13 := ⟨zd zq_17 (by decide +kernel), rfl⟩
theorem iX3_puts_0 : xl_D mX3_puts 0 (.aload_n 0) 1 1 := ⟨zd zq_0 (by decide +kernel), rfl⟩
theorem iX3_puts_1 : xl_G mX3_puts 1 3 7 4 := ⟨53, zd zq_537 (by decide +kernel), rfl, fX3_53⟩
theorem iX3_puts_4 : xl_D mX3_puts 4 (.iload_n 1) 1 5 := ⟨zd zq_3 (by decide +kernel), rfl⟩
theorem iX3_puts_5 : xl_D mX3_puts 5 (.sipush 2804) 3 8 := ⟨zd zq_536 (by decide +kernel), rfl⟩
theorem iX3_puts_8 : xl_D mX3_puts 8 (.imul) 1 9 := ⟨zd zq_10 (by decide +kernel), rfl⟩
theorem iX3_puts_9 : xl_D mX3_puts 9 (.iload_n 2) 1 10 := ⟨zd zq_6 (by decide +kernel), rfl⟩
theorem iX3_puts_10 : xl_D mX3_puts 10 (.iadd) 1 11 := ⟨zd zq_19 (by decide +kernel), rfl⟩
theorem iX3_puts_11 : xl_D mX3_puts 11 (.iload_n 3) 1 12 := ⟨zd zq_25 (by decide +kernel), rfl⟩
theorem iX3_puts_12 : xl_D mX3_puts 12 (.iastore) 1 13 := ⟨zd zq_26 (by decide +kernel), rfl⟩
theorem iX3_puts_13 : xl_D mX3_puts 13 (.return_) 1 14 := ⟨zd zq_12 (by decide +kernel), rfl⟩
theorem iX3_adds_0 : xl_D mX3_adds 0 (.aload_n 0) 1 1 := ⟨zd zq_0 (by decide +kernel), rfl⟩
theorem iX3_adds_1 : xl_G mX3_adds 1 3 7 4 := ⟨53, zd zq_537 (by decide +kernel), rfl, fX3_53⟩
theorem iX3_adds_4 : xl_D mX3_adds 4 (.iload_n 1) 1 5 := ⟨zd zq_3 (by decide +kernel), rfl⟩
theorem iX3_adds_5 : xl_D mX3_adds 5 (.sipush 2804) 3 8 := ⟨zd zq_536 (by decide +kernel), rfl⟩
theorem iX3_adds_8 : xl_D mX3_adds 8 (.imul) 1 9 := ⟨zd zq_10 (by decide +kernel), rfl⟩
theorem iX3_adds_9 : xl_D mX3_adds 9 (.iload_n 2) 1 10 := ⟨zd zq_6 (by decide +kernel), rfl⟩
theorem iX3_adds_10 : xl_D mX3_adds 10 (.iadd) 1 11 := ⟨zd zq_19 (by decide +kernel), rfl⟩
theorem iX3_adds_11 : xl_D mX3_adds 11 (.dup2) 1 12 := ⟨zd zq_31 (by decide +kernel), rfl⟩
theorem iX3_adds_12 : xl_D mX3_adds 12 (.iaload) 1 13 := ⟨zd zq_20 (by decide +kernel), rfl⟩
theorem iX3_adds_13 : xl_D mX3_adds 13 (.iload_n 3) 1 14 := ⟨zd zq_25 (by decide +kernel), rfl⟩
theorem iX3_adds_14 : xl_D mX3_adds 14 (.iadd) 1 15 := ⟨zd zq_19 (by decide +kernel), rfl⟩
theorem iX3_adds_15 : xl_D mX3_adds 15 (.iastore) 1 16 := ⟨zd zq_26 (by decide +kernel), rfl⟩
theorem iX3_adds_16 : xl_D mX3_adds 16 (.return_) 1 17 := ⟨zd zq_12 (by decide +kernel), rfl⟩
theorem iX3_lays_0 : xl_D mX3_lays 0 (.aload_n 0) 1 1 := ⟨zd zq_0 (by decide +kernel), rfl⟩
theorem iX3_lays_1 : xl_G mX3_lays 1 3 8 4 := ⟨92, zd zq_543 (by decide +kernel), rfl, fX3_92⟩
theorem iX3_lays_4 : xl_D mX3_lays 4 (.bipush 6) 2 6 := ⟨zd zq_71 (by decide +kernel), rfl⟩
theorem iX3_lays_6 : xl_J mX3_lays 6 (fun o => .if_icmp .ne o) 9 47 := ⟨41, zd zq_544 (by decide +kernel), rfl, rfl⟩
theorem iX3_lays_9 : xl_D mX3_lays 9 (.iconst 0) 1 10 := ⟨zd zq_2 (by decide +kernel), rfl⟩
theorem iX3_lays_10 : xl_D mX3_lays 10 (.istore_n 1) 1 11 := ⟨zd zq_194 (by decide +kernel), rfl⟩
theorem iX3_lays_11 : xl_D mX3_lays 11 (.iload_n 1) 1 12 := ⟨zd zq_3 (by decide +kernel), rfl⟩
theorem iX3_lays_12 : xl_D mX3_lays 12 (.iconst 1) 1 13 := ⟨zd zq_36 (by decide +kernel), rfl⟩
theorem iX3_lays_13 : xl_D mX3_lays 13 (.iadd) 1 14 := ⟨zd zq_19 (by decide +kernel), rfl⟩
theorem iX3_lays_14 : xl_D mX3_lays 14 (.bipush 6) 2 16 := ⟨zd zq_71 (by decide +kernel), rfl⟩
theorem iX3_lays_16 : xl_J mX3_lays 16 (fun o => .if_icmp .ge o) 19 37 := ⟨21, zd zq_162 (by decide +kernel), rfl, rfl⟩
theorem iX3_lays_19 : xl_D mX3_lays 19 (.aload_n 0) 1 20 := ⟨zd zq_0 (by decide +kernel), rfl⟩
theorem iX3_lays_20 : xl_D mX3_lays 20 (.iconst 5) 1 21 := ⟨zd zq_64 (by decide +kernel), rfl⟩
theorem iX3_lays_21 : xl_D mX3_lays 21 (.iload_n 1) 1 22 := ⟨zd zq_3 (by decide +kernel), rfl⟩
theorem iX3_lays_22 : xl_D mX3_lays 22 (.iadd) 1 23 := ⟨zd zq_19 (by decide +kernel), rfl⟩
theorem iX3_lays_23 : xl_D mX3_lays 23 (.iconst 1) 1 24 := ⟨zd zq_36 (by decide +kernel), rfl⟩
theorem iX3_lays_24 : xl_D mX3_lays 24 (.iadd) 1 25 := ⟨zd zq_19 (by decide +kernel), rfl⟩
theorem iX3_lays_25 : xl_D mX3_lays 25 (.iconst 5) 1 26 := ⟨zd zq_64 (by decide +kernel), rfl⟩
theorem iX3_lays_26 : xl_D mX3_lays 26 (.iload_n 1) 1 27 := ⟨zd zq_3 (by decide +kernel), rfl⟩
theorem iX3_lays_27 : xl_D mX3_lays 27 (.iadd) 1 28 := ⟨zd zq_19 (by decide +kernel), rfl⟩
theorem iX3_lays_28 : xl_Ca mX3_lays 28 mX3_copies 31 := ⟨95, zd zq_545 (by decide +kernel), rfl, lX3_95, Nat.le_of_ble_eq_true rfl, Nat.le_of_ble_eq_true rfl⟩
theorem iX3_lays_31 : xl_D mX3_lays 31 (.iinc 1 1) 3 34 := ⟨zd zq_227 (by decide +kernel), rfl⟩
theorem iX3_lays_34 : xl_J mX3_lays 34 (fun o => .goto o) 37 11 := ⟨-23, zd zq_385 (by decide +kernel), rfl, rfl⟩
theorem iX3_lays_37 : xl_D mX3_lays 37 (.aload_n 0) 1 38 := ⟨zd zq_0 (by decide +kernel), rfl⟩
theorem iX3_lays_38 : xl_D mX3_lays 38 (.dup) 1 39 := ⟨zd zq_46 (by decide +kernel), rfl⟩
theorem iX3_lays_39 : xl_G mX3_lays 39 3 8 42 := ⟨92, zd zq_543 (by decide +kernel), rfl, fX3_92⟩
theorem iX3_lays_42 : xl_D mX3_lays 42 (.iconst 1) 1 43 := ⟨zd zq_36 (by decide +kernel), rfl⟩
theorem iX3_lays_43 : xl_D mX3_lays 43 (.isub) 1 44 := ⟨zd zq_39 (by decide +kernel), rfl⟩
theorem iX3_lays_44 : xl_P mX3_lays 44 3 8 .int 47 := ⟨92, zd zq_546 (by decide +kernel), rfl, wX3_92⟩
theorem iX3_lays_47 : xl_D mX3_lays 47 (.aload_n 0) 1 48 := ⟨zd zq_0 (by decide +kernel), rfl⟩
theorem iX3_lays_48 : xl_D mX3_lays 48 (.iconst 3) 1 49 := ⟨zd zq_123 (by decide +kernel), rfl⟩
theorem iX3_lays_49 : xl_D mX3_lays 49 (.iconst 5) 1 50 := ⟨zd zq_64 (by decide +kernel), rfl⟩
theorem iX3_lays_50 : xl_D mX3_lays 50 (.aload_n 0) 1 51 := ⟨zd zq_0 (by decide +kernel), rfl⟩
theorem iX3_lays_51 : xl_G mX3_lays 51 3 8 54 := ⟨92, zd zq_543 (by decide +kernel), rfl, fX3_92⟩
theorem iX3_lays_54 : xl_D mX3_lays 54 (.iadd) 1 55 := ⟨zd zq_19 (by decide +kernel), rfl⟩
theorem iX3_lays_55 : xl_Ca mX3_lays 55 mX3_copies 58 := ⟨95, zd zq_545 (by decide +kernel), rfl, lX3_95, Nat.le_of_ble_eq_true rfl, Nat.le_of_ble_eq_true rfl⟩
theorem iX3_lays_58 : xl_D mX3_lays 58 (.aload_n 0) 1 59 := ⟨zd zq_0 (by decide +kernel), rfl⟩
theorem iX3_lays_59 : xl_D mX3_lays 59 (.dup) 1 60 := ⟨zd zq_46 (by decide +kernel), rfl⟩
theorem iX3_lays_60 : xl_G mX3_lays 60 3 8 63 := ⟨92, zd zq_543 (by decide +kernel), rfl, fX3_92⟩
theorem iX3_lays_63 : xl_D mX3_lays 63 (.iconst 1) 1 64 := ⟨zd zq_36 (by decide +kernel), rfl⟩
theorem iX3_lays_64 : xl_D mX3_lays 64 (.iadd) 1 65 := ⟨zd zq_19 (by decide +kernel), rfl⟩
theorem iX3_lays_65 : xl_P mX3_lays 65 3 8 .int 68 := ⟨92, zd zq_546 (by decide +kernel), rfl, wX3_92⟩
theorem iX3_lays_68 : xl_D mX3_lays 68 (.return_) 1 69 := ⟨zd zq_12 (by decide +kernel), rfl⟩
theorem iX3_done_0 : xl_D mX3_done 0 (.iload_n 1) 1 1 := ⟨zd zq_3 (by decide +kernel), rfl⟩
theorem iX3_done_1 : xl_J mX3_done 1 (fun o => .ifCond .lt o) 4 8 := ⟨7, zd zq_270 (by decide +kernel), rfl, rfl⟩
theorem iX3_done_4 : xl_D mX3_done 4 (.aload_n 0) 1 5 := ⟨zd zq_0 (by decide +kernel), rfl⟩
theorem iX3_done_5 : xl_Ca mX3_done 5 mX3_lays 8 := ⟨99, zd zq_547 (by decide +kernel), rfl, lX3_99, Nat.le_of_ble_eq_true rfl, Nat.le_of_ble_eq_true rfl⟩
theorem iX3_done_8 : xl_D mX3_done 8 (.iload_n 1) 1 9 := ⟨zd zq_3 (by decide +kernel), rfl⟩
theorem iX3_done_9 : xl_D mX3_done 9 (.ireturn) 1 10 := ⟨zd zq_17 (by decide +kernel), rfl⟩
theorem iX3_undo_0 : xl_D mX3_undo 0 (.aload_n 0) 1 1 := ⟨zd zq_0 (by decide +kernel), rfl⟩
theorem iX3_undo_1 : xl_D mX3_undo 1 (.iconst 0) 1 2 := ⟨zd zq_2 (by decide +kernel), rfl⟩
theorem iX3_undo_2 : xl_P mX3_undo 2 3 0 .int 5 := ⟨3, zd zq_502 (by decide +kernel), rfl, wX3_3⟩
theorem iX3_undo_5 : xl_D mX3_undo 5 (.aload_n 0) 1 6 := ⟨zd zq_0 (by decide +kernel), rfl⟩
theorem iX3_undo_6 : xl_G mX3_undo 6 3 8 9 := ⟨92, zd zq_543 (by decide +kernel), rfl, fX3_92⟩
theorem iX3_undo_9 : xl_J mX3_undo 9 (fun o => .ifCond .ne o) 12 14 := ⟨5, zd zq_246 (by decide +kernel), rfl, rfl⟩
theorem iX3_undo_12 : xl_D mX3_undo 12 (.iconst (-1)) 1 13 := ⟨zd zq_104 (by decide +kernel), rfl⟩
theorem iX3_undo_13 : xl_D mX3_undo 13 (.ireturn) 1 14 := ⟨zd zq_17 (by decide +kernel), rfl⟩
theorem iX3_undo_14 : xl_D mX3_undo 14 (.aload_n 0) 1 15 := ⟨zd zq_0 (by decide +kernel), rfl⟩
theorem iX3_undo_15 : xl_D mX3_undo 15 (.dup) 1 16 := ⟨zd zq_46 (by decide +kernel), rfl⟩
theorem iX3_undo_16 : xl_G mX3_undo 16 3 8 19 := ⟨92, zd zq_543 (by decide +kernel), rfl, fX3_92⟩
theorem iX3_undo_19 : xl_D mX3_undo 19 (.iconst 1) 1 20 := ⟨zd zq_36 (by decide +kernel), rfl⟩
theorem iX3_undo_20 : xl_D mX3_undo 20 (.isub) 1 21 := ⟨zd zq_39 (by decide +kernel), rfl⟩
theorem iX3_undo_21 : xl_P mX3_undo 21 3 8 .int 24 := ⟨92, zd zq_546 (by decide +kernel), rfl, wX3_92⟩
theorem iX3_undo_24 : xl_D mX3_undo 24 (.aload_n 0) 1 25 := ⟨zd zq_0 (by decide +kernel), rfl⟩
theorem iX3_undo_25 : xl_D mX3_undo 25 (.iconst 5) 1 26 := ⟨zd zq_64 (by decide +kernel), rfl⟩
theorem iX3_undo_26 : xl_D mX3_undo 26 (.aload_n 0) 1 27 := ⟨zd zq_0 (by decide +kernel), rfl⟩
theorem iX3_undo_27 : xl_G mX3_undo 27 3 8 30 := ⟨92, zd zq_543 (by decide +kernel), rfl, fX3_92⟩
theorem iX3_undo_30 : xl_D mX3_undo 30 (.iadd) 1 31 := ⟨zd zq_19 (by decide +kernel), rfl⟩
theorem iX3_undo_31 : xl_D mX3_undo 31 (.iconst 0) 1 32 := ⟨zd zq_2 (by decide +kernel), rfl⟩
theorem iX3_undo_32 : xl_Ca mX3_undo 32 mX3_copies 35 := ⟨95, zd zq_545 (by decide +kernel), rfl, lX3_95, Nat.le_of_ble_eq_true rfl, Nat.le_of_ble_eq_true rfl⟩
theorem iX3_undo_35 : xl_D mX3_undo 35 (.aload_n 0) 1 36 := ⟨zd zq_0 (by decide +kernel), rfl⟩
theorem iX3_undo_36 : xl_G mX3_undo 36 3 8 39 := ⟨92, zd zq_543 (by decide +kernel), rfl, fX3_92⟩
theorem iX3_undo_39 : xl_D mX3_undo 39 (.ireturn) 1 40 := ⟨zd zq_17 (by decide +kernel), rfl⟩
theorem iX3_areSettings_0 : xl_D mX3_areSettings 0 (.iload_n 0) 1 1 := ⟨zd zq_415 (by decide +kernel), rfl⟩
theorem iX3_areSettings_1 : xl_D mX3_areSettings 1 (.i2l) 1 2 := ⟨zd zq_266 (by decide +kernel), rfl⟩
theorem iX3_areSettings_2 : xl_D mX3_areSettings 2 (.lconst 1) 1 3 := ⟨zd zq_548 (by decide +kernel), rfl⟩
theorem iX3_areSettings_3 : xl_D mX3_areSettings 3 (.ldc2_w 102) 3 6 := ⟨zd zq_549 (by decide +kernel), rfl⟩
theorem iX3_areSettings_6 : xl_Cs mX3_areSettings 6 mX3_in 9 := ⟨21, zd zq_507 (by decide +kernel), rfl, lX3_21, Nat.le_of_ble_eq_true rfl, Nat.le_of_ble_eq_true rfl⟩
theorem iX3_areSettings_9 : xl_J mX3_areSettings 9 (fun o => .ifCond .eq o) 12 40 := ⟨31, zd zq_550 (by decide +kernel), rfl, rfl⟩
theorem iX3_areSettings_12 : xl_D mX3_areSettings 12 (.iload_n 1) 1 13 := ⟨zd zq_3 (by decide +kernel), rfl⟩
theorem iX3_areSettings_13 : xl_D mX3_areSettings 13 (.i2l) 1 14 := ⟨zd zq_266 (by decide +kernel), rfl⟩
theorem iX3_areSettings_14 : xl_D mX3_areSettings 14 (.lconst 0) 1 15 := ⟨zd zq_506 (by decide +kernel), rfl⟩
theorem iX3_areSettings_15 : xl_D mX3_areSettings 15 (.ldc2_w 102) 3 18 := ⟨zd zq_549 (by decide +kernel), rfl⟩
theorem iX3_areSettings_18 : xl_Cs mX3_areSettings 18 mX3_in 21 := ⟨21, zd zq_507 (by decide +kernel), rfl, lX3_21, Nat.le_of_ble_eq_true rfl, Nat.le_of_ble_eq_true rfl⟩
theorem iX3_areSettings_21 : xl_J mX3_areSettings 21 (fun o => .ifCond .eq o) 24 40 := ⟨19, zd zq_209 (by decide +kernel), rfl, rfl⟩
theorem iX3_areSettings_24 : xl_D mX3_areSettings 24 (.iload_n 2) 1 25 := ⟨zd zq_6 (by decide +kernel), rfl⟩
theorem iX3_areSettings_25 : xl_D mX3_areSettings 25 (.i2l) 1 26 := ⟨zd zq_266 (by decide +kernel), rfl⟩
theorem iX3_areSettings_26 : xl_D mX3_areSettings 26 (.lconst 0) 1 27 := ⟨zd zq_506 (by decide +kernel), rfl⟩
theorem iX3_areSettings_27 : xl_D mX3_areSettings 27 (.ldc2_w 104) 3 30 := ⟨zd zq_551 (by decide +kernel), rfl⟩
theorem iX3_areSettings_30 : xl_Cs mX3_areSettings 30 mX3_in 33 := ⟨21, zd zq_507 (by decide +kernel), rfl, lX3_21, Nat.le_of_ble_eq_true rfl, Nat.le_of_ble_eq_true rfl⟩
theorem iX3_areSettings_33 : xl_J mX3_areSettings 33 (fun o => .ifCond .eq o) 36 40 := ⟨7, zd zq_193 (by decide +kernel), rfl, rfl⟩
theorem iX3_areSettings_36 : xl_D mX3_areSettings 36 (.iconst 1) 1 37 := ⟨zd zq_36 (by decide +kernel), rfl⟩
theorem iX3_areSettings_37 : xl_J mX3_areSettings 37 (fun o => .goto o) 40 41 := ⟨4, zd zq_139 (by decide +kernel), rfl, rfl⟩
theorem iX3_areSettings_40 : xl_D mX3_areSettings 40 (.iconst 0) 1 41 := ⟨zd zq_2 (by decide +kernel), rfl⟩
theorem iX3_areSettings_41 : xl_D mX3_areSettings 41 (.ireturn) 1 42 := ⟨zd zq_17 (by decide +kernel), rfl⟩
theorem iX3_start_0 : xl_D mX3_start 0 (.aload_n 0) 1 1 := ⟨zd zq_0 (by decide +kernel), rfl⟩
theorem iX3_start_1 : xl_D mX3_start 1 (.iconst 0) 1 2 := ⟨zd zq_2 (by decide +kernel), rfl⟩
theorem iX3_start_2 : xl_P mX3_start 2 3 0 .int 5 := ⟨3, zd zq_502 (by decide +kernel), rfl, wX3_3⟩
theorem iX3_start_5 : xl_D mX3_start 5 (.iload_n 1) 1 6 := ⟨zd zq_3 (by decide +kernel), rfl⟩
theorem iX3_start_6 : xl_D mX3_start 6 (.i2l) 1 7 := ⟨zd zq_266 (by decide +kernel), rfl⟩
theorem iX3_start_7 : xl_D mX3_start 7 (.lconst 1) 1 8 := ⟨zd zq_548 (by decide +kernel), rfl⟩
theorem iX3_start_8 : xl_D mX3_start 8 (.ldc2_w 106) 3 11 := ⟨zd zq_552 (by decide +kernel), rfl⟩
theorem iX3_start_11 : xl_Cs mX3_start 11 mX3_in 14 := ⟨21, zd zq_507 (by decide +kernel), rfl, lX3_21, Nat.le_of_ble_eq_true rfl, Nat.le_of_ble_eq_true rfl⟩
theorem iX3_start_14 : xl_J mX3_start 14 (fun o => .ifCond .eq o) 17 27 := ⟨13, zd zq_295 (by decide +kernel), rfl, rfl⟩
theorem iX3_start_17 : xl_D mX3_start 17 (.iload_n 2) 1 18 := ⟨zd zq_6 (by decide +kernel), rfl⟩
theorem iX3_start_18 : xl_D mX3_start 18 (.iload_n 3) 1 19 := ⟨zd zq_25 (by decide +kernel), rfl⟩
theorem iX3_start_19 : xl_D mX3_start 19 (.iload 4) 2 21 := ⟨zd zq_51 (by decide +kernel), rfl⟩
theorem iX3_start_21 : xl_Cs mX3_start 21 mX3_areSettings 24 := ⟨108, zd zq_553 (by decide +kernel), rfl, lX3_108, Nat.le_of_ble_eq_true rfl, Nat.le_of_ble_eq_true rfl⟩
theorem iX3_start_24 : xl_J mX3_start 24 (fun o => .ifCond .ne o) 27 29 := ⟨5, zd zq_246 (by decide +kernel), rfl, rfl⟩
theorem iX3_start_27 : xl_D mX3_start 27 (.iconst (-1)) 1 28 := ⟨zd zq_104 (by decide +kernel), rfl⟩
theorem iX3_start_28 : xl_D mX3_start 28 (.ireturn) 1 29 := ⟨zd zq_17 (by decide +kernel), rfl⟩
theorem iX3_start_29 : xl_D mX3_start 29 (.aload_n 0) 1 30 := ⟨zd zq_0 (by decide +kernel), rfl⟩
theorem iX3_start_30 : xl_D mX3_start 30 (.iconst 0) 1 31 := ⟨zd zq_2 (by decide +kernel), rfl⟩
theorem iX3_start_31 : xl_D mX3_start 31 (.iconst 3) 1 32 := ⟨zd zq_123 (by decide +kernel), rfl⟩
theorem iX3_start_32 : xl_Ca mX3_start 32 mX3_copies 35 := ⟨95, zd zq_545 (by decide +kernel), rfl, lX3_95, Nat.le_of_ble_eq_true rfl, Nat.le_of_ble_eq_true rfl⟩
theorem iX3_start_35 : xl_D mX3_start 35 (.aload_n 0) 1 36 := ⟨zd zq_0 (by decide +kernel), rfl⟩
theorem iX3_start_36 : xl_D mX3_start 36 (.iconst 0) 1 37 := ⟨zd zq_2 (by decide +kernel), rfl⟩
theorem iX3_start_37 : xl_D mX3_start 37 (.iload_n 1) 1 38 := ⟨zd zq_3 (by decide +kernel), rfl⟩
theorem iX3_start_38 : xl_D mX3_start 38 (.iload_n 2) 1 39 := ⟨zd zq_6 (by decide +kernel), rfl⟩
theorem iX3_start_39 : xl_D mX3_start 39 (.iload_n 3) 1 40 := ⟨zd zq_25 (by decide +kernel), rfl⟩
theorem iX3_start_40 : xl_D mX3_start 40 (.iload 4) 2 42 := ⟨zd zq_51 (by decide +kernel), rfl⟩
theorem iX3_start_42 : xl_Ca mX3_start 42 mX3_starts 45 := ⟨84, zd zq_535 (by decide +kernel), rfl, lX3_84, Nat.le_of_ble_eq_true rfl, Nat.le_of_ble_eq_true rfl⟩
theorem iX3_start_45 : xl_D mX3_start 45 (.aload_n 0) 1 46 := ⟨zd zq_0 (by decide +kernel), rfl⟩
theorem iX3_start_46 : xl_D mX3_start 46 (.iload_n 1) 1 47 := ⟨zd zq_3 (by decide +kernel), rfl⟩
theorem iX3_start_47 : xl_Ca mX3_start 47 mX3_done 50 := ⟨112, zd zq_554 (by decide +kernel), rfl, lX3_112, Nat.le_of_ble_eq_true rfl, Nat.le_of_ble_eq_true rfl⟩
theorem iX3_start_50 : xl_D mX3_start 50 (.ireturn) 1 51 := ⟨zd zq_17 (by decide +kernel), rfl⟩
theorem iX3_isSource_0 : xl_D mX3_isSource 0 (.iload_n 1) 1 1 := ⟨zd zq_3 (by decide +kernel), rfl⟩
theorem iX3_isSource_1 : xl_D mX3_isSource 1 (.i2l) 1 2 := ⟨zd zq_266 (by decide +kernel), rfl⟩
theorem iX3_isSource_2 : xl_D mX3_isSource 2 (.lconst 0) 1 3 := ⟨zd zq_506 (by decide +kernel), rfl⟩
theorem iX3_isSource_3 : xl_D mX3_isSource 3 (.aload_n 0) 1 4 := ⟨zd zq_0 (by decide +kernel), rfl⟩
theorem iX3_isSource_4 : xl_D mX3_isSource 4 (.iconst 0) 1 5 := ⟨zd zq_2 (by decide +kernel), rfl⟩
theorem iX3_isSource_5 : xl_D mX3_isSource 5 (.iconst 0) 1 6 := ⟨zd zq_2 (by decide +kernel), rfl⟩
theorem iX3_isSource_6 : xl_Ca mX3_isSource 6 mX3_of 9 := ⟨116, zd zq_555 (by decide +kernel), rfl, lX3_116, Nat.le_of_ble_eq_true rfl, Nat.le_of_ble_eq_true rfl⟩
theorem iX3_isSource_9 : xl_D mX3_isSource 9 (.iconst 1) 1 10 := ⟨zd zq_36 (by decide +kernel), rfl⟩
theorem iX3_isSource_10 : xl_D mX3_isSource 10 (.isub) 1 11 := ⟨zd zq_39 (by decide +kernel), rfl⟩
theorem iX3_isSource_11 : xl_D mX3_isSource 11 (.i2l) 1 12 := ⟨zd zq_266 (by decide +kernel), rfl⟩
theorem iX3_isSource_12 : xl_Cs mX3_isSource 12 mX3_in 15 := ⟨21, zd zq_507 (by decide +kernel), rfl, lX3_21, Nat.le_of_ble_eq_true rfl, Nat.le_of_ble_eq_true rfl⟩
theorem iX3_isSource_15 : xl_D mX3_isSource 15 (.ireturn) 1 16 := ⟨zd zq_17 (by decide +kernel), rfl⟩
theorem iX3_delays_0 : xl_D mX3_delays 0 (.aload_n 0) 1 1 := ⟨zd zq_0 (by decide +kernel), rfl⟩
theorem iX3_delays_1 : xl_D mX3_delays 1 (.iconst 0) 1 2 := ⟨zd zq_2 (by decide +kernel), rfl⟩
theorem iX3_delays_2 : xl_P mX3_delays 2 3 0 .int 5 := ⟨3, zd zq_502 (by decide +kernel), rfl, wX3_3⟩
theorem iX3_delays_5 : xl_D mX3_delays 5 (.aload_n 0) 1 6 := ⟨zd zq_0 (by decide +kernel), rfl⟩
theorem iX3_delays_6 : xl_D mX3_delays 6 (.iload_n 1) 1 7 := ⟨zd zq_3 (by decide +kernel), rfl⟩
theorem iX3_delays_7 : xl_Ca mX3_delays 7 mX3_isSource 10 := ⟨120, zd zq_556 (by decide +kernel), rfl, lX3_120, Nat.le_of_ble_eq_true rfl, Nat.le_of_ble_eq_true rfl⟩
theorem iX3_delays_10 : xl_J mX3_delays 10 (fun o => .ifCond .eq o) 13 25 := ⟨15, zd zq_321 (by decide +kernel), rfl, rfl⟩
theorem iX3_delays_13 : xl_D mX3_delays 13 (.iload_n 2) 1 14 := ⟨zd zq_6 (by decide +kernel), rfl⟩
theorem iX3_delays_14 : xl_D mX3_delays 14 (.i2l) 1 15 := ⟨zd zq_266 (by decide +kernel), rfl⟩
theorem iX3_delays_15 : xl_D mX3_delays 15 (.lconst 0) 1 16 := ⟨zd zq_506 (by decide +kernel), rfl⟩
theorem iX3_delays_16 : xl_D mX3_delays 16 (.ldc2_w 124) 3 19 := ⟨zd zq_557 (by decide +kernel), rfl⟩
theorem iX3_delays_19 : xl_Cs mX3_delays 19 mX3_in 22 := ⟨21, zd zq_507 (by decide +kernel), rfl, lX3_21, Nat.le_of_ble_eq_true rfl, Nat.le_of_ble_eq_true rfl⟩
theorem iX3_delays_22 : xl_J mX3_delays 22 (fun o => .ifCond .ne o) 25 27 := ⟨5, zd zq_246 (by decide +kernel), rfl, rfl⟩
theorem iX3_delays_25 : xl_D mX3_delays 25 (.iconst (-1)) 1 26 := ⟨zd zq_104 (by decide +kernel), rfl⟩
theorem iX3_delays_26 : xl_D mX3_delays 26 (.ireturn) 1 27 := ⟨zd zq_17 (by decide +kernel), rfl⟩
theorem iX3_delays_27 : xl_D mX3_delays 27 (.aload_n 0) 1 28 := ⟨zd zq_0 (by decide +kernel), rfl⟩
theorem iX3_delays_28 : xl_D mX3_delays 28 (.iconst 0) 1 29 := ⟨zd zq_2 (by decide +kernel), rfl⟩
theorem iX3_delays_29 : xl_D mX3_delays 29 (.bipush 16) 2 31 := ⟨zd zq_493 (by decide +kernel), rfl⟩
theorem iX3_delays_31 : xl_D mX3_delays 31 (.iload_n 1) 1 32 := ⟨zd zq_3 (by decide +kernel), rfl⟩
theorem iX3_delays_32 : xl_D mX3_delays 32 (.iadd) 1 33 := ⟨zd zq_19 (by decide +kernel), rfl⟩
theorem iX3_delays_33 : xl_Ca mX3_delays 33 mX3_of 36 := ⟨116, zd zq_555 (by decide +kernel), rfl, lX3_116, Nat.le_of_ble_eq_true rfl, Nat.le_of_ble_eq_true rfl⟩
theorem iX3_delays_36 : xl_D mX3_delays 36 (.istore_n 3) 1 37 := ⟨zd zq_131 (by decide +kernel), rfl⟩
theorem iX3_delays_37 : xl_D mX3_delays 37 (.iload_n 3) 1 38 := ⟨zd zq_25 (by decide +kernel), rfl⟩
theorem iX3_delays_38 : xl_D mX3_delays 38 (.iload_n 2) 1 39 := ⟨zd zq_6 (by decide +kernel), rfl⟩
theorem iX3_delays_39 : xl_J mX3_delays 39 (fun o => .if_icmp .ne o) 42 45 := ⟨6, zd zq_255 (by decide +kernel), rfl, rfl⟩
theorem iX3_delays_42 : xl_D mX3_delays 42 (.bipush (-2)) 2 44 := ⟨zd zq_256 (by decide +kernel), rfl⟩
theorem iX3_delays_44 : xl_D mX3_delays 44 (.ireturn) 1 45 := ⟨zd zq_17 (by decide +kernel), rfl⟩
theorem iX3_delays_45 : xl_D mX3_delays 45 (.aload_n 0) 1 46 := ⟨zd zq_0 (by decide +kernel), rfl⟩
theorem iX3_delays_46 : xl_D mX3_delays 46 (.iconst 0) 1 47 := ⟨zd zq_2 (by decide +kernel), rfl⟩
theorem iX3_delays_47 : xl_D mX3_delays 47 (.bipush 6) 2 49 := ⟨zd zq_71 (by decide +kernel), rfl⟩
theorem iX3_delays_49 : xl_Ca mX3_delays 49 mX3_of 52 := ⟨116, zd zq_555 (by decide +kernel), rfl, lX3_116, Nat.le_of_ble_eq_true rfl, Nat.le_of_ble_eq_true rfl⟩
theorem iX3_delays_52 : xl_J mX3_delays 52 (fun o => .ifCond .le o) 55 58 := ⟨6, zd zq_259 (by decide +kernel), rfl, rfl⟩
theorem iX3_delays_55 : xl_D mX3_delays 55 (.bipush (-3)) 2 57 := ⟨zd zq_260 (by decide +kernel), rfl⟩
theorem iX3_delays_57 : xl_D mX3_delays 57 (.ireturn) 1 58 := ⟨zd zq_17 (by decide +kernel), rfl⟩
theorem iX3_delays_58 : xl_D mX3_delays 58 (.aload_n 0) 1 59 := ⟨zd zq_0 (by decide +kernel), rfl⟩
theorem iX3_delays_59 : xl_D mX3_delays 59 (.iconst 0) 1 60 := ⟨zd zq_2 (by decide +kernel), rfl⟩
theorem iX3_delays_60 : xl_D mX3_delays 60 (.iconst 3) 1 61 := ⟨zd zq_123 (by decide +kernel), rfl⟩
theorem iX3_delays_61 : xl_Ca mX3_delays 61 mX3_copies 64 := ⟨95, zd zq_545 (by decide +kernel), rfl, lX3_95, Nat.le_of_ble_eq_true rfl, Nat.le_of_ble_eq_true rfl⟩
theorem iX3_delays_64 : xl_D mX3_delays 64 (.aload_n 0) 1 65 := ⟨zd zq_0 (by decide +kernel), rfl⟩
theorem iX3_delays_65 : xl_D mX3_delays 65 (.iconst 0) 1 66 := ⟨zd zq_2 (by decide +kernel), rfl⟩
theorem iX3_delays_66 : xl_D mX3_delays 66 (.bipush 16) 2 68 := ⟨zd zq_493 (by decide +kernel), rfl⟩
theorem iX3_delays_68 : xl_D mX3_delays 68 (.iload_n 1) 1 69 := ⟨zd zq_3 (by decide +kernel), rfl⟩
theorem iX3_delays_69 : xl_D mX3_delays 69 (.iadd) 1 70 := ⟨zd zq_19 (by decide +kernel), rfl⟩
theorem iX3_delays_70 : xl_D mX3_delays 70 (.iload_n 2) 1 71 := ⟨zd zq_6 (by decide +kernel), rfl⟩
theorem iX3_delays_71 : xl_Ca mX3_delays 71 mX3_puts 74 := ⟨88, zd zq_542 (by decide +kernel), rfl, lX3_88, Nat.le_of_ble_eq_true rfl, Nat.le_of_ble_eq_true rfl⟩
theorem iX3_delays_74 : xl_D mX3_delays 74 (.aload_n 0) 1 75 := ⟨zd zq_0 (by decide +kernel), rfl⟩
theorem iX3_delays_75 : xl_D mX3_delays 75 (.iload_n 3) 1 76 := ⟨zd zq_25 (by decide +kernel), rfl⟩
theorem iX3_delays_76 : xl_Ca mX3_delays 76 mX3_done 79 := ⟨112, zd zq_554 (by decide +kernel), rfl, lX3_112, Nat.le_of_ble_eq_true rfl, Nat.le_of_ble_eq_true rfl⟩
theorem iX3_delays_79 : xl_D mX3_delays 79 (.ireturn) 1 80 := ⟨zd zq_17 (by decide +kernel), rfl⟩
theorem iX3_place_0 : xl_D mX3_place 0 (.iload_n 0) 1 1 := ⟨zd zq_415 (by decide +kernel), rfl⟩
theorem iX3_place_1 : xl_D mX3_place 1 (.sipush 2804) 3 4 := ⟨zd zq_536 (by decide +kernel), rfl⟩
theorem iX3_place_4 : xl_D mX3_place 4 (.imul) 1 5 := ⟨zd zq_10 (by decide +kernel), rfl⟩
theorem iX3_place_5 : xl_D mX3_place 5 (.sipush 364) 3 8 := ⟨zd zq_558 (by decide +kernel), rfl⟩
theorem iX3_place_8 : xl_D mX3_place 8 (.iadd) 1 9 := ⟨zd zq_19 (by decide +kernel), rfl⟩
theorem iX3_place_9 : xl_D mX3_place 9 (.bipush 7) 2 11 := ⟨zd zq_68 (by decide +kernel), rfl⟩
theorem iX3_place_11 : xl_D mX3_place 11 (.iload_n 1) 1 12 := ⟨zd zq_3 (by decide +kernel), rfl⟩
theorem iX3_place_12 : xl_D mX3_place 12 (.imul) 1 13 := ⟨zd zq_10 (by decide +kernel), rfl⟩
theorem iX3_place_13 : xl_D mX3_place 13 (.iadd) 1 14 := ⟨zd zq_19 (by decide +kernel), rfl⟩
theorem iX3_place_14 : xl_D mX3_place 14 (.ireturn) 1 15 := ⟨zd zq_17 (by decide +kernel), rfl⟩
theorem iX3_ofSession_0 : xl_D mX3_ofSession 0 (.aload_n 0) 1 1 := ⟨zd zq_0 (by decide +kernel), rfl⟩
theorem iX3_ofSession_1 : xl_G mX3_ofSession 1 3 7 4 := ⟨53, zd zq_537 (by decide +kernel), rfl, fX3_53⟩
theorem iX3_ofSession_4 : xl_D mX3_ofSession 4 (.iload_n 1) 1 5 := ⟨zd zq_3 (by decide +kernel), rfl⟩
theorem iX3_ofSession_5 : xl_D mX3_ofSession 5 (.iload_n 2) 1 6 := ⟨zd zq_6 (by decide +kernel), rfl⟩
theorem iX3_ofSession_6 : xl_Cs mX3_ofSession 6 mX3_place 9 := ⟨126, zd zq_559 (by decide +kernel), rfl, lX3_126, Nat.le_of_ble_eq_true rfl, Nat.le_of_ble_eq_true rfl⟩
theorem iX3_ofSession_9 : xl_D mX3_ofSession 9 (.iload_n 3) 1 10 := ⟨zd zq_25 (by decide +kernel), rfl⟩
theorem iX3_ofSession_10 : xl_D mX3_ofSession 10 (.iadd) 1 11 := ⟨zd zq_19 (by decide +kernel), rfl⟩
theorem iX3_ofSession_11 : xl_D mX3_ofSession 11 (.iaload) 1 12 := ⟨zd zq_20 (by decide +kernel), rfl⟩
theorem iX3_ofSession_12 : xl_D mX3_ofSession 12 (.ireturn) 1 13 := ⟨zd zq_17 (by decide +kernel), rfl⟩
theorem iX3_goesOut_0 : xl_D mX3_goesOut 0 (.aload_n 0) 1 1 := ⟨zd zq_0 (by decide +kernel), rfl⟩
theorem iX3_goesOut_1 : xl_D mX3_goesOut 1 (.iload_n 1) 1 2 := ⟨zd zq_3 (by decide +kernel), rfl⟩
theorem iX3_goesOut_2 : xl_D mX3_goesOut 2 (.iconst 5) 1 3 := ⟨zd zq_64 (by decide +kernel), rfl⟩
theorem iX3_goesOut_3 : xl_D mX3_goesOut 3 (.iconst (-1)) 1 4 := ⟨zd zq_104 (by decide +kernel), rfl⟩
theorem iX3_goesOut_4 : xl_Ca mX3_goesOut 4 mX3_adds 7 := ⟨129, zd zq_560 (by decide +kernel), rfl, lX3_129, Nat.le_of_ble_eq_true rfl, Nat.le_of_ble_eq_true rfl⟩
theorem iX3_goesOut_7 : xl_D mX3_goesOut 7 (.iload_n 1) 1 8 := ⟨zd zq_3 (by decide +kernel), rfl⟩
theorem iX3_goesOut_8 : xl_D mX3_goesOut 8 (.iload_n 2) 1 9 := ⟨zd zq_6 (by decide +kernel), rfl⟩
theorem iX3_goesOut_9 : xl_Cs mX3_goesOut 9 mX3_place 12 := ⟨126, zd zq_559 (by decide +kernel), rfl, lX3_126, Nat.le_of_ble_eq_true rfl, Nat.le_of_ble_eq_true rfl⟩
theorem iX3_goesOut_12 : xl_D mX3_goesOut 12 (.istore_n 3) 1 13 := ⟨zd zq_131 (by decide +kernel), rfl⟩
theorem iX3_goesOut_13 : xl_D mX3_goesOut 13 (.iload_n 3) 1 14 := ⟨zd zq_25 (by decide +kernel), rfl⟩
theorem iX3_goesOut_14 : xl_D mX3_goesOut 14 (.iload_n 1) 1 15 := ⟨zd zq_3 (by decide +kernel), rfl⟩
theorem iX3_goesOut_15 : xl_D mX3_goesOut 15 (.aload_n 0) 1 16 := ⟨zd zq_0 (by decide +kernel), rfl⟩
theorem iX3_goesOut_16 : xl_D mX3_goesOut 16 (.iload_n 1) 1 17 := ⟨zd zq_3 (by decide +kernel), rfl⟩
theorem iX3_goesOut_17 : xl_D mX3_goesOut 17 (.iconst 5) 1 18 := ⟨zd zq_64 (by decide +kernel), rfl⟩
theorem iX3_goesOut_18 : xl_Ca mX3_goesOut 18 mX3_of 21 := ⟨116, zd zq_555 (by decide +kernel), rfl, lX3_116, Nat.le_of_ble_eq_true rfl, Nat.le_of_ble_eq_true rfl⟩
theorem iX3_goesOut_21 : xl_Cs mX3_goesOut 21 mX3_place 24 := ⟨126, zd zq_559 (by decide +kernel), rfl, lX3_126, Nat.le_of_ble_eq_true rfl, Nat.le_of_ble_eq_true rfl⟩
theorem iX3_goesOut_24 : xl_J mX3_goesOut 24 (fun o => .if_icmp .ge o) 27 48 := ⟨24, zd zq_352 (by decide +kernel), rfl, rfl⟩
theorem iX3_goesOut_27 : xl_D mX3_goesOut 27 (.aload_n 0) 1 28 := ⟨zd zq_0 (by decide +kernel), rfl⟩
theorem iX3_goesOut_28 : xl_G mX3_goesOut 28 3 7 31 := ⟨53, zd zq_537 (by decide +kernel), rfl, fX3_53⟩
theorem iX3_goesOut_31 : xl_D mX3_goesOut 31 (.iload_n 3) 1 32 := ⟨zd zq_25 (by decide +kernel), rfl⟩
theorem iX3_goesOut_32 : xl_D mX3_goesOut 32 (.aload_n 0) 1 33 := ⟨zd zq_0 (by decide +kernel), rfl⟩
theorem iX3_goesOut_33 : xl_G mX3_goesOut 33 3 7 36 := ⟨53, zd zq_537 (by decide +kernel), rfl, fX3_53⟩
theorem iX3_goesOut_36 : xl_D mX3_goesOut 36 (.iload_n 3) 1 37 := ⟨zd zq_25 (by decide +kernel), rfl⟩
theorem iX3_goesOut_37 : xl_D mX3_goesOut 37 (.bipush 7) 2 39 := ⟨zd zq_68 (by decide +kernel), rfl⟩
theorem iX3_goesOut_39 : xl_D mX3_goesOut 39 (.iadd) 1 40 := ⟨zd zq_19 (by decide +kernel), rfl⟩
theorem iX3_goesOut_40 : xl_D mX3_goesOut 40 (.iaload) 1 41 := ⟨zd zq_20 (by decide +kernel), rfl⟩
theorem iX3_goesOut_41 : xl_D mX3_goesOut 41 (.iastore) 1 42 := ⟨zd zq_26 (by decide +kernel), rfl⟩
theorem iX3_goesOut_42 : xl_D mX3_goesOut 42 (.iinc 3 1) 3 45 := ⟨zd zq_153 (by decide +kernel), rfl⟩
theorem iX3_goesOut_45 : xl_J mX3_goesOut 45 (fun o => .goto o) 48 13 := ⟨-32, zd zq_105 (by decide +kernel), rfl, rfl⟩
theorem iX3_goesOut_48 : xl_D mX3_goesOut 48 (.return_) 1 49 := ⟨zd zq_12 (by decide +kernel), rfl⟩
theorem iX3_comesIn_0 : xl_D mX3_comesIn 0 (.aload_n 0) 1 1 := ⟨zd zq_0 (by decide +kernel), rfl⟩
theorem iX3_comesIn_1 : xl_D mX3_comesIn 1 (.iload_n 1) 1 2 := ⟨zd zq_3 (by decide +kernel), rfl⟩
theorem iX3_comesIn_2 : xl_D mX3_comesIn 2 (.iconst 5) 1 3 := ⟨zd zq_64 (by decide +kernel), rfl⟩
theorem iX3_comesIn_3 : xl_Ca mX3_comesIn 3 mX3_of 6 := ⟨116, zd zq_555 (by decide +kernel), rfl, lX3_116, Nat.le_of_ble_eq_true rfl, Nat.le_of_ble_eq_true rfl⟩
theorem iX3_comesIn_6 : xl_D mX3_comesIn 6 (.istore_n 2) 1 7 := ⟨zd zq_41 (by decide +kernel), rfl⟩
theorem iX3_comesIn_7 : xl_D mX3_comesIn 7 (.iload_n 2) 1 8 := ⟨zd zq_6 (by decide +kernel), rfl⟩
theorem iX3_comesIn_8 : xl_J mX3_comesIn 8 (fun o => .ifCond .le o) 11 68 := ⟨60, zd zq_561 (by decide +kernel), rfl, rfl⟩
theorem iX3_comesIn_11 : xl_D mX3_comesIn 11 (.aload_n 0) 1 12 := ⟨zd zq_0 (by decide +kernel), rfl⟩
theorem iX3_comesIn_12 : xl_D mX3_comesIn 12 (.iload_n 1) 1 13 := ⟨zd zq_3 (by decide +kernel), rfl⟩
theorem iX3_comesIn_13 : xl_D mX3_comesIn 13 (.iload_n 2) 1 14 := ⟨zd zq_6 (by decide +kernel), rfl⟩
theorem iX3_comesIn_14 : xl_D mX3_comesIn 14 (.iconst 1) 1 15 := ⟨zd zq_36 (by decide +kernel), rfl⟩
theorem iX3_comesIn_15 : xl_D mX3_comesIn 15 (.isub) 1 16 := ⟨zd zq_39 (by decide +kernel), rfl⟩
theorem iX3_comesIn_16 : xl_Ca mX3_comesIn 16 mX3_isBehind 19 := ⟨132, zd zq_562 (by decide +kernel), rfl, lX3_132, Nat.le_of_ble_eq_true rfl, Nat.le_of_ble_eq_true rfl⟩
theorem iX3_comesIn_19 : xl_J mX3_comesIn 19 (fun o => .ifCond .eq o) 22 68 := ⟨49, zd zq_563 (by decide +kernel), rfl, rfl⟩
theorem iX3_comesIn_22 : xl_D mX3_comesIn 22 (.iconst 0) 1 23 := ⟨zd zq_2 (by decide +kernel), rfl⟩
theorem iX3_comesIn_23 : xl_D mX3_comesIn 23 (.istore_n 3) 1 24 := ⟨zd zq_131 (by decide +kernel), rfl⟩
theorem iX3_comesIn_24 : xl_D mX3_comesIn 24 (.iload_n 3) 1 25 := ⟨zd zq_25 (by decide +kernel), rfl⟩
theorem iX3_comesIn_25 : xl_D mX3_comesIn 25 (.bipush 7) 2 27 := ⟨zd zq_68 (by decide +kernel), rfl⟩
theorem iX3_comesIn_27 : xl_J mX3_comesIn 27 (fun o => .if_icmp .ge o) 30 62 := ⟨35, zd zq_311 (by decide +kernel), rfl, rfl⟩
theorem iX3_comesIn_30 : xl_D mX3_comesIn 30 (.aload_n 0) 1 31 := ⟨zd zq_0 (by decide +kernel), rfl⟩
theorem iX3_comesIn_31 : xl_G mX3_comesIn 31 3 7 34 := ⟨53, zd zq_537 (by decide +kernel), rfl, fX3_53⟩
theorem iX3_comesIn_34 : xl_D mX3_comesIn 34 (.iload_n 1) 1 35 := ⟨zd zq_3 (by decide +kernel), rfl⟩
theorem iX3_comesIn_35 : xl_D mX3_comesIn 35 (.iload_n 2) 1 36 := ⟨zd zq_6 (by decide +kernel), rfl⟩
theorem iX3_comesIn_36 : xl_Cs mX3_comesIn 36 mX3_place 39 := ⟨126, zd zq_559 (by decide +kernel), rfl, lX3_126, Nat.le_of_ble_eq_true rfl, Nat.le_of_ble_eq_true rfl⟩
theorem iX3_comesIn_39 : xl_D mX3_comesIn 39 (.iload_n 3) 1 40 := ⟨zd zq_25 (by decide +kernel), rfl⟩
theorem iX3_comesIn_40 : xl_D mX3_comesIn 40 (.iadd) 1 41 := ⟨zd zq_19 (by decide +kernel), rfl⟩
theorem iX3_comesIn_41 : xl_D mX3_comesIn 41 (.aload_n 0) 1 42 := ⟨zd zq_0 (by decide +kernel), rfl⟩
theorem iX3_comesIn_42 : xl_G mX3_comesIn 42 3 7 45 := ⟨53, zd zq_537 (by decide +kernel), rfl, fX3_53⟩
theorem iX3_comesIn_45 : xl_D mX3_comesIn 45 (.iload_n 1) 1 46 := ⟨zd zq_3 (by decide +kernel), rfl⟩
theorem iX3_comesIn_46 : xl_D mX3_comesIn 46 (.iload_n 2) 1 47 := ⟨zd zq_6 (by decide +kernel), rfl⟩
theorem iX3_comesIn_47 : xl_D mX3_comesIn 47 (.iconst 1) 1 48 := ⟨zd zq_36 (by decide +kernel), rfl⟩
theorem iX3_comesIn_48 : xl_D mX3_comesIn 48 (.isub) 1 49 := ⟨zd zq_39 (by decide +kernel), rfl⟩
theorem iX3_comesIn_49 : xl_Cs mX3_comesIn 49 mX3_place 52 := ⟨126, zd zq_559 (by decide +kernel), rfl, lX3_126, Nat.le_of_ble_eq_true rfl, Nat.le_of_ble_eq_true rfl⟩
theorem iX3_comesIn_52 : xl_D mX3_comesIn 52 (.iload_n 3) 1 53 := ⟨zd zq_25 (by decide +kernel), rfl⟩
theorem iX3_comesIn_53 : xl_D mX3_comesIn 53 (.iadd) 1 54 := ⟨zd zq_19 (by decide +kernel), rfl⟩
theorem iX3_comesIn_54 : xl_D mX3_comesIn 54 (.iaload) 1 55 := ⟨zd zq_20 (by decide +kernel), rfl⟩
theorem iX3_comesIn_55 : xl_D mX3_comesIn 55 (.iastore) 1 56 := ⟨zd zq_26 (by decide +kernel), rfl⟩
theorem iX3_comesIn_56 : xl_D mX3_comesIn 56 (.iinc 3 1) 3 59 := ⟨zd zq_153 (by decide +kernel), rfl⟩
theorem iX3_comesIn_59 : xl_J mX3_comesIn 59 (fun o => .goto o) 62 24 := ⟨-35, zd zq_564 (by decide +kernel), rfl, rfl⟩
theorem iX3_comesIn_62 : xl_D mX3_comesIn 62 (.iinc 2 (-1)) 3 65 := ⟨zd zq_565 (by decide +kernel), rfl⟩
theorem iX3_comesIn_65 : xl_J mX3_comesIn 65 (fun o => .goto o) 68 7 := ⟨-58, zd zq_566 (by decide +kernel), rfl, rfl⟩
theorem iX3_comesIn_68 : xl_D mX3_comesIn 68 (.iconst 0) 1 69 := ⟨zd zq_2 (by decide +kernel), rfl⟩
theorem iX3_comesIn_69 : xl_D mX3_comesIn 69 (.istore_n 3) 1 70 := ⟨zd zq_131 (by decide +kernel), rfl⟩
theorem iX3_comesIn_70 : xl_D mX3_comesIn 70 (.iload_n 3) 1 71 := ⟨zd zq_25 (by decide +kernel), rfl⟩
theorem iX3_comesIn_71 : xl_D mX3_comesIn 71 (.bipush 7) 2 73 := ⟨zd zq_68 (by decide +kernel), rfl⟩
theorem iX3_comesIn_73 : xl_J mX3_comesIn 73 (fun o => .if_icmp .ge o) 76 100 := ⟨27, zd zq_541 (by decide +kernel), rfl, rfl⟩
theorem iX3_comesIn_76 : xl_D mX3_comesIn 76 (.aload_n 0) 1 77 := ⟨zd zq_0 (by decide +kernel), rfl⟩
theorem iX3_comesIn_77 : xl_G mX3_comesIn 77 3 7 80 := ⟨53, zd zq_537 (by decide +kernel), rfl, fX3_53⟩
theorem iX3_comesIn_80 : xl_D mX3_comesIn 80 (.iload_n 1) 1 81 := ⟨zd zq_3 (by decide +kernel), rfl⟩
theorem iX3_comesIn_81 : xl_D mX3_comesIn 81 (.iload_n 2) 1 82 := ⟨zd zq_6 (by decide +kernel), rfl⟩
theorem iX3_comesIn_82 : xl_Cs mX3_comesIn 82 mX3_place 85 := ⟨126, zd zq_559 (by decide +kernel), rfl, lX3_126, Nat.le_of_ble_eq_true rfl, Nat.le_of_ble_eq_true rfl⟩
theorem iX3_comesIn_85 : xl_D mX3_comesIn 85 (.iload_n 3) 1 86 := ⟨zd zq_25 (by decide +kernel), rfl⟩
theorem iX3_comesIn_86 : xl_D mX3_comesIn 86 (.iadd) 1 87 := ⟨zd zq_19 (by decide +kernel), rfl⟩
theorem iX3_comesIn_87 : xl_D mX3_comesIn 87 (.aload_n 0) 1 88 := ⟨zd zq_0 (by decide +kernel), rfl⟩
theorem iX3_comesIn_88 : xl_G mX3_comesIn 88 3 9 91 := ⟨56, zd zq_567 (by decide +kernel), rfl, fX3_56⟩
theorem iX3_comesIn_91 : xl_D mX3_comesIn 91 (.iload_n 3) 1 92 := ⟨zd zq_25 (by decide +kernel), rfl⟩
theorem iX3_comesIn_92 : xl_D mX3_comesIn 92 (.iaload) 1 93 := ⟨zd zq_20 (by decide +kernel), rfl⟩
theorem iX3_comesIn_93 : xl_D mX3_comesIn 93 (.iastore) 1 94 := ⟨zd zq_26 (by decide +kernel), rfl⟩
theorem iX3_comesIn_94 : xl_D mX3_comesIn 94 (.iinc 3 1) 3 97 := ⟨zd zq_153 (by decide +kernel), rfl⟩
theorem iX3_comesIn_97 : xl_J mX3_comesIn 97 (fun o => .goto o) 100 70 := ⟨-27, zd zq_540 (by decide +kernel), rfl, rfl⟩
theorem iX3_comesIn_100 : xl_D mX3_comesIn 100 (.aload_n 0) 1 101 := ⟨zd zq_0 (by decide +kernel), rfl⟩
theorem iX3_comesIn_101 : xl_D mX3_comesIn 101 (.iload_n 1) 1 102 := ⟨zd zq_3 (by decide +kernel), rfl⟩
theorem iX3_comesIn_102 : xl_D mX3_comesIn 102 (.iconst 5) 1 103 := ⟨zd zq_64 (by decide +kernel), rfl⟩
theorem iX3_comesIn_103 : xl_D mX3_comesIn 103 (.iconst 1) 1 104 := ⟨zd zq_36 (by decide +kernel), rfl⟩
theorem iX3_comesIn_104 : xl_Ca mX3_comesIn 104 mX3_adds 107 := ⟨129, zd zq_560 (by decide +kernel), rfl, lX3_129, Nat.le_of_ble_eq_true rfl, Nat.le_of_ble_eq_true rfl⟩
theorem iX3_comesIn_107 : xl_D mX3_comesIn 107 (.iload_n 2) 1 108 := ⟨zd zq_6 (by decide +kernel), rfl⟩
theorem iX3_comesIn_108 : xl_D mX3_comesIn 108 (.ireturn) 1 109 := ⟨zd zq_17 (by decide +kernel), rfl⟩
theorem iX3_isBehind_0 : xl_D mX3_isBehind 0 (.aload_n 0) 1 1 := ⟨zd zq_0 (by decide +kernel), rfl⟩
theorem iX3_isBehind_1 : xl_D mX3_isBehind 1 (.iload_n 1) 1 2 := ⟨zd zq_3 (by decide +kernel), rfl⟩
theorem iX3_isBehind_2 : xl_D mX3_isBehind 2 (.iload_n 2) 1 3 := ⟨zd zq_6 (by decide +kernel), rfl⟩
theorem iX3_isBehind_3 : xl_D mX3_isBehind 3 (.iconst 0) 1 4 := ⟨zd zq_2 (by decide +kernel), rfl⟩
theorem iX3_isBehind_4 : xl_Ca mX3_isBehind 4 mX3_ofSession 7 := ⟨136, zd zq_568 (by decide +kernel), rfl, lX3_136, Nat.le_of_ble_eq_true rfl, Nat.le_of_ble_eq_true rfl⟩
theorem iX3_isBehind_7 : xl_D mX3_isBehind 7 (.istore_n 3) 1 8 := ⟨zd zq_131 (by decide +kernel), rfl⟩
theorem iX3_isBehind_8 : xl_D mX3_isBehind 8 (.iload_n 3) 1 9 := ⟨zd zq_25 (by decide +kernel), rfl⟩
theorem iX3_isBehind_9 : xl_D mX3_isBehind 9 (.aload_n 0) 1 10 := ⟨zd zq_0 (by decide +kernel), rfl⟩
theorem iX3_isBehind_10 : xl_G mX3_isBehind 10 3 9 13 := ⟨56, zd zq_567 (by decide +kernel), rfl, fX3_56⟩
theorem iX3_isBehind_13 : xl_D mX3_isBehind 13 (.iconst 0) 1 14 := ⟨zd zq_2 (by decide +kernel), rfl⟩
theorem iX3_isBehind_14 : xl_D mX3_isBehind 14 (.iaload) 1 15 := ⟨zd zq_20 (by decide +kernel), rfl⟩
theorem iX3_isBehind_15 : xl_J mX3_isBehind 15 (fun o => .if_icmp .gt o) 18 44 := ⟨29, zd zq_569 (by decide +kernel), rfl, rfl⟩
theorem iX3_isBehind_18 : xl_D mX3_isBehind 18 (.iload_n 3) 1 19 := ⟨zd zq_25 (by decide +kernel), rfl⟩
theorem iX3_isBehind_19 : xl_D mX3_isBehind 19 (.aload_n 0) 1 20 := ⟨zd zq_0 (by decide +kernel), rfl⟩
theorem iX3_isBehind_20 : xl_G mX3_isBehind 20 3 9 23 := ⟨56, zd zq_567 (by decide +kernel), rfl, fX3_56⟩
theorem iX3_isBehind_23 : xl_D mX3_isBehind 23 (.iconst 0) 1 24 := ⟨zd zq_2 (by decide +kernel), rfl⟩
theorem iX3_isBehind_24 : xl_D mX3_isBehind 24 (.iaload) 1 25 := ⟨zd zq_20 (by decide +kernel), rfl⟩
theorem iX3_isBehind_25 : xl_J mX3_isBehind 25 (fun o => .if_icmp .ne o) 28 48 := ⟨23, zd zq_570 (by decide +kernel), rfl, rfl⟩
theorem iX3_isBehind_28 : xl_D mX3_isBehind 28 (.aload_n 0) 1 29 := ⟨zd zq_0 (by decide +kernel), rfl⟩
theorem iX3_isBehind_29 : xl_D mX3_isBehind 29 (.iload_n 1) 1 30 := ⟨zd zq_3 (by decide +kernel), rfl⟩
theorem iX3_isBehind_30 : xl_D mX3_isBehind 30 (.iload_n 2) 1 31 := ⟨zd zq_6 (by decide +kernel), rfl⟩
theorem iX3_isBehind_31 : xl_D mX3_isBehind 31 (.iconst 1) 1 32 := ⟨zd zq_36 (by decide +kernel), rfl⟩
theorem iX3_isBehind_32 : xl_Ca mX3_isBehind 32 mX3_ofSession 35 := ⟨136, zd zq_568 (by decide +kernel), rfl, lX3_136, Nat.le_of_ble_eq_true rfl, Nat.le_of_ble_eq_true rfl⟩
theorem iX3_isBehind_35 : xl_D mX3_isBehind 35 (.aload_n 0) 1 36 := ⟨zd zq_0 (by decide +kernel), rfl⟩
theorem iX3_isBehind_36 : xl_G mX3_isBehind 36 3 9 39 := ⟨56, zd zq_567 (by decide +kernel), rfl, fX3_56⟩
theorem iX3_isBehind_39 : xl_D mX3_isBehind 39 (.iconst 1) 1 40 := ⟨zd zq_36 (by decide +kernel), rfl⟩
theorem iX3_isBehind_40 : xl_D mX3_isBehind 40 (.iaload) 1 41 := ⟨zd zq_20 (by decide +kernel), rfl⟩
theorem iX3_isBehind_41 : xl_J mX3_isBehind 41 (fun o => .if_icmp .le o) 44 48 := ⟨7, zd zq_182 (by decide +kernel), rfl, rfl⟩
theorem iX3_isBehind_44 : xl_D mX3_isBehind 44 (.iconst 1) 1 45 := ⟨zd zq_36 (by decide +kernel), rfl⟩
theorem iX3_isBehind_45 : xl_J mX3_isBehind 45 (fun o => .goto o) 48 49 := ⟨4, zd zq_139 (by decide +kernel), rfl, rfl⟩
theorem iX3_isBehind_48 : xl_D mX3_isBehind 48 (.iconst 0) 1 49 := ⟨zd zq_2 (by decide +kernel), rfl⟩
theorem iX3_isBehind_49 : xl_D mX3_isBehind 49 (.ireturn) 1 50 := ⟨zd zq_17 (by decide +kernel), rfl⟩
theorem iX3_sends_0 : xl_D mX3_sends 0 (.aload_n 0) 1 1 := ⟨zd zq_0 (by decide +kernel), rfl⟩
theorem iX3_sends_1 : xl_D mX3_sends 1 (.iload_n 1) 1 2 := ⟨zd zq_3 (by decide +kernel), rfl⟩
theorem iX3_sends_2 : xl_D mX3_sends 2 (.bipush 7) 2 4 := ⟨zd zq_68 (by decide +kernel), rfl⟩
theorem iX3_sends_4 : xl_Ca mX3_sends 4 mX3_of 7 := ⟨116, zd zq_555 (by decide +kernel), rfl, lX3_116, Nat.le_of_ble_eq_true rfl, Nat.le_of_ble_eq_true rfl⟩
theorem iX3_sends_7 : xl_D mX3_sends 7 (.istore 4) 2 9 := ⟨zd zq_50 (by decide +kernel), rfl⟩
theorem iX3_sends_9 : xl_D mX3_sends 9 (.iload_n 1) 1 10 := ⟨zd zq_3 (by decide +kernel), rfl⟩
theorem iX3_sends_10 : xl_D mX3_sends 10 (.sipush 2804) 3 13 := ⟨zd zq_536 (by decide +kernel), rfl⟩
theorem iX3_sends_13 : xl_D mX3_sends 13 (.imul) 1 14 := ⟨zd zq_10 (by decide +kernel), rfl⟩
theorem iX3_sends_14 : xl_D mX3_sends 14 (.sipush 1484) 3 17 := ⟨zd zq_571 (by decide +kernel), rfl⟩
theorem iX3_sends_17 : xl_D mX3_sends 17 (.iadd) 1 18 := ⟨zd zq_19 (by decide +kernel), rfl⟩
theorem iX3_sends_18 : xl_D mX3_sends 18 (.bipush 6) 2 20 := ⟨zd zq_71 (by decide +kernel), rfl⟩
theorem iX3_sends_20 : xl_D mX3_sends 20 (.iload 4) 2 22 := ⟨zd zq_51 (by decide +kernel), rfl⟩
theorem iX3_sends_22 : xl_D mX3_sends 22 (.bipush 60) 2 24 := ⟨zd zq_70 (by decide +kernel), rfl⟩
theorem iX3_sends_24 : xl_D mX3_sends 24 (.irem) 1 25 := ⟨zd zq_191 (by decide +kernel), rfl⟩
theorem iX3_sends_25 : xl_D mX3_sends 25 (.imul) 1 26 := ⟨zd zq_10 (by decide +kernel), rfl⟩
theorem iX3_sends_26 : xl_D mX3_sends 26 (.iadd) 1 27 := ⟨zd zq_19 (by decide +kernel), rfl⟩
theorem iX3_sends_27 : xl_D mX3_sends 27 (.istore 5) 2 29 := ⟨zd zq_91 (by decide +kernel), rfl⟩
theorem iX3_sends_29 : xl_D mX3_sends 29 (.aload_n 0) 1 30 := ⟨zd zq_0 (by decide +kernel), rfl⟩
theorem iX3_sends_30 : xl_G mX3_sends 30 3 7 33 := ⟨53, zd zq_537 (by decide +kernel), rfl, fX3_53⟩
theorem iX3_sends_33 : xl_D mX3_sends 33 (.iload 5) 2 35 := ⟨zd zq_92 (by decide +kernel), rfl⟩
theorem iX3_sends_35 : xl_D mX3_sends 35 (.iload_n 2) 1 36 := ⟨zd zq_6 (by decide +kernel), rfl⟩
theorem iX3_sends_36 : xl_D mX3_sends 36 (.iastore) 1 37 := ⟨zd zq_26 (by decide +kernel), rfl⟩
theorem iX3_sends_37 : xl_D mX3_sends 37 (.iconst 0) 1 38 := ⟨zd zq_2 (by decide +kernel), rfl⟩
theorem iX3_sends_38 : xl_D mX3_sends 38 (.istore 6) 2 40 := ⟨zd zq_119 (by decide +kernel), rfl⟩
theorem iX3_sends_40 : xl_D mX3_sends 40 (.iload 6) 2 42 := ⟨zd zq_125 (by decide +kernel), rfl⟩
theorem iX3_sends_42 : xl_D mX3_sends 42 (.iconst 5) 1 43 := ⟨zd zq_64 (by decide +kernel), rfl⟩
theorem iX3_sends_43 : xl_J mX3_sends 43 (fun o => .if_icmp .ge o) 46 72 := ⟨29, zd zq_22 (by decide +kernel), rfl, rfl⟩
theorem iX3_sends_46 : xl_D mX3_sends 46 (.aload_n 0) 1 47 := ⟨zd zq_0 (by decide +kernel), rfl⟩
theorem iX3_sends_47 : xl_G mX3_sends 47 3 7 50 := ⟨53, zd zq_537 (by decide +kernel), rfl, fX3_53⟩
theorem iX3_sends_50 : xl_D mX3_sends 50 (.iload 5) 2 52 := ⟨zd zq_92 (by decide +kernel), rfl⟩
theorem iX3_sends_52 : xl_D mX3_sends 52 (.iconst 1) 1 53 := ⟨zd zq_36 (by decide +kernel), rfl⟩
theorem iX3_sends_53 : xl_D mX3_sends 53 (.iadd) 1 54 := ⟨zd zq_19 (by decide +kernel), rfl⟩
theorem iX3_sends_54 : xl_D mX3_sends 54 (.iload 6) 2 56 := ⟨zd zq_125 (by decide +kernel), rfl⟩
theorem iX3_sends_56 : xl_D mX3_sends 56 (.iadd) 1 57 := ⟨zd zq_19 (by decide +kernel), rfl⟩
theorem iX3_sends_57 : xl_D mX3_sends 57 (.aload_n 0) 1 58 := ⟨zd zq_0 (by decide +kernel), rfl⟩
theorem iX3_sends_58 : xl_D mX3_sends 58 (.iload_n 1) 1 59 := ⟨zd zq_3 (by decide +kernel), rfl⟩
theorem iX3_sends_59 : xl_D mX3_sends 59 (.iload_n 3) 1 60 := ⟨zd zq_25 (by decide +kernel), rfl⟩
theorem iX3_sends_60 : xl_D mX3_sends 60 (.iload 6) 2 62 := ⟨zd zq_125 (by decide +kernel), rfl⟩
theorem iX3_sends_62 : xl_Ca mX3_sends 62 mX3_ofSession 65 := ⟨136, zd zq_568 (by decide +kernel), rfl, lX3_136, Nat.le_of_ble_eq_true rfl, Nat.le_of_ble_eq_true rfl⟩
theorem iX3_sends_65 : xl_D mX3_sends 65 (.iastore) 1 66 := ⟨zd zq_26 (by decide +kernel), rfl⟩
theorem iX3_sends_66 : xl_D mX3_sends 66 (.iinc 6 1) 3 69 := ⟨zd zq_406 (by decide +kernel), rfl⟩
theorem iX3_sends_69 : xl_J mX3_sends 69 (fun o => .goto o) 72 40 := ⟨-29, zd zq_572 (by decide +kernel), rfl, rfl⟩
theorem iX3_sends_72 : xl_D mX3_sends 72 (.aload_n 0) 1 73 := ⟨zd zq_0 (by decide +kernel), rfl⟩
theorem iX3_sends_73 : xl_D mX3_sends 73 (.iload_n 1) 1 74 := ⟨zd zq_3 (by decide +kernel), rfl⟩
theorem iX3_sends_74 : xl_D mX3_sends 74 (.bipush 7) 2 76 := ⟨zd zq_68 (by decide +kernel), rfl⟩
theorem iX3_sends_76 : xl_D mX3_sends 76 (.iconst 1) 1 77 := ⟨zd zq_36 (by decide +kernel), rfl⟩
theorem iX3_sends_77 : xl_Ca mX3_sends 77 mX3_adds 80 := ⟨129, zd zq_560 (by decide +kernel), rfl, lX3_129, Nat.le_of_ble_eq_true rfl, Nat.le_of_ble_eq_true rfl⟩
theorem iX3_sends_80 : xl_D mX3_sends 80 (.aload_n 0) 1 81 := ⟨zd zq_0 (by decide +kernel), rfl⟩
theorem iX3_sends_81 : xl_D mX3_sends 81 (.iload_n 1) 1 82 := ⟨zd zq_3 (by decide +kernel), rfl⟩
theorem iX3_sends_82 : xl_D mX3_sends 82 (.bipush 32) 2 84 := ⟨zd zq_573 (by decide +kernel), rfl⟩
theorem iX3_sends_84 : xl_D mX3_sends 84 (.iload_n 2) 1 85 := ⟨zd zq_6 (by decide +kernel), rfl⟩
theorem iX3_sends_85 : xl_D mX3_sends 85 (.iadd) 1 86 := ⟨zd zq_19 (by decide +kernel), rfl⟩
theorem iX3_sends_86 : xl_D mX3_sends 86 (.iconst 1) 1 87 := ⟨zd zq_36 (by decide +kernel), rfl⟩
theorem iX3_sends_87 : xl_Ca mX3_sends 87 mX3_adds 90 := ⟨129, zd zq_560 (by decide +kernel), rfl, lX3_129, Nat.le_of_ble_eq_true rfl, Nat.le_of_ble_eq_true rfl⟩
theorem iX3_sends_90 : xl_D mX3_sends 90 (.aload_n 0) 1 91 := ⟨zd zq_0 (by decide +kernel), rfl⟩
theorem iX3_sends_91 : xl_D mX3_sends 91 (.iload_n 1) 1 92 := ⟨zd zq_3 (by decide +kernel), rfl⟩
theorem iX3_sends_92 : xl_D mX3_sends 92 (.bipush 60) 2 94 := ⟨zd zq_70 (by decide +kernel), rfl⟩
theorem iX3_sends_94 : xl_D mX3_sends 94 (.iconst 4) 1 95 := ⟨zd zq_63 (by decide +kernel), rfl⟩
theorem iX3_sends_95 : xl_D mX3_sends 95 (.aload_n 0) 1 96 := ⟨zd zq_0 (by decide +kernel), rfl⟩
theorem iX3_sends_96 : xl_D mX3_sends 96 (.iload_n 1) 1 97 := ⟨zd zq_3 (by decide +kernel), rfl⟩
theorem iX3_sends_97 : xl_D mX3_sends 97 (.iload_n 3) 1 98 := ⟨zd zq_25 (by decide +kernel), rfl⟩
theorem iX3_sends_98 : xl_D mX3_sends 98 (.iconst 0) 1 99 := ⟨zd zq_2 (by decide +kernel), rfl⟩
theorem iX3_sends_99 : xl_Ca mX3_sends 99 mX3_ofSession 102 := ⟨136, zd zq_568 (by decide +kernel), rfl, lX3_136, Nat.le_of_ble_eq_true rfl, Nat.le_of_ble_eq_true rfl⟩
theorem iX3_sends_102 : xl_D mX3_sends 102 (.imul) 1 103 := ⟨zd zq_10 (by decide +kernel), rfl⟩
theorem iX3_sends_103 : xl_D mX3_sends 103 (.iadd) 1 104 := ⟨zd zq_19 (by decide +kernel), rfl⟩
theorem iX3_sends_104 : xl_D mX3_sends 104 (.iload_n 2) 1 105 := ⟨zd zq_6 (by decide +kernel), rfl⟩
theorem iX3_sends_105 : xl_D mX3_sends 105 (.iadd) 1 106 := ⟨zd zq_19 (by decide +kernel), rfl⟩
theorem iX3_sends_106 : xl_D mX3_sends 106 (.iconst 1) 1 107 := ⟨zd zq_36 (by decide +kernel), rfl⟩
theorem iX3_sends_107 : xl_Ca mX3_sends 107 mX3_adds 110 := ⟨129, zd zq_560 (by decide +kernel), rfl, lX3_129, Nat.le_of_ble_eq_true rfl, Nat.le_of_ble_eq_true rfl⟩
theorem iX3_sends_110 : xl_D mX3_sends 110 (.aload_n 0) 1 111 := ⟨zd zq_0 (by decide +kernel), rfl⟩
theorem iX3_sends_111 : xl_G mX3_sends 111 3 7 114 := ⟨53, zd zq_537 (by decide +kernel), rfl, fX3_53⟩
theorem iX3_sends_114 : xl_D mX3_sends 114 (.iload_n 1) 1 115 := ⟨zd zq_3 (by decide +kernel), rfl⟩
theorem iX3_sends_115 : xl_D mX3_sends 115 (.iload_n 3) 1 116 := ⟨zd zq_25 (by decide +kernel), rfl⟩
theorem iX3_sends_116 : xl_Cs mX3_sends 116 mX3_place 119 := ⟨126, zd zq_559 (by decide +kernel), rfl, lX3_126, Nat.le_of_ble_eq_true rfl, Nat.le_of_ble_eq_true rfl⟩
theorem iX3_sends_119 : xl_D mX3_sends 119 (.bipush 6) 2 121 := ⟨zd zq_71 (by decide +kernel), rfl⟩
theorem iX3_sends_121 : xl_D mX3_sends 121 (.iadd) 1 122 := ⟨zd zq_19 (by decide +kernel), rfl⟩
theorem iX3_sends_122 : xl_D mX3_sends 122 (.iload_n 2) 1 123 := ⟨zd zq_6 (by decide +kernel), rfl⟩
theorem iX3_sends_123 : xl_D mX3_sends 123 (.iconst 3) 1 124 := ⟨zd zq_123 (by decide +kernel), rfl⟩
theorem iX3_sends_124 : xl_J mX3_sends 124 (fun o => .if_icmp .ne o) 127 131 := ⟨7, zd zq_138 (by decide +kernel), rfl, rfl⟩
theorem iX3_sends_127 : xl_D mX3_sends 127 (.iconst 0) 1 128 := ⟨zd zq_2 (by decide +kernel), rfl⟩
theorem iX3_sends_128 : xl_J mX3_sends 128 (fun o => .goto o) 131 134 := ⟨6, zd zq_364 (by decide +kernel), rfl, rfl⟩
theorem iX3_sends_131 : xl_D mX3_sends 131 (.iconst 1) 1 132 := ⟨zd zq_36 (by decide +kernel), rfl⟩
theorem iX3_sends_132 : xl_D mX3_sends 132 (.iload_n 2) 1 133 := ⟨zd zq_6 (by decide +kernel), rfl⟩
theorem iX3_sends_133 : xl_D mX3_sends 133 (.iadd) 1 134 := ⟨zd zq_19 (by decide +kernel), rfl⟩
theorem iX3_sends_134 : xl_D mX3_sends 134 (.iastore) 1 135 := ⟨zd zq_26 (by decide +kernel), rfl⟩
theorem iX3_sends_135 : xl_D mX3_sends 135 (.return_) 1 136 := ⟨zd zq_12 (by decide +kernel), rfl⟩
theorem iX3_takesBack_0 : xl_D mX3_takesBack 0 (.aload_n 0) 1 1 := ⟨zd zq_0 (by decide +kernel), rfl⟩
theorem iX3_takesBack_1 : xl_D mX3_takesBack 1 (.iload_n 1) 1 2 := ⟨zd zq_3 (by decide +kernel), rfl⟩
theorem iX3_takesBack_2 : xl_D mX3_takesBack 2 (.iload_n 2) 1 3 := ⟨zd zq_6 (by decide +kernel), rfl⟩
theorem iX3_takesBack_3 : xl_D mX3_takesBack 3 (.bipush 6) 2 5 := ⟨zd zq_71 (by decide +kernel), rfl⟩
theorem iX3_takesBack_5 : xl_Ca mX3_takesBack 5 mX3_ofSession 8 := ⟨136, zd zq_568 (by decide +kernel), rfl, lX3_136, Nat.le_of_ble_eq_true rfl, Nat.le_of_ble_eq_true rfl⟩
theorem iX3_takesBack_8 : xl_J mX3_takesBack 8 (fun o => .ifCond .le o) 11 18 := ⟨10, zd zq_574 (by decide +kernel), rfl, rfl⟩
theorem iX3_takesBack_11 : xl_D mX3_takesBack 11 (.aload_n 0) 1 12 := ⟨zd zq_0 (by decide +kernel), rfl⟩
theorem iX3_takesBack_12 : xl_D mX3_takesBack 12 (.iload_n 1) 1 13 := ⟨zd zq_3 (by decide +kernel), rfl⟩
theorem iX3_takesBack_13 : xl_D mX3_takesBack 13 (.iconst 3) 1 14 := ⟨zd zq_123 (by decide +kernel), rfl⟩
theorem iX3_takesBack_14 : xl_D mX3_takesBack 14 (.iload_n 2) 1 15 := ⟨zd zq_6 (by decide +kernel), rfl⟩
theorem iX3_takesBack_15 : xl_Ca mX3_takesBack 15 mX3_sends 18 := ⟨140, zd zq_575 (by decide +kernel), rfl, lX3_140, Nat.le_of_ble_eq_true rfl, Nat.le_of_ble_eq_true rfl⟩
theorem iX3_takesBack_18 : xl_D mX3_takesBack 18 (.return_) 1 19 := ⟨zd zq_12 (by decide +kernel), rfl⟩
theorem iX3_isRipeBy_0 : xl_D mX3_isRipeBy 0 (.aload_n 0) 1 1 := ⟨zd zq_0 (by decide +kernel), rfl⟩
theorem iX3_isRipeBy_1 : xl_D mX3_isRipeBy 1 (.iload_n 1) 1 2 := ⟨zd zq_3 (by decide +kernel), rfl⟩
theorem iX3_isRipeBy_2 : xl_D mX3_isRipeBy 2 (.iload_n 2) 1 3 := ⟨zd zq_6 (by decide +kernel), rfl⟩
theorem iX3_isRipeBy_3 : xl_D mX3_isRipeBy 3 (.iconst 2) 1 4 := ⟨zd zq_127 (by decide +kernel), rfl⟩
theorem iX3_isRipeBy_4 : xl_Ca mX3_isRipeBy 4 mX3_ofSession 7 := ⟨136, zd zq_568 (by decide +kernel), rfl, lX3_136, Nat.le_of_ble_eq_true rfl, Nat.le_of_ble_eq_true rfl⟩
theorem iX3_isRipeBy_7 : xl_D mX3_isRipeBy 7 (.aload_n 0) 1 8 := ⟨zd zq_0 (by decide +kernel), rfl⟩
theorem iX3_isRipeBy_8 : xl_D mX3_isRipeBy 8 (.iload_n 1) 1 9 := ⟨zd zq_3 (by decide +kernel), rfl⟩
theorem iX3_isRipeBy_9 : xl_D mX3_isRipeBy 9 (.iconst 1) 1 10 := ⟨zd zq_36 (by decide +kernel), rfl⟩
theorem iX3_isRipeBy_10 : xl_Ca mX3_isRipeBy 10 mX3_of 13 := ⟨116, zd zq_555 (by decide +kernel), rfl, lX3_116, Nat.le_of_ble_eq_true rfl, Nat.le_of_ble_eq_true rfl⟩
theorem iX3_isRipeBy_13 : xl_D mX3_isRipeBy 13 (.iadd) 1 14 := ⟨zd zq_19 (by decide +kernel), rfl⟩
theorem iX3_isRipeBy_14 : xl_D mX3_isRipeBy 14 (.iload_n 3) 1 15 := ⟨zd zq_25 (by decide +kernel), rfl⟩
theorem iX3_isRipeBy_15 : xl_J mX3_isRipeBy 15 (fun o => .if_icmp .ge o) 18 22 := ⟨7, zd zq_145 (by decide +kernel), rfl, rfl⟩
theorem iX3_isRipeBy_18 : xl_D mX3_isRipeBy 18 (.iconst 1) 1 19 := ⟨zd zq_36 (by decide +kernel), rfl⟩
theorem iX3_isRipeBy_19 : xl_J mX3_isRipeBy 19 (fun o => .goto o) 22 23 := ⟨4, zd zq_139 (by decide +kernel), rfl, rfl⟩
theorem iX3_isRipeBy_22 : xl_D mX3_isRipeBy 22 (.iconst 0) 1 23 := ⟨zd zq_2 (by decide +kernel), rfl⟩
theorem iX3_isRipeBy_23 : xl_D mX3_isRipeBy 23 (.ireturn) 1 24 := ⟨zd zq_17 (by decide +kernel), rfl⟩
theorem iX3_isClosedBy_0 : xl_D mX3_isClosedBy 0 (.aload_n 0) 1 1 := ⟨zd zq_0 (by decide +kernel), rfl⟩
theorem iX3_isClosedBy_1 : xl_D mX3_isClosedBy 1 (.iload_n 1) 1 2 := ⟨zd zq_3 (by decide +kernel), rfl⟩
theorem iX3_isClosedBy_2 : xl_D mX3_isClosedBy 2 (.iload_n 2) 1 3 := ⟨zd zq_6 (by decide +kernel), rfl⟩
theorem iX3_isClosedBy_3 : xl_D mX3_isClosedBy 3 (.iconst 2) 1 4 := ⟨zd zq_127 (by decide +kernel), rfl⟩
theorem iX3_isClosedBy_4 : xl_Ca mX3_isClosedBy 4 mX3_ofSession 7 := ⟨136, zd zq_568 (by decide +kernel), rfl, lX3_136, Nat.le_of_ble_eq_true rfl, Nat.le_of_ble_eq_true rfl⟩
theorem iX3_isClosedBy_7 : xl_D mX3_isClosedBy 7 (.aload_n 0) 1 8 := ⟨zd zq_0 (by decide +kernel), rfl⟩
theorem iX3_isClosedBy_8 : xl_D mX3_isClosedBy 8 (.iload_n 1) 1 9 := ⟨zd zq_3 (by decide +kernel), rfl⟩
theorem iX3_isClosedBy_9 : xl_D mX3_isClosedBy 9 (.iconst 1) 1 10 := ⟨zd zq_36 (by decide +kernel), rfl⟩
theorem iX3_isClosedBy_10 : xl_Ca mX3_isClosedBy 10 mX3_of 13 := ⟨116, zd zq_555 (by decide +kernel), rfl, lX3_116, Nat.le_of_ble_eq_true rfl, Nat.le_of_ble_eq_true rfl⟩
theorem iX3_isClosedBy_13 : xl_D mX3_isClosedBy 13 (.iadd) 1 14 := ⟨zd zq_19 (by decide +kernel), rfl⟩
theorem iX3_isClosedBy_14 : xl_D mX3_isClosedBy 14 (.aload_n 0) 1 15 := ⟨zd zq_0 (by decide +kernel), rfl⟩
theorem iX3_isClosedBy_15 : xl_D mX3_isClosedBy 15 (.iload_n 1) 1 16 := ⟨zd zq_3 (by decide +kernel), rfl⟩
theorem iX3_isClosedBy_16 : xl_D mX3_isClosedBy 16 (.iconst 2) 1 17 := ⟨zd zq_127 (by decide +kernel), rfl⟩
theorem iX3_isClosedBy_17 : xl_Ca mX3_isClosedBy 17 mX3_of 20 := ⟨116, zd zq_555 (by decide +kernel), rfl, lX3_116, Nat.le_of_ble_eq_true rfl, Nat.le_of_ble_eq_true rfl⟩
theorem iX3_isClosedBy_20 : xl_D mX3_isClosedBy 20 (.iadd) 1 21 := ⟨zd zq_19 (by decide +kernel), rfl⟩
theorem iX3_isClosedBy_21 : xl_D mX3_isClosedBy 21 (.iload_n 3) 1 22 := ⟨zd zq_25 (by decide +kernel), rfl⟩
theorem iX3_isClosedBy_22 : xl_J mX3_isClosedBy 22 (fun o => .if_icmp .ge o) 25 29 := ⟨7, zd zq_145 (by decide +kernel), rfl, rfl⟩
theorem iX3_isClosedBy_25 : xl_D mX3_isClosedBy 25 (.iconst 1) 1 26 := ⟨zd zq_36 (by decide +kernel), rfl⟩
theorem iX3_isClosedBy_26 : xl_J mX3_isClosedBy 26 (fun o => .goto o) 29 30 := ⟨4, zd zq_139 (by decide +kernel), rfl, rfl⟩
theorem iX3_isClosedBy_29 : xl_D mX3_isClosedBy 29 (.iconst 0) 1 30 := ⟨zd zq_2 (by decide +kernel), rfl⟩
theorem iX3_isClosedBy_30 : xl_D mX3_isClosedBy 30 (.ireturn) 1 31 := ⟨zd zq_17 (by decide +kernel), rfl⟩
theorem iX3_leastMark_0 : xl_D mX3_leastMark 0 (.iconst (-1)) 1 1 := ⟨zd zq_104 (by decide +kernel), rfl⟩
theorem iX3_leastMark_1 : xl_D mX3_leastMark 1 (.istore_n 2) 1 2 := ⟨zd zq_41 (by decide +kernel), rfl⟩
theorem iX3_leastMark_2 : xl_D mX3_leastMark 2 (.iconst 0) 1 3 := ⟨zd zq_2 (by decide +kernel), rfl⟩
theorem iX3_leastMark_3 : xl_D mX3_leastMark 3 (.istore_n 3) 1 4 := ⟨zd zq_131 (by decide +kernel), rfl⟩
theorem iX3_leastMark_4 : xl_D mX3_leastMark 4 (.iload_n 3) 1 5 := ⟨zd zq_25 (by decide +kernel), rfl⟩
theorem iX3_leastMark_5 : xl_D mX3_leastMark 5 (.aload_n 0) 1 6 := ⟨zd zq_0 (by decide +kernel), rfl⟩
theorem iX3_leastMark_6 : xl_D mX3_leastMark 6 (.iload_n 1) 1 7 := ⟨zd zq_3 (by decide +kernel), rfl⟩
theorem iX3_leastMark_7 : xl_D mX3_leastMark 7 (.iconst 0) 1 8 := ⟨zd zq_2 (by decide +kernel), rfl⟩
theorem iX3_leastMark_8 : xl_Ca mX3_leastMark 8 mX3_of 11 := ⟨116, zd zq_555 (by decide +kernel), rfl, lX3_116, Nat.le_of_ble_eq_true rfl, Nat.le_of_ble_eq_true rfl⟩
theorem iX3_leastMark_11 : xl_J mX3_leastMark 11 (fun o => .if_icmp .ge o) 14 59 := ⟨48, zd zq_374 (by decide +kernel), rfl, rfl⟩
theorem iX3_leastMark_14 : xl_D mX3_leastMark 14 (.aload_n 0) 1 15 := ⟨zd zq_0 (by decide +kernel), rfl⟩
theorem iX3_leastMark_15 : xl_D mX3_leastMark 15 (.iload_n 1) 1 16 := ⟨zd zq_3 (by decide +kernel), rfl⟩
theorem iX3_leastMark_16 : xl_D mX3_leastMark 16 (.bipush 20) 2 18 := ⟨zd zq_96 (by decide +kernel), rfl⟩
theorem iX3_leastMark_18 : xl_D mX3_leastMark 18 (.iload_n 3) 1 19 := ⟨zd zq_25 (by decide +kernel), rfl⟩
theorem iX3_leastMark_19 : xl_D mX3_leastMark 19 (.iadd) 1 20 := ⟨zd zq_19 (by decide +kernel), rfl⟩
theorem iX3_leastMark_20 : xl_Ca mX3_leastMark 20 mX3_of 23 := ⟨116, zd zq_555 (by decide +kernel), rfl, lX3_116, Nat.le_of_ble_eq_true rfl, Nat.le_of_ble_eq_true rfl⟩
theorem iX3_leastMark_23 : xl_J mX3_leastMark 23 (fun o => .ifCond .ne o) 26 53 := ⟨30, zd zq_576 (by decide +kernel), rfl, rfl⟩
theorem iX3_leastMark_26 : xl_D mX3_leastMark 26 (.iload_n 2) 1 27 := ⟨zd zq_6 (by decide +kernel), rfl⟩
theorem iX3_leastMark_27 : xl_J mX3_leastMark 27 (fun o => .ifCond .lt o) 30 43 := ⟨16, zd zq_577 (by decide +kernel), rfl, rfl⟩
theorem iX3_leastMark_30 : xl_D mX3_leastMark 30 (.aload_n 0) 1 31 := ⟨zd zq_0 (by decide +kernel), rfl⟩
theorem iX3_leastMark_31 : xl_D mX3_leastMark 31 (.iload_n 1) 1 32 := ⟨zd zq_3 (by decide +kernel), rfl⟩
theorem iX3_leastMark_32 : xl_D mX3_leastMark 32 (.bipush 12) 2 34 := ⟨zd zq_578 (by decide +kernel), rfl⟩
theorem iX3_leastMark_34 : xl_D mX3_leastMark 34 (.iload_n 3) 1 35 := ⟨zd zq_25 (by decide +kernel), rfl⟩
theorem iX3_leastMark_35 : xl_D mX3_leastMark 35 (.iadd) 1 36 := ⟨zd zq_19 (by decide +kernel), rfl⟩
theorem iX3_leastMark_36 : xl_Ca mX3_leastMark 36 mX3_of 39 := ⟨116, zd zq_555 (by decide +kernel), rfl, lX3_116, Nat.le_of_ble_eq_true rfl, Nat.le_of_ble_eq_true rfl⟩
theorem iX3_leastMark_39 : xl_D mX3_leastMark 39 (.iload_n 2) 1 40 := ⟨zd zq_6 (by decide +kernel), rfl⟩
theorem iX3_leastMark_40 : xl_J mX3_leastMark 40 (fun o => .if_icmp .ge o) 43 53 := ⟨13, zd zq_288 (by decide +kernel), rfl, rfl⟩
theorem iX3_leastMark_43 : xl_D mX3_leastMark 43 (.aload_n 0) 1 44 := ⟨zd zq_0 (by decide +kernel), rfl⟩
theorem iX3_leastMark_44 : xl_D mX3_leastMark 44 (.iload_n 1) 1 45 := ⟨zd zq_3 (by decide +kernel), rfl⟩
theorem iX3_leastMark_45 : xl_D mX3_leastMark 45 (.bipush 12) 2 47 := ⟨zd zq_578 (by decide +kernel), rfl⟩
theorem iX3_leastMark_47 : xl_D mX3_leastMark 47 (.iload_n 3) 1 48 := ⟨zd zq_25 (by decide +kernel), rfl⟩
theorem iX3_leastMark_48 : xl_D mX3_leastMark 48 (.iadd) 1 49 := ⟨zd zq_19 (by decide +kernel), rfl⟩
theorem iX3_leastMark_49 : xl_Ca mX3_leastMark 49 mX3_of 52 := ⟨116, zd zq_555 (by decide +kernel), rfl, lX3_116, Nat.le_of_ble_eq_true rfl, Nat.le_of_ble_eq_true rfl⟩
theorem iX3_leastMark_52 : xl_D mX3_leastMark 52 (.istore_n 2) 1 53 := ⟨zd zq_41 (by decide +kernel), rfl⟩
theorem iX3_leastMark_53 : xl_D mX3_leastMark 53 (.iinc 3 1) 3 56 := ⟨zd zq_153 (by decide +kernel), rfl⟩
theorem iX3_leastMark_56 : xl_J mX3_leastMark 56 (fun o => .goto o) 59 4 := ⟨-52, zd zq_481 (by decide +kernel), rfl, rfl⟩
theorem iX3_leastMark_59 : xl_D mX3_leastMark 59 (.iload_n 2) 1 60 := ⟨zd zq_6 (by decide +kernel), rfl⟩
theorem iX3_leastMark_60 : xl_D mX3_leastMark 60 (.ireturn) 1 61 := ⟨zd zq_17 (by decide +kernel), rfl⟩
theorem iX3_firstRipe_0 : xl_D mX3_firstRipe 0 (.iconst (-1)) 1 1 := ⟨zd zq_104 (by decide +kernel), rfl⟩
theorem iX3_firstRipe_1 : xl_D mX3_firstRipe 1 (.istore_n 3) 1 2 := ⟨zd zq_131 (by decide +kernel), rfl⟩
theorem iX3_firstRipe_2 : xl_D mX3_firstRipe 2 (.iconst 0) 1 3 := ⟨zd zq_2 (by decide +kernel), rfl⟩
theorem iX3_firstRipe_3 : xl_D mX3_firstRipe 3 (.istore 4) 2 5 := ⟨zd zq_50 (by decide +kernel), rfl⟩
theorem iX3_firstRipe_5 : xl_D mX3_firstRipe 5 (.iload 4) 2 7 := ⟨zd zq_51 (by decide +kernel), rfl⟩
theorem iX3_firstRipe_7 : xl_D mX3_firstRipe 7 (.aload_n 0) 1 8 := ⟨zd zq_0 (by decide +kernel), rfl⟩
theorem iX3_firstRipe_8 : xl_D mX3_firstRipe 8 (.iload_n 1) 1 9 := ⟨zd zq_3 (by decide +kernel), rfl⟩
theorem iX3_firstRipe_9 : xl_D mX3_firstRipe 9 (.iconst 5) 1 10 := ⟨zd zq_64 (by decide +kernel), rfl⟩
theorem iX3_firstRipe_10 : xl_Ca mX3_firstRipe 10 mX3_of 13 := ⟨116, zd zq_555 (by decide +kernel), rfl, lX3_116, Nat.le_of_ble_eq_true rfl, Nat.le_of_ble_eq_true rfl⟩
theorem iX3_firstRipe_13 : xl_J mX3_firstRipe 13 (fun o => .if_icmp .ge o) 16 96 := ⟨83, zd zq_579 (by decide +kernel), rfl, rfl⟩
theorem iX3_firstRipe_16 : xl_D mX3_firstRipe 16 (.aload_n 0) 1 17 := ⟨zd zq_0 (by decide +kernel), rfl⟩
theorem iX3_firstRipe_17 : xl_D mX3_firstRipe 17 (.iload_n 1) 1 18 := ⟨zd zq_3 (by decide +kernel), rfl⟩
theorem iX3_firstRipe_18 : xl_D mX3_firstRipe 18 (.iload 4) 2 20 := ⟨zd zq_51 (by decide +kernel), rfl⟩
theorem iX3_firstRipe_20 : xl_D mX3_firstRipe 20 (.aload_n 0) 1 21 := ⟨zd zq_0 (by decide +kernel), rfl⟩
theorem iX3_firstRipe_21 : xl_D mX3_firstRipe 21 (.iload_n 1) 1 22 := ⟨zd zq_3 (by decide +kernel), rfl⟩
theorem iX3_firstRipe_22 : xl_D mX3_firstRipe 22 (.iconst 4) 1 23 := ⟨zd zq_63 (by decide +kernel), rfl⟩
theorem iX3_firstRipe_23 : xl_Ca mX3_firstRipe 23 mX3_of 26 := ⟨116, zd zq_555 (by decide +kernel), rfl, lX3_116, Nat.le_of_ble_eq_true rfl, Nat.le_of_ble_eq_true rfl⟩
theorem iX3_firstRipe_26 : xl_Ca mX3_firstRipe 26 mX3_isRipeBy 29 := ⟨143, zd zq_580 (by decide +kernel), rfl, lX3_143, Nat.le_of_ble_eq_true rfl, Nat.le_of_ble_eq_true rfl⟩
theorem iX3_firstRipe_29 : xl_J mX3_firstRipe 29 (fun o => .ifCond .eq o) 32 57 := ⟨28, zd zq_421 (by decide +kernel), rfl, rfl⟩
theorem iX3_firstRipe_32 : xl_D mX3_firstRipe 32 (.aload_n 0) 1 33 := ⟨zd zq_0 (by decide +kernel), rfl⟩
theorem iX3_firstRipe_33 : xl_D mX3_firstRipe 33 (.iload_n 1) 1 34 := ⟨zd zq_3 (by decide +kernel), rfl⟩
theorem iX3_firstRipe_34 : xl_D mX3_firstRipe 34 (.iload 4) 2 36 := ⟨zd zq_51 (by decide +kernel), rfl⟩
theorem iX3_firstRipe_36 : xl_D mX3_firstRipe 36 (.iload_n 2) 1 37 := ⟨zd zq_6 (by decide +kernel), rfl⟩
theorem iX3_firstRipe_37 : xl_Ca mX3_firstRipe 37 mX3_isRipeBy 40 := ⟨143, zd zq_580 (by decide +kernel), rfl, lX3_143, Nat.le_of_ble_eq_true rfl, Nat.le_of_ble_eq_true rfl⟩
theorem iX3_firstRipe_40 : xl_J mX3_firstRipe 40 (fun o => .ifCond .ne o) 43 57 := ⟨17, zd zq_581 (by decide +kernel), rfl, rfl⟩
theorem iX3_firstRipe_43 : xl_D mX3_firstRipe 43 (.aload_n 0) 1 44 := ⟨zd zq_0 (by decide +kernel), rfl⟩
theorem iX3_firstRipe_44 : xl_D mX3_firstRipe 44 (.iload_n 1) 1 45 := ⟨zd zq_3 (by decide +kernel), rfl⟩
theorem iX3_firstRipe_45 : xl_D mX3_firstRipe 45 (.iload 4) 2 47 := ⟨zd zq_51 (by decide +kernel), rfl⟩
theorem iX3_firstRipe_47 : xl_Ca mX3_firstRipe 47 mX3_isDone 50 := ⟨146, zd zq_582 (by decide +kernel), rfl, lX3_146, Nat.le_of_ble_eq_true rfl, Nat.le_of_ble_eq_true rfl⟩
theorem iX3_firstRipe_50 : xl_J mX3_firstRipe 50 (fun o => .ifCond .ne o) 53 57 := ⟨7, zd zq_192 (by decide +kernel), rfl, rfl⟩
theorem iX3_firstRipe_53 : xl_D mX3_firstRipe 53 (.iconst 1) 1 54 := ⟨zd zq_36 (by decide +kernel), rfl⟩
theorem iX3_firstRipe_54 : xl_J mX3_firstRipe 54 (fun o => .goto o) 57 58 := ⟨4, zd zq_139 (by decide +kernel), rfl, rfl⟩
theorem iX3_firstRipe_57 : xl_D mX3_firstRipe 57 (.iconst 0) 1 58 := ⟨zd zq_2 (by decide +kernel), rfl⟩
theorem iX3_firstRipe_58 : xl_D mX3_firstRipe 58 (.istore 5) 2 60 := ⟨zd zq_91 (by decide +kernel), rfl⟩
theorem iX3_firstRipe_60 : xl_D mX3_firstRipe 60 (.iload 5) 2 62 := ⟨zd zq_92 (by decide +kernel), rfl⟩
theorem iX3_firstRipe_62 : xl_J mX3_firstRipe 62 (fun o => .ifCond .eq o) 65 90 := ⟨28, zd zq_421 (by decide +kernel), rfl, rfl⟩
theorem iX3_firstRipe_65 : xl_D mX3_firstRipe 65 (.iload_n 3) 1 66 := ⟨zd zq_25 (by decide +kernel), rfl⟩
theorem iX3_firstRipe_66 : xl_J mX3_firstRipe 66 (fun o => .ifCond .lt o) 69 87 := ⟨21, zd zq_419 (by decide +kernel), rfl, rfl⟩
theorem iX3_firstRipe_69 : xl_D mX3_firstRipe 69 (.aload_n 0) 1 70 := ⟨zd zq_0 (by decide +kernel), rfl⟩
theorem iX3_firstRipe_70 : xl_D mX3_firstRipe 70 (.iload_n 1) 1 71 := ⟨zd zq_3 (by decide +kernel), rfl⟩
theorem iX3_firstRipe_71 : xl_D mX3_firstRipe 71 (.iload 4) 2 73 := ⟨zd zq_51 (by decide +kernel), rfl⟩
theorem iX3_firstRipe_73 : xl_D mX3_firstRipe 73 (.iconst 2) 1 74 := ⟨zd zq_127 (by decide +kernel), rfl⟩
theorem iX3_firstRipe_74 : xl_Ca mX3_firstRipe 74 mX3_ofSession 77 := ⟨136, zd zq_568 (by decide +kernel), rfl, lX3_136, Nat.le_of_ble_eq_true rfl, Nat.le_of_ble_eq_true rfl⟩
theorem iX3_firstRipe_77 : xl_D mX3_firstRipe 77 (.aload_n 0) 1 78 := ⟨zd zq_0 (by decide +kernel), rfl⟩
theorem iX3_firstRipe_78 : xl_D mX3_firstRipe 78 (.iload_n 1) 1 79 := ⟨zd zq_3 (by decide +kernel), rfl⟩
theorem iX3_firstRipe_79 : xl_D mX3_firstRipe 79 (.iload_n 3) 1 80 := ⟨zd zq_25 (by decide +kernel), rfl⟩
theorem iX3_firstRipe_80 : xl_D mX3_firstRipe 80 (.iconst 2) 1 81 := ⟨zd zq_127 (by decide +kernel), rfl⟩
theorem iX3_firstRipe_81 : xl_Ca mX3_firstRipe 81 mX3_ofSession 84 := ⟨136, zd zq_568 (by decide +kernel), rfl, lX3_136, Nat.le_of_ble_eq_true rfl, Nat.le_of_ble_eq_true rfl⟩
theorem iX3_firstRipe_84 : xl_J mX3_firstRipe 84 (fun o => .if_icmp .ge o) 87 90 := ⟨6, zd zq_351 (by decide +kernel), rfl, rfl⟩
theorem iX3_firstRipe_87 : xl_D mX3_firstRipe 87 (.iload 4) 2 89 := ⟨zd zq_51 (by decide +kernel), rfl⟩
theorem iX3_firstRipe_89 : xl_D mX3_firstRipe 89 (.istore_n 3) 1 90 := ⟨zd zq_131 (by decide +kernel), rfl⟩
theorem iX3_firstRipe_90 : xl_D mX3_firstRipe 90 (.iinc 4 1) 3 93 := ⟨zd zq_54 (by decide +kernel), rfl⟩
theorem iX3_firstRipe_93 : xl_J mX3_firstRipe 93 (fun o => .goto o) 96 5 := ⟨-88, zd zq_583 (by decide +kernel), rfl, rfl⟩
theorem iX3_firstRipe_96 : xl_D mX3_firstRipe 96 (.iload_n 3) 1 97 := ⟨zd zq_25 (by decide +kernel), rfl⟩
theorem iX3_firstRipe_97 : xl_D mX3_firstRipe 97 (.ireturn) 1 98 := ⟨zd zq_17 (by decide +kernel), rfl⟩
theorem iX3_isDone_0 : xl_D mX3_isDone 0 (.aload_n 0) 1 1 := ⟨zd zq_0 (by decide +kernel), rfl⟩
theorem iX3_isDone_1 : xl_D mX3_isDone 1 (.iload_n 1) 1 2 := ⟨zd zq_3 (by decide +kernel), rfl⟩
theorem iX3_isDone_2 : xl_D mX3_isDone 2 (.iload_n 2) 1 3 := ⟨zd zq_6 (by decide +kernel), rfl⟩
theorem iX3_isDone_3 : xl_D mX3_isDone 3 (.iconst 2) 1 4 := ⟨zd zq_127 (by decide +kernel), rfl⟩
theorem iX3_isDone_4 : xl_Ca mX3_isDone 4 mX3_ofSession 7 := ⟨136, zd zq_568 (by decide +kernel), rfl, lX3_136, Nat.le_of_ble_eq_true rfl, Nat.le_of_ble_eq_true rfl⟩
theorem iX3_isDone_7 : xl_D mX3_isDone 7 (.istore_n 3) 1 8 := ⟨zd zq_131 (by decide +kernel), rfl⟩
theorem iX3_isDone_8 : xl_D mX3_isDone 8 (.iload_n 3) 1 9 := ⟨zd zq_25 (by decide +kernel), rfl⟩
theorem iX3_isDone_9 : xl_D mX3_isDone 9 (.aload_n 0) 1 10 := ⟨zd zq_0 (by decide +kernel), rfl⟩
theorem iX3_isDone_10 : xl_G mX3_isDone 10 3 10 13 := ⟨149, zd zq_584 (by decide +kernel), rfl, fX3_149⟩
theorem iX3_isDone_13 : xl_J mX3_isDone 13 (fun o => .if_icmp .lt o) 16 38 := ⟨25, zd zq_585 (by decide +kernel), rfl, rfl⟩
theorem iX3_isDone_16 : xl_D mX3_isDone 16 (.iload_n 3) 1 17 := ⟨zd zq_25 (by decide +kernel), rfl⟩
theorem iX3_isDone_17 : xl_D mX3_isDone 17 (.aload_n 0) 1 18 := ⟨zd zq_0 (by decide +kernel), rfl⟩
theorem iX3_isDone_18 : xl_G mX3_isDone 18 3 10 21 := ⟨149, zd zq_584 (by decide +kernel), rfl, fX3_149⟩
theorem iX3_isDone_21 : xl_J mX3_isDone 21 (fun o => .if_icmp .ne o) 24 42 := ⟨21, zd zq_586 (by decide +kernel), rfl, rfl⟩
theorem iX3_isDone_24 : xl_D mX3_isDone 24 (.aload_n 0) 1 25 := ⟨zd zq_0 (by decide +kernel), rfl⟩
theorem iX3_isDone_25 : xl_D mX3_isDone 25 (.iload_n 1) 1 26 := ⟨zd zq_3 (by decide +kernel), rfl⟩
theorem iX3_isDone_26 : xl_D mX3_isDone 26 (.iload_n 2) 1 27 := ⟨zd zq_6 (by decide +kernel), rfl⟩
theorem iX3_isDone_27 : xl_D mX3_isDone 27 (.iconst 0) 1 28 := ⟨zd zq_2 (by decide +kernel), rfl⟩
theorem iX3_isDone_28 : xl_Ca mX3_isDone 28 mX3_ofSession 31 := ⟨136, zd zq_568 (by decide +kernel), rfl, lX3_136, Nat.le_of_ble_eq_true rfl, Nat.le_of_ble_eq_true rfl⟩
theorem iX3_isDone_31 : xl_D mX3_isDone 31 (.aload_n 0) 1 32 := ⟨zd zq_0 (by decide +kernel), rfl⟩
theorem iX3_isDone_32 : xl_G mX3_isDone 32 3 11 35 := ⟨152, zd zq_587 (by decide +kernel), rfl, fX3_152⟩
theorem iX3_isDone_35 : xl_J mX3_isDone 35 (fun o => .if_icmp .gt o) 38 42 := ⟨7, zd zq_418 (by decide +kernel), rfl, rfl⟩
theorem iX3_isDone_38 : xl_D mX3_isDone 38 (.iconst 1) 1 39 := ⟨zd zq_36 (by decide +kernel), rfl⟩
theorem iX3_isDone_39 : xl_J mX3_isDone 39 (fun o => .goto o) 42 43 := ⟨4, zd zq_139 (by decide +kernel), rfl, rfl⟩
theorem iX3_isDone_42 : xl_D mX3_isDone 42 (.iconst 0) 1 43 := ⟨zd zq_2 (by decide +kernel), rfl⟩
theorem iX3_isDone_43 : xl_D mX3_isDone 43 (.ireturn) 1 44 := ⟨zd zq_17 (by decide +kernel), rfl⟩
theorem iX3_rises_0 : xl_D mX3_rises 0 (.aload_n 0) 1 1 := ⟨zd zq_0 (by decide +kernel), rfl⟩
theorem iX3_rises_1 : xl_D mX3_rises 1 (.iload_n 1) 1 2 := ⟨zd zq_3 (by decide +kernel), rfl⟩
theorem iX3_rises_2 : xl_Ca mX3_rises 2 mX3_leastMark 5 := ⟨155, zd zq_588 (by decide +kernel), rfl, lX3_155, Nat.le_of_ble_eq_true rfl, Nat.le_of_ble_eq_true rfl⟩
theorem iX3_rises_5 : xl_D mX3_rises 5 (.istore_n 2) 1 6 := ⟨zd zq_41 (by decide +kernel), rfl⟩
theorem iX3_rises_6 : xl_D mX3_rises 6 (.aload_n 0) 1 7 := ⟨zd zq_0 (by decide +kernel), rfl⟩
theorem iX3_rises_7 : xl_D mX3_rises 7 (.iload_n 1) 1 8 := ⟨zd zq_3 (by decide +kernel), rfl⟩
theorem iX3_rises_8 : xl_D mX3_rises 8 (.iconst 4) 1 9 := ⟨zd zq_63 (by decide +kernel), rfl⟩
theorem iX3_rises_9 : xl_Ca mX3_rises 9 mX3_of 12 := ⟨116, zd zq_555 (by decide +kernel), rfl, lX3_116, Nat.le_of_ble_eq_true rfl, Nat.le_of_ble_eq_true rfl⟩
theorem iX3_rises_12 : xl_D mX3_rises 12 (.istore_n 3) 1 13 := ⟨zd zq_131 (by decide +kernel), rfl⟩
theorem iX3_rises_13 : xl_D mX3_rises 13 (.iload_n 2) 1 14 := ⟨zd zq_6 (by decide +kernel), rfl⟩
theorem iX3_rises_14 : xl_D mX3_rises 14 (.iload_n 3) 1 15 := ⟨zd zq_25 (by decide +kernel), rfl⟩
theorem iX3_rises_15 : xl_J mX3_rises 15 (fun o => .if_icmp .gt o) 18 19 := ⟨4, zd zq_196 (by decide +kernel), rfl, rfl⟩
theorem iX3_rises_18 : xl_D mX3_rises 18 (.return_) 1 19 := ⟨zd zq_12 (by decide +kernel), rfl⟩
theorem iX3_rises_19 : xl_D mX3_rises 19 (.aload_n 0) 1 20 := ⟨zd zq_0 (by decide +kernel), rfl⟩
theorem iX3_rises_20 : xl_D mX3_rises 20 (.iload_n 1) 1 21 := ⟨zd zq_3 (by decide +kernel), rfl⟩
theorem iX3_rises_21 : xl_D mX3_rises 21 (.iconst 4) 1 22 := ⟨zd zq_63 (by decide +kernel), rfl⟩
theorem iX3_rises_22 : xl_D mX3_rises 22 (.iload_n 2) 1 23 := ⟨zd zq_6 (by decide +kernel), rfl⟩
theorem iX3_rises_23 : xl_Ca mX3_rises 23 mX3_puts 26 := ⟨88, zd zq_542 (by decide +kernel), rfl, lX3_88, Nat.le_of_ble_eq_true rfl, Nat.le_of_ble_eq_true rfl⟩
theorem iX3_rises_26 : xl_D mX3_rises 26 (.aload_n 0) 1 27 := ⟨zd zq_0 (by decide +kernel), rfl⟩
theorem iX3_rises_27 : xl_D mX3_rises 27 (.iconst (-1)) 1 28 := ⟨zd zq_104 (by decide +kernel), rfl⟩
theorem iX3_rises_28 : xl_P mX3_rises 28 3 10 .int 31 := ⟨149, zd zq_589 (by decide +kernel), rfl, wX3_149⟩
theorem iX3_rises_31 : xl_D mX3_rises 31 (.aload_n 0) 1 32 := ⟨zd zq_0 (by decide +kernel), rfl⟩
theorem iX3_rises_32 : xl_D mX3_rises 32 (.iconst (-1)) 1 33 := ⟨zd zq_104 (by decide +kernel), rfl⟩
theorem iX3_rises_33 : xl_P mX3_rises 33 3 11 .int 36 := ⟨152, zd zq_590 (by decide +kernel), rfl, wX3_152⟩
theorem iX3_rises_36 : xl_D mX3_rises 36 (.aload_n 0) 1 37 := ⟨zd zq_0 (by decide +kernel), rfl⟩
theorem iX3_rises_37 : xl_D mX3_rises 37 (.iload_n 1) 1 38 := ⟨zd zq_3 (by decide +kernel), rfl⟩
theorem iX3_rises_38 : xl_D mX3_rises 38 (.iload_n 3) 1 39 := ⟨zd zq_25 (by decide +kernel), rfl⟩
theorem iX3_rises_39 : xl_Ca mX3_rises 39 mX3_firstRipe 42 := ⟨158, zd zq_591 (by decide +kernel), rfl, lX3_158, Nat.le_of_ble_eq_true rfl, Nat.le_of_ble_eq_true rfl⟩
theorem iX3_rises_42 : xl_D mX3_rises 42 (.istore 4) 2 44 := ⟨zd zq_50 (by decide +kernel), rfl⟩
theorem iX3_rises_44 : xl_D mX3_rises 44 (.iload 4) 2 46 := ⟨zd zq_51 (by decide +kernel), rfl⟩
theorem iX3_rises_46 : xl_J mX3_rises 46 (fun o => .ifCond .lt o) 49 99 := ⟨53, zd zq_592 (by decide +kernel), rfl, rfl⟩
theorem iX3_rises_49 : xl_D mX3_rises 49 (.aload_n 0) 1 50 := ⟨zd zq_0 (by decide +kernel), rfl⟩
theorem iX3_rises_50 : xl_D mX3_rises 50 (.iload_n 1) 1 51 := ⟨zd zq_3 (by decide +kernel), rfl⟩
theorem iX3_rises_51 : xl_D mX3_rises 51 (.iload 4) 2 53 := ⟨zd zq_51 (by decide +kernel), rfl⟩
theorem iX3_rises_53 : xl_Ca mX3_rises 53 mX3_takesBack 56 := ⟨161, zd zq_593 (by decide +kernel), rfl, lX3_161, Nat.le_of_ble_eq_true rfl, Nat.le_of_ble_eq_true rfl⟩
theorem iX3_rises_56 : xl_D mX3_rises 56 (.aload_n 0) 1 57 := ⟨zd zq_0 (by decide +kernel), rfl⟩
theorem iX3_rises_57 : xl_D mX3_rises 57 (.iload_n 1) 1 58 := ⟨zd zq_3 (by decide +kernel), rfl⟩
theorem iX3_rises_58 : xl_D mX3_rises 58 (.iconst 1) 1 59 := ⟨zd zq_36 (by decide +kernel), rfl⟩
theorem iX3_rises_59 : xl_D mX3_rises 59 (.iload 4) 2 61 := ⟨zd zq_51 (by decide +kernel), rfl⟩
theorem iX3_rises_61 : xl_Ca mX3_rises 61 mX3_sends 64 := ⟨140, zd zq_575 (by decide +kernel), rfl, lX3_140, Nat.le_of_ble_eq_true rfl, Nat.le_of_ble_eq_true rfl⟩
theorem iX3_rises_64 : xl_D mX3_rises 64 (.aload_n 0) 1 65 := ⟨zd zq_0 (by decide +kernel), rfl⟩
theorem iX3_rises_65 : xl_D mX3_rises 65 (.aload_n 0) 1 66 := ⟨zd zq_0 (by decide +kernel), rfl⟩
theorem iX3_rises_66 : xl_D mX3_rises 66 (.iload_n 1) 1 67 := ⟨zd zq_3 (by decide +kernel), rfl⟩
theorem iX3_rises_67 : xl_D mX3_rises 67 (.iload 4) 2 69 := ⟨zd zq_51 (by decide +kernel), rfl⟩
theorem iX3_rises_69 : xl_D mX3_rises 69 (.iconst 2) 1 70 := ⟨zd zq_127 (by decide +kernel), rfl⟩
theorem iX3_rises_70 : xl_Ca mX3_rises 70 mX3_ofSession 73 := ⟨136, zd zq_568 (by decide +kernel), rfl, lX3_136, Nat.le_of_ble_eq_true rfl, Nat.le_of_ble_eq_true rfl⟩
theorem iX3_rises_73 : xl_P mX3_rises 73 3 10 .int 76 := ⟨149, zd zq_589 (by decide +kernel), rfl, wX3_149⟩
theorem iX3_rises_76 : xl_D mX3_rises 76 (.aload_n 0) 1 77 := ⟨zd zq_0 (by decide +kernel), rfl⟩
theorem iX3_rises_77 : xl_D mX3_rises 77 (.aload_n 0) 1 78 := ⟨zd zq_0 (by decide +kernel), rfl⟩
theorem iX3_rises_78 : xl_D mX3_rises 78 (.iload_n 1) 1 79 := ⟨zd zq_3 (by decide +kernel), rfl⟩
theorem iX3_rises_79 : xl_D mX3_rises 79 (.iload 4) 2 81 := ⟨zd zq_51 (by decide +kernel), rfl⟩
theorem iX3_rises_81 : xl_D mX3_rises 81 (.iconst 0) 1 82 := ⟨zd zq_2 (by decide +kernel), rfl⟩
theorem iX3_rises_82 : xl_Ca mX3_rises 82 mX3_ofSession 85 := ⟨136, zd zq_568 (by decide +kernel), rfl, lX3_136, Nat.le_of_ble_eq_true rfl, Nat.le_of_ble_eq_true rfl⟩
theorem iX3_rises_85 : xl_P mX3_rises 85 3 11 .int 88 := ⟨152, zd zq_590 (by decide +kernel), rfl, wX3_152⟩
theorem iX3_rises_88 : xl_D mX3_rises 88 (.aload_n 0) 1 89 := ⟨zd zq_0 (by decide +kernel), rfl⟩
theorem iX3_rises_89 : xl_D mX3_rises 89 (.iload_n 1) 1 90 := ⟨zd zq_3 (by decide +kernel), rfl⟩
theorem iX3_rises_90 : xl_D mX3_rises 90 (.iload_n 3) 1 91 := ⟨zd zq_25 (by decide +kernel), rfl⟩
theorem iX3_rises_91 : xl_Ca mX3_rises 91 mX3_firstRipe 94 := ⟨158, zd zq_591 (by decide +kernel), rfl, lX3_158, Nat.le_of_ble_eq_true rfl, Nat.le_of_ble_eq_true rfl⟩
theorem iX3_rises_94 : xl_D mX3_rises 94 (.istore 4) 2 96 := ⟨zd zq_50 (by decide +kernel), rfl⟩
theorem iX3_rises_96 : xl_J mX3_rises 96 (fun o => .goto o) 99 44 := ⟨-52, zd zq_481 (by decide +kernel), rfl, rfl⟩
theorem iX3_rises_99 : xl_D mX3_rises 99 (.aload_n 0) 1 100 := ⟨zd zq_0 (by decide +kernel), rfl⟩
theorem iX3_rises_100 : xl_D mX3_rises 100 (.iload_n 1) 1 101 := ⟨zd zq_3 (by decide +kernel), rfl⟩
theorem iX3_rises_101 : xl_Ca mX3_rises 101 mX3_firstClosed 104 := ⟨164, zd zq_301 (by decide +kernel), rfl, lX3_164, Nat.le_of_ble_eq_true rfl, Nat.le_of_ble_eq_true rfl⟩
theorem iX3_rises_104 : xl_D mX3_rises 104 (.istore 4) 2 106 := ⟨zd zq_50 (by decide +kernel), rfl⟩
theorem iX3_rises_106 : xl_D mX3_rises 106 (.iload 4) 2 108 := ⟨zd zq_51 (by decide +kernel), rfl⟩
theorem iX3_rises_108 : xl_J mX3_rises 108 (fun o => .ifCond .lt o) 111 128 := ⟨20, zd zq_237 (by decide +kernel), rfl, rfl⟩
theorem iX3_rises_111 : xl_D mX3_rises 111 (.aload_n 0) 1 112 := ⟨zd zq_0 (by decide +kernel), rfl⟩
theorem iX3_rises_112 : xl_D mX3_rises 112 (.iload_n 1) 1 113 := ⟨zd zq_3 (by decide +kernel), rfl⟩
theorem iX3_rises_113 : xl_D mX3_rises 113 (.iload 4) 2 115 := ⟨zd zq_51 (by decide +kernel), rfl⟩
theorem iX3_rises_115 : xl_Ca mX3_rises 115 mX3_closes 118 := ⟨167, zd zq_594 (by decide +kernel), rfl, lX3_167, Nat.le_of_ble_eq_true rfl, Nat.le_of_ble_eq_true rfl⟩
theorem iX3_rises_118 : xl_D mX3_rises 118 (.aload_n 0) 1 119 := ⟨zd zq_0 (by decide +kernel), rfl⟩
theorem iX3_rises_119 : xl_D mX3_rises 119 (.iload_n 1) 1 120 := ⟨zd zq_3 (by decide +kernel), rfl⟩
theorem iX3_rises_120 : xl_Ca mX3_rises 120 mX3_firstClosed 123 := ⟨164, zd zq_301 (by decide +kernel), rfl, lX3_164, Nat.le_of_ble_eq_true rfl, Nat.le_of_ble_eq_true rfl⟩
theorem iX3_rises_123 : xl_D mX3_rises 123 (.istore 4) 2 125 := ⟨zd zq_50 (by decide +kernel), rfl⟩
theorem iX3_rises_125 : xl_J mX3_rises 125 (fun o => .goto o) 128 106 := ⟨-19, zd zq_178 (by decide +kernel), rfl, rfl⟩
theorem iX3_rises_128 : xl_D mX3_rises 128 (.return_) 1 129 := ⟨zd zq_12 (by decide +kernel), rfl⟩
theorem iX3_firstClosed_0 : xl_D mX3_firstClosed 0 (.iconst (-1)) 1 1 := ⟨zd zq_104 (by decide +kernel), rfl⟩
theorem iX3_firstClosed_1 : xl_D mX3_firstClosed 1 (.istore_n 2) 1 2 := ⟨zd zq_41 (by decide +kernel), rfl⟩
theorem iX3_firstClosed_2 : xl_D mX3_firstClosed 2 (.iconst 0) 1 3 := ⟨zd zq_2 (by decide +kernel), rfl⟩
theorem iX3_firstClosed_3 : xl_D mX3_firstClosed 3 (.istore_n 3) 1 4 := ⟨zd zq_131 (by decide +kernel), rfl⟩
theorem iX3_firstClosed_4 : xl_D mX3_firstClosed 4 (.iload_n 3) 1 5 := ⟨zd zq_25 (by decide +kernel), rfl⟩
theorem iX3_firstClosed_5 : xl_D mX3_firstClosed 5 (.aload_n 0) 1 6 := ⟨zd zq_0 (by decide +kernel), rfl⟩
theorem iX3_firstClosed_6 : xl_D mX3_firstClosed 6 (.iload_n 1) 1 7 := ⟨zd zq_3 (by decide +kernel), rfl⟩
theorem iX3_firstClosed_7 : xl_D mX3_firstClosed 7 (.iconst 5) 1 8 := ⟨zd zq_64 (by decide +kernel), rfl⟩
theorem iX3_firstClosed_8 : xl_Ca mX3_firstClosed 8 mX3_of 11 := ⟨116, zd zq_555 (by decide +kernel), rfl, lX3_116, Nat.le_of_ble_eq_true rfl, Nat.le_of_ble_eq_true rfl⟩
theorem iX3_firstClosed_11 : xl_J mX3_firstClosed 11 (fun o => .if_icmp .ge o) 14 58 := ⟨47, zd zq_595 (by decide +kernel), rfl, rfl⟩
theorem iX3_firstClosed_14 : xl_D mX3_firstClosed 14 (.aload_n 0) 1 15 := ⟨zd zq_0 (by decide +kernel), rfl⟩
theorem iX3_firstClosed_15 : xl_D mX3_firstClosed 15 (.iload_n 1) 1 16 := ⟨zd zq_3 (by decide +kernel), rfl⟩
theorem iX3_firstClosed_16 : xl_D mX3_firstClosed 16 (.iload_n 3) 1 17 := ⟨zd zq_25 (by decide +kernel), rfl⟩
theorem iX3_firstClosed_17 : xl_D mX3_firstClosed 17 (.aload_n 0) 1 18 := ⟨zd zq_0 (by decide +kernel), rfl⟩
theorem iX3_firstClosed_18 : xl_D mX3_firstClosed 18 (.iload_n 1) 1 19 := ⟨zd zq_3 (by decide +kernel), rfl⟩
theorem iX3_firstClosed_19 : xl_D mX3_firstClosed 19 (.iconst 4) 1 20 := ⟨zd zq_63 (by decide +kernel), rfl⟩
theorem iX3_firstClosed_20 : xl_Ca mX3_firstClosed 20 mX3_of 23 := ⟨116, zd zq_555 (by decide +kernel), rfl, lX3_116, Nat.le_of_ble_eq_true rfl, Nat.le_of_ble_eq_true rfl⟩
theorem iX3_firstClosed_23 : xl_Ca mX3_firstClosed 23 mX3_isClosedBy 26 := ⟨170, zd zq_307 (by decide +kernel), rfl, lX3_170, Nat.le_of_ble_eq_true rfl, Nat.le_of_ble_eq_true rfl⟩
theorem iX3_firstClosed_26 : xl_J mX3_firstClosed 26 (fun o => .ifCond .eq o) 29 52 := ⟨26, zd zq_596 (by decide +kernel), rfl, rfl⟩
theorem iX3_firstClosed_29 : xl_D mX3_firstClosed 29 (.iload_n 2) 1 30 := ⟨zd zq_6 (by decide +kernel), rfl⟩
theorem iX3_firstClosed_30 : xl_J mX3_firstClosed 30 (fun o => .ifCond .lt o) 33 50 := ⟨20, zd zq_237 (by decide +kernel), rfl, rfl⟩
theorem iX3_firstClosed_33 : xl_D mX3_firstClosed 33 (.aload_n 0) 1 34 := ⟨zd zq_0 (by decide +kernel), rfl⟩
theorem iX3_firstClosed_34 : xl_D mX3_firstClosed 34 (.iload_n 1) 1 35 := ⟨zd zq_3 (by decide +kernel), rfl⟩
theorem iX3_firstClosed_35 : xl_D mX3_firstClosed 35 (.iload_n 3) 1 36 := ⟨zd zq_25 (by decide +kernel), rfl⟩
theorem iX3_firstClosed_36 : xl_D mX3_firstClosed 36 (.iconst 2) 1 37 := ⟨zd zq_127 (by decide +kernel), rfl⟩
theorem iX3_firstClosed_37 : xl_Ca mX3_firstClosed 37 mX3_ofSession 40 := ⟨136, zd zq_568 (by decide +kernel), rfl, lX3_136, Nat.le_of_ble_eq_true rfl, Nat.le_of_ble_eq_true rfl⟩
theorem iX3_firstClosed_40 : xl_D mX3_firstClosed 40 (.aload_n 0) 1 41 := ⟨zd zq_0 (by decide +kernel), rfl⟩
theorem iX3_firstClosed_41 : xl_D mX3_firstClosed 41 (.iload_n 1) 1 42 := ⟨zd zq_3 (by decide +kernel), rfl⟩
theorem iX3_firstClosed_42 : xl_D mX3_firstClosed 42 (.iload_n 2) 1 43 := ⟨zd zq_6 (by decide +kernel), rfl⟩
theorem iX3_firstClosed_43 : xl_D mX3_firstClosed 43 (.iconst 2) 1 44 := ⟨zd zq_127 (by decide +kernel), rfl⟩
theorem iX3_firstClosed_44 : xl_Ca mX3_firstClosed 44 mX3_ofSession 47 := ⟨136, zd zq_568 (by decide +kernel), rfl, lX3_136, Nat.le_of_ble_eq_true rfl, Nat.le_of_ble_eq_true rfl⟩
theorem iX3_firstClosed_47 : xl_J mX3_firstClosed 47 (fun o => .if_icmp .ge o) 50 52 := ⟨5, zd zq_144 (by decide +kernel), rfl, rfl⟩
theorem iX3_firstClosed_50 : xl_D mX3_firstClosed 50 (.iload_n 3) 1 51 := ⟨zd zq_25 (by decide +kernel), rfl⟩
theorem iX3_firstClosed_51 : xl_D mX3_firstClosed 51 (.istore_n 2) 1 52 := ⟨zd zq_41 (by decide +kernel), rfl⟩
theorem iX3_firstClosed_52 : xl_D mX3_firstClosed 52 (.iinc 3 1) 3 55 := ⟨zd zq_153 (by decide +kernel), rfl⟩
theorem iX3_firstClosed_55 : xl_J mX3_firstClosed 55 (fun o => .goto o) 58 4 := ⟨-51, zd zq_516 (by decide +kernel), rfl, rfl⟩
theorem iX3_firstClosed_58 : xl_D mX3_firstClosed 58 (.iload_n 2) 1 59 := ⟨zd zq_6 (by decide +kernel), rfl⟩
theorem iX3_firstClosed_59 : xl_D mX3_firstClosed 59 (.ireturn) 1 60 := ⟨zd zq_17 (by decide +kernel), rfl⟩
theorem iX3_closes_0 : xl_D mX3_closes 0 (.iload_n 1) 1 1 := ⟨zd zq_3 (by decide +kernel), rfl⟩
theorem iX3_closes_1 : xl_D mX3_closes 1 (.sipush 2804) 3 4 := ⟨zd zq_536 (by decide +kernel), rfl⟩
theorem iX3_closes_4 : xl_D mX3_closes 4 (.imul) 1 5 := ⟨zd zq_10 (by decide +kernel), rfl⟩
theorem iX3_closes_5 : xl_D mX3_closes 5 (.bipush 84) 2 7 := ⟨zd zq_597 (by decide +kernel), rfl⟩
theorem iX3_closes_7 : xl_D mX3_closes 7 (.iadd) 1 8 := ⟨zd zq_19 (by decide +kernel), rfl⟩
theorem iX3_closes_8 : xl_D mX3_closes 8 (.bipush 7) 2 10 := ⟨zd zq_68 (by decide +kernel), rfl⟩
theorem iX3_closes_10 : xl_D mX3_closes 10 (.aload_n 0) 1 11 := ⟨zd zq_0 (by decide +kernel), rfl⟩
theorem iX3_closes_11 : xl_D mX3_closes 11 (.iload_n 1) 1 12 := ⟨zd zq_3 (by decide +kernel), rfl⟩
theorem iX3_closes_12 : xl_Ca mX3_closes 12 mX3_closedMany 15 := ⟨173, zd zq_598 (by decide +kernel), rfl, lX3_173, Nat.le_of_ble_eq_true rfl, Nat.le_of_ble_eq_true rfl⟩
theorem iX3_closes_15 : xl_D mX3_closes 15 (.bipush 40) 2 17 := ⟨zd zq_73 (by decide +kernel), rfl⟩
theorem iX3_closes_17 : xl_D mX3_closes 17 (.irem) 1 18 := ⟨zd zq_191 (by decide +kernel), rfl⟩
theorem iX3_closes_18 : xl_D mX3_closes 18 (.imul) 1 19 := ⟨zd zq_10 (by decide +kernel), rfl⟩
theorem iX3_closes_19 : xl_D mX3_closes 19 (.iadd) 1 20 := ⟨zd zq_19 (by decide +kernel), rfl⟩
theorem iX3_closes_20 : xl_D mX3_closes 20 (.istore_n 3) 1 21 := ⟨zd zq_131 (by decide +kernel), rfl⟩
theorem iX3_closes_21 : xl_D mX3_closes 21 (.iconst 0) 1 22 := ⟨zd zq_2 (by decide +kernel), rfl⟩
theorem iX3_closes_22 : xl_D mX3_closes 22 (.istore 4) 2 24 := ⟨zd zq_50 (by decide +kernel), rfl⟩
theorem iX3_closes_24 : xl_D mX3_closes 24 (.iload 4) 2 26 := ⟨zd zq_51 (by decide +kernel), rfl⟩
theorem iX3_closes_26 : xl_D mX3_closes 26 (.bipush 7) 2 28 := ⟨zd zq_68 (by decide +kernel), rfl⟩
theorem iX3_closes_28 : xl_J mX3_closes 28 (fun o => .if_icmp .ge o) 31 54 := ⟨26, zd zq_467 (by decide +kernel), rfl, rfl⟩
theorem iX3_closes_31 : xl_D mX3_closes 31 (.aload_n 0) 1 32 := ⟨zd zq_0 (by decide +kernel), rfl⟩
theorem iX3_closes_32 : xl_G mX3_closes 32 3 7 35 := ⟨53, zd zq_537 (by decide +kernel), rfl, fX3_53⟩
theorem iX3_closes_35 : xl_D mX3_closes 35 (.iload_n 3) 1 36 := ⟨zd zq_25 (by decide +kernel), rfl⟩
theorem iX3_closes_36 : xl_D mX3_closes 36 (.iload 4) 2 38 := ⟨zd zq_51 (by decide +kernel), rfl⟩
theorem iX3_closes_38 : xl_D mX3_closes 38 (.iadd) 1 39 := ⟨zd zq_19 (by decide +kernel), rfl⟩
theorem iX3_closes_39 : xl_D mX3_closes 39 (.aload_n 0) 1 40 := ⟨zd zq_0 (by decide +kernel), rfl⟩
theorem iX3_closes_40 : xl_D mX3_closes 40 (.iload_n 1) 1 41 := ⟨zd zq_3 (by decide +kernel), rfl⟩
theorem iX3_closes_41 : xl_D mX3_closes 41 (.iload_n 2) 1 42 := ⟨zd zq_6 (by decide +kernel), rfl⟩
theorem iX3_closes_42 : xl_D mX3_closes 42 (.iload 4) 2 44 := ⟨zd zq_51 (by decide +kernel), rfl⟩
theorem iX3_closes_44 : xl_Ca mX3_closes 44 mX3_ofSession 47 := ⟨136, zd zq_568 (by decide +kernel), rfl, lX3_136, Nat.le_of_ble_eq_true rfl, Nat.le_of_ble_eq_true rfl⟩
theorem iX3_closes_47 : xl_D mX3_closes 47 (.iastore) 1 48 := ⟨zd zq_26 (by decide +kernel), rfl⟩
theorem iX3_closes_48 : xl_D mX3_closes 48 (.iinc 4 1) 3 51 := ⟨zd zq_54 (by decide +kernel), rfl⟩
theorem iX3_closes_51 : xl_J mX3_closes 51 (fun o => .goto o) 54 24 := ⟨-27, zd zq_540 (by decide +kernel), rfl, rfl⟩
theorem iX3_closes_54 : xl_D mX3_closes 54 (.aload_n 0) 1 55 := ⟨zd zq_0 (by decide +kernel), rfl⟩
theorem iX3_closes_55 : xl_D mX3_closes 55 (.iload_n 1) 1 56 := ⟨zd zq_3 (by decide +kernel), rfl⟩
theorem iX3_closes_56 : xl_D mX3_closes 56 (.iload_n 2) 1 57 := ⟨zd zq_6 (by decide +kernel), rfl⟩
theorem iX3_closes_57 : xl_D mX3_closes 57 (.iconst 0) 1 58 := ⟨zd zq_2 (by decide +kernel), rfl⟩
theorem iX3_closes_58 : xl_Ca mX3_closes 58 mX3_ofSession 61 := ⟨136, zd zq_568 (by decide +kernel), rfl, lX3_136, Nat.le_of_ble_eq_true rfl, Nat.le_of_ble_eq_true rfl⟩
theorem iX3_closes_61 : xl_D mX3_closes 61 (.istore 4) 2 63 := ⟨zd zq_50 (by decide +kernel), rfl⟩
theorem iX3_closes_63 : xl_D mX3_closes 63 (.aload_n 0) 1 64 := ⟨zd zq_0 (by decide +kernel), rfl⟩
theorem iX3_closes_64 : xl_D mX3_closes 64 (.iload_n 1) 1 65 := ⟨zd zq_3 (by decide +kernel), rfl⟩
theorem iX3_closes_65 : xl_D mX3_closes 65 (.iload_n 2) 1 66 := ⟨zd zq_6 (by decide +kernel), rfl⟩
theorem iX3_closes_66 : xl_D mX3_closes 66 (.iconst 2) 1 67 := ⟨zd zq_127 (by decide +kernel), rfl⟩
theorem iX3_closes_67 : xl_Ca mX3_closes 67 mX3_ofSession 70 := ⟨136, zd zq_568 (by decide +kernel), rfl, lX3_136, Nat.le_of_ble_eq_true rfl, Nat.le_of_ble_eq_true rfl⟩
theorem iX3_closes_70 : xl_D mX3_closes 70 (.aload_n 0) 1 71 := ⟨zd zq_0 (by decide +kernel), rfl⟩
theorem iX3_closes_71 : xl_D mX3_closes 71 (.iload_n 1) 1 72 := ⟨zd zq_3 (by decide +kernel), rfl⟩
theorem iX3_closes_72 : xl_D mX3_closes 72 (.iload_n 2) 1 73 := ⟨zd zq_6 (by decide +kernel), rfl⟩
theorem iX3_closes_73 : xl_D mX3_closes 73 (.iconst 1) 1 74 := ⟨zd zq_36 (by decide +kernel), rfl⟩
theorem iX3_closes_74 : xl_Ca mX3_closes 74 mX3_ofSession 77 := ⟨136, zd zq_568 (by decide +kernel), rfl, lX3_136, Nat.le_of_ble_eq_true rfl, Nat.le_of_ble_eq_true rfl⟩
theorem iX3_closes_77 : xl_D mX3_closes 77 (.isub) 1 78 := ⟨zd zq_39 (by decide +kernel), rfl⟩
theorem iX3_closes_78 : xl_D mX3_closes 78 (.istore 5) 2 80 := ⟨zd zq_91 (by decide +kernel), rfl⟩
theorem iX3_closes_80 : xl_D mX3_closes 80 (.aload_n 0) 1 81 := ⟨zd zq_0 (by decide +kernel), rfl⟩
theorem iX3_closes_81 : xl_D mX3_closes 81 (.iload_n 1) 1 82 := ⟨zd zq_3 (by decide +kernel), rfl⟩
theorem iX3_closes_82 : xl_D mX3_closes 82 (.bipush 36) 2 84 := ⟨zd zq_599 (by decide +kernel), rfl⟩
theorem iX3_closes_84 : xl_D mX3_closes 84 (.iload 4) 2 86 := ⟨zd zq_51 (by decide +kernel), rfl⟩
theorem iX3_closes_86 : xl_D mX3_closes 86 (.iadd) 1 87 := ⟨zd zq_19 (by decide +kernel), rfl⟩
theorem iX3_closes_87 : xl_D mX3_closes 87 (.iconst 1) 1 88 := ⟨zd zq_36 (by decide +kernel), rfl⟩
theorem iX3_closes_88 : xl_Ca mX3_closes 88 mX3_adds 91 := ⟨129, zd zq_560 (by decide +kernel), rfl, lX3_129, Nat.le_of_ble_eq_true rfl, Nat.le_of_ble_eq_true rfl⟩
theorem iX3_closes_91 : xl_D mX3_closes 91 (.aload_n 0) 1 92 := ⟨zd zq_0 (by decide +kernel), rfl⟩
theorem iX3_closes_92 : xl_D mX3_closes 92 (.iload_n 1) 1 93 := ⟨zd zq_3 (by decide +kernel), rfl⟩
theorem iX3_closes_93 : xl_D mX3_closes 93 (.bipush 42) 2 95 := ⟨zd zq_600 (by decide +kernel), rfl⟩
theorem iX3_closes_95 : xl_D mX3_closes 95 (.iload 4) 2 97 := ⟨zd zq_51 (by decide +kernel), rfl⟩
theorem iX3_closes_97 : xl_D mX3_closes 97 (.iadd) 1 98 := ⟨zd zq_19 (by decide +kernel), rfl⟩
theorem iX3_closes_98 : xl_D mX3_closes 98 (.aload_n 0) 1 99 := ⟨zd zq_0 (by decide +kernel), rfl⟩
theorem iX3_closes_99 : xl_D mX3_closes 99 (.iload_n 1) 1 100 := ⟨zd zq_3 (by decide +kernel), rfl⟩
theorem iX3_closes_100 : xl_D mX3_closes 100 (.iload_n 2) 1 101 := ⟨zd zq_6 (by decide +kernel), rfl⟩
theorem iX3_closes_101 : xl_D mX3_closes 101 (.iconst 3) 1 102 := ⟨zd zq_123 (by decide +kernel), rfl⟩
theorem iX3_closes_102 : xl_Ca mX3_closes 102 mX3_ofSession 105 := ⟨136, zd zq_568 (by decide +kernel), rfl, lX3_136, Nat.le_of_ble_eq_true rfl, Nat.le_of_ble_eq_true rfl⟩
theorem iX3_closes_105 : xl_Ca mX3_closes 105 mX3_adds 108 := ⟨129, zd zq_560 (by decide +kernel), rfl, lX3_129, Nat.le_of_ble_eq_true rfl, Nat.le_of_ble_eq_true rfl⟩
theorem iX3_closes_108 : xl_D mX3_closes 108 (.aload_n 0) 1 109 := ⟨zd zq_0 (by decide +kernel), rfl⟩
theorem iX3_closes_109 : xl_D mX3_closes 109 (.iload_n 1) 1 110 := ⟨zd zq_3 (by decide +kernel), rfl⟩
theorem iX3_closes_110 : xl_D mX3_closes 110 (.bipush 48) 2 112 := ⟨zd zq_443 (by decide +kernel), rfl⟩
theorem iX3_closes_112 : xl_D mX3_closes 112 (.iload 4) 2 114 := ⟨zd zq_51 (by decide +kernel), rfl⟩
theorem iX3_closes_114 : xl_D mX3_closes 114 (.iadd) 1 115 := ⟨zd zq_19 (by decide +kernel), rfl⟩
theorem iX3_closes_115 : xl_D mX3_closes 115 (.aload_n 0) 1 116 := ⟨zd zq_0 (by decide +kernel), rfl⟩
theorem iX3_closes_116 : xl_D mX3_closes 116 (.iload_n 1) 1 117 := ⟨zd zq_3 (by decide +kernel), rfl⟩
theorem iX3_closes_117 : xl_D mX3_closes 117 (.iload_n 2) 1 118 := ⟨zd zq_6 (by decide +kernel), rfl⟩
theorem iX3_closes_118 : xl_D mX3_closes 118 (.iconst 4) 1 119 := ⟨zd zq_63 (by decide +kernel), rfl⟩
theorem iX3_closes_119 : xl_Ca mX3_closes 119 mX3_ofSession 122 := ⟨136, zd zq_568 (by decide +kernel), rfl, lX3_136, Nat.le_of_ble_eq_true rfl, Nat.le_of_ble_eq_true rfl⟩
theorem iX3_closes_122 : xl_Ca mX3_closes 122 mX3_adds 125 := ⟨129, zd zq_560 (by decide +kernel), rfl, lX3_129, Nat.le_of_ble_eq_true rfl, Nat.le_of_ble_eq_true rfl⟩
theorem iX3_closes_125 : xl_D mX3_closes 125 (.aload_n 0) 1 126 := ⟨zd zq_0 (by decide +kernel), rfl⟩
theorem iX3_closes_126 : xl_D mX3_closes 126 (.iload_n 1) 1 127 := ⟨zd zq_3 (by decide +kernel), rfl⟩
theorem iX3_closes_127 : xl_D mX3_closes 127 (.bipush 54) 2 129 := ⟨zd zq_539 (by decide +kernel), rfl⟩
theorem iX3_closes_129 : xl_D mX3_closes 129 (.iload 4) 2 131 := ⟨zd zq_51 (by decide +kernel), rfl⟩
theorem iX3_closes_131 : xl_D mX3_closes 131 (.iadd) 1 132 := ⟨zd zq_19 (by decide +kernel), rfl⟩
theorem iX3_closes_132 : xl_D mX3_closes 132 (.iload 5) 2 134 := ⟨zd zq_92 (by decide +kernel), rfl⟩
theorem iX3_closes_134 : xl_D mX3_closes 134 (.aload_n 0) 1 135 := ⟨zd zq_0 (by decide +kernel), rfl⟩
theorem iX3_closes_135 : xl_D mX3_closes 135 (.iload_n 1) 1 136 := ⟨zd zq_3 (by decide +kernel), rfl⟩
theorem iX3_closes_136 : xl_D mX3_closes 136 (.bipush 54) 2 138 := ⟨zd zq_539 (by decide +kernel), rfl⟩
theorem iX3_closes_138 : xl_D mX3_closes 138 (.iload 4) 2 140 := ⟨zd zq_51 (by decide +kernel), rfl⟩
theorem iX3_closes_140 : xl_D mX3_closes 140 (.iadd) 1 141 := ⟨zd zq_19 (by decide +kernel), rfl⟩
theorem iX3_closes_141 : xl_Ca mX3_closes 141 mX3_of 144 := ⟨116, zd zq_555 (by decide +kernel), rfl, lX3_116, Nat.le_of_ble_eq_true rfl, Nat.le_of_ble_eq_true rfl⟩
theorem iX3_closes_144 : xl_Cm mX3_closes 144 Lib.Math.max.name Lib.Math.max.code 147 := ⟨176, zd zq_601 (by decide +kernel), rfl, lX3_176, xl_stmax, xl_iMath, xl_comax, Nat.le_of_ble_eq_true rfl, Nat.le_of_ble_eq_true rfl⟩
theorem iX3_closes_147 : xl_Ca mX3_closes 147 mX3_puts 150 := ⟨88, zd zq_542 (by decide +kernel), rfl, lX3_88, Nat.le_of_ble_eq_true rfl, Nat.le_of_ble_eq_true rfl⟩
theorem iX3_closes_150 : xl_D mX3_closes 150 (.aload_n 0) 1 151 := ⟨zd zq_0 (by decide +kernel), rfl⟩
theorem iX3_closes_151 : xl_D mX3_closes 151 (.iload_n 1) 1 152 := ⟨zd zq_3 (by decide +kernel), rfl⟩
theorem iX3_closes_152 : xl_D mX3_closes 152 (.iload_n 2) 1 153 := ⟨zd zq_6 (by decide +kernel), rfl⟩
theorem iX3_closes_153 : xl_Ca mX3_closes 153 mX3_goesOut 156 := ⟨181, zd zq_216 (by decide +kernel), rfl, lX3_181, Nat.le_of_ble_eq_true rfl, Nat.le_of_ble_eq_true rfl⟩
theorem iX3_closes_156 : xl_D mX3_closes 156 (.return_) 1 157 := ⟨zd zq_12 (by decide +kernel), rfl⟩
theorem iX3_notes_0 : xl_D mX3_notes 0 (.iload_n 1) 1 1 := ⟨zd zq_3 (by decide +kernel), rfl⟩
theorem iX3_notes_1 : xl_D mX3_notes 1 (.sipush 2804) 3 4 := ⟨zd zq_536 (by decide +kernel), rfl⟩
theorem iX3_notes_4 : xl_D mX3_notes 4 (.imul) 1 5 := ⟨zd zq_10 (by decide +kernel), rfl⟩
theorem iX3_notes_5 : xl_D mX3_notes 5 (.sipush 1844) 3 8 := ⟨zd zq_602 (by decide +kernel), rfl⟩
theorem iX3_notes_8 : xl_D mX3_notes 8 (.iadd) 1 9 := ⟨zd zq_19 (by decide +kernel), rfl⟩
theorem iX3_notes_9 : xl_D mX3_notes 9 (.bipush 6) 2 11 := ⟨zd zq_71 (by decide +kernel), rfl⟩
theorem iX3_notes_11 : xl_D mX3_notes 11 (.aload_n 0) 1 12 := ⟨zd zq_0 (by decide +kernel), rfl⟩
theorem iX3_notes_12 : xl_D mX3_notes 12 (.iload_n 1) 1 13 := ⟨zd zq_3 (by decide +kernel), rfl⟩
theorem iX3_notes_13 : xl_D mX3_notes 13 (.bipush 6) 2 15 := ⟨zd zq_71 (by decide +kernel), rfl⟩
theorem iX3_notes_15 : xl_Ca mX3_notes 15 mX3_of 18 := ⟨116, zd zq_555 (by decide +kernel), rfl, lX3_116, Nat.le_of_ble_eq_true rfl, Nat.le_of_ble_eq_true rfl⟩
theorem iX3_notes_18 : xl_D mX3_notes 18 (.imul) 1 19 := ⟨zd zq_10 (by decide +kernel), rfl⟩
theorem iX3_notes_19 : xl_D mX3_notes 19 (.iadd) 1 20 := ⟨zd zq_19 (by decide +kernel), rfl⟩
theorem iX3_notes_20 : xl_D mX3_notes 20 (.istore 8) 2 22 := ⟨zd zq_323 (by decide +kernel), rfl⟩
theorem iX3_notes_22 : xl_D mX3_notes 22 (.aload_n 0) 1 23 := ⟨zd zq_0 (by decide +kernel), rfl⟩
theorem iX3_notes_23 : xl_G mX3_notes 23 3 7 26 := ⟨53, zd zq_537 (by decide +kernel), rfl, fX3_53⟩
theorem iX3_notes_26 : xl_D mX3_notes 26 (.iload 8) 2 28 := ⟨zd zq_336 (by decide +kernel), rfl⟩
theorem iX3_notes_28 : xl_D mX3_notes 28 (.iconst 0) 1 29 := ⟨zd zq_2 (by decide +kernel), rfl⟩
theorem iX3_notes_29 : xl_D mX3_notes 29 (.iadd) 1 30 := ⟨zd zq_19 (by decide +kernel), rfl⟩
theorem iX3_notes_30 : xl_D mX3_notes 30 (.iload_n 2) 1 31 := ⟨zd zq_6 (by decide +kernel), rfl⟩
theorem iX3_notes_31 : xl_D mX3_notes 31 (.iastore) 1 32 := ⟨zd zq_26 (by decide +kernel), rfl⟩
theorem iX3_notes_32 : xl_D mX3_notes 32 (.aload_n 0) 1 33 := ⟨zd zq_0 (by decide +kernel), rfl⟩
theorem iX3_notes_33 : xl_G mX3_notes 33 3 7 36 := ⟨53, zd zq_537 (by decide +kernel), rfl, fX3_53⟩
theorem iX3_notes_36 : xl_D mX3_notes 36 (.iload 8) 2 38 := ⟨zd zq_336 (by decide +kernel), rfl⟩
theorem iX3_notes_38 : xl_D mX3_notes 38 (.iconst 1) 1 39 := ⟨zd zq_36 (by decide +kernel), rfl⟩
theorem iX3_notes_39 : xl_D mX3_notes 39 (.iadd) 1 40 := ⟨zd zq_19 (by decide +kernel), rfl⟩
theorem iX3_notes_40 : xl_D mX3_notes 40 (.iload_n 3) 1 41 := ⟨zd zq_25 (by decide +kernel), rfl⟩
theorem iX3_notes_41 : xl_D mX3_notes 41 (.iastore) 1 42 := ⟨zd zq_26 (by decide +kernel), rfl⟩
theorem iX3_notes_42 : xl_D mX3_notes 42 (.aload_n 0) 1 43 := ⟨zd zq_0 (by decide +kernel), rfl⟩
theorem iX3_notes_43 : xl_G mX3_notes 43 3 7 46 := ⟨53, zd zq_537 (by decide +kernel), rfl, fX3_53⟩
theorem iX3_notes_46 : xl_D mX3_notes 46 (.iload 8) 2 48 := ⟨zd zq_336 (by decide +kernel), rfl⟩
theorem iX3_notes_48 : xl_D mX3_notes 48 (.iconst 2) 1 49 := ⟨zd zq_127 (by decide +kernel), rfl⟩
theorem iX3_notes_49 : xl_D mX3_notes 49 (.iadd) 1 50 := ⟨zd zq_19 (by decide +kernel), rfl⟩
theorem iX3_notes_50 : xl_D mX3_notes 50 (.iload 4) 2 52 := ⟨zd zq_51 (by decide +kernel), rfl⟩
theorem iX3_notes_52 : xl_D mX3_notes 52 (.iastore) 1 53 := ⟨zd zq_26 (by decide +kernel), rfl⟩
theorem iX3_notes_53 : xl_D mX3_notes 53 (.aload_n 0) 1 54 := ⟨zd zq_0 (by decide +kernel), rfl⟩
theorem iX3_notes_54 : xl_G mX3_notes 54 3 7 57 := ⟨53, zd zq_537 (by decide +kernel), rfl, fX3_53⟩
theorem iX3_notes_57 : xl_D mX3_notes 57 (.iload 8) 2 59 := ⟨zd zq_336 (by decide +kernel), rfl⟩
theorem iX3_notes_59 : xl_D mX3_notes 59 (.iconst 3) 1 60 := ⟨zd zq_123 (by decide +kernel), rfl⟩
theorem iX3_notes_60 : xl_D mX3_notes 60 (.iadd) 1 61 := ⟨zd zq_19 (by decide +kernel), rfl⟩
theorem iX3_notes_61 : xl_D mX3_notes 61 (.iload 5) 2 63 := ⟨zd zq_92 (by decide +kernel), rfl⟩
theorem iX3_notes_63 : xl_D mX3_notes 63 (.iastore) 1 64 := ⟨zd zq_26 (by decide +kernel), rfl⟩
theorem iX3_notes_64 : xl_D mX3_notes 64 (.aload_n 0) 1 65 := ⟨zd zq_0 (by decide +kernel), rfl⟩
theorem iX3_notes_65 : xl_G mX3_notes 65 3 7 68 := ⟨53, zd zq_537 (by decide +kernel), rfl, fX3_53⟩
theorem iX3_notes_68 : xl_D mX3_notes 68 (.iload 8) 2 70 := ⟨zd zq_336 (by decide +kernel), rfl⟩
theorem iX3_notes_70 : xl_D mX3_notes 70 (.iconst 4) 1 71 := ⟨zd zq_63 (by decide +kernel), rfl⟩
theorem iX3_notes_71 : xl_D mX3_notes 71 (.iadd) 1 72 := ⟨zd zq_19 (by decide +kernel), rfl⟩
theorem iX3_notes_72 : xl_D mX3_notes 72 (.iload 6) 2 74 := ⟨zd zq_125 (by decide +kernel), rfl⟩
theorem iX3_notes_74 : xl_D mX3_notes 74 (.iastore) 1 75 := ⟨zd zq_26 (by decide +kernel), rfl⟩
theorem iX3_notes_75 : xl_D mX3_notes 75 (.aload_n 0) 1 76 := ⟨zd zq_0 (by decide +kernel), rfl⟩
theorem iX3_notes_76 : xl_G mX3_notes 76 3 7 79 := ⟨53, zd zq_537 (by decide +kernel), rfl, fX3_53⟩
theorem iX3_notes_79 : xl_D mX3_notes 79 (.iload 8) 2 81 := ⟨zd zq_336 (by decide +kernel), rfl⟩
theorem iX3_notes_81 : xl_D mX3_notes 81 (.iconst 5) 1 82 := ⟨zd zq_64 (by decide +kernel), rfl⟩
theorem iX3_notes_82 : xl_D mX3_notes 82 (.iadd) 1 83 := ⟨zd zq_19 (by decide +kernel), rfl⟩
theorem iX3_notes_83 : xl_D mX3_notes 83 (.iload 7) 2 85 := ⟨zd zq_124 (by decide +kernel), rfl⟩
theorem iX3_notes_85 : xl_D mX3_notes 85 (.iastore) 1 86 := ⟨zd zq_26 (by decide +kernel), rfl⟩
theorem iX3_notes_86 : xl_D mX3_notes 86 (.aload_n 0) 1 87 := ⟨zd zq_0 (by decide +kernel), rfl⟩
theorem iX3_notes_87 : xl_D mX3_notes 87 (.iload_n 1) 1 88 := ⟨zd zq_3 (by decide +kernel), rfl⟩
theorem iX3_notes_88 : xl_D mX3_notes 88 (.bipush 6) 2 90 := ⟨zd zq_71 (by decide +kernel), rfl⟩
theorem iX3_notes_90 : xl_D mX3_notes 90 (.iconst 1) 1 91 := ⟨zd zq_36 (by decide +kernel), rfl⟩
theorem iX3_notes_91 : xl_Ca mX3_notes 91 mX3_adds 94 := ⟨129, zd zq_560 (by decide +kernel), rfl, lX3_129, Nat.le_of_ble_eq_true rfl, Nat.le_of_ble_eq_true rfl⟩
theorem iX3_notes_94 : xl_D mX3_notes 94 (.return_) 1 95 := ⟨zd zq_12 (by decide +kernel), rfl⟩
theorem iX3_melts_0 : xl_D mX3_melts 0 (.aload_n 0) 1 1 := ⟨zd zq_0 (by decide +kernel), rfl⟩
theorem iX3_melts_1 : xl_D mX3_melts 1 (.iload_n 1) 1 2 := ⟨zd zq_3 (by decide +kernel), rfl⟩
theorem iX3_melts_2 : xl_D mX3_melts 2 (.iload_n 2) 1 3 := ⟨zd zq_6 (by decide +kernel), rfl⟩
theorem iX3_melts_3 : xl_D mX3_melts 3 (.iconst 0) 1 4 := ⟨zd zq_2 (by decide +kernel), rfl⟩
theorem iX3_melts_4 : xl_Ca mX3_melts 4 mX3_ofSession 7 := ⟨136, zd zq_568 (by decide +kernel), rfl, lX3_136, Nat.le_of_ble_eq_true rfl, Nat.le_of_ble_eq_true rfl⟩
theorem iX3_melts_7 : xl_D mX3_melts 7 (.iload_n 3) 1 8 := ⟨zd zq_25 (by decide +kernel), rfl⟩
theorem iX3_melts_8 : xl_J mX3_melts 8 (fun o => .if_icmp .ne o) 11 53 := ⟨45, zd zq_603 (by decide +kernel), rfl, rfl⟩
theorem iX3_melts_11 : xl_D mX3_melts 11 (.aload_n 0) 1 12 := ⟨zd zq_0 (by decide +kernel), rfl⟩
theorem iX3_melts_12 : xl_D mX3_melts 12 (.iload_n 1) 1 13 := ⟨zd zq_3 (by decide +kernel), rfl⟩
theorem iX3_melts_13 : xl_D mX3_melts 13 (.iload_n 2) 1 14 := ⟨zd zq_6 (by decide +kernel), rfl⟩
theorem iX3_melts_14 : xl_D mX3_melts 14 (.iconst 1) 1 15 := ⟨zd zq_36 (by decide +kernel), rfl⟩
theorem iX3_melts_15 : xl_Ca mX3_melts 15 mX3_ofSession 18 := ⟨136, zd zq_568 (by decide +kernel), rfl, lX3_136, Nat.le_of_ble_eq_true rfl, Nat.le_of_ble_eq_true rfl⟩
theorem iX3_melts_18 : xl_D mX3_melts 18 (.aload_n 0) 1 19 := ⟨zd zq_0 (by decide +kernel), rfl⟩
theorem iX3_melts_19 : xl_D mX3_melts 19 (.iload_n 1) 1 20 := ⟨zd zq_3 (by decide +kernel), rfl⟩
theorem iX3_melts_20 : xl_D mX3_melts 20 (.iconst 1) 1 21 := ⟨zd zq_36 (by decide +kernel), rfl⟩
theorem iX3_melts_21 : xl_Ca mX3_melts 21 mX3_of 24 := ⟨116, zd zq_555 (by decide +kernel), rfl, lX3_116, Nat.le_of_ble_eq_true rfl, Nat.le_of_ble_eq_true rfl⟩
theorem iX3_melts_24 : xl_D mX3_melts 24 (.isub) 1 25 := ⟨zd zq_39 (by decide +kernel), rfl⟩
theorem iX3_melts_25 : xl_D mX3_melts 25 (.iload 4) 2 27 := ⟨zd zq_51 (by decide +kernel), rfl⟩
theorem iX3_melts_27 : xl_J mX3_melts 27 (fun o => .if_icmp .gt o) 30 53 := ⟨26, zd zq_604 (by decide +kernel), rfl, rfl⟩
theorem iX3_melts_30 : xl_D mX3_melts 30 (.aload_n 0) 1 31 := ⟨zd zq_0 (by decide +kernel), rfl⟩
theorem iX3_melts_31 : xl_D mX3_melts 31 (.iload_n 1) 1 32 := ⟨zd zq_3 (by decide +kernel), rfl⟩
theorem iX3_melts_32 : xl_D mX3_melts 32 (.iload_n 2) 1 33 := ⟨zd zq_6 (by decide +kernel), rfl⟩
theorem iX3_melts_33 : xl_D mX3_melts 33 (.iconst 2) 1 34 := ⟨zd zq_127 (by decide +kernel), rfl⟩
theorem iX3_melts_34 : xl_Ca mX3_melts 34 mX3_ofSession 37 := ⟨136, zd zq_568 (by decide +kernel), rfl, lX3_136, Nat.le_of_ble_eq_true rfl, Nat.le_of_ble_eq_true rfl⟩
theorem iX3_melts_37 : xl_D mX3_melts 37 (.aload_n 0) 1 38 := ⟨zd zq_0 (by decide +kernel), rfl⟩
theorem iX3_melts_38 : xl_D mX3_melts 38 (.iload_n 1) 1 39 := ⟨zd zq_3 (by decide +kernel), rfl⟩
theorem iX3_melts_39 : xl_D mX3_melts 39 (.iconst 1) 1 40 := ⟨zd zq_36 (by decide +kernel), rfl⟩
theorem iX3_melts_40 : xl_Ca mX3_melts 40 mX3_of 43 := ⟨116, zd zq_555 (by decide +kernel), rfl, lX3_116, Nat.le_of_ble_eq_true rfl, Nat.le_of_ble_eq_true rfl⟩
theorem iX3_melts_43 : xl_D mX3_melts 43 (.iadd) 1 44 := ⟨zd zq_19 (by decide +kernel), rfl⟩
theorem iX3_melts_44 : xl_D mX3_melts 44 (.iload 4) 2 46 := ⟨zd zq_51 (by decide +kernel), rfl⟩
theorem iX3_melts_46 : xl_J mX3_melts 46 (fun o => .if_icmp .lt o) 49 53 := ⟨7, zd zq_166 (by decide +kernel), rfl, rfl⟩
theorem iX3_melts_49 : xl_D mX3_melts 49 (.iconst 1) 1 50 := ⟨zd zq_36 (by decide +kernel), rfl⟩
theorem iX3_melts_50 : xl_J mX3_melts 50 (fun o => .goto o) 53 54 := ⟨4, zd zq_139 (by decide +kernel), rfl, rfl⟩
theorem iX3_melts_53 : xl_D mX3_melts 53 (.iconst 0) 1 54 := ⟨zd zq_2 (by decide +kernel), rfl⟩
theorem iX3_melts_54 : xl_D mX3_melts 54 (.ireturn) 1 55 := ⟨zd zq_17 (by decide +kernel), rfl⟩
theorem iX3_joins_0 : xl_D mX3_joins 0 (.aload_n 0) 1 1 := ⟨zd zq_0 (by decide +kernel), rfl⟩
theorem iX3_joins_1 : xl_D mX3_joins 1 (.iconst 0) 1 2 := ⟨zd zq_2 (by decide +kernel), rfl⟩
theorem iX3_joins_2 : xl_P mX3_joins 2 3 12 .int 5 := ⟨184, zd zq_605 (by decide +kernel), rfl, wX3_184⟩
theorem iX3_joins_5 : xl_D mX3_joins 5 (.aload_n 0) 1 6 := ⟨zd zq_0 (by decide +kernel), rfl⟩
theorem iX3_joins_6 : xl_G mX3_joins 6 3 9 9 := ⟨56, zd zq_567 (by decide +kernel), rfl, fX3_56⟩
theorem iX3_joins_9 : xl_D mX3_joins 9 (.iconst 0) 1 10 := ⟨zd zq_2 (by decide +kernel), rfl⟩
theorem iX3_joins_10 : xl_D mX3_joins 10 (.iload_n 2) 1 11 := ⟨zd zq_6 (by decide +kernel), rfl⟩
theorem iX3_joins_11 : xl_D mX3_joins 11 (.iastore) 1 12 := ⟨zd zq_26 (by decide +kernel), rfl⟩
theorem iX3_joins_12 : xl_D mX3_joins 12 (.aload_n 0) 1 13 := ⟨zd zq_0 (by decide +kernel), rfl⟩
theorem iX3_joins_13 : xl_G mX3_joins 13 3 9 16 := ⟨56, zd zq_567 (by decide +kernel), rfl, fX3_56⟩
theorem iX3_joins_16 : xl_D mX3_joins 16 (.iconst 1) 1 17 := ⟨zd zq_36 (by decide +kernel), rfl⟩
theorem iX3_joins_17 : xl_D mX3_joins 17 (.iload_n 3) 1 18 := ⟨zd zq_25 (by decide +kernel), rfl⟩
theorem iX3_joins_18 : xl_D mX3_joins 18 (.iastore) 1 19 := ⟨zd zq_26 (by decide +kernel), rfl⟩
theorem iX3_joins_19 : xl_D mX3_joins 19 (.aload_n 0) 1 20 := ⟨zd zq_0 (by decide +kernel), rfl⟩
theorem iX3_joins_20 : xl_G mX3_joins 20 3 9 23 := ⟨56, zd zq_567 (by decide +kernel), rfl, fX3_56⟩
theorem iX3_joins_23 : xl_D mX3_joins 23 (.iconst 2) 1 24 := ⟨zd zq_127 (by decide +kernel), rfl⟩
theorem iX3_joins_24 : xl_D mX3_joins 24 (.iload_n 3) 1 25 := ⟨zd zq_25 (by decide +kernel), rfl⟩
theorem iX3_joins_25 : xl_D mX3_joins 25 (.iastore) 1 26 := ⟨zd zq_26 (by decide +kernel), rfl⟩
theorem iX3_joins_26 : xl_D mX3_joins 26 (.aload_n 0) 1 27 := ⟨zd zq_0 (by decide +kernel), rfl⟩
theorem iX3_joins_27 : xl_G mX3_joins 27 3 9 30 := ⟨56, zd zq_567 (by decide +kernel), rfl, fX3_56⟩
theorem iX3_joins_30 : xl_D mX3_joins 30 (.iconst 3) 1 31 := ⟨zd zq_123 (by decide +kernel), rfl⟩
theorem iX3_joins_31 : xl_D mX3_joins 31 (.iconst 1) 1 32 := ⟨zd zq_36 (by decide +kernel), rfl⟩
theorem iX3_joins_32 : xl_D mX3_joins 32 (.iastore) 1 33 := ⟨zd zq_26 (by decide +kernel), rfl⟩
theorem iX3_joins_33 : xl_D mX3_joins 33 (.aload_n 0) 1 34 := ⟨zd zq_0 (by decide +kernel), rfl⟩
theorem iX3_joins_34 : xl_G mX3_joins 34 3 9 37 := ⟨56, zd zq_567 (by decide +kernel), rfl, fX3_56⟩
theorem iX3_joins_37 : xl_D mX3_joins 37 (.iconst 4) 1 38 := ⟨zd zq_63 (by decide +kernel), rfl⟩
theorem iX3_joins_38 : xl_D mX3_joins 38 (.iload 4) 2 40 := ⟨zd zq_51 (by decide +kernel), rfl⟩
theorem iX3_joins_40 : xl_D mX3_joins 40 (.iastore) 1 41 := ⟨zd zq_26 (by decide +kernel), rfl⟩
theorem iX3_joins_41 : xl_D mX3_joins 41 (.aload_n 0) 1 42 := ⟨zd zq_0 (by decide +kernel), rfl⟩
theorem iX3_joins_42 : xl_G mX3_joins 42 3 9 45 := ⟨56, zd zq_567 (by decide +kernel), rfl, fX3_56⟩
theorem iX3_joins_45 : xl_D mX3_joins 45 (.iconst 5) 1 46 := ⟨zd zq_64 (by decide +kernel), rfl⟩
theorem iX3_joins_46 : xl_D mX3_joins 46 (.iload 4) 2 48 := ⟨zd zq_51 (by decide +kernel), rfl⟩
theorem iX3_joins_48 : xl_D mX3_joins 48 (.iastore) 1 49 := ⟨zd zq_26 (by decide +kernel), rfl⟩
theorem iX3_joins_49 : xl_D mX3_joins 49 (.aload_n 0) 1 50 := ⟨zd zq_0 (by decide +kernel), rfl⟩
theorem iX3_joins_50 : xl_G mX3_joins 50 3 9 53 := ⟨56, zd zq_567 (by decide +kernel), rfl, fX3_56⟩
theorem iX3_joins_53 : xl_D mX3_joins 53 (.bipush 6) 2 55 := ⟨zd zq_71 (by decide +kernel), rfl⟩
theorem iX3_joins_55 : xl_D mX3_joins 55 (.iconst 0) 1 56 := ⟨zd zq_2 (by decide +kernel), rfl⟩
theorem iX3_joins_56 : xl_D mX3_joins 56 (.iastore) 1 57 := ⟨zd zq_26 (by decide +kernel), rfl⟩
theorem iX3_joins_57 : xl_D mX3_joins 57 (.iconst 0) 1 58 := ⟨zd zq_2 (by decide +kernel), rfl⟩
theorem iX3_joins_58 : xl_D mX3_joins 58 (.istore 5) 2 60 := ⟨zd zq_91 (by decide +kernel), rfl⟩
theorem iX3_joins_60 : xl_D mX3_joins 60 (.iload 5) 2 62 := ⟨zd zq_92 (by decide +kernel), rfl⟩
theorem iX3_joins_62 : xl_D mX3_joins 62 (.aload_n 0) 1 63 := ⟨zd zq_0 (by decide +kernel), rfl⟩
theorem iX3_joins_63 : xl_D mX3_joins 63 (.iload_n 1) 1 64 := ⟨zd zq_3 (by decide +kernel), rfl⟩
theorem iX3_joins_64 : xl_D mX3_joins 64 (.iconst 5) 1 65 := ⟨zd zq_64 (by decide +kernel), rfl⟩
theorem iX3_joins_65 : xl_Ca mX3_joins 65 mX3_of 68 := ⟨116, zd zq_555 (by decide +kernel), rfl, lX3_116, Nat.le_of_ble_eq_true rfl, Nat.le_of_ble_eq_true rfl⟩
theorem iX3_joins_68 : xl_J mX3_joins 68 (fun o => .if_icmp .ge o) 71 106 := ⟨38, zd zq_316 (by decide +kernel), rfl, rfl⟩
theorem iX3_joins_71 : xl_D mX3_joins 71 (.aload_n 0) 1 72 := ⟨zd zq_0 (by decide +kernel), rfl⟩
theorem iX3_joins_72 : xl_D mX3_joins 72 (.iload_n 1) 1 73 := ⟨zd zq_3 (by decide +kernel), rfl⟩
theorem iX3_joins_73 : xl_D mX3_joins 73 (.iload 5) 2 75 := ⟨zd zq_92 (by decide +kernel), rfl⟩
theorem iX3_joins_75 : xl_D mX3_joins 75 (.iload_n 2) 1 76 := ⟨zd zq_6 (by decide +kernel), rfl⟩
theorem iX3_joins_76 : xl_D mX3_joins 76 (.iload_n 3) 1 77 := ⟨zd zq_25 (by decide +kernel), rfl⟩
theorem iX3_joins_77 : xl_Ca mX3_joins 77 mX3_melts 80 := ⟨187, zd zq_606 (by decide +kernel), rfl, lX3_187, Nat.le_of_ble_eq_true rfl, Nat.le_of_ble_eq_true rfl⟩
theorem iX3_joins_80 : xl_J mX3_joins 80 (fun o => .ifCond .eq o) 83 100 := ⟨20, zd zq_218 (by decide +kernel), rfl, rfl⟩
theorem iX3_joins_83 : xl_D mX3_joins 83 (.aload_n 0) 1 84 := ⟨zd zq_0 (by decide +kernel), rfl⟩
theorem iX3_joins_84 : xl_D mX3_joins 84 (.iload_n 1) 1 85 := ⟨zd zq_3 (by decide +kernel), rfl⟩
theorem iX3_joins_85 : xl_D mX3_joins 85 (.iload 5) 2 87 := ⟨zd zq_92 (by decide +kernel), rfl⟩
theorem iX3_joins_87 : xl_Ca mX3_joins 87 mX3_takesBack 90 := ⟨161, zd zq_593 (by decide +kernel), rfl, lX3_161, Nat.le_of_ble_eq_true rfl, Nat.le_of_ble_eq_true rfl⟩
theorem iX3_joins_90 : xl_D mX3_joins 90 (.aload_n 0) 1 91 := ⟨zd zq_0 (by decide +kernel), rfl⟩
theorem iX3_joins_91 : xl_D mX3_joins 91 (.dup) 1 92 := ⟨zd zq_46 (by decide +kernel), rfl⟩
theorem iX3_joins_92 : xl_G mX3_joins 92 3 12 95 := ⟨184, zd zq_607 (by decide +kernel), rfl, fX3_184⟩
theorem iX3_joins_95 : xl_D mX3_joins 95 (.iconst 1) 1 96 := ⟨zd zq_36 (by decide +kernel), rfl⟩
theorem iX3_joins_96 : xl_D mX3_joins 96 (.iadd) 1 97 := ⟨zd zq_19 (by decide +kernel), rfl⟩
theorem iX3_joins_97 : xl_P mX3_joins 97 3 12 .int 100 := ⟨184, zd zq_605 (by decide +kernel), rfl, wX3_184⟩
theorem iX3_joins_100 : xl_D mX3_joins 100 (.iinc 5 1) 3 103 := ⟨zd zq_98 (by decide +kernel), rfl⟩
theorem iX3_joins_103 : xl_J mX3_joins 103 (fun o => .goto o) 106 60 := ⟨-43, zd zq_370 (by decide +kernel), rfl, rfl⟩
theorem iX3_joins_106 : xl_D mX3_joins 106 (.aload_n 0) 1 107 := ⟨zd zq_0 (by decide +kernel), rfl⟩
theorem iX3_joins_107 : xl_D mX3_joins 107 (.iload_n 1) 1 108 := ⟨zd zq_3 (by decide +kernel), rfl⟩
theorem iX3_joins_108 : xl_D mX3_joins 108 (.iconst 5) 1 109 := ⟨zd zq_64 (by decide +kernel), rfl⟩
theorem iX3_joins_109 : xl_Ca mX3_joins 109 mX3_of 112 := ⟨116, zd zq_555 (by decide +kernel), rfl, lX3_116, Nat.le_of_ble_eq_true rfl, Nat.le_of_ble_eq_true rfl⟩
theorem iX3_joins_112 : xl_D mX3_joins 112 (.iconst 1) 1 113 := ⟨zd zq_36 (by decide +kernel), rfl⟩
theorem iX3_joins_113 : xl_D mX3_joins 113 (.isub) 1 114 := ⟨zd zq_39 (by decide +kernel), rfl⟩
theorem iX3_joins_114 : xl_D mX3_joins 114 (.istore 5) 2 116 := ⟨zd zq_91 (by decide +kernel), rfl⟩
theorem iX3_joins_116 : xl_D mX3_joins 116 (.iload 5) 2 118 := ⟨zd zq_92 (by decide +kernel), rfl⟩
theorem iX3_joins_118 : xl_J mX3_joins 118 (fun o => .ifCond .lt o) 121 249 := ⟨131, zd zq_608 (by decide +kernel), rfl, rfl⟩
theorem iX3_joins_121 : xl_D mX3_joins 121 (.aload_n 0) 1 122 := ⟨zd zq_0 (by decide +kernel), rfl⟩
theorem iX3_joins_122 : xl_D mX3_joins 122 (.iload_n 1) 1 123 := ⟨zd zq_3 (by decide +kernel), rfl⟩
theorem iX3_joins_123 : xl_D mX3_joins 123 (.iload 5) 2 125 := ⟨zd zq_92 (by decide +kernel), rfl⟩
theorem iX3_joins_125 : xl_D mX3_joins 125 (.iload_n 2) 1 126 := ⟨zd zq_6 (by decide +kernel), rfl⟩
theorem iX3_joins_126 : xl_D mX3_joins 126 (.iload_n 3) 1 127 := ⟨zd zq_25 (by decide +kernel), rfl⟩
theorem iX3_joins_127 : xl_Ca mX3_joins 127 mX3_melts 130 := ⟨187, zd zq_606 (by decide +kernel), rfl, lX3_187, Nat.le_of_ble_eq_true rfl, Nat.le_of_ble_eq_true rfl⟩
theorem iX3_joins_130 : xl_J mX3_joins 130 (fun o => .ifCond .eq o) 133 243 := ⟨113, zd zq_609 (by decide +kernel), rfl, rfl⟩
theorem iX3_joins_133 : xl_D mX3_joins 133 (.aload_n 0) 1 134 := ⟨zd zq_0 (by decide +kernel), rfl⟩
theorem iX3_joins_134 : xl_G mX3_joins 134 3 9 137 := ⟨56, zd zq_567 (by decide +kernel), rfl, fX3_56⟩
theorem iX3_joins_137 : xl_D mX3_joins 137 (.iconst 1) 1 138 := ⟨zd zq_36 (by decide +kernel), rfl⟩
theorem iX3_joins_138 : xl_D mX3_joins 138 (.aload_n 0) 1 139 := ⟨zd zq_0 (by decide +kernel), rfl⟩
theorem iX3_joins_139 : xl_G mX3_joins 139 3 9 142 := ⟨56, zd zq_567 (by decide +kernel), rfl, fX3_56⟩
theorem iX3_joins_142 : xl_D mX3_joins 142 (.iconst 1) 1 143 := ⟨zd zq_36 (by decide +kernel), rfl⟩
theorem iX3_joins_143 : xl_D mX3_joins 143 (.iaload) 1 144 := ⟨zd zq_20 (by decide +kernel), rfl⟩
theorem iX3_joins_144 : xl_D mX3_joins 144 (.aload_n 0) 1 145 := ⟨zd zq_0 (by decide +kernel), rfl⟩
theorem iX3_joins_145 : xl_D mX3_joins 145 (.iload_n 1) 1 146 := ⟨zd zq_3 (by decide +kernel), rfl⟩
theorem iX3_joins_146 : xl_D mX3_joins 146 (.iload 5) 2 148 := ⟨zd zq_92 (by decide +kernel), rfl⟩
theorem iX3_joins_148 : xl_D mX3_joins 148 (.iconst 1) 1 149 := ⟨zd zq_36 (by decide +kernel), rfl⟩
theorem iX3_joins_149 : xl_Ca mX3_joins 149 mX3_ofSession 152 := ⟨136, zd zq_568 (by decide +kernel), rfl, lX3_136, Nat.le_of_ble_eq_true rfl, Nat.le_of_ble_eq_true rfl⟩
theorem iX3_joins_152 : xl_Cm mX3_joins 152 Lib.Math.min.name Lib.Math.min.code 155 := ⟨191, zd zq_610 (by decide +kernel), rfl, lX3_191, xl_stmin, xl_iMath, xl_comin, Nat.le_of_ble_eq_true rfl, Nat.le_of_ble_eq_true rfl⟩
theorem iX3_joins_155 : xl_D mX3_joins 155 (.iastore) 1 156 := ⟨zd zq_26 (by decide +kernel), rfl⟩
theorem iX3_joins_156 : xl_D mX3_joins 156 (.aload_n 0) 1 157 := ⟨zd zq_0 (by decide +kernel), rfl⟩
theorem iX3_joins_157 : xl_G mX3_joins 157 3 9 160 := ⟨56, zd zq_567 (by decide +kernel), rfl, fX3_56⟩
theorem iX3_joins_160 : xl_D mX3_joins 160 (.iconst 2) 1 161 := ⟨zd zq_127 (by decide +kernel), rfl⟩
theorem iX3_joins_161 : xl_D mX3_joins 161 (.aload_n 0) 1 162 := ⟨zd zq_0 (by decide +kernel), rfl⟩
theorem iX3_joins_162 : xl_G mX3_joins 162 3 9 165 := ⟨56, zd zq_567 (by decide +kernel), rfl, fX3_56⟩
theorem iX3_joins_165 : xl_D mX3_joins 165 (.iconst 2) 1 166 := ⟨zd zq_127 (by decide +kernel), rfl⟩
theorem iX3_joins_166 : xl_D mX3_joins 166 (.iaload) 1 167 := ⟨zd zq_20 (by decide +kernel), rfl⟩
theorem iX3_joins_167 : xl_D mX3_joins 167 (.aload_n 0) 1 168 := ⟨zd zq_0 (by decide +kernel), rfl⟩
theorem iX3_joins_168 : xl_D mX3_joins 168 (.iload_n 1) 1 169 := ⟨zd zq_3 (by decide +kernel), rfl⟩
theorem iX3_joins_169 : xl_D mX3_joins 169 (.iload 5) 2 171 := ⟨zd zq_92 (by decide +kernel), rfl⟩
theorem iX3_joins_171 : xl_D mX3_joins 171 (.iconst 2) 1 172 := ⟨zd zq_127 (by decide +kernel), rfl⟩
theorem iX3_joins_172 : xl_Ca mX3_joins 172 mX3_ofSession 175 := ⟨136, zd zq_568 (by decide +kernel), rfl, lX3_136, Nat.le_of_ble_eq_true rfl, Nat.le_of_ble_eq_true rfl⟩
theorem iX3_joins_175 : xl_Cm mX3_joins 175 Lib.Math.max.name Lib.Math.max.code 178 := ⟨176, zd zq_601 (by decide +kernel), rfl, lX3_176, xl_stmax, xl_iMath, xl_comax, Nat.le_of_ble_eq_true rfl, Nat.le_of_ble_eq_true rfl⟩
theorem iX3_joins_178 : xl_D mX3_joins 178 (.iastore) 1 179 := ⟨zd zq_26 (by decide +kernel), rfl⟩
theorem iX3_joins_179 : xl_D mX3_joins 179 (.aload_n 0) 1 180 := ⟨zd zq_0 (by decide +kernel), rfl⟩
theorem iX3_joins_180 : xl_G mX3_joins 180 3 9 183 := ⟨56, zd zq_567 (by decide +kernel), rfl, fX3_56⟩
theorem iX3_joins_183 : xl_D mX3_joins 183 (.iconst 3) 1 184 := ⟨zd zq_123 (by decide +kernel), rfl⟩
theorem iX3_joins_184 : xl_D mX3_joins 184 (.dup2) 1 185 := ⟨zd zq_31 (by decide +kernel), rfl⟩
theorem iX3_joins_185 : xl_D mX3_joins 185 (.iaload) 1 186 := ⟨zd zq_20 (by decide +kernel), rfl⟩
theorem iX3_joins_186 : xl_D mX3_joins 186 (.aload_n 0) 1 187 := ⟨zd zq_0 (by decide +kernel), rfl⟩
theorem iX3_joins_187 : xl_D mX3_joins 187 (.iload_n 1) 1 188 := ⟨zd zq_3 (by decide +kernel), rfl⟩
theorem iX3_joins_188 : xl_D mX3_joins 188 (.iload 5) 2 190 := ⟨zd zq_92 (by decide +kernel), rfl⟩
theorem iX3_joins_190 : xl_D mX3_joins 190 (.iconst 3) 1 191 := ⟨zd zq_123 (by decide +kernel), rfl⟩
theorem iX3_joins_191 : xl_Ca mX3_joins 191 mX3_ofSession 194 := ⟨136, zd zq_568 (by decide +kernel), rfl, lX3_136, Nat.le_of_ble_eq_true rfl, Nat.le_of_ble_eq_true rfl⟩
theorem iX3_joins_194 : xl_D mX3_joins 194 (.iadd) 1 195 := ⟨zd zq_19 (by decide +kernel), rfl⟩
theorem iX3_joins_195 : xl_D mX3_joins 195 (.iastore) 1 196 := ⟨zd zq_26 (by decide +kernel), rfl⟩
theorem iX3_joins_196 : xl_D mX3_joins 196 (.aload_n 0) 1 197 := ⟨zd zq_0 (by decide +kernel), rfl⟩
theorem iX3_joins_197 : xl_G mX3_joins 197 3 9 200 := ⟨56, zd zq_567 (by decide +kernel), rfl, fX3_56⟩
theorem iX3_joins_200 : xl_D mX3_joins 200 (.iconst 4) 1 201 := ⟨zd zq_63 (by decide +kernel), rfl⟩
theorem iX3_joins_201 : xl_D mX3_joins 201 (.dup2) 1 202 := ⟨zd zq_31 (by decide +kernel), rfl⟩
theorem iX3_joins_202 : xl_D mX3_joins 202 (.iaload) 1 203 := ⟨zd zq_20 (by decide +kernel), rfl⟩
theorem iX3_joins_203 : xl_D mX3_joins 203 (.aload_n 0) 1 204 := ⟨zd zq_0 (by decide +kernel), rfl⟩
theorem iX3_joins_204 : xl_D mX3_joins 204 (.iload_n 1) 1 205 := ⟨zd zq_3 (by decide +kernel), rfl⟩
theorem iX3_joins_205 : xl_D mX3_joins 205 (.iload 5) 2 207 := ⟨zd zq_92 (by decide +kernel), rfl⟩
theorem iX3_joins_207 : xl_D mX3_joins 207 (.iconst 4) 1 208 := ⟨zd zq_63 (by decide +kernel), rfl⟩
theorem iX3_joins_208 : xl_Ca mX3_joins 208 mX3_ofSession 211 := ⟨136, zd zq_568 (by decide +kernel), rfl, lX3_136, Nat.le_of_ble_eq_true rfl, Nat.le_of_ble_eq_true rfl⟩
theorem iX3_joins_211 : xl_D mX3_joins 211 (.iadd) 1 212 := ⟨zd zq_19 (by decide +kernel), rfl⟩
theorem iX3_joins_212 : xl_D mX3_joins 212 (.iastore) 1 213 := ⟨zd zq_26 (by decide +kernel), rfl⟩
theorem iX3_joins_213 : xl_D mX3_joins 213 (.aload_n 0) 1 214 := ⟨zd zq_0 (by decide +kernel), rfl⟩
theorem iX3_joins_214 : xl_G mX3_joins 214 3 9 217 := ⟨56, zd zq_567 (by decide +kernel), rfl, fX3_56⟩
theorem iX3_joins_217 : xl_D mX3_joins 217 (.iconst 5) 1 218 := ⟨zd zq_64 (by decide +kernel), rfl⟩
theorem iX3_joins_218 : xl_D mX3_joins 218 (.aload_n 0) 1 219 := ⟨zd zq_0 (by decide +kernel), rfl⟩
theorem iX3_joins_219 : xl_G mX3_joins 219 3 9 222 := ⟨56, zd zq_567 (by decide +kernel), rfl, fX3_56⟩
theorem iX3_joins_222 : xl_D mX3_joins 222 (.iconst 5) 1 223 := ⟨zd zq_64 (by decide +kernel), rfl⟩
theorem iX3_joins_223 : xl_D mX3_joins 223 (.iaload) 1 224 := ⟨zd zq_20 (by decide +kernel), rfl⟩
theorem iX3_joins_224 : xl_D mX3_joins 224 (.aload_n 0) 1 225 := ⟨zd zq_0 (by decide +kernel), rfl⟩
theorem iX3_joins_225 : xl_D mX3_joins 225 (.iload_n 1) 1 226 := ⟨zd zq_3 (by decide +kernel), rfl⟩
theorem iX3_joins_226 : xl_D mX3_joins 226 (.iload 5) 2 228 := ⟨zd zq_92 (by decide +kernel), rfl⟩
theorem iX3_joins_228 : xl_D mX3_joins 228 (.iconst 5) 1 229 := ⟨zd zq_64 (by decide +kernel), rfl⟩
theorem iX3_joins_229 : xl_Ca mX3_joins 229 mX3_ofSession 232 := ⟨136, zd zq_568 (by decide +kernel), rfl, lX3_136, Nat.le_of_ble_eq_true rfl, Nat.le_of_ble_eq_true rfl⟩
theorem iX3_joins_232 : xl_Cm mX3_joins 232 Lib.Math.max.name Lib.Math.max.code 235 := ⟨176, zd zq_601 (by decide +kernel), rfl, lX3_176, xl_stmax, xl_iMath, xl_comax, Nat.le_of_ble_eq_true rfl, Nat.le_of_ble_eq_true rfl⟩
theorem iX3_joins_235 : xl_D mX3_joins 235 (.iastore) 1 236 := ⟨zd zq_26 (by decide +kernel), rfl⟩
theorem iX3_joins_236 : xl_D mX3_joins 236 (.aload_n 0) 1 237 := ⟨zd zq_0 (by decide +kernel), rfl⟩
theorem iX3_joins_237 : xl_D mX3_joins 237 (.iload_n 1) 1 238 := ⟨zd zq_3 (by decide +kernel), rfl⟩
theorem iX3_joins_238 : xl_D mX3_joins 238 (.iload 5) 2 240 := ⟨zd zq_92 (by decide +kernel), rfl⟩
theorem iX3_joins_240 : xl_Ca mX3_joins 240 mX3_goesOut 243 := ⟨181, zd zq_216 (by decide +kernel), rfl, lX3_181, Nat.le_of_ble_eq_true rfl, Nat.le_of_ble_eq_true rfl⟩
theorem iX3_joins_243 : xl_D mX3_joins 243 (.iinc 5 (-1)) 3 246 := ⟨zd zq_382 (by decide +kernel), rfl⟩
theorem iX3_joins_246 : xl_J mX3_joins 246 (fun o => .goto o) 249 116 := ⟨-130, zd zq_611 (by decide +kernel), rfl, rfl⟩
theorem iX3_joins_249 : xl_D mX3_joins 249 (.aload_n 0) 1 250 := ⟨zd zq_0 (by decide +kernel), rfl⟩
theorem iX3_joins_250 : xl_D mX3_joins 250 (.iload_n 1) 1 251 := ⟨zd zq_3 (by decide +kernel), rfl⟩
theorem iX3_joins_251 : xl_D mX3_joins 251 (.bipush 11) 2 253 := ⟨zd zq_612 (by decide +kernel), rfl⟩
theorem iX3_joins_253 : xl_D mX3_joins 253 (.aload_n 0) 1 254 := ⟨zd zq_0 (by decide +kernel), rfl⟩
theorem iX3_joins_254 : xl_G mX3_joins 254 3 12 257 := ⟨184, zd zq_607 (by decide +kernel), rfl, fX3_184⟩
theorem iX3_joins_257 : xl_D mX3_joins 257 (.iconst 1) 1 258 := ⟨zd zq_36 (by decide +kernel), rfl⟩
theorem iX3_joins_258 : xl_J mX3_joins 258 (fun o => .if_icmp .le o) 261 265 := ⟨7, zd zq_182 (by decide +kernel), rfl, rfl⟩
theorem iX3_joins_261 : xl_D mX3_joins 261 (.iconst 1) 1 262 := ⟨zd zq_36 (by decide +kernel), rfl⟩
theorem iX3_joins_262 : xl_J mX3_joins 262 (fun o => .goto o) 265 266 := ⟨4, zd zq_139 (by decide +kernel), rfl, rfl⟩
theorem iX3_joins_265 : xl_D mX3_joins 265 (.iconst 0) 1 266 := ⟨zd zq_2 (by decide +kernel), rfl⟩
theorem iX3_joins_266 : xl_Cs mX3_joins 266 mX3_flag 269 := ⟨194, zd zq_613 (by decide +kernel), rfl, lX3_194, Nat.le_of_ble_eq_true rfl, Nat.le_of_ble_eq_true rfl⟩
theorem iX3_joins_269 : xl_Ca mX3_joins 269 mX3_adds 272 := ⟨129, zd zq_560 (by decide +kernel), rfl, lX3_129, Nat.le_of_ble_eq_true rfl, Nat.le_of_ble_eq_true rfl⟩
theorem iX3_joins_272 : xl_D mX3_joins 272 (.aload_n 0) 1 273 := ⟨zd zq_0 (by decide +kernel), rfl⟩
theorem iX3_joins_273 : xl_D mX3_joins 273 (.iload_n 1) 1 274 := ⟨zd zq_3 (by decide +kernel), rfl⟩
theorem iX3_joins_274 : xl_Ca mX3_joins 274 mX3_comesIn 277 := ⟨198, zd zq_614 (by decide +kernel), rfl, lX3_198, Nat.le_of_ble_eq_true rfl, Nat.le_of_ble_eq_true rfl⟩
theorem iX3_joins_277 : xl_D mX3_joins 277 (.istore 5) 2 279 := ⟨zd zq_91 (by decide +kernel), rfl⟩
theorem iX3_joins_279 : xl_D mX3_joins 279 (.aload_n 0) 1 280 := ⟨zd zq_0 (by decide +kernel), rfl⟩
theorem iX3_joins_280 : xl_D mX3_joins 280 (.iload_n 1) 1 281 := ⟨zd zq_3 (by decide +kernel), rfl⟩
theorem iX3_joins_281 : xl_D mX3_joins 281 (.iconst 3) 1 282 := ⟨zd zq_123 (by decide +kernel), rfl⟩
theorem iX3_joins_282 : xl_Ca mX3_joins 282 mX3_of 285 := ⟨116, zd zq_555 (by decide +kernel), rfl, lX3_116, Nat.le_of_ble_eq_true rfl, Nat.le_of_ble_eq_true rfl⟩
theorem iX3_joins_285 : xl_D mX3_joins 285 (.istore 6) 2 287 := ⟨zd zq_119 (by decide +kernel), rfl⟩
theorem iX3_joins_287 : xl_D mX3_joins 287 (.aload_n 0) 1 288 := ⟨zd zq_0 (by decide +kernel), rfl⟩
theorem iX3_joins_288 : xl_D mX3_joins 288 (.iload_n 1) 1 289 := ⟨zd zq_3 (by decide +kernel), rfl⟩
theorem iX3_joins_289 : xl_D mX3_joins 289 (.iload 5) 2 291 := ⟨zd zq_92 (by decide +kernel), rfl⟩
theorem iX3_joins_291 : xl_D mX3_joins 291 (.aload_n 0) 1 292 := ⟨zd zq_0 (by decide +kernel), rfl⟩
theorem iX3_joins_292 : xl_D mX3_joins 292 (.iload_n 1) 1 293 := ⟨zd zq_3 (by decide +kernel), rfl⟩
theorem iX3_joins_293 : xl_D mX3_joins 293 (.iconst 4) 1 294 := ⟨zd zq_63 (by decide +kernel), rfl⟩
theorem iX3_joins_294 : xl_Ca mX3_joins 294 mX3_of 297 := ⟨116, zd zq_555 (by decide +kernel), rfl, lX3_116, Nat.le_of_ble_eq_true rfl, Nat.le_of_ble_eq_true rfl⟩
theorem iX3_joins_297 : xl_Ca mX3_joins 297 mX3_isRipeBy 300 := ⟨143, zd zq_580 (by decide +kernel), rfl, lX3_143, Nat.le_of_ble_eq_true rfl, Nat.le_of_ble_eq_true rfl⟩
theorem iX3_joins_300 : xl_J mX3_joins 300 (fun o => .ifCond .eq o) 303 314 := ⟨14, zd zq_251 (by decide +kernel), rfl, rfl⟩
theorem iX3_joins_303 : xl_D mX3_joins 303 (.aload_n 0) 1 304 := ⟨zd zq_0 (by decide +kernel), rfl⟩
theorem iX3_joins_304 : xl_D mX3_joins 304 (.iload_n 1) 1 305 := ⟨zd zq_3 (by decide +kernel), rfl⟩
theorem iX3_joins_305 : xl_D mX3_joins 305 (.iconst 2) 1 306 := ⟨zd zq_127 (by decide +kernel), rfl⟩
theorem iX3_joins_306 : xl_D mX3_joins 306 (.iload 5) 2 308 := ⟨zd zq_92 (by decide +kernel), rfl⟩
theorem iX3_joins_308 : xl_Ca mX3_joins 308 mX3_sends 311 := ⟨140, zd zq_575 (by decide +kernel), rfl, lX3_140, Nat.le_of_ble_eq_true rfl, Nat.le_of_ble_eq_true rfl⟩
theorem iX3_joins_311 : xl_J mX3_joins 311 (fun o => .goto o) 314 339 := ⟨28, zd zq_615 (by decide +kernel), rfl, rfl⟩
theorem iX3_joins_314 : xl_D mX3_joins 314 (.iload 6) 2 316 := ⟨zd zq_125 (by decide +kernel), rfl⟩
theorem iX3_joins_316 : xl_J mX3_joins 316 (fun o => .ifCond .le o) 319 339 := ⟨23, zd zq_616 (by decide +kernel), rfl, rfl⟩
theorem iX3_joins_319 : xl_D mX3_joins 319 (.aload_n 0) 1 320 := ⟨zd zq_0 (by decide +kernel), rfl⟩
theorem iX3_joins_320 : xl_G mX3_joins 320 3 9 323 := ⟨56, zd zq_567 (by decide +kernel), rfl, fX3_56⟩
theorem iX3_joins_323 : xl_D mX3_joins 323 (.iconst 3) 1 324 := ⟨zd zq_123 (by decide +kernel), rfl⟩
theorem iX3_joins_324 : xl_D mX3_joins 324 (.iaload) 1 325 := ⟨zd zq_20 (by decide +kernel), rfl⟩
theorem iX3_joins_325 : xl_D mX3_joins 325 (.iload 6) 2 327 := ⟨zd zq_125 (by decide +kernel), rfl⟩
theorem iX3_joins_327 : xl_D mX3_joins 327 (.irem) 1 328 := ⟨zd zq_191 (by decide +kernel), rfl⟩
theorem iX3_joins_328 : xl_J mX3_joins 328 (fun o => .ifCond .ne o) 331 339 := ⟨11, zd zq_617 (by decide +kernel), rfl, rfl⟩
theorem iX3_joins_331 : xl_D mX3_joins 331 (.aload_n 0) 1 332 := ⟨zd zq_0 (by decide +kernel), rfl⟩
theorem iX3_joins_332 : xl_D mX3_joins 332 (.iload_n 1) 1 333 := ⟨zd zq_3 (by decide +kernel), rfl⟩
theorem iX3_joins_333 : xl_D mX3_joins 333 (.iconst 0) 1 334 := ⟨zd zq_2 (by decide +kernel), rfl⟩
theorem iX3_joins_334 : xl_D mX3_joins 334 (.iload 5) 2 336 := ⟨zd zq_92 (by decide +kernel), rfl⟩
theorem iX3_joins_336 : xl_Ca mX3_joins 336 mX3_sends 339 := ⟨140, zd zq_575 (by decide +kernel), rfl, lX3_140, Nat.le_of_ble_eq_true rfl, Nat.le_of_ble_eq_true rfl⟩
theorem iX3_joins_339 : xl_D mX3_joins 339 (.return_) 1 340 := ⟨zd zq_12 (by decide +kernel), rfl⟩
theorem iX3_comes_0 : xl_D mX3_comes 0 (.aload_n 0) 1 1 := ⟨zd zq_0 (by decide +kernel), rfl⟩
theorem iX3_comes_1 : xl_D mX3_comes 1 (.iload_n 1) 1 2 := ⟨zd zq_3 (by decide +kernel), rfl⟩
theorem iX3_comes_2 : xl_D mX3_comes 2 (.iconst 4) 1 3 := ⟨zd zq_63 (by decide +kernel), rfl⟩
theorem iX3_comes_3 : xl_Ca mX3_comes 3 mX3_of 6 := ⟨116, zd zq_555 (by decide +kernel), rfl, lX3_116, Nat.le_of_ble_eq_true rfl, Nat.le_of_ble_eq_true rfl⟩
theorem iX3_comes_6 : xl_D mX3_comes 6 (.istore 6) 2 8 := ⟨zd zq_119 (by decide +kernel), rfl⟩
theorem iX3_comes_8 : xl_D mX3_comes 8 (.iload_n 3) 1 9 := ⟨zd zq_25 (by decide +kernel), rfl⟩
theorem iX3_comes_9 : xl_D mX3_comes 9 (.iload 6) 2 11 := ⟨zd zq_125 (by decide +kernel), rfl⟩
theorem iX3_comes_11 : xl_D mX3_comes 11 (.aload_n 0) 1 12 := ⟨zd zq_0 (by decide +kernel), rfl⟩
theorem iX3_comes_12 : xl_D mX3_comes 12 (.iload_n 1) 1 13 := ⟨zd zq_3 (by decide +kernel), rfl⟩
theorem iX3_comes_13 : xl_D mX3_comes 13 (.iconst 2) 1 14 := ⟨zd zq_127 (by decide +kernel), rfl⟩
theorem iX3_comes_14 : xl_Ca mX3_comes 14 mX3_of 17 := ⟨116, zd zq_555 (by decide +kernel), rfl, lX3_116, Nat.le_of_ble_eq_true rfl, Nat.le_of_ble_eq_true rfl⟩
theorem iX3_comes_17 : xl_D mX3_comes 17 (.isub) 1 18 := ⟨zd zq_39 (by decide +kernel), rfl⟩
theorem iX3_comes_18 : xl_J mX3_comes 18 (fun o => .if_icmp .ge o) 21 25 := ⟨7, zd zq_145 (by decide +kernel), rfl, rfl⟩
theorem iX3_comes_21 : xl_D mX3_comes 21 (.iconst 2) 1 22 := ⟨zd zq_127 (by decide +kernel), rfl⟩
theorem iX3_comes_22 : xl_J mX3_comes 22 (fun o => .goto o) 25 36 := ⟨14, zd zq_358 (by decide +kernel), rfl, rfl⟩
theorem iX3_comes_25 : xl_D mX3_comes 25 (.iload_n 3) 1 26 := ⟨zd zq_25 (by decide +kernel), rfl⟩
theorem iX3_comes_26 : xl_D mX3_comes 26 (.iload 6) 2 28 := ⟨zd zq_125 (by decide +kernel), rfl⟩
theorem iX3_comes_28 : xl_J mX3_comes 28 (fun o => .if_icmp .ge o) 31 35 := ⟨7, zd zq_145 (by decide +kernel), rfl, rfl⟩
theorem iX3_comes_31 : xl_D mX3_comes 31 (.iconst 1) 1 32 := ⟨zd zq_36 (by decide +kernel), rfl⟩
theorem iX3_comes_32 : xl_J mX3_comes 32 (fun o => .goto o) 35 36 := ⟨4, zd zq_139 (by decide +kernel), rfl, rfl⟩
theorem iX3_comes_35 : xl_D mX3_comes 35 (.iconst 0) 1 36 := ⟨zd zq_2 (by decide +kernel), rfl⟩
theorem iX3_comes_36 : xl_D mX3_comes 36 (.istore 7) 2 38 := ⟨zd zq_122 (by decide +kernel), rfl⟩
theorem iX3_comes_38 : xl_D mX3_comes 38 (.aload_n 0) 1 39 := ⟨zd zq_0 (by decide +kernel), rfl⟩
theorem iX3_comes_39 : xl_D mX3_comes 39 (.iload_n 1) 1 40 := ⟨zd zq_3 (by decide +kernel), rfl⟩
theorem iX3_comes_40 : xl_D mX3_comes 40 (.iconst 0) 1 41 := ⟨zd zq_2 (by decide +kernel), rfl⟩
theorem iX3_comes_41 : xl_D mX3_comes 41 (.iload 5) 2 43 := ⟨zd zq_92 (by decide +kernel), rfl⟩
theorem iX3_comes_43 : xl_D mX3_comes 43 (.iload_n 3) 1 44 := ⟨zd zq_25 (by decide +kernel), rfl⟩
theorem iX3_comes_44 : xl_D mX3_comes 44 (.iload_n 2) 1 45 := ⟨zd zq_6 (by decide +kernel), rfl⟩
theorem iX3_comes_45 : xl_D mX3_comes 45 (.iload 4) 2 47 := ⟨zd zq_51 (by decide +kernel), rfl⟩
theorem iX3_comes_47 : xl_D mX3_comes 47 (.iload 7) 2 49 := ⟨zd zq_124 (by decide +kernel), rfl⟩
theorem iX3_comes_49 : xl_D mX3_comes 49 (.iconst 2) 1 50 := ⟨zd zq_127 (by decide +kernel), rfl⟩
theorem iX3_comes_50 : xl_J mX3_comes 50 (fun o => .if_icmp .ge o) 53 57 := ⟨7, zd zq_145 (by decide +kernel), rfl, rfl⟩
theorem iX3_comes_53 : xl_D mX3_comes 53 (.iconst 1) 1 54 := ⟨zd zq_36 (by decide +kernel), rfl⟩
theorem iX3_comes_54 : xl_J mX3_comes 54 (fun o => .goto o) 57 58 := ⟨4, zd zq_139 (by decide +kernel), rfl, rfl⟩
theorem iX3_comes_57 : xl_D mX3_comes 57 (.iconst 0) 1 58 := ⟨zd zq_2 (by decide +kernel), rfl⟩
theorem iX3_comes_58 : xl_Cs mX3_comes 58 mX3_flag 61 := ⟨194, zd zq_613 (by decide +kernel), rfl, lX3_194, Nat.le_of_ble_eq_true rfl, Nat.le_of_ble_eq_true rfl⟩
theorem iX3_comes_61 : xl_Ca mX3_comes 61 mX3_notes 64 := ⟨201, zd zq_618 (by decide +kernel), rfl, lX3_201, Nat.le_of_ble_eq_true rfl, Nat.le_of_ble_eq_true rfl⟩
theorem iX3_comes_64 : xl_D mX3_comes 64 (.aload_n 0) 1 65 := ⟨zd zq_0 (by decide +kernel), rfl⟩
theorem iX3_comes_65 : xl_D mX3_comes 65 (.iconst 0) 1 66 := ⟨zd zq_2 (by decide +kernel), rfl⟩
theorem iX3_comes_66 : xl_P mX3_comes 66 3 12 .int 69 := ⟨184, zd zq_605 (by decide +kernel), rfl, wX3_184⟩
theorem iX3_comes_69 : xl_D mX3_comes 69 (.iload 7) 2 71 := ⟨zd zq_124 (by decide +kernel), rfl⟩
theorem iX3_comes_71 : xl_D mX3_comes 71 (.iconst 2) 1 72 := ⟨zd zq_127 (by decide +kernel), rfl⟩
theorem iX3_comes_72 : xl_J mX3_comes 72 (fun o => .if_icmp .ge o) 75 104 := ⟨32, zd zq_28 (by decide +kernel), rfl, rfl⟩
theorem iX3_comes_75 : xl_D mX3_comes 75 (.aload_n 0) 1 76 := ⟨zd zq_0 (by decide +kernel), rfl⟩
theorem iX3_comes_76 : xl_D mX3_comes 76 (.iload_n 1) 1 77 := ⟨zd zq_3 (by decide +kernel), rfl⟩
theorem iX3_comes_77 : xl_D mX3_comes 77 (.bipush 8) 2 79 := ⟨zd zq_76 (by decide +kernel), rfl⟩
theorem iX3_comes_79 : xl_D mX3_comes 79 (.iconst 1) 1 80 := ⟨zd zq_36 (by decide +kernel), rfl⟩
theorem iX3_comes_80 : xl_Ca mX3_comes 80 mX3_adds 83 := ⟨129, zd zq_560 (by decide +kernel), rfl, lX3_129, Nat.le_of_ble_eq_true rfl, Nat.le_of_ble_eq_true rfl⟩
theorem iX3_comes_83 : xl_D mX3_comes 83 (.aload_n 0) 1 84 := ⟨zd zq_0 (by decide +kernel), rfl⟩
theorem iX3_comes_84 : xl_D mX3_comes 84 (.iload_n 1) 1 85 := ⟨zd zq_3 (by decide +kernel), rfl⟩
theorem iX3_comes_85 : xl_D mX3_comes 85 (.bipush 9) 2 87 := ⟨zd zq_271 (by decide +kernel), rfl⟩
theorem iX3_comes_87 : xl_D mX3_comes 87 (.iload 7) 2 89 := ⟨zd zq_124 (by decide +kernel), rfl⟩
theorem iX3_comes_89 : xl_Ca mX3_comes 89 mX3_adds 92 := ⟨129, zd zq_560 (by decide +kernel), rfl, lX3_129, Nat.le_of_ble_eq_true rfl, Nat.le_of_ble_eq_true rfl⟩
theorem iX3_comes_92 : xl_D mX3_comes 92 (.aload_n 0) 1 93 := ⟨zd zq_0 (by decide +kernel), rfl⟩
theorem iX3_comes_93 : xl_D mX3_comes 93 (.iload_n 1) 1 94 := ⟨zd zq_3 (by decide +kernel), rfl⟩
theorem iX3_comes_94 : xl_D mX3_comes 94 (.iload_n 2) 1 95 := ⟨zd zq_6 (by decide +kernel), rfl⟩
theorem iX3_comes_95 : xl_D mX3_comes 95 (.iload_n 3) 1 96 := ⟨zd zq_25 (by decide +kernel), rfl⟩
theorem iX3_comes_96 : xl_D mX3_comes 96 (.iload 4) 2 98 := ⟨zd zq_51 (by decide +kernel), rfl⟩
theorem iX3_comes_98 : xl_Ca mX3_comes 98 mX3_joins 101 := ⟨205, zd zq_619 (by decide +kernel), rfl, lX3_205, Nat.le_of_ble_eq_true rfl, Nat.le_of_ble_eq_true rfl⟩
theorem iX3_comes_101 : xl_J mX3_comes 101 (fun o => .goto o) 104 123 := ⟨22, zd zq_620 (by decide +kernel), rfl, rfl⟩
theorem iX3_comes_104 : xl_D mX3_comes 104 (.aload_n 0) 1 105 := ⟨zd zq_0 (by decide +kernel), rfl⟩
theorem iX3_comes_105 : xl_D mX3_comes 105 (.iload_n 1) 1 106 := ⟨zd zq_3 (by decide +kernel), rfl⟩
theorem iX3_comes_106 : xl_D mX3_comes 106 (.bipush 10) 2 108 := ⟨zd zq_78 (by decide +kernel), rfl⟩
theorem iX3_comes_108 : xl_D mX3_comes 108 (.iconst 1) 1 109 := ⟨zd zq_36 (by decide +kernel), rfl⟩
theorem iX3_comes_109 : xl_Ca mX3_comes 109 mX3_adds 112 := ⟨129, zd zq_560 (by decide +kernel), rfl, lX3_129, Nat.le_of_ble_eq_true rfl, Nat.le_of_ble_eq_true rfl⟩
theorem iX3_comes_112 : xl_D mX3_comes 112 (.aload_n 0) 1 113 := ⟨zd zq_0 (by decide +kernel), rfl⟩
theorem iX3_comes_113 : xl_D mX3_comes 113 (.iload_n 1) 1 114 := ⟨zd zq_3 (by decide +kernel), rfl⟩
theorem iX3_comes_114 : xl_D mX3_comes 114 (.bipush 28) 2 116 := ⟨zd zq_621 (by decide +kernel), rfl⟩
theorem iX3_comes_116 : xl_D mX3_comes 116 (.iload 5) 2 118 := ⟨zd zq_92 (by decide +kernel), rfl⟩
theorem iX3_comes_118 : xl_D mX3_comes 118 (.iadd) 1 119 := ⟨zd zq_19 (by decide +kernel), rfl⟩
theorem iX3_comes_119 : xl_D mX3_comes 119 (.iconst 1) 1 120 := ⟨zd zq_36 (by decide +kernel), rfl⟩
theorem iX3_comes_120 : xl_Ca mX3_comes 120 mX3_adds 123 := ⟨129, zd zq_560 (by decide +kernel), rfl, lX3_129, Nat.le_of_ble_eq_true rfl, Nat.le_of_ble_eq_true rfl⟩
theorem iX3_comes_123 : xl_D mX3_comes 123 (.aload_n 0) 1 124 := ⟨zd zq_0 (by decide +kernel), rfl⟩
theorem iX3_comes_124 : xl_D mX3_comes 124 (.iload_n 1) 1 125 := ⟨zd zq_3 (by decide +kernel), rfl⟩
theorem iX3_comes_125 : xl_D mX3_comes 125 (.bipush 24) 2 127 := ⟨zd zq_236 (by decide +kernel), rfl⟩
theorem iX3_comes_127 : xl_D mX3_comes 127 (.iload 5) 2 129 := ⟨zd zq_92 (by decide +kernel), rfl⟩
theorem iX3_comes_129 : xl_D mX3_comes 129 (.iadd) 1 130 := ⟨zd zq_19 (by decide +kernel), rfl⟩
theorem iX3_comes_130 : xl_D mX3_comes 130 (.iconst 1) 1 131 := ⟨zd zq_36 (by decide +kernel), rfl⟩
theorem iX3_comes_131 : xl_Ca mX3_comes 131 mX3_adds 134 := ⟨129, zd zq_560 (by decide +kernel), rfl, lX3_129, Nat.le_of_ble_eq_true rfl, Nat.le_of_ble_eq_true rfl⟩
theorem iX3_comes_134 : xl_D mX3_comes 134 (.aload_n 0) 1 135 := ⟨zd zq_0 (by decide +kernel), rfl⟩
theorem iX3_comes_135 : xl_D mX3_comes 135 (.iload_n 1) 1 136 := ⟨zd zq_3 (by decide +kernel), rfl⟩
theorem iX3_comes_136 : xl_D mX3_comes 136 (.bipush 20) 2 138 := ⟨zd zq_96 (by decide +kernel), rfl⟩
theorem iX3_comes_138 : xl_D mX3_comes 138 (.iload 5) 2 140 := ⟨zd zq_92 (by decide +kernel), rfl⟩
theorem iX3_comes_140 : xl_D mX3_comes 140 (.iadd) 1 141 := ⟨zd zq_19 (by decide +kernel), rfl⟩
theorem iX3_comes_141 : xl_D mX3_comes 141 (.iconst 0) 1 142 := ⟨zd zq_2 (by decide +kernel), rfl⟩
theorem iX3_comes_142 : xl_Ca mX3_comes 142 mX3_puts 145 := ⟨88, zd zq_542 (by decide +kernel), rfl, lX3_88, Nat.le_of_ble_eq_true rfl, Nat.le_of_ble_eq_true rfl⟩
theorem iX3_comes_145 : xl_D mX3_comes 145 (.aload_n 0) 1 146 := ⟨zd zq_0 (by decide +kernel), rfl⟩
theorem iX3_comes_146 : xl_D mX3_comes 146 (.iload_n 1) 1 147 := ⟨zd zq_3 (by decide +kernel), rfl⟩
theorem iX3_comes_147 : xl_D mX3_comes 147 (.bipush 12) 2 149 := ⟨zd zq_578 (by decide +kernel), rfl⟩
theorem iX3_comes_149 : xl_D mX3_comes 149 (.iload 5) 2 151 := ⟨zd zq_92 (by decide +kernel), rfl⟩
theorem iX3_comes_151 : xl_D mX3_comes 151 (.iadd) 1 152 := ⟨zd zq_19 (by decide +kernel), rfl⟩
theorem iX3_comes_152 : xl_D mX3_comes 152 (.aload_n 0) 1 153 := ⟨zd zq_0 (by decide +kernel), rfl⟩
theorem iX3_comes_153 : xl_D mX3_comes 153 (.iload_n 1) 1 154 := ⟨zd zq_3 (by decide +kernel), rfl⟩
theorem iX3_comes_154 : xl_D mX3_comes 154 (.bipush 12) 2 156 := ⟨zd zq_578 (by decide +kernel), rfl⟩
theorem iX3_comes_156 : xl_D mX3_comes 156 (.iload 5) 2 158 := ⟨zd zq_92 (by decide +kernel), rfl⟩
theorem iX3_comes_158 : xl_D mX3_comes 158 (.iadd) 1 159 := ⟨zd zq_19 (by decide +kernel), rfl⟩
theorem iX3_comes_159 : xl_Ca mX3_comes 159 mX3_of 162 := ⟨116, zd zq_555 (by decide +kernel), rfl, lX3_116, Nat.le_of_ble_eq_true rfl, Nat.le_of_ble_eq_true rfl⟩
theorem iX3_comes_162 : xl_D mX3_comes 162 (.iload_n 3) 1 163 := ⟨zd zq_25 (by decide +kernel), rfl⟩
theorem iX3_comes_163 : xl_D mX3_comes 163 (.aload_n 0) 1 164 := ⟨zd zq_0 (by decide +kernel), rfl⟩
theorem iX3_comes_164 : xl_D mX3_comes 164 (.iload_n 1) 1 165 := ⟨zd zq_3 (by decide +kernel), rfl⟩
theorem iX3_comes_165 : xl_D mX3_comes 165 (.bipush 16) 2 167 := ⟨zd zq_493 (by decide +kernel), rfl⟩
theorem iX3_comes_167 : xl_D mX3_comes 167 (.iload 5) 2 169 := ⟨zd zq_92 (by decide +kernel), rfl⟩
theorem iX3_comes_169 : xl_D mX3_comes 169 (.iadd) 1 170 := ⟨zd zq_19 (by decide +kernel), rfl⟩
theorem iX3_comes_170 : xl_Ca mX3_comes 170 mX3_of 173 := ⟨116, zd zq_555 (by decide +kernel), rfl, lX3_116, Nat.le_of_ble_eq_true rfl, Nat.le_of_ble_eq_true rfl⟩
theorem iX3_comes_173 : xl_D mX3_comes 173 (.isub) 1 174 := ⟨zd zq_39 (by decide +kernel), rfl⟩
theorem iX3_comes_174 : xl_Cm mX3_comes 174 Lib.Math.max.name Lib.Math.max.code 177 := ⟨176, zd zq_601 (by decide +kernel), rfl, lX3_176, xl_stmax, xl_iMath, xl_comax, Nat.le_of_ble_eq_true rfl, Nat.le_of_ble_eq_true rfl⟩
theorem iX3_comes_177 : xl_Ca mX3_comes 177 mX3_puts 180 := ⟨88, zd zq_542 (by decide +kernel), rfl, lX3_88, Nat.le_of_ble_eq_true rfl, Nat.le_of_ble_eq_true rfl⟩
theorem iX3_comes_180 : xl_D mX3_comes 180 (.aload_n 0) 1 181 := ⟨zd zq_0 (by decide +kernel), rfl⟩
theorem iX3_comes_181 : xl_D mX3_comes 181 (.iload_n 1) 1 182 := ⟨zd zq_3 (by decide +kernel), rfl⟩
theorem iX3_comes_182 : xl_Ca mX3_comes 182 mX3_rises 185 := ⟨209, zd zq_622 (by decide +kernel), rfl, lX3_209, Nat.le_of_ble_eq_true rfl, Nat.le_of_ble_eq_true rfl⟩
theorem iX3_comes_185 : xl_D mX3_comes 185 (.iload 7) 2 187 := ⟨zd zq_124 (by decide +kernel), rfl⟩
theorem iX3_comes_187 : xl_D mX3_comes 187 (.ireturn) 1 188 := ⟨zd zq_17 (by decide +kernel), rfl⟩
theorem iX3_isMarked_0 : xl_D mX3_isMarked 0 (.aload_n 0) 1 1 := ⟨zd zq_0 (by decide +kernel), rfl⟩
theorem iX3_isMarked_1 : xl_D mX3_isMarked 1 (.iload_n 1) 1 2 := ⟨zd zq_3 (by decide +kernel), rfl⟩
theorem iX3_isMarked_2 : xl_D mX3_isMarked 2 (.iconst 1) 1 3 := ⟨zd zq_36 (by decide +kernel), rfl⟩
theorem iX3_isMarked_3 : xl_D mX3_isMarked 3 (.iload_n 2) 1 4 := ⟨zd zq_6 (by decide +kernel), rfl⟩
theorem iX3_isMarked_4 : xl_D mX3_isMarked 4 (.iload_n 3) 1 5 := ⟨zd zq_25 (by decide +kernel), rfl⟩
theorem iX3_isMarked_5 : xl_D mX3_isMarked 5 (.iconst (-1)) 1 6 := ⟨zd zq_104 (by decide +kernel), rfl⟩
theorem iX3_isMarked_6 : xl_D mX3_isMarked 6 (.iconst 0) 1 7 := ⟨zd zq_2 (by decide +kernel), rfl⟩
theorem iX3_isMarked_7 : xl_D mX3_isMarked 7 (.iconst 0) 1 8 := ⟨zd zq_2 (by decide +kernel), rfl⟩
theorem iX3_isMarked_8 : xl_Ca mX3_isMarked 8 mX3_notes 11 := ⟨201, zd zq_618 (by decide +kernel), rfl, lX3_201, Nat.le_of_ble_eq_true rfl, Nat.le_of_ble_eq_true rfl⟩
theorem iX3_isMarked_11 : xl_D mX3_isMarked 11 (.aload_n 0) 1 12 := ⟨zd zq_0 (by decide +kernel), rfl⟩
theorem iX3_isMarked_12 : xl_D mX3_isMarked 12 (.iload_n 1) 1 13 := ⟨zd zq_3 (by decide +kernel), rfl⟩
theorem iX3_isMarked_13 : xl_D mX3_isMarked 13 (.bipush 12) 2 15 := ⟨zd zq_578 (by decide +kernel), rfl⟩
theorem iX3_isMarked_15 : xl_D mX3_isMarked 15 (.iload_n 2) 1 16 := ⟨zd zq_6 (by decide +kernel), rfl⟩
theorem iX3_isMarked_16 : xl_D mX3_isMarked 16 (.iadd) 1 17 := ⟨zd zq_19 (by decide +kernel), rfl⟩
theorem iX3_isMarked_17 : xl_D mX3_isMarked 17 (.iload_n 3) 1 18 := ⟨zd zq_25 (by decide +kernel), rfl⟩
theorem iX3_isMarked_18 : xl_Ca mX3_isMarked 18 mX3_puts 21 := ⟨88, zd zq_542 (by decide +kernel), rfl, lX3_88, Nat.le_of_ble_eq_true rfl, Nat.le_of_ble_eq_true rfl⟩
theorem iX3_isMarked_21 : xl_D mX3_isMarked 21 (.aload_n 0) 1 22 := ⟨zd zq_0 (by decide +kernel), rfl⟩
theorem iX3_isMarked_22 : xl_D mX3_isMarked 22 (.iload_n 1) 1 23 := ⟨zd zq_3 (by decide +kernel), rfl⟩
theorem iX3_isMarked_23 : xl_Ca mX3_isMarked 23 mX3_rises 26 := ⟨209, zd zq_622 (by decide +kernel), rfl, lX3_209, Nat.le_of_ble_eq_true rfl, Nat.le_of_ble_eq_true rfl⟩
theorem iX3_isMarked_26 : xl_D mX3_isMarked 26 (.return_) 1 27 := ⟨zd zq_12 (by decide +kernel), rfl⟩
theorem iX3_isIdle_0 : xl_D mX3_isIdle 0 (.aload_n 0) 1 1 := ⟨zd zq_0 (by decide +kernel), rfl⟩
theorem iX3_isIdle_1 : xl_D mX3_isIdle 1 (.iload_n 1) 1 2 := ⟨zd zq_3 (by decide +kernel), rfl⟩
theorem iX3_isIdle_2 : xl_D mX3_isIdle 2 (.iconst 2) 1 3 := ⟨zd zq_127 (by decide +kernel), rfl⟩
theorem iX3_isIdle_3 : xl_D mX3_isIdle 3 (.iload_n 2) 1 4 := ⟨zd zq_6 (by decide +kernel), rfl⟩
theorem iX3_isIdle_4 : xl_D mX3_isIdle 4 (.iconst 0) 1 5 := ⟨zd zq_2 (by decide +kernel), rfl⟩
theorem iX3_isIdle_5 : xl_D mX3_isIdle 5 (.iconst (-1)) 1 6 := ⟨zd zq_104 (by decide +kernel), rfl⟩
theorem iX3_isIdle_6 : xl_D mX3_isIdle 6 (.iconst 0) 1 7 := ⟨zd zq_2 (by decide +kernel), rfl⟩
theorem iX3_isIdle_7 : xl_D mX3_isIdle 7 (.iconst 0) 1 8 := ⟨zd zq_2 (by decide +kernel), rfl⟩
theorem iX3_isIdle_8 : xl_Ca mX3_isIdle 8 mX3_notes 11 := ⟨201, zd zq_618 (by decide +kernel), rfl, lX3_201, Nat.le_of_ble_eq_true rfl, Nat.le_of_ble_eq_true rfl⟩
theorem iX3_isIdle_11 : xl_D mX3_isIdle 11 (.aload_n 0) 1 12 := ⟨zd zq_0 (by decide +kernel), rfl⟩
theorem iX3_isIdle_12 : xl_D mX3_isIdle 12 (.iload_n 1) 1 13 := ⟨zd zq_3 (by decide +kernel), rfl⟩
theorem iX3_isIdle_13 : xl_D mX3_isIdle 13 (.bipush 20) 2 15 := ⟨zd zq_96 (by decide +kernel), rfl⟩
theorem iX3_isIdle_15 : xl_D mX3_isIdle 15 (.iload_n 2) 1 16 := ⟨zd zq_6 (by decide +kernel), rfl⟩
theorem iX3_isIdle_16 : xl_D mX3_isIdle 16 (.iadd) 1 17 := ⟨zd zq_19 (by decide +kernel), rfl⟩
theorem iX3_isIdle_17 : xl_D mX3_isIdle 17 (.iconst 1) 1 18 := ⟨zd zq_36 (by decide +kernel), rfl⟩
theorem iX3_isIdle_18 : xl_Ca mX3_isIdle 18 mX3_puts 21 := ⟨88, zd zq_542 (by decide +kernel), rfl, lX3_88, Nat.le_of_ble_eq_true rfl, Nat.le_of_ble_eq_true rfl⟩
theorem iX3_isIdle_21 : xl_D mX3_isIdle 21 (.aload_n 0) 1 22 := ⟨zd zq_0 (by decide +kernel), rfl⟩
theorem iX3_isIdle_22 : xl_D mX3_isIdle 22 (.iload_n 1) 1 23 := ⟨zd zq_3 (by decide +kernel), rfl⟩
theorem iX3_isIdle_23 : xl_Ca mX3_isIdle 23 mX3_rises 26 := ⟨209, zd zq_622 (by decide +kernel), rfl, lX3_209, Nat.le_of_ble_eq_true rfl, Nat.le_of_ble_eq_true rfl⟩
theorem iX3_isIdle_26 : xl_D mX3_isIdle 26 (.return_) 1 27 := ⟨zd zq_12 (by decide +kernel), rfl⟩
theorem iX3_isEvent_0 : xl_D mX3_isEvent 0 (.iload_n 1) 1 1 := ⟨zd zq_3 (by decide +kernel), rfl⟩
theorem iX3_isEvent_1 : xl_D mX3_isEvent 1 (.i2l) 1 2 := ⟨zd zq_266 (by decide +kernel), rfl⟩
theorem iX3_isEvent_2 : xl_D mX3_isEvent 2 (.lconst 0) 1 3 := ⟨zd zq_506 (by decide +kernel), rfl⟩
theorem iX3_isEvent_3 : xl_D mX3_isEvent 3 (.ldc2_w 213) 3 6 := ⟨zd zq_623 (by decide +kernel), rfl⟩
theorem iX3_isEvent_6 : xl_Cs mX3_isEvent 6 mX3_in 9 := ⟨21, zd zq_507 (by decide +kernel), rfl, lX3_21, Nat.le_of_ble_eq_true rfl, Nat.le_of_ble_eq_true rfl⟩
theorem iX3_isEvent_9 : xl_J mX3_isEvent 9 (fun o => .ifCond .eq o) 12 51 := ⟨42, zd zq_624 (by decide +kernel), rfl, rfl⟩
theorem iX3_isEvent_12 : xl_D mX3_isEvent 12 (.iload_n 2) 1 13 := ⟨zd zq_6 (by decide +kernel), rfl⟩
theorem iX3_isEvent_13 : xl_D mX3_isEvent 13 (.i2l) 1 14 := ⟨zd zq_266 (by decide +kernel), rfl⟩
theorem iX3_isEvent_14 : xl_D mX3_isEvent 14 (.lconst 0) 1 15 := ⟨zd zq_506 (by decide +kernel), rfl⟩
theorem iX3_isEvent_15 : xl_D mX3_isEvent 15 (.ldc2_w 215) 3 18 := ⟨zd zq_625 (by decide +kernel), rfl⟩
theorem iX3_isEvent_18 : xl_Cs mX3_isEvent 18 mX3_in 21 := ⟨21, zd zq_507 (by decide +kernel), rfl, lX3_21, Nat.le_of_ble_eq_true rfl, Nat.le_of_ble_eq_true rfl⟩
theorem iX3_isEvent_21 : xl_J mX3_isEvent 21 (fun o => .ifCond .eq o) 24 51 := ⟨30, zd zq_626 (by decide +kernel), rfl, rfl⟩
theorem iX3_isEvent_24 : xl_D mX3_isEvent 24 (.iload_n 3) 1 25 := ⟨zd zq_25 (by decide +kernel), rfl⟩
theorem iX3_isEvent_25 : xl_D mX3_isEvent 25 (.i2l) 1 26 := ⟨zd zq_266 (by decide +kernel), rfl⟩
theorem iX3_isEvent_26 : xl_D mX3_isEvent 26 (.ldc2_w 217) 3 29 := ⟨zd zq_627 (by decide +kernel), rfl⟩
theorem iX3_isEvent_29 : xl_D mX3_isEvent 29 (.ldc2_w 102) 3 32 := ⟨zd zq_549 (by decide +kernel), rfl⟩
theorem iX3_isEvent_32 : xl_Cs mX3_isEvent 32 mX3_in 35 := ⟨21, zd zq_507 (by decide +kernel), rfl, lX3_21, Nat.le_of_ble_eq_true rfl, Nat.le_of_ble_eq_true rfl⟩
theorem iX3_isEvent_35 : xl_J mX3_isEvent 35 (fun o => .ifCond .eq o) 38 51 := ⟨16, zd zq_628 (by decide +kernel), rfl, rfl⟩
theorem iX3_isEvent_38 : xl_D mX3_isEvent 38 (.aload_n 0) 1 39 := ⟨zd zq_0 (by decide +kernel), rfl⟩
theorem iX3_isEvent_39 : xl_D mX3_isEvent 39 (.iload 4) 2 41 := ⟨zd zq_51 (by decide +kernel), rfl⟩
theorem iX3_isEvent_41 : xl_Ca mX3_isEvent 41 mX3_isSource 44 := ⟨120, zd zq_556 (by decide +kernel), rfl, lX3_120, Nat.le_of_ble_eq_true rfl, Nat.le_of_ble_eq_true rfl⟩
theorem iX3_isEvent_44 : xl_J mX3_isEvent 44 (fun o => .ifCond .eq o) 47 51 := ⟨7, zd zq_193 (by decide +kernel), rfl, rfl⟩
theorem iX3_isEvent_47 : xl_D mX3_isEvent 47 (.iconst 1) 1 48 := ⟨zd zq_36 (by decide +kernel), rfl⟩
theorem iX3_isEvent_48 : xl_J mX3_isEvent 48 (fun o => .goto o) 51 52 := ⟨4, zd zq_139 (by decide +kernel), rfl, rfl⟩
theorem iX3_isEvent_51 : xl_D mX3_isEvent 51 (.iconst 0) 1 52 := ⟨zd zq_2 (by decide +kernel), rfl⟩
theorem iX3_isEvent_52 : xl_D mX3_isEvent 52 (.ireturn) 1 53 := ⟨zd zq_17 (by decide +kernel), rfl⟩
theorem iX3_eventOne_0 : xl_D mX3_eventOne 0 (.aload_n 0) 1 1 := ⟨zd zq_0 (by decide +kernel), rfl⟩
theorem iX3_eventOne_1 : xl_D mX3_eventOne 1 (.iload_n 1) 1 2 := ⟨zd zq_3 (by decide +kernel), rfl⟩
theorem iX3_eventOne_2 : xl_D mX3_eventOne 2 (.iload_n 2) 1 3 := ⟨zd zq_6 (by decide +kernel), rfl⟩
theorem iX3_eventOne_3 : xl_D mX3_eventOne 3 (.iload_n 3) 1 4 := ⟨zd zq_25 (by decide +kernel), rfl⟩
theorem iX3_eventOne_4 : xl_D mX3_eventOne 4 (.iload 4) 2 6 := ⟨zd zq_51 (by decide +kernel), rfl⟩
theorem iX3_eventOne_6 : xl_Ca mX3_eventOne 6 mX3_isEvent 9 := ⟨219, zd zq_629 (by decide +kernel), rfl, lX3_219, Nat.le_of_ble_eq_true rfl, Nat.le_of_ble_eq_true rfl⟩
theorem iX3_eventOne_9 : xl_J mX3_eventOne 9 (fun o => .ifCond .ne o) 12 14 := ⟨5, zd zq_246 (by decide +kernel), rfl, rfl⟩
theorem iX3_eventOne_12 : xl_D mX3_eventOne 12 (.iconst (-1)) 1 13 := ⟨zd zq_104 (by decide +kernel), rfl⟩
theorem iX3_eventOne_13 : xl_D mX3_eventOne 13 (.ireturn) 1 14 := ⟨zd zq_17 (by decide +kernel), rfl⟩
theorem iX3_eventOne_14 : xl_D mX3_eventOne 14 (.aload_n 0) 1 15 := ⟨zd zq_0 (by decide +kernel), rfl⟩
theorem iX3_eventOne_15 : xl_D mX3_eventOne 15 (.iconst 0) 1 16 := ⟨zd zq_2 (by decide +kernel), rfl⟩
theorem iX3_eventOne_16 : xl_D mX3_eventOne 16 (.bipush 6) 2 18 := ⟨zd zq_71 (by decide +kernel), rfl⟩
theorem iX3_eventOne_18 : xl_Ca mX3_eventOne 18 mX3_of 21 := ⟨116, zd zq_555 (by decide +kernel), rfl, lX3_116, Nat.le_of_ble_eq_true rfl, Nat.le_of_ble_eq_true rfl⟩
theorem iX3_eventOne_21 : xl_D mX3_eventOne 21 (.sipush 160) 3 24 := ⟨zd zq_74 (by decide +kernel), rfl⟩
theorem iX3_eventOne_24 : xl_J mX3_eventOne 24 (fun o => .if_icmp .ne o) 27 32 := ⟨8, zd zq_469 (by decide +kernel), rfl, rfl⟩
theorem iX3_eventOne_27 : xl_D mX3_eventOne 27 (.bipush (-3)) 2 29 := ⟨zd zq_260 (by decide +kernel), rfl⟩
theorem iX3_eventOne_29 : xl_J mX3_eventOne 29 (fun o => .goto o) 32 42 := ⟨13, zd zq_630 (by decide +kernel), rfl, rfl⟩
theorem iX3_eventOne_32 : xl_D mX3_eventOne 32 (.aload_n 0) 1 33 := ⟨zd zq_0 (by decide +kernel), rfl⟩
theorem iX3_eventOne_33 : xl_D mX3_eventOne 33 (.iconst 0) 1 34 := ⟨zd zq_2 (by decide +kernel), rfl⟩
theorem iX3_eventOne_34 : xl_D mX3_eventOne 34 (.iload_n 1) 1 35 := ⟨zd zq_3 (by decide +kernel), rfl⟩
theorem iX3_eventOne_35 : xl_D mX3_eventOne 35 (.iload_n 2) 1 36 := ⟨zd zq_6 (by decide +kernel), rfl⟩
theorem iX3_eventOne_36 : xl_D mX3_eventOne 36 (.iload_n 3) 1 37 := ⟨zd zq_25 (by decide +kernel), rfl⟩
theorem iX3_eventOne_37 : xl_D mX3_eventOne 37 (.iload 4) 2 39 := ⟨zd zq_51 (by decide +kernel), rfl⟩
theorem iX3_eventOne_39 : xl_Ca mX3_eventOne 39 mX3_comes 42 := ⟨222, zd zq_356 (by decide +kernel), rfl, lX3_222, Nat.le_of_ble_eq_true rfl, Nat.le_of_ble_eq_true rfl⟩
theorem iX3_eventOne_42 : xl_D mX3_eventOne 42 (.ireturn) 1 43 := ⟨zd zq_17 (by decide +kernel), rfl⟩
theorem iX3_entersSince_0 : xl_D mX3_entersSince 0 (.aload_n 0) 1 1 := ⟨zd zq_0 (by decide +kernel), rfl⟩
theorem iX3_entersSince_1 : xl_D mX3_entersSince 1 (.iconst 0) 1 2 := ⟨zd zq_2 (by decide +kernel), rfl⟩
theorem iX3_entersSince_2 : xl_P mX3_entersSince 2 3 1 .int 5 := ⟨11, zd zq_501 (by decide +kernel), rfl, wX3_11⟩
theorem iX3_entersSince_5 : xl_D mX3_entersSince 5 (.aload_n 0) 1 6 := ⟨zd zq_0 (by decide +kernel), rfl⟩
theorem iX3_entersSince_6 : xl_D mX3_entersSince 6 (.aload_n 0) 1 7 := ⟨zd zq_0 (by decide +kernel), rfl⟩
theorem iX3_entersSince_7 : xl_D mX3_entersSince 7 (.iload_n 1) 1 8 := ⟨zd zq_3 (by decide +kernel), rfl⟩
theorem iX3_entersSince_8 : xl_D mX3_entersSince 8 (.bipush 7) 2 10 := ⟨zd zq_68 (by decide +kernel), rfl⟩
theorem iX3_entersSince_10 : xl_Ca mX3_entersSince 10 mX3_of 13 := ⟨116, zd zq_555 (by decide +kernel), rfl, lX3_116, Nat.le_of_ble_eq_true rfl, Nat.le_of_ble_eq_true rfl⟩
theorem iX3_entersSince_13 : xl_D mX3_entersSince 13 (.iload_n 2) 1 14 := ⟨zd zq_6 (by decide +kernel), rfl⟩
theorem iX3_entersSince_14 : xl_D mX3_entersSince 14 (.isub) 1 15 := ⟨zd zq_39 (by decide +kernel), rfl⟩
theorem iX3_entersSince_15 : xl_D mX3_entersSince 15 (.i2l) 1 16 := ⟨zd zq_266 (by decide +kernel), rfl⟩
theorem iX3_entersSince_16 : xl_Ca mX3_entersSince 16 mX3_enters 19 := ⟨226, zd zq_357 (by decide +kernel), rfl, lX3_226, Nat.le_of_ble_eq_true rfl, Nat.le_of_ble_eq_true rfl⟩
theorem iX3_entersSince_19 : xl_D mX3_entersSince 19 (.aload_n 0) 1 20 := ⟨zd zq_0 (by decide +kernel), rfl⟩
theorem iX3_entersSince_20 : xl_D mX3_entersSince 20 (.aload_n 0) 1 21 := ⟨zd zq_0 (by decide +kernel), rfl⟩
theorem iX3_entersSince_21 : xl_D mX3_entersSince 21 (.iload_n 1) 1 22 := ⟨zd zq_3 (by decide +kernel), rfl⟩
theorem iX3_entersSince_22 : xl_D mX3_entersSince 22 (.iconst 4) 1 23 := ⟨zd zq_63 (by decide +kernel), rfl⟩
theorem iX3_entersSince_23 : xl_Ca mX3_entersSince 23 mX3_of 26 := ⟨116, zd zq_555 (by decide +kernel), rfl, lX3_116, Nat.le_of_ble_eq_true rfl, Nat.le_of_ble_eq_true rfl⟩
theorem iX3_entersSince_26 : xl_D mX3_entersSince 26 (.i2l) 1 27 := ⟨zd zq_266 (by decide +kernel), rfl⟩
theorem iX3_entersSince_27 : xl_Ca mX3_entersSince 27 mX3_enters 30 := ⟨226, zd zq_357 (by decide +kernel), rfl, lX3_226, Nat.le_of_ble_eq_true rfl, Nat.le_of_ble_eq_true rfl⟩
theorem iX3_entersSince_30 : xl_D mX3_entersSince 30 (.return_) 1 31 := ⟨zd zq_12 (by decide +kernel), rfl⟩
theorem iX3_event_0 : xl_D mX3_event 0 (.aload_n 0) 1 1 := ⟨zd zq_0 (by decide +kernel), rfl⟩
theorem iX3_event_1 : xl_D mX3_event 1 (.iconst 0) 1 2 := ⟨zd zq_2 (by decide +kernel), rfl⟩
theorem iX3_event_2 : xl_P mX3_event 2 3 0 .int 5 := ⟨3, zd zq_502 (by decide +kernel), rfl, wX3_3⟩
theorem iX3_event_5 : xl_D mX3_event 5 (.aload_n 0) 1 6 := ⟨zd zq_0 (by decide +kernel), rfl⟩
theorem iX3_event_6 : xl_D mX3_event 6 (.iconst 0) 1 7 := ⟨zd zq_2 (by decide +kernel), rfl⟩
theorem iX3_event_7 : xl_D mX3_event 7 (.iconst 3) 1 8 := ⟨zd zq_123 (by decide +kernel), rfl⟩
theorem iX3_event_8 : xl_Ca mX3_event 8 mX3_copies 11 := ⟨95, zd zq_545 (by decide +kernel), rfl, lX3_95, Nat.le_of_ble_eq_true rfl, Nat.le_of_ble_eq_true rfl⟩
theorem iX3_event_11 : xl_D mX3_event 11 (.aload_n 0) 1 12 := ⟨zd zq_0 (by decide +kernel), rfl⟩
theorem iX3_event_12 : xl_D mX3_event 12 (.iload_n 1) 1 13 := ⟨zd zq_3 (by decide +kernel), rfl⟩
theorem iX3_event_13 : xl_D mX3_event 13 (.iload_n 2) 1 14 := ⟨zd zq_6 (by decide +kernel), rfl⟩
theorem iX3_event_14 : xl_D mX3_event 14 (.iload_n 3) 1 15 := ⟨zd zq_25 (by decide +kernel), rfl⟩
theorem iX3_event_15 : xl_D mX3_event 15 (.iload 4) 2 17 := ⟨zd zq_51 (by decide +kernel), rfl⟩
theorem iX3_event_17 : xl_Ca mX3_event 17 mX3_eventOne 20 := ⟨230, zd zq_631 (by decide +kernel), rfl, lX3_230, Nat.le_of_ble_eq_true rfl, Nat.le_of_ble_eq_true rfl⟩
theorem iX3_event_20 : xl_D mX3_event 20 (.istore 5) 2 22 := ⟨zd zq_91 (by decide +kernel), rfl⟩
theorem iX3_event_22 : xl_D mX3_event 22 (.iload 5) 2 24 := ⟨zd zq_92 (by decide +kernel), rfl⟩
theorem iX3_event_24 : xl_J mX3_event 24 (fun o => .ifCond .ge o) 27 30 := ⟨6, zd zq_263 (by decide +kernel), rfl, rfl⟩
theorem iX3_event_27 : xl_D mX3_event 27 (.iload 5) 2 29 := ⟨zd zq_92 (by decide +kernel), rfl⟩
theorem iX3_event_29 : xl_D mX3_event 29 (.ireturn) 1 30 := ⟨zd zq_17 (by decide +kernel), rfl⟩
theorem iX3_event_30 : xl_D mX3_event 30 (.aload_n 0) 1 31 := ⟨zd zq_0 (by decide +kernel), rfl⟩
theorem iX3_event_31 : xl_D mX3_event 31 (.iconst 0) 1 32 := ⟨zd zq_2 (by decide +kernel), rfl⟩
theorem iX3_event_32 : xl_D mX3_event 32 (.aload_n 0) 1 33 := ⟨zd zq_0 (by decide +kernel), rfl⟩
theorem iX3_event_33 : xl_D mX3_event 33 (.iconst 3) 1 34 := ⟨zd zq_123 (by decide +kernel), rfl⟩
theorem iX3_event_34 : xl_D mX3_event 34 (.bipush 7) 2 36 := ⟨zd zq_68 (by decide +kernel), rfl⟩
theorem iX3_event_36 : xl_Ca mX3_event 36 mX3_of 39 := ⟨116, zd zq_555 (by decide +kernel), rfl, lX3_116, Nat.le_of_ble_eq_true rfl, Nat.le_of_ble_eq_true rfl⟩
theorem iX3_event_39 : xl_Ca mX3_event 39 mX3_entersSince 42 := ⟨234, zd zq_632 (by decide +kernel), rfl, lX3_234, Nat.le_of_ble_eq_true rfl, Nat.le_of_ble_eq_true rfl⟩
theorem iX3_event_42 : xl_D mX3_event 42 (.aload_n 0) 1 43 := ⟨zd zq_0 (by decide +kernel), rfl⟩
theorem iX3_event_43 : xl_D mX3_event 43 (.iload 5) 2 45 := ⟨zd zq_92 (by decide +kernel), rfl⟩
theorem iX3_event_45 : xl_Ca mX3_event 45 mX3_done 48 := ⟨112, zd zq_554 (by decide +kernel), rfl, lX3_112, Nat.le_of_ble_eq_true rfl, Nat.le_of_ble_eq_true rfl⟩
theorem iX3_event_48 : xl_D mX3_event 48 (.ireturn) 1 49 := ⟨zd zq_17 (by decide +kernel), rfl⟩
theorem iX3_readsEvent_0 : xl_D mX3_readsEvent 0 (.aload_n 0) 1 1 := ⟨zd zq_0 (by decide +kernel), rfl⟩
theorem iX3_readsEvent_1 : xl_G mX3_readsEvent 1 3 13 4 := ⟨59, zd zq_633 (by decide +kernel), rfl, fX3_59⟩
theorem iX3_readsEvent_4 : xl_D mX3_readsEvent 4 (.iload_n 1) 1 5 := ⟨zd zq_3 (by decide +kernel), rfl⟩
theorem iX3_readsEvent_5 : xl_D mX3_readsEvent 5 (.aload_n 0) 1 6 := ⟨zd zq_0 (by decide +kernel), rfl⟩
theorem iX3_readsEvent_6 : xl_D mX3_readsEvent 6 (.ldc 237) 2 8 := ⟨zd zq_634 (by decide +kernel), rfl⟩
theorem iX3_readsEvent_8 : xl_Ca mX3_readsEvent 8 mX3_takesOf 11 := ⟨43, zd zq_519 (by decide +kernel), rfl, lX3_43, Nat.le_of_ble_eq_true rfl, Nat.le_of_ble_eq_true rfl⟩
theorem iX3_readsEvent_11 : xl_D mX3_readsEvent 11 (.iastore) 1 12 := ⟨zd zq_26 (by decide +kernel), rfl⟩
theorem iX3_readsEvent_12 : xl_D mX3_readsEvent 12 (.aload_n 0) 1 13 := ⟨zd zq_0 (by decide +kernel), rfl⟩
theorem iX3_readsEvent_13 : xl_G mX3_readsEvent 13 3 14 16 := ⟨62, zd zq_635 (by decide +kernel), rfl, fX3_62⟩
theorem iX3_readsEvent_16 : xl_D mX3_readsEvent 16 (.iload_n 1) 1 17 := ⟨zd zq_3 (by decide +kernel), rfl⟩
theorem iX3_readsEvent_17 : xl_D mX3_readsEvent 17 (.aload_n 0) 1 18 := ⟨zd zq_0 (by decide +kernel), rfl⟩
theorem iX3_readsEvent_18 : xl_G mX3_readsEvent 18 3 13 21 := ⟨59, zd zq_633 (by decide +kernel), rfl, fX3_59⟩
theorem iX3_readsEvent_21 : xl_D mX3_readsEvent 21 (.iload_n 1) 1 22 := ⟨zd zq_3 (by decide +kernel), rfl⟩
theorem iX3_readsEvent_22 : xl_D mX3_readsEvent 22 (.iaload) 1 23 := ⟨zd zq_20 (by decide +kernel), rfl⟩
theorem iX3_readsEvent_23 : xl_J mX3_readsEvent 23 (fun o => .ifCond .ge o) 26 30 := ⟨7, zd zq_285 (by decide +kernel), rfl, rfl⟩
theorem iX3_readsEvent_26 : xl_D mX3_readsEvent 26 (.iconst (-1)) 1 27 := ⟨zd zq_104 (by decide +kernel), rfl⟩
theorem iX3_readsEvent_27 : xl_J mX3_readsEvent 27 (fun o => .goto o) 30 35 := ⟨8, zd zq_133 (by decide +kernel), rfl, rfl⟩
theorem iX3_readsEvent_30 : xl_D mX3_readsEvent 30 (.aload_n 0) 1 31 := ⟨zd zq_0 (by decide +kernel), rfl⟩
theorem iX3_readsEvent_31 : xl_D mX3_readsEvent 31 (.iconst 4) 1 32 := ⟨zd zq_63 (by decide +kernel), rfl⟩
theorem iX3_readsEvent_32 : xl_Ca mX3_readsEvent 32 mX3_digits 35 := ⟨239, zd zq_636 (by decide +kernel), rfl, lX3_239, Nat.le_of_ble_eq_true rfl, Nat.le_of_ble_eq_true rfl⟩
theorem iX3_readsEvent_35 : xl_D mX3_readsEvent 35 (.iastore) 1 36 := ⟨zd zq_26 (by decide +kernel), rfl⟩
theorem iX3_readsEvent_36 : xl_D mX3_readsEvent 36 (.aload_n 0) 1 37 := ⟨zd zq_0 (by decide +kernel), rfl⟩
theorem iX3_readsEvent_37 : xl_G mX3_readsEvent 37 3 14 40 := ⟨62, zd zq_635 (by decide +kernel), rfl, fX3_62⟩
theorem iX3_readsEvent_40 : xl_D mX3_readsEvent 40 (.iload_n 1) 1 41 := ⟨zd zq_3 (by decide +kernel), rfl⟩
theorem iX3_readsEvent_41 : xl_D mX3_readsEvent 41 (.iaload) 1 42 := ⟨zd zq_20 (by decide +kernel), rfl⟩
theorem iX3_readsEvent_42 : xl_J mX3_readsEvent 42 (fun o => .ifCond .ge o) 45 49 := ⟨7, zd zq_285 (by decide +kernel), rfl, rfl⟩
theorem iX3_readsEvent_45 : xl_D mX3_readsEvent 45 (.iconst (-1)) 1 46 := ⟨zd zq_104 (by decide +kernel), rfl⟩
theorem iX3_readsEvent_46 : xl_J mX3_readsEvent 46 (fun o => .goto o) 49 55 := ⟨9, zd zq_159 (by decide +kernel), rfl, rfl⟩
theorem iX3_readsEvent_49 : xl_D mX3_readsEvent 49 (.aload_n 0) 1 50 := ⟨zd zq_0 (by decide +kernel), rfl⟩
theorem iX3_readsEvent_50 : xl_D mX3_readsEvent 50 (.ldc 242) 2 52 := ⟨zd zq_637 (by decide +kernel), rfl⟩
theorem iX3_readsEvent_52 : xl_Ca mX3_readsEvent 52 mX3_takesOf 55 := ⟨43, zd zq_519 (by decide +kernel), rfl, lX3_43, Nat.le_of_ble_eq_true rfl, Nat.le_of_ble_eq_true rfl⟩
theorem iX3_readsEvent_55 : xl_D mX3_readsEvent 55 (.istore_n 3) 1 56 := ⟨zd zq_131 (by decide +kernel), rfl⟩
theorem iX3_readsEvent_56 : xl_D mX3_readsEvent 56 (.iload_n 3) 1 57 := ⟨zd zq_25 (by decide +kernel), rfl⟩
theorem iX3_readsEvent_57 : xl_J mX3_readsEvent 57 (fun o => .ifCond .ge o) 60 64 := ⟨7, zd zq_285 (by decide +kernel), rfl, rfl⟩
theorem iX3_readsEvent_60 : xl_D mX3_readsEvent 60 (.iconst (-1)) 1 61 := ⟨zd zq_104 (by decide +kernel), rfl⟩
theorem iX3_readsEvent_61 : xl_J mX3_readsEvent 61 (fun o => .goto o) 64 69 := ⟨8, zd zq_133 (by decide +kernel), rfl, rfl⟩
theorem iX3_readsEvent_64 : xl_D mX3_readsEvent 64 (.aload_n 0) 1 65 := ⟨zd zq_0 (by decide +kernel), rfl⟩
theorem iX3_readsEvent_65 : xl_D mX3_readsEvent 65 (.iconst 2) 1 66 := ⟨zd zq_127 (by decide +kernel), rfl⟩
theorem iX3_readsEvent_66 : xl_Ca mX3_readsEvent 66 mX3_digits 69 := ⟨239, zd zq_636 (by decide +kernel), rfl, lX3_239, Nat.le_of_ble_eq_true rfl, Nat.le_of_ble_eq_true rfl⟩
theorem iX3_readsEvent_69 : xl_D mX3_readsEvent 69 (.istore 4) 2 71 := ⟨zd zq_50 (by decide +kernel), rfl⟩
theorem iX3_readsEvent_71 : xl_D mX3_readsEvent 71 (.aload_n 0) 1 72 := ⟨zd zq_0 (by decide +kernel), rfl⟩
theorem iX3_readsEvent_72 : xl_G mX3_readsEvent 72 3 15 75 := ⟨65, zd zq_638 (by decide +kernel), rfl, fX3_65⟩
theorem iX3_readsEvent_75 : xl_D mX3_readsEvent 75 (.iload_n 1) 1 76 := ⟨zd zq_3 (by decide +kernel), rfl⟩
theorem iX3_readsEvent_76 : xl_D mX3_readsEvent 76 (.iload_n 3) 1 77 := ⟨zd zq_25 (by decide +kernel), rfl⟩
theorem iX3_readsEvent_77 : xl_D mX3_readsEvent 77 (.iconst 1) 1 78 := ⟨zd zq_36 (by decide +kernel), rfl⟩
theorem iX3_readsEvent_78 : xl_J mX3_readsEvent 78 (fun o => .if_icmp .ne o) 81 87 := ⟨9, zd zq_430 (by decide +kernel), rfl, rfl⟩
theorem iX3_readsEvent_81 : xl_D mX3_readsEvent 81 (.iload 4) 2 83 := ⟨zd zq_51 (by decide +kernel), rfl⟩
theorem iX3_readsEvent_83 : xl_D mX3_readsEvent 83 (.ineg) 1 84 := ⟨zd zq_470 (by decide +kernel), rfl⟩
theorem iX3_readsEvent_84 : xl_J mX3_readsEvent 84 (fun o => .goto o) 87 89 := ⟨5, zd zq_300 (by decide +kernel), rfl, rfl⟩
theorem iX3_readsEvent_87 : xl_D mX3_readsEvent 87 (.iload 4) 2 89 := ⟨zd zq_51 (by decide +kernel), rfl⟩
theorem iX3_readsEvent_89 : xl_D mX3_readsEvent 89 (.iastore) 1 90 := ⟨zd zq_26 (by decide +kernel), rfl⟩
theorem iX3_readsEvent_90 : xl_D mX3_readsEvent 90 (.aload_n 0) 1 91 := ⟨zd zq_0 (by decide +kernel), rfl⟩
theorem iX3_readsEvent_91 : xl_G mX3_readsEvent 91 3 16 94 := ⟨68, zd zq_639 (by decide +kernel), rfl, fX3_68⟩
theorem iX3_readsEvent_94 : xl_D mX3_readsEvent 94 (.iload_n 1) 1 95 := ⟨zd zq_3 (by decide +kernel), rfl⟩
theorem iX3_readsEvent_95 : xl_D mX3_readsEvent 95 (.iload 4) 2 97 := ⟨zd zq_51 (by decide +kernel), rfl⟩
theorem iX3_readsEvent_97 : xl_J mX3_readsEvent 97 (fun o => .ifCond .ge o) 100 104 := ⟨7, zd zq_285 (by decide +kernel), rfl, rfl⟩
theorem iX3_readsEvent_100 : xl_D mX3_readsEvent 100 (.iconst (-1)) 1 101 := ⟨zd zq_104 (by decide +kernel), rfl⟩
theorem iX3_readsEvent_101 : xl_J mX3_readsEvent 101 (fun o => .goto o) 104 109 := ⟨8, zd zq_133 (by decide +kernel), rfl, rfl⟩
theorem iX3_readsEvent_104 : xl_D mX3_readsEvent 104 (.aload_n 0) 1 105 := ⟨zd zq_0 (by decide +kernel), rfl⟩
theorem iX3_readsEvent_105 : xl_D mX3_readsEvent 105 (.iconst 1) 1 106 := ⟨zd zq_36 (by decide +kernel), rfl⟩
theorem iX3_readsEvent_106 : xl_Ca mX3_readsEvent 106 mX3_digits 109 := ⟨239, zd zq_636 (by decide +kernel), rfl, lX3_239, Nat.le_of_ble_eq_true rfl, Nat.le_of_ble_eq_true rfl⟩
theorem iX3_readsEvent_109 : xl_D mX3_readsEvent 109 (.iastore) 1 110 := ⟨zd zq_26 (by decide +kernel), rfl⟩
theorem iX3_readsEvent_110 : xl_D mX3_readsEvent 110 (.aload_n 0) 1 111 := ⟨zd zq_0 (by decide +kernel), rfl⟩
theorem iX3_readsEvent_111 : xl_G mX3_readsEvent 111 3 16 114 := ⟨68, zd zq_639 (by decide +kernel), rfl, fX3_68⟩
theorem iX3_readsEvent_114 : xl_D mX3_readsEvent 114 (.iload_n 1) 1 115 := ⟨zd zq_3 (by decide +kernel), rfl⟩
theorem iX3_readsEvent_115 : xl_D mX3_readsEvent 115 (.iaload) 1 116 := ⟨zd zq_20 (by decide +kernel), rfl⟩
theorem iX3_readsEvent_116 : xl_J mX3_readsEvent 116 (fun o => .ifCond .ge o) 119 121 := ⟨5, zd zq_277 (by decide +kernel), rfl, rfl⟩
theorem iX3_readsEvent_119 : xl_D mX3_readsEvent 119 (.iconst 0) 1 120 := ⟨zd zq_2 (by decide +kernel), rfl⟩
theorem iX3_readsEvent_120 : xl_D mX3_readsEvent 120 (.ireturn) 1 121 := ⟨zd zq_17 (by decide +kernel), rfl⟩
theorem iX3_readsEvent_121 : xl_D mX3_readsEvent 121 (.iload_n 2) 1 122 := ⟨zd zq_6 (by decide +kernel), rfl⟩
theorem iX3_readsEvent_122 : xl_J mX3_readsEvent 122 (fun o => .ifCond .ne o) 125 150 := ⟨28, zd zq_640 (by decide +kernel), rfl, rfl⟩
theorem iX3_readsEvent_125 : xl_D mX3_readsEvent 125 (.aload_n 0) 1 126 := ⟨zd zq_0 (by decide +kernel), rfl⟩
theorem iX3_readsEvent_126 : xl_D mX3_readsEvent 126 (.aload_n 0) 1 127 := ⟨zd zq_0 (by decide +kernel), rfl⟩
theorem iX3_readsEvent_127 : xl_G mX3_readsEvent 127 3 16 130 := ⟨68, zd zq_639 (by decide +kernel), rfl, fX3_68⟩
theorem iX3_readsEvent_130 : xl_D mX3_readsEvent 130 (.iload_n 1) 1 131 := ⟨zd zq_3 (by decide +kernel), rfl⟩
theorem iX3_readsEvent_131 : xl_D mX3_readsEvent 131 (.iaload) 1 132 := ⟨zd zq_20 (by decide +kernel), rfl⟩
theorem iX3_readsEvent_132 : xl_Ca mX3_readsEvent 132 mX3_isSource 135 := ⟨120, zd zq_556 (by decide +kernel), rfl, lX3_120, Nat.le_of_ble_eq_true rfl, Nat.le_of_ble_eq_true rfl⟩
theorem iX3_readsEvent_135 : xl_J mX3_readsEvent 135 (fun o => .ifCond .ne o) 138 150 := ⟨15, zd zq_151 (by decide +kernel), rfl, rfl⟩
theorem iX3_readsEvent_138 : xl_D mX3_readsEvent 138 (.aload_n 0) 1 139 := ⟨zd zq_0 (by decide +kernel), rfl⟩
theorem iX3_readsEvent_139 : xl_D mX3_readsEvent 139 (.dup) 1 140 := ⟨zd zq_46 (by decide +kernel), rfl⟩
theorem iX3_readsEvent_140 : xl_G mX3_readsEvent 140 3 5 143 := ⟨28, zd zq_512 (by decide +kernel), rfl, fX3_28⟩
theorem iX3_readsEvent_143 : xl_D mX3_readsEvent 143 (.iconst 1) 1 144 := ⟨zd zq_36 (by decide +kernel), rfl⟩
theorem iX3_readsEvent_144 : xl_D mX3_readsEvent 144 (.isub) 1 145 := ⟨zd zq_39 (by decide +kernel), rfl⟩
theorem iX3_readsEvent_145 : xl_P mX3_readsEvent 145 3 5 .int 148 := ⟨28, zd zq_509 (by decide +kernel), rfl, wX3_28⟩
theorem iX3_readsEvent_148 : xl_D mX3_readsEvent 148 (.iconst 0) 1 149 := ⟨zd zq_2 (by decide +kernel), rfl⟩
theorem iX3_readsEvent_149 : xl_D mX3_readsEvent 149 (.ireturn) 1 150 := ⟨zd zq_17 (by decide +kernel), rfl⟩
theorem iX3_readsEvent_150 : xl_D mX3_readsEvent 150 (.iconst 1) 1 151 := ⟨zd zq_36 (by decide +kernel), rfl⟩
theorem iX3_readsEvent_151 : xl_D mX3_readsEvent 151 (.ireturn) 1 152 := ⟨zd zq_17 (by decide +kernel), rfl⟩
theorem iX3_events_0 : xl_D mX3_events 0 (.aload_n 0) 1 1 := ⟨zd zq_0 (by decide +kernel), rfl⟩
theorem iX3_events_1 : xl_D mX3_events 1 (.iconst 0) 1 2 := ⟨zd zq_2 (by decide +kernel), rfl⟩
theorem iX3_events_2 : xl_P mX3_events 2 3 0 .int 5 := ⟨3, zd zq_502 (by decide +kernel), rfl, wX3_3⟩
theorem iX3_events_5 : xl_D mX3_events 5 (.aload_n 0) 1 6 := ⟨zd zq_0 (by decide +kernel), rfl⟩
theorem iX3_events_6 : xl_Ca mX3_events 6 mX3_reads 9 := ⟨244, zd zq_641 (by decide +kernel), rfl, lX3_244, Nat.le_of_ble_eq_true rfl, Nat.le_of_ble_eq_true rfl⟩
theorem iX3_events_9 : xl_D mX3_events 9 (.iconst 0) 1 10 := ⟨zd zq_2 (by decide +kernel), rfl⟩
theorem iX3_events_10 : xl_D mX3_events 10 (.istore_n 1) 1 11 := ⟨zd zq_194 (by decide +kernel), rfl⟩
theorem iX3_events_11 : xl_D mX3_events 11 (.aload_n 0) 1 12 := ⟨zd zq_0 (by decide +kernel), rfl⟩
theorem iX3_events_12 : xl_G mX3_events 12 3 5 15 := ⟨28, zd zq_512 (by decide +kernel), rfl, fX3_28⟩
theorem iX3_events_15 : xl_D mX3_events 15 (.aload_n 0) 1 16 := ⟨zd zq_0 (by decide +kernel), rfl⟩
theorem iX3_events_16 : xl_G mX3_events 16 3 6 19 := ⟨25, zd zq_513 (by decide +kernel), rfl, fX3_25⟩
theorem iX3_events_19 : xl_J mX3_events 19 (fun o => .if_icmp .ge o) 22 44 := ⟨25, zd zq_451 (by decide +kernel), rfl, rfl⟩
theorem iX3_events_22 : xl_D mX3_events 22 (.aload_n 0) 1 23 := ⟨zd zq_0 (by decide +kernel), rfl⟩
theorem iX3_events_23 : xl_D mX3_events 23 (.iload_n 1) 1 24 := ⟨zd zq_3 (by decide +kernel), rfl⟩
theorem iX3_events_24 : xl_D mX3_events 24 (.iconst 0) 1 25 := ⟨zd zq_2 (by decide +kernel), rfl⟩
theorem iX3_events_25 : xl_Ca mX3_events 25 mX3_readsEvent 28 := ⟨247, zd zq_384 (by decide +kernel), rfl, lX3_247, Nat.le_of_ble_eq_true rfl, Nat.le_of_ble_eq_true rfl⟩
theorem iX3_events_28 : xl_J mX3_events 28 (fun o => .ifCond .ne o) 31 38 := ⟨10, zd zq_642 (by decide +kernel), rfl, rfl⟩
theorem iX3_events_31 : xl_D mX3_events 31 (.iconst (-1)) 1 32 := ⟨zd zq_104 (by decide +kernel), rfl⟩
theorem iX3_events_32 : xl_D mX3_events 32 (.aload_n 0) 1 33 := ⟨zd zq_0 (by decide +kernel), rfl⟩
theorem iX3_events_33 : xl_G mX3_events 33 3 5 36 := ⟨28, zd zq_512 (by decide +kernel), rfl, fX3_28⟩
theorem iX3_events_36 : xl_D mX3_events 36 (.isub) 1 37 := ⟨zd zq_39 (by decide +kernel), rfl⟩
theorem iX3_events_37 : xl_D mX3_events 37 (.ireturn) 1 38 := ⟨zd zq_17 (by decide +kernel), rfl⟩
theorem iX3_events_38 : xl_D mX3_events 38 (.iinc 1 1) 3 41 := ⟨zd zq_227 (by decide +kernel), rfl⟩
theorem iX3_events_41 : xl_J mX3_events 41 (fun o => .goto o) 44 11 := ⟨-30, zd zq_643 (by decide +kernel), rfl, rfl⟩
theorem iX3_events_44 : xl_D mX3_events 44 (.aload_n 0) 1 45 := ⟨zd zq_0 (by decide +kernel), rfl⟩
theorem iX3_events_45 : xl_D mX3_events 45 (.iconst 0) 1 46 := ⟨zd zq_2 (by decide +kernel), rfl⟩
theorem iX3_events_46 : xl_D mX3_events 46 (.bipush 6) 2 48 := ⟨zd zq_71 (by decide +kernel), rfl⟩
theorem iX3_events_48 : xl_Ca mX3_events 48 mX3_of 51 := ⟨116, zd zq_555 (by decide +kernel), rfl, lX3_116, Nat.le_of_ble_eq_true rfl, Nat.le_of_ble_eq_true rfl⟩
theorem iX3_events_51 : xl_D mX3_events 51 (.iload_n 1) 1 52 := ⟨zd zq_3 (by decide +kernel), rfl⟩
theorem iX3_events_52 : xl_D mX3_events 52 (.iadd) 1 53 := ⟨zd zq_19 (by decide +kernel), rfl⟩
theorem iX3_events_53 : xl_D mX3_events 53 (.sipush 160) 3 56 := ⟨zd zq_74 (by decide +kernel), rfl⟩
theorem iX3_events_56 : xl_J mX3_events 56 (fun o => .if_icmp .le o) 59 62 := ⟨6, zd zq_273 (by decide +kernel), rfl, rfl⟩
theorem iX3_events_59 : xl_D mX3_events 59 (.bipush (-3)) 2 61 := ⟨zd zq_260 (by decide +kernel), rfl⟩
theorem iX3_events_61 : xl_D mX3_events 61 (.ireturn) 1 62 := ⟨zd zq_17 (by decide +kernel), rfl⟩
theorem iX3_events_62 : xl_D mX3_events 62 (.aload_n 0) 1 63 := ⟨zd zq_0 (by decide +kernel), rfl⟩
theorem iX3_events_63 : xl_D mX3_events 63 (.iconst 0) 1 64 := ⟨zd zq_2 (by decide +kernel), rfl⟩
theorem iX3_events_64 : xl_D mX3_events 64 (.iconst 3) 1 65 := ⟨zd zq_123 (by decide +kernel), rfl⟩
theorem iX3_events_65 : xl_Ca mX3_events 65 mX3_copies 68 := ⟨95, zd zq_545 (by decide +kernel), rfl, lX3_95, Nat.le_of_ble_eq_true rfl, Nat.le_of_ble_eq_true rfl⟩
theorem iX3_events_68 : xl_D mX3_events 68 (.iconst 0) 1 69 := ⟨zd zq_2 (by decide +kernel), rfl⟩
theorem iX3_events_69 : xl_D mX3_events 69 (.istore_n 2) 1 70 := ⟨zd zq_41 (by decide +kernel), rfl⟩
theorem iX3_events_70 : xl_D mX3_events 70 (.iconst 0) 1 71 := ⟨zd zq_2 (by decide +kernel), rfl⟩
theorem iX3_events_71 : xl_D mX3_events 71 (.istore_n 3) 1 72 := ⟨zd zq_131 (by decide +kernel), rfl⟩
theorem iX3_events_72 : xl_D mX3_events 72 (.iload_n 3) 1 73 := ⟨zd zq_25 (by decide +kernel), rfl⟩
theorem iX3_events_73 : xl_D mX3_events 73 (.iload_n 1) 1 74 := ⟨zd zq_3 (by decide +kernel), rfl⟩
theorem iX3_events_74 : xl_J mX3_events 74 (fun o => .if_icmp .ge o) 77 127 := ⟨53, zd zq_644 (by decide +kernel), rfl, rfl⟩
theorem iX3_events_77 : xl_D mX3_events 77 (.iload_n 2) 1 78 := ⟨zd zq_6 (by decide +kernel), rfl⟩
theorem iX3_events_78 : xl_D mX3_events 78 (.aload_n 0) 1 79 := ⟨zd zq_0 (by decide +kernel), rfl⟩
theorem iX3_events_79 : xl_D mX3_events 79 (.iconst 0) 1 80 := ⟨zd zq_2 (by decide +kernel), rfl⟩
theorem iX3_events_80 : xl_D mX3_events 80 (.aload_n 0) 1 81 := ⟨zd zq_0 (by decide +kernel), rfl⟩
theorem iX3_events_81 : xl_G mX3_events 81 3 13 84 := ⟨59, zd zq_633 (by decide +kernel), rfl, fX3_59⟩
theorem iX3_events_84 : xl_D mX3_events 84 (.iload_n 3) 1 85 := ⟨zd zq_25 (by decide +kernel), rfl⟩
theorem iX3_events_85 : xl_D mX3_events 85 (.iaload) 1 86 := ⟨zd zq_20 (by decide +kernel), rfl⟩
theorem iX3_events_86 : xl_D mX3_events 86 (.aload_n 0) 1 87 := ⟨zd zq_0 (by decide +kernel), rfl⟩
theorem iX3_events_87 : xl_G mX3_events 87 3 14 90 := ⟨62, zd zq_635 (by decide +kernel), rfl, fX3_62⟩
theorem iX3_events_90 : xl_D mX3_events 90 (.iload_n 3) 1 91 := ⟨zd zq_25 (by decide +kernel), rfl⟩
theorem iX3_events_91 : xl_D mX3_events 91 (.iaload) 1 92 := ⟨zd zq_20 (by decide +kernel), rfl⟩
theorem iX3_events_92 : xl_D mX3_events 92 (.aload_n 0) 1 93 := ⟨zd zq_0 (by decide +kernel), rfl⟩
theorem iX3_events_93 : xl_G mX3_events 93 3 15 96 := ⟨65, zd zq_638 (by decide +kernel), rfl, fX3_65⟩
theorem iX3_events_96 : xl_D mX3_events 96 (.iload_n 3) 1 97 := ⟨zd zq_25 (by decide +kernel), rfl⟩
theorem iX3_events_97 : xl_D mX3_events 97 (.iaload) 1 98 := ⟨zd zq_20 (by decide +kernel), rfl⟩
theorem iX3_events_98 : xl_D mX3_events 98 (.aload_n 0) 1 99 := ⟨zd zq_0 (by decide +kernel), rfl⟩
theorem iX3_events_99 : xl_G mX3_events 99 3 16 102 := ⟨68, zd zq_639 (by decide +kernel), rfl, fX3_68⟩
theorem iX3_events_102 : xl_D mX3_events 102 (.iload_n 3) 1 103 := ⟨zd zq_25 (by decide +kernel), rfl⟩
theorem iX3_events_103 : xl_D mX3_events 103 (.iaload) 1 104 := ⟨zd zq_20 (by decide +kernel), rfl⟩
theorem iX3_events_104 : xl_Ca mX3_events 104 mX3_comes 107 := ⟨222, zd zq_356 (by decide +kernel), rfl, lX3_222, Nat.le_of_ble_eq_true rfl, Nat.le_of_ble_eq_true rfl⟩
theorem iX3_events_107 : xl_D mX3_events 107 (.iconst 2) 1 108 := ⟨zd zq_127 (by decide +kernel), rfl⟩
theorem iX3_events_108 : xl_J mX3_events 108 (fun o => .if_icmp .ge o) 111 115 := ⟨7, zd zq_145 (by decide +kernel), rfl, rfl⟩
theorem iX3_events_111 : xl_D mX3_events 111 (.iconst 1) 1 112 := ⟨zd zq_36 (by decide +kernel), rfl⟩
theorem iX3_events_112 : xl_J mX3_events 112 (fun o => .goto o) 115 116 := ⟨4, zd zq_139 (by decide +kernel), rfl, rfl⟩
theorem iX3_events_115 : xl_D mX3_events 115 (.iconst 0) 1 116 := ⟨zd zq_2 (by decide +kernel), rfl⟩
theorem iX3_events_116 : xl_Cs mX3_events 116 mX3_flag 119 := ⟨194, zd zq_613 (by decide +kernel), rfl, lX3_194, Nat.le_of_ble_eq_true rfl, Nat.le_of_ble_eq_true rfl⟩
theorem iX3_events_119 : xl_D mX3_events 119 (.iadd) 1 120 := ⟨zd zq_19 (by decide +kernel), rfl⟩
theorem iX3_events_120 : xl_D mX3_events 120 (.istore_n 2) 1 121 := ⟨zd zq_41 (by decide +kernel), rfl⟩
theorem iX3_events_121 : xl_D mX3_events 121 (.iinc 3 1) 3 124 := ⟨zd zq_153 (by decide +kernel), rfl⟩
theorem iX3_events_124 : xl_J mX3_events 124 (fun o => .goto o) 127 72 := ⟨-52, zd zq_481 (by decide +kernel), rfl, rfl⟩
theorem iX3_events_127 : xl_D mX3_events 127 (.aload_n 0) 1 128 := ⟨zd zq_0 (by decide +kernel), rfl⟩
theorem iX3_events_128 : xl_D mX3_events 128 (.iconst 0) 1 129 := ⟨zd zq_2 (by decide +kernel), rfl⟩
theorem iX3_events_129 : xl_D mX3_events 129 (.aload_n 0) 1 130 := ⟨zd zq_0 (by decide +kernel), rfl⟩
theorem iX3_events_130 : xl_D mX3_events 130 (.iconst 3) 1 131 := ⟨zd zq_123 (by decide +kernel), rfl⟩
theorem iX3_events_131 : xl_D mX3_events 131 (.bipush 7) 2 133 := ⟨zd zq_68 (by decide +kernel), rfl⟩
theorem iX3_events_133 : xl_Ca mX3_events 133 mX3_of 136 := ⟨116, zd zq_555 (by decide +kernel), rfl, lX3_116, Nat.le_of_ble_eq_true rfl, Nat.le_of_ble_eq_true rfl⟩
theorem iX3_events_136 : xl_Ca mX3_events 136 mX3_entersSince 139 := ⟨234, zd zq_632 (by decide +kernel), rfl, lX3_234, Nat.le_of_ble_eq_true rfl, Nat.le_of_ble_eq_true rfl⟩
theorem iX3_events_139 : xl_D mX3_events 139 (.iload_n 1) 1 140 := ⟨zd zq_3 (by decide +kernel), rfl⟩
theorem iX3_events_140 : xl_J mX3_events 140 (fun o => .ifCond .le o) 143 147 := ⟨7, zd zq_274 (by decide +kernel), rfl, rfl⟩
theorem iX3_events_143 : xl_D mX3_events 143 (.aload_n 0) 1 144 := ⟨zd zq_0 (by decide +kernel), rfl⟩
theorem iX3_events_144 : xl_Ca mX3_events 144 mX3_lays 147 := ⟨99, zd zq_547 (by decide +kernel), rfl, lX3_99, Nat.le_of_ble_eq_true rfl, Nat.le_of_ble_eq_true rfl⟩
theorem iX3_events_147 : xl_D mX3_events 147 (.iload_n 2) 1 148 := ⟨zd zq_6 (by decide +kernel), rfl⟩
theorem iX3_events_148 : xl_D mX3_events 148 (.ireturn) 1 149 := ⟨zd zq_17 (by decide +kernel), rfl⟩
theorem iX3_marksOne_0 : xl_D mX3_marksOne 0 (.aload_n 0) 1 1 := ⟨zd zq_0 (by decide +kernel), rfl⟩
theorem iX3_marksOne_1 : xl_D mX3_marksOne 1 (.iload_n 1) 1 2 := ⟨zd zq_3 (by decide +kernel), rfl⟩
theorem iX3_marksOne_2 : xl_Ca mX3_marksOne 2 mX3_isSource 5 := ⟨120, zd zq_556 (by decide +kernel), rfl, lX3_120, Nat.le_of_ble_eq_true rfl, Nat.le_of_ble_eq_true rfl⟩
theorem iX3_marksOne_5 : xl_J mX3_marksOne 5 (fun o => .ifCond .eq o) 8 20 := ⟨15, zd zq_321 (by decide +kernel), rfl, rfl⟩
theorem iX3_marksOne_8 : xl_D mX3_marksOne 8 (.iload_n 2) 1 9 := ⟨zd zq_6 (by decide +kernel), rfl⟩
theorem iX3_marksOne_9 : xl_D mX3_marksOne 9 (.i2l) 1 10 := ⟨zd zq_266 (by decide +kernel), rfl⟩
theorem iX3_marksOne_10 : xl_D mX3_marksOne 10 (.lconst 0) 1 11 := ⟨zd zq_506 (by decide +kernel), rfl⟩
theorem iX3_marksOne_11 : xl_D mX3_marksOne 11 (.ldc2_w 251) 3 14 := ⟨zd zq_645 (by decide +kernel), rfl⟩
theorem iX3_marksOne_14 : xl_Cs mX3_marksOne 14 mX3_in 17 := ⟨21, zd zq_507 (by decide +kernel), rfl, lX3_21, Nat.le_of_ble_eq_true rfl, Nat.le_of_ble_eq_true rfl⟩
theorem iX3_marksOne_17 : xl_J mX3_marksOne 17 (fun o => .ifCond .ne o) 20 22 := ⟨5, zd zq_246 (by decide +kernel), rfl, rfl⟩
theorem iX3_marksOne_20 : xl_D mX3_marksOne 20 (.iconst (-1)) 1 21 := ⟨zd zq_104 (by decide +kernel), rfl⟩
theorem iX3_marksOne_21 : xl_D mX3_marksOne 21 (.ireturn) 1 22 := ⟨zd zq_17 (by decide +kernel), rfl⟩
theorem iX3_marksOne_22 : xl_D mX3_marksOne 22 (.aload_n 0) 1 23 := ⟨zd zq_0 (by decide +kernel), rfl⟩
theorem iX3_marksOne_23 : xl_D mX3_marksOne 23 (.iconst 0) 1 24 := ⟨zd zq_2 (by decide +kernel), rfl⟩
theorem iX3_marksOne_24 : xl_D mX3_marksOne 24 (.bipush 12) 2 26 := ⟨zd zq_578 (by decide +kernel), rfl⟩
theorem iX3_marksOne_26 : xl_D mX3_marksOne 26 (.iload_n 1) 1 27 := ⟨zd zq_3 (by decide +kernel), rfl⟩
theorem iX3_marksOne_27 : xl_D mX3_marksOne 27 (.iadd) 1 28 := ⟨zd zq_19 (by decide +kernel), rfl⟩
theorem iX3_marksOne_28 : xl_Ca mX3_marksOne 28 mX3_of 31 := ⟨116, zd zq_555 (by decide +kernel), rfl, lX3_116, Nat.le_of_ble_eq_true rfl, Nat.le_of_ble_eq_true rfl⟩
theorem iX3_marksOne_31 : xl_D mX3_marksOne 31 (.iload_n 2) 1 32 := ⟨zd zq_6 (by decide +kernel), rfl⟩
theorem iX3_marksOne_32 : xl_J mX3_marksOne 32 (fun o => .if_icmp .lt o) 35 38 := ⟨6, zd zq_381 (by decide +kernel), rfl, rfl⟩
theorem iX3_marksOne_35 : xl_D mX3_marksOne 35 (.bipush (-2)) 2 37 := ⟨zd zq_256 (by decide +kernel), rfl⟩
theorem iX3_marksOne_37 : xl_D mX3_marksOne 37 (.ireturn) 1 38 := ⟨zd zq_17 (by decide +kernel), rfl⟩
theorem iX3_marksOne_38 : xl_D mX3_marksOne 38 (.aload_n 0) 1 39 := ⟨zd zq_0 (by decide +kernel), rfl⟩
theorem iX3_marksOne_39 : xl_D mX3_marksOne 39 (.iconst 0) 1 40 := ⟨zd zq_2 (by decide +kernel), rfl⟩
theorem iX3_marksOne_40 : xl_D mX3_marksOne 40 (.bipush 6) 2 42 := ⟨zd zq_71 (by decide +kernel), rfl⟩
theorem iX3_marksOne_42 : xl_Ca mX3_marksOne 42 mX3_of 45 := ⟨116, zd zq_555 (by decide +kernel), rfl, lX3_116, Nat.le_of_ble_eq_true rfl, Nat.le_of_ble_eq_true rfl⟩
theorem iX3_marksOne_45 : xl_D mX3_marksOne 45 (.sipush 160) 3 48 := ⟨zd zq_74 (by decide +kernel), rfl⟩
theorem iX3_marksOne_48 : xl_J mX3_marksOne 48 (fun o => .if_icmp .ne o) 51 54 := ⟨6, zd zq_255 (by decide +kernel), rfl, rfl⟩
theorem iX3_marksOne_51 : xl_D mX3_marksOne 51 (.bipush (-3)) 2 53 := ⟨zd zq_260 (by decide +kernel), rfl⟩
theorem iX3_marksOne_53 : xl_D mX3_marksOne 53 (.ireturn) 1 54 := ⟨zd zq_17 (by decide +kernel), rfl⟩
theorem iX3_marksOne_54 : xl_D mX3_marksOne 54 (.aload_n 0) 1 55 := ⟨zd zq_0 (by decide +kernel), rfl⟩
theorem iX3_marksOne_55 : xl_D mX3_marksOne 55 (.iconst 0) 1 56 := ⟨zd zq_2 (by decide +kernel), rfl⟩
theorem iX3_marksOne_56 : xl_D mX3_marksOne 56 (.bipush 7) 2 58 := ⟨zd zq_68 (by decide +kernel), rfl⟩
theorem iX3_marksOne_58 : xl_Ca mX3_marksOne 58 mX3_of 61 := ⟨116, zd zq_555 (by decide +kernel), rfl, lX3_116, Nat.le_of_ble_eq_true rfl, Nat.le_of_ble_eq_true rfl⟩
theorem iX3_marksOne_61 : xl_D mX3_marksOne 61 (.istore_n 3) 1 62 := ⟨zd zq_131 (by decide +kernel), rfl⟩
theorem iX3_marksOne_62 : xl_D mX3_marksOne 62 (.aload_n 0) 1 63 := ⟨zd zq_0 (by decide +kernel), rfl⟩
theorem iX3_marksOne_63 : xl_D mX3_marksOne 63 (.iconst 0) 1 64 := ⟨zd zq_2 (by decide +kernel), rfl⟩
theorem iX3_marksOne_64 : xl_D mX3_marksOne 64 (.iload_n 1) 1 65 := ⟨zd zq_3 (by decide +kernel), rfl⟩
theorem iX3_marksOne_65 : xl_D mX3_marksOne 65 (.iload_n 2) 1 66 := ⟨zd zq_6 (by decide +kernel), rfl⟩
theorem iX3_marksOne_66 : xl_Ca mX3_marksOne 66 mX3_isMarked 69 := ⟨253, zd zq_646 (by decide +kernel), rfl, lX3_253, Nat.le_of_ble_eq_true rfl, Nat.le_of_ble_eq_true rfl⟩
theorem iX3_marksOne_69 : xl_D mX3_marksOne 69 (.aload_n 0) 1 70 := ⟨zd zq_0 (by decide +kernel), rfl⟩
theorem iX3_marksOne_70 : xl_D mX3_marksOne 70 (.iconst 0) 1 71 := ⟨zd zq_2 (by decide +kernel), rfl⟩
theorem iX3_marksOne_71 : xl_D mX3_marksOne 71 (.bipush 7) 2 73 := ⟨zd zq_68 (by decide +kernel), rfl⟩
theorem iX3_marksOne_73 : xl_Ca mX3_marksOne 73 mX3_of 76 := ⟨116, zd zq_555 (by decide +kernel), rfl, lX3_116, Nat.le_of_ble_eq_true rfl, Nat.le_of_ble_eq_true rfl⟩
theorem iX3_marksOne_76 : xl_D mX3_marksOne 76 (.iload_n 3) 1 77 := ⟨zd zq_25 (by decide +kernel), rfl⟩
theorem iX3_marksOne_77 : xl_D mX3_marksOne 77 (.isub) 1 78 := ⟨zd zq_39 (by decide +kernel), rfl⟩
theorem iX3_marksOne_78 : xl_D mX3_marksOne 78 (.ireturn) 1 79 := ⟨zd zq_17 (by decide +kernel), rfl⟩
theorem iX3_entersProgress_0 : xl_D mX3_entersProgress 0 (.aload_n 0) 1 1 := ⟨zd zq_0 (by decide +kernel), rfl⟩
theorem iX3_entersProgress_1 : xl_D mX3_entersProgress 1 (.iconst 0) 1 2 := ⟨zd zq_2 (by decide +kernel), rfl⟩
theorem iX3_entersProgress_2 : xl_P mX3_entersProgress 2 3 1 .int 5 := ⟨11, zd zq_501 (by decide +kernel), rfl, wX3_11⟩
theorem iX3_entersProgress_5 : xl_D mX3_entersProgress 5 (.aload_n 0) 1 6 := ⟨zd zq_0 (by decide +kernel), rfl⟩
theorem iX3_entersProgress_6 : xl_D mX3_entersProgress 6 (.aload_n 0) 1 7 := ⟨zd zq_0 (by decide +kernel), rfl⟩
theorem iX3_entersProgress_7 : xl_D mX3_entersProgress 7 (.iconst 0) 1 8 := ⟨zd zq_2 (by decide +kernel), rfl⟩
theorem iX3_entersProgress_8 : xl_D mX3_entersProgress 8 (.iconst 4) 1 9 := ⟨zd zq_63 (by decide +kernel), rfl⟩
theorem iX3_entersProgress_9 : xl_Ca mX3_entersProgress 9 mX3_of 12 := ⟨116, zd zq_555 (by decide +kernel), rfl, lX3_116, Nat.le_of_ble_eq_true rfl, Nat.le_of_ble_eq_true rfl⟩
theorem iX3_entersProgress_12 : xl_D mX3_entersProgress 12 (.i2l) 1 13 := ⟨zd zq_266 (by decide +kernel), rfl⟩
theorem iX3_entersProgress_13 : xl_Ca mX3_entersProgress 13 mX3_enters 16 := ⟨226, zd zq_357 (by decide +kernel), rfl, lX3_226, Nat.le_of_ble_eq_true rfl, Nat.le_of_ble_eq_true rfl⟩
theorem iX3_entersProgress_16 : xl_D mX3_entersProgress 16 (.return_) 1 17 := ⟨zd zq_12 (by decide +kernel), rfl⟩
theorem iX3_marks_0 : xl_D mX3_marks 0 (.aload_n 0) 1 1 := ⟨zd zq_0 (by decide +kernel), rfl⟩
theorem iX3_marks_1 : xl_D mX3_marks 1 (.iconst 0) 1 2 := ⟨zd zq_2 (by decide +kernel), rfl⟩
theorem iX3_marks_2 : xl_P mX3_marks 2 3 0 .int 5 := ⟨3, zd zq_502 (by decide +kernel), rfl, wX3_3⟩
theorem iX3_marks_5 : xl_D mX3_marks 5 (.aload_n 0) 1 6 := ⟨zd zq_0 (by decide +kernel), rfl⟩
theorem iX3_marks_6 : xl_D mX3_marks 6 (.iconst 0) 1 7 := ⟨zd zq_2 (by decide +kernel), rfl⟩
theorem iX3_marks_7 : xl_D mX3_marks 7 (.iconst 3) 1 8 := ⟨zd zq_123 (by decide +kernel), rfl⟩
theorem iX3_marks_8 : xl_Ca mX3_marks 8 mX3_copies 11 := ⟨95, zd zq_545 (by decide +kernel), rfl, lX3_95, Nat.le_of_ble_eq_true rfl, Nat.le_of_ble_eq_true rfl⟩
theorem iX3_marks_11 : xl_D mX3_marks 11 (.aload_n 0) 1 12 := ⟨zd zq_0 (by decide +kernel), rfl⟩
theorem iX3_marks_12 : xl_D mX3_marks 12 (.iload_n 1) 1 13 := ⟨zd zq_3 (by decide +kernel), rfl⟩
theorem iX3_marks_13 : xl_D mX3_marks 13 (.iload_n 2) 1 14 := ⟨zd zq_6 (by decide +kernel), rfl⟩
theorem iX3_marks_14 : xl_Ca mX3_marks 14 mX3_marksOne 17 := ⟨256, zd zq_389 (by decide +kernel), rfl, lX3_256, Nat.le_of_ble_eq_true rfl, Nat.le_of_ble_eq_true rfl⟩
theorem iX3_marks_17 : xl_D mX3_marks 17 (.istore_n 3) 1 18 := ⟨zd zq_131 (by decide +kernel), rfl⟩
theorem iX3_marks_18 : xl_D mX3_marks 18 (.iload_n 3) 1 19 := ⟨zd zq_25 (by decide +kernel), rfl⟩
theorem iX3_marks_19 : xl_J mX3_marks 19 (fun o => .ifCond .lt o) 22 26 := ⟨7, zd zq_270 (by decide +kernel), rfl, rfl⟩
theorem iX3_marks_22 : xl_D mX3_marks 22 (.aload_n 0) 1 23 := ⟨zd zq_0 (by decide +kernel), rfl⟩
theorem iX3_marks_23 : xl_Ca mX3_marks 23 mX3_entersProgress 26 := ⟨259, zd zq_391 (by decide +kernel), rfl, lX3_259, Nat.le_of_ble_eq_true rfl, Nat.le_of_ble_eq_true rfl⟩
theorem iX3_marks_26 : xl_D mX3_marks 26 (.aload_n 0) 1 27 := ⟨zd zq_0 (by decide +kernel), rfl⟩
theorem iX3_marks_27 : xl_D mX3_marks 27 (.iload_n 3) 1 28 := ⟨zd zq_25 (by decide +kernel), rfl⟩
theorem iX3_marks_28 : xl_Ca mX3_marks 28 mX3_done 31 := ⟨112, zd zq_554 (by decide +kernel), rfl, lX3_112, Nat.le_of_ble_eq_true rfl, Nat.le_of_ble_eq_true rfl⟩
theorem iX3_marks_31 : xl_D mX3_marks 31 (.ireturn) 1 32 := ⟨zd zq_17 (by decide +kernel), rfl⟩
theorem iX3_idlesOne_0 : xl_D mX3_idlesOne 0 (.aload_n 0) 1 1 := ⟨zd zq_0 (by decide +kernel), rfl⟩
theorem iX3_idlesOne_1 : xl_D mX3_idlesOne 1 (.iload_n 1) 1 2 := ⟨zd zq_3 (by decide +kernel), rfl⟩
theorem iX3_idlesOne_2 : xl_Ca mX3_idlesOne 2 mX3_isSource 5 := ⟨120, zd zq_556 (by decide +kernel), rfl, lX3_120, Nat.le_of_ble_eq_true rfl, Nat.le_of_ble_eq_true rfl⟩
theorem iX3_idlesOne_5 : xl_J mX3_idlesOne 5 (fun o => .ifCond .ne o) 8 10 := ⟨5, zd zq_246 (by decide +kernel), rfl, rfl⟩
theorem iX3_idlesOne_8 : xl_D mX3_idlesOne 8 (.iconst (-1)) 1 9 := ⟨zd zq_104 (by decide +kernel), rfl⟩
theorem iX3_idlesOne_9 : xl_D mX3_idlesOne 9 (.ireturn) 1 10 := ⟨zd zq_17 (by decide +kernel), rfl⟩
theorem iX3_idlesOne_10 : xl_D mX3_idlesOne 10 (.aload_n 0) 1 11 := ⟨zd zq_0 (by decide +kernel), rfl⟩
theorem iX3_idlesOne_11 : xl_D mX3_idlesOne 11 (.iconst 0) 1 12 := ⟨zd zq_2 (by decide +kernel), rfl⟩
theorem iX3_idlesOne_12 : xl_D mX3_idlesOne 12 (.bipush 20) 2 14 := ⟨zd zq_96 (by decide +kernel), rfl⟩
theorem iX3_idlesOne_14 : xl_D mX3_idlesOne 14 (.iload_n 1) 1 15 := ⟨zd zq_3 (by decide +kernel), rfl⟩
theorem iX3_idlesOne_15 : xl_D mX3_idlesOne 15 (.iadd) 1 16 := ⟨zd zq_19 (by decide +kernel), rfl⟩
theorem iX3_idlesOne_16 : xl_Ca mX3_idlesOne 16 mX3_of 19 := ⟨116, zd zq_555 (by decide +kernel), rfl, lX3_116, Nat.le_of_ble_eq_true rfl, Nat.le_of_ble_eq_true rfl⟩
theorem iX3_idlesOne_19 : xl_D mX3_idlesOne 19 (.iconst 1) 1 20 := ⟨zd zq_36 (by decide +kernel), rfl⟩
theorem iX3_idlesOne_20 : xl_J mX3_idlesOne 20 (fun o => .if_icmp .ne o) 23 26 := ⟨6, zd zq_255 (by decide +kernel), rfl, rfl⟩
theorem iX3_idlesOne_23 : xl_D mX3_idlesOne 23 (.bipush (-2)) 2 25 := ⟨zd zq_256 (by decide +kernel), rfl⟩
theorem iX3_idlesOne_25 : xl_D mX3_idlesOne 25 (.ireturn) 1 26 := ⟨zd zq_17 (by decide +kernel), rfl⟩
theorem iX3_idlesOne_26 : xl_D mX3_idlesOne 26 (.aload_n 0) 1 27 := ⟨zd zq_0 (by decide +kernel), rfl⟩
theorem iX3_idlesOne_27 : xl_D mX3_idlesOne 27 (.iconst 0) 1 28 := ⟨zd zq_2 (by decide +kernel), rfl⟩
theorem iX3_idlesOne_28 : xl_D mX3_idlesOne 28 (.bipush 6) 2 30 := ⟨zd zq_71 (by decide +kernel), rfl⟩
theorem iX3_idlesOne_30 : xl_Ca mX3_idlesOne 30 mX3_of 33 := ⟨116, zd zq_555 (by decide +kernel), rfl, lX3_116, Nat.le_of_ble_eq_true rfl, Nat.le_of_ble_eq_true rfl⟩
theorem iX3_idlesOne_33 : xl_D mX3_idlesOne 33 (.sipush 160) 3 36 := ⟨zd zq_74 (by decide +kernel), rfl⟩
theorem iX3_idlesOne_36 : xl_J mX3_idlesOne 36 (fun o => .if_icmp .ne o) 39 42 := ⟨6, zd zq_255 (by decide +kernel), rfl, rfl⟩
theorem iX3_idlesOne_39 : xl_D mX3_idlesOne 39 (.bipush (-3)) 2 41 := ⟨zd zq_260 (by decide +kernel), rfl⟩
theorem iX3_idlesOne_41 : xl_D mX3_idlesOne 41 (.ireturn) 1 42 := ⟨zd zq_17 (by decide +kernel), rfl⟩
theorem iX3_idlesOne_42 : xl_D mX3_idlesOne 42 (.aload_n 0) 1 43 := ⟨zd zq_0 (by decide +kernel), rfl⟩
theorem iX3_idlesOne_43 : xl_D mX3_idlesOne 43 (.iconst 0) 1 44 := ⟨zd zq_2 (by decide +kernel), rfl⟩
theorem iX3_idlesOne_44 : xl_D mX3_idlesOne 44 (.bipush 7) 2 46 := ⟨zd zq_68 (by decide +kernel), rfl⟩
theorem iX3_idlesOne_46 : xl_Ca mX3_idlesOne 46 mX3_of 49 := ⟨116, zd zq_555 (by decide +kernel), rfl, lX3_116, Nat.le_of_ble_eq_true rfl, Nat.le_of_ble_eq_true rfl⟩
theorem iX3_idlesOne_49 : xl_D mX3_idlesOne 49 (.istore_n 2) 1 50 := ⟨zd zq_41 (by decide +kernel), rfl⟩
theorem iX3_idlesOne_50 : xl_D mX3_idlesOne 50 (.aload_n 0) 1 51 := ⟨zd zq_0 (by decide +kernel), rfl⟩
theorem iX3_idlesOne_51 : xl_D mX3_idlesOne 51 (.iconst 0) 1 52 := ⟨zd zq_2 (by decide +kernel), rfl⟩
theorem iX3_idlesOne_52 : xl_D mX3_idlesOne 52 (.iload_n 1) 1 53 := ⟨zd zq_3 (by decide +kernel), rfl⟩
theorem iX3_idlesOne_53 : xl_Ca mX3_idlesOne 53 mX3_isIdle 56 := ⟨262, zd zq_394 (by decide +kernel), rfl, lX3_262, Nat.le_of_ble_eq_true rfl, Nat.le_of_ble_eq_true rfl⟩
theorem iX3_idlesOne_56 : xl_D mX3_idlesOne 56 (.aload_n 0) 1 57 := ⟨zd zq_0 (by decide +kernel), rfl⟩
theorem iX3_idlesOne_57 : xl_D mX3_idlesOne 57 (.iconst 0) 1 58 := ⟨zd zq_2 (by decide +kernel), rfl⟩
theorem iX3_idlesOne_58 : xl_D mX3_idlesOne 58 (.bipush 7) 2 60 := ⟨zd zq_68 (by decide +kernel), rfl⟩
theorem iX3_idlesOne_60 : xl_Ca mX3_idlesOne 60 mX3_of 63 := ⟨116, zd zq_555 (by decide +kernel), rfl, lX3_116, Nat.le_of_ble_eq_true rfl, Nat.le_of_ble_eq_true rfl⟩
theorem iX3_idlesOne_63 : xl_D mX3_idlesOne 63 (.iload_n 2) 1 64 := ⟨zd zq_6 (by decide +kernel), rfl⟩
theorem iX3_idlesOne_64 : xl_D mX3_idlesOne 64 (.isub) 1 65 := ⟨zd zq_39 (by decide +kernel), rfl⟩
theorem iX3_idlesOne_65 : xl_D mX3_idlesOne 65 (.ireturn) 1 66 := ⟨zd zq_17 (by decide +kernel), rfl⟩
theorem iX3_idles_0 : xl_D mX3_idles 0 (.aload_n 0) 1 1 := ⟨zd zq_0 (by decide +kernel), rfl⟩
theorem iX3_idles_1 : xl_D mX3_idles 1 (.iconst 0) 1 2 := ⟨zd zq_2 (by decide +kernel), rfl⟩
theorem iX3_idles_2 : xl_P mX3_idles 2 3 0 .int 5 := ⟨3, zd zq_502 (by decide +kernel), rfl, wX3_3⟩
theorem iX3_idles_5 : xl_D mX3_idles 5 (.aload_n 0) 1 6 := ⟨zd zq_0 (by decide +kernel), rfl⟩
theorem iX3_idles_6 : xl_D mX3_idles 6 (.iconst 0) 1 7 := ⟨zd zq_2 (by decide +kernel), rfl⟩
theorem iX3_idles_7 : xl_D mX3_idles 7 (.iconst 3) 1 8 := ⟨zd zq_123 (by decide +kernel), rfl⟩
theorem iX3_idles_8 : xl_Ca mX3_idles 8 mX3_copies 11 := ⟨95, zd zq_545 (by decide +kernel), rfl, lX3_95, Nat.le_of_ble_eq_true rfl, Nat.le_of_ble_eq_true rfl⟩
theorem iX3_idles_11 : xl_D mX3_idles 11 (.aload_n 0) 1 12 := ⟨zd zq_0 (by decide +kernel), rfl⟩
theorem iX3_idles_12 : xl_D mX3_idles 12 (.iload_n 1) 1 13 := ⟨zd zq_3 (by decide +kernel), rfl⟩
theorem iX3_idles_13 : xl_Ca mX3_idles 13 mX3_idlesOne 16 := ⟨265, zd zq_395 (by decide +kernel), rfl, lX3_265, Nat.le_of_ble_eq_true rfl, Nat.le_of_ble_eq_true rfl⟩
theorem iX3_idles_16 : xl_D mX3_idles 16 (.istore_n 2) 1 17 := ⟨zd zq_41 (by decide +kernel), rfl⟩
theorem iX3_idles_17 : xl_D mX3_idles 17 (.iload_n 2) 1 18 := ⟨zd zq_6 (by decide +kernel), rfl⟩
theorem iX3_idles_18 : xl_J mX3_idles 18 (fun o => .ifCond .lt o) 21 25 := ⟨7, zd zq_270 (by decide +kernel), rfl, rfl⟩
theorem iX3_idles_21 : xl_D mX3_idles 21 (.aload_n 0) 1 22 := ⟨zd zq_0 (by decide +kernel), rfl⟩
theorem iX3_idles_22 : xl_Ca mX3_idles 22 mX3_entersProgress 25 := ⟨259, zd zq_391 (by decide +kernel), rfl, lX3_259, Nat.le_of_ble_eq_true rfl, Nat.le_of_ble_eq_true rfl⟩
theorem iX3_idles_25 : xl_D mX3_idles 25 (.aload_n 0) 1 26 := ⟨zd zq_0 (by decide +kernel), rfl⟩
theorem iX3_idles_26 : xl_D mX3_idles 26 (.iload_n 2) 1 27 := ⟨zd zq_6 (by decide +kernel), rfl⟩
theorem iX3_idles_27 : xl_Ca mX3_idles 27 mX3_done 30 := ⟨112, zd zq_554 (by decide +kernel), rfl, lX3_112, Nat.le_of_ble_eq_true rfl, Nat.le_of_ble_eq_true rfl⟩
theorem iX3_idles_30 : xl_D mX3_idles 30 (.ireturn) 1 31 := ⟨zd zq_17 (by decide +kernel), rfl⟩
theorem iX3_source_0 : xl_D mX3_source 0 (.aload_n 0) 1 1 := ⟨zd zq_0 (by decide +kernel), rfl⟩
theorem iX3_source_1 : xl_D mX3_source 1 (.aload_n 0) 1 2 := ⟨zd zq_0 (by decide +kernel), rfl⟩
theorem iX3_source_2 : xl_D mX3_source 2 (.iload_n 1) 1 3 := ⟨zd zq_3 (by decide +kernel), rfl⟩
theorem iX3_source_3 : xl_Ca mX3_source 3 mX3_isSource 6 := ⟨120, zd zq_556 (by decide +kernel), rfl, lX3_120, Nat.le_of_ble_eq_true rfl, Nat.le_of_ble_eq_true rfl⟩
theorem iX3_source_6 : xl_J mX3_source 6 (fun o => .ifCond .eq o) 9 21 := ⟨15, zd zq_321 (by decide +kernel), rfl, rfl⟩
theorem iX3_source_9 : xl_D mX3_source 9 (.iload_n 2) 1 10 := ⟨zd zq_6 (by decide +kernel), rfl⟩
theorem iX3_source_10 : xl_D mX3_source 10 (.i2l) 1 11 := ⟨zd zq_266 (by decide +kernel), rfl⟩
theorem iX3_source_11 : xl_D mX3_source 11 (.lconst 0) 1 12 := ⟨zd zq_506 (by decide +kernel), rfl⟩
theorem iX3_source_12 : xl_D mX3_source 12 (.ldc2_w 213) 3 15 := ⟨zd zq_623 (by decide +kernel), rfl⟩
theorem iX3_source_15 : xl_Cs mX3_source 15 mX3_in 18 := ⟨21, zd zq_507 (by decide +kernel), rfl, lX3_21, Nat.le_of_ble_eq_true rfl, Nat.le_of_ble_eq_true rfl⟩
theorem iX3_source_18 : xl_J mX3_source 18 (fun o => .ifCond .ne o) 21 25 := ⟨7, zd zq_192 (by decide +kernel), rfl, rfl⟩
theorem iX3_source_21 : xl_D mX3_source 21 (.iconst 1) 1 22 := ⟨zd zq_36 (by decide +kernel), rfl⟩
theorem iX3_source_22 : xl_J mX3_source 22 (fun o => .goto o) 25 26 := ⟨4, zd zq_139 (by decide +kernel), rfl, rfl⟩
theorem iX3_source_25 : xl_D mX3_source 25 (.iconst 0) 1 26 := ⟨zd zq_2 (by decide +kernel), rfl⟩
theorem iX3_source_26 : xl_Cs mX3_source 26 mX3_flag 29 := ⟨194, zd zq_613 (by decide +kernel), rfl, lX3_194, Nat.le_of_ble_eq_true rfl, Nat.le_of_ble_eq_true rfl⟩
theorem iX3_source_29 : xl_P mX3_source 29 3 0 .int 32 := ⟨3, zd zq_502 (by decide +kernel), rfl, wX3_3⟩
theorem iX3_source_32 : xl_D mX3_source 32 (.aload_n 0) 1 33 := ⟨zd zq_0 (by decide +kernel), rfl⟩
theorem iX3_source_33 : xl_G mX3_source 33 3 0 36 := ⟨3, zd zq_647 (by decide +kernel), rfl, fX3_3⟩
theorem iX3_source_36 : xl_D mX3_source 36 (.iconst 1) 1 37 := ⟨zd zq_36 (by decide +kernel), rfl⟩
theorem iX3_source_37 : xl_J mX3_source 37 (fun o => .if_icmp .ne o) 40 42 := ⟨5, zd zq_648 (by decide +kernel), rfl, rfl⟩
theorem iX3_source_40 : xl_D mX3_source 40 (.iconst 0) 1 41 := ⟨zd zq_2 (by decide +kernel), rfl⟩
theorem iX3_source_41 : xl_D mX3_source 41 (.ireturn) 1 42 := ⟨zd zq_17 (by decide +kernel), rfl⟩
theorem iX3_source_42 : xl_D mX3_source 42 (.aload_n 0) 1 43 := ⟨zd zq_0 (by decide +kernel), rfl⟩
theorem iX3_source_43 : xl_D mX3_source 43 (.iconst 0) 1 44 := ⟨zd zq_2 (by decide +kernel), rfl⟩
theorem iX3_source_44 : xl_D mX3_source 44 (.bipush 12) 2 46 := ⟨zd zq_578 (by decide +kernel), rfl⟩
theorem iX3_source_46 : xl_D mX3_source 46 (.iload_n 1) 1 47 := ⟨zd zq_3 (by decide +kernel), rfl⟩
theorem iX3_source_47 : xl_D mX3_source 47 (.iadd) 1 48 := ⟨zd zq_19 (by decide +kernel), rfl⟩
theorem iX3_source_48 : xl_Ca mX3_source 48 mX3_of 51 := ⟨116, zd zq_555 (by decide +kernel), rfl, lX3_116, Nat.le_of_ble_eq_true rfl, Nat.le_of_ble_eq_true rfl⟩
theorem iX3_source_51 : xl_D mX3_source 51 (.aload_n 0) 1 52 := ⟨zd zq_0 (by decide +kernel), rfl⟩
theorem iX3_source_52 : xl_D mX3_source 52 (.iconst 0) 1 53 := ⟨zd zq_2 (by decide +kernel), rfl⟩
theorem iX3_source_53 : xl_D mX3_source 53 (.iconst 4) 1 54 := ⟨zd zq_63 (by decide +kernel), rfl⟩
theorem iX3_source_54 : xl_Ca mX3_source 54 mX3_of 57 := ⟨116, zd zq_555 (by decide +kernel), rfl, lX3_116, Nat.le_of_ble_eq_true rfl, Nat.le_of_ble_eq_true rfl⟩
theorem iX3_source_57 : xl_D mX3_source 57 (.isub) 1 58 := ⟨zd zq_39 (by decide +kernel), rfl⟩
theorem iX3_source_58 : xl_D mX3_source 58 (.istore_n 3) 1 59 := ⟨zd zq_131 (by decide +kernel), rfl⟩
theorem iX3_source_59 : xl_D mX3_source 59 (.iload_n 2) 1 60 := ⟨zd zq_6 (by decide +kernel), rfl⟩
theorem iX3_source_60 : xl_D mX3_source 60 (.tableswitch 86 0 4 #[36, 46, 56, 66, 76]) 36 96 := ⟨by decide +kernel, rfl⟩
theorem iX3_source_96 : xl_D mX3_source 96 (.aload_n 0) 1 97 := ⟨zd zq_0 (by decide +kernel), rfl⟩
theorem iX3_source_97 : xl_D mX3_source 97 (.iconst 0) 1 98 := ⟨zd zq_2 (by decide +kernel), rfl⟩
theorem iX3_source_98 : xl_D mX3_source 98 (.bipush 12) 2 100 := ⟨zd zq_578 (by decide +kernel), rfl⟩
theorem iX3_source_100 : xl_D mX3_source 100 (.iload_n 1) 1 101 := ⟨zd zq_3 (by decide +kernel), rfl⟩
theorem iX3_source_101 : xl_D mX3_source 101 (.iadd) 1 102 := ⟨zd zq_19 (by decide +kernel), rfl⟩
theorem iX3_source_102 : xl_Ca mX3_source 102 mX3_of 105 := ⟨116, zd zq_555 (by decide +kernel), rfl, lX3_116, Nat.le_of_ble_eq_true rfl, Nat.le_of_ble_eq_true rfl⟩
theorem iX3_source_105 : xl_D mX3_source 105 (.ireturn) 1 106 := ⟨zd zq_17 (by decide +kernel), rfl⟩
theorem iX3_source_106 : xl_D mX3_source 106 (.aload_n 0) 1 107 := ⟨zd zq_0 (by decide +kernel), rfl⟩
theorem iX3_source_107 : xl_D mX3_source 107 (.iconst 0) 1 108 := ⟨zd zq_2 (by decide +kernel), rfl⟩
theorem iX3_source_108 : xl_D mX3_source 108 (.bipush 16) 2 110 := ⟨zd zq_493 (by decide +kernel), rfl⟩
theorem iX3_source_110 : xl_D mX3_source 110 (.iload_n 1) 1 111 := ⟨zd zq_3 (by decide +kernel), rfl⟩
theorem iX3_source_111 : xl_D mX3_source 111 (.iadd) 1 112 := ⟨zd zq_19 (by decide +kernel), rfl⟩
theorem iX3_source_112 : xl_Ca mX3_source 112 mX3_of 115 := ⟨116, zd zq_555 (by decide +kernel), rfl, lX3_116, Nat.le_of_ble_eq_true rfl, Nat.le_of_ble_eq_true rfl⟩
theorem iX3_source_115 : xl_D mX3_source 115 (.ireturn) 1 116 := ⟨zd zq_17 (by decide +kernel), rfl⟩
theorem iX3_source_116 : xl_D mX3_source 116 (.aload_n 0) 1 117 := ⟨zd zq_0 (by decide +kernel), rfl⟩
theorem iX3_source_117 : xl_D mX3_source 117 (.iconst 0) 1 118 := ⟨zd zq_2 (by decide +kernel), rfl⟩
theorem iX3_source_118 : xl_D mX3_source 118 (.bipush 20) 2 120 := ⟨zd zq_96 (by decide +kernel), rfl⟩
theorem iX3_source_120 : xl_D mX3_source 120 (.iload_n 1) 1 121 := ⟨zd zq_3 (by decide +kernel), rfl⟩
theorem iX3_source_121 : xl_D mX3_source 121 (.iadd) 1 122 := ⟨zd zq_19 (by decide +kernel), rfl⟩
theorem iX3_source_122 : xl_Ca mX3_source 122 mX3_of 125 := ⟨116, zd zq_555 (by decide +kernel), rfl, lX3_116, Nat.le_of_ble_eq_true rfl, Nat.le_of_ble_eq_true rfl⟩
theorem iX3_source_125 : xl_D mX3_source 125 (.ireturn) 1 126 := ⟨zd zq_17 (by decide +kernel), rfl⟩
theorem iX3_source_126 : xl_D mX3_source 126 (.aload_n 0) 1 127 := ⟨zd zq_0 (by decide +kernel), rfl⟩
theorem iX3_source_127 : xl_D mX3_source 127 (.iconst 0) 1 128 := ⟨zd zq_2 (by decide +kernel), rfl⟩
theorem iX3_source_128 : xl_D mX3_source 128 (.bipush 24) 2 130 := ⟨zd zq_236 (by decide +kernel), rfl⟩
theorem iX3_source_130 : xl_D mX3_source 130 (.iload_n 1) 1 131 := ⟨zd zq_3 (by decide +kernel), rfl⟩
theorem iX3_source_131 : xl_D mX3_source 131 (.iadd) 1 132 := ⟨zd zq_19 (by decide +kernel), rfl⟩
theorem iX3_source_132 : xl_Ca mX3_source 132 mX3_of 135 := ⟨116, zd zq_555 (by decide +kernel), rfl, lX3_116, Nat.le_of_ble_eq_true rfl, Nat.le_of_ble_eq_true rfl⟩
theorem iX3_source_135 : xl_D mX3_source 135 (.ireturn) 1 136 := ⟨zd zq_17 (by decide +kernel), rfl⟩
theorem iX3_source_136 : xl_D mX3_source 136 (.aload_n 0) 1 137 := ⟨zd zq_0 (by decide +kernel), rfl⟩
theorem iX3_source_137 : xl_D mX3_source 137 (.iconst 0) 1 138 := ⟨zd zq_2 (by decide +kernel), rfl⟩
theorem iX3_source_138 : xl_D mX3_source 138 (.bipush 28) 2 140 := ⟨zd zq_621 (by decide +kernel), rfl⟩
theorem iX3_source_140 : xl_D mX3_source 140 (.iload_n 1) 1 141 := ⟨zd zq_3 (by decide +kernel), rfl⟩
theorem iX3_source_141 : xl_D mX3_source 141 (.iadd) 1 142 := ⟨zd zq_19 (by decide +kernel), rfl⟩
theorem iX3_source_142 : xl_Ca mX3_source 142 mX3_of 145 := ⟨116, zd zq_555 (by decide +kernel), rfl, lX3_116, Nat.le_of_ble_eq_true rfl, Nat.le_of_ble_eq_true rfl⟩
theorem iX3_source_145 : xl_D mX3_source 145 (.ireturn) 1 146 := ⟨zd zq_17 (by decide +kernel), rfl⟩
theorem iX3_source_146 : xl_D mX3_source 146 (.iload_n 3) 1 147 := ⟨zd zq_25 (by decide +kernel), rfl⟩
theorem iX3_source_147 : xl_J mX3_source 147 (fun o => .ifCond .ge o) 150 154 := ⟨7, zd zq_285 (by decide +kernel), rfl, rfl⟩
theorem iX3_source_150 : xl_D mX3_source 150 (.iconst (-1)) 1 151 := ⟨zd zq_104 (by decide +kernel), rfl⟩
theorem iX3_source_151 : xl_J mX3_source 151 (fun o => .goto o) 154 155 := ⟨4, zd zq_139 (by decide +kernel), rfl, rfl⟩
theorem iX3_source_154 : xl_D mX3_source 154 (.iload_n 3) 1 155 := ⟨zd zq_25 (by decide +kernel), rfl⟩
theorem iX3_source_155 : xl_D mX3_source 155 (.ireturn) 1 156 := ⟨zd zq_17 (by decide +kernel), rfl⟩
theorem iX3_session_0 : xl_D mX3_session 0 (.aload_n 0) 1 1 := ⟨zd zq_0 (by decide +kernel), rfl⟩
theorem iX3_session_1 : xl_D mX3_session 1 (.iload_n 1) 1 2 := ⟨zd zq_3 (by decide +kernel), rfl⟩
theorem iX3_session_2 : xl_D mX3_session 2 (.i2l) 1 3 := ⟨zd zq_266 (by decide +kernel), rfl⟩
theorem iX3_session_3 : xl_D mX3_session 3 (.lconst 0) 1 4 := ⟨zd zq_506 (by decide +kernel), rfl⟩
theorem iX3_session_4 : xl_D mX3_session 4 (.aload_n 0) 1 5 := ⟨zd zq_0 (by decide +kernel), rfl⟩
theorem iX3_session_5 : xl_D mX3_session 5 (.iconst 0) 1 6 := ⟨zd zq_2 (by decide +kernel), rfl⟩
theorem iX3_session_6 : xl_D mX3_session 6 (.iconst 5) 1 7 := ⟨zd zq_64 (by decide +kernel), rfl⟩
theorem iX3_session_7 : xl_Ca mX3_session 7 mX3_of 10 := ⟨116, zd zq_555 (by decide +kernel), rfl, lX3_116, Nat.le_of_ble_eq_true rfl, Nat.le_of_ble_eq_true rfl⟩
theorem iX3_session_10 : xl_D mX3_session 10 (.iconst 1) 1 11 := ⟨zd zq_36 (by decide +kernel), rfl⟩
theorem iX3_session_11 : xl_D mX3_session 11 (.isub) 1 12 := ⟨zd zq_39 (by decide +kernel), rfl⟩
theorem iX3_session_12 : xl_D mX3_session 12 (.i2l) 1 13 := ⟨zd zq_266 (by decide +kernel), rfl⟩
theorem iX3_session_13 : xl_Cs mX3_session 13 mX3_in 16 := ⟨21, zd zq_507 (by decide +kernel), rfl, lX3_21, Nat.le_of_ble_eq_true rfl, Nat.le_of_ble_eq_true rfl⟩
theorem iX3_session_16 : xl_J mX3_session 16 (fun o => .ifCond .eq o) 19 31 := ⟨15, zd zq_321 (by decide +kernel), rfl, rfl⟩
theorem iX3_session_19 : xl_D mX3_session 19 (.iload_n 2) 1 20 := ⟨zd zq_6 (by decide +kernel), rfl⟩
theorem iX3_session_20 : xl_D mX3_session 20 (.i2l) 1 21 := ⟨zd zq_266 (by decide +kernel), rfl⟩
theorem iX3_session_21 : xl_D mX3_session 21 (.lconst 0) 1 22 := ⟨zd zq_506 (by decide +kernel), rfl⟩
theorem iX3_session_22 : xl_D mX3_session 22 (.ldc2_w 268) 3 25 := ⟨zd zq_649 (by decide +kernel), rfl⟩
theorem iX3_session_25 : xl_Cs mX3_session 25 mX3_in 28 := ⟨21, zd zq_507 (by decide +kernel), rfl, lX3_21, Nat.le_of_ble_eq_true rfl, Nat.le_of_ble_eq_true rfl⟩
theorem iX3_session_28 : xl_J mX3_session 28 (fun o => .ifCond .ne o) 31 35 := ⟨7, zd zq_192 (by decide +kernel), rfl, rfl⟩
theorem iX3_session_31 : xl_D mX3_session 31 (.iconst 1) 1 32 := ⟨zd zq_36 (by decide +kernel), rfl⟩
theorem iX3_session_32 : xl_J mX3_session 32 (fun o => .goto o) 35 36 := ⟨4, zd zq_139 (by decide +kernel), rfl, rfl⟩
theorem iX3_session_35 : xl_D mX3_session 35 (.iconst 0) 1 36 := ⟨zd zq_2 (by decide +kernel), rfl⟩
theorem iX3_session_36 : xl_Cs mX3_session 36 mX3_flag 39 := ⟨194, zd zq_613 (by decide +kernel), rfl, lX3_194, Nat.le_of_ble_eq_true rfl, Nat.le_of_ble_eq_true rfl⟩
theorem iX3_session_39 : xl_P mX3_session 39 3 0 .int 42 := ⟨3, zd zq_502 (by decide +kernel), rfl, wX3_3⟩
theorem iX3_session_42 : xl_D mX3_session 42 (.aload_n 0) 1 43 := ⟨zd zq_0 (by decide +kernel), rfl⟩
theorem iX3_session_43 : xl_G mX3_session 43 3 0 46 := ⟨3, zd zq_647 (by decide +kernel), rfl, fX3_3⟩
theorem iX3_session_46 : xl_D mX3_session 46 (.iconst 1) 1 47 := ⟨zd zq_36 (by decide +kernel), rfl⟩
theorem iX3_session_47 : xl_J mX3_session 47 (fun o => .if_icmp .ne o) 50 52 := ⟨5, zd zq_648 (by decide +kernel), rfl, rfl⟩
theorem iX3_session_50 : xl_D mX3_session 50 (.iconst 0) 1 51 := ⟨zd zq_2 (by decide +kernel), rfl⟩
theorem iX3_session_51 : xl_D mX3_session 51 (.ireturn) 1 52 := ⟨zd zq_17 (by decide +kernel), rfl⟩
theorem iX3_session_52 : xl_D mX3_session 52 (.iload_n 2) 1 53 := ⟨zd zq_6 (by decide +kernel), rfl⟩
theorem iX3_session_53 : xl_D mX3_session 53 (.tableswitch 90 4 7 #[31, 43, 54, 70]) 31 84 := ⟨by decide +kernel, rfl⟩
theorem iX3_session_84 : xl_D mX3_session 84 (.sipush 20000) 3 87 := ⟨zd zq_299 (by decide +kernel), rfl⟩
theorem iX3_session_87 : xl_D mX3_session 87 (.aload_n 0) 1 88 := ⟨zd zq_0 (by decide +kernel), rfl⟩
theorem iX3_session_88 : xl_D mX3_session 88 (.iconst 0) 1 89 := ⟨zd zq_2 (by decide +kernel), rfl⟩
theorem iX3_session_89 : xl_D mX3_session 89 (.iload_n 1) 1 90 := ⟨zd zq_3 (by decide +kernel), rfl⟩
theorem iX3_session_90 : xl_D mX3_session 90 (.iconst 4) 1 91 := ⟨zd zq_63 (by decide +kernel), rfl⟩
theorem iX3_session_91 : xl_Ca mX3_session 91 mX3_ofSession 94 := ⟨136, zd zq_568 (by decide +kernel), rfl, lX3_136, Nat.le_of_ble_eq_true rfl, Nat.le_of_ble_eq_true rfl⟩
theorem iX3_session_94 : xl_D mX3_session 94 (.iadd) 1 95 := ⟨zd zq_19 (by decide +kernel), rfl⟩
theorem iX3_session_95 : xl_D mX3_session 95 (.ireturn) 1 96 := ⟨zd zq_17 (by decide +kernel), rfl⟩
theorem iX3_session_96 : xl_D mX3_session 96 (.bipush 99) 2 98 := ⟨zd zq_379 (by decide +kernel), rfl⟩
theorem iX3_session_98 : xl_D mX3_session 98 (.aload_n 0) 1 99 := ⟨zd zq_0 (by decide +kernel), rfl⟩
theorem iX3_session_99 : xl_D mX3_session 99 (.iconst 0) 1 100 := ⟨zd zq_2 (by decide +kernel), rfl⟩
theorem iX3_session_100 : xl_D mX3_session 100 (.iload_n 1) 1 101 := ⟨zd zq_3 (by decide +kernel), rfl⟩
theorem iX3_session_101 : xl_D mX3_session 101 (.iconst 5) 1 102 := ⟨zd zq_64 (by decide +kernel), rfl⟩
theorem iX3_session_102 : xl_Ca mX3_session 102 mX3_ofSession 105 := ⟨136, zd zq_568 (by decide +kernel), rfl, lX3_136, Nat.le_of_ble_eq_true rfl, Nat.le_of_ble_eq_true rfl⟩
theorem iX3_session_105 : xl_D mX3_session 105 (.iadd) 1 106 := ⟨zd zq_19 (by decide +kernel), rfl⟩
theorem iX3_session_106 : xl_D mX3_session 106 (.ireturn) 1 107 := ⟨zd zq_17 (by decide +kernel), rfl⟩
theorem iX3_session_107 : xl_D mX3_session 107 (.aload_n 0) 1 108 := ⟨zd zq_0 (by decide +kernel), rfl⟩
theorem iX3_session_108 : xl_D mX3_session 108 (.iconst 0) 1 109 := ⟨zd zq_2 (by decide +kernel), rfl⟩
theorem iX3_session_109 : xl_D mX3_session 109 (.iload_n 1) 1 110 := ⟨zd zq_3 (by decide +kernel), rfl⟩
theorem iX3_session_110 : xl_D mX3_session 110 (.aload_n 0) 1 111 := ⟨zd zq_0 (by decide +kernel), rfl⟩
theorem iX3_session_111 : xl_D mX3_session 111 (.iconst 0) 1 112 := ⟨zd zq_2 (by decide +kernel), rfl⟩
theorem iX3_session_112 : xl_D mX3_session 112 (.iconst 4) 1 113 := ⟨zd zq_63 (by decide +kernel), rfl⟩
theorem iX3_session_113 : xl_Ca mX3_session 113 mX3_of 116 := ⟨116, zd zq_555 (by decide +kernel), rfl, lX3_116, Nat.le_of_ble_eq_true rfl, Nat.le_of_ble_eq_true rfl⟩
theorem iX3_session_116 : xl_Ca mX3_session 116 mX3_isRipeBy 119 := ⟨143, zd zq_580 (by decide +kernel), rfl, lX3_143, Nat.le_of_ble_eq_true rfl, Nat.le_of_ble_eq_true rfl⟩
theorem iX3_session_119 : xl_Cs mX3_session 119 mX3_flag 122 := ⟨194, zd zq_613 (by decide +kernel), rfl, lX3_194, Nat.le_of_ble_eq_true rfl, Nat.le_of_ble_eq_true rfl⟩
theorem iX3_session_122 : xl_D mX3_session 122 (.ireturn) 1 123 := ⟨zd zq_17 (by decide +kernel), rfl⟩
theorem iX3_session_123 : xl_D mX3_session 123 (.aload_n 0) 1 124 := ⟨zd zq_0 (by decide +kernel), rfl⟩
theorem iX3_session_124 : xl_D mX3_session 124 (.iconst 0) 1 125 := ⟨zd zq_2 (by decide +kernel), rfl⟩
theorem iX3_session_125 : xl_D mX3_session 125 (.iload_n 1) 1 126 := ⟨zd zq_3 (by decide +kernel), rfl⟩
theorem iX3_session_126 : xl_D mX3_session 126 (.bipush 6) 2 128 := ⟨zd zq_71 (by decide +kernel), rfl⟩
theorem iX3_session_128 : xl_Ca mX3_session 128 mX3_ofSession 131 := ⟨136, zd zq_568 (by decide +kernel), rfl, lX3_136, Nat.le_of_ble_eq_true rfl, Nat.le_of_ble_eq_true rfl⟩
theorem iX3_session_131 : xl_J mX3_session 131 (fun o => .ifCond .le o) 134 138 := ⟨7, zd zq_274 (by decide +kernel), rfl, rfl⟩
theorem iX3_session_134 : xl_D mX3_session 134 (.iconst 1) 1 135 := ⟨zd zq_36 (by decide +kernel), rfl⟩
theorem iX3_session_135 : xl_J mX3_session 135 (fun o => .goto o) 138 139 := ⟨4, zd zq_139 (by decide +kernel), rfl, rfl⟩
theorem iX3_session_138 : xl_D mX3_session 138 (.iconst 0) 1 139 := ⟨zd zq_2 (by decide +kernel), rfl⟩
theorem iX3_session_139 : xl_Cs mX3_session 139 mX3_flag 142 := ⟨194, zd zq_613 (by decide +kernel), rfl, lX3_194, Nat.le_of_ble_eq_true rfl, Nat.le_of_ble_eq_true rfl⟩
theorem iX3_session_142 : xl_D mX3_session 142 (.ireturn) 1 143 := ⟨zd zq_17 (by decide +kernel), rfl⟩
theorem iX3_session_143 : xl_D mX3_session 143 (.aload_n 0) 1 144 := ⟨zd zq_0 (by decide +kernel), rfl⟩
theorem iX3_session_144 : xl_D mX3_session 144 (.iconst 0) 1 145 := ⟨zd zq_2 (by decide +kernel), rfl⟩
theorem iX3_session_145 : xl_D mX3_session 145 (.iload_n 1) 1 146 := ⟨zd zq_3 (by decide +kernel), rfl⟩
theorem iX3_session_146 : xl_D mX3_session 146 (.iload_n 2) 1 147 := ⟨zd zq_6 (by decide +kernel), rfl⟩
theorem iX3_session_147 : xl_Ca mX3_session 147 mX3_ofSession 150 := ⟨136, zd zq_568 (by decide +kernel), rfl, lX3_136, Nat.le_of_ble_eq_true rfl, Nat.le_of_ble_eq_true rfl⟩
theorem iX3_session_150 : xl_D mX3_session 150 (.ireturn) 1 151 := ⟨zd zq_17 (by decide +kernel), rfl⟩
theorem iX3_at_0 : xl_D mX3_at 0 (.aload_n 0) 1 1 := ⟨zd zq_0 (by decide +kernel), rfl⟩
theorem iX3_at_1 : xl_D mX3_at 1 (.iconst 0) 1 2 := ⟨zd zq_2 (by decide +kernel), rfl⟩
theorem iX3_at_2 : xl_P mX3_at 2 3 0 .int 5 := ⟨3, zd zq_502 (by decide +kernel), rfl, wX3_3⟩
theorem iX3_at_5 : xl_D mX3_at 5 (.iload_n 1) 1 6 := ⟨zd zq_3 (by decide +kernel), rfl⟩
theorem iX3_at_6 : xl_D mX3_at 6 (.i2l) 1 7 := ⟨zd zq_266 (by decide +kernel), rfl⟩
theorem iX3_at_7 : xl_D mX3_at 7 (.lconst 0) 1 8 := ⟨zd zq_506 (by decide +kernel), rfl⟩
theorem iX3_at_8 : xl_D mX3_at 8 (.ldc2_w 213) 3 11 := ⟨zd zq_623 (by decide +kernel), rfl⟩
theorem iX3_at_11 : xl_Cs mX3_at 11 mX3_in 14 := ⟨21, zd zq_507 (by decide +kernel), rfl, lX3_21, Nat.le_of_ble_eq_true rfl, Nat.le_of_ble_eq_true rfl⟩
theorem iX3_at_14 : xl_J mX3_at 14 (fun o => .ifCond .eq o) 17 29 := ⟨15, zd zq_321 (by decide +kernel), rfl, rfl⟩
theorem iX3_at_17 : xl_D mX3_at 17 (.iload_n 2) 1 18 := ⟨zd zq_6 (by decide +kernel), rfl⟩
theorem iX3_at_18 : xl_D mX3_at 18 (.i2l) 1 19 := ⟨zd zq_266 (by decide +kernel), rfl⟩
theorem iX3_at_19 : xl_D mX3_at 19 (.lconst 0) 1 20 := ⟨zd zq_506 (by decide +kernel), rfl⟩
theorem iX3_at_20 : xl_D mX3_at 20 (.ldc2_w 215) 3 23 := ⟨zd zq_625 (by decide +kernel), rfl⟩
theorem iX3_at_23 : xl_Cs mX3_at 23 mX3_in 26 := ⟨21, zd zq_507 (by decide +kernel), rfl, lX3_21, Nat.le_of_ble_eq_true rfl, Nat.le_of_ble_eq_true rfl⟩
theorem iX3_at_26 : xl_J mX3_at 26 (fun o => .ifCond .ne o) 29 31 := ⟨5, zd zq_246 (by decide +kernel), rfl, rfl⟩
theorem iX3_at_29 : xl_D mX3_at 29 (.iconst (-1)) 1 30 := ⟨zd zq_104 (by decide +kernel), rfl⟩
theorem iX3_at_30 : xl_D mX3_at 30 (.ireturn) 1 31 := ⟨zd zq_17 (by decide +kernel), rfl⟩
theorem iX3_at_31 : xl_D mX3_at 31 (.iconst (-1)) 1 32 := ⟨zd zq_104 (by decide +kernel), rfl⟩
theorem iX3_at_32 : xl_D mX3_at 32 (.istore_n 3) 1 33 := ⟨zd zq_131 (by decide +kernel), rfl⟩
theorem iX3_at_33 : xl_D mX3_at 33 (.iconst 0) 1 34 := ⟨zd zq_2 (by decide +kernel), rfl⟩
theorem iX3_at_34 : xl_D mX3_at 34 (.istore 4) 2 36 := ⟨zd zq_50 (by decide +kernel), rfl⟩
theorem iX3_at_36 : xl_D mX3_at 36 (.aload_n 0) 1 37 := ⟨zd zq_0 (by decide +kernel), rfl⟩
theorem iX3_at_37 : xl_D mX3_at 37 (.iconst 0) 1 38 := ⟨zd zq_2 (by decide +kernel), rfl⟩
theorem iX3_at_38 : xl_D mX3_at 38 (.iconst 5) 1 39 := ⟨zd zq_64 (by decide +kernel), rfl⟩
theorem iX3_at_39 : xl_Ca mX3_at 39 mX3_of 42 := ⟨116, zd zq_555 (by decide +kernel), rfl, lX3_116, Nat.le_of_ble_eq_true rfl, Nat.le_of_ble_eq_true rfl⟩
theorem iX3_at_42 : xl_D mX3_at 42 (.iconst 1) 1 43 := ⟨zd zq_36 (by decide +kernel), rfl⟩
theorem iX3_at_43 : xl_D mX3_at 43 (.isub) 1 44 := ⟨zd zq_39 (by decide +kernel), rfl⟩
theorem iX3_at_44 : xl_D mX3_at 44 (.istore 5) 2 46 := ⟨zd zq_91 (by decide +kernel), rfl⟩
theorem iX3_at_46 : xl_D mX3_at 46 (.iload 5) 2 48 := ⟨zd zq_92 (by decide +kernel), rfl⟩
theorem iX3_at_48 : xl_J mX3_at 48 (fun o => .ifCond .lt o) 51 75 := ⟨27, zd zq_286 (by decide +kernel), rfl, rfl⟩
theorem iX3_at_51 : xl_D mX3_at 51 (.aload_n 0) 1 52 := ⟨zd zq_0 (by decide +kernel), rfl⟩
theorem iX3_at_52 : xl_D mX3_at 52 (.iconst 0) 1 53 := ⟨zd zq_2 (by decide +kernel), rfl⟩
theorem iX3_at_53 : xl_D mX3_at 53 (.iload 5) 2 55 := ⟨zd zq_92 (by decide +kernel), rfl⟩
theorem iX3_at_55 : xl_D mX3_at 55 (.iload_n 1) 1 56 := ⟨zd zq_3 (by decide +kernel), rfl⟩
theorem iX3_at_56 : xl_D mX3_at 56 (.iload_n 2) 1 57 := ⟨zd zq_6 (by decide +kernel), rfl⟩
theorem iX3_at_57 : xl_Ca mX3_at 57 mX3_melts 60 := ⟨187, zd zq_606 (by decide +kernel), rfl, lX3_187, Nat.le_of_ble_eq_true rfl, Nat.le_of_ble_eq_true rfl⟩
theorem iX3_at_60 : xl_J mX3_at 60 (fun o => .ifCond .eq o) 63 69 := ⟨9, zd zq_203 (by decide +kernel), rfl, rfl⟩
theorem iX3_at_63 : xl_D mX3_at 63 (.iload 5) 2 65 := ⟨zd zq_92 (by decide +kernel), rfl⟩
theorem iX3_at_65 : xl_D mX3_at 65 (.istore_n 3) 1 66 := ⟨zd zq_131 (by decide +kernel), rfl⟩
theorem iX3_at_66 : xl_D mX3_at 66 (.iinc 4 1) 3 69 := ⟨zd zq_54 (by decide +kernel), rfl⟩
theorem iX3_at_69 : xl_D mX3_at 69 (.iinc 5 (-1)) 3 72 := ⟨zd zq_382 (by decide +kernel), rfl⟩
theorem iX3_at_72 : xl_J mX3_at 72 (fun o => .goto o) 75 46 := ⟨-26, zd zq_55 (by decide +kernel), rfl, rfl⟩
theorem iX3_at_75 : xl_D mX3_at 75 (.iload 4) 2 77 := ⟨zd zq_51 (by decide +kernel), rfl⟩
theorem iX3_at_77 : xl_J mX3_at 77 (fun o => .ifCond .ne o) 80 83 := ⟨6, zd zq_210 (by decide +kernel), rfl, rfl⟩
theorem iX3_at_80 : xl_D mX3_at 80 (.bipush (-2)) 2 82 := ⟨zd zq_256 (by decide +kernel), rfl⟩
theorem iX3_at_82 : xl_D mX3_at 82 (.ireturn) 1 83 := ⟨zd zq_17 (by decide +kernel), rfl⟩
theorem iX3_at_83 : xl_D mX3_at 83 (.aload_n 0) 1 84 := ⟨zd zq_0 (by decide +kernel), rfl⟩
theorem iX3_at_84 : xl_D mX3_at 84 (.iconst 0) 1 85 := ⟨zd zq_2 (by decide +kernel), rfl⟩
theorem iX3_at_85 : xl_P mX3_at 85 3 1 .int 88 := ⟨11, zd zq_501 (by decide +kernel), rfl, wX3_11⟩
theorem iX3_at_88 : xl_D mX3_at 88 (.aload_n 0) 1 89 := ⟨zd zq_0 (by decide +kernel), rfl⟩
theorem iX3_at_89 : xl_D mX3_at 89 (.iload 4) 2 91 := ⟨zd zq_51 (by decide +kernel), rfl⟩
theorem iX3_at_91 : xl_D mX3_at 91 (.i2l) 1 92 := ⟨zd zq_266 (by decide +kernel), rfl⟩
theorem iX3_at_92 : xl_Ca mX3_at 92 mX3_enters 95 := ⟨226, zd zq_357 (by decide +kernel), rfl, lX3_226, Nat.le_of_ble_eq_true rfl, Nat.le_of_ble_eq_true rfl⟩
theorem iX3_at_95 : xl_D mX3_at 95 (.iload_n 3) 1 96 := ⟨zd zq_25 (by decide +kernel), rfl⟩
theorem iX3_at_96 : xl_D mX3_at 96 (.ireturn) 1 97 := ⟨zd zq_17 (by decide +kernel), rfl⟩
theorem iX3_message_0 : xl_D mX3_message 0 (.aload_n 0) 1 1 := ⟨zd zq_0 (by decide +kernel), rfl⟩
theorem iX3_message_1 : xl_D mX3_message 1 (.iconst 0) 1 2 := ⟨zd zq_2 (by decide +kernel), rfl⟩
theorem iX3_message_2 : xl_D mX3_message 2 (.bipush 7) 2 4 := ⟨zd zq_68 (by decide +kernel), rfl⟩
theorem iX3_message_4 : xl_Ca mX3_message 4 mX3_of 7 := ⟨116, zd zq_555 (by decide +kernel), rfl, lX3_116, Nat.le_of_ble_eq_true rfl, Nat.le_of_ble_eq_true rfl⟩
theorem iX3_message_7 : xl_D mX3_message 7 (.istore_n 3) 1 8 := ⟨zd zq_131 (by decide +kernel), rfl⟩
theorem iX3_message_8 : xl_D mX3_message 8 (.aload_n 0) 1 9 := ⟨zd zq_0 (by decide +kernel), rfl⟩
theorem iX3_message_9 : xl_D mX3_message 9 (.iload_n 1) 1 10 := ⟨zd zq_3 (by decide +kernel), rfl⟩
theorem iX3_message_10 : xl_D mX3_message 10 (.i2l) 1 11 := ⟨zd zq_266 (by decide +kernel), rfl⟩
theorem iX3_message_11 : xl_D mX3_message 11 (.iconst 0) 1 12 := ⟨zd zq_2 (by decide +kernel), rfl⟩
theorem iX3_message_12 : xl_D mX3_message 12 (.iload_n 3) 1 13 := ⟨zd zq_25 (by decide +kernel), rfl⟩
theorem iX3_message_13 : xl_D mX3_message 13 (.bipush 60) 2 15 := ⟨zd zq_70 (by decide +kernel), rfl⟩
theorem iX3_message_15 : xl_D mX3_message 15 (.isub) 1 16 := ⟨zd zq_39 (by decide +kernel), rfl⟩
theorem iX3_message_16 : xl_Cm mX3_message 16 Lib.Math.max.name Lib.Math.max.code 19 := ⟨176, zd zq_601 (by decide +kernel), rfl, lX3_176, xl_stmax, xl_iMath, xl_comax, Nat.le_of_ble_eq_true rfl, Nat.le_of_ble_eq_true rfl⟩
theorem iX3_message_19 : xl_D mX3_message 19 (.i2l) 1 20 := ⟨zd zq_266 (by decide +kernel), rfl⟩
theorem iX3_message_20 : xl_D mX3_message 20 (.iload_n 3) 1 21 := ⟨zd zq_25 (by decide +kernel), rfl⟩
theorem iX3_message_21 : xl_D mX3_message 21 (.iconst 1) 1 22 := ⟨zd zq_36 (by decide +kernel), rfl⟩
theorem iX3_message_22 : xl_D mX3_message 22 (.isub) 1 23 := ⟨zd zq_39 (by decide +kernel), rfl⟩
theorem iX3_message_23 : xl_D mX3_message 23 (.i2l) 1 24 := ⟨zd zq_266 (by decide +kernel), rfl⟩
theorem iX3_message_24 : xl_Cs mX3_message 24 mX3_in 27 := ⟨21, zd zq_507 (by decide +kernel), rfl, lX3_21, Nat.le_of_ble_eq_true rfl, Nat.le_of_ble_eq_true rfl⟩
theorem iX3_message_27 : xl_J mX3_message 27 (fun o => .ifCond .eq o) 30 42 := ⟨15, zd zq_321 (by decide +kernel), rfl, rfl⟩
theorem iX3_message_30 : xl_D mX3_message 30 (.iload_n 2) 1 31 := ⟨zd zq_6 (by decide +kernel), rfl⟩
theorem iX3_message_31 : xl_D mX3_message 31 (.i2l) 1 32 := ⟨zd zq_266 (by decide +kernel), rfl⟩
theorem iX3_message_32 : xl_D mX3_message 32 (.lconst 0) 1 33 := ⟨zd zq_506 (by decide +kernel), rfl⟩
theorem iX3_message_33 : xl_D mX3_message 33 (.ldc2_w 213) 3 36 := ⟨zd zq_623 (by decide +kernel), rfl⟩
theorem iX3_message_36 : xl_Cs mX3_message 36 mX3_in 39 := ⟨21, zd zq_507 (by decide +kernel), rfl, lX3_21, Nat.le_of_ble_eq_true rfl, Nat.le_of_ble_eq_true rfl⟩
theorem iX3_message_39 : xl_J mX3_message 39 (fun o => .ifCond .ne o) 42 46 := ⟨7, zd zq_192 (by decide +kernel), rfl, rfl⟩
theorem iX3_message_42 : xl_D mX3_message 42 (.iconst 1) 1 43 := ⟨zd zq_36 (by decide +kernel), rfl⟩
theorem iX3_message_43 : xl_J mX3_message 43 (fun o => .goto o) 46 47 := ⟨4, zd zq_139 (by decide +kernel), rfl, rfl⟩
theorem iX3_message_46 : xl_D mX3_message 46 (.iconst 0) 1 47 := ⟨zd zq_2 (by decide +kernel), rfl⟩
theorem iX3_message_47 : xl_Cs mX3_message 47 mX3_flag 50 := ⟨194, zd zq_613 (by decide +kernel), rfl, lX3_194, Nat.le_of_ble_eq_true rfl, Nat.le_of_ble_eq_true rfl⟩
theorem iX3_message_50 : xl_P mX3_message 50 3 0 .int 53 := ⟨3, zd zq_502 (by decide +kernel), rfl, wX3_3⟩
theorem iX3_message_53 : xl_D mX3_message 53 (.aload_n 0) 1 54 := ⟨zd zq_0 (by decide +kernel), rfl⟩
theorem iX3_message_54 : xl_G mX3_message 54 3 0 57 := ⟨3, zd zq_647 (by decide +kernel), rfl, fX3_3⟩
theorem iX3_message_57 : xl_D mX3_message 57 (.iconst 1) 1 58 := ⟨zd zq_36 (by decide +kernel), rfl⟩
theorem iX3_message_58 : xl_J mX3_message 58 (fun o => .if_icmp .ne o) 61 63 := ⟨5, zd zq_648 (by decide +kernel), rfl, rfl⟩
theorem iX3_message_61 : xl_D mX3_message 61 (.iconst 0) 1 62 := ⟨zd zq_2 (by decide +kernel), rfl⟩
theorem iX3_message_62 : xl_D mX3_message 62 (.ireturn) 1 63 := ⟨zd zq_17 (by decide +kernel), rfl⟩
theorem iX3_message_63 : xl_D mX3_message 63 (.aload_n 0) 1 64 := ⟨zd zq_0 (by decide +kernel), rfl⟩
theorem iX3_message_64 : xl_G mX3_message 64 3 7 67 := ⟨53, zd zq_537 (by decide +kernel), rfl, fX3_53⟩
theorem iX3_message_67 : xl_D mX3_message 67 (.sipush 1484) 3 70 := ⟨zd zq_571 (by decide +kernel), rfl⟩
theorem iX3_message_70 : xl_D mX3_message 70 (.bipush 6) 2 72 := ⟨zd zq_71 (by decide +kernel), rfl⟩
theorem iX3_message_72 : xl_D mX3_message 72 (.iload_n 1) 1 73 := ⟨zd zq_3 (by decide +kernel), rfl⟩
theorem iX3_message_73 : xl_D mX3_message 73 (.bipush 60) 2 75 := ⟨zd zq_70 (by decide +kernel), rfl⟩
theorem iX3_message_75 : xl_D mX3_message 75 (.irem) 1 76 := ⟨zd zq_191 (by decide +kernel), rfl⟩
theorem iX3_message_76 : xl_D mX3_message 76 (.imul) 1 77 := ⟨zd zq_10 (by decide +kernel), rfl⟩
theorem iX3_message_77 : xl_D mX3_message 77 (.iadd) 1 78 := ⟨zd zq_19 (by decide +kernel), rfl⟩
theorem iX3_message_78 : xl_D mX3_message 78 (.iload_n 2) 1 79 := ⟨zd zq_6 (by decide +kernel), rfl⟩
theorem iX3_message_79 : xl_D mX3_message 79 (.iadd) 1 80 := ⟨zd zq_19 (by decide +kernel), rfl⟩
theorem iX3_message_80 : xl_D mX3_message 80 (.iaload) 1 81 := ⟨zd zq_20 (by decide +kernel), rfl⟩
theorem iX3_message_81 : xl_D mX3_message 81 (.istore 4) 2 83 := ⟨zd zq_50 (by decide +kernel), rfl⟩
theorem iX3_message_83 : xl_D mX3_message 83 (.iload_n 2) 1 84 := ⟨zd zq_6 (by decide +kernel), rfl⟩
theorem iX3_message_84 : xl_D mX3_message 84 (.iconst 5) 1 85 := ⟨zd zq_64 (by decide +kernel), rfl⟩
theorem iX3_message_85 : xl_J mX3_message 85 (fun o => .if_icmp .ne o) 88 97 := ⟨12, zd zq_298 (by decide +kernel), rfl, rfl⟩
theorem iX3_message_88 : xl_D mX3_message 88 (.sipush 20000) 3 91 := ⟨zd zq_299 (by decide +kernel), rfl⟩
theorem iX3_message_91 : xl_D mX3_message 91 (.iload 4) 2 93 := ⟨zd zq_51 (by decide +kernel), rfl⟩
theorem iX3_message_93 : xl_D mX3_message 93 (.iadd) 1 94 := ⟨zd zq_19 (by decide +kernel), rfl⟩
theorem iX3_message_94 : xl_J mX3_message 94 (fun o => .goto o) 97 99 := ⟨5, zd zq_300 (by decide +kernel), rfl, rfl⟩
theorem iX3_message_97 : xl_D mX3_message 97 (.iload 4) 2 99 := ⟨zd zq_51 (by decide +kernel), rfl⟩
theorem iX3_message_99 : xl_D mX3_message 99 (.ireturn) 1 100 := ⟨zd zq_17 (by decide +kernel), rfl⟩
theorem iX3_sent_0 : xl_D mX3_sent 0 (.aload_n 0) 1 1 := ⟨zd zq_0 (by decide +kernel), rfl⟩
theorem iX3_sent_1 : xl_D mX3_sent 1 (.iconst 0) 1 2 := ⟨zd zq_2 (by decide +kernel), rfl⟩
theorem iX3_sent_2 : xl_P mX3_sent 2 3 0 .int 5 := ⟨3, zd zq_502 (by decide +kernel), rfl, wX3_3⟩
theorem iX3_sent_5 : xl_D mX3_sent 5 (.iload_n 1) 1 6 := ⟨zd zq_3 (by decide +kernel), rfl⟩
theorem iX3_sent_6 : xl_D mX3_sent 6 (.i2l) 1 7 := ⟨zd zq_266 (by decide +kernel), rfl⟩
theorem iX3_sent_7 : xl_D mX3_sent 7 (.lconst 0) 1 8 := ⟨zd zq_506 (by decide +kernel), rfl⟩
theorem iX3_sent_8 : xl_D mX3_sent 8 (.ldc2_w 270) 3 11 := ⟨zd zq_650 (by decide +kernel), rfl⟩
theorem iX3_sent_11 : xl_Cs mX3_sent 11 mX3_in 14 := ⟨21, zd zq_507 (by decide +kernel), rfl, lX3_21, Nat.le_of_ble_eq_true rfl, Nat.le_of_ble_eq_true rfl⟩
theorem iX3_sent_14 : xl_J mX3_sent 14 (fun o => .ifCond .ne o) 17 19 := ⟨5, zd zq_246 (by decide +kernel), rfl, rfl⟩
theorem iX3_sent_17 : xl_D mX3_sent 17 (.iconst (-1)) 1 18 := ⟨zd zq_104 (by decide +kernel), rfl⟩
theorem iX3_sent_18 : xl_D mX3_sent 18 (.ireturn) 1 19 := ⟨zd zq_17 (by decide +kernel), rfl⟩
theorem iX3_sent_19 : xl_D mX3_sent 19 (.aload_n 0) 1 20 := ⟨zd zq_0 (by decide +kernel), rfl⟩
theorem iX3_sent_20 : xl_D mX3_sent 20 (.iconst 0) 1 21 := ⟨zd zq_2 (by decide +kernel), rfl⟩
theorem iX3_sent_21 : xl_P mX3_sent 21 3 1 .int 24 := ⟨11, zd zq_501 (by decide +kernel), rfl, wX3_11⟩
theorem iX3_sent_24 : xl_D mX3_sent 24 (.aload_n 0) 1 25 := ⟨zd zq_0 (by decide +kernel), rfl⟩
theorem iX3_sent_25 : xl_D mX3_sent 25 (.aload_n 0) 1 26 := ⟨zd zq_0 (by decide +kernel), rfl⟩
theorem iX3_sent_26 : xl_D mX3_sent 26 (.iconst 0) 1 27 := ⟨zd zq_2 (by decide +kernel), rfl⟩
theorem iX3_sent_27 : xl_D mX3_sent 27 (.bipush 7) 2 29 := ⟨zd zq_68 (by decide +kernel), rfl⟩
theorem iX3_sent_29 : xl_Ca mX3_sent 29 mX3_of 32 := ⟨116, zd zq_555 (by decide +kernel), rfl, lX3_116, Nat.le_of_ble_eq_true rfl, Nat.le_of_ble_eq_true rfl⟩
theorem iX3_sent_32 : xl_D mX3_sent 32 (.i2l) 1 33 := ⟨zd zq_266 (by decide +kernel), rfl⟩
theorem iX3_sent_33 : xl_Ca mX3_sent 33 mX3_enters 36 := ⟨226, zd zq_357 (by decide +kernel), rfl, lX3_226, Nat.le_of_ble_eq_true rfl, Nat.le_of_ble_eq_true rfl⟩
theorem iX3_sent_36 : xl_D mX3_sent 36 (.aload_n 0) 1 37 := ⟨zd zq_0 (by decide +kernel), rfl⟩
theorem iX3_sent_37 : xl_D mX3_sent 37 (.iconst 0) 1 38 := ⟨zd zq_2 (by decide +kernel), rfl⟩
theorem iX3_sent_38 : xl_D mX3_sent 38 (.bipush 32) 2 40 := ⟨zd zq_573 (by decide +kernel), rfl⟩
theorem iX3_sent_40 : xl_D mX3_sent 40 (.iload_n 1) 1 41 := ⟨zd zq_3 (by decide +kernel), rfl⟩
theorem iX3_sent_41 : xl_D mX3_sent 41 (.iadd) 1 42 := ⟨zd zq_19 (by decide +kernel), rfl⟩
theorem iX3_sent_42 : xl_Ca mX3_sent 42 mX3_of 45 := ⟨116, zd zq_555 (by decide +kernel), rfl, lX3_116, Nat.le_of_ble_eq_true rfl, Nat.le_of_ble_eq_true rfl⟩
theorem iX3_sent_45 : xl_D mX3_sent 45 (.ireturn) 1 46 := ⟨zd zq_17 (by decide +kernel), rfl⟩
theorem iX3_stands_0 : xl_D mX3_stands 0 (.aload_n 0) 1 1 := ⟨zd zq_0 (by decide +kernel), rfl⟩
theorem iX3_stands_1 : xl_D mX3_stands 1 (.iconst 0) 1 2 := ⟨zd zq_2 (by decide +kernel), rfl⟩
theorem iX3_stands_2 : xl_P mX3_stands 2 3 0 .int 5 := ⟨3, zd zq_502 (by decide +kernel), rfl, wX3_3⟩
theorem iX3_stands_5 : xl_D mX3_stands 5 (.iconst 0) 1 6 := ⟨zd zq_2 (by decide +kernel), rfl⟩
theorem iX3_stands_6 : xl_D mX3_stands 6 (.istore_n 1) 1 7 := ⟨zd zq_194 (by decide +kernel), rfl⟩
theorem iX3_stands_7 : xl_D mX3_stands 7 (.iconst 0) 1 8 := ⟨zd zq_2 (by decide +kernel), rfl⟩
theorem iX3_stands_8 : xl_D mX3_stands 8 (.istore_n 2) 1 9 := ⟨zd zq_41 (by decide +kernel), rfl⟩
theorem iX3_stands_9 : xl_D mX3_stands 9 (.iconst 0) 1 10 := ⟨zd zq_2 (by decide +kernel), rfl⟩
theorem iX3_stands_10 : xl_D mX3_stands 10 (.istore_n 3) 1 11 := ⟨zd zq_131 (by decide +kernel), rfl⟩
theorem iX3_stands_11 : xl_D mX3_stands 11 (.iconst 0) 1 12 := ⟨zd zq_2 (by decide +kernel), rfl⟩
theorem iX3_stands_12 : xl_D mX3_stands 12 (.istore 4) 2 14 := ⟨zd zq_50 (by decide +kernel), rfl⟩
theorem iX3_stands_14 : xl_D mX3_stands 14 (.iload 4) 2 16 := ⟨zd zq_51 (by decide +kernel), rfl⟩
theorem iX3_stands_16 : xl_D mX3_stands 16 (.bipush 6) 2 18 := ⟨zd zq_71 (by decide +kernel), rfl⟩
theorem iX3_stands_18 : xl_J mX3_stands 18 (fun o => .if_icmp .ge o) 21 66 := ⟨48, zd zq_374 (by decide +kernel), rfl, rfl⟩
theorem iX3_stands_21 : xl_D mX3_stands 21 (.iload_n 1) 1 22 := ⟨zd zq_3 (by decide +kernel), rfl⟩
theorem iX3_stands_22 : xl_D mX3_stands 22 (.aload_n 0) 1 23 := ⟨zd zq_0 (by decide +kernel), rfl⟩
theorem iX3_stands_23 : xl_D mX3_stands 23 (.iconst 0) 1 24 := ⟨zd zq_2 (by decide +kernel), rfl⟩
theorem iX3_stands_24 : xl_D mX3_stands 24 (.bipush 36) 2 26 := ⟨zd zq_599 (by decide +kernel), rfl⟩
theorem iX3_stands_26 : xl_D mX3_stands 26 (.iload 4) 2 28 := ⟨zd zq_51 (by decide +kernel), rfl⟩
theorem iX3_stands_28 : xl_D mX3_stands 28 (.iadd) 1 29 := ⟨zd zq_19 (by decide +kernel), rfl⟩
theorem iX3_stands_29 : xl_Ca mX3_stands 29 mX3_of 32 := ⟨116, zd zq_555 (by decide +kernel), rfl, lX3_116, Nat.le_of_ble_eq_true rfl, Nat.le_of_ble_eq_true rfl⟩
theorem iX3_stands_32 : xl_D mX3_stands 32 (.iadd) 1 33 := ⟨zd zq_19 (by decide +kernel), rfl⟩
theorem iX3_stands_33 : xl_D mX3_stands 33 (.istore_n 1) 1 34 := ⟨zd zq_194 (by decide +kernel), rfl⟩
theorem iX3_stands_34 : xl_D mX3_stands 34 (.iload_n 2) 1 35 := ⟨zd zq_6 (by decide +kernel), rfl⟩
theorem iX3_stands_35 : xl_D mX3_stands 35 (.aload_n 0) 1 36 := ⟨zd zq_0 (by decide +kernel), rfl⟩
theorem iX3_stands_36 : xl_D mX3_stands 36 (.iconst 0) 1 37 := ⟨zd zq_2 (by decide +kernel), rfl⟩
theorem iX3_stands_37 : xl_D mX3_stands 37 (.bipush 42) 2 39 := ⟨zd zq_600 (by decide +kernel), rfl⟩
theorem iX3_stands_39 : xl_D mX3_stands 39 (.iload 4) 2 41 := ⟨zd zq_51 (by decide +kernel), rfl⟩
theorem iX3_stands_41 : xl_D mX3_stands 41 (.iadd) 1 42 := ⟨zd zq_19 (by decide +kernel), rfl⟩
theorem iX3_stands_42 : xl_Ca mX3_stands 42 mX3_of 45 := ⟨116, zd zq_555 (by decide +kernel), rfl, lX3_116, Nat.le_of_ble_eq_true rfl, Nat.le_of_ble_eq_true rfl⟩
theorem iX3_stands_45 : xl_D mX3_stands 45 (.iadd) 1 46 := ⟨zd zq_19 (by decide +kernel), rfl⟩
theorem iX3_stands_46 : xl_D mX3_stands 46 (.istore_n 2) 1 47 := ⟨zd zq_41 (by decide +kernel), rfl⟩
theorem iX3_stands_47 : xl_D mX3_stands 47 (.iload_n 3) 1 48 := ⟨zd zq_25 (by decide +kernel), rfl⟩
theorem iX3_stands_48 : xl_D mX3_stands 48 (.aload_n 0) 1 49 := ⟨zd zq_0 (by decide +kernel), rfl⟩
theorem iX3_stands_49 : xl_D mX3_stands 49 (.iconst 0) 1 50 := ⟨zd zq_2 (by decide +kernel), rfl⟩
theorem iX3_stands_50 : xl_D mX3_stands 50 (.bipush 48) 2 52 := ⟨zd zq_443 (by decide +kernel), rfl⟩
theorem iX3_stands_52 : xl_D mX3_stands 52 (.iload 4) 2 54 := ⟨zd zq_51 (by decide +kernel), rfl⟩
theorem iX3_stands_54 : xl_D mX3_stands 54 (.iadd) 1 55 := ⟨zd zq_19 (by decide +kernel), rfl⟩
theorem iX3_stands_55 : xl_Ca mX3_stands 55 mX3_of 58 := ⟨116, zd zq_555 (by decide +kernel), rfl, lX3_116, Nat.le_of_ble_eq_true rfl, Nat.le_of_ble_eq_true rfl⟩
theorem iX3_stands_58 : xl_D mX3_stands 58 (.iadd) 1 59 := ⟨zd zq_19 (by decide +kernel), rfl⟩
theorem iX3_stands_59 : xl_D mX3_stands 59 (.istore_n 3) 1 60 := ⟨zd zq_131 (by decide +kernel), rfl⟩
theorem iX3_stands_60 : xl_D mX3_stands 60 (.iinc 4 1) 3 63 := ⟨zd zq_54 (by decide +kernel), rfl⟩
theorem iX3_stands_63 : xl_J mX3_stands 63 (fun o => .goto o) 66 14 := ⟨-49, zd zq_651 (by decide +kernel), rfl, rfl⟩
theorem iX3_stands_66 : xl_D mX3_stands 66 (.iconst 0) 1 67 := ⟨zd zq_2 (by decide +kernel), rfl⟩
theorem iX3_stands_67 : xl_D mX3_stands 67 (.istore 4) 2 69 := ⟨zd zq_50 (by decide +kernel), rfl⟩
theorem iX3_stands_69 : xl_D mX3_stands 69 (.iload 4) 2 71 := ⟨zd zq_51 (by decide +kernel), rfl⟩
theorem iX3_stands_71 : xl_D mX3_stands 71 (.aload_n 0) 1 72 := ⟨zd zq_0 (by decide +kernel), rfl⟩
theorem iX3_stands_72 : xl_D mX3_stands 72 (.iconst 0) 1 73 := ⟨zd zq_2 (by decide +kernel), rfl⟩
theorem iX3_stands_73 : xl_D mX3_stands 73 (.iconst 5) 1 74 := ⟨zd zq_64 (by decide +kernel), rfl⟩
theorem iX3_stands_74 : xl_Ca mX3_stands 74 mX3_of 77 := ⟨116, zd zq_555 (by decide +kernel), rfl, lX3_116, Nat.le_of_ble_eq_true rfl, Nat.le_of_ble_eq_true rfl⟩
theorem iX3_stands_77 : xl_J mX3_stands 77 (fun o => .if_icmp .ge o) 80 123 := ⟨46, zd zq_652 (by decide +kernel), rfl, rfl⟩
theorem iX3_stands_80 : xl_D mX3_stands 80 (.aload_n 0) 1 81 := ⟨zd zq_0 (by decide +kernel), rfl⟩
theorem iX3_stands_81 : xl_D mX3_stands 81 (.iconst 0) 1 82 := ⟨zd zq_2 (by decide +kernel), rfl⟩
theorem iX3_stands_82 : xl_D mX3_stands 82 (.iload 4) 2 84 := ⟨zd zq_51 (by decide +kernel), rfl⟩
theorem iX3_stands_84 : xl_D mX3_stands 84 (.bipush 6) 2 86 := ⟨zd zq_71 (by decide +kernel), rfl⟩
theorem iX3_stands_86 : xl_Ca mX3_stands 86 mX3_ofSession 89 := ⟨136, zd zq_568 (by decide +kernel), rfl, lX3_136, Nat.le_of_ble_eq_true rfl, Nat.le_of_ble_eq_true rfl⟩
theorem iX3_stands_89 : xl_J mX3_stands 89 (fun o => .ifCond .le o) 92 117 := ⟨28, zd zq_653 (by decide +kernel), rfl, rfl⟩
theorem iX3_stands_92 : xl_D mX3_stands 92 (.iinc 1 1) 3 95 := ⟨zd zq_227 (by decide +kernel), rfl⟩
theorem iX3_stands_95 : xl_D mX3_stands 95 (.iload_n 2) 1 96 := ⟨zd zq_6 (by decide +kernel), rfl⟩
theorem iX3_stands_96 : xl_D mX3_stands 96 (.aload_n 0) 1 97 := ⟨zd zq_0 (by decide +kernel), rfl⟩
theorem iX3_stands_97 : xl_D mX3_stands 97 (.iconst 0) 1 98 := ⟨zd zq_2 (by decide +kernel), rfl⟩
theorem iX3_stands_98 : xl_D mX3_stands 98 (.iload 4) 2 100 := ⟨zd zq_51 (by decide +kernel), rfl⟩
theorem iX3_stands_100 : xl_D mX3_stands 100 (.iconst 3) 1 101 := ⟨zd zq_123 (by decide +kernel), rfl⟩
theorem iX3_stands_101 : xl_Ca mX3_stands 101 mX3_ofSession 104 := ⟨136, zd zq_568 (by decide +kernel), rfl, lX3_136, Nat.le_of_ble_eq_true rfl, Nat.le_of_ble_eq_true rfl⟩
theorem iX3_stands_104 : xl_D mX3_stands 104 (.iadd) 1 105 := ⟨zd zq_19 (by decide +kernel), rfl⟩
theorem iX3_stands_105 : xl_D mX3_stands 105 (.istore_n 2) 1 106 := ⟨zd zq_41 (by decide +kernel), rfl⟩
theorem iX3_stands_106 : xl_D mX3_stands 106 (.iload_n 3) 1 107 := ⟨zd zq_25 (by decide +kernel), rfl⟩
theorem iX3_stands_107 : xl_D mX3_stands 107 (.aload_n 0) 1 108 := ⟨zd zq_0 (by decide +kernel), rfl⟩
theorem iX3_stands_108 : xl_D mX3_stands 108 (.iconst 0) 1 109 := ⟨zd zq_2 (by decide +kernel), rfl⟩
theorem iX3_stands_109 : xl_D mX3_stands 109 (.iload 4) 2 111 := ⟨zd zq_51 (by decide +kernel), rfl⟩
theorem iX3_stands_111 : xl_D mX3_stands 111 (.iconst 4) 1 112 := ⟨zd zq_63 (by decide +kernel), rfl⟩
theorem iX3_stands_112 : xl_Ca mX3_stands 112 mX3_ofSession 115 := ⟨136, zd zq_568 (by decide +kernel), rfl, lX3_136, Nat.le_of_ble_eq_true rfl, Nat.le_of_ble_eq_true rfl⟩
theorem iX3_stands_115 : xl_D mX3_stands 115 (.iadd) 1 116 := ⟨zd zq_19 (by decide +kernel), rfl⟩
theorem iX3_stands_116 : xl_D mX3_stands 116 (.istore_n 3) 1 117 := ⟨zd zq_131 (by decide +kernel), rfl⟩
theorem iX3_stands_117 : xl_D mX3_stands 117 (.iinc 4 1) 3 120 := ⟨zd zq_54 (by decide +kernel), rfl⟩
theorem iX3_stands_120 : xl_J mX3_stands 120 (fun o => .goto o) 123 69 := ⟨-51, zd zq_516 (by decide +kernel), rfl, rfl⟩
theorem iX3_stands_123 : xl_D mX3_stands 123 (.aload_n 0) 1 124 := ⟨zd zq_0 (by decide +kernel), rfl⟩
theorem iX3_stands_124 : xl_D mX3_stands 124 (.iconst 0) 1 125 := ⟨zd zq_2 (by decide +kernel), rfl⟩
theorem iX3_stands_125 : xl_P mX3_stands 125 3 1 .int 128 := ⟨11, zd zq_501 (by decide +kernel), rfl, wX3_11⟩
theorem iX3_stands_128 : xl_D mX3_stands 128 (.aload_n 0) 1 129 := ⟨zd zq_0 (by decide +kernel), rfl⟩
theorem iX3_stands_129 : xl_D mX3_stands 129 (.iload_n 2) 1 130 := ⟨zd zq_6 (by decide +kernel), rfl⟩
theorem iX3_stands_130 : xl_D mX3_stands 130 (.i2l) 1 131 := ⟨zd zq_266 (by decide +kernel), rfl⟩
theorem iX3_stands_131 : xl_Ca mX3_stands 131 mX3_enters 134 := ⟨226, zd zq_357 (by decide +kernel), rfl, lX3_226, Nat.le_of_ble_eq_true rfl, Nat.le_of_ble_eq_true rfl⟩
theorem iX3_stands_134 : xl_D mX3_stands 134 (.aload_n 0) 1 135 := ⟨zd zq_0 (by decide +kernel), rfl⟩
theorem iX3_stands_135 : xl_D mX3_stands 135 (.iload_n 3) 1 136 := ⟨zd zq_25 (by decide +kernel), rfl⟩
theorem iX3_stands_136 : xl_D mX3_stands 136 (.i2l) 1 137 := ⟨zd zq_266 (by decide +kernel), rfl⟩
theorem iX3_stands_137 : xl_Ca mX3_stands 137 mX3_enters 140 := ⟨226, zd zq_357 (by decide +kernel), rfl, lX3_226, Nat.le_of_ble_eq_true rfl, Nat.le_of_ble_eq_true rfl⟩
theorem iX3_stands_140 : xl_D mX3_stands 140 (.iload_n 1) 1 141 := ⟨zd zq_3 (by decide +kernel), rfl⟩
theorem iX3_stands_141 : xl_D mX3_stands 141 (.ireturn) 1 142 := ⟨zd zq_17 (by decide +kernel), rfl⟩
theorem iX3_isKey_0 : xl_D mX3_isKey 0 (.iload_n 0) 1 1 := ⟨zd zq_415 (by decide +kernel), rfl⟩
theorem iX3_isKey_1 : xl_D mX3_isKey 1 (.i2l) 1 2 := ⟨zd zq_266 (by decide +kernel), rfl⟩
theorem iX3_isKey_2 : xl_D mX3_isKey 2 (.lconst 0) 1 3 := ⟨zd zq_506 (by decide +kernel), rfl⟩
theorem iX3_isKey_3 : xl_D mX3_isKey 3 (.ldc2_w 213) 3 6 := ⟨zd zq_623 (by decide +kernel), rfl⟩
theorem iX3_isKey_6 : xl_Cs mX3_isKey 6 mX3_in 9 := ⟨21, zd zq_507 (by decide +kernel), rfl, lX3_21, Nat.le_of_ble_eq_true rfl, Nat.le_of_ble_eq_true rfl⟩
theorem iX3_isKey_9 : xl_D mX3_isKey 9 (.ireturn) 1 10 := ⟨zd zq_17 (by decide +kernel), rfl⟩
theorem iX3_closed_0 : xl_D mX3_closed 0 (.aload_n 0) 1 1 := ⟨zd zq_0 (by decide +kernel), rfl⟩
theorem iX3_closed_1 : xl_D mX3_closed 1 (.iconst 0) 1 2 := ⟨zd zq_2 (by decide +kernel), rfl⟩
theorem iX3_closed_2 : xl_P mX3_closed 2 3 0 .int 5 := ⟨3, zd zq_502 (by decide +kernel), rfl, wX3_3⟩
theorem iX3_closed_5 : xl_D mX3_closed 5 (.iload_n 1) 1 6 := ⟨zd zq_3 (by decide +kernel), rfl⟩
theorem iX3_closed_6 : xl_Cs mX3_closed 6 mX3_isKey 9 := ⟨272, zd zq_654 (by decide +kernel), rfl, lX3_272, Nat.le_of_ble_eq_true rfl, Nat.le_of_ble_eq_true rfl⟩
theorem iX3_closed_9 : xl_J mX3_closed 9 (fun o => .ifCond .ne o) 12 14 := ⟨5, zd zq_246 (by decide +kernel), rfl, rfl⟩
theorem iX3_closed_12 : xl_D mX3_closed 12 (.iconst (-1)) 1 13 := ⟨zd zq_104 (by decide +kernel), rfl⟩
theorem iX3_closed_13 : xl_D mX3_closed 13 (.ireturn) 1 14 := ⟨zd zq_17 (by decide +kernel), rfl⟩
theorem iX3_closed_14 : xl_D mX3_closed 14 (.aload_n 0) 1 15 := ⟨zd zq_0 (by decide +kernel), rfl⟩
theorem iX3_closed_15 : xl_D mX3_closed 15 (.iconst 0) 1 16 := ⟨zd zq_2 (by decide +kernel), rfl⟩
theorem iX3_closed_16 : xl_P mX3_closed 16 3 1 .int 19 := ⟨11, zd zq_501 (by decide +kernel), rfl, wX3_11⟩
theorem iX3_closed_19 : xl_D mX3_closed 19 (.aload_n 0) 1 20 := ⟨zd zq_0 (by decide +kernel), rfl⟩
theorem iX3_closed_20 : xl_D mX3_closed 20 (.aload_n 0) 1 21 := ⟨zd zq_0 (by decide +kernel), rfl⟩
theorem iX3_closed_21 : xl_D mX3_closed 21 (.iconst 0) 1 22 := ⟨zd zq_2 (by decide +kernel), rfl⟩
theorem iX3_closed_22 : xl_D mX3_closed 22 (.bipush 42) 2 24 := ⟨zd zq_600 (by decide +kernel), rfl⟩
theorem iX3_closed_24 : xl_D mX3_closed 24 (.iload_n 1) 1 25 := ⟨zd zq_3 (by decide +kernel), rfl⟩
theorem iX3_closed_25 : xl_D mX3_closed 25 (.iadd) 1 26 := ⟨zd zq_19 (by decide +kernel), rfl⟩
theorem iX3_closed_26 : xl_Ca mX3_closed 26 mX3_of 29 := ⟨116, zd zq_555 (by decide +kernel), rfl, lX3_116, Nat.le_of_ble_eq_true rfl, Nat.le_of_ble_eq_true rfl⟩
theorem iX3_closed_29 : xl_D mX3_closed 29 (.i2l) 1 30 := ⟨zd zq_266 (by decide +kernel), rfl⟩
theorem iX3_closed_30 : xl_Ca mX3_closed 30 mX3_enters 33 := ⟨226, zd zq_357 (by decide +kernel), rfl, lX3_226, Nat.le_of_ble_eq_true rfl, Nat.le_of_ble_eq_true rfl⟩
theorem iX3_closed_33 : xl_D mX3_closed 33 (.aload_n 0) 1 34 := ⟨zd zq_0 (by decide +kernel), rfl⟩
theorem iX3_closed_34 : xl_D mX3_closed 34 (.aload_n 0) 1 35 := ⟨zd zq_0 (by decide +kernel), rfl⟩
theorem iX3_closed_35 : xl_D mX3_closed 35 (.iconst 0) 1 36 := ⟨zd zq_2 (by decide +kernel), rfl⟩
theorem iX3_closed_36 : xl_D mX3_closed 36 (.bipush 48) 2 38 := ⟨zd zq_443 (by decide +kernel), rfl⟩
theorem iX3_closed_38 : xl_D mX3_closed 38 (.iload_n 1) 1 39 := ⟨zd zq_3 (by decide +kernel), rfl⟩
theorem iX3_closed_39 : xl_D mX3_closed 39 (.iadd) 1 40 := ⟨zd zq_19 (by decide +kernel), rfl⟩
theorem iX3_closed_40 : xl_Ca mX3_closed 40 mX3_of 43 := ⟨116, zd zq_555 (by decide +kernel), rfl, lX3_116, Nat.le_of_ble_eq_true rfl, Nat.le_of_ble_eq_true rfl⟩
theorem iX3_closed_43 : xl_D mX3_closed 43 (.i2l) 1 44 := ⟨zd zq_266 (by decide +kernel), rfl⟩
theorem iX3_closed_44 : xl_Ca mX3_closed 44 mX3_enters 47 := ⟨226, zd zq_357 (by decide +kernel), rfl, lX3_226, Nat.le_of_ble_eq_true rfl, Nat.le_of_ble_eq_true rfl⟩
theorem iX3_closed_47 : xl_D mX3_closed 47 (.aload_n 0) 1 48 := ⟨zd zq_0 (by decide +kernel), rfl⟩
theorem iX3_closed_48 : xl_D mX3_closed 48 (.aload_n 0) 1 49 := ⟨zd zq_0 (by decide +kernel), rfl⟩
theorem iX3_closed_49 : xl_D mX3_closed 49 (.iconst 0) 1 50 := ⟨zd zq_2 (by decide +kernel), rfl⟩
theorem iX3_closed_50 : xl_D mX3_closed 50 (.bipush 54) 2 52 := ⟨zd zq_539 (by decide +kernel), rfl⟩
theorem iX3_closed_52 : xl_D mX3_closed 52 (.iload_n 1) 1 53 := ⟨zd zq_3 (by decide +kernel), rfl⟩
theorem iX3_closed_53 : xl_D mX3_closed 53 (.iadd) 1 54 := ⟨zd zq_19 (by decide +kernel), rfl⟩
theorem iX3_closed_54 : xl_Ca mX3_closed 54 mX3_of 57 := ⟨116, zd zq_555 (by decide +kernel), rfl, lX3_116, Nat.le_of_ble_eq_true rfl, Nat.le_of_ble_eq_true rfl⟩
theorem iX3_closed_57 : xl_D mX3_closed 57 (.i2l) 1 58 := ⟨zd zq_266 (by decide +kernel), rfl⟩
theorem iX3_closed_58 : xl_Ca mX3_closed 58 mX3_enters 61 := ⟨226, zd zq_357 (by decide +kernel), rfl, lX3_226, Nat.le_of_ble_eq_true rfl, Nat.le_of_ble_eq_true rfl⟩
theorem iX3_closed_61 : xl_D mX3_closed 61 (.aload_n 0) 1 62 := ⟨zd zq_0 (by decide +kernel), rfl⟩
theorem iX3_closed_62 : xl_D mX3_closed 62 (.iconst 0) 1 63 := ⟨zd zq_2 (by decide +kernel), rfl⟩
theorem iX3_closed_63 : xl_D mX3_closed 63 (.bipush 36) 2 65 := ⟨zd zq_599 (by decide +kernel), rfl⟩
theorem iX3_closed_65 : xl_D mX3_closed 65 (.iload_n 1) 1 66 := ⟨zd zq_3 (by decide +kernel), rfl⟩
theorem iX3_closed_66 : xl_D mX3_closed 66 (.iadd) 1 67 := ⟨zd zq_19 (by decide +kernel), rfl⟩
theorem iX3_closed_67 : xl_Ca mX3_closed 67 mX3_of 70 := ⟨116, zd zq_555 (by decide +kernel), rfl, lX3_116, Nat.le_of_ble_eq_true rfl, Nat.le_of_ble_eq_true rfl⟩
theorem iX3_closed_70 : xl_D mX3_closed 70 (.ireturn) 1 71 := ⟨zd zq_17 (by decide +kernel), rfl⟩
theorem iX3_finals_0 : xl_D mX3_finals 0 (.aload_n 0) 1 1 := ⟨zd zq_0 (by decide +kernel), rfl⟩
theorem iX3_finals_1 : xl_D mX3_finals 1 (.iconst 0) 1 2 := ⟨zd zq_2 (by decide +kernel), rfl⟩
theorem iX3_finals_2 : xl_Ca mX3_finals 2 mX3_closedMany 5 := ⟨173, zd zq_598 (by decide +kernel), rfl, lX3_173, Nat.le_of_ble_eq_true rfl, Nat.le_of_ble_eq_true rfl⟩
theorem iX3_finals_5 : xl_D mX3_finals 5 (.istore_n 3) 1 6 := ⟨zd zq_131 (by decide +kernel), rfl⟩
theorem iX3_finals_6 : xl_D mX3_finals 6 (.aload_n 0) 1 7 := ⟨zd zq_0 (by decide +kernel), rfl⟩
theorem iX3_finals_7 : xl_D mX3_finals 7 (.iload_n 1) 1 8 := ⟨zd zq_3 (by decide +kernel), rfl⟩
theorem iX3_finals_8 : xl_D mX3_finals 8 (.i2l) 1 9 := ⟨zd zq_266 (by decide +kernel), rfl⟩
theorem iX3_finals_9 : xl_D mX3_finals 9 (.iconst 0) 1 10 := ⟨zd zq_2 (by decide +kernel), rfl⟩
theorem iX3_finals_10 : xl_D mX3_finals 10 (.iload_n 3) 1 11 := ⟨zd zq_25 (by decide +kernel), rfl⟩
theorem iX3_finals_11 : xl_D mX3_finals 11 (.bipush 40) 2 13 := ⟨zd zq_73 (by decide +kernel), rfl⟩
theorem iX3_finals_13 : xl_D mX3_finals 13 (.isub) 1 14 := ⟨zd zq_39 (by decide +kernel), rfl⟩
theorem iX3_finals_14 : xl_Cm mX3_finals 14 Lib.Math.max.name Lib.Math.max.code 17 := ⟨176, zd zq_601 (by decide +kernel), rfl, lX3_176, xl_stmax, xl_iMath, xl_comax, Nat.le_of_ble_eq_true rfl, Nat.le_of_ble_eq_true rfl⟩
theorem iX3_finals_17 : xl_D mX3_finals 17 (.i2l) 1 18 := ⟨zd zq_266 (by decide +kernel), rfl⟩
theorem iX3_finals_18 : xl_D mX3_finals 18 (.iload_n 3) 1 19 := ⟨zd zq_25 (by decide +kernel), rfl⟩
theorem iX3_finals_19 : xl_D mX3_finals 19 (.iconst 1) 1 20 := ⟨zd zq_36 (by decide +kernel), rfl⟩
theorem iX3_finals_20 : xl_D mX3_finals 20 (.isub) 1 21 := ⟨zd zq_39 (by decide +kernel), rfl⟩
theorem iX3_finals_21 : xl_D mX3_finals 21 (.i2l) 1 22 := ⟨zd zq_266 (by decide +kernel), rfl⟩
theorem iX3_finals_22 : xl_Cs mX3_finals 22 mX3_in 25 := ⟨21, zd zq_507 (by decide +kernel), rfl, lX3_21, Nat.le_of_ble_eq_true rfl, Nat.le_of_ble_eq_true rfl⟩
theorem iX3_finals_25 : xl_J mX3_finals 25 (fun o => .ifCond .eq o) 28 40 := ⟨15, zd zq_321 (by decide +kernel), rfl, rfl⟩
theorem iX3_finals_28 : xl_D mX3_finals 28 (.iload_n 2) 1 29 := ⟨zd zq_6 (by decide +kernel), rfl⟩
theorem iX3_finals_29 : xl_D mX3_finals 29 (.i2l) 1 30 := ⟨zd zq_266 (by decide +kernel), rfl⟩
theorem iX3_finals_30 : xl_D mX3_finals 30 (.lconst 0) 1 31 := ⟨zd zq_506 (by decide +kernel), rfl⟩
theorem iX3_finals_31 : xl_D mX3_finals 31 (.ldc2_w 275) 3 34 := ⟨zd zq_655 (by decide +kernel), rfl⟩
theorem iX3_finals_34 : xl_Cs mX3_finals 34 mX3_in 37 := ⟨21, zd zq_507 (by decide +kernel), rfl, lX3_21, Nat.le_of_ble_eq_true rfl, Nat.le_of_ble_eq_true rfl⟩
theorem iX3_finals_37 : xl_J mX3_finals 37 (fun o => .ifCond .ne o) 40 44 := ⟨7, zd zq_192 (by decide +kernel), rfl, rfl⟩
theorem iX3_finals_40 : xl_D mX3_finals 40 (.iconst 1) 1 41 := ⟨zd zq_36 (by decide +kernel), rfl⟩
theorem iX3_finals_41 : xl_J mX3_finals 41 (fun o => .goto o) 44 45 := ⟨4, zd zq_139 (by decide +kernel), rfl, rfl⟩
theorem iX3_finals_44 : xl_D mX3_finals 44 (.iconst 0) 1 45 := ⟨zd zq_2 (by decide +kernel), rfl⟩
theorem iX3_finals_45 : xl_Cs mX3_finals 45 mX3_flag 48 := ⟨194, zd zq_613 (by decide +kernel), rfl, lX3_194, Nat.le_of_ble_eq_true rfl, Nat.le_of_ble_eq_true rfl⟩
theorem iX3_finals_48 : xl_P mX3_finals 48 3 0 .int 51 := ⟨3, zd zq_502 (by decide +kernel), rfl, wX3_3⟩
theorem iX3_finals_51 : xl_D mX3_finals 51 (.aload_n 0) 1 52 := ⟨zd zq_0 (by decide +kernel), rfl⟩
theorem iX3_finals_52 : xl_G mX3_finals 52 3 0 55 := ⟨3, zd zq_647 (by decide +kernel), rfl, fX3_3⟩
theorem iX3_finals_55 : xl_D mX3_finals 55 (.iconst 1) 1 56 := ⟨zd zq_36 (by decide +kernel), rfl⟩
theorem iX3_finals_56 : xl_J mX3_finals 56 (fun o => .if_icmp .ne o) 59 61 := ⟨5, zd zq_648 (by decide +kernel), rfl, rfl⟩
theorem iX3_finals_59 : xl_D mX3_finals 59 (.iconst 0) 1 60 := ⟨zd zq_2 (by decide +kernel), rfl⟩
theorem iX3_finals_60 : xl_D mX3_finals 60 (.ireturn) 1 61 := ⟨zd zq_17 (by decide +kernel), rfl⟩
theorem iX3_finals_61 : xl_D mX3_finals 61 (.aload_n 0) 1 62 := ⟨zd zq_0 (by decide +kernel), rfl⟩
theorem iX3_finals_62 : xl_G mX3_finals 62 3 7 65 := ⟨53, zd zq_537 (by decide +kernel), rfl, fX3_53⟩
theorem iX3_finals_65 : xl_D mX3_finals 65 (.bipush 84) 2 67 := ⟨zd zq_597 (by decide +kernel), rfl⟩
theorem iX3_finals_67 : xl_D mX3_finals 67 (.bipush 7) 2 69 := ⟨zd zq_68 (by decide +kernel), rfl⟩
theorem iX3_finals_69 : xl_D mX3_finals 69 (.iload_n 1) 1 70 := ⟨zd zq_3 (by decide +kernel), rfl⟩
theorem iX3_finals_70 : xl_D mX3_finals 70 (.bipush 40) 2 72 := ⟨zd zq_73 (by decide +kernel), rfl⟩
theorem iX3_finals_72 : xl_D mX3_finals 72 (.irem) 1 73 := ⟨zd zq_191 (by decide +kernel), rfl⟩
theorem iX3_finals_73 : xl_D mX3_finals 73 (.imul) 1 74 := ⟨zd zq_10 (by decide +kernel), rfl⟩
theorem iX3_finals_74 : xl_D mX3_finals 74 (.iadd) 1 75 := ⟨zd zq_19 (by decide +kernel), rfl⟩
theorem iX3_finals_75 : xl_D mX3_finals 75 (.iload_n 2) 1 76 := ⟨zd zq_6 (by decide +kernel), rfl⟩
theorem iX3_finals_76 : xl_D mX3_finals 76 (.iadd) 1 77 := ⟨zd zq_19 (by decide +kernel), rfl⟩
theorem iX3_finals_77 : xl_D mX3_finals 77 (.iaload) 1 78 := ⟨zd zq_20 (by decide +kernel), rfl⟩
theorem iX3_finals_78 : xl_D mX3_finals 78 (.istore 4) 2 80 := ⟨zd zq_50 (by decide +kernel), rfl⟩
theorem iX3_finals_80 : xl_D mX3_finals 80 (.iload_n 2) 1 81 := ⟨zd zq_6 (by decide +kernel), rfl⟩
theorem iX3_finals_81 : xl_D mX3_finals 81 (.iconst 4) 1 82 := ⟨zd zq_63 (by decide +kernel), rfl⟩
theorem iX3_finals_82 : xl_J mX3_finals 82 (fun o => .if_icmp .ne o) 85 94 := ⟨12, zd zq_298 (by decide +kernel), rfl, rfl⟩
theorem iX3_finals_85 : xl_D mX3_finals 85 (.sipush 20000) 3 88 := ⟨zd zq_299 (by decide +kernel), rfl⟩
theorem iX3_finals_88 : xl_D mX3_finals 88 (.iload 4) 2 90 := ⟨zd zq_51 (by decide +kernel), rfl⟩
theorem iX3_finals_90 : xl_D mX3_finals 90 (.iadd) 1 91 := ⟨zd zq_19 (by decide +kernel), rfl⟩
theorem iX3_finals_91 : xl_J mX3_finals 91 (fun o => .goto o) 94 122 := ⟨31, zd zq_656 (by decide +kernel), rfl, rfl⟩
theorem iX3_finals_94 : xl_D mX3_finals 94 (.iload_n 2) 1 95 := ⟨zd zq_6 (by decide +kernel), rfl⟩
theorem iX3_finals_95 : xl_D mX3_finals 95 (.iconst 5) 1 96 := ⟨zd zq_64 (by decide +kernel), rfl⟩
theorem iX3_finals_96 : xl_J mX3_finals 96 (fun o => .if_icmp .ne o) 99 107 := ⟨11, zd zq_657 (by decide +kernel), rfl, rfl⟩
theorem iX3_finals_99 : xl_D mX3_finals 99 (.bipush 99) 2 101 := ⟨zd zq_379 (by decide +kernel), rfl⟩
theorem iX3_finals_101 : xl_D mX3_finals 101 (.iload 4) 2 103 := ⟨zd zq_51 (by decide +kernel), rfl⟩
theorem iX3_finals_103 : xl_D mX3_finals 103 (.iadd) 1 104 := ⟨zd zq_19 (by decide +kernel), rfl⟩
theorem iX3_finals_104 : xl_J mX3_finals 104 (fun o => .goto o) 107 122 := ⟨18, zd zq_132 (by decide +kernel), rfl, rfl⟩
theorem iX3_finals_107 : xl_D mX3_finals 107 (.iload_n 2) 1 108 := ⟨zd zq_6 (by decide +kernel), rfl⟩
theorem iX3_finals_108 : xl_D mX3_finals 108 (.bipush 6) 2 110 := ⟨zd zq_71 (by decide +kernel), rfl⟩
theorem iX3_finals_110 : xl_J mX3_finals 110 (fun o => .if_icmp .ne o) 113 120 := ⟨10, zd zq_344 (by decide +kernel), rfl, rfl⟩
theorem iX3_finals_113 : xl_D mX3_finals 113 (.iload 4) 2 115 := ⟨zd zq_51 (by decide +kernel), rfl⟩
theorem iX3_finals_115 : xl_D mX3_finals 115 (.iconst 1) 1 116 := ⟨zd zq_36 (by decide +kernel), rfl⟩
theorem iX3_finals_116 : xl_D mX3_finals 116 (.isub) 1 117 := ⟨zd zq_39 (by decide +kernel), rfl⟩
theorem iX3_finals_117 : xl_J mX3_finals 117 (fun o => .goto o) 120 122 := ⟨5, zd zq_300 (by decide +kernel), rfl, rfl⟩
theorem iX3_finals_120 : xl_D mX3_finals 120 (.iload 4) 2 122 := ⟨zd zq_51 (by decide +kernel), rfl⟩
theorem iX3_finals_122 : xl_D mX3_finals 122 (.ireturn) 1 123 := ⟨zd zq_17 (by decide +kernel), rfl⟩
theorem iX3_kinds_0 : xl_D mX3_kinds 0 (.aload_n 0) 1 1 := ⟨zd zq_0 (by decide +kernel), rfl⟩
theorem iX3_kinds_1 : xl_D mX3_kinds 1 (.iconst 0) 1 2 := ⟨zd zq_2 (by decide +kernel), rfl⟩
theorem iX3_kinds_2 : xl_P mX3_kinds 2 3 0 .int 5 := ⟨3, zd zq_502 (by decide +kernel), rfl, wX3_3⟩
theorem iX3_kinds_5 : xl_D mX3_kinds 5 (.iload_n 1) 1 6 := ⟨zd zq_3 (by decide +kernel), rfl⟩
theorem iX3_kinds_6 : xl_Cs mX3_kinds 6 mX3_isKey 9 := ⟨272, zd zq_654 (by decide +kernel), rfl, lX3_272, Nat.le_of_ble_eq_true rfl, Nat.le_of_ble_eq_true rfl⟩
theorem iX3_kinds_9 : xl_J mX3_kinds 9 (fun o => .ifCond .ne o) 12 14 := ⟨5, zd zq_246 (by decide +kernel), rfl, rfl⟩
theorem iX3_kinds_12 : xl_D mX3_kinds 12 (.iconst (-1)) 1 13 := ⟨zd zq_104 (by decide +kernel), rfl⟩
theorem iX3_kinds_13 : xl_D mX3_kinds 13 (.ireturn) 1 14 := ⟨zd zq_17 (by decide +kernel), rfl⟩
theorem iX3_kinds_14 : xl_D mX3_kinds 14 (.iconst 0) 1 15 := ⟨zd zq_2 (by decide +kernel), rfl⟩
theorem iX3_kinds_15 : xl_D mX3_kinds 15 (.istore_n 2) 1 16 := ⟨zd zq_41 (by decide +kernel), rfl⟩
theorem iX3_kinds_16 : xl_D mX3_kinds 16 (.iconst 0) 1 17 := ⟨zd zq_2 (by decide +kernel), rfl⟩
theorem iX3_kinds_17 : xl_D mX3_kinds 17 (.istore_n 3) 1 18 := ⟨zd zq_131 (by decide +kernel), rfl⟩
theorem iX3_kinds_18 : xl_D mX3_kinds 18 (.aload_n 0) 1 19 := ⟨zd zq_0 (by decide +kernel), rfl⟩
theorem iX3_kinds_19 : xl_D mX3_kinds 19 (.iconst 0) 1 20 := ⟨zd zq_2 (by decide +kernel), rfl⟩
theorem iX3_kinds_20 : xl_P mX3_kinds 20 3 1 .int 23 := ⟨11, zd zq_501 (by decide +kernel), rfl, wX3_11⟩
theorem iX3_kinds_23 : xl_D mX3_kinds 23 (.iconst 0) 1 24 := ⟨zd zq_2 (by decide +kernel), rfl⟩
theorem iX3_kinds_24 : xl_D mX3_kinds 24 (.istore 4) 2 26 := ⟨zd zq_50 (by decide +kernel), rfl⟩
theorem iX3_kinds_26 : xl_D mX3_kinds 26 (.iload 4) 2 28 := ⟨zd zq_51 (by decide +kernel), rfl⟩
theorem iX3_kinds_28 : xl_D mX3_kinds 28 (.iconst 4) 1 29 := ⟨zd zq_63 (by decide +kernel), rfl⟩
theorem iX3_kinds_29 : xl_J mX3_kinds 29 (fun o => .if_icmp .ge o) 32 83 := ⟨54, zd zq_658 (by decide +kernel), rfl, rfl⟩
theorem iX3_kinds_32 : xl_D mX3_kinds 32 (.aload_n 0) 1 33 := ⟨zd zq_0 (by decide +kernel), rfl⟩
theorem iX3_kinds_33 : xl_D mX3_kinds 33 (.iconst 0) 1 34 := ⟨zd zq_2 (by decide +kernel), rfl⟩
theorem iX3_kinds_34 : xl_D mX3_kinds 34 (.bipush 60) 2 36 := ⟨zd zq_70 (by decide +kernel), rfl⟩
theorem iX3_kinds_36 : xl_D mX3_kinds 36 (.iconst 4) 1 37 := ⟨zd zq_63 (by decide +kernel), rfl⟩
theorem iX3_kinds_37 : xl_D mX3_kinds 37 (.iload_n 1) 1 38 := ⟨zd zq_3 (by decide +kernel), rfl⟩
theorem iX3_kinds_38 : xl_D mX3_kinds 38 (.imul) 1 39 := ⟨zd zq_10 (by decide +kernel), rfl⟩
theorem iX3_kinds_39 : xl_D mX3_kinds 39 (.iadd) 1 40 := ⟨zd zq_19 (by decide +kernel), rfl⟩
theorem iX3_kinds_40 : xl_D mX3_kinds 40 (.iload 4) 2 42 := ⟨zd zq_51 (by decide +kernel), rfl⟩
theorem iX3_kinds_42 : xl_D mX3_kinds 42 (.iadd) 1 43 := ⟨zd zq_19 (by decide +kernel), rfl⟩
theorem iX3_kinds_43 : xl_Ca mX3_kinds 43 mX3_of 46 := ⟨116, zd zq_555 (by decide +kernel), rfl, lX3_116, Nat.le_of_ble_eq_true rfl, Nat.le_of_ble_eq_true rfl⟩
theorem iX3_kinds_46 : xl_D mX3_kinds 46 (.istore 5) 2 48 := ⟨zd zq_91 (by decide +kernel), rfl⟩
theorem iX3_kinds_48 : xl_D mX3_kinds 48 (.aload_n 0) 1 49 := ⟨zd zq_0 (by decide +kernel), rfl⟩
theorem iX3_kinds_49 : xl_D mX3_kinds 49 (.iload 5) 2 51 := ⟨zd zq_92 (by decide +kernel), rfl⟩
theorem iX3_kinds_51 : xl_D mX3_kinds 51 (.i2l) 1 52 := ⟨zd zq_266 (by decide +kernel), rfl⟩
theorem iX3_kinds_52 : xl_Ca mX3_kinds 52 mX3_enters 55 := ⟨226, zd zq_357 (by decide +kernel), rfl, lX3_226, Nat.le_of_ble_eq_true rfl, Nat.le_of_ble_eq_true rfl⟩
theorem iX3_kinds_55 : xl_D mX3_kinds 55 (.iload_n 2) 1 56 := ⟨zd zq_6 (by decide +kernel), rfl⟩
theorem iX3_kinds_56 : xl_D mX3_kinds 56 (.iload 5) 2 58 := ⟨zd zq_92 (by decide +kernel), rfl⟩
theorem iX3_kinds_58 : xl_D mX3_kinds 58 (.iadd) 1 59 := ⟨zd zq_19 (by decide +kernel), rfl⟩
theorem iX3_kinds_59 : xl_D mX3_kinds 59 (.istore_n 2) 1 60 := ⟨zd zq_41 (by decide +kernel), rfl⟩
theorem iX3_kinds_60 : xl_D mX3_kinds 60 (.iload_n 3) 1 61 := ⟨zd zq_25 (by decide +kernel), rfl⟩
theorem iX3_kinds_61 : xl_D mX3_kinds 61 (.iload 4) 2 63 := ⟨zd zq_51 (by decide +kernel), rfl⟩
theorem iX3_kinds_63 : xl_D mX3_kinds 63 (.iconst 3) 1 64 := ⟨zd zq_123 (by decide +kernel), rfl⟩
theorem iX3_kinds_64 : xl_J mX3_kinds 64 (fun o => .if_icmp .ne o) 67 73 := ⟨9, zd zq_430 (by decide +kernel), rfl, rfl⟩
theorem iX3_kinds_67 : xl_D mX3_kinds 67 (.iload 5) 2 69 := ⟨zd zq_92 (by decide +kernel), rfl⟩
theorem iX3_kinds_69 : xl_D mX3_kinds 69 (.ineg) 1 70 := ⟨zd zq_470 (by decide +kernel), rfl⟩
theorem iX3_kinds_70 : xl_J mX3_kinds 70 (fun o => .goto o) 73 75 := ⟨5, zd zq_300 (by decide +kernel), rfl, rfl⟩
theorem iX3_kinds_73 : xl_D mX3_kinds 73 (.iload 5) 2 75 := ⟨zd zq_92 (by decide +kernel), rfl⟩
theorem iX3_kinds_75 : xl_D mX3_kinds 75 (.iadd) 1 76 := ⟨zd zq_19 (by decide +kernel), rfl⟩
theorem iX3_kinds_76 : xl_D mX3_kinds 76 (.istore_n 3) 1 77 := ⟨zd zq_131 (by decide +kernel), rfl⟩
theorem iX3_kinds_77 : xl_D mX3_kinds 77 (.iinc 4 1) 3 80 := ⟨zd zq_54 (by decide +kernel), rfl⟩
theorem iX3_kinds_80 : xl_J mX3_kinds 80 (fun o => .goto o) 83 26 := ⟨-54, zd zq_659 (by decide +kernel), rfl, rfl⟩
theorem iX3_kinds_83 : xl_D mX3_kinds 83 (.aload_n 0) 1 84 := ⟨zd zq_0 (by decide +kernel), rfl⟩
theorem iX3_kinds_84 : xl_D mX3_kinds 84 (.iload_n 3) 1 85 := ⟨zd zq_25 (by decide +kernel), rfl⟩
theorem iX3_kinds_85 : xl_D mX3_kinds 85 (.i2l) 1 86 := ⟨zd zq_266 (by decide +kernel), rfl⟩
theorem iX3_kinds_86 : xl_Ca mX3_kinds 86 mX3_enters 89 := ⟨226, zd zq_357 (by decide +kernel), rfl, lX3_226, Nat.le_of_ble_eq_true rfl, Nat.le_of_ble_eq_true rfl⟩
theorem iX3_kinds_89 : xl_D mX3_kinds 89 (.iload_n 2) 1 90 := ⟨zd zq_6 (by decide +kernel), rfl⟩
theorem iX3_kinds_90 : xl_D mX3_kinds 90 (.ireturn) 1 91 := ⟨zd zq_17 (by decide +kernel), rfl⟩
theorem iX3_slow_0 : xl_D mX3_slow 0 (.aload_n 0) 1 1 := ⟨zd zq_0 (by decide +kernel), rfl⟩
theorem iX3_slow_1 : xl_D mX3_slow 1 (.iconst 0) 1 2 := ⟨zd zq_2 (by decide +kernel), rfl⟩
theorem iX3_slow_2 : xl_P mX3_slow 2 3 0 .int 5 := ⟨3, zd zq_502 (by decide +kernel), rfl, wX3_3⟩
theorem iX3_slow_5 : xl_D mX3_slow 5 (.iconst (-1)) 1 6 := ⟨zd zq_104 (by decide +kernel), rfl⟩
theorem iX3_slow_6 : xl_D mX3_slow 6 (.istore_n 1) 1 7 := ⟨zd zq_194 (by decide +kernel), rfl⟩
theorem iX3_slow_7 : xl_D mX3_slow 7 (.iconst 0) 1 8 := ⟨zd zq_2 (by decide +kernel), rfl⟩
theorem iX3_slow_8 : xl_D mX3_slow 8 (.istore_n 2) 1 9 := ⟨zd zq_41 (by decide +kernel), rfl⟩
theorem iX3_slow_9 : xl_D mX3_slow 9 (.iconst 0) 1 10 := ⟨zd zq_2 (by decide +kernel), rfl⟩
theorem iX3_slow_10 : xl_D mX3_slow 10 (.istore_n 3) 1 11 := ⟨zd zq_131 (by decide +kernel), rfl⟩
theorem iX3_slow_11 : xl_D mX3_slow 11 (.iload_n 3) 1 12 := ⟨zd zq_25 (by decide +kernel), rfl⟩
theorem iX3_slow_12 : xl_D mX3_slow 12 (.aload_n 0) 1 13 := ⟨zd zq_0 (by decide +kernel), rfl⟩
theorem iX3_slow_13 : xl_D mX3_slow 13 (.iconst 0) 1 14 := ⟨zd zq_2 (by decide +kernel), rfl⟩
theorem iX3_slow_14 : xl_D mX3_slow 14 (.iconst 0) 1 15 := ⟨zd zq_2 (by decide +kernel), rfl⟩
theorem iX3_slow_15 : xl_Ca mX3_slow 15 mX3_of 18 := ⟨116, zd zq_555 (by decide +kernel), rfl, lX3_116, Nat.le_of_ble_eq_true rfl, Nat.le_of_ble_eq_true rfl⟩
theorem iX3_slow_18 : xl_J mX3_slow 18 (fun o => .if_icmp .ge o) 21 88 := ⟨70, zd zq_660 (by decide +kernel), rfl, rfl⟩
theorem iX3_slow_21 : xl_D mX3_slow 21 (.aload_n 0) 1 22 := ⟨zd zq_0 (by decide +kernel), rfl⟩
theorem iX3_slow_22 : xl_D mX3_slow 22 (.iconst 0) 1 23 := ⟨zd zq_2 (by decide +kernel), rfl⟩
theorem iX3_slow_23 : xl_D mX3_slow 23 (.bipush 20) 2 25 := ⟨zd zq_96 (by decide +kernel), rfl⟩
theorem iX3_slow_25 : xl_D mX3_slow 25 (.iload_n 3) 1 26 := ⟨zd zq_25 (by decide +kernel), rfl⟩
theorem iX3_slow_26 : xl_D mX3_slow 26 (.iadd) 1 27 := ⟨zd zq_19 (by decide +kernel), rfl⟩
theorem iX3_slow_27 : xl_Ca mX3_slow 27 mX3_of 30 := ⟨116, zd zq_555 (by decide +kernel), rfl, lX3_116, Nat.le_of_ble_eq_true rfl, Nat.le_of_ble_eq_true rfl⟩
theorem iX3_slow_30 : xl_D mX3_slow 30 (.iconst 1) 1 31 := ⟨zd zq_36 (by decide +kernel), rfl⟩
theorem iX3_slow_31 : xl_J mX3_slow 31 (fun o => .if_icmp .ne o) 34 37 := ⟨6, zd zq_255 (by decide +kernel), rfl, rfl⟩
theorem iX3_slow_34 : xl_J mX3_slow 34 (fun o => .goto o) 37 82 := ⟨48, zd zq_661 (by decide +kernel), rfl, rfl⟩
theorem iX3_slow_37 : xl_D mX3_slow 37 (.aload_n 0) 1 38 := ⟨zd zq_0 (by decide +kernel), rfl⟩
theorem iX3_slow_38 : xl_D mX3_slow 38 (.iconst 0) 1 39 := ⟨zd zq_2 (by decide +kernel), rfl⟩
theorem iX3_slow_39 : xl_D mX3_slow 39 (.bipush 20) 2 41 := ⟨zd zq_96 (by decide +kernel), rfl⟩
theorem iX3_slow_41 : xl_D mX3_slow 41 (.iload_n 3) 1 42 := ⟨zd zq_25 (by decide +kernel), rfl⟩
theorem iX3_slow_42 : xl_D mX3_slow 42 (.iadd) 1 43 := ⟨zd zq_19 (by decide +kernel), rfl⟩
theorem iX3_slow_43 : xl_D mX3_slow 43 (.iconst 1) 1 44 := ⟨zd zq_36 (by decide +kernel), rfl⟩
theorem iX3_slow_44 : xl_Ca mX3_slow 44 mX3_puts 47 := ⟨88, zd zq_542 (by decide +kernel), rfl, lX3_88, Nat.le_of_ble_eq_true rfl, Nat.le_of_ble_eq_true rfl⟩
theorem iX3_slow_47 : xl_D mX3_slow 47 (.aload_n 0) 1 48 := ⟨zd zq_0 (by decide +kernel), rfl⟩
theorem iX3_slow_48 : xl_D mX3_slow 48 (.iconst 0) 1 49 := ⟨zd zq_2 (by decide +kernel), rfl⟩
theorem iX3_slow_49 : xl_Ca mX3_slow 49 mX3_leastMark 52 := ⟨155, zd zq_588 (by decide +kernel), rfl, lX3_155, Nat.le_of_ble_eq_true rfl, Nat.le_of_ble_eq_true rfl⟩
theorem iX3_slow_52 : xl_D mX3_slow 52 (.aload_n 0) 1 53 := ⟨zd zq_0 (by decide +kernel), rfl⟩
theorem iX3_slow_53 : xl_D mX3_slow 53 (.iconst 0) 1 54 := ⟨zd zq_2 (by decide +kernel), rfl⟩
theorem iX3_slow_54 : xl_D mX3_slow 54 (.iconst 4) 1 55 := ⟨zd zq_63 (by decide +kernel), rfl⟩
theorem iX3_slow_55 : xl_Ca mX3_slow 55 mX3_of 58 := ⟨116, zd zq_555 (by decide +kernel), rfl, lX3_116, Nat.le_of_ble_eq_true rfl, Nat.le_of_ble_eq_true rfl⟩
theorem iX3_slow_58 : xl_D mX3_slow 58 (.isub) 1 59 := ⟨zd zq_39 (by decide +kernel), rfl⟩
theorem iX3_slow_59 : xl_D mX3_slow 59 (.istore 4) 2 61 := ⟨zd zq_50 (by decide +kernel), rfl⟩
theorem iX3_slow_61 : xl_D mX3_slow 61 (.aload_n 0) 1 62 := ⟨zd zq_0 (by decide +kernel), rfl⟩
theorem iX3_slow_62 : xl_D mX3_slow 62 (.iconst 0) 1 63 := ⟨zd zq_2 (by decide +kernel), rfl⟩
theorem iX3_slow_63 : xl_D mX3_slow 63 (.bipush 20) 2 65 := ⟨zd zq_96 (by decide +kernel), rfl⟩
theorem iX3_slow_65 : xl_D mX3_slow 65 (.iload_n 3) 1 66 := ⟨zd zq_25 (by decide +kernel), rfl⟩
theorem iX3_slow_66 : xl_D mX3_slow 66 (.iadd) 1 67 := ⟨zd zq_19 (by decide +kernel), rfl⟩
theorem iX3_slow_67 : xl_D mX3_slow 67 (.iconst 0) 1 68 := ⟨zd zq_2 (by decide +kernel), rfl⟩
theorem iX3_slow_68 : xl_Ca mX3_slow 68 mX3_puts 71 := ⟨88, zd zq_542 (by decide +kernel), rfl, lX3_88, Nat.le_of_ble_eq_true rfl, Nat.le_of_ble_eq_true rfl⟩
theorem iX3_slow_71 : xl_D mX3_slow 71 (.iload 4) 2 73 := ⟨zd zq_51 (by decide +kernel), rfl⟩
theorem iX3_slow_73 : xl_D mX3_slow 73 (.iload_n 2) 1 74 := ⟨zd zq_6 (by decide +kernel), rfl⟩
theorem iX3_slow_74 : xl_J mX3_slow 74 (fun o => .if_icmp .le o) 77 82 := ⟨8, zd zq_318 (by decide +kernel), rfl, rfl⟩
theorem iX3_slow_77 : xl_D mX3_slow 77 (.iload_n 3) 1 78 := ⟨zd zq_25 (by decide +kernel), rfl⟩
theorem iX3_slow_78 : xl_D mX3_slow 78 (.istore_n 1) 1 79 := ⟨zd zq_194 (by decide +kernel), rfl⟩
theorem iX3_slow_79 : xl_D mX3_slow 79 (.iload 4) 2 81 := ⟨zd zq_51 (by decide +kernel), rfl⟩
theorem iX3_slow_81 : xl_D mX3_slow 81 (.istore_n 2) 1 82 := ⟨zd zq_41 (by decide +kernel), rfl⟩
theorem iX3_slow_82 : xl_D mX3_slow 82 (.iinc 3 1) 3 85 := ⟨zd zq_153 (by decide +kernel), rfl⟩
theorem iX3_slow_85 : xl_J mX3_slow 85 (fun o => .goto o) 88 11 := ⟨-74, zd zq_662 (by decide +kernel), rfl, rfl⟩
theorem iX3_slow_88 : xl_D mX3_slow 88 (.iload_n 1) 1 89 := ⟨zd zq_3 (by decide +kernel), rfl⟩
theorem iX3_slow_89 : xl_J mX3_slow 89 (fun o => .ifCond .ge o) 92 95 := ⟨6, zd zq_263 (by decide +kernel), rfl, rfl⟩
theorem iX3_slow_92 : xl_D mX3_slow 92 (.bipush (-2)) 2 94 := ⟨zd zq_256 (by decide +kernel), rfl⟩
theorem iX3_slow_94 : xl_D mX3_slow 94 (.ireturn) 1 95 := ⟨zd zq_17 (by decide +kernel), rfl⟩
theorem iX3_slow_95 : xl_D mX3_slow 95 (.iconst 0) 1 96 := ⟨zd zq_2 (by decide +kernel), rfl⟩
theorem iX3_slow_96 : xl_D mX3_slow 96 (.istore_n 3) 1 97 := ⟨zd zq_131 (by decide +kernel), rfl⟩
theorem iX3_slow_97 : xl_D mX3_slow 97 (.iconst 0) 1 98 := ⟨zd zq_2 (by decide +kernel), rfl⟩
theorem iX3_slow_98 : xl_D mX3_slow 98 (.istore 4) 2 100 := ⟨zd zq_50 (by decide +kernel), rfl⟩
theorem iX3_slow_100 : xl_D mX3_slow 100 (.iload 4) 2 102 := ⟨zd zq_51 (by decide +kernel), rfl⟩
theorem iX3_slow_102 : xl_D mX3_slow 102 (.aload_n 0) 1 103 := ⟨zd zq_0 (by decide +kernel), rfl⟩
theorem iX3_slow_103 : xl_D mX3_slow 103 (.iconst 0) 1 104 := ⟨zd zq_2 (by decide +kernel), rfl⟩
theorem iX3_slow_104 : xl_D mX3_slow 104 (.iconst 5) 1 105 := ⟨zd zq_64 (by decide +kernel), rfl⟩
theorem iX3_slow_105 : xl_Ca mX3_slow 105 mX3_of 108 := ⟨116, zd zq_555 (by decide +kernel), rfl, lX3_116, Nat.le_of_ble_eq_true rfl, Nat.le_of_ble_eq_true rfl⟩
theorem iX3_slow_108 : xl_J mX3_slow 108 (fun o => .if_icmp .ge o) 111 162 := ⟨54, zd zq_658 (by decide +kernel), rfl, rfl⟩
theorem iX3_slow_111 : xl_D mX3_slow 111 (.iload_n 3) 1 112 := ⟨zd zq_25 (by decide +kernel), rfl⟩
theorem iX3_slow_112 : xl_D mX3_slow 112 (.aload_n 0) 1 113 := ⟨zd zq_0 (by decide +kernel), rfl⟩
theorem iX3_slow_113 : xl_D mX3_slow 113 (.iconst 0) 1 114 := ⟨zd zq_2 (by decide +kernel), rfl⟩
theorem iX3_slow_114 : xl_D mX3_slow 114 (.iload 4) 2 116 := ⟨zd zq_51 (by decide +kernel), rfl⟩
theorem iX3_slow_116 : xl_D mX3_slow 116 (.aload_n 0) 1 117 := ⟨zd zq_0 (by decide +kernel), rfl⟩
theorem iX3_slow_117 : xl_D mX3_slow 117 (.iconst 0) 1 118 := ⟨zd zq_2 (by decide +kernel), rfl⟩
theorem iX3_slow_118 : xl_D mX3_slow 118 (.iconst 4) 1 119 := ⟨zd zq_63 (by decide +kernel), rfl⟩
theorem iX3_slow_119 : xl_Ca mX3_slow 119 mX3_of 122 := ⟨116, zd zq_555 (by decide +kernel), rfl, lX3_116, Nat.le_of_ble_eq_true rfl, Nat.le_of_ble_eq_true rfl⟩
theorem iX3_slow_122 : xl_Ca mX3_slow 122 mX3_isRipeBy 125 := ⟨143, zd zq_580 (by decide +kernel), rfl, lX3_143, Nat.le_of_ble_eq_true rfl, Nat.le_of_ble_eq_true rfl⟩
theorem iX3_slow_125 : xl_J mX3_slow 125 (fun o => .ifCond .ne o) 128 150 := ⟨25, zd zq_663 (by decide +kernel), rfl, rfl⟩
theorem iX3_slow_128 : xl_D mX3_slow 128 (.aload_n 0) 1 129 := ⟨zd zq_0 (by decide +kernel), rfl⟩
theorem iX3_slow_129 : xl_D mX3_slow 129 (.iconst 0) 1 130 := ⟨zd zq_2 (by decide +kernel), rfl⟩
theorem iX3_slow_130 : xl_D mX3_slow 130 (.iload 4) 2 132 := ⟨zd zq_51 (by decide +kernel), rfl⟩
theorem iX3_slow_132 : xl_D mX3_slow 132 (.aload_n 0) 1 133 := ⟨zd zq_0 (by decide +kernel), rfl⟩
theorem iX3_slow_133 : xl_D mX3_slow 133 (.iconst 0) 1 134 := ⟨zd zq_2 (by decide +kernel), rfl⟩
theorem iX3_slow_134 : xl_D mX3_slow 134 (.iconst 4) 1 135 := ⟨zd zq_63 (by decide +kernel), rfl⟩
theorem iX3_slow_135 : xl_Ca mX3_slow 135 mX3_of 138 := ⟨116, zd zq_555 (by decide +kernel), rfl, lX3_116, Nat.le_of_ble_eq_true rfl, Nat.le_of_ble_eq_true rfl⟩
theorem iX3_slow_138 : xl_D mX3_slow 138 (.iload_n 2) 1 139 := ⟨zd zq_6 (by decide +kernel), rfl⟩
theorem iX3_slow_139 : xl_D mX3_slow 139 (.iadd) 1 140 := ⟨zd zq_19 (by decide +kernel), rfl⟩
theorem iX3_slow_140 : xl_Ca mX3_slow 140 mX3_isRipeBy 143 := ⟨143, zd zq_580 (by decide +kernel), rfl, lX3_143, Nat.le_of_ble_eq_true rfl, Nat.le_of_ble_eq_true rfl⟩
theorem iX3_slow_143 : xl_J mX3_slow 143 (fun o => .ifCond .eq o) 146 150 := ⟨7, zd zq_193 (by decide +kernel), rfl, rfl⟩
theorem iX3_slow_146 : xl_D mX3_slow 146 (.iconst 1) 1 147 := ⟨zd zq_36 (by decide +kernel), rfl⟩
theorem iX3_slow_147 : xl_J mX3_slow 147 (fun o => .goto o) 150 151 := ⟨4, zd zq_139 (by decide +kernel), rfl, rfl⟩
theorem iX3_slow_150 : xl_D mX3_slow 150 (.iconst 0) 1 151 := ⟨zd zq_2 (by decide +kernel), rfl⟩
theorem iX3_slow_151 : xl_Cs mX3_slow 151 mX3_flag 154 := ⟨194, zd zq_613 (by decide +kernel), rfl, lX3_194, Nat.le_of_ble_eq_true rfl, Nat.le_of_ble_eq_true rfl⟩
theorem iX3_slow_154 : xl_D mX3_slow 154 (.iadd) 1 155 := ⟨zd zq_19 (by decide +kernel), rfl⟩
theorem iX3_slow_155 : xl_D mX3_slow 155 (.istore_n 3) 1 156 := ⟨zd zq_131 (by decide +kernel), rfl⟩
theorem iX3_slow_156 : xl_D mX3_slow 156 (.iinc 4 1) 3 159 := ⟨zd zq_54 (by decide +kernel), rfl⟩
theorem iX3_slow_159 : xl_J mX3_slow 159 (fun o => .goto o) 162 100 := ⟨-59, zd zq_304 (by decide +kernel), rfl, rfl⟩
theorem iX3_slow_162 : xl_D mX3_slow 162 (.aload_n 0) 1 163 := ⟨zd zq_0 (by decide +kernel), rfl⟩
theorem iX3_slow_163 : xl_D mX3_slow 163 (.iconst 0) 1 164 := ⟨zd zq_2 (by decide +kernel), rfl⟩
theorem iX3_slow_164 : xl_P mX3_slow 164 3 1 .int 167 := ⟨11, zd zq_501 (by decide +kernel), rfl, wX3_11⟩
theorem iX3_slow_167 : xl_D mX3_slow 167 (.aload_n 0) 1 168 := ⟨zd zq_0 (by decide +kernel), rfl⟩
theorem iX3_slow_168 : xl_D mX3_slow 168 (.iload_n 2) 1 169 := ⟨zd zq_6 (by decide +kernel), rfl⟩
theorem iX3_slow_169 : xl_D mX3_slow 169 (.i2l) 1 170 := ⟨zd zq_266 (by decide +kernel), rfl⟩
theorem iX3_slow_170 : xl_Ca mX3_slow 170 mX3_enters 173 := ⟨226, zd zq_357 (by decide +kernel), rfl, lX3_226, Nat.le_of_ble_eq_true rfl, Nat.le_of_ble_eq_true rfl⟩
theorem iX3_slow_173 : xl_D mX3_slow 173 (.aload_n 0) 1 174 := ⟨zd zq_0 (by decide +kernel), rfl⟩
theorem iX3_slow_174 : xl_D mX3_slow 174 (.iload_n 3) 1 175 := ⟨zd zq_25 (by decide +kernel), rfl⟩
theorem iX3_slow_175 : xl_D mX3_slow 175 (.i2l) 1 176 := ⟨zd zq_266 (by decide +kernel), rfl⟩
theorem iX3_slow_176 : xl_Ca mX3_slow 176 mX3_enters 179 := ⟨226, zd zq_357 (by decide +kernel), rfl, lX3_226, Nat.le_of_ble_eq_true rfl, Nat.le_of_ble_eq_true rfl⟩
theorem iX3_slow_179 : xl_D mX3_slow 179 (.iload_n 1) 1 180 := ⟨zd zq_3 (by decide +kernel), rfl⟩
theorem iX3_slow_180 : xl_D mX3_slow 180 (.ireturn) 1 181 := ⟨zd zq_17 (by decide +kernel), rfl⟩
theorem iX3_span_0 : xl_D mX3_span 0 (.aload_n 0) 1 1 := ⟨zd zq_0 (by decide +kernel), rfl⟩
theorem iX3_span_1 : xl_D mX3_span 1 (.iconst 0) 1 2 := ⟨zd zq_2 (by decide +kernel), rfl⟩
theorem iX3_span_2 : xl_P mX3_span 2 3 0 .int 5 := ⟨3, zd zq_502 (by decide +kernel), rfl, wX3_3⟩
theorem iX3_span_5 : xl_D mX3_span 5 (.iload_n 1) 1 6 := ⟨zd zq_3 (by decide +kernel), rfl⟩
theorem iX3_span_6 : xl_D mX3_span 6 (.i2l) 1 7 := ⟨zd zq_266 (by decide +kernel), rfl⟩
theorem iX3_span_7 : xl_D mX3_span 7 (.lconst 0) 1 8 := ⟨zd zq_506 (by decide +kernel), rfl⟩
theorem iX3_span_8 : xl_D mX3_span 8 (.ldc2_w 215) 3 11 := ⟨zd zq_625 (by decide +kernel), rfl⟩
theorem iX3_span_11 : xl_Cs mX3_span 11 mX3_in 14 := ⟨21, zd zq_507 (by decide +kernel), rfl, lX3_21, Nat.le_of_ble_eq_true rfl, Nat.le_of_ble_eq_true rfl⟩
theorem iX3_span_14 : xl_J mX3_span 14 (fun o => .ifCond .eq o) 17 30 := ⟨16, zd zq_628 (by decide +kernel), rfl, rfl⟩
theorem iX3_span_17 : xl_D mX3_span 17 (.iload_n 2) 1 18 := ⟨zd zq_6 (by decide +kernel), rfl⟩
theorem iX3_span_18 : xl_D mX3_span 18 (.i2l) 1 19 := ⟨zd zq_266 (by decide +kernel), rfl⟩
theorem iX3_span_19 : xl_D mX3_span 19 (.iload_n 1) 1 20 := ⟨zd zq_3 (by decide +kernel), rfl⟩
theorem iX3_span_20 : xl_D mX3_span 20 (.i2l) 1 21 := ⟨zd zq_266 (by decide +kernel), rfl⟩
theorem iX3_span_21 : xl_D mX3_span 21 (.ldc2_w 215) 3 24 := ⟨zd zq_625 (by decide +kernel), rfl⟩
theorem iX3_span_24 : xl_Cs mX3_span 24 mX3_in 27 := ⟨21, zd zq_507 (by decide +kernel), rfl, lX3_21, Nat.le_of_ble_eq_true rfl, Nat.le_of_ble_eq_true rfl⟩
theorem iX3_span_27 : xl_J mX3_span 27 (fun o => .ifCond .ne o) 30 32 := ⟨5, zd zq_246 (by decide +kernel), rfl, rfl⟩
theorem iX3_span_30 : xl_D mX3_span 30 (.iconst (-1)) 1 31 := ⟨zd zq_104 (by decide +kernel), rfl⟩
theorem iX3_span_31 : xl_D mX3_span 31 (.ireturn) 1 32 := ⟨zd zq_17 (by decide +kernel), rfl⟩
theorem iX3_span_32 : xl_D mX3_span 32 (.iconst 0) 1 33 := ⟨zd zq_2 (by decide +kernel), rfl⟩
theorem iX3_span_33 : xl_D mX3_span 33 (.istore_n 3) 1 34 := ⟨zd zq_131 (by decide +kernel), rfl⟩
theorem iX3_span_34 : xl_D mX3_span 34 (.iconst 0) 1 35 := ⟨zd zq_2 (by decide +kernel), rfl⟩
theorem iX3_span_35 : xl_D mX3_span 35 (.istore 4) 2 37 := ⟨zd zq_50 (by decide +kernel), rfl⟩
theorem iX3_span_37 : xl_D mX3_span 37 (.iconst (-1)) 1 38 := ⟨zd zq_104 (by decide +kernel), rfl⟩
theorem iX3_span_38 : xl_D mX3_span 38 (.istore 5) 2 40 := ⟨zd zq_91 (by decide +kernel), rfl⟩
theorem iX3_span_40 : xl_D mX3_span 40 (.iconst 0) 1 41 := ⟨zd zq_2 (by decide +kernel), rfl⟩
theorem iX3_span_41 : xl_D mX3_span 41 (.istore 6) 2 43 := ⟨zd zq_119 (by decide +kernel), rfl⟩
theorem iX3_span_43 : xl_D mX3_span 43 (.iconst 0) 1 44 := ⟨zd zq_2 (by decide +kernel), rfl⟩
theorem iX3_span_44 : xl_D mX3_span 44 (.istore 7) 2 46 := ⟨zd zq_122 (by decide +kernel), rfl⟩
theorem iX3_span_46 : xl_D mX3_span 46 (.iload 7) 2 48 := ⟨zd zq_124 (by decide +kernel), rfl⟩
theorem iX3_span_48 : xl_D mX3_span 48 (.bipush 6) 2 50 := ⟨zd zq_71 (by decide +kernel), rfl⟩
theorem iX3_span_50 : xl_J mX3_span 50 (fun o => .if_icmp .ge o) 53 202 := ⟨152, zd zq_664 (by decide +kernel), rfl, rfl⟩
theorem iX3_span_53 : xl_D mX3_span 53 (.iconst 0) 1 54 := ⟨zd zq_2 (by decide +kernel), rfl⟩
theorem iX3_span_54 : xl_D mX3_span 54 (.istore 8) 2 56 := ⟨zd zq_323 (by decide +kernel), rfl⟩
theorem iX3_span_56 : xl_D mX3_span 56 (.iconst 0) 1 57 := ⟨zd zq_2 (by decide +kernel), rfl⟩
theorem iX3_span_57 : xl_D mX3_span 57 (.istore 9) 2 59 := ⟨zd zq_324 (by decide +kernel), rfl⟩
theorem iX3_span_59 : xl_D mX3_span 59 (.iload 9) 2 61 := ⟨zd zq_325 (by decide +kernel), rfl⟩
theorem iX3_span_61 : xl_D mX3_span 61 (.aload_n 0) 1 62 := ⟨zd zq_0 (by decide +kernel), rfl⟩
theorem iX3_span_62 : xl_D mX3_span 62 (.iconst 0) 1 63 := ⟨zd zq_2 (by decide +kernel), rfl⟩
theorem iX3_span_63 : xl_D mX3_span 63 (.bipush 6) 2 65 := ⟨zd zq_71 (by decide +kernel), rfl⟩
theorem iX3_span_65 : xl_Ca mX3_span 65 mX3_of 68 := ⟨116, zd zq_555 (by decide +kernel), rfl, lX3_116, Nat.le_of_ble_eq_true rfl, Nat.le_of_ble_eq_true rfl⟩
theorem iX3_span_68 : xl_J mX3_span 68 (fun o => .if_icmp .ge o) 71 166 := ⟨98, zd zq_665 (by decide +kernel), rfl, rfl⟩
theorem iX3_span_71 : xl_D mX3_span 71 (.aload_n 0) 1 72 := ⟨zd zq_0 (by decide +kernel), rfl⟩
theorem iX3_span_72 : xl_D mX3_span 72 (.iload 9) 2 74 := ⟨zd zq_325 (by decide +kernel), rfl⟩
theorem iX3_span_74 : xl_D mX3_span 74 (.iconst 0) 1 75 := ⟨zd zq_2 (by decide +kernel), rfl⟩
theorem iX3_span_75 : xl_Ca mX3_span 75 mX3_ofInput 78 := ⟨277, zd zq_666 (by decide +kernel), rfl, lX3_277, Nat.le_of_ble_eq_true rfl, Nat.le_of_ble_eq_true rfl⟩
theorem iX3_span_78 : xl_J mX3_span 78 (fun o => .ifCond .ne o) 81 126 := ⟨48, zd zq_667 (by decide +kernel), rfl, rfl⟩
theorem iX3_span_81 : xl_D mX3_span 81 (.aload_n 0) 1 82 := ⟨zd zq_0 (by decide +kernel), rfl⟩
theorem iX3_span_82 : xl_D mX3_span 82 (.iload 9) 2 84 := ⟨zd zq_325 (by decide +kernel), rfl⟩
theorem iX3_span_84 : xl_D mX3_span 84 (.iconst 5) 1 85 := ⟨zd zq_64 (by decide +kernel), rfl⟩
theorem iX3_span_85 : xl_Ca mX3_span 85 mX3_ofInput 88 := ⟨277, zd zq_666 (by decide +kernel), rfl, lX3_277, Nat.le_of_ble_eq_true rfl, Nat.le_of_ble_eq_true rfl⟩
theorem iX3_span_88 : xl_D mX3_span 88 (.iconst 1) 1 89 := ⟨zd zq_36 (by decide +kernel), rfl⟩
theorem iX3_span_89 : xl_J mX3_span 89 (fun o => .if_icmp .ne o) 92 126 := ⟨37, zd zq_668 (by decide +kernel), rfl, rfl⟩
theorem iX3_span_92 : xl_D mX3_span 92 (.aload_n 0) 1 93 := ⟨zd zq_0 (by decide +kernel), rfl⟩
theorem iX3_span_93 : xl_D mX3_span 93 (.iload 9) 2 95 := ⟨zd zq_325 (by decide +kernel), rfl⟩
theorem iX3_span_95 : xl_D mX3_span 95 (.iconst 3) 1 96 := ⟨zd zq_123 (by decide +kernel), rfl⟩
theorem iX3_span_96 : xl_Ca mX3_span 96 mX3_ofInput 99 := ⟨277, zd zq_666 (by decide +kernel), rfl, lX3_277, Nat.le_of_ble_eq_true rfl, Nat.le_of_ble_eq_true rfl⟩
theorem iX3_span_99 : xl_D mX3_span 99 (.iload 7) 2 101 := ⟨zd zq_124 (by decide +kernel), rfl⟩
theorem iX3_span_101 : xl_J mX3_span 101 (fun o => .if_icmp .ne o) 104 126 := ⟨25, zd zq_669 (by decide +kernel), rfl, rfl⟩
theorem iX3_span_104 : xl_D mX3_span 104 (.aload_n 0) 1 105 := ⟨zd zq_0 (by decide +kernel), rfl⟩
theorem iX3_span_105 : xl_D mX3_span 105 (.iload 9) 2 107 := ⟨zd zq_325 (by decide +kernel), rfl⟩
theorem iX3_span_107 : xl_D mX3_span 107 (.iconst 2) 1 108 := ⟨zd zq_127 (by decide +kernel), rfl⟩
theorem iX3_span_108 : xl_Ca mX3_span 108 mX3_ofInput 111 := ⟨277, zd zq_666 (by decide +kernel), rfl, lX3_277, Nat.le_of_ble_eq_true rfl, Nat.le_of_ble_eq_true rfl⟩
theorem iX3_span_111 : xl_D mX3_span 111 (.i2l) 1 112 := ⟨zd zq_266 (by decide +kernel), rfl⟩
theorem iX3_span_112 : xl_D mX3_span 112 (.iload_n 1) 1 113 := ⟨zd zq_3 (by decide +kernel), rfl⟩
theorem iX3_span_113 : xl_D mX3_span 113 (.i2l) 1 114 := ⟨zd zq_266 (by decide +kernel), rfl⟩
theorem iX3_span_114 : xl_D mX3_span 114 (.iload_n 2) 1 115 := ⟨zd zq_6 (by decide +kernel), rfl⟩
theorem iX3_span_115 : xl_D mX3_span 115 (.i2l) 1 116 := ⟨zd zq_266 (by decide +kernel), rfl⟩
theorem iX3_span_116 : xl_Cs mX3_span 116 mX3_in 119 := ⟨21, zd zq_507 (by decide +kernel), rfl, lX3_21, Nat.le_of_ble_eq_true rfl, Nat.le_of_ble_eq_true rfl⟩
theorem iX3_span_119 : xl_J mX3_span 119 (fun o => .ifCond .eq o) 122 126 := ⟨7, zd zq_193 (by decide +kernel), rfl, rfl⟩
theorem iX3_span_122 : xl_D mX3_span 122 (.iconst 1) 1 123 := ⟨zd zq_36 (by decide +kernel), rfl⟩
theorem iX3_span_123 : xl_J mX3_span 123 (fun o => .goto o) 126 127 := ⟨4, zd zq_139 (by decide +kernel), rfl, rfl⟩
theorem iX3_span_126 : xl_D mX3_span 126 (.iconst 0) 1 127 := ⟨zd zq_2 (by decide +kernel), rfl⟩
theorem iX3_span_127 : xl_D mX3_span 127 (.istore 10) 2 129 := ⟨zd zq_327 (by decide +kernel), rfl⟩
theorem iX3_span_129 : xl_D mX3_span 129 (.iload 8) 2 131 := ⟨zd zq_336 (by decide +kernel), rfl⟩
theorem iX3_span_131 : xl_D mX3_span 131 (.iload 10) 2 133 := ⟨zd zq_330 (by decide +kernel), rfl⟩
theorem iX3_span_133 : xl_Cs mX3_span 133 mX3_flag 136 := ⟨194, zd zq_613 (by decide +kernel), rfl, lX3_194, Nat.le_of_ble_eq_true rfl, Nat.le_of_ble_eq_true rfl⟩
theorem iX3_span_136 : xl_D mX3_span 136 (.iadd) 1 137 := ⟨zd zq_19 (by decide +kernel), rfl⟩
theorem iX3_span_137 : xl_D mX3_span 137 (.istore 8) 2 139 := ⟨zd zq_323 (by decide +kernel), rfl⟩
theorem iX3_span_139 : xl_D mX3_span 139 (.iload 4) 2 141 := ⟨zd zq_51 (by decide +kernel), rfl⟩
theorem iX3_span_141 : xl_D mX3_span 141 (.iload 10) 2 143 := ⟨zd zq_330 (by decide +kernel), rfl⟩
theorem iX3_span_143 : xl_J mX3_span 143 (fun o => .ifCond .eq o) 146 156 := ⟨13, zd zq_295 (by decide +kernel), rfl, rfl⟩
theorem iX3_span_146 : xl_D mX3_span 146 (.aload_n 0) 1 147 := ⟨zd zq_0 (by decide +kernel), rfl⟩
theorem iX3_span_147 : xl_D mX3_span 147 (.iload 9) 2 149 := ⟨zd zq_325 (by decide +kernel), rfl⟩
theorem iX3_span_149 : xl_D mX3_span 149 (.iconst 4) 1 150 := ⟨zd zq_63 (by decide +kernel), rfl⟩
theorem iX3_span_150 : xl_Ca mX3_span 150 mX3_ofInput 153 := ⟨277, zd zq_666 (by decide +kernel), rfl, lX3_277, Nat.le_of_ble_eq_true rfl, Nat.le_of_ble_eq_true rfl⟩
theorem iX3_span_153 : xl_J mX3_span 153 (fun o => .goto o) 156 157 := ⟨4, zd zq_139 (by decide +kernel), rfl, rfl⟩
theorem iX3_span_156 : xl_D mX3_span 156 (.iconst 0) 1 157 := ⟨zd zq_2 (by decide +kernel), rfl⟩
theorem iX3_span_157 : xl_D mX3_span 157 (.iadd) 1 158 := ⟨zd zq_19 (by decide +kernel), rfl⟩
theorem iX3_span_158 : xl_D mX3_span 158 (.istore 4) 2 160 := ⟨zd zq_50 (by decide +kernel), rfl⟩
theorem iX3_span_160 : xl_D mX3_span 160 (.iinc 9 1) 3 163 := ⟨zd zq_334 (by decide +kernel), rfl⟩
theorem iX3_span_163 : xl_J mX3_span 163 (fun o => .goto o) 166 59 := ⟨-104, zd zq_670 (by decide +kernel), rfl, rfl⟩
theorem iX3_span_166 : xl_D mX3_span 166 (.iload_n 3) 1 167 := ⟨zd zq_25 (by decide +kernel), rfl⟩
theorem iX3_span_167 : xl_D mX3_span 167 (.iload 8) 2 169 := ⟨zd zq_336 (by decide +kernel), rfl⟩
theorem iX3_span_169 : xl_D mX3_span 169 (.iadd) 1 170 := ⟨zd zq_19 (by decide +kernel), rfl⟩
theorem iX3_span_170 : xl_D mX3_span 170 (.istore_n 3) 1 171 := ⟨zd zq_131 (by decide +kernel), rfl⟩
theorem iX3_span_171 : xl_D mX3_span 171 (.iload 8) 2 173 := ⟨zd zq_336 (by decide +kernel), rfl⟩
theorem iX3_span_173 : xl_D mX3_span 173 (.iload 6) 2 175 := ⟨zd zq_125 (by decide +kernel), rfl⟩
theorem iX3_span_175 : xl_J mX3_span 175 (fun o => .if_icmp .le o) 178 183 := ⟨8, zd zq_318 (by decide +kernel), rfl, rfl⟩
theorem iX3_span_178 : xl_D mX3_span 178 (.iload 7) 2 180 := ⟨zd zq_124 (by decide +kernel), rfl⟩
theorem iX3_span_180 : xl_J mX3_span 180 (fun o => .goto o) 183 185 := ⟨5, zd zq_300 (by decide +kernel), rfl, rfl⟩
theorem iX3_span_183 : xl_D mX3_span 183 (.iload 5) 2 185 := ⟨zd zq_92 (by decide +kernel), rfl⟩
theorem iX3_span_185 : xl_D mX3_span 185 (.istore 5) 2 187 := ⟨zd zq_91 (by decide +kernel), rfl⟩
theorem iX3_span_187 : xl_D mX3_span 187 (.iload 6) 2 189 := ⟨zd zq_125 (by decide +kernel), rfl⟩
theorem iX3_span_189 : xl_D mX3_span 189 (.iload 8) 2 191 := ⟨zd zq_336 (by decide +kernel), rfl⟩
theorem iX3_span_191 : xl_Cm mX3_span 191 Lib.Math.max.name Lib.Math.max.code 194 := ⟨176, zd zq_601 (by decide +kernel), rfl, lX3_176, xl_stmax, xl_iMath, xl_comax, Nat.le_of_ble_eq_true rfl, Nat.le_of_ble_eq_true rfl⟩
theorem iX3_span_194 : xl_D mX3_span 194 (.istore 6) 2 196 := ⟨zd zq_119 (by decide +kernel), rfl⟩
theorem iX3_span_196 : xl_D mX3_span 196 (.iinc 7 1) 3 199 := ⟨zd zq_177 (by decide +kernel), rfl⟩
theorem iX3_span_199 : xl_J mX3_span 199 (fun o => .goto o) 202 46 := ⟨-153, zd zq_671 (by decide +kernel), rfl, rfl⟩
theorem iX3_span_202 : xl_D mX3_span 202 (.aload_n 0) 1 203 := ⟨zd zq_0 (by decide +kernel), rfl⟩
theorem iX3_span_203 : xl_D mX3_span 203 (.iconst 0) 1 204 := ⟨zd zq_2 (by decide +kernel), rfl⟩
theorem iX3_span_204 : xl_P mX3_span 204 3 1 .int 207 := ⟨11, zd zq_501 (by decide +kernel), rfl, wX3_11⟩
theorem iX3_span_207 : xl_D mX3_span 207 (.aload_n 0) 1 208 := ⟨zd zq_0 (by decide +kernel), rfl⟩
theorem iX3_span_208 : xl_D mX3_span 208 (.iload 4) 2 210 := ⟨zd zq_51 (by decide +kernel), rfl⟩
theorem iX3_span_210 : xl_D mX3_span 210 (.i2l) 1 211 := ⟨zd zq_266 (by decide +kernel), rfl⟩
theorem iX3_span_211 : xl_Ca mX3_span 211 mX3_enters 214 := ⟨226, zd zq_357 (by decide +kernel), rfl, lX3_226, Nat.le_of_ble_eq_true rfl, Nat.le_of_ble_eq_true rfl⟩
theorem iX3_span_214 : xl_D mX3_span 214 (.aload_n 0) 1 215 := ⟨zd zq_0 (by decide +kernel), rfl⟩
theorem iX3_span_215 : xl_D mX3_span 215 (.iload 5) 2 217 := ⟨zd zq_92 (by decide +kernel), rfl⟩
theorem iX3_span_217 : xl_D mX3_span 217 (.i2l) 1 218 := ⟨zd zq_266 (by decide +kernel), rfl⟩
theorem iX3_span_218 : xl_Ca mX3_span 218 mX3_enters 221 := ⟨226, zd zq_357 (by decide +kernel), rfl, lX3_226, Nat.le_of_ble_eq_true rfl, Nat.le_of_ble_eq_true rfl⟩
theorem iX3_span_221 : xl_D mX3_span 221 (.aload_n 0) 1 222 := ⟨zd zq_0 (by decide +kernel), rfl⟩
theorem iX3_span_222 : xl_D mX3_span 222 (.iload 6) 2 224 := ⟨zd zq_125 (by decide +kernel), rfl⟩
theorem iX3_span_224 : xl_D mX3_span 224 (.i2l) 1 225 := ⟨zd zq_266 (by decide +kernel), rfl⟩
theorem iX3_span_225 : xl_Ca mX3_span 225 mX3_enters 228 := ⟨226, zd zq_357 (by decide +kernel), rfl, lX3_226, Nat.le_of_ble_eq_true rfl, Nat.le_of_ble_eq_true rfl⟩
theorem iX3_span_228 : xl_D mX3_span 228 (.iload_n 3) 1 229 := ⟨zd zq_25 (by decide +kernel), rfl⟩
theorem iX3_span_229 : xl_D mX3_span 229 (.ireturn) 1 230 := ⟨zd zq_17 (by decide +kernel), rfl⟩
theorem iX3_taken_0 : xl_D mX3_taken 0 (.aload_n 0) 1 1 := ⟨zd zq_0 (by decide +kernel), rfl⟩
theorem iX3_taken_1 : xl_D mX3_taken 1 (.iconst 0) 1 2 := ⟨zd zq_2 (by decide +kernel), rfl⟩
theorem iX3_taken_2 : xl_P mX3_taken 2 3 0 .int 5 := ⟨3, zd zq_502 (by decide +kernel), rfl, wX3_3⟩
theorem iX3_taken_5 : xl_D mX3_taken 5 (.aload_n 0) 1 6 := ⟨zd zq_0 (by decide +kernel), rfl⟩
theorem iX3_taken_6 : xl_D mX3_taken 6 (.iconst 0) 1 7 := ⟨zd zq_2 (by decide +kernel), rfl⟩
theorem iX3_taken_7 : xl_P mX3_taken 7 3 1 .int 10 := ⟨11, zd zq_501 (by decide +kernel), rfl, wX3_11⟩
theorem iX3_taken_10 : xl_D mX3_taken 10 (.aload_n 0) 1 11 := ⟨zd zq_0 (by decide +kernel), rfl⟩
theorem iX3_taken_11 : xl_D mX3_taken 11 (.aload_n 0) 1 12 := ⟨zd zq_0 (by decide +kernel), rfl⟩
theorem iX3_taken_12 : xl_D mX3_taken 12 (.iconst 0) 1 13 := ⟨zd zq_2 (by decide +kernel), rfl⟩
theorem iX3_taken_13 : xl_D mX3_taken 13 (.bipush 9) 2 15 := ⟨zd zq_271 (by decide +kernel), rfl⟩
theorem iX3_taken_15 : xl_Ca mX3_taken 15 mX3_of 18 := ⟨116, zd zq_555 (by decide +kernel), rfl, lX3_116, Nat.le_of_ble_eq_true rfl, Nat.le_of_ble_eq_true rfl⟩
theorem iX3_taken_18 : xl_D mX3_taken 18 (.i2l) 1 19 := ⟨zd zq_266 (by decide +kernel), rfl⟩
theorem iX3_taken_19 : xl_Ca mX3_taken 19 mX3_enters 22 := ⟨226, zd zq_357 (by decide +kernel), rfl, lX3_226, Nat.le_of_ble_eq_true rfl, Nat.le_of_ble_eq_true rfl⟩
theorem iX3_taken_22 : xl_D mX3_taken 22 (.aload_n 0) 1 23 := ⟨zd zq_0 (by decide +kernel), rfl⟩
theorem iX3_taken_23 : xl_D mX3_taken 23 (.aload_n 0) 1 24 := ⟨zd zq_0 (by decide +kernel), rfl⟩
theorem iX3_taken_24 : xl_D mX3_taken 24 (.iconst 0) 1 25 := ⟨zd zq_2 (by decide +kernel), rfl⟩
theorem iX3_taken_25 : xl_D mX3_taken 25 (.bipush 10) 2 27 := ⟨zd zq_78 (by decide +kernel), rfl⟩
theorem iX3_taken_27 : xl_Ca mX3_taken 27 mX3_of 30 := ⟨116, zd zq_555 (by decide +kernel), rfl, lX3_116, Nat.le_of_ble_eq_true rfl, Nat.le_of_ble_eq_true rfl⟩
theorem iX3_taken_30 : xl_D mX3_taken 30 (.i2l) 1 31 := ⟨zd zq_266 (by decide +kernel), rfl⟩
theorem iX3_taken_31 : xl_Ca mX3_taken 31 mX3_enters 34 := ⟨226, zd zq_357 (by decide +kernel), rfl, lX3_226, Nat.le_of_ble_eq_true rfl, Nat.le_of_ble_eq_true rfl⟩
theorem iX3_taken_34 : xl_D mX3_taken 34 (.aload_n 0) 1 35 := ⟨zd zq_0 (by decide +kernel), rfl⟩
theorem iX3_taken_35 : xl_D mX3_taken 35 (.aload_n 0) 1 36 := ⟨zd zq_0 (by decide +kernel), rfl⟩
theorem iX3_taken_36 : xl_D mX3_taken 36 (.iconst 0) 1 37 := ⟨zd zq_2 (by decide +kernel), rfl⟩
theorem iX3_taken_37 : xl_D mX3_taken 37 (.bipush 11) 2 39 := ⟨zd zq_612 (by decide +kernel), rfl⟩
theorem iX3_taken_39 : xl_Ca mX3_taken 39 mX3_of 42 := ⟨116, zd zq_555 (by decide +kernel), rfl, lX3_116, Nat.le_of_ble_eq_true rfl, Nat.le_of_ble_eq_true rfl⟩
theorem iX3_taken_42 : xl_D mX3_taken 42 (.i2l) 1 43 := ⟨zd zq_266 (by decide +kernel), rfl⟩
theorem iX3_taken_43 : xl_Ca mX3_taken 43 mX3_enters 46 := ⟨226, zd zq_357 (by decide +kernel), rfl, lX3_226, Nat.le_of_ble_eq_true rfl, Nat.le_of_ble_eq_true rfl⟩
theorem iX3_taken_46 : xl_D mX3_taken 46 (.aload_n 0) 1 47 := ⟨zd zq_0 (by decide +kernel), rfl⟩
theorem iX3_taken_47 : xl_D mX3_taken 47 (.iconst 0) 1 48 := ⟨zd zq_2 (by decide +kernel), rfl⟩
theorem iX3_taken_48 : xl_D mX3_taken 48 (.bipush 8) 2 50 := ⟨zd zq_76 (by decide +kernel), rfl⟩
theorem iX3_taken_50 : xl_Ca mX3_taken 50 mX3_of 53 := ⟨116, zd zq_555 (by decide +kernel), rfl, lX3_116, Nat.le_of_ble_eq_true rfl, Nat.le_of_ble_eq_true rfl⟩
theorem iX3_taken_53 : xl_D mX3_taken 53 (.ireturn) 1 54 := ⟨zd zq_17 (by decide +kernel), rfl⟩
theorem iX3_holds_0 : xl_D mX3_holds 0 (.aload_n 0) 1 1 := ⟨zd zq_0 (by decide +kernel), rfl⟩
theorem iX3_holds_1 : xl_D mX3_holds 1 (.iconst 0) 1 2 := ⟨zd zq_2 (by decide +kernel), rfl⟩
theorem iX3_holds_2 : xl_P mX3_holds 2 3 0 .int 5 := ⟨3, zd zq_502 (by decide +kernel), rfl, wX3_3⟩
theorem iX3_holds_5 : xl_D mX3_holds 5 (.aload_n 0) 1 6 := ⟨zd zq_0 (by decide +kernel), rfl⟩
theorem iX3_holds_6 : xl_D mX3_holds 6 (.iconst 0) 1 7 := ⟨zd zq_2 (by decide +kernel), rfl⟩
theorem iX3_holds_7 : xl_Ca mX3_holds 7 mX3_leastMark 10 := ⟨155, zd zq_588 (by decide +kernel), rfl, lX3_155, Nat.le_of_ble_eq_true rfl, Nat.le_of_ble_eq_true rfl⟩
theorem iX3_holds_10 : xl_D mX3_holds 10 (.istore_n 1) 1 11 := ⟨zd zq_194 (by decide +kernel), rfl⟩
theorem iX3_holds_11 : xl_D mX3_holds 11 (.iconst 0) 1 12 := ⟨zd zq_2 (by decide +kernel), rfl⟩
theorem iX3_holds_12 : xl_D mX3_holds 12 (.istore_n 2) 1 13 := ⟨zd zq_41 (by decide +kernel), rfl⟩
theorem iX3_holds_13 : xl_D mX3_holds 13 (.iconst 0) 1 14 := ⟨zd zq_2 (by decide +kernel), rfl⟩
theorem iX3_holds_14 : xl_D mX3_holds 14 (.istore_n 3) 1 15 := ⟨zd zq_131 (by decide +kernel), rfl⟩
theorem iX3_holds_15 : xl_D mX3_holds 15 (.iconst 0) 1 16 := ⟨zd zq_2 (by decide +kernel), rfl⟩
theorem iX3_holds_16 : xl_D mX3_holds 16 (.istore 4) 2 18 := ⟨zd zq_50 (by decide +kernel), rfl⟩
theorem iX3_holds_18 : xl_D mX3_holds 18 (.iload 4) 2 20 := ⟨zd zq_51 (by decide +kernel), rfl⟩
theorem iX3_holds_20 : xl_D mX3_holds 20 (.aload_n 0) 1 21 := ⟨zd zq_0 (by decide +kernel), rfl⟩
theorem iX3_holds_21 : xl_D mX3_holds 21 (.iconst 0) 1 22 := ⟨zd zq_2 (by decide +kernel), rfl⟩
theorem iX3_holds_22 : xl_D mX3_holds 22 (.iconst 0) 1 23 := ⟨zd zq_2 (by decide +kernel), rfl⟩
theorem iX3_holds_23 : xl_Ca mX3_holds 23 mX3_of 26 := ⟨116, zd zq_555 (by decide +kernel), rfl, lX3_116, Nat.le_of_ble_eq_true rfl, Nat.le_of_ble_eq_true rfl⟩
theorem iX3_holds_26 : xl_J mX3_holds 26 (fun o => .if_icmp .ge o) 29 91 := ⟨65, zd zq_672 (by decide +kernel), rfl, rfl⟩
theorem iX3_holds_29 : xl_D mX3_holds 29 (.iload_n 2) 1 30 := ⟨zd zq_6 (by decide +kernel), rfl⟩
theorem iX3_holds_30 : xl_D mX3_holds 30 (.aload_n 0) 1 31 := ⟨zd zq_0 (by decide +kernel), rfl⟩
theorem iX3_holds_31 : xl_D mX3_holds 31 (.iconst 0) 1 32 := ⟨zd zq_2 (by decide +kernel), rfl⟩
theorem iX3_holds_32 : xl_D mX3_holds 32 (.bipush 20) 2 34 := ⟨zd zq_96 (by decide +kernel), rfl⟩
theorem iX3_holds_34 : xl_D mX3_holds 34 (.iload 4) 2 36 := ⟨zd zq_51 (by decide +kernel), rfl⟩
theorem iX3_holds_36 : xl_D mX3_holds 36 (.iadd) 1 37 := ⟨zd zq_19 (by decide +kernel), rfl⟩
theorem iX3_holds_37 : xl_Ca mX3_holds 37 mX3_of 40 := ⟨116, zd zq_555 (by decide +kernel), rfl, lX3_116, Nat.le_of_ble_eq_true rfl, Nat.le_of_ble_eq_true rfl⟩
theorem iX3_holds_40 : xl_J mX3_holds 40 (fun o => .ifCond .ne o) 43 61 := ⟨21, zd zq_673 (by decide +kernel), rfl, rfl⟩
theorem iX3_holds_43 : xl_D mX3_holds 43 (.aload_n 0) 1 44 := ⟨zd zq_0 (by decide +kernel), rfl⟩
theorem iX3_holds_44 : xl_D mX3_holds 44 (.iconst 0) 1 45 := ⟨zd zq_2 (by decide +kernel), rfl⟩
theorem iX3_holds_45 : xl_D mX3_holds 45 (.bipush 12) 2 47 := ⟨zd zq_578 (by decide +kernel), rfl⟩
theorem iX3_holds_47 : xl_D mX3_holds 47 (.iload 4) 2 49 := ⟨zd zq_51 (by decide +kernel), rfl⟩
theorem iX3_holds_49 : xl_D mX3_holds 49 (.iadd) 1 50 := ⟨zd zq_19 (by decide +kernel), rfl⟩
theorem iX3_holds_50 : xl_Ca mX3_holds 50 mX3_of 53 := ⟨116, zd zq_555 (by decide +kernel), rfl, lX3_116, Nat.le_of_ble_eq_true rfl, Nat.le_of_ble_eq_true rfl⟩
theorem iX3_holds_53 : xl_D mX3_holds 53 (.iload_n 1) 1 54 := ⟨zd zq_3 (by decide +kernel), rfl⟩
theorem iX3_holds_54 : xl_J mX3_holds 54 (fun o => .if_icmp .ne o) 57 61 := ⟨7, zd zq_138 (by decide +kernel), rfl, rfl⟩
theorem iX3_holds_57 : xl_D mX3_holds 57 (.iconst 1) 1 58 := ⟨zd zq_36 (by decide +kernel), rfl⟩
theorem iX3_holds_58 : xl_J mX3_holds 58 (fun o => .goto o) 61 62 := ⟨4, zd zq_139 (by decide +kernel), rfl, rfl⟩
theorem iX3_holds_61 : xl_D mX3_holds 61 (.iconst 0) 1 62 := ⟨zd zq_2 (by decide +kernel), rfl⟩
theorem iX3_holds_62 : xl_Cs mX3_holds 62 mX3_flag 65 := ⟨194, zd zq_613 (by decide +kernel), rfl, lX3_194, Nat.le_of_ble_eq_true rfl, Nat.le_of_ble_eq_true rfl⟩
theorem iX3_holds_65 : xl_D mX3_holds 65 (.iload 4) 2 67 := ⟨zd zq_51 (by decide +kernel), rfl⟩
theorem iX3_holds_67 : xl_D mX3_holds 67 (.ishl) 1 68 := ⟨zd zq_345 (by decide +kernel), rfl⟩
theorem iX3_holds_68 : xl_D mX3_holds 68 (.ior) 1 69 := ⟨zd zq_346 (by decide +kernel), rfl⟩
theorem iX3_holds_69 : xl_D mX3_holds 69 (.istore_n 2) 1 70 := ⟨zd zq_41 (by decide +kernel), rfl⟩
theorem iX3_holds_70 : xl_D mX3_holds 70 (.iload_n 3) 1 71 := ⟨zd zq_25 (by decide +kernel), rfl⟩
theorem iX3_holds_71 : xl_D mX3_holds 71 (.aload_n 0) 1 72 := ⟨zd zq_0 (by decide +kernel), rfl⟩
theorem iX3_holds_72 : xl_D mX3_holds 72 (.iconst 0) 1 73 := ⟨zd zq_2 (by decide +kernel), rfl⟩
theorem iX3_holds_73 : xl_D mX3_holds 73 (.bipush 12) 2 75 := ⟨zd zq_578 (by decide +kernel), rfl⟩
theorem iX3_holds_75 : xl_D mX3_holds 75 (.iload 4) 2 77 := ⟨zd zq_51 (by decide +kernel), rfl⟩
theorem iX3_holds_77 : xl_D mX3_holds 77 (.iadd) 1 78 := ⟨zd zq_19 (by decide +kernel), rfl⟩
theorem iX3_holds_78 : xl_Ca mX3_holds 78 mX3_of 81 := ⟨116, zd zq_555 (by decide +kernel), rfl, lX3_116, Nat.le_of_ble_eq_true rfl, Nat.le_of_ble_eq_true rfl⟩
theorem iX3_holds_81 : xl_Cm mX3_holds 81 Lib.Math.max.name Lib.Math.max.code 84 := ⟨176, zd zq_601 (by decide +kernel), rfl, lX3_176, xl_stmax, xl_iMath, xl_comax, Nat.le_of_ble_eq_true rfl, Nat.le_of_ble_eq_true rfl⟩
theorem iX3_holds_84 : xl_D mX3_holds 84 (.istore_n 3) 1 85 := ⟨zd zq_131 (by decide +kernel), rfl⟩
theorem iX3_holds_85 : xl_D mX3_holds 85 (.iinc 4 1) 3 88 := ⟨zd zq_54 (by decide +kernel), rfl⟩
theorem iX3_holds_88 : xl_J mX3_holds 88 (fun o => .goto o) 91 18 := ⟨-70, zd zq_674 (by decide +kernel), rfl, rfl⟩
theorem iX3_holds_91 : xl_D mX3_holds 91 (.aload_n 0) 1 92 := ⟨zd zq_0 (by decide +kernel), rfl⟩
theorem iX3_holds_92 : xl_D mX3_holds 92 (.iconst 0) 1 93 := ⟨zd zq_2 (by decide +kernel), rfl⟩
theorem iX3_holds_93 : xl_P mX3_holds 93 3 1 .int 96 := ⟨11, zd zq_501 (by decide +kernel), rfl, wX3_11⟩
theorem iX3_holds_96 : xl_D mX3_holds 96 (.aload_n 0) 1 97 := ⟨zd zq_0 (by decide +kernel), rfl⟩
theorem iX3_holds_97 : xl_D mX3_holds 97 (.iload_n 1) 1 98 := ⟨zd zq_3 (by decide +kernel), rfl⟩
theorem iX3_holds_98 : xl_D mX3_holds 98 (.i2l) 1 99 := ⟨zd zq_266 (by decide +kernel), rfl⟩
theorem iX3_holds_99 : xl_Ca mX3_holds 99 mX3_enters 102 := ⟨226, zd zq_357 (by decide +kernel), rfl, lX3_226, Nat.le_of_ble_eq_true rfl, Nat.le_of_ble_eq_true rfl⟩
theorem iX3_holds_102 : xl_D mX3_holds 102 (.aload_n 0) 1 103 := ⟨zd zq_0 (by decide +kernel), rfl⟩
theorem iX3_holds_103 : xl_D mX3_holds 103 (.iload_n 3) 1 104 := ⟨zd zq_25 (by decide +kernel), rfl⟩
theorem iX3_holds_104 : xl_D mX3_holds 104 (.aload_n 0) 1 105 := ⟨zd zq_0 (by decide +kernel), rfl⟩
theorem iX3_holds_105 : xl_D mX3_holds 105 (.iconst 0) 1 106 := ⟨zd zq_2 (by decide +kernel), rfl⟩
theorem iX3_holds_106 : xl_D mX3_holds 106 (.iconst 4) 1 107 := ⟨zd zq_63 (by decide +kernel), rfl⟩
theorem iX3_holds_107 : xl_Ca mX3_holds 107 mX3_of 110 := ⟨116, zd zq_555 (by decide +kernel), rfl, lX3_116, Nat.le_of_ble_eq_true rfl, Nat.le_of_ble_eq_true rfl⟩
theorem iX3_holds_110 : xl_D mX3_holds 110 (.isub) 1 111 := ⟨zd zq_39 (by decide +kernel), rfl⟩
theorem iX3_holds_111 : xl_D mX3_holds 111 (.i2l) 1 112 := ⟨zd zq_266 (by decide +kernel), rfl⟩
theorem iX3_holds_112 : xl_Ca mX3_holds 112 mX3_enters 115 := ⟨226, zd zq_357 (by decide +kernel), rfl, lX3_226, Nat.le_of_ble_eq_true rfl, Nat.le_of_ble_eq_true rfl⟩
theorem iX3_holds_115 : xl_D mX3_holds 115 (.iload_n 2) 1 116 := ⟨zd zq_6 (by decide +kernel), rfl⟩
theorem iX3_holds_116 : xl_D mX3_holds 116 (.ireturn) 1 117 := ⟨zd zq_17 (by decide +kernel), rfl⟩
theorem iX3_next_0 : xl_D mX3_next 0 (.aload_n 0) 1 1 := ⟨zd zq_0 (by decide +kernel), rfl⟩
theorem iX3_next_1 : xl_D mX3_next 1 (.iconst 0) 1 2 := ⟨zd zq_2 (by decide +kernel), rfl⟩
theorem iX3_next_2 : xl_P mX3_next 2 3 0 .int 5 := ⟨3, zd zq_502 (by decide +kernel), rfl, wX3_3⟩
theorem iX3_next_5 : xl_D mX3_next 5 (.iconst (-1)) 1 6 := ⟨zd zq_104 (by decide +kernel), rfl⟩
theorem iX3_next_6 : xl_D mX3_next 6 (.istore_n 1) 1 7 := ⟨zd zq_194 (by decide +kernel), rfl⟩
theorem iX3_next_7 : xl_D mX3_next 7 (.iconst 0) 1 8 := ⟨zd zq_2 (by decide +kernel), rfl⟩
theorem iX3_next_8 : xl_D mX3_next 8 (.istore_n 2) 1 9 := ⟨zd zq_41 (by decide +kernel), rfl⟩
theorem iX3_next_9 : xl_D mX3_next 9 (.iload_n 2) 1 10 := ⟨zd zq_6 (by decide +kernel), rfl⟩
theorem iX3_next_10 : xl_D mX3_next 10 (.aload_n 0) 1 11 := ⟨zd zq_0 (by decide +kernel), rfl⟩
theorem iX3_next_11 : xl_D mX3_next 11 (.iconst 0) 1 12 := ⟨zd zq_2 (by decide +kernel), rfl⟩
theorem iX3_next_12 : xl_D mX3_next 12 (.iconst 5) 1 13 := ⟨zd zq_64 (by decide +kernel), rfl⟩
theorem iX3_next_13 : xl_Ca mX3_next 13 mX3_of 16 := ⟨116, zd zq_555 (by decide +kernel), rfl, lX3_116, Nat.le_of_ble_eq_true rfl, Nat.le_of_ble_eq_true rfl⟩
theorem iX3_next_16 : xl_J mX3_next 16 (fun o => .if_icmp .ge o) 19 73 := ⟨57, zd zq_675 (by decide +kernel), rfl, rfl⟩
theorem iX3_next_19 : xl_D mX3_next 19 (.aload_n 0) 1 20 := ⟨zd zq_0 (by decide +kernel), rfl⟩
theorem iX3_next_20 : xl_D mX3_next 20 (.iconst 0) 1 21 := ⟨zd zq_2 (by decide +kernel), rfl⟩
theorem iX3_next_21 : xl_D mX3_next 21 (.iload_n 2) 1 22 := ⟨zd zq_6 (by decide +kernel), rfl⟩
theorem iX3_next_22 : xl_D mX3_next 22 (.aload_n 0) 1 23 := ⟨zd zq_0 (by decide +kernel), rfl⟩
theorem iX3_next_23 : xl_D mX3_next 23 (.iconst 0) 1 24 := ⟨zd zq_2 (by decide +kernel), rfl⟩
theorem iX3_next_24 : xl_D mX3_next 24 (.iconst 4) 1 25 := ⟨zd zq_63 (by decide +kernel), rfl⟩
theorem iX3_next_25 : xl_Ca mX3_next 25 mX3_of 28 := ⟨116, zd zq_555 (by decide +kernel), rfl, lX3_116, Nat.le_of_ble_eq_true rfl, Nat.le_of_ble_eq_true rfl⟩
theorem iX3_next_28 : xl_Ca mX3_next 28 mX3_isRipeBy 31 := ⟨143, zd zq_580 (by decide +kernel), rfl, lX3_143, Nat.le_of_ble_eq_true rfl, Nat.le_of_ble_eq_true rfl⟩
theorem iX3_next_31 : xl_J mX3_next 31 (fun o => .ifCond .ne o) 34 38 := ⟨7, zd zq_192 (by decide +kernel), rfl, rfl⟩
theorem iX3_next_34 : xl_D mX3_next 34 (.iconst 1) 1 35 := ⟨zd zq_36 (by decide +kernel), rfl⟩
theorem iX3_next_35 : xl_J mX3_next 35 (fun o => .goto o) 38 39 := ⟨4, zd zq_139 (by decide +kernel), rfl, rfl⟩
theorem iX3_next_38 : xl_D mX3_next 38 (.iconst 0) 1 39 := ⟨zd zq_2 (by decide +kernel), rfl⟩
theorem iX3_next_39 : xl_D mX3_next 39 (.istore_n 3) 1 40 := ⟨zd zq_131 (by decide +kernel), rfl⟩
theorem iX3_next_40 : xl_D mX3_next 40 (.iload_n 3) 1 41 := ⟨zd zq_25 (by decide +kernel), rfl⟩
theorem iX3_next_41 : xl_J mX3_next 41 (fun o => .ifCond .eq o) 44 67 := ⟨26, zd zq_596 (by decide +kernel), rfl, rfl⟩
theorem iX3_next_44 : xl_D mX3_next 44 (.iload_n 1) 1 45 := ⟨zd zq_3 (by decide +kernel), rfl⟩
theorem iX3_next_45 : xl_J mX3_next 45 (fun o => .ifCond .lt o) 48 65 := ⟨20, zd zq_237 (by decide +kernel), rfl, rfl⟩
theorem iX3_next_48 : xl_D mX3_next 48 (.aload_n 0) 1 49 := ⟨zd zq_0 (by decide +kernel), rfl⟩
theorem iX3_next_49 : xl_D mX3_next 49 (.iconst 0) 1 50 := ⟨zd zq_2 (by decide +kernel), rfl⟩
theorem iX3_next_50 : xl_D mX3_next 50 (.iload_n 2) 1 51 := ⟨zd zq_6 (by decide +kernel), rfl⟩
theorem iX3_next_51 : xl_D mX3_next 51 (.iconst 2) 1 52 := ⟨zd zq_127 (by decide +kernel), rfl⟩
theorem iX3_next_52 : xl_Ca mX3_next 52 mX3_ofSession 55 := ⟨136, zd zq_568 (by decide +kernel), rfl, lX3_136, Nat.le_of_ble_eq_true rfl, Nat.le_of_ble_eq_true rfl⟩
theorem iX3_next_55 : xl_D mX3_next 55 (.aload_n 0) 1 56 := ⟨zd zq_0 (by decide +kernel), rfl⟩
theorem iX3_next_56 : xl_D mX3_next 56 (.iconst 0) 1 57 := ⟨zd zq_2 (by decide +kernel), rfl⟩
theorem iX3_next_57 : xl_D mX3_next 57 (.iload_n 1) 1 58 := ⟨zd zq_3 (by decide +kernel), rfl⟩
theorem iX3_next_58 : xl_D mX3_next 58 (.iconst 2) 1 59 := ⟨zd zq_127 (by decide +kernel), rfl⟩
theorem iX3_next_59 : xl_Ca mX3_next 59 mX3_ofSession 62 := ⟨136, zd zq_568 (by decide +kernel), rfl, lX3_136, Nat.le_of_ble_eq_true rfl, Nat.le_of_ble_eq_true rfl⟩
theorem iX3_next_62 : xl_J mX3_next 62 (fun o => .if_icmp .ge o) 65 67 := ⟨5, zd zq_144 (by decide +kernel), rfl, rfl⟩
theorem iX3_next_65 : xl_D mX3_next 65 (.iload_n 2) 1 66 := ⟨zd zq_6 (by decide +kernel), rfl⟩
theorem iX3_next_66 : xl_D mX3_next 66 (.istore_n 1) 1 67 := ⟨zd zq_194 (by decide +kernel), rfl⟩
theorem iX3_next_67 : xl_D mX3_next 67 (.iinc 2 1) 3 70 := ⟨zd zq_44 (by decide +kernel), rfl⟩
theorem iX3_next_70 : xl_J mX3_next 70 (fun o => .goto o) 73 9 := ⟨-61, zd zq_161 (by decide +kernel), rfl, rfl⟩
theorem iX3_next_73 : xl_D mX3_next 73 (.iload_n 1) 1 74 := ⟨zd zq_3 (by decide +kernel), rfl⟩
theorem iX3_next_74 : xl_J mX3_next 74 (fun o => .ifCond .ge o) 77 80 := ⟨6, zd zq_263 (by decide +kernel), rfl, rfl⟩
theorem iX3_next_77 : xl_D mX3_next 77 (.bipush (-2)) 2 79 := ⟨zd zq_256 (by decide +kernel), rfl⟩
theorem iX3_next_79 : xl_D mX3_next 79 (.ireturn) 1 80 := ⟨zd zq_17 (by decide +kernel), rfl⟩
theorem iX3_next_80 : xl_D mX3_next 80 (.aload_n 0) 1 81 := ⟨zd zq_0 (by decide +kernel), rfl⟩
theorem iX3_next_81 : xl_D mX3_next 81 (.iconst 0) 1 82 := ⟨zd zq_2 (by decide +kernel), rfl⟩
theorem iX3_next_82 : xl_P mX3_next 82 3 1 .int 85 := ⟨11, zd zq_501 (by decide +kernel), rfl, wX3_11⟩
theorem iX3_next_85 : xl_D mX3_next 85 (.aload_n 0) 1 86 := ⟨zd zq_0 (by decide +kernel), rfl⟩
theorem iX3_next_86 : xl_D mX3_next 86 (.aload_n 0) 1 87 := ⟨zd zq_0 (by decide +kernel), rfl⟩
theorem iX3_next_87 : xl_D mX3_next 87 (.iconst 0) 1 88 := ⟨zd zq_2 (by decide +kernel), rfl⟩
theorem iX3_next_88 : xl_D mX3_next 88 (.iload_n 1) 1 89 := ⟨zd zq_3 (by decide +kernel), rfl⟩
theorem iX3_next_89 : xl_D mX3_next 89 (.iconst 2) 1 90 := ⟨zd zq_127 (by decide +kernel), rfl⟩
theorem iX3_next_90 : xl_Ca mX3_next 90 mX3_ofSession 93 := ⟨136, zd zq_568 (by decide +kernel), rfl, lX3_136, Nat.le_of_ble_eq_true rfl, Nat.le_of_ble_eq_true rfl⟩
theorem iX3_next_93 : xl_D mX3_next 93 (.aload_n 0) 1 94 := ⟨zd zq_0 (by decide +kernel), rfl⟩
theorem iX3_next_94 : xl_D mX3_next 94 (.iconst 0) 1 95 := ⟨zd zq_2 (by decide +kernel), rfl⟩
theorem iX3_next_95 : xl_D mX3_next 95 (.iconst 1) 1 96 := ⟨zd zq_36 (by decide +kernel), rfl⟩
theorem iX3_next_96 : xl_Ca mX3_next 96 mX3_of 99 := ⟨116, zd zq_555 (by decide +kernel), rfl, lX3_116, Nat.le_of_ble_eq_true rfl, Nat.le_of_ble_eq_true rfl⟩
theorem iX3_next_99 : xl_D mX3_next 99 (.iadd) 1 100 := ⟨zd zq_19 (by decide +kernel), rfl⟩
theorem iX3_next_100 : xl_D mX3_next 100 (.iconst 1) 1 101 := ⟨zd zq_36 (by decide +kernel), rfl⟩
theorem iX3_next_101 : xl_D mX3_next 101 (.iadd) 1 102 := ⟨zd zq_19 (by decide +kernel), rfl⟩
theorem iX3_next_102 : xl_D mX3_next 102 (.aload_n 0) 1 103 := ⟨zd zq_0 (by decide +kernel), rfl⟩
theorem iX3_next_103 : xl_D mX3_next 103 (.iconst 0) 1 104 := ⟨zd zq_2 (by decide +kernel), rfl⟩
theorem iX3_next_104 : xl_D mX3_next 104 (.iconst 4) 1 105 := ⟨zd zq_63 (by decide +kernel), rfl⟩
theorem iX3_next_105 : xl_Ca mX3_next 105 mX3_of 108 := ⟨116, zd zq_555 (by decide +kernel), rfl, lX3_116, Nat.le_of_ble_eq_true rfl, Nat.le_of_ble_eq_true rfl⟩
theorem iX3_next_108 : xl_D mX3_next 108 (.isub) 1 109 := ⟨zd zq_39 (by decide +kernel), rfl⟩
theorem iX3_next_109 : xl_D mX3_next 109 (.i2l) 1 110 := ⟨zd zq_266 (by decide +kernel), rfl⟩
theorem iX3_next_110 : xl_Ca mX3_next 110 mX3_enters 113 := ⟨226, zd zq_357 (by decide +kernel), rfl, lX3_226, Nat.le_of_ble_eq_true rfl, Nat.le_of_ble_eq_true rfl⟩
theorem iX3_next_113 : xl_D mX3_next 113 (.iload_n 1) 1 114 := ⟨zd zq_3 (by decide +kernel), rfl⟩
theorem iX3_next_114 : xl_D mX3_next 114 (.ireturn) 1 115 := ⟨zd zq_17 (by decide +kernel), rfl⟩
theorem iX3_ahead_0 : xl_D mX3_ahead 0 (.aload_n 0) 1 1 := ⟨zd zq_0 (by decide +kernel), rfl⟩
theorem iX3_ahead_1 : xl_D mX3_ahead 1 (.iconst 0) 1 2 := ⟨zd zq_2 (by decide +kernel), rfl⟩
theorem iX3_ahead_2 : xl_P mX3_ahead 2 3 0 .int 5 := ⟨3, zd zq_502 (by decide +kernel), rfl, wX3_3⟩
theorem iX3_ahead_5 : xl_D mX3_ahead 5 (.iload_n 1) 1 6 := ⟨zd zq_3 (by decide +kernel), rfl⟩
theorem iX3_ahead_6 : xl_D mX3_ahead 6 (.i2l) 1 7 := ⟨zd zq_266 (by decide +kernel), rfl⟩
theorem iX3_ahead_7 : xl_D mX3_ahead 7 (.lconst 0) 1 8 := ⟨zd zq_506 (by decide +kernel), rfl⟩
theorem iX3_ahead_8 : xl_D mX3_ahead 8 (.ldc2_w 251) 3 11 := ⟨zd zq_645 (by decide +kernel), rfl⟩
theorem iX3_ahead_11 : xl_Cs mX3_ahead 11 mX3_in 14 := ⟨21, zd zq_507 (by decide +kernel), rfl, lX3_21, Nat.le_of_ble_eq_true rfl, Nat.le_of_ble_eq_true rfl⟩
theorem iX3_ahead_14 : xl_J mX3_ahead 14 (fun o => .ifCond .ne o) 17 19 := ⟨5, zd zq_246 (by decide +kernel), rfl, rfl⟩
theorem iX3_ahead_17 : xl_D mX3_ahead 17 (.iconst (-1)) 1 18 := ⟨zd zq_104 (by decide +kernel), rfl⟩
theorem iX3_ahead_18 : xl_D mX3_ahead 18 (.ireturn) 1 19 := ⟨zd zq_17 (by decide +kernel), rfl⟩
theorem iX3_ahead_19 : xl_D mX3_ahead 19 (.iload_n 1) 1 20 := ⟨zd zq_3 (by decide +kernel), rfl⟩
theorem iX3_ahead_20 : xl_D mX3_ahead 20 (.aload_n 0) 1 21 := ⟨zd zq_0 (by decide +kernel), rfl⟩
theorem iX3_ahead_21 : xl_D mX3_ahead 21 (.iconst 0) 1 22 := ⟨zd zq_2 (by decide +kernel), rfl⟩
theorem iX3_ahead_22 : xl_D mX3_ahead 22 (.iconst 4) 1 23 := ⟨zd zq_63 (by decide +kernel), rfl⟩
theorem iX3_ahead_23 : xl_Ca mX3_ahead 23 mX3_of 26 := ⟨116, zd zq_555 (by decide +kernel), rfl, lX3_116, Nat.le_of_ble_eq_true rfl, Nat.le_of_ble_eq_true rfl⟩
theorem iX3_ahead_26 : xl_J mX3_ahead 26 (fun o => .if_icmp .ge o) 29 32 := ⟨6, zd zq_351 (by decide +kernel), rfl, rfl⟩
theorem iX3_ahead_29 : xl_D mX3_ahead 29 (.bipush (-2)) 2 31 := ⟨zd zq_256 (by decide +kernel), rfl⟩
theorem iX3_ahead_31 : xl_D mX3_ahead 31 (.ireturn) 1 32 := ⟨zd zq_17 (by decide +kernel), rfl⟩
theorem iX3_ahead_32 : xl_D mX3_ahead 32 (.iconst 0) 1 33 := ⟨zd zq_2 (by decide +kernel), rfl⟩
theorem iX3_ahead_33 : xl_D mX3_ahead 33 (.istore_n 2) 1 34 := ⟨zd zq_41 (by decide +kernel), rfl⟩
theorem iX3_ahead_34 : xl_D mX3_ahead 34 (.iconst 0) 1 35 := ⟨zd zq_2 (by decide +kernel), rfl⟩
theorem iX3_ahead_35 : xl_D mX3_ahead 35 (.istore_n 3) 1 36 := ⟨zd zq_131 (by decide +kernel), rfl⟩
theorem iX3_ahead_36 : xl_D mX3_ahead 36 (.iconst 0) 1 37 := ⟨zd zq_2 (by decide +kernel), rfl⟩
theorem iX3_ahead_37 : xl_D mX3_ahead 37 (.istore 4) 2 39 := ⟨zd zq_50 (by decide +kernel), rfl⟩
theorem iX3_ahead_39 : xl_D mX3_ahead 39 (.iload 4) 2 41 := ⟨zd zq_51 (by decide +kernel), rfl⟩
theorem iX3_ahead_41 : xl_D mX3_ahead 41 (.aload_n 0) 1 42 := ⟨zd zq_0 (by decide +kernel), rfl⟩
theorem iX3_ahead_42 : xl_D mX3_ahead 42 (.iconst 0) 1 43 := ⟨zd zq_2 (by decide +kernel), rfl⟩
theorem iX3_ahead_43 : xl_D mX3_ahead 43 (.iconst 5) 1 44 := ⟨zd zq_64 (by decide +kernel), rfl⟩
theorem iX3_ahead_44 : xl_Ca mX3_ahead 44 mX3_of 47 := ⟨116, zd zq_555 (by decide +kernel), rfl, lX3_116, Nat.le_of_ble_eq_true rfl, Nat.le_of_ble_eq_true rfl⟩
theorem iX3_ahead_47 : xl_J mX3_ahead 47 (fun o => .if_icmp .ge o) 50 108 := ⟨61, zd zq_457 (by decide +kernel), rfl, rfl⟩
theorem iX3_ahead_50 : xl_D mX3_ahead 50 (.iload_n 2) 1 51 := ⟨zd zq_6 (by decide +kernel), rfl⟩
theorem iX3_ahead_51 : xl_D mX3_ahead 51 (.aload_n 0) 1 52 := ⟨zd zq_0 (by decide +kernel), rfl⟩
theorem iX3_ahead_52 : xl_D mX3_ahead 52 (.iconst 0) 1 53 := ⟨zd zq_2 (by decide +kernel), rfl⟩
theorem iX3_ahead_53 : xl_D mX3_ahead 53 (.iload 4) 2 55 := ⟨zd zq_51 (by decide +kernel), rfl⟩
theorem iX3_ahead_55 : xl_D mX3_ahead 55 (.iload_n 1) 1 56 := ⟨zd zq_3 (by decide +kernel), rfl⟩
theorem iX3_ahead_56 : xl_Ca mX3_ahead 56 mX3_isRipeBy 59 := ⟨143, zd zq_580 (by decide +kernel), rfl, lX3_143, Nat.le_of_ble_eq_true rfl, Nat.le_of_ble_eq_true rfl⟩
theorem iX3_ahead_59 : xl_J mX3_ahead 59 (fun o => .ifCond .eq o) 62 82 := ⟨23, zd zq_676 (by decide +kernel), rfl, rfl⟩
theorem iX3_ahead_62 : xl_D mX3_ahead 62 (.aload_n 0) 1 63 := ⟨zd zq_0 (by decide +kernel), rfl⟩
theorem iX3_ahead_63 : xl_D mX3_ahead 63 (.iconst 0) 1 64 := ⟨zd zq_2 (by decide +kernel), rfl⟩
theorem iX3_ahead_64 : xl_D mX3_ahead 64 (.iload 4) 2 66 := ⟨zd zq_51 (by decide +kernel), rfl⟩
theorem iX3_ahead_66 : xl_D mX3_ahead 66 (.aload_n 0) 1 67 := ⟨zd zq_0 (by decide +kernel), rfl⟩
theorem iX3_ahead_67 : xl_D mX3_ahead 67 (.iconst 0) 1 68 := ⟨zd zq_2 (by decide +kernel), rfl⟩
theorem iX3_ahead_68 : xl_D mX3_ahead 68 (.iconst 4) 1 69 := ⟨zd zq_63 (by decide +kernel), rfl⟩
theorem iX3_ahead_69 : xl_Ca mX3_ahead 69 mX3_of 72 := ⟨116, zd zq_555 (by decide +kernel), rfl, lX3_116, Nat.le_of_ble_eq_true rfl, Nat.le_of_ble_eq_true rfl⟩
theorem iX3_ahead_72 : xl_Ca mX3_ahead 72 mX3_isRipeBy 75 := ⟨143, zd zq_580 (by decide +kernel), rfl, lX3_143, Nat.le_of_ble_eq_true rfl, Nat.le_of_ble_eq_true rfl⟩
theorem iX3_ahead_75 : xl_J mX3_ahead 75 (fun o => .ifCond .ne o) 78 82 := ⟨7, zd zq_192 (by decide +kernel), rfl, rfl⟩
theorem iX3_ahead_78 : xl_D mX3_ahead 78 (.iconst 1) 1 79 := ⟨zd zq_36 (by decide +kernel), rfl⟩
theorem iX3_ahead_79 : xl_J mX3_ahead 79 (fun o => .goto o) 82 83 := ⟨4, zd zq_139 (by decide +kernel), rfl, rfl⟩
theorem iX3_ahead_82 : xl_D mX3_ahead 82 (.iconst 0) 1 83 := ⟨zd zq_2 (by decide +kernel), rfl⟩
theorem iX3_ahead_83 : xl_Cs mX3_ahead 83 mX3_flag 86 := ⟨194, zd zq_613 (by decide +kernel), rfl, lX3_194, Nat.le_of_ble_eq_true rfl, Nat.le_of_ble_eq_true rfl⟩
theorem iX3_ahead_86 : xl_D mX3_ahead 86 (.iadd) 1 87 := ⟨zd zq_19 (by decide +kernel), rfl⟩
theorem iX3_ahead_87 : xl_D mX3_ahead 87 (.istore_n 2) 1 88 := ⟨zd zq_41 (by decide +kernel), rfl⟩
theorem iX3_ahead_88 : xl_D mX3_ahead 88 (.iload_n 3) 1 89 := ⟨zd zq_25 (by decide +kernel), rfl⟩
theorem iX3_ahead_89 : xl_D mX3_ahead 89 (.aload_n 0) 1 90 := ⟨zd zq_0 (by decide +kernel), rfl⟩
theorem iX3_ahead_90 : xl_D mX3_ahead 90 (.iconst 0) 1 91 := ⟨zd zq_2 (by decide +kernel), rfl⟩
theorem iX3_ahead_91 : xl_D mX3_ahead 91 (.iload 4) 2 93 := ⟨zd zq_51 (by decide +kernel), rfl⟩
theorem iX3_ahead_93 : xl_D mX3_ahead 93 (.iload_n 1) 1 94 := ⟨zd zq_3 (by decide +kernel), rfl⟩
theorem iX3_ahead_94 : xl_Ca mX3_ahead 94 mX3_isClosedBy 97 := ⟨170, zd zq_307 (by decide +kernel), rfl, lX3_170, Nat.le_of_ble_eq_true rfl, Nat.le_of_ble_eq_true rfl⟩
theorem iX3_ahead_97 : xl_Cs mX3_ahead 97 mX3_flag 100 := ⟨194, zd zq_613 (by decide +kernel), rfl, lX3_194, Nat.le_of_ble_eq_true rfl, Nat.le_of_ble_eq_true rfl⟩
theorem iX3_ahead_100 : xl_D mX3_ahead 100 (.iadd) 1 101 := ⟨zd zq_19 (by decide +kernel), rfl⟩
theorem iX3_ahead_101 : xl_D mX3_ahead 101 (.istore_n 3) 1 102 := ⟨zd zq_131 (by decide +kernel), rfl⟩
theorem iX3_ahead_102 : xl_D mX3_ahead 102 (.iinc 4 1) 3 105 := ⟨zd zq_54 (by decide +kernel), rfl⟩
theorem iX3_ahead_105 : xl_J mX3_ahead 105 (fun o => .goto o) 108 39 := ⟨-66, zd zq_677 (by decide +kernel), rfl, rfl⟩
theorem iX3_ahead_108 : xl_D mX3_ahead 108 (.aload_n 0) 1 109 := ⟨zd zq_0 (by decide +kernel), rfl⟩
theorem iX3_ahead_109 : xl_D mX3_ahead 109 (.iconst 0) 1 110 := ⟨zd zq_2 (by decide +kernel), rfl⟩
theorem iX3_ahead_110 : xl_P mX3_ahead 110 3 1 .int 113 := ⟨11, zd zq_501 (by decide +kernel), rfl, wX3_11⟩
theorem iX3_ahead_113 : xl_D mX3_ahead 113 (.aload_n 0) 1 114 := ⟨zd zq_0 (by decide +kernel), rfl⟩
theorem iX3_ahead_114 : xl_D mX3_ahead 114 (.iload_n 3) 1 115 := ⟨zd zq_25 (by decide +kernel), rfl⟩
theorem iX3_ahead_115 : xl_D mX3_ahead 115 (.i2l) 1 116 := ⟨zd zq_266 (by decide +kernel), rfl⟩
theorem iX3_ahead_116 : xl_Ca mX3_ahead 116 mX3_enters 119 := ⟨226, zd zq_357 (by decide +kernel), rfl, lX3_226, Nat.le_of_ble_eq_true rfl, Nat.le_of_ble_eq_true rfl⟩
theorem iX3_ahead_119 : xl_D mX3_ahead 119 (.iload_n 2) 1 120 := ⟨zd zq_6 (by decide +kernel), rfl⟩
theorem iX3_ahead_120 : xl_D mX3_ahead 120 (.ireturn) 1 121 := ⟨zd zq_17 (by decide +kernel), rfl⟩
theorem iX3_would_0 : xl_D mX3_would 0 (.aload_n 0) 1 1 := ⟨zd zq_0 (by decide +kernel), rfl⟩
theorem iX3_would_1 : xl_D mX3_would 1 (.iconst 0) 1 2 := ⟨zd zq_2 (by decide +kernel), rfl⟩
theorem iX3_would_2 : xl_P mX3_would 2 3 0 .int 5 := ⟨3, zd zq_502 (by decide +kernel), rfl, wX3_3⟩
theorem iX3_would_5 : xl_D mX3_would 5 (.aload_n 0) 1 6 := ⟨zd zq_0 (by decide +kernel), rfl⟩
theorem iX3_would_6 : xl_D mX3_would 6 (.iload_n 1) 1 7 := ⟨zd zq_3 (by decide +kernel), rfl⟩
theorem iX3_would_7 : xl_D mX3_would 7 (.iload_n 2) 1 8 := ⟨zd zq_6 (by decide +kernel), rfl⟩
theorem iX3_would_8 : xl_D mX3_would 8 (.iload_n 3) 1 9 := ⟨zd zq_25 (by decide +kernel), rfl⟩
theorem iX3_would_9 : xl_D mX3_would 9 (.iload 4) 2 11 := ⟨zd zq_51 (by decide +kernel), rfl⟩
theorem iX3_would_11 : xl_Ca mX3_would 11 mX3_isEvent 14 := ⟨219, zd zq_629 (by decide +kernel), rfl, lX3_219, Nat.le_of_ble_eq_true rfl, Nat.le_of_ble_eq_true rfl⟩
theorem iX3_would_14 : xl_J mX3_would 14 (fun o => .ifCond .ne o) 17 19 := ⟨5, zd zq_246 (by decide +kernel), rfl, rfl⟩
theorem iX3_would_17 : xl_D mX3_would 17 (.iconst (-1)) 1 18 := ⟨zd zq_104 (by decide +kernel), rfl⟩
theorem iX3_would_18 : xl_D mX3_would 18 (.ireturn) 1 19 := ⟨zd zq_17 (by decide +kernel), rfl⟩
theorem iX3_would_19 : xl_D mX3_would 19 (.aload_n 0) 1 20 := ⟨zd zq_0 (by decide +kernel), rfl⟩
theorem iX3_would_20 : xl_D mX3_would 20 (.iconst 0) 1 21 := ⟨zd zq_2 (by decide +kernel), rfl⟩
theorem iX3_would_21 : xl_D mX3_would 21 (.iconst 4) 1 22 := ⟨zd zq_63 (by decide +kernel), rfl⟩
theorem iX3_would_22 : xl_Ca mX3_would 22 mX3_copies 25 := ⟨95, zd zq_545 (by decide +kernel), rfl, lX3_95, Nat.le_of_ble_eq_true rfl, Nat.le_of_ble_eq_true rfl⟩
theorem iX3_would_25 : xl_D mX3_would 25 (.aload_n 0) 1 26 := ⟨zd zq_0 (by decide +kernel), rfl⟩
theorem iX3_would_26 : xl_D mX3_would 26 (.iconst 4) 1 27 := ⟨zd zq_63 (by decide +kernel), rfl⟩
theorem iX3_would_27 : xl_D mX3_would 27 (.bipush 6) 2 29 := ⟨zd zq_71 (by decide +kernel), rfl⟩
theorem iX3_would_29 : xl_D mX3_would 29 (.iconst 0) 1 30 := ⟨zd zq_2 (by decide +kernel), rfl⟩
theorem iX3_would_30 : xl_Ca mX3_would 30 mX3_puts 33 := ⟨88, zd zq_542 (by decide +kernel), rfl, lX3_88, Nat.le_of_ble_eq_true rfl, Nat.le_of_ble_eq_true rfl⟩
theorem iX3_would_33 : xl_D mX3_would 33 (.aload_n 0) 1 34 := ⟨zd zq_0 (by decide +kernel), rfl⟩
theorem iX3_would_34 : xl_D mX3_would 34 (.iconst 4) 1 35 := ⟨zd zq_63 (by decide +kernel), rfl⟩
theorem iX3_would_35 : xl_D mX3_would 35 (.iload_n 1) 1 36 := ⟨zd zq_3 (by decide +kernel), rfl⟩
theorem iX3_would_36 : xl_D mX3_would 36 (.iload_n 2) 1 37 := ⟨zd zq_6 (by decide +kernel), rfl⟩
theorem iX3_would_37 : xl_D mX3_would 37 (.iload_n 3) 1 38 := ⟨zd zq_25 (by decide +kernel), rfl⟩
theorem iX3_would_38 : xl_D mX3_would 38 (.iload 4) 2 40 := ⟨zd zq_51 (by decide +kernel), rfl⟩
theorem iX3_would_40 : xl_Ca mX3_would 40 mX3_comes 43 := ⟨222, zd zq_356 (by decide +kernel), rfl, lX3_222, Nat.le_of_ble_eq_true rfl, Nat.le_of_ble_eq_true rfl⟩
theorem iX3_would_43 : xl_D mX3_would 43 (.istore 5) 2 45 := ⟨zd zq_91 (by decide +kernel), rfl⟩
theorem iX3_would_45 : xl_D mX3_would 45 (.aload_n 0) 1 46 := ⟨zd zq_0 (by decide +kernel), rfl⟩
theorem iX3_would_46 : xl_D mX3_would 46 (.iconst 0) 1 47 := ⟨zd zq_2 (by decide +kernel), rfl⟩
theorem iX3_would_47 : xl_P mX3_would 47 3 1 .int 50 := ⟨11, zd zq_501 (by decide +kernel), rfl, wX3_11⟩
theorem iX3_would_50 : xl_D mX3_would 50 (.aload_n 0) 1 51 := ⟨zd zq_0 (by decide +kernel), rfl⟩
theorem iX3_would_51 : xl_D mX3_would 51 (.aload_n 0) 1 52 := ⟨zd zq_0 (by decide +kernel), rfl⟩
theorem iX3_would_52 : xl_G mX3_would 52 3 12 55 := ⟨184, zd zq_607 (by decide +kernel), rfl, fX3_184⟩
theorem iX3_would_55 : xl_D mX3_would 55 (.i2l) 1 56 := ⟨zd zq_266 (by decide +kernel), rfl⟩
theorem iX3_would_56 : xl_Ca mX3_would 56 mX3_enters 59 := ⟨226, zd zq_357 (by decide +kernel), rfl, lX3_226, Nat.le_of_ble_eq_true rfl, Nat.le_of_ble_eq_true rfl⟩
theorem iX3_would_59 : xl_D mX3_would 59 (.aload_n 0) 1 60 := ⟨zd zq_0 (by decide +kernel), rfl⟩
theorem iX3_would_60 : xl_D mX3_would 60 (.aload_n 0) 1 61 := ⟨zd zq_0 (by decide +kernel), rfl⟩
theorem iX3_would_61 : xl_D mX3_would 61 (.iconst 4) 1 62 := ⟨zd zq_63 (by decide +kernel), rfl⟩
theorem iX3_would_62 : xl_D mX3_would 62 (.bipush 7) 2 64 := ⟨zd zq_68 (by decide +kernel), rfl⟩
theorem iX3_would_64 : xl_Ca mX3_would 64 mX3_of 67 := ⟨116, zd zq_555 (by decide +kernel), rfl, lX3_116, Nat.le_of_ble_eq_true rfl, Nat.le_of_ble_eq_true rfl⟩
theorem iX3_would_67 : xl_D mX3_would 67 (.aload_n 0) 1 68 := ⟨zd zq_0 (by decide +kernel), rfl⟩
theorem iX3_would_68 : xl_D mX3_would 68 (.iconst 0) 1 69 := ⟨zd zq_2 (by decide +kernel), rfl⟩
theorem iX3_would_69 : xl_D mX3_would 69 (.bipush 7) 2 71 := ⟨zd zq_68 (by decide +kernel), rfl⟩
theorem iX3_would_71 : xl_Ca mX3_would 71 mX3_of 74 := ⟨116, zd zq_555 (by decide +kernel), rfl, lX3_116, Nat.le_of_ble_eq_true rfl, Nat.le_of_ble_eq_true rfl⟩
theorem iX3_would_74 : xl_D mX3_would 74 (.isub) 1 75 := ⟨zd zq_39 (by decide +kernel), rfl⟩
theorem iX3_would_75 : xl_D mX3_would 75 (.i2l) 1 76 := ⟨zd zq_266 (by decide +kernel), rfl⟩
theorem iX3_would_76 : xl_Ca mX3_would 76 mX3_enters 79 := ⟨226, zd zq_357 (by decide +kernel), rfl, lX3_226, Nat.le_of_ble_eq_true rfl, Nat.le_of_ble_eq_true rfl⟩
theorem iX3_would_79 : xl_D mX3_would 79 (.iload 5) 2 81 := ⟨zd zq_92 (by decide +kernel), rfl⟩
theorem iX3_would_81 : xl_D mX3_would 81 (.ireturn) 1 82 := ⟨zd zq_17 (by decide +kernel), rfl⟩
theorem iX3_ofInput_0 : xl_D mX3_ofInput 0 (.aload_n 0) 1 1 := ⟨zd zq_0 (by decide +kernel), rfl⟩
theorem iX3_ofInput_1 : xl_G mX3_ofInput 1 3 7 4 := ⟨53, zd zq_537 (by decide +kernel), rfl, fX3_53⟩
theorem iX3_ofInput_4 : xl_D mX3_ofInput 4 (.sipush 1844) 3 7 := ⟨zd zq_602 (by decide +kernel), rfl⟩
theorem iX3_ofInput_7 : xl_D mX3_ofInput 7 (.bipush 6) 2 9 := ⟨zd zq_71 (by decide +kernel), rfl⟩
theorem iX3_ofInput_9 : xl_D mX3_ofInput 9 (.iload_n 1) 1 10 := ⟨zd zq_3 (by decide +kernel), rfl⟩
theorem iX3_ofInput_10 : xl_D mX3_ofInput 10 (.imul) 1 11 := ⟨zd zq_10 (by decide +kernel), rfl⟩
theorem iX3_ofInput_11 : xl_D mX3_ofInput 11 (.iadd) 1 12 := ⟨zd zq_19 (by decide +kernel), rfl⟩
theorem iX3_ofInput_12 : xl_D mX3_ofInput 12 (.iload_n 2) 1 13 := ⟨zd zq_6 (by decide +kernel), rfl⟩
theorem iX3_ofInput_13 : xl_D mX3_ofInput 13 (.iadd) 1 14 := ⟨zd zq_19 (by decide +kernel), rfl⟩
theorem iX3_ofInput_14 : xl_D mX3_ofInput 14 (.iaload) 1 15 := ⟨zd zq_20 (by decide +kernel), rfl⟩
theorem iX3_ofInput_15 : xl_D mX3_ofInput 15 (.ireturn) 1 16 := ⟨zd zq_17 (by decide +kernel), rfl⟩
theorem iX3_laysTimes_0 : xl_D mX3_laysTimes 0 (.aload_n 0) 1 1 := ⟨zd zq_0 (by decide +kernel), rfl⟩
theorem iX3_laysTimes_1 : xl_D mX3_laysTimes 1 (.iconst 0) 1 2 := ⟨zd zq_2 (by decide +kernel), rfl⟩
theorem iX3_laysTimes_2 : xl_P mX3_laysTimes 2 3 19 .int 5 := ⟨280, zd zq_678 (by decide +kernel), rfl, wX3_280⟩
theorem iX3_laysTimes_5 : xl_D mX3_laysTimes 5 (.iconst 0) 1 6 := ⟨zd zq_2 (by decide +kernel), rfl⟩
theorem iX3_laysTimes_6 : xl_D mX3_laysTimes 6 (.istore_n 2) 1 7 := ⟨zd zq_41 (by decide +kernel), rfl⟩
theorem iX3_laysTimes_7 : xl_D mX3_laysTimes 7 (.iload_n 2) 1 8 := ⟨zd zq_6 (by decide +kernel), rfl⟩
theorem iX3_laysTimes_8 : xl_D mX3_laysTimes 8 (.aload_n 0) 1 9 := ⟨zd zq_0 (by decide +kernel), rfl⟩
theorem iX3_laysTimes_9 : xl_D mX3_laysTimes 9 (.iconst 0) 1 10 := ⟨zd zq_2 (by decide +kernel), rfl⟩
theorem iX3_laysTimes_10 : xl_D mX3_laysTimes 10 (.bipush 6) 2 12 := ⟨zd zq_71 (by decide +kernel), rfl⟩
theorem iX3_laysTimes_12 : xl_Ca mX3_laysTimes 12 mX3_of 15 := ⟨116, zd zq_555 (by decide +kernel), rfl, lX3_116, Nat.le_of_ble_eq_true rfl, Nat.le_of_ble_eq_true rfl⟩
theorem iX3_laysTimes_15 : xl_J mX3_laysTimes 15 (fun o => .if_icmp .ge o) 18 149 := ⟨134, zd zq_679 (by decide +kernel), rfl, rfl⟩
theorem iX3_laysTimes_18 : xl_D mX3_laysTimes 18 (.aload_n 0) 1 19 := ⟨zd zq_0 (by decide +kernel), rfl⟩
theorem iX3_laysTimes_19 : xl_D mX3_laysTimes 19 (.iload_n 2) 1 20 := ⟨zd zq_6 (by decide +kernel), rfl⟩
theorem iX3_laysTimes_20 : xl_D mX3_laysTimes 20 (.iconst 0) 1 21 := ⟨zd zq_2 (by decide +kernel), rfl⟩
theorem iX3_laysTimes_21 : xl_Ca mX3_laysTimes 21 mX3_ofInput 24 := ⟨277, zd zq_666 (by decide +kernel), rfl, lX3_277, Nat.le_of_ble_eq_true rfl, Nat.le_of_ble_eq_true rfl⟩
theorem iX3_laysTimes_24 : xl_J mX3_laysTimes 24 (fun o => .ifCond .ne o) 27 143 := ⟨119, zd zq_680 (by decide +kernel), rfl, rfl⟩
theorem iX3_laysTimes_27 : xl_D mX3_laysTimes 27 (.aload_n 0) 1 28 := ⟨zd zq_0 (by decide +kernel), rfl⟩
theorem iX3_laysTimes_28 : xl_D mX3_laysTimes 28 (.iload_n 2) 1 29 := ⟨zd zq_6 (by decide +kernel), rfl⟩
theorem iX3_laysTimes_29 : xl_D mX3_laysTimes 29 (.iconst 3) 1 30 := ⟨zd zq_123 (by decide +kernel), rfl⟩
theorem iX3_laysTimes_30 : xl_Ca mX3_laysTimes 30 mX3_ofInput 33 := ⟨277, zd zq_666 (by decide +kernel), rfl, lX3_277, Nat.le_of_ble_eq_true rfl, Nat.le_of_ble_eq_true rfl⟩
theorem iX3_laysTimes_33 : xl_D mX3_laysTimes 33 (.iload_n 1) 1 34 := ⟨zd zq_3 (by decide +kernel), rfl⟩
theorem iX3_laysTimes_34 : xl_J mX3_laysTimes 34 (fun o => .if_icmp .ne o) 37 143 := ⟨109, zd zq_681 (by decide +kernel), rfl, rfl⟩
theorem iX3_laysTimes_37 : xl_D mX3_laysTimes 37 (.aload_n 0) 1 38 := ⟨zd zq_0 (by decide +kernel), rfl⟩
theorem iX3_laysTimes_38 : xl_D mX3_laysTimes 38 (.iload_n 2) 1 39 := ⟨zd zq_6 (by decide +kernel), rfl⟩
theorem iX3_laysTimes_39 : xl_D mX3_laysTimes 39 (.iconst 5) 1 40 := ⟨zd zq_64 (by decide +kernel), rfl⟩
theorem iX3_laysTimes_40 : xl_Ca mX3_laysTimes 40 mX3_ofInput 43 := ⟨277, zd zq_666 (by decide +kernel), rfl, lX3_277, Nat.le_of_ble_eq_true rfl, Nat.le_of_ble_eq_true rfl⟩
theorem iX3_laysTimes_43 : xl_J mX3_laysTimes 43 (fun o => .ifCond .ne o) 46 49 := ⟨6, zd zq_210 (by decide +kernel), rfl, rfl⟩
theorem iX3_laysTimes_46 : xl_J mX3_laysTimes 46 (fun o => .goto o) 49 143 := ⟨97, zd zq_682 (by decide +kernel), rfl, rfl⟩
theorem iX3_laysTimes_49 : xl_D mX3_laysTimes 49 (.aload_n 0) 1 50 := ⟨zd zq_0 (by decide +kernel), rfl⟩
theorem iX3_laysTimes_50 : xl_G mX3_laysTimes 50 3 19 53 := ⟨280, zd zq_683 (by decide +kernel), rfl, fX3_280⟩
theorem iX3_laysTimes_53 : xl_D mX3_laysTimes 53 (.istore_n 3) 1 54 := ⟨zd zq_131 (by decide +kernel), rfl⟩
theorem iX3_laysTimes_54 : xl_D mX3_laysTimes 54 (.iload_n 3) 1 55 := ⟨zd zq_25 (by decide +kernel), rfl⟩
theorem iX3_laysTimes_55 : xl_J mX3_laysTimes 55 (fun o => .ifCond .le o) 58 109 := ⟨54, zd zq_684 (by decide +kernel), rfl, rfl⟩
theorem iX3_laysTimes_58 : xl_D mX3_laysTimes 58 (.aload_n 0) 1 59 := ⟨zd zq_0 (by decide +kernel), rfl⟩
theorem iX3_laysTimes_59 : xl_G mX3_laysTimes 59 3 17 62 := ⟨71, zd zq_685 (by decide +kernel), rfl, fX3_71⟩
theorem iX3_laysTimes_62 : xl_D mX3_laysTimes 62 (.iload_n 3) 1 63 := ⟨zd zq_25 (by decide +kernel), rfl⟩
theorem iX3_laysTimes_63 : xl_D mX3_laysTimes 63 (.iconst 1) 1 64 := ⟨zd zq_36 (by decide +kernel), rfl⟩
theorem iX3_laysTimes_64 : xl_D mX3_laysTimes 64 (.isub) 1 65 := ⟨zd zq_39 (by decide +kernel), rfl⟩
theorem iX3_laysTimes_65 : xl_D mX3_laysTimes 65 (.iaload) 1 66 := ⟨zd zq_20 (by decide +kernel), rfl⟩
theorem iX3_laysTimes_66 : xl_D mX3_laysTimes 66 (.aload_n 0) 1 67 := ⟨zd zq_0 (by decide +kernel), rfl⟩
theorem iX3_laysTimes_67 : xl_D mX3_laysTimes 67 (.iload_n 2) 1 68 := ⟨zd zq_6 (by decide +kernel), rfl⟩
theorem iX3_laysTimes_68 : xl_D mX3_laysTimes 68 (.iconst 2) 1 69 := ⟨zd zq_127 (by decide +kernel), rfl⟩
theorem iX3_laysTimes_69 : xl_Ca mX3_laysTimes 69 mX3_ofInput 72 := ⟨277, zd zq_666 (by decide +kernel), rfl, lX3_277, Nat.le_of_ble_eq_true rfl, Nat.le_of_ble_eq_true rfl⟩
theorem iX3_laysTimes_72 : xl_J mX3_laysTimes 72 (fun o => .if_icmp .le o) 75 109 := ⟨37, zd zq_686 (by decide +kernel), rfl, rfl⟩
theorem iX3_laysTimes_75 : xl_D mX3_laysTimes 75 (.aload_n 0) 1 76 := ⟨zd zq_0 (by decide +kernel), rfl⟩
theorem iX3_laysTimes_76 : xl_G mX3_laysTimes 76 3 17 79 := ⟨71, zd zq_685 (by decide +kernel), rfl, fX3_71⟩
theorem iX3_laysTimes_79 : xl_D mX3_laysTimes 79 (.iload_n 3) 1 80 := ⟨zd zq_25 (by decide +kernel), rfl⟩
theorem iX3_laysTimes_80 : xl_D mX3_laysTimes 80 (.aload_n 0) 1 81 := ⟨zd zq_0 (by decide +kernel), rfl⟩
theorem iX3_laysTimes_81 : xl_G mX3_laysTimes 81 3 17 84 := ⟨71, zd zq_685 (by decide +kernel), rfl, fX3_71⟩
theorem iX3_laysTimes_84 : xl_D mX3_laysTimes 84 (.iload_n 3) 1 85 := ⟨zd zq_25 (by decide +kernel), rfl⟩
theorem iX3_laysTimes_85 : xl_D mX3_laysTimes 85 (.iconst 1) 1 86 := ⟨zd zq_36 (by decide +kernel), rfl⟩
theorem iX3_laysTimes_86 : xl_D mX3_laysTimes 86 (.isub) 1 87 := ⟨zd zq_39 (by decide +kernel), rfl⟩
theorem iX3_laysTimes_87 : xl_D mX3_laysTimes 87 (.iaload) 1 88 := ⟨zd zq_20 (by decide +kernel), rfl⟩
theorem iX3_laysTimes_88 : xl_D mX3_laysTimes 88 (.iastore) 1 89 := ⟨zd zq_26 (by decide +kernel), rfl⟩
theorem iX3_laysTimes_89 : xl_D mX3_laysTimes 89 (.aload_n 0) 1 90 := ⟨zd zq_0 (by decide +kernel), rfl⟩
theorem iX3_laysTimes_90 : xl_G mX3_laysTimes 90 3 18 93 := ⟨74, zd zq_687 (by decide +kernel), rfl, fX3_74⟩
theorem iX3_laysTimes_93 : xl_D mX3_laysTimes 93 (.iload_n 3) 1 94 := ⟨zd zq_25 (by decide +kernel), rfl⟩
theorem iX3_laysTimes_94 : xl_D mX3_laysTimes 94 (.aload_n 0) 1 95 := ⟨zd zq_0 (by decide +kernel), rfl⟩
theorem iX3_laysTimes_95 : xl_G mX3_laysTimes 95 3 18 98 := ⟨74, zd zq_687 (by decide +kernel), rfl, fX3_74⟩
theorem iX3_laysTimes_98 : xl_D mX3_laysTimes 98 (.iload_n 3) 1 99 := ⟨zd zq_25 (by decide +kernel), rfl⟩
theorem iX3_laysTimes_99 : xl_D mX3_laysTimes 99 (.iconst 1) 1 100 := ⟨zd zq_36 (by decide +kernel), rfl⟩
theorem iX3_laysTimes_100 : xl_D mX3_laysTimes 100 (.isub) 1 101 := ⟨zd zq_39 (by decide +kernel), rfl⟩
theorem iX3_laysTimes_101 : xl_D mX3_laysTimes 101 (.iaload) 1 102 := ⟨zd zq_20 (by decide +kernel), rfl⟩
theorem iX3_laysTimes_102 : xl_D mX3_laysTimes 102 (.iastore) 1 103 := ⟨zd zq_26 (by decide +kernel), rfl⟩
theorem iX3_laysTimes_103 : xl_D mX3_laysTimes 103 (.iinc 3 (-1)) 3 106 := ⟨zd zq_688 (by decide +kernel), rfl⟩
theorem iX3_laysTimes_106 : xl_J mX3_laysTimes 106 (fun o => .goto o) 109 54 := ⟨-52, zd zq_481 (by decide +kernel), rfl, rfl⟩
theorem iX3_laysTimes_109 : xl_D mX3_laysTimes 109 (.aload_n 0) 1 110 := ⟨zd zq_0 (by decide +kernel), rfl⟩
theorem iX3_laysTimes_110 : xl_G mX3_laysTimes 110 3 17 113 := ⟨71, zd zq_685 (by decide +kernel), rfl, fX3_71⟩
theorem iX3_laysTimes_113 : xl_D mX3_laysTimes 113 (.iload_n 3) 1 114 := ⟨zd zq_25 (by decide +kernel), rfl⟩
theorem iX3_laysTimes_114 : xl_D mX3_laysTimes 114 (.aload_n 0) 1 115 := ⟨zd zq_0 (by decide +kernel), rfl⟩
theorem iX3_laysTimes_115 : xl_D mX3_laysTimes 115 (.iload_n 2) 1 116 := ⟨zd zq_6 (by decide +kernel), rfl⟩
theorem iX3_laysTimes_116 : xl_D mX3_laysTimes 116 (.iconst 2) 1 117 := ⟨zd zq_127 (by decide +kernel), rfl⟩
theorem iX3_laysTimes_117 : xl_Ca mX3_laysTimes 117 mX3_ofInput 120 := ⟨277, zd zq_666 (by decide +kernel), rfl, lX3_277, Nat.le_of_ble_eq_true rfl, Nat.le_of_ble_eq_true rfl⟩
theorem iX3_laysTimes_120 : xl_D mX3_laysTimes 120 (.iastore) 1 121 := ⟨zd zq_26 (by decide +kernel), rfl⟩
theorem iX3_laysTimes_121 : xl_D mX3_laysTimes 121 (.aload_n 0) 1 122 := ⟨zd zq_0 (by decide +kernel), rfl⟩
theorem iX3_laysTimes_122 : xl_G mX3_laysTimes 122 3 18 125 := ⟨74, zd zq_687 (by decide +kernel), rfl, fX3_74⟩
theorem iX3_laysTimes_125 : xl_D mX3_laysTimes 125 (.iload_n 3) 1 126 := ⟨zd zq_25 (by decide +kernel), rfl⟩
theorem iX3_laysTimes_126 : xl_D mX3_laysTimes 126 (.aload_n 0) 1 127 := ⟨zd zq_0 (by decide +kernel), rfl⟩
theorem iX3_laysTimes_127 : xl_D mX3_laysTimes 127 (.iload_n 2) 1 128 := ⟨zd zq_6 (by decide +kernel), rfl⟩
theorem iX3_laysTimes_128 : xl_D mX3_laysTimes 128 (.iconst 4) 1 129 := ⟨zd zq_63 (by decide +kernel), rfl⟩
theorem iX3_laysTimes_129 : xl_Ca mX3_laysTimes 129 mX3_ofInput 132 := ⟨277, zd zq_666 (by decide +kernel), rfl, lX3_277, Nat.le_of_ble_eq_true rfl, Nat.le_of_ble_eq_true rfl⟩
theorem iX3_laysTimes_132 : xl_D mX3_laysTimes 132 (.iastore) 1 133 := ⟨zd zq_26 (by decide +kernel), rfl⟩
theorem iX3_laysTimes_133 : xl_D mX3_laysTimes 133 (.aload_n 0) 1 134 := ⟨zd zq_0 (by decide +kernel), rfl⟩
theorem iX3_laysTimes_134 : xl_D mX3_laysTimes 134 (.dup) 1 135 := ⟨zd zq_46 (by decide +kernel), rfl⟩
theorem iX3_laysTimes_135 : xl_G mX3_laysTimes 135 3 19 138 := ⟨280, zd zq_683 (by decide +kernel), rfl, fX3_280⟩
theorem iX3_laysTimes_138 : xl_D mX3_laysTimes 138 (.iconst 1) 1 139 := ⟨zd zq_36 (by decide +kernel), rfl⟩
theorem iX3_laysTimes_139 : xl_D mX3_laysTimes 139 (.iadd) 1 140 := ⟨zd zq_19 (by decide +kernel), rfl⟩
theorem iX3_laysTimes_140 : xl_P mX3_laysTimes 140 3 19 .int 143 := ⟨280, zd zq_678 (by decide +kernel), rfl, wX3_280⟩
theorem iX3_laysTimes_143 : xl_D mX3_laysTimes 143 (.iinc 2 1) 3 146 := ⟨zd zq_44 (by decide +kernel), rfl⟩
theorem iX3_laysTimes_146 : xl_J mX3_laysTimes 146 (fun o => .goto o) 149 7 := ⟨-139, zd zq_689 (by decide +kernel), rfl, rfl⟩
theorem iX3_laysTimes_149 : xl_D mX3_laysTimes 149 (.return_) 1 150 := ⟨zd zq_12 (by decide +kernel), rfl⟩
theorem iX3_fallsInto_0 : xl_D mX3_fallsInto 0 (.iconst 0) 1 1 := ⟨zd zq_2 (by decide +kernel), rfl⟩
theorem iX3_fallsInto_1 : xl_D mX3_fallsInto 1 (.istore_n 2) 1 2 := ⟨zd zq_41 (by decide +kernel), rfl⟩
theorem iX3_fallsInto_2 : xl_D mX3_fallsInto 2 (.iconst 0) 1 3 := ⟨zd zq_2 (by decide +kernel), rfl⟩
theorem iX3_fallsInto_3 : xl_D mX3_fallsInto 3 (.istore_n 3) 1 4 := ⟨zd zq_131 (by decide +kernel), rfl⟩
theorem iX3_fallsInto_4 : xl_D mX3_fallsInto 4 (.iload_n 3) 1 5 := ⟨zd zq_25 (by decide +kernel), rfl⟩
theorem iX3_fallsInto_5 : xl_D mX3_fallsInto 5 (.aload_n 0) 1 6 := ⟨zd zq_0 (by decide +kernel), rfl⟩
theorem iX3_fallsInto_6 : xl_G mX3_fallsInto 6 3 19 9 := ⟨280, zd zq_683 (by decide +kernel), rfl, fX3_280⟩
theorem iX3_fallsInto_9 : xl_J mX3_fallsInto 9 (fun o => .if_icmp .ge o) 12 52 := ⟨43, zd zq_447 (by decide +kernel), rfl, rfl⟩
theorem iX3_fallsInto_12 : xl_D mX3_fallsInto 12 (.iload_n 2) 1 13 := ⟨zd zq_6 (by decide +kernel), rfl⟩
theorem iX3_fallsInto_13 : xl_D mX3_fallsInto 13 (.iload_n 3) 1 14 := ⟨zd zq_25 (by decide +kernel), rfl⟩
theorem iX3_fallsInto_14 : xl_J mX3_fallsInto 14 (fun o => .ifCond .eq o) 17 36 := ⟨22, zd zq_690 (by decide +kernel), rfl, rfl⟩
theorem iX3_fallsInto_17 : xl_D mX3_fallsInto 17 (.aload_n 0) 1 18 := ⟨zd zq_0 (by decide +kernel), rfl⟩
theorem iX3_fallsInto_18 : xl_G mX3_fallsInto 18 3 17 21 := ⟨71, zd zq_685 (by decide +kernel), rfl, fX3_71⟩
theorem iX3_fallsInto_21 : xl_D mX3_fallsInto 21 (.iload_n 3) 1 22 := ⟨zd zq_25 (by decide +kernel), rfl⟩
theorem iX3_fallsInto_22 : xl_D mX3_fallsInto 22 (.iaload) 1 23 := ⟨zd zq_20 (by decide +kernel), rfl⟩
theorem iX3_fallsInto_23 : xl_D mX3_fallsInto 23 (.aload_n 0) 1 24 := ⟨zd zq_0 (by decide +kernel), rfl⟩
theorem iX3_fallsInto_24 : xl_G mX3_fallsInto 24 3 17 27 := ⟨71, zd zq_685 (by decide +kernel), rfl, fX3_71⟩
theorem iX3_fallsInto_27 : xl_D mX3_fallsInto 27 (.iload_n 3) 1 28 := ⟨zd zq_25 (by decide +kernel), rfl⟩
theorem iX3_fallsInto_28 : xl_D mX3_fallsInto 28 (.iconst 1) 1 29 := ⟨zd zq_36 (by decide +kernel), rfl⟩
theorem iX3_fallsInto_29 : xl_D mX3_fallsInto 29 (.isub) 1 30 := ⟨zd zq_39 (by decide +kernel), rfl⟩
theorem iX3_fallsInto_30 : xl_D mX3_fallsInto 30 (.iaload) 1 31 := ⟨zd zq_20 (by decide +kernel), rfl⟩
theorem iX3_fallsInto_31 : xl_D mX3_fallsInto 31 (.isub) 1 32 := ⟨zd zq_39 (by decide +kernel), rfl⟩
theorem iX3_fallsInto_32 : xl_D mX3_fallsInto 32 (.iload_n 1) 1 33 := ⟨zd zq_3 (by decide +kernel), rfl⟩
theorem iX3_fallsInto_33 : xl_J mX3_fallsInto 33 (fun o => .if_icmp .le o) 36 40 := ⟨7, zd zq_182 (by decide +kernel), rfl, rfl⟩
theorem iX3_fallsInto_36 : xl_D mX3_fallsInto 36 (.iconst 1) 1 37 := ⟨zd zq_36 (by decide +kernel), rfl⟩
theorem iX3_fallsInto_37 : xl_J mX3_fallsInto 37 (fun o => .goto o) 40 41 := ⟨4, zd zq_139 (by decide +kernel), rfl, rfl⟩
theorem iX3_fallsInto_40 : xl_D mX3_fallsInto 40 (.iconst 0) 1 41 := ⟨zd zq_2 (by decide +kernel), rfl⟩
theorem iX3_fallsInto_41 : xl_Cs mX3_fallsInto 41 mX3_flag 44 := ⟨194, zd zq_613 (by decide +kernel), rfl, lX3_194, Nat.le_of_ble_eq_true rfl, Nat.le_of_ble_eq_true rfl⟩
theorem iX3_fallsInto_44 : xl_D mX3_fallsInto 44 (.iadd) 1 45 := ⟨zd zq_19 (by decide +kernel), rfl⟩
theorem iX3_fallsInto_45 : xl_D mX3_fallsInto 45 (.istore_n 2) 1 46 := ⟨zd zq_41 (by decide +kernel), rfl⟩
theorem iX3_fallsInto_46 : xl_D mX3_fallsInto 46 (.iinc 3 1) 3 49 := ⟨zd zq_153 (by decide +kernel), rfl⟩
theorem iX3_fallsInto_49 : xl_J mX3_fallsInto 49 (fun o => .goto o) 52 4 := ⟨-45, zd zq_691 (by decide +kernel), rfl, rfl⟩
theorem iX3_fallsInto_52 : xl_D mX3_fallsInto 52 (.iload_n 2) 1 53 := ⟨zd zq_6 (by decide +kernel), rfl⟩
theorem iX3_fallsInto_53 : xl_D mX3_fallsInto 53 (.ireturn) 1 54 := ⟨zd zq_17 (by decide +kernel), rfl⟩
theorem iX3_batch_0 : xl_D mX3_batch 0 (.aload_n 0) 1 1 := ⟨zd zq_0 (by decide +kernel), rfl⟩
theorem iX3_batch_1 : xl_D mX3_batch 1 (.iconst 0) 1 2 := ⟨zd zq_2 (by decide +kernel), rfl⟩
theorem iX3_batch_2 : xl_P mX3_batch 2 3 0 .int 5 := ⟨3, zd zq_502 (by decide +kernel), rfl, wX3_3⟩
theorem iX3_batch_5 : xl_D mX3_batch 5 (.iload_n 1) 1 6 := ⟨zd zq_3 (by decide +kernel), rfl⟩
theorem iX3_batch_6 : xl_Cs mX3_batch 6 mX3_isKey 9 := ⟨272, zd zq_654 (by decide +kernel), rfl, lX3_272, Nat.le_of_ble_eq_true rfl, Nat.le_of_ble_eq_true rfl⟩
theorem iX3_batch_9 : xl_J mX3_batch 9 (fun o => .ifCond .ne o) 12 14 := ⟨5, zd zq_246 (by decide +kernel), rfl, rfl⟩
theorem iX3_batch_12 : xl_D mX3_batch 12 (.iconst (-1)) 1 13 := ⟨zd zq_104 (by decide +kernel), rfl⟩
theorem iX3_batch_13 : xl_D mX3_batch 13 (.ireturn) 1 14 := ⟨zd zq_17 (by decide +kernel), rfl⟩
theorem iX3_batch_14 : xl_D mX3_batch 14 (.aload_n 0) 1 15 := ⟨zd zq_0 (by decide +kernel), rfl⟩
theorem iX3_batch_15 : xl_D mX3_batch 15 (.iload_n 1) 1 16 := ⟨zd zq_3 (by decide +kernel), rfl⟩
theorem iX3_batch_16 : xl_Ca mX3_batch 16 mX3_laysTimes 19 := ⟨283, zd zq_692 (by decide +kernel), rfl, lX3_283, Nat.le_of_ble_eq_true rfl, Nat.le_of_ble_eq_true rfl⟩
theorem iX3_batch_19 : xl_D mX3_batch 19 (.aload_n 0) 1 20 := ⟨zd zq_0 (by decide +kernel), rfl⟩
theorem iX3_batch_20 : xl_D mX3_batch 20 (.iconst 0) 1 21 := ⟨zd zq_2 (by decide +kernel), rfl⟩
theorem iX3_batch_21 : xl_D mX3_batch 21 (.iconst 1) 1 22 := ⟨zd zq_36 (by decide +kernel), rfl⟩
theorem iX3_batch_22 : xl_Ca mX3_batch 22 mX3_of 25 := ⟨116, zd zq_555 (by decide +kernel), rfl, lX3_116, Nat.le_of_ble_eq_true rfl, Nat.le_of_ble_eq_true rfl⟩
theorem iX3_batch_25 : xl_D mX3_batch 25 (.istore_n 2) 1 26 := ⟨zd zq_41 (by decide +kernel), rfl⟩
theorem iX3_batch_26 : xl_D mX3_batch 26 (.iconst (-1)) 1 27 := ⟨zd zq_104 (by decide +kernel), rfl⟩
theorem iX3_batch_27 : xl_D mX3_batch 27 (.istore_n 3) 1 28 := ⟨zd zq_131 (by decide +kernel), rfl⟩
theorem iX3_batch_28 : xl_D mX3_batch 28 (.iconst (-1)) 1 29 := ⟨zd zq_104 (by decide +kernel), rfl⟩
theorem iX3_batch_29 : xl_D mX3_batch 29 (.istore 4) 2 31 := ⟨zd zq_50 (by decide +kernel), rfl⟩
theorem iX3_batch_31 : xl_D mX3_batch 31 (.iconst (-1)) 1 32 := ⟨zd zq_104 (by decide +kernel), rfl⟩
theorem iX3_batch_32 : xl_D mX3_batch 32 (.istore 5) 2 34 := ⟨zd zq_91 (by decide +kernel), rfl⟩
theorem iX3_batch_34 : xl_D mX3_batch 34 (.iconst 0) 1 35 := ⟨zd zq_2 (by decide +kernel), rfl⟩
theorem iX3_batch_35 : xl_D mX3_batch 35 (.istore 6) 2 37 := ⟨zd zq_119 (by decide +kernel), rfl⟩
theorem iX3_batch_37 : xl_D mX3_batch 37 (.iconst 0) 1 38 := ⟨zd zq_2 (by decide +kernel), rfl⟩
theorem iX3_batch_38 : xl_D mX3_batch 38 (.istore 7) 2 40 := ⟨zd zq_122 (by decide +kernel), rfl⟩
theorem iX3_batch_40 : xl_D mX3_batch 40 (.iconst 0) 1 41 := ⟨zd zq_2 (by decide +kernel), rfl⟩
theorem iX3_batch_41 : xl_D mX3_batch 41 (.istore 8) 2 43 := ⟨zd zq_323 (by decide +kernel), rfl⟩
theorem iX3_batch_43 : xl_D mX3_batch 43 (.iconst 0) 1 44 := ⟨zd zq_2 (by decide +kernel), rfl⟩
theorem iX3_batch_44 : xl_D mX3_batch 44 (.istore 9) 2 46 := ⟨zd zq_324 (by decide +kernel), rfl⟩
theorem iX3_batch_46 : xl_D mX3_batch 46 (.iload 9) 2 48 := ⟨zd zq_325 (by decide +kernel), rfl⟩
theorem iX3_batch_48 : xl_D mX3_batch 48 (.aload_n 0) 1 49 := ⟨zd zq_0 (by decide +kernel), rfl⟩
theorem iX3_batch_49 : xl_G mX3_batch 49 3 19 52 := ⟨280, zd zq_683 (by decide +kernel), rfl, fX3_280⟩
theorem iX3_batch_52 : xl_J mX3_batch 52 (fun o => .if_icmp .ge o) 55 264 := ⟨212, zd zq_693 (by decide +kernel), rfl, rfl⟩
theorem iX3_batch_55 : xl_D mX3_batch 55 (.iload 9) 2 57 := ⟨zd zq_325 (by decide +kernel), rfl⟩
theorem iX3_batch_57 : xl_J mX3_batch 57 (fun o => .ifCond .eq o) 60 81 := ⟨24, zd zq_694 (by decide +kernel), rfl, rfl⟩
theorem iX3_batch_60 : xl_D mX3_batch 60 (.aload_n 0) 1 61 := ⟨zd zq_0 (by decide +kernel), rfl⟩
theorem iX3_batch_61 : xl_G mX3_batch 61 3 17 64 := ⟨71, zd zq_685 (by decide +kernel), rfl, fX3_71⟩
theorem iX3_batch_64 : xl_D mX3_batch 64 (.iload 9) 2 66 := ⟨zd zq_325 (by decide +kernel), rfl⟩
theorem iX3_batch_66 : xl_D mX3_batch 66 (.iaload) 1 67 := ⟨zd zq_20 (by decide +kernel), rfl⟩
theorem iX3_batch_67 : xl_D mX3_batch 67 (.aload_n 0) 1 68 := ⟨zd zq_0 (by decide +kernel), rfl⟩
theorem iX3_batch_68 : xl_G mX3_batch 68 3 17 71 := ⟨71, zd zq_685 (by decide +kernel), rfl, fX3_71⟩
theorem iX3_batch_71 : xl_D mX3_batch 71 (.iload 9) 2 73 := ⟨zd zq_325 (by decide +kernel), rfl⟩
theorem iX3_batch_73 : xl_D mX3_batch 73 (.iconst 1) 1 74 := ⟨zd zq_36 (by decide +kernel), rfl⟩
theorem iX3_batch_74 : xl_D mX3_batch 74 (.isub) 1 75 := ⟨zd zq_39 (by decide +kernel), rfl⟩
theorem iX3_batch_75 : xl_D mX3_batch 75 (.iaload) 1 76 := ⟨zd zq_20 (by decide +kernel), rfl⟩
theorem iX3_batch_76 : xl_D mX3_batch 76 (.isub) 1 77 := ⟨zd zq_39 (by decide +kernel), rfl⟩
theorem iX3_batch_77 : xl_D mX3_batch 77 (.iload_n 2) 1 78 := ⟨zd zq_6 (by decide +kernel), rfl⟩
theorem iX3_batch_78 : xl_J mX3_batch 78 (fun o => .if_icmp .le o) 81 85 := ⟨7, zd zq_182 (by decide +kernel), rfl, rfl⟩
theorem iX3_batch_81 : xl_D mX3_batch 81 (.iconst 1) 1 82 := ⟨zd zq_36 (by decide +kernel), rfl⟩
theorem iX3_batch_82 : xl_J mX3_batch 82 (fun o => .goto o) 85 86 := ⟨4, zd zq_139 (by decide +kernel), rfl, rfl⟩
theorem iX3_batch_85 : xl_D mX3_batch 85 (.iconst 0) 1 86 := ⟨zd zq_2 (by decide +kernel), rfl⟩
theorem iX3_batch_86 : xl_D mX3_batch 86 (.istore 10) 2 88 := ⟨zd zq_327 (by decide +kernel), rfl⟩
theorem iX3_batch_88 : xl_D mX3_batch 88 (.iload 10) 2 90 := ⟨zd zq_330 (by decide +kernel), rfl⟩
theorem iX3_batch_90 : xl_J mX3_batch 90 (fun o => .ifCond .eq o) 93 123 := ⟨33, zd zq_695 (by decide +kernel), rfl, rfl⟩
theorem iX3_batch_93 : xl_D mX3_batch 93 (.iload 9) 2 95 := ⟨zd zq_325 (by decide +kernel), rfl⟩
theorem iX3_batch_95 : xl_J mX3_batch 95 (fun o => .ifCond .le o) 98 123 := ⟨28, zd zq_653 (by decide +kernel), rfl, rfl⟩
theorem iX3_batch_98 : xl_D mX3_batch 98 (.iload 5) 2 100 := ⟨zd zq_92 (by decide +kernel), rfl⟩
theorem iX3_batch_100 : xl_D mX3_batch 100 (.aload_n 0) 1 101 := ⟨zd zq_0 (by decide +kernel), rfl⟩
theorem iX3_batch_101 : xl_G mX3_batch 101 3 17 104 := ⟨71, zd zq_685 (by decide +kernel), rfl, fX3_71⟩
theorem iX3_batch_104 : xl_D mX3_batch 104 (.iload 9) 2 106 := ⟨zd zq_325 (by decide +kernel), rfl⟩
theorem iX3_batch_106 : xl_D mX3_batch 106 (.iaload) 1 107 := ⟨zd zq_20 (by decide +kernel), rfl⟩
theorem iX3_batch_107 : xl_D mX3_batch 107 (.aload_n 0) 1 108 := ⟨zd zq_0 (by decide +kernel), rfl⟩
theorem iX3_batch_108 : xl_G mX3_batch 108 3 17 111 := ⟨71, zd zq_685 (by decide +kernel), rfl, fX3_71⟩
theorem iX3_batch_111 : xl_D mX3_batch 111 (.iload 9) 2 113 := ⟨zd zq_325 (by decide +kernel), rfl⟩
theorem iX3_batch_113 : xl_D mX3_batch 113 (.iconst 1) 1 114 := ⟨zd zq_36 (by decide +kernel), rfl⟩
theorem iX3_batch_114 : xl_D mX3_batch 114 (.isub) 1 115 := ⟨zd zq_39 (by decide +kernel), rfl⟩
theorem iX3_batch_115 : xl_D mX3_batch 115 (.iaload) 1 116 := ⟨zd zq_20 (by decide +kernel), rfl⟩
theorem iX3_batch_116 : xl_D mX3_batch 116 (.isub) 1 117 := ⟨zd zq_39 (by decide +kernel), rfl⟩
theorem iX3_batch_117 : xl_Cm mX3_batch 117 Lib.Math.max.name Lib.Math.max.code 120 := ⟨176, zd zq_601 (by decide +kernel), rfl, lX3_176, xl_stmax, xl_iMath, xl_comax, Nat.le_of_ble_eq_true rfl, Nat.le_of_ble_eq_true rfl⟩
theorem iX3_batch_120 : xl_J mX3_batch 120 (fun o => .goto o) 123 125 := ⟨5, zd zq_300 (by decide +kernel), rfl, rfl⟩
theorem iX3_batch_123 : xl_D mX3_batch 123 (.iload 5) 2 125 := ⟨zd zq_92 (by decide +kernel), rfl⟩
theorem iX3_batch_125 : xl_D mX3_batch 125 (.istore 5) 2 127 := ⟨zd zq_91 (by decide +kernel), rfl⟩
theorem iX3_batch_127 : xl_D mX3_batch 127 (.iload 10) 2 129 := ⟨zd zq_330 (by decide +kernel), rfl⟩
theorem iX3_batch_129 : xl_J mX3_batch 129 (fun o => .ifCond .eq o) 132 136 := ⟨7, zd zq_193 (by decide +kernel), rfl, rfl⟩
theorem iX3_batch_132 : xl_D mX3_batch 132 (.iconst 1) 1 133 := ⟨zd zq_36 (by decide +kernel), rfl⟩
theorem iX3_batch_133 : xl_J mX3_batch 133 (fun o => .goto o) 136 140 := ⟨7, zd zq_696 (by decide +kernel), rfl, rfl⟩
theorem iX3_batch_136 : xl_D mX3_batch 136 (.iload 6) 2 138 := ⟨zd zq_125 (by decide +kernel), rfl⟩
theorem iX3_batch_138 : xl_D mX3_batch 138 (.iconst 1) 1 139 := ⟨zd zq_36 (by decide +kernel), rfl⟩
theorem iX3_batch_139 : xl_D mX3_batch 139 (.iadd) 1 140 := ⟨zd zq_19 (by decide +kernel), rfl⟩
theorem iX3_batch_140 : xl_D mX3_batch 140 (.istore 6) 2 142 := ⟨zd zq_119 (by decide +kernel), rfl⟩
theorem iX3_batch_142 : xl_D mX3_batch 142 (.iload 10) 2 144 := ⟨zd zq_330 (by decide +kernel), rfl⟩
theorem iX3_batch_144 : xl_J mX3_batch 144 (fun o => .ifCond .eq o) 147 157 := ⟨13, zd zq_295 (by decide +kernel), rfl, rfl⟩
theorem iX3_batch_147 : xl_D mX3_batch 147 (.aload_n 0) 1 148 := ⟨zd zq_0 (by decide +kernel), rfl⟩
theorem iX3_batch_148 : xl_G mX3_batch 148 3 18 151 := ⟨74, zd zq_687 (by decide +kernel), rfl, fX3_74⟩
theorem iX3_batch_151 : xl_D mX3_batch 151 (.iload 9) 2 153 := ⟨zd zq_325 (by decide +kernel), rfl⟩
theorem iX3_batch_153 : xl_D mX3_batch 153 (.iaload) 1 154 := ⟨zd zq_20 (by decide +kernel), rfl⟩
theorem iX3_batch_154 : xl_J mX3_batch 154 (fun o => .goto o) 157 167 := ⟨13, zd zq_630 (by decide +kernel), rfl, rfl⟩
theorem iX3_batch_157 : xl_D mX3_batch 157 (.iload 7) 2 159 := ⟨zd zq_124 (by decide +kernel), rfl⟩
theorem iX3_batch_159 : xl_D mX3_batch 159 (.aload_n 0) 1 160 := ⟨zd zq_0 (by decide +kernel), rfl⟩
theorem iX3_batch_160 : xl_G mX3_batch 160 3 18 163 := ⟨74, zd zq_687 (by decide +kernel), rfl, fX3_74⟩
theorem iX3_batch_163 : xl_D mX3_batch 163 (.iload 9) 2 165 := ⟨zd zq_325 (by decide +kernel), rfl⟩
theorem iX3_batch_165 : xl_D mX3_batch 165 (.iaload) 1 166 := ⟨zd zq_20 (by decide +kernel), rfl⟩
theorem iX3_batch_166 : xl_D mX3_batch 166 (.iadd) 1 167 := ⟨zd zq_19 (by decide +kernel), rfl⟩
theorem iX3_batch_167 : xl_D mX3_batch 167 (.istore 7) 2 169 := ⟨zd zq_122 (by decide +kernel), rfl⟩
theorem iX3_batch_169 : xl_D mX3_batch 169 (.iload 9) 2 171 := ⟨zd zq_325 (by decide +kernel), rfl⟩
theorem iX3_batch_171 : xl_D mX3_batch 171 (.aload_n 0) 1 172 := ⟨zd zq_0 (by decide +kernel), rfl⟩
theorem iX3_batch_172 : xl_G mX3_batch 172 3 19 175 := ⟨280, zd zq_683 (by decide +kernel), rfl, fX3_280⟩
theorem iX3_batch_175 : xl_D mX3_batch 175 (.iconst 1) 1 176 := ⟨zd zq_36 (by decide +kernel), rfl⟩
theorem iX3_batch_176 : xl_D mX3_batch 176 (.isub) 1 177 := ⟨zd zq_39 (by decide +kernel), rfl⟩
theorem iX3_batch_177 : xl_J mX3_batch 177 (fun o => .if_icmp .eq o) 180 201 := ⟨24, zd zq_697 (by decide +kernel), rfl, rfl⟩
theorem iX3_batch_180 : xl_D mX3_batch 180 (.aload_n 0) 1 181 := ⟨zd zq_0 (by decide +kernel), rfl⟩
theorem iX3_batch_181 : xl_G mX3_batch 181 3 17 184 := ⟨71, zd zq_685 (by decide +kernel), rfl, fX3_71⟩
theorem iX3_batch_184 : xl_D mX3_batch 184 (.iload 9) 2 186 := ⟨zd zq_325 (by decide +kernel), rfl⟩
theorem iX3_batch_186 : xl_D mX3_batch 186 (.iconst 1) 1 187 := ⟨zd zq_36 (by decide +kernel), rfl⟩
theorem iX3_batch_187 : xl_D mX3_batch 187 (.iadd) 1 188 := ⟨zd zq_19 (by decide +kernel), rfl⟩
theorem iX3_batch_188 : xl_D mX3_batch 188 (.iaload) 1 189 := ⟨zd zq_20 (by decide +kernel), rfl⟩
theorem iX3_batch_189 : xl_D mX3_batch 189 (.aload_n 0) 1 190 := ⟨zd zq_0 (by decide +kernel), rfl⟩
theorem iX3_batch_190 : xl_G mX3_batch 190 3 17 193 := ⟨71, zd zq_685 (by decide +kernel), rfl, fX3_71⟩
theorem iX3_batch_193 : xl_D mX3_batch 193 (.iload 9) 2 195 := ⟨zd zq_325 (by decide +kernel), rfl⟩
theorem iX3_batch_195 : xl_D mX3_batch 195 (.iaload) 1 196 := ⟨zd zq_20 (by decide +kernel), rfl⟩
theorem iX3_batch_196 : xl_D mX3_batch 196 (.isub) 1 197 := ⟨zd zq_39 (by decide +kernel), rfl⟩
theorem iX3_batch_197 : xl_D mX3_batch 197 (.iload_n 2) 1 198 := ⟨zd zq_6 (by decide +kernel), rfl⟩
theorem iX3_batch_198 : xl_J mX3_batch 198 (fun o => .if_icmp .le o) 201 205 := ⟨7, zd zq_182 (by decide +kernel), rfl, rfl⟩
theorem iX3_batch_201 : xl_D mX3_batch 201 (.iconst 1) 1 202 := ⟨zd zq_36 (by decide +kernel), rfl⟩
theorem iX3_batch_202 : xl_J mX3_batch 202 (fun o => .goto o) 205 206 := ⟨4, zd zq_139 (by decide +kernel), rfl, rfl⟩
theorem iX3_batch_205 : xl_D mX3_batch 205 (.iconst 0) 1 206 := ⟨zd zq_2 (by decide +kernel), rfl⟩
theorem iX3_batch_206 : xl_D mX3_batch 206 (.istore 11) 2 208 := ⟨zd zq_698 (by decide +kernel), rfl⟩
theorem iX3_batch_208 : xl_D mX3_batch 208 (.iload_n 3) 1 209 := ⟨zd zq_25 (by decide +kernel), rfl⟩
theorem iX3_batch_209 : xl_D mX3_batch 209 (.iload 6) 2 211 := ⟨zd zq_125 (by decide +kernel), rfl⟩
theorem iX3_batch_211 : xl_Cm mX3_batch 211 Lib.Math.max.name Lib.Math.max.code 214 := ⟨176, zd zq_601 (by decide +kernel), rfl, lX3_176, xl_stmax, xl_iMath, xl_comax, Nat.le_of_ble_eq_true rfl, Nat.le_of_ble_eq_true rfl⟩
theorem iX3_batch_214 : xl_D mX3_batch 214 (.istore_n 3) 1 215 := ⟨zd zq_131 (by decide +kernel), rfl⟩
theorem iX3_batch_215 : xl_D mX3_batch 215 (.iload 11) 2 217 := ⟨zd zq_699 (by decide +kernel), rfl⟩
theorem iX3_batch_217 : xl_J mX3_batch 217 (fun o => .ifCond .eq o) 220 237 := ⟨20, zd zq_218 (by decide +kernel), rfl, rfl⟩
theorem iX3_batch_220 : xl_D mX3_batch 220 (.iload 8) 2 222 := ⟨zd zq_336 (by decide +kernel), rfl⟩
theorem iX3_batch_222 : xl_J mX3_batch 222 (fun o => .ifCond .eq o) 225 232 := ⟨10, zd zq_292 (by decide +kernel), rfl, rfl⟩
theorem iX3_batch_225 : xl_D mX3_batch 225 (.iload 7) 2 227 := ⟨zd zq_124 (by decide +kernel), rfl⟩
theorem iX3_batch_227 : xl_D mX3_batch 227 (.iload 4) 2 229 := ⟨zd zq_51 (by decide +kernel), rfl⟩
theorem iX3_batch_229 : xl_J mX3_batch 229 (fun o => .if_icmp .le o) 232 237 := ⟨8, zd zq_318 (by decide +kernel), rfl, rfl⟩
theorem iX3_batch_232 : xl_D mX3_batch 232 (.iload 7) 2 234 := ⟨zd zq_124 (by decide +kernel), rfl⟩
theorem iX3_batch_234 : xl_J mX3_batch 234 (fun o => .goto o) 237 239 := ⟨5, zd zq_300 (by decide +kernel), rfl, rfl⟩
theorem iX3_batch_237 : xl_D mX3_batch 237 (.iload 4) 2 239 := ⟨zd zq_51 (by decide +kernel), rfl⟩
theorem iX3_batch_239 : xl_D mX3_batch 239 (.istore 4) 2 241 := ⟨zd zq_50 (by decide +kernel), rfl⟩
theorem iX3_batch_241 : xl_D mX3_batch 241 (.iload 8) 2 243 := ⟨zd zq_336 (by decide +kernel), rfl⟩
theorem iX3_batch_243 : xl_J mX3_batch 243 (fun o => .ifCond .ne o) 246 251 := ⟨8, zd zq_367 (by decide +kernel), rfl, rfl⟩
theorem iX3_batch_246 : xl_D mX3_batch 246 (.iload 11) 2 248 := ⟨zd zq_699 (by decide +kernel), rfl⟩
theorem iX3_batch_248 : xl_J mX3_batch 248 (fun o => .ifCond .eq o) 251 255 := ⟨7, zd zq_193 (by decide +kernel), rfl, rfl⟩
theorem iX3_batch_251 : xl_D mX3_batch 251 (.iconst 1) 1 252 := ⟨zd zq_36 (by decide +kernel), rfl⟩
theorem iX3_batch_252 : xl_J mX3_batch 252 (fun o => .goto o) 255 256 := ⟨4, zd zq_139 (by decide +kernel), rfl, rfl⟩
theorem iX3_batch_255 : xl_D mX3_batch 255 (.iconst 0) 1 256 := ⟨zd zq_2 (by decide +kernel), rfl⟩
theorem iX3_batch_256 : xl_D mX3_batch 256 (.istore 8) 2 258 := ⟨zd zq_323 (by decide +kernel), rfl⟩
theorem iX3_batch_258 : xl_D mX3_batch 258 (.iinc 9 1) 3 261 := ⟨zd zq_334 (by decide +kernel), rfl⟩
theorem iX3_batch_261 : xl_J mX3_batch 261 (fun o => .goto o) 264 46 := ⟨-215, zd zq_700 (by decide +kernel), rfl, rfl⟩
theorem iX3_batch_264 : xl_D mX3_batch 264 (.aload_n 0) 1 265 := ⟨zd zq_0 (by decide +kernel), rfl⟩
theorem iX3_batch_265 : xl_D mX3_batch 265 (.iconst 0) 1 266 := ⟨zd zq_2 (by decide +kernel), rfl⟩
theorem iX3_batch_266 : xl_P mX3_batch 266 3 1 .int 269 := ⟨11, zd zq_501 (by decide +kernel), rfl, wX3_11⟩
theorem iX3_batch_269 : xl_D mX3_batch 269 (.aload_n 0) 1 270 := ⟨zd zq_0 (by decide +kernel), rfl⟩
theorem iX3_batch_270 : xl_D mX3_batch 270 (.iload_n 3) 1 271 := ⟨zd zq_25 (by decide +kernel), rfl⟩
theorem iX3_batch_271 : xl_D mX3_batch 271 (.i2l) 1 272 := ⟨zd zq_266 (by decide +kernel), rfl⟩
theorem iX3_batch_272 : xl_Ca mX3_batch 272 mX3_enters 275 := ⟨226, zd zq_357 (by decide +kernel), rfl, lX3_226, Nat.le_of_ble_eq_true rfl, Nat.le_of_ble_eq_true rfl⟩
theorem iX3_batch_275 : xl_D mX3_batch 275 (.aload_n 0) 1 276 := ⟨zd zq_0 (by decide +kernel), rfl⟩
theorem iX3_batch_276 : xl_D mX3_batch 276 (.iload 4) 2 278 := ⟨zd zq_51 (by decide +kernel), rfl⟩
theorem iX3_batch_278 : xl_D mX3_batch 278 (.i2l) 1 279 := ⟨zd zq_266 (by decide +kernel), rfl⟩
theorem iX3_batch_279 : xl_Ca mX3_batch 279 mX3_enters 282 := ⟨226, zd zq_357 (by decide +kernel), rfl, lX3_226, Nat.le_of_ble_eq_true rfl, Nat.le_of_ble_eq_true rfl⟩
theorem iX3_batch_282 : xl_D mX3_batch 282 (.aload_n 0) 1 283 := ⟨zd zq_0 (by decide +kernel), rfl⟩
theorem iX3_batch_283 : xl_D mX3_batch 283 (.iload 5) 2 285 := ⟨zd zq_92 (by decide +kernel), rfl⟩
theorem iX3_batch_285 : xl_D mX3_batch 285 (.i2l) 1 286 := ⟨zd zq_266 (by decide +kernel), rfl⟩
theorem iX3_batch_286 : xl_Ca mX3_batch 286 mX3_enters 289 := ⟨226, zd zq_357 (by decide +kernel), rfl, lX3_226, Nat.le_of_ble_eq_true rfl, Nat.le_of_ble_eq_true rfl⟩
theorem iX3_batch_289 : xl_D mX3_batch 289 (.aload_n 0) 1 290 := ⟨zd zq_0 (by decide +kernel), rfl⟩
theorem iX3_batch_290 : xl_D mX3_batch 290 (.iload_n 2) 1 291 := ⟨zd zq_6 (by decide +kernel), rfl⟩
theorem iX3_batch_291 : xl_Ca mX3_batch 291 mX3_fallsInto 294 := ⟨286, zd zq_701 (by decide +kernel), rfl, lX3_286, Nat.le_of_ble_eq_true rfl, Nat.le_of_ble_eq_true rfl⟩
theorem iX3_batch_294 : xl_D mX3_batch 294 (.ireturn) 1 295 := ⟨zd zq_17 (by decide +kernel), rfl⟩
theorem iX3_parts_0 : xl_D mX3_parts 0 (.aload_n 0) 1 1 := ⟨zd zq_0 (by decide +kernel), rfl⟩
theorem iX3_parts_1 : xl_D mX3_parts 1 (.iconst 0) 1 2 := ⟨zd zq_2 (by decide +kernel), rfl⟩
theorem iX3_parts_2 : xl_P mX3_parts 2 3 0 .int 5 := ⟨3, zd zq_502 (by decide +kernel), rfl, wX3_3⟩
theorem iX3_parts_5 : xl_D mX3_parts 5 (.iload_n 1) 1 6 := ⟨zd zq_3 (by decide +kernel), rfl⟩
theorem iX3_parts_6 : xl_Cs mX3_parts 6 mX3_isKey 9 := ⟨272, zd zq_654 (by decide +kernel), rfl, lX3_272, Nat.le_of_ble_eq_true rfl, Nat.le_of_ble_eq_true rfl⟩
theorem iX3_parts_9 : xl_J mX3_parts 9 (fun o => .ifCond .eq o) 12 24 := ⟨15, zd zq_321 (by decide +kernel), rfl, rfl⟩
theorem iX3_parts_12 : xl_D mX3_parts 12 (.iload_n 2) 1 13 := ⟨zd zq_6 (by decide +kernel), rfl⟩
theorem iX3_parts_13 : xl_D mX3_parts 13 (.i2l) 1 14 := ⟨zd zq_266 (by decide +kernel), rfl⟩
theorem iX3_parts_14 : xl_D mX3_parts 14 (.lconst 1) 1 15 := ⟨zd zq_548 (by decide +kernel), rfl⟩
theorem iX3_parts_15 : xl_D mX3_parts 15 (.ldc2_w 289) 3 18 := ⟨zd zq_702 (by decide +kernel), rfl⟩
theorem iX3_parts_18 : xl_Cs mX3_parts 18 mX3_in 21 := ⟨21, zd zq_507 (by decide +kernel), rfl, lX3_21, Nat.le_of_ble_eq_true rfl, Nat.le_of_ble_eq_true rfl⟩
theorem iX3_parts_21 : xl_J mX3_parts 21 (fun o => .ifCond .ne o) 24 26 := ⟨5, zd zq_246 (by decide +kernel), rfl, rfl⟩
theorem iX3_parts_24 : xl_D mX3_parts 24 (.iconst (-1)) 1 25 := ⟨zd zq_104 (by decide +kernel), rfl⟩
theorem iX3_parts_25 : xl_D mX3_parts 25 (.ireturn) 1 26 := ⟨zd zq_17 (by decide +kernel), rfl⟩
theorem iX3_parts_26 : xl_D mX3_parts 26 (.aload_n 0) 1 27 := ⟨zd zq_0 (by decide +kernel), rfl⟩
theorem iX3_parts_27 : xl_D mX3_parts 27 (.iload_n 1) 1 28 := ⟨zd zq_3 (by decide +kernel), rfl⟩
theorem iX3_parts_28 : xl_Ca mX3_parts 28 mX3_laysTimes 31 := ⟨283, zd zq_692 (by decide +kernel), rfl, lX3_283, Nat.le_of_ble_eq_true rfl, Nat.le_of_ble_eq_true rfl⟩
theorem iX3_parts_31 : xl_D mX3_parts 31 (.bipush 99) 2 33 := ⟨zd zq_379 (by decide +kernel), rfl⟩
theorem iX3_parts_33 : xl_D mX3_parts 33 (.istore_n 3) 1 34 := ⟨zd zq_131 (by decide +kernel), rfl⟩
theorem iX3_parts_34 : xl_D mX3_parts 34 (.iload_n 3) 1 35 := ⟨zd zq_25 (by decide +kernel), rfl⟩
theorem iX3_parts_35 : xl_J mX3_parts 35 (fun o => .ifCond .le o) 38 53 := ⟨18, zd zq_703 (by decide +kernel), rfl, rfl⟩
theorem iX3_parts_38 : xl_D mX3_parts 38 (.aload_n 0) 1 39 := ⟨zd zq_0 (by decide +kernel), rfl⟩
theorem iX3_parts_39 : xl_D mX3_parts 39 (.iload_n 3) 1 40 := ⟨zd zq_25 (by decide +kernel), rfl⟩
theorem iX3_parts_40 : xl_Ca mX3_parts 40 mX3_fallsInto 43 := ⟨286, zd zq_701 (by decide +kernel), rfl, lX3_286, Nat.le_of_ble_eq_true rfl, Nat.le_of_ble_eq_true rfl⟩
theorem iX3_parts_43 : xl_D mX3_parts 43 (.iload_n 2) 1 44 := ⟨zd zq_6 (by decide +kernel), rfl⟩
theorem iX3_parts_44 : xl_J mX3_parts 44 (fun o => .if_icmp .ge o) 47 53 := ⟨9, zd zq_704 (by decide +kernel), rfl, rfl⟩
theorem iX3_parts_47 : xl_D mX3_parts 47 (.iinc 3 (-1)) 3 50 := ⟨zd zq_688 (by decide +kernel), rfl⟩
theorem iX3_parts_50 : xl_J mX3_parts 50 (fun o => .goto o) 53 34 := ⟨-16, zd zq_181 (by decide +kernel), rfl, rfl⟩
theorem iX3_parts_53 : xl_D mX3_parts 53 (.iload_n 3) 1 54 := ⟨zd zq_25 (by decide +kernel), rfl⟩
theorem iX3_parts_54 : xl_J mX3_parts 54 (fun o => .ifCond .ne o) 57 62 := ⟨8, zd zq_367 (by decide +kernel), rfl, rfl⟩
theorem iX3_parts_57 : xl_D mX3_parts 57 (.bipush (-2)) 2 59 := ⟨zd zq_256 (by decide +kernel), rfl⟩
theorem iX3_parts_59 : xl_J mX3_parts 59 (fun o => .goto o) 62 63 := ⟨4, zd zq_139 (by decide +kernel), rfl, rfl⟩
theorem iX3_parts_62 : xl_D mX3_parts 62 (.iload_n 3) 1 63 := ⟨zd zq_25 (by decide +kernel), rfl⟩
theorem iX3_parts_63 : xl_D mX3_parts 63 (.ireturn) 1 64 := ⟨zd zq_17 (by decide +kernel), rfl⟩
theorem iX3_comesAgain_0 : xl_D mX3_comesAgain 0 (.aload_n 0) 1 1 := ⟨zd zq_0 (by decide +kernel), rfl⟩
theorem iX3_comesAgain_1 : xl_D mX3_comesAgain 1 (.iload_n 2) 1 2 := ⟨zd zq_6 (by decide +kernel), rfl⟩
theorem iX3_comesAgain_2 : xl_D mX3_comesAgain 2 (.iconst 1) 1 3 := ⟨zd zq_36 (by decide +kernel), rfl⟩
theorem iX3_comesAgain_3 : xl_Ca mX3_comesAgain 3 mX3_ofInput 6 := ⟨277, zd zq_666 (by decide +kernel), rfl, lX3_277, Nat.le_of_ble_eq_true rfl, Nat.le_of_ble_eq_true rfl⟩
theorem iX3_comesAgain_6 : xl_D mX3_comesAgain 6 (.istore_n 3) 1 7 := ⟨zd zq_131 (by decide +kernel), rfl⟩
theorem iX3_comesAgain_7 : xl_D mX3_comesAgain 7 (.aload_n 0) 1 8 := ⟨zd zq_0 (by decide +kernel), rfl⟩
theorem iX3_comesAgain_8 : xl_D mX3_comesAgain 8 (.iload_n 2) 1 9 := ⟨zd zq_6 (by decide +kernel), rfl⟩
theorem iX3_comesAgain_9 : xl_D mX3_comesAgain 9 (.iconst 2) 1 10 := ⟨zd zq_127 (by decide +kernel), rfl⟩
theorem iX3_comesAgain_10 : xl_Ca mX3_comesAgain 10 mX3_ofInput 13 := ⟨277, zd zq_666 (by decide +kernel), rfl, lX3_277, Nat.le_of_ble_eq_true rfl, Nat.le_of_ble_eq_true rfl⟩
theorem iX3_comesAgain_13 : xl_D mX3_comesAgain 13 (.istore 4) 2 15 := ⟨zd zq_50 (by decide +kernel), rfl⟩
theorem iX3_comesAgain_15 : xl_D mX3_comesAgain 15 (.aload_n 0) 1 16 := ⟨zd zq_0 (by decide +kernel), rfl⟩
theorem iX3_comesAgain_16 : xl_D mX3_comesAgain 16 (.iload_n 2) 1 17 := ⟨zd zq_6 (by decide +kernel), rfl⟩
theorem iX3_comesAgain_17 : xl_D mX3_comesAgain 17 (.iconst 0) 1 18 := ⟨zd zq_2 (by decide +kernel), rfl⟩
theorem iX3_comesAgain_18 : xl_Ca mX3_comesAgain 18 mX3_ofInput 21 := ⟨277, zd zq_666 (by decide +kernel), rfl, lX3_277, Nat.le_of_ble_eq_true rfl, Nat.le_of_ble_eq_true rfl⟩
theorem iX3_comesAgain_21 : xl_J mX3_comesAgain 21 (fun o => .ifCond .ne o) 24 48 := ⟨27, zd zq_705 (by decide +kernel), rfl, rfl⟩
theorem iX3_comesAgain_24 : xl_D mX3_comesAgain 24 (.aload_n 0) 1 25 := ⟨zd zq_0 (by decide +kernel), rfl⟩
theorem iX3_comesAgain_25 : xl_D mX3_comesAgain 25 (.iload_n 1) 1 26 := ⟨zd zq_3 (by decide +kernel), rfl⟩
theorem iX3_comesAgain_26 : xl_D mX3_comesAgain 26 (.aload_n 0) 1 27 := ⟨zd zq_0 (by decide +kernel), rfl⟩
theorem iX3_comesAgain_27 : xl_D mX3_comesAgain 27 (.iload_n 2) 1 28 := ⟨zd zq_6 (by decide +kernel), rfl⟩
theorem iX3_comesAgain_28 : xl_D mX3_comesAgain 28 (.iconst 3) 1 29 := ⟨zd zq_123 (by decide +kernel), rfl⟩
theorem iX3_comesAgain_29 : xl_Ca mX3_comesAgain 29 mX3_ofInput 32 := ⟨277, zd zq_666 (by decide +kernel), rfl, lX3_277, Nat.le_of_ble_eq_true rfl, Nat.le_of_ble_eq_true rfl⟩
theorem iX3_comesAgain_32 : xl_D mX3_comesAgain 32 (.iload 4) 2 34 := ⟨zd zq_51 (by decide +kernel), rfl⟩
theorem iX3_comesAgain_34 : xl_D mX3_comesAgain 34 (.aload_n 0) 1 35 := ⟨zd zq_0 (by decide +kernel), rfl⟩
theorem iX3_comesAgain_35 : xl_D mX3_comesAgain 35 (.iload_n 2) 1 36 := ⟨zd zq_6 (by decide +kernel), rfl⟩
theorem iX3_comesAgain_36 : xl_D mX3_comesAgain 36 (.iconst 4) 1 37 := ⟨zd zq_63 (by decide +kernel), rfl⟩
theorem iX3_comesAgain_37 : xl_Ca mX3_comesAgain 37 mX3_ofInput 40 := ⟨277, zd zq_666 (by decide +kernel), rfl, lX3_277, Nat.le_of_ble_eq_true rfl, Nat.le_of_ble_eq_true rfl⟩
theorem iX3_comesAgain_40 : xl_D mX3_comesAgain 40 (.iload_n 3) 1 41 := ⟨zd zq_25 (by decide +kernel), rfl⟩
theorem iX3_comesAgain_41 : xl_Ca mX3_comesAgain 41 mX3_comes 44 := ⟨222, zd zq_356 (by decide +kernel), rfl, lX3_222, Nat.le_of_ble_eq_true rfl, Nat.le_of_ble_eq_true rfl⟩
theorem iX3_comesAgain_44 : xl_D mX3_comesAgain 44 (.pop) 1 45 := ⟨zd zq_95 (by decide +kernel), rfl⟩
theorem iX3_comesAgain_45 : xl_J mX3_comesAgain 45 (fun o => .goto o) 48 75 := ⟨30, zd zq_157 (by decide +kernel), rfl, rfl⟩
theorem iX3_comesAgain_48 : xl_D mX3_comesAgain 48 (.aload_n 0) 1 49 := ⟨zd zq_0 (by decide +kernel), rfl⟩
theorem iX3_comesAgain_49 : xl_D mX3_comesAgain 49 (.iload_n 2) 1 50 := ⟨zd zq_6 (by decide +kernel), rfl⟩
theorem iX3_comesAgain_50 : xl_D mX3_comesAgain 50 (.iconst 0) 1 51 := ⟨zd zq_2 (by decide +kernel), rfl⟩
theorem iX3_comesAgain_51 : xl_Ca mX3_comesAgain 51 mX3_ofInput 54 := ⟨277, zd zq_666 (by decide +kernel), rfl, lX3_277, Nat.le_of_ble_eq_true rfl, Nat.le_of_ble_eq_true rfl⟩
theorem iX3_comesAgain_54 : xl_D mX3_comesAgain 54 (.iconst 1) 1 55 := ⟨zd zq_36 (by decide +kernel), rfl⟩
theorem iX3_comesAgain_55 : xl_J mX3_comesAgain 55 (fun o => .if_icmp .ne o) 58 69 := ⟨14, zd zq_706 (by decide +kernel), rfl, rfl⟩
theorem iX3_comesAgain_58 : xl_D mX3_comesAgain 58 (.aload_n 0) 1 59 := ⟨zd zq_0 (by decide +kernel), rfl⟩
theorem iX3_comesAgain_59 : xl_D mX3_comesAgain 59 (.iload_n 1) 1 60 := ⟨zd zq_3 (by decide +kernel), rfl⟩
theorem iX3_comesAgain_60 : xl_D mX3_comesAgain 60 (.iload_n 3) 1 61 := ⟨zd zq_25 (by decide +kernel), rfl⟩
theorem iX3_comesAgain_61 : xl_D mX3_comesAgain 61 (.iload 4) 2 63 := ⟨zd zq_51 (by decide +kernel), rfl⟩
theorem iX3_comesAgain_63 : xl_Ca mX3_comesAgain 63 mX3_isMarked 66 := ⟨253, zd zq_646 (by decide +kernel), rfl, lX3_253, Nat.le_of_ble_eq_true rfl, Nat.le_of_ble_eq_true rfl⟩
theorem iX3_comesAgain_66 : xl_J mX3_comesAgain 66 (fun o => .goto o) 69 75 := ⟨9, zd zq_159 (by decide +kernel), rfl, rfl⟩
theorem iX3_comesAgain_69 : xl_D mX3_comesAgain 69 (.aload_n 0) 1 70 := ⟨zd zq_0 (by decide +kernel), rfl⟩
theorem iX3_comesAgain_70 : xl_D mX3_comesAgain 70 (.iload_n 1) 1 71 := ⟨zd zq_3 (by decide +kernel), rfl⟩
theorem iX3_comesAgain_71 : xl_D mX3_comesAgain 71 (.iload_n 3) 1 72 := ⟨zd zq_25 (by decide +kernel), rfl⟩
theorem iX3_comesAgain_72 : xl_Ca mX3_comesAgain 72 mX3_isIdle 75 := ⟨262, zd zq_394 (by decide +kernel), rfl, lX3_262, Nat.le_of_ble_eq_true rfl, Nat.le_of_ble_eq_true rfl⟩
theorem iX3_comesAgain_75 : xl_D mX3_comesAgain 75 (.return_) 1 76 := ⟨zd zq_12 (by decide +kernel), rfl⟩
theorem iX3_startsAgain_0 : xl_D mX3_startsAgain 0 (.aload_n 0) 1 1 := ⟨zd zq_0 (by decide +kernel), rfl⟩
theorem iX3_startsAgain_1 : xl_D mX3_startsAgain 1 (.iconst 4) 1 2 := ⟨zd zq_63 (by decide +kernel), rfl⟩
theorem iX3_startsAgain_2 : xl_D mX3_startsAgain 2 (.aload_n 0) 1 3 := ⟨zd zq_0 (by decide +kernel), rfl⟩
theorem iX3_startsAgain_3 : xl_D mX3_startsAgain 3 (.iconst 0) 1 4 := ⟨zd zq_2 (by decide +kernel), rfl⟩
theorem iX3_startsAgain_4 : xl_D mX3_startsAgain 4 (.iconst 0) 1 5 := ⟨zd zq_2 (by decide +kernel), rfl⟩
theorem iX3_startsAgain_5 : xl_Ca mX3_startsAgain 5 mX3_of 8 := ⟨116, zd zq_555 (by decide +kernel), rfl, lX3_116, Nat.le_of_ble_eq_true rfl, Nat.le_of_ble_eq_true rfl⟩
theorem iX3_startsAgain_8 : xl_D mX3_startsAgain 8 (.iload_n 1) 1 9 := ⟨zd zq_3 (by decide +kernel), rfl⟩
theorem iX3_startsAgain_9 : xl_D mX3_startsAgain 9 (.iload_n 2) 1 10 := ⟨zd zq_6 (by decide +kernel), rfl⟩
theorem iX3_startsAgain_10 : xl_D mX3_startsAgain 10 (.iload_n 3) 1 11 := ⟨zd zq_25 (by decide +kernel), rfl⟩
theorem iX3_startsAgain_11 : xl_Ca mX3_startsAgain 11 mX3_starts 14 := ⟨84, zd zq_535 (by decide +kernel), rfl, lX3_84, Nat.le_of_ble_eq_true rfl, Nat.le_of_ble_eq_true rfl⟩
theorem iX3_startsAgain_14 : xl_D mX3_startsAgain 14 (.iconst 0) 1 15 := ⟨zd zq_2 (by decide +kernel), rfl⟩
theorem iX3_startsAgain_15 : xl_D mX3_startsAgain 15 (.istore 4) 2 17 := ⟨zd zq_50 (by decide +kernel), rfl⟩
theorem iX3_startsAgain_17 : xl_D mX3_startsAgain 17 (.iload 4) 2 19 := ⟨zd zq_51 (by decide +kernel), rfl⟩
theorem iX3_startsAgain_19 : xl_D mX3_startsAgain 19 (.iconst 4) 1 20 := ⟨zd zq_63 (by decide +kernel), rfl⟩
theorem iX3_startsAgain_20 : xl_J mX3_startsAgain 20 (fun o => .if_icmp .ge o) 23 49 := ⟨29, zd zq_22 (by decide +kernel), rfl, rfl⟩
theorem iX3_startsAgain_23 : xl_D mX3_startsAgain 23 (.aload_n 0) 1 24 := ⟨zd zq_0 (by decide +kernel), rfl⟩
theorem iX3_startsAgain_24 : xl_D mX3_startsAgain 24 (.iconst 4) 1 25 := ⟨zd zq_63 (by decide +kernel), rfl⟩
theorem iX3_startsAgain_25 : xl_D mX3_startsAgain 25 (.bipush 16) 2 27 := ⟨zd zq_493 (by decide +kernel), rfl⟩
theorem iX3_startsAgain_27 : xl_D mX3_startsAgain 27 (.iload 4) 2 29 := ⟨zd zq_51 (by decide +kernel), rfl⟩
theorem iX3_startsAgain_29 : xl_D mX3_startsAgain 29 (.iadd) 1 30 := ⟨zd zq_19 (by decide +kernel), rfl⟩
theorem iX3_startsAgain_30 : xl_D mX3_startsAgain 30 (.aload_n 0) 1 31 := ⟨zd zq_0 (by decide +kernel), rfl⟩
theorem iX3_startsAgain_31 : xl_D mX3_startsAgain 31 (.iconst 0) 1 32 := ⟨zd zq_2 (by decide +kernel), rfl⟩
theorem iX3_startsAgain_32 : xl_D mX3_startsAgain 32 (.bipush 16) 2 34 := ⟨zd zq_493 (by decide +kernel), rfl⟩
theorem iX3_startsAgain_34 : xl_D mX3_startsAgain 34 (.iload 4) 2 36 := ⟨zd zq_51 (by decide +kernel), rfl⟩
theorem iX3_startsAgain_36 : xl_D mX3_startsAgain 36 (.iadd) 1 37 := ⟨zd zq_19 (by decide +kernel), rfl⟩
theorem iX3_startsAgain_37 : xl_Ca mX3_startsAgain 37 mX3_of 40 := ⟨116, zd zq_555 (by decide +kernel), rfl, lX3_116, Nat.le_of_ble_eq_true rfl, Nat.le_of_ble_eq_true rfl⟩
theorem iX3_startsAgain_40 : xl_Ca mX3_startsAgain 40 mX3_puts 43 := ⟨88, zd zq_542 (by decide +kernel), rfl, lX3_88, Nat.le_of_ble_eq_true rfl, Nat.le_of_ble_eq_true rfl⟩
theorem iX3_startsAgain_43 : xl_D mX3_startsAgain 43 (.iinc 4 1) 3 46 := ⟨zd zq_54 (by decide +kernel), rfl⟩
theorem iX3_startsAgain_46 : xl_J mX3_startsAgain 46 (fun o => .goto o) 49 17 := ⟨-29, zd zq_572 (by decide +kernel), rfl, rfl⟩
theorem iX3_startsAgain_49 : xl_D mX3_startsAgain 49 (.return_) 1 50 := ⟨zd zq_12 (by decide +kernel), rfl⟩
theorem iX3_closedMany_0 : xl_D mX3_closedMany 0 (.iconst 0) 1 1 := ⟨zd zq_2 (by decide +kernel), rfl⟩
theorem iX3_closedMany_1 : xl_D mX3_closedMany 1 (.istore_n 2) 1 2 := ⟨zd zq_41 (by decide +kernel), rfl⟩
theorem iX3_closedMany_2 : xl_D mX3_closedMany 2 (.iconst 0) 1 3 := ⟨zd zq_2 (by decide +kernel), rfl⟩
theorem iX3_closedMany_3 : xl_D mX3_closedMany 3 (.istore_n 3) 1 4 := ⟨zd zq_131 (by decide +kernel), rfl⟩
theorem iX3_closedMany_4 : xl_D mX3_closedMany 4 (.iload_n 3) 1 5 := ⟨zd zq_25 (by decide +kernel), rfl⟩
theorem iX3_closedMany_5 : xl_D mX3_closedMany 5 (.bipush 6) 2 7 := ⟨zd zq_71 (by decide +kernel), rfl⟩
theorem iX3_closedMany_7 : xl_J mX3_closedMany 7 (fun o => .if_icmp .ge o) 10 28 := ⟨21, zd zq_162 (by decide +kernel), rfl, rfl⟩
theorem iX3_closedMany_10 : xl_D mX3_closedMany 10 (.iload_n 2) 1 11 := ⟨zd zq_6 (by decide +kernel), rfl⟩
theorem iX3_closedMany_11 : xl_D mX3_closedMany 11 (.aload_n 0) 1 12 := ⟨zd zq_0 (by decide +kernel), rfl⟩
theorem iX3_closedMany_12 : xl_D mX3_closedMany 12 (.iload_n 1) 1 13 := ⟨zd zq_3 (by decide +kernel), rfl⟩
theorem iX3_closedMany_13 : xl_D mX3_closedMany 13 (.bipush 36) 2 15 := ⟨zd zq_599 (by decide +kernel), rfl⟩
theorem iX3_closedMany_15 : xl_D mX3_closedMany 15 (.iload_n 3) 1 16 := ⟨zd zq_25 (by decide +kernel), rfl⟩
theorem iX3_closedMany_16 : xl_D mX3_closedMany 16 (.iadd) 1 17 := ⟨zd zq_19 (by decide +kernel), rfl⟩
theorem iX3_closedMany_17 : xl_Ca mX3_closedMany 17 mX3_of 20 := ⟨116, zd zq_555 (by decide +kernel), rfl, lX3_116, Nat.le_of_ble_eq_true rfl, Nat.le_of_ble_eq_true rfl⟩
theorem iX3_closedMany_20 : xl_D mX3_closedMany 20 (.iadd) 1 21 := ⟨zd zq_19 (by decide +kernel), rfl⟩
theorem iX3_closedMany_21 : xl_D mX3_closedMany 21 (.istore_n 2) 1 22 := ⟨zd zq_41 (by decide +kernel), rfl⟩
theorem iX3_closedMany_22 : xl_D mX3_closedMany 22 (.iinc 3 1) 3 25 := ⟨zd zq_153 (by decide +kernel), rfl⟩
theorem iX3_closedMany_25 : xl_J mX3_closedMany 25 (fun o => .goto o) 28 4 := ⟨-21, zd zq_163 (by decide +kernel), rfl, rfl⟩
theorem iX3_closedMany_28 : xl_D mX3_closedMany 28 (.iload_n 2) 1 29 := ⟨zd zq_6 (by decide +kernel), rfl⟩
theorem iX3_closedMany_29 : xl_D mX3_closedMany 29 (.ireturn) 1 30 := ⟨zd zq_17 (by decide +kernel), rfl⟩
theorem iX3_latest_0 : xl_D mX3_latest 0 (.aload_n 0) 1 1 := ⟨zd zq_0 (by decide +kernel), rfl⟩
theorem iX3_latest_1 : xl_D mX3_latest 1 (.iconst 0) 1 2 := ⟨zd zq_2 (by decide +kernel), rfl⟩
theorem iX3_latest_2 : xl_P mX3_latest 2 3 0 .int 5 := ⟨3, zd zq_502 (by decide +kernel), rfl, wX3_3⟩
theorem iX3_latest_5 : xl_D mX3_latest 5 (.aload_n 0) 1 6 := ⟨zd zq_0 (by decide +kernel), rfl⟩
theorem iX3_latest_6 : xl_D mX3_latest 6 (.aload_n 0) 1 7 := ⟨zd zq_0 (by decide +kernel), rfl⟩
theorem iX3_latest_7 : xl_D mX3_latest 7 (.iconst 0) 1 8 := ⟨zd zq_2 (by decide +kernel), rfl⟩
theorem iX3_latest_8 : xl_D mX3_latest 8 (.iconst 1) 1 9 := ⟨zd zq_36 (by decide +kernel), rfl⟩
theorem iX3_latest_9 : xl_Ca mX3_latest 9 mX3_of 12 := ⟨116, zd zq_555 (by decide +kernel), rfl, lX3_116, Nat.le_of_ble_eq_true rfl, Nat.le_of_ble_eq_true rfl⟩
theorem iX3_latest_12 : xl_D mX3_latest 12 (.aload_n 0) 1 13 := ⟨zd zq_0 (by decide +kernel), rfl⟩
theorem iX3_latest_13 : xl_D mX3_latest 13 (.iconst 0) 1 14 := ⟨zd zq_2 (by decide +kernel), rfl⟩
theorem iX3_latest_14 : xl_D mX3_latest 14 (.iconst 2) 1 15 := ⟨zd zq_127 (by decide +kernel), rfl⟩
theorem iX3_latest_15 : xl_Ca mX3_latest 15 mX3_of 18 := ⟨116, zd zq_555 (by decide +kernel), rfl, lX3_116, Nat.le_of_ble_eq_true rfl, Nat.le_of_ble_eq_true rfl⟩
theorem iX3_latest_18 : xl_D mX3_latest 18 (.aload_n 0) 1 19 := ⟨zd zq_0 (by decide +kernel), rfl⟩
theorem iX3_latest_19 : xl_D mX3_latest 19 (.iconst 0) 1 20 := ⟨zd zq_2 (by decide +kernel), rfl⟩
theorem iX3_latest_20 : xl_D mX3_latest 20 (.iconst 3) 1 21 := ⟨zd zq_123 (by decide +kernel), rfl⟩
theorem iX3_latest_21 : xl_Ca mX3_latest 21 mX3_of 24 := ⟨116, zd zq_555 (by decide +kernel), rfl, lX3_116, Nat.le_of_ble_eq_true rfl, Nat.le_of_ble_eq_true rfl⟩
theorem iX3_latest_24 : xl_Ca mX3_latest 24 mX3_startsAgain 27 := ⟨291, zd zq_707 (by decide +kernel), rfl, lX3_291, Nat.le_of_ble_eq_true rfl, Nat.le_of_ble_eq_true rfl⟩
theorem iX3_latest_27 : xl_D mX3_latest 27 (.iconst 0) 1 28 := ⟨zd zq_2 (by decide +kernel), rfl⟩
theorem iX3_latest_28 : xl_D mX3_latest 28 (.istore_n 1) 1 29 := ⟨zd zq_194 (by decide +kernel), rfl⟩
theorem iX3_latest_29 : xl_D mX3_latest 29 (.iconst (-1)) 1 30 := ⟨zd zq_104 (by decide +kernel), rfl⟩
theorem iX3_latest_30 : xl_D mX3_latest 30 (.istore_n 2) 1 31 := ⟨zd zq_41 (by decide +kernel), rfl⟩
theorem iX3_latest_31 : xl_D mX3_latest 31 (.iconst 0) 1 32 := ⟨zd zq_2 (by decide +kernel), rfl⟩
theorem iX3_latest_32 : xl_D mX3_latest 32 (.istore_n 3) 1 33 := ⟨zd zq_131 (by decide +kernel), rfl⟩
theorem iX3_latest_33 : xl_D mX3_latest 33 (.iload_n 3) 1 34 := ⟨zd zq_25 (by decide +kernel), rfl⟩
theorem iX3_latest_34 : xl_D mX3_latest 34 (.aload_n 0) 1 35 := ⟨zd zq_0 (by decide +kernel), rfl⟩
theorem iX3_latest_35 : xl_D mX3_latest 35 (.iconst 0) 1 36 := ⟨zd zq_2 (by decide +kernel), rfl⟩
theorem iX3_latest_36 : xl_D mX3_latest 36 (.bipush 6) 2 38 := ⟨zd zq_71 (by decide +kernel), rfl⟩
theorem iX3_latest_38 : xl_Ca mX3_latest 38 mX3_of 41 := ⟨116, zd zq_555 (by decide +kernel), rfl, lX3_116, Nat.le_of_ble_eq_true rfl, Nat.le_of_ble_eq_true rfl⟩
theorem iX3_latest_41 : xl_J mX3_latest 41 (fun o => .if_icmp .ge o) 44 95 := ⟨54, zd zq_658 (by decide +kernel), rfl, rfl⟩
theorem iX3_latest_44 : xl_D mX3_latest 44 (.aload_n 0) 1 45 := ⟨zd zq_0 (by decide +kernel), rfl⟩
theorem iX3_latest_45 : xl_D mX3_latest 45 (.iload_n 3) 1 46 := ⟨zd zq_25 (by decide +kernel), rfl⟩
theorem iX3_latest_46 : xl_D mX3_latest 46 (.iconst 0) 1 47 := ⟨zd zq_2 (by decide +kernel), rfl⟩
theorem iX3_latest_47 : xl_Ca mX3_latest 47 mX3_ofInput 50 := ⟨277, zd zq_666 (by decide +kernel), rfl, lX3_277, Nat.le_of_ble_eq_true rfl, Nat.le_of_ble_eq_true rfl⟩
theorem iX3_latest_50 : xl_J mX3_latest 50 (fun o => .ifCond .ne o) 53 69 := ⟨19, zd zq_708 (by decide +kernel), rfl, rfl⟩
theorem iX3_latest_53 : xl_D mX3_latest 53 (.aload_n 0) 1 54 := ⟨zd zq_0 (by decide +kernel), rfl⟩
theorem iX3_latest_54 : xl_D mX3_latest 54 (.iconst 4) 1 55 := ⟨zd zq_63 (by decide +kernel), rfl⟩
theorem iX3_latest_55 : xl_D mX3_latest 55 (.iconst 4) 1 56 := ⟨zd zq_63 (by decide +kernel), rfl⟩
theorem iX3_latest_56 : xl_Ca mX3_latest 56 mX3_of 59 := ⟨116, zd zq_555 (by decide +kernel), rfl, lX3_116, Nat.le_of_ble_eq_true rfl, Nat.le_of_ble_eq_true rfl⟩
theorem iX3_latest_59 : xl_D mX3_latest 59 (.aload_n 0) 1 60 := ⟨zd zq_0 (by decide +kernel), rfl⟩
theorem iX3_latest_60 : xl_D mX3_latest 60 (.iload_n 3) 1 61 := ⟨zd zq_25 (by decide +kernel), rfl⟩
theorem iX3_latest_61 : xl_D mX3_latest 61 (.iconst 2) 1 62 := ⟨zd zq_127 (by decide +kernel), rfl⟩
theorem iX3_latest_62 : xl_Ca mX3_latest 62 mX3_ofInput 65 := ⟨277, zd zq_666 (by decide +kernel), rfl, lX3_277, Nat.le_of_ble_eq_true rfl, Nat.le_of_ble_eq_true rfl⟩
theorem iX3_latest_65 : xl_D mX3_latest 65 (.isub) 1 66 := ⟨zd zq_39 (by decide +kernel), rfl⟩
theorem iX3_latest_66 : xl_J mX3_latest 66 (fun o => .goto o) 69 70 := ⟨4, zd zq_139 (by decide +kernel), rfl, rfl⟩
theorem iX3_latest_69 : xl_D mX3_latest 69 (.iconst 0) 1 70 := ⟨zd zq_2 (by decide +kernel), rfl⟩
theorem iX3_latest_70 : xl_D mX3_latest 70 (.istore 4) 2 72 := ⟨zd zq_50 (by decide +kernel), rfl⟩
theorem iX3_latest_72 : xl_D mX3_latest 72 (.iload 4) 2 74 := ⟨zd zq_51 (by decide +kernel), rfl⟩
theorem iX3_latest_74 : xl_D mX3_latest 74 (.iload_n 1) 1 75 := ⟨zd zq_3 (by decide +kernel), rfl⟩
theorem iX3_latest_75 : xl_J mX3_latest 75 (fun o => .if_icmp .le o) 78 83 := ⟨8, zd zq_318 (by decide +kernel), rfl, rfl⟩
theorem iX3_latest_78 : xl_D mX3_latest 78 (.iload 4) 2 80 := ⟨zd zq_51 (by decide +kernel), rfl⟩
theorem iX3_latest_80 : xl_D mX3_latest 80 (.istore_n 1) 1 81 := ⟨zd zq_194 (by decide +kernel), rfl⟩
theorem iX3_latest_81 : xl_D mX3_latest 81 (.iload_n 3) 1 82 := ⟨zd zq_25 (by decide +kernel), rfl⟩
theorem iX3_latest_82 : xl_D mX3_latest 82 (.istore_n 2) 1 83 := ⟨zd zq_41 (by decide +kernel), rfl⟩
theorem iX3_latest_83 : xl_D mX3_latest 83 (.aload_n 0) 1 84 := ⟨zd zq_0 (by decide +kernel), rfl⟩
theorem iX3_latest_84 : xl_D mX3_latest 84 (.iconst 4) 1 85 := ⟨zd zq_63 (by decide +kernel), rfl⟩
theorem iX3_latest_85 : xl_D mX3_latest 85 (.iload_n 3) 1 86 := ⟨zd zq_25 (by decide +kernel), rfl⟩
theorem iX3_latest_86 : xl_Ca mX3_latest 86 mX3_comesAgain 89 := ⟨294, zd zq_709 (by decide +kernel), rfl, lX3_294, Nat.le_of_ble_eq_true rfl, Nat.le_of_ble_eq_true rfl⟩
theorem iX3_latest_89 : xl_D mX3_latest 89 (.iinc 3 1) 3 92 := ⟨zd zq_153 (by decide +kernel), rfl⟩
theorem iX3_latest_92 : xl_J mX3_latest 92 (fun o => .goto o) 95 33 := ⟨-59, zd zq_304 (by decide +kernel), rfl, rfl⟩
theorem iX3_latest_95 : xl_D mX3_latest 95 (.aload_n 0) 1 96 := ⟨zd zq_0 (by decide +kernel), rfl⟩
theorem iX3_latest_96 : xl_D mX3_latest 96 (.iconst 0) 1 97 := ⟨zd zq_2 (by decide +kernel), rfl⟩
theorem iX3_latest_97 : xl_P mX3_latest 97 3 1 .int 100 := ⟨11, zd zq_501 (by decide +kernel), rfl, wX3_11⟩
theorem iX3_latest_100 : xl_D mX3_latest 100 (.aload_n 0) 1 101 := ⟨zd zq_0 (by decide +kernel), rfl⟩
theorem iX3_latest_101 : xl_D mX3_latest 101 (.iload_n 2) 1 102 := ⟨zd zq_6 (by decide +kernel), rfl⟩
theorem iX3_latest_102 : xl_D mX3_latest 102 (.i2l) 1 103 := ⟨zd zq_266 (by decide +kernel), rfl⟩
theorem iX3_latest_103 : xl_Ca mX3_latest 103 mX3_enters 106 := ⟨226, zd zq_357 (by decide +kernel), rfl, lX3_226, Nat.le_of_ble_eq_true rfl, Nat.le_of_ble_eq_true rfl⟩
theorem iX3_latest_106 : xl_D mX3_latest 106 (.iload_n 1) 1 107 := ⟨zd zq_3 (by decide +kernel), rfl⟩
theorem iX3_latest_107 : xl_D mX3_latest 107 (.ireturn) 1 108 := ⟨zd zq_17 (by decide +kernel), rfl⟩
theorem iX3_again_0 : xl_D mX3_again 0 (.aload_n 0) 1 1 := ⟨zd zq_0 (by decide +kernel), rfl⟩
theorem iX3_again_1 : xl_D mX3_again 1 (.iconst 0) 1 2 := ⟨zd zq_2 (by decide +kernel), rfl⟩
theorem iX3_again_2 : xl_P mX3_again 2 3 0 .int 5 := ⟨3, zd zq_502 (by decide +kernel), rfl, wX3_3⟩
theorem iX3_again_5 : xl_D mX3_again 5 (.iload_n 1) 1 6 := ⟨zd zq_3 (by decide +kernel), rfl⟩
theorem iX3_again_6 : xl_D mX3_again 6 (.iload_n 2) 1 7 := ⟨zd zq_6 (by decide +kernel), rfl⟩
theorem iX3_again_7 : xl_D mX3_again 7 (.iload_n 3) 1 8 := ⟨zd zq_25 (by decide +kernel), rfl⟩
theorem iX3_again_8 : xl_Cs mX3_again 8 mX3_areSettings 11 := ⟨108, zd zq_553 (by decide +kernel), rfl, lX3_108, Nat.le_of_ble_eq_true rfl, Nat.le_of_ble_eq_true rfl⟩
theorem iX3_again_11 : xl_J mX3_again 11 (fun o => .ifCond .ne o) 14 16 := ⟨5, zd zq_246 (by decide +kernel), rfl, rfl⟩
theorem iX3_again_14 : xl_D mX3_again 14 (.iconst (-1)) 1 15 := ⟨zd zq_104 (by decide +kernel), rfl⟩
theorem iX3_again_15 : xl_D mX3_again 15 (.ireturn) 1 16 := ⟨zd zq_17 (by decide +kernel), rfl⟩
theorem iX3_again_16 : xl_D mX3_again 16 (.aload_n 0) 1 17 := ⟨zd zq_0 (by decide +kernel), rfl⟩
theorem iX3_again_17 : xl_D mX3_again 17 (.iload_n 1) 1 18 := ⟨zd zq_3 (by decide +kernel), rfl⟩
theorem iX3_again_18 : xl_D mX3_again 18 (.iload_n 2) 1 19 := ⟨zd zq_6 (by decide +kernel), rfl⟩
theorem iX3_again_19 : xl_D mX3_again 19 (.iload_n 3) 1 20 := ⟨zd zq_25 (by decide +kernel), rfl⟩
theorem iX3_again_20 : xl_Ca mX3_again 20 mX3_startsAgain 23 := ⟨291, zd zq_707 (by decide +kernel), rfl, lX3_291, Nat.le_of_ble_eq_true rfl, Nat.le_of_ble_eq_true rfl⟩
theorem iX3_again_23 : xl_D mX3_again 23 (.iconst 0) 1 24 := ⟨zd zq_2 (by decide +kernel), rfl⟩
theorem iX3_again_24 : xl_D mX3_again 24 (.istore 4) 2 26 := ⟨zd zq_50 (by decide +kernel), rfl⟩
theorem iX3_again_26 : xl_D mX3_again 26 (.iload 4) 2 28 := ⟨zd zq_51 (by decide +kernel), rfl⟩
theorem iX3_again_28 : xl_D mX3_again 28 (.aload_n 0) 1 29 := ⟨zd zq_0 (by decide +kernel), rfl⟩
theorem iX3_again_29 : xl_D mX3_again 29 (.iconst 0) 1 30 := ⟨zd zq_2 (by decide +kernel), rfl⟩
theorem iX3_again_30 : xl_D mX3_again 30 (.bipush 6) 2 32 := ⟨zd zq_71 (by decide +kernel), rfl⟩
theorem iX3_again_32 : xl_Ca mX3_again 32 mX3_of 35 := ⟨116, zd zq_555 (by decide +kernel), rfl, lX3_116, Nat.le_of_ble_eq_true rfl, Nat.le_of_ble_eq_true rfl⟩
theorem iX3_again_35 : xl_J mX3_again 35 (fun o => .if_icmp .ge o) 38 51 := ⟨16, zd zq_42 (by decide +kernel), rfl, rfl⟩
theorem iX3_again_38 : xl_D mX3_again 38 (.aload_n 0) 1 39 := ⟨zd zq_0 (by decide +kernel), rfl⟩
theorem iX3_again_39 : xl_D mX3_again 39 (.iconst 4) 1 40 := ⟨zd zq_63 (by decide +kernel), rfl⟩
theorem iX3_again_40 : xl_D mX3_again 40 (.iload 4) 2 42 := ⟨zd zq_51 (by decide +kernel), rfl⟩
theorem iX3_again_42 : xl_Ca mX3_again 42 mX3_comesAgain 45 := ⟨294, zd zq_709 (by decide +kernel), rfl, lX3_294, Nat.le_of_ble_eq_true rfl, Nat.le_of_ble_eq_true rfl⟩
theorem iX3_again_45 : xl_D mX3_again 45 (.iinc 4 1) 3 48 := ⟨zd zq_54 (by decide +kernel), rfl⟩
theorem iX3_again_48 : xl_J mX3_again 48 (fun o => .goto o) 51 26 := ⟨-22, zd zq_228 (by decide +kernel), rfl, rfl⟩
theorem iX3_again_51 : xl_D mX3_again 51 (.aload_n 0) 1 52 := ⟨zd zq_0 (by decide +kernel), rfl⟩
theorem iX3_again_52 : xl_D mX3_again 52 (.iconst 0) 1 53 := ⟨zd zq_2 (by decide +kernel), rfl⟩
theorem iX3_again_53 : xl_P mX3_again 53 3 1 .int 56 := ⟨11, zd zq_501 (by decide +kernel), rfl, wX3_11⟩
theorem iX3_again_56 : xl_D mX3_again 56 (.iconst 0) 1 57 := ⟨zd zq_2 (by decide +kernel), rfl⟩
theorem iX3_again_57 : xl_D mX3_again 57 (.istore 4) 2 59 := ⟨zd zq_50 (by decide +kernel), rfl⟩
theorem iX3_again_59 : xl_D mX3_again 59 (.iload 4) 2 61 := ⟨zd zq_51 (by decide +kernel), rfl⟩
theorem iX3_again_61 : xl_D mX3_again 61 (.iconst 4) 1 62 := ⟨zd zq_63 (by decide +kernel), rfl⟩
theorem iX3_again_62 : xl_J mX3_again 62 (fun o => .if_icmp .ge o) 65 86 := ⟨24, zd zq_352 (by decide +kernel), rfl, rfl⟩
theorem iX3_again_65 : xl_D mX3_again 65 (.aload_n 0) 1 66 := ⟨zd zq_0 (by decide +kernel), rfl⟩
theorem iX3_again_66 : xl_D mX3_again 66 (.aload_n 0) 1 67 := ⟨zd zq_0 (by decide +kernel), rfl⟩
theorem iX3_again_67 : xl_D mX3_again 67 (.iconst 4) 1 68 := ⟨zd zq_63 (by decide +kernel), rfl⟩
theorem iX3_again_68 : xl_D mX3_again 68 (.bipush 32) 2 70 := ⟨zd zq_573 (by decide +kernel), rfl⟩
theorem iX3_again_70 : xl_D mX3_again 70 (.iload 4) 2 72 := ⟨zd zq_51 (by decide +kernel), rfl⟩
theorem iX3_again_72 : xl_D mX3_again 72 (.iadd) 1 73 := ⟨zd zq_19 (by decide +kernel), rfl⟩
theorem iX3_again_73 : xl_Ca mX3_again 73 mX3_of 76 := ⟨116, zd zq_555 (by decide +kernel), rfl, lX3_116, Nat.le_of_ble_eq_true rfl, Nat.le_of_ble_eq_true rfl⟩
theorem iX3_again_76 : xl_D mX3_again 76 (.i2l) 1 77 := ⟨zd zq_266 (by decide +kernel), rfl⟩
theorem iX3_again_77 : xl_Ca mX3_again 77 mX3_enters 80 := ⟨226, zd zq_357 (by decide +kernel), rfl, lX3_226, Nat.le_of_ble_eq_true rfl, Nat.le_of_ble_eq_true rfl⟩
theorem iX3_again_80 : xl_D mX3_again 80 (.iinc 4 1) 3 83 := ⟨zd zq_54 (by decide +kernel), rfl⟩
theorem iX3_again_83 : xl_J mX3_again 83 (fun o => .goto o) 86 59 := ⟨-24, zd zq_456 (by decide +kernel), rfl, rfl⟩
theorem iX3_again_86 : xl_D mX3_again 86 (.aload_n 0) 1 87 := ⟨zd zq_0 (by decide +kernel), rfl⟩
theorem iX3_again_87 : xl_D mX3_again 87 (.aload_n 0) 1 88 := ⟨zd zq_0 (by decide +kernel), rfl⟩
theorem iX3_again_88 : xl_D mX3_again 88 (.iconst 4) 1 89 := ⟨zd zq_63 (by decide +kernel), rfl⟩
theorem iX3_again_89 : xl_D mX3_again 89 (.iconst 5) 1 90 := ⟨zd zq_64 (by decide +kernel), rfl⟩
theorem iX3_again_90 : xl_Ca mX3_again 90 mX3_of 93 := ⟨116, zd zq_555 (by decide +kernel), rfl, lX3_116, Nat.le_of_ble_eq_true rfl, Nat.le_of_ble_eq_true rfl⟩
theorem iX3_again_93 : xl_D mX3_again 93 (.i2l) 1 94 := ⟨zd zq_266 (by decide +kernel), rfl⟩
theorem iX3_again_94 : xl_Ca mX3_again 94 mX3_enters 97 := ⟨226, zd zq_357 (by decide +kernel), rfl, lX3_226, Nat.le_of_ble_eq_true rfl, Nat.le_of_ble_eq_true rfl⟩
theorem iX3_again_97 : xl_D mX3_again 97 (.aload_n 0) 1 98 := ⟨zd zq_0 (by decide +kernel), rfl⟩
theorem iX3_again_98 : xl_D mX3_again 98 (.aload_n 0) 1 99 := ⟨zd zq_0 (by decide +kernel), rfl⟩
theorem iX3_again_99 : xl_D mX3_again 99 (.iconst 4) 1 100 := ⟨zd zq_63 (by decide +kernel), rfl⟩
theorem iX3_again_100 : xl_Ca mX3_again 100 mX3_closedMany 103 := ⟨173, zd zq_598 (by decide +kernel), rfl, lX3_173, Nat.le_of_ble_eq_true rfl, Nat.le_of_ble_eq_true rfl⟩
theorem iX3_again_103 : xl_D mX3_again 103 (.i2l) 1 104 := ⟨zd zq_266 (by decide +kernel), rfl⟩
theorem iX3_again_104 : xl_Ca mX3_again 104 mX3_enters 107 := ⟨226, zd zq_357 (by decide +kernel), rfl, lX3_226, Nat.le_of_ble_eq_true rfl, Nat.le_of_ble_eq_true rfl⟩
theorem iX3_again_107 : xl_D mX3_again 107 (.aload_n 0) 1 108 := ⟨zd zq_0 (by decide +kernel), rfl⟩
theorem iX3_again_108 : xl_D mX3_again 108 (.iconst 4) 1 109 := ⟨zd zq_63 (by decide +kernel), rfl⟩
theorem iX3_again_109 : xl_D mX3_again 109 (.bipush 10) 2 111 := ⟨zd zq_78 (by decide +kernel), rfl⟩
theorem iX3_again_111 : xl_Ca mX3_again 111 mX3_of 114 := ⟨116, zd zq_555 (by decide +kernel), rfl, lX3_116, Nat.le_of_ble_eq_true rfl, Nat.le_of_ble_eq_true rfl⟩
theorem iX3_again_114 : xl_D mX3_again 114 (.ireturn) 1 115 := ⟨zd zq_17 (by decide +kernel), rfl⟩
theorem iX3_without_0 : xl_D mX3_without 0 (.aload_n 0) 1 1 := ⟨zd zq_0 (by decide +kernel), rfl⟩
theorem iX3_without_1 : xl_D mX3_without 1 (.iconst 0) 1 2 := ⟨zd zq_2 (by decide +kernel), rfl⟩
theorem iX3_without_2 : xl_P mX3_without 2 3 0 .int 5 := ⟨3, zd zq_502 (by decide +kernel), rfl, wX3_3⟩
theorem iX3_without_5 : xl_D mX3_without 5 (.aload_n 0) 1 6 := ⟨zd zq_0 (by decide +kernel), rfl⟩
theorem iX3_without_6 : xl_D mX3_without 6 (.iload_n 1) 1 7 := ⟨zd zq_3 (by decide +kernel), rfl⟩
theorem iX3_without_7 : xl_Ca mX3_without 7 mX3_isSource 10 := ⟨120, zd zq_556 (by decide +kernel), rfl, lX3_120, Nat.le_of_ble_eq_true rfl, Nat.le_of_ble_eq_true rfl⟩
theorem iX3_without_10 : xl_J mX3_without 10 (fun o => .ifCond .ne o) 13 15 := ⟨5, zd zq_246 (by decide +kernel), rfl, rfl⟩
theorem iX3_without_13 : xl_D mX3_without 13 (.iconst (-1)) 1 14 := ⟨zd zq_104 (by decide +kernel), rfl⟩
theorem iX3_without_14 : xl_D mX3_without 14 (.ireturn) 1 15 := ⟨zd zq_17 (by decide +kernel), rfl⟩
theorem iX3_without_15 : xl_D mX3_without 15 (.aload_n 0) 1 16 := ⟨zd zq_0 (by decide +kernel), rfl⟩
theorem iX3_without_16 : xl_D mX3_without 16 (.iconst 0) 1 17 := ⟨zd zq_2 (by decide +kernel), rfl⟩
theorem iX3_without_17 : xl_D mX3_without 17 (.iconst 0) 1 18 := ⟨zd zq_2 (by decide +kernel), rfl⟩
theorem iX3_without_18 : xl_Ca mX3_without 18 mX3_of 21 := ⟨116, zd zq_555 (by decide +kernel), rfl, lX3_116, Nat.le_of_ble_eq_true rfl, Nat.le_of_ble_eq_true rfl⟩
theorem iX3_without_21 : xl_D mX3_without 21 (.iconst 1) 1 22 := ⟨zd zq_36 (by decide +kernel), rfl⟩
theorem iX3_without_22 : xl_J mX3_without 22 (fun o => .if_icmp .ne o) 25 28 := ⟨6, zd zq_255 (by decide +kernel), rfl, rfl⟩
theorem iX3_without_25 : xl_D mX3_without 25 (.bipush (-2)) 2 27 := ⟨zd zq_256 (by decide +kernel), rfl⟩
theorem iX3_without_27 : xl_D mX3_without 27 (.ireturn) 1 28 := ⟨zd zq_17 (by decide +kernel), rfl⟩
theorem iX3_without_28 : xl_D mX3_without 28 (.aload_n 0) 1 29 := ⟨zd zq_0 (by decide +kernel), rfl⟩
theorem iX3_without_29 : xl_D mX3_without 29 (.aload_n 0) 1 30 := ⟨zd zq_0 (by decide +kernel), rfl⟩
theorem iX3_without_30 : xl_D mX3_without 30 (.iconst 0) 1 31 := ⟨zd zq_2 (by decide +kernel), rfl⟩
theorem iX3_without_31 : xl_D mX3_without 31 (.iconst 1) 1 32 := ⟨zd zq_36 (by decide +kernel), rfl⟩
theorem iX3_without_32 : xl_Ca mX3_without 32 mX3_of 35 := ⟨116, zd zq_555 (by decide +kernel), rfl, lX3_116, Nat.le_of_ble_eq_true rfl, Nat.le_of_ble_eq_true rfl⟩
theorem iX3_without_35 : xl_D mX3_without 35 (.aload_n 0) 1 36 := ⟨zd zq_0 (by decide +kernel), rfl⟩
theorem iX3_without_36 : xl_D mX3_without 36 (.iconst 0) 1 37 := ⟨zd zq_2 (by decide +kernel), rfl⟩
theorem iX3_without_37 : xl_D mX3_without 37 (.iconst 2) 1 38 := ⟨zd zq_127 (by decide +kernel), rfl⟩
theorem iX3_without_38 : xl_Ca mX3_without 38 mX3_of 41 := ⟨116, zd zq_555 (by decide +kernel), rfl, lX3_116, Nat.le_of_ble_eq_true rfl, Nat.le_of_ble_eq_true rfl⟩
theorem iX3_without_41 : xl_D mX3_without 41 (.aload_n 0) 1 42 := ⟨zd zq_0 (by decide +kernel), rfl⟩
theorem iX3_without_42 : xl_D mX3_without 42 (.iconst 0) 1 43 := ⟨zd zq_2 (by decide +kernel), rfl⟩
theorem iX3_without_43 : xl_D mX3_without 43 (.iconst 3) 1 44 := ⟨zd zq_123 (by decide +kernel), rfl⟩
theorem iX3_without_44 : xl_Ca mX3_without 44 mX3_of 47 := ⟨116, zd zq_555 (by decide +kernel), rfl, lX3_116, Nat.le_of_ble_eq_true rfl, Nat.le_of_ble_eq_true rfl⟩
theorem iX3_without_47 : xl_Ca mX3_without 47 mX3_startsAgain 50 := ⟨291, zd zq_707 (by decide +kernel), rfl, lX3_291, Nat.le_of_ble_eq_true rfl, Nat.le_of_ble_eq_true rfl⟩
theorem iX3_without_50 : xl_D mX3_without 50 (.aload_n 0) 1 51 := ⟨zd zq_0 (by decide +kernel), rfl⟩
theorem iX3_without_51 : xl_D mX3_without 51 (.iconst 4) 1 52 := ⟨zd zq_63 (by decide +kernel), rfl⟩
theorem iX3_without_52 : xl_D mX3_without 52 (.bipush 20) 2 54 := ⟨zd zq_96 (by decide +kernel), rfl⟩
theorem iX3_without_54 : xl_D mX3_without 54 (.iload_n 1) 1 55 := ⟨zd zq_3 (by decide +kernel), rfl⟩
theorem iX3_without_55 : xl_D mX3_without 55 (.iadd) 1 56 := ⟨zd zq_19 (by decide +kernel), rfl⟩
theorem iX3_without_56 : xl_D mX3_without 56 (.iconst 1) 1 57 := ⟨zd zq_36 (by decide +kernel), rfl⟩
theorem iX3_without_57 : xl_Ca mX3_without 57 mX3_puts 60 := ⟨88, zd zq_542 (by decide +kernel), rfl, lX3_88, Nat.le_of_ble_eq_true rfl, Nat.le_of_ble_eq_true rfl⟩
theorem iX3_without_60 : xl_D mX3_without 60 (.iconst 0) 1 61 := ⟨zd zq_2 (by decide +kernel), rfl⟩
theorem iX3_without_61 : xl_D mX3_without 61 (.istore_n 2) 1 62 := ⟨zd zq_41 (by decide +kernel), rfl⟩
theorem iX3_without_62 : xl_D mX3_without 62 (.iload_n 2) 1 63 := ⟨zd zq_6 (by decide +kernel), rfl⟩
theorem iX3_without_63 : xl_D mX3_without 63 (.aload_n 0) 1 64 := ⟨zd zq_0 (by decide +kernel), rfl⟩
theorem iX3_without_64 : xl_D mX3_without 64 (.iconst 0) 1 65 := ⟨zd zq_2 (by decide +kernel), rfl⟩
theorem iX3_without_65 : xl_D mX3_without 65 (.bipush 6) 2 67 := ⟨zd zq_71 (by decide +kernel), rfl⟩
theorem iX3_without_67 : xl_Ca mX3_without 67 mX3_of 70 := ⟨116, zd zq_555 (by decide +kernel), rfl, lX3_116, Nat.le_of_ble_eq_true rfl, Nat.le_of_ble_eq_true rfl⟩
theorem iX3_without_70 : xl_J mX3_without 70 (fun o => .if_icmp .ge o) 73 95 := ⟨25, zd zq_451 (by decide +kernel), rfl, rfl⟩
theorem iX3_without_73 : xl_D mX3_without 73 (.aload_n 0) 1 74 := ⟨zd zq_0 (by decide +kernel), rfl⟩
theorem iX3_without_74 : xl_D mX3_without 74 (.iload_n 2) 1 75 := ⟨zd zq_6 (by decide +kernel), rfl⟩
theorem iX3_without_75 : xl_D mX3_without 75 (.iconst 1) 1 76 := ⟨zd zq_36 (by decide +kernel), rfl⟩
theorem iX3_without_76 : xl_Ca mX3_without 76 mX3_ofInput 79 := ⟨277, zd zq_666 (by decide +kernel), rfl, lX3_277, Nat.le_of_ble_eq_true rfl, Nat.le_of_ble_eq_true rfl⟩
theorem iX3_without_79 : xl_D mX3_without 79 (.iload_n 1) 1 80 := ⟨zd zq_3 (by decide +kernel), rfl⟩
theorem iX3_without_80 : xl_J mX3_without 80 (fun o => .if_icmp .eq o) 83 89 := ⟨9, zd zq_441 (by decide +kernel), rfl, rfl⟩
theorem iX3_without_83 : xl_D mX3_without 83 (.aload_n 0) 1 84 := ⟨zd zq_0 (by decide +kernel), rfl⟩
theorem iX3_without_84 : xl_D mX3_without 84 (.iconst 4) 1 85 := ⟨zd zq_63 (by decide +kernel), rfl⟩
theorem iX3_without_85 : xl_D mX3_without 85 (.iload_n 2) 1 86 := ⟨zd zq_6 (by decide +kernel), rfl⟩
theorem iX3_without_86 : xl_Ca mX3_without 86 mX3_comesAgain 89 := ⟨294, zd zq_709 (by decide +kernel), rfl, lX3_294, Nat.le_of_ble_eq_true rfl, Nat.le_of_ble_eq_true rfl⟩
theorem iX3_without_89 : xl_D mX3_without 89 (.iinc 2 1) 3 92 := ⟨zd zq_44 (by decide +kernel), rfl⟩
theorem iX3_without_92 : xl_J mX3_without 92 (fun o => .goto o) 95 62 := ⟨-30, zd zq_643 (by decide +kernel), rfl, rfl⟩
theorem iX3_without_95 : xl_D mX3_without 95 (.aload_n 0) 1 96 := ⟨zd zq_0 (by decide +kernel), rfl⟩
theorem iX3_without_96 : xl_D mX3_without 96 (.iconst 0) 1 97 := ⟨zd zq_2 (by decide +kernel), rfl⟩
theorem iX3_without_97 : xl_P mX3_without 97 3 1 .int 100 := ⟨11, zd zq_501 (by decide +kernel), rfl, wX3_11⟩
theorem iX3_without_100 : xl_D mX3_without 100 (.aload_n 0) 1 101 := ⟨zd zq_0 (by decide +kernel), rfl⟩
theorem iX3_without_101 : xl_D mX3_without 101 (.aload_n 0) 1 102 := ⟨zd zq_0 (by decide +kernel), rfl⟩
theorem iX3_without_102 : xl_D mX3_without 102 (.iconst 4) 1 103 := ⟨zd zq_63 (by decide +kernel), rfl⟩
theorem iX3_without_103 : xl_D mX3_without 103 (.bipush 10) 2 105 := ⟨zd zq_78 (by decide +kernel), rfl⟩
theorem iX3_without_105 : xl_Ca mX3_without 105 mX3_of 108 := ⟨116, zd zq_555 (by decide +kernel), rfl, lX3_116, Nat.le_of_ble_eq_true rfl, Nat.le_of_ble_eq_true rfl⟩
theorem iX3_without_108 : xl_D mX3_without 108 (.i2l) 1 109 := ⟨zd zq_266 (by decide +kernel), rfl⟩
theorem iX3_without_109 : xl_Ca mX3_without 109 mX3_enters 112 := ⟨226, zd zq_357 (by decide +kernel), rfl, lX3_226, Nat.le_of_ble_eq_true rfl, Nat.le_of_ble_eq_true rfl⟩
theorem iX3_without_112 : xl_D mX3_without 112 (.aload_n 0) 1 113 := ⟨zd zq_0 (by decide +kernel), rfl⟩
theorem iX3_without_113 : xl_D mX3_without 113 (.aload_n 0) 1 114 := ⟨zd zq_0 (by decide +kernel), rfl⟩
theorem iX3_without_114 : xl_D mX3_without 114 (.iconst 4) 1 115 := ⟨zd zq_63 (by decide +kernel), rfl⟩
theorem iX3_without_115 : xl_D mX3_without 115 (.iconst 5) 1 116 := ⟨zd zq_64 (by decide +kernel), rfl⟩
theorem iX3_without_116 : xl_Ca mX3_without 116 mX3_of 119 := ⟨116, zd zq_555 (by decide +kernel), rfl, lX3_116, Nat.le_of_ble_eq_true rfl, Nat.le_of_ble_eq_true rfl⟩
theorem iX3_without_119 : xl_D mX3_without 119 (.i2l) 1 120 := ⟨zd zq_266 (by decide +kernel), rfl⟩
theorem iX3_without_120 : xl_Ca mX3_without 120 mX3_enters 123 := ⟨226, zd zq_357 (by decide +kernel), rfl, lX3_226, Nat.le_of_ble_eq_true rfl, Nat.le_of_ble_eq_true rfl⟩
theorem iX3_without_123 : xl_D mX3_without 123 (.aload_n 0) 1 124 := ⟨zd zq_0 (by decide +kernel), rfl⟩
theorem iX3_without_124 : xl_D mX3_without 124 (.aload_n 0) 1 125 := ⟨zd zq_0 (by decide +kernel), rfl⟩
theorem iX3_without_125 : xl_D mX3_without 125 (.iconst 4) 1 126 := ⟨zd zq_63 (by decide +kernel), rfl⟩
theorem iX3_without_126 : xl_Ca mX3_without 126 mX3_closedMany 129 := ⟨173, zd zq_598 (by decide +kernel), rfl, lX3_173, Nat.le_of_ble_eq_true rfl, Nat.le_of_ble_eq_true rfl⟩
theorem iX3_without_129 : xl_D mX3_without 129 (.i2l) 1 130 := ⟨zd zq_266 (by decide +kernel), rfl⟩
theorem iX3_without_130 : xl_Ca mX3_without 130 mX3_enters 133 := ⟨226, zd zq_357 (by decide +kernel), rfl, lX3_226, Nat.le_of_ble_eq_true rfl, Nat.le_of_ble_eq_true rfl⟩
theorem iX3_without_133 : xl_D mX3_without 133 (.aload_n 0) 1 134 := ⟨zd zq_0 (by decide +kernel), rfl⟩
theorem iX3_without_134 : xl_D mX3_without 134 (.iconst 4) 1 135 := ⟨zd zq_63 (by decide +kernel), rfl⟩
theorem iX3_without_135 : xl_D mX3_without 135 (.iconst 4) 1 136 := ⟨zd zq_63 (by decide +kernel), rfl⟩
theorem iX3_without_136 : xl_Ca mX3_without 136 mX3_of 139 := ⟨116, zd zq_555 (by decide +kernel), rfl, lX3_116, Nat.le_of_ble_eq_true rfl, Nat.le_of_ble_eq_true rfl⟩
theorem iX3_without_139 : xl_D mX3_without 139 (.ireturn) 1 140 := ⟨zd zq_17 (by decide +kernel), rfl⟩
theorem iX3_input_0 : xl_D mX3_input 0 (.aload_n 0) 1 1 := ⟨zd zq_0 (by decide +kernel), rfl⟩
theorem iX3_input_1 : xl_D mX3_input 1 (.iload_n 1) 1 2 := ⟨zd zq_3 (by decide +kernel), rfl⟩
theorem iX3_input_2 : xl_D mX3_input 2 (.i2l) 1 3 := ⟨zd zq_266 (by decide +kernel), rfl⟩
theorem iX3_input_3 : xl_D mX3_input 3 (.lconst 0) 1 4 := ⟨zd zq_506 (by decide +kernel), rfl⟩
theorem iX3_input_4 : xl_D mX3_input 4 (.aload_n 0) 1 5 := ⟨zd zq_0 (by decide +kernel), rfl⟩
theorem iX3_input_5 : xl_D mX3_input 5 (.iconst 0) 1 6 := ⟨zd zq_2 (by decide +kernel), rfl⟩
theorem iX3_input_6 : xl_D mX3_input 6 (.bipush 6) 2 8 := ⟨zd zq_71 (by decide +kernel), rfl⟩
theorem iX3_input_8 : xl_Ca mX3_input 8 mX3_of 11 := ⟨116, zd zq_555 (by decide +kernel), rfl, lX3_116, Nat.le_of_ble_eq_true rfl, Nat.le_of_ble_eq_true rfl⟩
theorem iX3_input_11 : xl_D mX3_input 11 (.iconst 1) 1 12 := ⟨zd zq_36 (by decide +kernel), rfl⟩
theorem iX3_input_12 : xl_D mX3_input 12 (.isub) 1 13 := ⟨zd zq_39 (by decide +kernel), rfl⟩
theorem iX3_input_13 : xl_D mX3_input 13 (.i2l) 1 14 := ⟨zd zq_266 (by decide +kernel), rfl⟩
theorem iX3_input_14 : xl_Cs mX3_input 14 mX3_in 17 := ⟨21, zd zq_507 (by decide +kernel), rfl, lX3_21, Nat.le_of_ble_eq_true rfl, Nat.le_of_ble_eq_true rfl⟩
theorem iX3_input_17 : xl_J mX3_input 17 (fun o => .ifCond .eq o) 20 32 := ⟨15, zd zq_321 (by decide +kernel), rfl, rfl⟩
theorem iX3_input_20 : xl_D mX3_input 20 (.iload_n 2) 1 21 := ⟨zd zq_6 (by decide +kernel), rfl⟩
theorem iX3_input_21 : xl_D mX3_input 21 (.i2l) 1 22 := ⟨zd zq_266 (by decide +kernel), rfl⟩
theorem iX3_input_22 : xl_D mX3_input 22 (.lconst 0) 1 23 := ⟨zd zq_506 (by decide +kernel), rfl⟩
theorem iX3_input_23 : xl_D mX3_input 23 (.ldc2_w 270) 3 26 := ⟨zd zq_650 (by decide +kernel), rfl⟩
theorem iX3_input_26 : xl_Cs mX3_input 26 mX3_in 29 := ⟨21, zd zq_507 (by decide +kernel), rfl, lX3_21, Nat.le_of_ble_eq_true rfl, Nat.le_of_ble_eq_true rfl⟩
theorem iX3_input_29 : xl_J mX3_input 29 (fun o => .ifCond .ne o) 32 36 := ⟨7, zd zq_192 (by decide +kernel), rfl, rfl⟩
theorem iX3_input_32 : xl_D mX3_input 32 (.iconst 1) 1 33 := ⟨zd zq_36 (by decide +kernel), rfl⟩
theorem iX3_input_33 : xl_J mX3_input 33 (fun o => .goto o) 36 37 := ⟨4, zd zq_139 (by decide +kernel), rfl, rfl⟩
theorem iX3_input_36 : xl_D mX3_input 36 (.iconst 0) 1 37 := ⟨zd zq_2 (by decide +kernel), rfl⟩
theorem iX3_input_37 : xl_Cs mX3_input 37 mX3_flag 40 := ⟨194, zd zq_613 (by decide +kernel), rfl, lX3_194, Nat.le_of_ble_eq_true rfl, Nat.le_of_ble_eq_true rfl⟩
theorem iX3_input_40 : xl_P mX3_input 40 3 0 .int 43 := ⟨3, zd zq_502 (by decide +kernel), rfl, wX3_3⟩
theorem iX3_input_43 : xl_D mX3_input 43 (.aload_n 0) 1 44 := ⟨zd zq_0 (by decide +kernel), rfl⟩
theorem iX3_input_44 : xl_G mX3_input 44 3 0 47 := ⟨3, zd zq_647 (by decide +kernel), rfl, fX3_3⟩
theorem iX3_input_47 : xl_D mX3_input 47 (.iconst 1) 1 48 := ⟨zd zq_36 (by decide +kernel), rfl⟩
theorem iX3_input_48 : xl_J mX3_input 48 (fun o => .if_icmp .ne o) 51 55 := ⟨7, zd zq_138 (by decide +kernel), rfl, rfl⟩
theorem iX3_input_51 : xl_D mX3_input 51 (.iconst 0) 1 52 := ⟨zd zq_2 (by decide +kernel), rfl⟩
theorem iX3_input_52 : xl_J mX3_input 52 (fun o => .goto o) 55 61 := ⟨9, zd zq_159 (by decide +kernel), rfl, rfl⟩
theorem iX3_input_55 : xl_D mX3_input 55 (.aload_n 0) 1 56 := ⟨zd zq_0 (by decide +kernel), rfl⟩
theorem iX3_input_56 : xl_D mX3_input 56 (.iload_n 1) 1 57 := ⟨zd zq_3 (by decide +kernel), rfl⟩
theorem iX3_input_57 : xl_D mX3_input 57 (.iload_n 2) 1 58 := ⟨zd zq_6 (by decide +kernel), rfl⟩
theorem iX3_input_58 : xl_Ca mX3_input 58 mX3_ofInput 61 := ⟨277, zd zq_666 (by decide +kernel), rfl, lX3_277, Nat.le_of_ble_eq_true rfl, Nat.le_of_ble_eq_true rfl⟩
theorem iX3_input_61 : xl_D mX3_input 61 (.ireturn) 1 62 := ⟨zd zq_17 (by decide +kernel), rfl⟩
theorem iX3_readsAct_0 : xl_D mX3_readsAct 0 (.aload_n 0) 1 1 := ⟨zd zq_0 (by decide +kernel), rfl⟩
theorem iX3_readsAct_1 : xl_G mX3_readsAct 1 3 20 4 := ⟨77, zd zq_710 (by decide +kernel), rfl, fX3_77⟩
theorem iX3_readsAct_4 : xl_D mX3_readsAct 4 (.iload_n 1) 1 5 := ⟨zd zq_3 (by decide +kernel), rfl⟩
theorem iX3_readsAct_5 : xl_D mX3_readsAct 5 (.aload_n 0) 1 6 := ⟨zd zq_0 (by decide +kernel), rfl⟩
theorem iX3_readsAct_6 : xl_D mX3_readsAct 6 (.ldc_w 297) 3 9 := ⟨zd zq_711 (by decide +kernel), rfl⟩
theorem iX3_readsAct_9 : xl_Ca mX3_readsAct 9 mX3_takesOf 12 := ⟨43, zd zq_519 (by decide +kernel), rfl, lX3_43, Nat.le_of_ble_eq_true rfl, Nat.le_of_ble_eq_true rfl⟩
theorem iX3_readsAct_12 : xl_D mX3_readsAct 12 (.iastore) 1 13 := ⟨zd zq_26 (by decide +kernel), rfl⟩
theorem iX3_readsAct_13 : xl_D mX3_readsAct 13 (.aload_n 0) 1 14 := ⟨zd zq_0 (by decide +kernel), rfl⟩
theorem iX3_readsAct_14 : xl_G mX3_readsAct 14 3 20 17 := ⟨77, zd zq_710 (by decide +kernel), rfl, fX3_77⟩
theorem iX3_readsAct_17 : xl_D mX3_readsAct 17 (.iload_n 1) 1 18 := ⟨zd zq_3 (by decide +kernel), rfl⟩
theorem iX3_readsAct_18 : xl_D mX3_readsAct 18 (.iaload) 1 19 := ⟨zd zq_20 (by decide +kernel), rfl⟩
theorem iX3_readsAct_19 : xl_J mX3_readsAct 19 (fun o => .ifCond .ne o) 22 29 := ⟨10, zd zq_642 (by decide +kernel), rfl, rfl⟩
theorem iX3_readsAct_22 : xl_D mX3_readsAct 22 (.aload_n 0) 1 23 := ⟨zd zq_0 (by decide +kernel), rfl⟩
theorem iX3_readsAct_23 : xl_D mX3_readsAct 23 (.iload_n 1) 1 24 := ⟨zd zq_3 (by decide +kernel), rfl⟩
theorem iX3_readsAct_24 : xl_D mX3_readsAct 24 (.iconst 1) 1 25 := ⟨zd zq_36 (by decide +kernel), rfl⟩
theorem iX3_readsAct_25 : xl_Ca mX3_readsAct 25 mX3_readsEvent 28 := ⟨247, zd zq_384 (by decide +kernel), rfl, lX3_247, Nat.le_of_ble_eq_true rfl, Nat.le_of_ble_eq_true rfl⟩
theorem iX3_readsAct_28 : xl_D mX3_readsAct 28 (.ireturn) 1 29 := ⟨zd zq_17 (by decide +kernel), rfl⟩
theorem iX3_readsAct_29 : xl_D mX3_readsAct 29 (.aload_n 0) 1 30 := ⟨zd zq_0 (by decide +kernel), rfl⟩
theorem iX3_readsAct_30 : xl_G mX3_readsAct 30 3 16 33 := ⟨68, zd zq_639 (by decide +kernel), rfl, fX3_68⟩
theorem iX3_readsAct_33 : xl_D mX3_readsAct 33 (.iload_n 1) 1 34 := ⟨zd zq_3 (by decide +kernel), rfl⟩
theorem iX3_readsAct_34 : xl_D mX3_readsAct 34 (.aload_n 0) 1 35 := ⟨zd zq_0 (by decide +kernel), rfl⟩
theorem iX3_readsAct_35 : xl_G mX3_readsAct 35 3 20 38 := ⟨77, zd zq_710 (by decide +kernel), rfl, fX3_77⟩
theorem iX3_readsAct_38 : xl_D mX3_readsAct 38 (.iload_n 1) 1 39 := ⟨zd zq_3 (by decide +kernel), rfl⟩
theorem iX3_readsAct_39 : xl_D mX3_readsAct 39 (.iaload) 1 40 := ⟨zd zq_20 (by decide +kernel), rfl⟩
theorem iX3_readsAct_40 : xl_J mX3_readsAct 40 (fun o => .ifCond .ge o) 43 47 := ⟨7, zd zq_285 (by decide +kernel), rfl, rfl⟩
theorem iX3_readsAct_43 : xl_D mX3_readsAct 43 (.iconst (-1)) 1 44 := ⟨zd zq_104 (by decide +kernel), rfl⟩
theorem iX3_readsAct_44 : xl_J mX3_readsAct 44 (fun o => .goto o) 47 52 := ⟨8, zd zq_133 (by decide +kernel), rfl, rfl⟩
theorem iX3_readsAct_47 : xl_D mX3_readsAct 47 (.aload_n 0) 1 48 := ⟨zd zq_0 (by decide +kernel), rfl⟩
theorem iX3_readsAct_48 : xl_D mX3_readsAct 48 (.iconst 1) 1 49 := ⟨zd zq_36 (by decide +kernel), rfl⟩
theorem iX3_readsAct_49 : xl_Ca mX3_readsAct 49 mX3_digits 52 := ⟨239, zd zq_636 (by decide +kernel), rfl, lX3_239, Nat.le_of_ble_eq_true rfl, Nat.le_of_ble_eq_true rfl⟩
theorem iX3_readsAct_52 : xl_D mX3_readsAct 52 (.iastore) 1 53 := ⟨zd zq_26 (by decide +kernel), rfl⟩
theorem iX3_readsAct_53 : xl_D mX3_readsAct 53 (.aload_n 0) 1 54 := ⟨zd zq_0 (by decide +kernel), rfl⟩
theorem iX3_readsAct_54 : xl_G mX3_readsAct 54 3 14 57 := ⟨62, zd zq_635 (by decide +kernel), rfl, fX3_62⟩
theorem iX3_readsAct_57 : xl_D mX3_readsAct 57 (.iload_n 1) 1 58 := ⟨zd zq_3 (by decide +kernel), rfl⟩
theorem iX3_readsAct_58 : xl_D mX3_readsAct 58 (.aload_n 0) 1 59 := ⟨zd zq_0 (by decide +kernel), rfl⟩
theorem iX3_readsAct_59 : xl_G mX3_readsAct 59 3 16 62 := ⟨68, zd zq_639 (by decide +kernel), rfl, fX3_68⟩
theorem iX3_readsAct_62 : xl_D mX3_readsAct 62 (.iload_n 1) 1 63 := ⟨zd zq_3 (by decide +kernel), rfl⟩
theorem iX3_readsAct_63 : xl_D mX3_readsAct 63 (.iaload) 1 64 := ⟨zd zq_20 (by decide +kernel), rfl⟩
theorem iX3_readsAct_64 : xl_J mX3_readsAct 64 (fun o => .ifCond .ge o) 67 71 := ⟨7, zd zq_285 (by decide +kernel), rfl, rfl⟩
theorem iX3_readsAct_67 : xl_D mX3_readsAct 67 (.iconst (-1)) 1 68 := ⟨zd zq_104 (by decide +kernel), rfl⟩
theorem iX3_readsAct_68 : xl_J mX3_readsAct 68 (fun o => .goto o) 71 90 := ⟨22, zd zq_620 (by decide +kernel), rfl, rfl⟩
theorem iX3_readsAct_71 : xl_D mX3_readsAct 71 (.aload_n 0) 1 72 := ⟨zd zq_0 (by decide +kernel), rfl⟩
theorem iX3_readsAct_72 : xl_G mX3_readsAct 72 3 20 75 := ⟨77, zd zq_710 (by decide +kernel), rfl, fX3_77⟩
theorem iX3_readsAct_75 : xl_D mX3_readsAct 75 (.iload_n 1) 1 76 := ⟨zd zq_3 (by decide +kernel), rfl⟩
theorem iX3_readsAct_76 : xl_D mX3_readsAct 76 (.iaload) 1 77 := ⟨zd zq_20 (by decide +kernel), rfl⟩
theorem iX3_readsAct_77 : xl_D mX3_readsAct 77 (.iconst 1) 1 78 := ⟨zd zq_36 (by decide +kernel), rfl⟩
theorem iX3_readsAct_78 : xl_J mX3_readsAct 78 (fun o => .if_icmp .ne o) 81 89 := ⟨11, zd zq_657 (by decide +kernel), rfl, rfl⟩
theorem iX3_readsAct_81 : xl_D mX3_readsAct 81 (.aload_n 0) 1 82 := ⟨zd zq_0 (by decide +kernel), rfl⟩
theorem iX3_readsAct_82 : xl_D mX3_readsAct 82 (.iconst 5) 1 83 := ⟨zd zq_64 (by decide +kernel), rfl⟩
theorem iX3_readsAct_83 : xl_Ca mX3_readsAct 83 mX3_digits 86 := ⟨239, zd zq_636 (by decide +kernel), rfl, lX3_239, Nat.le_of_ble_eq_true rfl, Nat.le_of_ble_eq_true rfl⟩
theorem iX3_readsAct_86 : xl_J mX3_readsAct 86 (fun o => .goto o) 89 90 := ⟨4, zd zq_139 (by decide +kernel), rfl, rfl⟩
theorem iX3_readsAct_89 : xl_D mX3_readsAct 89 (.iconst 0) 1 90 := ⟨zd zq_2 (by decide +kernel), rfl⟩
theorem iX3_readsAct_90 : xl_D mX3_readsAct 90 (.iastore) 1 91 := ⟨zd zq_26 (by decide +kernel), rfl⟩
theorem iX3_readsAct_91 : xl_D mX3_readsAct 91 (.aload_n 0) 1 92 := ⟨zd zq_0 (by decide +kernel), rfl⟩
theorem iX3_readsAct_92 : xl_G mX3_readsAct 92 3 14 95 := ⟨62, zd zq_635 (by decide +kernel), rfl, fX3_62⟩
theorem iX3_readsAct_95 : xl_D mX3_readsAct 95 (.iload_n 1) 1 96 := ⟨zd zq_3 (by decide +kernel), rfl⟩
theorem iX3_readsAct_96 : xl_D mX3_readsAct 96 (.iaload) 1 97 := ⟨zd zq_20 (by decide +kernel), rfl⟩
theorem iX3_readsAct_97 : xl_J mX3_readsAct 97 (fun o => .ifCond .lt o) 100 104 := ⟨7, zd zq_270 (by decide +kernel), rfl, rfl⟩
theorem iX3_readsAct_100 : xl_D mX3_readsAct 100 (.iconst 1) 1 101 := ⟨zd zq_36 (by decide +kernel), rfl⟩
theorem iX3_readsAct_101 : xl_J mX3_readsAct 101 (fun o => .goto o) 104 105 := ⟨4, zd zq_139 (by decide +kernel), rfl, rfl⟩
theorem iX3_readsAct_104 : xl_D mX3_readsAct 104 (.iconst 0) 1 105 := ⟨zd zq_2 (by decide +kernel), rfl⟩
theorem iX3_readsAct_105 : xl_D mX3_readsAct 105 (.ireturn) 1 106 := ⟨zd zq_17 (by decide +kernel), rfl⟩
theorem iX3_doesAct_0 : xl_D mX3_doesAct 0 (.aload_n 0) 1 1 := ⟨zd zq_0 (by decide +kernel), rfl⟩
theorem iX3_doesAct_1 : xl_G mX3_doesAct 1 3 20 4 := ⟨77, zd zq_710 (by decide +kernel), rfl, fX3_77⟩
theorem iX3_doesAct_4 : xl_D mX3_doesAct 4 (.iload_n 1) 1 5 := ⟨zd zq_3 (by decide +kernel), rfl⟩
theorem iX3_doesAct_5 : xl_D mX3_doesAct 5 (.iaload) 1 6 := ⟨zd zq_20 (by decide +kernel), rfl⟩
theorem iX3_doesAct_6 : xl_D mX3_doesAct 6 (.lookupswitch 72 #[(0, 26), (1, 55)]) 26 32 := ⟨by decide +kernel, rfl⟩
theorem iX3_doesAct_32 : xl_D mX3_doesAct 32 (.aload_n 0) 1 33 := ⟨zd zq_0 (by decide +kernel), rfl⟩
theorem iX3_doesAct_33 : xl_D mX3_doesAct 33 (.aload_n 0) 1 34 := ⟨zd zq_0 (by decide +kernel), rfl⟩
theorem iX3_doesAct_34 : xl_G mX3_doesAct 34 3 13 37 := ⟨59, zd zq_633 (by decide +kernel), rfl, fX3_59⟩
theorem iX3_doesAct_37 : xl_D mX3_doesAct 37 (.iload_n 1) 1 38 := ⟨zd zq_3 (by decide +kernel), rfl⟩
theorem iX3_doesAct_38 : xl_D mX3_doesAct 38 (.iaload) 1 39 := ⟨zd zq_20 (by decide +kernel), rfl⟩
theorem iX3_doesAct_39 : xl_D mX3_doesAct 39 (.aload_n 0) 1 40 := ⟨zd zq_0 (by decide +kernel), rfl⟩
theorem iX3_doesAct_40 : xl_G mX3_doesAct 40 3 14 43 := ⟨62, zd zq_635 (by decide +kernel), rfl, fX3_62⟩
theorem iX3_doesAct_43 : xl_D mX3_doesAct 43 (.iload_n 1) 1 44 := ⟨zd zq_3 (by decide +kernel), rfl⟩
theorem iX3_doesAct_44 : xl_D mX3_doesAct 44 (.iaload) 1 45 := ⟨zd zq_20 (by decide +kernel), rfl⟩
theorem iX3_doesAct_45 : xl_D mX3_doesAct 45 (.aload_n 0) 1 46 := ⟨zd zq_0 (by decide +kernel), rfl⟩
theorem iX3_doesAct_46 : xl_G mX3_doesAct 46 3 15 49 := ⟨65, zd zq_638 (by decide +kernel), rfl, fX3_65⟩
theorem iX3_doesAct_49 : xl_D mX3_doesAct 49 (.iload_n 1) 1 50 := ⟨zd zq_3 (by decide +kernel), rfl⟩
theorem iX3_doesAct_50 : xl_D mX3_doesAct 50 (.iaload) 1 51 := ⟨zd zq_20 (by decide +kernel), rfl⟩
theorem iX3_doesAct_51 : xl_D mX3_doesAct 51 (.aload_n 0) 1 52 := ⟨zd zq_0 (by decide +kernel), rfl⟩
theorem iX3_doesAct_52 : xl_G mX3_doesAct 52 3 16 55 := ⟨68, zd zq_639 (by decide +kernel), rfl, fX3_68⟩
theorem iX3_doesAct_55 : xl_D mX3_doesAct 55 (.iload_n 1) 1 56 := ⟨zd zq_3 (by decide +kernel), rfl⟩
theorem iX3_doesAct_56 : xl_D mX3_doesAct 56 (.iaload) 1 57 := ⟨zd zq_20 (by decide +kernel), rfl⟩
theorem iX3_doesAct_57 : xl_Ca mX3_doesAct 57 mX3_eventOne 60 := ⟨230, zd zq_631 (by decide +kernel), rfl, lX3_230, Nat.le_of_ble_eq_true rfl, Nat.le_of_ble_eq_true rfl⟩
theorem iX3_doesAct_60 : xl_D mX3_doesAct 60 (.ireturn) 1 61 := ⟨zd zq_17 (by decide +kernel), rfl⟩
theorem iX3_doesAct_61 : xl_D mX3_doesAct 61 (.aload_n 0) 1 62 := ⟨zd zq_0 (by decide +kernel), rfl⟩
theorem iX3_doesAct_62 : xl_D mX3_doesAct 62 (.aload_n 0) 1 63 := ⟨zd zq_0 (by decide +kernel), rfl⟩
theorem iX3_doesAct_63 : xl_G mX3_doesAct 63 3 16 66 := ⟨68, zd zq_639 (by decide +kernel), rfl, fX3_68⟩
theorem iX3_doesAct_66 : xl_D mX3_doesAct 66 (.iload_n 1) 1 67 := ⟨zd zq_3 (by decide +kernel), rfl⟩
theorem iX3_doesAct_67 : xl_D mX3_doesAct 67 (.iaload) 1 68 := ⟨zd zq_20 (by decide +kernel), rfl⟩
theorem iX3_doesAct_68 : xl_D mX3_doesAct 68 (.aload_n 0) 1 69 := ⟨zd zq_0 (by decide +kernel), rfl⟩
theorem iX3_doesAct_69 : xl_G mX3_doesAct 69 3 14 72 := ⟨62, zd zq_635 (by decide +kernel), rfl, fX3_62⟩
theorem iX3_doesAct_72 : xl_D mX3_doesAct 72 (.iload_n 1) 1 73 := ⟨zd zq_3 (by decide +kernel), rfl⟩
theorem iX3_doesAct_73 : xl_D mX3_doesAct 73 (.iaload) 1 74 := ⟨zd zq_20 (by decide +kernel), rfl⟩
theorem iX3_doesAct_74 : xl_Ca mX3_doesAct 74 mX3_marksOne 77 := ⟨256, zd zq_389 (by decide +kernel), rfl, lX3_256, Nat.le_of_ble_eq_true rfl, Nat.le_of_ble_eq_true rfl⟩
theorem iX3_doesAct_77 : xl_D mX3_doesAct 77 (.ireturn) 1 78 := ⟨zd zq_17 (by decide +kernel), rfl⟩
theorem iX3_doesAct_78 : xl_D mX3_doesAct 78 (.aload_n 0) 1 79 := ⟨zd zq_0 (by decide +kernel), rfl⟩
theorem iX3_doesAct_79 : xl_D mX3_doesAct 79 (.aload_n 0) 1 80 := ⟨zd zq_0 (by decide +kernel), rfl⟩
theorem iX3_doesAct_80 : xl_G mX3_doesAct 80 3 16 83 := ⟨68, zd zq_639 (by decide +kernel), rfl, fX3_68⟩
theorem iX3_doesAct_83 : xl_D mX3_doesAct 83 (.iload_n 1) 1 84 := ⟨zd zq_3 (by decide +kernel), rfl⟩
theorem iX3_doesAct_84 : xl_D mX3_doesAct 84 (.iaload) 1 85 := ⟨zd zq_20 (by decide +kernel), rfl⟩
theorem iX3_doesAct_85 : xl_Ca mX3_doesAct 85 mX3_idlesOne 88 := ⟨265, zd zq_395 (by decide +kernel), rfl, lX3_265, Nat.le_of_ble_eq_true rfl, Nat.le_of_ble_eq_true rfl⟩
theorem iX3_doesAct_88 : xl_D mX3_doesAct 88 (.ireturn) 1 89 := ⟨zd zq_17 (by decide +kernel), rfl⟩
theorem iX3_day_0 : xl_D mX3_day 0 (.aload_n 0) 1 1 := ⟨zd zq_0 (by decide +kernel), rfl⟩
theorem iX3_day_1 : xl_D mX3_day 1 (.iconst 0) 1 2 := ⟨zd zq_2 (by decide +kernel), rfl⟩
theorem iX3_day_2 : xl_P mX3_day 2 3 0 .int 5 := ⟨3, zd zq_502 (by decide +kernel), rfl, wX3_3⟩
theorem iX3_day_5 : xl_D mX3_day 5 (.aload_n 0) 1 6 := ⟨zd zq_0 (by decide +kernel), rfl⟩
theorem iX3_day_6 : xl_Ca mX3_day 6 mX3_reads 9 := ⟨244, zd zq_641 (by decide +kernel), rfl, lX3_244, Nat.le_of_ble_eq_true rfl, Nat.le_of_ble_eq_true rfl⟩
theorem iX3_day_9 : xl_D mX3_day 9 (.iconst 0) 1 10 := ⟨zd zq_2 (by decide +kernel), rfl⟩
theorem iX3_day_10 : xl_D mX3_day 10 (.istore_n 1) 1 11 := ⟨zd zq_194 (by decide +kernel), rfl⟩
theorem iX3_day_11 : xl_D mX3_day 11 (.aload_n 0) 1 12 := ⟨zd zq_0 (by decide +kernel), rfl⟩
theorem iX3_day_12 : xl_G mX3_day 12 3 5 15 := ⟨28, zd zq_512 (by decide +kernel), rfl, fX3_28⟩
theorem iX3_day_15 : xl_D mX3_day 15 (.aload_n 0) 1 16 := ⟨zd zq_0 (by decide +kernel), rfl⟩
theorem iX3_day_16 : xl_G mX3_day 16 3 6 19 := ⟨25, zd zq_513 (by decide +kernel), rfl, fX3_25⟩
theorem iX3_day_19 : xl_J mX3_day 19 (fun o => .if_icmp .ge o) 22 43 := ⟨24, zd zq_352 (by decide +kernel), rfl, rfl⟩
theorem iX3_day_22 : xl_D mX3_day 22 (.aload_n 0) 1 23 := ⟨zd zq_0 (by decide +kernel), rfl⟩
theorem iX3_day_23 : xl_D mX3_day 23 (.iload_n 1) 1 24 := ⟨zd zq_3 (by decide +kernel), rfl⟩
theorem iX3_day_24 : xl_Ca mX3_day 24 mX3_readsAct 27 := ⟨299, zd zq_712 (by decide +kernel), rfl, lX3_299, Nat.le_of_ble_eq_true rfl, Nat.le_of_ble_eq_true rfl⟩
theorem iX3_day_27 : xl_J mX3_day 27 (fun o => .ifCond .ne o) 30 37 := ⟨10, zd zq_642 (by decide +kernel), rfl, rfl⟩
theorem iX3_day_30 : xl_D mX3_day 30 (.iconst (-1)) 1 31 := ⟨zd zq_104 (by decide +kernel), rfl⟩
theorem iX3_day_31 : xl_D mX3_day 31 (.aload_n 0) 1 32 := ⟨zd zq_0 (by decide +kernel), rfl⟩
theorem iX3_day_32 : xl_G mX3_day 32 3 5 35 := ⟨28, zd zq_512 (by decide +kernel), rfl, fX3_28⟩
theorem iX3_day_35 : xl_D mX3_day 35 (.isub) 1 36 := ⟨zd zq_39 (by decide +kernel), rfl⟩
theorem iX3_day_36 : xl_D mX3_day 36 (.ireturn) 1 37 := ⟨zd zq_17 (by decide +kernel), rfl⟩
theorem iX3_day_37 : xl_D mX3_day 37 (.iinc 1 1) 3 40 := ⟨zd zq_227 (by decide +kernel), rfl⟩
theorem iX3_day_40 : xl_J mX3_day 40 (fun o => .goto o) 43 11 := ⟨-29, zd zq_572 (by decide +kernel), rfl, rfl⟩
theorem iX3_day_43 : xl_D mX3_day 43 (.aload_n 0) 1 44 := ⟨zd zq_0 (by decide +kernel), rfl⟩
theorem iX3_day_44 : xl_D mX3_day 44 (.iconst 0) 1 45 := ⟨zd zq_2 (by decide +kernel), rfl⟩
theorem iX3_day_45 : xl_D mX3_day 45 (.iconst 3) 1 46 := ⟨zd zq_123 (by decide +kernel), rfl⟩
theorem iX3_day_46 : xl_Ca mX3_day 46 mX3_copies 49 := ⟨95, zd zq_545 (by decide +kernel), rfl, lX3_95, Nat.le_of_ble_eq_true rfl, Nat.le_of_ble_eq_true rfl⟩
theorem iX3_day_49 : xl_D mX3_day 49 (.iconst 0) 1 50 := ⟨zd zq_2 (by decide +kernel), rfl⟩
theorem iX3_day_50 : xl_D mX3_day 50 (.istore_n 2) 1 51 := ⟨zd zq_41 (by decide +kernel), rfl⟩
theorem iX3_day_51 : xl_D mX3_day 51 (.iload_n 2) 1 52 := ⟨zd zq_6 (by decide +kernel), rfl⟩
theorem iX3_day_52 : xl_D mX3_day 52 (.iload_n 1) 1 53 := ⟨zd zq_3 (by decide +kernel), rfl⟩
theorem iX3_day_53 : xl_J mX3_day 53 (fun o => .if_icmp .ge o) 56 70 := ⟨17, zd zq_24 (by decide +kernel), rfl, rfl⟩
theorem iX3_day_56 : xl_D mX3_day 56 (.aload_n 0) 1 57 := ⟨zd zq_0 (by decide +kernel), rfl⟩
theorem iX3_day_57 : xl_D mX3_day 57 (.iload_n 2) 1 58 := ⟨zd zq_6 (by decide +kernel), rfl⟩
theorem iX3_day_58 : xl_Ca mX3_day 58 mX3_doesAct 61 := ⟨302, zd zq_450 (by decide +kernel), rfl, lX3_302, Nat.le_of_ble_eq_true rfl, Nat.le_of_ble_eq_true rfl⟩
theorem iX3_day_61 : xl_J mX3_day 61 (fun o => .ifCond .lt o) 64 70 := ⟨9, zd zq_289 (by decide +kernel), rfl, rfl⟩
theorem iX3_day_64 : xl_D mX3_day 64 (.iinc 2 1) 3 67 := ⟨zd zq_44 (by decide +kernel), rfl⟩
theorem iX3_day_67 : xl_J mX3_day 67 (fun o => .goto o) 70 51 := ⟨-16, zd zq_181 (by decide +kernel), rfl, rfl⟩
theorem iX3_day_70 : xl_D mX3_day 70 (.aload_n 0) 1 71 := ⟨zd zq_0 (by decide +kernel), rfl⟩
theorem iX3_day_71 : xl_D mX3_day 71 (.iconst 0) 1 72 := ⟨zd zq_2 (by decide +kernel), rfl⟩
theorem iX3_day_72 : xl_P mX3_day 72 3 1 .int 75 := ⟨11, zd zq_501 (by decide +kernel), rfl, wX3_11⟩
theorem iX3_day_75 : xl_D mX3_day 75 (.aload_n 0) 1 76 := ⟨zd zq_0 (by decide +kernel), rfl⟩
theorem iX3_day_76 : xl_D mX3_day 76 (.iload_n 2) 1 77 := ⟨zd zq_6 (by decide +kernel), rfl⟩
theorem iX3_day_77 : xl_D mX3_day 77 (.iload_n 1) 1 78 := ⟨zd zq_3 (by decide +kernel), rfl⟩
theorem iX3_day_78 : xl_J mX3_day 78 (fun o => .if_icmp .ge o) 81 85 := ⟨7, zd zq_145 (by decide +kernel), rfl, rfl⟩
theorem iX3_day_81 : xl_D mX3_day 81 (.iconst 1) 1 82 := ⟨zd zq_36 (by decide +kernel), rfl⟩
theorem iX3_day_82 : xl_J mX3_day 82 (fun o => .goto o) 85 86 := ⟨4, zd zq_139 (by decide +kernel), rfl, rfl⟩
theorem iX3_day_85 : xl_D mX3_day 85 (.iconst 0) 1 86 := ⟨zd zq_2 (by decide +kernel), rfl⟩
theorem iX3_day_86 : xl_Cs mX3_day 86 mX3_flag 89 := ⟨194, zd zq_613 (by decide +kernel), rfl, lX3_194, Nat.le_of_ble_eq_true rfl, Nat.le_of_ble_eq_true rfl⟩
theorem iX3_day_89 : xl_D mX3_day 89 (.i2l) 1 90 := ⟨zd zq_266 (by decide +kernel), rfl⟩
theorem iX3_day_90 : xl_Ca mX3_day 90 mX3_enters 93 := ⟨226, zd zq_357 (by decide +kernel), rfl, lX3_226, Nat.le_of_ble_eq_true rfl, Nat.le_of_ble_eq_true rfl⟩
theorem iX3_day_93 : xl_D mX3_day 93 (.aload_n 0) 1 94 := ⟨zd zq_0 (by decide +kernel), rfl⟩
theorem iX3_day_94 : xl_D mX3_day 94 (.aload_n 0) 1 95 := ⟨zd zq_0 (by decide +kernel), rfl⟩
theorem iX3_day_95 : xl_D mX3_day 95 (.iconst 0) 1 96 := ⟨zd zq_2 (by decide +kernel), rfl⟩
theorem iX3_day_96 : xl_D mX3_day 96 (.bipush 7) 2 98 := ⟨zd zq_68 (by decide +kernel), rfl⟩
theorem iX3_day_98 : xl_Ca mX3_day 98 mX3_of 101 := ⟨116, zd zq_555 (by decide +kernel), rfl, lX3_116, Nat.le_of_ble_eq_true rfl, Nat.le_of_ble_eq_true rfl⟩
theorem iX3_day_101 : xl_D mX3_day 101 (.aload_n 0) 1 102 := ⟨zd zq_0 (by decide +kernel), rfl⟩
theorem iX3_day_102 : xl_D mX3_day 102 (.iconst 3) 1 103 := ⟨zd zq_123 (by decide +kernel), rfl⟩
theorem iX3_day_103 : xl_D mX3_day 103 (.bipush 7) 2 105 := ⟨zd zq_68 (by decide +kernel), rfl⟩
theorem iX3_day_105 : xl_Ca mX3_day 105 mX3_of 108 := ⟨116, zd zq_555 (by decide +kernel), rfl, lX3_116, Nat.le_of_ble_eq_true rfl, Nat.le_of_ble_eq_true rfl⟩
theorem iX3_day_108 : xl_D mX3_day 108 (.isub) 1 109 := ⟨zd zq_39 (by decide +kernel), rfl⟩
theorem iX3_day_109 : xl_D mX3_day 109 (.i2l) 1 110 := ⟨zd zq_266 (by decide +kernel), rfl⟩
theorem iX3_day_110 : xl_Ca mX3_day 110 mX3_enters 113 := ⟨226, zd zq_357 (by decide +kernel), rfl, lX3_226, Nat.le_of_ble_eq_true rfl, Nat.le_of_ble_eq_true rfl⟩
theorem iX3_day_113 : xl_D mX3_day 113 (.iload_n 2) 1 114 := ⟨zd zq_6 (by decide +kernel), rfl⟩
theorem iX3_day_114 : xl_J mX3_day 114 (fun o => .ifCond .le o) 117 121 := ⟨7, zd zq_274 (by decide +kernel), rfl, rfl⟩
theorem iX3_day_117 : xl_D mX3_day 117 (.aload_n 0) 1 118 := ⟨zd zq_0 (by decide +kernel), rfl⟩
theorem iX3_day_118 : xl_Ca mX3_day 118 mX3_lays 121 := ⟨99, zd zq_547 (by decide +kernel), rfl, lX3_99, Nat.le_of_ble_eq_true rfl, Nat.le_of_ble_eq_true rfl⟩
theorem iX3_day_121 : xl_D mX3_day 121 (.iload_n 2) 1 122 := ⟨zd zq_6 (by decide +kernel), rfl⟩
theorem iX3_day_122 : xl_D mX3_day 122 (.ireturn) 1 123 := ⟨zd zq_17 (by decide +kernel), rfl⟩
theorem iX3_draws_0 : xl_D mX3_draws 0 (.aload_n 0) 1 1 := ⟨zd zq_0 (by decide +kernel), rfl⟩
theorem iX3_draws_1 : xl_D mX3_draws 1 (.aload_n 0) 1 2 := ⟨zd zq_0 (by decide +kernel), rfl⟩
theorem iX3_draws_2 : xl_G mX3_draws 2 3 21 5 := ⟨305, zd zq_713 (by decide +kernel), rfl, fX3_305⟩
theorem iX3_draws_5 : xl_D mX3_draws 5 (.ldc_w 308) 3 8 := ⟨zd zq_714 (by decide +kernel), rfl⟩
theorem iX3_draws_8 : xl_D mX3_draws 8 (.imul) 1 9 := ⟨zd zq_10 (by decide +kernel), rfl⟩
theorem iX3_draws_9 : xl_D mX3_draws 9 (.sipush 12345) 3 12 := ⟨zd zq_491 (by decide +kernel), rfl⟩
theorem iX3_draws_12 : xl_D mX3_draws 12 (.iadd) 1 13 := ⟨zd zq_19 (by decide +kernel), rfl⟩
theorem iX3_draws_13 : xl_P mX3_draws 13 3 21 .int 16 := ⟨305, zd zq_715 (by decide +kernel), rfl, wX3_305⟩
theorem iX3_draws_16 : xl_D mX3_draws 16 (.aload_n 0) 1 17 := ⟨zd zq_0 (by decide +kernel), rfl⟩
theorem iX3_draws_17 : xl_G mX3_draws 17 3 21 20 := ⟨305, zd zq_713 (by decide +kernel), rfl, fX3_305⟩
theorem iX3_draws_20 : xl_D mX3_draws 20 (.bipush 16) 2 22 := ⟨zd zq_493 (by decide +kernel), rfl⟩
theorem iX3_draws_22 : xl_D mX3_draws 22 (.iushr) 1 23 := ⟨zd zq_238 (by decide +kernel), rfl⟩
theorem iX3_draws_23 : xl_D mX3_draws 23 (.iload_n 1) 1 24 := ⟨zd zq_3 (by decide +kernel), rfl⟩
theorem iX3_draws_24 : xl_D mX3_draws 24 (.irem) 1 25 := ⟨zd zq_191 (by decide +kernel), rfl⟩
theorem iX3_draws_25 : xl_D mX3_draws 25 (.ireturn) 1 26 := ⟨zd zq_17 (by decide +kernel), rfl⟩
theorem iX3_years_0 : xl_D mX3_years 0 (.aload_n 0) 1 1 := ⟨zd zq_0 (by decide +kernel), rfl⟩
theorem iX3_years_1 : xl_D mX3_years 1 (.iconst 0) 1 2 := ⟨zd zq_2 (by decide +kernel), rfl⟩
theorem iX3_years_2 : xl_P mX3_years 2 3 0 .int 5 := ⟨3, zd zq_502 (by decide +kernel), rfl, wX3_3⟩
theorem iX3_years_5 : xl_D mX3_years 5 (.iload_n 2) 1 6 := ⟨zd zq_6 (by decide +kernel), rfl⟩
theorem iX3_years_6 : xl_D mX3_years 6 (.i2l) 1 7 := ⟨zd zq_266 (by decide +kernel), rfl⟩
theorem iX3_years_7 : xl_D mX3_years 7 (.lconst 1) 1 8 := ⟨zd zq_548 (by decide +kernel), rfl⟩
theorem iX3_years_8 : xl_D mX3_years 8 (.ldc2_w 309) 3 11 := ⟨zd zq_716 (by decide +kernel), rfl⟩
theorem iX3_years_11 : xl_Cs mX3_years 11 mX3_in 14 := ⟨21, zd zq_507 (by decide +kernel), rfl, lX3_21, Nat.le_of_ble_eq_true rfl, Nat.le_of_ble_eq_true rfl⟩
theorem iX3_years_14 : xl_J mX3_years 14 (fun o => .ifCond .ne o) 17 19 := ⟨5, zd zq_246 (by decide +kernel), rfl, rfl⟩
theorem iX3_years_17 : xl_D mX3_years 17 (.iconst (-1)) 1 18 := ⟨zd zq_104 (by decide +kernel), rfl⟩
theorem iX3_years_18 : xl_D mX3_years 18 (.ireturn) 1 19 := ⟨zd zq_17 (by decide +kernel), rfl⟩
theorem iX3_years_19 : xl_D mX3_years 19 (.aload_n 0) 1 20 := ⟨zd zq_0 (by decide +kernel), rfl⟩
theorem iX3_years_20 : xl_D mX3_years 20 (.iload_n 1) 1 21 := ⟨zd zq_3 (by decide +kernel), rfl⟩
theorem iX3_years_21 : xl_P mX3_years 21 3 21 .int 24 := ⟨305, zd zq_715 (by decide +kernel), rfl, wX3_305⟩
theorem iX3_years_24 : xl_D mX3_years 24 (.aload_n 0) 1 25 := ⟨zd zq_0 (by decide +kernel), rfl⟩
theorem iX3_years_25 : xl_D mX3_years 25 (.iconst 0) 1 26 := ⟨zd zq_2 (by decide +kernel), rfl⟩
theorem iX3_years_26 : xl_D mX3_years 26 (.iconst 4) 1 27 := ⟨zd zq_63 (by decide +kernel), rfl⟩
theorem iX3_years_27 : xl_Ca mX3_years 27 mX3_copies 30 := ⟨95, zd zq_545 (by decide +kernel), rfl, lX3_95, Nat.le_of_ble_eq_true rfl, Nat.le_of_ble_eq_true rfl⟩
theorem iX3_years_30 : xl_D mX3_years 30 (.iconst 0) 1 31 := ⟨zd zq_2 (by decide +kernel), rfl⟩
theorem iX3_years_31 : xl_D mX3_years 31 (.istore_n 3) 1 32 := ⟨zd zq_131 (by decide +kernel), rfl⟩
theorem iX3_years_32 : xl_D mX3_years 32 (.iconst 0) 1 33 := ⟨zd zq_2 (by decide +kernel), rfl⟩
theorem iX3_years_33 : xl_D mX3_years 33 (.istore 4) 2 35 := ⟨zd zq_50 (by decide +kernel), rfl⟩
theorem iX3_years_35 : xl_D mX3_years 35 (.iload 4) 2 37 := ⟨zd zq_51 (by decide +kernel), rfl⟩
theorem iX3_years_37 : xl_D mX3_years 37 (.iload_n 2) 1 38 := ⟨zd zq_6 (by decide +kernel), rfl⟩
theorem iX3_years_38 : xl_J mX3_years 38 (fun o => .if_icmp .ge o) 41 169 := ⟨131, zd zq_717 (by decide +kernel), rfl, rfl⟩
theorem iX3_years_41 : xl_D mX3_years 41 (.aload_n 0) 1 42 := ⟨zd zq_0 (by decide +kernel), rfl⟩
theorem iX3_years_42 : xl_D mX3_years 42 (.iconst 4) 1 43 := ⟨zd zq_63 (by decide +kernel), rfl⟩
theorem iX3_years_43 : xl_D mX3_years 43 (.bipush 6) 2 45 := ⟨zd zq_71 (by decide +kernel), rfl⟩
theorem iX3_years_45 : xl_Ca mX3_years 45 mX3_of 48 := ⟨116, zd zq_555 (by decide +kernel), rfl, lX3_116, Nat.le_of_ble_eq_true rfl, Nat.le_of_ble_eq_true rfl⟩
theorem iX3_years_48 : xl_D mX3_years 48 (.sipush 160) 3 51 := ⟨zd zq_74 (by decide +kernel), rfl⟩
theorem iX3_years_51 : xl_J mX3_years 51 (fun o => .if_icmp .ge o) 54 169 := ⟨118, zd zq_322 (by decide +kernel), rfl, rfl⟩
theorem iX3_years_54 : xl_D mX3_years 54 (.aload_n 0) 1 55 := ⟨zd zq_0 (by decide +kernel), rfl⟩
theorem iX3_years_55 : xl_D mX3_years 55 (.bipush 6) 2 57 := ⟨zd zq_71 (by decide +kernel), rfl⟩
theorem iX3_years_57 : xl_Ca mX3_years 57 mX3_draws 60 := ⟨311, zd zq_718 (by decide +kernel), rfl, lX3_311, Nat.le_of_ble_eq_true rfl, Nat.le_of_ble_eq_true rfl⟩
theorem iX3_years_60 : xl_D mX3_years 60 (.istore 5) 2 62 := ⟨zd zq_91 (by decide +kernel), rfl⟩
theorem iX3_years_62 : xl_D mX3_years 62 (.aload_n 0) 1 63 := ⟨zd zq_0 (by decide +kernel), rfl⟩
theorem iX3_years_63 : xl_D mX3_years 63 (.iconst 4) 1 64 := ⟨zd zq_63 (by decide +kernel), rfl⟩
theorem iX3_years_64 : xl_D mX3_years 64 (.iconst 4) 1 65 := ⟨zd zq_63 (by decide +kernel), rfl⟩
theorem iX3_years_65 : xl_Ca mX3_years 65 mX3_of 68 := ⟨116, zd zq_555 (by decide +kernel), rfl, lX3_116, Nat.le_of_ble_eq_true rfl, Nat.le_of_ble_eq_true rfl⟩
theorem iX3_years_68 : xl_D mX3_years 68 (.aload_n 0) 1 69 := ⟨zd zq_0 (by decide +kernel), rfl⟩
theorem iX3_years_69 : xl_D mX3_years 69 (.iconst 4) 1 70 := ⟨zd zq_63 (by decide +kernel), rfl⟩
theorem iX3_years_70 : xl_D mX3_years 70 (.iconst 2) 1 71 := ⟨zd zq_127 (by decide +kernel), rfl⟩
theorem iX3_years_71 : xl_Ca mX3_years 71 mX3_of 74 := ⟨116, zd zq_555 (by decide +kernel), rfl, lX3_116, Nat.le_of_ble_eq_true rfl, Nat.le_of_ble_eq_true rfl⟩
theorem iX3_years_74 : xl_D mX3_years 74 (.isub) 1 75 := ⟨zd zq_39 (by decide +kernel), rfl⟩
theorem iX3_years_75 : xl_D mX3_years 75 (.aload_n 0) 1 76 := ⟨zd zq_0 (by decide +kernel), rfl⟩
theorem iX3_years_76 : xl_D mX3_years 76 (.bipush 100) 2 78 := ⟨zd zq_375 (by decide +kernel), rfl⟩
theorem iX3_years_78 : xl_Ca mX3_years 78 mX3_draws 81 := ⟨311, zd zq_718 (by decide +kernel), rfl, lX3_311, Nat.le_of_ble_eq_true rfl, Nat.le_of_ble_eq_true rfl⟩
theorem iX3_years_81 : xl_D mX3_years 81 (.iadd) 1 82 := ⟨zd zq_19 (by decide +kernel), rfl⟩
theorem iX3_years_82 : xl_D mX3_years 82 (.istore 6) 2 84 := ⟨zd zq_119 (by decide +kernel), rfl⟩
theorem iX3_years_84 : xl_D mX3_years 84 (.aload_n 0) 1 85 := ⟨zd zq_0 (by decide +kernel), rfl⟩
theorem iX3_years_85 : xl_D mX3_years 85 (.sipush 199) 3 88 := ⟨zd zq_404 (by decide +kernel), rfl⟩
theorem iX3_years_88 : xl_Ca mX3_years 88 mX3_draws 91 := ⟨311, zd zq_718 (by decide +kernel), rfl, lX3_311, Nat.le_of_ble_eq_true rfl, Nat.le_of_ble_eq_true rfl⟩
theorem iX3_years_91 : xl_D mX3_years 91 (.bipush 99) 2 93 := ⟨zd zq_379 (by decide +kernel), rfl⟩
theorem iX3_years_93 : xl_D mX3_years 93 (.isub) 1 94 := ⟨zd zq_39 (by decide +kernel), rfl⟩
theorem iX3_years_94 : xl_D mX3_years 94 (.istore 7) 2 96 := ⟨zd zq_122 (by decide +kernel), rfl⟩
theorem iX3_years_96 : xl_D mX3_years 96 (.aload_n 0) 1 97 := ⟨zd zq_0 (by decide +kernel), rfl⟩
theorem iX3_years_97 : xl_D mX3_years 97 (.aload_n 0) 1 98 := ⟨zd zq_0 (by decide +kernel), rfl⟩
theorem iX3_years_98 : xl_D mX3_years 98 (.iconst 4) 1 99 := ⟨zd zq_63 (by decide +kernel), rfl⟩
theorem iX3_years_99 : xl_D mX3_years 99 (.iconst 0) 1 100 := ⟨zd zq_2 (by decide +kernel), rfl⟩
theorem iX3_years_100 : xl_Ca mX3_years 100 mX3_of 103 := ⟨116, zd zq_555 (by decide +kernel), rfl, lX3_116, Nat.le_of_ble_eq_true rfl, Nat.le_of_ble_eq_true rfl⟩
theorem iX3_years_103 : xl_Ca mX3_years 103 mX3_draws 106 := ⟨311, zd zq_718 (by decide +kernel), rfl, lX3_311, Nat.le_of_ble_eq_true rfl, Nat.le_of_ble_eq_true rfl⟩
theorem iX3_years_106 : xl_D mX3_years 106 (.istore 8) 2 108 := ⟨zd zq_323 (by decide +kernel), rfl⟩
theorem iX3_years_108 : xl_D mX3_years 108 (.iload 6) 2 110 := ⟨zd zq_125 (by decide +kernel), rfl⟩
theorem iX3_years_110 : xl_J mX3_years 110 (fun o => .ifCond .ge o) 113 117 := ⟨7, zd zq_285 (by decide +kernel), rfl, rfl⟩
theorem iX3_years_113 : xl_D mX3_years 113 (.iconst 0) 1 114 := ⟨zd zq_2 (by decide +kernel), rfl⟩
theorem iX3_years_114 : xl_J mX3_years 114 (fun o => .goto o) 117 133 := ⟨19, zd zq_719 (by decide +kernel), rfl, rfl⟩
theorem iX3_years_117 : xl_D mX3_years 117 (.iload 6) 2 119 := ⟨zd zq_125 (by decide +kernel), rfl⟩
theorem iX3_years_119 : xl_D mX3_years 119 (.sipush 9999) 3 122 := ⟨zd zq_405 (by decide +kernel), rfl⟩
theorem iX3_years_122 : xl_J mX3_years 122 (fun o => .if_icmp .le o) 125 131 := ⟨9, zd zq_720 (by decide +kernel), rfl, rfl⟩
theorem iX3_years_125 : xl_D mX3_years 125 (.sipush 9999) 3 128 := ⟨zd zq_405 (by decide +kernel), rfl⟩
theorem iX3_years_128 : xl_J mX3_years 128 (fun o => .goto o) 131 133 := ⟨5, zd zq_300 (by decide +kernel), rfl, rfl⟩
theorem iX3_years_131 : xl_D mX3_years 131 (.iload 6) 2 133 := ⟨zd zq_125 (by decide +kernel), rfl⟩
theorem iX3_years_133 : xl_D mX3_years 133 (.istore 6) 2 135 := ⟨zd zq_119 (by decide +kernel), rfl⟩
theorem iX3_years_135 : xl_D mX3_years 135 (.iload_n 3) 1 136 := ⟨zd zq_25 (by decide +kernel), rfl⟩
theorem iX3_years_136 : xl_D mX3_years 136 (.aload_n 0) 1 137 := ⟨zd zq_0 (by decide +kernel), rfl⟩
theorem iX3_years_137 : xl_D mX3_years 137 (.iconst 4) 1 138 := ⟨zd zq_63 (by decide +kernel), rfl⟩
theorem iX3_years_138 : xl_D mX3_years 138 (.iload 5) 2 140 := ⟨zd zq_92 (by decide +kernel), rfl⟩
theorem iX3_years_140 : xl_D mX3_years 140 (.iload 6) 2 142 := ⟨zd zq_125 (by decide +kernel), rfl⟩
theorem iX3_years_142 : xl_D mX3_years 142 (.iload 7) 2 144 := ⟨zd zq_124 (by decide +kernel), rfl⟩
theorem iX3_years_144 : xl_D mX3_years 144 (.iload 8) 2 146 := ⟨zd zq_336 (by decide +kernel), rfl⟩
theorem iX3_years_146 : xl_Ca mX3_years 146 mX3_comes 149 := ⟨222, zd zq_356 (by decide +kernel), rfl, lX3_222, Nat.le_of_ble_eq_true rfl, Nat.le_of_ble_eq_true rfl⟩
theorem iX3_years_149 : xl_D mX3_years 149 (.iconst 2) 1 150 := ⟨zd zq_127 (by decide +kernel), rfl⟩
theorem iX3_years_150 : xl_J mX3_years 150 (fun o => .if_icmp .ge o) 153 157 := ⟨7, zd zq_145 (by decide +kernel), rfl, rfl⟩
theorem iX3_years_153 : xl_D mX3_years 153 (.iconst 1) 1 154 := ⟨zd zq_36 (by decide +kernel), rfl⟩
theorem iX3_years_154 : xl_J mX3_years 154 (fun o => .goto o) 157 158 := ⟨4, zd zq_139 (by decide +kernel), rfl, rfl⟩
theorem iX3_years_157 : xl_D mX3_years 157 (.iconst 0) 1 158 := ⟨zd zq_2 (by decide +kernel), rfl⟩
theorem iX3_years_158 : xl_Cs mX3_years 158 mX3_flag 161 := ⟨194, zd zq_613 (by decide +kernel), rfl, lX3_194, Nat.le_of_ble_eq_true rfl, Nat.le_of_ble_eq_true rfl⟩
theorem iX3_years_161 : xl_D mX3_years 161 (.iadd) 1 162 := ⟨zd zq_19 (by decide +kernel), rfl⟩
theorem iX3_years_162 : xl_D mX3_years 162 (.istore_n 3) 1 163 := ⟨zd zq_131 (by decide +kernel), rfl⟩
theorem iX3_years_163 : xl_D mX3_years 163 (.iinc 4 1) 3 166 := ⟨zd zq_54 (by decide +kernel), rfl⟩
theorem iX3_years_166 : xl_J mX3_years 166 (fun o => .goto o) 169 35 := ⟨-131, zd zq_721 (by decide +kernel), rfl, rfl⟩
theorem iX3_years_169 : xl_D mX3_years 169 (.aload_n 0) 1 170 := ⟨zd zq_0 (by decide +kernel), rfl⟩
theorem iX3_years_170 : xl_D mX3_years 170 (.iconst 4) 1 171 := ⟨zd zq_63 (by decide +kernel), rfl⟩
theorem iX3_years_171 : xl_D mX3_years 171 (.aload_n 0) 1 172 := ⟨zd zq_0 (by decide +kernel), rfl⟩
theorem iX3_years_172 : xl_D mX3_years 172 (.iconst 0) 1 173 := ⟨zd zq_2 (by decide +kernel), rfl⟩
theorem iX3_years_173 : xl_D mX3_years 173 (.bipush 7) 2 175 := ⟨zd zq_68 (by decide +kernel), rfl⟩
theorem iX3_years_175 : xl_Ca mX3_years 175 mX3_of 178 := ⟨116, zd zq_555 (by decide +kernel), rfl, lX3_116, Nat.le_of_ble_eq_true rfl, Nat.le_of_ble_eq_true rfl⟩
theorem iX3_years_178 : xl_Ca mX3_years 178 mX3_entersSince 181 := ⟨234, zd zq_632 (by decide +kernel), rfl, lX3_234, Nat.le_of_ble_eq_true rfl, Nat.le_of_ble_eq_true rfl⟩
theorem iX3_years_181 : xl_D mX3_years 181 (.iload_n 3) 1 182 := ⟨zd zq_25 (by decide +kernel), rfl⟩
theorem iX3_years_182 : xl_D mX3_years 182 (.ireturn) 1 183 := ⟨zd zq_17 (by decide +kernel), rfl⟩
theorem iX3_keep_0 : xl_D mX3_keep 0 (.aload_n 0) 1 1 := ⟨zd zq_0 (by decide +kernel), rfl⟩
theorem iX3_keep_1 : xl_D mX3_keep 1 (.iconst 0) 1 2 := ⟨zd zq_2 (by decide +kernel), rfl⟩
theorem iX3_keep_2 : xl_P mX3_keep 2 3 0 .int 5 := ⟨3, zd zq_502 (by decide +kernel), rfl, wX3_3⟩
theorem iX3_keep_5 : xl_D mX3_keep 5 (.iload_n 1) 1 6 := ⟨zd zq_3 (by decide +kernel), rfl⟩
theorem iX3_keep_6 : xl_D mX3_keep 6 (.i2l) 1 7 := ⟨zd zq_266 (by decide +kernel), rfl⟩
theorem iX3_keep_7 : xl_D mX3_keep 7 (.lconst 0) 1 8 := ⟨zd zq_506 (by decide +kernel), rfl⟩
theorem iX3_keep_8 : xl_D mX3_keep 8 (.lconst 1) 1 9 := ⟨zd zq_548 (by decide +kernel), rfl⟩
theorem iX3_keep_9 : xl_Cs mX3_keep 9 mX3_in 12 := ⟨21, zd zq_507 (by decide +kernel), rfl, lX3_21, Nat.le_of_ble_eq_true rfl, Nat.le_of_ble_eq_true rfl⟩
theorem iX3_keep_12 : xl_J mX3_keep 12 (fun o => .ifCond .ne o) 15 17 := ⟨5, zd zq_246 (by decide +kernel), rfl, rfl⟩
theorem iX3_keep_15 : xl_D mX3_keep 15 (.iconst 0) 1 16 := ⟨zd zq_2 (by decide +kernel), rfl⟩
theorem iX3_keep_16 : xl_D mX3_keep 16 (.ireturn) 1 17 := ⟨zd zq_17 (by decide +kernel), rfl⟩
theorem iX3_keep_17 : xl_D mX3_keep 17 (.aload_n 0) 1 18 := ⟨zd zq_0 (by decide +kernel), rfl⟩
theorem iX3_keep_18 : xl_G mX3_keep 18 3 22 21 := ⟨80, zd zq_722 (by decide +kernel), rfl, fX3_80⟩
theorem iX3_keep_21 : xl_D mX3_keep 21 (.iload_n 1) 1 22 := ⟨zd zq_3 (by decide +kernel), rfl⟩
theorem iX3_keep_22 : xl_D mX3_keep 22 (.iconst 1) 1 23 := ⟨zd zq_36 (by decide +kernel), rfl⟩
theorem iX3_keep_23 : xl_D mX3_keep 23 (.bastore) 1 24 := ⟨zd zq_723 (by decide +kernel), rfl⟩
theorem iX3_keep_24 : xl_D mX3_keep 24 (.aload_n 0) 1 25 := ⟨zd zq_0 (by decide +kernel), rfl⟩
theorem iX3_keep_25 : xl_D mX3_keep 25 (.iconst 0) 1 26 := ⟨zd zq_2 (by decide +kernel), rfl⟩
theorem iX3_keep_26 : xl_D mX3_keep 26 (.iconst 1) 1 27 := ⟨zd zq_36 (by decide +kernel), rfl⟩
theorem iX3_keep_27 : xl_D mX3_keep 27 (.iload_n 1) 1 28 := ⟨zd zq_3 (by decide +kernel), rfl⟩
theorem iX3_keep_28 : xl_D mX3_keep 28 (.iadd) 1 29 := ⟨zd zq_19 (by decide +kernel), rfl⟩
theorem iX3_keep_29 : xl_Ca mX3_keep 29 mX3_copies 32 := ⟨95, zd zq_545 (by decide +kernel), rfl, lX3_95, Nat.le_of_ble_eq_true rfl, Nat.le_of_ble_eq_true rfl⟩
theorem iX3_keep_32 : xl_D mX3_keep 32 (.iconst 1) 1 33 := ⟨zd zq_36 (by decide +kernel), rfl⟩
theorem iX3_keep_33 : xl_D mX3_keep 33 (.ireturn) 1 34 := ⟨zd zq_17 (by decide +kernel), rfl⟩
theorem iX3_back_0 : xl_D mX3_back 0 (.aload_n 0) 1 1 := ⟨zd zq_0 (by decide +kernel), rfl⟩
theorem iX3_back_1 : xl_D mX3_back 1 (.iconst 0) 1 2 := ⟨zd zq_2 (by decide +kernel), rfl⟩
theorem iX3_back_2 : xl_P mX3_back 2 3 0 .int 5 := ⟨3, zd zq_502 (by decide +kernel), rfl, wX3_3⟩
theorem iX3_back_5 : xl_D mX3_back 5 (.iload_n 1) 1 6 := ⟨zd zq_3 (by decide +kernel), rfl⟩
theorem iX3_back_6 : xl_D mX3_back 6 (.i2l) 1 7 := ⟨zd zq_266 (by decide +kernel), rfl⟩
theorem iX3_back_7 : xl_D mX3_back 7 (.lconst 0) 1 8 := ⟨zd zq_506 (by decide +kernel), rfl⟩
theorem iX3_back_8 : xl_D mX3_back 8 (.lconst 1) 1 9 := ⟨zd zq_548 (by decide +kernel), rfl⟩
theorem iX3_back_9 : xl_Cs mX3_back 9 mX3_in 12 := ⟨21, zd zq_507 (by decide +kernel), rfl, lX3_21, Nat.le_of_ble_eq_true rfl, Nat.le_of_ble_eq_true rfl⟩
theorem iX3_back_12 : xl_J mX3_back 12 (fun o => .ifCond .eq o) 15 24 := ⟨12, zd zq_170 (by decide +kernel), rfl, rfl⟩
theorem iX3_back_15 : xl_D mX3_back 15 (.aload_n 0) 1 16 := ⟨zd zq_0 (by decide +kernel), rfl⟩
theorem iX3_back_16 : xl_G mX3_back 16 3 22 19 := ⟨80, zd zq_722 (by decide +kernel), rfl, fX3_80⟩
theorem iX3_back_19 : xl_D mX3_back 19 (.iload_n 1) 1 20 := ⟨zd zq_3 (by decide +kernel), rfl⟩
theorem iX3_back_20 : xl_D mX3_back 20 (.baload) 1 21 := ⟨zd zq_724 (by decide +kernel), rfl⟩
theorem iX3_back_21 : xl_J mX3_back 21 (fun o => .ifCond .ne o) 24 26 := ⟨5, zd zq_246 (by decide +kernel), rfl, rfl⟩
theorem iX3_back_24 : xl_D mX3_back 24 (.iconst 0) 1 25 := ⟨zd zq_2 (by decide +kernel), rfl⟩
theorem iX3_back_25 : xl_D mX3_back 25 (.ireturn) 1 26 := ⟨zd zq_17 (by decide +kernel), rfl⟩
theorem iX3_back_26 : xl_D mX3_back 26 (.aload_n 0) 1 27 := ⟨zd zq_0 (by decide +kernel), rfl⟩
theorem iX3_back_27 : xl_D mX3_back 27 (.iconst 1) 1 28 := ⟨zd zq_36 (by decide +kernel), rfl⟩
theorem iX3_back_28 : xl_D mX3_back 28 (.iload_n 1) 1 29 := ⟨zd zq_3 (by decide +kernel), rfl⟩
theorem iX3_back_29 : xl_D mX3_back 29 (.iadd) 1 30 := ⟨zd zq_19 (by decide +kernel), rfl⟩
theorem iX3_back_30 : xl_D mX3_back 30 (.iconst 0) 1 31 := ⟨zd zq_2 (by decide +kernel), rfl⟩
theorem iX3_back_31 : xl_Ca mX3_back 31 mX3_copies 34 := ⟨95, zd zq_545 (by decide +kernel), rfl, lX3_95, Nat.le_of_ble_eq_true rfl, Nat.le_of_ble_eq_true rfl⟩
theorem iX3_back_34 : xl_D mX3_back 34 (.aload_n 0) 1 35 := ⟨zd zq_0 (by decide +kernel), rfl⟩
theorem iX3_back_35 : xl_D mX3_back 35 (.iconst 0) 1 36 := ⟨zd zq_2 (by decide +kernel), rfl⟩
theorem iX3_back_36 : xl_P mX3_back 36 3 8 .int 39 := ⟨92, zd zq_546 (by decide +kernel), rfl, wX3_92⟩
theorem iX3_back_39 : xl_D mX3_back 39 (.iconst 1) 1 40 := ⟨zd zq_36 (by decide +kernel), rfl⟩
theorem iX3_back_40 : xl_D mX3_back 40 (.ireturn) 1 41 := ⟨zd zq_17 (by decide +kernel), rfl⟩
theorem iX3_count_0 : xl_D mX3_count 0 (.aload_n 0) 1 1 := ⟨zd zq_0 (by decide +kernel), rfl⟩
theorem iX3_count_1 : xl_D mX3_count 1 (.iconst 0) 1 2 := ⟨zd zq_2 (by decide +kernel), rfl⟩
theorem iX3_count_2 : xl_P mX3_count 2 3 0 .int 5 := ⟨3, zd zq_502 (by decide +kernel), rfl, wX3_3⟩
theorem iX3_count_5 : xl_D mX3_count 5 (.iload_n 1) 1 6 := ⟨zd zq_3 (by decide +kernel), rfl⟩
theorem iX3_count_6 : xl_D mX3_count 6 (.tableswitch 41 8 10 #[26, 31, 36]) 26 32 := ⟨by decide +kernel, rfl⟩
theorem iX3_count_32 : xl_D mX3_count 32 (.aload_n 0) 1 33 := ⟨zd zq_0 (by decide +kernel), rfl⟩
theorem iX3_count_33 : xl_G mX3_count 33 3 8 36 := ⟨92, zd zq_543 (by decide +kernel), rfl, fX3_92⟩
theorem iX3_count_36 : xl_D mX3_count 36 (.ireturn) 1 37 := ⟨zd zq_17 (by decide +kernel), rfl⟩
theorem iX3_count_37 : xl_D mX3_count 37 (.aload_n 0) 1 38 := ⟨zd zq_0 (by decide +kernel), rfl⟩
theorem iX3_count_38 : xl_G mX3_count 38 3 1 41 := ⟨11, zd zq_500 (by decide +kernel), rfl, fX3_11⟩
theorem iX3_count_41 : xl_D mX3_count 41 (.ireturn) 1 42 := ⟨zd zq_17 (by decide +kernel), rfl⟩
theorem iX3_count_42 : xl_D mX3_count 42 (.aload_n 0) 1 43 := ⟨zd zq_0 (by decide +kernel), rfl⟩
theorem iX3_count_43 : xl_G mX3_count 43 3 4 46 := ⟨14, zd zq_89 (by decide +kernel), rfl, fX3_14⟩
theorem iX3_count_46 : xl_D mX3_count 46 (.ireturn) 1 47 := ⟨zd zq_17 (by decide +kernel), rfl⟩
theorem iX3_count_47 : xl_D mX3_count 47 (.iload_n 1) 1 48 := ⟨zd zq_3 (by decide +kernel), rfl⟩
theorem iX3_count_48 : xl_D mX3_count 48 (.i2l) 1 49 := ⟨zd zq_266 (by decide +kernel), rfl⟩
theorem iX3_count_49 : xl_D mX3_count 49 (.lconst 0) 1 50 := ⟨zd zq_506 (by decide +kernel), rfl⟩
theorem iX3_count_50 : xl_D mX3_count 50 (.ldc2_w 268) 3 53 := ⟨zd zq_649 (by decide +kernel), rfl⟩
theorem iX3_count_53 : xl_Cs mX3_count 53 mX3_in 56 := ⟨21, zd zq_507 (by decide +kernel), rfl, lX3_21, Nat.le_of_ble_eq_true rfl, Nat.le_of_ble_eq_true rfl⟩
theorem iX3_count_56 : xl_J mX3_count 56 (fun o => .ifCond .eq o) 59 68 := ⟨12, zd zq_170 (by decide +kernel), rfl, rfl⟩
theorem iX3_count_59 : xl_D mX3_count 59 (.aload_n 0) 1 60 := ⟨zd zq_0 (by decide +kernel), rfl⟩
theorem iX3_count_60 : xl_D mX3_count 60 (.iconst 0) 1 61 := ⟨zd zq_2 (by decide +kernel), rfl⟩
theorem iX3_count_61 : xl_D mX3_count 61 (.iload_n 1) 1 62 := ⟨zd zq_3 (by decide +kernel), rfl⟩
theorem iX3_count_62 : xl_Ca mX3_count 62 mX3_of 65 := ⟨116, zd zq_555 (by decide +kernel), rfl, lX3_116, Nat.le_of_ble_eq_true rfl, Nat.le_of_ble_eq_true rfl⟩
theorem iX3_count_65 : xl_J mX3_count 65 (fun o => .goto o) 68 69 := ⟨4, zd zq_139 (by decide +kernel), rfl, rfl⟩
theorem iX3_count_68 : xl_D mX3_count 68 (.iconst (-1)) 1 69 := ⟨zd zq_104 (by decide +kernel), rfl⟩
theorem iX3_count_69 : xl_D mX3_count 69 (.ireturn) 1 70 := ⟨zd zq_17 (by decide +kernel), rfl⟩
theorem iX3_row_0 : xl_D mX3_row 0 (.aload_n 0) 1 1 := ⟨zd zq_0 (by decide +kernel), rfl⟩
theorem iX3_row_1 : xl_D mX3_row 1 (.iload_n 1) 1 2 := ⟨zd zq_3 (by decide +kernel), rfl⟩
theorem iX3_row_2 : xl_D mX3_row 2 (.i2l) 1 3 := ⟨zd zq_266 (by decide +kernel), rfl⟩
theorem iX3_row_3 : xl_D mX3_row 3 (.lconst 0) 1 4 := ⟨zd zq_506 (by decide +kernel), rfl⟩
theorem iX3_row_4 : xl_D mX3_row 4 (.aload_n 0) 1 5 := ⟨zd zq_0 (by decide +kernel), rfl⟩
theorem iX3_row_5 : xl_G mX3_row 5 3 1 8 := ⟨11, zd zq_500 (by decide +kernel), rfl, fX3_11⟩
theorem iX3_row_8 : xl_D mX3_row 8 (.iconst 1) 1 9 := ⟨zd zq_36 (by decide +kernel), rfl⟩
theorem iX3_row_9 : xl_D mX3_row 9 (.isub) 1 10 := ⟨zd zq_39 (by decide +kernel), rfl⟩
theorem iX3_row_10 : xl_D mX3_row 10 (.i2l) 1 11 := ⟨zd zq_266 (by decide +kernel), rfl⟩
theorem iX3_row_11 : xl_Cs mX3_row 11 mX3_in 14 := ⟨21, zd zq_507 (by decide +kernel), rfl, lX3_21, Nat.le_of_ble_eq_true rfl, Nat.le_of_ble_eq_true rfl⟩
theorem iX3_row_14 : xl_J mX3_row 14 (fun o => .ifCond .ne o) 17 21 := ⟨7, zd zq_192 (by decide +kernel), rfl, rfl⟩
theorem iX3_row_17 : xl_D mX3_row 17 (.iconst 1) 1 18 := ⟨zd zq_36 (by decide +kernel), rfl⟩
theorem iX3_row_18 : xl_J mX3_row 18 (fun o => .goto o) 21 22 := ⟨4, zd zq_139 (by decide +kernel), rfl, rfl⟩
theorem iX3_row_21 : xl_D mX3_row 21 (.iconst 0) 1 22 := ⟨zd zq_2 (by decide +kernel), rfl⟩
theorem iX3_row_22 : xl_Cs mX3_row 22 mX3_flag 25 := ⟨194, zd zq_613 (by decide +kernel), rfl, lX3_194, Nat.le_of_ble_eq_true rfl, Nat.le_of_ble_eq_true rfl⟩
theorem iX3_row_25 : xl_P mX3_row 25 3 0 .int 28 := ⟨3, zd zq_502 (by decide +kernel), rfl, wX3_3⟩
theorem iX3_row_28 : xl_D mX3_row 28 (.aload_n 0) 1 29 := ⟨zd zq_0 (by decide +kernel), rfl⟩
theorem iX3_row_29 : xl_G mX3_row 29 3 0 32 := ⟨3, zd zq_647 (by decide +kernel), rfl, fX3_3⟩
theorem iX3_row_32 : xl_D mX3_row 32 (.iconst 1) 1 33 := ⟨zd zq_36 (by decide +kernel), rfl⟩
theorem iX3_row_33 : xl_J mX3_row 33 (fun o => .if_icmp .ne o) 36 40 := ⟨7, zd zq_138 (by decide +kernel), rfl, rfl⟩
theorem iX3_row_36 : xl_D mX3_row 36 (.lconst 0) 1 37 := ⟨zd zq_506 (by decide +kernel), rfl⟩
theorem iX3_row_37 : xl_J mX3_row 37 (fun o => .goto o) 40 46 := ⟨9, zd zq_159 (by decide +kernel), rfl, rfl⟩
theorem iX3_row_40 : xl_D mX3_row 40 (.aload_n 0) 1 41 := ⟨zd zq_0 (by decide +kernel), rfl⟩
theorem iX3_row_41 : xl_G mX3_row 41 3 2 44 := ⟨7, zd zq_499 (by decide +kernel), rfl, fX3_7⟩
theorem iX3_row_44 : xl_D mX3_row 44 (.iload_n 1) 1 45 := ⟨zd zq_3 (by decide +kernel), rfl⟩
theorem iX3_row_45 : xl_D mX3_row 45 (.laload) 1 46 := ⟨zd zq_413 (by decide +kernel), rfl⟩
theorem iX3_row_46 : xl_D mX3_row 46 (.lreturn) 1 47 := ⟨zd zq_414 (by decide +kernel), rfl⟩
end
-- 51.M
section
/-! ===== the model: numbers by their fields (0 thrown, 1 told, 4 taped, 5 at, 6 to, 8 undos, 10 doneLast, 11 doneKey, 12 meltedWith, 19 timed, 21 random), arrays by their places (1 row, 2 tape, 3 mem, 4 fresh, 5 readKey, 6 readTime, 7 readValue, 8 readSource, 9 times, 10 values, 11 act, 12 isKept) ===== -/
abbrev MS : Type := (Nat → Int) × (Nat → Nat → Int)
abbrev KM : Type := PS → MS → Prop
def encM (s : MS) : XH := [xO 3 [xi (s.1 0), xi (s.1 1), .ref 1, .ref 2, xi (s.1 4), xi (s.1 5), xi (s.1 6), .ref 3, xi (s.1 8), .ref 4, xi (s.1 10), xi (s.1 11), xi (s.1 12), .ref 5, .ref 6, .ref 7, .ref 8, .ref 9, .ref 10, xi (s.1 19), .ref 11, xi (s.1 21), .ref 12], xL 16 (s.2 1), xA 80 (s.2 2), xA 30844 (s.2 3), xA 7 (s.2 4), xA 80 (s.2 5), xA 80 (s.2 6), xA 80 (s.2 7), xA 80 (s.2 8), xA 160 (s.2 9), xA 160 (s.2 10), xA 80 (s.2 11), xZ 2 (s.2 12)]
def bdM (s : MS) : Prop := (∀ k, xB (s.1 k)) ∧ ∀ a k, xB (s.2 a k)
def fgM : FG MS := fun s r ci k => bif Nat.beq r 0 then (bif Nat.beq ci 3 then xl_n [pI (s.1 0), pI (s.1 1), pR 1, pR 2, pI (s.1 4), pI (s.1 5), pI (s.1 6), pR 3, pI (s.1 8), pR 4, pI (s.1 10), pI (s.1 11), pI (s.1 12), pR 5, pR 6, pR 7, pR 8, pR 9, pR 10, pI (s.1 19), pR 11, pI (s.1 21), pR 12] k else none) else none
def mS (s : MS) (k : Nat) (v : Int) : MS := (fun j => bif Nat.beq j k then v else s.1 j, s.2)
def mA (s : MS) (a : Nat) (g : Nat → Int) : MS := (s.1, fun j => bif Nat.beq j a then g else s.2 j)
def fpM : FP MS := fun s r ci k z => bif Nat.beq r 0 then (bif Nat.beq ci 3 then (match xl_n [true, true, false, false, true, true, true, false, true, false, true, true, true, false, false, false, false, false, false, true, false, true, false] k with
  | some true => some (mS s k z)
  | _ => none) else none) else none
def agM : AG MS := fun s r => match xl_n [none, some (1, 16, s.2 1), some (0, 80, s.2 2), some (0, 30844, s.2 3), some (0, 7, s.2 4), some (0, 80, s.2 5), some (0, 80, s.2 6), some (0, 80, s.2 7), some (0, 80, s.2 8), some (0, 160, s.2 9), some (0, 160, s.2 10), some (0, 80, s.2 11), some (2, 2, s.2 12)] r with
  | some x => x
  | none => none
def apM : AP MS := fun s r g => mA s r g
theorem bdM_S {s : MS} {k : Nat} {v : Int} (hb : bdM s) (hv : xB v) : bdM (mS s k v) := by
  refine ⟨fun j => ?_, hb.2⟩
  show xB (bif Nat.beq j k then v else s.1 j)
  cases Nat.beq j k with
  | true => exact hv
  | false => exact hb.1 j
theorem bdM_A {s : MS} {a : Nat} {g : Nat → Int} (hb : bdM s) (hv : ∀ k, xB (g k)) : bdM (mA s a g) := by
  refine ⟨hb.1, fun j => ?_⟩
  show ∀ k, xB ((bif Nat.beq j a then g else s.2 j) k)
  cases Nat.beq j a with
  | true => exact hv
  | false => exact hb.2 j
theorem vFgM : vFg encM bdM fgM := by
  intro s r ci k v hb h
  obtain ⟨h1, g1⟩ := bN h
  obtain ⟨h2, g2⟩ := bN g1
  clear h g1
  have h1 := nB h1
  have h2 := nB h2
  subst h1; subst h2
  match k, g2 with
  | 0, g2 => cases g2; exact ⟨_, _, rfl, rfl, rfl, fun z e => by cases e; exact hb.1 0⟩
  | 1, g2 => cases g2; exact ⟨_, _, rfl, rfl, rfl, fun z e => by cases e; exact hb.1 1⟩
  | 2, g2 => cases g2; exact ⟨_, _, rfl, rfl, rfl, fun z e => by cases e⟩
  | 3, g2 => cases g2; exact ⟨_, _, rfl, rfl, rfl, fun z e => by cases e⟩
  | 4, g2 => cases g2; exact ⟨_, _, rfl, rfl, rfl, fun z e => by cases e; exact hb.1 4⟩
  | 5, g2 => cases g2; exact ⟨_, _, rfl, rfl, rfl, fun z e => by cases e; exact hb.1 5⟩
  | 6, g2 => cases g2; exact ⟨_, _, rfl, rfl, rfl, fun z e => by cases e; exact hb.1 6⟩
  | 7, g2 => cases g2; exact ⟨_, _, rfl, rfl, rfl, fun z e => by cases e⟩
  | 8, g2 => cases g2; exact ⟨_, _, rfl, rfl, rfl, fun z e => by cases e; exact hb.1 8⟩
  | 9, g2 => cases g2; exact ⟨_, _, rfl, rfl, rfl, fun z e => by cases e⟩
  | 10, g2 => cases g2; exact ⟨_, _, rfl, rfl, rfl, fun z e => by cases e; exact hb.1 10⟩
  | 11, g2 => cases g2; exact ⟨_, _, rfl, rfl, rfl, fun z e => by cases e; exact hb.1 11⟩
  | 12, g2 => cases g2; exact ⟨_, _, rfl, rfl, rfl, fun z e => by cases e; exact hb.1 12⟩
  | 13, g2 => cases g2; exact ⟨_, _, rfl, rfl, rfl, fun z e => by cases e⟩
  | 14, g2 => cases g2; exact ⟨_, _, rfl, rfl, rfl, fun z e => by cases e⟩
  | 15, g2 => cases g2; exact ⟨_, _, rfl, rfl, rfl, fun z e => by cases e⟩
  | 16, g2 => cases g2; exact ⟨_, _, rfl, rfl, rfl, fun z e => by cases e⟩
  | 17, g2 => cases g2; exact ⟨_, _, rfl, rfl, rfl, fun z e => by cases e⟩
  | 18, g2 => cases g2; exact ⟨_, _, rfl, rfl, rfl, fun z e => by cases e⟩
  | 19, g2 => cases g2; exact ⟨_, _, rfl, rfl, rfl, fun z e => by cases e; exact hb.1 19⟩
  | 20, g2 => cases g2; exact ⟨_, _, rfl, rfl, rfl, fun z e => by cases e⟩
  | 21, g2 => cases g2; exact ⟨_, _, rfl, rfl, rfl, fun z e => by cases e; exact hb.1 21⟩
  | 22, g2 => cases g2; exact ⟨_, _, rfl, rfl, rfl, fun z e => by cases e⟩
theorem vFpM : vFp encM bdM fpM := by
  intro s r ci k z s' hb hz h
  obtain ⟨h1, g1⟩ := bN h
  obtain ⟨h2, g2⟩ := bN g1
  clear h g1
  have h1 := nB h1
  have h2 := nB h2
  subst h1; subst h2
  match k, g2 with
  | 0, g2 => cases g2; exact ⟨_, rfl, Nat.le_of_ble_eq_true rfl, rfl, bdM_S hb hz⟩
  | 1, g2 => cases g2; exact ⟨_, rfl, Nat.le_of_ble_eq_true rfl, rfl, bdM_S hb hz⟩
  | 4, g2 => cases g2; exact ⟨_, rfl, Nat.le_of_ble_eq_true rfl, rfl, bdM_S hb hz⟩
  | 5, g2 => cases g2; exact ⟨_, rfl, Nat.le_of_ble_eq_true rfl, rfl, bdM_S hb hz⟩
  | 6, g2 => cases g2; exact ⟨_, rfl, Nat.le_of_ble_eq_true rfl, rfl, bdM_S hb hz⟩
  | 8, g2 => cases g2; exact ⟨_, rfl, Nat.le_of_ble_eq_true rfl, rfl, bdM_S hb hz⟩
  | 10, g2 => cases g2; exact ⟨_, rfl, Nat.le_of_ble_eq_true rfl, rfl, bdM_S hb hz⟩
  | 11, g2 => cases g2; exact ⟨_, rfl, Nat.le_of_ble_eq_true rfl, rfl, bdM_S hb hz⟩
  | 12, g2 => cases g2; exact ⟨_, rfl, Nat.le_of_ble_eq_true rfl, rfl, bdM_S hb hz⟩
  | 19, g2 => cases g2; exact ⟨_, rfl, Nat.le_of_ble_eq_true rfl, rfl, bdM_S hb hz⟩
  | 21, g2 => cases g2; exact ⟨_, rfl, Nat.le_of_ble_eq_true rfl, rfl, bdM_S hb hz⟩
  | 22, g2 => cases g2
  | k + 23, g2 => cases g2
theorem vAgM : vAg encM bdM agM apM := by
  intro s r t n g hb h
  match r, h with
  | 1, h => cases h; exact ⟨by decide, hb.2 1, rfl, fun g' hg => ⟨bdM_A hb hg, rfl⟩⟩
  | 2, h => cases h; exact ⟨by decide, hb.2 2, rfl, fun g' hg => ⟨bdM_A hb hg, rfl⟩⟩
  | 3, h => cases h; exact ⟨by decide, hb.2 3, rfl, fun g' hg => ⟨bdM_A hb hg, rfl⟩⟩
  | 4, h => cases h; exact ⟨by decide, hb.2 4, rfl, fun g' hg => ⟨bdM_A hb hg, rfl⟩⟩
  | 5, h => cases h; exact ⟨by decide, hb.2 5, rfl, fun g' hg => ⟨bdM_A hb hg, rfl⟩⟩
  | 6, h => cases h; exact ⟨by decide, hb.2 6, rfl, fun g' hg => ⟨bdM_A hb hg, rfl⟩⟩
  | 7, h => cases h; exact ⟨by decide, hb.2 7, rfl, fun g' hg => ⟨bdM_A hb hg, rfl⟩⟩
  | 8, h => cases h; exact ⟨by decide, hb.2 8, rfl, fun g' hg => ⟨bdM_A hb hg, rfl⟩⟩
  | 9, h => cases h; exact ⟨by decide, hb.2 9, rfl, fun g' hg => ⟨bdM_A hb hg, rfl⟩⟩
  | 10, h => cases h; exact ⟨by decide, hb.2 10, rfl, fun g' hg => ⟨bdM_A hb hg, rfl⟩⟩
  | 11, h => cases h; exact ⟨by decide, hb.2 11, rfl, fun g' hg => ⟨bdM_A hb hg, rfl⟩⟩
  | 12, h => cases h; exact ⟨by decide, hb.2 12, rfl, fun g' hg => ⟨bdM_A hb hg, rfl⟩⟩
theorem lenM (s s' : MS) : (encM s').length = (encM s).length := rfl
theorem recM (s : MS) : ∃ fs, xl_n (encM s) 0 = some (.inr (3, fs)) := ⟨_, rfl⟩
end
-- 52.M
section
/-! ===== the model: leaves ===== -/
-- X3_in: heads []
def tX3_in : Nat → Blk Unit := fun pc => bif Nat.blt pc 17 then (bif Nat.beq pc 0 then (oLld 0 <| oLld 2 <| oLcmp <| oZLt 17 <| oLld 0 <| oLld 4 <| oLcmp <| oZGt 17 <| oI 1 <| oTo 18) else oNo) else (bif Nat.blt pc 18 then (bif Nat.beq pc 17 then (oI 0 <| oTo 18) else oNo) else (bif Nat.beq pc 18 then (oZret) else oNo))
theorem tX3_in_ok : ∀ pc, bOk (encU) (bdU) mX3_in 0 0 pc (tX3_in pc) := fun pc => (tNode (tLeaf (okLldn iX3_in_0 rfl <| okLldn iX3_in_1 rfl <| okLcmp iX3_in_2 <| okZLt (tl rfl) iX3_in_3 <| okLldn iX3_in_6 rfl <| okLld iX3_in_7 <| okLcmp iX3_in_9 <| okZGt (tl rfl) iX3_in_10 <| okIc iX3_in_13 <| okGoto (tl rfl) iX3_in_14)) (tNode (tLeaf (okIc iX3_in_17 <| okTo (tl rfl))) (tLeaf (okZret iX3_in_18 rfl)))) pc
-- X3_flag: heads []
def tX3_flag : Nat → Blk Unit := fun pc => bif Nat.blt pc 8 then (bif Nat.beq pc 0 then (oIld 0 <| oZEq 8 <| oI 1 <| oTo 9) else oNo) else (bif Nat.blt pc 9 then (bif Nat.beq pc 8 then (oI 0 <| oTo 9) else oNo) else (bif Nat.beq pc 9 then (oIret) else oNo))
theorem tX3_flag_ok : ∀ pc, bOk (encU) (bdU) mX3_flag 0 0 pc (tX3_flag pc) := fun pc => (tNode (tLeaf (okIldn iX3_flag_0 rfl <| okZEq (tl rfl) iX3_flag_1 <| okIc iX3_flag_4 <| okGoto (tl rfl) iX3_flag_5)) (tNode (tLeaf (okIc iX3_flag_8 <| okTo (tl rfl))) (tLeaf (okIret iX3_flag_9 rfl)))) pc
-- X3_place: heads []
def tX3_place : Nat → Blk Unit := fun pc => bif Nat.beq pc 0 then (oIld 0 <| oI 2804 <| oMul <| oI 364 <| oAdd <| oI 7 <| oIld 1 <| oMul <| oAdd <| oIret) else oNo
theorem tX3_place_ok : ∀ pc, bOk (encU) (bdU) mX3_place 0 0 pc (tX3_place pc) := fun pc => (tLeaf (okIldn iX3_place_0 rfl <| okSi iX3_place_1 (by decide) <| okMul iX3_place_4 <| okSi iX3_place_5 (by decide) <| okAdd iX3_place_8 <| okBi iX3_place_9 (by decide) <| okIldn iX3_place_11 rfl <| okMul iX3_place_12 <| okAdd iX3_place_13 <| okIret iX3_place_14 rfl)) pc
-- X3_of: heads []
def tX3_of : Nat → Blk MS := fun pc => bif Nat.beq pc 0 then (oAld 0 <| oGet (fgM) 3 7 <| oIld 1 <| oI 2804 <| oMul <| oIld 2 <| oAdd <| oIa (agM) <| oIret) else oNo
theorem tX3_of_ok : ∀ pc, bOk (encM) (bdM) mX3_of 0 0 pc (tX3_of pc) := fun pc => (tLeaf (okAldn iX3_of_0 rfl <| okGet (vFgM) iX3_of_1 <| okIldn iX3_of_4 rfl <| okSi iX3_of_5 (by decide) <| okMul iX3_of_8 <| okIldn iX3_of_9 rfl <| okAdd iX3_of_10 <| okIa (vAgM) iX3_of_11 <| okIret iX3_of_12 rfl)) pc
-- X3_puts: heads []
def tX3_puts : Nat → Blk MS := fun pc => bif Nat.beq pc 0 then (oAld 0 <| oGet (fgM) 3 7 <| oIld 1 <| oI 2804 <| oMul <| oIld 2 <| oAdd <| oIld 3 <| oIas (agM) (apM) <| oVret) else oNo
theorem tX3_puts_ok : ∀ pc, bOk (encM) (bdM) mX3_puts 0 0 pc (tX3_puts pc) := fun pc => (tLeaf (okAldn iX3_puts_0 rfl <| okGet (vFgM) iX3_puts_1 <| okIldn iX3_puts_4 rfl <| okSi iX3_puts_5 (by decide) <| okMul iX3_puts_8 <| okIldn iX3_puts_9 rfl <| okAdd iX3_puts_10 <| okIldn iX3_puts_11 rfl <| okIas (vAgM) iX3_puts_12 <| okVret iX3_puts_13 rfl)) pc
-- X3_adds: heads []
def tX3_adds : Nat → Blk MS := fun pc => bif Nat.beq pc 0 then (oAld 0 <| oGet (fgM) 3 7 <| oIld 1 <| oI 2804 <| oMul <| oIld 2 <| oAdd <| oDup2 <| oIa (agM) <| oIld 3 <| oAddW <| oIas (agM) (apM) <| oVret) else oNo
theorem tX3_adds_ok : ∀ pc, bOk (encM) (bdM) mX3_adds 0 0 pc (tX3_adds pc) := fun pc => (tLeaf (okAldn iX3_adds_0 rfl <| okGet (vFgM) iX3_adds_1 <| okIldn iX3_adds_4 rfl <| okSi iX3_adds_5 (by decide) <| okMul iX3_adds_8 <| okIldn iX3_adds_9 rfl <| okAdd iX3_adds_10 <| okDup2 iX3_adds_11 <| okIa (vAgM) iX3_adds_12 <| okIldn iX3_adds_13 rfl <| okAddW iX3_adds_14 <| okIas (vAgM) iX3_adds_15 <| okVret iX3_adds_16 rfl)) pc
-- X3_enters: heads []
def tX3_enters : Nat → Blk MS := fun pc => bif Nat.beq pc 0 then (oAld 0 <| oGet (fgM) 3 2 <| oAld 0 <| oGet (fgM) 3 1 <| oLld 1 <| oLas (agM) (apM) <| oAld 0 <| oDup <| oGet (fgM) 3 1 <| oI 1 <| oAdd <| oPut (fpM) 3 1 <| oVret) else oNo
theorem tX3_enters_ok : ∀ pc, bOk (encM) (bdM) mX3_enters 0 0 pc (tX3_enters pc) := fun pc => (tLeaf (okAldn iX3_enters_0 rfl <| okGet (vFgM) iX3_enters_1 <| okAldn iX3_enters_4 rfl <| okGet (vFgM) iX3_enters_5 <| okLldn iX3_enters_8 rfl <| okLas (vAgM) iX3_enters_9 <| okAldn iX3_enters_10 rfl <| okDup iX3_enters_11 <| okGet (vFgM) iX3_enters_12 <| okIc iX3_enters_15 <| okAdd iX3_enters_16 <| okPut (vFpM) iX3_enters_17 <| okVret iX3_enters_20 rfl)) pc
-- X3_reads: heads []
def tX3_reads : Nat → Blk MS := fun pc => bif Nat.beq pc 0 then (oAld 0 <| oAld 0 <| oGet (fgM) 3 4 <| oPut (fpM) 3 6 <| oAld 0 <| oI 0 <| oPut (fpM) 3 4 <| oAld 0 <| oI 0 <| oPut (fpM) 3 5 <| oVret) else oNo
theorem tX3_reads_ok : ∀ pc, bOk (encM) (bdM) mX3_reads 0 0 pc (tX3_reads pc) := fun pc => (tLeaf (okAldn iX3_reads_0 rfl <| okAldn iX3_reads_1 rfl <| okGet (vFgM) iX3_reads_2 <| okPut (vFpM) iX3_reads_5 <| okAldn iX3_reads_8 rfl <| okIc iX3_reads_9 <| okPut (vFpM) iX3_reads_10 <| okAldn iX3_reads_13 rfl <| okIc iX3_reads_14 <| okPut (vFpM) iX3_reads_15 <| okVret iX3_reads_18 rfl)) pc
abbrev inB (v l h : Int) : Prop := l ≤ v ∧ v ≤ h
def sX3_in : Int → Int → Int → Unit → KU → Prop := fun v l h s K => (xB v ∧ xB l ∧ xB h) ∧ (inB v l h → K [pI 1] s) ∧ (¬ inB v l h → K [pI 0] s)
theorem mX3_in_ok : mOk encU bdU mX3_in (j3 sX3_in) := by
  refine mOSj3 kX3_in (fun _ _ _ => rfl) (fun v l h s K q hb => wx_J [] 9 tX3_in_ok rfl (fun J hR hJ => ?_))
  obtain ⟨h1, h2, h3⟩ := q
  repeat' (first | (refine And.intro ?_ ?_) | (intro hq; first | (exact absurd hq (by omega)) | skip))
  all_goals first | omega | exact hR _ _ (h2 (by omega)) | exact hR _ _ (h3 (by omega))
def sX3_flag : Int → Unit → KU → Prop := fun z s K => (z = 0 ∨ z = 1) ∧ K [pI z] s
theorem mX3_flag_ok : mOk encU bdU mX3_flag (a1 sX3_flag) := by
  refine mOSa1 kX3_flag (fun _ => rfl) (fun z s K h hb => wx_J [] 9 tX3_flag_ok rfl (fun J hR hJ => ?_))
  obtain ⟨h1, hK⟩ := h
  rcases h1 with rfl | rfl
  · repeat' (first | (refine And.intro ?_ ?_) | (intro hq; first | (exact absurd hq (by omega)) | skip))
    all_goals first | omega | exact hR _ _ hK
  · repeat' (first | (refine And.intro ?_ ?_) | (intro hq; first | (exact absurd hq (by omega)) | skip))
    all_goals first | omega | exact hR _ _ hK
def sX3_place : Int → Int → Unit → KU → Prop := fun d i s K => K [pI ((d * 2804 + 364 + 7 * i))] s
theorem mX3_place_ok : mOk encU bdU mX3_place (a2 sX3_place) := by
  refine mOSa2 kX3_place (fun _ _ => rfl) (fun d i s K h hb => wx_J [] 9 tX3_place_ok rfl (fun J hR hJ => ?_))
  have hK : K [pI ((d * 2804 + 364 + 7 * i))] s := h
  repeat' (first | (refine And.intro ?_ ?_) | (intro hq; first | (exact absurd hq (by omega)) | skip))
  all_goals first | omega | exact hR _ _ hK
section MSC
variable {M : XI} {rc rs pc pc2 : Nat}
theorem j3_inv {σ : Type} {f : Int → Int → Int → σ → (PS → σ → Prop) → Prop} {as : List PV} {s : σ} {K : PS → σ → Prop} (h : j3 f as s K) : ∃ x y z, as = [pJ x, pJ y, pJ z] ∧ f x y z s K := by
  unfold j3 at h
  split at h
  · exact ⟨_, _, _, rfl, h⟩
  · exact h.elim
def cM_X3_in : Sp MS := j3 (fun x y z s K => sX3_in x y z () (fun v _ => K v s))
theorem qM_X3_in (d : xl_Cs M pc mX3_in pc2) : cOk encM bdM M rc rs pc pc2 3 cM_X3_in := cUn mX3_in_ok vX3_in d rfl (fun as s K h1 => by
  obtain ⟨x, y, z, rfl, h2⟩ := j3_inv h1
  exact h2)
def cU_X3_in : Sp Unit := j3 sX3_in
theorem qU_X3_in (d : xl_Cs M pc mX3_in pc2) : cOk encU bdU M rc rs pc pc2 3 cU_X3_in := cUn mX3_in_ok vX3_in d rfl (fun as s K h1 => by
  obtain ⟨x, y, z, rfl, h2⟩ := j3_inv h1
  exact h2)
def cM_X3_flag : Sp MS := a1 (fun x s K => sX3_flag x () (fun v _ => K v s))
theorem qM_X3_flag (d : xl_Cs M pc mX3_flag pc2) : cOk encM bdM M rc rs pc pc2 1 cM_X3_flag := cUn mX3_flag_ok vX3_flag d rfl (fun as s K h1 => by
  obtain ⟨x, rfl, h2⟩ := a1_inv h1
  exact h2)
def cM_X3_place : Sp MS := a2 (fun x y s K => sX3_place x y () (fun v _ => K v s))
theorem qM_X3_place (d : xl_Cs M pc mX3_place pc2) : cOk encM bdM M rc rs pc pc2 2 cM_X3_place := cUn mX3_place_ok vX3_place d rfl (fun as s K h1 => by
  obtain ⟨x, y, rfl, h2⟩ := a2_inv h1
  exact h2)
end MSC
-- X3_areSettings: heads []
def tX3_areSettings : Nat → Blk Unit := fun pc => bif Nat.blt pc 40 then (bif Nat.beq pc 0 then (oIld 0 <| oI2l <| oJ 1 <| oJ 99 <| oC3 (cU_X3_in) <| oZEq 40 <| oIld 1 <| oI2l <| oJ 0 <| oJ 99 <| oC3 (cU_X3_in) <| oZEq 40 <| oIld 2 <| oI2l <| oJ 0 <| oJ 9 <| oC3 (cU_X3_in) <| oZEq 40 <| oI 1 <| oTo 41) else oNo) else (bif Nat.blt pc 41 then (bif Nat.beq pc 40 then (oI 0 <| oTo 41) else oNo) else (bif Nat.beq pc 41 then (oZret) else oNo))
theorem tX3_areSettings_ok : ∀ pc, bOk (encU) (bdU) mX3_areSettings 0 0 pc (tX3_areSettings pc) := fun pc => (tNode (tLeaf (okIldn iX3_areSettings_0 rfl <| okI2l iX3_areSettings_1 <| okLc iX3_areSettings_2 rfl <| okLdc2 (v := 99) iX3_areSettings_3 ((wc_t4 175 rfl rfl)) (by decide) <| okC3 (qU_X3_in iX3_areSettings_6) <| okZEq (tl rfl) iX3_areSettings_9 <| okIldn iX3_areSettings_12 rfl <| okI2l iX3_areSettings_13 <| okLc iX3_areSettings_14 rfl <| okLdc2 (v := 99) iX3_areSettings_15 ((wc_t4 175 rfl rfl)) (by decide) <| okC3 (qU_X3_in iX3_areSettings_18) <| okZEq (tl rfl) iX3_areSettings_21 <| okIldn iX3_areSettings_24 rfl <| okI2l iX3_areSettings_25 <| okLc iX3_areSettings_26 rfl <| okLdc2 (v := 9) iX3_areSettings_27 ((wc_t4 176 rfl rfl)) (by decide) <| okC3 (qU_X3_in iX3_areSettings_30) <| okZEq (tl rfl) iX3_areSettings_33 <| okIc iX3_areSettings_36 <| okGoto (tl rfl) iX3_areSettings_37)) (tNode (tLeaf (okIc iX3_areSettings_40 <| okTo (tl rfl))) (tLeaf (okZret iX3_areSettings_41 rfl)))) pc
-- X3_isKey: heads []
def tX3_isKey : Nat → Blk Unit := fun pc => bif Nat.beq pc 0 then (oIld 0 <| oI2l <| oJ 0 <| oJ 5 <| oC3 (cU_X3_in) <| oZret) else oNo
theorem tX3_isKey_ok : ∀ pc, bOk (encU) (bdU) mX3_isKey 0 0 pc (tX3_isKey pc) := fun pc => (tLeaf (okIldn iX3_isKey_0 rfl <| okI2l iX3_isKey_1 <| okLc iX3_isKey_2 rfl <| okLdc2 (v := 5) iX3_isKey_3 ((wc_t4 210 rfl rfl)) (by decide) <| okC3 (qU_X3_in iX3_isKey_6) <| okZret iX3_isKey_9 rfl)) pc
def sX3_areSettings : Int → Int → Int → Unit → KU → Prop := fun g l e s K => (xB g ∧ xB l ∧ xB e) ∧ (okSet g l e → K [pI 1] s) ∧ (¬ okSet g l e → K [pI 0] s)
theorem mX3_areSettings_ok : mOk encU bdU mX3_areSettings (a3 sX3_areSettings) := by
  refine mOSa3 kX3_areSettings (fun _ _ _ => rfl) (fun g l e s K h hb => wx_J [] 9 tX3_areSettings_ok rfl (fun J hR hJ => ?_))
  obtain ⟨h1, h2, h3⟩ := h
  repeat' (first | (refine And.intro ?_ ?_) | (intro hq; first | (exact absurd hq (by omega)) | skip))
  all_goals first | omega | exact hR _ _ (h2 (by omega)) | exact hR _ _ (h3 (by omega))
def sX3_isKey : Int → Unit → KU → Prop := fun k s K => xB k ∧ ((0 ≤ k ∧ k < 6) → K [pI 1] s) ∧ (¬ (0 ≤ k ∧ k < 6) → K [pI 0] s)
theorem mX3_isKey_ok : mOk encU bdU mX3_isKey (a1 sX3_isKey) := by
  refine mOSa1 kX3_isKey (fun _ => rfl) (fun k s K h hb => wx_J [] 9 tX3_isKey_ok rfl (fun J hR hJ => ?_))
  obtain ⟨h1, h2, h3⟩ := h
  repeat' (first | (refine And.intro ?_ ?_) | (intro hq; first | (exact absurd hq (by omega)) | skip))
  all_goals first | omega | exact hR _ _ (h2 (by omega)) | exact hR _ _ (h3 (by omega))
section MSD
variable {M : XI} {rc rs pc pc2 : Nat}
def cM_X3_areSettings : Sp MS := a3 (fun x y z s K => sX3_areSettings x y z () (fun v _ => K v s))
theorem qM_X3_areSettings (d : xl_Cs M pc mX3_areSettings pc2) : cOk encM bdM M rc rs pc pc2 3 cM_X3_areSettings := cUn mX3_areSettings_ok vX3_areSettings d rfl (fun as s K h1 => by
  obtain ⟨x, y, z, rfl, h2⟩ := a3_inv h1
  exact h2)
def cM_X3_isKey : Sp MS := a1 (fun x s K => sX3_isKey x () (fun v _ => K v s))
theorem qM_X3_isKey (d : xl_Cs M pc mX3_isKey pc2) : cOk encM bdM M rc rs pc pc2 1 cM_X3_isKey := cUn mX3_isKey_ok vX3_isKey d rfl (fun as s K h1 => by
  obtain ⟨x, rfl, h2⟩ := a1_inv h1
  exact h2)
end MSD
/-- a cell of the row of all -/
def mg (s : MS) (a : Int) : Int := s.2 3 a.toNat
def mP (s : MS) (a v : Int) : MS := mA s 3 (xup (s.2 3) a.toNat v)
abbrev mI (a : Int) : Prop := 0 ≤ a ∧ a < 30844
theorem mg_B {s : MS} {a : Int} (hb : bdM s) : xB (mg s a) := hb.2 3 _
def sX3_of : Int → Int → MS → KM → Prop := fun d a s K => mI (d * 2804 + a) ∧ (xB (mg s (d * 2804 + a)) → K [pI (mg s (d * 2804 + a))] s)
theorem mX3_of_ok : mOk encM bdM mX3_of (atR 0 (a2 sX3_of)) := by
  refine mOVa2 kX3_of (fun _ _ => rfl) (fun d a s K h hb => wx_J [] 9 tX3_of_ok rfl (fun J hR hJ => ?_))
  obtain ⟨h1, h2⟩ := h
  have hK := h2 (mg_B hb)
  repeat' (first | (refine And.intro ?_ ?_) | (intro hq; first | (exact absurd hq (by omega)) | skip))
  all_goals first | omega | exact hR _ _ hK
def cM_X3_of : Sp MS := atR 0 (a2 sX3_of)
theorem qM_X3_of {M : XI} {rc rs pc pc2 : Nat} (d : xl_Ca M pc mX3_of pc2) : cOk encM bdM M rc rs pc pc2 3 cM_X3_of := cSame mX3_of_ok vX3_of d mcl rfl lenM recM
def sX3_puts : Int → Int → Int → MS → KM → Prop := fun d a v s K => (mI (d * 2804 + a) ∧ xB v) ∧ K [] (mP s (d * 2804 + a) v)
theorem mX3_puts_ok : mOk encM bdM mX3_puts (atR 0 (a3 sX3_puts)) := by
  refine mOVa3 kX3_puts (fun _ _ _ => rfl) (fun d a v s K h hb => wx_J [] 9 tX3_puts_ok rfl (fun J hR hJ => ?_))
  obtain ⟨h1, hK⟩ := h
  repeat' (first | (refine And.intro ?_ ?_) | (intro hq; first | (exact absurd hq (by omega)) | skip))
  all_goals first | omega | exact hR _ _ hK
def cM_X3_puts : Sp MS := atR 0 (a3 sX3_puts)
theorem qM_X3_puts {M : XI} {rc rs pc pc2 : Nat} (d : xl_Ca M pc mX3_puts pc2) : cOk encM bdM M rc rs pc pc2 4 cM_X3_puts := cSame mX3_puts_ok vX3_puts d mcl rfl lenM recM
def sX3_adds : Int → Int → Int → MS → KM → Prop := fun d a v s K => mI (d * 2804 + a) ∧ K [] (mP s (d * 2804 + a) (wI (mg s (d * 2804 + a) + v)))
theorem mX3_adds_ok : mOk encM bdM mX3_adds (atR 0 (a3 sX3_adds)) := by
  refine mOVa3 kX3_adds (fun _ _ _ => rfl) (fun d a v s K h hb => wx_J [] 9 tX3_adds_ok rfl (fun J hR hJ => ?_))
  obtain ⟨h1, hK⟩ := h
  repeat' (first | (refine And.intro ?_ ?_) | (intro hq; first | (exact absurd hq (by omega)) | skip))
  all_goals first | omega | exact hR _ _ hK
def cM_X3_adds : Sp MS := atR 0 (a3 sX3_adds)
theorem qM_X3_adds {M : XI} {rc rs pc pc2 : Nat} (d : xl_Ca M pc mX3_adds pc2) : cOk encM bdM M rc rs pc pc2 4 cM_X3_adds := cSame mX3_adds_ok vX3_adds d mcl rfl lenM recM
def mEn (s : MS) (x : Int) : MS := mS (mA s 1 (xup (s.2 1) (s.1 1).toNat x)) 1 (s.1 1 + 1)
def sX3_enters : Int → MS → KM → Prop := fun x s K => (xB x ∧ 0 ≤ s.1 1 ∧ s.1 1 < 16) ∧ K [] (mEn s x)
theorem mX3_enters_ok : mOk encM bdM mX3_enters (atR 0 (j1 sX3_enters)) := by
  refine mOVj1 kX3_enters (fun _ => rfl) (fun x s K h hb => wx_J [] 9 tX3_enters_ok rfl (fun J hR hJ => ?_))
  obtain ⟨⟨h1, h2, h3⟩, hK⟩ := h
  have c0 : (-2147483648 : Int) ≤ s.1 1 + 1 ∧ s.1 1 + 1 ≤ 2147483647 := ⟨by omega, by omega⟩
  repeat' (first | (refine And.intro ?_ ?_) | (intro hq; first | (exact absurd hq (by omega)) | skip))
  all_goals first | omega | exact c0.1 | exact c0.2 | exact hR _ _ hK
def cM_X3_enters : Sp MS := atR 0 (j1 sX3_enters)
theorem qM_X3_enters {M : XI} {rc rs pc pc2 : Nat} (d : xl_Ca M pc mX3_enters pc2) : cOk encM bdM M rc rs pc pc2 2 cM_X3_enters := cSame mX3_enters_ok vX3_enters d mcl rfl lenM recM
def mReads (s : MS) : MS := mS (mS (mS s 6 (s.1 4)) 4 0) 5 0
def sX3_reads : MS → KM → Prop := fun s K => K [] (mReads s)
theorem mX3_reads_ok : mOk encM bdM mX3_reads (atR 0 (a0 sX3_reads)) := by
  refine mOVa0 kX3_reads (fun _ => rfl) (fun s K h hb => wx_J [] 9 tX3_reads_ok rfl (fun J hR hJ => ?_))
  repeat' (first | (refine And.intro ?_ ?_) | (intro hq; first | (exact absurd hq (by omega)) | skip))
  all_goals first | omega | exact hR _ _ h
def cM_X3_reads : Sp MS := atR 0 (a0 sX3_reads)
theorem qM_X3_reads {M : XI} {rc rs pc pc2 : Nat} (d : xl_Ca M pc mX3_reads pc2) : cOk encM bdM M rc rs pc pc2 1 cM_X3_reads := cSame mX3_reads_ok vX3_reads d mcl rfl lenM recM
-- X3_isSource: heads []
def tX3_isSource : Nat → Blk MS := fun pc => bif Nat.beq pc 0 then (oIld 1 <| oI2l <| oJ 0 <| oAld 0 <| oI 0 <| oI 0 <| oC3 (cM_X3_of) <| oI 1 <| oSub <| oI2l <| oC3 (cM_X3_in) <| oZret) else oNo
theorem tX3_isSource_ok : ∀ pc, bOk (encM) (bdM) mX3_isSource 0 0 pc (tX3_isSource pc) := fun pc => (tLeaf (okIldn iX3_isSource_0 rfl <| okI2l iX3_isSource_1 <| okLc iX3_isSource_2 rfl <| okAldn iX3_isSource_3 rfl <| okIc iX3_isSource_4 <| okIc iX3_isSource_5 <| okC3 (qM_X3_of iX3_isSource_6) <| okIc iX3_isSource_9 <| okSub iX3_isSource_10 <| okI2l iX3_isSource_11 <| okC3 (qM_X3_in iX3_isSource_12) <| okZret iX3_isSource_15 rfl)) pc
-- X3_ofSession: heads []
def tX3_ofSession : Nat → Blk MS := fun pc => bif Nat.beq pc 0 then (oAld 0 <| oGet (fgM) 3 7 <| oIld 1 <| oIld 2 <| oC2 (cM_X3_place) <| oIld 3 <| oAdd <| oIa (agM) <| oIret) else oNo
theorem tX3_ofSession_ok : ∀ pc, bOk (encM) (bdM) mX3_ofSession 0 0 pc (tX3_ofSession pc) := fun pc => (tLeaf (okAldn iX3_ofSession_0 rfl <| okGet (vFgM) iX3_ofSession_1 <| okIldn iX3_ofSession_4 rfl <| okIldn iX3_ofSession_5 rfl <| okC2 (qM_X3_place iX3_ofSession_6) <| okIldn iX3_ofSession_9 rfl <| okAdd iX3_ofSession_10 <| okIa (vAgM) iX3_ofSession_11 <| okIret iX3_ofSession_12 rfl)) pc
-- X3_copies: heads [2]
def tX3_copies : Nat → Blk MS := fun pc => bif Nat.blt pc 2 then (bif Nat.beq pc 0 then (oI 0 <| oIst 3 <| oM [true, true, true, true] (oTo 2)) else oNo) else (bif Nat.blt pc 39 then (bif Nat.beq pc 2 then (oIld 3 <| oI 2804 <| oCGe 39 <| oAld 0 <| oGet (fgM) 3 7 <| oIld 2 <| oI 2804 <| oMul <| oIld 3 <| oAdd <| oAld 0 <| oGet (fgM) 3 7 <| oIld 1 <| oI 2804 <| oMul <| oIld 3 <| oAdd <| oIa (agM) <| oIas (agM) (apM) <| oInc 3 1 <| oM [true, true, true, true] (oTo 2)) else oNo) else (bif Nat.beq pc 39 then (oVret) else oNo))
theorem tX3_copies_ok : ∀ pc, bOk (encM) (bdM) mX3_copies 0 0 pc (tX3_copies pc) := fun pc => (tNode (tLeaf (okIc iX3_copies_0 <| okIstn iX3_copies_1 rfl (by decide) <| okM (okTo (tl rfl)))) (tNode (tLeaf (okIldn iX3_copies_2 rfl <| okSi iX3_copies_3 (by decide) <| okCGe (tl rfl) iX3_copies_6 <| okAldn iX3_copies_9 rfl <| okGet (vFgM) iX3_copies_10 <| okIldn iX3_copies_13 rfl <| okSi iX3_copies_14 (by decide) <| okMul iX3_copies_17 <| okIldn iX3_copies_18 rfl <| okAdd iX3_copies_19 <| okAldn iX3_copies_20 rfl <| okGet (vFgM) iX3_copies_21 <| okIldn iX3_copies_24 rfl <| okSi iX3_copies_25 (by decide) <| okMul iX3_copies_28 <| okIldn iX3_copies_29 rfl <| okAdd iX3_copies_30 <| okIa (vAgM) iX3_copies_31 <| okIas (vAgM) iX3_copies_32 <| okInc iX3_copies_33 (by decide) <| okGotoM (tl rfl) iX3_copies_36)) (tLeaf (okVret iX3_copies_39 rfl)))) pc
-- X3_ofInput: heads []
def tX3_ofInput : Nat → Blk MS := fun pc => bif Nat.beq pc 0 then (oAld 0 <| oGet (fgM) 3 7 <| oI 1844 <| oI 6 <| oIld 1 <| oMul <| oAdd <| oIld 2 <| oAdd <| oIa (agM) <| oIret) else oNo
theorem tX3_ofInput_ok : ∀ pc, bOk (encM) (bdM) mX3_ofInput 0 0 pc (tX3_ofInput pc) := fun pc => (tLeaf (okAldn iX3_ofInput_0 rfl <| okGet (vFgM) iX3_ofInput_1 <| okSi iX3_ofInput_4 (by decide) <| okBi iX3_ofInput_7 (by decide) <| okIldn iX3_ofInput_9 rfl <| okMul iX3_ofInput_10 <| okAdd iX3_ofInput_11 <| okIldn iX3_ofInput_12 rfl <| okAdd iX3_ofInput_13 <| okIa (vAgM) iX3_ofInput_14 <| okIret iX3_ofInput_15 rfl)) pc
def sX3_ofSession : Int → Int → Int → MS → KM → Prop := fun d i c s K => mI ((d * 2804 + 364 + 7 * i) + c) ∧ (xB (mg s ((d * 2804 + 364 + 7 * i) + c)) → K [pI (mg s ((d * 2804 + 364 + 7 * i) + c))] s)
theorem mX3_ofSession_ok : mOk encM bdM mX3_ofSession (atR 0 (a3 sX3_ofSession)) := by
  refine mOVa3 kX3_ofSession (fun _ _ _ => rfl) (fun d i c s K h hb => wx_J [] 9 tX3_ofSession_ok rfl (fun J hR hJ => ?_))
  obtain ⟨h1, h2⟩ := h
  have hK := h2 (mg_B hb)
  repeat' (first | (refine And.intro ?_ ?_) | (intro hq; first | (exact absurd hq (by omega)) | skip))
  all_goals first | omega | exact hR _ _ hK
def cM_X3_ofSession : Sp MS := atR 0 (a3 sX3_ofSession)
theorem qM_X3_ofSession {M : XI} {rc rs pc pc2 : Nat} (d : xl_Ca M pc mX3_ofSession pc2) : cOk encM bdM M rc rs pc pc2 4 cM_X3_ofSession := cSame mX3_ofSession_ok vX3_ofSession d mcl rfl lenM recM
def sX3_ofInput : Int → Int → MS → KM → Prop := fun i c s K => mI (1844 + 6 * i + c) ∧ (xB (mg s (1844 + 6 * i + c)) → K [pI (mg s (1844 + 6 * i + c))] s)
theorem mX3_ofInput_ok : mOk encM bdM mX3_ofInput (atR 0 (a2 sX3_ofInput)) := by
  refine mOVa2 kX3_ofInput (fun _ _ => rfl) (fun i c s K h hb => wx_J [] 9 tX3_ofInput_ok rfl (fun J hR hJ => ?_))
  obtain ⟨h1, h2⟩ := h
  have hK := h2 (mg_B hb)
  repeat' (first | (refine And.intro ?_ ?_) | (intro hq; first | (exact absurd hq (by omega)) | skip))
  all_goals first | omega | exact hR _ _ hK
def cM_X3_ofInput : Sp MS := atR 0 (a2 sX3_ofInput)
theorem qM_X3_ofInput {M : XI} {rc rs pc pc2 : Nat} (d : xl_Ca M pc mX3_ofInput pc2) : cOk encM bdM M rc rs pc pc2 3 cM_X3_ofInput := cSame mX3_ofInput_ok vX3_ofInput d mcl rfl lenM recM
abbrev mSrc (s : MS) (r : Int) : Prop := 0 ≤ r ∧ r < mg s 0
def sX3_isSource : Int → MS → KM → Prop := fun r s K => (xB r ∧ 0 ≤ mg s 0) ∧ (mSrc s r → K [pI 1] s) ∧ (¬ mSrc s r → K [pI 0] s)
theorem mX3_isSource_ok : mOk encM bdM mX3_isSource (atR 0 (a1 sX3_isSource)) := by
  refine mOVa1 kX3_isSource (fun _ => rfl) (fun r s K h hb => wx_J [] 9 tX3_isSource_ok rfl (fun J hR hJ => ?_))
  obtain ⟨⟨h1, h0⟩, h2, h3⟩ := h
  refine ⟨h1, ⟨⟨by omega, by omega⟩, fun (hm : xB (mg s 0)) => ?_⟩⟩
  refine ⟨⟨?_, ?_⟩, ⟨h1, ⟨by omega, by omega⟩, ⟨?_, ?_⟩⟩, fun c => ?_, fun c => ?_⟩
  · show -2147483648 ≤ mg s 0 - 1
    omega
  · show mg s 0 - 1 ≤ 2147483647
    omega
  · show -2147483648 ≤ mg s 0 - 1
    omega
  · show mg s 0 - 1 ≤ 2147483647
    omega
  · have c : 0 ≤ r ∧ r ≤ mg s 0 - 1 := c
    exact ⟨Or.inr rfl, hR _ _ (h2 ⟨c.1, by omega⟩)⟩
  · have c : ¬ (0 ≤ r ∧ r ≤ mg s 0 - 1) := c
    exact ⟨Or.inl rfl, hR _ _ (h3 (fun q => by omega))⟩
def cM_X3_isSource : Sp MS := atR 0 (a1 sX3_isSource)
theorem qM_X3_isSource {M : XI} {rc rs pc pc2 : Nat} (d : xl_Ca M pc mX3_isSource pc2) : cOk encM bdM M rc rs pc pc2 2 cM_X3_isSource := cSame mX3_isSource_ok vX3_isSource d mcl rfl lenM recM
theorem mA_mA (s : MS) (a : Nat) (F G : Nat → Int) : mA (mA s a F) a G = mA s a G := by
  refine Prod.ext rfl (funext fun j => ?_)
  show (bif Nat.beq j a then G else (bif Nat.beq j a then F else s.2 j)) = (bif Nat.beq j a then G else s.2 j)
  cases Nat.beq j a <;> rfl
theorem mA_self (s : MS) (a : Nat) : mA s a (s.2 a) = s := by
  refine Prod.ext rfl (funext fun j => ?_)
  show (bif Nat.beq j a then s.2 a else s.2 j) = s.2 j
  cases e : Nat.beq j a with
  | false => rfl
  | true => rw [nB e]; rfl
/-- a desk's cells onto another desk -/
def mCopy (s : MS) (f t : Int) : MS := mA s 3 (fun j => if (t * 2804).toNat ≤ j ∧ j < (t * 2804).toNat + 2804 then s.2 3 (j - (t * 2804).toNat + (f * 2804).toNat) else s.2 3 j)
theorem X3_copies_loop {K : KM} {Pt : MS → Prop} (s : MS) (f t : Int) (hf : 0 ≤ f ∧ f ≤ 10) (ht : 0 ≤ t ∧ t ≤ 10) (hK : K [] (mCopy s f t)) : ∀ (m : Nat) (k : Nat), k ≤ 2804 → m = 2804 - k → wX encM bdM mX3_copies 0 0 K Pt 2 [some (pR 0), some (pI f), some (pI t), some (pI k)] [] (mA s 3 (fun j => if (t * 2804).toNat ≤ j ∧ j < (t * 2804).toNat + k then s.2 3 (j - (t * 2804).toNat + (f * 2804).toNat) else s.2 3 j)) := by
  intro m
  induction m with
  | zero =>
    intro k h1 hm
    have : k = 2804 := by omega
    subst this
    refine wx_J [2] 9 tX3_copies_ok rfl (fun J hR hJ => ?_)
    repeat' (first | (refine And.intro ?_ ?_) | (intro hq; first | (exact absurd hq (by omega)) | skip))
    all_goals first | omega | exact hR _ _ hK
  | succ m ih =>
    intro k h1 hm
    refine wx_J [2] 9 tX3_copies_ok rfl (fun J hR hJ => ?_)
    have g := ih (k + 1) (by omega) (by omega)
    have e0 : ((f * 2804 + (k : Int))).toNat = (f * 2804).toNat + k := by omega
    have e1 : ((t * 2804 + (k : Int))).toNat = (t * 2804).toNat + k := by omega
    have hval : (fun j => if (t * 2804).toNat ≤ j ∧ j < (t * 2804).toNat + k then s.2 3 (j - (t * 2804).toNat + (f * 2804).toNat) else s.2 3 j) ((f * 2804).toNat + k) = s.2 3 ((f * 2804).toNat + k) := by
      dsimp only
      by_cases q : (t * 2804).toNat ≤ (f * 2804).toNat + k ∧ (f * 2804).toNat + k < (t * 2804).toNat + k
      · rcases Int.lt_trichotomy f t with c | c | c
        · omega
        · omega
        · omega
      · rw [if_neg q]
    have e : (fun j => if (t * 2804).toNat ≤ j ∧ j < (t * 2804).toNat + (k + 1) then s.2 3 (j - (t * 2804).toNat + (f * 2804).toNat) else s.2 3 j) = xup (fun j => if (t * 2804).toNat ≤ j ∧ j < (t * 2804).toNat + k then s.2 3 (j - (t * 2804).toNat + (f * 2804).toNat) else s.2 3 j) ((t * 2804 + (k : Int))).toNat ((fun j => if (t * 2804).toNat ≤ j ∧ j < (t * 2804).toNat + k then s.2 3 (j - (t * 2804).toNat + (f * 2804).toNat) else s.2 3 j) ((f * 2804 + (k : Int))).toNat) := by
      rw [e0, hval, e1]
      funext j
      unfold xup
      by_cases q : j = (t * 2804).toNat + k
      · rw [if_pos q, if_pos (by omega), show j - (t * 2804).toNat + (f * 2804).toNat = (f * 2804).toNat + k by omega]
      · rw [if_neg q]
        dsimp only
        by_cases q2 : (t * 2804).toNat ≤ j ∧ j < (t * 2804).toNat + k
        · rw [if_pos q2, if_pos (by omega)]
        · rw [if_neg q2, if_neg (by omega)]
    rw [e, show ((k + 1 : Nat) : Int) = (k : Int) + 1 by omega, ← mA_mA s 3 (fun j => if (t * 2804).toNat ≤ j ∧ j < (t * 2804).toNat + k then s.2 3 (j - (t * 2804).toNat + (f * 2804).toNat) else s.2 3 j)] at g
    repeat' (first | (refine And.intro ?_ ?_) | (intro hq; first | (exact absurd hq (by omega)) | skip))
    all_goals first | omega | exact hJ _ _ _ _ g
def sX3_copies : Int → Int → MS → KM → Prop := fun f t s K => ((0 ≤ f ∧ f ≤ 10) ∧ 0 ≤ t ∧ t ≤ 10) ∧ K [] (mCopy s f t)
theorem mX3_copies_ok : mOk encM bdM mX3_copies (atR 0 (a2 sX3_copies)) := by
  refine mOVa2 kX3_copies (fun _ _ => rfl) (fun f t s K h hb => wx_J [2] 9 tX3_copies_ok rfl (fun J hR hJ => ?_))
  obtain ⟨⟨h1, h2⟩, hK⟩ := h
  have g := X3_copies_loop (K := K) (Pt := fun _ => False) s f t h1 h2 hK 2804 0 (by omega) (by omega)
  have e : (fun j => if (t * 2804).toNat ≤ j ∧ j < (t * 2804).toNat + 0 then s.2 3 (j - (t * 2804).toNat + (f * 2804).toNat) else s.2 3 j) = s.2 3 := by
    funext j
    rw [if_neg (by omega)]
  rw [e, mA_self] at g
  exact hJ _ _ _ _ g
def cM_X3_copies : Sp MS := atR 0 (a2 sX3_copies)
theorem qM_X3_copies {M : XI} {rc rs pc pc2 : Nat} (d : xl_Ca M pc mX3_copies pc2) : cOk encM bdM M rc rs pc pc2 3 cM_X3_copies := cSame mX3_copies_ok vX3_copies d mcl rfl lenM recM
end
-- 53.Ms
section
/-! ===== the model: sessions on a desk ===== -/
abbrev dOk (d : Int) : Prop := 0 ≤ d ∧ d ≤ 10
-- X3_isRipeBy: heads []
def tX3_isRipeBy : Nat → Blk MS := fun pc => bif Nat.blt pc 22 then (bif Nat.beq pc 0 then (oAld 0 <| oIld 1 <| oIld 2 <| oI 2 <| oC4 (cM_X3_ofSession) <| oAld 0 <| oIld 1 <| oI 1 <| oC3 (cM_X3_of) <| oAddW <| oIld 3 <| oCGe 22 <| oI 1 <| oTo 23) else oNo) else (bif Nat.blt pc 23 then (bif Nat.beq pc 22 then (oI 0 <| oTo 23) else oNo) else (bif Nat.beq pc 23 then (oZret) else oNo))
theorem tX3_isRipeBy_ok : ∀ pc, bOk (encM) (bdM) mX3_isRipeBy 0 0 pc (tX3_isRipeBy pc) := fun pc => (tNode (tLeaf (okAldn iX3_isRipeBy_0 rfl <| okIldn iX3_isRipeBy_1 rfl <| okIldn iX3_isRipeBy_2 rfl <| okIc iX3_isRipeBy_3 <| okC4 (qM_X3_ofSession iX3_isRipeBy_4) <| okAldn iX3_isRipeBy_7 rfl <| okIldn iX3_isRipeBy_8 rfl <| okIc iX3_isRipeBy_9 <| okC3 (qM_X3_of iX3_isRipeBy_10) <| okAddW iX3_isRipeBy_13 <| okIldn iX3_isRipeBy_14 rfl <| okCGe (tl rfl) iX3_isRipeBy_15 <| okIc iX3_isRipeBy_18 <| okGoto (tl rfl) iX3_isRipeBy_19)) (tNode (tLeaf (okIc iX3_isRipeBy_22 <| okTo (tl rfl))) (tLeaf (okZret iX3_isRipeBy_23 rfl)))) pc
-- X3_isClosedBy: heads []
def tX3_isClosedBy : Nat → Blk MS := fun pc => bif Nat.blt pc 29 then (bif Nat.beq pc 0 then (oAld 0 <| oIld 1 <| oIld 2 <| oI 2 <| oC4 (cM_X3_ofSession) <| oAld 0 <| oIld 1 <| oI 1 <| oC3 (cM_X3_of) <| oAddW <| oAld 0 <| oIld 1 <| oI 2 <| oC3 (cM_X3_of) <| oAddW <| oIld 3 <| oCGe 29 <| oI 1 <| oTo 30) else oNo) else (bif Nat.blt pc 30 then (bif Nat.beq pc 29 then (oI 0 <| oTo 30) else oNo) else (bif Nat.beq pc 30 then (oZret) else oNo))
theorem tX3_isClosedBy_ok : ∀ pc, bOk (encM) (bdM) mX3_isClosedBy 0 0 pc (tX3_isClosedBy pc) := fun pc => (tNode (tLeaf (okAldn iX3_isClosedBy_0 rfl <| okIldn iX3_isClosedBy_1 rfl <| okIldn iX3_isClosedBy_2 rfl <| okIc iX3_isClosedBy_3 <| okC4 (qM_X3_ofSession iX3_isClosedBy_4) <| okAldn iX3_isClosedBy_7 rfl <| okIldn iX3_isClosedBy_8 rfl <| okIc iX3_isClosedBy_9 <| okC3 (qM_X3_of iX3_isClosedBy_10) <| okAddW iX3_isClosedBy_13 <| okAldn iX3_isClosedBy_14 rfl <| okIldn iX3_isClosedBy_15 rfl <| okIc iX3_isClosedBy_16 <| okC3 (qM_X3_of iX3_isClosedBy_17) <| okAddW iX3_isClosedBy_20 <| okIldn iX3_isClosedBy_21 rfl <| okCGe (tl rfl) iX3_isClosedBy_22 <| okIc iX3_isClosedBy_25 <| okGoto (tl rfl) iX3_isClosedBy_26)) (tNode (tLeaf (okIc iX3_isClosedBy_29 <| okTo (tl rfl))) (tLeaf (okZret iX3_isClosedBy_30 rfl)))) pc
-- X3_melts: heads []
def tX3_melts : Nat → Blk MS := fun pc => bif Nat.blt pc 53 then (bif Nat.beq pc 0 then (oAld 0 <| oIld 1 <| oIld 2 <| oI 0 <| oC4 (cM_X3_ofSession) <| oIld 3 <| oCNe 53 <| oAld 0 <| oIld 1 <| oIld 2 <| oI 1 <| oC4 (cM_X3_ofSession) <| oAld 0 <| oIld 1 <| oI 1 <| oC3 (cM_X3_of) <| oSubW <| oIld 4 <| oCGt 53 <| oAld 0 <| oIld 1 <| oIld 2 <| oI 2 <| oC4 (cM_X3_ofSession) <| oAld 0 <| oIld 1 <| oI 1 <| oC3 (cM_X3_of) <| oAddW <| oIld 4 <| oCLt 53 <| oI 1 <| oTo 54) else oNo) else (bif Nat.blt pc 54 then (bif Nat.beq pc 53 then (oI 0 <| oTo 54) else oNo) else (bif Nat.beq pc 54 then (oZret) else oNo))
theorem tX3_melts_ok : ∀ pc, bOk (encM) (bdM) mX3_melts 0 0 pc (tX3_melts pc) := fun pc => (tNode (tLeaf (okAldn iX3_melts_0 rfl <| okIldn iX3_melts_1 rfl <| okIldn iX3_melts_2 rfl <| okIc iX3_melts_3 <| okC4 (qM_X3_ofSession iX3_melts_4) <| okIldn iX3_melts_7 rfl <| okCNe (tl rfl) iX3_melts_8 <| okAldn iX3_melts_11 rfl <| okIldn iX3_melts_12 rfl <| okIldn iX3_melts_13 rfl <| okIc iX3_melts_14 <| okC4 (qM_X3_ofSession iX3_melts_15) <| okAldn iX3_melts_18 rfl <| okIldn iX3_melts_19 rfl <| okIc iX3_melts_20 <| okC3 (qM_X3_of iX3_melts_21) <| okSubW iX3_melts_24 <| okIld iX3_melts_25 <| okCGt (tl rfl) iX3_melts_27 <| okAldn iX3_melts_30 rfl <| okIldn iX3_melts_31 rfl <| okIldn iX3_melts_32 rfl <| okIc iX3_melts_33 <| okC4 (qM_X3_ofSession iX3_melts_34) <| okAldn iX3_melts_37 rfl <| okIldn iX3_melts_38 rfl <| okIc iX3_melts_39 <| okC3 (qM_X3_of iX3_melts_40) <| okAddW iX3_melts_43 <| okIld iX3_melts_44 <| okCLt (tl rfl) iX3_melts_46 <| okIc iX3_melts_49 <| okGoto (tl rfl) iX3_melts_50)) (tNode (tLeaf (okIc iX3_melts_53 <| okTo (tl rfl))) (tLeaf (okZret iX3_melts_54 rfl)))) pc
-- X3_isDone: heads []
def tX3_isDone : Nat → Blk MS := fun pc => bif Nat.blt pc 42 then (bif Nat.blt pc 38 then (bif Nat.beq pc 0 then (oAld 0 <| oIld 1 <| oIld 2 <| oI 2 <| oC4 (cM_X3_ofSession) <| oIst 3 <| oIld 3 <| oAld 0 <| oGet (fgM) 3 10 <| oCLt 38 <| oIld 3 <| oAld 0 <| oGet (fgM) 3 10 <| oCNe 42 <| oAld 0 <| oIld 1 <| oIld 2 <| oI 0 <| oC4 (cM_X3_ofSession) <| oAld 0 <| oGet (fgM) 3 11 <| oCGt 42 <| oTo 38) else oNo) else (bif Nat.beq pc 38 then (oI 1 <| oTo 43) else oNo)) else (bif Nat.blt pc 43 then (bif Nat.beq pc 42 then (oI 0 <| oTo 43) else oNo) else (bif Nat.beq pc 43 then (oZret) else oNo))
theorem tX3_isDone_ok : ∀ pc, bOk (encM) (bdM) mX3_isDone 0 0 pc (tX3_isDone pc) := fun pc => (tNode (tNode (tLeaf (okAldn iX3_isDone_0 rfl <| okIldn iX3_isDone_1 rfl <| okIldn iX3_isDone_2 rfl <| okIc iX3_isDone_3 <| okC4 (qM_X3_ofSession iX3_isDone_4) <| okIstn iX3_isDone_7 rfl (by decide) <| okIldn iX3_isDone_8 rfl <| okAldn iX3_isDone_9 rfl <| okGet (vFgM) iX3_isDone_10 <| okCLt (tl rfl) iX3_isDone_13 <| okIldn iX3_isDone_16 rfl <| okAldn iX3_isDone_17 rfl <| okGet (vFgM) iX3_isDone_18 <| okCNe (tl rfl) iX3_isDone_21 <| okAldn iX3_isDone_24 rfl <| okIldn iX3_isDone_25 rfl <| okIldn iX3_isDone_26 rfl <| okIc iX3_isDone_27 <| okC4 (qM_X3_ofSession iX3_isDone_28) <| okAldn iX3_isDone_31 rfl <| okGet (vFgM) iX3_isDone_32 <| okCGt (tl rfl) iX3_isDone_35 <| okTo (tl rfl))) (tLeaf (okIc iX3_isDone_38 <| okGoto (tl rfl) iX3_isDone_39))) (tNode (tLeaf (okIc iX3_isDone_42 <| okTo (tl rfl))) (tLeaf (okZret iX3_isDone_43 rfl)))) pc
-- X3_isBehind: heads []
def tX3_isBehind : Nat → Blk MS := fun pc => bif Nat.blt pc 48 then (bif Nat.blt pc 44 then (bif Nat.beq pc 0 then (oAld 0 <| oIld 1 <| oIld 2 <| oI 0 <| oC4 (cM_X3_ofSession) <| oIst 3 <| oIld 3 <| oAld 0 <| oGet (fgM) 3 9 <| oI 0 <| oIa (agM) <| oCGt 44 <| oIld 3 <| oAld 0 <| oGet (fgM) 3 9 <| oI 0 <| oIa (agM) <| oCNe 48 <| oAld 0 <| oIld 1 <| oIld 2 <| oI 1 <| oC4 (cM_X3_ofSession) <| oAld 0 <| oGet (fgM) 3 9 <| oI 1 <| oIa (agM) <| oCLe 48 <| oTo 44) else oNo) else (bif Nat.beq pc 44 then (oI 1 <| oTo 49) else oNo)) else (bif Nat.blt pc 49 then (bif Nat.beq pc 48 then (oI 0 <| oTo 49) else oNo) else (bif Nat.beq pc 49 then (oZret) else oNo))
theorem tX3_isBehind_ok : ∀ pc, bOk (encM) (bdM) mX3_isBehind 0 0 pc (tX3_isBehind pc) := fun pc => (tNode (tNode (tLeaf (okAldn iX3_isBehind_0 rfl <| okIldn iX3_isBehind_1 rfl <| okIldn iX3_isBehind_2 rfl <| okIc iX3_isBehind_3 <| okC4 (qM_X3_ofSession iX3_isBehind_4) <| okIstn iX3_isBehind_7 rfl (by decide) <| okIldn iX3_isBehind_8 rfl <| okAldn iX3_isBehind_9 rfl <| okGet (vFgM) iX3_isBehind_10 <| okIc iX3_isBehind_13 <| okIa (vAgM) iX3_isBehind_14 <| okCGt (tl rfl) iX3_isBehind_15 <| okIldn iX3_isBehind_18 rfl <| okAldn iX3_isBehind_19 rfl <| okGet (vFgM) iX3_isBehind_20 <| okIc iX3_isBehind_23 <| okIa (vAgM) iX3_isBehind_24 <| okCNe (tl rfl) iX3_isBehind_25 <| okAldn iX3_isBehind_28 rfl <| okIldn iX3_isBehind_29 rfl <| okIldn iX3_isBehind_30 rfl <| okIc iX3_isBehind_31 <| okC4 (qM_X3_ofSession iX3_isBehind_32) <| okAldn iX3_isBehind_35 rfl <| okGet (vFgM) iX3_isBehind_36 <| okIc iX3_isBehind_39 <| okIa (vAgM) iX3_isBehind_40 <| okCLe (tl rfl) iX3_isBehind_41 <| okTo (tl rfl))) (tLeaf (okIc iX3_isBehind_44 <| okGoto (tl rfl) iX3_isBehind_45))) (tNode (tLeaf (okIc iX3_isBehind_48 <| okTo (tl rfl))) (tLeaf (okZret iX3_isBehind_49 rfl)))) pc
-- X3_leastMark: heads [4]
def tX3_leastMark : Nat → Blk MS := fun pc => bif Nat.blt pc 43 then (bif Nat.blt pc 4 then (bif Nat.beq pc 0 then (oI (-1) <| oIst 2 <| oI 0 <| oIst 3 <| oM [true, true, true, true] (oTo 4)) else oNo) else (bif Nat.beq pc 4 then (oIld 3 <| oAld 0 <| oIld 1 <| oI 0 <| oC3 (cM_X3_of) <| oCGe 59 <| oAld 0 <| oIld 1 <| oI 20 <| oIld 3 <| oAdd <| oC3 (cM_X3_of) <| oZNe 53 <| oIld 2 <| oZLt 43 <| oAld 0 <| oIld 1 <| oI 12 <| oIld 3 <| oAdd <| oC3 (cM_X3_of) <| oIld 2 <| oCGe 53 <| oTo 43) else oNo)) else (bif Nat.blt pc 53 then (bif Nat.beq pc 43 then (oAld 0 <| oIld 1 <| oI 12 <| oIld 3 <| oAdd <| oC3 (cM_X3_of) <| oIst 2 <| oTo 53) else oNo) else (bif Nat.blt pc 59 then (bif Nat.beq pc 53 then (oInc 3 1 <| oM [true, true, true, true] (oTo 4)) else oNo) else (bif Nat.beq pc 59 then (oIld 2 <| oIret) else oNo)))
theorem tX3_leastMark_ok : ∀ pc, bOk (encM) (bdM) mX3_leastMark 0 0 pc (tX3_leastMark pc) := fun pc => (tNode (tNode (tLeaf (okIc iX3_leastMark_0 <| okIstn iX3_leastMark_1 rfl (by decide) <| okIc iX3_leastMark_2 <| okIstn iX3_leastMark_3 rfl (by decide) <| okM (okTo (tl rfl)))) (tLeaf (okIldn iX3_leastMark_4 rfl <| okAldn iX3_leastMark_5 rfl <| okIldn iX3_leastMark_6 rfl <| okIc iX3_leastMark_7 <| okC3 (qM_X3_of iX3_leastMark_8) <| okCGe (tl rfl) iX3_leastMark_11 <| okAldn iX3_leastMark_14 rfl <| okIldn iX3_leastMark_15 rfl <| okBi iX3_leastMark_16 (by decide) <| okIldn iX3_leastMark_18 rfl <| okAdd iX3_leastMark_19 <| okC3 (qM_X3_of iX3_leastMark_20) <| okZNe (tl rfl) iX3_leastMark_23 <| okIldn iX3_leastMark_26 rfl <| okZLt (tl rfl) iX3_leastMark_27 <| okAldn iX3_leastMark_30 rfl <| okIldn iX3_leastMark_31 rfl <| okBi iX3_leastMark_32 (by decide) <| okIldn iX3_leastMark_34 rfl <| okAdd iX3_leastMark_35 <| okC3 (qM_X3_of iX3_leastMark_36) <| okIldn iX3_leastMark_39 rfl <| okCGe (tl rfl) iX3_leastMark_40 <| okTo (tl rfl)))) (tNode (tLeaf (okAldn iX3_leastMark_43 rfl <| okIldn iX3_leastMark_44 rfl <| okBi iX3_leastMark_45 (by decide) <| okIldn iX3_leastMark_47 rfl <| okAdd iX3_leastMark_48 <| okC3 (qM_X3_of iX3_leastMark_49) <| okIstn iX3_leastMark_52 rfl (by decide) <| okTo (tl rfl))) (tNode (tLeaf (okInc iX3_leastMark_53 (by decide) <| okGotoM (tl rfl) iX3_leastMark_56)) (tLeaf (okIldn iX3_leastMark_59 rfl <| okIret iX3_leastMark_60 rfl))))) pc
-- X3_sends: heads [40]
def tX3_sends : Nat → Blk MS := fun pc => bif Nat.blt pc 72 then (bif Nat.blt pc 40 then (bif Nat.beq pc 0 then (oAld 0 <| oIld 1 <| oI 7 <| oC3 (cM_X3_of) <| oIst 4 <| oIld 1 <| oI 2804 <| oMul <| oI 1484 <| oAdd <| oI 6 <| oIld 4 <| oI 60 <| oRemT <| oMul <| oAdd <| oIst 5 <| oAld 0 <| oGet (fgM) 3 7 <| oIld 5 <| oIld 2 <| oIas (agM) (apM) <| oI 0 <| oIst 6 <| oM [true, true, true, true, false, true, true] (oTo 40)) else oNo) else (bif Nat.beq pc 40 then (oIld 6 <| oI 5 <| oCGe 72 <| oAld 0 <| oGet (fgM) 3 7 <| oIld 5 <| oI 1 <| oAdd <| oIld 6 <| oAdd <| oAld 0 <| oIld 1 <| oIld 3 <| oIld 6 <| oC4 (cM_X3_ofSession) <| oIas (agM) (apM) <| oInc 6 1 <| oM [true, true, true, true, false, true, true] (oTo 40)) else oNo)) else (bif Nat.blt pc 131 then (bif Nat.beq pc 72 then (oAld 0 <| oIld 1 <| oI 7 <| oI 1 <| oC4 (cM_X3_adds) <| oAld 0 <| oIld 1 <| oI 32 <| oIld 2 <| oAdd <| oI 1 <| oC4 (cM_X3_adds) <| oAld 0 <| oIld 1 <| oI 60 <| oI 4 <| oAld 0 <| oIld 1 <| oIld 3 <| oI 0 <| oC4 (cM_X3_ofSession) <| oMul <| oAdd <| oIld 2 <| oAdd <| oI 1 <| oC4 (cM_X3_adds) <| oAld 0 <| oGet (fgM) 3 7 <| oIld 1 <| oIld 3 <| oC2 (cM_X3_place) <| oI 6 <| oAdd <| oIld 2 <| oI 3 <| oCNe 131 <| oI 0 <| oTo 134) else oNo) else (bif Nat.blt pc 134 then (bif Nat.beq pc 131 then (oI 1 <| oIld 2 <| oAdd <| oTo 134) else oNo) else (bif Nat.beq pc 134 then (oIas (agM) (apM) <| oVret) else oNo)))
theorem tX3_sends_ok : ∀ pc, bOk (encM) (bdM) mX3_sends 0 0 pc (tX3_sends pc) := fun pc => (tNode (tNode (tLeaf (okAldn iX3_sends_0 rfl <| okIldn iX3_sends_1 rfl <| okBi iX3_sends_2 (by decide) <| okC3 (qM_X3_of iX3_sends_4) <| okIst iX3_sends_7 (by decide) <| okIldn iX3_sends_9 rfl <| okSi iX3_sends_10 (by decide) <| okMul iX3_sends_13 <| okSi iX3_sends_14 (by decide) <| okAdd iX3_sends_17 <| okBi iX3_sends_18 (by decide) <| okIld iX3_sends_20 <| okBi iX3_sends_22 (by decide) <| okRemT iX3_sends_24 <| okMul iX3_sends_25 <| okAdd iX3_sends_26 <| okIst iX3_sends_27 (by decide) <| okAldn iX3_sends_29 rfl <| okGet (vFgM) iX3_sends_30 <| okIld iX3_sends_33 <| okIldn iX3_sends_35 rfl <| okIas (vAgM) iX3_sends_36 <| okIc iX3_sends_37 <| okIst iX3_sends_38 (by decide) <| okM (okTo (tl rfl)))) (tLeaf (okIld iX3_sends_40 <| okIc iX3_sends_42 <| okCGe (tl rfl) iX3_sends_43 <| okAldn iX3_sends_46 rfl <| okGet (vFgM) iX3_sends_47 <| okIld iX3_sends_50 <| okIc iX3_sends_52 <| okAdd iX3_sends_53 <| okIld iX3_sends_54 <| okAdd iX3_sends_56 <| okAldn iX3_sends_57 rfl <| okIldn iX3_sends_58 rfl <| okIldn iX3_sends_59 rfl <| okIld iX3_sends_60 <| okC4 (qM_X3_ofSession iX3_sends_62) <| okIas (vAgM) iX3_sends_65 <| okInc iX3_sends_66 (by decide) <| okGotoM (tl rfl) iX3_sends_69))) (tNode (tLeaf (okAldn iX3_sends_72 rfl <| okIldn iX3_sends_73 rfl <| okBi iX3_sends_74 (by decide) <| okIc iX3_sends_76 <| okC4 (qM_X3_adds iX3_sends_77) <| okAldn iX3_sends_80 rfl <| okIldn iX3_sends_81 rfl <| okBi iX3_sends_82 (by decide) <| okIldn iX3_sends_84 rfl <| okAdd iX3_sends_85 <| okIc iX3_sends_86 <| okC4 (qM_X3_adds iX3_sends_87) <| okAldn iX3_sends_90 rfl <| okIldn iX3_sends_91 rfl <| okBi iX3_sends_92 (by decide) <| okIc iX3_sends_94 <| okAldn iX3_sends_95 rfl <| okIldn iX3_sends_96 rfl <| okIldn iX3_sends_97 rfl <| okIc iX3_sends_98 <| okC4 (qM_X3_ofSession iX3_sends_99) <| okMul iX3_sends_102 <| okAdd iX3_sends_103 <| okIldn iX3_sends_104 rfl <| okAdd iX3_sends_105 <| okIc iX3_sends_106 <| okC4 (qM_X3_adds iX3_sends_107) <| okAldn iX3_sends_110 rfl <| okGet (vFgM) iX3_sends_111 <| okIldn iX3_sends_114 rfl <| okIldn iX3_sends_115 rfl <| okC2 (qM_X3_place iX3_sends_116) <| okBi iX3_sends_119 (by decide) <| okAdd iX3_sends_121 <| okIldn iX3_sends_122 rfl <| okIc iX3_sends_123 <| okCNe (tl rfl) iX3_sends_124 <| okIc iX3_sends_127 <| okGoto (tl rfl) iX3_sends_128)) (tNode (tLeaf (okIc iX3_sends_131 <| okIldn iX3_sends_132 rfl <| okAdd iX3_sends_133 <| okTo (tl rfl))) (tLeaf (okIas (vAgM) iX3_sends_134 <| okVret iX3_sends_135 rfl))))) pc
abbrev mRipe (s : MS) (d i p : Int) : Prop := wI (mg s ((d * 2804 + 364 + 7 * i) + 2) + mg s (d * 2804 + 1)) < p
def sX3_isRipeBy : Int → Int → Int → MS → KM → Prop := fun d i p s K => (dOk d ∧ (0 ≤ i ∧ i ≤ 160) ∧ xB p) ∧ (mRipe s d i p → K [pI 1] s) ∧ (¬ mRipe s d i p → K [pI 0] s)
theorem mX3_isRipeBy_ok : mOk encM bdM mX3_isRipeBy (atR 0 (a3 sX3_isRipeBy)) := by
  refine mOVa3 kX3_isRipeBy (fun _ _ _ => rfl) (fun d i p s K h hb => wx_J [] 9 tX3_isRipeBy_ok rfl (fun J hR hJ => ?_))
  obtain ⟨h1, h2, h3⟩ := h
  repeat' (first | (refine And.intro ?_ ?_) | (intro hq; first | (exact absurd hq (by omega)) | skip))
  all_goals first | omega | exact hR _ _ (h2 (by omega)) | exact hR _ _ (h3 (by omega))
def cM_X3_isRipeBy : Sp MS := atR 0 (a3 sX3_isRipeBy)
theorem qM_X3_isRipeBy {M : XI} {rc rs pc pc2 : Nat} (d : xl_Ca M pc mX3_isRipeBy pc2) : cOk encM bdM M rc rs pc pc2 4 cM_X3_isRipeBy := cSame mX3_isRipeBy_ok vX3_isRipeBy d mcl rfl lenM recM
abbrev mOver (s : MS) (d i p : Int) : Prop := wI (wI (mg s ((d * 2804 + 364 + 7 * i) + 2) + mg s (d * 2804 + 1)) + mg s (d * 2804 + 2)) < p
def sX3_isClosedBy : Int → Int → Int → MS → KM → Prop := fun d i p s K => (dOk d ∧ (0 ≤ i ∧ i ≤ 160) ∧ xB p) ∧ (mOver s d i p → K [pI 1] s) ∧ (¬ mOver s d i p → K [pI 0] s)
theorem mX3_isClosedBy_ok : mOk encM bdM mX3_isClosedBy (atR 0 (a3 sX3_isClosedBy)) := by
  refine mOVa3 kX3_isClosedBy (fun _ _ _ => rfl) (fun d i p s K h hb => wx_J [] 9 tX3_isClosedBy_ok rfl (fun J hR hJ => ?_))
  obtain ⟨h1, h2, h3⟩ := h
  repeat' (first | (refine And.intro ?_ ?_) | (intro hq; first | (exact absurd hq (by omega)) | skip))
  all_goals first | omega | exact hR _ _ (h2 (by omega)) | exact hR _ _ (h3 (by omega))
def cM_X3_isClosedBy : Sp MS := atR 0 (a3 sX3_isClosedBy)
theorem qM_X3_isClosedBy {M : XI} {rc rs pc pc2 : Nat} (d : xl_Ca M pc mX3_isClosedBy pc2) : cOk encM bdM M rc rs pc pc2 4 cM_X3_isClosedBy := cSame mX3_isClosedBy_ok vX3_isClosedBy d mcl rfl lenM recM
abbrev mMelts (s : MS) (d i k t : Int) : Prop := mg s ((d * 2804 + 364 + 7 * i) + 0) = k ∧ wI (mg s ((d * 2804 + 364 + 7 * i) + 1) - mg s (d * 2804 + 1)) ≤ t ∧ t ≤ wI (mg s ((d * 2804 + 364 + 7 * i) + 2) + mg s (d * 2804 + 1))
def sX3_melts : Int → Int → Int → Int → MS → KM → Prop := fun d i k t s K => (dOk d ∧ (0 ≤ i ∧ i ≤ 160) ∧ xB k ∧ xB t) ∧ (mMelts s d i k t → K [pI 1] s) ∧ (¬ mMelts s d i k t → K [pI 0] s)
theorem mX3_melts_ok : mOk encM bdM mX3_melts (atR 0 (a4 sX3_melts)) := by
  refine mOVa4 kX3_melts (fun _ _ _ _ => rfl) (fun d i k t s K h hb => wx_J [] 9 tX3_melts_ok rfl (fun J hR hJ => ?_))
  obtain ⟨h1, h2, h3⟩ := h
  repeat' (first | (refine And.intro ?_ ?_) | (intro hq; first | (exact absurd hq (by omega)) | skip))
  all_goals first | omega | exact hR _ _ (h2 (by omega)) | exact hR _ _ (h3 (by omega))
def cM_X3_melts : Sp MS := atR 0 (a4 sX3_melts)
theorem qM_X3_melts {M : XI} {rc rs pc pc2 : Nat} (d : xl_Ca M pc mX3_melts pc2) : cOk encM bdM M rc rs pc pc2 5 cM_X3_melts := cSame mX3_melts_ok vX3_melts d mcl rfl lenM recM
abbrev mDone (s : MS) (d i : Int) : Prop := mg s ((d * 2804 + 364 + 7 * i) + 2) < s.1 10 ∨ (mg s ((d * 2804 + 364 + 7 * i) + 2) = s.1 10 ∧ mg s ((d * 2804 + 364 + 7 * i) + 0) ≤ s.1 11)
def sX3_isDone : Int → Int → MS → KM → Prop := fun d i s K => (dOk d ∧ (0 ≤ i ∧ i ≤ 160)) ∧ (mDone s d i → K [pI 1] s) ∧ (¬ mDone s d i → K [pI 0] s)
theorem mX3_isDone_ok : mOk encM bdM mX3_isDone (atR 0 (a2 sX3_isDone)) := by
  refine mOVa2 kX3_isDone (fun _ _ => rfl) (fun d i s K h hb => wx_J [] 9 tX3_isDone_ok rfl (fun J hR hJ => ?_))
  obtain ⟨h1, h2, h3⟩ := h
  repeat' (first | (refine And.intro ?_ ?_) | (intro hq; first | (exact absurd hq (by omega)) | skip))
  all_goals first | omega | exact hR _ _ (h2 (by omega)) | exact hR _ _ (h3 (by omega))
def cM_X3_isDone : Sp MS := atR 0 (a2 sX3_isDone)
theorem qM_X3_isDone {M : XI} {rc rs pc pc2 : Nat} (d : xl_Ca M pc mX3_isDone pc2) : cOk encM bdM M rc rs pc pc2 3 cM_X3_isDone := cSame mX3_isDone_ok vX3_isDone d mcl rfl lenM recM
abbrev mBehind (s : MS) (d i : Int) : Prop := s.2 4 0 < mg s ((d * 2804 + 364 + 7 * i) + 0) ∨ (mg s ((d * 2804 + 364 + 7 * i) + 0) = s.2 4 0 ∧ s.2 4 1 < mg s ((d * 2804 + 364 + 7 * i) + 1))
def sX3_isBehind : Int → Int → MS → KM → Prop := fun d i s K => (dOk d ∧ (0 ≤ i ∧ i ≤ 160)) ∧ (mBehind s d i → K [pI 1] s) ∧ (¬ mBehind s d i → K [pI 0] s)
theorem mX3_isBehind_ok : mOk encM bdM mX3_isBehind (atR 0 (a2 sX3_isBehind)) := by
  refine mOVa2 kX3_isBehind (fun _ _ => rfl) (fun d i s K h hb => wx_J [] 9 tX3_isBehind_ok rfl (fun J hR hJ => ?_))
  obtain ⟨h1, h2, h3⟩ := h
  have f0 : s.2 4 (0 : Int).toNat = s.2 4 0 := rfl
  have f1 : s.2 4 (1 : Int).toNat = s.2 4 1 := rfl
  repeat' (first | (refine And.intro ?_ ?_) | (intro hq; first | (exact absurd hq (by omega)) | skip))
  all_goals first | omega | exact hR _ _ (h2 (by omega)) | exact hR _ _ (h3 (by omega))
def cM_X3_isBehind : Sp MS := atR 0 (a2 sX3_isBehind)
theorem qM_X3_isBehind {M : XI} {rc rs pc pc2 : Nat} (d : xl_Ca M pc mX3_isBehind pc2) : cOk encM bdM M rc rs pc pc2 3 cM_X3_isBehind := cSame mX3_isBehind_ok vX3_isBehind d mcl rfl lenM recM
def lmM (s : MS) (d : Int) : Nat → Int → Int → Int
  | 0, _, l => l
  | n + 1, r, l => lmM s d n (r + 1) (if mg s (d * 2804 + (20 + r)) = 0 ∧ (l < 0 ∨ mg s (d * 2804 + (12 + r)) < l) then mg s (d * 2804 + (12 + r)) else l)
def mLeast (s : MS) (d : Int) : Int := lmM s d (mg s (d * 2804 + 0)).toNat 0 (-1)
theorem lmM_B (s : MS) (d : Int) (hb : bdM s) : ∀ (n : Nat) (r l : Int), xB l → xB (lmM s d n r l)
  | 0, _, _, h => h
  | n + 1, r, l, h => by
    refine lmM_B s d hb n (r + 1) _ ?_
    split
    · exact mg_B hb
    · exact h
theorem X3_leastMark_l {K : KM} {Pt : MS → Prop} (s : MS) (d : Int) (hd : dOk d) (hn : mg s (d * 2804 + 0) ≤ 4) (hb : bdM s) : ∀ (m : Nat) (r l : Int), xB l → 0 ≤ r → r ≤ max 0 (mg s (d * 2804 + 0)) → m = (mg s (d * 2804 + 0) - r).toNat → K [pI (lmM s d m r l)] s → wX encM bdM mX3_leastMark 0 0 K Pt 4 [some (pR 0), some (pI d), some (pI l), some (pI r)] [] s := by
  intro m
  induction m with
  | zero =>
    intro r l hl h0 h1 hm hK
    refine wx_J [4] 9 tX3_leastMark_ok rfl (fun J hR hJ => ?_)
    repeat' (first | (refine And.intro ?_ ?_) | (intro hq; first | (exact absurd hq (by omega)) | skip))
    all_goals first | omega | exact hR _ _ hK
  | succ m ih =>
    intro r l hl h0 h1 hm hK
    refine wx_J [4] 9 tX3_leastMark_ok rfl (fun J hR hJ => ?_)
    rw [lmM] at hK
    have e1 : (mg s (d * 2804 + (20 + r)) = 0 ∧ (l < 0 ∨ mg s (d * 2804 + (12 + r)) < l)) → wX encM bdM mX3_leastMark 0 0 K Pt 4 [some (pR 0), some (pI d), some (pI (mg s (d * 2804 + (12 + r)))), some (pI (r + 1))] [] s := fun c => by
      rw [if_pos c] at hK
      exact ih (r + 1) _ (mg_B hb) (by omega) (by omega) (by omega) hK
    have e2 : ¬ (mg s (d * 2804 + (20 + r)) = 0 ∧ (l < 0 ∨ mg s (d * 2804 + (12 + r)) < l)) → wX encM bdM mX3_leastMark 0 0 K Pt 4 [some (pR 0), some (pI d), some (pI l), some (pI (r + 1))] [] s := fun c => by
      rw [if_neg c] at hK
      exact ih (r + 1) _ hl (by omega) (by omega) (by omega) hK
    repeat' (first | (refine And.intro ?_ ?_) | (intro hq; first | (exact absurd hq (by omega)) | skip))
    all_goals first | omega | exact hJ _ _ _ _ (e1 (by omega)) | exact hJ _ _ _ _ (e2 (by omega))
def sX3_leastMark : Int → MS → KM → Prop := fun d s K => (dOk d ∧ mg s (d * 2804 + 0) ≤ 4) ∧ (xB (mLeast s d) → K [pI (mLeast s d)] s)
theorem mX3_leastMark_ok : mOk encM bdM mX3_leastMark (atR 0 (a1 sX3_leastMark)) := by
  refine mOVa1 kX3_leastMark (fun _ => rfl) (fun d s K h hb => wx_J [4] 9 tX3_leastMark_ok rfl (fun J hR hJ => ?_))
  obtain ⟨⟨h1, h3⟩, h2⟩ := h
  exact hJ _ _ _ _ (X3_leastMark_l s d h1 h3 hb _ 0 (-1) ⟨by omega, by omega⟩ (by omega) (by omega) (by rw [Int.sub_zero]) (h2 (lmM_B s d hb _ _ _ ⟨by omega, by omega⟩)))
def cM_X3_leastMark : Sp MS := atR 0 (a1 sX3_leastMark)
theorem qM_X3_leastMark {M : XI} {rc rs pc pc2 : Nat} (d : xl_Ca M pc mX3_leastMark pc2) : cOk encM bdM M rc rs pc pc2 2 cM_X3_leastMark := cSame mX3_leastMark_ok vX3_leastMark d mcl rfl lenM recM
/-- a message is sent -/
def mInc (s : MS) (a v : Int) : MS := mP s a (wI (mg s a + v))
def sdL (k d i : Int) : Nat → Int → MS → MS
  | 0, _, s => s
  | m + 1, w, s => sdL k d i m (w + 1) (mP s (k + 1 + w) (mg s ((d * 2804 + 364 + 7 * i) + w)))
def mSend4 (s : MS) (d kd i : Int) : MS := mInc (mInc (sdL ((d * 2804 + 1484 + 6 * Int.tmod (mg s (d * 2804 + 7)) 60)) d i 5 0 (mP s ((d * 2804 + 1484 + 6 * Int.tmod (mg s (d * 2804 + 7)) 60)) kd)) (d * 2804 + 7) 1) (d * 2804 + (32 + kd)) 1
def mSend (s : MS) (d kd i : Int) : MS :=
  let s4 := mSend4 s d kd i
  mP (mInc s4 (d * 2804 + (60 + 4 * mg s4 ((d * 2804 + 364 + 7 * i) + 0) + kd)) 1) ((d * 2804 + 364 + 7 * i) + 6) (if kd = 3 then 0 else 1 + kd)
theorem X3_sends_l {K : KM} {Pt : MS → Prop} (d kd i n k : Int) (hd : dOk d) (hi : 0 ≤ i ∧ i ≤ 160) (hk : 0 ≤ kd ∧ kd ≤ 3) (hk2 : d * 2804 + 1130 ≤ k ∧ k ≤ d * 2804 + 1838) : ∀ (m : Nat) (w : Int) (s : MS), 0 ≤ w → w ≤ 5 → m = (5 - w).toNat → (let s4 := mInc (mInc (sdL k d i m w s) (d * 2804 + 7) 1) (d * 2804 + (32 + kd)) 1
    mI (d * 2804 + (60 + 4 * mg s4 ((d * 2804 + 364 + 7 * i) + 0) + kd)) ∧ K [] (mP (mInc s4 (d * 2804 + (60 + 4 * mg s4 ((d * 2804 + 364 + 7 * i) + 0) + kd)) 1) ((d * 2804 + 364 + 7 * i) + 6) (if kd = 3 then 0 else 1 + kd))) → wX encM bdM mX3_sends 0 0 K Pt 40 [some (pR 0), some (pI d), some (pI kd), some (pI i), none, some (pI k), some (pI w)] [] s := by
  intro m
  induction m with
  | zero =>
    intro w s h0 h1 hm hK
    refine wx_J [40] 9 tX3_sends_ok rfl (fun J hR hJ => ?_)
    obtain ⟨hI, hK⟩ := hK
    rw [sdL] at hI hK
    by_cases c : kd = 3
    · rw [if_pos c] at hK
      repeat' (first | (refine And.intro ?_ ?_) | (intro hq; first | (exact absurd hq (by omega)) | skip))
      all_goals first | omega | exact hI.1 | exact hI.2 | exact hR _ _ hK
    · rw [if_neg c] at hK
      repeat' (first | (refine And.intro ?_ ?_) | (intro hq; first | (exact absurd hq (by omega)) | skip))
      all_goals first | omega | exact hI.1 | exact hI.2 | exact hR _ _ hK
  | succ m ih =>
    intro w s h0 h1 hm hK
    refine wx_J [40] 9 tX3_sends_ok rfl (fun J hR hJ => ?_)
    rw [sdL] at hK
    have g := ih (w + 1) _ (by omega) (by omega) (by omega) hK
    repeat' (first | (refine And.intro ?_ ?_) | (intro hq; first | (exact absurd hq (by omega)) | skip))
    all_goals first | omega | exact hJ _ _ _ _ g
def sX3_sends : Int → Int → Int → MS → KM → Prop := fun d kd i s K => (dOk d ∧ (0 ≤ kd ∧ kd ≤ 3) ∧ (0 ≤ i ∧ i ≤ 160) ∧ mI (d * 2804 + (60 + 4 * mg (mSend4 s d kd i) ((d * 2804 + 364 + 7 * i) + 0) + kd))) ∧ K [] (mSend s d kd i)
theorem mX3_sends_ok : mOk encM bdM mX3_sends (atR 0 (a3 sX3_sends)) := by
  refine mOVa3 kX3_sends (fun _ _ _ => rfl) (fun d kd i s K h hb => wx_J [40] 9 tX3_sends_ok rfl (fun J hR hJ => ?_))
  obtain ⟨⟨h1, h2, h3, h4⟩, hK⟩ := h
  have t1 := Int.tmod_lt_of_pos (mg s (d * 2804 + 7)) (b := 60) (by omega)
  have t2 := Int.lt_tmod_of_pos (mg s (d * 2804 + 7)) (b := 60) (by omega)
  have g := X3_sends_l (K := K) (Pt := fun _ => False) d kd i (mg s (d * 2804 + 7)) ((d * 2804 + 1484 + 6 * Int.tmod (mg s (d * 2804 + 7)) 60)) h1 h3 h2 ⟨by omega, by omega⟩ 5 0 (mP s ((d * 2804 + 1484 + 6 * Int.tmod (mg s (d * 2804 + 7)) 60)) kd) (by omega) (by omega) (by omega) ⟨h4, hK⟩
  repeat' (first | (refine And.intro ?_ ?_) | (intro hq; first | (exact absurd hq (by omega)) | skip))
  all_goals first | omega | exact hJ _ _ _ _ g
def cM_X3_sends : Sp MS := atR 0 (a3 sX3_sends)
theorem qM_X3_sends {M : XI} {rc rs pc pc2 : Nat} (d : xl_Ca M pc mX3_sends pc2) : cOk encM bdM M rc rs pc pc2 4 cM_X3_sends := cSame mX3_sends_ok vX3_sends d mcl rfl lenM recM
end
-- 54.Mr
section
/-! ===== the model: what is ripe, what is closed, what goes out and comes in ===== -/
-- X3_takesBack: heads []
def tX3_takesBack : Nat → Blk MS := fun pc => bif Nat.blt pc 18 then (bif Nat.beq pc 0 then (oAld 0 <| oIld 1 <| oIld 2 <| oI 6 <| oC4 (cM_X3_ofSession) <| oZLe 18 <| oAld 0 <| oIld 1 <| oI 3 <| oIld 2 <| oC4 (cM_X3_sends) <| oTo 18) else oNo) else (bif Nat.beq pc 18 then (oVret) else oNo)
theorem tX3_takesBack_ok : ∀ pc, bOk (encM) (bdM) mX3_takesBack 0 0 pc (tX3_takesBack pc) := fun pc => (tNode (tLeaf (okAldn iX3_takesBack_0 rfl <| okIldn iX3_takesBack_1 rfl <| okIldn iX3_takesBack_2 rfl <| okBi iX3_takesBack_3 (by decide) <| okC4 (qM_X3_ofSession iX3_takesBack_5) <| okZLe (tl rfl) iX3_takesBack_8 <| okAldn iX3_takesBack_11 rfl <| okIldn iX3_takesBack_12 rfl <| okIc iX3_takesBack_13 <| okIldn iX3_takesBack_14 rfl <| okC4 (qM_X3_sends iX3_takesBack_15) <| okTo (tl rfl))) (tLeaf (okVret iX3_takesBack_18 rfl))) pc
-- X3_firstRipe: heads [5]
def tX3_firstRipe : Nat → Blk MS := fun pc => bif Nat.blt pc 58 then (bif Nat.blt pc 5 then (bif Nat.beq pc 0 then (oI (-1) <| oIst 3 <| oI 0 <| oIst 4 <| oM [true, true, true, true, true, false] (oTo 5)) else oNo) else (bif Nat.blt pc 57 then (bif Nat.beq pc 5 then (oIld 4 <| oAld 0 <| oIld 1 <| oI 5 <| oC3 (cM_X3_of) <| oCGe 96 <| oAld 0 <| oIld 1 <| oIld 4 <| oAld 0 <| oIld 1 <| oI 4 <| oC3 (cM_X3_of) <| oC4 (cM_X3_isRipeBy) <| oZEq 57 <| oAld 0 <| oIld 1 <| oIld 4 <| oIld 2 <| oC4 (cM_X3_isRipeBy) <| oZNe 57 <| oAld 0 <| oIld 1 <| oIld 4 <| oC3 (cM_X3_isDone) <| oZNe 57 <| oI 1 <| oTo 58) else oNo) else (bif Nat.beq pc 57 then (oI 0 <| oTo 58) else oNo))) else (bif Nat.blt pc 90 then (bif Nat.blt pc 87 then (bif Nat.beq pc 58 then (oIst 5 <| oIld 5 <| oZEq 90 <| oIld 3 <| oZLt 87 <| oAld 0 <| oIld 1 <| oIld 4 <| oI 2 <| oC4 (cM_X3_ofSession) <| oAld 0 <| oIld 1 <| oIld 3 <| oI 2 <| oC4 (cM_X3_ofSession) <| oCGe 90 <| oTo 87) else oNo) else (bif Nat.beq pc 87 then (oIld 4 <| oIst 3 <| oTo 90) else oNo)) else (bif Nat.blt pc 96 then (bif Nat.beq pc 90 then (oInc 4 1 <| oM [true, true, true, true, true, false] (oTo 5)) else oNo) else (bif Nat.beq pc 96 then (oIld 3 <| oIret) else oNo)))
theorem tX3_firstRipe_ok : ∀ pc, bOk (encM) (bdM) mX3_firstRipe 0 0 pc (tX3_firstRipe pc) := fun pc => (tNode (tNode (tLeaf (okIc iX3_firstRipe_0 <| okIstn iX3_firstRipe_1 rfl (by decide) <| okIc iX3_firstRipe_2 <| okIst iX3_firstRipe_3 (by decide) <| okM (okTo (tl rfl)))) (tNode (tLeaf (okIld iX3_firstRipe_5 <| okAldn iX3_firstRipe_7 rfl <| okIldn iX3_firstRipe_8 rfl <| okIc iX3_firstRipe_9 <| okC3 (qM_X3_of iX3_firstRipe_10) <| okCGe (tl rfl) iX3_firstRipe_13 <| okAldn iX3_firstRipe_16 rfl <| okIldn iX3_firstRipe_17 rfl <| okIld iX3_firstRipe_18 <| okAldn iX3_firstRipe_20 rfl <| okIldn iX3_firstRipe_21 rfl <| okIc iX3_firstRipe_22 <| okC3 (qM_X3_of iX3_firstRipe_23) <| okC4 (qM_X3_isRipeBy iX3_firstRipe_26) <| okZEq (tl rfl) iX3_firstRipe_29 <| okAldn iX3_firstRipe_32 rfl <| okIldn iX3_firstRipe_33 rfl <| okIld iX3_firstRipe_34 <| okIldn iX3_firstRipe_36 rfl <| okC4 (qM_X3_isRipeBy iX3_firstRipe_37) <| okZNe (tl rfl) iX3_firstRipe_40 <| okAldn iX3_firstRipe_43 rfl <| okIldn iX3_firstRipe_44 rfl <| okIld iX3_firstRipe_45 <| okC3 (qM_X3_isDone iX3_firstRipe_47) <| okZNe (tl rfl) iX3_firstRipe_50 <| okIc iX3_firstRipe_53 <| okGoto (tl rfl) iX3_firstRipe_54)) (tLeaf (okIc iX3_firstRipe_57 <| okTo (tl rfl))))) (tNode (tNode (tLeaf (okIst iX3_firstRipe_58 (by decide) <| okIld iX3_firstRipe_60 <| okZEq (tl rfl) iX3_firstRipe_62 <| okIldn iX3_firstRipe_65 rfl <| okZLt (tl rfl) iX3_firstRipe_66 <| okAldn iX3_firstRipe_69 rfl <| okIldn iX3_firstRipe_70 rfl <| okIld iX3_firstRipe_71 <| okIc iX3_firstRipe_73 <| okC4 (qM_X3_ofSession iX3_firstRipe_74) <| okAldn iX3_firstRipe_77 rfl <| okIldn iX3_firstRipe_78 rfl <| okIldn iX3_firstRipe_79 rfl <| okIc iX3_firstRipe_80 <| okC4 (qM_X3_ofSession iX3_firstRipe_81) <| okCGe (tl rfl) iX3_firstRipe_84 <| okTo (tl rfl))) (tLeaf (okIld iX3_firstRipe_87 <| okIstn iX3_firstRipe_89 rfl (by decide) <| okTo (tl rfl)))) (tNode (tLeaf (okInc iX3_firstRipe_90 (by decide) <| okGotoM (tl rfl) iX3_firstRipe_93)) (tLeaf (okIldn iX3_firstRipe_96 rfl <| okIret iX3_firstRipe_97 rfl))))) pc
-- X3_firstClosed: heads [4]
def tX3_firstClosed : Nat → Blk MS := fun pc => bif Nat.blt pc 50 then (bif Nat.blt pc 4 then (bif Nat.beq pc 0 then (oI (-1) <| oIst 2 <| oI 0 <| oIst 3 <| oM [true, true, true, true] (oTo 4)) else oNo) else (bif Nat.beq pc 4 then (oIld 3 <| oAld 0 <| oIld 1 <| oI 5 <| oC3 (cM_X3_of) <| oCGe 58 <| oAld 0 <| oIld 1 <| oIld 3 <| oAld 0 <| oIld 1 <| oI 4 <| oC3 (cM_X3_of) <| oC4 (cM_X3_isClosedBy) <| oZEq 52 <| oIld 2 <| oZLt 50 <| oAld 0 <| oIld 1 <| oIld 3 <| oI 2 <| oC4 (cM_X3_ofSession) <| oAld 0 <| oIld 1 <| oIld 2 <| oI 2 <| oC4 (cM_X3_ofSession) <| oCGe 52 <| oTo 50) else oNo)) else (bif Nat.blt pc 52 then (bif Nat.beq pc 50 then (oIld 3 <| oIst 2 <| oTo 52) else oNo) else (bif Nat.blt pc 58 then (bif Nat.beq pc 52 then (oInc 3 1 <| oM [true, true, true, true] (oTo 4)) else oNo) else (bif Nat.beq pc 58 then (oIld 2 <| oIret) else oNo)))
theorem tX3_firstClosed_ok : ∀ pc, bOk (encM) (bdM) mX3_firstClosed 0 0 pc (tX3_firstClosed pc) := fun pc => (tNode (tNode (tLeaf (okIc iX3_firstClosed_0 <| okIstn iX3_firstClosed_1 rfl (by decide) <| okIc iX3_firstClosed_2 <| okIstn iX3_firstClosed_3 rfl (by decide) <| okM (okTo (tl rfl)))) (tLeaf (okIldn iX3_firstClosed_4 rfl <| okAldn iX3_firstClosed_5 rfl <| okIldn iX3_firstClosed_6 rfl <| okIc iX3_firstClosed_7 <| okC3 (qM_X3_of iX3_firstClosed_8) <| okCGe (tl rfl) iX3_firstClosed_11 <| okAldn iX3_firstClosed_14 rfl <| okIldn iX3_firstClosed_15 rfl <| okIldn iX3_firstClosed_16 rfl <| okAldn iX3_firstClosed_17 rfl <| okIldn iX3_firstClosed_18 rfl <| okIc iX3_firstClosed_19 <| okC3 (qM_X3_of iX3_firstClosed_20) <| okC4 (qM_X3_isClosedBy iX3_firstClosed_23) <| okZEq (tl rfl) iX3_firstClosed_26 <| okIldn iX3_firstClosed_29 rfl <| okZLt (tl rfl) iX3_firstClosed_30 <| okAldn iX3_firstClosed_33 rfl <| okIldn iX3_firstClosed_34 rfl <| okIldn iX3_firstClosed_35 rfl <| okIc iX3_firstClosed_36 <| okC4 (qM_X3_ofSession iX3_firstClosed_37) <| okAldn iX3_firstClosed_40 rfl <| okIldn iX3_firstClosed_41 rfl <| okIldn iX3_firstClosed_42 rfl <| okIc iX3_firstClosed_43 <| okC4 (qM_X3_ofSession iX3_firstClosed_44) <| okCGe (tl rfl) iX3_firstClosed_47 <| okTo (tl rfl)))) (tNode (tLeaf (okIldn iX3_firstClosed_50 rfl <| okIstn iX3_firstClosed_51 rfl (by decide) <| okTo (tl rfl))) (tNode (tLeaf (okInc iX3_firstClosed_52 (by decide) <| okGotoM (tl rfl) iX3_firstClosed_55)) (tLeaf (okIldn iX3_firstClosed_58 rfl <| okIret iX3_firstClosed_59 rfl))))) pc
-- X3_closedMany: heads [4]
def tX3_closedMany : Nat → Blk MS := fun pc => bif Nat.blt pc 4 then (bif Nat.beq pc 0 then (oI 0 <| oIst 2 <| oI 0 <| oIst 3 <| oM [true, true, true, true] (oTo 4)) else oNo) else (bif Nat.blt pc 28 then (bif Nat.beq pc 4 then (oIld 3 <| oI 6 <| oCGe 28 <| oIld 2 <| oAld 0 <| oIld 1 <| oI 36 <| oIld 3 <| oAdd <| oC3 (cM_X3_of) <| oAddW <| oIst 2 <| oInc 3 1 <| oM [true, true, true, true] (oTo 4)) else oNo) else (bif Nat.beq pc 28 then (oIld 2 <| oIret) else oNo))
theorem tX3_closedMany_ok : ∀ pc, bOk (encM) (bdM) mX3_closedMany 0 0 pc (tX3_closedMany pc) := fun pc => (tNode (tLeaf (okIc iX3_closedMany_0 <| okIstn iX3_closedMany_1 rfl (by decide) <| okIc iX3_closedMany_2 <| okIstn iX3_closedMany_3 rfl (by decide) <| okM (okTo (tl rfl)))) (tNode (tLeaf (okIldn iX3_closedMany_4 rfl <| okBi iX3_closedMany_5 (by decide) <| okCGe (tl rfl) iX3_closedMany_7 <| okIldn iX3_closedMany_10 rfl <| okAldn iX3_closedMany_11 rfl <| okIldn iX3_closedMany_12 rfl <| okBi iX3_closedMany_13 (by decide) <| okIldn iX3_closedMany_15 rfl <| okAdd iX3_closedMany_16 <| okC3 (qM_X3_of iX3_closedMany_17) <| okAddW iX3_closedMany_20 <| okIstn iX3_closedMany_21 rfl (by decide) <| okInc iX3_closedMany_22 (by decide) <| okGotoM (tl rfl) iX3_closedMany_25)) (tLeaf (okIldn iX3_closedMany_28 rfl <| okIret iX3_closedMany_29 rfl)))) pc
-- X3_goesOut: heads [13]
def tX3_goesOut : Nat → Blk MS := fun pc => bif Nat.blt pc 13 then (bif Nat.beq pc 0 then (oAld 0 <| oIld 1 <| oI 5 <| oI (-1) <| oC4 (cM_X3_adds) <| oIld 1 <| oIld 2 <| oC2 (cM_X3_place) <| oIst 3 <| oM [true, true, false, true] (oTo 13)) else oNo) else (bif Nat.blt pc 48 then (bif Nat.beq pc 13 then (oIld 3 <| oIld 1 <| oAld 0 <| oIld 1 <| oI 5 <| oC3 (cM_X3_of) <| oC2 (cM_X3_place) <| oCGe 48 <| oAld 0 <| oGet (fgM) 3 7 <| oIld 3 <| oAld 0 <| oGet (fgM) 3 7 <| oIld 3 <| oI 7 <| oAdd <| oIa (agM) <| oIas (agM) (apM) <| oInc 3 1 <| oM [true, true, false, true] (oTo 13)) else oNo) else (bif Nat.beq pc 48 then (oVret) else oNo))
theorem tX3_goesOut_ok : ∀ pc, bOk (encM) (bdM) mX3_goesOut 0 0 pc (tX3_goesOut pc) := fun pc => (tNode (tLeaf (okAldn iX3_goesOut_0 rfl <| okIldn iX3_goesOut_1 rfl <| okIc iX3_goesOut_2 <| okIc iX3_goesOut_3 <| okC4 (qM_X3_adds iX3_goesOut_4) <| okIldn iX3_goesOut_7 rfl <| okIldn iX3_goesOut_8 rfl <| okC2 (qM_X3_place iX3_goesOut_9) <| okIstn iX3_goesOut_12 rfl (by decide) <| okM (okTo (tl rfl)))) (tNode (tLeaf (okIldn iX3_goesOut_13 rfl <| okIldn iX3_goesOut_14 rfl <| okAldn iX3_goesOut_15 rfl <| okIldn iX3_goesOut_16 rfl <| okIc iX3_goesOut_17 <| okC3 (qM_X3_of iX3_goesOut_18) <| okC2 (qM_X3_place iX3_goesOut_21) <| okCGe (tl rfl) iX3_goesOut_24 <| okAldn iX3_goesOut_27 rfl <| okGet (vFgM) iX3_goesOut_28 <| okIldn iX3_goesOut_31 rfl <| okAldn iX3_goesOut_32 rfl <| okGet (vFgM) iX3_goesOut_33 <| okIldn iX3_goesOut_36 rfl <| okBi iX3_goesOut_37 (by decide) <| okAdd iX3_goesOut_39 <| okIa (vAgM) iX3_goesOut_40 <| okIas (vAgM) iX3_goesOut_41 <| okInc iX3_goesOut_42 (by decide) <| okGotoM (tl rfl) iX3_goesOut_45)) (tLeaf (okVret iX3_goesOut_48 rfl)))) pc
def mTake (s : MS) (d i : Int) : MS := if 0 < mg s ((d * 2804 + 364 + 7 * i) + 6) then mSend s d 3 i else s
abbrev mTakeP (s : MS) (d i : Int) : Prop := 0 < mg s ((d * 2804 + 364 + 7 * i) + 6) → mI (d * 2804 + (60 + 4 * mg (mSend4 s d 3 i) ((d * 2804 + 364 + 7 * i) + 0) + 3))
def sX3_takesBack : Int → Int → MS → KM → Prop := fun d i s K => (dOk d ∧ (0 ≤ i ∧ i ≤ 160) ∧ mTakeP s d i) ∧ K [] (mTake s d i)
theorem mX3_takesBack_ok : mOk encM bdM mX3_takesBack (atR 0 (a2 sX3_takesBack)) := by
  refine mOVa2 kX3_takesBack (fun _ _ => rfl) (fun d i s K h hb => wx_J [] 9 tX3_takesBack_ok rfl (fun J hR hJ => ?_))
  obtain ⟨⟨h1, h2, h3⟩, hK⟩ := h
  unfold mTake at hK
  by_cases c : 0 < mg s ((d * 2804 + 364 + 7 * i) + 6)
  · rw [if_pos c] at hK
    have h4 := h3 c
    repeat' (first | (refine And.intro ?_ ?_) | (intro hq; first | (exact absurd hq (by omega)) | skip))
    all_goals first | omega | exact h4.1 | exact h4.2 | exact hR _ _ hK
  · rw [if_neg c] at hK
    repeat' (first | (refine And.intro ?_ ?_) | (intro hq; first | (exact absurd hq (by omega)) | skip))
    all_goals first | omega | exact hR _ _ hK
def cM_X3_takesBack : Sp MS := atR 0 (a2 sX3_takesBack)
theorem qM_X3_takesBack {M : XI} {rc rs pc pc2 : Nat} (d : xl_Ca M pc mX3_takesBack pc2) : cOk encM bdM M rc rs pc pc2 3 cM_X3_takesBack := cSame mX3_takesBack_ok vX3_takesBack d mcl rfl lenM recM
abbrev mFr (s : MS) (d wa i : Int) : Prop := mRipe s d i (mg s (d * 2804 + 4)) ∧ ¬ mRipe s d i wa ∧ ¬ mDone s d i
def frL (s : MS) (d wa : Int) : Nat → Int → Int → Int
  | 0, _, b => b
  | n + 1, i, b => frL s d wa n (i + 1) (if mFr s d wa i ∧ (b < 0 ∨ mg s ((d * 2804 + 364 + 7 * i) + 2) < mg s ((d * 2804 + 364 + 7 * b) + 2)) then i else b)
def mFirstR (s : MS) (d wa : Int) : Int := frL s d wa (mg s (d * 2804 + 5)).toNat 0 (-1)
theorem frL_b (s : MS) (d wa : Int) : ∀ (n : Nat) (i b : Int), 0 ≤ i → -1 ≤ b → b < i → -1 ≤ frL s d wa n i b ∧ frL s d wa n i b < i + n
  | 0, i, b, h0, h1, h2 => by unfold frL; omega
  | n + 1, i, b, h0, h1, h2 => by
    unfold frL
    split
    · have := frL_b s d wa n (i + 1) i (by omega) (by omega) (by omega)
      omega
    · have := frL_b s d wa n (i + 1) b (by omega) (by omega) (by omega)
      omega
theorem X3_firstRipe_l {K : KM} {Pt : MS → Prop} (s : MS) (d wa : Int) (hd : dOk d) (hw : xB wa) (hn : mg s (d * 2804 + 5) ≤ 161) (hb : bdM s) : ∀ (m : Nat) (i b : Int), 0 ≤ i → i ≤ max 0 (mg s (d * 2804 + 5)) → -1 ≤ b → b < i → m = (mg s (d * 2804 + 5) - i).toNat → K [pI (frL s d wa m i b)] s → wX encM bdM mX3_firstRipe 0 0 K Pt 5 [some (pR 0), some (pI d), some (pI wa), some (pI b), some (pI i), none] [] s := by
  intro m
  induction m with
  | zero =>
    intro i b h0 h1 h2 h3 hm hK
    refine wx_J [5] 9 tX3_firstRipe_ok rfl (fun J hR hJ => ?_)
    repeat' (first | (refine And.intro ?_ ?_) | (intro hq; first | (exact absurd hq (by omega)) | skip))
    all_goals first | omega | exact hR _ _ hK
  | succ m ih =>
    intro i b h0 h1 h2 h3 hm hK
    refine wx_J [5] 9 tX3_firstRipe_ok rfl (fun J hR hJ => ?_)
    rw [frL] at hK
    have e1 : (mFr s d wa i ∧ (b < 0 ∨ mg s ((d * 2804 + 364 + 7 * i) + 2) < mg s ((d * 2804 + 364 + 7 * b) + 2))) → wX encM bdM mX3_firstRipe 0 0 K Pt 5 [some (pR 0), some (pI d), some (pI wa), some (pI i), some (pI (i + 1)), none] [] s := fun c => by
      rw [if_pos c] at hK
      exact ih (i + 1) i (by omega) (by omega) (by omega) (by omega) (by omega) hK
    have e2 : ¬ (mFr s d wa i ∧ (b < 0 ∨ mg s ((d * 2804 + 364 + 7 * i) + 2) < mg s ((d * 2804 + 364 + 7 * b) + 2))) → wX encM bdM mX3_firstRipe 0 0 K Pt 5 [some (pR 0), some (pI d), some (pI wa), some (pI b), some (pI (i + 1)), none] [] s := fun c => by
      rw [if_neg c] at hK
      exact ih (i + 1) b (by omega) (by omega) (by omega) (by omega) (by omega) hK
    have hp := mg_B (a := d * 2804 + 4) hb
    refine ⟨⟨by omega, by omega⟩, fun hn2 => ⟨⟨⟨by omega, by omega⟩, hn2⟩, fun c => absurd c (by omega), fun _ => ⟨⟨by omega, by omega⟩, fun hp2 => ⟨⟨hd, ⟨by omega, by omega⟩, hp2⟩, fun r1 => ?_, fun r1 => ?_⟩⟩⟩⟩
    · refine ⟨⟨by omega, by omega⟩, fun q => absurd q (by omega), fun _ => ⟨⟨hd, ⟨by omega, by omega⟩, hw⟩, fun r2 => ?_, fun r2 => ?_⟩⟩
      · have g := e2 (fun z => z.1.2.1 r2)
        repeat' (first | (refine And.intro ?_ ?_) | (intro hq; first | (exact absurd hq (by omega)) | skip))
        all_goals first | omega | exact hJ _ _ _ _ g
      · refine ⟨⟨by omega, by omega⟩, fun q => absurd rfl q, fun _ => ⟨⟨hd, ⟨by omega, by omega⟩⟩, fun r3 => ?_, fun r3 => ?_⟩⟩
        · have g := e2 (fun z => z.1.2.2 r3)
          repeat' (first | (refine And.intro ?_ ?_) | (intro hq; first | (exact absurd hq (by omega)) | skip))
          all_goals first | omega | exact hJ _ _ _ _ g
        · have e1' := fun z => e1 ⟨⟨r1, r2, r3⟩, z⟩
          have e2' : ¬ (b < 0 ∨ mg s ((d * 2804 + 364 + 7 * i) + 2) < mg s ((d * 2804 + 364 + 7 * b) + 2)) → _ := fun z => e2 (fun y => z y.2)
          repeat' (first | (refine And.intro ?_ ?_) | (intro hq; first | (exact absurd hq (by omega)) | skip))
          all_goals first | omega | exact hJ _ _ _ _ (e1' (by omega)) | exact hJ _ _ _ _ (e2' (by omega))
    · have g := e2 (fun z => r1 z.1.1)
      repeat' (first | (refine And.intro ?_ ?_) | (intro hq; first | (exact absurd hq (by omega)) | skip))
      all_goals first | omega | exact hJ _ _ _ _ g
def sX3_firstRipe : Int → Int → MS → KM → Prop := fun d wa s K => (dOk d ∧ xB wa ∧ mg s (d * 2804 + 5) ≤ 161) ∧ (-1 ≤ mFirstR s d wa → mFirstR s d wa ≤ 160 → K [pI (mFirstR s d wa)] s)
theorem mX3_firstRipe_ok : mOk encM bdM mX3_firstRipe (atR 0 (a2 sX3_firstRipe)) := by
  refine mOVa2 kX3_firstRipe (fun _ _ => rfl) (fun d wa s K h hb => wx_J [5] 9 tX3_firstRipe_ok rfl (fun J hR hJ => ?_))
  obtain ⟨⟨h1, h2, h3⟩, h4⟩ := h
  have hf := frL_b s d wa (mg s (d * 2804 + 5)).toNat 0 (-1) (by omega) (by omega) (by omega)
  have hK := h4 hf.1 (by unfold mFirstR; omega)
  exact hJ _ _ _ _ (X3_firstRipe_l s d wa h1 h2 h3 hb _ 0 (-1) (by omega) (by omega) (by omega) (by omega) (by rw [Int.sub_zero]) hK)
def cM_X3_firstRipe : Sp MS := atR 0 (a2 sX3_firstRipe)
theorem qM_X3_firstRipe {M : XI} {rc rs pc pc2 : Nat} (d : xl_Ca M pc mX3_firstRipe pc2) : cOk encM bdM M rc rs pc pc2 3 cM_X3_firstRipe := cSame mX3_firstRipe_ok vX3_firstRipe d mcl rfl lenM recM
def fcL (s : MS) (d : Int) : Nat → Int → Int → Int
  | 0, _, b => b
  | n + 1, i, b => fcL s d n (i + 1) (if mOver s d i (mg s (d * 2804 + 4)) ∧ (b < 0 ∨ mg s ((d * 2804 + 364 + 7 * i) + 2) < mg s ((d * 2804 + 364 + 7 * b) + 2)) then i else b)
def mFirstC (s : MS) (d : Int) : Int := fcL s d (mg s (d * 2804 + 5)).toNat 0 (-1)
theorem fcL_b (s : MS) (d : Int) : ∀ (n : Nat) (i b : Int), 0 ≤ i → -1 ≤ b → b < i → -1 ≤ fcL s d n i b ∧ fcL s d n i b < i + n
  | 0, i, b, h0, h1, h2 => by unfold fcL; omega
  | n + 1, i, b, h0, h1, h2 => by
    unfold fcL
    split
    · have := fcL_b s d n (i + 1) i (by omega) (by omega) (by omega)
      omega
    · have := fcL_b s d n (i + 1) b (by omega) (by omega) (by omega)
      omega
theorem X3_firstClosed_l {K : KM} {Pt : MS → Prop} (s : MS) (d : Int) (hd : dOk d) (hn : mg s (d * 2804 + 5) ≤ 161) (hb : bdM s) : ∀ (m : Nat) (i b : Int), 0 ≤ i → i ≤ max 0 (mg s (d * 2804 + 5)) → -1 ≤ b → b < i → m = (mg s (d * 2804 + 5) - i).toNat → K [pI (fcL s d m i b)] s → wX encM bdM mX3_firstClosed 0 0 K Pt 4 [some (pR 0), some (pI d), some (pI b), some (pI i)] [] s := by
  intro m
  induction m with
  | zero =>
    intro i b h0 h1 h2 h3 hm hK
    refine wx_J [4] 9 tX3_firstClosed_ok rfl (fun J hR hJ => ?_)
    repeat' (first | (refine And.intro ?_ ?_) | (intro hq; first | (exact absurd hq (by omega)) | skip))
    all_goals first | omega | exact hR _ _ hK
  | succ m ih =>
    intro i b h0 h1 h2 h3 hm hK
    refine wx_J [4] 9 tX3_firstClosed_ok rfl (fun J hR hJ => ?_)
    rw [fcL] at hK
    have e1 : (mOver s d i (mg s (d * 2804 + 4)) ∧ (b < 0 ∨ mg s ((d * 2804 + 364 + 7 * i) + 2) < mg s ((d * 2804 + 364 + 7 * b) + 2))) → wX encM bdM mX3_firstClosed 0 0 K Pt 4 [some (pR 0), some (pI d), some (pI i), some (pI (i + 1))] [] s := fun c => by
      rw [if_pos c] at hK
      exact ih (i + 1) i (by omega) (by omega) (by omega) (by omega) (by omega) hK
    have e2 : ¬ (mOver s d i (mg s (d * 2804 + 4)) ∧ (b < 0 ∨ mg s ((d * 2804 + 364 + 7 * i) + 2) < mg s ((d * 2804 + 364 + 7 * b) + 2))) → wX encM bdM mX3_firstClosed 0 0 K Pt 4 [some (pR 0), some (pI d), some (pI b), some (pI (i + 1))] [] s := fun c => by
      rw [if_neg c] at hK
      exact ih (i + 1) b (by omega) (by omega) (by omega) (by omega) (by omega) hK
    refine ⟨⟨by omega, by omega⟩, fun hn2 => ⟨⟨⟨by omega, by omega⟩, hn2⟩, fun c => absurd c (by omega), fun _ => ⟨⟨by omega, by omega⟩, fun hp2 => ⟨⟨hd, ⟨by omega, by omega⟩, hp2⟩, fun r1 => ?_, fun r1 => ?_⟩⟩⟩⟩
    · have e1' := fun z => e1 ⟨r1, z⟩
      have e2' : ¬ (b < 0 ∨ mg s ((d * 2804 + 364 + 7 * i) + 2) < mg s ((d * 2804 + 364 + 7 * b) + 2)) → _ := fun z => e2 (fun y => z y.2)
      repeat' (first | (refine And.intro ?_ ?_) | (intro hq; first | (exact absurd hq (by omega)) | skip))
      all_goals first | omega | exact hJ _ _ _ _ (e1' (by omega)) | exact hJ _ _ _ _ (e2' (by omega))
    · have g := e2 (fun z => r1 z.1)
      repeat' (first | (refine And.intro ?_ ?_) | (intro hq; first | (exact absurd hq (by omega)) | skip))
      all_goals first | omega | exact hJ _ _ _ _ g
def sX3_firstClosed : Int → MS → KM → Prop := fun d s K => (dOk d ∧ mg s (d * 2804 + 5) ≤ 161) ∧ (-1 ≤ mFirstC s d → mFirstC s d ≤ 160 → K [pI (mFirstC s d)] s)
theorem mX3_firstClosed_ok : mOk encM bdM mX3_firstClosed (atR 0 (a1 sX3_firstClosed)) := by
  refine mOVa1 kX3_firstClosed (fun _ => rfl) (fun d s K h hb => wx_J [4] 9 tX3_firstClosed_ok rfl (fun J hR hJ => ?_))
  obtain ⟨⟨h1, h3⟩, h4⟩ := h
  have hf := fcL_b s d (mg s (d * 2804 + 5)).toNat 0 (-1) (by omega) (by omega) (by omega)
  have hK := h4 hf.1 (by unfold mFirstC; omega)
  exact hJ _ _ _ _ (X3_firstClosed_l s d h1 h3 hb _ 0 (-1) (by omega) (by omega) (by omega) (by omega) (by rw [Int.sub_zero]) hK)
def cM_X3_firstClosed : Sp MS := atR 0 (a1 sX3_firstClosed)
theorem qM_X3_firstClosed {M : XI} {rc rs pc pc2 : Nat} (d : xl_Ca M pc mX3_firstClosed pc2) : cOk encM bdM M rc rs pc pc2 2 cM_X3_firstClosed := cSame mX3_firstClosed_ok vX3_firstClosed d mcl rfl lenM recM
def mClosed (s : MS) (d : Int) : Int := sumI (fun k => mg s (d * 2804 + (36 + k))) 6 0 0
theorem X3_closedMany_l {K : KM} {Pt : MS → Prop} (s : MS) (d : Int) (hd : dOk d) : ∀ (m : Nat) (k n : Int), 0 ≤ k → k ≤ 6 → m = (6 - k).toNat → K [pI (sumI (fun k => mg s (d * 2804 + (36 + k))) m k n)] s → wX encM bdM mX3_closedMany 0 0 K Pt 4 [some (pR 0), some (pI d), some (pI n), some (pI k)] [] s := by
  intro m
  induction m with
  | zero =>
    intro k n h0 h1 hm hK
    refine wx_J [4] 9 tX3_closedMany_ok rfl (fun J hR hJ => ?_)
    repeat' (first | (refine And.intro ?_ ?_) | (intro hq; first | (exact absurd hq (by omega)) | skip))
    all_goals first | omega | exact hR _ _ hK
  | succ m ih =>
    intro k n h0 h1 hm hK
    refine wx_J [4] 9 tX3_closedMany_ok rfl (fun J hR hJ => ?_)
    have g := ih (k + 1) _ (by omega) (by omega) (by omega) hK
    repeat' (first | (refine And.intro ?_ ?_) | (intro hq; first | (exact absurd hq (by omega)) | skip))
    all_goals first | omega | exact hJ _ _ _ _ g
def sX3_closedMany : Int → MS → KM → Prop := fun d s K => dOk d ∧ (xB (mClosed s d) → K [pI (mClosed s d)] s)
theorem mX3_closedMany_ok : mOk encM bdM mX3_closedMany (atR 0 (a1 sX3_closedMany)) := by
  refine mOVa1 kX3_closedMany (fun _ => rfl) (fun d s K h hb => wx_J [4] 9 tX3_closedMany_ok rfl (fun J hR hJ => ?_))
  obtain ⟨h1, h4⟩ := h
  exact hJ _ _ _ _ (X3_closedMany_l s d h1 6 0 0 (by omega) (by omega) (by omega) (h4 (sumI_B _ _ _ _ ⟨by omega, by omega⟩)))
def cM_X3_closedMany : Sp MS := atR 0 (a1 sX3_closedMany)
theorem qM_X3_closedMany {M : XI} {rc rs pc pc2 : Nat} (d : xl_Ca M pc mX3_closedMany pc2) : cOk encM bdM M rc rs pc pc2 2 cM_X3_closedMany := cSame mX3_closedMany_ok vX3_closedMany d mcl rfl lenM recM
/-- a session goes out -/
def mOut1 (s : MS) (d : Int) : MS := mInc s (d * 2804 + 5) (-1)
def mOut (s : MS) (d i : Int) : MS :=
  let s1 := mOut1 s d
  mA s1 3 (fun j => if ((d * 2804 + 364 + 7 * i)).toNat ≤ j ∧ j < ((d * 2804 + 364 + 7 * (mg s1 (d * 2804 + 5)))).toNat then s1.2 3 (j + 7) else s1.2 3 j)
theorem mg_mA {s : MS} {F : Nat → Int} {a : Int} : mg (mA s 3 F) a = F a.toNat := rfl
theorem X3_goesOut_l {K : KM} {Pt : MS → Prop} (s : MS) (d i : Int) (hd : dOk d) (hi : 0 ≤ i ∧ i ≤ 160) (hn : -1 ≤ mg s (d * 2804 + 5) ∧ mg s (d * 2804 + 5) ≤ 160) (hK : K [] (mA s 3 (fun j => if ((d * 2804 + 364 + 7 * i)).toNat ≤ j ∧ j < ((d * 2804 + 364 + 7 * (mg s (d * 2804 + 5)))).toNat then s.2 3 (j + 7) else s.2 3 j))) : ∀ (m : Nat) (k : Int), (d * 2804 + 364 + 7 * i) ≤ k → k ≤ max ((d * 2804 + 364 + 7 * i)) ((d * 2804 + 364 + 7 * (mg s (d * 2804 + 5)))) → m = ((d * 2804 + 364 + 7 * (mg s (d * 2804 + 5))) - k).toNat → wX encM bdM mX3_goesOut 0 0 K Pt 13 [some (pR 0), some (pI d), none, some (pI k)] [] (mA s 3 (fun j => if ((d * 2804 + 364 + 7 * i)).toNat ≤ j ∧ j < k.toNat then s.2 3 (j + 7) else s.2 3 j)) := by
  intro m
  have hh : ∀ k : Int, (d * 2804 + 364 + 7 * i) ≤ k → mg (mA s 3 (fun j => if ((d * 2804 + 364 + 7 * i)).toNat ≤ j ∧ j < k.toNat then s.2 3 (j + 7) else s.2 3 j)) (d * 2804 + 5) = mg s (d * 2804 + 5) := by
    intro k hk
    rw [mg_mA, if_neg (by omega)]
    rfl
  induction m with
  | zero =>
    intro k h0 h1 hm
    refine wx_J [13] 9 tX3_goesOut_ok rfl (fun J hR hJ => ?_)
    have hh := hh k h0
    have e : (fun j => if ((d * 2804 + 364 + 7 * i)).toNat ≤ j ∧ j < ((d * 2804 + 364 + 7 * (mg s (d * 2804 + 5)))).toNat then s.2 3 (j + 7) else s.2 3 j) = (fun j => if ((d * 2804 + 364 + 7 * i)).toNat ≤ j ∧ j < k.toNat then s.2 3 (j + 7) else s.2 3 j) := by
      funext j
      by_cases q : ((d * 2804 + 364 + 7 * i)).toNat ≤ j ∧ j < k.toNat
      · rw [if_pos q, if_pos (by omega)]
      · rw [if_neg q, if_neg (by omega)]
    rw [e] at hK
    refine ⟨⟨by omega, by omega⟩, fun hx => ?_⟩
    rw [hh] at hx ⊢
    repeat' (first | (refine And.intro ?_ ?_) | (intro hq; first | (exact absurd hq (by omega)) | skip))
    all_goals first | omega | exact hR _ _ hK
  | succ m ih =>
    intro k h0 h1 hm
    refine wx_J [13] 9 tX3_goesOut_ok rfl (fun J hR hJ => ?_)
    have hh := hh k h0
    have g := ih (k + 1) (by omega) (by omega) (by omega)
    have e : (fun j => if ((d * 2804 + 364 + 7 * i)).toNat ≤ j ∧ j < (k + 1).toNat then s.2 3 (j + 7) else s.2 3 j) = xup (fun j => if ((d * 2804 + 364 + 7 * i)).toNat ≤ j ∧ j < k.toNat then s.2 3 (j + 7) else s.2 3 j) k.toNat ((fun j => if ((d * 2804 + 364 + 7 * i)).toNat ≤ j ∧ j < k.toNat then s.2 3 (j + 7) else s.2 3 j) (k + 7).toNat) := by
      funext j
      unfold xup
      by_cases q : j = k.toNat
      · rw [if_pos q, if_pos (by omega)]
        dsimp only
        rw [if_neg (by omega), show (k + 7).toNat = j + 7 by omega]
      · rw [if_neg q]
        dsimp only
        by_cases q2 : ((d * 2804 + 364 + 7 * i)).toNat ≤ j ∧ j < k.toNat
        · rw [if_pos q2, if_pos (by omega)]
        · rw [if_neg q2, if_neg (by omega)]
    rw [e, ← mA_mA s 3 (fun j => if ((d * 2804 + 364 + 7 * i)).toNat ≤ j ∧ j < k.toNat then s.2 3 (j + 7) else s.2 3 j)] at g
    refine ⟨⟨by omega, by omega⟩, fun hx => ?_⟩
    rw [hh] at hx ⊢
    repeat' (first | (refine And.intro ?_ ?_) | (intro hq; first | (exact absurd hq (by omega)) | skip))
    all_goals first | omega | exact hJ _ _ _ _ g
def sX3_goesOut : Int → Int → MS → KM → Prop := fun d i s K => (dOk d ∧ (0 ≤ i ∧ i ≤ 160) ∧ -1 ≤ mg (mOut1 s d) (d * 2804 + 5) ∧ mg (mOut1 s d) (d * 2804 + 5) ≤ 160) ∧ K [] (mOut s d i)
theorem mX3_goesOut_ok : mOk encM bdM mX3_goesOut (atR 0 (a2 sX3_goesOut)) := by
  refine mOVa2 kX3_goesOut (fun _ _ => rfl) (fun d i s K h hb => wx_J [13] 9 tX3_goesOut_ok rfl (fun J hR hJ => ?_))
  obtain ⟨⟨h1, h2, h3⟩, hK⟩ := h
  have g := X3_goesOut_l (K := K) (Pt := fun _ => False) (mOut1 s d) d i h1 h2 h3 hK _ ((d * 2804 + 364 + 7 * i)) (by omega) (by omega) rfl
  have e : (fun j => if ((d * 2804 + 364 + 7 * i)).toNat ≤ j ∧ j < ((d * 2804 + 364 + 7 * i)).toNat then (mOut1 s d).2 3 (j + 7) else (mOut1 s d).2 3 j) = (mOut1 s d).2 3 := by
    funext j
    rw [if_neg (by omega)]
  rw [e, mA_self] at g
  repeat' (first | (refine And.intro ?_ ?_) | (intro hq; first | (exact absurd hq (by omega)) | skip))
  all_goals first | omega | exact hJ _ _ _ _ g
def cM_X3_goesOut : Sp MS := atR 0 (a2 sX3_goesOut)
theorem qM_X3_goesOut {M : XI} {rc rs pc pc2 : Nat} (d : xl_Ca M pc mX3_goesOut pc2) : cOk encM bdM M rc rs pc pc2 3 cM_X3_goesOut := cSame mX3_goesOut_ok vX3_goesOut d mcl rfl lenM recM
end
-- 55.Mc
section
/-! ===== the model: a session is closed, comes in; progress rises ===== -/
-- X3_closes: heads [24]
def tX3_closes : Nat → Blk MS := fun pc => bif Nat.blt pc 24 then (bif Nat.beq pc 0 then (oIld 1 <| oI 2804 <| oMul <| oI 84 <| oAdd <| oI 7 <| oAld 0 <| oIld 1 <| oC2 (cM_X3_closedMany) <| oI 40 <| oRemT <| oMul <| oAdd <| oIst 3 <| oI 0 <| oIst 4 <| oM [true, true, true, true, true, false] (oTo 24)) else oNo) else (bif Nat.blt pc 54 then (bif Nat.beq pc 24 then (oIld 4 <| oI 7 <| oCGe 54 <| oAld 0 <| oGet (fgM) 3 7 <| oIld 3 <| oIld 4 <| oAdd <| oAld 0 <| oIld 1 <| oIld 2 <| oIld 4 <| oC4 (cM_X3_ofSession) <| oIas (agM) (apM) <| oInc 4 1 <| oM [true, true, true, true, true, false] (oTo 24)) else oNo) else (bif Nat.beq pc 54 then (oAld 0 <| oIld 1 <| oIld 2 <| oI 0 <| oC4 (cM_X3_ofSession) <| oIst 4 <| oAld 0 <| oIld 1 <| oIld 2 <| oI 2 <| oC4 (cM_X3_ofSession) <| oAld 0 <| oIld 1 <| oIld 2 <| oI 1 <| oC4 (cM_X3_ofSession) <| oSubW <| oIst 5 <| oAld 0 <| oIld 1 <| oI 36 <| oIld 4 <| oAdd <| oI 1 <| oC4 (cM_X3_adds) <| oAld 0 <| oIld 1 <| oI 42 <| oIld 4 <| oAdd <| oAld 0 <| oIld 1 <| oIld 2 <| oI 3 <| oC4 (cM_X3_ofSession) <| oC4 (cM_X3_adds) <| oAld 0 <| oIld 1 <| oI 48 <| oIld 4 <| oAdd <| oAld 0 <| oIld 1 <| oIld 2 <| oI 4 <| oC4 (cM_X3_ofSession) <| oC4 (cM_X3_adds) <| oAld 0 <| oIld 1 <| oI 54 <| oIld 4 <| oAdd <| oIld 5 <| oAld 0 <| oIld 1 <| oI 54 <| oIld 4 <| oAdd <| oC3 (cM_X3_of) <| oMax <| oC4 (cM_X3_puts) <| oAld 0 <| oIld 1 <| oIld 2 <| oC3 (cM_X3_goesOut) <| oVret) else oNo))
theorem tX3_closes_ok : ∀ pc, bOk (encM) (bdM) mX3_closes 0 0 pc (tX3_closes pc) := fun pc => (tNode (tLeaf (okIldn iX3_closes_0 rfl <| okSi iX3_closes_1 (by decide) <| okMul iX3_closes_4 <| okBi iX3_closes_5 (by decide) <| okAdd iX3_closes_7 <| okBi iX3_closes_8 (by decide) <| okAldn iX3_closes_10 rfl <| okIldn iX3_closes_11 rfl <| okC2 (qM_X3_closedMany iX3_closes_12) <| okBi iX3_closes_15 (by decide) <| okRemT iX3_closes_17 <| okMul iX3_closes_18 <| okAdd iX3_closes_19 <| okIstn iX3_closes_20 rfl (by decide) <| okIc iX3_closes_21 <| okIst iX3_closes_22 (by decide) <| okM (okTo (tl rfl)))) (tNode (tLeaf (okIld iX3_closes_24 <| okBi iX3_closes_26 (by decide) <| okCGe (tl rfl) iX3_closes_28 <| okAldn iX3_closes_31 rfl <| okGet (vFgM) iX3_closes_32 <| okIldn iX3_closes_35 rfl <| okIld iX3_closes_36 <| okAdd iX3_closes_38 <| okAldn iX3_closes_39 rfl <| okIldn iX3_closes_40 rfl <| okIldn iX3_closes_41 rfl <| okIld iX3_closes_42 <| okC4 (qM_X3_ofSession iX3_closes_44) <| okIas (vAgM) iX3_closes_47 <| okInc iX3_closes_48 (by decide) <| okGotoM (tl rfl) iX3_closes_51)) (tLeaf (okAldn iX3_closes_54 rfl <| okIldn iX3_closes_55 rfl <| okIldn iX3_closes_56 rfl <| okIc iX3_closes_57 <| okC4 (qM_X3_ofSession iX3_closes_58) <| okIst iX3_closes_61 (by decide) <| okAldn iX3_closes_63 rfl <| okIldn iX3_closes_64 rfl <| okIldn iX3_closes_65 rfl <| okIc iX3_closes_66 <| okC4 (qM_X3_ofSession iX3_closes_67) <| okAldn iX3_closes_70 rfl <| okIldn iX3_closes_71 rfl <| okIldn iX3_closes_72 rfl <| okIc iX3_closes_73 <| okC4 (qM_X3_ofSession iX3_closes_74) <| okSubW iX3_closes_77 <| okIst iX3_closes_78 (by decide) <| okAldn iX3_closes_80 rfl <| okIldn iX3_closes_81 rfl <| okBi iX3_closes_82 (by decide) <| okIld iX3_closes_84 <| okAdd iX3_closes_86 <| okIc iX3_closes_87 <| okC4 (qM_X3_adds iX3_closes_88) <| okAldn iX3_closes_91 rfl <| okIldn iX3_closes_92 rfl <| okBi iX3_closes_93 (by decide) <| okIld iX3_closes_95 <| okAdd iX3_closes_97 <| okAldn iX3_closes_98 rfl <| okIldn iX3_closes_99 rfl <| okIldn iX3_closes_100 rfl <| okIc iX3_closes_101 <| okC4 (qM_X3_ofSession iX3_closes_102) <| okC4 (qM_X3_adds iX3_closes_105) <| okAldn iX3_closes_108 rfl <| okIldn iX3_closes_109 rfl <| okBi iX3_closes_110 (by decide) <| okIld iX3_closes_112 <| okAdd iX3_closes_114 <| okAldn iX3_closes_115 rfl <| okIldn iX3_closes_116 rfl <| okIldn iX3_closes_117 rfl <| okIc iX3_closes_118 <| okC4 (qM_X3_ofSession iX3_closes_119) <| okC4 (qM_X3_adds iX3_closes_122) <| okAldn iX3_closes_125 rfl <| okIldn iX3_closes_126 rfl <| okBi iX3_closes_127 (by decide) <| okIld iX3_closes_129 <| okAdd iX3_closes_131 <| okIld iX3_closes_132 <| okAldn iX3_closes_134 rfl <| okIldn iX3_closes_135 rfl <| okBi iX3_closes_136 (by decide) <| okIld iX3_closes_138 <| okAdd iX3_closes_140 <| okC3 (qM_X3_of iX3_closes_141) <| okMax iX3_closes_144 <| okC4 (qM_X3_puts iX3_closes_147) <| okAldn iX3_closes_150 rfl <| okIldn iX3_closes_151 rfl <| okIldn iX3_closes_152 rfl <| okC3 (qM_X3_goesOut iX3_closes_153) <| okVret iX3_closes_156 rfl)))) pc
-- X3_comesIn: heads [7, 24, 70]
def tX3_comesIn : Nat → Blk MS := fun pc => bif Nat.blt pc 62 then (bif Nat.blt pc 7 then (bif Nat.beq pc 0 then (oAld 0 <| oIld 1 <| oI 5 <| oC3 (cM_X3_of) <| oIst 2 <| oM [true, true, true, false] (oTo 7)) else oNo) else (bif Nat.blt pc 24 then (bif Nat.beq pc 7 then (oIld 2 <| oZLe 68 <| oAld 0 <| oIld 1 <| oIld 2 <| oI 1 <| oSub <| oC3 (cM_X3_isBehind) <| oZEq 68 <| oI 0 <| oIst 3 <| oM [true, true, true, true] (oTo 24)) else oNo) else (bif Nat.beq pc 24 then (oIld 3 <| oI 7 <| oCGe 62 <| oAld 0 <| oGet (fgM) 3 7 <| oIld 1 <| oIld 2 <| oC2 (cM_X3_place) <| oIld 3 <| oAdd <| oAld 0 <| oGet (fgM) 3 7 <| oIld 1 <| oIld 2 <| oI 1 <| oSub <| oC2 (cM_X3_place) <| oIld 3 <| oAdd <| oIa (agM) <| oIas (agM) (apM) <| oInc 3 1 <| oM [true, true, true, true] (oTo 24)) else oNo))) else (bif Nat.blt pc 70 then (bif Nat.blt pc 68 then (bif Nat.beq pc 62 then (oInc 2 (-1) <| oM [true, true, true, false] (oTo 7)) else oNo) else (bif Nat.beq pc 68 then (oI 0 <| oIst 3 <| oM [true, true, true, true] (oTo 70)) else oNo)) else (bif Nat.blt pc 100 then (bif Nat.beq pc 70 then (oIld 3 <| oI 7 <| oCGe 100 <| oAld 0 <| oGet (fgM) 3 7 <| oIld 1 <| oIld 2 <| oC2 (cM_X3_place) <| oIld 3 <| oAdd <| oAld 0 <| oGet (fgM) 3 9 <| oIld 3 <| oIa (agM) <| oIas (agM) (apM) <| oInc 3 1 <| oM [true, true, true, true] (oTo 70)) else oNo) else (bif Nat.beq pc 100 then (oAld 0 <| oIld 1 <| oI 5 <| oI 1 <| oC4 (cM_X3_adds) <| oIld 2 <| oIret) else oNo)))
theorem tX3_comesIn_ok : ∀ pc, bOk (encM) (bdM) mX3_comesIn 0 0 pc (tX3_comesIn pc) := fun pc => (tNode (tNode (tLeaf (okAldn iX3_comesIn_0 rfl <| okIldn iX3_comesIn_1 rfl <| okIc iX3_comesIn_2 <| okC3 (qM_X3_of iX3_comesIn_3) <| okIstn iX3_comesIn_6 rfl (by decide) <| okM (okTo (tl rfl)))) (tNode (tLeaf (okIldn iX3_comesIn_7 rfl <| okZLe (tl rfl) iX3_comesIn_8 <| okAldn iX3_comesIn_11 rfl <| okIldn iX3_comesIn_12 rfl <| okIldn iX3_comesIn_13 rfl <| okIc iX3_comesIn_14 <| okSub iX3_comesIn_15 <| okC3 (qM_X3_isBehind iX3_comesIn_16) <| okZEq (tl rfl) iX3_comesIn_19 <| okIc iX3_comesIn_22 <| okIstn iX3_comesIn_23 rfl (by decide) <| okM (okTo (tl rfl)))) (tLeaf (okIldn iX3_comesIn_24 rfl <| okBi iX3_comesIn_25 (by decide) <| okCGe (tl rfl) iX3_comesIn_27 <| okAldn iX3_comesIn_30 rfl <| okGet (vFgM) iX3_comesIn_31 <| okIldn iX3_comesIn_34 rfl <| okIldn iX3_comesIn_35 rfl <| okC2 (qM_X3_place iX3_comesIn_36) <| okIldn iX3_comesIn_39 rfl <| okAdd iX3_comesIn_40 <| okAldn iX3_comesIn_41 rfl <| okGet (vFgM) iX3_comesIn_42 <| okIldn iX3_comesIn_45 rfl <| okIldn iX3_comesIn_46 rfl <| okIc iX3_comesIn_47 <| okSub iX3_comesIn_48 <| okC2 (qM_X3_place iX3_comesIn_49) <| okIldn iX3_comesIn_52 rfl <| okAdd iX3_comesIn_53 <| okIa (vAgM) iX3_comesIn_54 <| okIas (vAgM) iX3_comesIn_55 <| okInc iX3_comesIn_56 (by decide) <| okGotoM (tl rfl) iX3_comesIn_59)))) (tNode (tNode (tLeaf (okInc iX3_comesIn_62 (by decide) <| okGotoM (tl rfl) iX3_comesIn_65)) (tLeaf (okIc iX3_comesIn_68 <| okIstn iX3_comesIn_69 rfl (by decide) <| okM (okTo (tl rfl))))) (tNode (tLeaf (okIldn iX3_comesIn_70 rfl <| okBi iX3_comesIn_71 (by decide) <| okCGe (tl rfl) iX3_comesIn_73 <| okAldn iX3_comesIn_76 rfl <| okGet (vFgM) iX3_comesIn_77 <| okIldn iX3_comesIn_80 rfl <| okIldn iX3_comesIn_81 rfl <| okC2 (qM_X3_place iX3_comesIn_82) <| okIldn iX3_comesIn_85 rfl <| okAdd iX3_comesIn_86 <| okAldn iX3_comesIn_87 rfl <| okGet (vFgM) iX3_comesIn_88 <| okIldn iX3_comesIn_91 rfl <| okIa (vAgM) iX3_comesIn_92 <| okIas (vAgM) iX3_comesIn_93 <| okInc iX3_comesIn_94 (by decide) <| okGotoM (tl rfl) iX3_comesIn_97)) (tLeaf (okAldn iX3_comesIn_100 rfl <| okIldn iX3_comesIn_101 rfl <| okIc iX3_comesIn_102 <| okIc iX3_comesIn_103 <| okC4 (qM_X3_adds iX3_comesIn_104) <| okIldn iX3_comesIn_107 rfl <| okIret iX3_comesIn_108 rfl))))) pc
def clL (k d i : Int) : Nat → Int → MS → MS
  | 0, _, s => s
  | m + 1, w, s => clL k d i m (w + 1) (mP s (k + w) (mg s ((d * 2804 + 364 + 7 * i) + w)))
abbrev pFi (s : MS) (d : Int) : Int := d * 2804 + 84 + 7 * Int.tmod (mClosed s d) 40
def mCl2 (s : MS) (d i : Int) : MS :=
  let k := mg s ((d * 2804 + 364 + 7 * i) + 0)
  let n := wI (mg s ((d * 2804 + 364 + 7 * i) + 2) - mg s ((d * 2804 + 364 + 7 * i) + 1))
  let s1 := mInc s (d * 2804 + (36 + k)) 1
  let s2 := mInc s1 (d * 2804 + (42 + k)) (mg s1 ((d * 2804 + 364 + 7 * i) + 3))
  let s3 := mInc s2 (d * 2804 + (48 + k)) (mg s2 ((d * 2804 + 364 + 7 * i) + 4))
  mP s3 (d * 2804 + (54 + k)) (max n (mg s3 (d * 2804 + (54 + k))))
def mClose (s : MS) (d i : Int) : MS := mOut (mCl2 (clL (pFi s d) d i 7 0 s) d i) d i
abbrev mCloseP (s : MS) (d i : Int) : Prop := (0 ≤ mg s ((d * 2804 + 364 + 7 * i) + 0) ∧ mg s ((d * 2804 + 364 + 7 * i) + 0) ≤ 5) ∧ -1 ≤ mg (mOut1 (mCl2 s d i) d) (d * 2804 + 5) ∧ mg (mOut1 (mCl2 s d i) d) (d * 2804 + 5) ≤ 160
theorem X3_closes_l {K : KM} {Pt : MS → Prop} (d i k : Int) (hd : dOk d) (hi : 0 ≤ i ∧ i ≤ 160) (hk : d * 2804 - 200 ≤ k ∧ k ≤ d * 2804 + 364) (hk0 : 0 ≤ k) : ∀ (m : Nat) (w : Int) (s : MS), 0 ≤ w → w ≤ 7 → m = (7 - w).toNat → mCloseP (clL k d i m w s) d i → K [] (mOut (mCl2 (clL k d i m w s) d i) d i) → wX encM bdM mX3_closes 0 0 K Pt 24 [some (pR 0), some (pI d), some (pI i), some (pI k), some (pI w), none] [] s := by
  intro m
  induction m with
  | zero =>
    intro w s h0 h1 hm hP hK
    refine wx_J [24] 9 tX3_closes_ok rfl (fun J hR hJ => ?_)
    rw [clL] at hP hK
    obtain ⟨⟨p1, p2⟩, p3, p4⟩ := hP
    have hmx : ∀ a b : Int, xB a → xB b → xB (max a b) := fun a b => max_B
    repeat' (first | exact p3 | exact p4 | (refine And.intro ?_ ?_) | (intro hq; first | (exact absurd hq (by omega)) | skip))
    all_goals first | omega | exact hR _ _ hK
  | succ m ih =>
    intro w s h0 h1 hm hP hK
    refine wx_J [24] 9 tX3_closes_ok rfl (fun J hR hJ => ?_)
    rw [clL] at hP hK
    have g := ih (w + 1) _ (by omega) (by omega) (by omega) hP hK
    repeat' (first | (refine And.intro ?_ ?_) | (intro hq; first | (exact absurd hq (by omega)) | skip))
    all_goals first | omega | exact hJ _ _ _ _ g
def sX3_closes : Int → Int → MS → KM → Prop := fun d i s K => (dOk d ∧ (0 ≤ i ∧ i ≤ 160) ∧ 0 ≤ pFi s d ∧ mCloseP (clL (pFi s d) d i 7 0 s) d i) ∧ K [] (mClose s d i)
theorem mX3_closes_ok : mOk encM bdM mX3_closes (atR 0 (a2 sX3_closes)) := by
  refine mOVa2 kX3_closes (fun _ _ => rfl) (fun d i s K h hb => wx_J [24] 9 tX3_closes_ok rfl (fun J hR hJ => ?_))
  obtain ⟨⟨h1, h2, h3, h4⟩, hK⟩ := h
  have t1 := Int.tmod_lt_of_pos (mClosed s d) (b := 40) (by omega)
  have t2 := Int.lt_tmod_of_pos (mClosed s d) (b := 40) (by omega)
  have h3 : 0 ≤ d * 2804 + 84 + 7 * Int.tmod (mClosed s d) 40 := h3
  have g := X3_closes_l (K := K) (Pt := fun _ => False) d i (d * 2804 + 84 + 7 * Int.tmod (mClosed s d) 40) h1 h2 ⟨by omega, by omega⟩ h3 7 0 s (by omega) (by omega) (by omega) h4 hK
  repeat' (first | (refine And.intro ?_ ?_) | (intro hq; first | (exact absurd hq (by omega)) | skip))
  all_goals first | omega | exact hJ _ _ _ _ g
def cM_X3_closes : Sp MS := atR 0 (a2 sX3_closes)
theorem qM_X3_closes {M : XI} {rc rs pc pc2 : Nat} (d : xl_Ca M pc mX3_closes pc2) : cOk encM bdM M rc rs pc pc2 3 cM_X3_closes := cSame mX3_closes_ok vX3_closes d mcl rfl lenM recM
end
-- 56.Mi
section
/-! ===== the model: a session comes in ===== -/
def cpL (a b : Int) : Nat → Int → MS → MS
  | 0, _, s => s
  | m + 1, k, s => cpL a b m (k + 1) (mP s (a + k) (mg s (b + k)))
def fpL2 (a : Int) : Nat → Int → MS → MS
  | 0, _, s => s
  | m + 1, k, s => fpL2 a m (k + 1) (mP s (a + k) (s.2 4 k.toNat))
def cmL (d : Int) : Nat → MS → Nat × MS
  | 0, s => (0, s)
  | i + 1, s => if mBehind s d (i : Int) then cmL d i (cpL ((d * 2804 + 364 + 7 * ((i : Int) + 1))) ((d * 2804 + 364 + 7 * (i : Int))) 7 0 s) else (i + 1, s)
def mIn (s : MS) (d : Int) : Nat × MS :=
  let p := cmL d (mg s (d * 2804 + 5)).toNat s
  (p.1, mInc (fpL2 ((d * 2804 + 364 + 7 * (p.1 : Int))) 7 0 p.2) (d * 2804 + 5) 1)
theorem X3_comesIn_l3 {K : KM} {Pt : MS → Prop} (d i : Int) (hd : dOk d) (hi : 0 ≤ i ∧ i ≤ 160) : ∀ (m : Nat) (k : Int) (s : MS), 0 ≤ k → k ≤ 7 → m = (7 - k).toNat → K [pI i] (mInc (fpL2 ((d * 2804 + 364 + 7 * i)) m k s) (d * 2804 + 5) 1) → wX encM bdM mX3_comesIn 0 0 K Pt 70 [some (pR 0), some (pI d), some (pI i), some (pI k)] [] s := by
  intro m
  induction m with
  | zero =>
    intro k s h0 h1 hm hK
    refine wx_J [7, 24, 70] 9 tX3_comesIn_ok rfl (fun J hR hJ => ?_)
    repeat' (first | (refine And.intro ?_ ?_) | (intro hq; first | (exact absurd hq (by omega)) | skip))
    all_goals first | omega | exact hR _ _ hK
  | succ m ih =>
    intro k s h0 h1 hm hK
    refine wx_J [7, 24, 70] 9 tX3_comesIn_ok rfl (fun J hR hJ => ?_)
    rw [fpL2] at hK
    have g := ih (k + 1) _ (by omega) (by omega) (by omega) hK
    repeat' (first | (refine And.intro ?_ ?_) | (intro hq; first | (exact absurd hq (by omega)) | skip))
    all_goals first | omega | exact hJ _ _ _ _ g
theorem X3_comesIn_l2 {K : KM} {Pt : MS → Prop} (d i : Int) (hd : dOk d) (hi : 1 ≤ i ∧ i ≤ 160) (x : MS → Prop) (hx : ∀ s, x s → wX encM bdM mX3_comesIn 0 0 K Pt 7 [some (pR 0), some (pI d), some (pI (i + -1)), none] [] s) : ∀ (m : Nat) (k : Int) (s : MS), 0 ≤ k → k ≤ 7 → m = (7 - k).toNat → x (cpL ((d * 2804 + 364 + 7 * i)) ((d * 2804 + 364 + 7 * (i - 1))) m k s) → wX encM bdM mX3_comesIn 0 0 K Pt 24 [some (pR 0), some (pI d), some (pI i), some (pI k)] [] s := by
  intro m
  induction m with
  | zero =>
    intro k s h0 h1 hm hK
    have g := hx _ hK
    refine wx_J [7, 24, 70] 9 tX3_comesIn_ok rfl (fun J hR hJ => ?_)
    repeat' (first | (refine And.intro ?_ ?_) | (intro hq; first | (exact absurd hq (by omega)) | skip))
    all_goals first | omega | exact hJ _ _ _ _ g
  | succ m ih =>
    intro k s h0 h1 hm hK
    refine wx_J [7, 24, 70] 9 tX3_comesIn_ok rfl (fun J hR hJ => ?_)
    rw [cpL] at hK
    have g := ih (k + 1) _ (by omega) (by omega) (by omega) hK
    repeat' (first | (refine And.intro ?_ ?_) | (intro hq; first | (exact absurd hq (by omega)) | skip))
    all_goals first | omega | exact hJ _ _ _ _ g
theorem X3_comesIn_l1 {K : KM} {Pt : MS → Prop} (d : Int) (hd : dOk d) : ∀ (i : Nat) (s : MS), (i : Int) ≤ 160 → K [pI ((cmL d i s).1 : Int)] (mInc (fpL2 ((d * 2804 + 364 + 7 * ((cmL d i s).1 : Int))) 7 0 (cmL d i s).2) (d * 2804 + 5) 1) → wX encM bdM mX3_comesIn 0 0 K Pt 7 [some (pR 0), some (pI d), some (pI i), none] [] s := by
  intro i
  induction i with
  | zero =>
    intro s h1 hK
    refine wx_J [7, 24, 70] 9 tX3_comesIn_ok rfl (fun J hR hJ => ?_)
    rw [cmL] at hK
    have g := X3_comesIn_l3 (K := K) (Pt := Pt) d 0 hd (by omega) 7 0 s (by omega) (by omega) (by omega) hK
    repeat' (first | (refine And.intro ?_ ?_) | (intro hq; first | (exact absurd hq (by omega)) | skip))
    all_goals first | omega | exact hJ _ _ _ _ g
  | succ i ih =>
    intro s h1 hK
    refine wx_J [7, 24, 70] 9 tX3_comesIn_ok rfl (fun J hR hJ => ?_)
    rw [cmL] at hK
    have e0 : ((i + 1 : Nat) : Int) = (i : Int) + 1 := by omega
    have e1 : (i : Int) + 1 - 1 = (i : Int) := by omega
    have e2 : (i : Int) + 1 + -1 = (i : Int) := by omega
    rw [e0]
    rw [e0] at h1
    by_cases c : mBehind s d (i : Int)
    · rw [if_pos c] at hK
      have g := X3_comesIn_l2 (K := K) (Pt := Pt) d ((i : Int) + 1) hd ⟨by omega, by omega⟩ (fun s' => s' = cpL ((d * 2804 + 364 + 7 * ((i : Int) + 1))) ((d * 2804 + 364 + 7 * (i : Int))) 7 0 s) (fun s' e => by
        subst e
        rw [e2]
        exact ih _ (by omega) hK) 7 0 s (by omega) (by omega) (by omega) (by rw [e1])
      have c2 : mBehind s d ((i : Int) + 1 - 1) := by rw [e1]; exact c
      repeat' (first | (refine And.intro ?_ ?_) | (intro hq; first | (exact absurd hq (by omega)) | skip))
      all_goals first | omega | exact hJ _ _ _ _ g | (exact absurd c2 ‹_›)
    · rw [if_neg c] at hK
      have g := X3_comesIn_l3 (K := K) (Pt := Pt) d ((i : Int) + 1) hd ⟨by omega, by omega⟩ 7 0 s (by omega) (by omega) (by omega) (by rw [e0] at hK; exact hK)
      have c2 : ¬ mBehind s d ((i : Int) + 1 - 1) := by rw [e1]; exact c
      repeat' (first | (refine And.intro ?_ ?_) | (intro hq; first | (exact absurd hq (by omega)) | skip))
      all_goals first | omega | exact hJ _ _ _ _ g | (exact absurd ‹_› c2)
def sX3_comesIn : Int → MS → KM → Prop := fun d s K => (dOk d ∧ 0 ≤ mg s (d * 2804 + 5) ∧ mg s (d * 2804 + 5) ≤ 160) ∧ (0 ≤ ((mIn s d).1 : Int) → ((mIn s d).1 : Int) ≤ 160 → K [pI ((mIn s d).1 : Int)] (mIn s d).2)
theorem cmL_b (d : Int) : ∀ (i : Nat) (s : MS), (cmL d i s).1 ≤ i
  | 0, s => by simp [cmL]
  | i + 1, s => by
    unfold cmL
    split
    · have := cmL_b d i (cpL ((d * 2804 + 364 + 7 * ((i : Int) + 1))) ((d * 2804 + 364 + 7 * (i : Int))) 7 0 s)
      omega
    · exact Nat.le_refl _
theorem mX3_comesIn_ok : mOk encM bdM mX3_comesIn (atR 0 (a1 sX3_comesIn)) := by
  refine mOVa1 kX3_comesIn (fun _ => rfl) (fun d s K h hb => wx_J [7, 24, 70] 9 tX3_comesIn_ok rfl (fun J hR hJ => ?_))
  obtain ⟨⟨h1, h2, h3⟩, h4⟩ := h
  have hc := cmL_b d (mg s (d * 2804 + 5)).toNat s
  have hK := h4 (by omega) (by show ((cmL d (mg s (d * 2804 + 5)).toNat s).1 : Int) ≤ 160; omega)
  have g := X3_comesIn_l1 (K := K) (Pt := fun _ => False) d h1 (mg s (d * 2804 + 5)).toNat s (by omega) hK
  rw [show ((mg s (d * 2804 + 5)).toNat : Int) = mg s (d * 2804 + 5) by omega] at g
  repeat' (first | (refine And.intro ?_ ?_) | (intro hq; first | (exact absurd hq (by omega)) | skip))
  all_goals first | omega | exact hJ _ _ _ _ g
def cM_X3_comesIn : Sp MS := atR 0 (a1 sX3_comesIn)
theorem qM_X3_comesIn {M : XI} {rc rs pc pc2 : Nat} (d : xl_Ca M pc mX3_comesIn pc2) : cOk encM bdM M rc rs pc pc2 2 cM_X3_comesIn := cSame mX3_comesIn_ok vX3_comesIn d mcl rfl lenM recM
-- X3_rises: heads [44, 106]
def tX3_rises : Nat → Blk MS := fun pc => bif Nat.blt pc 99 then (bif Nat.blt pc 19 then (bif Nat.beq pc 0 then (oAld 0 <| oIld 1 <| oC2 (cM_X3_leastMark) <| oIst 2 <| oAld 0 <| oIld 1 <| oI 4 <| oC3 (cM_X3_of) <| oIst 3 <| oIld 2 <| oIld 3 <| oCGt 19 <| oVret) else oNo) else (bif Nat.blt pc 44 then (bif Nat.beq pc 19 then (oAld 0 <| oIld 1 <| oI 4 <| oIld 2 <| oC4 (cM_X3_puts) <| oAld 0 <| oI (-1) <| oPut (fpM) 3 10 <| oAld 0 <| oI (-1) <| oPut (fpM) 3 11 <| oAld 0 <| oIld 1 <| oIld 3 <| oC3 (cM_X3_firstRipe) <| oIst 4 <| oM [true, true, false, true, true] (oTo 44)) else oNo) else (bif Nat.beq pc 44 then (oIld 4 <| oZLt 99 <| oAld 0 <| oIld 1 <| oIld 4 <| oC3 (cM_X3_takesBack) <| oAld 0 <| oIld 1 <| oI 1 <| oIld 4 <| oC4 (cM_X3_sends) <| oAld 0 <| oAld 0 <| oIld 1 <| oIld 4 <| oI 2 <| oC4 (cM_X3_ofSession) <| oPut (fpM) 3 10 <| oAld 0 <| oAld 0 <| oIld 1 <| oIld 4 <| oI 0 <| oC4 (cM_X3_ofSession) <| oPut (fpM) 3 11 <| oAld 0 <| oIld 1 <| oIld 3 <| oC3 (cM_X3_firstRipe) <| oIst 4 <| oM [true, true, false, true, true] (oTo 44)) else oNo))) else (bif Nat.blt pc 106 then (bif Nat.beq pc 99 then (oAld 0 <| oIld 1 <| oC2 (cM_X3_firstClosed) <| oIst 4 <| oM [true, true, false, false, true] (oTo 106)) else oNo) else (bif Nat.blt pc 128 then (bif Nat.beq pc 106 then (oIld 4 <| oZLt 128 <| oAld 0 <| oIld 1 <| oIld 4 <| oC3 (cM_X3_closes) <| oAld 0 <| oIld 1 <| oC2 (cM_X3_firstClosed) <| oIst 4 <| oM [true, true, false, false, true] (oTo 106)) else oNo) else (bif Nat.beq pc 128 then (oVret) else oNo)))
theorem tX3_rises_ok : ∀ pc, bOk (encM) (bdM) mX3_rises 0 0 pc (tX3_rises pc) := fun pc => (tNode (tNode (tLeaf (okAldn iX3_rises_0 rfl <| okIldn iX3_rises_1 rfl <| okC2 (qM_X3_leastMark iX3_rises_2) <| okIstn iX3_rises_5 rfl (by decide) <| okAldn iX3_rises_6 rfl <| okIldn iX3_rises_7 rfl <| okIc iX3_rises_8 <| okC3 (qM_X3_of iX3_rises_9) <| okIstn iX3_rises_12 rfl (by decide) <| okIldn iX3_rises_13 rfl <| okIldn iX3_rises_14 rfl <| okCGt (tl rfl) iX3_rises_15 <| okVret iX3_rises_18 rfl)) (tNode (tLeaf (okAldn iX3_rises_19 rfl <| okIldn iX3_rises_20 rfl <| okIc iX3_rises_21 <| okIldn iX3_rises_22 rfl <| okC4 (qM_X3_puts iX3_rises_23) <| okAldn iX3_rises_26 rfl <| okIc iX3_rises_27 <| okPut (vFpM) iX3_rises_28 <| okAldn iX3_rises_31 rfl <| okIc iX3_rises_32 <| okPut (vFpM) iX3_rises_33 <| okAldn iX3_rises_36 rfl <| okIldn iX3_rises_37 rfl <| okIldn iX3_rises_38 rfl <| okC3 (qM_X3_firstRipe iX3_rises_39) <| okIst iX3_rises_42 (by decide) <| okM (okTo (tl rfl)))) (tLeaf (okIld iX3_rises_44 <| okZLt (tl rfl) iX3_rises_46 <| okAldn iX3_rises_49 rfl <| okIldn iX3_rises_50 rfl <| okIld iX3_rises_51 <| okC3 (qM_X3_takesBack iX3_rises_53) <| okAldn iX3_rises_56 rfl <| okIldn iX3_rises_57 rfl <| okIc iX3_rises_58 <| okIld iX3_rises_59 <| okC4 (qM_X3_sends iX3_rises_61) <| okAldn iX3_rises_64 rfl <| okAldn iX3_rises_65 rfl <| okIldn iX3_rises_66 rfl <| okIld iX3_rises_67 <| okIc iX3_rises_69 <| okC4 (qM_X3_ofSession iX3_rises_70) <| okPut (vFpM) iX3_rises_73 <| okAldn iX3_rises_76 rfl <| okAldn iX3_rises_77 rfl <| okIldn iX3_rises_78 rfl <| okIld iX3_rises_79 <| okIc iX3_rises_81 <| okC4 (qM_X3_ofSession iX3_rises_82) <| okPut (vFpM) iX3_rises_85 <| okAldn iX3_rises_88 rfl <| okIldn iX3_rises_89 rfl <| okIldn iX3_rises_90 rfl <| okC3 (qM_X3_firstRipe iX3_rises_91) <| okIst iX3_rises_94 (by decide) <| okGotoM (tl rfl) iX3_rises_96)))) (tNode (tLeaf (okAldn iX3_rises_99 rfl <| okIldn iX3_rises_100 rfl <| okC2 (qM_X3_firstClosed iX3_rises_101) <| okIst iX3_rises_104 (by decide) <| okM (okTo (tl rfl)))) (tNode (tLeaf (okIld iX3_rises_106 <| okZLt (tl rfl) iX3_rises_108 <| okAldn iX3_rises_111 rfl <| okIldn iX3_rises_112 rfl <| okIld iX3_rises_113 <| okC3 (qM_X3_closes iX3_rises_115) <| okAldn iX3_rises_118 rfl <| okIldn iX3_rises_119 rfl <| okC2 (qM_X3_firstClosed iX3_rises_120) <| okIst iX3_rises_123 (by decide) <| okGotoM (tl rfl) iX3_rises_125)) (tLeaf (okVret iX3_rises_128 rfl))))) pc
/-- what gets ripe, one behind another -/
def mRi1 (s : MS) (d i : Int) : MS :=
  let s2 := mSend (mTake s d i) d 1 i
  mS (mS s2 10 (mg s2 ((d * 2804 + 364 + 7 * i) + 2))) 11 (mg s2 ((d * 2804 + 364 + 7 * i) + 0))
abbrev mRiP (s : MS) (d i : Int) : Prop := mTakeP s d i ∧ mI (d * 2804 + (60 + 4 * mg (mSend4 (mTake s d i) d 1 i) ((d * 2804 + 364 + 7 * i) + 0) + 1)) ∧ mg (mRi1 s d i) (d * 2804 + 5) ≤ 161
def rrP (d wa : Int) (K : MS → Prop) : Nat → Int → MS → Prop
  | 0, i, s => i < 0 ∧ K s
  | n + 1, i, s => (i < 0 → K s) ∧ (0 ≤ i → mRiP s d i ∧ rrP d wa K n (mFirstR (mRi1 s d i) d wa) (mRi1 s d i))
abbrev mClP (s : MS) (d i : Int) : Prop := 0 ≤ pFi s d ∧ mCloseP (clL (pFi s d) d i 7 0 s) d i ∧ mg (mClose s d i) (d * 2804 + 5) ≤ 161
def ccP (d : Int) (K : MS → Prop) : Nat → Int → MS → Prop
  | 0, i, s => i < 0 ∧ K s
  | n + 1, i, s => (i < 0 → K s) ∧ (0 ≤ i → mClP s d i ∧ ccP d K n (mFirstC (mClose s d i) d) (mClose s d i))
def mRise0 (s : MS) (d : Int) : MS := mS (mS (mP s (d * 2804 + 4) (mLeast s d)) 10 (-1)) 11 (-1)
def mRisP (s : MS) (d : Int) (n : Nat) (K : MS → Prop) : Prop := (mLeast s d ≤ mg s (d * 2804 + 4) → K s) ∧ (mg s (d * 2804 + 4) < mLeast s d → mg (mRise0 s d) (d * 2804 + 5) ≤ 161 ∧ rrP d (mg s (d * 2804 + 4)) (fun s1 => mg s1 (d * 2804 + 5) ≤ 161 ∧ ccP d K n (mFirstC s1 d) s1) n (mFirstR (mRise0 s d) d (mg s (d * 2804 + 4))) (mRise0 s d))
theorem X3_rises_l2 {K : KM} {Pt : MS → Prop} (d : Int) (hd : dOk d) : ∀ (n : Nat) (i : Int) (s : MS), -1 ≤ i → i ≤ 160 → ccP d (K []) n i s → wX encM bdM mX3_rises 0 0 K Pt 106 [some (pR 0), some (pI d), none, none, some (pI i)] [] s := by
  intro n
  induction n with
  | zero =>
    intro i s h0 h1 h
    refine wx_J [44, 106] 9 tX3_rises_ok rfl (fun J hR hJ => ?_)
    obtain ⟨c, hK⟩ := h
    repeat' (first | (refine And.intro ?_ ?_) | (intro hq; first | (exact absurd hq (by omega)) | skip))
    all_goals first | omega | exact hR _ _ hK
  | succ n ih =>
    intro i s h0 h1 h
    refine wx_J [44, 106] 9 tX3_rises_ok rfl (fun J hR hJ => ?_)
    obtain ⟨ha, hc⟩ := h
    refine ⟨⟨by omega, by omega⟩, fun c => hR _ _ (ha c), fun c => ?_⟩
    obtain ⟨⟨p1, p2, p3⟩, hn⟩ := hc c
    exact ⟨⟨hd, ⟨c, h1⟩, p1, p2⟩, ⟨hd, p3⟩, fun q0 q1 => hJ _ _ _ _ (ih _ _ q0 q1 hn)⟩
theorem X3_rises_l1 {K : KM} {Pt : MS → Prop} (d wa : Int) (hd : dOk d) (hw : xB wa) (n2 : Nat) : ∀ (n : Nat) (i : Int) (s : MS), -1 ≤ i → i ≤ 160 → rrP d wa (fun s1 => mg s1 (d * 2804 + 5) ≤ 161 ∧ ccP d (K []) n2 (mFirstC s1 d) s1) n i s → wX encM bdM mX3_rises 0 0 K Pt 44 [some (pR 0), some (pI d), none, some (pI wa), some (pI i)] [] s := by
  intro n
  induction n with
  | zero =>
    intro i s h0 h1 h
    refine wx_J [44, 106] 9 tX3_rises_ok rfl (fun J hR hJ => ?_)
    obtain ⟨c, hs, hK⟩ := h
    exact ⟨⟨by omega, by omega⟩, fun _ => ⟨⟨hd, hs⟩, fun q0 q1 => hJ _ _ _ _ (X3_rises_l2 d hd n2 _ _ q0 q1 hK)⟩, fun q => absurd q (by omega)⟩
  | succ n ih =>
    intro i s h0 h1 h
    refine wx_J [44, 106] 9 tX3_rises_ok rfl (fun J hR hJ => ?_)
    obtain ⟨ha, hc⟩ := h
    refine ⟨⟨by omega, by omega⟩, fun c => ?_, fun c => ?_⟩
    · obtain ⟨hs, hK⟩ := ha c
      exact ⟨⟨hd, hs⟩, fun q0 q1 => hJ _ _ _ _ (X3_rises_l2 d hd n2 _ _ q0 q1 hK)⟩
    · obtain ⟨⟨p1, p2, p3⟩, hn⟩ := hc c
      refine ⟨⟨hd, ⟨c, h1⟩, p1⟩, ⟨⟨hd, ⟨by omega, by omega⟩, ⟨c, h1⟩, p2⟩, ?_⟩⟩
      refine ⟨⟨by omega, by omega⟩, fun b2 => ⟨b2, ⟨⟨by omega, by omega⟩, fun b0 => ⟨b0, ⟨⟨hd, hw, p3⟩, fun q0 q1 => hJ _ _ _ _ (ih _ _ q0 q1 hn)⟩⟩⟩⟩⟩
def sX3_rises : Int → MS → KM → Prop := fun d s K => (dOk d ∧ mg s (d * 2804 + 0) ≤ 4) ∧ ∃ n, mRisP s d n (K [])
theorem mX3_rises_ok : mOk encM bdM mX3_rises (atR 0 (a1 sX3_rises)) := by
  refine mOVa1 kX3_rises (fun _ => rfl) (fun d s K h hb => wx_J [44, 106] 9 tX3_rises_ok rfl (fun J hR hJ => ?_))
  obtain ⟨⟨h1, h2⟩, n, h3, h4⟩ := h
  refine ⟨⟨h1, h2⟩, fun hl => ⟨⟨by omega, by omega⟩, fun hp => ⟨⟨hl, hp⟩, fun c => ?_, fun c => ?_⟩⟩⟩
  · obtain ⟨hs, hr⟩ := h4 c
    refine ⟨⟨⟨by omega, by omega⟩, hl⟩, ⟨by omega, by omega⟩, ⟨by omega, by omega⟩, ⟨⟨h1, hp, hs⟩, fun q0 q1 => hJ _ _ _ _ (X3_rises_l1 d _ h1 hp n n _ _ q0 q1 hr)⟩⟩
  · exact hR _ _ (h3 c)
def cM_X3_rises : Sp MS := atR 0 (a1 sX3_rises)
theorem qM_X3_rises {M : XI} {rc rs pc pc2 : Nat} (d : xl_Ca M pc mX3_rises pc2) : cOk encM bdM M rc rs pc pc2 2 cM_X3_rises := cSame mX3_rises_ok vX3_rises d mcl rfl lenM recM
end
-- 57.Mj
section
/-! ===== the model: an event joins, comes ===== -/
-- X3_notes: heads []
def tX3_notes : Nat → Blk MS := fun pc => bif Nat.beq pc 0 then (oIld 1 <| oI 2804 <| oMul <| oI 1844 <| oAdd <| oI 6 <| oAld 0 <| oIld 1 <| oI 6 <| oC3 (cM_X3_of) <| oMul <| oAdd <| oIst 8 <| oAld 0 <| oGet (fgM) 3 7 <| oIld 8 <| oI 0 <| oAdd <| oIld 2 <| oIas (agM) (apM) <| oAld 0 <| oGet (fgM) 3 7 <| oIld 8 <| oI 1 <| oAdd <| oIld 3 <| oIas (agM) (apM) <| oAld 0 <| oGet (fgM) 3 7 <| oIld 8 <| oI 2 <| oAdd <| oIld 4 <| oIas (agM) (apM) <| oAld 0 <| oGet (fgM) 3 7 <| oIld 8 <| oI 3 <| oAdd <| oIld 5 <| oIas (agM) (apM) <| oAld 0 <| oGet (fgM) 3 7 <| oIld 8 <| oI 4 <| oAdd <| oIld 6 <| oIas (agM) (apM) <| oAld 0 <| oGet (fgM) 3 7 <| oIld 8 <| oI 5 <| oAdd <| oIld 7 <| oIas (agM) (apM) <| oAld 0 <| oIld 1 <| oI 6 <| oI 1 <| oC4 (cM_X3_adds) <| oVret) else oNo
theorem tX3_notes_ok : ∀ pc, bOk (encM) (bdM) mX3_notes 0 0 pc (tX3_notes pc) := fun pc => (tLeaf (okIldn iX3_notes_0 rfl <| okSi iX3_notes_1 (by decide) <| okMul iX3_notes_4 <| okSi iX3_notes_5 (by decide) <| okAdd iX3_notes_8 <| okBi iX3_notes_9 (by decide) <| okAldn iX3_notes_11 rfl <| okIldn iX3_notes_12 rfl <| okBi iX3_notes_13 (by decide) <| okC3 (qM_X3_of iX3_notes_15) <| okMul iX3_notes_18 <| okAdd iX3_notes_19 <| okIst iX3_notes_20 (by decide) <| okAldn iX3_notes_22 rfl <| okGet (vFgM) iX3_notes_23 <| okIld iX3_notes_26 <| okIc iX3_notes_28 <| okAdd iX3_notes_29 <| okIldn iX3_notes_30 rfl <| okIas (vAgM) iX3_notes_31 <| okAldn iX3_notes_32 rfl <| okGet (vFgM) iX3_notes_33 <| okIld iX3_notes_36 <| okIc iX3_notes_38 <| okAdd iX3_notes_39 <| okIldn iX3_notes_40 rfl <| okIas (vAgM) iX3_notes_41 <| okAldn iX3_notes_42 rfl <| okGet (vFgM) iX3_notes_43 <| okIld iX3_notes_46 <| okIc iX3_notes_48 <| okAdd iX3_notes_49 <| okIld iX3_notes_50 <| okIas (vAgM) iX3_notes_52 <| okAldn iX3_notes_53 rfl <| okGet (vFgM) iX3_notes_54 <| okIld iX3_notes_57 <| okIc iX3_notes_59 <| okAdd iX3_notes_60 <| okIld iX3_notes_61 <| okIas (vAgM) iX3_notes_63 <| okAldn iX3_notes_64 rfl <| okGet (vFgM) iX3_notes_65 <| okIld iX3_notes_68 <| okIc iX3_notes_70 <| okAdd iX3_notes_71 <| okIld iX3_notes_72 <| okIas (vAgM) iX3_notes_74 <| okAldn iX3_notes_75 rfl <| okGet (vFgM) iX3_notes_76 <| okIld iX3_notes_79 <| okIc iX3_notes_81 <| okAdd iX3_notes_82 <| okIld iX3_notes_83 <| okIas (vAgM) iX3_notes_85 <| okAldn iX3_notes_86 rfl <| okIldn iX3_notes_87 rfl <| okBi iX3_notes_88 (by decide) <| okIc iX3_notes_90 <| okC4 (qM_X3_adds iX3_notes_91) <| okVret iX3_notes_94 rfl)) pc
-- X3_joins: heads [60, 116]
def tX3_joins : Nat → Blk MS := fun pc => bif Nat.blt pc 243 then (bif Nat.blt pc 100 then (bif Nat.blt pc 60 then (bif Nat.beq pc 0 then (oAld 0 <| oI 0 <| oPut (fpM) 3 12 <| oAld 0 <| oGet (fgM) 3 9 <| oI 0 <| oIld 2 <| oIas (agM) (apM) <| oAld 0 <| oGet (fgM) 3 9 <| oI 1 <| oIld 3 <| oIas (agM) (apM) <| oAld 0 <| oGet (fgM) 3 9 <| oI 2 <| oIld 3 <| oIas (agM) (apM) <| oAld 0 <| oGet (fgM) 3 9 <| oI 3 <| oI 1 <| oIas (agM) (apM) <| oAld 0 <| oGet (fgM) 3 9 <| oI 4 <| oIld 4 <| oIas (agM) (apM) <| oAld 0 <| oGet (fgM) 3 9 <| oI 5 <| oIld 4 <| oIas (agM) (apM) <| oAld 0 <| oGet (fgM) 3 9 <| oI 6 <| oI 0 <| oIas (agM) (apM) <| oI 0 <| oIst 5 <| oM [true, true, true, true, false, true, false] (oTo 60)) else oNo) else (bif Nat.beq pc 60 then (oIld 5 <| oAld 0 <| oIld 1 <| oI 5 <| oC3 (cM_X3_of) <| oCGe 106 <| oAld 0 <| oIld 1 <| oIld 5 <| oIld 2 <| oIld 3 <| oC5 (cM_X3_melts) <| oZEq 100 <| oAld 0 <| oIld 1 <| oIld 5 <| oC3 (cM_X3_takesBack) <| oAld 0 <| oDup <| oGet (fgM) 3 12 <| oI 1 <| oAddW <| oPut (fpM) 3 12 <| oTo 100) else oNo)) else (bif Nat.blt pc 106 then (bif Nat.beq pc 100 then (oInc 5 1 <| oM [true, true, true, true, false, true, false] (oTo 60)) else oNo) else (bif Nat.blt pc 116 then (bif Nat.beq pc 106 then (oAld 0 <| oIld 1 <| oI 5 <| oC3 (cM_X3_of) <| oI 1 <| oSubW <| oIst 5 <| oM [true, true, true, true, false, true, false] (oTo 116)) else oNo) else (bif Nat.beq pc 116 then (oIld 5 <| oZLt 249 <| oAld 0 <| oIld 1 <| oIld 5 <| oIld 2 <| oIld 3 <| oC5 (cM_X3_melts) <| oZEq 243 <| oAld 0 <| oGet (fgM) 3 9 <| oI 1 <| oAld 0 <| oGet (fgM) 3 9 <| oI 1 <| oIa (agM) <| oAld 0 <| oIld 1 <| oIld 5 <| oI 1 <| oC4 (cM_X3_ofSession) <| oMin <| oIas (agM) (apM) <| oAld 0 <| oGet (fgM) 3 9 <| oI 2 <| oAld 0 <| oGet (fgM) 3 9 <| oI 2 <| oIa (agM) <| oAld 0 <| oIld 1 <| oIld 5 <| oI 2 <| oC4 (cM_X3_ofSession) <| oMax <| oIas (agM) (apM) <| oAld 0 <| oGet (fgM) 3 9 <| oI 3 <| oDup2 <| oIa (agM) <| oAld 0 <| oIld 1 <| oIld 5 <| oI 3 <| oC4 (cM_X3_ofSession) <| oAddW <| oIas (agM) (apM) <| oAld 0 <| oGet (fgM) 3 9 <| oI 4 <| oDup2 <| oIa (agM) <| oAld 0 <| oIld 1 <| oIld 5 <| oI 4 <| oC4 (cM_X3_ofSession) <| oAddW <| oIas (agM) (apM) <| oAld 0 <| oGet (fgM) 3 9 <| oI 5 <| oAld 0 <| oGet (fgM) 3 9 <| oI 5 <| oIa (agM) <| oAld 0 <| oIld 1 <| oIld 5 <| oI 5 <| oC4 (cM_X3_ofSession) <| oMax <| oIas (agM) (apM) <| oAld 0 <| oIld 1 <| oIld 5 <| oC3 (cM_X3_goesOut) <| oTo 243) else oNo)))) else (bif Nat.blt pc 266 then (bif Nat.blt pc 249 then (bif Nat.beq pc 243 then (oInc 5 (-1) <| oM [true, true, true, true, false, true, false] (oTo 116)) else oNo) else (bif Nat.blt pc 265 then (bif Nat.beq pc 249 then (oAld 0 <| oIld 1 <| oI 11 <| oAld 0 <| oGet (fgM) 3 12 <| oI 1 <| oCLe 265 <| oI 1 <| oTo 266) else oNo) else (bif Nat.beq pc 265 then (oI 0 <| oTo 266) else oNo))) else (bif Nat.blt pc 314 then (bif Nat.beq pc 266 then (oC1 (cM_X3_flag) <| oC4 (cM_X3_adds) <| oAld 0 <| oIld 1 <| oC2 (cM_X3_comesIn) <| oIst 5 <| oAld 0 <| oIld 1 <| oI 3 <| oC3 (cM_X3_of) <| oIst 6 <| oAld 0 <| oIld 1 <| oIld 5 <| oAld 0 <| oIld 1 <| oI 4 <| oC3 (cM_X3_of) <| oC4 (cM_X3_isRipeBy) <| oZEq 314 <| oAld 0 <| oIld 1 <| oI 2 <| oIld 5 <| oC4 (cM_X3_sends) <| oTo 339) else oNo) else (bif Nat.blt pc 339 then (bif Nat.beq pc 314 then (oIld 6 <| oZLe 339 <| oAld 0 <| oGet (fgM) 3 9 <| oI 3 <| oIa (agM) <| oIld 6 <| oRemT <| oZNe 339 <| oAld 0 <| oIld 1 <| oI 0 <| oIld 5 <| oC4 (cM_X3_sends) <| oTo 339) else oNo) else (bif Nat.beq pc 339 then (oVret) else oNo))))
theorem tX3_joins_ok : ∀ pc, bOk (encM) (bdM) mX3_joins 0 0 pc (tX3_joins pc) := fun pc => (tNode (tNode (tNode (tLeaf (okAldn iX3_joins_0 rfl <| okIc iX3_joins_1 <| okPut (vFpM) iX3_joins_2 <| okAldn iX3_joins_5 rfl <| okGet (vFgM) iX3_joins_6 <| okIc iX3_joins_9 <| okIldn iX3_joins_10 rfl <| okIas (vAgM) iX3_joins_11 <| okAldn iX3_joins_12 rfl <| okGet (vFgM) iX3_joins_13 <| okIc iX3_joins_16 <| okIldn iX3_joins_17 rfl <| okIas (vAgM) iX3_joins_18 <| okAldn iX3_joins_19 rfl <| okGet (vFgM) iX3_joins_20 <| okIc iX3_joins_23 <| okIldn iX3_joins_24 rfl <| okIas (vAgM) iX3_joins_25 <| okAldn iX3_joins_26 rfl <| okGet (vFgM) iX3_joins_27 <| okIc iX3_joins_30 <| okIc iX3_joins_31 <| okIas (vAgM) iX3_joins_32 <| okAldn iX3_joins_33 rfl <| okGet (vFgM) iX3_joins_34 <| okIc iX3_joins_37 <| okIld iX3_joins_38 <| okIas (vAgM) iX3_joins_40 <| okAldn iX3_joins_41 rfl <| okGet (vFgM) iX3_joins_42 <| okIc iX3_joins_45 <| okIld iX3_joins_46 <| okIas (vAgM) iX3_joins_48 <| okAldn iX3_joins_49 rfl <| okGet (vFgM) iX3_joins_50 <| okBi iX3_joins_53 (by decide) <| okIc iX3_joins_55 <| okIas (vAgM) iX3_joins_56 <| okIc iX3_joins_57 <| okIst iX3_joins_58 (by decide) <| okM (okTo (tl rfl)))) (tLeaf (okIld iX3_joins_60 <| okAldn iX3_joins_62 rfl <| okIldn iX3_joins_63 rfl <| okIc iX3_joins_64 <| okC3 (qM_X3_of iX3_joins_65) <| okCGe (tl rfl) iX3_joins_68 <| okAldn iX3_joins_71 rfl <| okIldn iX3_joins_72 rfl <| okIld iX3_joins_73 <| okIldn iX3_joins_75 rfl <| okIldn iX3_joins_76 rfl <| okC5 (qM_X3_melts iX3_joins_77) <| okZEq (tl rfl) iX3_joins_80 <| okAldn iX3_joins_83 rfl <| okIldn iX3_joins_84 rfl <| okIld iX3_joins_85 <| okC3 (qM_X3_takesBack iX3_joins_87) <| okAldn iX3_joins_90 rfl <| okDup iX3_joins_91 <| okGet (vFgM) iX3_joins_92 <| okIc iX3_joins_95 <| okAddW iX3_joins_96 <| okPut (vFpM) iX3_joins_97 <| okTo (tl rfl)))) (tNode (tLeaf (okInc iX3_joins_100 (by decide) <| okGotoM (tl rfl) iX3_joins_103)) (tNode (tLeaf (okAldn iX3_joins_106 rfl <| okIldn iX3_joins_107 rfl <| okIc iX3_joins_108 <| okC3 (qM_X3_of iX3_joins_109) <| okIc iX3_joins_112 <| okSubW iX3_joins_113 <| okIst iX3_joins_114 (by decide) <| okM (okTo (tl rfl)))) (tLeaf (okIld iX3_joins_116 <| okZLt (tl rfl) iX3_joins_118 <| okAldn iX3_joins_121 rfl <| okIldn iX3_joins_122 rfl <| okIld iX3_joins_123 <| okIldn iX3_joins_125 rfl <| okIldn iX3_joins_126 rfl <| okC5 (qM_X3_melts iX3_joins_127) <| okZEq (tl rfl) iX3_joins_130 <| okAldn iX3_joins_133 rfl <| okGet (vFgM) iX3_joins_134 <| okIc iX3_joins_137 <| okAldn iX3_joins_138 rfl <| okGet (vFgM) iX3_joins_139 <| okIc iX3_joins_142 <| okIa (vAgM) iX3_joins_143 <| okAldn iX3_joins_144 rfl <| okIldn iX3_joins_145 rfl <| okIld iX3_joins_146 <| okIc iX3_joins_148 <| okC4 (qM_X3_ofSession iX3_joins_149) <| okMin iX3_joins_152 <| okIas (vAgM) iX3_joins_155 <| okAldn iX3_joins_156 rfl <| okGet (vFgM) iX3_joins_157 <| okIc iX3_joins_160 <| okAldn iX3_joins_161 rfl <| okGet (vFgM) iX3_joins_162 <| okIc iX3_joins_165 <| okIa (vAgM) iX3_joins_166 <| okAldn iX3_joins_167 rfl <| okIldn iX3_joins_168 rfl <| okIld iX3_joins_169 <| okIc iX3_joins_171 <| okC4 (qM_X3_ofSession iX3_joins_172) <| okMax iX3_joins_175 <| okIas (vAgM) iX3_joins_178 <| okAldn iX3_joins_179 rfl <| okGet (vFgM) iX3_joins_180 <| okIc iX3_joins_183 <| okDup2 iX3_joins_184 <| okIa (vAgM) iX3_joins_185 <| okAldn iX3_joins_186 rfl <| okIldn iX3_joins_187 rfl <| okIld iX3_joins_188 <| okIc iX3_joins_190 <| okC4 (qM_X3_ofSession iX3_joins_191) <| okAddW iX3_joins_194 <| okIas (vAgM) iX3_joins_195 <| okAldn iX3_joins_196 rfl <| okGet (vFgM) iX3_joins_197 <| okIc iX3_joins_200 <| okDup2 iX3_joins_201 <| okIa (vAgM) iX3_joins_202 <| okAldn iX3_joins_203 rfl <| okIldn iX3_joins_204 rfl <| okIld iX3_joins_205 <| okIc iX3_joins_207 <| okC4 (qM_X3_ofSession iX3_joins_208) <| okAddW iX3_joins_211 <| okIas (vAgM) iX3_joins_212 <| okAldn iX3_joins_213 rfl <| okGet (vFgM) iX3_joins_214 <| okIc iX3_joins_217 <| okAldn iX3_joins_218 rfl <| okGet (vFgM) iX3_joins_219 <| okIc iX3_joins_222 <| okIa (vAgM) iX3_joins_223 <| okAldn iX3_joins_224 rfl <| okIldn iX3_joins_225 rfl <| okIld iX3_joins_226 <| okIc iX3_joins_228 <| okC4 (qM_X3_ofSession iX3_joins_229) <| okMax iX3_joins_232 <| okIas (vAgM) iX3_joins_235 <| okAldn iX3_joins_236 rfl <| okIldn iX3_joins_237 rfl <| okIld iX3_joins_238 <| okC3 (qM_X3_goesOut iX3_joins_240) <| okTo (tl rfl)))))) (tNode (tNode (tLeaf (okInc iX3_joins_243 (by decide) <| okGotoM (tl rfl) iX3_joins_246)) (tNode (tLeaf (okAldn iX3_joins_249 rfl <| okIldn iX3_joins_250 rfl <| okBi iX3_joins_251 (by decide) <| okAldn iX3_joins_253 rfl <| okGet (vFgM) iX3_joins_254 <| okIc iX3_joins_257 <| okCLe (tl rfl) iX3_joins_258 <| okIc iX3_joins_261 <| okGoto (tl rfl) iX3_joins_262)) (tLeaf (okIc iX3_joins_265 <| okTo (tl rfl))))) (tNode (tLeaf (okC1 (qM_X3_flag iX3_joins_266) <| okC4 (qM_X3_adds iX3_joins_269) <| okAldn iX3_joins_272 rfl <| okIldn iX3_joins_273 rfl <| okC2 (qM_X3_comesIn iX3_joins_274) <| okIst iX3_joins_277 (by decide) <| okAldn iX3_joins_279 rfl <| okIldn iX3_joins_280 rfl <| okIc iX3_joins_281 <| okC3 (qM_X3_of iX3_joins_282) <| okIst iX3_joins_285 (by decide) <| okAldn iX3_joins_287 rfl <| okIldn iX3_joins_288 rfl <| okIld iX3_joins_289 <| okAldn iX3_joins_291 rfl <| okIldn iX3_joins_292 rfl <| okIc iX3_joins_293 <| okC3 (qM_X3_of iX3_joins_294) <| okC4 (qM_X3_isRipeBy iX3_joins_297) <| okZEq (tl rfl) iX3_joins_300 <| okAldn iX3_joins_303 rfl <| okIldn iX3_joins_304 rfl <| okIc iX3_joins_305 <| okIld iX3_joins_306 <| okC4 (qM_X3_sends iX3_joins_308) <| okGoto (tl rfl) iX3_joins_311)) (tNode (tLeaf (okIld iX3_joins_314 <| okZLe (tl rfl) iX3_joins_316 <| okAldn iX3_joins_319 rfl <| okGet (vFgM) iX3_joins_320 <| okIc iX3_joins_323 <| okIa (vAgM) iX3_joins_324 <| okIld iX3_joins_325 <| okRemT iX3_joins_327 <| okZNe (tl rfl) iX3_joins_328 <| okAldn iX3_joins_331 rfl <| okIldn iX3_joins_332 rfl <| okIc iX3_joins_333 <| okIld iX3_joins_334 <| okC4 (qM_X3_sends iX3_joins_336) <| okTo (tl rfl))) (tLeaf (okVret iX3_joins_339 rfl)))))) pc
def mNote (s : MS) (d a r t k v b : Int) : MS :=
  let p := d * 2804 + 1844 + 6 * mg s (d * 2804 + 6)
  mInc (mP (mP (mP (mP (mP (mP s (p + 0) a) (p + 1) r) (p + 2) t) (p + 3) k) (p + 4) v) (p + 5) b) (d * 2804 + 6) 1
def sX3_notes : Int → Int → Int → Int → Int → Int → Int → MS → KM → Prop := fun d a r t k v b s K => (dOk d ∧ (xB a ∧ xB r ∧ xB t ∧ xB k ∧ xB v ∧ xB b) ∧ 0 ≤ mg s (d * 2804 + 6) ∧ mg s (d * 2804 + 6) ≤ 159) ∧ K [] (mNote s d a r t k v b)
theorem mX3_notes_ok : mOk encM bdM mX3_notes (atR 0 (a7 sX3_notes)) := by
  refine mOVa7 kX3_notes (fun _ _ _ _ _ _ _ => rfl) (fun d a r t k v b s K h hb => wx_J [] 9 tX3_notes_ok rfl (fun J hR hJ => ?_))
  obtain ⟨h1, hK⟩ := h
  repeat' (first | (refine And.intro ?_ ?_) | (intro hq; first | (exact absurd hq (by omega)) | skip))
  all_goals first | omega | exact hR _ _ hK
def cM_X3_notes : Sp MS := atR 0 (a7 sX3_notes)
theorem qM_X3_notes {M : XI} {rc rs pc pc2 : Nat} (d : xl_Ca M pc mX3_notes pc2) : cOk encM bdM M rc rs pc pc2 8 cM_X3_notes := cSame mX3_notes_ok vX3_notes d mcl rfl lenM recM
def mF (s : MS) (k : Nat) (v : Int) : MS := mA s 4 (xup (s.2 4) k v)
def mFresh (s : MS) (k t v : Int) : MS := mF (mF (mF (mF (mF (mF (mF (mS s 12 0) 0 k) 1 t) 2 t) 3 1) 4 v) 5 v) 6 0
abbrev sE (s : MS) (d : Int) : Int := mg s (d * 2804 + 5)
def jnP1 (d k t : Int) (K : MS → Prop) : Nat → Int → MS → Prop
  | 0, i, s => mg s (d * 2804 + 5) ≤ i ∧ K s
  | n + 1, i, s => (mg s (d * 2804 + 5) ≤ i → K s) ∧ (i < mg s (d * 2804 + 5) → i ≤ 160 ∧ (mMelts s d i k t → mTakeP s d i ∧ jnP1 d k t K n (i + 1) (mS (mTake s d i) 12 (wI ((mTake s d i).1 12 + 1)))) ∧ (¬ mMelts s d i k t → jnP1 d k t K n (i + 1) s))
def mSwal (s : MS) (d i : Int) : MS :=
  let s1 := mF s 1 (min (s.2 4 1) (mg s ((d * 2804 + 364 + 7 * i) + 1)))
  let s2 := mF s1 2 (max (s1.2 4 2) (mg s1 ((d * 2804 + 364 + 7 * i) + 2)))
  let s3 := mF s2 3 (wI (s2.2 4 3 + mg s2 ((d * 2804 + 364 + 7 * i) + 3)))
  let s4 := mF s3 4 (wI (s3.2 4 4 + mg s3 ((d * 2804 + 364 + 7 * i) + 4)))
  mF s4 5 (max (s4.2 4 5) (mg s4 ((d * 2804 + 364 + 7 * i) + 5)))
def jnP2 (d k t : Int) (K : MS → Prop) : Nat → Int → MS → Prop
  | 0, i, s => i < 0 ∧ K s
  | n + 1, i, s => (i < 0 → K s) ∧ (0 ≤ i → i ≤ 160 ∧ (mMelts s d i k t → (-1 ≤ mg (mOut1 (mSwal s d i) d) (d * 2804 + 5) ∧ mg (mOut1 (mSwal s d i) d) (d * 2804 + 5) ≤ 160) ∧ jnP2 d k t K n (i + -1) (mOut (mSwal s d i) d i)) ∧ (¬ mMelts s d i k t → jnP2 d k t K n (i + -1) s))
def jnF (s : MS) (d i : Int) (K : MS → Prop) : Prop :=
  (mRipe s d i (mg s (d * 2804 + 4)) → mI (d * 2804 + (60 + 4 * mg (mSend4 s d 2 i) ((d * 2804 + 364 + 7 * i) + 0) + 2)) ∧ K (mSend s d 2 i)) ∧ (¬ mRipe s d i (mg s (d * 2804 + 4)) → ((0 < mg s (d * 2804 + 3) ∧ Int.tmod (s.2 4 3) (mg s (d * 2804 + 3)) = 0) → mI (d * 2804 + (60 + 4 * mg (mSend4 s d 0 i) ((d * 2804 + 364 + 7 * i) + 0) + 0)) ∧ K (mSend s d 0 i)) ∧ (¬ (0 < mg s (d * 2804 + 3) ∧ Int.tmod (s.2 4 3) (mg s (d * 2804 + 3)) = 0) → K s))
def jnE (s : MS) (d : Int) (K : MS → Prop) : Prop :=
  let s1 := mInc s (d * 2804 + 11) (if 1 < s.1 12 then 1 else 0)
  (0 ≤ mg s1 (d * 2804 + 5) ∧ mg s1 (d * 2804 + 5) ≤ 160) ∧ jnF (mIn s1 d).2 d ((mIn s1 d).1 : Int) K
def mJoinP (s : MS) (d k t v : Int) (n : Nat) (K : MS → Prop) : Prop := jnP1 d k t (fun s1 => jnP2 d k t (fun s2 => jnE s2 d K) n (wI (mg s1 (d * 2804 + 5) - 1)) s1) n 0 (mFresh s k t v)
theorem X3_joins_e {K : KM} {Pt : MS → Prop} (d k t : Int) (hd : dOk d) (s : MS) (i : Int) (hi : xB i ∧ i < 0) (h : jnE s d (K [])) : wX encM bdM mX3_joins 0 0 K Pt 116 [some (pR 0), some (pI d), some (pI k), some (pI t), none, some (pI i), none] [] s := by
  refine wx_Jb [60, 116] 9 tX3_joins_ok rfl (fun hb J hR hJ => ?_)
  obtain ⟨hs, hf⟩ := h
  obtain ⟨f1, f2⟩ := hf
  have hm12 := hb.1 12
  refine ⟨hi.1, fun _ => ?_, fun q => absurd q (by omega)⟩
  intro _
  by_cases c : 1 < s.1 12
  · rw [if_pos c] at hs f1 f2
    refine ⟨⟨hm12, ⟨by omega, by omega⟩⟩, fun q => absurd q (by omega), fun q => ?_⟩
    refine ⟨Or.inr rfl, ⟨by omega, by omega⟩, ⟨⟨hd, hs⟩, fun i0 i1 => ⟨⟨by omega, by omega⟩, fun he => ⟨⟨by omega, by omega⟩, fun hp => ⟨⟨hd, ⟨i0, i1⟩, hp⟩, fun r => ?_, fun r => ?_⟩⟩⟩⟩⟩
    · obtain ⟨g1, g2⟩ := f1 r
      exact ⟨⟨by omega, by omega⟩, fun q => absurd q (by omega), fun _ => ⟨⟨hd, ⟨by omega, by omega⟩, ⟨i0, i1⟩, g1⟩, hR _ _ g2⟩⟩
    · obtain ⟨g1, g2⟩ := f2 r
      refine ⟨⟨by omega, by omega⟩, fun _ => ⟨he, fun c3 => ?_, fun c3 => ?_⟩, fun q => absurd rfl q⟩
      · exact hR _ _ (g2 (fun z => absurd z.1 (Int.not_lt.mpr c3)))
      · refine ⟨⟨by omega, by omega⟩, fun hf3 => ⟨⟨by omega, hf3, he⟩, ⟨tmod_B hf3 c3 he.2, fun c4 => ?_, fun c4 => ?_⟩⟩⟩
        · exact hR _ _ (g2 (fun z => c4 z.2))
        · obtain ⟨k1, k2⟩ := g1 ⟨c3, c4⟩
          exact ⟨⟨hd, ⟨by omega, by omega⟩, ⟨i0, i1⟩, k1⟩, hR _ _ k2⟩
  · rw [if_neg c] at hs f1 f2
    refine ⟨⟨hm12, ⟨by omega, by omega⟩⟩, fun q => ?_, fun q => absurd q (by omega)⟩
    refine ⟨Or.inl rfl, ⟨by omega, by omega⟩, ⟨⟨hd, hs⟩, fun i0 i1 => ⟨⟨by omega, by omega⟩, fun he => ⟨⟨by omega, by omega⟩, fun hp => ⟨⟨hd, ⟨i0, i1⟩, hp⟩, fun r => ?_, fun r => ?_⟩⟩⟩⟩⟩
    · obtain ⟨g1, g2⟩ := f1 r
      exact ⟨⟨by omega, by omega⟩, fun q => absurd q (by omega), fun _ => ⟨⟨hd, ⟨by omega, by omega⟩, ⟨i0, i1⟩, g1⟩, hR _ _ g2⟩⟩
    · obtain ⟨g1, g2⟩ := f2 r
      refine ⟨⟨by omega, by omega⟩, fun _ => ⟨he, fun c3 => ?_, fun c3 => ?_⟩, fun q => absurd rfl q⟩
      · exact hR _ _ (g2 (fun z => absurd z.1 (Int.not_lt.mpr c3)))
      · refine ⟨⟨by omega, by omega⟩, fun hf3 => ⟨⟨by omega, hf3, he⟩, ⟨tmod_B hf3 c3 he.2, fun c4 => ?_, fun c4 => ?_⟩⟩⟩
        · exact hR _ _ (g2 (fun z => c4 z.2))
        · obtain ⟨k1, k2⟩ := g1 ⟨c3, c4⟩
          exact ⟨⟨hd, ⟨by omega, by omega⟩, ⟨i0, i1⟩, k1⟩, hR _ _ k2⟩
theorem X3_joins_l2 {K : KM} {Pt : MS → Prop} (d k t : Int) (hd : dOk d) (hk : xB k) (ht : xB t) : ∀ (n : Nat) (i : Int) (s : MS), xB i → jnP2 d k t (fun s2 => jnE s2 d (K [])) n i s → wX encM bdM mX3_joins 0 0 K Pt 116 [some (pR 0), some (pI d), some (pI k), some (pI t), none, some (pI i), none] [] s := by
  intro n
  induction n with
  | zero =>
    intro i s hi h
    exact X3_joins_e d k t hd s i ⟨hi, h.1⟩ h.2
  | succ n ih =>
    intro i s hi h
    obtain ⟨ha, hc⟩ := h
    by_cases c : i < 0
    · exact X3_joins_e d k t hd s i ⟨hi, c⟩ (ha c)
    · obtain ⟨h1, h2, h3⟩ := hc (by omega)
      refine wx_Jb [60, 116] 9 tX3_joins_ok rfl (fun hb J hR hJ => ?_)
      refine ⟨hi, fun q => absurd q c, fun _ => ⟨⟨hd, ⟨by omega, h1⟩, hk, ht⟩, fun r => ?_, fun r => ?_⟩⟩
      · obtain ⟨g1, g2⟩ := h2 r
        have g := ih _ _ ⟨by omega, by omega⟩ g2
        refine ⟨⟨by omega, by omega⟩, fun q => absurd q (by omega), fun _ => ⟨⟨by omega, by omega⟩, fun a1 => ⟨⟨by omega, by omega⟩, fun b1 => ⟨⟨a1, b1⟩, ⟨by omega, by omega, min_B a1 b1⟩, ?_⟩⟩⟩⟩
        refine ⟨⟨by omega, by omega⟩, fun a2 => ⟨⟨by omega, by omega⟩, fun b2 => ⟨⟨a2, b2⟩, ⟨by omega, by omega, max_B a2 b2⟩, ?_⟩⟩⟩
        refine ⟨⟨by omega, by omega⟩, fun a3 => ⟨⟨by omega, by omega⟩, fun b3 w3 => ⟨⟨by omega, by omega, w3⟩, ?_⟩⟩⟩
        refine ⟨⟨by omega, by omega⟩, fun a4 => ⟨⟨by omega, by omega⟩, fun b4 w4 => ⟨⟨by omega, by omega, w4⟩, ?_⟩⟩⟩
        refine ⟨⟨by omega, by omega⟩, fun a5 => ⟨⟨by omega, by omega⟩, fun b5 => ⟨⟨a5, b5⟩, ⟨by omega, by omega, max_B a5 b5⟩, ?_⟩⟩⟩
        exact ⟨⟨hd, ⟨by omega, h1⟩, g1⟩, hJ _ _ _ _ g⟩
      · have g := ih _ _ ⟨by omega, by omega⟩ (h3 r)
        repeat' (first | (refine And.intro ?_ ?_) | (intro hq; first | (exact absurd hq (by omega)) | skip))
        all_goals first | omega | exact hJ _ _ _ _ g
theorem X3_joins_l1 {K : KM} {Pt : MS → Prop} (d k t : Int) (hd : dOk d) (hk : xB k) (ht : xB t) (n2 : Nat) : ∀ (n : Nat) (i : Int) (s : MS), 0 ≤ i → i ≤ 161 → jnP1 d k t (fun s1 => jnP2 d k t (fun s2 => jnE s2 d (K [])) n2 (wI (mg s1 (d * 2804 + 5) - 1)) s1) n i s → wX encM bdM mX3_joins 0 0 K Pt 60 [some (pR 0), some (pI d), some (pI k), some (pI t), none, some (pI i), none] [] s := by
  have fin : ∀ (i : Int) (s : MS), 0 ≤ i → i ≤ 161 → mg s (d * 2804 + 5) ≤ i → jnP2 d k t (fun s2 => jnE s2 d (K [])) n2 (wI (mg s (d * 2804 + 5) - 1)) s → wX encM bdM mX3_joins 0 0 K Pt 60 [some (pR 0), some (pI d), some (pI k), some (pI t), none, some (pI i), none] [] s := by
    intro i s h0 h1 hn h
    refine wx_J [60, 116] 9 tX3_joins_ok rfl (fun J hR hJ => ?_)
    have g := X3_joins_l2 (K := K) (Pt := Pt) d k t hd hk ht n2 _ s (wI_B _) h
    repeat' (first | (refine And.intro ?_ ?_) | (intro hq; first | (exact absurd hq (by omega)) | skip))
    all_goals first | omega | exact hJ _ _ _ _ g
  intro n
  induction n with
  | zero =>
    intro i s h0 h1 h
    exact fin i s h0 h1 h.1 h.2
  | succ n ih =>
    intro i s h0 h1 h
    obtain ⟨ha, hc⟩ := h
    by_cases c : mg s (d * 2804 + 5) ≤ i
    · exact fin i s h0 h1 c (ha c)
    · obtain ⟨h2, h3, h4⟩ := hc (by omega)
      refine wx_J [60, 116] 9 tX3_joins_ok rfl (fun J hR hJ => ?_)
      refine ⟨⟨by omega, by omega⟩, fun hS => ⟨⟨⟨by omega, by omega⟩, hS⟩, fun q => absurd q c, fun _ => ⟨⟨hd, ⟨by omega, h2⟩, hk, ht⟩, fun r => ?_, fun r => ?_⟩⟩⟩
      · obtain ⟨g1, g2⟩ := h3 r
        have g := ih _ _ (by omega) (by omega) g2
        exact ⟨⟨by omega, by omega⟩, fun q => absurd q (by omega), fun _ => ⟨⟨hd, ⟨by omega, h2⟩, g1⟩, fun _ hw => ⟨hw, hJ _ _ _ _ g⟩⟩⟩
      · have g := ih _ _ (by omega) (by omega) (h4 r)
        exact ⟨⟨by omega, by omega⟩, fun _ => hJ _ _ _ _ g, fun q => absurd rfl q⟩
def sX3_joins : Int → Int → Int → Int → MS → KM → Prop := fun d k t v s K => (dOk d ∧ xB k ∧ xB t ∧ xB v) ∧ ∃ n, mJoinP s d k t v n (K [])
theorem mX3_joins_ok : mOk encM bdM mX3_joins (atR 0 (a4 sX3_joins)) := by
  refine mOVa4 kX3_joins (fun _ _ _ _ => rfl) (fun d k t v s K h hb => wx_J [60, 116] 9 tX3_joins_ok rfl (fun J hR hJ => ?_))
  obtain ⟨⟨h1, h2, h3, h4⟩, n, hn⟩ := h
  have g := X3_joins_l1 (K := K) (Pt := fun _ => False) d k t h1 h2 h3 n n 0 (mFresh s k t v) (by omega) (by omega) hn
  repeat' (first | (refine And.intro ?_ ?_) | (intro hq; first | (exact absurd hq (by omega)) | skip))
  all_goals first | omega | exact hJ _ _ _ _ g
def cM_X3_joins : Sp MS := atR 0 (a4 sX3_joins)
theorem qM_X3_joins {M : XI} {rc rs pc pc2 : Nat} (d : xl_Ca M pc mX3_joins pc2) : cOk encM bdM M rc rs pc pc2 5 cM_X3_joins := cSame mX3_joins_ok vX3_joins d mcl rfl lenM recM
end
-- 58.Mk
section
/-! ===== the model: an event comes, a mark, an idle source ===== -/
-- X3_comes: heads []
def tX3_comes : Nat → Blk MS := fun pc => bif Nat.blt pc 57 then (bif Nat.blt pc 35 then (bif Nat.blt pc 25 then (bif Nat.beq pc 0 then (oAld 0 <| oIld 1 <| oI 4 <| oC3 (cM_X3_of) <| oIst 6 <| oIld 3 <| oIld 6 <| oAld 0 <| oIld 1 <| oI 2 <| oC3 (cM_X3_of) <| oSubW <| oCGe 25 <| oI 2 <| oTo 36) else oNo) else (bif Nat.beq pc 25 then (oIld 3 <| oIld 6 <| oCGe 35 <| oI 1 <| oTo 36) else oNo)) else (bif Nat.blt pc 36 then (bif Nat.beq pc 35 then (oI 0 <| oTo 36) else oNo) else (bif Nat.beq pc 36 then (oIst 7 <| oAld 0 <| oIld 1 <| oI 0 <| oIld 5 <| oIld 3 <| oIld 2 <| oIld 4 <| oIld 7 <| oI 2 <| oCGe 57 <| oI 1 <| oTo 58) else oNo))) else (bif Nat.blt pc 104 then (bif Nat.blt pc 58 then (bif Nat.beq pc 57 then (oI 0 <| oTo 58) else oNo) else (bif Nat.beq pc 58 then (oC1 (cM_X3_flag) <| oC8 (cM_X3_notes) <| oAld 0 <| oI 0 <| oPut (fpM) 3 12 <| oIld 7 <| oI 2 <| oCGe 104 <| oAld 0 <| oIld 1 <| oI 8 <| oI 1 <| oC4 (cM_X3_adds) <| oAld 0 <| oIld 1 <| oI 9 <| oIld 7 <| oC4 (cM_X3_adds) <| oAld 0 <| oIld 1 <| oIld 2 <| oIld 3 <| oIld 4 <| oC5 (cM_X3_joins) <| oTo 123) else oNo)) else (bif Nat.blt pc 123 then (bif Nat.beq pc 104 then (oAld 0 <| oIld 1 <| oI 10 <| oI 1 <| oC4 (cM_X3_adds) <| oAld 0 <| oIld 1 <| oI 28 <| oIld 5 <| oAdd <| oI 1 <| oC4 (cM_X3_adds) <| oTo 123) else oNo) else (bif Nat.beq pc 123 then (oAld 0 <| oIld 1 <| oI 24 <| oIld 5 <| oAdd <| oI 1 <| oC4 (cM_X3_adds) <| oAld 0 <| oIld 1 <| oI 20 <| oIld 5 <| oAdd <| oI 0 <| oC4 (cM_X3_puts) <| oAld 0 <| oIld 1 <| oI 12 <| oIld 5 <| oAdd <| oAld 0 <| oIld 1 <| oI 12 <| oIld 5 <| oAdd <| oC3 (cM_X3_of) <| oIld 3 <| oAld 0 <| oIld 1 <| oI 16 <| oIld 5 <| oAdd <| oC3 (cM_X3_of) <| oSubW <| oMax <| oC4 (cM_X3_puts) <| oAld 0 <| oIld 1 <| oC2 (cM_X3_rises) <| oIld 7 <| oIret) else oNo)))
theorem tX3_comes_ok : ∀ pc, bOk (encM) (bdM) mX3_comes 0 0 pc (tX3_comes pc) := fun pc => (tNode (tNode (tNode (tLeaf (okAldn iX3_comes_0 rfl <| okIldn iX3_comes_1 rfl <| okIc iX3_comes_2 <| okC3 (qM_X3_of iX3_comes_3) <| okIst iX3_comes_6 (by decide) <| okIldn iX3_comes_8 rfl <| okIld iX3_comes_9 <| okAldn iX3_comes_11 rfl <| okIldn iX3_comes_12 rfl <| okIc iX3_comes_13 <| okC3 (qM_X3_of iX3_comes_14) <| okSubW iX3_comes_17 <| okCGe (tl rfl) iX3_comes_18 <| okIc iX3_comes_21 <| okGoto (tl rfl) iX3_comes_22)) (tLeaf (okIldn iX3_comes_25 rfl <| okIld iX3_comes_26 <| okCGe (tl rfl) iX3_comes_28 <| okIc iX3_comes_31 <| okGoto (tl rfl) iX3_comes_32))) (tNode (tLeaf (okIc iX3_comes_35 <| okTo (tl rfl))) (tLeaf (okIst iX3_comes_36 (by decide) <| okAldn iX3_comes_38 rfl <| okIldn iX3_comes_39 rfl <| okIc iX3_comes_40 <| okIld iX3_comes_41 <| okIldn iX3_comes_43 rfl <| okIldn iX3_comes_44 rfl <| okIld iX3_comes_45 <| okIld iX3_comes_47 <| okIc iX3_comes_49 <| okCGe (tl rfl) iX3_comes_50 <| okIc iX3_comes_53 <| okGoto (tl rfl) iX3_comes_54)))) (tNode (tNode (tLeaf (okIc iX3_comes_57 <| okTo (tl rfl))) (tLeaf (okC1 (qM_X3_flag iX3_comes_58) <| okC8 (qM_X3_notes iX3_comes_61) <| okAldn iX3_comes_64 rfl <| okIc iX3_comes_65 <| okPut (vFpM) iX3_comes_66 <| okIld iX3_comes_69 <| okIc iX3_comes_71 <| okCGe (tl rfl) iX3_comes_72 <| okAldn iX3_comes_75 rfl <| okIldn iX3_comes_76 rfl <| okBi iX3_comes_77 (by decide) <| okIc iX3_comes_79 <| okC4 (qM_X3_adds iX3_comes_80) <| okAldn iX3_comes_83 rfl <| okIldn iX3_comes_84 rfl <| okBi iX3_comes_85 (by decide) <| okIld iX3_comes_87 <| okC4 (qM_X3_adds iX3_comes_89) <| okAldn iX3_comes_92 rfl <| okIldn iX3_comes_93 rfl <| okIldn iX3_comes_94 rfl <| okIldn iX3_comes_95 rfl <| okIld iX3_comes_96 <| okC5 (qM_X3_joins iX3_comes_98) <| okGoto (tl rfl) iX3_comes_101))) (tNode (tLeaf (okAldn iX3_comes_104 rfl <| okIldn iX3_comes_105 rfl <| okBi iX3_comes_106 (by decide) <| okIc iX3_comes_108 <| okC4 (qM_X3_adds iX3_comes_109) <| okAldn iX3_comes_112 rfl <| okIldn iX3_comes_113 rfl <| okBi iX3_comes_114 (by decide) <| okIld iX3_comes_116 <| okAdd iX3_comes_118 <| okIc iX3_comes_119 <| okC4 (qM_X3_adds iX3_comes_120) <| okTo (tl rfl))) (tLeaf (okAldn iX3_comes_123 rfl <| okIldn iX3_comes_124 rfl <| okBi iX3_comes_125 (by decide) <| okIld iX3_comes_127 <| okAdd iX3_comes_129 <| okIc iX3_comes_130 <| okC4 (qM_X3_adds iX3_comes_131) <| okAldn iX3_comes_134 rfl <| okIldn iX3_comes_135 rfl <| okBi iX3_comes_136 (by decide) <| okIld iX3_comes_138 <| okAdd iX3_comes_140 <| okIc iX3_comes_141 <| okC4 (qM_X3_puts iX3_comes_142) <| okAldn iX3_comes_145 rfl <| okIldn iX3_comes_146 rfl <| okBi iX3_comes_147 (by decide) <| okIld iX3_comes_149 <| okAdd iX3_comes_151 <| okAldn iX3_comes_152 rfl <| okIldn iX3_comes_153 rfl <| okBi iX3_comes_154 (by decide) <| okIld iX3_comes_156 <| okAdd iX3_comes_158 <| okC3 (qM_X3_of iX3_comes_159) <| okIldn iX3_comes_162 rfl <| okAldn iX3_comes_163 rfl <| okIldn iX3_comes_164 rfl <| okBi iX3_comes_165 (by decide) <| okIld iX3_comes_167 <| okAdd iX3_comes_169 <| okC3 (qM_X3_of iX3_comes_170) <| okSubW iX3_comes_173 <| okMax iX3_comes_174 <| okC4 (qM_X3_puts iX3_comes_177) <| okAldn iX3_comes_180 rfl <| okIldn iX3_comes_181 rfl <| okC2 (qM_X3_rises iX3_comes_182) <| okIld iX3_comes_185 <| okIret iX3_comes_187 rfl))))) pc
-- X3_isMarked: heads []
def tX3_isMarked : Nat → Blk MS := fun pc => bif Nat.beq pc 0 then (oAld 0 <| oIld 1 <| oI 1 <| oIld 2 <| oIld 3 <| oI (-1) <| oI 0 <| oI 0 <| oC8 (cM_X3_notes) <| oAld 0 <| oIld 1 <| oI 12 <| oIld 2 <| oAdd <| oIld 3 <| oC4 (cM_X3_puts) <| oAld 0 <| oIld 1 <| oC2 (cM_X3_rises) <| oVret) else oNo
theorem tX3_isMarked_ok : ∀ pc, bOk (encM) (bdM) mX3_isMarked 0 0 pc (tX3_isMarked pc) := fun pc => (tLeaf (okAldn iX3_isMarked_0 rfl <| okIldn iX3_isMarked_1 rfl <| okIc iX3_isMarked_2 <| okIldn iX3_isMarked_3 rfl <| okIldn iX3_isMarked_4 rfl <| okIc iX3_isMarked_5 <| okIc iX3_isMarked_6 <| okIc iX3_isMarked_7 <| okC8 (qM_X3_notes iX3_isMarked_8) <| okAldn iX3_isMarked_11 rfl <| okIldn iX3_isMarked_12 rfl <| okBi iX3_isMarked_13 (by decide) <| okIldn iX3_isMarked_15 rfl <| okAdd iX3_isMarked_16 <| okIldn iX3_isMarked_17 rfl <| okC4 (qM_X3_puts iX3_isMarked_18) <| okAldn iX3_isMarked_21 rfl <| okIldn iX3_isMarked_22 rfl <| okC2 (qM_X3_rises iX3_isMarked_23) <| okVret iX3_isMarked_26 rfl)) pc
-- X3_isIdle: heads []
def tX3_isIdle : Nat → Blk MS := fun pc => bif Nat.beq pc 0 then (oAld 0 <| oIld 1 <| oI 2 <| oIld 2 <| oI 0 <| oI (-1) <| oI 0 <| oI 0 <| oC8 (cM_X3_notes) <| oAld 0 <| oIld 1 <| oI 20 <| oIld 2 <| oAdd <| oI 1 <| oC4 (cM_X3_puts) <| oAld 0 <| oIld 1 <| oC2 (cM_X3_rises) <| oVret) else oNo
theorem tX3_isIdle_ok : ∀ pc, bOk (encM) (bdM) mX3_isIdle 0 0 pc (tX3_isIdle pc) := fun pc => (tLeaf (okAldn iX3_isIdle_0 rfl <| okIldn iX3_isIdle_1 rfl <| okIc iX3_isIdle_2 <| okIldn iX3_isIdle_3 rfl <| okIc iX3_isIdle_4 <| okIc iX3_isIdle_5 <| okIc iX3_isIdle_6 <| okIc iX3_isIdle_7 <| okC8 (qM_X3_notes iX3_isIdle_8) <| okAldn iX3_isIdle_11 rfl <| okIldn iX3_isIdle_12 rfl <| okBi iX3_isIdle_13 (by decide) <| okIldn iX3_isIdle_15 rfl <| okAdd iX3_isIdle_16 <| okIc iX3_isIdle_17 <| okC4 (qM_X3_puts iX3_isIdle_18) <| okAldn iX3_isIdle_21 rfl <| okIldn iX3_isIdle_22 rfl <| okC2 (qM_X3_rises iX3_isIdle_23) <| okVret iX3_isIdle_26 rfl)) pc
def mHow (s : MS) (d t : Int) : Int := if t < wI (mg s (d * 2804 + 4) - mg s (d * 2804 + 2)) then 2 else if t < mg s (d * 2804 + 4) then 1 else 0
theorem mHow_b (s : MS) (d t : Int) : 0 ≤ mHow s d t ∧ mHow s d t ≤ 2 := by
  unfold mHow
  split
  · omega
  · split <;> omega
def cmE (s : MS) (d t r : Int) (n : Nat) (K : MS → Prop) : Prop :=
  let s3 := mP (mInc s (d * 2804 + (24 + r)) 1) (d * 2804 + (20 + r)) 0
  let s4 := mP s3 (d * 2804 + (12 + r)) (max (mg s3 (d * 2804 + (12 + r))) (wI (t - mg s3 (d * 2804 + (16 + r)))))
  mg s4 (d * 2804 + 0) ≤ 4 ∧ mRisP s4 d n K
def mComeP (s : MS) (d k t v r : Int) (n : Nat) (K : MS → Prop) : Prop :=
  (mHow s d t < 2 → mJoinP (mInc (mInc (mS (mNote s d 0 r t k v 1) 12 0) (d * 2804 + 8) 1) (d * 2804 + 9) (mHow s d t)) d k t v n (fun s2 => cmE s2 d t r n K)) ∧ (mHow s d t = 2 → cmE (mInc (mInc (mS (mNote s d 0 r t k v 0) 12 0) (d * 2804 + 10) 1) (d * 2804 + (28 + r)) 1) d t r n K)
def sX3_comes : Int → Int → Int → Int → Int → MS → KM → Prop := fun d k t v r s K => (dOk d ∧ (0 ≤ r ∧ r ≤ 3) ∧ (xB k ∧ xB t ∧ xB v) ∧ 0 ≤ mg s (d * 2804 + 6) ∧ mg s (d * 2804 + 6) ≤ 159) ∧ ∃ n, mComeP s d k t v r n (fun s' => 0 ≤ mHow s d t → mHow s d t ≤ 2 → K [pI (mHow s d t)] s')
theorem rrP_mono {d wa : Int} {K K' : MS → Prop} (h : ∀ s, K s → K' s) : ∀ (n : Nat) (i : Int) (s : MS), rrP d wa K n i s → rrP d wa K' n i s
  | 0, i, s, q => ⟨q.1, h s q.2⟩
  | n + 1, i, s, q => ⟨fun c => h s (q.1 c), fun c => ⟨(q.2 c).1, rrP_mono h n _ _ (q.2 c).2⟩⟩
theorem ccP_mono {d : Int} {K K' : MS → Prop} (h : ∀ s, K s → K' s) : ∀ (n : Nat) (i : Int) (s : MS), ccP d K n i s → ccP d K' n i s
  | 0, i, s, q => ⟨q.1, h s q.2⟩
  | n + 1, i, s, q => ⟨fun c => h s (q.1 c), fun c => ⟨(q.2 c).1, ccP_mono h n _ _ (q.2 c).2⟩⟩
theorem mRisP_mono {s : MS} {d : Int} {n : Nat} {K K' : MS → Prop} (h : ∀ s, K s → K' s) (q : mRisP s d n K) : mRisP s d n K' :=
  ⟨fun c => h s (q.1 c), fun c => ⟨(q.2 c).1, rrP_mono (fun s1 z => ⟨z.1, ccP_mono h _ _ _ z.2⟩) _ _ _ (q.2 c).2⟩⟩
theorem jnP1_mono {d k t : Int} {K K' : MS → Prop} (h : ∀ s, K s → K' s) : ∀ (n : Nat) (i : Int) (s : MS), jnP1 d k t K n i s → jnP1 d k t K' n i s
  | 0, i, s, q => ⟨q.1, h s q.2⟩
  | n + 1, i, s, q => ⟨fun c => h s (q.1 c), fun c => ⟨(q.2 c).1, fun z => ⟨((q.2 c).2.1 z).1, jnP1_mono h n _ _ ((q.2 c).2.1 z).2⟩, fun z => jnP1_mono h n _ _ ((q.2 c).2.2 z)⟩⟩
theorem jnP2_mono {d k t : Int} {K K' : MS → Prop} (h : ∀ s, K s → K' s) : ∀ (n : Nat) (i : Int) (s : MS), jnP2 d k t K n i s → jnP2 d k t K' n i s
  | 0, i, s, q => ⟨q.1, h s q.2⟩
  | n + 1, i, s, q => ⟨fun c => h s (q.1 c), fun c => ⟨(q.2 c).1, fun z => ⟨((q.2 c).2.1 z).1, jnP2_mono h n _ _ ((q.2 c).2.1 z).2⟩, fun z => jnP2_mono h n _ _ ((q.2 c).2.2 z)⟩⟩
theorem jnE_mono {s : MS} {d : Int} {K K' : MS → Prop} (h : ∀ s, K s → K' s) (q : jnE s d K) : jnE s d K' :=
  ⟨q.1, fun z => ⟨(q.2.1 z).1, h _ (q.2.1 z).2⟩, fun z => ⟨fun y => ⟨((q.2.2 z).1 y).1, h _ ((q.2.2 z).1 y).2⟩, fun y => h _ ((q.2.2 z).2 y)⟩⟩
theorem mJoinP_mono {s : MS} {d k t v : Int} {n : Nat} {K K' : MS → Prop} (h : ∀ s, K s → K' s) (q : mJoinP s d k t v n K) : mJoinP s d k t v n K' :=
  jnP1_mono (fun _ z => jnP2_mono (fun _ y => jnE_mono h y) _ _ _ z) _ _ _ q
theorem cmE_mono {s : MS} {d t r : Int} {n : Nat} {K K' : MS → Prop} (h : ∀ s, K s → K' s) (q : cmE s d t r n K) : cmE s d t r n K' := ⟨q.1, mRisP_mono h q.2⟩
theorem mComeP_mono {s : MS} {d k t v r : Int} {n : Nat} {K K' : MS → Prop} (h : ∀ s, K s → K' s) (q : mComeP s d k t v r n K) : mComeP s d k t v r n K' :=
  ⟨fun c => mJoinP_mono (fun _ z => cmE_mono h z) (q.1 c), fun c => cmE_mono h (q.2 c)⟩
theorem X3_comes_e {K : KM} {Pt : MS → Prop} (d k t v r P how : Int) (hd : dOk d) (hr : 0 ≤ r ∧ r ≤ 3) (ht : xB t) (s : MS) (n : Nat) (h : cmE s d t r n (K [pI how])) : wX encM bdM mX3_comes 0 0 K Pt 123 [some (pR 0), some (pI d), some (pI k), some (pI t), some (pI v), some (pI r), some (pI P), some (pI how)] [] s := by
  refine wx_J [] 9 tX3_comes_ok rfl (fun J hR hJ => ?_)
  obtain ⟨h1, h2⟩ := h
  refine ⟨⟨by omega, by omega⟩, ⟨⟨by omega, by omega⟩, ⟨by omega, by omega⟩⟩, ⟨by omega, by omega⟩, fun a1 => ⟨⟨by omega, by omega⟩, fun a2 a3 => ⟨⟨a1, a3⟩, ⟨⟨by omega, by omega⟩, max_B a1 a3⟩, ⟨⟨hd, h1⟩, n, mRisP_mono (fun s' q => hR _ _ q) h2⟩⟩⟩⟩
theorem mX3_comes_ok : mOk encM bdM mX3_comes (atR 0 (a5 sX3_comes)) := by
  refine mOVa5 kX3_comes (fun _ _ _ _ _ => rfl) (fun d k t v r s K h hb => wx_J [123] 9 tX3_comes_ok rfl (fun J hR hJ => ?_))
  obtain ⟨⟨h1, h2, ⟨h3, h4, h5⟩, h6⟩, n, p1, p2⟩ := h
  have hw := mHow_b s d t
  unfold mHow at p1 p2 hw
  have z0 : xB 0 := ⟨by omega, by omega⟩
  have z1 : xB 1 := ⟨by omega, by omega⟩
  have z2 : xB 2 := ⟨by omega, by omega⟩
  have zr : xB r := ⟨by omega, by omega⟩
  refine ⟨⟨by omega, by omega⟩, fun hp => ⟨⟨by omega, by omega⟩, fun hl hx => ⟨⟨h4, hx⟩, fun c => ?_, fun c => ?_⟩⟩⟩
  · refine ⟨⟨h4, hp⟩, fun c2 => ?_, fun c2 => ?_⟩
    · rw [if_neg (Int.not_lt.mpr c), if_neg (Int.not_lt.mpr c2)] at p1 p2
      have q := p1 (by omega)
      refine ⟨⟨z0, z2⟩, fun y => absurd y (by omega), fun _ => ⟨Or.inr rfl, ⟨⟨h1, ⟨z0, zr, h4, h3, h5, z1⟩, h6⟩, ⟨z0, ⟨⟨z0, z2⟩, fun y => absurd y (by omega), fun _ => ?_⟩⟩⟩⟩⟩
      exact ⟨⟨by omega, by omega⟩, ⟨by omega, by omega⟩, ⟨⟨h1, h3, h4, h5⟩, n, mJoinP_mono (fun s2 y => hJ _ _ _ _ (X3_comes_e d k t v r _ 0 h1 h2 h4 s2 n (cmE_mono (fun s3 x => x (by omega) (by omega)) y))) q⟩⟩
    · rw [if_neg (Int.not_lt.mpr c), if_pos c2] at p1 p2
      have q := p1 (by omega)
      refine ⟨⟨z1, z2⟩, fun y => absurd y (by omega), fun _ => ⟨Or.inr rfl, ⟨⟨h1, ⟨z0, zr, h4, h3, h5, z1⟩, h6⟩, ⟨z0, ⟨⟨z1, z2⟩, fun y => absurd y (by omega), fun _ => ?_⟩⟩⟩⟩⟩
      exact ⟨⟨by omega, by omega⟩, ⟨by omega, by omega⟩, ⟨⟨h1, h3, h4, h5⟩, n, mJoinP_mono (fun s2 y => hJ _ _ _ _ (X3_comes_e d k t v r _ 1 h1 h2 h4 s2 n (cmE_mono (fun s3 x => x (by omega) (by omega)) y))) q⟩⟩
  · rw [if_pos c] at p1 p2
    have q := p2 rfl
    refine ⟨⟨z2, z2⟩, fun _ => ⟨Or.inl rfl, ⟨⟨h1, ⟨z0, zr, h4, h3, h5, z0⟩, h6⟩, ⟨z0, ⟨⟨z2, z2⟩, fun _ => ?_, fun y => absurd y (by omega)⟩⟩⟩⟩, fun y => absurd y (by omega)⟩
    exact ⟨⟨by omega, by omega⟩, ⟨by omega, by omega⟩, hJ _ _ _ _ (X3_comes_e d k t v r _ 2 h1 h2 h4 _ n (cmE_mono (fun s3 x => x (by omega) (by omega)) q))⟩
def cM_X3_comes : Sp MS := atR 0 (a5 sX3_comes)
theorem qM_X3_comes {M : XI} {rc rs pc pc2 : Nat} (d : xl_Ca M pc mX3_comes pc2) : cOk encM bdM M rc rs pc pc2 6 cM_X3_comes := cSame mX3_comes_ok vX3_comes d mcl rfl lenM recM
def mMarkP (s : MS) (d r t : Int) (n : Nat) (K : MS → Prop) : Prop :=
  let s1 := mP (mNote s d 1 r t (-1) 0 0) (d * 2804 + (12 + r)) t
  mg s1 (d * 2804 + 0) ≤ 4 ∧ mRisP s1 d n K
def sX3_isMarked : Int → Int → Int → MS → KM → Prop := fun d r t s K => (dOk d ∧ (0 ≤ r ∧ r ≤ 3) ∧ xB t ∧ 0 ≤ mg s (d * 2804 + 6) ∧ mg s (d * 2804 + 6) ≤ 159) ∧ ∃ n, mMarkP s d r t n (K [])
theorem mX3_isMarked_ok : mOk encM bdM mX3_isMarked (atR 0 (a3 sX3_isMarked)) := by
  refine mOVa3 kX3_isMarked (fun _ _ _ => rfl) (fun d r t s K h hb => wx_J [] 9 tX3_isMarked_ok rfl (fun J hR hJ => ?_))
  obtain ⟨⟨h1, h2, h3, h4⟩, n, q1, q2⟩ := h
  have z0 : xB 0 := ⟨by omega, by omega⟩
  exact ⟨⟨h1, ⟨⟨by omega, by omega⟩, ⟨by omega, by omega⟩, h3, ⟨by omega, by omega⟩, z0, z0⟩, h4⟩, ⟨⟨by omega, by omega⟩, h3⟩, ⟨h1, q1⟩, n, mRisP_mono (fun s' z => hR _ _ z) q2⟩
def cM_X3_isMarked : Sp MS := atR 0 (a3 sX3_isMarked)
theorem qM_X3_isMarked {M : XI} {rc rs pc pc2 : Nat} (d : xl_Ca M pc mX3_isMarked pc2) : cOk encM bdM M rc rs pc pc2 4 cM_X3_isMarked := cSame mX3_isMarked_ok vX3_isMarked d mcl rfl lenM recM
def mIdleP (s : MS) (d r : Int) (n : Nat) (K : MS → Prop) : Prop :=
  let s1 := mP (mNote s d 2 r 0 (-1) 0 0) (d * 2804 + (20 + r)) 1
  mg s1 (d * 2804 + 0) ≤ 4 ∧ mRisP s1 d n K
def sX3_isIdle : Int → Int → MS → KM → Prop := fun d r s K => (dOk d ∧ (0 ≤ r ∧ r ≤ 3) ∧ 0 ≤ mg s (d * 2804 + 6) ∧ mg s (d * 2804 + 6) ≤ 159) ∧ ∃ n, mIdleP s d r n (K [])
theorem mX3_isIdle_ok : mOk encM bdM mX3_isIdle (atR 0 (a2 sX3_isIdle)) := by
  refine mOVa2 kX3_isIdle (fun _ _ => rfl) (fun d r s K h hb => wx_J [] 9 tX3_isIdle_ok rfl (fun J hR hJ => ?_))
  obtain ⟨⟨h1, h2, h4⟩, n, q1, q2⟩ := h
  have z0 : xB 0 := ⟨by omega, by omega⟩
  exact ⟨⟨h1, ⟨⟨by omega, by omega⟩, ⟨by omega, by omega⟩, z0, ⟨by omega, by omega⟩, z0, z0⟩, h4⟩, ⟨⟨by omega, by omega⟩, ⟨by omega, by omega⟩⟩, ⟨h1, q1⟩, n, mRisP_mono (fun s' z => hR _ _ z) q2⟩
def cM_X3_isIdle : Sp MS := atR 0 (a2 sX3_isIdle)
theorem qM_X3_isIdle {M : XI} {rc rs pc pc2 : Nat} (d : xl_Ca M pc mX3_isIdle pc2) : cOk encM bdM M rc rs pc pc2 3 cM_X3_isIdle := cSame mX3_isIdle_ok vX3_isIdle d mcl rfl lenM recM
end
-- 59.Mf
section
/-! ===== the model: starts, lays, undo, keep, back; its face, first part ===== -/
-- X3_starts: heads [3, 34, 67]
def tX3_starts : Nat → Blk MS := fun pc => bif Nat.blt pc 34 then (bif Nat.blt pc 3 then (bif Nat.beq pc 0 then (oI 0 <| oIst 6 <| oM [true, true, true, true, true, true, true] (oTo 3)) else oNo) else (bif Nat.blt pc 31 then (bif Nat.beq pc 3 then (oIld 6 <| oI 2804 <| oCGe 31 <| oAld 0 <| oGet (fgM) 3 7 <| oIld 1 <| oI 2804 <| oMul <| oIld 6 <| oAdd <| oI 0 <| oIas (agM) (apM) <| oInc 6 1 <| oM [true, true, true, true, true, true, true] (oTo 3)) else oNo) else (bif Nat.beq pc 31 then (oI 0 <| oIst 6 <| oM [true, true, true, true, true, true, true] (oTo 34)) else oNo))) else (bif Nat.blt pc 67 then (bif Nat.blt pc 64 then (bif Nat.beq pc 34 then (oIld 6 <| oI 6 <| oCGe 64 <| oAld 0 <| oGet (fgM) 3 7 <| oIld 1 <| oI 2804 <| oMul <| oI 54 <| oAdd <| oIld 6 <| oAdd <| oI (-1) <| oIas (agM) (apM) <| oInc 6 1 <| oM [true, true, true, true, true, true, true] (oTo 34)) else oNo) else (bif Nat.beq pc 64 then (oI 0 <| oIst 6 <| oM [true, true, true, true, true, true, true] (oTo 67)) else oNo)) else (bif Nat.blt pc 97 then (bif Nat.beq pc 67 then (oIld 6 <| oI 4 <| oCGe 97 <| oAld 0 <| oGet (fgM) 3 7 <| oIld 1 <| oI 2804 <| oMul <| oI 16 <| oAdd <| oIld 6 <| oAdd <| oI 20 <| oIas (agM) (apM) <| oInc 6 1 <| oM [true, true, true, true, true, true, true] (oTo 67)) else oNo) else (bif Nat.beq pc 97 then (oAld 0 <| oIld 1 <| oI 0 <| oIld 2 <| oC4 (cM_X3_puts) <| oAld 0 <| oIld 1 <| oI 1 <| oIld 3 <| oC4 (cM_X3_puts) <| oAld 0 <| oIld 1 <| oI 2 <| oIld 4 <| oC4 (cM_X3_puts) <| oAld 0 <| oIld 1 <| oI 3 <| oIld 5 <| oC4 (cM_X3_puts) <| oVret) else oNo)))
theorem tX3_starts_ok : ∀ pc, bOk (encM) (bdM) mX3_starts 0 0 pc (tX3_starts pc) := fun pc => (tNode (tNode (tLeaf (okIc iX3_starts_0 <| okIst iX3_starts_1 (by decide) <| okM (okTo (tl rfl)))) (tNode (tLeaf (okIld iX3_starts_3 <| okSi iX3_starts_5 (by decide) <| okCGe (tl rfl) iX3_starts_8 <| okAldn iX3_starts_11 rfl <| okGet (vFgM) iX3_starts_12 <| okIldn iX3_starts_15 rfl <| okSi iX3_starts_16 (by decide) <| okMul iX3_starts_19 <| okIld iX3_starts_20 <| okAdd iX3_starts_22 <| okIc iX3_starts_23 <| okIas (vAgM) iX3_starts_24 <| okInc iX3_starts_25 (by decide) <| okGotoM (tl rfl) iX3_starts_28)) (tLeaf (okIc iX3_starts_31 <| okIst iX3_starts_32 (by decide) <| okM (okTo (tl rfl)))))) (tNode (tNode (tLeaf (okIld iX3_starts_34 <| okBi iX3_starts_36 (by decide) <| okCGe (tl rfl) iX3_starts_38 <| okAldn iX3_starts_41 rfl <| okGet (vFgM) iX3_starts_42 <| okIldn iX3_starts_45 rfl <| okSi iX3_starts_46 (by decide) <| okMul iX3_starts_49 <| okBi iX3_starts_50 (by decide) <| okAdd iX3_starts_52 <| okIld iX3_starts_53 <| okAdd iX3_starts_55 <| okIc iX3_starts_56 <| okIas (vAgM) iX3_starts_57 <| okInc iX3_starts_58 (by decide) <| okGotoM (tl rfl) iX3_starts_61)) (tLeaf (okIc iX3_starts_64 <| okIst iX3_starts_65 (by decide) <| okM (okTo (tl rfl))))) (tNode (tLeaf (okIld iX3_starts_67 <| okIc iX3_starts_69 <| okCGe (tl rfl) iX3_starts_70 <| okAldn iX3_starts_73 rfl <| okGet (vFgM) iX3_starts_74 <| okIldn iX3_starts_77 rfl <| okSi iX3_starts_78 (by decide) <| okMul iX3_starts_81 <| okBi iX3_starts_82 (by decide) <| okAdd iX3_starts_84 <| okIld iX3_starts_85 <| okAdd iX3_starts_87 <| okBi iX3_starts_88 (by decide) <| okIas (vAgM) iX3_starts_90 <| okInc iX3_starts_91 (by decide) <| okGotoM (tl rfl) iX3_starts_94)) (tLeaf (okAldn iX3_starts_97 rfl <| okIldn iX3_starts_98 rfl <| okIc iX3_starts_99 <| okIldn iX3_starts_100 rfl <| okC4 (qM_X3_puts iX3_starts_101) <| okAldn iX3_starts_104 rfl <| okIldn iX3_starts_105 rfl <| okIc iX3_starts_106 <| okIldn iX3_starts_107 rfl <| okC4 (qM_X3_puts iX3_starts_108) <| okAldn iX3_starts_111 rfl <| okIldn iX3_starts_112 rfl <| okIc iX3_starts_113 <| okIld iX3_starts_114 <| okC4 (qM_X3_puts iX3_starts_116) <| okAldn iX3_starts_119 rfl <| okIldn iX3_starts_120 rfl <| okIc iX3_starts_121 <| okIld iX3_starts_122 <| okC4 (qM_X3_puts iX3_starts_124) <| okVret iX3_starts_127 rfl))))) pc
-- X3_lays: heads [11]
def tX3_lays : Nat → Blk MS := fun pc => bif Nat.blt pc 37 then (bif Nat.blt pc 11 then (bif Nat.beq pc 0 then (oAld 0 <| oGet (fgM) 3 8 <| oI 6 <| oCNe 47 <| oI 0 <| oIst 1 <| oM [true, true] (oTo 11)) else oNo) else (bif Nat.beq pc 11 then (oIld 1 <| oI 1 <| oAdd <| oI 6 <| oCGe 37 <| oAld 0 <| oI 5 <| oIld 1 <| oAdd <| oI 1 <| oAdd <| oI 5 <| oIld 1 <| oAdd <| oC3 (cM_X3_copies) <| oInc 1 1 <| oM [true, true] (oTo 11)) else oNo)) else (bif Nat.blt pc 47 then (bif Nat.beq pc 37 then (oAld 0 <| oDup <| oGet (fgM) 3 8 <| oI 1 <| oSub <| oPut (fpM) 3 8 <| oTo 47) else oNo) else (bif Nat.beq pc 47 then (oAld 0 <| oI 3 <| oI 5 <| oAld 0 <| oGet (fgM) 3 8 <| oAdd <| oC3 (cM_X3_copies) <| oAld 0 <| oDup <| oGet (fgM) 3 8 <| oI 1 <| oAdd <| oPut (fpM) 3 8 <| oVret) else oNo))
theorem tX3_lays_ok : ∀ pc, bOk (encM) (bdM) mX3_lays 0 0 pc (tX3_lays pc) := fun pc => (tNode (tNode (tLeaf (okAldn iX3_lays_0 rfl <| okGet (vFgM) iX3_lays_1 <| okBi iX3_lays_4 (by decide) <| okCNe (tl rfl) iX3_lays_6 <| okIc iX3_lays_9 <| okIstn iX3_lays_10 rfl (by decide) <| okM (okTo (tl rfl)))) (tLeaf (okIldn iX3_lays_11 rfl <| okIc iX3_lays_12 <| okAdd iX3_lays_13 <| okBi iX3_lays_14 (by decide) <| okCGe (tl rfl) iX3_lays_16 <| okAldn iX3_lays_19 rfl <| okIc iX3_lays_20 <| okIldn iX3_lays_21 rfl <| okAdd iX3_lays_22 <| okIc iX3_lays_23 <| okAdd iX3_lays_24 <| okIc iX3_lays_25 <| okIldn iX3_lays_26 rfl <| okAdd iX3_lays_27 <| okC3 (qM_X3_copies iX3_lays_28) <| okInc iX3_lays_31 (by decide) <| okGotoM (tl rfl) iX3_lays_34))) (tNode (tLeaf (okAldn iX3_lays_37 rfl <| okDup iX3_lays_38 <| okGet (vFgM) iX3_lays_39 <| okIc iX3_lays_42 <| okSub iX3_lays_43 <| okPut (vFpM) iX3_lays_44 <| okTo (tl rfl))) (tLeaf (okAldn iX3_lays_47 rfl <| okIc iX3_lays_48 <| okIc iX3_lays_49 <| okAldn iX3_lays_50 rfl <| okGet (vFgM) iX3_lays_51 <| okAdd iX3_lays_54 <| okC3 (qM_X3_copies iX3_lays_55) <| okAldn iX3_lays_58 rfl <| okDup iX3_lays_59 <| okGet (vFgM) iX3_lays_60 <| okIc iX3_lays_63 <| okAdd iX3_lays_64 <| okPut (vFpM) iX3_lays_65 <| okVret iX3_lays_68 rfl)))) pc
-- X3_undo: heads []
def tX3_undo : Nat → Blk MS := fun pc => bif Nat.blt pc 14 then (bif Nat.beq pc 0 then (oAld 0 <| oI 0 <| oPut (fpM) 3 0 <| oAld 0 <| oGet (fgM) 3 8 <| oZNe 14 <| oI (-1) <| oIret) else oNo) else (bif Nat.beq pc 14 then (oAld 0 <| oDup <| oGet (fgM) 3 8 <| oI 1 <| oSub <| oPut (fpM) 3 8 <| oAld 0 <| oI 5 <| oAld 0 <| oGet (fgM) 3 8 <| oAdd <| oI 0 <| oC3 (cM_X3_copies) <| oAld 0 <| oGet (fgM) 3 8 <| oIret) else oNo)
theorem tX3_undo_ok : ∀ pc, bOk (encM) (bdM) mX3_undo 0 0 pc (tX3_undo pc) := fun pc => (tNode (tLeaf (okAldn iX3_undo_0 rfl <| okIc iX3_undo_1 <| okPut (vFpM) iX3_undo_2 <| okAldn iX3_undo_5 rfl <| okGet (vFgM) iX3_undo_6 <| okZNe (tl rfl) iX3_undo_9 <| okIc iX3_undo_12 <| okIret iX3_undo_13 rfl)) (tLeaf (okAldn iX3_undo_14 rfl <| okDup iX3_undo_15 <| okGet (vFgM) iX3_undo_16 <| okIc iX3_undo_19 <| okSub iX3_undo_20 <| okPut (vFpM) iX3_undo_21 <| okAldn iX3_undo_24 rfl <| okIc iX3_undo_25 <| okAldn iX3_undo_26 rfl <| okGet (vFgM) iX3_undo_27 <| okAdd iX3_undo_30 <| okIc iX3_undo_31 <| okC3 (qM_X3_copies iX3_undo_32) <| okAldn iX3_undo_35 rfl <| okGet (vFgM) iX3_undo_36 <| okIret iX3_undo_39 rfl))) pc
-- X3_keep: heads []
def tX3_keep : Nat → Blk MS := fun pc => bif Nat.blt pc 17 then (bif Nat.beq pc 0 then (oAld 0 <| oI 0 <| oPut (fpM) 3 0 <| oIld 1 <| oI2l <| oJ 0 <| oJ 1 <| oC3 (cM_X3_in) <| oZNe 17 <| oI 0 <| oZret) else oNo) else (bif Nat.beq pc 17 then (oAld 0 <| oGet (fgM) 3 22 <| oIld 1 <| oI 1 <| oZas (agM) (apM) <| oAld 0 <| oI 0 <| oI 1 <| oIld 1 <| oAdd <| oC3 (cM_X3_copies) <| oI 1 <| oZret) else oNo)
theorem tX3_keep_ok : ∀ pc, bOk (encM) (bdM) mX3_keep 0 0 pc (tX3_keep pc) := fun pc => (tNode (tLeaf (okAldn iX3_keep_0 rfl <| okIc iX3_keep_1 <| okPut (vFpM) iX3_keep_2 <| okIldn iX3_keep_5 rfl <| okI2l iX3_keep_6 <| okLc iX3_keep_7 rfl <| okLc iX3_keep_8 rfl <| okC3 (qM_X3_in iX3_keep_9) <| okZNe (tl rfl) iX3_keep_12 <| okIc iX3_keep_15 <| okZret iX3_keep_16 rfl)) (tLeaf (okAldn iX3_keep_17 rfl <| okGet (vFgM) iX3_keep_18 <| okIldn iX3_keep_21 rfl <| okIc iX3_keep_22 <| okZas (vAgM) iX3_keep_23 <| okAldn iX3_keep_24 rfl <| okIc iX3_keep_25 <| okIc iX3_keep_26 <| okIldn iX3_keep_27 rfl <| okAdd iX3_keep_28 <| okC3 (qM_X3_copies iX3_keep_29) <| okIc iX3_keep_32 <| okZret iX3_keep_33 rfl))) pc
-- X3_back: heads []
def tX3_back : Nat → Blk MS := fun pc => bif Nat.blt pc 24 then (bif Nat.beq pc 0 then (oAld 0 <| oI 0 <| oPut (fpM) 3 0 <| oIld 1 <| oI2l <| oJ 0 <| oJ 1 <| oC3 (cM_X3_in) <| oZEq 24 <| oAld 0 <| oGet (fgM) 3 22 <| oIld 1 <| oZa (agM) <| oZNe 26 <| oTo 24) else oNo) else (bif Nat.blt pc 26 then (bif Nat.beq pc 24 then (oI 0 <| oZret) else oNo) else (bif Nat.beq pc 26 then (oAld 0 <| oI 1 <| oIld 1 <| oAdd <| oI 0 <| oC3 (cM_X3_copies) <| oAld 0 <| oI 0 <| oPut (fpM) 3 8 <| oI 1 <| oZret) else oNo))
theorem tX3_back_ok : ∀ pc, bOk (encM) (bdM) mX3_back 0 0 pc (tX3_back pc) := fun pc => (tNode (tLeaf (okAldn iX3_back_0 rfl <| okIc iX3_back_1 <| okPut (vFpM) iX3_back_2 <| okIldn iX3_back_5 rfl <| okI2l iX3_back_6 <| okLc iX3_back_7 rfl <| okLc iX3_back_8 rfl <| okC3 (qM_X3_in iX3_back_9) <| okZEq (tl rfl) iX3_back_12 <| okAldn iX3_back_15 rfl <| okGet (vFgM) iX3_back_16 <| okIldn iX3_back_19 rfl <| okZa (vAgM) iX3_back_20 <| okZNe (tl rfl) iX3_back_21 <| okTo (tl rfl))) (tNode (tLeaf (okIc iX3_back_24 <| okZret iX3_back_25 rfl)) (tLeaf (okAldn iX3_back_26 rfl <| okIc iX3_back_27 <| okIldn iX3_back_28 rfl <| okAdd iX3_back_29 <| okIc iX3_back_30 <| okC3 (qM_X3_copies iX3_back_31) <| okAldn iX3_back_34 rfl <| okIc iX3_back_35 <| okPut (vFpM) iX3_back_36 <| okIc iX3_back_39 <| okZret iX3_back_40 rfl)))) pc
-- X3_sign: heads [18]
def tX3_sign : Nat → Blk MS := fun pc => bif Nat.blt pc 18 then (bif Nat.blt pc 16 then (bif Nat.beq pc 0 then (oAld 0 <| oI 0 <| oPut (fpM) 3 0 <| oAld 0 <| oGet (fgM) 3 4 <| oI 76 <| oCLe 16 <| oI (-1) <| oIret) else oNo) else (bif Nat.beq pc 16 then (oI 0 <| oIst 2 <| oM [true, true, true] (oTo 18)) else oNo)) else (bif Nat.blt pc 53 then (bif Nat.beq pc 18 then (oIld 2 <| oI 4 <| oCGe 53 <| oAld 0 <| oGet (fgM) 3 3 <| oAld 0 <| oGet (fgM) 3 4 <| oIld 2 <| oAdd <| oIld 1 <| oI 24 <| oI 8 <| oIld 2 <| oMul <| oSub <| oShr <| oI 255 <| oAnd <| oIas (agM) (apM) <| oInc 2 1 <| oM [true, true, true] (oTo 18)) else oNo) else (bif Nat.beq pc 53 then (oAld 0 <| oDup <| oGet (fgM) 3 4 <| oI 4 <| oAdd <| oPut (fpM) 3 4 <| oAld 0 <| oGet (fgM) 3 4 <| oIret) else oNo))
theorem tX3_sign_ok : ∀ pc, bOk (encM) (bdM) mX3_sign 0 0 pc (tX3_sign pc) := fun pc => (tNode (tNode (tLeaf (okAldn iX3_sign_0 rfl <| okIc iX3_sign_1 <| okPut (vFpM) iX3_sign_2 <| okAldn iX3_sign_5 rfl <| okGet (vFgM) iX3_sign_6 <| okBi iX3_sign_9 (by decide) <| okCLe (tl rfl) iX3_sign_11 <| okIc iX3_sign_14 <| okIret iX3_sign_15 rfl)) (tLeaf (okIc iX3_sign_16 <| okIstn iX3_sign_17 rfl (by decide) <| okM (okTo (tl rfl))))) (tNode (tLeaf (okIldn iX3_sign_18 rfl <| okIc iX3_sign_19 <| okCGe (tl rfl) iX3_sign_20 <| okAldn iX3_sign_23 rfl <| okGet (vFgM) iX3_sign_24 <| okAldn iX3_sign_27 rfl <| okGet (vFgM) iX3_sign_28 <| okIldn iX3_sign_31 rfl <| okAdd iX3_sign_32 <| okIldn iX3_sign_33 rfl <| okBi iX3_sign_34 (by decide) <| okBi iX3_sign_36 (by decide) <| okIldn iX3_sign_38 rfl <| okMul iX3_sign_39 <| okSub iX3_sign_40 <| okShr iX3_sign_41 <| okSi iX3_sign_42 (by decide) <| okAnd iX3_sign_45 <| okIas (vAgM) iX3_sign_46 <| okInc iX3_sign_47 (by decide) <| okGotoM (tl rfl) iX3_sign_50)) (tLeaf (okAldn iX3_sign_53 rfl <| okDup iX3_sign_54 <| okGet (vFgM) iX3_sign_55 <| okIc iX3_sign_58 <| okAdd iX3_sign_59 <| okPut (vFpM) iX3_sign_60 <| okAldn iX3_sign_63 rfl <| okGet (vFgM) iX3_sign_64 <| okIret iX3_sign_67 rfl)))) pc
-- X3_end: heads []
def tX3_end : Nat → Blk MS := fun pc => bif Nat.blt pc 21 then (bif Nat.beq pc 0 then (oAld 0 <| oI 0 <| oPut (fpM) 3 0 <| oIld 1 <| oI2l <| oJ 0 <| oAld 0 <| oGet (fgM) 3 4 <| oI2l <| oC3 (cM_X3_in) <| oZNe 21 <| oI 0 <| oZret) else oNo) else (bif Nat.beq pc 21 then (oAld 0 <| oIld 1 <| oPut (fpM) 3 4 <| oI 1 <| oZret) else oNo)
theorem tX3_end_ok : ∀ pc, bOk (encM) (bdM) mX3_end 0 0 pc (tX3_end pc) := fun pc => (tNode (tLeaf (okAldn iX3_end_0 rfl <| okIc iX3_end_1 <| okPut (vFpM) iX3_end_2 <| okIldn iX3_end_5 rfl <| okI2l iX3_end_6 <| okLc iX3_end_7 rfl <| okAldn iX3_end_8 rfl <| okGet (vFgM) iX3_end_9 <| okI2l iX3_end_12 <| okC3 (qM_X3_in iX3_end_13) <| okZNe (tl rfl) iX3_end_16 <| okIc iX3_end_19 <| okZret iX3_end_20 rfl)) (tLeaf (okAldn iX3_end_21 rfl <| okIldn iX3_end_22 rfl <| okPut (vFpM) iX3_end_23 <| okIc iX3_end_26 <| okZret iX3_end_27 rfl))) pc
-- X3_isEvent: heads []
def tX3_isEvent : Nat → Blk MS := fun pc => bif Nat.blt pc 51 then (bif Nat.beq pc 0 then (oIld 1 <| oI2l <| oJ 0 <| oJ 5 <| oC3 (cM_X3_in) <| oZEq 51 <| oIld 2 <| oI2l <| oJ 0 <| oJ 9999 <| oC3 (cM_X3_in) <| oZEq 51 <| oIld 3 <| oI2l <| oJ (-99) <| oJ 99 <| oC3 (cM_X3_in) <| oZEq 51 <| oAld 0 <| oIld 4 <| oC2 (cM_X3_isSource) <| oZEq 51 <| oI 1 <| oTo 52) else oNo) else (bif Nat.blt pc 52 then (bif Nat.beq pc 51 then (oI 0 <| oTo 52) else oNo) else (bif Nat.beq pc 52 then (oZret) else oNo))
theorem tX3_isEvent_ok : ∀ pc, bOk (encM) (bdM) mX3_isEvent 0 0 pc (tX3_isEvent pc) := fun pc => (tNode (tLeaf (okIldn iX3_isEvent_0 rfl <| okI2l iX3_isEvent_1 <| okLc iX3_isEvent_2 rfl <| okLdc2 (v := 5) iX3_isEvent_3 ((wc_t4 210 rfl rfl)) (by decide) <| okC3 (qM_X3_in iX3_isEvent_6) <| okZEq (tl rfl) iX3_isEvent_9 <| okIldn iX3_isEvent_12 rfl <| okI2l iX3_isEvent_13 <| okLc iX3_isEvent_14 rfl <| okLdc2 (v := 9999) iX3_isEvent_15 ((wc_t4 211 rfl rfl)) (by decide) <| okC3 (qM_X3_in iX3_isEvent_18) <| okZEq (tl rfl) iX3_isEvent_21 <| okIldn iX3_isEvent_24 rfl <| okI2l iX3_isEvent_25 <| okLdc2 (v := (-99)) iX3_isEvent_26 ((wc_t4 212 rfl rfl)) (by decide) <| okLdc2 (v := 99) iX3_isEvent_29 ((wc_t4 175 rfl rfl)) (by decide) <| okC3 (qM_X3_in iX3_isEvent_32) <| okZEq (tl rfl) iX3_isEvent_35 <| okAldn iX3_isEvent_38 rfl <| okIld iX3_isEvent_39 <| okC2 (qM_X3_isSource iX3_isEvent_41) <| okZEq (tl rfl) iX3_isEvent_44 <| okIc iX3_isEvent_47 <| okGoto (tl rfl) iX3_isEvent_48)) (tNode (tLeaf (okIc iX3_isEvent_51 <| okTo (tl rfl))) (tLeaf (okZret iX3_isEvent_52 rfl)))) pc
def mZero (s : MS) (d : Int) : MS := mA s 3 (fun j => if (d * 2804).toNat ≤ j ∧ j < (d * 2804).toNat + 2804 then 0 else s.2 3 j)
def stL2 (d : Int) : Nat → Int → MS → MS
  | 0, _, s => s
  | m + 1, k, s => stL2 d m (k + 1) (mP s (d * 2804 + 54 + k) (-1))
def stL3 (d : Int) : Nat → Int → MS → MS
  | 0, _, s => s
  | m + 1, k, s => stL3 d m (k + 1) (mP s (d * 2804 + 16 + k) 20)
def mStart4 (s : MS) (d n g l e : Int) : MS := mP (mP (mP (mP s (d * 2804 + 0) n) (d * 2804 + 1) g) (d * 2804 + 2) l) (d * 2804 + 3) e
def mStarts (s : MS) (d n g l e : Int) : MS := mStart4 (stL3 d 4 0 (stL2 d 6 0 (mZero s d))) d n g l e
section STA
variable {K : KM} {Pt : MS → Prop} (d n g l e : Int) (hd : dOk d) (hn : xB n) (hg : xB g) (hl : xB l) (he : xB e)
theorem X3_starts_l3 : dOk d → xB n → xB g → xB l → xB e → ∀ (m : Nat) (k : Int) (s : MS), 0 ≤ k → k ≤ 4 → m = (4 - k).toNat → K [] (mStart4 (stL3 d m k s) d n g l e) → wX encM bdM mX3_starts 0 0 K Pt 67 [some (pR 0), some (pI d), some (pI n), some (pI g), some (pI l), some (pI e), some (pI k)] [] s := by
  intro hd hn hg hl he m
  induction m with
  | zero =>
    intro k s h0 h1 hm hK
    refine wx_J [3, 34, 67] 9 tX3_starts_ok rfl (fun J hR hJ => ?_)
    repeat' (first | (refine And.intro ?_ ?_) | (intro hq; first | (exact absurd hq (by omega)) | skip))
    all_goals first | omega | exact hR _ _ hK
  | succ m ih =>
    intro k s h0 h1 hm hK
    refine wx_J [3, 34, 67] 9 tX3_starts_ok rfl (fun J hR hJ => ?_)
    rw [stL3] at hK
    have g := ih (k + 1) _ (by omega) (by omega) (by omega) hK
    repeat' (first | (refine And.intro ?_ ?_) | (intro hq; first | (exact absurd hq (by omega)) | skip))
    all_goals first | omega | exact hJ _ _ _ _ g
theorem X3_starts_l2 : dOk d → xB n → xB g → xB l → xB e → ∀ (m : Nat) (k : Int) (s : MS), 0 ≤ k → k ≤ 6 → m = (6 - k).toNat → K [] (mStart4 (stL3 d 4 0 (stL2 d m k s)) d n g l e) → wX encM bdM mX3_starts 0 0 K Pt 34 [some (pR 0), some (pI d), some (pI n), some (pI g), some (pI l), some (pI e), some (pI k)] [] s := by
  intro hd hn hg hl he m
  induction m with
  | zero =>
    intro k s h0 h1 hm hK
    refine wx_J [3, 34, 67] 9 tX3_starts_ok rfl (fun J hR hJ => ?_)
    rw [stL2] at hK
    have g := X3_starts_l3 (K := K) (Pt := Pt) d n g l e hd hn hg hl he 4 0 s (by omega) (by omega) (by omega) hK
    repeat' (first | (refine And.intro ?_ ?_) | (intro hq; first | (exact absurd hq (by omega)) | skip))
    all_goals first | omega | exact hJ _ _ _ _ g
  | succ m ih =>
    intro k s h0 h1 hm hK
    refine wx_J [3, 34, 67] 9 tX3_starts_ok rfl (fun J hR hJ => ?_)
    rw [stL2] at hK
    have g := ih (k + 1) _ (by omega) (by omega) (by omega) hK
    repeat' (first | (refine And.intro ?_ ?_) | (intro hq; first | (exact absurd hq (by omega)) | skip))
    all_goals first | omega | exact hJ _ _ _ _ g
theorem X3_starts_l1 (s : MS) : dOk d → xB n → xB g → xB l → xB e → K [] (mStarts s d n g l e) → ∀ (m k : Nat), k ≤ 2804 → m = 2804 - k → wX encM bdM mX3_starts 0 0 K Pt 3 [some (pR 0), some (pI d), some (pI n), some (pI g), some (pI l), some (pI e), some (pI k)] [] (mA s 3 (fun j => if (d * 2804).toNat ≤ j ∧ j < (d * 2804).toNat + k then 0 else s.2 3 j)) := by
  intro hd hn hg hl he hK m
  induction m with
  | zero =>
    intro k h1 hm
    have : k = 2804 := by omega
    subst this
    refine wx_J [3, 34, 67] 9 tX3_starts_ok rfl (fun J hR hJ => ?_)
    have g := X3_starts_l2 (K := K) (Pt := Pt) d n g l e hd hn hg hl he 6 0 _ (by omega) (by omega) (by omega) hK
    repeat' (first | (refine And.intro ?_ ?_) | (intro hq; first | (exact absurd hq (by omega)) | skip))
    all_goals first | omega | exact hJ _ _ _ _ g
  | succ m ih =>
    intro k h1 hm
    refine wx_J [3, 34, 67] 9 tX3_starts_ok rfl (fun J hR hJ => ?_)
    have g := ih (k + 1) (by omega) (by omega)
    have e1 : ((d * 2804 + (k : Int))).toNat = (d * 2804).toNat + k := by omega
    have e : (fun j => if (d * 2804).toNat ≤ j ∧ j < (d * 2804).toNat + (k + 1) then 0 else s.2 3 j) = xup (fun j => if (d * 2804).toNat ≤ j ∧ j < (d * 2804).toNat + k then 0 else s.2 3 j) ((d * 2804 + (k : Int))).toNat 0 := by
      rw [e1]
      funext j
      unfold xup
      by_cases q : j = (d * 2804).toNat + k
      · rw [if_pos q, if_pos (by omega)]
      · rw [if_neg q]
        dsimp only
        by_cases q2 : (d * 2804).toNat ≤ j ∧ j < (d * 2804).toNat + k
        · rw [if_pos q2, if_pos (by omega)]
        · rw [if_neg q2, if_neg (by omega)]
    rw [e, show ((k + 1 : Nat) : Int) = (k : Int) + 1 by omega, ← mA_mA s 3 (fun j => if (d * 2804).toNat ≤ j ∧ j < (d * 2804).toNat + k then 0 else s.2 3 j)] at g
    repeat' (first | (refine And.intro ?_ ?_) | (intro hq; first | (exact absurd hq (by omega)) | skip))
    all_goals first | omega | exact hJ _ _ _ _ g
end STA
def sX3_starts : Int → Int → Int → Int → Int → MS → KM → Prop := fun d n g l e s K => (dOk d ∧ xB n ∧ xB g ∧ xB l ∧ xB e) ∧ K [] (mStarts s d n g l e)
theorem mX3_starts_ok : mOk encM bdM mX3_starts (atR 0 (a5 sX3_starts)) := by
  refine mOVa5 kX3_starts (fun _ _ _ _ _ => rfl) (fun d n g l e s K h hb => wx_J [3, 34, 67] 9 tX3_starts_ok rfl (fun J hR hJ => ?_))
  obtain ⟨⟨h1, h2, h3, h4, h5⟩, hK⟩ := h
  have g := X3_starts_l1 (K := K) (Pt := fun _ => False) d n g l e s h1 h2 h3 h4 h5 hK 2804 0 (by omega) (by omega)
  have e : (fun j => if (d * 2804).toNat ≤ j ∧ j < (d * 2804).toNat + 0 then 0 else s.2 3 j) = s.2 3 := by
    funext j
    rw [if_neg (by omega)]
  rw [e, mA_self] at g
  exact hJ _ _ _ _ g
def cM_X3_starts : Sp MS := atR 0 (a5 sX3_starts)
theorem qM_X3_starts {M : XI} {rc rs pc pc2 : Nat} (d : xl_Ca M pc mX3_starts pc2) : cOk encM bdM M rc rs pc pc2 6 cM_X3_starts := cSame mX3_starts_ok vX3_starts d mcl rfl lenM recM
def lyL : Nat → Int → MS → MS
  | 0, _, s => s
  | m + 1, k, s => lyL m (k + 1) (mCopy s (5 + k + 1) (5 + k))
theorem lyL_1 : ∀ (m : Nat) (k : Int) (s : MS), (lyL m k s).1 = s.1
  | 0, _, _ => rfl
  | m + 1, k, s => by rw [lyL, lyL_1 m]; rfl
def mLays2 (s : MS) : MS := mS (mCopy s 3 (5 + s.1 8)) 8 (s.1 8 + 1)
def mLays (s : MS) : MS := if s.1 8 = 6 then mLays2 (mS (lyL 5 0 s) 8 (s.1 8 - 1)) else mLays2 s
theorem X3_lays_l {K : KM} {Pt : MS → Prop} : ∀ (m : Nat) (k : Int) (s : MS), s.1 8 = 6 → 0 ≤ k → k ≤ 5 → m = (5 - k).toNat → K [] (mLays2 (mS (lyL m k s) 8 (s.1 8 - 1))) → wX encM bdM mX3_lays 0 0 K Pt 11 [some (pR 0), some (pI k)] [] s := by
  intro m
  induction m with
  | zero =>
    intro k s hu h0 h1 hm hK
    refine wx_J [11] 9 tX3_lays_ok rfl (fun J hR hJ => ?_)
    rw [lyL] at hK
    have e1 : (mS s 8 (s.1 8 - 1)).1 8 = 5 := by show s.1 8 - 1 = 5; omega
    refine ⟨⟨⟨by omega, by omega⟩, ⟨by omega, by omega⟩⟩, fun _ => ?_, fun c => absurd c (by omega)⟩
    refine fun _ => ⟨⟨by omega, by omega⟩, ?_⟩
    refine fun _ => ⟨⟨⟨by omega, by omega⟩, ⟨?_, ?_⟩⟩, ?_⟩
    · show 0 ≤ 5 + (s.1 8 - 1)
      omega
    · show 5 + (s.1 8 - 1) ≤ 10
      omega
    · refine fun _ => ⟨⟨?_, ?_⟩, hR _ _ hK⟩
      · show -2147483648 ≤ s.1 8 - 1 + 1
        omega
      · show s.1 8 - 1 + 1 ≤ 2147483647
        omega
  | succ m ih =>
    intro k s hu h0 h1 hm hK
    refine wx_J [11] 9 tX3_lays_ok rfl (fun J hR hJ => ?_)
    rw [lyL] at hK
    have g := ih (k + 1) (mCopy s (5 + k + 1) (5 + k)) hu (by omega) (by omega) (by omega) hK
    repeat' (first | (refine And.intro ?_ ?_) | (intro hq; first | (exact absurd hq (by omega)) | skip))
    all_goals first | omega | exact hJ _ _ _ _ g
def sX3_lays : MS → KM → Prop := fun s K => (0 ≤ s.1 8 ∧ s.1 8 ≤ 6) ∧ K [] (mLays s)
theorem mX3_lays_ok : mOk encM bdM mX3_lays (atR 0 (a0 sX3_lays)) := by
  refine mOVa0 kX3_lays (fun _ => rfl) (fun s K h hb => wx_J [11] 9 tX3_lays_ok rfl (fun J hR hJ => ?_))
  obtain ⟨h1, hK⟩ := h
  unfold mLays at hK
  by_cases c : s.1 8 = 6
  · rw [if_pos c] at hK
    have g := X3_lays_l (K := K) (Pt := fun _ => False) 5 0 s c (by omega) (by omega) (by omega) hK
    exact fun _ => ⟨⟨by assumption, ⟨by omega, by omega⟩⟩, fun q => absurd c q, fun _ => hJ _ _ _ _ g⟩
  · rw [if_neg c] at hK
    refine fun h8 => ⟨⟨h8, ⟨by omega, by omega⟩⟩, fun _ => ?_, fun q => absurd q c⟩
    refine fun _ => ⟨⟨⟨by omega, by omega⟩, ⟨by omega, by omega⟩⟩, fun _ => ⟨⟨?_, ?_⟩, hR _ _ hK⟩⟩
    · show -2147483648 ≤ s.1 8 + 1
      omega
    · show s.1 8 + 1 ≤ 2147483647
      omega
def cM_X3_lays : Sp MS := atR 0 (a0 sX3_lays)
theorem qM_X3_lays {M : XI} {rc rs pc pc2 : Nat} (d : xl_Ca M pc mX3_lays pc2) : cOk encM bdM M rc rs pc pc2 1 cM_X3_lays := cSame mX3_lays_ok vX3_lays d mcl rfl lenM recM
-- X3_done: heads []
def tX3_done : Nat → Blk MS := fun pc => bif Nat.blt pc 8 then (bif Nat.beq pc 0 then (oIld 1 <| oZLt 8 <| oAld 0 <| oC1 (cM_X3_lays) <| oTo 8) else oNo) else (bif Nat.beq pc 8 then (oIld 1 <| oIret) else oNo)
theorem tX3_done_ok : ∀ pc, bOk (encM) (bdM) mX3_done 0 0 pc (tX3_done pc) := fun pc => (tNode (tLeaf (okIldn iX3_done_0 rfl <| okZLt (tl rfl) iX3_done_1 <| okAldn iX3_done_4 rfl <| okC1 (qM_X3_lays iX3_done_5) <| okTo (tl rfl))) (tLeaf (okIldn iX3_done_8 rfl <| okIret iX3_done_9 rfl))) pc
def sX3_done : Int → MS → KM → Prop := fun a s K => (xB a ∧ 0 ≤ s.1 8 ∧ s.1 8 ≤ 6) ∧ K [pI a] (if 0 ≤ a then mLays s else s)
theorem mX3_done_ok : mOk encM bdM mX3_done (atR 0 (a1 sX3_done)) := by
  refine mOVa1 kX3_done (fun _ => rfl) (fun a s K h hb => wx_J [] 9 tX3_done_ok rfl (fun J hR hJ => ?_))
  obtain ⟨h1, hK⟩ := h
  by_cases c : 0 ≤ a
  · rw [if_pos c] at hK
    repeat' (first | (refine And.intro ?_ ?_) | (intro hq; first | (exact absurd hq (by omega)) | skip))
    all_goals first | omega | exact hR _ _ hK
  · rw [if_neg c] at hK
    repeat' (first | (refine And.intro ?_ ?_) | (intro hq; first | (exact absurd hq (by omega)) | skip))
    all_goals first | omega | exact hR _ _ hK
def cM_X3_done : Sp MS := atR 0 (a1 sX3_done)
theorem qM_X3_done {M : XI} {rc rs pc pc2 : Nat} (d : xl_Ca M pc mX3_done pc2) : cOk encM bdM M rc rs pc pc2 2 cM_X3_done := cSame mX3_done_ok vX3_done d mcl rfl lenM recM
-- X3_start: heads []
def tX3_start : Nat → Blk MS := fun pc => bif Nat.blt pc 27 then (bif Nat.beq pc 0 then (oAld 0 <| oI 0 <| oPut (fpM) 3 0 <| oIld 1 <| oI2l <| oJ 1 <| oJ 4 <| oC3 (cM_X3_in) <| oZEq 27 <| oIld 2 <| oIld 3 <| oIld 4 <| oC3 (cM_X3_areSettings) <| oZNe 29 <| oTo 27) else oNo) else (bif Nat.blt pc 29 then (bif Nat.beq pc 27 then (oI (-1) <| oIret) else oNo) else (bif Nat.beq pc 29 then (oAld 0 <| oI 0 <| oI 3 <| oC3 (cM_X3_copies) <| oAld 0 <| oI 0 <| oIld 1 <| oIld 2 <| oIld 3 <| oIld 4 <| oC6 (cM_X3_starts) <| oAld 0 <| oIld 1 <| oC2 (cM_X3_done) <| oIret) else oNo))
theorem tX3_start_ok : ∀ pc, bOk (encM) (bdM) mX3_start 0 0 pc (tX3_start pc) := fun pc => (tNode (tLeaf (okAldn iX3_start_0 rfl <| okIc iX3_start_1 <| okPut (vFpM) iX3_start_2 <| okIldn iX3_start_5 rfl <| okI2l iX3_start_6 <| okLc iX3_start_7 rfl <| okLdc2 (v := 4) iX3_start_8 ((wc_t4 171 rfl rfl)) (by decide) <| okC3 (qM_X3_in iX3_start_11) <| okZEq (tl rfl) iX3_start_14 <| okIldn iX3_start_17 rfl <| okIldn iX3_start_18 rfl <| okIld iX3_start_19 <| okC3 (qM_X3_areSettings iX3_start_21) <| okZNe (tl rfl) iX3_start_24 <| okTo (tl rfl))) (tNode (tLeaf (okIc iX3_start_27 <| okIret iX3_start_28 rfl)) (tLeaf (okAldn iX3_start_29 rfl <| okIc iX3_start_30 <| okIc iX3_start_31 <| okC3 (qM_X3_copies iX3_start_32) <| okAldn iX3_start_35 rfl <| okIc iX3_start_36 <| okIldn iX3_start_37 rfl <| okIldn iX3_start_38 rfl <| okIldn iX3_start_39 rfl <| okIld iX3_start_40 <| okC6 (qM_X3_starts iX3_start_42) <| okAldn iX3_start_45 rfl <| okIldn iX3_start_46 rfl <| okC2 (qM_X3_done iX3_start_47) <| okIret iX3_start_50 rfl)))) pc
-- X3_delays: heads []
def tX3_delays : Nat → Blk MS := fun pc => bif Nat.blt pc 27 then (bif Nat.blt pc 25 then (bif Nat.beq pc 0 then (oAld 0 <| oI 0 <| oPut (fpM) 3 0 <| oAld 0 <| oIld 1 <| oC2 (cM_X3_isSource) <| oZEq 25 <| oIld 2 <| oI2l <| oJ 0 <| oJ 999 <| oC3 (cM_X3_in) <| oZNe 27 <| oTo 25) else oNo) else (bif Nat.beq pc 25 then (oI (-1) <| oIret) else oNo)) else (bif Nat.blt pc 45 then (bif Nat.beq pc 27 then (oAld 0 <| oI 0 <| oI 16 <| oIld 1 <| oAdd <| oC3 (cM_X3_of) <| oIst 3 <| oIld 3 <| oIld 2 <| oCNe 45 <| oI (-2) <| oIret) else oNo) else (bif Nat.blt pc 58 then (bif Nat.beq pc 45 then (oAld 0 <| oI 0 <| oI 6 <| oC3 (cM_X3_of) <| oZLe 58 <| oI (-3) <| oIret) else oNo) else (bif Nat.beq pc 58 then (oAld 0 <| oI 0 <| oI 3 <| oC3 (cM_X3_copies) <| oAld 0 <| oI 0 <| oI 16 <| oIld 1 <| oAdd <| oIld 2 <| oC4 (cM_X3_puts) <| oAld 0 <| oIld 3 <| oC2 (cM_X3_done) <| oIret) else oNo)))
theorem tX3_delays_ok : ∀ pc, bOk (encM) (bdM) mX3_delays 0 0 pc (tX3_delays pc) := fun pc => (tNode (tNode (tLeaf (okAldn iX3_delays_0 rfl <| okIc iX3_delays_1 <| okPut (vFpM) iX3_delays_2 <| okAldn iX3_delays_5 rfl <| okIldn iX3_delays_6 rfl <| okC2 (qM_X3_isSource iX3_delays_7) <| okZEq (tl rfl) iX3_delays_10 <| okIldn iX3_delays_13 rfl <| okI2l iX3_delays_14 <| okLc iX3_delays_15 rfl <| okLdc2 (v := 999) iX3_delays_16 ((wc_t4 197 rfl rfl)) (by decide) <| okC3 (qM_X3_in iX3_delays_19) <| okZNe (tl rfl) iX3_delays_22 <| okTo (tl rfl))) (tLeaf (okIc iX3_delays_25 <| okIret iX3_delays_26 rfl))) (tNode (tLeaf (okAldn iX3_delays_27 rfl <| okIc iX3_delays_28 <| okBi iX3_delays_29 (by decide) <| okIldn iX3_delays_31 rfl <| okAdd iX3_delays_32 <| okC3 (qM_X3_of iX3_delays_33) <| okIstn iX3_delays_36 rfl (by decide) <| okIldn iX3_delays_37 rfl <| okIldn iX3_delays_38 rfl <| okCNe (tl rfl) iX3_delays_39 <| okBi iX3_delays_42 (by decide) <| okIret iX3_delays_44 rfl)) (tNode (tLeaf (okAldn iX3_delays_45 rfl <| okIc iX3_delays_46 <| okBi iX3_delays_47 (by decide) <| okC3 (qM_X3_of iX3_delays_49) <| okZLe (tl rfl) iX3_delays_52 <| okBi iX3_delays_55 (by decide) <| okIret iX3_delays_57 rfl)) (tLeaf (okAldn iX3_delays_58 rfl <| okIc iX3_delays_59 <| okIc iX3_delays_60 <| okC3 (qM_X3_copies iX3_delays_61) <| okAldn iX3_delays_64 rfl <| okIc iX3_delays_65 <| okBi iX3_delays_66 (by decide) <| okIldn iX3_delays_68 rfl <| okAdd iX3_delays_69 <| okIldn iX3_delays_70 rfl <| okC4 (qM_X3_puts iX3_delays_71) <| okAldn iX3_delays_74 rfl <| okIldn iX3_delays_75 rfl <| okC2 (qM_X3_done iX3_delays_76) <| okIret iX3_delays_79 rfl))))) pc
def gUndo (s : MS) : Int × MS := if s.1 8 = 0 then (-1, mS s 0 0) else (s.1 8 - 1, mCopy (mS (mS s 0 0) 8 (s.1 8 - 1)) (5 + (s.1 8 - 1)) 0)
def sX3_undo : MS → KM → Prop := fun s K => (0 ≤ s.1 8 ∧ s.1 8 ≤ 6) ∧ K [pI (gUndo s).1] (gUndo s).2
theorem mX3_undo_ok : mOk encM bdM mX3_undo (atR 0 (a0 sX3_undo)) := by
  refine mOVa0 kX3_undo (fun _ => rfl) (fun s K h hb => wx_J [] 9 tX3_undo_ok rfl (fun J hR hJ => ?_))
  obtain ⟨h1, hK⟩ := h
  unfold gUndo at hK
  refine ⟨⟨by omega, by omega⟩, fun h8 => ⟨h8, fun c => ?_, fun c => ?_⟩⟩
  · have c : s.1 8 ≠ 0 := c
    rw [if_neg c] at hK
    refine fun _ => ⟨⟨?_, ?_⟩, fun _ => ⟨⟨⟨?_, ?_⟩, ⟨by omega, by omega⟩⟩, fun _ => hR _ _ hK⟩⟩
    · show -2147483648 ≤ s.1 8 - 1
      omega
    · show s.1 8 - 1 ≤ 2147483647
      omega
    · show 0 ≤ 5 + (s.1 8 - 1)
      omega
    · show 5 + (s.1 8 - 1) ≤ 10
      omega
  · have c : s.1 8 = 0 := c
    rw [if_pos c] at hK
    exact hR _ _ hK
def gKeep (s : MS) (i : Int) : Int × MS := if inB i 0 1 then (1, mCopy (mA (mS s 0 0) 12 (xup (s.2 12) i.toNat 1)) 0 (1 + i)) else (0, mS s 0 0)
def sX3_keep : Int → MS → KM → Prop := fun i s K => xB i ∧ K [pI (gKeep s i).1] (gKeep s i).2
theorem mX3_keep_ok : mOk encM bdM mX3_keep (atR 0 (a1 sX3_keep)) := by
  refine mOVa1 kX3_keep (fun _ => rfl) (fun i s K h hb => wx_J [] 9 tX3_keep_ok rfl (fun J hR hJ => ?_))
  obtain ⟨h1, hK⟩ := h
  unfold gKeep at hK
  by_cases c : inB i 0 1
  · rw [if_pos c] at hK
    repeat' (first | (refine And.intro ?_ ?_) | (intro hq; first | (exact absurd hq (by omega)) | skip))
    all_goals first | omega | exact hR _ _ hK
  · rw [if_neg c] at hK
    repeat' (first | (refine And.intro ?_ ?_) | (intro hq; first | (exact absurd hq (by omega)) | skip))
    all_goals first | omega | exact hR _ _ hK
def gBack (s : MS) (i : Int) : Int × MS := if inB i 0 1 ∧ s.2 12 i.toNat ≠ 0 then (1, mS (mCopy (mS s 0 0) (1 + i) 0) 8 0) else (0, mS s 0 0)
def sX3_back : Int → MS → KM → Prop := fun i s K => xB i ∧ K [pI (gBack s i).1] (gBack s i).2
theorem mX3_back_ok : mOk encM bdM mX3_back (atR 0 (a1 sX3_back)) := by
  refine mOVa1 kX3_back (fun _ => rfl) (fun i s K h hb => wx_J [] 9 tX3_back_ok rfl (fun J hR hJ => ?_))
  obtain ⟨h1, hK⟩ := h
  unfold gBack at hK
  have f0 : (mS s 0 0).2 12 i.toNat = s.2 12 i.toNat := rfl
  by_cases c : inB i 0 1
  · by_cases c2 : s.2 12 i.toNat ≠ 0
    · rw [if_pos ⟨c, c2⟩] at hK
      repeat' (first | (refine And.intro ?_ ?_) | (intro hq; first | (exact absurd hq (by omega)) | skip))
      all_goals first | omega | exact hR _ _ hK | (exact absurd ‹_› c2)
    · rw [if_neg (fun z => c2 z.2)] at hK
      repeat' (first | (refine And.intro ?_ ?_) | (intro hq; first | (exact absurd hq (by omega)) | skip))
      all_goals first | omega | exact hR _ _ hK | (exact absurd ‹_› c2)
  · rw [if_neg (fun z => c z.1)] at hK
    repeat' (first | (refine And.intro ?_ ?_) | (intro hq; first | (exact absurd hq (by omega)) | skip))
    all_goals first | omega | exact hR _ _ hK
def gStart (s : MS) (n g l e : Int) : Int × MS := if inB n 1 4 ∧ okSet g l e then (n, mLays (mStarts (mCopy (mS s 0 0) 0 3) 0 n g l e)) else (-1, mS s 0 0)
theorem mStarts_1 (s : MS) (d n g l e : Int) : (mStarts s d n g l e).1 = s.1 := by
  have h3 : ∀ (m : Nat) (k : Int) (s : MS), (stL3 d m k s).1 = s.1 := by
    intro m
    induction m with
    | zero => intro k s; rfl
    | succ m ih => intro k s; rw [stL3, ih]; rfl
  have h2 : ∀ (m : Nat) (k : Int) (s : MS), (stL2 d m k s).1 = s.1 := by
    intro m
    induction m with
    | zero => intro k s; rfl
    | succ m ih => intro k s; rw [stL2, ih]; rfl
  show (stL3 d 4 0 (stL2 d 6 0 (mZero s d))).1 = s.1
  rw [h3, h2]
  rfl
def sX3_start : Int → Int → Int → Int → MS → KM → Prop := fun n g l e s K => ((xB n ∧ xB g ∧ xB l ∧ xB e) ∧ 0 ≤ s.1 8 ∧ s.1 8 ≤ 6) ∧ K [pI (gStart s n g l e).1] (gStart s n g l e).2
theorem mX3_start_ok : mOk encM bdM mX3_start (atR 0 (a4 sX3_start)) := by
  refine mOVa4 kX3_start (fun _ _ _ _ => rfl) (fun n g l e s K h hb => wx_J [] 9 tX3_start_ok rfl (fun J hR hJ => ?_))
  obtain ⟨⟨⟨h1, h2, h3, h4⟩, h5⟩, hK⟩ := h
  unfold gStart at hK
  by_cases c : inB n 1 4 ∧ okSet g l e
  · rw [if_pos c] at hK
    have e8 : (mStarts (mCopy (mS s 0 0) 0 3) 0 n g l e).1 8 = s.1 8 := by rw [mStarts_1]; rfl
    have hK2 : K [pI n] (if 0 ≤ n then mLays (mStarts (mCopy (mS s 0 0) 0 3) 0 n g l e) else mStarts (mCopy (mS s 0 0) 0 3) 0 n g l e) := by
      rw [if_pos (by omega)]; exact hK
    repeat' (first | (refine And.intro ?_ ?_) | (intro hq; first | (exact absurd hq (by omega)) | skip))
    all_goals first | omega | exact hR _ _ hK2 | (rw [e8]; omega)
  · rw [if_neg c] at hK
    repeat' (first | (refine And.intro ?_ ?_) | (intro hq; first | (exact absurd hq (by omega)) | skip))
    all_goals first | omega | exact hR _ _ hK
def gDelays (s : MS) (r v : Int) : Int × MS := if mSrc s r ∧ inB v 0 999 then (if mg s (16 + r) = v then (-2, mS s 0 0) else if 0 < mg s 6 then (-3, mS s 0 0) else (mg s (16 + r), if 0 ≤ mg s (16 + r) then mLays (mP (mCopy (mS s 0 0) 0 3) (16 + r) v) else mP (mCopy (mS s 0 0) 0 3) (16 + r) v)) else (-1, mS s 0 0)
end
-- 60.Mg
section
/-! ===== the model: its face, what comes ===== -/
def sX3_delays : Int → Int → MS → KM → Prop := fun r v s K => ((xB r ∧ xB v) ∧ (0 ≤ mg s 0 ∧ mg s 0 ≤ 4) ∧ 0 ≤ s.1 8 ∧ s.1 8 ≤ 6) ∧ K [pI (gDelays s r v).1] (gDelays s r v).2
theorem mX3_delays_ok : mOk encM bdM mX3_delays (atR 0 (a2 sX3_delays)) := by
  refine mOVa2 kX3_delays (fun _ _ => rfl) (fun r v s K h hb => wx_J [] 9 tX3_delays_ok rfl (fun J hR hJ => ?_))
  obtain ⟨⟨⟨h1, h2⟩, h3, h5⟩, hK⟩ := h
  unfold gDelays at hK
  have f0 : mg (mS s 0 0) (0 * 2804 + 0) = mg s 0 := rfl
  by_cases c : mSrc s r
  · by_cases c1 : inB v 0 999
    · rw [if_pos ⟨c, c1⟩] at hK
      have hi : (0 * 2804 + (16 + r)) = 16 + r := by omega
      have f1 : mg (mS s 0 0) (0 * 2804 + (16 + r)) = mg s (16 + r) := by rw [hi]; rfl
      have f6 : mg (mS s 0 0) (0 * 2804 + 6) = mg s 6 := rfl
      refine ⟨⟨by omega, by omega⟩, ⟨⟨h1, h3.1⟩, fun c2 => ?_, fun c2 => absurd c c2⟩⟩
      refine ⟨⟨by omega, by omega⟩, fun q => absurd q (by omega), fun _ => ⟨h2, ⟨⟨h2, ⟨by omega, by omega⟩, ⟨by omega, by omega⟩⟩, fun c3 => ?_, fun c3 => absurd c1 c3⟩⟩⟩
      refine ⟨⟨by omega, by omega⟩, fun _ => ?_, fun q => absurd q (by omega)⟩
      refine ⟨⟨by omega, by omega⟩, fun hx => ?_⟩
      rw [f1] at hx ⊢
      refine ⟨⟨hx, h2⟩, fun c4 => ?_, fun c4 => ?_⟩
      · rw [if_neg c4] at hK
        refine ⟨⟨by omega, by omega⟩, fun hy => ?_⟩
        rw [f6] at hy ⊢
        refine ⟨hy, fun c5 => ?_, fun c5 => ?_⟩
        · rw [if_neg (Int.not_lt.mpr c5)] at hK
          rw [← hi] at hK
          refine ⟨⟨⟨by omega, by omega⟩, by omega, by omega⟩, ⟨⟨⟨by omega, by omega⟩, h2⟩, ⟨⟨hx, h5⟩, hR _ _ ?_⟩⟩⟩
          rw [hi] at hK ⊢
          exact hK
        · rw [if_pos c5] at hK
          exact hR _ _ hK
      · rw [if_pos c4] at hK
        exact hR _ _ hK
    · rw [if_neg (fun z => c1 z.2)] at hK
      refine ⟨⟨by omega, by omega⟩, ⟨⟨h1, h3.1⟩, fun c2 => ?_, fun c2 => absurd c c2⟩⟩
      refine ⟨⟨by omega, by omega⟩, fun q => absurd q (by omega), fun _ => ⟨h2, ⟨⟨h2, ⟨by omega, by omega⟩, ⟨by omega, by omega⟩⟩, fun c3 => absurd c3 c1, fun c3 => ?_⟩⟩⟩
      exact ⟨⟨by omega, by omega⟩, fun q => absurd rfl q, fun _ => hR _ _ hK⟩
  · rw [if_neg (fun z => c z.1)] at hK
    refine ⟨⟨by omega, by omega⟩, ⟨⟨h1, h3.1⟩, fun c2 => absurd c2 c, fun c2 => ?_⟩⟩
    exact ⟨⟨by omega, by omega⟩, fun _ => hR _ _ hK, fun q => absurd rfl q⟩
abbrev mEv (s : MS) (k t v r : Int) : Prop := inB k 0 5 ∧ inB t 0 9999 ∧ inB v (-99) 99 ∧ mSrc s r
def sX3_isEvent : Int → Int → Int → Int → MS → KM → Prop := fun k t v r s K => ((xB k ∧ xB t ∧ xB v ∧ xB r) ∧ 0 ≤ mg s 0) ∧ (mEv s k t v r → K [pI 1] s) ∧ (¬ mEv s k t v r → K [pI 0] s)
theorem mX3_isEvent_ok : mOk encM bdM mX3_isEvent (atR 0 (a4 sX3_isEvent)) := by
  refine mOVa4 kX3_isEvent (fun _ _ _ _ => rfl) (fun k t v r s K h hb => wx_J [] 9 tX3_isEvent_ok rfl (fun J hR hJ => ?_))
  obtain ⟨⟨h1, h0⟩, h2, h3⟩ := h
  repeat' (first | (refine And.intro ?_ ?_) | (intro hq; first | (exact absurd hq (by omega)) | skip))
  all_goals first | omega | exact h0 | exact hR _ _ (h2 (by omega)) | exact hR _ _ (h3 (by omega))
def cM_X3_isEvent : Sp MS := atR 0 (a4 sX3_isEvent)
theorem qM_X3_isEvent {M : XI} {rc rs pc pc2 : Nat} (d : xl_Ca M pc mX3_isEvent pc2) : cOk encM bdM M rc rs pc pc2 5 cM_X3_isEvent := cSame mX3_isEvent_ok vX3_isEvent d mcl rfl lenM recM
-- X3_eventOne: heads []
def tX3_eventOne : Nat → Blk MS := fun pc => bif Nat.blt pc 32 then (bif Nat.blt pc 14 then (bif Nat.beq pc 0 then (oAld 0 <| oIld 1 <| oIld 2 <| oIld 3 <| oIld 4 <| oC5 (cM_X3_isEvent) <| oZNe 14 <| oI (-1) <| oIret) else oNo) else (bif Nat.beq pc 14 then (oAld 0 <| oI 0 <| oI 6 <| oC3 (cM_X3_of) <| oI 160 <| oCNe 32 <| oI (-3) <| oTo 42) else oNo)) else (bif Nat.blt pc 42 then (bif Nat.beq pc 32 then (oAld 0 <| oI 0 <| oIld 1 <| oIld 2 <| oIld 3 <| oIld 4 <| oC6 (cM_X3_comes) <| oTo 42) else oNo) else (bif Nat.beq pc 42 then (oIret) else oNo))
theorem tX3_eventOne_ok : ∀ pc, bOk (encM) (bdM) mX3_eventOne 0 0 pc (tX3_eventOne pc) := fun pc => (tNode (tNode (tLeaf (okAldn iX3_eventOne_0 rfl <| okIldn iX3_eventOne_1 rfl <| okIldn iX3_eventOne_2 rfl <| okIldn iX3_eventOne_3 rfl <| okIld iX3_eventOne_4 <| okC5 (qM_X3_isEvent iX3_eventOne_6) <| okZNe (tl rfl) iX3_eventOne_9 <| okIc iX3_eventOne_12 <| okIret iX3_eventOne_13 rfl)) (tLeaf (okAldn iX3_eventOne_14 rfl <| okIc iX3_eventOne_15 <| okBi iX3_eventOne_16 (by decide) <| okC3 (qM_X3_of iX3_eventOne_18) <| okSi iX3_eventOne_21 (by decide) <| okCNe (tl rfl) iX3_eventOne_24 <| okBi iX3_eventOne_27 (by decide) <| okGoto (tl rfl) iX3_eventOne_29))) (tNode (tLeaf (okAldn iX3_eventOne_32 rfl <| okIc iX3_eventOne_33 <| okIldn iX3_eventOne_34 rfl <| okIldn iX3_eventOne_35 rfl <| okIldn iX3_eventOne_36 rfl <| okIld iX3_eventOne_37 <| okC6 (qM_X3_comes iX3_eventOne_39) <| okTo (tl rfl))) (tLeaf (okIret iX3_eventOne_42 rfl)))) pc
-- X3_entersSince: heads []
def tX3_entersSince : Nat → Blk MS := fun pc => bif Nat.beq pc 0 then (oAld 0 <| oI 0 <| oPut (fpM) 3 1 <| oAld 0 <| oAld 0 <| oIld 1 <| oI 7 <| oC3 (cM_X3_of) <| oIld 2 <| oSubW <| oI2l <| oC2 (cM_X3_enters) <| oAld 0 <| oAld 0 <| oIld 1 <| oI 4 <| oC3 (cM_X3_of) <| oI2l <| oC2 (cM_X3_enters) <| oVret) else oNo
theorem tX3_entersSince_ok : ∀ pc, bOk (encM) (bdM) mX3_entersSince 0 0 pc (tX3_entersSince pc) := fun pc => (tLeaf (okAldn iX3_entersSince_0 rfl <| okIc iX3_entersSince_1 <| okPut (vFpM) iX3_entersSince_2 <| okAldn iX3_entersSince_5 rfl <| okAldn iX3_entersSince_6 rfl <| okIldn iX3_entersSince_7 rfl <| okBi iX3_entersSince_8 (by decide) <| okC3 (qM_X3_of iX3_entersSince_10) <| okIldn iX3_entersSince_13 rfl <| okSubW iX3_entersSince_14 <| okI2l iX3_entersSince_15 <| okC2 (qM_X3_enters iX3_entersSince_16) <| okAldn iX3_entersSince_19 rfl <| okAldn iX3_entersSince_20 rfl <| okIldn iX3_entersSince_21 rfl <| okIc iX3_entersSince_22 <| okC3 (qM_X3_of iX3_entersSince_23) <| okI2l iX3_entersSince_26 <| okC2 (qM_X3_enters iX3_entersSince_27) <| okVret iX3_entersSince_30 rfl)) pc
-- X3_entersProgress: heads []
def tX3_entersProgress : Nat → Blk MS := fun pc => bif Nat.beq pc 0 then (oAld 0 <| oI 0 <| oPut (fpM) 3 1 <| oAld 0 <| oAld 0 <| oI 0 <| oI 4 <| oC3 (cM_X3_of) <| oI2l <| oC2 (cM_X3_enters) <| oVret) else oNo
theorem tX3_entersProgress_ok : ∀ pc, bOk (encM) (bdM) mX3_entersProgress 0 0 pc (tX3_entersProgress pc) := fun pc => (tLeaf (okAldn iX3_entersProgress_0 rfl <| okIc iX3_entersProgress_1 <| okPut (vFpM) iX3_entersProgress_2 <| okAldn iX3_entersProgress_5 rfl <| okAldn iX3_entersProgress_6 rfl <| okIc iX3_entersProgress_7 <| okIc iX3_entersProgress_8 <| okC3 (qM_X3_of iX3_entersProgress_9) <| okI2l iX3_entersProgress_12 <| okC2 (qM_X3_enters iX3_entersProgress_13) <| okVret iX3_entersProgress_16 rfl)) pc
-- X3_marksOne: heads []
def tX3_marksOne : Nat → Blk MS := fun pc => bif Nat.blt pc 22 then (bif Nat.blt pc 20 then (bif Nat.beq pc 0 then (oAld 0 <| oIld 1 <| oC2 (cM_X3_isSource) <| oZEq 20 <| oIld 2 <| oI2l <| oJ 0 <| oJ 20000 <| oC3 (cM_X3_in) <| oZNe 22 <| oTo 20) else oNo) else (bif Nat.beq pc 20 then (oI (-1) <| oIret) else oNo)) else (bif Nat.blt pc 38 then (bif Nat.beq pc 22 then (oAld 0 <| oI 0 <| oI 12 <| oIld 1 <| oAdd <| oC3 (cM_X3_of) <| oIld 2 <| oCLt 38 <| oI (-2) <| oIret) else oNo) else (bif Nat.blt pc 54 then (bif Nat.beq pc 38 then (oAld 0 <| oI 0 <| oI 6 <| oC3 (cM_X3_of) <| oI 160 <| oCNe 54 <| oI (-3) <| oIret) else oNo) else (bif Nat.beq pc 54 then (oAld 0 <| oI 0 <| oI 7 <| oC3 (cM_X3_of) <| oIst 3 <| oAld 0 <| oI 0 <| oIld 1 <| oIld 2 <| oC4 (cM_X3_isMarked) <| oAld 0 <| oI 0 <| oI 7 <| oC3 (cM_X3_of) <| oIld 3 <| oSubW <| oIret) else oNo)))
theorem tX3_marksOne_ok : ∀ pc, bOk (encM) (bdM) mX3_marksOne 0 0 pc (tX3_marksOne pc) := fun pc => (tNode (tNode (tLeaf (okAldn iX3_marksOne_0 rfl <| okIldn iX3_marksOne_1 rfl <| okC2 (qM_X3_isSource iX3_marksOne_2) <| okZEq (tl rfl) iX3_marksOne_5 <| okIldn iX3_marksOne_8 rfl <| okI2l iX3_marksOne_9 <| okLc iX3_marksOne_10 rfl <| okLdc2 (v := 20000) iX3_marksOne_11 ((wc_t5 102 rfl rfl)) (by decide) <| okC3 (qM_X3_in iX3_marksOne_14) <| okZNe (tl rfl) iX3_marksOne_17 <| okTo (tl rfl))) (tLeaf (okIc iX3_marksOne_20 <| okIret iX3_marksOne_21 rfl))) (tNode (tLeaf (okAldn iX3_marksOne_22 rfl <| okIc iX3_marksOne_23 <| okBi iX3_marksOne_24 (by decide) <| okIldn iX3_marksOne_26 rfl <| okAdd iX3_marksOne_27 <| okC3 (qM_X3_of iX3_marksOne_28) <| okIldn iX3_marksOne_31 rfl <| okCLt (tl rfl) iX3_marksOne_32 <| okBi iX3_marksOne_35 (by decide) <| okIret iX3_marksOne_37 rfl)) (tNode (tLeaf (okAldn iX3_marksOne_38 rfl <| okIc iX3_marksOne_39 <| okBi iX3_marksOne_40 (by decide) <| okC3 (qM_X3_of iX3_marksOne_42) <| okSi iX3_marksOne_45 (by decide) <| okCNe (tl rfl) iX3_marksOne_48 <| okBi iX3_marksOne_51 (by decide) <| okIret iX3_marksOne_53 rfl)) (tLeaf (okAldn iX3_marksOne_54 rfl <| okIc iX3_marksOne_55 <| okBi iX3_marksOne_56 (by decide) <| okC3 (qM_X3_of iX3_marksOne_58) <| okIstn iX3_marksOne_61 rfl (by decide) <| okAldn iX3_marksOne_62 rfl <| okIc iX3_marksOne_63 <| okIldn iX3_marksOne_64 rfl <| okIldn iX3_marksOne_65 rfl <| okC4 (qM_X3_isMarked iX3_marksOne_66) <| okAldn iX3_marksOne_69 rfl <| okIc iX3_marksOne_70 <| okBi iX3_marksOne_71 (by decide) <| okC3 (qM_X3_of iX3_marksOne_73) <| okIldn iX3_marksOne_76 rfl <| okSubW iX3_marksOne_77 <| okIret iX3_marksOne_78 rfl))))) pc
-- X3_idlesOne: heads []
def tX3_idlesOne : Nat → Blk MS := fun pc => bif Nat.blt pc 26 then (bif Nat.blt pc 10 then (bif Nat.beq pc 0 then (oAld 0 <| oIld 1 <| oC2 (cM_X3_isSource) <| oZNe 10 <| oI (-1) <| oIret) else oNo) else (bif Nat.beq pc 10 then (oAld 0 <| oI 0 <| oI 20 <| oIld 1 <| oAdd <| oC3 (cM_X3_of) <| oI 1 <| oCNe 26 <| oI (-2) <| oIret) else oNo)) else (bif Nat.blt pc 42 then (bif Nat.beq pc 26 then (oAld 0 <| oI 0 <| oI 6 <| oC3 (cM_X3_of) <| oI 160 <| oCNe 42 <| oI (-3) <| oIret) else oNo) else (bif Nat.beq pc 42 then (oAld 0 <| oI 0 <| oI 7 <| oC3 (cM_X3_of) <| oIst 2 <| oAld 0 <| oI 0 <| oIld 1 <| oC3 (cM_X3_isIdle) <| oAld 0 <| oI 0 <| oI 7 <| oC3 (cM_X3_of) <| oIld 2 <| oSubW <| oIret) else oNo))
theorem tX3_idlesOne_ok : ∀ pc, bOk (encM) (bdM) mX3_idlesOne 0 0 pc (tX3_idlesOne pc) := fun pc => (tNode (tNode (tLeaf (okAldn iX3_idlesOne_0 rfl <| okIldn iX3_idlesOne_1 rfl <| okC2 (qM_X3_isSource iX3_idlesOne_2) <| okZNe (tl rfl) iX3_idlesOne_5 <| okIc iX3_idlesOne_8 <| okIret iX3_idlesOne_9 rfl)) (tLeaf (okAldn iX3_idlesOne_10 rfl <| okIc iX3_idlesOne_11 <| okBi iX3_idlesOne_12 (by decide) <| okIldn iX3_idlesOne_14 rfl <| okAdd iX3_idlesOne_15 <| okC3 (qM_X3_of iX3_idlesOne_16) <| okIc iX3_idlesOne_19 <| okCNe (tl rfl) iX3_idlesOne_20 <| okBi iX3_idlesOne_23 (by decide) <| okIret iX3_idlesOne_25 rfl))) (tNode (tLeaf (okAldn iX3_idlesOne_26 rfl <| okIc iX3_idlesOne_27 <| okBi iX3_idlesOne_28 (by decide) <| okC3 (qM_X3_of iX3_idlesOne_30) <| okSi iX3_idlesOne_33 (by decide) <| okCNe (tl rfl) iX3_idlesOne_36 <| okBi iX3_idlesOne_39 (by decide) <| okIret iX3_idlesOne_41 rfl)) (tLeaf (okAldn iX3_idlesOne_42 rfl <| okIc iX3_idlesOne_43 <| okBi iX3_idlesOne_44 (by decide) <| okC3 (qM_X3_of iX3_idlesOne_46) <| okIstn iX3_idlesOne_49 rfl (by decide) <| okAldn iX3_idlesOne_50 rfl <| okIc iX3_idlesOne_51 <| okIldn iX3_idlesOne_52 rfl <| okC3 (qM_X3_isIdle iX3_idlesOne_53) <| okAldn iX3_idlesOne_56 rfl <| okIc iX3_idlesOne_57 <| okBi iX3_idlesOne_58 (by decide) <| okC3 (qM_X3_of iX3_idlesOne_60) <| okIldn iX3_idlesOne_63 rfl <| okSubW iX3_idlesOne_64 <| okIret iX3_idlesOne_65 rfl)))) pc
/-- one event, one mark, one idle source: K of the answer and the state -/
def evP (s : MS) (k t v r : Int) (n : Nat) (K : Int → MS → Prop) : Prop := (¬ mEv s k t v r → K (-1) s) ∧ (mEv s k t v r → (mg s 6 = 160 → K (-3) s) ∧ (mg s 6 ≠ 160 → (0 ≤ mg s 6 ∧ mg s 6 ≤ 159) ∧ mComeP s 0 k t v r n (fun s' => K (mHow s 0 t) s')))
def sX3_eventOne : Int → Int → Int → Int → MS → KM → Prop := fun k t v r s K => ((xB k ∧ xB t ∧ xB v ∧ xB r) ∧ 0 ≤ mg s 0 ∧ mg s 0 ≤ 4) ∧ ∃ n, evP s k t v r n (fun a s' => -3 ≤ a → a ≤ 2 → K [pI a] s')
theorem mX3_eventOne_ok : mOk encM bdM mX3_eventOne (atR 0 (a4 sX3_eventOne)) := by
  refine mOVa4 kX3_eventOne (fun _ _ _ _ => rfl) (fun k t v r s K h hb => wx_J [] 9 tX3_eventOne_ok rfl (fun J hR hJ => ?_))
  obtain ⟨⟨⟨h1, h2, h3, h4⟩, h5⟩, n, p1, p2⟩ := h
  refine ⟨⟨⟨h1, h2, h3, h4⟩, h5.1⟩, fun c => ?_, fun c => ?_⟩
  · obtain ⟨q1, q2⟩ := p2 c
    refine ⟨⟨by omega, by omega⟩, fun _ => ?_, fun y => absurd y (by omega)⟩
    refine ⟨⟨by omega, by omega⟩, fun (hx : xB (mg s 6)) => ⟨⟨hx, ⟨by omega, by omega⟩⟩, fun c2 => ?_, fun c2 => ?_⟩⟩
    · obtain ⟨q3, q4⟩ := q2 c2
      refine ⟨⟨⟨by omega, by omega⟩, ⟨by omega, by omega⟩, ⟨h1, h2, h3⟩, q3⟩, n, mComeP_mono (fun s' z u1 u2 => hR _ _ (z (by omega) u2)) q4⟩
    · exact hR _ _ (q1 c2 (by omega) (by omega))
  · exact ⟨⟨by omega, by omega⟩, fun y => absurd rfl y, fun _ => hR _ _ (p1 c (by omega) (by omega))⟩
def cM_X3_eventOne : Sp MS := atR 0 (a4 sX3_eventOne)
theorem qM_X3_eventOne {M : XI} {rc rs pc pc2 : Nat} (d : xl_Ca M pc mX3_eventOne pc2) : cOk encM bdM M rc rs pc pc2 5 cM_X3_eventOne := cSame mX3_eventOne_ok vX3_eventOne d mcl rfl lenM recM
def mSince (s : MS) (d w : Int) : MS := mEn (mEn (mS s 1 0) (wI (mg s (d * 2804 + 7) - w))) (mg s (d * 2804 + 4))
def sX3_entersSince : Int → Int → MS → KM → Prop := fun d w s K => dOk d ∧ K [] (mSince s d w)
theorem mX3_entersSince_ok : mOk encM bdM mX3_entersSince (atR 0 (a2 sX3_entersSince)) := by
  refine mOVa2 kX3_entersSince (fun _ _ => rfl) (fun d w s K h hb => wx_J [] 9 tX3_entersSince_ok rfl (fun J hR hJ => ?_))
  obtain ⟨h1, hK⟩ := h
  refine ⟨⟨by omega, by omega⟩, ⟨by omega, by omega⟩, fun a1 a2 => ⟨a2, ⟨a2, by show (0 : Int) ≤ 0; omega, by show (0 : Int) < 16; omega⟩, ⟨by omega, by omega⟩, fun a3 => ⟨a3, ⟨a3, by show (0 : Int) ≤ 0 + 1; omega, by show (0 : Int) + 1 < 16; omega⟩, hR _ _ hK⟩⟩⟩
def cM_X3_entersSince : Sp MS := atR 0 (a2 sX3_entersSince)
theorem qM_X3_entersSince {M : XI} {rc rs pc pc2 : Nat} (d : xl_Ca M pc mX3_entersSince pc2) : cOk encM bdM M rc rs pc pc2 3 cM_X3_entersSince := cSame mX3_entersSince_ok vX3_entersSince d mcl rfl lenM recM
def mProg (s : MS) : MS := mEn (mS s 1 0) (mg s 4)
def sX3_entersProgress : MS → KM → Prop := fun s K => K [] (mProg s)
theorem mX3_entersProgress_ok : mOk encM bdM mX3_entersProgress (atR 0 (a0 sX3_entersProgress)) := by
  refine mOVa0 kX3_entersProgress (fun _ => rfl) (fun s K h hb => wx_J [] 9 tX3_entersProgress_ok rfl (fun J hR hJ => ?_))
  exact ⟨⟨by omega, by omega⟩, ⟨by omega, by omega⟩, fun a1 => ⟨a1, ⟨a1, by show (0 : Int) ≤ 0; omega, by show (0 : Int) < 16; omega⟩, hR _ _ h⟩⟩
def cM_X3_entersProgress : Sp MS := atR 0 (a0 sX3_entersProgress)
theorem qM_X3_entersProgress {M : XI} {rc rs pc pc2 : Nat} (d : xl_Ca M pc mX3_entersProgress pc2) : cOk encM bdM M rc rs pc pc2 1 cM_X3_entersProgress := cSame mX3_entersProgress_ok vX3_entersProgress d mcl rfl lenM recM
def mkP (s : MS) (r t : Int) (n : Nat) (K : Int → MS → Prop) : Prop := (¬ (mSrc s r ∧ inB t 0 20000) → K (-1) s) ∧ ((mSrc s r ∧ inB t 0 20000) → (t ≤ mg s (12 + r) → K (-2) s) ∧ (mg s (12 + r) < t → (mg s 6 = 160 → K (-3) s) ∧ (mg s 6 ≠ 160 → (0 ≤ mg s 6 ∧ mg s 6 ≤ 159) ∧ mMarkP s 0 r t n (fun s' => K (wI (mg s' 7 - mg s 7)) s'))))
def sX3_marksOne : Int → Int → MS → KM → Prop := fun r t s K => ((xB r ∧ xB t) ∧ 0 ≤ mg s 0 ∧ mg s 0 ≤ 4) ∧ ∃ n, mkP s r t n (fun a s' => xB a → K [pI a] s')
theorem mX3_marksOne_ok : mOk encM bdM mX3_marksOne (atR 0 (a2 sX3_marksOne)) := by
  refine mOVa2 kX3_marksOne (fun _ _ => rfl) (fun r t s K h hb => wx_J [] 9 tX3_marksOne_ok rfl (fun J hR hJ => ?_))
  obtain ⟨⟨⟨h1, h2⟩, h5⟩, n, p1, p2⟩ := h
  have hi : (0 * 2804 + (12 + r)) = 12 + r := by omega
  refine ⟨⟨h1, h5.1⟩, fun c => ?_, fun c => ?_⟩
  · refine ⟨⟨by omega, by omega⟩, fun y => absurd y (by omega), fun _ => ⟨h2, ⟨⟨h2, ⟨by omega, by omega⟩, ⟨by omega, by omega⟩⟩, fun c2 => ?_, fun c2 => ?_⟩⟩⟩
    · obtain ⟨q1, q2⟩ := p2 ⟨c, c2⟩
      refine ⟨⟨by omega, by omega⟩, fun _ => ?_, fun y => absurd y (by omega)⟩
      refine ⟨⟨by omega, by omega⟩, fun hx => ?_⟩
      rw [hi] at hx ⊢
      refine ⟨⟨hx, h2⟩, fun c3 => ?_, fun c3 => ?_⟩
      · obtain ⟨q3, q4⟩ := q2 c3
        refine ⟨⟨by omega, by omega⟩, fun (hy : xB (mg s 6)) => ⟨⟨hy, ⟨by omega, by omega⟩⟩, fun c4 => ?_, fun c4 => ?_⟩⟩
        · obtain ⟨q5, q6, q7⟩ := q4 c4
          refine ⟨⟨by omega, by omega⟩, fun _ => ⟨⟨⟨by omega, by omega⟩, ⟨by omega, by omega⟩, h2, q5⟩, n, q6, mRisP_mono (fun s' z => ⟨⟨by omega, by omega⟩, fun _ hz => hR _ _ (z hz)⟩) q7⟩⟩
        · exact hR _ _ (q3 c4 ⟨by omega, by omega⟩)
      · exact hR _ _ (q1 c3 ⟨by omega, by omega⟩)
    · exact ⟨⟨by omega, by omega⟩, fun y => absurd rfl y, fun _ => hR _ _ (p1 (fun z => c2 z.2) ⟨by omega, by omega⟩)⟩
  · exact ⟨⟨by omega, by omega⟩, fun _ => hR _ _ (p1 (fun z => c z.1) ⟨by omega, by omega⟩), fun y => absurd rfl y⟩
def cM_X3_marksOne : Sp MS := atR 0 (a2 sX3_marksOne)
theorem qM_X3_marksOne {M : XI} {rc rs pc pc2 : Nat} (d : xl_Ca M pc mX3_marksOne pc2) : cOk encM bdM M rc rs pc pc2 3 cM_X3_marksOne := cSame mX3_marksOne_ok vX3_marksOne d mcl rfl lenM recM
def idP (s : MS) (r : Int) (n : Nat) (K : Int → MS → Prop) : Prop := (¬ mSrc s r → K (-1) s) ∧ (mSrc s r → (mg s (20 + r) = 1 → K (-2) s) ∧ (mg s (20 + r) ≠ 1 → (mg s 6 = 160 → K (-3) s) ∧ (mg s 6 ≠ 160 → (0 ≤ mg s 6 ∧ mg s 6 ≤ 159) ∧ mIdleP s 0 r n (fun s' => K (wI (mg s' 7 - mg s 7)) s'))))
def sX3_idlesOne : Int → MS → KM → Prop := fun r s K => (xB r ∧ 0 ≤ mg s 0 ∧ mg s 0 ≤ 4) ∧ ∃ n, idP s r n (fun a s' => xB a → K [pI a] s')
theorem mX3_idlesOne_ok : mOk encM bdM mX3_idlesOne (atR 0 (a1 sX3_idlesOne)) := by
  refine mOVa1 kX3_idlesOne (fun _ => rfl) (fun r s K h hb => wx_J [] 9 tX3_idlesOne_ok rfl (fun J hR hJ => ?_))
  obtain ⟨⟨h1, h5⟩, n, p1, p2⟩ := h
  have hi : (0 * 2804 + (20 + r)) = 20 + r := by omega
  refine ⟨⟨h1, h5.1⟩, fun c => ?_, fun c => ?_⟩
  · obtain ⟨q1, q2⟩ := p2 c
    refine ⟨⟨by omega, by omega⟩, fun _ => ?_, fun y => absurd y (by omega)⟩
    refine ⟨⟨by omega, by omega⟩, fun hx => ?_⟩
    rw [hi] at hx ⊢
    refine ⟨⟨hx, ⟨by omega, by omega⟩⟩, fun c3 => ?_, fun c3 => ?_⟩
    · obtain ⟨q3, q4⟩ := q2 c3
      refine ⟨⟨by omega, by omega⟩, fun (hy : xB (mg s 6)) => ⟨⟨hy, ⟨by omega, by omega⟩⟩, fun c4 => ?_, fun c4 => ?_⟩⟩
      · obtain ⟨q5, q6, q7⟩ := q4 c4
        refine ⟨⟨by omega, by omega⟩, fun _ => ⟨⟨⟨by omega, by omega⟩, ⟨by omega, by omega⟩, q5⟩, n, q6, mRisP_mono (fun s' z => ⟨⟨by omega, by omega⟩, fun _ hz => hR _ _ (z hz)⟩) q7⟩⟩
      · exact hR _ _ (q3 c4 ⟨by omega, by omega⟩)
    · exact hR _ _ (q1 c3 ⟨by omega, by omega⟩)
  · exact ⟨⟨by omega, by omega⟩, fun y => absurd rfl y, fun _ => hR _ _ (p1 c ⟨by omega, by omega⟩)⟩
def cM_X3_idlesOne : Sp MS := atR 0 (a1 sX3_idlesOne)
theorem qM_X3_idlesOne {M : XI} {rc rs pc pc2 : Nat} (d : xl_Ca M pc mX3_idlesOne pc2) : cOk encM bdM M rc rs pc pc2 2 cM_X3_idlesOne := cSame mX3_idlesOne_ok vX3_idlesOne d mcl rfl lenM recM
end
