-- 37.codeX
section
theorem iX2_init_0 : xl_D mX2_init 0 (.aload_n 0) 1 1 := ⟨zd zq_0 (by decide +kernel), rfl⟩
theorem iX2_init_1 : xl_D mX2_init 1 (.invokespecial 1) 3 4 := ⟨zd zq_1 (by decide +kernel), rfl⟩
theorem iX2_init_4 : xl_D mX2_init 4 (.aload_n 0) 1 5 := ⟨zd zq_0 (by decide +kernel), rfl⟩
theorem iX2_init_5 : xl_D mX2_init 5 (.new 7) 3 8 := ⟨zd zq_220 (by decide +kernel), rfl⟩
theorem iX2_init_8 : xl_D mX2_init 8 (.dup) 1 9 := ⟨zd zq_46 (by decide +kernel), rfl⟩
theorem iX2_init_9 : xl_D mX2_init 9 (.invokespecial 9) 3 12 := ⟨zd zq_221 (by decide +kernel), rfl⟩
theorem iX2_init_15 : xl_D mX2_init 15 (.aload_n 0) 1 16 := ⟨zd zq_0 (by decide +kernel), rfl⟩
theorem iX2_init_16 : xl_D mX2_init 16 (.new 7) 3 19 := ⟨zd zq_220 (by decide +kernel), rfl⟩
theorem iX2_init_19 : xl_D mX2_init 19 (.dup) 1 20 := ⟨zd zq_46 (by decide +kernel), rfl⟩
theorem iX2_init_20 : xl_D mX2_init 20 (.invokespecial 9) 3 23 := ⟨zd zq_221 (by decide +kernel), rfl⟩
theorem iX2_init_26 : xl_D mX2_init 26 (.aload_n 0) 1 27 := ⟨zd zq_0 (by decide +kernel), rfl⟩
theorem iX2_init_27 : xl_D mX2_init 27 (.bipush 6) 2 29 := ⟨zd zq_71 (by decide +kernel), rfl⟩
theorem iX2_init_29 : xl_D mX2_init 29 (.anewarray 7) 3 32 := ⟨zd zq_224 (by decide +kernel), rfl⟩
theorem iX2_init_35 : xl_D mX2_init 35 (.iconst 0) 1 36 := ⟨zd zq_2 (by decide +kernel), rfl⟩
theorem iX2_init_36 : xl_D mX2_init 36 (.istore_n 1) 1 37 := ⟨zd zq_194 (by decide +kernel), rfl⟩
theorem iX2_init_37 : xl_D mX2_init 37 (.iload_n 1) 1 38 := ⟨zd zq_3 (by decide +kernel), rfl⟩
theorem iX2_init_38 : xl_D mX2_init 38 (.bipush 6) 2 40 := ⟨zd zq_71 (by decide +kernel), rfl⟩
theorem iX2_init_40 : xl_J mX2_init 40 (fun o => .if_icmp .ge o) 43 62 := ⟨22, zd zq_225 (by decide +kernel), rfl, rfl⟩
theorem iX2_init_43 : xl_D mX2_init 43 (.aload_n 0) 1 44 := ⟨zd zq_0 (by decide +kernel), rfl⟩
theorem iX2_init_44 : xl_G mX2_init 44 2 2 47 := ⟨19, zd zq_9 (by decide +kernel), rfl, fX2_19⟩
theorem iX2_init_47 : xl_D mX2_init 47 (.iload_n 1) 1 48 := ⟨zd zq_3 (by decide +kernel), rfl⟩
theorem iX2_init_48 : xl_D mX2_init 48 (.new 7) 3 51 := ⟨zd zq_220 (by decide +kernel), rfl⟩
theorem iX2_init_51 : xl_D mX2_init 51 (.dup) 1 52 := ⟨zd zq_46 (by decide +kernel), rfl⟩
theorem iX2_init_52 : xl_D mX2_init 52 (.invokespecial 9) 3 55 := ⟨zd zq_221 (by decide +kernel), rfl⟩
theorem iX2_init_55 : xl_D mX2_init 55 (.aastore) 1 56 := ⟨zd zq_226 (by decide +kernel), rfl⟩
theorem iX2_init_56 : xl_D mX2_init 56 (.iinc 1 1) 3 59 := ⟨zd zq_227 (by decide +kernel), rfl⟩
theorem iX2_init_59 : xl_J mX2_init 59 (fun o => .goto o) 62 37 := ⟨-22, zd zq_228 (by decide +kernel), rfl, rfl⟩
theorem iX2_init_62 : xl_D mX2_init 62 (.aload_n 0) 1 63 := ⟨zd zq_0 (by decide +kernel), rfl⟩
theorem iX2_init_63 : xl_D mX2_init 63 (.iconst 2) 1 64 := ⟨zd zq_127 (by decide +kernel), rfl⟩
theorem iX2_init_64 : xl_D mX2_init 64 (.anewarray 7) 3 67 := ⟨zd zq_224 (by decide +kernel), rfl⟩
theorem iX2_init_70 : xl_D mX2_init 70 (.iconst 0) 1 71 := ⟨zd zq_2 (by decide +kernel), rfl⟩
theorem iX2_init_71 : xl_D mX2_init 71 (.istore_n 1) 1 72 := ⟨zd zq_194 (by decide +kernel), rfl⟩
theorem iX2_init_72 : xl_D mX2_init 72 (.iload_n 1) 1 73 := ⟨zd zq_3 (by decide +kernel), rfl⟩
theorem iX2_init_73 : xl_D mX2_init 73 (.iconst 2) 1 74 := ⟨zd zq_127 (by decide +kernel), rfl⟩
theorem iX2_init_74 : xl_J mX2_init 74 (fun o => .if_icmp .ge o) 77 96 := ⟨22, zd zq_225 (by decide +kernel), rfl, rfl⟩
theorem iX2_init_77 : xl_D mX2_init 77 (.aload_n 0) 1 78 := ⟨zd zq_0 (by decide +kernel), rfl⟩
theorem iX2_init_78 : xl_G mX2_init 78 2 5 81 := ⟨23, zd zq_101 (by decide +kernel), rfl, fX2_23⟩
theorem iX2_init_81 : xl_D mX2_init 81 (.iload_n 1) 1 82 := ⟨zd zq_3 (by decide +kernel), rfl⟩
theorem iX2_init_82 : xl_D mX2_init 82 (.new 7) 3 85 := ⟨zd zq_220 (by decide +kernel), rfl⟩
theorem iX2_init_85 : xl_D mX2_init 85 (.dup) 1 86 := ⟨zd zq_46 (by decide +kernel), rfl⟩
theorem iX2_init_86 : xl_D mX2_init 86 (.invokespecial 9) 3 89 := ⟨zd zq_221 (by decide +kernel), rfl⟩
theorem iX2_init_89 : xl_D mX2_init 89 (.aastore) 1 90 := ⟨zd zq_226 (by decide +kernel), rfl⟩
theorem iX2_init_90 : xl_D mX2_init 90 (.iinc 1 1) 3 93 := ⟨zd zq_227 (by decide +kernel), rfl⟩
theorem iX2_init_93 : xl_J mX2_init 93 (fun o => .goto o) 96 72 := ⟨-21, zd zq_163 (by decide +kernel), rfl, rfl⟩
theorem iX2_init_96 : xl_D mX2_init 96 (.aload_n 0) 1 97 := ⟨zd zq_0 (by decide +kernel), rfl⟩
theorem iX2_init_97 : xl_D mX2_init 97 (.bipush 6) 2 99 := ⟨zd zq_71 (by decide +kernel), rfl⟩
theorem iX2_init_99 : xl_D mX2_init 99 (.newarray .long) 2 101 := ⟨by decide +kernel, rfl⟩
theorem iX2_init_104 : xl_D mX2_init 104 (.aload_n 0) 1 105 := ⟨zd zq_0 (by decide +kernel), rfl⟩
theorem iX2_init_105 : xl_D mX2_init 105 (.bipush 80) 2 107 := ⟨zd zq_229 (by decide +kernel), rfl⟩
theorem iX2_init_107 : xl_D mX2_init 107 (.newarray .int) 2 109 := ⟨by decide +kernel, rfl⟩
theorem iX2_init_112 : xl_D mX2_init 112 (.aload_n 0) 1 113 := ⟨zd zq_0 (by decide +kernel), rfl⟩
theorem iX2_init_113 : xl_D mX2_init 113 (.sipush 160) 3 116 := ⟨zd zq_74 (by decide +kernel), rfl⟩
theorem iX2_init_116 : xl_D mX2_init 116 (.newarray .int) 2 118 := ⟨by decide +kernel, rfl⟩
theorem iX2_init_121 : xl_D mX2_init 121 (.aload_n 0) 1 122 := ⟨zd zq_0 (by decide +kernel), rfl⟩
theorem iX2_init_122 : xl_D mX2_init 122 (.bipush 101) 2 124 := ⟨zd zq_232 (by decide +kernel), rfl⟩
theorem iX2_init_124 : xl_D mX2_init 124 (.newarray .int) 2 126 := ⟨by decide +kernel, rfl⟩
theorem iX2_init_129 : xl_D mX2_init 129 (.return_) 1 130 := ⟨zd zq_12 (by decide +kernel), rfl⟩
theorem iX2_sign_0 : xl_D mX2_sign 0 (.aload_n 0) 1 1 := ⟨zd zq_0 (by decide +kernel), rfl⟩
theorem iX2_sign_1 : xl_G mX2_sign 1 2 10 4 := ⟨40, zd zq_234 (by decide +kernel), rfl, fX2_40⟩
theorem iX2_sign_4 : xl_D mX2_sign 4 (.iconst 4) 1 5 := ⟨zd zq_63 (by decide +kernel), rfl⟩
theorem iX2_sign_5 : xl_D mX2_sign 5 (.iadd) 1 6 := ⟨zd zq_19 (by decide +kernel), rfl⟩
theorem iX2_sign_6 : xl_D mX2_sign 6 (.bipush 80) 2 8 := ⟨zd zq_229 (by decide +kernel), rfl⟩
theorem iX2_sign_8 : xl_J mX2_sign 8 (fun o => .if_icmp .le o) 11 13 := ⟨5, zd zq_235 (by decide +kernel), rfl, rfl⟩
theorem iX2_sign_11 : xl_D mX2_sign 11 (.iconst (-1)) 1 12 := ⟨zd zq_104 (by decide +kernel), rfl⟩
theorem iX2_sign_12 : xl_D mX2_sign 12 (.ireturn) 1 13 := ⟨zd zq_17 (by decide +kernel), rfl⟩
theorem iX2_sign_13 : xl_D mX2_sign 13 (.bipush 24) 2 15 := ⟨zd zq_236 (by decide +kernel), rfl⟩
theorem iX2_sign_15 : xl_D mX2_sign 15 (.istore_n 2) 1 16 := ⟨zd zq_41 (by decide +kernel), rfl⟩
theorem iX2_sign_16 : xl_D mX2_sign 16 (.iload_n 2) 1 17 := ⟨zd zq_6 (by decide +kernel), rfl⟩
theorem iX2_sign_17 : xl_J mX2_sign 17 (fun o => .ifCond .lt o) 20 37 := ⟨20, zd zq_237 (by decide +kernel), rfl, rfl⟩
theorem iX2_sign_20 : xl_D mX2_sign 20 (.aload_n 0) 1 21 := ⟨zd zq_0 (by decide +kernel), rfl⟩
theorem iX2_sign_21 : xl_D mX2_sign 21 (.iload_n 1) 1 22 := ⟨zd zq_3 (by decide +kernel), rfl⟩
theorem iX2_sign_22 : xl_D mX2_sign 22 (.iload_n 2) 1 23 := ⟨zd zq_6 (by decide +kernel), rfl⟩
theorem iX2_sign_23 : xl_D mX2_sign 23 (.iushr) 1 24 := ⟨zd zq_238 (by decide +kernel), rfl⟩
theorem iX2_sign_24 : xl_D mX2_sign 24 (.sipush 255) 3 27 := ⟨zd zq_239 (by decide +kernel), rfl⟩
theorem iX2_sign_27 : xl_D mX2_sign 27 (.iand) 1 28 := ⟨zd zq_240 (by decide +kernel), rfl⟩
theorem iX2_sign_28 : xl_Ca mX2_sign 28 mX2_putSign 31 := ⟨44, zd zq_241 (by decide +kernel), rfl, lX2_44, Nat.le_of_ble_eq_true rfl, Nat.le_of_ble_eq_true rfl⟩
theorem iX2_sign_31 : xl_D mX2_sign 31 (.iinc 2 (-8)) 3 34 := ⟨zd zq_242 (by decide +kernel), rfl⟩
theorem iX2_sign_34 : xl_J mX2_sign 34 (fun o => .goto o) 37 16 := ⟨-18, zd zq_45 (by decide +kernel), rfl, rfl⟩
theorem iX2_sign_37 : xl_D mX2_sign 37 (.aload_n 0) 1 38 := ⟨zd zq_0 (by decide +kernel), rfl⟩
theorem iX2_sign_38 : xl_G mX2_sign 38 2 10 41 := ⟨40, zd zq_234 (by decide +kernel), rfl, fX2_40⟩
theorem iX2_sign_41 : xl_D mX2_sign 41 (.ireturn) 1 42 := ⟨zd zq_17 (by decide +kernel), rfl⟩
theorem iX2_end_0 : xl_D mX2_end 0 (.iload_n 1) 1 1 := ⟨zd zq_3 (by decide +kernel), rfl⟩
theorem iX2_end_1 : xl_J mX2_end 1 (fun o => .ifCond .lt o) 4 12 := ⟨11, zd zq_15 (by decide +kernel), rfl, rfl⟩
theorem iX2_end_4 : xl_D mX2_end 4 (.iload_n 1) 1 5 := ⟨zd zq_3 (by decide +kernel), rfl⟩
theorem iX2_end_5 : xl_D mX2_end 5 (.aload_n 0) 1 6 := ⟨zd zq_0 (by decide +kernel), rfl⟩
theorem iX2_end_6 : xl_G mX2_end 6 2 10 9 := ⟨40, zd zq_234 (by decide +kernel), rfl, fX2_40⟩
theorem iX2_end_9 : xl_J mX2_end 9 (fun o => .if_icmp .le o) 12 14 := ⟨5, zd zq_235 (by decide +kernel), rfl, rfl⟩
theorem iX2_end_12 : xl_D mX2_end 12 (.iconst 0) 1 13 := ⟨zd zq_2 (by decide +kernel), rfl⟩
theorem iX2_end_13 : xl_D mX2_end 13 (.ireturn) 1 14 := ⟨zd zq_17 (by decide +kernel), rfl⟩
theorem iX2_end_14 : xl_D mX2_end 14 (.aload_n 0) 1 15 := ⟨zd zq_0 (by decide +kernel), rfl⟩
theorem iX2_end_15 : xl_D mX2_end 15 (.iload_n 1) 1 16 := ⟨zd zq_3 (by decide +kernel), rfl⟩
theorem iX2_end_16 : xl_P mX2_end 16 2 10 .int 19 := ⟨40, zd zq_243 (by decide +kernel), rfl, wX2_40⟩
theorem iX2_end_19 : xl_D mX2_end 19 (.iconst 1) 1 20 := ⟨zd zq_36 (by decide +kernel), rfl⟩
theorem iX2_end_20 : xl_D mX2_end 20 (.ireturn) 1 21 := ⟨zd zq_17 (by decide +kernel), rfl⟩
theorem iX2_start_0 : xl_D mX2_start 0 (.iload_n 1) 1 1 := ⟨zd zq_3 (by decide +kernel), rfl⟩
theorem iX2_start_1 : xl_D mX2_start 1 (.iconst 1) 1 2 := ⟨zd zq_36 (by decide +kernel), rfl⟩
theorem iX2_start_2 : xl_J mX2_start 2 (fun o => .if_icmp .lt o) 5 20 := ⟨18, zd zq_34 (by decide +kernel), rfl, rfl⟩
theorem iX2_start_5 : xl_D mX2_start 5 (.iload_n 1) 1 6 := ⟨zd zq_3 (by decide +kernel), rfl⟩
theorem iX2_start_6 : xl_D mX2_start 6 (.iconst 4) 1 7 := ⟨zd zq_63 (by decide +kernel), rfl⟩
theorem iX2_start_7 : xl_J mX2_start 7 (fun o => .if_icmp .gt o) 10 20 := ⟨13, zd zq_244 (by decide +kernel), rfl, rfl⟩
theorem iX2_start_10 : xl_D mX2_start 10 (.iload_n 2) 1 11 := ⟨zd zq_6 (by decide +kernel), rfl⟩
theorem iX2_start_11 : xl_D mX2_start 11 (.iload_n 3) 1 12 := ⟨zd zq_25 (by decide +kernel), rfl⟩
theorem iX2_start_12 : xl_D mX2_start 12 (.iload 4) 2 14 := ⟨zd zq_51 (by decide +kernel), rfl⟩
theorem iX2_start_14 : xl_Cs mX2_start 14 mX2_areSettings 17 := ⟨48, zd zq_245 (by decide +kernel), rfl, lX2_48, Nat.le_of_ble_eq_true rfl, Nat.le_of_ble_eq_true rfl⟩
theorem iX2_start_17 : xl_J mX2_start 17 (fun o => .ifCond .ne o) 20 22 := ⟨5, zd zq_246 (by decide +kernel), rfl, rfl⟩
theorem iX2_start_20 : xl_D mX2_start 20 (.iconst (-1)) 1 21 := ⟨zd zq_104 (by decide +kernel), rfl⟩
theorem iX2_start_21 : xl_D mX2_start 21 (.ireturn) 1 22 := ⟨zd zq_17 (by decide +kernel), rfl⟩
theorem iX2_start_22 : xl_D mX2_start 22 (.aload_n 0) 1 23 := ⟨zd zq_0 (by decide +kernel), rfl⟩
theorem iX2_start_23 : xl_Ca mX2_start 23 mX2_remember 26 := ⟨52, zd zq_247 (by decide +kernel), rfl, lX2_52, Nat.le_of_ble_eq_true rfl, Nat.le_of_ble_eq_true rfl⟩
theorem iX2_start_26 : xl_D mX2_start 26 (.aload_n 0) 1 27 := ⟨zd zq_0 (by decide +kernel), rfl⟩
theorem iX2_start_27 : xl_G mX2_start 27 2 0 30 := ⟨10, zd zq_248 (by decide +kernel), rfl, fX2_10⟩
theorem iX2_start_30 : xl_D mX2_start 30 (.iload_n 1) 1 31 := ⟨zd zq_3 (by decide +kernel), rfl⟩
theorem iX2_start_31 : xl_D mX2_start 31 (.iload_n 2) 1 32 := ⟨zd zq_6 (by decide +kernel), rfl⟩
theorem iX2_start_32 : xl_D mX2_start 32 (.iload_n 3) 1 33 := ⟨zd zq_25 (by decide +kernel), rfl⟩
theorem iX2_start_33 : xl_D mX2_start 33 (.iload 4) 2 35 := ⟨zd zq_51 (by decide +kernel), rfl⟩
theorem iX2_start_35 : xl_Ca mX2_start 35 mX1_reset 38 := ⟨55, zd zq_249 (by decide +kernel), rfl, lX2_55, Nat.le_of_ble_eq_true rfl, Nat.le_of_ble_eq_true rfl⟩
theorem iX2_start_38 : xl_D mX2_start 38 (.iload_n 1) 1 39 := ⟨zd zq_3 (by decide +kernel), rfl⟩
theorem iX2_start_39 : xl_D mX2_start 39 (.ireturn) 1 40 := ⟨zd zq_17 (by decide +kernel), rfl⟩
theorem iX2_delays_0 : xl_D mX2_delays 0 (.aload_n 0) 1 1 := ⟨zd zq_0 (by decide +kernel), rfl⟩
theorem iX2_delays_1 : xl_D mX2_delays 1 (.iload_n 1) 1 2 := ⟨zd zq_3 (by decide +kernel), rfl⟩
theorem iX2_delays_2 : xl_Ca mX2_delays 2 mX2_isSource 5 := ⟨59, zd zq_250 (by decide +kernel), rfl, lX2_59, Nat.le_of_ble_eq_true rfl, Nat.le_of_ble_eq_true rfl⟩
theorem iX2_delays_5 : xl_J mX2_delays 5 (fun o => .ifCond .eq o) 8 19 := ⟨14, zd zq_251 (by decide +kernel), rfl, rfl⟩
theorem iX2_delays_8 : xl_D mX2_delays 8 (.iload_n 2) 1 9 := ⟨zd zq_6 (by decide +kernel), rfl⟩
theorem iX2_delays_9 : xl_J mX2_delays 9 (fun o => .ifCond .lt o) 12 19 := ⟨10, zd zq_213 (by decide +kernel), rfl, rfl⟩
theorem iX2_delays_12 : xl_D mX2_delays 12 (.iload_n 2) 1 13 := ⟨zd zq_6 (by decide +kernel), rfl⟩
theorem iX2_delays_13 : xl_D mX2_delays 13 (.sipush 999) 3 16 := ⟨zd zq_252 (by decide +kernel), rfl⟩
theorem iX2_delays_16 : xl_J mX2_delays 16 (fun o => .if_icmp .le o) 19 21 := ⟨5, zd zq_235 (by decide +kernel), rfl, rfl⟩
theorem iX2_delays_19 : xl_D mX2_delays 19 (.iconst (-1)) 1 20 := ⟨zd zq_104 (by decide +kernel), rfl⟩
theorem iX2_delays_20 : xl_D mX2_delays 20 (.ireturn) 1 21 := ⟨zd zq_17 (by decide +kernel), rfl⟩
theorem iX2_delays_21 : xl_D mX2_delays 21 (.aload_n 0) 1 22 := ⟨zd zq_0 (by decide +kernel), rfl⟩
theorem iX2_delays_22 : xl_G mX2_delays 22 2 0 25 := ⟨10, zd zq_248 (by decide +kernel), rfl, fX2_10⟩
theorem iX2_delays_25 : xl_G mX2_delays 25 1 10 28 := ⟨63, zd zq_253 (by decide +kernel), rfl, fX2_63⟩
theorem iX2_delays_28 : xl_D mX2_delays 28 (.iload_n 1) 1 29 := ⟨zd zq_3 (by decide +kernel), rfl⟩
theorem iX2_delays_29 : xl_D mX2_delays 29 (.iconst 1) 1 30 := ⟨zd zq_36 (by decide +kernel), rfl⟩
theorem iX2_delays_30 : xl_Ca mX2_delays 30 mX0_get 33 := ⟨67, zd zq_254 (by decide +kernel), rfl, lX2_67, Nat.le_of_ble_eq_true rfl, Nat.le_of_ble_eq_true rfl⟩
theorem iX2_delays_33 : xl_D mX2_delays 33 (.istore_n 3) 1 34 := ⟨zd zq_131 (by decide +kernel), rfl⟩
theorem iX2_delays_34 : xl_D mX2_delays 34 (.iload_n 3) 1 35 := ⟨zd zq_25 (by decide +kernel), rfl⟩
theorem iX2_delays_35 : xl_D mX2_delays 35 (.iload_n 2) 1 36 := ⟨zd zq_6 (by decide +kernel), rfl⟩
theorem iX2_delays_36 : xl_J mX2_delays 36 (fun o => .if_icmp .ne o) 39 42 := ⟨6, zd zq_255 (by decide +kernel), rfl, rfl⟩
theorem iX2_delays_39 : xl_D mX2_delays 39 (.bipush (-2)) 2 41 := ⟨zd zq_256 (by decide +kernel), rfl⟩
theorem iX2_delays_41 : xl_D mX2_delays 41 (.ireturn) 1 42 := ⟨zd zq_17 (by decide +kernel), rfl⟩
theorem iX2_delays_42 : xl_D mX2_delays 42 (.aload_n 0) 1 43 := ⟨zd zq_0 (by decide +kernel), rfl⟩
theorem iX2_delays_43 : xl_G mX2_delays 43 2 0 46 := ⟨10, zd zq_248 (by decide +kernel), rfl, fX2_10⟩
theorem iX2_delays_46 : xl_G mX2_delays 46 1 14 49 := ⟨73, zd zq_257 (by decide +kernel), rfl, fX2_73⟩
theorem iX2_delays_49 : xl_G mX2_delays 49 0 3 52 := ⟨76, zd zq_258 (by decide +kernel), rfl, fX2_76⟩
theorem iX2_delays_52 : xl_J mX2_delays 52 (fun o => .ifCond .le o) 55 58 := ⟨6, zd zq_259 (by decide +kernel), rfl, rfl⟩
theorem iX2_delays_55 : xl_D mX2_delays 55 (.bipush (-3)) 2 57 := ⟨zd zq_260 (by decide +kernel), rfl⟩
theorem iX2_delays_57 : xl_D mX2_delays 57 (.ireturn) 1 58 := ⟨zd zq_17 (by decide +kernel), rfl⟩
theorem iX2_delays_58 : xl_D mX2_delays 58 (.aload_n 0) 1 59 := ⟨zd zq_0 (by decide +kernel), rfl⟩
theorem iX2_delays_59 : xl_Ca mX2_delays 59 mX2_remember 62 := ⟨52, zd zq_247 (by decide +kernel), rfl, lX2_52, Nat.le_of_ble_eq_true rfl, Nat.le_of_ble_eq_true rfl⟩
theorem iX2_delays_62 : xl_D mX2_delays 62 (.aload_n 0) 1 63 := ⟨zd zq_0 (by decide +kernel), rfl⟩
theorem iX2_delays_63 : xl_G mX2_delays 63 2 0 66 := ⟨10, zd zq_248 (by decide +kernel), rfl, fX2_10⟩
theorem iX2_delays_66 : xl_G mX2_delays 66 1 10 69 := ⟨63, zd zq_253 (by decide +kernel), rfl, fX2_63⟩
theorem iX2_delays_69 : xl_D mX2_delays 69 (.iload_n 1) 1 70 := ⟨zd zq_3 (by decide +kernel), rfl⟩
theorem iX2_delays_70 : xl_D mX2_delays 70 (.iconst 1) 1 71 := ⟨zd zq_36 (by decide +kernel), rfl⟩
theorem iX2_delays_71 : xl_D mX2_delays 71 (.iload_n 2) 1 72 := ⟨zd zq_6 (by decide +kernel), rfl⟩
theorem iX2_delays_72 : xl_Ca mX2_delays 72 mX0_set 75 := ⟨79, zd zq_261 (by decide +kernel), rfl, lX2_79, Nat.le_of_ble_eq_true rfl, Nat.le_of_ble_eq_true rfl⟩
theorem iX2_delays_75 : xl_D mX2_delays 75 (.iload_n 3) 1 76 := ⟨zd zq_25 (by decide +kernel), rfl⟩
theorem iX2_delays_76 : xl_D mX2_delays 76 (.ireturn) 1 77 := ⟨zd zq_17 (by decide +kernel), rfl⟩
theorem iX2_event_0 : xl_D mX2_event 0 (.aload_n 0) 1 1 := ⟨zd zq_0 (by decide +kernel), rfl⟩
theorem iX2_event_1 : xl_D mX2_event 1 (.iload_n 1) 1 2 := ⟨zd zq_3 (by decide +kernel), rfl⟩
theorem iX2_event_2 : xl_D mX2_event 2 (.iload_n 2) 1 3 := ⟨zd zq_6 (by decide +kernel), rfl⟩
theorem iX2_event_3 : xl_D mX2_event 3 (.iload_n 3) 1 4 := ⟨zd zq_25 (by decide +kernel), rfl⟩
theorem iX2_event_4 : xl_D mX2_event 4 (.iload 4) 2 6 := ⟨zd zq_51 (by decide +kernel), rfl⟩
theorem iX2_event_6 : xl_Ca mX2_event 6 mX2_eventRefusal 9 := ⟨83, zd zq_262 (by decide +kernel), rfl, lX2_83, Nat.le_of_ble_eq_true rfl, Nat.le_of_ble_eq_true rfl⟩
theorem iX2_event_9 : xl_D mX2_event 9 (.istore 5) 2 11 := ⟨zd zq_91 (by decide +kernel), rfl⟩
theorem iX2_event_11 : xl_D mX2_event 11 (.iload 5) 2 13 := ⟨zd zq_92 (by decide +kernel), rfl⟩
theorem iX2_event_13 : xl_J mX2_event 13 (fun o => .ifCond .ge o) 16 19 := ⟨6, zd zq_263 (by decide +kernel), rfl, rfl⟩
theorem iX2_event_16 : xl_D mX2_event 16 (.iload 5) 2 18 := ⟨zd zq_92 (by decide +kernel), rfl⟩
theorem iX2_event_18 : xl_D mX2_event 18 (.ireturn) 1 19 := ⟨zd zq_17 (by decide +kernel), rfl⟩
theorem iX2_event_19 : xl_D mX2_event 19 (.aload_n 0) 1 20 := ⟨zd zq_0 (by decide +kernel), rfl⟩
theorem iX2_event_20 : xl_Ca mX2_event 20 mX2_remember 23 := ⟨52, zd zq_247 (by decide +kernel), rfl, lX2_52, Nat.le_of_ble_eq_true rfl, Nat.le_of_ble_eq_true rfl⟩
theorem iX2_event_23 : xl_D mX2_event 23 (.aload_n 0) 1 24 := ⟨zd zq_0 (by decide +kernel), rfl⟩
theorem iX2_event_24 : xl_G mX2_event 24 2 0 27 := ⟨10, zd zq_248 (by decide +kernel), rfl, fX2_10⟩
theorem iX2_event_27 : xl_G mX2_event 27 1 4 30 := ⟨87, zd zq_264 (by decide +kernel), rfl, fX2_87⟩
theorem iX2_event_30 : xl_D mX2_event 30 (.istore 6) 2 32 := ⟨zd zq_119 (by decide +kernel), rfl⟩
theorem iX2_event_32 : xl_D mX2_event 32 (.aload_n 0) 1 33 := ⟨zd zq_0 (by decide +kernel), rfl⟩
theorem iX2_event_33 : xl_G mX2_event 33 2 0 36 := ⟨10, zd zq_248 (by decide +kernel), rfl, fX2_10⟩
theorem iX2_event_36 : xl_D mX2_event 36 (.iload_n 1) 1 37 := ⟨zd zq_3 (by decide +kernel), rfl⟩
theorem iX2_event_37 : xl_D mX2_event 37 (.iload_n 2) 1 38 := ⟨zd zq_6 (by decide +kernel), rfl⟩
theorem iX2_event_38 : xl_D mX2_event 38 (.iload_n 3) 1 39 := ⟨zd zq_25 (by decide +kernel), rfl⟩
theorem iX2_event_39 : xl_D mX2_event 39 (.iload 4) 2 41 := ⟨zd zq_51 (by decide +kernel), rfl⟩
theorem iX2_event_41 : xl_Ca mX2_event 41 mX1_comeEvent 44 := ⟨90, zd zq_265 (by decide +kernel), rfl, lX2_90, Nat.le_of_ble_eq_true rfl, Nat.le_of_ble_eq_true rfl⟩
theorem iX2_event_44 : xl_D mX2_event 44 (.istore 7) 2 46 := ⟨zd zq_122 (by decide +kernel), rfl⟩
theorem iX2_event_46 : xl_D mX2_event 46 (.aload_n 0) 1 47 := ⟨zd zq_0 (by decide +kernel), rfl⟩
theorem iX2_event_47 : xl_D mX2_event 47 (.aload_n 0) 1 48 := ⟨zd zq_0 (by decide +kernel), rfl⟩
theorem iX2_event_48 : xl_G mX2_event 48 2 0 51 := ⟨10, zd zq_248 (by decide +kernel), rfl, fX2_10⟩
theorem iX2_event_51 : xl_G mX2_event 51 1 4 54 := ⟨87, zd zq_264 (by decide +kernel), rfl, fX2_87⟩
theorem iX2_event_54 : xl_D mX2_event 54 (.iload 6) 2 56 := ⟨zd zq_125 (by decide +kernel), rfl⟩
theorem iX2_event_56 : xl_D mX2_event 56 (.isub) 1 57 := ⟨zd zq_39 (by decide +kernel), rfl⟩
theorem iX2_event_57 : xl_D mX2_event 57 (.i2l) 1 58 := ⟨zd zq_266 (by decide +kernel), rfl⟩
theorem iX2_event_58 : xl_D mX2_event 58 (.aload_n 0) 1 59 := ⟨zd zq_0 (by decide +kernel), rfl⟩
theorem iX2_event_59 : xl_G mX2_event 59 2 0 62 := ⟨10, zd zq_248 (by decide +kernel), rfl, fX2_10⟩
theorem iX2_event_62 : xl_G mX2_event 62 1 3 65 := ⟨93, zd zq_267 (by decide +kernel), rfl, fX2_93⟩
theorem iX2_event_65 : xl_D mX2_event 65 (.i2l) 1 66 := ⟨zd zq_266 (by decide +kernel), rfl⟩
theorem iX2_event_66 : xl_Ca mX2_event 66 mX2_tellTwo 69 := ⟨96, zd zq_268 (by decide +kernel), rfl, lX2_96, Nat.le_of_ble_eq_true rfl, Nat.le_of_ble_eq_true rfl⟩
theorem iX2_event_69 : xl_D mX2_event 69 (.iload 7) 2 71 := ⟨zd zq_124 (by decide +kernel), rfl⟩
theorem iX2_event_71 : xl_D mX2_event 71 (.ireturn) 1 72 := ⟨zd zq_17 (by decide +kernel), rfl⟩
theorem iX2_events_0 : xl_D mX2_events 0 (.aload_n 0) 1 1 := ⟨zd zq_0 (by decide +kernel), rfl⟩
theorem iX2_events_1 : xl_Ca mX2_events 1 mX2_takeText 4 := ⟨100, zd zq_269 (by decide +kernel), rfl, lX2_100, Nat.le_of_ble_eq_true rfl, Nat.le_of_ble_eq_true rfl⟩
theorem iX2_events_4 : xl_D mX2_events 4 (.istore_n 1) 1 5 := ⟨zd zq_194 (by decide +kernel), rfl⟩
theorem iX2_events_5 : xl_D mX2_events 5 (.aload_n 0) 1 6 := ⟨zd zq_0 (by decide +kernel), rfl⟩
theorem iX2_events_6 : xl_D mX2_events 6 (.iload_n 1) 1 7 := ⟨zd zq_3 (by decide +kernel), rfl⟩
theorem iX2_events_7 : xl_Ca mX2_events 7 mX2_eventsMisfit 10 := ⟨104, zd zq_128 (by decide +kernel), rfl, lX2_104, Nat.le_of_ble_eq_true rfl, Nat.le_of_ble_eq_true rfl⟩
theorem iX2_events_10 : xl_D mX2_events 10 (.istore_n 2) 1 11 := ⟨zd zq_41 (by decide +kernel), rfl⟩
theorem iX2_events_11 : xl_D mX2_events 11 (.iload_n 2) 1 12 := ⟨zd zq_6 (by decide +kernel), rfl⟩
theorem iX2_events_12 : xl_J mX2_events 12 (fun o => .ifCond .lt o) 15 19 := ⟨7, zd zq_270 (by decide +kernel), rfl, rfl⟩
theorem iX2_events_15 : xl_D mX2_events 15 (.iconst (-1)) 1 16 := ⟨zd zq_104 (by decide +kernel), rfl⟩
theorem iX2_events_16 : xl_D mX2_events 16 (.iload_n 2) 1 17 := ⟨zd zq_6 (by decide +kernel), rfl⟩
theorem iX2_events_17 : xl_D mX2_events 17 (.isub) 1 18 := ⟨zd zq_39 (by decide +kernel), rfl⟩
theorem iX2_events_18 : xl_D mX2_events 18 (.ireturn) 1 19 := ⟨zd zq_17 (by decide +kernel), rfl⟩
theorem iX2_events_19 : xl_D mX2_events 19 (.iload_n 1) 1 20 := ⟨zd zq_3 (by decide +kernel), rfl⟩
theorem iX2_events_20 : xl_D mX2_events 20 (.bipush 9) 2 22 := ⟨zd zq_271 (by decide +kernel), rfl⟩
theorem iX2_events_22 : xl_D mX2_events 22 (.idiv) 1 23 := ⟨zd zq_272 (by decide +kernel), rfl⟩
theorem iX2_events_23 : xl_D mX2_events 23 (.istore_n 3) 1 24 := ⟨zd zq_131 (by decide +kernel), rfl⟩
theorem iX2_events_24 : xl_D mX2_events 24 (.aload_n 0) 1 25 := ⟨zd zq_0 (by decide +kernel), rfl⟩
theorem iX2_events_25 : xl_G mX2_events 25 2 0 28 := ⟨10, zd zq_248 (by decide +kernel), rfl, fX2_10⟩
theorem iX2_events_28 : xl_G mX2_events 28 1 14 31 := ⟨73, zd zq_257 (by decide +kernel), rfl, fX2_73⟩
theorem iX2_events_31 : xl_G mX2_events 31 0 3 34 := ⟨76, zd zq_258 (by decide +kernel), rfl, fX2_76⟩
theorem iX2_events_34 : xl_D mX2_events 34 (.iload_n 3) 1 35 := ⟨zd zq_25 (by decide +kernel), rfl⟩
theorem iX2_events_35 : xl_D mX2_events 35 (.iadd) 1 36 := ⟨zd zq_19 (by decide +kernel), rfl⟩
theorem iX2_events_36 : xl_D mX2_events 36 (.sipush 160) 3 39 := ⟨zd zq_74 (by decide +kernel), rfl⟩
theorem iX2_events_39 : xl_J mX2_events 39 (fun o => .if_icmp .le o) 42 45 := ⟨6, zd zq_273 (by decide +kernel), rfl, rfl⟩
theorem iX2_events_42 : xl_D mX2_events 42 (.bipush (-3)) 2 44 := ⟨zd zq_260 (by decide +kernel), rfl⟩
theorem iX2_events_44 : xl_D mX2_events 44 (.ireturn) 1 45 := ⟨zd zq_17 (by decide +kernel), rfl⟩
theorem iX2_events_45 : xl_D mX2_events 45 (.iload_n 3) 1 46 := ⟨zd zq_25 (by decide +kernel), rfl⟩
theorem iX2_events_46 : xl_J mX2_events 46 (fun o => .ifCond .le o) 49 53 := ⟨7, zd zq_274 (by decide +kernel), rfl, rfl⟩
theorem iX2_events_49 : xl_D mX2_events 49 (.aload_n 0) 1 50 := ⟨zd zq_0 (by decide +kernel), rfl⟩
theorem iX2_events_50 : xl_Ca mX2_events 50 mX2_remember 53 := ⟨52, zd zq_247 (by decide +kernel), rfl, lX2_52, Nat.le_of_ble_eq_true rfl, Nat.le_of_ble_eq_true rfl⟩
theorem iX2_events_53 : xl_D mX2_events 53 (.aload_n 0) 1 54 := ⟨zd zq_0 (by decide +kernel), rfl⟩
theorem iX2_events_54 : xl_G mX2_events 54 2 0 57 := ⟨10, zd zq_248 (by decide +kernel), rfl, fX2_10⟩
theorem iX2_events_57 : xl_G mX2_events 57 1 4 60 := ⟨87, zd zq_264 (by decide +kernel), rfl, fX2_87⟩
theorem iX2_events_60 : xl_D mX2_events 60 (.istore 4) 2 62 := ⟨zd zq_50 (by decide +kernel), rfl⟩
theorem iX2_events_62 : xl_D mX2_events 62 (.iconst 0) 1 63 := ⟨zd zq_2 (by decide +kernel), rfl⟩
theorem iX2_events_63 : xl_D mX2_events 63 (.istore 5) 2 65 := ⟨zd zq_91 (by decide +kernel), rfl⟩
theorem iX2_events_65 : xl_D mX2_events 65 (.iconst 0) 1 66 := ⟨zd zq_2 (by decide +kernel), rfl⟩
theorem iX2_events_66 : xl_D mX2_events 66 (.istore 6) 2 68 := ⟨zd zq_119 (by decide +kernel), rfl⟩
theorem iX2_events_68 : xl_D mX2_events 68 (.iload 6) 2 70 := ⟨zd zq_125 (by decide +kernel), rfl⟩
theorem iX2_events_70 : xl_D mX2_events 70 (.iload_n 1) 1 71 := ⟨zd zq_3 (by decide +kernel), rfl⟩
theorem iX2_events_71 : xl_J mX2_events 71 (fun o => .if_icmp .ge o) 74 93 := ⟨22, zd zq_225 (by decide +kernel), rfl, rfl⟩
theorem iX2_events_74 : xl_D mX2_events 74 (.aload_n 0) 1 75 := ⟨zd zq_0 (by decide +kernel), rfl⟩
theorem iX2_events_75 : xl_D mX2_events 75 (.iload 6) 2 77 := ⟨zd zq_125 (by decide +kernel), rfl⟩
theorem iX2_events_77 : xl_Ca mX2_events 77 mX2_comeEventAt 80 := ⟨108, zd zq_130 (by decide +kernel), rfl, lX2_108, Nat.le_of_ble_eq_true rfl, Nat.le_of_ble_eq_true rfl⟩
theorem iX2_events_80 : xl_D mX2_events 80 (.iconst 2) 1 81 := ⟨zd zq_127 (by decide +kernel), rfl⟩
theorem iX2_events_81 : xl_J mX2_events 81 (fun o => .if_icmp .eq o) 84 87 := ⟨6, zd zq_275 (by decide +kernel), rfl, rfl⟩
theorem iX2_events_84 : xl_D mX2_events 84 (.iinc 5 1) 3 87 := ⟨zd zq_98 (by decide +kernel), rfl⟩
theorem iX2_events_87 : xl_D mX2_events 87 (.iinc 6 9) 3 90 := ⟨zd zq_276 (by decide +kernel), rfl⟩
theorem iX2_events_90 : xl_J mX2_events 90 (fun o => .goto o) 93 68 := ⟨-22, zd zq_228 (by decide +kernel), rfl, rfl⟩
theorem iX2_events_93 : xl_D mX2_events 93 (.aload_n 0) 1 94 := ⟨zd zq_0 (by decide +kernel), rfl⟩
theorem iX2_events_94 : xl_D mX2_events 94 (.aload_n 0) 1 95 := ⟨zd zq_0 (by decide +kernel), rfl⟩
theorem iX2_events_95 : xl_G mX2_events 95 2 0 98 := ⟨10, zd zq_248 (by decide +kernel), rfl, fX2_10⟩
theorem iX2_events_98 : xl_G mX2_events 98 1 4 101 := ⟨87, zd zq_264 (by decide +kernel), rfl, fX2_87⟩
theorem iX2_events_101 : xl_D mX2_events 101 (.iload 4) 2 103 := ⟨zd zq_51 (by decide +kernel), rfl⟩
theorem iX2_events_103 : xl_D mX2_events 103 (.isub) 1 104 := ⟨zd zq_39 (by decide +kernel), rfl⟩
theorem iX2_events_104 : xl_D mX2_events 104 (.i2l) 1 105 := ⟨zd zq_266 (by decide +kernel), rfl⟩
theorem iX2_events_105 : xl_D mX2_events 105 (.aload_n 0) 1 106 := ⟨zd zq_0 (by decide +kernel), rfl⟩
theorem iX2_events_106 : xl_G mX2_events 106 2 0 109 := ⟨10, zd zq_248 (by decide +kernel), rfl, fX2_10⟩
theorem iX2_events_109 : xl_G mX2_events 109 1 3 112 := ⟨93, zd zq_267 (by decide +kernel), rfl, fX2_93⟩
theorem iX2_events_112 : xl_D mX2_events 112 (.i2l) 1 113 := ⟨zd zq_266 (by decide +kernel), rfl⟩
theorem iX2_events_113 : xl_Ca mX2_events 113 mX2_tellTwo 116 := ⟨96, zd zq_268 (by decide +kernel), rfl, lX2_96, Nat.le_of_ble_eq_true rfl, Nat.le_of_ble_eq_true rfl⟩
theorem iX2_events_116 : xl_D mX2_events 116 (.iload 5) 2 118 := ⟨zd zq_92 (by decide +kernel), rfl⟩
theorem iX2_events_118 : xl_D mX2_events 118 (.ireturn) 1 119 := ⟨zd zq_17 (by decide +kernel), rfl⟩
theorem iX2_marks_0 : xl_D mX2_marks 0 (.aload_n 0) 1 1 := ⟨zd zq_0 (by decide +kernel), rfl⟩
theorem iX2_marks_1 : xl_D mX2_marks 1 (.iload_n 1) 1 2 := ⟨zd zq_3 (by decide +kernel), rfl⟩
theorem iX2_marks_2 : xl_D mX2_marks 2 (.iload_n 2) 1 3 := ⟨zd zq_6 (by decide +kernel), rfl⟩
theorem iX2_marks_3 : xl_Ca mX2_marks 3 mX2_markRefusal 6 := ⟨111, zd zq_134 (by decide +kernel), rfl, lX2_111, Nat.le_of_ble_eq_true rfl, Nat.le_of_ble_eq_true rfl⟩
theorem iX2_marks_6 : xl_D mX2_marks 6 (.istore_n 3) 1 7 := ⟨zd zq_131 (by decide +kernel), rfl⟩
theorem iX2_marks_7 : xl_D mX2_marks 7 (.iload_n 3) 1 8 := ⟨zd zq_25 (by decide +kernel), rfl⟩
theorem iX2_marks_8 : xl_J mX2_marks 8 (fun o => .ifCond .ge o) 11 13 := ⟨5, zd zq_277 (by decide +kernel), rfl, rfl⟩
theorem iX2_marks_11 : xl_D mX2_marks 11 (.iload_n 3) 1 12 := ⟨zd zq_25 (by decide +kernel), rfl⟩
theorem iX2_marks_12 : xl_D mX2_marks 12 (.ireturn) 1 13 := ⟨zd zq_17 (by decide +kernel), rfl⟩
theorem iX2_marks_13 : xl_D mX2_marks 13 (.aload_n 0) 1 14 := ⟨zd zq_0 (by decide +kernel), rfl⟩
theorem iX2_marks_14 : xl_Ca mX2_marks 14 mX2_remember 17 := ⟨52, zd zq_247 (by decide +kernel), rfl, lX2_52, Nat.le_of_ble_eq_true rfl, Nat.le_of_ble_eq_true rfl⟩
theorem iX2_marks_17 : xl_D mX2_marks 17 (.aload_n 0) 1 18 := ⟨zd zq_0 (by decide +kernel), rfl⟩
theorem iX2_marks_18 : xl_G mX2_marks 18 2 0 21 := ⟨10, zd zq_248 (by decide +kernel), rfl, fX2_10⟩
theorem iX2_marks_21 : xl_G mX2_marks 21 1 4 24 := ⟨87, zd zq_264 (by decide +kernel), rfl, fX2_87⟩
theorem iX2_marks_24 : xl_D mX2_marks 24 (.istore 4) 2 26 := ⟨zd zq_50 (by decide +kernel), rfl⟩
theorem iX2_marks_26 : xl_D mX2_marks 26 (.aload_n 0) 1 27 := ⟨zd zq_0 (by decide +kernel), rfl⟩
theorem iX2_marks_27 : xl_G mX2_marks 27 2 0 30 := ⟨10, zd zq_248 (by decide +kernel), rfl, fX2_10⟩
theorem iX2_marks_30 : xl_D mX2_marks 30 (.iload_n 1) 1 31 := ⟨zd zq_3 (by decide +kernel), rfl⟩
theorem iX2_marks_31 : xl_D mX2_marks 31 (.iload_n 2) 1 32 := ⟨zd zq_6 (by decide +kernel), rfl⟩
theorem iX2_marks_32 : xl_Ca mX2_marks 32 mX1_comeMark 35 := ⟨114, zd zq_278 (by decide +kernel), rfl, lX2_114, Nat.le_of_ble_eq_true rfl, Nat.le_of_ble_eq_true rfl⟩
theorem iX2_marks_35 : xl_D mX2_marks 35 (.aload_n 0) 1 36 := ⟨zd zq_0 (by decide +kernel), rfl⟩
theorem iX2_marks_36 : xl_D mX2_marks 36 (.aload_n 0) 1 37 := ⟨zd zq_0 (by decide +kernel), rfl⟩
theorem iX2_marks_37 : xl_G mX2_marks 37 2 0 40 := ⟨10, zd zq_248 (by decide +kernel), rfl, fX2_10⟩
theorem iX2_marks_40 : xl_G mX2_marks 40 1 3 43 := ⟨93, zd zq_267 (by decide +kernel), rfl, fX2_93⟩
theorem iX2_marks_43 : xl_D mX2_marks 43 (.i2l) 1 44 := ⟨zd zq_266 (by decide +kernel), rfl⟩
theorem iX2_marks_44 : xl_Ca mX2_marks 44 mX2_tellOne 47 := ⟨118, zd zq_140 (by decide +kernel), rfl, lX2_118, Nat.le_of_ble_eq_true rfl, Nat.le_of_ble_eq_true rfl⟩
theorem iX2_marks_47 : xl_D mX2_marks 47 (.aload_n 0) 1 48 := ⟨zd zq_0 (by decide +kernel), rfl⟩
theorem iX2_marks_48 : xl_G mX2_marks 48 2 0 51 := ⟨10, zd zq_248 (by decide +kernel), rfl, fX2_10⟩
theorem iX2_marks_51 : xl_G mX2_marks 51 1 4 54 := ⟨87, zd zq_264 (by decide +kernel), rfl, fX2_87⟩
theorem iX2_marks_54 : xl_D mX2_marks 54 (.iload 4) 2 56 := ⟨zd zq_51 (by decide +kernel), rfl⟩
theorem iX2_marks_56 : xl_D mX2_marks 56 (.isub) 1 57 := ⟨zd zq_39 (by decide +kernel), rfl⟩
theorem iX2_marks_57 : xl_D mX2_marks 57 (.ireturn) 1 58 := ⟨zd zq_17 (by decide +kernel), rfl⟩
theorem iX2_idles_0 : xl_D mX2_idles 0 (.aload_n 0) 1 1 := ⟨zd zq_0 (by decide +kernel), rfl⟩
theorem iX2_idles_1 : xl_D mX2_idles 1 (.iload_n 1) 1 2 := ⟨zd zq_3 (by decide +kernel), rfl⟩
theorem iX2_idles_2 : xl_Ca mX2_idles 2 mX2_idleRefusal 5 := ⟨122, zd zq_279 (by decide +kernel), rfl, lX2_122, Nat.le_of_ble_eq_true rfl, Nat.le_of_ble_eq_true rfl⟩
theorem iX2_idles_5 : xl_D mX2_idles 5 (.istore_n 2) 1 6 := ⟨zd zq_41 (by decide +kernel), rfl⟩
theorem iX2_idles_6 : xl_D mX2_idles 6 (.iload_n 2) 1 7 := ⟨zd zq_6 (by decide +kernel), rfl⟩
theorem iX2_idles_7 : xl_J mX2_idles 7 (fun o => .ifCond .ge o) 10 12 := ⟨5, zd zq_277 (by decide +kernel), rfl, rfl⟩
theorem iX2_idles_10 : xl_D mX2_idles 10 (.iload_n 2) 1 11 := ⟨zd zq_6 (by decide +kernel), rfl⟩
theorem iX2_idles_11 : xl_D mX2_idles 11 (.ireturn) 1 12 := ⟨zd zq_17 (by decide +kernel), rfl⟩
theorem iX2_idles_12 : xl_D mX2_idles 12 (.aload_n 0) 1 13 := ⟨zd zq_0 (by decide +kernel), rfl⟩
theorem iX2_idles_13 : xl_Ca mX2_idles 13 mX2_remember 16 := ⟨52, zd zq_247 (by decide +kernel), rfl, lX2_52, Nat.le_of_ble_eq_true rfl, Nat.le_of_ble_eq_true rfl⟩
theorem iX2_idles_16 : xl_D mX2_idles 16 (.aload_n 0) 1 17 := ⟨zd zq_0 (by decide +kernel), rfl⟩
theorem iX2_idles_17 : xl_G mX2_idles 17 2 0 20 := ⟨10, zd zq_248 (by decide +kernel), rfl, fX2_10⟩
theorem iX2_idles_20 : xl_G mX2_idles 20 1 4 23 := ⟨87, zd zq_264 (by decide +kernel), rfl, fX2_87⟩
theorem iX2_idles_23 : xl_D mX2_idles 23 (.istore_n 3) 1 24 := ⟨zd zq_131 (by decide +kernel), rfl⟩
theorem iX2_idles_24 : xl_D mX2_idles 24 (.aload_n 0) 1 25 := ⟨zd zq_0 (by decide +kernel), rfl⟩
theorem iX2_idles_25 : xl_G mX2_idles 25 2 0 28 := ⟨10, zd zq_248 (by decide +kernel), rfl, fX2_10⟩
theorem iX2_idles_28 : xl_D mX2_idles 28 (.iload_n 1) 1 29 := ⟨zd zq_3 (by decide +kernel), rfl⟩
theorem iX2_idles_29 : xl_Ca mX2_idles 29 mX1_comeIdle 32 := ⟨125, zd zq_280 (by decide +kernel), rfl, lX2_125, Nat.le_of_ble_eq_true rfl, Nat.le_of_ble_eq_true rfl⟩
theorem iX2_idles_32 : xl_D mX2_idles 32 (.aload_n 0) 1 33 := ⟨zd zq_0 (by decide +kernel), rfl⟩
theorem iX2_idles_33 : xl_D mX2_idles 33 (.aload_n 0) 1 34 := ⟨zd zq_0 (by decide +kernel), rfl⟩
theorem iX2_idles_34 : xl_G mX2_idles 34 2 0 37 := ⟨10, zd zq_248 (by decide +kernel), rfl, fX2_10⟩
theorem iX2_idles_37 : xl_G mX2_idles 37 1 3 40 := ⟨93, zd zq_267 (by decide +kernel), rfl, fX2_93⟩
theorem iX2_idles_40 : xl_D mX2_idles 40 (.i2l) 1 41 := ⟨zd zq_266 (by decide +kernel), rfl⟩
theorem iX2_idles_41 : xl_Ca mX2_idles 41 mX2_tellOne 44 := ⟨118, zd zq_140 (by decide +kernel), rfl, lX2_118, Nat.le_of_ble_eq_true rfl, Nat.le_of_ble_eq_true rfl⟩
theorem iX2_idles_44 : xl_D mX2_idles 44 (.aload_n 0) 1 45 := ⟨zd zq_0 (by decide +kernel), rfl⟩
theorem iX2_idles_45 : xl_G mX2_idles 45 2 0 48 := ⟨10, zd zq_248 (by decide +kernel), rfl, fX2_10⟩
theorem iX2_idles_48 : xl_G mX2_idles 48 1 4 51 := ⟨87, zd zq_264 (by decide +kernel), rfl, fX2_87⟩
theorem iX2_idles_51 : xl_D mX2_idles 51 (.iload_n 3) 1 52 := ⟨zd zq_25 (by decide +kernel), rfl⟩
theorem iX2_idles_52 : xl_D mX2_idles 52 (.isub) 1 53 := ⟨zd zq_39 (by decide +kernel), rfl⟩
theorem iX2_idles_53 : xl_D mX2_idles 53 (.ireturn) 1 54 := ⟨zd zq_17 (by decide +kernel), rfl⟩
theorem iX2_source_0 : xl_D mX2_source 0 (.aload_n 0) 1 1 := ⟨zd zq_0 (by decide +kernel), rfl⟩
theorem iX2_source_1 : xl_D mX2_source 1 (.iload_n 1) 1 2 := ⟨zd zq_3 (by decide +kernel), rfl⟩
theorem iX2_source_2 : xl_Ca mX2_source 2 mX2_isSource 5 := ⟨59, zd zq_250 (by decide +kernel), rfl, lX2_59, Nat.le_of_ble_eq_true rfl, Nat.le_of_ble_eq_true rfl⟩
theorem iX2_source_5 : xl_J mX2_source 5 (fun o => .ifCond .eq o) 8 17 := ⟨12, zd zq_170 (by decide +kernel), rfl, rfl⟩
theorem iX2_source_8 : xl_D mX2_source 8 (.iload_n 2) 1 9 := ⟨zd zq_6 (by decide +kernel), rfl⟩
theorem iX2_source_9 : xl_J mX2_source 9 (fun o => .ifCond .lt o) 12 17 := ⟨8, zd zq_174 (by decide +kernel), rfl, rfl⟩
theorem iX2_source_12 : xl_D mX2_source 12 (.iload_n 2) 1 13 := ⟨zd zq_6 (by decide +kernel), rfl⟩
theorem iX2_source_13 : xl_D mX2_source 13 (.iconst 5) 1 14 := ⟨zd zq_64 (by decide +kernel), rfl⟩
theorem iX2_source_14 : xl_J mX2_source 14 (fun o => .if_icmp .le o) 17 25 := ⟨11, zd zq_281 (by decide +kernel), rfl, rfl⟩
theorem iX2_source_17 : xl_D mX2_source 17 (.new 128) 3 20 := ⟨zd zq_282 (by decide +kernel), rfl⟩
theorem iX2_source_20 : xl_D mX2_source 20 (.dup) 1 21 := ⟨zd zq_46 (by decide +kernel), rfl⟩
theorem iX2_source_21 : xl_D mX2_source 21 (.invokespecial 130) 3 24 := ⟨zd zq_283 (by decide +kernel), rfl⟩
theorem iX2_source_24 : xl_D mX2_source 24 (.athrow) 1 25 := ⟨zd zq_284 (by decide +kernel), rfl⟩
theorem iX2_source_25 : xl_D mX2_source 25 (.iload_n 2) 1 26 := ⟨zd zq_6 (by decide +kernel), rfl⟩
theorem iX2_source_26 : xl_D mX2_source 26 (.iconst 5) 1 27 := ⟨zd zq_64 (by decide +kernel), rfl⟩
theorem iX2_source_27 : xl_J mX2_source 27 (fun o => .if_icmp .ge o) 30 43 := ⟨16, zd zq_42 (by decide +kernel), rfl, rfl⟩
theorem iX2_source_30 : xl_D mX2_source 30 (.aload_n 0) 1 31 := ⟨zd zq_0 (by decide +kernel), rfl⟩
theorem iX2_source_31 : xl_G mX2_source 31 2 0 34 := ⟨10, zd zq_248 (by decide +kernel), rfl, fX2_10⟩
theorem iX2_source_34 : xl_G mX2_source 34 1 10 37 := ⟨63, zd zq_253 (by decide +kernel), rfl, fX2_63⟩
theorem iX2_source_37 : xl_D mX2_source 37 (.iload_n 1) 1 38 := ⟨zd zq_3 (by decide +kernel), rfl⟩
theorem iX2_source_38 : xl_D mX2_source 38 (.iload_n 2) 1 39 := ⟨zd zq_6 (by decide +kernel), rfl⟩
theorem iX2_source_39 : xl_Ca mX2_source 39 mX0_get 42 := ⟨67, zd zq_254 (by decide +kernel), rfl, lX2_67, Nat.le_of_ble_eq_true rfl, Nat.le_of_ble_eq_true rfl⟩
theorem iX2_source_42 : xl_D mX2_source 42 (.ireturn) 1 43 := ⟨zd zq_17 (by decide +kernel), rfl⟩
theorem iX2_source_43 : xl_D mX2_source 43 (.aload_n 0) 1 44 := ⟨zd zq_0 (by decide +kernel), rfl⟩
theorem iX2_source_44 : xl_G mX2_source 44 2 0 47 := ⟨10, zd zq_248 (by decide +kernel), rfl, fX2_10⟩
theorem iX2_source_47 : xl_G mX2_source 47 1 10 50 := ⟨63, zd zq_253 (by decide +kernel), rfl, fX2_63⟩
theorem iX2_source_50 : xl_D mX2_source 50 (.iload_n 1) 1 51 := ⟨zd zq_3 (by decide +kernel), rfl⟩
theorem iX2_source_51 : xl_D mX2_source 51 (.iconst 0) 1 52 := ⟨zd zq_2 (by decide +kernel), rfl⟩
theorem iX2_source_52 : xl_Ca mX2_source 52 mX0_get 55 := ⟨67, zd zq_254 (by decide +kernel), rfl, lX2_67, Nat.le_of_ble_eq_true rfl, Nat.le_of_ble_eq_true rfl⟩
theorem iX2_source_55 : xl_D mX2_source 55 (.aload_n 0) 1 56 := ⟨zd zq_0 (by decide +kernel), rfl⟩
theorem iX2_source_56 : xl_G mX2_source 56 2 0 59 := ⟨10, zd zq_248 (by decide +kernel), rfl, fX2_10⟩
theorem iX2_source_59 : xl_G mX2_source 59 1 3 62 := ⟨93, zd zq_267 (by decide +kernel), rfl, fX2_93⟩
theorem iX2_source_62 : xl_D mX2_source 62 (.isub) 1 63 := ⟨zd zq_39 (by decide +kernel), rfl⟩
theorem iX2_source_63 : xl_D mX2_source 63 (.istore_n 3) 1 64 := ⟨zd zq_131 (by decide +kernel), rfl⟩
theorem iX2_source_64 : xl_D mX2_source 64 (.iload_n 3) 1 65 := ⟨zd zq_25 (by decide +kernel), rfl⟩
theorem iX2_source_65 : xl_J mX2_source 65 (fun o => .ifCond .ge o) 68 72 := ⟨7, zd zq_285 (by decide +kernel), rfl, rfl⟩
theorem iX2_source_68 : xl_D mX2_source 68 (.iconst (-1)) 1 69 := ⟨zd zq_104 (by decide +kernel), rfl⟩
theorem iX2_source_69 : xl_J mX2_source 69 (fun o => .goto o) 72 73 := ⟨4, zd zq_139 (by decide +kernel), rfl, rfl⟩
theorem iX2_source_72 : xl_D mX2_source 72 (.iload_n 3) 1 73 := ⟨zd zq_25 (by decide +kernel), rfl⟩
theorem iX2_source_73 : xl_D mX2_source 73 (.ireturn) 1 74 := ⟨zd zq_17 (by decide +kernel), rfl⟩
theorem iX2_session_0 : xl_D mX2_session 0 (.iload_n 1) 1 1 := ⟨zd zq_3 (by decide +kernel), rfl⟩
theorem iX2_session_1 : xl_J mX2_session 1 (fun o => .ifCond .lt o) 4 28 := ⟨27, zd zq_286 (by decide +kernel), rfl, rfl⟩
theorem iX2_session_4 : xl_D mX2_session 4 (.iload_n 1) 1 5 := ⟨zd zq_3 (by decide +kernel), rfl⟩
theorem iX2_session_5 : xl_D mX2_session 5 (.aload_n 0) 1 6 := ⟨zd zq_0 (by decide +kernel), rfl⟩
theorem iX2_session_6 : xl_G mX2_session 6 2 0 9 := ⟨10, zd zq_248 (by decide +kernel), rfl, fX2_10⟩
theorem iX2_session_9 : xl_G mX2_session 9 1 11 12 := ⟨131, zd zq_287 (by decide +kernel), rfl, fX2_131⟩
theorem iX2_session_12 : xl_G mX2_session 12 0 3 15 := ⟨76, zd zq_258 (by decide +kernel), rfl, fX2_76⟩
theorem iX2_session_15 : xl_J mX2_session 15 (fun o => .if_icmp .ge o) 18 28 := ⟨13, zd zq_288 (by decide +kernel), rfl, rfl⟩
theorem iX2_session_18 : xl_D mX2_session 18 (.iload_n 2) 1 19 := ⟨zd zq_6 (by decide +kernel), rfl⟩
theorem iX2_session_19 : xl_J mX2_session 19 (fun o => .ifCond .lt o) 22 28 := ⟨9, zd zq_289 (by decide +kernel), rfl, rfl⟩
theorem iX2_session_22 : xl_D mX2_session 22 (.iload_n 2) 1 23 := ⟨zd zq_6 (by decide +kernel), rfl⟩
theorem iX2_session_23 : xl_D mX2_session 23 (.bipush 7) 2 25 := ⟨zd zq_68 (by decide +kernel), rfl⟩
theorem iX2_session_25 : xl_J mX2_session 25 (fun o => .if_icmp .le o) 28 36 := ⟨11, zd zq_281 (by decide +kernel), rfl, rfl⟩
theorem iX2_session_28 : xl_D mX2_session 28 (.new 128) 3 31 := ⟨zd zq_282 (by decide +kernel), rfl⟩
theorem iX2_session_31 : xl_D mX2_session 31 (.dup) 1 32 := ⟨zd zq_46 (by decide +kernel), rfl⟩
theorem iX2_session_32 : xl_D mX2_session 32 (.invokespecial 130) 3 35 := ⟨zd zq_283 (by decide +kernel), rfl⟩
theorem iX2_session_35 : xl_D mX2_session 35 (.athrow) 1 36 := ⟨zd zq_284 (by decide +kernel), rfl⟩
theorem iX2_session_36 : xl_D mX2_session 36 (.iload_n 2) 1 37 := ⟨zd zq_6 (by decide +kernel), rfl⟩
theorem iX2_session_37 : xl_D mX2_session 37 (.bipush 6) 2 39 := ⟨zd zq_71 (by decide +kernel), rfl⟩
theorem iX2_session_39 : xl_J mX2_session 39 (fun o => .if_icmp .ne o) 42 66 := ⟨27, zd zq_136 (by decide +kernel), rfl, rfl⟩
theorem iX2_session_42 : xl_D mX2_session 42 (.aload_n 0) 1 43 := ⟨zd zq_0 (by decide +kernel), rfl⟩
theorem iX2_session_43 : xl_G mX2_session 43 2 0 46 := ⟨10, zd zq_248 (by decide +kernel), rfl, fX2_10⟩
theorem iX2_session_46 : xl_D mX2_session 46 (.iload_n 1) 1 47 := ⟨zd zq_3 (by decide +kernel), rfl⟩
theorem iX2_session_47 : xl_D mX2_session 47 (.aload_n 0) 1 48 := ⟨zd zq_0 (by decide +kernel), rfl⟩
theorem iX2_session_48 : xl_G mX2_session 48 2 0 51 := ⟨10, zd zq_248 (by decide +kernel), rfl, fX2_10⟩
theorem iX2_session_51 : xl_G mX2_session 51 1 3 54 := ⟨93, zd zq_267 (by decide +kernel), rfl, fX2_93⟩
theorem iX2_session_54 : xl_Ca mX2_session 54 mX1_isRipe 57 := ⟨134, zd zq_167 (by decide +kernel), rfl, lX2_134, Nat.le_of_ble_eq_true rfl, Nat.le_of_ble_eq_true rfl⟩
theorem iX2_session_57 : xl_J mX2_session 57 (fun o => .ifCond .eq o) 60 64 := ⟨7, zd zq_193 (by decide +kernel), rfl, rfl⟩
theorem iX2_session_60 : xl_D mX2_session 60 (.iconst 1) 1 61 := ⟨zd zq_36 (by decide +kernel), rfl⟩
theorem iX2_session_61 : xl_J mX2_session 61 (fun o => .goto o) 64 65 := ⟨4, zd zq_139 (by decide +kernel), rfl, rfl⟩
theorem iX2_session_64 : xl_D mX2_session 64 (.iconst 0) 1 65 := ⟨zd zq_2 (by decide +kernel), rfl⟩
theorem iX2_session_65 : xl_D mX2_session 65 (.ireturn) 1 66 := ⟨zd zq_17 (by decide +kernel), rfl⟩
theorem iX2_session_66 : xl_D mX2_session 66 (.iload_n 2) 1 67 := ⟨zd zq_6 (by decide +kernel), rfl⟩
theorem iX2_session_67 : xl_D mX2_session 67 (.bipush 7) 2 69 := ⟨zd zq_68 (by decide +kernel), rfl⟩
theorem iX2_session_69 : xl_J mX2_session 69 (fun o => .if_icmp .ne o) 72 89 := ⟨20, zd zq_186 (by decide +kernel), rfl, rfl⟩
theorem iX2_session_72 : xl_D mX2_session 72 (.aload_n 0) 1 73 := ⟨zd zq_0 (by decide +kernel), rfl⟩
theorem iX2_session_73 : xl_G mX2_session 73 2 0 76 := ⟨10, zd zq_248 (by decide +kernel), rfl, fX2_10⟩
theorem iX2_session_76 : xl_D mX2_session 76 (.iload_n 1) 1 77 := ⟨zd zq_3 (by decide +kernel), rfl⟩
theorem iX2_session_77 : xl_Ca mX2_session 77 mX1_hasResult 80 := ⟨138, zd zq_172 (by decide +kernel), rfl, lX2_138, Nat.le_of_ble_eq_true rfl, Nat.le_of_ble_eq_true rfl⟩
theorem iX2_session_80 : xl_J mX2_session 80 (fun o => .ifCond .eq o) 83 87 := ⟨7, zd zq_193 (by decide +kernel), rfl, rfl⟩
theorem iX2_session_83 : xl_D mX2_session 83 (.iconst 1) 1 84 := ⟨zd zq_36 (by decide +kernel), rfl⟩
theorem iX2_session_84 : xl_J mX2_session 84 (fun o => .goto o) 87 88 := ⟨4, zd zq_139 (by decide +kernel), rfl, rfl⟩
theorem iX2_session_87 : xl_D mX2_session 87 (.iconst 0) 1 88 := ⟨zd zq_2 (by decide +kernel), rfl⟩
theorem iX2_session_88 : xl_D mX2_session 88 (.ireturn) 1 89 := ⟨zd zq_17 (by decide +kernel), rfl⟩
theorem iX2_session_89 : xl_D mX2_session 89 (.aload_n 0) 1 90 := ⟨zd zq_0 (by decide +kernel), rfl⟩
theorem iX2_session_90 : xl_G mX2_session 90 2 0 93 := ⟨10, zd zq_248 (by decide +kernel), rfl, fX2_10⟩
theorem iX2_session_93 : xl_G mX2_session 93 1 11 96 := ⟨131, zd zq_287 (by decide +kernel), rfl, fX2_131⟩
theorem iX2_session_96 : xl_D mX2_session 96 (.iload_n 1) 1 97 := ⟨zd zq_3 (by decide +kernel), rfl⟩
theorem iX2_session_97 : xl_D mX2_session 97 (.iload_n 2) 1 98 := ⟨zd zq_6 (by decide +kernel), rfl⟩
theorem iX2_session_98 : xl_Cs mX2_session 98 mX2_shifted 101 := ⟨141, zd zq_290 (by decide +kernel), rfl, lX2_141, Nat.le_of_ble_eq_true rfl, Nat.le_of_ble_eq_true rfl⟩
theorem iX2_session_101 : xl_D mX2_session 101 (.ireturn) 1 102 := ⟨zd zq_17 (by decide +kernel), rfl⟩
theorem iX2_at_0 : xl_D mX2_at 0 (.iload_n 1) 1 1 := ⟨zd zq_3 (by decide +kernel), rfl⟩
theorem iX2_at_1 : xl_Cs mX2_at 1 mX2_isKey 4 := ⟨145, zd zq_291 (by decide +kernel), rfl, lX2_145, Nat.le_of_ble_eq_true rfl, Nat.le_of_ble_eq_true rfl⟩
theorem iX2_at_4 : xl_J mX2_at 4 (fun o => .ifCond .eq o) 7 14 := ⟨10, zd zq_292 (by decide +kernel), rfl, rfl⟩
theorem iX2_at_7 : xl_D mX2_at 7 (.iload_n 2) 1 8 := ⟨zd zq_6 (by decide +kernel), rfl⟩
theorem iX2_at_8 : xl_Cs mX2_at 8 mX2_isTime 11 := ⟨148, zd zq_293 (by decide +kernel), rfl, lX2_148, Nat.le_of_ble_eq_true rfl, Nat.le_of_ble_eq_true rfl⟩
theorem iX2_at_11 : xl_J mX2_at 11 (fun o => .ifCond .ne o) 14 16 := ⟨5, zd zq_246 (by decide +kernel), rfl, rfl⟩
theorem iX2_at_14 : xl_D mX2_at 14 (.iconst (-1)) 1 15 := ⟨zd zq_104 (by decide +kernel), rfl⟩
theorem iX2_at_15 : xl_D mX2_at 15 (.ireturn) 1 16 := ⟨zd zq_17 (by decide +kernel), rfl⟩
theorem iX2_at_16 : xl_D mX2_at 16 (.aload_n 0) 1 17 := ⟨zd zq_0 (by decide +kernel), rfl⟩
theorem iX2_at_17 : xl_G mX2_at 17 2 0 20 := ⟨10, zd zq_248 (by decide +kernel), rfl, fX2_10⟩
theorem iX2_at_20 : xl_D mX2_at 20 (.iload_n 1) 1 21 := ⟨zd zq_3 (by decide +kernel), rfl⟩
theorem iX2_at_21 : xl_D mX2_at 21 (.iload_n 2) 1 22 := ⟨zd zq_6 (by decide +kernel), rfl⟩
theorem iX2_at_22 : xl_Ca mX2_at 22 mX1_firstTouched 25 := ⟨151, zd zq_180 (by decide +kernel), rfl, lX2_151, Nat.le_of_ble_eq_true rfl, Nat.le_of_ble_eq_true rfl⟩
theorem iX2_at_25 : xl_D mX2_at 25 (.istore_n 3) 1 26 := ⟨zd zq_131 (by decide +kernel), rfl⟩
theorem iX2_at_26 : xl_D mX2_at 26 (.iload_n 3) 1 27 := ⟨zd zq_25 (by decide +kernel), rfl⟩
theorem iX2_at_27 : xl_J mX2_at 27 (fun o => .ifCond .ge o) 30 33 := ⟨6, zd zq_263 (by decide +kernel), rfl, rfl⟩
theorem iX2_at_30 : xl_D mX2_at 30 (.bipush (-2)) 2 32 := ⟨zd zq_256 (by decide +kernel), rfl⟩
theorem iX2_at_32 : xl_D mX2_at 32 (.ireturn) 1 33 := ⟨zd zq_17 (by decide +kernel), rfl⟩
theorem iX2_at_33 : xl_D mX2_at 33 (.aload_n 0) 1 34 := ⟨zd zq_0 (by decide +kernel), rfl⟩
theorem iX2_at_34 : xl_D mX2_at 34 (.aload_n 0) 1 35 := ⟨zd zq_0 (by decide +kernel), rfl⟩
theorem iX2_at_35 : xl_G mX2_at 35 2 0 38 := ⟨10, zd zq_248 (by decide +kernel), rfl, fX2_10⟩
theorem iX2_at_38 : xl_D mX2_at 38 (.iload_n 3) 1 39 := ⟨zd zq_25 (by decide +kernel), rfl⟩
theorem iX2_at_39 : xl_D mX2_at 39 (.iload_n 1) 1 40 := ⟨zd zq_3 (by decide +kernel), rfl⟩
theorem iX2_at_40 : xl_D mX2_at 40 (.iload_n 2) 1 41 := ⟨zd zq_6 (by decide +kernel), rfl⟩
theorem iX2_at_41 : xl_Ca mX2_at 41 mX1_touchedFrom 44 := ⟨154, zd zq_183 (by decide +kernel), rfl, lX2_154, Nat.le_of_ble_eq_true rfl, Nat.le_of_ble_eq_true rfl⟩
theorem iX2_at_44 : xl_D mX2_at 44 (.i2l) 1 45 := ⟨zd zq_266 (by decide +kernel), rfl⟩
theorem iX2_at_45 : xl_Ca mX2_at 45 mX2_tellOne 48 := ⟨118, zd zq_140 (by decide +kernel), rfl, lX2_118, Nat.le_of_ble_eq_true rfl, Nat.le_of_ble_eq_true rfl⟩
theorem iX2_at_48 : xl_D mX2_at 48 (.iload_n 3) 1 49 := ⟨zd zq_25 (by decide +kernel), rfl⟩
theorem iX2_at_49 : xl_D mX2_at 49 (.ireturn) 1 50 := ⟨zd zq_17 (by decide +kernel), rfl⟩
theorem iX2_message_0 : xl_D mX2_message 0 (.iload_n 1) 1 1 := ⟨zd zq_3 (by decide +kernel), rfl⟩
theorem iX2_message_1 : xl_D mX2_message 1 (.aload_n 0) 1 2 := ⟨zd zq_0 (by decide +kernel), rfl⟩
theorem iX2_message_2 : xl_G mX2_message 2 2 0 5 := ⟨10, zd zq_248 (by decide +kernel), rfl, fX2_10⟩
theorem iX2_message_5 : xl_G mX2_message 5 1 4 8 := ⟨87, zd zq_264 (by decide +kernel), rfl, fX2_87⟩
theorem iX2_message_8 : xl_D mX2_message 8 (.bipush 60) 2 10 := ⟨zd zq_70 (by decide +kernel), rfl⟩
theorem iX2_message_10 : xl_Cs mX2_message 10 mX2_isOfLatest 13 := ⟨158, zd zq_294 (by decide +kernel), rfl, lX2_158, Nat.le_of_ble_eq_true rfl, Nat.le_of_ble_eq_true rfl⟩
theorem iX2_message_13 : xl_D mX2_message 13 (.istore_n 3) 1 14 := ⟨zd zq_131 (by decide +kernel), rfl⟩
theorem iX2_message_14 : xl_D mX2_message 14 (.iload_n 3) 1 15 := ⟨zd zq_25 (by decide +kernel), rfl⟩
theorem iX2_message_15 : xl_J mX2_message 15 (fun o => .ifCond .eq o) 18 28 := ⟨13, zd zq_295 (by decide +kernel), rfl, rfl⟩
theorem iX2_message_18 : xl_D mX2_message 18 (.iload_n 2) 1 19 := ⟨zd zq_6 (by decide +kernel), rfl⟩
theorem iX2_message_19 : xl_J mX2_message 19 (fun o => .ifCond .lt o) 22 28 := ⟨9, zd zq_289 (by decide +kernel), rfl, rfl⟩
theorem iX2_message_22 : xl_D mX2_message 22 (.iload_n 2) 1 23 := ⟨zd zq_6 (by decide +kernel), rfl⟩
theorem iX2_message_23 : xl_D mX2_message 23 (.bipush 6) 2 25 := ⟨zd zq_71 (by decide +kernel), rfl⟩
theorem iX2_message_25 : xl_J mX2_message 25 (fun o => .if_icmp .lt o) 28 36 := ⟨11, zd zq_296 (by decide +kernel), rfl, rfl⟩
theorem iX2_message_28 : xl_D mX2_message 28 (.new 128) 3 31 := ⟨zd zq_282 (by decide +kernel), rfl⟩
theorem iX2_message_31 : xl_D mX2_message 31 (.dup) 1 32 := ⟨zd zq_46 (by decide +kernel), rfl⟩
theorem iX2_message_32 : xl_D mX2_message 32 (.invokespecial 130) 3 35 := ⟨zd zq_283 (by decide +kernel), rfl⟩
theorem iX2_message_35 : xl_D mX2_message 35 (.athrow) 1 36 := ⟨zd zq_284 (by decide +kernel), rfl⟩
theorem iX2_message_36 : xl_D mX2_message 36 (.aload_n 0) 1 37 := ⟨zd zq_0 (by decide +kernel), rfl⟩
theorem iX2_message_37 : xl_G mX2_message 37 2 0 40 := ⟨10, zd zq_248 (by decide +kernel), rfl, fX2_10⟩
theorem iX2_message_40 : xl_G mX2_message 40 1 12 43 := ⟨161, zd zq_297 (by decide +kernel), rfl, fX2_161⟩
theorem iX2_message_43 : xl_D mX2_message 43 (.iload_n 1) 1 44 := ⟨zd zq_3 (by decide +kernel), rfl⟩
theorem iX2_message_44 : xl_D mX2_message 44 (.bipush 60) 2 46 := ⟨zd zq_70 (by decide +kernel), rfl⟩
theorem iX2_message_46 : xl_D mX2_message 46 (.irem) 1 47 := ⟨zd zq_191 (by decide +kernel), rfl⟩
theorem iX2_message_47 : xl_D mX2_message 47 (.iload_n 2) 1 48 := ⟨zd zq_6 (by decide +kernel), rfl⟩
theorem iX2_message_48 : xl_Ca mX2_message 48 mX0_get 51 := ⟨67, zd zq_254 (by decide +kernel), rfl, lX2_67, Nat.le_of_ble_eq_true rfl, Nat.le_of_ble_eq_true rfl⟩
theorem iX2_message_51 : xl_D mX2_message 51 (.istore 4) 2 53 := ⟨zd zq_50 (by decide +kernel), rfl⟩
theorem iX2_message_53 : xl_D mX2_message 53 (.iload_n 2) 1 54 := ⟨zd zq_6 (by decide +kernel), rfl⟩
theorem iX2_message_54 : xl_D mX2_message 54 (.iconst 5) 1 55 := ⟨zd zq_64 (by decide +kernel), rfl⟩
theorem iX2_message_55 : xl_J mX2_message 55 (fun o => .if_icmp .ne o) 58 67 := ⟨12, zd zq_298 (by decide +kernel), rfl, rfl⟩
theorem iX2_message_58 : xl_D mX2_message 58 (.iload 4) 2 60 := ⟨zd zq_51 (by decide +kernel), rfl⟩
theorem iX2_message_60 : xl_D mX2_message 60 (.sipush 20000) 3 63 := ⟨zd zq_299 (by decide +kernel), rfl⟩
theorem iX2_message_63 : xl_D mX2_message 63 (.iadd) 1 64 := ⟨zd zq_19 (by decide +kernel), rfl⟩
theorem iX2_message_64 : xl_J mX2_message 64 (fun o => .goto o) 67 69 := ⟨5, zd zq_300 (by decide +kernel), rfl, rfl⟩
theorem iX2_message_67 : xl_D mX2_message 67 (.iload 4) 2 69 := ⟨zd zq_51 (by decide +kernel), rfl⟩
theorem iX2_message_69 : xl_D mX2_message 69 (.ireturn) 1 70 := ⟨zd zq_17 (by decide +kernel), rfl⟩
theorem iX2_sent_0 : xl_D mX2_sent 0 (.iload_n 1) 1 1 := ⟨zd zq_3 (by decide +kernel), rfl⟩
theorem iX2_sent_1 : xl_J mX2_sent 1 (fun o => .ifCond .lt o) 4 9 := ⟨8, zd zq_174 (by decide +kernel), rfl, rfl⟩
theorem iX2_sent_4 : xl_D mX2_sent 4 (.iload_n 1) 1 5 := ⟨zd zq_3 (by decide +kernel), rfl⟩
theorem iX2_sent_5 : xl_D mX2_sent 5 (.iconst 4) 1 6 := ⟨zd zq_63 (by decide +kernel), rfl⟩
theorem iX2_sent_6 : xl_J mX2_sent 6 (fun o => .if_icmp .lt o) 9 11 := ⟨5, zd zq_16 (by decide +kernel), rfl, rfl⟩
theorem iX2_sent_9 : xl_D mX2_sent 9 (.iconst (-1)) 1 10 := ⟨zd zq_104 (by decide +kernel), rfl⟩
theorem iX2_sent_10 : xl_D mX2_sent 10 (.ireturn) 1 11 := ⟨zd zq_17 (by decide +kernel), rfl⟩
theorem iX2_sent_11 : xl_D mX2_sent 11 (.aload_n 0) 1 12 := ⟨zd zq_0 (by decide +kernel), rfl⟩
theorem iX2_sent_12 : xl_D mX2_sent 12 (.aload_n 0) 1 13 := ⟨zd zq_0 (by decide +kernel), rfl⟩
theorem iX2_sent_13 : xl_G mX2_sent 13 2 0 16 := ⟨10, zd zq_248 (by decide +kernel), rfl, fX2_10⟩
theorem iX2_sent_16 : xl_G mX2_sent 16 1 4 19 := ⟨87, zd zq_264 (by decide +kernel), rfl, fX2_87⟩
theorem iX2_sent_19 : xl_D mX2_sent 19 (.i2l) 1 20 := ⟨zd zq_266 (by decide +kernel), rfl⟩
theorem iX2_sent_20 : xl_Ca mX2_sent 20 mX2_tellOne 23 := ⟨118, zd zq_140 (by decide +kernel), rfl, lX2_118, Nat.le_of_ble_eq_true rfl, Nat.le_of_ble_eq_true rfl⟩
theorem iX2_sent_23 : xl_D mX2_sent 23 (.aload_n 0) 1 24 := ⟨zd zq_0 (by decide +kernel), rfl⟩
theorem iX2_sent_24 : xl_G mX2_sent 24 2 0 27 := ⟨10, zd zq_248 (by decide +kernel), rfl, fX2_10⟩
theorem iX2_sent_27 : xl_D mX2_sent 27 (.iload_n 1) 1 28 := ⟨zd zq_3 (by decide +kernel), rfl⟩
theorem iX2_sent_28 : xl_Ca mX2_sent 28 mX1_sentOf 31 := ⟨164, zd zq_301 (by decide +kernel), rfl, lX2_164, Nat.le_of_ble_eq_true rfl, Nat.le_of_ble_eq_true rfl⟩
theorem iX2_sent_31 : xl_D mX2_sent 31 (.ireturn) 1 32 := ⟨zd zq_17 (by decide +kernel), rfl⟩
theorem iX2_stands_0 : xl_D mX2_stands 0 (.iconst 0) 1 1 := ⟨zd zq_2 (by decide +kernel), rfl⟩
theorem iX2_stands_1 : xl_D mX2_stands 1 (.istore_n 1) 1 2 := ⟨zd zq_194 (by decide +kernel), rfl⟩
theorem iX2_stands_2 : xl_D mX2_stands 2 (.iconst 0) 1 3 := ⟨zd zq_2 (by decide +kernel), rfl⟩
theorem iX2_stands_3 : xl_D mX2_stands 3 (.istore_n 2) 1 4 := ⟨zd zq_41 (by decide +kernel), rfl⟩
theorem iX2_stands_4 : xl_D mX2_stands 4 (.iconst 0) 1 5 := ⟨zd zq_2 (by decide +kernel), rfl⟩
theorem iX2_stands_5 : xl_D mX2_stands 5 (.istore_n 3) 1 6 := ⟨zd zq_131 (by decide +kernel), rfl⟩
theorem iX2_stands_6 : xl_D mX2_stands 6 (.iconst 0) 1 7 := ⟨zd zq_2 (by decide +kernel), rfl⟩
theorem iX2_stands_7 : xl_D mX2_stands 7 (.istore 4) 2 9 := ⟨zd zq_50 (by decide +kernel), rfl⟩
theorem iX2_stands_9 : xl_D mX2_stands 9 (.iload 4) 2 11 := ⟨zd zq_51 (by decide +kernel), rfl⟩
theorem iX2_stands_11 : xl_D mX2_stands 11 (.bipush 6) 2 13 := ⟨zd zq_71 (by decide +kernel), rfl⟩
theorem iX2_stands_13 : xl_J mX2_stands 13 (fun o => .if_icmp .ge o) 16 71 := ⟨58, zd zq_302 (by decide +kernel), rfl, rfl⟩
theorem iX2_stands_16 : xl_D mX2_stands 16 (.iload_n 1) 1 17 := ⟨zd zq_3 (by decide +kernel), rfl⟩
theorem iX2_stands_17 : xl_D mX2_stands 17 (.aload_n 0) 1 18 := ⟨zd zq_0 (by decide +kernel), rfl⟩
theorem iX2_stands_18 : xl_G mX2_stands 18 2 0 21 := ⟨10, zd zq_248 (by decide +kernel), rfl, fX2_10⟩
theorem iX2_stands_21 : xl_G mX2_stands 21 1 15 24 := ⟨167, zd zq_303 (by decide +kernel), rfl, fX2_167⟩
theorem iX2_stands_24 : xl_D mX2_stands 24 (.iload 4) 2 26 := ⟨zd zq_51 (by decide +kernel), rfl⟩
theorem iX2_stands_26 : xl_D mX2_stands 26 (.iconst 4) 1 27 := ⟨zd zq_63 (by decide +kernel), rfl⟩
theorem iX2_stands_27 : xl_Ca mX2_stands 27 mX0_get 30 := ⟨67, zd zq_254 (by decide +kernel), rfl, lX2_67, Nat.le_of_ble_eq_true rfl, Nat.le_of_ble_eq_true rfl⟩
theorem iX2_stands_30 : xl_D mX2_stands 30 (.iadd) 1 31 := ⟨zd zq_19 (by decide +kernel), rfl⟩
theorem iX2_stands_31 : xl_D mX2_stands 31 (.istore_n 1) 1 32 := ⟨zd zq_194 (by decide +kernel), rfl⟩
theorem iX2_stands_32 : xl_D mX2_stands 32 (.iload_n 2) 1 33 := ⟨zd zq_6 (by decide +kernel), rfl⟩
theorem iX2_stands_33 : xl_D mX2_stands 33 (.aload_n 0) 1 34 := ⟨zd zq_0 (by decide +kernel), rfl⟩
theorem iX2_stands_34 : xl_G mX2_stands 34 2 0 37 := ⟨10, zd zq_248 (by decide +kernel), rfl, fX2_10⟩
theorem iX2_stands_37 : xl_G mX2_stands 37 1 15 40 := ⟨167, zd zq_303 (by decide +kernel), rfl, fX2_167⟩
theorem iX2_stands_40 : xl_D mX2_stands 40 (.iload 4) 2 42 := ⟨zd zq_51 (by decide +kernel), rfl⟩
theorem iX2_stands_42 : xl_D mX2_stands 42 (.iconst 5) 1 43 := ⟨zd zq_64 (by decide +kernel), rfl⟩
theorem iX2_stands_43 : xl_Ca mX2_stands 43 mX0_get 46 := ⟨67, zd zq_254 (by decide +kernel), rfl, lX2_67, Nat.le_of_ble_eq_true rfl, Nat.le_of_ble_eq_true rfl⟩
theorem iX2_stands_46 : xl_D mX2_stands 46 (.iadd) 1 47 := ⟨zd zq_19 (by decide +kernel), rfl⟩
theorem iX2_stands_47 : xl_D mX2_stands 47 (.istore_n 2) 1 48 := ⟨zd zq_41 (by decide +kernel), rfl⟩
theorem iX2_stands_48 : xl_D mX2_stands 48 (.iload_n 3) 1 49 := ⟨zd zq_25 (by decide +kernel), rfl⟩
theorem iX2_stands_49 : xl_D mX2_stands 49 (.aload_n 0) 1 50 := ⟨zd zq_0 (by decide +kernel), rfl⟩
theorem iX2_stands_50 : xl_G mX2_stands 50 2 0 53 := ⟨10, zd zq_248 (by decide +kernel), rfl, fX2_10⟩
theorem iX2_stands_53 : xl_G mX2_stands 53 1 15 56 := ⟨167, zd zq_303 (by decide +kernel), rfl, fX2_167⟩
theorem iX2_stands_56 : xl_D mX2_stands 56 (.iload 4) 2 58 := ⟨zd zq_51 (by decide +kernel), rfl⟩
theorem iX2_stands_58 : xl_D mX2_stands 58 (.bipush 6) 2 60 := ⟨zd zq_71 (by decide +kernel), rfl⟩
theorem iX2_stands_60 : xl_Ca mX2_stands 60 mX0_get 63 := ⟨67, zd zq_254 (by decide +kernel), rfl, lX2_67, Nat.le_of_ble_eq_true rfl, Nat.le_of_ble_eq_true rfl⟩
theorem iX2_stands_63 : xl_D mX2_stands 63 (.iadd) 1 64 := ⟨zd zq_19 (by decide +kernel), rfl⟩
theorem iX2_stands_64 : xl_D mX2_stands 64 (.istore_n 3) 1 65 := ⟨zd zq_131 (by decide +kernel), rfl⟩
theorem iX2_stands_65 : xl_D mX2_stands 65 (.iinc 4 1) 3 68 := ⟨zd zq_54 (by decide +kernel), rfl⟩
theorem iX2_stands_68 : xl_J mX2_stands 68 (fun o => .goto o) 71 9 := ⟨-59, zd zq_304 (by decide +kernel), rfl, rfl⟩
theorem iX2_stands_71 : xl_D mX2_stands 71 (.iconst 0) 1 72 := ⟨zd zq_2 (by decide +kernel), rfl⟩
theorem iX2_stands_72 : xl_D mX2_stands 72 (.istore 4) 2 74 := ⟨zd zq_50 (by decide +kernel), rfl⟩
theorem iX2_stands_74 : xl_D mX2_stands 74 (.iload 4) 2 76 := ⟨zd zq_51 (by decide +kernel), rfl⟩
theorem iX2_stands_76 : xl_D mX2_stands 76 (.aload_n 0) 1 77 := ⟨zd zq_0 (by decide +kernel), rfl⟩
theorem iX2_stands_77 : xl_G mX2_stands 77 2 0 80 := ⟨10, zd zq_248 (by decide +kernel), rfl, fX2_10⟩
theorem iX2_stands_80 : xl_G mX2_stands 80 1 11 83 := ⟨131, zd zq_287 (by decide +kernel), rfl, fX2_131⟩
theorem iX2_stands_83 : xl_G mX2_stands 83 0 3 86 := ⟨76, zd zq_258 (by decide +kernel), rfl, fX2_76⟩
theorem iX2_stands_86 : xl_J mX2_stands 86 (fun o => .if_icmp .ge o) 89 142 := ⟨56, zd zq_155 (by decide +kernel), rfl, rfl⟩
theorem iX2_stands_89 : xl_D mX2_stands 89 (.aload_n 0) 1 90 := ⟨zd zq_0 (by decide +kernel), rfl⟩
theorem iX2_stands_90 : xl_G mX2_stands 90 2 0 93 := ⟨10, zd zq_248 (by decide +kernel), rfl, fX2_10⟩
theorem iX2_stands_93 : xl_D mX2_stands 93 (.iload 4) 2 95 := ⟨zd zq_51 (by decide +kernel), rfl⟩
theorem iX2_stands_95 : xl_Ca mX2_stands 95 mX1_hasResult 98 := ⟨138, zd zq_172 (by decide +kernel), rfl, lX2_138, Nat.le_of_ble_eq_true rfl, Nat.le_of_ble_eq_true rfl⟩
theorem iX2_stands_98 : xl_J mX2_stands 98 (fun o => .ifCond .eq o) 101 136 := ⟨38, zd zq_305 (by decide +kernel), rfl, rfl⟩
theorem iX2_stands_101 : xl_D mX2_stands 101 (.iinc 1 1) 3 104 := ⟨zd zq_227 (by decide +kernel), rfl⟩
theorem iX2_stands_104 : xl_D mX2_stands 104 (.iload_n 2) 1 105 := ⟨zd zq_6 (by decide +kernel), rfl⟩
theorem iX2_stands_105 : xl_D mX2_stands 105 (.aload_n 0) 1 106 := ⟨zd zq_0 (by decide +kernel), rfl⟩
theorem iX2_stands_106 : xl_G mX2_stands 106 2 0 109 := ⟨10, zd zq_248 (by decide +kernel), rfl, fX2_10⟩
theorem iX2_stands_109 : xl_G mX2_stands 109 1 11 112 := ⟨131, zd zq_287 (by decide +kernel), rfl, fX2_131⟩
theorem iX2_stands_112 : xl_D mX2_stands 112 (.iload 4) 2 114 := ⟨zd zq_51 (by decide +kernel), rfl⟩
theorem iX2_stands_114 : xl_D mX2_stands 114 (.iconst 3) 1 115 := ⟨zd zq_123 (by decide +kernel), rfl⟩
theorem iX2_stands_115 : xl_Ca mX2_stands 115 mX0_get 118 := ⟨67, zd zq_254 (by decide +kernel), rfl, lX2_67, Nat.le_of_ble_eq_true rfl, Nat.le_of_ble_eq_true rfl⟩
theorem iX2_stands_118 : xl_D mX2_stands 118 (.iadd) 1 119 := ⟨zd zq_19 (by decide +kernel), rfl⟩
theorem iX2_stands_119 : xl_D mX2_stands 119 (.istore_n 2) 1 120 := ⟨zd zq_41 (by decide +kernel), rfl⟩
theorem iX2_stands_120 : xl_D mX2_stands 120 (.iload_n 3) 1 121 := ⟨zd zq_25 (by decide +kernel), rfl⟩
theorem iX2_stands_121 : xl_D mX2_stands 121 (.aload_n 0) 1 122 := ⟨zd zq_0 (by decide +kernel), rfl⟩
theorem iX2_stands_122 : xl_G mX2_stands 122 2 0 125 := ⟨10, zd zq_248 (by decide +kernel), rfl, fX2_10⟩
theorem iX2_stands_125 : xl_G mX2_stands 125 1 11 128 := ⟨131, zd zq_287 (by decide +kernel), rfl, fX2_131⟩
theorem iX2_stands_128 : xl_D mX2_stands 128 (.iload 4) 2 130 := ⟨zd zq_51 (by decide +kernel), rfl⟩
theorem iX2_stands_130 : xl_D mX2_stands 130 (.iconst 4) 1 131 := ⟨zd zq_63 (by decide +kernel), rfl⟩
theorem iX2_stands_131 : xl_Ca mX2_stands 131 mX0_get 134 := ⟨67, zd zq_254 (by decide +kernel), rfl, lX2_67, Nat.le_of_ble_eq_true rfl, Nat.le_of_ble_eq_true rfl⟩
theorem iX2_stands_134 : xl_D mX2_stands 134 (.iadd) 1 135 := ⟨zd zq_19 (by decide +kernel), rfl⟩
theorem iX2_stands_135 : xl_D mX2_stands 135 (.istore_n 3) 1 136 := ⟨zd zq_131 (by decide +kernel), rfl⟩
theorem iX2_stands_136 : xl_D mX2_stands 136 (.iinc 4 1) 3 139 := ⟨zd zq_54 (by decide +kernel), rfl⟩
theorem iX2_stands_139 : xl_J mX2_stands 139 (fun o => .goto o) 142 74 := ⟨-65, zd zq_306 (by decide +kernel), rfl, rfl⟩
theorem iX2_stands_142 : xl_D mX2_stands 142 (.aload_n 0) 1 143 := ⟨zd zq_0 (by decide +kernel), rfl⟩
theorem iX2_stands_143 : xl_D mX2_stands 143 (.iload_n 2) 1 144 := ⟨zd zq_6 (by decide +kernel), rfl⟩
theorem iX2_stands_144 : xl_D mX2_stands 144 (.i2l) 1 145 := ⟨zd zq_266 (by decide +kernel), rfl⟩
theorem iX2_stands_145 : xl_D mX2_stands 145 (.iload_n 3) 1 146 := ⟨zd zq_25 (by decide +kernel), rfl⟩
theorem iX2_stands_146 : xl_D mX2_stands 146 (.i2l) 1 147 := ⟨zd zq_266 (by decide +kernel), rfl⟩
theorem iX2_stands_147 : xl_Ca mX2_stands 147 mX2_tellTwo 150 := ⟨96, zd zq_268 (by decide +kernel), rfl, lX2_96, Nat.le_of_ble_eq_true rfl, Nat.le_of_ble_eq_true rfl⟩
theorem iX2_stands_150 : xl_D mX2_stands 150 (.iload_n 1) 1 151 := ⟨zd zq_3 (by decide +kernel), rfl⟩
theorem iX2_stands_151 : xl_D mX2_stands 151 (.ireturn) 1 152 := ⟨zd zq_17 (by decide +kernel), rfl⟩
theorem iX2_closed_0 : xl_D mX2_closed 0 (.iload_n 1) 1 1 := ⟨zd zq_3 (by decide +kernel), rfl⟩
theorem iX2_closed_1 : xl_Cs mX2_closed 1 mX2_isKey 4 := ⟨145, zd zq_291 (by decide +kernel), rfl, lX2_145, Nat.le_of_ble_eq_true rfl, Nat.le_of_ble_eq_true rfl⟩
theorem iX2_closed_4 : xl_J mX2_closed 4 (fun o => .ifCond .ne o) 7 9 := ⟨5, zd zq_246 (by decide +kernel), rfl, rfl⟩
theorem iX2_closed_7 : xl_D mX2_closed 7 (.iconst (-1)) 1 8 := ⟨zd zq_104 (by decide +kernel), rfl⟩
theorem iX2_closed_8 : xl_D mX2_closed 8 (.ireturn) 1 9 := ⟨zd zq_17 (by decide +kernel), rfl⟩
theorem iX2_closed_9 : xl_D mX2_closed 9 (.aload_n 0) 1 10 := ⟨zd zq_0 (by decide +kernel), rfl⟩
theorem iX2_closed_10 : xl_D mX2_closed 10 (.aload_n 0) 1 11 := ⟨zd zq_0 (by decide +kernel), rfl⟩
theorem iX2_closed_11 : xl_G mX2_closed 11 2 0 14 := ⟨10, zd zq_248 (by decide +kernel), rfl, fX2_10⟩
theorem iX2_closed_14 : xl_G mX2_closed 14 1 15 17 := ⟨167, zd zq_303 (by decide +kernel), rfl, fX2_167⟩
theorem iX2_closed_17 : xl_D mX2_closed 17 (.iload_n 1) 1 18 := ⟨zd zq_3 (by decide +kernel), rfl⟩
theorem iX2_closed_18 : xl_D mX2_closed 18 (.iconst 5) 1 19 := ⟨zd zq_64 (by decide +kernel), rfl⟩
theorem iX2_closed_19 : xl_Ca mX2_closed 19 mX0_get 22 := ⟨67, zd zq_254 (by decide +kernel), rfl, lX2_67, Nat.le_of_ble_eq_true rfl, Nat.le_of_ble_eq_true rfl⟩
theorem iX2_closed_22 : xl_D mX2_closed 22 (.i2l) 1 23 := ⟨zd zq_266 (by decide +kernel), rfl⟩
theorem iX2_closed_23 : xl_D mX2_closed 23 (.aload_n 0) 1 24 := ⟨zd zq_0 (by decide +kernel), rfl⟩
theorem iX2_closed_24 : xl_G mX2_closed 24 2 0 27 := ⟨10, zd zq_248 (by decide +kernel), rfl, fX2_10⟩
theorem iX2_closed_27 : xl_G mX2_closed 27 1 15 30 := ⟨167, zd zq_303 (by decide +kernel), rfl, fX2_167⟩
theorem iX2_closed_30 : xl_D mX2_closed 30 (.iload_n 1) 1 31 := ⟨zd zq_3 (by decide +kernel), rfl⟩
theorem iX2_closed_31 : xl_D mX2_closed 31 (.bipush 6) 2 33 := ⟨zd zq_71 (by decide +kernel), rfl⟩
theorem iX2_closed_33 : xl_Ca mX2_closed 33 mX0_get 36 := ⟨67, zd zq_254 (by decide +kernel), rfl, lX2_67, Nat.le_of_ble_eq_true rfl, Nat.le_of_ble_eq_true rfl⟩
theorem iX2_closed_36 : xl_D mX2_closed 36 (.i2l) 1 37 := ⟨zd zq_266 (by decide +kernel), rfl⟩
theorem iX2_closed_37 : xl_D mX2_closed 37 (.aload_n 0) 1 38 := ⟨zd zq_0 (by decide +kernel), rfl⟩
theorem iX2_closed_38 : xl_G mX2_closed 38 2 0 41 := ⟨10, zd zq_248 (by decide +kernel), rfl, fX2_10⟩
theorem iX2_closed_41 : xl_G mX2_closed 41 1 15 44 := ⟨167, zd zq_303 (by decide +kernel), rfl, fX2_167⟩
theorem iX2_closed_44 : xl_D mX2_closed 44 (.iload_n 1) 1 45 := ⟨zd zq_3 (by decide +kernel), rfl⟩
theorem iX2_closed_45 : xl_D mX2_closed 45 (.bipush 7) 2 47 := ⟨zd zq_68 (by decide +kernel), rfl⟩
theorem iX2_closed_47 : xl_Ca mX2_closed 47 mX0_get 50 := ⟨67, zd zq_254 (by decide +kernel), rfl, lX2_67, Nat.le_of_ble_eq_true rfl, Nat.le_of_ble_eq_true rfl⟩
theorem iX2_closed_50 : xl_D mX2_closed 50 (.i2l) 1 51 := ⟨zd zq_266 (by decide +kernel), rfl⟩
theorem iX2_closed_51 : xl_Ca mX2_closed 51 mX2_tellThree 54 := ⟨170, zd zq_307 (by decide +kernel), rfl, lX2_170, Nat.le_of_ble_eq_true rfl, Nat.le_of_ble_eq_true rfl⟩
theorem iX2_closed_54 : xl_D mX2_closed 54 (.aload_n 0) 1 55 := ⟨zd zq_0 (by decide +kernel), rfl⟩
theorem iX2_closed_55 : xl_G mX2_closed 55 2 0 58 := ⟨10, zd zq_248 (by decide +kernel), rfl, fX2_10⟩
theorem iX2_closed_58 : xl_G mX2_closed 58 1 15 61 := ⟨167, zd zq_303 (by decide +kernel), rfl, fX2_167⟩
theorem iX2_closed_61 : xl_D mX2_closed 61 (.iload_n 1) 1 62 := ⟨zd zq_3 (by decide +kernel), rfl⟩
theorem iX2_closed_62 : xl_D mX2_closed 62 (.iconst 4) 1 63 := ⟨zd zq_63 (by decide +kernel), rfl⟩
theorem iX2_closed_63 : xl_Ca mX2_closed 63 mX0_get 66 := ⟨67, zd zq_254 (by decide +kernel), rfl, lX2_67, Nat.le_of_ble_eq_true rfl, Nat.le_of_ble_eq_true rfl⟩
theorem iX2_closed_66 : xl_D mX2_closed 66 (.ireturn) 1 67 := ⟨zd zq_17 (by decide +kernel), rfl⟩
theorem iX2_finals_0 : xl_D mX2_finals 0 (.iload_n 1) 1 1 := ⟨zd zq_3 (by decide +kernel), rfl⟩
theorem iX2_finals_1 : xl_D mX2_finals 1 (.aload_n 0) 1 2 := ⟨zd zq_0 (by decide +kernel), rfl⟩
theorem iX2_finals_2 : xl_G mX2_finals 2 2 0 5 := ⟨10, zd zq_248 (by decide +kernel), rfl, fX2_10⟩
theorem iX2_finals_5 : xl_G mX2_finals 5 1 5 8 := ⟨174, zd zq_308 (by decide +kernel), rfl, fX2_174⟩
theorem iX2_finals_8 : xl_D mX2_finals 8 (.bipush 40) 2 10 := ⟨zd zq_73 (by decide +kernel), rfl⟩
theorem iX2_finals_10 : xl_Cs mX2_finals 10 mX2_isOfLatest 13 := ⟨158, zd zq_294 (by decide +kernel), rfl, lX2_158, Nat.le_of_ble_eq_true rfl, Nat.le_of_ble_eq_true rfl⟩
theorem iX2_finals_13 : xl_D mX2_finals 13 (.istore_n 3) 1 14 := ⟨zd zq_131 (by decide +kernel), rfl⟩
theorem iX2_finals_14 : xl_D mX2_finals 14 (.iload_n 3) 1 15 := ⟨zd zq_25 (by decide +kernel), rfl⟩
theorem iX2_finals_15 : xl_J mX2_finals 15 (fun o => .ifCond .eq o) 18 28 := ⟨13, zd zq_295 (by decide +kernel), rfl, rfl⟩
theorem iX2_finals_18 : xl_D mX2_finals 18 (.iload_n 2) 1 19 := ⟨zd zq_6 (by decide +kernel), rfl⟩
theorem iX2_finals_19 : xl_J mX2_finals 19 (fun o => .ifCond .lt o) 22 28 := ⟨9, zd zq_289 (by decide +kernel), rfl, rfl⟩
theorem iX2_finals_22 : xl_D mX2_finals 22 (.iload_n 2) 1 23 := ⟨zd zq_6 (by decide +kernel), rfl⟩
theorem iX2_finals_23 : xl_D mX2_finals 23 (.bipush 7) 2 25 := ⟨zd zq_68 (by decide +kernel), rfl⟩
theorem iX2_finals_25 : xl_J mX2_finals 25 (fun o => .if_icmp .lt o) 28 36 := ⟨11, zd zq_296 (by decide +kernel), rfl, rfl⟩
theorem iX2_finals_28 : xl_D mX2_finals 28 (.new 128) 3 31 := ⟨zd zq_282 (by decide +kernel), rfl⟩
theorem iX2_finals_31 : xl_D mX2_finals 31 (.dup) 1 32 := ⟨zd zq_46 (by decide +kernel), rfl⟩
theorem iX2_finals_32 : xl_D mX2_finals 32 (.invokespecial 130) 3 35 := ⟨zd zq_283 (by decide +kernel), rfl⟩
theorem iX2_finals_35 : xl_D mX2_finals 35 (.athrow) 1 36 := ⟨zd zq_284 (by decide +kernel), rfl⟩
theorem iX2_finals_36 : xl_D mX2_finals 36 (.aload_n 0) 1 37 := ⟨zd zq_0 (by decide +kernel), rfl⟩
theorem iX2_finals_37 : xl_G mX2_finals 37 2 0 40 := ⟨10, zd zq_248 (by decide +kernel), rfl, fX2_10⟩
theorem iX2_finals_40 : xl_G mX2_finals 40 1 13 43 := ⟨177, zd zq_309 (by decide +kernel), rfl, fX2_177⟩
theorem iX2_finals_43 : xl_D mX2_finals 43 (.iload_n 1) 1 44 := ⟨zd zq_3 (by decide +kernel), rfl⟩
theorem iX2_finals_44 : xl_D mX2_finals 44 (.bipush 40) 2 46 := ⟨zd zq_73 (by decide +kernel), rfl⟩
theorem iX2_finals_46 : xl_D mX2_finals 46 (.irem) 1 47 := ⟨zd zq_191 (by decide +kernel), rfl⟩
theorem iX2_finals_47 : xl_D mX2_finals 47 (.iload_n 2) 1 48 := ⟨zd zq_6 (by decide +kernel), rfl⟩
theorem iX2_finals_48 : xl_Cs mX2_finals 48 mX2_shifted 51 := ⟨141, zd zq_290 (by decide +kernel), rfl, lX2_141, Nat.le_of_ble_eq_true rfl, Nat.le_of_ble_eq_true rfl⟩
theorem iX2_finals_51 : xl_D mX2_finals 51 (.ireturn) 1 52 := ⟨zd zq_17 (by decide +kernel), rfl⟩
theorem iX2_kinds_0 : xl_D mX2_kinds 0 (.iload_n 1) 1 1 := ⟨zd zq_3 (by decide +kernel), rfl⟩
theorem iX2_kinds_1 : xl_Cs mX2_kinds 1 mX2_isKey 4 := ⟨145, zd zq_291 (by decide +kernel), rfl, lX2_145, Nat.le_of_ble_eq_true rfl, Nat.le_of_ble_eq_true rfl⟩
theorem iX2_kinds_4 : xl_J mX2_kinds 4 (fun o => .ifCond .ne o) 7 9 := ⟨5, zd zq_246 (by decide +kernel), rfl, rfl⟩
theorem iX2_kinds_7 : xl_D mX2_kinds 7 (.iconst (-1)) 1 8 := ⟨zd zq_104 (by decide +kernel), rfl⟩
theorem iX2_kinds_8 : xl_D mX2_kinds 8 (.ireturn) 1 9 := ⟨zd zq_17 (by decide +kernel), rfl⟩
theorem iX2_kinds_9 : xl_D mX2_kinds 9 (.iconst 0) 1 10 := ⟨zd zq_2 (by decide +kernel), rfl⟩
theorem iX2_kinds_10 : xl_D mX2_kinds 10 (.istore_n 2) 1 11 := ⟨zd zq_41 (by decide +kernel), rfl⟩
theorem iX2_kinds_11 : xl_D mX2_kinds 11 (.aload_n 0) 1 12 := ⟨zd zq_0 (by decide +kernel), rfl⟩
theorem iX2_kinds_12 : xl_Ca mX2_kinds 12 mX2_tellNothing 15 := ⟨180, zd zq_310 (by decide +kernel), rfl, lX2_180, Nat.le_of_ble_eq_true rfl, Nat.le_of_ble_eq_true rfl⟩
theorem iX2_kinds_15 : xl_D mX2_kinds 15 (.iconst 0) 1 16 := ⟨zd zq_2 (by decide +kernel), rfl⟩
theorem iX2_kinds_16 : xl_D mX2_kinds 16 (.istore_n 3) 1 17 := ⟨zd zq_131 (by decide +kernel), rfl⟩
theorem iX2_kinds_17 : xl_D mX2_kinds 17 (.iload_n 3) 1 18 := ⟨zd zq_25 (by decide +kernel), rfl⟩
theorem iX2_kinds_18 : xl_D mX2_kinds 18 (.iconst 4) 1 19 := ⟨zd zq_63 (by decide +kernel), rfl⟩
theorem iX2_kinds_19 : xl_J mX2_kinds 19 (fun o => .if_icmp .ge o) 22 54 := ⟨35, zd zq_311 (by decide +kernel), rfl, rfl⟩
theorem iX2_kinds_22 : xl_D mX2_kinds 22 (.aload_n 0) 1 23 := ⟨zd zq_0 (by decide +kernel), rfl⟩
theorem iX2_kinds_23 : xl_G mX2_kinds 23 2 0 26 := ⟨10, zd zq_248 (by decide +kernel), rfl, fX2_10⟩
theorem iX2_kinds_26 : xl_G mX2_kinds 26 1 15 29 := ⟨167, zd zq_303 (by decide +kernel), rfl, fX2_167⟩
theorem iX2_kinds_29 : xl_D mX2_kinds 29 (.iload_n 1) 1 30 := ⟨zd zq_3 (by decide +kernel), rfl⟩
theorem iX2_kinds_30 : xl_D mX2_kinds 30 (.iload_n 3) 1 31 := ⟨zd zq_25 (by decide +kernel), rfl⟩
theorem iX2_kinds_31 : xl_Ca mX2_kinds 31 mX0_get 34 := ⟨67, zd zq_254 (by decide +kernel), rfl, lX2_67, Nat.le_of_ble_eq_true rfl, Nat.le_of_ble_eq_true rfl⟩
theorem iX2_kinds_34 : xl_D mX2_kinds 34 (.istore 4) 2 36 := ⟨zd zq_50 (by decide +kernel), rfl⟩
theorem iX2_kinds_36 : xl_D mX2_kinds 36 (.iload_n 2) 1 37 := ⟨zd zq_6 (by decide +kernel), rfl⟩
theorem iX2_kinds_37 : xl_D mX2_kinds 37 (.iload 4) 2 39 := ⟨zd zq_51 (by decide +kernel), rfl⟩
theorem iX2_kinds_39 : xl_D mX2_kinds 39 (.iadd) 1 40 := ⟨zd zq_19 (by decide +kernel), rfl⟩
theorem iX2_kinds_40 : xl_D mX2_kinds 40 (.istore_n 2) 1 41 := ⟨zd zq_41 (by decide +kernel), rfl⟩
theorem iX2_kinds_41 : xl_D mX2_kinds 41 (.aload_n 0) 1 42 := ⟨zd zq_0 (by decide +kernel), rfl⟩
theorem iX2_kinds_42 : xl_D mX2_kinds 42 (.iload 4) 2 44 := ⟨zd zq_51 (by decide +kernel), rfl⟩
theorem iX2_kinds_44 : xl_D mX2_kinds 44 (.i2l) 1 45 := ⟨zd zq_266 (by decide +kernel), rfl⟩
theorem iX2_kinds_45 : xl_Ca mX2_kinds 45 mX2_tellMore 48 := ⟨183, zd zq_312 (by decide +kernel), rfl, lX2_183, Nat.le_of_ble_eq_true rfl, Nat.le_of_ble_eq_true rfl⟩
theorem iX2_kinds_48 : xl_D mX2_kinds 48 (.iinc 3 1) 3 51 := ⟨zd zq_153 (by decide +kernel), rfl⟩
theorem iX2_kinds_51 : xl_J mX2_kinds 51 (fun o => .goto o) 54 17 := ⟨-34, zd zq_171 (by decide +kernel), rfl, rfl⟩
theorem iX2_kinds_54 : xl_D mX2_kinds 54 (.aload_n 0) 1 55 := ⟨zd zq_0 (by decide +kernel), rfl⟩
theorem iX2_kinds_55 : xl_G mX2_kinds 55 2 0 58 := ⟨10, zd zq_248 (by decide +kernel), rfl, fX2_10⟩
theorem iX2_kinds_58 : xl_G mX2_kinds 58 1 15 61 := ⟨167, zd zq_303 (by decide +kernel), rfl, fX2_167⟩
theorem iX2_kinds_61 : xl_D mX2_kinds 61 (.iload_n 1) 1 62 := ⟨zd zq_3 (by decide +kernel), rfl⟩
theorem iX2_kinds_62 : xl_D mX2_kinds 62 (.iconst 4) 1 63 := ⟨zd zq_63 (by decide +kernel), rfl⟩
theorem iX2_kinds_63 : xl_Ca mX2_kinds 63 mX0_get 66 := ⟨67, zd zq_254 (by decide +kernel), rfl, lX2_67, Nat.le_of_ble_eq_true rfl, Nat.le_of_ble_eq_true rfl⟩
theorem iX2_kinds_66 : xl_D mX2_kinds 66 (.istore_n 3) 1 67 := ⟨zd zq_131 (by decide +kernel), rfl⟩
theorem iX2_kinds_67 : xl_D mX2_kinds 67 (.iconst 0) 1 68 := ⟨zd zq_2 (by decide +kernel), rfl⟩
theorem iX2_kinds_68 : xl_D mX2_kinds 68 (.istore 4) 2 70 := ⟨zd zq_50 (by decide +kernel), rfl⟩
theorem iX2_kinds_70 : xl_D mX2_kinds 70 (.iload 4) 2 72 := ⟨zd zq_51 (by decide +kernel), rfl⟩
theorem iX2_kinds_72 : xl_D mX2_kinds 72 (.aload_n 0) 1 73 := ⟨zd zq_0 (by decide +kernel), rfl⟩
theorem iX2_kinds_73 : xl_G mX2_kinds 73 2 0 76 := ⟨10, zd zq_248 (by decide +kernel), rfl, fX2_10⟩
theorem iX2_kinds_76 : xl_G mX2_kinds 76 1 11 79 := ⟨131, zd zq_287 (by decide +kernel), rfl, fX2_131⟩
theorem iX2_kinds_79 : xl_G mX2_kinds 79 0 3 82 := ⟨76, zd zq_258 (by decide +kernel), rfl, fX2_76⟩
theorem iX2_kinds_82 : xl_J mX2_kinds 82 (fun o => .if_icmp .ge o) 85 123 := ⟨41, zd zq_313 (by decide +kernel), rfl, rfl⟩
theorem iX2_kinds_85 : xl_D mX2_kinds 85 (.aload_n 0) 1 86 := ⟨zd zq_0 (by decide +kernel), rfl⟩
theorem iX2_kinds_86 : xl_G mX2_kinds 86 2 0 89 := ⟨10, zd zq_248 (by decide +kernel), rfl, fX2_10⟩
theorem iX2_kinds_89 : xl_G mX2_kinds 89 1 11 92 := ⟨131, zd zq_287 (by decide +kernel), rfl, fX2_131⟩
theorem iX2_kinds_92 : xl_D mX2_kinds 92 (.iload 4) 2 94 := ⟨zd zq_51 (by decide +kernel), rfl⟩
theorem iX2_kinds_94 : xl_D mX2_kinds 94 (.iconst 0) 1 95 := ⟨zd zq_2 (by decide +kernel), rfl⟩
theorem iX2_kinds_95 : xl_Ca mX2_kinds 95 mX0_get 98 := ⟨67, zd zq_254 (by decide +kernel), rfl, lX2_67, Nat.le_of_ble_eq_true rfl, Nat.le_of_ble_eq_true rfl⟩
theorem iX2_kinds_98 : xl_D mX2_kinds 98 (.iload_n 1) 1 99 := ⟨zd zq_3 (by decide +kernel), rfl⟩
theorem iX2_kinds_99 : xl_J mX2_kinds 99 (fun o => .if_icmp .ne o) 102 117 := ⟨18, zd zq_314 (by decide +kernel), rfl, rfl⟩
theorem iX2_kinds_102 : xl_D mX2_kinds 102 (.aload_n 0) 1 103 := ⟨zd zq_0 (by decide +kernel), rfl⟩
theorem iX2_kinds_103 : xl_G mX2_kinds 103 2 0 106 := ⟨10, zd zq_248 (by decide +kernel), rfl, fX2_10⟩
theorem iX2_kinds_106 : xl_D mX2_kinds 106 (.iload 4) 2 108 := ⟨zd zq_51 (by decide +kernel), rfl⟩
theorem iX2_kinds_108 : xl_Ca mX2_kinds 108 mX1_hasResult 111 := ⟨138, zd zq_172 (by decide +kernel), rfl, lX2_138, Nat.le_of_ble_eq_true rfl, Nat.le_of_ble_eq_true rfl⟩
theorem iX2_kinds_111 : xl_J mX2_kinds 111 (fun o => .ifCond .eq o) 114 117 := ⟨6, zd zq_152 (by decide +kernel), rfl, rfl⟩
theorem iX2_kinds_114 : xl_D mX2_kinds 114 (.iinc 3 1) 3 117 := ⟨zd zq_153 (by decide +kernel), rfl⟩
theorem iX2_kinds_117 : xl_D mX2_kinds 117 (.iinc 4 1) 3 120 := ⟨zd zq_54 (by decide +kernel), rfl⟩
theorem iX2_kinds_120 : xl_J mX2_kinds 120 (fun o => .goto o) 123 70 := ⟨-50, zd zq_315 (by decide +kernel), rfl, rfl⟩
theorem iX2_kinds_123 : xl_D mX2_kinds 123 (.aload_n 0) 1 124 := ⟨zd zq_0 (by decide +kernel), rfl⟩
theorem iX2_kinds_124 : xl_D mX2_kinds 124 (.iload_n 3) 1 125 := ⟨zd zq_25 (by decide +kernel), rfl⟩
theorem iX2_kinds_125 : xl_D mX2_kinds 125 (.i2l) 1 126 := ⟨zd zq_266 (by decide +kernel), rfl⟩
theorem iX2_kinds_126 : xl_Ca mX2_kinds 126 mX2_tellMore 129 := ⟨183, zd zq_312 (by decide +kernel), rfl, lX2_183, Nat.le_of_ble_eq_true rfl, Nat.le_of_ble_eq_true rfl⟩
theorem iX2_kinds_129 : xl_D mX2_kinds 129 (.iload_n 2) 1 130 := ⟨zd zq_6 (by decide +kernel), rfl⟩
theorem iX2_kinds_130 : xl_D mX2_kinds 130 (.ireturn) 1 131 := ⟨zd zq_17 (by decide +kernel), rfl⟩
theorem iX2_slow_0 : xl_D mX2_slow 0 (.iconst (-1)) 1 1 := ⟨zd zq_104 (by decide +kernel), rfl⟩
theorem iX2_slow_1 : xl_D mX2_slow 1 (.istore_n 1) 1 2 := ⟨zd zq_194 (by decide +kernel), rfl⟩
theorem iX2_slow_2 : xl_D mX2_slow 2 (.iconst 0) 1 3 := ⟨zd zq_2 (by decide +kernel), rfl⟩
theorem iX2_slow_3 : xl_D mX2_slow 3 (.istore_n 2) 1 4 := ⟨zd zq_41 (by decide +kernel), rfl⟩
theorem iX2_slow_4 : xl_D mX2_slow 4 (.iconst 0) 1 5 := ⟨zd zq_2 (by decide +kernel), rfl⟩
theorem iX2_slow_5 : xl_D mX2_slow 5 (.istore_n 3) 1 6 := ⟨zd zq_131 (by decide +kernel), rfl⟩
theorem iX2_slow_6 : xl_D mX2_slow 6 (.iload_n 3) 1 7 := ⟨zd zq_25 (by decide +kernel), rfl⟩
theorem iX2_slow_7 : xl_D mX2_slow 7 (.aload_n 0) 1 8 := ⟨zd zq_0 (by decide +kernel), rfl⟩
theorem iX2_slow_8 : xl_G mX2_slow 8 2 0 11 := ⟨10, zd zq_248 (by decide +kernel), rfl, fX2_10⟩
theorem iX2_slow_11 : xl_G mX2_slow 11 1 10 14 := ⟨63, zd zq_253 (by decide +kernel), rfl, fX2_63⟩
theorem iX2_slow_14 : xl_G mX2_slow 14 0 3 17 := ⟨76, zd zq_258 (by decide +kernel), rfl, fX2_76⟩
theorem iX2_slow_17 : xl_J mX2_slow 17 (fun o => .if_icmp .ge o) 20 55 := ⟨38, zd zq_316 (by decide +kernel), rfl, rfl⟩
theorem iX2_slow_20 : xl_D mX2_slow 20 (.aload_n 0) 1 21 := ⟨zd zq_0 (by decide +kernel), rfl⟩
theorem iX2_slow_21 : xl_G mX2_slow 21 2 0 24 := ⟨10, zd zq_248 (by decide +kernel), rfl, fX2_10⟩
theorem iX2_slow_24 : xl_D mX2_slow 24 (.iload_n 3) 1 25 := ⟨zd zq_25 (by decide +kernel), rfl⟩
theorem iX2_slow_25 : xl_Ca mX2_slow 25 mX1_leastMark 28 := ⟨186, zd zq_317 (by decide +kernel), rfl, lX2_186, Nat.le_of_ble_eq_true rfl, Nat.le_of_ble_eq_true rfl⟩
theorem iX2_slow_28 : xl_D mX2_slow 28 (.aload_n 0) 1 29 := ⟨zd zq_0 (by decide +kernel), rfl⟩
theorem iX2_slow_29 : xl_G mX2_slow 29 2 0 32 := ⟨10, zd zq_248 (by decide +kernel), rfl, fX2_10⟩
theorem iX2_slow_32 : xl_G mX2_slow 32 1 3 35 := ⟨93, zd zq_267 (by decide +kernel), rfl, fX2_93⟩
theorem iX2_slow_35 : xl_D mX2_slow 35 (.isub) 1 36 := ⟨zd zq_39 (by decide +kernel), rfl⟩
theorem iX2_slow_36 : xl_D mX2_slow 36 (.istore 4) 2 38 := ⟨zd zq_50 (by decide +kernel), rfl⟩
theorem iX2_slow_38 : xl_D mX2_slow 38 (.iload 4) 2 40 := ⟨zd zq_51 (by decide +kernel), rfl⟩
theorem iX2_slow_40 : xl_D mX2_slow 40 (.iload_n 2) 1 41 := ⟨zd zq_6 (by decide +kernel), rfl⟩
theorem iX2_slow_41 : xl_J mX2_slow 41 (fun o => .if_icmp .le o) 44 49 := ⟨8, zd zq_318 (by decide +kernel), rfl, rfl⟩
theorem iX2_slow_44 : xl_D mX2_slow 44 (.iload 4) 2 46 := ⟨zd zq_51 (by decide +kernel), rfl⟩
theorem iX2_slow_46 : xl_D mX2_slow 46 (.istore_n 2) 1 47 := ⟨zd zq_41 (by decide +kernel), rfl⟩
theorem iX2_slow_47 : xl_D mX2_slow 47 (.iload_n 3) 1 48 := ⟨zd zq_25 (by decide +kernel), rfl⟩
theorem iX2_slow_48 : xl_D mX2_slow 48 (.istore_n 1) 1 49 := ⟨zd zq_194 (by decide +kernel), rfl⟩
theorem iX2_slow_49 : xl_D mX2_slow 49 (.iinc 3 1) 3 52 := ⟨zd zq_153 (by decide +kernel), rfl⟩
theorem iX2_slow_52 : xl_J mX2_slow 52 (fun o => .goto o) 55 6 := ⟨-46, zd zq_319 (by decide +kernel), rfl, rfl⟩
theorem iX2_slow_55 : xl_D mX2_slow 55 (.iload_n 1) 1 56 := ⟨zd zq_3 (by decide +kernel), rfl⟩
theorem iX2_slow_56 : xl_J mX2_slow 56 (fun o => .ifCond .ge o) 59 62 := ⟨6, zd zq_263 (by decide +kernel), rfl, rfl⟩
theorem iX2_slow_59 : xl_D mX2_slow 59 (.bipush (-2)) 2 61 := ⟨zd zq_256 (by decide +kernel), rfl⟩
theorem iX2_slow_61 : xl_D mX2_slow 61 (.ireturn) 1 62 := ⟨zd zq_17 (by decide +kernel), rfl⟩
theorem iX2_slow_62 : xl_D mX2_slow 62 (.aload_n 0) 1 63 := ⟨zd zq_0 (by decide +kernel), rfl⟩
theorem iX2_slow_63 : xl_D mX2_slow 63 (.iload_n 2) 1 64 := ⟨zd zq_6 (by decide +kernel), rfl⟩
theorem iX2_slow_64 : xl_D mX2_slow 64 (.i2l) 1 65 := ⟨zd zq_266 (by decide +kernel), rfl⟩
theorem iX2_slow_65 : xl_D mX2_slow 65 (.aload_n 0) 1 66 := ⟨zd zq_0 (by decide +kernel), rfl⟩
theorem iX2_slow_66 : xl_G mX2_slow 66 2 0 69 := ⟨10, zd zq_248 (by decide +kernel), rfl, fX2_10⟩
theorem iX2_slow_69 : xl_D mX2_slow 69 (.aload_n 0) 1 70 := ⟨zd zq_0 (by decide +kernel), rfl⟩
theorem iX2_slow_70 : xl_G mX2_slow 70 2 0 73 := ⟨10, zd zq_248 (by decide +kernel), rfl, fX2_10⟩
theorem iX2_slow_73 : xl_G mX2_slow 73 1 3 76 := ⟨93, zd zq_267 (by decide +kernel), rfl, fX2_93⟩
theorem iX2_slow_76 : xl_D mX2_slow 76 (.iload_n 2) 1 77 := ⟨zd zq_6 (by decide +kernel), rfl⟩
theorem iX2_slow_77 : xl_D mX2_slow 77 (.iadd) 1 78 := ⟨zd zq_19 (by decide +kernel), rfl⟩
theorem iX2_slow_78 : xl_Ca mX2_slow 78 mX1_ripening 81 := ⟨189, zd zq_320 (by decide +kernel), rfl, lX2_189, Nat.le_of_ble_eq_true rfl, Nat.le_of_ble_eq_true rfl⟩
theorem iX2_slow_81 : xl_D mX2_slow 81 (.i2l) 1 82 := ⟨zd zq_266 (by decide +kernel), rfl⟩
theorem iX2_slow_82 : xl_Ca mX2_slow 82 mX2_tellTwo 85 := ⟨96, zd zq_268 (by decide +kernel), rfl, lX2_96, Nat.le_of_ble_eq_true rfl, Nat.le_of_ble_eq_true rfl⟩
theorem iX2_slow_85 : xl_D mX2_slow 85 (.iload_n 1) 1 86 := ⟨zd zq_3 (by decide +kernel), rfl⟩
theorem iX2_slow_86 : xl_D mX2_slow 86 (.ireturn) 1 87 := ⟨zd zq_17 (by decide +kernel), rfl⟩
theorem iX2_span_0 : xl_D mX2_span 0 (.iload_n 1) 1 1 := ⟨zd zq_3 (by decide +kernel), rfl⟩
theorem iX2_span_1 : xl_Cs mX2_span 1 mX2_isTime 4 := ⟨148, zd zq_293 (by decide +kernel), rfl, lX2_148, Nat.le_of_ble_eq_true rfl, Nat.le_of_ble_eq_true rfl⟩
theorem iX2_span_4 : xl_J mX2_span 4 (fun o => .ifCond .eq o) 7 19 := ⟨15, zd zq_321 (by decide +kernel), rfl, rfl⟩
theorem iX2_span_7 : xl_D mX2_span 7 (.iload_n 2) 1 8 := ⟨zd zq_6 (by decide +kernel), rfl⟩
theorem iX2_span_8 : xl_Cs mX2_span 8 mX2_isTime 11 := ⟨148, zd zq_293 (by decide +kernel), rfl, lX2_148, Nat.le_of_ble_eq_true rfl, Nat.le_of_ble_eq_true rfl⟩
theorem iX2_span_11 : xl_J mX2_span 11 (fun o => .ifCond .eq o) 14 19 := ⟨8, zd zq_147 (by decide +kernel), rfl, rfl⟩
theorem iX2_span_14 : xl_D mX2_span 14 (.iload_n 2) 1 15 := ⟨zd zq_6 (by decide +kernel), rfl⟩
theorem iX2_span_15 : xl_D mX2_span 15 (.iload_n 1) 1 16 := ⟨zd zq_3 (by decide +kernel), rfl⟩
theorem iX2_span_16 : xl_J mX2_span 16 (fun o => .if_icmp .ge o) 19 21 := ⟨5, zd zq_144 (by decide +kernel), rfl, rfl⟩
theorem iX2_span_19 : xl_D mX2_span 19 (.iconst (-1)) 1 20 := ⟨zd zq_104 (by decide +kernel), rfl⟩
theorem iX2_span_20 : xl_D mX2_span 20 (.ireturn) 1 21 := ⟨zd zq_17 (by decide +kernel), rfl⟩
theorem iX2_span_21 : xl_D mX2_span 21 (.iconst 0) 1 22 := ⟨zd zq_2 (by decide +kernel), rfl⟩
theorem iX2_span_22 : xl_D mX2_span 22 (.istore_n 3) 1 23 := ⟨zd zq_131 (by decide +kernel), rfl⟩
theorem iX2_span_23 : xl_D mX2_span 23 (.iconst 0) 1 24 := ⟨zd zq_2 (by decide +kernel), rfl⟩
theorem iX2_span_24 : xl_D mX2_span 24 (.istore 4) 2 26 := ⟨zd zq_50 (by decide +kernel), rfl⟩
theorem iX2_span_26 : xl_D mX2_span 26 (.iconst (-1)) 1 27 := ⟨zd zq_104 (by decide +kernel), rfl⟩
theorem iX2_span_27 : xl_D mX2_span 27 (.istore 5) 2 29 := ⟨zd zq_91 (by decide +kernel), rfl⟩
theorem iX2_span_29 : xl_D mX2_span 29 (.iconst 0) 1 30 := ⟨zd zq_2 (by decide +kernel), rfl⟩
theorem iX2_span_30 : xl_D mX2_span 30 (.istore 6) 2 32 := ⟨zd zq_119 (by decide +kernel), rfl⟩
theorem iX2_span_32 : xl_D mX2_span 32 (.iconst 0) 1 33 := ⟨zd zq_2 (by decide +kernel), rfl⟩
theorem iX2_span_33 : xl_D mX2_span 33 (.istore 7) 2 35 := ⟨zd zq_122 (by decide +kernel), rfl⟩
theorem iX2_span_35 : xl_D mX2_span 35 (.iload 7) 2 37 := ⟨zd zq_124 (by decide +kernel), rfl⟩
theorem iX2_span_37 : xl_D mX2_span 37 (.bipush 6) 2 39 := ⟨zd zq_71 (by decide +kernel), rfl⟩
theorem iX2_span_39 : xl_J mX2_span 39 (fun o => .if_icmp .ge o) 42 157 := ⟨118, zd zq_322 (by decide +kernel), rfl, rfl⟩
theorem iX2_span_42 : xl_D mX2_span 42 (.iconst 0) 1 43 := ⟨zd zq_2 (by decide +kernel), rfl⟩
theorem iX2_span_43 : xl_D mX2_span 43 (.istore 8) 2 45 := ⟨zd zq_323 (by decide +kernel), rfl⟩
theorem iX2_span_45 : xl_D mX2_span 45 (.iconst 0) 1 46 := ⟨zd zq_2 (by decide +kernel), rfl⟩
theorem iX2_span_46 : xl_D mX2_span 46 (.istore 9) 2 48 := ⟨zd zq_324 (by decide +kernel), rfl⟩
theorem iX2_span_48 : xl_D mX2_span 48 (.iload 9) 2 50 := ⟨zd zq_325 (by decide +kernel), rfl⟩
theorem iX2_span_50 : xl_D mX2_span 50 (.aload_n 0) 1 51 := ⟨zd zq_0 (by decide +kernel), rfl⟩
theorem iX2_span_51 : xl_G mX2_span 51 2 0 54 := ⟨10, zd zq_248 (by decide +kernel), rfl, fX2_10⟩
theorem iX2_span_54 : xl_G mX2_span 54 1 14 57 := ⟨73, zd zq_257 (by decide +kernel), rfl, fX2_73⟩
theorem iX2_span_57 : xl_G mX2_span 57 0 3 60 := ⟨76, zd zq_258 (by decide +kernel), rfl, fX2_76⟩
theorem iX2_span_60 : xl_J mX2_span 60 (fun o => .if_icmp .ge o) 63 129 := ⟨69, zd zq_326 (by decide +kernel), rfl, rfl⟩
theorem iX2_span_63 : xl_D mX2_span 63 (.aload_n 0) 1 64 := ⟨zd zq_0 (by decide +kernel), rfl⟩
theorem iX2_span_64 : xl_G mX2_span 64 2 0 67 := ⟨10, zd zq_248 (by decide +kernel), rfl, fX2_10⟩
theorem iX2_span_67 : xl_G mX2_span 67 1 14 70 := ⟨73, zd zq_257 (by decide +kernel), rfl, fX2_73⟩
theorem iX2_span_70 : xl_D mX2_span 70 (.iload 9) 2 72 := ⟨zd zq_325 (by decide +kernel), rfl⟩
theorem iX2_span_72 : xl_D mX2_span 72 (.iconst 2) 1 73 := ⟨zd zq_127 (by decide +kernel), rfl⟩
theorem iX2_span_73 : xl_Ca mX2_span 73 mX0_get 76 := ⟨67, zd zq_254 (by decide +kernel), rfl, lX2_67, Nat.le_of_ble_eq_true rfl, Nat.le_of_ble_eq_true rfl⟩
theorem iX2_span_76 : xl_D mX2_span 76 (.istore 10) 2 78 := ⟨zd zq_327 (by decide +kernel), rfl⟩
theorem iX2_span_78 : xl_D mX2_span 78 (.aload_n 0) 1 79 := ⟨zd zq_0 (by decide +kernel), rfl⟩
theorem iX2_span_79 : xl_G mX2_span 79 2 0 82 := ⟨10, zd zq_248 (by decide +kernel), rfl, fX2_10⟩
theorem iX2_span_82 : xl_D mX2_span 82 (.iload 9) 2 84 := ⟨zd zq_325 (by decide +kernel), rfl⟩
theorem iX2_span_84 : xl_D mX2_span 84 (.iload 7) 2 86 := ⟨zd zq_124 (by decide +kernel), rfl⟩
theorem iX2_span_86 : xl_Ca mX2_span 86 mX1_isTakenOf 89 := ⟨192, zd zq_328 (by decide +kernel), rfl, lX2_192, Nat.le_of_ble_eq_true rfl, Nat.le_of_ble_eq_true rfl⟩
theorem iX2_span_89 : xl_J mX2_span 89 (fun o => .ifCond .eq o) 92 123 := ⟨34, zd zq_329 (by decide +kernel), rfl, rfl⟩
theorem iX2_span_92 : xl_D mX2_span 92 (.iload 10) 2 94 := ⟨zd zq_330 (by decide +kernel), rfl⟩
theorem iX2_span_94 : xl_D mX2_span 94 (.iload_n 1) 1 95 := ⟨zd zq_3 (by decide +kernel), rfl⟩
theorem iX2_span_95 : xl_J mX2_span 95 (fun o => .if_icmp .lt o) 98 123 := ⟨28, zd zq_331 (by decide +kernel), rfl, rfl⟩
theorem iX2_span_98 : xl_D mX2_span 98 (.iload 10) 2 100 := ⟨zd zq_330 (by decide +kernel), rfl⟩
theorem iX2_span_100 : xl_D mX2_span 100 (.iload_n 2) 1 101 := ⟨zd zq_6 (by decide +kernel), rfl⟩
theorem iX2_span_101 : xl_J mX2_span 101 (fun o => .if_icmp .gt o) 104 123 := ⟨22, zd zq_332 (by decide +kernel), rfl, rfl⟩
theorem iX2_span_104 : xl_D mX2_span 104 (.iinc 8 1) 3 107 := ⟨zd zq_333 (by decide +kernel), rfl⟩
theorem iX2_span_107 : xl_D mX2_span 107 (.iload_n 3) 1 108 := ⟨zd zq_25 (by decide +kernel), rfl⟩
theorem iX2_span_108 : xl_D mX2_span 108 (.aload_n 0) 1 109 := ⟨zd zq_0 (by decide +kernel), rfl⟩
theorem iX2_span_109 : xl_G mX2_span 109 2 0 112 := ⟨10, zd zq_248 (by decide +kernel), rfl, fX2_10⟩
theorem iX2_span_112 : xl_G mX2_span 112 1 14 115 := ⟨73, zd zq_257 (by decide +kernel), rfl, fX2_73⟩
theorem iX2_span_115 : xl_D mX2_span 115 (.iload 9) 2 117 := ⟨zd zq_325 (by decide +kernel), rfl⟩
theorem iX2_span_117 : xl_D mX2_span 117 (.iconst 4) 1 118 := ⟨zd zq_63 (by decide +kernel), rfl⟩
theorem iX2_span_118 : xl_Ca mX2_span 118 mX0_get 121 := ⟨67, zd zq_254 (by decide +kernel), rfl, lX2_67, Nat.le_of_ble_eq_true rfl, Nat.le_of_ble_eq_true rfl⟩
theorem iX2_span_121 : xl_D mX2_span 121 (.iadd) 1 122 := ⟨zd zq_19 (by decide +kernel), rfl⟩
theorem iX2_span_122 : xl_D mX2_span 122 (.istore_n 3) 1 123 := ⟨zd zq_131 (by decide +kernel), rfl⟩
theorem iX2_span_123 : xl_D mX2_span 123 (.iinc 9 1) 3 126 := ⟨zd zq_334 (by decide +kernel), rfl⟩
theorem iX2_span_126 : xl_J mX2_span 126 (fun o => .goto o) 129 48 := ⟨-78, zd zq_335 (by decide +kernel), rfl, rfl⟩
theorem iX2_span_129 : xl_D mX2_span 129 (.iload 4) 2 131 := ⟨zd zq_51 (by decide +kernel), rfl⟩
theorem iX2_span_131 : xl_D mX2_span 131 (.iload 8) 2 133 := ⟨zd zq_336 (by decide +kernel), rfl⟩
theorem iX2_span_133 : xl_D mX2_span 133 (.iadd) 1 134 := ⟨zd zq_19 (by decide +kernel), rfl⟩
theorem iX2_span_134 : xl_D mX2_span 134 (.istore 4) 2 136 := ⟨zd zq_50 (by decide +kernel), rfl⟩
theorem iX2_span_136 : xl_D mX2_span 136 (.iload 8) 2 138 := ⟨zd zq_336 (by decide +kernel), rfl⟩
theorem iX2_span_138 : xl_D mX2_span 138 (.iload 6) 2 140 := ⟨zd zq_125 (by decide +kernel), rfl⟩
theorem iX2_span_140 : xl_J mX2_span 140 (fun o => .if_icmp .le o) 143 151 := ⟨11, zd zq_281 (by decide +kernel), rfl, rfl⟩
theorem iX2_span_143 : xl_D mX2_span 143 (.iload 8) 2 145 := ⟨zd zq_336 (by decide +kernel), rfl⟩
theorem iX2_span_145 : xl_D mX2_span 145 (.istore 6) 2 147 := ⟨zd zq_119 (by decide +kernel), rfl⟩
theorem iX2_span_147 : xl_D mX2_span 147 (.iload 7) 2 149 := ⟨zd zq_124 (by decide +kernel), rfl⟩
theorem iX2_span_149 : xl_D mX2_span 149 (.istore 5) 2 151 := ⟨zd zq_91 (by decide +kernel), rfl⟩
theorem iX2_span_151 : xl_D mX2_span 151 (.iinc 7 1) 3 154 := ⟨zd zq_177 (by decide +kernel), rfl⟩
theorem iX2_span_154 : xl_J mX2_span 154 (fun o => .goto o) 157 35 := ⟨-119, zd zq_337 (by decide +kernel), rfl, rfl⟩
theorem iX2_span_157 : xl_D mX2_span 157 (.aload_n 0) 1 158 := ⟨zd zq_0 (by decide +kernel), rfl⟩
theorem iX2_span_158 : xl_D mX2_span 158 (.iload_n 3) 1 159 := ⟨zd zq_25 (by decide +kernel), rfl⟩
theorem iX2_span_159 : xl_D mX2_span 159 (.i2l) 1 160 := ⟨zd zq_266 (by decide +kernel), rfl⟩
theorem iX2_span_160 : xl_D mX2_span 160 (.iload 5) 2 162 := ⟨zd zq_92 (by decide +kernel), rfl⟩
theorem iX2_span_162 : xl_D mX2_span 162 (.i2l) 1 163 := ⟨zd zq_266 (by decide +kernel), rfl⟩
theorem iX2_span_163 : xl_D mX2_span 163 (.iload 6) 2 165 := ⟨zd zq_125 (by decide +kernel), rfl⟩
theorem iX2_span_165 : xl_D mX2_span 165 (.i2l) 1 166 := ⟨zd zq_266 (by decide +kernel), rfl⟩
theorem iX2_span_166 : xl_Ca mX2_span 166 mX2_tellThree 169 := ⟨170, zd zq_307 (by decide +kernel), rfl, lX2_170, Nat.le_of_ble_eq_true rfl, Nat.le_of_ble_eq_true rfl⟩
theorem iX2_span_169 : xl_D mX2_span 169 (.iload 4) 2 171 := ⟨zd zq_51 (by decide +kernel), rfl⟩
theorem iX2_span_171 : xl_D mX2_span 171 (.ireturn) 1 172 := ⟨zd zq_17 (by decide +kernel), rfl⟩
theorem iX2_taken_0 : xl_D mX2_taken 0 (.aload_n 0) 1 1 := ⟨zd zq_0 (by decide +kernel), rfl⟩
theorem iX2_taken_1 : xl_D mX2_taken 1 (.aload_n 0) 1 2 := ⟨zd zq_0 (by decide +kernel), rfl⟩
theorem iX2_taken_2 : xl_G mX2_taken 2 2 0 5 := ⟨10, zd zq_248 (by decide +kernel), rfl, fX2_10⟩
theorem iX2_taken_5 : xl_G mX2_taken 5 1 7 8 := ⟨195, zd zq_338 (by decide +kernel), rfl, fX2_195⟩
theorem iX2_taken_8 : xl_D mX2_taken 8 (.i2l) 1 9 := ⟨zd zq_266 (by decide +kernel), rfl⟩
theorem iX2_taken_9 : xl_D mX2_taken 9 (.aload_n 0) 1 10 := ⟨zd zq_0 (by decide +kernel), rfl⟩
theorem iX2_taken_10 : xl_G mX2_taken 10 2 0 13 := ⟨10, zd zq_248 (by decide +kernel), rfl, fX2_10⟩
theorem iX2_taken_13 : xl_G mX2_taken 13 1 8 16 := ⟨198, zd zq_339 (by decide +kernel), rfl, fX2_198⟩
theorem iX2_taken_16 : xl_D mX2_taken 16 (.i2l) 1 17 := ⟨zd zq_266 (by decide +kernel), rfl⟩
theorem iX2_taken_17 : xl_D mX2_taken 17 (.aload_n 0) 1 18 := ⟨zd zq_0 (by decide +kernel), rfl⟩
theorem iX2_taken_18 : xl_G mX2_taken 18 2 0 21 := ⟨10, zd zq_248 (by decide +kernel), rfl, fX2_10⟩
theorem iX2_taken_21 : xl_G mX2_taken 21 1 9 24 := ⟨201, zd zq_340 (by decide +kernel), rfl, fX2_201⟩
theorem iX2_taken_24 : xl_D mX2_taken 24 (.i2l) 1 25 := ⟨zd zq_266 (by decide +kernel), rfl⟩
theorem iX2_taken_25 : xl_Ca mX2_taken 25 mX2_tellThree 28 := ⟨170, zd zq_307 (by decide +kernel), rfl, lX2_170, Nat.le_of_ble_eq_true rfl, Nat.le_of_ble_eq_true rfl⟩
theorem iX2_taken_28 : xl_D mX2_taken 28 (.aload_n 0) 1 29 := ⟨zd zq_0 (by decide +kernel), rfl⟩
theorem iX2_taken_29 : xl_G mX2_taken 29 2 0 32 := ⟨10, zd zq_248 (by decide +kernel), rfl, fX2_10⟩
theorem iX2_taken_32 : xl_G mX2_taken 32 1 6 35 := ⟨204, zd zq_341 (by decide +kernel), rfl, fX2_204⟩
theorem iX2_taken_35 : xl_D mX2_taken 35 (.ireturn) 1 36 := ⟨zd zq_17 (by decide +kernel), rfl⟩
theorem iX2_holds_0 : xl_D mX2_holds 0 (.aload_n 0) 1 1 := ⟨zd zq_0 (by decide +kernel), rfl⟩
theorem iX2_holds_1 : xl_G mX2_holds 1 2 0 4 := ⟨10, zd zq_248 (by decide +kernel), rfl, fX2_10⟩
theorem iX2_holds_4 : xl_D mX2_holds 4 (.iconst (-1)) 1 5 := ⟨zd zq_104 (by decide +kernel), rfl⟩
theorem iX2_holds_5 : xl_Ca mX2_holds 5 mX1_leastMark 8 := ⟨186, zd zq_317 (by decide +kernel), rfl, lX2_186, Nat.le_of_ble_eq_true rfl, Nat.le_of_ble_eq_true rfl⟩
theorem iX2_holds_8 : xl_D mX2_holds 8 (.istore_n 1) 1 9 := ⟨zd zq_194 (by decide +kernel), rfl⟩
theorem iX2_holds_9 : xl_D mX2_holds 9 (.iconst 0) 1 10 := ⟨zd zq_2 (by decide +kernel), rfl⟩
theorem iX2_holds_10 : xl_D mX2_holds 10 (.istore_n 2) 1 11 := ⟨zd zq_41 (by decide +kernel), rfl⟩
theorem iX2_holds_11 : xl_D mX2_holds 11 (.iconst 0) 1 12 := ⟨zd zq_2 (by decide +kernel), rfl⟩
theorem iX2_holds_12 : xl_D mX2_holds 12 (.istore_n 3) 1 13 := ⟨zd zq_131 (by decide +kernel), rfl⟩
theorem iX2_holds_13 : xl_D mX2_holds 13 (.iconst 0) 1 14 := ⟨zd zq_2 (by decide +kernel), rfl⟩
theorem iX2_holds_14 : xl_D mX2_holds 14 (.istore 4) 2 16 := ⟨zd zq_50 (by decide +kernel), rfl⟩
theorem iX2_holds_16 : xl_D mX2_holds 16 (.iload 4) 2 18 := ⟨zd zq_51 (by decide +kernel), rfl⟩
theorem iX2_holds_18 : xl_D mX2_holds 18 (.aload_n 0) 1 19 := ⟨zd zq_0 (by decide +kernel), rfl⟩
theorem iX2_holds_19 : xl_G mX2_holds 19 2 0 22 := ⟨10, zd zq_248 (by decide +kernel), rfl, fX2_10⟩
theorem iX2_holds_22 : xl_G mX2_holds 22 1 10 25 := ⟨63, zd zq_253 (by decide +kernel), rfl, fX2_63⟩
theorem iX2_holds_25 : xl_G mX2_holds 25 0 3 28 := ⟨76, zd zq_258 (by decide +kernel), rfl, fX2_76⟩
theorem iX2_holds_28 : xl_J mX2_holds 28 (fun o => .if_icmp .ge o) 31 88 := ⟨60, zd zq_342 (by decide +kernel), rfl, rfl⟩
theorem iX2_holds_31 : xl_D mX2_holds 31 (.aload_n 0) 1 32 := ⟨zd zq_0 (by decide +kernel), rfl⟩
theorem iX2_holds_32 : xl_G mX2_holds 32 2 0 35 := ⟨10, zd zq_248 (by decide +kernel), rfl, fX2_10⟩
theorem iX2_holds_35 : xl_G mX2_holds 35 1 10 38 := ⟨63, zd zq_253 (by decide +kernel), rfl, fX2_63⟩
theorem iX2_holds_38 : xl_D mX2_holds 38 (.iload 4) 2 40 := ⟨zd zq_51 (by decide +kernel), rfl⟩
theorem iX2_holds_40 : xl_D mX2_holds 40 (.iconst 0) 1 41 := ⟨zd zq_2 (by decide +kernel), rfl⟩
theorem iX2_holds_41 : xl_Ca mX2_holds 41 mX0_get 44 := ⟨67, zd zq_254 (by decide +kernel), rfl, lX2_67, Nat.le_of_ble_eq_true rfl, Nat.le_of_ble_eq_true rfl⟩
theorem iX2_holds_44 : xl_D mX2_holds 44 (.istore 5) 2 46 := ⟨zd zq_91 (by decide +kernel), rfl⟩
theorem iX2_holds_46 : xl_D mX2_holds 46 (.iload_n 3) 1 47 := ⟨zd zq_25 (by decide +kernel), rfl⟩
theorem iX2_holds_47 : xl_D mX2_holds 47 (.iload 5) 2 49 := ⟨zd zq_92 (by decide +kernel), rfl⟩
theorem iX2_holds_49 : xl_Cm mX2_holds 49 Lib.Math.max.name Lib.Math.max.code 52 := ⟨207, zd zq_343 (by decide +kernel), rfl, lX2_207, xl_stmax, xl_iMath, xl_comax, Nat.le_of_ble_eq_true rfl, Nat.le_of_ble_eq_true rfl⟩
theorem iX2_holds_52 : xl_D mX2_holds 52 (.istore_n 3) 1 53 := ⟨zd zq_131 (by decide +kernel), rfl⟩
theorem iX2_holds_53 : xl_D mX2_holds 53 (.aload_n 0) 1 54 := ⟨zd zq_0 (by decide +kernel), rfl⟩
theorem iX2_holds_54 : xl_G mX2_holds 54 2 0 57 := ⟨10, zd zq_248 (by decide +kernel), rfl, fX2_10⟩
theorem iX2_holds_57 : xl_G mX2_holds 57 1 10 60 := ⟨63, zd zq_253 (by decide +kernel), rfl, fX2_63⟩
theorem iX2_holds_60 : xl_D mX2_holds 60 (.iload 4) 2 62 := ⟨zd zq_51 (by decide +kernel), rfl⟩
theorem iX2_holds_62 : xl_D mX2_holds 62 (.iconst 2) 1 63 := ⟨zd zq_127 (by decide +kernel), rfl⟩
theorem iX2_holds_63 : xl_Ca mX2_holds 63 mX0_get 66 := ⟨67, zd zq_254 (by decide +kernel), rfl, lX2_67, Nat.le_of_ble_eq_true rfl, Nat.le_of_ble_eq_true rfl⟩
theorem iX2_holds_66 : xl_J mX2_holds 66 (fun o => .ifCond .ne o) 69 82 := ⟨16, zd zq_201 (by decide +kernel), rfl, rfl⟩
theorem iX2_holds_69 : xl_D mX2_holds 69 (.iload 5) 2 71 := ⟨zd zq_92 (by decide +kernel), rfl⟩
theorem iX2_holds_71 : xl_D mX2_holds 71 (.iload_n 1) 1 72 := ⟨zd zq_3 (by decide +kernel), rfl⟩
theorem iX2_holds_72 : xl_J mX2_holds 72 (fun o => .if_icmp .ne o) 75 82 := ⟨10, zd zq_344 (by decide +kernel), rfl, rfl⟩
theorem iX2_holds_75 : xl_D mX2_holds 75 (.iload_n 2) 1 76 := ⟨zd zq_6 (by decide +kernel), rfl⟩
theorem iX2_holds_76 : xl_D mX2_holds 76 (.iconst 1) 1 77 := ⟨zd zq_36 (by decide +kernel), rfl⟩
theorem iX2_holds_77 : xl_D mX2_holds 77 (.iload 4) 2 79 := ⟨zd zq_51 (by decide +kernel), rfl⟩
theorem iX2_holds_79 : xl_D mX2_holds 79 (.ishl) 1 80 := ⟨zd zq_345 (by decide +kernel), rfl⟩
theorem iX2_holds_80 : xl_D mX2_holds 80 (.ior) 1 81 := ⟨zd zq_346 (by decide +kernel), rfl⟩
theorem iX2_holds_81 : xl_D mX2_holds 81 (.istore_n 2) 1 82 := ⟨zd zq_41 (by decide +kernel), rfl⟩
theorem iX2_holds_82 : xl_D mX2_holds 82 (.iinc 4 1) 3 85 := ⟨zd zq_54 (by decide +kernel), rfl⟩
theorem iX2_holds_85 : xl_J mX2_holds 85 (fun o => .goto o) 88 16 := ⟨-69, zd zq_347 (by decide +kernel), rfl, rfl⟩
theorem iX2_holds_88 : xl_D mX2_holds 88 (.aload_n 0) 1 89 := ⟨zd zq_0 (by decide +kernel), rfl⟩
theorem iX2_holds_89 : xl_D mX2_holds 89 (.iload_n 1) 1 90 := ⟨zd zq_3 (by decide +kernel), rfl⟩
theorem iX2_holds_90 : xl_D mX2_holds 90 (.i2l) 1 91 := ⟨zd zq_266 (by decide +kernel), rfl⟩
theorem iX2_holds_91 : xl_D mX2_holds 91 (.iload_n 3) 1 92 := ⟨zd zq_25 (by decide +kernel), rfl⟩
theorem iX2_holds_92 : xl_D mX2_holds 92 (.aload_n 0) 1 93 := ⟨zd zq_0 (by decide +kernel), rfl⟩
theorem iX2_holds_93 : xl_G mX2_holds 93 2 0 96 := ⟨10, zd zq_248 (by decide +kernel), rfl, fX2_10⟩
theorem iX2_holds_96 : xl_G mX2_holds 96 1 3 99 := ⟨93, zd zq_267 (by decide +kernel), rfl, fX2_93⟩
theorem iX2_holds_99 : xl_D mX2_holds 99 (.isub) 1 100 := ⟨zd zq_39 (by decide +kernel), rfl⟩
theorem iX2_holds_100 : xl_D mX2_holds 100 (.i2l) 1 101 := ⟨zd zq_266 (by decide +kernel), rfl⟩
theorem iX2_holds_101 : xl_Ca mX2_holds 101 mX2_tellTwo 104 := ⟨96, zd zq_268 (by decide +kernel), rfl, lX2_96, Nat.le_of_ble_eq_true rfl, Nat.le_of_ble_eq_true rfl⟩
theorem iX2_holds_104 : xl_D mX2_holds 104 (.iload_n 2) 1 105 := ⟨zd zq_6 (by decide +kernel), rfl⟩
theorem iX2_holds_105 : xl_D mX2_holds 105 (.ireturn) 1 106 := ⟨zd zq_17 (by decide +kernel), rfl⟩
theorem iX2_next_0 : xl_D mX2_next 0 (.iconst (-1)) 1 1 := ⟨zd zq_104 (by decide +kernel), rfl⟩
theorem iX2_next_1 : xl_D mX2_next 1 (.istore_n 1) 1 2 := ⟨zd zq_194 (by decide +kernel), rfl⟩
theorem iX2_next_2 : xl_D mX2_next 2 (.iconst 0) 1 3 := ⟨zd zq_2 (by decide +kernel), rfl⟩
theorem iX2_next_3 : xl_D mX2_next 3 (.istore_n 2) 1 4 := ⟨zd zq_41 (by decide +kernel), rfl⟩
theorem iX2_next_4 : xl_D mX2_next 4 (.iconst 0) 1 5 := ⟨zd zq_2 (by decide +kernel), rfl⟩
theorem iX2_next_5 : xl_D mX2_next 5 (.istore_n 3) 1 6 := ⟨zd zq_131 (by decide +kernel), rfl⟩
theorem iX2_next_6 : xl_D mX2_next 6 (.iload_n 3) 1 7 := ⟨zd zq_25 (by decide +kernel), rfl⟩
theorem iX2_next_7 : xl_D mX2_next 7 (.aload_n 0) 1 8 := ⟨zd zq_0 (by decide +kernel), rfl⟩
theorem iX2_next_8 : xl_G mX2_next 8 2 0 11 := ⟨10, zd zq_248 (by decide +kernel), rfl, fX2_10⟩
theorem iX2_next_11 : xl_G mX2_next 11 1 11 14 := ⟨131, zd zq_287 (by decide +kernel), rfl, fX2_131⟩
theorem iX2_next_14 : xl_G mX2_next 14 0 3 17 := ⟨76, zd zq_258 (by decide +kernel), rfl, fX2_76⟩
theorem iX2_next_17 : xl_J mX2_next 17 (fun o => .if_icmp .ge o) 20 73 := ⟨56, zd zq_155 (by decide +kernel), rfl, rfl⟩
theorem iX2_next_20 : xl_D mX2_next 20 (.aload_n 0) 1 21 := ⟨zd zq_0 (by decide +kernel), rfl⟩
theorem iX2_next_21 : xl_G mX2_next 21 2 0 24 := ⟨10, zd zq_248 (by decide +kernel), rfl, fX2_10⟩
theorem iX2_next_24 : xl_G mX2_next 24 1 11 27 := ⟨131, zd zq_287 (by decide +kernel), rfl, fX2_131⟩
theorem iX2_next_27 : xl_D mX2_next 27 (.iload_n 3) 1 28 := ⟨zd zq_25 (by decide +kernel), rfl⟩
theorem iX2_next_28 : xl_D mX2_next 28 (.iconst 2) 1 29 := ⟨zd zq_127 (by decide +kernel), rfl⟩
theorem iX2_next_29 : xl_Ca mX2_next 29 mX0_get 32 := ⟨67, zd zq_254 (by decide +kernel), rfl, lX2_67, Nat.le_of_ble_eq_true rfl, Nat.le_of_ble_eq_true rfl⟩
theorem iX2_next_32 : xl_D mX2_next 32 (.istore 4) 2 34 := ⟨zd zq_50 (by decide +kernel), rfl⟩
theorem iX2_next_34 : xl_D mX2_next 34 (.aload_n 0) 1 35 := ⟨zd zq_0 (by decide +kernel), rfl⟩
theorem iX2_next_35 : xl_G mX2_next 35 2 0 38 := ⟨10, zd zq_248 (by decide +kernel), rfl, fX2_10⟩
theorem iX2_next_38 : xl_D mX2_next 38 (.iload_n 3) 1 39 := ⟨zd zq_25 (by decide +kernel), rfl⟩
theorem iX2_next_39 : xl_D mX2_next 39 (.aload_n 0) 1 40 := ⟨zd zq_0 (by decide +kernel), rfl⟩
theorem iX2_next_40 : xl_G mX2_next 40 2 0 43 := ⟨10, zd zq_248 (by decide +kernel), rfl, fX2_10⟩
theorem iX2_next_43 : xl_G mX2_next 43 1 3 46 := ⟨93, zd zq_267 (by decide +kernel), rfl, fX2_93⟩
theorem iX2_next_46 : xl_Ca mX2_next 46 mX1_isRipe 49 := ⟨134, zd zq_167 (by decide +kernel), rfl, lX2_134, Nat.le_of_ble_eq_true rfl, Nat.le_of_ble_eq_true rfl⟩
theorem iX2_next_49 : xl_J mX2_next 49 (fun o => .ifCond .ne o) 52 67 := ⟨18, zd zq_348 (by decide +kernel), rfl, rfl⟩
theorem iX2_next_52 : xl_D mX2_next 52 (.iload_n 1) 1 53 := ⟨zd zq_3 (by decide +kernel), rfl⟩
theorem iX2_next_53 : xl_J mX2_next 53 (fun o => .ifCond .lt o) 56 62 := ⟨9, zd zq_289 (by decide +kernel), rfl, rfl⟩
theorem iX2_next_56 : xl_D mX2_next 56 (.iload 4) 2 58 := ⟨zd zq_51 (by decide +kernel), rfl⟩
theorem iX2_next_58 : xl_D mX2_next 58 (.iload_n 2) 1 59 := ⟨zd zq_6 (by decide +kernel), rfl⟩
theorem iX2_next_59 : xl_J mX2_next 59 (fun o => .if_icmp .ge o) 62 67 := ⟨8, zd zq_349 (by decide +kernel), rfl, rfl⟩
theorem iX2_next_62 : xl_D mX2_next 62 (.iload_n 3) 1 63 := ⟨zd zq_25 (by decide +kernel), rfl⟩
theorem iX2_next_63 : xl_D mX2_next 63 (.istore_n 1) 1 64 := ⟨zd zq_194 (by decide +kernel), rfl⟩
theorem iX2_next_64 : xl_D mX2_next 64 (.iload 4) 2 66 := ⟨zd zq_51 (by decide +kernel), rfl⟩
theorem iX2_next_66 : xl_D mX2_next 66 (.istore_n 2) 1 67 := ⟨zd zq_41 (by decide +kernel), rfl⟩
theorem iX2_next_67 : xl_D mX2_next 67 (.iinc 3 1) 3 70 := ⟨zd zq_153 (by decide +kernel), rfl⟩
theorem iX2_next_70 : xl_J mX2_next 70 (fun o => .goto o) 73 6 := ⟨-64, zd zq_188 (by decide +kernel), rfl, rfl⟩
theorem iX2_next_73 : xl_D mX2_next 73 (.iload_n 1) 1 74 := ⟨zd zq_3 (by decide +kernel), rfl⟩
theorem iX2_next_74 : xl_J mX2_next 74 (fun o => .ifCond .ge o) 77 80 := ⟨6, zd zq_263 (by decide +kernel), rfl, rfl⟩
theorem iX2_next_77 : xl_D mX2_next 77 (.bipush (-2)) 2 79 := ⟨zd zq_256 (by decide +kernel), rfl⟩
theorem iX2_next_79 : xl_D mX2_next 79 (.ireturn) 1 80 := ⟨zd zq_17 (by decide +kernel), rfl⟩
theorem iX2_next_80 : xl_D mX2_next 80 (.aload_n 0) 1 81 := ⟨zd zq_0 (by decide +kernel), rfl⟩
theorem iX2_next_81 : xl_D mX2_next 81 (.iload_n 2) 1 82 := ⟨zd zq_6 (by decide +kernel), rfl⟩
theorem iX2_next_82 : xl_D mX2_next 82 (.aload_n 0) 1 83 := ⟨zd zq_0 (by decide +kernel), rfl⟩
theorem iX2_next_83 : xl_G mX2_next 83 2 0 86 := ⟨10, zd zq_248 (by decide +kernel), rfl, fX2_10⟩
theorem iX2_next_86 : xl_G mX2_next 86 1 0 89 := ⟨212, zd zq_350 (by decide +kernel), rfl, fX2_212⟩
theorem iX2_next_89 : xl_D mX2_next 89 (.iadd) 1 90 := ⟨zd zq_19 (by decide +kernel), rfl⟩
theorem iX2_next_90 : xl_D mX2_next 90 (.iconst 1) 1 91 := ⟨zd zq_36 (by decide +kernel), rfl⟩
theorem iX2_next_91 : xl_D mX2_next 91 (.iadd) 1 92 := ⟨zd zq_19 (by decide +kernel), rfl⟩
theorem iX2_next_92 : xl_D mX2_next 92 (.aload_n 0) 1 93 := ⟨zd zq_0 (by decide +kernel), rfl⟩
theorem iX2_next_93 : xl_G mX2_next 93 2 0 96 := ⟨10, zd zq_248 (by decide +kernel), rfl, fX2_10⟩
theorem iX2_next_96 : xl_G mX2_next 96 1 3 99 := ⟨93, zd zq_267 (by decide +kernel), rfl, fX2_93⟩
theorem iX2_next_99 : xl_D mX2_next 99 (.isub) 1 100 := ⟨zd zq_39 (by decide +kernel), rfl⟩
theorem iX2_next_100 : xl_D mX2_next 100 (.i2l) 1 101 := ⟨zd zq_266 (by decide +kernel), rfl⟩
theorem iX2_next_101 : xl_Ca mX2_next 101 mX2_tellOne 104 := ⟨118, zd zq_140 (by decide +kernel), rfl, lX2_118, Nat.le_of_ble_eq_true rfl, Nat.le_of_ble_eq_true rfl⟩
theorem iX2_next_104 : xl_D mX2_next 104 (.iload_n 1) 1 105 := ⟨zd zq_3 (by decide +kernel), rfl⟩
theorem iX2_next_105 : xl_D mX2_next 105 (.ireturn) 1 106 := ⟨zd zq_17 (by decide +kernel), rfl⟩
theorem iX2_ahead_0 : xl_D mX2_ahead 0 (.iload_n 1) 1 1 := ⟨zd zq_3 (by decide +kernel), rfl⟩
theorem iX2_ahead_1 : xl_J mX2_ahead 1 (fun o => .ifCond .lt o) 4 11 := ⟨10, zd zq_213 (by decide +kernel), rfl, rfl⟩
theorem iX2_ahead_4 : xl_D mX2_ahead 4 (.iload_n 1) 1 5 := ⟨zd zq_3 (by decide +kernel), rfl⟩
theorem iX2_ahead_5 : xl_D mX2_ahead 5 (.sipush 20000) 3 8 := ⟨zd zq_299 (by decide +kernel), rfl⟩
theorem iX2_ahead_8 : xl_J mX2_ahead 8 (fun o => .if_icmp .le o) 11 13 := ⟨5, zd zq_235 (by decide +kernel), rfl, rfl⟩
theorem iX2_ahead_11 : xl_D mX2_ahead 11 (.iconst (-1)) 1 12 := ⟨zd zq_104 (by decide +kernel), rfl⟩
theorem iX2_ahead_12 : xl_D mX2_ahead 12 (.ireturn) 1 13 := ⟨zd zq_17 (by decide +kernel), rfl⟩
theorem iX2_ahead_13 : xl_D mX2_ahead 13 (.iload_n 1) 1 14 := ⟨zd zq_3 (by decide +kernel), rfl⟩
theorem iX2_ahead_14 : xl_D mX2_ahead 14 (.aload_n 0) 1 15 := ⟨zd zq_0 (by decide +kernel), rfl⟩
theorem iX2_ahead_15 : xl_G mX2_ahead 15 2 0 18 := ⟨10, zd zq_248 (by decide +kernel), rfl, fX2_10⟩
theorem iX2_ahead_18 : xl_G mX2_ahead 18 1 3 21 := ⟨93, zd zq_267 (by decide +kernel), rfl, fX2_93⟩
theorem iX2_ahead_21 : xl_J mX2_ahead 21 (fun o => .if_icmp .ge o) 24 27 := ⟨6, zd zq_351 (by decide +kernel), rfl, rfl⟩
theorem iX2_ahead_24 : xl_D mX2_ahead 24 (.bipush (-2)) 2 26 := ⟨zd zq_256 (by decide +kernel), rfl⟩
theorem iX2_ahead_26 : xl_D mX2_ahead 26 (.ireturn) 1 27 := ⟨zd zq_17 (by decide +kernel), rfl⟩
theorem iX2_ahead_27 : xl_D mX2_ahead 27 (.iconst 0) 1 28 := ⟨zd zq_2 (by decide +kernel), rfl⟩
theorem iX2_ahead_28 : xl_D mX2_ahead 28 (.istore_n 2) 1 29 := ⟨zd zq_41 (by decide +kernel), rfl⟩
theorem iX2_ahead_29 : xl_D mX2_ahead 29 (.iconst 0) 1 30 := ⟨zd zq_2 (by decide +kernel), rfl⟩
theorem iX2_ahead_30 : xl_D mX2_ahead 30 (.istore_n 3) 1 31 := ⟨zd zq_131 (by decide +kernel), rfl⟩
theorem iX2_ahead_31 : xl_D mX2_ahead 31 (.iload_n 3) 1 32 := ⟨zd zq_25 (by decide +kernel), rfl⟩
theorem iX2_ahead_32 : xl_D mX2_ahead 32 (.aload_n 0) 1 33 := ⟨zd zq_0 (by decide +kernel), rfl⟩
theorem iX2_ahead_33 : xl_G mX2_ahead 33 2 0 36 := ⟨10, zd zq_248 (by decide +kernel), rfl, fX2_10⟩
theorem iX2_ahead_36 : xl_G mX2_ahead 36 1 11 39 := ⟨131, zd zq_287 (by decide +kernel), rfl, fX2_131⟩
theorem iX2_ahead_39 : xl_G mX2_ahead 39 0 3 42 := ⟨76, zd zq_258 (by decide +kernel), rfl, fX2_76⟩
theorem iX2_ahead_42 : xl_J mX2_ahead 42 (fun o => .if_icmp .ge o) 45 66 := ⟨24, zd zq_352 (by decide +kernel), rfl, rfl⟩
theorem iX2_ahead_45 : xl_D mX2_ahead 45 (.aload_n 0) 1 46 := ⟨zd zq_0 (by decide +kernel), rfl⟩
theorem iX2_ahead_46 : xl_G mX2_ahead 46 2 0 49 := ⟨10, zd zq_248 (by decide +kernel), rfl, fX2_10⟩
theorem iX2_ahead_49 : xl_D mX2_ahead 49 (.iload_n 3) 1 50 := ⟨zd zq_25 (by decide +kernel), rfl⟩
theorem iX2_ahead_50 : xl_D mX2_ahead 50 (.iload_n 1) 1 51 := ⟨zd zq_3 (by decide +kernel), rfl⟩
theorem iX2_ahead_51 : xl_Ca mX2_ahead 51 mX1_isOver 54 := ⟨215, zd zq_353 (by decide +kernel), rfl, lX2_215, Nat.le_of_ble_eq_true rfl, Nat.le_of_ble_eq_true rfl⟩
theorem iX2_ahead_54 : xl_J mX2_ahead 54 (fun o => .ifCond .eq o) 57 60 := ⟨6, zd zq_152 (by decide +kernel), rfl, rfl⟩
theorem iX2_ahead_57 : xl_D mX2_ahead 57 (.iinc 2 1) 3 60 := ⟨zd zq_44 (by decide +kernel), rfl⟩
theorem iX2_ahead_60 : xl_D mX2_ahead 60 (.iinc 3 1) 3 63 := ⟨zd zq_153 (by decide +kernel), rfl⟩
theorem iX2_ahead_63 : xl_J mX2_ahead 63 (fun o => .goto o) 66 31 := ⟨-32, zd zq_105 (by decide +kernel), rfl, rfl⟩
theorem iX2_ahead_66 : xl_D mX2_ahead 66 (.aload_n 0) 1 67 := ⟨zd zq_0 (by decide +kernel), rfl⟩
theorem iX2_ahead_67 : xl_D mX2_ahead 67 (.iload_n 2) 1 68 := ⟨zd zq_6 (by decide +kernel), rfl⟩
theorem iX2_ahead_68 : xl_D mX2_ahead 68 (.i2l) 1 69 := ⟨zd zq_266 (by decide +kernel), rfl⟩
theorem iX2_ahead_69 : xl_Ca mX2_ahead 69 mX2_tellOne 72 := ⟨118, zd zq_140 (by decide +kernel), rfl, lX2_118, Nat.le_of_ble_eq_true rfl, Nat.le_of_ble_eq_true rfl⟩
theorem iX2_ahead_72 : xl_D mX2_ahead 72 (.aload_n 0) 1 73 := ⟨zd zq_0 (by decide +kernel), rfl⟩
theorem iX2_ahead_73 : xl_G mX2_ahead 73 2 0 76 := ⟨10, zd zq_248 (by decide +kernel), rfl, fX2_10⟩
theorem iX2_ahead_76 : xl_D mX2_ahead 76 (.iload_n 1) 1 77 := ⟨zd zq_3 (by decide +kernel), rfl⟩
theorem iX2_ahead_77 : xl_Ca mX2_ahead 77 mX1_ripening 80 := ⟨189, zd zq_320 (by decide +kernel), rfl, lX2_189, Nat.le_of_ble_eq_true rfl, Nat.le_of_ble_eq_true rfl⟩
theorem iX2_ahead_80 : xl_D mX2_ahead 80 (.ireturn) 1 81 := ⟨zd zq_17 (by decide +kernel), rfl⟩
theorem iX2_would_0 : xl_D mX2_would 0 (.aload_n 0) 1 1 := ⟨zd zq_0 (by decide +kernel), rfl⟩
theorem iX2_would_1 : xl_D mX2_would 1 (.iload_n 1) 1 2 := ⟨zd zq_3 (by decide +kernel), rfl⟩
theorem iX2_would_2 : xl_D mX2_would 2 (.iload_n 2) 1 3 := ⟨zd zq_6 (by decide +kernel), rfl⟩
theorem iX2_would_3 : xl_D mX2_would 3 (.iload_n 3) 1 4 := ⟨zd zq_25 (by decide +kernel), rfl⟩
theorem iX2_would_4 : xl_D mX2_would 4 (.iload 4) 2 6 := ⟨zd zq_51 (by decide +kernel), rfl⟩
theorem iX2_would_6 : xl_Ca mX2_would 6 mX2_isEvent 9 := ⟨218, zd zq_354 (by decide +kernel), rfl, lX2_218, Nat.le_of_ble_eq_true rfl, Nat.le_of_ble_eq_true rfl⟩
theorem iX2_would_9 : xl_J mX2_would 9 (fun o => .ifCond .ne o) 12 14 := ⟨5, zd zq_246 (by decide +kernel), rfl, rfl⟩
theorem iX2_would_12 : xl_D mX2_would 12 (.iconst (-1)) 1 13 := ⟨zd zq_104 (by decide +kernel), rfl⟩
theorem iX2_would_13 : xl_D mX2_would 13 (.ireturn) 1 14 := ⟨zd zq_17 (by decide +kernel), rfl⟩
theorem iX2_would_14 : xl_D mX2_would 14 (.aload_n 0) 1 15 := ⟨zd zq_0 (by decide +kernel), rfl⟩
theorem iX2_would_15 : xl_G mX2_would 15 2 0 18 := ⟨10, zd zq_248 (by decide +kernel), rfl, fX2_10⟩
theorem iX2_would_18 : xl_D mX2_would 18 (.iload_n 1) 1 19 := ⟨zd zq_3 (by decide +kernel), rfl⟩
theorem iX2_would_19 : xl_D mX2_would 19 (.iload_n 2) 1 20 := ⟨zd zq_6 (by decide +kernel), rfl⟩
theorem iX2_would_20 : xl_Ca mX2_would 20 mX1_firstTouched 23 := ⟨151, zd zq_180 (by decide +kernel), rfl, lX2_151, Nat.le_of_ble_eq_true rfl, Nat.le_of_ble_eq_true rfl⟩
theorem iX2_would_23 : xl_D mX2_would 23 (.istore 5) 2 25 := ⟨zd zq_91 (by decide +kernel), rfl⟩
theorem iX2_would_25 : xl_D mX2_would 25 (.aload_n 0) 1 26 := ⟨zd zq_0 (by decide +kernel), rfl⟩
theorem iX2_would_26 : xl_G mX2_would 26 2 1 29 := ⟨16, zd zq_355 (by decide +kernel), rfl, fX2_16⟩
theorem iX2_would_29 : xl_D mX2_would 29 (.aload_n 0) 1 30 := ⟨zd zq_0 (by decide +kernel), rfl⟩
theorem iX2_would_30 : xl_G mX2_would 30 2 0 33 := ⟨10, zd zq_248 (by decide +kernel), rfl, fX2_10⟩
theorem iX2_would_33 : xl_Ca mX2_would 33 mX1_copyFrom 36 := ⟨222, zd zq_356 (by decide +kernel), rfl, lX2_222, Nat.le_of_ble_eq_true rfl, Nat.le_of_ble_eq_true rfl⟩
theorem iX2_would_36 : xl_D mX2_would 36 (.aload_n 0) 1 37 := ⟨zd zq_0 (by decide +kernel), rfl⟩
theorem iX2_would_37 : xl_G mX2_would 37 2 1 40 := ⟨16, zd zq_355 (by decide +kernel), rfl, fX2_16⟩
theorem iX2_would_40 : xl_D mX2_would 40 (.iload_n 1) 1 41 := ⟨zd zq_3 (by decide +kernel), rfl⟩
theorem iX2_would_41 : xl_D mX2_would 41 (.iload_n 2) 1 42 := ⟨zd zq_6 (by decide +kernel), rfl⟩
theorem iX2_would_42 : xl_D mX2_would 42 (.iload_n 3) 1 43 := ⟨zd zq_25 (by decide +kernel), rfl⟩
theorem iX2_would_43 : xl_D mX2_would 43 (.iload 4) 2 45 := ⟨zd zq_51 (by decide +kernel), rfl⟩
theorem iX2_would_45 : xl_Ca mX2_would 45 mX1_playEvent 48 := ⟨226, zd zq_357 (by decide +kernel), rfl, lX2_226, Nat.le_of_ble_eq_true rfl, Nat.le_of_ble_eq_true rfl⟩
theorem iX2_would_48 : xl_D mX2_would 48 (.istore 6) 2 50 := ⟨zd zq_119 (by decide +kernel), rfl⟩
theorem iX2_would_50 : xl_D mX2_would 50 (.iload 6) 2 52 := ⟨zd zq_125 (by decide +kernel), rfl⟩
theorem iX2_would_52 : xl_D mX2_would 52 (.iconst 2) 1 53 := ⟨zd zq_127 (by decide +kernel), rfl⟩
theorem iX2_would_53 : xl_J mX2_would 53 (fun o => .if_icmp .ne o) 56 60 := ⟨7, zd zq_138 (by decide +kernel), rfl, rfl⟩
theorem iX2_would_56 : xl_D mX2_would 56 (.iconst 0) 1 57 := ⟨zd zq_2 (by decide +kernel), rfl⟩
theorem iX2_would_57 : xl_J mX2_would 57 (fun o => .goto o) 60 71 := ⟨14, zd zq_358 (by decide +kernel), rfl, rfl⟩
theorem iX2_would_60 : xl_D mX2_would 60 (.aload_n 0) 1 61 := ⟨zd zq_0 (by decide +kernel), rfl⟩
theorem iX2_would_61 : xl_G mX2_would 61 2 0 64 := ⟨10, zd zq_248 (by decide +kernel), rfl, fX2_10⟩
theorem iX2_would_64 : xl_D mX2_would 64 (.iload 5) 2 66 := ⟨zd zq_92 (by decide +kernel), rfl⟩
theorem iX2_would_66 : xl_D mX2_would 66 (.iload_n 1) 1 67 := ⟨zd zq_3 (by decide +kernel), rfl⟩
theorem iX2_would_67 : xl_D mX2_would 67 (.iload_n 2) 1 68 := ⟨zd zq_6 (by decide +kernel), rfl⟩
theorem iX2_would_68 : xl_Ca mX2_would 68 mX1_touchedFrom 71 := ⟨154, zd zq_183 (by decide +kernel), rfl, lX2_154, Nat.le_of_ble_eq_true rfl, Nat.le_of_ble_eq_true rfl⟩
theorem iX2_would_71 : xl_D mX2_would 71 (.istore 7) 2 73 := ⟨zd zq_122 (by decide +kernel), rfl⟩
theorem iX2_would_73 : xl_D mX2_would 73 (.aload_n 0) 1 74 := ⟨zd zq_0 (by decide +kernel), rfl⟩
theorem iX2_would_74 : xl_D mX2_would 74 (.iload 7) 2 76 := ⟨zd zq_124 (by decide +kernel), rfl⟩
theorem iX2_would_76 : xl_D mX2_would 76 (.i2l) 1 77 := ⟨zd zq_266 (by decide +kernel), rfl⟩
theorem iX2_would_77 : xl_D mX2_would 77 (.aload_n 0) 1 78 := ⟨zd zq_0 (by decide +kernel), rfl⟩
theorem iX2_would_78 : xl_G mX2_would 78 2 1 81 := ⟨16, zd zq_355 (by decide +kernel), rfl, fX2_16⟩
theorem iX2_would_81 : xl_G mX2_would 81 1 4 84 := ⟨87, zd zq_264 (by decide +kernel), rfl, fX2_87⟩
theorem iX2_would_84 : xl_D mX2_would 84 (.aload_n 0) 1 85 := ⟨zd zq_0 (by decide +kernel), rfl⟩
theorem iX2_would_85 : xl_G mX2_would 85 2 0 88 := ⟨10, zd zq_248 (by decide +kernel), rfl, fX2_10⟩
theorem iX2_would_88 : xl_G mX2_would 88 1 4 91 := ⟨87, zd zq_264 (by decide +kernel), rfl, fX2_87⟩
theorem iX2_would_91 : xl_D mX2_would 91 (.isub) 1 92 := ⟨zd zq_39 (by decide +kernel), rfl⟩
theorem iX2_would_92 : xl_D mX2_would 92 (.i2l) 1 93 := ⟨zd zq_266 (by decide +kernel), rfl⟩
theorem iX2_would_93 : xl_Ca mX2_would 93 mX2_tellTwo 96 := ⟨96, zd zq_268 (by decide +kernel), rfl, lX2_96, Nat.le_of_ble_eq_true rfl, Nat.le_of_ble_eq_true rfl⟩
theorem iX2_would_96 : xl_D mX2_would 96 (.iload 6) 2 98 := ⟨zd zq_125 (by decide +kernel), rfl⟩
theorem iX2_would_98 : xl_D mX2_would 98 (.ireturn) 1 99 := ⟨zd zq_17 (by decide +kernel), rfl⟩
theorem iX2_batch_0 : xl_D mX2_batch 0 (.iload_n 1) 1 1 := ⟨zd zq_3 (by decide +kernel), rfl⟩
theorem iX2_batch_1 : xl_Cs mX2_batch 1 mX2_isKey 4 := ⟨145, zd zq_291 (by decide +kernel), rfl, lX2_145, Nat.le_of_ble_eq_true rfl, Nat.le_of_ble_eq_true rfl⟩
theorem iX2_batch_4 : xl_J mX2_batch 4 (fun o => .ifCond .ne o) 7 9 := ⟨5, zd zq_246 (by decide +kernel), rfl, rfl⟩
theorem iX2_batch_7 : xl_D mX2_batch 7 (.iconst (-1)) 1 8 := ⟨zd zq_104 (by decide +kernel), rfl⟩
theorem iX2_batch_8 : xl_D mX2_batch 8 (.ireturn) 1 9 := ⟨zd zq_17 (by decide +kernel), rfl⟩
theorem iX2_batch_9 : xl_D mX2_batch 9 (.aload_n 0) 1 10 := ⟨zd zq_0 (by decide +kernel), rfl⟩
theorem iX2_batch_10 : xl_D mX2_batch 10 (.iload_n 1) 1 11 := ⟨zd zq_3 (by decide +kernel), rfl⟩
theorem iX2_batch_11 : xl_Ca mX2_batch 11 mX2_sortTaken 14 := ⟨229, zd zq_359 (by decide +kernel), rfl, lX2_229, Nat.le_of_ble_eq_true rfl, Nat.le_of_ble_eq_true rfl⟩
theorem iX2_batch_14 : xl_D mX2_batch 14 (.istore_n 2) 1 15 := ⟨zd zq_41 (by decide +kernel), rfl⟩
theorem iX2_batch_15 : xl_D mX2_batch 15 (.iconst 0) 1 16 := ⟨zd zq_2 (by decide +kernel), rfl⟩
theorem iX2_batch_16 : xl_D mX2_batch 16 (.istore_n 3) 1 17 := ⟨zd zq_131 (by decide +kernel), rfl⟩
theorem iX2_batch_17 : xl_D mX2_batch 17 (.iconst (-1)) 1 18 := ⟨zd zq_104 (by decide +kernel), rfl⟩
theorem iX2_batch_18 : xl_D mX2_batch 18 (.istore 4) 2 20 := ⟨zd zq_50 (by decide +kernel), rfl⟩
theorem iX2_batch_20 : xl_D mX2_batch 20 (.iconst (-1)) 1 21 := ⟨zd zq_104 (by decide +kernel), rfl⟩
theorem iX2_batch_21 : xl_D mX2_batch 21 (.istore 5) 2 23 := ⟨zd zq_91 (by decide +kernel), rfl⟩
theorem iX2_batch_23 : xl_D mX2_batch 23 (.iconst (-1)) 1 24 := ⟨zd zq_104 (by decide +kernel), rfl⟩
theorem iX2_batch_24 : xl_D mX2_batch 24 (.istore 6) 2 26 := ⟨zd zq_119 (by decide +kernel), rfl⟩
theorem iX2_batch_26 : xl_D mX2_batch 26 (.iconst 0) 1 27 := ⟨zd zq_2 (by decide +kernel), rfl⟩
theorem iX2_batch_27 : xl_D mX2_batch 27 (.istore 7) 2 29 := ⟨zd zq_122 (by decide +kernel), rfl⟩
theorem iX2_batch_29 : xl_D mX2_batch 29 (.iconst 0) 1 30 := ⟨zd zq_2 (by decide +kernel), rfl⟩
theorem iX2_batch_30 : xl_D mX2_batch 30 (.istore 8) 2 32 := ⟨zd zq_323 (by decide +kernel), rfl⟩
theorem iX2_batch_32 : xl_D mX2_batch 32 (.iconst 0) 1 33 := ⟨zd zq_2 (by decide +kernel), rfl⟩
theorem iX2_batch_33 : xl_D mX2_batch 33 (.istore 9) 2 35 := ⟨zd zq_324 (by decide +kernel), rfl⟩
theorem iX2_batch_35 : xl_D mX2_batch 35 (.iload 9) 2 37 := ⟨zd zq_325 (by decide +kernel), rfl⟩
theorem iX2_batch_37 : xl_D mX2_batch 37 (.iload_n 2) 1 38 := ⟨zd zq_6 (by decide +kernel), rfl⟩
theorem iX2_batch_38 : xl_J mX2_batch 38 (fun o => .if_icmp .ge o) 41 152 := ⟨114, zd zq_360 (by decide +kernel), rfl, rfl⟩
theorem iX2_batch_41 : xl_D mX2_batch 41 (.iinc 7 1) 3 44 := ⟨zd zq_177 (by decide +kernel), rfl⟩
theorem iX2_batch_44 : xl_D mX2_batch 44 (.iload 8) 2 46 := ⟨zd zq_336 (by decide +kernel), rfl⟩
theorem iX2_batch_46 : xl_D mX2_batch 46 (.aload_n 0) 1 47 := ⟨zd zq_0 (by decide +kernel), rfl⟩
theorem iX2_batch_47 : xl_D mX2_batch 47 (.iload 9) 2 49 := ⟨zd zq_325 (by decide +kernel), rfl⟩
theorem iX2_batch_49 : xl_D mX2_batch 49 (.iconst 4) 1 50 := ⟨zd zq_63 (by decide +kernel), rfl⟩
theorem iX2_batch_50 : xl_Ca mX2_batch 50 mX2_sortedCell 53 := ⟨232, zd zq_361 (by decide +kernel), rfl, lX2_232, Nat.le_of_ble_eq_true rfl, Nat.le_of_ble_eq_true rfl⟩
theorem iX2_batch_53 : xl_D mX2_batch 53 (.iadd) 1 54 := ⟨zd zq_19 (by decide +kernel), rfl⟩
theorem iX2_batch_54 : xl_D mX2_batch 54 (.istore 8) 2 56 := ⟨zd zq_323 (by decide +kernel), rfl⟩
theorem iX2_batch_56 : xl_D mX2_batch 56 (.iload 9) 2 58 := ⟨zd zq_325 (by decide +kernel), rfl⟩
theorem iX2_batch_58 : xl_D mX2_batch 58 (.iconst 1) 1 59 := ⟨zd zq_36 (by decide +kernel), rfl⟩
theorem iX2_batch_59 : xl_D mX2_batch 59 (.iadd) 1 60 := ⟨zd zq_19 (by decide +kernel), rfl⟩
theorem iX2_batch_60 : xl_D mX2_batch 60 (.iload_n 2) 1 61 := ⟨zd zq_6 (by decide +kernel), rfl⟩
theorem iX2_batch_61 : xl_J mX2_batch 61 (fun o => .if_icmp .ge o) 64 73 := ⟨12, zd zq_362 (by decide +kernel), rfl, rfl⟩
theorem iX2_batch_64 : xl_D mX2_batch 64 (.aload_n 0) 1 65 := ⟨zd zq_0 (by decide +kernel), rfl⟩
theorem iX2_batch_65 : xl_D mX2_batch 65 (.iload 9) 2 67 := ⟨zd zq_325 (by decide +kernel), rfl⟩
theorem iX2_batch_67 : xl_Ca mX2_batch 67 mX2_holeBehind 70 := ⟨235, zd zq_363 (by decide +kernel), rfl, lX2_235, Nat.le_of_ble_eq_true rfl, Nat.le_of_ble_eq_true rfl⟩
theorem iX2_batch_70 : xl_J mX2_batch 70 (fun o => .goto o) 73 76 := ⟨6, zd zq_364 (by decide +kernel), rfl, rfl⟩
theorem iX2_batch_73 : xl_D mX2_batch 73 (.sipush 20000) 3 76 := ⟨zd zq_299 (by decide +kernel), rfl⟩
theorem iX2_batch_76 : xl_D mX2_batch 76 (.istore 10) 2 78 := ⟨zd zq_327 (by decide +kernel), rfl⟩
theorem iX2_batch_78 : xl_D mX2_batch 78 (.iload 10) 2 80 := ⟨zd zq_330 (by decide +kernel), rfl⟩
theorem iX2_batch_80 : xl_D mX2_batch 80 (.aload_n 0) 1 81 := ⟨zd zq_0 (by decide +kernel), rfl⟩
theorem iX2_batch_81 : xl_G mX2_batch 81 2 0 84 := ⟨10, zd zq_248 (by decide +kernel), rfl, fX2_10⟩
theorem iX2_batch_84 : xl_G mX2_batch 84 1 0 87 := ⟨212, zd zq_350 (by decide +kernel), rfl, fX2_212⟩
theorem iX2_batch_87 : xl_J mX2_batch 87 (fun o => .if_icmp .gt o) 90 93 := ⟨6, zd zq_365 (by decide +kernel), rfl, rfl⟩
theorem iX2_batch_90 : xl_J mX2_batch 90 (fun o => .goto o) 93 146 := ⟨56, zd zq_366 (by decide +kernel), rfl, rfl⟩
theorem iX2_batch_93 : xl_D mX2_batch 93 (.iload_n 3) 1 94 := ⟨zd zq_25 (by decide +kernel), rfl⟩
theorem iX2_batch_94 : xl_J mX2_batch 94 (fun o => .ifCond .ne o) 97 102 := ⟨8, zd zq_367 (by decide +kernel), rfl, rfl⟩
theorem iX2_batch_97 : xl_D mX2_batch 97 (.iload 8) 2 99 := ⟨zd zq_336 (by decide +kernel), rfl⟩
theorem iX2_batch_99 : xl_J mX2_batch 99 (fun o => .goto o) 102 109 := ⟨10, zd zq_368 (by decide +kernel), rfl, rfl⟩
theorem iX2_batch_102 : xl_D mX2_batch 102 (.iload 5) 2 104 := ⟨zd zq_92 (by decide +kernel), rfl⟩
theorem iX2_batch_104 : xl_D mX2_batch 104 (.iload 8) 2 106 := ⟨zd zq_336 (by decide +kernel), rfl⟩
theorem iX2_batch_106 : xl_Cm mX2_batch 106 Lib.Math.max.name Lib.Math.max.code 109 := ⟨207, zd zq_343 (by decide +kernel), rfl, lX2_207, xl_stmax, xl_iMath, xl_comax, Nat.le_of_ble_eq_true rfl, Nat.le_of_ble_eq_true rfl⟩
theorem iX2_batch_109 : xl_D mX2_batch 109 (.istore 5) 2 111 := ⟨zd zq_91 (by decide +kernel), rfl⟩
theorem iX2_batch_111 : xl_D mX2_batch 111 (.iload 4) 2 113 := ⟨zd zq_51 (by decide +kernel), rfl⟩
theorem iX2_batch_113 : xl_D mX2_batch 113 (.iload 7) 2 115 := ⟨zd zq_124 (by decide +kernel), rfl⟩
theorem iX2_batch_115 : xl_Cm mX2_batch 115 Lib.Math.max.name Lib.Math.max.code 118 := ⟨207, zd zq_343 (by decide +kernel), rfl, lX2_207, xl_stmax, xl_iMath, xl_comax, Nat.le_of_ble_eq_true rfl, Nat.le_of_ble_eq_true rfl⟩
theorem iX2_batch_118 : xl_D mX2_batch 118 (.istore 4) 2 120 := ⟨zd zq_50 (by decide +kernel), rfl⟩
theorem iX2_batch_120 : xl_D mX2_batch 120 (.iload 9) 2 122 := ⟨zd zq_325 (by decide +kernel), rfl⟩
theorem iX2_batch_122 : xl_D mX2_batch 122 (.iconst 1) 1 123 := ⟨zd zq_36 (by decide +kernel), rfl⟩
theorem iX2_batch_123 : xl_D mX2_batch 123 (.iadd) 1 124 := ⟨zd zq_19 (by decide +kernel), rfl⟩
theorem iX2_batch_124 : xl_D mX2_batch 124 (.iload_n 2) 1 125 := ⟨zd zq_6 (by decide +kernel), rfl⟩
theorem iX2_batch_125 : xl_J mX2_batch 125 (fun o => .if_icmp .ge o) 128 137 := ⟨12, zd zq_362 (by decide +kernel), rfl, rfl⟩
theorem iX2_batch_128 : xl_D mX2_batch 128 (.iload 6) 2 130 := ⟨zd zq_125 (by decide +kernel), rfl⟩
theorem iX2_batch_130 : xl_D mX2_batch 130 (.iload 10) 2 132 := ⟨zd zq_330 (by decide +kernel), rfl⟩
theorem iX2_batch_132 : xl_Cm mX2_batch 132 Lib.Math.max.name Lib.Math.max.code 135 := ⟨207, zd zq_343 (by decide +kernel), rfl, lX2_207, xl_stmax, xl_iMath, xl_comax, Nat.le_of_ble_eq_true rfl, Nat.le_of_ble_eq_true rfl⟩
theorem iX2_batch_135 : xl_D mX2_batch 135 (.istore 6) 2 137 := ⟨zd zq_119 (by decide +kernel), rfl⟩
theorem iX2_batch_137 : xl_D mX2_batch 137 (.iinc 3 1) 3 140 := ⟨zd zq_153 (by decide +kernel), rfl⟩
theorem iX2_batch_140 : xl_D mX2_batch 140 (.iconst 0) 1 141 := ⟨zd zq_2 (by decide +kernel), rfl⟩
theorem iX2_batch_141 : xl_D mX2_batch 141 (.istore 7) 2 143 := ⟨zd zq_122 (by decide +kernel), rfl⟩
theorem iX2_batch_143 : xl_D mX2_batch 143 (.iconst 0) 1 144 := ⟨zd zq_2 (by decide +kernel), rfl⟩
theorem iX2_batch_144 : xl_D mX2_batch 144 (.istore 8) 2 146 := ⟨zd zq_323 (by decide +kernel), rfl⟩
theorem iX2_batch_146 : xl_D mX2_batch 146 (.iinc 9 1) 3 149 := ⟨zd zq_334 (by decide +kernel), rfl⟩
theorem iX2_batch_149 : xl_J mX2_batch 149 (fun o => .goto o) 152 35 := ⟨-114, zd zq_369 (by decide +kernel), rfl, rfl⟩
theorem iX2_batch_152 : xl_D mX2_batch 152 (.aload_n 0) 1 153 := ⟨zd zq_0 (by decide +kernel), rfl⟩
theorem iX2_batch_153 : xl_D mX2_batch 153 (.iload 4) 2 155 := ⟨zd zq_51 (by decide +kernel), rfl⟩
theorem iX2_batch_155 : xl_D mX2_batch 155 (.i2l) 1 156 := ⟨zd zq_266 (by decide +kernel), rfl⟩
theorem iX2_batch_156 : xl_D mX2_batch 156 (.iload 5) 2 158 := ⟨zd zq_92 (by decide +kernel), rfl⟩
theorem iX2_batch_158 : xl_D mX2_batch 158 (.i2l) 1 159 := ⟨zd zq_266 (by decide +kernel), rfl⟩
theorem iX2_batch_159 : xl_D mX2_batch 159 (.iload 6) 2 161 := ⟨zd zq_125 (by decide +kernel), rfl⟩
theorem iX2_batch_161 : xl_D mX2_batch 161 (.i2l) 1 162 := ⟨zd zq_266 (by decide +kernel), rfl⟩
theorem iX2_batch_162 : xl_Ca mX2_batch 162 mX2_tellThree 165 := ⟨170, zd zq_307 (by decide +kernel), rfl, lX2_170, Nat.le_of_ble_eq_true rfl, Nat.le_of_ble_eq_true rfl⟩
theorem iX2_batch_165 : xl_D mX2_batch 165 (.iload_n 3) 1 166 := ⟨zd zq_25 (by decide +kernel), rfl⟩
theorem iX2_batch_166 : xl_D mX2_batch 166 (.ireturn) 1 167 := ⟨zd zq_17 (by decide +kernel), rfl⟩
theorem iX2_latest_0 : xl_D mX2_latest 0 (.iconst 0) 1 1 := ⟨zd zq_2 (by decide +kernel), rfl⟩
theorem iX2_latest_1 : xl_D mX2_latest 1 (.istore_n 1) 1 2 := ⟨zd zq_194 (by decide +kernel), rfl⟩
theorem iX2_latest_2 : xl_D mX2_latest 2 (.iconst (-1)) 1 3 := ⟨zd zq_104 (by decide +kernel), rfl⟩
theorem iX2_latest_3 : xl_D mX2_latest 3 (.istore_n 2) 1 4 := ⟨zd zq_41 (by decide +kernel), rfl⟩
theorem iX2_latest_4 : xl_D mX2_latest 4 (.iconst 0) 1 5 := ⟨zd zq_2 (by decide +kernel), rfl⟩
theorem iX2_latest_5 : xl_D mX2_latest 5 (.istore_n 3) 1 6 := ⟨zd zq_131 (by decide +kernel), rfl⟩
theorem iX2_latest_6 : xl_D mX2_latest 6 (.iload_n 3) 1 7 := ⟨zd zq_25 (by decide +kernel), rfl⟩
theorem iX2_latest_7 : xl_D mX2_latest 7 (.aload_n 0) 1 8 := ⟨zd zq_0 (by decide +kernel), rfl⟩
theorem iX2_latest_8 : xl_G mX2_latest 8 2 0 11 := ⟨10, zd zq_248 (by decide +kernel), rfl, fX2_10⟩
theorem iX2_latest_11 : xl_G mX2_latest 11 1 14 14 := ⟨73, zd zq_257 (by decide +kernel), rfl, fX2_73⟩
theorem iX2_latest_14 : xl_G mX2_latest 14 0 3 17 := ⟨76, zd zq_258 (by decide +kernel), rfl, fX2_76⟩
theorem iX2_latest_17 : xl_J mX2_latest 17 (fun o => .if_icmp .ge o) 20 52 := ⟨35, zd zq_311 (by decide +kernel), rfl, rfl⟩
theorem iX2_latest_20 : xl_D mX2_latest 20 (.aload_n 0) 1 21 := ⟨zd zq_0 (by decide +kernel), rfl⟩
theorem iX2_latest_21 : xl_G mX2_latest 21 2 0 24 := ⟨10, zd zq_248 (by decide +kernel), rfl, fX2_10⟩
theorem iX2_latest_24 : xl_G mX2_latest 24 1 14 27 := ⟨73, zd zq_257 (by decide +kernel), rfl, fX2_73⟩
theorem iX2_latest_27 : xl_D mX2_latest 27 (.iload_n 3) 1 28 := ⟨zd zq_25 (by decide +kernel), rfl⟩
theorem iX2_latest_28 : xl_D mX2_latest 28 (.bipush 6) 2 30 := ⟨zd zq_71 (by decide +kernel), rfl⟩
theorem iX2_latest_30 : xl_Ca mX2_latest 30 mX0_get 33 := ⟨67, zd zq_254 (by decide +kernel), rfl, lX2_67, Nat.le_of_ble_eq_true rfl, Nat.le_of_ble_eq_true rfl⟩
theorem iX2_latest_33 : xl_D mX2_latest 33 (.istore 4) 2 35 := ⟨zd zq_50 (by decide +kernel), rfl⟩
theorem iX2_latest_35 : xl_D mX2_latest 35 (.iload 4) 2 37 := ⟨zd zq_51 (by decide +kernel), rfl⟩
theorem iX2_latest_37 : xl_D mX2_latest 37 (.iload_n 1) 1 38 := ⟨zd zq_3 (by decide +kernel), rfl⟩
theorem iX2_latest_38 : xl_J mX2_latest 38 (fun o => .if_icmp .le o) 41 46 := ⟨8, zd zq_318 (by decide +kernel), rfl, rfl⟩
theorem iX2_latest_41 : xl_D mX2_latest 41 (.iload 4) 2 43 := ⟨zd zq_51 (by decide +kernel), rfl⟩
theorem iX2_latest_43 : xl_D mX2_latest 43 (.istore_n 1) 1 44 := ⟨zd zq_194 (by decide +kernel), rfl⟩
theorem iX2_latest_44 : xl_D mX2_latest 44 (.iload_n 3) 1 45 := ⟨zd zq_25 (by decide +kernel), rfl⟩
theorem iX2_latest_45 : xl_D mX2_latest 45 (.istore_n 2) 1 46 := ⟨zd zq_41 (by decide +kernel), rfl⟩
theorem iX2_latest_46 : xl_D mX2_latest 46 (.iinc 3 1) 3 49 := ⟨zd zq_153 (by decide +kernel), rfl⟩
theorem iX2_latest_49 : xl_J mX2_latest 49 (fun o => .goto o) 52 6 := ⟨-43, zd zq_370 (by decide +kernel), rfl, rfl⟩
theorem iX2_latest_52 : xl_D mX2_latest 52 (.aload_n 0) 1 53 := ⟨zd zq_0 (by decide +kernel), rfl⟩
theorem iX2_latest_53 : xl_D mX2_latest 53 (.iload_n 2) 1 54 := ⟨zd zq_6 (by decide +kernel), rfl⟩
theorem iX2_latest_54 : xl_D mX2_latest 54 (.i2l) 1 55 := ⟨zd zq_266 (by decide +kernel), rfl⟩
theorem iX2_latest_55 : xl_Ca mX2_latest 55 mX2_tellOne 58 := ⟨118, zd zq_140 (by decide +kernel), rfl, lX2_118, Nat.le_of_ble_eq_true rfl, Nat.le_of_ble_eq_true rfl⟩
theorem iX2_latest_58 : xl_D mX2_latest 58 (.iload_n 1) 1 59 := ⟨zd zq_3 (by decide +kernel), rfl⟩
theorem iX2_latest_59 : xl_D mX2_latest 59 (.ireturn) 1 60 := ⟨zd zq_17 (by decide +kernel), rfl⟩
theorem iX2_parts_0 : xl_D mX2_parts 0 (.iload_n 1) 1 1 := ⟨zd zq_3 (by decide +kernel), rfl⟩
theorem iX2_parts_1 : xl_Cs mX2_parts 1 mX2_isKey 4 := ⟨145, zd zq_291 (by decide +kernel), rfl, lX2_145, Nat.le_of_ble_eq_true rfl, Nat.le_of_ble_eq_true rfl⟩
theorem iX2_parts_4 : xl_J mX2_parts 4 (fun o => .ifCond .eq o) 7 18 := ⟨14, zd zq_251 (by decide +kernel), rfl, rfl⟩
theorem iX2_parts_7 : xl_D mX2_parts 7 (.iload_n 2) 1 8 := ⟨zd zq_6 (by decide +kernel), rfl⟩
theorem iX2_parts_8 : xl_D mX2_parts 8 (.iconst 1) 1 9 := ⟨zd zq_36 (by decide +kernel), rfl⟩
theorem iX2_parts_9 : xl_J mX2_parts 9 (fun o => .if_icmp .lt o) 12 18 := ⟨9, zd zq_371 (by decide +kernel), rfl, rfl⟩
theorem iX2_parts_12 : xl_D mX2_parts 12 (.iload_n 2) 1 13 := ⟨zd zq_6 (by decide +kernel), rfl⟩
theorem iX2_parts_13 : xl_D mX2_parts 13 (.bipush 60) 2 15 := ⟨zd zq_70 (by decide +kernel), rfl⟩
theorem iX2_parts_15 : xl_J mX2_parts 15 (fun o => .if_icmp .le o) 18 20 := ⟨5, zd zq_235 (by decide +kernel), rfl, rfl⟩
theorem iX2_parts_18 : xl_D mX2_parts 18 (.iconst (-1)) 1 19 := ⟨zd zq_104 (by decide +kernel), rfl⟩
theorem iX2_parts_19 : xl_D mX2_parts 19 (.ireturn) 1 20 := ⟨zd zq_17 (by decide +kernel), rfl⟩
theorem iX2_parts_20 : xl_D mX2_parts 20 (.aload_n 0) 1 21 := ⟨zd zq_0 (by decide +kernel), rfl⟩
theorem iX2_parts_21 : xl_D mX2_parts 21 (.iload_n 1) 1 22 := ⟨zd zq_3 (by decide +kernel), rfl⟩
theorem iX2_parts_22 : xl_Ca mX2_parts 22 mX2_sortTaken 25 := ⟨229, zd zq_359 (by decide +kernel), rfl, lX2_229, Nat.le_of_ble_eq_true rfl, Nat.le_of_ble_eq_true rfl⟩
theorem iX2_parts_25 : xl_D mX2_parts 25 (.istore_n 3) 1 26 := ⟨zd zq_131 (by decide +kernel), rfl⟩
theorem iX2_parts_26 : xl_D mX2_parts 26 (.iload_n 3) 1 27 := ⟨zd zq_25 (by decide +kernel), rfl⟩
theorem iX2_parts_27 : xl_J mX2_parts 27 (fun o => .ifCond .ne o) 30 33 := ⟨6, zd zq_210 (by decide +kernel), rfl, rfl⟩
theorem iX2_parts_30 : xl_D mX2_parts 30 (.bipush (-2)) 2 32 := ⟨zd zq_256 (by decide +kernel), rfl⟩
theorem iX2_parts_32 : xl_D mX2_parts 32 (.ireturn) 1 33 := ⟨zd zq_17 (by decide +kernel), rfl⟩
theorem iX2_parts_33 : xl_D mX2_parts 33 (.aload_n 0) 1 34 := ⟨zd zq_0 (by decide +kernel), rfl⟩
theorem iX2_parts_34 : xl_G mX2_parts 34 2 12 37 := ⟨37, zd zq_372 (by decide +kernel), rfl, fX2_37⟩
theorem iX2_parts_37 : xl_D mX2_parts 37 (.iconst 0) 1 38 := ⟨zd zq_2 (by decide +kernel), rfl⟩
theorem iX2_parts_38 : xl_Cs mX2_parts 38 mJ7_fill_53178 41 := ⟨238, zd zq_373 (by decide +kernel), rfl, lX2_238, Nat.le_of_ble_eq_true rfl, Nat.le_of_ble_eq_true rfl⟩
theorem iX2_parts_41 : xl_D mX2_parts 41 (.iconst 0) 1 42 := ⟨zd zq_2 (by decide +kernel), rfl⟩
theorem iX2_parts_42 : xl_D mX2_parts 42 (.istore 4) 2 44 := ⟨zd zq_50 (by decide +kernel), rfl⟩
theorem iX2_parts_44 : xl_D mX2_parts 44 (.iload 4) 2 46 := ⟨zd zq_51 (by decide +kernel), rfl⟩
theorem iX2_parts_46 : xl_D mX2_parts 46 (.iconst 1) 1 47 := ⟨zd zq_36 (by decide +kernel), rfl⟩
theorem iX2_parts_47 : xl_D mX2_parts 47 (.iadd) 1 48 := ⟨zd zq_19 (by decide +kernel), rfl⟩
theorem iX2_parts_48 : xl_D mX2_parts 48 (.iload_n 3) 1 49 := ⟨zd zq_25 (by decide +kernel), rfl⟩
theorem iX2_parts_49 : xl_J mX2_parts 49 (fun o => .if_icmp .ge o) 52 97 := ⟨48, zd zq_374 (by decide +kernel), rfl, rfl⟩
theorem iX2_parts_52 : xl_D mX2_parts 52 (.aload_n 0) 1 53 := ⟨zd zq_0 (by decide +kernel), rfl⟩
theorem iX2_parts_53 : xl_D mX2_parts 53 (.iload 4) 2 55 := ⟨zd zq_51 (by decide +kernel), rfl⟩
theorem iX2_parts_55 : xl_Ca mX2_parts 55 mX2_holeBehind 58 := ⟨235, zd zq_363 (by decide +kernel), rfl, lX2_235, Nat.le_of_ble_eq_true rfl, Nat.le_of_ble_eq_true rfl⟩
theorem iX2_parts_58 : xl_D mX2_parts 58 (.bipush 100) 2 60 := ⟨zd zq_375 (by decide +kernel), rfl⟩
theorem iX2_parts_60 : xl_Cm mX2_parts 60 Lib.Math.min.name Lib.Math.min.code 63 := ⟨244, zd zq_376 (by decide +kernel), rfl, lX2_244, xl_stmin, xl_iMath, xl_comin, Nat.le_of_ble_eq_true rfl, Nat.le_of_ble_eq_true rfl⟩
theorem iX2_parts_63 : xl_D mX2_parts 63 (.istore 5) 2 65 := ⟨zd zq_91 (by decide +kernel), rfl⟩
theorem iX2_parts_65 : xl_D mX2_parts 65 (.iload 5) 2 67 := ⟨zd zq_92 (by decide +kernel), rfl⟩
theorem iX2_parts_67 : xl_J mX2_parts 67 (fun o => .ifCond .lt o) 70 91 := ⟨24, zd zq_377 (by decide +kernel), rfl, rfl⟩
theorem iX2_parts_70 : xl_D mX2_parts 70 (.iload 5) 2 72 := ⟨zd zq_92 (by decide +kernel), rfl⟩
theorem iX2_parts_72 : xl_D mX2_parts 72 (.aload_n 0) 1 73 := ⟨zd zq_0 (by decide +kernel), rfl⟩
theorem iX2_parts_73 : xl_G mX2_parts 73 2 12 76 := ⟨37, zd zq_372 (by decide +kernel), rfl, fX2_37⟩
theorem iX2_parts_76 : xl_D mX2_parts 76 (.arraylength) 1 77 := ⟨zd zq_58 (by decide +kernel), rfl⟩
theorem iX2_parts_77 : xl_J mX2_parts 77 (fun o => .if_icmp .ge o) 80 91 := ⟨14, zd zq_378 (by decide +kernel), rfl, rfl⟩
theorem iX2_parts_80 : xl_D mX2_parts 80 (.aload_n 0) 1 81 := ⟨zd zq_0 (by decide +kernel), rfl⟩
theorem iX2_parts_81 : xl_G mX2_parts 81 2 12 84 := ⟨37, zd zq_372 (by decide +kernel), rfl, fX2_37⟩
theorem iX2_parts_84 : xl_D mX2_parts 84 (.iload 5) 2 86 := ⟨zd zq_92 (by decide +kernel), rfl⟩
theorem iX2_parts_86 : xl_D mX2_parts 86 (.dup2) 1 87 := ⟨zd zq_31 (by decide +kernel), rfl⟩
theorem iX2_parts_87 : xl_D mX2_parts 87 (.iaload) 1 88 := ⟨zd zq_20 (by decide +kernel), rfl⟩
theorem iX2_parts_88 : xl_D mX2_parts 88 (.iconst 1) 1 89 := ⟨zd zq_36 (by decide +kernel), rfl⟩
theorem iX2_parts_89 : xl_D mX2_parts 89 (.iadd) 1 90 := ⟨zd zq_19 (by decide +kernel), rfl⟩
theorem iX2_parts_90 : xl_D mX2_parts 90 (.iastore) 1 91 := ⟨zd zq_26 (by decide +kernel), rfl⟩
theorem iX2_parts_91 : xl_D mX2_parts 91 (.iinc 4 1) 3 94 := ⟨zd zq_54 (by decide +kernel), rfl⟩
theorem iX2_parts_94 : xl_J mX2_parts 94 (fun o => .goto o) 97 44 := ⟨-50, zd zq_315 (by decide +kernel), rfl, rfl⟩
theorem iX2_parts_97 : xl_D mX2_parts 97 (.iconst 1) 1 98 := ⟨zd zq_36 (by decide +kernel), rfl⟩
theorem iX2_parts_98 : xl_D mX2_parts 98 (.istore 4) 2 100 := ⟨zd zq_50 (by decide +kernel), rfl⟩
theorem iX2_parts_100 : xl_D mX2_parts 100 (.bipush 99) 2 102 := ⟨zd zq_379 (by decide +kernel), rfl⟩
theorem iX2_parts_102 : xl_D mX2_parts 102 (.istore 5) 2 104 := ⟨zd zq_91 (by decide +kernel), rfl⟩
theorem iX2_parts_104 : xl_D mX2_parts 104 (.iload 5) 2 106 := ⟨zd zq_92 (by decide +kernel), rfl⟩
theorem iX2_parts_106 : xl_D mX2_parts 106 (.iconst 1) 1 107 := ⟨zd zq_36 (by decide +kernel), rfl⟩
theorem iX2_parts_107 : xl_J mX2_parts 107 (fun o => .if_icmp .lt o) 110 155 := ⟨48, zd zq_380 (by decide +kernel), rfl, rfl⟩
theorem iX2_parts_110 : xl_D mX2_parts 110 (.iload 4) 2 112 := ⟨zd zq_51 (by decide +kernel), rfl⟩
theorem iX2_parts_112 : xl_D mX2_parts 112 (.iload 5) 2 114 := ⟨zd zq_92 (by decide +kernel), rfl⟩
theorem iX2_parts_114 : xl_D mX2_parts 114 (.iconst 1) 1 115 := ⟨zd zq_36 (by decide +kernel), rfl⟩
theorem iX2_parts_115 : xl_D mX2_parts 115 (.iadd) 1 116 := ⟨zd zq_19 (by decide +kernel), rfl⟩
theorem iX2_parts_116 : xl_D mX2_parts 116 (.aload_n 0) 1 117 := ⟨zd zq_0 (by decide +kernel), rfl⟩
theorem iX2_parts_117 : xl_G mX2_parts 117 2 12 120 := ⟨37, zd zq_372 (by decide +kernel), rfl, fX2_37⟩
theorem iX2_parts_120 : xl_D mX2_parts 120 (.arraylength) 1 121 := ⟨zd zq_58 (by decide +kernel), rfl⟩
theorem iX2_parts_121 : xl_J mX2_parts 121 (fun o => .if_icmp .ge o) 124 136 := ⟨15, zd zq_14 (by decide +kernel), rfl, rfl⟩
theorem iX2_parts_124 : xl_D mX2_parts 124 (.aload_n 0) 1 125 := ⟨zd zq_0 (by decide +kernel), rfl⟩
theorem iX2_parts_125 : xl_G mX2_parts 125 2 12 128 := ⟨37, zd zq_372 (by decide +kernel), rfl, fX2_37⟩
theorem iX2_parts_128 : xl_D mX2_parts 128 (.iload 5) 2 130 := ⟨zd zq_92 (by decide +kernel), rfl⟩
theorem iX2_parts_130 : xl_D mX2_parts 130 (.iconst 1) 1 131 := ⟨zd zq_36 (by decide +kernel), rfl⟩
theorem iX2_parts_131 : xl_D mX2_parts 131 (.iadd) 1 132 := ⟨zd zq_19 (by decide +kernel), rfl⟩
theorem iX2_parts_132 : xl_D mX2_parts 132 (.iaload) 1 133 := ⟨zd zq_20 (by decide +kernel), rfl⟩
theorem iX2_parts_133 : xl_J mX2_parts 133 (fun o => .goto o) 136 137 := ⟨4, zd zq_139 (by decide +kernel), rfl, rfl⟩
theorem iX2_parts_136 : xl_D mX2_parts 136 (.iconst 0) 1 137 := ⟨zd zq_2 (by decide +kernel), rfl⟩
theorem iX2_parts_137 : xl_D mX2_parts 137 (.iadd) 1 138 := ⟨zd zq_19 (by decide +kernel), rfl⟩
theorem iX2_parts_138 : xl_D mX2_parts 138 (.istore 4) 2 140 := ⟨zd zq_50 (by decide +kernel), rfl⟩
theorem iX2_parts_140 : xl_D mX2_parts 140 (.iload 4) 2 142 := ⟨zd zq_51 (by decide +kernel), rfl⟩
theorem iX2_parts_142 : xl_D mX2_parts 142 (.iload_n 2) 1 143 := ⟨zd zq_6 (by decide +kernel), rfl⟩
theorem iX2_parts_143 : xl_J mX2_parts 143 (fun o => .if_icmp .lt o) 146 149 := ⟨6, zd zq_381 (by decide +kernel), rfl, rfl⟩
theorem iX2_parts_146 : xl_D mX2_parts 146 (.iload 5) 2 148 := ⟨zd zq_92 (by decide +kernel), rfl⟩
theorem iX2_parts_148 : xl_D mX2_parts 148 (.ireturn) 1 149 := ⟨zd zq_17 (by decide +kernel), rfl⟩
theorem iX2_parts_149 : xl_D mX2_parts 149 (.iinc 5 (-1)) 3 152 := ⟨zd zq_382 (by decide +kernel), rfl⟩
theorem iX2_parts_152 : xl_J mX2_parts 152 (fun o => .goto o) 155 104 := ⟨-48, zd zq_383 (by decide +kernel), rfl, rfl⟩
theorem iX2_parts_155 : xl_D mX2_parts 155 (.bipush (-2)) 2 157 := ⟨zd zq_256 (by decide +kernel), rfl⟩
theorem iX2_parts_157 : xl_D mX2_parts 157 (.ireturn) 1 158 := ⟨zd zq_17 (by decide +kernel), rfl⟩
theorem iX2_again_0 : xl_D mX2_again 0 (.iload_n 1) 1 1 := ⟨zd zq_3 (by decide +kernel), rfl⟩
theorem iX2_again_1 : xl_D mX2_again 1 (.iload_n 2) 1 2 := ⟨zd zq_6 (by decide +kernel), rfl⟩
theorem iX2_again_2 : xl_D mX2_again 2 (.iload_n 3) 1 3 := ⟨zd zq_25 (by decide +kernel), rfl⟩
theorem iX2_again_3 : xl_Cs mX2_again 3 mX2_areSettings 6 := ⟨48, zd zq_245 (by decide +kernel), rfl, lX2_48, Nat.le_of_ble_eq_true rfl, Nat.le_of_ble_eq_true rfl⟩
theorem iX2_again_6 : xl_J mX2_again 6 (fun o => .ifCond .ne o) 9 11 := ⟨5, zd zq_246 (by decide +kernel), rfl, rfl⟩
theorem iX2_again_9 : xl_D mX2_again 9 (.iconst (-1)) 1 10 := ⟨zd zq_104 (by decide +kernel), rfl⟩
theorem iX2_again_10 : xl_D mX2_again 10 (.ireturn) 1 11 := ⟨zd zq_17 (by decide +kernel), rfl⟩
theorem iX2_again_11 : xl_D mX2_again 11 (.aload_n 0) 1 12 := ⟨zd zq_0 (by decide +kernel), rfl⟩
theorem iX2_again_12 : xl_D mX2_again 12 (.iload_n 1) 1 13 := ⟨zd zq_3 (by decide +kernel), rfl⟩
theorem iX2_again_13 : xl_D mX2_again 13 (.iload_n 2) 1 14 := ⟨zd zq_6 (by decide +kernel), rfl⟩
theorem iX2_again_14 : xl_D mX2_again 14 (.iload_n 3) 1 15 := ⟨zd zq_25 (by decide +kernel), rfl⟩
theorem iX2_again_15 : xl_D mX2_again 15 (.iconst (-1)) 1 16 := ⟨zd zq_104 (by decide +kernel), rfl⟩
theorem iX2_again_16 : xl_Ca mX2_again 16 mX2_replay 19 := ⟨247, zd zq_384 (by decide +kernel), rfl, lX2_247, Nat.le_of_ble_eq_true rfl, Nat.le_of_ble_eq_true rfl⟩
theorem iX2_again_19 : xl_D mX2_again 19 (.aload_n 0) 1 20 := ⟨zd zq_0 (by decide +kernel), rfl⟩
theorem iX2_again_20 : xl_Ca mX2_again 20 mX2_tellNothing 23 := ⟨180, zd zq_310 (by decide +kernel), rfl, lX2_180, Nat.le_of_ble_eq_true rfl, Nat.le_of_ble_eq_true rfl⟩
theorem iX2_again_23 : xl_D mX2_again 23 (.iconst 0) 1 24 := ⟨zd zq_2 (by decide +kernel), rfl⟩
theorem iX2_again_24 : xl_D mX2_again 24 (.istore 4) 2 26 := ⟨zd zq_50 (by decide +kernel), rfl⟩
theorem iX2_again_26 : xl_D mX2_again 26 (.iload 4) 2 28 := ⟨zd zq_51 (by decide +kernel), rfl⟩
theorem iX2_again_28 : xl_D mX2_again 28 (.iconst 4) 1 29 := ⟨zd zq_63 (by decide +kernel), rfl⟩
theorem iX2_again_29 : xl_J mX2_again 29 (fun o => .if_icmp .ge o) 32 52 := ⟨23, zd zq_52 (by decide +kernel), rfl, rfl⟩
theorem iX2_again_32 : xl_D mX2_again 32 (.aload_n 0) 1 33 := ⟨zd zq_0 (by decide +kernel), rfl⟩
theorem iX2_again_33 : xl_D mX2_again 33 (.aload_n 0) 1 34 := ⟨zd zq_0 (by decide +kernel), rfl⟩
theorem iX2_again_34 : xl_G mX2_again 34 2 1 37 := ⟨16, zd zq_355 (by decide +kernel), rfl, fX2_16⟩
theorem iX2_again_37 : xl_D mX2_again 37 (.iload 4) 2 39 := ⟨zd zq_51 (by decide +kernel), rfl⟩
theorem iX2_again_39 : xl_Ca mX2_again 39 mX1_sentOf 42 := ⟨164, zd zq_301 (by decide +kernel), rfl, lX2_164, Nat.le_of_ble_eq_true rfl, Nat.le_of_ble_eq_true rfl⟩
theorem iX2_again_42 : xl_D mX2_again 42 (.i2l) 1 43 := ⟨zd zq_266 (by decide +kernel), rfl⟩
theorem iX2_again_43 : xl_Ca mX2_again 43 mX2_tellMore 46 := ⟨183, zd zq_312 (by decide +kernel), rfl, lX2_183, Nat.le_of_ble_eq_true rfl, Nat.le_of_ble_eq_true rfl⟩
theorem iX2_again_46 : xl_D mX2_again 46 (.iinc 4 1) 3 49 := ⟨zd zq_54 (by decide +kernel), rfl⟩
theorem iX2_again_49 : xl_J mX2_again 49 (fun o => .goto o) 52 26 := ⟨-23, zd zq_385 (by decide +kernel), rfl, rfl⟩
theorem iX2_again_52 : xl_D mX2_again 52 (.aload_n 0) 1 53 := ⟨zd zq_0 (by decide +kernel), rfl⟩
theorem iX2_again_53 : xl_D mX2_again 53 (.aload_n 0) 1 54 := ⟨zd zq_0 (by decide +kernel), rfl⟩
theorem iX2_again_54 : xl_G mX2_again 54 2 1 57 := ⟨16, zd zq_355 (by decide +kernel), rfl, fX2_16⟩
theorem iX2_again_57 : xl_G mX2_again 57 1 11 60 := ⟨131, zd zq_287 (by decide +kernel), rfl, fX2_131⟩
theorem iX2_again_60 : xl_G mX2_again 60 0 3 63 := ⟨76, zd zq_258 (by decide +kernel), rfl, fX2_76⟩
theorem iX2_again_63 : xl_D mX2_again 63 (.i2l) 1 64 := ⟨zd zq_266 (by decide +kernel), rfl⟩
theorem iX2_again_64 : xl_Ca mX2_again 64 mX2_tellMore 67 := ⟨183, zd zq_312 (by decide +kernel), rfl, lX2_183, Nat.le_of_ble_eq_true rfl, Nat.le_of_ble_eq_true rfl⟩
theorem iX2_again_67 : xl_D mX2_again 67 (.aload_n 0) 1 68 := ⟨zd zq_0 (by decide +kernel), rfl⟩
theorem iX2_again_68 : xl_D mX2_again 68 (.aload_n 0) 1 69 := ⟨zd zq_0 (by decide +kernel), rfl⟩
theorem iX2_again_69 : xl_G mX2_again 69 2 1 72 := ⟨16, zd zq_355 (by decide +kernel), rfl, fX2_16⟩
theorem iX2_again_72 : xl_G mX2_again 72 1 5 75 := ⟨174, zd zq_308 (by decide +kernel), rfl, fX2_174⟩
theorem iX2_again_75 : xl_D mX2_again 75 (.i2l) 1 76 := ⟨zd zq_266 (by decide +kernel), rfl⟩
theorem iX2_again_76 : xl_Ca mX2_again 76 mX2_tellMore 79 := ⟨183, zd zq_312 (by decide +kernel), rfl, lX2_183, Nat.le_of_ble_eq_true rfl, Nat.le_of_ble_eq_true rfl⟩
theorem iX2_again_79 : xl_D mX2_again 79 (.aload_n 0) 1 80 := ⟨zd zq_0 (by decide +kernel), rfl⟩
theorem iX2_again_80 : xl_G mX2_again 80 2 1 83 := ⟨16, zd zq_355 (by decide +kernel), rfl, fX2_16⟩
theorem iX2_again_83 : xl_G mX2_again 83 1 8 86 := ⟨198, zd zq_339 (by decide +kernel), rfl, fX2_198⟩
theorem iX2_again_86 : xl_D mX2_again 86 (.ireturn) 1 87 := ⟨zd zq_17 (by decide +kernel), rfl⟩
theorem iX2_without_0 : xl_D mX2_without 0 (.aload_n 0) 1 1 := ⟨zd zq_0 (by decide +kernel), rfl⟩
theorem iX2_without_1 : xl_D mX2_without 1 (.iload_n 1) 1 2 := ⟨zd zq_3 (by decide +kernel), rfl⟩
theorem iX2_without_2 : xl_Ca mX2_without 2 mX2_isSource 5 := ⟨59, zd zq_250 (by decide +kernel), rfl, lX2_59, Nat.le_of_ble_eq_true rfl, Nat.le_of_ble_eq_true rfl⟩
theorem iX2_without_5 : xl_J mX2_without 5 (fun o => .ifCond .ne o) 8 10 := ⟨5, zd zq_246 (by decide +kernel), rfl, rfl⟩
theorem iX2_without_8 : xl_D mX2_without 8 (.iconst (-1)) 1 9 := ⟨zd zq_104 (by decide +kernel), rfl⟩
theorem iX2_without_9 : xl_D mX2_without 9 (.ireturn) 1 10 := ⟨zd zq_17 (by decide +kernel), rfl⟩
theorem iX2_without_10 : xl_D mX2_without 10 (.aload_n 0) 1 11 := ⟨zd zq_0 (by decide +kernel), rfl⟩
theorem iX2_without_11 : xl_G mX2_without 11 2 0 14 := ⟨10, zd zq_248 (by decide +kernel), rfl, fX2_10⟩
theorem iX2_without_14 : xl_G mX2_without 14 1 10 17 := ⟨63, zd zq_253 (by decide +kernel), rfl, fX2_63⟩
theorem iX2_without_17 : xl_G mX2_without 17 0 3 20 := ⟨76, zd zq_258 (by decide +kernel), rfl, fX2_76⟩
theorem iX2_without_20 : xl_D mX2_without 20 (.iconst 1) 1 21 := ⟨zd zq_36 (by decide +kernel), rfl⟩
theorem iX2_without_21 : xl_J mX2_without 21 (fun o => .if_icmp .ne o) 24 27 := ⟨6, zd zq_255 (by decide +kernel), rfl, rfl⟩
theorem iX2_without_24 : xl_D mX2_without 24 (.bipush (-2)) 2 26 := ⟨zd zq_256 (by decide +kernel), rfl⟩
theorem iX2_without_26 : xl_D mX2_without 26 (.ireturn) 1 27 := ⟨zd zq_17 (by decide +kernel), rfl⟩
theorem iX2_without_27 : xl_D mX2_without 27 (.aload_n 0) 1 28 := ⟨zd zq_0 (by decide +kernel), rfl⟩
theorem iX2_without_28 : xl_D mX2_without 28 (.aload_n 0) 1 29 := ⟨zd zq_0 (by decide +kernel), rfl⟩
theorem iX2_without_29 : xl_G mX2_without 29 2 0 32 := ⟨10, zd zq_248 (by decide +kernel), rfl, fX2_10⟩
theorem iX2_without_32 : xl_G mX2_without 32 1 0 35 := ⟨212, zd zq_350 (by decide +kernel), rfl, fX2_212⟩
theorem iX2_without_35 : xl_D mX2_without 35 (.aload_n 0) 1 36 := ⟨zd zq_0 (by decide +kernel), rfl⟩
theorem iX2_without_36 : xl_G mX2_without 36 2 0 39 := ⟨10, zd zq_248 (by decide +kernel), rfl, fX2_10⟩
theorem iX2_without_39 : xl_G mX2_without 39 1 1 42 := ⟨250, zd zq_386 (by decide +kernel), rfl, fX2_250⟩
theorem iX2_without_42 : xl_D mX2_without 42 (.aload_n 0) 1 43 := ⟨zd zq_0 (by decide +kernel), rfl⟩
theorem iX2_without_43 : xl_G mX2_without 43 2 0 46 := ⟨10, zd zq_248 (by decide +kernel), rfl, fX2_10⟩
theorem iX2_without_46 : xl_G mX2_without 46 1 2 49 := ⟨253, zd zq_387 (by decide +kernel), rfl, fX2_253⟩
theorem iX2_without_49 : xl_D mX2_without 49 (.iload_n 1) 1 50 := ⟨zd zq_3 (by decide +kernel), rfl⟩
theorem iX2_without_50 : xl_Ca mX2_without 50 mX2_replay 53 := ⟨247, zd zq_384 (by decide +kernel), rfl, lX2_247, Nat.le_of_ble_eq_true rfl, Nat.le_of_ble_eq_true rfl⟩
theorem iX2_without_53 : xl_D mX2_without 53 (.aload_n 0) 1 54 := ⟨zd zq_0 (by decide +kernel), rfl⟩
theorem iX2_without_54 : xl_D mX2_without 54 (.aload_n 0) 1 55 := ⟨zd zq_0 (by decide +kernel), rfl⟩
theorem iX2_without_55 : xl_G mX2_without 55 2 1 58 := ⟨16, zd zq_355 (by decide +kernel), rfl, fX2_16⟩
theorem iX2_without_58 : xl_G mX2_without 58 1 8 61 := ⟨198, zd zq_339 (by decide +kernel), rfl, fX2_198⟩
theorem iX2_without_61 : xl_D mX2_without 61 (.i2l) 1 62 := ⟨zd zq_266 (by decide +kernel), rfl⟩
theorem iX2_without_62 : xl_D mX2_without 62 (.aload_n 0) 1 63 := ⟨zd zq_0 (by decide +kernel), rfl⟩
theorem iX2_without_63 : xl_G mX2_without 63 2 1 66 := ⟨16, zd zq_355 (by decide +kernel), rfl, fX2_16⟩
theorem iX2_without_66 : xl_G mX2_without 66 1 11 69 := ⟨131, zd zq_287 (by decide +kernel), rfl, fX2_131⟩
theorem iX2_without_69 : xl_G mX2_without 69 0 3 72 := ⟨76, zd zq_258 (by decide +kernel), rfl, fX2_76⟩
theorem iX2_without_72 : xl_D mX2_without 72 (.i2l) 1 73 := ⟨zd zq_266 (by decide +kernel), rfl⟩
theorem iX2_without_73 : xl_D mX2_without 73 (.aload_n 0) 1 74 := ⟨zd zq_0 (by decide +kernel), rfl⟩
theorem iX2_without_74 : xl_G mX2_without 74 2 1 77 := ⟨16, zd zq_355 (by decide +kernel), rfl, fX2_16⟩
theorem iX2_without_77 : xl_G mX2_without 77 1 5 80 := ⟨174, zd zq_308 (by decide +kernel), rfl, fX2_174⟩
theorem iX2_without_80 : xl_D mX2_without 80 (.i2l) 1 81 := ⟨zd zq_266 (by decide +kernel), rfl⟩
theorem iX2_without_81 : xl_Ca mX2_without 81 mX2_tellThree 84 := ⟨170, zd zq_307 (by decide +kernel), rfl, lX2_170, Nat.le_of_ble_eq_true rfl, Nat.le_of_ble_eq_true rfl⟩
theorem iX2_without_84 : xl_D mX2_without 84 (.aload_n 0) 1 85 := ⟨zd zq_0 (by decide +kernel), rfl⟩
theorem iX2_without_85 : xl_G mX2_without 85 2 1 88 := ⟨16, zd zq_355 (by decide +kernel), rfl, fX2_16⟩
theorem iX2_without_88 : xl_G mX2_without 88 1 3 91 := ⟨93, zd zq_267 (by decide +kernel), rfl, fX2_93⟩
theorem iX2_without_91 : xl_D mX2_without 91 (.ireturn) 1 92 := ⟨zd zq_17 (by decide +kernel), rfl⟩
theorem iX2_input_0 : xl_D mX2_input 0 (.iload_n 1) 1 1 := ⟨zd zq_3 (by decide +kernel), rfl⟩
theorem iX2_input_1 : xl_J mX2_input 1 (fun o => .ifCond .lt o) 4 27 := ⟨26, zd zq_388 (by decide +kernel), rfl, rfl⟩
theorem iX2_input_4 : xl_D mX2_input 4 (.iload_n 1) 1 5 := ⟨zd zq_3 (by decide +kernel), rfl⟩
theorem iX2_input_5 : xl_D mX2_input 5 (.aload_n 0) 1 6 := ⟨zd zq_0 (by decide +kernel), rfl⟩
theorem iX2_input_6 : xl_G mX2_input 6 2 0 9 := ⟨10, zd zq_248 (by decide +kernel), rfl, fX2_10⟩
theorem iX2_input_9 : xl_G mX2_input 9 1 14 12 := ⟨73, zd zq_257 (by decide +kernel), rfl, fX2_73⟩
theorem iX2_input_12 : xl_G mX2_input 12 0 3 15 := ⟨76, zd zq_258 (by decide +kernel), rfl, fX2_76⟩
theorem iX2_input_15 : xl_J mX2_input 15 (fun o => .if_icmp .ge o) 18 27 := ⟨12, zd zq_362 (by decide +kernel), rfl, rfl⟩
theorem iX2_input_18 : xl_D mX2_input 18 (.iload_n 2) 1 19 := ⟨zd zq_6 (by decide +kernel), rfl⟩
theorem iX2_input_19 : xl_J mX2_input 19 (fun o => .ifCond .lt o) 22 27 := ⟨8, zd zq_174 (by decide +kernel), rfl, rfl⟩
theorem iX2_input_22 : xl_D mX2_input 22 (.iload_n 2) 1 23 := ⟨zd zq_6 (by decide +kernel), rfl⟩
theorem iX2_input_23 : xl_D mX2_input 23 (.iconst 3) 1 24 := ⟨zd zq_123 (by decide +kernel), rfl⟩
theorem iX2_input_24 : xl_J mX2_input 24 (fun o => .if_icmp .le o) 27 35 := ⟨11, zd zq_281 (by decide +kernel), rfl, rfl⟩
theorem iX2_input_27 : xl_D mX2_input 27 (.new 128) 3 30 := ⟨zd zq_282 (by decide +kernel), rfl⟩
theorem iX2_input_30 : xl_D mX2_input 30 (.dup) 1 31 := ⟨zd zq_46 (by decide +kernel), rfl⟩
theorem iX2_input_31 : xl_D mX2_input 31 (.invokespecial 130) 3 34 := ⟨zd zq_283 (by decide +kernel), rfl⟩
theorem iX2_input_34 : xl_D mX2_input 34 (.athrow) 1 35 := ⟨zd zq_284 (by decide +kernel), rfl⟩
theorem iX2_input_35 : xl_D mX2_input 35 (.aload_n 0) 1 36 := ⟨zd zq_0 (by decide +kernel), rfl⟩
theorem iX2_input_36 : xl_G mX2_input 36 2 0 39 := ⟨10, zd zq_248 (by decide +kernel), rfl, fX2_10⟩
theorem iX2_input_39 : xl_G mX2_input 39 1 14 42 := ⟨73, zd zq_257 (by decide +kernel), rfl, fX2_73⟩
theorem iX2_input_42 : xl_D mX2_input 42 (.iload_n 1) 1 43 := ⟨zd zq_3 (by decide +kernel), rfl⟩
theorem iX2_input_43 : xl_D mX2_input 43 (.iload_n 2) 1 44 := ⟨zd zq_6 (by decide +kernel), rfl⟩
theorem iX2_input_44 : xl_Ca mX2_input 44 mX0_get 47 := ⟨67, zd zq_254 (by decide +kernel), rfl, lX2_67, Nat.le_of_ble_eq_true rfl, Nat.le_of_ble_eq_true rfl⟩
theorem iX2_input_47 : xl_D mX2_input 47 (.ireturn) 1 48 := ⟨zd zq_17 (by decide +kernel), rfl⟩
theorem iX2_day_0 : xl_D mX2_day 0 (.aload_n 0) 1 1 := ⟨zd zq_0 (by decide +kernel), rfl⟩
theorem iX2_day_1 : xl_Ca mX2_day 1 mX2_takeText 4 := ⟨100, zd zq_269 (by decide +kernel), rfl, lX2_100, Nat.le_of_ble_eq_true rfl, Nat.le_of_ble_eq_true rfl⟩
theorem iX2_day_4 : xl_D mX2_day 4 (.istore_n 1) 1 5 := ⟨zd zq_194 (by decide +kernel), rfl⟩
theorem iX2_day_5 : xl_D mX2_day 5 (.aload_n 0) 1 6 := ⟨zd zq_0 (by decide +kernel), rfl⟩
theorem iX2_day_6 : xl_D mX2_day 6 (.iload_n 1) 1 7 := ⟨zd zq_3 (by decide +kernel), rfl⟩
theorem iX2_day_7 : xl_Ca mX2_day 7 mX2_dayMisfit 10 := ⟨256, zd zq_389 (by decide +kernel), rfl, lX2_256, Nat.le_of_ble_eq_true rfl, Nat.le_of_ble_eq_true rfl⟩
theorem iX2_day_10 : xl_D mX2_day 10 (.istore_n 2) 1 11 := ⟨zd zq_41 (by decide +kernel), rfl⟩
theorem iX2_day_11 : xl_D mX2_day 11 (.iload_n 2) 1 12 := ⟨zd zq_6 (by decide +kernel), rfl⟩
theorem iX2_day_12 : xl_J mX2_day 12 (fun o => .ifCond .lt o) 15 19 := ⟨7, zd zq_270 (by decide +kernel), rfl, rfl⟩
theorem iX2_day_15 : xl_D mX2_day 15 (.iconst (-1)) 1 16 := ⟨zd zq_104 (by decide +kernel), rfl⟩
theorem iX2_day_16 : xl_D mX2_day 16 (.iload_n 2) 1 17 := ⟨zd zq_6 (by decide +kernel), rfl⟩
theorem iX2_day_17 : xl_D mX2_day 17 (.isub) 1 18 := ⟨zd zq_39 (by decide +kernel), rfl⟩
theorem iX2_day_18 : xl_D mX2_day 18 (.ireturn) 1 19 := ⟨zd zq_17 (by decide +kernel), rfl⟩
theorem iX2_day_19 : xl_D mX2_day 19 (.aload_n 0) 1 20 := ⟨zd zq_0 (by decide +kernel), rfl⟩
theorem iX2_day_20 : xl_G mX2_day 20 2 0 23 := ⟨10, zd zq_248 (by decide +kernel), rfl, fX2_10⟩
theorem iX2_day_23 : xl_G mX2_day 23 1 4 26 := ⟨87, zd zq_264 (by decide +kernel), rfl, fX2_87⟩
theorem iX2_day_26 : xl_D mX2_day 26 (.istore_n 3) 1 27 := ⟨zd zq_131 (by decide +kernel), rfl⟩
theorem iX2_day_27 : xl_D mX2_day 27 (.iconst 0) 1 28 := ⟨zd zq_2 (by decide +kernel), rfl⟩
theorem iX2_day_28 : xl_D mX2_day 28 (.istore 4) 2 30 := ⟨zd zq_50 (by decide +kernel), rfl⟩
theorem iX2_day_30 : xl_D mX2_day 30 (.iconst 0) 1 31 := ⟨zd zq_2 (by decide +kernel), rfl⟩
theorem iX2_day_31 : xl_D mX2_day 31 (.istore 5) 2 33 := ⟨zd zq_91 (by decide +kernel), rfl⟩
theorem iX2_day_33 : xl_D mX2_day 33 (.iconst 0) 1 34 := ⟨zd zq_2 (by decide +kernel), rfl⟩
theorem iX2_day_34 : xl_D mX2_day 34 (.istore 6) 2 36 := ⟨zd zq_119 (by decide +kernel), rfl⟩
theorem iX2_day_36 : xl_D mX2_day 36 (.iconst 0) 1 37 := ⟨zd zq_2 (by decide +kernel), rfl⟩
theorem iX2_day_37 : xl_D mX2_day 37 (.istore 7) 2 39 := ⟨zd zq_122 (by decide +kernel), rfl⟩
theorem iX2_day_39 : xl_D mX2_day 39 (.iload 7) 2 41 := ⟨zd zq_124 (by decide +kernel), rfl⟩
theorem iX2_day_41 : xl_D mX2_day 41 (.bipush 80) 2 43 := ⟨zd zq_229 (by decide +kernel), rfl⟩
theorem iX2_day_43 : xl_J mX2_day 43 (fun o => .if_icmp .ge o) 46 107 := ⟨64, zd zq_390 (by decide +kernel), rfl, rfl⟩
theorem iX2_day_46 : xl_D mX2_day 46 (.iload 6) 2 48 := ⟨zd zq_125 (by decide +kernel), rfl⟩
theorem iX2_day_48 : xl_D mX2_day 48 (.iload_n 1) 1 49 := ⟨zd zq_3 (by decide +kernel), rfl⟩
theorem iX2_day_49 : xl_J mX2_day 49 (fun o => .if_icmp .ge o) 52 107 := ⟨58, zd zq_302 (by decide +kernel), rfl, rfl⟩
theorem iX2_day_52 : xl_D mX2_day 52 (.aload_n 0) 1 53 := ⟨zd zq_0 (by decide +kernel), rfl⟩
theorem iX2_day_53 : xl_D mX2_day 53 (.iload 6) 2 55 := ⟨zd zq_125 (by decide +kernel), rfl⟩
theorem iX2_day_55 : xl_Ca mX2_day 55 mX2_actRefusal 58 := ⟨259, zd zq_391 (by decide +kernel), rfl, lX2_259, Nat.le_of_ble_eq_true rfl, Nat.le_of_ble_eq_true rfl⟩
theorem iX2_day_58 : xl_J mX2_day 58 (fun o => .ifCond .ge o) 61 67 := ⟨9, zd zq_392 (by decide +kernel), rfl, rfl⟩
theorem iX2_day_61 : xl_D mX2_day 61 (.iconst 1) 1 62 := ⟨zd zq_36 (by decide +kernel), rfl⟩
theorem iX2_day_62 : xl_D mX2_day 62 (.istore 5) 2 64 := ⟨zd zq_91 (by decide +kernel), rfl⟩
theorem iX2_day_64 : xl_J mX2_day 64 (fun o => .goto o) 67 107 := ⟨43, zd zq_393 (by decide +kernel), rfl, rfl⟩
theorem iX2_day_67 : xl_D mX2_day 67 (.iload 4) 2 69 := ⟨zd zq_51 (by decide +kernel), rfl⟩
theorem iX2_day_69 : xl_J mX2_day 69 (fun o => .ifCond .ne o) 72 76 := ⟨7, zd zq_192 (by decide +kernel), rfl, rfl⟩
theorem iX2_day_72 : xl_D mX2_day 72 (.aload_n 0) 1 73 := ⟨zd zq_0 (by decide +kernel), rfl⟩
theorem iX2_day_73 : xl_Ca mX2_day 73 mX2_remember 76 := ⟨52, zd zq_247 (by decide +kernel), rfl, lX2_52, Nat.le_of_ble_eq_true rfl, Nat.le_of_ble_eq_true rfl⟩
theorem iX2_day_76 : xl_D mX2_day 76 (.aload_n 0) 1 77 := ⟨zd zq_0 (by decide +kernel), rfl⟩
theorem iX2_day_77 : xl_D mX2_day 77 (.iload 6) 2 79 := ⟨zd zq_125 (by decide +kernel), rfl⟩
theorem iX2_day_79 : xl_Ca mX2_day 79 mX2_comeAct 82 := ⟨262, zd zq_394 (by decide +kernel), rfl, lX2_262, Nat.le_of_ble_eq_true rfl, Nat.le_of_ble_eq_true rfl⟩
theorem iX2_day_82 : xl_D mX2_day 82 (.iinc 4 1) 3 85 := ⟨zd zq_54 (by decide +kernel), rfl⟩
theorem iX2_day_85 : xl_D mX2_day 85 (.iload 6) 2 87 := ⟨zd zq_125 (by decide +kernel), rfl⟩
theorem iX2_day_87 : xl_D mX2_day 87 (.iconst 1) 1 88 := ⟨zd zq_36 (by decide +kernel), rfl⟩
theorem iX2_day_88 : xl_D mX2_day 88 (.aload_n 0) 1 89 := ⟨zd zq_0 (by decide +kernel), rfl⟩
theorem iX2_day_89 : xl_D mX2_day 89 (.iload 6) 2 91 := ⟨zd zq_125 (by decide +kernel), rfl⟩
theorem iX2_day_91 : xl_Ca mX2_day 91 mX2_actForm 94 := ⟨265, zd zq_395 (by decide +kernel), rfl, lX2_265, Nat.le_of_ble_eq_true rfl, Nat.le_of_ble_eq_true rfl⟩
theorem iX2_day_94 : xl_Ca mX2_day 94 mJ0_length_8abf5 97 := ⟨269, zd zq_396 (by decide +kernel), rfl, lX2_269, Nat.le_of_ble_eq_true rfl, Nat.le_of_ble_eq_true rfl⟩
theorem iX2_day_97 : xl_D mX2_day 97 (.iadd) 1 98 := ⟨zd zq_19 (by decide +kernel), rfl⟩
theorem iX2_day_98 : xl_D mX2_day 98 (.iadd) 1 99 := ⟨zd zq_19 (by decide +kernel), rfl⟩
theorem iX2_day_99 : xl_D mX2_day 99 (.istore 6) 2 101 := ⟨zd zq_119 (by decide +kernel), rfl⟩
theorem iX2_day_101 : xl_D mX2_day 101 (.iinc 7 1) 3 104 := ⟨zd zq_177 (by decide +kernel), rfl⟩
theorem iX2_day_104 : xl_J mX2_day 104 (fun o => .goto o) 107 39 := ⟨-65, zd zq_306 (by decide +kernel), rfl, rfl⟩
theorem iX2_day_107 : xl_D mX2_day 107 (.aload_n 0) 1 108 := ⟨zd zq_0 (by decide +kernel), rfl⟩
theorem iX2_day_108 : xl_D mX2_day 108 (.iload 5) 2 110 := ⟨zd zq_92 (by decide +kernel), rfl⟩
theorem iX2_day_110 : xl_D mX2_day 110 (.i2l) 1 111 := ⟨zd zq_266 (by decide +kernel), rfl⟩
theorem iX2_day_111 : xl_D mX2_day 111 (.aload_n 0) 1 112 := ⟨zd zq_0 (by decide +kernel), rfl⟩
theorem iX2_day_112 : xl_G mX2_day 112 2 0 115 := ⟨10, zd zq_248 (by decide +kernel), rfl, fX2_10⟩
theorem iX2_day_115 : xl_G mX2_day 115 1 4 118 := ⟨87, zd zq_264 (by decide +kernel), rfl, fX2_87⟩
theorem iX2_day_118 : xl_D mX2_day 118 (.iload_n 3) 1 119 := ⟨zd zq_25 (by decide +kernel), rfl⟩
theorem iX2_day_119 : xl_D mX2_day 119 (.isub) 1 120 := ⟨zd zq_39 (by decide +kernel), rfl⟩
theorem iX2_day_120 : xl_D mX2_day 120 (.i2l) 1 121 := ⟨zd zq_266 (by decide +kernel), rfl⟩
theorem iX2_day_121 : xl_Ca mX2_day 121 mX2_tellTwo 124 := ⟨96, zd zq_268 (by decide +kernel), rfl, lX2_96, Nat.le_of_ble_eq_true rfl, Nat.le_of_ble_eq_true rfl⟩
theorem iX2_day_124 : xl_D mX2_day 124 (.iload 4) 2 126 := ⟨zd zq_51 (by decide +kernel), rfl⟩
theorem iX2_day_126 : xl_D mX2_day 126 (.ireturn) 1 127 := ⟨zd zq_17 (by decide +kernel), rfl⟩
theorem iX2_undo_0 : xl_D mX2_undo 0 (.aload_n 0) 1 1 := ⟨zd zq_0 (by decide +kernel), rfl⟩
theorem iX2_undo_1 : xl_G mX2_undo 1 2 4 4 := ⟨274, zd zq_397 (by decide +kernel), rfl, fX2_274⟩
theorem iX2_undo_4 : xl_J mX2_undo 4 (fun o => .ifCond .ne o) 7 9 := ⟨5, zd zq_246 (by decide +kernel), rfl, rfl⟩
theorem iX2_undo_7 : xl_D mX2_undo 7 (.iconst (-1)) 1 8 := ⟨zd zq_104 (by decide +kernel), rfl⟩
theorem iX2_undo_8 : xl_D mX2_undo 8 (.ireturn) 1 9 := ⟨zd zq_17 (by decide +kernel), rfl⟩
theorem iX2_undo_9 : xl_D mX2_undo 9 (.aload_n 0) 1 10 := ⟨zd zq_0 (by decide +kernel), rfl⟩
theorem iX2_undo_10 : xl_D mX2_undo 10 (.dup) 1 11 := ⟨zd zq_46 (by decide +kernel), rfl⟩
theorem iX2_undo_11 : xl_G mX2_undo 11 2 4 14 := ⟨274, zd zq_397 (by decide +kernel), rfl, fX2_274⟩
theorem iX2_undo_14 : xl_D mX2_undo 14 (.iconst 1) 1 15 := ⟨zd zq_36 (by decide +kernel), rfl⟩
theorem iX2_undo_15 : xl_D mX2_undo 15 (.isub) 1 16 := ⟨zd zq_39 (by decide +kernel), rfl⟩
theorem iX2_undo_16 : xl_P mX2_undo 16 2 4 .int 19 := ⟨274, zd zq_398 (by decide +kernel), rfl, wX2_274⟩
theorem iX2_undo_19 : xl_D mX2_undo 19 (.aload_n 0) 1 20 := ⟨zd zq_0 (by decide +kernel), rfl⟩
theorem iX2_undo_20 : xl_G mX2_undo 20 2 0 23 := ⟨10, zd zq_248 (by decide +kernel), rfl, fX2_10⟩
theorem iX2_undo_23 : xl_D mX2_undo 23 (.aload_n 0) 1 24 := ⟨zd zq_0 (by decide +kernel), rfl⟩
theorem iX2_undo_24 : xl_G mX2_undo 24 2 2 27 := ⟨19, zd zq_9 (by decide +kernel), rfl, fX2_19⟩
theorem iX2_undo_27 : xl_D mX2_undo 27 (.aload_n 0) 1 28 := ⟨zd zq_0 (by decide +kernel), rfl⟩
theorem iX2_undo_28 : xl_G mX2_undo 28 2 3 31 := ⟨277, zd zq_399 (by decide +kernel), rfl, fX2_277⟩
theorem iX2_undo_31 : xl_D mX2_undo 31 (.aload_n 0) 1 32 := ⟨zd zq_0 (by decide +kernel), rfl⟩
theorem iX2_undo_32 : xl_G mX2_undo 32 2 4 35 := ⟨274, zd zq_397 (by decide +kernel), rfl, fX2_274⟩
theorem iX2_undo_35 : xl_D mX2_undo 35 (.iadd) 1 36 := ⟨zd zq_19 (by decide +kernel), rfl⟩
theorem iX2_undo_36 : xl_D mX2_undo 36 (.bipush 6) 2 38 := ⟨zd zq_71 (by decide +kernel), rfl⟩
theorem iX2_undo_38 : xl_D mX2_undo 38 (.irem) 1 39 := ⟨zd zq_191 (by decide +kernel), rfl⟩
theorem iX2_undo_39 : xl_D mX2_undo 39 (.aaload) 1 40 := ⟨zd zq_400 (by decide +kernel), rfl⟩
theorem iX2_undo_40 : xl_Ca mX2_undo 40 mX1_copyFrom 43 := ⟨222, zd zq_356 (by decide +kernel), rfl, lX2_222, Nat.le_of_ble_eq_true rfl, Nat.le_of_ble_eq_true rfl⟩
theorem iX2_undo_43 : xl_D mX2_undo 43 (.aload_n 0) 1 44 := ⟨zd zq_0 (by decide +kernel), rfl⟩
theorem iX2_undo_44 : xl_G mX2_undo 44 2 4 47 := ⟨274, zd zq_397 (by decide +kernel), rfl, fX2_274⟩
theorem iX2_undo_47 : xl_D mX2_undo 47 (.ireturn) 1 48 := ⟨zd zq_17 (by decide +kernel), rfl⟩
theorem iX2_years_0 : xl_D mX2_years 0 (.iload_n 2) 1 1 := ⟨zd zq_6 (by decide +kernel), rfl⟩
theorem iX2_years_1 : xl_D mX2_years 1 (.iconst 1) 1 2 := ⟨zd zq_36 (by decide +kernel), rfl⟩
theorem iX2_years_2 : xl_J mX2_years 2 (fun o => .if_icmp .lt o) 5 11 := ⟨9, zd zq_371 (by decide +kernel), rfl, rfl⟩
theorem iX2_years_5 : xl_D mX2_years 5 (.iload_n 2) 1 6 := ⟨zd zq_6 (by decide +kernel), rfl⟩
theorem iX2_years_6 : xl_D mX2_years 6 (.bipush 40) 2 8 := ⟨zd zq_73 (by decide +kernel), rfl⟩
theorem iX2_years_8 : xl_J mX2_years 8 (fun o => .if_icmp .le o) 11 13 := ⟨5, zd zq_235 (by decide +kernel), rfl, rfl⟩
theorem iX2_years_11 : xl_D mX2_years 11 (.iconst (-1)) 1 12 := ⟨zd zq_104 (by decide +kernel), rfl⟩
theorem iX2_years_12 : xl_D mX2_years 12 (.ireturn) 1 13 := ⟨zd zq_17 (by decide +kernel), rfl⟩
theorem iX2_years_13 : xl_D mX2_years 13 (.aload_n 0) 1 14 := ⟨zd zq_0 (by decide +kernel), rfl⟩
theorem iX2_years_14 : xl_G mX2_years 14 2 1 17 := ⟨16, zd zq_355 (by decide +kernel), rfl, fX2_16⟩
theorem iX2_years_17 : xl_D mX2_years 17 (.aload_n 0) 1 18 := ⟨zd zq_0 (by decide +kernel), rfl⟩
theorem iX2_years_18 : xl_G mX2_years 18 2 0 21 := ⟨10, zd zq_248 (by decide +kernel), rfl, fX2_10⟩
theorem iX2_years_21 : xl_Ca mX2_years 21 mX1_copyFrom 24 := ⟨222, zd zq_356 (by decide +kernel), rfl, lX2_222, Nat.le_of_ble_eq_true rfl, Nat.le_of_ble_eq_true rfl⟩
theorem iX2_years_24 : xl_D mX2_years 24 (.iload_n 2) 1 25 := ⟨zd zq_6 (by decide +kernel), rfl⟩
theorem iX2_years_25 : xl_D mX2_years 25 (.sipush 160) 3 28 := ⟨zd zq_74 (by decide +kernel), rfl⟩
theorem iX2_years_28 : xl_D mX2_years 28 (.aload_n 0) 1 29 := ⟨zd zq_0 (by decide +kernel), rfl⟩
theorem iX2_years_29 : xl_G mX2_years 29 2 0 32 := ⟨10, zd zq_248 (by decide +kernel), rfl, fX2_10⟩
theorem iX2_years_32 : xl_G mX2_years 32 1 14 35 := ⟨73, zd zq_257 (by decide +kernel), rfl, fX2_73⟩
theorem iX2_years_35 : xl_G mX2_years 35 0 3 38 := ⟨76, zd zq_258 (by decide +kernel), rfl, fX2_76⟩
theorem iX2_years_38 : xl_D mX2_years 38 (.isub) 1 39 := ⟨zd zq_39 (by decide +kernel), rfl⟩
theorem iX2_years_39 : xl_Cm mX2_years 39 Lib.Math.min.name Lib.Math.min.code 42 := ⟨244, zd zq_376 (by decide +kernel), rfl, lX2_244, xl_stmin, xl_iMath, xl_comin, Nat.le_of_ble_eq_true rfl, Nat.le_of_ble_eq_true rfl⟩
theorem iX2_years_42 : xl_D mX2_years 42 (.istore_n 3) 1 43 := ⟨zd zq_131 (by decide +kernel), rfl⟩
theorem iX2_years_43 : xl_D mX2_years 43 (.iconst 1) 1 44 := ⟨zd zq_36 (by decide +kernel), rfl⟩
theorem iX2_years_44 : xl_D mX2_years 44 (.aload_n 0) 1 45 := ⟨zd zq_0 (by decide +kernel), rfl⟩
theorem iX2_years_45 : xl_G mX2_years 45 2 0 48 := ⟨10, zd zq_248 (by decide +kernel), rfl, fX2_10⟩
theorem iX2_years_48 : xl_G mX2_years 48 1 10 51 := ⟨63, zd zq_253 (by decide +kernel), rfl, fX2_63⟩
theorem iX2_years_51 : xl_G mX2_years 51 0 3 54 := ⟨76, zd zq_258 (by decide +kernel), rfl, fX2_76⟩
theorem iX2_years_54 : xl_Cm mX2_years 54 Lib.Math.max.name Lib.Math.max.code 57 := ⟨207, zd zq_343 (by decide +kernel), rfl, lX2_207, xl_stmax, xl_iMath, xl_comax, Nat.le_of_ble_eq_true rfl, Nat.le_of_ble_eq_true rfl⟩
theorem iX2_years_57 : xl_D mX2_years 57 (.istore 4) 2 59 := ⟨zd zq_50 (by decide +kernel), rfl⟩
theorem iX2_years_59 : xl_D mX2_years 59 (.iload_n 1) 1 60 := ⟨zd zq_3 (by decide +kernel), rfl⟩
theorem iX2_years_60 : xl_D mX2_years 60 (.istore 5) 2 62 := ⟨zd zq_91 (by decide +kernel), rfl⟩
theorem iX2_years_62 : xl_D mX2_years 62 (.iconst 0) 1 63 := ⟨zd zq_2 (by decide +kernel), rfl⟩
theorem iX2_years_63 : xl_D mX2_years 63 (.istore 6) 2 65 := ⟨zd zq_119 (by decide +kernel), rfl⟩
theorem iX2_years_65 : xl_D mX2_years 65 (.iload 6) 2 67 := ⟨zd zq_125 (by decide +kernel), rfl⟩
theorem iX2_years_67 : xl_D mX2_years 67 (.iload_n 3) 1 68 := ⟨zd zq_25 (by decide +kernel), rfl⟩
theorem iX2_years_68 : xl_J mX2_years 68 (fun o => .if_icmp .ge o) 71 187 := ⟨119, zd zq_401 (by decide +kernel), rfl, rfl⟩
theorem iX2_years_71 : xl_D mX2_years 71 (.iload 5) 2 73 := ⟨zd zq_92 (by decide +kernel), rfl⟩
theorem iX2_years_73 : xl_Cs mX2_years 73 mX2_drawAfter 76 := ⟨280, zd zq_402 (by decide +kernel), rfl, lX2_280, Nat.le_of_ble_eq_true rfl, Nat.le_of_ble_eq_true rfl⟩
theorem iX2_years_76 : xl_D mX2_years 76 (.istore 5) 2 78 := ⟨zd zq_91 (by decide +kernel), rfl⟩
theorem iX2_years_78 : xl_D mX2_years 78 (.iload 5) 2 80 := ⟨zd zq_92 (by decide +kernel), rfl⟩
theorem iX2_years_80 : xl_D mX2_years 80 (.bipush 6) 2 82 := ⟨zd zq_71 (by decide +kernel), rfl⟩
theorem iX2_years_82 : xl_Cs mX2_years 82 mX2_drawOf 85 := ⟨283, zd zq_403 (by decide +kernel), rfl, lX2_283, Nat.le_of_ble_eq_true rfl, Nat.le_of_ble_eq_true rfl⟩
theorem iX2_years_85 : xl_D mX2_years 85 (.istore 7) 2 87 := ⟨zd zq_122 (by decide +kernel), rfl⟩
theorem iX2_years_87 : xl_D mX2_years 87 (.iload 5) 2 89 := ⟨zd zq_92 (by decide +kernel), rfl⟩
theorem iX2_years_89 : xl_Cs mX2_years 89 mX2_drawAfter 92 := ⟨280, zd zq_402 (by decide +kernel), rfl, lX2_280, Nat.le_of_ble_eq_true rfl, Nat.le_of_ble_eq_true rfl⟩
theorem iX2_years_92 : xl_D mX2_years 92 (.istore 5) 2 94 := ⟨zd zq_91 (by decide +kernel), rfl⟩
theorem iX2_years_94 : xl_D mX2_years 94 (.aload_n 0) 1 95 := ⟨zd zq_0 (by decide +kernel), rfl⟩
theorem iX2_years_95 : xl_G mX2_years 95 2 1 98 := ⟨16, zd zq_355 (by decide +kernel), rfl, fX2_16⟩
theorem iX2_years_98 : xl_G mX2_years 98 1 3 101 := ⟨93, zd zq_267 (by decide +kernel), rfl, fX2_93⟩
theorem iX2_years_101 : xl_D mX2_years 101 (.aload_n 0) 1 102 := ⟨zd zq_0 (by decide +kernel), rfl⟩
theorem iX2_years_102 : xl_G mX2_years 102 2 1 105 := ⟨16, zd zq_355 (by decide +kernel), rfl, fX2_16⟩
theorem iX2_years_105 : xl_G mX2_years 105 1 1 108 := ⟨250, zd zq_386 (by decide +kernel), rfl, fX2_250⟩
theorem iX2_years_108 : xl_D mX2_years 108 (.isub) 1 109 := ⟨zd zq_39 (by decide +kernel), rfl⟩
theorem iX2_years_109 : xl_D mX2_years 109 (.iload 5) 2 111 := ⟨zd zq_92 (by decide +kernel), rfl⟩
theorem iX2_years_111 : xl_D mX2_years 111 (.bipush 100) 2 113 := ⟨zd zq_375 (by decide +kernel), rfl⟩
theorem iX2_years_113 : xl_Cs mX2_years 113 mX2_drawOf 116 := ⟨283, zd zq_403 (by decide +kernel), rfl, lX2_283, Nat.le_of_ble_eq_true rfl, Nat.le_of_ble_eq_true rfl⟩
theorem iX2_years_116 : xl_D mX2_years 116 (.iadd) 1 117 := ⟨zd zq_19 (by decide +kernel), rfl⟩
theorem iX2_years_117 : xl_D mX2_years 117 (.istore 8) 2 119 := ⟨zd zq_323 (by decide +kernel), rfl⟩
theorem iX2_years_119 : xl_D mX2_years 119 (.iload 5) 2 121 := ⟨zd zq_92 (by decide +kernel), rfl⟩
theorem iX2_years_121 : xl_Cs mX2_years 121 mX2_drawAfter 124 := ⟨280, zd zq_402 (by decide +kernel), rfl, lX2_280, Nat.le_of_ble_eq_true rfl, Nat.le_of_ble_eq_true rfl⟩
theorem iX2_years_124 : xl_D mX2_years 124 (.istore 5) 2 126 := ⟨zd zq_91 (by decide +kernel), rfl⟩
theorem iX2_years_126 : xl_D mX2_years 126 (.iload 5) 2 128 := ⟨zd zq_92 (by decide +kernel), rfl⟩
theorem iX2_years_128 : xl_D mX2_years 128 (.sipush 199) 3 131 := ⟨zd zq_404 (by decide +kernel), rfl⟩
theorem iX2_years_131 : xl_Cs mX2_years 131 mX2_drawOf 134 := ⟨283, zd zq_403 (by decide +kernel), rfl, lX2_283, Nat.le_of_ble_eq_true rfl, Nat.le_of_ble_eq_true rfl⟩
theorem iX2_years_134 : xl_D mX2_years 134 (.bipush 99) 2 136 := ⟨zd zq_379 (by decide +kernel), rfl⟩
theorem iX2_years_136 : xl_D mX2_years 136 (.isub) 1 137 := ⟨zd zq_39 (by decide +kernel), rfl⟩
theorem iX2_years_137 : xl_D mX2_years 137 (.istore 9) 2 139 := ⟨zd zq_324 (by decide +kernel), rfl⟩
theorem iX2_years_139 : xl_D mX2_years 139 (.iload 5) 2 141 := ⟨zd zq_92 (by decide +kernel), rfl⟩
theorem iX2_years_141 : xl_Cs mX2_years 141 mX2_drawAfter 144 := ⟨280, zd zq_402 (by decide +kernel), rfl, lX2_280, Nat.le_of_ble_eq_true rfl, Nat.le_of_ble_eq_true rfl⟩
theorem iX2_years_144 : xl_D mX2_years 144 (.istore 5) 2 146 := ⟨zd zq_91 (by decide +kernel), rfl⟩
theorem iX2_years_146 : xl_D mX2_years 146 (.iload 5) 2 148 := ⟨zd zq_92 (by decide +kernel), rfl⟩
theorem iX2_years_148 : xl_D mX2_years 148 (.iload 4) 2 150 := ⟨zd zq_51 (by decide +kernel), rfl⟩
theorem iX2_years_150 : xl_Cs mX2_years 150 mX2_drawOf 153 := ⟨283, zd zq_403 (by decide +kernel), rfl, lX2_283, Nat.le_of_ble_eq_true rfl, Nat.le_of_ble_eq_true rfl⟩
theorem iX2_years_153 : xl_D mX2_years 153 (.istore 10) 2 155 := ⟨zd zq_327 (by decide +kernel), rfl⟩
theorem iX2_years_155 : xl_D mX2_years 155 (.aload_n 0) 1 156 := ⟨zd zq_0 (by decide +kernel), rfl⟩
theorem iX2_years_156 : xl_G mX2_years 156 2 1 159 := ⟨16, zd zq_355 (by decide +kernel), rfl, fX2_16⟩
theorem iX2_years_159 : xl_D mX2_years 159 (.iload 7) 2 161 := ⟨zd zq_124 (by decide +kernel), rfl⟩
theorem iX2_years_161 : xl_D mX2_years 161 (.iconst 0) 1 162 := ⟨zd zq_2 (by decide +kernel), rfl⟩
theorem iX2_years_162 : xl_D mX2_years 162 (.sipush 9999) 3 165 := ⟨zd zq_405 (by decide +kernel), rfl⟩
theorem iX2_years_165 : xl_D mX2_years 165 (.iload 8) 2 167 := ⟨zd zq_336 (by decide +kernel), rfl⟩
theorem iX2_years_167 : xl_Cm mX2_years 167 Lib.Math.min.name Lib.Math.min.code 170 := ⟨244, zd zq_376 (by decide +kernel), rfl, lX2_244, xl_stmin, xl_iMath, xl_comin, Nat.le_of_ble_eq_true rfl, Nat.le_of_ble_eq_true rfl⟩
theorem iX2_years_170 : xl_Cm mX2_years 170 Lib.Math.max.name Lib.Math.max.code 173 := ⟨207, zd zq_343 (by decide +kernel), rfl, lX2_207, xl_stmax, xl_iMath, xl_comax, Nat.le_of_ble_eq_true rfl, Nat.le_of_ble_eq_true rfl⟩
theorem iX2_years_173 : xl_D mX2_years 173 (.iload 9) 2 175 := ⟨zd zq_325 (by decide +kernel), rfl⟩
theorem iX2_years_175 : xl_D mX2_years 175 (.iload 10) 2 177 := ⟨zd zq_330 (by decide +kernel), rfl⟩
theorem iX2_years_177 : xl_Ca mX2_years 177 mX1_playEvent 180 := ⟨226, zd zq_357 (by decide +kernel), rfl, lX2_226, Nat.le_of_ble_eq_true rfl, Nat.le_of_ble_eq_true rfl⟩
theorem iX2_years_180 : xl_D mX2_years 180 (.pop) 1 181 := ⟨zd zq_95 (by decide +kernel), rfl⟩
theorem iX2_years_181 : xl_D mX2_years 181 (.iinc 6 1) 3 184 := ⟨zd zq_406 (by decide +kernel), rfl⟩
theorem iX2_years_184 : xl_J mX2_years 184 (fun o => .goto o) 187 65 := ⟨-119, zd zq_337 (by decide +kernel), rfl, rfl⟩
theorem iX2_years_187 : xl_D mX2_years 187 (.aload_n 0) 1 188 := ⟨zd zq_0 (by decide +kernel), rfl⟩
theorem iX2_years_188 : xl_D mX2_years 188 (.aload_n 0) 1 189 := ⟨zd zq_0 (by decide +kernel), rfl⟩
theorem iX2_years_189 : xl_G mX2_years 189 2 1 192 := ⟨16, zd zq_355 (by decide +kernel), rfl, fX2_16⟩
theorem iX2_years_192 : xl_G mX2_years 192 1 4 195 := ⟨87, zd zq_264 (by decide +kernel), rfl, fX2_87⟩
theorem iX2_years_195 : xl_D mX2_years 195 (.aload_n 0) 1 196 := ⟨zd zq_0 (by decide +kernel), rfl⟩
theorem iX2_years_196 : xl_G mX2_years 196 2 0 199 := ⟨10, zd zq_248 (by decide +kernel), rfl, fX2_10⟩
theorem iX2_years_199 : xl_G mX2_years 199 1 4 202 := ⟨87, zd zq_264 (by decide +kernel), rfl, fX2_87⟩
theorem iX2_years_202 : xl_D mX2_years 202 (.isub) 1 203 := ⟨zd zq_39 (by decide +kernel), rfl⟩
theorem iX2_years_203 : xl_D mX2_years 203 (.i2l) 1 204 := ⟨zd zq_266 (by decide +kernel), rfl⟩
theorem iX2_years_204 : xl_D mX2_years 204 (.aload_n 0) 1 205 := ⟨zd zq_0 (by decide +kernel), rfl⟩
theorem iX2_years_205 : xl_G mX2_years 205 2 1 208 := ⟨16, zd zq_355 (by decide +kernel), rfl, fX2_16⟩
theorem iX2_years_208 : xl_G mX2_years 208 1 3 211 := ⟨93, zd zq_267 (by decide +kernel), rfl, fX2_93⟩
theorem iX2_years_211 : xl_D mX2_years 211 (.i2l) 1 212 := ⟨zd zq_266 (by decide +kernel), rfl⟩
theorem iX2_years_212 : xl_Ca mX2_years 212 mX2_tellTwo 215 := ⟨96, zd zq_268 (by decide +kernel), rfl, lX2_96, Nat.le_of_ble_eq_true rfl, Nat.le_of_ble_eq_true rfl⟩
theorem iX2_years_215 : xl_D mX2_years 215 (.aload_n 0) 1 216 := ⟨zd zq_0 (by decide +kernel), rfl⟩
theorem iX2_years_216 : xl_G mX2_years 216 2 1 219 := ⟨16, zd zq_355 (by decide +kernel), rfl, fX2_16⟩
theorem iX2_years_219 : xl_G mX2_years 219 1 6 222 := ⟨204, zd zq_341 (by decide +kernel), rfl, fX2_204⟩
theorem iX2_years_222 : xl_D mX2_years 222 (.aload_n 0) 1 223 := ⟨zd zq_0 (by decide +kernel), rfl⟩
theorem iX2_years_223 : xl_G mX2_years 223 2 0 226 := ⟨10, zd zq_248 (by decide +kernel), rfl, fX2_10⟩
theorem iX2_years_226 : xl_G mX2_years 226 1 6 229 := ⟨204, zd zq_341 (by decide +kernel), rfl, fX2_204⟩
theorem iX2_years_229 : xl_D mX2_years 229 (.isub) 1 230 := ⟨zd zq_39 (by decide +kernel), rfl⟩
theorem iX2_years_230 : xl_D mX2_years 230 (.ireturn) 1 231 := ⟨zd zq_17 (by decide +kernel), rfl⟩
theorem iX2_keep_0 : xl_D mX2_keep 0 (.iload_n 1) 1 1 := ⟨zd zq_3 (by decide +kernel), rfl⟩
theorem iX2_keep_1 : xl_J mX2_keep 1 (fun o => .ifCond .lt o) 4 9 := ⟨8, zd zq_174 (by decide +kernel), rfl, rfl⟩
theorem iX2_keep_4 : xl_D mX2_keep 4 (.iload_n 1) 1 5 := ⟨zd zq_3 (by decide +kernel), rfl⟩
theorem iX2_keep_5 : xl_D mX2_keep 5 (.iconst 2) 1 6 := ⟨zd zq_127 (by decide +kernel), rfl⟩
theorem iX2_keep_6 : xl_J mX2_keep 6 (fun o => .if_icmp .lt o) 9 11 := ⟨5, zd zq_16 (by decide +kernel), rfl, rfl⟩
theorem iX2_keep_9 : xl_D mX2_keep 9 (.iconst 0) 1 10 := ⟨zd zq_2 (by decide +kernel), rfl⟩
theorem iX2_keep_10 : xl_D mX2_keep 10 (.ireturn) 1 11 := ⟨zd zq_17 (by decide +kernel), rfl⟩
theorem iX2_keep_11 : xl_D mX2_keep 11 (.aload_n 0) 1 12 := ⟨zd zq_0 (by decide +kernel), rfl⟩
theorem iX2_keep_12 : xl_G mX2_keep 12 2 5 15 := ⟨23, zd zq_101 (by decide +kernel), rfl, fX2_23⟩
theorem iX2_keep_15 : xl_D mX2_keep 15 (.iload_n 1) 1 16 := ⟨zd zq_3 (by decide +kernel), rfl⟩
theorem iX2_keep_16 : xl_D mX2_keep 16 (.aaload) 1 17 := ⟨zd zq_400 (by decide +kernel), rfl⟩
theorem iX2_keep_17 : xl_D mX2_keep 17 (.astore_n 2) 1 18 := ⟨zd zq_407 (by decide +kernel), rfl⟩
theorem iX2_keep_18 : xl_D mX2_keep 18 (.aload_n 2) 1 19 := ⟨zd zq_48 (by decide +kernel), rfl⟩
theorem iX2_keep_19 : xl_J mX2_keep 19 (fun o => .ifnonnull o) 22 24 := ⟨5, zd zq_408 (by decide +kernel), rfl, rfl⟩
theorem iX2_keep_22 : xl_D mX2_keep 22 (.iconst 0) 1 23 := ⟨zd zq_2 (by decide +kernel), rfl⟩
theorem iX2_keep_23 : xl_D mX2_keep 23 (.ireturn) 1 24 := ⟨zd zq_17 (by decide +kernel), rfl⟩
theorem iX2_keep_24 : xl_D mX2_keep 24 (.aload_n 2) 1 25 := ⟨zd zq_48 (by decide +kernel), rfl⟩
theorem iX2_keep_25 : xl_D mX2_keep 25 (.aload_n 0) 1 26 := ⟨zd zq_0 (by decide +kernel), rfl⟩
theorem iX2_keep_26 : xl_G mX2_keep 26 2 0 29 := ⟨10, zd zq_248 (by decide +kernel), rfl, fX2_10⟩
theorem iX2_keep_29 : xl_Ca mX2_keep 29 mX1_copyFrom 32 := ⟨222, zd zq_356 (by decide +kernel), rfl, lX2_222, Nat.le_of_ble_eq_true rfl, Nat.le_of_ble_eq_true rfl⟩
theorem iX2_keep_32 : xl_D mX2_keep 32 (.aload_n 0) 1 33 := ⟨zd zq_0 (by decide +kernel), rfl⟩
theorem iX2_keep_33 : xl_D mX2_keep 33 (.dup) 1 34 := ⟨zd zq_46 (by decide +kernel), rfl⟩
theorem iX2_keep_34 : xl_G mX2_keep 34 2 6 37 := ⟨286, zd zq_409 (by decide +kernel), rfl, fX2_286⟩
theorem iX2_keep_37 : xl_D mX2_keep 37 (.iconst 1) 1 38 := ⟨zd zq_36 (by decide +kernel), rfl⟩
theorem iX2_keep_38 : xl_D mX2_keep 38 (.iload_n 1) 1 39 := ⟨zd zq_3 (by decide +kernel), rfl⟩
theorem iX2_keep_39 : xl_D mX2_keep 39 (.ishl) 1 40 := ⟨zd zq_345 (by decide +kernel), rfl⟩
theorem iX2_keep_40 : xl_D mX2_keep 40 (.ior) 1 41 := ⟨zd zq_346 (by decide +kernel), rfl⟩
theorem iX2_keep_41 : xl_P mX2_keep 41 2 6 .int 44 := ⟨286, zd zq_410 (by decide +kernel), rfl, wX2_286⟩
theorem iX2_keep_44 : xl_D mX2_keep 44 (.iconst 1) 1 45 := ⟨zd zq_36 (by decide +kernel), rfl⟩
theorem iX2_keep_45 : xl_D mX2_keep 45 (.ireturn) 1 46 := ⟨zd zq_17 (by decide +kernel), rfl⟩
theorem iX2_back_0 : xl_D mX2_back 0 (.iload_n 1) 1 1 := ⟨zd zq_3 (by decide +kernel), rfl⟩
theorem iX2_back_1 : xl_J mX2_back 1 (fun o => .ifCond .lt o) 4 20 := ⟨19, zd zq_411 (by decide +kernel), rfl, rfl⟩
theorem iX2_back_4 : xl_D mX2_back 4 (.iload_n 1) 1 5 := ⟨zd zq_3 (by decide +kernel), rfl⟩
theorem iX2_back_5 : xl_D mX2_back 5 (.iconst 2) 1 6 := ⟨zd zq_127 (by decide +kernel), rfl⟩
theorem iX2_back_6 : xl_J mX2_back 6 (fun o => .if_icmp .ge o) 9 20 := ⟨14, zd zq_378 (by decide +kernel), rfl, rfl⟩
theorem iX2_back_9 : xl_D mX2_back 9 (.aload_n 0) 1 10 := ⟨zd zq_0 (by decide +kernel), rfl⟩
theorem iX2_back_10 : xl_G mX2_back 10 2 6 13 := ⟨286, zd zq_409 (by decide +kernel), rfl, fX2_286⟩
theorem iX2_back_13 : xl_D mX2_back 13 (.iconst 1) 1 14 := ⟨zd zq_36 (by decide +kernel), rfl⟩
theorem iX2_back_14 : xl_D mX2_back 14 (.iload_n 1) 1 15 := ⟨zd zq_3 (by decide +kernel), rfl⟩
theorem iX2_back_15 : xl_D mX2_back 15 (.ishl) 1 16 := ⟨zd zq_345 (by decide +kernel), rfl⟩
theorem iX2_back_16 : xl_D mX2_back 16 (.iand) 1 17 := ⟨zd zq_240 (by decide +kernel), rfl⟩
theorem iX2_back_17 : xl_J mX2_back 17 (fun o => .ifCond .ne o) 20 22 := ⟨5, zd zq_246 (by decide +kernel), rfl, rfl⟩
theorem iX2_back_20 : xl_D mX2_back 20 (.iconst 0) 1 21 := ⟨zd zq_2 (by decide +kernel), rfl⟩
theorem iX2_back_21 : xl_D mX2_back 21 (.ireturn) 1 22 := ⟨zd zq_17 (by decide +kernel), rfl⟩
theorem iX2_back_22 : xl_D mX2_back 22 (.aload_n 0) 1 23 := ⟨zd zq_0 (by decide +kernel), rfl⟩
theorem iX2_back_23 : xl_G mX2_back 23 2 0 26 := ⟨10, zd zq_248 (by decide +kernel), rfl, fX2_10⟩
theorem iX2_back_26 : xl_D mX2_back 26 (.aload_n 0) 1 27 := ⟨zd zq_0 (by decide +kernel), rfl⟩
theorem iX2_back_27 : xl_G mX2_back 27 2 5 30 := ⟨23, zd zq_101 (by decide +kernel), rfl, fX2_23⟩
theorem iX2_back_30 : xl_D mX2_back 30 (.iload_n 1) 1 31 := ⟨zd zq_3 (by decide +kernel), rfl⟩
theorem iX2_back_31 : xl_D mX2_back 31 (.aaload) 1 32 := ⟨zd zq_400 (by decide +kernel), rfl⟩
theorem iX2_back_32 : xl_Ca mX2_back 32 mX1_copyFrom 35 := ⟨222, zd zq_356 (by decide +kernel), rfl, lX2_222, Nat.le_of_ble_eq_true rfl, Nat.le_of_ble_eq_true rfl⟩
theorem iX2_back_35 : xl_D mX2_back 35 (.aload_n 0) 1 36 := ⟨zd zq_0 (by decide +kernel), rfl⟩
theorem iX2_back_36 : xl_D mX2_back 36 (.iconst 0) 1 37 := ⟨zd zq_2 (by decide +kernel), rfl⟩
theorem iX2_back_37 : xl_P mX2_back 37 2 4 .int 40 := ⟨274, zd zq_398 (by decide +kernel), rfl, wX2_274⟩
theorem iX2_back_40 : xl_D mX2_back 40 (.iconst 1) 1 41 := ⟨zd zq_36 (by decide +kernel), rfl⟩
theorem iX2_back_41 : xl_D mX2_back 41 (.ireturn) 1 42 := ⟨zd zq_17 (by decide +kernel), rfl⟩
theorem iX2_count_0 : xl_D mX2_count 0 (.iload_n 1) 1 1 := ⟨zd zq_3 (by decide +kernel), rfl⟩
theorem iX2_count_1 : xl_D mX2_count 1 (.tableswitch 147 0 10 #[59, 70, 78, 86, 94, 102, 113, 124, 132, 137, 142]) 59 60 := ⟨by decide +kernel, rfl⟩
theorem iX2_count_60 : xl_D mX2_count 60 (.aload_n 0) 1 61 := ⟨zd zq_0 (by decide +kernel), rfl⟩
theorem iX2_count_61 : xl_G mX2_count 61 2 0 64 := ⟨10, zd zq_248 (by decide +kernel), rfl, fX2_10⟩
theorem iX2_count_64 : xl_G mX2_count 64 1 10 67 := ⟨63, zd zq_253 (by decide +kernel), rfl, fX2_63⟩
theorem iX2_count_67 : xl_G mX2_count 67 0 3 70 := ⟨76, zd zq_258 (by decide +kernel), rfl, fX2_76⟩
theorem iX2_count_70 : xl_D mX2_count 70 (.ireturn) 1 71 := ⟨zd zq_17 (by decide +kernel), rfl⟩
theorem iX2_count_71 : xl_D mX2_count 71 (.aload_n 0) 1 72 := ⟨zd zq_0 (by decide +kernel), rfl⟩
theorem iX2_count_72 : xl_G mX2_count 72 2 0 75 := ⟨10, zd zq_248 (by decide +kernel), rfl, fX2_10⟩
theorem iX2_count_75 : xl_G mX2_count 75 1 0 78 := ⟨212, zd zq_350 (by decide +kernel), rfl, fX2_212⟩
theorem iX2_count_78 : xl_D mX2_count 78 (.ireturn) 1 79 := ⟨zd zq_17 (by decide +kernel), rfl⟩
theorem iX2_count_79 : xl_D mX2_count 79 (.aload_n 0) 1 80 := ⟨zd zq_0 (by decide +kernel), rfl⟩
theorem iX2_count_80 : xl_G mX2_count 80 2 0 83 := ⟨10, zd zq_248 (by decide +kernel), rfl, fX2_10⟩
theorem iX2_count_83 : xl_G mX2_count 83 1 1 86 := ⟨250, zd zq_386 (by decide +kernel), rfl, fX2_250⟩
theorem iX2_count_86 : xl_D mX2_count 86 (.ireturn) 1 87 := ⟨zd zq_17 (by decide +kernel), rfl⟩
theorem iX2_count_87 : xl_D mX2_count 87 (.aload_n 0) 1 88 := ⟨zd zq_0 (by decide +kernel), rfl⟩
theorem iX2_count_88 : xl_G mX2_count 88 2 0 91 := ⟨10, zd zq_248 (by decide +kernel), rfl, fX2_10⟩
theorem iX2_count_91 : xl_G mX2_count 91 1 2 94 := ⟨253, zd zq_387 (by decide +kernel), rfl, fX2_253⟩
theorem iX2_count_94 : xl_D mX2_count 94 (.ireturn) 1 95 := ⟨zd zq_17 (by decide +kernel), rfl⟩
theorem iX2_count_95 : xl_D mX2_count 95 (.aload_n 0) 1 96 := ⟨zd zq_0 (by decide +kernel), rfl⟩
theorem iX2_count_96 : xl_G mX2_count 96 2 0 99 := ⟨10, zd zq_248 (by decide +kernel), rfl, fX2_10⟩
theorem iX2_count_99 : xl_G mX2_count 99 1 3 102 := ⟨93, zd zq_267 (by decide +kernel), rfl, fX2_93⟩
theorem iX2_count_102 : xl_D mX2_count 102 (.ireturn) 1 103 := ⟨zd zq_17 (by decide +kernel), rfl⟩
theorem iX2_count_103 : xl_D mX2_count 103 (.aload_n 0) 1 104 := ⟨zd zq_0 (by decide +kernel), rfl⟩
theorem iX2_count_104 : xl_G mX2_count 104 2 0 107 := ⟨10, zd zq_248 (by decide +kernel), rfl, fX2_10⟩
theorem iX2_count_107 : xl_G mX2_count 107 1 11 110 := ⟨131, zd zq_287 (by decide +kernel), rfl, fX2_131⟩
theorem iX2_count_110 : xl_G mX2_count 110 0 3 113 := ⟨76, zd zq_258 (by decide +kernel), rfl, fX2_76⟩
theorem iX2_count_113 : xl_D mX2_count 113 (.ireturn) 1 114 := ⟨zd zq_17 (by decide +kernel), rfl⟩
theorem iX2_count_114 : xl_D mX2_count 114 (.aload_n 0) 1 115 := ⟨zd zq_0 (by decide +kernel), rfl⟩
theorem iX2_count_115 : xl_G mX2_count 115 2 0 118 := ⟨10, zd zq_248 (by decide +kernel), rfl, fX2_10⟩
theorem iX2_count_118 : xl_G mX2_count 118 1 14 121 := ⟨73, zd zq_257 (by decide +kernel), rfl, fX2_73⟩
theorem iX2_count_121 : xl_G mX2_count 121 0 3 124 := ⟨76, zd zq_258 (by decide +kernel), rfl, fX2_76⟩
theorem iX2_count_124 : xl_D mX2_count 124 (.ireturn) 1 125 := ⟨zd zq_17 (by decide +kernel), rfl⟩
theorem iX2_count_125 : xl_D mX2_count 125 (.aload_n 0) 1 126 := ⟨zd zq_0 (by decide +kernel), rfl⟩
theorem iX2_count_126 : xl_G mX2_count 126 2 0 129 := ⟨10, zd zq_248 (by decide +kernel), rfl, fX2_10⟩
theorem iX2_count_129 : xl_G mX2_count 129 1 4 132 := ⟨87, zd zq_264 (by decide +kernel), rfl, fX2_87⟩
theorem iX2_count_132 : xl_D mX2_count 132 (.ireturn) 1 133 := ⟨zd zq_17 (by decide +kernel), rfl⟩
theorem iX2_count_133 : xl_D mX2_count 133 (.aload_n 0) 1 134 := ⟨zd zq_0 (by decide +kernel), rfl⟩
theorem iX2_count_134 : xl_G mX2_count 134 2 4 137 := ⟨274, zd zq_397 (by decide +kernel), rfl, fX2_274⟩
theorem iX2_count_137 : xl_D mX2_count 137 (.ireturn) 1 138 := ⟨zd zq_17 (by decide +kernel), rfl⟩
theorem iX2_count_138 : xl_D mX2_count 138 (.aload_n 0) 1 139 := ⟨zd zq_0 (by decide +kernel), rfl⟩
theorem iX2_count_139 : xl_G mX2_count 139 2 8 142 := ⟨289, zd zq_412 (by decide +kernel), rfl, fX2_289⟩
theorem iX2_count_142 : xl_D mX2_count 142 (.ireturn) 1 143 := ⟨zd zq_17 (by decide +kernel), rfl⟩
theorem iX2_count_143 : xl_D mX2_count 143 (.aload_n 0) 1 144 := ⟨zd zq_0 (by decide +kernel), rfl⟩
theorem iX2_count_144 : xl_G mX2_count 144 2 10 147 := ⟨40, zd zq_234 (by decide +kernel), rfl, fX2_40⟩
theorem iX2_count_147 : xl_D mX2_count 147 (.ireturn) 1 148 := ⟨zd zq_17 (by decide +kernel), rfl⟩
theorem iX2_count_148 : xl_D mX2_count 148 (.iconst (-1)) 1 149 := ⟨zd zq_104 (by decide +kernel), rfl⟩
theorem iX2_count_149 : xl_D mX2_count 149 (.ireturn) 1 150 := ⟨zd zq_17 (by decide +kernel), rfl⟩
theorem iX2_row_0 : xl_D mX2_row 0 (.iload_n 1) 1 1 := ⟨zd zq_3 (by decide +kernel), rfl⟩
theorem iX2_row_1 : xl_J mX2_row 1 (fun o => .ifCond .lt o) 4 21 := ⟨20, zd zq_237 (by decide +kernel), rfl, rfl⟩
theorem iX2_row_4 : xl_D mX2_row 4 (.iload_n 1) 1 5 := ⟨zd zq_3 (by decide +kernel), rfl⟩
theorem iX2_row_5 : xl_D mX2_row 5 (.aload_n 0) 1 6 := ⟨zd zq_0 (by decide +kernel), rfl⟩
theorem iX2_row_6 : xl_G mX2_row 6 2 8 9 := ⟨289, zd zq_412 (by decide +kernel), rfl, fX2_289⟩
theorem iX2_row_9 : xl_J mX2_row 9 (fun o => .if_icmp .ge o) 12 21 := ⟨12, zd zq_362 (by decide +kernel), rfl, rfl⟩
theorem iX2_row_12 : xl_D mX2_row 12 (.iload_n 1) 1 13 := ⟨zd zq_3 (by decide +kernel), rfl⟩
theorem iX2_row_13 : xl_D mX2_row 13 (.aload_n 0) 1 14 := ⟨zd zq_0 (by decide +kernel), rfl⟩
theorem iX2_row_14 : xl_G mX2_row 14 2 7 17 := ⟨26, zd zq_33 (by decide +kernel), rfl, fX2_26⟩
theorem iX2_row_17 : xl_D mX2_row 17 (.arraylength) 1 18 := ⟨zd zq_58 (by decide +kernel), rfl⟩
theorem iX2_row_18 : xl_J mX2_row 18 (fun o => .if_icmp .lt o) 21 29 := ⟨11, zd zq_296 (by decide +kernel), rfl, rfl⟩
theorem iX2_row_21 : xl_D mX2_row 21 (.new 128) 3 24 := ⟨zd zq_282 (by decide +kernel), rfl⟩
theorem iX2_row_24 : xl_D mX2_row 24 (.dup) 1 25 := ⟨zd zq_46 (by decide +kernel), rfl⟩
theorem iX2_row_25 : xl_D mX2_row 25 (.invokespecial 130) 3 28 := ⟨zd zq_283 (by decide +kernel), rfl⟩
theorem iX2_row_28 : xl_D mX2_row 28 (.athrow) 1 29 := ⟨zd zq_284 (by decide +kernel), rfl⟩
theorem iX2_row_29 : xl_D mX2_row 29 (.aload_n 0) 1 30 := ⟨zd zq_0 (by decide +kernel), rfl⟩
theorem iX2_row_30 : xl_G mX2_row 30 2 7 33 := ⟨26, zd zq_33 (by decide +kernel), rfl, fX2_26⟩
theorem iX2_row_33 : xl_D mX2_row 33 (.iload_n 1) 1 34 := ⟨zd zq_3 (by decide +kernel), rfl⟩
theorem iX2_row_34 : xl_D mX2_row 34 (.laload) 1 35 := ⟨zd zq_413 (by decide +kernel), rfl⟩
theorem iX2_row_35 : xl_D mX2_row 35 (.lreturn) 1 36 := ⟨zd zq_414 (by decide +kernel), rfl⟩
theorem iX2_isKey_0 : xl_D mX2_isKey 0 (.iload_n 0) 1 1 := ⟨zd zq_415 (by decide +kernel), rfl⟩
theorem iX2_isKey_1 : xl_J mX2_isKey 1 (fun o => .ifCond .lt o) 4 14 := ⟨13, zd zq_416 (by decide +kernel), rfl, rfl⟩
theorem iX2_isKey_4 : xl_D mX2_isKey 4 (.iload_n 0) 1 5 := ⟨zd zq_415 (by decide +kernel), rfl⟩
theorem iX2_isKey_5 : xl_D mX2_isKey 5 (.bipush 6) 2 7 := ⟨zd zq_71 (by decide +kernel), rfl⟩
theorem iX2_isKey_7 : xl_J mX2_isKey 7 (fun o => .if_icmp .ge o) 10 14 := ⟨7, zd zq_145 (by decide +kernel), rfl, rfl⟩
theorem iX2_isKey_10 : xl_D mX2_isKey 10 (.iconst 1) 1 11 := ⟨zd zq_36 (by decide +kernel), rfl⟩
theorem iX2_isKey_11 : xl_J mX2_isKey 11 (fun o => .goto o) 14 15 := ⟨4, zd zq_139 (by decide +kernel), rfl, rfl⟩
theorem iX2_isKey_14 : xl_D mX2_isKey 14 (.iconst 0) 1 15 := ⟨zd zq_2 (by decide +kernel), rfl⟩
theorem iX2_isKey_15 : xl_D mX2_isKey 15 (.ireturn) 1 16 := ⟨zd zq_17 (by decide +kernel), rfl⟩
theorem iX2_isTime_0 : xl_D mX2_isTime 0 (.iload_n 0) 1 1 := ⟨zd zq_415 (by decide +kernel), rfl⟩
theorem iX2_isTime_1 : xl_J mX2_isTime 1 (fun o => .ifCond .lt o) 4 15 := ⟨14, zd zq_417 (by decide +kernel), rfl, rfl⟩
theorem iX2_isTime_4 : xl_D mX2_isTime 4 (.iload_n 0) 1 5 := ⟨zd zq_415 (by decide +kernel), rfl⟩
theorem iX2_isTime_5 : xl_D mX2_isTime 5 (.sipush 9999) 3 8 := ⟨zd zq_405 (by decide +kernel), rfl⟩
theorem iX2_isTime_8 : xl_J mX2_isTime 8 (fun o => .if_icmp .gt o) 11 15 := ⟨7, zd zq_418 (by decide +kernel), rfl, rfl⟩
theorem iX2_isTime_11 : xl_D mX2_isTime 11 (.iconst 1) 1 12 := ⟨zd zq_36 (by decide +kernel), rfl⟩
theorem iX2_isTime_12 : xl_J mX2_isTime 12 (fun o => .goto o) 15 16 := ⟨4, zd zq_139 (by decide +kernel), rfl, rfl⟩
theorem iX2_isTime_15 : xl_D mX2_isTime 15 (.iconst 0) 1 16 := ⟨zd zq_2 (by decide +kernel), rfl⟩
theorem iX2_isTime_16 : xl_D mX2_isTime 16 (.ireturn) 1 17 := ⟨zd zq_17 (by decide +kernel), rfl⟩
theorem iX2_isSource_0 : xl_D mX2_isSource 0 (.iload_n 1) 1 1 := ⟨zd zq_3 (by decide +kernel), rfl⟩
theorem iX2_isSource_1 : xl_J mX2_isSource 1 (fun o => .ifCond .lt o) 4 22 := ⟨21, zd zq_419 (by decide +kernel), rfl, rfl⟩
theorem iX2_isSource_4 : xl_D mX2_isSource 4 (.iload_n 1) 1 5 := ⟨zd zq_3 (by decide +kernel), rfl⟩
theorem iX2_isSource_5 : xl_D mX2_isSource 5 (.aload_n 0) 1 6 := ⟨zd zq_0 (by decide +kernel), rfl⟩
theorem iX2_isSource_6 : xl_G mX2_isSource 6 2 0 9 := ⟨10, zd zq_248 (by decide +kernel), rfl, fX2_10⟩
theorem iX2_isSource_9 : xl_G mX2_isSource 9 1 10 12 := ⟨63, zd zq_253 (by decide +kernel), rfl, fX2_63⟩
theorem iX2_isSource_12 : xl_G mX2_isSource 12 0 3 15 := ⟨76, zd zq_258 (by decide +kernel), rfl, fX2_76⟩
theorem iX2_isSource_15 : xl_J mX2_isSource 15 (fun o => .if_icmp .ge o) 18 22 := ⟨7, zd zq_145 (by decide +kernel), rfl, rfl⟩
theorem iX2_isSource_18 : xl_D mX2_isSource 18 (.iconst 1) 1 19 := ⟨zd zq_36 (by decide +kernel), rfl⟩
theorem iX2_isSource_19 : xl_J mX2_isSource 19 (fun o => .goto o) 22 23 := ⟨4, zd zq_139 (by decide +kernel), rfl, rfl⟩
theorem iX2_isSource_22 : xl_D mX2_isSource 22 (.iconst 0) 1 23 := ⟨zd zq_2 (by decide +kernel), rfl⟩
theorem iX2_isSource_23 : xl_D mX2_isSource 23 (.ireturn) 1 24 := ⟨zd zq_17 (by decide +kernel), rfl⟩
theorem iX2_isEvent_0 : xl_D mX2_isEvent 0 (.iload_n 1) 1 1 := ⟨zd zq_3 (by decide +kernel), rfl⟩
theorem iX2_isEvent_1 : xl_Cs mX2_isEvent 1 mX2_isKey 4 := ⟨145, zd zq_291 (by decide +kernel), rfl, lX2_145, Nat.le_of_ble_eq_true rfl, Nat.le_of_ble_eq_true rfl⟩
theorem iX2_isEvent_4 : xl_J mX2_isEvent 4 (fun o => .ifCond .eq o) 7 39 := ⟨35, zd zq_420 (by decide +kernel), rfl, rfl⟩
theorem iX2_isEvent_7 : xl_D mX2_isEvent 7 (.iload_n 2) 1 8 := ⟨zd zq_6 (by decide +kernel), rfl⟩
theorem iX2_isEvent_8 : xl_Cs mX2_isEvent 8 mX2_isTime 11 := ⟨148, zd zq_293 (by decide +kernel), rfl, lX2_148, Nat.le_of_ble_eq_true rfl, Nat.le_of_ble_eq_true rfl⟩
theorem iX2_isEvent_11 : xl_J mX2_isEvent 11 (fun o => .ifCond .eq o) 14 39 := ⟨28, zd zq_421 (by decide +kernel), rfl, rfl⟩
theorem iX2_isEvent_14 : xl_D mX2_isEvent 14 (.iload_n 3) 1 15 := ⟨zd zq_25 (by decide +kernel), rfl⟩
theorem iX2_isEvent_15 : xl_D mX2_isEvent 15 (.bipush (-99)) 2 17 := ⟨zd zq_422 (by decide +kernel), rfl⟩
theorem iX2_isEvent_17 : xl_J mX2_isEvent 17 (fun o => .if_icmp .lt o) 20 39 := ⟨22, zd zq_423 (by decide +kernel), rfl, rfl⟩
theorem iX2_isEvent_20 : xl_D mX2_isEvent 20 (.iload_n 3) 1 21 := ⟨zd zq_25 (by decide +kernel), rfl⟩
theorem iX2_isEvent_21 : xl_D mX2_isEvent 21 (.bipush 99) 2 23 := ⟨zd zq_379 (by decide +kernel), rfl⟩
theorem iX2_isEvent_23 : xl_J mX2_isEvent 23 (fun o => .if_icmp .gt o) 26 39 := ⟨16, zd zq_424 (by decide +kernel), rfl, rfl⟩
theorem iX2_isEvent_26 : xl_D mX2_isEvent 26 (.aload_n 0) 1 27 := ⟨zd zq_0 (by decide +kernel), rfl⟩
theorem iX2_isEvent_27 : xl_D mX2_isEvent 27 (.iload 4) 2 29 := ⟨zd zq_51 (by decide +kernel), rfl⟩
theorem iX2_isEvent_29 : xl_Ca mX2_isEvent 29 mX2_isSource 32 := ⟨59, zd zq_250 (by decide +kernel), rfl, lX2_59, Nat.le_of_ble_eq_true rfl, Nat.le_of_ble_eq_true rfl⟩
theorem iX2_isEvent_32 : xl_J mX2_isEvent 32 (fun o => .ifCond .eq o) 35 39 := ⟨7, zd zq_193 (by decide +kernel), rfl, rfl⟩
theorem iX2_isEvent_35 : xl_D mX2_isEvent 35 (.iconst 1) 1 36 := ⟨zd zq_36 (by decide +kernel), rfl⟩
theorem iX2_isEvent_36 : xl_J mX2_isEvent 36 (fun o => .goto o) 39 40 := ⟨4, zd zq_139 (by decide +kernel), rfl, rfl⟩
theorem iX2_isEvent_39 : xl_D mX2_isEvent 39 (.iconst 0) 1 40 := ⟨zd zq_2 (by decide +kernel), rfl⟩
theorem iX2_isEvent_40 : xl_D mX2_isEvent 40 (.ireturn) 1 41 := ⟨zd zq_17 (by decide +kernel), rfl⟩
theorem iX2_areSettings_0 : xl_D mX2_areSettings 0 (.iload_n 0) 1 1 := ⟨zd zq_415 (by decide +kernel), rfl⟩
theorem iX2_areSettings_1 : xl_D mX2_areSettings 1 (.iconst 1) 1 2 := ⟨zd zq_36 (by decide +kernel), rfl⟩
theorem iX2_areSettings_2 : xl_J mX2_areSettings 2 (fun o => .if_icmp .lt o) 5 35 := ⟨33, zd zq_425 (by decide +kernel), rfl, rfl⟩
theorem iX2_areSettings_5 : xl_D mX2_areSettings 5 (.iload_n 0) 1 6 := ⟨zd zq_415 (by decide +kernel), rfl⟩
theorem iX2_areSettings_6 : xl_D mX2_areSettings 6 (.bipush 99) 2 8 := ⟨zd zq_379 (by decide +kernel), rfl⟩
theorem iX2_areSettings_8 : xl_J mX2_areSettings 8 (fun o => .if_icmp .gt o) 11 35 := ⟨27, zd zq_426 (by decide +kernel), rfl, rfl⟩
theorem iX2_areSettings_11 : xl_D mX2_areSettings 11 (.iload_n 1) 1 12 := ⟨zd zq_3 (by decide +kernel), rfl⟩
theorem iX2_areSettings_12 : xl_J mX2_areSettings 12 (fun o => .ifCond .lt o) 15 35 := ⟨23, zd zq_13 (by decide +kernel), rfl, rfl⟩
theorem iX2_areSettings_15 : xl_D mX2_areSettings 15 (.iload_n 1) 1 16 := ⟨zd zq_3 (by decide +kernel), rfl⟩
theorem iX2_areSettings_16 : xl_D mX2_areSettings 16 (.bipush 99) 2 18 := ⟨zd zq_379 (by decide +kernel), rfl⟩
theorem iX2_areSettings_18 : xl_J mX2_areSettings 18 (fun o => .if_icmp .gt o) 21 35 := ⟨17, zd zq_427 (by decide +kernel), rfl, rfl⟩
theorem iX2_areSettings_21 : xl_D mX2_areSettings 21 (.iload_n 2) 1 22 := ⟨zd zq_6 (by decide +kernel), rfl⟩
theorem iX2_areSettings_22 : xl_J mX2_areSettings 22 (fun o => .ifCond .lt o) 25 35 := ⟨13, zd zq_416 (by decide +kernel), rfl, rfl⟩
theorem iX2_areSettings_25 : xl_D mX2_areSettings 25 (.iload_n 2) 1 26 := ⟨zd zq_6 (by decide +kernel), rfl⟩
theorem iX2_areSettings_26 : xl_D mX2_areSettings 26 (.bipush 9) 2 28 := ⟨zd zq_271 (by decide +kernel), rfl⟩
theorem iX2_areSettings_28 : xl_J mX2_areSettings 28 (fun o => .if_icmp .gt o) 31 35 := ⟨7, zd zq_418 (by decide +kernel), rfl, rfl⟩
theorem iX2_areSettings_31 : xl_D mX2_areSettings 31 (.iconst 1) 1 32 := ⟨zd zq_36 (by decide +kernel), rfl⟩
theorem iX2_areSettings_32 : xl_J mX2_areSettings 32 (fun o => .goto o) 35 36 := ⟨4, zd zq_139 (by decide +kernel), rfl, rfl⟩
theorem iX2_areSettings_35 : xl_D mX2_areSettings 35 (.iconst 0) 1 36 := ⟨zd zq_2 (by decide +kernel), rfl⟩
theorem iX2_areSettings_36 : xl_D mX2_areSettings 36 (.ireturn) 1 37 := ⟨zd zq_17 (by decide +kernel), rfl⟩
theorem iX2_eventRefusal_0 : xl_D mX2_eventRefusal 0 (.aload_n 0) 1 1 := ⟨zd zq_0 (by decide +kernel), rfl⟩
theorem iX2_eventRefusal_1 : xl_D mX2_eventRefusal 1 (.iload_n 1) 1 2 := ⟨zd zq_3 (by decide +kernel), rfl⟩
theorem iX2_eventRefusal_2 : xl_D mX2_eventRefusal 2 (.iload_n 2) 1 3 := ⟨zd zq_6 (by decide +kernel), rfl⟩
theorem iX2_eventRefusal_3 : xl_D mX2_eventRefusal 3 (.iload_n 3) 1 4 := ⟨zd zq_25 (by decide +kernel), rfl⟩
theorem iX2_eventRefusal_4 : xl_D mX2_eventRefusal 4 (.iload 4) 2 6 := ⟨zd zq_51 (by decide +kernel), rfl⟩
theorem iX2_eventRefusal_6 : xl_Ca mX2_eventRefusal 6 mX2_isEvent 9 := ⟨218, zd zq_354 (by decide +kernel), rfl, lX2_218, Nat.le_of_ble_eq_true rfl, Nat.le_of_ble_eq_true rfl⟩
theorem iX2_eventRefusal_9 : xl_J mX2_eventRefusal 9 (fun o => .ifCond .ne o) 12 14 := ⟨5, zd zq_246 (by decide +kernel), rfl, rfl⟩
theorem iX2_eventRefusal_12 : xl_D mX2_eventRefusal 12 (.iconst (-1)) 1 13 := ⟨zd zq_104 (by decide +kernel), rfl⟩
theorem iX2_eventRefusal_13 : xl_D mX2_eventRefusal 13 (.ireturn) 1 14 := ⟨zd zq_17 (by decide +kernel), rfl⟩
theorem iX2_eventRefusal_14 : xl_D mX2_eventRefusal 14 (.aload_n 0) 1 15 := ⟨zd zq_0 (by decide +kernel), rfl⟩
theorem iX2_eventRefusal_15 : xl_Ca mX2_eventRefusal 15 mX2_inputRefusal 18 := ⟨292, zd zq_428 (by decide +kernel), rfl, lX2_292, Nat.le_of_ble_eq_true rfl, Nat.le_of_ble_eq_true rfl⟩
theorem iX2_eventRefusal_18 : xl_D mX2_eventRefusal 18 (.ireturn) 1 19 := ⟨zd zq_17 (by decide +kernel), rfl⟩
theorem iX2_markRefusal_0 : xl_D mX2_markRefusal 0 (.aload_n 0) 1 1 := ⟨zd zq_0 (by decide +kernel), rfl⟩
theorem iX2_markRefusal_1 : xl_D mX2_markRefusal 1 (.iload_n 1) 1 2 := ⟨zd zq_3 (by decide +kernel), rfl⟩
theorem iX2_markRefusal_2 : xl_Ca mX2_markRefusal 2 mX2_isSource 5 := ⟨59, zd zq_250 (by decide +kernel), rfl, lX2_59, Nat.le_of_ble_eq_true rfl, Nat.le_of_ble_eq_true rfl⟩
theorem iX2_markRefusal_5 : xl_J mX2_markRefusal 5 (fun o => .ifCond .eq o) 8 19 := ⟨14, zd zq_251 (by decide +kernel), rfl, rfl⟩
theorem iX2_markRefusal_8 : xl_D mX2_markRefusal 8 (.iload_n 2) 1 9 := ⟨zd zq_6 (by decide +kernel), rfl⟩
theorem iX2_markRefusal_9 : xl_J mX2_markRefusal 9 (fun o => .ifCond .lt o) 12 19 := ⟨10, zd zq_213 (by decide +kernel), rfl, rfl⟩
theorem iX2_markRefusal_12 : xl_D mX2_markRefusal 12 (.iload_n 2) 1 13 := ⟨zd zq_6 (by decide +kernel), rfl⟩
theorem iX2_markRefusal_13 : xl_D mX2_markRefusal 13 (.sipush 20000) 3 16 := ⟨zd zq_299 (by decide +kernel), rfl⟩
theorem iX2_markRefusal_16 : xl_J mX2_markRefusal 16 (fun o => .if_icmp .le o) 19 21 := ⟨5, zd zq_235 (by decide +kernel), rfl, rfl⟩
theorem iX2_markRefusal_19 : xl_D mX2_markRefusal 19 (.iconst (-1)) 1 20 := ⟨zd zq_104 (by decide +kernel), rfl⟩
theorem iX2_markRefusal_20 : xl_D mX2_markRefusal 20 (.ireturn) 1 21 := ⟨zd zq_17 (by decide +kernel), rfl⟩
theorem iX2_markRefusal_21 : xl_D mX2_markRefusal 21 (.aload_n 0) 1 22 := ⟨zd zq_0 (by decide +kernel), rfl⟩
theorem iX2_markRefusal_22 : xl_G mX2_markRefusal 22 2 0 25 := ⟨10, zd zq_248 (by decide +kernel), rfl, fX2_10⟩
theorem iX2_markRefusal_25 : xl_G mX2_markRefusal 25 1 10 28 := ⟨63, zd zq_253 (by decide +kernel), rfl, fX2_63⟩
theorem iX2_markRefusal_28 : xl_D mX2_markRefusal 28 (.iload_n 1) 1 29 := ⟨zd zq_3 (by decide +kernel), rfl⟩
theorem iX2_markRefusal_29 : xl_D mX2_markRefusal 29 (.iconst 0) 1 30 := ⟨zd zq_2 (by decide +kernel), rfl⟩
theorem iX2_markRefusal_30 : xl_Ca mX2_markRefusal 30 mX0_get 33 := ⟨67, zd zq_254 (by decide +kernel), rfl, lX2_67, Nat.le_of_ble_eq_true rfl, Nat.le_of_ble_eq_true rfl⟩
theorem iX2_markRefusal_33 : xl_D mX2_markRefusal 33 (.iload_n 2) 1 34 := ⟨zd zq_6 (by decide +kernel), rfl⟩
theorem iX2_markRefusal_34 : xl_J mX2_markRefusal 34 (fun o => .if_icmp .lt o) 37 40 := ⟨6, zd zq_381 (by decide +kernel), rfl, rfl⟩
theorem iX2_markRefusal_37 : xl_D mX2_markRefusal 37 (.bipush (-2)) 2 39 := ⟨zd zq_256 (by decide +kernel), rfl⟩
theorem iX2_markRefusal_39 : xl_D mX2_markRefusal 39 (.ireturn) 1 40 := ⟨zd zq_17 (by decide +kernel), rfl⟩
theorem iX2_markRefusal_40 : xl_D mX2_markRefusal 40 (.aload_n 0) 1 41 := ⟨zd zq_0 (by decide +kernel), rfl⟩
theorem iX2_markRefusal_41 : xl_Ca mX2_markRefusal 41 mX2_inputRefusal 44 := ⟨292, zd zq_428 (by decide +kernel), rfl, lX2_292, Nat.le_of_ble_eq_true rfl, Nat.le_of_ble_eq_true rfl⟩
theorem iX2_markRefusal_44 : xl_D mX2_markRefusal 44 (.ireturn) 1 45 := ⟨zd zq_17 (by decide +kernel), rfl⟩
theorem iX2_idleRefusal_0 : xl_D mX2_idleRefusal 0 (.aload_n 0) 1 1 := ⟨zd zq_0 (by decide +kernel), rfl⟩
theorem iX2_idleRefusal_1 : xl_D mX2_idleRefusal 1 (.iload_n 1) 1 2 := ⟨zd zq_3 (by decide +kernel), rfl⟩
theorem iX2_idleRefusal_2 : xl_Ca mX2_idleRefusal 2 mX2_isSource 5 := ⟨59, zd zq_250 (by decide +kernel), rfl, lX2_59, Nat.le_of_ble_eq_true rfl, Nat.le_of_ble_eq_true rfl⟩
theorem iX2_idleRefusal_5 : xl_J mX2_idleRefusal 5 (fun o => .ifCond .ne o) 8 10 := ⟨5, zd zq_246 (by decide +kernel), rfl, rfl⟩
theorem iX2_idleRefusal_8 : xl_D mX2_idleRefusal 8 (.iconst (-1)) 1 9 := ⟨zd zq_104 (by decide +kernel), rfl⟩
theorem iX2_idleRefusal_9 : xl_D mX2_idleRefusal 9 (.ireturn) 1 10 := ⟨zd zq_17 (by decide +kernel), rfl⟩
theorem iX2_idleRefusal_10 : xl_D mX2_idleRefusal 10 (.aload_n 0) 1 11 := ⟨zd zq_0 (by decide +kernel), rfl⟩
theorem iX2_idleRefusal_11 : xl_G mX2_idleRefusal 11 2 0 14 := ⟨10, zd zq_248 (by decide +kernel), rfl, fX2_10⟩
theorem iX2_idleRefusal_14 : xl_G mX2_idleRefusal 14 1 10 17 := ⟨63, zd zq_253 (by decide +kernel), rfl, fX2_63⟩
theorem iX2_idleRefusal_17 : xl_D mX2_idleRefusal 17 (.iload_n 1) 1 18 := ⟨zd zq_3 (by decide +kernel), rfl⟩
theorem iX2_idleRefusal_18 : xl_D mX2_idleRefusal 18 (.iconst 2) 1 19 := ⟨zd zq_127 (by decide +kernel), rfl⟩
theorem iX2_idleRefusal_19 : xl_Ca mX2_idleRefusal 19 mX0_get 22 := ⟨67, zd zq_254 (by decide +kernel), rfl, lX2_67, Nat.le_of_ble_eq_true rfl, Nat.le_of_ble_eq_true rfl⟩
theorem iX2_idleRefusal_22 : xl_J mX2_idleRefusal 22 (fun o => .ifCond .eq o) 25 28 := ⟨6, zd zq_152 (by decide +kernel), rfl, rfl⟩
theorem iX2_idleRefusal_25 : xl_D mX2_idleRefusal 25 (.bipush (-2)) 2 27 := ⟨zd zq_256 (by decide +kernel), rfl⟩
theorem iX2_idleRefusal_27 : xl_D mX2_idleRefusal 27 (.ireturn) 1 28 := ⟨zd zq_17 (by decide +kernel), rfl⟩
theorem iX2_idleRefusal_28 : xl_D mX2_idleRefusal 28 (.aload_n 0) 1 29 := ⟨zd zq_0 (by decide +kernel), rfl⟩
theorem iX2_idleRefusal_29 : xl_Ca mX2_idleRefusal 29 mX2_inputRefusal 32 := ⟨292, zd zq_428 (by decide +kernel), rfl, lX2_292, Nat.le_of_ble_eq_true rfl, Nat.le_of_ble_eq_true rfl⟩
theorem iX2_idleRefusal_32 : xl_D mX2_idleRefusal 32 (.ireturn) 1 33 := ⟨zd zq_17 (by decide +kernel), rfl⟩
theorem iX2_inputRefusal_0 : xl_D mX2_inputRefusal 0 (.aload_n 0) 1 1 := ⟨zd zq_0 (by decide +kernel), rfl⟩
theorem iX2_inputRefusal_1 : xl_G mX2_inputRefusal 1 2 0 4 := ⟨10, zd zq_248 (by decide +kernel), rfl, fX2_10⟩
theorem iX2_inputRefusal_4 : xl_G mX2_inputRefusal 4 1 14 7 := ⟨73, zd zq_257 (by decide +kernel), rfl, fX2_73⟩
theorem iX2_inputRefusal_7 : xl_G mX2_inputRefusal 7 0 3 10 := ⟨76, zd zq_258 (by decide +kernel), rfl, fX2_76⟩
theorem iX2_inputRefusal_10 : xl_D mX2_inputRefusal 10 (.sipush 160) 3 13 := ⟨zd zq_74 (by decide +kernel), rfl⟩
theorem iX2_inputRefusal_13 : xl_J mX2_inputRefusal 13 (fun o => .if_icmp .lt o) 16 21 := ⟨8, zd zq_429 (by decide +kernel), rfl, rfl⟩
theorem iX2_inputRefusal_16 : xl_D mX2_inputRefusal 16 (.bipush (-3)) 2 18 := ⟨zd zq_260 (by decide +kernel), rfl⟩
theorem iX2_inputRefusal_18 : xl_J mX2_inputRefusal 18 (fun o => .goto o) 21 22 := ⟨4, zd zq_139 (by decide +kernel), rfl, rfl⟩
theorem iX2_inputRefusal_21 : xl_D mX2_inputRefusal 21 (.iconst 0) 1 22 := ⟨zd zq_2 (by decide +kernel), rfl⟩
theorem iX2_inputRefusal_22 : xl_D mX2_inputRefusal 22 (.ireturn) 1 23 := ⟨zd zq_17 (by decide +kernel), rfl⟩
theorem iX2_isOfLatest_0 : xl_D mX2_isOfLatest 0 (.iload_n 0) 1 1 := ⟨zd zq_415 (by decide +kernel), rfl⟩
theorem iX2_isOfLatest_1 : xl_J mX2_isOfLatest 1 (fun o => .ifCond .lt o) 4 20 := ⟨19, zd zq_411 (by decide +kernel), rfl, rfl⟩
theorem iX2_isOfLatest_4 : xl_D mX2_isOfLatest 4 (.iload_n 0) 1 5 := ⟨zd zq_415 (by decide +kernel), rfl⟩
theorem iX2_isOfLatest_5 : xl_D mX2_isOfLatest 5 (.iload_n 1) 1 6 := ⟨zd zq_3 (by decide +kernel), rfl⟩
theorem iX2_isOfLatest_6 : xl_J mX2_isOfLatest 6 (fun o => .if_icmp .ge o) 9 20 := ⟨14, zd zq_378 (by decide +kernel), rfl, rfl⟩
theorem iX2_isOfLatest_9 : xl_D mX2_isOfLatest 9 (.iload_n 0) 1 10 := ⟨zd zq_415 (by decide +kernel), rfl⟩
theorem iX2_isOfLatest_10 : xl_D mX2_isOfLatest 10 (.iload_n 1) 1 11 := ⟨zd zq_3 (by decide +kernel), rfl⟩
theorem iX2_isOfLatest_11 : xl_D mX2_isOfLatest 11 (.iload_n 2) 1 12 := ⟨zd zq_6 (by decide +kernel), rfl⟩
theorem iX2_isOfLatest_12 : xl_D mX2_isOfLatest 12 (.isub) 1 13 := ⟨zd zq_39 (by decide +kernel), rfl⟩
theorem iX2_isOfLatest_13 : xl_J mX2_isOfLatest 13 (fun o => .if_icmp .lt o) 16 20 := ⟨7, zd zq_166 (by decide +kernel), rfl, rfl⟩
theorem iX2_isOfLatest_16 : xl_D mX2_isOfLatest 16 (.iconst 1) 1 17 := ⟨zd zq_36 (by decide +kernel), rfl⟩
theorem iX2_isOfLatest_17 : xl_J mX2_isOfLatest 17 (fun o => .goto o) 20 21 := ⟨4, zd zq_139 (by decide +kernel), rfl, rfl⟩
theorem iX2_isOfLatest_20 : xl_D mX2_isOfLatest 20 (.iconst 0) 1 21 := ⟨zd zq_2 (by decide +kernel), rfl⟩
theorem iX2_isOfLatest_21 : xl_D mX2_isOfLatest 21 (.ireturn) 1 22 := ⟨zd zq_17 (by decide +kernel), rfl⟩
theorem iX2_shifted_0 : xl_D mX2_shifted 0 (.aload_n 0) 1 1 := ⟨zd zq_0 (by decide +kernel), rfl⟩
theorem iX2_shifted_1 : xl_D mX2_shifted 1 (.iload_n 1) 1 2 := ⟨zd zq_3 (by decide +kernel), rfl⟩
theorem iX2_shifted_2 : xl_D mX2_shifted 2 (.iload_n 2) 1 3 := ⟨zd zq_6 (by decide +kernel), rfl⟩
theorem iX2_shifted_3 : xl_Ca mX2_shifted 3 mX0_get 6 := ⟨67, zd zq_254 (by decide +kernel), rfl, lX2_67, Nat.le_of_ble_eq_true rfl, Nat.le_of_ble_eq_true rfl⟩
theorem iX2_shifted_6 : xl_D mX2_shifted 6 (.istore_n 3) 1 7 := ⟨zd zq_131 (by decide +kernel), rfl⟩
theorem iX2_shifted_7 : xl_D mX2_shifted 7 (.iload_n 2) 1 8 := ⟨zd zq_6 (by decide +kernel), rfl⟩
theorem iX2_shifted_8 : xl_D mX2_shifted 8 (.iconst 4) 1 9 := ⟨zd zq_63 (by decide +kernel), rfl⟩
theorem iX2_shifted_9 : xl_J mX2_shifted 9 (fun o => .if_icmp .ne o) 12 18 := ⟨9, zd zq_430 (by decide +kernel), rfl, rfl⟩
theorem iX2_shifted_12 : xl_D mX2_shifted 12 (.iload_n 3) 1 13 := ⟨zd zq_25 (by decide +kernel), rfl⟩
theorem iX2_shifted_13 : xl_D mX2_shifted 13 (.sipush 20000) 3 16 := ⟨zd zq_299 (by decide +kernel), rfl⟩
theorem iX2_shifted_16 : xl_D mX2_shifted 16 (.iadd) 1 17 := ⟨zd zq_19 (by decide +kernel), rfl⟩
theorem iX2_shifted_17 : xl_D mX2_shifted 17 (.ireturn) 1 18 := ⟨zd zq_17 (by decide +kernel), rfl⟩
theorem iX2_shifted_18 : xl_D mX2_shifted 18 (.iload_n 2) 1 19 := ⟨zd zq_6 (by decide +kernel), rfl⟩
theorem iX2_shifted_19 : xl_D mX2_shifted 19 (.iconst 5) 1 20 := ⟨zd zq_64 (by decide +kernel), rfl⟩
theorem iX2_shifted_20 : xl_J mX2_shifted 20 (fun o => .if_icmp .ne o) 23 30 := ⟨10, zd zq_344 (by decide +kernel), rfl, rfl⟩
theorem iX2_shifted_23 : xl_D mX2_shifted 23 (.iload_n 3) 1 24 := ⟨zd zq_25 (by decide +kernel), rfl⟩
theorem iX2_shifted_24 : xl_D mX2_shifted 24 (.bipush 99) 2 26 := ⟨zd zq_379 (by decide +kernel), rfl⟩
theorem iX2_shifted_26 : xl_D mX2_shifted 26 (.iadd) 1 27 := ⟨zd zq_19 (by decide +kernel), rfl⟩
theorem iX2_shifted_27 : xl_J mX2_shifted 27 (fun o => .goto o) 30 31 := ⟨4, zd zq_139 (by decide +kernel), rfl, rfl⟩
theorem iX2_shifted_30 : xl_D mX2_shifted 30 (.iload_n 3) 1 31 := ⟨zd zq_25 (by decide +kernel), rfl⟩
theorem iX2_shifted_31 : xl_D mX2_shifted 31 (.ireturn) 1 32 := ⟨zd zq_17 (by decide +kernel), rfl⟩
theorem iX2_tellNothing_0 : xl_D mX2_tellNothing 0 (.aload_n 0) 1 1 := ⟨zd zq_0 (by decide +kernel), rfl⟩
theorem iX2_tellNothing_1 : xl_D mX2_tellNothing 1 (.iconst 0) 1 2 := ⟨zd zq_2 (by decide +kernel), rfl⟩
theorem iX2_tellNothing_2 : xl_P mX2_tellNothing 2 2 8 .int 5 := ⟨289, zd zq_431 (by decide +kernel), rfl, wX2_289⟩
theorem iX2_tellNothing_5 : xl_D mX2_tellNothing 5 (.return_) 1 6 := ⟨zd zq_12 (by decide +kernel), rfl⟩
theorem iX2_tellMore_0 : xl_D mX2_tellMore 0 (.aload_n 0) 1 1 := ⟨zd zq_0 (by decide +kernel), rfl⟩
theorem iX2_tellMore_1 : xl_G mX2_tellMore 1 2 8 4 := ⟨289, zd zq_412 (by decide +kernel), rfl, fX2_289⟩
theorem iX2_tellMore_4 : xl_D mX2_tellMore 4 (.aload_n 0) 1 5 := ⟨zd zq_0 (by decide +kernel), rfl⟩
theorem iX2_tellMore_5 : xl_G mX2_tellMore 5 2 7 8 := ⟨26, zd zq_33 (by decide +kernel), rfl, fX2_26⟩
theorem iX2_tellMore_8 : xl_D mX2_tellMore 8 (.arraylength) 1 9 := ⟨zd zq_58 (by decide +kernel), rfl⟩
theorem iX2_tellMore_9 : xl_J mX2_tellMore 9 (fun o => .if_icmp .ge o) 12 32 := ⟨23, zd zq_52 (by decide +kernel), rfl, rfl⟩
theorem iX2_tellMore_12 : xl_D mX2_tellMore 12 (.aload_n 0) 1 13 := ⟨zd zq_0 (by decide +kernel), rfl⟩
theorem iX2_tellMore_13 : xl_G mX2_tellMore 13 2 7 16 := ⟨26, zd zq_33 (by decide +kernel), rfl, fX2_26⟩
theorem iX2_tellMore_16 : xl_D mX2_tellMore 16 (.aload_n 0) 1 17 := ⟨zd zq_0 (by decide +kernel), rfl⟩
theorem iX2_tellMore_17 : xl_G mX2_tellMore 17 2 8 20 := ⟨289, zd zq_412 (by decide +kernel), rfl, fX2_289⟩
theorem iX2_tellMore_20 : xl_D mX2_tellMore 20 (.lload_n 1) 1 21 := ⟨zd zq_432 (by decide +kernel), rfl⟩
theorem iX2_tellMore_21 : xl_D mX2_tellMore 21 (.lastore) 1 22 := ⟨zd zq_433 (by decide +kernel), rfl⟩
theorem iX2_tellMore_22 : xl_D mX2_tellMore 22 (.aload_n 0) 1 23 := ⟨zd zq_0 (by decide +kernel), rfl⟩
theorem iX2_tellMore_23 : xl_D mX2_tellMore 23 (.dup) 1 24 := ⟨zd zq_46 (by decide +kernel), rfl⟩
theorem iX2_tellMore_24 : xl_G mX2_tellMore 24 2 8 27 := ⟨289, zd zq_412 (by decide +kernel), rfl, fX2_289⟩
theorem iX2_tellMore_27 : xl_D mX2_tellMore 27 (.iconst 1) 1 28 := ⟨zd zq_36 (by decide +kernel), rfl⟩
theorem iX2_tellMore_28 : xl_D mX2_tellMore 28 (.iadd) 1 29 := ⟨zd zq_19 (by decide +kernel), rfl⟩
theorem iX2_tellMore_29 : xl_P mX2_tellMore 29 2 8 .int 32 := ⟨289, zd zq_431 (by decide +kernel), rfl, wX2_289⟩
theorem iX2_tellMore_32 : xl_D mX2_tellMore 32 (.return_) 1 33 := ⟨zd zq_12 (by decide +kernel), rfl⟩
theorem iX2_tellOne_0 : xl_D mX2_tellOne 0 (.aload_n 0) 1 1 := ⟨zd zq_0 (by decide +kernel), rfl⟩
theorem iX2_tellOne_1 : xl_Ca mX2_tellOne 1 mX2_tellNothing 4 := ⟨180, zd zq_310 (by decide +kernel), rfl, lX2_180, Nat.le_of_ble_eq_true rfl, Nat.le_of_ble_eq_true rfl⟩
theorem iX2_tellOne_4 : xl_D mX2_tellOne 4 (.aload_n 0) 1 5 := ⟨zd zq_0 (by decide +kernel), rfl⟩
theorem iX2_tellOne_5 : xl_D mX2_tellOne 5 (.lload_n 1) 1 6 := ⟨zd zq_432 (by decide +kernel), rfl⟩
theorem iX2_tellOne_6 : xl_Ca mX2_tellOne 6 mX2_tellMore 9 := ⟨183, zd zq_312 (by decide +kernel), rfl, lX2_183, Nat.le_of_ble_eq_true rfl, Nat.le_of_ble_eq_true rfl⟩
theorem iX2_tellOne_9 : xl_D mX2_tellOne 9 (.return_) 1 10 := ⟨zd zq_12 (by decide +kernel), rfl⟩
theorem iX2_tellTwo_0 : xl_D mX2_tellTwo 0 (.aload_n 0) 1 1 := ⟨zd zq_0 (by decide +kernel), rfl⟩
theorem iX2_tellTwo_1 : xl_D mX2_tellTwo 1 (.lload_n 1) 1 2 := ⟨zd zq_432 (by decide +kernel), rfl⟩
theorem iX2_tellTwo_2 : xl_Ca mX2_tellTwo 2 mX2_tellOne 5 := ⟨118, zd zq_140 (by decide +kernel), rfl, lX2_118, Nat.le_of_ble_eq_true rfl, Nat.le_of_ble_eq_true rfl⟩
theorem iX2_tellTwo_5 : xl_D mX2_tellTwo 5 (.aload_n 0) 1 6 := ⟨zd zq_0 (by decide +kernel), rfl⟩
theorem iX2_tellTwo_6 : xl_D mX2_tellTwo 6 (.lload_n 3) 1 7 := ⟨zd zq_434 (by decide +kernel), rfl⟩
theorem iX2_tellTwo_7 : xl_Ca mX2_tellTwo 7 mX2_tellMore 10 := ⟨183, zd zq_312 (by decide +kernel), rfl, lX2_183, Nat.le_of_ble_eq_true rfl, Nat.le_of_ble_eq_true rfl⟩
theorem iX2_tellTwo_10 : xl_D mX2_tellTwo 10 (.return_) 1 11 := ⟨zd zq_12 (by decide +kernel), rfl⟩
theorem iX2_tellThree_0 : xl_D mX2_tellThree 0 (.aload_n 0) 1 1 := ⟨zd zq_0 (by decide +kernel), rfl⟩
theorem iX2_tellThree_1 : xl_D mX2_tellThree 1 (.lload_n 1) 1 2 := ⟨zd zq_432 (by decide +kernel), rfl⟩
theorem iX2_tellThree_2 : xl_D mX2_tellThree 2 (.lload_n 3) 1 3 := ⟨zd zq_434 (by decide +kernel), rfl⟩
theorem iX2_tellThree_3 : xl_Ca mX2_tellThree 3 mX2_tellTwo 6 := ⟨96, zd zq_268 (by decide +kernel), rfl, lX2_96, Nat.le_of_ble_eq_true rfl, Nat.le_of_ble_eq_true rfl⟩
theorem iX2_tellThree_6 : xl_D mX2_tellThree 6 (.aload_n 0) 1 7 := ⟨zd zq_0 (by decide +kernel), rfl⟩
theorem iX2_tellThree_7 : xl_D mX2_tellThree 7 (.lload 5) 2 9 := ⟨zd zq_435 (by decide +kernel), rfl⟩
theorem iX2_tellThree_9 : xl_Ca mX2_tellThree 9 mX2_tellMore 12 := ⟨183, zd zq_312 (by decide +kernel), rfl, lX2_183, Nat.le_of_ble_eq_true rfl, Nat.le_of_ble_eq_true rfl⟩
theorem iX2_tellThree_12 : xl_D mX2_tellThree 12 (.return_) 1 13 := ⟨zd zq_12 (by decide +kernel), rfl⟩
theorem iX2_putSign_0 : xl_D mX2_putSign 0 (.aload_n 0) 1 1 := ⟨zd zq_0 (by decide +kernel), rfl⟩
theorem iX2_putSign_1 : xl_G mX2_putSign 1 2 10 4 := ⟨40, zd zq_234 (by decide +kernel), rfl, fX2_40⟩
theorem iX2_putSign_4 : xl_D mX2_putSign 4 (.aload_n 0) 1 5 := ⟨zd zq_0 (by decide +kernel), rfl⟩
theorem iX2_putSign_5 : xl_G mX2_putSign 5 2 9 8 := ⟨30, zd zq_436 (by decide +kernel), rfl, fX2_30⟩
theorem iX2_putSign_8 : xl_D mX2_putSign 8 (.arraylength) 1 9 := ⟨zd zq_58 (by decide +kernel), rfl⟩
theorem iX2_putSign_9 : xl_J mX2_putSign 9 (fun o => .if_icmp .ge o) 12 32 := ⟨23, zd zq_52 (by decide +kernel), rfl, rfl⟩
theorem iX2_putSign_12 : xl_D mX2_putSign 12 (.aload_n 0) 1 13 := ⟨zd zq_0 (by decide +kernel), rfl⟩
theorem iX2_putSign_13 : xl_G mX2_putSign 13 2 9 16 := ⟨30, zd zq_436 (by decide +kernel), rfl, fX2_30⟩
theorem iX2_putSign_16 : xl_D mX2_putSign 16 (.aload_n 0) 1 17 := ⟨zd zq_0 (by decide +kernel), rfl⟩
theorem iX2_putSign_17 : xl_G mX2_putSign 17 2 10 20 := ⟨40, zd zq_234 (by decide +kernel), rfl, fX2_40⟩
theorem iX2_putSign_20 : xl_D mX2_putSign 20 (.iload_n 1) 1 21 := ⟨zd zq_3 (by decide +kernel), rfl⟩
theorem iX2_putSign_21 : xl_D mX2_putSign 21 (.iastore) 1 22 := ⟨zd zq_26 (by decide +kernel), rfl⟩
theorem iX2_putSign_22 : xl_D mX2_putSign 22 (.aload_n 0) 1 23 := ⟨zd zq_0 (by decide +kernel), rfl⟩
theorem iX2_putSign_23 : xl_D mX2_putSign 23 (.dup) 1 24 := ⟨zd zq_46 (by decide +kernel), rfl⟩
theorem iX2_putSign_24 : xl_G mX2_putSign 24 2 10 27 := ⟨40, zd zq_234 (by decide +kernel), rfl, fX2_40⟩
theorem iX2_putSign_27 : xl_D mX2_putSign 27 (.iconst 1) 1 28 := ⟨zd zq_36 (by decide +kernel), rfl⟩
theorem iX2_putSign_28 : xl_D mX2_putSign 28 (.iadd) 1 29 := ⟨zd zq_19 (by decide +kernel), rfl⟩
theorem iX2_putSign_29 : xl_P mX2_putSign 29 2 10 .int 32 := ⟨40, zd zq_243 (by decide +kernel), rfl, wX2_40⟩
theorem iX2_putSign_32 : xl_D mX2_putSign 32 (.return_) 1 33 := ⟨zd zq_12 (by decide +kernel), rfl⟩
theorem iX2_takeText_0 : xl_D mX2_takeText 0 (.aload_n 0) 1 1 := ⟨zd zq_0 (by decide +kernel), rfl⟩
theorem iX2_takeText_1 : xl_G mX2_takeText 1 2 10 4 := ⟨40, zd zq_234 (by decide +kernel), rfl, fX2_40⟩
theorem iX2_takeText_4 : xl_D mX2_takeText 4 (.istore_n 1) 1 5 := ⟨zd zq_194 (by decide +kernel), rfl⟩
theorem iX2_takeText_5 : xl_D mX2_takeText 5 (.aload_n 0) 1 6 := ⟨zd zq_0 (by decide +kernel), rfl⟩
theorem iX2_takeText_6 : xl_D mX2_takeText 6 (.iconst 0) 1 7 := ⟨zd zq_2 (by decide +kernel), rfl⟩
theorem iX2_takeText_7 : xl_P mX2_takeText 7 2 10 .int 10 := ⟨40, zd zq_243 (by decide +kernel), rfl, wX2_40⟩
theorem iX2_takeText_10 : xl_D mX2_takeText 10 (.iload_n 1) 1 11 := ⟨zd zq_3 (by decide +kernel), rfl⟩
theorem iX2_takeText_11 : xl_D mX2_takeText 11 (.ireturn) 1 12 := ⟨zd zq_17 (by decide +kernel), rfl⟩
theorem iX2_signAt_0 : xl_D mX2_signAt 0 (.iload_n 1) 1 1 := ⟨zd zq_3 (by decide +kernel), rfl⟩
theorem iX2_signAt_1 : xl_J mX2_signAt 1 (fun o => .ifCond .lt o) 4 22 := ⟨21, zd zq_419 (by decide +kernel), rfl, rfl⟩
theorem iX2_signAt_4 : xl_D mX2_signAt 4 (.iload_n 1) 1 5 := ⟨zd zq_3 (by decide +kernel), rfl⟩
theorem iX2_signAt_5 : xl_D mX2_signAt 5 (.aload_n 0) 1 6 := ⟨zd zq_0 (by decide +kernel), rfl⟩
theorem iX2_signAt_6 : xl_G mX2_signAt 6 2 9 9 := ⟨30, zd zq_436 (by decide +kernel), rfl, fX2_30⟩
theorem iX2_signAt_9 : xl_D mX2_signAt 9 (.arraylength) 1 10 := ⟨zd zq_58 (by decide +kernel), rfl⟩
theorem iX2_signAt_10 : xl_J mX2_signAt 10 (fun o => .if_icmp .ge o) 13 22 := ⟨12, zd zq_362 (by decide +kernel), rfl, rfl⟩
theorem iX2_signAt_13 : xl_D mX2_signAt 13 (.aload_n 0) 1 14 := ⟨zd zq_0 (by decide +kernel), rfl⟩
theorem iX2_signAt_14 : xl_G mX2_signAt 14 2 9 17 := ⟨30, zd zq_436 (by decide +kernel), rfl, fX2_30⟩
theorem iX2_signAt_17 : xl_D mX2_signAt 17 (.iload_n 1) 1 18 := ⟨zd zq_3 (by decide +kernel), rfl⟩
theorem iX2_signAt_18 : xl_D mX2_signAt 18 (.iaload) 1 19 := ⟨zd zq_20 (by decide +kernel), rfl⟩
theorem iX2_signAt_19 : xl_J mX2_signAt 19 (fun o => .goto o) 22 23 := ⟨4, zd zq_139 (by decide +kernel), rfl, rfl⟩
theorem iX2_signAt_22 : xl_D mX2_signAt 22 (.iconst (-1)) 1 23 := ⟨zd zq_104 (by decide +kernel), rfl⟩
theorem iX2_signAt_23 : xl_D mX2_signAt 23 (.ireturn) 1 24 := ⟨zd zq_17 (by decide +kernel), rfl⟩
theorem iX2_fits_0 : xl_D mX2_fits 0 (.iload_n 2) 1 1 := ⟨zd zq_6 (by decide +kernel), rfl⟩
theorem iX2_fits_1 : xl_D mX2_fits 1 (.lookupswitch 100 #[(107, 35), (110, 71), (115, 53)]) 35 36 := ⟨by decide +kernel, rfl⟩
theorem iX2_fits_36 : xl_D mX2_fits 36 (.iload_n 1) 1 37 := ⟨zd zq_3 (by decide +kernel), rfl⟩
theorem iX2_fits_37 : xl_D mX2_fits 37 (.bipush 97) 2 39 := ⟨zd zq_437 (by decide +kernel), rfl⟩
theorem iX2_fits_39 : xl_J mX2_fits 39 (fun o => .if_icmp .lt o) 42 52 := ⟨13, zd zq_438 (by decide +kernel), rfl, rfl⟩
theorem iX2_fits_42 : xl_D mX2_fits 42 (.iload_n 1) 1 43 := ⟨zd zq_3 (by decide +kernel), rfl⟩
theorem iX2_fits_43 : xl_D mX2_fits 43 (.bipush 103) 2 45 := ⟨zd zq_439 (by decide +kernel), rfl⟩
theorem iX2_fits_45 : xl_J mX2_fits 45 (fun o => .if_icmp .ge o) 48 52 := ⟨7, zd zq_145 (by decide +kernel), rfl, rfl⟩
theorem iX2_fits_48 : xl_D mX2_fits 48 (.iconst 1) 1 49 := ⟨zd zq_36 (by decide +kernel), rfl⟩
theorem iX2_fits_49 : xl_J mX2_fits 49 (fun o => .goto o) 52 53 := ⟨4, zd zq_139 (by decide +kernel), rfl, rfl⟩
theorem iX2_fits_52 : xl_D mX2_fits 52 (.iconst 0) 1 53 := ⟨zd zq_2 (by decide +kernel), rfl⟩
theorem iX2_fits_53 : xl_D mX2_fits 53 (.ireturn) 1 54 := ⟨zd zq_17 (by decide +kernel), rfl⟩
theorem iX2_fits_54 : xl_D mX2_fits 54 (.iload_n 1) 1 55 := ⟨zd zq_3 (by decide +kernel), rfl⟩
theorem iX2_fits_55 : xl_D mX2_fits 55 (.bipush 43) 2 57 := ⟨zd zq_440 (by decide +kernel), rfl⟩
theorem iX2_fits_57 : xl_J mX2_fits 57 (fun o => .if_icmp .eq o) 60 66 := ⟨9, zd zq_441 (by decide +kernel), rfl, rfl⟩
theorem iX2_fits_60 : xl_D mX2_fits 60 (.iload_n 1) 1 61 := ⟨zd zq_3 (by decide +kernel), rfl⟩
theorem iX2_fits_61 : xl_D mX2_fits 61 (.bipush 45) 2 63 := ⟨zd zq_442 (by decide +kernel), rfl⟩
theorem iX2_fits_63 : xl_J mX2_fits 63 (fun o => .if_icmp .ne o) 66 70 := ⟨7, zd zq_138 (by decide +kernel), rfl, rfl⟩
theorem iX2_fits_66 : xl_D mX2_fits 66 (.iconst 1) 1 67 := ⟨zd zq_36 (by decide +kernel), rfl⟩
theorem iX2_fits_67 : xl_J mX2_fits 67 (fun o => .goto o) 70 71 := ⟨4, zd zq_139 (by decide +kernel), rfl, rfl⟩
theorem iX2_fits_70 : xl_D mX2_fits 70 (.iconst 0) 1 71 := ⟨zd zq_2 (by decide +kernel), rfl⟩
theorem iX2_fits_71 : xl_D mX2_fits 71 (.ireturn) 1 72 := ⟨zd zq_17 (by decide +kernel), rfl⟩
theorem iX2_fits_72 : xl_D mX2_fits 72 (.iload_n 1) 1 73 := ⟨zd zq_3 (by decide +kernel), rfl⟩
theorem iX2_fits_73 : xl_D mX2_fits 73 (.bipush 48) 2 75 := ⟨zd zq_443 (by decide +kernel), rfl⟩
theorem iX2_fits_75 : xl_J mX2_fits 75 (fun o => .if_icmp .lt o) 78 99 := ⟨24, zd zq_444 (by decide +kernel), rfl, rfl⟩
theorem iX2_fits_78 : xl_D mX2_fits 78 (.iload_n 1) 1 79 := ⟨zd zq_3 (by decide +kernel), rfl⟩
theorem iX2_fits_79 : xl_D mX2_fits 79 (.bipush 48) 2 81 := ⟨zd zq_443 (by decide +kernel), rfl⟩
theorem iX2_fits_81 : xl_D mX2_fits 81 (.aload_n 0) 1 82 := ⟨zd zq_0 (by decide +kernel), rfl⟩
theorem iX2_fits_82 : xl_G mX2_fits 82 2 0 85 := ⟨10, zd zq_248 (by decide +kernel), rfl, fX2_10⟩
theorem iX2_fits_85 : xl_G mX2_fits 85 1 10 88 := ⟨63, zd zq_253 (by decide +kernel), rfl, fX2_63⟩
theorem iX2_fits_88 : xl_G mX2_fits 88 0 3 91 := ⟨76, zd zq_258 (by decide +kernel), rfl, fX2_76⟩
theorem iX2_fits_91 : xl_D mX2_fits 91 (.iadd) 1 92 := ⟨zd zq_19 (by decide +kernel), rfl⟩
theorem iX2_fits_92 : xl_J mX2_fits 92 (fun o => .if_icmp .ge o) 95 99 := ⟨7, zd zq_145 (by decide +kernel), rfl, rfl⟩
theorem iX2_fits_95 : xl_D mX2_fits 95 (.iconst 1) 1 96 := ⟨zd zq_36 (by decide +kernel), rfl⟩
theorem iX2_fits_96 : xl_J mX2_fits 96 (fun o => .goto o) 99 100 := ⟨4, zd zq_139 (by decide +kernel), rfl, rfl⟩
theorem iX2_fits_99 : xl_D mX2_fits 99 (.iconst 0) 1 100 := ⟨zd zq_2 (by decide +kernel), rfl⟩
theorem iX2_fits_100 : xl_D mX2_fits 100 (.ireturn) 1 101 := ⟨zd zq_17 (by decide +kernel), rfl⟩
theorem iX2_fits_101 : xl_D mX2_fits 101 (.iload_n 1) 1 102 := ⟨zd zq_3 (by decide +kernel), rfl⟩
theorem iX2_fits_102 : xl_D mX2_fits 102 (.bipush 48) 2 104 := ⟨zd zq_443 (by decide +kernel), rfl⟩
theorem iX2_fits_104 : xl_J mX2_fits 104 (fun o => .if_icmp .lt o) 107 117 := ⟨13, zd zq_438 (by decide +kernel), rfl, rfl⟩
theorem iX2_fits_107 : xl_D mX2_fits 107 (.iload_n 1) 1 108 := ⟨zd zq_3 (by decide +kernel), rfl⟩
theorem iX2_fits_108 : xl_D mX2_fits 108 (.bipush 57) 2 110 := ⟨zd zq_445 (by decide +kernel), rfl⟩
theorem iX2_fits_110 : xl_J mX2_fits 110 (fun o => .if_icmp .gt o) 113 117 := ⟨7, zd zq_418 (by decide +kernel), rfl, rfl⟩
theorem iX2_fits_113 : xl_D mX2_fits 113 (.iconst 1) 1 114 := ⟨zd zq_36 (by decide +kernel), rfl⟩
theorem iX2_fits_114 : xl_J mX2_fits 114 (fun o => .goto o) 117 118 := ⟨4, zd zq_139 (by decide +kernel), rfl, rfl⟩
theorem iX2_fits_117 : xl_D mX2_fits 117 (.iconst 0) 1 118 := ⟨zd zq_2 (by decide +kernel), rfl⟩
theorem iX2_fits_118 : xl_D mX2_fits 118 (.ireturn) 1 119 := ⟨zd zq_17 (by decide +kernel), rfl⟩
theorem iX2_formMisfit_0 : xl_D mX2_formMisfit 0 (.iconst 0) 1 1 := ⟨zd zq_2 (by decide +kernel), rfl⟩
theorem iX2_formMisfit_1 : xl_D mX2_formMisfit 1 (.istore 4) 2 3 := ⟨zd zq_50 (by decide +kernel), rfl⟩
theorem iX2_formMisfit_3 : xl_D mX2_formMisfit 3 (.iload 4) 2 5 := ⟨zd zq_51 (by decide +kernel), rfl⟩
theorem iX2_formMisfit_5 : xl_D mX2_formMisfit 5 (.aload_n 3) 1 6 := ⟨zd zq_446 (by decide +kernel), rfl⟩
theorem iX2_formMisfit_6 : xl_Ca mX2_formMisfit 6 mJ0_length_8abf5 9 := ⟨269, zd zq_396 (by decide +kernel), rfl, lX2_269, Nat.le_of_ble_eq_true rfl, Nat.le_of_ble_eq_true rfl⟩
theorem iX2_formMisfit_9 : xl_J mX2_formMisfit 9 (fun o => .if_icmp .ge o) 12 52 := ⟨43, zd zq_447 (by decide +kernel), rfl, rfl⟩
theorem iX2_formMisfit_12 : xl_D mX2_formMisfit 12 (.iload_n 1) 1 13 := ⟨zd zq_3 (by decide +kernel), rfl⟩
theorem iX2_formMisfit_13 : xl_D mX2_formMisfit 13 (.iload 4) 2 15 := ⟨zd zq_51 (by decide +kernel), rfl⟩
theorem iX2_formMisfit_15 : xl_D mX2_formMisfit 15 (.iadd) 1 16 := ⟨zd zq_19 (by decide +kernel), rfl⟩
theorem iX2_formMisfit_16 : xl_D mX2_formMisfit 16 (.iload_n 2) 1 17 := ⟨zd zq_6 (by decide +kernel), rfl⟩
theorem iX2_formMisfit_17 : xl_J mX2_formMisfit 17 (fun o => .if_icmp .ge o) 20 41 := ⟨24, zd zq_352 (by decide +kernel), rfl, rfl⟩
theorem iX2_formMisfit_20 : xl_D mX2_formMisfit 20 (.aload_n 0) 1 21 := ⟨zd zq_0 (by decide +kernel), rfl⟩
theorem iX2_formMisfit_21 : xl_D mX2_formMisfit 21 (.aload_n 0) 1 22 := ⟨zd zq_0 (by decide +kernel), rfl⟩
theorem iX2_formMisfit_22 : xl_D mX2_formMisfit 22 (.iload_n 1) 1 23 := ⟨zd zq_3 (by decide +kernel), rfl⟩
theorem iX2_formMisfit_23 : xl_D mX2_formMisfit 23 (.iload 4) 2 25 := ⟨zd zq_51 (by decide +kernel), rfl⟩
theorem iX2_formMisfit_25 : xl_D mX2_formMisfit 25 (.iadd) 1 26 := ⟨zd zq_19 (by decide +kernel), rfl⟩
theorem iX2_formMisfit_26 : xl_Ca mX2_formMisfit 26 mX2_signAt 29 := ⟨295, zd zq_448 (by decide +kernel), rfl, lX2_295, Nat.le_of_ble_eq_true rfl, Nat.le_of_ble_eq_true rfl⟩
theorem iX2_formMisfit_29 : xl_D mX2_formMisfit 29 (.aload_n 3) 1 30 := ⟨zd zq_446 (by decide +kernel), rfl⟩
theorem iX2_formMisfit_30 : xl_D mX2_formMisfit 30 (.iload 4) 2 32 := ⟨zd zq_51 (by decide +kernel), rfl⟩
theorem iX2_formMisfit_32 : xl_Ca mX2_formMisfit 32 mJ0_charAt_5068e 35 := ⟨298, zd zq_449 (by decide +kernel), rfl, lX2_298, Nat.le_of_ble_eq_true rfl, Nat.le_of_ble_eq_true rfl⟩
theorem iX2_formMisfit_35 : xl_Ca mX2_formMisfit 35 mX2_fits 38 := ⟨302, zd zq_450 (by decide +kernel), rfl, lX2_302, Nat.le_of_ble_eq_true rfl, Nat.le_of_ble_eq_true rfl⟩
theorem iX2_formMisfit_38 : xl_J mX2_formMisfit 38 (fun o => .ifCond .ne o) 41 46 := ⟨8, zd zq_367 (by decide +kernel), rfl, rfl⟩
theorem iX2_formMisfit_41 : xl_D mX2_formMisfit 41 (.iload_n 1) 1 42 := ⟨zd zq_3 (by decide +kernel), rfl⟩
theorem iX2_formMisfit_42 : xl_D mX2_formMisfit 42 (.iload 4) 2 44 := ⟨zd zq_51 (by decide +kernel), rfl⟩
theorem iX2_formMisfit_44 : xl_D mX2_formMisfit 44 (.iadd) 1 45 := ⟨zd zq_19 (by decide +kernel), rfl⟩
theorem iX2_formMisfit_45 : xl_D mX2_formMisfit 45 (.ireturn) 1 46 := ⟨zd zq_17 (by decide +kernel), rfl⟩
theorem iX2_formMisfit_46 : xl_D mX2_formMisfit 46 (.iinc 4 1) 3 49 := ⟨zd zq_54 (by decide +kernel), rfl⟩
theorem iX2_formMisfit_49 : xl_J mX2_formMisfit 49 (fun o => .goto o) 52 3 := ⟨-46, zd zq_319 (by decide +kernel), rfl, rfl⟩
theorem iX2_formMisfit_52 : xl_D mX2_formMisfit 52 (.iconst (-1)) 1 53 := ⟨zd zq_104 (by decide +kernel), rfl⟩
theorem iX2_formMisfit_53 : xl_D mX2_formMisfit 53 (.ireturn) 1 54 := ⟨zd zq_17 (by decide +kernel), rfl⟩
theorem iX2_eventsMisfit_0 : xl_D mX2_eventsMisfit 0 (.iconst 0) 1 1 := ⟨zd zq_2 (by decide +kernel), rfl⟩
theorem iX2_eventsMisfit_1 : xl_D mX2_eventsMisfit 1 (.istore_n 2) 1 2 := ⟨zd zq_41 (by decide +kernel), rfl⟩
theorem iX2_eventsMisfit_2 : xl_D mX2_eventsMisfit 2 (.iload_n 2) 1 3 := ⟨zd zq_6 (by decide +kernel), rfl⟩
theorem iX2_eventsMisfit_3 : xl_D mX2_eventsMisfit 3 (.iload_n 1) 1 4 := ⟨zd zq_3 (by decide +kernel), rfl⟩
theorem iX2_eventsMisfit_4 : xl_J mX2_eventsMisfit 4 (fun o => .if_icmp .ge o) 7 29 := ⟨25, zd zq_451 (by decide +kernel), rfl, rfl⟩
theorem iX2_eventsMisfit_7 : xl_D mX2_eventsMisfit 7 (.aload_n 0) 1 8 := ⟨zd zq_0 (by decide +kernel), rfl⟩
theorem iX2_eventsMisfit_8 : xl_D mX2_eventsMisfit 8 (.iload_n 2) 1 9 := ⟨zd zq_6 (by decide +kernel), rfl⟩
theorem iX2_eventsMisfit_9 : xl_D mX2_eventsMisfit 9 (.iload_n 1) 1 10 := ⟨zd zq_3 (by decide +kernel), rfl⟩
theorem iX2_eventsMisfit_10 : xl_D mX2_eventsMisfit 10 (.ldc_w 306) 3 13 := ⟨zd zq_452 (by decide +kernel), rfl⟩
theorem iX2_eventsMisfit_13 : xl_Ca mX2_eventsMisfit 13 mX2_formMisfit 16 := ⟨308, zd zq_453 (by decide +kernel), rfl, lX2_308, Nat.le_of_ble_eq_true rfl, Nat.le_of_ble_eq_true rfl⟩
theorem iX2_eventsMisfit_16 : xl_D mX2_eventsMisfit 16 (.istore_n 3) 1 17 := ⟨zd zq_131 (by decide +kernel), rfl⟩
theorem iX2_eventsMisfit_17 : xl_D mX2_eventsMisfit 17 (.iload_n 3) 1 18 := ⟨zd zq_25 (by decide +kernel), rfl⟩
theorem iX2_eventsMisfit_18 : xl_J mX2_eventsMisfit 18 (fun o => .ifCond .lt o) 21 23 := ⟨5, zd zq_454 (by decide +kernel), rfl, rfl⟩
theorem iX2_eventsMisfit_21 : xl_D mX2_eventsMisfit 21 (.iload_n 3) 1 22 := ⟨zd zq_25 (by decide +kernel), rfl⟩
theorem iX2_eventsMisfit_22 : xl_D mX2_eventsMisfit 22 (.ireturn) 1 23 := ⟨zd zq_17 (by decide +kernel), rfl⟩
theorem iX2_eventsMisfit_23 : xl_D mX2_eventsMisfit 23 (.iinc 2 9) 3 26 := ⟨zd zq_455 (by decide +kernel), rfl⟩
theorem iX2_eventsMisfit_26 : xl_J mX2_eventsMisfit 26 (fun o => .goto o) 29 2 := ⟨-24, zd zq_456 (by decide +kernel), rfl, rfl⟩
theorem iX2_eventsMisfit_29 : xl_D mX2_eventsMisfit 29 (.iconst (-1)) 1 30 := ⟨zd zq_104 (by decide +kernel), rfl⟩
theorem iX2_eventsMisfit_30 : xl_D mX2_eventsMisfit 30 (.ireturn) 1 31 := ⟨zd zq_17 (by decide +kernel), rfl⟩
theorem iX2_dayMisfit_0 : xl_D mX2_dayMisfit 0 (.iconst 0) 1 1 := ⟨zd zq_2 (by decide +kernel), rfl⟩
theorem iX2_dayMisfit_1 : xl_D mX2_dayMisfit 1 (.istore_n 2) 1 2 := ⟨zd zq_41 (by decide +kernel), rfl⟩
theorem iX2_dayMisfit_2 : xl_D mX2_dayMisfit 2 (.iconst 0) 1 3 := ⟨zd zq_2 (by decide +kernel), rfl⟩
theorem iX2_dayMisfit_3 : xl_D mX2_dayMisfit 3 (.istore_n 3) 1 4 := ⟨zd zq_131 (by decide +kernel), rfl⟩
theorem iX2_dayMisfit_4 : xl_D mX2_dayMisfit 4 (.iload_n 3) 1 5 := ⟨zd zq_25 (by decide +kernel), rfl⟩
theorem iX2_dayMisfit_5 : xl_D mX2_dayMisfit 5 (.bipush 80) 2 7 := ⟨zd zq_229 (by decide +kernel), rfl⟩
theorem iX2_dayMisfit_7 : xl_J mX2_dayMisfit 7 (fun o => .if_icmp .ge o) 10 68 := ⟨61, zd zq_457 (by decide +kernel), rfl, rfl⟩
theorem iX2_dayMisfit_10 : xl_D mX2_dayMisfit 10 (.iload_n 2) 1 11 := ⟨zd zq_6 (by decide +kernel), rfl⟩
theorem iX2_dayMisfit_11 : xl_D mX2_dayMisfit 11 (.iload_n 1) 1 12 := ⟨zd zq_3 (by decide +kernel), rfl⟩
theorem iX2_dayMisfit_12 : xl_J mX2_dayMisfit 12 (fun o => .if_icmp .ge o) 15 68 := ⟨56, zd zq_155 (by decide +kernel), rfl, rfl⟩
theorem iX2_dayMisfit_15 : xl_D mX2_dayMisfit 15 (.aload_n 0) 1 16 := ⟨zd zq_0 (by decide +kernel), rfl⟩
theorem iX2_dayMisfit_16 : xl_D mX2_dayMisfit 16 (.iload_n 2) 1 17 := ⟨zd zq_6 (by decide +kernel), rfl⟩
theorem iX2_dayMisfit_17 : xl_Ca mX2_dayMisfit 17 mX2_actForm 20 := ⟨265, zd zq_395 (by decide +kernel), rfl, lX2_265, Nat.le_of_ble_eq_true rfl, Nat.le_of_ble_eq_true rfl⟩
theorem iX2_dayMisfit_20 : xl_D mX2_dayMisfit 20 (.astore 4) 2 22 := ⟨zd zq_458 (by decide +kernel), rfl⟩
theorem iX2_dayMisfit_22 : xl_D mX2_dayMisfit 22 (.aload 4) 2 24 := ⟨zd zq_459 (by decide +kernel), rfl⟩
theorem iX2_dayMisfit_24 : xl_Ca mX2_dayMisfit 24 mJ0_isEmpty_aae02 27 := ⟨312, zd zq_460 (by decide +kernel), rfl, lX2_312, Nat.le_of_ble_eq_true rfl, Nat.le_of_ble_eq_true rfl⟩
theorem iX2_dayMisfit_27 : xl_J mX2_dayMisfit 27 (fun o => .ifCond .eq o) 30 32 := ⟨5, zd zq_168 (by decide +kernel), rfl, rfl⟩
theorem iX2_dayMisfit_30 : xl_D mX2_dayMisfit 30 (.iload_n 2) 1 31 := ⟨zd zq_6 (by decide +kernel), rfl⟩
theorem iX2_dayMisfit_31 : xl_D mX2_dayMisfit 31 (.ireturn) 1 32 := ⟨zd zq_17 (by decide +kernel), rfl⟩
theorem iX2_dayMisfit_32 : xl_D mX2_dayMisfit 32 (.aload_n 0) 1 33 := ⟨zd zq_0 (by decide +kernel), rfl⟩
theorem iX2_dayMisfit_33 : xl_D mX2_dayMisfit 33 (.iload_n 2) 1 34 := ⟨zd zq_6 (by decide +kernel), rfl⟩
theorem iX2_dayMisfit_34 : xl_D mX2_dayMisfit 34 (.iconst 1) 1 35 := ⟨zd zq_36 (by decide +kernel), rfl⟩
theorem iX2_dayMisfit_35 : xl_D mX2_dayMisfit 35 (.iadd) 1 36 := ⟨zd zq_19 (by decide +kernel), rfl⟩
theorem iX2_dayMisfit_36 : xl_D mX2_dayMisfit 36 (.iload_n 1) 1 37 := ⟨zd zq_3 (by decide +kernel), rfl⟩
theorem iX2_dayMisfit_37 : xl_D mX2_dayMisfit 37 (.aload 4) 2 39 := ⟨zd zq_459 (by decide +kernel), rfl⟩
theorem iX2_dayMisfit_39 : xl_Ca mX2_dayMisfit 39 mX2_formMisfit 42 := ⟨308, zd zq_453 (by decide +kernel), rfl, lX2_308, Nat.le_of_ble_eq_true rfl, Nat.le_of_ble_eq_true rfl⟩
theorem iX2_dayMisfit_42 : xl_D mX2_dayMisfit 42 (.istore 5) 2 44 := ⟨zd zq_91 (by decide +kernel), rfl⟩
theorem iX2_dayMisfit_44 : xl_D mX2_dayMisfit 44 (.iload 5) 2 46 := ⟨zd zq_92 (by decide +kernel), rfl⟩
theorem iX2_dayMisfit_46 : xl_J mX2_dayMisfit 46 (fun o => .ifCond .lt o) 49 52 := ⟨6, zd zq_461 (by decide +kernel), rfl, rfl⟩
theorem iX2_dayMisfit_49 : xl_D mX2_dayMisfit 49 (.iload 5) 2 51 := ⟨zd zq_92 (by decide +kernel), rfl⟩
theorem iX2_dayMisfit_51 : xl_D mX2_dayMisfit 51 (.ireturn) 1 52 := ⟨zd zq_17 (by decide +kernel), rfl⟩
theorem iX2_dayMisfit_52 : xl_D mX2_dayMisfit 52 (.iload_n 2) 1 53 := ⟨zd zq_6 (by decide +kernel), rfl⟩
theorem iX2_dayMisfit_53 : xl_D mX2_dayMisfit 53 (.iconst 1) 1 54 := ⟨zd zq_36 (by decide +kernel), rfl⟩
theorem iX2_dayMisfit_54 : xl_D mX2_dayMisfit 54 (.aload 4) 2 56 := ⟨zd zq_459 (by decide +kernel), rfl⟩
theorem iX2_dayMisfit_56 : xl_Ca mX2_dayMisfit 56 mJ0_length_8abf5 59 := ⟨269, zd zq_396 (by decide +kernel), rfl, lX2_269, Nat.le_of_ble_eq_true rfl, Nat.le_of_ble_eq_true rfl⟩
theorem iX2_dayMisfit_59 : xl_D mX2_dayMisfit 59 (.iadd) 1 60 := ⟨zd zq_19 (by decide +kernel), rfl⟩
theorem iX2_dayMisfit_60 : xl_D mX2_dayMisfit 60 (.iadd) 1 61 := ⟨zd zq_19 (by decide +kernel), rfl⟩
theorem iX2_dayMisfit_61 : xl_D mX2_dayMisfit 61 (.istore_n 2) 1 62 := ⟨zd zq_41 (by decide +kernel), rfl⟩
theorem iX2_dayMisfit_62 : xl_D mX2_dayMisfit 62 (.iinc 3 1) 3 65 := ⟨zd zq_153 (by decide +kernel), rfl⟩
theorem iX2_dayMisfit_65 : xl_J mX2_dayMisfit 65 (fun o => .goto o) 68 4 := ⟨-61, zd zq_161 (by decide +kernel), rfl, rfl⟩
theorem iX2_dayMisfit_68 : xl_D mX2_dayMisfit 68 (.iconst (-1)) 1 69 := ⟨zd zq_104 (by decide +kernel), rfl⟩
theorem iX2_dayMisfit_69 : xl_D mX2_dayMisfit 69 (.ireturn) 1 70 := ⟨zd zq_17 (by decide +kernel), rfl⟩
theorem iX2_actForm_0 : xl_D mX2_actForm 0 (.aload_n 0) 1 1 := ⟨zd zq_0 (by decide +kernel), rfl⟩
theorem iX2_actForm_1 : xl_D mX2_actForm 1 (.iload_n 1) 1 2 := ⟨zd zq_3 (by decide +kernel), rfl⟩
theorem iX2_actForm_2 : xl_Ca mX2_actForm 2 mX2_signAt 5 := ⟨295, zd zq_448 (by decide +kernel), rfl, lX2_295, Nat.le_of_ble_eq_true rfl, Nat.le_of_ble_eq_true rfl⟩
theorem iX2_actForm_5 : xl_D mX2_actForm 5 (.lookupswitch 47 #[(101, 35), (105, 43), (109, 39)]) 35 40 := ⟨by decide +kernel, rfl⟩
theorem iX2_actForm_40 : xl_D mX2_actForm 40 (.ldc_w 316) 3 43 := ⟨zd zq_462 (by decide +kernel), rfl⟩
theorem iX2_actForm_43 : xl_D mX2_actForm 43 (.areturn) 1 44 := ⟨zd zq_463 (by decide +kernel), rfl⟩
theorem iX2_actForm_44 : xl_D mX2_actForm 44 (.ldc_w 318) 3 47 := ⟨zd zq_464 (by decide +kernel), rfl⟩
theorem iX2_actForm_47 : xl_D mX2_actForm 47 (.areturn) 1 48 := ⟨zd zq_463 (by decide +kernel), rfl⟩
theorem iX2_actForm_48 : xl_D mX2_actForm 48 (.ldc_w 320) 3 51 := ⟨zd zq_465 (by decide +kernel), rfl⟩
theorem iX2_actForm_51 : xl_D mX2_actForm 51 (.areturn) 1 52 := ⟨zd zq_463 (by decide +kernel), rfl⟩
theorem iX2_actForm_52 : xl_D mX2_actForm 52 (.ldc_w 322) 3 55 := ⟨zd zq_466 (by decide +kernel), rfl⟩
theorem iX2_actForm_55 : xl_D mX2_actForm 55 (.areturn) 1 56 := ⟨zd zq_463 (by decide +kernel), rfl⟩
theorem iX2_numberAt_0 : xl_D mX2_numberAt 0 (.iconst 0) 1 1 := ⟨zd zq_2 (by decide +kernel), rfl⟩
theorem iX2_numberAt_1 : xl_D mX2_numberAt 1 (.istore_n 3) 1 2 := ⟨zd zq_131 (by decide +kernel), rfl⟩
theorem iX2_numberAt_2 : xl_D mX2_numberAt 2 (.iconst 0) 1 3 := ⟨zd zq_2 (by decide +kernel), rfl⟩
theorem iX2_numberAt_3 : xl_D mX2_numberAt 3 (.istore 4) 2 5 := ⟨zd zq_50 (by decide +kernel), rfl⟩
theorem iX2_numberAt_5 : xl_D mX2_numberAt 5 (.iload 4) 2 7 := ⟨zd zq_51 (by decide +kernel), rfl⟩
theorem iX2_numberAt_7 : xl_D mX2_numberAt 7 (.iload_n 2) 1 8 := ⟨zd zq_6 (by decide +kernel), rfl⟩
theorem iX2_numberAt_8 : xl_J mX2_numberAt 8 (fun o => .if_icmp .ge o) 11 34 := ⟨26, zd zq_467 (by decide +kernel), rfl, rfl⟩
theorem iX2_numberAt_11 : xl_D mX2_numberAt 11 (.iload_n 3) 1 12 := ⟨zd zq_25 (by decide +kernel), rfl⟩
theorem iX2_numberAt_12 : xl_D mX2_numberAt 12 (.bipush 10) 2 14 := ⟨zd zq_78 (by decide +kernel), rfl⟩
theorem iX2_numberAt_14 : xl_D mX2_numberAt 14 (.imul) 1 15 := ⟨zd zq_10 (by decide +kernel), rfl⟩
theorem iX2_numberAt_15 : xl_D mX2_numberAt 15 (.aload_n 0) 1 16 := ⟨zd zq_0 (by decide +kernel), rfl⟩
theorem iX2_numberAt_16 : xl_D mX2_numberAt 16 (.iload_n 1) 1 17 := ⟨zd zq_3 (by decide +kernel), rfl⟩
theorem iX2_numberAt_17 : xl_D mX2_numberAt 17 (.iload 4) 2 19 := ⟨zd zq_51 (by decide +kernel), rfl⟩
theorem iX2_numberAt_19 : xl_D mX2_numberAt 19 (.iadd) 1 20 := ⟨zd zq_19 (by decide +kernel), rfl⟩
theorem iX2_numberAt_20 : xl_Ca mX2_numberAt 20 mX2_signAt 23 := ⟨295, zd zq_448 (by decide +kernel), rfl, lX2_295, Nat.le_of_ble_eq_true rfl, Nat.le_of_ble_eq_true rfl⟩
theorem iX2_numberAt_23 : xl_D mX2_numberAt 23 (.iadd) 1 24 := ⟨zd zq_19 (by decide +kernel), rfl⟩
theorem iX2_numberAt_24 : xl_D mX2_numberAt 24 (.bipush 48) 2 26 := ⟨zd zq_443 (by decide +kernel), rfl⟩
theorem iX2_numberAt_26 : xl_D mX2_numberAt 26 (.isub) 1 27 := ⟨zd zq_39 (by decide +kernel), rfl⟩
theorem iX2_numberAt_27 : xl_D mX2_numberAt 27 (.istore_n 3) 1 28 := ⟨zd zq_131 (by decide +kernel), rfl⟩
theorem iX2_numberAt_28 : xl_D mX2_numberAt 28 (.iinc 4 1) 3 31 := ⟨zd zq_54 (by decide +kernel), rfl⟩
theorem iX2_numberAt_31 : xl_J mX2_numberAt 31 (fun o => .goto o) 34 5 := ⟨-26, zd zq_55 (by decide +kernel), rfl, rfl⟩
theorem iX2_numberAt_34 : xl_D mX2_numberAt 34 (.iload_n 3) 1 35 := ⟨zd zq_25 (by decide +kernel), rfl⟩
theorem iX2_numberAt_35 : xl_D mX2_numberAt 35 (.ireturn) 1 36 := ⟨zd zq_17 (by decide +kernel), rfl⟩
theorem iX2_keyAt_0 : xl_D mX2_keyAt 0 (.aload_n 0) 1 1 := ⟨zd zq_0 (by decide +kernel), rfl⟩
theorem iX2_keyAt_1 : xl_D mX2_keyAt 1 (.iload_n 1) 1 2 := ⟨zd zq_3 (by decide +kernel), rfl⟩
theorem iX2_keyAt_2 : xl_Ca mX2_keyAt 2 mX2_signAt 5 := ⟨295, zd zq_448 (by decide +kernel), rfl, lX2_295, Nat.le_of_ble_eq_true rfl, Nat.le_of_ble_eq_true rfl⟩
theorem iX2_keyAt_5 : xl_D mX2_keyAt 5 (.bipush 97) 2 7 := ⟨zd zq_437 (by decide +kernel), rfl⟩
theorem iX2_keyAt_7 : xl_D mX2_keyAt 7 (.isub) 1 8 := ⟨zd zq_39 (by decide +kernel), rfl⟩
theorem iX2_keyAt_8 : xl_D mX2_keyAt 8 (.ireturn) 1 9 := ⟨zd zq_17 (by decide +kernel), rfl⟩
theorem iX2_valueAt_0 : xl_D mX2_valueAt 0 (.aload_n 0) 1 1 := ⟨zd zq_0 (by decide +kernel), rfl⟩
theorem iX2_valueAt_1 : xl_D mX2_valueAt 1 (.iload_n 1) 1 2 := ⟨zd zq_3 (by decide +kernel), rfl⟩
theorem iX2_valueAt_2 : xl_D mX2_valueAt 2 (.iconst 1) 1 3 := ⟨zd zq_36 (by decide +kernel), rfl⟩
theorem iX2_valueAt_3 : xl_D mX2_valueAt 3 (.iadd) 1 4 := ⟨zd zq_19 (by decide +kernel), rfl⟩
theorem iX2_valueAt_4 : xl_D mX2_valueAt 4 (.iconst 2) 1 5 := ⟨zd zq_127 (by decide +kernel), rfl⟩
theorem iX2_valueAt_5 : xl_Ca mX2_valueAt 5 mX2_numberAt 8 := ⟨324, zd zq_468 (by decide +kernel), rfl, lX2_324, Nat.le_of_ble_eq_true rfl, Nat.le_of_ble_eq_true rfl⟩
theorem iX2_valueAt_8 : xl_D mX2_valueAt 8 (.istore_n 2) 1 9 := ⟨zd zq_41 (by decide +kernel), rfl⟩
theorem iX2_valueAt_9 : xl_D mX2_valueAt 9 (.aload_n 0) 1 10 := ⟨zd zq_0 (by decide +kernel), rfl⟩
theorem iX2_valueAt_10 : xl_D mX2_valueAt 10 (.iload_n 1) 1 11 := ⟨zd zq_3 (by decide +kernel), rfl⟩
theorem iX2_valueAt_11 : xl_Ca mX2_valueAt 11 mX2_signAt 14 := ⟨295, zd zq_448 (by decide +kernel), rfl, lX2_295, Nat.le_of_ble_eq_true rfl, Nat.le_of_ble_eq_true rfl⟩
theorem iX2_valueAt_14 : xl_D mX2_valueAt 14 (.bipush 45) 2 16 := ⟨zd zq_442 (by decide +kernel), rfl⟩
theorem iX2_valueAt_16 : xl_J mX2_valueAt 16 (fun o => .if_icmp .ne o) 19 24 := ⟨8, zd zq_469 (by decide +kernel), rfl, rfl⟩
theorem iX2_valueAt_19 : xl_D mX2_valueAt 19 (.iload_n 2) 1 20 := ⟨zd zq_6 (by decide +kernel), rfl⟩
theorem iX2_valueAt_20 : xl_D mX2_valueAt 20 (.ineg) 1 21 := ⟨zd zq_470 (by decide +kernel), rfl⟩
theorem iX2_valueAt_21 : xl_J mX2_valueAt 21 (fun o => .goto o) 24 25 := ⟨4, zd zq_139 (by decide +kernel), rfl, rfl⟩
theorem iX2_valueAt_24 : xl_D mX2_valueAt 24 (.iload_n 2) 1 25 := ⟨zd zq_6 (by decide +kernel), rfl⟩
theorem iX2_valueAt_25 : xl_D mX2_valueAt 25 (.ireturn) 1 26 := ⟨zd zq_17 (by decide +kernel), rfl⟩
theorem iX2_comeEventAt_0 : xl_D mX2_comeEventAt 0 (.aload_n 0) 1 1 := ⟨zd zq_0 (by decide +kernel), rfl⟩
theorem iX2_comeEventAt_1 : xl_G mX2_comeEventAt 1 2 0 4 := ⟨10, zd zq_248 (by decide +kernel), rfl, fX2_10⟩
theorem iX2_comeEventAt_4 : xl_D mX2_comeEventAt 4 (.aload_n 0) 1 5 := ⟨zd zq_0 (by decide +kernel), rfl⟩
theorem iX2_comeEventAt_5 : xl_D mX2_comeEventAt 5 (.iload_n 1) 1 6 := ⟨zd zq_3 (by decide +kernel), rfl⟩
theorem iX2_comeEventAt_6 : xl_Ca mX2_comeEventAt 6 mX2_keyAt 9 := ⟨327, zd zq_471 (by decide +kernel), rfl, lX2_327, Nat.le_of_ble_eq_true rfl, Nat.le_of_ble_eq_true rfl⟩
theorem iX2_comeEventAt_9 : xl_D mX2_comeEventAt 9 (.aload_n 0) 1 10 := ⟨zd zq_0 (by decide +kernel), rfl⟩
theorem iX2_comeEventAt_10 : xl_D mX2_comeEventAt 10 (.iload_n 1) 1 11 := ⟨zd zq_3 (by decide +kernel), rfl⟩
theorem iX2_comeEventAt_11 : xl_D mX2_comeEventAt 11 (.iconst 1) 1 12 := ⟨zd zq_36 (by decide +kernel), rfl⟩
theorem iX2_comeEventAt_12 : xl_D mX2_comeEventAt 12 (.iadd) 1 13 := ⟨zd zq_19 (by decide +kernel), rfl⟩
theorem iX2_comeEventAt_13 : xl_D mX2_comeEventAt 13 (.iconst 4) 1 14 := ⟨zd zq_63 (by decide +kernel), rfl⟩
theorem iX2_comeEventAt_14 : xl_Ca mX2_comeEventAt 14 mX2_numberAt 17 := ⟨324, zd zq_468 (by decide +kernel), rfl, lX2_324, Nat.le_of_ble_eq_true rfl, Nat.le_of_ble_eq_true rfl⟩
theorem iX2_comeEventAt_17 : xl_D mX2_comeEventAt 17 (.aload_n 0) 1 18 := ⟨zd zq_0 (by decide +kernel), rfl⟩
theorem iX2_comeEventAt_18 : xl_D mX2_comeEventAt 18 (.iload_n 1) 1 19 := ⟨zd zq_3 (by decide +kernel), rfl⟩
theorem iX2_comeEventAt_19 : xl_D mX2_comeEventAt 19 (.iconst 5) 1 20 := ⟨zd zq_64 (by decide +kernel), rfl⟩
theorem iX2_comeEventAt_20 : xl_D mX2_comeEventAt 20 (.iadd) 1 21 := ⟨zd zq_19 (by decide +kernel), rfl⟩
theorem iX2_comeEventAt_21 : xl_Ca mX2_comeEventAt 21 mX2_valueAt 24 := ⟨330, zd zq_472 (by decide +kernel), rfl, lX2_330, Nat.le_of_ble_eq_true rfl, Nat.le_of_ble_eq_true rfl⟩
theorem iX2_comeEventAt_24 : xl_D mX2_comeEventAt 24 (.aload_n 0) 1 25 := ⟨zd zq_0 (by decide +kernel), rfl⟩
theorem iX2_comeEventAt_25 : xl_D mX2_comeEventAt 25 (.iload_n 1) 1 26 := ⟨zd zq_3 (by decide +kernel), rfl⟩
theorem iX2_comeEventAt_26 : xl_D mX2_comeEventAt 26 (.bipush 8) 2 28 := ⟨zd zq_76 (by decide +kernel), rfl⟩
theorem iX2_comeEventAt_28 : xl_D mX2_comeEventAt 28 (.iadd) 1 29 := ⟨zd zq_19 (by decide +kernel), rfl⟩
theorem iX2_comeEventAt_29 : xl_D mX2_comeEventAt 29 (.iconst 1) 1 30 := ⟨zd zq_36 (by decide +kernel), rfl⟩
theorem iX2_comeEventAt_30 : xl_Ca mX2_comeEventAt 30 mX2_numberAt 33 := ⟨324, zd zq_468 (by decide +kernel), rfl, lX2_324, Nat.le_of_ble_eq_true rfl, Nat.le_of_ble_eq_true rfl⟩
theorem iX2_comeEventAt_33 : xl_Ca mX2_comeEventAt 33 mX1_comeEvent 36 := ⟨90, zd zq_265 (by decide +kernel), rfl, lX2_90, Nat.le_of_ble_eq_true rfl, Nat.le_of_ble_eq_true rfl⟩
theorem iX2_comeEventAt_36 : xl_D mX2_comeEventAt 36 (.ireturn) 1 37 := ⟨zd zq_17 (by decide +kernel), rfl⟩
theorem iX2_actRefusal_0 : xl_D mX2_actRefusal 0 (.aload_n 0) 1 1 := ⟨zd zq_0 (by decide +kernel), rfl⟩
theorem iX2_actRefusal_1 : xl_D mX2_actRefusal 1 (.iload_n 1) 1 2 := ⟨zd zq_3 (by decide +kernel), rfl⟩
theorem iX2_actRefusal_2 : xl_Ca mX2_actRefusal 2 mX2_signAt 5 := ⟨295, zd zq_448 (by decide +kernel), rfl, lX2_295, Nat.le_of_ble_eq_true rfl, Nat.le_of_ble_eq_true rfl⟩
theorem iX2_actRefusal_5 : xl_D mX2_actRefusal 5 (.lookupswitch 85 #[(101, 27), (109, 64)]) 27 32 := ⟨by decide +kernel, rfl⟩
theorem iX2_actRefusal_32 : xl_D mX2_actRefusal 32 (.aload_n 0) 1 33 := ⟨zd zq_0 (by decide +kernel), rfl⟩
theorem iX2_actRefusal_33 : xl_D mX2_actRefusal 33 (.aload_n 0) 1 34 := ⟨zd zq_0 (by decide +kernel), rfl⟩
theorem iX2_actRefusal_34 : xl_D mX2_actRefusal 34 (.iload_n 1) 1 35 := ⟨zd zq_3 (by decide +kernel), rfl⟩
theorem iX2_actRefusal_35 : xl_D mX2_actRefusal 35 (.iconst 1) 1 36 := ⟨zd zq_36 (by decide +kernel), rfl⟩
theorem iX2_actRefusal_36 : xl_D mX2_actRefusal 36 (.iadd) 1 37 := ⟨zd zq_19 (by decide +kernel), rfl⟩
theorem iX2_actRefusal_37 : xl_Ca mX2_actRefusal 37 mX2_keyAt 40 := ⟨327, zd zq_471 (by decide +kernel), rfl, lX2_327, Nat.le_of_ble_eq_true rfl, Nat.le_of_ble_eq_true rfl⟩
theorem iX2_actRefusal_40 : xl_D mX2_actRefusal 40 (.aload_n 0) 1 41 := ⟨zd zq_0 (by decide +kernel), rfl⟩
theorem iX2_actRefusal_41 : xl_D mX2_actRefusal 41 (.iload_n 1) 1 42 := ⟨zd zq_3 (by decide +kernel), rfl⟩
theorem iX2_actRefusal_42 : xl_D mX2_actRefusal 42 (.iconst 2) 1 43 := ⟨zd zq_127 (by decide +kernel), rfl⟩
theorem iX2_actRefusal_43 : xl_D mX2_actRefusal 43 (.iadd) 1 44 := ⟨zd zq_19 (by decide +kernel), rfl⟩
theorem iX2_actRefusal_44 : xl_D mX2_actRefusal 44 (.iconst 4) 1 45 := ⟨zd zq_63 (by decide +kernel), rfl⟩
theorem iX2_actRefusal_45 : xl_Ca mX2_actRefusal 45 mX2_numberAt 48 := ⟨324, zd zq_468 (by decide +kernel), rfl, lX2_324, Nat.le_of_ble_eq_true rfl, Nat.le_of_ble_eq_true rfl⟩
theorem iX2_actRefusal_48 : xl_D mX2_actRefusal 48 (.aload_n 0) 1 49 := ⟨zd zq_0 (by decide +kernel), rfl⟩
theorem iX2_actRefusal_49 : xl_D mX2_actRefusal 49 (.iload_n 1) 1 50 := ⟨zd zq_3 (by decide +kernel), rfl⟩
theorem iX2_actRefusal_50 : xl_D mX2_actRefusal 50 (.bipush 6) 2 52 := ⟨zd zq_71 (by decide +kernel), rfl⟩
theorem iX2_actRefusal_52 : xl_D mX2_actRefusal 52 (.iadd) 1 53 := ⟨zd zq_19 (by decide +kernel), rfl⟩
theorem iX2_actRefusal_53 : xl_Ca mX2_actRefusal 53 mX2_valueAt 56 := ⟨330, zd zq_472 (by decide +kernel), rfl, lX2_330, Nat.le_of_ble_eq_true rfl, Nat.le_of_ble_eq_true rfl⟩
theorem iX2_actRefusal_56 : xl_D mX2_actRefusal 56 (.aload_n 0) 1 57 := ⟨zd zq_0 (by decide +kernel), rfl⟩
theorem iX2_actRefusal_57 : xl_D mX2_actRefusal 57 (.iload_n 1) 1 58 := ⟨zd zq_3 (by decide +kernel), rfl⟩
theorem iX2_actRefusal_58 : xl_D mX2_actRefusal 58 (.bipush 9) 2 60 := ⟨zd zq_271 (by decide +kernel), rfl⟩
theorem iX2_actRefusal_60 : xl_D mX2_actRefusal 60 (.iadd) 1 61 := ⟨zd zq_19 (by decide +kernel), rfl⟩
theorem iX2_actRefusal_61 : xl_D mX2_actRefusal 61 (.iconst 1) 1 62 := ⟨zd zq_36 (by decide +kernel), rfl⟩
theorem iX2_actRefusal_62 : xl_Ca mX2_actRefusal 62 mX2_numberAt 65 := ⟨324, zd zq_468 (by decide +kernel), rfl, lX2_324, Nat.le_of_ble_eq_true rfl, Nat.le_of_ble_eq_true rfl⟩
theorem iX2_actRefusal_65 : xl_Ca mX2_actRefusal 65 mX2_eventRefusal 68 := ⟨83, zd zq_262 (by decide +kernel), rfl, lX2_83, Nat.le_of_ble_eq_true rfl, Nat.le_of_ble_eq_true rfl⟩
theorem iX2_actRefusal_68 : xl_D mX2_actRefusal 68 (.ireturn) 1 69 := ⟨zd zq_17 (by decide +kernel), rfl⟩
theorem iX2_actRefusal_69 : xl_D mX2_actRefusal 69 (.aload_n 0) 1 70 := ⟨zd zq_0 (by decide +kernel), rfl⟩
theorem iX2_actRefusal_70 : xl_D mX2_actRefusal 70 (.aload_n 0) 1 71 := ⟨zd zq_0 (by decide +kernel), rfl⟩
theorem iX2_actRefusal_71 : xl_D mX2_actRefusal 71 (.iload_n 1) 1 72 := ⟨zd zq_3 (by decide +kernel), rfl⟩
theorem iX2_actRefusal_72 : xl_D mX2_actRefusal 72 (.iconst 1) 1 73 := ⟨zd zq_36 (by decide +kernel), rfl⟩
theorem iX2_actRefusal_73 : xl_D mX2_actRefusal 73 (.iadd) 1 74 := ⟨zd zq_19 (by decide +kernel), rfl⟩
theorem iX2_actRefusal_74 : xl_D mX2_actRefusal 74 (.iconst 1) 1 75 := ⟨zd zq_36 (by decide +kernel), rfl⟩
theorem iX2_actRefusal_75 : xl_Ca mX2_actRefusal 75 mX2_numberAt 78 := ⟨324, zd zq_468 (by decide +kernel), rfl, lX2_324, Nat.le_of_ble_eq_true rfl, Nat.le_of_ble_eq_true rfl⟩
theorem iX2_actRefusal_78 : xl_D mX2_actRefusal 78 (.aload_n 0) 1 79 := ⟨zd zq_0 (by decide +kernel), rfl⟩
theorem iX2_actRefusal_79 : xl_D mX2_actRefusal 79 (.iload_n 1) 1 80 := ⟨zd zq_3 (by decide +kernel), rfl⟩
theorem iX2_actRefusal_80 : xl_D mX2_actRefusal 80 (.iconst 2) 1 81 := ⟨zd zq_127 (by decide +kernel), rfl⟩
theorem iX2_actRefusal_81 : xl_D mX2_actRefusal 81 (.iadd) 1 82 := ⟨zd zq_19 (by decide +kernel), rfl⟩
theorem iX2_actRefusal_82 : xl_D mX2_actRefusal 82 (.iconst 5) 1 83 := ⟨zd zq_64 (by decide +kernel), rfl⟩
theorem iX2_actRefusal_83 : xl_Ca mX2_actRefusal 83 mX2_numberAt 86 := ⟨324, zd zq_468 (by decide +kernel), rfl, lX2_324, Nat.le_of_ble_eq_true rfl, Nat.le_of_ble_eq_true rfl⟩
theorem iX2_actRefusal_86 : xl_Ca mX2_actRefusal 86 mX2_markRefusal 89 := ⟨111, zd zq_134 (by decide +kernel), rfl, lX2_111, Nat.le_of_ble_eq_true rfl, Nat.le_of_ble_eq_true rfl⟩
theorem iX2_actRefusal_89 : xl_D mX2_actRefusal 89 (.ireturn) 1 90 := ⟨zd zq_17 (by decide +kernel), rfl⟩
theorem iX2_actRefusal_90 : xl_D mX2_actRefusal 90 (.aload_n 0) 1 91 := ⟨zd zq_0 (by decide +kernel), rfl⟩
theorem iX2_actRefusal_91 : xl_D mX2_actRefusal 91 (.aload_n 0) 1 92 := ⟨zd zq_0 (by decide +kernel), rfl⟩
theorem iX2_actRefusal_92 : xl_D mX2_actRefusal 92 (.iload_n 1) 1 93 := ⟨zd zq_3 (by decide +kernel), rfl⟩
theorem iX2_actRefusal_93 : xl_D mX2_actRefusal 93 (.iconst 1) 1 94 := ⟨zd zq_36 (by decide +kernel), rfl⟩
theorem iX2_actRefusal_94 : xl_D mX2_actRefusal 94 (.iadd) 1 95 := ⟨zd zq_19 (by decide +kernel), rfl⟩
theorem iX2_actRefusal_95 : xl_D mX2_actRefusal 95 (.iconst 1) 1 96 := ⟨zd zq_36 (by decide +kernel), rfl⟩
theorem iX2_actRefusal_96 : xl_Ca mX2_actRefusal 96 mX2_numberAt 99 := ⟨324, zd zq_468 (by decide +kernel), rfl, lX2_324, Nat.le_of_ble_eq_true rfl, Nat.le_of_ble_eq_true rfl⟩
theorem iX2_actRefusal_99 : xl_Ca mX2_actRefusal 99 mX2_idleRefusal 102 := ⟨122, zd zq_279 (by decide +kernel), rfl, lX2_122, Nat.le_of_ble_eq_true rfl, Nat.le_of_ble_eq_true rfl⟩
theorem iX2_actRefusal_102 : xl_D mX2_actRefusal 102 (.ireturn) 1 103 := ⟨zd zq_17 (by decide +kernel), rfl⟩
theorem iX2_comeAct_0 : xl_D mX2_comeAct 0 (.aload_n 0) 1 1 := ⟨zd zq_0 (by decide +kernel), rfl⟩
theorem iX2_comeAct_1 : xl_D mX2_comeAct 1 (.iload_n 1) 1 2 := ⟨zd zq_3 (by decide +kernel), rfl⟩
theorem iX2_comeAct_2 : xl_Ca mX2_comeAct 2 mX2_signAt 5 := ⟨295, zd zq_448 (by decide +kernel), rfl, lX2_295, Nat.le_of_ble_eq_true rfl, Nat.le_of_ble_eq_true rfl⟩
theorem iX2_comeAct_5 : xl_D mX2_comeAct 5 (.lookupswitch 96 #[(101, 27), (109, 70)]) 27 32 := ⟨by decide +kernel, rfl⟩
theorem iX2_comeAct_32 : xl_D mX2_comeAct 32 (.aload_n 0) 1 33 := ⟨zd zq_0 (by decide +kernel), rfl⟩
theorem iX2_comeAct_33 : xl_G mX2_comeAct 33 2 0 36 := ⟨10, zd zq_248 (by decide +kernel), rfl, fX2_10⟩
theorem iX2_comeAct_36 : xl_D mX2_comeAct 36 (.aload_n 0) 1 37 := ⟨zd zq_0 (by decide +kernel), rfl⟩
theorem iX2_comeAct_37 : xl_D mX2_comeAct 37 (.iload_n 1) 1 38 := ⟨zd zq_3 (by decide +kernel), rfl⟩
theorem iX2_comeAct_38 : xl_D mX2_comeAct 38 (.iconst 1) 1 39 := ⟨zd zq_36 (by decide +kernel), rfl⟩
theorem iX2_comeAct_39 : xl_D mX2_comeAct 39 (.iadd) 1 40 := ⟨zd zq_19 (by decide +kernel), rfl⟩
theorem iX2_comeAct_40 : xl_Ca mX2_comeAct 40 mX2_keyAt 43 := ⟨327, zd zq_471 (by decide +kernel), rfl, lX2_327, Nat.le_of_ble_eq_true rfl, Nat.le_of_ble_eq_true rfl⟩
theorem iX2_comeAct_43 : xl_D mX2_comeAct 43 (.aload_n 0) 1 44 := ⟨zd zq_0 (by decide +kernel), rfl⟩
theorem iX2_comeAct_44 : xl_D mX2_comeAct 44 (.iload_n 1) 1 45 := ⟨zd zq_3 (by decide +kernel), rfl⟩
theorem iX2_comeAct_45 : xl_D mX2_comeAct 45 (.iconst 2) 1 46 := ⟨zd zq_127 (by decide +kernel), rfl⟩
theorem iX2_comeAct_46 : xl_D mX2_comeAct 46 (.iadd) 1 47 := ⟨zd zq_19 (by decide +kernel), rfl⟩
theorem iX2_comeAct_47 : xl_D mX2_comeAct 47 (.iconst 4) 1 48 := ⟨zd zq_63 (by decide +kernel), rfl⟩
theorem iX2_comeAct_48 : xl_Ca mX2_comeAct 48 mX2_numberAt 51 := ⟨324, zd zq_468 (by decide +kernel), rfl, lX2_324, Nat.le_of_ble_eq_true rfl, Nat.le_of_ble_eq_true rfl⟩
theorem iX2_comeAct_51 : xl_D mX2_comeAct 51 (.aload_n 0) 1 52 := ⟨zd zq_0 (by decide +kernel), rfl⟩
theorem iX2_comeAct_52 : xl_D mX2_comeAct 52 (.iload_n 1) 1 53 := ⟨zd zq_3 (by decide +kernel), rfl⟩
theorem iX2_comeAct_53 : xl_D mX2_comeAct 53 (.bipush 6) 2 55 := ⟨zd zq_71 (by decide +kernel), rfl⟩
theorem iX2_comeAct_55 : xl_D mX2_comeAct 55 (.iadd) 1 56 := ⟨zd zq_19 (by decide +kernel), rfl⟩
theorem iX2_comeAct_56 : xl_Ca mX2_comeAct 56 mX2_valueAt 59 := ⟨330, zd zq_472 (by decide +kernel), rfl, lX2_330, Nat.le_of_ble_eq_true rfl, Nat.le_of_ble_eq_true rfl⟩
theorem iX2_comeAct_59 : xl_D mX2_comeAct 59 (.aload_n 0) 1 60 := ⟨zd zq_0 (by decide +kernel), rfl⟩
theorem iX2_comeAct_60 : xl_D mX2_comeAct 60 (.iload_n 1) 1 61 := ⟨zd zq_3 (by decide +kernel), rfl⟩
theorem iX2_comeAct_61 : xl_D mX2_comeAct 61 (.bipush 9) 2 63 := ⟨zd zq_271 (by decide +kernel), rfl⟩
theorem iX2_comeAct_63 : xl_D mX2_comeAct 63 (.iadd) 1 64 := ⟨zd zq_19 (by decide +kernel), rfl⟩
theorem iX2_comeAct_64 : xl_D mX2_comeAct 64 (.iconst 1) 1 65 := ⟨zd zq_36 (by decide +kernel), rfl⟩
theorem iX2_comeAct_65 : xl_Ca mX2_comeAct 65 mX2_numberAt 68 := ⟨324, zd zq_468 (by decide +kernel), rfl, lX2_324, Nat.le_of_ble_eq_true rfl, Nat.le_of_ble_eq_true rfl⟩
theorem iX2_comeAct_68 : xl_Ca mX2_comeAct 68 mX1_comeEvent 71 := ⟨90, zd zq_265 (by decide +kernel), rfl, lX2_90, Nat.le_of_ble_eq_true rfl, Nat.le_of_ble_eq_true rfl⟩
theorem iX2_comeAct_71 : xl_D mX2_comeAct 71 (.pop) 1 72 := ⟨zd zq_95 (by decide +kernel), rfl⟩
theorem iX2_comeAct_72 : xl_J mX2_comeAct 72 (fun o => .goto o) 75 116 := ⟨44, zd zq_473 (by decide +kernel), rfl, rfl⟩
theorem iX2_comeAct_75 : xl_D mX2_comeAct 75 (.aload_n 0) 1 76 := ⟨zd zq_0 (by decide +kernel), rfl⟩
theorem iX2_comeAct_76 : xl_G mX2_comeAct 76 2 0 79 := ⟨10, zd zq_248 (by decide +kernel), rfl, fX2_10⟩
theorem iX2_comeAct_79 : xl_D mX2_comeAct 79 (.aload_n 0) 1 80 := ⟨zd zq_0 (by decide +kernel), rfl⟩
theorem iX2_comeAct_80 : xl_D mX2_comeAct 80 (.iload_n 1) 1 81 := ⟨zd zq_3 (by decide +kernel), rfl⟩
theorem iX2_comeAct_81 : xl_D mX2_comeAct 81 (.iconst 1) 1 82 := ⟨zd zq_36 (by decide +kernel), rfl⟩
theorem iX2_comeAct_82 : xl_D mX2_comeAct 82 (.iadd) 1 83 := ⟨zd zq_19 (by decide +kernel), rfl⟩
theorem iX2_comeAct_83 : xl_D mX2_comeAct 83 (.iconst 1) 1 84 := ⟨zd zq_36 (by decide +kernel), rfl⟩
theorem iX2_comeAct_84 : xl_Ca mX2_comeAct 84 mX2_numberAt 87 := ⟨324, zd zq_468 (by decide +kernel), rfl, lX2_324, Nat.le_of_ble_eq_true rfl, Nat.le_of_ble_eq_true rfl⟩
theorem iX2_comeAct_87 : xl_D mX2_comeAct 87 (.aload_n 0) 1 88 := ⟨zd zq_0 (by decide +kernel), rfl⟩
theorem iX2_comeAct_88 : xl_D mX2_comeAct 88 (.iload_n 1) 1 89 := ⟨zd zq_3 (by decide +kernel), rfl⟩
theorem iX2_comeAct_89 : xl_D mX2_comeAct 89 (.iconst 2) 1 90 := ⟨zd zq_127 (by decide +kernel), rfl⟩
theorem iX2_comeAct_90 : xl_D mX2_comeAct 90 (.iadd) 1 91 := ⟨zd zq_19 (by decide +kernel), rfl⟩
theorem iX2_comeAct_91 : xl_D mX2_comeAct 91 (.iconst 5) 1 92 := ⟨zd zq_64 (by decide +kernel), rfl⟩
theorem iX2_comeAct_92 : xl_Ca mX2_comeAct 92 mX2_numberAt 95 := ⟨324, zd zq_468 (by decide +kernel), rfl, lX2_324, Nat.le_of_ble_eq_true rfl, Nat.le_of_ble_eq_true rfl⟩
theorem iX2_comeAct_95 : xl_Ca mX2_comeAct 95 mX1_comeMark 98 := ⟨114, zd zq_278 (by decide +kernel), rfl, lX2_114, Nat.le_of_ble_eq_true rfl, Nat.le_of_ble_eq_true rfl⟩
theorem iX2_comeAct_98 : xl_J mX2_comeAct 98 (fun o => .goto o) 101 116 := ⟨18, zd zq_132 (by decide +kernel), rfl, rfl⟩
theorem iX2_comeAct_101 : xl_D mX2_comeAct 101 (.aload_n 0) 1 102 := ⟨zd zq_0 (by decide +kernel), rfl⟩
theorem iX2_comeAct_102 : xl_G mX2_comeAct 102 2 0 105 := ⟨10, zd zq_248 (by decide +kernel), rfl, fX2_10⟩
theorem iX2_comeAct_105 : xl_D mX2_comeAct 105 (.aload_n 0) 1 106 := ⟨zd zq_0 (by decide +kernel), rfl⟩
theorem iX2_comeAct_106 : xl_D mX2_comeAct 106 (.iload_n 1) 1 107 := ⟨zd zq_3 (by decide +kernel), rfl⟩
theorem iX2_comeAct_107 : xl_D mX2_comeAct 107 (.iconst 1) 1 108 := ⟨zd zq_36 (by decide +kernel), rfl⟩
theorem iX2_comeAct_108 : xl_D mX2_comeAct 108 (.iadd) 1 109 := ⟨zd zq_19 (by decide +kernel), rfl⟩
theorem iX2_comeAct_109 : xl_D mX2_comeAct 109 (.iconst 1) 1 110 := ⟨zd zq_36 (by decide +kernel), rfl⟩
theorem iX2_comeAct_110 : xl_Ca mX2_comeAct 110 mX2_numberAt 113 := ⟨324, zd zq_468 (by decide +kernel), rfl, lX2_324, Nat.le_of_ble_eq_true rfl, Nat.le_of_ble_eq_true rfl⟩
theorem iX2_comeAct_113 : xl_Ca mX2_comeAct 113 mX1_comeIdle 116 := ⟨125, zd zq_280 (by decide +kernel), rfl, lX2_125, Nat.le_of_ble_eq_true rfl, Nat.le_of_ble_eq_true rfl⟩
theorem iX2_comeAct_116 : xl_D mX2_comeAct 116 (.return_) 1 117 := ⟨zd zq_12 (by decide +kernel), rfl⟩
theorem iX2_remember_0 : xl_D mX2_remember 0 (.aload_n 0) 1 1 := ⟨zd zq_0 (by decide +kernel), rfl⟩
theorem iX2_remember_1 : xl_G mX2_remember 1 2 2 4 := ⟨19, zd zq_9 (by decide +kernel), rfl, fX2_19⟩
theorem iX2_remember_4 : xl_D mX2_remember 4 (.aload_n 0) 1 5 := ⟨zd zq_0 (by decide +kernel), rfl⟩
theorem iX2_remember_5 : xl_G mX2_remember 5 2 3 8 := ⟨277, zd zq_399 (by decide +kernel), rfl, fX2_277⟩
theorem iX2_remember_8 : xl_D mX2_remember 8 (.aload_n 0) 1 9 := ⟨zd zq_0 (by decide +kernel), rfl⟩
theorem iX2_remember_9 : xl_G mX2_remember 9 2 4 12 := ⟨274, zd zq_397 (by decide +kernel), rfl, fX2_274⟩
theorem iX2_remember_12 : xl_D mX2_remember 12 (.iadd) 1 13 := ⟨zd zq_19 (by decide +kernel), rfl⟩
theorem iX2_remember_13 : xl_D mX2_remember 13 (.bipush 6) 2 15 := ⟨zd zq_71 (by decide +kernel), rfl⟩
theorem iX2_remember_15 : xl_D mX2_remember 15 (.irem) 1 16 := ⟨zd zq_191 (by decide +kernel), rfl⟩
theorem iX2_remember_16 : xl_D mX2_remember 16 (.aaload) 1 17 := ⟨zd zq_400 (by decide +kernel), rfl⟩
theorem iX2_remember_17 : xl_D mX2_remember 17 (.astore_n 1) 1 18 := ⟨zd zq_474 (by decide +kernel), rfl⟩
theorem iX2_remember_18 : xl_D mX2_remember 18 (.aload_n 1) 1 19 := ⟨zd zq_56 (by decide +kernel), rfl⟩
theorem iX2_remember_19 : xl_J mX2_remember 19 (fun o => .ifnonnull o) 22 23 := ⟨4, zd zq_49 (by decide +kernel), rfl, rfl⟩
theorem iX2_remember_22 : xl_D mX2_remember 22 (.return_) 1 23 := ⟨zd zq_12 (by decide +kernel), rfl⟩
theorem iX2_remember_23 : xl_D mX2_remember 23 (.aload_n 1) 1 24 := ⟨zd zq_56 (by decide +kernel), rfl⟩
theorem iX2_remember_24 : xl_D mX2_remember 24 (.aload_n 0) 1 25 := ⟨zd zq_0 (by decide +kernel), rfl⟩
theorem iX2_remember_25 : xl_G mX2_remember 25 2 0 28 := ⟨10, zd zq_248 (by decide +kernel), rfl, fX2_10⟩
theorem iX2_remember_28 : xl_Ca mX2_remember 28 mX1_copyFrom 31 := ⟨222, zd zq_356 (by decide +kernel), rfl, lX2_222, Nat.le_of_ble_eq_true rfl, Nat.le_of_ble_eq_true rfl⟩
theorem iX2_remember_31 : xl_D mX2_remember 31 (.aload_n 0) 1 32 := ⟨zd zq_0 (by decide +kernel), rfl⟩
theorem iX2_remember_32 : xl_G mX2_remember 32 2 4 35 := ⟨274, zd zq_397 (by decide +kernel), rfl, fX2_274⟩
theorem iX2_remember_35 : xl_D mX2_remember 35 (.bipush 6) 2 37 := ⟨zd zq_71 (by decide +kernel), rfl⟩
theorem iX2_remember_37 : xl_J mX2_remember 37 (fun o => .if_icmp .ge o) 40 53 := ⟨16, zd zq_42 (by decide +kernel), rfl, rfl⟩
theorem iX2_remember_40 : xl_D mX2_remember 40 (.aload_n 0) 1 41 := ⟨zd zq_0 (by decide +kernel), rfl⟩
theorem iX2_remember_41 : xl_D mX2_remember 41 (.dup) 1 42 := ⟨zd zq_46 (by decide +kernel), rfl⟩
theorem iX2_remember_42 : xl_G mX2_remember 42 2 4 45 := ⟨274, zd zq_397 (by decide +kernel), rfl, fX2_274⟩
theorem iX2_remember_45 : xl_D mX2_remember 45 (.iconst 1) 1 46 := ⟨zd zq_36 (by decide +kernel), rfl⟩
theorem iX2_remember_46 : xl_D mX2_remember 46 (.iadd) 1 47 := ⟨zd zq_19 (by decide +kernel), rfl⟩
theorem iX2_remember_47 : xl_P mX2_remember 47 2 4 .int 50 := ⟨274, zd zq_398 (by decide +kernel), rfl, wX2_274⟩
theorem iX2_remember_50 : xl_J mX2_remember 50 (fun o => .goto o) 53 66 := ⟨16, zd zq_475 (by decide +kernel), rfl, rfl⟩
theorem iX2_remember_53 : xl_D mX2_remember 53 (.aload_n 0) 1 54 := ⟨zd zq_0 (by decide +kernel), rfl⟩
theorem iX2_remember_54 : xl_D mX2_remember 54 (.aload_n 0) 1 55 := ⟨zd zq_0 (by decide +kernel), rfl⟩
theorem iX2_remember_55 : xl_G mX2_remember 55 2 3 58 := ⟨277, zd zq_399 (by decide +kernel), rfl, fX2_277⟩
theorem iX2_remember_58 : xl_D mX2_remember 58 (.iconst 1) 1 59 := ⟨zd zq_36 (by decide +kernel), rfl⟩
theorem iX2_remember_59 : xl_D mX2_remember 59 (.iadd) 1 60 := ⟨zd zq_19 (by decide +kernel), rfl⟩
theorem iX2_remember_60 : xl_D mX2_remember 60 (.bipush 6) 2 62 := ⟨zd zq_71 (by decide +kernel), rfl⟩
theorem iX2_remember_62 : xl_D mX2_remember 62 (.irem) 1 63 := ⟨zd zq_191 (by decide +kernel), rfl⟩
theorem iX2_remember_63 : xl_P mX2_remember 63 2 3 .int 66 := ⟨277, zd zq_476 (by decide +kernel), rfl, wX2_277⟩
theorem iX2_remember_66 : xl_D mX2_remember 66 (.return_) 1 67 := ⟨zd zq_12 (by decide +kernel), rfl⟩
theorem iX2_replay_0 : xl_D mX2_replay 0 (.aload_n 0) 1 1 := ⟨zd zq_0 (by decide +kernel), rfl⟩
theorem iX2_replay_1 : xl_G mX2_replay 1 2 0 4 := ⟨10, zd zq_248 (by decide +kernel), rfl, fX2_10⟩
theorem iX2_replay_4 : xl_G mX2_replay 4 1 10 7 := ⟨63, zd zq_253 (by decide +kernel), rfl, fX2_63⟩
theorem iX2_replay_7 : xl_G mX2_replay 7 0 3 10 := ⟨76, zd zq_258 (by decide +kernel), rfl, fX2_76⟩
theorem iX2_replay_10 : xl_D mX2_replay 10 (.istore 5) 2 12 := ⟨zd zq_91 (by decide +kernel), rfl⟩
theorem iX2_replay_12 : xl_D mX2_replay 12 (.aload_n 0) 1 13 := ⟨zd zq_0 (by decide +kernel), rfl⟩
theorem iX2_replay_13 : xl_G mX2_replay 13 2 1 16 := ⟨16, zd zq_355 (by decide +kernel), rfl, fX2_16⟩
theorem iX2_replay_16 : xl_D mX2_replay 16 (.iload 5) 2 18 := ⟨zd zq_92 (by decide +kernel), rfl⟩
theorem iX2_replay_18 : xl_D mX2_replay 18 (.iload_n 1) 1 19 := ⟨zd zq_3 (by decide +kernel), rfl⟩
theorem iX2_replay_19 : xl_D mX2_replay 19 (.iload_n 2) 1 20 := ⟨zd zq_6 (by decide +kernel), rfl⟩
theorem iX2_replay_20 : xl_D mX2_replay 20 (.iload_n 3) 1 21 := ⟨zd zq_25 (by decide +kernel), rfl⟩
theorem iX2_replay_21 : xl_Ca mX2_replay 21 mX1_reset 24 := ⟨55, zd zq_249 (by decide +kernel), rfl, lX2_55, Nat.le_of_ble_eq_true rfl, Nat.le_of_ble_eq_true rfl⟩
theorem iX2_replay_24 : xl_D mX2_replay 24 (.iconst 0) 1 25 := ⟨zd zq_2 (by decide +kernel), rfl⟩
theorem iX2_replay_25 : xl_D mX2_replay 25 (.istore 6) 2 27 := ⟨zd zq_119 (by decide +kernel), rfl⟩
theorem iX2_replay_27 : xl_D mX2_replay 27 (.iload 6) 2 29 := ⟨zd zq_125 (by decide +kernel), rfl⟩
theorem iX2_replay_29 : xl_D mX2_replay 29 (.iload 5) 2 31 := ⟨zd zq_92 (by decide +kernel), rfl⟩
theorem iX2_replay_31 : xl_J mX2_replay 31 (fun o => .if_icmp .ge o) 34 66 := ⟨35, zd zq_311 (by decide +kernel), rfl, rfl⟩
theorem iX2_replay_34 : xl_D mX2_replay 34 (.aload_n 0) 1 35 := ⟨zd zq_0 (by decide +kernel), rfl⟩
theorem iX2_replay_35 : xl_G mX2_replay 35 2 1 38 := ⟨16, zd zq_355 (by decide +kernel), rfl, fX2_16⟩
theorem iX2_replay_38 : xl_G mX2_replay 38 1 10 41 := ⟨63, zd zq_253 (by decide +kernel), rfl, fX2_63⟩
theorem iX2_replay_41 : xl_D mX2_replay 41 (.iload 6) 2 43 := ⟨zd zq_125 (by decide +kernel), rfl⟩
theorem iX2_replay_43 : xl_D mX2_replay 43 (.iconst 1) 1 44 := ⟨zd zq_36 (by decide +kernel), rfl⟩
theorem iX2_replay_44 : xl_D mX2_replay 44 (.aload_n 0) 1 45 := ⟨zd zq_0 (by decide +kernel), rfl⟩
theorem iX2_replay_45 : xl_G mX2_replay 45 2 0 48 := ⟨10, zd zq_248 (by decide +kernel), rfl, fX2_10⟩
theorem iX2_replay_48 : xl_G mX2_replay 48 1 10 51 := ⟨63, zd zq_253 (by decide +kernel), rfl, fX2_63⟩
theorem iX2_replay_51 : xl_D mX2_replay 51 (.iload 6) 2 53 := ⟨zd zq_125 (by decide +kernel), rfl⟩
theorem iX2_replay_53 : xl_D mX2_replay 53 (.iconst 1) 1 54 := ⟨zd zq_36 (by decide +kernel), rfl⟩
theorem iX2_replay_54 : xl_Ca mX2_replay 54 mX0_get 57 := ⟨67, zd zq_254 (by decide +kernel), rfl, lX2_67, Nat.le_of_ble_eq_true rfl, Nat.le_of_ble_eq_true rfl⟩
theorem iX2_replay_57 : xl_Ca mX2_replay 57 mX0_set 60 := ⟨79, zd zq_261 (by decide +kernel), rfl, lX2_79, Nat.le_of_ble_eq_true rfl, Nat.le_of_ble_eq_true rfl⟩
theorem iX2_replay_60 : xl_D mX2_replay 60 (.iinc 6 1) 3 63 := ⟨zd zq_406 (by decide +kernel), rfl⟩
theorem iX2_replay_63 : xl_J mX2_replay 63 (fun o => .goto o) 66 27 := ⟨-36, zd zq_477 (by decide +kernel), rfl, rfl⟩
theorem iX2_replay_66 : xl_D mX2_replay 66 (.iload 4) 2 68 := ⟨zd zq_51 (by decide +kernel), rfl⟩
theorem iX2_replay_68 : xl_J mX2_replay 68 (fun o => .ifCond .lt o) 71 85 := ⟨17, zd zq_478 (by decide +kernel), rfl, rfl⟩
theorem iX2_replay_71 : xl_D mX2_replay 71 (.aload_n 0) 1 72 := ⟨zd zq_0 (by decide +kernel), rfl⟩
theorem iX2_replay_72 : xl_G mX2_replay 72 2 1 75 := ⟨16, zd zq_355 (by decide +kernel), rfl, fX2_16⟩
theorem iX2_replay_75 : xl_G mX2_replay 75 1 10 78 := ⟨63, zd zq_253 (by decide +kernel), rfl, fX2_63⟩
theorem iX2_replay_78 : xl_D mX2_replay 78 (.iload 4) 2 80 := ⟨zd zq_51 (by decide +kernel), rfl⟩
theorem iX2_replay_80 : xl_D mX2_replay 80 (.iconst 2) 1 81 := ⟨zd zq_127 (by decide +kernel), rfl⟩
theorem iX2_replay_81 : xl_D mX2_replay 81 (.iconst 1) 1 82 := ⟨zd zq_36 (by decide +kernel), rfl⟩
theorem iX2_replay_82 : xl_Ca mX2_replay 82 mX0_set 85 := ⟨79, zd zq_261 (by decide +kernel), rfl, lX2_79, Nat.le_of_ble_eq_true rfl, Nat.le_of_ble_eq_true rfl⟩
theorem iX2_replay_85 : xl_D mX2_replay 85 (.iconst 0) 1 86 := ⟨zd zq_2 (by decide +kernel), rfl⟩
theorem iX2_replay_86 : xl_D mX2_replay 86 (.istore 6) 2 88 := ⟨zd zq_119 (by decide +kernel), rfl⟩
theorem iX2_replay_88 : xl_D mX2_replay 88 (.iload 6) 2 90 := ⟨zd zq_125 (by decide +kernel), rfl⟩
theorem iX2_replay_90 : xl_D mX2_replay 90 (.aload_n 0) 1 91 := ⟨zd zq_0 (by decide +kernel), rfl⟩
theorem iX2_replay_91 : xl_G mX2_replay 91 2 0 94 := ⟨10, zd zq_248 (by decide +kernel), rfl, fX2_10⟩
theorem iX2_replay_94 : xl_G mX2_replay 94 1 14 97 := ⟨73, zd zq_257 (by decide +kernel), rfl, fX2_73⟩
theorem iX2_replay_97 : xl_G mX2_replay 97 0 3 100 := ⟨76, zd zq_258 (by decide +kernel), rfl, fX2_76⟩
theorem iX2_replay_100 : xl_J mX2_replay 100 (fun o => .if_icmp .ge o) 103 143 := ⟨43, zd zq_447 (by decide +kernel), rfl, rfl⟩
theorem iX2_replay_103 : xl_D mX2_replay 103 (.aload_n 0) 1 104 := ⟨zd zq_0 (by decide +kernel), rfl⟩
theorem iX2_replay_104 : xl_G mX2_replay 104 2 0 107 := ⟨10, zd zq_248 (by decide +kernel), rfl, fX2_10⟩
theorem iX2_replay_107 : xl_G mX2_replay 107 1 14 110 := ⟨73, zd zq_257 (by decide +kernel), rfl, fX2_73⟩
theorem iX2_replay_110 : xl_D mX2_replay 110 (.iload 6) 2 112 := ⟨zd zq_125 (by decide +kernel), rfl⟩
theorem iX2_replay_112 : xl_D mX2_replay 112 (.iconst 1) 1 113 := ⟨zd zq_36 (by decide +kernel), rfl⟩
theorem iX2_replay_113 : xl_Ca mX2_replay 113 mX0_get 116 := ⟨67, zd zq_254 (by decide +kernel), rfl, lX2_67, Nat.le_of_ble_eq_true rfl, Nat.le_of_ble_eq_true rfl⟩
theorem iX2_replay_116 : xl_D mX2_replay 116 (.iload 4) 2 118 := ⟨zd zq_51 (by decide +kernel), rfl⟩
theorem iX2_replay_118 : xl_J mX2_replay 118 (fun o => .if_icmp .eq o) 121 137 := ⟨19, zd zq_479 (by decide +kernel), rfl, rfl⟩
theorem iX2_replay_121 : xl_D mX2_replay 121 (.aload_n 0) 1 122 := ⟨zd zq_0 (by decide +kernel), rfl⟩
theorem iX2_replay_122 : xl_G mX2_replay 122 2 1 125 := ⟨16, zd zq_355 (by decide +kernel), rfl, fX2_16⟩
theorem iX2_replay_125 : xl_D mX2_replay 125 (.aload_n 0) 1 126 := ⟨zd zq_0 (by decide +kernel), rfl⟩
theorem iX2_replay_126 : xl_G mX2_replay 126 2 0 129 := ⟨10, zd zq_248 (by decide +kernel), rfl, fX2_10⟩
theorem iX2_replay_129 : xl_G mX2_replay 129 1 14 132 := ⟨73, zd zq_257 (by decide +kernel), rfl, fX2_73⟩
theorem iX2_replay_132 : xl_D mX2_replay 132 (.iload 6) 2 134 := ⟨zd zq_125 (by decide +kernel), rfl⟩
theorem iX2_replay_134 : xl_Ca mX2_replay 134 mX1_playInput 137 := ⟨333, zd zq_480 (by decide +kernel), rfl, lX2_333, Nat.le_of_ble_eq_true rfl, Nat.le_of_ble_eq_true rfl⟩
theorem iX2_replay_137 : xl_D mX2_replay 137 (.iinc 6 1) 3 140 := ⟨zd zq_406 (by decide +kernel), rfl⟩
theorem iX2_replay_140 : xl_J mX2_replay 140 (fun o => .goto o) 143 88 := ⟨-52, zd zq_481 (by decide +kernel), rfl, rfl⟩
theorem iX2_replay_143 : xl_D mX2_replay 143 (.return_) 1 144 := ⟨zd zq_12 (by decide +kernel), rfl⟩
theorem iX2_sortTaken_0 : xl_D mX2_sortTaken 0 (.iconst 0) 1 1 := ⟨zd zq_2 (by decide +kernel), rfl⟩
theorem iX2_sortTaken_1 : xl_D mX2_sortTaken 1 (.istore_n 2) 1 2 := ⟨zd zq_41 (by decide +kernel), rfl⟩
theorem iX2_sortTaken_2 : xl_D mX2_sortTaken 2 (.iconst 0) 1 3 := ⟨zd zq_2 (by decide +kernel), rfl⟩
theorem iX2_sortTaken_3 : xl_D mX2_sortTaken 3 (.istore_n 3) 1 4 := ⟨zd zq_131 (by decide +kernel), rfl⟩
theorem iX2_sortTaken_4 : xl_D mX2_sortTaken 4 (.iload_n 3) 1 5 := ⟨zd zq_25 (by decide +kernel), rfl⟩
theorem iX2_sortTaken_5 : xl_D mX2_sortTaken 5 (.aload_n 0) 1 6 := ⟨zd zq_0 (by decide +kernel), rfl⟩
theorem iX2_sortTaken_6 : xl_G mX2_sortTaken 6 2 0 9 := ⟨10, zd zq_248 (by decide +kernel), rfl, fX2_10⟩
theorem iX2_sortTaken_9 : xl_G mX2_sortTaken 9 1 14 12 := ⟨73, zd zq_257 (by decide +kernel), rfl, fX2_73⟩
theorem iX2_sortTaken_12 : xl_G mX2_sortTaken 12 0 3 15 := ⟨76, zd zq_258 (by decide +kernel), rfl, fX2_76⟩
theorem iX2_sortTaken_15 : xl_J mX2_sortTaken 15 (fun o => .if_icmp .ge o) 18 117 := ⟨102, zd zq_482 (by decide +kernel), rfl, rfl⟩
theorem iX2_sortTaken_18 : xl_D mX2_sortTaken 18 (.iload_n 2) 1 19 := ⟨zd zq_6 (by decide +kernel), rfl⟩
theorem iX2_sortTaken_19 : xl_D mX2_sortTaken 19 (.aload_n 0) 1 20 := ⟨zd zq_0 (by decide +kernel), rfl⟩
theorem iX2_sortTaken_20 : xl_G mX2_sortTaken 20 2 11 23 := ⟨34, zd zq_483 (by decide +kernel), rfl, fX2_34⟩
theorem iX2_sortTaken_23 : xl_D mX2_sortTaken 23 (.arraylength) 1 24 := ⟨zd zq_58 (by decide +kernel), rfl⟩
theorem iX2_sortTaken_24 : xl_J mX2_sortTaken 24 (fun o => .if_icmp .ge o) 27 117 := ⟨93, zd zq_484 (by decide +kernel), rfl, rfl⟩
theorem iX2_sortTaken_27 : xl_D mX2_sortTaken 27 (.aload_n 0) 1 28 := ⟨zd zq_0 (by decide +kernel), rfl⟩
theorem iX2_sortTaken_28 : xl_G mX2_sortTaken 28 2 0 31 := ⟨10, zd zq_248 (by decide +kernel), rfl, fX2_10⟩
theorem iX2_sortTaken_31 : xl_D mX2_sortTaken 31 (.iload_n 3) 1 32 := ⟨zd zq_25 (by decide +kernel), rfl⟩
theorem iX2_sortTaken_32 : xl_D mX2_sortTaken 32 (.iload_n 1) 1 33 := ⟨zd zq_3 (by decide +kernel), rfl⟩
theorem iX2_sortTaken_33 : xl_Ca mX2_sortTaken 33 mX1_isTakenOf 36 := ⟨192, zd zq_328 (by decide +kernel), rfl, lX2_192, Nat.le_of_ble_eq_true rfl, Nat.le_of_ble_eq_true rfl⟩
theorem iX2_sortTaken_36 : xl_J mX2_sortTaken 36 (fun o => .ifCond .ne o) 39 42 := ⟨6, zd zq_210 (by decide +kernel), rfl, rfl⟩
theorem iX2_sortTaken_39 : xl_J mX2_sortTaken 39 (fun o => .goto o) 42 111 := ⟨72, zd zq_485 (by decide +kernel), rfl, rfl⟩
theorem iX2_sortTaken_42 : xl_D mX2_sortTaken 42 (.aload_n 0) 1 43 := ⟨zd zq_0 (by decide +kernel), rfl⟩
theorem iX2_sortTaken_43 : xl_G mX2_sortTaken 43 2 0 46 := ⟨10, zd zq_248 (by decide +kernel), rfl, fX2_10⟩
theorem iX2_sortTaken_46 : xl_G mX2_sortTaken 46 1 14 49 := ⟨73, zd zq_257 (by decide +kernel), rfl, fX2_73⟩
theorem iX2_sortTaken_49 : xl_D mX2_sortTaken 49 (.iload_n 3) 1 50 := ⟨zd zq_25 (by decide +kernel), rfl⟩
theorem iX2_sortTaken_50 : xl_D mX2_sortTaken 50 (.iconst 2) 1 51 := ⟨zd zq_127 (by decide +kernel), rfl⟩
theorem iX2_sortTaken_51 : xl_Ca mX2_sortTaken 51 mX0_get 54 := ⟨67, zd zq_254 (by decide +kernel), rfl, lX2_67, Nat.le_of_ble_eq_true rfl, Nat.le_of_ble_eq_true rfl⟩
theorem iX2_sortTaken_54 : xl_D mX2_sortTaken 54 (.istore 4) 2 56 := ⟨zd zq_50 (by decide +kernel), rfl⟩
theorem iX2_sortTaken_56 : xl_D mX2_sortTaken 56 (.iload_n 2) 1 57 := ⟨zd zq_6 (by decide +kernel), rfl⟩
theorem iX2_sortTaken_57 : xl_D mX2_sortTaken 57 (.istore 5) 2 59 := ⟨zd zq_91 (by decide +kernel), rfl⟩
theorem iX2_sortTaken_59 : xl_D mX2_sortTaken 59 (.iload 5) 2 61 := ⟨zd zq_92 (by decide +kernel), rfl⟩
theorem iX2_sortTaken_61 : xl_J mX2_sortTaken 61 (fun o => .ifCond .le o) 64 100 := ⟨39, zd zq_486 (by decide +kernel), rfl, rfl⟩
theorem iX2_sortTaken_64 : xl_D mX2_sortTaken 64 (.aload_n 0) 1 65 := ⟨zd zq_0 (by decide +kernel), rfl⟩
theorem iX2_sortTaken_65 : xl_D mX2_sortTaken 65 (.iload 5) 2 67 := ⟨zd zq_92 (by decide +kernel), rfl⟩
theorem iX2_sortTaken_67 : xl_D mX2_sortTaken 67 (.iconst 1) 1 68 := ⟨zd zq_36 (by decide +kernel), rfl⟩
theorem iX2_sortTaken_68 : xl_D mX2_sortTaken 68 (.isub) 1 69 := ⟨zd zq_39 (by decide +kernel), rfl⟩
theorem iX2_sortTaken_69 : xl_D mX2_sortTaken 69 (.iconst 2) 1 70 := ⟨zd zq_127 (by decide +kernel), rfl⟩
theorem iX2_sortTaken_70 : xl_Ca mX2_sortTaken 70 mX2_sortedCell 73 := ⟨232, zd zq_361 (by decide +kernel), rfl, lX2_232, Nat.le_of_ble_eq_true rfl, Nat.le_of_ble_eq_true rfl⟩
theorem iX2_sortTaken_73 : xl_D mX2_sortTaken 73 (.iload 4) 2 75 := ⟨zd zq_51 (by decide +kernel), rfl⟩
theorem iX2_sortTaken_75 : xl_J mX2_sortTaken 75 (fun o => .if_icmp .le o) 78 100 := ⟨25, zd zq_487 (by decide +kernel), rfl, rfl⟩
theorem iX2_sortTaken_78 : xl_D mX2_sortTaken 78 (.aload_n 0) 1 79 := ⟨zd zq_0 (by decide +kernel), rfl⟩
theorem iX2_sortTaken_79 : xl_G mX2_sortTaken 79 2 11 82 := ⟨34, zd zq_483 (by decide +kernel), rfl, fX2_34⟩
theorem iX2_sortTaken_82 : xl_D mX2_sortTaken 82 (.iload 5) 2 84 := ⟨zd zq_92 (by decide +kernel), rfl⟩
theorem iX2_sortTaken_84 : xl_D mX2_sortTaken 84 (.aload_n 0) 1 85 := ⟨zd zq_0 (by decide +kernel), rfl⟩
theorem iX2_sortTaken_85 : xl_G mX2_sortTaken 85 2 11 88 := ⟨34, zd zq_483 (by decide +kernel), rfl, fX2_34⟩
theorem iX2_sortTaken_88 : xl_D mX2_sortTaken 88 (.iload 5) 2 90 := ⟨zd zq_92 (by decide +kernel), rfl⟩
theorem iX2_sortTaken_90 : xl_D mX2_sortTaken 90 (.iconst 1) 1 91 := ⟨zd zq_36 (by decide +kernel), rfl⟩
theorem iX2_sortTaken_91 : xl_D mX2_sortTaken 91 (.isub) 1 92 := ⟨zd zq_39 (by decide +kernel), rfl⟩
theorem iX2_sortTaken_92 : xl_D mX2_sortTaken 92 (.iaload) 1 93 := ⟨zd zq_20 (by decide +kernel), rfl⟩
theorem iX2_sortTaken_93 : xl_D mX2_sortTaken 93 (.iastore) 1 94 := ⟨zd zq_26 (by decide +kernel), rfl⟩
theorem iX2_sortTaken_94 : xl_D mX2_sortTaken 94 (.iinc 5 (-1)) 3 97 := ⟨zd zq_382 (by decide +kernel), rfl⟩
theorem iX2_sortTaken_97 : xl_J mX2_sortTaken 97 (fun o => .goto o) 100 59 := ⟨-38, zd zq_154 (by decide +kernel), rfl, rfl⟩
theorem iX2_sortTaken_100 : xl_D mX2_sortTaken 100 (.aload_n 0) 1 101 := ⟨zd zq_0 (by decide +kernel), rfl⟩
theorem iX2_sortTaken_101 : xl_G mX2_sortTaken 101 2 11 104 := ⟨34, zd zq_483 (by decide +kernel), rfl, fX2_34⟩
theorem iX2_sortTaken_104 : xl_D mX2_sortTaken 104 (.iload 5) 2 106 := ⟨zd zq_92 (by decide +kernel), rfl⟩
theorem iX2_sortTaken_106 : xl_D mX2_sortTaken 106 (.iload_n 3) 1 107 := ⟨zd zq_25 (by decide +kernel), rfl⟩
theorem iX2_sortTaken_107 : xl_D mX2_sortTaken 107 (.iastore) 1 108 := ⟨zd zq_26 (by decide +kernel), rfl⟩
theorem iX2_sortTaken_108 : xl_D mX2_sortTaken 108 (.iinc 2 1) 3 111 := ⟨zd zq_44 (by decide +kernel), rfl⟩
theorem iX2_sortTaken_111 : xl_D mX2_sortTaken 111 (.iinc 3 1) 3 114 := ⟨zd zq_153 (by decide +kernel), rfl⟩
theorem iX2_sortTaken_114 : xl_J mX2_sortTaken 114 (fun o => .goto o) 117 4 := ⟨-110, zd zq_488 (by decide +kernel), rfl, rfl⟩
theorem iX2_sortTaken_117 : xl_D mX2_sortTaken 117 (.iload_n 2) 1 118 := ⟨zd zq_6 (by decide +kernel), rfl⟩
theorem iX2_sortTaken_118 : xl_D mX2_sortTaken 118 (.ireturn) 1 119 := ⟨zd zq_17 (by decide +kernel), rfl⟩
theorem iX2_sortedCell_0 : xl_D mX2_sortedCell 0 (.iload_n 1) 1 1 := ⟨zd zq_3 (by decide +kernel), rfl⟩
theorem iX2_sortedCell_1 : xl_J mX2_sortedCell 1 (fun o => .ifCond .lt o) 4 33 := ⟨32, zd zq_489 (by decide +kernel), rfl, rfl⟩
theorem iX2_sortedCell_4 : xl_D mX2_sortedCell 4 (.iload_n 1) 1 5 := ⟨zd zq_3 (by decide +kernel), rfl⟩
theorem iX2_sortedCell_5 : xl_D mX2_sortedCell 5 (.aload_n 0) 1 6 := ⟨zd zq_0 (by decide +kernel), rfl⟩
theorem iX2_sortedCell_6 : xl_G mX2_sortedCell 6 2 11 9 := ⟨34, zd zq_483 (by decide +kernel), rfl, fX2_34⟩
theorem iX2_sortedCell_9 : xl_D mX2_sortedCell 9 (.arraylength) 1 10 := ⟨zd zq_58 (by decide +kernel), rfl⟩
theorem iX2_sortedCell_10 : xl_J mX2_sortedCell 10 (fun o => .if_icmp .ge o) 13 33 := ⟨23, zd zq_52 (by decide +kernel), rfl, rfl⟩
theorem iX2_sortedCell_13 : xl_D mX2_sortedCell 13 (.aload_n 0) 1 14 := ⟨zd zq_0 (by decide +kernel), rfl⟩
theorem iX2_sortedCell_14 : xl_G mX2_sortedCell 14 2 0 17 := ⟨10, zd zq_248 (by decide +kernel), rfl, fX2_10⟩
theorem iX2_sortedCell_17 : xl_G mX2_sortedCell 17 1 14 20 := ⟨73, zd zq_257 (by decide +kernel), rfl, fX2_73⟩
theorem iX2_sortedCell_20 : xl_D mX2_sortedCell 20 (.aload_n 0) 1 21 := ⟨zd zq_0 (by decide +kernel), rfl⟩
theorem iX2_sortedCell_21 : xl_G mX2_sortedCell 21 2 11 24 := ⟨34, zd zq_483 (by decide +kernel), rfl, fX2_34⟩
theorem iX2_sortedCell_24 : xl_D mX2_sortedCell 24 (.iload_n 1) 1 25 := ⟨zd zq_3 (by decide +kernel), rfl⟩
theorem iX2_sortedCell_25 : xl_D mX2_sortedCell 25 (.iaload) 1 26 := ⟨zd zq_20 (by decide +kernel), rfl⟩
theorem iX2_sortedCell_26 : xl_D mX2_sortedCell 26 (.iload_n 2) 1 27 := ⟨zd zq_6 (by decide +kernel), rfl⟩
theorem iX2_sortedCell_27 : xl_Ca mX2_sortedCell 27 mX0_get 30 := ⟨67, zd zq_254 (by decide +kernel), rfl, lX2_67, Nat.le_of_ble_eq_true rfl, Nat.le_of_ble_eq_true rfl⟩
theorem iX2_sortedCell_30 : xl_J mX2_sortedCell 30 (fun o => .goto o) 33 34 := ⟨4, zd zq_139 (by decide +kernel), rfl, rfl⟩
theorem iX2_sortedCell_33 : xl_D mX2_sortedCell 33 (.iconst 0) 1 34 := ⟨zd zq_2 (by decide +kernel), rfl⟩
theorem iX2_sortedCell_34 : xl_D mX2_sortedCell 34 (.ireturn) 1 35 := ⟨zd zq_17 (by decide +kernel), rfl⟩
theorem iX2_holeBehind_0 : xl_D mX2_holeBehind 0 (.aload_n 0) 1 1 := ⟨zd zq_0 (by decide +kernel), rfl⟩
theorem iX2_holeBehind_1 : xl_D mX2_holeBehind 1 (.iload_n 1) 1 2 := ⟨zd zq_3 (by decide +kernel), rfl⟩
theorem iX2_holeBehind_2 : xl_D mX2_holeBehind 2 (.iconst 1) 1 3 := ⟨zd zq_36 (by decide +kernel), rfl⟩
theorem iX2_holeBehind_3 : xl_D mX2_holeBehind 3 (.iadd) 1 4 := ⟨zd zq_19 (by decide +kernel), rfl⟩
theorem iX2_holeBehind_4 : xl_D mX2_holeBehind 4 (.iconst 2) 1 5 := ⟨zd zq_127 (by decide +kernel), rfl⟩
theorem iX2_holeBehind_5 : xl_Ca mX2_holeBehind 5 mX2_sortedCell 8 := ⟨232, zd zq_361 (by decide +kernel), rfl, lX2_232, Nat.le_of_ble_eq_true rfl, Nat.le_of_ble_eq_true rfl⟩
theorem iX2_holeBehind_8 : xl_D mX2_holeBehind 8 (.aload_n 0) 1 9 := ⟨zd zq_0 (by decide +kernel), rfl⟩
theorem iX2_holeBehind_9 : xl_D mX2_holeBehind 9 (.iload_n 1) 1 10 := ⟨zd zq_3 (by decide +kernel), rfl⟩
theorem iX2_holeBehind_10 : xl_D mX2_holeBehind 10 (.iconst 2) 1 11 := ⟨zd zq_127 (by decide +kernel), rfl⟩
theorem iX2_holeBehind_11 : xl_Ca mX2_holeBehind 11 mX2_sortedCell 14 := ⟨232, zd zq_361 (by decide +kernel), rfl, lX2_232, Nat.le_of_ble_eq_true rfl, Nat.le_of_ble_eq_true rfl⟩
theorem iX2_holeBehind_14 : xl_D mX2_holeBehind 14 (.isub) 1 15 := ⟨zd zq_39 (by decide +kernel), rfl⟩
theorem iX2_holeBehind_15 : xl_D mX2_holeBehind 15 (.ireturn) 1 16 := ⟨zd zq_17 (by decide +kernel), rfl⟩
theorem iX2_drawAfter_0 : xl_D mX2_drawAfter 0 (.iload_n 0) 1 1 := ⟨zd zq_415 (by decide +kernel), rfl⟩
theorem iX2_drawAfter_1 : xl_D mX2_drawAfter 1 (.ldc_w 337) 3 4 := ⟨zd zq_490 (by decide +kernel), rfl⟩
theorem iX2_drawAfter_4 : xl_D mX2_drawAfter 4 (.imul) 1 5 := ⟨zd zq_10 (by decide +kernel), rfl⟩
theorem iX2_drawAfter_5 : xl_D mX2_drawAfter 5 (.sipush 12345) 3 8 := ⟨zd zq_491 (by decide +kernel), rfl⟩
theorem iX2_drawAfter_8 : xl_D mX2_drawAfter 8 (.iadd) 1 9 := ⟨zd zq_19 (by decide +kernel), rfl⟩
theorem iX2_drawAfter_9 : xl_D mX2_drawAfter 9 (.ireturn) 1 10 := ⟨zd zq_17 (by decide +kernel), rfl⟩
theorem iX2_drawOf_0 : xl_D mX2_drawOf 0 (.iload_n 1) 1 1 := ⟨zd zq_3 (by decide +kernel), rfl⟩
theorem iX2_drawOf_1 : xl_J mX2_drawOf 1 (fun o => .ifCond .le o) 4 13 := ⟨12, zd zq_492 (by decide +kernel), rfl, rfl⟩
theorem iX2_drawOf_4 : xl_D mX2_drawOf 4 (.iload_n 0) 1 5 := ⟨zd zq_415 (by decide +kernel), rfl⟩
theorem iX2_drawOf_5 : xl_D mX2_drawOf 5 (.bipush 16) 2 7 := ⟨zd zq_493 (by decide +kernel), rfl⟩
theorem iX2_drawOf_7 : xl_D mX2_drawOf 7 (.iushr) 1 8 := ⟨zd zq_238 (by decide +kernel), rfl⟩
theorem iX2_drawOf_8 : xl_D mX2_drawOf 8 (.iload_n 1) 1 9 := ⟨zd zq_3 (by decide +kernel), rfl⟩
theorem iX2_drawOf_9 : xl_D mX2_drawOf 9 (.irem) 1 10 := ⟨zd zq_191 (by decide +kernel), rfl⟩
theorem iX2_drawOf_10 : xl_J mX2_drawOf 10 (fun o => .goto o) 13 14 := ⟨4, zd zq_139 (by decide +kernel), rfl, rfl⟩
theorem iX2_drawOf_13 : xl_D mX2_drawOf 13 (.iconst 0) 1 14 := ⟨zd zq_2 (by decide +kernel), rfl⟩
theorem iX2_drawOf_14 : xl_D mX2_drawOf 14 (.ireturn) 1 15 := ⟨zd zq_17 (by decide +kernel), rfl⟩
end
-- 38.L
section
/-! ===== LateSessions: five numbers (0 undoOldest, 1 undoSize, 2 keptBits, 3 toldSize, 4 textSize), four arrays (0 told, 1 text, 2 byTime, 3 holes), ten Worlds (0 world, 1 trial, 2 to 7 undone, 8 and 9 kept) ===== -/
section TRS
variable {σ τ υ : Type} {enc : σ → XH} {bd : σ → Prop} {enc1 : τ → XH} {bd1 : τ → Prop} {enc2 : υ → XH} {bd2 : υ → Prop}
theorem vLk_trans {π1 π2 : Nat → Nat} {sub1 : σ → τ} {put1 : σ → τ → σ} {sub2 : τ → υ} {put2 : τ → υ → τ} (h1 : vLk enc bd enc1 bd1 π1 sub1 put1) (h2 : vLk enc1 bd1 enc2 bd2 π2 sub2 put2) : vLk enc bd enc2 bd2 (fun k => π1 (π2 k)) (fun s => sub2 (sub1 s)) (fun s t => put1 s (put2 (sub1 s) t)) := by
  refine ⟨fun s hb => ?_, fun s t hb hb2 => ?_⟩
  · obtain ⟨a1, a2, a3⟩ := h1.1 s hb
    obtain ⟨b1, b2, b3⟩ := h2.1 (sub1 s) a1
    refine ⟨b1, ⟨fun i j hi hj e => b2.1 i j hi hj (a2.1 _ _ (b2.2 i hi).2 (b2.2 j hj).2 e), fun j hj => ?_⟩, fun j c hc => ?_⟩
    · obtain ⟨c1, c2⟩ := b2.2 j hj
      obtain ⟨d1, d2⟩ := a2.2 (π2 j) c2
      exact ⟨d1.trans c1, d2⟩
    · have hj := (List.getElem?_eq_some_iff.mp hc).1
      obtain ⟨c1, c2⟩ := b2.2 j hj
      intro aC ρ σ'
      rw [b3 j c hc aC (fun k => ρ (π1 k)) σ', a3 (π2 j) c (c1.trans hc) aC ρ σ']
  · obtain ⟨a1, a2, a3⟩ := h1.1 s hb
    obtain ⟨b1, b2, b3⟩ := h2.1 (sub1 s) a1
    obtain ⟨q1, q2, q3, q4⟩ := h2.2 (sub1 s) t a1 hb2
    obtain ⟨p1, p2, p3, p4⟩ := h1.2 s (put2 (sub1 s) t) hb q1
    refine ⟨p1, q2, ⟨p3.1, fun j hj => ?_, fun k hk => ?_⟩, fun j c hc => ?_⟩
    · rw [p3.2.1 (π2 j) (b2.2 j hj).2, q3.2.1 j hj]
    · by_cases hin : ∃ j, j < (enc1 (sub1 s)).length ∧ π1 j = k
      · obtain ⟨j, hj, rfl⟩ := hin
        rw [p3.2.1 j hj, q3.2.2 j (fun i hi e => hk i hi (congrArg π1 e)), (a2.2 j hj).1]
      · exact p3.2.2 k (fun j hj e => hin ⟨j, hj, e⟩)
    · have hj := (List.getElem?_eq_some_iff.mp hc).1
      rw [q2] at hj
      have c1 := q3.2.1 j hj
      intro aC ρ σ'
      rw [q4 j c hc aC (fun k => ρ (π1 k)) σ', p4 (π2 j) c (c1.trans hc) aC ρ σ']
end TRS
abbrev LSt : Type := (Nat → Int) × (Nat → Nat → Int) × (Nat → WS)
abbrev KL : Type := PS → LSt → Prop
def wsL (f : Nat → WS) : Nat → Nat → XH
  | _, 0 => []
  | k, n + 1 => encW (f k) ++ wsL f (k + 1) n
def hdL (s : LSt) : XH := [xO 2 [.ref 7, .ref 20, .ref 1, xi (s.1 0), xi (s.1 1), .ref 2, xi (s.1 2), .ref 3, xi (s.1 3), .ref 4, xi (s.1 4), .ref 5, .ref 6], xQ 6 (fun j => some (32 + 13 * j)), xQ 2 (fun j => some (109 + 13 * j)), xL 6 (s.2.1 0), xA 80 (s.2.1 1), xA 160 (s.2.1 2), xA 101 (s.2.1 3)]
def encL (s : LSt) : XH := hdL s ++ wsL s.2.2 0 10
def bdL (s : LSt) : Prop := (∀ k, xB (s.1 k)) ∧ (∀ a k, xB (s.2.1 a k)) ∧ ∀ q, bdW (s.2.2 q)
theorem wsL_at (f : Nat → WS) : ∀ (n k q j : Nat), q < n → j < 13 → (wsL f k n)[13 * q + j]? = (encW (f (k + q)))[j]?
  | 0, k, q, j, hq, hj => by omega
  | n + 1, k, 0, j, hq, hj => by
    rw [wsL, List.getElem?_append_left (by rw [lenW13]; omega)]
    congr 1; omega
  | n + 1, k, q + 1, j, hq, hj => by
    rw [wsL, List.getElem?_append_right (by rw [lenW13]; omega), lenW13, show 13 * (q + 1) + j - 13 = 13 * q + j by omega, wsL_at f n (k + 1) q j (by omega) hj]
    congr 2; rw [show k + 1 + q = k + (q + 1) by omega]
theorem wsL_len (f : Nat → WS) : ∀ (n k : Nat), (wsL f k n).length = 13 * n
  | 0, k => rfl
  | n + 1, k => by rw [wsL, List.length_append, lenW13, wsL_len f n (k + 1)]; omega
theorem lenL137 (s : LSt) : (encL s).length = 137 := by rw [encL, List.length_append, wsL_len]; rfl
theorem lenL (s s' : LSt) : (encL s').length = (encL s).length := by rw [lenL137, lenL137]
theorem recL (s : LSt) : ∃ fs, xl_n (encL s) 0 = some (.inr (2, fs)) := ⟨_, rfl⟩
theorem encL_w (s : LSt) {q j : Nat} (hq : q < 10) (hj : j < 13) : (encL s)[7 + 13 * q + j]? = (encW (s.2.2 q))[j]? := by
  rw [encL, List.getElem?_append_right (by show 7 ≤ _; omega), show 7 + 13 * q + j - (hdL s).length = 13 * q + j by show 7 + 13 * q + j - 7 = _; omega, wsL_at _ _ _ _ _ hq hj, Nat.zero_add]
theorem encL_h (s : LSt) {k : Nat} (hk : k < 7) : (encL s)[k]? = (hdL s)[k]? := by
  rw [encL, List.getElem?_append_left (show k < 7 from hk)]
def setW (s : LSt) (q : Nat) (w : WS) : LSt := (s.1, s.2.1, fun j => bif Nat.beq j q then w else s.2.2 j)
theorem setW_self (s : LSt) (q : Nat) : setW s q (s.2.2 q) = s := by
  refine Prod.ext rfl (Prod.ext rfl (funext fun j => ?_))
  show (bif Nat.beq j q then s.2.2 q else s.2.2 j) = s.2.2 j
  cases e : Nat.beq j q with
  | false => rfl
  | true => rw [nB e]; rfl
theorem setW_at (s : LSt) (q : Nat) (w : WS) : (setW s q w).2.2 q = w := by
  show (bif Nat.beq q q then w else s.2.2 q) = w
  rw [Nat.beq_refl]; rfl
theorem setW_ne {s : LSt} {q j : Nat} {w : WS} (h : j ≠ q) : (setW s q w).2.2 j = s.2.2 j := by
  show (bif Nat.beq j q then w else s.2.2 j) = s.2.2 j
  cases e : Nat.beq j q with
  | false => rfl
  | true => exact absurd (nB e) h
theorem bdL_set {s : LSt} {q : Nat} {w : WS} (hb : bdL s) (hw : bdW w) : bdL (setW s q w) := by
  refine ⟨hb.1, hb.2.1, fun j => ?_⟩
  show bdW (bif Nat.beq j q then w else s.2.2 j)
  cases Nat.beq j q with
  | true => exact hw
  | false => exact hb.2.2 j
theorem encL_split (k : Nat) : k < 7 ∨ (∃ q j, q < 10 ∧ j < 13 ∧ k = 7 + 13 * q + j) ∨ 137 ≤ k := by
  rcases Nat.lt_or_ge k 7 with h | h
  · exact Or.inl h
  · rcases Nat.lt_or_ge k 137 with h2 | h2
    · exact Or.inr (Or.inl ⟨(k - 7) / 13, (k - 7) % 13, by omega, by omega, by omega⟩)
    · exact Or.inr (Or.inr h2)
/-- one World -/
theorem lkL {q : Nat} (hq : q < 10) : vLk encL bdL encW bdW (fun k => 7 + 13 * q + k) (fun s => s.2.2 q) (fun s w => setW s q w) := by
  refine ⟨fun s hb => ⟨hb.2.2 q, ⟨fun i j _ _ e => Nat.add_left_cancel e, fun j hj => ?_⟩, fun j c _ => xl_ok_add _ j c⟩, fun s w hb hw => ⟨bdL_set hb hw, rfl, ⟨lenL _ _, fun j hj => ?_, fun k hk => ?_⟩, fun j c _ => xl_ok_add _ j c⟩⟩
  · have hj : j < 13 := hj
    exact ⟨encL_w s hq hj, by rw [lenL137]; show 7 + 13 * q + j < 137; omega⟩
  · have hj : j < 13 := hj
    show (encL (setW s q w))[7 + 13 * q + j]? = _
    rw [encL_w _ hq hj, setW_at]
  · rcases encL_split k with h | ⟨p, j, hp, hj, rfl⟩ | h
    · rw [encL_h _ h, encL_h _ h]; rfl
    · have hne : p ≠ q := fun e => by subst e; exact hk j hj rfl
      rw [encL_w _ hp hj, encL_w _ hp hj, setW_ne hne]
    · rw [List.getElem?_eq_none (by rw [lenL137]; omega), List.getElem?_eq_none (by rw [lenL137]; omega)]
/-- two Worlds -/
def piL (a b : Nat) : Nat → Nat := fun k => if k < 13 then 7 + 13 * a + k else 7 + 13 * b + (k - 13)
theorem encWW_at1 (s : WWS) {j : Nat} (h : j < 13) : (encWW s)[j]? = (encW s.1)[j]? := by rw [encWW, List.getElem?_append_left (by rw [lenW13]; exact h)]
theorem encWW_at2 (s : WWS) {j : Nat} (h : ¬ j < 13) : (encWW s)[j]? = (encW s.2)[j - 13]? := by rw [encWW, List.getElem?_append_right (by rw [lenW13]; omega), lenW13]
theorem lenWW26 (s : WWS) : (encWW s).length = 26 := rfl
theorem encW_ref (w : WS) {j : Nat} {c : XE} (h : (encW w)[j]? = some c) (π : Nat → Nat) (hπ : ∀ d, j + d < 13 → π (j + d) = π j + d) : xl_ok π j c := by
  intro aC ρ σ'
  match j, h with
  | 0, h => cases h; simp only [xl_c, List.map_cons, List.map_nil, xl_v, hπ 1 (by decide), hπ 3 (by decide), hπ 5 (by decide), hπ 7 (by decide), hπ 9 (by decide), hπ 11 (by decide)]
  | 1, h => cases h; simp only [xl_c, List.map_cons, List.map_nil, xl_v, hπ 1 (by decide)]
  | 2, h => cases h; rfl
  | 3, h => cases h; simp only [xl_c, List.map_cons, List.map_nil, xl_v, hπ 1 (by decide)]
  | 4, h => cases h; rfl
  | 5, h => cases h; simp only [xl_c, List.map_cons, List.map_nil, xl_v, hπ 1 (by decide)]
  | 6, h => cases h; rfl
  | 7, h => cases h; simp only [xl_c, List.map_cons, List.map_nil, xl_v, hπ 1 (by decide)]
  | 8, h => cases h; rfl
  | 9, h => cases h; simp only [xl_c, List.map_cons, List.map_nil, xl_v, hπ 1 (by decide)]
  | 10, h => cases h; rfl
  | 11, h => cases h; simp only [xl_c, List.map_cons, List.map_nil, xl_v, hπ 1 (by decide)]
  | 12, h => cases h; rfl
  | j + 13, h => cases h
theorem lkL2 {a b : Nat} (ha : a < 10) (hb : b < 10) (hab : a ≠ b) : vLk encL bdL encWW bdWW (piL a b) (fun s => (s.2.2 a, s.2.2 b)) (fun s w => setW (setW s a w.1) b w.2) := by
  have hok : ∀ (s : WWS) (j : Nat) (c : XE), (encWW s)[j]? = some c → xl_ok (piL a b) j c := by
    intro s j c h
    by_cases hj : j < 13
    · rw [encWW_at1 s hj] at h
      refine encW_ref s.1 h _ (fun d hd => ?_)
      unfold piL
      rw [if_pos (by omega), if_pos (by omega)]; omega
    · have hj2 : j < 26 := (List.getElem?_eq_some_iff.mp h).1
      rw [encWW_at2 s hj] at h
      have key := encW_ref s.2 h (fun k => 7 + 13 * b + k) (fun d _ => by omega)
      have e : ∀ ρ : Nat → Nat, (fun d => (fun k => ρ (piL a b k)) (j + d)) = fun d => ρ (7 + 13 * b + (j - 13) + d) := by
        intro ρ
        funext d
        show ρ (piL a b (j + d)) = _
        unfold piL
        rw [if_neg (by omega)]
        congr 1; omega
      intro aC ρ σ'
      have e2 : piL a b j = 7 + 13 * b + (j - 13) := by unfold piL; rw [if_neg hj]
      rw [e2]
      cases c with
      | inr o => simp only [xl_c]; rw [e ρ]
      | inl o =>
        obtain ⟨t, n, f | f | f | f | f⟩ := o
        · rfl
        · rfl
        · rfl
        · rfl
        · have := congrFun (e ρ)
          simp only [xl_c, xl_a]
          rw [show (fun d => ρ (piL a b (j + d))) = fun d => ρ (7 + 13 * b + (j - 13) + d) from e ρ]
  refine ⟨fun s hs => ⟨⟨hs.2.2 a, hs.2.2 b⟩, ⟨fun i j hi hj e => ?_, fun j hj => ?_⟩, hok _⟩, fun s w hs hw => ⟨bdL_set (bdL_set hs hw.1) hw.2, rfl, ⟨lenL _ _, fun j hj => ?_, fun k hk => ?_⟩, hok _⟩⟩
  · rw [lenWW26] at hi hj
    unfold piL at e
    split at e <;> split at e <;> omega
  · rw [lenWW26] at hj
    by_cases c : j < 13
    · rw [encWW_at1 _ c, show piL a b j = 7 + 13 * a + j from if_pos c]
      exact ⟨encL_w s ha c, by rw [lenL137]; omega⟩
    · rw [encWW_at2 _ c, show piL a b j = 7 + 13 * b + (j - 13) from if_neg c]
      exact ⟨encL_w s hb (by omega), by rw [lenL137]; omega⟩
  · rw [lenWW26] at hj
    by_cases c : j < 13
    · rw [encWW_at1 _ c, show piL a b j = 7 + 13 * a + j from if_pos c, encL_w _ ha c, setW_ne hab, setW_at]
    · rw [encWW_at2 _ c, show piL a b j = 7 + 13 * b + (j - 13) from if_neg c, encL_w _ hb (by omega), setW_at]
  · rcases encL_split k with h | ⟨p, j, hp, hj, rfl⟩ | h
    · rw [encL_h _ h, encL_h _ h]; rfl
    · have hne : p ≠ a := fun e => by subst e; exact hk j (by rw [lenWW26]; omega) (if_pos hj)
      have hne2 : p ≠ b := fun e => by subst e; exact hk (13 + j) (by rw [lenWW26]; omega) (by unfold piL; rw [if_neg (by omega)]; omega)
      rw [encL_w _ hp hj, encL_w _ hp hj, setW_ne hne2, setW_ne hne]
    · rw [List.getElem?_eq_none (by rw [lenL137]; omega), List.getElem?_eq_none (by rw [lenL137]; omega)]
/-- views -/
def tabL : Nat → Option (Nat × Nat) := fun r => match xl_n [none, none, none, none, none, none, none, some (0, 0), some (0, 1), some (0, 2), some (0, 3), some (0, 4), some (0, 5), some (0, 6), some (0, 7), some (0, 8), some (0, 9), some (0, 10), some (0, 11), some (0, 12), some (1, 0), some (1, 1), some (1, 2), some (1, 3), some (1, 4), some (1, 5), some (1, 6), some (1, 7), some (1, 8), some (1, 9), some (1, 10), some (1, 11), some (1, 12)] r with
  | some x => x
  | none => none
theorem tabL_inv {r q j : Nat} (h : tabL r = some (q, j)) : q < 10 ∧ j < 13 ∧ r = 7 + 13 * q + j := by
  match r, h with
  | 0, h => cases h
  | 1, h => cases h
  | 2, h => cases h
  | 3, h => cases h
  | 4, h => cases h
  | 5, h => cases h
  | 6, h => cases h
  | 7, h => cases h; exact ⟨by decide, by decide, rfl⟩
  | 8, h => cases h; exact ⟨by decide, by decide, rfl⟩
  | 9, h => cases h; exact ⟨by decide, by decide, rfl⟩
  | 10, h => cases h; exact ⟨by decide, by decide, rfl⟩
  | 11, h => cases h; exact ⟨by decide, by decide, rfl⟩
  | 12, h => cases h; exact ⟨by decide, by decide, rfl⟩
  | 13, h => cases h; exact ⟨by decide, by decide, rfl⟩
  | 14, h => cases h; exact ⟨by decide, by decide, rfl⟩
  | 15, h => cases h; exact ⟨by decide, by decide, rfl⟩
  | 16, h => cases h; exact ⟨by decide, by decide, rfl⟩
  | 17, h => cases h; exact ⟨by decide, by decide, rfl⟩
  | 18, h => cases h; exact ⟨by decide, by decide, rfl⟩
  | 19, h => cases h; exact ⟨by decide, by decide, rfl⟩
  | 20, h => cases h; exact ⟨by decide, by decide, rfl⟩
  | 21, h => cases h; exact ⟨by decide, by decide, rfl⟩
  | 22, h => cases h; exact ⟨by decide, by decide, rfl⟩
  | 23, h => cases h; exact ⟨by decide, by decide, rfl⟩
  | 24, h => cases h; exact ⟨by decide, by decide, rfl⟩
  | 25, h => cases h; exact ⟨by decide, by decide, rfl⟩
  | 26, h => cases h; exact ⟨by decide, by decide, rfl⟩
  | 27, h => cases h; exact ⟨by decide, by decide, rfl⟩
  | 28, h => cases h; exact ⟨by decide, by decide, rfl⟩
  | 29, h => cases h; exact ⟨by decide, by decide, rfl⟩
  | 30, h => cases h; exact ⟨by decide, by decide, rfl⟩
  | 31, h => cases h; exact ⟨by decide, by decide, rfl⟩
  | 32, h => cases h; exact ⟨by decide, by decide, rfl⟩
  | r + 33, h => cases h
def fgL : FG LSt := fun s r ci k => bif Nat.beq r 0 then (bif Nat.beq ci 2 then xl_n [pR 7, pR 20, pR 1, pI (s.1 0), pI (s.1 1), pR 2, pI (s.1 2), pR 3, pI (s.1 3), pR 4, pI (s.1 4), pR 5, pR 6] k else none) else match tabL r with
  | some (q, j) => oUp (7 + 13 * q) (fgW (s.2.2 q) j ci k)
  | none => none
def setS (s : LSt) (k : Nat) (v : Int) : LSt := (fun j => bif Nat.beq j k then v else s.1 j, s.2)
def setA (s : LSt) (a : Nat) (g : Nat → Int) : LSt := (s.1, fun j => bif Nat.beq j a then g else s.2.1 j, s.2.2)
def fpL : FP LSt := fun s r ci k z => bif Nat.beq r 0 then (bif Nat.beq ci 2 then (match xl_n [none, none, none, some 0, some 1, none, some 2, none, some 3, none, some 4] k with
  | some (some j) => some (setS s j z)
  | _ => none) else none) else none
def agL : AG LSt := fun s r => match xl_n [none, none, none, some (1, 6, s.2.1 0), some (0, 80, s.2.1 1), some (0, 160, s.2.1 2), some (0, 101, s.2.1 3)] r with
  | some x => x
  | none => none
def apL : AP LSt := fun s r g => setA s (r - 3) g
def arL : LSt → Nat → Option (Nat × (Nat → Nat)) := fun _ r => bif Nat.beq r 1 then some (6, fun j => 33 + 13 * j) else bif Nat.beq r 2 then some (2, fun j => 111 + 13 * j) else none
theorem vFgL : vFg encL bdL fgL := by
  intro s r ci k v hb h
  unfold fgL at h
  cases e : Nat.beq r 0 with
  | true =>
    rw [e] at h
    obtain ⟨h2, h3⟩ := bN h
    have e := nB e
    have h2 := nB h2
    subst e; subst h2
    match k, h3 with
    | 0, h3 => cases h3; exact ⟨_, _, rfl, rfl, rfl, fun z e => by cases e⟩
    | 1, h3 => cases h3; exact ⟨_, _, rfl, rfl, rfl, fun z e => by cases e⟩
    | 2, h3 => cases h3; exact ⟨_, _, rfl, rfl, rfl, fun z e => by cases e⟩
    | 3, h3 => cases h3; exact ⟨_, _, rfl, rfl, rfl, fun z e => by cases e; exact hb.1 0⟩
    | 4, h3 => cases h3; exact ⟨_, _, rfl, rfl, rfl, fun z e => by cases e; exact hb.1 1⟩
    | 5, h3 => cases h3; exact ⟨_, _, rfl, rfl, rfl, fun z e => by cases e⟩
    | 6, h3 => cases h3; exact ⟨_, _, rfl, rfl, rfl, fun z e => by cases e; exact hb.1 2⟩
    | 7, h3 => cases h3; exact ⟨_, _, rfl, rfl, rfl, fun z e => by cases e⟩
    | 8, h3 => cases h3; exact ⟨_, _, rfl, rfl, rfl, fun z e => by cases e; exact hb.1 3⟩
    | 9, h3 => cases h3; exact ⟨_, _, rfl, rfl, rfl, fun z e => by cases e⟩
    | 10, h3 => cases h3; exact ⟨_, _, rfl, rfl, rfl, fun z e => by cases e; exact hb.1 4⟩
    | 11, h3 => cases h3; exact ⟨_, _, rfl, rfl, rfl, fun z e => by cases e⟩
    | 12, h3 => cases h3; exact ⟨_, _, rfl, rfl, rfl, fun z e => by cases e⟩
  | false =>
    rw [e] at h
    dsimp only [cond_false] at h
    split at h
    · next q j hq =>
      obtain ⟨hq1, hj1, rfl⟩ := tabL_inv hq
      cases e3 : fgW (s.2.2 q) j ci k with
      | none => rw [e3] at h; cases h
      | some v0 =>
        rw [e3] at h
        cases h
        obtain ⟨fs, w, e1, e2, e3, e4⟩ := vFgW _ _ _ _ _ (hb.2.2 _) e3
        refine ⟨fs, w, ?_, e2, pUp_o e3, ?_⟩
        · rw [xl_n_eq] at e1 ⊢
          rw [encL_w s hq1 hj1]; exact e1
        · intro z hz
          rcases v0 with z0 | z0 | q | j
          · cases hz; exact e4 z rfl
          · cases hz
          · cases hz
          · cases hz
    · cases h
theorem bdL_S {s : LSt} {k : Nat} {v : Int} (hb : bdL s) (hv : xB v) : bdL (setS s k v) := by
  refine ⟨fun j => ?_, hb.2⟩
  show xB (bif Nat.beq j k then v else s.1 j)
  cases Nat.beq j k with
  | true => exact hv
  | false => exact hb.1 j
theorem bdL_A {s : LSt} {a : Nat} {g : Nat → Int} (hb : bdL s) (hv : ∀ k, xB (g k)) : bdL (setA s a g) := by
  refine ⟨hb.1, fun j => ?_, hb.2.2⟩
  show ∀ k, xB ((bif Nat.beq j a then g else s.2.1 j) k)
  cases Nat.beq j a with
  | true => exact hv
  | false => exact hb.2.1 j
theorem vFpL : vFp encL bdL fpL := by
  intro s r ci k z s' hb hz h
  obtain ⟨h1, g1⟩ := bN h
  obtain ⟨h2, g2⟩ := bN g1
  clear h g1
  have h1 := nB h1
  have h2 := nB h2
  subst h1; subst h2
  match k, g2 with
  | 3, g2 => cases g2; exact ⟨_, rfl, Nat.le_of_ble_eq_true rfl, rfl, bdL_S hb hz⟩
  | 4, g2 => cases g2; exact ⟨_, rfl, Nat.le_of_ble_eq_true rfl, rfl, bdL_S hb hz⟩
  | 6, g2 => cases g2; exact ⟨_, rfl, Nat.le_of_ble_eq_true rfl, rfl, bdL_S hb hz⟩
  | 8, g2 => cases g2; exact ⟨_, rfl, Nat.le_of_ble_eq_true rfl, rfl, bdL_S hb hz⟩
  | 10, g2 => cases g2; exact ⟨_, rfl, Nat.le_of_ble_eq_true rfl, rfl, bdL_S hb hz⟩
theorem vAgL : vAg encL bdL agL apL := by
  intro s r t n g hb h
  match r, h with
  | 3, h => cases h; exact ⟨by decide, hb.2.1 0, rfl, fun g' hg => ⟨bdL_A hb hg, rfl⟩⟩
  | 4, h => cases h; exact ⟨by decide, hb.2.1 1, rfl, fun g' hg => ⟨bdL_A hb hg, rfl⟩⟩
  | 5, h => cases h; exact ⟨by decide, hb.2.1 2, rfl, fun g' hg => ⟨bdL_A hb hg, rfl⟩⟩
  | 6, h => cases h; exact ⟨by decide, hb.2.1 3, rfl, fun g' hg => ⟨bdL_A hb hg, rfl⟩⟩
theorem vArL : vAr encL bdL arL := by
  intro s r n q hb h
  unfold arL at h
  cases e1 : Nat.beq r 1 with
  | true =>
    rw [e1] at h
    have e1 := nB e1
    subst e1
    cases h
    exact ⟨by decide, _, rfl, fun j hj => ⟨_, rfl, by show 1 + (32 + 13 * j) = 33 + 13 * j; omega⟩⟩
  | false =>
    rw [e1] at h
    obtain ⟨h3, h4⟩ := bN h
    have h3 := nB h3
    subst h3
    cases h4
    exact ⟨by decide, _, rfl, fun j hj => ⟨_, rfl, by show 2 + (109 + 13 * j) = 111 + 13 * j; omega⟩⟩
end
-- 39.Lc
section
/-! ===== LateSessions: the calls that it makes on its Worlds and tables; functions without an object ===== -/
section LCA
variable {M μ : XI} {rc rs pc pc2 n : Nat}
def inP {σ : Type} (tix : Nat → Option (Nat × Nat)) (f : Nat → Nat → List PV → σ → (PS → σ → Prop) → Prop) : Sp σ := fun as s K => match as with
  | .inr (.inr (.inl r)) :: as => match tix r with
    | some (q, t) => bif as.all pnr then f q t as s K else False
    | none => False
  | _ => False
theorem inP_inv {σ : Type} {tix : Nat → Option (Nat × Nat)} {f : Nat → Nat → List PV → σ → (PS → σ → Prop) → Prop} {as : List PV} {s : σ} {K : PS → σ → Prop} (h : inP tix f as s K) : ∃ r q t as', as = pR r :: as' ∧ tix r = some (q, t) ∧ as'.all pnr = true ∧ f q t as' s K := by
  unfold inP at h
  split at h
  · next r as =>
    split at h
    · next q t e =>
      obtain ⟨h1, h2⟩ := condT h
      exact ⟨r, q, t, as, rfl, e, h1, h2⟩
    · exact h.elim
  · exact h.elim
def tixL : Nat → Option (Nat × Nat) := fun r => match xl_n [none, none, none, none, none, none, none, none, some (0, 0), none, some (0, 1), none, some (0, 2), none, some (0, 3), none, some (0, 4), none, some (0, 5), none, none, some (1, 0), none, some (1, 1), none, some (1, 2), none, some (1, 3), none, some (1, 4), none, some (1, 5), none] r with
  | some x => x
  | none => none
theorem tixL_inv {r q t : Nat} (h : tixL r = some (q, t)) : q < 10 ∧ ∃ j, r = 7 + 13 * q + j ∧ tixW j = some t := by
  match r, h with
  | 0, h => cases h
  | 1, h => cases h
  | 2, h => cases h
  | 3, h => cases h
  | 4, h => cases h
  | 5, h => cases h
  | 6, h => cases h
  | 7, h => cases h
  | 8, h => cases h; exact ⟨by decide, 1, rfl, rfl⟩
  | 9, h => cases h
  | 10, h => cases h; exact ⟨by decide, 3, rfl, rfl⟩
  | 11, h => cases h
  | 12, h => cases h; exact ⟨by decide, 5, rfl, rfl⟩
  | 13, h => cases h
  | 14, h => cases h; exact ⟨by decide, 7, rfl, rfl⟩
  | 15, h => cases h
  | 16, h => cases h; exact ⟨by decide, 9, rfl, rfl⟩
  | 17, h => cases h
  | 18, h => cases h; exact ⟨by decide, 11, rfl, rfl⟩
  | 19, h => cases h
  | 20, h => cases h
  | 21, h => cases h; exact ⟨by decide, 1, rfl, rfl⟩
  | 22, h => cases h
  | 23, h => cases h; exact ⟨by decide, 3, rfl, rfl⟩
  | 24, h => cases h
  | 25, h => cases h; exact ⟨by decide, 5, rfl, rfl⟩
  | 26, h => cases h
  | 27, h => cases h; exact ⟨by decide, 7, rfl, rfl⟩
  | 28, h => cases h
  | 29, h => cases h; exact ⟨by decide, 9, rfl, rfl⟩
  | 30, h => cases h
  | 31, h => cases h; exact ⟨by decide, 11, rfl, rfl⟩
  | 32, h => cases h
  | r + 33, h => cases h
theorem lkLT {r q t : Nat} (h : tixL r = some (q, t)) : vLk encL bdL (encT (rmT t) (wdT t)) (bdT (rmT t) (wdT t)) (fun k => r + k) (fun s => (s.2.2 q).2 t) (fun s b => setW s q (setT (s.2.2 q) t b)) ∧ ∀ s, ∃ fs, xl_n (encL s) r = some (.inr (0, fs)) := by
  obtain ⟨hq, j, rfl, hj⟩ := tixL_inv h
  obtain ⟨l1, l2⟩ := lkW j t hj
  have := vLk_trans (lkL hq) l1
  refine ⟨?_, fun s => ?_⟩
  · have e : (fun k => 7 + 13 * q + (j + k)) = fun k => 7 + 13 * q + j + k := by funext k; omega
    rw [← e]
    exact this
  · obtain ⟨fs, hf⟩ := l2 (s.2.2 q)
    refine ⟨fs, ?_⟩
    rw [xl_n_eq] at hf ⊢
    have hj13 : j < 13 := by
      rcases tixW_inv hj with ⟨rfl, _⟩ | ⟨rfl, _⟩ | ⟨rfl, _⟩ | ⟨rfl, _⟩ | ⟨rfl, _⟩ | ⟨rfl, _⟩ <;> decide
    rw [encL_w s hq hj13]
    exact hf
theorem qLT {f : Int → Int → List PV → TS → KT → Prop} (hm : ∀ rm w, mOk (encT rm w) (bdT rm w) μ (atR 0 (f rm w))) (hv : xl_V μ) (hcl : ∃ T N, vwCl[0]? = some (μ.1.cls, T, N)) (d : xl_Ca M pc μ pc2) (hn : n = μ.2.2.2.2.2.2 + 1) : cOk encL bdL M rc rs pc pc2 n (inP tixL (fun q t as s K => f (rmT t) (wdT t) as ((s.2.2 q).2 t) (fun v b => K v (setW s q (setT (s.2.2 q) t b))))) := by
  intro as L st s K Q hl hw hb hs hk
  obtain ⟨r, q, t, as', rfl, ht, hnr, h1⟩ := inP_inv hs
  exact (cVirt (sp := fun as s K => as = pR r :: as' ∧ f (rmT t) (wdT t) as' ((s.2.2 q).2 t) (fun v b => K v (setW s q (setT (s.2.2 q) t b)))) (hm (rmT t) (wdT t)) hv d hcl hn (fun as2 s2 K2 _ h2 => by
    obtain ⟨e, h3⟩ := h2
    exact ⟨_, _, _, as', (lkLT ht).1, (lkLT ht).2 s2, by rw [e, pnr_rel hnr]; rfl, h3⟩)) _ L st s K Q hl hw hb ⟨rfl, h1⟩ hk
theorem inP_mk {σ : Type} {tix : Nat → Option (Nat × Nat)} {f : Nat → Nat → List PV → σ → (PS → σ → Prop) → Prop} {as : List PV} {s : σ} {K : PS → σ → Prop} {r q t : Nat} (h1 : tix r = some (q, t)) (h2 : as.all pnr = true) (h3 : f q t as s K) : inP tix f (pR r :: as) s K := by
  show (match tix r with
    | some (q, t) => bif as.all pnr then f q t as s K else False
    | none => False)
  rw [h1, h2]
  exact h3
def cL_X0_get : Sp LSt := inP tixL (fun q t => a2 (fun i c s K => (xB i ∧ xB c) ∧ (xB (wG (s.2.2 q) t i c) → K [pI (wG (s.2.2 q) t i c)] s)))
theorem qL_X0_get (d : xl_Ca M pc mX0_get pc2) : cOk encL bdL M rc rs pc pc2 3 cL_X0_get := by
  refine cMono (fun as s K hb h => ?_) (qLT (f := fun rm w => a2 (sX0_get rm w)) mX0_get_ok vX0_get tcl d rfl)
  obtain ⟨r, q, t, as', rfl, ht, hnr, h1⟩ := inP_inv h
  obtain ⟨i, c, rfl, h2, h3⟩ := a2_inv h1
  refine inP_mk ht hnr ⟨h2, ?_⟩
  show K _ (setW s q (setT (s.2.2 q) t ((s.2.2 q).2 t)))
  rw [setT_self, setW_self]
  exact h3 (wG_B (hb.2.2 q))
def cL_X0_set : Sp LSt := inP tixL (fun q t => a3 (fun i c v s K => (xB i ∧ xB c ∧ xB v) ∧ K [] (setW s q (wP (s.2.2 q) t i c v))))
theorem qL_X0_set (d : xl_Ca M pc mX0_set pc2) : cOk encL bdL M rc rs pc pc2 4 cL_X0_set := by
  refine cMono (fun as s K hb h => ?_) (qLT (f := fun rm w => a3 (sX0_set rm w)) mX0_set_ok vX0_set tcl d rfl)
  obtain ⟨r, q, t, as', rfl, ht, hnr, h1⟩ := inP_inv h
  obtain ⟨i, c, v, rfl, h2⟩ := a3_inv h1
  exact inP_mk ht hnr h2
/-- Worlds -/
def tixQ : Nat → Option Nat := fun r => bif Nat.beq r 7 then some 0 else bif Nat.beq r 20 then some 1 else none
theorem tixQ_inv {r q : Nat} (h : tixQ r = some q) : q < 10 ∧ r = 7 + 13 * q := by
  unfold tixQ at h
  cases e : Nat.beq r 7 with
  | true => rw [e] at h; cases h; exact ⟨by decide, nB e⟩
  | false =>
    rw [e] at h
    obtain ⟨h1, h2⟩ := bN h
    cases h2
    exact ⟨by decide, nB h1⟩
theorem qLW {f : List PV → WS → KW → Prop} (hm : mOk encW bdW μ (atR 0 f)) (hv : xl_V μ) (hcl : ∃ T N, vwCl[1]? = some (μ.1.cls, T, N)) (d : xl_Ca M pc μ pc2) (hn : n = μ.2.2.2.2.2.2 + 1) : cOk encL bdL M rc rs pc pc2 n (inT tixQ (fun q as s K => f as (s.2.2 q) (fun v w => K v (setW s q w)))) := by
  intro as L st s K Q hl hw hb hs hk
  obtain ⟨r, q, as', rfl, ht, hnr, h1⟩ := inT_inv hs
  obtain ⟨hq, rfl⟩ := tixQ_inv ht
  exact (cVirt (sp := fun as s K => as = pR (7 + 13 * q) :: as' ∧ f as' (s.2.2 q) (fun v w => K v (setW s q w))) hm hv d hcl hn (fun as2 s2 K2 _ h2 => by
    obtain ⟨e, h3⟩ := h2
    refine ⟨_, _, _, as', lkL hq, ?_, by rw [e, pnr_rel hnr]; rfl, h3⟩
    obtain ⟨fs, hf⟩ := recW (s2.2.2 q)
    refine ⟨fs, ?_⟩
    rw [xl_n_eq] at hf ⊢
    rw [encL_w s2 hq (by decide)]
    exact hf)) _ L st s K Q hl hw hb ⟨rfl, h1⟩ hk
def cL_X1_firstTouched : Sp LSt := inT tixQ (fun q => a2 (fun x y s K => sX1_firstTouched x y (s.2.2 q) (fun v _ => K v s)))
theorem qL_X1_firstTouched (d : xl_Ca M pc mX1_firstTouched pc2) : cOk encL bdL M rc rs pc pc2 3 cL_X1_firstTouched := by
  refine cMono (fun as s K hb h => ?_) (qLW (f := a2 sX1_firstTouched) mX1_firstTouched_ok vX1_firstTouched wcl d rfl)
  obtain ⟨r, q, as', rfl, ht, hnr, h1⟩ := inT_inv h
  obtain ⟨x, y, rfl, h2⟩ := a2_inv h1
  refine inT_mk ht hnr ?_
  show sX1_firstTouched x y (s.2.2 q) (fun v w => K v (setW s q w))
  simpa only [sX1_firstTouched, setW_self] using h2
def cL_X1_hasResult : Sp LSt := inT tixQ (fun q => a1 (fun x s K => sX1_hasResult x (s.2.2 q) (fun v _ => K v s)))
theorem qL_X1_hasResult (d : xl_Ca M pc mX1_hasResult pc2) : cOk encL bdL M rc rs pc pc2 2 cL_X1_hasResult := by
  refine cMono (fun as s K hb h => ?_) (qLW (f := a1 sX1_hasResult) mX1_hasResult_ok vX1_hasResult wcl d rfl)
  obtain ⟨r, q, as', rfl, ht, hnr, h1⟩ := inT_inv h
  obtain ⟨x, rfl, h2⟩ := a1_inv h1
  refine inT_mk ht hnr ?_
  show sX1_hasResult x (s.2.2 q) (fun v w => K v (setW s q w))
  simpa only [sX1_hasResult, setW_self] using h2
def cL_X1_isOver : Sp LSt := inT tixQ (fun q => a2 (fun x y s K => sX1_isOver x y (s.2.2 q) (fun v _ => K v s)))
theorem qL_X1_isOver (d : xl_Ca M pc mX1_isOver pc2) : cOk encL bdL M rc rs pc pc2 3 cL_X1_isOver := by
  refine cMono (fun as s K hb h => ?_) (qLW (f := a2 sX1_isOver) mX1_isOver_ok vX1_isOver wcl d rfl)
  obtain ⟨r, q, as', rfl, ht, hnr, h1⟩ := inT_inv h
  obtain ⟨x, y, rfl, h2⟩ := a2_inv h1
  refine inT_mk ht hnr ?_
  show sX1_isOver x y (s.2.2 q) (fun v w => K v (setW s q w))
  simpa only [sX1_isOver, setW_self] using h2
def cL_X1_isRipe : Sp LSt := inT tixQ (fun q => a2 (fun x y s K => sX1_isRipe x y (s.2.2 q) (fun v _ => K v s)))
theorem qL_X1_isRipe (d : xl_Ca M pc mX1_isRipe pc2) : cOk encL bdL M rc rs pc pc2 3 cL_X1_isRipe := by
  refine cMono (fun as s K hb h => ?_) (qLW (f := a2 sX1_isRipe) mX1_isRipe_ok vX1_isRipe wcl d rfl)
  obtain ⟨r, q, as', rfl, ht, hnr, h1⟩ := inT_inv h
  obtain ⟨x, y, rfl, h2⟩ := a2_inv h1
  refine inT_mk ht hnr ?_
  show sX1_isRipe x y (s.2.2 q) (fun v w => K v (setW s q w))
  simpa only [sX1_isRipe, setW_self] using h2
def cL_X1_isTakenOf : Sp LSt := inT tixQ (fun q => a2 (fun x y s K => sX1_isTakenOf x y (s.2.2 q) (fun v _ => K v s)))
theorem qL_X1_isTakenOf (d : xl_Ca M pc mX1_isTakenOf pc2) : cOk encL bdL M rc rs pc pc2 3 cL_X1_isTakenOf := by
  refine cMono (fun as s K hb h => ?_) (qLW (f := a2 sX1_isTakenOf) mX1_isTakenOf_ok vX1_isTakenOf wcl d rfl)
  obtain ⟨r, q, as', rfl, ht, hnr, h1⟩ := inT_inv h
  obtain ⟨x, y, rfl, h2⟩ := a2_inv h1
  refine inT_mk ht hnr ?_
  show sX1_isTakenOf x y (s.2.2 q) (fun v w => K v (setW s q w))
  simpa only [sX1_isTakenOf, setW_self] using h2
def cL_X1_leastMark : Sp LSt := inT tixQ (fun q => a1 (fun x s K => sX1_leastMark x (s.2.2 q) (fun v _ => K v s)))
theorem qL_X1_leastMark (d : xl_Ca M pc mX1_leastMark pc2) : cOk encL bdL M rc rs pc pc2 2 cL_X1_leastMark := by
  refine cMono (fun as s K hb h => ?_) (qLW (f := a1 sX1_leastMark) mX1_leastMark_ok vX1_leastMark wcl d rfl)
  obtain ⟨r, q, as', rfl, ht, hnr, h1⟩ := inT_inv h
  obtain ⟨x, rfl, h2⟩ := a1_inv h1
  refine inT_mk ht hnr ?_
  show sX1_leastMark x (s.2.2 q) (fun v w => K v (setW s q w))
  simpa only [sX1_leastMark, setW_self] using h2
def cL_X1_ripening : Sp LSt := inT tixQ (fun q => a1 (fun x s K => sX1_ripening x (s.2.2 q) (fun v _ => K v s)))
theorem qL_X1_ripening (d : xl_Ca M pc mX1_ripening pc2) : cOk encL bdL M rc rs pc pc2 2 cL_X1_ripening := by
  refine cMono (fun as s K hb h => ?_) (qLW (f := a1 sX1_ripening) mX1_ripening_ok vX1_ripening wcl d rfl)
  obtain ⟨r, q, as', rfl, ht, hnr, h1⟩ := inT_inv h
  obtain ⟨x, rfl, h2⟩ := a1_inv h1
  refine inT_mk ht hnr ?_
  show sX1_ripening x (s.2.2 q) (fun v w => K v (setW s q w))
  simpa only [sX1_ripening, setW_self] using h2
def cL_X1_sentOf : Sp LSt := inT tixQ (fun q => a1 (fun x s K => sX1_sentOf x (s.2.2 q) (fun v _ => K v s)))
theorem qL_X1_sentOf (d : xl_Ca M pc mX1_sentOf pc2) : cOk encL bdL M rc rs pc pc2 2 cL_X1_sentOf := by
  refine cMono (fun as s K hb h => ?_) (qLW (f := a1 sX1_sentOf) mX1_sentOf_ok vX1_sentOf wcl d rfl)
  obtain ⟨r, q, as', rfl, ht, hnr, h1⟩ := inT_inv h
  obtain ⟨x, rfl, h2⟩ := a1_inv h1
  refine inT_mk ht hnr ?_
  show sX1_sentOf x (s.2.2 q) (fun v w => K v (setW s q w))
  simpa only [sX1_sentOf, setW_self] using h2
def cL_X1_touchedFrom : Sp LSt := inT tixQ (fun q => a3 (fun x y z s K => sX1_touchedFrom x y z (s.2.2 q) (fun v _ => K v s)))
theorem qL_X1_touchedFrom (d : xl_Ca M pc mX1_touchedFrom pc2) : cOk encL bdL M rc rs pc pc2 4 cL_X1_touchedFrom := by
  refine cMono (fun as s K hb h => ?_) (qLW (f := a3 sX1_touchedFrom) mX1_touchedFrom_ok vX1_touchedFrom wcl d rfl)
  obtain ⟨r, q, as', rfl, ht, hnr, h1⟩ := inT_inv h
  obtain ⟨x, y, z, rfl, h2⟩ := a3_inv h1
  refine inT_mk ht hnr ?_
  show sX1_touchedFrom x y z (s.2.2 q) (fun v w => K v (setW s q w))
  simpa only [sX1_touchedFrom, setW_self] using h2
def cL_X1_comeEvent : Sp LSt := inT tixQ (fun q => a4 (fun x y z u s K => sX1_comeEvent x y z u (s.2.2 q) (fun v w => K v (setW s q w))))
theorem qL_X1_comeEvent (d : xl_Ca M pc mX1_comeEvent pc2) : cOk encL bdL M rc rs pc pc2 5 cL_X1_comeEvent := by
  refine cMono (fun as s K hb h => ?_) (qLW (f := a4 sX1_comeEvent) mX1_comeEvent_ok vX1_comeEvent wcl d rfl)
  obtain ⟨r, q, as', rfl, ht, hnr, h1⟩ := inT_inv h
  obtain ⟨x, y, z, u, rfl, h2⟩ := a4_inv h1
  exact inT_mk ht hnr h2
def cL_X1_comeIdle : Sp LSt := inT tixQ (fun q => a1 (fun x s K => sX1_comeIdle x (s.2.2 q) (fun v w => K v (setW s q w))))
theorem qL_X1_comeIdle (d : xl_Ca M pc mX1_comeIdle pc2) : cOk encL bdL M rc rs pc pc2 2 cL_X1_comeIdle := by
  refine cMono (fun as s K hb h => ?_) (qLW (f := a1 sX1_comeIdle) mX1_comeIdle_ok vX1_comeIdle wcl d rfl)
  obtain ⟨r, q, as', rfl, ht, hnr, h1⟩ := inT_inv h
  obtain ⟨x, rfl, h2⟩ := a1_inv h1
  exact inT_mk ht hnr h2
def cL_X1_comeMark : Sp LSt := inT tixQ (fun q => a2 (fun x y s K => sX1_comeMark x y (s.2.2 q) (fun v w => K v (setW s q w))))
theorem qL_X1_comeMark (d : xl_Ca M pc mX1_comeMark pc2) : cOk encL bdL M rc rs pc pc2 3 cL_X1_comeMark := by
  refine cMono (fun as s K hb h => ?_) (qLW (f := a2 sX1_comeMark) mX1_comeMark_ok vX1_comeMark wcl d rfl)
  obtain ⟨r, q, as', rfl, ht, hnr, h1⟩ := inT_inv h
  obtain ⟨x, y, rfl, h2⟩ := a2_inv h1
  exact inT_mk ht hnr h2
def cL_X1_playEvent : Sp LSt := inT tixQ (fun q => a4 (fun x y z u s K => sX1_playEvent x y z u (s.2.2 q) (fun v w => K v (setW s q w))))
theorem qL_X1_playEvent (d : xl_Ca M pc mX1_playEvent pc2) : cOk encL bdL M rc rs pc pc2 5 cL_X1_playEvent := by
  refine cMono (fun as s K hb h => ?_) (qLW (f := a4 sX1_playEvent) mX1_playEvent_ok vX1_playEvent wcl d rfl)
  obtain ⟨r, q, as', rfl, ht, hnr, h1⟩ := inT_inv h
  obtain ⟨x, y, z, u, rfl, h2⟩ := a4_inv h1
  exact inT_mk ht hnr h2
def cL_X1_reset : Sp LSt := inT tixQ (fun q => a4 (fun x y z u s K => sX1_reset x y z u (s.2.2 q) (fun v w => K v (setW s q w))))
theorem qL_X1_reset (d : xl_Ca M pc mX1_reset pc2) : cOk encL bdL M rc rs pc pc2 5 cL_X1_reset := by
  refine cMono (fun as s K hb h => ?_) (qLW (f := a4 sX1_reset) mX1_reset_ok vX1_reset wcl d rfl)
  obtain ⟨r, q, as', rfl, ht, hnr, h1⟩ := inT_inv h
  obtain ⟨x, y, z, u, rfl, h2⟩ := a4_inv h1
  exact inT_mk ht hnr h2
/-- a World out of another -/
def okQ (r : Nat) : Bool := bif Nat.blt r 7 then false else bif Nat.blt r 137 then Nat.beq ((r - 7) % 13) 0 else false
def qOf (r : Nat) : Nat := (r - 7) / 13
theorem okQ_inv {r : Nat} (h : okQ r = true) : qOf r < 10 ∧ r = 7 + 13 * qOf r := by
  unfold okQ at h
  cases e : Nat.blt r 7 with
  | true => rw [e] at h; cases h
  | false =>
    rw [e] at h
    have h7 : ¬ r < 7 := fun q => by rw [show Nat.blt r 7 = true from Nat.ble_eq_true_of_le q] at e; cases e
    dsimp only [cond_false] at h
    cases e2 : Nat.blt r 137 with
    | false => rw [e2] at h; cases h
    | true =>
      rw [e2] at h
      have h137 : r < 137 := Nat.le_of_ble_eq_true e2
      have := nB h
      unfold qOf
      omega
def cL_X1_copyFrom : Sp LSt := fun as s K => match as with
  | [.inr (.inr (.inl r1)), .inr (.inr (.inl r2))] => bif okQ r1 then (bif okQ r2 then (bif Nat.beq (qOf r1) (qOf r2) then False else (wok (s.2.2 (qOf r2)) ∧ K [] (setW s (qOf r1) (wCopy (s.2.2 (qOf r1)) (s.2.2 (qOf r2)))))) else False) else False
  | _ => False
theorem setW_keep {s : LSt} {a b : Nat} {w : WS} (h : b ≠ a) : setW (setW s a w) b (s.2.2 b) = setW s a w := by
  have := setW_self (setW s a w) b
  rw [setW_ne h] at this
  exact this
theorem qL_copyAB {a b : Nat} (ha : a < 10) (hb : b < 10) (hab : a ≠ b) (d : xl_Ca M pc mX1_copyFrom pc2) : cOk encL bdL M rc rs pc pc2 2 (fun as s K => as = [pR (7 + 13 * a), pR (7 + 13 * b)] ∧ wok (s.2.2 b) ∧ K [] (setW s a (wCopy (s.2.2 a) (s.2.2 b)))) := by
  refine cVirt mX1_copyFrom_ok vX1_copyFrom d wcl rfl (fun as2 s2 K2 hb2 h2 => ?_)
  obtain ⟨e1, h3, h4⟩ := h2
  refine ⟨piL a b, _, _, [pR 13], lkL2 ha hb hab, ?_, ?_, ⟨h3, ?_⟩⟩
  · obtain ⟨fs, hf⟩ := recW (s2.2.2 a)
    refine ⟨fs, ?_⟩
    rw [xl_n_eq] at hf ⊢
    rw [show piL a b 0 = 7 + 13 * a + 0 from if_pos (by decide), encL_w s2 ha (by decide)]
    exact hf
  · rw [e1]
    rfl
  · show K2 [] (setW (setW s2 a (wCopy (s2.2.2 a) (s2.2.2 b))) b (s2.2.2 b))
    rw [setW_keep (fun q => hab q.symm)]
    exact h4
theorem qL_X1_copyFrom (d : xl_Ca M pc mX1_copyFrom pc2) : cOk encL bdL M rc rs pc pc2 2 cL_X1_copyFrom := by
  intro as L st s K Q hl hw hb hs hk
  unfold cL_X1_copyFrom at hs
  split at hs
  · next r1 r2 =>
    obtain ⟨h1, hs1⟩ := condT hs
    obtain ⟨h2, hs2⟩ := condT hs1
    obtain ⟨ha, ea⟩ := okQ_inv h1
    obtain ⟨hb1, eb⟩ := okQ_inv h2
    cases e : Nat.beq (qOf r1) (qOf r2) with
    | true => rw [e] at hs2; exact hs2.elim
    | false =>
      rw [e] at hs2
      have hab : qOf r1 ≠ qOf r2 := fun q => by rw [q, Nat.beq_refl] at e; cases e
      exact qL_copyAB ha hb1 hab d _ L st s K Q hl hw hb ⟨by rw [← ea, ← eb], hs2⟩ hk
  · exact hs.elim
end LCA
/-! functions without an object -/
abbrev KU : Type := PS → Unit → Prop
def encU : Unit → XH := fun _ => []
def bdU : Unit → Prop := fun _ => True
-- X2_isKey: heads []
def tX2_isKey : Nat → Blk Unit := fun pc => bif Nat.blt pc 14 then (bif Nat.beq pc 0 then (oIld 0 <| oZLt 14 <| oIld 0 <| oI 6 <| oCGe 14 <| oI 1 <| oTo 15) else oNo) else (bif Nat.blt pc 15 then (bif Nat.beq pc 14 then (oI 0 <| oTo 15) else oNo) else (bif Nat.beq pc 15 then (oZret) else oNo))
theorem tX2_isKey_ok : ∀ pc, bOk (encU) (bdU) mX2_isKey 0 0 pc (tX2_isKey pc) := fun pc => (tNode (tLeaf (okIldn iX2_isKey_0 rfl <| okZLt (tl rfl) iX2_isKey_1 <| okIldn iX2_isKey_4 rfl <| okBi iX2_isKey_5 (by decide) <| okCGe (tl rfl) iX2_isKey_7 <| okIc iX2_isKey_10 <| okGoto (tl rfl) iX2_isKey_11)) (tNode (tLeaf (okIc iX2_isKey_14 <| okTo (tl rfl))) (tLeaf (okZret iX2_isKey_15 rfl)))) pc
-- X2_isTime: heads []
def tX2_isTime : Nat → Blk Unit := fun pc => bif Nat.blt pc 15 then (bif Nat.beq pc 0 then (oIld 0 <| oZLt 15 <| oIld 0 <| oI 9999 <| oCGt 15 <| oI 1 <| oTo 16) else oNo) else (bif Nat.blt pc 16 then (bif Nat.beq pc 15 then (oI 0 <| oTo 16) else oNo) else (bif Nat.beq pc 16 then (oZret) else oNo))
theorem tX2_isTime_ok : ∀ pc, bOk (encU) (bdU) mX2_isTime 0 0 pc (tX2_isTime pc) := fun pc => (tNode (tLeaf (okIldn iX2_isTime_0 rfl <| okZLt (tl rfl) iX2_isTime_1 <| okIldn iX2_isTime_4 rfl <| okSi iX2_isTime_5 (by decide) <| okCGt (tl rfl) iX2_isTime_8 <| okIc iX2_isTime_11 <| okGoto (tl rfl) iX2_isTime_12)) (tNode (tLeaf (okIc iX2_isTime_15 <| okTo (tl rfl))) (tLeaf (okZret iX2_isTime_16 rfl)))) pc
-- X2_areSettings: heads []
def tX2_areSettings : Nat → Blk Unit := fun pc => bif Nat.blt pc 35 then (bif Nat.beq pc 0 then (oIld 0 <| oI 1 <| oCLt 35 <| oIld 0 <| oI 99 <| oCGt 35 <| oIld 1 <| oZLt 35 <| oIld 1 <| oI 99 <| oCGt 35 <| oIld 2 <| oZLt 35 <| oIld 2 <| oI 9 <| oCGt 35 <| oI 1 <| oTo 36) else oNo) else (bif Nat.blt pc 36 then (bif Nat.beq pc 35 then (oI 0 <| oTo 36) else oNo) else (bif Nat.beq pc 36 then (oZret) else oNo))
theorem tX2_areSettings_ok : ∀ pc, bOk (encU) (bdU) mX2_areSettings 0 0 pc (tX2_areSettings pc) := fun pc => (tNode (tLeaf (okIldn iX2_areSettings_0 rfl <| okIc iX2_areSettings_1 <| okCLt (tl rfl) iX2_areSettings_2 <| okIldn iX2_areSettings_5 rfl <| okBi iX2_areSettings_6 (by decide) <| okCGt (tl rfl) iX2_areSettings_8 <| okIldn iX2_areSettings_11 rfl <| okZLt (tl rfl) iX2_areSettings_12 <| okIldn iX2_areSettings_15 rfl <| okBi iX2_areSettings_16 (by decide) <| okCGt (tl rfl) iX2_areSettings_18 <| okIldn iX2_areSettings_21 rfl <| okZLt (tl rfl) iX2_areSettings_22 <| okIldn iX2_areSettings_25 rfl <| okBi iX2_areSettings_26 (by decide) <| okCGt (tl rfl) iX2_areSettings_28 <| okIc iX2_areSettings_31 <| okGoto (tl rfl) iX2_areSettings_32)) (tNode (tLeaf (okIc iX2_areSettings_35 <| okTo (tl rfl))) (tLeaf (okZret iX2_areSettings_36 rfl)))) pc
-- X2_isOfLatest: heads []
def tX2_isOfLatest : Nat → Blk Unit := fun pc => bif Nat.blt pc 20 then (bif Nat.beq pc 0 then (oIld 0 <| oZLt 20 <| oIld 0 <| oIld 1 <| oCGe 20 <| oIld 0 <| oIld 1 <| oIld 2 <| oSubW <| oCLt 20 <| oI 1 <| oTo 21) else oNo) else (bif Nat.blt pc 21 then (bif Nat.beq pc 20 then (oI 0 <| oTo 21) else oNo) else (bif Nat.beq pc 21 then (oZret) else oNo))
theorem tX2_isOfLatest_ok : ∀ pc, bOk (encU) (bdU) mX2_isOfLatest 0 0 pc (tX2_isOfLatest pc) := fun pc => (tNode (tLeaf (okIldn iX2_isOfLatest_0 rfl <| okZLt (tl rfl) iX2_isOfLatest_1 <| okIldn iX2_isOfLatest_4 rfl <| okIldn iX2_isOfLatest_5 rfl <| okCGe (tl rfl) iX2_isOfLatest_6 <| okIldn iX2_isOfLatest_9 rfl <| okIldn iX2_isOfLatest_10 rfl <| okIldn iX2_isOfLatest_11 rfl <| okSubW iX2_isOfLatest_12 <| okCLt (tl rfl) iX2_isOfLatest_13 <| okIc iX2_isOfLatest_16 <| okGoto (tl rfl) iX2_isOfLatest_17)) (tNode (tLeaf (okIc iX2_isOfLatest_20 <| okTo (tl rfl))) (tLeaf (okZret iX2_isOfLatest_21 rfl)))) pc
-- X2_drawAfter: heads []
def tX2_drawAfter : Nat → Blk Unit := fun pc => bif Nat.beq pc 0 then (oIld 0 <| oI 1103515245 <| oMulW <| oI 12345 <| oAddW <| oIret) else oNo
theorem tX2_drawAfter_ok : ∀ pc, bOk (encU) (bdU) mX2_drawAfter 0 0 pc (tX2_drawAfter pc) := fun pc => (tLeaf (okIldn iX2_drawAfter_0 rfl <| okLdcw (v := 1103515245) iX2_drawAfter_1 ((wc_t3 177 rfl rfl)) (by decide) <| okMulW iX2_drawAfter_4 <| okSi iX2_drawAfter_5 (by decide) <| okAddW iX2_drawAfter_8 <| okIret iX2_drawAfter_9 rfl)) pc
-- X2_drawOf: heads []
def tX2_drawOf : Nat → Blk Unit := fun pc => bif Nat.blt pc 13 then (bif Nat.beq pc 0 then (oIld 1 <| oZLe 13 <| oIld 0 <| oI 16 <| oUshr <| oIld 1 <| oRemT <| oTo 14) else oNo) else (bif Nat.blt pc 14 then (bif Nat.beq pc 13 then (oI 0 <| oTo 14) else oNo) else (bif Nat.beq pc 14 then (oIret) else oNo))
theorem tX2_drawOf_ok : ∀ pc, bOk (encU) (bdU) mX2_drawOf 0 0 pc (tX2_drawOf pc) := fun pc => (tNode (tLeaf (okIldn iX2_drawOf_0 rfl <| okZLe (tl rfl) iX2_drawOf_1 <| okIldn iX2_drawOf_4 rfl <| okBi iX2_drawOf_5 (by decide) <| okUshr iX2_drawOf_7 <| okIldn iX2_drawOf_8 rfl <| okRemT iX2_drawOf_9 <| okGoto (tl rfl) iX2_drawOf_10)) (tNode (tLeaf (okIc iX2_drawOf_13 <| okTo (tl rfl))) (tLeaf (okIret iX2_drawOf_14 rfl)))) pc
def sX2_isKey : Int → Unit → KU → Prop := fun k s K => xB k ∧ ((0 ≤ k ∧ k < 6) → K [pI 1] s) ∧ (¬ (0 ≤ k ∧ k < 6) → K [pI 0] s)
theorem mX2_isKey_ok : mOk encU bdU mX2_isKey (a1 sX2_isKey) := by
  refine mOSa1 kX2_isKey (fun _ => rfl) (fun k s K h hb => wx_J [] 9 tX2_isKey_ok rfl (fun J hR hJ => ?_))
  obtain ⟨h1, h2, h3⟩ := h
  repeat' (first | (refine And.intro ?_ ?_) | intro _)
  all_goals first | omega | exact hR _ _ (h2 (by omega)) | exact hR _ _ (h3 (by omega))
def sX2_isTime : Int → Unit → KU → Prop := fun t s K => xB t ∧ ((0 ≤ t ∧ t ≤ 9999) → K [pI 1] s) ∧ (¬ (0 ≤ t ∧ t ≤ 9999) → K [pI 0] s)
theorem mX2_isTime_ok : mOk encU bdU mX2_isTime (a1 sX2_isTime) := by
  refine mOSa1 kX2_isTime (fun _ => rfl) (fun k s K h hb => wx_J [] 9 tX2_isTime_ok rfl (fun J hR hJ => ?_))
  obtain ⟨h1, h2, h3⟩ := h
  repeat' (first | (refine And.intro ?_ ?_) | intro _)
  all_goals first | omega | exact hR _ _ (h2 (by omega)) | exact hR _ _ (h3 (by omega))
abbrev okSet (g l e : Int) : Prop := 1 ≤ g ∧ g ≤ 99 ∧ 0 ≤ l ∧ l ≤ 99 ∧ 0 ≤ e ∧ e ≤ 9
def sX2_areSettings : Int → Int → Int → Unit → KU → Prop := fun g l e s K => (xB g ∧ xB l ∧ xB e) ∧ (okSet g l e → K [pI 1] s) ∧ (¬ okSet g l e → K [pI 0] s)
theorem mX2_areSettings_ok : mOk encU bdU mX2_areSettings (a3 sX2_areSettings) := by
  refine mOSa3 kX2_areSettings (fun _ _ _ => rfl) (fun g l e s K h hb => wx_J [] 9 tX2_areSettings_ok rfl (fun J hR hJ => ?_))
  obtain ⟨h1, h2, h3⟩ := h
  repeat' (first | (refine And.intro ?_ ?_) | intro _)
  all_goals first | omega | exact hR _ _ (h2 (by omega)) | exact hR _ _ (h3 (by omega))
abbrev ofLatest (i z k : Int) : Prop := 0 ≤ i ∧ i < z ∧ wI (z - k) ≤ i
def sX2_isOfLatest : Int → Int → Int → Unit → KU → Prop := fun i z k s K => (xB i ∧ xB z ∧ xB k) ∧ (ofLatest i z k → K [pI 1] s) ∧ (¬ ofLatest i z k → K [pI 0] s)
theorem mX2_isOfLatest_ok : mOk encU bdU mX2_isOfLatest (a3 sX2_isOfLatest) := by
  refine mOSa3 kX2_isOfLatest (fun _ _ _ => rfl) (fun i z k s K h hb => wx_J [] 9 tX2_isOfLatest_ok rfl (fun J hR hJ => ?_))
  obtain ⟨h1, h2, h3⟩ := h
  repeat' (first | (refine And.intro ?_ ?_) | intro _)
  all_goals first | omega | exact hR _ _ (h2 (by omega)) | exact hR _ _ (h3 (by omega))
def dAfter (d : Int) : Int := wI (wI (d * 1103515245) + 12345)
def sX2_drawAfter : Int → Unit → KU → Prop := fun d s K => xB d ∧ (xB (dAfter d) → K [pI (dAfter d)] s)
theorem mX2_drawAfter_ok : mOk encU bdU mX2_drawAfter (a1 sX2_drawAfter) := by
  refine mOSa1 kX2_drawAfter (fun _ => rfl) (fun d s K h hb => wx_J [] 9 tX2_drawAfter_ok rfl (fun J hR hJ => ?_))
  obtain ⟨h1, h2⟩ := h
  have hK := h2 (wI_B _)
  repeat' (first | (refine And.intro ?_ ?_) | intro _)
  all_goals first | omega | exact hR _ _ hK
def ush (a b : Int) : Int := ((iI a).toUInt32 >>> ((iI b).toUInt32 &&& Int32.toUInt32 31)).toInt32.toInt
theorem ush_B (a b : Int) : xB (ush a b) := xb_of _
def dOf (d n : Int) : Int := if 0 < n then Int.tmod (ush d 16) n else 0
def sX2_drawOf : Int → Int → Unit → KU → Prop := fun d n s K => (xB d ∧ xB n) ∧ (xB (dOf d n) → K [pI (dOf d n)] s)
theorem dOf_B {d n : Int} (hn : xB n) : xB (dOf d n) := by
  unfold dOf
  split
  · next c => exact tmod_B (ush_B _ _) c hn.2
  · exact ⟨by omega, by omega⟩
theorem mX2_drawOf_ok : mOk encU bdU mX2_drawOf (a2 sX2_drawOf) := by
  refine mOSa2 kX2_drawOf (fun _ _ => rfl) (fun d n s K h hb => wx_J [] 9 tX2_drawOf_ok rfl (fun J hR hJ => ?_))
  obtain ⟨⟨h1, h3⟩, h2⟩ := h
  have hK := h2 (dOf_B h3)
  have hu := ush_B d 16
  unfold dOf at hK
  by_cases c : 0 < n
  · rw [if_pos c] at hK
    have hu1 : -2147483648 ≤ ((iI d).toUInt32 >>> ((iI 16).toUInt32 &&& Int32.toUInt32 31)).toInt32.toInt := hu.1
    have hu2 : ((iI d).toUInt32 >>> ((iI 16).toUInt32 &&& Int32.toUInt32 31)).toInt32.toInt ≤ 2147483647 := hu.2
    repeat' (first | (refine And.intro ?_ ?_) | intro _)
    all_goals first | omega | exact hR _ _ hK
  · rw [if_neg c] at hK
    repeat' (first | (refine And.intro ?_ ?_) | intro _)
    all_goals first | omega | exact hR _ _ hK
section USC
variable {σ : Type} {enc : σ → XH} {bd : σ → Prop} {M μ : XI} {rc rs pc pc2 n : Nat}
theorem cUn {f : Sp Unit} {g : Sp σ} (hm : mOk encU bdU μ f) (hv : xl_U μ) (d : xl_Cs M pc μ pc2) (hn : n = μ.2.2.2.2.2.2) (h : ∀ as s K, g as s K → f as () (fun v _ => K v s)) : cOk enc bd M rc rs pc pc2 n g :=
  cStat hm hv d hn (fun as s K _ hs => ⟨fun k => k, fun _ => (), fun s _ => s, as, vLk_no, (pid_rel as).symm, h as s K hs⟩)
def cL_X2_isKey : Sp LSt := a1 (fun x s K => sX2_isKey x () (fun v _ => K v s))
theorem qL_X2_isKey (d : xl_Cs M pc mX2_isKey pc2) : cOk encL bdL M rc rs pc pc2 1 cL_X2_isKey := cUn mX2_isKey_ok vX2_isKey d rfl (fun as s K h1 => by
  obtain ⟨x, rfl, h2⟩ := a1_inv h1
  exact h2)
def cL_X2_isTime : Sp LSt := a1 (fun x s K => sX2_isTime x () (fun v _ => K v s))
theorem qL_X2_isTime (d : xl_Cs M pc mX2_isTime pc2) : cOk encL bdL M rc rs pc pc2 1 cL_X2_isTime := cUn mX2_isTime_ok vX2_isTime d rfl (fun as s K h1 => by
  obtain ⟨x, rfl, h2⟩ := a1_inv h1
  exact h2)
def cL_X2_areSettings : Sp LSt := a3 (fun x y z s K => sX2_areSettings x y z () (fun v _ => K v s))
theorem qL_X2_areSettings (d : xl_Cs M pc mX2_areSettings pc2) : cOk encL bdL M rc rs pc pc2 3 cL_X2_areSettings := cUn mX2_areSettings_ok vX2_areSettings d rfl (fun as s K h1 => by
  obtain ⟨x, y, z, rfl, h2⟩ := a3_inv h1
  exact h2)
def cL_X2_isOfLatest : Sp LSt := a3 (fun x y z s K => sX2_isOfLatest x y z () (fun v _ => K v s))
theorem qL_X2_isOfLatest (d : xl_Cs M pc mX2_isOfLatest pc2) : cOk encL bdL M rc rs pc pc2 3 cL_X2_isOfLatest := cUn mX2_isOfLatest_ok vX2_isOfLatest d rfl (fun as s K h1 => by
  obtain ⟨x, y, z, rfl, h2⟩ := a3_inv h1
  exact h2)
def cL_X2_drawAfter : Sp LSt := a1 (fun x s K => sX2_drawAfter x () (fun v _ => K v s))
theorem qL_X2_drawAfter (d : xl_Cs M pc mX2_drawAfter pc2) : cOk encL bdL M rc rs pc pc2 1 cL_X2_drawAfter := cUn mX2_drawAfter_ok vX2_drawAfter d rfl (fun as s K h1 => by
  obtain ⟨x, rfl, h2⟩ := a1_inv h1
  exact h2)
def cL_X2_drawOf : Sp LSt := a2 (fun x y s K => sX2_drawOf x y () (fun v _ => K v s))
theorem qL_X2_drawOf (d : xl_Cs M pc mX2_drawOf pc2) : cOk encL bdL M rc rs pc pc2 2 cL_X2_drawOf := cUn mX2_drawOf_ok vX2_drawOf d rfl (fun as s K h1 => by
  obtain ⟨x, y, rfl, h2⟩ := a2_inv h1
  exact h2)
end USC
section TSH
variable {M : XI} {rc rs pc pc2 : Nat}
def cT_X0_get (rm w : Int) : Sp TS := atR 0 (a2 (fun i c s K => (xB i ∧ xB c) ∧ (xB (tg rm w s.2 i c) → K [pI (tg rm w s.2 i c)] s)))
theorem qT_X0_get (rm w : Int) (d : xl_Ca M pc mX0_get pc2) : cOk (encT rm w) (bdT rm w) M rc rs pc pc2 3 (cT_X0_get rm w) := by
  refine cMono (fun as s K hb h => ?_) (cSame (mX0_get_ok rm w) vX0_get d tcl rfl lenT recT)
  obtain ⟨as, rfl, h1⟩ := atR_inv h
  obtain ⟨i, c, rfl, h2, h3⟩ := a2_inv h1
  exact ⟨h2, h3 (tg_B hb.2.2)⟩
end TSH
-- X2_shifted: heads []
def tX2_shifted (rm w : Int) : Nat → Blk TS := fun pc => bif Nat.blt pc 30 then (bif Nat.blt pc 18 then (bif Nat.beq pc 0 then (oAld 0 <| oIld 1 <| oIld 2 <| oC3 (cT_X0_get rm w) <| oIst 3 <| oIld 2 <| oI 4 <| oCNe 18 <| oIld 3 <| oI 20000 <| oAddW <| oIret) else oNo) else (bif Nat.beq pc 18 then (oIld 2 <| oI 5 <| oCNe 30 <| oIld 3 <| oI 99 <| oAddW <| oTo 31) else oNo)) else (bif Nat.blt pc 31 then (bif Nat.beq pc 30 then (oIld 3 <| oTo 31) else oNo) else (bif Nat.beq pc 31 then (oIret) else oNo))
theorem tX2_shifted_ok (rm w : Int) : ∀ pc, bOk (encT rm w) (bdT rm w) mX2_shifted 0 0 pc (tX2_shifted rm w pc) := fun pc => (tNode (tNode (tLeaf (okAldn iX2_shifted_0 rfl <| okIldn iX2_shifted_1 rfl <| okIldn iX2_shifted_2 rfl <| okC3 (qT_X0_get rm w iX2_shifted_3) <| okIstn iX2_shifted_6 rfl (by decide) <| okIldn iX2_shifted_7 rfl <| okIc iX2_shifted_8 <| okCNe (tl rfl) iX2_shifted_9 <| okIldn iX2_shifted_12 rfl <| okSi iX2_shifted_13 (by decide) <| okAddW iX2_shifted_16 <| okIret iX2_shifted_17 rfl)) (tLeaf (okIldn iX2_shifted_18 rfl <| okIc iX2_shifted_19 <| okCNe (tl rfl) iX2_shifted_20 <| okIldn iX2_shifted_23 rfl <| okBi iX2_shifted_24 (by decide) <| okAddW iX2_shifted_26 <| okGoto (tl rfl) iX2_shifted_27))) (tNode (tLeaf (okIldn iX2_shifted_30 rfl <| okTo (tl rfl))) (tLeaf (okIret iX2_shifted_31 rfl)))) pc
def shift7 (x c : Int) : Int := if c = 4 then wI (x + 20000) else if c = 5 then wI (x + 99) else x
def sX2_shifted (rm w : Int) : List PV → TS → KT → Prop := fun as s K => match as with
  | [.inr (.inr (.inl 0)), .inl i, .inl c] => (xB i ∧ xB c) ∧ K [pI (shift7 (tg rm w s.2 i c) c)] s
  | _ => False
theorem mX2_shifted_ok (rm w : Int) : mOk (encT rm w) (bdT rm w) mX2_shifted (sX2_shifted rm w) := by
  refine mOk_of kX2_shifted (fun as s K h => ?_)
  unfold sX2_shifted at h
  split at h
  · next i c =>
    refine ⟨rfl, fun hb => wx_J [] 9 (tX2_shifted_ok rm w) rfl (fun J hR hJ => ?_)⟩
    obtain ⟨⟨h1, h2⟩, hK⟩ := h
    unfold shift7 at hK
    by_cases c1 : c = 4
    · rw [if_pos c1] at hK
      repeat' (first | (refine And.intro ?_ ?_) | intro _)
      all_goals first | omega | exact hR _ _ hK
    · by_cases c2 : c = 5
      · rw [if_neg c1, if_pos c2] at hK
        repeat' (first | (refine And.intro ?_ ?_) | intro _)
        all_goals first | omega | exact hR _ _ hK
      · rw [if_neg c1, if_neg c2] at hK
        repeat' (first | (refine And.intro ?_ ?_) | intro _)
        all_goals first | omega | exact hR _ _ hK
  · exact h.elim
def cL_X2_shifted : Sp LSt := fun as s K => match as with
  | [.inr (.inr (.inl r)), .inl i, .inl c] => match tixL r with
    | some (q, t) => (xB i ∧ xB c) ∧ K [pI (shift7 (wG (s.2.2 q) t i c) c)] s
    | none => False
  | _ => False
theorem qL_sh {r q t : Nat} {i c : Int} (ht : tixL r = some (q, t)) {M : XI} {rc rs pc pc2 : Nat} (d : xl_Cs M pc mX2_shifted pc2) : cOk encL bdL M rc rs pc pc2 3 (fun as s K => as = [pR r, pI i, pI c] ∧ (xB i ∧ xB c) ∧ K [pI (shift7 (wG (s.2.2 q) t i c) c)] s) := by
  refine cStat (mX2_shifted_ok (rmT t) (wdT t)) vX2_shifted d rfl (fun as2 s2 K2 hb2 h2 => ?_)
  obtain ⟨e1, h3, h4⟩ := h2
  have h5 : K2 [pI (shift7 (wG (s2.2.2 q) t i c) c)] (setW s2 q (setT (s2.2.2 q) t ((s2.2.2 q).2 t))) := by
    rw [setT_self, setW_self]
    exact h4
  exact ⟨_, _, _, [pR 0, pI i, pI c], (lkLT ht).1, e1, h3, h5⟩
theorem qL_X2_shifted {M : XI} {rc rs pc pc2 : Nat} (d : xl_Cs M pc mX2_shifted pc2) : cOk encL bdL M rc rs pc pc2 3 cL_X2_shifted := by
  intro as L st s K Q hl hw hb hs hk
  unfold cL_X2_shifted at hs
  split at hs
  · next r i c =>
    split at hs
    · next q t ht => exact qL_sh ht d _ L st s K Q hl hw hb ⟨rfl, hs⟩ hk
    · exact hs.elim
  · exact hs.elim
end
-- 40.Ls
section
/-! ===== LateSessions: small methods ===== -/
section NEGW
variable {σ : Type} {enc : σ → XH} {bd : σ → Prop} {M : XI} {rc rs pc pc2 : Nat} {B : Blk σ}
def oNegW (B : Blk σ) : Blk σ := fun J L st s => match st with
  | .inl a :: st => xB (wI (-a)) → B J L (.inl (wI (-a)) :: st) s
  | _ => False
theorem okNegW (d : xl_D M pc .ineg 1 pc2) (k : bOk enc bd M rc rs pc2 B) : bOk enc bd M rc rs pc (oNegW B) := by
  intro Po Pt J hJ L st s hb h
  unfold oNegW at h
  split at h
  · next a st => 
    have := k Po Pt J hJ _ _ _ hb (h (wI_B _))
    rw [List.map_cons, pV_wI] at this
    exact xz_ineg d this
  · exact h.elim
end NEGW
-- X2_isSource: heads []
def tX2_isSource : Nat → Blk LSt := fun pc => bif Nat.blt pc 22 then (bif Nat.beq pc 0 then (oIld 1 <| oZLt 22 <| oIld 1 <| oAld 0 <| oGet (fgL) 2 0 <| oGet (fgL) 1 10 <| oGet (fgL) 0 3 <| oCGe 22 <| oI 1 <| oTo 23) else oNo) else (bif Nat.blt pc 23 then (bif Nat.beq pc 22 then (oI 0 <| oTo 23) else oNo) else (bif Nat.beq pc 23 then (oZret) else oNo))
theorem tX2_isSource_ok : ∀ pc, bOk (encL) (bdL) mX2_isSource 0 0 pc (tX2_isSource pc) := fun pc => (tNode (tLeaf (okIldn iX2_isSource_0 rfl <| okZLt (tl rfl) iX2_isSource_1 <| okIldn iX2_isSource_4 rfl <| okAldn iX2_isSource_5 rfl <| okGet (vFgL) iX2_isSource_6 <| okGet (vFgL) iX2_isSource_9 <| okGet (vFgL) iX2_isSource_12 <| okCGe (tl rfl) iX2_isSource_15 <| okIc iX2_isSource_18 <| okGoto (tl rfl) iX2_isSource_19)) (tNode (tLeaf (okIc iX2_isSource_22 <| okTo (tl rfl))) (tLeaf (okZret iX2_isSource_23 rfl)))) pc
-- X2_inputRefusal: heads []
def tX2_inputRefusal : Nat → Blk LSt := fun pc => bif Nat.blt pc 21 then (bif Nat.beq pc 0 then (oAld 0 <| oGet (fgL) 2 0 <| oGet (fgL) 1 14 <| oGet (fgL) 0 3 <| oI 160 <| oCLt 21 <| oI (-3) <| oTo 22) else oNo) else (bif Nat.blt pc 22 then (bif Nat.beq pc 21 then (oI 0 <| oTo 22) else oNo) else (bif Nat.beq pc 22 then (oIret) else oNo))
theorem tX2_inputRefusal_ok : ∀ pc, bOk (encL) (bdL) mX2_inputRefusal 0 0 pc (tX2_inputRefusal pc) := fun pc => (tNode (tLeaf (okAldn iX2_inputRefusal_0 rfl <| okGet (vFgL) iX2_inputRefusal_1 <| okGet (vFgL) iX2_inputRefusal_4 <| okGet (vFgL) iX2_inputRefusal_7 <| okSi iX2_inputRefusal_10 (by decide) <| okCLt (tl rfl) iX2_inputRefusal_13 <| okBi iX2_inputRefusal_16 (by decide) <| okGoto (tl rfl) iX2_inputRefusal_18)) (tNode (tLeaf (okIc iX2_inputRefusal_21 <| okTo (tl rfl))) (tLeaf (okIret iX2_inputRefusal_22 rfl)))) pc
-- X2_tellNothing: heads []
def tX2_tellNothing : Nat → Blk LSt := fun pc => bif Nat.beq pc 0 then (oAld 0 <| oI 0 <| oPut (fpL) 2 8 <| oVret) else oNo
theorem tX2_tellNothing_ok : ∀ pc, bOk (encL) (bdL) mX2_tellNothing 0 0 pc (tX2_tellNothing pc) := fun pc => (tLeaf (okAldn iX2_tellNothing_0 rfl <| okIc iX2_tellNothing_1 <| okPut (vFpL) iX2_tellNothing_2 <| okVret iX2_tellNothing_5 rfl)) pc
-- X2_tellMore: heads []
def tX2_tellMore : Nat → Blk LSt := fun pc => bif Nat.blt pc 32 then (bif Nat.beq pc 0 then (oAld 0 <| oGet (fgL) 2 8 <| oAld 0 <| oGet (fgL) 2 7 <| oLen (agL) <| oCGe 32 <| oAld 0 <| oGet (fgL) 2 7 <| oAld 0 <| oGet (fgL) 2 8 <| oLld 1 <| oLas (agL) (apL) <| oAld 0 <| oDup <| oGet (fgL) 2 8 <| oI 1 <| oAdd <| oPut (fpL) 2 8 <| oTo 32) else oNo) else (bif Nat.beq pc 32 then (oVret) else oNo)
theorem tX2_tellMore_ok : ∀ pc, bOk (encL) (bdL) mX2_tellMore 0 0 pc (tX2_tellMore pc) := fun pc => (tNode (tLeaf (okAldn iX2_tellMore_0 rfl <| okGet (vFgL) iX2_tellMore_1 <| okAldn iX2_tellMore_4 rfl <| okGet (vFgL) iX2_tellMore_5 <| okLen (vAgL) iX2_tellMore_8 <| okCGe (tl rfl) iX2_tellMore_9 <| okAldn iX2_tellMore_12 rfl <| okGet (vFgL) iX2_tellMore_13 <| okAldn iX2_tellMore_16 rfl <| okGet (vFgL) iX2_tellMore_17 <| okLldn iX2_tellMore_20 rfl <| okLas (vAgL) iX2_tellMore_21 <| okAldn iX2_tellMore_22 rfl <| okDup iX2_tellMore_23 <| okGet (vFgL) iX2_tellMore_24 <| okIc iX2_tellMore_27 <| okAdd iX2_tellMore_28 <| okPut (vFpL) iX2_tellMore_29 <| okTo (tl rfl))) (tLeaf (okVret iX2_tellMore_32 rfl))) pc
-- X2_putSign: heads []
def tX2_putSign : Nat → Blk LSt := fun pc => bif Nat.blt pc 32 then (bif Nat.beq pc 0 then (oAld 0 <| oGet (fgL) 2 10 <| oAld 0 <| oGet (fgL) 2 9 <| oLen (agL) <| oCGe 32 <| oAld 0 <| oGet (fgL) 2 9 <| oAld 0 <| oGet (fgL) 2 10 <| oIld 1 <| oIas (agL) (apL) <| oAld 0 <| oDup <| oGet (fgL) 2 10 <| oI 1 <| oAdd <| oPut (fpL) 2 10 <| oTo 32) else oNo) else (bif Nat.beq pc 32 then (oVret) else oNo)
theorem tX2_putSign_ok : ∀ pc, bOk (encL) (bdL) mX2_putSign 0 0 pc (tX2_putSign pc) := fun pc => (tNode (tLeaf (okAldn iX2_putSign_0 rfl <| okGet (vFgL) iX2_putSign_1 <| okAldn iX2_putSign_4 rfl <| okGet (vFgL) iX2_putSign_5 <| okLen (vAgL) iX2_putSign_8 <| okCGe (tl rfl) iX2_putSign_9 <| okAldn iX2_putSign_12 rfl <| okGet (vFgL) iX2_putSign_13 <| okAldn iX2_putSign_16 rfl <| okGet (vFgL) iX2_putSign_17 <| okIldn iX2_putSign_20 rfl <| okIas (vAgL) iX2_putSign_21 <| okAldn iX2_putSign_22 rfl <| okDup iX2_putSign_23 <| okGet (vFgL) iX2_putSign_24 <| okIc iX2_putSign_27 <| okAdd iX2_putSign_28 <| okPut (vFpL) iX2_putSign_29 <| okTo (tl rfl))) (tLeaf (okVret iX2_putSign_32 rfl))) pc
-- X2_takeText: heads []
def tX2_takeText : Nat → Blk LSt := fun pc => bif Nat.beq pc 0 then (oAld 0 <| oGet (fgL) 2 10 <| oIst 1 <| oAld 0 <| oI 0 <| oPut (fpL) 2 10 <| oIld 1 <| oIret) else oNo
theorem tX2_takeText_ok : ∀ pc, bOk (encL) (bdL) mX2_takeText 0 0 pc (tX2_takeText pc) := fun pc => (tLeaf (okAldn iX2_takeText_0 rfl <| okGet (vFgL) iX2_takeText_1 <| okIstn iX2_takeText_4 rfl (by decide) <| okAldn iX2_takeText_5 rfl <| okIc iX2_takeText_6 <| okPut (vFpL) iX2_takeText_7 <| okIldn iX2_takeText_10 rfl <| okIret iX2_takeText_11 rfl)) pc
-- X2_signAt: heads []
def tX2_signAt : Nat → Blk LSt := fun pc => bif Nat.blt pc 22 then (bif Nat.beq pc 0 then (oIld 1 <| oZLt 22 <| oIld 1 <| oAld 0 <| oGet (fgL) 2 9 <| oLen (agL) <| oCGe 22 <| oAld 0 <| oGet (fgL) 2 9 <| oIld 1 <| oIa (agL) <| oTo 23) else oNo) else (bif Nat.blt pc 23 then (bif Nat.beq pc 22 then (oI (-1) <| oTo 23) else oNo) else (bif Nat.beq pc 23 then (oIret) else oNo))
theorem tX2_signAt_ok : ∀ pc, bOk (encL) (bdL) mX2_signAt 0 0 pc (tX2_signAt pc) := fun pc => (tNode (tLeaf (okIldn iX2_signAt_0 rfl <| okZLt (tl rfl) iX2_signAt_1 <| okIldn iX2_signAt_4 rfl <| okAldn iX2_signAt_5 rfl <| okGet (vFgL) iX2_signAt_6 <| okLen (vAgL) iX2_signAt_9 <| okCGe (tl rfl) iX2_signAt_10 <| okAldn iX2_signAt_13 rfl <| okGet (vFgL) iX2_signAt_14 <| okIldn iX2_signAt_17 rfl <| okIa (vAgL) iX2_signAt_18 <| okGoto (tl rfl) iX2_signAt_19)) (tNode (tLeaf (okIc iX2_signAt_22 <| okTo (tl rfl))) (tLeaf (okIret iX2_signAt_23 rfl)))) pc
-- X2_sortedCell: heads []
def tX2_sortedCell : Nat → Blk LSt := fun pc => bif Nat.blt pc 33 then (bif Nat.beq pc 0 then (oIld 1 <| oZLt 33 <| oIld 1 <| oAld 0 <| oGet (fgL) 2 11 <| oLen (agL) <| oCGe 33 <| oAld 0 <| oGet (fgL) 2 0 <| oGet (fgL) 1 14 <| oAld 0 <| oGet (fgL) 2 11 <| oIld 1 <| oIa (agL) <| oIld 2 <| oC3 (cL_X0_get) <| oTo 34) else oNo) else (bif Nat.blt pc 34 then (bif Nat.beq pc 33 then (oI 0 <| oTo 34) else oNo) else (bif Nat.beq pc 34 then (oIret) else oNo))
theorem tX2_sortedCell_ok : ∀ pc, bOk (encL) (bdL) mX2_sortedCell 0 0 pc (tX2_sortedCell pc) := fun pc => (tNode (tLeaf (okIldn iX2_sortedCell_0 rfl <| okZLt (tl rfl) iX2_sortedCell_1 <| okIldn iX2_sortedCell_4 rfl <| okAldn iX2_sortedCell_5 rfl <| okGet (vFgL) iX2_sortedCell_6 <| okLen (vAgL) iX2_sortedCell_9 <| okCGe (tl rfl) iX2_sortedCell_10 <| okAldn iX2_sortedCell_13 rfl <| okGet (vFgL) iX2_sortedCell_14 <| okGet (vFgL) iX2_sortedCell_17 <| okAldn iX2_sortedCell_20 rfl <| okGet (vFgL) iX2_sortedCell_21 <| okIldn iX2_sortedCell_24 rfl <| okIa (vAgL) iX2_sortedCell_25 <| okIldn iX2_sortedCell_26 rfl <| okC3 (qL_X0_get iX2_sortedCell_27) <| okGoto (tl rfl) iX2_sortedCell_30)) (tNode (tLeaf (okIc iX2_sortedCell_33 <| okTo (tl rfl))) (tLeaf (okIret iX2_sortedCell_34 rfl)))) pc
abbrev lSrc (s : LSt) (r : Int) : Prop := 0 ≤ r ∧ r < wZ (s.2.2 0) 0
def sX2_isSource : Int → LSt → KL → Prop := fun r s K => xB r ∧ (lSrc s r → K [pI 1] s) ∧ (¬ lSrc s r → K [pI 0] s)
theorem mX2_isSource_ok : mOk encL bdL mX2_isSource (atR 0 (a1 sX2_isSource)) := by
  refine mOVa1 kX2_isSource (fun _ => rfl) (fun r s K h hb => wx_J [] 9 tX2_isSource_ok rfl (fun J hR hJ => ?_))
  obtain ⟨h1, h2, h3⟩ := h
  have hz : xB (wZ (s.2.2 0) 0) := ((hb.2.2 0).2 0).1
  refine ⟨h1, fun c => ?_, fun c _ => ⟨⟨h1, hz⟩, fun c2 => ?_, fun c2 => ?_⟩⟩
  · exact ⟨Or.inl rfl, hR _ _ (h3 (fun q => by omega))⟩
  · have c2 : wZ (s.2.2 0) 0 ≤ r := c2
    exact ⟨Or.inl rfl, hR _ _ (h3 (fun q => by omega))⟩
  · have c2 : r < wZ (s.2.2 0) 0 := c2
    exact ⟨Or.inr rfl, hR _ _ (h2 ⟨c, c2⟩)⟩
def cL_X2_isSource : Sp LSt := atR 0 (a1 sX2_isSource)
theorem qL_X2_isSource {M : XI} {rc rs pc pc2 : Nat} (d : xl_Ca M pc mX2_isSource pc2) : cOk encL bdL M rc rs pc pc2 2 cL_X2_isSource := cSame mX2_isSource_ok vX2_isSource d lcl rfl lenL recL
def lIn (s : LSt) : Int := if 160 ≤ wZ (s.2.2 0) 4 then -3 else 0
def sX2_inputRefusal : LSt → KL → Prop := fun s K => K [pI (lIn s)] s
theorem mX2_inputRefusal_ok : mOk encL bdL mX2_inputRefusal (atR 0 (a0 sX2_inputRefusal)) := by
  refine mOVa0 kX2_inputRefusal (fun _ => rfl) (fun s K h hb => wx_J [] 9 tX2_inputRefusal_ok rfl (fun J hR hJ => ?_))
  have hz : xB (wZ (s.2.2 0) 4) := ((hb.2.2 0).2 4).1
  have hK : K [pI (lIn s)] s := h
  unfold lIn at hK
  refine fun _ => ⟨⟨hz, ⟨by omega, by omega⟩⟩, fun c => ?_, fun c => ?_⟩
  · have c : wZ (s.2.2 0) 4 < 160 := c
    rw [if_neg (by omega)] at hK
    exact hR _ _ hK
  · have c : 160 ≤ wZ (s.2.2 0) 4 := c
    rw [if_pos c] at hK
    exact hR _ _ hK
def cL_X2_inputRefusal : Sp LSt := atR 0 (a0 sX2_inputRefusal)
theorem qL_X2_inputRefusal {M : XI} {rc rs pc pc2 : Nat} (d : xl_Ca M pc mX2_inputRefusal pc2) : cOk encL bdL M rc rs pc pc2 1 cL_X2_inputRefusal := cSame mX2_inputRefusal_ok vX2_inputRefusal d lcl rfl lenL recL
def sX2_tellNothing : LSt → KL → Prop := fun s K => K [] (setS s 3 0)
theorem mX2_tellNothing_ok : mOk encL bdL mX2_tellNothing (atR 0 (a0 sX2_tellNothing)) := by
  refine mOVa0 kX2_tellNothing (fun _ => rfl) (fun s K h hb => wx_J [] 9 tX2_tellNothing_ok rfl (fun J hR hJ => ?_))
  exact ⟨⟨by omega, by omega⟩, hR _ _ h⟩
def cL_X2_tellNothing : Sp LSt := atR 0 (a0 sX2_tellNothing)
theorem qL_X2_tellNothing {M : XI} {rc rs pc pc2 : Nat} (d : xl_Ca M pc mX2_tellNothing pc2) : cOk encL bdL M rc rs pc pc2 1 cL_X2_tellNothing := cSame mX2_tellNothing_ok vX2_tellNothing d lcl rfl lenL recL
def lTell (s : LSt) (x : Int) : LSt := if s.1 3 < 6 then setS (setA s 0 (xup (s.2.1 0) (s.1 3).toNat x)) 3 (s.1 3 + 1) else s
def sX2_tellMore : Int → LSt → KL → Prop := fun x s K => (xB x ∧ 0 ≤ s.1 3) ∧ K [] (lTell s x)
theorem mX2_tellMore_ok : mOk encL bdL mX2_tellMore (atR 0 (j1 sX2_tellMore)) := by
  refine mOVj1 kX2_tellMore (fun _ => rfl) (fun x s K h hb => wx_J [] 9 tX2_tellMore_ok rfl (fun J hR hJ => ?_))
  obtain ⟨⟨h1, h2⟩, hK⟩ := h
  unfold lTell at hK
  by_cases c : s.1 3 < 6
  · rw [if_pos c] at hK
    repeat' (first | (refine And.intro ?_ ?_) | intro _)
    all_goals first | omega | exact hR _ _ hK | (show (-2147483648 : Int) ≤ s.1 3 + 1; omega) | (show s.1 3 + 1 ≤ (2147483647 : Int); omega)
  · rw [if_neg c] at hK
    repeat' (first | (refine And.intro ?_ ?_) | intro _)
    all_goals first | omega | exact hR _ _ hK
def cL_X2_tellMore : Sp LSt := atR 0 (j1 sX2_tellMore)
theorem qL_X2_tellMore {M : XI} {rc rs pc pc2 : Nat} (d : xl_Ca M pc mX2_tellMore pc2) : cOk encL bdL M rc rs pc pc2 2 cL_X2_tellMore := cSame mX2_tellMore_ok vX2_tellMore d lcl rfl lenL recL
def lPutS (s : LSt) (c : Int) : LSt := if s.1 4 < 80 then setS (setA s 1 (xup (s.2.1 1) (s.1 4).toNat c)) 4 (s.1 4 + 1) else s
def sX2_putSign : Int → LSt → KL → Prop := fun x s K => (xB x ∧ 0 ≤ s.1 4) ∧ K [] (lPutS s x)
theorem mX2_putSign_ok : mOk encL bdL mX2_putSign (atR 0 (a1 sX2_putSign)) := by
  refine mOVa1 kX2_putSign (fun _ => rfl) (fun x s K h hb => wx_J [] 9 tX2_putSign_ok rfl (fun J hR hJ => ?_))
  obtain ⟨⟨h1, h2⟩, hK⟩ := h
  unfold lPutS at hK
  by_cases c : s.1 4 < 80
  · rw [if_pos c] at hK
    repeat' (first | (refine And.intro ?_ ?_) | intro _)
    all_goals first | omega | exact hR _ _ hK | (show (-2147483648 : Int) ≤ s.1 4 + 1; omega) | (show s.1 4 + 1 ≤ (2147483647 : Int); omega)
  · rw [if_neg c] at hK
    repeat' (first | (refine And.intro ?_ ?_) | intro _)
    all_goals first | omega | exact hR _ _ hK
def cL_X2_putSign : Sp LSt := atR 0 (a1 sX2_putSign)
theorem qL_X2_putSign {M : XI} {rc rs pc pc2 : Nat} (d : xl_Ca M pc mX2_putSign pc2) : cOk encL bdL M rc rs pc pc2 2 cL_X2_putSign := cSame mX2_putSign_ok vX2_putSign d lcl rfl lenL recL
def sX2_takeText : LSt → KL → Prop := fun s K => xB (s.1 4) → K [pI (s.1 4)] (setS s 4 0)
theorem mX2_takeText_ok : mOk encL bdL mX2_takeText (atR 0 (a0 sX2_takeText)) := by
  refine mOVa0 kX2_takeText (fun _ => rfl) (fun s K h hb => wx_J [] 9 tX2_takeText_ok rfl (fun J hR hJ => ?_))
  have hK := h (hb.1 4)
  repeat' (first | (refine And.intro ?_ ?_) | intro _)
  all_goals first | omega | exact hR _ _ hK
def cL_X2_takeText : Sp LSt := atR 0 (a0 sX2_takeText)
theorem qL_X2_takeText {M : XI} {rc rs pc pc2 : Nat} (d : xl_Ca M pc mX2_takeText pc2) : cOk encL bdL M rc rs pc pc2 1 cL_X2_takeText := cSame mX2_takeText_ok vX2_takeText d lcl rfl lenL recL
def lSign (s : LSt) (i : Int) : Int := if 0 ≤ i ∧ i < 80 then s.2.1 1 i.toNat else -1
theorem lSign_B {s : LSt} {i : Int} (hb : bdL s) : xB (lSign s i) := by
  unfold lSign
  split
  · exact hb.2.1 1 _
  · exact ⟨by omega, by omega⟩
def sX2_signAt : Int → LSt → KL → Prop := fun i s K => xB i ∧ (xB (lSign s i) → K [pI (lSign s i)] s)
theorem mX2_signAt_ok : mOk encL bdL mX2_signAt (atR 0 (a1 sX2_signAt)) := by
  refine mOVa1 kX2_signAt (fun _ => rfl) (fun i s K h hb => wx_J [] 9 tX2_signAt_ok rfl (fun J hR hJ => ?_))
  obtain ⟨h1, h2⟩ := h
  have hK := h2 (lSign_B hb)
  unfold lSign at hK
  by_cases c : 0 ≤ i ∧ i < 80
  · rw [if_pos c] at hK
    repeat' (first | (refine And.intro ?_ ?_) | intro _)
    all_goals first | omega | exact hR _ _ hK
  · rw [if_neg c] at hK
    repeat' (first | (refine And.intro ?_ ?_) | intro _)
    all_goals first | omega | exact hR _ _ hK
def cL_X2_signAt : Sp LSt := atR 0 (a1 sX2_signAt)
theorem qL_X2_signAt {M : XI} {rc rs pc pc2 : Nat} (d : xl_Ca M pc mX2_signAt pc2) : cOk encL bdL M rc rs pc pc2 2 cL_X2_signAt := cSame mX2_signAt_ok vX2_signAt d lcl rfl lenL recL
def lCell (s : LSt) (k c : Int) : Int := if 0 ≤ k ∧ k < 160 then wG (s.2.2 0) 4 (s.2.1 2 k.toNat) c else 0
theorem lCell_B {s : LSt} {k c : Int} (hb : bdL s) : xB (lCell s k c) := by
  unfold lCell
  split
  · exact wG_B (hb.2.2 0)
  · exact ⟨by omega, by omega⟩
def sX2_sortedCell : Int → Int → LSt → KL → Prop := fun k c s K => (xB k ∧ xB c) ∧ (xB (lCell s k c) → K [pI (lCell s k c)] s)
theorem mX2_sortedCell_ok : mOk encL bdL mX2_sortedCell (atR 0 (a2 sX2_sortedCell)) := by
  refine mOVa2 kX2_sortedCell (fun _ _ => rfl) (fun k c s K h hb => wx_J [] 9 tX2_sortedCell_ok rfl (fun J hR hJ => ?_))
  obtain ⟨⟨h1, h3⟩, h2⟩ := h
  have hK := h2 (lCell_B hb)
  unfold lCell at hK
  by_cases q : 0 ≤ k ∧ k < 160
  · rw [if_pos q] at hK
    repeat' (first | (refine And.intro ?_ ?_) | intro _)
    all_goals first | omega | exact hR _ _ hK
  · rw [if_neg q] at hK
    repeat' (first | (refine And.intro ?_ ?_) | intro _)
    all_goals first | omega | exact hR _ _ hK
def cL_X2_sortedCell : Sp LSt := atR 0 (a2 sX2_sortedCell)
theorem qL_X2_sortedCell {M : XI} {rc rs pc pc2 : Nat} (d : xl_Ca M pc mX2_sortedCell pc2) : cOk encL bdL M rc rs pc pc2 3 cL_X2_sortedCell := cSame mX2_sortedCell_ok vX2_sortedCell d lcl rfl lenL recL
-- X2_holeBehind: heads []
def tX2_holeBehind : Nat → Blk LSt := fun pc => bif Nat.beq pc 0 then (oAld 0 <| oIld 1 <| oI 1 <| oAddW <| oI 2 <| oC3 (cL_X2_sortedCell) <| oAld 0 <| oIld 1 <| oI 2 <| oC3 (cL_X2_sortedCell) <| oSubW <| oIret) else oNo
theorem tX2_holeBehind_ok : ∀ pc, bOk (encL) (bdL) mX2_holeBehind 0 0 pc (tX2_holeBehind pc) := fun pc => (tLeaf (okAldn iX2_holeBehind_0 rfl <| okIldn iX2_holeBehind_1 rfl <| okIc iX2_holeBehind_2 <| okAddW iX2_holeBehind_3 <| okIc iX2_holeBehind_4 <| okC3 (qL_X2_sortedCell iX2_holeBehind_5) <| okAldn iX2_holeBehind_8 rfl <| okIldn iX2_holeBehind_9 rfl <| okIc iX2_holeBehind_10 <| okC3 (qL_X2_sortedCell iX2_holeBehind_11) <| okSubW iX2_holeBehind_14 <| okIret iX2_holeBehind_15 rfl)) pc
-- X2_isEvent: heads []
def tX2_isEvent : Nat → Blk LSt := fun pc => bif Nat.blt pc 39 then (bif Nat.beq pc 0 then (oIld 1 <| oC1 (cL_X2_isKey) <| oZEq 39 <| oIld 2 <| oC1 (cL_X2_isTime) <| oZEq 39 <| oIld 3 <| oI (-99) <| oCLt 39 <| oIld 3 <| oI 99 <| oCGt 39 <| oAld 0 <| oIld 4 <| oC2 (cL_X2_isSource) <| oZEq 39 <| oI 1 <| oTo 40) else oNo) else (bif Nat.blt pc 40 then (bif Nat.beq pc 39 then (oI 0 <| oTo 40) else oNo) else (bif Nat.beq pc 40 then (oZret) else oNo))
theorem tX2_isEvent_ok : ∀ pc, bOk (encL) (bdL) mX2_isEvent 0 0 pc (tX2_isEvent pc) := fun pc => (tNode (tLeaf (okIldn iX2_isEvent_0 rfl <| okC1 (qL_X2_isKey iX2_isEvent_1) <| okZEq (tl rfl) iX2_isEvent_4 <| okIldn iX2_isEvent_7 rfl <| okC1 (qL_X2_isTime iX2_isEvent_8) <| okZEq (tl rfl) iX2_isEvent_11 <| okIldn iX2_isEvent_14 rfl <| okBi iX2_isEvent_15 (by decide) <| okCLt (tl rfl) iX2_isEvent_17 <| okIldn iX2_isEvent_20 rfl <| okBi iX2_isEvent_21 (by decide) <| okCGt (tl rfl) iX2_isEvent_23 <| okAldn iX2_isEvent_26 rfl <| okIld iX2_isEvent_27 <| okC2 (qL_X2_isSource iX2_isEvent_29) <| okZEq (tl rfl) iX2_isEvent_32 <| okIc iX2_isEvent_35 <| okGoto (tl rfl) iX2_isEvent_36)) (tNode (tLeaf (okIc iX2_isEvent_39 <| okTo (tl rfl))) (tLeaf (okZret iX2_isEvent_40 rfl)))) pc
-- X2_tellOne: heads []
def tX2_tellOne : Nat → Blk LSt := fun pc => bif Nat.beq pc 0 then (oAld 0 <| oC1 (cL_X2_tellNothing) <| oAld 0 <| oLld 1 <| oC2 (cL_X2_tellMore) <| oVret) else oNo
theorem tX2_tellOne_ok : ∀ pc, bOk (encL) (bdL) mX2_tellOne 0 0 pc (tX2_tellOne pc) := fun pc => (tLeaf (okAldn iX2_tellOne_0 rfl <| okC1 (qL_X2_tellNothing iX2_tellOne_1) <| okAldn iX2_tellOne_4 rfl <| okLldn iX2_tellOne_5 rfl <| okC2 (qL_X2_tellMore iX2_tellOne_6) <| okVret iX2_tellOne_9 rfl)) pc
def lHole (s : LSt) (k : Int) : Int := wI (lCell s (wI (k + 1)) 2 - lCell s k 2)
def sX2_holeBehind : Int → LSt → KL → Prop := fun k s K => xB k ∧ (xB (lHole s k) → K [pI (lHole s k)] s)
theorem mX2_holeBehind_ok : mOk encL bdL mX2_holeBehind (atR 0 (a1 sX2_holeBehind)) := by
  refine mOVa1 kX2_holeBehind (fun _ => rfl) (fun k s K h hb => wx_J [] 9 tX2_holeBehind_ok rfl (fun J hR hJ => ?_))
  obtain ⟨h1, h2⟩ := h
  have hK := h2 (wI_B _)
  repeat' (first | (refine And.intro ?_ ?_) | intro _)
  all_goals first | omega | exact hR _ _ hK
def cL_X2_holeBehind : Sp LSt := atR 0 (a1 sX2_holeBehind)
theorem qL_X2_holeBehind {M : XI} {rc rs pc pc2 : Nat} (d : xl_Ca M pc mX2_holeBehind pc2) : cOk encL bdL M rc rs pc pc2 2 cL_X2_holeBehind := cSame mX2_holeBehind_ok vX2_holeBehind d lcl rfl lenL recL
abbrev lEv (s : LSt) (k t v r : Int) : Prop := (0 ≤ k ∧ k < 6) ∧ (0 ≤ t ∧ t ≤ 9999) ∧ (-99 ≤ v ∧ v ≤ 99) ∧ lSrc s r
def sX2_isEvent : Int → Int → Int → Int → LSt → KL → Prop := fun k t v r s K => (xB k ∧ xB t ∧ xB v ∧ xB r) ∧ (lEv s k t v r → K [pI 1] s) ∧ (¬ lEv s k t v r → K [pI 0] s)
theorem mX2_isEvent_ok : mOk encL bdL mX2_isEvent (atR 0 (a4 sX2_isEvent)) := by
  refine mOVa4 kX2_isEvent (fun _ _ _ _ => rfl) (fun k t v r s K h hb => wx_J [] 9 tX2_isEvent_ok rfl (fun J hR hJ => ?_))
  obtain ⟨h1, h2, h3⟩ := h
  repeat' (first | (refine And.intro ?_ ?_) | intro _)
  all_goals first | omega | exact hR _ _ (h2 (by omega)) | exact hR _ _ (h3 (by omega))
def cL_X2_isEvent : Sp LSt := atR 0 (a4 sX2_isEvent)
theorem qL_X2_isEvent {M : XI} {rc rs pc pc2 : Nat} (d : xl_Ca M pc mX2_isEvent pc2) : cOk encL bdL M rc rs pc pc2 5 cL_X2_isEvent := cSame mX2_isEvent_ok vX2_isEvent d lcl rfl lenL recL
-- X2_eventRefusal: heads []
def tX2_eventRefusal : Nat → Blk LSt := fun pc => bif Nat.blt pc 14 then (bif Nat.beq pc 0 then (oAld 0 <| oIld 1 <| oIld 2 <| oIld 3 <| oIld 4 <| oC5 (cL_X2_isEvent) <| oZNe 14 <| oI (-1) <| oIret) else oNo) else (bif Nat.beq pc 14 then (oAld 0 <| oC1 (cL_X2_inputRefusal) <| oIret) else oNo)
theorem tX2_eventRefusal_ok : ∀ pc, bOk (encL) (bdL) mX2_eventRefusal 0 0 pc (tX2_eventRefusal pc) := fun pc => (tNode (tLeaf (okAldn iX2_eventRefusal_0 rfl <| okIldn iX2_eventRefusal_1 rfl <| okIldn iX2_eventRefusal_2 rfl <| okIldn iX2_eventRefusal_3 rfl <| okIld iX2_eventRefusal_4 <| okC5 (qL_X2_isEvent iX2_eventRefusal_6) <| okZNe (tl rfl) iX2_eventRefusal_9 <| okIc iX2_eventRefusal_12 <| okIret iX2_eventRefusal_13 rfl)) (tLeaf (okAldn iX2_eventRefusal_14 rfl <| okC1 (qL_X2_inputRefusal iX2_eventRefusal_15) <| okIret iX2_eventRefusal_18 rfl))) pc
-- X2_markRefusal: heads []
def tX2_markRefusal : Nat → Blk LSt := fun pc => bif Nat.blt pc 21 then (bif Nat.blt pc 19 then (bif Nat.beq pc 0 then (oAld 0 <| oIld 1 <| oC2 (cL_X2_isSource) <| oZEq 19 <| oIld 2 <| oZLt 19 <| oIld 2 <| oI 20000 <| oCLe 21 <| oTo 19) else oNo) else (bif Nat.beq pc 19 then (oI (-1) <| oIret) else oNo)) else (bif Nat.blt pc 40 then (bif Nat.beq pc 21 then (oAld 0 <| oGet (fgL) 2 0 <| oGet (fgL) 1 10 <| oIld 1 <| oI 0 <| oC3 (cL_X0_get) <| oIld 2 <| oCLt 40 <| oI (-2) <| oIret) else oNo) else (bif Nat.beq pc 40 then (oAld 0 <| oC1 (cL_X2_inputRefusal) <| oIret) else oNo))
theorem tX2_markRefusal_ok : ∀ pc, bOk (encL) (bdL) mX2_markRefusal 0 0 pc (tX2_markRefusal pc) := fun pc => (tNode (tNode (tLeaf (okAldn iX2_markRefusal_0 rfl <| okIldn iX2_markRefusal_1 rfl <| okC2 (qL_X2_isSource iX2_markRefusal_2) <| okZEq (tl rfl) iX2_markRefusal_5 <| okIldn iX2_markRefusal_8 rfl <| okZLt (tl rfl) iX2_markRefusal_9 <| okIldn iX2_markRefusal_12 rfl <| okSi iX2_markRefusal_13 (by decide) <| okCLe (tl rfl) iX2_markRefusal_16 <| okTo (tl rfl))) (tLeaf (okIc iX2_markRefusal_19 <| okIret iX2_markRefusal_20 rfl))) (tNode (tLeaf (okAldn iX2_markRefusal_21 rfl <| okGet (vFgL) iX2_markRefusal_22 <| okGet (vFgL) iX2_markRefusal_25 <| okIldn iX2_markRefusal_28 rfl <| okIc iX2_markRefusal_29 <| okC3 (qL_X0_get iX2_markRefusal_30) <| okIldn iX2_markRefusal_33 rfl <| okCLt (tl rfl) iX2_markRefusal_34 <| okBi iX2_markRefusal_37 (by decide) <| okIret iX2_markRefusal_39 rfl)) (tLeaf (okAldn iX2_markRefusal_40 rfl <| okC1 (qL_X2_inputRefusal iX2_markRefusal_41) <| okIret iX2_markRefusal_44 rfl)))) pc
-- X2_idleRefusal: heads []
def tX2_idleRefusal : Nat → Blk LSt := fun pc => bif Nat.blt pc 10 then (bif Nat.beq pc 0 then (oAld 0 <| oIld 1 <| oC2 (cL_X2_isSource) <| oZNe 10 <| oI (-1) <| oIret) else oNo) else (bif Nat.blt pc 28 then (bif Nat.beq pc 10 then (oAld 0 <| oGet (fgL) 2 0 <| oGet (fgL) 1 10 <| oIld 1 <| oI 2 <| oC3 (cL_X0_get) <| oZEq 28 <| oI (-2) <| oIret) else oNo) else (bif Nat.beq pc 28 then (oAld 0 <| oC1 (cL_X2_inputRefusal) <| oIret) else oNo))
theorem tX2_idleRefusal_ok : ∀ pc, bOk (encL) (bdL) mX2_idleRefusal 0 0 pc (tX2_idleRefusal pc) := fun pc => (tNode (tLeaf (okAldn iX2_idleRefusal_0 rfl <| okIldn iX2_idleRefusal_1 rfl <| okC2 (qL_X2_isSource iX2_idleRefusal_2) <| okZNe (tl rfl) iX2_idleRefusal_5 <| okIc iX2_idleRefusal_8 <| okIret iX2_idleRefusal_9 rfl)) (tNode (tLeaf (okAldn iX2_idleRefusal_10 rfl <| okGet (vFgL) iX2_idleRefusal_11 <| okGet (vFgL) iX2_idleRefusal_14 <| okIldn iX2_idleRefusal_17 rfl <| okIc iX2_idleRefusal_18 <| okC3 (qL_X0_get iX2_idleRefusal_19) <| okZEq (tl rfl) iX2_idleRefusal_22 <| okBi iX2_idleRefusal_25 (by decide) <| okIret iX2_idleRefusal_27 rfl)) (tLeaf (okAldn iX2_idleRefusal_28 rfl <| okC1 (qL_X2_inputRefusal iX2_idleRefusal_29) <| okIret iX2_idleRefusal_32 rfl)))) pc
def lEvR (s : LSt) (k t v r : Int) : Int := if lEv s k t v r then lIn s else -1
theorem lIn_b (s : LSt) : -3 ≤ lIn s ∧ lIn s ≤ 0 := by
  unfold lIn
  split <;> omega
def sX2_eventRefusal : Int → Int → Int → Int → LSt → KL → Prop := fun k t v r s K => (xB k ∧ xB t ∧ xB v ∧ xB r) ∧ (-3 ≤ lEvR s k t v r → lEvR s k t v r ≤ 0 → K [pI (lEvR s k t v r)] s)
theorem mX2_eventRefusal_ok : mOk encL bdL mX2_eventRefusal (atR 0 (a4 sX2_eventRefusal)) := by
  refine mOVa4 kX2_eventRefusal (fun _ _ _ _ => rfl) (fun k t v r s K h hb => wx_J [] 9 tX2_eventRefusal_ok rfl (fun J hR hJ => ?_))
  obtain ⟨h1, h2⟩ := h
  have hl := lIn_b s
  unfold lEvR at h2
  by_cases c : lEv s k t v r
  · rw [if_pos c] at h2
    have hK := h2 hl.1 hl.2
    repeat' (first | (refine And.intro ?_ ?_) | intro _)
    all_goals first | omega | exact hR _ _ hK | contradiction
  · rw [if_neg c] at h2
    have hK := h2 (by omega) (by omega)
    repeat' (first | (refine And.intro ?_ ?_) | intro _)
    all_goals first | omega | exact hR _ _ hK | contradiction
def cL_X2_eventRefusal : Sp LSt := atR 0 (a4 sX2_eventRefusal)
theorem qL_X2_eventRefusal {M : XI} {rc rs pc pc2 : Nat} (d : xl_Ca M pc mX2_eventRefusal pc2) : cOk encL bdL M rc rs pc pc2 5 cL_X2_eventRefusal := cSame mX2_eventRefusal_ok vX2_eventRefusal d lcl rfl lenL recL
def lMkR (s : LSt) (r t : Int) : Int := if lSrc s r ∧ 0 ≤ t ∧ t ≤ 20000 then (if t ≤ wG (s.2.2 0) 0 r 0 then -2 else lIn s) else -1
def sX2_markRefusal : Int → Int → LSt → KL → Prop := fun r t s K => (xB r ∧ xB t) ∧ (-3 ≤ lMkR s r t → lMkR s r t ≤ 0 → K [pI (lMkR s r t)] s)
theorem mX2_markRefusal_ok : mOk encL bdL mX2_markRefusal (atR 0 (a2 sX2_markRefusal)) := by
  refine mOVa2 kX2_markRefusal (fun _ _ => rfl) (fun r t s K h hb => wx_J [] 9 tX2_markRefusal_ok rfl (fun J hR hJ => ?_))
  obtain ⟨h1, h2⟩ := h
  have hl := lIn_b s
  unfold lMkR at h2
  by_cases c : lSrc s r ∧ 0 ≤ t ∧ t ≤ 20000
  · rw [if_pos c] at h2
    by_cases c2 : t ≤ wG (s.2.2 0) 0 r 0
    · rw [if_pos c2] at h2
      have hK := h2 (by omega) (by omega)
      repeat' (first | (refine And.intro ?_ ?_) | intro _)
      all_goals first | omega | exact hR _ _ hK | (exact absurd c.1 ‹_›)
    · rw [if_neg c2] at h2
      have hK := h2 hl.1 hl.2
      repeat' (first | (refine And.intro ?_ ?_) | intro _)
      all_goals first | omega | exact hR _ _ hK | (exact absurd c.1 ‹_›)
  · rw [if_neg c] at h2
    have hK := h2 (by omega) (by omega)
    repeat' (first | (refine And.intro ?_ ?_) | intro _)
    all_goals first | omega | exact hR _ _ hK
def cL_X2_markRefusal : Sp LSt := atR 0 (a2 sX2_markRefusal)
theorem qL_X2_markRefusal {M : XI} {rc rs pc pc2 : Nat} (d : xl_Ca M pc mX2_markRefusal pc2) : cOk encL bdL M rc rs pc pc2 3 cL_X2_markRefusal := cSame mX2_markRefusal_ok vX2_markRefusal d lcl rfl lenL recL
def lIdR (s : LSt) (r : Int) : Int := if lSrc s r then (if wG (s.2.2 0) 0 r 2 ≠ 0 then -2 else lIn s) else -1
def sX2_idleRefusal : Int → LSt → KL → Prop := fun r s K => xB r ∧ (-3 ≤ lIdR s r → lIdR s r ≤ 0 → K [pI (lIdR s r)] s)
theorem mX2_idleRefusal_ok : mOk encL bdL mX2_idleRefusal (atR 0 (a1 sX2_idleRefusal)) := by
  refine mOVa1 kX2_idleRefusal (fun _ => rfl) (fun r s K h hb => wx_J [] 9 tX2_idleRefusal_ok rfl (fun J hR hJ => ?_))
  obtain ⟨h1, h2⟩ := h
  have hl := lIn_b s
  unfold lIdR at h2
  by_cases c : lSrc s r
  · rw [if_pos c] at h2
    by_cases c2 : wG (s.2.2 0) 0 r 2 ≠ 0
    · rw [if_pos c2] at h2
      have hK := h2 (by omega) (by omega)
      repeat' (first | (refine And.intro ?_ ?_) | intro _)
      all_goals first | omega | exact hR _ _ hK | (exact absurd c ‹_›)
    · rw [if_neg c2] at h2
      have hK := h2 hl.1 hl.2
      repeat' (first | (refine And.intro ?_ ?_) | intro _)
      all_goals first | omega | exact hR _ _ hK | (exact absurd c ‹_›)
  · rw [if_neg c] at h2
    have hK := h2 (by omega) (by omega)
    repeat' (first | (refine And.intro ?_ ?_) | intro _)
    all_goals first | omega | exact hR _ _ hK | (exact absurd ‹_› c)
def cL_X2_idleRefusal : Sp LSt := atR 0 (a1 sX2_idleRefusal)
theorem qL_X2_idleRefusal {M : XI} {rc rs pc pc2 : Nat} (d : xl_Ca M pc mX2_idleRefusal pc2) : cOk encL bdL M rc rs pc pc2 2 cL_X2_idleRefusal := cSame mX2_idleRefusal_ok vX2_idleRefusal d lcl rfl lenL recL
def lTell1 (s : LSt) (x : Int) : LSt := lTell (setS s 3 0) x
def sX2_tellOne : Int → LSt → KL → Prop := fun x s K => xB x ∧ K [] (lTell1 s x)
theorem mX2_tellOne_ok : mOk encL bdL mX2_tellOne (atR 0 (j1 sX2_tellOne)) := by
  refine mOVj1 kX2_tellOne (fun _ => rfl) (fun x s K h hb => wx_J [] 9 tX2_tellOne_ok rfl (fun J hR hJ => ?_))
  exact ⟨⟨h.1, by show (0 : Int) ≤ 0; omega⟩, hR _ _ h.2⟩
def cL_X2_tellOne : Sp LSt := atR 0 (j1 sX2_tellOne)
theorem qL_X2_tellOne {M : XI} {rc rs pc pc2 : Nat} (d : xl_Ca M pc mX2_tellOne pc2) : cOk encL bdL M rc rs pc pc2 2 cL_X2_tellOne := cSame mX2_tellOne_ok vX2_tellOne d lcl rfl lenL recL
-- X2_tellTwo: heads []
def tX2_tellTwo : Nat → Blk LSt := fun pc => bif Nat.beq pc 0 then (oAld 0 <| oLld 1 <| oC2 (cL_X2_tellOne) <| oAld 0 <| oLld 3 <| oC2 (cL_X2_tellMore) <| oVret) else oNo
theorem tX2_tellTwo_ok : ∀ pc, bOk (encL) (bdL) mX2_tellTwo 0 0 pc (tX2_tellTwo pc) := fun pc => (tLeaf (okAldn iX2_tellTwo_0 rfl <| okLldn iX2_tellTwo_1 rfl <| okC2 (qL_X2_tellOne iX2_tellTwo_2) <| okAldn iX2_tellTwo_5 rfl <| okLldn iX2_tellTwo_6 rfl <| okC2 (qL_X2_tellMore iX2_tellTwo_7) <| okVret iX2_tellTwo_10 rfl)) pc
theorem lTell1_n {s : LSt} {x : Int} : (lTell1 s x).1 3 = 1 := by
  unfold lTell1 lTell
  rw [if_pos (by show (0 : Int) < 6; omega)]
  rfl
def lTell2 (s : LSt) (x y : Int) : LSt := lTell (lTell1 s x) y
def sX2_tellTwo : Int → Int → LSt → KL → Prop := fun x y s K => (xB x ∧ xB y) ∧ K [] (lTell2 s x y)
theorem mX2_tellTwo_ok : mOk encL bdL mX2_tellTwo (atR 0 (j2 sX2_tellTwo)) := by
  refine mOVj2 kX2_tellTwo (fun _ _ => rfl) (fun x y s K h hb => wx_J [] 9 tX2_tellTwo_ok rfl (fun J hR hJ => ?_))
  exact ⟨h.1.1, ⟨h.1.2, by rw [lTell1_n]; omega⟩, hR _ _ h.2⟩
def cL_X2_tellTwo : Sp LSt := atR 0 (j2 sX2_tellTwo)
theorem qL_X2_tellTwo {M : XI} {rc rs pc pc2 : Nat} (d : xl_Ca M pc mX2_tellTwo pc2) : cOk encL bdL M rc rs pc pc2 3 cL_X2_tellTwo := cSame mX2_tellTwo_ok vX2_tellTwo d lcl rfl lenL recL
-- X2_tellThree: heads []
def tX2_tellThree : Nat → Blk LSt := fun pc => bif Nat.beq pc 0 then (oAld 0 <| oLld 1 <| oLld 3 <| oC3 (cL_X2_tellTwo) <| oAld 0 <| oLld 5 <| oC2 (cL_X2_tellMore) <| oVret) else oNo
theorem tX2_tellThree_ok : ∀ pc, bOk (encL) (bdL) mX2_tellThree 0 0 pc (tX2_tellThree pc) := fun pc => (tLeaf (okAldn iX2_tellThree_0 rfl <| okLldn iX2_tellThree_1 rfl <| okLldn iX2_tellThree_2 rfl <| okC3 (qL_X2_tellTwo iX2_tellThree_3) <| okAldn iX2_tellThree_6 rfl <| okLld iX2_tellThree_7 <| okC2 (qL_X2_tellMore iX2_tellThree_9) <| okVret iX2_tellThree_12 rfl)) pc
theorem lTell2_n {s : LSt} {x y : Int} : (lTell2 s x y).1 3 = 2 := by
  unfold lTell2 lTell
  rw [if_pos (by rw [lTell1_n]; omega)]
  show (lTell1 s x).1 3 + 1 = 2
  rw [lTell1_n]
  rfl
def lTell3 (s : LSt) (x y z : Int) : LSt := lTell (lTell2 s x y) z
def sX2_tellThree : Int → Int → Int → LSt → KL → Prop := fun x y z s K => (xB x ∧ xB y ∧ xB z) ∧ K [] (lTell3 s x y z)
theorem mX2_tellThree_ok : mOk encL bdL mX2_tellThree (atR 0 (j3 sX2_tellThree)) := by
  refine mOVj3 kX2_tellThree (fun _ _ _ => rfl) (fun x y z s K h hb => wx_J [] 9 tX2_tellThree_ok rfl (fun J hR hJ => ?_))
  exact ⟨⟨h.1.1, h.1.2.1⟩, ⟨h.1.2.2, by rw [lTell2_n]; omega⟩, hR _ _ h.2⟩
def cL_X2_tellThree : Sp LSt := atR 0 (j3 sX2_tellThree)
theorem qL_X2_tellThree {M : XI} {rc rs pc pc2 : Nat} (d : xl_Ca M pc mX2_tellThree pc2) : cOk encL bdL M rc rs pc pc2 4 cL_X2_tellThree := cSame mX2_tellThree_ok vX2_tellThree d lcl rfl lenL recL
end
-- 41.Lr
section
/-! ===== LateSessions: reading numbers, remembering, sorting, playing again ===== -/
-- X2_numberAt: heads [5]
def tX2_numberAt : Nat → Blk LSt := fun pc => bif Nat.blt pc 5 then (bif Nat.beq pc 0 then (oI 0 <| oIst 3 <| oI 0 <| oIst 4 <| oM [true, true, true, true, true] (oTo 5)) else oNo) else (bif Nat.blt pc 34 then (bif Nat.beq pc 5 then (oIld 4 <| oIld 2 <| oCGe 34 <| oIld 3 <| oI 10 <| oMulW <| oAld 0 <| oIld 1 <| oIld 4 <| oAddW <| oC2 (cL_X2_signAt) <| oAddW <| oI 48 <| oSubW <| oIst 3 <| oInc 4 1 <| oM [true, true, true, true, true] (oTo 5)) else oNo) else (bif Nat.beq pc 34 then (oIld 3 <| oIret) else oNo))
theorem tX2_numberAt_ok : ∀ pc, bOk (encL) (bdL) mX2_numberAt 0 0 pc (tX2_numberAt pc) := fun pc => (tNode (tLeaf (okIc iX2_numberAt_0 <| okIstn iX2_numberAt_1 rfl (by decide) <| okIc iX2_numberAt_2 <| okIst iX2_numberAt_3 (by decide) <| okM (okTo (tl rfl)))) (tNode (tLeaf (okIld iX2_numberAt_5 <| okIldn iX2_numberAt_7 rfl <| okCGe (tl rfl) iX2_numberAt_8 <| okIldn iX2_numberAt_11 rfl <| okBi iX2_numberAt_12 (by decide) <| okMulW iX2_numberAt_14 <| okAldn iX2_numberAt_15 rfl <| okIldn iX2_numberAt_16 rfl <| okIld iX2_numberAt_17 <| okAddW iX2_numberAt_19 <| okC2 (qL_X2_signAt iX2_numberAt_20) <| okAddW iX2_numberAt_23 <| okBi iX2_numberAt_24 (by decide) <| okSubW iX2_numberAt_26 <| okIstn iX2_numberAt_27 rfl (by decide) <| okInc iX2_numberAt_28 (by decide) <| okGotoM (tl rfl) iX2_numberAt_31)) (tLeaf (okIldn iX2_numberAt_34 rfl <| okIret iX2_numberAt_35 rfl)))) pc
-- X2_keyAt: heads []
def tX2_keyAt : Nat → Blk LSt := fun pc => bif Nat.beq pc 0 then (oAld 0 <| oIld 1 <| oC2 (cL_X2_signAt) <| oI 97 <| oSubW <| oIret) else oNo
theorem tX2_keyAt_ok : ∀ pc, bOk (encL) (bdL) mX2_keyAt 0 0 pc (tX2_keyAt pc) := fun pc => (tLeaf (okAldn iX2_keyAt_0 rfl <| okIldn iX2_keyAt_1 rfl <| okC2 (qL_X2_signAt iX2_keyAt_2) <| okBi iX2_keyAt_5 (by decide) <| okSubW iX2_keyAt_7 <| okIret iX2_keyAt_8 rfl)) pc
def numL (s : LSt) (f : Int) : Nat → Int → Int → Int
  | 0, _, n => n
  | m + 1, k, n => numL s f m (k + 1) (wI (wI (wI (n * 10) + lSign s (wI (f + k))) - 48))
def lNum (s : LSt) (f d : Int) : Int := numL s f d.toNat 0 0
theorem numL_B (s : LSt) (f : Int) : ∀ (m : Nat) (k n : Int), xB n → xB (numL s f m k n)
  | 0, _, _, h => h
  | m + 1, k, n, _ => numL_B s f m (k + 1) _ (wI_B _)
theorem X2_numberAt_loop {K : KL} {Pt : LSt → Prop} (s : LSt) (f d : Int) (hf : xB f) (hd : xB d) : ∀ (m : Nat) (k n : Int), 0 ≤ k → k ≤ max 0 d → m = (d - k).toNat → K [pI (numL s f m k n)] s → wX encL bdL mX2_numberAt 0 0 K Pt 5 [some (pR 0), some (pI f), some (pI d), some (pI n), some (pI k)] [] s := by
  intro m
  induction m with
  | zero =>
    intro k n h0 h1 hm hK
    refine wx_J [5] 9 tX2_numberAt_ok rfl (fun J hR hJ => ?_)
    repeat' (first | (refine And.intro ?_ ?_) | intro _)
    all_goals first | omega | exact hR _ _ hK
  | succ m ih =>
    intro k n h0 h1 hm hK
    refine wx_J [5] 9 tX2_numberAt_ok rfl (fun J hR hJ => ?_)
    have g := ih (k + 1) _ (by omega) (by omega) (by omega) hK
    repeat' (first | (refine And.intro ?_ ?_) | intro _)
    all_goals first | omega | exact hJ _ _ _ _ g
def sX2_numberAt : Int → Int → LSt → KL → Prop := fun f d s K => (xB f ∧ xB d) ∧ (xB (lNum s f d) → K [pI (lNum s f d)] s)
theorem mX2_numberAt_ok : mOk encL bdL mX2_numberAt (atR 0 (a2 sX2_numberAt)) := by
  refine mOVa2 kX2_numberAt (fun _ _ => rfl) (fun f d s K h hb => wx_J [5] 9 tX2_numberAt_ok rfl (fun J hR hJ => ?_))
  obtain ⟨⟨h1, h3⟩, h2⟩ := h
  exact hJ _ _ _ _ (X2_numberAt_loop s f d h1 h3 d.toNat 0 0 (by omega) (by omega) (by omega) (h2 (numL_B _ _ _ _ _ ⟨by omega, by omega⟩)))
def cL_X2_numberAt : Sp LSt := atR 0 (a2 sX2_numberAt)
theorem qL_X2_numberAt {M : XI} {rc rs pc pc2 : Nat} (d : xl_Ca M pc mX2_numberAt pc2) : cOk encL bdL M rc rs pc pc2 3 cL_X2_numberAt := cSame mX2_numberAt_ok vX2_numberAt d lcl rfl lenL recL
def lKey (s : LSt) (a : Int) : Int := wI (lSign s a - 97)
def sX2_keyAt : Int → LSt → KL → Prop := fun a s K => xB a ∧ (xB (lKey s a) → K [pI (lKey s a)] s)
theorem mX2_keyAt_ok : mOk encL bdL mX2_keyAt (atR 0 (a1 sX2_keyAt)) := by
  refine mOVa1 kX2_keyAt (fun _ => rfl) (fun a s K h hb => wx_J [] 9 tX2_keyAt_ok rfl (fun J hR hJ => ?_))
  obtain ⟨h1, h2⟩ := h
  have hK := h2 (wI_B _)
  repeat' (first | (refine And.intro ?_ ?_) | intro _)
  all_goals first | omega | exact hR _ _ hK
def cL_X2_keyAt : Sp LSt := atR 0 (a1 sX2_keyAt)
theorem qL_X2_keyAt {M : XI} {rc rs pc pc2 : Nat} (d : xl_Ca M pc mX2_keyAt pc2) : cOk encL bdL M rc rs pc pc2 2 cL_X2_keyAt := cSame mX2_keyAt_ok vX2_keyAt d lcl rfl lenL recL
-- X2_valueAt: heads []
def tX2_valueAt : Nat → Blk LSt := fun pc => bif Nat.blt pc 24 then (bif Nat.beq pc 0 then (oAld 0 <| oIld 1 <| oI 1 <| oAddW <| oI 2 <| oC3 (cL_X2_numberAt) <| oIst 2 <| oAld 0 <| oIld 1 <| oC2 (cL_X2_signAt) <| oI 45 <| oCNe 24 <| oIld 2 <| oNegW <| oTo 25) else oNo) else (bif Nat.blt pc 25 then (bif Nat.beq pc 24 then (oIld 2 <| oTo 25) else oNo) else (bif Nat.beq pc 25 then (oIret) else oNo))
theorem tX2_valueAt_ok : ∀ pc, bOk (encL) (bdL) mX2_valueAt 0 0 pc (tX2_valueAt pc) := fun pc => (tNode (tLeaf (okAldn iX2_valueAt_0 rfl <| okIldn iX2_valueAt_1 rfl <| okIc iX2_valueAt_2 <| okAddW iX2_valueAt_3 <| okIc iX2_valueAt_4 <| okC3 (qL_X2_numberAt iX2_valueAt_5) <| okIstn iX2_valueAt_8 rfl (by decide) <| okAldn iX2_valueAt_9 rfl <| okIldn iX2_valueAt_10 rfl <| okC2 (qL_X2_signAt iX2_valueAt_11) <| okBi iX2_valueAt_14 (by decide) <| okCNe (tl rfl) iX2_valueAt_16 <| okIldn iX2_valueAt_19 rfl <| okNegW iX2_valueAt_20 <| okGoto (tl rfl) iX2_valueAt_21)) (tNode (tLeaf (okIldn iX2_valueAt_24 rfl <| okTo (tl rfl))) (tLeaf (okIret iX2_valueAt_25 rfl)))) pc
def lVal (s : LSt) (a : Int) : Int := if lSign s a = 45 then wI (-(lNum s (wI (a + 1)) 2)) else lNum s (wI (a + 1)) 2
theorem lVal_B (s : LSt) (a : Int) : xB (lVal s a) := by
  unfold lVal
  split
  · exact wI_B _
  · exact numL_B _ _ _ _ _ ⟨by omega, by omega⟩
def sX2_valueAt : Int → LSt → KL → Prop := fun a s K => xB a ∧ (xB (lVal s a) → K [pI (lVal s a)] s)
theorem mX2_valueAt_ok : mOk encL bdL mX2_valueAt (atR 0 (a1 sX2_valueAt)) := by
  refine mOVa1 kX2_valueAt (fun _ => rfl) (fun a s K h hb => wx_J [] 9 tX2_valueAt_ok rfl (fun J hR hJ => ?_))
  obtain ⟨h1, h2⟩ := h
  have hK := h2 (lVal_B _ _)
  unfold lVal at hK
  by_cases c : lSign s a = 45
  · rw [if_pos c] at hK
    repeat' (first | (refine And.intro ?_ ?_) | intro _)
    all_goals first | omega | exact hR _ _ hK
  · rw [if_neg c] at hK
    repeat' (first | (refine And.intro ?_ ?_) | intro _)
    all_goals first | omega | exact hR _ _ hK
def cL_X2_valueAt : Sp LSt := atR 0 (a1 sX2_valueAt)
theorem qL_X2_valueAt {M : XI} {rc rs pc pc2 : Nat} (d : xl_Ca M pc mX2_valueAt pc2) : cOk encL bdL M rc rs pc pc2 2 cL_X2_valueAt := cSame mX2_valueAt_ok vX2_valueAt d lcl rfl lenL recL
-- X2_comeEventAt: heads []
def tX2_comeEventAt : Nat → Blk LSt := fun pc => bif Nat.beq pc 0 then (oAld 0 <| oGet (fgL) 2 0 <| oAld 0 <| oIld 1 <| oC2 (cL_X2_keyAt) <| oAld 0 <| oIld 1 <| oI 1 <| oAddW <| oI 4 <| oC3 (cL_X2_numberAt) <| oAld 0 <| oIld 1 <| oI 5 <| oAddW <| oC2 (cL_X2_valueAt) <| oAld 0 <| oIld 1 <| oI 8 <| oAddW <| oI 1 <| oC3 (cL_X2_numberAt) <| oC5 (cL_X1_comeEvent) <| oIret) else oNo
theorem tX2_comeEventAt_ok : ∀ pc, bOk (encL) (bdL) mX2_comeEventAt 0 0 pc (tX2_comeEventAt pc) := fun pc => (tLeaf (okAldn iX2_comeEventAt_0 rfl <| okGet (vFgL) iX2_comeEventAt_1 <| okAldn iX2_comeEventAt_4 rfl <| okIldn iX2_comeEventAt_5 rfl <| okC2 (qL_X2_keyAt iX2_comeEventAt_6) <| okAldn iX2_comeEventAt_9 rfl <| okIldn iX2_comeEventAt_10 rfl <| okIc iX2_comeEventAt_11 <| okAddW iX2_comeEventAt_12 <| okIc iX2_comeEventAt_13 <| okC3 (qL_X2_numberAt iX2_comeEventAt_14) <| okAldn iX2_comeEventAt_17 rfl <| okIldn iX2_comeEventAt_18 rfl <| okIc iX2_comeEventAt_19 <| okAddW iX2_comeEventAt_20 <| okC2 (qL_X2_valueAt iX2_comeEventAt_21) <| okAldn iX2_comeEventAt_24 rfl <| okIldn iX2_comeEventAt_25 rfl <| okBi iX2_comeEventAt_26 (by decide) <| okAddW iX2_comeEventAt_28 <| okIc iX2_comeEventAt_29 <| okC3 (qL_X2_numberAt iX2_comeEventAt_30) <| okC5 (qL_X1_comeEvent iX2_comeEventAt_33) <| okIret iX2_comeEventAt_36 rfl)) pc
-- X2_actRefusal: heads []
def tX2_actRefusal : Nat → Blk LSt := fun pc => bif Nat.blt pc 69 then (bif Nat.blt pc 32 then (bif Nat.beq pc 0 then (oAld 0 <| oIld 1 <| oC2 (cL_X2_signAt) <| oLook [(101, 32), (109, 69)] 90) else oNo) else (bif Nat.beq pc 32 then (oAld 0 <| oAld 0 <| oIld 1 <| oI 1 <| oAddW <| oC2 (cL_X2_keyAt) <| oAld 0 <| oIld 1 <| oI 2 <| oAddW <| oI 4 <| oC3 (cL_X2_numberAt) <| oAld 0 <| oIld 1 <| oI 6 <| oAddW <| oC2 (cL_X2_valueAt) <| oAld 0 <| oIld 1 <| oI 9 <| oAddW <| oI 1 <| oC3 (cL_X2_numberAt) <| oC5 (cL_X2_eventRefusal) <| oIret) else oNo)) else (bif Nat.blt pc 90 then (bif Nat.beq pc 69 then (oAld 0 <| oAld 0 <| oIld 1 <| oI 1 <| oAddW <| oI 1 <| oC3 (cL_X2_numberAt) <| oAld 0 <| oIld 1 <| oI 2 <| oAddW <| oI 5 <| oC3 (cL_X2_numberAt) <| oC3 (cL_X2_markRefusal) <| oIret) else oNo) else (bif Nat.beq pc 90 then (oAld 0 <| oAld 0 <| oIld 1 <| oI 1 <| oAddW <| oI 1 <| oC3 (cL_X2_numberAt) <| oC2 (cL_X2_idleRefusal) <| oIret) else oNo))
theorem tX2_actRefusal_ok : ∀ pc, bOk (encL) (bdL) mX2_actRefusal 0 0 pc (tX2_actRefusal pc) := fun pc => (tNode (tNode (tLeaf (okAldn iX2_actRefusal_0 rfl <| okIldn iX2_actRefusal_1 rfl <| okC2 (qL_X2_signAt iX2_actRefusal_2) <| okLook (by decide +kernel) (by decide +kernel) (by decide +kernel) iX2_actRefusal_5.1)) (tLeaf (okAldn iX2_actRefusal_32 rfl <| okAldn iX2_actRefusal_33 rfl <| okIldn iX2_actRefusal_34 rfl <| okIc iX2_actRefusal_35 <| okAddW iX2_actRefusal_36 <| okC2 (qL_X2_keyAt iX2_actRefusal_37) <| okAldn iX2_actRefusal_40 rfl <| okIldn iX2_actRefusal_41 rfl <| okIc iX2_actRefusal_42 <| okAddW iX2_actRefusal_43 <| okIc iX2_actRefusal_44 <| okC3 (qL_X2_numberAt iX2_actRefusal_45) <| okAldn iX2_actRefusal_48 rfl <| okIldn iX2_actRefusal_49 rfl <| okBi iX2_actRefusal_50 (by decide) <| okAddW iX2_actRefusal_52 <| okC2 (qL_X2_valueAt iX2_actRefusal_53) <| okAldn iX2_actRefusal_56 rfl <| okIldn iX2_actRefusal_57 rfl <| okBi iX2_actRefusal_58 (by decide) <| okAddW iX2_actRefusal_60 <| okIc iX2_actRefusal_61 <| okC3 (qL_X2_numberAt iX2_actRefusal_62) <| okC5 (qL_X2_eventRefusal iX2_actRefusal_65) <| okIret iX2_actRefusal_68 rfl))) (tNode (tLeaf (okAldn iX2_actRefusal_69 rfl <| okAldn iX2_actRefusal_70 rfl <| okIldn iX2_actRefusal_71 rfl <| okIc iX2_actRefusal_72 <| okAddW iX2_actRefusal_73 <| okIc iX2_actRefusal_74 <| okC3 (qL_X2_numberAt iX2_actRefusal_75) <| okAldn iX2_actRefusal_78 rfl <| okIldn iX2_actRefusal_79 rfl <| okIc iX2_actRefusal_80 <| okAddW iX2_actRefusal_81 <| okIc iX2_actRefusal_82 <| okC3 (qL_X2_numberAt iX2_actRefusal_83) <| okC3 (qL_X2_markRefusal iX2_actRefusal_86) <| okIret iX2_actRefusal_89 rfl)) (tLeaf (okAldn iX2_actRefusal_90 rfl <| okAldn iX2_actRefusal_91 rfl <| okIldn iX2_actRefusal_92 rfl <| okIc iX2_actRefusal_93 <| okAddW iX2_actRefusal_94 <| okIc iX2_actRefusal_95 <| okC3 (qL_X2_numberAt iX2_actRefusal_96) <| okC2 (qL_X2_idleRefusal iX2_actRefusal_99) <| okIret iX2_actRefusal_102 rfl)))) pc
-- X2_comeAct: heads []
def tX2_comeAct : Nat → Blk LSt := fun pc => bif Nat.blt pc 75 then (bif Nat.blt pc 32 then (bif Nat.beq pc 0 then (oAld 0 <| oIld 1 <| oC2 (cL_X2_signAt) <| oLook [(101, 32), (109, 75)] 101) else oNo) else (bif Nat.beq pc 32 then (oAld 0 <| oGet (fgL) 2 0 <| oAld 0 <| oIld 1 <| oI 1 <| oAddW <| oC2 (cL_X2_keyAt) <| oAld 0 <| oIld 1 <| oI 2 <| oAddW <| oI 4 <| oC3 (cL_X2_numberAt) <| oAld 0 <| oIld 1 <| oI 6 <| oAddW <| oC2 (cL_X2_valueAt) <| oAld 0 <| oIld 1 <| oI 9 <| oAddW <| oI 1 <| oC3 (cL_X2_numberAt) <| oC5 (cL_X1_comeEvent) <| oPop <| oTo 116) else oNo)) else (bif Nat.blt pc 101 then (bif Nat.beq pc 75 then (oAld 0 <| oGet (fgL) 2 0 <| oAld 0 <| oIld 1 <| oI 1 <| oAddW <| oI 1 <| oC3 (cL_X2_numberAt) <| oAld 0 <| oIld 1 <| oI 2 <| oAddW <| oI 5 <| oC3 (cL_X2_numberAt) <| oC3 (cL_X1_comeMark) <| oTo 116) else oNo) else (bif Nat.blt pc 116 then (bif Nat.beq pc 101 then (oAld 0 <| oGet (fgL) 2 0 <| oAld 0 <| oIld 1 <| oI 1 <| oAddW <| oI 1 <| oC3 (cL_X2_numberAt) <| oC2 (cL_X1_comeIdle) <| oTo 116) else oNo) else (bif Nat.beq pc 116 then (oVret) else oNo)))
theorem tX2_comeAct_ok : ∀ pc, bOk (encL) (bdL) mX2_comeAct 0 0 pc (tX2_comeAct pc) := fun pc => (tNode (tNode (tLeaf (okAldn iX2_comeAct_0 rfl <| okIldn iX2_comeAct_1 rfl <| okC2 (qL_X2_signAt iX2_comeAct_2) <| okLook (by decide +kernel) (by decide +kernel) (by decide +kernel) iX2_comeAct_5.1)) (tLeaf (okAldn iX2_comeAct_32 rfl <| okGet (vFgL) iX2_comeAct_33 <| okAldn iX2_comeAct_36 rfl <| okIldn iX2_comeAct_37 rfl <| okIc iX2_comeAct_38 <| okAddW iX2_comeAct_39 <| okC2 (qL_X2_keyAt iX2_comeAct_40) <| okAldn iX2_comeAct_43 rfl <| okIldn iX2_comeAct_44 rfl <| okIc iX2_comeAct_45 <| okAddW iX2_comeAct_46 <| okIc iX2_comeAct_47 <| okC3 (qL_X2_numberAt iX2_comeAct_48) <| okAldn iX2_comeAct_51 rfl <| okIldn iX2_comeAct_52 rfl <| okBi iX2_comeAct_53 (by decide) <| okAddW iX2_comeAct_55 <| okC2 (qL_X2_valueAt iX2_comeAct_56) <| okAldn iX2_comeAct_59 rfl <| okIldn iX2_comeAct_60 rfl <| okBi iX2_comeAct_61 (by decide) <| okAddW iX2_comeAct_63 <| okIc iX2_comeAct_64 <| okC3 (qL_X2_numberAt iX2_comeAct_65) <| okC5 (qL_X1_comeEvent iX2_comeAct_68) <| okPop iX2_comeAct_71 <| okGoto (tl rfl) iX2_comeAct_72))) (tNode (tLeaf (okAldn iX2_comeAct_75 rfl <| okGet (vFgL) iX2_comeAct_76 <| okAldn iX2_comeAct_79 rfl <| okIldn iX2_comeAct_80 rfl <| okIc iX2_comeAct_81 <| okAddW iX2_comeAct_82 <| okIc iX2_comeAct_83 <| okC3 (qL_X2_numberAt iX2_comeAct_84) <| okAldn iX2_comeAct_87 rfl <| okIldn iX2_comeAct_88 rfl <| okIc iX2_comeAct_89 <| okAddW iX2_comeAct_90 <| okIc iX2_comeAct_91 <| okC3 (qL_X2_numberAt iX2_comeAct_92) <| okC3 (qL_X1_comeMark iX2_comeAct_95) <| okGoto (tl rfl) iX2_comeAct_98)) (tNode (tLeaf (okAldn iX2_comeAct_101 rfl <| okGet (vFgL) iX2_comeAct_102 <| okAldn iX2_comeAct_105 rfl <| okIldn iX2_comeAct_106 rfl <| okIc iX2_comeAct_107 <| okAddW iX2_comeAct_108 <| okIc iX2_comeAct_109 <| okC3 (qL_X2_numberAt iX2_comeAct_110) <| okC2 (qL_X1_comeIdle iX2_comeAct_113) <| okTo (tl rfl))) (tLeaf (okVret iX2_comeAct_116 rfl))))) pc
-- X2_remember: heads []
def tX2_remember : Nat → Blk LSt := fun pc => bif Nat.blt pc 53 then (bif Nat.blt pc 23 then (bif Nat.beq pc 0 then (oAld 0 <| oGet (fgL) 2 2 <| oAld 0 <| oGet (fgL) 2 3 <| oAld 0 <| oGet (fgL) 2 4 <| oAdd <| oI 6 <| oRemT <| oAa (arL) <| oAst 1 <| oAld 1 <| oNN 23) else oNo) else (bif Nat.beq pc 23 then (oAld 1 <| oAld 0 <| oGet (fgL) 2 0 <| oC2 (cL_X1_copyFrom) <| oAld 0 <| oGet (fgL) 2 4 <| oI 6 <| oCGe 53 <| oAld 0 <| oDup <| oGet (fgL) 2 4 <| oI 1 <| oAdd <| oPut (fpL) 2 4 <| oTo 66) else oNo)) else (bif Nat.blt pc 66 then (bif Nat.beq pc 53 then (oAld 0 <| oAld 0 <| oGet (fgL) 2 3 <| oI 1 <| oAdd <| oI 6 <| oRemT <| oPut (fpL) 2 3 <| oTo 66) else oNo) else (bif Nat.beq pc 66 then (oVret) else oNo))
theorem tX2_remember_ok : ∀ pc, bOk (encL) (bdL) mX2_remember 0 0 pc (tX2_remember pc) := fun pc => (tNode (tNode (tLeaf (okAldn iX2_remember_0 rfl <| okGet (vFgL) iX2_remember_1 <| okAldn iX2_remember_4 rfl <| okGet (vFgL) iX2_remember_5 <| okAldn iX2_remember_8 rfl <| okGet (vFgL) iX2_remember_9 <| okAdd iX2_remember_12 <| okBi iX2_remember_13 (by decide) <| okRemT iX2_remember_15 <| okAa (vArL) iX2_remember_16 <| okAstn iX2_remember_17 rfl (by decide) <| okAldn iX2_remember_18 rfl <| okNN (tl rfl) iX2_remember_19)) (tLeaf (okAldn iX2_remember_23 rfl <| okAldn iX2_remember_24 rfl <| okGet (vFgL) iX2_remember_25 <| okC2 (qL_X1_copyFrom iX2_remember_28) <| okAldn iX2_remember_31 rfl <| okGet (vFgL) iX2_remember_32 <| okBi iX2_remember_35 (by decide) <| okCGe (tl rfl) iX2_remember_37 <| okAldn iX2_remember_40 rfl <| okDup iX2_remember_41 <| okGet (vFgL) iX2_remember_42 <| okIc iX2_remember_45 <| okAdd iX2_remember_46 <| okPut (vFpL) iX2_remember_47 <| okGoto (tl rfl) iX2_remember_50))) (tNode (tLeaf (okAldn iX2_remember_53 rfl <| okAldn iX2_remember_54 rfl <| okGet (vFgL) iX2_remember_55 <| okIc iX2_remember_58 <| okAdd iX2_remember_59 <| okBi iX2_remember_60 (by decide) <| okRemT iX2_remember_62 <| okPut (vFpL) iX2_remember_63 <| okTo (tl rfl))) (tLeaf (okVret iX2_remember_66 rfl)))) pc
def lCEA (s : LSt) (a : Int) : LSt := setW s 0 (wComeE (s.2.2 0) (lKey s a) (lNum s (wI (a + 1)) 4) (lVal s (wI (a + 5))) (lNum s (wI (a + 8)) 1))
def lCEF (s : LSt) (a : Int) : Int := wFate (wNote (s.2.2 0) 0 (lNum s (wI (a + 8)) 1) (lNum s (wI (a + 1)) 4)) (lNum s (wI (a + 1)) 4)
def sX2_comeEventAt : Int → LSt → KL → Prop := fun a s K => (xB a ∧ wok (s.2.2 0)) ∧ (0 ≤ lCEF s a → lCEF s a ≤ 2 → K [pI (lCEF s a)] (lCEA s a))
theorem mX2_comeEventAt_ok : mOk encL bdL mX2_comeEventAt (atR 0 (a1 sX2_comeEventAt)) := by
  refine mOVa1 kX2_comeEventAt (fun _ => rfl) (fun a s K h hb => wx_J [] 9 tX2_comeEventAt_ok rfl (fun J hR hJ => ?_))
  obtain ⟨⟨h1, h3⟩, h2⟩ := h
  repeat' (first | (refine And.intro ?_ ?_) | intro _)
  all_goals first | omega | exact (h3 _ (by assumption)).1 | exact (h3 _ (by assumption)).2 | exact hR _ _ (h2 ‹_› ‹_›)
def cL_X2_comeEventAt : Sp LSt := atR 0 (a1 sX2_comeEventAt)
theorem qL_X2_comeEventAt {M : XI} {rc rs pc pc2 : Nat} (d : xl_Ca M pc mX2_comeEventAt pc2) : cOk encL bdL M rc rs pc pc2 2 cL_X2_comeEventAt := cSame mX2_comeEventAt_ok vX2_comeEventAt d lcl rfl lenL recL
def lActR (s : LSt) (a : Int) : Int := if lSign s a = 101 then lEvR s (lKey s (wI (a + 1))) (lNum s (wI (a + 2)) 4) (lVal s (wI (a + 6))) (lNum s (wI (a + 9)) 1) else if lSign s a = 109 then lMkR s (lNum s (wI (a + 1)) 1) (lNum s (wI (a + 2)) 5) else lIdR s (lNum s (wI (a + 1)) 1)
def sX2_actRefusal : Int → LSt → KL → Prop := fun a s K => xB a ∧ (-3 ≤ lActR s a → lActR s a ≤ 0 → K [pI (lActR s a)] s)
theorem mX2_actRefusal_ok : mOk encL bdL mX2_actRefusal (atR 0 (a1 sX2_actRefusal)) := by
  refine mOVa1 kX2_actRefusal (fun _ => rfl) (fun a s K h hb => wx_J [] 9 tX2_actRefusal_ok rfl (fun J hR hJ => ?_))
  obtain ⟨h1, h2⟩ := h
  unfold lActR at h2
  by_cases c : lSign s a = 101
  · rw [if_pos c] at h2
    repeat' (first | (refine And.intro ?_ ?_) | intro _)
    all_goals first | omega | exact hR _ _ (h2 ‹_› ‹_›) | (exact absurd c ‹_›)
  · rw [if_neg c] at h2
    by_cases c2 : lSign s a = 109
    · rw [if_pos c2] at h2
      repeat' (first | (refine And.intro ?_ ?_) | intro _)
      all_goals first | omega | exact hR _ _ (h2 ‹_› ‹_›)
    · rw [if_neg c2] at h2
      repeat' (first | (refine And.intro ?_ ?_) | intro _)
      all_goals first | omega | exact hR _ _ (h2 ‹_› ‹_›)
def cL_X2_actRefusal : Sp LSt := atR 0 (a1 sX2_actRefusal)
theorem qL_X2_actRefusal {M : XI} {rc rs pc pc2 : Nat} (d : xl_Ca M pc mX2_actRefusal pc2) : cOk encL bdL M rc rs pc pc2 2 cL_X2_actRefusal := cSame mX2_actRefusal_ok vX2_actRefusal d lcl rfl lenL recL
def lAct (s : LSt) (a : Int) : LSt := setW s 0 (if lSign s a = 101 then wComeE (s.2.2 0) (lKey s (wI (a + 1))) (lNum s (wI (a + 2)) 4) (lVal s (wI (a + 6))) (lNum s (wI (a + 9)) 1) else if lSign s a = 109 then wComeM (s.2.2 0) (lNum s (wI (a + 1)) 1) (lNum s (wI (a + 2)) 5) else wComeI (s.2.2 0) (lNum s (wI (a + 1)) 1))
def sX2_comeAct : Int → LSt → KL → Prop := fun a s K => (xB a ∧ wok (s.2.2 0)) ∧ K [] (lAct s a)
theorem mX2_comeAct_ok : mOk encL bdL mX2_comeAct (atR 0 (a1 sX2_comeAct)) := by
  refine mOVa1 kX2_comeAct (fun _ => rfl) (fun a s K h hb => wx_J [] 9 tX2_comeAct_ok rfl (fun J hR hJ => ?_))
  obtain ⟨⟨h1, h3⟩, h2⟩ := h
  unfold lAct at h2
  by_cases c : lSign s a = 101
  · rw [if_pos c] at h2
    repeat' (first | (refine And.intro ?_ ?_) | intro _)
    all_goals first | omega | exact (h3 _ (by assumption)).1 | exact (h3 _ (by assumption)).2 | exact hR _ _ h2
  · rw [if_neg c] at h2
    by_cases c2 : lSign s a = 109
    · rw [if_pos c2] at h2
      repeat' (first | (refine And.intro ?_ ?_) | intro _)
      all_goals first | omega | exact (h3 _ (by assumption)).1 | exact (h3 _ (by assumption)).2 | exact hR _ _ h2
    · rw [if_neg c2] at h2
      repeat' (first | (refine And.intro ?_ ?_) | intro _)
      all_goals first | omega | exact (h3 _ (by assumption)).1 | exact (h3 _ (by assumption)).2 | exact hR _ _ h2
def cL_X2_comeAct : Sp LSt := atR 0 (a1 sX2_comeAct)
theorem qL_X2_comeAct {M : XI} {rc rs pc pc2 : Nat} (d : xl_Ca M pc mX2_comeAct pc2) : cOk encL bdL M rc rs pc pc2 2 cL_X2_comeAct := cSame mX2_comeAct_ok vX2_comeAct d lcl rfl lenL recL
/-- what is remembered -/
def lRem (s : LSt) : LSt :=
  let j := 2 + (Int.tmod (s.1 0 + s.1 1) 6).toNat
  let s1 := setW s j (wCopy (s.2.2 j) (s.2.2 0))
  if s.1 1 < 6 then setS s1 1 (s.1 1 + 1) else setS s1 0 (Int.tmod (s.1 0 + 1) 6)
abbrev uok (s : LSt) : Prop := (0 ≤ s.1 0 ∧ s.1 0 < 6) ∧ (0 ≤ s.1 1 ∧ s.1 1 ≤ 6)
def sX2_remember : LSt → KL → Prop := fun s K => (uok s ∧ wok (s.2.2 0)) ∧ K [] (lRem s)
theorem mX2_remember_ok : mOk encL bdL mX2_remember (atR 0 (a0 sX2_remember)) := by
  refine mOVa0 kX2_remember (fun _ => rfl) (fun s K h hb => wx_J [] 9 tX2_remember_ok rfl (fun J hR hJ => ?_))
  obtain ⟨⟨⟨⟨u1, u2⟩, u3, u4⟩, h3⟩, h2⟩ := h
  unfold lRem at h2
  dsimp only at h2
  have t1 := Int.tmod_lt_of_pos (s.1 0 + s.1 1) (b := 6) (by omega)
  have t2 := Int.tmod_nonneg (a := s.1 0 + s.1 1) 6 (by omega)
  have t3 := Int.tmod_lt_of_pos (s.1 0 + 1) (b := 6) (by omega)
  have t4 := Int.tmod_nonneg (a := s.1 0 + 1) 6 (by omega)
  have hB : xB (Int.tmod (s.1 0 + 1) 6) := ⟨by omega, by omega⟩
  intro _ _
  refine ⟨⟨by omega, ⟨by omega, by omega⟩, ⟨by omega, by omega⟩⟩, ⟨t2, by omega⟩, fun j hj ej => ?_⟩
  have ejn : (Int.tmod (s.1 0 + s.1 1) 6).toNat = j := by omega
  rw [ejn] at h2
  by_cases c : s.1 1 < 6
  · rw [if_pos c] at h2
    have c0 : (-2147483648 : Int) ≤ s.1 1 + 1 ∧ s.1 1 + 1 ≤ 2147483647 := ⟨by omega, by omega⟩
    match j, hj with
    | 0, _ => exact ⟨h3, fun _ => ⟨⟨⟨by omega, by omega⟩, ⟨by omega, by omega⟩⟩, fun q => absurd (show 6 ≤ s.1 1 from q) (by omega), fun _ _ => ⟨c0, hR _ _ h2⟩⟩⟩
    | 1, _ => exact ⟨h3, fun _ => ⟨⟨⟨by omega, by omega⟩, ⟨by omega, by omega⟩⟩, fun q => absurd (show 6 ≤ s.1 1 from q) (by omega), fun _ _ => ⟨c0, hR _ _ h2⟩⟩⟩
    | 2, _ => exact ⟨h3, fun _ => ⟨⟨⟨by omega, by omega⟩, ⟨by omega, by omega⟩⟩, fun q => absurd (show 6 ≤ s.1 1 from q) (by omega), fun _ _ => ⟨c0, hR _ _ h2⟩⟩⟩
    | 3, _ => exact ⟨h3, fun _ => ⟨⟨⟨by omega, by omega⟩, ⟨by omega, by omega⟩⟩, fun q => absurd (show 6 ≤ s.1 1 from q) (by omega), fun _ _ => ⟨c0, hR _ _ h2⟩⟩⟩
    | 4, _ => exact ⟨h3, fun _ => ⟨⟨⟨by omega, by omega⟩, ⟨by omega, by omega⟩⟩, fun q => absurd (show 6 ≤ s.1 1 from q) (by omega), fun _ _ => ⟨c0, hR _ _ h2⟩⟩⟩
    | 5, _ => exact ⟨h3, fun _ => ⟨⟨⟨by omega, by omega⟩, ⟨by omega, by omega⟩⟩, fun q => absurd (show 6 ≤ s.1 1 from q) (by omega), fun _ _ => ⟨c0, hR _ _ h2⟩⟩⟩
    | j + 6, hj => exact absurd hj (by omega)
  · rw [if_neg c] at h2
    have c0 : (-2147483648 : Int) ≤ s.1 0 + 1 ∧ s.1 0 + 1 ≤ 2147483647 := ⟨by omega, by omega⟩
    have c6 : ((6 : Int) ≠ 0 ∧ xB (s.1 0 + 1) ∧ xB 6) := ⟨by omega, c0, ⟨by omega, by omega⟩⟩
    match j, hj with
    | 0, _ => exact ⟨h3, fun _ => ⟨⟨⟨by omega, by omega⟩, ⟨by omega, by omega⟩⟩, fun _ _ => ⟨c6, hB, hR _ _ h2⟩, fun q => absurd (show s.1 1 < 6 from q) (by omega)⟩⟩
    | 1, _ => exact ⟨h3, fun _ => ⟨⟨⟨by omega, by omega⟩, ⟨by omega, by omega⟩⟩, fun _ _ => ⟨c6, hB, hR _ _ h2⟩, fun q => absurd (show s.1 1 < 6 from q) (by omega)⟩⟩
    | 2, _ => exact ⟨h3, fun _ => ⟨⟨⟨by omega, by omega⟩, ⟨by omega, by omega⟩⟩, fun _ _ => ⟨c6, hB, hR _ _ h2⟩, fun q => absurd (show s.1 1 < 6 from q) (by omega)⟩⟩
    | 3, _ => exact ⟨h3, fun _ => ⟨⟨⟨by omega, by omega⟩, ⟨by omega, by omega⟩⟩, fun _ _ => ⟨c6, hB, hR _ _ h2⟩, fun q => absurd (show s.1 1 < 6 from q) (by omega)⟩⟩
    | 4, _ => exact ⟨h3, fun _ => ⟨⟨⟨by omega, by omega⟩, ⟨by omega, by omega⟩⟩, fun _ _ => ⟨c6, hB, hR _ _ h2⟩, fun q => absurd (show s.1 1 < 6 from q) (by omega)⟩⟩
    | 5, _ => exact ⟨h3, fun _ => ⟨⟨⟨by omega, by omega⟩, ⟨by omega, by omega⟩⟩, fun _ _ => ⟨c6, hB, hR _ _ h2⟩, fun q => absurd (show s.1 1 < 6 from q) (by omega)⟩⟩
    | j + 6, hj => exact absurd hj (by omega)
def cL_X2_remember : Sp LSt := atR 0 (a0 sX2_remember)
theorem qL_X2_remember {M : XI} {rc rs pc pc2 : Nat} (d : xl_Ca M pc mX2_remember pc2) : cOk encL bdL M rc rs pc pc2 1 cL_X2_remember := cSame mX2_remember_ok vX2_remember d lcl rfl lenL recL
end
-- 42.Lp
section
/-! ===== LateSessions: sorting, playing again ===== -/
section WXBD
theorem wX_bd {σ : Type} {enc : σ → XH} {bd : σ → Prop} {M : XI} {rc rs : Nat} {Po : PS → σ → Prop} {Pt : σ → Prop} {pc : Nat} {L : PL} {st : PS} {s : σ} (h : bd s → wX enc bd M rc rs Po Pt pc L st s) (hl : pc < 1000000 := by decide) : wX enc bd M rc rs Po Pt pc L st s := by
  rw [wX_lt hl] at h ⊢
  exact fun hb => h hb hb
end WXBD
-- X2_sortTaken: heads [4, 59]
def tX2_sortTaken : Nat → Blk LSt := fun pc => bif Nat.blt pc 59 then (bif Nat.blt pc 4 then (bif Nat.beq pc 0 then (oI 0 <| oIst 2 <| oI 0 <| oIst 3 <| oM [true, true, true, true, false, false] (oTo 4)) else oNo) else (bif Nat.blt pc 42 then (bif Nat.beq pc 4 then (oIld 3 <| oAld 0 <| oGet (fgL) 2 0 <| oGet (fgL) 1 14 <| oGet (fgL) 0 3 <| oCGe 117 <| oIld 2 <| oAld 0 <| oGet (fgL) 2 11 <| oLen (agL) <| oCGe 117 <| oAld 0 <| oGet (fgL) 2 0 <| oIld 3 <| oIld 1 <| oC3 (cL_X1_isTakenOf) <| oZNe 42 <| oTo 111) else oNo) else (bif Nat.beq pc 42 then (oAld 0 <| oGet (fgL) 2 0 <| oGet (fgL) 1 14 <| oIld 3 <| oI 2 <| oC3 (cL_X0_get) <| oIst 4 <| oIld 2 <| oIst 5 <| oM [true, true, true, true, true, true] (oTo 59)) else oNo))) else (bif Nat.blt pc 111 then (bif Nat.blt pc 100 then (bif Nat.beq pc 59 then (oIld 5 <| oZLe 100 <| oAld 0 <| oIld 5 <| oI 1 <| oSub <| oI 2 <| oC3 (cL_X2_sortedCell) <| oIld 4 <| oCLe 100 <| oAld 0 <| oGet (fgL) 2 11 <| oIld 5 <| oAld 0 <| oGet (fgL) 2 11 <| oIld 5 <| oI 1 <| oSub <| oIa (agL) <| oIas (agL) (apL) <| oInc 5 (-1) <| oM [true, true, true, true, true, true] (oTo 59)) else oNo) else (bif Nat.beq pc 100 then (oAld 0 <| oGet (fgL) 2 11 <| oIld 5 <| oIld 3 <| oIas (agL) (apL) <| oInc 2 1 <| oTo 111) else oNo)) else (bif Nat.blt pc 117 then (bif Nat.beq pc 111 then (oInc 3 1 <| oM [true, true, true, true, false, false] (oTo 4)) else oNo) else (bif Nat.beq pc 117 then (oIld 2 <| oIret) else oNo)))
theorem tX2_sortTaken_ok : ∀ pc, bOk (encL) (bdL) mX2_sortTaken 0 0 pc (tX2_sortTaken pc) := fun pc => (tNode (tNode (tLeaf (okIc iX2_sortTaken_0 <| okIstn iX2_sortTaken_1 rfl (by decide) <| okIc iX2_sortTaken_2 <| okIstn iX2_sortTaken_3 rfl (by decide) <| okM (okTo (tl rfl)))) (tNode (tLeaf (okIldn iX2_sortTaken_4 rfl <| okAldn iX2_sortTaken_5 rfl <| okGet (vFgL) iX2_sortTaken_6 <| okGet (vFgL) iX2_sortTaken_9 <| okGet (vFgL) iX2_sortTaken_12 <| okCGe (tl rfl) iX2_sortTaken_15 <| okIldn iX2_sortTaken_18 rfl <| okAldn iX2_sortTaken_19 rfl <| okGet (vFgL) iX2_sortTaken_20 <| okLen (vAgL) iX2_sortTaken_23 <| okCGe (tl rfl) iX2_sortTaken_24 <| okAldn iX2_sortTaken_27 rfl <| okGet (vFgL) iX2_sortTaken_28 <| okIldn iX2_sortTaken_31 rfl <| okIldn iX2_sortTaken_32 rfl <| okC3 (qL_X1_isTakenOf iX2_sortTaken_33) <| okZNe (tl rfl) iX2_sortTaken_36 <| okGoto (tl rfl) iX2_sortTaken_39)) (tLeaf (okAldn iX2_sortTaken_42 rfl <| okGet (vFgL) iX2_sortTaken_43 <| okGet (vFgL) iX2_sortTaken_46 <| okIldn iX2_sortTaken_49 rfl <| okIc iX2_sortTaken_50 <| okC3 (qL_X0_get iX2_sortTaken_51) <| okIst iX2_sortTaken_54 (by decide) <| okIldn iX2_sortTaken_56 rfl <| okIst iX2_sortTaken_57 (by decide) <| okM (okTo (tl rfl)))))) (tNode (tNode (tLeaf (okIld iX2_sortTaken_59 <| okZLe (tl rfl) iX2_sortTaken_61 <| okAldn iX2_sortTaken_64 rfl <| okIld iX2_sortTaken_65 <| okIc iX2_sortTaken_67 <| okSub iX2_sortTaken_68 <| okIc iX2_sortTaken_69 <| okC3 (qL_X2_sortedCell iX2_sortTaken_70) <| okIld iX2_sortTaken_73 <| okCLe (tl rfl) iX2_sortTaken_75 <| okAldn iX2_sortTaken_78 rfl <| okGet (vFgL) iX2_sortTaken_79 <| okIld iX2_sortTaken_82 <| okAldn iX2_sortTaken_84 rfl <| okGet (vFgL) iX2_sortTaken_85 <| okIld iX2_sortTaken_88 <| okIc iX2_sortTaken_90 <| okSub iX2_sortTaken_91 <| okIa (vAgL) iX2_sortTaken_92 <| okIas (vAgL) iX2_sortTaken_93 <| okInc iX2_sortTaken_94 (by decide) <| okGotoM (tl rfl) iX2_sortTaken_97)) (tLeaf (okAldn iX2_sortTaken_100 rfl <| okGet (vFgL) iX2_sortTaken_101 <| okIld iX2_sortTaken_104 <| okIldn iX2_sortTaken_106 rfl <| okIas (vAgL) iX2_sortTaken_107 <| okInc iX2_sortTaken_108 (by decide) <| okTo (tl rfl)))) (tNode (tLeaf (okInc iX2_sortTaken_111 (by decide) <| okGotoM (tl rfl) iX2_sortTaken_114)) (tLeaf (okIldn iX2_sortTaken_117 rfl <| okIret iX2_sortTaken_118 rfl))))) pc
/-- an input's number comes into the row by its time -/
def insL (t i : Int) : Nat → LSt → LSt
  | 0, s => setA s 2 (xup (s.2.1 2) 0 i)
  | p + 1, s => if t < lCell s (p : Int) 2 then insL t i p (setA s 2 (xup (s.2.1 2) (p + 1) (s.2.1 2 p))) else setA s 2 (xup (s.2.1 2) (p + 1) i)
def srtL (k : Int) : Nat → Int → Nat → LSt → Nat × LSt
  | 0, _, n, s => (n, s)
  | m + 1, i, n, s => if wTakenOf (s.2.2 0) i k then srtL k m (i + 1) (n + 1) (insL (wG (s.2.2 0) 4 i 2) i n s) else srtL k m (i + 1) n s
theorem insL_w (t i : Int) : ∀ (p : Nat) (s : LSt), (insL t i p s).2.2 = s.2.2
  | 0, s => rfl
  | p + 1, s => by
    unfold insL
    split
    · rw [insL_w t i p]; rfl
    · rfl
theorem insL_1 (t i : Int) : ∀ (p : Nat) (s : LSt), (insL t i p s).1 = s.1
  | 0, s => rfl
  | p + 1, s => by
    unfold insL
    split
    · rw [insL_1 t i p]; rfl
    · rfl
theorem X2_sortTaken_l2 {K : KL} {Pt : LSt → Prop} (k n i t : Int) (hk : xB k) (hn : 0 ≤ n ∧ n < 160) (hi : xB i) (ht : xB t) (x : LSt → Prop) (hx : ∀ s', x s' → wX encL bdL mX2_sortTaken 0 0 K Pt 4 [some (pR 0), some (pI k), some (pI (n + 1)), some (pI (i + 1)), none, none] [] s') : ∀ (p : Nat) (s : LSt), (p : Int) ≤ n → x (insL t i p s) → wX encL bdL mX2_sortTaken 0 0 K Pt 59 [some (pR 0), some (pI k), some (pI n), some (pI i), some (pI t), some (pI p)] [] s := by
  intro p
  induction p with
  | zero =>
    intro s hp hs
    have g := hx _ hs
    refine wx_J [4, 59] 9 tX2_sortTaken_ok rfl (fun J hR hJ => ?_)
    repeat' (first | (refine And.intro ?_ ?_) | intro _)
    all_goals first | omega | exact hJ _ _ _ _ g
  | succ p ih =>
    intro s hp hs
    refine wx_J [4, 59] 9 tX2_sortTaken_ok rfl (fun J hR hJ => ?_)
    rw [insL] at hs
    have e1 : ((p + 1 : Nat) : Int) - 1 = (p : Int) := by omega
    have e2 : ((p + 1 : Nat) : Int) + -1 = (p : Int) := by omega
    have e3 : (((p + 1 : Nat) : Int) - 1).toNat = p := by omega
    have e4 : (((p + 1 : Nat) : Int)).toNat = p + 1 := by omega
    refine ⟨⟨by omega, by omega⟩, fun c => absurd c (by omega), fun _ => ⟨⟨⟨by omega, by omega⟩, ⟨by omega, by omega⟩⟩, fun hc => ⟨⟨hc, ht⟩, fun c => ?_, fun c => ?_⟩⟩⟩
    · rw [e1] at c
      rw [if_neg (by omega)] at hs
      have g := hx _ hs
      have e5 : setA s 2 (xup (s.2.1 2) (p + 1) i) = apL s 5 (xup (s.2.1 2) (((p + 1 : Nat) : Int)).toNat i) := by rw [e4]; rfl
      rw [e5] at g
      exact ⟨⟨by omega, by omega, hi⟩, hJ _ _ _ _ g⟩
    · rw [e1] at c
      rw [if_pos c] at hs
      have g := ih _ (by omega) hs
      have e5 : setA s 2 (xup (s.2.1 2) (p + 1) (s.2.1 2 p)) = apL s 5 (xup (s.2.1 2) (((p + 1 : Nat) : Int)).toNat (s.2.1 2 (((p + 1 : Nat) : Int) - 1).toNat)) := by rw [e4, e3]; rfl
      rw [e5, ← e2] at g
      refine ⟨⟨by omega, by omega⟩, fun hb1 => ⟨⟨by omega, by omega, hb1⟩, hJ _ _ _ _ g⟩⟩
theorem X2_sortTaken_l1 {K : KL} {Pt : LSt → Prop} (k : Int) (hk : xB k) : ∀ (m : Nat) (i : Int) (n : Nat) (s : LSt), bdL s → wok (s.2.2 0) → 0 ≤ i → (n : Int) ≤ i → i ≤ wZ (s.2.2 0) 4 → m = (wZ (s.2.2 0) 4 - i).toNat → K [pI ((srtL k m i n s).1 : Int)] (srtL k m i n s).2 → wX encL bdL mX2_sortTaken 0 0 K Pt 4 [some (pR 0), some (pI k), some (pI n), some (pI i), none, none] [] s := by
  intro m
  induction m with
  | zero =>
    intro i n s hb ho h0 hn h1 hm hK
    refine wx_J [4, 59] 9 tX2_sortTaken_ok rfl (fun J hR hJ => ?_)
    have hz : xB (wZ (s.2.2 0) 4) := ((hb.2.2 0).2 4).1
    intro _
    refine ⟨⟨⟨by omega, by omega⟩, hz⟩, fun _ => hR _ _ hK, fun c => ?_⟩
    have c : i < wZ (s.2.2 0) 4 := c
    omega
  | succ m ih =>
    intro i n s hb ho h0 hn h1 hm hK
    refine wx_J [4, 59] 9 tX2_sortTaken_ok rfl (fun J hR hJ => ?_)
    have hz : xB (wZ (s.2.2 0) 4) := ((hb.2.2 0).2 4).1
    have hz2 : wZ (s.2.2 0) 4 ≤ 160 := (ho 4 (by decide)).2
    rw [srtL] at hK
    intro _
    refine ⟨⟨⟨by omega, by omega⟩, hz⟩, fun c => ?_, fun c => ⟨⟨⟨by omega, by omega⟩, ⟨by omega, by omega⟩⟩, fun c2 => absurd c2 (by show ¬ (160 : Int) ≤ (n : Int); omega), fun c2 => ⟨⟨⟨by omega, by omega⟩, hk⟩, fun c3 => ?_, fun c3 => ?_⟩⟩⟩
    · have c : wZ (s.2.2 0) 4 ≤ i := c
      omega
    · rw [if_pos c3] at hK
      refine ⟨⟨by omega, by omega⟩, fun c4 => ?_, fun c4 => absurd c4 (by omega)⟩
      refine ⟨⟨⟨by omega, by omega⟩, ⟨by omega, by omega⟩⟩, fun ht => ?_⟩
      refine hJ _ _ _ _ (X2_sortTaken_l2 k n i (wG (s.2.2 0) 4 i 2) hk ⟨by omega, by omega⟩ ⟨by omega, by omega⟩ ht (fun s' => bdL s' → s' = insL (wG (s.2.2 0) 4 i 2) i n s) ?_ n s (by omega) (fun _ => rfl))
      intro s' hs'
      refine wX_bd (fun hb' => ?_)
      have hs' := hs' hb'
      subst hs'
      have e1 : ((n + 1 : Nat) : Int) = (n : Int) + 1 := by omega
      rw [← e1]
      exact ih (i + 1) (n + 1) _ hb' (by rw [insL_w]; exact ho) (by omega) (by omega) (by rw [insL_w]; omega) (by rw [insL_w]; omega) hK
    · rw [if_neg c3] at hK
      have g := ih (i + 1) n s hb ho (by omega) (by omega) (by omega) (by omega) hK
      refine ⟨⟨by omega, by omega⟩, fun c4 => absurd c4 (by omega), fun c4 => hJ _ _ _ _ g⟩
def lSort (s : LSt) (k : Int) : Nat × LSt := srtL k (wZ (s.2.2 0) 4).toNat 0 0 s
theorem srtL_b (k : Int) : ∀ (m : Nat) (i : Int) (n : Nat) (s : LSt), (srtL k m i n s).1 ≤ n + m ∧ (srtL k m i n s).2.2.2 = s.2.2 ∧ (srtL k m i n s).2.1 = s.1
  | 0, i, n, s => ⟨by simp [srtL], rfl, rfl⟩
  | m + 1, i, n, s => by
    unfold srtL
    split
    · have := srtL_b k m (i + 1) (n + 1) (insL (wG (s.2.2 0) 4 i 2) i n s)
      rw [insL_w, insL_1] at this
      exact ⟨by omega, this.2⟩
    · have := srtL_b k m (i + 1) n s
      exact ⟨by omega, this.2⟩
def sX2_sortTaken : Int → LSt → KL → Prop := fun k s K => (xB k ∧ wok (s.2.2 0)) ∧ (0 ≤ ((lSort s k).1 : Int) → ((lSort s k).1 : Int) ≤ 160 → K [pI ((lSort s k).1 : Int)] (lSort s k).2)
theorem mX2_sortTaken_ok : mOk encL bdL mX2_sortTaken (atR 0 (a1 sX2_sortTaken)) := by
  refine mOVa1 kX2_sortTaken (fun _ => rfl) (fun k s K h hb => wx_J [4, 59] 9 tX2_sortTaken_ok rfl (fun J hR hJ => ?_))
  obtain ⟨⟨h1, h3⟩, h2⟩ := h
  have hz := h3 4 (by decide)
  have hz2 : wZ (s.2.2 0) 4 ≤ 160 := hz.2
  have hs := srtL_b k (wZ (s.2.2 0) 4).toNat 0 0 s
  have hK := h2 (by omega) (by unfold lSort; omega)
  exact hJ _ _ _ _ (X2_sortTaken_l1 k h1 (wZ (s.2.2 0) 4).toNat 0 0 s hb h3 (by omega) (by omega) hz.1 (by omega) hK)
def cL_X2_sortTaken : Sp LSt := atR 0 (a1 sX2_sortTaken)
theorem qL_X2_sortTaken {M : XI} {rc rs pc pc2 : Nat} (d : xl_Ca M pc mX2_sortTaken pc2) : cOk encL bdL M rc rs pc pc2 2 cL_X2_sortTaken := cSame mX2_sortTaken_ok vX2_sortTaken d lcl rfl lenL recL
/-! trial.playInput(world.inputs, i) -/
def piWI : Nat → Nat := fun k => bif Nat.blt k 13 then k else 9 + k
theorem lkWI : vLk encWW bdWW encWT bdWT piWI (fun s => (s.1, s.2.2 4)) (fun s b => (b.1, setT s.2 4 b.2)) := by
  have hinj : ∀ i j, i < 15 → j < 15 → piWI i = piWI j → i = j := by
    have key : ∀ i, i < 15 → ∀ j, j < 15 → piWI i = piWI j → i = j := by decide
    exact fun i j hi hj e => key i hi j hj e
  have hok : ∀ (s : WTS) (j : Nat) (c : XE), (encWT s)[j]? = some c → xl_ok piWI j c := by
    intro s j c h
    match j, h with
    | 0, h => cases h; exact fun aC ρ σ => rfl
    | 1, h => cases h; exact fun aC ρ σ => rfl
    | 2, h => cases h; exact fun aC ρ σ => rfl
    | 3, h => cases h; exact fun aC ρ σ => rfl
    | 4, h => cases h; exact fun aC ρ σ => rfl
    | 5, h => cases h; exact fun aC ρ σ => rfl
    | 6, h => cases h; exact fun aC ρ σ => rfl
    | 7, h => cases h; exact fun aC ρ σ => rfl
    | 8, h => cases h; exact fun aC ρ σ => rfl
    | 9, h => cases h; exact fun aC ρ σ => rfl
    | 10, h => cases h; exact fun aC ρ σ => rfl
    | 11, h => cases h; exact fun aC ρ σ => rfl
    | 12, h => cases h; exact fun aC ρ σ => rfl
    | 13, h => cases h; exact fun aC ρ σ => rfl
    | 14, h => cases h; exact fun aC ρ σ => rfl
    | j + 15, h => cases h
  refine ⟨fun s hb => ⟨⟨hb.1, ⟨by omega, hb.2.2 4⟩⟩, ⟨hinj, fun j hj => ?_⟩, hok _⟩, fun s s' hb hb' => ⟨⟨hb'.1, bdW_set hb.2 hb'.2⟩, rfl, ⟨rfl, fun j hj => ?_, fun k hk => ?_⟩, hok _⟩⟩
  · match j, hj with
    | 0, _ => exact ⟨rfl, Nat.le_of_ble_eq_true rfl⟩
    | 1, _ => exact ⟨rfl, Nat.le_of_ble_eq_true rfl⟩
    | 2, _ => exact ⟨rfl, Nat.le_of_ble_eq_true rfl⟩
    | 3, _ => exact ⟨rfl, Nat.le_of_ble_eq_true rfl⟩
    | 4, _ => exact ⟨rfl, Nat.le_of_ble_eq_true rfl⟩
    | 5, _ => exact ⟨rfl, Nat.le_of_ble_eq_true rfl⟩
    | 6, _ => exact ⟨rfl, Nat.le_of_ble_eq_true rfl⟩
    | 7, _ => exact ⟨rfl, Nat.le_of_ble_eq_true rfl⟩
    | 8, _ => exact ⟨rfl, Nat.le_of_ble_eq_true rfl⟩
    | 9, _ => exact ⟨rfl, Nat.le_of_ble_eq_true rfl⟩
    | 10, _ => exact ⟨rfl, Nat.le_of_ble_eq_true rfl⟩
    | 11, _ => exact ⟨rfl, Nat.le_of_ble_eq_true rfl⟩
    | 12, _ => exact ⟨rfl, Nat.le_of_ble_eq_true rfl⟩
    | 13, _ => exact ⟨rfl, Nat.le_of_ble_eq_true rfl⟩
    | 14, _ => exact ⟨rfl, Nat.le_of_ble_eq_true rfl⟩
    | j + 15, hj => exact absurd (show j + 15 < 15 from hj) (by omega)
  · match j, hj with
    | 0, _ => rfl
    | 1, _ => rfl
    | 2, _ => rfl
    | 3, _ => rfl
    | 4, _ => rfl
    | 5, _ => rfl
    | 6, _ => rfl
    | 7, _ => rfl
    | 8, _ => rfl
    | 9, _ => rfl
    | 10, _ => rfl
    | 11, _ => rfl
    | 12, _ => rfl
    | 13, _ => rfl
    | 14, _ => rfl
    | j + 15, hj => exact absurd (show j + 15 < 15 from hj) (by omega)
  · match k, hk with
    | 0, hk => exact absurd rfl (hk 0 (Nat.le_of_ble_eq_true rfl))
    | 1, hk => exact absurd rfl (hk 1 (Nat.le_of_ble_eq_true rfl))
    | 2, hk => exact absurd rfl (hk 2 (Nat.le_of_ble_eq_true rfl))
    | 3, hk => exact absurd rfl (hk 3 (Nat.le_of_ble_eq_true rfl))
    | 4, hk => exact absurd rfl (hk 4 (Nat.le_of_ble_eq_true rfl))
    | 5, hk => exact absurd rfl (hk 5 (Nat.le_of_ble_eq_true rfl))
    | 6, hk => exact absurd rfl (hk 6 (Nat.le_of_ble_eq_true rfl))
    | 7, hk => exact absurd rfl (hk 7 (Nat.le_of_ble_eq_true rfl))
    | 8, hk => exact absurd rfl (hk 8 (Nat.le_of_ble_eq_true rfl))
    | 9, hk => exact absurd rfl (hk 9 (Nat.le_of_ble_eq_true rfl))
    | 10, hk => exact absurd rfl (hk 10 (Nat.le_of_ble_eq_true rfl))
    | 11, hk => exact absurd rfl (hk 11 (Nat.le_of_ble_eq_true rfl))
    | 12, hk => exact absurd rfl (hk 12 (Nat.le_of_ble_eq_true rfl))
    | 13, _ => rfl
    | 14, _ => rfl
    | 15, _ => rfl
    | 16, _ => rfl
    | 17, _ => rfl
    | 18, _ => rfl
    | 19, _ => rfl
    | 20, _ => rfl
    | 21, _ => rfl
    | 22, hk => exact absurd rfl (hk 13 (Nat.le_of_ble_eq_true rfl))
    | 23, hk => exact absurd rfl (hk 14 (Nat.le_of_ble_eq_true rfl))
    | 24, _ => rfl
    | 25, _ => rfl
    | k + 26, _ => rfl
def cL_X1_playInput : Sp LSt := fun as s K => match as with
  | [.inr (.inr (.inl 20)), .inr (.inr (.inl 16)), .inl i] => (xB i ∧ wok (s.2.2 1)) ∧ K [] (setW s 1 (wPlayN (s.2.2 1) ((s.2.2 0).2 4).2 i))
  | _ => False
theorem qL_X1_playInput {M : XI} {rc rs pc pc2 : Nat} (d : xl_Ca M pc mX1_playInput pc2) : cOk encL bdL M rc rs pc pc2 3 cL_X1_playInput := by
  refine cVirt mX1_playInput_ok vX1_playInput d wcl rfl (fun as s K hb h => ?_)
  unfold cL_X1_playInput at h
  split at h
  · next i =>
    have hl := vLk_trans (lkL2 (a := 1) (b := 0) (by decide) (by decide) (by decide)) lkWI
    refine ⟨_, _, _, [pR 13, pI i], hl, ?_, rfl, ⟨h.1, ?_⟩⟩
    · obtain ⟨fs, hf⟩ := recW (s.2.2 1)
      refine ⟨fs, ?_⟩
      rw [xl_n_eq] at hf ⊢
      exact (encL_w s (q := 1) (j := 0) (by decide) (by decide)).trans hf
    · show K [] (setW (setW s 1 (wPlayN (s.2.2 1) ((s.2.2 0).2 4).2 i)) 0 (setT (s.2.2 0) 4 ((s.2.2 0).2 4)))
      rw [setT_self, setW_keep (by decide)]
      exact h.2
  · exact h.elim
-- X2_replay: heads [27, 88]
def tX2_replay : Nat → Blk LSt := fun pc => bif Nat.blt pc 85 then (bif Nat.blt pc 27 then (bif Nat.beq pc 0 then (oAld 0 <| oGet (fgL) 2 0 <| oGet (fgL) 1 10 <| oGet (fgL) 0 3 <| oIst 5 <| oAld 0 <| oGet (fgL) 2 1 <| oIld 5 <| oIld 1 <| oIld 2 <| oIld 3 <| oC5 (cL_X1_reset) <| oI 0 <| oIst 6 <| oM [true, false, false, false, true, true, true] (oTo 27)) else oNo) else (bif Nat.blt pc 66 then (bif Nat.beq pc 27 then (oIld 6 <| oIld 5 <| oCGe 66 <| oAld 0 <| oGet (fgL) 2 1 <| oGet (fgL) 1 10 <| oIld 6 <| oI 1 <| oAld 0 <| oGet (fgL) 2 0 <| oGet (fgL) 1 10 <| oIld 6 <| oI 1 <| oC3 (cL_X0_get) <| oC4 (cL_X0_set) <| oInc 6 1 <| oM [true, false, false, false, true, true, true] (oTo 27)) else oNo) else (bif Nat.beq pc 66 then (oIld 4 <| oZLt 85 <| oAld 0 <| oGet (fgL) 2 1 <| oGet (fgL) 1 10 <| oIld 4 <| oI 2 <| oI 1 <| oC4 (cL_X0_set) <| oTo 85) else oNo))) else (bif Nat.blt pc 137 then (bif Nat.blt pc 88 then (bif Nat.beq pc 85 then (oI 0 <| oIst 6 <| oM [true, false, false, false, true, false, true] (oTo 88)) else oNo) else (bif Nat.beq pc 88 then (oIld 6 <| oAld 0 <| oGet (fgL) 2 0 <| oGet (fgL) 1 14 <| oGet (fgL) 0 3 <| oCGe 143 <| oAld 0 <| oGet (fgL) 2 0 <| oGet (fgL) 1 14 <| oIld 6 <| oI 1 <| oC3 (cL_X0_get) <| oIld 4 <| oCEq 137 <| oAld 0 <| oGet (fgL) 2 1 <| oAld 0 <| oGet (fgL) 2 0 <| oGet (fgL) 1 14 <| oIld 6 <| oC3 (cL_X1_playInput) <| oTo 137) else oNo)) else (bif Nat.blt pc 143 then (bif Nat.beq pc 137 then (oInc 6 1 <| oM [true, false, false, false, true, false, true] (oTo 88)) else oNo) else (bif Nat.beq pc 143 then (oVret) else oNo)))
theorem tX2_replay_ok : ∀ pc, bOk (encL) (bdL) mX2_replay 0 0 pc (tX2_replay pc) := fun pc => (tNode (tNode (tLeaf (okAldn iX2_replay_0 rfl <| okGet (vFgL) iX2_replay_1 <| okGet (vFgL) iX2_replay_4 <| okGet (vFgL) iX2_replay_7 <| okIst iX2_replay_10 (by decide) <| okAldn iX2_replay_12 rfl <| okGet (vFgL) iX2_replay_13 <| okIld iX2_replay_16 <| okIldn iX2_replay_18 rfl <| okIldn iX2_replay_19 rfl <| okIldn iX2_replay_20 rfl <| okC5 (qL_X1_reset iX2_replay_21) <| okIc iX2_replay_24 <| okIst iX2_replay_25 (by decide) <| okM (okTo (tl rfl)))) (tNode (tLeaf (okIld iX2_replay_27 <| okIld iX2_replay_29 <| okCGe (tl rfl) iX2_replay_31 <| okAldn iX2_replay_34 rfl <| okGet (vFgL) iX2_replay_35 <| okGet (vFgL) iX2_replay_38 <| okIld iX2_replay_41 <| okIc iX2_replay_43 <| okAldn iX2_replay_44 rfl <| okGet (vFgL) iX2_replay_45 <| okGet (vFgL) iX2_replay_48 <| okIld iX2_replay_51 <| okIc iX2_replay_53 <| okC3 (qL_X0_get iX2_replay_54) <| okC4 (qL_X0_set iX2_replay_57) <| okInc iX2_replay_60 (by decide) <| okGotoM (tl rfl) iX2_replay_63)) (tLeaf (okIld iX2_replay_66 <| okZLt (tl rfl) iX2_replay_68 <| okAldn iX2_replay_71 rfl <| okGet (vFgL) iX2_replay_72 <| okGet (vFgL) iX2_replay_75 <| okIld iX2_replay_78 <| okIc iX2_replay_80 <| okIc iX2_replay_81 <| okC4 (qL_X0_set iX2_replay_82) <| okTo (tl rfl))))) (tNode (tNode (tLeaf (okIc iX2_replay_85 <| okIst iX2_replay_86 (by decide) <| okM (okTo (tl rfl)))) (tLeaf (okIld iX2_replay_88 <| okAldn iX2_replay_90 rfl <| okGet (vFgL) iX2_replay_91 <| okGet (vFgL) iX2_replay_94 <| okGet (vFgL) iX2_replay_97 <| okCGe (tl rfl) iX2_replay_100 <| okAldn iX2_replay_103 rfl <| okGet (vFgL) iX2_replay_104 <| okGet (vFgL) iX2_replay_107 <| okIld iX2_replay_110 <| okIc iX2_replay_112 <| okC3 (qL_X0_get iX2_replay_113) <| okIld iX2_replay_116 <| okCEq (tl rfl) iX2_replay_118 <| okAldn iX2_replay_121 rfl <| okGet (vFgL) iX2_replay_122 <| okAldn iX2_replay_125 rfl <| okGet (vFgL) iX2_replay_126 <| okGet (vFgL) iX2_replay_129 <| okIld iX2_replay_132 <| okC3 (qL_X1_playInput iX2_replay_134) <| okTo (tl rfl)))) (tNode (tLeaf (okInc iX2_replay_137 (by decide) <| okGotoM (tl rfl) iX2_replay_140)) (tLeaf (okVret iX2_replay_143 rfl))))) pc
def rdL (n : Int) : Nat → Int → LSt → LSt
  | 0, _, s => s
  | m + 1, i, s => rdL n m (i + 1) (setW s 1 (wP (s.2.2 1) 0 i 1 (wG (s.2.2 0) 0 i 1)))
def rpL (lo : Int) : Nat → Int → LSt → LSt
  | 0, _, s => s
  | m + 1, i, s => rpL lo m (i + 1) (if wG (s.2.2 0) 4 i 1 = lo then s else setW s 1 (wPlayN (s.2.2 1) ((s.2.2 0).2 4).2 i))
def lRep2 (s : LSt) (lo : Int) : LSt :=
  let s1 := if 0 ≤ lo then setW s 1 (wP (s.2.2 1) 0 lo 2 1) else s
  rpL lo (wZ (s.2.2 0) 4).toNat 0 s1
def lReplay (s : LSt) (g l e lo : Int) : LSt := lRep2 (rdL (wZ (s.2.2 0) 0) (wZ (s.2.2 0) 0).toNat 0 (setW s 1 (wReset (s.2.2 1) (wZ (s.2.2 0) 0) g l e))) lo
theorem X2_replay_l2 {K : KL} {Pt : LSt → Prop} (lo : Int) (hlo : xB lo) : ∀ (m : Nat) (i : Int) (s : LSt), wok (s.2.2 0) → wok (s.2.2 1) → 0 ≤ i → i ≤ wZ (s.2.2 0) 4 → m = (wZ (s.2.2 0) 4 - i).toNat → K [] (rpL lo m i s) → wX encL bdL mX2_replay 0 0 K Pt 88 [some (pR 0), none, none, none, some (pI lo), none, some (pI i)] [] s := by
  intro m
  induction m with
  | zero =>
    intro i s ho ho1 h0 h1 hm hK
    refine wx_Jb [27, 88] 9 tX2_replay_ok rfl (fun hb J hR hJ => ?_)
    have hz : xB (wZ (s.2.2 0) 4) := ((hb.2.2 0).2 4).1
    intro _
    refine ⟨⟨⟨by omega, by omega⟩, hz⟩, fun _ => hR _ _ hK, fun c => ?_⟩
    have c : i < wZ (s.2.2 0) 4 := c
    omega
  | succ m ih =>
    intro i s ho ho1 h0 h1 hm hK
    refine wx_Jb [27, 88] 9 tX2_replay_ok rfl (fun hb J hR hJ => ?_)
    have hz : xB (wZ (s.2.2 0) 4) := ((hb.2.2 0).2 4).1
    rw [rpL] at hK
    intro _
    refine ⟨⟨⟨by omega, by omega⟩, hz⟩, fun c => ?_, fun c => ⟨⟨⟨by omega, by omega⟩, ⟨by omega, by omega⟩⟩, fun hx => ⟨⟨hx, hlo⟩, fun c2 => ?_, fun c2 => ?_⟩⟩⟩
    · have c : wZ (s.2.2 0) 4 ≤ i := c
      omega
    · rw [if_pos c2] at hK
      exact hJ _ _ _ _ (ih (i + 1) s ho ho1 (by omega) (by omega) (by omega) hK)
    · rw [if_neg c2] at hK
      exact ⟨⟨⟨by omega, by omega⟩, ho1⟩, hJ _ _ _ _ (ih (i + 1) (setW s 1 (wPlayN (s.2.2 1) ((s.2.2 0).2 4).2 i)) ho (wok_PlayN ho1) (by omega) (by show i + 1 ≤ wZ (s.2.2 0) 4; omega) (by show m = (wZ (s.2.2 0) 4 - (i + 1)).toNat; omega) hK)⟩
theorem X2_replay_l1 {K : KL} {Pt : LSt → Prop} (lo n : Int) (hlo : xB lo) (hn : xB n) : ∀ (m : Nat) (i : Int) (s : LSt), wok (s.2.2 0) → wok (s.2.2 1) → 0 ≤ i → i ≤ max 0 n → m = (n - i).toNat → K [] (lRep2 (rdL n m i s) lo) → wX encL bdL mX2_replay 0 0 K Pt 27 [some (pR 0), none, none, none, some (pI lo), some (pI n), some (pI i)] [] s := by
  intro m
  induction m with
  | zero =>
    intro i s ho ho1 h0 h1 hm hK
    refine wx_J [27, 88] 9 tX2_replay_ok rfl (fun J hR hJ => ?_)
    rw [rdL] at hK
    unfold lRep2 at hK
    dsimp only at hK
    have hz := ho 4 (by decide)
    refine ⟨⟨⟨by omega, by omega⟩, hn⟩, fun _ => ⟨hlo, fun c => ?_, fun c => ?_⟩, fun c => absurd c (by omega)⟩
    · rw [if_neg (by omega)] at hK
      exact hJ _ _ _ _ (X2_replay_l2 lo hlo _ 0 s ho ho1 (by omega) (by omega) (by omega) hK)
    · rw [if_pos c] at hK
      have g := X2_replay_l2 (K := K) (Pt := Pt) lo hlo _ 0 (setW s 1 (wP (s.2.2 1) 0 lo 2 1)) ho (wok_P (t := 0) (by decide) ho1) (by omega) (by show 0 ≤ wZ (s.2.2 0) 4; omega) (by show _ = (wZ (s.2.2 0) 4 - 0).toNat; rw [Int.sub_zero]) hK
      exact ⟨⟨hlo, ⟨by omega, by omega⟩, ⟨by omega, by omega⟩⟩, hJ _ _ _ _ g⟩
  | succ m ih =>
    intro i s ho ho1 h0 h1 hm hK
    refine wx_J [27, 88] 9 tX2_replay_ok rfl (fun J hR hJ => ?_)
    rw [rdL] at hK
    have g := ih (i + 1) (setW s 1 (wP (s.2.2 1) 0 i 1 (wG (s.2.2 0) 0 i 1))) ho (wok_P (t := 0) (i := i) (c := 1) (v := wG (s.2.2 0) 0 i 1) (by decide) ho1) (by omega) (by omega) (by omega) hK
    repeat' (first | (refine And.intro ?_ ?_) | intro _)
    all_goals first | omega | exact hJ _ _ _ _ g
def sX2_replay : Int → Int → Int → Int → LSt → KL → Prop := fun g l e lo s K => (xB g ∧ xB l ∧ xB e ∧ xB lo ∧ wok (s.2.2 0) ∧ wok (s.2.2 1)) ∧ K [] (lReplay s g l e lo)
theorem mX2_replay_ok : mOk encL bdL mX2_replay (atR 0 (a4 sX2_replay)) := by
  refine mOVa4 kX2_replay (fun _ _ _ _ => rfl) (fun g l e lo s K h hb => wx_J [27, 88] 9 tX2_replay_ok rfl (fun J hR hJ => ?_))
  obtain ⟨⟨h1, h2, h3, h4, h5, h6⟩, hK⟩ := h
  have hz : xB (wZ (s.2.2 0) 0) := ((hb.2.2 0).2 0).1
  have hz2 := h5 0 (by decide)
  have q := X2_replay_l1 (K := K) (Pt := fun _ => False) lo (wZ (s.2.2 0) 0) h4 hz _ 0 (setW s 1 (wReset (s.2.2 1) (wZ (s.2.2 0) 0) g l e)) h5 (wok_Reset h6) (by omega) (by omega) (by omega) hK
  refine fun _ => ⟨⟨hz, h1, h2, h3⟩, hJ _ _ _ _ q⟩
def cL_X2_replay : Sp LSt := atR 0 (a4 sX2_replay)
theorem qL_X2_replay {M : XI} {rc rs pc pc2 : Nat} (d : xl_Ca M pc mX2_replay pc2) : cOk encL bdL M rc rs pc pc2 5 cL_X2_replay := cSame mX2_replay_ok vX2_replay d lcl rfl lenL recL
end
-- 43.Lf
section
/-! ===== LateSessions: its face, first half ===== -/
abbrev lok (s : LSt) : Prop := uok s ∧ (0 ≤ s.1 3 ∧ s.1 3 ≤ 6) ∧ (0 ≤ s.1 4 ∧ s.1 4 ≤ 80) ∧ ∀ q, q < 10 → wok (s.2.2 q)
theorem lRem_0 {s : LSt} : (lRem s).2.2 0 = s.2.2 0 := by
  unfold lRem
  dsimp only
  split
  · exact setW_ne (by omega)
  · exact setW_ne (by omega)
theorem lRem_1 {s : LSt} : (lRem s).2.2 1 = s.2.2 1 := by
  unfold lRem
  dsimp only
  split
  · exact setW_ne (by omega)
  · exact setW_ne (by omega)
-- X2_sign: heads [16]
def tX2_sign : Nat → Blk LSt := fun pc => bif Nat.blt pc 16 then (bif Nat.blt pc 13 then (bif Nat.beq pc 0 then (oAld 0 <| oGet (fgL) 2 10 <| oI 4 <| oAdd <| oI 80 <| oCLe 13 <| oI (-1) <| oIret) else oNo) else (bif Nat.beq pc 13 then (oI 24 <| oIst 2 <| oM [true, true, true] (oTo 16)) else oNo)) else (bif Nat.blt pc 37 then (bif Nat.beq pc 16 then (oIld 2 <| oZLt 37 <| oAld 0 <| oIld 1 <| oIld 2 <| oUshr <| oI 255 <| oAnd <| oC2 (cL_X2_putSign) <| oInc 2 (-8) <| oM [true, true, true] (oTo 16)) else oNo) else (bif Nat.beq pc 37 then (oAld 0 <| oGet (fgL) 2 10 <| oIret) else oNo))
theorem tX2_sign_ok : ∀ pc, bOk (encL) (bdL) mX2_sign 0 0 pc (tX2_sign pc) := fun pc => (tNode (tNode (tLeaf (okAldn iX2_sign_0 rfl <| okGet (vFgL) iX2_sign_1 <| okIc iX2_sign_4 <| okAdd iX2_sign_5 <| okBi iX2_sign_6 (by decide) <| okCLe (tl rfl) iX2_sign_8 <| okIc iX2_sign_11 <| okIret iX2_sign_12 rfl)) (tLeaf (okBi iX2_sign_13 (by decide) <| okIstn iX2_sign_15 rfl (by decide) <| okM (okTo (tl rfl))))) (tNode (tLeaf (okIldn iX2_sign_16 rfl <| okZLt (tl rfl) iX2_sign_17 <| okAldn iX2_sign_20 rfl <| okIldn iX2_sign_21 rfl <| okIldn iX2_sign_22 rfl <| okUshr iX2_sign_23 <| okSi iX2_sign_24 (by decide) <| okAnd iX2_sign_27 <| okC2 (qL_X2_putSign iX2_sign_28) <| okInc iX2_sign_31 (by decide) <| okGotoM (tl rfl) iX2_sign_34)) (tLeaf (okAldn iX2_sign_37 rfl <| okGet (vFgL) iX2_sign_38 <| okIret iX2_sign_41 rfl)))) pc
-- X2_end: heads []
def tX2_end : Nat → Blk LSt := fun pc => bif Nat.blt pc 12 then (bif Nat.beq pc 0 then (oIld 1 <| oZLt 12 <| oIld 1 <| oAld 0 <| oGet (fgL) 2 10 <| oCLe 14 <| oTo 12) else oNo) else (bif Nat.blt pc 14 then (bif Nat.beq pc 12 then (oI 0 <| oZret) else oNo) else (bif Nat.beq pc 14 then (oAld 0 <| oIld 1 <| oPut (fpL) 2 10 <| oI 1 <| oZret) else oNo))
theorem tX2_end_ok : ∀ pc, bOk (encL) (bdL) mX2_end 0 0 pc (tX2_end pc) := fun pc => (tNode (tLeaf (okIldn iX2_end_0 rfl <| okZLt (tl rfl) iX2_end_1 <| okIldn iX2_end_4 rfl <| okAldn iX2_end_5 rfl <| okGet (vFgL) iX2_end_6 <| okCLe (tl rfl) iX2_end_9 <| okTo (tl rfl))) (tNode (tLeaf (okIc iX2_end_12 <| okZret iX2_end_13 rfl)) (tLeaf (okAldn iX2_end_14 rfl <| okIldn iX2_end_15 rfl <| okPut (vFpL) iX2_end_16 <| okIc iX2_end_19 <| okZret iX2_end_20 rfl)))) pc
-- X2_start: heads []
def tX2_start : Nat → Blk LSt := fun pc => bif Nat.blt pc 20 then (bif Nat.beq pc 0 then (oIld 1 <| oI 1 <| oCLt 20 <| oIld 1 <| oI 4 <| oCGt 20 <| oIld 2 <| oIld 3 <| oIld 4 <| oC3 (cL_X2_areSettings) <| oZNe 22 <| oTo 20) else oNo) else (bif Nat.blt pc 22 then (bif Nat.beq pc 20 then (oI (-1) <| oIret) else oNo) else (bif Nat.beq pc 22 then (oAld 0 <| oC1 (cL_X2_remember) <| oAld 0 <| oGet (fgL) 2 0 <| oIld 1 <| oIld 2 <| oIld 3 <| oIld 4 <| oC5 (cL_X1_reset) <| oIld 1 <| oIret) else oNo))
theorem tX2_start_ok : ∀ pc, bOk (encL) (bdL) mX2_start 0 0 pc (tX2_start pc) := fun pc => (tNode (tLeaf (okIldn iX2_start_0 rfl <| okIc iX2_start_1 <| okCLt (tl rfl) iX2_start_2 <| okIldn iX2_start_5 rfl <| okIc iX2_start_6 <| okCGt (tl rfl) iX2_start_7 <| okIldn iX2_start_10 rfl <| okIldn iX2_start_11 rfl <| okIld iX2_start_12 <| okC3 (qL_X2_areSettings iX2_start_14) <| okZNe (tl rfl) iX2_start_17 <| okTo (tl rfl))) (tNode (tLeaf (okIc iX2_start_20 <| okIret iX2_start_21 rfl)) (tLeaf (okAldn iX2_start_22 rfl <| okC1 (qL_X2_remember iX2_start_23) <| okAldn iX2_start_26 rfl <| okGet (vFgL) iX2_start_27 <| okIldn iX2_start_30 rfl <| okIldn iX2_start_31 rfl <| okIldn iX2_start_32 rfl <| okIld iX2_start_33 <| okC5 (qL_X1_reset iX2_start_35) <| okIldn iX2_start_38 rfl <| okIret iX2_start_39 rfl)))) pc
-- X2_delays: heads []
def tX2_delays : Nat → Blk LSt := fun pc => bif Nat.blt pc 21 then (bif Nat.blt pc 19 then (bif Nat.beq pc 0 then (oAld 0 <| oIld 1 <| oC2 (cL_X2_isSource) <| oZEq 19 <| oIld 2 <| oZLt 19 <| oIld 2 <| oI 999 <| oCLe 21 <| oTo 19) else oNo) else (bif Nat.beq pc 19 then (oI (-1) <| oIret) else oNo)) else (bif Nat.blt pc 42 then (bif Nat.beq pc 21 then (oAld 0 <| oGet (fgL) 2 0 <| oGet (fgL) 1 10 <| oIld 1 <| oI 1 <| oC3 (cL_X0_get) <| oIst 3 <| oIld 3 <| oIld 2 <| oCNe 42 <| oI (-2) <| oIret) else oNo) else (bif Nat.blt pc 58 then (bif Nat.beq pc 42 then (oAld 0 <| oGet (fgL) 2 0 <| oGet (fgL) 1 14 <| oGet (fgL) 0 3 <| oZLe 58 <| oI (-3) <| oIret) else oNo) else (bif Nat.beq pc 58 then (oAld 0 <| oC1 (cL_X2_remember) <| oAld 0 <| oGet (fgL) 2 0 <| oGet (fgL) 1 10 <| oIld 1 <| oI 1 <| oIld 2 <| oC4 (cL_X0_set) <| oIld 3 <| oIret) else oNo)))
theorem tX2_delays_ok : ∀ pc, bOk (encL) (bdL) mX2_delays 0 0 pc (tX2_delays pc) := fun pc => (tNode (tNode (tLeaf (okAldn iX2_delays_0 rfl <| okIldn iX2_delays_1 rfl <| okC2 (qL_X2_isSource iX2_delays_2) <| okZEq (tl rfl) iX2_delays_5 <| okIldn iX2_delays_8 rfl <| okZLt (tl rfl) iX2_delays_9 <| okIldn iX2_delays_12 rfl <| okSi iX2_delays_13 (by decide) <| okCLe (tl rfl) iX2_delays_16 <| okTo (tl rfl))) (tLeaf (okIc iX2_delays_19 <| okIret iX2_delays_20 rfl))) (tNode (tLeaf (okAldn iX2_delays_21 rfl <| okGet (vFgL) iX2_delays_22 <| okGet (vFgL) iX2_delays_25 <| okIldn iX2_delays_28 rfl <| okIc iX2_delays_29 <| okC3 (qL_X0_get iX2_delays_30) <| okIstn iX2_delays_33 rfl (by decide) <| okIldn iX2_delays_34 rfl <| okIldn iX2_delays_35 rfl <| okCNe (tl rfl) iX2_delays_36 <| okBi iX2_delays_39 (by decide) <| okIret iX2_delays_41 rfl)) (tNode (tLeaf (okAldn iX2_delays_42 rfl <| okGet (vFgL) iX2_delays_43 <| okGet (vFgL) iX2_delays_46 <| okGet (vFgL) iX2_delays_49 <| okZLe (tl rfl) iX2_delays_52 <| okBi iX2_delays_55 (by decide) <| okIret iX2_delays_57 rfl)) (tLeaf (okAldn iX2_delays_58 rfl <| okC1 (qL_X2_remember iX2_delays_59) <| okAldn iX2_delays_62 rfl <| okGet (vFgL) iX2_delays_63 <| okGet (vFgL) iX2_delays_66 <| okIldn iX2_delays_69 rfl <| okIc iX2_delays_70 <| okIldn iX2_delays_71 rfl <| okC4 (qL_X0_set iX2_delays_72) <| okIldn iX2_delays_75 rfl <| okIret iX2_delays_76 rfl))))) pc
-- X2_event: heads []
def tX2_event : Nat → Blk LSt := fun pc => bif Nat.blt pc 19 then (bif Nat.beq pc 0 then (oAld 0 <| oIld 1 <| oIld 2 <| oIld 3 <| oIld 4 <| oC5 (cL_X2_eventRefusal) <| oIst 5 <| oIld 5 <| oZGe 19 <| oIld 5 <| oIret) else oNo) else (bif Nat.beq pc 19 then (oAld 0 <| oC1 (cL_X2_remember) <| oAld 0 <| oGet (fgL) 2 0 <| oGet (fgL) 1 4 <| oIst 6 <| oAld 0 <| oGet (fgL) 2 0 <| oIld 1 <| oIld 2 <| oIld 3 <| oIld 4 <| oC5 (cL_X1_comeEvent) <| oIst 7 <| oAld 0 <| oAld 0 <| oGet (fgL) 2 0 <| oGet (fgL) 1 4 <| oIld 6 <| oSubW <| oI2l <| oAld 0 <| oGet (fgL) 2 0 <| oGet (fgL) 1 3 <| oI2l <| oC3 (cL_X2_tellTwo) <| oIld 7 <| oIret) else oNo)
theorem tX2_event_ok : ∀ pc, bOk (encL) (bdL) mX2_event 0 0 pc (tX2_event pc) := fun pc => (tNode (tLeaf (okAldn iX2_event_0 rfl <| okIldn iX2_event_1 rfl <| okIldn iX2_event_2 rfl <| okIldn iX2_event_3 rfl <| okIld iX2_event_4 <| okC5 (qL_X2_eventRefusal iX2_event_6) <| okIst iX2_event_9 (by decide) <| okIld iX2_event_11 <| okZGe (tl rfl) iX2_event_13 <| okIld iX2_event_16 <| okIret iX2_event_18 rfl)) (tLeaf (okAldn iX2_event_19 rfl <| okC1 (qL_X2_remember iX2_event_20) <| okAldn iX2_event_23 rfl <| okGet (vFgL) iX2_event_24 <| okGet (vFgL) iX2_event_27 <| okIst iX2_event_30 (by decide) <| okAldn iX2_event_32 rfl <| okGet (vFgL) iX2_event_33 <| okIldn iX2_event_36 rfl <| okIldn iX2_event_37 rfl <| okIldn iX2_event_38 rfl <| okIld iX2_event_39 <| okC5 (qL_X1_comeEvent iX2_event_41) <| okIst iX2_event_44 (by decide) <| okAldn iX2_event_46 rfl <| okAldn iX2_event_47 rfl <| okGet (vFgL) iX2_event_48 <| okGet (vFgL) iX2_event_51 <| okIld iX2_event_54 <| okSubW iX2_event_56 <| okI2l iX2_event_57 <| okAldn iX2_event_58 rfl <| okGet (vFgL) iX2_event_59 <| okGet (vFgL) iX2_event_62 <| okI2l iX2_event_65 <| okC3 (qL_X2_tellTwo iX2_event_66) <| okIld iX2_event_69 <| okIret iX2_event_71 rfl))) pc
-- X2_marks: heads []
def tX2_marks : Nat → Blk LSt := fun pc => bif Nat.blt pc 13 then (bif Nat.beq pc 0 then (oAld 0 <| oIld 1 <| oIld 2 <| oC3 (cL_X2_markRefusal) <| oIst 3 <| oIld 3 <| oZGe 13 <| oIld 3 <| oIret) else oNo) else (bif Nat.beq pc 13 then (oAld 0 <| oC1 (cL_X2_remember) <| oAld 0 <| oGet (fgL) 2 0 <| oGet (fgL) 1 4 <| oIst 4 <| oAld 0 <| oGet (fgL) 2 0 <| oIld 1 <| oIld 2 <| oC3 (cL_X1_comeMark) <| oAld 0 <| oAld 0 <| oGet (fgL) 2 0 <| oGet (fgL) 1 3 <| oI2l <| oC2 (cL_X2_tellOne) <| oAld 0 <| oGet (fgL) 2 0 <| oGet (fgL) 1 4 <| oIld 4 <| oSubW <| oIret) else oNo)
theorem tX2_marks_ok : ∀ pc, bOk (encL) (bdL) mX2_marks 0 0 pc (tX2_marks pc) := fun pc => (tNode (tLeaf (okAldn iX2_marks_0 rfl <| okIldn iX2_marks_1 rfl <| okIldn iX2_marks_2 rfl <| okC3 (qL_X2_markRefusal iX2_marks_3) <| okIstn iX2_marks_6 rfl (by decide) <| okIldn iX2_marks_7 rfl <| okZGe (tl rfl) iX2_marks_8 <| okIldn iX2_marks_11 rfl <| okIret iX2_marks_12 rfl)) (tLeaf (okAldn iX2_marks_13 rfl <| okC1 (qL_X2_remember iX2_marks_14) <| okAldn iX2_marks_17 rfl <| okGet (vFgL) iX2_marks_18 <| okGet (vFgL) iX2_marks_21 <| okIst iX2_marks_24 (by decide) <| okAldn iX2_marks_26 rfl <| okGet (vFgL) iX2_marks_27 <| okIldn iX2_marks_30 rfl <| okIldn iX2_marks_31 rfl <| okC3 (qL_X1_comeMark iX2_marks_32) <| okAldn iX2_marks_35 rfl <| okAldn iX2_marks_36 rfl <| okGet (vFgL) iX2_marks_37 <| okGet (vFgL) iX2_marks_40 <| okI2l iX2_marks_43 <| okC2 (qL_X2_tellOne iX2_marks_44) <| okAldn iX2_marks_47 rfl <| okGet (vFgL) iX2_marks_48 <| okGet (vFgL) iX2_marks_51 <| okIld iX2_marks_54 <| okSubW iX2_marks_56 <| okIret iX2_marks_57 rfl))) pc
-- X2_idles: heads []
def tX2_idles : Nat → Blk LSt := fun pc => bif Nat.blt pc 12 then (bif Nat.beq pc 0 then (oAld 0 <| oIld 1 <| oC2 (cL_X2_idleRefusal) <| oIst 2 <| oIld 2 <| oZGe 12 <| oIld 2 <| oIret) else oNo) else (bif Nat.beq pc 12 then (oAld 0 <| oC1 (cL_X2_remember) <| oAld 0 <| oGet (fgL) 2 0 <| oGet (fgL) 1 4 <| oIst 3 <| oAld 0 <| oGet (fgL) 2 0 <| oIld 1 <| oC2 (cL_X1_comeIdle) <| oAld 0 <| oAld 0 <| oGet (fgL) 2 0 <| oGet (fgL) 1 3 <| oI2l <| oC2 (cL_X2_tellOne) <| oAld 0 <| oGet (fgL) 2 0 <| oGet (fgL) 1 4 <| oIld 3 <| oSubW <| oIret) else oNo)
theorem tX2_idles_ok : ∀ pc, bOk (encL) (bdL) mX2_idles 0 0 pc (tX2_idles pc) := fun pc => (tNode (tLeaf (okAldn iX2_idles_0 rfl <| okIldn iX2_idles_1 rfl <| okC2 (qL_X2_idleRefusal iX2_idles_2) <| okIstn iX2_idles_5 rfl (by decide) <| okIldn iX2_idles_6 rfl <| okZGe (tl rfl) iX2_idles_7 <| okIldn iX2_idles_10 rfl <| okIret iX2_idles_11 rfl)) (tLeaf (okAldn iX2_idles_12 rfl <| okC1 (qL_X2_remember iX2_idles_13) <| okAldn iX2_idles_16 rfl <| okGet (vFgL) iX2_idles_17 <| okGet (vFgL) iX2_idles_20 <| okIstn iX2_idles_23 rfl (by decide) <| okAldn iX2_idles_24 rfl <| okGet (vFgL) iX2_idles_25 <| okIldn iX2_idles_28 rfl <| okC2 (qL_X1_comeIdle iX2_idles_29) <| okAldn iX2_idles_32 rfl <| okAldn iX2_idles_33 rfl <| okGet (vFgL) iX2_idles_34 <| okGet (vFgL) iX2_idles_37 <| okI2l iX2_idles_40 <| okC2 (qL_X2_tellOne iX2_idles_41) <| okAldn iX2_idles_44 rfl <| okGet (vFgL) iX2_idles_45 <| okGet (vFgL) iX2_idles_48 <| okIldn iX2_idles_51 rfl <| okSubW iX2_idles_52 <| okIret iX2_idles_53 rfl))) pc
def by8 (v k : Int) : Int := (iI (ush v k) &&& iI 255).toInt
def fSign (s : LSt) (v : Int) : Int × LSt := if 80 < s.1 4 + 4 then (-1, s) else ((lPutS (lPutS (lPutS (lPutS s (by8 v 24)) (by8 v 16)) (by8 v 8)) (by8 v 0)).1 4, lPutS (lPutS (lPutS (lPutS s (by8 v 24)) (by8 v 16)) (by8 v 8)) (by8 v 0))
theorem lPutS_t {s : LSt} {c : Int} (h : s.1 4 < 80) : (lPutS s c).1 4 = s.1 4 + 1 := by
  unfold lPutS
  rw [if_pos h]
  rfl
def sX2_sign : Int → LSt → KL → Prop := fun v s K => (xB v ∧ lok s) ∧ K [pI (fSign s v).1] (fSign s v).2
theorem X2_sign_it {K : KL} {Pt : LSt → Prop} (v k : Int) (hv : xB v) (hk : 0 ≤ k ∧ k ≤ 24) (s : LSt) (h0 : 0 ≤ s.1 4) (g : wX encL bdL mX2_sign 0 0 K Pt 16 [some (pR 0), some (pI v), some (pI (k + -8))] [] (lPutS s (by8 v k))) : wX encL bdL mX2_sign 0 0 K Pt 16 [some (pR 0), some (pI v), some (pI k)] [] s := by
  refine wx_J [16] 9 tX2_sign_ok rfl (fun J hR hJ => ?_)
  exact ⟨⟨by omega, by omega⟩, fun c => absurd c (by omega), fun c => ⟨⟨xb_of _, h0⟩, hJ _ _ _ _ g⟩⟩
theorem mX2_sign_ok : mOk encL bdL mX2_sign (atR 0 (a1 sX2_sign)) := by
  refine mOVa1 kX2_sign (fun _ => rfl) (fun v s K h hb => wx_J [16] 9 tX2_sign_ok rfl (fun J hR hJ => ?_))
  obtain ⟨⟨h1, h2⟩, hK⟩ := h
  unfold fSign at hK
  have hl := h2.2.2.1
  by_cases c : 80 < s.1 4 + 4
  · rw [if_pos c] at hK
    repeat' (first | (refine And.intro ?_ ?_) | intro _)
    all_goals first | omega | exact hR _ _ hK
  · rw [if_neg c] at hK
    have t1 := lPutS_t (s := s) (c := by8 v 24) (by omega)
    have t2 := lPutS_t (s := lPutS s (by8 v 24)) (c := by8 v 16) (by omega)
    have t3 := lPutS_t (s := lPutS (lPutS s (by8 v 24)) (by8 v 16)) (c := by8 v 8) (by omega)
    have g5 : wX encL bdL mX2_sign 0 0 K (fun _ => False) 16 [some (pR 0), some (pI v), some (pI (0 + -8))] [] (lPutS (lPutS (lPutS (lPutS s (by8 v 24)) (by8 v 16)) (by8 v 8)) (by8 v 0)) := by
      refine wx_J [16] 9 tX2_sign_ok rfl (fun J hR hJ => ?_)
      repeat' (first | (refine And.intro ?_ ?_) | intro _)
      all_goals first | omega | exact hR _ _ hK
    have g4 := X2_sign_it v 0 h1 (by omega) _ (by omega) g5
    have g3 := X2_sign_it v 8 h1 (by omega) _ (by omega) g4
    have g2 := X2_sign_it v 16 h1 (by omega) _ (by omega) g3
    have g1 := X2_sign_it v 24 h1 (by omega) s (by omega) g2
    repeat' (first | (refine And.intro ?_ ?_) | intro _)
    all_goals first | omega | exact hJ _ _ _ _ g1
def fEnd (s : LSt) (n : Int) : Int × LSt := if 0 ≤ n ∧ n ≤ s.1 4 then (1, setS s 4 n) else (0, s)
def sX2_end : Int → LSt → KL → Prop := fun n s K => xB n ∧ K [pI (fEnd s n).1] (fEnd s n).2
theorem mX2_end_ok : mOk encL bdL mX2_end (atR 0 (a1 sX2_end)) := by
  refine mOVa1 kX2_end (fun _ => rfl) (fun n s K h hb => wx_J [] 9 tX2_end_ok rfl (fun J hR hJ => ?_))
  obtain ⟨h1, hK⟩ := h
  unfold fEnd at hK
  by_cases c : 0 ≤ n ∧ n ≤ s.1 4
  · rw [if_pos c] at hK
    repeat' (first | (refine And.intro ?_ ?_) | intro _)
    all_goals first | omega | exact hR _ _ hK
  · rw [if_neg c] at hK
    repeat' (first | (refine And.intro ?_ ?_) | intro _)
    all_goals first | omega | exact hR _ _ hK
def fStart (s : LSt) (n g l e : Int) : Int × LSt := if (1 ≤ n ∧ n ≤ 4) ∧ okSet g l e then (n, setW (lRem s) 0 (wReset ((lRem s).2.2 0) n g l e)) else (-1, s)
def sX2_start : Int → Int → Int → Int → LSt → KL → Prop := fun n g l e s K => (xB n ∧ xB g ∧ xB l ∧ xB e ∧ lok s) ∧ K [pI (fStart s n g l e).1] (fStart s n g l e).2
theorem mX2_start_ok : mOk encL bdL mX2_start (atR 0 (a4 sX2_start)) := by
  refine mOVa4 kX2_start (fun _ _ _ _ => rfl) (fun n g l e s K h hb => wx_J [] 9 tX2_start_ok rfl (fun J hR hJ => ?_))
  obtain ⟨⟨h1, h2, h3, h4, h5⟩, hK⟩ := h
  have hw := h5.2.2.2 0 (by decide)
  have hu := h5.1
  unfold fStart at hK
  by_cases c : (1 ≤ n ∧ n ≤ 4) ∧ okSet g l e
  · rw [if_pos c] at hK
    repeat' (first | (refine And.intro ?_ ?_) | intro _)
    all_goals first | omega | exact (hw _ (by assumption)).1 | exact (hw _ (by assumption)).2 | exact hR _ _ hK
  · rw [if_neg c] at hK
    repeat' (first | (refine And.intro ?_ ?_) | intro _)
    all_goals first | omega | exact (hw _ (by assumption)).1 | exact (hw _ (by assumption)).2 | exact hR _ _ hK
def fDelays (s : LSt) (r v : Int) : Int × LSt := if lSrc s r ∧ 0 ≤ v ∧ v ≤ 999 then (if wG (s.2.2 0) 0 r 1 = v then (-2, s) else if 0 < wZ (s.2.2 0) 4 then (-3, s) else (wG (s.2.2 0) 0 r 1, setW (lRem s) 0 (wP ((lRem s).2.2 0) 0 r 1 v))) else (-1, s)
def sX2_delays : Int → Int → LSt → KL → Prop := fun r v s K => (xB r ∧ xB v ∧ lok s) ∧ K [pI (fDelays s r v).1] (fDelays s r v).2
theorem mX2_delays_ok : mOk encL bdL mX2_delays (atR 0 (a2 sX2_delays)) := by
  refine mOVa2 kX2_delays (fun _ _ => rfl) (fun r v s K h hb => wx_J [] 9 tX2_delays_ok rfl (fun J hR hJ => ?_))
  obtain ⟨⟨h1, h2, h5⟩, hK⟩ := h
  have hw := h5.2.2.2 0 (by decide)
  have hu := h5.1
  have hz : xB (wZ (s.2.2 0) 4) := ((hb.2.2 0).2 4).1
  unfold fDelays at hK
  by_cases c : lSrc s r ∧ 0 ≤ v ∧ v ≤ 999
  · rw [if_pos c] at hK
    by_cases c2 : wG (s.2.2 0) 0 r 1 = v
    · rw [if_pos c2] at hK
      repeat' (first | (refine And.intro ?_ ?_) | intro _)
      all_goals first | omega | exact (hw _ (by assumption)).1 | exact (hw _ (by assumption)).2 | exact hR _ _ hK | (exact absurd c.1 ‹_›) | (exact absurd c2 ‹_›)
    · rw [if_neg c2] at hK
      by_cases c3 : 0 < wZ (s.2.2 0) 4
      · rw [if_pos c3] at hK
        repeat' (first | (refine And.intro ?_ ?_) | intro _)
        all_goals first | omega | exact (hw _ (by assumption)).1 | exact (hw _ (by assumption)).2 | exact hR _ _ hK | (exact absurd c.1 ‹_›) | (have c4 : wZ (s.2.2 0) 4 ≤ 0 := ‹_›; omega)
      · rw [if_neg c3] at hK
        repeat' (first | (refine And.intro ?_ ?_) | intro _)
        all_goals first | omega | exact (hw _ (by assumption)).1 | exact (hw _ (by assumption)).2 | exact hR _ _ hK | (exact absurd c.1 ‹_›) | (exact absurd ‹_› c3)
  · rw [if_neg c] at hK
    repeat' (first | (refine And.intro ?_ ?_) | intro _)
    all_goals first | omega | exact (hw _ (by assumption)).1 | exact (hw _ (by assumption)).2 | exact hR _ _ hK
/-- an input that comes: what is told, what it is then -/
def fEvent (s : LSt) (k t v r : Int) : Int × LSt := if lEvR s k t v r < 0 then (lEvR s k t v r, s) else
  let w := (lRem s).2.2 0
  let w2 := wComeE w k t v r
  (wFate (wNote w 0 r t) t, lTell2 (setW (lRem s) 0 w2) (wI (w2.1 4 - w.1 4)) (w2.1 3))
def sX2_event : Int → Int → Int → Int → LSt → KL → Prop := fun k t v r s K => (xB k ∧ xB t ∧ xB v ∧ xB r ∧ lok s) ∧ K [pI (fEvent s k t v r).1] (fEvent s k t v r).2
theorem mX2_event_ok : mOk encL bdL mX2_event (atR 0 (a4 sX2_event)) := by
  refine mOVa4 kX2_event (fun _ _ _ _ => rfl) (fun k t v r s K h hb => wx_J [] 9 tX2_event_ok rfl (fun J hR hJ => ?_))
  obtain ⟨⟨h1, h2, h3, h4, h5⟩, hK⟩ := h
  have hw := h5.2.2.2 0 (by decide)
  have hw2 : wok ((lRem s).2.2 0) := by rw [lRem_0]; exact hw
  have hu := h5.1
  unfold fEvent at hK
  by_cases c : lEvR s k t v r < 0
  · rw [if_pos c] at hK
    repeat' (first | (refine And.intro ?_ ?_) | intro _)
    all_goals first | omega | exact (hw _ (by assumption)).1 | exact (hw _ (by assumption)).2 | exact (hw2 _ (by assumption)).1 | exact (hw2 _ (by assumption)).2 | exact hR _ _ hK
  · rw [if_neg c] at hK
    repeat' (first | (refine And.intro ?_ ?_) | intro _)
    all_goals first | omega | exact (hw _ (by assumption)).1 | exact (hw _ (by assumption)).2 | exact (hw2 _ (by assumption)).1 | exact (hw2 _ (by assumption)).2 | exact hR _ _ hK
def fMarks (s : LSt) (r t : Int) : Int × LSt := if lMkR s r t < 0 then (lMkR s r t, s) else
  let w := (lRem s).2.2 0
  let w2 := wComeM w r t
  (wI (w2.1 4 - w.1 4), lTell1 (setW (lRem s) 0 w2) (w2.1 3))
theorem lTell1_w {s : LSt} {x : Int} : (lTell1 s x).2.2 = s.2.2 := by
  unfold lTell1 lTell
  split <;> rfl
theorem lTell2_w {s : LSt} {x y : Int} : (lTell2 s x y).2.2 = s.2.2 := by
  unfold lTell2 lTell
  split
  · exact lTell1_w (s := s) (x := x)
  · exact lTell1_w (s := s) (x := x)
theorem lTell3_w {s : LSt} {x y z : Int} : (lTell3 s x y z).2.2 = s.2.2 := by
  unfold lTell3 lTell
  split
  · exact lTell2_w (s := s) (x := x) (y := y)
  · exact lTell2_w (s := s) (x := x) (y := y)
def sX2_marks : Int → Int → LSt → KL → Prop := fun r t s K => (xB r ∧ xB t ∧ lok s) ∧ K [pI (fMarks s r t).1] (fMarks s r t).2
theorem mX2_marks_ok : mOk encL bdL mX2_marks (atR 0 (a2 sX2_marks)) := by
  refine mOVa2 kX2_marks (fun _ _ => rfl) (fun r t s K h hb => wx_J [] 9 tX2_marks_ok rfl (fun J hR hJ => ?_))
  obtain ⟨⟨h1, h2, h5⟩, hK⟩ := h
  have hw := h5.2.2.2 0 (by decide)
  have hw2 : wok ((lRem s).2.2 0) := by rw [lRem_0]; exact hw
  have hu := h5.1
  unfold fMarks at hK
  by_cases c : lMkR s r t < 0
  · rw [if_pos c] at hK
    repeat' (first | (refine And.intro ?_ ?_) | intro _)
    all_goals first | omega | exact (hw _ (by assumption)).1 | exact (hw _ (by assumption)).2 | exact (hw2 _ (by assumption)).1 | exact (hw2 _ (by assumption)).2 | exact hR _ _ hK
  · rw [if_neg c] at hK
    repeat' (first | (refine And.intro ?_ ?_) | intro _)
    all_goals first | omega | exact (hw _ (by assumption)).1 | exact (hw _ (by assumption)).2 | exact (hw2 _ (by assumption)).1 | exact (hw2 _ (by assumption)).2 | exact hR _ _ hK
def fIdles (s : LSt) (r : Int) : Int × LSt := if lIdR s r < 0 then (lIdR s r, s) else
  let w := (lRem s).2.2 0
  let w2 := wComeI w r
  (wI (w2.1 4 - w.1 4), lTell1 (setW (lRem s) 0 w2) (w2.1 3))
def sX2_idles : Int → LSt → KL → Prop := fun r s K => (xB r ∧ lok s) ∧ K [pI (fIdles s r).1] (fIdles s r).2
theorem mX2_idles_ok : mOk encL bdL mX2_idles (atR 0 (a1 sX2_idles)) := by
  refine mOVa1 kX2_idles (fun _ => rfl) (fun r s K h hb => wx_J [] 9 tX2_idles_ok rfl (fun J hR hJ => ?_))
  obtain ⟨⟨h1, h5⟩, hK⟩ := h
  have hw := h5.2.2.2 0 (by decide)
  have hw2 : wok ((lRem s).2.2 0) := by rw [lRem_0]; exact hw
  have hu := h5.1
  unfold fIdles at hK
  by_cases c : lIdR s r < 0
  · rw [if_pos c] at hK
    repeat' (first | (refine And.intro ?_ ?_) | intro _)
    all_goals first | omega | exact (hw _ (by assumption)).1 | exact (hw _ (by assumption)).2 | exact (hw2 _ (by assumption)).1 | exact (hw2 _ (by assumption)).2 | exact hR _ _ hK
  · rw [if_neg c] at hK
    repeat' (first | (refine And.intro ?_ ?_) | intro _)
    all_goals first | omega | exact (hw _ (by assumption)).1 | exact (hw _ (by assumption)).2 | exact (hw2 _ (by assumption)).1 | exact (hw2 _ (by assumption)).2 | exact hR _ _ hK
end
-- 44.Lg
section
/-! ===== LateSessions: its face, questions without loops; undone, kept ===== -/
-- X2_at: heads []
def tX2_at : Nat → Blk LSt := fun pc => bif Nat.blt pc 16 then (bif Nat.blt pc 14 then (bif Nat.beq pc 0 then (oIld 1 <| oC1 (cL_X2_isKey) <| oZEq 14 <| oIld 2 <| oC1 (cL_X2_isTime) <| oZNe 16 <| oTo 14) else oNo) else (bif Nat.beq pc 14 then (oI (-1) <| oIret) else oNo)) else (bif Nat.blt pc 33 then (bif Nat.beq pc 16 then (oAld 0 <| oGet (fgL) 2 0 <| oIld 1 <| oIld 2 <| oC3 (cL_X1_firstTouched) <| oIst 3 <| oIld 3 <| oZGe 33 <| oI (-2) <| oIret) else oNo) else (bif Nat.beq pc 33 then (oAld 0 <| oAld 0 <| oGet (fgL) 2 0 <| oIld 3 <| oIld 1 <| oIld 2 <| oC4 (cL_X1_touchedFrom) <| oI2l <| oC2 (cL_X2_tellOne) <| oIld 3 <| oIret) else oNo))
theorem tX2_at_ok : ∀ pc, bOk (encL) (bdL) mX2_at 0 0 pc (tX2_at pc) := fun pc => (tNode (tNode (tLeaf (okIldn iX2_at_0 rfl <| okC1 (qL_X2_isKey iX2_at_1) <| okZEq (tl rfl) iX2_at_4 <| okIldn iX2_at_7 rfl <| okC1 (qL_X2_isTime iX2_at_8) <| okZNe (tl rfl) iX2_at_11 <| okTo (tl rfl))) (tLeaf (okIc iX2_at_14 <| okIret iX2_at_15 rfl))) (tNode (tLeaf (okAldn iX2_at_16 rfl <| okGet (vFgL) iX2_at_17 <| okIldn iX2_at_20 rfl <| okIldn iX2_at_21 rfl <| okC3 (qL_X1_firstTouched iX2_at_22) <| okIstn iX2_at_25 rfl (by decide) <| okIldn iX2_at_26 rfl <| okZGe (tl rfl) iX2_at_27 <| okBi iX2_at_30 (by decide) <| okIret iX2_at_32 rfl)) (tLeaf (okAldn iX2_at_33 rfl <| okAldn iX2_at_34 rfl <| okGet (vFgL) iX2_at_35 <| okIldn iX2_at_38 rfl <| okIldn iX2_at_39 rfl <| okIldn iX2_at_40 rfl <| okC4 (qL_X1_touchedFrom iX2_at_41) <| okI2l iX2_at_44 <| okC2 (qL_X2_tellOne iX2_at_45) <| okIldn iX2_at_48 rfl <| okIret iX2_at_49 rfl)))) pc
-- X2_sent: heads []
def tX2_sent : Nat → Blk LSt := fun pc => bif Nat.blt pc 9 then (bif Nat.beq pc 0 then (oIld 1 <| oZLt 9 <| oIld 1 <| oI 4 <| oCLt 11 <| oTo 9) else oNo) else (bif Nat.blt pc 11 then (bif Nat.beq pc 9 then (oI (-1) <| oIret) else oNo) else (bif Nat.beq pc 11 then (oAld 0 <| oAld 0 <| oGet (fgL) 2 0 <| oGet (fgL) 1 4 <| oI2l <| oC2 (cL_X2_tellOne) <| oAld 0 <| oGet (fgL) 2 0 <| oIld 1 <| oC2 (cL_X1_sentOf) <| oIret) else oNo))
theorem tX2_sent_ok : ∀ pc, bOk (encL) (bdL) mX2_sent 0 0 pc (tX2_sent pc) := fun pc => (tNode (tLeaf (okIldn iX2_sent_0 rfl <| okZLt (tl rfl) iX2_sent_1 <| okIldn iX2_sent_4 rfl <| okIc iX2_sent_5 <| okCLt (tl rfl) iX2_sent_6 <| okTo (tl rfl))) (tNode (tLeaf (okIc iX2_sent_9 <| okIret iX2_sent_10 rfl)) (tLeaf (okAldn iX2_sent_11 rfl <| okAldn iX2_sent_12 rfl <| okGet (vFgL) iX2_sent_13 <| okGet (vFgL) iX2_sent_16 <| okI2l iX2_sent_19 <| okC2 (qL_X2_tellOne iX2_sent_20) <| okAldn iX2_sent_23 rfl <| okGet (vFgL) iX2_sent_24 <| okIldn iX2_sent_27 rfl <| okC2 (qL_X1_sentOf iX2_sent_28) <| okIret iX2_sent_31 rfl)))) pc
-- X2_closed: heads []
def tX2_closed : Nat → Blk LSt := fun pc => bif Nat.blt pc 9 then (bif Nat.beq pc 0 then (oIld 1 <| oC1 (cL_X2_isKey) <| oZNe 9 <| oI (-1) <| oIret) else oNo) else (bif Nat.beq pc 9 then (oAld 0 <| oAld 0 <| oGet (fgL) 2 0 <| oGet (fgL) 1 15 <| oIld 1 <| oI 5 <| oC3 (cL_X0_get) <| oI2l <| oAld 0 <| oGet (fgL) 2 0 <| oGet (fgL) 1 15 <| oIld 1 <| oI 6 <| oC3 (cL_X0_get) <| oI2l <| oAld 0 <| oGet (fgL) 2 0 <| oGet (fgL) 1 15 <| oIld 1 <| oI 7 <| oC3 (cL_X0_get) <| oI2l <| oC4 (cL_X2_tellThree) <| oAld 0 <| oGet (fgL) 2 0 <| oGet (fgL) 1 15 <| oIld 1 <| oI 4 <| oC3 (cL_X0_get) <| oIret) else oNo)
theorem tX2_closed_ok : ∀ pc, bOk (encL) (bdL) mX2_closed 0 0 pc (tX2_closed pc) := fun pc => (tNode (tLeaf (okIldn iX2_closed_0 rfl <| okC1 (qL_X2_isKey iX2_closed_1) <| okZNe (tl rfl) iX2_closed_4 <| okIc iX2_closed_7 <| okIret iX2_closed_8 rfl)) (tLeaf (okAldn iX2_closed_9 rfl <| okAldn iX2_closed_10 rfl <| okGet (vFgL) iX2_closed_11 <| okGet (vFgL) iX2_closed_14 <| okIldn iX2_closed_17 rfl <| okIc iX2_closed_18 <| okC3 (qL_X0_get iX2_closed_19) <| okI2l iX2_closed_22 <| okAldn iX2_closed_23 rfl <| okGet (vFgL) iX2_closed_24 <| okGet (vFgL) iX2_closed_27 <| okIldn iX2_closed_30 rfl <| okBi iX2_closed_31 (by decide) <| okC3 (qL_X0_get iX2_closed_33) <| okI2l iX2_closed_36 <| okAldn iX2_closed_37 rfl <| okGet (vFgL) iX2_closed_38 <| okGet (vFgL) iX2_closed_41 <| okIldn iX2_closed_44 rfl <| okBi iX2_closed_45 (by decide) <| okC3 (qL_X0_get iX2_closed_47) <| okI2l iX2_closed_50 <| okC4 (qL_X2_tellThree iX2_closed_51) <| okAldn iX2_closed_54 rfl <| okGet (vFgL) iX2_closed_55 <| okGet (vFgL) iX2_closed_58 <| okIldn iX2_closed_61 rfl <| okIc iX2_closed_62 <| okC3 (qL_X0_get iX2_closed_63) <| okIret iX2_closed_66 rfl))) pc
-- X2_taken: heads []
def tX2_taken : Nat → Blk LSt := fun pc => bif Nat.beq pc 0 then (oAld 0 <| oAld 0 <| oGet (fgL) 2 0 <| oGet (fgL) 1 7 <| oI2l <| oAld 0 <| oGet (fgL) 2 0 <| oGet (fgL) 1 8 <| oI2l <| oAld 0 <| oGet (fgL) 2 0 <| oGet (fgL) 1 9 <| oI2l <| oC4 (cL_X2_tellThree) <| oAld 0 <| oGet (fgL) 2 0 <| oGet (fgL) 1 6 <| oIret) else oNo
theorem tX2_taken_ok : ∀ pc, bOk (encL) (bdL) mX2_taken 0 0 pc (tX2_taken pc) := fun pc => (tLeaf (okAldn iX2_taken_0 rfl <| okAldn iX2_taken_1 rfl <| okGet (vFgL) iX2_taken_2 <| okGet (vFgL) iX2_taken_5 <| okI2l iX2_taken_8 <| okAldn iX2_taken_9 rfl <| okGet (vFgL) iX2_taken_10 <| okGet (vFgL) iX2_taken_13 <| okI2l iX2_taken_16 <| okAldn iX2_taken_17 rfl <| okGet (vFgL) iX2_taken_18 <| okGet (vFgL) iX2_taken_21 <| okI2l iX2_taken_24 <| okC4 (qL_X2_tellThree iX2_taken_25) <| okAldn iX2_taken_28 rfl <| okGet (vFgL) iX2_taken_29 <| okGet (vFgL) iX2_taken_32 <| okIret iX2_taken_35 rfl)) pc
-- X2_would: heads []
def tX2_would : Nat → Blk LSt := fun pc => bif Nat.blt pc 60 then (bif Nat.blt pc 14 then (bif Nat.beq pc 0 then (oAld 0 <| oIld 1 <| oIld 2 <| oIld 3 <| oIld 4 <| oC5 (cL_X2_isEvent) <| oZNe 14 <| oI (-1) <| oIret) else oNo) else (bif Nat.beq pc 14 then (oAld 0 <| oGet (fgL) 2 0 <| oIld 1 <| oIld 2 <| oC3 (cL_X1_firstTouched) <| oIst 5 <| oAld 0 <| oGet (fgL) 2 1 <| oAld 0 <| oGet (fgL) 2 0 <| oC2 (cL_X1_copyFrom) <| oAld 0 <| oGet (fgL) 2 1 <| oIld 1 <| oIld 2 <| oIld 3 <| oIld 4 <| oC5 (cL_X1_playEvent) <| oIst 6 <| oIld 6 <| oI 2 <| oCNe 60 <| oI 0 <| oTo 71) else oNo)) else (bif Nat.blt pc 71 then (bif Nat.beq pc 60 then (oAld 0 <| oGet (fgL) 2 0 <| oIld 5 <| oIld 1 <| oIld 2 <| oC4 (cL_X1_touchedFrom) <| oTo 71) else oNo) else (bif Nat.beq pc 71 then (oIst 7 <| oAld 0 <| oIld 7 <| oI2l <| oAld 0 <| oGet (fgL) 2 1 <| oGet (fgL) 1 4 <| oAld 0 <| oGet (fgL) 2 0 <| oGet (fgL) 1 4 <| oSubW <| oI2l <| oC3 (cL_X2_tellTwo) <| oIld 6 <| oIret) else oNo))
theorem tX2_would_ok : ∀ pc, bOk (encL) (bdL) mX2_would 0 0 pc (tX2_would pc) := fun pc => (tNode (tNode (tLeaf (okAldn iX2_would_0 rfl <| okIldn iX2_would_1 rfl <| okIldn iX2_would_2 rfl <| okIldn iX2_would_3 rfl <| okIld iX2_would_4 <| okC5 (qL_X2_isEvent iX2_would_6) <| okZNe (tl rfl) iX2_would_9 <| okIc iX2_would_12 <| okIret iX2_would_13 rfl)) (tLeaf (okAldn iX2_would_14 rfl <| okGet (vFgL) iX2_would_15 <| okIldn iX2_would_18 rfl <| okIldn iX2_would_19 rfl <| okC3 (qL_X1_firstTouched iX2_would_20) <| okIst iX2_would_23 (by decide) <| okAldn iX2_would_25 rfl <| okGet (vFgL) iX2_would_26 <| okAldn iX2_would_29 rfl <| okGet (vFgL) iX2_would_30 <| okC2 (qL_X1_copyFrom iX2_would_33) <| okAldn iX2_would_36 rfl <| okGet (vFgL) iX2_would_37 <| okIldn iX2_would_40 rfl <| okIldn iX2_would_41 rfl <| okIldn iX2_would_42 rfl <| okIld iX2_would_43 <| okC5 (qL_X1_playEvent iX2_would_45) <| okIst iX2_would_48 (by decide) <| okIld iX2_would_50 <| okIc iX2_would_52 <| okCNe (tl rfl) iX2_would_53 <| okIc iX2_would_56 <| okGoto (tl rfl) iX2_would_57))) (tNode (tLeaf (okAldn iX2_would_60 rfl <| okGet (vFgL) iX2_would_61 <| okIld iX2_would_64 <| okIldn iX2_would_66 rfl <| okIldn iX2_would_67 rfl <| okC4 (qL_X1_touchedFrom iX2_would_68) <| okTo (tl rfl))) (tLeaf (okIst iX2_would_71 (by decide) <| okAldn iX2_would_73 rfl <| okIld iX2_would_74 <| okI2l iX2_would_76 <| okAldn iX2_would_77 rfl <| okGet (vFgL) iX2_would_78 <| okGet (vFgL) iX2_would_81 <| okAldn iX2_would_84 rfl <| okGet (vFgL) iX2_would_85 <| okGet (vFgL) iX2_would_88 <| okSubW iX2_would_91 <| okI2l iX2_would_92 <| okC3 (qL_X2_tellTwo iX2_would_93) <| okIld iX2_would_96 <| okIret iX2_would_98 rfl)))) pc
-- X2_without: heads []
def tX2_without : Nat → Blk LSt := fun pc => bif Nat.blt pc 10 then (bif Nat.beq pc 0 then (oAld 0 <| oIld 1 <| oC2 (cL_X2_isSource) <| oZNe 10 <| oI (-1) <| oIret) else oNo) else (bif Nat.blt pc 27 then (bif Nat.beq pc 10 then (oAld 0 <| oGet (fgL) 2 0 <| oGet (fgL) 1 10 <| oGet (fgL) 0 3 <| oI 1 <| oCNe 27 <| oI (-2) <| oIret) else oNo) else (bif Nat.beq pc 27 then (oAld 0 <| oAld 0 <| oGet (fgL) 2 0 <| oGet (fgL) 1 0 <| oAld 0 <| oGet (fgL) 2 0 <| oGet (fgL) 1 1 <| oAld 0 <| oGet (fgL) 2 0 <| oGet (fgL) 1 2 <| oIld 1 <| oC5 (cL_X2_replay) <| oAld 0 <| oAld 0 <| oGet (fgL) 2 1 <| oGet (fgL) 1 8 <| oI2l <| oAld 0 <| oGet (fgL) 2 1 <| oGet (fgL) 1 11 <| oGet (fgL) 0 3 <| oI2l <| oAld 0 <| oGet (fgL) 2 1 <| oGet (fgL) 1 5 <| oI2l <| oC4 (cL_X2_tellThree) <| oAld 0 <| oGet (fgL) 2 1 <| oGet (fgL) 1 3 <| oIret) else oNo))
theorem tX2_without_ok : ∀ pc, bOk (encL) (bdL) mX2_without 0 0 pc (tX2_without pc) := fun pc => (tNode (tLeaf (okAldn iX2_without_0 rfl <| okIldn iX2_without_1 rfl <| okC2 (qL_X2_isSource iX2_without_2) <| okZNe (tl rfl) iX2_without_5 <| okIc iX2_without_8 <| okIret iX2_without_9 rfl)) (tNode (tLeaf (okAldn iX2_without_10 rfl <| okGet (vFgL) iX2_without_11 <| okGet (vFgL) iX2_without_14 <| okGet (vFgL) iX2_without_17 <| okIc iX2_without_20 <| okCNe (tl rfl) iX2_without_21 <| okBi iX2_without_24 (by decide) <| okIret iX2_without_26 rfl)) (tLeaf (okAldn iX2_without_27 rfl <| okAldn iX2_without_28 rfl <| okGet (vFgL) iX2_without_29 <| okGet (vFgL) iX2_without_32 <| okAldn iX2_without_35 rfl <| okGet (vFgL) iX2_without_36 <| okGet (vFgL) iX2_without_39 <| okAldn iX2_without_42 rfl <| okGet (vFgL) iX2_without_43 <| okGet (vFgL) iX2_without_46 <| okIldn iX2_without_49 rfl <| okC5 (qL_X2_replay iX2_without_50) <| okAldn iX2_without_53 rfl <| okAldn iX2_without_54 rfl <| okGet (vFgL) iX2_without_55 <| okGet (vFgL) iX2_without_58 <| okI2l iX2_without_61 <| okAldn iX2_without_62 rfl <| okGet (vFgL) iX2_without_63 <| okGet (vFgL) iX2_without_66 <| okGet (vFgL) iX2_without_69 <| okI2l iX2_without_72 <| okAldn iX2_without_73 rfl <| okGet (vFgL) iX2_without_74 <| okGet (vFgL) iX2_without_77 <| okI2l iX2_without_80 <| okC4 (qL_X2_tellThree iX2_without_81) <| okAldn iX2_without_84 rfl <| okGet (vFgL) iX2_without_85 <| okGet (vFgL) iX2_without_88 <| okIret iX2_without_91 rfl)))) pc
-- X2_undo: heads []
def tX2_undo : Nat → Blk LSt := fun pc => bif Nat.blt pc 9 then (bif Nat.beq pc 0 then (oAld 0 <| oGet (fgL) 2 4 <| oZNe 9 <| oI (-1) <| oIret) else oNo) else (bif Nat.beq pc 9 then (oAld 0 <| oDup <| oGet (fgL) 2 4 <| oI 1 <| oSub <| oPut (fpL) 2 4 <| oAld 0 <| oGet (fgL) 2 0 <| oAld 0 <| oGet (fgL) 2 2 <| oAld 0 <| oGet (fgL) 2 3 <| oAld 0 <| oGet (fgL) 2 4 <| oAdd <| oI 6 <| oRemT <| oAa (arL) <| oC2 (cL_X1_copyFrom) <| oAld 0 <| oGet (fgL) 2 4 <| oIret) else oNo)
theorem tX2_undo_ok : ∀ pc, bOk (encL) (bdL) mX2_undo 0 0 pc (tX2_undo pc) := fun pc => (tNode (tLeaf (okAldn iX2_undo_0 rfl <| okGet (vFgL) iX2_undo_1 <| okZNe (tl rfl) iX2_undo_4 <| okIc iX2_undo_7 <| okIret iX2_undo_8 rfl)) (tLeaf (okAldn iX2_undo_9 rfl <| okDup iX2_undo_10 <| okGet (vFgL) iX2_undo_11 <| okIc iX2_undo_14 <| okSub iX2_undo_15 <| okPut (vFpL) iX2_undo_16 <| okAldn iX2_undo_19 rfl <| okGet (vFgL) iX2_undo_20 <| okAldn iX2_undo_23 rfl <| okGet (vFgL) iX2_undo_24 <| okAldn iX2_undo_27 rfl <| okGet (vFgL) iX2_undo_28 <| okAldn iX2_undo_31 rfl <| okGet (vFgL) iX2_undo_32 <| okAdd iX2_undo_35 <| okBi iX2_undo_36 (by decide) <| okRemT iX2_undo_38 <| okAa (vArL) iX2_undo_39 <| okC2 (qL_X1_copyFrom iX2_undo_40) <| okAldn iX2_undo_43 rfl <| okGet (vFgL) iX2_undo_44 <| okIret iX2_undo_47 rfl))) pc
-- X2_keep: heads []
def tX2_keep : Nat → Blk LSt := fun pc => bif Nat.blt pc 11 then (bif Nat.blt pc 9 then (bif Nat.beq pc 0 then (oIld 1 <| oZLt 9 <| oIld 1 <| oI 2 <| oCLt 11 <| oTo 9) else oNo) else (bif Nat.beq pc 9 then (oI 0 <| oZret) else oNo)) else (bif Nat.blt pc 24 then (bif Nat.beq pc 11 then (oAld 0 <| oGet (fgL) 2 5 <| oIld 1 <| oAa (arL) <| oAst 2 <| oAld 2 <| oNN 24) else oNo) else (bif Nat.beq pc 24 then (oAld 2 <| oAld 0 <| oGet (fgL) 2 0 <| oC2 (cL_X1_copyFrom) <| oAld 0 <| oDup <| oGet (fgL) 2 6 <| oI 1 <| oIld 1 <| oShl <| oOr <| oPut (fpL) 2 6 <| oI 1 <| oZret) else oNo))
theorem tX2_keep_ok : ∀ pc, bOk (encL) (bdL) mX2_keep 0 0 pc (tX2_keep pc) := fun pc => (tNode (tNode (tLeaf (okIldn iX2_keep_0 rfl <| okZLt (tl rfl) iX2_keep_1 <| okIldn iX2_keep_4 rfl <| okIc iX2_keep_5 <| okCLt (tl rfl) iX2_keep_6 <| okTo (tl rfl))) (tLeaf (okIc iX2_keep_9 <| okZret iX2_keep_10 rfl))) (tNode (tLeaf (okAldn iX2_keep_11 rfl <| okGet (vFgL) iX2_keep_12 <| okIldn iX2_keep_15 rfl <| okAa (vArL) iX2_keep_16 <| okAstn iX2_keep_17 rfl (by decide) <| okAldn iX2_keep_18 rfl <| okNN (tl rfl) iX2_keep_19)) (tLeaf (okAldn iX2_keep_24 rfl <| okAldn iX2_keep_25 rfl <| okGet (vFgL) iX2_keep_26 <| okC2 (qL_X1_copyFrom iX2_keep_29) <| okAldn iX2_keep_32 rfl <| okDup iX2_keep_33 <| okGet (vFgL) iX2_keep_34 <| okIc iX2_keep_37 <| okIldn iX2_keep_38 rfl <| okShl iX2_keep_39 <| okOr iX2_keep_40 <| okPut (vFpL) iX2_keep_41 <| okIc iX2_keep_44 <| okZret iX2_keep_45 rfl)))) pc
-- X2_back: heads []
def tX2_back : Nat → Blk LSt := fun pc => bif Nat.blt pc 20 then (bif Nat.beq pc 0 then (oIld 1 <| oZLt 20 <| oIld 1 <| oI 2 <| oCGe 20 <| oAld 0 <| oGet (fgL) 2 6 <| oI 1 <| oIld 1 <| oShl <| oAnd <| oZNe 22 <| oTo 20) else oNo) else (bif Nat.blt pc 22 then (bif Nat.beq pc 20 then (oI 0 <| oZret) else oNo) else (bif Nat.beq pc 22 then (oAld 0 <| oGet (fgL) 2 0 <| oAld 0 <| oGet (fgL) 2 5 <| oIld 1 <| oAa (arL) <| oC2 (cL_X1_copyFrom) <| oAld 0 <| oI 0 <| oPut (fpL) 2 4 <| oI 1 <| oZret) else oNo))
theorem tX2_back_ok : ∀ pc, bOk (encL) (bdL) mX2_back 0 0 pc (tX2_back pc) := fun pc => (tNode (tLeaf (okIldn iX2_back_0 rfl <| okZLt (tl rfl) iX2_back_1 <| okIldn iX2_back_4 rfl <| okIc iX2_back_5 <| okCGe (tl rfl) iX2_back_6 <| okAldn iX2_back_9 rfl <| okGet (vFgL) iX2_back_10 <| okIc iX2_back_13 <| okIldn iX2_back_14 rfl <| okShl iX2_back_15 <| okAnd iX2_back_16 <| okZNe (tl rfl) iX2_back_17 <| okTo (tl rfl))) (tNode (tLeaf (okIc iX2_back_20 <| okZret iX2_back_21 rfl)) (tLeaf (okAldn iX2_back_22 rfl <| okGet (vFgL) iX2_back_23 <| okAldn iX2_back_26 rfl <| okGet (vFgL) iX2_back_27 <| okIldn iX2_back_30 rfl <| okAa (vArL) iX2_back_31 <| okC2 (qL_X1_copyFrom iX2_back_32) <| okAldn iX2_back_35 rfl <| okIc iX2_back_36 <| okPut (vFpL) iX2_back_37 <| okIc iX2_back_40 <| okZret iX2_back_41 rfl)))) pc
-- X2_count: heads []
def tX2_count : Nat → Blk LSt := fun pc => bif Nat.blt pc 103 then (bif Nat.blt pc 79 then (bif Nat.blt pc 60 then (bif Nat.beq pc 0 then (oIld 1 <| oTab 0 [60, 71, 79, 87, 95, 103, 114, 125, 133, 138, 143] 148) else oNo) else (bif Nat.blt pc 71 then (bif Nat.beq pc 60 then (oAld 0 <| oGet (fgL) 2 0 <| oGet (fgL) 1 10 <| oGet (fgL) 0 3 <| oIret) else oNo) else (bif Nat.beq pc 71 then (oAld 0 <| oGet (fgL) 2 0 <| oGet (fgL) 1 0 <| oIret) else oNo))) else (bif Nat.blt pc 87 then (bif Nat.beq pc 79 then (oAld 0 <| oGet (fgL) 2 0 <| oGet (fgL) 1 1 <| oIret) else oNo) else (bif Nat.blt pc 95 then (bif Nat.beq pc 87 then (oAld 0 <| oGet (fgL) 2 0 <| oGet (fgL) 1 2 <| oIret) else oNo) else (bif Nat.beq pc 95 then (oAld 0 <| oGet (fgL) 2 0 <| oGet (fgL) 1 3 <| oIret) else oNo)))) else (bif Nat.blt pc 133 then (bif Nat.blt pc 114 then (bif Nat.beq pc 103 then (oAld 0 <| oGet (fgL) 2 0 <| oGet (fgL) 1 11 <| oGet (fgL) 0 3 <| oIret) else oNo) else (bif Nat.blt pc 125 then (bif Nat.beq pc 114 then (oAld 0 <| oGet (fgL) 2 0 <| oGet (fgL) 1 14 <| oGet (fgL) 0 3 <| oIret) else oNo) else (bif Nat.beq pc 125 then (oAld 0 <| oGet (fgL) 2 0 <| oGet (fgL) 1 4 <| oIret) else oNo))) else (bif Nat.blt pc 143 then (bif Nat.blt pc 138 then (bif Nat.beq pc 133 then (oAld 0 <| oGet (fgL) 2 4 <| oIret) else oNo) else (bif Nat.beq pc 138 then (oAld 0 <| oGet (fgL) 2 8 <| oIret) else oNo)) else (bif Nat.blt pc 148 then (bif Nat.beq pc 143 then (oAld 0 <| oGet (fgL) 2 10 <| oIret) else oNo) else (bif Nat.beq pc 148 then (oI (-1) <| oIret) else oNo))))
theorem tX2_count_ok : ∀ pc, bOk (encL) (bdL) mX2_count 0 0 pc (tX2_count pc) := fun pc => (tNode (tNode (tNode (tLeaf (okIldn iX2_count_0 rfl <| okTab (by decide +kernel) (by decide +kernel) (by decide +kernel) iX2_count_1.1)) (tNode (tLeaf (okAldn iX2_count_60 rfl <| okGet (vFgL) iX2_count_61 <| okGet (vFgL) iX2_count_64 <| okGet (vFgL) iX2_count_67 <| okIret iX2_count_70 rfl)) (tLeaf (okAldn iX2_count_71 rfl <| okGet (vFgL) iX2_count_72 <| okGet (vFgL) iX2_count_75 <| okIret iX2_count_78 rfl)))) (tNode (tLeaf (okAldn iX2_count_79 rfl <| okGet (vFgL) iX2_count_80 <| okGet (vFgL) iX2_count_83 <| okIret iX2_count_86 rfl)) (tNode (tLeaf (okAldn iX2_count_87 rfl <| okGet (vFgL) iX2_count_88 <| okGet (vFgL) iX2_count_91 <| okIret iX2_count_94 rfl)) (tLeaf (okAldn iX2_count_95 rfl <| okGet (vFgL) iX2_count_96 <| okGet (vFgL) iX2_count_99 <| okIret iX2_count_102 rfl))))) (tNode (tNode (tLeaf (okAldn iX2_count_103 rfl <| okGet (vFgL) iX2_count_104 <| okGet (vFgL) iX2_count_107 <| okGet (vFgL) iX2_count_110 <| okIret iX2_count_113 rfl)) (tNode (tLeaf (okAldn iX2_count_114 rfl <| okGet (vFgL) iX2_count_115 <| okGet (vFgL) iX2_count_118 <| okGet (vFgL) iX2_count_121 <| okIret iX2_count_124 rfl)) (tLeaf (okAldn iX2_count_125 rfl <| okGet (vFgL) iX2_count_126 <| okGet (vFgL) iX2_count_129 <| okIret iX2_count_132 rfl)))) (tNode (tNode (tLeaf (okAldn iX2_count_133 rfl <| okGet (vFgL) iX2_count_134 <| okIret iX2_count_137 rfl)) (tLeaf (okAldn iX2_count_138 rfl <| okGet (vFgL) iX2_count_139 <| okIret iX2_count_142 rfl))) (tNode (tLeaf (okAldn iX2_count_143 rfl <| okGet (vFgL) iX2_count_144 <| okIret iX2_count_147 rfl)) (tLeaf (okIc iX2_count_148 <| okIret iX2_count_149 rfl)))))) pc
def fAt (s : LSt) (k t : Int) : Int × LSt := if (0 ≤ k ∧ k < 6) ∧ 0 ≤ t ∧ t ≤ 9999 then (if wFirst (s.2.2 0) k t < 0 then (-2, s) else (wFirst (s.2.2 0) k t, lTell1 s (wMany (s.2.2 0) (wFirst (s.2.2 0) k t) k t))) else (-1, s)
def sX2_at : Int → Int → LSt → KL → Prop := fun k t s K => (xB k ∧ xB t) ∧ K [pI (fAt s k t).1] (fAt s k t).2
theorem mX2_at_ok : mOk encL bdL mX2_at (atR 0 (a2 sX2_at)) := by
  refine mOVa2 kX2_at (fun _ _ => rfl) (fun k t s K h hb => wx_J [] 9 tX2_at_ok rfl (fun J hR hJ => ?_))
  obtain ⟨⟨h1, h2⟩, hK⟩ := h
  unfold fAt at hK
  by_cases c : (0 ≤ k ∧ k < 6) ∧ 0 ≤ t ∧ t ≤ 9999
  · rw [if_pos c] at hK
    by_cases c2 : wFirst (s.2.2 0) k t < 0
    · rw [if_pos c2] at hK
      repeat' (first | (refine And.intro ?_ ?_) | intro _)
      all_goals first | omega | exact hR _ _ hK
    · rw [if_neg c2] at hK
      repeat' (first | (refine And.intro ?_ ?_) | intro _)
      all_goals first | omega | exact hR _ _ hK
  · rw [if_neg c] at hK
    repeat' (first | (refine And.intro ?_ ?_) | intro _)
    all_goals first | omega | exact hR _ _ hK
def fSent (s : LSt) (k : Int) : Int × LSt := if 0 ≤ k ∧ k < 4 then (wSentOf (s.2.2 0) k, lTell1 s ((s.2.2 0).1 4)) else (-1, s)
def sX2_sent : Int → LSt → KL → Prop := fun k s K => xB k ∧ K [pI (fSent s k).1] (fSent s k).2
theorem mX2_sent_ok : mOk encL bdL mX2_sent (atR 0 (a1 sX2_sent)) := by
  refine mOVa1 kX2_sent (fun _ => rfl) (fun k s K h hb => wx_J [] 9 tX2_sent_ok rfl (fun J hR hJ => ?_))
  obtain ⟨h1, hK⟩ := h
  have hs := hb.2.2 0
  have h4 := hs.1 4
  unfold fSent at hK
  by_cases c : 0 ≤ k ∧ k < 4
  · rw [if_pos c] at hK
    have hK2 : K [pI (wSentOf ((lTell1 s ((s.2.2 0).1 4)).2.2 0) k)] (lTell1 s ((s.2.2 0).1 4)) := by rw [lTell1_w]; exact hK
    repeat' (first | (refine And.intro ?_ ?_) | intro _)
    all_goals first | omega | exact hR _ _ hK2
  · rw [if_neg c] at hK
    repeat' (first | (refine And.intro ?_ ?_) | intro _)
    all_goals first | omega | exact hR _ _ hK
def fClosed (s : LSt) (k : Int) : Int × LSt := if 0 ≤ k ∧ k < 6 then (wG (s.2.2 0) 5 k 4, lTell3 s (wG (s.2.2 0) 5 k 5) (wG (s.2.2 0) 5 k 6) (wG (s.2.2 0) 5 k 7)) else (-1, s)
def sX2_closed : Int → LSt → KL → Prop := fun k s K => xB k ∧ K [pI (fClosed s k).1] (fClosed s k).2
theorem mX2_closed_ok : mOk encL bdL mX2_closed (atR 0 (a1 sX2_closed)) := by
  refine mOVa1 kX2_closed (fun _ => rfl) (fun k s K h hb => wx_J [] 9 tX2_closed_ok rfl (fun J hR hJ => ?_))
  obtain ⟨h1, hK⟩ := h
  unfold fClosed at hK
  by_cases c : 0 ≤ k ∧ k < 6
  · rw [if_pos c] at hK
    have hK2 : K [pI (wG ((lTell3 s (wG (s.2.2 0) 5 k 5) (wG (s.2.2 0) 5 k 6) (wG (s.2.2 0) 5 k 7)).2.2 0) 5 k 4)] (lTell3 s (wG (s.2.2 0) 5 k 5) (wG (s.2.2 0) 5 k 6) (wG (s.2.2 0) 5 k 7)) := by rw [lTell3_w]; exact hK
    repeat' (first | (refine And.intro ?_ ?_) | intro _)
    all_goals first | omega | exact hR _ _ hK2
  · rw [if_neg c] at hK
    repeat' (first | (refine And.intro ?_ ?_) | intro _)
    all_goals first | omega | exact hR _ _ hK
def fTaken (s : LSt) : Int × LSt := ((s.2.2 0).1 6, lTell3 s ((s.2.2 0).1 7) ((s.2.2 0).1 8) ((s.2.2 0).1 9))
def sX2_taken : LSt → KL → Prop := fun s K => K [pI (fTaken s).1] (fTaken s).2
theorem mX2_taken_ok : mOk encL bdL mX2_taken (atR 0 (a0 sX2_taken)) := by
  refine mOVa0 kX2_taken (fun _ => rfl) (fun s K h hb => wx_J [] 9 tX2_taken_ok rfl (fun J hR hJ => ?_))
  have hK : K [pI (fTaken s).1] (fTaken s).2 := h
  unfold fTaken at hK
  have hK2 : K [pI (((lTell3 s ((s.2.2 0).1 7) ((s.2.2 0).1 8) ((s.2.2 0).1 9)).2.2 0).1 6)] (lTell3 s ((s.2.2 0).1 7) ((s.2.2 0).1 8) ((s.2.2 0).1 9)) := by rw [lTell3_w]; exact hK
  repeat' (first | (refine And.intro ?_ ?_) | intro _)
  all_goals first | omega | exact hR _ _ hK2
def fWould (s : LSt) (k t v r : Int) : Int × LSt := if lEv s k t v r then
  let w := s.2.2 0
  let s1 := setW s 1 (wCopy (s.2.2 1) w)
  let w2 := wPlayE (s1.2.2 1) k t v r
  (wFate (s1.2.2 1) t, lTell2 (setW s1 1 w2) (if wFate (s1.2.2 1) t = 2 then 0 else wMany w (wFirst w k t) k t) (wI (w2.1 4 - w.1 4))) else (-1, s)
def sX2_would : Int → Int → Int → Int → LSt → KL → Prop := fun k t v r s K => (xB k ∧ xB t ∧ xB v ∧ xB r ∧ lok s) ∧ K [pI (fWould s k t v r).1] (fWould s k t v r).2
theorem mX2_would_ok : mOk encL bdL mX2_would (atR 0 (a4 sX2_would)) := by
  refine mOVa4 kX2_would (fun _ _ _ _ => rfl) (fun k t v r s K h hb => wx_J [] 9 tX2_would_ok rfl (fun J hR hJ => ?_))
  obtain ⟨⟨h1, h2, h3, h4, h5⟩, hK⟩ := h
  have hw := h5.2.2.2 0 (by decide)
  have hw1 := h5.2.2.2 1 (by decide)
  have hw2 : wok ((setW s 1 (wCopy (s.2.2 1) (s.2.2 0))).2.2 1) := wok_Copy hw1 hw
  unfold fWould at hK
  by_cases c : lEv s k t v r
  · rw [if_pos c] at hK
    dsimp only at hK
    by_cases c2 : wFate ((setW s 1 (wCopy (s.2.2 1) (s.2.2 0))).2.2 1) t = 2
    · rw [if_pos c2] at hK
      repeat' (first | (refine And.intro ?_ ?_) | intro _)
      all_goals first | omega | exact (hw _ (by assumption)).1 | exact (hw _ (by assumption)).2 | exact (hw2 _ (by assumption)).1 | exact (hw2 _ (by assumption)).2 | exact hR _ _ hK | (exact absurd c2 ‹_›) | contradiction
    · rw [if_neg c2] at hK
      repeat' (first | (refine And.intro ?_ ?_) | intro _)
      all_goals first | omega | exact (hw _ (by assumption)).1 | exact (hw _ (by assumption)).2 | exact (hw2 _ (by assumption)).1 | exact (hw2 _ (by assumption)).2 | exact hR _ _ hK | (exact absurd ‹_› c2) | contradiction
  · rw [if_neg c] at hK
    repeat' (first | (refine And.intro ?_ ?_) | intro _)
    all_goals first | omega | exact (hw _ (by assumption)).1 | exact (hw _ (by assumption)).2 | exact hR _ _ hK | contradiction
theorem tell3K {K : KL} {s1 : LSt} {x y z : Int} (h : K [pI ((s1.2.2 1).1 3)] (lTell3 s1 x y z)) : K [pI (((lTell3 s1 x y z).2.2 1).1 3)] (lTell3 s1 x y z) := by
  rw [lTell3_w]; exact h
def fWithout (s : LSt) (r : Int) : Int × LSt := if lSrc s r then (if wZ (s.2.2 0) 0 = 1 then (-2, s) else
  let s1 := lReplay s ((s.2.2 0).1 0) ((s.2.2 0).1 1) ((s.2.2 0).1 2) r
  ((s1.2.2 1).1 3, lTell3 s1 ((s1.2.2 1).1 8) (wZ (s1.2.2 1) 1) ((s1.2.2 1).1 5))) else (-1, s)
def sX2_without : Int → LSt → KL → Prop := fun r s K => (xB r ∧ lok s) ∧ K [pI (fWithout s r).1] (fWithout s r).2
theorem mX2_without_ok : mOk encL bdL mX2_without (atR 0 (a1 sX2_without)) := by
  refine mOVa1 kX2_without (fun _ => rfl) (fun r s K h hb => wx_J [] 9 tX2_without_ok rfl (fun J hR hJ => ?_))
  obtain ⟨⟨h1, h5⟩, hK⟩ := h
  have hw := h5.2.2.2 0 (by decide)
  have hw1 := h5.2.2.2 1 (by decide)
  have hz : xB (wZ (s.2.2 0) 0) := ((hb.2.2 0).2 0).1
  unfold fWithout at hK
  refine ⟨h1, fun c => ?_, fun c => ?_⟩
  · rw [if_pos c] at hK
    refine ⟨⟨by omega, by omega⟩, fun _ _ => ⟨⟨hz, ⟨by omega, by omega⟩⟩, fun c2 => ?_, fun c2 => ?_⟩, fun q => absurd q (by omega)⟩
    · have c2 : wZ (s.2.2 0) 0 ≠ 1 := c2
      rw [if_neg c2] at hK
      exact fun g0 g1 g2 => ⟨⟨g0, g1, g2, h1, hw, hw1⟩, fun e8 => ⟨e8, fun ez => ⟨ez, fun e5 => ⟨e5, ⟨e8, ez, e5⟩, fun e3 => hR _ _ (tell3K hK)⟩⟩⟩⟩
    · have c2 : wZ (s.2.2 0) 0 = 1 := c2
      rw [if_pos c2] at hK
      exact hR _ _ hK
  · rw [if_neg c] at hK
    refine ⟨⟨by omega, by omega⟩, fun q => absurd rfl q, fun _ => hR _ _ hK⟩
/-- undone, kept -/
def fUndo (s : LSt) : Int × LSt := if s.1 1 = 0 then (-1, s) else
  let j := 2 + (Int.tmod (s.1 0 + (s.1 1 - 1)) 6).toNat
  (s.1 1 - 1, setW (setS s 1 (s.1 1 - 1)) 0 (wCopy (s.2.2 0) (s.2.2 j)))
def sX2_undo : LSt → KL → Prop := fun s K => lok s ∧ K [pI (fUndo s).1] (fUndo s).2
theorem mX2_undo_ok : mOk encL bdL mX2_undo (atR 0 (a0 sX2_undo)) := by
  refine mOVa0 kX2_undo (fun _ => rfl) (fun s K h hb => wx_J [] 9 tX2_undo_ok rfl (fun J hR hJ => ?_))
  obtain ⟨h5, hK⟩ := h
  obtain ⟨⟨⟨u1, u2⟩, u3, u4⟩, -, -, hws⟩ := h5
  unfold fUndo at hK
  by_cases c : s.1 1 = 0
  · rw [if_pos c] at hK
    repeat' (first | (refine And.intro ?_ ?_) | intro _)
    all_goals first | omega | exact hR _ _ hK
  · rw [if_neg c] at hK
    dsimp only at hK
    have t1 := Int.tmod_lt_of_pos (s.1 0 + (s.1 1 - 1)) (b := 6) (by omega)
    have t2 := Int.tmod_nonneg (a := s.1 0 + (s.1 1 - 1)) 6 (by omega)
    refine fun _ => ⟨⟨by omega, by omega⟩, fun _ => ?_, fun q => absurd q c⟩
    intro _
    refine ⟨⟨by omega, by omega⟩, ?_⟩
    intro _ _
    refine ⟨⟨by omega, ⟨?_, ?_⟩, ⟨by omega, by omega⟩⟩, ⟨t2, t1⟩, fun j hj ej => ?_⟩
    · show -2147483648 ≤ s.1 0 + (s.1 1 - 1)
      omega
    · show s.1 0 + (s.1 1 - 1) ≤ 2147483647
      omega
    · have ej2 : Int.tmod (s.1 0 + (s.1 1 - 1)) 6 = (j : Int) := ej
      rw [show (Int.tmod (s.1 0 + (s.1 1 - 1)) 6).toNat = j by omega] at hK
      match j, hj with
      | 0, _ => exact ⟨hws 2 (by decide), fun _ => hR _ _ hK⟩
      | 1, _ => exact ⟨hws 3 (by decide), fun _ => hR _ _ hK⟩
      | 2, _ => exact ⟨hws 4 (by decide), fun _ => hR _ _ hK⟩
      | 3, _ => exact ⟨hws 5 (by decide), fun _ => hR _ _ hK⟩
      | 4, _ => exact ⟨hws 6 (by decide), fun _ => hR _ _ hK⟩
      | 5, _ => exact ⟨hws 7 (by decide), fun _ => hR _ _ hK⟩
      | j + 6, hj => exact absurd hj (by omega)
end
-- 45.Lh
section
/-! ===== LateSessions: kept, counted, played again ===== -/
section INCW
variable {σ : Type} {enc : σ → XH} {bd : σ → Prop} {M : XI} {rc rs pc pc2 : Nat} {B : Blk σ}
def oIncW (i : Nat) (n : Int) (B : Blk σ) : Blk σ := fun J L st s => match xl_n L i with
  | some (some (.inl z)) => bif pk L i then (xB (wI (z + n)) → B J (xl_s L i (some (.inl (wI (z + n))))) st s) else False
  | _ => False
theorem okIncW {i : Nat} {n : Int} (d : xl_D M pc (.iinc i n) 3 pc2) (hn : i < M.2.2.1) (k : bOk enc bd M rc rs pc2 B) : bOk enc bd M rc rs pc (oIncW i n B) := by
  intro Po Pt J hJ L st s hb h
  unfold oIncW at h
  split at h
  · next z hz => 
    obtain ⟨h1, h2⟩ := condT h
    have := k Po Pt J hJ _ _ _ hb (h2 (wI_B _))
    rw [← eL_s, pV_wI] at this
    exact xz_iinc d (eL_at hz) (pk_ok _ _ h1) hn this
  · exact h.elim
end INCW
def bitOf (i : Int) : Int := (iI 1 <<< (iI i &&& 31)).toInt
def fKeep (s : LSt) (i : Int) : Int × LSt := if 0 ≤ i ∧ i < 2 then (1, setS (setW s (8 + i.toNat) (wCopy (s.2.2 (8 + i.toNat)) (s.2.2 0))) 2 (iI (s.1 2) ||| iI (bitOf i)).toInt) else (0, s)
def sX2_keep : Int → LSt → KL → Prop := fun i s K => (xB i ∧ lok s) ∧ K [pI (fKeep s i).1] (fKeep s i).2
theorem mX2_keep_ok : mOk encL bdL mX2_keep (atR 0 (a1 sX2_keep)) := by
  refine mOVa1 kX2_keep (fun _ => rfl) (fun i s K h hb => wx_J [] 9 tX2_keep_ok rfl (fun J hR hJ => ?_))
  obtain ⟨⟨h1, h5⟩, hK⟩ := h
  have hw := h5.2.2.2 0 (by decide)
  unfold fKeep at hK
  by_cases c : 0 ≤ i ∧ i < 2
  · rw [if_pos c] at hK
    refine ⟨h1, fun q => absurd q (by omega), fun _ => ⟨⟨h1, ⟨by omega, by omega⟩⟩, fun _ => ?_, fun q => absurd q (by omega)⟩⟩
    refine ⟨c, fun j hj ej => ?_⟩
    rw [show i.toNat = j by omega] at hK
    match j, hj with
    | 0, _ => exact ⟨hw, fun _ => ⟨xb_of _, ⟨Or.inr rfl, hR _ _ hK⟩⟩⟩
    | 1, _ => exact ⟨hw, fun _ => ⟨xb_of _, ⟨Or.inr rfl, hR _ _ hK⟩⟩⟩
    | j + 2, hj => exact absurd hj (by omega)
  · rw [if_neg c] at hK
    refine ⟨h1, fun q => ⟨Or.inl rfl, hR _ _ hK⟩, fun _ => ⟨⟨h1, ⟨by omega, by omega⟩⟩, fun q => absurd q (by omega), fun q => ⟨Or.inl rfl, hR _ _ hK⟩⟩⟩
def fBack (s : LSt) (i : Int) : Int × LSt := if (0 ≤ i ∧ i < 2) ∧ (iI (s.1 2) &&& iI (bitOf i)).toInt ≠ 0 then (1, setS (setW s 0 (wCopy (s.2.2 0) (s.2.2 (8 + i.toNat)))) 1 0) else (0, s)
def sX2_back : Int → LSt → KL → Prop := fun i s K => (xB i ∧ lok s) ∧ K [pI (fBack s i).1] (fBack s i).2
theorem mX2_back_ok : mOk encL bdL mX2_back (atR 0 (a1 sX2_back)) := by
  refine mOVa1 kX2_back (fun _ => rfl) (fun i s K h hb => wx_J [] 9 tX2_back_ok rfl (fun J hR hJ => ?_))
  obtain ⟨⟨h1, h5⟩, hK⟩ := h
  have hx := h5.2.2.2
  unfold fBack at hK
  by_cases c : 0 ≤ i ∧ i < 2
  · by_cases c2 : (iI (s.1 2) &&& iI (bitOf i)).toInt ≠ 0
    · rw [if_pos ⟨c, c2⟩] at hK
      refine ⟨h1, fun q => absurd q (by omega), fun _ => ⟨⟨h1, ⟨by omega, by omega⟩⟩, fun q => absurd q (by omega), fun _ _ => ⟨xb_of _, fun _ => ?_, fun q => absurd q c2⟩⟩⟩
      refine ⟨c, fun j hj ej => ?_⟩
      rw [show i.toNat = j by omega] at hK
      match j, hj with
      | 0, _ => exact ⟨hx 8 (by decide), ⟨by omega, by omega⟩, ⟨Or.inr rfl, hR _ _ hK⟩⟩
      | 1, _ => exact ⟨hx 9 (by decide), ⟨by omega, by omega⟩, ⟨Or.inr rfl, hR _ _ hK⟩⟩
      | j + 2, hj => exact absurd hj (by omega)
    · rw [if_neg (fun q => c2 q.2)] at hK
      refine ⟨h1, fun q => absurd q (by omega), fun _ => ⟨⟨h1, ⟨by omega, by omega⟩⟩, fun q => absurd q (by omega), fun _ _ => ⟨xb_of _, fun q => absurd q c2, fun q => ⟨Or.inl rfl, hR _ _ hK⟩⟩⟩⟩
  · rw [if_neg (fun q => c q.1)] at hK
    refine ⟨h1, fun q => ⟨Or.inl rfl, hR _ _ hK⟩, fun _ => ⟨⟨h1, ⟨by omega, by omega⟩⟩, fun q => ⟨Or.inl rfl, hR _ _ hK⟩, fun q => absurd q (by omega)⟩⟩
def fCount (s : LSt) (a : Int) : Int :=
  let w := s.2.2 0
  if a = 0 then wZ w 0 else if a = 1 then w.1 0 else if a = 2 then w.1 1 else if a = 3 then w.1 2 else if a = 4 then w.1 3 else if a = 5 then wZ w 1 else if a = 6 then wZ w 4 else if a = 7 then w.1 4 else if a = 8 then s.1 1 else if a = 9 then s.1 3 else if a = 10 then s.1 4 else -1
def sX2_count : Int → LSt → KL → Prop := fun a s K => xB a ∧ K [pI (fCount s a)] s
theorem mX2_count_ok : mOk encL bdL mX2_count (atR 0 (a1 sX2_count)) := by
  refine mOVa1 kX2_count (fun _ => rfl) (fun a s K h hb => wx_J [] 9 tX2_count_ok rfl (fun J hR hJ => ?_))
  obtain ⟨h1, hK⟩ := h
  unfold fCount at hK
  dsimp only at hK
  refine ⟨h1, fun c => ?_, fun c => ?_, fun c => ?_, fun c => ?_, fun c => ?_, fun c => ?_, fun c => ?_, fun c => ?_, fun c => ?_, fun c => ?_, fun c => ?_, fun c => ?_⟩
  · rw [if_pos (show a = 0 by omega)] at hK
    repeat' (first | (refine And.intro ?_ ?_) | intro _)
    all_goals first | omega | exact hR _ _ hK
  · rw [if_neg (show ¬ a = 0 by omega), if_pos (show a = 1 by omega)] at hK
    repeat' (first | (refine And.intro ?_ ?_) | intro _)
    all_goals first | omega | exact hR _ _ hK
  · rw [if_neg (show ¬ a = 0 by omega), if_neg (show ¬ a = 1 by omega), if_pos (show a = 2 by omega)] at hK
    repeat' (first | (refine And.intro ?_ ?_) | intro _)
    all_goals first | omega | exact hR _ _ hK
  · rw [if_neg (show ¬ a = 0 by omega), if_neg (show ¬ a = 1 by omega), if_neg (show ¬ a = 2 by omega), if_pos (show a = 3 by omega)] at hK
    repeat' (first | (refine And.intro ?_ ?_) | intro _)
    all_goals first | omega | exact hR _ _ hK
  · rw [if_neg (show ¬ a = 0 by omega), if_neg (show ¬ a = 1 by omega), if_neg (show ¬ a = 2 by omega), if_neg (show ¬ a = 3 by omega), if_pos (show a = 4 by omega)] at hK
    repeat' (first | (refine And.intro ?_ ?_) | intro _)
    all_goals first | omega | exact hR _ _ hK
  · rw [if_neg (show ¬ a = 0 by omega), if_neg (show ¬ a = 1 by omega), if_neg (show ¬ a = 2 by omega), if_neg (show ¬ a = 3 by omega), if_neg (show ¬ a = 4 by omega), if_pos (show a = 5 by omega)] at hK
    repeat' (first | (refine And.intro ?_ ?_) | intro _)
    all_goals first | omega | exact hR _ _ hK
  · rw [if_neg (show ¬ a = 0 by omega), if_neg (show ¬ a = 1 by omega), if_neg (show ¬ a = 2 by omega), if_neg (show ¬ a = 3 by omega), if_neg (show ¬ a = 4 by omega), if_neg (show ¬ a = 5 by omega), if_pos (show a = 6 by omega)] at hK
    repeat' (first | (refine And.intro ?_ ?_) | intro _)
    all_goals first | omega | exact hR _ _ hK
  · rw [if_neg (show ¬ a = 0 by omega), if_neg (show ¬ a = 1 by omega), if_neg (show ¬ a = 2 by omega), if_neg (show ¬ a = 3 by omega), if_neg (show ¬ a = 4 by omega), if_neg (show ¬ a = 5 by omega), if_neg (show ¬ a = 6 by omega), if_pos (show a = 7 by omega)] at hK
    repeat' (first | (refine And.intro ?_ ?_) | intro _)
    all_goals first | omega | exact hR _ _ hK
  · rw [if_neg (show ¬ a = 0 by omega), if_neg (show ¬ a = 1 by omega), if_neg (show ¬ a = 2 by omega), if_neg (show ¬ a = 3 by omega), if_neg (show ¬ a = 4 by omega), if_neg (show ¬ a = 5 by omega), if_neg (show ¬ a = 6 by omega), if_neg (show ¬ a = 7 by omega), if_pos (show a = 8 by omega)] at hK
    repeat' (first | (refine And.intro ?_ ?_) | intro _)
    all_goals first | omega | exact hR _ _ hK
  · rw [if_neg (show ¬ a = 0 by omega), if_neg (show ¬ a = 1 by omega), if_neg (show ¬ a = 2 by omega), if_neg (show ¬ a = 3 by omega), if_neg (show ¬ a = 4 by omega), if_neg (show ¬ a = 5 by omega), if_neg (show ¬ a = 6 by omega), if_neg (show ¬ a = 7 by omega), if_neg (show ¬ a = 8 by omega), if_pos (show a = 9 by omega)] at hK
    repeat' (first | (refine And.intro ?_ ?_) | intro _)
    all_goals first | omega | exact hR _ _ hK
  · rw [if_neg (show ¬ a = 0 by omega), if_neg (show ¬ a = 1 by omega), if_neg (show ¬ a = 2 by omega), if_neg (show ¬ a = 3 by omega), if_neg (show ¬ a = 4 by omega), if_neg (show ¬ a = 5 by omega), if_neg (show ¬ a = 6 by omega), if_neg (show ¬ a = 7 by omega), if_neg (show ¬ a = 8 by omega), if_neg (show ¬ a = 9 by omega), if_pos (show a = 10 by omega)] at hK
    repeat' (first | (refine And.intro ?_ ?_) | intro _)
    all_goals first | omega | exact hR _ _ hK
  · rw [if_neg (show ¬ a = 0 by omega), if_neg (show ¬ a = 1 by omega), if_neg (show ¬ a = 2 by omega), if_neg (show ¬ a = 3 by omega), if_neg (show ¬ a = 4 by omega), if_neg (show ¬ a = 5 by omega), if_neg (show ¬ a = 6 by omega), if_neg (show ¬ a = 7 by omega), if_neg (show ¬ a = 8 by omega), if_neg (show ¬ a = 9 by omega), if_neg (show ¬ a = 10 by omega)] at hK
    repeat' (first | (refine And.intro ?_ ?_) | intro _)
    all_goals first | omega | exact hR _ _ hK
-- X2_again: heads [26]
def tX2_again : Nat → Blk LSt := fun pc => bif Nat.blt pc 26 then (bif Nat.blt pc 11 then (bif Nat.beq pc 0 then (oIld 1 <| oIld 2 <| oIld 3 <| oC3 (cL_X2_areSettings) <| oZNe 11 <| oI (-1) <| oIret) else oNo) else (bif Nat.beq pc 11 then (oAld 0 <| oIld 1 <| oIld 2 <| oIld 3 <| oI (-1) <| oC5 (cL_X2_replay) <| oAld 0 <| oC1 (cL_X2_tellNothing) <| oI 0 <| oIst 4 <| oM [true, false, false, false, true] (oTo 26)) else oNo)) else (bif Nat.blt pc 52 then (bif Nat.beq pc 26 then (oIld 4 <| oI 4 <| oCGe 52 <| oAld 0 <| oAld 0 <| oGet (fgL) 2 1 <| oIld 4 <| oC2 (cL_X1_sentOf) <| oI2l <| oC2 (cL_X2_tellMore) <| oInc 4 1 <| oM [true, false, false, false, true] (oTo 26)) else oNo) else (bif Nat.beq pc 52 then (oAld 0 <| oAld 0 <| oGet (fgL) 2 1 <| oGet (fgL) 1 11 <| oGet (fgL) 0 3 <| oI2l <| oC2 (cL_X2_tellMore) <| oAld 0 <| oAld 0 <| oGet (fgL) 2 1 <| oGet (fgL) 1 5 <| oI2l <| oC2 (cL_X2_tellMore) <| oAld 0 <| oGet (fgL) 2 1 <| oGet (fgL) 1 8 <| oIret) else oNo))
theorem tX2_again_ok : ∀ pc, bOk (encL) (bdL) mX2_again 0 0 pc (tX2_again pc) := fun pc => (tNode (tNode (tLeaf (okIldn iX2_again_0 rfl <| okIldn iX2_again_1 rfl <| okIldn iX2_again_2 rfl <| okC3 (qL_X2_areSettings iX2_again_3) <| okZNe (tl rfl) iX2_again_6 <| okIc iX2_again_9 <| okIret iX2_again_10 rfl)) (tLeaf (okAldn iX2_again_11 rfl <| okIldn iX2_again_12 rfl <| okIldn iX2_again_13 rfl <| okIldn iX2_again_14 rfl <| okIc iX2_again_15 <| okC5 (qL_X2_replay iX2_again_16) <| okAldn iX2_again_19 rfl <| okC1 (qL_X2_tellNothing iX2_again_20) <| okIc iX2_again_23 <| okIst iX2_again_24 (by decide) <| okM (okTo (tl rfl))))) (tNode (tLeaf (okIld iX2_again_26 <| okIc iX2_again_28 <| okCGe (tl rfl) iX2_again_29 <| okAldn iX2_again_32 rfl <| okAldn iX2_again_33 rfl <| okGet (vFgL) iX2_again_34 <| okIld iX2_again_37 <| okC2 (qL_X1_sentOf iX2_again_39) <| okI2l iX2_again_42 <| okC2 (qL_X2_tellMore iX2_again_43) <| okInc iX2_again_46 (by decide) <| okGotoM (tl rfl) iX2_again_49)) (tLeaf (okAldn iX2_again_52 rfl <| okAldn iX2_again_53 rfl <| okGet (vFgL) iX2_again_54 <| okGet (vFgL) iX2_again_57 <| okGet (vFgL) iX2_again_60 <| okI2l iX2_again_63 <| okC2 (qL_X2_tellMore iX2_again_64) <| okAldn iX2_again_67 rfl <| okAldn iX2_again_68 rfl <| okGet (vFgL) iX2_again_69 <| okGet (vFgL) iX2_again_72 <| okI2l iX2_again_75 <| okC2 (qL_X2_tellMore iX2_again_76) <| okAldn iX2_again_79 rfl <| okGet (vFgL) iX2_again_80 <| okGet (vFgL) iX2_again_83 <| okIret iX2_again_86 rfl)))) pc
theorem lTell_w {s : LSt} {x : Int} : (lTell s x).2.2 = s.2.2 := by
  unfold lTell
  split <;> rfl
theorem lTell_n {s : LSt} {x : Int} (h : 0 ≤ s.1 3) : 0 ≤ (lTell s x).1 3 := by
  unfold lTell
  split
  · show 0 ≤ s.1 3 + 1
    omega
  · exact h
def agL2 : Nat → Int → LSt → LSt
  | 0, _, s => s
  | m + 1, k, s => agL2 m (k + 1) (lTell s (wSentOf (s.2.2 1) k))
def fAgain (s : LSt) (g l e : Int) : Int × LSt := if okSet g l e then
  let s1 := lReplay s g l e (-1)
  (((s1.2.2 1).1 8), lTell (lTell (agL2 4 0 (setS s1 3 0)) (wZ (s1.2.2 1) 1)) ((s1.2.2 1).1 5)) else (-1, s)
theorem agL2_w : ∀ (m : Nat) (k : Int) (s : LSt), (agL2 m k s).2.2 = s.2.2
  | 0, _, _ => rfl
  | m + 1, k, s => by rw [agL2, agL2_w m]; exact lTell_w
theorem agL2_n : ∀ (m : Nat) (k : Int) (s : LSt), 0 ≤ s.1 3 → 0 ≤ (agL2 m k s).1 3
  | 0, _, _, h => h
  | m + 1, k, s, h => by rw [agL2]; exact agL2_n m _ _ (lTell_n h)
theorem X2_again_loop {K : KL} {Pt : LSt → Prop} : ∀ (m : Nat) (k : Int) (s : LSt), 0 ≤ s.1 3 → 0 ≤ k → k ≤ 4 → m = (4 - k).toNat → K [pI (((s.2.2 1).1 8))] (lTell (lTell (agL2 m k s) (wZ (s.2.2 1) 1)) ((s.2.2 1).1 5)) → wX encL bdL mX2_again 0 0 K Pt 26 [some (pR 0), none, none, none, some (pI k)] [] s := by
  intro m
  induction m with
  | zero =>
    intro k s hn h0 h1 hm hK
    refine wx_Jb [26] 9 tX2_again_ok rfl (fun hb J hR hJ => ?_)
    rw [agL2] at hK
    have hz : xB (wZ (s.2.2 1) 1) := ((hb.2.2 1).2 1).1
    have e1 : (lTell s (wZ (s.2.2 1) 1)).2.2 = s.2.2 := lTell_w
    have e2 : (lTell (lTell s (wZ (s.2.2 1) 1)) ((s.2.2 1).1 5)).2.2 = s.2.2 := lTell_w.trans e1
    have hn2 : 0 ≤ (lTell s (wZ (s.2.2 1) 1)).1 3 := lTell_n hn
    refine ⟨⟨⟨by omega, by omega⟩, ⟨by omega, by omega⟩⟩, fun _ => ?_, fun c => absurd c (by omega)⟩
    intro _
    refine ⟨hz, ⟨hz, hn⟩, fun b5 => ⟨b5, ⟨b5, hn2⟩, fun b8 => ?_⟩⟩
    refine hR _ _ ?_
    have hK2 : K [pI ((((lTell (lTell s (wZ (s.2.2 1) 1)) (((lTell s (wZ (s.2.2 1) 1)).2.2 1).1 5)).2.2 1).1 8))] (lTell (lTell s (wZ (s.2.2 1) 1)) (((lTell s (wZ (s.2.2 1) 1)).2.2 1).1 5)) := by
      rw [lTell_w, e1]; exact hK
    exact hK2
  | succ m ih =>
    intro k s hn h0 h1 hm hK
    refine wx_J [26] 9 tX2_again_ok rfl (fun J hR hJ => ?_)
    rw [agL2] at hK
    have e1 : (lTell s (wSentOf (s.2.2 1) k)).2.2 = s.2.2 := lTell_w
    have g := ih (k + 1) (lTell s (wSentOf (s.2.2 1) k)) (lTell_n hn) (by omega) (by omega) (by omega) (by rw [e1]; exact hK)
    repeat' (first | (refine And.intro ?_ ?_) | intro _)
    all_goals first | omega | exact hJ _ _ _ _ g
def sX2_again : Int → Int → Int → LSt → KL → Prop := fun g l e s K => (xB g ∧ xB l ∧ xB e ∧ lok s) ∧ K [pI (fAgain s g l e).1] (fAgain s g l e).2
theorem mX2_again_ok : mOk encL bdL mX2_again (atR 0 (a3 sX2_again)) := by
  refine mOVa3 kX2_again (fun _ _ _ => rfl) (fun g l e s K h hb => wx_J [26] 9 tX2_again_ok rfl (fun J hR hJ => ?_))
  obtain ⟨⟨h1, h2, h3, h5⟩, hK⟩ := h
  have hw := h5.2.2.2 0 (by decide)
  have hw1 := h5.2.2.2 1 (by decide)
  unfold fAgain at hK
  refine ⟨⟨h1, h2, h3⟩, fun c => ?_, fun c => ?_⟩
  · rw [if_pos c] at hK
    have q := X2_again_loop (K := K) (Pt := fun _ => False) 4 0 (setS (lReplay s g l e (-1)) 3 0) (by show (0 : Int) ≤ 0; omega) (by omega) (by omega) (by omega) hK
    exact ⟨⟨by omega, by omega⟩, fun _ => ⟨⟨h1, h2, h3, ⟨by omega, by omega⟩, hw, hw1⟩, hJ _ _ _ _ q⟩, fun q => absurd q (by omega)⟩
  · rw [if_neg c] at hK
    exact ⟨⟨by omega, by omega⟩, fun q => absurd rfl q, fun _ => hR _ _ hK⟩
end
-- 46.Li
section
/-! ===== LateSessions: its face, questions with loops ===== -/
-- X2_stands: heads [9, 74]
def tX2_stands : Nat → Blk LSt := fun pc => bif Nat.blt pc 74 then (bif Nat.blt pc 9 then (bif Nat.beq pc 0 then (oI 0 <| oIst 1 <| oI 0 <| oIst 2 <| oI 0 <| oIst 3 <| oI 0 <| oIst 4 <| oM [true, true, true, true, true] (oTo 9)) else oNo) else (bif Nat.blt pc 71 then (bif Nat.beq pc 9 then (oIld 4 <| oI 6 <| oCGe 71 <| oIld 1 <| oAld 0 <| oGet (fgL) 2 0 <| oGet (fgL) 1 15 <| oIld 4 <| oI 4 <| oC3 (cL_X0_get) <| oAddW <| oIst 1 <| oIld 2 <| oAld 0 <| oGet (fgL) 2 0 <| oGet (fgL) 1 15 <| oIld 4 <| oI 5 <| oC3 (cL_X0_get) <| oAddW <| oIst 2 <| oIld 3 <| oAld 0 <| oGet (fgL) 2 0 <| oGet (fgL) 1 15 <| oIld 4 <| oI 6 <| oC3 (cL_X0_get) <| oAddW <| oIst 3 <| oInc 4 1 <| oM [true, true, true, true, true] (oTo 9)) else oNo) else (bif Nat.beq pc 71 then (oI 0 <| oIst 4 <| oM [true, true, true, true, true] (oTo 74)) else oNo))) else (bif Nat.blt pc 136 then (bif Nat.beq pc 74 then (oIld 4 <| oAld 0 <| oGet (fgL) 2 0 <| oGet (fgL) 1 11 <| oGet (fgL) 0 3 <| oCGe 142 <| oAld 0 <| oGet (fgL) 2 0 <| oIld 4 <| oC2 (cL_X1_hasResult) <| oZEq 136 <| oIncW 1 1 <| oIld 2 <| oAld 0 <| oGet (fgL) 2 0 <| oGet (fgL) 1 11 <| oIld 4 <| oI 3 <| oC3 (cL_X0_get) <| oAddW <| oIst 2 <| oIld 3 <| oAld 0 <| oGet (fgL) 2 0 <| oGet (fgL) 1 11 <| oIld 4 <| oI 4 <| oC3 (cL_X0_get) <| oAddW <| oIst 3 <| oTo 136) else oNo) else (bif Nat.blt pc 142 then (bif Nat.beq pc 136 then (oInc 4 1 <| oM [true, true, true, true, true] (oTo 74)) else oNo) else (bif Nat.beq pc 142 then (oAld 0 <| oIld 2 <| oI2l <| oIld 3 <| oI2l <| oC3 (cL_X2_tellTwo) <| oIld 1 <| oIret) else oNo)))
theorem tX2_stands_ok : ∀ pc, bOk (encL) (bdL) mX2_stands 0 0 pc (tX2_stands pc) := fun pc => (tNode (tNode (tLeaf (okIc iX2_stands_0 <| okIstn iX2_stands_1 rfl (by decide) <| okIc iX2_stands_2 <| okIstn iX2_stands_3 rfl (by decide) <| okIc iX2_stands_4 <| okIstn iX2_stands_5 rfl (by decide) <| okIc iX2_stands_6 <| okIst iX2_stands_7 (by decide) <| okM (okTo (tl rfl)))) (tNode (tLeaf (okIld iX2_stands_9 <| okBi iX2_stands_11 (by decide) <| okCGe (tl rfl) iX2_stands_13 <| okIldn iX2_stands_16 rfl <| okAldn iX2_stands_17 rfl <| okGet (vFgL) iX2_stands_18 <| okGet (vFgL) iX2_stands_21 <| okIld iX2_stands_24 <| okIc iX2_stands_26 <| okC3 (qL_X0_get iX2_stands_27) <| okAddW iX2_stands_30 <| okIstn iX2_stands_31 rfl (by decide) <| okIldn iX2_stands_32 rfl <| okAldn iX2_stands_33 rfl <| okGet (vFgL) iX2_stands_34 <| okGet (vFgL) iX2_stands_37 <| okIld iX2_stands_40 <| okIc iX2_stands_42 <| okC3 (qL_X0_get iX2_stands_43) <| okAddW iX2_stands_46 <| okIstn iX2_stands_47 rfl (by decide) <| okIldn iX2_stands_48 rfl <| okAldn iX2_stands_49 rfl <| okGet (vFgL) iX2_stands_50 <| okGet (vFgL) iX2_stands_53 <| okIld iX2_stands_56 <| okBi iX2_stands_58 (by decide) <| okC3 (qL_X0_get iX2_stands_60) <| okAddW iX2_stands_63 <| okIstn iX2_stands_64 rfl (by decide) <| okInc iX2_stands_65 (by decide) <| okGotoM (tl rfl) iX2_stands_68)) (tLeaf (okIc iX2_stands_71 <| okIst iX2_stands_72 (by decide) <| okM (okTo (tl rfl)))))) (tNode (tLeaf (okIld iX2_stands_74 <| okAldn iX2_stands_76 rfl <| okGet (vFgL) iX2_stands_77 <| okGet (vFgL) iX2_stands_80 <| okGet (vFgL) iX2_stands_83 <| okCGe (tl rfl) iX2_stands_86 <| okAldn iX2_stands_89 rfl <| okGet (vFgL) iX2_stands_90 <| okIld iX2_stands_93 <| okC2 (qL_X1_hasResult iX2_stands_95) <| okZEq (tl rfl) iX2_stands_98 <| okIncW iX2_stands_101 (by decide) <| okIldn iX2_stands_104 rfl <| okAldn iX2_stands_105 rfl <| okGet (vFgL) iX2_stands_106 <| okGet (vFgL) iX2_stands_109 <| okIld iX2_stands_112 <| okIc iX2_stands_114 <| okC3 (qL_X0_get iX2_stands_115) <| okAddW iX2_stands_118 <| okIstn iX2_stands_119 rfl (by decide) <| okIldn iX2_stands_120 rfl <| okAldn iX2_stands_121 rfl <| okGet (vFgL) iX2_stands_122 <| okGet (vFgL) iX2_stands_125 <| okIld iX2_stands_128 <| okIc iX2_stands_130 <| okC3 (qL_X0_get iX2_stands_131) <| okAddW iX2_stands_134 <| okIstn iX2_stands_135 rfl (by decide) <| okTo (tl rfl))) (tNode (tLeaf (okInc iX2_stands_136 (by decide) <| okGotoM (tl rfl) iX2_stands_139)) (tLeaf (okAldn iX2_stands_142 rfl <| okIldn iX2_stands_143 rfl <| okI2l iX2_stands_144 <| okIldn iX2_stands_145 rfl <| okI2l iX2_stands_146 <| okC3 (qL_X2_tellTwo iX2_stands_147) <| okIldn iX2_stands_150 rfl <| okIret iX2_stands_151 rfl))))) pc
-- X2_kinds: heads [17, 70]
def tX2_kinds : Nat → Blk LSt := fun pc => bif Nat.blt pc 54 then (bif Nat.blt pc 9 then (bif Nat.beq pc 0 then (oIld 1 <| oC1 (cL_X2_isKey) <| oZNe 9 <| oI (-1) <| oIret) else oNo) else (bif Nat.blt pc 17 then (bif Nat.beq pc 9 then (oI 0 <| oIst 2 <| oAld 0 <| oC1 (cL_X2_tellNothing) <| oI 0 <| oIst 3 <| oM [true, true, true, true, false] (oTo 17)) else oNo) else (bif Nat.beq pc 17 then (oIld 3 <| oI 4 <| oCGe 54 <| oAld 0 <| oGet (fgL) 2 0 <| oGet (fgL) 1 15 <| oIld 1 <| oIld 3 <| oC3 (cL_X0_get) <| oIst 4 <| oIld 2 <| oIld 4 <| oAddW <| oIst 2 <| oAld 0 <| oIld 4 <| oI2l <| oC2 (cL_X2_tellMore) <| oInc 3 1 <| oM [true, true, true, true, false] (oTo 17)) else oNo))) else (bif Nat.blt pc 117 then (bif Nat.blt pc 70 then (bif Nat.beq pc 54 then (oAld 0 <| oGet (fgL) 2 0 <| oGet (fgL) 1 15 <| oIld 1 <| oI 4 <| oC3 (cL_X0_get) <| oIst 3 <| oI 0 <| oIst 4 <| oM [true, true, true, true, true] (oTo 70)) else oNo) else (bif Nat.beq pc 70 then (oIld 4 <| oAld 0 <| oGet (fgL) 2 0 <| oGet (fgL) 1 11 <| oGet (fgL) 0 3 <| oCGe 123 <| oAld 0 <| oGet (fgL) 2 0 <| oGet (fgL) 1 11 <| oIld 4 <| oI 0 <| oC3 (cL_X0_get) <| oIld 1 <| oCNe 117 <| oAld 0 <| oGet (fgL) 2 0 <| oIld 4 <| oC2 (cL_X1_hasResult) <| oZEq 117 <| oIncW 3 1 <| oTo 117) else oNo)) else (bif Nat.blt pc 123 then (bif Nat.beq pc 117 then (oInc 4 1 <| oM [true, true, true, true, true] (oTo 70)) else oNo) else (bif Nat.beq pc 123 then (oAld 0 <| oIld 3 <| oI2l <| oC2 (cL_X2_tellMore) <| oIld 2 <| oIret) else oNo)))
theorem tX2_kinds_ok : ∀ pc, bOk (encL) (bdL) mX2_kinds 0 0 pc (tX2_kinds pc) := fun pc => (tNode (tNode (tLeaf (okIldn iX2_kinds_0 rfl <| okC1 (qL_X2_isKey iX2_kinds_1) <| okZNe (tl rfl) iX2_kinds_4 <| okIc iX2_kinds_7 <| okIret iX2_kinds_8 rfl)) (tNode (tLeaf (okIc iX2_kinds_9 <| okIstn iX2_kinds_10 rfl (by decide) <| okAldn iX2_kinds_11 rfl <| okC1 (qL_X2_tellNothing iX2_kinds_12) <| okIc iX2_kinds_15 <| okIstn iX2_kinds_16 rfl (by decide) <| okM (okTo (tl rfl)))) (tLeaf (okIldn iX2_kinds_17 rfl <| okIc iX2_kinds_18 <| okCGe (tl rfl) iX2_kinds_19 <| okAldn iX2_kinds_22 rfl <| okGet (vFgL) iX2_kinds_23 <| okGet (vFgL) iX2_kinds_26 <| okIldn iX2_kinds_29 rfl <| okIldn iX2_kinds_30 rfl <| okC3 (qL_X0_get iX2_kinds_31) <| okIst iX2_kinds_34 (by decide) <| okIldn iX2_kinds_36 rfl <| okIld iX2_kinds_37 <| okAddW iX2_kinds_39 <| okIstn iX2_kinds_40 rfl (by decide) <| okAldn iX2_kinds_41 rfl <| okIld iX2_kinds_42 <| okI2l iX2_kinds_44 <| okC2 (qL_X2_tellMore iX2_kinds_45) <| okInc iX2_kinds_48 (by decide) <| okGotoM (tl rfl) iX2_kinds_51)))) (tNode (tNode (tLeaf (okAldn iX2_kinds_54 rfl <| okGet (vFgL) iX2_kinds_55 <| okGet (vFgL) iX2_kinds_58 <| okIldn iX2_kinds_61 rfl <| okIc iX2_kinds_62 <| okC3 (qL_X0_get iX2_kinds_63) <| okIstn iX2_kinds_66 rfl (by decide) <| okIc iX2_kinds_67 <| okIst iX2_kinds_68 (by decide) <| okM (okTo (tl rfl)))) (tLeaf (okIld iX2_kinds_70 <| okAldn iX2_kinds_72 rfl <| okGet (vFgL) iX2_kinds_73 <| okGet (vFgL) iX2_kinds_76 <| okGet (vFgL) iX2_kinds_79 <| okCGe (tl rfl) iX2_kinds_82 <| okAldn iX2_kinds_85 rfl <| okGet (vFgL) iX2_kinds_86 <| okGet (vFgL) iX2_kinds_89 <| okIld iX2_kinds_92 <| okIc iX2_kinds_94 <| okC3 (qL_X0_get iX2_kinds_95) <| okIldn iX2_kinds_98 rfl <| okCNe (tl rfl) iX2_kinds_99 <| okAldn iX2_kinds_102 rfl <| okGet (vFgL) iX2_kinds_103 <| okIld iX2_kinds_106 <| okC2 (qL_X1_hasResult iX2_kinds_108) <| okZEq (tl rfl) iX2_kinds_111 <| okIncW iX2_kinds_114 (by decide) <| okTo (tl rfl)))) (tNode (tLeaf (okInc iX2_kinds_117 (by decide) <| okGotoM (tl rfl) iX2_kinds_120)) (tLeaf (okAldn iX2_kinds_123 rfl <| okIldn iX2_kinds_124 rfl <| okI2l iX2_kinds_125 <| okC2 (qL_X2_tellMore iX2_kinds_126) <| okIldn iX2_kinds_129 rfl <| okIret iX2_kinds_130 rfl))))) pc
-- X2_slow: heads [6]
def tX2_slow : Nat → Blk LSt := fun pc => bif Nat.blt pc 49 then (bif Nat.blt pc 6 then (bif Nat.beq pc 0 then (oI (-1) <| oIst 1 <| oI 0 <| oIst 2 <| oI 0 <| oIst 3 <| oM [true, true, true, true, false] (oTo 6)) else oNo) else (bif Nat.beq pc 6 then (oIld 3 <| oAld 0 <| oGet (fgL) 2 0 <| oGet (fgL) 1 10 <| oGet (fgL) 0 3 <| oCGe 55 <| oAld 0 <| oGet (fgL) 2 0 <| oIld 3 <| oC2 (cL_X1_leastMark) <| oAld 0 <| oGet (fgL) 2 0 <| oGet (fgL) 1 3 <| oSubW <| oIst 4 <| oIld 4 <| oIld 2 <| oCLe 49 <| oIld 4 <| oIst 2 <| oIld 3 <| oIst 1 <| oTo 49) else oNo)) else (bif Nat.blt pc 55 then (bif Nat.beq pc 49 then (oInc 3 1 <| oM [true, true, true, true, false] (oTo 6)) else oNo) else (bif Nat.blt pc 62 then (bif Nat.beq pc 55 then (oIld 1 <| oZGe 62 <| oI (-2) <| oIret) else oNo) else (bif Nat.beq pc 62 then (oAld 0 <| oIld 2 <| oI2l <| oAld 0 <| oGet (fgL) 2 0 <| oAld 0 <| oGet (fgL) 2 0 <| oGet (fgL) 1 3 <| oIld 2 <| oAddW <| oC2 (cL_X1_ripening) <| oI2l <| oC3 (cL_X2_tellTwo) <| oIld 1 <| oIret) else oNo)))
theorem tX2_slow_ok : ∀ pc, bOk (encL) (bdL) mX2_slow 0 0 pc (tX2_slow pc) := fun pc => (tNode (tNode (tLeaf (okIc iX2_slow_0 <| okIstn iX2_slow_1 rfl (by decide) <| okIc iX2_slow_2 <| okIstn iX2_slow_3 rfl (by decide) <| okIc iX2_slow_4 <| okIstn iX2_slow_5 rfl (by decide) <| okM (okTo (tl rfl)))) (tLeaf (okIldn iX2_slow_6 rfl <| okAldn iX2_slow_7 rfl <| okGet (vFgL) iX2_slow_8 <| okGet (vFgL) iX2_slow_11 <| okGet (vFgL) iX2_slow_14 <| okCGe (tl rfl) iX2_slow_17 <| okAldn iX2_slow_20 rfl <| okGet (vFgL) iX2_slow_21 <| okIldn iX2_slow_24 rfl <| okC2 (qL_X1_leastMark iX2_slow_25) <| okAldn iX2_slow_28 rfl <| okGet (vFgL) iX2_slow_29 <| okGet (vFgL) iX2_slow_32 <| okSubW iX2_slow_35 <| okIst iX2_slow_36 (by decide) <| okIld iX2_slow_38 <| okIldn iX2_slow_40 rfl <| okCLe (tl rfl) iX2_slow_41 <| okIld iX2_slow_44 <| okIstn iX2_slow_46 rfl (by decide) <| okIldn iX2_slow_47 rfl <| okIstn iX2_slow_48 rfl (by decide) <| okTo (tl rfl)))) (tNode (tLeaf (okInc iX2_slow_49 (by decide) <| okGotoM (tl rfl) iX2_slow_52)) (tNode (tLeaf (okIldn iX2_slow_55 rfl <| okZGe (tl rfl) iX2_slow_56 <| okBi iX2_slow_59 (by decide) <| okIret iX2_slow_61 rfl)) (tLeaf (okAldn iX2_slow_62 rfl <| okIldn iX2_slow_63 rfl <| okI2l iX2_slow_64 <| okAldn iX2_slow_65 rfl <| okGet (vFgL) iX2_slow_66 <| okAldn iX2_slow_69 rfl <| okGet (vFgL) iX2_slow_70 <| okGet (vFgL) iX2_slow_73 <| okIldn iX2_slow_76 rfl <| okAddW iX2_slow_77 <| okC2 (qL_X1_ripening iX2_slow_78) <| okI2l iX2_slow_81 <| okC3 (qL_X2_tellTwo iX2_slow_82) <| okIldn iX2_slow_85 rfl <| okIret iX2_slow_86 rfl))))) pc
-- X2_holds: heads [16]
def tX2_holds : Nat → Blk LSt := fun pc => bif Nat.blt pc 82 then (bif Nat.blt pc 16 then (bif Nat.beq pc 0 then (oAld 0 <| oGet (fgL) 2 0 <| oI (-1) <| oC2 (cL_X1_leastMark) <| oIst 1 <| oI 0 <| oIst 2 <| oI 0 <| oIst 3 <| oI 0 <| oIst 4 <| oM [true, true, true, true, true, false] (oTo 16)) else oNo) else (bif Nat.beq pc 16 then (oIld 4 <| oAld 0 <| oGet (fgL) 2 0 <| oGet (fgL) 1 10 <| oGet (fgL) 0 3 <| oCGe 88 <| oAld 0 <| oGet (fgL) 2 0 <| oGet (fgL) 1 10 <| oIld 4 <| oI 0 <| oC3 (cL_X0_get) <| oIst 5 <| oIld 3 <| oIld 5 <| oMax <| oIst 3 <| oAld 0 <| oGet (fgL) 2 0 <| oGet (fgL) 1 10 <| oIld 4 <| oI 2 <| oC3 (cL_X0_get) <| oZNe 82 <| oIld 5 <| oIld 1 <| oCNe 82 <| oIld 2 <| oI 1 <| oIld 4 <| oShl <| oOr <| oIst 2 <| oTo 82) else oNo)) else (bif Nat.blt pc 88 then (bif Nat.beq pc 82 then (oInc 4 1 <| oM [true, true, true, true, true, false] (oTo 16)) else oNo) else (bif Nat.beq pc 88 then (oAld 0 <| oIld 1 <| oI2l <| oIld 3 <| oAld 0 <| oGet (fgL) 2 0 <| oGet (fgL) 1 3 <| oSubW <| oI2l <| oC3 (cL_X2_tellTwo) <| oIld 2 <| oIret) else oNo))
theorem tX2_holds_ok : ∀ pc, bOk (encL) (bdL) mX2_holds 0 0 pc (tX2_holds pc) := fun pc => (tNode (tNode (tLeaf (okAldn iX2_holds_0 rfl <| okGet (vFgL) iX2_holds_1 <| okIc iX2_holds_4 <| okC2 (qL_X1_leastMark iX2_holds_5) <| okIstn iX2_holds_8 rfl (by decide) <| okIc iX2_holds_9 <| okIstn iX2_holds_10 rfl (by decide) <| okIc iX2_holds_11 <| okIstn iX2_holds_12 rfl (by decide) <| okIc iX2_holds_13 <| okIst iX2_holds_14 (by decide) <| okM (okTo (tl rfl)))) (tLeaf (okIld iX2_holds_16 <| okAldn iX2_holds_18 rfl <| okGet (vFgL) iX2_holds_19 <| okGet (vFgL) iX2_holds_22 <| okGet (vFgL) iX2_holds_25 <| okCGe (tl rfl) iX2_holds_28 <| okAldn iX2_holds_31 rfl <| okGet (vFgL) iX2_holds_32 <| okGet (vFgL) iX2_holds_35 <| okIld iX2_holds_38 <| okIc iX2_holds_40 <| okC3 (qL_X0_get iX2_holds_41) <| okIst iX2_holds_44 (by decide) <| okIldn iX2_holds_46 rfl <| okIld iX2_holds_47 <| okMax iX2_holds_49 <| okIstn iX2_holds_52 rfl (by decide) <| okAldn iX2_holds_53 rfl <| okGet (vFgL) iX2_holds_54 <| okGet (vFgL) iX2_holds_57 <| okIld iX2_holds_60 <| okIc iX2_holds_62 <| okC3 (qL_X0_get iX2_holds_63) <| okZNe (tl rfl) iX2_holds_66 <| okIld iX2_holds_69 <| okIldn iX2_holds_71 rfl <| okCNe (tl rfl) iX2_holds_72 <| okIldn iX2_holds_75 rfl <| okIc iX2_holds_76 <| okIld iX2_holds_77 <| okShl iX2_holds_79 <| okOr iX2_holds_80 <| okIstn iX2_holds_81 rfl (by decide) <| okTo (tl rfl)))) (tNode (tLeaf (okInc iX2_holds_82 (by decide) <| okGotoM (tl rfl) iX2_holds_85)) (tLeaf (okAldn iX2_holds_88 rfl <| okIldn iX2_holds_89 rfl <| okI2l iX2_holds_90 <| okIldn iX2_holds_91 rfl <| okAldn iX2_holds_92 rfl <| okGet (vFgL) iX2_holds_93 <| okGet (vFgL) iX2_holds_96 <| okSubW iX2_holds_99 <| okI2l iX2_holds_100 <| okC3 (qL_X2_tellTwo iX2_holds_101) <| okIldn iX2_holds_104 rfl <| okIret iX2_holds_105 rfl)))) pc
-- X2_next: heads [6]
def tX2_next : Nat → Blk LSt := fun pc => bif Nat.blt pc 67 then (bif Nat.blt pc 6 then (bif Nat.beq pc 0 then (oI (-1) <| oIst 1 <| oI 0 <| oIst 2 <| oI 0 <| oIst 3 <| oM [true, true, true, true, false] (oTo 6)) else oNo) else (bif Nat.blt pc 62 then (bif Nat.beq pc 6 then (oIld 3 <| oAld 0 <| oGet (fgL) 2 0 <| oGet (fgL) 1 11 <| oGet (fgL) 0 3 <| oCGe 73 <| oAld 0 <| oGet (fgL) 2 0 <| oGet (fgL) 1 11 <| oIld 3 <| oI 2 <| oC3 (cL_X0_get) <| oIst 4 <| oAld 0 <| oGet (fgL) 2 0 <| oIld 3 <| oAld 0 <| oGet (fgL) 2 0 <| oGet (fgL) 1 3 <| oC3 (cL_X1_isRipe) <| oZNe 67 <| oIld 1 <| oZLt 62 <| oIld 4 <| oIld 2 <| oCGe 67 <| oTo 62) else oNo) else (bif Nat.beq pc 62 then (oIld 3 <| oIst 1 <| oIld 4 <| oIst 2 <| oTo 67) else oNo))) else (bif Nat.blt pc 73 then (bif Nat.beq pc 67 then (oInc 3 1 <| oM [true, true, true, true, false] (oTo 6)) else oNo) else (bif Nat.blt pc 80 then (bif Nat.beq pc 73 then (oIld 1 <| oZGe 80 <| oI (-2) <| oIret) else oNo) else (bif Nat.beq pc 80 then (oAld 0 <| oIld 2 <| oAld 0 <| oGet (fgL) 2 0 <| oGet (fgL) 1 0 <| oAddW <| oI 1 <| oAddW <| oAld 0 <| oGet (fgL) 2 0 <| oGet (fgL) 1 3 <| oSubW <| oI2l <| oC2 (cL_X2_tellOne) <| oIld 1 <| oIret) else oNo)))
theorem tX2_next_ok : ∀ pc, bOk (encL) (bdL) mX2_next 0 0 pc (tX2_next pc) := fun pc => (tNode (tNode (tLeaf (okIc iX2_next_0 <| okIstn iX2_next_1 rfl (by decide) <| okIc iX2_next_2 <| okIstn iX2_next_3 rfl (by decide) <| okIc iX2_next_4 <| okIstn iX2_next_5 rfl (by decide) <| okM (okTo (tl rfl)))) (tNode (tLeaf (okIldn iX2_next_6 rfl <| okAldn iX2_next_7 rfl <| okGet (vFgL) iX2_next_8 <| okGet (vFgL) iX2_next_11 <| okGet (vFgL) iX2_next_14 <| okCGe (tl rfl) iX2_next_17 <| okAldn iX2_next_20 rfl <| okGet (vFgL) iX2_next_21 <| okGet (vFgL) iX2_next_24 <| okIldn iX2_next_27 rfl <| okIc iX2_next_28 <| okC3 (qL_X0_get iX2_next_29) <| okIst iX2_next_32 (by decide) <| okAldn iX2_next_34 rfl <| okGet (vFgL) iX2_next_35 <| okIldn iX2_next_38 rfl <| okAldn iX2_next_39 rfl <| okGet (vFgL) iX2_next_40 <| okGet (vFgL) iX2_next_43 <| okC3 (qL_X1_isRipe iX2_next_46) <| okZNe (tl rfl) iX2_next_49 <| okIldn iX2_next_52 rfl <| okZLt (tl rfl) iX2_next_53 <| okIld iX2_next_56 <| okIldn iX2_next_58 rfl <| okCGe (tl rfl) iX2_next_59 <| okTo (tl rfl))) (tLeaf (okIldn iX2_next_62 rfl <| okIstn iX2_next_63 rfl (by decide) <| okIld iX2_next_64 <| okIstn iX2_next_66 rfl (by decide) <| okTo (tl rfl))))) (tNode (tLeaf (okInc iX2_next_67 (by decide) <| okGotoM (tl rfl) iX2_next_70)) (tNode (tLeaf (okIldn iX2_next_73 rfl <| okZGe (tl rfl) iX2_next_74 <| okBi iX2_next_77 (by decide) <| okIret iX2_next_79 rfl)) (tLeaf (okAldn iX2_next_80 rfl <| okIldn iX2_next_81 rfl <| okAldn iX2_next_82 rfl <| okGet (vFgL) iX2_next_83 <| okGet (vFgL) iX2_next_86 <| okAddW iX2_next_89 <| okIc iX2_next_90 <| okAddW iX2_next_91 <| okAldn iX2_next_92 rfl <| okGet (vFgL) iX2_next_93 <| okGet (vFgL) iX2_next_96 <| okSubW iX2_next_99 <| okI2l iX2_next_100 <| okC2 (qL_X2_tellOne iX2_next_101) <| okIldn iX2_next_104 rfl <| okIret iX2_next_105 rfl))))) pc
-- X2_ahead: heads [31]
def tX2_ahead : Nat → Blk LSt := fun pc => bif Nat.blt pc 27 then (bif Nat.blt pc 11 then (bif Nat.beq pc 0 then (oIld 1 <| oZLt 11 <| oIld 1 <| oI 20000 <| oCLe 13 <| oTo 11) else oNo) else (bif Nat.blt pc 13 then (bif Nat.beq pc 11 then (oI (-1) <| oIret) else oNo) else (bif Nat.beq pc 13 then (oIld 1 <| oAld 0 <| oGet (fgL) 2 0 <| oGet (fgL) 1 3 <| oCGe 27 <| oI (-2) <| oIret) else oNo))) else (bif Nat.blt pc 60 then (bif Nat.blt pc 31 then (bif Nat.beq pc 27 then (oI 0 <| oIst 2 <| oI 0 <| oIst 3 <| oM [true, true, true, true] (oTo 31)) else oNo) else (bif Nat.beq pc 31 then (oIld 3 <| oAld 0 <| oGet (fgL) 2 0 <| oGet (fgL) 1 11 <| oGet (fgL) 0 3 <| oCGe 66 <| oAld 0 <| oGet (fgL) 2 0 <| oIld 3 <| oIld 1 <| oC3 (cL_X1_isOver) <| oZEq 60 <| oInc 2 1 <| oTo 60) else oNo)) else (bif Nat.blt pc 66 then (bif Nat.beq pc 60 then (oInc 3 1 <| oM [true, true, true, true] (oTo 31)) else oNo) else (bif Nat.beq pc 66 then (oAld 0 <| oIld 2 <| oI2l <| oC2 (cL_X2_tellOne) <| oAld 0 <| oGet (fgL) 2 0 <| oIld 1 <| oC2 (cL_X1_ripening) <| oIret) else oNo)))
theorem tX2_ahead_ok : ∀ pc, bOk (encL) (bdL) mX2_ahead 0 0 pc (tX2_ahead pc) := fun pc => (tNode (tNode (tLeaf (okIldn iX2_ahead_0 rfl <| okZLt (tl rfl) iX2_ahead_1 <| okIldn iX2_ahead_4 rfl <| okSi iX2_ahead_5 (by decide) <| okCLe (tl rfl) iX2_ahead_8 <| okTo (tl rfl))) (tNode (tLeaf (okIc iX2_ahead_11 <| okIret iX2_ahead_12 rfl)) (tLeaf (okIldn iX2_ahead_13 rfl <| okAldn iX2_ahead_14 rfl <| okGet (vFgL) iX2_ahead_15 <| okGet (vFgL) iX2_ahead_18 <| okCGe (tl rfl) iX2_ahead_21 <| okBi iX2_ahead_24 (by decide) <| okIret iX2_ahead_26 rfl)))) (tNode (tNode (tLeaf (okIc iX2_ahead_27 <| okIstn iX2_ahead_28 rfl (by decide) <| okIc iX2_ahead_29 <| okIstn iX2_ahead_30 rfl (by decide) <| okM (okTo (tl rfl)))) (tLeaf (okIldn iX2_ahead_31 rfl <| okAldn iX2_ahead_32 rfl <| okGet (vFgL) iX2_ahead_33 <| okGet (vFgL) iX2_ahead_36 <| okGet (vFgL) iX2_ahead_39 <| okCGe (tl rfl) iX2_ahead_42 <| okAldn iX2_ahead_45 rfl <| okGet (vFgL) iX2_ahead_46 <| okIldn iX2_ahead_49 rfl <| okIldn iX2_ahead_50 rfl <| okC3 (qL_X1_isOver iX2_ahead_51) <| okZEq (tl rfl) iX2_ahead_54 <| okInc iX2_ahead_57 (by decide) <| okTo (tl rfl)))) (tNode (tLeaf (okInc iX2_ahead_60 (by decide) <| okGotoM (tl rfl) iX2_ahead_63)) (tLeaf (okAldn iX2_ahead_66 rfl <| okIldn iX2_ahead_67 rfl <| okI2l iX2_ahead_68 <| okC2 (qL_X2_tellOne iX2_ahead_69) <| okAldn iX2_ahead_72 rfl <| okGet (vFgL) iX2_ahead_73 <| okIldn iX2_ahead_76 rfl <| okC2 (qL_X1_ripening iX2_ahead_77) <| okIret iX2_ahead_80 rfl))))) pc
-- X2_latest: heads [6]
def tX2_latest : Nat → Blk LSt := fun pc => bif Nat.blt pc 46 then (bif Nat.blt pc 6 then (bif Nat.beq pc 0 then (oI 0 <| oIst 1 <| oI (-1) <| oIst 2 <| oI 0 <| oIst 3 <| oM [true, true, true, true, false] (oTo 6)) else oNo) else (bif Nat.beq pc 6 then (oIld 3 <| oAld 0 <| oGet (fgL) 2 0 <| oGet (fgL) 1 14 <| oGet (fgL) 0 3 <| oCGe 52 <| oAld 0 <| oGet (fgL) 2 0 <| oGet (fgL) 1 14 <| oIld 3 <| oI 6 <| oC3 (cL_X0_get) <| oIst 4 <| oIld 4 <| oIld 1 <| oCLe 46 <| oIld 4 <| oIst 1 <| oIld 3 <| oIst 2 <| oTo 46) else oNo)) else (bif Nat.blt pc 52 then (bif Nat.beq pc 46 then (oInc 3 1 <| oM [true, true, true, true, false] (oTo 6)) else oNo) else (bif Nat.beq pc 52 then (oAld 0 <| oIld 2 <| oI2l <| oC2 (cL_X2_tellOne) <| oIld 1 <| oIret) else oNo))
theorem tX2_latest_ok : ∀ pc, bOk (encL) (bdL) mX2_latest 0 0 pc (tX2_latest pc) := fun pc => (tNode (tNode (tLeaf (okIc iX2_latest_0 <| okIstn iX2_latest_1 rfl (by decide) <| okIc iX2_latest_2 <| okIstn iX2_latest_3 rfl (by decide) <| okIc iX2_latest_4 <| okIstn iX2_latest_5 rfl (by decide) <| okM (okTo (tl rfl)))) (tLeaf (okIldn iX2_latest_6 rfl <| okAldn iX2_latest_7 rfl <| okGet (vFgL) iX2_latest_8 <| okGet (vFgL) iX2_latest_11 <| okGet (vFgL) iX2_latest_14 <| okCGe (tl rfl) iX2_latest_17 <| okAldn iX2_latest_20 rfl <| okGet (vFgL) iX2_latest_21 <| okGet (vFgL) iX2_latest_24 <| okIldn iX2_latest_27 rfl <| okBi iX2_latest_28 (by decide) <| okC3 (qL_X0_get iX2_latest_30) <| okIst iX2_latest_33 (by decide) <| okIld iX2_latest_35 <| okIldn iX2_latest_37 rfl <| okCLe (tl rfl) iX2_latest_38 <| okIld iX2_latest_41 <| okIstn iX2_latest_43 rfl (by decide) <| okIldn iX2_latest_44 rfl <| okIstn iX2_latest_45 rfl (by decide) <| okTo (tl rfl)))) (tNode (tLeaf (okInc iX2_latest_46 (by decide) <| okGotoM (tl rfl) iX2_latest_49)) (tLeaf (okAldn iX2_latest_52 rfl <| okIldn iX2_latest_53 rfl <| okI2l iX2_latest_54 <| okC2 (qL_X2_tellOne iX2_latest_55) <| okIldn iX2_latest_58 rfl <| okIret iX2_latest_59 rfl)))) pc
def stL (w : WS) : Nat → Int → Int → Int → Int → Int × Int × Int
  | 0, _, a, b, c => (a, b, c)
  | n + 1, i, a, b, c => if wHas w i then stL w n (i + 1) (wI (a + 1)) (wI (b + wG w 1 i 3)) (wI (c + wG w 1 i 4)) else stL w n (i + 1) a b c
def fStands (s : LSt) : Int × LSt :=
  let w := s.2.2 0
  let x := stL w (wZ w 1).toNat 0 (sumI (fun k => wG w 5 k 4) 6 0 0) (sumI (fun k => wG w 5 k 5) 6 0 0) (sumI (fun k => wG w 5 k 6) 6 0 0)
  (x.1, lTell2 s x.2.1 x.2.2)
theorem X2_stands_l2 {K : KL} {Pt : LSt → Prop} (s : LSt) : ∀ (m : Nat) (i a b c : Int), xB b → xB c → 0 ≤ i → i ≤ max 0 (wZ (s.2.2 0) 1) → m = (wZ (s.2.2 0) 1 - i).toNat → K [pI (stL (s.2.2 0) m i a b c).1] (lTell2 s (stL (s.2.2 0) m i a b c).2.1 (stL (s.2.2 0) m i a b c).2.2) → wX encL bdL mX2_stands 0 0 K Pt 74 [some (pR 0), some (pI a), some (pI b), some (pI c), some (pI i)] [] s := by
  intro m
  induction m with
  | zero =>
    intro i a b c hb2 hc2 h0 h1 hm hK
    refine wx_Jb [9, 74] 9 tX2_stands_ok rfl (fun hb J hR hJ => ?_)
    have hz : xB (wZ (s.2.2 0) 1) := ((hb.2.2 0).2 1).1
    intro _
    refine ⟨⟨⟨by omega, by omega⟩, hz⟩, fun _ => ⟨hb2, hc2, ⟨hb2, hc2⟩, hR _ _ hK⟩, fun c => ?_⟩
    have c : i < wZ (s.2.2 0) 1 := c
    omega
  | succ m ih =>
    intro i a b c hb2 hc2 h0 h1 hm hK
    refine wx_Jb [9, 74] 9 tX2_stands_ok rfl (fun hb J hR hJ => ?_)
    have hz : xB (wZ (s.2.2 0) 1) := ((hb.2.2 0).2 1).1
    rw [stL] at hK
    intro _
    refine ⟨⟨⟨by omega, by omega⟩, hz⟩, fun c => ?_, fun _ => ⟨⟨by omega, by omega⟩, fun c => ?_, fun c => ?_⟩⟩
    · have c : wZ (s.2.2 0) 1 ≤ i := c
      omega
    · rw [if_pos c] at hK
      have g := ih (i + 1) _ _ _ (wI_B _) (wI_B _) (by omega) (by omega) (by omega) hK
      repeat' (first | (refine And.intro ?_ ?_) | intro _)
      all_goals first | omega | exact hJ _ _ _ _ g
    · rw [if_neg c] at hK
      have g := ih (i + 1) _ _ _ hb2 hc2 (by omega) (by omega) (by omega) hK
      repeat' (first | (refine And.intro ?_ ?_) | intro _)
      all_goals first | omega | exact hJ _ _ _ _ g
theorem X2_stands_l1 {K : KL} {Pt : LSt → Prop} (s : LSt) : ∀ (m : Nat) (k a b c : Int), xB b → xB c → 0 ≤ k → k ≤ 6 → m = (6 - k).toNat → K [pI (stL (s.2.2 0) (wZ (s.2.2 0) 1).toNat 0 (sumI (fun k => wG (s.2.2 0) 5 k 4) m k a) (sumI (fun k => wG (s.2.2 0) 5 k 5) m k b) (sumI (fun k => wG (s.2.2 0) 5 k 6) m k c)).1] (lTell2 s (stL (s.2.2 0) (wZ (s.2.2 0) 1).toNat 0 (sumI (fun k => wG (s.2.2 0) 5 k 4) m k a) (sumI (fun k => wG (s.2.2 0) 5 k 5) m k b) (sumI (fun k => wG (s.2.2 0) 5 k 6) m k c)).2.1 (stL (s.2.2 0) (wZ (s.2.2 0) 1).toNat 0 (sumI (fun k => wG (s.2.2 0) 5 k 4) m k a) (sumI (fun k => wG (s.2.2 0) 5 k 5) m k b) (sumI (fun k => wG (s.2.2 0) 5 k 6) m k c)).2.2) → wX encL bdL mX2_stands 0 0 K Pt 9 [some (pR 0), some (pI a), some (pI b), some (pI c), some (pI k)] [] s := by
  intro m
  induction m with
  | zero =>
    intro k a b c hb2 hc2 h0 h1 hm hK
    refine wx_J [9, 74] 9 tX2_stands_ok rfl (fun J hR hJ => ?_)
    have g := X2_stands_l2 (K := K) (Pt := Pt) s _ 0 a b c hb2 hc2 (by omega) (by omega) (by rw [Int.sub_zero]) hK
    repeat' (first | (refine And.intro ?_ ?_) | intro _)
    all_goals first | omega | exact hJ _ _ _ _ g
  | succ m ih =>
    intro k a b c hb2 hc2 h0 h1 hm hK
    refine wx_J [9, 74] 9 tX2_stands_ok rfl (fun J hR hJ => ?_)
    have g := ih (k + 1) _ _ _ (wI_B _) (wI_B _) (by omega) (by omega) (by omega) hK
    repeat' (first | (refine And.intro ?_ ?_) | intro _)
    all_goals first | omega | exact hJ _ _ _ _ g
def sX2_stands : LSt → KL → Prop := fun s K => K [pI (fStands s).1] (fStands s).2
theorem mX2_stands_ok : mOk encL bdL mX2_stands (atR 0 (a0 sX2_stands)) := by
  refine mOVa0 kX2_stands (fun _ => rfl) (fun s K h hb => wx_J [9, 74] 9 tX2_stands_ok rfl (fun J hR hJ => ?_))
  exact hJ _ _ _ _ (X2_stands_l1 s 6 0 0 0 0 ⟨by omega, by omega⟩ ⟨by omega, by omega⟩ (by omega) (by omega) (by omega) h)
def knL (k : Int) : Nat → Int → Int → LSt → Int × LSt
  | 0, _, t, s => (t, s)
  | m + 1, i, t, s => knL k m (i + 1) (wI (t + wG (s.2.2 0) 5 k i)) (lTell s (wG (s.2.2 0) 5 k i))
def ksL (w : WS) (k : Int) : Nat → Int → Int → Int
  | 0, _, a => a
  | m + 1, i, a => if wG w 1 i 0 = k ∧ wHas w i then ksL w k m (i + 1) (wI (a + 1)) else ksL w k m (i + 1) a
def fKinds2 (s : LSt) (k t : Int) : Int × LSt := (t, lTell s (ksL (s.2.2 0) k (wZ (s.2.2 0) 1).toNat 0 (wG (s.2.2 0) 5 k 4)))
def fKinds (s : LSt) (k : Int) : Int × LSt := if 0 ≤ k ∧ k < 6 then fKinds2 (knL k 4 0 0 (setS s 3 0)).2 k (knL k 4 0 0 (setS s 3 0)).1 else (-1, s)
theorem X2_kinds_l2 {K : KL} {Pt : LSt → Prop} (s : LSt) (k t : Int) (hk : xB k) (h3 : 0 ≤ s.1 3) : ∀ (m : Nat) (i a : Int), xB a → 0 ≤ i → i ≤ max 0 (wZ (s.2.2 0) 1) → m = (wZ (s.2.2 0) 1 - i).toNat → K [pI t] (lTell s (ksL (s.2.2 0) k m i a)) → wX encL bdL mX2_kinds 0 0 K Pt 70 [some (pR 0), some (pI k), some (pI t), some (pI a), some (pI i)] [] s := by
  intro m
  induction m with
  | zero =>
    intro i a ha h0 h1 hm hK
    refine wx_Jb [17, 70] 9 tX2_kinds_ok rfl (fun hb J hR hJ => ?_)
    have hz : xB (wZ (s.2.2 0) 1) := ((hb.2.2 0).2 1).1
    intro _
    refine ⟨⟨⟨by omega, by omega⟩, hz⟩, fun _ => ⟨ha, ⟨ha, h3⟩, hR _ _ hK⟩, fun c => ?_⟩
    have c : i < wZ (s.2.2 0) 1 := c
    omega
  | succ m ih =>
    intro i a ha h0 h1 hm hK
    refine wx_Jb [17, 70] 9 tX2_kinds_ok rfl (fun hb J hR hJ => ?_)
    have hz : xB (wZ (s.2.2 0) 1) := ((hb.2.2 0).2 1).1
    rw [ksL] at hK
    have e1 : (wG (s.2.2 0) 1 i 0 = k ∧ wHas (s.2.2 0) i) → wX encL bdL mX2_kinds 0 0 K Pt 70 [some (pR 0), some (pI k), some (pI t), some (pI (wI (a + 1))), some (pI (i + 1))] [] s := fun c => by
      rw [if_pos c] at hK
      exact ih (i + 1) _ (wI_B _) (by omega) (by omega) (by omega) hK
    have e2 : ¬ (wG (s.2.2 0) 1 i 0 = k ∧ wHas (s.2.2 0) i) → wX encL bdL mX2_kinds 0 0 K Pt 70 [some (pR 0), some (pI k), some (pI t), some (pI a), some (pI (i + 1))] [] s := fun c => by
      rw [if_neg c] at hK
      exact ih (i + 1) _ ha (by omega) (by omega) (by omega) hK
    intro _
    refine ⟨⟨⟨by omega, by omega⟩, hz⟩, fun c => ?_, fun _ => ?_⟩
    · have c : wZ (s.2.2 0) 1 ≤ i := c
      omega
    · repeat' (first | (refine And.intro ?_ ?_) | intro _)
      all_goals first | omega | exact hJ _ _ _ _ (e1 (by omega)) | exact hJ _ _ _ _ (e2 (by omega))
theorem X2_kinds_l1 {K : KL} {Pt : LSt → Prop} (k : Int) (hk : xB k) : ∀ (m : Nat) (i t : Int) (s : LSt), 0 ≤ s.1 3 → 0 ≤ i → i ≤ 4 → m = (4 - i).toNat → K [pI (fKinds2 (knL k m i t s).2 k (knL k m i t s).1).1] (fKinds2 (knL k m i t s).2 k (knL k m i t s).1).2 → wX encL bdL mX2_kinds 0 0 K Pt 17 [some (pR 0), some (pI k), some (pI t), some (pI i), none] [] s := by
  intro m
  induction m with
  | zero =>
    intro i t s h3 h0 h1 hm hK
    refine wx_Jb [17, 70] 9 tX2_kinds_ok rfl (fun hb J hR hJ => ?_)
    have g := X2_kinds_l2 (K := K) (Pt := Pt) s k t hk h3 _ 0 (wG (s.2.2 0) 5 k 4) (wG_B (hb.2.2 0)) (by omega) (by omega) (by rw [Int.sub_zero]; rfl) hK
    repeat' (first | (refine And.intro ?_ ?_) | intro _)
    all_goals first | omega | exact hJ _ _ _ _ g
  | succ m ih =>
    intro i t s h3 h0 h1 hm hK
    refine wx_J [17, 70] 9 tX2_kinds_ok rfl (fun J hR hJ => ?_)
    rw [knL] at hK
    have g := ih (i + 1) (wI (t + wG (s.2.2 0) 5 k i)) (lTell s (wG (s.2.2 0) 5 k i)) (lTell_n h3) (by omega) (by omega) (by omega) hK
    repeat' (first | (refine And.intro ?_ ?_) | intro _)
    all_goals first | omega | exact hJ _ _ _ _ g
def sX2_kinds : Int → LSt → KL → Prop := fun k s K => xB k ∧ K [pI (fKinds s k).1] (fKinds s k).2
theorem mX2_kinds_ok : mOk encL bdL mX2_kinds (atR 0 (a1 sX2_kinds)) := by
  refine mOVa1 kX2_kinds (fun _ => rfl) (fun k s K h hb => wx_J [17, 70] 9 tX2_kinds_ok rfl (fun J hR hJ => ?_))
  obtain ⟨h1, hK⟩ := h
  unfold fKinds at hK
  refine ⟨h1, fun c => ?_, fun c => ?_⟩
  · rw [if_pos c] at hK
    have g := X2_kinds_l1 (K := K) (Pt := fun _ => False) k h1 4 0 0 (setS s 3 0) (by show (0 : Int) ≤ 0; omega) (by omega) (by omega) (by omega) hK
    repeat' (first | (refine And.intro ?_ ?_) | intro _)
    all_goals first | omega | exact hJ _ _ _ _ g
  · rw [if_neg c] at hK
    repeat' (first | (refine And.intro ?_ ?_) | intro _)
    all_goals first | omega | exact hR _ _ hK
def slL (w : WS) : Nat → Int → Int → Int → Int × Int
  | 0, _, a, b => (a, b)
  | m + 1, i, a, b => if b < wI (wLeast w i - w.1 3) then slL w m (i + 1) i (wI (wLeast w i - w.1 3)) else slL w m (i + 1) a b
def fSlow2 (s : LSt) (p : Int × Int) : Int × LSt := if p.1 < 0 then (-2, s) else (p.1, lTell2 s p.2 (wRipening (s.2.2 0) (wI ((s.2.2 0).1 3 + p.2))))
def fSlow (s : LSt) : Int × LSt := fSlow2 s (slL (s.2.2 0) (wZ (s.2.2 0) 0).toNat 0 (-1) 0)
theorem X2_slow_l {K : KL} {Pt : LSt → Prop} (s : LSt) : ∀ (m : Nat) (i a b : Int), xB a → xB b → 0 ≤ i → i ≤ max 0 (wZ (s.2.2 0) 0) → m = (wZ (s.2.2 0) 0 - i).toNat → K [pI (fSlow2 s (slL (s.2.2 0) m i a b)).1] (fSlow2 s (slL (s.2.2 0) m i a b)).2 → wX encL bdL mX2_slow 0 0 K Pt 6 [some (pR 0), some (pI a), some (pI b), some (pI i), none] [] s := by
  intro m
  induction m with
  | zero =>
    intro i a b ha hb2 h0 h1 hm hK
    refine wx_Jb [6] 9 tX2_slow_ok rfl (fun hb J hR hJ => ?_)
    have hz : xB (wZ (s.2.2 0) 0) := ((hb.2.2 0).2 0).1
    rw [slL] at hK
    unfold fSlow2 at hK
    intro _
    refine ⟨⟨⟨by omega, by omega⟩, hz⟩, fun _ => ?_, fun c => ?_⟩
    · by_cases c : a < 0
      · rw [if_pos c] at hK
        repeat' (first | (refine And.intro ?_ ?_) | intro _)
        all_goals first | omega | exact hR _ _ hK
      · rw [if_neg c] at hK
        repeat' (first | (refine And.intro ?_ ?_) | intro _)
        all_goals first | omega | exact hR _ _ hK
    · have c : i < wZ (s.2.2 0) 0 := c
      omega
  | succ m ih =>
    intro i a b ha hb2 h0 h1 hm hK
    refine wx_Jb [6] 9 tX2_slow_ok rfl (fun hb J hR hJ => ?_)
    have hz : xB (wZ (s.2.2 0) 0) := ((hb.2.2 0).2 0).1
    rw [slL] at hK
    have e1 : b < wI (wLeast (s.2.2 0) i - (s.2.2 0).1 3) → wX encL bdL mX2_slow 0 0 K Pt 6 [some (pR 0), some (pI i), some (pI (wI (wLeast (s.2.2 0) i - (s.2.2 0).1 3))), some (pI (i + 1)), none] [] s := fun c => by
      rw [if_pos c] at hK
      exact ih (i + 1) _ _ ⟨by omega, by omega⟩ (wI_B _) (by omega) (by omega) (by omega) hK
    have e2 : ¬ b < wI (wLeast (s.2.2 0) i - (s.2.2 0).1 3) → wX encL bdL mX2_slow 0 0 K Pt 6 [some (pR 0), some (pI a), some (pI b), some (pI (i + 1)), none] [] s := fun c => by
      rw [if_neg c] at hK
      exact ih (i + 1) _ _ ha hb2 (by omega) (by omega) (by omega) hK
    intro _
    refine ⟨⟨⟨by omega, by omega⟩, hz⟩, fun c => ?_, fun _ => ?_⟩
    · have c : wZ (s.2.2 0) 0 ≤ i := c
      omega
    · repeat' (first | (refine And.intro ?_ ?_) | intro _)
      all_goals first | omega | exact hJ _ _ _ _ (e1 (by omega)) | exact hJ _ _ _ _ (e2 (by omega))
def sX2_slow : LSt → KL → Prop := fun s K => K [pI (fSlow s).1] (fSlow s).2
theorem mX2_slow_ok : mOk encL bdL mX2_slow (atR 0 (a0 sX2_slow)) := by
  refine mOVa0 kX2_slow (fun _ => rfl) (fun s K h hb => wx_J [6] 9 tX2_slow_ok rfl (fun J hR hJ => ?_))
  exact hJ _ _ _ _ (X2_slow_l s _ 0 (-1) 0 ⟨by omega, by omega⟩ ⟨by omega, by omega⟩ (by omega) (by omega) (by rw [Int.sub_zero]) h)
def hoL (w : WS) (l : Int) : Nat → Int → Int → Int → Int × Int
  | 0, _, a, b => (a, b)
  | m + 1, i, a, b => hoL w l m (i + 1) (if wG w 0 i 2 = 0 ∧ wG w 0 i 0 = l then (iI a ||| iI (bitOf i)).toInt else a) (max b (wG w 0 i 0))
def fHolds (s : LSt) : Int × LSt :=
  let w := s.2.2 0
  let p := hoL w (wLeast w (-1)) (wZ w 0).toNat 0 0 0
  (p.1, lTell2 s (wLeast w (-1)) (wI (p.2 - w.1 3)))
theorem X2_holds_l {K : KL} {Pt : LSt → Prop} (s : LSt) (l : Int) (hl : xB l) : ∀ (m : Nat) (i a b : Int), xB a → xB b → 0 ≤ i → i ≤ max 0 (wZ (s.2.2 0) 0) → m = (wZ (s.2.2 0) 0 - i).toNat → K [pI (hoL (s.2.2 0) l m i a b).1] (lTell2 s l (wI ((hoL (s.2.2 0) l m i a b).2 - (s.2.2 0).1 3))) → wX encL bdL mX2_holds 0 0 K Pt 16 [some (pR 0), some (pI l), some (pI a), some (pI b), some (pI i), none] [] s := by
  intro m
  induction m with
  | zero =>
    intro i a b ha hb2 h0 h1 hm hK
    refine wx_Jb [16] 9 tX2_holds_ok rfl (fun hb J hR hJ => ?_)
    have hz : xB (wZ (s.2.2 0) 0) := ((hb.2.2 0).2 0).1
    intro _
    refine ⟨⟨⟨by omega, by omega⟩, hz⟩, fun _ => ?_, fun c => ?_⟩
    · repeat' (first | (refine And.intro ?_ ?_) | intro _)
      all_goals first | omega | exact hR _ _ hK
    · have c : i < wZ (s.2.2 0) 0 := c
      omega
  | succ m ih =>
    intro i a b ha hb2 h0 h1 hm hK
    refine wx_Jb [16] 9 tX2_holds_ok rfl (fun hb J hR hJ => ?_)
    have hz : xB (wZ (s.2.2 0) 0) := ((hb.2.2 0).2 0).1
    rw [hoL] at hK
    have hG := wG_B (t := 0) (i := i) (c := 0) (hb.2.2 0)
    have hM := max_B hb2 hG
    have e1 : (wG (s.2.2 0) 0 i 2 = 0 ∧ wG (s.2.2 0) 0 i 0 = l) → wX encL bdL mX2_holds 0 0 K Pt 16 [some (pR 0), some (pI l), some (pI (iI a ||| iI (bitOf i)).toInt), some (pI (max b (wG (s.2.2 0) 0 i 0))), some (pI (i + 1)), none] [] s := fun c => by
      rw [if_pos c] at hK
      exact ih (i + 1) _ _ (xb_of _) hM (by omega) (by omega) (by omega) hK
    have e2 : ¬ (wG (s.2.2 0) 0 i 2 = 0 ∧ wG (s.2.2 0) 0 i 0 = l) → wX encL bdL mX2_holds 0 0 K Pt 16 [some (pR 0), some (pI l), some (pI a), some (pI (max b (wG (s.2.2 0) 0 i 0))), some (pI (i + 1)), none] [] s := fun c => by
      rw [if_neg c] at hK
      exact ih (i + 1) _ _ ha hM (by omega) (by omega) (by omega) hK
    intro _
    refine ⟨⟨⟨by omega, by omega⟩, hz⟩, fun c => ?_, fun _ => ?_⟩
    · have c : wZ (s.2.2 0) 0 ≤ i := c
      omega
    · repeat' (first | (refine And.intro ?_ ?_) | intro _)
      all_goals first | omega | exact hJ _ _ _ _ (e1 (by omega)) | exact hJ _ _ _ _ (e2 (by omega))
def sX2_holds : LSt → KL → Prop := fun s K => K [pI (fHolds s).1] (fHolds s).2
theorem mX2_holds_ok : mOk encL bdL mX2_holds (atR 0 (a0 sX2_holds)) := by
  refine mOVa0 kX2_holds (fun _ => rfl) (fun s K h hb => wx_J [16] 9 tX2_holds_ok rfl (fun J hR hJ => ?_))
  refine ⟨⟨by omega, by omega⟩, fun hl => hJ _ _ _ _ (X2_holds_l s _ hl _ 0 0 0 ⟨by omega, by omega⟩ ⟨by omega, by omega⟩ (by omega) (by omega) (by rw [Int.sub_zero]) h)⟩
end
-- 47.Lj
section
/-! ===== LateSessions: next, ahead, latest, span ===== -/
def nxL (w : WS) : Nat → Int → Int → Int → Int × Int
  | 0, _, a, b => (a, b)
  | m + 1, i, a, b => if ¬ wRipe w i (w.1 3) ∧ (a < 0 ∨ wG w 1 i 2 < b) then nxL w m (i + 1) i (wG w 1 i 2) else nxL w m (i + 1) a b
def fNext2 (s : LSt) (p : Int × Int) : Int × LSt := if p.1 < 0 then (-2, s) else (p.1, lTell1 s (wI (wI (wI (p.2 + (s.2.2 0).1 0) + 1) - (s.2.2 0).1 3)))
def fNext (s : LSt) : Int × LSt := fNext2 s (nxL (s.2.2 0) (wZ (s.2.2 0) 1).toNat 0 (-1) 0)
theorem X2_next_l {K : KL} {Pt : LSt → Prop} (s : LSt) : ∀ (m : Nat) (i a b : Int), xB a → xB b → 0 ≤ i → i ≤ max 0 (wZ (s.2.2 0) 1) → m = (wZ (s.2.2 0) 1 - i).toNat → K [pI (fNext2 s (nxL (s.2.2 0) m i a b)).1] (fNext2 s (nxL (s.2.2 0) m i a b)).2 → wX encL bdL mX2_next 0 0 K Pt 6 [some (pR 0), some (pI a), some (pI b), some (pI i), none] [] s := by
  intro m
  induction m with
  | zero =>
    intro i a b ha hb2 h0 h1 hm hK
    refine wx_Jb [6] 9 tX2_next_ok rfl (fun hb J hR hJ => ?_)
    have hz : xB (wZ (s.2.2 0) 1) := ((hb.2.2 0).2 1).1
    rw [nxL] at hK
    unfold fNext2 at hK
    intro _
    refine ⟨⟨⟨by omega, by omega⟩, hz⟩, fun _ => ?_, fun c => ?_⟩
    · by_cases c : a < 0
      · rw [if_pos c] at hK
        repeat' (first | (refine And.intro ?_ ?_) | intro _)
        all_goals first | omega | exact hR _ _ hK
      · rw [if_neg c] at hK
        repeat' (first | (refine And.intro ?_ ?_) | intro _)
        all_goals first | omega | exact hR _ _ hK
    · have c : i < wZ (s.2.2 0) 1 := c
      omega
  | succ m ih =>
    intro i a b ha hb2 h0 h1 hm hK
    refine wx_Jb [6] 9 tX2_next_ok rfl (fun hb J hR hJ => ?_)
    have hz : xB (wZ (s.2.2 0) 1) := ((hb.2.2 0).2 1).1
    rw [nxL] at hK
    have e1 : (¬ wRipe (s.2.2 0) i ((s.2.2 0).1 3) ∧ (a < 0 ∨ wG (s.2.2 0) 1 i 2 < b)) → wX encL bdL mX2_next 0 0 K Pt 6 [some (pR 0), some (pI i), some (pI (wG (s.2.2 0) 1 i 2)), some (pI (i + 1)), none] [] s := fun c => by
      rw [if_pos c] at hK
      exact ih (i + 1) _ _ ⟨by omega, by omega⟩ (wG_B (hb.2.2 0)) (by omega) (by omega) (by omega) hK
    have e2 : ¬ (¬ wRipe (s.2.2 0) i ((s.2.2 0).1 3) ∧ (a < 0 ∨ wG (s.2.2 0) 1 i 2 < b)) → wX encL bdL mX2_next 0 0 K Pt 6 [some (pR 0), some (pI a), some (pI b), some (pI (i + 1)), none] [] s := fun c => by
      rw [if_neg c] at hK
      exact ih (i + 1) _ _ ha hb2 (by omega) (by omega) (by omega) hK
    intro _
    refine ⟨⟨⟨by omega, by omega⟩, hz⟩, fun c => ?_, fun _ => ?_⟩
    · have c : wZ (s.2.2 0) 1 ≤ i := c
      omega
    · repeat' (first | (refine And.intro ?_ ?_) | intro _)
      all_goals first | omega | exact hJ _ _ _ _ (e1 (by omega)) | exact hJ _ _ _ _ (e2 (by omega))
def sX2_next : LSt → KL → Prop := fun s K => K [pI (fNext s).1] (fNext s).2
theorem mX2_next_ok : mOk encL bdL mX2_next (atR 0 (a0 sX2_next)) := by
  refine mOVa0 kX2_next (fun _ => rfl) (fun s K h hb => wx_J [6] 9 tX2_next_ok rfl (fun J hR hJ => ?_))
  exact hJ _ _ _ _ (X2_next_l s _ 0 (-1) 0 ⟨by omega, by omega⟩ ⟨by omega, by omega⟩ (by omega) (by omega) (by rw [Int.sub_zero]) h)
def wOvers (w : WS) (p : Int) : Int → Bool := fun i => decide (wOver w i p)
def fAhead (s : LSt) (p : Int) : Int × LSt := if 0 ≤ p ∧ p ≤ 20000 then (if p < (s.2.2 0).1 3 then (-2, s) else (wRipening (s.2.2 0) p, lTell1 s (cntI (wOvers (s.2.2 0) p) (wZ (s.2.2 0) 1).toNat 0))) else (-1, s)
theorem X2_ahead_l {K : KL} {Pt : LSt → Prop} (s : LSt) (p : Int) (hp : xB p) : ∀ (m : Nat) (i a : Int), 0 ≤ a → a ≤ i → 0 ≤ i → i ≤ max 0 (wZ (s.2.2 0) 1) → m = (wZ (s.2.2 0) 1 - i).toNat → K [pI (wRipening (s.2.2 0) p)] (lTell1 s (a + cntI (wOvers (s.2.2 0) p) m i)) → wX encL bdL mX2_ahead 0 0 K Pt 31 [some (pR 0), some (pI p), some (pI a), some (pI i)] [] s := by
  intro m
  induction m with
  | zero =>
    intro i a ha1 ha2 h0 h1 hm hK
    refine wx_Jb [31] 9 tX2_ahead_ok rfl (fun hb J hR hJ => ?_)
    have hz : xB (wZ (s.2.2 0) 1) := ((hb.2.2 0).2 1).1
    rw [cntI, Int.add_zero] at hK
    have hK2 : K [pI (wRipening ((lTell1 s a).2.2 0) p)] (lTell1 s a) := by rw [lTell1_w]; exact hK
    intro _
    refine ⟨⟨⟨by omega, by omega⟩, hz⟩, fun _ => ?_, fun c => ?_⟩
    · repeat' (first | (refine And.intro ?_ ?_) | intro _)
      all_goals first | omega | exact hR _ _ hK2
    · have c : i < wZ (s.2.2 0) 1 := c
      omega
  | succ m ih =>
    intro i a ha1 ha2 h0 h1 hm hK
    refine wx_Jb [31] 9 tX2_ahead_ok rfl (fun hb J hR hJ => ?_)
    have hz : xB (wZ (s.2.2 0) 1) := ((hb.2.2 0).2 1).1
    have e1 : wOver (s.2.2 0) i p → wX encL bdL mX2_ahead 0 0 K Pt 31 [some (pR 0), some (pI p), some (pI (a + 1)), some (pI (i + 1))] [] s := fun c => by
      rw [cntI_t (decide_eq_true c), ← Int.add_assoc] at hK
      exact ih (i + 1) _ (by omega) (by omega) (by omega) (by omega) (by omega) hK
    have e2 : ¬ wOver (s.2.2 0) i p → wX encL bdL mX2_ahead 0 0 K Pt 31 [some (pR 0), some (pI p), some (pI a), some (pI (i + 1))] [] s := fun c => by
      rw [cntI_f (decide_eq_false c)] at hK
      exact ih (i + 1) _ (by omega) (by omega) (by omega) (by omega) (by omega) hK
    intro _
    refine ⟨⟨⟨by omega, by omega⟩, hz⟩, fun c => ?_, fun _ => ?_⟩
    · have c : wZ (s.2.2 0) 1 ≤ i := c
      omega
    · repeat' (first | (refine And.intro ?_ ?_) | intro _)
      all_goals first | omega | exact hJ _ _ _ _ (e1 (by omega)) | exact hJ _ _ _ _ (e2 (by omega))
def sX2_ahead : Int → LSt → KL → Prop := fun p s K => xB p ∧ K [pI (fAhead s p).1] (fAhead s p).2
theorem mX2_ahead_ok : mOk encL bdL mX2_ahead (atR 0 (a1 sX2_ahead)) := by
  refine mOVa1 kX2_ahead (fun _ => rfl) (fun p s K h hb => wx_J [31] 9 tX2_ahead_ok rfl (fun J hR hJ => ?_))
  obtain ⟨h1, hK⟩ := h
  unfold fAhead at hK
  by_cases c : 0 ≤ p ∧ p ≤ 20000
  · rw [if_pos c] at hK
    by_cases c2 : p < (s.2.2 0).1 3
    · rw [if_pos c2] at hK
      repeat' (first | (refine And.intro ?_ ?_) | intro _)
      all_goals first | omega | exact hR _ _ hK
    · rw [if_neg c2] at hK
      have g := X2_ahead_l (K := K) (Pt := fun _ => False) s p h1 _ 0 0 (by omega) (by omega) (by omega) (by omega) (by rw [Int.sub_zero]) (by rw [Int.zero_add]; exact hK)
      repeat' (first | (refine And.intro ?_ ?_) | intro _)
      all_goals first | omega | exact hJ _ _ _ _ g
  · rw [if_neg c] at hK
    repeat' (first | (refine And.intro ?_ ?_) | intro _)
    all_goals first | omega | exact hR _ _ hK
def laL (w : WS) : Nat → Int → Int → Int → Int × Int
  | 0, _, a, b => (a, b)
  | m + 1, i, a, b => if a < wG w 4 i 6 then laL w m (i + 1) (wG w 4 i 6) i else laL w m (i + 1) a b
def fLatest (s : LSt) : Int × LSt :=
  let p := laL (s.2.2 0) (wZ (s.2.2 0) 4).toNat 0 0 (-1)
  (p.1, lTell1 s p.2)
theorem X2_latest_l {K : KL} {Pt : LSt → Prop} (s : LSt) : ∀ (m : Nat) (i a b : Int), xB a → xB b → 0 ≤ i → i ≤ max 0 (wZ (s.2.2 0) 4) → m = (wZ (s.2.2 0) 4 - i).toNat → K [pI (laL (s.2.2 0) m i a b).1] (lTell1 s (laL (s.2.2 0) m i a b).2) → wX encL bdL mX2_latest 0 0 K Pt 6 [some (pR 0), some (pI a), some (pI b), some (pI i), none] [] s := by
  intro m
  induction m with
  | zero =>
    intro i a b ha hb2 h0 h1 hm hK
    refine wx_Jb [6] 9 tX2_latest_ok rfl (fun hb J hR hJ => ?_)
    have hz : xB (wZ (s.2.2 0) 4) := ((hb.2.2 0).2 4).1
    intro _
    refine ⟨⟨⟨by omega, by omega⟩, hz⟩, fun _ => ?_, fun c => ?_⟩
    · repeat' (first | (refine And.intro ?_ ?_) | intro _)
      all_goals first | omega | exact hR _ _ hK
    · have c : i < wZ (s.2.2 0) 4 := c
      omega
  | succ m ih =>
    intro i a b ha hb2 h0 h1 hm hK
    refine wx_Jb [6] 9 tX2_latest_ok rfl (fun hb J hR hJ => ?_)
    have hz : xB (wZ (s.2.2 0) 4) := ((hb.2.2 0).2 4).1
    rw [laL] at hK
    have e1 : a < wG (s.2.2 0) 4 i 6 → wX encL bdL mX2_latest 0 0 K Pt 6 [some (pR 0), some (pI (wG (s.2.2 0) 4 i 6)), some (pI i), some (pI (i + 1)), none] [] s := fun c => by
      rw [if_pos c] at hK
      exact ih (i + 1) _ _ (wG_B (hb.2.2 0)) ⟨by omega, by omega⟩ (by omega) (by omega) (by omega) hK
    have e2 : ¬ a < wG (s.2.2 0) 4 i 6 → wX encL bdL mX2_latest 0 0 K Pt 6 [some (pR 0), some (pI a), some (pI b), some (pI (i + 1)), none] [] s := fun c => by
      rw [if_neg c] at hK
      exact ih (i + 1) _ _ ha hb2 (by omega) (by omega) (by omega) hK
    intro _
    refine ⟨⟨⟨by omega, by omega⟩, hz⟩, fun c => ?_, fun _ => ?_⟩
    · have c : wZ (s.2.2 0) 4 ≤ i := c
      omega
    · repeat' (first | (refine And.intro ?_ ?_) | intro _)
      all_goals first | omega | exact hJ _ _ _ _ (e1 (by omega)) | exact hJ _ _ _ _ (e2 (by omega))
def sX2_latest : LSt → KL → Prop := fun s K => K [pI (fLatest s).1] (fLatest s).2
theorem mX2_latest_ok : mOk encL bdL mX2_latest (atR 0 (a0 sX2_latest)) := by
  refine mOVa0 kX2_latest (fun _ => rfl) (fun s K h hb => wx_J [6] 9 tX2_latest_ok rfl (fun J hR hJ => ?_))
  exact hJ _ _ _ _ (X2_latest_l s _ 0 0 (-1) ⟨by omega, by omega⟩ ⟨by omega, by omega⟩ (by omega) (by omega) (by rw [Int.sub_zero]) h)
-- X2_span: heads [35, 48]
def tX2_span : Nat → Blk LSt := fun pc => bif Nat.blt pc 48 then (bif Nat.blt pc 21 then (bif Nat.blt pc 19 then (bif Nat.beq pc 0 then (oIld 1 <| oC1 (cL_X2_isTime) <| oZEq 19 <| oIld 2 <| oC1 (cL_X2_isTime) <| oZEq 19 <| oIld 2 <| oIld 1 <| oCGe 21 <| oTo 19) else oNo) else (bif Nat.beq pc 19 then (oI (-1) <| oIret) else oNo)) else (bif Nat.blt pc 35 then (bif Nat.beq pc 21 then (oI 0 <| oIst 3 <| oI 0 <| oIst 4 <| oI (-1) <| oIst 5 <| oI 0 <| oIst 6 <| oI 0 <| oIst 7 <| oM [true, true, true, true, true, true, true, true, false, false, false] (oTo 35)) else oNo) else (bif Nat.beq pc 35 then (oIld 7 <| oI 6 <| oCGe 157 <| oI 0 <| oIst 8 <| oI 0 <| oIst 9 <| oM [true, true, true, true, true, true, true, true, true, true, false] (oTo 48)) else oNo))) else (bif Nat.blt pc 129 then (bif Nat.blt pc 123 then (bif Nat.beq pc 48 then (oIld 9 <| oAld 0 <| oGet (fgL) 2 0 <| oGet (fgL) 1 14 <| oGet (fgL) 0 3 <| oCGe 129 <| oAld 0 <| oGet (fgL) 2 0 <| oGet (fgL) 1 14 <| oIld 9 <| oI 2 <| oC3 (cL_X0_get) <| oIst 10 <| oAld 0 <| oGet (fgL) 2 0 <| oIld 9 <| oIld 7 <| oC3 (cL_X1_isTakenOf) <| oZEq 123 <| oIld 10 <| oIld 1 <| oCLt 123 <| oIld 10 <| oIld 2 <| oCGt 123 <| oInc 8 1 <| oIld 3 <| oAld 0 <| oGet (fgL) 2 0 <| oGet (fgL) 1 14 <| oIld 9 <| oI 4 <| oC3 (cL_X0_get) <| oAddW <| oIst 3 <| oTo 123) else oNo) else (bif Nat.beq pc 123 then (oInc 9 1 <| oM [true, true, true, true, true, true, true, true, true, true, false] (oTo 48)) else oNo)) else (bif Nat.blt pc 151 then (bif Nat.beq pc 129 then (oIld 4 <| oIld 8 <| oAddW <| oIst 4 <| oIld 8 <| oIld 6 <| oCLe 151 <| oIld 8 <| oIst 6 <| oIld 7 <| oIst 5 <| oTo 151) else oNo) else (bif Nat.blt pc 157 then (bif Nat.beq pc 151 then (oInc 7 1 <| oM [true, true, true, true, true, true, true, true, false, false, false] (oTo 35)) else oNo) else (bif Nat.beq pc 157 then (oAld 0 <| oIld 3 <| oI2l <| oIld 5 <| oI2l <| oIld 6 <| oI2l <| oC4 (cL_X2_tellThree) <| oIld 4 <| oIret) else oNo))))
theorem tX2_span_ok : ∀ pc, bOk (encL) (bdL) mX2_span 0 0 pc (tX2_span pc) := fun pc => (tNode (tNode (tNode (tLeaf (okIldn iX2_span_0 rfl <| okC1 (qL_X2_isTime iX2_span_1) <| okZEq (tl rfl) iX2_span_4 <| okIldn iX2_span_7 rfl <| okC1 (qL_X2_isTime iX2_span_8) <| okZEq (tl rfl) iX2_span_11 <| okIldn iX2_span_14 rfl <| okIldn iX2_span_15 rfl <| okCGe (tl rfl) iX2_span_16 <| okTo (tl rfl))) (tLeaf (okIc iX2_span_19 <| okIret iX2_span_20 rfl))) (tNode (tLeaf (okIc iX2_span_21 <| okIstn iX2_span_22 rfl (by decide) <| okIc iX2_span_23 <| okIst iX2_span_24 (by decide) <| okIc iX2_span_26 <| okIst iX2_span_27 (by decide) <| okIc iX2_span_29 <| okIst iX2_span_30 (by decide) <| okIc iX2_span_32 <| okIst iX2_span_33 (by decide) <| okM (okTo (tl rfl)))) (tLeaf (okIld iX2_span_35 <| okBi iX2_span_37 (by decide) <| okCGe (tl rfl) iX2_span_39 <| okIc iX2_span_42 <| okIst iX2_span_43 (by decide) <| okIc iX2_span_45 <| okIst iX2_span_46 (by decide) <| okM (okTo (tl rfl)))))) (tNode (tNode (tLeaf (okIld iX2_span_48 <| okAldn iX2_span_50 rfl <| okGet (vFgL) iX2_span_51 <| okGet (vFgL) iX2_span_54 <| okGet (vFgL) iX2_span_57 <| okCGe (tl rfl) iX2_span_60 <| okAldn iX2_span_63 rfl <| okGet (vFgL) iX2_span_64 <| okGet (vFgL) iX2_span_67 <| okIld iX2_span_70 <| okIc iX2_span_72 <| okC3 (qL_X0_get iX2_span_73) <| okIst iX2_span_76 (by decide) <| okAldn iX2_span_78 rfl <| okGet (vFgL) iX2_span_79 <| okIld iX2_span_82 <| okIld iX2_span_84 <| okC3 (qL_X1_isTakenOf iX2_span_86) <| okZEq (tl rfl) iX2_span_89 <| okIld iX2_span_92 <| okIldn iX2_span_94 rfl <| okCLt (tl rfl) iX2_span_95 <| okIld iX2_span_98 <| okIldn iX2_span_100 rfl <| okCGt (tl rfl) iX2_span_101 <| okInc iX2_span_104 (by decide) <| okIldn iX2_span_107 rfl <| okAldn iX2_span_108 rfl <| okGet (vFgL) iX2_span_109 <| okGet (vFgL) iX2_span_112 <| okIld iX2_span_115 <| okIc iX2_span_117 <| okC3 (qL_X0_get iX2_span_118) <| okAddW iX2_span_121 <| okIstn iX2_span_122 rfl (by decide) <| okTo (tl rfl))) (tLeaf (okInc iX2_span_123 (by decide) <| okGotoM (tl rfl) iX2_span_126))) (tNode (tLeaf (okIld iX2_span_129 <| okIld iX2_span_131 <| okAddW iX2_span_133 <| okIst iX2_span_134 (by decide) <| okIld iX2_span_136 <| okIld iX2_span_138 <| okCLe (tl rfl) iX2_span_140 <| okIld iX2_span_143 <| okIst iX2_span_145 (by decide) <| okIld iX2_span_147 <| okIst iX2_span_149 (by decide) <| okTo (tl rfl))) (tNode (tLeaf (okInc iX2_span_151 (by decide) <| okGotoM (tl rfl) iX2_span_154)) (tLeaf (okAldn iX2_span_157 rfl <| okIldn iX2_span_158 rfl <| okI2l iX2_span_159 <| okIld iX2_span_160 <| okI2l iX2_span_162 <| okIld iX2_span_163 <| okI2l iX2_span_165 <| okC4 (qL_X2_tellThree iX2_span_166) <| okIld iX2_span_169 <| okIret iX2_span_171 rfl)))))) pc
abbrev spC (w : WS) (f t k i : Int) : Prop := wTakenOf w i k ∧ f ≤ wG w 4 i 2 ∧ wG w 4 i 2 ≤ t
def spI (w : WS) (f t k : Int) : Nat → Int → Int → Int → Int × Int
  | 0, _, a, v => (a, v)
  | m + 1, i, a, v => if spC w f t k i then spI w f t k m (i + 1) (a + 1) (wI (v + wG w 4 i 4)) else spI w f t k m (i + 1) a v
/-- values, together, the key that has most, how many -/
def spO (w : WS) (f t : Int) : Nat → Int → Int → Int → Int → Int → Int × Int × Int × Int
  | 0, _, v, a, k, b => (v, a, k, b)
  | m + 1, i, v, a, k, b =>
    let p := spI w f t i (wZ w 4).toNat 0 0 v
    spO w f t m (i + 1) p.2 (wI (a + p.1)) (if b < p.1 then i else k) (if b < p.1 then p.1 else b)
def fSpan2 (s : LSt) (p : Int × Int × Int × Int) : Int × LSt := (p.2.1, lTell3 s p.1 p.2.2.1 p.2.2.2)
def fSpan (s : LSt) (f t : Int) : Int × LSt := if (0 ≤ f ∧ f ≤ 9999) ∧ (0 ≤ t ∧ t ≤ 9999) ∧ f ≤ t then fSpan2 s (spO (s.2.2 0) f t 6 0 0 0 (-1) 0) else (-1, s)
theorem spI_b (w : WS) (f t k : Int) : ∀ (m : Nat) (i a v : Int), a ≤ (spI w f t k m i a v).1 ∧ (spI w f t k m i a v).1 ≤ a + m ∧ (xB v → xB (spI w f t k m i a v).2)
  | 0, i, a, v => ⟨by simp [spI], by simp [spI], fun h => h⟩
  | m + 1, i, a, v => by
    unfold spI
    split
    · have := spI_b w f t k m (i + 1) (a + 1) (wI (v + wG w 4 i 4))
      exact ⟨by omega, by omega, fun _ => this.2.2 (wI_B _)⟩
    · have := spI_b w f t k m (i + 1) a v
      exact ⟨by omega, by omega, this.2.2⟩
theorem X2_span_l2 {K : KL} {Pt : LSt → Prop} (s : LSt) (f t a k b kk : Int) (hf : xB f) (ht : xB t) (hkk : xB kk) (hb3 : xB b) (x : Int × Int → Prop) (hx : ∀ p : Int × Int, x p → wX encL bdL mX2_span 0 0 K Pt 35 [some (pR 0), some (pI f), some (pI t), some (pI p.2), some (pI (wI (a + p.1))), some (pI (if b < p.1 then kk else k)), some (pI (if b < p.1 then p.1 else b)), some (pI (kk + 1)), none, none, none] [] s) : ∀ (m : Nat) (i c v : Int), 0 ≤ c → c ≤ i → 0 ≤ i → i ≤ max 0 (wZ (s.2.2 0) 4) → m = (wZ (s.2.2 0) 4 - i).toNat → x (spI (s.2.2 0) f t kk m i c v) → wX encL bdL mX2_span 0 0 K Pt 48 [some (pR 0), some (pI f), some (pI t), some (pI v), some (pI a), some (pI k), some (pI b), some (pI kk), some (pI c), some (pI i), none] [] s := by
  intro m
  induction m with
  | zero =>
    intro i c v hc hc2 h0 h1 hm hK
    refine wx_Jb [35, 48] 9 tX2_span_ok rfl (fun hb J hR hJ => ?_)
    have hz : xB (wZ (s.2.2 0) 4) := ((hb.2.2 0).2 4).1
    rw [spI] at hK
    have g := hx _ hK
    intro _
    refine ⟨⟨⟨by omega, by omega⟩, hz⟩, fun _ => ?_, fun c => ?_⟩
    · by_cases q : b < c
      · rw [if_pos (show b < (c, v).1 from q), if_pos (show b < (c, v).1 from q)] at g
        repeat' (first | (refine And.intro ?_ ?_) | intro _)
        all_goals first | omega | exact hJ _ _ _ _ g
      · rw [if_neg (show ¬ b < (c, v).1 from q), if_neg (show ¬ b < (c, v).1 from q)] at g
        repeat' (first | (refine And.intro ?_ ?_) | intro _)
        all_goals first | omega | exact hJ _ _ _ _ g
    · have c : i < wZ (s.2.2 0) 4 := c
      omega
  | succ m ih =>
    intro i c v hc hc2 h0 h1 hm hK
    refine wx_Jb [35, 48] 9 tX2_span_ok rfl (fun hb J hR hJ => ?_)
    have hz : xB (wZ (s.2.2 0) 4) := ((hb.2.2 0).2 4).1
    rw [spI] at hK
    have e1 : spC (s.2.2 0) f t kk i → wX encL bdL mX2_span 0 0 K Pt 48 [some (pR 0), some (pI f), some (pI t), some (pI (wI (v + wG (s.2.2 0) 4 i 4))), some (pI a), some (pI k), some (pI b), some (pI kk), some (pI (c + 1)), some (pI (i + 1)), none] [] s := fun q => by
      rw [if_pos q] at hK
      exact ih (i + 1) _ _ (by omega) (by omega) (by omega) (by omega) (by omega) hK
    have e2 : ¬ spC (s.2.2 0) f t kk i → wX encL bdL mX2_span 0 0 K Pt 48 [some (pR 0), some (pI f), some (pI t), some (pI v), some (pI a), some (pI k), some (pI b), some (pI kk), some (pI c), some (pI (i + 1)), none] [] s := fun q => by
      rw [if_neg q] at hK
      exact ih (i + 1) _ _ (by omega) (by omega) (by omega) (by omega) (by omega) hK
    intro _
    refine ⟨⟨⟨by omega, by omega⟩, hz⟩, fun c => ?_, fun _ => ?_⟩
    · have c : wZ (s.2.2 0) 4 ≤ i := c
      omega
    · repeat' (first | (refine And.intro ?_ ?_) | intro _)
      all_goals first | omega | exact hJ _ _ _ _ (e1 (by omega)) | exact hJ _ _ _ _ (e2 (by omega))
theorem X2_span_l1 {K : KL} {Pt : LSt → Prop} (s : LSt) (hs : bdL s) (f t : Int) (hf : xB f) (ht : xB t) : ∀ (m : Nat) (kk v a k b : Int), xB v → xB k → xB b → 0 ≤ kk → kk ≤ 6 → m = (6 - kk).toNat → K [pI (fSpan2 s (spO (s.2.2 0) f t m kk v a k b)).1] (fSpan2 s (spO (s.2.2 0) f t m kk v a k b)).2 → wX encL bdL mX2_span 0 0 K Pt 35 [some (pR 0), some (pI f), some (pI t), some (pI v), some (pI a), some (pI k), some (pI b), some (pI kk), none, none, none] [] s := by
  intro m
  have hz : xB (wZ (s.2.2 0) 4) := ((hs.2.2 0).2 4).1
  induction m with
  | zero =>
    intro kk v a k b hv hk hb2 h0 h1 hm hK
    refine wx_J [35, 48] 9 tX2_span_ok rfl (fun J hR hJ => ?_)
    repeat' (first | (refine And.intro ?_ ?_) | intro _)
    all_goals first | omega | exact hR _ _ hK
  | succ m ih =>
    intro kk v a k b hv hk hb2 h0 h1 hm hK
    refine wx_J [35, 48] 9 tX2_span_ok rfl (fun J hR hJ => ?_)
    rw [spO] at hK
    have hp := spI_b (s.2.2 0) f t kk (wZ (s.2.2 0) 4).toNat 0 0 v
    have g := X2_span_l2 (K := K) (Pt := Pt) s f t a k b kk hf ht ⟨by omega, by omega⟩ hb2 (fun p => p = spI (s.2.2 0) f t kk (wZ (s.2.2 0) 4).toNat 0 0 v) (fun p e => by
      subst e
      refine ih (kk + 1) _ _ _ _ (hp.2.2 hv) ?_ ?_ (by omega) (by omega) (by omega) hK
      · split
        · exact ⟨by omega, by omega⟩
        · exact hk
      · split
        · exact ⟨by omega, by omega⟩
        · exact hb2) _ 0 0 v (by omega) (by omega) (by omega) (by omega) (by rw [Int.sub_zero]) rfl
    repeat' (first | (refine And.intro ?_ ?_) | intro _)
    all_goals first | omega | exact hJ _ _ _ _ g
def sX2_span : Int → Int → LSt → KL → Prop := fun f t s K => (xB f ∧ xB t) ∧ K [pI (fSpan s f t).1] (fSpan s f t).2
theorem mX2_span_ok : mOk encL bdL mX2_span (atR 0 (a2 sX2_span)) := by
  refine mOVa2 kX2_span (fun _ _ => rfl) (fun f t s K h hb => wx_J [35, 48] 9 tX2_span_ok rfl (fun J hR hJ => ?_))
  obtain ⟨⟨h1, h2⟩, hK⟩ := h
  unfold fSpan at hK
  by_cases c : (0 ≤ f ∧ f ≤ 9999) ∧ (0 ≤ t ∧ t ≤ 9999) ∧ f ≤ t
  · rw [if_pos c] at hK
    have g := X2_span_l1 (K := K) (Pt := fun _ => False) s hb f t h1 h2 6 0 0 0 (-1) 0 ⟨by omega, by omega⟩ ⟨by omega, by omega⟩ ⟨by omega, by omega⟩ (by omega) (by omega) (by omega) hK
    repeat' (first | (refine And.intro ?_ ?_) | intro _)
    all_goals first | omega | exact hJ _ _ _ _ g
  · rw [if_neg c] at hK
    repeat' (first | (refine And.intro ?_ ?_) | intro _)
    all_goals first | omega | exact hR _ _ hK
end
-- 48.Lk
section
/-! ===== LateSessions: batch, parts, years ===== -/
-- X2_batch: heads [35]
def tX2_batch : Nat → Blk LSt := fun pc => bif Nat.blt pc 93 then (bif Nat.blt pc 35 then (bif Nat.blt pc 9 then (bif Nat.beq pc 0 then (oIld 1 <| oC1 (cL_X2_isKey) <| oZNe 9 <| oI (-1) <| oIret) else oNo) else (bif Nat.beq pc 9 then (oAld 0 <| oIld 1 <| oC2 (cL_X2_sortTaken) <| oIst 2 <| oI 0 <| oIst 3 <| oI (-1) <| oIst 4 <| oI (-1) <| oIst 5 <| oI (-1) <| oIst 6 <| oI 0 <| oIst 7 <| oI 0 <| oIst 8 <| oI 0 <| oIst 9 <| oM [true, false, true, true, true, true, true, true, true, true, false] (oTo 35)) else oNo)) else (bif Nat.blt pc 73 then (bif Nat.beq pc 35 then (oIld 9 <| oIld 2 <| oCGe 152 <| oInc 7 1 <| oIld 8 <| oAld 0 <| oIld 9 <| oI 4 <| oC3 (cL_X2_sortedCell) <| oAddW <| oIst 8 <| oIld 9 <| oI 1 <| oAdd <| oIld 2 <| oCGe 73 <| oAld 0 <| oIld 9 <| oC2 (cL_X2_holeBehind) <| oTo 76) else oNo) else (bif Nat.blt pc 76 then (bif Nat.beq pc 73 then (oI 20000 <| oTo 76) else oNo) else (bif Nat.beq pc 76 then (oIst 10 <| oIld 10 <| oAld 0 <| oGet (fgL) 2 0 <| oGet (fgL) 1 0 <| oCGt 93 <| oTo 146) else oNo)))) else (bif Nat.blt pc 137 then (bif Nat.blt pc 102 then (bif Nat.beq pc 93 then (oIld 3 <| oZNe 102 <| oIld 8 <| oTo 109) else oNo) else (bif Nat.blt pc 109 then (bif Nat.beq pc 102 then (oIld 5 <| oIld 8 <| oMax <| oTo 109) else oNo) else (bif Nat.beq pc 109 then (oIst 5 <| oIld 4 <| oIld 7 <| oMax <| oIst 4 <| oIld 9 <| oI 1 <| oAdd <| oIld 2 <| oCGe 137 <| oIld 6 <| oIld 10 <| oMax <| oIst 6 <| oTo 137) else oNo))) else (bif Nat.blt pc 146 then (bif Nat.beq pc 137 then (oInc 3 1 <| oI 0 <| oIst 7 <| oI 0 <| oIst 8 <| oTo 146) else oNo) else (bif Nat.blt pc 152 then (bif Nat.beq pc 146 then (oInc 9 1 <| oM [true, false, true, true, true, true, true, true, true, true, false] (oTo 35)) else oNo) else (bif Nat.beq pc 152 then (oAld 0 <| oIld 4 <| oI2l <| oIld 5 <| oI2l <| oIld 6 <| oI2l <| oC4 (cL_X2_tellThree) <| oIld 3 <| oIret) else oNo))))
theorem tX2_batch_ok : ∀ pc, bOk (encL) (bdL) mX2_batch 0 0 pc (tX2_batch pc) := fun pc => (tNode (tNode (tNode (tLeaf (okIldn iX2_batch_0 rfl <| okC1 (qL_X2_isKey iX2_batch_1) <| okZNe (tl rfl) iX2_batch_4 <| okIc iX2_batch_7 <| okIret iX2_batch_8 rfl)) (tLeaf (okAldn iX2_batch_9 rfl <| okIldn iX2_batch_10 rfl <| okC2 (qL_X2_sortTaken iX2_batch_11) <| okIstn iX2_batch_14 rfl (by decide) <| okIc iX2_batch_15 <| okIstn iX2_batch_16 rfl (by decide) <| okIc iX2_batch_17 <| okIst iX2_batch_18 (by decide) <| okIc iX2_batch_20 <| okIst iX2_batch_21 (by decide) <| okIc iX2_batch_23 <| okIst iX2_batch_24 (by decide) <| okIc iX2_batch_26 <| okIst iX2_batch_27 (by decide) <| okIc iX2_batch_29 <| okIst iX2_batch_30 (by decide) <| okIc iX2_batch_32 <| okIst iX2_batch_33 (by decide) <| okM (okTo (tl rfl))))) (tNode (tLeaf (okIld iX2_batch_35 <| okIldn iX2_batch_37 rfl <| okCGe (tl rfl) iX2_batch_38 <| okInc iX2_batch_41 (by decide) <| okIld iX2_batch_44 <| okAldn iX2_batch_46 rfl <| okIld iX2_batch_47 <| okIc iX2_batch_49 <| okC3 (qL_X2_sortedCell iX2_batch_50) <| okAddW iX2_batch_53 <| okIst iX2_batch_54 (by decide) <| okIld iX2_batch_56 <| okIc iX2_batch_58 <| okAdd iX2_batch_59 <| okIldn iX2_batch_60 rfl <| okCGe (tl rfl) iX2_batch_61 <| okAldn iX2_batch_64 rfl <| okIld iX2_batch_65 <| okC2 (qL_X2_holeBehind iX2_batch_67) <| okGoto (tl rfl) iX2_batch_70)) (tNode (tLeaf (okSi iX2_batch_73 (by decide) <| okTo (tl rfl))) (tLeaf (okIst iX2_batch_76 (by decide) <| okIld iX2_batch_78 <| okAldn iX2_batch_80 rfl <| okGet (vFgL) iX2_batch_81 <| okGet (vFgL) iX2_batch_84 <| okCGt (tl rfl) iX2_batch_87 <| okGoto (tl rfl) iX2_batch_90))))) (tNode (tNode (tLeaf (okIldn iX2_batch_93 rfl <| okZNe (tl rfl) iX2_batch_94 <| okIld iX2_batch_97 <| okGoto (tl rfl) iX2_batch_99)) (tNode (tLeaf (okIld iX2_batch_102 <| okIld iX2_batch_104 <| okMax iX2_batch_106 <| okTo (tl rfl))) (tLeaf (okIst iX2_batch_109 (by decide) <| okIld iX2_batch_111 <| okIld iX2_batch_113 <| okMax iX2_batch_115 <| okIst iX2_batch_118 (by decide) <| okIld iX2_batch_120 <| okIc iX2_batch_122 <| okAdd iX2_batch_123 <| okIldn iX2_batch_124 rfl <| okCGe (tl rfl) iX2_batch_125 <| okIld iX2_batch_128 <| okIld iX2_batch_130 <| okMax iX2_batch_132 <| okIst iX2_batch_135 (by decide) <| okTo (tl rfl))))) (tNode (tLeaf (okInc iX2_batch_137 (by decide) <| okIc iX2_batch_140 <| okIst iX2_batch_141 (by decide) <| okIc iX2_batch_143 <| okIst iX2_batch_144 (by decide) <| okTo (tl rfl))) (tNode (tLeaf (okInc iX2_batch_146 (by decide) <| okGotoM (tl rfl) iX2_batch_149)) (tLeaf (okAldn iX2_batch_152 rfl <| okIld iX2_batch_153 <| okI2l iX2_batch_155 <| okIld iX2_batch_156 <| okI2l iX2_batch_158 <| okIld iX2_batch_159 <| okI2l iX2_batch_161 <| okC4 (qL_X2_tellThree iX2_batch_162) <| okIldn iX2_batch_165 rfl <| okIret iX2_batch_166 rfl)))))) pc
abbrev BT : Type := Int × Int × Int × Int
def baL (s : LSt) (n : Int) : Nat → Int → Int → Int → Int → Int → Int → Int → BT
  | 0, _, fa, mc, ms, wd, _, _ => (fa, mc, ms, wd)
  | m + 1, k, fa, mc, ms, wd, c, u =>
    if (if k + 1 < n then lHole s k else 20000) ≤ (s.2.2 0).1 0 then baL s n m (k + 1) fa mc ms wd (c + 1) (wI (u + lCell s k 4))
    else baL s n m (k + 1) (fa + 1) (max mc (c + 1)) (if fa = 0 then wI (u + lCell s k 4) else max ms (wI (u + lCell s k 4))) (if k + 1 < n then max wd (lHole s k) else wd) 0 0
def fBat2 (s : LSt) (p : BT) : Int × LSt := (p.1, lTell3 s p.2.1 p.2.2.1 p.2.2.2)
def fBatch (s : LSt) (k : Int) : Int × LSt := if 0 ≤ k ∧ k < 6 then
  let s1 := (lSort s k).2
  fBat2 s1 (baL s1 ((lSort s k).1 : Int) (lSort s k).1 0 0 (-1) (-1) (-1) 0 0) else (-1, s)
theorem X2_batch_l {K : KL} {Pt : LSt → Prop} (s : LSt) (n : Int) (hn : 0 ≤ n ∧ n ≤ 160) : ∀ (m : Nat) (k fa mc ms wd c u : Int), 0 ≤ k → k ≤ n → m = (n - k).toNat → 0 ≤ c → c ≤ k → 0 ≤ fa → fa ≤ k → xB mc → xB ms → xB wd → xB u → K [pI (fBat2 s (baL s n m k fa mc ms wd c u)).1] (fBat2 s (baL s n m k fa mc ms wd c u)).2 → wX encL bdL mX2_batch 0 0 K Pt 35 [some (pR 0), none, some (pI n), some (pI fa), some (pI mc), some (pI ms), some (pI wd), some (pI c), some (pI u), some (pI k), none] [] s := by
  intro m
  induction m with
  | zero =>
    intro k fa mc ms wd c u h0 h1 hm hc hc2 hf hf2 hmc hms hwd hu hK
    refine wx_J [35] 9 tX2_batch_ok rfl (fun J hR hJ => ?_)
    repeat' (first | (refine And.intro ?_ ?_) | intro _)
    all_goals first | omega | exact hR _ _ hK
  | succ m ih =>
    intro k fa mc ms wd c u h0 h1 hm hc hc2 hf hf2 hmc hms hwd hu hK
    refine wx_J [35] 9 tX2_batch_ok rfl (fun J hR hJ => ?_)
    rw [baL] at hK
    have hU := wI_B (u + lCell s k 4)
    have hM := max_B hmc (b := c + 1) ⟨by omega, by omega⟩
    have hS := max_B hms hU
    have hH : xB (lHole s k) := wI_B _
    have hW := max_B hwd hH
    have h20 := max_B hwd (b := 20000) ⟨by omega, by omega⟩
    by_cases q : k + 1 < n
    · rw [if_pos q, if_pos q] at hK
      by_cases q2 : lHole s k ≤ (s.2.2 0).1 0
      · rw [if_pos q2] at hK
        have g := ih (k + 1) _ _ _ _ _ _ (by omega) (by omega) (by omega) (by omega) (by omega) (by omega) (by omega) hmc hms hwd hU hK
        repeat' (first | (refine And.intro ?_ ?_) | (intro hq; first | (exact absurd hq (by omega)) | skip))
        all_goals first | omega | exact hJ _ _ _ _ g
      · rw [if_neg q2] at hK
        by_cases q3 : fa = 0
        · rw [if_pos q3] at hK
          have g := ih (k + 1) _ _ _ _ _ _ (by omega) (by omega) (by omega) (by omega) (by omega) (by omega) (by omega) hM hU hW ⟨by omega, by omega⟩ hK
          repeat' (first | (refine And.intro ?_ ?_) | (intro hq; first | (exact absurd hq (by omega)) | skip))
          all_goals first | omega | exact hJ _ _ _ _ g
        · rw [if_neg q3] at hK
          have g := ih (k + 1) _ _ _ _ _ _ (by omega) (by omega) (by omega) (by omega) (by omega) (by omega) (by omega) hM hS hW ⟨by omega, by omega⟩ hK
          repeat' (first | (refine And.intro ?_ ?_) | (intro hq; first | (exact absurd hq (by omega)) | skip))
          all_goals first | omega | exact hJ _ _ _ _ g
    · rw [if_neg q, if_neg q] at hK
      by_cases q2 : 20000 ≤ (s.2.2 0).1 0
      · rw [if_pos q2] at hK
        have g := ih (k + 1) _ _ _ _ _ _ (by omega) (by omega) (by omega) (by omega) (by omega) (by omega) (by omega) hmc hms hwd hU hK
        repeat' (first | (refine And.intro ?_ ?_) | (intro hq; first | (exact absurd hq (by omega)) | skip))
        all_goals first | omega | exact hJ _ _ _ _ g
      · rw [if_neg q2] at hK
        by_cases q3 : fa = 0
        · rw [if_pos q3] at hK
          have g := ih (k + 1) _ _ _ _ _ _ (by omega) (by omega) (by omega) (by omega) (by omega) (by omega) (by omega) hM hU hwd ⟨by omega, by omega⟩ hK
          repeat' (first | (refine And.intro ?_ ?_) | (intro hq; first | (exact absurd hq (by omega)) | skip))
          all_goals first | omega | exact hJ _ _ _ _ g
        · rw [if_neg q3] at hK
          have g := ih (k + 1) _ _ _ _ _ _ (by omega) (by omega) (by omega) (by omega) (by omega) (by omega) (by omega) hM hS hwd ⟨by omega, by omega⟩ hK
          repeat' (first | (refine And.intro ?_ ?_) | (intro hq; first | (exact absurd hq (by omega)) | skip))
          all_goals first | omega | exact hJ _ _ _ _ g
def sX2_batch : Int → LSt → KL → Prop := fun k s K => (xB k ∧ lok s) ∧ K [pI (fBatch s k).1] (fBatch s k).2
theorem mX2_batch_ok : mOk encL bdL mX2_batch (atR 0 (a1 sX2_batch)) := by
  refine mOVa1 kX2_batch (fun _ => rfl) (fun k s K h hb => wx_J [35] 9 tX2_batch_ok rfl (fun J hR hJ => ?_))
  obtain ⟨⟨h1, h5⟩, hK⟩ := h
  have hw := h5.2.2.2 0 (by decide)
  unfold fBatch at hK
  refine ⟨h1, fun c => ?_, fun c => ?_⟩
  · rw [if_pos c] at hK
    refine ⟨⟨by omega, by omega⟩, fun _ => ⟨⟨h1, hw⟩, fun n0 n1 => ?_⟩, fun q => absurd q (by omega)⟩
    exact hJ _ _ _ _ (X2_batch_l (lSort s k).2 ((lSort s k).1 : Int) ⟨n0, n1⟩ (lSort s k).1 0 0 (-1) (-1) (-1) 0 0 (by omega) (by omega) (by omega) (by omega) (by omega) (by omega) (by omega) ⟨by omega, by omega⟩ ⟨by omega, by omega⟩ ⟨by omega, by omega⟩ ⟨by omega, by omega⟩ hK)
  · rw [if_neg c] at hK
    exact ⟨⟨by omega, by omega⟩, fun q => absurd rfl q, fun _ => hR _ _ hK⟩
-- X2_years: heads [65]
def tX2_years : Nat → Blk LSt := fun pc => bif Nat.blt pc 13 then (bif Nat.blt pc 11 then (bif Nat.beq pc 0 then (oIld 2 <| oI 1 <| oCLt 11 <| oIld 2 <| oI 40 <| oCLe 13 <| oTo 11) else oNo) else (bif Nat.beq pc 11 then (oI (-1) <| oIret) else oNo)) else (bif Nat.blt pc 65 then (bif Nat.beq pc 13 then (oAld 0 <| oGet (fgL) 2 1 <| oAld 0 <| oGet (fgL) 2 0 <| oC2 (cL_X1_copyFrom) <| oIld 2 <| oI 160 <| oAld 0 <| oGet (fgL) 2 0 <| oGet (fgL) 1 14 <| oGet (fgL) 0 3 <| oSubW <| oMin <| oIst 3 <| oI 1 <| oAld 0 <| oGet (fgL) 2 0 <| oGet (fgL) 1 10 <| oGet (fgL) 0 3 <| oMax <| oIst 4 <| oIld 1 <| oIst 5 <| oI 0 <| oIst 6 <| oM [true, false, false, true, true, true, true, false, false, false, false] (oTo 65)) else oNo) else (bif Nat.blt pc 187 then (bif Nat.beq pc 65 then (oIld 6 <| oIld 3 <| oCGe 187 <| oIld 5 <| oC1 (cL_X2_drawAfter) <| oIst 5 <| oIld 5 <| oI 6 <| oC2 (cL_X2_drawOf) <| oIst 7 <| oIld 5 <| oC1 (cL_X2_drawAfter) <| oIst 5 <| oAld 0 <| oGet (fgL) 2 1 <| oGet (fgL) 1 3 <| oAld 0 <| oGet (fgL) 2 1 <| oGet (fgL) 1 1 <| oSubW <| oIld 5 <| oI 100 <| oC2 (cL_X2_drawOf) <| oAddW <| oIst 8 <| oIld 5 <| oC1 (cL_X2_drawAfter) <| oIst 5 <| oIld 5 <| oI 199 <| oC2 (cL_X2_drawOf) <| oI 99 <| oSubW <| oIst 9 <| oIld 5 <| oC1 (cL_X2_drawAfter) <| oIst 5 <| oIld 5 <| oIld 4 <| oC2 (cL_X2_drawOf) <| oIst 10 <| oAld 0 <| oGet (fgL) 2 1 <| oIld 7 <| oI 0 <| oI 9999 <| oIld 8 <| oMin <| oMax <| oIld 9 <| oIld 10 <| oC5 (cL_X1_playEvent) <| oPop <| oInc 6 1 <| oM [true, false, false, true, true, true, true, false, false, false, false] (oTo 65)) else oNo) else (bif Nat.beq pc 187 then (oAld 0 <| oAld 0 <| oGet (fgL) 2 1 <| oGet (fgL) 1 4 <| oAld 0 <| oGet (fgL) 2 0 <| oGet (fgL) 1 4 <| oSubW <| oI2l <| oAld 0 <| oGet (fgL) 2 1 <| oGet (fgL) 1 3 <| oI2l <| oC3 (cL_X2_tellTwo) <| oAld 0 <| oGet (fgL) 2 1 <| oGet (fgL) 1 6 <| oAld 0 <| oGet (fgL) 2 0 <| oGet (fgL) 1 6 <| oSubW <| oIret) else oNo)))
theorem tX2_years_ok : ∀ pc, bOk (encL) (bdL) mX2_years 0 0 pc (tX2_years pc) := fun pc => (tNode (tNode (tLeaf (okIldn iX2_years_0 rfl <| okIc iX2_years_1 <| okCLt (tl rfl) iX2_years_2 <| okIldn iX2_years_5 rfl <| okBi iX2_years_6 (by decide) <| okCLe (tl rfl) iX2_years_8 <| okTo (tl rfl))) (tLeaf (okIc iX2_years_11 <| okIret iX2_years_12 rfl))) (tNode (tLeaf (okAldn iX2_years_13 rfl <| okGet (vFgL) iX2_years_14 <| okAldn iX2_years_17 rfl <| okGet (vFgL) iX2_years_18 <| okC2 (qL_X1_copyFrom iX2_years_21) <| okIldn iX2_years_24 rfl <| okSi iX2_years_25 (by decide) <| okAldn iX2_years_28 rfl <| okGet (vFgL) iX2_years_29 <| okGet (vFgL) iX2_years_32 <| okGet (vFgL) iX2_years_35 <| okSubW iX2_years_38 <| okMin iX2_years_39 <| okIstn iX2_years_42 rfl (by decide) <| okIc iX2_years_43 <| okAldn iX2_years_44 rfl <| okGet (vFgL) iX2_years_45 <| okGet (vFgL) iX2_years_48 <| okGet (vFgL) iX2_years_51 <| okMax iX2_years_54 <| okIst iX2_years_57 (by decide) <| okIldn iX2_years_59 rfl <| okIst iX2_years_60 (by decide) <| okIc iX2_years_62 <| okIst iX2_years_63 (by decide) <| okM (okTo (tl rfl)))) (tNode (tLeaf (okIld iX2_years_65 <| okIldn iX2_years_67 rfl <| okCGe (tl rfl) iX2_years_68 <| okIld iX2_years_71 <| okC1 (qL_X2_drawAfter iX2_years_73) <| okIst iX2_years_76 (by decide) <| okIld iX2_years_78 <| okBi iX2_years_80 (by decide) <| okC2 (qL_X2_drawOf iX2_years_82) <| okIst iX2_years_85 (by decide) <| okIld iX2_years_87 <| okC1 (qL_X2_drawAfter iX2_years_89) <| okIst iX2_years_92 (by decide) <| okAldn iX2_years_94 rfl <| okGet (vFgL) iX2_years_95 <| okGet (vFgL) iX2_years_98 <| okAldn iX2_years_101 rfl <| okGet (vFgL) iX2_years_102 <| okGet (vFgL) iX2_years_105 <| okSubW iX2_years_108 <| okIld iX2_years_109 <| okBi iX2_years_111 (by decide) <| okC2 (qL_X2_drawOf iX2_years_113) <| okAddW iX2_years_116 <| okIst iX2_years_117 (by decide) <| okIld iX2_years_119 <| okC1 (qL_X2_drawAfter iX2_years_121) <| okIst iX2_years_124 (by decide) <| okIld iX2_years_126 <| okSi iX2_years_128 (by decide) <| okC2 (qL_X2_drawOf iX2_years_131) <| okBi iX2_years_134 (by decide) <| okSubW iX2_years_136 <| okIst iX2_years_137 (by decide) <| okIld iX2_years_139 <| okC1 (qL_X2_drawAfter iX2_years_141) <| okIst iX2_years_144 (by decide) <| okIld iX2_years_146 <| okIld iX2_years_148 <| okC2 (qL_X2_drawOf iX2_years_150) <| okIst iX2_years_153 (by decide) <| okAldn iX2_years_155 rfl <| okGet (vFgL) iX2_years_156 <| okIld iX2_years_159 <| okIc iX2_years_161 <| okSi iX2_years_162 (by decide) <| okIld iX2_years_165 <| okMin iX2_years_167 <| okMax iX2_years_170 <| okIld iX2_years_173 <| okIld iX2_years_175 <| okC5 (qL_X1_playEvent iX2_years_177) <| okPop iX2_years_180 <| okInc iX2_years_181 (by decide) <| okGotoM (tl rfl) iX2_years_184)) (tLeaf (okAldn iX2_years_187 rfl <| okAldn iX2_years_188 rfl <| okGet (vFgL) iX2_years_189 <| okGet (vFgL) iX2_years_192 <| okAldn iX2_years_195 rfl <| okGet (vFgL) iX2_years_196 <| okGet (vFgL) iX2_years_199 <| okSubW iX2_years_202 <| okI2l iX2_years_203 <| okAldn iX2_years_204 rfl <| okGet (vFgL) iX2_years_205 <| okGet (vFgL) iX2_years_208 <| okI2l iX2_years_211 <| okC3 (qL_X2_tellTwo iX2_years_212) <| okAldn iX2_years_215 rfl <| okGet (vFgL) iX2_years_216 <| okGet (vFgL) iX2_years_219 <| okAldn iX2_years_222 rfl <| okGet (vFgL) iX2_years_223 <| okGet (vFgL) iX2_years_226 <| okSubW iX2_years_229 <| okIret iX2_years_230 rfl))))) pc
def yrL (r : Int) : Nat → Int → LSt → LSt
  | 0, _, s => s
  | m + 1, d, s => yrL r m (dAfter (dAfter (dAfter (dAfter d)))) (setW s 1 (wPlayE (s.2.2 1) (dOf (dAfter d) 6) (max 0 (min 9999 (wI (wI ((s.2.2 1).1 3 - (s.2.2 1).1 1) + dOf (dAfter (dAfter d)) 100)))) (wI (dOf (dAfter (dAfter (dAfter d))) 199 - 99)) (dOf (dAfter (dAfter (dAfter (dAfter d)))) r)))
def fYear2 (s : LSt) : Int × LSt := (wI ((s.2.2 1).1 6 - (s.2.2 0).1 6), lTell2 s (wI ((s.2.2 1).1 4 - (s.2.2 0).1 4)) ((s.2.2 1).1 3))
def fYears (s : LSt) (d n : Int) : Int × LSt := if 1 ≤ n ∧ n ≤ 40 then
  fYear2 (yrL (max 1 (wZ (s.2.2 0) 0)) (min n (wI (160 - wZ (s.2.2 0) 4))).toNat d (setW s 1 (wCopy (s.2.2 1) (s.2.2 0)))) else (-1, s)
theorem X2_years_l {K : KL} {Pt : LSt → Prop} (c r : Int) (hc : xB c) (hr : xB r) : ∀ (m : Nat) (i d : Int) (s : LSt), wok (s.2.2 1) → xB d → 0 ≤ i → i ≤ max 0 c → m = (c - i).toNat → K [pI (fYear2 (yrL r m d s)).1] (fYear2 (yrL r m d s)).2 → wX encL bdL mX2_years 0 0 K Pt 65 [some (pR 0), none, none, some (pI c), some (pI r), some (pI d), some (pI i), none, none, none, none] [] s := by
  intro m
  induction m with
  | zero =>
    intro i d s ho hd h0 h1 hm hK
    refine wx_J [65] 9 tX2_years_ok rfl (fun J hR hJ => ?_)
    rw [yrL] at hK
    have hK2 : K [pI (wI (((lTell2 s (wI ((s.2.2 1).1 4 - (s.2.2 0).1 4)) ((s.2.2 1).1 3)).2.2 1).1 6 - ((lTell2 s (wI ((s.2.2 1).1 4 - (s.2.2 0).1 4)) ((s.2.2 1).1 3)).2.2 0).1 6))] (lTell2 s (wI ((s.2.2 1).1 4 - (s.2.2 0).1 4)) ((s.2.2 1).1 3)) := by
      rw [lTell2_w]; exact hK
    repeat' (first | (refine And.intro ?_ ?_) | intro _)
    all_goals first | omega | exact hR _ _ hK2
  | succ m ih =>
    intro i d s ho hd h0 h1 hm hK
    refine wx_J [65] 9 tX2_years_ok rfl (fun J hR hJ => ?_)
    rw [yrL] at hK
    have g := ih (i + 1) _ _ (wok_PlayE ho) (wI_B _) (by omega) (by omega) (by omega) hK
    have hmi : ∀ x, xB x → xB (min 9999 x) := fun x hx => min_B (a := 9999) ⟨by omega, by omega⟩ hx
    have hma : ∀ x, xB x → xB (max 0 x) := fun x hx => max_B (a := 0) ⟨by omega, by omega⟩ hx
    repeat' (first | exact ho | (refine And.intro ?_ ?_) | intro _)
    all_goals first | omega | exact hJ _ _ _ _ g
def sX2_years : Int → Int → LSt → KL → Prop := fun d n s K => (xB d ∧ xB n ∧ lok s) ∧ K [pI (fYears s d n).1] (fYears s d n).2
theorem mX2_years_ok : mOk encL bdL mX2_years (atR 0 (a2 sX2_years)) := by
  refine mOVa2 kX2_years (fun _ _ => rfl) (fun d n s K h hb => wx_J [65] 9 tX2_years_ok rfl (fun J hR hJ => ?_))
  obtain ⟨⟨h1, h2, h5⟩, hK⟩ := h
  have hw := h5.2.2.2 0 (by decide)
  have hw1 := h5.2.2.2 1 (by decide)
  have hz0 : xB (wZ (s.2.2 0) 0) := ((hb.2.2 0).2 0).1
  unfold fYears at hK
  by_cases c : 1 ≤ n ∧ n ≤ 40
  · rw [if_pos c] at hK
    have hmin := min_B h2 (wI_B (160 - wZ (s.2.2 0) 4))
    have hmax := max_B (a := 1) (b := wZ (s.2.2 0) 0) ⟨by omega, by omega⟩ hz0
    have g := X2_years_l (K := K) (Pt := fun _ => False) (min n (wI (160 - wZ (s.2.2 0) 4))) (max 1 (wZ (s.2.2 0) 0)) hmin hmax _ 0 d (setW s 1 (wCopy (s.2.2 1) (s.2.2 0))) (wok_Copy hw1 hw) h1 (by omega) (by omega) (by rw [Int.sub_zero]) hK
    refine ⟨⟨h2, ⟨by omega, by omega⟩⟩, fun q => absurd q (by omega), fun _ => ⟨⟨h2, ⟨by omega, by omega⟩⟩, fun _ => ⟨hw, ?_⟩, fun q => absurd q (by omega)⟩⟩
    refine fun _ hs => ⟨⟨h2, hs⟩, fun _ => ⟨⟨⟨by omega, by omega⟩, hz0⟩, hJ _ _ _ _ g⟩⟩
  · rw [if_neg c] at hK
    refine ⟨⟨h2, ⟨by omega, by omega⟩⟩, fun q => ?_, fun _ => ⟨⟨h2, ⟨by omega, by omega⟩⟩, fun q => ?_, fun q => ?_⟩⟩
    · exact hR _ _ hK
    · omega
    · exact hR _ _ hK
end
-- 49.Ll
section
/-! ===== Arrays.fill; LateSessions: parts ===== -/
def encA (z : Nat) (g : Nat → Int) : XH := [xA z g]
def bdA (z : Nat) (g : Nat → Int) : Prop := z ≤ 1000000 ∧ ∀ k, xB (g k)
def agA (z : Nat) : AG (Nat → Int) := fun g r => bif Nat.beq r 0 then some (0, z, g) else none
def apA (_z : Nat) : AP (Nat → Int) := fun _ _ g => g
theorem vAgA (z : Nat) : vAg (encA z) (bdA z) (agA z) (apA z) := by
  intro s r t n g hb h
  obtain ⟨h1, h2⟩ := bN h
  have h1 := nB h1
  subst h1
  cases h2
  exact ⟨hb.1, hb.2, rfl, fun g' hg => ⟨⟨hb.1, hg⟩, rfl⟩⟩
-- J7_fill_53178: heads [5]
def tJ7_fill_53178 (z : Nat) : Nat → Blk (Nat → Int) := fun pc => bif Nat.blt pc 5 then (bif Nat.beq pc 0 then (oI 0 <| oIst 2 <| oAld 0 <| oLen (agA z) <| oIst 3 <| oM [true, true, true, true] (oTo 5)) else oNo) else (bif Nat.blt pc 20 then (bif Nat.beq pc 5 then (oIld 2 <| oIld 3 <| oCGe 20 <| oAld 0 <| oIld 2 <| oIld 1 <| oIas (agA z) (apA z) <| oInc 2 1 <| oM [true, true, true, true] (oTo 5)) else oNo) else (bif Nat.beq pc 20 then (oVret) else oNo))
theorem tJ7_fill_53178_ok (z : Nat) : ∀ pc, bOk (encA z) (bdA z) mJ7_fill_53178 0 0 pc (tJ7_fill_53178 z pc) := fun pc => (tNode (tLeaf (okIc iJ7_fill_53178_0 <| okIstn iJ7_fill_53178_1 rfl (by decide) <| okAldn iJ7_fill_53178_2 rfl <| okLen (vAgA z) iJ7_fill_53178_3 <| okIstn iJ7_fill_53178_4 rfl (by decide) <| okM (okTo (tl rfl)))) (tNode (tLeaf (okIldn iJ7_fill_53178_5 rfl <| okIldn iJ7_fill_53178_6 rfl <| okCGe (tl rfl) iJ7_fill_53178_7 <| okAldn iJ7_fill_53178_10 rfl <| okIldn iJ7_fill_53178_11 rfl <| okIldn iJ7_fill_53178_12 rfl <| okIas (vAgA z) iJ7_fill_53178_13 <| okInc iJ7_fill_53178_14 (by decide) <| okGotoM (tl rfl) iJ7_fill_53178_17)) (tLeaf (okVret iJ7_fill_53178_20 rfl)))) pc
def sJ7_fill (z : Nat) : List PV → (Nat → Int) → (PS → (Nat → Int) → Prop) → Prop := fun as g K => match as with
  | [.inr (.inr (.inl 0)), .inl v] => xB v ∧ K [] (fun k => if k < z then v else g k)
  | _ => False
theorem J7_fill_loop (z : Nat) {K : PS → (Nat → Int) → Prop} {Pt : (Nat → Int) → Prop} (v : Int) (hv : xB v) (g0 : Nat → Int) (hz : z ≤ 1000000) (hK : K [] (fun k => if k < z then v else g0 k)) : ∀ (m c : Nat), c ≤ z → m = z - c → wX (encA z) (bdA z) mJ7_fill_53178 0 0 K Pt 5 [some (pR 0), some (pI v), some (pI c), some (pI z)] [] (fun k => if k < c then v else g0 k) := by
  intro m
  induction m with
  | zero =>
    intro c h1 hm
    have : c = z := by omega
    subst this
    refine wx_J [5] 9 (tJ7_fill_53178_ok c) rfl (fun J hR hJ => ?_)
    repeat' (first | (refine And.intro ?_ ?_) | intro _)
    all_goals first | omega | exact hR _ _ hK
  | succ m ih =>
    intro c h1 hm
    refine wx_J [5] 9 (tJ7_fill_53178_ok z) rfl (fun J hR hJ => ?_)
    have g := ih (c + 1) (by omega) (by omega)
    have e : (fun k => if k < c + 1 then v else g0 k) = xup (fun k => if k < c then v else g0 k) ((c : Int)).toNat v := by
      funext k
      unfold xup
      by_cases q : k = c
      · rw [if_pos (by omega), if_pos (by omega)]
      · rw [if_neg (show ¬ k = ((c : Int)).toNat by omega)]
        dsimp only
        by_cases q2 : k < c
        · rw [if_pos (by omega), if_pos q2]
        · rw [if_neg (by omega), if_neg q2]
    rw [e, show ((c + 1 : Nat) : Int) = (c : Int) + 1 by omega] at g
    repeat' (first | (refine And.intro ?_ ?_) | intro _)
    all_goals first | omega | exact hJ _ _ _ _ g
theorem mJ7_fill_ok (z : Nat) : mOk (encA z) (bdA z) mJ7_fill_53178 (sJ7_fill z) := by
  refine mOk_of kJ7_fill_53178 (fun as s K h => ?_)
  unfold sJ7_fill at h
  split at h
  · next v =>
    refine ⟨rfl, fun hb => wx_J [5] 9 (tJ7_fill_53178_ok z) rfl (fun J hR hJ => ?_)⟩
    have g := J7_fill_loop z (K := K) (Pt := fun _ => False) v h.1 s hb.1 h.2 z 0 (by omega) (by omega)
    have e : (fun k => if k < 0 then v else s k) = s := by funext k; rw [if_neg (by omega)]
    rw [e] at g
    exact hJ _ _ _ _ g
  · exact h.elim
def cL_J7_fill_53178 : Sp LSt := fun as s K => match as with
  | [.inr (.inr (.inl 6)), .inl v] => xB v ∧ K [] (setA s 3 (fun k => if k < 101 then v else s.2.1 3 k))
  | _ => False
theorem lkLA : vLk encL bdL (encA 101) (bdA 101) (fun k => 6 + k) (fun s => s.2.1 3) (fun s g => setA s 3 g) := by
  refine vLk_run (n := 1) (fun _ => rfl) (by decide) (fun s => rfl) (fun s t => rfl) (fun s hb => ⟨by decide, hb.2.1 3⟩) (fun s t hb ht => bdL_A hb ht.2) (fun s => by rw [lenL137]; decide)
theorem qL_J7_fill_53178 {M : XI} {rc rs pc pc2 : Nat} (d : xl_Cs M pc mJ7_fill_53178 pc2) : cOk encL bdL M rc rs pc pc2 2 cL_J7_fill_53178 := by
  refine cStat (mJ7_fill_ok 101) vJ7_fill_53178 d rfl (fun as s K hb h => ?_)
  unfold cL_J7_fill_53178 at h
  split at h
  · next v => exact ⟨_, _, _, [pR 0, pI v], lkLA, rfl, h⟩
  · exact h.elim
-- X2_parts: heads [44, 104]
def tX2_parts : Nat → Blk LSt := fun pc => bif Nat.blt pc 97 then (bif Nat.blt pc 33 then (bif Nat.blt pc 18 then (bif Nat.beq pc 0 then (oIld 1 <| oC1 (cL_X2_isKey) <| oZEq 18 <| oIld 2 <| oI 1 <| oCLt 18 <| oIld 2 <| oI 60 <| oCLe 20 <| oTo 18) else oNo) else (bif Nat.blt pc 20 then (bif Nat.beq pc 18 then (oI (-1) <| oIret) else oNo) else (bif Nat.beq pc 20 then (oAld 0 <| oIld 1 <| oC2 (cL_X2_sortTaken) <| oIst 3 <| oIld 3 <| oZNe 33 <| oI (-2) <| oIret) else oNo))) else (bif Nat.blt pc 44 then (bif Nat.beq pc 33 then (oAld 0 <| oGet (fgL) 2 12 <| oI 0 <| oC2 (cL_J7_fill_53178) <| oI 0 <| oIst 4 <| oM [true, false, true, true, true, false] (oTo 44)) else oNo) else (bif Nat.blt pc 91 then (bif Nat.beq pc 44 then (oIld 4 <| oI 1 <| oAdd <| oIld 3 <| oCGe 97 <| oAld 0 <| oIld 4 <| oC2 (cL_X2_holeBehind) <| oI 100 <| oMin <| oIst 5 <| oIld 5 <| oZLt 91 <| oIld 5 <| oAld 0 <| oGet (fgL) 2 12 <| oLen (agL) <| oCGe 91 <| oAld 0 <| oGet (fgL) 2 12 <| oIld 5 <| oDup2 <| oIa (agL) <| oI 1 <| oAddW <| oIas (agL) (apL) <| oTo 91) else oNo) else (bif Nat.beq pc 91 then (oInc 4 1 <| oM [true, false, true, true, true, false] (oTo 44)) else oNo)))) else (bif Nat.blt pc 137 then (bif Nat.blt pc 104 then (bif Nat.beq pc 97 then (oI 1 <| oIst 4 <| oI 99 <| oIst 5 <| oM [true, false, true, false, true, true] (oTo 104)) else oNo) else (bif Nat.blt pc 136 then (bif Nat.beq pc 104 then (oIld 5 <| oI 1 <| oCLt 155 <| oIld 4 <| oIld 5 <| oI 1 <| oAdd <| oAld 0 <| oGet (fgL) 2 12 <| oLen (agL) <| oCGe 136 <| oAld 0 <| oGet (fgL) 2 12 <| oIld 5 <| oI 1 <| oAdd <| oIa (agL) <| oTo 137) else oNo) else (bif Nat.beq pc 136 then (oI 0 <| oTo 137) else oNo))) else (bif Nat.blt pc 149 then (bif Nat.beq pc 137 then (oAddW <| oIst 4 <| oIld 4 <| oIld 2 <| oCLt 149 <| oIld 5 <| oIret) else oNo) else (bif Nat.blt pc 155 then (bif Nat.beq pc 149 then (oInc 5 (-1) <| oM [true, false, true, false, true, true] (oTo 104)) else oNo) else (bif Nat.beq pc 155 then (oI (-2) <| oIret) else oNo))))
theorem tX2_parts_ok : ∀ pc, bOk (encL) (bdL) mX2_parts 0 0 pc (tX2_parts pc) := fun pc => (tNode (tNode (tNode (tLeaf (okIldn iX2_parts_0 rfl <| okC1 (qL_X2_isKey iX2_parts_1) <| okZEq (tl rfl) iX2_parts_4 <| okIldn iX2_parts_7 rfl <| okIc iX2_parts_8 <| okCLt (tl rfl) iX2_parts_9 <| okIldn iX2_parts_12 rfl <| okBi iX2_parts_13 (by decide) <| okCLe (tl rfl) iX2_parts_15 <| okTo (tl rfl))) (tNode (tLeaf (okIc iX2_parts_18 <| okIret iX2_parts_19 rfl)) (tLeaf (okAldn iX2_parts_20 rfl <| okIldn iX2_parts_21 rfl <| okC2 (qL_X2_sortTaken iX2_parts_22) <| okIstn iX2_parts_25 rfl (by decide) <| okIldn iX2_parts_26 rfl <| okZNe (tl rfl) iX2_parts_27 <| okBi iX2_parts_30 (by decide) <| okIret iX2_parts_32 rfl)))) (tNode (tLeaf (okAldn iX2_parts_33 rfl <| okGet (vFgL) iX2_parts_34 <| okIc iX2_parts_37 <| okC2 (qL_J7_fill_53178 iX2_parts_38) <| okIc iX2_parts_41 <| okIst iX2_parts_42 (by decide) <| okM (okTo (tl rfl)))) (tNode (tLeaf (okIld iX2_parts_44 <| okIc iX2_parts_46 <| okAdd iX2_parts_47 <| okIldn iX2_parts_48 rfl <| okCGe (tl rfl) iX2_parts_49 <| okAldn iX2_parts_52 rfl <| okIld iX2_parts_53 <| okC2 (qL_X2_holeBehind iX2_parts_55) <| okBi iX2_parts_58 (by decide) <| okMin iX2_parts_60 <| okIst iX2_parts_63 (by decide) <| okIld iX2_parts_65 <| okZLt (tl rfl) iX2_parts_67 <| okIld iX2_parts_70 <| okAldn iX2_parts_72 rfl <| okGet (vFgL) iX2_parts_73 <| okLen (vAgL) iX2_parts_76 <| okCGe (tl rfl) iX2_parts_77 <| okAldn iX2_parts_80 rfl <| okGet (vFgL) iX2_parts_81 <| okIld iX2_parts_84 <| okDup2 iX2_parts_86 <| okIa (vAgL) iX2_parts_87 <| okIc iX2_parts_88 <| okAddW iX2_parts_89 <| okIas (vAgL) iX2_parts_90 <| okTo (tl rfl))) (tLeaf (okInc iX2_parts_91 (by decide) <| okGotoM (tl rfl) iX2_parts_94))))) (tNode (tNode (tLeaf (okIc iX2_parts_97 <| okIst iX2_parts_98 (by decide) <| okBi iX2_parts_100 (by decide) <| okIst iX2_parts_102 (by decide) <| okM (okTo (tl rfl)))) (tNode (tLeaf (okIld iX2_parts_104 <| okIc iX2_parts_106 <| okCLt (tl rfl) iX2_parts_107 <| okIld iX2_parts_110 <| okIld iX2_parts_112 <| okIc iX2_parts_114 <| okAdd iX2_parts_115 <| okAldn iX2_parts_116 rfl <| okGet (vFgL) iX2_parts_117 <| okLen (vAgL) iX2_parts_120 <| okCGe (tl rfl) iX2_parts_121 <| okAldn iX2_parts_124 rfl <| okGet (vFgL) iX2_parts_125 <| okIld iX2_parts_128 <| okIc iX2_parts_130 <| okAdd iX2_parts_131 <| okIa (vAgL) iX2_parts_132 <| okGoto (tl rfl) iX2_parts_133)) (tLeaf (okIc iX2_parts_136 <| okTo (tl rfl))))) (tNode (tLeaf (okAddW iX2_parts_137 <| okIst iX2_parts_138 (by decide) <| okIld iX2_parts_140 <| okIldn iX2_parts_142 rfl <| okCLt (tl rfl) iX2_parts_143 <| okIld iX2_parts_146 <| okIret iX2_parts_148 rfl)) (tNode (tLeaf (okInc iX2_parts_149 (by decide) <| okGotoM (tl rfl) iX2_parts_152)) (tLeaf (okBi iX2_parts_155 (by decide) <| okIret iX2_parts_157 rfl)))))) pc
/-- how many holes have a width -/
def ptL (n : Int) : Nat → Int → LSt → LSt
  | 0, _, s => s
  | m + 1, k, s => ptL n m (k + 1) (if 0 ≤ min (lHole s k) 100 ∧ min (lHole s k) 100 < 101 then setA s 3 (xup (s.2.1 3) (min (lHole s k) 100).toNat (wI (s.2.1 3 (min (lHole s k) 100).toNat + 1))) else s)
def pgL (s : LSt) (n : Int) : Nat → Int → Int
  | 0, _ => -2
  | m + 1, f => if n ≤ wI (f + s.2.1 3 (m + 2)) then ((m + 1 : Nat) : Int) else pgL s n m (wI (f + s.2.1 3 (m + 2)))
def fParts2 (s : LSt) (n : Int) : Int × LSt := (pgL s n 99 1, s)
def fParts (s : LSt) (k n : Int) : Int × LSt := if (0 ≤ k ∧ k < 6) ∧ 1 ≤ n ∧ n ≤ 60 then (if (lSort s k).1 = 0 then (-2, (lSort s k).2) else
  fParts2 (ptL ((lSort s k).1 : Int) ((lSort s k).1 - 1) 0 (setA (lSort s k).2 3 (fun j => if j < 101 then 0 else (lSort s k).2.2.1 3 j))) n) else (-1, s)
theorem X2_parts_l2 {K : KL} {Pt : LSt → Prop} (s : LSt) (n : Int) (hn : xB n) : ∀ (m : Nat) (f : Int), m ≤ 99 → xB f → K [pI (pgL s n m f)] s → wX encL bdL mX2_parts 0 0 K Pt 104 [some (pR 0), none, some (pI n), none, some (pI f), some (pI m)] [] s := by
  intro m
  induction m with
  | zero =>
    intro f h1 hf hK
    refine wx_J [44, 104] 9 tX2_parts_ok rfl (fun J hR hJ => ?_)
    repeat' (first | (refine And.intro ?_ ?_) | intro _)
    all_goals first | omega | exact hR _ _ hK
  | succ m ih =>
    intro f h1 hf hK
    refine wx_J [44, 104] 9 tX2_parts_ok rfl (fun J hR hJ => ?_)
    rw [pgL] at hK
    have e1 : (((m + 1 : Nat) : Int) + 1).toNat = m + 2 := by omega
    have e2 : ((m + 1 : Nat) : Int) + -1 = (m : Int) := by omega
    refine ⟨⟨⟨by omega, by omega⟩, ⟨by omega, by omega⟩⟩, fun c => absurd c (by omega), fun _ => ⟨⟨⟨by omega, by omega⟩, ⟨by omega, by omega⟩⟩, fun c => absurd (show (101 : Int) ≤ ((m + 1 : Nat) : Int) + 1 from c) (by omega), fun c => ⟨⟨by omega, by show ((m + 1 : Nat) : Int) + 1 < (101 : Int); omega⟩, fun hx => ?_⟩⟩⟩
    rw [e1] at hx ⊢
    intro hs
    refine ⟨⟨hs, hn⟩, fun c2 => ?_, fun c2 => ?_⟩
    · rw [if_neg (by omega)] at hK
      have g := ih _ (by omega) (wI_B _) hK
      rw [← e2] at g
      exact hJ _ _ _ _ g
    · rw [if_pos c2] at hK
      exact hR _ _ hK
theorem X2_parts_l1 {K : KL} {Pt : LSt → Prop} (n so : Int) (hn : xB n) (hso : 1 ≤ so ∧ so ≤ 160) : ∀ (m : Nat) (k : Int) (s : LSt), 0 ≤ k → k ≤ so - 1 → m = (so - 1 - k).toNat → K [pI (fParts2 (ptL so m k s) n).1] (fParts2 (ptL so m k s) n).2 → wX encL bdL mX2_parts 0 0 K Pt 44 [some (pR 0), none, some (pI n), some (pI so), some (pI k), none] [] s := by
  intro m
  induction m with
  | zero =>
    intro k s h0 h1 hm hK
    refine wx_J [44, 104] 9 tX2_parts_ok rfl (fun J hR hJ => ?_)
    rw [ptL] at hK
    have g := X2_parts_l2 (K := K) (Pt := Pt) s n hn 99 1 (by omega) ⟨by omega, by omega⟩ hK
    repeat' (first | (refine And.intro ?_ ?_) | intro _)
    all_goals first | omega | exact hJ _ _ _ _ g
  | succ m ih =>
    intro k s h0 h1 hm hK
    refine wx_J [44, 104] 9 tX2_parts_ok rfl (fun J hR hJ => ?_)
    rw [ptL] at hK
    have hm2 := min_B (wI_B (lCell s (wI (k + 1)) 2 - lCell s k 2)) (b := 100) ⟨by omega, by omega⟩
    have hm3 : xB (min (lHole s k) 100) := hm2
    have g := ih (k + 1) _ (by omega) (by omega) (by omega) hK
    refine ⟨⟨⟨by omega, by omega⟩, ⟨by omega, by omega⟩⟩, fun c => absurd c (by omega), fun _ => ⟨⟨by omega, by omega⟩, fun hx => ⟨⟨hx, ⟨by omega, by omega⟩⟩, ⟨hm3, fun c => ?_, fun c => ?_⟩⟩⟩⟩
    · rw [if_neg (by omega)] at g
      exact hJ _ _ _ _ g
    · refine ⟨⟨hm3, ⟨by omega, by omega⟩⟩, fun c2 => ?_, fun c2 => ?_⟩
      · have c2 : (101 : Int) ≤ min (lHole s k) 100 := c2
        omega
      · have c2 : min (lHole s k) 100 < (101 : Int) := c2
        rw [if_pos ⟨c, c2⟩] at g
        exact ⟨⟨c, c2⟩, fun hy hz => ⟨⟨c, c2, hz⟩, hJ _ _ _ _ g⟩⟩
def sX2_parts : Int → Int → LSt → KL → Prop := fun k n s K => (xB k ∧ xB n ∧ lok s) ∧ K [pI (fParts s k n).1] (fParts s k n).2
theorem mX2_parts_ok : mOk encL bdL mX2_parts (atR 0 (a2 sX2_parts)) := by
  refine mOVa2 kX2_parts (fun _ _ => rfl) (fun k n s K h hb => wx_J [44, 104] 9 tX2_parts_ok rfl (fun J hR hJ => ?_))
  obtain ⟨⟨h1, h2, h5⟩, hK⟩ := h
  have hw := h5.2.2.2 0 (by decide)
  unfold fParts at hK
  by_cases c : (0 ≤ k ∧ k < 6) ∧ 1 ≤ n ∧ n ≤ 60
  · rw [if_pos c] at hK
    refine ⟨h1, fun c1 => ⟨⟨by omega, by omega⟩, fun q => absurd q (by omega), fun _ => ⟨⟨h2, ⟨by omega, by omega⟩⟩, fun q => absurd q (by omega), fun _ => ⟨⟨h2, ⟨by omega, by omega⟩⟩, fun _ => ?_, fun q => absurd q (by omega)⟩⟩⟩, fun c1 => absurd c.1 c1⟩
    refine ⟨⟨h1, hw⟩, fun n0 n1 => ⟨⟨by omega, by omega⟩, fun q => ?_, fun q => ?_⟩⟩
    · rw [if_neg (by omega)] at hK
      have g := X2_parts_l1 (K := K) (Pt := fun _ => False) n ((lSort s k).1 : Int) h2 ⟨by omega, by omega⟩ ((lSort s k).1 - 1) 0 _ (by omega) (by omega) (by omega) hK
      exact ⟨⟨by omega, by omega⟩, hJ _ _ _ _ g⟩
    · rw [if_pos (by omega)] at hK
      exact hR _ _ hK
  · rw [if_neg c] at hK
    repeat' (first | (refine And.intro ?_ ?_) | (intro hq; first | (exact absurd hq (by omega)) | skip))
    all_goals first | omega | exact hR _ _ hK | (exact absurd ⟨‹_›, by omega, by omega⟩ c)
end
