theorem iX2_init_0 : xl_D mX2_init 0 (.aload_n 0) 1 1 := ⟨by decide +kernel, rfl⟩
theorem iX2_init_1 : xl_D mX2_init 1 (.invokespecial 1) 3 4 := ⟨by decide +kernel, rfl⟩
theorem iX2_init_4 : xl_D mX2_init 4 (.aload_n 0) 1 5 := ⟨by decide +kernel, rfl⟩
theorem iX2_init_5 : xl_D mX2_init 5 (.new 7) 3 8 := ⟨by decide +kernel, rfl⟩
theorem iX2_init_8 : xl_D mX2_init 8 (.dup) 1 9 := ⟨by decide +kernel, rfl⟩
theorem iX2_init_9 : xl_D mX2_init 9 (.invokespecial 9) 3 12 := ⟨by decide +kernel, rfl⟩
theorem iX2_init_15 : xl_D mX2_init 15 (.aload_n 0) 1 16 := ⟨by decide +kernel, rfl⟩
theorem iX2_init_16 : xl_D mX2_init 16 (.new 7) 3 19 := ⟨by decide +kernel, rfl⟩
theorem iX2_init_19 : xl_D mX2_init 19 (.dup) 1 20 := ⟨by decide +kernel, rfl⟩
theorem iX2_init_20 : xl_D mX2_init 20 (.invokespecial 9) 3 23 := ⟨by decide +kernel, rfl⟩
theorem iX2_init_26 : xl_D mX2_init 26 (.aload_n 0) 1 27 := ⟨by decide +kernel, rfl⟩
theorem iX2_init_27 : xl_D mX2_init 27 (.bipush 6) 2 29 := ⟨by decide +kernel, rfl⟩
theorem iX2_init_29 : xl_D mX2_init 29 (.anewarray 7) 3 32 := ⟨by decide +kernel, rfl⟩
theorem iX2_init_35 : xl_D mX2_init 35 (.iconst 0) 1 36 := ⟨by decide +kernel, rfl⟩
theorem iX2_init_36 : xl_D mX2_init 36 (.istore_n 1) 1 37 := ⟨by decide +kernel, rfl⟩
theorem iX2_init_37 : xl_D mX2_init 37 (.iload_n 1) 1 38 := ⟨by decide +kernel, rfl⟩
theorem iX2_init_38 : xl_D mX2_init 38 (.bipush 6) 2 40 := ⟨by decide +kernel, rfl⟩
theorem iX2_init_40 : xl_J mX2_init 40 (fun o => .if_icmp .ge o) 43 62 := ⟨22, by decide +kernel, rfl, rfl⟩
theorem iX2_init_43 : xl_D mX2_init 43 (.aload_n 0) 1 44 := ⟨by decide +kernel, rfl⟩
theorem iX2_init_44 : xl_G mX2_init 44 2 2 47 := ⟨19, by decide +kernel, rfl, fX2_19⟩
theorem iX2_init_47 : xl_D mX2_init 47 (.iload_n 1) 1 48 := ⟨by decide +kernel, rfl⟩
theorem iX2_init_48 : xl_D mX2_init 48 (.new 7) 3 51 := ⟨by decide +kernel, rfl⟩
theorem iX2_init_51 : xl_D mX2_init 51 (.dup) 1 52 := ⟨by decide +kernel, rfl⟩
theorem iX2_init_52 : xl_D mX2_init 52 (.invokespecial 9) 3 55 := ⟨by decide +kernel, rfl⟩
theorem iX2_init_55 : xl_D mX2_init 55 (.aastore) 1 56 := ⟨by decide +kernel, rfl⟩
theorem iX2_init_56 : xl_D mX2_init 56 (.iinc 1 1) 3 59 := ⟨by decide +kernel, rfl⟩
theorem iX2_init_59 : xl_J mX2_init 59 (fun o => .goto o) 62 37 := ⟨-22, by decide +kernel, rfl, rfl⟩
theorem iX2_init_62 : xl_D mX2_init 62 (.aload_n 0) 1 63 := ⟨by decide +kernel, rfl⟩
theorem iX2_init_63 : xl_D mX2_init 63 (.iconst 2) 1 64 := ⟨by decide +kernel, rfl⟩
theorem iX2_init_64 : xl_D mX2_init 64 (.anewarray 7) 3 67 := ⟨by decide +kernel, rfl⟩
theorem iX2_init_70 : xl_D mX2_init 70 (.iconst 0) 1 71 := ⟨by decide +kernel, rfl⟩
theorem iX2_init_71 : xl_D mX2_init 71 (.istore_n 1) 1 72 := ⟨by decide +kernel, rfl⟩
theorem iX2_init_72 : xl_D mX2_init 72 (.iload_n 1) 1 73 := ⟨by decide +kernel, rfl⟩
theorem iX2_init_73 : xl_D mX2_init 73 (.iconst 2) 1 74 := ⟨by decide +kernel, rfl⟩
theorem iX2_init_74 : xl_J mX2_init 74 (fun o => .if_icmp .ge o) 77 96 := ⟨22, by decide +kernel, rfl, rfl⟩
theorem iX2_init_77 : xl_D mX2_init 77 (.aload_n 0) 1 78 := ⟨by decide +kernel, rfl⟩
theorem iX2_init_78 : xl_G mX2_init 78 2 5 81 := ⟨23, by decide +kernel, rfl, fX2_23⟩
theorem iX2_init_81 : xl_D mX2_init 81 (.iload_n 1) 1 82 := ⟨by decide +kernel, rfl⟩
theorem iX2_init_82 : xl_D mX2_init 82 (.new 7) 3 85 := ⟨by decide +kernel, rfl⟩
theorem iX2_init_85 : xl_D mX2_init 85 (.dup) 1 86 := ⟨by decide +kernel, rfl⟩
theorem iX2_init_86 : xl_D mX2_init 86 (.invokespecial 9) 3 89 := ⟨by decide +kernel, rfl⟩
theorem iX2_init_89 : xl_D mX2_init 89 (.aastore) 1 90 := ⟨by decide +kernel, rfl⟩
theorem iX2_init_90 : xl_D mX2_init 90 (.iinc 1 1) 3 93 := ⟨by decide +kernel, rfl⟩
theorem iX2_init_93 : xl_J mX2_init 93 (fun o => .goto o) 96 72 := ⟨-21, by decide +kernel, rfl, rfl⟩
theorem iX2_init_96 : xl_D mX2_init 96 (.aload_n 0) 1 97 := ⟨by decide +kernel, rfl⟩
theorem iX2_init_97 : xl_D mX2_init 97 (.bipush 6) 2 99 := ⟨by decide +kernel, rfl⟩
theorem iX2_init_99 : xl_D mX2_init 99 (.newarray .long) 2 101 := ⟨by decide +kernel, rfl⟩
theorem iX2_init_104 : xl_D mX2_init 104 (.aload_n 0) 1 105 := ⟨by decide +kernel, rfl⟩
theorem iX2_init_105 : xl_D mX2_init 105 (.bipush 80) 2 107 := ⟨by decide +kernel, rfl⟩
theorem iX2_init_107 : xl_D mX2_init 107 (.newarray .int) 2 109 := ⟨by decide +kernel, rfl⟩
theorem iX2_init_112 : xl_D mX2_init 112 (.aload_n 0) 1 113 := ⟨by decide +kernel, rfl⟩
theorem iX2_init_113 : xl_D mX2_init 113 (.sipush 160) 3 116 := ⟨by decide +kernel, rfl⟩
theorem iX2_init_116 : xl_D mX2_init 116 (.newarray .int) 2 118 := ⟨by decide +kernel, rfl⟩
theorem iX2_init_121 : xl_D mX2_init 121 (.aload_n 0) 1 122 := ⟨by decide +kernel, rfl⟩
theorem iX2_init_122 : xl_D mX2_init 122 (.bipush 101) 2 124 := ⟨by decide +kernel, rfl⟩
theorem iX2_init_124 : xl_D mX2_init 124 (.newarray .int) 2 126 := ⟨by decide +kernel, rfl⟩
theorem iX2_init_129 : xl_D mX2_init 129 (.return_) 1 130 := ⟨by decide +kernel, rfl⟩
theorem iX2_sign_0 : xl_D mX2_sign 0 (.aload_n 0) 1 1 := ⟨by decide +kernel, rfl⟩
theorem iX2_sign_1 : xl_G mX2_sign 1 2 10 4 := ⟨40, by decide +kernel, rfl, fX2_40⟩
theorem iX2_sign_4 : xl_D mX2_sign 4 (.iconst 4) 1 5 := ⟨by decide +kernel, rfl⟩
theorem iX2_sign_5 : xl_D mX2_sign 5 (.iadd) 1 6 := ⟨by decide +kernel, rfl⟩
theorem iX2_sign_6 : xl_D mX2_sign 6 (.bipush 80) 2 8 := ⟨by decide +kernel, rfl⟩
theorem iX2_sign_8 : xl_J mX2_sign 8 (fun o => .if_icmp .le o) 11 13 := ⟨5, by decide +kernel, rfl, rfl⟩
theorem iX2_sign_11 : xl_D mX2_sign 11 (.iconst (-1)) 1 12 := ⟨by decide +kernel, rfl⟩
theorem iX2_sign_12 : xl_D mX2_sign 12 (.ireturn) 1 13 := ⟨by decide +kernel, rfl⟩
theorem iX2_sign_13 : xl_D mX2_sign 13 (.bipush 24) 2 15 := ⟨by decide +kernel, rfl⟩
theorem iX2_sign_15 : xl_D mX2_sign 15 (.istore_n 2) 1 16 := ⟨by decide +kernel, rfl⟩
theorem iX2_sign_16 : xl_D mX2_sign 16 (.iload_n 2) 1 17 := ⟨by decide +kernel, rfl⟩
theorem iX2_sign_17 : xl_J mX2_sign 17 (fun o => .ifCond .lt o) 20 37 := ⟨20, by decide +kernel, rfl, rfl⟩
theorem iX2_sign_20 : xl_D mX2_sign 20 (.aload_n 0) 1 21 := ⟨by decide +kernel, rfl⟩
theorem iX2_sign_21 : xl_D mX2_sign 21 (.iload_n 1) 1 22 := ⟨by decide +kernel, rfl⟩
theorem iX2_sign_22 : xl_D mX2_sign 22 (.iload_n 2) 1 23 := ⟨by decide +kernel, rfl⟩
theorem iX2_sign_23 : xl_D mX2_sign 23 (.iushr) 1 24 := ⟨by decide +kernel, rfl⟩
theorem iX2_sign_24 : xl_D mX2_sign 24 (.sipush 255) 3 27 := ⟨by decide +kernel, rfl⟩
theorem iX2_sign_27 : xl_D mX2_sign 27 (.iand) 1 28 := ⟨by decide +kernel, rfl⟩
theorem iX2_sign_28 : xl_Ca mX2_sign 28 mX2_putSign 31 := ⟨44, by decide +kernel, rfl, lX2_44, Nat.le_of_ble_eq_true rfl, Nat.le_of_ble_eq_true rfl⟩
theorem iX2_sign_31 : xl_D mX2_sign 31 (.iinc 2 (-8)) 3 34 := ⟨by decide +kernel, rfl⟩
theorem iX2_sign_34 : xl_J mX2_sign 34 (fun o => .goto o) 37 16 := ⟨-18, by decide +kernel, rfl, rfl⟩
theorem iX2_sign_37 : xl_D mX2_sign 37 (.aload_n 0) 1 38 := ⟨by decide +kernel, rfl⟩
theorem iX2_sign_38 : xl_G mX2_sign 38 2 10 41 := ⟨40, by decide +kernel, rfl, fX2_40⟩
theorem iX2_sign_41 : xl_D mX2_sign 41 (.ireturn) 1 42 := ⟨by decide +kernel, rfl⟩
theorem iX2_end_0 : xl_D mX2_end 0 (.iload_n 1) 1 1 := ⟨by decide +kernel, rfl⟩
theorem iX2_end_1 : xl_J mX2_end 1 (fun o => .ifCond .lt o) 4 12 := ⟨11, by decide +kernel, rfl, rfl⟩
theorem iX2_end_4 : xl_D mX2_end 4 (.iload_n 1) 1 5 := ⟨by decide +kernel, rfl⟩
theorem iX2_end_5 : xl_D mX2_end 5 (.aload_n 0) 1 6 := ⟨by decide +kernel, rfl⟩
theorem iX2_end_6 : xl_G mX2_end 6 2 10 9 := ⟨40, by decide +kernel, rfl, fX2_40⟩
theorem iX2_end_9 : xl_J mX2_end 9 (fun o => .if_icmp .le o) 12 14 := ⟨5, by decide +kernel, rfl, rfl⟩
theorem iX2_end_12 : xl_D mX2_end 12 (.iconst 0) 1 13 := ⟨by decide +kernel, rfl⟩
theorem iX2_end_13 : xl_D mX2_end 13 (.ireturn) 1 14 := ⟨by decide +kernel, rfl⟩
theorem iX2_end_14 : xl_D mX2_end 14 (.aload_n 0) 1 15 := ⟨by decide +kernel, rfl⟩
theorem iX2_end_15 : xl_D mX2_end 15 (.iload_n 1) 1 16 := ⟨by decide +kernel, rfl⟩
theorem iX2_end_16 : xl_P mX2_end 16 2 10 .int 19 := ⟨40, by decide +kernel, rfl, wX2_40⟩
theorem iX2_end_19 : xl_D mX2_end 19 (.iconst 1) 1 20 := ⟨by decide +kernel, rfl⟩
theorem iX2_end_20 : xl_D mX2_end 20 (.ireturn) 1 21 := ⟨by decide +kernel, rfl⟩
theorem iX2_start_0 : xl_D mX2_start 0 (.iload_n 1) 1 1 := ⟨by decide +kernel, rfl⟩
theorem iX2_start_1 : xl_D mX2_start 1 (.iconst 1) 1 2 := ⟨by decide +kernel, rfl⟩
theorem iX2_start_2 : xl_J mX2_start 2 (fun o => .if_icmp .lt o) 5 20 := ⟨18, by decide +kernel, rfl, rfl⟩
theorem iX2_start_5 : xl_D mX2_start 5 (.iload_n 1) 1 6 := ⟨by decide +kernel, rfl⟩
theorem iX2_start_6 : xl_D mX2_start 6 (.iconst 4) 1 7 := ⟨by decide +kernel, rfl⟩
theorem iX2_start_7 : xl_J mX2_start 7 (fun o => .if_icmp .gt o) 10 20 := ⟨13, by decide +kernel, rfl, rfl⟩
theorem iX2_start_10 : xl_D mX2_start 10 (.iload_n 2) 1 11 := ⟨by decide +kernel, rfl⟩
theorem iX2_start_11 : xl_D mX2_start 11 (.iload_n 3) 1 12 := ⟨by decide +kernel, rfl⟩
theorem iX2_start_12 : xl_D mX2_start 12 (.iload 4) 2 14 := ⟨by decide +kernel, rfl⟩
theorem iX2_start_14 : xl_Cs mX2_start 14 mX2_areSettings 17 := ⟨48, by decide +kernel, rfl, lX2_48, Nat.le_of_ble_eq_true rfl, Nat.le_of_ble_eq_true rfl⟩
theorem iX2_start_17 : xl_J mX2_start 17 (fun o => .ifCond .ne o) 20 22 := ⟨5, by decide +kernel, rfl, rfl⟩
theorem iX2_start_20 : xl_D mX2_start 20 (.iconst (-1)) 1 21 := ⟨by decide +kernel, rfl⟩
theorem iX2_start_21 : xl_D mX2_start 21 (.ireturn) 1 22 := ⟨by decide +kernel, rfl⟩
theorem iX2_start_22 : xl_D mX2_start 22 (.aload_n 0) 1 23 := ⟨by decide +kernel, rfl⟩
theorem iX2_start_23 : xl_Ca mX2_start 23 mX2_remember 26 := ⟨52, by decide +kernel, rfl, lX2_52, Nat.le_of_ble_eq_true rfl, Nat.le_of_ble_eq_true rfl⟩
theorem iX2_start_26 : xl_D mX2_start 26 (.aload_n 0) 1 27 := ⟨by decide +kernel, rfl⟩
theorem iX2_start_27 : xl_G mX2_start 27 2 0 30 := ⟨10, by decide +kernel, rfl, fX2_10⟩
theorem iX2_start_30 : xl_D mX2_start 30 (.iload_n 1) 1 31 := ⟨by decide +kernel, rfl⟩
theorem iX2_start_31 : xl_D mX2_start 31 (.iload_n 2) 1 32 := ⟨by decide +kernel, rfl⟩
theorem iX2_start_32 : xl_D mX2_start 32 (.iload_n 3) 1 33 := ⟨by decide +kernel, rfl⟩
theorem iX2_start_33 : xl_D mX2_start 33 (.iload 4) 2 35 := ⟨by decide +kernel, rfl⟩
theorem iX2_start_35 : xl_Ca mX2_start 35 mX1_reset 38 := ⟨55, by decide +kernel, rfl, lX2_55, Nat.le_of_ble_eq_true rfl, Nat.le_of_ble_eq_true rfl⟩
theorem iX2_start_38 : xl_D mX2_start 38 (.iload_n 1) 1 39 := ⟨by decide +kernel, rfl⟩
theorem iX2_start_39 : xl_D mX2_start 39 (.ireturn) 1 40 := ⟨by decide +kernel, rfl⟩
theorem iX2_delays_0 : xl_D mX2_delays 0 (.aload_n 0) 1 1 := ⟨by decide +kernel, rfl⟩
theorem iX2_delays_1 : xl_D mX2_delays 1 (.iload_n 1) 1 2 := ⟨by decide +kernel, rfl⟩
theorem iX2_delays_2 : xl_Ca mX2_delays 2 mX2_isSource 5 := ⟨59, by decide +kernel, rfl, lX2_59, Nat.le_of_ble_eq_true rfl, Nat.le_of_ble_eq_true rfl⟩
theorem iX2_delays_5 : xl_J mX2_delays 5 (fun o => .ifCond .eq o) 8 19 := ⟨14, by decide +kernel, rfl, rfl⟩
theorem iX2_delays_8 : xl_D mX2_delays 8 (.iload_n 2) 1 9 := ⟨by decide +kernel, rfl⟩
theorem iX2_delays_9 : xl_J mX2_delays 9 (fun o => .ifCond .lt o) 12 19 := ⟨10, by decide +kernel, rfl, rfl⟩
theorem iX2_delays_12 : xl_D mX2_delays 12 (.iload_n 2) 1 13 := ⟨by decide +kernel, rfl⟩
theorem iX2_delays_13 : xl_D mX2_delays 13 (.sipush 999) 3 16 := ⟨by decide +kernel, rfl⟩
theorem iX2_delays_16 : xl_J mX2_delays 16 (fun o => .if_icmp .le o) 19 21 := ⟨5, by decide +kernel, rfl, rfl⟩
theorem iX2_delays_19 : xl_D mX2_delays 19 (.iconst (-1)) 1 20 := ⟨by decide +kernel, rfl⟩
theorem iX2_delays_20 : xl_D mX2_delays 20 (.ireturn) 1 21 := ⟨by decide +kernel, rfl⟩
theorem iX2_delays_21 : xl_D mX2_delays 21 (.aload_n 0) 1 22 := ⟨by decide +kernel, rfl⟩
theorem iX2_delays_22 : xl_G mX2_delays 22 2 0 25 := ⟨10, by decide +kernel, rfl, fX2_10⟩
theorem iX2_delays_25 : xl_G mX2_delays 25 1 10 28 := ⟨63, by decide +kernel, rfl, fX2_63⟩
theorem iX2_delays_28 : xl_D mX2_delays 28 (.iload_n 1) 1 29 := ⟨by decide +kernel, rfl⟩
theorem iX2_delays_29 : xl_D mX2_delays 29 (.iconst 1) 1 30 := ⟨by decide +kernel, rfl⟩
theorem iX2_delays_30 : xl_Ca mX2_delays 30 mX0_get 33 := ⟨67, by decide +kernel, rfl, lX2_67, Nat.le_of_ble_eq_true rfl, Nat.le_of_ble_eq_true rfl⟩
theorem iX2_delays_33 : xl_D mX2_delays 33 (.istore_n 3) 1 34 := ⟨by decide +kernel, rfl⟩
theorem iX2_delays_34 : xl_D mX2_delays 34 (.iload_n 3) 1 35 := ⟨by decide +kernel, rfl⟩
theorem iX2_delays_35 : xl_D mX2_delays 35 (.iload_n 2) 1 36 := ⟨by decide +kernel, rfl⟩
theorem iX2_delays_36 : xl_J mX2_delays 36 (fun o => .if_icmp .ne o) 39 42 := ⟨6, by decide +kernel, rfl, rfl⟩
theorem iX2_delays_39 : xl_D mX2_delays 39 (.bipush (-2)) 2 41 := ⟨by decide +kernel, rfl⟩
theorem iX2_delays_41 : xl_D mX2_delays 41 (.ireturn) 1 42 := ⟨by decide +kernel, rfl⟩
theorem iX2_delays_42 : xl_D mX2_delays 42 (.aload_n 0) 1 43 := ⟨by decide +kernel, rfl⟩
theorem iX2_delays_43 : xl_G mX2_delays 43 2 0 46 := ⟨10, by decide +kernel, rfl, fX2_10⟩
theorem iX2_delays_46 : xl_G mX2_delays 46 1 14 49 := ⟨73, by decide +kernel, rfl, fX2_73⟩
theorem iX2_delays_49 : xl_G mX2_delays 49 0 3 52 := ⟨76, by decide +kernel, rfl, fX2_76⟩
theorem iX2_delays_52 : xl_J mX2_delays 52 (fun o => .ifCond .le o) 55 58 := ⟨6, by decide +kernel, rfl, rfl⟩
theorem iX2_delays_55 : xl_D mX2_delays 55 (.bipush (-3)) 2 57 := ⟨by decide +kernel, rfl⟩
theorem iX2_delays_57 : xl_D mX2_delays 57 (.ireturn) 1 58 := ⟨by decide +kernel, rfl⟩
theorem iX2_delays_58 : xl_D mX2_delays 58 (.aload_n 0) 1 59 := ⟨by decide +kernel, rfl⟩
theorem iX2_delays_59 : xl_Ca mX2_delays 59 mX2_remember 62 := ⟨52, by decide +kernel, rfl, lX2_52, Nat.le_of_ble_eq_true rfl, Nat.le_of_ble_eq_true rfl⟩
theorem iX2_delays_62 : xl_D mX2_delays 62 (.aload_n 0) 1 63 := ⟨by decide +kernel, rfl⟩
theorem iX2_delays_63 : xl_G mX2_delays 63 2 0 66 := ⟨10, by decide +kernel, rfl, fX2_10⟩
theorem iX2_delays_66 : xl_G mX2_delays 66 1 10 69 := ⟨63, by decide +kernel, rfl, fX2_63⟩
theorem iX2_delays_69 : xl_D mX2_delays 69 (.iload_n 1) 1 70 := ⟨by decide +kernel, rfl⟩
theorem iX2_delays_70 : xl_D mX2_delays 70 (.iconst 1) 1 71 := ⟨by decide +kernel, rfl⟩
theorem iX2_delays_71 : xl_D mX2_delays 71 (.iload_n 2) 1 72 := ⟨by decide +kernel, rfl⟩
theorem iX2_delays_72 : xl_Ca mX2_delays 72 mX0_set 75 := ⟨79, by decide +kernel, rfl, lX2_79, Nat.le_of_ble_eq_true rfl, Nat.le_of_ble_eq_true rfl⟩
theorem iX2_delays_75 : xl_D mX2_delays 75 (.iload_n 3) 1 76 := ⟨by decide +kernel, rfl⟩
theorem iX2_delays_76 : xl_D mX2_delays 76 (.ireturn) 1 77 := ⟨by decide +kernel, rfl⟩
theorem iX2_event_0 : xl_D mX2_event 0 (.aload_n 0) 1 1 := ⟨by decide +kernel, rfl⟩
theorem iX2_event_1 : xl_D mX2_event 1 (.iload_n 1) 1 2 := ⟨by decide +kernel, rfl⟩
theorem iX2_event_2 : xl_D mX2_event 2 (.iload_n 2) 1 3 := ⟨by decide +kernel, rfl⟩
theorem iX2_event_3 : xl_D mX2_event 3 (.iload_n 3) 1 4 := ⟨by decide +kernel, rfl⟩
theorem iX2_event_4 : xl_D mX2_event 4 (.iload 4) 2 6 := ⟨by decide +kernel, rfl⟩
theorem iX2_event_6 : xl_Ca mX2_event 6 mX2_eventRefusal 9 := ⟨83, by decide +kernel, rfl, lX2_83, Nat.le_of_ble_eq_true rfl, Nat.le_of_ble_eq_true rfl⟩
theorem iX2_event_9 : xl_D mX2_event 9 (.istore 5) 2 11 := ⟨by decide +kernel, rfl⟩
theorem iX2_event_11 : xl_D mX2_event 11 (.iload 5) 2 13 := ⟨by decide +kernel, rfl⟩
theorem iX2_event_13 : xl_J mX2_event 13 (fun o => .ifCond .ge o) 16 19 := ⟨6, by decide +kernel, rfl, rfl⟩
theorem iX2_event_16 : xl_D mX2_event 16 (.iload 5) 2 18 := ⟨by decide +kernel, rfl⟩
theorem iX2_event_18 : xl_D mX2_event 18 (.ireturn) 1 19 := ⟨by decide +kernel, rfl⟩
theorem iX2_event_19 : xl_D mX2_event 19 (.aload_n 0) 1 20 := ⟨by decide +kernel, rfl⟩
theorem iX2_event_20 : xl_Ca mX2_event 20 mX2_remember 23 := ⟨52, by decide +kernel, rfl, lX2_52, Nat.le_of_ble_eq_true rfl, Nat.le_of_ble_eq_true rfl⟩
theorem iX2_event_23 : xl_D mX2_event 23 (.aload_n 0) 1 24 := ⟨by decide +kernel, rfl⟩
theorem iX2_event_24 : xl_G mX2_event 24 2 0 27 := ⟨10, by decide +kernel, rfl, fX2_10⟩
theorem iX2_event_27 : xl_G mX2_event 27 1 4 30 := ⟨87, by decide +kernel, rfl, fX2_87⟩
theorem iX2_event_30 : xl_D mX2_event 30 (.istore 6) 2 32 := ⟨by decide +kernel, rfl⟩
theorem iX2_event_32 : xl_D mX2_event 32 (.aload_n 0) 1 33 := ⟨by decide +kernel, rfl⟩
theorem iX2_event_33 : xl_G mX2_event 33 2 0 36 := ⟨10, by decide +kernel, rfl, fX2_10⟩
theorem iX2_event_36 : xl_D mX2_event 36 (.iload_n 1) 1 37 := ⟨by decide +kernel, rfl⟩
theorem iX2_event_37 : xl_D mX2_event 37 (.iload_n 2) 1 38 := ⟨by decide +kernel, rfl⟩
theorem iX2_event_38 : xl_D mX2_event 38 (.iload_n 3) 1 39 := ⟨by decide +kernel, rfl⟩
theorem iX2_event_39 : xl_D mX2_event 39 (.iload 4) 2 41 := ⟨by decide +kernel, rfl⟩
theorem iX2_event_41 : xl_Ca mX2_event 41 mX1_comeEvent 44 := ⟨90, by decide +kernel, rfl, lX2_90, Nat.le_of_ble_eq_true rfl, Nat.le_of_ble_eq_true rfl⟩
theorem iX2_event_44 : xl_D mX2_event 44 (.istore 7) 2 46 := ⟨by decide +kernel, rfl⟩
theorem iX2_event_46 : xl_D mX2_event 46 (.aload_n 0) 1 47 := ⟨by decide +kernel, rfl⟩
theorem iX2_event_47 : xl_D mX2_event 47 (.aload_n 0) 1 48 := ⟨by decide +kernel, rfl⟩
theorem iX2_event_48 : xl_G mX2_event 48 2 0 51 := ⟨10, by decide +kernel, rfl, fX2_10⟩
theorem iX2_event_51 : xl_G mX2_event 51 1 4 54 := ⟨87, by decide +kernel, rfl, fX2_87⟩
theorem iX2_event_54 : xl_D mX2_event 54 (.iload 6) 2 56 := ⟨by decide +kernel, rfl⟩
theorem iX2_event_56 : xl_D mX2_event 56 (.isub) 1 57 := ⟨by decide +kernel, rfl⟩
theorem iX2_event_57 : xl_D mX2_event 57 (.i2l) 1 58 := ⟨by decide +kernel, rfl⟩
theorem iX2_event_58 : xl_D mX2_event 58 (.aload_n 0) 1 59 := ⟨by decide +kernel, rfl⟩
theorem iX2_event_59 : xl_G mX2_event 59 2 0 62 := ⟨10, by decide +kernel, rfl, fX2_10⟩
theorem iX2_event_62 : xl_G mX2_event 62 1 3 65 := ⟨93, by decide +kernel, rfl, fX2_93⟩
theorem iX2_event_65 : xl_D mX2_event 65 (.i2l) 1 66 := ⟨by decide +kernel, rfl⟩
theorem iX2_event_66 : xl_Ca mX2_event 66 mX2_tellTwo 69 := ⟨96, by decide +kernel, rfl, lX2_96, Nat.le_of_ble_eq_true rfl, Nat.le_of_ble_eq_true rfl⟩
theorem iX2_event_69 : xl_D mX2_event 69 (.iload 7) 2 71 := ⟨by decide +kernel, rfl⟩
theorem iX2_event_71 : xl_D mX2_event 71 (.ireturn) 1 72 := ⟨by decide +kernel, rfl⟩
theorem iX2_events_0 : xl_D mX2_events 0 (.aload_n 0) 1 1 := ⟨by decide +kernel, rfl⟩
theorem iX2_events_1 : xl_Ca mX2_events 1 mX2_takeText 4 := ⟨100, by decide +kernel, rfl, lX2_100, Nat.le_of_ble_eq_true rfl, Nat.le_of_ble_eq_true rfl⟩
theorem iX2_events_4 : xl_D mX2_events 4 (.istore_n 1) 1 5 := ⟨by decide +kernel, rfl⟩
theorem iX2_events_5 : xl_D mX2_events 5 (.aload_n 0) 1 6 := ⟨by decide +kernel, rfl⟩
theorem iX2_events_6 : xl_D mX2_events 6 (.iload_n 1) 1 7 := ⟨by decide +kernel, rfl⟩
theorem iX2_events_7 : xl_Ca mX2_events 7 mX2_eventsMisfit 10 := ⟨104, by decide +kernel, rfl, lX2_104, Nat.le_of_ble_eq_true rfl, Nat.le_of_ble_eq_true rfl⟩
theorem iX2_events_10 : xl_D mX2_events 10 (.istore_n 2) 1 11 := ⟨by decide +kernel, rfl⟩
theorem iX2_events_11 : xl_D mX2_events 11 (.iload_n 2) 1 12 := ⟨by decide +kernel, rfl⟩
theorem iX2_events_12 : xl_J mX2_events 12 (fun o => .ifCond .lt o) 15 19 := ⟨7, by decide +kernel, rfl, rfl⟩
theorem iX2_events_15 : xl_D mX2_events 15 (.iconst (-1)) 1 16 := ⟨by decide +kernel, rfl⟩
theorem iX2_events_16 : xl_D mX2_events 16 (.iload_n 2) 1 17 := ⟨by decide +kernel, rfl⟩
theorem iX2_events_17 : xl_D mX2_events 17 (.isub) 1 18 := ⟨by decide +kernel, rfl⟩
theorem iX2_events_18 : xl_D mX2_events 18 (.ireturn) 1 19 := ⟨by decide +kernel, rfl⟩
theorem iX2_events_19 : xl_D mX2_events 19 (.iload_n 1) 1 20 := ⟨by decide +kernel, rfl⟩
theorem iX2_events_20 : xl_D mX2_events 20 (.bipush 9) 2 22 := ⟨by decide +kernel, rfl⟩
theorem iX2_events_22 : xl_D mX2_events 22 (.idiv) 1 23 := ⟨by decide +kernel, rfl⟩
theorem iX2_events_23 : xl_D mX2_events 23 (.istore_n 3) 1 24 := ⟨by decide +kernel, rfl⟩
theorem iX2_events_24 : xl_D mX2_events 24 (.aload_n 0) 1 25 := ⟨by decide +kernel, rfl⟩
theorem iX2_events_25 : xl_G mX2_events 25 2 0 28 := ⟨10, by decide +kernel, rfl, fX2_10⟩
theorem iX2_events_28 : xl_G mX2_events 28 1 14 31 := ⟨73, by decide +kernel, rfl, fX2_73⟩
theorem iX2_events_31 : xl_G mX2_events 31 0 3 34 := ⟨76, by decide +kernel, rfl, fX2_76⟩
theorem iX2_events_34 : xl_D mX2_events 34 (.iload_n 3) 1 35 := ⟨by decide +kernel, rfl⟩
theorem iX2_events_35 : xl_D mX2_events 35 (.iadd) 1 36 := ⟨by decide +kernel, rfl⟩
theorem iX2_events_36 : xl_D mX2_events 36 (.sipush 160) 3 39 := ⟨by decide +kernel, rfl⟩
theorem iX2_events_39 : xl_J mX2_events 39 (fun o => .if_icmp .le o) 42 45 := ⟨6, by decide +kernel, rfl, rfl⟩
theorem iX2_events_42 : xl_D mX2_events 42 (.bipush (-3)) 2 44 := ⟨by decide +kernel, rfl⟩
theorem iX2_events_44 : xl_D mX2_events 44 (.ireturn) 1 45 := ⟨by decide +kernel, rfl⟩
theorem iX2_events_45 : xl_D mX2_events 45 (.iload_n 3) 1 46 := ⟨by decide +kernel, rfl⟩
theorem iX2_events_46 : xl_J mX2_events 46 (fun o => .ifCond .le o) 49 53 := ⟨7, by decide +kernel, rfl, rfl⟩
theorem iX2_events_49 : xl_D mX2_events 49 (.aload_n 0) 1 50 := ⟨by decide +kernel, rfl⟩
theorem iX2_events_50 : xl_Ca mX2_events 50 mX2_remember 53 := ⟨52, by decide +kernel, rfl, lX2_52, Nat.le_of_ble_eq_true rfl, Nat.le_of_ble_eq_true rfl⟩
theorem iX2_events_53 : xl_D mX2_events 53 (.aload_n 0) 1 54 := ⟨by decide +kernel, rfl⟩
theorem iX2_events_54 : xl_G mX2_events 54 2 0 57 := ⟨10, by decide +kernel, rfl, fX2_10⟩
theorem iX2_events_57 : xl_G mX2_events 57 1 4 60 := ⟨87, by decide +kernel, rfl, fX2_87⟩
theorem iX2_events_60 : xl_D mX2_events 60 (.istore 4) 2 62 := ⟨by decide +kernel, rfl⟩
theorem iX2_events_62 : xl_D mX2_events 62 (.iconst 0) 1 63 := ⟨by decide +kernel, rfl⟩
theorem iX2_events_63 : xl_D mX2_events 63 (.istore 5) 2 65 := ⟨by decide +kernel, rfl⟩
theorem iX2_events_65 : xl_D mX2_events 65 (.iconst 0) 1 66 := ⟨by decide +kernel, rfl⟩
theorem iX2_events_66 : xl_D mX2_events 66 (.istore 6) 2 68 := ⟨by decide +kernel, rfl⟩
theorem iX2_events_68 : xl_D mX2_events 68 (.iload 6) 2 70 := ⟨by decide +kernel, rfl⟩
theorem iX2_events_70 : xl_D mX2_events 70 (.iload_n 1) 1 71 := ⟨by decide +kernel, rfl⟩
theorem iX2_events_71 : xl_J mX2_events 71 (fun o => .if_icmp .ge o) 74 93 := ⟨22, by decide +kernel, rfl, rfl⟩
theorem iX2_events_74 : xl_D mX2_events 74 (.aload_n 0) 1 75 := ⟨by decide +kernel, rfl⟩
theorem iX2_events_75 : xl_D mX2_events 75 (.iload 6) 2 77 := ⟨by decide +kernel, rfl⟩
theorem iX2_events_77 : xl_Ca mX2_events 77 mX2_comeEventAt 80 := ⟨108, by decide +kernel, rfl, lX2_108, Nat.le_of_ble_eq_true rfl, Nat.le_of_ble_eq_true rfl⟩
theorem iX2_events_80 : xl_D mX2_events 80 (.iconst 2) 1 81 := ⟨by decide +kernel, rfl⟩
theorem iX2_events_81 : xl_J mX2_events 81 (fun o => .if_icmp .eq o) 84 87 := ⟨6, by decide +kernel, rfl, rfl⟩
theorem iX2_events_84 : xl_D mX2_events 84 (.iinc 5 1) 3 87 := ⟨by decide +kernel, rfl⟩
theorem iX2_events_87 : xl_D mX2_events 87 (.iinc 6 9) 3 90 := ⟨by decide +kernel, rfl⟩
theorem iX2_events_90 : xl_J mX2_events 90 (fun o => .goto o) 93 68 := ⟨-22, by decide +kernel, rfl, rfl⟩
theorem iX2_events_93 : xl_D mX2_events 93 (.aload_n 0) 1 94 := ⟨by decide +kernel, rfl⟩
theorem iX2_events_94 : xl_D mX2_events 94 (.aload_n 0) 1 95 := ⟨by decide +kernel, rfl⟩
theorem iX2_events_95 : xl_G mX2_events 95 2 0 98 := ⟨10, by decide +kernel, rfl, fX2_10⟩
theorem iX2_events_98 : xl_G mX2_events 98 1 4 101 := ⟨87, by decide +kernel, rfl, fX2_87⟩
theorem iX2_events_101 : xl_D mX2_events 101 (.iload 4) 2 103 := ⟨by decide +kernel, rfl⟩
theorem iX2_events_103 : xl_D mX2_events 103 (.isub) 1 104 := ⟨by decide +kernel, rfl⟩
theorem iX2_events_104 : xl_D mX2_events 104 (.i2l) 1 105 := ⟨by decide +kernel, rfl⟩
theorem iX2_events_105 : xl_D mX2_events 105 (.aload_n 0) 1 106 := ⟨by decide +kernel, rfl⟩
theorem iX2_events_106 : xl_G mX2_events 106 2 0 109 := ⟨10, by decide +kernel, rfl, fX2_10⟩
theorem iX2_events_109 : xl_G mX2_events 109 1 3 112 := ⟨93, by decide +kernel, rfl, fX2_93⟩
theorem iX2_events_112 : xl_D mX2_events 112 (.i2l) 1 113 := ⟨by decide +kernel, rfl⟩
theorem iX2_events_113 : xl_Ca mX2_events 113 mX2_tellTwo 116 := ⟨96, by decide +kernel, rfl, lX2_96, Nat.le_of_ble_eq_true rfl, Nat.le_of_ble_eq_true rfl⟩
theorem iX2_events_116 : xl_D mX2_events 116 (.iload 5) 2 118 := ⟨by decide +kernel, rfl⟩
theorem iX2_events_118 : xl_D mX2_events 118 (.ireturn) 1 119 := ⟨by decide +kernel, rfl⟩
theorem iX2_marks_0 : xl_D mX2_marks 0 (.aload_n 0) 1 1 := ⟨by decide +kernel, rfl⟩
theorem iX2_marks_1 : xl_D mX2_marks 1 (.iload_n 1) 1 2 := ⟨by decide +kernel, rfl⟩
theorem iX2_marks_2 : xl_D mX2_marks 2 (.iload_n 2) 1 3 := ⟨by decide +kernel, rfl⟩
theorem iX2_marks_3 : xl_Ca mX2_marks 3 mX2_markRefusal 6 := ⟨111, by decide +kernel, rfl, lX2_111, Nat.le_of_ble_eq_true rfl, Nat.le_of_ble_eq_true rfl⟩
theorem iX2_marks_6 : xl_D mX2_marks 6 (.istore_n 3) 1 7 := ⟨by decide +kernel, rfl⟩
theorem iX2_marks_7 : xl_D mX2_marks 7 (.iload_n 3) 1 8 := ⟨by decide +kernel, rfl⟩
theorem iX2_marks_8 : xl_J mX2_marks 8 (fun o => .ifCond .ge o) 11 13 := ⟨5, by decide +kernel, rfl, rfl⟩
theorem iX2_marks_11 : xl_D mX2_marks 11 (.iload_n 3) 1 12 := ⟨by decide +kernel, rfl⟩
theorem iX2_marks_12 : xl_D mX2_marks 12 (.ireturn) 1 13 := ⟨by decide +kernel, rfl⟩
theorem iX2_marks_13 : xl_D mX2_marks 13 (.aload_n 0) 1 14 := ⟨by decide +kernel, rfl⟩
theorem iX2_marks_14 : xl_Ca mX2_marks 14 mX2_remember 17 := ⟨52, by decide +kernel, rfl, lX2_52, Nat.le_of_ble_eq_true rfl, Nat.le_of_ble_eq_true rfl⟩
theorem iX2_marks_17 : xl_D mX2_marks 17 (.aload_n 0) 1 18 := ⟨by decide +kernel, rfl⟩
theorem iX2_marks_18 : xl_G mX2_marks 18 2 0 21 := ⟨10, by decide +kernel, rfl, fX2_10⟩
theorem iX2_marks_21 : xl_G mX2_marks 21 1 4 24 := ⟨87, by decide +kernel, rfl, fX2_87⟩
theorem iX2_marks_24 : xl_D mX2_marks 24 (.istore 4) 2 26 := ⟨by decide +kernel, rfl⟩
theorem iX2_marks_26 : xl_D mX2_marks 26 (.aload_n 0) 1 27 := ⟨by decide +kernel, rfl⟩
theorem iX2_marks_27 : xl_G mX2_marks 27 2 0 30 := ⟨10, by decide +kernel, rfl, fX2_10⟩
theorem iX2_marks_30 : xl_D mX2_marks 30 (.iload_n 1) 1 31 := ⟨by decide +kernel, rfl⟩
theorem iX2_marks_31 : xl_D mX2_marks 31 (.iload_n 2) 1 32 := ⟨by decide +kernel, rfl⟩
theorem iX2_marks_32 : xl_Ca mX2_marks 32 mX1_comeMark 35 := ⟨114, by decide +kernel, rfl, lX2_114, Nat.le_of_ble_eq_true rfl, Nat.le_of_ble_eq_true rfl⟩
theorem iX2_marks_35 : xl_D mX2_marks 35 (.aload_n 0) 1 36 := ⟨by decide +kernel, rfl⟩
theorem iX2_marks_36 : xl_D mX2_marks 36 (.aload_n 0) 1 37 := ⟨by decide +kernel, rfl⟩
theorem iX2_marks_37 : xl_G mX2_marks 37 2 0 40 := ⟨10, by decide +kernel, rfl, fX2_10⟩
theorem iX2_marks_40 : xl_G mX2_marks 40 1 3 43 := ⟨93, by decide +kernel, rfl, fX2_93⟩
theorem iX2_marks_43 : xl_D mX2_marks 43 (.i2l) 1 44 := ⟨by decide +kernel, rfl⟩
theorem iX2_marks_44 : xl_Ca mX2_marks 44 mX2_tellOne 47 := ⟨118, by decide +kernel, rfl, lX2_118, Nat.le_of_ble_eq_true rfl, Nat.le_of_ble_eq_true rfl⟩
theorem iX2_marks_47 : xl_D mX2_marks 47 (.aload_n 0) 1 48 := ⟨by decide +kernel, rfl⟩
theorem iX2_marks_48 : xl_G mX2_marks 48 2 0 51 := ⟨10, by decide +kernel, rfl, fX2_10⟩
theorem iX2_marks_51 : xl_G mX2_marks 51 1 4 54 := ⟨87, by decide +kernel, rfl, fX2_87⟩
theorem iX2_marks_54 : xl_D mX2_marks 54 (.iload 4) 2 56 := ⟨by decide +kernel, rfl⟩
theorem iX2_marks_56 : xl_D mX2_marks 56 (.isub) 1 57 := ⟨by decide +kernel, rfl⟩
theorem iX2_marks_57 : xl_D mX2_marks 57 (.ireturn) 1 58 := ⟨by decide +kernel, rfl⟩
theorem iX2_idles_0 : xl_D mX2_idles 0 (.aload_n 0) 1 1 := ⟨by decide +kernel, rfl⟩
theorem iX2_idles_1 : xl_D mX2_idles 1 (.iload_n 1) 1 2 := ⟨by decide +kernel, rfl⟩
theorem iX2_idles_2 : xl_Ca mX2_idles 2 mX2_idleRefusal 5 := ⟨122, by decide +kernel, rfl, lX2_122, Nat.le_of_ble_eq_true rfl, Nat.le_of_ble_eq_true rfl⟩
theorem iX2_idles_5 : xl_D mX2_idles 5 (.istore_n 2) 1 6 := ⟨by decide +kernel, rfl⟩
theorem iX2_idles_6 : xl_D mX2_idles 6 (.iload_n 2) 1 7 := ⟨by decide +kernel, rfl⟩
theorem iX2_idles_7 : xl_J mX2_idles 7 (fun o => .ifCond .ge o) 10 12 := ⟨5, by decide +kernel, rfl, rfl⟩
theorem iX2_idles_10 : xl_D mX2_idles 10 (.iload_n 2) 1 11 := ⟨by decide +kernel, rfl⟩
theorem iX2_idles_11 : xl_D mX2_idles 11 (.ireturn) 1 12 := ⟨by decide +kernel, rfl⟩
theorem iX2_idles_12 : xl_D mX2_idles 12 (.aload_n 0) 1 13 := ⟨by decide +kernel, rfl⟩
theorem iX2_idles_13 : xl_Ca mX2_idles 13 mX2_remember 16 := ⟨52, by decide +kernel, rfl, lX2_52, Nat.le_of_ble_eq_true rfl, Nat.le_of_ble_eq_true rfl⟩
theorem iX2_idles_16 : xl_D mX2_idles 16 (.aload_n 0) 1 17 := ⟨by decide +kernel, rfl⟩
theorem iX2_idles_17 : xl_G mX2_idles 17 2 0 20 := ⟨10, by decide +kernel, rfl, fX2_10⟩
theorem iX2_idles_20 : xl_G mX2_idles 20 1 4 23 := ⟨87, by decide +kernel, rfl, fX2_87⟩
theorem iX2_idles_23 : xl_D mX2_idles 23 (.istore_n 3) 1 24 := ⟨by decide +kernel, rfl⟩
theorem iX2_idles_24 : xl_D mX2_idles 24 (.aload_n 0) 1 25 := ⟨by decide +kernel, rfl⟩
theorem iX2_idles_25 : xl_G mX2_idles 25 2 0 28 := ⟨10, by decide +kernel, rfl, fX2_10⟩
theorem iX2_idles_28 : xl_D mX2_idles 28 (.iload_n 1) 1 29 := ⟨by decide +kernel, rfl⟩
theorem iX2_idles_29 : xl_Ca mX2_idles 29 mX1_comeIdle 32 := ⟨125, by decide +kernel, rfl, lX2_125, Nat.le_of_ble_eq_true rfl, Nat.le_of_ble_eq_true rfl⟩
theorem iX2_idles_32 : xl_D mX2_idles 32 (.aload_n 0) 1 33 := ⟨by decide +kernel, rfl⟩
theorem iX2_idles_33 : xl_D mX2_idles 33 (.aload_n 0) 1 34 := ⟨by decide +kernel, rfl⟩
theorem iX2_idles_34 : xl_G mX2_idles 34 2 0 37 := ⟨10, by decide +kernel, rfl, fX2_10⟩
theorem iX2_idles_37 : xl_G mX2_idles 37 1 3 40 := ⟨93, by decide +kernel, rfl, fX2_93⟩
theorem iX2_idles_40 : xl_D mX2_idles 40 (.i2l) 1 41 := ⟨by decide +kernel, rfl⟩
theorem iX2_idles_41 : xl_Ca mX2_idles 41 mX2_tellOne 44 := ⟨118, by decide +kernel, rfl, lX2_118, Nat.le_of_ble_eq_true rfl, Nat.le_of_ble_eq_true rfl⟩
theorem iX2_idles_44 : xl_D mX2_idles 44 (.aload_n 0) 1 45 := ⟨by decide +kernel, rfl⟩
theorem iX2_idles_45 : xl_G mX2_idles 45 2 0 48 := ⟨10, by decide +kernel, rfl, fX2_10⟩
theorem iX2_idles_48 : xl_G mX2_idles 48 1 4 51 := ⟨87, by decide +kernel, rfl, fX2_87⟩
theorem iX2_idles_51 : xl_D mX2_idles 51 (.iload_n 3) 1 52 := ⟨by decide +kernel, rfl⟩
theorem iX2_idles_52 : xl_D mX2_idles 52 (.isub) 1 53 := ⟨by decide +kernel, rfl⟩
theorem iX2_idles_53 : xl_D mX2_idles 53 (.ireturn) 1 54 := ⟨by decide +kernel, rfl⟩
theorem iX2_source_0 : xl_D mX2_source 0 (.aload_n 0) 1 1 := ⟨by decide +kernel, rfl⟩
theorem iX2_source_1 : xl_D mX2_source 1 (.iload_n 1) 1 2 := ⟨by decide +kernel, rfl⟩
theorem iX2_source_2 : xl_Ca mX2_source 2 mX2_isSource 5 := ⟨59, by decide +kernel, rfl, lX2_59, Nat.le_of_ble_eq_true rfl, Nat.le_of_ble_eq_true rfl⟩
theorem iX2_source_5 : xl_J mX2_source 5 (fun o => .ifCond .eq o) 8 17 := ⟨12, by decide +kernel, rfl, rfl⟩
theorem iX2_source_8 : xl_D mX2_source 8 (.iload_n 2) 1 9 := ⟨by decide +kernel, rfl⟩
theorem iX2_source_9 : xl_J mX2_source 9 (fun o => .ifCond .lt o) 12 17 := ⟨8, by decide +kernel, rfl, rfl⟩
theorem iX2_source_12 : xl_D mX2_source 12 (.iload_n 2) 1 13 := ⟨by decide +kernel, rfl⟩
theorem iX2_source_13 : xl_D mX2_source 13 (.iconst 5) 1 14 := ⟨by decide +kernel, rfl⟩
theorem iX2_source_14 : xl_J mX2_source 14 (fun o => .if_icmp .le o) 17 25 := ⟨11, by decide +kernel, rfl, rfl⟩
theorem iX2_source_17 : xl_D mX2_source 17 (.new 128) 3 20 := ⟨by decide +kernel, rfl⟩
theorem iX2_source_20 : xl_D mX2_source 20 (.dup) 1 21 := ⟨by decide +kernel, rfl⟩
theorem iX2_source_21 : xl_D mX2_source 21 (.invokespecial 130) 3 24 := ⟨by decide +kernel, rfl⟩
theorem iX2_source_24 : xl_D mX2_source 24 (.athrow) 1 25 := ⟨by decide +kernel, rfl⟩
theorem iX2_source_25 : xl_D mX2_source 25 (.iload_n 2) 1 26 := ⟨by decide +kernel, rfl⟩
theorem iX2_source_26 : xl_D mX2_source 26 (.iconst 5) 1 27 := ⟨by decide +kernel, rfl⟩
theorem iX2_source_27 : xl_J mX2_source 27 (fun o => .if_icmp .ge o) 30 43 := ⟨16, by decide +kernel, rfl, rfl⟩
theorem iX2_source_30 : xl_D mX2_source 30 (.aload_n 0) 1 31 := ⟨by decide +kernel, rfl⟩
theorem iX2_source_31 : xl_G mX2_source 31 2 0 34 := ⟨10, by decide +kernel, rfl, fX2_10⟩
theorem iX2_source_34 : xl_G mX2_source 34 1 10 37 := ⟨63, by decide +kernel, rfl, fX2_63⟩
theorem iX2_source_37 : xl_D mX2_source 37 (.iload_n 1) 1 38 := ⟨by decide +kernel, rfl⟩
theorem iX2_source_38 : xl_D mX2_source 38 (.iload_n 2) 1 39 := ⟨by decide +kernel, rfl⟩
theorem iX2_source_39 : xl_Ca mX2_source 39 mX0_get 42 := ⟨67, by decide +kernel, rfl, lX2_67, Nat.le_of_ble_eq_true rfl, Nat.le_of_ble_eq_true rfl⟩
theorem iX2_source_42 : xl_D mX2_source 42 (.ireturn) 1 43 := ⟨by decide +kernel, rfl⟩
theorem iX2_source_43 : xl_D mX2_source 43 (.aload_n 0) 1 44 := ⟨by decide +kernel, rfl⟩
theorem iX2_source_44 : xl_G mX2_source 44 2 0 47 := ⟨10, by decide +kernel, rfl, fX2_10⟩
theorem iX2_source_47 : xl_G mX2_source 47 1 10 50 := ⟨63, by decide +kernel, rfl, fX2_63⟩
theorem iX2_source_50 : xl_D mX2_source 50 (.iload_n 1) 1 51 := ⟨by decide +kernel, rfl⟩
theorem iX2_source_51 : xl_D mX2_source 51 (.iconst 0) 1 52 := ⟨by decide +kernel, rfl⟩
theorem iX2_source_52 : xl_Ca mX2_source 52 mX0_get 55 := ⟨67, by decide +kernel, rfl, lX2_67, Nat.le_of_ble_eq_true rfl, Nat.le_of_ble_eq_true rfl⟩
theorem iX2_source_55 : xl_D mX2_source 55 (.aload_n 0) 1 56 := ⟨by decide +kernel, rfl⟩
theorem iX2_source_56 : xl_G mX2_source 56 2 0 59 := ⟨10, by decide +kernel, rfl, fX2_10⟩
theorem iX2_source_59 : xl_G mX2_source 59 1 3 62 := ⟨93, by decide +kernel, rfl, fX2_93⟩
theorem iX2_source_62 : xl_D mX2_source 62 (.isub) 1 63 := ⟨by decide +kernel, rfl⟩
theorem iX2_source_63 : xl_D mX2_source 63 (.istore_n 3) 1 64 := ⟨by decide +kernel, rfl⟩
theorem iX2_source_64 : xl_D mX2_source 64 (.iload_n 3) 1 65 := ⟨by decide +kernel, rfl⟩
theorem iX2_source_65 : xl_J mX2_source 65 (fun o => .ifCond .ge o) 68 72 := ⟨7, by decide +kernel, rfl, rfl⟩
theorem iX2_source_68 : xl_D mX2_source 68 (.iconst (-1)) 1 69 := ⟨by decide +kernel, rfl⟩
theorem iX2_source_69 : xl_J mX2_source 69 (fun o => .goto o) 72 73 := ⟨4, by decide +kernel, rfl, rfl⟩
theorem iX2_source_72 : xl_D mX2_source 72 (.iload_n 3) 1 73 := ⟨by decide +kernel, rfl⟩
theorem iX2_source_73 : xl_D mX2_source 73 (.ireturn) 1 74 := ⟨by decide +kernel, rfl⟩
theorem iX2_session_0 : xl_D mX2_session 0 (.iload_n 1) 1 1 := ⟨by decide +kernel, rfl⟩
theorem iX2_session_1 : xl_J mX2_session 1 (fun o => .ifCond .lt o) 4 28 := ⟨27, by decide +kernel, rfl, rfl⟩
theorem iX2_session_4 : xl_D mX2_session 4 (.iload_n 1) 1 5 := ⟨by decide +kernel, rfl⟩
theorem iX2_session_5 : xl_D mX2_session 5 (.aload_n 0) 1 6 := ⟨by decide +kernel, rfl⟩
theorem iX2_session_6 : xl_G mX2_session 6 2 0 9 := ⟨10, by decide +kernel, rfl, fX2_10⟩
theorem iX2_session_9 : xl_G mX2_session 9 1 11 12 := ⟨131, by decide +kernel, rfl, fX2_131⟩
theorem iX2_session_12 : xl_G mX2_session 12 0 3 15 := ⟨76, by decide +kernel, rfl, fX2_76⟩
theorem iX2_session_15 : xl_J mX2_session 15 (fun o => .if_icmp .ge o) 18 28 := ⟨13, by decide +kernel, rfl, rfl⟩
theorem iX2_session_18 : xl_D mX2_session 18 (.iload_n 2) 1 19 := ⟨by decide +kernel, rfl⟩
theorem iX2_session_19 : xl_J mX2_session 19 (fun o => .ifCond .lt o) 22 28 := ⟨9, by decide +kernel, rfl, rfl⟩
theorem iX2_session_22 : xl_D mX2_session 22 (.iload_n 2) 1 23 := ⟨by decide +kernel, rfl⟩
theorem iX2_session_23 : xl_D mX2_session 23 (.bipush 7) 2 25 := ⟨by decide +kernel, rfl⟩
theorem iX2_session_25 : xl_J mX2_session 25 (fun o => .if_icmp .le o) 28 36 := ⟨11, by decide +kernel, rfl, rfl⟩
theorem iX2_session_28 : xl_D mX2_session 28 (.new 128) 3 31 := ⟨by decide +kernel, rfl⟩
theorem iX2_session_31 : xl_D mX2_session 31 (.dup) 1 32 := ⟨by decide +kernel, rfl⟩
theorem iX2_session_32 : xl_D mX2_session 32 (.invokespecial 130) 3 35 := ⟨by decide +kernel, rfl⟩
theorem iX2_session_35 : xl_D mX2_session 35 (.athrow) 1 36 := ⟨by decide +kernel, rfl⟩
theorem iX2_session_36 : xl_D mX2_session 36 (.iload_n 2) 1 37 := ⟨by decide +kernel, rfl⟩
theorem iX2_session_37 : xl_D mX2_session 37 (.bipush 6) 2 39 := ⟨by decide +kernel, rfl⟩
theorem iX2_session_39 : xl_J mX2_session 39 (fun o => .if_icmp .ne o) 42 66 := ⟨27, by decide +kernel, rfl, rfl⟩
theorem iX2_session_42 : xl_D mX2_session 42 (.aload_n 0) 1 43 := ⟨by decide +kernel, rfl⟩
theorem iX2_session_43 : xl_G mX2_session 43 2 0 46 := ⟨10, by decide +kernel, rfl, fX2_10⟩
theorem iX2_session_46 : xl_D mX2_session 46 (.iload_n 1) 1 47 := ⟨by decide +kernel, rfl⟩
theorem iX2_session_47 : xl_D mX2_session 47 (.aload_n 0) 1 48 := ⟨by decide +kernel, rfl⟩
theorem iX2_session_48 : xl_G mX2_session 48 2 0 51 := ⟨10, by decide +kernel, rfl, fX2_10⟩
theorem iX2_session_51 : xl_G mX2_session 51 1 3 54 := ⟨93, by decide +kernel, rfl, fX2_93⟩
theorem iX2_session_54 : xl_Ca mX2_session 54 mX1_isRipe 57 := ⟨134, by decide +kernel, rfl, lX2_134, Nat.le_of_ble_eq_true rfl, Nat.le_of_ble_eq_true rfl⟩
theorem iX2_session_57 : xl_J mX2_session 57 (fun o => .ifCond .eq o) 60 64 := ⟨7, by decide +kernel, rfl, rfl⟩
theorem iX2_session_60 : xl_D mX2_session 60 (.iconst 1) 1 61 := ⟨by decide +kernel, rfl⟩
theorem iX2_session_61 : xl_J mX2_session 61 (fun o => .goto o) 64 65 := ⟨4, by decide +kernel, rfl, rfl⟩
theorem iX2_session_64 : xl_D mX2_session 64 (.iconst 0) 1 65 := ⟨by decide +kernel, rfl⟩
theorem iX2_session_65 : xl_D mX2_session 65 (.ireturn) 1 66 := ⟨by decide +kernel, rfl⟩
theorem iX2_session_66 : xl_D mX2_session 66 (.iload_n 2) 1 67 := ⟨by decide +kernel, rfl⟩
theorem iX2_session_67 : xl_D mX2_session 67 (.bipush 7) 2 69 := ⟨by decide +kernel, rfl⟩
theorem iX2_session_69 : xl_J mX2_session 69 (fun o => .if_icmp .ne o) 72 89 := ⟨20, by decide +kernel, rfl, rfl⟩
theorem iX2_session_72 : xl_D mX2_session 72 (.aload_n 0) 1 73 := ⟨by decide +kernel, rfl⟩
theorem iX2_session_73 : xl_G mX2_session 73 2 0 76 := ⟨10, by decide +kernel, rfl, fX2_10⟩
theorem iX2_session_76 : xl_D mX2_session 76 (.iload_n 1) 1 77 := ⟨by decide +kernel, rfl⟩
theorem iX2_session_77 : xl_Ca mX2_session 77 mX1_hasResult 80 := ⟨138, by decide +kernel, rfl, lX2_138, Nat.le_of_ble_eq_true rfl, Nat.le_of_ble_eq_true rfl⟩
theorem iX2_session_80 : xl_J mX2_session 80 (fun o => .ifCond .eq o) 83 87 := ⟨7, by decide +kernel, rfl, rfl⟩
theorem iX2_session_83 : xl_D mX2_session 83 (.iconst 1) 1 84 := ⟨by decide +kernel, rfl⟩
theorem iX2_session_84 : xl_J mX2_session 84 (fun o => .goto o) 87 88 := ⟨4, by decide +kernel, rfl, rfl⟩
theorem iX2_session_87 : xl_D mX2_session 87 (.iconst 0) 1 88 := ⟨by decide +kernel, rfl⟩
theorem iX2_session_88 : xl_D mX2_session 88 (.ireturn) 1 89 := ⟨by decide +kernel, rfl⟩
theorem iX2_session_89 : xl_D mX2_session 89 (.aload_n 0) 1 90 := ⟨by decide +kernel, rfl⟩
theorem iX2_session_90 : xl_G mX2_session 90 2 0 93 := ⟨10, by decide +kernel, rfl, fX2_10⟩
theorem iX2_session_93 : xl_G mX2_session 93 1 11 96 := ⟨131, by decide +kernel, rfl, fX2_131⟩
theorem iX2_session_96 : xl_D mX2_session 96 (.iload_n 1) 1 97 := ⟨by decide +kernel, rfl⟩
theorem iX2_session_97 : xl_D mX2_session 97 (.iload_n 2) 1 98 := ⟨by decide +kernel, rfl⟩
theorem iX2_session_98 : xl_Cs mX2_session 98 mX2_shifted 101 := ⟨141, by decide +kernel, rfl, lX2_141, Nat.le_of_ble_eq_true rfl, Nat.le_of_ble_eq_true rfl⟩
theorem iX2_session_101 : xl_D mX2_session 101 (.ireturn) 1 102 := ⟨by decide +kernel, rfl⟩
theorem iX2_at_0 : xl_D mX2_at 0 (.iload_n 1) 1 1 := ⟨by decide +kernel, rfl⟩
theorem iX2_at_1 : xl_Cs mX2_at 1 mX2_isKey 4 := ⟨145, by decide +kernel, rfl, lX2_145, Nat.le_of_ble_eq_true rfl, Nat.le_of_ble_eq_true rfl⟩
theorem iX2_at_4 : xl_J mX2_at 4 (fun o => .ifCond .eq o) 7 14 := ⟨10, by decide +kernel, rfl, rfl⟩
theorem iX2_at_7 : xl_D mX2_at 7 (.iload_n 2) 1 8 := ⟨by decide +kernel, rfl⟩
theorem iX2_at_8 : xl_Cs mX2_at 8 mX2_isTime 11 := ⟨148, by decide +kernel, rfl, lX2_148, Nat.le_of_ble_eq_true rfl, Nat.le_of_ble_eq_true rfl⟩
theorem iX2_at_11 : xl_J mX2_at 11 (fun o => .ifCond .ne o) 14 16 := ⟨5, by decide +kernel, rfl, rfl⟩
theorem iX2_at_14 : xl_D mX2_at 14 (.iconst (-1)) 1 15 := ⟨by decide +kernel, rfl⟩
theorem iX2_at_15 : xl_D mX2_at 15 (.ireturn) 1 16 := ⟨by decide +kernel, rfl⟩
theorem iX2_at_16 : xl_D mX2_at 16 (.aload_n 0) 1 17 := ⟨by decide +kernel, rfl⟩
theorem iX2_at_17 : xl_G mX2_at 17 2 0 20 := ⟨10, by decide +kernel, rfl, fX2_10⟩
theorem iX2_at_20 : xl_D mX2_at 20 (.iload_n 1) 1 21 := ⟨by decide +kernel, rfl⟩
theorem iX2_at_21 : xl_D mX2_at 21 (.iload_n 2) 1 22 := ⟨by decide +kernel, rfl⟩
theorem iX2_at_22 : xl_Ca mX2_at 22 mX1_firstTouched 25 := ⟨151, by decide +kernel, rfl, lX2_151, Nat.le_of_ble_eq_true rfl, Nat.le_of_ble_eq_true rfl⟩
theorem iX2_at_25 : xl_D mX2_at 25 (.istore_n 3) 1 26 := ⟨by decide +kernel, rfl⟩
theorem iX2_at_26 : xl_D mX2_at 26 (.iload_n 3) 1 27 := ⟨by decide +kernel, rfl⟩
theorem iX2_at_27 : xl_J mX2_at 27 (fun o => .ifCond .ge o) 30 33 := ⟨6, by decide +kernel, rfl, rfl⟩
theorem iX2_at_30 : xl_D mX2_at 30 (.bipush (-2)) 2 32 := ⟨by decide +kernel, rfl⟩
theorem iX2_at_32 : xl_D mX2_at 32 (.ireturn) 1 33 := ⟨by decide +kernel, rfl⟩
theorem iX2_at_33 : xl_D mX2_at 33 (.aload_n 0) 1 34 := ⟨by decide +kernel, rfl⟩
theorem iX2_at_34 : xl_D mX2_at 34 (.aload_n 0) 1 35 := ⟨by decide +kernel, rfl⟩
theorem iX2_at_35 : xl_G mX2_at 35 2 0 38 := ⟨10, by decide +kernel, rfl, fX2_10⟩
theorem iX2_at_38 : xl_D mX2_at 38 (.iload_n 3) 1 39 := ⟨by decide +kernel, rfl⟩
theorem iX2_at_39 : xl_D mX2_at 39 (.iload_n 1) 1 40 := ⟨by decide +kernel, rfl⟩
theorem iX2_at_40 : xl_D mX2_at 40 (.iload_n 2) 1 41 := ⟨by decide +kernel, rfl⟩
theorem iX2_at_41 : xl_Ca mX2_at 41 mX1_touchedFrom 44 := ⟨154, by decide +kernel, rfl, lX2_154, Nat.le_of_ble_eq_true rfl, Nat.le_of_ble_eq_true rfl⟩
theorem iX2_at_44 : xl_D mX2_at 44 (.i2l) 1 45 := ⟨by decide +kernel, rfl⟩
theorem iX2_at_45 : xl_Ca mX2_at 45 mX2_tellOne 48 := ⟨118, by decide +kernel, rfl, lX2_118, Nat.le_of_ble_eq_true rfl, Nat.le_of_ble_eq_true rfl⟩
theorem iX2_at_48 : xl_D mX2_at 48 (.iload_n 3) 1 49 := ⟨by decide +kernel, rfl⟩
theorem iX2_at_49 : xl_D mX2_at 49 (.ireturn) 1 50 := ⟨by decide +kernel, rfl⟩
theorem iX2_message_0 : xl_D mX2_message 0 (.iload_n 1) 1 1 := ⟨by decide +kernel, rfl⟩
theorem iX2_message_1 : xl_D mX2_message 1 (.aload_n 0) 1 2 := ⟨by decide +kernel, rfl⟩
theorem iX2_message_2 : xl_G mX2_message 2 2 0 5 := ⟨10, by decide +kernel, rfl, fX2_10⟩
theorem iX2_message_5 : xl_G mX2_message 5 1 4 8 := ⟨87, by decide +kernel, rfl, fX2_87⟩
theorem iX2_message_8 : xl_D mX2_message 8 (.bipush 60) 2 10 := ⟨by decide +kernel, rfl⟩
theorem iX2_message_10 : xl_Cs mX2_message 10 mX2_isOfLatest 13 := ⟨158, by decide +kernel, rfl, lX2_158, Nat.le_of_ble_eq_true rfl, Nat.le_of_ble_eq_true rfl⟩
theorem iX2_message_13 : xl_D mX2_message 13 (.istore_n 3) 1 14 := ⟨by decide +kernel, rfl⟩
theorem iX2_message_14 : xl_D mX2_message 14 (.iload_n 3) 1 15 := ⟨by decide +kernel, rfl⟩
theorem iX2_message_15 : xl_J mX2_message 15 (fun o => .ifCond .eq o) 18 28 := ⟨13, by decide +kernel, rfl, rfl⟩
theorem iX2_message_18 : xl_D mX2_message 18 (.iload_n 2) 1 19 := ⟨by decide +kernel, rfl⟩
theorem iX2_message_19 : xl_J mX2_message 19 (fun o => .ifCond .lt o) 22 28 := ⟨9, by decide +kernel, rfl, rfl⟩
theorem iX2_message_22 : xl_D mX2_message 22 (.iload_n 2) 1 23 := ⟨by decide +kernel, rfl⟩
theorem iX2_message_23 : xl_D mX2_message 23 (.bipush 6) 2 25 := ⟨by decide +kernel, rfl⟩
theorem iX2_message_25 : xl_J mX2_message 25 (fun o => .if_icmp .lt o) 28 36 := ⟨11, by decide +kernel, rfl, rfl⟩
theorem iX2_message_28 : xl_D mX2_message 28 (.new 128) 3 31 := ⟨by decide +kernel, rfl⟩
theorem iX2_message_31 : xl_D mX2_message 31 (.dup) 1 32 := ⟨by decide +kernel, rfl⟩
theorem iX2_message_32 : xl_D mX2_message 32 (.invokespecial 130) 3 35 := ⟨by decide +kernel, rfl⟩
theorem iX2_message_35 : xl_D mX2_message 35 (.athrow) 1 36 := ⟨by decide +kernel, rfl⟩
theorem iX2_message_36 : xl_D mX2_message 36 (.aload_n 0) 1 37 := ⟨by decide +kernel, rfl⟩
theorem iX2_message_37 : xl_G mX2_message 37 2 0 40 := ⟨10, by decide +kernel, rfl, fX2_10⟩
theorem iX2_message_40 : xl_G mX2_message 40 1 12 43 := ⟨161, by decide +kernel, rfl, fX2_161⟩
theorem iX2_message_43 : xl_D mX2_message 43 (.iload_n 1) 1 44 := ⟨by decide +kernel, rfl⟩
theorem iX2_message_44 : xl_D mX2_message 44 (.bipush 60) 2 46 := ⟨by decide +kernel, rfl⟩
theorem iX2_message_46 : xl_D mX2_message 46 (.irem) 1 47 := ⟨by decide +kernel, rfl⟩
theorem iX2_message_47 : xl_D mX2_message 47 (.iload_n 2) 1 48 := ⟨by decide +kernel, rfl⟩
theorem iX2_message_48 : xl_Ca mX2_message 48 mX0_get 51 := ⟨67, by decide +kernel, rfl, lX2_67, Nat.le_of_ble_eq_true rfl, Nat.le_of_ble_eq_true rfl⟩
theorem iX2_message_51 : xl_D mX2_message 51 (.istore 4) 2 53 := ⟨by decide +kernel, rfl⟩
theorem iX2_message_53 : xl_D mX2_message 53 (.iload_n 2) 1 54 := ⟨by decide +kernel, rfl⟩
theorem iX2_message_54 : xl_D mX2_message 54 (.iconst 5) 1 55 := ⟨by decide +kernel, rfl⟩
theorem iX2_message_55 : xl_J mX2_message 55 (fun o => .if_icmp .ne o) 58 67 := ⟨12, by decide +kernel, rfl, rfl⟩
theorem iX2_message_58 : xl_D mX2_message 58 (.iload 4) 2 60 := ⟨by decide +kernel, rfl⟩
theorem iX2_message_60 : xl_D mX2_message 60 (.sipush 20000) 3 63 := ⟨by decide +kernel, rfl⟩
theorem iX2_message_63 : xl_D mX2_message 63 (.iadd) 1 64 := ⟨by decide +kernel, rfl⟩
theorem iX2_message_64 : xl_J mX2_message 64 (fun o => .goto o) 67 69 := ⟨5, by decide +kernel, rfl, rfl⟩
theorem iX2_message_67 : xl_D mX2_message 67 (.iload 4) 2 69 := ⟨by decide +kernel, rfl⟩
theorem iX2_message_69 : xl_D mX2_message 69 (.ireturn) 1 70 := ⟨by decide +kernel, rfl⟩
theorem iX2_sent_0 : xl_D mX2_sent 0 (.iload_n 1) 1 1 := ⟨by decide +kernel, rfl⟩
theorem iX2_sent_1 : xl_J mX2_sent 1 (fun o => .ifCond .lt o) 4 9 := ⟨8, by decide +kernel, rfl, rfl⟩
theorem iX2_sent_4 : xl_D mX2_sent 4 (.iload_n 1) 1 5 := ⟨by decide +kernel, rfl⟩
theorem iX2_sent_5 : xl_D mX2_sent 5 (.iconst 4) 1 6 := ⟨by decide +kernel, rfl⟩
theorem iX2_sent_6 : xl_J mX2_sent 6 (fun o => .if_icmp .lt o) 9 11 := ⟨5, by decide +kernel, rfl, rfl⟩
theorem iX2_sent_9 : xl_D mX2_sent 9 (.iconst (-1)) 1 10 := ⟨by decide +kernel, rfl⟩
theorem iX2_sent_10 : xl_D mX2_sent 10 (.ireturn) 1 11 := ⟨by decide +kernel, rfl⟩
theorem iX2_sent_11 : xl_D mX2_sent 11 (.aload_n 0) 1 12 := ⟨by decide +kernel, rfl⟩
theorem iX2_sent_12 : xl_D mX2_sent 12 (.aload_n 0) 1 13 := ⟨by decide +kernel, rfl⟩
theorem iX2_sent_13 : xl_G mX2_sent 13 2 0 16 := ⟨10, by decide +kernel, rfl, fX2_10⟩
theorem iX2_sent_16 : xl_G mX2_sent 16 1 4 19 := ⟨87, by decide +kernel, rfl, fX2_87⟩
theorem iX2_sent_19 : xl_D mX2_sent 19 (.i2l) 1 20 := ⟨by decide +kernel, rfl⟩
theorem iX2_sent_20 : xl_Ca mX2_sent 20 mX2_tellOne 23 := ⟨118, by decide +kernel, rfl, lX2_118, Nat.le_of_ble_eq_true rfl, Nat.le_of_ble_eq_true rfl⟩
theorem iX2_sent_23 : xl_D mX2_sent 23 (.aload_n 0) 1 24 := ⟨by decide +kernel, rfl⟩
theorem iX2_sent_24 : xl_G mX2_sent 24 2 0 27 := ⟨10, by decide +kernel, rfl, fX2_10⟩
theorem iX2_sent_27 : xl_D mX2_sent 27 (.iload_n 1) 1 28 := ⟨by decide +kernel, rfl⟩
theorem iX2_sent_28 : xl_Ca mX2_sent 28 mX1_sentOf 31 := ⟨164, by decide +kernel, rfl, lX2_164, Nat.le_of_ble_eq_true rfl, Nat.le_of_ble_eq_true rfl⟩
theorem iX2_sent_31 : xl_D mX2_sent 31 (.ireturn) 1 32 := ⟨by decide +kernel, rfl⟩
theorem iX2_stands_0 : xl_D mX2_stands 0 (.iconst 0) 1 1 := ⟨by decide +kernel, rfl⟩
theorem iX2_stands_1 : xl_D mX2_stands 1 (.istore_n 1) 1 2 := ⟨by decide +kernel, rfl⟩
theorem iX2_stands_2 : xl_D mX2_stands 2 (.iconst 0) 1 3 := ⟨by decide +kernel, rfl⟩
theorem iX2_stands_3 : xl_D mX2_stands 3 (.istore_n 2) 1 4 := ⟨by decide +kernel, rfl⟩
theorem iX2_stands_4 : xl_D mX2_stands 4 (.iconst 0) 1 5 := ⟨by decide +kernel, rfl⟩
theorem iX2_stands_5 : xl_D mX2_stands 5 (.istore_n 3) 1 6 := ⟨by decide +kernel, rfl⟩
theorem iX2_stands_6 : xl_D mX2_stands 6 (.iconst 0) 1 7 := ⟨by decide +kernel, rfl⟩
theorem iX2_stands_7 : xl_D mX2_stands 7 (.istore 4) 2 9 := ⟨by decide +kernel, rfl⟩
theorem iX2_stands_9 : xl_D mX2_stands 9 (.iload 4) 2 11 := ⟨by decide +kernel, rfl⟩
theorem iX2_stands_11 : xl_D mX2_stands 11 (.bipush 6) 2 13 := ⟨by decide +kernel, rfl⟩
theorem iX2_stands_13 : xl_J mX2_stands 13 (fun o => .if_icmp .ge o) 16 71 := ⟨58, by decide +kernel, rfl, rfl⟩
theorem iX2_stands_16 : xl_D mX2_stands 16 (.iload_n 1) 1 17 := ⟨by decide +kernel, rfl⟩
theorem iX2_stands_17 : xl_D mX2_stands 17 (.aload_n 0) 1 18 := ⟨by decide +kernel, rfl⟩
theorem iX2_stands_18 : xl_G mX2_stands 18 2 0 21 := ⟨10, by decide +kernel, rfl, fX2_10⟩
theorem iX2_stands_21 : xl_G mX2_stands 21 1 15 24 := ⟨167, by decide +kernel, rfl, fX2_167⟩
theorem iX2_stands_24 : xl_D mX2_stands 24 (.iload 4) 2 26 := ⟨by decide +kernel, rfl⟩
theorem iX2_stands_26 : xl_D mX2_stands 26 (.iconst 4) 1 27 := ⟨by decide +kernel, rfl⟩
theorem iX2_stands_27 : xl_Ca mX2_stands 27 mX0_get 30 := ⟨67, by decide +kernel, rfl, lX2_67, Nat.le_of_ble_eq_true rfl, Nat.le_of_ble_eq_true rfl⟩
theorem iX2_stands_30 : xl_D mX2_stands 30 (.iadd) 1 31 := ⟨by decide +kernel, rfl⟩
theorem iX2_stands_31 : xl_D mX2_stands 31 (.istore_n 1) 1 32 := ⟨by decide +kernel, rfl⟩
theorem iX2_stands_32 : xl_D mX2_stands 32 (.iload_n 2) 1 33 := ⟨by decide +kernel, rfl⟩
theorem iX2_stands_33 : xl_D mX2_stands 33 (.aload_n 0) 1 34 := ⟨by decide +kernel, rfl⟩
theorem iX2_stands_34 : xl_G mX2_stands 34 2 0 37 := ⟨10, by decide +kernel, rfl, fX2_10⟩
theorem iX2_stands_37 : xl_G mX2_stands 37 1 15 40 := ⟨167, by decide +kernel, rfl, fX2_167⟩
theorem iX2_stands_40 : xl_D mX2_stands 40 (.iload 4) 2 42 := ⟨by decide +kernel, rfl⟩
theorem iX2_stands_42 : xl_D mX2_stands 42 (.iconst 5) 1 43 := ⟨by decide +kernel, rfl⟩
theorem iX2_stands_43 : xl_Ca mX2_stands 43 mX0_get 46 := ⟨67, by decide +kernel, rfl, lX2_67, Nat.le_of_ble_eq_true rfl, Nat.le_of_ble_eq_true rfl⟩
theorem iX2_stands_46 : xl_D mX2_stands 46 (.iadd) 1 47 := ⟨by decide +kernel, rfl⟩
theorem iX2_stands_47 : xl_D mX2_stands 47 (.istore_n 2) 1 48 := ⟨by decide +kernel, rfl⟩
theorem iX2_stands_48 : xl_D mX2_stands 48 (.iload_n 3) 1 49 := ⟨by decide +kernel, rfl⟩
theorem iX2_stands_49 : xl_D mX2_stands 49 (.aload_n 0) 1 50 := ⟨by decide +kernel, rfl⟩
theorem iX2_stands_50 : xl_G mX2_stands 50 2 0 53 := ⟨10, by decide +kernel, rfl, fX2_10⟩
theorem iX2_stands_53 : xl_G mX2_stands 53 1 15 56 := ⟨167, by decide +kernel, rfl, fX2_167⟩
theorem iX2_stands_56 : xl_D mX2_stands 56 (.iload 4) 2 58 := ⟨by decide +kernel, rfl⟩
theorem iX2_stands_58 : xl_D mX2_stands 58 (.bipush 6) 2 60 := ⟨by decide +kernel, rfl⟩
theorem iX2_stands_60 : xl_Ca mX2_stands 60 mX0_get 63 := ⟨67, by decide +kernel, rfl, lX2_67, Nat.le_of_ble_eq_true rfl, Nat.le_of_ble_eq_true rfl⟩
theorem iX2_stands_63 : xl_D mX2_stands 63 (.iadd) 1 64 := ⟨by decide +kernel, rfl⟩
theorem iX2_stands_64 : xl_D mX2_stands 64 (.istore_n 3) 1 65 := ⟨by decide +kernel, rfl⟩
theorem iX2_stands_65 : xl_D mX2_stands 65 (.iinc 4 1) 3 68 := ⟨by decide +kernel, rfl⟩
theorem iX2_stands_68 : xl_J mX2_stands 68 (fun o => .goto o) 71 9 := ⟨-59, by decide +kernel, rfl, rfl⟩
theorem iX2_stands_71 : xl_D mX2_stands 71 (.iconst 0) 1 72 := ⟨by decide +kernel, rfl⟩
theorem iX2_stands_72 : xl_D mX2_stands 72 (.istore 4) 2 74 := ⟨by decide +kernel, rfl⟩
theorem iX2_stands_74 : xl_D mX2_stands 74 (.iload 4) 2 76 := ⟨by decide +kernel, rfl⟩
theorem iX2_stands_76 : xl_D mX2_stands 76 (.aload_n 0) 1 77 := ⟨by decide +kernel, rfl⟩
theorem iX2_stands_77 : xl_G mX2_stands 77 2 0 80 := ⟨10, by decide +kernel, rfl, fX2_10⟩
theorem iX2_stands_80 : xl_G mX2_stands 80 1 11 83 := ⟨131, by decide +kernel, rfl, fX2_131⟩
theorem iX2_stands_83 : xl_G mX2_stands 83 0 3 86 := ⟨76, by decide +kernel, rfl, fX2_76⟩
theorem iX2_stands_86 : xl_J mX2_stands 86 (fun o => .if_icmp .ge o) 89 142 := ⟨56, by decide +kernel, rfl, rfl⟩
theorem iX2_stands_89 : xl_D mX2_stands 89 (.aload_n 0) 1 90 := ⟨by decide +kernel, rfl⟩
theorem iX2_stands_90 : xl_G mX2_stands 90 2 0 93 := ⟨10, by decide +kernel, rfl, fX2_10⟩
theorem iX2_stands_93 : xl_D mX2_stands 93 (.iload 4) 2 95 := ⟨by decide +kernel, rfl⟩
theorem iX2_stands_95 : xl_Ca mX2_stands 95 mX1_hasResult 98 := ⟨138, by decide +kernel, rfl, lX2_138, Nat.le_of_ble_eq_true rfl, Nat.le_of_ble_eq_true rfl⟩
theorem iX2_stands_98 : xl_J mX2_stands 98 (fun o => .ifCond .eq o) 101 136 := ⟨38, by decide +kernel, rfl, rfl⟩
theorem iX2_stands_101 : xl_D mX2_stands 101 (.iinc 1 1) 3 104 := ⟨by decide +kernel, rfl⟩
theorem iX2_stands_104 : xl_D mX2_stands 104 (.iload_n 2) 1 105 := ⟨by decide +kernel, rfl⟩
theorem iX2_stands_105 : xl_D mX2_stands 105 (.aload_n 0) 1 106 := ⟨by decide +kernel, rfl⟩
theorem iX2_stands_106 : xl_G mX2_stands 106 2 0 109 := ⟨10, by decide +kernel, rfl, fX2_10⟩
theorem iX2_stands_109 : xl_G mX2_stands 109 1 11 112 := ⟨131, by decide +kernel, rfl, fX2_131⟩
theorem iX2_stands_112 : xl_D mX2_stands 112 (.iload 4) 2 114 := ⟨by decide +kernel, rfl⟩
theorem iX2_stands_114 : xl_D mX2_stands 114 (.iconst 3) 1 115 := ⟨by decide +kernel, rfl⟩
theorem iX2_stands_115 : xl_Ca mX2_stands 115 mX0_get 118 := ⟨67, by decide +kernel, rfl, lX2_67, Nat.le_of_ble_eq_true rfl, Nat.le_of_ble_eq_true rfl⟩
theorem iX2_stands_118 : xl_D mX2_stands 118 (.iadd) 1 119 := ⟨by decide +kernel, rfl⟩
theorem iX2_stands_119 : xl_D mX2_stands 119 (.istore_n 2) 1 120 := ⟨by decide +kernel, rfl⟩
theorem iX2_stands_120 : xl_D mX2_stands 120 (.iload_n 3) 1 121 := ⟨by decide +kernel, rfl⟩
theorem iX2_stands_121 : xl_D mX2_stands 121 (.aload_n 0) 1 122 := ⟨by decide +kernel, rfl⟩
theorem iX2_stands_122 : xl_G mX2_stands 122 2 0 125 := ⟨10, by decide +kernel, rfl, fX2_10⟩
theorem iX2_stands_125 : xl_G mX2_stands 125 1 11 128 := ⟨131, by decide +kernel, rfl, fX2_131⟩
theorem iX2_stands_128 : xl_D mX2_stands 128 (.iload 4) 2 130 := ⟨by decide +kernel, rfl⟩
theorem iX2_stands_130 : xl_D mX2_stands 130 (.iconst 4) 1 131 := ⟨by decide +kernel, rfl⟩
theorem iX2_stands_131 : xl_Ca mX2_stands 131 mX0_get 134 := ⟨67, by decide +kernel, rfl, lX2_67, Nat.le_of_ble_eq_true rfl, Nat.le_of_ble_eq_true rfl⟩
theorem iX2_stands_134 : xl_D mX2_stands 134 (.iadd) 1 135 := ⟨by decide +kernel, rfl⟩
theorem iX2_stands_135 : xl_D mX2_stands 135 (.istore_n 3) 1 136 := ⟨by decide +kernel, rfl⟩
theorem iX2_stands_136 : xl_D mX2_stands 136 (.iinc 4 1) 3 139 := ⟨by decide +kernel, rfl⟩
theorem iX2_stands_139 : xl_J mX2_stands 139 (fun o => .goto o) 142 74 := ⟨-65, by decide +kernel, rfl, rfl⟩
theorem iX2_stands_142 : xl_D mX2_stands 142 (.aload_n 0) 1 143 := ⟨by decide +kernel, rfl⟩
theorem iX2_stands_143 : xl_D mX2_stands 143 (.iload_n 2) 1 144 := ⟨by decide +kernel, rfl⟩
theorem iX2_stands_144 : xl_D mX2_stands 144 (.i2l) 1 145 := ⟨by decide +kernel, rfl⟩
theorem iX2_stands_145 : xl_D mX2_stands 145 (.iload_n 3) 1 146 := ⟨by decide +kernel, rfl⟩
theorem iX2_stands_146 : xl_D mX2_stands 146 (.i2l) 1 147 := ⟨by decide +kernel, rfl⟩
theorem iX2_stands_147 : xl_Ca mX2_stands 147 mX2_tellTwo 150 := ⟨96, by decide +kernel, rfl, lX2_96, Nat.le_of_ble_eq_true rfl, Nat.le_of_ble_eq_true rfl⟩
theorem iX2_stands_150 : xl_D mX2_stands 150 (.iload_n 1) 1 151 := ⟨by decide +kernel, rfl⟩
theorem iX2_stands_151 : xl_D mX2_stands 151 (.ireturn) 1 152 := ⟨by decide +kernel, rfl⟩
theorem iX2_closed_0 : xl_D mX2_closed 0 (.iload_n 1) 1 1 := ⟨by decide +kernel, rfl⟩
theorem iX2_closed_1 : xl_Cs mX2_closed 1 mX2_isKey 4 := ⟨145, by decide +kernel, rfl, lX2_145, Nat.le_of_ble_eq_true rfl, Nat.le_of_ble_eq_true rfl⟩
theorem iX2_closed_4 : xl_J mX2_closed 4 (fun o => .ifCond .ne o) 7 9 := ⟨5, by decide +kernel, rfl, rfl⟩
theorem iX2_closed_7 : xl_D mX2_closed 7 (.iconst (-1)) 1 8 := ⟨by decide +kernel, rfl⟩
theorem iX2_closed_8 : xl_D mX2_closed 8 (.ireturn) 1 9 := ⟨by decide +kernel, rfl⟩
theorem iX2_closed_9 : xl_D mX2_closed 9 (.aload_n 0) 1 10 := ⟨by decide +kernel, rfl⟩
theorem iX2_closed_10 : xl_D mX2_closed 10 (.aload_n 0) 1 11 := ⟨by decide +kernel, rfl⟩
theorem iX2_closed_11 : xl_G mX2_closed 11 2 0 14 := ⟨10, by decide +kernel, rfl, fX2_10⟩
theorem iX2_closed_14 : xl_G mX2_closed 14 1 15 17 := ⟨167, by decide +kernel, rfl, fX2_167⟩
theorem iX2_closed_17 : xl_D mX2_closed 17 (.iload_n 1) 1 18 := ⟨by decide +kernel, rfl⟩
theorem iX2_closed_18 : xl_D mX2_closed 18 (.iconst 5) 1 19 := ⟨by decide +kernel, rfl⟩
theorem iX2_closed_19 : xl_Ca mX2_closed 19 mX0_get 22 := ⟨67, by decide +kernel, rfl, lX2_67, Nat.le_of_ble_eq_true rfl, Nat.le_of_ble_eq_true rfl⟩
theorem iX2_closed_22 : xl_D mX2_closed 22 (.i2l) 1 23 := ⟨by decide +kernel, rfl⟩
theorem iX2_closed_23 : xl_D mX2_closed 23 (.aload_n 0) 1 24 := ⟨by decide +kernel, rfl⟩
theorem iX2_closed_24 : xl_G mX2_closed 24 2 0 27 := ⟨10, by decide +kernel, rfl, fX2_10⟩
theorem iX2_closed_27 : xl_G mX2_closed 27 1 15 30 := ⟨167, by decide +kernel, rfl, fX2_167⟩
theorem iX2_closed_30 : xl_D mX2_closed 30 (.iload_n 1) 1 31 := ⟨by decide +kernel, rfl⟩
theorem iX2_closed_31 : xl_D mX2_closed 31 (.bipush 6) 2 33 := ⟨by decide +kernel, rfl⟩
theorem iX2_closed_33 : xl_Ca mX2_closed 33 mX0_get 36 := ⟨67, by decide +kernel, rfl, lX2_67, Nat.le_of_ble_eq_true rfl, Nat.le_of_ble_eq_true rfl⟩
theorem iX2_closed_36 : xl_D mX2_closed 36 (.i2l) 1 37 := ⟨by decide +kernel, rfl⟩
theorem iX2_closed_37 : xl_D mX2_closed 37 (.aload_n 0) 1 38 := ⟨by decide +kernel, rfl⟩
theorem iX2_closed_38 : xl_G mX2_closed 38 2 0 41 := ⟨10, by decide +kernel, rfl, fX2_10⟩
theorem iX2_closed_41 : xl_G mX2_closed 41 1 15 44 := ⟨167, by decide +kernel, rfl, fX2_167⟩
theorem iX2_closed_44 : xl_D mX2_closed 44 (.iload_n 1) 1 45 := ⟨by decide +kernel, rfl⟩
theorem iX2_closed_45 : xl_D mX2_closed 45 (.bipush 7) 2 47 := ⟨by decide +kernel, rfl⟩
theorem iX2_closed_47 : xl_Ca mX2_closed 47 mX0_get 50 := ⟨67, by decide +kernel, rfl, lX2_67, Nat.le_of_ble_eq_true rfl, Nat.le_of_ble_eq_true rfl⟩
theorem iX2_closed_50 : xl_D mX2_closed 50 (.i2l) 1 51 := ⟨by decide +kernel, rfl⟩
theorem iX2_closed_51 : xl_Ca mX2_closed 51 mX2_tellThree 54 := ⟨170, by decide +kernel, rfl, lX2_170, Nat.le_of_ble_eq_true rfl, Nat.le_of_ble_eq_true rfl⟩
theorem iX2_closed_54 : xl_D mX2_closed 54 (.aload_n 0) 1 55 := ⟨by decide +kernel, rfl⟩
theorem iX2_closed_55 : xl_G mX2_closed 55 2 0 58 := ⟨10, by decide +kernel, rfl, fX2_10⟩
theorem iX2_closed_58 : xl_G mX2_closed 58 1 15 61 := ⟨167, by decide +kernel, rfl, fX2_167⟩
theorem iX2_closed_61 : xl_D mX2_closed 61 (.iload_n 1) 1 62 := ⟨by decide +kernel, rfl⟩
theorem iX2_closed_62 : xl_D mX2_closed 62 (.iconst 4) 1 63 := ⟨by decide +kernel, rfl⟩
theorem iX2_closed_63 : xl_Ca mX2_closed 63 mX0_get 66 := ⟨67, by decide +kernel, rfl, lX2_67, Nat.le_of_ble_eq_true rfl, Nat.le_of_ble_eq_true rfl⟩
theorem iX2_closed_66 : xl_D mX2_closed 66 (.ireturn) 1 67 := ⟨by decide +kernel, rfl⟩
theorem iX2_finals_0 : xl_D mX2_finals 0 (.iload_n 1) 1 1 := ⟨by decide +kernel, rfl⟩
theorem iX2_finals_1 : xl_D mX2_finals 1 (.aload_n 0) 1 2 := ⟨by decide +kernel, rfl⟩
theorem iX2_finals_2 : xl_G mX2_finals 2 2 0 5 := ⟨10, by decide +kernel, rfl, fX2_10⟩
theorem iX2_finals_5 : xl_G mX2_finals 5 1 5 8 := ⟨174, by decide +kernel, rfl, fX2_174⟩
theorem iX2_finals_8 : xl_D mX2_finals 8 (.bipush 40) 2 10 := ⟨by decide +kernel, rfl⟩
theorem iX2_finals_10 : xl_Cs mX2_finals 10 mX2_isOfLatest 13 := ⟨158, by decide +kernel, rfl, lX2_158, Nat.le_of_ble_eq_true rfl, Nat.le_of_ble_eq_true rfl⟩
theorem iX2_finals_13 : xl_D mX2_finals 13 (.istore_n 3) 1 14 := ⟨by decide +kernel, rfl⟩
theorem iX2_finals_14 : xl_D mX2_finals 14 (.iload_n 3) 1 15 := ⟨by decide +kernel, rfl⟩
theorem iX2_finals_15 : xl_J mX2_finals 15 (fun o => .ifCond .eq o) 18 28 := ⟨13, by decide +kernel, rfl, rfl⟩
theorem iX2_finals_18 : xl_D mX2_finals 18 (.iload_n 2) 1 19 := ⟨by decide +kernel, rfl⟩
theorem iX2_finals_19 : xl_J mX2_finals 19 (fun o => .ifCond .lt o) 22 28 := ⟨9, by decide +kernel, rfl, rfl⟩
theorem iX2_finals_22 : xl_D mX2_finals 22 (.iload_n 2) 1 23 := ⟨by decide +kernel, rfl⟩
theorem iX2_finals_23 : xl_D mX2_finals 23 (.bipush 7) 2 25 := ⟨by decide +kernel, rfl⟩
theorem iX2_finals_25 : xl_J mX2_finals 25 (fun o => .if_icmp .lt o) 28 36 := ⟨11, by decide +kernel, rfl, rfl⟩
theorem iX2_finals_28 : xl_D mX2_finals 28 (.new 128) 3 31 := ⟨by decide +kernel, rfl⟩
theorem iX2_finals_31 : xl_D mX2_finals 31 (.dup) 1 32 := ⟨by decide +kernel, rfl⟩
theorem iX2_finals_32 : xl_D mX2_finals 32 (.invokespecial 130) 3 35 := ⟨by decide +kernel, rfl⟩
theorem iX2_finals_35 : xl_D mX2_finals 35 (.athrow) 1 36 := ⟨by decide +kernel, rfl⟩
theorem iX2_finals_36 : xl_D mX2_finals 36 (.aload_n 0) 1 37 := ⟨by decide +kernel, rfl⟩
theorem iX2_finals_37 : xl_G mX2_finals 37 2 0 40 := ⟨10, by decide +kernel, rfl, fX2_10⟩
theorem iX2_finals_40 : xl_G mX2_finals 40 1 13 43 := ⟨177, by decide +kernel, rfl, fX2_177⟩
theorem iX2_finals_43 : xl_D mX2_finals 43 (.iload_n 1) 1 44 := ⟨by decide +kernel, rfl⟩
theorem iX2_finals_44 : xl_D mX2_finals 44 (.bipush 40) 2 46 := ⟨by decide +kernel, rfl⟩
theorem iX2_finals_46 : xl_D mX2_finals 46 (.irem) 1 47 := ⟨by decide +kernel, rfl⟩
theorem iX2_finals_47 : xl_D mX2_finals 47 (.iload_n 2) 1 48 := ⟨by decide +kernel, rfl⟩
theorem iX2_finals_48 : xl_Cs mX2_finals 48 mX2_shifted 51 := ⟨141, by decide +kernel, rfl, lX2_141, Nat.le_of_ble_eq_true rfl, Nat.le_of_ble_eq_true rfl⟩
theorem iX2_finals_51 : xl_D mX2_finals 51 (.ireturn) 1 52 := ⟨by decide +kernel, rfl⟩
theorem iX2_kinds_0 : xl_D mX2_kinds 0 (.iload_n 1) 1 1 := ⟨by decide +kernel, rfl⟩
theorem iX2_kinds_1 : xl_Cs mX2_kinds 1 mX2_isKey 4 := ⟨145, by decide +kernel, rfl, lX2_145, Nat.le_of_ble_eq_true rfl, Nat.le_of_ble_eq_true rfl⟩
theorem iX2_kinds_4 : xl_J mX2_kinds 4 (fun o => .ifCond .ne o) 7 9 := ⟨5, by decide +kernel, rfl, rfl⟩
theorem iX2_kinds_7 : xl_D mX2_kinds 7 (.iconst (-1)) 1 8 := ⟨by decide +kernel, rfl⟩
theorem iX2_kinds_8 : xl_D mX2_kinds 8 (.ireturn) 1 9 := ⟨by decide +kernel, rfl⟩
theorem iX2_kinds_9 : xl_D mX2_kinds 9 (.iconst 0) 1 10 := ⟨by decide +kernel, rfl⟩
theorem iX2_kinds_10 : xl_D mX2_kinds 10 (.istore_n 2) 1 11 := ⟨by decide +kernel, rfl⟩
theorem iX2_kinds_11 : xl_D mX2_kinds 11 (.aload_n 0) 1 12 := ⟨by decide +kernel, rfl⟩
theorem iX2_kinds_12 : xl_Ca mX2_kinds 12 mX2_tellNothing 15 := ⟨180, by decide +kernel, rfl, lX2_180, Nat.le_of_ble_eq_true rfl, Nat.le_of_ble_eq_true rfl⟩
theorem iX2_kinds_15 : xl_D mX2_kinds 15 (.iconst 0) 1 16 := ⟨by decide +kernel, rfl⟩
theorem iX2_kinds_16 : xl_D mX2_kinds 16 (.istore_n 3) 1 17 := ⟨by decide +kernel, rfl⟩
theorem iX2_kinds_17 : xl_D mX2_kinds 17 (.iload_n 3) 1 18 := ⟨by decide +kernel, rfl⟩
theorem iX2_kinds_18 : xl_D mX2_kinds 18 (.iconst 4) 1 19 := ⟨by decide +kernel, rfl⟩
theorem iX2_kinds_19 : xl_J mX2_kinds 19 (fun o => .if_icmp .ge o) 22 54 := ⟨35, by decide +kernel, rfl, rfl⟩
theorem iX2_kinds_22 : xl_D mX2_kinds 22 (.aload_n 0) 1 23 := ⟨by decide +kernel, rfl⟩
theorem iX2_kinds_23 : xl_G mX2_kinds 23 2 0 26 := ⟨10, by decide +kernel, rfl, fX2_10⟩
theorem iX2_kinds_26 : xl_G mX2_kinds 26 1 15 29 := ⟨167, by decide +kernel, rfl, fX2_167⟩
theorem iX2_kinds_29 : xl_D mX2_kinds 29 (.iload_n 1) 1 30 := ⟨by decide +kernel, rfl⟩
theorem iX2_kinds_30 : xl_D mX2_kinds 30 (.iload_n 3) 1 31 := ⟨by decide +kernel, rfl⟩
theorem iX2_kinds_31 : xl_Ca mX2_kinds 31 mX0_get 34 := ⟨67, by decide +kernel, rfl, lX2_67, Nat.le_of_ble_eq_true rfl, Nat.le_of_ble_eq_true rfl⟩
theorem iX2_kinds_34 : xl_D mX2_kinds 34 (.istore 4) 2 36 := ⟨by decide +kernel, rfl⟩
theorem iX2_kinds_36 : xl_D mX2_kinds 36 (.iload_n 2) 1 37 := ⟨by decide +kernel, rfl⟩
theorem iX2_kinds_37 : xl_D mX2_kinds 37 (.iload 4) 2 39 := ⟨by decide +kernel, rfl⟩
theorem iX2_kinds_39 : xl_D mX2_kinds 39 (.iadd) 1 40 := ⟨by decide +kernel, rfl⟩
theorem iX2_kinds_40 : xl_D mX2_kinds 40 (.istore_n 2) 1 41 := ⟨by decide +kernel, rfl⟩
theorem iX2_kinds_41 : xl_D mX2_kinds 41 (.aload_n 0) 1 42 := ⟨by decide +kernel, rfl⟩
theorem iX2_kinds_42 : xl_D mX2_kinds 42 (.iload 4) 2 44 := ⟨by decide +kernel, rfl⟩
theorem iX2_kinds_44 : xl_D mX2_kinds 44 (.i2l) 1 45 := ⟨by decide +kernel, rfl⟩
theorem iX2_kinds_45 : xl_Ca mX2_kinds 45 mX2_tellMore 48 := ⟨183, by decide +kernel, rfl, lX2_183, Nat.le_of_ble_eq_true rfl, Nat.le_of_ble_eq_true rfl⟩
theorem iX2_kinds_48 : xl_D mX2_kinds 48 (.iinc 3 1) 3 51 := ⟨by decide +kernel, rfl⟩
theorem iX2_kinds_51 : xl_J mX2_kinds 51 (fun o => .goto o) 54 17 := ⟨-34, by decide +kernel, rfl, rfl⟩
theorem iX2_kinds_54 : xl_D mX2_kinds 54 (.aload_n 0) 1 55 := ⟨by decide +kernel, rfl⟩
theorem iX2_kinds_55 : xl_G mX2_kinds 55 2 0 58 := ⟨10, by decide +kernel, rfl, fX2_10⟩
theorem iX2_kinds_58 : xl_G mX2_kinds 58 1 15 61 := ⟨167, by decide +kernel, rfl, fX2_167⟩
theorem iX2_kinds_61 : xl_D mX2_kinds 61 (.iload_n 1) 1 62 := ⟨by decide +kernel, rfl⟩
theorem iX2_kinds_62 : xl_D mX2_kinds 62 (.iconst 4) 1 63 := ⟨by decide +kernel, rfl⟩
theorem iX2_kinds_63 : xl_Ca mX2_kinds 63 mX0_get 66 := ⟨67, by decide +kernel, rfl, lX2_67, Nat.le_of_ble_eq_true rfl, Nat.le_of_ble_eq_true rfl⟩
theorem iX2_kinds_66 : xl_D mX2_kinds 66 (.istore_n 3) 1 67 := ⟨by decide +kernel, rfl⟩
theorem iX2_kinds_67 : xl_D mX2_kinds 67 (.iconst 0) 1 68 := ⟨by decide +kernel, rfl⟩
theorem iX2_kinds_68 : xl_D mX2_kinds 68 (.istore 4) 2 70 := ⟨by decide +kernel, rfl⟩
theorem iX2_kinds_70 : xl_D mX2_kinds 70 (.iload 4) 2 72 := ⟨by decide +kernel, rfl⟩
theorem iX2_kinds_72 : xl_D mX2_kinds 72 (.aload_n 0) 1 73 := ⟨by decide +kernel, rfl⟩
theorem iX2_kinds_73 : xl_G mX2_kinds 73 2 0 76 := ⟨10, by decide +kernel, rfl, fX2_10⟩
theorem iX2_kinds_76 : xl_G mX2_kinds 76 1 11 79 := ⟨131, by decide +kernel, rfl, fX2_131⟩
theorem iX2_kinds_79 : xl_G mX2_kinds 79 0 3 82 := ⟨76, by decide +kernel, rfl, fX2_76⟩
theorem iX2_kinds_82 : xl_J mX2_kinds 82 (fun o => .if_icmp .ge o) 85 123 := ⟨41, by decide +kernel, rfl, rfl⟩
theorem iX2_kinds_85 : xl_D mX2_kinds 85 (.aload_n 0) 1 86 := ⟨by decide +kernel, rfl⟩
theorem iX2_kinds_86 : xl_G mX2_kinds 86 2 0 89 := ⟨10, by decide +kernel, rfl, fX2_10⟩
theorem iX2_kinds_89 : xl_G mX2_kinds 89 1 11 92 := ⟨131, by decide +kernel, rfl, fX2_131⟩
theorem iX2_kinds_92 : xl_D mX2_kinds 92 (.iload 4) 2 94 := ⟨by decide +kernel, rfl⟩
theorem iX2_kinds_94 : xl_D mX2_kinds 94 (.iconst 0) 1 95 := ⟨by decide +kernel, rfl⟩
theorem iX2_kinds_95 : xl_Ca mX2_kinds 95 mX0_get 98 := ⟨67, by decide +kernel, rfl, lX2_67, Nat.le_of_ble_eq_true rfl, Nat.le_of_ble_eq_true rfl⟩
theorem iX2_kinds_98 : xl_D mX2_kinds 98 (.iload_n 1) 1 99 := ⟨by decide +kernel, rfl⟩
theorem iX2_kinds_99 : xl_J mX2_kinds 99 (fun o => .if_icmp .ne o) 102 117 := ⟨18, by decide +kernel, rfl, rfl⟩
theorem iX2_kinds_102 : xl_D mX2_kinds 102 (.aload_n 0) 1 103 := ⟨by decide +kernel, rfl⟩
theorem iX2_kinds_103 : xl_G mX2_kinds 103 2 0 106 := ⟨10, by decide +kernel, rfl, fX2_10⟩
theorem iX2_kinds_106 : xl_D mX2_kinds 106 (.iload 4) 2 108 := ⟨by decide +kernel, rfl⟩
theorem iX2_kinds_108 : xl_Ca mX2_kinds 108 mX1_hasResult 111 := ⟨138, by decide +kernel, rfl, lX2_138, Nat.le_of_ble_eq_true rfl, Nat.le_of_ble_eq_true rfl⟩
theorem iX2_kinds_111 : xl_J mX2_kinds 111 (fun o => .ifCond .eq o) 114 117 := ⟨6, by decide +kernel, rfl, rfl⟩
theorem iX2_kinds_114 : xl_D mX2_kinds 114 (.iinc 3 1) 3 117 := ⟨by decide +kernel, rfl⟩
theorem iX2_kinds_117 : xl_D mX2_kinds 117 (.iinc 4 1) 3 120 := ⟨by decide +kernel, rfl⟩
theorem iX2_kinds_120 : xl_J mX2_kinds 120 (fun o => .goto o) 123 70 := ⟨-50, by decide +kernel, rfl, rfl⟩
theorem iX2_kinds_123 : xl_D mX2_kinds 123 (.aload_n 0) 1 124 := ⟨by decide +kernel, rfl⟩
theorem iX2_kinds_124 : xl_D mX2_kinds 124 (.iload_n 3) 1 125 := ⟨by decide +kernel, rfl⟩
theorem iX2_kinds_125 : xl_D mX2_kinds 125 (.i2l) 1 126 := ⟨by decide +kernel, rfl⟩
theorem iX2_kinds_126 : xl_Ca mX2_kinds 126 mX2_tellMore 129 := ⟨183, by decide +kernel, rfl, lX2_183, Nat.le_of_ble_eq_true rfl, Nat.le_of_ble_eq_true rfl⟩
theorem iX2_kinds_129 : xl_D mX2_kinds 129 (.iload_n 2) 1 130 := ⟨by decide +kernel, rfl⟩
theorem iX2_kinds_130 : xl_D mX2_kinds 130 (.ireturn) 1 131 := ⟨by decide +kernel, rfl⟩
theorem iX2_slow_0 : xl_D mX2_slow 0 (.iconst (-1)) 1 1 := ⟨by decide +kernel, rfl⟩
theorem iX2_slow_1 : xl_D mX2_slow 1 (.istore_n 1) 1 2 := ⟨by decide +kernel, rfl⟩
theorem iX2_slow_2 : xl_D mX2_slow 2 (.iconst 0) 1 3 := ⟨by decide +kernel, rfl⟩
theorem iX2_slow_3 : xl_D mX2_slow 3 (.istore_n 2) 1 4 := ⟨by decide +kernel, rfl⟩
theorem iX2_slow_4 : xl_D mX2_slow 4 (.iconst 0) 1 5 := ⟨by decide +kernel, rfl⟩
theorem iX2_slow_5 : xl_D mX2_slow 5 (.istore_n 3) 1 6 := ⟨by decide +kernel, rfl⟩
theorem iX2_slow_6 : xl_D mX2_slow 6 (.iload_n 3) 1 7 := ⟨by decide +kernel, rfl⟩
theorem iX2_slow_7 : xl_D mX2_slow 7 (.aload_n 0) 1 8 := ⟨by decide +kernel, rfl⟩
theorem iX2_slow_8 : xl_G mX2_slow 8 2 0 11 := ⟨10, by decide +kernel, rfl, fX2_10⟩
theorem iX2_slow_11 : xl_G mX2_slow 11 1 10 14 := ⟨63, by decide +kernel, rfl, fX2_63⟩
theorem iX2_slow_14 : xl_G mX2_slow 14 0 3 17 := ⟨76, by decide +kernel, rfl, fX2_76⟩
theorem iX2_slow_17 : xl_J mX2_slow 17 (fun o => .if_icmp .ge o) 20 55 := ⟨38, by decide +kernel, rfl, rfl⟩
theorem iX2_slow_20 : xl_D mX2_slow 20 (.aload_n 0) 1 21 := ⟨by decide +kernel, rfl⟩
theorem iX2_slow_21 : xl_G mX2_slow 21 2 0 24 := ⟨10, by decide +kernel, rfl, fX2_10⟩
theorem iX2_slow_24 : xl_D mX2_slow 24 (.iload_n 3) 1 25 := ⟨by decide +kernel, rfl⟩
theorem iX2_slow_25 : xl_Ca mX2_slow 25 mX1_leastMark 28 := ⟨186, by decide +kernel, rfl, lX2_186, Nat.le_of_ble_eq_true rfl, Nat.le_of_ble_eq_true rfl⟩
theorem iX2_slow_28 : xl_D mX2_slow 28 (.aload_n 0) 1 29 := ⟨by decide +kernel, rfl⟩
theorem iX2_slow_29 : xl_G mX2_slow 29 2 0 32 := ⟨10, by decide +kernel, rfl, fX2_10⟩
theorem iX2_slow_32 : xl_G mX2_slow 32 1 3 35 := ⟨93, by decide +kernel, rfl, fX2_93⟩
theorem iX2_slow_35 : xl_D mX2_slow 35 (.isub) 1 36 := ⟨by decide +kernel, rfl⟩
theorem iX2_slow_36 : xl_D mX2_slow 36 (.istore 4) 2 38 := ⟨by decide +kernel, rfl⟩
theorem iX2_slow_38 : xl_D mX2_slow 38 (.iload 4) 2 40 := ⟨by decide +kernel, rfl⟩
theorem iX2_slow_40 : xl_D mX2_slow 40 (.iload_n 2) 1 41 := ⟨by decide +kernel, rfl⟩
theorem iX2_slow_41 : xl_J mX2_slow 41 (fun o => .if_icmp .le o) 44 49 := ⟨8, by decide +kernel, rfl, rfl⟩
theorem iX2_slow_44 : xl_D mX2_slow 44 (.iload 4) 2 46 := ⟨by decide +kernel, rfl⟩
theorem iX2_slow_46 : xl_D mX2_slow 46 (.istore_n 2) 1 47 := ⟨by decide +kernel, rfl⟩
theorem iX2_slow_47 : xl_D mX2_slow 47 (.iload_n 3) 1 48 := ⟨by decide +kernel, rfl⟩
theorem iX2_slow_48 : xl_D mX2_slow 48 (.istore_n 1) 1 49 := ⟨by decide +kernel, rfl⟩
theorem iX2_slow_49 : xl_D mX2_slow 49 (.iinc 3 1) 3 52 := ⟨by decide +kernel, rfl⟩
theorem iX2_slow_52 : xl_J mX2_slow 52 (fun o => .goto o) 55 6 := ⟨-46, by decide +kernel, rfl, rfl⟩
theorem iX2_slow_55 : xl_D mX2_slow 55 (.iload_n 1) 1 56 := ⟨by decide +kernel, rfl⟩
theorem iX2_slow_56 : xl_J mX2_slow 56 (fun o => .ifCond .ge o) 59 62 := ⟨6, by decide +kernel, rfl, rfl⟩
theorem iX2_slow_59 : xl_D mX2_slow 59 (.bipush (-2)) 2 61 := ⟨by decide +kernel, rfl⟩
theorem iX2_slow_61 : xl_D mX2_slow 61 (.ireturn) 1 62 := ⟨by decide +kernel, rfl⟩
theorem iX2_slow_62 : xl_D mX2_slow 62 (.aload_n 0) 1 63 := ⟨by decide +kernel, rfl⟩
theorem iX2_slow_63 : xl_D mX2_slow 63 (.iload_n 2) 1 64 := ⟨by decide +kernel, rfl⟩
theorem iX2_slow_64 : xl_D mX2_slow 64 (.i2l) 1 65 := ⟨by decide +kernel, rfl⟩
theorem iX2_slow_65 : xl_D mX2_slow 65 (.aload_n 0) 1 66 := ⟨by decide +kernel, rfl⟩
theorem iX2_slow_66 : xl_G mX2_slow 66 2 0 69 := ⟨10, by decide +kernel, rfl, fX2_10⟩
theorem iX2_slow_69 : xl_D mX2_slow 69 (.aload_n 0) 1 70 := ⟨by decide +kernel, rfl⟩
theorem iX2_slow_70 : xl_G mX2_slow 70 2 0 73 := ⟨10, by decide +kernel, rfl, fX2_10⟩
theorem iX2_slow_73 : xl_G mX2_slow 73 1 3 76 := ⟨93, by decide +kernel, rfl, fX2_93⟩
theorem iX2_slow_76 : xl_D mX2_slow 76 (.iload_n 2) 1 77 := ⟨by decide +kernel, rfl⟩
theorem iX2_slow_77 : xl_D mX2_slow 77 (.iadd) 1 78 := ⟨by decide +kernel, rfl⟩
theorem iX2_slow_78 : xl_Ca mX2_slow 78 mX1_ripening 81 := ⟨189, by decide +kernel, rfl, lX2_189, Nat.le_of_ble_eq_true rfl, Nat.le_of_ble_eq_true rfl⟩
theorem iX2_slow_81 : xl_D mX2_slow 81 (.i2l) 1 82 := ⟨by decide +kernel, rfl⟩
theorem iX2_slow_82 : xl_Ca mX2_slow 82 mX2_tellTwo 85 := ⟨96, by decide +kernel, rfl, lX2_96, Nat.le_of_ble_eq_true rfl, Nat.le_of_ble_eq_true rfl⟩
theorem iX2_slow_85 : xl_D mX2_slow 85 (.iload_n 1) 1 86 := ⟨by decide +kernel, rfl⟩
theorem iX2_slow_86 : xl_D mX2_slow 86 (.ireturn) 1 87 := ⟨by decide +kernel, rfl⟩
theorem iX2_span_0 : xl_D mX2_span 0 (.iload_n 1) 1 1 := ⟨by decide +kernel, rfl⟩
theorem iX2_span_1 : xl_Cs mX2_span 1 mX2_isTime 4 := ⟨148, by decide +kernel, rfl, lX2_148, Nat.le_of_ble_eq_true rfl, Nat.le_of_ble_eq_true rfl⟩
theorem iX2_span_4 : xl_J mX2_span 4 (fun o => .ifCond .eq o) 7 19 := ⟨15, by decide +kernel, rfl, rfl⟩
theorem iX2_span_7 : xl_D mX2_span 7 (.iload_n 2) 1 8 := ⟨by decide +kernel, rfl⟩
theorem iX2_span_8 : xl_Cs mX2_span 8 mX2_isTime 11 := ⟨148, by decide +kernel, rfl, lX2_148, Nat.le_of_ble_eq_true rfl, Nat.le_of_ble_eq_true rfl⟩
theorem iX2_span_11 : xl_J mX2_span 11 (fun o => .ifCond .eq o) 14 19 := ⟨8, by decide +kernel, rfl, rfl⟩
theorem iX2_span_14 : xl_D mX2_span 14 (.iload_n 2) 1 15 := ⟨by decide +kernel, rfl⟩
theorem iX2_span_15 : xl_D mX2_span 15 (.iload_n 1) 1 16 := ⟨by decide +kernel, rfl⟩
theorem iX2_span_16 : xl_J mX2_span 16 (fun o => .if_icmp .ge o) 19 21 := ⟨5, by decide +kernel, rfl, rfl⟩
theorem iX2_span_19 : xl_D mX2_span 19 (.iconst (-1)) 1 20 := ⟨by decide +kernel, rfl⟩
theorem iX2_span_20 : xl_D mX2_span 20 (.ireturn) 1 21 := ⟨by decide +kernel, rfl⟩
theorem iX2_span_21 : xl_D mX2_span 21 (.iconst 0) 1 22 := ⟨by decide +kernel, rfl⟩
theorem iX2_span_22 : xl_D mX2_span 22 (.istore_n 3) 1 23 := ⟨by decide +kernel, rfl⟩
theorem iX2_span_23 : xl_D mX2_span 23 (.iconst 0) 1 24 := ⟨by decide +kernel, rfl⟩
theorem iX2_span_24 : xl_D mX2_span 24 (.istore 4) 2 26 := ⟨by decide +kernel, rfl⟩
theorem iX2_span_26 : xl_D mX2_span 26 (.iconst (-1)) 1 27 := ⟨by decide +kernel, rfl⟩
theorem iX2_span_27 : xl_D mX2_span 27 (.istore 5) 2 29 := ⟨by decide +kernel, rfl⟩
theorem iX2_span_29 : xl_D mX2_span 29 (.iconst 0) 1 30 := ⟨by decide +kernel, rfl⟩
theorem iX2_span_30 : xl_D mX2_span 30 (.istore 6) 2 32 := ⟨by decide +kernel, rfl⟩
theorem iX2_span_32 : xl_D mX2_span 32 (.iconst 0) 1 33 := ⟨by decide +kernel, rfl⟩
theorem iX2_span_33 : xl_D mX2_span 33 (.istore 7) 2 35 := ⟨by decide +kernel, rfl⟩
theorem iX2_span_35 : xl_D mX2_span 35 (.iload 7) 2 37 := ⟨by decide +kernel, rfl⟩
theorem iX2_span_37 : xl_D mX2_span 37 (.bipush 6) 2 39 := ⟨by decide +kernel, rfl⟩
theorem iX2_span_39 : xl_J mX2_span 39 (fun o => .if_icmp .ge o) 42 157 := ⟨118, by decide +kernel, rfl, rfl⟩
theorem iX2_span_42 : xl_D mX2_span 42 (.iconst 0) 1 43 := ⟨by decide +kernel, rfl⟩
theorem iX2_span_43 : xl_D mX2_span 43 (.istore 8) 2 45 := ⟨by decide +kernel, rfl⟩
theorem iX2_span_45 : xl_D mX2_span 45 (.iconst 0) 1 46 := ⟨by decide +kernel, rfl⟩
theorem iX2_span_46 : xl_D mX2_span 46 (.istore 9) 2 48 := ⟨by decide +kernel, rfl⟩
theorem iX2_span_48 : xl_D mX2_span 48 (.iload 9) 2 50 := ⟨by decide +kernel, rfl⟩
theorem iX2_span_50 : xl_D mX2_span 50 (.aload_n 0) 1 51 := ⟨by decide +kernel, rfl⟩
theorem iX2_span_51 : xl_G mX2_span 51 2 0 54 := ⟨10, by decide +kernel, rfl, fX2_10⟩
theorem iX2_span_54 : xl_G mX2_span 54 1 14 57 := ⟨73, by decide +kernel, rfl, fX2_73⟩
theorem iX2_span_57 : xl_G mX2_span 57 0 3 60 := ⟨76, by decide +kernel, rfl, fX2_76⟩
theorem iX2_span_60 : xl_J mX2_span 60 (fun o => .if_icmp .ge o) 63 129 := ⟨69, by decide +kernel, rfl, rfl⟩
theorem iX2_span_63 : xl_D mX2_span 63 (.aload_n 0) 1 64 := ⟨by decide +kernel, rfl⟩
theorem iX2_span_64 : xl_G mX2_span 64 2 0 67 := ⟨10, by decide +kernel, rfl, fX2_10⟩
theorem iX2_span_67 : xl_G mX2_span 67 1 14 70 := ⟨73, by decide +kernel, rfl, fX2_73⟩
theorem iX2_span_70 : xl_D mX2_span 70 (.iload 9) 2 72 := ⟨by decide +kernel, rfl⟩
theorem iX2_span_72 : xl_D mX2_span 72 (.iconst 2) 1 73 := ⟨by decide +kernel, rfl⟩
theorem iX2_span_73 : xl_Ca mX2_span 73 mX0_get 76 := ⟨67, by decide +kernel, rfl, lX2_67, Nat.le_of_ble_eq_true rfl, Nat.le_of_ble_eq_true rfl⟩
theorem iX2_span_76 : xl_D mX2_span 76 (.istore 10) 2 78 := ⟨by decide +kernel, rfl⟩
theorem iX2_span_78 : xl_D mX2_span 78 (.aload_n 0) 1 79 := ⟨by decide +kernel, rfl⟩
theorem iX2_span_79 : xl_G mX2_span 79 2 0 82 := ⟨10, by decide +kernel, rfl, fX2_10⟩
theorem iX2_span_82 : xl_D mX2_span 82 (.iload 9) 2 84 := ⟨by decide +kernel, rfl⟩
theorem iX2_span_84 : xl_D mX2_span 84 (.iload 7) 2 86 := ⟨by decide +kernel, rfl⟩
theorem iX2_span_86 : xl_Ca mX2_span 86 mX1_isTakenOf 89 := ⟨192, by decide +kernel, rfl, lX2_192, Nat.le_of_ble_eq_true rfl, Nat.le_of_ble_eq_true rfl⟩
theorem iX2_span_89 : xl_J mX2_span 89 (fun o => .ifCond .eq o) 92 123 := ⟨34, by decide +kernel, rfl, rfl⟩
theorem iX2_span_92 : xl_D mX2_span 92 (.iload 10) 2 94 := ⟨by decide +kernel, rfl⟩
theorem iX2_span_94 : xl_D mX2_span 94 (.iload_n 1) 1 95 := ⟨by decide +kernel, rfl⟩
theorem iX2_span_95 : xl_J mX2_span 95 (fun o => .if_icmp .lt o) 98 123 := ⟨28, by decide +kernel, rfl, rfl⟩
theorem iX2_span_98 : xl_D mX2_span 98 (.iload 10) 2 100 := ⟨by decide +kernel, rfl⟩
theorem iX2_span_100 : xl_D mX2_span 100 (.iload_n 2) 1 101 := ⟨by decide +kernel, rfl⟩
theorem iX2_span_101 : xl_J mX2_span 101 (fun o => .if_icmp .gt o) 104 123 := ⟨22, by decide +kernel, rfl, rfl⟩
theorem iX2_span_104 : xl_D mX2_span 104 (.iinc 8 1) 3 107 := ⟨by decide +kernel, rfl⟩
theorem iX2_span_107 : xl_D mX2_span 107 (.iload_n 3) 1 108 := ⟨by decide +kernel, rfl⟩
theorem iX2_span_108 : xl_D mX2_span 108 (.aload_n 0) 1 109 := ⟨by decide +kernel, rfl⟩
theorem iX2_span_109 : xl_G mX2_span 109 2 0 112 := ⟨10, by decide +kernel, rfl, fX2_10⟩
theorem iX2_span_112 : xl_G mX2_span 112 1 14 115 := ⟨73, by decide +kernel, rfl, fX2_73⟩
theorem iX2_span_115 : xl_D mX2_span 115 (.iload 9) 2 117 := ⟨by decide +kernel, rfl⟩
theorem iX2_span_117 : xl_D mX2_span 117 (.iconst 4) 1 118 := ⟨by decide +kernel, rfl⟩
theorem iX2_span_118 : xl_Ca mX2_span 118 mX0_get 121 := ⟨67, by decide +kernel, rfl, lX2_67, Nat.le_of_ble_eq_true rfl, Nat.le_of_ble_eq_true rfl⟩
theorem iX2_span_121 : xl_D mX2_span 121 (.iadd) 1 122 := ⟨by decide +kernel, rfl⟩
theorem iX2_span_122 : xl_D mX2_span 122 (.istore_n 3) 1 123 := ⟨by decide +kernel, rfl⟩
theorem iX2_span_123 : xl_D mX2_span 123 (.iinc 9 1) 3 126 := ⟨by decide +kernel, rfl⟩
theorem iX2_span_126 : xl_J mX2_span 126 (fun o => .goto o) 129 48 := ⟨-78, by decide +kernel, rfl, rfl⟩
theorem iX2_span_129 : xl_D mX2_span 129 (.iload 4) 2 131 := ⟨by decide +kernel, rfl⟩
theorem iX2_span_131 : xl_D mX2_span 131 (.iload 8) 2 133 := ⟨by decide +kernel, rfl⟩
theorem iX2_span_133 : xl_D mX2_span 133 (.iadd) 1 134 := ⟨by decide +kernel, rfl⟩
theorem iX2_span_134 : xl_D mX2_span 134 (.istore 4) 2 136 := ⟨by decide +kernel, rfl⟩
theorem iX2_span_136 : xl_D mX2_span 136 (.iload 8) 2 138 := ⟨by decide +kernel, rfl⟩
theorem iX2_span_138 : xl_D mX2_span 138 (.iload 6) 2 140 := ⟨by decide +kernel, rfl⟩
theorem iX2_span_140 : xl_J mX2_span 140 (fun o => .if_icmp .le o) 143 151 := ⟨11, by decide +kernel, rfl, rfl⟩
theorem iX2_span_143 : xl_D mX2_span 143 (.iload 8) 2 145 := ⟨by decide +kernel, rfl⟩
theorem iX2_span_145 : xl_D mX2_span 145 (.istore 6) 2 147 := ⟨by decide +kernel, rfl⟩
theorem iX2_span_147 : xl_D mX2_span 147 (.iload 7) 2 149 := ⟨by decide +kernel, rfl⟩
theorem iX2_span_149 : xl_D mX2_span 149 (.istore 5) 2 151 := ⟨by decide +kernel, rfl⟩
theorem iX2_span_151 : xl_D mX2_span 151 (.iinc 7 1) 3 154 := ⟨by decide +kernel, rfl⟩
theorem iX2_span_154 : xl_J mX2_span 154 (fun o => .goto o) 157 35 := ⟨-119, by decide +kernel, rfl, rfl⟩
theorem iX2_span_157 : xl_D mX2_span 157 (.aload_n 0) 1 158 := ⟨by decide +kernel, rfl⟩
theorem iX2_span_158 : xl_D mX2_span 158 (.iload_n 3) 1 159 := ⟨by decide +kernel, rfl⟩
theorem iX2_span_159 : xl_D mX2_span 159 (.i2l) 1 160 := ⟨by decide +kernel, rfl⟩
theorem iX2_span_160 : xl_D mX2_span 160 (.iload 5) 2 162 := ⟨by decide +kernel, rfl⟩
theorem iX2_span_162 : xl_D mX2_span 162 (.i2l) 1 163 := ⟨by decide +kernel, rfl⟩
theorem iX2_span_163 : xl_D mX2_span 163 (.iload 6) 2 165 := ⟨by decide +kernel, rfl⟩
theorem iX2_span_165 : xl_D mX2_span 165 (.i2l) 1 166 := ⟨by decide +kernel, rfl⟩
theorem iX2_span_166 : xl_Ca mX2_span 166 mX2_tellThree 169 := ⟨170, by decide +kernel, rfl, lX2_170, Nat.le_of_ble_eq_true rfl, Nat.le_of_ble_eq_true rfl⟩
theorem iX2_span_169 : xl_D mX2_span 169 (.iload 4) 2 171 := ⟨by decide +kernel, rfl⟩
theorem iX2_span_171 : xl_D mX2_span 171 (.ireturn) 1 172 := ⟨by decide +kernel, rfl⟩
theorem iX2_taken_0 : xl_D mX2_taken 0 (.aload_n 0) 1 1 := ⟨by decide +kernel, rfl⟩
theorem iX2_taken_1 : xl_D mX2_taken 1 (.aload_n 0) 1 2 := ⟨by decide +kernel, rfl⟩
theorem iX2_taken_2 : xl_G mX2_taken 2 2 0 5 := ⟨10, by decide +kernel, rfl, fX2_10⟩
theorem iX2_taken_5 : xl_G mX2_taken 5 1 7 8 := ⟨195, by decide +kernel, rfl, fX2_195⟩
theorem iX2_taken_8 : xl_D mX2_taken 8 (.i2l) 1 9 := ⟨by decide +kernel, rfl⟩
theorem iX2_taken_9 : xl_D mX2_taken 9 (.aload_n 0) 1 10 := ⟨by decide +kernel, rfl⟩
theorem iX2_taken_10 : xl_G mX2_taken 10 2 0 13 := ⟨10, by decide +kernel, rfl, fX2_10⟩
theorem iX2_taken_13 : xl_G mX2_taken 13 1 8 16 := ⟨198, by decide +kernel, rfl, fX2_198⟩
theorem iX2_taken_16 : xl_D mX2_taken 16 (.i2l) 1 17 := ⟨by decide +kernel, rfl⟩
theorem iX2_taken_17 : xl_D mX2_taken 17 (.aload_n 0) 1 18 := ⟨by decide +kernel, rfl⟩
theorem iX2_taken_18 : xl_G mX2_taken 18 2 0 21 := ⟨10, by decide +kernel, rfl, fX2_10⟩
theorem iX2_taken_21 : xl_G mX2_taken 21 1 9 24 := ⟨201, by decide +kernel, rfl, fX2_201⟩
theorem iX2_taken_24 : xl_D mX2_taken 24 (.i2l) 1 25 := ⟨by decide +kernel, rfl⟩
theorem iX2_taken_25 : xl_Ca mX2_taken 25 mX2_tellThree 28 := ⟨170, by decide +kernel, rfl, lX2_170, Nat.le_of_ble_eq_true rfl, Nat.le_of_ble_eq_true rfl⟩
theorem iX2_taken_28 : xl_D mX2_taken 28 (.aload_n 0) 1 29 := ⟨by decide +kernel, rfl⟩
theorem iX2_taken_29 : xl_G mX2_taken 29 2 0 32 := ⟨10, by decide +kernel, rfl, fX2_10⟩
theorem iX2_taken_32 : xl_G mX2_taken 32 1 6 35 := ⟨204, by decide +kernel, rfl, fX2_204⟩
theorem iX2_taken_35 : xl_D mX2_taken 35 (.ireturn) 1 36 := ⟨by decide +kernel, rfl⟩
theorem iX2_holds_0 : xl_D mX2_holds 0 (.aload_n 0) 1 1 := ⟨by decide +kernel, rfl⟩
theorem iX2_holds_1 : xl_G mX2_holds 1 2 0 4 := ⟨10, by decide +kernel, rfl, fX2_10⟩
theorem iX2_holds_4 : xl_D mX2_holds 4 (.iconst (-1)) 1 5 := ⟨by decide +kernel, rfl⟩
theorem iX2_holds_5 : xl_Ca mX2_holds 5 mX1_leastMark 8 := ⟨186, by decide +kernel, rfl, lX2_186, Nat.le_of_ble_eq_true rfl, Nat.le_of_ble_eq_true rfl⟩
theorem iX2_holds_8 : xl_D mX2_holds 8 (.istore_n 1) 1 9 := ⟨by decide +kernel, rfl⟩
theorem iX2_holds_9 : xl_D mX2_holds 9 (.iconst 0) 1 10 := ⟨by decide +kernel, rfl⟩
theorem iX2_holds_10 : xl_D mX2_holds 10 (.istore_n 2) 1 11 := ⟨by decide +kernel, rfl⟩
theorem iX2_holds_11 : xl_D mX2_holds 11 (.iconst 0) 1 12 := ⟨by decide +kernel, rfl⟩
theorem iX2_holds_12 : xl_D mX2_holds 12 (.istore_n 3) 1 13 := ⟨by decide +kernel, rfl⟩
theorem iX2_holds_13 : xl_D mX2_holds 13 (.iconst 0) 1 14 := ⟨by decide +kernel, rfl⟩
theorem iX2_holds_14 : xl_D mX2_holds 14 (.istore 4) 2 16 := ⟨by decide +kernel, rfl⟩
theorem iX2_holds_16 : xl_D mX2_holds 16 (.iload 4) 2 18 := ⟨by decide +kernel, rfl⟩
theorem iX2_holds_18 : xl_D mX2_holds 18 (.aload_n 0) 1 19 := ⟨by decide +kernel, rfl⟩
theorem iX2_holds_19 : xl_G mX2_holds 19 2 0 22 := ⟨10, by decide +kernel, rfl, fX2_10⟩
theorem iX2_holds_22 : xl_G mX2_holds 22 1 10 25 := ⟨63, by decide +kernel, rfl, fX2_63⟩
theorem iX2_holds_25 : xl_G mX2_holds 25 0 3 28 := ⟨76, by decide +kernel, rfl, fX2_76⟩
theorem iX2_holds_28 : xl_J mX2_holds 28 (fun o => .if_icmp .ge o) 31 88 := ⟨60, by decide +kernel, rfl, rfl⟩
theorem iX2_holds_31 : xl_D mX2_holds 31 (.aload_n 0) 1 32 := ⟨by decide +kernel, rfl⟩
theorem iX2_holds_32 : xl_G mX2_holds 32 2 0 35 := ⟨10, by decide +kernel, rfl, fX2_10⟩
theorem iX2_holds_35 : xl_G mX2_holds 35 1 10 38 := ⟨63, by decide +kernel, rfl, fX2_63⟩
theorem iX2_holds_38 : xl_D mX2_holds 38 (.iload 4) 2 40 := ⟨by decide +kernel, rfl⟩
theorem iX2_holds_40 : xl_D mX2_holds 40 (.iconst 0) 1 41 := ⟨by decide +kernel, rfl⟩
theorem iX2_holds_41 : xl_Ca mX2_holds 41 mX0_get 44 := ⟨67, by decide +kernel, rfl, lX2_67, Nat.le_of_ble_eq_true rfl, Nat.le_of_ble_eq_true rfl⟩
theorem iX2_holds_44 : xl_D mX2_holds 44 (.istore 5) 2 46 := ⟨by decide +kernel, rfl⟩
theorem iX2_holds_46 : xl_D mX2_holds 46 (.iload_n 3) 1 47 := ⟨by decide +kernel, rfl⟩
theorem iX2_holds_47 : xl_D mX2_holds 47 (.iload 5) 2 49 := ⟨by decide +kernel, rfl⟩
theorem iX2_holds_49 : xl_Cm mX2_holds 49 Lib.Math.max.name Lib.Math.max.code 52 := ⟨207, by decide +kernel, rfl, lX2_207, xl_stmax, xl_iMath, xl_comax, Nat.le_of_ble_eq_true rfl, Nat.le_of_ble_eq_true rfl⟩
theorem iX2_holds_52 : xl_D mX2_holds 52 (.istore_n 3) 1 53 := ⟨by decide +kernel, rfl⟩
theorem iX2_holds_53 : xl_D mX2_holds 53 (.aload_n 0) 1 54 := ⟨by decide +kernel, rfl⟩
theorem iX2_holds_54 : xl_G mX2_holds 54 2 0 57 := ⟨10, by decide +kernel, rfl, fX2_10⟩
theorem iX2_holds_57 : xl_G mX2_holds 57 1 10 60 := ⟨63, by decide +kernel, rfl, fX2_63⟩
theorem iX2_holds_60 : xl_D mX2_holds 60 (.iload 4) 2 62 := ⟨by decide +kernel, rfl⟩
theorem iX2_holds_62 : xl_D mX2_holds 62 (.iconst 2) 1 63 := ⟨by decide +kernel, rfl⟩
theorem iX2_holds_63 : xl_Ca mX2_holds 63 mX0_get 66 := ⟨67, by decide +kernel, rfl, lX2_67, Nat.le_of_ble_eq_true rfl, Nat.le_of_ble_eq_true rfl⟩
theorem iX2_holds_66 : xl_J mX2_holds 66 (fun o => .ifCond .ne o) 69 82 := ⟨16, by decide +kernel, rfl, rfl⟩
theorem iX2_holds_69 : xl_D mX2_holds 69 (.iload 5) 2 71 := ⟨by decide +kernel, rfl⟩
theorem iX2_holds_71 : xl_D mX2_holds 71 (.iload_n 1) 1 72 := ⟨by decide +kernel, rfl⟩
theorem iX2_holds_72 : xl_J mX2_holds 72 (fun o => .if_icmp .ne o) 75 82 := ⟨10, by decide +kernel, rfl, rfl⟩
theorem iX2_holds_75 : xl_D mX2_holds 75 (.iload_n 2) 1 76 := ⟨by decide +kernel, rfl⟩
theorem iX2_holds_76 : xl_D mX2_holds 76 (.iconst 1) 1 77 := ⟨by decide +kernel, rfl⟩
theorem iX2_holds_77 : xl_D mX2_holds 77 (.iload 4) 2 79 := ⟨by decide +kernel, rfl⟩
theorem iX2_holds_79 : xl_D mX2_holds 79 (.ishl) 1 80 := ⟨by decide +kernel, rfl⟩
theorem iX2_holds_80 : xl_D mX2_holds 80 (.ior) 1 81 := ⟨by decide +kernel, rfl⟩
theorem iX2_holds_81 : xl_D mX2_holds 81 (.istore_n 2) 1 82 := ⟨by decide +kernel, rfl⟩
theorem iX2_holds_82 : xl_D mX2_holds 82 (.iinc 4 1) 3 85 := ⟨by decide +kernel, rfl⟩
theorem iX2_holds_85 : xl_J mX2_holds 85 (fun o => .goto o) 88 16 := ⟨-69, by decide +kernel, rfl, rfl⟩
theorem iX2_holds_88 : xl_D mX2_holds 88 (.aload_n 0) 1 89 := ⟨by decide +kernel, rfl⟩
theorem iX2_holds_89 : xl_D mX2_holds 89 (.iload_n 1) 1 90 := ⟨by decide +kernel, rfl⟩
theorem iX2_holds_90 : xl_D mX2_holds 90 (.i2l) 1 91 := ⟨by decide +kernel, rfl⟩
theorem iX2_holds_91 : xl_D mX2_holds 91 (.iload_n 3) 1 92 := ⟨by decide +kernel, rfl⟩
theorem iX2_holds_92 : xl_D mX2_holds 92 (.aload_n 0) 1 93 := ⟨by decide +kernel, rfl⟩
theorem iX2_holds_93 : xl_G mX2_holds 93 2 0 96 := ⟨10, by decide +kernel, rfl, fX2_10⟩
theorem iX2_holds_96 : xl_G mX2_holds 96 1 3 99 := ⟨93, by decide +kernel, rfl, fX2_93⟩
theorem iX2_holds_99 : xl_D mX2_holds 99 (.isub) 1 100 := ⟨by decide +kernel, rfl⟩
theorem iX2_holds_100 : xl_D mX2_holds 100 (.i2l) 1 101 := ⟨by decide +kernel, rfl⟩
theorem iX2_holds_101 : xl_Ca mX2_holds 101 mX2_tellTwo 104 := ⟨96, by decide +kernel, rfl, lX2_96, Nat.le_of_ble_eq_true rfl, Nat.le_of_ble_eq_true rfl⟩
theorem iX2_holds_104 : xl_D mX2_holds 104 (.iload_n 2) 1 105 := ⟨by decide +kernel, rfl⟩
theorem iX2_holds_105 : xl_D mX2_holds 105 (.ireturn) 1 106 := ⟨by decide +kernel, rfl⟩
theorem iX2_next_0 : xl_D mX2_next 0 (.iconst (-1)) 1 1 := ⟨by decide +kernel, rfl⟩
theorem iX2_next_1 : xl_D mX2_next 1 (.istore_n 1) 1 2 := ⟨by decide +kernel, rfl⟩
theorem iX2_next_2 : xl_D mX2_next 2 (.iconst 0) 1 3 := ⟨by decide +kernel, rfl⟩
theorem iX2_next_3 : xl_D mX2_next 3 (.istore_n 2) 1 4 := ⟨by decide +kernel, rfl⟩
theorem iX2_next_4 : xl_D mX2_next 4 (.iconst 0) 1 5 := ⟨by decide +kernel, rfl⟩
theorem iX2_next_5 : xl_D mX2_next 5 (.istore_n 3) 1 6 := ⟨by decide +kernel, rfl⟩
theorem iX2_next_6 : xl_D mX2_next 6 (.iload_n 3) 1 7 := ⟨by decide +kernel, rfl⟩
theorem iX2_next_7 : xl_D mX2_next 7 (.aload_n 0) 1 8 := ⟨by decide +kernel, rfl⟩
theorem iX2_next_8 : xl_G mX2_next 8 2 0 11 := ⟨10, by decide +kernel, rfl, fX2_10⟩
theorem iX2_next_11 : xl_G mX2_next 11 1 11 14 := ⟨131, by decide +kernel, rfl, fX2_131⟩
theorem iX2_next_14 : xl_G mX2_next 14 0 3 17 := ⟨76, by decide +kernel, rfl, fX2_76⟩
theorem iX2_next_17 : xl_J mX2_next 17 (fun o => .if_icmp .ge o) 20 73 := ⟨56, by decide +kernel, rfl, rfl⟩
theorem iX2_next_20 : xl_D mX2_next 20 (.aload_n 0) 1 21 := ⟨by decide +kernel, rfl⟩
theorem iX2_next_21 : xl_G mX2_next 21 2 0 24 := ⟨10, by decide +kernel, rfl, fX2_10⟩
theorem iX2_next_24 : xl_G mX2_next 24 1 11 27 := ⟨131, by decide +kernel, rfl, fX2_131⟩
theorem iX2_next_27 : xl_D mX2_next 27 (.iload_n 3) 1 28 := ⟨by decide +kernel, rfl⟩
theorem iX2_next_28 : xl_D mX2_next 28 (.iconst 2) 1 29 := ⟨by decide +kernel, rfl⟩
theorem iX2_next_29 : xl_Ca mX2_next 29 mX0_get 32 := ⟨67, by decide +kernel, rfl, lX2_67, Nat.le_of_ble_eq_true rfl, Nat.le_of_ble_eq_true rfl⟩
theorem iX2_next_32 : xl_D mX2_next 32 (.istore 4) 2 34 := ⟨by decide +kernel, rfl⟩
theorem iX2_next_34 : xl_D mX2_next 34 (.aload_n 0) 1 35 := ⟨by decide +kernel, rfl⟩
theorem iX2_next_35 : xl_G mX2_next 35 2 0 38 := ⟨10, by decide +kernel, rfl, fX2_10⟩
theorem iX2_next_38 : xl_D mX2_next 38 (.iload_n 3) 1 39 := ⟨by decide +kernel, rfl⟩
theorem iX2_next_39 : xl_D mX2_next 39 (.aload_n 0) 1 40 := ⟨by decide +kernel, rfl⟩
theorem iX2_next_40 : xl_G mX2_next 40 2 0 43 := ⟨10, by decide +kernel, rfl, fX2_10⟩
theorem iX2_next_43 : xl_G mX2_next 43 1 3 46 := ⟨93, by decide +kernel, rfl, fX2_93⟩
theorem iX2_next_46 : xl_Ca mX2_next 46 mX1_isRipe 49 := ⟨134, by decide +kernel, rfl, lX2_134, Nat.le_of_ble_eq_true rfl, Nat.le_of_ble_eq_true rfl⟩
theorem iX2_next_49 : xl_J mX2_next 49 (fun o => .ifCond .ne o) 52 67 := ⟨18, by decide +kernel, rfl, rfl⟩
theorem iX2_next_52 : xl_D mX2_next 52 (.iload_n 1) 1 53 := ⟨by decide +kernel, rfl⟩
theorem iX2_next_53 : xl_J mX2_next 53 (fun o => .ifCond .lt o) 56 62 := ⟨9, by decide +kernel, rfl, rfl⟩
theorem iX2_next_56 : xl_D mX2_next 56 (.iload 4) 2 58 := ⟨by decide +kernel, rfl⟩
theorem iX2_next_58 : xl_D mX2_next 58 (.iload_n 2) 1 59 := ⟨by decide +kernel, rfl⟩
theorem iX2_next_59 : xl_J mX2_next 59 (fun o => .if_icmp .ge o) 62 67 := ⟨8, by decide +kernel, rfl, rfl⟩
theorem iX2_next_62 : xl_D mX2_next 62 (.iload_n 3) 1 63 := ⟨by decide +kernel, rfl⟩
theorem iX2_next_63 : xl_D mX2_next 63 (.istore_n 1) 1 64 := ⟨by decide +kernel, rfl⟩
theorem iX2_next_64 : xl_D mX2_next 64 (.iload 4) 2 66 := ⟨by decide +kernel, rfl⟩
theorem iX2_next_66 : xl_D mX2_next 66 (.istore_n 2) 1 67 := ⟨by decide +kernel, rfl⟩
theorem iX2_next_67 : xl_D mX2_next 67 (.iinc 3 1) 3 70 := ⟨by decide +kernel, rfl⟩
theorem iX2_next_70 : xl_J mX2_next 70 (fun o => .goto o) 73 6 := ⟨-64, by decide +kernel, rfl, rfl⟩
theorem iX2_next_73 : xl_D mX2_next 73 (.iload_n 1) 1 74 := ⟨by decide +kernel, rfl⟩
theorem iX2_next_74 : xl_J mX2_next 74 (fun o => .ifCond .ge o) 77 80 := ⟨6, by decide +kernel, rfl, rfl⟩
theorem iX2_next_77 : xl_D mX2_next 77 (.bipush (-2)) 2 79 := ⟨by decide +kernel, rfl⟩
theorem iX2_next_79 : xl_D mX2_next 79 (.ireturn) 1 80 := ⟨by decide +kernel, rfl⟩
theorem iX2_next_80 : xl_D mX2_next 80 (.aload_n 0) 1 81 := ⟨by decide +kernel, rfl⟩
theorem iX2_next_81 : xl_D mX2_next 81 (.iload_n 2) 1 82 := ⟨by decide +kernel, rfl⟩
theorem iX2_next_82 : xl_D mX2_next 82 (.aload_n 0) 1 83 := ⟨by decide +kernel, rfl⟩
theorem iX2_next_83 : xl_G mX2_next 83 2 0 86 := ⟨10, by decide +kernel, rfl, fX2_10⟩
theorem iX2_next_86 : xl_G mX2_next 86 1 0 89 := ⟨212, by decide +kernel, rfl, fX2_212⟩
theorem iX2_next_89 : xl_D mX2_next 89 (.iadd) 1 90 := ⟨by decide +kernel, rfl⟩
theorem iX2_next_90 : xl_D mX2_next 90 (.iconst 1) 1 91 := ⟨by decide +kernel, rfl⟩
theorem iX2_next_91 : xl_D mX2_next 91 (.iadd) 1 92 := ⟨by decide +kernel, rfl⟩
theorem iX2_next_92 : xl_D mX2_next 92 (.aload_n 0) 1 93 := ⟨by decide +kernel, rfl⟩
theorem iX2_next_93 : xl_G mX2_next 93 2 0 96 := ⟨10, by decide +kernel, rfl, fX2_10⟩
theorem iX2_next_96 : xl_G mX2_next 96 1 3 99 := ⟨93, by decide +kernel, rfl, fX2_93⟩
theorem iX2_next_99 : xl_D mX2_next 99 (.isub) 1 100 := ⟨by decide +kernel, rfl⟩
theorem iX2_next_100 : xl_D mX2_next 100 (.i2l) 1 101 := ⟨by decide +kernel, rfl⟩
theorem iX2_next_101 : xl_Ca mX2_next 101 mX2_tellOne 104 := ⟨118, by decide +kernel, rfl, lX2_118, Nat.le_of_ble_eq_true rfl, Nat.le_of_ble_eq_true rfl⟩
theorem iX2_next_104 : xl_D mX2_next 104 (.iload_n 1) 1 105 := ⟨by decide +kernel, rfl⟩
theorem iX2_next_105 : xl_D mX2_next 105 (.ireturn) 1 106 := ⟨by decide +kernel, rfl⟩
theorem iX2_ahead_0 : xl_D mX2_ahead 0 (.iload_n 1) 1 1 := ⟨by decide +kernel, rfl⟩
theorem iX2_ahead_1 : xl_J mX2_ahead 1 (fun o => .ifCond .lt o) 4 11 := ⟨10, by decide +kernel, rfl, rfl⟩
theorem iX2_ahead_4 : xl_D mX2_ahead 4 (.iload_n 1) 1 5 := ⟨by decide +kernel, rfl⟩
theorem iX2_ahead_5 : xl_D mX2_ahead 5 (.sipush 20000) 3 8 := ⟨by decide +kernel, rfl⟩
theorem iX2_ahead_8 : xl_J mX2_ahead 8 (fun o => .if_icmp .le o) 11 13 := ⟨5, by decide +kernel, rfl, rfl⟩
theorem iX2_ahead_11 : xl_D mX2_ahead 11 (.iconst (-1)) 1 12 := ⟨by decide +kernel, rfl⟩
theorem iX2_ahead_12 : xl_D mX2_ahead 12 (.ireturn) 1 13 := ⟨by decide +kernel, rfl⟩
theorem iX2_ahead_13 : xl_D mX2_ahead 13 (.iload_n 1) 1 14 := ⟨by decide +kernel, rfl⟩
theorem iX2_ahead_14 : xl_D mX2_ahead 14 (.aload_n 0) 1 15 := ⟨by decide +kernel, rfl⟩
theorem iX2_ahead_15 : xl_G mX2_ahead 15 2 0 18 := ⟨10, by decide +kernel, rfl, fX2_10⟩
theorem iX2_ahead_18 : xl_G mX2_ahead 18 1 3 21 := ⟨93, by decide +kernel, rfl, fX2_93⟩
theorem iX2_ahead_21 : xl_J mX2_ahead 21 (fun o => .if_icmp .ge o) 24 27 := ⟨6, by decide +kernel, rfl, rfl⟩
theorem iX2_ahead_24 : xl_D mX2_ahead 24 (.bipush (-2)) 2 26 := ⟨by decide +kernel, rfl⟩
theorem iX2_ahead_26 : xl_D mX2_ahead 26 (.ireturn) 1 27 := ⟨by decide +kernel, rfl⟩
theorem iX2_ahead_27 : xl_D mX2_ahead 27 (.iconst 0) 1 28 := ⟨by decide +kernel, rfl⟩
theorem iX2_ahead_28 : xl_D mX2_ahead 28 (.istore_n 2) 1 29 := ⟨by decide +kernel, rfl⟩
theorem iX2_ahead_29 : xl_D mX2_ahead 29 (.iconst 0) 1 30 := ⟨by decide +kernel, rfl⟩
theorem iX2_ahead_30 : xl_D mX2_ahead 30 (.istore_n 3) 1 31 := ⟨by decide +kernel, rfl⟩
theorem iX2_ahead_31 : xl_D mX2_ahead 31 (.iload_n 3) 1 32 := ⟨by decide +kernel, rfl⟩
theorem iX2_ahead_32 : xl_D mX2_ahead 32 (.aload_n 0) 1 33 := ⟨by decide +kernel, rfl⟩
theorem iX2_ahead_33 : xl_G mX2_ahead 33 2 0 36 := ⟨10, by decide +kernel, rfl, fX2_10⟩
theorem iX2_ahead_36 : xl_G mX2_ahead 36 1 11 39 := ⟨131, by decide +kernel, rfl, fX2_131⟩
theorem iX2_ahead_39 : xl_G mX2_ahead 39 0 3 42 := ⟨76, by decide +kernel, rfl, fX2_76⟩
theorem iX2_ahead_42 : xl_J mX2_ahead 42 (fun o => .if_icmp .ge o) 45 66 := ⟨24, by decide +kernel, rfl, rfl⟩
theorem iX2_ahead_45 : xl_D mX2_ahead 45 (.aload_n 0) 1 46 := ⟨by decide +kernel, rfl⟩
theorem iX2_ahead_46 : xl_G mX2_ahead 46 2 0 49 := ⟨10, by decide +kernel, rfl, fX2_10⟩
theorem iX2_ahead_49 : xl_D mX2_ahead 49 (.iload_n 3) 1 50 := ⟨by decide +kernel, rfl⟩
theorem iX2_ahead_50 : xl_D mX2_ahead 50 (.iload_n 1) 1 51 := ⟨by decide +kernel, rfl⟩
theorem iX2_ahead_51 : xl_Ca mX2_ahead 51 mX1_isOver 54 := ⟨215, by decide +kernel, rfl, lX2_215, Nat.le_of_ble_eq_true rfl, Nat.le_of_ble_eq_true rfl⟩
theorem iX2_ahead_54 : xl_J mX2_ahead 54 (fun o => .ifCond .eq o) 57 60 := ⟨6, by decide +kernel, rfl, rfl⟩
theorem iX2_ahead_57 : xl_D mX2_ahead 57 (.iinc 2 1) 3 60 := ⟨by decide +kernel, rfl⟩
theorem iX2_ahead_60 : xl_D mX2_ahead 60 (.iinc 3 1) 3 63 := ⟨by decide +kernel, rfl⟩
theorem iX2_ahead_63 : xl_J mX2_ahead 63 (fun o => .goto o) 66 31 := ⟨-32, by decide +kernel, rfl, rfl⟩
theorem iX2_ahead_66 : xl_D mX2_ahead 66 (.aload_n 0) 1 67 := ⟨by decide +kernel, rfl⟩
theorem iX2_ahead_67 : xl_D mX2_ahead 67 (.iload_n 2) 1 68 := ⟨by decide +kernel, rfl⟩
theorem iX2_ahead_68 : xl_D mX2_ahead 68 (.i2l) 1 69 := ⟨by decide +kernel, rfl⟩
theorem iX2_ahead_69 : xl_Ca mX2_ahead 69 mX2_tellOne 72 := ⟨118, by decide +kernel, rfl, lX2_118, Nat.le_of_ble_eq_true rfl, Nat.le_of_ble_eq_true rfl⟩
theorem iX2_ahead_72 : xl_D mX2_ahead 72 (.aload_n 0) 1 73 := ⟨by decide +kernel, rfl⟩
theorem iX2_ahead_73 : xl_G mX2_ahead 73 2 0 76 := ⟨10, by decide +kernel, rfl, fX2_10⟩
theorem iX2_ahead_76 : xl_D mX2_ahead 76 (.iload_n 1) 1 77 := ⟨by decide +kernel, rfl⟩
theorem iX2_ahead_77 : xl_Ca mX2_ahead 77 mX1_ripening 80 := ⟨189, by decide +kernel, rfl, lX2_189, Nat.le_of_ble_eq_true rfl, Nat.le_of_ble_eq_true rfl⟩
theorem iX2_ahead_80 : xl_D mX2_ahead 80 (.ireturn) 1 81 := ⟨by decide +kernel, rfl⟩
theorem iX2_would_0 : xl_D mX2_would 0 (.aload_n 0) 1 1 := ⟨by decide +kernel, rfl⟩
theorem iX2_would_1 : xl_D mX2_would 1 (.iload_n 1) 1 2 := ⟨by decide +kernel, rfl⟩
theorem iX2_would_2 : xl_D mX2_would 2 (.iload_n 2) 1 3 := ⟨by decide +kernel, rfl⟩
theorem iX2_would_3 : xl_D mX2_would 3 (.iload_n 3) 1 4 := ⟨by decide +kernel, rfl⟩
theorem iX2_would_4 : xl_D mX2_would 4 (.iload 4) 2 6 := ⟨by decide +kernel, rfl⟩
theorem iX2_would_6 : xl_Ca mX2_would 6 mX2_isEvent 9 := ⟨218, by decide +kernel, rfl, lX2_218, Nat.le_of_ble_eq_true rfl, Nat.le_of_ble_eq_true rfl⟩
theorem iX2_would_9 : xl_J mX2_would 9 (fun o => .ifCond .ne o) 12 14 := ⟨5, by decide +kernel, rfl, rfl⟩
theorem iX2_would_12 : xl_D mX2_would 12 (.iconst (-1)) 1 13 := ⟨by decide +kernel, rfl⟩
theorem iX2_would_13 : xl_D mX2_would 13 (.ireturn) 1 14 := ⟨by decide +kernel, rfl⟩
theorem iX2_would_14 : xl_D mX2_would 14 (.aload_n 0) 1 15 := ⟨by decide +kernel, rfl⟩
theorem iX2_would_15 : xl_G mX2_would 15 2 0 18 := ⟨10, by decide +kernel, rfl, fX2_10⟩
theorem iX2_would_18 : xl_D mX2_would 18 (.iload_n 1) 1 19 := ⟨by decide +kernel, rfl⟩
theorem iX2_would_19 : xl_D mX2_would 19 (.iload_n 2) 1 20 := ⟨by decide +kernel, rfl⟩
theorem iX2_would_20 : xl_Ca mX2_would 20 mX1_firstTouched 23 := ⟨151, by decide +kernel, rfl, lX2_151, Nat.le_of_ble_eq_true rfl, Nat.le_of_ble_eq_true rfl⟩
theorem iX2_would_23 : xl_D mX2_would 23 (.istore 5) 2 25 := ⟨by decide +kernel, rfl⟩
theorem iX2_would_25 : xl_D mX2_would 25 (.aload_n 0) 1 26 := ⟨by decide +kernel, rfl⟩
theorem iX2_would_26 : xl_G mX2_would 26 2 1 29 := ⟨16, by decide +kernel, rfl, fX2_16⟩
theorem iX2_would_29 : xl_D mX2_would 29 (.aload_n 0) 1 30 := ⟨by decide +kernel, rfl⟩
theorem iX2_would_30 : xl_G mX2_would 30 2 0 33 := ⟨10, by decide +kernel, rfl, fX2_10⟩
theorem iX2_would_33 : xl_Ca mX2_would 33 mX1_copyFrom 36 := ⟨222, by decide +kernel, rfl, lX2_222, Nat.le_of_ble_eq_true rfl, Nat.le_of_ble_eq_true rfl⟩
theorem iX2_would_36 : xl_D mX2_would 36 (.aload_n 0) 1 37 := ⟨by decide +kernel, rfl⟩
theorem iX2_would_37 : xl_G mX2_would 37 2 1 40 := ⟨16, by decide +kernel, rfl, fX2_16⟩
theorem iX2_would_40 : xl_D mX2_would 40 (.iload_n 1) 1 41 := ⟨by decide +kernel, rfl⟩
theorem iX2_would_41 : xl_D mX2_would 41 (.iload_n 2) 1 42 := ⟨by decide +kernel, rfl⟩
theorem iX2_would_42 : xl_D mX2_would 42 (.iload_n 3) 1 43 := ⟨by decide +kernel, rfl⟩
theorem iX2_would_43 : xl_D mX2_would 43 (.iload 4) 2 45 := ⟨by decide +kernel, rfl⟩
theorem iX2_would_45 : xl_Ca mX2_would 45 mX1_playEvent 48 := ⟨226, by decide +kernel, rfl, lX2_226, Nat.le_of_ble_eq_true rfl, Nat.le_of_ble_eq_true rfl⟩
theorem iX2_would_48 : xl_D mX2_would 48 (.istore 6) 2 50 := ⟨by decide +kernel, rfl⟩
theorem iX2_would_50 : xl_D mX2_would 50 (.iload 6) 2 52 := ⟨by decide +kernel, rfl⟩
theorem iX2_would_52 : xl_D mX2_would 52 (.iconst 2) 1 53 := ⟨by decide +kernel, rfl⟩
theorem iX2_would_53 : xl_J mX2_would 53 (fun o => .if_icmp .ne o) 56 60 := ⟨7, by decide +kernel, rfl, rfl⟩
theorem iX2_would_56 : xl_D mX2_would 56 (.iconst 0) 1 57 := ⟨by decide +kernel, rfl⟩
theorem iX2_would_57 : xl_J mX2_would 57 (fun o => .goto o) 60 71 := ⟨14, by decide +kernel, rfl, rfl⟩
theorem iX2_would_60 : xl_D mX2_would 60 (.aload_n 0) 1 61 := ⟨by decide +kernel, rfl⟩
theorem iX2_would_61 : xl_G mX2_would 61 2 0 64 := ⟨10, by decide +kernel, rfl, fX2_10⟩
theorem iX2_would_64 : xl_D mX2_would 64 (.iload 5) 2 66 := ⟨by decide +kernel, rfl⟩
theorem iX2_would_66 : xl_D mX2_would 66 (.iload_n 1) 1 67 := ⟨by decide +kernel, rfl⟩
theorem iX2_would_67 : xl_D mX2_would 67 (.iload_n 2) 1 68 := ⟨by decide +kernel, rfl⟩
theorem iX2_would_68 : xl_Ca mX2_would 68 mX1_touchedFrom 71 := ⟨154, by decide +kernel, rfl, lX2_154, Nat.le_of_ble_eq_true rfl, Nat.le_of_ble_eq_true rfl⟩
theorem iX2_would_71 : xl_D mX2_would 71 (.istore 7) 2 73 := ⟨by decide +kernel, rfl⟩
theorem iX2_would_73 : xl_D mX2_would 73 (.aload_n 0) 1 74 := ⟨by decide +kernel, rfl⟩
theorem iX2_would_74 : xl_D mX2_would 74 (.iload 7) 2 76 := ⟨by decide +kernel, rfl⟩
theorem iX2_would_76 : xl_D mX2_would 76 (.i2l) 1 77 := ⟨by decide +kernel, rfl⟩
theorem iX2_would_77 : xl_D mX2_would 77 (.aload_n 0) 1 78 := ⟨by decide +kernel, rfl⟩
theorem iX2_would_78 : xl_G mX2_would 78 2 1 81 := ⟨16, by decide +kernel, rfl, fX2_16⟩
theorem iX2_would_81 : xl_G mX2_would 81 1 4 84 := ⟨87, by decide +kernel, rfl, fX2_87⟩
theorem iX2_would_84 : xl_D mX2_would 84 (.aload_n 0) 1 85 := ⟨by decide +kernel, rfl⟩
theorem iX2_would_85 : xl_G mX2_would 85 2 0 88 := ⟨10, by decide +kernel, rfl, fX2_10⟩
theorem iX2_would_88 : xl_G mX2_would 88 1 4 91 := ⟨87, by decide +kernel, rfl, fX2_87⟩
theorem iX2_would_91 : xl_D mX2_would 91 (.isub) 1 92 := ⟨by decide +kernel, rfl⟩
theorem iX2_would_92 : xl_D mX2_would 92 (.i2l) 1 93 := ⟨by decide +kernel, rfl⟩
theorem iX2_would_93 : xl_Ca mX2_would 93 mX2_tellTwo 96 := ⟨96, by decide +kernel, rfl, lX2_96, Nat.le_of_ble_eq_true rfl, Nat.le_of_ble_eq_true rfl⟩
theorem iX2_would_96 : xl_D mX2_would 96 (.iload 6) 2 98 := ⟨by decide +kernel, rfl⟩
theorem iX2_would_98 : xl_D mX2_would 98 (.ireturn) 1 99 := ⟨by decide +kernel, rfl⟩
theorem iX2_batch_0 : xl_D mX2_batch 0 (.iload_n 1) 1 1 := ⟨by decide +kernel, rfl⟩
theorem iX2_batch_1 : xl_Cs mX2_batch 1 mX2_isKey 4 := ⟨145, by decide +kernel, rfl, lX2_145, Nat.le_of_ble_eq_true rfl, Nat.le_of_ble_eq_true rfl⟩
theorem iX2_batch_4 : xl_J mX2_batch 4 (fun o => .ifCond .ne o) 7 9 := ⟨5, by decide +kernel, rfl, rfl⟩
theorem iX2_batch_7 : xl_D mX2_batch 7 (.iconst (-1)) 1 8 := ⟨by decide +kernel, rfl⟩
theorem iX2_batch_8 : xl_D mX2_batch 8 (.ireturn) 1 9 := ⟨by decide +kernel, rfl⟩
theorem iX2_batch_9 : xl_D mX2_batch 9 (.aload_n 0) 1 10 := ⟨by decide +kernel, rfl⟩
theorem iX2_batch_10 : xl_D mX2_batch 10 (.iload_n 1) 1 11 := ⟨by decide +kernel, rfl⟩
theorem iX2_batch_11 : xl_Ca mX2_batch 11 mX2_sortTaken 14 := ⟨229, by decide +kernel, rfl, lX2_229, Nat.le_of_ble_eq_true rfl, Nat.le_of_ble_eq_true rfl⟩
theorem iX2_batch_14 : xl_D mX2_batch 14 (.istore_n 2) 1 15 := ⟨by decide +kernel, rfl⟩
theorem iX2_batch_15 : xl_D mX2_batch 15 (.iconst 0) 1 16 := ⟨by decide +kernel, rfl⟩
theorem iX2_batch_16 : xl_D mX2_batch 16 (.istore_n 3) 1 17 := ⟨by decide +kernel, rfl⟩
theorem iX2_batch_17 : xl_D mX2_batch 17 (.iconst (-1)) 1 18 := ⟨by decide +kernel, rfl⟩
theorem iX2_batch_18 : xl_D mX2_batch 18 (.istore 4) 2 20 := ⟨by decide +kernel, rfl⟩
theorem iX2_batch_20 : xl_D mX2_batch 20 (.iconst (-1)) 1 21 := ⟨by decide +kernel, rfl⟩
theorem iX2_batch_21 : xl_D mX2_batch 21 (.istore 5) 2 23 := ⟨by decide +kernel, rfl⟩
theorem iX2_batch_23 : xl_D mX2_batch 23 (.iconst (-1)) 1 24 := ⟨by decide +kernel, rfl⟩
theorem iX2_batch_24 : xl_D mX2_batch 24 (.istore 6) 2 26 := ⟨by decide +kernel, rfl⟩
theorem iX2_batch_26 : xl_D mX2_batch 26 (.iconst 0) 1 27 := ⟨by decide +kernel, rfl⟩
theorem iX2_batch_27 : xl_D mX2_batch 27 (.istore 7) 2 29 := ⟨by decide +kernel, rfl⟩
theorem iX2_batch_29 : xl_D mX2_batch 29 (.iconst 0) 1 30 := ⟨by decide +kernel, rfl⟩
theorem iX2_batch_30 : xl_D mX2_batch 30 (.istore 8) 2 32 := ⟨by decide +kernel, rfl⟩
theorem iX2_batch_32 : xl_D mX2_batch 32 (.iconst 0) 1 33 := ⟨by decide +kernel, rfl⟩
theorem iX2_batch_33 : xl_D mX2_batch 33 (.istore 9) 2 35 := ⟨by decide +kernel, rfl⟩
theorem iX2_batch_35 : xl_D mX2_batch 35 (.iload 9) 2 37 := ⟨by decide +kernel, rfl⟩
theorem iX2_batch_37 : xl_D mX2_batch 37 (.iload_n 2) 1 38 := ⟨by decide +kernel, rfl⟩
theorem iX2_batch_38 : xl_J mX2_batch 38 (fun o => .if_icmp .ge o) 41 152 := ⟨114, by decide +kernel, rfl, rfl⟩
theorem iX2_batch_41 : xl_D mX2_batch 41 (.iinc 7 1) 3 44 := ⟨by decide +kernel, rfl⟩
theorem iX2_batch_44 : xl_D mX2_batch 44 (.iload 8) 2 46 := ⟨by decide +kernel, rfl⟩
theorem iX2_batch_46 : xl_D mX2_batch 46 (.aload_n 0) 1 47 := ⟨by decide +kernel, rfl⟩
theorem iX2_batch_47 : xl_D mX2_batch 47 (.iload 9) 2 49 := ⟨by decide +kernel, rfl⟩
theorem iX2_batch_49 : xl_D mX2_batch 49 (.iconst 4) 1 50 := ⟨by decide +kernel, rfl⟩
theorem iX2_batch_50 : xl_Ca mX2_batch 50 mX2_sortedCell 53 := ⟨232, by decide +kernel, rfl, lX2_232, Nat.le_of_ble_eq_true rfl, Nat.le_of_ble_eq_true rfl⟩
theorem iX2_batch_53 : xl_D mX2_batch 53 (.iadd) 1 54 := ⟨by decide +kernel, rfl⟩
theorem iX2_batch_54 : xl_D mX2_batch 54 (.istore 8) 2 56 := ⟨by decide +kernel, rfl⟩
theorem iX2_batch_56 : xl_D mX2_batch 56 (.iload 9) 2 58 := ⟨by decide +kernel, rfl⟩
theorem iX2_batch_58 : xl_D mX2_batch 58 (.iconst 1) 1 59 := ⟨by decide +kernel, rfl⟩
theorem iX2_batch_59 : xl_D mX2_batch 59 (.iadd) 1 60 := ⟨by decide +kernel, rfl⟩
theorem iX2_batch_60 : xl_D mX2_batch 60 (.iload_n 2) 1 61 := ⟨by decide +kernel, rfl⟩
theorem iX2_batch_61 : xl_J mX2_batch 61 (fun o => .if_icmp .ge o) 64 73 := ⟨12, by decide +kernel, rfl, rfl⟩
theorem iX2_batch_64 : xl_D mX2_batch 64 (.aload_n 0) 1 65 := ⟨by decide +kernel, rfl⟩
theorem iX2_batch_65 : xl_D mX2_batch 65 (.iload 9) 2 67 := ⟨by decide +kernel, rfl⟩
theorem iX2_batch_67 : xl_Ca mX2_batch 67 mX2_holeBehind 70 := ⟨235, by decide +kernel, rfl, lX2_235, Nat.le_of_ble_eq_true rfl, Nat.le_of_ble_eq_true rfl⟩
theorem iX2_batch_70 : xl_J mX2_batch 70 (fun o => .goto o) 73 76 := ⟨6, by decide +kernel, rfl, rfl⟩
theorem iX2_batch_73 : xl_D mX2_batch 73 (.sipush 20000) 3 76 := ⟨by decide +kernel, rfl⟩
theorem iX2_batch_76 : xl_D mX2_batch 76 (.istore 10) 2 78 := ⟨by decide +kernel, rfl⟩
theorem iX2_batch_78 : xl_D mX2_batch 78 (.iload 10) 2 80 := ⟨by decide +kernel, rfl⟩
theorem iX2_batch_80 : xl_D mX2_batch 80 (.aload_n 0) 1 81 := ⟨by decide +kernel, rfl⟩
theorem iX2_batch_81 : xl_G mX2_batch 81 2 0 84 := ⟨10, by decide +kernel, rfl, fX2_10⟩
theorem iX2_batch_84 : xl_G mX2_batch 84 1 0 87 := ⟨212, by decide +kernel, rfl, fX2_212⟩
theorem iX2_batch_87 : xl_J mX2_batch 87 (fun o => .if_icmp .gt o) 90 93 := ⟨6, by decide +kernel, rfl, rfl⟩
theorem iX2_batch_90 : xl_J mX2_batch 90 (fun o => .goto o) 93 146 := ⟨56, by decide +kernel, rfl, rfl⟩
theorem iX2_batch_93 : xl_D mX2_batch 93 (.iload_n 3) 1 94 := ⟨by decide +kernel, rfl⟩
theorem iX2_batch_94 : xl_J mX2_batch 94 (fun o => .ifCond .ne o) 97 102 := ⟨8, by decide +kernel, rfl, rfl⟩
theorem iX2_batch_97 : xl_D mX2_batch 97 (.iload 8) 2 99 := ⟨by decide +kernel, rfl⟩
theorem iX2_batch_99 : xl_J mX2_batch 99 (fun o => .goto o) 102 109 := ⟨10, by decide +kernel, rfl, rfl⟩
theorem iX2_batch_102 : xl_D mX2_batch 102 (.iload 5) 2 104 := ⟨by decide +kernel, rfl⟩
theorem iX2_batch_104 : xl_D mX2_batch 104 (.iload 8) 2 106 := ⟨by decide +kernel, rfl⟩
theorem iX2_batch_106 : xl_Cm mX2_batch 106 Lib.Math.max.name Lib.Math.max.code 109 := ⟨207, by decide +kernel, rfl, lX2_207, xl_stmax, xl_iMath, xl_comax, Nat.le_of_ble_eq_true rfl, Nat.le_of_ble_eq_true rfl⟩
theorem iX2_batch_109 : xl_D mX2_batch 109 (.istore 5) 2 111 := ⟨by decide +kernel, rfl⟩
theorem iX2_batch_111 : xl_D mX2_batch 111 (.iload 4) 2 113 := ⟨by decide +kernel, rfl⟩
theorem iX2_batch_113 : xl_D mX2_batch 113 (.iload 7) 2 115 := ⟨by decide +kernel, rfl⟩
theorem iX2_batch_115 : xl_Cm mX2_batch 115 Lib.Math.max.name Lib.Math.max.code 118 := ⟨207, by decide +kernel, rfl, lX2_207, xl_stmax, xl_iMath, xl_comax, Nat.le_of_ble_eq_true rfl, Nat.le_of_ble_eq_true rfl⟩
theorem iX2_batch_118 : xl_D mX2_batch 118 (.istore 4) 2 120 := ⟨by decide +kernel, rfl⟩
theorem iX2_batch_120 : xl_D mX2_batch 120 (.iload 9) 2 122 := ⟨by decide +kernel, rfl⟩
theorem iX2_batch_122 : xl_D mX2_batch 122 (.iconst 1) 1 123 := ⟨by decide +kernel, rfl⟩
theorem iX2_batch_123 : xl_D mX2_batch 123 (.iadd) 1 124 := ⟨by decide +kernel, rfl⟩
theorem iX2_batch_124 : xl_D mX2_batch 124 (.iload_n 2) 1 125 := ⟨by decide +kernel, rfl⟩
theorem iX2_batch_125 : xl_J mX2_batch 125 (fun o => .if_icmp .ge o) 128 137 := ⟨12, by decide +kernel, rfl, rfl⟩
theorem iX2_batch_128 : xl_D mX2_batch 128 (.iload 6) 2 130 := ⟨by decide +kernel, rfl⟩
theorem iX2_batch_130 : xl_D mX2_batch 130 (.iload 10) 2 132 := ⟨by decide +kernel, rfl⟩
theorem iX2_batch_132 : xl_Cm mX2_batch 132 Lib.Math.max.name Lib.Math.max.code 135 := ⟨207, by decide +kernel, rfl, lX2_207, xl_stmax, xl_iMath, xl_comax, Nat.le_of_ble_eq_true rfl, Nat.le_of_ble_eq_true rfl⟩
theorem iX2_batch_135 : xl_D mX2_batch 135 (.istore 6) 2 137 := ⟨by decide +kernel, rfl⟩
theorem iX2_batch_137 : xl_D mX2_batch 137 (.iinc 3 1) 3 140 := ⟨by decide +kernel, rfl⟩
theorem iX2_batch_140 : xl_D mX2_batch 140 (.iconst 0) 1 141 := ⟨by decide +kernel, rfl⟩
theorem iX2_batch_141 : xl_D mX2_batch 141 (.istore 7) 2 143 := ⟨by decide +kernel, rfl⟩
theorem iX2_batch_143 : xl_D mX2_batch 143 (.iconst 0) 1 144 := ⟨by decide +kernel, rfl⟩
theorem iX2_batch_144 : xl_D mX2_batch 144 (.istore 8) 2 146 := ⟨by decide +kernel, rfl⟩
theorem iX2_batch_146 : xl_D mX2_batch 146 (.iinc 9 1) 3 149 := ⟨by decide +kernel, rfl⟩
theorem iX2_batch_149 : xl_J mX2_batch 149 (fun o => .goto o) 152 35 := ⟨-114, by decide +kernel, rfl, rfl⟩
theorem iX2_batch_152 : xl_D mX2_batch 152 (.aload_n 0) 1 153 := ⟨by decide +kernel, rfl⟩
theorem iX2_batch_153 : xl_D mX2_batch 153 (.iload 4) 2 155 := ⟨by decide +kernel, rfl⟩
theorem iX2_batch_155 : xl_D mX2_batch 155 (.i2l) 1 156 := ⟨by decide +kernel, rfl⟩
theorem iX2_batch_156 : xl_D mX2_batch 156 (.iload 5) 2 158 := ⟨by decide +kernel, rfl⟩
theorem iX2_batch_158 : xl_D mX2_batch 158 (.i2l) 1 159 := ⟨by decide +kernel, rfl⟩
theorem iX2_batch_159 : xl_D mX2_batch 159 (.iload 6) 2 161 := ⟨by decide +kernel, rfl⟩
theorem iX2_batch_161 : xl_D mX2_batch 161 (.i2l) 1 162 := ⟨by decide +kernel, rfl⟩
theorem iX2_batch_162 : xl_Ca mX2_batch 162 mX2_tellThree 165 := ⟨170, by decide +kernel, rfl, lX2_170, Nat.le_of_ble_eq_true rfl, Nat.le_of_ble_eq_true rfl⟩
theorem iX2_batch_165 : xl_D mX2_batch 165 (.iload_n 3) 1 166 := ⟨by decide +kernel, rfl⟩
theorem iX2_batch_166 : xl_D mX2_batch 166 (.ireturn) 1 167 := ⟨by decide +kernel, rfl⟩
theorem iX2_latest_0 : xl_D mX2_latest 0 (.iconst 0) 1 1 := ⟨by decide +kernel, rfl⟩
theorem iX2_latest_1 : xl_D mX2_latest 1 (.istore_n 1) 1 2 := ⟨by decide +kernel, rfl⟩
theorem iX2_latest_2 : xl_D mX2_latest 2 (.iconst (-1)) 1 3 := ⟨by decide +kernel, rfl⟩
theorem iX2_latest_3 : xl_D mX2_latest 3 (.istore_n 2) 1 4 := ⟨by decide +kernel, rfl⟩
theorem iX2_latest_4 : xl_D mX2_latest 4 (.iconst 0) 1 5 := ⟨by decide +kernel, rfl⟩
theorem iX2_latest_5 : xl_D mX2_latest 5 (.istore_n 3) 1 6 := ⟨by decide +kernel, rfl⟩
theorem iX2_latest_6 : xl_D mX2_latest 6 (.iload_n 3) 1 7 := ⟨by decide +kernel, rfl⟩
theorem iX2_latest_7 : xl_D mX2_latest 7 (.aload_n 0) 1 8 := ⟨by decide +kernel, rfl⟩
theorem iX2_latest_8 : xl_G mX2_latest 8 2 0 11 := ⟨10, by decide +kernel, rfl, fX2_10⟩
theorem iX2_latest_11 : xl_G mX2_latest 11 1 14 14 := ⟨73, by decide +kernel, rfl, fX2_73⟩
theorem iX2_latest_14 : xl_G mX2_latest 14 0 3 17 := ⟨76, by decide +kernel, rfl, fX2_76⟩
theorem iX2_latest_17 : xl_J mX2_latest 17 (fun o => .if_icmp .ge o) 20 52 := ⟨35, by decide +kernel, rfl, rfl⟩
theorem iX2_latest_20 : xl_D mX2_latest 20 (.aload_n 0) 1 21 := ⟨by decide +kernel, rfl⟩
theorem iX2_latest_21 : xl_G mX2_latest 21 2 0 24 := ⟨10, by decide +kernel, rfl, fX2_10⟩
theorem iX2_latest_24 : xl_G mX2_latest 24 1 14 27 := ⟨73, by decide +kernel, rfl, fX2_73⟩
theorem iX2_latest_27 : xl_D mX2_latest 27 (.iload_n 3) 1 28 := ⟨by decide +kernel, rfl⟩
theorem iX2_latest_28 : xl_D mX2_latest 28 (.bipush 6) 2 30 := ⟨by decide +kernel, rfl⟩
theorem iX2_latest_30 : xl_Ca mX2_latest 30 mX0_get 33 := ⟨67, by decide +kernel, rfl, lX2_67, Nat.le_of_ble_eq_true rfl, Nat.le_of_ble_eq_true rfl⟩
theorem iX2_latest_33 : xl_D mX2_latest 33 (.istore 4) 2 35 := ⟨by decide +kernel, rfl⟩
theorem iX2_latest_35 : xl_D mX2_latest 35 (.iload 4) 2 37 := ⟨by decide +kernel, rfl⟩
theorem iX2_latest_37 : xl_D mX2_latest 37 (.iload_n 1) 1 38 := ⟨by decide +kernel, rfl⟩
theorem iX2_latest_38 : xl_J mX2_latest 38 (fun o => .if_icmp .le o) 41 46 := ⟨8, by decide +kernel, rfl, rfl⟩
theorem iX2_latest_41 : xl_D mX2_latest 41 (.iload 4) 2 43 := ⟨by decide +kernel, rfl⟩
theorem iX2_latest_43 : xl_D mX2_latest 43 (.istore_n 1) 1 44 := ⟨by decide +kernel, rfl⟩
theorem iX2_latest_44 : xl_D mX2_latest 44 (.iload_n 3) 1 45 := ⟨by decide +kernel, rfl⟩
theorem iX2_latest_45 : xl_D mX2_latest 45 (.istore_n 2) 1 46 := ⟨by decide +kernel, rfl⟩
theorem iX2_latest_46 : xl_D mX2_latest 46 (.iinc 3 1) 3 49 := ⟨by decide +kernel, rfl⟩
theorem iX2_latest_49 : xl_J mX2_latest 49 (fun o => .goto o) 52 6 := ⟨-43, by decide +kernel, rfl, rfl⟩
theorem iX2_latest_52 : xl_D mX2_latest 52 (.aload_n 0) 1 53 := ⟨by decide +kernel, rfl⟩
theorem iX2_latest_53 : xl_D mX2_latest 53 (.iload_n 2) 1 54 := ⟨by decide +kernel, rfl⟩
theorem iX2_latest_54 : xl_D mX2_latest 54 (.i2l) 1 55 := ⟨by decide +kernel, rfl⟩
theorem iX2_latest_55 : xl_Ca mX2_latest 55 mX2_tellOne 58 := ⟨118, by decide +kernel, rfl, lX2_118, Nat.le_of_ble_eq_true rfl, Nat.le_of_ble_eq_true rfl⟩
theorem iX2_latest_58 : xl_D mX2_latest 58 (.iload_n 1) 1 59 := ⟨by decide +kernel, rfl⟩
theorem iX2_latest_59 : xl_D mX2_latest 59 (.ireturn) 1 60 := ⟨by decide +kernel, rfl⟩
theorem iX2_parts_0 : xl_D mX2_parts 0 (.iload_n 1) 1 1 := ⟨by decide +kernel, rfl⟩
theorem iX2_parts_1 : xl_Cs mX2_parts 1 mX2_isKey 4 := ⟨145, by decide +kernel, rfl, lX2_145, Nat.le_of_ble_eq_true rfl, Nat.le_of_ble_eq_true rfl⟩
theorem iX2_parts_4 : xl_J mX2_parts 4 (fun o => .ifCond .eq o) 7 18 := ⟨14, by decide +kernel, rfl, rfl⟩
theorem iX2_parts_7 : xl_D mX2_parts 7 (.iload_n 2) 1 8 := ⟨by decide +kernel, rfl⟩
theorem iX2_parts_8 : xl_D mX2_parts 8 (.iconst 1) 1 9 := ⟨by decide +kernel, rfl⟩
theorem iX2_parts_9 : xl_J mX2_parts 9 (fun o => .if_icmp .lt o) 12 18 := ⟨9, by decide +kernel, rfl, rfl⟩
theorem iX2_parts_12 : xl_D mX2_parts 12 (.iload_n 2) 1 13 := ⟨by decide +kernel, rfl⟩
theorem iX2_parts_13 : xl_D mX2_parts 13 (.bipush 60) 2 15 := ⟨by decide +kernel, rfl⟩
theorem iX2_parts_15 : xl_J mX2_parts 15 (fun o => .if_icmp .le o) 18 20 := ⟨5, by decide +kernel, rfl, rfl⟩
theorem iX2_parts_18 : xl_D mX2_parts 18 (.iconst (-1)) 1 19 := ⟨by decide +kernel, rfl⟩
theorem iX2_parts_19 : xl_D mX2_parts 19 (.ireturn) 1 20 := ⟨by decide +kernel, rfl⟩
theorem iX2_parts_20 : xl_D mX2_parts 20 (.aload_n 0) 1 21 := ⟨by decide +kernel, rfl⟩
theorem iX2_parts_21 : xl_D mX2_parts 21 (.iload_n 1) 1 22 := ⟨by decide +kernel, rfl⟩
theorem iX2_parts_22 : xl_Ca mX2_parts 22 mX2_sortTaken 25 := ⟨229, by decide +kernel, rfl, lX2_229, Nat.le_of_ble_eq_true rfl, Nat.le_of_ble_eq_true rfl⟩
theorem iX2_parts_25 : xl_D mX2_parts 25 (.istore_n 3) 1 26 := ⟨by decide +kernel, rfl⟩
theorem iX2_parts_26 : xl_D mX2_parts 26 (.iload_n 3) 1 27 := ⟨by decide +kernel, rfl⟩
theorem iX2_parts_27 : xl_J mX2_parts 27 (fun o => .ifCond .ne o) 30 33 := ⟨6, by decide +kernel, rfl, rfl⟩
theorem iX2_parts_30 : xl_D mX2_parts 30 (.bipush (-2)) 2 32 := ⟨by decide +kernel, rfl⟩
theorem iX2_parts_32 : xl_D mX2_parts 32 (.ireturn) 1 33 := ⟨by decide +kernel, rfl⟩
theorem iX2_parts_33 : xl_D mX2_parts 33 (.aload_n 0) 1 34 := ⟨by decide +kernel, rfl⟩
theorem iX2_parts_34 : xl_G mX2_parts 34 2 12 37 := ⟨37, by decide +kernel, rfl, fX2_37⟩
theorem iX2_parts_37 : xl_D mX2_parts 37 (.iconst 0) 1 38 := ⟨by decide +kernel, rfl⟩
theorem iX2_parts_38 : xl_Cs mX2_parts 38 mJ7_fill_53178 41 := ⟨238, by decide +kernel, rfl, lX2_238, Nat.le_of_ble_eq_true rfl, Nat.le_of_ble_eq_true rfl⟩
theorem iX2_parts_41 : xl_D mX2_parts 41 (.iconst 0) 1 42 := ⟨by decide +kernel, rfl⟩
theorem iX2_parts_42 : xl_D mX2_parts 42 (.istore 4) 2 44 := ⟨by decide +kernel, rfl⟩
theorem iX2_parts_44 : xl_D mX2_parts 44 (.iload 4) 2 46 := ⟨by decide +kernel, rfl⟩
theorem iX2_parts_46 : xl_D mX2_parts 46 (.iconst 1) 1 47 := ⟨by decide +kernel, rfl⟩
theorem iX2_parts_47 : xl_D mX2_parts 47 (.iadd) 1 48 := ⟨by decide +kernel, rfl⟩
theorem iX2_parts_48 : xl_D mX2_parts 48 (.iload_n 3) 1 49 := ⟨by decide +kernel, rfl⟩
theorem iX2_parts_49 : xl_J mX2_parts 49 (fun o => .if_icmp .ge o) 52 97 := ⟨48, by decide +kernel, rfl, rfl⟩
theorem iX2_parts_52 : xl_D mX2_parts 52 (.aload_n 0) 1 53 := ⟨by decide +kernel, rfl⟩
theorem iX2_parts_53 : xl_D mX2_parts 53 (.iload 4) 2 55 := ⟨by decide +kernel, rfl⟩
theorem iX2_parts_55 : xl_Ca mX2_parts 55 mX2_holeBehind 58 := ⟨235, by decide +kernel, rfl, lX2_235, Nat.le_of_ble_eq_true rfl, Nat.le_of_ble_eq_true rfl⟩
theorem iX2_parts_58 : xl_D mX2_parts 58 (.bipush 100) 2 60 := ⟨by decide +kernel, rfl⟩
theorem iX2_parts_60 : xl_Cm mX2_parts 60 Lib.Math.min.name Lib.Math.min.code 63 := ⟨244, by decide +kernel, rfl, lX2_244, xl_stmin, xl_iMath, xl_comin, Nat.le_of_ble_eq_true rfl, Nat.le_of_ble_eq_true rfl⟩
theorem iX2_parts_63 : xl_D mX2_parts 63 (.istore 5) 2 65 := ⟨by decide +kernel, rfl⟩
theorem iX2_parts_65 : xl_D mX2_parts 65 (.iload 5) 2 67 := ⟨by decide +kernel, rfl⟩
theorem iX2_parts_67 : xl_J mX2_parts 67 (fun o => .ifCond .lt o) 70 91 := ⟨24, by decide +kernel, rfl, rfl⟩
theorem iX2_parts_70 : xl_D mX2_parts 70 (.iload 5) 2 72 := ⟨by decide +kernel, rfl⟩
theorem iX2_parts_72 : xl_D mX2_parts 72 (.aload_n 0) 1 73 := ⟨by decide +kernel, rfl⟩
theorem iX2_parts_73 : xl_G mX2_parts 73 2 12 76 := ⟨37, by decide +kernel, rfl, fX2_37⟩
theorem iX2_parts_76 : xl_D mX2_parts 76 (.arraylength) 1 77 := ⟨by decide +kernel, rfl⟩
theorem iX2_parts_77 : xl_J mX2_parts 77 (fun o => .if_icmp .ge o) 80 91 := ⟨14, by decide +kernel, rfl, rfl⟩
theorem iX2_parts_80 : xl_D mX2_parts 80 (.aload_n 0) 1 81 := ⟨by decide +kernel, rfl⟩
theorem iX2_parts_81 : xl_G mX2_parts 81 2 12 84 := ⟨37, by decide +kernel, rfl, fX2_37⟩
theorem iX2_parts_84 : xl_D mX2_parts 84 (.iload 5) 2 86 := ⟨by decide +kernel, rfl⟩
theorem iX2_parts_86 : xl_D mX2_parts 86 (.dup2) 1 87 := ⟨by decide +kernel, rfl⟩
theorem iX2_parts_87 : xl_D mX2_parts 87 (.iaload) 1 88 := ⟨by decide +kernel, rfl⟩
theorem iX2_parts_88 : xl_D mX2_parts 88 (.iconst 1) 1 89 := ⟨by decide +kernel, rfl⟩
theorem iX2_parts_89 : xl_D mX2_parts 89 (.iadd) 1 90 := ⟨by decide +kernel, rfl⟩
theorem iX2_parts_90 : xl_D mX2_parts 90 (.iastore) 1 91 := ⟨by decide +kernel, rfl⟩
theorem iX2_parts_91 : xl_D mX2_parts 91 (.iinc 4 1) 3 94 := ⟨by decide +kernel, rfl⟩
theorem iX2_parts_94 : xl_J mX2_parts 94 (fun o => .goto o) 97 44 := ⟨-50, by decide +kernel, rfl, rfl⟩
theorem iX2_parts_97 : xl_D mX2_parts 97 (.iconst 1) 1 98 := ⟨by decide +kernel, rfl⟩
theorem iX2_parts_98 : xl_D mX2_parts 98 (.istore 4) 2 100 := ⟨by decide +kernel, rfl⟩
theorem iX2_parts_100 : xl_D mX2_parts 100 (.bipush 99) 2 102 := ⟨by decide +kernel, rfl⟩
theorem iX2_parts_102 : xl_D mX2_parts 102 (.istore 5) 2 104 := ⟨by decide +kernel, rfl⟩
theorem iX2_parts_104 : xl_D mX2_parts 104 (.iload 5) 2 106 := ⟨by decide +kernel, rfl⟩
theorem iX2_parts_106 : xl_D mX2_parts 106 (.iconst 1) 1 107 := ⟨by decide +kernel, rfl⟩
theorem iX2_parts_107 : xl_J mX2_parts 107 (fun o => .if_icmp .lt o) 110 155 := ⟨48, by decide +kernel, rfl, rfl⟩
theorem iX2_parts_110 : xl_D mX2_parts 110 (.iload 4) 2 112 := ⟨by decide +kernel, rfl⟩
theorem iX2_parts_112 : xl_D mX2_parts 112 (.iload 5) 2 114 := ⟨by decide +kernel, rfl⟩
theorem iX2_parts_114 : xl_D mX2_parts 114 (.iconst 1) 1 115 := ⟨by decide +kernel, rfl⟩
theorem iX2_parts_115 : xl_D mX2_parts 115 (.iadd) 1 116 := ⟨by decide +kernel, rfl⟩
theorem iX2_parts_116 : xl_D mX2_parts 116 (.aload_n 0) 1 117 := ⟨by decide +kernel, rfl⟩
theorem iX2_parts_117 : xl_G mX2_parts 117 2 12 120 := ⟨37, by decide +kernel, rfl, fX2_37⟩
theorem iX2_parts_120 : xl_D mX2_parts 120 (.arraylength) 1 121 := ⟨by decide +kernel, rfl⟩
theorem iX2_parts_121 : xl_J mX2_parts 121 (fun o => .if_icmp .ge o) 124 136 := ⟨15, by decide +kernel, rfl, rfl⟩
theorem iX2_parts_124 : xl_D mX2_parts 124 (.aload_n 0) 1 125 := ⟨by decide +kernel, rfl⟩
theorem iX2_parts_125 : xl_G mX2_parts 125 2 12 128 := ⟨37, by decide +kernel, rfl, fX2_37⟩
theorem iX2_parts_128 : xl_D mX2_parts 128 (.iload 5) 2 130 := ⟨by decide +kernel, rfl⟩
theorem iX2_parts_130 : xl_D mX2_parts 130 (.iconst 1) 1 131 := ⟨by decide +kernel, rfl⟩
theorem iX2_parts_131 : xl_D mX2_parts 131 (.iadd) 1 132 := ⟨by decide +kernel, rfl⟩
theorem iX2_parts_132 : xl_D mX2_parts 132 (.iaload) 1 133 := ⟨by decide +kernel, rfl⟩
theorem iX2_parts_133 : xl_J mX2_parts 133 (fun o => .goto o) 136 137 := ⟨4, by decide +kernel, rfl, rfl⟩
theorem iX2_parts_136 : xl_D mX2_parts 136 (.iconst 0) 1 137 := ⟨by decide +kernel, rfl⟩
theorem iX2_parts_137 : xl_D mX2_parts 137 (.iadd) 1 138 := ⟨by decide +kernel, rfl⟩
theorem iX2_parts_138 : xl_D mX2_parts 138 (.istore 4) 2 140 := ⟨by decide +kernel, rfl⟩
theorem iX2_parts_140 : xl_D mX2_parts 140 (.iload 4) 2 142 := ⟨by decide +kernel, rfl⟩
theorem iX2_parts_142 : xl_D mX2_parts 142 (.iload_n 2) 1 143 := ⟨by decide +kernel, rfl⟩
theorem iX2_parts_143 : xl_J mX2_parts 143 (fun o => .if_icmp .lt o) 146 149 := ⟨6, by decide +kernel, rfl, rfl⟩
theorem iX2_parts_146 : xl_D mX2_parts 146 (.iload 5) 2 148 := ⟨by decide +kernel, rfl⟩
theorem iX2_parts_148 : xl_D mX2_parts 148 (.ireturn) 1 149 := ⟨by decide +kernel, rfl⟩
theorem iX2_parts_149 : xl_D mX2_parts 149 (.iinc 5 (-1)) 3 152 := ⟨by decide +kernel, rfl⟩
theorem iX2_parts_152 : xl_J mX2_parts 152 (fun o => .goto o) 155 104 := ⟨-48, by decide +kernel, rfl, rfl⟩
theorem iX2_parts_155 : xl_D mX2_parts 155 (.bipush (-2)) 2 157 := ⟨by decide +kernel, rfl⟩
theorem iX2_parts_157 : xl_D mX2_parts 157 (.ireturn) 1 158 := ⟨by decide +kernel, rfl⟩
theorem iX2_again_0 : xl_D mX2_again 0 (.iload_n 1) 1 1 := ⟨by decide +kernel, rfl⟩
theorem iX2_again_1 : xl_D mX2_again 1 (.iload_n 2) 1 2 := ⟨by decide +kernel, rfl⟩
theorem iX2_again_2 : xl_D mX2_again 2 (.iload_n 3) 1 3 := ⟨by decide +kernel, rfl⟩
theorem iX2_again_3 : xl_Cs mX2_again 3 mX2_areSettings 6 := ⟨48, by decide +kernel, rfl, lX2_48, Nat.le_of_ble_eq_true rfl, Nat.le_of_ble_eq_true rfl⟩
theorem iX2_again_6 : xl_J mX2_again 6 (fun o => .ifCond .ne o) 9 11 := ⟨5, by decide +kernel, rfl, rfl⟩
theorem iX2_again_9 : xl_D mX2_again 9 (.iconst (-1)) 1 10 := ⟨by decide +kernel, rfl⟩
theorem iX2_again_10 : xl_D mX2_again 10 (.ireturn) 1 11 := ⟨by decide +kernel, rfl⟩
theorem iX2_again_11 : xl_D mX2_again 11 (.aload_n 0) 1 12 := ⟨by decide +kernel, rfl⟩
theorem iX2_again_12 : xl_D mX2_again 12 (.iload_n 1) 1 13 := ⟨by decide +kernel, rfl⟩
theorem iX2_again_13 : xl_D mX2_again 13 (.iload_n 2) 1 14 := ⟨by decide +kernel, rfl⟩
theorem iX2_again_14 : xl_D mX2_again 14 (.iload_n 3) 1 15 := ⟨by decide +kernel, rfl⟩
theorem iX2_again_15 : xl_D mX2_again 15 (.iconst (-1)) 1 16 := ⟨by decide +kernel, rfl⟩
theorem iX2_again_16 : xl_Ca mX2_again 16 mX2_replay 19 := ⟨247, by decide +kernel, rfl, lX2_247, Nat.le_of_ble_eq_true rfl, Nat.le_of_ble_eq_true rfl⟩
theorem iX2_again_19 : xl_D mX2_again 19 (.aload_n 0) 1 20 := ⟨by decide +kernel, rfl⟩
theorem iX2_again_20 : xl_Ca mX2_again 20 mX2_tellNothing 23 := ⟨180, by decide +kernel, rfl, lX2_180, Nat.le_of_ble_eq_true rfl, Nat.le_of_ble_eq_true rfl⟩
theorem iX2_again_23 : xl_D mX2_again 23 (.iconst 0) 1 24 := ⟨by decide +kernel, rfl⟩
theorem iX2_again_24 : xl_D mX2_again 24 (.istore 4) 2 26 := ⟨by decide +kernel, rfl⟩
theorem iX2_again_26 : xl_D mX2_again 26 (.iload 4) 2 28 := ⟨by decide +kernel, rfl⟩
theorem iX2_again_28 : xl_D mX2_again 28 (.iconst 4) 1 29 := ⟨by decide +kernel, rfl⟩
theorem iX2_again_29 : xl_J mX2_again 29 (fun o => .if_icmp .ge o) 32 52 := ⟨23, by decide +kernel, rfl, rfl⟩
theorem iX2_again_32 : xl_D mX2_again 32 (.aload_n 0) 1 33 := ⟨by decide +kernel, rfl⟩
theorem iX2_again_33 : xl_D mX2_again 33 (.aload_n 0) 1 34 := ⟨by decide +kernel, rfl⟩
theorem iX2_again_34 : xl_G mX2_again 34 2 1 37 := ⟨16, by decide +kernel, rfl, fX2_16⟩
theorem iX2_again_37 : xl_D mX2_again 37 (.iload 4) 2 39 := ⟨by decide +kernel, rfl⟩
theorem iX2_again_39 : xl_Ca mX2_again 39 mX1_sentOf 42 := ⟨164, by decide +kernel, rfl, lX2_164, Nat.le_of_ble_eq_true rfl, Nat.le_of_ble_eq_true rfl⟩
theorem iX2_again_42 : xl_D mX2_again 42 (.i2l) 1 43 := ⟨by decide +kernel, rfl⟩
theorem iX2_again_43 : xl_Ca mX2_again 43 mX2_tellMore 46 := ⟨183, by decide +kernel, rfl, lX2_183, Nat.le_of_ble_eq_true rfl, Nat.le_of_ble_eq_true rfl⟩
theorem iX2_again_46 : xl_D mX2_again 46 (.iinc 4 1) 3 49 := ⟨by decide +kernel, rfl⟩
theorem iX2_again_49 : xl_J mX2_again 49 (fun o => .goto o) 52 26 := ⟨-23, by decide +kernel, rfl, rfl⟩
theorem iX2_again_52 : xl_D mX2_again 52 (.aload_n 0) 1 53 := ⟨by decide +kernel, rfl⟩
theorem iX2_again_53 : xl_D mX2_again 53 (.aload_n 0) 1 54 := ⟨by decide +kernel, rfl⟩
theorem iX2_again_54 : xl_G mX2_again 54 2 1 57 := ⟨16, by decide +kernel, rfl, fX2_16⟩
theorem iX2_again_57 : xl_G mX2_again 57 1 11 60 := ⟨131, by decide +kernel, rfl, fX2_131⟩
theorem iX2_again_60 : xl_G mX2_again 60 0 3 63 := ⟨76, by decide +kernel, rfl, fX2_76⟩
theorem iX2_again_63 : xl_D mX2_again 63 (.i2l) 1 64 := ⟨by decide +kernel, rfl⟩
theorem iX2_again_64 : xl_Ca mX2_again 64 mX2_tellMore 67 := ⟨183, by decide +kernel, rfl, lX2_183, Nat.le_of_ble_eq_true rfl, Nat.le_of_ble_eq_true rfl⟩
theorem iX2_again_67 : xl_D mX2_again 67 (.aload_n 0) 1 68 := ⟨by decide +kernel, rfl⟩
theorem iX2_again_68 : xl_D mX2_again 68 (.aload_n 0) 1 69 := ⟨by decide +kernel, rfl⟩
theorem iX2_again_69 : xl_G mX2_again 69 2 1 72 := ⟨16, by decide +kernel, rfl, fX2_16⟩
theorem iX2_again_72 : xl_G mX2_again 72 1 5 75 := ⟨174, by decide +kernel, rfl, fX2_174⟩
theorem iX2_again_75 : xl_D mX2_again 75 (.i2l) 1 76 := ⟨by decide +kernel, rfl⟩
theorem iX2_again_76 : xl_Ca mX2_again 76 mX2_tellMore 79 := ⟨183, by decide +kernel, rfl, lX2_183, Nat.le_of_ble_eq_true rfl, Nat.le_of_ble_eq_true rfl⟩
theorem iX2_again_79 : xl_D mX2_again 79 (.aload_n 0) 1 80 := ⟨by decide +kernel, rfl⟩
theorem iX2_again_80 : xl_G mX2_again 80 2 1 83 := ⟨16, by decide +kernel, rfl, fX2_16⟩
theorem iX2_again_83 : xl_G mX2_again 83 1 8 86 := ⟨198, by decide +kernel, rfl, fX2_198⟩
theorem iX2_again_86 : xl_D mX2_again 86 (.ireturn) 1 87 := ⟨by decide +kernel, rfl⟩
theorem iX2_without_0 : xl_D mX2_without 0 (.aload_n 0) 1 1 := ⟨by decide +kernel, rfl⟩
theorem iX2_without_1 : xl_D mX2_without 1 (.iload_n 1) 1 2 := ⟨by decide +kernel, rfl⟩
theorem iX2_without_2 : xl_Ca mX2_without 2 mX2_isSource 5 := ⟨59, by decide +kernel, rfl, lX2_59, Nat.le_of_ble_eq_true rfl, Nat.le_of_ble_eq_true rfl⟩
theorem iX2_without_5 : xl_J mX2_without 5 (fun o => .ifCond .ne o) 8 10 := ⟨5, by decide +kernel, rfl, rfl⟩
theorem iX2_without_8 : xl_D mX2_without 8 (.iconst (-1)) 1 9 := ⟨by decide +kernel, rfl⟩
theorem iX2_without_9 : xl_D mX2_without 9 (.ireturn) 1 10 := ⟨by decide +kernel, rfl⟩
theorem iX2_without_10 : xl_D mX2_without 10 (.aload_n 0) 1 11 := ⟨by decide +kernel, rfl⟩
theorem iX2_without_11 : xl_G mX2_without 11 2 0 14 := ⟨10, by decide +kernel, rfl, fX2_10⟩
theorem iX2_without_14 : xl_G mX2_without 14 1 10 17 := ⟨63, by decide +kernel, rfl, fX2_63⟩
theorem iX2_without_17 : xl_G mX2_without 17 0 3 20 := ⟨76, by decide +kernel, rfl, fX2_76⟩
theorem iX2_without_20 : xl_D mX2_without 20 (.iconst 1) 1 21 := ⟨by decide +kernel, rfl⟩
theorem iX2_without_21 : xl_J mX2_without 21 (fun o => .if_icmp .ne o) 24 27 := ⟨6, by decide +kernel, rfl, rfl⟩
theorem iX2_without_24 : xl_D mX2_without 24 (.bipush (-2)) 2 26 := ⟨by decide +kernel, rfl⟩
theorem iX2_without_26 : xl_D mX2_without 26 (.ireturn) 1 27 := ⟨by decide +kernel, rfl⟩
theorem iX2_without_27 : xl_D mX2_without 27 (.aload_n 0) 1 28 := ⟨by decide +kernel, rfl⟩
theorem iX2_without_28 : xl_D mX2_without 28 (.aload_n 0) 1 29 := ⟨by decide +kernel, rfl⟩
theorem iX2_without_29 : xl_G mX2_without 29 2 0 32 := ⟨10, by decide +kernel, rfl, fX2_10⟩
theorem iX2_without_32 : xl_G mX2_without 32 1 0 35 := ⟨212, by decide +kernel, rfl, fX2_212⟩
theorem iX2_without_35 : xl_D mX2_without 35 (.aload_n 0) 1 36 := ⟨by decide +kernel, rfl⟩
theorem iX2_without_36 : xl_G mX2_without 36 2 0 39 := ⟨10, by decide +kernel, rfl, fX2_10⟩
theorem iX2_without_39 : xl_G mX2_without 39 1 1 42 := ⟨250, by decide +kernel, rfl, fX2_250⟩
theorem iX2_without_42 : xl_D mX2_without 42 (.aload_n 0) 1 43 := ⟨by decide +kernel, rfl⟩
theorem iX2_without_43 : xl_G mX2_without 43 2 0 46 := ⟨10, by decide +kernel, rfl, fX2_10⟩
theorem iX2_without_46 : xl_G mX2_without 46 1 2 49 := ⟨253, by decide +kernel, rfl, fX2_253⟩
theorem iX2_without_49 : xl_D mX2_without 49 (.iload_n 1) 1 50 := ⟨by decide +kernel, rfl⟩
theorem iX2_without_50 : xl_Ca mX2_without 50 mX2_replay 53 := ⟨247, by decide +kernel, rfl, lX2_247, Nat.le_of_ble_eq_true rfl, Nat.le_of_ble_eq_true rfl⟩
theorem iX2_without_53 : xl_D mX2_without 53 (.aload_n 0) 1 54 := ⟨by decide +kernel, rfl⟩
theorem iX2_without_54 : xl_D mX2_without 54 (.aload_n 0) 1 55 := ⟨by decide +kernel, rfl⟩
theorem iX2_without_55 : xl_G mX2_without 55 2 1 58 := ⟨16, by decide +kernel, rfl, fX2_16⟩
theorem iX2_without_58 : xl_G mX2_without 58 1 8 61 := ⟨198, by decide +kernel, rfl, fX2_198⟩
theorem iX2_without_61 : xl_D mX2_without 61 (.i2l) 1 62 := ⟨by decide +kernel, rfl⟩
theorem iX2_without_62 : xl_D mX2_without 62 (.aload_n 0) 1 63 := ⟨by decide +kernel, rfl⟩
theorem iX2_without_63 : xl_G mX2_without 63 2 1 66 := ⟨16, by decide +kernel, rfl, fX2_16⟩
theorem iX2_without_66 : xl_G mX2_without 66 1 11 69 := ⟨131, by decide +kernel, rfl, fX2_131⟩
theorem iX2_without_69 : xl_G mX2_without 69 0 3 72 := ⟨76, by decide +kernel, rfl, fX2_76⟩
theorem iX2_without_72 : xl_D mX2_without 72 (.i2l) 1 73 := ⟨by decide +kernel, rfl⟩
theorem iX2_without_73 : xl_D mX2_without 73 (.aload_n 0) 1 74 := ⟨by decide +kernel, rfl⟩
theorem iX2_without_74 : xl_G mX2_without 74 2 1 77 := ⟨16, by decide +kernel, rfl, fX2_16⟩
theorem iX2_without_77 : xl_G mX2_without 77 1 5 80 := ⟨174, by decide +kernel, rfl, fX2_174⟩
theorem iX2_without_80 : xl_D mX2_without 80 (.i2l) 1 81 := ⟨by decide +kernel, rfl⟩
theorem iX2_without_81 : xl_Ca mX2_without 81 mX2_tellThree 84 := ⟨170, by decide +kernel, rfl, lX2_170, Nat.le_of_ble_eq_true rfl, Nat.le_of_ble_eq_true rfl⟩
theorem iX2_without_84 : xl_D mX2_without 84 (.aload_n 0) 1 85 := ⟨by decide +kernel, rfl⟩
theorem iX2_without_85 : xl_G mX2_without 85 2 1 88 := ⟨16, by decide +kernel, rfl, fX2_16⟩
theorem iX2_without_88 : xl_G mX2_without 88 1 3 91 := ⟨93, by decide +kernel, rfl, fX2_93⟩
theorem iX2_without_91 : xl_D mX2_without 91 (.ireturn) 1 92 := ⟨by decide +kernel, rfl⟩
theorem iX2_input_0 : xl_D mX2_input 0 (.iload_n 1) 1 1 := ⟨by decide +kernel, rfl⟩
theorem iX2_input_1 : xl_J mX2_input 1 (fun o => .ifCond .lt o) 4 27 := ⟨26, by decide +kernel, rfl, rfl⟩
theorem iX2_input_4 : xl_D mX2_input 4 (.iload_n 1) 1 5 := ⟨by decide +kernel, rfl⟩
theorem iX2_input_5 : xl_D mX2_input 5 (.aload_n 0) 1 6 := ⟨by decide +kernel, rfl⟩
theorem iX2_input_6 : xl_G mX2_input 6 2 0 9 := ⟨10, by decide +kernel, rfl, fX2_10⟩
theorem iX2_input_9 : xl_G mX2_input 9 1 14 12 := ⟨73, by decide +kernel, rfl, fX2_73⟩
theorem iX2_input_12 : xl_G mX2_input 12 0 3 15 := ⟨76, by decide +kernel, rfl, fX2_76⟩
theorem iX2_input_15 : xl_J mX2_input 15 (fun o => .if_icmp .ge o) 18 27 := ⟨12, by decide +kernel, rfl, rfl⟩
theorem iX2_input_18 : xl_D mX2_input 18 (.iload_n 2) 1 19 := ⟨by decide +kernel, rfl⟩
theorem iX2_input_19 : xl_J mX2_input 19 (fun o => .ifCond .lt o) 22 27 := ⟨8, by decide +kernel, rfl, rfl⟩
theorem iX2_input_22 : xl_D mX2_input 22 (.iload_n 2) 1 23 := ⟨by decide +kernel, rfl⟩
theorem iX2_input_23 : xl_D mX2_input 23 (.iconst 3) 1 24 := ⟨by decide +kernel, rfl⟩
theorem iX2_input_24 : xl_J mX2_input 24 (fun o => .if_icmp .le o) 27 35 := ⟨11, by decide +kernel, rfl, rfl⟩
theorem iX2_input_27 : xl_D mX2_input 27 (.new 128) 3 30 := ⟨by decide +kernel, rfl⟩
theorem iX2_input_30 : xl_D mX2_input 30 (.dup) 1 31 := ⟨by decide +kernel, rfl⟩
theorem iX2_input_31 : xl_D mX2_input 31 (.invokespecial 130) 3 34 := ⟨by decide +kernel, rfl⟩
theorem iX2_input_34 : xl_D mX2_input 34 (.athrow) 1 35 := ⟨by decide +kernel, rfl⟩
theorem iX2_input_35 : xl_D mX2_input 35 (.aload_n 0) 1 36 := ⟨by decide +kernel, rfl⟩
theorem iX2_input_36 : xl_G mX2_input 36 2 0 39 := ⟨10, by decide +kernel, rfl, fX2_10⟩
theorem iX2_input_39 : xl_G mX2_input 39 1 14 42 := ⟨73, by decide +kernel, rfl, fX2_73⟩
theorem iX2_input_42 : xl_D mX2_input 42 (.iload_n 1) 1 43 := ⟨by decide +kernel, rfl⟩
theorem iX2_input_43 : xl_D mX2_input 43 (.iload_n 2) 1 44 := ⟨by decide +kernel, rfl⟩
theorem iX2_input_44 : xl_Ca mX2_input 44 mX0_get 47 := ⟨67, by decide +kernel, rfl, lX2_67, Nat.le_of_ble_eq_true rfl, Nat.le_of_ble_eq_true rfl⟩
theorem iX2_input_47 : xl_D mX2_input 47 (.ireturn) 1 48 := ⟨by decide +kernel, rfl⟩
theorem iX2_day_0 : xl_D mX2_day 0 (.aload_n 0) 1 1 := ⟨by decide +kernel, rfl⟩
theorem iX2_day_1 : xl_Ca mX2_day 1 mX2_takeText 4 := ⟨100, by decide +kernel, rfl, lX2_100, Nat.le_of_ble_eq_true rfl, Nat.le_of_ble_eq_true rfl⟩
theorem iX2_day_4 : xl_D mX2_day 4 (.istore_n 1) 1 5 := ⟨by decide +kernel, rfl⟩
theorem iX2_day_5 : xl_D mX2_day 5 (.aload_n 0) 1 6 := ⟨by decide +kernel, rfl⟩
theorem iX2_day_6 : xl_D mX2_day 6 (.iload_n 1) 1 7 := ⟨by decide +kernel, rfl⟩
theorem iX2_day_7 : xl_Ca mX2_day 7 mX2_dayMisfit 10 := ⟨256, by decide +kernel, rfl, lX2_256, Nat.le_of_ble_eq_true rfl, Nat.le_of_ble_eq_true rfl⟩
theorem iX2_day_10 : xl_D mX2_day 10 (.istore_n 2) 1 11 := ⟨by decide +kernel, rfl⟩
theorem iX2_day_11 : xl_D mX2_day 11 (.iload_n 2) 1 12 := ⟨by decide +kernel, rfl⟩
theorem iX2_day_12 : xl_J mX2_day 12 (fun o => .ifCond .lt o) 15 19 := ⟨7, by decide +kernel, rfl, rfl⟩
theorem iX2_day_15 : xl_D mX2_day 15 (.iconst (-1)) 1 16 := ⟨by decide +kernel, rfl⟩
theorem iX2_day_16 : xl_D mX2_day 16 (.iload_n 2) 1 17 := ⟨by decide +kernel, rfl⟩
theorem iX2_day_17 : xl_D mX2_day 17 (.isub) 1 18 := ⟨by decide +kernel, rfl⟩
theorem iX2_day_18 : xl_D mX2_day 18 (.ireturn) 1 19 := ⟨by decide +kernel, rfl⟩
theorem iX2_day_19 : xl_D mX2_day 19 (.aload_n 0) 1 20 := ⟨by decide +kernel, rfl⟩
theorem iX2_day_20 : xl_G mX2_day 20 2 0 23 := ⟨10, by decide +kernel, rfl, fX2_10⟩
theorem iX2_day_23 : xl_G mX2_day 23 1 4 26 := ⟨87, by decide +kernel, rfl, fX2_87⟩
theorem iX2_day_26 : xl_D mX2_day 26 (.istore_n 3) 1 27 := ⟨by decide +kernel, rfl⟩
theorem iX2_day_27 : xl_D mX2_day 27 (.iconst 0) 1 28 := ⟨by decide +kernel, rfl⟩
theorem iX2_day_28 : xl_D mX2_day 28 (.istore 4) 2 30 := ⟨by decide +kernel, rfl⟩
theorem iX2_day_30 : xl_D mX2_day 30 (.iconst 0) 1 31 := ⟨by decide +kernel, rfl⟩
theorem iX2_day_31 : xl_D mX2_day 31 (.istore 5) 2 33 := ⟨by decide +kernel, rfl⟩
theorem iX2_day_33 : xl_D mX2_day 33 (.iconst 0) 1 34 := ⟨by decide +kernel, rfl⟩
theorem iX2_day_34 : xl_D mX2_day 34 (.istore 6) 2 36 := ⟨by decide +kernel, rfl⟩
theorem iX2_day_36 : xl_D mX2_day 36 (.iconst 0) 1 37 := ⟨by decide +kernel, rfl⟩
theorem iX2_day_37 : xl_D mX2_day 37 (.istore 7) 2 39 := ⟨by decide +kernel, rfl⟩
theorem iX2_day_39 : xl_D mX2_day 39 (.iload 7) 2 41 := ⟨by decide +kernel, rfl⟩
theorem iX2_day_41 : xl_D mX2_day 41 (.bipush 80) 2 43 := ⟨by decide +kernel, rfl⟩
theorem iX2_day_43 : xl_J mX2_day 43 (fun o => .if_icmp .ge o) 46 107 := ⟨64, by decide +kernel, rfl, rfl⟩
theorem iX2_day_46 : xl_D mX2_day 46 (.iload 6) 2 48 := ⟨by decide +kernel, rfl⟩
theorem iX2_day_48 : xl_D mX2_day 48 (.iload_n 1) 1 49 := ⟨by decide +kernel, rfl⟩
theorem iX2_day_49 : xl_J mX2_day 49 (fun o => .if_icmp .ge o) 52 107 := ⟨58, by decide +kernel, rfl, rfl⟩
theorem iX2_day_52 : xl_D mX2_day 52 (.aload_n 0) 1 53 := ⟨by decide +kernel, rfl⟩
theorem iX2_day_53 : xl_D mX2_day 53 (.iload 6) 2 55 := ⟨by decide +kernel, rfl⟩
theorem iX2_day_55 : xl_Ca mX2_day 55 mX2_actRefusal 58 := ⟨259, by decide +kernel, rfl, lX2_259, Nat.le_of_ble_eq_true rfl, Nat.le_of_ble_eq_true rfl⟩
theorem iX2_day_58 : xl_J mX2_day 58 (fun o => .ifCond .ge o) 61 67 := ⟨9, by decide +kernel, rfl, rfl⟩
theorem iX2_day_61 : xl_D mX2_day 61 (.iconst 1) 1 62 := ⟨by decide +kernel, rfl⟩
theorem iX2_day_62 : xl_D mX2_day 62 (.istore 5) 2 64 := ⟨by decide +kernel, rfl⟩
theorem iX2_day_64 : xl_J mX2_day 64 (fun o => .goto o) 67 107 := ⟨43, by decide +kernel, rfl, rfl⟩
theorem iX2_day_67 : xl_D mX2_day 67 (.iload 4) 2 69 := ⟨by decide +kernel, rfl⟩
theorem iX2_day_69 : xl_J mX2_day 69 (fun o => .ifCond .ne o) 72 76 := ⟨7, by decide +kernel, rfl, rfl⟩
theorem iX2_day_72 : xl_D mX2_day 72 (.aload_n 0) 1 73 := ⟨by decide +kernel, rfl⟩
theorem iX2_day_73 : xl_Ca mX2_day 73 mX2_remember 76 := ⟨52, by decide +kernel, rfl, lX2_52, Nat.le_of_ble_eq_true rfl, Nat.le_of_ble_eq_true rfl⟩
theorem iX2_day_76 : xl_D mX2_day 76 (.aload_n 0) 1 77 := ⟨by decide +kernel, rfl⟩
theorem iX2_day_77 : xl_D mX2_day 77 (.iload 6) 2 79 := ⟨by decide +kernel, rfl⟩
theorem iX2_day_79 : xl_Ca mX2_day 79 mX2_comeAct 82 := ⟨262, by decide +kernel, rfl, lX2_262, Nat.le_of_ble_eq_true rfl, Nat.le_of_ble_eq_true rfl⟩
theorem iX2_day_82 : xl_D mX2_day 82 (.iinc 4 1) 3 85 := ⟨by decide +kernel, rfl⟩
theorem iX2_day_85 : xl_D mX2_day 85 (.iload 6) 2 87 := ⟨by decide +kernel, rfl⟩
theorem iX2_day_87 : xl_D mX2_day 87 (.iconst 1) 1 88 := ⟨by decide +kernel, rfl⟩
theorem iX2_day_88 : xl_D mX2_day 88 (.aload_n 0) 1 89 := ⟨by decide +kernel, rfl⟩
theorem iX2_day_89 : xl_D mX2_day 89 (.iload 6) 2 91 := ⟨by decide +kernel, rfl⟩
theorem iX2_day_91 : xl_Ca mX2_day 91 mX2_actForm 94 := ⟨265, by decide +kernel, rfl, lX2_265, Nat.le_of_ble_eq_true rfl, Nat.le_of_ble_eq_true rfl⟩
theorem iX2_day_94 : xl_Ca mX2_day 94 mJ0_length_8abf5 97 := ⟨269, by decide +kernel, rfl, lX2_269, Nat.le_of_ble_eq_true rfl, Nat.le_of_ble_eq_true rfl⟩
theorem iX2_day_97 : xl_D mX2_day 97 (.iadd) 1 98 := ⟨by decide +kernel, rfl⟩
theorem iX2_day_98 : xl_D mX2_day 98 (.iadd) 1 99 := ⟨by decide +kernel, rfl⟩
theorem iX2_day_99 : xl_D mX2_day 99 (.istore 6) 2 101 := ⟨by decide +kernel, rfl⟩
theorem iX2_day_101 : xl_D mX2_day 101 (.iinc 7 1) 3 104 := ⟨by decide +kernel, rfl⟩
theorem iX2_day_104 : xl_J mX2_day 104 (fun o => .goto o) 107 39 := ⟨-65, by decide +kernel, rfl, rfl⟩
theorem iX2_day_107 : xl_D mX2_day 107 (.aload_n 0) 1 108 := ⟨by decide +kernel, rfl⟩
theorem iX2_day_108 : xl_D mX2_day 108 (.iload 5) 2 110 := ⟨by decide +kernel, rfl⟩
theorem iX2_day_110 : xl_D mX2_day 110 (.i2l) 1 111 := ⟨by decide +kernel, rfl⟩
theorem iX2_day_111 : xl_D mX2_day 111 (.aload_n 0) 1 112 := ⟨by decide +kernel, rfl⟩
theorem iX2_day_112 : xl_G mX2_day 112 2 0 115 := ⟨10, by decide +kernel, rfl, fX2_10⟩
theorem iX2_day_115 : xl_G mX2_day 115 1 4 118 := ⟨87, by decide +kernel, rfl, fX2_87⟩
theorem iX2_day_118 : xl_D mX2_day 118 (.iload_n 3) 1 119 := ⟨by decide +kernel, rfl⟩
theorem iX2_day_119 : xl_D mX2_day 119 (.isub) 1 120 := ⟨by decide +kernel, rfl⟩
theorem iX2_day_120 : xl_D mX2_day 120 (.i2l) 1 121 := ⟨by decide +kernel, rfl⟩
theorem iX2_day_121 : xl_Ca mX2_day 121 mX2_tellTwo 124 := ⟨96, by decide +kernel, rfl, lX2_96, Nat.le_of_ble_eq_true rfl, Nat.le_of_ble_eq_true rfl⟩
theorem iX2_day_124 : xl_D mX2_day 124 (.iload 4) 2 126 := ⟨by decide +kernel, rfl⟩
theorem iX2_day_126 : xl_D mX2_day 126 (.ireturn) 1 127 := ⟨by decide +kernel, rfl⟩
theorem iX2_undo_0 : xl_D mX2_undo 0 (.aload_n 0) 1 1 := ⟨by decide +kernel, rfl⟩
theorem iX2_undo_1 : xl_G mX2_undo 1 2 4 4 := ⟨274, by decide +kernel, rfl, fX2_274⟩
theorem iX2_undo_4 : xl_J mX2_undo 4 (fun o => .ifCond .ne o) 7 9 := ⟨5, by decide +kernel, rfl, rfl⟩
theorem iX2_undo_7 : xl_D mX2_undo 7 (.iconst (-1)) 1 8 := ⟨by decide +kernel, rfl⟩
theorem iX2_undo_8 : xl_D mX2_undo 8 (.ireturn) 1 9 := ⟨by decide +kernel, rfl⟩
theorem iX2_undo_9 : xl_D mX2_undo 9 (.aload_n 0) 1 10 := ⟨by decide +kernel, rfl⟩
theorem iX2_undo_10 : xl_D mX2_undo 10 (.dup) 1 11 := ⟨by decide +kernel, rfl⟩
theorem iX2_undo_11 : xl_G mX2_undo 11 2 4 14 := ⟨274, by decide +kernel, rfl, fX2_274⟩
theorem iX2_undo_14 : xl_D mX2_undo 14 (.iconst 1) 1 15 := ⟨by decide +kernel, rfl⟩
theorem iX2_undo_15 : xl_D mX2_undo 15 (.isub) 1 16 := ⟨by decide +kernel, rfl⟩
theorem iX2_undo_16 : xl_P mX2_undo 16 2 4 .int 19 := ⟨274, by decide +kernel, rfl, wX2_274⟩
theorem iX2_undo_19 : xl_D mX2_undo 19 (.aload_n 0) 1 20 := ⟨by decide +kernel, rfl⟩
theorem iX2_undo_20 : xl_G mX2_undo 20 2 0 23 := ⟨10, by decide +kernel, rfl, fX2_10⟩
theorem iX2_undo_23 : xl_D mX2_undo 23 (.aload_n 0) 1 24 := ⟨by decide +kernel, rfl⟩
theorem iX2_undo_24 : xl_G mX2_undo 24 2 2 27 := ⟨19, by decide +kernel, rfl, fX2_19⟩
theorem iX2_undo_27 : xl_D mX2_undo 27 (.aload_n 0) 1 28 := ⟨by decide +kernel, rfl⟩
theorem iX2_undo_28 : xl_G mX2_undo 28 2 3 31 := ⟨277, by decide +kernel, rfl, fX2_277⟩
theorem iX2_undo_31 : xl_D mX2_undo 31 (.aload_n 0) 1 32 := ⟨by decide +kernel, rfl⟩
theorem iX2_undo_32 : xl_G mX2_undo 32 2 4 35 := ⟨274, by decide +kernel, rfl, fX2_274⟩
theorem iX2_undo_35 : xl_D mX2_undo 35 (.iadd) 1 36 := ⟨by decide +kernel, rfl⟩
theorem iX2_undo_36 : xl_D mX2_undo 36 (.bipush 6) 2 38 := ⟨by decide +kernel, rfl⟩
theorem iX2_undo_38 : xl_D mX2_undo 38 (.irem) 1 39 := ⟨by decide +kernel, rfl⟩
theorem iX2_undo_39 : xl_D mX2_undo 39 (.aaload) 1 40 := ⟨by decide +kernel, rfl⟩
theorem iX2_undo_40 : xl_Ca mX2_undo 40 mX1_copyFrom 43 := ⟨222, by decide +kernel, rfl, lX2_222, Nat.le_of_ble_eq_true rfl, Nat.le_of_ble_eq_true rfl⟩
theorem iX2_undo_43 : xl_D mX2_undo 43 (.aload_n 0) 1 44 := ⟨by decide +kernel, rfl⟩
theorem iX2_undo_44 : xl_G mX2_undo 44 2 4 47 := ⟨274, by decide +kernel, rfl, fX2_274⟩
theorem iX2_undo_47 : xl_D mX2_undo 47 (.ireturn) 1 48 := ⟨by decide +kernel, rfl⟩
theorem iX2_years_0 : xl_D mX2_years 0 (.iload_n 2) 1 1 := ⟨by decide +kernel, rfl⟩
theorem iX2_years_1 : xl_D mX2_years 1 (.iconst 1) 1 2 := ⟨by decide +kernel, rfl⟩
theorem iX2_years_2 : xl_J mX2_years 2 (fun o => .if_icmp .lt o) 5 11 := ⟨9, by decide +kernel, rfl, rfl⟩
theorem iX2_years_5 : xl_D mX2_years 5 (.iload_n 2) 1 6 := ⟨by decide +kernel, rfl⟩
theorem iX2_years_6 : xl_D mX2_years 6 (.bipush 40) 2 8 := ⟨by decide +kernel, rfl⟩
theorem iX2_years_8 : xl_J mX2_years 8 (fun o => .if_icmp .le o) 11 13 := ⟨5, by decide +kernel, rfl, rfl⟩
theorem iX2_years_11 : xl_D mX2_years 11 (.iconst (-1)) 1 12 := ⟨by decide +kernel, rfl⟩
theorem iX2_years_12 : xl_D mX2_years 12 (.ireturn) 1 13 := ⟨by decide +kernel, rfl⟩
theorem iX2_years_13 : xl_D mX2_years 13 (.aload_n 0) 1 14 := ⟨by decide +kernel, rfl⟩
theorem iX2_years_14 : xl_G mX2_years 14 2 1 17 := ⟨16, by decide +kernel, rfl, fX2_16⟩
theorem iX2_years_17 : xl_D mX2_years 17 (.aload_n 0) 1 18 := ⟨by decide +kernel, rfl⟩
theorem iX2_years_18 : xl_G mX2_years 18 2 0 21 := ⟨10, by decide +kernel, rfl, fX2_10⟩
theorem iX2_years_21 : xl_Ca mX2_years 21 mX1_copyFrom 24 := ⟨222, by decide +kernel, rfl, lX2_222, Nat.le_of_ble_eq_true rfl, Nat.le_of_ble_eq_true rfl⟩
theorem iX2_years_24 : xl_D mX2_years 24 (.iload_n 2) 1 25 := ⟨by decide +kernel, rfl⟩
theorem iX2_years_25 : xl_D mX2_years 25 (.sipush 160) 3 28 := ⟨by decide +kernel, rfl⟩
theorem iX2_years_28 : xl_D mX2_years 28 (.aload_n 0) 1 29 := ⟨by decide +kernel, rfl⟩
theorem iX2_years_29 : xl_G mX2_years 29 2 0 32 := ⟨10, by decide +kernel, rfl, fX2_10⟩
theorem iX2_years_32 : xl_G mX2_years 32 1 14 35 := ⟨73, by decide +kernel, rfl, fX2_73⟩
theorem iX2_years_35 : xl_G mX2_years 35 0 3 38 := ⟨76, by decide +kernel, rfl, fX2_76⟩
theorem iX2_years_38 : xl_D mX2_years 38 (.isub) 1 39 := ⟨by decide +kernel, rfl⟩
theorem iX2_years_39 : xl_Cm mX2_years 39 Lib.Math.min.name Lib.Math.min.code 42 := ⟨244, by decide +kernel, rfl, lX2_244, xl_stmin, xl_iMath, xl_comin, Nat.le_of_ble_eq_true rfl, Nat.le_of_ble_eq_true rfl⟩
theorem iX2_years_42 : xl_D mX2_years 42 (.istore_n 3) 1 43 := ⟨by decide +kernel, rfl⟩
theorem iX2_years_43 : xl_D mX2_years 43 (.iconst 1) 1 44 := ⟨by decide +kernel, rfl⟩
theorem iX2_years_44 : xl_D mX2_years 44 (.aload_n 0) 1 45 := ⟨by decide +kernel, rfl⟩
theorem iX2_years_45 : xl_G mX2_years 45 2 0 48 := ⟨10, by decide +kernel, rfl, fX2_10⟩
theorem iX2_years_48 : xl_G mX2_years 48 1 10 51 := ⟨63, by decide +kernel, rfl, fX2_63⟩
theorem iX2_years_51 : xl_G mX2_years 51 0 3 54 := ⟨76, by decide +kernel, rfl, fX2_76⟩
theorem iX2_years_54 : xl_Cm mX2_years 54 Lib.Math.max.name Lib.Math.max.code 57 := ⟨207, by decide +kernel, rfl, lX2_207, xl_stmax, xl_iMath, xl_comax, Nat.le_of_ble_eq_true rfl, Nat.le_of_ble_eq_true rfl⟩
theorem iX2_years_57 : xl_D mX2_years 57 (.istore 4) 2 59 := ⟨by decide +kernel, rfl⟩
theorem iX2_years_59 : xl_D mX2_years 59 (.iload_n 1) 1 60 := ⟨by decide +kernel, rfl⟩
theorem iX2_years_60 : xl_D mX2_years 60 (.istore 5) 2 62 := ⟨by decide +kernel, rfl⟩
theorem iX2_years_62 : xl_D mX2_years 62 (.iconst 0) 1 63 := ⟨by decide +kernel, rfl⟩
theorem iX2_years_63 : xl_D mX2_years 63 (.istore 6) 2 65 := ⟨by decide +kernel, rfl⟩
theorem iX2_years_65 : xl_D mX2_years 65 (.iload 6) 2 67 := ⟨by decide +kernel, rfl⟩
theorem iX2_years_67 : xl_D mX2_years 67 (.iload_n 3) 1 68 := ⟨by decide +kernel, rfl⟩
theorem iX2_years_68 : xl_J mX2_years 68 (fun o => .if_icmp .ge o) 71 187 := ⟨119, by decide +kernel, rfl, rfl⟩
theorem iX2_years_71 : xl_D mX2_years 71 (.iload 5) 2 73 := ⟨by decide +kernel, rfl⟩
theorem iX2_years_73 : xl_Cs mX2_years 73 mX2_drawAfter 76 := ⟨280, by decide +kernel, rfl, lX2_280, Nat.le_of_ble_eq_true rfl, Nat.le_of_ble_eq_true rfl⟩
theorem iX2_years_76 : xl_D mX2_years 76 (.istore 5) 2 78 := ⟨by decide +kernel, rfl⟩
theorem iX2_years_78 : xl_D mX2_years 78 (.iload 5) 2 80 := ⟨by decide +kernel, rfl⟩
theorem iX2_years_80 : xl_D mX2_years 80 (.bipush 6) 2 82 := ⟨by decide +kernel, rfl⟩
theorem iX2_years_82 : xl_Cs mX2_years 82 mX2_drawOf 85 := ⟨283, by decide +kernel, rfl, lX2_283, Nat.le_of_ble_eq_true rfl, Nat.le_of_ble_eq_true rfl⟩
theorem iX2_years_85 : xl_D mX2_years 85 (.istore 7) 2 87 := ⟨by decide +kernel, rfl⟩
theorem iX2_years_87 : xl_D mX2_years 87 (.iload 5) 2 89 := ⟨by decide +kernel, rfl⟩
theorem iX2_years_89 : xl_Cs mX2_years 89 mX2_drawAfter 92 := ⟨280, by decide +kernel, rfl, lX2_280, Nat.le_of_ble_eq_true rfl, Nat.le_of_ble_eq_true rfl⟩
theorem iX2_years_92 : xl_D mX2_years 92 (.istore 5) 2 94 := ⟨by decide +kernel, rfl⟩
theorem iX2_years_94 : xl_D mX2_years 94 (.aload_n 0) 1 95 := ⟨by decide +kernel, rfl⟩
theorem iX2_years_95 : xl_G mX2_years 95 2 1 98 := ⟨16, by decide +kernel, rfl, fX2_16⟩
theorem iX2_years_98 : xl_G mX2_years 98 1 3 101 := ⟨93, by decide +kernel, rfl, fX2_93⟩
theorem iX2_years_101 : xl_D mX2_years 101 (.aload_n 0) 1 102 := ⟨by decide +kernel, rfl⟩
theorem iX2_years_102 : xl_G mX2_years 102 2 1 105 := ⟨16, by decide +kernel, rfl, fX2_16⟩
theorem iX2_years_105 : xl_G mX2_years 105 1 1 108 := ⟨250, by decide +kernel, rfl, fX2_250⟩
theorem iX2_years_108 : xl_D mX2_years 108 (.isub) 1 109 := ⟨by decide +kernel, rfl⟩
theorem iX2_years_109 : xl_D mX2_years 109 (.iload 5) 2 111 := ⟨by decide +kernel, rfl⟩
theorem iX2_years_111 : xl_D mX2_years 111 (.bipush 100) 2 113 := ⟨by decide +kernel, rfl⟩
theorem iX2_years_113 : xl_Cs mX2_years 113 mX2_drawOf 116 := ⟨283, by decide +kernel, rfl, lX2_283, Nat.le_of_ble_eq_true rfl, Nat.le_of_ble_eq_true rfl⟩
theorem iX2_years_116 : xl_D mX2_years 116 (.iadd) 1 117 := ⟨by decide +kernel, rfl⟩
theorem iX2_years_117 : xl_D mX2_years 117 (.istore 8) 2 119 := ⟨by decide +kernel, rfl⟩
theorem iX2_years_119 : xl_D mX2_years 119 (.iload 5) 2 121 := ⟨by decide +kernel, rfl⟩
theorem iX2_years_121 : xl_Cs mX2_years 121 mX2_drawAfter 124 := ⟨280, by decide +kernel, rfl, lX2_280, Nat.le_of_ble_eq_true rfl, Nat.le_of_ble_eq_true rfl⟩
theorem iX2_years_124 : xl_D mX2_years 124 (.istore 5) 2 126 := ⟨by decide +kernel, rfl⟩
theorem iX2_years_126 : xl_D mX2_years 126 (.iload 5) 2 128 := ⟨by decide +kernel, rfl⟩
theorem iX2_years_128 : xl_D mX2_years 128 (.sipush 199) 3 131 := ⟨by decide +kernel, rfl⟩
theorem iX2_years_131 : xl_Cs mX2_years 131 mX2_drawOf 134 := ⟨283, by decide +kernel, rfl, lX2_283, Nat.le_of_ble_eq_true rfl, Nat.le_of_ble_eq_true rfl⟩
theorem iX2_years_134 : xl_D mX2_years 134 (.bipush 99) 2 136 := ⟨by decide +kernel, rfl⟩
theorem iX2_years_136 : xl_D mX2_years 136 (.isub) 1 137 := ⟨by decide +kernel, rfl⟩
theorem iX2_years_137 : xl_D mX2_years 137 (.istore 9) 2 139 := ⟨by decide +kernel, rfl⟩
theorem iX2_years_139 : xl_D mX2_years 139 (.iload 5) 2 141 := ⟨by decide +kernel, rfl⟩
theorem iX2_years_141 : xl_Cs mX2_years 141 mX2_drawAfter 144 := ⟨280, by decide +kernel, rfl, lX2_280, Nat.le_of_ble_eq_true rfl, Nat.le_of_ble_eq_true rfl⟩
theorem iX2_years_144 : xl_D mX2_years 144 (.istore 5) 2 146 := ⟨by decide +kernel, rfl⟩
theorem iX2_years_146 : xl_D mX2_years 146 (.iload 5) 2 148 := ⟨by decide +kernel, rfl⟩
theorem iX2_years_148 : xl_D mX2_years 148 (.iload 4) 2 150 := ⟨by decide +kernel, rfl⟩
theorem iX2_years_150 : xl_Cs mX2_years 150 mX2_drawOf 153 := ⟨283, by decide +kernel, rfl, lX2_283, Nat.le_of_ble_eq_true rfl, Nat.le_of_ble_eq_true rfl⟩
theorem iX2_years_153 : xl_D mX2_years 153 (.istore 10) 2 155 := ⟨by decide +kernel, rfl⟩
theorem iX2_years_155 : xl_D mX2_years 155 (.aload_n 0) 1 156 := ⟨by decide +kernel, rfl⟩
theorem iX2_years_156 : xl_G mX2_years 156 2 1 159 := ⟨16, by decide +kernel, rfl, fX2_16⟩
theorem iX2_years_159 : xl_D mX2_years 159 (.iload 7) 2 161 := ⟨by decide +kernel, rfl⟩
theorem iX2_years_161 : xl_D mX2_years 161 (.iconst 0) 1 162 := ⟨by decide +kernel, rfl⟩
theorem iX2_years_162 : xl_D mX2_years 162 (.sipush 9999) 3 165 := ⟨by decide +kernel, rfl⟩
theorem iX2_years_165 : xl_D mX2_years 165 (.iload 8) 2 167 := ⟨by decide +kernel, rfl⟩
theorem iX2_years_167 : xl_Cm mX2_years 167 Lib.Math.min.name Lib.Math.min.code 170 := ⟨244, by decide +kernel, rfl, lX2_244, xl_stmin, xl_iMath, xl_comin, Nat.le_of_ble_eq_true rfl, Nat.le_of_ble_eq_true rfl⟩
theorem iX2_years_170 : xl_Cm mX2_years 170 Lib.Math.max.name Lib.Math.max.code 173 := ⟨207, by decide +kernel, rfl, lX2_207, xl_stmax, xl_iMath, xl_comax, Nat.le_of_ble_eq_true rfl, Nat.le_of_ble_eq_true rfl⟩
theorem iX2_years_173 : xl_D mX2_years 173 (.iload 9) 2 175 := ⟨by decide +kernel, rfl⟩
theorem iX2_years_175 : xl_D mX2_years 175 (.iload 10) 2 177 := ⟨by decide +kernel, rfl⟩
theorem iX2_years_177 : xl_Ca mX2_years 177 mX1_playEvent 180 := ⟨226, by decide +kernel, rfl, lX2_226, Nat.le_of_ble_eq_true rfl, Nat.le_of_ble_eq_true rfl⟩
theorem iX2_years_180 : xl_D mX2_years 180 (.pop) 1 181 := ⟨by decide +kernel, rfl⟩
theorem iX2_years_181 : xl_D mX2_years 181 (.iinc 6 1) 3 184 := ⟨by decide +kernel, rfl⟩
theorem iX2_years_184 : xl_J mX2_years 184 (fun o => .goto o) 187 65 := ⟨-119, by decide +kernel, rfl, rfl⟩
theorem iX2_years_187 : xl_D mX2_years 187 (.aload_n 0) 1 188 := ⟨by decide +kernel, rfl⟩
theorem iX2_years_188 : xl_D mX2_years 188 (.aload_n 0) 1 189 := ⟨by decide +kernel, rfl⟩
theorem iX2_years_189 : xl_G mX2_years 189 2 1 192 := ⟨16, by decide +kernel, rfl, fX2_16⟩
theorem iX2_years_192 : xl_G mX2_years 192 1 4 195 := ⟨87, by decide +kernel, rfl, fX2_87⟩
theorem iX2_years_195 : xl_D mX2_years 195 (.aload_n 0) 1 196 := ⟨by decide +kernel, rfl⟩
theorem iX2_years_196 : xl_G mX2_years 196 2 0 199 := ⟨10, by decide +kernel, rfl, fX2_10⟩
theorem iX2_years_199 : xl_G mX2_years 199 1 4 202 := ⟨87, by decide +kernel, rfl, fX2_87⟩
theorem iX2_years_202 : xl_D mX2_years 202 (.isub) 1 203 := ⟨by decide +kernel, rfl⟩
theorem iX2_years_203 : xl_D mX2_years 203 (.i2l) 1 204 := ⟨by decide +kernel, rfl⟩
theorem iX2_years_204 : xl_D mX2_years 204 (.aload_n 0) 1 205 := ⟨by decide +kernel, rfl⟩
theorem iX2_years_205 : xl_G mX2_years 205 2 1 208 := ⟨16, by decide +kernel, rfl, fX2_16⟩
theorem iX2_years_208 : xl_G mX2_years 208 1 3 211 := ⟨93, by decide +kernel, rfl, fX2_93⟩
theorem iX2_years_211 : xl_D mX2_years 211 (.i2l) 1 212 := ⟨by decide +kernel, rfl⟩
theorem iX2_years_212 : xl_Ca mX2_years 212 mX2_tellTwo 215 := ⟨96, by decide +kernel, rfl, lX2_96, Nat.le_of_ble_eq_true rfl, Nat.le_of_ble_eq_true rfl⟩
theorem iX2_years_215 : xl_D mX2_years 215 (.aload_n 0) 1 216 := ⟨by decide +kernel, rfl⟩
theorem iX2_years_216 : xl_G mX2_years 216 2 1 219 := ⟨16, by decide +kernel, rfl, fX2_16⟩
theorem iX2_years_219 : xl_G mX2_years 219 1 6 222 := ⟨204, by decide +kernel, rfl, fX2_204⟩
theorem iX2_years_222 : xl_D mX2_years 222 (.aload_n 0) 1 223 := ⟨by decide +kernel, rfl⟩
theorem iX2_years_223 : xl_G mX2_years 223 2 0 226 := ⟨10, by decide +kernel, rfl, fX2_10⟩
theorem iX2_years_226 : xl_G mX2_years 226 1 6 229 := ⟨204, by decide +kernel, rfl, fX2_204⟩
theorem iX2_years_229 : xl_D mX2_years 229 (.isub) 1 230 := ⟨by decide +kernel, rfl⟩
theorem iX2_years_230 : xl_D mX2_years 230 (.ireturn) 1 231 := ⟨by decide +kernel, rfl⟩
theorem iX2_keep_0 : xl_D mX2_keep 0 (.iload_n 1) 1 1 := ⟨by decide +kernel, rfl⟩
theorem iX2_keep_1 : xl_J mX2_keep 1 (fun o => .ifCond .lt o) 4 9 := ⟨8, by decide +kernel, rfl, rfl⟩
theorem iX2_keep_4 : xl_D mX2_keep 4 (.iload_n 1) 1 5 := ⟨by decide +kernel, rfl⟩
theorem iX2_keep_5 : xl_D mX2_keep 5 (.iconst 2) 1 6 := ⟨by decide +kernel, rfl⟩
theorem iX2_keep_6 : xl_J mX2_keep 6 (fun o => .if_icmp .lt o) 9 11 := ⟨5, by decide +kernel, rfl, rfl⟩
theorem iX2_keep_9 : xl_D mX2_keep 9 (.iconst 0) 1 10 := ⟨by decide +kernel, rfl⟩
theorem iX2_keep_10 : xl_D mX2_keep 10 (.ireturn) 1 11 := ⟨by decide +kernel, rfl⟩
theorem iX2_keep_11 : xl_D mX2_keep 11 (.aload_n 0) 1 12 := ⟨by decide +kernel, rfl⟩
theorem iX2_keep_12 : xl_G mX2_keep 12 2 5 15 := ⟨23, by decide +kernel, rfl, fX2_23⟩
theorem iX2_keep_15 : xl_D mX2_keep 15 (.iload_n 1) 1 16 := ⟨by decide +kernel, rfl⟩
theorem iX2_keep_16 : xl_D mX2_keep 16 (.aaload) 1 17 := ⟨by decide +kernel, rfl⟩
theorem iX2_keep_17 : xl_D mX2_keep 17 (.astore_n 2) 1 18 := ⟨by decide +kernel, rfl⟩
theorem iX2_keep_18 : xl_D mX2_keep 18 (.aload_n 2) 1 19 := ⟨by decide +kernel, rfl⟩
theorem iX2_keep_19 : xl_J mX2_keep 19 (fun o => .ifnonnull o) 22 24 := ⟨5, by decide +kernel, rfl, rfl⟩
theorem iX2_keep_22 : xl_D mX2_keep 22 (.iconst 0) 1 23 := ⟨by decide +kernel, rfl⟩
theorem iX2_keep_23 : xl_D mX2_keep 23 (.ireturn) 1 24 := ⟨by decide +kernel, rfl⟩
theorem iX2_keep_24 : xl_D mX2_keep 24 (.aload_n 2) 1 25 := ⟨by decide +kernel, rfl⟩
theorem iX2_keep_25 : xl_D mX2_keep 25 (.aload_n 0) 1 26 := ⟨by decide +kernel, rfl⟩
theorem iX2_keep_26 : xl_G mX2_keep 26 2 0 29 := ⟨10, by decide +kernel, rfl, fX2_10⟩
theorem iX2_keep_29 : xl_Ca mX2_keep 29 mX1_copyFrom 32 := ⟨222, by decide +kernel, rfl, lX2_222, Nat.le_of_ble_eq_true rfl, Nat.le_of_ble_eq_true rfl⟩
theorem iX2_keep_32 : xl_D mX2_keep 32 (.aload_n 0) 1 33 := ⟨by decide +kernel, rfl⟩
theorem iX2_keep_33 : xl_D mX2_keep 33 (.dup) 1 34 := ⟨by decide +kernel, rfl⟩
theorem iX2_keep_34 : xl_G mX2_keep 34 2 6 37 := ⟨286, by decide +kernel, rfl, fX2_286⟩
theorem iX2_keep_37 : xl_D mX2_keep 37 (.iconst 1) 1 38 := ⟨by decide +kernel, rfl⟩
theorem iX2_keep_38 : xl_D mX2_keep 38 (.iload_n 1) 1 39 := ⟨by decide +kernel, rfl⟩
theorem iX2_keep_39 : xl_D mX2_keep 39 (.ishl) 1 40 := ⟨by decide +kernel, rfl⟩
theorem iX2_keep_40 : xl_D mX2_keep 40 (.ior) 1 41 := ⟨by decide +kernel, rfl⟩
theorem iX2_keep_41 : xl_P mX2_keep 41 2 6 .int 44 := ⟨286, by decide +kernel, rfl, wX2_286⟩
theorem iX2_keep_44 : xl_D mX2_keep 44 (.iconst 1) 1 45 := ⟨by decide +kernel, rfl⟩
theorem iX2_keep_45 : xl_D mX2_keep 45 (.ireturn) 1 46 := ⟨by decide +kernel, rfl⟩
theorem iX2_back_0 : xl_D mX2_back 0 (.iload_n 1) 1 1 := ⟨by decide +kernel, rfl⟩
theorem iX2_back_1 : xl_J mX2_back 1 (fun o => .ifCond .lt o) 4 20 := ⟨19, by decide +kernel, rfl, rfl⟩
theorem iX2_back_4 : xl_D mX2_back 4 (.iload_n 1) 1 5 := ⟨by decide +kernel, rfl⟩
theorem iX2_back_5 : xl_D mX2_back 5 (.iconst 2) 1 6 := ⟨by decide +kernel, rfl⟩
theorem iX2_back_6 : xl_J mX2_back 6 (fun o => .if_icmp .ge o) 9 20 := ⟨14, by decide +kernel, rfl, rfl⟩
theorem iX2_back_9 : xl_D mX2_back 9 (.aload_n 0) 1 10 := ⟨by decide +kernel, rfl⟩
theorem iX2_back_10 : xl_G mX2_back 10 2 6 13 := ⟨286, by decide +kernel, rfl, fX2_286⟩
theorem iX2_back_13 : xl_D mX2_back 13 (.iconst 1) 1 14 := ⟨by decide +kernel, rfl⟩
theorem iX2_back_14 : xl_D mX2_back 14 (.iload_n 1) 1 15 := ⟨by decide +kernel, rfl⟩
theorem iX2_back_15 : xl_D mX2_back 15 (.ishl) 1 16 := ⟨by decide +kernel, rfl⟩
theorem iX2_back_16 : xl_D mX2_back 16 (.iand) 1 17 := ⟨by decide +kernel, rfl⟩
theorem iX2_back_17 : xl_J mX2_back 17 (fun o => .ifCond .ne o) 20 22 := ⟨5, by decide +kernel, rfl, rfl⟩
theorem iX2_back_20 : xl_D mX2_back 20 (.iconst 0) 1 21 := ⟨by decide +kernel, rfl⟩
theorem iX2_back_21 : xl_D mX2_back 21 (.ireturn) 1 22 := ⟨by decide +kernel, rfl⟩
theorem iX2_back_22 : xl_D mX2_back 22 (.aload_n 0) 1 23 := ⟨by decide +kernel, rfl⟩
theorem iX2_back_23 : xl_G mX2_back 23 2 0 26 := ⟨10, by decide +kernel, rfl, fX2_10⟩
theorem iX2_back_26 : xl_D mX2_back 26 (.aload_n 0) 1 27 := ⟨by decide +kernel, rfl⟩
theorem iX2_back_27 : xl_G mX2_back 27 2 5 30 := ⟨23, by decide +kernel, rfl, fX2_23⟩
theorem iX2_back_30 : xl_D mX2_back 30 (.iload_n 1) 1 31 := ⟨by decide +kernel, rfl⟩
theorem iX2_back_31 : xl_D mX2_back 31 (.aaload) 1 32 := ⟨by decide +kernel, rfl⟩
theorem iX2_back_32 : xl_Ca mX2_back 32 mX1_copyFrom 35 := ⟨222, by decide +kernel, rfl, lX2_222, Nat.le_of_ble_eq_true rfl, Nat.le_of_ble_eq_true rfl⟩
theorem iX2_back_35 : xl_D mX2_back 35 (.aload_n 0) 1 36 := ⟨by decide +kernel, rfl⟩
theorem iX2_back_36 : xl_D mX2_back 36 (.iconst 0) 1 37 := ⟨by decide +kernel, rfl⟩
theorem iX2_back_37 : xl_P mX2_back 37 2 4 .int 40 := ⟨274, by decide +kernel, rfl, wX2_274⟩
theorem iX2_back_40 : xl_D mX2_back 40 (.iconst 1) 1 41 := ⟨by decide +kernel, rfl⟩
theorem iX2_back_41 : xl_D mX2_back 41 (.ireturn) 1 42 := ⟨by decide +kernel, rfl⟩
theorem iX2_count_0 : xl_D mX2_count 0 (.iload_n 1) 1 1 := ⟨by decide +kernel, rfl⟩
theorem iX2_count_1 : xl_D mX2_count 1 (.tableswitch 147 0 10 #[59, 70, 78, 86, 94, 102, 113, 124, 132, 137, 142]) 59 60 := ⟨by decide +kernel, rfl⟩
theorem iX2_count_60 : xl_D mX2_count 60 (.aload_n 0) 1 61 := ⟨by decide +kernel, rfl⟩
theorem iX2_count_61 : xl_G mX2_count 61 2 0 64 := ⟨10, by decide +kernel, rfl, fX2_10⟩
theorem iX2_count_64 : xl_G mX2_count 64 1 10 67 := ⟨63, by decide +kernel, rfl, fX2_63⟩
theorem iX2_count_67 : xl_G mX2_count 67 0 3 70 := ⟨76, by decide +kernel, rfl, fX2_76⟩
theorem iX2_count_70 : xl_D mX2_count 70 (.ireturn) 1 71 := ⟨by decide +kernel, rfl⟩
theorem iX2_count_71 : xl_D mX2_count 71 (.aload_n 0) 1 72 := ⟨by decide +kernel, rfl⟩
theorem iX2_count_72 : xl_G mX2_count 72 2 0 75 := ⟨10, by decide +kernel, rfl, fX2_10⟩
theorem iX2_count_75 : xl_G mX2_count 75 1 0 78 := ⟨212, by decide +kernel, rfl, fX2_212⟩
theorem iX2_count_78 : xl_D mX2_count 78 (.ireturn) 1 79 := ⟨by decide +kernel, rfl⟩
theorem iX2_count_79 : xl_D mX2_count 79 (.aload_n 0) 1 80 := ⟨by decide +kernel, rfl⟩
theorem iX2_count_80 : xl_G mX2_count 80 2 0 83 := ⟨10, by decide +kernel, rfl, fX2_10⟩
theorem iX2_count_83 : xl_G mX2_count 83 1 1 86 := ⟨250, by decide +kernel, rfl, fX2_250⟩
theorem iX2_count_86 : xl_D mX2_count 86 (.ireturn) 1 87 := ⟨by decide +kernel, rfl⟩
theorem iX2_count_87 : xl_D mX2_count 87 (.aload_n 0) 1 88 := ⟨by decide +kernel, rfl⟩
theorem iX2_count_88 : xl_G mX2_count 88 2 0 91 := ⟨10, by decide +kernel, rfl, fX2_10⟩
theorem iX2_count_91 : xl_G mX2_count 91 1 2 94 := ⟨253, by decide +kernel, rfl, fX2_253⟩
theorem iX2_count_94 : xl_D mX2_count 94 (.ireturn) 1 95 := ⟨by decide +kernel, rfl⟩
theorem iX2_count_95 : xl_D mX2_count 95 (.aload_n 0) 1 96 := ⟨by decide +kernel, rfl⟩
theorem iX2_count_96 : xl_G mX2_count 96 2 0 99 := ⟨10, by decide +kernel, rfl, fX2_10⟩
theorem iX2_count_99 : xl_G mX2_count 99 1 3 102 := ⟨93, by decide +kernel, rfl, fX2_93⟩
theorem iX2_count_102 : xl_D mX2_count 102 (.ireturn) 1 103 := ⟨by decide +kernel, rfl⟩
theorem iX2_count_103 : xl_D mX2_count 103 (.aload_n 0) 1 104 := ⟨by decide +kernel, rfl⟩
theorem iX2_count_104 : xl_G mX2_count 104 2 0 107 := ⟨10, by decide +kernel, rfl, fX2_10⟩
theorem iX2_count_107 : xl_G mX2_count 107 1 11 110 := ⟨131, by decide +kernel, rfl, fX2_131⟩
theorem iX2_count_110 : xl_G mX2_count 110 0 3 113 := ⟨76, by decide +kernel, rfl, fX2_76⟩
theorem iX2_count_113 : xl_D mX2_count 113 (.ireturn) 1 114 := ⟨by decide +kernel, rfl⟩
theorem iX2_count_114 : xl_D mX2_count 114 (.aload_n 0) 1 115 := ⟨by decide +kernel, rfl⟩
theorem iX2_count_115 : xl_G mX2_count 115 2 0 118 := ⟨10, by decide +kernel, rfl, fX2_10⟩
theorem iX2_count_118 : xl_G mX2_count 118 1 14 121 := ⟨73, by decide +kernel, rfl, fX2_73⟩
theorem iX2_count_121 : xl_G mX2_count 121 0 3 124 := ⟨76, by decide +kernel, rfl, fX2_76⟩
theorem iX2_count_124 : xl_D mX2_count 124 (.ireturn) 1 125 := ⟨by decide +kernel, rfl⟩
theorem iX2_count_125 : xl_D mX2_count 125 (.aload_n 0) 1 126 := ⟨by decide +kernel, rfl⟩
theorem iX2_count_126 : xl_G mX2_count 126 2 0 129 := ⟨10, by decide +kernel, rfl, fX2_10⟩
theorem iX2_count_129 : xl_G mX2_count 129 1 4 132 := ⟨87, by decide +kernel, rfl, fX2_87⟩
theorem iX2_count_132 : xl_D mX2_count 132 (.ireturn) 1 133 := ⟨by decide +kernel, rfl⟩
theorem iX2_count_133 : xl_D mX2_count 133 (.aload_n 0) 1 134 := ⟨by decide +kernel, rfl⟩
theorem iX2_count_134 : xl_G mX2_count 134 2 4 137 := ⟨274, by decide +kernel, rfl, fX2_274⟩
theorem iX2_count_137 : xl_D mX2_count 137 (.ireturn) 1 138 := ⟨by decide +kernel, rfl⟩
theorem iX2_count_138 : xl_D mX2_count 138 (.aload_n 0) 1 139 := ⟨by decide +kernel, rfl⟩
theorem iX2_count_139 : xl_G mX2_count 139 2 8 142 := ⟨289, by decide +kernel, rfl, fX2_289⟩
theorem iX2_count_142 : xl_D mX2_count 142 (.ireturn) 1 143 := ⟨by decide +kernel, rfl⟩
theorem iX2_count_143 : xl_D mX2_count 143 (.aload_n 0) 1 144 := ⟨by decide +kernel, rfl⟩
theorem iX2_count_144 : xl_G mX2_count 144 2 10 147 := ⟨40, by decide +kernel, rfl, fX2_40⟩
theorem iX2_count_147 : xl_D mX2_count 147 (.ireturn) 1 148 := ⟨by decide +kernel, rfl⟩
theorem iX2_count_148 : xl_D mX2_count 148 (.iconst (-1)) 1 149 := ⟨by decide +kernel, rfl⟩
theorem iX2_count_149 : xl_D mX2_count 149 (.ireturn) 1 150 := ⟨by decide +kernel, rfl⟩
theorem iX2_row_0 : xl_D mX2_row 0 (.iload_n 1) 1 1 := ⟨by decide +kernel, rfl⟩
theorem iX2_row_1 : xl_J mX2_row 1 (fun o => .ifCond .lt o) 4 21 := ⟨20, by decide +kernel, rfl, rfl⟩
theorem iX2_row_4 : xl_D mX2_row 4 (.iload_n 1) 1 5 := ⟨by decide +kernel, rfl⟩
theorem iX2_row_5 : xl_D mX2_row 5 (.aload_n 0) 1 6 := ⟨by decide +kernel, rfl⟩
theorem iX2_row_6 : xl_G mX2_row 6 2 8 9 := ⟨289, by decide +kernel, rfl, fX2_289⟩
theorem iX2_row_9 : xl_J mX2_row 9 (fun o => .if_icmp .ge o) 12 21 := ⟨12, by decide +kernel, rfl, rfl⟩
theorem iX2_row_12 : xl_D mX2_row 12 (.iload_n 1) 1 13 := ⟨by decide +kernel, rfl⟩
theorem iX2_row_13 : xl_D mX2_row 13 (.aload_n 0) 1 14 := ⟨by decide +kernel, rfl⟩
theorem iX2_row_14 : xl_G mX2_row 14 2 7 17 := ⟨26, by decide +kernel, rfl, fX2_26⟩
theorem iX2_row_17 : xl_D mX2_row 17 (.arraylength) 1 18 := ⟨by decide +kernel, rfl⟩
theorem iX2_row_18 : xl_J mX2_row 18 (fun o => .if_icmp .lt o) 21 29 := ⟨11, by decide +kernel, rfl, rfl⟩
theorem iX2_row_21 : xl_D mX2_row 21 (.new 128) 3 24 := ⟨by decide +kernel, rfl⟩
theorem iX2_row_24 : xl_D mX2_row 24 (.dup) 1 25 := ⟨by decide +kernel, rfl⟩
theorem iX2_row_25 : xl_D mX2_row 25 (.invokespecial 130) 3 28 := ⟨by decide +kernel, rfl⟩
theorem iX2_row_28 : xl_D mX2_row 28 (.athrow) 1 29 := ⟨by decide +kernel, rfl⟩
theorem iX2_row_29 : xl_D mX2_row 29 (.aload_n 0) 1 30 := ⟨by decide +kernel, rfl⟩
theorem iX2_row_30 : xl_G mX2_row 30 2 7 33 := ⟨26, by decide +kernel, rfl, fX2_26⟩
theorem iX2_row_33 : xl_D mX2_row 33 (.iload_n 1) 1 34 := ⟨by decide +kernel, rfl⟩
theorem iX2_row_34 : xl_D mX2_row 34 (.laload) 1 35 := ⟨by decide +kernel, rfl⟩
theorem iX2_row_35 : xl_D mX2_row 35 (.lreturn) 1 36 := ⟨by decide +kernel, rfl⟩
theorem iX2_isKey_0 : xl_D mX2_isKey 0 (.iload_n 0) 1 1 := ⟨by decide +kernel, rfl⟩
theorem iX2_isKey_1 : xl_J mX2_isKey 1 (fun o => .ifCond .lt o) 4 14 := ⟨13, by decide +kernel, rfl, rfl⟩
theorem iX2_isKey_4 : xl_D mX2_isKey 4 (.iload_n 0) 1 5 := ⟨by decide +kernel, rfl⟩
theorem iX2_isKey_5 : xl_D mX2_isKey 5 (.bipush 6) 2 7 := ⟨by decide +kernel, rfl⟩
theorem iX2_isKey_7 : xl_J mX2_isKey 7 (fun o => .if_icmp .ge o) 10 14 := ⟨7, by decide +kernel, rfl, rfl⟩
theorem iX2_isKey_10 : xl_D mX2_isKey 10 (.iconst 1) 1 11 := ⟨by decide +kernel, rfl⟩
theorem iX2_isKey_11 : xl_J mX2_isKey 11 (fun o => .goto o) 14 15 := ⟨4, by decide +kernel, rfl, rfl⟩
theorem iX2_isKey_14 : xl_D mX2_isKey 14 (.iconst 0) 1 15 := ⟨by decide +kernel, rfl⟩
theorem iX2_isKey_15 : xl_D mX2_isKey 15 (.ireturn) 1 16 := ⟨by decide +kernel, rfl⟩
theorem iX2_isTime_0 : xl_D mX2_isTime 0 (.iload_n 0) 1 1 := ⟨by decide +kernel, rfl⟩
theorem iX2_isTime_1 : xl_J mX2_isTime 1 (fun o => .ifCond .lt o) 4 15 := ⟨14, by decide +kernel, rfl, rfl⟩
theorem iX2_isTime_4 : xl_D mX2_isTime 4 (.iload_n 0) 1 5 := ⟨by decide +kernel, rfl⟩
theorem iX2_isTime_5 : xl_D mX2_isTime 5 (.sipush 9999) 3 8 := ⟨by decide +kernel, rfl⟩
theorem iX2_isTime_8 : xl_J mX2_isTime 8 (fun o => .if_icmp .gt o) 11 15 := ⟨7, by decide +kernel, rfl, rfl⟩
theorem iX2_isTime_11 : xl_D mX2_isTime 11 (.iconst 1) 1 12 := ⟨by decide +kernel, rfl⟩
theorem iX2_isTime_12 : xl_J mX2_isTime 12 (fun o => .goto o) 15 16 := ⟨4, by decide +kernel, rfl, rfl⟩
theorem iX2_isTime_15 : xl_D mX2_isTime 15 (.iconst 0) 1 16 := ⟨by decide +kernel, rfl⟩
theorem iX2_isTime_16 : xl_D mX2_isTime 16 (.ireturn) 1 17 := ⟨by decide +kernel, rfl⟩
theorem iX2_isSource_0 : xl_D mX2_isSource 0 (.iload_n 1) 1 1 := ⟨by decide +kernel, rfl⟩
theorem iX2_isSource_1 : xl_J mX2_isSource 1 (fun o => .ifCond .lt o) 4 22 := ⟨21, by decide +kernel, rfl, rfl⟩
theorem iX2_isSource_4 : xl_D mX2_isSource 4 (.iload_n 1) 1 5 := ⟨by decide +kernel, rfl⟩
theorem iX2_isSource_5 : xl_D mX2_isSource 5 (.aload_n 0) 1 6 := ⟨by decide +kernel, rfl⟩
theorem iX2_isSource_6 : xl_G mX2_isSource 6 2 0 9 := ⟨10, by decide +kernel, rfl, fX2_10⟩
theorem iX2_isSource_9 : xl_G mX2_isSource 9 1 10 12 := ⟨63, by decide +kernel, rfl, fX2_63⟩
theorem iX2_isSource_12 : xl_G mX2_isSource 12 0 3 15 := ⟨76, by decide +kernel, rfl, fX2_76⟩
theorem iX2_isSource_15 : xl_J mX2_isSource 15 (fun o => .if_icmp .ge o) 18 22 := ⟨7, by decide +kernel, rfl, rfl⟩
theorem iX2_isSource_18 : xl_D mX2_isSource 18 (.iconst 1) 1 19 := ⟨by decide +kernel, rfl⟩
theorem iX2_isSource_19 : xl_J mX2_isSource 19 (fun o => .goto o) 22 23 := ⟨4, by decide +kernel, rfl, rfl⟩
theorem iX2_isSource_22 : xl_D mX2_isSource 22 (.iconst 0) 1 23 := ⟨by decide +kernel, rfl⟩
theorem iX2_isSource_23 : xl_D mX2_isSource 23 (.ireturn) 1 24 := ⟨by decide +kernel, rfl⟩
theorem iX2_isEvent_0 : xl_D mX2_isEvent 0 (.iload_n 1) 1 1 := ⟨by decide +kernel, rfl⟩
theorem iX2_isEvent_1 : xl_Cs mX2_isEvent 1 mX2_isKey 4 := ⟨145, by decide +kernel, rfl, lX2_145, Nat.le_of_ble_eq_true rfl, Nat.le_of_ble_eq_true rfl⟩
theorem iX2_isEvent_4 : xl_J mX2_isEvent 4 (fun o => .ifCond .eq o) 7 39 := ⟨35, by decide +kernel, rfl, rfl⟩
theorem iX2_isEvent_7 : xl_D mX2_isEvent 7 (.iload_n 2) 1 8 := ⟨by decide +kernel, rfl⟩
theorem iX2_isEvent_8 : xl_Cs mX2_isEvent 8 mX2_isTime 11 := ⟨148, by decide +kernel, rfl, lX2_148, Nat.le_of_ble_eq_true rfl, Nat.le_of_ble_eq_true rfl⟩
theorem iX2_isEvent_11 : xl_J mX2_isEvent 11 (fun o => .ifCond .eq o) 14 39 := ⟨28, by decide +kernel, rfl, rfl⟩
theorem iX2_isEvent_14 : xl_D mX2_isEvent 14 (.iload_n 3) 1 15 := ⟨by decide +kernel, rfl⟩
theorem iX2_isEvent_15 : xl_D mX2_isEvent 15 (.bipush (-99)) 2 17 := ⟨by decide +kernel, rfl⟩
theorem iX2_isEvent_17 : xl_J mX2_isEvent 17 (fun o => .if_icmp .lt o) 20 39 := ⟨22, by decide +kernel, rfl, rfl⟩
theorem iX2_isEvent_20 : xl_D mX2_isEvent 20 (.iload_n 3) 1 21 := ⟨by decide +kernel, rfl⟩
theorem iX2_isEvent_21 : xl_D mX2_isEvent 21 (.bipush 99) 2 23 := ⟨by decide +kernel, rfl⟩
theorem iX2_isEvent_23 : xl_J mX2_isEvent 23 (fun o => .if_icmp .gt o) 26 39 := ⟨16, by decide +kernel, rfl, rfl⟩
theorem iX2_isEvent_26 : xl_D mX2_isEvent 26 (.aload_n 0) 1 27 := ⟨by decide +kernel, rfl⟩
theorem iX2_isEvent_27 : xl_D mX2_isEvent 27 (.iload 4) 2 29 := ⟨by decide +kernel, rfl⟩
theorem iX2_isEvent_29 : xl_Ca mX2_isEvent 29 mX2_isSource 32 := ⟨59, by decide +kernel, rfl, lX2_59, Nat.le_of_ble_eq_true rfl, Nat.le_of_ble_eq_true rfl⟩
theorem iX2_isEvent_32 : xl_J mX2_isEvent 32 (fun o => .ifCond .eq o) 35 39 := ⟨7, by decide +kernel, rfl, rfl⟩
theorem iX2_isEvent_35 : xl_D mX2_isEvent 35 (.iconst 1) 1 36 := ⟨by decide +kernel, rfl⟩
theorem iX2_isEvent_36 : xl_J mX2_isEvent 36 (fun o => .goto o) 39 40 := ⟨4, by decide +kernel, rfl, rfl⟩
theorem iX2_isEvent_39 : xl_D mX2_isEvent 39 (.iconst 0) 1 40 := ⟨by decide +kernel, rfl⟩
theorem iX2_isEvent_40 : xl_D mX2_isEvent 40 (.ireturn) 1 41 := ⟨by decide +kernel, rfl⟩
theorem iX2_areSettings_0 : xl_D mX2_areSettings 0 (.iload_n 0) 1 1 := ⟨by decide +kernel, rfl⟩
theorem iX2_areSettings_1 : xl_D mX2_areSettings 1 (.iconst 1) 1 2 := ⟨by decide +kernel, rfl⟩
theorem iX2_areSettings_2 : xl_J mX2_areSettings 2 (fun o => .if_icmp .lt o) 5 35 := ⟨33, by decide +kernel, rfl, rfl⟩
theorem iX2_areSettings_5 : xl_D mX2_areSettings 5 (.iload_n 0) 1 6 := ⟨by decide +kernel, rfl⟩
theorem iX2_areSettings_6 : xl_D mX2_areSettings 6 (.bipush 99) 2 8 := ⟨by decide +kernel, rfl⟩
theorem iX2_areSettings_8 : xl_J mX2_areSettings 8 (fun o => .if_icmp .gt o) 11 35 := ⟨27, by decide +kernel, rfl, rfl⟩
theorem iX2_areSettings_11 : xl_D mX2_areSettings 11 (.iload_n 1) 1 12 := ⟨by decide +kernel, rfl⟩
theorem iX2_areSettings_12 : xl_J mX2_areSettings 12 (fun o => .ifCond .lt o) 15 35 := ⟨23, by decide +kernel, rfl, rfl⟩
theorem iX2_areSettings_15 : xl_D mX2_areSettings 15 (.iload_n 1) 1 16 := ⟨by decide +kernel, rfl⟩
theorem iX2_areSettings_16 : xl_D mX2_areSettings 16 (.bipush 99) 2 18 := ⟨by decide +kernel, rfl⟩
theorem iX2_areSettings_18 : xl_J mX2_areSettings 18 (fun o => .if_icmp .gt o) 21 35 := ⟨17, by decide +kernel, rfl, rfl⟩
theorem iX2_areSettings_21 : xl_D mX2_areSettings 21 (.iload_n 2) 1 22 := ⟨by decide +kernel, rfl⟩
theorem iX2_areSettings_22 : xl_J mX2_areSettings 22 (fun o => .ifCond .lt o) 25 35 := ⟨13, by decide +kernel, rfl, rfl⟩
theorem iX2_areSettings_25 : xl_D mX2_areSettings 25 (.iload_n 2) 1 26 := ⟨by decide +kernel, rfl⟩
theorem iX2_areSettings_26 : xl_D mX2_areSettings 26 (.bipush 9) 2 28 := ⟨by decide +kernel, rfl⟩
theorem iX2_areSettings_28 : xl_J mX2_areSettings 28 (fun o => .if_icmp .gt o) 31 35 := ⟨7, by decide +kernel, rfl, rfl⟩
theorem iX2_areSettings_31 : xl_D mX2_areSettings 31 (.iconst 1) 1 32 := ⟨by decide +kernel, rfl⟩
theorem iX2_areSettings_32 : xl_J mX2_areSettings 32 (fun o => .goto o) 35 36 := ⟨4, by decide +kernel, rfl, rfl⟩
theorem iX2_areSettings_35 : xl_D mX2_areSettings 35 (.iconst 0) 1 36 := ⟨by decide +kernel, rfl⟩
theorem iX2_areSettings_36 : xl_D mX2_areSettings 36 (.ireturn) 1 37 := ⟨by decide +kernel, rfl⟩
theorem iX2_eventRefusal_0 : xl_D mX2_eventRefusal 0 (.aload_n 0) 1 1 := ⟨by decide +kernel, rfl⟩
theorem iX2_eventRefusal_1 : xl_D mX2_eventRefusal 1 (.iload_n 1) 1 2 := ⟨by decide +kernel, rfl⟩
theorem iX2_eventRefusal_2 : xl_D mX2_eventRefusal 2 (.iload_n 2) 1 3 := ⟨by decide +kernel, rfl⟩
theorem iX2_eventRefusal_3 : xl_D mX2_eventRefusal 3 (.iload_n 3) 1 4 := ⟨by decide +kernel, rfl⟩
theorem iX2_eventRefusal_4 : xl_D mX2_eventRefusal 4 (.iload 4) 2 6 := ⟨by decide +kernel, rfl⟩
theorem iX2_eventRefusal_6 : xl_Ca mX2_eventRefusal 6 mX2_isEvent 9 := ⟨218, by decide +kernel, rfl, lX2_218, Nat.le_of_ble_eq_true rfl, Nat.le_of_ble_eq_true rfl⟩
theorem iX2_eventRefusal_9 : xl_J mX2_eventRefusal 9 (fun o => .ifCond .ne o) 12 14 := ⟨5, by decide +kernel, rfl, rfl⟩
theorem iX2_eventRefusal_12 : xl_D mX2_eventRefusal 12 (.iconst (-1)) 1 13 := ⟨by decide +kernel, rfl⟩
theorem iX2_eventRefusal_13 : xl_D mX2_eventRefusal 13 (.ireturn) 1 14 := ⟨by decide +kernel, rfl⟩
theorem iX2_eventRefusal_14 : xl_D mX2_eventRefusal 14 (.aload_n 0) 1 15 := ⟨by decide +kernel, rfl⟩
theorem iX2_eventRefusal_15 : xl_Ca mX2_eventRefusal 15 mX2_inputRefusal 18 := ⟨292, by decide +kernel, rfl, lX2_292, Nat.le_of_ble_eq_true rfl, Nat.le_of_ble_eq_true rfl⟩
theorem iX2_eventRefusal_18 : xl_D mX2_eventRefusal 18 (.ireturn) 1 19 := ⟨by decide +kernel, rfl⟩
theorem iX2_markRefusal_0 : xl_D mX2_markRefusal 0 (.aload_n 0) 1 1 := ⟨by decide +kernel, rfl⟩
theorem iX2_markRefusal_1 : xl_D mX2_markRefusal 1 (.iload_n 1) 1 2 := ⟨by decide +kernel, rfl⟩
theorem iX2_markRefusal_2 : xl_Ca mX2_markRefusal 2 mX2_isSource 5 := ⟨59, by decide +kernel, rfl, lX2_59, Nat.le_of_ble_eq_true rfl, Nat.le_of_ble_eq_true rfl⟩
theorem iX2_markRefusal_5 : xl_J mX2_markRefusal 5 (fun o => .ifCond .eq o) 8 19 := ⟨14, by decide +kernel, rfl, rfl⟩
theorem iX2_markRefusal_8 : xl_D mX2_markRefusal 8 (.iload_n 2) 1 9 := ⟨by decide +kernel, rfl⟩
theorem iX2_markRefusal_9 : xl_J mX2_markRefusal 9 (fun o => .ifCond .lt o) 12 19 := ⟨10, by decide +kernel, rfl, rfl⟩
theorem iX2_markRefusal_12 : xl_D mX2_markRefusal 12 (.iload_n 2) 1 13 := ⟨by decide +kernel, rfl⟩
theorem iX2_markRefusal_13 : xl_D mX2_markRefusal 13 (.sipush 20000) 3 16 := ⟨by decide +kernel, rfl⟩
theorem iX2_markRefusal_16 : xl_J mX2_markRefusal 16 (fun o => .if_icmp .le o) 19 21 := ⟨5, by decide +kernel, rfl, rfl⟩
theorem iX2_markRefusal_19 : xl_D mX2_markRefusal 19 (.iconst (-1)) 1 20 := ⟨by decide +kernel, rfl⟩
theorem iX2_markRefusal_20 : xl_D mX2_markRefusal 20 (.ireturn) 1 21 := ⟨by decide +kernel, rfl⟩
theorem iX2_markRefusal_21 : xl_D mX2_markRefusal 21 (.aload_n 0) 1 22 := ⟨by decide +kernel, rfl⟩
theorem iX2_markRefusal_22 : xl_G mX2_markRefusal 22 2 0 25 := ⟨10, by decide +kernel, rfl, fX2_10⟩
theorem iX2_markRefusal_25 : xl_G mX2_markRefusal 25 1 10 28 := ⟨63, by decide +kernel, rfl, fX2_63⟩
theorem iX2_markRefusal_28 : xl_D mX2_markRefusal 28 (.iload_n 1) 1 29 := ⟨by decide +kernel, rfl⟩
theorem iX2_markRefusal_29 : xl_D mX2_markRefusal 29 (.iconst 0) 1 30 := ⟨by decide +kernel, rfl⟩
theorem iX2_markRefusal_30 : xl_Ca mX2_markRefusal 30 mX0_get 33 := ⟨67, by decide +kernel, rfl, lX2_67, Nat.le_of_ble_eq_true rfl, Nat.le_of_ble_eq_true rfl⟩
theorem iX2_markRefusal_33 : xl_D mX2_markRefusal 33 (.iload_n 2) 1 34 := ⟨by decide +kernel, rfl⟩
theorem iX2_markRefusal_34 : xl_J mX2_markRefusal 34 (fun o => .if_icmp .lt o) 37 40 := ⟨6, by decide +kernel, rfl, rfl⟩
theorem iX2_markRefusal_37 : xl_D mX2_markRefusal 37 (.bipush (-2)) 2 39 := ⟨by decide +kernel, rfl⟩
theorem iX2_markRefusal_39 : xl_D mX2_markRefusal 39 (.ireturn) 1 40 := ⟨by decide +kernel, rfl⟩
theorem iX2_markRefusal_40 : xl_D mX2_markRefusal 40 (.aload_n 0) 1 41 := ⟨by decide +kernel, rfl⟩
theorem iX2_markRefusal_41 : xl_Ca mX2_markRefusal 41 mX2_inputRefusal 44 := ⟨292, by decide +kernel, rfl, lX2_292, Nat.le_of_ble_eq_true rfl, Nat.le_of_ble_eq_true rfl⟩
theorem iX2_markRefusal_44 : xl_D mX2_markRefusal 44 (.ireturn) 1 45 := ⟨by decide +kernel, rfl⟩
theorem iX2_idleRefusal_0 : xl_D mX2_idleRefusal 0 (.aload_n 0) 1 1 := ⟨by decide +kernel, rfl⟩
theorem iX2_idleRefusal_1 : xl_D mX2_idleRefusal 1 (.iload_n 1) 1 2 := ⟨by decide +kernel, rfl⟩
theorem iX2_idleRefusal_2 : xl_Ca mX2_idleRefusal 2 mX2_isSource 5 := ⟨59, by decide +kernel, rfl, lX2_59, Nat.le_of_ble_eq_true rfl, Nat.le_of_ble_eq_true rfl⟩
theorem iX2_idleRefusal_5 : xl_J mX2_idleRefusal 5 (fun o => .ifCond .ne o) 8 10 := ⟨5, by decide +kernel, rfl, rfl⟩
theorem iX2_idleRefusal_8 : xl_D mX2_idleRefusal 8 (.iconst (-1)) 1 9 := ⟨by decide +kernel, rfl⟩
theorem iX2_idleRefusal_9 : xl_D mX2_idleRefusal 9 (.ireturn) 1 10 := ⟨by decide +kernel, rfl⟩
theorem iX2_idleRefusal_10 : xl_D mX2_idleRefusal 10 (.aload_n 0) 1 11 := ⟨by decide +kernel, rfl⟩
theorem iX2_idleRefusal_11 : xl_G mX2_idleRefusal 11 2 0 14 := ⟨10, by decide +kernel, rfl, fX2_10⟩
theorem iX2_idleRefusal_14 : xl_G mX2_idleRefusal 14 1 10 17 := ⟨63, by decide +kernel, rfl, fX2_63⟩
theorem iX2_idleRefusal_17 : xl_D mX2_idleRefusal 17 (.iload_n 1) 1 18 := ⟨by decide +kernel, rfl⟩
theorem iX2_idleRefusal_18 : xl_D mX2_idleRefusal 18 (.iconst 2) 1 19 := ⟨by decide +kernel, rfl⟩
theorem iX2_idleRefusal_19 : xl_Ca mX2_idleRefusal 19 mX0_get 22 := ⟨67, by decide +kernel, rfl, lX2_67, Nat.le_of_ble_eq_true rfl, Nat.le_of_ble_eq_true rfl⟩
theorem iX2_idleRefusal_22 : xl_J mX2_idleRefusal 22 (fun o => .ifCond .eq o) 25 28 := ⟨6, by decide +kernel, rfl, rfl⟩
theorem iX2_idleRefusal_25 : xl_D mX2_idleRefusal 25 (.bipush (-2)) 2 27 := ⟨by decide +kernel, rfl⟩
theorem iX2_idleRefusal_27 : xl_D mX2_idleRefusal 27 (.ireturn) 1 28 := ⟨by decide +kernel, rfl⟩
theorem iX2_idleRefusal_28 : xl_D mX2_idleRefusal 28 (.aload_n 0) 1 29 := ⟨by decide +kernel, rfl⟩
theorem iX2_idleRefusal_29 : xl_Ca mX2_idleRefusal 29 mX2_inputRefusal 32 := ⟨292, by decide +kernel, rfl, lX2_292, Nat.le_of_ble_eq_true rfl, Nat.le_of_ble_eq_true rfl⟩
theorem iX2_idleRefusal_32 : xl_D mX2_idleRefusal 32 (.ireturn) 1 33 := ⟨by decide +kernel, rfl⟩
theorem iX2_inputRefusal_0 : xl_D mX2_inputRefusal 0 (.aload_n 0) 1 1 := ⟨by decide +kernel, rfl⟩
theorem iX2_inputRefusal_1 : xl_G mX2_inputRefusal 1 2 0 4 := ⟨10, by decide +kernel, rfl, fX2_10⟩
theorem iX2_inputRefusal_4 : xl_G mX2_inputRefusal 4 1 14 7 := ⟨73, by decide +kernel, rfl, fX2_73⟩
theorem iX2_inputRefusal_7 : xl_G mX2_inputRefusal 7 0 3 10 := ⟨76, by decide +kernel, rfl, fX2_76⟩
theorem iX2_inputRefusal_10 : xl_D mX2_inputRefusal 10 (.sipush 160) 3 13 := ⟨by decide +kernel, rfl⟩
theorem iX2_inputRefusal_13 : xl_J mX2_inputRefusal 13 (fun o => .if_icmp .lt o) 16 21 := ⟨8, by decide +kernel, rfl, rfl⟩
theorem iX2_inputRefusal_16 : xl_D mX2_inputRefusal 16 (.bipush (-3)) 2 18 := ⟨by decide +kernel, rfl⟩
theorem iX2_inputRefusal_18 : xl_J mX2_inputRefusal 18 (fun o => .goto o) 21 22 := ⟨4, by decide +kernel, rfl, rfl⟩
theorem iX2_inputRefusal_21 : xl_D mX2_inputRefusal 21 (.iconst 0) 1 22 := ⟨by decide +kernel, rfl⟩
theorem iX2_inputRefusal_22 : xl_D mX2_inputRefusal 22 (.ireturn) 1 23 := ⟨by decide +kernel, rfl⟩
theorem iX2_isOfLatest_0 : xl_D mX2_isOfLatest 0 (.iload_n 0) 1 1 := ⟨by decide +kernel, rfl⟩
theorem iX2_isOfLatest_1 : xl_J mX2_isOfLatest 1 (fun o => .ifCond .lt o) 4 20 := ⟨19, by decide +kernel, rfl, rfl⟩
theorem iX2_isOfLatest_4 : xl_D mX2_isOfLatest 4 (.iload_n 0) 1 5 := ⟨by decide +kernel, rfl⟩
theorem iX2_isOfLatest_5 : xl_D mX2_isOfLatest 5 (.iload_n 1) 1 6 := ⟨by decide +kernel, rfl⟩
theorem iX2_isOfLatest_6 : xl_J mX2_isOfLatest 6 (fun o => .if_icmp .ge o) 9 20 := ⟨14, by decide +kernel, rfl, rfl⟩
theorem iX2_isOfLatest_9 : xl_D mX2_isOfLatest 9 (.iload_n 0) 1 10 := ⟨by decide +kernel, rfl⟩
theorem iX2_isOfLatest_10 : xl_D mX2_isOfLatest 10 (.iload_n 1) 1 11 := ⟨by decide +kernel, rfl⟩
theorem iX2_isOfLatest_11 : xl_D mX2_isOfLatest 11 (.iload_n 2) 1 12 := ⟨by decide +kernel, rfl⟩
theorem iX2_isOfLatest_12 : xl_D mX2_isOfLatest 12 (.isub) 1 13 := ⟨by decide +kernel, rfl⟩
theorem iX2_isOfLatest_13 : xl_J mX2_isOfLatest 13 (fun o => .if_icmp .lt o) 16 20 := ⟨7, by decide +kernel, rfl, rfl⟩
theorem iX2_isOfLatest_16 : xl_D mX2_isOfLatest 16 (.iconst 1) 1 17 := ⟨by decide +kernel, rfl⟩
theorem iX2_isOfLatest_17 : xl_J mX2_isOfLatest 17 (fun o => .goto o) 20 21 := ⟨4, by decide +kernel, rfl, rfl⟩
theorem iX2_isOfLatest_20 : xl_D mX2_isOfLatest 20 (.iconst 0) 1 21 := ⟨by decide +kernel, rfl⟩
theorem iX2_isOfLatest_21 : xl_D mX2_isOfLatest 21 (.ireturn) 1 22 := ⟨by decide +kernel, rfl⟩
theorem iX2_shifted_0 : xl_D mX2_shifted 0 (.aload_n 0) 1 1 := ⟨by decide +kernel, rfl⟩
theorem iX2_shifted_1 : xl_D mX2_shifted 1 (.iload_n 1) 1 2 := ⟨by decide +kernel, rfl⟩
theorem iX2_shifted_2 : xl_D mX2_shifted 2 (.iload_n 2) 1 3 := ⟨by decide +kernel, rfl⟩
theorem iX2_shifted_3 : xl_Ca mX2_shifted 3 mX0_get 6 := ⟨67, by decide +kernel, rfl, lX2_67, Nat.le_of_ble_eq_true rfl, Nat.le_of_ble_eq_true rfl⟩
theorem iX2_shifted_6 : xl_D mX2_shifted 6 (.istore_n 3) 1 7 := ⟨by decide +kernel, rfl⟩
theorem iX2_shifted_7 : xl_D mX2_shifted 7 (.iload_n 2) 1 8 := ⟨by decide +kernel, rfl⟩
theorem iX2_shifted_8 : xl_D mX2_shifted 8 (.iconst 4) 1 9 := ⟨by decide +kernel, rfl⟩
theorem iX2_shifted_9 : xl_J mX2_shifted 9 (fun o => .if_icmp .ne o) 12 18 := ⟨9, by decide +kernel, rfl, rfl⟩
theorem iX2_shifted_12 : xl_D mX2_shifted 12 (.iload_n 3) 1 13 := ⟨by decide +kernel, rfl⟩
theorem iX2_shifted_13 : xl_D mX2_shifted 13 (.sipush 20000) 3 16 := ⟨by decide +kernel, rfl⟩
theorem iX2_shifted_16 : xl_D mX2_shifted 16 (.iadd) 1 17 := ⟨by decide +kernel, rfl⟩
theorem iX2_shifted_17 : xl_D mX2_shifted 17 (.ireturn) 1 18 := ⟨by decide +kernel, rfl⟩
theorem iX2_shifted_18 : xl_D mX2_shifted 18 (.iload_n 2) 1 19 := ⟨by decide +kernel, rfl⟩
theorem iX2_shifted_19 : xl_D mX2_shifted 19 (.iconst 5) 1 20 := ⟨by decide +kernel, rfl⟩
theorem iX2_shifted_20 : xl_J mX2_shifted 20 (fun o => .if_icmp .ne o) 23 30 := ⟨10, by decide +kernel, rfl, rfl⟩
theorem iX2_shifted_23 : xl_D mX2_shifted 23 (.iload_n 3) 1 24 := ⟨by decide +kernel, rfl⟩
theorem iX2_shifted_24 : xl_D mX2_shifted 24 (.bipush 99) 2 26 := ⟨by decide +kernel, rfl⟩
theorem iX2_shifted_26 : xl_D mX2_shifted 26 (.iadd) 1 27 := ⟨by decide +kernel, rfl⟩
theorem iX2_shifted_27 : xl_J mX2_shifted 27 (fun o => .goto o) 30 31 := ⟨4, by decide +kernel, rfl, rfl⟩
theorem iX2_shifted_30 : xl_D mX2_shifted 30 (.iload_n 3) 1 31 := ⟨by decide +kernel, rfl⟩
theorem iX2_shifted_31 : xl_D mX2_shifted 31 (.ireturn) 1 32 := ⟨by decide +kernel, rfl⟩
theorem iX2_tellNothing_0 : xl_D mX2_tellNothing 0 (.aload_n 0) 1 1 := ⟨by decide +kernel, rfl⟩
theorem iX2_tellNothing_1 : xl_D mX2_tellNothing 1 (.iconst 0) 1 2 := ⟨by decide +kernel, rfl⟩
theorem iX2_tellNothing_2 : xl_P mX2_tellNothing 2 2 8 .int 5 := ⟨289, by decide +kernel, rfl, wX2_289⟩
theorem iX2_tellNothing_5 : xl_D mX2_tellNothing 5 (.return_) 1 6 := ⟨by decide +kernel, rfl⟩
theorem iX2_tellMore_0 : xl_D mX2_tellMore 0 (.aload_n 0) 1 1 := ⟨by decide +kernel, rfl⟩
theorem iX2_tellMore_1 : xl_G mX2_tellMore 1 2 8 4 := ⟨289, by decide +kernel, rfl, fX2_289⟩
theorem iX2_tellMore_4 : xl_D mX2_tellMore 4 (.aload_n 0) 1 5 := ⟨by decide +kernel, rfl⟩
theorem iX2_tellMore_5 : xl_G mX2_tellMore 5 2 7 8 := ⟨26, by decide +kernel, rfl, fX2_26⟩
theorem iX2_tellMore_8 : xl_D mX2_tellMore 8 (.arraylength) 1 9 := ⟨by decide +kernel, rfl⟩
theorem iX2_tellMore_9 : xl_J mX2_tellMore 9 (fun o => .if_icmp .ge o) 12 32 := ⟨23, by decide +kernel, rfl, rfl⟩
theorem iX2_tellMore_12 : xl_D mX2_tellMore 12 (.aload_n 0) 1 13 := ⟨by decide +kernel, rfl⟩
theorem iX2_tellMore_13 : xl_G mX2_tellMore 13 2 7 16 := ⟨26, by decide +kernel, rfl, fX2_26⟩
theorem iX2_tellMore_16 : xl_D mX2_tellMore 16 (.aload_n 0) 1 17 := ⟨by decide +kernel, rfl⟩
theorem iX2_tellMore_17 : xl_G mX2_tellMore 17 2 8 20 := ⟨289, by decide +kernel, rfl, fX2_289⟩
theorem iX2_tellMore_20 : xl_D mX2_tellMore 20 (.lload_n 1) 1 21 := ⟨by decide +kernel, rfl⟩
theorem iX2_tellMore_21 : xl_D mX2_tellMore 21 (.lastore) 1 22 := ⟨by decide +kernel, rfl⟩
theorem iX2_tellMore_22 : xl_D mX2_tellMore 22 (.aload_n 0) 1 23 := ⟨by decide +kernel, rfl⟩
theorem iX2_tellMore_23 : xl_D mX2_tellMore 23 (.dup) 1 24 := ⟨by decide +kernel, rfl⟩
theorem iX2_tellMore_24 : xl_G mX2_tellMore 24 2 8 27 := ⟨289, by decide +kernel, rfl, fX2_289⟩
theorem iX2_tellMore_27 : xl_D mX2_tellMore 27 (.iconst 1) 1 28 := ⟨by decide +kernel, rfl⟩
theorem iX2_tellMore_28 : xl_D mX2_tellMore 28 (.iadd) 1 29 := ⟨by decide +kernel, rfl⟩
theorem iX2_tellMore_29 : xl_P mX2_tellMore 29 2 8 .int 32 := ⟨289, by decide +kernel, rfl, wX2_289⟩
theorem iX2_tellMore_32 : xl_D mX2_tellMore 32 (.return_) 1 33 := ⟨by decide +kernel, rfl⟩
theorem iX2_tellOne_0 : xl_D mX2_tellOne 0 (.aload_n 0) 1 1 := ⟨by decide +kernel, rfl⟩
theorem iX2_tellOne_1 : xl_Ca mX2_tellOne 1 mX2_tellNothing 4 := ⟨180, by decide +kernel, rfl, lX2_180, Nat.le_of_ble_eq_true rfl, Nat.le_of_ble_eq_true rfl⟩
theorem iX2_tellOne_4 : xl_D mX2_tellOne 4 (.aload_n 0) 1 5 := ⟨by decide +kernel, rfl⟩
theorem iX2_tellOne_5 : xl_D mX2_tellOne 5 (.lload_n 1) 1 6 := ⟨by decide +kernel, rfl⟩
theorem iX2_tellOne_6 : xl_Ca mX2_tellOne 6 mX2_tellMore 9 := ⟨183, by decide +kernel, rfl, lX2_183, Nat.le_of_ble_eq_true rfl, Nat.le_of_ble_eq_true rfl⟩
theorem iX2_tellOne_9 : xl_D mX2_tellOne 9 (.return_) 1 10 := ⟨by decide +kernel, rfl⟩
theorem iX2_tellTwo_0 : xl_D mX2_tellTwo 0 (.aload_n 0) 1 1 := ⟨by decide +kernel, rfl⟩
theorem iX2_tellTwo_1 : xl_D mX2_tellTwo 1 (.lload_n 1) 1 2 := ⟨by decide +kernel, rfl⟩
theorem iX2_tellTwo_2 : xl_Ca mX2_tellTwo 2 mX2_tellOne 5 := ⟨118, by decide +kernel, rfl, lX2_118, Nat.le_of_ble_eq_true rfl, Nat.le_of_ble_eq_true rfl⟩
theorem iX2_tellTwo_5 : xl_D mX2_tellTwo 5 (.aload_n 0) 1 6 := ⟨by decide +kernel, rfl⟩
theorem iX2_tellTwo_6 : xl_D mX2_tellTwo 6 (.lload_n 3) 1 7 := ⟨by decide +kernel, rfl⟩
theorem iX2_tellTwo_7 : xl_Ca mX2_tellTwo 7 mX2_tellMore 10 := ⟨183, by decide +kernel, rfl, lX2_183, Nat.le_of_ble_eq_true rfl, Nat.le_of_ble_eq_true rfl⟩
theorem iX2_tellTwo_10 : xl_D mX2_tellTwo 10 (.return_) 1 11 := ⟨by decide +kernel, rfl⟩
theorem iX2_tellThree_0 : xl_D mX2_tellThree 0 (.aload_n 0) 1 1 := ⟨by decide +kernel, rfl⟩
theorem iX2_tellThree_1 : xl_D mX2_tellThree 1 (.lload_n 1) 1 2 := ⟨by decide +kernel, rfl⟩
theorem iX2_tellThree_2 : xl_D mX2_tellThree 2 (.lload_n 3) 1 3 := ⟨by decide +kernel, rfl⟩
theorem iX2_tellThree_3 : xl_Ca mX2_tellThree 3 mX2_tellTwo 6 := ⟨96, by decide +kernel, rfl, lX2_96, Nat.le_of_ble_eq_true rfl, Nat.le_of_ble_eq_true rfl⟩
theorem iX2_tellThree_6 : xl_D mX2_tellThree 6 (.aload_n 0) 1 7 := ⟨by decide +kernel, rfl⟩
theorem iX2_tellThree_7 : xl_D mX2_tellThree 7 (.lload 5) 2 9 := ⟨by decide +kernel, rfl⟩
theorem iX2_tellThree_9 : xl_Ca mX2_tellThree 9 mX2_tellMore 12 := ⟨183, by decide +kernel, rfl, lX2_183, Nat.le_of_ble_eq_true rfl, Nat.le_of_ble_eq_true rfl⟩
theorem iX2_tellThree_12 : xl_D mX2_tellThree 12 (.return_) 1 13 := ⟨by decide +kernel, rfl⟩
theorem iX2_putSign_0 : xl_D mX2_putSign 0 (.aload_n 0) 1 1 := ⟨by decide +kernel, rfl⟩
theorem iX2_putSign_1 : xl_G mX2_putSign 1 2 10 4 := ⟨40, by decide +kernel, rfl, fX2_40⟩
theorem iX2_putSign_4 : xl_D mX2_putSign 4 (.aload_n 0) 1 5 := ⟨by decide +kernel, rfl⟩
theorem iX2_putSign_5 : xl_G mX2_putSign 5 2 9 8 := ⟨30, by decide +kernel, rfl, fX2_30⟩
theorem iX2_putSign_8 : xl_D mX2_putSign 8 (.arraylength) 1 9 := ⟨by decide +kernel, rfl⟩
theorem iX2_putSign_9 : xl_J mX2_putSign 9 (fun o => .if_icmp .ge o) 12 32 := ⟨23, by decide +kernel, rfl, rfl⟩
theorem iX2_putSign_12 : xl_D mX2_putSign 12 (.aload_n 0) 1 13 := ⟨by decide +kernel, rfl⟩
theorem iX2_putSign_13 : xl_G mX2_putSign 13 2 9 16 := ⟨30, by decide +kernel, rfl, fX2_30⟩
theorem iX2_putSign_16 : xl_D mX2_putSign 16 (.aload_n 0) 1 17 := ⟨by decide +kernel, rfl⟩
theorem iX2_putSign_17 : xl_G mX2_putSign 17 2 10 20 := ⟨40, by decide +kernel, rfl, fX2_40⟩
theorem iX2_putSign_20 : xl_D mX2_putSign 20 (.iload_n 1) 1 21 := ⟨by decide +kernel, rfl⟩
theorem iX2_putSign_21 : xl_D mX2_putSign 21 (.iastore) 1 22 := ⟨by decide +kernel, rfl⟩
theorem iX2_putSign_22 : xl_D mX2_putSign 22 (.aload_n 0) 1 23 := ⟨by decide +kernel, rfl⟩
theorem iX2_putSign_23 : xl_D mX2_putSign 23 (.dup) 1 24 := ⟨by decide +kernel, rfl⟩
theorem iX2_putSign_24 : xl_G mX2_putSign 24 2 10 27 := ⟨40, by decide +kernel, rfl, fX2_40⟩
theorem iX2_putSign_27 : xl_D mX2_putSign 27 (.iconst 1) 1 28 := ⟨by decide +kernel, rfl⟩
theorem iX2_putSign_28 : xl_D mX2_putSign 28 (.iadd) 1 29 := ⟨by decide +kernel, rfl⟩
theorem iX2_putSign_29 : xl_P mX2_putSign 29 2 10 .int 32 := ⟨40, by decide +kernel, rfl, wX2_40⟩
theorem iX2_putSign_32 : xl_D mX2_putSign 32 (.return_) 1 33 := ⟨by decide +kernel, rfl⟩
theorem iX2_takeText_0 : xl_D mX2_takeText 0 (.aload_n 0) 1 1 := ⟨by decide +kernel, rfl⟩
theorem iX2_takeText_1 : xl_G mX2_takeText 1 2 10 4 := ⟨40, by decide +kernel, rfl, fX2_40⟩
theorem iX2_takeText_4 : xl_D mX2_takeText 4 (.istore_n 1) 1 5 := ⟨by decide +kernel, rfl⟩
theorem iX2_takeText_5 : xl_D mX2_takeText 5 (.aload_n 0) 1 6 := ⟨by decide +kernel, rfl⟩
theorem iX2_takeText_6 : xl_D mX2_takeText 6 (.iconst 0) 1 7 := ⟨by decide +kernel, rfl⟩
theorem iX2_takeText_7 : xl_P mX2_takeText 7 2 10 .int 10 := ⟨40, by decide +kernel, rfl, wX2_40⟩
theorem iX2_takeText_10 : xl_D mX2_takeText 10 (.iload_n 1) 1 11 := ⟨by decide +kernel, rfl⟩
theorem iX2_takeText_11 : xl_D mX2_takeText 11 (.ireturn) 1 12 := ⟨by decide +kernel, rfl⟩
theorem iX2_signAt_0 : xl_D mX2_signAt 0 (.iload_n 1) 1 1 := ⟨by decide +kernel, rfl⟩
theorem iX2_signAt_1 : xl_J mX2_signAt 1 (fun o => .ifCond .lt o) 4 22 := ⟨21, by decide +kernel, rfl, rfl⟩
theorem iX2_signAt_4 : xl_D mX2_signAt 4 (.iload_n 1) 1 5 := ⟨by decide +kernel, rfl⟩
theorem iX2_signAt_5 : xl_D mX2_signAt 5 (.aload_n 0) 1 6 := ⟨by decide +kernel, rfl⟩
theorem iX2_signAt_6 : xl_G mX2_signAt 6 2 9 9 := ⟨30, by decide +kernel, rfl, fX2_30⟩
theorem iX2_signAt_9 : xl_D mX2_signAt 9 (.arraylength) 1 10 := ⟨by decide +kernel, rfl⟩
theorem iX2_signAt_10 : xl_J mX2_signAt 10 (fun o => .if_icmp .ge o) 13 22 := ⟨12, by decide +kernel, rfl, rfl⟩
theorem iX2_signAt_13 : xl_D mX2_signAt 13 (.aload_n 0) 1 14 := ⟨by decide +kernel, rfl⟩
theorem iX2_signAt_14 : xl_G mX2_signAt 14 2 9 17 := ⟨30, by decide +kernel, rfl, fX2_30⟩
theorem iX2_signAt_17 : xl_D mX2_signAt 17 (.iload_n 1) 1 18 := ⟨by decide +kernel, rfl⟩
theorem iX2_signAt_18 : xl_D mX2_signAt 18 (.iaload) 1 19 := ⟨by decide +kernel, rfl⟩
theorem iX2_signAt_19 : xl_J mX2_signAt 19 (fun o => .goto o) 22 23 := ⟨4, by decide +kernel, rfl, rfl⟩
theorem iX2_signAt_22 : xl_D mX2_signAt 22 (.iconst (-1)) 1 23 := ⟨by decide +kernel, rfl⟩
theorem iX2_signAt_23 : xl_D mX2_signAt 23 (.ireturn) 1 24 := ⟨by decide +kernel, rfl⟩
theorem iX2_fits_0 : xl_D mX2_fits 0 (.iload_n 2) 1 1 := ⟨by decide +kernel, rfl⟩
theorem iX2_fits_1 : xl_D mX2_fits 1 (.lookupswitch 100 #[(107, 35), (110, 71), (115, 53)]) 35 36 := ⟨by decide +kernel, rfl⟩
theorem iX2_fits_36 : xl_D mX2_fits 36 (.iload_n 1) 1 37 := ⟨by decide +kernel, rfl⟩
theorem iX2_fits_37 : xl_D mX2_fits 37 (.bipush 97) 2 39 := ⟨by decide +kernel, rfl⟩
theorem iX2_fits_39 : xl_J mX2_fits 39 (fun o => .if_icmp .lt o) 42 52 := ⟨13, by decide +kernel, rfl, rfl⟩
theorem iX2_fits_42 : xl_D mX2_fits 42 (.iload_n 1) 1 43 := ⟨by decide +kernel, rfl⟩
theorem iX2_fits_43 : xl_D mX2_fits 43 (.bipush 103) 2 45 := ⟨by decide +kernel, rfl⟩
theorem iX2_fits_45 : xl_J mX2_fits 45 (fun o => .if_icmp .ge o) 48 52 := ⟨7, by decide +kernel, rfl, rfl⟩
theorem iX2_fits_48 : xl_D mX2_fits 48 (.iconst 1) 1 49 := ⟨by decide +kernel, rfl⟩
theorem iX2_fits_49 : xl_J mX2_fits 49 (fun o => .goto o) 52 53 := ⟨4, by decide +kernel, rfl, rfl⟩
theorem iX2_fits_52 : xl_D mX2_fits 52 (.iconst 0) 1 53 := ⟨by decide +kernel, rfl⟩
theorem iX2_fits_53 : xl_D mX2_fits 53 (.ireturn) 1 54 := ⟨by decide +kernel, rfl⟩
theorem iX2_fits_54 : xl_D mX2_fits 54 (.iload_n 1) 1 55 := ⟨by decide +kernel, rfl⟩
theorem iX2_fits_55 : xl_D mX2_fits 55 (.bipush 43) 2 57 := ⟨by decide +kernel, rfl⟩
theorem iX2_fits_57 : xl_J mX2_fits 57 (fun o => .if_icmp .eq o) 60 66 := ⟨9, by decide +kernel, rfl, rfl⟩
theorem iX2_fits_60 : xl_D mX2_fits 60 (.iload_n 1) 1 61 := ⟨by decide +kernel, rfl⟩
theorem iX2_fits_61 : xl_D mX2_fits 61 (.bipush 45) 2 63 := ⟨by decide +kernel, rfl⟩
theorem iX2_fits_63 : xl_J mX2_fits 63 (fun o => .if_icmp .ne o) 66 70 := ⟨7, by decide +kernel, rfl, rfl⟩
theorem iX2_fits_66 : xl_D mX2_fits 66 (.iconst 1) 1 67 := ⟨by decide +kernel, rfl⟩
theorem iX2_fits_67 : xl_J mX2_fits 67 (fun o => .goto o) 70 71 := ⟨4, by decide +kernel, rfl, rfl⟩
theorem iX2_fits_70 : xl_D mX2_fits 70 (.iconst 0) 1 71 := ⟨by decide +kernel, rfl⟩
theorem iX2_fits_71 : xl_D mX2_fits 71 (.ireturn) 1 72 := ⟨by decide +kernel, rfl⟩
theorem iX2_fits_72 : xl_D mX2_fits 72 (.iload_n 1) 1 73 := ⟨by decide +kernel, rfl⟩
theorem iX2_fits_73 : xl_D mX2_fits 73 (.bipush 48) 2 75 := ⟨by decide +kernel, rfl⟩
theorem iX2_fits_75 : xl_J mX2_fits 75 (fun o => .if_icmp .lt o) 78 99 := ⟨24, by decide +kernel, rfl, rfl⟩
theorem iX2_fits_78 : xl_D mX2_fits 78 (.iload_n 1) 1 79 := ⟨by decide +kernel, rfl⟩
theorem iX2_fits_79 : xl_D mX2_fits 79 (.bipush 48) 2 81 := ⟨by decide +kernel, rfl⟩
theorem iX2_fits_81 : xl_D mX2_fits 81 (.aload_n 0) 1 82 := ⟨by decide +kernel, rfl⟩
theorem iX2_fits_82 : xl_G mX2_fits 82 2 0 85 := ⟨10, by decide +kernel, rfl, fX2_10⟩
theorem iX2_fits_85 : xl_G mX2_fits 85 1 10 88 := ⟨63, by decide +kernel, rfl, fX2_63⟩
theorem iX2_fits_88 : xl_G mX2_fits 88 0 3 91 := ⟨76, by decide +kernel, rfl, fX2_76⟩
theorem iX2_fits_91 : xl_D mX2_fits 91 (.iadd) 1 92 := ⟨by decide +kernel, rfl⟩
theorem iX2_fits_92 : xl_J mX2_fits 92 (fun o => .if_icmp .ge o) 95 99 := ⟨7, by decide +kernel, rfl, rfl⟩
theorem iX2_fits_95 : xl_D mX2_fits 95 (.iconst 1) 1 96 := ⟨by decide +kernel, rfl⟩
theorem iX2_fits_96 : xl_J mX2_fits 96 (fun o => .goto o) 99 100 := ⟨4, by decide +kernel, rfl, rfl⟩
theorem iX2_fits_99 : xl_D mX2_fits 99 (.iconst 0) 1 100 := ⟨by decide +kernel, rfl⟩
theorem iX2_fits_100 : xl_D mX2_fits 100 (.ireturn) 1 101 := ⟨by decide +kernel, rfl⟩
theorem iX2_fits_101 : xl_D mX2_fits 101 (.iload_n 1) 1 102 := ⟨by decide +kernel, rfl⟩
theorem iX2_fits_102 : xl_D mX2_fits 102 (.bipush 48) 2 104 := ⟨by decide +kernel, rfl⟩
theorem iX2_fits_104 : xl_J mX2_fits 104 (fun o => .if_icmp .lt o) 107 117 := ⟨13, by decide +kernel, rfl, rfl⟩
theorem iX2_fits_107 : xl_D mX2_fits 107 (.iload_n 1) 1 108 := ⟨by decide +kernel, rfl⟩
theorem iX2_fits_108 : xl_D mX2_fits 108 (.bipush 57) 2 110 := ⟨by decide +kernel, rfl⟩
theorem iX2_fits_110 : xl_J mX2_fits 110 (fun o => .if_icmp .gt o) 113 117 := ⟨7, by decide +kernel, rfl, rfl⟩
theorem iX2_fits_113 : xl_D mX2_fits 113 (.iconst 1) 1 114 := ⟨by decide +kernel, rfl⟩
theorem iX2_fits_114 : xl_J mX2_fits 114 (fun o => .goto o) 117 118 := ⟨4, by decide +kernel, rfl, rfl⟩
theorem iX2_fits_117 : xl_D mX2_fits 117 (.iconst 0) 1 118 := ⟨by decide +kernel, rfl⟩
theorem iX2_fits_118 : xl_D mX2_fits 118 (.ireturn) 1 119 := ⟨by decide +kernel, rfl⟩
theorem iX2_formMisfit_0 : xl_D mX2_formMisfit 0 (.iconst 0) 1 1 := ⟨by decide +kernel, rfl⟩
theorem iX2_formMisfit_1 : xl_D mX2_formMisfit 1 (.istore 4) 2 3 := ⟨by decide +kernel, rfl⟩
theorem iX2_formMisfit_3 : xl_D mX2_formMisfit 3 (.iload 4) 2 5 := ⟨by decide +kernel, rfl⟩
theorem iX2_formMisfit_5 : xl_D mX2_formMisfit 5 (.aload_n 3) 1 6 := ⟨by decide +kernel, rfl⟩
theorem iX2_formMisfit_6 : xl_Ca mX2_formMisfit 6 mJ0_length_8abf5 9 := ⟨269, by decide +kernel, rfl, lX2_269, Nat.le_of_ble_eq_true rfl, Nat.le_of_ble_eq_true rfl⟩
theorem iX2_formMisfit_9 : xl_J mX2_formMisfit 9 (fun o => .if_icmp .ge o) 12 52 := ⟨43, by decide +kernel, rfl, rfl⟩
theorem iX2_formMisfit_12 : xl_D mX2_formMisfit 12 (.iload_n 1) 1 13 := ⟨by decide +kernel, rfl⟩
theorem iX2_formMisfit_13 : xl_D mX2_formMisfit 13 (.iload 4) 2 15 := ⟨by decide +kernel, rfl⟩
theorem iX2_formMisfit_15 : xl_D mX2_formMisfit 15 (.iadd) 1 16 := ⟨by decide +kernel, rfl⟩
theorem iX2_formMisfit_16 : xl_D mX2_formMisfit 16 (.iload_n 2) 1 17 := ⟨by decide +kernel, rfl⟩
theorem iX2_formMisfit_17 : xl_J mX2_formMisfit 17 (fun o => .if_icmp .ge o) 20 41 := ⟨24, by decide +kernel, rfl, rfl⟩
theorem iX2_formMisfit_20 : xl_D mX2_formMisfit 20 (.aload_n 0) 1 21 := ⟨by decide +kernel, rfl⟩
theorem iX2_formMisfit_21 : xl_D mX2_formMisfit 21 (.aload_n 0) 1 22 := ⟨by decide +kernel, rfl⟩
theorem iX2_formMisfit_22 : xl_D mX2_formMisfit 22 (.iload_n 1) 1 23 := ⟨by decide +kernel, rfl⟩
theorem iX2_formMisfit_23 : xl_D mX2_formMisfit 23 (.iload 4) 2 25 := ⟨by decide +kernel, rfl⟩
theorem iX2_formMisfit_25 : xl_D mX2_formMisfit 25 (.iadd) 1 26 := ⟨by decide +kernel, rfl⟩
theorem iX2_formMisfit_26 : xl_Ca mX2_formMisfit 26 mX2_signAt 29 := ⟨295, by decide +kernel, rfl, lX2_295, Nat.le_of_ble_eq_true rfl, Nat.le_of_ble_eq_true rfl⟩
theorem iX2_formMisfit_29 : xl_D mX2_formMisfit 29 (.aload_n 3) 1 30 := ⟨by decide +kernel, rfl⟩
theorem iX2_formMisfit_30 : xl_D mX2_formMisfit 30 (.iload 4) 2 32 := ⟨by decide +kernel, rfl⟩
theorem iX2_formMisfit_32 : xl_Ca mX2_formMisfit 32 mJ0_charAt_5068e 35 := ⟨298, by decide +kernel, rfl, lX2_298, Nat.le_of_ble_eq_true rfl, Nat.le_of_ble_eq_true rfl⟩
theorem iX2_formMisfit_35 : xl_Ca mX2_formMisfit 35 mX2_fits 38 := ⟨302, by decide +kernel, rfl, lX2_302, Nat.le_of_ble_eq_true rfl, Nat.le_of_ble_eq_true rfl⟩
theorem iX2_formMisfit_38 : xl_J mX2_formMisfit 38 (fun o => .ifCond .ne o) 41 46 := ⟨8, by decide +kernel, rfl, rfl⟩
theorem iX2_formMisfit_41 : xl_D mX2_formMisfit 41 (.iload_n 1) 1 42 := ⟨by decide +kernel, rfl⟩
theorem iX2_formMisfit_42 : xl_D mX2_formMisfit 42 (.iload 4) 2 44 := ⟨by decide +kernel, rfl⟩
theorem iX2_formMisfit_44 : xl_D mX2_formMisfit 44 (.iadd) 1 45 := ⟨by decide +kernel, rfl⟩
theorem iX2_formMisfit_45 : xl_D mX2_formMisfit 45 (.ireturn) 1 46 := ⟨by decide +kernel, rfl⟩
theorem iX2_formMisfit_46 : xl_D mX2_formMisfit 46 (.iinc 4 1) 3 49 := ⟨by decide +kernel, rfl⟩
theorem iX2_formMisfit_49 : xl_J mX2_formMisfit 49 (fun o => .goto o) 52 3 := ⟨-46, by decide +kernel, rfl, rfl⟩
theorem iX2_formMisfit_52 : xl_D mX2_formMisfit 52 (.iconst (-1)) 1 53 := ⟨by decide +kernel, rfl⟩
theorem iX2_formMisfit_53 : xl_D mX2_formMisfit 53 (.ireturn) 1 54 := ⟨by decide +kernel, rfl⟩
theorem iX2_eventsMisfit_0 : xl_D mX2_eventsMisfit 0 (.iconst 0) 1 1 := ⟨by decide +kernel, rfl⟩
theorem iX2_eventsMisfit_1 : xl_D mX2_eventsMisfit 1 (.istore_n 2) 1 2 := ⟨by decide +kernel, rfl⟩
theorem iX2_eventsMisfit_2 : xl_D mX2_eventsMisfit 2 (.iload_n 2) 1 3 := ⟨by decide +kernel, rfl⟩
theorem iX2_eventsMisfit_3 : xl_D mX2_eventsMisfit 3 (.iload_n 1) 1 4 := ⟨by decide +kernel, rfl⟩
theorem iX2_eventsMisfit_4 : xl_J mX2_eventsMisfit 4 (fun o => .if_icmp .ge o) 7 29 := ⟨25, by decide +kernel, rfl, rfl⟩
theorem iX2_eventsMisfit_7 : xl_D mX2_eventsMisfit 7 (.aload_n 0) 1 8 := ⟨by decide +kernel, rfl⟩
theorem iX2_eventsMisfit_8 : xl_D mX2_eventsMisfit 8 (.iload_n 2) 1 9 := ⟨by decide +kernel, rfl⟩
theorem iX2_eventsMisfit_9 : xl_D mX2_eventsMisfit 9 (.iload_n 1) 1 10 := ⟨by decide +kernel, rfl⟩
theorem iX2_eventsMisfit_10 : xl_D mX2_eventsMisfit 10 (.ldc_w 306) 3 13 := ⟨by decide +kernel, rfl⟩
theorem iX2_eventsMisfit_13 : xl_Ca mX2_eventsMisfit 13 mX2_formMisfit 16 := ⟨308, by decide +kernel, rfl, lX2_308, Nat.le_of_ble_eq_true rfl, Nat.le_of_ble_eq_true rfl⟩
theorem iX2_eventsMisfit_16 : xl_D mX2_eventsMisfit 16 (.istore_n 3) 1 17 := ⟨by decide +kernel, rfl⟩
theorem iX2_eventsMisfit_17 : xl_D mX2_eventsMisfit 17 (.iload_n 3) 1 18 := ⟨by decide +kernel, rfl⟩
theorem iX2_eventsMisfit_18 : xl_J mX2_eventsMisfit 18 (fun o => .ifCond .lt o) 21 23 := ⟨5, by decide +kernel, rfl, rfl⟩
theorem iX2_eventsMisfit_21 : xl_D mX2_eventsMisfit 21 (.iload_n 3) 1 22 := ⟨by decide +kernel, rfl⟩
theorem iX2_eventsMisfit_22 : xl_D mX2_eventsMisfit 22 (.ireturn) 1 23 := ⟨by decide +kernel, rfl⟩
theorem iX2_eventsMisfit_23 : xl_D mX2_eventsMisfit 23 (.iinc 2 9) 3 26 := ⟨by decide +kernel, rfl⟩
theorem iX2_eventsMisfit_26 : xl_J mX2_eventsMisfit 26 (fun o => .goto o) 29 2 := ⟨-24, by decide +kernel, rfl, rfl⟩
theorem iX2_eventsMisfit_29 : xl_D mX2_eventsMisfit 29 (.iconst (-1)) 1 30 := ⟨by decide +kernel, rfl⟩
theorem iX2_eventsMisfit_30 : xl_D mX2_eventsMisfit 30 (.ireturn) 1 31 := ⟨by decide +kernel, rfl⟩
theorem iX2_dayMisfit_0 : xl_D mX2_dayMisfit 0 (.iconst 0) 1 1 := ⟨by decide +kernel, rfl⟩
theorem iX2_dayMisfit_1 : xl_D mX2_dayMisfit 1 (.istore_n 2) 1 2 := ⟨by decide +kernel, rfl⟩
theorem iX2_dayMisfit_2 : xl_D mX2_dayMisfit 2 (.iconst 0) 1 3 := ⟨by decide +kernel, rfl⟩
theorem iX2_dayMisfit_3 : xl_D mX2_dayMisfit 3 (.istore_n 3) 1 4 := ⟨by decide +kernel, rfl⟩
theorem iX2_dayMisfit_4 : xl_D mX2_dayMisfit 4 (.iload_n 3) 1 5 := ⟨by decide +kernel, rfl⟩
theorem iX2_dayMisfit_5 : xl_D mX2_dayMisfit 5 (.bipush 80) 2 7 := ⟨by decide +kernel, rfl⟩
theorem iX2_dayMisfit_7 : xl_J mX2_dayMisfit 7 (fun o => .if_icmp .ge o) 10 68 := ⟨61, by decide +kernel, rfl, rfl⟩
theorem iX2_dayMisfit_10 : xl_D mX2_dayMisfit 10 (.iload_n 2) 1 11 := ⟨by decide +kernel, rfl⟩
theorem iX2_dayMisfit_11 : xl_D mX2_dayMisfit 11 (.iload_n 1) 1 12 := ⟨by decide +kernel, rfl⟩
theorem iX2_dayMisfit_12 : xl_J mX2_dayMisfit 12 (fun o => .if_icmp .ge o) 15 68 := ⟨56, by decide +kernel, rfl, rfl⟩
theorem iX2_dayMisfit_15 : xl_D mX2_dayMisfit 15 (.aload_n 0) 1 16 := ⟨by decide +kernel, rfl⟩
theorem iX2_dayMisfit_16 : xl_D mX2_dayMisfit 16 (.iload_n 2) 1 17 := ⟨by decide +kernel, rfl⟩
theorem iX2_dayMisfit_17 : xl_Ca mX2_dayMisfit 17 mX2_actForm 20 := ⟨265, by decide +kernel, rfl, lX2_265, Nat.le_of_ble_eq_true rfl, Nat.le_of_ble_eq_true rfl⟩
theorem iX2_dayMisfit_20 : xl_D mX2_dayMisfit 20 (.astore 4) 2 22 := ⟨by decide +kernel, rfl⟩
theorem iX2_dayMisfit_22 : xl_D mX2_dayMisfit 22 (.aload 4) 2 24 := ⟨by decide +kernel, rfl⟩
theorem iX2_dayMisfit_24 : xl_Ca mX2_dayMisfit 24 mJ0_isEmpty_aae02 27 := ⟨312, by decide +kernel, rfl, lX2_312, Nat.le_of_ble_eq_true rfl, Nat.le_of_ble_eq_true rfl⟩
theorem iX2_dayMisfit_27 : xl_J mX2_dayMisfit 27 (fun o => .ifCond .eq o) 30 32 := ⟨5, by decide +kernel, rfl, rfl⟩
theorem iX2_dayMisfit_30 : xl_D mX2_dayMisfit 30 (.iload_n 2) 1 31 := ⟨by decide +kernel, rfl⟩
theorem iX2_dayMisfit_31 : xl_D mX2_dayMisfit 31 (.ireturn) 1 32 := ⟨by decide +kernel, rfl⟩
theorem iX2_dayMisfit_32 : xl_D mX2_dayMisfit 32 (.aload_n 0) 1 33 := ⟨by decide +kernel, rfl⟩
theorem iX2_dayMisfit_33 : xl_D mX2_dayMisfit 33 (.iload_n 2) 1 34 := ⟨by decide +kernel, rfl⟩
theorem iX2_dayMisfit_34 : xl_D mX2_dayMisfit 34 (.iconst 1) 1 35 := ⟨by decide +kernel, rfl⟩
theorem iX2_dayMisfit_35 : xl_D mX2_dayMisfit 35 (.iadd) 1 36 := ⟨by decide +kernel, rfl⟩
theorem iX2_dayMisfit_36 : xl_D mX2_dayMisfit 36 (.iload_n 1) 1 37 := ⟨by decide +kernel, rfl⟩
theorem iX2_dayMisfit_37 : xl_D mX2_dayMisfit 37 (.aload 4) 2 39 := ⟨by decide +kernel, rfl⟩
theorem iX2_dayMisfit_39 : xl_Ca mX2_dayMisfit 39 mX2_formMisfit 42 := ⟨308, by decide +kernel, rfl, lX2_308, Nat.le_of_ble_eq_true rfl, Nat.le_of_ble_eq_true rfl⟩
theorem iX2_dayMisfit_42 : xl_D mX2_dayMisfit 42 (.istore 5) 2 44 := ⟨by decide +kernel, rfl⟩
theorem iX2_dayMisfit_44 : xl_D mX2_dayMisfit 44 (.iload 5) 2 46 := ⟨by decide +kernel, rfl⟩
theorem iX2_dayMisfit_46 : xl_J mX2_dayMisfit 46 (fun o => .ifCond .lt o) 49 52 := ⟨6, by decide +kernel, rfl, rfl⟩
theorem iX2_dayMisfit_49 : xl_D mX2_dayMisfit 49 (.iload 5) 2 51 := ⟨by decide +kernel, rfl⟩
theorem iX2_dayMisfit_51 : xl_D mX2_dayMisfit 51 (.ireturn) 1 52 := ⟨by decide +kernel, rfl⟩
theorem iX2_dayMisfit_52 : xl_D mX2_dayMisfit 52 (.iload_n 2) 1 53 := ⟨by decide +kernel, rfl⟩
theorem iX2_dayMisfit_53 : xl_D mX2_dayMisfit 53 (.iconst 1) 1 54 := ⟨by decide +kernel, rfl⟩
theorem iX2_dayMisfit_54 : xl_D mX2_dayMisfit 54 (.aload 4) 2 56 := ⟨by decide +kernel, rfl⟩
theorem iX2_dayMisfit_56 : xl_Ca mX2_dayMisfit 56 mJ0_length_8abf5 59 := ⟨269, by decide +kernel, rfl, lX2_269, Nat.le_of_ble_eq_true rfl, Nat.le_of_ble_eq_true rfl⟩
theorem iX2_dayMisfit_59 : xl_D mX2_dayMisfit 59 (.iadd) 1 60 := ⟨by decide +kernel, rfl⟩
theorem iX2_dayMisfit_60 : xl_D mX2_dayMisfit 60 (.iadd) 1 61 := ⟨by decide +kernel, rfl⟩
theorem iX2_dayMisfit_61 : xl_D mX2_dayMisfit 61 (.istore_n 2) 1 62 := ⟨by decide +kernel, rfl⟩
theorem iX2_dayMisfit_62 : xl_D mX2_dayMisfit 62 (.iinc 3 1) 3 65 := ⟨by decide +kernel, rfl⟩
theorem iX2_dayMisfit_65 : xl_J mX2_dayMisfit 65 (fun o => .goto o) 68 4 := ⟨-61, by decide +kernel, rfl, rfl⟩
theorem iX2_dayMisfit_68 : xl_D mX2_dayMisfit 68 (.iconst (-1)) 1 69 := ⟨by decide +kernel, rfl⟩
theorem iX2_dayMisfit_69 : xl_D mX2_dayMisfit 69 (.ireturn) 1 70 := ⟨by decide +kernel, rfl⟩
theorem iX2_actForm_0 : xl_D mX2_actForm 0 (.aload_n 0) 1 1 := ⟨by decide +kernel, rfl⟩
theorem iX2_actForm_1 : xl_D mX2_actForm 1 (.iload_n 1) 1 2 := ⟨by decide +kernel, rfl⟩
theorem iX2_actForm_2 : xl_Ca mX2_actForm 2 mX2_signAt 5 := ⟨295, by decide +kernel, rfl, lX2_295, Nat.le_of_ble_eq_true rfl, Nat.le_of_ble_eq_true rfl⟩
theorem iX2_actForm_5 : xl_D mX2_actForm 5 (.lookupswitch 47 #[(101, 35), (105, 43), (109, 39)]) 35 40 := ⟨by decide +kernel, rfl⟩
theorem iX2_actForm_40 : xl_D mX2_actForm 40 (.ldc_w 316) 3 43 := ⟨by decide +kernel, rfl⟩
theorem iX2_actForm_43 : xl_D mX2_actForm 43 (.areturn) 1 44 := ⟨by decide +kernel, rfl⟩
theorem iX2_actForm_44 : xl_D mX2_actForm 44 (.ldc_w 318) 3 47 := ⟨by decide +kernel, rfl⟩
theorem iX2_actForm_47 : xl_D mX2_actForm 47 (.areturn) 1 48 := ⟨by decide +kernel, rfl⟩
theorem iX2_actForm_48 : xl_D mX2_actForm 48 (.ldc_w 320) 3 51 := ⟨by decide +kernel, rfl⟩
theorem iX2_actForm_51 : xl_D mX2_actForm 51 (.areturn) 1 52 := ⟨by decide +kernel, rfl⟩
theorem iX2_actForm_52 : xl_D mX2_actForm 52 (.ldc_w 322) 3 55 := ⟨by decide +kernel, rfl⟩
theorem iX2_actForm_55 : xl_D mX2_actForm 55 (.areturn) 1 56 := ⟨by decide +kernel, rfl⟩
theorem iX2_numberAt_0 : xl_D mX2_numberAt 0 (.iconst 0) 1 1 := ⟨by decide +kernel, rfl⟩
theorem iX2_numberAt_1 : xl_D mX2_numberAt 1 (.istore_n 3) 1 2 := ⟨by decide +kernel, rfl⟩
theorem iX2_numberAt_2 : xl_D mX2_numberAt 2 (.iconst 0) 1 3 := ⟨by decide +kernel, rfl⟩
theorem iX2_numberAt_3 : xl_D mX2_numberAt 3 (.istore 4) 2 5 := ⟨by decide +kernel, rfl⟩
theorem iX2_numberAt_5 : xl_D mX2_numberAt 5 (.iload 4) 2 7 := ⟨by decide +kernel, rfl⟩
theorem iX2_numberAt_7 : xl_D mX2_numberAt 7 (.iload_n 2) 1 8 := ⟨by decide +kernel, rfl⟩
theorem iX2_numberAt_8 : xl_J mX2_numberAt 8 (fun o => .if_icmp .ge o) 11 34 := ⟨26, by decide +kernel, rfl, rfl⟩
theorem iX2_numberAt_11 : xl_D mX2_numberAt 11 (.iload_n 3) 1 12 := ⟨by decide +kernel, rfl⟩
theorem iX2_numberAt_12 : xl_D mX2_numberAt 12 (.bipush 10) 2 14 := ⟨by decide +kernel, rfl⟩
theorem iX2_numberAt_14 : xl_D mX2_numberAt 14 (.imul) 1 15 := ⟨by decide +kernel, rfl⟩
theorem iX2_numberAt_15 : xl_D mX2_numberAt 15 (.aload_n 0) 1 16 := ⟨by decide +kernel, rfl⟩
theorem iX2_numberAt_16 : xl_D mX2_numberAt 16 (.iload_n 1) 1 17 := ⟨by decide +kernel, rfl⟩
theorem iX2_numberAt_17 : xl_D mX2_numberAt 17 (.iload 4) 2 19 := ⟨by decide +kernel, rfl⟩
theorem iX2_numberAt_19 : xl_D mX2_numberAt 19 (.iadd) 1 20 := ⟨by decide +kernel, rfl⟩
theorem iX2_numberAt_20 : xl_Ca mX2_numberAt 20 mX2_signAt 23 := ⟨295, by decide +kernel, rfl, lX2_295, Nat.le_of_ble_eq_true rfl, Nat.le_of_ble_eq_true rfl⟩
theorem iX2_numberAt_23 : xl_D mX2_numberAt 23 (.iadd) 1 24 := ⟨by decide +kernel, rfl⟩
theorem iX2_numberAt_24 : xl_D mX2_numberAt 24 (.bipush 48) 2 26 := ⟨by decide +kernel, rfl⟩
theorem iX2_numberAt_26 : xl_D mX2_numberAt 26 (.isub) 1 27 := ⟨by decide +kernel, rfl⟩
theorem iX2_numberAt_27 : xl_D mX2_numberAt 27 (.istore_n 3) 1 28 := ⟨by decide +kernel, rfl⟩
theorem iX2_numberAt_28 : xl_D mX2_numberAt 28 (.iinc 4 1) 3 31 := ⟨by decide +kernel, rfl⟩
theorem iX2_numberAt_31 : xl_J mX2_numberAt 31 (fun o => .goto o) 34 5 := ⟨-26, by decide +kernel, rfl, rfl⟩
theorem iX2_numberAt_34 : xl_D mX2_numberAt 34 (.iload_n 3) 1 35 := ⟨by decide +kernel, rfl⟩
theorem iX2_numberAt_35 : xl_D mX2_numberAt 35 (.ireturn) 1 36 := ⟨by decide +kernel, rfl⟩
theorem iX2_keyAt_0 : xl_D mX2_keyAt 0 (.aload_n 0) 1 1 := ⟨by decide +kernel, rfl⟩
theorem iX2_keyAt_1 : xl_D mX2_keyAt 1 (.iload_n 1) 1 2 := ⟨by decide +kernel, rfl⟩
theorem iX2_keyAt_2 : xl_Ca mX2_keyAt 2 mX2_signAt 5 := ⟨295, by decide +kernel, rfl, lX2_295, Nat.le_of_ble_eq_true rfl, Nat.le_of_ble_eq_true rfl⟩
theorem iX2_keyAt_5 : xl_D mX2_keyAt 5 (.bipush 97) 2 7 := ⟨by decide +kernel, rfl⟩
theorem iX2_keyAt_7 : xl_D mX2_keyAt 7 (.isub) 1 8 := ⟨by decide +kernel, rfl⟩
theorem iX2_keyAt_8 : xl_D mX2_keyAt 8 (.ireturn) 1 9 := ⟨by decide +kernel, rfl⟩
theorem iX2_valueAt_0 : xl_D mX2_valueAt 0 (.aload_n 0) 1 1 := ⟨by decide +kernel, rfl⟩
theorem iX2_valueAt_1 : xl_D mX2_valueAt 1 (.iload_n 1) 1 2 := ⟨by decide +kernel, rfl⟩
theorem iX2_valueAt_2 : xl_D mX2_valueAt 2 (.iconst 1) 1 3 := ⟨by decide +kernel, rfl⟩
theorem iX2_valueAt_3 : xl_D mX2_valueAt 3 (.iadd) 1 4 := ⟨by decide +kernel, rfl⟩
theorem iX2_valueAt_4 : xl_D mX2_valueAt 4 (.iconst 2) 1 5 := ⟨by decide +kernel, rfl⟩
theorem iX2_valueAt_5 : xl_Ca mX2_valueAt 5 mX2_numberAt 8 := ⟨324, by decide +kernel, rfl, lX2_324, Nat.le_of_ble_eq_true rfl, Nat.le_of_ble_eq_true rfl⟩
theorem iX2_valueAt_8 : xl_D mX2_valueAt 8 (.istore_n 2) 1 9 := ⟨by decide +kernel, rfl⟩
theorem iX2_valueAt_9 : xl_D mX2_valueAt 9 (.aload_n 0) 1 10 := ⟨by decide +kernel, rfl⟩
theorem iX2_valueAt_10 : xl_D mX2_valueAt 10 (.iload_n 1) 1 11 := ⟨by decide +kernel, rfl⟩
theorem iX2_valueAt_11 : xl_Ca mX2_valueAt 11 mX2_signAt 14 := ⟨295, by decide +kernel, rfl, lX2_295, Nat.le_of_ble_eq_true rfl, Nat.le_of_ble_eq_true rfl⟩
theorem iX2_valueAt_14 : xl_D mX2_valueAt 14 (.bipush 45) 2 16 := ⟨by decide +kernel, rfl⟩
theorem iX2_valueAt_16 : xl_J mX2_valueAt 16 (fun o => .if_icmp .ne o) 19 24 := ⟨8, by decide +kernel, rfl, rfl⟩
theorem iX2_valueAt_19 : xl_D mX2_valueAt 19 (.iload_n 2) 1 20 := ⟨by decide +kernel, rfl⟩
theorem iX2_valueAt_20 : xl_D mX2_valueAt 20 (.ineg) 1 21 := ⟨by decide +kernel, rfl⟩
theorem iX2_valueAt_21 : xl_J mX2_valueAt 21 (fun o => .goto o) 24 25 := ⟨4, by decide +kernel, rfl, rfl⟩
theorem iX2_valueAt_24 : xl_D mX2_valueAt 24 (.iload_n 2) 1 25 := ⟨by decide +kernel, rfl⟩
theorem iX2_valueAt_25 : xl_D mX2_valueAt 25 (.ireturn) 1 26 := ⟨by decide +kernel, rfl⟩
theorem iX2_comeEventAt_0 : xl_D mX2_comeEventAt 0 (.aload_n 0) 1 1 := ⟨by decide +kernel, rfl⟩
theorem iX2_comeEventAt_1 : xl_G mX2_comeEventAt 1 2 0 4 := ⟨10, by decide +kernel, rfl, fX2_10⟩
theorem iX2_comeEventAt_4 : xl_D mX2_comeEventAt 4 (.aload_n 0) 1 5 := ⟨by decide +kernel, rfl⟩
theorem iX2_comeEventAt_5 : xl_D mX2_comeEventAt 5 (.iload_n 1) 1 6 := ⟨by decide +kernel, rfl⟩
theorem iX2_comeEventAt_6 : xl_Ca mX2_comeEventAt 6 mX2_keyAt 9 := ⟨327, by decide +kernel, rfl, lX2_327, Nat.le_of_ble_eq_true rfl, Nat.le_of_ble_eq_true rfl⟩
theorem iX2_comeEventAt_9 : xl_D mX2_comeEventAt 9 (.aload_n 0) 1 10 := ⟨by decide +kernel, rfl⟩
theorem iX2_comeEventAt_10 : xl_D mX2_comeEventAt 10 (.iload_n 1) 1 11 := ⟨by decide +kernel, rfl⟩
theorem iX2_comeEventAt_11 : xl_D mX2_comeEventAt 11 (.iconst 1) 1 12 := ⟨by decide +kernel, rfl⟩
theorem iX2_comeEventAt_12 : xl_D mX2_comeEventAt 12 (.iadd) 1 13 := ⟨by decide +kernel, rfl⟩
theorem iX2_comeEventAt_13 : xl_D mX2_comeEventAt 13 (.iconst 4) 1 14 := ⟨by decide +kernel, rfl⟩
theorem iX2_comeEventAt_14 : xl_Ca mX2_comeEventAt 14 mX2_numberAt 17 := ⟨324, by decide +kernel, rfl, lX2_324, Nat.le_of_ble_eq_true rfl, Nat.le_of_ble_eq_true rfl⟩
theorem iX2_comeEventAt_17 : xl_D mX2_comeEventAt 17 (.aload_n 0) 1 18 := ⟨by decide +kernel, rfl⟩
theorem iX2_comeEventAt_18 : xl_D mX2_comeEventAt 18 (.iload_n 1) 1 19 := ⟨by decide +kernel, rfl⟩
theorem iX2_comeEventAt_19 : xl_D mX2_comeEventAt 19 (.iconst 5) 1 20 := ⟨by decide +kernel, rfl⟩
theorem iX2_comeEventAt_20 : xl_D mX2_comeEventAt 20 (.iadd) 1 21 := ⟨by decide +kernel, rfl⟩
theorem iX2_comeEventAt_21 : xl_Ca mX2_comeEventAt 21 mX2_valueAt 24 := ⟨330, by decide +kernel, rfl, lX2_330, Nat.le_of_ble_eq_true rfl, Nat.le_of_ble_eq_true rfl⟩
theorem iX2_comeEventAt_24 : xl_D mX2_comeEventAt 24 (.aload_n 0) 1 25 := ⟨by decide +kernel, rfl⟩
theorem iX2_comeEventAt_25 : xl_D mX2_comeEventAt 25 (.iload_n 1) 1 26 := ⟨by decide +kernel, rfl⟩
theorem iX2_comeEventAt_26 : xl_D mX2_comeEventAt 26 (.bipush 8) 2 28 := ⟨by decide +kernel, rfl⟩
theorem iX2_comeEventAt_28 : xl_D mX2_comeEventAt 28 (.iadd) 1 29 := ⟨by decide +kernel, rfl⟩
theorem iX2_comeEventAt_29 : xl_D mX2_comeEventAt 29 (.iconst 1) 1 30 := ⟨by decide +kernel, rfl⟩
theorem iX2_comeEventAt_30 : xl_Ca mX2_comeEventAt 30 mX2_numberAt 33 := ⟨324, by decide +kernel, rfl, lX2_324, Nat.le_of_ble_eq_true rfl, Nat.le_of_ble_eq_true rfl⟩
theorem iX2_comeEventAt_33 : xl_Ca mX2_comeEventAt 33 mX1_comeEvent 36 := ⟨90, by decide +kernel, rfl, lX2_90, Nat.le_of_ble_eq_true rfl, Nat.le_of_ble_eq_true rfl⟩
theorem iX2_comeEventAt_36 : xl_D mX2_comeEventAt 36 (.ireturn) 1 37 := ⟨by decide +kernel, rfl⟩
theorem iX2_actRefusal_0 : xl_D mX2_actRefusal 0 (.aload_n 0) 1 1 := ⟨by decide +kernel, rfl⟩
theorem iX2_actRefusal_1 : xl_D mX2_actRefusal 1 (.iload_n 1) 1 2 := ⟨by decide +kernel, rfl⟩
theorem iX2_actRefusal_2 : xl_Ca mX2_actRefusal 2 mX2_signAt 5 := ⟨295, by decide +kernel, rfl, lX2_295, Nat.le_of_ble_eq_true rfl, Nat.le_of_ble_eq_true rfl⟩
theorem iX2_actRefusal_5 : xl_D mX2_actRefusal 5 (.lookupswitch 85 #[(101, 27), (109, 64)]) 27 32 := ⟨by decide +kernel, rfl⟩
theorem iX2_actRefusal_32 : xl_D mX2_actRefusal 32 (.aload_n 0) 1 33 := ⟨by decide +kernel, rfl⟩
theorem iX2_actRefusal_33 : xl_D mX2_actRefusal 33 (.aload_n 0) 1 34 := ⟨by decide +kernel, rfl⟩
theorem iX2_actRefusal_34 : xl_D mX2_actRefusal 34 (.iload_n 1) 1 35 := ⟨by decide +kernel, rfl⟩
theorem iX2_actRefusal_35 : xl_D mX2_actRefusal 35 (.iconst 1) 1 36 := ⟨by decide +kernel, rfl⟩
theorem iX2_actRefusal_36 : xl_D mX2_actRefusal 36 (.iadd) 1 37 := ⟨by decide +kernel, rfl⟩
theorem iX2_actRefusal_37 : xl_Ca mX2_actRefusal 37 mX2_keyAt 40 := ⟨327, by decide +kernel, rfl, lX2_327, Nat.le_of_ble_eq_true rfl, Nat.le_of_ble_eq_true rfl⟩
theorem iX2_actRefusal_40 : xl_D mX2_actRefusal 40 (.aload_n 0) 1 41 := ⟨by decide +kernel, rfl⟩
theorem iX2_actRefusal_41 : xl_D mX2_actRefusal 41 (.iload_n 1) 1 42 := ⟨by decide +kernel, rfl⟩
theorem iX2_actRefusal_42 : xl_D mX2_actRefusal 42 (.iconst 2) 1 43 := ⟨by decide +kernel, rfl⟩
theorem iX2_actRefusal_43 : xl_D mX2_actRefusal 43 (.iadd) 1 44 := ⟨by decide +kernel, rfl⟩
theorem iX2_actRefusal_44 : xl_D mX2_actRefusal 44 (.iconst 4) 1 45 := ⟨by decide +kernel, rfl⟩
theorem iX2_actRefusal_45 : xl_Ca mX2_actRefusal 45 mX2_numberAt 48 := ⟨324, by decide +kernel, rfl, lX2_324, Nat.le_of_ble_eq_true rfl, Nat.le_of_ble_eq_true rfl⟩
theorem iX2_actRefusal_48 : xl_D mX2_actRefusal 48 (.aload_n 0) 1 49 := ⟨by decide +kernel, rfl⟩
theorem iX2_actRefusal_49 : xl_D mX2_actRefusal 49 (.iload_n 1) 1 50 := ⟨by decide +kernel, rfl⟩
theorem iX2_actRefusal_50 : xl_D mX2_actRefusal 50 (.bipush 6) 2 52 := ⟨by decide +kernel, rfl⟩
theorem iX2_actRefusal_52 : xl_D mX2_actRefusal 52 (.iadd) 1 53 := ⟨by decide +kernel, rfl⟩
theorem iX2_actRefusal_53 : xl_Ca mX2_actRefusal 53 mX2_valueAt 56 := ⟨330, by decide +kernel, rfl, lX2_330, Nat.le_of_ble_eq_true rfl, Nat.le_of_ble_eq_true rfl⟩
theorem iX2_actRefusal_56 : xl_D mX2_actRefusal 56 (.aload_n 0) 1 57 := ⟨by decide +kernel, rfl⟩
theorem iX2_actRefusal_57 : xl_D mX2_actRefusal 57 (.iload_n 1) 1 58 := ⟨by decide +kernel, rfl⟩
theorem iX2_actRefusal_58 : xl_D mX2_actRefusal 58 (.bipush 9) 2 60 := ⟨by decide +kernel, rfl⟩
theorem iX2_actRefusal_60 : xl_D mX2_actRefusal 60 (.iadd) 1 61 := ⟨by decide +kernel, rfl⟩
theorem iX2_actRefusal_61 : xl_D mX2_actRefusal 61 (.iconst 1) 1 62 := ⟨by decide +kernel, rfl⟩
theorem iX2_actRefusal_62 : xl_Ca mX2_actRefusal 62 mX2_numberAt 65 := ⟨324, by decide +kernel, rfl, lX2_324, Nat.le_of_ble_eq_true rfl, Nat.le_of_ble_eq_true rfl⟩
theorem iX2_actRefusal_65 : xl_Ca mX2_actRefusal 65 mX2_eventRefusal 68 := ⟨83, by decide +kernel, rfl, lX2_83, Nat.le_of_ble_eq_true rfl, Nat.le_of_ble_eq_true rfl⟩
theorem iX2_actRefusal_68 : xl_D mX2_actRefusal 68 (.ireturn) 1 69 := ⟨by decide +kernel, rfl⟩
theorem iX2_actRefusal_69 : xl_D mX2_actRefusal 69 (.aload_n 0) 1 70 := ⟨by decide +kernel, rfl⟩
theorem iX2_actRefusal_70 : xl_D mX2_actRefusal 70 (.aload_n 0) 1 71 := ⟨by decide +kernel, rfl⟩
theorem iX2_actRefusal_71 : xl_D mX2_actRefusal 71 (.iload_n 1) 1 72 := ⟨by decide +kernel, rfl⟩
theorem iX2_actRefusal_72 : xl_D mX2_actRefusal 72 (.iconst 1) 1 73 := ⟨by decide +kernel, rfl⟩
theorem iX2_actRefusal_73 : xl_D mX2_actRefusal 73 (.iadd) 1 74 := ⟨by decide +kernel, rfl⟩
theorem iX2_actRefusal_74 : xl_D mX2_actRefusal 74 (.iconst 1) 1 75 := ⟨by decide +kernel, rfl⟩
theorem iX2_actRefusal_75 : xl_Ca mX2_actRefusal 75 mX2_numberAt 78 := ⟨324, by decide +kernel, rfl, lX2_324, Nat.le_of_ble_eq_true rfl, Nat.le_of_ble_eq_true rfl⟩
theorem iX2_actRefusal_78 : xl_D mX2_actRefusal 78 (.aload_n 0) 1 79 := ⟨by decide +kernel, rfl⟩
theorem iX2_actRefusal_79 : xl_D mX2_actRefusal 79 (.iload_n 1) 1 80 := ⟨by decide +kernel, rfl⟩
theorem iX2_actRefusal_80 : xl_D mX2_actRefusal 80 (.iconst 2) 1 81 := ⟨by decide +kernel, rfl⟩
theorem iX2_actRefusal_81 : xl_D mX2_actRefusal 81 (.iadd) 1 82 := ⟨by decide +kernel, rfl⟩
theorem iX2_actRefusal_82 : xl_D mX2_actRefusal 82 (.iconst 5) 1 83 := ⟨by decide +kernel, rfl⟩
theorem iX2_actRefusal_83 : xl_Ca mX2_actRefusal 83 mX2_numberAt 86 := ⟨324, by decide +kernel, rfl, lX2_324, Nat.le_of_ble_eq_true rfl, Nat.le_of_ble_eq_true rfl⟩
theorem iX2_actRefusal_86 : xl_Ca mX2_actRefusal 86 mX2_markRefusal 89 := ⟨111, by decide +kernel, rfl, lX2_111, Nat.le_of_ble_eq_true rfl, Nat.le_of_ble_eq_true rfl⟩
theorem iX2_actRefusal_89 : xl_D mX2_actRefusal 89 (.ireturn) 1 90 := ⟨by decide +kernel, rfl⟩
theorem iX2_actRefusal_90 : xl_D mX2_actRefusal 90 (.aload_n 0) 1 91 := ⟨by decide +kernel, rfl⟩
theorem iX2_actRefusal_91 : xl_D mX2_actRefusal 91 (.aload_n 0) 1 92 := ⟨by decide +kernel, rfl⟩
theorem iX2_actRefusal_92 : xl_D mX2_actRefusal 92 (.iload_n 1) 1 93 := ⟨by decide +kernel, rfl⟩
theorem iX2_actRefusal_93 : xl_D mX2_actRefusal 93 (.iconst 1) 1 94 := ⟨by decide +kernel, rfl⟩
theorem iX2_actRefusal_94 : xl_D mX2_actRefusal 94 (.iadd) 1 95 := ⟨by decide +kernel, rfl⟩
theorem iX2_actRefusal_95 : xl_D mX2_actRefusal 95 (.iconst 1) 1 96 := ⟨by decide +kernel, rfl⟩
theorem iX2_actRefusal_96 : xl_Ca mX2_actRefusal 96 mX2_numberAt 99 := ⟨324, by decide +kernel, rfl, lX2_324, Nat.le_of_ble_eq_true rfl, Nat.le_of_ble_eq_true rfl⟩
theorem iX2_actRefusal_99 : xl_Ca mX2_actRefusal 99 mX2_idleRefusal 102 := ⟨122, by decide +kernel, rfl, lX2_122, Nat.le_of_ble_eq_true rfl, Nat.le_of_ble_eq_true rfl⟩
theorem iX2_actRefusal_102 : xl_D mX2_actRefusal 102 (.ireturn) 1 103 := ⟨by decide +kernel, rfl⟩
theorem iX2_comeAct_0 : xl_D mX2_comeAct 0 (.aload_n 0) 1 1 := ⟨by decide +kernel, rfl⟩
theorem iX2_comeAct_1 : xl_D mX2_comeAct 1 (.iload_n 1) 1 2 := ⟨by decide +kernel, rfl⟩
theorem iX2_comeAct_2 : xl_Ca mX2_comeAct 2 mX2_signAt 5 := ⟨295, by decide +kernel, rfl, lX2_295, Nat.le_of_ble_eq_true rfl, Nat.le_of_ble_eq_true rfl⟩
theorem iX2_comeAct_5 : xl_D mX2_comeAct 5 (.lookupswitch 96 #[(101, 27), (109, 70)]) 27 32 := ⟨by decide +kernel, rfl⟩
theorem iX2_comeAct_32 : xl_D mX2_comeAct 32 (.aload_n 0) 1 33 := ⟨by decide +kernel, rfl⟩
theorem iX2_comeAct_33 : xl_G mX2_comeAct 33 2 0 36 := ⟨10, by decide +kernel, rfl, fX2_10⟩
theorem iX2_comeAct_36 : xl_D mX2_comeAct 36 (.aload_n 0) 1 37 := ⟨by decide +kernel, rfl⟩
theorem iX2_comeAct_37 : xl_D mX2_comeAct 37 (.iload_n 1) 1 38 := ⟨by decide +kernel, rfl⟩
theorem iX2_comeAct_38 : xl_D mX2_comeAct 38 (.iconst 1) 1 39 := ⟨by decide +kernel, rfl⟩
theorem iX2_comeAct_39 : xl_D mX2_comeAct 39 (.iadd) 1 40 := ⟨by decide +kernel, rfl⟩
theorem iX2_comeAct_40 : xl_Ca mX2_comeAct 40 mX2_keyAt 43 := ⟨327, by decide +kernel, rfl, lX2_327, Nat.le_of_ble_eq_true rfl, Nat.le_of_ble_eq_true rfl⟩
theorem iX2_comeAct_43 : xl_D mX2_comeAct 43 (.aload_n 0) 1 44 := ⟨by decide +kernel, rfl⟩
theorem iX2_comeAct_44 : xl_D mX2_comeAct 44 (.iload_n 1) 1 45 := ⟨by decide +kernel, rfl⟩
theorem iX2_comeAct_45 : xl_D mX2_comeAct 45 (.iconst 2) 1 46 := ⟨by decide +kernel, rfl⟩
theorem iX2_comeAct_46 : xl_D mX2_comeAct 46 (.iadd) 1 47 := ⟨by decide +kernel, rfl⟩
theorem iX2_comeAct_47 : xl_D mX2_comeAct 47 (.iconst 4) 1 48 := ⟨by decide +kernel, rfl⟩
theorem iX2_comeAct_48 : xl_Ca mX2_comeAct 48 mX2_numberAt 51 := ⟨324, by decide +kernel, rfl, lX2_324, Nat.le_of_ble_eq_true rfl, Nat.le_of_ble_eq_true rfl⟩
theorem iX2_comeAct_51 : xl_D mX2_comeAct 51 (.aload_n 0) 1 52 := ⟨by decide +kernel, rfl⟩
theorem iX2_comeAct_52 : xl_D mX2_comeAct 52 (.iload_n 1) 1 53 := ⟨by decide +kernel, rfl⟩
theorem iX2_comeAct_53 : xl_D mX2_comeAct 53 (.bipush 6) 2 55 := ⟨by decide +kernel, rfl⟩
theorem iX2_comeAct_55 : xl_D mX2_comeAct 55 (.iadd) 1 56 := ⟨by decide +kernel, rfl⟩
theorem iX2_comeAct_56 : xl_Ca mX2_comeAct 56 mX2_valueAt 59 := ⟨330, by decide +kernel, rfl, lX2_330, Nat.le_of_ble_eq_true rfl, Nat.le_of_ble_eq_true rfl⟩
theorem iX2_comeAct_59 : xl_D mX2_comeAct 59 (.aload_n 0) 1 60 := ⟨by decide +kernel, rfl⟩
theorem iX2_comeAct_60 : xl_D mX2_comeAct 60 (.iload_n 1) 1 61 := ⟨by decide +kernel, rfl⟩
theorem iX2_comeAct_61 : xl_D mX2_comeAct 61 (.bipush 9) 2 63 := ⟨by decide +kernel, rfl⟩
theorem iX2_comeAct_63 : xl_D mX2_comeAct 63 (.iadd) 1 64 := ⟨by decide +kernel, rfl⟩
theorem iX2_comeAct_64 : xl_D mX2_comeAct 64 (.iconst 1) 1 65 := ⟨by decide +kernel, rfl⟩
theorem iX2_comeAct_65 : xl_Ca mX2_comeAct 65 mX2_numberAt 68 := ⟨324, by decide +kernel, rfl, lX2_324, Nat.le_of_ble_eq_true rfl, Nat.le_of_ble_eq_true rfl⟩
theorem iX2_comeAct_68 : xl_Ca mX2_comeAct 68 mX1_comeEvent 71 := ⟨90, by decide +kernel, rfl, lX2_90, Nat.le_of_ble_eq_true rfl, Nat.le_of_ble_eq_true rfl⟩
theorem iX2_comeAct_71 : xl_D mX2_comeAct 71 (.pop) 1 72 := ⟨by decide +kernel, rfl⟩
theorem iX2_comeAct_72 : xl_J mX2_comeAct 72 (fun o => .goto o) 75 116 := ⟨44, by decide +kernel, rfl, rfl⟩
theorem iX2_comeAct_75 : xl_D mX2_comeAct 75 (.aload_n 0) 1 76 := ⟨by decide +kernel, rfl⟩
theorem iX2_comeAct_76 : xl_G mX2_comeAct 76 2 0 79 := ⟨10, by decide +kernel, rfl, fX2_10⟩
theorem iX2_comeAct_79 : xl_D mX2_comeAct 79 (.aload_n 0) 1 80 := ⟨by decide +kernel, rfl⟩
theorem iX2_comeAct_80 : xl_D mX2_comeAct 80 (.iload_n 1) 1 81 := ⟨by decide +kernel, rfl⟩
theorem iX2_comeAct_81 : xl_D mX2_comeAct 81 (.iconst 1) 1 82 := ⟨by decide +kernel, rfl⟩
theorem iX2_comeAct_82 : xl_D mX2_comeAct 82 (.iadd) 1 83 := ⟨by decide +kernel, rfl⟩
theorem iX2_comeAct_83 : xl_D mX2_comeAct 83 (.iconst 1) 1 84 := ⟨by decide +kernel, rfl⟩
theorem iX2_comeAct_84 : xl_Ca mX2_comeAct 84 mX2_numberAt 87 := ⟨324, by decide +kernel, rfl, lX2_324, Nat.le_of_ble_eq_true rfl, Nat.le_of_ble_eq_true rfl⟩
theorem iX2_comeAct_87 : xl_D mX2_comeAct 87 (.aload_n 0) 1 88 := ⟨by decide +kernel, rfl⟩
theorem iX2_comeAct_88 : xl_D mX2_comeAct 88 (.iload_n 1) 1 89 := ⟨by decide +kernel, rfl⟩
theorem iX2_comeAct_89 : xl_D mX2_comeAct 89 (.iconst 2) 1 90 := ⟨by decide +kernel, rfl⟩
theorem iX2_comeAct_90 : xl_D mX2_comeAct 90 (.iadd) 1 91 := ⟨by decide +kernel, rfl⟩
theorem iX2_comeAct_91 : xl_D mX2_comeAct 91 (.iconst 5) 1 92 := ⟨by decide +kernel, rfl⟩
theorem iX2_comeAct_92 : xl_Ca mX2_comeAct 92 mX2_numberAt 95 := ⟨324, by decide +kernel, rfl, lX2_324, Nat.le_of_ble_eq_true rfl, Nat.le_of_ble_eq_true rfl⟩
theorem iX2_comeAct_95 : xl_Ca mX2_comeAct 95 mX1_comeMark 98 := ⟨114, by decide +kernel, rfl, lX2_114, Nat.le_of_ble_eq_true rfl, Nat.le_of_ble_eq_true rfl⟩
theorem iX2_comeAct_98 : xl_J mX2_comeAct 98 (fun o => .goto o) 101 116 := ⟨18, by decide +kernel, rfl, rfl⟩
theorem iX2_comeAct_101 : xl_D mX2_comeAct 101 (.aload_n 0) 1 102 := ⟨by decide +kernel, rfl⟩
theorem iX2_comeAct_102 : xl_G mX2_comeAct 102 2 0 105 := ⟨10, by decide +kernel, rfl, fX2_10⟩
theorem iX2_comeAct_105 : xl_D mX2_comeAct 105 (.aload_n 0) 1 106 := ⟨by decide +kernel, rfl⟩
theorem iX2_comeAct_106 : xl_D mX2_comeAct 106 (.iload_n 1) 1 107 := ⟨by decide +kernel, rfl⟩
theorem iX2_comeAct_107 : xl_D mX2_comeAct 107 (.iconst 1) 1 108 := ⟨by decide +kernel, rfl⟩
theorem iX2_comeAct_108 : xl_D mX2_comeAct 108 (.iadd) 1 109 := ⟨by decide +kernel, rfl⟩
theorem iX2_comeAct_109 : xl_D mX2_comeAct 109 (.iconst 1) 1 110 := ⟨by decide +kernel, rfl⟩
theorem iX2_comeAct_110 : xl_Ca mX2_comeAct 110 mX2_numberAt 113 := ⟨324, by decide +kernel, rfl, lX2_324, Nat.le_of_ble_eq_true rfl, Nat.le_of_ble_eq_true rfl⟩
theorem iX2_comeAct_113 : xl_Ca mX2_comeAct 113 mX1_comeIdle 116 := ⟨125, by decide +kernel, rfl, lX2_125, Nat.le_of_ble_eq_true rfl, Nat.le_of_ble_eq_true rfl⟩
theorem iX2_comeAct_116 : xl_D mX2_comeAct 116 (.return_) 1 117 := ⟨by decide +kernel, rfl⟩
theorem iX2_remember_0 : xl_D mX2_remember 0 (.aload_n 0) 1 1 := ⟨by decide +kernel, rfl⟩
theorem iX2_remember_1 : xl_G mX2_remember 1 2 2 4 := ⟨19, by decide +kernel, rfl, fX2_19⟩
theorem iX2_remember_4 : xl_D mX2_remember 4 (.aload_n 0) 1 5 := ⟨by decide +kernel, rfl⟩
theorem iX2_remember_5 : xl_G mX2_remember 5 2 3 8 := ⟨277, by decide +kernel, rfl, fX2_277⟩
theorem iX2_remember_8 : xl_D mX2_remember 8 (.aload_n 0) 1 9 := ⟨by decide +kernel, rfl⟩
theorem iX2_remember_9 : xl_G mX2_remember 9 2 4 12 := ⟨274, by decide +kernel, rfl, fX2_274⟩
theorem iX2_remember_12 : xl_D mX2_remember 12 (.iadd) 1 13 := ⟨by decide +kernel, rfl⟩
theorem iX2_remember_13 : xl_D mX2_remember 13 (.bipush 6) 2 15 := ⟨by decide +kernel, rfl⟩
theorem iX2_remember_15 : xl_D mX2_remember 15 (.irem) 1 16 := ⟨by decide +kernel, rfl⟩
theorem iX2_remember_16 : xl_D mX2_remember 16 (.aaload) 1 17 := ⟨by decide +kernel, rfl⟩
theorem iX2_remember_17 : xl_D mX2_remember 17 (.astore_n 1) 1 18 := ⟨by decide +kernel, rfl⟩
theorem iX2_remember_18 : xl_D mX2_remember 18 (.aload_n 1) 1 19 := ⟨by decide +kernel, rfl⟩
theorem iX2_remember_19 : xl_J mX2_remember 19 (fun o => .ifnonnull o) 22 23 := ⟨4, by decide +kernel, rfl, rfl⟩
theorem iX2_remember_22 : xl_D mX2_remember 22 (.return_) 1 23 := ⟨by decide +kernel, rfl⟩
theorem iX2_remember_23 : xl_D mX2_remember 23 (.aload_n 1) 1 24 := ⟨by decide +kernel, rfl⟩
theorem iX2_remember_24 : xl_D mX2_remember 24 (.aload_n 0) 1 25 := ⟨by decide +kernel, rfl⟩
theorem iX2_remember_25 : xl_G mX2_remember 25 2 0 28 := ⟨10, by decide +kernel, rfl, fX2_10⟩
theorem iX2_remember_28 : xl_Ca mX2_remember 28 mX1_copyFrom 31 := ⟨222, by decide +kernel, rfl, lX2_222, Nat.le_of_ble_eq_true rfl, Nat.le_of_ble_eq_true rfl⟩
theorem iX2_remember_31 : xl_D mX2_remember 31 (.aload_n 0) 1 32 := ⟨by decide +kernel, rfl⟩
theorem iX2_remember_32 : xl_G mX2_remember 32 2 4 35 := ⟨274, by decide +kernel, rfl, fX2_274⟩
theorem iX2_remember_35 : xl_D mX2_remember 35 (.bipush 6) 2 37 := ⟨by decide +kernel, rfl⟩
theorem iX2_remember_37 : xl_J mX2_remember 37 (fun o => .if_icmp .ge o) 40 53 := ⟨16, by decide +kernel, rfl, rfl⟩
theorem iX2_remember_40 : xl_D mX2_remember 40 (.aload_n 0) 1 41 := ⟨by decide +kernel, rfl⟩
theorem iX2_remember_41 : xl_D mX2_remember 41 (.dup) 1 42 := ⟨by decide +kernel, rfl⟩
theorem iX2_remember_42 : xl_G mX2_remember 42 2 4 45 := ⟨274, by decide +kernel, rfl, fX2_274⟩
theorem iX2_remember_45 : xl_D mX2_remember 45 (.iconst 1) 1 46 := ⟨by decide +kernel, rfl⟩
theorem iX2_remember_46 : xl_D mX2_remember 46 (.iadd) 1 47 := ⟨by decide +kernel, rfl⟩
theorem iX2_remember_47 : xl_P mX2_remember 47 2 4 .int 50 := ⟨274, by decide +kernel, rfl, wX2_274⟩
theorem iX2_remember_50 : xl_J mX2_remember 50 (fun o => .goto o) 53 66 := ⟨16, by decide +kernel, rfl, rfl⟩
theorem iX2_remember_53 : xl_D mX2_remember 53 (.aload_n 0) 1 54 := ⟨by decide +kernel, rfl⟩
theorem iX2_remember_54 : xl_D mX2_remember 54 (.aload_n 0) 1 55 := ⟨by decide +kernel, rfl⟩
theorem iX2_remember_55 : xl_G mX2_remember 55 2 3 58 := ⟨277, by decide +kernel, rfl, fX2_277⟩
theorem iX2_remember_58 : xl_D mX2_remember 58 (.iconst 1) 1 59 := ⟨by decide +kernel, rfl⟩
theorem iX2_remember_59 : xl_D mX2_remember 59 (.iadd) 1 60 := ⟨by decide +kernel, rfl⟩
theorem iX2_remember_60 : xl_D mX2_remember 60 (.bipush 6) 2 62 := ⟨by decide +kernel, rfl⟩
theorem iX2_remember_62 : xl_D mX2_remember 62 (.irem) 1 63 := ⟨by decide +kernel, rfl⟩
theorem iX2_remember_63 : xl_P mX2_remember 63 2 3 .int 66 := ⟨277, by decide +kernel, rfl, wX2_277⟩
theorem iX2_remember_66 : xl_D mX2_remember 66 (.return_) 1 67 := ⟨by decide +kernel, rfl⟩
theorem iX2_replay_0 : xl_D mX2_replay 0 (.aload_n 0) 1 1 := ⟨by decide +kernel, rfl⟩
theorem iX2_replay_1 : xl_G mX2_replay 1 2 0 4 := ⟨10, by decide +kernel, rfl, fX2_10⟩
theorem iX2_replay_4 : xl_G mX2_replay 4 1 10 7 := ⟨63, by decide +kernel, rfl, fX2_63⟩
theorem iX2_replay_7 : xl_G mX2_replay 7 0 3 10 := ⟨76, by decide +kernel, rfl, fX2_76⟩
theorem iX2_replay_10 : xl_D mX2_replay 10 (.istore 5) 2 12 := ⟨by decide +kernel, rfl⟩
theorem iX2_replay_12 : xl_D mX2_replay 12 (.aload_n 0) 1 13 := ⟨by decide +kernel, rfl⟩
theorem iX2_replay_13 : xl_G mX2_replay 13 2 1 16 := ⟨16, by decide +kernel, rfl, fX2_16⟩
theorem iX2_replay_16 : xl_D mX2_replay 16 (.iload 5) 2 18 := ⟨by decide +kernel, rfl⟩
theorem iX2_replay_18 : xl_D mX2_replay 18 (.iload_n 1) 1 19 := ⟨by decide +kernel, rfl⟩
theorem iX2_replay_19 : xl_D mX2_replay 19 (.iload_n 2) 1 20 := ⟨by decide +kernel, rfl⟩
theorem iX2_replay_20 : xl_D mX2_replay 20 (.iload_n 3) 1 21 := ⟨by decide +kernel, rfl⟩
theorem iX2_replay_21 : xl_Ca mX2_replay 21 mX1_reset 24 := ⟨55, by decide +kernel, rfl, lX2_55, Nat.le_of_ble_eq_true rfl, Nat.le_of_ble_eq_true rfl⟩
theorem iX2_replay_24 : xl_D mX2_replay 24 (.iconst 0) 1 25 := ⟨by decide +kernel, rfl⟩
theorem iX2_replay_25 : xl_D mX2_replay 25 (.istore 6) 2 27 := ⟨by decide +kernel, rfl⟩
theorem iX2_replay_27 : xl_D mX2_replay 27 (.iload 6) 2 29 := ⟨by decide +kernel, rfl⟩
theorem iX2_replay_29 : xl_D mX2_replay 29 (.iload 5) 2 31 := ⟨by decide +kernel, rfl⟩
theorem iX2_replay_31 : xl_J mX2_replay 31 (fun o => .if_icmp .ge o) 34 66 := ⟨35, by decide +kernel, rfl, rfl⟩
theorem iX2_replay_34 : xl_D mX2_replay 34 (.aload_n 0) 1 35 := ⟨by decide +kernel, rfl⟩
theorem iX2_replay_35 : xl_G mX2_replay 35 2 1 38 := ⟨16, by decide +kernel, rfl, fX2_16⟩
theorem iX2_replay_38 : xl_G mX2_replay 38 1 10 41 := ⟨63, by decide +kernel, rfl, fX2_63⟩
theorem iX2_replay_41 : xl_D mX2_replay 41 (.iload 6) 2 43 := ⟨by decide +kernel, rfl⟩
theorem iX2_replay_43 : xl_D mX2_replay 43 (.iconst 1) 1 44 := ⟨by decide +kernel, rfl⟩
theorem iX2_replay_44 : xl_D mX2_replay 44 (.aload_n 0) 1 45 := ⟨by decide +kernel, rfl⟩
theorem iX2_replay_45 : xl_G mX2_replay 45 2 0 48 := ⟨10, by decide +kernel, rfl, fX2_10⟩
theorem iX2_replay_48 : xl_G mX2_replay 48 1 10 51 := ⟨63, by decide +kernel, rfl, fX2_63⟩
theorem iX2_replay_51 : xl_D mX2_replay 51 (.iload 6) 2 53 := ⟨by decide +kernel, rfl⟩
theorem iX2_replay_53 : xl_D mX2_replay 53 (.iconst 1) 1 54 := ⟨by decide +kernel, rfl⟩
theorem iX2_replay_54 : xl_Ca mX2_replay 54 mX0_get 57 := ⟨67, by decide +kernel, rfl, lX2_67, Nat.le_of_ble_eq_true rfl, Nat.le_of_ble_eq_true rfl⟩
theorem iX2_replay_57 : xl_Ca mX2_replay 57 mX0_set 60 := ⟨79, by decide +kernel, rfl, lX2_79, Nat.le_of_ble_eq_true rfl, Nat.le_of_ble_eq_true rfl⟩
theorem iX2_replay_60 : xl_D mX2_replay 60 (.iinc 6 1) 3 63 := ⟨by decide +kernel, rfl⟩
theorem iX2_replay_63 : xl_J mX2_replay 63 (fun o => .goto o) 66 27 := ⟨-36, by decide +kernel, rfl, rfl⟩
theorem iX2_replay_66 : xl_D mX2_replay 66 (.iload 4) 2 68 := ⟨by decide +kernel, rfl⟩
theorem iX2_replay_68 : xl_J mX2_replay 68 (fun o => .ifCond .lt o) 71 85 := ⟨17, by decide +kernel, rfl, rfl⟩
theorem iX2_replay_71 : xl_D mX2_replay 71 (.aload_n 0) 1 72 := ⟨by decide +kernel, rfl⟩
theorem iX2_replay_72 : xl_G mX2_replay 72 2 1 75 := ⟨16, by decide +kernel, rfl, fX2_16⟩
theorem iX2_replay_75 : xl_G mX2_replay 75 1 10 78 := ⟨63, by decide +kernel, rfl, fX2_63⟩
theorem iX2_replay_78 : xl_D mX2_replay 78 (.iload 4) 2 80 := ⟨by decide +kernel, rfl⟩
theorem iX2_replay_80 : xl_D mX2_replay 80 (.iconst 2) 1 81 := ⟨by decide +kernel, rfl⟩
theorem iX2_replay_81 : xl_D mX2_replay 81 (.iconst 1) 1 82 := ⟨by decide +kernel, rfl⟩
theorem iX2_replay_82 : xl_Ca mX2_replay 82 mX0_set 85 := ⟨79, by decide +kernel, rfl, lX2_79, Nat.le_of_ble_eq_true rfl, Nat.le_of_ble_eq_true rfl⟩
theorem iX2_replay_85 : xl_D mX2_replay 85 (.iconst 0) 1 86 := ⟨by decide +kernel, rfl⟩
theorem iX2_replay_86 : xl_D mX2_replay 86 (.istore 6) 2 88 := ⟨by decide +kernel, rfl⟩
theorem iX2_replay_88 : xl_D mX2_replay 88 (.iload 6) 2 90 := ⟨by decide +kernel, rfl⟩
theorem iX2_replay_90 : xl_D mX2_replay 90 (.aload_n 0) 1 91 := ⟨by decide +kernel, rfl⟩
theorem iX2_replay_91 : xl_G mX2_replay 91 2 0 94 := ⟨10, by decide +kernel, rfl, fX2_10⟩
theorem iX2_replay_94 : xl_G mX2_replay 94 1 14 97 := ⟨73, by decide +kernel, rfl, fX2_73⟩
theorem iX2_replay_97 : xl_G mX2_replay 97 0 3 100 := ⟨76, by decide +kernel, rfl, fX2_76⟩
theorem iX2_replay_100 : xl_J mX2_replay 100 (fun o => .if_icmp .ge o) 103 143 := ⟨43, by decide +kernel, rfl, rfl⟩
theorem iX2_replay_103 : xl_D mX2_replay 103 (.aload_n 0) 1 104 := ⟨by decide +kernel, rfl⟩
theorem iX2_replay_104 : xl_G mX2_replay 104 2 0 107 := ⟨10, by decide +kernel, rfl, fX2_10⟩
theorem iX2_replay_107 : xl_G mX2_replay 107 1 14 110 := ⟨73, by decide +kernel, rfl, fX2_73⟩
theorem iX2_replay_110 : xl_D mX2_replay 110 (.iload 6) 2 112 := ⟨by decide +kernel, rfl⟩
theorem iX2_replay_112 : xl_D mX2_replay 112 (.iconst 1) 1 113 := ⟨by decide +kernel, rfl⟩
theorem iX2_replay_113 : xl_Ca mX2_replay 113 mX0_get 116 := ⟨67, by decide +kernel, rfl, lX2_67, Nat.le_of_ble_eq_true rfl, Nat.le_of_ble_eq_true rfl⟩
theorem iX2_replay_116 : xl_D mX2_replay 116 (.iload 4) 2 118 := ⟨by decide +kernel, rfl⟩
theorem iX2_replay_118 : xl_J mX2_replay 118 (fun o => .if_icmp .eq o) 121 137 := ⟨19, by decide +kernel, rfl, rfl⟩
theorem iX2_replay_121 : xl_D mX2_replay 121 (.aload_n 0) 1 122 := ⟨by decide +kernel, rfl⟩
theorem iX2_replay_122 : xl_G mX2_replay 122 2 1 125 := ⟨16, by decide +kernel, rfl, fX2_16⟩
theorem iX2_replay_125 : xl_D mX2_replay 125 (.aload_n 0) 1 126 := ⟨by decide +kernel, rfl⟩
theorem iX2_replay_126 : xl_G mX2_replay 126 2 0 129 := ⟨10, by decide +kernel, rfl, fX2_10⟩
theorem iX2_replay_129 : xl_G mX2_replay 129 1 14 132 := ⟨73, by decide +kernel, rfl, fX2_73⟩
theorem iX2_replay_132 : xl_D mX2_replay 132 (.iload 6) 2 134 := ⟨by decide +kernel, rfl⟩
theorem iX2_replay_134 : xl_Ca mX2_replay 134 mX1_playInput 137 := ⟨333, by decide +kernel, rfl, lX2_333, Nat.le_of_ble_eq_true rfl, Nat.le_of_ble_eq_true rfl⟩
theorem iX2_replay_137 : xl_D mX2_replay 137 (.iinc 6 1) 3 140 := ⟨by decide +kernel, rfl⟩
theorem iX2_replay_140 : xl_J mX2_replay 140 (fun o => .goto o) 143 88 := ⟨-52, by decide +kernel, rfl, rfl⟩
theorem iX2_replay_143 : xl_D mX2_replay 143 (.return_) 1 144 := ⟨by decide +kernel, rfl⟩
theorem iX2_sortTaken_0 : xl_D mX2_sortTaken 0 (.iconst 0) 1 1 := ⟨by decide +kernel, rfl⟩
theorem iX2_sortTaken_1 : xl_D mX2_sortTaken 1 (.istore_n 2) 1 2 := ⟨by decide +kernel, rfl⟩
theorem iX2_sortTaken_2 : xl_D mX2_sortTaken 2 (.iconst 0) 1 3 := ⟨by decide +kernel, rfl⟩
theorem iX2_sortTaken_3 : xl_D mX2_sortTaken 3 (.istore_n 3) 1 4 := ⟨by decide +kernel, rfl⟩
theorem iX2_sortTaken_4 : xl_D mX2_sortTaken 4 (.iload_n 3) 1 5 := ⟨by decide +kernel, rfl⟩
theorem iX2_sortTaken_5 : xl_D mX2_sortTaken 5 (.aload_n 0) 1 6 := ⟨by decide +kernel, rfl⟩
theorem iX2_sortTaken_6 : xl_G mX2_sortTaken 6 2 0 9 := ⟨10, by decide +kernel, rfl, fX2_10⟩
theorem iX2_sortTaken_9 : xl_G mX2_sortTaken 9 1 14 12 := ⟨73, by decide +kernel, rfl, fX2_73⟩
theorem iX2_sortTaken_12 : xl_G mX2_sortTaken 12 0 3 15 := ⟨76, by decide +kernel, rfl, fX2_76⟩
theorem iX2_sortTaken_15 : xl_J mX2_sortTaken 15 (fun o => .if_icmp .ge o) 18 117 := ⟨102, by decide +kernel, rfl, rfl⟩
theorem iX2_sortTaken_18 : xl_D mX2_sortTaken 18 (.iload_n 2) 1 19 := ⟨by decide +kernel, rfl⟩
theorem iX2_sortTaken_19 : xl_D mX2_sortTaken 19 (.aload_n 0) 1 20 := ⟨by decide +kernel, rfl⟩
theorem iX2_sortTaken_20 : xl_G mX2_sortTaken 20 2 11 23 := ⟨34, by decide +kernel, rfl, fX2_34⟩
theorem iX2_sortTaken_23 : xl_D mX2_sortTaken 23 (.arraylength) 1 24 := ⟨by decide +kernel, rfl⟩
theorem iX2_sortTaken_24 : xl_J mX2_sortTaken 24 (fun o => .if_icmp .ge o) 27 117 := ⟨93, by decide +kernel, rfl, rfl⟩
theorem iX2_sortTaken_27 : xl_D mX2_sortTaken 27 (.aload_n 0) 1 28 := ⟨by decide +kernel, rfl⟩
theorem iX2_sortTaken_28 : xl_G mX2_sortTaken 28 2 0 31 := ⟨10, by decide +kernel, rfl, fX2_10⟩
theorem iX2_sortTaken_31 : xl_D mX2_sortTaken 31 (.iload_n 3) 1 32 := ⟨by decide +kernel, rfl⟩
theorem iX2_sortTaken_32 : xl_D mX2_sortTaken 32 (.iload_n 1) 1 33 := ⟨by decide +kernel, rfl⟩
theorem iX2_sortTaken_33 : xl_Ca mX2_sortTaken 33 mX1_isTakenOf 36 := ⟨192, by decide +kernel, rfl, lX2_192, Nat.le_of_ble_eq_true rfl, Nat.le_of_ble_eq_true rfl⟩
theorem iX2_sortTaken_36 : xl_J mX2_sortTaken 36 (fun o => .ifCond .ne o) 39 42 := ⟨6, by decide +kernel, rfl, rfl⟩
theorem iX2_sortTaken_39 : xl_J mX2_sortTaken 39 (fun o => .goto o) 42 111 := ⟨72, by decide +kernel, rfl, rfl⟩
theorem iX2_sortTaken_42 : xl_D mX2_sortTaken 42 (.aload_n 0) 1 43 := ⟨by decide +kernel, rfl⟩
theorem iX2_sortTaken_43 : xl_G mX2_sortTaken 43 2 0 46 := ⟨10, by decide +kernel, rfl, fX2_10⟩
theorem iX2_sortTaken_46 : xl_G mX2_sortTaken 46 1 14 49 := ⟨73, by decide +kernel, rfl, fX2_73⟩
theorem iX2_sortTaken_49 : xl_D mX2_sortTaken 49 (.iload_n 3) 1 50 := ⟨by decide +kernel, rfl⟩
theorem iX2_sortTaken_50 : xl_D mX2_sortTaken 50 (.iconst 2) 1 51 := ⟨by decide +kernel, rfl⟩
theorem iX2_sortTaken_51 : xl_Ca mX2_sortTaken 51 mX0_get 54 := ⟨67, by decide +kernel, rfl, lX2_67, Nat.le_of_ble_eq_true rfl, Nat.le_of_ble_eq_true rfl⟩
theorem iX2_sortTaken_54 : xl_D mX2_sortTaken 54 (.istore 4) 2 56 := ⟨by decide +kernel, rfl⟩
theorem iX2_sortTaken_56 : xl_D mX2_sortTaken 56 (.iload_n 2) 1 57 := ⟨by decide +kernel, rfl⟩
theorem iX2_sortTaken_57 : xl_D mX2_sortTaken 57 (.istore 5) 2 59 := ⟨by decide +kernel, rfl⟩
theorem iX2_sortTaken_59 : xl_D mX2_sortTaken 59 (.iload 5) 2 61 := ⟨by decide +kernel, rfl⟩
theorem iX2_sortTaken_61 : xl_J mX2_sortTaken 61 (fun o => .ifCond .le o) 64 100 := ⟨39, by decide +kernel, rfl, rfl⟩
theorem iX2_sortTaken_64 : xl_D mX2_sortTaken 64 (.aload_n 0) 1 65 := ⟨by decide +kernel, rfl⟩
theorem iX2_sortTaken_65 : xl_D mX2_sortTaken 65 (.iload 5) 2 67 := ⟨by decide +kernel, rfl⟩
theorem iX2_sortTaken_67 : xl_D mX2_sortTaken 67 (.iconst 1) 1 68 := ⟨by decide +kernel, rfl⟩
theorem iX2_sortTaken_68 : xl_D mX2_sortTaken 68 (.isub) 1 69 := ⟨by decide +kernel, rfl⟩
theorem iX2_sortTaken_69 : xl_D mX2_sortTaken 69 (.iconst 2) 1 70 := ⟨by decide +kernel, rfl⟩
theorem iX2_sortTaken_70 : xl_Ca mX2_sortTaken 70 mX2_sortedCell 73 := ⟨232, by decide +kernel, rfl, lX2_232, Nat.le_of_ble_eq_true rfl, Nat.le_of_ble_eq_true rfl⟩
theorem iX2_sortTaken_73 : xl_D mX2_sortTaken 73 (.iload 4) 2 75 := ⟨by decide +kernel, rfl⟩
theorem iX2_sortTaken_75 : xl_J mX2_sortTaken 75 (fun o => .if_icmp .le o) 78 100 := ⟨25, by decide +kernel, rfl, rfl⟩
theorem iX2_sortTaken_78 : xl_D mX2_sortTaken 78 (.aload_n 0) 1 79 := ⟨by decide +kernel, rfl⟩
theorem iX2_sortTaken_79 : xl_G mX2_sortTaken 79 2 11 82 := ⟨34, by decide +kernel, rfl, fX2_34⟩
theorem iX2_sortTaken_82 : xl_D mX2_sortTaken 82 (.iload 5) 2 84 := ⟨by decide +kernel, rfl⟩
theorem iX2_sortTaken_84 : xl_D mX2_sortTaken 84 (.aload_n 0) 1 85 := ⟨by decide +kernel, rfl⟩
theorem iX2_sortTaken_85 : xl_G mX2_sortTaken 85 2 11 88 := ⟨34, by decide +kernel, rfl, fX2_34⟩
theorem iX2_sortTaken_88 : xl_D mX2_sortTaken 88 (.iload 5) 2 90 := ⟨by decide +kernel, rfl⟩
theorem iX2_sortTaken_90 : xl_D mX2_sortTaken 90 (.iconst 1) 1 91 := ⟨by decide +kernel, rfl⟩
theorem iX2_sortTaken_91 : xl_D mX2_sortTaken 91 (.isub) 1 92 := ⟨by decide +kernel, rfl⟩
theorem iX2_sortTaken_92 : xl_D mX2_sortTaken 92 (.iaload) 1 93 := ⟨by decide +kernel, rfl⟩
theorem iX2_sortTaken_93 : xl_D mX2_sortTaken 93 (.iastore) 1 94 := ⟨by decide +kernel, rfl⟩
theorem iX2_sortTaken_94 : xl_D mX2_sortTaken 94 (.iinc 5 (-1)) 3 97 := ⟨by decide +kernel, rfl⟩
theorem iX2_sortTaken_97 : xl_J mX2_sortTaken 97 (fun o => .goto o) 100 59 := ⟨-38, by decide +kernel, rfl, rfl⟩
theorem iX2_sortTaken_100 : xl_D mX2_sortTaken 100 (.aload_n 0) 1 101 := ⟨by decide +kernel, rfl⟩
theorem iX2_sortTaken_101 : xl_G mX2_sortTaken 101 2 11 104 := ⟨34, by decide +kernel, rfl, fX2_34⟩
theorem iX2_sortTaken_104 : xl_D mX2_sortTaken 104 (.iload 5) 2 106 := ⟨by decide +kernel, rfl⟩
theorem iX2_sortTaken_106 : xl_D mX2_sortTaken 106 (.iload_n 3) 1 107 := ⟨by decide +kernel, rfl⟩
theorem iX2_sortTaken_107 : xl_D mX2_sortTaken 107 (.iastore) 1 108 := ⟨by decide +kernel, rfl⟩
theorem iX2_sortTaken_108 : xl_D mX2_sortTaken 108 (.iinc 2 1) 3 111 := ⟨by decide +kernel, rfl⟩
theorem iX2_sortTaken_111 : xl_D mX2_sortTaken 111 (.iinc 3 1) 3 114 := ⟨by decide +kernel, rfl⟩
theorem iX2_sortTaken_114 : xl_J mX2_sortTaken 114 (fun o => .goto o) 117 4 := ⟨-110, by decide +kernel, rfl, rfl⟩
theorem iX2_sortTaken_117 : xl_D mX2_sortTaken 117 (.iload_n 2) 1 118 := ⟨by decide +kernel, rfl⟩
theorem iX2_sortTaken_118 : xl_D mX2_sortTaken 118 (.ireturn) 1 119 := ⟨by decide +kernel, rfl⟩
theorem iX2_sortedCell_0 : xl_D mX2_sortedCell 0 (.iload_n 1) 1 1 := ⟨by decide +kernel, rfl⟩
theorem iX2_sortedCell_1 : xl_J mX2_sortedCell 1 (fun o => .ifCond .lt o) 4 33 := ⟨32, by decide +kernel, rfl, rfl⟩
theorem iX2_sortedCell_4 : xl_D mX2_sortedCell 4 (.iload_n 1) 1 5 := ⟨by decide +kernel, rfl⟩
theorem iX2_sortedCell_5 : xl_D mX2_sortedCell 5 (.aload_n 0) 1 6 := ⟨by decide +kernel, rfl⟩
theorem iX2_sortedCell_6 : xl_G mX2_sortedCell 6 2 11 9 := ⟨34, by decide +kernel, rfl, fX2_34⟩
theorem iX2_sortedCell_9 : xl_D mX2_sortedCell 9 (.arraylength) 1 10 := ⟨by decide +kernel, rfl⟩
theorem iX2_sortedCell_10 : xl_J mX2_sortedCell 10 (fun o => .if_icmp .ge o) 13 33 := ⟨23, by decide +kernel, rfl, rfl⟩
theorem iX2_sortedCell_13 : xl_D mX2_sortedCell 13 (.aload_n 0) 1 14 := ⟨by decide +kernel, rfl⟩
theorem iX2_sortedCell_14 : xl_G mX2_sortedCell 14 2 0 17 := ⟨10, by decide +kernel, rfl, fX2_10⟩
theorem iX2_sortedCell_17 : xl_G mX2_sortedCell 17 1 14 20 := ⟨73, by decide +kernel, rfl, fX2_73⟩
theorem iX2_sortedCell_20 : xl_D mX2_sortedCell 20 (.aload_n 0) 1 21 := ⟨by decide +kernel, rfl⟩
theorem iX2_sortedCell_21 : xl_G mX2_sortedCell 21 2 11 24 := ⟨34, by decide +kernel, rfl, fX2_34⟩
theorem iX2_sortedCell_24 : xl_D mX2_sortedCell 24 (.iload_n 1) 1 25 := ⟨by decide +kernel, rfl⟩
theorem iX2_sortedCell_25 : xl_D mX2_sortedCell 25 (.iaload) 1 26 := ⟨by decide +kernel, rfl⟩
theorem iX2_sortedCell_26 : xl_D mX2_sortedCell 26 (.iload_n 2) 1 27 := ⟨by decide +kernel, rfl⟩
theorem iX2_sortedCell_27 : xl_Ca mX2_sortedCell 27 mX0_get 30 := ⟨67, by decide +kernel, rfl, lX2_67, Nat.le_of_ble_eq_true rfl, Nat.le_of_ble_eq_true rfl⟩
theorem iX2_sortedCell_30 : xl_J mX2_sortedCell 30 (fun o => .goto o) 33 34 := ⟨4, by decide +kernel, rfl, rfl⟩
theorem iX2_sortedCell_33 : xl_D mX2_sortedCell 33 (.iconst 0) 1 34 := ⟨by decide +kernel, rfl⟩
theorem iX2_sortedCell_34 : xl_D mX2_sortedCell 34 (.ireturn) 1 35 := ⟨by decide +kernel, rfl⟩
theorem iX2_holeBehind_0 : xl_D mX2_holeBehind 0 (.aload_n 0) 1 1 := ⟨by decide +kernel, rfl⟩
theorem iX2_holeBehind_1 : xl_D mX2_holeBehind 1 (.iload_n 1) 1 2 := ⟨by decide +kernel, rfl⟩
theorem iX2_holeBehind_2 : xl_D mX2_holeBehind 2 (.iconst 1) 1 3 := ⟨by decide +kernel, rfl⟩
theorem iX2_holeBehind_3 : xl_D mX2_holeBehind 3 (.iadd) 1 4 := ⟨by decide +kernel, rfl⟩
theorem iX2_holeBehind_4 : xl_D mX2_holeBehind 4 (.iconst 2) 1 5 := ⟨by decide +kernel, rfl⟩
theorem iX2_holeBehind_5 : xl_Ca mX2_holeBehind 5 mX2_sortedCell 8 := ⟨232, by decide +kernel, rfl, lX2_232, Nat.le_of_ble_eq_true rfl, Nat.le_of_ble_eq_true rfl⟩
theorem iX2_holeBehind_8 : xl_D mX2_holeBehind 8 (.aload_n 0) 1 9 := ⟨by decide +kernel, rfl⟩
theorem iX2_holeBehind_9 : xl_D mX2_holeBehind 9 (.iload_n 1) 1 10 := ⟨by decide +kernel, rfl⟩
theorem iX2_holeBehind_10 : xl_D mX2_holeBehind 10 (.iconst 2) 1 11 := ⟨by decide +kernel, rfl⟩
theorem iX2_holeBehind_11 : xl_Ca mX2_holeBehind 11 mX2_sortedCell 14 := ⟨232, by decide +kernel, rfl, lX2_232, Nat.le_of_ble_eq_true rfl, Nat.le_of_ble_eq_true rfl⟩
theorem iX2_holeBehind_14 : xl_D mX2_holeBehind 14 (.isub) 1 15 := ⟨by decide +kernel, rfl⟩
theorem iX2_holeBehind_15 : xl_D mX2_holeBehind 15 (.ireturn) 1 16 := ⟨by decide +kernel, rfl⟩
theorem iX2_drawAfter_0 : xl_D mX2_drawAfter 0 (.iload_n 0) 1 1 := ⟨by decide +kernel, rfl⟩
theorem iX2_drawAfter_1 : xl_D mX2_drawAfter 1 (.ldc_w 337) 3 4 := ⟨by decide +kernel, rfl⟩
theorem iX2_drawAfter_4 : xl_D mX2_drawAfter 4 (.imul) 1 5 := ⟨by decide +kernel, rfl⟩
theorem iX2_drawAfter_5 : xl_D mX2_drawAfter 5 (.sipush 12345) 3 8 := ⟨by decide +kernel, rfl⟩
theorem iX2_drawAfter_8 : xl_D mX2_drawAfter 8 (.iadd) 1 9 := ⟨by decide +kernel, rfl⟩
theorem iX2_drawAfter_9 : xl_D mX2_drawAfter 9 (.ireturn) 1 10 := ⟨by decide +kernel, rfl⟩
theorem iX2_drawOf_0 : xl_D mX2_drawOf 0 (.iload_n 1) 1 1 := ⟨by decide +kernel, rfl⟩
theorem iX2_drawOf_1 : xl_J mX2_drawOf 1 (fun o => .ifCond .le o) 4 13 := ⟨12, by decide +kernel, rfl, rfl⟩
theorem iX2_drawOf_4 : xl_D mX2_drawOf 4 (.iload_n 0) 1 5 := ⟨by decide +kernel, rfl⟩
theorem iX2_drawOf_5 : xl_D mX2_drawOf 5 (.bipush 16) 2 7 := ⟨by decide +kernel, rfl⟩
theorem iX2_drawOf_7 : xl_D mX2_drawOf 7 (.iushr) 1 8 := ⟨by decide +kernel, rfl⟩
theorem iX2_drawOf_8 : xl_D mX2_drawOf 8 (.iload_n 1) 1 9 := ⟨by decide +kernel, rfl⟩
theorem iX2_drawOf_9 : xl_D mX2_drawOf 9 (.irem) 1 10 := ⟨by decide +kernel, rfl⟩
theorem iX2_drawOf_10 : xl_J mX2_drawOf 10 (fun o => .goto o) 13 14 := ⟨4, by decide +kernel, rfl, rfl⟩
theorem iX2_drawOf_13 : xl_D mX2_drawOf 13 (.iconst 0) 1 14 := ⟨by decide +kernel, rfl⟩
theorem iX2_drawOf_14 : xl_D mX2_drawOf 14 (.ireturn) 1 15 := ⟨by decide +kernel, rfl⟩
