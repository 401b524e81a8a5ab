-- 24.codeW
section
theorem iX1_init_0 : xl_D mX1_init 0 (.aload_n 0) 1 1 := ⟨zd zq_0 (by decide +kernel), rfl⟩
theorem iX1_init_1 : xl_D mX1_init 1 (.invokespecial 3) 3 4 := ⟨zd zq_61 (by decide +kernel), rfl⟩
theorem iX1_init_4 : xl_D mX1_init 4 (.aload_n 0) 1 5 := ⟨zd zq_0 (by decide +kernel), rfl⟩
theorem iX1_init_5 : xl_D mX1_init 5 (.new 9) 3 8 := ⟨zd zq_62 (by decide +kernel), rfl⟩
theorem iX1_init_8 : xl_D mX1_init 8 (.dup) 1 9 := ⟨zd zq_46 (by decide +kernel), rfl⟩
theorem iX1_init_9 : xl_D mX1_init 9 (.iconst 4) 1 10 := ⟨zd zq_63 (by decide +kernel), rfl⟩
theorem iX1_init_10 : xl_D mX1_init 10 (.iconst 5) 1 11 := ⟨zd zq_64 (by decide +kernel), rfl⟩
theorem iX1_init_11 : xl_D mX1_init 11 (.invokespecial 11) 3 14 := ⟨zd zq_65 (by decide +kernel), rfl⟩
theorem iX1_init_17 : xl_D mX1_init 17 (.aload_n 0) 1 18 := ⟨zd zq_0 (by decide +kernel), rfl⟩
theorem iX1_init_18 : xl_D mX1_init 18 (.new 9) 3 21 := ⟨zd zq_62 (by decide +kernel), rfl⟩
theorem iX1_init_21 : xl_D mX1_init 21 (.dup) 1 22 := ⟨zd zq_46 (by decide +kernel), rfl⟩
theorem iX1_init_22 : xl_D mX1_init 22 (.sipush 161) 3 25 := ⟨zd zq_67 (by decide +kernel), rfl⟩
theorem iX1_init_25 : xl_D mX1_init 25 (.bipush 7) 2 27 := ⟨zd zq_68 (by decide +kernel), rfl⟩
theorem iX1_init_27 : xl_D mX1_init 27 (.invokespecial 11) 3 30 := ⟨zd zq_65 (by decide +kernel), rfl⟩
theorem iX1_init_33 : xl_D mX1_init 33 (.aload_n 0) 1 34 := ⟨zd zq_0 (by decide +kernel), rfl⟩
theorem iX1_init_34 : xl_D mX1_init 34 (.new 9) 3 37 := ⟨zd zq_62 (by decide +kernel), rfl⟩
theorem iX1_init_37 : xl_D mX1_init 37 (.dup) 1 38 := ⟨zd zq_46 (by decide +kernel), rfl⟩
theorem iX1_init_38 : xl_D mX1_init 38 (.bipush 60) 2 40 := ⟨zd zq_70 (by decide +kernel), rfl⟩
theorem iX1_init_40 : xl_D mX1_init 40 (.bipush 6) 2 42 := ⟨zd zq_71 (by decide +kernel), rfl⟩
theorem iX1_init_42 : xl_D mX1_init 42 (.invokespecial 11) 3 45 := ⟨zd zq_65 (by decide +kernel), rfl⟩
theorem iX1_init_48 : xl_D mX1_init 48 (.aload_n 0) 1 49 := ⟨zd zq_0 (by decide +kernel), rfl⟩
theorem iX1_init_49 : xl_D mX1_init 49 (.new 9) 3 52 := ⟨zd zq_62 (by decide +kernel), rfl⟩
theorem iX1_init_52 : xl_D mX1_init 52 (.dup) 1 53 := ⟨zd zq_46 (by decide +kernel), rfl⟩
theorem iX1_init_53 : xl_D mX1_init 53 (.bipush 40) 2 55 := ⟨zd zq_73 (by decide +kernel), rfl⟩
theorem iX1_init_55 : xl_D mX1_init 55 (.bipush 7) 2 57 := ⟨zd zq_68 (by decide +kernel), rfl⟩
theorem iX1_init_57 : xl_D mX1_init 57 (.invokespecial 11) 3 60 := ⟨zd zq_65 (by decide +kernel), rfl⟩
theorem iX1_init_63 : xl_D mX1_init 63 (.aload_n 0) 1 64 := ⟨zd zq_0 (by decide +kernel), rfl⟩
theorem iX1_init_64 : xl_D mX1_init 64 (.new 9) 3 67 := ⟨zd zq_62 (by decide +kernel), rfl⟩
theorem iX1_init_67 : xl_D mX1_init 67 (.dup) 1 68 := ⟨zd zq_46 (by decide +kernel), rfl⟩
theorem iX1_init_68 : xl_D mX1_init 68 (.sipush 160) 3 71 := ⟨zd zq_74 (by decide +kernel), rfl⟩
theorem iX1_init_71 : xl_D mX1_init 71 (.bipush 7) 2 73 := ⟨zd zq_68 (by decide +kernel), rfl⟩
theorem iX1_init_73 : xl_D mX1_init 73 (.invokespecial 11) 3 76 := ⟨zd zq_65 (by decide +kernel), rfl⟩
theorem iX1_init_79 : xl_D mX1_init 79 (.aload_n 0) 1 80 := ⟨zd zq_0 (by decide +kernel), rfl⟩
theorem iX1_init_80 : xl_D mX1_init 80 (.new 9) 3 83 := ⟨zd zq_62 (by decide +kernel), rfl⟩
theorem iX1_init_83 : xl_D mX1_init 83 (.dup) 1 84 := ⟨zd zq_46 (by decide +kernel), rfl⟩
theorem iX1_init_84 : xl_D mX1_init 84 (.bipush 6) 2 86 := ⟨zd zq_71 (by decide +kernel), rfl⟩
theorem iX1_init_86 : xl_D mX1_init 86 (.bipush 8) 2 88 := ⟨zd zq_76 (by decide +kernel), rfl⟩
theorem iX1_init_88 : xl_D mX1_init 88 (.invokespecial 11) 3 91 := ⟨zd zq_65 (by decide +kernel), rfl⟩
theorem iX1_init_94 : xl_D mX1_init 94 (.aload_n 0) 1 95 := ⟨zd zq_0 (by decide +kernel), rfl⟩
theorem iX1_init_95 : xl_D mX1_init 95 (.iconst 1) 1 96 := ⟨zd zq_36 (by decide +kernel), rfl⟩
theorem iX1_init_96 : xl_D mX1_init 96 (.bipush 10) 2 98 := ⟨zd zq_78 (by decide +kernel), rfl⟩
theorem iX1_init_98 : xl_D mX1_init 98 (.iconst 5) 1 99 := ⟨zd zq_64 (by decide +kernel), rfl⟩
theorem iX1_init_99 : xl_D mX1_init 99 (.iconst 0) 1 100 := ⟨zd zq_2 (by decide +kernel), rfl⟩
theorem iX1_init_100 : xl_Ca mX1_init 100 mX1_reset 103 := ⟨35, zd zq_43 (by decide +kernel), rfl, lX1_35, Nat.le_of_ble_eq_true rfl, Nat.le_of_ble_eq_true rfl⟩
theorem iX1_init_103 : xl_D mX1_init 103 (.return_) 1 104 := ⟨zd zq_12 (by decide +kernel), rfl⟩
theorem iX1_reset_0 : xl_D mX1_reset 0 (.aload_n 0) 1 1 := ⟨zd zq_0 (by decide +kernel), rfl⟩
theorem iX1_reset_1 : xl_D mX1_reset 1 (.iload_n 2) 1 2 := ⟨zd zq_6 (by decide +kernel), rfl⟩
theorem iX1_reset_2 : xl_P mX1_reset 2 1 0 .int 5 := ⟨39, zd zq_79 (by decide +kernel), rfl, wX1_39⟩
theorem iX1_reset_5 : xl_D mX1_reset 5 (.aload_n 0) 1 6 := ⟨zd zq_0 (by decide +kernel), rfl⟩
theorem iX1_reset_6 : xl_D mX1_reset 6 (.iload_n 3) 1 7 := ⟨zd zq_25 (by decide +kernel), rfl⟩
theorem iX1_reset_7 : xl_P mX1_reset 7 1 1 .int 10 := ⟨43, zd zq_80 (by decide +kernel), rfl, wX1_43⟩
theorem iX1_reset_10 : xl_D mX1_reset 10 (.aload_n 0) 1 11 := ⟨zd zq_0 (by decide +kernel), rfl⟩
theorem iX1_reset_11 : xl_D mX1_reset 11 (.iload 4) 2 13 := ⟨zd zq_51 (by decide +kernel), rfl⟩
theorem iX1_reset_13 : xl_P mX1_reset 13 1 2 .int 16 := ⟨46, zd zq_81 (by decide +kernel), rfl, wX1_46⟩
theorem iX1_reset_16 : xl_D mX1_reset 16 (.aload_n 0) 1 17 := ⟨zd zq_0 (by decide +kernel), rfl⟩
theorem iX1_reset_17 : xl_D mX1_reset 17 (.iconst 0) 1 18 := ⟨zd zq_2 (by decide +kernel), rfl⟩
theorem iX1_reset_18 : xl_P mX1_reset 18 1 3 .int 21 := ⟨49, zd zq_82 (by decide +kernel), rfl, wX1_49⟩
theorem iX1_reset_21 : xl_D mX1_reset 21 (.aload_n 0) 1 22 := ⟨zd zq_0 (by decide +kernel), rfl⟩
theorem iX1_reset_22 : xl_D mX1_reset 22 (.iconst 0) 1 23 := ⟨zd zq_2 (by decide +kernel), rfl⟩
theorem iX1_reset_23 : xl_P mX1_reset 23 1 4 .int 26 := ⟨52, zd zq_83 (by decide +kernel), rfl, wX1_52⟩
theorem iX1_reset_26 : xl_D mX1_reset 26 (.aload_n 0) 1 27 := ⟨zd zq_0 (by decide +kernel), rfl⟩
theorem iX1_reset_27 : xl_D mX1_reset 27 (.iconst 0) 1 28 := ⟨zd zq_2 (by decide +kernel), rfl⟩
theorem iX1_reset_28 : xl_P mX1_reset 28 1 5 .int 31 := ⟨55, zd zq_84 (by decide +kernel), rfl, wX1_55⟩
theorem iX1_reset_31 : xl_D mX1_reset 31 (.aload_n 0) 1 32 := ⟨zd zq_0 (by decide +kernel), rfl⟩
theorem iX1_reset_32 : xl_D mX1_reset 32 (.iconst 0) 1 33 := ⟨zd zq_2 (by decide +kernel), rfl⟩
theorem iX1_reset_33 : xl_P mX1_reset 33 1 6 .int 36 := ⟨58, zd zq_85 (by decide +kernel), rfl, wX1_58⟩
theorem iX1_reset_36 : xl_D mX1_reset 36 (.aload_n 0) 1 37 := ⟨zd zq_0 (by decide +kernel), rfl⟩
theorem iX1_reset_37 : xl_D mX1_reset 37 (.iconst 0) 1 38 := ⟨zd zq_2 (by decide +kernel), rfl⟩
theorem iX1_reset_38 : xl_P mX1_reset 38 1 7 .int 41 := ⟨61, zd zq_86 (by decide +kernel), rfl, wX1_61⟩
theorem iX1_reset_41 : xl_D mX1_reset 41 (.aload_n 0) 1 42 := ⟨zd zq_0 (by decide +kernel), rfl⟩
theorem iX1_reset_42 : xl_D mX1_reset 42 (.iconst 0) 1 43 := ⟨zd zq_2 (by decide +kernel), rfl⟩
theorem iX1_reset_43 : xl_P mX1_reset 43 1 8 .int 46 := ⟨64, zd zq_87 (by decide +kernel), rfl, wX1_64⟩
theorem iX1_reset_46 : xl_D mX1_reset 46 (.aload_n 0) 1 47 := ⟨zd zq_0 (by decide +kernel), rfl⟩
theorem iX1_reset_47 : xl_D mX1_reset 47 (.iconst 0) 1 48 := ⟨zd zq_2 (by decide +kernel), rfl⟩
theorem iX1_reset_48 : xl_P mX1_reset 48 1 9 .int 51 := ⟨67, zd zq_88 (by decide +kernel), rfl, wX1_67⟩
theorem iX1_reset_51 : xl_D mX1_reset 51 (.aload_n 0) 1 52 := ⟨zd zq_0 (by decide +kernel), rfl⟩
theorem iX1_reset_52 : xl_G mX1_reset 52 1 10 55 := ⟨14, zd zq_89 (by decide +kernel), rfl, fX1_14⟩
theorem iX1_reset_55 : xl_Ca mX1_reset 55 mX0_clear 58 := ⟨70, zd zq_90 (by decide +kernel), rfl, lX1_70, Nat.le_of_ble_eq_true rfl, Nat.le_of_ble_eq_true rfl⟩
theorem iX1_reset_58 : xl_D mX1_reset 58 (.iconst 0) 1 59 := ⟨zd zq_2 (by decide +kernel), rfl⟩
theorem iX1_reset_59 : xl_D mX1_reset 59 (.istore 5) 2 61 := ⟨zd zq_91 (by decide +kernel), rfl⟩
theorem iX1_reset_61 : xl_D mX1_reset 61 (.iload 5) 2 63 := ⟨zd zq_92 (by decide +kernel), rfl⟩
theorem iX1_reset_63 : xl_D mX1_reset 63 (.iload_n 1) 1 64 := ⟨zd zq_3 (by decide +kernel), rfl⟩
theorem iX1_reset_64 : xl_J mX1_reset 64 (fun o => .if_icmp .ge o) 67 95 := ⟨31, zd zq_93 (by decide +kernel), rfl, rfl⟩
theorem iX1_reset_67 : xl_D mX1_reset 67 (.aload_n 0) 1 68 := ⟨zd zq_0 (by decide +kernel), rfl⟩
theorem iX1_reset_68 : xl_G mX1_reset 68 1 10 71 := ⟨14, zd zq_89 (by decide +kernel), rfl, fX1_14⟩
theorem iX1_reset_71 : xl_D mX1_reset 71 (.iload 5) 2 73 := ⟨zd zq_92 (by decide +kernel), rfl⟩
theorem iX1_reset_73 : xl_Ca mX1_reset 73 mX0_open 76 := ⟨73, zd zq_94 (by decide +kernel), rfl, lX1_73, Nat.le_of_ble_eq_true rfl, Nat.le_of_ble_eq_true rfl⟩
theorem iX1_reset_76 : xl_D mX1_reset 76 (.pop) 1 77 := ⟨zd zq_95 (by decide +kernel), rfl⟩
theorem iX1_reset_77 : xl_D mX1_reset 77 (.aload_n 0) 1 78 := ⟨zd zq_0 (by decide +kernel), rfl⟩
theorem iX1_reset_78 : xl_G mX1_reset 78 1 10 81 := ⟨14, zd zq_89 (by decide +kernel), rfl, fX1_14⟩
theorem iX1_reset_81 : xl_D mX1_reset 81 (.iload 5) 2 83 := ⟨zd zq_92 (by decide +kernel), rfl⟩
theorem iX1_reset_83 : xl_D mX1_reset 83 (.iconst 1) 1 84 := ⟨zd zq_36 (by decide +kernel), rfl⟩
theorem iX1_reset_84 : xl_D mX1_reset 84 (.bipush 20) 2 86 := ⟨zd zq_96 (by decide +kernel), rfl⟩
theorem iX1_reset_86 : xl_Ca mX1_reset 86 mX0_set 89 := ⟨77, zd zq_97 (by decide +kernel), rfl, lX1_77, Nat.le_of_ble_eq_true rfl, Nat.le_of_ble_eq_true rfl⟩
theorem iX1_reset_89 : xl_D mX1_reset 89 (.iinc 5 1) 3 92 := ⟨zd zq_98 (by decide +kernel), rfl⟩
theorem iX1_reset_92 : xl_J mX1_reset 92 (fun o => .goto o) 95 61 := ⟨-31, zd zq_99 (by decide +kernel), rfl, rfl⟩
theorem iX1_reset_95 : xl_D mX1_reset 95 (.aload_n 0) 1 96 := ⟨zd zq_0 (by decide +kernel), rfl⟩
theorem iX1_reset_96 : xl_G mX1_reset 96 1 11 99 := ⟨20, zd zq_100 (by decide +kernel), rfl, fX1_20⟩
theorem iX1_reset_99 : xl_Ca mX1_reset 99 mX0_clear 102 := ⟨70, zd zq_90 (by decide +kernel), rfl, lX1_70, Nat.le_of_ble_eq_true rfl, Nat.le_of_ble_eq_true rfl⟩
theorem iX1_reset_102 : xl_D mX1_reset 102 (.aload_n 0) 1 103 := ⟨zd zq_0 (by decide +kernel), rfl⟩
theorem iX1_reset_103 : xl_G mX1_reset 103 1 12 106 := ⟨23, zd zq_101 (by decide +kernel), rfl, fX1_23⟩
theorem iX1_reset_106 : xl_Ca mX1_reset 106 mX0_clear 109 := ⟨70, zd zq_90 (by decide +kernel), rfl, lX1_70, Nat.le_of_ble_eq_true rfl, Nat.le_of_ble_eq_true rfl⟩
theorem iX1_reset_109 : xl_D mX1_reset 109 (.aload_n 0) 1 110 := ⟨zd zq_0 (by decide +kernel), rfl⟩
theorem iX1_reset_110 : xl_G mX1_reset 110 1 13 113 := ⟨26, zd zq_33 (by decide +kernel), rfl, fX1_26⟩
theorem iX1_reset_113 : xl_Ca mX1_reset 113 mX0_clear 116 := ⟨70, zd zq_90 (by decide +kernel), rfl, lX1_70, Nat.le_of_ble_eq_true rfl, Nat.le_of_ble_eq_true rfl⟩
theorem iX1_reset_116 : xl_D mX1_reset 116 (.aload_n 0) 1 117 := ⟨zd zq_0 (by decide +kernel), rfl⟩
theorem iX1_reset_117 : xl_G mX1_reset 117 1 14 120 := ⟨29, zd zq_102 (by decide +kernel), rfl, fX1_29⟩
theorem iX1_reset_120 : xl_Ca mX1_reset 120 mX0_clear 123 := ⟨70, zd zq_90 (by decide +kernel), rfl, lX1_70, Nat.le_of_ble_eq_true rfl, Nat.le_of_ble_eq_true rfl⟩
theorem iX1_reset_123 : xl_D mX1_reset 123 (.aload_n 0) 1 124 := ⟨zd zq_0 (by decide +kernel), rfl⟩
theorem iX1_reset_124 : xl_G mX1_reset 124 1 15 127 := ⟨32, zd zq_103 (by decide +kernel), rfl, fX1_32⟩
theorem iX1_reset_127 : xl_Ca mX1_reset 127 mX0_clear 130 := ⟨70, zd zq_90 (by decide +kernel), rfl, lX1_70, Nat.le_of_ble_eq_true rfl, Nat.le_of_ble_eq_true rfl⟩
theorem iX1_reset_130 : xl_D mX1_reset 130 (.iconst 0) 1 131 := ⟨zd zq_2 (by decide +kernel), rfl⟩
theorem iX1_reset_131 : xl_D mX1_reset 131 (.istore 5) 2 133 := ⟨zd zq_91 (by decide +kernel), rfl⟩
theorem iX1_reset_133 : xl_D mX1_reset 133 (.iload 5) 2 135 := ⟨zd zq_92 (by decide +kernel), rfl⟩
theorem iX1_reset_135 : xl_D mX1_reset 135 (.bipush 6) 2 137 := ⟨zd zq_71 (by decide +kernel), rfl⟩
theorem iX1_reset_137 : xl_J mX1_reset 137 (fun o => .if_icmp .ge o) 140 168 := ⟨31, zd zq_93 (by decide +kernel), rfl, rfl⟩
theorem iX1_reset_140 : xl_D mX1_reset 140 (.aload_n 0) 1 141 := ⟨zd zq_0 (by decide +kernel), rfl⟩
theorem iX1_reset_141 : xl_G mX1_reset 141 1 15 144 := ⟨32, zd zq_103 (by decide +kernel), rfl, fX1_32⟩
theorem iX1_reset_144 : xl_D mX1_reset 144 (.iload 5) 2 146 := ⟨zd zq_92 (by decide +kernel), rfl⟩
theorem iX1_reset_146 : xl_Ca mX1_reset 146 mX0_open 149 := ⟨73, zd zq_94 (by decide +kernel), rfl, lX1_73, Nat.le_of_ble_eq_true rfl, Nat.le_of_ble_eq_true rfl⟩
theorem iX1_reset_149 : xl_D mX1_reset 149 (.pop) 1 150 := ⟨zd zq_95 (by decide +kernel), rfl⟩
theorem iX1_reset_150 : xl_D mX1_reset 150 (.aload_n 0) 1 151 := ⟨zd zq_0 (by decide +kernel), rfl⟩
theorem iX1_reset_151 : xl_G mX1_reset 151 1 15 154 := ⟨32, zd zq_103 (by decide +kernel), rfl, fX1_32⟩
theorem iX1_reset_154 : xl_D mX1_reset 154 (.iload 5) 2 156 := ⟨zd zq_92 (by decide +kernel), rfl⟩
theorem iX1_reset_156 : xl_D mX1_reset 156 (.bipush 7) 2 158 := ⟨zd zq_68 (by decide +kernel), rfl⟩
theorem iX1_reset_158 : xl_D mX1_reset 158 (.iconst (-1)) 1 159 := ⟨zd zq_104 (by decide +kernel), rfl⟩
theorem iX1_reset_159 : xl_Ca mX1_reset 159 mX0_set 162 := ⟨77, zd zq_97 (by decide +kernel), rfl, lX1_77, Nat.le_of_ble_eq_true rfl, Nat.le_of_ble_eq_true rfl⟩
theorem iX1_reset_162 : xl_D mX1_reset 162 (.iinc 5 1) 3 165 := ⟨zd zq_98 (by decide +kernel), rfl⟩
theorem iX1_reset_165 : xl_J mX1_reset 165 (fun o => .goto o) 168 133 := ⟨-32, zd zq_105 (by decide +kernel), rfl, rfl⟩
theorem iX1_reset_168 : xl_D mX1_reset 168 (.return_) 1 169 := ⟨zd zq_12 (by decide +kernel), rfl⟩
theorem iX1_copyFrom_0 : xl_D mX1_copyFrom 0 (.aload_n 1) 1 1 := ⟨zd zq_56 (by decide +kernel), rfl⟩
theorem iX1_copyFrom_1 : xl_J mX1_copyFrom 1 (fun o => .ifnonnull o) 4 5 := ⟨4, zd zq_49 (by decide +kernel), rfl, rfl⟩
theorem iX1_copyFrom_4 : xl_D mX1_copyFrom 4 (.return_) 1 5 := ⟨zd zq_12 (by decide +kernel), rfl⟩
theorem iX1_copyFrom_5 : xl_D mX1_copyFrom 5 (.aload_n 0) 1 6 := ⟨zd zq_0 (by decide +kernel), rfl⟩
theorem iX1_copyFrom_6 : xl_D mX1_copyFrom 6 (.aload_n 1) 1 7 := ⟨zd zq_56 (by decide +kernel), rfl⟩
theorem iX1_copyFrom_7 : xl_G mX1_copyFrom 7 1 0 10 := ⟨39, zd zq_106 (by decide +kernel), rfl, fX1_39⟩
theorem iX1_copyFrom_10 : xl_P mX1_copyFrom 10 1 0 .int 13 := ⟨39, zd zq_79 (by decide +kernel), rfl, wX1_39⟩
theorem iX1_copyFrom_13 : xl_D mX1_copyFrom 13 (.aload_n 0) 1 14 := ⟨zd zq_0 (by decide +kernel), rfl⟩
theorem iX1_copyFrom_14 : xl_D mX1_copyFrom 14 (.aload_n 1) 1 15 := ⟨zd zq_56 (by decide +kernel), rfl⟩
theorem iX1_copyFrom_15 : xl_G mX1_copyFrom 15 1 1 18 := ⟨43, zd zq_107 (by decide +kernel), rfl, fX1_43⟩
theorem iX1_copyFrom_18 : xl_P mX1_copyFrom 18 1 1 .int 21 := ⟨43, zd zq_80 (by decide +kernel), rfl, wX1_43⟩
theorem iX1_copyFrom_21 : xl_D mX1_copyFrom 21 (.aload_n 0) 1 22 := ⟨zd zq_0 (by decide +kernel), rfl⟩
theorem iX1_copyFrom_22 : xl_D mX1_copyFrom 22 (.aload_n 1) 1 23 := ⟨zd zq_56 (by decide +kernel), rfl⟩
theorem iX1_copyFrom_23 : xl_G mX1_copyFrom 23 1 2 26 := ⟨46, zd zq_108 (by decide +kernel), rfl, fX1_46⟩
theorem iX1_copyFrom_26 : xl_P mX1_copyFrom 26 1 2 .int 29 := ⟨46, zd zq_81 (by decide +kernel), rfl, wX1_46⟩
theorem iX1_copyFrom_29 : xl_D mX1_copyFrom 29 (.aload_n 0) 1 30 := ⟨zd zq_0 (by decide +kernel), rfl⟩
theorem iX1_copyFrom_30 : xl_D mX1_copyFrom 30 (.aload_n 1) 1 31 := ⟨zd zq_56 (by decide +kernel), rfl⟩
theorem iX1_copyFrom_31 : xl_G mX1_copyFrom 31 1 3 34 := ⟨49, zd zq_109 (by decide +kernel), rfl, fX1_49⟩
theorem iX1_copyFrom_34 : xl_P mX1_copyFrom 34 1 3 .int 37 := ⟨49, zd zq_82 (by decide +kernel), rfl, wX1_49⟩
theorem iX1_copyFrom_37 : xl_D mX1_copyFrom 37 (.aload_n 0) 1 38 := ⟨zd zq_0 (by decide +kernel), rfl⟩
theorem iX1_copyFrom_38 : xl_D mX1_copyFrom 38 (.aload_n 1) 1 39 := ⟨zd zq_56 (by decide +kernel), rfl⟩
theorem iX1_copyFrom_39 : xl_G mX1_copyFrom 39 1 4 42 := ⟨52, zd zq_110 (by decide +kernel), rfl, fX1_52⟩
theorem iX1_copyFrom_42 : xl_P mX1_copyFrom 42 1 4 .int 45 := ⟨52, zd zq_83 (by decide +kernel), rfl, wX1_52⟩
theorem iX1_copyFrom_45 : xl_D mX1_copyFrom 45 (.aload_n 0) 1 46 := ⟨zd zq_0 (by decide +kernel), rfl⟩
theorem iX1_copyFrom_46 : xl_D mX1_copyFrom 46 (.aload_n 1) 1 47 := ⟨zd zq_56 (by decide +kernel), rfl⟩
theorem iX1_copyFrom_47 : xl_G mX1_copyFrom 47 1 5 50 := ⟨55, zd zq_111 (by decide +kernel), rfl, fX1_55⟩
theorem iX1_copyFrom_50 : xl_P mX1_copyFrom 50 1 5 .int 53 := ⟨55, zd zq_84 (by decide +kernel), rfl, wX1_55⟩
theorem iX1_copyFrom_53 : xl_D mX1_copyFrom 53 (.aload_n 0) 1 54 := ⟨zd zq_0 (by decide +kernel), rfl⟩
theorem iX1_copyFrom_54 : xl_D mX1_copyFrom 54 (.aload_n 1) 1 55 := ⟨zd zq_56 (by decide +kernel), rfl⟩
theorem iX1_copyFrom_55 : xl_G mX1_copyFrom 55 1 6 58 := ⟨58, zd zq_112 (by decide +kernel), rfl, fX1_58⟩
theorem iX1_copyFrom_58 : xl_P mX1_copyFrom 58 1 6 .int 61 := ⟨58, zd zq_85 (by decide +kernel), rfl, wX1_58⟩
theorem iX1_copyFrom_61 : xl_D mX1_copyFrom 61 (.aload_n 0) 1 62 := ⟨zd zq_0 (by decide +kernel), rfl⟩
theorem iX1_copyFrom_62 : xl_D mX1_copyFrom 62 (.aload_n 1) 1 63 := ⟨zd zq_56 (by decide +kernel), rfl⟩
theorem iX1_copyFrom_63 : xl_G mX1_copyFrom 63 1 7 66 := ⟨61, zd zq_113 (by decide +kernel), rfl, fX1_61⟩
theorem iX1_copyFrom_66 : xl_P mX1_copyFrom 66 1 7 .int 69 := ⟨61, zd zq_86 (by decide +kernel), rfl, wX1_61⟩
theorem iX1_copyFrom_69 : xl_D mX1_copyFrom 69 (.aload_n 0) 1 70 := ⟨zd zq_0 (by decide +kernel), rfl⟩
theorem iX1_copyFrom_70 : xl_D mX1_copyFrom 70 (.aload_n 1) 1 71 := ⟨zd zq_56 (by decide +kernel), rfl⟩
theorem iX1_copyFrom_71 : xl_G mX1_copyFrom 71 1 8 74 := ⟨64, zd zq_114 (by decide +kernel), rfl, fX1_64⟩
theorem iX1_copyFrom_74 : xl_P mX1_copyFrom 74 1 8 .int 77 := ⟨64, zd zq_87 (by decide +kernel), rfl, wX1_64⟩
theorem iX1_copyFrom_77 : xl_D mX1_copyFrom 77 (.aload_n 0) 1 78 := ⟨zd zq_0 (by decide +kernel), rfl⟩
theorem iX1_copyFrom_78 : xl_D mX1_copyFrom 78 (.aload_n 1) 1 79 := ⟨zd zq_56 (by decide +kernel), rfl⟩
theorem iX1_copyFrom_79 : xl_G mX1_copyFrom 79 1 9 82 := ⟨67, zd zq_115 (by decide +kernel), rfl, fX1_67⟩
theorem iX1_copyFrom_82 : xl_P mX1_copyFrom 82 1 9 .int 85 := ⟨67, zd zq_88 (by decide +kernel), rfl, wX1_67⟩
theorem iX1_copyFrom_85 : xl_D mX1_copyFrom 85 (.aload_n 0) 1 86 := ⟨zd zq_0 (by decide +kernel), rfl⟩
theorem iX1_copyFrom_86 : xl_G mX1_copyFrom 86 1 10 89 := ⟨14, zd zq_89 (by decide +kernel), rfl, fX1_14⟩
theorem iX1_copyFrom_89 : xl_D mX1_copyFrom 89 (.aload_n 1) 1 90 := ⟨zd zq_56 (by decide +kernel), rfl⟩
theorem iX1_copyFrom_90 : xl_G mX1_copyFrom 90 1 10 93 := ⟨14, zd zq_89 (by decide +kernel), rfl, fX1_14⟩
theorem iX1_copyFrom_93 : xl_Ca mX1_copyFrom 93 mX0_copyFrom 96 := ⟨81, zd zq_116 (by decide +kernel), rfl, lX1_81, Nat.le_of_ble_eq_true rfl, Nat.le_of_ble_eq_true rfl⟩
theorem iX1_copyFrom_96 : xl_D mX1_copyFrom 96 (.aload_n 0) 1 97 := ⟨zd zq_0 (by decide +kernel), rfl⟩
theorem iX1_copyFrom_97 : xl_G mX1_copyFrom 97 1 11 100 := ⟨20, zd zq_100 (by decide +kernel), rfl, fX1_20⟩
theorem iX1_copyFrom_100 : xl_D mX1_copyFrom 100 (.aload_n 1) 1 101 := ⟨zd zq_56 (by decide +kernel), rfl⟩
theorem iX1_copyFrom_101 : xl_G mX1_copyFrom 101 1 11 104 := ⟨20, zd zq_100 (by decide +kernel), rfl, fX1_20⟩
theorem iX1_copyFrom_104 : xl_Ca mX1_copyFrom 104 mX0_copyFrom 107 := ⟨81, zd zq_116 (by decide +kernel), rfl, lX1_81, Nat.le_of_ble_eq_true rfl, Nat.le_of_ble_eq_true rfl⟩
theorem iX1_copyFrom_107 : xl_D mX1_copyFrom 107 (.aload_n 0) 1 108 := ⟨zd zq_0 (by decide +kernel), rfl⟩
theorem iX1_copyFrom_108 : xl_G mX1_copyFrom 108 1 12 111 := ⟨23, zd zq_101 (by decide +kernel), rfl, fX1_23⟩
theorem iX1_copyFrom_111 : xl_D mX1_copyFrom 111 (.aload_n 1) 1 112 := ⟨zd zq_56 (by decide +kernel), rfl⟩
theorem iX1_copyFrom_112 : xl_G mX1_copyFrom 112 1 12 115 := ⟨23, zd zq_101 (by decide +kernel), rfl, fX1_23⟩
theorem iX1_copyFrom_115 : xl_Ca mX1_copyFrom 115 mX0_copyFrom 118 := ⟨81, zd zq_116 (by decide +kernel), rfl, lX1_81, Nat.le_of_ble_eq_true rfl, Nat.le_of_ble_eq_true rfl⟩
theorem iX1_copyFrom_118 : xl_D mX1_copyFrom 118 (.aload_n 0) 1 119 := ⟨zd zq_0 (by decide +kernel), rfl⟩
theorem iX1_copyFrom_119 : xl_G mX1_copyFrom 119 1 13 122 := ⟨26, zd zq_33 (by decide +kernel), rfl, fX1_26⟩
theorem iX1_copyFrom_122 : xl_D mX1_copyFrom 122 (.aload_n 1) 1 123 := ⟨zd zq_56 (by decide +kernel), rfl⟩
theorem iX1_copyFrom_123 : xl_G mX1_copyFrom 123 1 13 126 := ⟨26, zd zq_33 (by decide +kernel), rfl, fX1_26⟩
theorem iX1_copyFrom_126 : xl_Ca mX1_copyFrom 126 mX0_copyFrom 129 := ⟨81, zd zq_116 (by decide +kernel), rfl, lX1_81, Nat.le_of_ble_eq_true rfl, Nat.le_of_ble_eq_true rfl⟩
theorem iX1_copyFrom_129 : xl_D mX1_copyFrom 129 (.aload_n 0) 1 130 := ⟨zd zq_0 (by decide +kernel), rfl⟩
theorem iX1_copyFrom_130 : xl_G mX1_copyFrom 130 1 14 133 := ⟨29, zd zq_102 (by decide +kernel), rfl, fX1_29⟩
theorem iX1_copyFrom_133 : xl_D mX1_copyFrom 133 (.aload_n 1) 1 134 := ⟨zd zq_56 (by decide +kernel), rfl⟩
theorem iX1_copyFrom_134 : xl_G mX1_copyFrom 134 1 14 137 := ⟨29, zd zq_102 (by decide +kernel), rfl, fX1_29⟩
theorem iX1_copyFrom_137 : xl_Ca mX1_copyFrom 137 mX0_copyFrom 140 := ⟨81, zd zq_116 (by decide +kernel), rfl, lX1_81, Nat.le_of_ble_eq_true rfl, Nat.le_of_ble_eq_true rfl⟩
theorem iX1_copyFrom_140 : xl_D mX1_copyFrom 140 (.aload_n 0) 1 141 := ⟨zd zq_0 (by decide +kernel), rfl⟩
theorem iX1_copyFrom_141 : xl_G mX1_copyFrom 141 1 15 144 := ⟨32, zd zq_103 (by decide +kernel), rfl, fX1_32⟩
theorem iX1_copyFrom_144 : xl_D mX1_copyFrom 144 (.aload_n 1) 1 145 := ⟨zd zq_56 (by decide +kernel), rfl⟩
theorem iX1_copyFrom_145 : xl_G mX1_copyFrom 145 1 15 148 := ⟨32, zd zq_103 (by decide +kernel), rfl, fX1_32⟩
theorem iX1_copyFrom_148 : xl_Ca mX1_copyFrom 148 mX0_copyFrom 151 := ⟨81, zd zq_116 (by decide +kernel), rfl, lX1_81, Nat.le_of_ble_eq_true rfl, Nat.le_of_ble_eq_true rfl⟩
theorem iX1_copyFrom_151 : xl_D mX1_copyFrom 151 (.return_) 1 152 := ⟨zd zq_12 (by decide +kernel), rfl⟩
theorem iX1_comeEvent_0 : xl_D mX1_comeEvent 0 (.aload_n 0) 1 1 := ⟨zd zq_0 (by decide +kernel), rfl⟩
theorem iX1_comeEvent_1 : xl_G mX1_comeEvent 1 1 14 4 := ⟨29, zd zq_102 (by decide +kernel), rfl, fX1_29⟩
theorem iX1_comeEvent_4 : xl_G mX1_comeEvent 4 0 3 7 := ⟨85, zd zq_117 (by decide +kernel), rfl, fX1_85⟩
theorem iX1_comeEvent_7 : xl_D mX1_comeEvent 7 (.istore 5) 2 9 := ⟨zd zq_91 (by decide +kernel), rfl⟩
theorem iX1_comeEvent_9 : xl_D mX1_comeEvent 9 (.iconst 0) 1 10 := ⟨zd zq_2 (by decide +kernel), rfl⟩
theorem iX1_comeEvent_10 : xl_D mX1_comeEvent 10 (.aload_n 0) 1 11 := ⟨zd zq_0 (by decide +kernel), rfl⟩
theorem iX1_comeEvent_11 : xl_G mX1_comeEvent 11 1 3 14 := ⟨49, zd zq_109 (by decide +kernel), rfl, fX1_49⟩
theorem iX1_comeEvent_14 : xl_D mX1_comeEvent 14 (.iload_n 2) 1 15 := ⟨zd zq_6 (by decide +kernel), rfl⟩
theorem iX1_comeEvent_15 : xl_D mX1_comeEvent 15 (.isub) 1 16 := ⟨zd zq_39 (by decide +kernel), rfl⟩
theorem iX1_comeEvent_16 : xl_Cm mX1_comeEvent 16 Lib.Math.max.name Lib.Math.max.code 19 := ⟨88, zd zq_118 (by decide +kernel), rfl, lX1_88, xl_stmax, xl_iMath, xl_comax, Nat.le_of_ble_eq_true rfl, Nat.le_of_ble_eq_true rfl⟩
theorem iX1_comeEvent_19 : xl_D mX1_comeEvent 19 (.istore 6) 2 21 := ⟨zd zq_119 (by decide +kernel), rfl⟩
theorem iX1_comeEvent_21 : xl_D mX1_comeEvent 21 (.aload_n 0) 1 22 := ⟨zd zq_0 (by decide +kernel), rfl⟩
theorem iX1_comeEvent_22 : xl_D mX1_comeEvent 22 (.iconst 0) 1 23 := ⟨zd zq_2 (by decide +kernel), rfl⟩
theorem iX1_comeEvent_23 : xl_D mX1_comeEvent 23 (.iload 4) 2 25 := ⟨zd zq_51 (by decide +kernel), rfl⟩
theorem iX1_comeEvent_25 : xl_D mX1_comeEvent 25 (.iload_n 2) 1 26 := ⟨zd zq_6 (by decide +kernel), rfl⟩
theorem iX1_comeEvent_26 : xl_Ca mX1_comeEvent 26 mX1_note 29 := ⟨94, zd zq_120 (by decide +kernel), rfl, lX1_94, Nat.le_of_ble_eq_true rfl, Nat.le_of_ble_eq_true rfl⟩
theorem iX1_comeEvent_29 : xl_D mX1_comeEvent 29 (.aload_n 0) 1 30 := ⟨zd zq_0 (by decide +kernel), rfl⟩
theorem iX1_comeEvent_30 : xl_D mX1_comeEvent 30 (.iload_n 1) 1 31 := ⟨zd zq_3 (by decide +kernel), rfl⟩
theorem iX1_comeEvent_31 : xl_D mX1_comeEvent 31 (.iload_n 2) 1 32 := ⟨zd zq_6 (by decide +kernel), rfl⟩
theorem iX1_comeEvent_32 : xl_D mX1_comeEvent 32 (.iload_n 3) 1 33 := ⟨zd zq_25 (by decide +kernel), rfl⟩
theorem iX1_comeEvent_33 : xl_D mX1_comeEvent 33 (.iload 4) 2 35 := ⟨zd zq_51 (by decide +kernel), rfl⟩
theorem iX1_comeEvent_35 : xl_Ca mX1_comeEvent 35 mX1_playEvent 38 := ⟨97, zd zq_121 (by decide +kernel), rfl, lX1_97, Nat.le_of_ble_eq_true rfl, Nat.le_of_ble_eq_true rfl⟩
theorem iX1_comeEvent_38 : xl_D mX1_comeEvent 38 (.istore 7) 2 40 := ⟨zd zq_122 (by decide +kernel), rfl⟩
theorem iX1_comeEvent_40 : xl_D mX1_comeEvent 40 (.aload_n 0) 1 41 := ⟨zd zq_0 (by decide +kernel), rfl⟩
theorem iX1_comeEvent_41 : xl_G mX1_comeEvent 41 1 14 44 := ⟨29, zd zq_102 (by decide +kernel), rfl, fX1_29⟩
theorem iX1_comeEvent_44 : xl_D mX1_comeEvent 44 (.iload 5) 2 46 := ⟨zd zq_92 (by decide +kernel), rfl⟩
theorem iX1_comeEvent_46 : xl_D mX1_comeEvent 46 (.iconst 3) 1 47 := ⟨zd zq_123 (by decide +kernel), rfl⟩
theorem iX1_comeEvent_47 : xl_D mX1_comeEvent 47 (.iload_n 1) 1 48 := ⟨zd zq_3 (by decide +kernel), rfl⟩
theorem iX1_comeEvent_48 : xl_Ca mX1_comeEvent 48 mX0_set 51 := ⟨77, zd zq_97 (by decide +kernel), rfl, lX1_77, Nat.le_of_ble_eq_true rfl, Nat.le_of_ble_eq_true rfl⟩
theorem iX1_comeEvent_51 : xl_D mX1_comeEvent 51 (.aload_n 0) 1 52 := ⟨zd zq_0 (by decide +kernel), rfl⟩
theorem iX1_comeEvent_52 : xl_G mX1_comeEvent 52 1 14 55 := ⟨29, zd zq_102 (by decide +kernel), rfl, fX1_29⟩
theorem iX1_comeEvent_55 : xl_D mX1_comeEvent 55 (.iload 5) 2 57 := ⟨zd zq_92 (by decide +kernel), rfl⟩
theorem iX1_comeEvent_57 : xl_D mX1_comeEvent 57 (.iconst 4) 1 58 := ⟨zd zq_63 (by decide +kernel), rfl⟩
theorem iX1_comeEvent_58 : xl_D mX1_comeEvent 58 (.iload_n 3) 1 59 := ⟨zd zq_25 (by decide +kernel), rfl⟩
theorem iX1_comeEvent_59 : xl_Ca mX1_comeEvent 59 mX0_set 62 := ⟨77, zd zq_97 (by decide +kernel), rfl, lX1_77, Nat.le_of_ble_eq_true rfl, Nat.le_of_ble_eq_true rfl⟩
theorem iX1_comeEvent_62 : xl_D mX1_comeEvent 62 (.aload_n 0) 1 63 := ⟨zd zq_0 (by decide +kernel), rfl⟩
theorem iX1_comeEvent_63 : xl_G mX1_comeEvent 63 1 14 66 := ⟨29, zd zq_102 (by decide +kernel), rfl, fX1_29⟩
theorem iX1_comeEvent_66 : xl_D mX1_comeEvent 66 (.iload 5) 2 68 := ⟨zd zq_92 (by decide +kernel), rfl⟩
theorem iX1_comeEvent_68 : xl_D mX1_comeEvent 68 (.iconst 5) 1 69 := ⟨zd zq_64 (by decide +kernel), rfl⟩
theorem iX1_comeEvent_69 : xl_D mX1_comeEvent 69 (.iload 7) 2 71 := ⟨zd zq_124 (by decide +kernel), rfl⟩
theorem iX1_comeEvent_71 : xl_Ca mX1_comeEvent 71 mX0_set 74 := ⟨77, zd zq_97 (by decide +kernel), rfl, lX1_77, Nat.le_of_ble_eq_true rfl, Nat.le_of_ble_eq_true rfl⟩
theorem iX1_comeEvent_74 : xl_D mX1_comeEvent 74 (.aload_n 0) 1 75 := ⟨zd zq_0 (by decide +kernel), rfl⟩
theorem iX1_comeEvent_75 : xl_G mX1_comeEvent 75 1 14 78 := ⟨29, zd zq_102 (by decide +kernel), rfl, fX1_29⟩
theorem iX1_comeEvent_78 : xl_D mX1_comeEvent 78 (.iload 5) 2 80 := ⟨zd zq_92 (by decide +kernel), rfl⟩
theorem iX1_comeEvent_80 : xl_D mX1_comeEvent 80 (.bipush 6) 2 82 := ⟨zd zq_71 (by decide +kernel), rfl⟩
theorem iX1_comeEvent_82 : xl_D mX1_comeEvent 82 (.iload 6) 2 84 := ⟨zd zq_125 (by decide +kernel), rfl⟩
theorem iX1_comeEvent_84 : xl_Ca mX1_comeEvent 84 mX0_set 87 := ⟨77, zd zq_97 (by decide +kernel), rfl, lX1_77, Nat.le_of_ble_eq_true rfl, Nat.le_of_ble_eq_true rfl⟩
theorem iX1_comeEvent_87 : xl_D mX1_comeEvent 87 (.iload 7) 2 89 := ⟨zd zq_124 (by decide +kernel), rfl⟩
theorem iX1_comeEvent_89 : xl_D mX1_comeEvent 89 (.ireturn) 1 90 := ⟨zd zq_17 (by decide +kernel), rfl⟩
theorem iX1_comeMark_0 : xl_D mX1_comeMark 0 (.aload_n 0) 1 1 := ⟨zd zq_0 (by decide +kernel), rfl⟩
theorem iX1_comeMark_1 : xl_D mX1_comeMark 1 (.iconst 1) 1 2 := ⟨zd zq_36 (by decide +kernel), rfl⟩
theorem iX1_comeMark_2 : xl_D mX1_comeMark 2 (.iload_n 1) 1 3 := ⟨zd zq_3 (by decide +kernel), rfl⟩
theorem iX1_comeMark_3 : xl_D mX1_comeMark 3 (.iload_n 2) 1 4 := ⟨zd zq_6 (by decide +kernel), rfl⟩
theorem iX1_comeMark_4 : xl_Ca mX1_comeMark 4 mX1_note 7 := ⟨94, zd zq_120 (by decide +kernel), rfl, lX1_94, Nat.le_of_ble_eq_true rfl, Nat.le_of_ble_eq_true rfl⟩
theorem iX1_comeMark_7 : xl_D mX1_comeMark 7 (.aload_n 0) 1 8 := ⟨zd zq_0 (by decide +kernel), rfl⟩
theorem iX1_comeMark_8 : xl_D mX1_comeMark 8 (.iload_n 1) 1 9 := ⟨zd zq_3 (by decide +kernel), rfl⟩
theorem iX1_comeMark_9 : xl_D mX1_comeMark 9 (.iload_n 2) 1 10 := ⟨zd zq_6 (by decide +kernel), rfl⟩
theorem iX1_comeMark_10 : xl_Ca mX1_comeMark 10 mX1_playMark 13 := ⟨101, zd zq_126 (by decide +kernel), rfl, lX1_101, Nat.le_of_ble_eq_true rfl, Nat.le_of_ble_eq_true rfl⟩
theorem iX1_comeMark_13 : xl_D mX1_comeMark 13 (.return_) 1 14 := ⟨zd zq_12 (by decide +kernel), rfl⟩
theorem iX1_comeIdle_0 : xl_D mX1_comeIdle 0 (.aload_n 0) 1 1 := ⟨zd zq_0 (by decide +kernel), rfl⟩
theorem iX1_comeIdle_1 : xl_D mX1_comeIdle 1 (.iconst 2) 1 2 := ⟨zd zq_127 (by decide +kernel), rfl⟩
theorem iX1_comeIdle_2 : xl_D mX1_comeIdle 2 (.iload_n 1) 1 3 := ⟨zd zq_3 (by decide +kernel), rfl⟩
theorem iX1_comeIdle_3 : xl_D mX1_comeIdle 3 (.iconst 0) 1 4 := ⟨zd zq_2 (by decide +kernel), rfl⟩
theorem iX1_comeIdle_4 : xl_Ca mX1_comeIdle 4 mX1_note 7 := ⟨94, zd zq_120 (by decide +kernel), rfl, lX1_94, Nat.le_of_ble_eq_true rfl, Nat.le_of_ble_eq_true rfl⟩
theorem iX1_comeIdle_7 : xl_D mX1_comeIdle 7 (.aload_n 0) 1 8 := ⟨zd zq_0 (by decide +kernel), rfl⟩
theorem iX1_comeIdle_8 : xl_D mX1_comeIdle 8 (.iload_n 1) 1 9 := ⟨zd zq_3 (by decide +kernel), rfl⟩
theorem iX1_comeIdle_9 : xl_Ca mX1_comeIdle 9 mX1_playIdle 12 := ⟨104, zd zq_128 (by decide +kernel), rfl, lX1_104, Nat.le_of_ble_eq_true rfl, Nat.le_of_ble_eq_true rfl⟩
theorem iX1_comeIdle_12 : xl_D mX1_comeIdle 12 (.return_) 1 13 := ⟨zd zq_12 (by decide +kernel), rfl⟩
theorem iX1_note_0 : xl_D mX1_note 0 (.aload_n 0) 1 1 := ⟨zd zq_0 (by decide +kernel), rfl⟩
theorem iX1_note_1 : xl_G mX1_note 1 1 14 4 := ⟨29, zd zq_102 (by decide +kernel), rfl, fX1_29⟩
theorem iX1_note_4 : xl_G mX1_note 4 0 3 7 := ⟨85, zd zq_117 (by decide +kernel), rfl, fX1_85⟩
theorem iX1_note_7 : xl_D mX1_note 7 (.istore 4) 2 9 := ⟨zd zq_50 (by decide +kernel), rfl⟩
theorem iX1_note_9 : xl_D mX1_note 9 (.aload_n 0) 1 10 := ⟨zd zq_0 (by decide +kernel), rfl⟩
theorem iX1_note_10 : xl_G mX1_note 10 1 14 13 := ⟨29, zd zq_102 (by decide +kernel), rfl, fX1_29⟩
theorem iX1_note_13 : xl_D mX1_note 13 (.iload 4) 2 15 := ⟨zd zq_51 (by decide +kernel), rfl⟩
theorem iX1_note_15 : xl_Ca mX1_note 15 mX0_open 18 := ⟨73, zd zq_94 (by decide +kernel), rfl, lX1_73, Nat.le_of_ble_eq_true rfl, Nat.le_of_ble_eq_true rfl⟩
theorem iX1_note_18 : xl_J mX1_note 18 (fun o => .ifCond .eq o) 21 76 := ⟨58, zd zq_129 (by decide +kernel), rfl, rfl⟩
theorem iX1_note_21 : xl_D mX1_note 21 (.aload_n 0) 1 22 := ⟨zd zq_0 (by decide +kernel), rfl⟩
theorem iX1_note_22 : xl_G mX1_note 22 1 14 25 := ⟨29, zd zq_102 (by decide +kernel), rfl, fX1_29⟩
theorem iX1_note_25 : xl_D mX1_note 25 (.iload 4) 2 27 := ⟨zd zq_51 (by decide +kernel), rfl⟩
theorem iX1_note_27 : xl_D mX1_note 27 (.iconst 0) 1 28 := ⟨zd zq_2 (by decide +kernel), rfl⟩
theorem iX1_note_28 : xl_D mX1_note 28 (.iload_n 1) 1 29 := ⟨zd zq_3 (by decide +kernel), rfl⟩
theorem iX1_note_29 : xl_Ca mX1_note 29 mX0_set 32 := ⟨77, zd zq_97 (by decide +kernel), rfl, lX1_77, Nat.le_of_ble_eq_true rfl, Nat.le_of_ble_eq_true rfl⟩
theorem iX1_note_32 : xl_D mX1_note 32 (.aload_n 0) 1 33 := ⟨zd zq_0 (by decide +kernel), rfl⟩
theorem iX1_note_33 : xl_G mX1_note 33 1 14 36 := ⟨29, zd zq_102 (by decide +kernel), rfl, fX1_29⟩
theorem iX1_note_36 : xl_D mX1_note 36 (.iload 4) 2 38 := ⟨zd zq_51 (by decide +kernel), rfl⟩
theorem iX1_note_38 : xl_D mX1_note 38 (.iconst 1) 1 39 := ⟨zd zq_36 (by decide +kernel), rfl⟩
theorem iX1_note_39 : xl_D mX1_note 39 (.iload_n 2) 1 40 := ⟨zd zq_6 (by decide +kernel), rfl⟩
theorem iX1_note_40 : xl_Ca mX1_note 40 mX0_set 43 := ⟨77, zd zq_97 (by decide +kernel), rfl, lX1_77, Nat.le_of_ble_eq_true rfl, Nat.le_of_ble_eq_true rfl⟩
theorem iX1_note_43 : xl_D mX1_note 43 (.aload_n 0) 1 44 := ⟨zd zq_0 (by decide +kernel), rfl⟩
theorem iX1_note_44 : xl_G mX1_note 44 1 14 47 := ⟨29, zd zq_102 (by decide +kernel), rfl, fX1_29⟩
theorem iX1_note_47 : xl_D mX1_note 47 (.iload 4) 2 49 := ⟨zd zq_51 (by decide +kernel), rfl⟩
theorem iX1_note_49 : xl_D mX1_note 49 (.iconst 2) 1 50 := ⟨zd zq_127 (by decide +kernel), rfl⟩
theorem iX1_note_50 : xl_D mX1_note 50 (.iload_n 3) 1 51 := ⟨zd zq_25 (by decide +kernel), rfl⟩
theorem iX1_note_51 : xl_Ca mX1_note 51 mX0_set 54 := ⟨77, zd zq_97 (by decide +kernel), rfl, lX1_77, Nat.le_of_ble_eq_true rfl, Nat.le_of_ble_eq_true rfl⟩
theorem iX1_note_54 : xl_D mX1_note 54 (.aload_n 0) 1 55 := ⟨zd zq_0 (by decide +kernel), rfl⟩
theorem iX1_note_55 : xl_G mX1_note 55 1 14 58 := ⟨29, zd zq_102 (by decide +kernel), rfl, fX1_29⟩
theorem iX1_note_58 : xl_D mX1_note 58 (.iload 4) 2 60 := ⟨zd zq_51 (by decide +kernel), rfl⟩
theorem iX1_note_60 : xl_D mX1_note 60 (.iconst 3) 1 61 := ⟨zd zq_123 (by decide +kernel), rfl⟩
theorem iX1_note_61 : xl_D mX1_note 61 (.iconst (-1)) 1 62 := ⟨zd zq_104 (by decide +kernel), rfl⟩
theorem iX1_note_62 : xl_Ca mX1_note 62 mX0_set 65 := ⟨77, zd zq_97 (by decide +kernel), rfl, lX1_77, Nat.le_of_ble_eq_true rfl, Nat.le_of_ble_eq_true rfl⟩
theorem iX1_note_65 : xl_D mX1_note 65 (.aload_n 0) 1 66 := ⟨zd zq_0 (by decide +kernel), rfl⟩
theorem iX1_note_66 : xl_G mX1_note 66 1 14 69 := ⟨29, zd zq_102 (by decide +kernel), rfl, fX1_29⟩
theorem iX1_note_69 : xl_D mX1_note 69 (.iload 4) 2 71 := ⟨zd zq_51 (by decide +kernel), rfl⟩
theorem iX1_note_71 : xl_D mX1_note 71 (.iconst 5) 1 72 := ⟨zd zq_64 (by decide +kernel), rfl⟩
theorem iX1_note_72 : xl_D mX1_note 72 (.iconst (-1)) 1 73 := ⟨zd zq_104 (by decide +kernel), rfl⟩
theorem iX1_note_73 : xl_Ca mX1_note 73 mX0_set 76 := ⟨77, zd zq_97 (by decide +kernel), rfl, lX1_77, Nat.le_of_ble_eq_true rfl, Nat.le_of_ble_eq_true rfl⟩
theorem iX1_note_76 : xl_D mX1_note 76 (.return_) 1 77 := ⟨zd zq_12 (by decide +kernel), rfl⟩
theorem iX1_playInput_0 : xl_D mX1_playInput 0 (.aload_n 1) 1 1 := ⟨zd zq_56 (by decide +kernel), rfl⟩
theorem iX1_playInput_1 : xl_D mX1_playInput 1 (.iload_n 2) 1 2 := ⟨zd zq_6 (by decide +kernel), rfl⟩
theorem iX1_playInput_2 : xl_D mX1_playInput 2 (.iconst 1) 1 3 := ⟨zd zq_36 (by decide +kernel), rfl⟩
theorem iX1_playInput_3 : xl_Ca mX1_playInput 3 mX0_get 6 := ⟨108, zd zq_130 (by decide +kernel), rfl, lX1_108, Nat.le_of_ble_eq_true rfl, Nat.le_of_ble_eq_true rfl⟩
theorem iX1_playInput_6 : xl_D mX1_playInput 6 (.istore_n 3) 1 7 := ⟨zd zq_131 (by decide +kernel), rfl⟩
theorem iX1_playInput_7 : xl_D mX1_playInput 7 (.aload_n 1) 1 8 := ⟨zd zq_56 (by decide +kernel), rfl⟩
theorem iX1_playInput_8 : xl_D mX1_playInput 8 (.iload_n 2) 1 9 := ⟨zd zq_6 (by decide +kernel), rfl⟩
theorem iX1_playInput_9 : xl_D mX1_playInput 9 (.iconst 2) 1 10 := ⟨zd zq_127 (by decide +kernel), rfl⟩
theorem iX1_playInput_10 : xl_Ca mX1_playInput 10 mX0_get 13 := ⟨108, zd zq_130 (by decide +kernel), rfl, lX1_108, Nat.le_of_ble_eq_true rfl, Nat.le_of_ble_eq_true rfl⟩
theorem iX1_playInput_13 : xl_D mX1_playInput 13 (.istore 4) 2 15 := ⟨zd zq_50 (by decide +kernel), rfl⟩
theorem iX1_playInput_15 : xl_D mX1_playInput 15 (.aload_n 1) 1 16 := ⟨zd zq_56 (by decide +kernel), rfl⟩
theorem iX1_playInput_16 : xl_D mX1_playInput 16 (.iload_n 2) 1 17 := ⟨zd zq_6 (by decide +kernel), rfl⟩
theorem iX1_playInput_17 : xl_D mX1_playInput 17 (.iconst 0) 1 18 := ⟨zd zq_2 (by decide +kernel), rfl⟩
theorem iX1_playInput_18 : xl_Ca mX1_playInput 18 mX0_get 21 := ⟨108, zd zq_130 (by decide +kernel), rfl, lX1_108, Nat.le_of_ble_eq_true rfl, Nat.le_of_ble_eq_true rfl⟩
theorem iX1_playInput_21 : xl_D mX1_playInput 21 (.lookupswitch 60 #[(0, 27), (1, 50)]) 27 48 := ⟨by decide +kernel, rfl⟩
theorem iX1_playInput_48 : xl_D mX1_playInput 48 (.aload_n 0) 1 49 := ⟨zd zq_0 (by decide +kernel), rfl⟩
theorem iX1_playInput_49 : xl_D mX1_playInput 49 (.aload_n 1) 1 50 := ⟨zd zq_56 (by decide +kernel), rfl⟩
theorem iX1_playInput_50 : xl_D mX1_playInput 50 (.iload_n 2) 1 51 := ⟨zd zq_6 (by decide +kernel), rfl⟩
theorem iX1_playInput_51 : xl_D mX1_playInput 51 (.iconst 3) 1 52 := ⟨zd zq_123 (by decide +kernel), rfl⟩
theorem iX1_playInput_52 : xl_Ca mX1_playInput 52 mX0_get 55 := ⟨108, zd zq_130 (by decide +kernel), rfl, lX1_108, Nat.le_of_ble_eq_true rfl, Nat.le_of_ble_eq_true rfl⟩
theorem iX1_playInput_55 : xl_D mX1_playInput 55 (.iload 4) 2 57 := ⟨zd zq_51 (by decide +kernel), rfl⟩
theorem iX1_playInput_57 : xl_D mX1_playInput 57 (.aload_n 1) 1 58 := ⟨zd zq_56 (by decide +kernel), rfl⟩
theorem iX1_playInput_58 : xl_D mX1_playInput 58 (.iload_n 2) 1 59 := ⟨zd zq_6 (by decide +kernel), rfl⟩
theorem iX1_playInput_59 : xl_D mX1_playInput 59 (.iconst 4) 1 60 := ⟨zd zq_63 (by decide +kernel), rfl⟩
theorem iX1_playInput_60 : xl_Ca mX1_playInput 60 mX0_get 63 := ⟨108, zd zq_130 (by decide +kernel), rfl, lX1_108, Nat.le_of_ble_eq_true rfl, Nat.le_of_ble_eq_true rfl⟩
theorem iX1_playInput_63 : xl_D mX1_playInput 63 (.iload_n 3) 1 64 := ⟨zd zq_25 (by decide +kernel), rfl⟩
theorem iX1_playInput_64 : xl_Ca mX1_playInput 64 mX1_playEvent 67 := ⟨97, zd zq_121 (by decide +kernel), rfl, lX1_97, Nat.le_of_ble_eq_true rfl, Nat.le_of_ble_eq_true rfl⟩
theorem iX1_playInput_67 : xl_D mX1_playInput 67 (.pop) 1 68 := ⟨zd zq_95 (by decide +kernel), rfl⟩
theorem iX1_playInput_68 : xl_J mX1_playInput 68 (fun o => .goto o) 71 86 := ⟨18, zd zq_132 (by decide +kernel), rfl, rfl⟩
theorem iX1_playInput_71 : xl_D mX1_playInput 71 (.aload_n 0) 1 72 := ⟨zd zq_0 (by decide +kernel), rfl⟩
theorem iX1_playInput_72 : xl_D mX1_playInput 72 (.iload_n 3) 1 73 := ⟨zd zq_25 (by decide +kernel), rfl⟩
theorem iX1_playInput_73 : xl_D mX1_playInput 73 (.iload 4) 2 75 := ⟨zd zq_51 (by decide +kernel), rfl⟩
theorem iX1_playInput_75 : xl_Ca mX1_playInput 75 mX1_playMark 78 := ⟨101, zd zq_126 (by decide +kernel), rfl, lX1_101, Nat.le_of_ble_eq_true rfl, Nat.le_of_ble_eq_true rfl⟩
theorem iX1_playInput_78 : xl_J mX1_playInput 78 (fun o => .goto o) 81 86 := ⟨8, zd zq_133 (by decide +kernel), rfl, rfl⟩
theorem iX1_playInput_81 : xl_D mX1_playInput 81 (.aload_n 0) 1 82 := ⟨zd zq_0 (by decide +kernel), rfl⟩
theorem iX1_playInput_82 : xl_D mX1_playInput 82 (.iload_n 3) 1 83 := ⟨zd zq_25 (by decide +kernel), rfl⟩
theorem iX1_playInput_83 : xl_Ca mX1_playInput 83 mX1_playIdle 86 := ⟨104, zd zq_128 (by decide +kernel), rfl, lX1_104, Nat.le_of_ble_eq_true rfl, Nat.le_of_ble_eq_true rfl⟩
theorem iX1_playInput_86 : xl_D mX1_playInput 86 (.return_) 1 87 := ⟨zd zq_12 (by decide +kernel), rfl⟩
theorem iX1_playEvent_0 : xl_D mX1_playEvent 0 (.aload_n 0) 1 1 := ⟨zd zq_0 (by decide +kernel), rfl⟩
theorem iX1_playEvent_1 : xl_D mX1_playEvent 1 (.iload_n 2) 1 2 := ⟨zd zq_6 (by decide +kernel), rfl⟩
theorem iX1_playEvent_2 : xl_Ca mX1_playEvent 2 mX1_fateOf 5 := ⟨111, zd zq_134 (by decide +kernel), rfl, lX1_111, Nat.le_of_ble_eq_true rfl, Nat.le_of_ble_eq_true rfl⟩
theorem iX1_playEvent_5 : xl_D mX1_playEvent 5 (.istore 5) 2 7 := ⟨zd zq_91 (by decide +kernel), rfl⟩
theorem iX1_playEvent_7 : xl_D mX1_playEvent 7 (.aload_n 0) 1 8 := ⟨zd zq_0 (by decide +kernel), rfl⟩
theorem iX1_playEvent_8 : xl_G mX1_playEvent 8 1 10 11 := ⟨14, zd zq_89 (by decide +kernel), rfl, fX1_14⟩
theorem iX1_playEvent_11 : xl_D mX1_playEvent 11 (.iload 4) 2 13 := ⟨zd zq_51 (by decide +kernel), rfl⟩
theorem iX1_playEvent_13 : xl_D mX1_playEvent 13 (.iconst 3) 1 14 := ⟨zd zq_123 (by decide +kernel), rfl⟩
theorem iX1_playEvent_14 : xl_D mX1_playEvent 14 (.iconst 1) 1 15 := ⟨zd zq_36 (by decide +kernel), rfl⟩
theorem iX1_playEvent_15 : xl_Ca mX1_playEvent 15 mX0_add 18 := ⟨115, zd zq_135 (by decide +kernel), rfl, lX1_115, Nat.le_of_ble_eq_true rfl, Nat.le_of_ble_eq_true rfl⟩
theorem iX1_playEvent_18 : xl_D mX1_playEvent 18 (.iload 5) 2 20 := ⟨zd zq_92 (by decide +kernel), rfl⟩
theorem iX1_playEvent_20 : xl_D mX1_playEvent 20 (.iconst 2) 1 21 := ⟨zd zq_127 (by decide +kernel), rfl⟩
theorem iX1_playEvent_21 : xl_J mX1_playEvent 21 (fun o => .if_icmp .ne o) 24 48 := ⟨27, zd zq_136 (by decide +kernel), rfl, rfl⟩
theorem iX1_playEvent_24 : xl_D mX1_playEvent 24 (.aload_n 0) 1 25 := ⟨zd zq_0 (by decide +kernel), rfl⟩
theorem iX1_playEvent_25 : xl_D mX1_playEvent 25 (.dup) 1 26 := ⟨zd zq_46 (by decide +kernel), rfl⟩
theorem iX1_playEvent_26 : xl_G mX1_playEvent 26 1 8 29 := ⟨64, zd zq_114 (by decide +kernel), rfl, fX1_64⟩
theorem iX1_playEvent_29 : xl_D mX1_playEvent 29 (.iconst 1) 1 30 := ⟨zd zq_36 (by decide +kernel), rfl⟩
theorem iX1_playEvent_30 : xl_D mX1_playEvent 30 (.iadd) 1 31 := ⟨zd zq_19 (by decide +kernel), rfl⟩
theorem iX1_playEvent_31 : xl_P mX1_playEvent 31 1 8 .int 34 := ⟨64, zd zq_87 (by decide +kernel), rfl, wX1_64⟩
theorem iX1_playEvent_34 : xl_D mX1_playEvent 34 (.aload_n 0) 1 35 := ⟨zd zq_0 (by decide +kernel), rfl⟩
theorem iX1_playEvent_35 : xl_G mX1_playEvent 35 1 10 38 := ⟨14, zd zq_89 (by decide +kernel), rfl, fX1_14⟩
theorem iX1_playEvent_38 : xl_D mX1_playEvent 38 (.iload 4) 2 40 := ⟨zd zq_51 (by decide +kernel), rfl⟩
theorem iX1_playEvent_40 : xl_D mX1_playEvent 40 (.iconst 4) 1 41 := ⟨zd zq_63 (by decide +kernel), rfl⟩
theorem iX1_playEvent_41 : xl_D mX1_playEvent 41 (.iconst 1) 1 42 := ⟨zd zq_36 (by decide +kernel), rfl⟩
theorem iX1_playEvent_42 : xl_Ca mX1_playEvent 42 mX0_add 45 := ⟨115, zd zq_135 (by decide +kernel), rfl, lX1_115, Nat.le_of_ble_eq_true rfl, Nat.le_of_ble_eq_true rfl⟩
theorem iX1_playEvent_45 : xl_J mX1_playEvent 45 (fun o => .goto o) 48 85 := ⟨40, zd zq_137 (by decide +kernel), rfl, rfl⟩
theorem iX1_playEvent_48 : xl_D mX1_playEvent 48 (.aload_n 0) 1 49 := ⟨zd zq_0 (by decide +kernel), rfl⟩
theorem iX1_playEvent_49 : xl_D mX1_playEvent 49 (.dup) 1 50 := ⟨zd zq_46 (by decide +kernel), rfl⟩
theorem iX1_playEvent_50 : xl_G mX1_playEvent 50 1 6 53 := ⟨58, zd zq_112 (by decide +kernel), rfl, fX1_58⟩
theorem iX1_playEvent_53 : xl_D mX1_playEvent 53 (.iconst 1) 1 54 := ⟨zd zq_36 (by decide +kernel), rfl⟩
theorem iX1_playEvent_54 : xl_D mX1_playEvent 54 (.iadd) 1 55 := ⟨zd zq_19 (by decide +kernel), rfl⟩
theorem iX1_playEvent_55 : xl_P mX1_playEvent 55 1 6 .int 58 := ⟨58, zd zq_85 (by decide +kernel), rfl, wX1_58⟩
theorem iX1_playEvent_58 : xl_D mX1_playEvent 58 (.aload_n 0) 1 59 := ⟨zd zq_0 (by decide +kernel), rfl⟩
theorem iX1_playEvent_59 : xl_D mX1_playEvent 59 (.dup) 1 60 := ⟨zd zq_46 (by decide +kernel), rfl⟩
theorem iX1_playEvent_60 : xl_G mX1_playEvent 60 1 7 63 := ⟨61, zd zq_113 (by decide +kernel), rfl, fX1_61⟩
theorem iX1_playEvent_63 : xl_D mX1_playEvent 63 (.iload 5) 2 65 := ⟨zd zq_92 (by decide +kernel), rfl⟩
theorem iX1_playEvent_65 : xl_D mX1_playEvent 65 (.iconst 1) 1 66 := ⟨zd zq_36 (by decide +kernel), rfl⟩
theorem iX1_playEvent_66 : xl_J mX1_playEvent 66 (fun o => .if_icmp .ne o) 69 73 := ⟨7, zd zq_138 (by decide +kernel), rfl, rfl⟩
theorem iX1_playEvent_69 : xl_D mX1_playEvent 69 (.iconst 1) 1 70 := ⟨zd zq_36 (by decide +kernel), rfl⟩
theorem iX1_playEvent_70 : xl_J mX1_playEvent 70 (fun o => .goto o) 73 74 := ⟨4, zd zq_139 (by decide +kernel), rfl, rfl⟩
theorem iX1_playEvent_73 : xl_D mX1_playEvent 73 (.iconst 0) 1 74 := ⟨zd zq_2 (by decide +kernel), rfl⟩
theorem iX1_playEvent_74 : xl_D mX1_playEvent 74 (.iadd) 1 75 := ⟨zd zq_19 (by decide +kernel), rfl⟩
theorem iX1_playEvent_75 : xl_P mX1_playEvent 75 1 7 .int 78 := ⟨61, zd zq_86 (by decide +kernel), rfl, wX1_61⟩
theorem iX1_playEvent_78 : xl_D mX1_playEvent 78 (.aload_n 0) 1 79 := ⟨zd zq_0 (by decide +kernel), rfl⟩
theorem iX1_playEvent_79 : xl_D mX1_playEvent 79 (.iload_n 1) 1 80 := ⟨zd zq_3 (by decide +kernel), rfl⟩
theorem iX1_playEvent_80 : xl_D mX1_playEvent 80 (.iload_n 2) 1 81 := ⟨zd zq_6 (by decide +kernel), rfl⟩
theorem iX1_playEvent_81 : xl_D mX1_playEvent 81 (.iload_n 3) 1 82 := ⟨zd zq_25 (by decide +kernel), rfl⟩
theorem iX1_playEvent_82 : xl_Ca mX1_playEvent 82 mX1_melt 85 := ⟨118, zd zq_140 (by decide +kernel), rfl, lX1_118, Nat.le_of_ble_eq_true rfl, Nat.le_of_ble_eq_true rfl⟩
theorem iX1_playEvent_85 : xl_D mX1_playEvent 85 (.aload_n 0) 1 86 := ⟨zd zq_0 (by decide +kernel), rfl⟩
theorem iX1_playEvent_86 : xl_G mX1_playEvent 86 1 10 89 := ⟨14, zd zq_89 (by decide +kernel), rfl, fX1_14⟩
theorem iX1_playEvent_89 : xl_D mX1_playEvent 89 (.iload 4) 2 91 := ⟨zd zq_51 (by decide +kernel), rfl⟩
theorem iX1_playEvent_91 : xl_D mX1_playEvent 91 (.iconst 2) 1 92 := ⟨zd zq_127 (by decide +kernel), rfl⟩
theorem iX1_playEvent_92 : xl_D mX1_playEvent 92 (.iconst 0) 1 93 := ⟨zd zq_2 (by decide +kernel), rfl⟩
theorem iX1_playEvent_93 : xl_Ca mX1_playEvent 93 mX0_set 96 := ⟨77, zd zq_97 (by decide +kernel), rfl, lX1_77, Nat.le_of_ble_eq_true rfl, Nat.le_of_ble_eq_true rfl⟩
theorem iX1_playEvent_96 : xl_D mX1_playEvent 96 (.aload_n 0) 1 97 := ⟨zd zq_0 (by decide +kernel), rfl⟩
theorem iX1_playEvent_97 : xl_D mX1_playEvent 97 (.iload 4) 2 99 := ⟨zd zq_51 (by decide +kernel), rfl⟩
theorem iX1_playEvent_99 : xl_D mX1_playEvent 99 (.iload_n 2) 1 100 := ⟨zd zq_6 (by decide +kernel), rfl⟩
theorem iX1_playEvent_100 : xl_D mX1_playEvent 100 (.aload_n 0) 1 101 := ⟨zd zq_0 (by decide +kernel), rfl⟩
theorem iX1_playEvent_101 : xl_G mX1_playEvent 101 1 10 104 := ⟨14, zd zq_89 (by decide +kernel), rfl, fX1_14⟩
theorem iX1_playEvent_104 : xl_D mX1_playEvent 104 (.iload 4) 2 106 := ⟨zd zq_51 (by decide +kernel), rfl⟩
theorem iX1_playEvent_106 : xl_D mX1_playEvent 106 (.iconst 1) 1 107 := ⟨zd zq_36 (by decide +kernel), rfl⟩
theorem iX1_playEvent_107 : xl_Ca mX1_playEvent 107 mX0_get 110 := ⟨108, zd zq_130 (by decide +kernel), rfl, lX1_108, Nat.le_of_ble_eq_true rfl, Nat.le_of_ble_eq_true rfl⟩
theorem iX1_playEvent_110 : xl_D mX1_playEvent 110 (.isub) 1 111 := ⟨zd zq_39 (by decide +kernel), rfl⟩
theorem iX1_playEvent_111 : xl_Ca mX1_playEvent 111 mX1_raiseMark 114 := ⟨121, zd zq_141 (by decide +kernel), rfl, lX1_121, Nat.le_of_ble_eq_true rfl, Nat.le_of_ble_eq_true rfl⟩
theorem iX1_playEvent_114 : xl_D mX1_playEvent 114 (.aload_n 0) 1 115 := ⟨zd zq_0 (by decide +kernel), rfl⟩
theorem iX1_playEvent_115 : xl_Ca mX1_playEvent 115 mX1_rise 118 := ⟨124, zd zq_142 (by decide +kernel), rfl, lX1_124, Nat.le_of_ble_eq_true rfl, Nat.le_of_ble_eq_true rfl⟩
theorem iX1_playEvent_118 : xl_D mX1_playEvent 118 (.iload 5) 2 120 := ⟨zd zq_92 (by decide +kernel), rfl⟩
theorem iX1_playEvent_120 : xl_D mX1_playEvent 120 (.ireturn) 1 121 := ⟨zd zq_17 (by decide +kernel), rfl⟩
theorem iX1_playMark_0 : xl_D mX1_playMark 0 (.aload_n 0) 1 1 := ⟨zd zq_0 (by decide +kernel), rfl⟩
theorem iX1_playMark_1 : xl_D mX1_playMark 1 (.iload_n 1) 1 2 := ⟨zd zq_3 (by decide +kernel), rfl⟩
theorem iX1_playMark_2 : xl_D mX1_playMark 2 (.iload_n 2) 1 3 := ⟨zd zq_6 (by decide +kernel), rfl⟩
theorem iX1_playMark_3 : xl_Ca mX1_playMark 3 mX1_raiseMark 6 := ⟨121, zd zq_141 (by decide +kernel), rfl, lX1_121, Nat.le_of_ble_eq_true rfl, Nat.le_of_ble_eq_true rfl⟩
theorem iX1_playMark_6 : xl_D mX1_playMark 6 (.aload_n 0) 1 7 := ⟨zd zq_0 (by decide +kernel), rfl⟩
theorem iX1_playMark_7 : xl_Ca mX1_playMark 7 mX1_rise 10 := ⟨124, zd zq_142 (by decide +kernel), rfl, lX1_124, Nat.le_of_ble_eq_true rfl, Nat.le_of_ble_eq_true rfl⟩
theorem iX1_playMark_10 : xl_D mX1_playMark 10 (.return_) 1 11 := ⟨zd zq_12 (by decide +kernel), rfl⟩
theorem iX1_playIdle_0 : xl_D mX1_playIdle 0 (.aload_n 0) 1 1 := ⟨zd zq_0 (by decide +kernel), rfl⟩
theorem iX1_playIdle_1 : xl_G mX1_playIdle 1 1 10 4 := ⟨14, zd zq_89 (by decide +kernel), rfl, fX1_14⟩
theorem iX1_playIdle_4 : xl_D mX1_playIdle 4 (.iload_n 1) 1 5 := ⟨zd zq_3 (by decide +kernel), rfl⟩
theorem iX1_playIdle_5 : xl_D mX1_playIdle 5 (.iconst 2) 1 6 := ⟨zd zq_127 (by decide +kernel), rfl⟩
theorem iX1_playIdle_6 : xl_D mX1_playIdle 6 (.iconst 1) 1 7 := ⟨zd zq_36 (by decide +kernel), rfl⟩
theorem iX1_playIdle_7 : xl_Ca mX1_playIdle 7 mX0_set 10 := ⟨77, zd zq_97 (by decide +kernel), rfl, lX1_77, Nat.le_of_ble_eq_true rfl, Nat.le_of_ble_eq_true rfl⟩
theorem iX1_playIdle_10 : xl_D mX1_playIdle 10 (.aload_n 0) 1 11 := ⟨zd zq_0 (by decide +kernel), rfl⟩
theorem iX1_playIdle_11 : xl_Ca mX1_playIdle 11 mX1_rise 14 := ⟨124, zd zq_142 (by decide +kernel), rfl, lX1_124, Nat.le_of_ble_eq_true rfl, Nat.le_of_ble_eq_true rfl⟩
theorem iX1_playIdle_14 : xl_D mX1_playIdle 14 (.return_) 1 15 := ⟨zd zq_12 (by decide +kernel), rfl⟩
theorem iX1_raiseMark_0 : xl_D mX1_raiseMark 0 (.iload_n 2) 1 1 := ⟨zd zq_6 (by decide +kernel), rfl⟩
theorem iX1_raiseMark_1 : xl_D mX1_raiseMark 1 (.aload_n 0) 1 2 := ⟨zd zq_0 (by decide +kernel), rfl⟩
theorem iX1_raiseMark_2 : xl_G mX1_raiseMark 2 1 10 5 := ⟨14, zd zq_89 (by decide +kernel), rfl, fX1_14⟩
theorem iX1_raiseMark_5 : xl_D mX1_raiseMark 5 (.iload_n 1) 1 6 := ⟨zd zq_3 (by decide +kernel), rfl⟩
theorem iX1_raiseMark_6 : xl_D mX1_raiseMark 6 (.iconst 0) 1 7 := ⟨zd zq_2 (by decide +kernel), rfl⟩
theorem iX1_raiseMark_7 : xl_Ca mX1_raiseMark 7 mX0_get 10 := ⟨108, zd zq_130 (by decide +kernel), rfl, lX1_108, Nat.le_of_ble_eq_true rfl, Nat.le_of_ble_eq_true rfl⟩
theorem iX1_raiseMark_10 : xl_J mX1_raiseMark 10 (fun o => .if_icmp .le o) 13 23 := ⟨13, zd zq_143 (by decide +kernel), rfl, rfl⟩
theorem iX1_raiseMark_13 : xl_D mX1_raiseMark 13 (.aload_n 0) 1 14 := ⟨zd zq_0 (by decide +kernel), rfl⟩
theorem iX1_raiseMark_14 : xl_G mX1_raiseMark 14 1 10 17 := ⟨14, zd zq_89 (by decide +kernel), rfl, fX1_14⟩
theorem iX1_raiseMark_17 : xl_D mX1_raiseMark 17 (.iload_n 1) 1 18 := ⟨zd zq_3 (by decide +kernel), rfl⟩
theorem iX1_raiseMark_18 : xl_D mX1_raiseMark 18 (.iconst 0) 1 19 := ⟨zd zq_2 (by decide +kernel), rfl⟩
theorem iX1_raiseMark_19 : xl_D mX1_raiseMark 19 (.iload_n 2) 1 20 := ⟨zd zq_6 (by decide +kernel), rfl⟩
theorem iX1_raiseMark_20 : xl_Ca mX1_raiseMark 20 mX0_set 23 := ⟨77, zd zq_97 (by decide +kernel), rfl, lX1_77, Nat.le_of_ble_eq_true rfl, Nat.le_of_ble_eq_true rfl⟩
theorem iX1_raiseMark_23 : xl_D mX1_raiseMark 23 (.return_) 1 24 := ⟨zd zq_12 (by decide +kernel), rfl⟩
theorem iX1_fateOf_0 : xl_D mX1_fateOf 0 (.iload_n 1) 1 1 := ⟨zd zq_3 (by decide +kernel), rfl⟩
theorem iX1_fateOf_1 : xl_D mX1_fateOf 1 (.aload_n 0) 1 2 := ⟨zd zq_0 (by decide +kernel), rfl⟩
theorem iX1_fateOf_2 : xl_G mX1_fateOf 2 1 3 5 := ⟨49, zd zq_109 (by decide +kernel), rfl, fX1_49⟩
theorem iX1_fateOf_5 : xl_D mX1_fateOf 5 (.aload_n 0) 1 6 := ⟨zd zq_0 (by decide +kernel), rfl⟩
theorem iX1_fateOf_6 : xl_G mX1_fateOf 6 1 1 9 := ⟨43, zd zq_107 (by decide +kernel), rfl, fX1_43⟩
theorem iX1_fateOf_9 : xl_D mX1_fateOf 9 (.isub) 1 10 := ⟨zd zq_39 (by decide +kernel), rfl⟩
theorem iX1_fateOf_10 : xl_J mX1_fateOf 10 (fun o => .if_icmp .ge o) 13 15 := ⟨5, zd zq_144 (by decide +kernel), rfl, rfl⟩
theorem iX1_fateOf_13 : xl_D mX1_fateOf 13 (.iconst 2) 1 14 := ⟨zd zq_127 (by decide +kernel), rfl⟩
theorem iX1_fateOf_14 : xl_D mX1_fateOf 14 (.ireturn) 1 15 := ⟨zd zq_17 (by decide +kernel), rfl⟩
theorem iX1_fateOf_15 : xl_D mX1_fateOf 15 (.iload_n 1) 1 16 := ⟨zd zq_3 (by decide +kernel), rfl⟩
theorem iX1_fateOf_16 : xl_D mX1_fateOf 16 (.aload_n 0) 1 17 := ⟨zd zq_0 (by decide +kernel), rfl⟩
theorem iX1_fateOf_17 : xl_G mX1_fateOf 17 1 3 20 := ⟨49, zd zq_109 (by decide +kernel), rfl, fX1_49⟩
theorem iX1_fateOf_20 : xl_J mX1_fateOf 20 (fun o => .if_icmp .ge o) 23 27 := ⟨7, zd zq_145 (by decide +kernel), rfl, rfl⟩
theorem iX1_fateOf_23 : xl_D mX1_fateOf 23 (.iconst 1) 1 24 := ⟨zd zq_36 (by decide +kernel), rfl⟩
theorem iX1_fateOf_24 : xl_J mX1_fateOf 24 (fun o => .goto o) 27 28 := ⟨4, zd zq_139 (by decide +kernel), rfl, rfl⟩
theorem iX1_fateOf_27 : xl_D mX1_fateOf 27 (.iconst 0) 1 28 := ⟨zd zq_2 (by decide +kernel), rfl⟩
theorem iX1_fateOf_28 : xl_D mX1_fateOf 28 (.ireturn) 1 29 := ⟨zd zq_17 (by decide +kernel), rfl⟩
theorem iX1_isTakenOf_0 : xl_D mX1_isTakenOf 0 (.aload_n 0) 1 1 := ⟨zd zq_0 (by decide +kernel), rfl⟩
theorem iX1_isTakenOf_1 : xl_G mX1_isTakenOf 1 1 14 4 := ⟨29, zd zq_102 (by decide +kernel), rfl, fX1_29⟩
theorem iX1_isTakenOf_4 : xl_D mX1_isTakenOf 4 (.iload_n 1) 1 5 := ⟨zd zq_3 (by decide +kernel), rfl⟩
theorem iX1_isTakenOf_5 : xl_D mX1_isTakenOf 5 (.iconst 5) 1 6 := ⟨zd zq_64 (by decide +kernel), rfl⟩
theorem iX1_isTakenOf_6 : xl_Ca mX1_isTakenOf 6 mX0_get 9 := ⟨108, zd zq_130 (by decide +kernel), rfl, lX1_108, Nat.le_of_ble_eq_true rfl, Nat.le_of_ble_eq_true rfl⟩
theorem iX1_isTakenOf_9 : xl_D mX1_isTakenOf 9 (.istore_n 3) 1 10 := ⟨zd zq_131 (by decide +kernel), rfl⟩
theorem iX1_isTakenOf_10 : xl_D mX1_isTakenOf 10 (.aload_n 0) 1 11 := ⟨zd zq_0 (by decide +kernel), rfl⟩
theorem iX1_isTakenOf_11 : xl_G mX1_isTakenOf 11 1 14 14 := ⟨29, zd zq_102 (by decide +kernel), rfl, fX1_29⟩
theorem iX1_isTakenOf_14 : xl_D mX1_isTakenOf 14 (.iload_n 1) 1 15 := ⟨zd zq_3 (by decide +kernel), rfl⟩
theorem iX1_isTakenOf_15 : xl_D mX1_isTakenOf 15 (.iconst 3) 1 16 := ⟨zd zq_123 (by decide +kernel), rfl⟩
theorem iX1_isTakenOf_16 : xl_Ca mX1_isTakenOf 16 mX0_get 19 := ⟨108, zd zq_130 (by decide +kernel), rfl, lX1_108, Nat.le_of_ble_eq_true rfl, Nat.le_of_ble_eq_true rfl⟩
theorem iX1_isTakenOf_19 : xl_D mX1_isTakenOf 19 (.iload_n 2) 1 20 := ⟨zd zq_6 (by decide +kernel), rfl⟩
theorem iX1_isTakenOf_20 : xl_J mX1_isTakenOf 20 (fun o => .if_icmp .ne o) 23 36 := ⟨16, zd zq_146 (by decide +kernel), rfl, rfl⟩
theorem iX1_isTakenOf_23 : xl_D mX1_isTakenOf 23 (.iload_n 3) 1 24 := ⟨zd zq_25 (by decide +kernel), rfl⟩
theorem iX1_isTakenOf_24 : xl_J mX1_isTakenOf 24 (fun o => .ifCond .eq o) 27 32 := ⟨8, zd zq_147 (by decide +kernel), rfl, rfl⟩
theorem iX1_isTakenOf_27 : xl_D mX1_isTakenOf 27 (.iload_n 3) 1 28 := ⟨zd zq_25 (by decide +kernel), rfl⟩
theorem iX1_isTakenOf_28 : xl_D mX1_isTakenOf 28 (.iconst 1) 1 29 := ⟨zd zq_36 (by decide +kernel), rfl⟩
theorem iX1_isTakenOf_29 : xl_J mX1_isTakenOf 29 (fun o => .if_icmp .ne o) 32 36 := ⟨7, zd zq_138 (by decide +kernel), rfl, rfl⟩
theorem iX1_isTakenOf_32 : xl_D mX1_isTakenOf 32 (.iconst 1) 1 33 := ⟨zd zq_36 (by decide +kernel), rfl⟩
theorem iX1_isTakenOf_33 : xl_J mX1_isTakenOf 33 (fun o => .goto o) 36 37 := ⟨4, zd zq_139 (by decide +kernel), rfl, rfl⟩
theorem iX1_isTakenOf_36 : xl_D mX1_isTakenOf 36 (.iconst 0) 1 37 := ⟨zd zq_2 (by decide +kernel), rfl⟩
theorem iX1_isTakenOf_37 : xl_D mX1_isTakenOf 37 (.ireturn) 1 38 := ⟨zd zq_17 (by decide +kernel), rfl⟩
theorem iX1_hasResult_0 : xl_D mX1_hasResult 0 (.aload_n 0) 1 1 := ⟨zd zq_0 (by decide +kernel), rfl⟩
theorem iX1_hasResult_1 : xl_G mX1_hasResult 1 1 11 4 := ⟨20, zd zq_100 (by decide +kernel), rfl, fX1_20⟩
theorem iX1_hasResult_4 : xl_D mX1_hasResult 4 (.iload_n 1) 1 5 := ⟨zd zq_3 (by decide +kernel), rfl⟩
theorem iX1_hasResult_5 : xl_D mX1_hasResult 5 (.bipush 6) 2 7 := ⟨zd zq_71 (by decide +kernel), rfl⟩
theorem iX1_hasResult_7 : xl_Ca mX1_hasResult 7 mX0_get 10 := ⟨108, zd zq_130 (by decide +kernel), rfl, lX1_108, Nat.le_of_ble_eq_true rfl, Nat.le_of_ble_eq_true rfl⟩
theorem iX1_hasResult_10 : xl_D mX1_hasResult 10 (.iconst (-1)) 1 11 := ⟨zd zq_104 (by decide +kernel), rfl⟩
theorem iX1_hasResult_11 : xl_J mX1_hasResult 11 (fun o => .if_icmp .eq o) 14 18 := ⟨7, zd zq_148 (by decide +kernel), rfl, rfl⟩
theorem iX1_hasResult_14 : xl_D mX1_hasResult 14 (.iconst 1) 1 15 := ⟨zd zq_36 (by decide +kernel), rfl⟩
theorem iX1_hasResult_15 : xl_J mX1_hasResult 15 (fun o => .goto o) 18 19 := ⟨4, zd zq_139 (by decide +kernel), rfl, rfl⟩
theorem iX1_hasResult_18 : xl_D mX1_hasResult 18 (.iconst 0) 1 19 := ⟨zd zq_2 (by decide +kernel), rfl⟩
theorem iX1_hasResult_19 : xl_D mX1_hasResult 19 (.ireturn) 1 20 := ⟨zd zq_17 (by decide +kernel), rfl⟩
theorem iX1_isRipe_0 : xl_D mX1_isRipe 0 (.aload_n 0) 1 1 := ⟨zd zq_0 (by decide +kernel), rfl⟩
theorem iX1_isRipe_1 : xl_G mX1_isRipe 1 1 11 4 := ⟨20, zd zq_100 (by decide +kernel), rfl, fX1_20⟩
theorem iX1_isRipe_4 : xl_D mX1_isRipe 4 (.iload_n 1) 1 5 := ⟨zd zq_3 (by decide +kernel), rfl⟩
theorem iX1_isRipe_5 : xl_D mX1_isRipe 5 (.iconst 2) 1 6 := ⟨zd zq_127 (by decide +kernel), rfl⟩
theorem iX1_isRipe_6 : xl_Ca mX1_isRipe 6 mX0_get 9 := ⟨108, zd zq_130 (by decide +kernel), rfl, lX1_108, Nat.le_of_ble_eq_true rfl, Nat.le_of_ble_eq_true rfl⟩
theorem iX1_isRipe_9 : xl_D mX1_isRipe 9 (.aload_n 0) 1 10 := ⟨zd zq_0 (by decide +kernel), rfl⟩
theorem iX1_isRipe_10 : xl_G mX1_isRipe 10 1 0 13 := ⟨39, zd zq_106 (by decide +kernel), rfl, fX1_39⟩
theorem iX1_isRipe_13 : xl_D mX1_isRipe 13 (.iadd) 1 14 := ⟨zd zq_19 (by decide +kernel), rfl⟩
theorem iX1_isRipe_14 : xl_D mX1_isRipe 14 (.iload_n 2) 1 15 := ⟨zd zq_6 (by decide +kernel), rfl⟩
theorem iX1_isRipe_15 : xl_J mX1_isRipe 15 (fun o => .if_icmp .ge o) 18 22 := ⟨7, zd zq_145 (by decide +kernel), rfl, rfl⟩
theorem iX1_isRipe_18 : xl_D mX1_isRipe 18 (.iconst 1) 1 19 := ⟨zd zq_36 (by decide +kernel), rfl⟩
theorem iX1_isRipe_19 : xl_J mX1_isRipe 19 (fun o => .goto o) 22 23 := ⟨4, zd zq_139 (by decide +kernel), rfl, rfl⟩
theorem iX1_isRipe_22 : xl_D mX1_isRipe 22 (.iconst 0) 1 23 := ⟨zd zq_2 (by decide +kernel), rfl⟩
theorem iX1_isRipe_23 : xl_D mX1_isRipe 23 (.ireturn) 1 24 := ⟨zd zq_17 (by decide +kernel), rfl⟩
theorem iX1_isOver_0 : xl_D mX1_isOver 0 (.aload_n 0) 1 1 := ⟨zd zq_0 (by decide +kernel), rfl⟩
theorem iX1_isOver_1 : xl_G mX1_isOver 1 1 11 4 := ⟨20, zd zq_100 (by decide +kernel), rfl, fX1_20⟩
theorem iX1_isOver_4 : xl_D mX1_isOver 4 (.iload_n 1) 1 5 := ⟨zd zq_3 (by decide +kernel), rfl⟩
theorem iX1_isOver_5 : xl_D mX1_isOver 5 (.iconst 2) 1 6 := ⟨zd zq_127 (by decide +kernel), rfl⟩
theorem iX1_isOver_6 : xl_Ca mX1_isOver 6 mX0_get 9 := ⟨108, zd zq_130 (by decide +kernel), rfl, lX1_108, Nat.le_of_ble_eq_true rfl, Nat.le_of_ble_eq_true rfl⟩
theorem iX1_isOver_9 : xl_D mX1_isOver 9 (.aload_n 0) 1 10 := ⟨zd zq_0 (by decide +kernel), rfl⟩
theorem iX1_isOver_10 : xl_G mX1_isOver 10 1 0 13 := ⟨39, zd zq_106 (by decide +kernel), rfl, fX1_39⟩
theorem iX1_isOver_13 : xl_D mX1_isOver 13 (.iadd) 1 14 := ⟨zd zq_19 (by decide +kernel), rfl⟩
theorem iX1_isOver_14 : xl_D mX1_isOver 14 (.aload_n 0) 1 15 := ⟨zd zq_0 (by decide +kernel), rfl⟩
theorem iX1_isOver_15 : xl_G mX1_isOver 15 1 1 18 := ⟨43, zd zq_107 (by decide +kernel), rfl, fX1_43⟩
theorem iX1_isOver_18 : xl_D mX1_isOver 18 (.iadd) 1 19 := ⟨zd zq_19 (by decide +kernel), rfl⟩
theorem iX1_isOver_19 : xl_D mX1_isOver 19 (.iload_n 2) 1 20 := ⟨zd zq_6 (by decide +kernel), rfl⟩
theorem iX1_isOver_20 : xl_J mX1_isOver 20 (fun o => .if_icmp .ge o) 23 27 := ⟨7, zd zq_145 (by decide +kernel), rfl, rfl⟩
theorem iX1_isOver_23 : xl_D mX1_isOver 23 (.iconst 1) 1 24 := ⟨zd zq_36 (by decide +kernel), rfl⟩
theorem iX1_isOver_24 : xl_J mX1_isOver 24 (fun o => .goto o) 27 28 := ⟨4, zd zq_139 (by decide +kernel), rfl, rfl⟩
theorem iX1_isOver_27 : xl_D mX1_isOver 27 (.iconst 0) 1 28 := ⟨zd zq_2 (by decide +kernel), rfl⟩
theorem iX1_isOver_28 : xl_D mX1_isOver 28 (.ireturn) 1 29 := ⟨zd zq_17 (by decide +kernel), rfl⟩
theorem iX1_ripening_0 : xl_D mX1_ripening 0 (.iconst 0) 1 1 := ⟨zd zq_2 (by decide +kernel), rfl⟩
theorem iX1_ripening_1 : xl_D mX1_ripening 1 (.istore_n 2) 1 2 := ⟨zd zq_41 (by decide +kernel), rfl⟩
theorem iX1_ripening_2 : xl_D mX1_ripening 2 (.iconst 0) 1 3 := ⟨zd zq_2 (by decide +kernel), rfl⟩
theorem iX1_ripening_3 : xl_D mX1_ripening 3 (.istore_n 3) 1 4 := ⟨zd zq_131 (by decide +kernel), rfl⟩
theorem iX1_ripening_4 : xl_D mX1_ripening 4 (.iload_n 3) 1 5 := ⟨zd zq_25 (by decide +kernel), rfl⟩
theorem iX1_ripening_5 : xl_D mX1_ripening 5 (.aload_n 0) 1 6 := ⟨zd zq_0 (by decide +kernel), rfl⟩
theorem iX1_ripening_6 : xl_G mX1_ripening 6 1 11 9 := ⟨20, zd zq_100 (by decide +kernel), rfl, fX1_20⟩
theorem iX1_ripening_9 : xl_G mX1_ripening 9 0 3 12 := ⟨85, zd zq_117 (by decide +kernel), rfl, fX1_85⟩
theorem iX1_ripening_12 : xl_J mX1_ripening 12 (fun o => .if_icmp .ge o) 15 45 := ⟨33, zd zq_149 (by decide +kernel), rfl, rfl⟩
theorem iX1_ripening_15 : xl_D mX1_ripening 15 (.aload_n 0) 1 16 := ⟨zd zq_0 (by decide +kernel), rfl⟩
theorem iX1_ripening_16 : xl_D mX1_ripening 16 (.iload_n 3) 1 17 := ⟨zd zq_25 (by decide +kernel), rfl⟩
theorem iX1_ripening_17 : xl_D mX1_ripening 17 (.aload_n 0) 1 18 := ⟨zd zq_0 (by decide +kernel), rfl⟩
theorem iX1_ripening_18 : xl_G mX1_ripening 18 1 3 21 := ⟨49, zd zq_109 (by decide +kernel), rfl, fX1_49⟩
theorem iX1_ripening_21 : xl_Ca mX1_ripening 21 mX1_isRipe 24 := ⟨127, zd zq_150 (by decide +kernel), rfl, lX1_127, Nat.le_of_ble_eq_true rfl, Nat.le_of_ble_eq_true rfl⟩
theorem iX1_ripening_24 : xl_J mX1_ripening 24 (fun o => .ifCond .ne o) 27 39 := ⟨15, zd zq_151 (by decide +kernel), rfl, rfl⟩
theorem iX1_ripening_27 : xl_D mX1_ripening 27 (.aload_n 0) 1 28 := ⟨zd zq_0 (by decide +kernel), rfl⟩
theorem iX1_ripening_28 : xl_D mX1_ripening 28 (.iload_n 3) 1 29 := ⟨zd zq_25 (by decide +kernel), rfl⟩
theorem iX1_ripening_29 : xl_D mX1_ripening 29 (.iload_n 1) 1 30 := ⟨zd zq_3 (by decide +kernel), rfl⟩
theorem iX1_ripening_30 : xl_Ca mX1_ripening 30 mX1_isRipe 33 := ⟨127, zd zq_150 (by decide +kernel), rfl, lX1_127, Nat.le_of_ble_eq_true rfl, Nat.le_of_ble_eq_true rfl⟩
theorem iX1_ripening_33 : xl_J mX1_ripening 33 (fun o => .ifCond .eq o) 36 39 := ⟨6, zd zq_152 (by decide +kernel), rfl, rfl⟩
theorem iX1_ripening_36 : xl_D mX1_ripening 36 (.iinc 2 1) 3 39 := ⟨zd zq_44 (by decide +kernel), rfl⟩
theorem iX1_ripening_39 : xl_D mX1_ripening 39 (.iinc 3 1) 3 42 := ⟨zd zq_153 (by decide +kernel), rfl⟩
theorem iX1_ripening_42 : xl_J mX1_ripening 42 (fun o => .goto o) 45 4 := ⟨-38, zd zq_154 (by decide +kernel), rfl, rfl⟩
theorem iX1_ripening_45 : xl_D mX1_ripening 45 (.iload_n 2) 1 46 := ⟨zd zq_6 (by decide +kernel), rfl⟩
theorem iX1_ripening_46 : xl_D mX1_ripening 46 (.ireturn) 1 47 := ⟨zd zq_17 (by decide +kernel), rfl⟩
theorem iX1_leastMark_0 : xl_D mX1_leastMark 0 (.iconst (-1)) 1 1 := ⟨zd zq_104 (by decide +kernel), rfl⟩
theorem iX1_leastMark_1 : xl_D mX1_leastMark 1 (.istore_n 2) 1 2 := ⟨zd zq_41 (by decide +kernel), rfl⟩
theorem iX1_leastMark_2 : xl_D mX1_leastMark 2 (.iconst 0) 1 3 := ⟨zd zq_2 (by decide +kernel), rfl⟩
theorem iX1_leastMark_3 : xl_D mX1_leastMark 3 (.istore_n 3) 1 4 := ⟨zd zq_131 (by decide +kernel), rfl⟩
theorem iX1_leastMark_4 : xl_D mX1_leastMark 4 (.iload_n 3) 1 5 := ⟨zd zq_25 (by decide +kernel), rfl⟩
theorem iX1_leastMark_5 : xl_D mX1_leastMark 5 (.aload_n 0) 1 6 := ⟨zd zq_0 (by decide +kernel), rfl⟩
theorem iX1_leastMark_6 : xl_G mX1_leastMark 6 1 10 9 := ⟨14, zd zq_89 (by decide +kernel), rfl, fX1_14⟩
theorem iX1_leastMark_9 : xl_G mX1_leastMark 9 0 3 12 := ⟨85, zd zq_117 (by decide +kernel), rfl, fX1_85⟩
theorem iX1_leastMark_12 : xl_J mX1_leastMark 12 (fun o => .if_icmp .ge o) 15 68 := ⟨56, zd zq_155 (by decide +kernel), rfl, rfl⟩
theorem iX1_leastMark_15 : xl_D mX1_leastMark 15 (.iload_n 3) 1 16 := ⟨zd zq_25 (by decide +kernel), rfl⟩
theorem iX1_leastMark_16 : xl_D mX1_leastMark 16 (.iload_n 1) 1 17 := ⟨zd zq_3 (by decide +kernel), rfl⟩
theorem iX1_leastMark_17 : xl_J mX1_leastMark 17 (fun o => .if_icmp .eq o) 20 62 := ⟨45, zd zq_156 (by decide +kernel), rfl, rfl⟩
theorem iX1_leastMark_20 : xl_D mX1_leastMark 20 (.aload_n 0) 1 21 := ⟨zd zq_0 (by decide +kernel), rfl⟩
theorem iX1_leastMark_21 : xl_G mX1_leastMark 21 1 10 24 := ⟨14, zd zq_89 (by decide +kernel), rfl, fX1_14⟩
theorem iX1_leastMark_24 : xl_D mX1_leastMark 24 (.iload_n 3) 1 25 := ⟨zd zq_25 (by decide +kernel), rfl⟩
theorem iX1_leastMark_25 : xl_D mX1_leastMark 25 (.iconst 2) 1 26 := ⟨zd zq_127 (by decide +kernel), rfl⟩
theorem iX1_leastMark_26 : xl_Ca mX1_leastMark 26 mX0_get 29 := ⟨108, zd zq_130 (by decide +kernel), rfl, lX1_108, Nat.le_of_ble_eq_true rfl, Nat.le_of_ble_eq_true rfl⟩
theorem iX1_leastMark_29 : xl_J mX1_leastMark 29 (fun o => .ifCond .eq o) 32 35 := ⟨6, zd zq_152 (by decide +kernel), rfl, rfl⟩
theorem iX1_leastMark_32 : xl_J mX1_leastMark 32 (fun o => .goto o) 35 62 := ⟨30, zd zq_157 (by decide +kernel), rfl, rfl⟩
theorem iX1_leastMark_35 : xl_D mX1_leastMark 35 (.aload_n 0) 1 36 := ⟨zd zq_0 (by decide +kernel), rfl⟩
theorem iX1_leastMark_36 : xl_G mX1_leastMark 36 1 10 39 := ⟨14, zd zq_89 (by decide +kernel), rfl, fX1_14⟩
theorem iX1_leastMark_39 : xl_D mX1_leastMark 39 (.iload_n 3) 1 40 := ⟨zd zq_25 (by decide +kernel), rfl⟩
theorem iX1_leastMark_40 : xl_D mX1_leastMark 40 (.iconst 0) 1 41 := ⟨zd zq_2 (by decide +kernel), rfl⟩
theorem iX1_leastMark_41 : xl_Ca mX1_leastMark 41 mX0_get 44 := ⟨108, zd zq_130 (by decide +kernel), rfl, lX1_108, Nat.le_of_ble_eq_true rfl, Nat.le_of_ble_eq_true rfl⟩
theorem iX1_leastMark_44 : xl_D mX1_leastMark 44 (.istore 4) 2 46 := ⟨zd zq_50 (by decide +kernel), rfl⟩
theorem iX1_leastMark_46 : xl_D mX1_leastMark 46 (.iload_n 2) 1 47 := ⟨zd zq_6 (by decide +kernel), rfl⟩
theorem iX1_leastMark_47 : xl_J mX1_leastMark 47 (fun o => .ifCond .ge o) 50 55 := ⟨8, zd zq_158 (by decide +kernel), rfl, rfl⟩
theorem iX1_leastMark_50 : xl_D mX1_leastMark 50 (.iload 4) 2 52 := ⟨zd zq_51 (by decide +kernel), rfl⟩
theorem iX1_leastMark_52 : xl_J mX1_leastMark 52 (fun o => .goto o) 55 61 := ⟨9, zd zq_159 (by decide +kernel), rfl, rfl⟩
theorem iX1_leastMark_55 : xl_D mX1_leastMark 55 (.iload_n 2) 1 56 := ⟨zd zq_6 (by decide +kernel), rfl⟩
theorem iX1_leastMark_56 : xl_D mX1_leastMark 56 (.iload 4) 2 58 := ⟨zd zq_51 (by decide +kernel), rfl⟩
theorem iX1_leastMark_58 : xl_Cm mX1_leastMark 58 Lib.Math.min.name Lib.Math.min.code 61 := ⟨131, zd zq_160 (by decide +kernel), rfl, lX1_131, xl_stmin, xl_iMath, xl_comin, Nat.le_of_ble_eq_true rfl, Nat.le_of_ble_eq_true rfl⟩
theorem iX1_leastMark_61 : xl_D mX1_leastMark 61 (.istore_n 2) 1 62 := ⟨zd zq_41 (by decide +kernel), rfl⟩
theorem iX1_leastMark_62 : xl_D mX1_leastMark 62 (.iinc 3 1) 3 65 := ⟨zd zq_153 (by decide +kernel), rfl⟩
theorem iX1_leastMark_65 : xl_J mX1_leastMark 65 (fun o => .goto o) 68 4 := ⟨-61, zd zq_161 (by decide +kernel), rfl, rfl⟩
theorem iX1_leastMark_68 : xl_D mX1_leastMark 68 (.iload_n 2) 1 69 := ⟨zd zq_6 (by decide +kernel), rfl⟩
theorem iX1_leastMark_69 : xl_D mX1_leastMark 69 (.ireturn) 1 70 := ⟨zd zq_17 (by decide +kernel), rfl⟩
theorem iX1_sentOf_0 : xl_D mX1_sentOf 0 (.iconst 0) 1 1 := ⟨zd zq_2 (by decide +kernel), rfl⟩
theorem iX1_sentOf_1 : xl_D mX1_sentOf 1 (.istore_n 2) 1 2 := ⟨zd zq_41 (by decide +kernel), rfl⟩
theorem iX1_sentOf_2 : xl_D mX1_sentOf 2 (.iconst 0) 1 3 := ⟨zd zq_2 (by decide +kernel), rfl⟩
theorem iX1_sentOf_3 : xl_D mX1_sentOf 3 (.istore_n 3) 1 4 := ⟨zd zq_131 (by decide +kernel), rfl⟩
theorem iX1_sentOf_4 : xl_D mX1_sentOf 4 (.iload_n 3) 1 5 := ⟨zd zq_25 (by decide +kernel), rfl⟩
theorem iX1_sentOf_5 : xl_D mX1_sentOf 5 (.bipush 6) 2 7 := ⟨zd zq_71 (by decide +kernel), rfl⟩
theorem iX1_sentOf_7 : xl_J mX1_sentOf 7 (fun o => .if_icmp .ge o) 10 28 := ⟨21, zd zq_162 (by decide +kernel), rfl, rfl⟩
theorem iX1_sentOf_10 : xl_D mX1_sentOf 10 (.iload_n 2) 1 11 := ⟨zd zq_6 (by decide +kernel), rfl⟩
theorem iX1_sentOf_11 : xl_D mX1_sentOf 11 (.aload_n 0) 1 12 := ⟨zd zq_0 (by decide +kernel), rfl⟩
theorem iX1_sentOf_12 : xl_G mX1_sentOf 12 1 15 15 := ⟨32, zd zq_103 (by decide +kernel), rfl, fX1_32⟩
theorem iX1_sentOf_15 : xl_D mX1_sentOf 15 (.iload_n 3) 1 16 := ⟨zd zq_25 (by decide +kernel), rfl⟩
theorem iX1_sentOf_16 : xl_D mX1_sentOf 16 (.iload_n 1) 1 17 := ⟨zd zq_3 (by decide +kernel), rfl⟩
theorem iX1_sentOf_17 : xl_Ca mX1_sentOf 17 mX0_get 20 := ⟨108, zd zq_130 (by decide +kernel), rfl, lX1_108, Nat.le_of_ble_eq_true rfl, Nat.le_of_ble_eq_true rfl⟩
theorem iX1_sentOf_20 : xl_D mX1_sentOf 20 (.iadd) 1 21 := ⟨zd zq_19 (by decide +kernel), rfl⟩
theorem iX1_sentOf_21 : xl_D mX1_sentOf 21 (.istore_n 2) 1 22 := ⟨zd zq_41 (by decide +kernel), rfl⟩
theorem iX1_sentOf_22 : xl_D mX1_sentOf 22 (.iinc 3 1) 3 25 := ⟨zd zq_153 (by decide +kernel), rfl⟩
theorem iX1_sentOf_25 : xl_J mX1_sentOf 25 (fun o => .goto o) 28 4 := ⟨-21, zd zq_163 (by decide +kernel), rfl, rfl⟩
theorem iX1_sentOf_28 : xl_D mX1_sentOf 28 (.iload_n 2) 1 29 := ⟨zd zq_6 (by decide +kernel), rfl⟩
theorem iX1_sentOf_29 : xl_D mX1_sentOf 29 (.ireturn) 1 30 := ⟨zd zq_17 (by decide +kernel), rfl⟩
theorem iX1_touches_0 : xl_D mX1_touches 0 (.aload_n 0) 1 1 := ⟨zd zq_0 (by decide +kernel), rfl⟩
theorem iX1_touches_1 : xl_G mX1_touches 1 1 11 4 := ⟨20, zd zq_100 (by decide +kernel), rfl, fX1_20⟩
theorem iX1_touches_4 : xl_D mX1_touches 4 (.iload_n 1) 1 5 := ⟨zd zq_3 (by decide +kernel), rfl⟩
theorem iX1_touches_5 : xl_D mX1_touches 5 (.iconst 0) 1 6 := ⟨zd zq_2 (by decide +kernel), rfl⟩
theorem iX1_touches_6 : xl_Ca mX1_touches 6 mX0_get 9 := ⟨108, zd zq_130 (by decide +kernel), rfl, lX1_108, Nat.le_of_ble_eq_true rfl, Nat.le_of_ble_eq_true rfl⟩
theorem iX1_touches_9 : xl_D mX1_touches 9 (.iload_n 2) 1 10 := ⟨zd zq_6 (by decide +kernel), rfl⟩
theorem iX1_touches_10 : xl_J mX1_touches 10 (fun o => .if_icmp .ne o) 13 53 := ⟨43, zd zq_164 (by decide +kernel), rfl, rfl⟩
theorem iX1_touches_13 : xl_D mX1_touches 13 (.aload_n 0) 1 14 := ⟨zd zq_0 (by decide +kernel), rfl⟩
theorem iX1_touches_14 : xl_G mX1_touches 14 1 11 17 := ⟨20, zd zq_100 (by decide +kernel), rfl, fX1_20⟩
theorem iX1_touches_17 : xl_D mX1_touches 17 (.iload_n 1) 1 18 := ⟨zd zq_3 (by decide +kernel), rfl⟩
theorem iX1_touches_18 : xl_D mX1_touches 18 (.iconst 1) 1 19 := ⟨zd zq_36 (by decide +kernel), rfl⟩
theorem iX1_touches_19 : xl_Ca mX1_touches 19 mX0_get 22 := ⟨108, zd zq_130 (by decide +kernel), rfl, lX1_108, Nat.le_of_ble_eq_true rfl, Nat.le_of_ble_eq_true rfl⟩
theorem iX1_touches_22 : xl_D mX1_touches 22 (.aload_n 0) 1 23 := ⟨zd zq_0 (by decide +kernel), rfl⟩
theorem iX1_touches_23 : xl_G mX1_touches 23 1 0 26 := ⟨39, zd zq_106 (by decide +kernel), rfl, fX1_39⟩
theorem iX1_touches_26 : xl_D mX1_touches 26 (.isub) 1 27 := ⟨zd zq_39 (by decide +kernel), rfl⟩
theorem iX1_touches_27 : xl_D mX1_touches 27 (.iload_n 3) 1 28 := ⟨zd zq_25 (by decide +kernel), rfl⟩
theorem iX1_touches_28 : xl_J mX1_touches 28 (fun o => .if_icmp .gt o) 31 53 := ⟨25, zd zq_165 (by decide +kernel), rfl, rfl⟩
theorem iX1_touches_31 : xl_D mX1_touches 31 (.aload_n 0) 1 32 := ⟨zd zq_0 (by decide +kernel), rfl⟩
theorem iX1_touches_32 : xl_G mX1_touches 32 1 11 35 := ⟨20, zd zq_100 (by decide +kernel), rfl, fX1_20⟩
theorem iX1_touches_35 : xl_D mX1_touches 35 (.iload_n 1) 1 36 := ⟨zd zq_3 (by decide +kernel), rfl⟩
theorem iX1_touches_36 : xl_D mX1_touches 36 (.iconst 2) 1 37 := ⟨zd zq_127 (by decide +kernel), rfl⟩
theorem iX1_touches_37 : xl_Ca mX1_touches 37 mX0_get 40 := ⟨108, zd zq_130 (by decide +kernel), rfl, lX1_108, Nat.le_of_ble_eq_true rfl, Nat.le_of_ble_eq_true rfl⟩
theorem iX1_touches_40 : xl_D mX1_touches 40 (.aload_n 0) 1 41 := ⟨zd zq_0 (by decide +kernel), rfl⟩
theorem iX1_touches_41 : xl_G mX1_touches 41 1 0 44 := ⟨39, zd zq_106 (by decide +kernel), rfl, fX1_39⟩
theorem iX1_touches_44 : xl_D mX1_touches 44 (.iadd) 1 45 := ⟨zd zq_19 (by decide +kernel), rfl⟩
theorem iX1_touches_45 : xl_D mX1_touches 45 (.iload_n 3) 1 46 := ⟨zd zq_25 (by decide +kernel), rfl⟩
theorem iX1_touches_46 : xl_J mX1_touches 46 (fun o => .if_icmp .lt o) 49 53 := ⟨7, zd zq_166 (by decide +kernel), rfl, rfl⟩
theorem iX1_touches_49 : xl_D mX1_touches 49 (.iconst 1) 1 50 := ⟨zd zq_36 (by decide +kernel), rfl⟩
theorem iX1_touches_50 : xl_J mX1_touches 50 (fun o => .goto o) 53 54 := ⟨4, zd zq_139 (by decide +kernel), rfl, rfl⟩
theorem iX1_touches_53 : xl_D mX1_touches 53 (.iconst 0) 1 54 := ⟨zd zq_2 (by decide +kernel), rfl⟩
theorem iX1_touches_54 : xl_D mX1_touches 54 (.ireturn) 1 55 := ⟨zd zq_17 (by decide +kernel), rfl⟩
theorem iX1_firstTouched_0 : xl_D mX1_firstTouched 0 (.iconst 0) 1 1 := ⟨zd zq_2 (by decide +kernel), rfl⟩
theorem iX1_firstTouched_1 : xl_D mX1_firstTouched 1 (.istore_n 3) 1 2 := ⟨zd zq_131 (by decide +kernel), rfl⟩
theorem iX1_firstTouched_2 : xl_D mX1_firstTouched 2 (.iload_n 3) 1 3 := ⟨zd zq_25 (by decide +kernel), rfl⟩
theorem iX1_firstTouched_3 : xl_D mX1_firstTouched 3 (.aload_n 0) 1 4 := ⟨zd zq_0 (by decide +kernel), rfl⟩
theorem iX1_firstTouched_4 : xl_G mX1_firstTouched 4 1 11 7 := ⟨20, zd zq_100 (by decide +kernel), rfl, fX1_20⟩
theorem iX1_firstTouched_7 : xl_G mX1_firstTouched 7 0 3 10 := ⟨85, zd zq_117 (by decide +kernel), rfl, fX1_85⟩
theorem iX1_firstTouched_10 : xl_J mX1_firstTouched 10 (fun o => .if_icmp .ge o) 13 31 := ⟨21, zd zq_162 (by decide +kernel), rfl, rfl⟩
theorem iX1_firstTouched_13 : xl_D mX1_firstTouched 13 (.aload_n 0) 1 14 := ⟨zd zq_0 (by decide +kernel), rfl⟩
theorem iX1_firstTouched_14 : xl_D mX1_firstTouched 14 (.iload_n 3) 1 15 := ⟨zd zq_25 (by decide +kernel), rfl⟩
theorem iX1_firstTouched_15 : xl_D mX1_firstTouched 15 (.iload_n 1) 1 16 := ⟨zd zq_3 (by decide +kernel), rfl⟩
theorem iX1_firstTouched_16 : xl_D mX1_firstTouched 16 (.iload_n 2) 1 17 := ⟨zd zq_6 (by decide +kernel), rfl⟩
theorem iX1_firstTouched_17 : xl_Ca mX1_firstTouched 17 mX1_touches 20 := ⟨134, zd zq_167 (by decide +kernel), rfl, lX1_134, Nat.le_of_ble_eq_true rfl, Nat.le_of_ble_eq_true rfl⟩
theorem iX1_firstTouched_20 : xl_J mX1_firstTouched 20 (fun o => .ifCond .eq o) 23 25 := ⟨5, zd zq_168 (by decide +kernel), rfl, rfl⟩
theorem iX1_firstTouched_23 : xl_D mX1_firstTouched 23 (.iload_n 3) 1 24 := ⟨zd zq_25 (by decide +kernel), rfl⟩
theorem iX1_firstTouched_24 : xl_D mX1_firstTouched 24 (.ireturn) 1 25 := ⟨zd zq_17 (by decide +kernel), rfl⟩
theorem iX1_firstTouched_25 : xl_D mX1_firstTouched 25 (.iinc 3 1) 3 28 := ⟨zd zq_153 (by decide +kernel), rfl⟩
theorem iX1_firstTouched_28 : xl_J mX1_firstTouched 28 (fun o => .goto o) 31 2 := ⟨-26, zd zq_55 (by decide +kernel), rfl, rfl⟩
theorem iX1_firstTouched_31 : xl_D mX1_firstTouched 31 (.iconst (-1)) 1 32 := ⟨zd zq_104 (by decide +kernel), rfl⟩
theorem iX1_firstTouched_32 : xl_D mX1_firstTouched 32 (.ireturn) 1 33 := ⟨zd zq_17 (by decide +kernel), rfl⟩
theorem iX1_touchedFrom_0 : xl_D mX1_touchedFrom 0 (.iconst 0) 1 1 := ⟨zd zq_2 (by decide +kernel), rfl⟩
theorem iX1_touchedFrom_1 : xl_D mX1_touchedFrom 1 (.istore 4) 2 3 := ⟨zd zq_50 (by decide +kernel), rfl⟩
theorem iX1_touchedFrom_3 : xl_D mX1_touchedFrom 3 (.iload_n 1) 1 4 := ⟨zd zq_3 (by decide +kernel), rfl⟩
theorem iX1_touchedFrom_4 : xl_D mX1_touchedFrom 4 (.istore 5) 2 6 := ⟨zd zq_91 (by decide +kernel), rfl⟩
theorem iX1_touchedFrom_6 : xl_D mX1_touchedFrom 6 (.iload 5) 2 8 := ⟨zd zq_92 (by decide +kernel), rfl⟩
theorem iX1_touchedFrom_8 : xl_J mX1_touchedFrom 8 (fun o => .ifCond .lt o) 11 43 := ⟨35, zd zq_169 (by decide +kernel), rfl, rfl⟩
theorem iX1_touchedFrom_11 : xl_D mX1_touchedFrom 11 (.iload 5) 2 13 := ⟨zd zq_92 (by decide +kernel), rfl⟩
theorem iX1_touchedFrom_13 : xl_D mX1_touchedFrom 13 (.aload_n 0) 1 14 := ⟨zd zq_0 (by decide +kernel), rfl⟩
theorem iX1_touchedFrom_14 : xl_G mX1_touchedFrom 14 1 11 17 := ⟨20, zd zq_100 (by decide +kernel), rfl, fX1_20⟩
theorem iX1_touchedFrom_17 : xl_G mX1_touchedFrom 17 0 3 20 := ⟨85, zd zq_117 (by decide +kernel), rfl, fX1_85⟩
theorem iX1_touchedFrom_20 : xl_J mX1_touchedFrom 20 (fun o => .if_icmp .ge o) 23 43 := ⟨23, zd zq_52 (by decide +kernel), rfl, rfl⟩
theorem iX1_touchedFrom_23 : xl_D mX1_touchedFrom 23 (.aload_n 0) 1 24 := ⟨zd zq_0 (by decide +kernel), rfl⟩
theorem iX1_touchedFrom_24 : xl_D mX1_touchedFrom 24 (.iload 5) 2 26 := ⟨zd zq_92 (by decide +kernel), rfl⟩
theorem iX1_touchedFrom_26 : xl_D mX1_touchedFrom 26 (.iload_n 2) 1 27 := ⟨zd zq_6 (by decide +kernel), rfl⟩
theorem iX1_touchedFrom_27 : xl_D mX1_touchedFrom 27 (.iload_n 3) 1 28 := ⟨zd zq_25 (by decide +kernel), rfl⟩
theorem iX1_touchedFrom_28 : xl_Ca mX1_touchedFrom 28 mX1_touches 31 := ⟨134, zd zq_167 (by decide +kernel), rfl, lX1_134, Nat.le_of_ble_eq_true rfl, Nat.le_of_ble_eq_true rfl⟩
theorem iX1_touchedFrom_31 : xl_J mX1_touchedFrom 31 (fun o => .ifCond .eq o) 34 43 := ⟨12, zd zq_170 (by decide +kernel), rfl, rfl⟩
theorem iX1_touchedFrom_34 : xl_D mX1_touchedFrom 34 (.iinc 4 1) 3 37 := ⟨zd zq_54 (by decide +kernel), rfl⟩
theorem iX1_touchedFrom_37 : xl_D mX1_touchedFrom 37 (.iinc 5 1) 3 40 := ⟨zd zq_98 (by decide +kernel), rfl⟩
theorem iX1_touchedFrom_40 : xl_J mX1_touchedFrom 40 (fun o => .goto o) 43 6 := ⟨-34, zd zq_171 (by decide +kernel), rfl, rfl⟩
theorem iX1_touchedFrom_43 : xl_D mX1_touchedFrom 43 (.iload 4) 2 45 := ⟨zd zq_51 (by decide +kernel), rfl⟩
theorem iX1_touchedFrom_45 : xl_D mX1_touchedFrom 45 (.ireturn) 1 46 := ⟨zd zq_17 (by decide +kernel), rfl⟩
theorem iX1_melt_0 : xl_D mX1_melt 0 (.aload_n 0) 1 1 := ⟨zd zq_0 (by decide +kernel), rfl⟩
theorem iX1_melt_1 : xl_D mX1_melt 1 (.iload_n 1) 1 2 := ⟨zd zq_3 (by decide +kernel), rfl⟩
theorem iX1_melt_2 : xl_D mX1_melt 2 (.iload_n 2) 1 3 := ⟨zd zq_6 (by decide +kernel), rfl⟩
theorem iX1_melt_3 : xl_Ca mX1_melt 3 mX1_firstTouched 6 := ⟨138, zd zq_172 (by decide +kernel), rfl, lX1_138, Nat.le_of_ble_eq_true rfl, Nat.le_of_ble_eq_true rfl⟩
theorem iX1_melt_6 : xl_D mX1_melt 6 (.istore 4) 2 8 := ⟨zd zq_50 (by decide +kernel), rfl⟩
theorem iX1_melt_8 : xl_D mX1_melt 8 (.aload_n 0) 1 9 := ⟨zd zq_0 (by decide +kernel), rfl⟩
theorem iX1_melt_9 : xl_D mX1_melt 9 (.iload 4) 2 11 := ⟨zd zq_51 (by decide +kernel), rfl⟩
theorem iX1_melt_11 : xl_D mX1_melt 11 (.iload_n 1) 1 12 := ⟨zd zq_3 (by decide +kernel), rfl⟩
theorem iX1_melt_12 : xl_D mX1_melt 12 (.iload_n 2) 1 13 := ⟨zd zq_6 (by decide +kernel), rfl⟩
theorem iX1_melt_13 : xl_Ca mX1_melt 13 mX1_touchedFrom 16 := ⟨141, zd zq_173 (by decide +kernel), rfl, lX1_141, Nat.le_of_ble_eq_true rfl, Nat.le_of_ble_eq_true rfl⟩
theorem iX1_melt_16 : xl_D mX1_melt 16 (.istore 5) 2 18 := ⟨zd zq_91 (by decide +kernel), rfl⟩
theorem iX1_melt_18 : xl_D mX1_melt 18 (.iload 4) 2 20 := ⟨zd zq_51 (by decide +kernel), rfl⟩
theorem iX1_melt_20 : xl_J mX1_melt 20 (fun o => .ifCond .lt o) 23 28 := ⟨8, zd zq_174 (by decide +kernel), rfl, rfl⟩
theorem iX1_melt_23 : xl_D mX1_melt 23 (.iload 4) 2 25 := ⟨zd zq_51 (by decide +kernel), rfl⟩
theorem iX1_melt_25 : xl_J mX1_melt 25 (fun o => .goto o) 28 34 := ⟨9, zd zq_159 (by decide +kernel), rfl, rfl⟩
theorem iX1_melt_28 : xl_D mX1_melt 28 (.aload_n 0) 1 29 := ⟨zd zq_0 (by decide +kernel), rfl⟩
theorem iX1_melt_29 : xl_D mX1_melt 29 (.iload_n 1) 1 30 := ⟨zd zq_3 (by decide +kernel), rfl⟩
theorem iX1_melt_30 : xl_D mX1_melt 30 (.iload_n 2) 1 31 := ⟨zd zq_6 (by decide +kernel), rfl⟩
theorem iX1_melt_31 : xl_Ca mX1_melt 31 mX1_placeFor 34 := ⟨145, zd zq_175 (by decide +kernel), rfl, lX1_145, Nat.le_of_ble_eq_true rfl, Nat.le_of_ble_eq_true rfl⟩
theorem iX1_melt_34 : xl_D mX1_melt 34 (.istore 6) 2 36 := ⟨zd zq_119 (by decide +kernel), rfl⟩
theorem iX1_melt_36 : xl_D mX1_melt 36 (.iload 6) 2 38 := ⟨zd zq_125 (by decide +kernel), rfl⟩
theorem iX1_melt_38 : xl_D mX1_melt 38 (.istore 7) 2 40 := ⟨zd zq_122 (by decide +kernel), rfl⟩
theorem iX1_melt_40 : xl_D mX1_melt 40 (.iload 7) 2 42 := ⟨zd zq_124 (by decide +kernel), rfl⟩
theorem iX1_melt_42 : xl_D mX1_melt 42 (.iload 6) 2 44 := ⟨zd zq_125 (by decide +kernel), rfl⟩
theorem iX1_melt_44 : xl_D mX1_melt 44 (.iload 5) 2 46 := ⟨zd zq_92 (by decide +kernel), rfl⟩
theorem iX1_melt_46 : xl_D mX1_melt 46 (.iadd) 1 47 := ⟨zd zq_19 (by decide +kernel), rfl⟩
theorem iX1_melt_47 : xl_J mX1_melt 47 (fun o => .if_icmp .ge o) 50 62 := ⟨15, zd zq_14 (by decide +kernel), rfl, rfl⟩
theorem iX1_melt_50 : xl_D mX1_melt 50 (.aload_n 0) 1 51 := ⟨zd zq_0 (by decide +kernel), rfl⟩
theorem iX1_melt_51 : xl_D mX1_melt 51 (.iload 7) 2 53 := ⟨zd zq_124 (by decide +kernel), rfl⟩
theorem iX1_melt_53 : xl_Ca mX1_melt 53 mX1_takeBack 56 := ⟨148, zd zq_176 (by decide +kernel), rfl, lX1_148, Nat.le_of_ble_eq_true rfl, Nat.le_of_ble_eq_true rfl⟩
theorem iX1_melt_56 : xl_D mX1_melt 56 (.iinc 7 1) 3 59 := ⟨zd zq_177 (by decide +kernel), rfl⟩
theorem iX1_melt_59 : xl_J mX1_melt 59 (fun o => .goto o) 62 40 := ⟨-19, zd zq_178 (by decide +kernel), rfl, rfl⟩
theorem iX1_melt_62 : xl_D mX1_melt 62 (.aload_n 0) 1 63 := ⟨zd zq_0 (by decide +kernel), rfl⟩
theorem iX1_melt_63 : xl_G mX1_melt 63 1 11 66 := ⟨20, zd zq_100 (by decide +kernel), rfl, fX1_20⟩
theorem iX1_melt_66 : xl_D mX1_melt 66 (.iload 6) 2 68 := ⟨zd zq_125 (by decide +kernel), rfl⟩
theorem iX1_melt_68 : xl_Ca mX1_melt 68 mX0_open 71 := ⟨73, zd zq_94 (by decide +kernel), rfl, lX1_73, Nat.le_of_ble_eq_true rfl, Nat.le_of_ble_eq_true rfl⟩
theorem iX1_melt_71 : xl_J mX1_melt 71 (fun o => .ifCond .ne o) 74 75 := ⟨4, zd zq_179 (by decide +kernel), rfl, rfl⟩
theorem iX1_melt_74 : xl_D mX1_melt 74 (.return_) 1 75 := ⟨zd zq_12 (by decide +kernel), rfl⟩
theorem iX1_melt_75 : xl_D mX1_melt 75 (.aload_n 0) 1 76 := ⟨zd zq_0 (by decide +kernel), rfl⟩
theorem iX1_melt_76 : xl_G mX1_melt 76 1 11 79 := ⟨20, zd zq_100 (by decide +kernel), rfl, fX1_20⟩
theorem iX1_melt_79 : xl_D mX1_melt 79 (.iload 6) 2 81 := ⟨zd zq_125 (by decide +kernel), rfl⟩
theorem iX1_melt_81 : xl_D mX1_melt 81 (.iconst 0) 1 82 := ⟨zd zq_2 (by decide +kernel), rfl⟩
theorem iX1_melt_82 : xl_D mX1_melt 82 (.iload_n 1) 1 83 := ⟨zd zq_3 (by decide +kernel), rfl⟩
theorem iX1_melt_83 : xl_Ca mX1_melt 83 mX0_set 86 := ⟨77, zd zq_97 (by decide +kernel), rfl, lX1_77, Nat.le_of_ble_eq_true rfl, Nat.le_of_ble_eq_true rfl⟩
theorem iX1_melt_86 : xl_D mX1_melt 86 (.aload_n 0) 1 87 := ⟨zd zq_0 (by decide +kernel), rfl⟩
theorem iX1_melt_87 : xl_G mX1_melt 87 1 11 90 := ⟨20, zd zq_100 (by decide +kernel), rfl, fX1_20⟩
theorem iX1_melt_90 : xl_D mX1_melt 90 (.iload 6) 2 92 := ⟨zd zq_125 (by decide +kernel), rfl⟩
theorem iX1_melt_92 : xl_D mX1_melt 92 (.iconst 1) 1 93 := ⟨zd zq_36 (by decide +kernel), rfl⟩
theorem iX1_melt_93 : xl_D mX1_melt 93 (.iload_n 2) 1 94 := ⟨zd zq_6 (by decide +kernel), rfl⟩
theorem iX1_melt_94 : xl_Ca mX1_melt 94 mX0_set 97 := ⟨77, zd zq_97 (by decide +kernel), rfl, lX1_77, Nat.le_of_ble_eq_true rfl, Nat.le_of_ble_eq_true rfl⟩
theorem iX1_melt_97 : xl_D mX1_melt 97 (.aload_n 0) 1 98 := ⟨zd zq_0 (by decide +kernel), rfl⟩
theorem iX1_melt_98 : xl_G mX1_melt 98 1 11 101 := ⟨20, zd zq_100 (by decide +kernel), rfl, fX1_20⟩
theorem iX1_melt_101 : xl_D mX1_melt 101 (.iload 6) 2 103 := ⟨zd zq_125 (by decide +kernel), rfl⟩
theorem iX1_melt_103 : xl_D mX1_melt 103 (.iconst 2) 1 104 := ⟨zd zq_127 (by decide +kernel), rfl⟩
theorem iX1_melt_104 : xl_D mX1_melt 104 (.iload_n 2) 1 105 := ⟨zd zq_6 (by decide +kernel), rfl⟩
theorem iX1_melt_105 : xl_Ca mX1_melt 105 mX0_set 108 := ⟨77, zd zq_97 (by decide +kernel), rfl, lX1_77, Nat.le_of_ble_eq_true rfl, Nat.le_of_ble_eq_true rfl⟩
theorem iX1_melt_108 : xl_D mX1_melt 108 (.aload_n 0) 1 109 := ⟨zd zq_0 (by decide +kernel), rfl⟩
theorem iX1_melt_109 : xl_G mX1_melt 109 1 11 112 := ⟨20, zd zq_100 (by decide +kernel), rfl, fX1_20⟩
theorem iX1_melt_112 : xl_D mX1_melt 112 (.iload 6) 2 114 := ⟨zd zq_125 (by decide +kernel), rfl⟩
theorem iX1_melt_114 : xl_D mX1_melt 114 (.iconst 3) 1 115 := ⟨zd zq_123 (by decide +kernel), rfl⟩
theorem iX1_melt_115 : xl_D mX1_melt 115 (.iconst 1) 1 116 := ⟨zd zq_36 (by decide +kernel), rfl⟩
theorem iX1_melt_116 : xl_Ca mX1_melt 116 mX0_set 119 := ⟨77, zd zq_97 (by decide +kernel), rfl, lX1_77, Nat.le_of_ble_eq_true rfl, Nat.le_of_ble_eq_true rfl⟩
theorem iX1_melt_119 : xl_D mX1_melt 119 (.aload_n 0) 1 120 := ⟨zd zq_0 (by decide +kernel), rfl⟩
theorem iX1_melt_120 : xl_G mX1_melt 120 1 11 123 := ⟨20, zd zq_100 (by decide +kernel), rfl, fX1_20⟩
theorem iX1_melt_123 : xl_D mX1_melt 123 (.iload 6) 2 125 := ⟨zd zq_125 (by decide +kernel), rfl⟩
theorem iX1_melt_125 : xl_D mX1_melt 125 (.iconst 4) 1 126 := ⟨zd zq_63 (by decide +kernel), rfl⟩
theorem iX1_melt_126 : xl_D mX1_melt 126 (.iload_n 3) 1 127 := ⟨zd zq_25 (by decide +kernel), rfl⟩
theorem iX1_melt_127 : xl_Ca mX1_melt 127 mX0_set 130 := ⟨77, zd zq_97 (by decide +kernel), rfl, lX1_77, Nat.le_of_ble_eq_true rfl, Nat.le_of_ble_eq_true rfl⟩
theorem iX1_melt_130 : xl_D mX1_melt 130 (.aload_n 0) 1 131 := ⟨zd zq_0 (by decide +kernel), rfl⟩
theorem iX1_melt_131 : xl_G mX1_melt 131 1 11 134 := ⟨20, zd zq_100 (by decide +kernel), rfl, fX1_20⟩
theorem iX1_melt_134 : xl_D mX1_melt 134 (.iload 6) 2 136 := ⟨zd zq_125 (by decide +kernel), rfl⟩
theorem iX1_melt_136 : xl_D mX1_melt 136 (.iconst 5) 1 137 := ⟨zd zq_64 (by decide +kernel), rfl⟩
theorem iX1_melt_137 : xl_D mX1_melt 137 (.iload_n 3) 1 138 := ⟨zd zq_25 (by decide +kernel), rfl⟩
theorem iX1_melt_138 : xl_Ca mX1_melt 138 mX0_set 141 := ⟨77, zd zq_97 (by decide +kernel), rfl, lX1_77, Nat.le_of_ble_eq_true rfl, Nat.le_of_ble_eq_true rfl⟩
theorem iX1_melt_141 : xl_D mX1_melt 141 (.aload_n 0) 1 142 := ⟨zd zq_0 (by decide +kernel), rfl⟩
theorem iX1_melt_142 : xl_G mX1_melt 142 1 11 145 := ⟨20, zd zq_100 (by decide +kernel), rfl, fX1_20⟩
theorem iX1_melt_145 : xl_D mX1_melt 145 (.iload 6) 2 147 := ⟨zd zq_125 (by decide +kernel), rfl⟩
theorem iX1_melt_147 : xl_D mX1_melt 147 (.bipush 6) 2 149 := ⟨zd zq_71 (by decide +kernel), rfl⟩
theorem iX1_melt_149 : xl_D mX1_melt 149 (.iconst (-1)) 1 150 := ⟨zd zq_104 (by decide +kernel), rfl⟩
theorem iX1_melt_150 : xl_Ca mX1_melt 150 mX0_set 153 := ⟨77, zd zq_97 (by decide +kernel), rfl, lX1_77, Nat.le_of_ble_eq_true rfl, Nat.le_of_ble_eq_true rfl⟩
theorem iX1_melt_153 : xl_D mX1_melt 153 (.iconst 0) 1 154 := ⟨zd zq_2 (by decide +kernel), rfl⟩
theorem iX1_melt_154 : xl_D mX1_melt 154 (.istore 7) 2 156 := ⟨zd zq_122 (by decide +kernel), rfl⟩
theorem iX1_melt_156 : xl_D mX1_melt 156 (.iload 7) 2 158 := ⟨zd zq_124 (by decide +kernel), rfl⟩
theorem iX1_melt_158 : xl_D mX1_melt 158 (.iload 5) 2 160 := ⟨zd zq_92 (by decide +kernel), rfl⟩
theorem iX1_melt_160 : xl_J mX1_melt 160 (fun o => .if_icmp .ge o) 163 175 := ⟨15, zd zq_14 (by decide +kernel), rfl, rfl⟩
theorem iX1_melt_163 : xl_D mX1_melt 163 (.aload_n 0) 1 164 := ⟨zd zq_0 (by decide +kernel), rfl⟩
theorem iX1_melt_164 : xl_D mX1_melt 164 (.iload 6) 2 166 := ⟨zd zq_125 (by decide +kernel), rfl⟩
theorem iX1_melt_166 : xl_Ca mX1_melt 166 mX1_swallowNext 169 := ⟨151, zd zq_180 (by decide +kernel), rfl, lX1_151, Nat.le_of_ble_eq_true rfl, Nat.le_of_ble_eq_true rfl⟩
theorem iX1_melt_169 : xl_D mX1_melt 169 (.iinc 7 1) 3 172 := ⟨zd zq_177 (by decide +kernel), rfl⟩
theorem iX1_melt_172 : xl_J mX1_melt 172 (fun o => .goto o) 175 156 := ⟨-16, zd zq_181 (by decide +kernel), rfl, rfl⟩
theorem iX1_melt_175 : xl_D mX1_melt 175 (.aload_n 0) 1 176 := ⟨zd zq_0 (by decide +kernel), rfl⟩
theorem iX1_melt_176 : xl_D mX1_melt 176 (.dup) 1 177 := ⟨zd zq_46 (by decide +kernel), rfl⟩
theorem iX1_melt_177 : xl_G mX1_melt 177 1 9 180 := ⟨67, zd zq_115 (by decide +kernel), rfl, fX1_67⟩
theorem iX1_melt_180 : xl_D mX1_melt 180 (.iload 5) 2 182 := ⟨zd zq_92 (by decide +kernel), rfl⟩
theorem iX1_melt_182 : xl_D mX1_melt 182 (.iconst 1) 1 183 := ⟨zd zq_36 (by decide +kernel), rfl⟩
theorem iX1_melt_183 : xl_J mX1_melt 183 (fun o => .if_icmp .le o) 186 190 := ⟨7, zd zq_182 (by decide +kernel), rfl, rfl⟩
theorem iX1_melt_186 : xl_D mX1_melt 186 (.iconst 1) 1 187 := ⟨zd zq_36 (by decide +kernel), rfl⟩
theorem iX1_melt_187 : xl_J mX1_melt 187 (fun o => .goto o) 190 191 := ⟨4, zd zq_139 (by decide +kernel), rfl, rfl⟩
theorem iX1_melt_190 : xl_D mX1_melt 190 (.iconst 0) 1 191 := ⟨zd zq_2 (by decide +kernel), rfl⟩
theorem iX1_melt_191 : xl_D mX1_melt 191 (.iadd) 1 192 := ⟨zd zq_19 (by decide +kernel), rfl⟩
theorem iX1_melt_192 : xl_P mX1_melt 192 1 9 .int 195 := ⟨67, zd zq_88 (by decide +kernel), rfl, wX1_67⟩
theorem iX1_melt_195 : xl_D mX1_melt 195 (.aload_n 0) 1 196 := ⟨zd zq_0 (by decide +kernel), rfl⟩
theorem iX1_melt_196 : xl_D mX1_melt 196 (.iload 6) 2 198 := ⟨zd zq_125 (by decide +kernel), rfl⟩
theorem iX1_melt_198 : xl_Ca mX1_melt 198 mX1_kindOfNew 201 := ⟨154, zd zq_183 (by decide +kernel), rfl, lX1_154, Nat.le_of_ble_eq_true rfl, Nat.le_of_ble_eq_true rfl⟩
theorem iX1_melt_201 : xl_D mX1_melt 201 (.istore 7) 2 203 := ⟨zd zq_122 (by decide +kernel), rfl⟩
theorem iX1_melt_203 : xl_D mX1_melt 203 (.iload 7) 2 205 := ⟨zd zq_124 (by decide +kernel), rfl⟩
theorem iX1_melt_205 : xl_J mX1_melt 205 (fun o => .ifCond .lt o) 208 216 := ⟨11, zd zq_15 (by decide +kernel), rfl, rfl⟩
theorem iX1_melt_208 : xl_D mX1_melt 208 (.aload_n 0) 1 209 := ⟨zd zq_0 (by decide +kernel), rfl⟩
theorem iX1_melt_209 : xl_D mX1_melt 209 (.iload 7) 2 211 := ⟨zd zq_124 (by decide +kernel), rfl⟩
theorem iX1_melt_211 : xl_D mX1_melt 211 (.iload 6) 2 213 := ⟨zd zq_125 (by decide +kernel), rfl⟩
theorem iX1_melt_213 : xl_Ca mX1_melt 213 mX1_announce 216 := ⟨157, zd zq_184 (by decide +kernel), rfl, lX1_157, Nat.le_of_ble_eq_true rfl, Nat.le_of_ble_eq_true rfl⟩
theorem iX1_melt_216 : xl_D mX1_melt 216 (.return_) 1 217 := ⟨zd zq_12 (by decide +kernel), rfl⟩
theorem iX1_placeFor_0 : xl_D mX1_placeFor 0 (.iconst 0) 1 1 := ⟨zd zq_2 (by decide +kernel), rfl⟩
theorem iX1_placeFor_1 : xl_D mX1_placeFor 1 (.istore_n 3) 1 2 := ⟨zd zq_131 (by decide +kernel), rfl⟩
theorem iX1_placeFor_2 : xl_D mX1_placeFor 2 (.iload_n 3) 1 3 := ⟨zd zq_25 (by decide +kernel), rfl⟩
theorem iX1_placeFor_3 : xl_D mX1_placeFor 3 (.aload_n 0) 1 4 := ⟨zd zq_0 (by decide +kernel), rfl⟩
theorem iX1_placeFor_4 : xl_G mX1_placeFor 4 1 11 7 := ⟨20, zd zq_100 (by decide +kernel), rfl, fX1_20⟩
theorem iX1_placeFor_7 : xl_G mX1_placeFor 7 0 3 10 := ⟨85, zd zq_117 (by decide +kernel), rfl, fX1_85⟩
theorem iX1_placeFor_10 : xl_J mX1_placeFor 10 (fun o => .if_icmp .ge o) 13 69 := ⟨59, zd zq_185 (by decide +kernel), rfl, rfl⟩
theorem iX1_placeFor_13 : xl_D mX1_placeFor 13 (.aload_n 0) 1 14 := ⟨zd zq_0 (by decide +kernel), rfl⟩
theorem iX1_placeFor_14 : xl_G mX1_placeFor 14 1 11 17 := ⟨20, zd zq_100 (by decide +kernel), rfl, fX1_20⟩
theorem iX1_placeFor_17 : xl_D mX1_placeFor 17 (.iload_n 3) 1 18 := ⟨zd zq_25 (by decide +kernel), rfl⟩
theorem iX1_placeFor_18 : xl_D mX1_placeFor 18 (.iconst 0) 1 19 := ⟨zd zq_2 (by decide +kernel), rfl⟩
theorem iX1_placeFor_19 : xl_Ca mX1_placeFor 19 mX0_get 22 := ⟨108, zd zq_130 (by decide +kernel), rfl, lX1_108, Nat.le_of_ble_eq_true rfl, Nat.le_of_ble_eq_true rfl⟩
theorem iX1_placeFor_22 : xl_D mX1_placeFor 22 (.istore 4) 2 24 := ⟨zd zq_50 (by decide +kernel), rfl⟩
theorem iX1_placeFor_24 : xl_D mX1_placeFor 24 (.iload 4) 2 26 := ⟨zd zq_51 (by decide +kernel), rfl⟩
theorem iX1_placeFor_26 : xl_D mX1_placeFor 26 (.iload_n 1) 1 27 := ⟨zd zq_3 (by decide +kernel), rfl⟩
theorem iX1_placeFor_27 : xl_J mX1_placeFor 27 (fun o => .if_icmp .ne o) 30 47 := ⟨20, zd zq_186 (by decide +kernel), rfl, rfl⟩
theorem iX1_placeFor_30 : xl_D mX1_placeFor 30 (.aload_n 0) 1 31 := ⟨zd zq_0 (by decide +kernel), rfl⟩
theorem iX1_placeFor_31 : xl_G mX1_placeFor 31 1 11 34 := ⟨20, zd zq_100 (by decide +kernel), rfl, fX1_20⟩
theorem iX1_placeFor_34 : xl_D mX1_placeFor 34 (.iload_n 3) 1 35 := ⟨zd zq_25 (by decide +kernel), rfl⟩
theorem iX1_placeFor_35 : xl_D mX1_placeFor 35 (.iconst 1) 1 36 := ⟨zd zq_36 (by decide +kernel), rfl⟩
theorem iX1_placeFor_36 : xl_Ca mX1_placeFor 36 mX0_get 39 := ⟨108, zd zq_130 (by decide +kernel), rfl, lX1_108, Nat.le_of_ble_eq_true rfl, Nat.le_of_ble_eq_true rfl⟩
theorem iX1_placeFor_39 : xl_D mX1_placeFor 39 (.iload_n 2) 1 40 := ⟨zd zq_6 (by decide +kernel), rfl⟩
theorem iX1_placeFor_40 : xl_J mX1_placeFor 40 (fun o => .if_icmp .le o) 43 47 := ⟨7, zd zq_182 (by decide +kernel), rfl, rfl⟩
theorem iX1_placeFor_43 : xl_D mX1_placeFor 43 (.iconst 1) 1 44 := ⟨zd zq_36 (by decide +kernel), rfl⟩
theorem iX1_placeFor_44 : xl_J mX1_placeFor 44 (fun o => .goto o) 47 48 := ⟨4, zd zq_139 (by decide +kernel), rfl, rfl⟩
theorem iX1_placeFor_47 : xl_D mX1_placeFor 47 (.iconst 0) 1 48 := ⟨zd zq_2 (by decide +kernel), rfl⟩
theorem iX1_placeFor_48 : xl_D mX1_placeFor 48 (.istore 5) 2 50 := ⟨zd zq_91 (by decide +kernel), rfl⟩
theorem iX1_placeFor_50 : xl_D mX1_placeFor 50 (.iload 4) 2 52 := ⟨zd zq_51 (by decide +kernel), rfl⟩
theorem iX1_placeFor_52 : xl_D mX1_placeFor 52 (.iload_n 1) 1 53 := ⟨zd zq_3 (by decide +kernel), rfl⟩
theorem iX1_placeFor_53 : xl_J mX1_placeFor 53 (fun o => .if_icmp .gt o) 56 61 := ⟨8, zd zq_187 (by decide +kernel), rfl, rfl⟩
theorem iX1_placeFor_56 : xl_D mX1_placeFor 56 (.iload 5) 2 58 := ⟨zd zq_92 (by decide +kernel), rfl⟩
theorem iX1_placeFor_58 : xl_J mX1_placeFor 58 (fun o => .ifCond .eq o) 61 63 := ⟨5, zd zq_168 (by decide +kernel), rfl, rfl⟩
theorem iX1_placeFor_61 : xl_D mX1_placeFor 61 (.iload_n 3) 1 62 := ⟨zd zq_25 (by decide +kernel), rfl⟩
theorem iX1_placeFor_62 : xl_D mX1_placeFor 62 (.ireturn) 1 63 := ⟨zd zq_17 (by decide +kernel), rfl⟩
theorem iX1_placeFor_63 : xl_D mX1_placeFor 63 (.iinc 3 1) 3 66 := ⟨zd zq_153 (by decide +kernel), rfl⟩
theorem iX1_placeFor_66 : xl_J mX1_placeFor 66 (fun o => .goto o) 69 2 := ⟨-64, zd zq_188 (by decide +kernel), rfl, rfl⟩
theorem iX1_placeFor_69 : xl_D mX1_placeFor 69 (.aload_n 0) 1 70 := ⟨zd zq_0 (by decide +kernel), rfl⟩
theorem iX1_placeFor_70 : xl_G mX1_placeFor 70 1 11 73 := ⟨20, zd zq_100 (by decide +kernel), rfl, fX1_20⟩
theorem iX1_placeFor_73 : xl_G mX1_placeFor 73 0 3 76 := ⟨85, zd zq_117 (by decide +kernel), rfl, fX1_85⟩
theorem iX1_placeFor_76 : xl_D mX1_placeFor 76 (.ireturn) 1 77 := ⟨zd zq_17 (by decide +kernel), rfl⟩
theorem iX1_swallowNext_0 : xl_D mX1_swallowNext 0 (.iload_n 1) 1 1 := ⟨zd zq_3 (by decide +kernel), rfl⟩
theorem iX1_swallowNext_1 : xl_D mX1_swallowNext 1 (.iconst 1) 1 2 := ⟨zd zq_36 (by decide +kernel), rfl⟩
theorem iX1_swallowNext_2 : xl_D mX1_swallowNext 2 (.iadd) 1 3 := ⟨zd zq_19 (by decide +kernel), rfl⟩
theorem iX1_swallowNext_3 : xl_D mX1_swallowNext 3 (.istore_n 2) 1 4 := ⟨zd zq_41 (by decide +kernel), rfl⟩
theorem iX1_swallowNext_4 : xl_D mX1_swallowNext 4 (.aload_n 0) 1 5 := ⟨zd zq_0 (by decide +kernel), rfl⟩
theorem iX1_swallowNext_5 : xl_G mX1_swallowNext 5 1 11 8 := ⟨20, zd zq_100 (by decide +kernel), rfl, fX1_20⟩
theorem iX1_swallowNext_8 : xl_D mX1_swallowNext 8 (.iload_n 1) 1 9 := ⟨zd zq_3 (by decide +kernel), rfl⟩
theorem iX1_swallowNext_9 : xl_D mX1_swallowNext 9 (.iconst 1) 1 10 := ⟨zd zq_36 (by decide +kernel), rfl⟩
theorem iX1_swallowNext_10 : xl_D mX1_swallowNext 10 (.aload_n 0) 1 11 := ⟨zd zq_0 (by decide +kernel), rfl⟩
theorem iX1_swallowNext_11 : xl_G mX1_swallowNext 11 1 11 14 := ⟨20, zd zq_100 (by decide +kernel), rfl, fX1_20⟩
theorem iX1_swallowNext_14 : xl_D mX1_swallowNext 14 (.iload_n 1) 1 15 := ⟨zd zq_3 (by decide +kernel), rfl⟩
theorem iX1_swallowNext_15 : xl_D mX1_swallowNext 15 (.iconst 1) 1 16 := ⟨zd zq_36 (by decide +kernel), rfl⟩
theorem iX1_swallowNext_16 : xl_Ca mX1_swallowNext 16 mX0_get 19 := ⟨108, zd zq_130 (by decide +kernel), rfl, lX1_108, Nat.le_of_ble_eq_true rfl, Nat.le_of_ble_eq_true rfl⟩
theorem iX1_swallowNext_19 : xl_D mX1_swallowNext 19 (.aload_n 0) 1 20 := ⟨zd zq_0 (by decide +kernel), rfl⟩
theorem iX1_swallowNext_20 : xl_G mX1_swallowNext 20 1 11 23 := ⟨20, zd zq_100 (by decide +kernel), rfl, fX1_20⟩
theorem iX1_swallowNext_23 : xl_D mX1_swallowNext 23 (.iload_n 2) 1 24 := ⟨zd zq_6 (by decide +kernel), rfl⟩
theorem iX1_swallowNext_24 : xl_D mX1_swallowNext 24 (.iconst 1) 1 25 := ⟨zd zq_36 (by decide +kernel), rfl⟩
theorem iX1_swallowNext_25 : xl_Ca mX1_swallowNext 25 mX0_get 28 := ⟨108, zd zq_130 (by decide +kernel), rfl, lX1_108, Nat.le_of_ble_eq_true rfl, Nat.le_of_ble_eq_true rfl⟩
theorem iX1_swallowNext_28 : xl_Cm mX1_swallowNext 28 Lib.Math.min.name Lib.Math.min.code 31 := ⟨131, zd zq_160 (by decide +kernel), rfl, lX1_131, xl_stmin, xl_iMath, xl_comin, Nat.le_of_ble_eq_true rfl, Nat.le_of_ble_eq_true rfl⟩
theorem iX1_swallowNext_31 : xl_Ca mX1_swallowNext 31 mX0_set 34 := ⟨77, zd zq_97 (by decide +kernel), rfl, lX1_77, Nat.le_of_ble_eq_true rfl, Nat.le_of_ble_eq_true rfl⟩
theorem iX1_swallowNext_34 : xl_D mX1_swallowNext 34 (.aload_n 0) 1 35 := ⟨zd zq_0 (by decide +kernel), rfl⟩
theorem iX1_swallowNext_35 : xl_G mX1_swallowNext 35 1 11 38 := ⟨20, zd zq_100 (by decide +kernel), rfl, fX1_20⟩
theorem iX1_swallowNext_38 : xl_D mX1_swallowNext 38 (.iload_n 1) 1 39 := ⟨zd zq_3 (by decide +kernel), rfl⟩
theorem iX1_swallowNext_39 : xl_D mX1_swallowNext 39 (.iconst 2) 1 40 := ⟨zd zq_127 (by decide +kernel), rfl⟩
theorem iX1_swallowNext_40 : xl_D mX1_swallowNext 40 (.aload_n 0) 1 41 := ⟨zd zq_0 (by decide +kernel), rfl⟩
theorem iX1_swallowNext_41 : xl_G mX1_swallowNext 41 1 11 44 := ⟨20, zd zq_100 (by decide +kernel), rfl, fX1_20⟩
theorem iX1_swallowNext_44 : xl_D mX1_swallowNext 44 (.iload_n 1) 1 45 := ⟨zd zq_3 (by decide +kernel), rfl⟩
theorem iX1_swallowNext_45 : xl_D mX1_swallowNext 45 (.iconst 2) 1 46 := ⟨zd zq_127 (by decide +kernel), rfl⟩
theorem iX1_swallowNext_46 : xl_Ca mX1_swallowNext 46 mX0_get 49 := ⟨108, zd zq_130 (by decide +kernel), rfl, lX1_108, Nat.le_of_ble_eq_true rfl, Nat.le_of_ble_eq_true rfl⟩
theorem iX1_swallowNext_49 : xl_D mX1_swallowNext 49 (.aload_n 0) 1 50 := ⟨zd zq_0 (by decide +kernel), rfl⟩
theorem iX1_swallowNext_50 : xl_G mX1_swallowNext 50 1 11 53 := ⟨20, zd zq_100 (by decide +kernel), rfl, fX1_20⟩
theorem iX1_swallowNext_53 : xl_D mX1_swallowNext 53 (.iload_n 2) 1 54 := ⟨zd zq_6 (by decide +kernel), rfl⟩
theorem iX1_swallowNext_54 : xl_D mX1_swallowNext 54 (.iconst 2) 1 55 := ⟨zd zq_127 (by decide +kernel), rfl⟩
theorem iX1_swallowNext_55 : xl_Ca mX1_swallowNext 55 mX0_get 58 := ⟨108, zd zq_130 (by decide +kernel), rfl, lX1_108, Nat.le_of_ble_eq_true rfl, Nat.le_of_ble_eq_true rfl⟩
theorem iX1_swallowNext_58 : xl_Cm mX1_swallowNext 58 Lib.Math.max.name Lib.Math.max.code 61 := ⟨88, zd zq_118 (by decide +kernel), rfl, lX1_88, xl_stmax, xl_iMath, xl_comax, Nat.le_of_ble_eq_true rfl, Nat.le_of_ble_eq_true rfl⟩
theorem iX1_swallowNext_61 : xl_Ca mX1_swallowNext 61 mX0_set 64 := ⟨77, zd zq_97 (by decide +kernel), rfl, lX1_77, Nat.le_of_ble_eq_true rfl, Nat.le_of_ble_eq_true rfl⟩
theorem iX1_swallowNext_64 : xl_D mX1_swallowNext 64 (.aload_n 0) 1 65 := ⟨zd zq_0 (by decide +kernel), rfl⟩
theorem iX1_swallowNext_65 : xl_G mX1_swallowNext 65 1 11 68 := ⟨20, zd zq_100 (by decide +kernel), rfl, fX1_20⟩
theorem iX1_swallowNext_68 : xl_D mX1_swallowNext 68 (.iload_n 1) 1 69 := ⟨zd zq_3 (by decide +kernel), rfl⟩
theorem iX1_swallowNext_69 : xl_D mX1_swallowNext 69 (.iconst 3) 1 70 := ⟨zd zq_123 (by decide +kernel), rfl⟩
theorem iX1_swallowNext_70 : xl_D mX1_swallowNext 70 (.aload_n 0) 1 71 := ⟨zd zq_0 (by decide +kernel), rfl⟩
theorem iX1_swallowNext_71 : xl_G mX1_swallowNext 71 1 11 74 := ⟨20, zd zq_100 (by decide +kernel), rfl, fX1_20⟩
theorem iX1_swallowNext_74 : xl_D mX1_swallowNext 74 (.iload_n 2) 1 75 := ⟨zd zq_6 (by decide +kernel), rfl⟩
theorem iX1_swallowNext_75 : xl_D mX1_swallowNext 75 (.iconst 3) 1 76 := ⟨zd zq_123 (by decide +kernel), rfl⟩
theorem iX1_swallowNext_76 : xl_Ca mX1_swallowNext 76 mX0_get 79 := ⟨108, zd zq_130 (by decide +kernel), rfl, lX1_108, Nat.le_of_ble_eq_true rfl, Nat.le_of_ble_eq_true rfl⟩
theorem iX1_swallowNext_79 : xl_Ca mX1_swallowNext 79 mX0_add 82 := ⟨115, zd zq_135 (by decide +kernel), rfl, lX1_115, Nat.le_of_ble_eq_true rfl, Nat.le_of_ble_eq_true rfl⟩
theorem iX1_swallowNext_82 : xl_D mX1_swallowNext 82 (.aload_n 0) 1 83 := ⟨zd zq_0 (by decide +kernel), rfl⟩
theorem iX1_swallowNext_83 : xl_G mX1_swallowNext 83 1 11 86 := ⟨20, zd zq_100 (by decide +kernel), rfl, fX1_20⟩
theorem iX1_swallowNext_86 : xl_D mX1_swallowNext 86 (.iload_n 1) 1 87 := ⟨zd zq_3 (by decide +kernel), rfl⟩
theorem iX1_swallowNext_87 : xl_D mX1_swallowNext 87 (.iconst 4) 1 88 := ⟨zd zq_63 (by decide +kernel), rfl⟩
theorem iX1_swallowNext_88 : xl_D mX1_swallowNext 88 (.aload_n 0) 1 89 := ⟨zd zq_0 (by decide +kernel), rfl⟩
theorem iX1_swallowNext_89 : xl_G mX1_swallowNext 89 1 11 92 := ⟨20, zd zq_100 (by decide +kernel), rfl, fX1_20⟩
theorem iX1_swallowNext_92 : xl_D mX1_swallowNext 92 (.iload_n 2) 1 93 := ⟨zd zq_6 (by decide +kernel), rfl⟩
theorem iX1_swallowNext_93 : xl_D mX1_swallowNext 93 (.iconst 4) 1 94 := ⟨zd zq_63 (by decide +kernel), rfl⟩
theorem iX1_swallowNext_94 : xl_Ca mX1_swallowNext 94 mX0_get 97 := ⟨108, zd zq_130 (by decide +kernel), rfl, lX1_108, Nat.le_of_ble_eq_true rfl, Nat.le_of_ble_eq_true rfl⟩
theorem iX1_swallowNext_97 : xl_Ca mX1_swallowNext 97 mX0_add 100 := ⟨115, zd zq_135 (by decide +kernel), rfl, lX1_115, Nat.le_of_ble_eq_true rfl, Nat.le_of_ble_eq_true rfl⟩
theorem iX1_swallowNext_100 : xl_D mX1_swallowNext 100 (.aload_n 0) 1 101 := ⟨zd zq_0 (by decide +kernel), rfl⟩
theorem iX1_swallowNext_101 : xl_G mX1_swallowNext 101 1 11 104 := ⟨20, zd zq_100 (by decide +kernel), rfl, fX1_20⟩
theorem iX1_swallowNext_104 : xl_D mX1_swallowNext 104 (.iload_n 1) 1 105 := ⟨zd zq_3 (by decide +kernel), rfl⟩
theorem iX1_swallowNext_105 : xl_D mX1_swallowNext 105 (.iconst 5) 1 106 := ⟨zd zq_64 (by decide +kernel), rfl⟩
theorem iX1_swallowNext_106 : xl_D mX1_swallowNext 106 (.aload_n 0) 1 107 := ⟨zd zq_0 (by decide +kernel), rfl⟩
theorem iX1_swallowNext_107 : xl_G mX1_swallowNext 107 1 11 110 := ⟨20, zd zq_100 (by decide +kernel), rfl, fX1_20⟩
theorem iX1_swallowNext_110 : xl_D mX1_swallowNext 110 (.iload_n 1) 1 111 := ⟨zd zq_3 (by decide +kernel), rfl⟩
theorem iX1_swallowNext_111 : xl_D mX1_swallowNext 111 (.iconst 5) 1 112 := ⟨zd zq_64 (by decide +kernel), rfl⟩
theorem iX1_swallowNext_112 : xl_Ca mX1_swallowNext 112 mX0_get 115 := ⟨108, zd zq_130 (by decide +kernel), rfl, lX1_108, Nat.le_of_ble_eq_true rfl, Nat.le_of_ble_eq_true rfl⟩
theorem iX1_swallowNext_115 : xl_D mX1_swallowNext 115 (.aload_n 0) 1 116 := ⟨zd zq_0 (by decide +kernel), rfl⟩
theorem iX1_swallowNext_116 : xl_G mX1_swallowNext 116 1 11 119 := ⟨20, zd zq_100 (by decide +kernel), rfl, fX1_20⟩
theorem iX1_swallowNext_119 : xl_D mX1_swallowNext 119 (.iload_n 2) 1 120 := ⟨zd zq_6 (by decide +kernel), rfl⟩
theorem iX1_swallowNext_120 : xl_D mX1_swallowNext 120 (.iconst 5) 1 121 := ⟨zd zq_64 (by decide +kernel), rfl⟩
theorem iX1_swallowNext_121 : xl_Ca mX1_swallowNext 121 mX0_get 124 := ⟨108, zd zq_130 (by decide +kernel), rfl, lX1_108, Nat.le_of_ble_eq_true rfl, Nat.le_of_ble_eq_true rfl⟩
theorem iX1_swallowNext_124 : xl_Cm mX1_swallowNext 124 Lib.Math.max.name Lib.Math.max.code 127 := ⟨88, zd zq_118 (by decide +kernel), rfl, lX1_88, xl_stmax, xl_iMath, xl_comax, Nat.le_of_ble_eq_true rfl, Nat.le_of_ble_eq_true rfl⟩
theorem iX1_swallowNext_127 : xl_Ca mX1_swallowNext 127 mX0_set 130 := ⟨77, zd zq_97 (by decide +kernel), rfl, lX1_77, Nat.le_of_ble_eq_true rfl, Nat.le_of_ble_eq_true rfl⟩
theorem iX1_swallowNext_130 : xl_D mX1_swallowNext 130 (.aload_n 0) 1 131 := ⟨zd zq_0 (by decide +kernel), rfl⟩
theorem iX1_swallowNext_131 : xl_G mX1_swallowNext 131 1 11 134 := ⟨20, zd zq_100 (by decide +kernel), rfl, fX1_20⟩
theorem iX1_swallowNext_134 : xl_D mX1_swallowNext 134 (.iload_n 2) 1 135 := ⟨zd zq_6 (by decide +kernel), rfl⟩
theorem iX1_swallowNext_135 : xl_Ca mX1_swallowNext 135 mX0_drop 138 := ⟨160, zd zq_189 (by decide +kernel), rfl, lX1_160, Nat.le_of_ble_eq_true rfl, Nat.le_of_ble_eq_true rfl⟩
theorem iX1_swallowNext_138 : xl_D mX1_swallowNext 138 (.return_) 1 139 := ⟨zd zq_12 (by decide +kernel), rfl⟩
theorem iX1_kindOfNew_0 : xl_D mX1_kindOfNew 0 (.aload_n 0) 1 1 := ⟨zd zq_0 (by decide +kernel), rfl⟩
theorem iX1_kindOfNew_1 : xl_D mX1_kindOfNew 1 (.iload_n 1) 1 2 := ⟨zd zq_3 (by decide +kernel), rfl⟩
theorem iX1_kindOfNew_2 : xl_D mX1_kindOfNew 2 (.aload_n 0) 1 3 := ⟨zd zq_0 (by decide +kernel), rfl⟩
theorem iX1_kindOfNew_3 : xl_G mX1_kindOfNew 3 1 3 6 := ⟨49, zd zq_109 (by decide +kernel), rfl, fX1_49⟩
theorem iX1_kindOfNew_6 : xl_Ca mX1_kindOfNew 6 mX1_isRipe 9 := ⟨127, zd zq_150 (by decide +kernel), rfl, lX1_127, Nat.le_of_ble_eq_true rfl, Nat.le_of_ble_eq_true rfl⟩
theorem iX1_kindOfNew_9 : xl_J mX1_kindOfNew 9 (fun o => .ifCond .eq o) 12 14 := ⟨5, zd zq_168 (by decide +kernel), rfl, rfl⟩
theorem iX1_kindOfNew_12 : xl_D mX1_kindOfNew 12 (.iconst 2) 1 13 := ⟨zd zq_127 (by decide +kernel), rfl⟩
theorem iX1_kindOfNew_13 : xl_D mX1_kindOfNew 13 (.ireturn) 1 14 := ⟨zd zq_17 (by decide +kernel), rfl⟩
theorem iX1_kindOfNew_14 : xl_D mX1_kindOfNew 14 (.aload_n 0) 1 15 := ⟨zd zq_0 (by decide +kernel), rfl⟩
theorem iX1_kindOfNew_15 : xl_G mX1_kindOfNew 15 1 2 18 := ⟨46, zd zq_108 (by decide +kernel), rfl, fX1_46⟩
theorem iX1_kindOfNew_18 : xl_J mX1_kindOfNew 18 (fun o => .ifCond .le o) 21 42 := ⟨24, zd zq_190 (by decide +kernel), rfl, rfl⟩
theorem iX1_kindOfNew_21 : xl_D mX1_kindOfNew 21 (.aload_n 0) 1 22 := ⟨zd zq_0 (by decide +kernel), rfl⟩
theorem iX1_kindOfNew_22 : xl_G mX1_kindOfNew 22 1 11 25 := ⟨20, zd zq_100 (by decide +kernel), rfl, fX1_20⟩
theorem iX1_kindOfNew_25 : xl_D mX1_kindOfNew 25 (.iload_n 1) 1 26 := ⟨zd zq_3 (by decide +kernel), rfl⟩
theorem iX1_kindOfNew_26 : xl_D mX1_kindOfNew 26 (.iconst 3) 1 27 := ⟨zd zq_123 (by decide +kernel), rfl⟩
theorem iX1_kindOfNew_27 : xl_Ca mX1_kindOfNew 27 mX0_get 30 := ⟨108, zd zq_130 (by decide +kernel), rfl, lX1_108, Nat.le_of_ble_eq_true rfl, Nat.le_of_ble_eq_true rfl⟩
theorem iX1_kindOfNew_30 : xl_D mX1_kindOfNew 30 (.aload_n 0) 1 31 := ⟨zd zq_0 (by decide +kernel), rfl⟩
theorem iX1_kindOfNew_31 : xl_G mX1_kindOfNew 31 1 2 34 := ⟨46, zd zq_108 (by decide +kernel), rfl, fX1_46⟩
theorem iX1_kindOfNew_34 : xl_D mX1_kindOfNew 34 (.irem) 1 35 := ⟨zd zq_191 (by decide +kernel), rfl⟩
theorem iX1_kindOfNew_35 : xl_J mX1_kindOfNew 35 (fun o => .ifCond .ne o) 38 42 := ⟨7, zd zq_192 (by decide +kernel), rfl, rfl⟩
theorem iX1_kindOfNew_38 : xl_D mX1_kindOfNew 38 (.iconst 1) 1 39 := ⟨zd zq_36 (by decide +kernel), rfl⟩
theorem iX1_kindOfNew_39 : xl_J mX1_kindOfNew 39 (fun o => .goto o) 42 43 := ⟨4, zd zq_139 (by decide +kernel), rfl, rfl⟩
theorem iX1_kindOfNew_42 : xl_D mX1_kindOfNew 42 (.iconst 0) 1 43 := ⟨zd zq_2 (by decide +kernel), rfl⟩
theorem iX1_kindOfNew_43 : xl_D mX1_kindOfNew 43 (.istore_n 2) 1 44 := ⟨zd zq_41 (by decide +kernel), rfl⟩
theorem iX1_kindOfNew_44 : xl_D mX1_kindOfNew 44 (.iload_n 2) 1 45 := ⟨zd zq_6 (by decide +kernel), rfl⟩
theorem iX1_kindOfNew_45 : xl_J mX1_kindOfNew 45 (fun o => .ifCond .eq o) 48 52 := ⟨7, zd zq_193 (by decide +kernel), rfl, rfl⟩
theorem iX1_kindOfNew_48 : xl_D mX1_kindOfNew 48 (.iconst 0) 1 49 := ⟨zd zq_2 (by decide +kernel), rfl⟩
theorem iX1_kindOfNew_49 : xl_J mX1_kindOfNew 49 (fun o => .goto o) 52 53 := ⟨4, zd zq_139 (by decide +kernel), rfl, rfl⟩
theorem iX1_kindOfNew_52 : xl_D mX1_kindOfNew 52 (.iconst (-1)) 1 53 := ⟨zd zq_104 (by decide +kernel), rfl⟩
theorem iX1_kindOfNew_53 : xl_D mX1_kindOfNew 53 (.ireturn) 1 54 := ⟨zd zq_17 (by decide +kernel), rfl⟩
theorem iX1_rise_0 : xl_D mX1_rise 0 (.aload_n 0) 1 1 := ⟨zd zq_0 (by decide +kernel), rfl⟩
theorem iX1_rise_1 : xl_G mX1_rise 1 1 3 4 := ⟨49, zd zq_109 (by decide +kernel), rfl, fX1_49⟩
theorem iX1_rise_4 : xl_D mX1_rise 4 (.istore_n 1) 1 5 := ⟨zd zq_194 (by decide +kernel), rfl⟩
theorem iX1_rise_5 : xl_D mX1_rise 5 (.aload_n 0) 1 6 := ⟨zd zq_0 (by decide +kernel), rfl⟩
theorem iX1_rise_6 : xl_D mX1_rise 6 (.iconst (-1)) 1 7 := ⟨zd zq_104 (by decide +kernel), rfl⟩
theorem iX1_rise_7 : xl_Ca mX1_rise 7 mX1_leastMark 10 := ⟨163, zd zq_195 (by decide +kernel), rfl, lX1_163, Nat.le_of_ble_eq_true rfl, Nat.le_of_ble_eq_true rfl⟩
theorem iX1_rise_10 : xl_D mX1_rise 10 (.istore_n 2) 1 11 := ⟨zd zq_41 (by decide +kernel), rfl⟩
theorem iX1_rise_11 : xl_D mX1_rise 11 (.iload_n 2) 1 12 := ⟨zd zq_6 (by decide +kernel), rfl⟩
theorem iX1_rise_12 : xl_D mX1_rise 12 (.iload_n 1) 1 13 := ⟨zd zq_3 (by decide +kernel), rfl⟩
theorem iX1_rise_13 : xl_J mX1_rise 13 (fun o => .if_icmp .gt o) 16 17 := ⟨4, zd zq_196 (by decide +kernel), rfl, rfl⟩
theorem iX1_rise_16 : xl_D mX1_rise 16 (.return_) 1 17 := ⟨zd zq_12 (by decide +kernel), rfl⟩
theorem iX1_rise_17 : xl_D mX1_rise 17 (.aload_n 0) 1 18 := ⟨zd zq_0 (by decide +kernel), rfl⟩
theorem iX1_rise_18 : xl_D mX1_rise 18 (.iload_n 2) 1 19 := ⟨zd zq_6 (by decide +kernel), rfl⟩
theorem iX1_rise_19 : xl_P mX1_rise 19 1 3 .int 22 := ⟨49, zd zq_82 (by decide +kernel), rfl, wX1_49⟩
theorem iX1_rise_22 : xl_D mX1_rise 22 (.iconst (-1)) 1 23 := ⟨zd zq_104 (by decide +kernel), rfl⟩
theorem iX1_rise_23 : xl_D mX1_rise 23 (.istore_n 3) 1 24 := ⟨zd zq_131 (by decide +kernel), rfl⟩
theorem iX1_rise_24 : xl_D mX1_rise 24 (.aload_n 0) 1 25 := ⟨zd zq_0 (by decide +kernel), rfl⟩
theorem iX1_rise_25 : xl_G mX1_rise 25 1 11 28 := ⟨20, zd zq_100 (by decide +kernel), rfl, fX1_20⟩
theorem iX1_rise_28 : xl_G mX1_rise 28 0 3 31 := ⟨85, zd zq_117 (by decide +kernel), rfl, fX1_85⟩
theorem iX1_rise_31 : xl_D mX1_rise 31 (.istore 4) 2 33 := ⟨zd zq_50 (by decide +kernel), rfl⟩
theorem iX1_rise_33 : xl_D mX1_rise 33 (.iload 4) 2 35 := ⟨zd zq_51 (by decide +kernel), rfl⟩
theorem iX1_rise_35 : xl_J mX1_rise 35 (fun o => .ifCond .le o) 38 107 := ⟨72, zd zq_197 (by decide +kernel), rfl, rfl⟩
theorem iX1_rise_38 : xl_D mX1_rise 38 (.aload_n 0) 1 39 := ⟨zd zq_0 (by decide +kernel), rfl⟩
theorem iX1_rise_39 : xl_D mX1_rise 39 (.iload_n 3) 1 40 := ⟨zd zq_25 (by decide +kernel), rfl⟩
theorem iX1_rise_40 : xl_D mX1_rise 40 (.iload_n 1) 1 41 := ⟨zd zq_3 (by decide +kernel), rfl⟩
theorem iX1_rise_41 : xl_Ca mX1_rise 41 mX1_dueBehind 44 := ⟨166, zd zq_198 (by decide +kernel), rfl, lX1_166, Nat.le_of_ble_eq_true rfl, Nat.le_of_ble_eq_true rfl⟩
theorem iX1_rise_44 : xl_D mX1_rise 44 (.istore 5) 2 46 := ⟨zd zq_91 (by decide +kernel), rfl⟩
theorem iX1_rise_46 : xl_D mX1_rise 46 (.iload 5) 2 48 := ⟨zd zq_92 (by decide +kernel), rfl⟩
theorem iX1_rise_48 : xl_J mX1_rise 48 (fun o => .ifCond .ge o) 51 52 := ⟨4, zd zq_199 (by decide +kernel), rfl, rfl⟩
theorem iX1_rise_51 : xl_D mX1_rise 51 (.return_) 1 52 := ⟨zd zq_12 (by decide +kernel), rfl⟩
theorem iX1_rise_52 : xl_D mX1_rise 52 (.aload_n 0) 1 53 := ⟨zd zq_0 (by decide +kernel), rfl⟩
theorem iX1_rise_53 : xl_D mX1_rise 53 (.iload 5) 2 55 := ⟨zd zq_92 (by decide +kernel), rfl⟩
theorem iX1_rise_55 : xl_Ca mX1_rise 55 mX1_turnOf 58 := ⟨169, zd zq_200 (by decide +kernel), rfl, lX1_169, Nat.le_of_ble_eq_true rfl, Nat.le_of_ble_eq_true rfl⟩
theorem iX1_rise_58 : xl_D mX1_rise 58 (.istore_n 3) 1 59 := ⟨zd zq_131 (by decide +kernel), rfl⟩
theorem iX1_rise_59 : xl_D mX1_rise 59 (.aload_n 0) 1 60 := ⟨zd zq_0 (by decide +kernel), rfl⟩
theorem iX1_rise_60 : xl_D mX1_rise 60 (.iload 5) 2 62 := ⟨zd zq_92 (by decide +kernel), rfl⟩
theorem iX1_rise_62 : xl_D mX1_rise 62 (.iload_n 1) 1 63 := ⟨zd zq_3 (by decide +kernel), rfl⟩
theorem iX1_rise_63 : xl_Ca mX1_rise 63 mX1_isRipe 66 := ⟨127, zd zq_150 (by decide +kernel), rfl, lX1_127, Nat.le_of_ble_eq_true rfl, Nat.le_of_ble_eq_true rfl⟩
theorem iX1_rise_66 : xl_J mX1_rise 66 (fun o => .ifCond .ne o) 69 82 := ⟨16, zd zq_201 (by decide +kernel), rfl, rfl⟩
theorem iX1_rise_69 : xl_D mX1_rise 69 (.aload_n 0) 1 70 := ⟨zd zq_0 (by decide +kernel), rfl⟩
theorem iX1_rise_70 : xl_D mX1_rise 70 (.iload 5) 2 72 := ⟨zd zq_92 (by decide +kernel), rfl⟩
theorem iX1_rise_72 : xl_Ca mX1_rise 72 mX1_takeBack 75 := ⟨148, zd zq_176 (by decide +kernel), rfl, lX1_148, Nat.le_of_ble_eq_true rfl, Nat.le_of_ble_eq_true rfl⟩
theorem iX1_rise_75 : xl_D mX1_rise 75 (.aload_n 0) 1 76 := ⟨zd zq_0 (by decide +kernel), rfl⟩
theorem iX1_rise_76 : xl_D mX1_rise 76 (.iconst 1) 1 77 := ⟨zd zq_36 (by decide +kernel), rfl⟩
theorem iX1_rise_77 : xl_D mX1_rise 77 (.iload 5) 2 79 := ⟨zd zq_92 (by decide +kernel), rfl⟩
theorem iX1_rise_79 : xl_Ca mX1_rise 79 mX1_announce 82 := ⟨157, zd zq_184 (by decide +kernel), rfl, lX1_157, Nat.le_of_ble_eq_true rfl, Nat.le_of_ble_eq_true rfl⟩
theorem iX1_rise_82 : xl_D mX1_rise 82 (.aload_n 0) 1 83 := ⟨zd zq_0 (by decide +kernel), rfl⟩
theorem iX1_rise_83 : xl_D mX1_rise 83 (.iload 5) 2 85 := ⟨zd zq_92 (by decide +kernel), rfl⟩
theorem iX1_rise_85 : xl_D mX1_rise 85 (.aload_n 0) 1 86 := ⟨zd zq_0 (by decide +kernel), rfl⟩
theorem iX1_rise_86 : xl_G mX1_rise 86 1 3 89 := ⟨49, zd zq_109 (by decide +kernel), rfl, fX1_49⟩
theorem iX1_rise_89 : xl_Ca mX1_rise 89 mX1_isOver 92 := ⟨172, zd zq_202 (by decide +kernel), rfl, lX1_172, Nat.le_of_ble_eq_true rfl, Nat.le_of_ble_eq_true rfl⟩
theorem iX1_rise_92 : xl_J mX1_rise 92 (fun o => .ifCond .eq o) 95 101 := ⟨9, zd zq_203 (by decide +kernel), rfl, rfl⟩
theorem iX1_rise_95 : xl_D mX1_rise 95 (.aload_n 0) 1 96 := ⟨zd zq_0 (by decide +kernel), rfl⟩
theorem iX1_rise_96 : xl_D mX1_rise 96 (.iload 5) 2 98 := ⟨zd zq_92 (by decide +kernel), rfl⟩
theorem iX1_rise_98 : xl_Ca mX1_rise 98 mX1_finish 101 := ⟨175, zd zq_204 (by decide +kernel), rfl, lX1_175, Nat.le_of_ble_eq_true rfl, Nat.le_of_ble_eq_true rfl⟩
theorem iX1_rise_101 : xl_D mX1_rise 101 (.iinc 4 (-1)) 3 104 := ⟨zd zq_205 (by decide +kernel), rfl⟩
theorem iX1_rise_104 : xl_J mX1_rise 104 (fun o => .goto o) 107 33 := ⟨-71, zd zq_206 (by decide +kernel), rfl, rfl⟩
theorem iX1_rise_107 : xl_D mX1_rise 107 (.return_) 1 108 := ⟨zd zq_12 (by decide +kernel), rfl⟩
theorem iX1_turnOf_0 : xl_D mX1_turnOf 0 (.aload_n 0) 1 1 := ⟨zd zq_0 (by decide +kernel), rfl⟩
theorem iX1_turnOf_1 : xl_G mX1_turnOf 1 1 11 4 := ⟨20, zd zq_100 (by decide +kernel), rfl, fX1_20⟩
theorem iX1_turnOf_4 : xl_D mX1_turnOf 4 (.iload_n 1) 1 5 := ⟨zd zq_3 (by decide +kernel), rfl⟩
theorem iX1_turnOf_5 : xl_D mX1_turnOf 5 (.iconst 2) 1 6 := ⟨zd zq_127 (by decide +kernel), rfl⟩
theorem iX1_turnOf_6 : xl_Ca mX1_turnOf 6 mX0_get 9 := ⟨108, zd zq_130 (by decide +kernel), rfl, lX1_108, Nat.le_of_ble_eq_true rfl, Nat.le_of_ble_eq_true rfl⟩
theorem iX1_turnOf_9 : xl_D mX1_turnOf 9 (.bipush 6) 2 11 := ⟨zd zq_71 (by decide +kernel), rfl⟩
theorem iX1_turnOf_11 : xl_D mX1_turnOf 11 (.imul) 1 12 := ⟨zd zq_10 (by decide +kernel), rfl⟩
theorem iX1_turnOf_12 : xl_D mX1_turnOf 12 (.aload_n 0) 1 13 := ⟨zd zq_0 (by decide +kernel), rfl⟩
theorem iX1_turnOf_13 : xl_G mX1_turnOf 13 1 11 16 := ⟨20, zd zq_100 (by decide +kernel), rfl, fX1_20⟩
theorem iX1_turnOf_16 : xl_D mX1_turnOf 16 (.iload_n 1) 1 17 := ⟨zd zq_3 (by decide +kernel), rfl⟩
theorem iX1_turnOf_17 : xl_D mX1_turnOf 17 (.iconst 0) 1 18 := ⟨zd zq_2 (by decide +kernel), rfl⟩
theorem iX1_turnOf_18 : xl_Ca mX1_turnOf 18 mX0_get 21 := ⟨108, zd zq_130 (by decide +kernel), rfl, lX1_108, Nat.le_of_ble_eq_true rfl, Nat.le_of_ble_eq_true rfl⟩
theorem iX1_turnOf_21 : xl_D mX1_turnOf 21 (.iadd) 1 22 := ⟨zd zq_19 (by decide +kernel), rfl⟩
theorem iX1_turnOf_22 : xl_D mX1_turnOf 22 (.ireturn) 1 23 := ⟨zd zq_17 (by decide +kernel), rfl⟩
theorem iX1_dueBehind_0 : xl_D mX1_dueBehind 0 (.iconst (-1)) 1 1 := ⟨zd zq_104 (by decide +kernel), rfl⟩
theorem iX1_dueBehind_1 : xl_D mX1_dueBehind 1 (.istore_n 3) 1 2 := ⟨zd zq_131 (by decide +kernel), rfl⟩
theorem iX1_dueBehind_2 : xl_D mX1_dueBehind 2 (.iconst 0) 1 3 := ⟨zd zq_2 (by decide +kernel), rfl⟩
theorem iX1_dueBehind_3 : xl_D mX1_dueBehind 3 (.istore 4) 2 5 := ⟨zd zq_50 (by decide +kernel), rfl⟩
theorem iX1_dueBehind_5 : xl_D mX1_dueBehind 5 (.iconst 0) 1 6 := ⟨zd zq_2 (by decide +kernel), rfl⟩
theorem iX1_dueBehind_6 : xl_D mX1_dueBehind 6 (.istore 5) 2 8 := ⟨zd zq_91 (by decide +kernel), rfl⟩
theorem iX1_dueBehind_8 : xl_D mX1_dueBehind 8 (.iload 5) 2 10 := ⟨zd zq_92 (by decide +kernel), rfl⟩
theorem iX1_dueBehind_10 : xl_D mX1_dueBehind 10 (.aload_n 0) 1 11 := ⟨zd zq_0 (by decide +kernel), rfl⟩
theorem iX1_dueBehind_11 : xl_G mX1_dueBehind 11 1 11 14 := ⟨20, zd zq_100 (by decide +kernel), rfl, fX1_20⟩
theorem iX1_dueBehind_14 : xl_G mX1_dueBehind 14 0 3 17 := ⟨85, zd zq_117 (by decide +kernel), rfl, fX1_85⟩
theorem iX1_dueBehind_17 : xl_J mX1_dueBehind 17 (fun o => .if_icmp .ge o) 20 97 := ⟨80, zd zq_207 (by decide +kernel), rfl, rfl⟩
theorem iX1_dueBehind_20 : xl_D mX1_dueBehind 20 (.aload_n 0) 1 21 := ⟨zd zq_0 (by decide +kernel), rfl⟩
theorem iX1_dueBehind_21 : xl_D mX1_dueBehind 21 (.iload 5) 2 23 := ⟨zd zq_92 (by decide +kernel), rfl⟩
theorem iX1_dueBehind_23 : xl_D mX1_dueBehind 23 (.aload_n 0) 1 24 := ⟨zd zq_0 (by decide +kernel), rfl⟩
theorem iX1_dueBehind_24 : xl_G mX1_dueBehind 24 1 3 27 := ⟨49, zd zq_109 (by decide +kernel), rfl, fX1_49⟩
theorem iX1_dueBehind_27 : xl_Ca mX1_dueBehind 27 mX1_isRipe 30 := ⟨127, zd zq_150 (by decide +kernel), rfl, lX1_127, Nat.le_of_ble_eq_true rfl, Nat.le_of_ble_eq_true rfl⟩
theorem iX1_dueBehind_30 : xl_J mX1_dueBehind 30 (fun o => .ifCond .eq o) 33 91 := ⟨61, zd zq_208 (by decide +kernel), rfl, rfl⟩
theorem iX1_dueBehind_33 : xl_D mX1_dueBehind 33 (.aload_n 0) 1 34 := ⟨zd zq_0 (by decide +kernel), rfl⟩
theorem iX1_dueBehind_34 : xl_D mX1_dueBehind 34 (.iload 5) 2 36 := ⟨zd zq_92 (by decide +kernel), rfl⟩
theorem iX1_dueBehind_36 : xl_D mX1_dueBehind 36 (.iload_n 2) 1 37 := ⟨zd zq_6 (by decide +kernel), rfl⟩
theorem iX1_dueBehind_37 : xl_Ca mX1_dueBehind 37 mX1_isRipe 40 := ⟨127, zd zq_150 (by decide +kernel), rfl, lX1_127, Nat.le_of_ble_eq_true rfl, Nat.le_of_ble_eq_true rfl⟩
theorem iX1_dueBehind_40 : xl_J mX1_dueBehind 40 (fun o => .ifCond .eq o) 43 59 := ⟨19, zd zq_209 (by decide +kernel), rfl, rfl⟩
theorem iX1_dueBehind_43 : xl_D mX1_dueBehind 43 (.aload_n 0) 1 44 := ⟨zd zq_0 (by decide +kernel), rfl⟩
theorem iX1_dueBehind_44 : xl_D mX1_dueBehind 44 (.iload 5) 2 46 := ⟨zd zq_92 (by decide +kernel), rfl⟩
theorem iX1_dueBehind_46 : xl_D mX1_dueBehind 46 (.aload_n 0) 1 47 := ⟨zd zq_0 (by decide +kernel), rfl⟩
theorem iX1_dueBehind_47 : xl_G mX1_dueBehind 47 1 3 50 := ⟨49, zd zq_109 (by decide +kernel), rfl, fX1_49⟩
theorem iX1_dueBehind_50 : xl_Ca mX1_dueBehind 50 mX1_isOver 53 := ⟨172, zd zq_202 (by decide +kernel), rfl, lX1_172, Nat.le_of_ble_eq_true rfl, Nat.le_of_ble_eq_true rfl⟩
theorem iX1_dueBehind_53 : xl_J mX1_dueBehind 53 (fun o => .ifCond .ne o) 56 59 := ⟨6, zd zq_210 (by decide +kernel), rfl, rfl⟩
theorem iX1_dueBehind_56 : xl_J mX1_dueBehind 56 (fun o => .goto o) 59 91 := ⟨35, zd zq_211 (by decide +kernel), rfl, rfl⟩
theorem iX1_dueBehind_59 : xl_D mX1_dueBehind 59 (.aload_n 0) 1 60 := ⟨zd zq_0 (by decide +kernel), rfl⟩
theorem iX1_dueBehind_60 : xl_D mX1_dueBehind 60 (.iload 5) 2 62 := ⟨zd zq_92 (by decide +kernel), rfl⟩
theorem iX1_dueBehind_62 : xl_Ca mX1_dueBehind 62 mX1_turnOf 65 := ⟨169, zd zq_200 (by decide +kernel), rfl, lX1_169, Nat.le_of_ble_eq_true rfl, Nat.le_of_ble_eq_true rfl⟩
theorem iX1_dueBehind_65 : xl_D mX1_dueBehind 65 (.istore 6) 2 67 := ⟨zd zq_119 (by decide +kernel), rfl⟩
theorem iX1_dueBehind_67 : xl_D mX1_dueBehind 67 (.iload 6) 2 69 := ⟨zd zq_125 (by decide +kernel), rfl⟩
theorem iX1_dueBehind_69 : xl_D mX1_dueBehind 69 (.iload_n 1) 1 70 := ⟨zd zq_3 (by decide +kernel), rfl⟩
theorem iX1_dueBehind_70 : xl_J mX1_dueBehind 70 (fun o => .if_icmp .le o) 73 91 := ⟨21, zd zq_212 (by decide +kernel), rfl, rfl⟩
theorem iX1_dueBehind_73 : xl_D mX1_dueBehind 73 (.iload_n 3) 1 74 := ⟨zd zq_25 (by decide +kernel), rfl⟩
theorem iX1_dueBehind_74 : xl_J mX1_dueBehind 74 (fun o => .ifCond .lt o) 77 84 := ⟨10, zd zq_213 (by decide +kernel), rfl, rfl⟩
theorem iX1_dueBehind_77 : xl_D mX1_dueBehind 77 (.iload 6) 2 79 := ⟨zd zq_125 (by decide +kernel), rfl⟩
theorem iX1_dueBehind_79 : xl_D mX1_dueBehind 79 (.iload 4) 2 81 := ⟨zd zq_51 (by decide +kernel), rfl⟩
theorem iX1_dueBehind_81 : xl_J mX1_dueBehind 81 (fun o => .if_icmp .ge o) 84 91 := ⟨10, zd zq_35 (by decide +kernel), rfl, rfl⟩
theorem iX1_dueBehind_84 : xl_D mX1_dueBehind 84 (.iload 5) 2 86 := ⟨zd zq_92 (by decide +kernel), rfl⟩
theorem iX1_dueBehind_86 : xl_D mX1_dueBehind 86 (.istore_n 3) 1 87 := ⟨zd zq_131 (by decide +kernel), rfl⟩
theorem iX1_dueBehind_87 : xl_D mX1_dueBehind 87 (.iload 6) 2 89 := ⟨zd zq_125 (by decide +kernel), rfl⟩
theorem iX1_dueBehind_89 : xl_D mX1_dueBehind 89 (.istore 4) 2 91 := ⟨zd zq_50 (by decide +kernel), rfl⟩
theorem iX1_dueBehind_91 : xl_D mX1_dueBehind 91 (.iinc 5 1) 3 94 := ⟨zd zq_98 (by decide +kernel), rfl⟩
theorem iX1_dueBehind_94 : xl_J mX1_dueBehind 94 (fun o => .goto o) 97 8 := ⟨-86, zd zq_214 (by decide +kernel), rfl, rfl⟩
theorem iX1_dueBehind_97 : xl_D mX1_dueBehind 97 (.iload_n 3) 1 98 := ⟨zd zq_25 (by decide +kernel), rfl⟩
theorem iX1_dueBehind_98 : xl_D mX1_dueBehind 98 (.ireturn) 1 99 := ⟨zd zq_17 (by decide +kernel), rfl⟩
theorem iX1_finish_0 : xl_D mX1_finish 0 (.aload_n 0) 1 1 := ⟨zd zq_0 (by decide +kernel), rfl⟩
theorem iX1_finish_1 : xl_G mX1_finish 1 1 5 4 := ⟨55, zd zq_111 (by decide +kernel), rfl, fX1_55⟩
theorem iX1_finish_4 : xl_D mX1_finish 4 (.bipush 40) 2 6 := ⟨zd zq_73 (by decide +kernel), rfl⟩
theorem iX1_finish_6 : xl_D mX1_finish 6 (.irem) 1 7 := ⟨zd zq_191 (by decide +kernel), rfl⟩
theorem iX1_finish_7 : xl_D mX1_finish 7 (.istore_n 2) 1 8 := ⟨zd zq_41 (by decide +kernel), rfl⟩
theorem iX1_finish_8 : xl_D mX1_finish 8 (.aload_n 0) 1 9 := ⟨zd zq_0 (by decide +kernel), rfl⟩
theorem iX1_finish_9 : xl_G mX1_finish 9 1 13 12 := ⟨26, zd zq_33 (by decide +kernel), rfl, fX1_26⟩
theorem iX1_finish_12 : xl_D mX1_finish 12 (.iload_n 2) 1 13 := ⟨zd zq_6 (by decide +kernel), rfl⟩
theorem iX1_finish_13 : xl_Ca mX1_finish 13 mX0_reach 16 := ⟨178, zd zq_215 (by decide +kernel), rfl, lX1_178, Nat.le_of_ble_eq_true rfl, Nat.le_of_ble_eq_true rfl⟩
theorem iX1_finish_16 : xl_D mX1_finish 16 (.aload_n 0) 1 17 := ⟨zd zq_0 (by decide +kernel), rfl⟩
theorem iX1_finish_17 : xl_G mX1_finish 17 1 13 20 := ⟨26, zd zq_33 (by decide +kernel), rfl, fX1_26⟩
theorem iX1_finish_20 : xl_D mX1_finish 20 (.iload_n 2) 1 21 := ⟨zd zq_6 (by decide +kernel), rfl⟩
theorem iX1_finish_21 : xl_D mX1_finish 21 (.aload_n 0) 1 22 := ⟨zd zq_0 (by decide +kernel), rfl⟩
theorem iX1_finish_22 : xl_G mX1_finish 22 1 11 25 := ⟨20, zd zq_100 (by decide +kernel), rfl, fX1_20⟩
theorem iX1_finish_25 : xl_D mX1_finish 25 (.iload_n 1) 1 26 := ⟨zd zq_3 (by decide +kernel), rfl⟩
theorem iX1_finish_26 : xl_Ca mX1_finish 26 mX0_copyRow 29 := ⟨181, zd zq_216 (by decide +kernel), rfl, lX1_181, Nat.le_of_ble_eq_true rfl, Nat.le_of_ble_eq_true rfl⟩
theorem iX1_finish_29 : xl_D mX1_finish 29 (.aload_n 0) 1 30 := ⟨zd zq_0 (by decide +kernel), rfl⟩
theorem iX1_finish_30 : xl_G mX1_finish 30 1 11 33 := ⟨20, zd zq_100 (by decide +kernel), rfl, fX1_20⟩
theorem iX1_finish_33 : xl_D mX1_finish 33 (.iload_n 1) 1 34 := ⟨zd zq_3 (by decide +kernel), rfl⟩
theorem iX1_finish_34 : xl_D mX1_finish 34 (.iconst 0) 1 35 := ⟨zd zq_2 (by decide +kernel), rfl⟩
theorem iX1_finish_35 : xl_Ca mX1_finish 35 mX0_get 38 := ⟨108, zd zq_130 (by decide +kernel), rfl, lX1_108, Nat.le_of_ble_eq_true rfl, Nat.le_of_ble_eq_true rfl⟩
theorem iX1_finish_38 : xl_D mX1_finish 38 (.istore_n 3) 1 39 := ⟨zd zq_131 (by decide +kernel), rfl⟩
theorem iX1_finish_39 : xl_D mX1_finish 39 (.aload_n 0) 1 40 := ⟨zd zq_0 (by decide +kernel), rfl⟩
theorem iX1_finish_40 : xl_G mX1_finish 40 1 11 43 := ⟨20, zd zq_100 (by decide +kernel), rfl, fX1_20⟩
theorem iX1_finish_43 : xl_D mX1_finish 43 (.iload_n 1) 1 44 := ⟨zd zq_3 (by decide +kernel), rfl⟩
theorem iX1_finish_44 : xl_D mX1_finish 44 (.iconst 2) 1 45 := ⟨zd zq_127 (by decide +kernel), rfl⟩
theorem iX1_finish_45 : xl_Ca mX1_finish 45 mX0_get 48 := ⟨108, zd zq_130 (by decide +kernel), rfl, lX1_108, Nat.le_of_ble_eq_true rfl, Nat.le_of_ble_eq_true rfl⟩
theorem iX1_finish_48 : xl_D mX1_finish 48 (.aload_n 0) 1 49 := ⟨zd zq_0 (by decide +kernel), rfl⟩
theorem iX1_finish_49 : xl_G mX1_finish 49 1 11 52 := ⟨20, zd zq_100 (by decide +kernel), rfl, fX1_20⟩
theorem iX1_finish_52 : xl_D mX1_finish 52 (.iload_n 1) 1 53 := ⟨zd zq_3 (by decide +kernel), rfl⟩
theorem iX1_finish_53 : xl_D mX1_finish 53 (.iconst 1) 1 54 := ⟨zd zq_36 (by decide +kernel), rfl⟩
theorem iX1_finish_54 : xl_Ca mX1_finish 54 mX0_get 57 := ⟨108, zd zq_130 (by decide +kernel), rfl, lX1_108, Nat.le_of_ble_eq_true rfl, Nat.le_of_ble_eq_true rfl⟩
theorem iX1_finish_57 : xl_D mX1_finish 57 (.isub) 1 58 := ⟨zd zq_39 (by decide +kernel), rfl⟩
theorem iX1_finish_58 : xl_D mX1_finish 58 (.istore 4) 2 60 := ⟨zd zq_50 (by decide +kernel), rfl⟩
theorem iX1_finish_60 : xl_D mX1_finish 60 (.aload_n 0) 1 61 := ⟨zd zq_0 (by decide +kernel), rfl⟩
theorem iX1_finish_61 : xl_G mX1_finish 61 1 15 64 := ⟨32, zd zq_103 (by decide +kernel), rfl, fX1_32⟩
theorem iX1_finish_64 : xl_D mX1_finish 64 (.iload_n 3) 1 65 := ⟨zd zq_25 (by decide +kernel), rfl⟩
theorem iX1_finish_65 : xl_D mX1_finish 65 (.iconst 4) 1 66 := ⟨zd zq_63 (by decide +kernel), rfl⟩
theorem iX1_finish_66 : xl_D mX1_finish 66 (.iconst 1) 1 67 := ⟨zd zq_36 (by decide +kernel), rfl⟩
theorem iX1_finish_67 : xl_Ca mX1_finish 67 mX0_add 70 := ⟨115, zd zq_135 (by decide +kernel), rfl, lX1_115, Nat.le_of_ble_eq_true rfl, Nat.le_of_ble_eq_true rfl⟩
theorem iX1_finish_70 : xl_D mX1_finish 70 (.aload_n 0) 1 71 := ⟨zd zq_0 (by decide +kernel), rfl⟩
theorem iX1_finish_71 : xl_G mX1_finish 71 1 15 74 := ⟨32, zd zq_103 (by decide +kernel), rfl, fX1_32⟩
theorem iX1_finish_74 : xl_D mX1_finish 74 (.iload_n 3) 1 75 := ⟨zd zq_25 (by decide +kernel), rfl⟩
theorem iX1_finish_75 : xl_D mX1_finish 75 (.iconst 5) 1 76 := ⟨zd zq_64 (by decide +kernel), rfl⟩
theorem iX1_finish_76 : xl_D mX1_finish 76 (.aload_n 0) 1 77 := ⟨zd zq_0 (by decide +kernel), rfl⟩
theorem iX1_finish_77 : xl_G mX1_finish 77 1 11 80 := ⟨20, zd zq_100 (by decide +kernel), rfl, fX1_20⟩
theorem iX1_finish_80 : xl_D mX1_finish 80 (.iload_n 1) 1 81 := ⟨zd zq_3 (by decide +kernel), rfl⟩
theorem iX1_finish_81 : xl_D mX1_finish 81 (.iconst 3) 1 82 := ⟨zd zq_123 (by decide +kernel), rfl⟩
theorem iX1_finish_82 : xl_Ca mX1_finish 82 mX0_get 85 := ⟨108, zd zq_130 (by decide +kernel), rfl, lX1_108, Nat.le_of_ble_eq_true rfl, Nat.le_of_ble_eq_true rfl⟩
theorem iX1_finish_85 : xl_Ca mX1_finish 85 mX0_add 88 := ⟨115, zd zq_135 (by decide +kernel), rfl, lX1_115, Nat.le_of_ble_eq_true rfl, Nat.le_of_ble_eq_true rfl⟩
theorem iX1_finish_88 : xl_D mX1_finish 88 (.aload_n 0) 1 89 := ⟨zd zq_0 (by decide +kernel), rfl⟩
theorem iX1_finish_89 : xl_G mX1_finish 89 1 15 92 := ⟨32, zd zq_103 (by decide +kernel), rfl, fX1_32⟩
theorem iX1_finish_92 : xl_D mX1_finish 92 (.iload_n 3) 1 93 := ⟨zd zq_25 (by decide +kernel), rfl⟩
theorem iX1_finish_93 : xl_D mX1_finish 93 (.bipush 6) 2 95 := ⟨zd zq_71 (by decide +kernel), rfl⟩
theorem iX1_finish_95 : xl_D mX1_finish 95 (.aload_n 0) 1 96 := ⟨zd zq_0 (by decide +kernel), rfl⟩
theorem iX1_finish_96 : xl_G mX1_finish 96 1 11 99 := ⟨20, zd zq_100 (by decide +kernel), rfl, fX1_20⟩
theorem iX1_finish_99 : xl_D mX1_finish 99 (.iload_n 1) 1 100 := ⟨zd zq_3 (by decide +kernel), rfl⟩
theorem iX1_finish_100 : xl_D mX1_finish 100 (.iconst 4) 1 101 := ⟨zd zq_63 (by decide +kernel), rfl⟩
theorem iX1_finish_101 : xl_Ca mX1_finish 101 mX0_get 104 := ⟨108, zd zq_130 (by decide +kernel), rfl, lX1_108, Nat.le_of_ble_eq_true rfl, Nat.le_of_ble_eq_true rfl⟩
theorem iX1_finish_104 : xl_Ca mX1_finish 104 mX0_add 107 := ⟨115, zd zq_135 (by decide +kernel), rfl, lX1_115, Nat.le_of_ble_eq_true rfl, Nat.le_of_ble_eq_true rfl⟩
theorem iX1_finish_107 : xl_D mX1_finish 107 (.aload_n 0) 1 108 := ⟨zd zq_0 (by decide +kernel), rfl⟩
theorem iX1_finish_108 : xl_G mX1_finish 108 1 15 111 := ⟨32, zd zq_103 (by decide +kernel), rfl, fX1_32⟩
theorem iX1_finish_111 : xl_D mX1_finish 111 (.iload_n 3) 1 112 := ⟨zd zq_25 (by decide +kernel), rfl⟩
theorem iX1_finish_112 : xl_D mX1_finish 112 (.bipush 7) 2 114 := ⟨zd zq_68 (by decide +kernel), rfl⟩
theorem iX1_finish_114 : xl_D mX1_finish 114 (.aload_n 0) 1 115 := ⟨zd zq_0 (by decide +kernel), rfl⟩
theorem iX1_finish_115 : xl_G mX1_finish 115 1 15 118 := ⟨32, zd zq_103 (by decide +kernel), rfl, fX1_32⟩
theorem iX1_finish_118 : xl_D mX1_finish 118 (.iload_n 3) 1 119 := ⟨zd zq_25 (by decide +kernel), rfl⟩
theorem iX1_finish_119 : xl_D mX1_finish 119 (.bipush 7) 2 121 := ⟨zd zq_68 (by decide +kernel), rfl⟩
theorem iX1_finish_121 : xl_Ca mX1_finish 121 mX0_get 124 := ⟨108, zd zq_130 (by decide +kernel), rfl, lX1_108, Nat.le_of_ble_eq_true rfl, Nat.le_of_ble_eq_true rfl⟩
theorem iX1_finish_124 : xl_D mX1_finish 124 (.iload 4) 2 126 := ⟨zd zq_51 (by decide +kernel), rfl⟩
theorem iX1_finish_126 : xl_Cm mX1_finish 126 Lib.Math.max.name Lib.Math.max.code 129 := ⟨88, zd zq_118 (by decide +kernel), rfl, lX1_88, xl_stmax, xl_iMath, xl_comax, Nat.le_of_ble_eq_true rfl, Nat.le_of_ble_eq_true rfl⟩
theorem iX1_finish_129 : xl_Ca mX1_finish 129 mX0_set 132 := ⟨77, zd zq_97 (by decide +kernel), rfl, lX1_77, Nat.le_of_ble_eq_true rfl, Nat.le_of_ble_eq_true rfl⟩
theorem iX1_finish_132 : xl_D mX1_finish 132 (.aload_n 0) 1 133 := ⟨zd zq_0 (by decide +kernel), rfl⟩
theorem iX1_finish_133 : xl_D mX1_finish 133 (.dup) 1 134 := ⟨zd zq_46 (by decide +kernel), rfl⟩
theorem iX1_finish_134 : xl_G mX1_finish 134 1 5 137 := ⟨55, zd zq_111 (by decide +kernel), rfl, fX1_55⟩
theorem iX1_finish_137 : xl_D mX1_finish 137 (.iconst 1) 1 138 := ⟨zd zq_36 (by decide +kernel), rfl⟩
theorem iX1_finish_138 : xl_D mX1_finish 138 (.iadd) 1 139 := ⟨zd zq_19 (by decide +kernel), rfl⟩
theorem iX1_finish_139 : xl_P mX1_finish 139 1 5 .int 142 := ⟨55, zd zq_84 (by decide +kernel), rfl, wX1_55⟩
theorem iX1_finish_142 : xl_D mX1_finish 142 (.aload_n 0) 1 143 := ⟨zd zq_0 (by decide +kernel), rfl⟩
theorem iX1_finish_143 : xl_G mX1_finish 143 1 11 146 := ⟨20, zd zq_100 (by decide +kernel), rfl, fX1_20⟩
theorem iX1_finish_146 : xl_D mX1_finish 146 (.iload_n 1) 1 147 := ⟨zd zq_3 (by decide +kernel), rfl⟩
theorem iX1_finish_147 : xl_Ca mX1_finish 147 mX0_drop 150 := ⟨160, zd zq_189 (by decide +kernel), rfl, lX1_160, Nat.le_of_ble_eq_true rfl, Nat.le_of_ble_eq_true rfl⟩
theorem iX1_finish_150 : xl_D mX1_finish 150 (.return_) 1 151 := ⟨zd zq_12 (by decide +kernel), rfl⟩
theorem iX1_takeBack_0 : xl_D mX1_takeBack 0 (.aload_n 0) 1 1 := ⟨zd zq_0 (by decide +kernel), rfl⟩
theorem iX1_takeBack_1 : xl_D mX1_takeBack 1 (.iload_n 1) 1 2 := ⟨zd zq_3 (by decide +kernel), rfl⟩
theorem iX1_takeBack_2 : xl_Ca mX1_takeBack 2 mX1_hasResult 5 := ⟨185, zd zq_217 (by decide +kernel), rfl, lX1_185, Nat.le_of_ble_eq_true rfl, Nat.le_of_ble_eq_true rfl⟩
theorem iX1_takeBack_5 : xl_J mX1_takeBack 5 (fun o => .ifCond .eq o) 8 25 := ⟨20, zd zq_218 (by decide +kernel), rfl, rfl⟩
theorem iX1_takeBack_8 : xl_D mX1_takeBack 8 (.aload_n 0) 1 9 := ⟨zd zq_0 (by decide +kernel), rfl⟩
theorem iX1_takeBack_9 : xl_D mX1_takeBack 9 (.iconst 3) 1 10 := ⟨zd zq_123 (by decide +kernel), rfl⟩
theorem iX1_takeBack_10 : xl_D mX1_takeBack 10 (.iload_n 1) 1 11 := ⟨zd zq_3 (by decide +kernel), rfl⟩
theorem iX1_takeBack_11 : xl_Ca mX1_takeBack 11 mX1_send 14 := ⟨188, zd zq_219 (by decide +kernel), rfl, lX1_188, Nat.le_of_ble_eq_true rfl, Nat.le_of_ble_eq_true rfl⟩
theorem iX1_takeBack_14 : xl_D mX1_takeBack 14 (.aload_n 0) 1 15 := ⟨zd zq_0 (by decide +kernel), rfl⟩
theorem iX1_takeBack_15 : xl_G mX1_takeBack 15 1 11 18 := ⟨20, zd zq_100 (by decide +kernel), rfl, fX1_20⟩
theorem iX1_takeBack_18 : xl_D mX1_takeBack 18 (.iload_n 1) 1 19 := ⟨zd zq_3 (by decide +kernel), rfl⟩
theorem iX1_takeBack_19 : xl_D mX1_takeBack 19 (.bipush 6) 2 21 := ⟨zd zq_71 (by decide +kernel), rfl⟩
theorem iX1_takeBack_21 : xl_D mX1_takeBack 21 (.iconst (-1)) 1 22 := ⟨zd zq_104 (by decide +kernel), rfl⟩
theorem iX1_takeBack_22 : xl_Ca mX1_takeBack 22 mX0_set 25 := ⟨77, zd zq_97 (by decide +kernel), rfl, lX1_77, Nat.le_of_ble_eq_true rfl, Nat.le_of_ble_eq_true rfl⟩
theorem iX1_takeBack_25 : xl_D mX1_takeBack 25 (.return_) 1 26 := ⟨zd zq_12 (by decide +kernel), rfl⟩
theorem iX1_announce_0 : xl_D mX1_announce 0 (.aload_n 0) 1 1 := ⟨zd zq_0 (by decide +kernel), rfl⟩
theorem iX1_announce_1 : xl_D mX1_announce 1 (.iload_n 1) 1 2 := ⟨zd zq_3 (by decide +kernel), rfl⟩
theorem iX1_announce_2 : xl_D mX1_announce 2 (.iload_n 2) 1 3 := ⟨zd zq_6 (by decide +kernel), rfl⟩
theorem iX1_announce_3 : xl_Ca mX1_announce 3 mX1_send 6 := ⟨188, zd zq_219 (by decide +kernel), rfl, lX1_188, Nat.le_of_ble_eq_true rfl, Nat.le_of_ble_eq_true rfl⟩
theorem iX1_announce_6 : xl_D mX1_announce 6 (.aload_n 0) 1 7 := ⟨zd zq_0 (by decide +kernel), rfl⟩
theorem iX1_announce_7 : xl_G mX1_announce 7 1 11 10 := ⟨20, zd zq_100 (by decide +kernel), rfl, fX1_20⟩
theorem iX1_announce_10 : xl_D mX1_announce 10 (.iload_n 2) 1 11 := ⟨zd zq_6 (by decide +kernel), rfl⟩
theorem iX1_announce_11 : xl_D mX1_announce 11 (.bipush 6) 2 13 := ⟨zd zq_71 (by decide +kernel), rfl⟩
theorem iX1_announce_13 : xl_D mX1_announce 13 (.iload_n 1) 1 14 := ⟨zd zq_3 (by decide +kernel), rfl⟩
theorem iX1_announce_14 : xl_Ca mX1_announce 14 mX0_set 17 := ⟨77, zd zq_97 (by decide +kernel), rfl, lX1_77, Nat.le_of_ble_eq_true rfl, Nat.le_of_ble_eq_true rfl⟩
theorem iX1_announce_17 : xl_D mX1_announce 17 (.return_) 1 18 := ⟨zd zq_12 (by decide +kernel), rfl⟩
theorem iX1_send_0 : xl_D mX1_send 0 (.aload_n 0) 1 1 := ⟨zd zq_0 (by decide +kernel), rfl⟩
theorem iX1_send_1 : xl_G mX1_send 1 1 4 4 := ⟨52, zd zq_110 (by decide +kernel), rfl, fX1_52⟩
theorem iX1_send_4 : xl_D mX1_send 4 (.bipush 60) 2 6 := ⟨zd zq_70 (by decide +kernel), rfl⟩
theorem iX1_send_6 : xl_D mX1_send 6 (.irem) 1 7 := ⟨zd zq_191 (by decide +kernel), rfl⟩
theorem iX1_send_7 : xl_D mX1_send 7 (.istore_n 3) 1 8 := ⟨zd zq_131 (by decide +kernel), rfl⟩
theorem iX1_send_8 : xl_D mX1_send 8 (.aload_n 0) 1 9 := ⟨zd zq_0 (by decide +kernel), rfl⟩
theorem iX1_send_9 : xl_G mX1_send 9 1 12 12 := ⟨23, zd zq_101 (by decide +kernel), rfl, fX1_23⟩
theorem iX1_send_12 : xl_D mX1_send 12 (.iload_n 3) 1 13 := ⟨zd zq_25 (by decide +kernel), rfl⟩
theorem iX1_send_13 : xl_Ca mX1_send 13 mX0_reach 16 := ⟨178, zd zq_215 (by decide +kernel), rfl, lX1_178, Nat.le_of_ble_eq_true rfl, Nat.le_of_ble_eq_true rfl⟩
theorem iX1_send_16 : xl_D mX1_send 16 (.aload_n 0) 1 17 := ⟨zd zq_0 (by decide +kernel), rfl⟩
theorem iX1_send_17 : xl_G mX1_send 17 1 11 20 := ⟨20, zd zq_100 (by decide +kernel), rfl, fX1_20⟩
theorem iX1_send_20 : xl_D mX1_send 20 (.iload_n 2) 1 21 := ⟨zd zq_6 (by decide +kernel), rfl⟩
theorem iX1_send_21 : xl_D mX1_send 21 (.iconst 0) 1 22 := ⟨zd zq_2 (by decide +kernel), rfl⟩
theorem iX1_send_22 : xl_Ca mX1_send 22 mX0_get 25 := ⟨108, zd zq_130 (by decide +kernel), rfl, lX1_108, Nat.le_of_ble_eq_true rfl, Nat.le_of_ble_eq_true rfl⟩
theorem iX1_send_25 : xl_D mX1_send 25 (.istore 4) 2 27 := ⟨zd zq_50 (by decide +kernel), rfl⟩
theorem iX1_send_27 : xl_D mX1_send 27 (.aload_n 0) 1 28 := ⟨zd zq_0 (by decide +kernel), rfl⟩
theorem iX1_send_28 : xl_G mX1_send 28 1 12 31 := ⟨23, zd zq_101 (by decide +kernel), rfl, fX1_23⟩
theorem iX1_send_31 : xl_D mX1_send 31 (.iload_n 3) 1 32 := ⟨zd zq_25 (by decide +kernel), rfl⟩
theorem iX1_send_32 : xl_D mX1_send 32 (.iconst 0) 1 33 := ⟨zd zq_2 (by decide +kernel), rfl⟩
theorem iX1_send_33 : xl_D mX1_send 33 (.iload_n 1) 1 34 := ⟨zd zq_3 (by decide +kernel), rfl⟩
theorem iX1_send_34 : xl_Ca mX1_send 34 mX0_set 37 := ⟨77, zd zq_97 (by decide +kernel), rfl, lX1_77, Nat.le_of_ble_eq_true rfl, Nat.le_of_ble_eq_true rfl⟩
theorem iX1_send_37 : xl_D mX1_send 37 (.aload_n 0) 1 38 := ⟨zd zq_0 (by decide +kernel), rfl⟩
theorem iX1_send_38 : xl_G mX1_send 38 1 12 41 := ⟨23, zd zq_101 (by decide +kernel), rfl, fX1_23⟩
theorem iX1_send_41 : xl_D mX1_send 41 (.iload_n 3) 1 42 := ⟨zd zq_25 (by decide +kernel), rfl⟩
theorem iX1_send_42 : xl_D mX1_send 42 (.iconst 1) 1 43 := ⟨zd zq_36 (by decide +kernel), rfl⟩
theorem iX1_send_43 : xl_D mX1_send 43 (.iload 4) 2 45 := ⟨zd zq_51 (by decide +kernel), rfl⟩
theorem iX1_send_45 : xl_Ca mX1_send 45 mX0_set 48 := ⟨77, zd zq_97 (by decide +kernel), rfl, lX1_77, Nat.le_of_ble_eq_true rfl, Nat.le_of_ble_eq_true rfl⟩
theorem iX1_send_48 : xl_D mX1_send 48 (.aload_n 0) 1 49 := ⟨zd zq_0 (by decide +kernel), rfl⟩
theorem iX1_send_49 : xl_G mX1_send 49 1 12 52 := ⟨23, zd zq_101 (by decide +kernel), rfl, fX1_23⟩
theorem iX1_send_52 : xl_D mX1_send 52 (.iload_n 3) 1 53 := ⟨zd zq_25 (by decide +kernel), rfl⟩
theorem iX1_send_53 : xl_D mX1_send 53 (.iconst 2) 1 54 := ⟨zd zq_127 (by decide +kernel), rfl⟩
theorem iX1_send_54 : xl_D mX1_send 54 (.aload_n 0) 1 55 := ⟨zd zq_0 (by decide +kernel), rfl⟩
theorem iX1_send_55 : xl_G mX1_send 55 1 11 58 := ⟨20, zd zq_100 (by decide +kernel), rfl, fX1_20⟩
theorem iX1_send_58 : xl_D mX1_send 58 (.iload_n 2) 1 59 := ⟨zd zq_6 (by decide +kernel), rfl⟩
theorem iX1_send_59 : xl_D mX1_send 59 (.iconst 1) 1 60 := ⟨zd zq_36 (by decide +kernel), rfl⟩
theorem iX1_send_60 : xl_Ca mX1_send 60 mX0_get 63 := ⟨108, zd zq_130 (by decide +kernel), rfl, lX1_108, Nat.le_of_ble_eq_true rfl, Nat.le_of_ble_eq_true rfl⟩
theorem iX1_send_63 : xl_Ca mX1_send 63 mX0_set 66 := ⟨77, zd zq_97 (by decide +kernel), rfl, lX1_77, Nat.le_of_ble_eq_true rfl, Nat.le_of_ble_eq_true rfl⟩
theorem iX1_send_66 : xl_D mX1_send 66 (.aload_n 0) 1 67 := ⟨zd zq_0 (by decide +kernel), rfl⟩
theorem iX1_send_67 : xl_G mX1_send 67 1 12 70 := ⟨23, zd zq_101 (by decide +kernel), rfl, fX1_23⟩
theorem iX1_send_70 : xl_D mX1_send 70 (.iload_n 3) 1 71 := ⟨zd zq_25 (by decide +kernel), rfl⟩
theorem iX1_send_71 : xl_D mX1_send 71 (.iconst 3) 1 72 := ⟨zd zq_123 (by decide +kernel), rfl⟩
theorem iX1_send_72 : xl_D mX1_send 72 (.aload_n 0) 1 73 := ⟨zd zq_0 (by decide +kernel), rfl⟩
theorem iX1_send_73 : xl_G mX1_send 73 1 11 76 := ⟨20, zd zq_100 (by decide +kernel), rfl, fX1_20⟩
theorem iX1_send_76 : xl_D mX1_send 76 (.iload_n 2) 1 77 := ⟨zd zq_6 (by decide +kernel), rfl⟩
theorem iX1_send_77 : xl_D mX1_send 77 (.iconst 2) 1 78 := ⟨zd zq_127 (by decide +kernel), rfl⟩
theorem iX1_send_78 : xl_Ca mX1_send 78 mX0_get 81 := ⟨108, zd zq_130 (by decide +kernel), rfl, lX1_108, Nat.le_of_ble_eq_true rfl, Nat.le_of_ble_eq_true rfl⟩
theorem iX1_send_81 : xl_Ca mX1_send 81 mX0_set 84 := ⟨77, zd zq_97 (by decide +kernel), rfl, lX1_77, Nat.le_of_ble_eq_true rfl, Nat.le_of_ble_eq_true rfl⟩
theorem iX1_send_84 : xl_D mX1_send 84 (.aload_n 0) 1 85 := ⟨zd zq_0 (by decide +kernel), rfl⟩
theorem iX1_send_85 : xl_G mX1_send 85 1 12 88 := ⟨23, zd zq_101 (by decide +kernel), rfl, fX1_23⟩
theorem iX1_send_88 : xl_D mX1_send 88 (.iload_n 3) 1 89 := ⟨zd zq_25 (by decide +kernel), rfl⟩
theorem iX1_send_89 : xl_D mX1_send 89 (.iconst 4) 1 90 := ⟨zd zq_63 (by decide +kernel), rfl⟩
theorem iX1_send_90 : xl_D mX1_send 90 (.aload_n 0) 1 91 := ⟨zd zq_0 (by decide +kernel), rfl⟩
theorem iX1_send_91 : xl_G mX1_send 91 1 11 94 := ⟨20, zd zq_100 (by decide +kernel), rfl, fX1_20⟩
theorem iX1_send_94 : xl_D mX1_send 94 (.iload_n 2) 1 95 := ⟨zd zq_6 (by decide +kernel), rfl⟩
theorem iX1_send_95 : xl_D mX1_send 95 (.iconst 3) 1 96 := ⟨zd zq_123 (by decide +kernel), rfl⟩
theorem iX1_send_96 : xl_Ca mX1_send 96 mX0_get 99 := ⟨108, zd zq_130 (by decide +kernel), rfl, lX1_108, Nat.le_of_ble_eq_true rfl, Nat.le_of_ble_eq_true rfl⟩
theorem iX1_send_99 : xl_Ca mX1_send 99 mX0_set 102 := ⟨77, zd zq_97 (by decide +kernel), rfl, lX1_77, Nat.le_of_ble_eq_true rfl, Nat.le_of_ble_eq_true rfl⟩
theorem iX1_send_102 : xl_D mX1_send 102 (.aload_n 0) 1 103 := ⟨zd zq_0 (by decide +kernel), rfl⟩
theorem iX1_send_103 : xl_G mX1_send 103 1 12 106 := ⟨23, zd zq_101 (by decide +kernel), rfl, fX1_23⟩
theorem iX1_send_106 : xl_D mX1_send 106 (.iload_n 3) 1 107 := ⟨zd zq_25 (by decide +kernel), rfl⟩
theorem iX1_send_107 : xl_D mX1_send 107 (.iconst 5) 1 108 := ⟨zd zq_64 (by decide +kernel), rfl⟩
theorem iX1_send_108 : xl_D mX1_send 108 (.aload_n 0) 1 109 := ⟨zd zq_0 (by decide +kernel), rfl⟩
theorem iX1_send_109 : xl_G mX1_send 109 1 11 112 := ⟨20, zd zq_100 (by decide +kernel), rfl, fX1_20⟩
theorem iX1_send_112 : xl_D mX1_send 112 (.iload_n 2) 1 113 := ⟨zd zq_6 (by decide +kernel), rfl⟩
theorem iX1_send_113 : xl_D mX1_send 113 (.iconst 4) 1 114 := ⟨zd zq_63 (by decide +kernel), rfl⟩
theorem iX1_send_114 : xl_Ca mX1_send 114 mX0_get 117 := ⟨108, zd zq_130 (by decide +kernel), rfl, lX1_108, Nat.le_of_ble_eq_true rfl, Nat.le_of_ble_eq_true rfl⟩
theorem iX1_send_117 : xl_Ca mX1_send 117 mX0_set 120 := ⟨77, zd zq_97 (by decide +kernel), rfl, lX1_77, Nat.le_of_ble_eq_true rfl, Nat.le_of_ble_eq_true rfl⟩
theorem iX1_send_120 : xl_D mX1_send 120 (.aload_n 0) 1 121 := ⟨zd zq_0 (by decide +kernel), rfl⟩
theorem iX1_send_121 : xl_G mX1_send 121 1 15 124 := ⟨32, zd zq_103 (by decide +kernel), rfl, fX1_32⟩
theorem iX1_send_124 : xl_D mX1_send 124 (.iload 4) 2 126 := ⟨zd zq_51 (by decide +kernel), rfl⟩
theorem iX1_send_126 : xl_D mX1_send 126 (.iload_n 1) 1 127 := ⟨zd zq_3 (by decide +kernel), rfl⟩
theorem iX1_send_127 : xl_D mX1_send 127 (.iconst 1) 1 128 := ⟨zd zq_36 (by decide +kernel), rfl⟩
theorem iX1_send_128 : xl_Ca mX1_send 128 mX0_add 131 := ⟨115, zd zq_135 (by decide +kernel), rfl, lX1_115, Nat.le_of_ble_eq_true rfl, Nat.le_of_ble_eq_true rfl⟩
theorem iX1_send_131 : xl_D mX1_send 131 (.aload_n 0) 1 132 := ⟨zd zq_0 (by decide +kernel), rfl⟩
theorem iX1_send_132 : xl_D mX1_send 132 (.dup) 1 133 := ⟨zd zq_46 (by decide +kernel), rfl⟩
theorem iX1_send_133 : xl_G mX1_send 133 1 4 136 := ⟨52, zd zq_110 (by decide +kernel), rfl, fX1_52⟩
theorem iX1_send_136 : xl_D mX1_send 136 (.iconst 1) 1 137 := ⟨zd zq_36 (by decide +kernel), rfl⟩
theorem iX1_send_137 : xl_D mX1_send 137 (.iadd) 1 138 := ⟨zd zq_19 (by decide +kernel), rfl⟩
theorem iX1_send_138 : xl_P mX1_send 138 1 4 .int 141 := ⟨52, zd zq_83 (by decide +kernel), rfl, wX1_52⟩
theorem iX1_send_141 : xl_D mX1_send 141 (.return_) 1 142 := ⟨zd zq_12 (by decide +kernel), rfl⟩
end
-- 25.W
section
/-! ===== World: ten numbers (0 gap, 1 lateness, 2 early, 3 progress, 4 sent, 5 closed, 6 taken, 7 late, 8 dropped, 9 melted), six tables (0 sources, 1 sessions, 2 messages, 3 finals, 4 inputs, 5 keys) ===== -/
abbrev WS : Type := (Nat → Int) × (Nat → TS)
abbrev KW : Type := PS → WS → Prop
def rmT : Nat → Int := fun t => (xl_n [4, 161, 60, 40, 160, 6] t).getD 0
def wdT : Nat → Int := fun t => (xl_n [5, 7, 6, 7, 7, 8] t).getD 0
def encW (w : WS) : XH := xO 1 [xi (w.1 0), xi (w.1 1), xi (w.1 2), xi (w.1 3), xi (w.1 4), xi (w.1 5), xi (w.1 6), xi (w.1 7), xi (w.1 8), xi (w.1 9), .ref 1, .ref 3, .ref 5, .ref 7, .ref 9, .ref 11] :: (encT (rmT 0) (wdT 0) (w.2 0) ++ (encT (rmT 1) (wdT 1) (w.2 1) ++ (encT (rmT 2) (wdT 2) (w.2 2) ++ (encT (rmT 3) (wdT 3) (w.2 3) ++ (encT (rmT 4) (wdT 4) (w.2 4) ++ (encT (rmT 5) (wdT 5) (w.2 5)))))))
def bdW (w : WS) : Prop := (∀ k, xB (w.1 k)) ∧ ∀ t, xB (w.2 t).1 ∧ ∀ k, xB ((w.2 t).2 k)
def tixW : Nat → Option Nat := fun r => match xl_n [none, some 0, none, some 1, none, some 2, none, some 3, none, some 4, none, some 5] r with
  | some (some t) => some t
  | _ => none
def wFd (w : WS) (k : Nat) (v : Int) : WS := (fun j => bif Nat.beq j k then v else w.1 j, w.2)
def setT (w : WS) (t : Nat) (b : TS) : WS := (w.1, fun j => bif Nat.beq j t then b else w.2 j)
theorem setT_self (w : WS) (t : Nat) : setT w t (w.2 t) = w := by
  refine Prod.ext rfl (funext fun j => ?_)
  show (bif Nat.beq j t then w.2 t else w.2 j) = w.2 j
  cases e : Nat.beq j t with
  | false => rfl
  | true => rw [nB e]; rfl
def fgW : FG WS := fun s r ci k => bif Nat.beq r 0 then (bif Nat.beq ci 1 then xl_n [pI (s.1 0), pI (s.1 1), pI (s.1 2), pI (s.1 3), pI (s.1 4), pI (s.1 5), pI (s.1 6), pI (s.1 7), pI (s.1 8), pI (s.1 9), pR 1, pR 3, pR 5, pR 7, pR 9, pR 11] k else none) else match tixW r with
  | some t => bif Nat.beq ci 0 then xl_n [pI (rmT t), pI (wdT t), pR (r + 1), pI (s.2 t).1] k else none
  | none => none
def fpW : FP WS := fun s r ci k z => bif Nat.beq r 0 then (bif Nat.beq ci 1 then (bif Nat.blt k 10 then some (wFd s k z) else none) else none) else none
theorem tixW_inv {r t : Nat} (h : tixW r = some t) : (r = 1 ∧ t = 0) ∨ (r = 3 ∧ t = 1) ∨ (r = 5 ∧ t = 2) ∨ (r = 7 ∧ t = 3) ∨ (r = 9 ∧ t = 4) ∨ (r = 11 ∧ t = 5) := by
  match r, h with
  | 0, h => cases h
  | 1, h => cases h; exact Or.inl ⟨rfl, rfl⟩
  | 2, h => cases h
  | 3, h => cases h; exact Or.inr (Or.inl ⟨rfl, rfl⟩)
  | 4, h => cases h
  | 5, h => cases h; exact Or.inr (Or.inr (Or.inl ⟨rfl, rfl⟩))
  | 6, h => cases h
  | 7, h => cases h; exact Or.inr (Or.inr (Or.inr (Or.inl ⟨rfl, rfl⟩)))
  | 8, h => cases h
  | 9, h => cases h; exact Or.inr (Or.inr (Or.inr (Or.inr (Or.inl ⟨rfl, rfl⟩))))
  | 10, h => cases h
  | 11, h => cases h; exact Or.inr (Or.inr (Or.inr (Or.inr (Or.inr (⟨rfl, rfl⟩)))))
  | n + 12, h => cases h
theorem rmT_b {r t : Nat} (h : tixW r = some t) : 0 ≤ rmT t ∧ rmT t ≤ 1000 ∧ 0 ≤ wdT t ∧ wdT t ≤ 100 := by
  rcases tixW_inv h with ⟨rfl, rfl⟩ | ⟨rfl, rfl⟩ | ⟨rfl, rfl⟩ | ⟨rfl, rfl⟩ | ⟨rfl, rfl⟩ | ⟨rfl, rfl⟩ <;> decide
theorem vFgW_t : ∀ (t r : Nat), tixW r = some t → ∀ (s : WS) (k : Nat) (v : PV), bdW s → xl_n [pI (rmT t), pI (wdT t), pR (r + 1), pI (s.2 t).1] k = some v → ∃ fs w, xl_n (encW s) r = some (.inr (0, fs)) ∧ xl_n fs k = some w ∧ xl_o r w = pV v ∧ ∀ z, v = .inl z → xB z := by
  intro t r ht s k v hb h
  obtain ⟨c1, c2, c3, c4⟩ := rmT_b ht
  rcases tixW_inv ht with ⟨rfl, rfl⟩ | ⟨rfl, rfl⟩ | ⟨rfl, rfl⟩ | ⟨rfl, rfl⟩ | ⟨rfl, rfl⟩ | ⟨rfl, rfl⟩
  · match k, h with
    | 0, h => cases h; exact ⟨_, _, rfl, rfl, rfl, fun z e => by cases e; exact ⟨by omega, by omega⟩⟩
    | 1, h => cases h; exact ⟨_, _, rfl, rfl, rfl, fun z e => by cases e; exact ⟨by omega, by omega⟩⟩
    | 2, h => cases h; exact ⟨_, _, rfl, rfl, rfl, fun z e => by cases e⟩
    | 3, h => cases h; exact ⟨_, _, rfl, rfl, rfl, fun z e => by cases e; exact (hb.2 0).1⟩
  · match k, h with
    | 0, h => cases h; exact ⟨_, _, rfl, rfl, rfl, fun z e => by cases e; exact ⟨by omega, by omega⟩⟩
    | 1, h => cases h; exact ⟨_, _, rfl, rfl, rfl, fun z e => by cases e; exact ⟨by omega, by omega⟩⟩
    | 2, h => cases h; exact ⟨_, _, rfl, rfl, rfl, fun z e => by cases e⟩
    | 3, h => cases h; exact ⟨_, _, rfl, rfl, rfl, fun z e => by cases e; exact (hb.2 1).1⟩
  · match k, h with
    | 0, h => cases h; exact ⟨_, _, rfl, rfl, rfl, fun z e => by cases e; exact ⟨by omega, by omega⟩⟩
    | 1, h => cases h; exact ⟨_, _, rfl, rfl, rfl, fun z e => by cases e; exact ⟨by omega, by omega⟩⟩
    | 2, h => cases h; exact ⟨_, _, rfl, rfl, rfl, fun z e => by cases e⟩
    | 3, h => cases h; exact ⟨_, _, rfl, rfl, rfl, fun z e => by cases e; exact (hb.2 2).1⟩
  · match k, h with
    | 0, h => cases h; exact ⟨_, _, rfl, rfl, rfl, fun z e => by cases e; exact ⟨by omega, by omega⟩⟩
    | 1, h => cases h; exact ⟨_, _, rfl, rfl, rfl, fun z e => by cases e; exact ⟨by omega, by omega⟩⟩
    | 2, h => cases h; exact ⟨_, _, rfl, rfl, rfl, fun z e => by cases e⟩
    | 3, h => cases h; exact ⟨_, _, rfl, rfl, rfl, fun z e => by cases e; exact (hb.2 3).1⟩
  · match k, h with
    | 0, h => cases h; exact ⟨_, _, rfl, rfl, rfl, fun z e => by cases e; exact ⟨by omega, by omega⟩⟩
    | 1, h => cases h; exact ⟨_, _, rfl, rfl, rfl, fun z e => by cases e; exact ⟨by omega, by omega⟩⟩
    | 2, h => cases h; exact ⟨_, _, rfl, rfl, rfl, fun z e => by cases e⟩
    | 3, h => cases h; exact ⟨_, _, rfl, rfl, rfl, fun z e => by cases e; exact (hb.2 4).1⟩
  · match k, h with
    | 0, h => cases h; exact ⟨_, _, rfl, rfl, rfl, fun z e => by cases e; exact ⟨by omega, by omega⟩⟩
    | 1, h => cases h; exact ⟨_, _, rfl, rfl, rfl, fun z e => by cases e; exact ⟨by omega, by omega⟩⟩
    | 2, h => cases h; exact ⟨_, _, rfl, rfl, rfl, fun z e => by cases e⟩
    | 3, h => cases h; exact ⟨_, _, rfl, rfl, rfl, fun z e => by cases e; exact (hb.2 5).1⟩
theorem vFgW : vFg encW bdW fgW := by
  intro s r ci k v hb h
  unfold fgW at h
  cases e : Nat.beq r 0 with
  | true =>
    rw [e] at h
    obtain ⟨h2, h3⟩ := bN h
    have e := nB e
    have h2 := nB h2
    subst e; subst h2
    match k, h3 with
    | 0, h3 => cases h3; exact ⟨_, _, rfl, rfl, rfl, fun z e => by cases e; exact hb.1 0⟩
    | 1, h3 => cases h3; exact ⟨_, _, rfl, rfl, rfl, fun z e => by cases e; exact hb.1 1⟩
    | 2, h3 => cases h3; exact ⟨_, _, rfl, rfl, rfl, fun z e => by cases e; exact hb.1 2⟩
    | 3, h3 => cases h3; exact ⟨_, _, rfl, rfl, rfl, fun z e => by cases e; exact hb.1 3⟩
    | 4, h3 => cases h3; exact ⟨_, _, rfl, rfl, rfl, fun z e => by cases e; exact hb.1 4⟩
    | 5, h3 => cases h3; exact ⟨_, _, rfl, rfl, rfl, fun z e => by cases e; exact hb.1 5⟩
    | 6, h3 => cases h3; exact ⟨_, _, rfl, rfl, rfl, fun z e => by cases e; exact hb.1 6⟩
    | 7, h3 => cases h3; exact ⟨_, _, rfl, rfl, rfl, fun z e => by cases e; exact hb.1 7⟩
    | 8, h3 => cases h3; exact ⟨_, _, rfl, rfl, rfl, fun z e => by cases e; exact hb.1 8⟩
    | 9, h3 => cases h3; exact ⟨_, _, rfl, rfl, rfl, fun z e => by cases e; exact hb.1 9⟩
    | 10, h3 => cases h3; exact ⟨_, _, rfl, rfl, rfl, fun z e => by cases e⟩
    | 11, h3 => cases h3; exact ⟨_, _, rfl, rfl, rfl, fun z e => by cases e⟩
    | 12, h3 => cases h3; exact ⟨_, _, rfl, rfl, rfl, fun z e => by cases e⟩
    | 13, h3 => cases h3; exact ⟨_, _, rfl, rfl, rfl, fun z e => by cases e⟩
    | 14, h3 => cases h3; exact ⟨_, _, rfl, rfl, rfl, fun z e => by cases e⟩
    | 15, h3 => cases h3; exact ⟨_, _, rfl, rfl, rfl, fun z e => by cases e⟩
  | false =>
    rw [e] at h
    dsimp only [cond_false] at h
    split at h
    · next t ht =>
      obtain ⟨h2, h3⟩ := bN h
      have h2 := nB h2
      subst h2
      exact vFgW_t t r ht s k v hb h3
    · cases h
theorem vFpW : vFp encW bdW fpW := by
  intro s r ci k z s' hb hz h
  obtain ⟨h1, g1⟩ := bN h
  obtain ⟨h2, g2⟩ := bN g1
  obtain ⟨h3, g3⟩ := bN g2
  clear h g1 g2
  have h1 := nB h1
  have h2 := nB h2
  subst h1; subst h2
  cases g3
  have hbd : bdW (wFd s k z) := ⟨fun j => by
    show xB (bif Nat.beq j k then z else s.1 j)
    cases Nat.beq j k with
    | true => exact hz
    | false => exact hb.1 j, hb.2⟩
  match k, h3 with
  | 0, _ => exact ⟨_, rfl, Nat.le_of_ble_eq_true rfl, rfl, hbd⟩
  | 1, _ => exact ⟨_, rfl, Nat.le_of_ble_eq_true rfl, rfl, hbd⟩
  | 2, _ => exact ⟨_, rfl, Nat.le_of_ble_eq_true rfl, rfl, hbd⟩
  | 3, _ => exact ⟨_, rfl, Nat.le_of_ble_eq_true rfl, rfl, hbd⟩
  | 4, _ => exact ⟨_, rfl, Nat.le_of_ble_eq_true rfl, rfl, hbd⟩
  | 5, _ => exact ⟨_, rfl, Nat.le_of_ble_eq_true rfl, rfl, hbd⟩
  | 6, _ => exact ⟨_, rfl, Nat.le_of_ble_eq_true rfl, rfl, hbd⟩
  | 7, _ => exact ⟨_, rfl, Nat.le_of_ble_eq_true rfl, rfl, hbd⟩
  | 8, _ => exact ⟨_, rfl, Nat.le_of_ble_eq_true rfl, rfl, hbd⟩
  | 9, _ => exact ⟨_, rfl, Nat.le_of_ble_eq_true rfl, rfl, hbd⟩
  | n + 10, h3 => exact absurd (Nat.le_of_ble_eq_true h3) (by omega)
theorem lenW (s s' : WS) : (encW s').length = (encW s).length := rfl
theorem recW (s : WS) : ∃ fs, xl_n (encW s) 0 = some (.inr (1, fs)) := ⟨_, rfl⟩
theorem bdW_set {s : WS} {t : Nat} {b : TS} {rm w : Int} (hb : bdW s) (ht : bdT rm w b) : bdW (setT s t b) := by
  refine ⟨hb.1, fun j => ?_⟩
  show xB (bif Nat.beq j t then b else s.2 j).1 ∧ ∀ k, xB ((bif Nat.beq j t then b else s.2 j).2 k)
  cases Nat.beq j t with
  | true => exact ht.2
  | false => exact hb.2 j
theorem lkW : ∀ (r t : Nat), tixW r = some t → vLk encW bdW (encT (rmT t) (wdT t)) (bdT (rmT t) (wdT t)) (fun k => r + k) (fun s => s.2 t) (fun s b => setT s t b) ∧ ∀ s, ∃ fs, xl_n (encW s) r = some (.inr (0, fs)) := by
  intro r t ht
  have hm := rmT_b ht
  rcases tixW_inv ht with ⟨rfl, rfl⟩ | ⟨rfl, rfl⟩ | ⟨rfl, rfl⟩ | ⟨rfl, rfl⟩ | ⟨rfl, rfl⟩ | ⟨rfl, rfl⟩
  · exact ⟨vLk_run (n := 2) (fun _ => rfl) (by decide) (fun s => rfl) (fun s t => rfl) (fun s hb => ⟨hm, hb.2 0⟩) (fun s t hb ht => bdW_set hb ht) (fun s => Nat.le_of_ble_eq_true rfl), fun s => ⟨_, rfl⟩⟩
  · exact ⟨vLk_run (n := 2) (fun _ => rfl) (by decide) (fun s => rfl) (fun s t => rfl) (fun s hb => ⟨hm, hb.2 1⟩) (fun s t hb ht => bdW_set hb ht) (fun s => Nat.le_of_ble_eq_true rfl), fun s => ⟨_, rfl⟩⟩
  · exact ⟨vLk_run (n := 2) (fun _ => rfl) (by decide) (fun s => rfl) (fun s t => rfl) (fun s hb => ⟨hm, hb.2 2⟩) (fun s t hb ht => bdW_set hb ht) (fun s => Nat.le_of_ble_eq_true rfl), fun s => ⟨_, rfl⟩⟩
  · exact ⟨vLk_run (n := 2) (fun _ => rfl) (by decide) (fun s => rfl) (fun s t => rfl) (fun s hb => ⟨hm, hb.2 3⟩) (fun s t hb ht => bdW_set hb ht) (fun s => Nat.le_of_ble_eq_true rfl), fun s => ⟨_, rfl⟩⟩
  · exact ⟨vLk_run (n := 2) (fun _ => rfl) (by decide) (fun s => rfl) (fun s t => rfl) (fun s hb => ⟨hm, hb.2 4⟩) (fun s t hb ht => bdW_set hb ht) (fun s => Nat.le_of_ble_eq_true rfl), fun s => ⟨_, rfl⟩⟩
  · exact ⟨vLk_run (n := 2) (fun _ => rfl) (by decide) (fun s => rfl) (fun s t => rfl) (fun s hb => ⟨hm, hb.2 5⟩) (fun s t hb ht => bdW_set hb ht) (fun s => Nat.le_of_ble_eq_true rfl), fun s => ⟨_, rfl⟩⟩
section WC
variable {M μ : XI} {rc rs pc pc2 n : Nat}
theorem qWT {f : Int → Int → List PV → TS → KT → Prop} (hm : ∀ rm w, mOk (encT rm w) (bdT rm w) μ (atR 0 (f rm w))) (hv : xl_V μ) (hcl : ∃ T N, vwCl[0]? = some (μ.1.cls, T, N)) (d : xl_Ca M pc μ pc2) (hn : n = μ.2.2.2.2.2.2 + 1) : cOk encW bdW M rc rs pc pc2 n (inT tixW (fun t as s K => f (rmT t) (wdT t) as (s.2 t) (fun v b => K v (setT s t b)))) := by
  intro as L st s K Q hl hw hb hs hk
  obtain ⟨q, t, as', rfl, ht, hnr, h1⟩ := inT_inv hs
  exact (cVirt (sp := fun as s K => as = pR q :: as' ∧ f (rmT t) (wdT t) as' (s.2 t) (fun v b => K v (setT s t b))) (hm (rmT t) (wdT t)) hv d hcl hn (fun as2 s2 K2 _ h2 => by
    obtain ⟨e, h3⟩ := h2
    exact ⟨_, _, _, as', (lkW q t ht).1, (lkW q t ht).2 s2, by rw [e, pnr_rel hnr]; rfl, h3⟩)) _ L st s K Q hl hw hb ⟨rfl, h1⟩ hk
/-- what World says of its tables -/
def wG (w : WS) (t : Nat) (i c : Int) : Int := tg (rmT t) (wdT t) (w.2 t).2 i c
def wP (w : WS) (t : Nat) (i c v : Int) : WS := setT w t ((w.2 t).1, ts (rmT t) (wdT t) (w.2 t).2 i c v)
def wA (w : WS) (t : Nat) (i c m : Int) : WS := wP w t i c (wI (wG w t i c + m))
def wZ (w : WS) (t : Nat) : Int := (w.2 t).1
def wRe (w : WS) (t : Nat) (i : Int) : WS := setT w t (if (w.2 t).1 ≤ i ∧ i < rmT t then i + 1 else (w.2 t).1, (w.2 t).2)
def wDr (w : WS) (t : Nat) (i : Int) : WS := setT w t (if 0 ≤ i ∧ i < (w.2 t).1 then ((w.2 t).1 - 1, xcp (w.2 t).2 (w.2 t).2 ((i + 1) * wdT t).toNat (i * wdT t).toNat (((w.2 t).1 - i - 1) * wdT t).toNat) else w.2 t)
def wOp (w : WS) (t : Nat) (i : Int) : WS := setT w t ((w.2 t).1 + 1, topen (wdT t) (w.2 t).2 (w.2 t).1 i)
theorem wG_B {w : WS} {t : Nat} {i c : Int} (h : bdW w) : xB (wG w t i c) := tg_B (h.2 t).2
def cW_X0_get : Sp WS := inT tixW (fun t => a2 (fun i c s K => (xB i ∧ xB c) ∧ (xB (wG s t i c) → K [pI (wG s t i c)] s)))
theorem qW_X0_get (d : xl_Ca M pc mX0_get pc2) : cOk encW bdW M rc rs pc pc2 3 cW_X0_get := by
  refine cMono (fun as s K hb h => ?_) (qWT (f := fun rm w => a2 (sX0_get rm w)) mX0_get_ok vX0_get tcl d rfl)
  obtain ⟨q, t, as', rfl, ht, hnr, h1⟩ := inT_inv h
  obtain ⟨i, c, rfl, h2, h3⟩ := a2_inv h1
  refine inT_mk ht hnr ⟨h2, ?_⟩
  show K _ (setT s t (s.2 t))
  rw [setT_self]
  exact h3 (wG_B hb)
def cW_X0_set : Sp WS := inT tixW (fun t => a3 (fun i c v s K => (xB i ∧ xB c ∧ xB v) ∧ K [] (wP s t i c v)))
theorem qW_X0_set (d : xl_Ca M pc mX0_set pc2) : cOk encW bdW M rc rs pc pc2 4 cW_X0_set := by
  refine cMono (fun as s K hb h => ?_) (qWT (f := fun rm w => a3 (sX0_set rm w)) mX0_set_ok vX0_set tcl d rfl)
  obtain ⟨q, t, as', rfl, ht, hnr, h1⟩ := inT_inv h
  obtain ⟨i, c, v, rfl, h2⟩ := a3_inv h1
  exact inT_mk ht hnr h2
def cW_X0_add : Sp WS := inT tixW (fun t => a3 (fun i c v s K => (xB i ∧ xB c ∧ xB v) ∧ K [] (wA s t i c v)))
theorem qW_X0_add (d : xl_Ca M pc mX0_add pc2) : cOk encW bdW M rc rs pc pc2 4 cW_X0_add := by
  refine cMono (fun as s K hb h => ?_) (qWT (f := fun rm w => a3 (sX0_add rm w)) mX0_add_ok vX0_add tcl d rfl)
  obtain ⟨q, t, as', rfl, ht, hnr, h1⟩ := inT_inv h
  obtain ⟨i, c, v, rfl, h2⟩ := a3_inv h1
  exact inT_mk ht hnr h2
def cW_X0_clear : Sp WS := inT tixW (fun t => a0 (fun s K => K [] (setT s t (0, (s.2 t).2))))
theorem qW_X0_clear (d : xl_Ca M pc mX0_clear pc2) : cOk encW bdW M rc rs pc pc2 1 cW_X0_clear := by
  refine cMono (fun as s K hb h => ?_) (qWT (f := fun rm w => a0 (sX0_clear rm w)) mX0_clear_ok vX0_clear tcl d rfl)
  obtain ⟨q, t, as', rfl, ht, hnr, h1⟩ := inT_inv h
  obtain ⟨rfl, h2⟩ := a0_inv h1
  exact inT_mk ht hnr h2
def cW_X0_reach : Sp WS := inT tixW (fun t => a1 (fun i s K => xB i ∧ K [] (wRe s t i)))
theorem qW_X0_reach (d : xl_Ca M pc mX0_reach pc2) : cOk encW bdW M rc rs pc pc2 2 cW_X0_reach := by
  refine cMono (fun as s K hb h => ?_) (qWT (f := fun rm w => a1 (sX0_reach rm w)) mX0_reach_ok vX0_reach tcl d rfl)
  obtain ⟨q, t, as', rfl, ht, hnr, h1⟩ := inT_inv h
  obtain ⟨i, rfl, h2⟩ := a1_inv h1
  exact inT_mk ht hnr h2
def cW_X0_drop : Sp WS := inT tixW (fun t => a1 (fun i s K => (xB i ∧ wZ s t ≤ rmT t) ∧ K [] (wDr s t i)))
theorem qW_X0_drop (d : xl_Ca M pc mX0_drop pc2) : cOk encW bdW M rc rs pc pc2 2 cW_X0_drop := by
  refine cMono (fun as s K hb h => ?_) (qWT (f := fun rm w => a1 (sX0_drop rm w)) mX0_drop_ok vX0_drop tcl d rfl)
  obtain ⟨q, t, as', rfl, ht, hnr, h1⟩ := inT_inv h
  obtain ⟨i, rfl, h2⟩ := a1_inv h1
  exact inT_mk ht hnr h2
def cW_X0_open : Sp WS := inT tixW (fun t => a1 (fun i s K => xB i ∧ ((0 ≤ i ∧ i ≤ wZ s t ∧ wZ s t < rmT t) → K [pI 1] (wOp s t i)) ∧ (¬ (0 ≤ i ∧ i ≤ wZ s t ∧ wZ s t < rmT t) → K [pI 0] s)))
theorem qW_X0_open (d : xl_Ca M pc mX0_open pc2) : cOk encW bdW M rc rs pc pc2 2 cW_X0_open := by
  refine cMono (fun as s K hb h => ?_) (qWT (f := fun rm w => a1 (sX0_open rm w)) mX0_open_ok vX0_open tcl d rfl)
  obtain ⟨q, t, as', rfl, ht, hnr, h1⟩ := inT_inv h
  obtain ⟨i, rfl, h2, h3, h4⟩ := a1_inv h1
  refine inT_mk ht hnr ⟨h2, h3, fun c => ?_⟩
  show K _ (setT s t (s.2 t))
  rw [setT_self]
  exact h4 c
end WC
end
-- 26.Wq
section
/-! ===== World: what is asked of it ===== -/
-- X1_fateOf: heads []
def tX1_fateOf : Nat → Blk WS := fun pc => bif Nat.blt pc 27 then (bif Nat.blt pc 15 then (bif Nat.beq pc 0 then (oIld 1 <| oAld 0 <| oGet (fgW) 1 3 <| oAld 0 <| oGet (fgW) 1 1 <| oSubW <| oCGe 15 <| oI 2 <| oIret) else oNo) else (bif Nat.beq pc 15 then (oIld 1 <| oAld 0 <| oGet (fgW) 1 3 <| oCGe 27 <| oI 1 <| oTo 28) else oNo)) else (bif Nat.blt pc 28 then (bif Nat.beq pc 27 then (oI 0 <| oTo 28) else oNo) else (bif Nat.beq pc 28 then (oIret) else oNo))
theorem tX1_fateOf_ok : ∀ pc, bOk (encW) (bdW) mX1_fateOf 0 0 pc (tX1_fateOf pc) := fun pc => (tNode (tNode (tLeaf (okIldn iX1_fateOf_0 rfl <| okAldn iX1_fateOf_1 rfl <| okGet (vFgW) iX1_fateOf_2 <| okAldn iX1_fateOf_5 rfl <| okGet (vFgW) iX1_fateOf_6 <| okSubW iX1_fateOf_9 <| okCGe (tl rfl) iX1_fateOf_10 <| okIc iX1_fateOf_13 <| okIret iX1_fateOf_14 rfl)) (tLeaf (okIldn iX1_fateOf_15 rfl <| okAldn iX1_fateOf_16 rfl <| okGet (vFgW) iX1_fateOf_17 <| okCGe (tl rfl) iX1_fateOf_20 <| okIc iX1_fateOf_23 <| okGoto (tl rfl) iX1_fateOf_24))) (tNode (tLeaf (okIc iX1_fateOf_27 <| okTo (tl rfl))) (tLeaf (okIret iX1_fateOf_28 rfl)))) pc
-- X1_isTakenOf: heads []
def tX1_isTakenOf : Nat → Blk WS := fun pc => bif Nat.blt pc 36 then (bif Nat.blt pc 32 then (bif Nat.beq pc 0 then (oAld 0 <| oGet (fgW) 1 14 <| oIld 1 <| oI 5 <| oC3 (cW_X0_get) <| oIst 3 <| oAld 0 <| oGet (fgW) 1 14 <| oIld 1 <| oI 3 <| oC3 (cW_X0_get) <| oIld 2 <| oCNe 36 <| oIld 3 <| oZEq 32 <| oIld 3 <| oI 1 <| oCNe 36 <| oTo 32) else oNo) else (bif Nat.beq pc 32 then (oI 1 <| oTo 37) else oNo)) else (bif Nat.blt pc 37 then (bif Nat.beq pc 36 then (oI 0 <| oTo 37) else oNo) else (bif Nat.beq pc 37 then (oZret) else oNo))
theorem tX1_isTakenOf_ok : ∀ pc, bOk (encW) (bdW) mX1_isTakenOf 0 0 pc (tX1_isTakenOf pc) := fun pc => (tNode (tNode (tLeaf (okAldn iX1_isTakenOf_0 rfl <| okGet (vFgW) iX1_isTakenOf_1 <| okIldn iX1_isTakenOf_4 rfl <| okIc iX1_isTakenOf_5 <| okC3 (qW_X0_get iX1_isTakenOf_6) <| okIstn iX1_isTakenOf_9 rfl (by decide) <| okAldn iX1_isTakenOf_10 rfl <| okGet (vFgW) iX1_isTakenOf_11 <| okIldn iX1_isTakenOf_14 rfl <| okIc iX1_isTakenOf_15 <| okC3 (qW_X0_get iX1_isTakenOf_16) <| okIldn iX1_isTakenOf_19 rfl <| okCNe (tl rfl) iX1_isTakenOf_20 <| okIldn iX1_isTakenOf_23 rfl <| okZEq (tl rfl) iX1_isTakenOf_24 <| okIldn iX1_isTakenOf_27 rfl <| okIc iX1_isTakenOf_28 <| okCNe (tl rfl) iX1_isTakenOf_29 <| okTo (tl rfl))) (tLeaf (okIc iX1_isTakenOf_32 <| okGoto (tl rfl) iX1_isTakenOf_33))) (tNode (tLeaf (okIc iX1_isTakenOf_36 <| okTo (tl rfl))) (tLeaf (okZret iX1_isTakenOf_37 rfl)))) pc
-- X1_hasResult: heads []
def tX1_hasResult : Nat → Blk WS := fun pc => bif Nat.blt pc 18 then (bif Nat.beq pc 0 then (oAld 0 <| oGet (fgW) 1 11 <| oIld 1 <| oI 6 <| oC3 (cW_X0_get) <| oI (-1) <| oCEq 18 <| oI 1 <| oTo 19) else oNo) else (bif Nat.blt pc 19 then (bif Nat.beq pc 18 then (oI 0 <| oTo 19) else oNo) else (bif Nat.beq pc 19 then (oZret) else oNo))
theorem tX1_hasResult_ok : ∀ pc, bOk (encW) (bdW) mX1_hasResult 0 0 pc (tX1_hasResult pc) := fun pc => (tNode (tLeaf (okAldn iX1_hasResult_0 rfl <| okGet (vFgW) iX1_hasResult_1 <| okIldn iX1_hasResult_4 rfl <| okBi iX1_hasResult_5 (by decide) <| okC3 (qW_X0_get iX1_hasResult_7) <| okIc iX1_hasResult_10 <| okCEq (tl rfl) iX1_hasResult_11 <| okIc iX1_hasResult_14 <| okGoto (tl rfl) iX1_hasResult_15)) (tNode (tLeaf (okIc iX1_hasResult_18 <| okTo (tl rfl))) (tLeaf (okZret iX1_hasResult_19 rfl)))) pc
-- X1_isRipe: heads []
def tX1_isRipe : Nat → Blk WS := fun pc => bif Nat.blt pc 22 then (bif Nat.beq pc 0 then (oAld 0 <| oGet (fgW) 1 11 <| oIld 1 <| oI 2 <| oC3 (cW_X0_get) <| oAld 0 <| oGet (fgW) 1 0 <| oAddW <| oIld 2 <| oCGe 22 <| oI 1 <| oTo 23) else oNo) else (bif Nat.blt pc 23 then (bif Nat.beq pc 22 then (oI 0 <| oTo 23) else oNo) else (bif Nat.beq pc 23 then (oZret) else oNo))
theorem tX1_isRipe_ok : ∀ pc, bOk (encW) (bdW) mX1_isRipe 0 0 pc (tX1_isRipe pc) := fun pc => (tNode (tLeaf (okAldn iX1_isRipe_0 rfl <| okGet (vFgW) iX1_isRipe_1 <| okIldn iX1_isRipe_4 rfl <| okIc iX1_isRipe_5 <| okC3 (qW_X0_get iX1_isRipe_6) <| okAldn iX1_isRipe_9 rfl <| okGet (vFgW) iX1_isRipe_10 <| okAddW iX1_isRipe_13 <| okIldn iX1_isRipe_14 rfl <| okCGe (tl rfl) iX1_isRipe_15 <| okIc iX1_isRipe_18 <| okGoto (tl rfl) iX1_isRipe_19)) (tNode (tLeaf (okIc iX1_isRipe_22 <| okTo (tl rfl))) (tLeaf (okZret iX1_isRipe_23 rfl)))) pc
-- X1_isOver: heads []
def tX1_isOver : Nat → Blk WS := fun pc => bif Nat.blt pc 27 then (bif Nat.beq pc 0 then (oAld 0 <| oGet (fgW) 1 11 <| oIld 1 <| oI 2 <| oC3 (cW_X0_get) <| oAld 0 <| oGet (fgW) 1 0 <| oAddW <| oAld 0 <| oGet (fgW) 1 1 <| oAddW <| oIld 2 <| oCGe 27 <| oI 1 <| oTo 28) else oNo) else (bif Nat.blt pc 28 then (bif Nat.beq pc 27 then (oI 0 <| oTo 28) else oNo) else (bif Nat.beq pc 28 then (oZret) else oNo))
theorem tX1_isOver_ok : ∀ pc, bOk (encW) (bdW) mX1_isOver 0 0 pc (tX1_isOver pc) := fun pc => (tNode (tLeaf (okAldn iX1_isOver_0 rfl <| okGet (vFgW) iX1_isOver_1 <| okIldn iX1_isOver_4 rfl <| okIc iX1_isOver_5 <| okC3 (qW_X0_get iX1_isOver_6) <| okAldn iX1_isOver_9 rfl <| okGet (vFgW) iX1_isOver_10 <| okAddW iX1_isOver_13 <| okAldn iX1_isOver_14 rfl <| okGet (vFgW) iX1_isOver_15 <| okAddW iX1_isOver_18 <| okIldn iX1_isOver_19 rfl <| okCGe (tl rfl) iX1_isOver_20 <| okIc iX1_isOver_23 <| okGoto (tl rfl) iX1_isOver_24)) (tNode (tLeaf (okIc iX1_isOver_27 <| okTo (tl rfl))) (tLeaf (okZret iX1_isOver_28 rfl)))) pc
def wFate (w : WS) (t : Int) : Int := if t < wI (w.1 3 - w.1 1) then 2 else if t < w.1 3 then 1 else 0
theorem wFate_b (w : WS) (t : Int) : 0 ≤ wFate w t ∧ wFate w t ≤ 2 := by
  unfold wFate
  split
  · omega
  · split <;> omega
def sX1_fateOf : Int → WS → KW → Prop := fun t s K => xB t ∧ (0 ≤ wFate s t → wFate s t ≤ 2 → K [pI (wFate s t)] s)
theorem mX1_fateOf_ok : mOk encW bdW mX1_fateOf (atR 0 (a1 sX1_fateOf)) := by
  refine mOVa1 kX1_fateOf (fun _ => rfl) (fun t s K h hb => wx_go [] 9 tX1_fateOf_ok rfl ?_)
  obtain ⟨h1, h2⟩ := h
  have hK := h2 (wFate_b s t).1 (wFate_b s t).2
  unfold wFate at hK
  by_cases c1 : t < wI (s.1 3 - s.1 1)
  · rw [if_pos c1] at hK
    repeat' (first | (refine And.intro ?_ ?_) | intro _)
    all_goals first | omega | exact hK
  · by_cases c2 : t < s.1 3
    · rw [if_neg c1, if_pos c2] at hK
      repeat' (first | (refine And.intro ?_ ?_) | intro _)
      all_goals first | omega | exact hK
    · rw [if_neg c1, if_neg c2] at hK
      repeat' (first | (refine And.intro ?_ ?_) | intro _)
      all_goals first | omega | exact hK
abbrev wTakenOf (w : WS) (i k : Int) : Prop := wG w 4 i 3 = k ∧ (wG w 4 i 5 = 0 ∨ wG w 4 i 5 = 1)
def sX1_isTakenOf : Int → Int → WS → KW → Prop := fun i k s K => (xB i ∧ xB k) ∧ (wTakenOf s i k → K [pI 1] s) ∧ (¬ wTakenOf s i k → K [pI 0] s)
theorem mX1_isTakenOf_ok : mOk encW bdW mX1_isTakenOf (atR 0 (a2 sX1_isTakenOf)) := by
  refine mOVa2 kX1_isTakenOf (fun _ _ => rfl) (fun i k s K h hb => wx_go [] 9 tX1_isTakenOf_ok rfl ?_)
  obtain ⟨h1, h2, h3⟩ := h
  repeat' (first | (refine And.intro ?_ ?_) | intro _)
  all_goals first | omega | exact h2 (by omega) | exact h3 (by omega)
abbrev wHas (w : WS) (i : Int) : Prop := wG w 1 i 6 ≠ -1
def sX1_hasResult : Int → WS → KW → Prop := fun i s K => xB i ∧ (wHas s i → K [pI 1] s) ∧ (¬ wHas s i → K [pI 0] s)
theorem mX1_hasResult_ok : mOk encW bdW mX1_hasResult (atR 0 (a1 sX1_hasResult)) := by
  refine mOVa1 kX1_hasResult (fun _ => rfl) (fun i s K h hb => wx_go [] 9 tX1_hasResult_ok rfl ?_)
  obtain ⟨h1, h2, h3⟩ := h
  repeat' (first | (refine And.intro ?_ ?_) | intro _)
  all_goals first | omega | exact h2 (by omega) | exact h3 (by omega)
abbrev wRipe (w : WS) (i p : Int) : Prop := wI (wG w 1 i 2 + w.1 0) < p
def sX1_isRipe : Int → Int → WS → KW → Prop := fun i p s K => (xB i ∧ xB p) ∧ (wRipe s i p → K [pI 1] s) ∧ (¬ wRipe s i p → K [pI 0] s)
theorem mX1_isRipe_ok : mOk encW bdW mX1_isRipe (atR 0 (a2 sX1_isRipe)) := by
  refine mOVa2 kX1_isRipe (fun _ _ => rfl) (fun i p s K h hb => wx_go [] 9 tX1_isRipe_ok rfl ?_)
  obtain ⟨h1, h2, h3⟩ := h
  repeat' (first | (refine And.intro ?_ ?_) | intro _)
  all_goals first | omega | exact h2 (by omega) | exact h3 (by omega)
abbrev wOver (w : WS) (i p : Int) : Prop := wI (wI (wG w 1 i 2 + w.1 0) + w.1 1) < p
def sX1_isOver : Int → Int → WS → KW → Prop := fun i p s K => (xB i ∧ xB p) ∧ (wOver s i p → K [pI 1] s) ∧ (¬ wOver s i p → K [pI 0] s)
theorem mX1_isOver_ok : mOk encW bdW mX1_isOver (atR 0 (a2 sX1_isOver)) := by
  refine mOVa2 kX1_isOver (fun _ _ => rfl) (fun i p s K h hb => wx_go [] 9 tX1_isOver_ok rfl ?_)
  obtain ⟨h1, h2, h3⟩ := h
  repeat' (first | (refine And.intro ?_ ?_) | intro _)
  all_goals first | omega | exact h2 (by omega) | exact h3 (by omega)
def cW_X1_fateOf : Sp WS := atR 0 (a1 sX1_fateOf)
theorem qW_X1_fateOf {M : XI} {rc rs pc pc2 : Nat} (d : xl_Ca M pc mX1_fateOf pc2) : cOk encW bdW M rc rs pc pc2 2 cW_X1_fateOf := cSame mX1_fateOf_ok vX1_fateOf d wcl rfl lenW recW
def cW_X1_hasResult : Sp WS := atR 0 (a1 sX1_hasResult)
theorem qW_X1_hasResult {M : XI} {rc rs pc pc2 : Nat} (d : xl_Ca M pc mX1_hasResult pc2) : cOk encW bdW M rc rs pc pc2 2 cW_X1_hasResult := cSame mX1_hasResult_ok vX1_hasResult d wcl rfl lenW recW
def cW_X1_isRipe : Sp WS := atR 0 (a2 sX1_isRipe)
theorem qW_X1_isRipe {M : XI} {rc rs pc pc2 : Nat} (d : xl_Ca M pc mX1_isRipe pc2) : cOk encW bdW M rc rs pc pc2 3 cW_X1_isRipe := cSame mX1_isRipe_ok vX1_isRipe d wcl rfl lenW recW
def cW_X1_isOver : Sp WS := atR 0 (a2 sX1_isOver)
theorem qW_X1_isOver {M : XI} {rc rs pc pc2 : Nat} (d : xl_Ca M pc mX1_isOver pc2) : cOk encW bdW M rc rs pc pc2 3 cW_X1_isOver := cSame mX1_isOver_ok vX1_isOver d wcl rfl lenW recW
-- X1_touches: heads []
def tX1_touches : Nat → Blk WS := fun pc => bif Nat.blt pc 53 then (bif Nat.beq pc 0 then (oAld 0 <| oGet (fgW) 1 11 <| oIld 1 <| oI 0 <| oC3 (cW_X0_get) <| oIld 2 <| oCNe 53 <| oAld 0 <| oGet (fgW) 1 11 <| oIld 1 <| oI 1 <| oC3 (cW_X0_get) <| oAld 0 <| oGet (fgW) 1 0 <| oSubW <| oIld 3 <| oCGt 53 <| oAld 0 <| oGet (fgW) 1 11 <| oIld 1 <| oI 2 <| oC3 (cW_X0_get) <| oAld 0 <| oGet (fgW) 1 0 <| oAddW <| oIld 3 <| oCLt 53 <| oI 1 <| oTo 54) else oNo) else (bif Nat.blt pc 54 then (bif Nat.beq pc 53 then (oI 0 <| oTo 54) else oNo) else (bif Nat.beq pc 54 then (oZret) else oNo))
theorem tX1_touches_ok : ∀ pc, bOk (encW) (bdW) mX1_touches 0 0 pc (tX1_touches pc) := fun pc => (tNode (tLeaf (okAldn iX1_touches_0 rfl <| okGet (vFgW) iX1_touches_1 <| okIldn iX1_touches_4 rfl <| okIc iX1_touches_5 <| okC3 (qW_X0_get iX1_touches_6) <| okIldn iX1_touches_9 rfl <| okCNe (tl rfl) iX1_touches_10 <| okAldn iX1_touches_13 rfl <| okGet (vFgW) iX1_touches_14 <| okIldn iX1_touches_17 rfl <| okIc iX1_touches_18 <| okC3 (qW_X0_get iX1_touches_19) <| okAldn iX1_touches_22 rfl <| okGet (vFgW) iX1_touches_23 <| okSubW iX1_touches_26 <| okIldn iX1_touches_27 rfl <| okCGt (tl rfl) iX1_touches_28 <| okAldn iX1_touches_31 rfl <| okGet (vFgW) iX1_touches_32 <| okIldn iX1_touches_35 rfl <| okIc iX1_touches_36 <| okC3 (qW_X0_get iX1_touches_37) <| okAldn iX1_touches_40 rfl <| okGet (vFgW) iX1_touches_41 <| okAddW iX1_touches_44 <| okIldn iX1_touches_45 rfl <| okCLt (tl rfl) iX1_touches_46 <| okIc iX1_touches_49 <| okGoto (tl rfl) iX1_touches_50)) (tNode (tLeaf (okIc iX1_touches_53 <| okTo (tl rfl))) (tLeaf (okZret iX1_touches_54 rfl)))) pc
-- X1_turnOf: heads []
def tX1_turnOf : Nat → Blk WS := fun pc => bif Nat.beq pc 0 then (oAld 0 <| oGet (fgW) 1 11 <| oIld 1 <| oI 2 <| oC3 (cW_X0_get) <| oI 6 <| oMulW <| oAld 0 <| oGet (fgW) 1 11 <| oIld 1 <| oI 0 <| oC3 (cW_X0_get) <| oAddW <| oIret) else oNo
theorem tX1_turnOf_ok : ∀ pc, bOk (encW) (bdW) mX1_turnOf 0 0 pc (tX1_turnOf pc) := fun pc => (tLeaf (okAldn iX1_turnOf_0 rfl <| okGet (vFgW) iX1_turnOf_1 <| okIldn iX1_turnOf_4 rfl <| okIc iX1_turnOf_5 <| okC3 (qW_X0_get iX1_turnOf_6) <| okBi iX1_turnOf_9 (by decide) <| okMulW iX1_turnOf_11 <| okAldn iX1_turnOf_12 rfl <| okGet (vFgW) iX1_turnOf_13 <| okIldn iX1_turnOf_16 rfl <| okIc iX1_turnOf_17 <| okC3 (qW_X0_get iX1_turnOf_18) <| okAddW iX1_turnOf_21 <| okIret iX1_turnOf_22 rfl)) pc
-- X1_ripening: heads [4]
def tX1_ripening : Nat → Blk WS := fun pc => bif Nat.blt pc 39 then (bif Nat.blt pc 4 then (bif Nat.beq pc 0 then (oI 0 <| oIst 2 <| oI 0 <| oIst 3 <| oM [true, true, true, true] (oTo 4)) else oNo) else (bif Nat.beq pc 4 then (oIld 3 <| oAld 0 <| oGet (fgW) 1 11 <| oGet (fgW) 0 3 <| oCGe 45 <| oAld 0 <| oIld 3 <| oAld 0 <| oGet (fgW) 1 3 <| oC3 (cW_X1_isRipe) <| oZNe 39 <| oAld 0 <| oIld 3 <| oIld 1 <| oC3 (cW_X1_isRipe) <| oZEq 39 <| oInc 2 1 <| oTo 39) else oNo)) else (bif Nat.blt pc 45 then (bif Nat.beq pc 39 then (oInc 3 1 <| oM [true, true, true, true] (oTo 4)) else oNo) else (bif Nat.beq pc 45 then (oIld 2 <| oIret) else oNo))
theorem tX1_ripening_ok : ∀ pc, bOk (encW) (bdW) mX1_ripening 0 0 pc (tX1_ripening pc) := fun pc => (tNode (tNode (tLeaf (okIc iX1_ripening_0 <| okIstn iX1_ripening_1 rfl (by decide) <| okIc iX1_ripening_2 <| okIstn iX1_ripening_3 rfl (by decide) <| okM (okTo (tl rfl)))) (tLeaf (okIldn iX1_ripening_4 rfl <| okAldn iX1_ripening_5 rfl <| okGet (vFgW) iX1_ripening_6 <| okGet (vFgW) iX1_ripening_9 <| okCGe (tl rfl) iX1_ripening_12 <| okAldn iX1_ripening_15 rfl <| okIldn iX1_ripening_16 rfl <| okAldn iX1_ripening_17 rfl <| okGet (vFgW) iX1_ripening_18 <| okC3 (qW_X1_isRipe iX1_ripening_21) <| okZNe (tl rfl) iX1_ripening_24 <| okAldn iX1_ripening_27 rfl <| okIldn iX1_ripening_28 rfl <| okIldn iX1_ripening_29 rfl <| okC3 (qW_X1_isRipe iX1_ripening_30) <| okZEq (tl rfl) iX1_ripening_33 <| okInc iX1_ripening_36 (by decide) <| okTo (tl rfl)))) (tNode (tLeaf (okInc iX1_ripening_39 (by decide) <| okGotoM (tl rfl) iX1_ripening_42)) (tLeaf (okIldn iX1_ripening_45 rfl <| okIret iX1_ripening_46 rfl)))) pc
abbrev wTouch (w : WS) (i k t : Int) : Prop := wG w 1 i 0 = k ∧ wI (wG w 1 i 1 - w.1 0) ≤ t ∧ t ≤ wI (wG w 1 i 2 + w.1 0)
def sX1_touches : Int → Int → Int → WS → KW → Prop := fun i k t s K => (xB i ∧ xB k ∧ xB t) ∧ (wTouch s i k t → K [pI 1] s) ∧ (¬ wTouch s i k t → K [pI 0] s)
theorem mX1_touches_ok : mOk encW bdW mX1_touches (atR 0 (a3 sX1_touches)) := by
  refine mOVa3 kX1_touches (fun _ _ _ => rfl) (fun i k t s K h hb => wx_go [] 9 tX1_touches_ok rfl ?_)
  obtain ⟨h1, h2, h3⟩ := h
  repeat' (first | (refine And.intro ?_ ?_) | intro _)
  all_goals first | omega | exact h2 (by omega) | exact h3 (by omega)
def cW_X1_touches : Sp WS := atR 0 (a3 sX1_touches)
theorem qW_X1_touches {M : XI} {rc rs pc pc2 : Nat} (d : xl_Ca M pc mX1_touches pc2) : cOk encW bdW M rc rs pc pc2 4 cW_X1_touches := cSame mX1_touches_ok vX1_touches d wcl rfl lenW recW
def wTurn (w : WS) (i : Int) : Int := wI (wI (wG w 1 i 2 * 6) + wG w 1 i 0)
def sX1_turnOf : Int → WS → KW → Prop := fun i s K => xB i ∧ (xB (wTurn s i) → K [pI (wTurn s i)] s)
theorem mX1_turnOf_ok : mOk encW bdW mX1_turnOf (atR 0 (a1 sX1_turnOf)) := by
  refine mOVa1 kX1_turnOf (fun _ => rfl) (fun i s K h hb => wx_go [] 9 tX1_turnOf_ok rfl ?_)
  obtain ⟨h1, h2⟩ := h
  have hK := h2 (wI_B _)
  repeat' (first | (refine And.intro ?_ ?_) | intro _)
  all_goals first | omega | exact hK
def cW_X1_turnOf : Sp WS := atR 0 (a1 sX1_turnOf)
theorem qW_X1_turnOf {M : XI} {rc rs pc pc2 : Nat} (d : xl_Ca M pc mX1_turnOf pc2) : cOk encW bdW M rc rs pc pc2 2 cW_X1_turnOf := cSame mX1_turnOf_ok vX1_turnOf d wcl rfl lenW recW
end
-- 27.Wl
section
/-! ===== World: loops that ask ===== -/
section WXJ
variable {σ : Type} {enc : σ → XH} {bd : σ → Prop} {M : XI} {rc rs : Nat}
theorem wx_J {T : Nat → Blk σ} (cut : List Nat) (n : Nat) {Po : PS → σ → Prop} {Pt : σ → Prop} {pc : Nat} {L : PL} {st : PS} {s : σ} (hT : ∀ pc, bOk enc bd M rc rs pc (T pc)) (hlt : Nat.blt pc 1000000 = true) (h : ∀ J : JP σ, (∀ v s, Po v s → J 1000000 [] v s) → (∀ pc L st s, wX enc bd M rc rs Po Pt pc L st s → J pc L st s) → T pc (wp T cut J n) L st s) : wX enc bd M rc rs Po Pt pc L st s :=
  wx_go cut n hT hlt (h _ (fun _ _ q => q) (fun _ _ _ _ q => q))
end WXJ
theorem cntI_t {P : Int → Bool} {n : Nat} {i : Int} (h : P i = true) : cntI P (n + 1) i = 1 + cntI P n (i + 1) := by rw [cntI, h]; rfl
theorem cntI_f {P : Int → Bool} {n : Nat} {i : Int} (h : P i = false) : cntI P (n + 1) i = cntI P n (i + 1) := by rw [cntI, h]; simp
-- X1_firstTouched: heads [2]
def tX1_firstTouched : Nat → Blk WS := fun pc => bif Nat.blt pc 25 then (bif Nat.blt pc 2 then (bif Nat.beq pc 0 then (oI 0 <| oIst 3 <| oM [true, true, true, true] (oTo 2)) else oNo) else (bif Nat.beq pc 2 then (oIld 3 <| oAld 0 <| oGet (fgW) 1 11 <| oGet (fgW) 0 3 <| oCGe 31 <| oAld 0 <| oIld 3 <| oIld 1 <| oIld 2 <| oC4 (cW_X1_touches) <| oZEq 25 <| oIld 3 <| oIret) else oNo)) else (bif Nat.blt pc 31 then (bif Nat.beq pc 25 then (oInc 3 1 <| oM [true, true, true, true] (oTo 2)) else oNo) else (bif Nat.beq pc 31 then (oI (-1) <| oIret) else oNo))
theorem tX1_firstTouched_ok : ∀ pc, bOk (encW) (bdW) mX1_firstTouched 0 0 pc (tX1_firstTouched pc) := fun pc => (tNode (tNode (tLeaf (okIc iX1_firstTouched_0 <| okIstn iX1_firstTouched_1 rfl (by decide) <| okM (okTo (tl rfl)))) (tLeaf (okIldn iX1_firstTouched_2 rfl <| okAldn iX1_firstTouched_3 rfl <| okGet (vFgW) iX1_firstTouched_4 <| okGet (vFgW) iX1_firstTouched_7 <| okCGe (tl rfl) iX1_firstTouched_10 <| okAldn iX1_firstTouched_13 rfl <| okIldn iX1_firstTouched_14 rfl <| okIldn iX1_firstTouched_15 rfl <| okIldn iX1_firstTouched_16 rfl <| okC4 (qW_X1_touches iX1_firstTouched_17) <| okZEq (tl rfl) iX1_firstTouched_20 <| okIldn iX1_firstTouched_23 rfl <| okIret iX1_firstTouched_24 rfl))) (tNode (tLeaf (okInc iX1_firstTouched_25 (by decide) <| okGotoM (tl rfl) iX1_firstTouched_28)) (tLeaf (okIc iX1_firstTouched_31 <| okIret iX1_firstTouched_32 rfl)))) pc
-- X1_touchedFrom: heads [6]
def tX1_touchedFrom : Nat → Blk WS := fun pc => bif Nat.blt pc 6 then (bif Nat.beq pc 0 then (oI 0 <| oIst 4 <| oIld 1 <| oIst 5 <| oM [true, false, true, true, true, true] (oTo 6)) else oNo) else (bif Nat.blt pc 43 then (bif Nat.beq pc 6 then (oIld 5 <| oZLt 43 <| oIld 5 <| oAld 0 <| oGet (fgW) 1 11 <| oGet (fgW) 0 3 <| oCGe 43 <| oAld 0 <| oIld 5 <| oIld 2 <| oIld 3 <| oC4 (cW_X1_touches) <| oZEq 43 <| oInc 4 1 <| oInc 5 1 <| oM [true, false, true, true, true, true] (oTo 6)) else oNo) else (bif Nat.beq pc 43 then (oIld 4 <| oIret) else oNo))
theorem tX1_touchedFrom_ok : ∀ pc, bOk (encW) (bdW) mX1_touchedFrom 0 0 pc (tX1_touchedFrom pc) := fun pc => (tNode (tLeaf (okIc iX1_touchedFrom_0 <| okIst iX1_touchedFrom_1 (by decide) <| okIldn iX1_touchedFrom_3 rfl <| okIst iX1_touchedFrom_4 (by decide) <| okM (okTo (tl rfl)))) (tNode (tLeaf (okIld iX1_touchedFrom_6 <| okZLt (tl rfl) iX1_touchedFrom_8 <| okIld iX1_touchedFrom_11 <| okAldn iX1_touchedFrom_13 rfl <| okGet (vFgW) iX1_touchedFrom_14 <| okGet (vFgW) iX1_touchedFrom_17 <| okCGe (tl rfl) iX1_touchedFrom_20 <| okAldn iX1_touchedFrom_23 rfl <| okIld iX1_touchedFrom_24 <| okIldn iX1_touchedFrom_26 rfl <| okIldn iX1_touchedFrom_27 rfl <| okC4 (qW_X1_touches iX1_touchedFrom_28) <| okZEq (tl rfl) iX1_touchedFrom_31 <| okInc iX1_touchedFrom_34 (by decide) <| okInc iX1_touchedFrom_37 (by decide) <| okGotoM (tl rfl) iX1_touchedFrom_40)) (tLeaf (okIld iX1_touchedFrom_43 <| okIret iX1_touchedFrom_45 rfl)))) pc
-- X1_placeFor: heads [2]
def tX1_placeFor : Nat → Blk WS := fun pc => bif Nat.blt pc 48 then (bif Nat.blt pc 2 then (bif Nat.beq pc 0 then (oI 0 <| oIst 3 <| oM [true, true, true, true, false, false] (oTo 2)) else oNo) else (bif Nat.blt pc 47 then (bif Nat.beq pc 2 then (oIld 3 <| oAld 0 <| oGet (fgW) 1 11 <| oGet (fgW) 0 3 <| oCGe 69 <| oAld 0 <| oGet (fgW) 1 11 <| oIld 3 <| oI 0 <| oC3 (cW_X0_get) <| oIst 4 <| oIld 4 <| oIld 1 <| oCNe 47 <| oAld 0 <| oGet (fgW) 1 11 <| oIld 3 <| oI 1 <| oC3 (cW_X0_get) <| oIld 2 <| oCLe 47 <| oI 1 <| oTo 48) else oNo) else (bif Nat.beq pc 47 then (oI 0 <| oTo 48) else oNo))) else (bif Nat.blt pc 63 then (bif Nat.blt pc 61 then (bif Nat.beq pc 48 then (oIst 5 <| oIld 4 <| oIld 1 <| oCGt 61 <| oIld 5 <| oZEq 63 <| oTo 61) else oNo) else (bif Nat.beq pc 61 then (oIld 3 <| oIret) else oNo)) else (bif Nat.blt pc 69 then (bif Nat.beq pc 63 then (oInc 3 1 <| oM [true, true, true, true, false, false] (oTo 2)) else oNo) else (bif Nat.beq pc 69 then (oAld 0 <| oGet (fgW) 1 11 <| oGet (fgW) 0 3 <| oIret) else oNo)))
theorem tX1_placeFor_ok : ∀ pc, bOk (encW) (bdW) mX1_placeFor 0 0 pc (tX1_placeFor pc) := fun pc => (tNode (tNode (tLeaf (okIc iX1_placeFor_0 <| okIstn iX1_placeFor_1 rfl (by decide) <| okM (okTo (tl rfl)))) (tNode (tLeaf (okIldn iX1_placeFor_2 rfl <| okAldn iX1_placeFor_3 rfl <| okGet (vFgW) iX1_placeFor_4 <| okGet (vFgW) iX1_placeFor_7 <| okCGe (tl rfl) iX1_placeFor_10 <| okAldn iX1_placeFor_13 rfl <| okGet (vFgW) iX1_placeFor_14 <| okIldn iX1_placeFor_17 rfl <| okIc iX1_placeFor_18 <| okC3 (qW_X0_get iX1_placeFor_19) <| okIst iX1_placeFor_22 (by decide) <| okIld iX1_placeFor_24 <| okIldn iX1_placeFor_26 rfl <| okCNe (tl rfl) iX1_placeFor_27 <| okAldn iX1_placeFor_30 rfl <| okGet (vFgW) iX1_placeFor_31 <| okIldn iX1_placeFor_34 rfl <| okIc iX1_placeFor_35 <| okC3 (qW_X0_get iX1_placeFor_36) <| okIldn iX1_placeFor_39 rfl <| okCLe (tl rfl) iX1_placeFor_40 <| okIc iX1_placeFor_43 <| okGoto (tl rfl) iX1_placeFor_44)) (tLeaf (okIc iX1_placeFor_47 <| okTo (tl rfl))))) (tNode (tNode (tLeaf (okIst iX1_placeFor_48 (by decide) <| okIld iX1_placeFor_50 <| okIldn iX1_placeFor_52 rfl <| okCGt (tl rfl) iX1_placeFor_53 <| okIld iX1_placeFor_56 <| okZEq (tl rfl) iX1_placeFor_58 <| okTo (tl rfl))) (tLeaf (okIldn iX1_placeFor_61 rfl <| okIret iX1_placeFor_62 rfl))) (tNode (tLeaf (okInc iX1_placeFor_63 (by decide) <| okGotoM (tl rfl) iX1_placeFor_66)) (tLeaf (okAldn iX1_placeFor_69 rfl <| okGet (vFgW) iX1_placeFor_70 <| okGet (vFgW) iX1_placeFor_73 <| okIret iX1_placeFor_76 rfl))))) pc
-- X1_leastMark: heads [4]
def tX1_leastMark : Nat → Blk WS := fun pc => bif Nat.blt pc 55 then (bif Nat.blt pc 4 then (bif Nat.beq pc 0 then (oI (-1) <| oIst 2 <| oI 0 <| oIst 3 <| oM [true, true, true, true, false] (oTo 4)) else oNo) else (bif Nat.blt pc 35 then (bif Nat.beq pc 4 then (oIld 3 <| oAld 0 <| oGet (fgW) 1 10 <| oGet (fgW) 0 3 <| oCGe 68 <| oIld 3 <| oIld 1 <| oCEq 62 <| oAld 0 <| oGet (fgW) 1 10 <| oIld 3 <| oI 2 <| oC3 (cW_X0_get) <| oZEq 35 <| oTo 62) else oNo) else (bif Nat.beq pc 35 then (oAld 0 <| oGet (fgW) 1 10 <| oIld 3 <| oI 0 <| oC3 (cW_X0_get) <| oIst 4 <| oIld 2 <| oZGe 55 <| oIld 4 <| oTo 61) else oNo))) else (bif Nat.blt pc 62 then (bif Nat.blt pc 61 then (bif Nat.beq pc 55 then (oIld 2 <| oIld 4 <| oMin <| oTo 61) else oNo) else (bif Nat.beq pc 61 then (oIst 2 <| oTo 62) else oNo)) else (bif Nat.blt pc 68 then (bif Nat.beq pc 62 then (oInc 3 1 <| oM [true, true, true, true, false] (oTo 4)) else oNo) else (bif Nat.beq pc 68 then (oIld 2 <| oIret) else oNo)))
theorem tX1_leastMark_ok : ∀ pc, bOk (encW) (bdW) mX1_leastMark 0 0 pc (tX1_leastMark pc) := fun pc => (tNode (tNode (tLeaf (okIc iX1_leastMark_0 <| okIstn iX1_leastMark_1 rfl (by decide) <| okIc iX1_leastMark_2 <| okIstn iX1_leastMark_3 rfl (by decide) <| okM (okTo (tl rfl)))) (tNode (tLeaf (okIldn iX1_leastMark_4 rfl <| okAldn iX1_leastMark_5 rfl <| okGet (vFgW) iX1_leastMark_6 <| okGet (vFgW) iX1_leastMark_9 <| okCGe (tl rfl) iX1_leastMark_12 <| okIldn iX1_leastMark_15 rfl <| okIldn iX1_leastMark_16 rfl <| okCEq (tl rfl) iX1_leastMark_17 <| okAldn iX1_leastMark_20 rfl <| okGet (vFgW) iX1_leastMark_21 <| okIldn iX1_leastMark_24 rfl <| okIc iX1_leastMark_25 <| okC3 (qW_X0_get iX1_leastMark_26) <| okZEq (tl rfl) iX1_leastMark_29 <| okGoto (tl rfl) iX1_leastMark_32)) (tLeaf (okAldn iX1_leastMark_35 rfl <| okGet (vFgW) iX1_leastMark_36 <| okIldn iX1_leastMark_39 rfl <| okIc iX1_leastMark_40 <| okC3 (qW_X0_get iX1_leastMark_41) <| okIst iX1_leastMark_44 (by decide) <| okIldn iX1_leastMark_46 rfl <| okZGe (tl rfl) iX1_leastMark_47 <| okIld iX1_leastMark_50 <| okGoto (tl rfl) iX1_leastMark_52)))) (tNode (tNode (tLeaf (okIldn iX1_leastMark_55 rfl <| okIld iX1_leastMark_56 <| okMin iX1_leastMark_58 <| okTo (tl rfl))) (tLeaf (okIstn iX1_leastMark_61 rfl (by decide) <| okTo (tl rfl)))) (tNode (tLeaf (okInc iX1_leastMark_62 (by decide) <| okGotoM (tl rfl) iX1_leastMark_65)) (tLeaf (okIldn iX1_leastMark_68 rfl <| okIret iX1_leastMark_69 rfl))))) pc
-- X1_sentOf: heads [4]
def tX1_sentOf : Nat → Blk WS := fun pc => bif Nat.blt pc 4 then (bif Nat.beq pc 0 then (oI 0 <| oIst 2 <| oI 0 <| oIst 3 <| oM [true, true, true, true] (oTo 4)) else oNo) else (bif Nat.blt pc 28 then (bif Nat.beq pc 4 then (oIld 3 <| oI 6 <| oCGe 28 <| oIld 2 <| oAld 0 <| oGet (fgW) 1 15 <| oIld 3 <| oIld 1 <| oC3 (cW_X0_get) <| oAddW <| oIst 2 <| oInc 3 1 <| oM [true, true, true, true] (oTo 4)) else oNo) else (bif Nat.beq pc 28 then (oIld 2 <| oIret) else oNo))
theorem tX1_sentOf_ok : ∀ pc, bOk (encW) (bdW) mX1_sentOf 0 0 pc (tX1_sentOf pc) := fun pc => (tNode (tLeaf (okIc iX1_sentOf_0 <| okIstn iX1_sentOf_1 rfl (by decide) <| okIc iX1_sentOf_2 <| okIstn iX1_sentOf_3 rfl (by decide) <| okM (okTo (tl rfl)))) (tNode (tLeaf (okIldn iX1_sentOf_4 rfl <| okBi iX1_sentOf_5 (by decide) <| okCGe (tl rfl) iX1_sentOf_7 <| okIldn iX1_sentOf_10 rfl <| okAldn iX1_sentOf_11 rfl <| okGet (vFgW) iX1_sentOf_12 <| okIldn iX1_sentOf_15 rfl <| okIldn iX1_sentOf_16 rfl <| okC3 (qW_X0_get iX1_sentOf_17) <| okAddW iX1_sentOf_20 <| okIstn iX1_sentOf_21 rfl (by decide) <| okInc iX1_sentOf_22 (by decide) <| okGotoM (tl rfl) iX1_sentOf_25)) (tLeaf (okIldn iX1_sentOf_28 rfl <| okIret iX1_sentOf_29 rfl)))) pc
-- X1_dueBehind: heads [8]
def tX1_dueBehind : Nat → Blk WS := fun pc => bif Nat.blt pc 84 then (bif Nat.blt pc 8 then (bif Nat.beq pc 0 then (oI (-1) <| oIst 3 <| oI 0 <| oIst 4 <| oI 0 <| oIst 5 <| oM [true, true, true, true, true, true, false] (oTo 8)) else oNo) else (bif Nat.blt pc 59 then (bif Nat.beq pc 8 then (oIld 5 <| oAld 0 <| oGet (fgW) 1 11 <| oGet (fgW) 0 3 <| oCGe 97 <| oAld 0 <| oIld 5 <| oAld 0 <| oGet (fgW) 1 3 <| oC3 (cW_X1_isRipe) <| oZEq 91 <| oAld 0 <| oIld 5 <| oIld 2 <| oC3 (cW_X1_isRipe) <| oZEq 59 <| oAld 0 <| oIld 5 <| oAld 0 <| oGet (fgW) 1 3 <| oC3 (cW_X1_isOver) <| oZNe 59 <| oTo 91) else oNo) else (bif Nat.beq pc 59 then (oAld 0 <| oIld 5 <| oC2 (cW_X1_turnOf) <| oIst 6 <| oIld 6 <| oIld 1 <| oCLe 91 <| oIld 3 <| oZLt 84 <| oIld 6 <| oIld 4 <| oCGe 91 <| oTo 84) else oNo))) else (bif Nat.blt pc 91 then (bif Nat.beq pc 84 then (oIld 5 <| oIst 3 <| oIld 6 <| oIst 4 <| oTo 91) else oNo) else (bif Nat.blt pc 97 then (bif Nat.beq pc 91 then (oInc 5 1 <| oM [true, true, true, true, true, true, false] (oTo 8)) else oNo) else (bif Nat.beq pc 97 then (oIld 3 <| oIret) else oNo)))
theorem tX1_dueBehind_ok : ∀ pc, bOk (encW) (bdW) mX1_dueBehind 0 0 pc (tX1_dueBehind pc) := fun pc => (tNode (tNode (tLeaf (okIc iX1_dueBehind_0 <| okIstn iX1_dueBehind_1 rfl (by decide) <| okIc iX1_dueBehind_2 <| okIst iX1_dueBehind_3 (by decide) <| okIc iX1_dueBehind_5 <| okIst iX1_dueBehind_6 (by decide) <| okM (okTo (tl rfl)))) (tNode (tLeaf (okIld iX1_dueBehind_8 <| okAldn iX1_dueBehind_10 rfl <| okGet (vFgW) iX1_dueBehind_11 <| okGet (vFgW) iX1_dueBehind_14 <| okCGe (tl rfl) iX1_dueBehind_17 <| okAldn iX1_dueBehind_20 rfl <| okIld iX1_dueBehind_21 <| okAldn iX1_dueBehind_23 rfl <| okGet (vFgW) iX1_dueBehind_24 <| okC3 (qW_X1_isRipe iX1_dueBehind_27) <| okZEq (tl rfl) iX1_dueBehind_30 <| okAldn iX1_dueBehind_33 rfl <| okIld iX1_dueBehind_34 <| okIldn iX1_dueBehind_36 rfl <| okC3 (qW_X1_isRipe iX1_dueBehind_37) <| okZEq (tl rfl) iX1_dueBehind_40 <| okAldn iX1_dueBehind_43 rfl <| okIld iX1_dueBehind_44 <| okAldn iX1_dueBehind_46 rfl <| okGet (vFgW) iX1_dueBehind_47 <| okC3 (qW_X1_isOver iX1_dueBehind_50) <| okZNe (tl rfl) iX1_dueBehind_53 <| okGoto (tl rfl) iX1_dueBehind_56)) (tLeaf (okAldn iX1_dueBehind_59 rfl <| okIld iX1_dueBehind_60 <| okC2 (qW_X1_turnOf iX1_dueBehind_62) <| okIst iX1_dueBehind_65 (by decide) <| okIld iX1_dueBehind_67 <| okIldn iX1_dueBehind_69 rfl <| okCLe (tl rfl) iX1_dueBehind_70 <| okIldn iX1_dueBehind_73 rfl <| okZLt (tl rfl) iX1_dueBehind_74 <| okIld iX1_dueBehind_77 <| okIld iX1_dueBehind_79 <| okCGe (tl rfl) iX1_dueBehind_81 <| okTo (tl rfl))))) (tNode (tLeaf (okIld iX1_dueBehind_84 <| okIstn iX1_dueBehind_86 rfl (by decide) <| okIld iX1_dueBehind_87 <| okIst iX1_dueBehind_89 (by decide) <| okTo (tl rfl))) (tNode (tLeaf (okInc iX1_dueBehind_91 (by decide) <| okGotoM (tl rfl) iX1_dueBehind_94)) (tLeaf (okIldn iX1_dueBehind_97 rfl <| okIret iX1_dueBehind_98 rfl))))) pc
def wRipens (w : WS) (p : Int) : Int → Bool := fun i => decide (¬ wRipe w i (w.1 3) ∧ wRipe w i p)
def wRipening (w : WS) (p : Int) : Int := cntI (wRipens w p) (wZ w 1).toNat 0
theorem X1_ripening_loop {K : KW} {Pt : WS → Prop} (s : WS) (p : Int) (hp : xB p) (hb : bdW s) : ∀ (m : Nat) (i n : Int), 0 ≤ i → i ≤ max 0 (wZ s 1) → m = (wZ s 1 - i).toNat → K [pI (n + cntI (wRipens s p) m i)] s → wX encW bdW mX1_ripening 0 0 K Pt 4 [some (pR 0), some (pI p), some (pI n), some (pI i)] [] s := by
  intro m
  have hz : xB (wZ s 1) := (hb.2 1).1
  induction m with
  | zero =>
    intro i n h0 h1 hm hK
    refine wx_J [4] 9 tX1_ripening_ok rfl (fun J hR hJ => ?_)
    rw [cntI, Int.add_zero] at hK
    intro _
    refine ⟨⟨⟨by omega, by omega⟩, hz⟩, fun _ => hR _ _ hK, fun c => ?_⟩
    have c : i < wZ s 1 := c
    omega
  | succ m ih =>
    intro i n h0 h1 hm hK
    refine wx_J [4] 9 tX1_ripening_ok rfl (fun J hR hJ => ?_)
    have g0 := ih (i + 1) n (by omega) (by omega) (by omega)
    have g1 := ih (i + 1) (n + 1) (by omega) (by omega) (by omega)
    have e0 : (¬ wRipe s i (s.1 3) ∧ wRipe s i p) → K [pI (n + 1 + cntI (wRipens s p) m (i + 1))] s := fun c => by
      rw [cntI_t (decide_eq_true c), ← Int.add_assoc] at hK; exact hK
    have e1 : ¬ (¬ wRipe s i (s.1 3) ∧ wRipe s i p) → K [pI (n + cntI (wRipens s p) m (i + 1))] s := fun c => by
      rw [cntI_f (decide_eq_false c)] at hK; exact hK
    intro _
    refine ⟨⟨⟨by omega, by omega⟩, hz⟩, fun c => ?_, fun c => ?_⟩
    · have c : wZ s 1 ≤ i := c
      omega
    · repeat' (first | (refine And.intro ?_ ?_) | intro _)
      all_goals first | omega | exact hJ _ _ _ _ (g0 (e1 (by omega))) | exact hJ _ _ _ _ (g1 (e0 (by omega)))
def sX1_ripening : Int → WS → KW → Prop := fun p s K => xB p ∧ (xB (wRipening s p) → K [pI (wRipening s p)] s)
theorem mX1_ripening_ok : mOk encW bdW mX1_ripening (atR 0 (a1 sX1_ripening)) := by
  refine mOVa1 kX1_ripening (fun _ => rfl) (fun p s K h hb => wx_J [4] 9 tX1_ripening_ok rfl (fun J hR hJ => ?_))
  obtain ⟨h1, h2⟩ := h
  have hz : xB (wZ s 1) := (hb.2 1).1
  have hc := cntI_b (wRipens s p) (wZ s 1).toNat 0
  have hK := h2 ⟨by unfold wRipening; omega, by unfold wRipening; omega⟩
  exact hJ _ _ _ _ (X1_ripening_loop s p h1 hb (wZ s 1).toNat 0 0 (by omega) (by omega) (by omega) (by rw [Int.zero_add]; exact hK))
def ftL (w : WS) (k t : Int) : Nat → Int → Int
  | 0, _ => -1
  | n + 1, i => if wTouch w i k t then i else ftL w k t n (i + 1)
def wFirst (w : WS) (k t : Int) : Int := ftL w k t (wZ w 1).toNat 0
theorem ftL_b (w : WS) (k t : Int) : ∀ (n : Nat) (i : Int), 0 ≤ i → -1 ≤ ftL w k t n i ∧ ftL w k t n i < i + n ∧ (ftL w k t n i = -1 ∨ i ≤ ftL w k t n i)
  | 0, i, h => by unfold ftL; omega
  | n + 1, i, h => by
    have := ftL_b w k t n (i + 1) (by omega)
    unfold ftL
    split <;> omega
theorem X1_firstTouched_loop {K : KW} {Pt : WS → Prop} (s : WS) (k t : Int) (hk : xB k) (ht : xB t) (hb : bdW s) : ∀ (m : Nat) (i : Int), 0 ≤ i → i ≤ max 0 (wZ s 1) → m = (wZ s 1 - i).toNat → K [pI (ftL s k t m i)] s → wX encW bdW mX1_firstTouched 0 0 K Pt 2 [some (pR 0), some (pI k), some (pI t), some (pI i)] [] s := by
  intro m
  have hz : xB (wZ s 1) := (hb.2 1).1
  induction m with
  | zero =>
    intro i h0 h1 hm hK
    refine wx_J [2] 9 tX1_firstTouched_ok rfl (fun J hR hJ => ?_)
    intro _
    refine ⟨⟨⟨by omega, by omega⟩, hz⟩, fun _ => hR _ _ hK, fun c => ?_⟩
    have c : i < wZ s 1 := c
    omega
  | succ m ih =>
    intro i h0 h1 hm hK
    refine wx_J [2] 9 tX1_firstTouched_ok rfl (fun J hR hJ => ?_)
    have g0 := ih (i + 1) (by omega) (by omega) (by omega)
    rw [ftL] at hK
    intro _
    refine ⟨⟨⟨by omega, by omega⟩, hz⟩, fun c => ?_, fun c => ?_⟩
    · have c : wZ s 1 ≤ i := c
      omega
    · refine ⟨⟨⟨by omega, by omega⟩, hk, ht⟩, fun c1 => ?_, fun c1 => ?_⟩
      · rw [if_pos c1] at hK
        repeat' (first | (refine And.intro ?_ ?_) | intro _)
        all_goals first | omega | exact hR _ _ hK
      · rw [if_neg c1] at hK
        repeat' (first | (refine And.intro ?_ ?_) | intro _)
        all_goals first | omega | exact hJ _ _ _ _ (g0 hK)
def sX1_firstTouched : Int → Int → WS → KW → Prop := fun k t s K => (xB k ∧ xB t) ∧ (xB (wFirst s k t) → K [pI (wFirst s k t)] s)
theorem mX1_firstTouched_ok : mOk encW bdW mX1_firstTouched (atR 0 (a2 sX1_firstTouched)) := by
  refine mOVa2 kX1_firstTouched (fun _ _ => rfl) (fun k t s K h hb => wx_J [2] 9 tX1_firstTouched_ok rfl (fun J hR hJ => ?_))
  obtain ⟨⟨h1, h3⟩, h2⟩ := h
  have hz : xB (wZ s 1) := (hb.2 1).1
  have hc := ftL_b s k t (wZ s 1).toNat 0 (by omega)
  have hK := h2 ⟨by unfold wFirst; omega, by unfold wFirst; omega⟩
  exact hJ _ _ _ _ (X1_firstTouched_loop s k t h1 h3 hb (wZ s 1).toNat 0 (by omega) (by omega) (by omega) hK)
def tfL (w : WS) (k t : Int) : Nat → Int → Int
  | 0, _ => 0
  | n + 1, i => if wTouch w i k t then 1 + tfL w k t n (i + 1) else 0
/-- how many touch from a place on -/
def wMany (w : WS) (f k t : Int) : Int := if 0 ≤ f then tfL w k t (wZ w 1 - f).toNat f else 0
theorem tfL_b (w : WS) (k t : Int) : ∀ (n : Nat) (i : Int), 0 ≤ tfL w k t n i ∧ tfL w k t n i ≤ n
  | 0, i => by simp [tfL]
  | n + 1, i => by
    have := tfL_b w k t n (i + 1)
    unfold tfL
    split <;> omega
theorem X1_touchedFrom_loop {K : KW} {Pt : WS → Prop} (s : WS) (f k t : Int) (hk : xB k) (ht : xB t) (hb : bdW s) : ∀ (m : Nat) (i n : Int), 0 ≤ i → xB i → m = (wZ s 1 - i).toNat → K [pI (n + tfL s k t m i)] s → wX encW bdW mX1_touchedFrom 0 0 K Pt 6 [some (pR 0), none, some (pI k), some (pI t), some (pI n), some (pI i)] [] s := by
  intro m
  have hz : xB (wZ s 1) := (hb.2 1).1
  induction m with
  | zero =>
    intro i n h0 h1 hm hK
    refine wx_J [6] 9 tX1_touchedFrom_ok rfl (fun J hR hJ => ?_)
    rw [tfL, Int.add_zero] at hK
    refine ⟨h1, fun c => absurd c (by omega), fun c1 _ => ⟨⟨h1, hz⟩, fun _ => hR _ _ hK, fun c => ?_⟩⟩
    have c : i < wZ s 1 := c
    omega
  | succ m ih =>
    intro i n h0 h1 hm hK
    refine wx_J [6] 9 tX1_touchedFrom_ok rfl (fun J hR hJ => ?_)
    have g0 := ih (i + 1) (n + 1) (by omega) ⟨by omega, by omega⟩ (by omega)
    rw [tfL] at hK
    refine ⟨h1, fun c => absurd c (by omega), fun c1 _ => ⟨⟨h1, hz⟩, fun c => ?_, fun c => ?_⟩⟩
    · have c : wZ s 1 ≤ i := c
      omega
    · refine ⟨⟨h1, hk, ht⟩, fun c1 => ?_, fun c1 => ?_⟩
      · rw [if_pos c1, ← Int.add_assoc] at hK
        repeat' (first | (refine And.intro ?_ ?_) | intro _)
        all_goals first | omega | exact hJ _ _ _ _ (g0 hK)
      · rw [if_neg c1, Int.add_zero] at hK
        repeat' (first | (refine And.intro ?_ ?_) | intro _)
        all_goals first | omega | exact hR _ _ hK
def sX1_touchedFrom : Int → Int → Int → WS → KW → Prop := fun f k t s K => (xB f ∧ xB k ∧ xB t) ∧ (xB (wMany s f k t) → K [pI (wMany s f k t)] s)
theorem mX1_touchedFrom_ok : mOk encW bdW mX1_touchedFrom (atR 0 (a3 sX1_touchedFrom)) := by
  refine mOVa3 kX1_touchedFrom (fun _ _ _ => rfl) (fun f k t s K h hb => wx_J [6] 9 tX1_touchedFrom_ok rfl (fun J hR hJ => ?_))
  obtain ⟨⟨h1, h3, h4⟩, h2⟩ := h
  have hz : xB (wZ s 1) := (hb.2 1).1
  have hc := tfL_b s k t (wZ s 1 - f).toNat f
  by_cases c : 0 ≤ f
  · have hK := h2 ⟨by unfold wMany; rw [if_pos c]; omega, by unfold wMany; rw [if_pos c]; omega⟩
    rw [wMany, if_pos c] at hK
    exact hJ _ _ _ _ (X1_touchedFrom_loop s f k t h3 h4 hb _ f 0 c h1 rfl (by rw [Int.zero_add]; exact hK))
  · have hK := h2 ⟨by unfold wMany; rw [if_neg c]; omega, by unfold wMany; rw [if_neg c]; omega⟩
    rw [wMany, if_neg c] at hK
    refine hJ _ _ _ _ (wx_J [6] 9 tX1_touchedFrom_ok rfl (fun J hR hJ => ?_))
    repeat' (first | (refine And.intro ?_ ?_) | intro _)
    all_goals first | omega | exact hR _ _ hK
def pfL (w : WS) (k t : Int) : Nat → Int → Int
  | 0, i => i
  | n + 1, i => if k < wG w 1 i 0 ∨ (wG w 1 i 0 = k ∧ t < wG w 1 i 1) then i else pfL w k t n (i + 1)
def wPlace (w : WS) (k t : Int) : Int := pfL w k t (wZ w 1).toNat 0
theorem pfL_b (w : WS) (k t : Int) : ∀ (n : Nat) (i : Int), i ≤ pfL w k t n i ∧ pfL w k t n i ≤ i + n
  | 0, i => by simp [pfL]
  | n + 1, i => by
    have := pfL_b w k t n (i + 1)
    unfold pfL
    split <;> omega
theorem X1_placeFor_loop {K : KW} {Pt : WS → Prop} (s : WS) (k t : Int) (hk : xB k) (ht : xB t) (hb : bdW s) (h00 : 0 ≤ wZ s 1) : ∀ (m : Nat) (i : Int), 0 ≤ i → i ≤ wZ s 1 → m = (wZ s 1 - i).toNat → K [pI (pfL s k t m i)] s → wX encW bdW mX1_placeFor 0 0 K Pt 2 [some (pR 0), some (pI k), some (pI t), some (pI i), none, none] [] s := by
  intro m
  have hz : xB (wZ s 1) := (hb.2 1).1
  induction m with
  | zero =>
    intro i h0 h1 hm hK
    refine wx_J [2] 9 tX1_placeFor_ok rfl (fun J hR hJ => ?_)
    intro _
    refine ⟨⟨⟨by omega, by omega⟩, hz⟩, fun _ _ => hR _ _ ?_, fun c => ?_⟩
    · have e : i = wZ s 1 := by omega
      rw [pfL, e] at hK
      exact hK
    · have c : i < wZ s 1 := c
      omega
  | succ m ih =>
    intro i h0 h1 hm hK
    refine wx_J [2] 9 tX1_placeFor_ok rfl (fun J hR hJ => ?_)
    have g0 := ih (i + 1) (by omega) (by omega) (by omega)
    rw [pfL] at hK
    intro _
    refine ⟨⟨⟨by omega, by omega⟩, hz⟩, fun c => ?_, fun c => ?_⟩
    · have c : wZ s 1 ≤ i := c
      omega
    · have eT : (k < wG s 1 i 0 ∨ (wG s 1 i 0 = k ∧ t < wG s 1 i 1)) → K [pI i] s := fun c1 => by rw [if_pos c1] at hK; exact hK
      have eF : ¬ (k < wG s 1 i 0 ∨ (wG s 1 i 0 = k ∧ t < wG s 1 i 1)) → K [pI (pfL s k t m (i + 1))] s := fun c1 => by rw [if_neg c1] at hK; exact hK
      repeat' (first | (refine And.intro ?_ ?_) | intro _)
      all_goals first | omega | exact hR _ _ (eT (by omega)) | exact hJ _ _ _ _ (g0 (eF (by omega)))
def sX1_placeFor : Int → Int → WS → KW → Prop := fun k t s K => (xB k ∧ xB t ∧ 0 ≤ wZ s 1) ∧ (xB (wPlace s k t) → K [pI (wPlace s k t)] s)
theorem mX1_placeFor_ok : mOk encW bdW mX1_placeFor (atR 0 (a2 sX1_placeFor)) := by
  refine mOVa2 kX1_placeFor (fun _ _ => rfl) (fun k t s K h hb => wx_J [2] 9 tX1_placeFor_ok rfl (fun J hR hJ => ?_))
  obtain ⟨⟨h1, h3, h4⟩, h2⟩ := h
  have hz : xB (wZ s 1) := (hb.2 1).1
  have hc := pfL_b s k t (wZ s 1).toNat 0
  have hK := h2 ⟨by unfold wPlace; omega, by unfold wPlace; omega⟩
  exact hJ _ _ _ _ (X1_placeFor_loop s k t h1 h3 hb h4 (wZ s 1).toNat 0 (by omega) (by omega) (by omega) hK)
end
-- 28.Wl
section
/-! ===== World: leastMark, sentOf, dueBehind ===== -/
def cW_X1_ripening : Sp WS := atR 0 (a1 sX1_ripening)
theorem qW_X1_ripening {M : XI} {rc rs pc pc2 : Nat} (d : xl_Ca M pc mX1_ripening pc2) : cOk encW bdW M rc rs pc pc2 2 cW_X1_ripening := cSame mX1_ripening_ok vX1_ripening d wcl rfl lenW recW
def cW_X1_firstTouched : Sp WS := atR 0 (a2 sX1_firstTouched)
theorem qW_X1_firstTouched {M : XI} {rc rs pc pc2 : Nat} (d : xl_Ca M pc mX1_firstTouched pc2) : cOk encW bdW M rc rs pc pc2 3 cW_X1_firstTouched := cSame mX1_firstTouched_ok vX1_firstTouched d wcl rfl lenW recW
def cW_X1_touchedFrom : Sp WS := atR 0 (a3 sX1_touchedFrom)
theorem qW_X1_touchedFrom {M : XI} {rc rs pc pc2 : Nat} (d : xl_Ca M pc mX1_touchedFrom pc2) : cOk encW bdW M rc rs pc pc2 4 cW_X1_touchedFrom := cSame mX1_touchedFrom_ok vX1_touchedFrom d wcl rfl lenW recW
def cW_X1_placeFor : Sp WS := atR 0 (a2 sX1_placeFor)
theorem qW_X1_placeFor {M : XI} {rc rs pc pc2 : Nat} (d : xl_Ca M pc mX1_placeFor pc2) : cOk encW bdW M rc rs pc pc2 3 cW_X1_placeFor := cSame mX1_placeFor_ok vX1_placeFor d wcl rfl lenW recW
def lmL (w : WS) (lo : Int) : Nat → Int → Int → Int
  | 0, _, l => l
  | n + 1, s, l => lmL w lo n (s + 1) (if s = lo ∨ wG w 0 s 2 ≠ 0 then l else if l < 0 then wG w 0 s 0 else min l (wG w 0 s 0))
def wLeast (w : WS) (lo : Int) : Int := lmL w lo (wZ w 0).toNat 0 (-1)
theorem min_B {a b : Int} (h1 : xB a) (h2 : xB b) : xB (min a b) := ⟨by omega, by omega⟩
theorem max_B {a b : Int} (h1 : xB a) (h2 : xB b) : xB (max a b) := ⟨by omega, by omega⟩
theorem lmL_B (w : WS) (lo : Int) (hb : bdW w) : ∀ (n : Nat) (s l : Int), xB l → xB (lmL w lo n s l)
  | 0, _, _, h => h
  | n + 1, s, l, h => by
    refine lmL_B w lo hb n (s + 1) _ ?_
    split
    · exact h
    · split
      · exact wG_B hb
      · exact min_B h (wG_B hb)
theorem X1_leastMark_loop {K : KW} {Pt : WS → Prop} (s : WS) (lo : Int) (hlo : xB lo) (hb : bdW s) : ∀ (m : Nat) (i l : Int), 0 ≤ i → xB l → i ≤ max 0 (wZ s 0) → m = (wZ s 0 - i).toNat → K [pI (lmL s lo m i l)] s → wX encW bdW mX1_leastMark 0 0 K Pt 4 [some (pR 0), some (pI lo), some (pI l), some (pI i), none] [] s := by
  intro m
  have hz : xB (wZ s 0) := (hb.2 0).1
  induction m with
  | zero =>
    intro i l h0 hl h1 hm hK
    refine wx_J [4] 9 tX1_leastMark_ok rfl (fun J hR hJ => ?_)
    intro _
    refine ⟨⟨⟨by omega, by omega⟩, hz⟩, fun _ => hR _ _ hK, fun c => ?_⟩
    have c : i < wZ s 0 := c
    omega
  | succ m ih =>
    intro i l h0 hl h1 hm hK
    refine wx_J [4] 9 tX1_leastMark_ok rfl (fun J hR hJ => ?_)
    have hB := wG_B (t := 0) (i := i) (c := 0) hb
    have g1 := ih (i + 1) l (by omega) hl (by omega) (by omega)
    have g2 := ih (i + 1) (wG s 0 i 0) (by omega) hB (by omega) (by omega)
    have g3 := ih (i + 1) (min l (wG s 0 i 0)) (by omega) (min_B hl hB) (by omega) (by omega)
    rw [lmL] at hK
    have e1 : (i = lo ∨ wG s 0 i 2 ≠ 0) → K [pI (lmL s lo m (i + 1) l)] s := fun c => by rw [if_pos c] at hK; exact hK
    have e2 : ¬ (i = lo ∨ wG s 0 i 2 ≠ 0) → l < 0 → K [pI (lmL s lo m (i + 1) (wG s 0 i 0))] s := fun c c2 => by rw [if_neg c, if_pos c2] at hK; exact hK
    have e3 : ¬ (i = lo ∨ wG s 0 i 2 ≠ 0) → ¬ l < 0 → K [pI (lmL s lo m (i + 1) (min l (wG s 0 i 0)))] s := fun c c2 => by rw [if_neg c, if_neg c2] at hK; exact hK
    intro _
    refine ⟨⟨⟨by omega, by omega⟩, hz⟩, fun c => ?_, fun c => ?_⟩
    · have c : wZ s 0 ≤ i := c
      omega
    · repeat' (first | (refine And.intro ?_ ?_) | intro _)
      all_goals first | omega | exact hJ _ _ _ _ (g1 (e1 (by omega))) | exact hJ _ _ _ _ (g2 (e2 (by omega) (by omega))) | exact hJ _ _ _ _ (g3 (e3 (by omega) (by omega)))
def sX1_leastMark : Int → WS → KW → Prop := fun lo s K => xB lo ∧ (xB (wLeast s lo) → K [pI (wLeast s lo)] s)
theorem mX1_leastMark_ok : mOk encW bdW mX1_leastMark (atR 0 (a1 sX1_leastMark)) := by
  refine mOVa1 kX1_leastMark (fun _ => rfl) (fun lo s K h hb => wx_J [4] 9 tX1_leastMark_ok rfl (fun J hR hJ => ?_))
  obtain ⟨h1, h2⟩ := h
  have hz : xB (wZ s 0) := (hb.2 0).1
  have hK := h2 (lmL_B s lo hb _ _ _ ⟨by omega, by omega⟩)
  exact hJ _ _ _ _ (X1_leastMark_loop s lo h1 hb (wZ s 0).toNat 0 (-1) (by omega) ⟨by omega, by omega⟩ (by omega) (by omega) hK)
def cW_X1_leastMark : Sp WS := atR 0 (a1 sX1_leastMark)
theorem qW_X1_leastMark {M : XI} {rc rs pc pc2 : Nat} (d : xl_Ca M pc mX1_leastMark pc2) : cOk encW bdW M rc rs pc pc2 2 cW_X1_leastMark := cSame mX1_leastMark_ok vX1_leastMark d wcl rfl lenW recW
def wSentOf (w : WS) (k : Int) : Int := sumI (fun i => wG w 5 i k) 6 0 0
theorem X1_sentOf_loop {K : KW} {Pt : WS → Prop} (s : WS) (k : Int) (hk : xB k) (hb : bdW s) : ∀ (m : Nat) (i n : Int), 0 ≤ i → i ≤ 6 → m = (6 - i).toNat → K [pI (sumI (fun i => wG s 5 i k) m i n)] s → wX encW bdW mX1_sentOf 0 0 K Pt 4 [some (pR 0), some (pI k), some (pI n), some (pI i)] [] s := by
  intro m
  induction m with
  | zero =>
    intro i n h0 h1 hm hK
    refine wx_J [4] 9 tX1_sentOf_ok rfl (fun J hR hJ => ?_)
    repeat' (first | (refine And.intro ?_ ?_) | intro _)
    all_goals first | omega | exact hR _ _ hK
  | succ m ih =>
    intro i n h0 h1 hm hK
    refine wx_J [4] 9 tX1_sentOf_ok rfl (fun J hR hJ => ?_)
    have g0 := ih (i + 1) (wI (n + wG s 5 i k)) (by omega) (by omega) (by omega) hK
    repeat' (first | (refine And.intro ?_ ?_) | intro _)
    all_goals first | omega | exact hJ _ _ _ _ g0
def sX1_sentOf : Int → WS → KW → Prop := fun k s K => xB k ∧ (xB (wSentOf s k) → K [pI (wSentOf s k)] s)
theorem mX1_sentOf_ok : mOk encW bdW mX1_sentOf (atR 0 (a1 sX1_sentOf)) := by
  refine mOVa1 kX1_sentOf (fun _ => rfl) (fun k s K h hb => wx_J [4] 9 tX1_sentOf_ok rfl (fun J hR hJ => ?_))
  obtain ⟨h1, h2⟩ := h
  exact hJ _ _ _ _ (X1_sentOf_loop s k h1 hb 6 0 0 (by omega) (by omega) (by omega) (h2 (sumI_B _ _ _ _ ⟨by omega, by omega⟩)))
/-- whose turn it is: found, and its turn -/
abbrev wDueC (w : WS) (pa be i : Int) : Prop := wRipe w i (w.1 3) ∧ ¬ (wRipe w i be ∧ ¬ wOver w i (w.1 3)) ∧ pa < wTurn w i
def dbL (w : WS) (pa be : Int) : Nat → Int → Int → Int → Int
  | 0, _, f, _ => f
  | n + 1, i, f, l => if wDueC w pa be i ∧ (f < 0 ∨ wTurn w i < l) then dbL w pa be n (i + 1) i (wTurn w i) else dbL w pa be n (i + 1) f l
def wDue (w : WS) (pa be : Int) : Int := dbL w pa be (wZ w 1).toNat 0 (-1) 0
theorem dbL_b (w : WS) (pa be : Int) : ∀ (n : Nat) (i f l : Int), 0 ≤ i → (f = -1 ∨ (0 ≤ f ∧ f < i)) → dbL w pa be n i f l = -1 ∨ (0 ≤ dbL w pa be n i f l ∧ dbL w pa be n i f l < i + n)
  | 0, i, f, l, h, h1 => by unfold dbL; omega
  | n + 1, i, f, l, h, h1 => by
    unfold dbL
    split
    · have := dbL_b w pa be n (i + 1) i (wTurn w i) (by omega) (by omega)
      omega
    · have := dbL_b w pa be n (i + 1) f l (by omega) (by omega)
      omega
theorem X1_dueBehind_loop {K : KW} {Pt : WS → Prop} (s : WS) (pa be : Int) (hpa : xB pa) (hbe : xB be) (hb : bdW s) : ∀ (m : Nat) (i f l : Int), 0 ≤ i → xB f → xB l → i ≤ max 0 (wZ s 1) → m = (wZ s 1 - i).toNat → K [pI (dbL s pa be m i f l)] s → wX encW bdW mX1_dueBehind 0 0 K Pt 8 [some (pR 0), some (pI pa), some (pI be), some (pI f), some (pI l), some (pI i), none] [] s := by
  intro m
  have hz : xB (wZ s 1) := (hb.2 1).1
  induction m with
  | zero =>
    intro i f l h0 hf hl h1 hm hK
    refine wx_J [8] 9 tX1_dueBehind_ok rfl (fun J hR hJ => ?_)
    intro _
    refine ⟨⟨⟨by omega, by omega⟩, hz⟩, fun _ => hR _ _ hK, fun c => ?_⟩
    have c : i < wZ s 1 := c
    omega
  | succ m ih =>
    intro i f l h0 hf hl h1 hm hK
    refine wx_J [8] 9 tX1_dueBehind_ok rfl (fun J hR hJ => ?_)
    have g1 := ih (i + 1) f l (by omega) hf hl (by omega) (by omega)
    have g2 := ih (i + 1) i (wTurn s i) (by omega) ⟨by omega, by omega⟩ (wI_B _) (by omega) (by omega)
    rw [dbL] at hK
    have e1 : (wDueC s pa be i ∧ (f < 0 ∨ wTurn s i < l)) → K [pI (dbL s pa be m (i + 1) i (wTurn s i))] s := fun c => by rw [if_pos c] at hK; exact hK
    have e2 : ¬ (wDueC s pa be i ∧ (f < 0 ∨ wTurn s i < l)) → K [pI (dbL s pa be m (i + 1) f l)] s := fun c => by rw [if_neg c] at hK; exact hK
    intro _
    refine ⟨⟨⟨by omega, by omega⟩, hz⟩, fun c => ?_, fun c => ?_⟩
    · have c : wZ s 1 ≤ i := c
      omega
    · repeat' (first | (refine And.intro ?_ ?_) | intro _)
      all_goals first | omega | exact hJ _ _ _ _ (g1 (e2 (by omega))) | exact hJ _ _ _ _ (g2 (e1 (by omega)))
def sX1_dueBehind : Int → Int → WS → KW → Prop := fun pa be s K => (xB pa ∧ xB be) ∧ (xB (wDue s pa be) → K [pI (wDue s pa be)] s)
theorem mX1_dueBehind_ok : mOk encW bdW mX1_dueBehind (atR 0 (a2 sX1_dueBehind)) := by
  refine mOVa2 kX1_dueBehind (fun _ _ => rfl) (fun pa be s K h hb => wx_J [8] 9 tX1_dueBehind_ok rfl (fun J hR hJ => ?_))
  obtain ⟨⟨h1, h3⟩, h2⟩ := h
  have hz : xB (wZ s 1) := (hb.2 1).1
  have hc := dbL_b s pa be (wZ s 1).toNat 0 (-1) 0 (by omega) (by omega)
  have hK := h2 ⟨by unfold wDue; omega, by unfold wDue; omega⟩
  exact hJ _ _ _ _ (X1_dueBehind_loop s pa be h1 h3 hb (wZ s 1).toNat 0 (-1) 0 (by omega) ⟨by omega, by omega⟩ ⟨by omega, by omega⟩ (by omega) (by omega) hK)
def cW_X1_dueBehind : Sp WS := atR 0 (a2 sX1_dueBehind)
theorem qW_X1_dueBehind {M : XI} {rc rs pc pc2 : Nat} (d : xl_Ca M pc mX1_dueBehind pc2) : cOk encW bdW M rc rs pc pc2 3 cW_X1_dueBehind := cSame mX1_dueBehind_ok vX1_dueBehind d wcl rfl lenW recW
-- X1_send: heads []
def tX1_send : Nat → Blk WS := fun pc => bif Nat.beq pc 0 then (oAld 0 <| oGet (fgW) 1 4 <| oI 60 <| oRemT <| oIst 3 <| oAld 0 <| oGet (fgW) 1 12 <| oIld 3 <| oC2 (cW_X0_reach) <| oAld 0 <| oGet (fgW) 1 11 <| oIld 2 <| oI 0 <| oC3 (cW_X0_get) <| oIst 4 <| oAld 0 <| oGet (fgW) 1 12 <| oIld 3 <| oI 0 <| oIld 1 <| oC4 (cW_X0_set) <| oAld 0 <| oGet (fgW) 1 12 <| oIld 3 <| oI 1 <| oIld 4 <| oC4 (cW_X0_set) <| oAld 0 <| oGet (fgW) 1 12 <| oIld 3 <| oI 2 <| oAld 0 <| oGet (fgW) 1 11 <| oIld 2 <| oI 1 <| oC3 (cW_X0_get) <| oC4 (cW_X0_set) <| oAld 0 <| oGet (fgW) 1 12 <| oIld 3 <| oI 3 <| oAld 0 <| oGet (fgW) 1 11 <| oIld 2 <| oI 2 <| oC3 (cW_X0_get) <| oC4 (cW_X0_set) <| oAld 0 <| oGet (fgW) 1 12 <| oIld 3 <| oI 4 <| oAld 0 <| oGet (fgW) 1 11 <| oIld 2 <| oI 3 <| oC3 (cW_X0_get) <| oC4 (cW_X0_set) <| oAld 0 <| oGet (fgW) 1 12 <| oIld 3 <| oI 5 <| oAld 0 <| oGet (fgW) 1 11 <| oIld 2 <| oI 4 <| oC3 (cW_X0_get) <| oC4 (cW_X0_set) <| oAld 0 <| oGet (fgW) 1 15 <| oIld 4 <| oIld 1 <| oI 1 <| oC4 (cW_X0_add) <| oAld 0 <| oDup <| oGet (fgW) 1 4 <| oI 1 <| oAddW <| oPut (fpW) 1 4 <| oVret) else oNo
theorem tX1_send_ok : ∀ pc, bOk (encW) (bdW) mX1_send 0 0 pc (tX1_send pc) := fun pc => (tLeaf (okAldn iX1_send_0 rfl <| okGet (vFgW) iX1_send_1 <| okBi iX1_send_4 (by decide) <| okRemT iX1_send_6 <| okIstn iX1_send_7 rfl (by decide) <| okAldn iX1_send_8 rfl <| okGet (vFgW) iX1_send_9 <| okIldn iX1_send_12 rfl <| okC2 (qW_X0_reach iX1_send_13) <| okAldn iX1_send_16 rfl <| okGet (vFgW) iX1_send_17 <| okIldn iX1_send_20 rfl <| okIc iX1_send_21 <| okC3 (qW_X0_get iX1_send_22) <| okIst iX1_send_25 (by decide) <| okAldn iX1_send_27 rfl <| okGet (vFgW) iX1_send_28 <| okIldn iX1_send_31 rfl <| okIc iX1_send_32 <| okIldn iX1_send_33 rfl <| okC4 (qW_X0_set iX1_send_34) <| okAldn iX1_send_37 rfl <| okGet (vFgW) iX1_send_38 <| okIldn iX1_send_41 rfl <| okIc iX1_send_42 <| okIld iX1_send_43 <| okC4 (qW_X0_set iX1_send_45) <| okAldn iX1_send_48 rfl <| okGet (vFgW) iX1_send_49 <| okIldn iX1_send_52 rfl <| okIc iX1_send_53 <| okAldn iX1_send_54 rfl <| okGet (vFgW) iX1_send_55 <| okIldn iX1_send_58 rfl <| okIc iX1_send_59 <| okC3 (qW_X0_get iX1_send_60) <| okC4 (qW_X0_set iX1_send_63) <| okAldn iX1_send_66 rfl <| okGet (vFgW) iX1_send_67 <| okIldn iX1_send_70 rfl <| okIc iX1_send_71 <| okAldn iX1_send_72 rfl <| okGet (vFgW) iX1_send_73 <| okIldn iX1_send_76 rfl <| okIc iX1_send_77 <| okC3 (qW_X0_get iX1_send_78) <| okC4 (qW_X0_set iX1_send_81) <| okAldn iX1_send_84 rfl <| okGet (vFgW) iX1_send_85 <| okIldn iX1_send_88 rfl <| okIc iX1_send_89 <| okAldn iX1_send_90 rfl <| okGet (vFgW) iX1_send_91 <| okIldn iX1_send_94 rfl <| okIc iX1_send_95 <| okC3 (qW_X0_get iX1_send_96) <| okC4 (qW_X0_set iX1_send_99) <| okAldn iX1_send_102 rfl <| okGet (vFgW) iX1_send_103 <| okIldn iX1_send_106 rfl <| okIc iX1_send_107 <| okAldn iX1_send_108 rfl <| okGet (vFgW) iX1_send_109 <| okIldn iX1_send_112 rfl <| okIc iX1_send_113 <| okC3 (qW_X0_get iX1_send_114) <| okC4 (qW_X0_set iX1_send_117) <| okAldn iX1_send_120 rfl <| okGet (vFgW) iX1_send_121 <| okIld iX1_send_124 <| okIldn iX1_send_126 rfl <| okIc iX1_send_127 <| okC4 (qW_X0_add iX1_send_128) <| okAldn iX1_send_131 rfl <| okDup iX1_send_132 <| okGet (vFgW) iX1_send_133 <| okIc iX1_send_136 <| okAddW iX1_send_137 <| okPut (vFpW) iX1_send_138 <| okVret iX1_send_141 rfl)) pc
def wSend (w : WS) (k i : Int) : WS :=
  let q := Int.tmod (w.1 4) 60
  wFd (wA (wP (wP (wP (wP (wP (wP (wRe w 2 q) 2 q 0 k) 2 q 1 (wG w 1 i 0)) 2 q 2 (wG w 1 i 1)) 2 q 3 (wG w 1 i 2)) 2 q 4 (wG w 1 i 3)) 2 q 5 (wG w 1 i 4)) 5 (wG w 1 i 0) k 1) 4 (wI (w.1 4 + 1))
theorem tmod_B {a b : Int} (ha : xB a) (hb : 0 < b) (hb2 : b ≤ 2147483647) : xB (Int.tmod a b) := by
  have e1 := Int.tmod_lt_of_pos a hb
  have e2 := Int.lt_tmod_of_pos a hb
  exact ⟨by omega, by omega⟩
def sX1_send : Int → Int → WS → KW → Prop := fun k i s K => (xB k ∧ xB i) ∧ K [] (wSend s k i)
theorem mX1_send_ok : mOk encW bdW mX1_send (atR 0 (a2 sX1_send)) := by
  refine mOVa2 kX1_send (fun _ _ => rfl) (fun k i s K h hb => wx_J [] 9 tX1_send_ok rfl (fun J hR hJ => ?_))
  obtain ⟨h1, hK⟩ := h
  have hq := tmod_B (b := 60) (hb.1 4) (by omega) (by omega)
  repeat' (first | (refine And.intro ?_ ?_) | intro _)
  all_goals first | omega | exact hR _ _ hK
def cW_X1_send : Sp WS := atR 0 (a2 sX1_send)
theorem qW_X1_send {M : XI} {rc rs pc pc2 : Nat} (d : xl_Ca M pc mX1_send pc2) : cOk encW bdW M rc rs pc pc2 3 cW_X1_send := cSame mX1_send_ok vX1_send d wcl rfl lenW recW
end
-- 29.Wm
section
/-! ===== World: small changes ===== -/
-- X1_takeBack: heads []
def tX1_takeBack : Nat → Blk WS := fun pc => bif Nat.blt pc 25 then (bif Nat.beq pc 0 then (oAld 0 <| oIld 1 <| oC2 (cW_X1_hasResult) <| oZEq 25 <| oAld 0 <| oI 3 <| oIld 1 <| oC3 (cW_X1_send) <| oAld 0 <| oGet (fgW) 1 11 <| oIld 1 <| oI 6 <| oI (-1) <| oC4 (cW_X0_set) <| oTo 25) else oNo) else (bif Nat.beq pc 25 then (oVret) else oNo)
theorem tX1_takeBack_ok : ∀ pc, bOk (encW) (bdW) mX1_takeBack 0 0 pc (tX1_takeBack pc) := fun pc => (tNode (tLeaf (okAldn iX1_takeBack_0 rfl <| okIldn iX1_takeBack_1 rfl <| okC2 (qW_X1_hasResult iX1_takeBack_2) <| okZEq (tl rfl) iX1_takeBack_5 <| okAldn iX1_takeBack_8 rfl <| okIc iX1_takeBack_9 <| okIldn iX1_takeBack_10 rfl <| okC3 (qW_X1_send iX1_takeBack_11) <| okAldn iX1_takeBack_14 rfl <| okGet (vFgW) iX1_takeBack_15 <| okIldn iX1_takeBack_18 rfl <| okBi iX1_takeBack_19 (by decide) <| okIc iX1_takeBack_21 <| okC4 (qW_X0_set iX1_takeBack_22) <| okTo (tl rfl))) (tLeaf (okVret iX1_takeBack_25 rfl))) pc
-- X1_announce: heads []
def tX1_announce : Nat → Blk WS := fun pc => bif Nat.beq pc 0 then (oAld 0 <| oIld 1 <| oIld 2 <| oC3 (cW_X1_send) <| oAld 0 <| oGet (fgW) 1 11 <| oIld 2 <| oI 6 <| oIld 1 <| oC4 (cW_X0_set) <| oVret) else oNo
theorem tX1_announce_ok : ∀ pc, bOk (encW) (bdW) mX1_announce 0 0 pc (tX1_announce pc) := fun pc => (tLeaf (okAldn iX1_announce_0 rfl <| okIldn iX1_announce_1 rfl <| okIldn iX1_announce_2 rfl <| okC3 (qW_X1_send iX1_announce_3) <| okAldn iX1_announce_6 rfl <| okGet (vFgW) iX1_announce_7 <| okIldn iX1_announce_10 rfl <| okBi iX1_announce_11 (by decide) <| okIldn iX1_announce_13 rfl <| okC4 (qW_X0_set iX1_announce_14) <| okVret iX1_announce_17 rfl)) pc
-- X1_kindOfNew: heads []
def tX1_kindOfNew : Nat → Blk WS := fun pc => bif Nat.blt pc 43 then (bif Nat.blt pc 14 then (bif Nat.beq pc 0 then (oAld 0 <| oIld 1 <| oAld 0 <| oGet (fgW) 1 3 <| oC3 (cW_X1_isRipe) <| oZEq 14 <| oI 2 <| oIret) else oNo) else (bif Nat.blt pc 42 then (bif Nat.beq pc 14 then (oAld 0 <| oGet (fgW) 1 2 <| oZLe 42 <| oAld 0 <| oGet (fgW) 1 11 <| oIld 1 <| oI 3 <| oC3 (cW_X0_get) <| oAld 0 <| oGet (fgW) 1 2 <| oRemT <| oZNe 42 <| oI 1 <| oTo 43) else oNo) else (bif Nat.beq pc 42 then (oI 0 <| oTo 43) else oNo))) else (bif Nat.blt pc 52 then (bif Nat.beq pc 43 then (oIst 2 <| oIld 2 <| oZEq 52 <| oI 0 <| oTo 53) else oNo) else (bif Nat.blt pc 53 then (bif Nat.beq pc 52 then (oI (-1) <| oTo 53) else oNo) else (bif Nat.beq pc 53 then (oIret) else oNo)))
theorem tX1_kindOfNew_ok : ∀ pc, bOk (encW) (bdW) mX1_kindOfNew 0 0 pc (tX1_kindOfNew pc) := fun pc => (tNode (tNode (tLeaf (okAldn iX1_kindOfNew_0 rfl <| okIldn iX1_kindOfNew_1 rfl <| okAldn iX1_kindOfNew_2 rfl <| okGet (vFgW) iX1_kindOfNew_3 <| okC3 (qW_X1_isRipe iX1_kindOfNew_6) <| okZEq (tl rfl) iX1_kindOfNew_9 <| okIc iX1_kindOfNew_12 <| okIret iX1_kindOfNew_13 rfl)) (tNode (tLeaf (okAldn iX1_kindOfNew_14 rfl <| okGet (vFgW) iX1_kindOfNew_15 <| okZLe (tl rfl) iX1_kindOfNew_18 <| okAldn iX1_kindOfNew_21 rfl <| okGet (vFgW) iX1_kindOfNew_22 <| okIldn iX1_kindOfNew_25 rfl <| okIc iX1_kindOfNew_26 <| okC3 (qW_X0_get iX1_kindOfNew_27) <| okAldn iX1_kindOfNew_30 rfl <| okGet (vFgW) iX1_kindOfNew_31 <| okRemT iX1_kindOfNew_34 <| okZNe (tl rfl) iX1_kindOfNew_35 <| okIc iX1_kindOfNew_38 <| okGoto (tl rfl) iX1_kindOfNew_39)) (tLeaf (okIc iX1_kindOfNew_42 <| okTo (tl rfl))))) (tNode (tLeaf (okIstn iX1_kindOfNew_43 rfl (by decide) <| okIldn iX1_kindOfNew_44 rfl <| okZEq (tl rfl) iX1_kindOfNew_45 <| okIc iX1_kindOfNew_48 <| okGoto (tl rfl) iX1_kindOfNew_49)) (tNode (tLeaf (okIc iX1_kindOfNew_52 <| okTo (tl rfl))) (tLeaf (okIret iX1_kindOfNew_53 rfl))))) pc
-- X1_swallowNext: heads []
def tX1_swallowNext : Nat → Blk WS := fun pc => bif Nat.beq pc 0 then (oIld 1 <| oI 1 <| oAddW <| oIst 2 <| oAld 0 <| oGet (fgW) 1 11 <| oIld 1 <| oI 1 <| oAld 0 <| oGet (fgW) 1 11 <| oIld 1 <| oI 1 <| oC3 (cW_X0_get) <| oAld 0 <| oGet (fgW) 1 11 <| oIld 2 <| oI 1 <| oC3 (cW_X0_get) <| oMin <| oC4 (cW_X0_set) <| oAld 0 <| oGet (fgW) 1 11 <| oIld 1 <| oI 2 <| oAld 0 <| oGet (fgW) 1 11 <| oIld 1 <| oI 2 <| oC3 (cW_X0_get) <| oAld 0 <| oGet (fgW) 1 11 <| oIld 2 <| oI 2 <| oC3 (cW_X0_get) <| oMax <| oC4 (cW_X0_set) <| oAld 0 <| oGet (fgW) 1 11 <| oIld 1 <| oI 3 <| oAld 0 <| oGet (fgW) 1 11 <| oIld 2 <| oI 3 <| oC3 (cW_X0_get) <| oC4 (cW_X0_add) <| oAld 0 <| oGet (fgW) 1 11 <| oIld 1 <| oI 4 <| oAld 0 <| oGet (fgW) 1 11 <| oIld 2 <| oI 4 <| oC3 (cW_X0_get) <| oC4 (cW_X0_add) <| oAld 0 <| oGet (fgW) 1 11 <| oIld 1 <| oI 5 <| oAld 0 <| oGet (fgW) 1 11 <| oIld 1 <| oI 5 <| oC3 (cW_X0_get) <| oAld 0 <| oGet (fgW) 1 11 <| oIld 2 <| oI 5 <| oC3 (cW_X0_get) <| oMax <| oC4 (cW_X0_set) <| oAld 0 <| oGet (fgW) 1 11 <| oIld 2 <| oC2 (cW_X0_drop) <| oVret) else oNo
theorem tX1_swallowNext_ok : ∀ pc, bOk (encW) (bdW) mX1_swallowNext 0 0 pc (tX1_swallowNext pc) := fun pc => (tLeaf (okIldn iX1_swallowNext_0 rfl <| okIc iX1_swallowNext_1 <| okAddW iX1_swallowNext_2 <| okIstn iX1_swallowNext_3 rfl (by decide) <| okAldn iX1_swallowNext_4 rfl <| okGet (vFgW) iX1_swallowNext_5 <| okIldn iX1_swallowNext_8 rfl <| okIc iX1_swallowNext_9 <| okAldn iX1_swallowNext_10 rfl <| okGet (vFgW) iX1_swallowNext_11 <| okIldn iX1_swallowNext_14 rfl <| okIc iX1_swallowNext_15 <| okC3 (qW_X0_get iX1_swallowNext_16) <| okAldn iX1_swallowNext_19 rfl <| okGet (vFgW) iX1_swallowNext_20 <| okIldn iX1_swallowNext_23 rfl <| okIc iX1_swallowNext_24 <| okC3 (qW_X0_get iX1_swallowNext_25) <| okMin iX1_swallowNext_28 <| okC4 (qW_X0_set iX1_swallowNext_31) <| okAldn iX1_swallowNext_34 rfl <| okGet (vFgW) iX1_swallowNext_35 <| okIldn iX1_swallowNext_38 rfl <| okIc iX1_swallowNext_39 <| okAldn iX1_swallowNext_40 rfl <| okGet (vFgW) iX1_swallowNext_41 <| okIldn iX1_swallowNext_44 rfl <| okIc iX1_swallowNext_45 <| okC3 (qW_X0_get iX1_swallowNext_46) <| okAldn iX1_swallowNext_49 rfl <| okGet (vFgW) iX1_swallowNext_50 <| okIldn iX1_swallowNext_53 rfl <| okIc iX1_swallowNext_54 <| okC3 (qW_X0_get iX1_swallowNext_55) <| okMax iX1_swallowNext_58 <| okC4 (qW_X0_set iX1_swallowNext_61) <| okAldn iX1_swallowNext_64 rfl <| okGet (vFgW) iX1_swallowNext_65 <| okIldn iX1_swallowNext_68 rfl <| okIc iX1_swallowNext_69 <| okAldn iX1_swallowNext_70 rfl <| okGet (vFgW) iX1_swallowNext_71 <| okIldn iX1_swallowNext_74 rfl <| okIc iX1_swallowNext_75 <| okC3 (qW_X0_get iX1_swallowNext_76) <| okC4 (qW_X0_add iX1_swallowNext_79) <| okAldn iX1_swallowNext_82 rfl <| okGet (vFgW) iX1_swallowNext_83 <| okIldn iX1_swallowNext_86 rfl <| okIc iX1_swallowNext_87 <| okAldn iX1_swallowNext_88 rfl <| okGet (vFgW) iX1_swallowNext_89 <| okIldn iX1_swallowNext_92 rfl <| okIc iX1_swallowNext_93 <| okC3 (qW_X0_get iX1_swallowNext_94) <| okC4 (qW_X0_add iX1_swallowNext_97) <| okAldn iX1_swallowNext_100 rfl <| okGet (vFgW) iX1_swallowNext_101 <| okIldn iX1_swallowNext_104 rfl <| okIc iX1_swallowNext_105 <| okAldn iX1_swallowNext_106 rfl <| okGet (vFgW) iX1_swallowNext_107 <| okIldn iX1_swallowNext_110 rfl <| okIc iX1_swallowNext_111 <| okC3 (qW_X0_get iX1_swallowNext_112) <| okAldn iX1_swallowNext_115 rfl <| okGet (vFgW) iX1_swallowNext_116 <| okIldn iX1_swallowNext_119 rfl <| okIc iX1_swallowNext_120 <| okC3 (qW_X0_get iX1_swallowNext_121) <| okMax iX1_swallowNext_124 <| okC4 (qW_X0_set iX1_swallowNext_127) <| okAldn iX1_swallowNext_130 rfl <| okGet (vFgW) iX1_swallowNext_131 <| okIldn iX1_swallowNext_134 rfl <| okC2 (qW_X0_drop iX1_swallowNext_135) <| okVret iX1_swallowNext_138 rfl)) pc
-- X1_raiseMark: heads []
def tX1_raiseMark : Nat → Blk WS := fun pc => bif Nat.blt pc 23 then (bif Nat.beq pc 0 then (oIld 2 <| oAld 0 <| oGet (fgW) 1 10 <| oIld 1 <| oI 0 <| oC3 (cW_X0_get) <| oCLe 23 <| oAld 0 <| oGet (fgW) 1 10 <| oIld 1 <| oI 0 <| oIld 2 <| oC4 (cW_X0_set) <| oTo 23) else oNo) else (bif Nat.beq pc 23 then (oVret) else oNo)
theorem tX1_raiseMark_ok : ∀ pc, bOk (encW) (bdW) mX1_raiseMark 0 0 pc (tX1_raiseMark pc) := fun pc => (tNode (tLeaf (okIldn iX1_raiseMark_0 rfl <| okAldn iX1_raiseMark_1 rfl <| okGet (vFgW) iX1_raiseMark_2 <| okIldn iX1_raiseMark_5 rfl <| okIc iX1_raiseMark_6 <| okC3 (qW_X0_get iX1_raiseMark_7) <| okCLe (tl rfl) iX1_raiseMark_10 <| okAldn iX1_raiseMark_13 rfl <| okGet (vFgW) iX1_raiseMark_14 <| okIldn iX1_raiseMark_17 rfl <| okIc iX1_raiseMark_18 <| okIldn iX1_raiseMark_19 rfl <| okC4 (qW_X0_set iX1_raiseMark_20) <| okTo (tl rfl))) (tLeaf (okVret iX1_raiseMark_23 rfl))) pc
-- X1_note: heads []
def tX1_note : Nat → Blk WS := fun pc => bif Nat.blt pc 76 then (bif Nat.beq pc 0 then (oAld 0 <| oGet (fgW) 1 14 <| oGet (fgW) 0 3 <| oIst 4 <| oAld 0 <| oGet (fgW) 1 14 <| oIld 4 <| oC2 (cW_X0_open) <| oZEq 76 <| oAld 0 <| oGet (fgW) 1 14 <| oIld 4 <| oI 0 <| oIld 1 <| oC4 (cW_X0_set) <| oAld 0 <| oGet (fgW) 1 14 <| oIld 4 <| oI 1 <| oIld 2 <| oC4 (cW_X0_set) <| oAld 0 <| oGet (fgW) 1 14 <| oIld 4 <| oI 2 <| oIld 3 <| oC4 (cW_X0_set) <| oAld 0 <| oGet (fgW) 1 14 <| oIld 4 <| oI 3 <| oI (-1) <| oC4 (cW_X0_set) <| oAld 0 <| oGet (fgW) 1 14 <| oIld 4 <| oI 5 <| oI (-1) <| oC4 (cW_X0_set) <| oTo 76) else oNo) else (bif Nat.beq pc 76 then (oVret) else oNo)
theorem tX1_note_ok : ∀ pc, bOk (encW) (bdW) mX1_note 0 0 pc (tX1_note pc) := fun pc => (tNode (tLeaf (okAldn iX1_note_0 rfl <| okGet (vFgW) iX1_note_1 <| okGet (vFgW) iX1_note_4 <| okIst iX1_note_7 (by decide) <| okAldn iX1_note_9 rfl <| okGet (vFgW) iX1_note_10 <| okIld iX1_note_13 <| okC2 (qW_X0_open iX1_note_15) <| okZEq (tl rfl) iX1_note_18 <| okAldn iX1_note_21 rfl <| okGet (vFgW) iX1_note_22 <| okIld iX1_note_25 <| okIc iX1_note_27 <| okIldn iX1_note_28 rfl <| okC4 (qW_X0_set iX1_note_29) <| okAldn iX1_note_32 rfl <| okGet (vFgW) iX1_note_33 <| okIld iX1_note_36 <| okIc iX1_note_38 <| okIldn iX1_note_39 rfl <| okC4 (qW_X0_set iX1_note_40) <| okAldn iX1_note_43 rfl <| okGet (vFgW) iX1_note_44 <| okIld iX1_note_47 <| okIc iX1_note_49 <| okIldn iX1_note_50 rfl <| okC4 (qW_X0_set iX1_note_51) <| okAldn iX1_note_54 rfl <| okGet (vFgW) iX1_note_55 <| okIld iX1_note_58 <| okIc iX1_note_60 <| okIc iX1_note_61 <| okC4 (qW_X0_set iX1_note_62) <| okAldn iX1_note_65 rfl <| okGet (vFgW) iX1_note_66 <| okIld iX1_note_69 <| okIc iX1_note_71 <| okIc iX1_note_72 <| okC4 (qW_X0_set iX1_note_73) <| okTo (tl rfl))) (tLeaf (okVret iX1_note_76 rfl))) pc
def wTake (w : WS) (i : Int) : WS := if wHas w i then wP (wSend w 3 i) 1 i 6 (-1) else w
def sX1_takeBack : Int → WS → KW → Prop := fun i s K => xB i ∧ K [] (wTake s i)
theorem mX1_takeBack_ok : mOk encW bdW mX1_takeBack (atR 0 (a1 sX1_takeBack)) := by
  refine mOVa1 kX1_takeBack (fun _ => rfl) (fun i s K h hb => wx_J [] 9 tX1_takeBack_ok rfl (fun J hR hJ => ?_))
  obtain ⟨h1, hK⟩ := h
  unfold wTake at hK
  by_cases c : wHas s i
  · rw [if_pos c] at hK
    repeat' (first | (refine And.intro ?_ ?_) | intro _)
    all_goals first | omega | exact hR _ _ hK | contradiction
  · rw [if_neg c] at hK
    repeat' (first | (refine And.intro ?_ ?_) | intro _)
    all_goals first | omega | exact hR _ _ hK | contradiction
def cW_X1_takeBack : Sp WS := atR 0 (a1 sX1_takeBack)
theorem qW_X1_takeBack {M : XI} {rc rs pc pc2 : Nat} (d : xl_Ca M pc mX1_takeBack pc2) : cOk encW bdW M rc rs pc pc2 2 cW_X1_takeBack := cSame mX1_takeBack_ok vX1_takeBack d wcl rfl lenW recW
def wAnn (w : WS) (k i : Int) : WS := wP (wSend w k i) 1 i 6 k
def sX1_announce : Int → Int → WS → KW → Prop := fun k i s K => (xB k ∧ xB i) ∧ K [] (wAnn s k i)
theorem mX1_announce_ok : mOk encW bdW mX1_announce (atR 0 (a2 sX1_announce)) := by
  refine mOVa2 kX1_announce (fun _ _ => rfl) (fun k i s K h hb => wx_J [] 9 tX1_announce_ok rfl (fun J hR hJ => ?_))
  obtain ⟨h1, hK⟩ := h
  repeat' (first | (refine And.intro ?_ ?_) | intro _)
  all_goals first | omega | exact hR _ _ hK
def cW_X1_announce : Sp WS := atR 0 (a2 sX1_announce)
theorem qW_X1_announce {M : XI} {rc rs pc pc2 : Nat} (d : xl_Ca M pc mX1_announce pc2) : cOk encW bdW M rc rs pc pc2 3 cW_X1_announce := cSame mX1_announce_ok vX1_announce d wcl rfl lenW recW
def wKind (w : WS) (i : Int) : Int := if wRipe w i (w.1 3) then 2 else if 0 < w.1 2 ∧ Int.tmod (wG w 1 i 3) (w.1 2) = 0 then 0 else -1
def sX1_kindOfNew : Int → WS → KW → Prop := fun i s K => xB i ∧ (xB (wKind s i) → K [pI (wKind s i)] s)
theorem wKind_b (w : WS) (i : Int) : -1 ≤ wKind w i ∧ wKind w i ≤ 2 := by
  unfold wKind
  split
  · omega
  · split <;> omega
theorem mX1_kindOfNew_ok : mOk encW bdW mX1_kindOfNew (atR 0 (a1 sX1_kindOfNew)) := by
  refine mOVa1 kX1_kindOfNew (fun _ => rfl) (fun i s K h hb => wx_J [] 9 tX1_kindOfNew_ok rfl (fun J hR hJ => ?_))
  obtain ⟨h1, h2⟩ := h
  have hw := wKind_b s i
  have hK := h2 ⟨by omega, by omega⟩
  unfold wKind at hK
  have hB := wG_B (t := 1) (i := i) (c := 3) hb
  have hE := hb.1 2
  have hm : 0 < s.1 2 → xB (Int.tmod (wG s 1 i 3) (s.1 2)) := fun c => tmod_B hB c hE.2
  by_cases c : wRipe s i (s.1 3)
  · rw [if_pos c] at hK
    repeat' (first | (refine And.intro ?_ ?_) | intro _)
    all_goals first | omega | exact hR _ _ hK | contradiction
  · rw [if_neg c] at hK
    by_cases c2 : 0 < s.1 2
    · have hm := hm c2
      by_cases c3 : Int.tmod (wG s 1 i 3) (s.1 2) = 0
      · rw [if_pos ⟨c2, c3⟩] at hK
        repeat' (first | (refine And.intro ?_ ?_) | intro _)
        all_goals first | omega | exact hR _ _ hK | contradiction
      · rw [if_neg (fun z => c3 z.2)] at hK
        repeat' (first | (refine And.intro ?_ ?_) | intro _)
        all_goals first | omega | exact hR _ _ hK | contradiction
    · rw [if_neg (fun z => c2 z.1)] at hK
      repeat' (first | (refine And.intro ?_ ?_) | intro _)
      all_goals first | omega | exact hR _ _ hK | contradiction
def cW_X1_kindOfNew : Sp WS := atR 0 (a1 sX1_kindOfNew)
theorem qW_X1_kindOfNew {M : XI} {rc rs pc pc2 : Nat} (d : xl_Ca M pc mX1_kindOfNew pc2) : cOk encW bdW M rc rs pc pc2 2 cW_X1_kindOfNew := cSame mX1_kindOfNew_ok vX1_kindOfNew d wcl rfl lenW recW
def wSwallow (w : WS) (i : Int) : WS :=
  let j := wI (i + 1)
  let w1 := wP w 1 i 1 (min (wG w 1 i 1) (wG w 1 j 1))
  let w2 := wP w1 1 i 2 (max (wG w1 1 i 2) (wG w1 1 j 2))
  let w3 := wA w2 1 i 3 (wG w2 1 j 3)
  let w4 := wA w3 1 i 4 (wG w3 1 j 4)
  let w5 := wP w4 1 i 5 (max (wG w4 1 i 5) (wG w4 1 j 5))
  wDr w5 1 j
def sX1_swallowNext : Int → WS → KW → Prop := fun i s K => (xB i ∧ wZ s 1 ≤ 161) ∧ K [] (wSwallow s i)
theorem mX1_swallowNext_ok : mOk encW bdW mX1_swallowNext (atR 0 (a1 sX1_swallowNext)) := by
  refine mOVa1 kX1_swallowNext (fun _ => rfl) (fun i s K h hb => wx_J [] 9 tX1_swallowNext_ok rfl (fun J hR hJ => ?_))
  obtain ⟨⟨h1, h2⟩, hK⟩ := h
  repeat' (first | (refine And.intro ?_ ?_) | intro _)
  all_goals first | omega | exact h2 | exact hR _ _ hK
def cW_X1_swallowNext : Sp WS := atR 0 (a1 sX1_swallowNext)
theorem qW_X1_swallowNext {M : XI} {rc rs pc pc2 : Nat} (d : xl_Ca M pc mX1_swallowNext pc2) : cOk encW bdW M rc rs pc pc2 2 cW_X1_swallowNext := cSame mX1_swallowNext_ok vX1_swallowNext d wcl rfl lenW recW
def wRaise (w : WS) (r t : Int) : WS := if wG w 0 r 0 < t then wP w 0 r 0 t else w
def sX1_raiseMark : Int → Int → WS → KW → Prop := fun r t s K => (xB r ∧ xB t) ∧ K [] (wRaise s r t)
theorem mX1_raiseMark_ok : mOk encW bdW mX1_raiseMark (atR 0 (a2 sX1_raiseMark)) := by
  refine mOVa2 kX1_raiseMark (fun _ _ => rfl) (fun r t s K h hb => wx_J [] 9 tX1_raiseMark_ok rfl (fun J hR hJ => ?_))
  obtain ⟨h1, hK⟩ := h
  unfold wRaise at hK
  by_cases c : wG s 0 r 0 < t
  · rw [if_pos c] at hK
    repeat' (first | (refine And.intro ?_ ?_) | intro _)
    all_goals first | omega | exact hR _ _ hK
  · rw [if_neg c] at hK
    repeat' (first | (refine And.intro ?_ ?_) | intro _)
    all_goals first | omega | exact hR _ _ hK
def cW_X1_raiseMark : Sp WS := atR 0 (a2 sX1_raiseMark)
theorem qW_X1_raiseMark {M : XI} {rc rs pc pc2 : Nat} (d : xl_Ca M pc mX1_raiseMark pc2) : cOk encW bdW M rc rs pc pc2 3 cW_X1_raiseMark := cSame mX1_raiseMark_ok vX1_raiseMark d wcl rfl lenW recW
def wNote (w : WS) (a r t : Int) : WS := if 0 ≤ wZ w 4 ∧ wZ w 4 < 160 then wP (wP (wP (wP (wP (wOp w 4 (wZ w 4)) 4 (wZ w 4) 0 a) 4 (wZ w 4) 1 r) 4 (wZ w 4) 2 t) 4 (wZ w 4) 3 (-1)) 4 (wZ w 4) 5 (-1) else w
def sX1_note : Int → Int → Int → WS → KW → Prop := fun a r t s K => (xB a ∧ xB r ∧ xB t) ∧ K [] (wNote s a r t)
theorem mX1_note_ok : mOk encW bdW mX1_note (atR 0 (a3 sX1_note)) := by
  refine mOVa3 kX1_note (fun _ _ _ => rfl) (fun a r t s K h hb => wx_J [] 9 tX1_note_ok rfl (fun J hR hJ => ?_))
  obtain ⟨h1, hK⟩ := h
  have hz : xB (wZ s 4) := (hb.2 4).1
  have er : rmT 4 = 160 := rfl
  unfold wNote at hK
  by_cases c : 0 ≤ wZ s 4 ∧ wZ s 4 < 160
  · rw [if_pos c] at hK
    intro _
    refine ⟨hz, fun c2 => ?_, fun c2 => absurd ⟨c.1, Int.le_refl _, c.2⟩ c2⟩
    repeat' (first | (refine And.intro ?_ ?_) | intro _)
    all_goals first | omega | exact hR _ _ hK
  · rw [if_neg c] at hK
    intro _
    refine ⟨hz, fun c2 => absurd ⟨c2.1, c2.2.2⟩ c, fun c2 => ?_⟩
    repeat' (first | (refine And.intro ?_ ?_) | intro _)
    all_goals first | omega | exact hR _ _ hK
def cW_X1_note : Sp WS := atR 0 (a3 sX1_note)
theorem qW_X1_note {M : XI} {rc rs pc pc2 : Nat} (d : xl_Ca M pc mX1_note pc2) : cOk encW bdW M rc rs pc pc2 4 cW_X1_note := cSame mX1_note_ok vX1_note d wcl rfl lenW recW
end
-- 30.Wr
section
/-! ===== World: sizes stay in their rooms; finish, melt, rise ===== -/
section WXB
variable {σ : Type} {enc : σ → XH} {bd : σ → Prop} {M : XI} {rc rs : Nat}
theorem wx_Jb {T : Nat → Blk σ} (cut : List Nat) (n : Nat) {Po : PS → σ → Prop} {Pt : σ → Prop} {pc : Nat} {L : PL} {st : PS} {s : σ} (hT : ∀ pc, bOk enc bd M rc rs pc (T pc)) (hlt : Nat.blt pc 1000000 = true) (h : bd s → ∀ J : JP σ, (∀ v s, Po v s → J 1000000 [] v s) → (∀ pc L st s, wX enc bd M rc rs Po Pt pc L st s → J pc L st s) → T pc (wp T cut J n) L st s) : wX enc bd M rc rs Po Pt pc L st s := by
  have hl : pc < 1000000 := Nat.le_of_ble_eq_true hlt
  rw [wX_lt hl]
  intro hb
  have := wx_J (rc := rc) (rs := rs) cut n hT hlt (h hb)
  rw [wX_lt hl] at this
  exact this hb
end WXB
abbrev wok (w : WS) : Prop := ∀ t, t < 6 → 0 ≤ wZ w t ∧ wZ w t ≤ rmT t
theorem wok_set {w : WS} {t : Nat} {b : TS} (h : wok w) (hb : 0 ≤ b.1 ∧ b.1 ≤ rmT t) : wok (setT w t b) := by
  intro j hj
  show 0 ≤ (bif Nat.beq j t then b else w.2 j).1 ∧ (bif Nat.beq j t then b else w.2 j).1 ≤ rmT j
  cases e : Nat.beq j t with
  | true => rw [nB e]; exact hb
  | false => exact h j hj
theorem wok_Fd {w : WS} {k : Nat} {v : Int} (h : wok w) : wok (wFd w k v) := h
theorem wok_P {w : WS} {t : Nat} {i c v : Int} (ht : t < 6) (h : wok w) : wok (wP w t i c v) := wok_set h (h t ht)
theorem wok_A {w : WS} {t : Nat} {i c v : Int} (ht : t < 6) (h : wok w) : wok (wA w t i c v) := wok_P ht h
theorem wok_Re {w : WS} {t : Nat} {i : Int} (ht : t < 6) (h : wok w) : wok (wRe w t i) := by
  have := h t ht
  refine wok_set h ?_
  show 0 ≤ (if (w.2 t).1 ≤ i ∧ i < rmT t then i + 1 else (w.2 t).1) ∧ (if (w.2 t).1 ≤ i ∧ i < rmT t then i + 1 else (w.2 t).1) ≤ rmT t
  unfold wZ at this
  split <;> omega
theorem wok_Dr {w : WS} {t : Nat} {i : Int} (ht : t < 6) (h : wok w) : wok (wDr w t i) := by
  have := h t ht
  refine wok_set h ?_
  unfold wZ at this
  split
  · show 0 ≤ (w.2 t).1 - 1 ∧ (w.2 t).1 - 1 ≤ rmT t
    omega
  · exact this
theorem wok_Op {w : WS} {t : Nat} {i : Int} (ht : t < 6) (h : wok w) (h2 : wZ w t < rmT t) : wok (wOp w t i) := by
  have := h t ht
  refine wok_set h ?_
  unfold wZ at this h2
  show 0 ≤ (w.2 t).1 + 1 ∧ (w.2 t).1 + 1 ≤ rmT t
  omega
theorem wok_Send {w : WS} {k i : Int} (h : wok w) : wok (wSend w k i) := by
  unfold wSend
  exact wok_Fd (wok_A (by decide) (wok_P (by decide) (wok_P (by decide) (wok_P (by decide) (wok_P (by decide) (wok_P (by decide) (wok_P (by decide) (wok_Re (by decide) h))))))))
theorem wok_Take {w : WS} {i : Int} (h : wok w) : wok (wTake w i) := by
  unfold wTake
  split
  · exact wok_P (by decide) (wok_Send h)
  · exact h
theorem wok_Ann {w : WS} {k i : Int} (h : wok w) : wok (wAnn w k i) := wok_P (by decide) (wok_Send h)
theorem wok_Swallow {w : WS} {i : Int} (h : wok w) : wok (wSwallow w i) :=
  wok_Dr (by decide) (wok_P (by decide) (wok_A (by decide) (wok_A (by decide) (wok_P (by decide) (wok_P (by decide) h)))))
theorem wok_Raise {w : WS} {r t : Int} (h : wok w) : wok (wRaise w r t) := by
  unfold wRaise
  split
  · exact wok_P (by decide) h
  · exact h
theorem wok_Note {w : WS} {a r t : Int} (h : wok w) : wok (wNote w a r t) := by
  unfold wNote
  split
  · next c => exact wok_P (by decide) (wok_P (by decide) (wok_P (by decide) (wok_P (by decide) (wok_P (by decide) (wok_Op (by decide) h c.2)))))
  · exact h
/-! finals.copyRow(slot, sessions, i) -/
def piFS : Nat → Nat := fun k => bif Nat.blt k 2 then 7 + k else 1 + k
theorem lkFS : vLk encW bdW (encTT 40 7 161 7) (bdTT 40 7 161 7) piFS (fun s => (s.2 3, s.2 1)) (fun s b => setT (setT s 3 b.1) 1 b.2) := by
  have hok : ∀ (s : TTS) (j : Nat) (c : XE), (encTT 40 7 161 7 s)[j]? = some c → xl_ok piFS j c := by
    intro s j c h
    match j, h with
    | 0, h => cases h; exact fun aC ρ σ => rfl
    | 1, h => cases h; exact fun aC ρ σ => rfl
    | 2, h => cases h; exact fun aC ρ σ => rfl
    | 3, h => cases h; exact fun aC ρ σ => rfl
    | j + 4, h => cases h
  refine ⟨fun s hb => ⟨⟨⟨by omega, hb.2 3⟩, ⟨by omega, hb.2 1⟩⟩, ⟨fun i j hi hj e => ?_, fun j hj => ?_⟩, hok _⟩, fun s s' hb hb' => ⟨bdW_set (bdW_set hb hb'.1) hb'.2, rfl, ⟨rfl, fun j hj => ?_, fun k hk => ?_⟩, hok _⟩⟩
  · have hi : i < 4 := hi
    have hj : j < 4 := hj
    have key : ∀ a, a < 4 → ∀ b, b < 4 → piFS a = piFS b → a = b := by decide
    exact key i hi j hj e
  · match j, hj with
    | 0, _ => exact ⟨rfl, Nat.le_of_ble_eq_true rfl⟩
    | 1, _ => exact ⟨rfl, Nat.le_of_ble_eq_true rfl⟩
    | 2, _ => exact ⟨rfl, Nat.le_of_ble_eq_true rfl⟩
    | 3, _ => exact ⟨rfl, Nat.le_of_ble_eq_true rfl⟩
    | j + 4, hj => exact absurd (show j + 4 < 4 from hj) (by omega)
  · match j, hj with
    | 0, _ => rfl
    | 1, _ => rfl
    | 2, _ => rfl
    | 3, _ => rfl
    | j + 4, hj => exact absurd (show j + 4 < 4 from hj) (by omega)
  · match k, hk with
    | 0, _ => rfl
    | 1, _ => rfl
    | 2, _ => rfl
    | 3, hk => exact absurd rfl (hk 2 (Nat.le_of_ble_eq_true rfl))
    | 4, hk => exact absurd rfl (hk 3 (Nat.le_of_ble_eq_true rfl))
    | 5, _ => rfl
    | 6, _ => rfl
    | 7, hk => exact absurd rfl (hk 0 (Nat.le_of_ble_eq_true rfl))
    | 8, hk => exact absurd rfl (hk 1 (Nat.le_of_ble_eq_true rfl))
    | 9, _ => rfl
    | 10, _ => rfl
    | 11, _ => rfl
    | 12, _ => rfl
    | k + 13, _ => rfl
def wCR (w : WS) (i j : Int) : WS := setT w 3 ((w.2 3).1, trow 40 7 161 7 (w.2 3).2 (w.2 1).2 i j)
def cW_X0_copyRow : Sp WS := fun as s K => match as with
  | [.inr (.inr (.inl 7)), .inl i, .inr (.inr (.inl 3)), .inl j] => (xB i ∧ xB j) ∧ K [] (wCR s i j)
  | _ => False
theorem qW_X0_copyRow {M : XI} {rc rs pc pc2 : Nat} (d : xl_Ca M pc mX0_copyRow pc2) : cOk encW bdW M rc rs pc pc2 4 cW_X0_copyRow := by
  refine cVirt (mX0_copyRow_ok 40 7 161 7) vX0_copyRow d tcl rfl (fun as s K hb h => ?_)
  unfold cW_X0_copyRow at h
  split at h
  · next i j =>
    refine ⟨piFS, _, _, [pI i, pR 2, pI j], lkFS, ⟨_, rfl⟩, rfl, ?_⟩
    refine ⟨h.1, ?_⟩
    have e : setT (setT s 3 ((s.2 3).1, trow 40 7 161 7 (s.2 3).2 (s.2 1).2 i j)) 1 (s.2 1) = wCR s i j := setT_self (wCR s i j) 1
    show K [] (setT (setT s 3 ((s.2 3).1, trow 40 7 161 7 (s.2 3).2 (s.2 1).2 i j)) 1 (s.2 1))
    rw [e]
    exact h.2
  · exact h.elim
-- X1_finish: heads []
def tX1_finish : Nat → Blk WS := fun pc => bif Nat.beq pc 0 then (oAld 0 <| oGet (fgW) 1 5 <| oI 40 <| oRemT <| oIst 2 <| oAld 0 <| oGet (fgW) 1 13 <| oIld 2 <| oC2 (cW_X0_reach) <| oAld 0 <| oGet (fgW) 1 13 <| oIld 2 <| oAld 0 <| oGet (fgW) 1 11 <| oIld 1 <| oC4 (cW_X0_copyRow) <| oAld 0 <| oGet (fgW) 1 11 <| oIld 1 <| oI 0 <| oC3 (cW_X0_get) <| oIst 3 <| oAld 0 <| oGet (fgW) 1 11 <| oIld 1 <| oI 2 <| oC3 (cW_X0_get) <| oAld 0 <| oGet (fgW) 1 11 <| oIld 1 <| oI 1 <| oC3 (cW_X0_get) <| oSubW <| oIst 4 <| oAld 0 <| oGet (fgW) 1 15 <| oIld 3 <| oI 4 <| oI 1 <| oC4 (cW_X0_add) <| oAld 0 <| oGet (fgW) 1 15 <| oIld 3 <| oI 5 <| oAld 0 <| oGet (fgW) 1 11 <| oIld 1 <| oI 3 <| oC3 (cW_X0_get) <| oC4 (cW_X0_add) <| oAld 0 <| oGet (fgW) 1 15 <| oIld 3 <| oI 6 <| oAld 0 <| oGet (fgW) 1 11 <| oIld 1 <| oI 4 <| oC3 (cW_X0_get) <| oC4 (cW_X0_add) <| oAld 0 <| oGet (fgW) 1 15 <| oIld 3 <| oI 7 <| oAld 0 <| oGet (fgW) 1 15 <| oIld 3 <| oI 7 <| oC3 (cW_X0_get) <| oIld 4 <| oMax <| oC4 (cW_X0_set) <| oAld 0 <| oDup <| oGet (fgW) 1 5 <| oI 1 <| oAddW <| oPut (fpW) 1 5 <| oAld 0 <| oGet (fgW) 1 11 <| oIld 1 <| oC2 (cW_X0_drop) <| oVret) else oNo
theorem tX1_finish_ok : ∀ pc, bOk (encW) (bdW) mX1_finish 0 0 pc (tX1_finish pc) := fun pc => (tLeaf (okAldn iX1_finish_0 rfl <| okGet (vFgW) iX1_finish_1 <| okBi iX1_finish_4 (by decide) <| okRemT iX1_finish_6 <| okIstn iX1_finish_7 rfl (by decide) <| okAldn iX1_finish_8 rfl <| okGet (vFgW) iX1_finish_9 <| okIldn iX1_finish_12 rfl <| okC2 (qW_X0_reach iX1_finish_13) <| okAldn iX1_finish_16 rfl <| okGet (vFgW) iX1_finish_17 <| okIldn iX1_finish_20 rfl <| okAldn iX1_finish_21 rfl <| okGet (vFgW) iX1_finish_22 <| okIldn iX1_finish_25 rfl <| okC4 (qW_X0_copyRow iX1_finish_26) <| okAldn iX1_finish_29 rfl <| okGet (vFgW) iX1_finish_30 <| okIldn iX1_finish_33 rfl <| okIc iX1_finish_34 <| okC3 (qW_X0_get iX1_finish_35) <| okIstn iX1_finish_38 rfl (by decide) <| okAldn iX1_finish_39 rfl <| okGet (vFgW) iX1_finish_40 <| okIldn iX1_finish_43 rfl <| okIc iX1_finish_44 <| okC3 (qW_X0_get iX1_finish_45) <| okAldn iX1_finish_48 rfl <| okGet (vFgW) iX1_finish_49 <| okIldn iX1_finish_52 rfl <| okIc iX1_finish_53 <| okC3 (qW_X0_get iX1_finish_54) <| okSubW iX1_finish_57 <| okIst iX1_finish_58 (by decide) <| okAldn iX1_finish_60 rfl <| okGet (vFgW) iX1_finish_61 <| okIldn iX1_finish_64 rfl <| okIc iX1_finish_65 <| okIc iX1_finish_66 <| okC4 (qW_X0_add iX1_finish_67) <| okAldn iX1_finish_70 rfl <| okGet (vFgW) iX1_finish_71 <| okIldn iX1_finish_74 rfl <| okIc iX1_finish_75 <| okAldn iX1_finish_76 rfl <| okGet (vFgW) iX1_finish_77 <| okIldn iX1_finish_80 rfl <| okIc iX1_finish_81 <| okC3 (qW_X0_get iX1_finish_82) <| okC4 (qW_X0_add iX1_finish_85) <| okAldn iX1_finish_88 rfl <| okGet (vFgW) iX1_finish_89 <| okIldn iX1_finish_92 rfl <| okBi iX1_finish_93 (by decide) <| okAldn iX1_finish_95 rfl <| okGet (vFgW) iX1_finish_96 <| okIldn iX1_finish_99 rfl <| okIc iX1_finish_100 <| okC3 (qW_X0_get iX1_finish_101) <| okC4 (qW_X0_add iX1_finish_104) <| okAldn iX1_finish_107 rfl <| okGet (vFgW) iX1_finish_108 <| okIldn iX1_finish_111 rfl <| okBi iX1_finish_112 (by decide) <| okAldn iX1_finish_114 rfl <| okGet (vFgW) iX1_finish_115 <| okIldn iX1_finish_118 rfl <| okBi iX1_finish_119 (by decide) <| okC3 (qW_X0_get iX1_finish_121) <| okIld iX1_finish_124 <| okMax iX1_finish_126 <| okC4 (qW_X0_set iX1_finish_129) <| okAldn iX1_finish_132 rfl <| okDup iX1_finish_133 <| okGet (vFgW) iX1_finish_134 <| okIc iX1_finish_137 <| okAddW iX1_finish_138 <| okPut (vFpW) iX1_finish_139 <| okAldn iX1_finish_142 rfl <| okGet (vFgW) iX1_finish_143 <| okIldn iX1_finish_146 rfl <| okC2 (qW_X0_drop iX1_finish_147) <| okVret iX1_finish_150 rfl)) pc
-- X1_melt: heads [40, 156]
def tX1_melt : Nat → Blk WS := fun pc => bif Nat.blt pc 75 then (bif Nat.blt pc 34 then (bif Nat.blt pc 28 then (bif Nat.beq pc 0 then (oAld 0 <| oIld 1 <| oIld 2 <| oC3 (cW_X1_firstTouched) <| oIst 4 <| oAld 0 <| oIld 4 <| oIld 1 <| oIld 2 <| oC4 (cW_X1_touchedFrom) <| oIst 5 <| oIld 4 <| oZLt 28 <| oIld 4 <| oTo 34) else oNo) else (bif Nat.beq pc 28 then (oAld 0 <| oIld 1 <| oIld 2 <| oC3 (cW_X1_placeFor) <| oTo 34) else oNo)) else (bif Nat.blt pc 40 then (bif Nat.beq pc 34 then (oIst 6 <| oIld 6 <| oIst 7 <| oM [true, true, true, true, false, true, true, true] (oTo 40)) else oNo) else (bif Nat.blt pc 62 then (bif Nat.beq pc 40 then (oIld 7 <| oIld 6 <| oIld 5 <| oAdd <| oCGe 62 <| oAld 0 <| oIld 7 <| oC2 (cW_X1_takeBack) <| oInc 7 1 <| oM [true, true, true, true, false, true, true, true] (oTo 40)) else oNo) else (bif Nat.beq pc 62 then (oAld 0 <| oGet (fgW) 1 11 <| oIld 6 <| oC2 (cW_X0_open) <| oZNe 75 <| oVret) else oNo)))) else (bif Nat.blt pc 190 then (bif Nat.blt pc 156 then (bif Nat.beq pc 75 then (oAld 0 <| oGet (fgW) 1 11 <| oIld 6 <| oI 0 <| oIld 1 <| oC4 (cW_X0_set) <| oAld 0 <| oGet (fgW) 1 11 <| oIld 6 <| oI 1 <| oIld 2 <| oC4 (cW_X0_set) <| oAld 0 <| oGet (fgW) 1 11 <| oIld 6 <| oI 2 <| oIld 2 <| oC4 (cW_X0_set) <| oAld 0 <| oGet (fgW) 1 11 <| oIld 6 <| oI 3 <| oI 1 <| oC4 (cW_X0_set) <| oAld 0 <| oGet (fgW) 1 11 <| oIld 6 <| oI 4 <| oIld 3 <| oC4 (cW_X0_set) <| oAld 0 <| oGet (fgW) 1 11 <| oIld 6 <| oI 5 <| oIld 3 <| oC4 (cW_X0_set) <| oAld 0 <| oGet (fgW) 1 11 <| oIld 6 <| oI 6 <| oI (-1) <| oC4 (cW_X0_set) <| oI 0 <| oIst 7 <| oM [true, false, false, false, false, true, true, true] (oTo 156)) else oNo) else (bif Nat.blt pc 175 then (bif Nat.beq pc 156 then (oIld 7 <| oIld 5 <| oCGe 175 <| oAld 0 <| oIld 6 <| oC2 (cW_X1_swallowNext) <| oInc 7 1 <| oM [true, false, false, false, false, true, true, true] (oTo 156)) else oNo) else (bif Nat.beq pc 175 then (oAld 0 <| oDup <| oGet (fgW) 1 9 <| oIld 5 <| oI 1 <| oCLe 190 <| oI 1 <| oTo 191) else oNo))) else (bif Nat.blt pc 191 then (bif Nat.beq pc 190 then (oI 0 <| oTo 191) else oNo) else (bif Nat.blt pc 216 then (bif Nat.beq pc 191 then (oAddW <| oPut (fpW) 1 9 <| oAld 0 <| oIld 6 <| oC2 (cW_X1_kindOfNew) <| oIst 7 <| oIld 7 <| oZLt 216 <| oAld 0 <| oIld 7 <| oIld 6 <| oC3 (cW_X1_announce) <| oTo 216) else oNo) else (bif Nat.beq pc 216 then (oVret) else oNo))))
theorem tX1_melt_ok : ∀ pc, bOk (encW) (bdW) mX1_melt 0 0 pc (tX1_melt pc) := fun pc => (tNode (tNode (tNode (tLeaf (okAldn iX1_melt_0 rfl <| okIldn iX1_melt_1 rfl <| okIldn iX1_melt_2 rfl <| okC3 (qW_X1_firstTouched iX1_melt_3) <| okIst iX1_melt_6 (by decide) <| okAldn iX1_melt_8 rfl <| okIld iX1_melt_9 <| okIldn iX1_melt_11 rfl <| okIldn iX1_melt_12 rfl <| okC4 (qW_X1_touchedFrom iX1_melt_13) <| okIst iX1_melt_16 (by decide) <| okIld iX1_melt_18 <| okZLt (tl rfl) iX1_melt_20 <| okIld iX1_melt_23 <| okGoto (tl rfl) iX1_melt_25)) (tLeaf (okAldn iX1_melt_28 rfl <| okIldn iX1_melt_29 rfl <| okIldn iX1_melt_30 rfl <| okC3 (qW_X1_placeFor iX1_melt_31) <| okTo (tl rfl)))) (tNode (tLeaf (okIst iX1_melt_34 (by decide) <| okIld iX1_melt_36 <| okIst iX1_melt_38 (by decide) <| okM (okTo (tl rfl)))) (tNode (tLeaf (okIld iX1_melt_40 <| okIld iX1_melt_42 <| okIld iX1_melt_44 <| okAdd iX1_melt_46 <| okCGe (tl rfl) iX1_melt_47 <| okAldn iX1_melt_50 rfl <| okIld iX1_melt_51 <| okC2 (qW_X1_takeBack iX1_melt_53) <| okInc iX1_melt_56 (by decide) <| okGotoM (tl rfl) iX1_melt_59)) (tLeaf (okAldn iX1_melt_62 rfl <| okGet (vFgW) iX1_melt_63 <| okIld iX1_melt_66 <| okC2 (qW_X0_open iX1_melt_68) <| okZNe (tl rfl) iX1_melt_71 <| okVret iX1_melt_74 rfl))))) (tNode (tNode (tLeaf (okAldn iX1_melt_75 rfl <| okGet (vFgW) iX1_melt_76 <| okIld iX1_melt_79 <| okIc iX1_melt_81 <| okIldn iX1_melt_82 rfl <| okC4 (qW_X0_set iX1_melt_83) <| okAldn iX1_melt_86 rfl <| okGet (vFgW) iX1_melt_87 <| okIld iX1_melt_90 <| okIc iX1_melt_92 <| okIldn iX1_melt_93 rfl <| okC4 (qW_X0_set iX1_melt_94) <| okAldn iX1_melt_97 rfl <| okGet (vFgW) iX1_melt_98 <| okIld iX1_melt_101 <| okIc iX1_melt_103 <| okIldn iX1_melt_104 rfl <| okC4 (qW_X0_set iX1_melt_105) <| okAldn iX1_melt_108 rfl <| okGet (vFgW) iX1_melt_109 <| okIld iX1_melt_112 <| okIc iX1_melt_114 <| okIc iX1_melt_115 <| okC4 (qW_X0_set iX1_melt_116) <| okAldn iX1_melt_119 rfl <| okGet (vFgW) iX1_melt_120 <| okIld iX1_melt_123 <| okIc iX1_melt_125 <| okIldn iX1_melt_126 rfl <| okC4 (qW_X0_set iX1_melt_127) <| okAldn iX1_melt_130 rfl <| okGet (vFgW) iX1_melt_131 <| okIld iX1_melt_134 <| okIc iX1_melt_136 <| okIldn iX1_melt_137 rfl <| okC4 (qW_X0_set iX1_melt_138) <| okAldn iX1_melt_141 rfl <| okGet (vFgW) iX1_melt_142 <| okIld iX1_melt_145 <| okBi iX1_melt_147 (by decide) <| okIc iX1_melt_149 <| okC4 (qW_X0_set iX1_melt_150) <| okIc iX1_melt_153 <| okIst iX1_melt_154 (by decide) <| okM (okTo (tl rfl)))) (tNode (tLeaf (okIld iX1_melt_156 <| okIld iX1_melt_158 <| okCGe (tl rfl) iX1_melt_160 <| okAldn iX1_melt_163 rfl <| okIld iX1_melt_164 <| okC2 (qW_X1_swallowNext iX1_melt_166) <| okInc iX1_melt_169 (by decide) <| okGotoM (tl rfl) iX1_melt_172)) (tLeaf (okAldn iX1_melt_175 rfl <| okDup iX1_melt_176 <| okGet (vFgW) iX1_melt_177 <| okIld iX1_melt_180 <| okIc iX1_melt_182 <| okCLe (tl rfl) iX1_melt_183 <| okIc iX1_melt_186 <| okGoto (tl rfl) iX1_melt_187)))) (tNode (tLeaf (okIc iX1_melt_190 <| okTo (tl rfl))) (tNode (tLeaf (okAddW iX1_melt_191 <| okPut (vFpW) iX1_melt_192 <| okAldn iX1_melt_195 rfl <| okIld iX1_melt_196 <| okC2 (qW_X1_kindOfNew iX1_melt_198) <| okIst iX1_melt_201 (by decide) <| okIld iX1_melt_203 <| okZLt (tl rfl) iX1_melt_205 <| okAldn iX1_melt_208 rfl <| okIld iX1_melt_209 <| okIld iX1_melt_211 <| okC3 (qW_X1_announce iX1_melt_213) <| okTo (tl rfl))) (tLeaf (okVret iX1_melt_216 rfl)))))) pc
def wFin (w : WS) (i : Int) : WS :=
  let q := Int.tmod (w.1 5) 40
  let w1 := wCR (wRe w 3 q) q i
  let k := wG w 1 i 0
  let w2 := wA (wA (wA w1 5 k 4 1) 5 k 5 (wG w 1 i 3)) 5 k 6 (wG w 1 i 4)
  let w3 := wP w2 5 k 7 (max (wG w2 5 k 7) (wI (wG w 1 i 2 - wG w 1 i 1)))
  wDr (wFd w3 5 (wI (w.1 5 + 1))) 1 i
theorem wok_Fin {w : WS} {i : Int} (h : wok w) : wok (wFin w i) := by
  unfold wFin
  exact wok_Dr (by decide) (wok_Fd (wok_P (by decide) (wok_A (by decide) (wok_A (by decide) (wok_A (by decide) (wok_set (wok_Re (by decide) h) ((wok_Re (by decide) h) 3 (by decide))))))))
def sX1_finish : Int → WS → KW → Prop := fun i s K => (xB i ∧ wZ s 1 ≤ 161) ∧ K [] (wFin s i)
theorem mX1_finish_ok : mOk encW bdW mX1_finish (atR 0 (a1 sX1_finish)) := by
  refine mOVa1 kX1_finish (fun _ => rfl) (fun i s K h hb => wx_J [] 9 tX1_finish_ok rfl (fun J hR hJ => ?_))
  obtain ⟨⟨h1, h2⟩, hK⟩ := h
  have hq := tmod_B (b := 40) (hb.1 5) (by omega) (by omega)
  repeat' (first | (refine And.intro ?_ ?_) | intro _)
  all_goals first | omega | exact h2 | exact hR _ _ hK
def cW_X1_finish : Sp WS := atR 0 (a1 sX1_finish)
theorem qW_X1_finish {M : XI} {rc rs pc pc2 : Nat} (d : xl_Ca M pc mX1_finish pc2) : cOk encW bdW M rc rs pc pc2 2 cW_X1_finish := cSame mX1_finish_ok vX1_finish d wcl rfl lenW recW
def takeL : Nat → Int → WS → WS
  | 0, _, w => w
  | n + 1, i, w => takeL n (i + 1) (wTake w i)
def swL (p : Int) : Nat → WS → WS
  | 0, w => w
  | n + 1, w => swL p n (wSwallow w p)
def wMeltE (w : WS) (p m : Int) : WS :=
  let w4 := wFd w 9 (wI (w.1 9 + (if 1 < m then 1 else 0)))
  if 0 ≤ wKind w4 p then wAnn w4 (wKind w4 p) p else w4
def wRow (w : WS) (p k t v : Int) : WS := wP (wP (wP (wP (wP (wP (wP (wOp w 1 p) 1 p 0 k) 1 p 1 t) 1 p 2 t) 1 p 3 1) 1 p 4 v) 1 p 5 v) 1 p 6 (-1)
def wMelt2 (w : WS) (p m k t v : Int) : WS := if 0 ≤ p ∧ p ≤ wZ w 1 ∧ wZ w 1 < 161 then wMeltE (swL p m.toNat (wRow w p k t v)) p m else w
def wPl (w : WS) (k t : Int) : Int := if 0 ≤ wFirst w k t then wFirst w k t else wPlace w k t
def wMelt (w : WS) (k t v : Int) : WS := wMelt2 (takeL (wMany w (wFirst w k t) k t).toNat (wPl w k t) w) (wPl w k t) (wMany w (wFirst w k t) k t) k t v
theorem wZ_Take {w : WS} {i : Int} : wZ (wTake w i) 1 = wZ w 1 := by
  unfold wTake
  split <;> rfl
theorem wok_takeL : ∀ (n : Nat) (i : Int) (w : WS), wok w → wok (takeL n i w)
  | 0, _, _, h => h
  | n + 1, i, _, h => wok_takeL n (i + 1) _ (wok_Take h)
theorem wok_swL (p : Int) : ∀ (n : Nat) (w : WS), wok w → wok (swL p n w)
  | 0, _, h => h
  | n + 1, _, h => wok_swL p n _ (wok_Swallow h)
theorem wok_MeltE {w : WS} {p m : Int} (h : wok w) : wok (wMeltE w p m) := by
  have key : ∀ x : WS, wok x → wok (if 0 ≤ wKind x p then wAnn x (wKind x p) p else x) := by
    intro x hx
    split
    · exact wok_Ann hx
    · exact hx
  exact key _ (wok_Fd h)
theorem wok_Row {w : WS} {p k t v : Int} (h : wok w) (h2 : wZ w 1 < 161) : wok (wRow w p k t v) :=
  wok_P (by decide) (wok_P (by decide) (wok_P (by decide) (wok_P (by decide) (wok_P (by decide) (wok_P (by decide) (wok_P (by decide) (wok_Op (by decide) h h2)))))))
theorem wok_Melt2 {w : WS} {p m k t v : Int} (h : wok w) : wok (wMelt2 w p m k t v) := by
  unfold wMelt2
  split
  · next c => exact wok_MeltE (wok_swL _ _ _ (wok_Row h c.2.2))
  · exact h
theorem wok_Melt {w : WS} {k t v : Int} (h : wok w) : wok (wMelt w k t v) := wok_Melt2 (wok_takeL _ _ _ h)
theorem X1_melt_l2 {K : KW} {Pt : WS → Prop} (p m : Int) (hp : xB p) (hm : xB m) : ∀ (n : Nat) (i : Int) (s : WS), wok s → 0 ≤ i → i ≤ m → n = (m - i).toNat → K [] (wMeltE (swL p n s) p m) → wX encW bdW mX1_melt 0 0 K Pt 156 [some (pR 0), none, none, none, none, some (pI m), some (pI p), some (pI i)] [] s := by
  intro n
  induction n with
  | zero =>
    intro i s ho h0 h1 hn hK
    refine wx_J [40, 156] 9 tX1_melt_ok rfl (fun J hR hJ => ?_)
    rw [swL] at hK
    unfold wMeltE at hK
    dsimp only at hK
    by_cases c1 : 1 < m
    · rw [if_pos c1] at hK
      by_cases c2 : 0 ≤ wKind (wFd s 9 (wI (s.1 9 + 1))) p
      · rw [if_pos c2] at hK
        repeat' (first | (refine And.intro ?_ ?_) | intro _)
        all_goals first | omega | exact hR _ _ hK
      · rw [if_neg c2] at hK
        repeat' (first | (refine And.intro ?_ ?_) | intro _)
        all_goals first | omega | exact hR _ _ hK
    · rw [if_neg c1] at hK
      by_cases c2 : 0 ≤ wKind (wFd s 9 (wI (s.1 9 + 0))) p
      · rw [if_pos c2] at hK
        repeat' (first | (refine And.intro ?_ ?_) | intro _)
        all_goals first | omega | exact hR _ _ hK
      · rw [if_neg c2] at hK
        repeat' (first | (refine And.intro ?_ ?_) | intro _)
        all_goals first | omega | exact hR _ _ hK
  | succ n ih =>
    intro i s ho h0 h1 hn hK
    refine wx_J [40, 156] 9 tX1_melt_ok rfl (fun J hR hJ => ?_)
    have hz : wZ s 1 ≤ 161 := (ho 1 (by decide)).2
    have g := ih (i + 1) (wSwallow s p) (wok_Swallow ho) (by omega) (by omega) (by omega) hK
    repeat' (first | (refine And.intro ?_ ?_) | intro _)
    all_goals first | omega | exact hJ _ _ _ _ g
theorem X1_melt_l1 {K : KW} {Pt : WS → Prop} (p m k t v : Int) (hp : 0 ≤ p ∧ p ≤ 161) (hm : 0 ≤ m ∧ m ≤ 161) (hk : xB k) (ht : xB t) (hv : xB v) : ∀ (n : Nat) (i : Int) (s : WS), wok s → p ≤ i → i ≤ p + m → n = (p + m - i).toNat → K [] (wMelt2 (takeL n i s) p m k t v) → wX encW bdW mX1_melt 0 0 K Pt 40 [some (pR 0), some (pI k), some (pI t), some (pI v), none, some (pI m), some (pI p), some (pI i)] [] s := by
  intro n
  induction n with
  | zero =>
    intro i s ho h0 h1 hn hK
    refine wx_J [40, 156] 9 tX1_melt_ok rfl (fun J hR hJ => ?_)
    rw [takeL] at hK
    unfold wMelt2 at hK
    refine ⟨⟨⟨by omega, by omega⟩, ⟨by omega, by omega⟩⟩, fun _ => ?_, fun c => absurd c (by omega)⟩
    refine ⟨⟨by omega, by omega⟩, fun c => ?_, fun c => ?_⟩
    · have c : 0 ≤ p ∧ p ≤ wZ s 1 ∧ wZ s 1 < 161 := c
      rw [if_pos c] at hK
      have g := X1_melt_l2 (K := K) (Pt := Pt) p m ⟨by omega, by omega⟩ ⟨by omega, by omega⟩ m.toNat 0 (wRow s p k t v) (wok_Row ho c.2.2) (by omega) (by omega) (by omega) hK
      repeat' (first | (refine And.intro ?_ ?_) | intro _)
      all_goals first | omega | exact hJ _ _ _ _ g
    · have c : ¬ (0 ≤ p ∧ p ≤ wZ s 1 ∧ wZ s 1 < 161) := c
      rw [if_neg c] at hK
      repeat' (first | (refine And.intro ?_ ?_) | intro _)
      all_goals first | omega | exact hR _ _ hK
  | succ n ih =>
    intro i s ho h0 h1 hn hK
    refine wx_J [40, 156] 9 tX1_melt_ok rfl (fun J hR hJ => ?_)
    have g := ih (i + 1) (wTake s i) (wok_Take ho) (by omega) (by omega) (by omega) hK
    repeat' (first | (refine And.intro ?_ ?_) | intro _)
    all_goals first | omega | exact hJ _ _ _ _ g
def sX1_melt : Int → Int → Int → WS → KW → Prop := fun k t v s K => (xB k ∧ xB t ∧ xB v ∧ wok s) ∧ K [] (wMelt s k t v)
theorem wMelt_b {s : WS} {k t : Int} (ho : wok s) : (0 ≤ wPl s k t ∧ wPl s k t ≤ 161) ∧ (0 ≤ wMany s (wFirst s k t) k t ∧ wMany s (wFirst s k t) k t ≤ 161) := by
  have hz := ho 1 (by decide)
  have hz2 : wZ s 1 ≤ 161 := hz.2
  have f1 := ftL_b s k t (wZ s 1).toNat 0 (by omega)
  have f2 := pfL_b s k t (wZ s 1).toNat 0
  have f3 := tfL_b s k t (wZ s 1 - wFirst s k t).toNat (wFirst s k t)
  unfold wPl wMany wFirst wPlace at *
  constructor
  · split <;> omega
  · split <;> omega
theorem mX1_melt_ok : mOk encW bdW mX1_melt (atR 0 (a3 sX1_melt)) := by
  refine mOVa3 kX1_melt (fun _ _ _ => rfl) (fun k t v s K h hb => wx_J [40, 156] 9 tX1_melt_ok rfl (fun J hR hJ => ?_))
  obtain ⟨⟨h1, h2, h3, h4⟩, hK⟩ := h
  obtain ⟨b1, b2⟩ := wMelt_b (k := k) (t := t) h4
  have hz := h4 1 (by decide)
  have g := X1_melt_l1 (K := K) (Pt := fun _ => False) (wPl s k t) (wMany s (wFirst s k t) k t) k t v b1 b2 h1 h2 h3 _ (wPl s k t) s h4 (Int.le_refl _) (by omega) rfl (by
    rw [show (wPl s k t + wMany s (wFirst s k t) k t - wPl s k t).toNat = (wMany s (wFirst s k t) k t).toNat by omega]
    exact hK)
  refine ⟨⟨h1, h2⟩, fun q1 => ⟨⟨q1, h1, h2⟩, fun q2 => ⟨q1, fun c => ?_, fun c => ?_⟩⟩⟩
  · refine ⟨⟨h1, h2, hz.1⟩, fun q3 => hJ _ _ _ _ ?_⟩
    rw [wPl, if_neg (by omega)] at g
    exact g
  · refine hJ _ _ _ _ ?_
    rw [wPl, if_pos c] at g
    exact g
def cW_X1_melt : Sp WS := atR 0 (a3 sX1_melt)
theorem qW_X1_melt {M : XI} {rc rs pc pc2 : Nat} (d : xl_Ca M pc mX1_melt pc2) : cOk encW bdW M rc rs pc pc2 4 cW_X1_melt := cSame mX1_melt_ok vX1_melt d wcl rfl lenW recW
end
-- 31.We
section
/-! ===== World: rise, events, marks, idle ones ===== -/
section LOOK
variable {σ : Type} {enc : σ → XH} {bd : σ → Prop} {M : XI} {rc rs pc : Nat}
def lookOk (pc : Nat) : List (Int × Int) → List (Int × Nat) → Bool
  | [], [] => true
  | a :: as, t :: ts => decide (a.1 = t.1) && (decide ((pc : Int) + a.2 = (t.2 : Int)) && (decide (t.2 < 1000000) && lookOk pc as ts))
  | _, _ => false
theorem xl_look {L : List (Option Value)} {st : List Value} {h : XH} {Po : Option (Option Value) → XH → Prop} {a : Int32} {dflt off : Int} {ps : Array (Int × Int)} {len tgt : Nat} (d : decode M.2.1 pc = .ok (.lookupswitch dflt ps, len)) (hp : (ps.toList.zip (ps.toList.drop 1)).all (fun (a, next) => a.1 < next.1) = true) (ho : Op.lookupswitch.offset ps.toList dflt a.toInt = off) (ht : (pc : Int) + off = tgt) (k : xl_W M rc rs tgt L st h Po) : xl_W M rc rs pc L (.int a :: st) h Po := by
  intro p l e R s m args below meth c D aC ρ σ aV A H locs cells slots ls Q hX hH hL q1 q2 hr ht2
  exact lv_lookup hX.1 hX.2.1 d hp ho ht (k p l e R s m args below meth c D aC ρ σ aV A H locs cells slots ls Q hX hH hL q1 q2 hr ht2)
theorem lookP_of {J : JP σ} {L : PL} {st : PS} {s : σ} {z dflt : Int} {df : Nat} (hd : (pc : Int) + dflt = df) (hdl : df < 1000000) : ∀ (as : List (Int × Int)) (ts : List (Int × Nat)), lookOk pc as ts = true → oLookP J L st s z df ts → ∃ tgt : Nat, tgt < 1000000 ∧ (pc : Int) + Op.lookupswitch.offset as dflt z = tgt ∧ J tgt L st s
  | [], [], _, h => ⟨df, hdl, hd, h⟩
  | [], _ :: _, h0, _ => by simp [lookOk] at h0
  | _ :: _, [], h0, _ => by simp [lookOk] at h0
  | (k, o) :: as, (k2, t) :: ts, h0, h => by
    simp only [lookOk, Bool.and_eq_true, decide_eq_true_eq] at h0
    obtain ⟨e1, e2, e3, e4⟩ := h0
    subst e1
    rw [Op.lookupswitch.offset_cons]
    by_cases c : k = z
    · rw [if_pos c]
      exact ⟨t, e3, e2, h.1 c.symm⟩
    · rw [if_neg c]
      exact lookP_of hd hdl as ts e4 (h.2 (fun q => c q.symm))
theorem okLook {dflt : Int} {ps : Array (Int × Int)} {len : Nat} {ts : List (Int × Nat)} {df : Nat} (h1 : (pc : Int) + dflt = df ∧ df < 1000000) (h2 : lookOk pc ps.toList ts = true) (h3 : (ps.toList.zip (ps.toList.drop 1)).all (fun (a, next) => a.1 < next.1) = true) (d : decode M.2.1 pc = .ok (.lookupswitch dflt ps, len)) : bOk enc bd M rc rs pc (oLook ts df) := by
  intro Po Pt J hJ L st s hb h
  unfold oLook at h
  split at h
  · next z st =>
    have hz : (iI z).toInt = z := iI_toInt h.1
    obtain ⟨tgt, t1, t2, t3⟩ := lookP_of h1.1 h1.2 _ _ h2 h.2
    have := hJ _ _ _ _ t3
    rw [wX_lt t1] at this
    exact xl_look d h3 rfl (by rw [hz]; exact t2) (this hb)
  · exact h.elim
end LOOK
-- X1_rise: heads [33]
def tX1_rise : Nat → Blk WS := fun pc => bif Nat.blt pc 52 then (bif Nat.blt pc 17 then (bif Nat.beq pc 0 then (oAld 0 <| oGet (fgW) 1 3 <| oIst 1 <| oAld 0 <| oI (-1) <| oC2 (cW_X1_leastMark) <| oIst 2 <| oIld 2 <| oIld 1 <| oCGt 17 <| oVret) else oNo) else (bif Nat.blt pc 33 then (bif Nat.beq pc 17 then (oAld 0 <| oIld 2 <| oPut (fpW) 1 3 <| oI (-1) <| oIst 3 <| oAld 0 <| oGet (fgW) 1 11 <| oGet (fgW) 0 3 <| oIst 4 <| oM [true, true, false, true, true, false] (oTo 33)) else oNo) else (bif Nat.beq pc 33 then (oIld 4 <| oZLe 107 <| oAld 0 <| oIld 3 <| oIld 1 <| oC3 (cW_X1_dueBehind) <| oIst 5 <| oIld 5 <| oZGe 52 <| oVret) else oNo))) else (bif Nat.blt pc 101 then (bif Nat.blt pc 82 then (bif Nat.beq pc 52 then (oAld 0 <| oIld 5 <| oC2 (cW_X1_turnOf) <| oIst 3 <| oAld 0 <| oIld 5 <| oIld 1 <| oC3 (cW_X1_isRipe) <| oZNe 82 <| oAld 0 <| oIld 5 <| oC2 (cW_X1_takeBack) <| oAld 0 <| oI 1 <| oIld 5 <| oC3 (cW_X1_announce) <| oTo 82) else oNo) else (bif Nat.beq pc 82 then (oAld 0 <| oIld 5 <| oAld 0 <| oGet (fgW) 1 3 <| oC3 (cW_X1_isOver) <| oZEq 101 <| oAld 0 <| oIld 5 <| oC2 (cW_X1_finish) <| oTo 101) else oNo)) else (bif Nat.blt pc 107 then (bif Nat.beq pc 101 then (oInc 4 (-1) <| oM [true, true, false, true, true, false] (oTo 33)) else oNo) else (bif Nat.beq pc 107 then (oVret) else oNo)))
theorem tX1_rise_ok : ∀ pc, bOk (encW) (bdW) mX1_rise 0 0 pc (tX1_rise pc) := fun pc => (tNode (tNode (tLeaf (okAldn iX1_rise_0 rfl <| okGet (vFgW) iX1_rise_1 <| okIstn iX1_rise_4 rfl (by decide) <| okAldn iX1_rise_5 rfl <| okIc iX1_rise_6 <| okC2 (qW_X1_leastMark iX1_rise_7) <| okIstn iX1_rise_10 rfl (by decide) <| okIldn iX1_rise_11 rfl <| okIldn iX1_rise_12 rfl <| okCGt (tl rfl) iX1_rise_13 <| okVret iX1_rise_16 rfl)) (tNode (tLeaf (okAldn iX1_rise_17 rfl <| okIldn iX1_rise_18 rfl <| okPut (vFpW) iX1_rise_19 <| okIc iX1_rise_22 <| okIstn iX1_rise_23 rfl (by decide) <| okAldn iX1_rise_24 rfl <| okGet (vFgW) iX1_rise_25 <| okGet (vFgW) iX1_rise_28 <| okIst iX1_rise_31 (by decide) <| okM (okTo (tl rfl)))) (tLeaf (okIld iX1_rise_33 <| okZLe (tl rfl) iX1_rise_35 <| okAldn iX1_rise_38 rfl <| okIldn iX1_rise_39 rfl <| okIldn iX1_rise_40 rfl <| okC3 (qW_X1_dueBehind iX1_rise_41) <| okIst iX1_rise_44 (by decide) <| okIld iX1_rise_46 <| okZGe (tl rfl) iX1_rise_48 <| okVret iX1_rise_51 rfl)))) (tNode (tNode (tLeaf (okAldn iX1_rise_52 rfl <| okIld iX1_rise_53 <| okC2 (qW_X1_turnOf iX1_rise_55) <| okIstn iX1_rise_58 rfl (by decide) <| okAldn iX1_rise_59 rfl <| okIld iX1_rise_60 <| okIldn iX1_rise_62 rfl <| okC3 (qW_X1_isRipe iX1_rise_63) <| okZNe (tl rfl) iX1_rise_66 <| okAldn iX1_rise_69 rfl <| okIld iX1_rise_70 <| okC2 (qW_X1_takeBack iX1_rise_72) <| okAldn iX1_rise_75 rfl <| okIc iX1_rise_76 <| okIld iX1_rise_77 <| okC3 (qW_X1_announce iX1_rise_79) <| okTo (tl rfl))) (tLeaf (okAldn iX1_rise_82 rfl <| okIld iX1_rise_83 <| okAldn iX1_rise_85 rfl <| okGet (vFgW) iX1_rise_86 <| okC3 (qW_X1_isOver iX1_rise_89) <| okZEq (tl rfl) iX1_rise_92 <| okAldn iX1_rise_95 rfl <| okIld iX1_rise_96 <| okC2 (qW_X1_finish iX1_rise_98) <| okTo (tl rfl)))) (tNode (tLeaf (okInc iX1_rise_101 (by decide) <| okGotoM (tl rfl) iX1_rise_104)) (tLeaf (okVret iX1_rise_107 rfl))))) pc
def wStep (w : WS) (be i : Int) : WS :=
  let w1 := if wRipe w i be then w else wAnn (wTake w i) 1 i
  if wOver w1 i (w1.1 3) then wFin w1 i else w1
def riseL (be : Int) : Nat → Int → WS → WS
  | 0, _, w => w
  | n + 1, pa, w => if wDue w pa be < 0 then w else riseL be n (wTurn w (wDue w pa be)) (wStep w be (wDue w pa be))
def wRise (w : WS) : WS := if wLeast w (-1) ≤ w.1 3 then w else riseL (w.1 3) (wZ w 1).toNat (-1) (wFd w 3 (wLeast w (-1)))
theorem wok_Step {w : WS} {be i : Int} (h : wok w) : wok (wStep w be i) := by
  have key : ∀ x : WS, wok x → wok (if wOver x i (x.1 3) then wFin x i else x) := by
    intro x hx
    split
    · exact wok_Fin hx
    · exact hx
  refine key _ ?_
  split
  · exact h
  · exact wok_Ann (wok_Take h)
theorem wok_riseL (be : Int) : ∀ (n : Nat) (pa : Int) (w : WS), wok w → wok (riseL be n pa w)
  | 0, _, _, h => h
  | n + 1, pa, w, h => by
    rw [riseL]
    split
    · exact h
    · exact wok_riseL be n _ _ (wok_Step h)
theorem wok_Rise {w : WS} (h : wok w) : wok (wRise w) := by
  unfold wRise
  split
  · exact h
  · exact wok_riseL _ _ _ _ (wok_Fd h)
theorem X1_rise_loop {K : KW} {Pt : WS → Prop} (be : Int) (hbe : xB be) : ∀ (n : Nat) (pa : Int) (s : WS), wok s → xB pa → (n : Int) ≤ 2147483647 → K [] (riseL be n pa s) → wX encW bdW mX1_rise 0 0 K Pt 33 [some (pR 0), some (pI be), none, some (pI pa), some (pI n), none] [] s := by
  intro n
  induction n with
  | zero =>
    intro pa s ho hpa hn hK
    refine wx_J [33] 9 tX1_rise_ok rfl (fun J hR hJ => ?_)
    repeat' (first | (refine And.intro ?_ ?_) | intro _)
    all_goals first | omega | exact hR _ _ hK
  | succ n ih =>
    intro pa s ho hpa hn hK
    refine wx_J [33] 9 tX1_rise_ok rfl (fun J hR hJ => ?_)
    rw [riseL] at hK
    have hz : wZ s 1 ≤ 161 := (ho 1 (by decide)).2
    have en : ((n + 1 : Nat) : Int) + -1 = (n : Int) := by omega
    refine ⟨⟨by omega, by omega⟩, fun c => absurd c (by omega), fun _ => ⟨⟨hpa, hbe⟩, fun hd => ⟨hd, fun c => ?_, fun c => ?_⟩⟩⟩
    · rw [if_neg (by omega)] at hK
      refine ⟨hd, fun ht => ⟨⟨hd, hbe⟩, fun c1 => ?_, fun c1 => ?_⟩⟩
      · have g : ∀ x, x = wStep s be (wDue s pa be) → wX encW bdW mX1_rise 0 0 K Pt 33 [some (pR 0), some (pI be), none, some (pI (wTurn s (wDue s pa be))), some (pI (((n + 1 : Nat) : Int) + -1)), none] [] x := by
          intro x ex
          rw [en, ex]
          exact ih _ _ (wok_Step ho) ht (by omega) hK
        refine ⟨⟨by omega, by omega⟩, fun c2 => ?_, fun c2 => absurd c2 (by omega)⟩
        intro hp
        refine ⟨⟨hd, hp⟩, fun c3 => ?_, fun c3 => ?_⟩
        · refine ⟨⟨by omega, by omega⟩, fun c4 => absurd c4 (by omega), fun c4 => ⟨⟨hd, hz⟩, hJ _ _ _ _ (g _ ?_)⟩⟩
          unfold wStep
          rw [if_pos c1]
          dsimp only
          rw [if_pos c3]
        · refine ⟨⟨by omega, by omega⟩, fun c4 => hJ _ _ _ _ (g _ ?_), fun c4 => absurd rfl c4⟩
          unfold wStep
          rw [if_pos c1]
          dsimp only
          rw [if_neg c3]
      · have g : ∀ x, x = wStep s be (wDue s pa be) → wX encW bdW mX1_rise 0 0 K Pt 33 [some (pR 0), some (pI be), none, some (pI (wTurn s (wDue s pa be))), some (pI (((n + 1 : Nat) : Int) + -1)), none] [] x := by
          intro x ex
          rw [en, ex]
          exact ih _ _ (wok_Step ho) ht (by omega) hK
        have ho2 := wok_Ann (k := 1) (i := wDue s pa be) (wok_Take (i := wDue s pa be) ho)
        have hz2 : wZ (wAnn (wTake s (wDue s pa be)) 1 (wDue s pa be)) 1 ≤ 161 := (ho2 1 (by decide)).2
        refine ⟨⟨by omega, by omega⟩, fun c2 => absurd rfl c2, fun c2 => ⟨hd, ⟨⟨⟨by omega, by omega⟩, hd⟩, ?_⟩⟩⟩
        intro hp
        refine ⟨⟨hd, hp⟩, fun c3 => ?_, fun c3 => ?_⟩
        · refine ⟨⟨by omega, by omega⟩, fun c4 => absurd c4 (by omega), fun c4 => ⟨⟨hd, hz2⟩, hJ _ _ _ _ (g _ ?_)⟩⟩
          unfold wStep
          rw [if_neg c1]
          dsimp only
          rw [if_pos c3]
        · refine ⟨⟨by omega, by omega⟩, fun c4 => hJ _ _ _ _ (g _ ?_), fun c4 => absurd rfl c4⟩
          unfold wStep
          rw [if_neg c1]
          dsimp only
          rw [if_neg c3]
    · rw [if_pos c] at hK
      exact hR _ _ hK
def sX1_rise : WS → KW → Prop := fun s K => wok s ∧ K [] (wRise s)
theorem mX1_rise_ok : mOk encW bdW mX1_rise (atR 0 (a0 sX1_rise)) := by
  refine mOVa0 kX1_rise (fun _ => rfl) (fun s K h hb => wx_J [33] 9 tX1_rise_ok rfl (fun J hR hJ => ?_))
  obtain ⟨h1, hK⟩ := h
  have hz := h1 1 (by decide)
  have hz2 : wZ s 1 ≤ 161 := hz.2
  unfold wRise at hK
  by_cases c : wLeast s (-1) ≤ s.1 3
  · rw [if_pos c] at hK
    repeat' (first | (refine And.intro ?_ ?_) | intro _)
    all_goals first | omega | exact hR _ _ hK
  · rw [if_neg c] at hK
    have g := X1_rise_loop (K := K) (Pt := fun _ => False) (s.1 3) (hb.1 3) (wZ s 1).toNat (-1) (wFd s 3 (wLeast s (-1))) (wok_Fd h1) ⟨by omega, by omega⟩ (by omega) hK
    rw [show (((wZ s 1).toNat : Nat) : Int) = wZ s 1 by omega] at g
    repeat' (first | (refine And.intro ?_ ?_) | intro _)
    all_goals first | omega | exact hJ _ _ _ _ g
def cW_X1_rise : Sp WS := atR 0 (a0 sX1_rise)
theorem qW_X1_rise {M : XI} {rc rs pc pc2 : Nat} (d : xl_Ca M pc mX1_rise pc2) : cOk encW bdW M rc rs pc pc2 1 cW_X1_rise := cSame mX1_rise_ok vX1_rise d wcl rfl lenW recW
-- X1_playEvent: heads []
def tX1_playEvent : Nat → Blk WS := fun pc => bif Nat.blt pc 73 then (bif Nat.blt pc 48 then (bif Nat.beq pc 0 then (oAld 0 <| oIld 2 <| oC2 (cW_X1_fateOf) <| oIst 5 <| oAld 0 <| oGet (fgW) 1 10 <| oIld 4 <| oI 3 <| oI 1 <| oC4 (cW_X0_add) <| oIld 5 <| oI 2 <| oCNe 48 <| oAld 0 <| oDup <| oGet (fgW) 1 8 <| oI 1 <| oAddW <| oPut (fpW) 1 8 <| oAld 0 <| oGet (fgW) 1 10 <| oIld 4 <| oI 4 <| oI 1 <| oC4 (cW_X0_add) <| oTo 85) else oNo) else (bif Nat.beq pc 48 then (oAld 0 <| oDup <| oGet (fgW) 1 6 <| oI 1 <| oAddW <| oPut (fpW) 1 6 <| oAld 0 <| oDup <| oGet (fgW) 1 7 <| oIld 5 <| oI 1 <| oCNe 73 <| oI 1 <| oTo 74) else oNo)) else (bif Nat.blt pc 74 then (bif Nat.beq pc 73 then (oI 0 <| oTo 74) else oNo) else (bif Nat.blt pc 85 then (bif Nat.beq pc 74 then (oAddW <| oPut (fpW) 1 7 <| oAld 0 <| oIld 1 <| oIld 2 <| oIld 3 <| oC4 (cW_X1_melt) <| oTo 85) else oNo) else (bif Nat.beq pc 85 then (oAld 0 <| oGet (fgW) 1 10 <| oIld 4 <| oI 2 <| oI 0 <| oC4 (cW_X0_set) <| oAld 0 <| oIld 4 <| oIld 2 <| oAld 0 <| oGet (fgW) 1 10 <| oIld 4 <| oI 1 <| oC3 (cW_X0_get) <| oSubW <| oC3 (cW_X1_raiseMark) <| oAld 0 <| oC1 (cW_X1_rise) <| oIld 5 <| oIret) else oNo)))
theorem tX1_playEvent_ok : ∀ pc, bOk (encW) (bdW) mX1_playEvent 0 0 pc (tX1_playEvent pc) := fun pc => (tNode (tNode (tLeaf (okAldn iX1_playEvent_0 rfl <| okIldn iX1_playEvent_1 rfl <| okC2 (qW_X1_fateOf iX1_playEvent_2) <| okIst iX1_playEvent_5 (by decide) <| okAldn iX1_playEvent_7 rfl <| okGet (vFgW) iX1_playEvent_8 <| okIld iX1_playEvent_11 <| okIc iX1_playEvent_13 <| okIc iX1_playEvent_14 <| okC4 (qW_X0_add iX1_playEvent_15) <| okIld iX1_playEvent_18 <| okIc iX1_playEvent_20 <| okCNe (tl rfl) iX1_playEvent_21 <| okAldn iX1_playEvent_24 rfl <| okDup iX1_playEvent_25 <| okGet (vFgW) iX1_playEvent_26 <| okIc iX1_playEvent_29 <| okAddW iX1_playEvent_30 <| okPut (vFpW) iX1_playEvent_31 <| okAldn iX1_playEvent_34 rfl <| okGet (vFgW) iX1_playEvent_35 <| okIld iX1_playEvent_38 <| okIc iX1_playEvent_40 <| okIc iX1_playEvent_41 <| okC4 (qW_X0_add iX1_playEvent_42) <| okGoto (tl rfl) iX1_playEvent_45)) (tLeaf (okAldn iX1_playEvent_48 rfl <| okDup iX1_playEvent_49 <| okGet (vFgW) iX1_playEvent_50 <| okIc iX1_playEvent_53 <| okAddW iX1_playEvent_54 <| okPut (vFpW) iX1_playEvent_55 <| okAldn iX1_playEvent_58 rfl <| okDup iX1_playEvent_59 <| okGet (vFgW) iX1_playEvent_60 <| okIld iX1_playEvent_63 <| okIc iX1_playEvent_65 <| okCNe (tl rfl) iX1_playEvent_66 <| okIc iX1_playEvent_69 <| okGoto (tl rfl) iX1_playEvent_70))) (tNode (tLeaf (okIc iX1_playEvent_73 <| okTo (tl rfl))) (tNode (tLeaf (okAddW iX1_playEvent_74 <| okPut (vFpW) iX1_playEvent_75 <| okAldn iX1_playEvent_78 rfl <| okIldn iX1_playEvent_79 rfl <| okIldn iX1_playEvent_80 rfl <| okIldn iX1_playEvent_81 rfl <| okC4 (qW_X1_melt iX1_playEvent_82) <| okTo (tl rfl))) (tLeaf (okAldn iX1_playEvent_85 rfl <| okGet (vFgW) iX1_playEvent_86 <| okIld iX1_playEvent_89 <| okIc iX1_playEvent_91 <| okIc iX1_playEvent_92 <| okC4 (qW_X0_set iX1_playEvent_93) <| okAldn iX1_playEvent_96 rfl <| okIld iX1_playEvent_97 <| okIldn iX1_playEvent_99 rfl <| okAldn iX1_playEvent_100 rfl <| okGet (vFgW) iX1_playEvent_101 <| okIld iX1_playEvent_104 <| okIc iX1_playEvent_106 <| okC3 (qW_X0_get iX1_playEvent_107) <| okSubW iX1_playEvent_110 <| okC3 (qW_X1_raiseMark iX1_playEvent_111) <| okAldn iX1_playEvent_114 rfl <| okC1 (qW_X1_rise iX1_playEvent_115) <| okIld iX1_playEvent_118 <| okIret iX1_playEvent_120 rfl))))) pc
-- X1_playMark: heads []
def tX1_playMark : Nat → Blk WS := fun pc => bif Nat.beq pc 0 then (oAld 0 <| oIld 1 <| oIld 2 <| oC3 (cW_X1_raiseMark) <| oAld 0 <| oC1 (cW_X1_rise) <| oVret) else oNo
theorem tX1_playMark_ok : ∀ pc, bOk (encW) (bdW) mX1_playMark 0 0 pc (tX1_playMark pc) := fun pc => (tLeaf (okAldn iX1_playMark_0 rfl <| okIldn iX1_playMark_1 rfl <| okIldn iX1_playMark_2 rfl <| okC3 (qW_X1_raiseMark iX1_playMark_3) <| okAldn iX1_playMark_6 rfl <| okC1 (qW_X1_rise iX1_playMark_7) <| okVret iX1_playMark_10 rfl)) pc
-- X1_playIdle: heads []
def tX1_playIdle : Nat → Blk WS := fun pc => bif Nat.beq pc 0 then (oAld 0 <| oGet (fgW) 1 10 <| oIld 1 <| oI 2 <| oI 1 <| oC4 (cW_X0_set) <| oAld 0 <| oC1 (cW_X1_rise) <| oVret) else oNo
theorem tX1_playIdle_ok : ∀ pc, bOk (encW) (bdW) mX1_playIdle 0 0 pc (tX1_playIdle pc) := fun pc => (tLeaf (okAldn iX1_playIdle_0 rfl <| okGet (vFgW) iX1_playIdle_1 <| okIldn iX1_playIdle_4 rfl <| okIc iX1_playIdle_5 <| okIc iX1_playIdle_6 <| okC4 (qW_X0_set iX1_playIdle_7) <| okAldn iX1_playIdle_10 rfl <| okC1 (qW_X1_rise iX1_playIdle_11) <| okVret iX1_playIdle_14 rfl)) pc
def wPlayE (w : WS) (k t v r : Int) : WS :=
  let w1 := wA w 0 r 3 1
  let w2 := if wFate w t = 2 then wA (wFd w1 8 (wI (w1.1 8 + 1))) 0 r 4 1 else wMelt (wFd (wFd w1 6 (wI (w1.1 6 + 1))) 7 (wI (w1.1 7 + (if wFate w t = 1 then 1 else 0)))) k t v
  let w3 := wP w2 0 r 2 0
  wRise (wRaise w3 r (wI (t - wG w3 0 r 1)))
theorem wok_PlayE {w : WS} {k t v r : Int} (h : wok w) : wok (wPlayE w k t v r) := by
  unfold wPlayE
  refine wok_Rise (wok_Raise (wok_P (by decide) ?_))
  split
  · exact wok_A (by decide) (wok_Fd (wok_A (by decide) h))
  · exact wok_Melt (wok_Fd (wok_Fd (wok_A (by decide) h)))
def sX1_playEvent : Int → Int → Int → Int → WS → KW → Prop := fun k t v r s K => (xB k ∧ xB t ∧ xB v ∧ xB r ∧ wok s) ∧ (0 ≤ wFate s t → wFate s t ≤ 2 → K [pI (wFate s t)] (wPlayE s k t v r))
theorem mX1_playEvent_ok : mOk encW bdW mX1_playEvent (atR 0 (a4 sX1_playEvent)) := by
  refine mOVa4 kX1_playEvent (fun _ _ _ _ => rfl) (fun k t v r s K h hb => wx_J [] 9 tX1_playEvent_ok rfl (fun J hR hJ => ?_))
  obtain ⟨⟨h1, h2, h3, h4, h5⟩, hK⟩ := h
  have hf := wFate_b s t
  have hK := hK hf.1 hf.2
  unfold wPlayE at hK
  dsimp only at hK
  refine ⟨h2, fun f0 f1 => ?_⟩
  by_cases c : wFate s t = 2
  · rw [if_pos c] at hK
    have ho : wok (wRaise (wP (wA (wFd (wA s 0 r 3 1) 8 (wI ((wA s 0 r 3 1).1 8 + 1))) 0 r 4 1) 0 r 2 0) r (wI (t - wG (wP (wA (wFd (wA s 0 r 3 1) 8 (wI ((wA s 0 r 3 1).1 8 + 1))) 0 r 4 1) 0 r 2 0) 0 r 1))) := wok_Raise (wok_P (by decide) (wok_A (by decide) (wok_Fd (wok_A (by decide) h5))))
    repeat' (first | (refine And.intro ?_ ?_) | intro _)
    all_goals first | omega | exact (ho _ (by assumption)).1 | exact (ho _ (by assumption)).2 | exact hR _ _ hK | contradiction
  · rw [if_neg c] at hK
    have hA : wok (wA s 0 r 3 1) := wok_A (by decide) h5
    by_cases c2 : wFate s t = 1
    · rw [if_pos c2] at hK
      have hm : wok (wFd (wFd (wA s 0 r 3 1) 6 (wI ((wA s 0 r 3 1).1 6 + 1))) 7 (wI ((wA s 0 r 3 1).1 7 + 1))) := wok_Fd (wok_Fd hA)
      have ho := wok_Raise (r := r) (t := wI (t - wG (wP (wMelt (wFd (wFd (wA s 0 r 3 1) 6 (wI ((wA s 0 r 3 1).1 6 + 1))) 7 (wI ((wA s 0 r 3 1).1 7 + 1))) k t v) 0 r 2 0) 0 r 1)) (wok_P (t := 0) (i := r) (c := 2) (v := 0) (by decide) (wok_Melt (k := k) (t := t) (v := v) hm))
      repeat' (first | (refine And.intro ?_ ?_) | intro _)
      all_goals first | omega | exact (ho _ (by assumption)).1 | exact (ho _ (by assumption)).2 | exact (hm _ (by assumption)).1 | exact (hm _ (by assumption)).2 | exact hR _ _ hK | contradiction
    · rw [if_neg c2] at hK
      have hm : wok (wFd (wFd (wA s 0 r 3 1) 6 (wI ((wA s 0 r 3 1).1 6 + 1))) 7 (wI ((wA s 0 r 3 1).1 7 + 0))) := wok_Fd (wok_Fd hA)
      have ho := wok_Raise (r := r) (t := wI (t - wG (wP (wMelt (wFd (wFd (wA s 0 r 3 1) 6 (wI ((wA s 0 r 3 1).1 6 + 1))) 7 (wI ((wA s 0 r 3 1).1 7 + 0))) k t v) 0 r 2 0) 0 r 1)) (wok_P (t := 0) (i := r) (c := 2) (v := 0) (by decide) (wok_Melt (k := k) (t := t) (v := v) hm))
      repeat' (first | (refine And.intro ?_ ?_) | intro _)
      all_goals first | omega | exact (ho _ (by assumption)).1 | exact (ho _ (by assumption)).2 | exact (hm _ (by assumption)).1 | exact (hm _ (by assumption)).2 | exact hR _ _ hK | contradiction
def cW_X1_playEvent : Sp WS := atR 0 (a4 sX1_playEvent)
theorem qW_X1_playEvent {M : XI} {rc rs pc pc2 : Nat} (d : xl_Ca M pc mX1_playEvent pc2) : cOk encW bdW M rc rs pc pc2 5 cW_X1_playEvent := cSame mX1_playEvent_ok vX1_playEvent d wcl rfl lenW recW
def wPlayM (w : WS) (r t : Int) : WS := wRise (wRaise w r t)
def sX1_playMark : Int → Int → WS → KW → Prop := fun r t s K => (xB r ∧ xB t ∧ wok s) ∧ K [] (wPlayM s r t)
theorem mX1_playMark_ok : mOk encW bdW mX1_playMark (atR 0 (a2 sX1_playMark)) := by
  refine mOVa2 kX1_playMark (fun _ _ => rfl) (fun r t s K h hb => wx_J [] 9 tX1_playMark_ok rfl (fun J hR hJ => ?_))
  obtain ⟨⟨h1, h2, h3⟩, hK⟩ := h
  exact ⟨⟨h1, h2⟩, wok_Raise h3, hR _ _ hK⟩
def cW_X1_playMark : Sp WS := atR 0 (a2 sX1_playMark)
theorem qW_X1_playMark {M : XI} {rc rs pc pc2 : Nat} (d : xl_Ca M pc mX1_playMark pc2) : cOk encW bdW M rc rs pc pc2 3 cW_X1_playMark := cSame mX1_playMark_ok vX1_playMark d wcl rfl lenW recW
def wPlayI (w : WS) (r : Int) : WS := wRise (wP w 0 r 2 1)
def sX1_playIdle : Int → WS → KW → Prop := fun r s K => (xB r ∧ wok s) ∧ K [] (wPlayI s r)
theorem mX1_playIdle_ok : mOk encW bdW mX1_playIdle (atR 0 (a1 sX1_playIdle)) := by
  refine mOVa1 kX1_playIdle (fun _ => rfl) (fun r s K h hb => wx_J [] 9 tX1_playIdle_ok rfl (fun J hR hJ => ?_))
  obtain ⟨⟨h1, h2⟩, hK⟩ := h
  exact ⟨⟨h1, ⟨by omega, by omega⟩, ⟨by omega, by omega⟩⟩, wok_P (by decide) h2, hR _ _ hK⟩
def cW_X1_playIdle : Sp WS := atR 0 (a1 sX1_playIdle)
theorem qW_X1_playIdle {M : XI} {rc rs pc pc2 : Nat} (d : xl_Ca M pc mX1_playIdle pc2) : cOk encW bdW M rc rs pc pc2 2 cW_X1_playIdle := cSame mX1_playIdle_ok vX1_playIdle d wcl rfl lenW recW
theorem wok_PlayM {w : WS} {r t : Int} (h : wok w) : wok (wPlayM w r t) := wok_Rise (wok_Raise h)
theorem wok_PlayI {w : WS} {r : Int} (h : wok w) : wok (wPlayI w r) := wok_Rise (wok_P (by decide) h)
-- X1_comeEvent: heads []
def tX1_comeEvent : Nat → Blk WS := fun pc => bif Nat.beq pc 0 then (oAld 0 <| oGet (fgW) 1 14 <| oGet (fgW) 0 3 <| oIst 5 <| oI 0 <| oAld 0 <| oGet (fgW) 1 3 <| oIld 2 <| oSubW <| oMax <| oIst 6 <| oAld 0 <| oI 0 <| oIld 4 <| oIld 2 <| oC4 (cW_X1_note) <| oAld 0 <| oIld 1 <| oIld 2 <| oIld 3 <| oIld 4 <| oC5 (cW_X1_playEvent) <| oIst 7 <| oAld 0 <| oGet (fgW) 1 14 <| oIld 5 <| oI 3 <| oIld 1 <| oC4 (cW_X0_set) <| oAld 0 <| oGet (fgW) 1 14 <| oIld 5 <| oI 4 <| oIld 3 <| oC4 (cW_X0_set) <| oAld 0 <| oGet (fgW) 1 14 <| oIld 5 <| oI 5 <| oIld 7 <| oC4 (cW_X0_set) <| oAld 0 <| oGet (fgW) 1 14 <| oIld 5 <| oI 6 <| oIld 6 <| oC4 (cW_X0_set) <| oIld 7 <| oIret) else oNo
theorem tX1_comeEvent_ok : ∀ pc, bOk (encW) (bdW) mX1_comeEvent 0 0 pc (tX1_comeEvent pc) := fun pc => (tLeaf (okAldn iX1_comeEvent_0 rfl <| okGet (vFgW) iX1_comeEvent_1 <| okGet (vFgW) iX1_comeEvent_4 <| okIst iX1_comeEvent_7 (by decide) <| okIc iX1_comeEvent_9 <| okAldn iX1_comeEvent_10 rfl <| okGet (vFgW) iX1_comeEvent_11 <| okIldn iX1_comeEvent_14 rfl <| okSubW iX1_comeEvent_15 <| okMax iX1_comeEvent_16 <| okIst iX1_comeEvent_19 (by decide) <| okAldn iX1_comeEvent_21 rfl <| okIc iX1_comeEvent_22 <| okIld iX1_comeEvent_23 <| okIldn iX1_comeEvent_25 rfl <| okC4 (qW_X1_note iX1_comeEvent_26) <| okAldn iX1_comeEvent_29 rfl <| okIldn iX1_comeEvent_30 rfl <| okIldn iX1_comeEvent_31 rfl <| okIldn iX1_comeEvent_32 rfl <| okIld iX1_comeEvent_33 <| okC5 (qW_X1_playEvent iX1_comeEvent_35) <| okIst iX1_comeEvent_38 (by decide) <| okAldn iX1_comeEvent_40 rfl <| okGet (vFgW) iX1_comeEvent_41 <| okIld iX1_comeEvent_44 <| okIc iX1_comeEvent_46 <| okIldn iX1_comeEvent_47 rfl <| okC4 (qW_X0_set iX1_comeEvent_48) <| okAldn iX1_comeEvent_51 rfl <| okGet (vFgW) iX1_comeEvent_52 <| okIld iX1_comeEvent_55 <| okIc iX1_comeEvent_57 <| okIldn iX1_comeEvent_58 rfl <| okC4 (qW_X0_set iX1_comeEvent_59) <| okAldn iX1_comeEvent_62 rfl <| okGet (vFgW) iX1_comeEvent_63 <| okIld iX1_comeEvent_66 <| okIc iX1_comeEvent_68 <| okIld iX1_comeEvent_69 <| okC4 (qW_X0_set iX1_comeEvent_71) <| okAldn iX1_comeEvent_74 rfl <| okGet (vFgW) iX1_comeEvent_75 <| okIld iX1_comeEvent_78 <| okBi iX1_comeEvent_80 (by decide) <| okIld iX1_comeEvent_82 <| okC4 (qW_X0_set iX1_comeEvent_84) <| okIld iX1_comeEvent_87 <| okIret iX1_comeEvent_89 rfl)) pc
-- X1_comeMark: heads []
def tX1_comeMark : Nat → Blk WS := fun pc => bif Nat.beq pc 0 then (oAld 0 <| oI 1 <| oIld 1 <| oIld 2 <| oC4 (cW_X1_note) <| oAld 0 <| oIld 1 <| oIld 2 <| oC3 (cW_X1_playMark) <| oVret) else oNo
theorem tX1_comeMark_ok : ∀ pc, bOk (encW) (bdW) mX1_comeMark 0 0 pc (tX1_comeMark pc) := fun pc => (tLeaf (okAldn iX1_comeMark_0 rfl <| okIc iX1_comeMark_1 <| okIldn iX1_comeMark_2 rfl <| okIldn iX1_comeMark_3 rfl <| okC4 (qW_X1_note iX1_comeMark_4) <| okAldn iX1_comeMark_7 rfl <| okIldn iX1_comeMark_8 rfl <| okIldn iX1_comeMark_9 rfl <| okC3 (qW_X1_playMark iX1_comeMark_10) <| okVret iX1_comeMark_13 rfl)) pc
-- X1_comeIdle: heads []
def tX1_comeIdle : Nat → Blk WS := fun pc => bif Nat.beq pc 0 then (oAld 0 <| oI 2 <| oIld 1 <| oI 0 <| oC4 (cW_X1_note) <| oAld 0 <| oIld 1 <| oC2 (cW_X1_playIdle) <| oVret) else oNo
theorem tX1_comeIdle_ok : ∀ pc, bOk (encW) (bdW) mX1_comeIdle 0 0 pc (tX1_comeIdle pc) := fun pc => (tLeaf (okAldn iX1_comeIdle_0 rfl <| okIc iX1_comeIdle_1 <| okIldn iX1_comeIdle_2 rfl <| okIc iX1_comeIdle_3 <| okC4 (qW_X1_note iX1_comeIdle_4) <| okAldn iX1_comeIdle_7 rfl <| okIldn iX1_comeIdle_8 rfl <| okC2 (qW_X1_playIdle iX1_comeIdle_9) <| okVret iX1_comeIdle_12 rfl)) pc
-- X1_reset: heads [61, 133]
def tX1_reset : Nat → Blk WS := fun pc => bif Nat.blt pc 95 then (bif Nat.blt pc 61 then (bif Nat.beq pc 0 then (oAld 0 <| oIld 2 <| oPut (fpW) 1 0 <| oAld 0 <| oIld 3 <| oPut (fpW) 1 1 <| oAld 0 <| oIld 4 <| oPut (fpW) 1 2 <| oAld 0 <| oI 0 <| oPut (fpW) 1 3 <| oAld 0 <| oI 0 <| oPut (fpW) 1 4 <| oAld 0 <| oI 0 <| oPut (fpW) 1 5 <| oAld 0 <| oI 0 <| oPut (fpW) 1 6 <| oAld 0 <| oI 0 <| oPut (fpW) 1 7 <| oAld 0 <| oI 0 <| oPut (fpW) 1 8 <| oAld 0 <| oI 0 <| oPut (fpW) 1 9 <| oAld 0 <| oGet (fgW) 1 10 <| oC1 (cW_X0_clear) <| oI 0 <| oIst 5 <| oM [true, true, false, false, false, true] (oTo 61)) else oNo) else (bif Nat.beq pc 61 then (oIld 5 <| oIld 1 <| oCGe 95 <| oAld 0 <| oGet (fgW) 1 10 <| oIld 5 <| oC2 (cW_X0_open) <| oPop <| oAld 0 <| oGet (fgW) 1 10 <| oIld 5 <| oI 1 <| oI 20 <| oC4 (cW_X0_set) <| oInc 5 1 <| oM [true, true, false, false, false, true] (oTo 61)) else oNo)) else (bif Nat.blt pc 133 then (bif Nat.beq pc 95 then (oAld 0 <| oGet (fgW) 1 11 <| oC1 (cW_X0_clear) <| oAld 0 <| oGet (fgW) 1 12 <| oC1 (cW_X0_clear) <| oAld 0 <| oGet (fgW) 1 13 <| oC1 (cW_X0_clear) <| oAld 0 <| oGet (fgW) 1 14 <| oC1 (cW_X0_clear) <| oAld 0 <| oGet (fgW) 1 15 <| oC1 (cW_X0_clear) <| oI 0 <| oIst 5 <| oM [true, false, false, false, false, true] (oTo 133)) else oNo) else (bif Nat.blt pc 168 then (bif Nat.beq pc 133 then (oIld 5 <| oI 6 <| oCGe 168 <| oAld 0 <| oGet (fgW) 1 15 <| oIld 5 <| oC2 (cW_X0_open) <| oPop <| oAld 0 <| oGet (fgW) 1 15 <| oIld 5 <| oI 7 <| oI (-1) <| oC4 (cW_X0_set) <| oInc 5 1 <| oM [true, false, false, false, false, true] (oTo 133)) else oNo) else (bif Nat.beq pc 168 then (oVret) else oNo)))
theorem tX1_reset_ok : ∀ pc, bOk (encW) (bdW) mX1_reset 0 0 pc (tX1_reset pc) := fun pc => (tNode (tNode (tLeaf (okAldn iX1_reset_0 rfl <| okIldn iX1_reset_1 rfl <| okPut (vFpW) iX1_reset_2 <| okAldn iX1_reset_5 rfl <| okIldn iX1_reset_6 rfl <| okPut (vFpW) iX1_reset_7 <| okAldn iX1_reset_10 rfl <| okIld iX1_reset_11 <| okPut (vFpW) iX1_reset_13 <| okAldn iX1_reset_16 rfl <| okIc iX1_reset_17 <| okPut (vFpW) iX1_reset_18 <| okAldn iX1_reset_21 rfl <| okIc iX1_reset_22 <| okPut (vFpW) iX1_reset_23 <| okAldn iX1_reset_26 rfl <| okIc iX1_reset_27 <| okPut (vFpW) iX1_reset_28 <| okAldn iX1_reset_31 rfl <| okIc iX1_reset_32 <| okPut (vFpW) iX1_reset_33 <| okAldn iX1_reset_36 rfl <| okIc iX1_reset_37 <| okPut (vFpW) iX1_reset_38 <| okAldn iX1_reset_41 rfl <| okIc iX1_reset_42 <| okPut (vFpW) iX1_reset_43 <| okAldn iX1_reset_46 rfl <| okIc iX1_reset_47 <| okPut (vFpW) iX1_reset_48 <| okAldn iX1_reset_51 rfl <| okGet (vFgW) iX1_reset_52 <| okC1 (qW_X0_clear iX1_reset_55) <| okIc iX1_reset_58 <| okIst iX1_reset_59 (by decide) <| okM (okTo (tl rfl)))) (tLeaf (okIld iX1_reset_61 <| okIldn iX1_reset_63 rfl <| okCGe (tl rfl) iX1_reset_64 <| okAldn iX1_reset_67 rfl <| okGet (vFgW) iX1_reset_68 <| okIld iX1_reset_71 <| okC2 (qW_X0_open iX1_reset_73) <| okPop iX1_reset_76 <| okAldn iX1_reset_77 rfl <| okGet (vFgW) iX1_reset_78 <| okIld iX1_reset_81 <| okIc iX1_reset_83 <| okBi iX1_reset_84 (by decide) <| okC4 (qW_X0_set iX1_reset_86) <| okInc iX1_reset_89 (by decide) <| okGotoM (tl rfl) iX1_reset_92))) (tNode (tLeaf (okAldn iX1_reset_95 rfl <| okGet (vFgW) iX1_reset_96 <| okC1 (qW_X0_clear iX1_reset_99) <| okAldn iX1_reset_102 rfl <| okGet (vFgW) iX1_reset_103 <| okC1 (qW_X0_clear iX1_reset_106) <| okAldn iX1_reset_109 rfl <| okGet (vFgW) iX1_reset_110 <| okC1 (qW_X0_clear iX1_reset_113) <| okAldn iX1_reset_116 rfl <| okGet (vFgW) iX1_reset_117 <| okC1 (qW_X0_clear iX1_reset_120) <| okAldn iX1_reset_123 rfl <| okGet (vFgW) iX1_reset_124 <| okC1 (qW_X0_clear iX1_reset_127) <| okIc iX1_reset_130 <| okIst iX1_reset_131 (by decide) <| okM (okTo (tl rfl)))) (tNode (tLeaf (okIld iX1_reset_133 <| okBi iX1_reset_135 (by decide) <| okCGe (tl rfl) iX1_reset_137 <| okAldn iX1_reset_140 rfl <| okGet (vFgW) iX1_reset_141 <| okIld iX1_reset_144 <| okC2 (qW_X0_open iX1_reset_146) <| okPop iX1_reset_149 <| okAldn iX1_reset_150 rfl <| okGet (vFgW) iX1_reset_151 <| okIld iX1_reset_154 <| okBi iX1_reset_156 (by decide) <| okIc iX1_reset_158 <| okC4 (qW_X0_set iX1_reset_159) <| okInc iX1_reset_162 (by decide) <| okGotoM (tl rfl) iX1_reset_165)) (tLeaf (okVret iX1_reset_168 rfl))))) pc
def wComeE (w : WS) (k t v r : Int) : WS :=
  let w1 := wNote w 0 r t
  let w2 := wPlayE w1 k t v r
  wP (wP (wP (wP w2 4 (wZ w 4) 3 k) 4 (wZ w 4) 4 v) 4 (wZ w 4) 5 (wFate w1 t)) 4 (wZ w 4) 6 (max 0 (wI (w.1 3 - t)))
theorem wok_ComeE {w : WS} {k t v r : Int} (h : wok w) : wok (wComeE w k t v r) :=
  wok_P (by decide) (wok_P (by decide) (wok_P (by decide) (wok_P (by decide) (wok_PlayE (wok_Note h)))))
def sX1_comeEvent : Int → Int → Int → Int → WS → KW → Prop := fun k t v r s K => (xB k ∧ xB t ∧ xB v ∧ xB r ∧ wok s) ∧ (0 ≤ wFate (wNote s 0 r t) t → wFate (wNote s 0 r t) t ≤ 2 → K [pI (wFate (wNote s 0 r t) t)] (wComeE s k t v r))
theorem mX1_comeEvent_ok : mOk encW bdW mX1_comeEvent (atR 0 (a4 sX1_comeEvent)) := by
  refine mOVa4 kX1_comeEvent (fun _ _ _ _ => rfl) (fun k t v r s K h hb => wx_J [] 9 tX1_comeEvent_ok rfl (fun J hR hJ => ?_))
  obtain ⟨⟨h1, h2, h3, h4, h5⟩, hK⟩ := h
  have hf := wFate_b (wNote s 0 r t) t
  have hK := hK hf.1 hf.2
  have hn : wok (wNote s 0 r t) := wok_Note h5
  have hz : xB (wZ s 4) := (hb.2 4).1
  intro _ _ hw
  have hmx := max_B (a := 0) ⟨by omega, by omega⟩ hw
  repeat' (first | (refine And.intro ?_ ?_) | intro _)
  all_goals first | omega | exact (hn _ (by assumption)).1 | exact (hn _ (by assumption)).2 | exact hR _ _ hK
def wComeM (w : WS) (r t : Int) : WS := wPlayM (wNote w 1 r t) r t
def sX1_comeMark : Int → Int → WS → KW → Prop := fun r t s K => (xB r ∧ xB t ∧ wok s) ∧ K [] (wComeM s r t)
theorem mX1_comeMark_ok : mOk encW bdW mX1_comeMark (atR 0 (a2 sX1_comeMark)) := by
  refine mOVa2 kX1_comeMark (fun _ _ => rfl) (fun r t s K h hb => wx_J [] 9 tX1_comeMark_ok rfl (fun J hR hJ => ?_))
  obtain ⟨⟨h1, h2, h3⟩, hK⟩ := h
  exact ⟨⟨⟨by omega, by omega⟩, h1, h2⟩, ⟨⟨h1, h2, wok_Note h3⟩, hR _ _ hK⟩⟩
def wComeI (w : WS) (r : Int) : WS := wPlayI (wNote w 2 r 0) r
def sX1_comeIdle : Int → WS → KW → Prop := fun r s K => (xB r ∧ wok s) ∧ K [] (wComeI s r)
theorem mX1_comeIdle_ok : mOk encW bdW mX1_comeIdle (atR 0 (a1 sX1_comeIdle)) := by
  refine mOVa1 kX1_comeIdle (fun _ => rfl) (fun r s K h hb => wx_J [] 9 tX1_comeIdle_ok rfl (fun J hR hJ => ?_))
  obtain ⟨⟨h1, h2⟩, hK⟩ := h
  exact ⟨⟨⟨by omega, by omega⟩, h1, ⟨by omega, by omega⟩⟩, ⟨⟨h1, wok_Note h2⟩, hR _ _ hK⟩⟩
theorem wok_ComeM {w : WS} {r t : Int} (h : wok w) : wok (wComeM w r t) := wok_PlayM (wok_Note h)
theorem wok_ComeI {w : WS} {r : Int} (h : wok w) : wok (wComeI w r) := wok_PlayI (wok_Note h)
end
-- 32.Wc
section
/-! ===== World: reset, copyFrom, playInput ===== -/
def wOpn (w : WS) (t : Nat) (i : Int) : WS := if 0 ≤ i ∧ i ≤ wZ w t ∧ wZ w t < rmT t then wOp w t i else w
def rsL : Nat → Int → WS → WS
  | 0, _, w => w
  | n + 1, i, w => rsL n (i + 1) (wP (wOpn w 0 i) 0 i 1 20)
def rkL : Nat → Int → WS → WS
  | 0, _, w => w
  | n + 1, i, w => rkL n (i + 1) (wP (wOpn w 5 i) 5 i 7 (-1))
def wCl (w : WS) (t : Nat) : WS := setT w t (0, (w.2 t).2)
def wRes2 (w : WS) : WS := rkL 6 0 (wCl (wCl (wCl (wCl (wCl w 1) 2) 3) 4) 5)
def wReset (w : WS) (n g l e : Int) : WS := wRes2 (rsL n.toNat 0 (wCl (wFd (wFd (wFd (wFd (wFd (wFd (wFd (wFd (wFd (wFd w 0 g) 1 l) 2 e) 3 0) 4 0) 5 0) 6 0) 7 0) 8 0) 9 0) 0))
theorem X1_reset_l2 {K : KW} {Pt : WS → Prop} : ∀ (m : Nat) (i : Int) (s : WS), 0 ≤ i → i ≤ 6 → m = (6 - i).toNat → K [] (rkL m i s) → wX encW bdW mX1_reset 0 0 K Pt 133 [some (pR 0), none, none, none, none, some (pI i)] [] s := by
  intro m
  induction m with
  | zero =>
    intro i s h0 h1 hm hK
    refine wx_J [61, 133] 9 tX1_reset_ok rfl (fun J hR hJ => ?_)
    repeat' (first | (refine And.intro ?_ ?_) | intro _)
    all_goals first | omega | exact hR _ _ hK
  | succ m ih =>
    intro i s h0 h1 hm hK
    refine wx_J [61, 133] 9 tX1_reset_ok rfl (fun J hR hJ => ?_)
    rw [rkL] at hK
    have g := ih (i + 1) _ (by omega) (by omega) (by omega) hK
    unfold wOpn at g
    refine ⟨⟨⟨by omega, by omega⟩, ⟨by omega, by omega⟩⟩, fun c => absurd c (by omega), fun c => ⟨⟨by omega, by omega⟩, fun c1 => ?_, fun c1 => ?_⟩⟩
    · rw [if_pos c1] at g
      repeat' (first | (refine And.intro ?_ ?_) | intro _)
      all_goals first | omega | exact hJ _ _ _ _ g
    · rw [if_neg c1] at g
      repeat' (first | (refine And.intro ?_ ?_) | intro _)
      all_goals first | omega | exact hJ _ _ _ _ g
theorem X1_reset_l1 {K : KW} {Pt : WS → Prop} (n : Int) (hn : xB n) : ∀ (m : Nat) (i : Int) (s : WS), 0 ≤ i → i ≤ max 0 n → m = (n - i).toNat → K [] (wRes2 (rsL m i s)) → wX encW bdW mX1_reset 0 0 K Pt 61 [some (pR 0), some (pI n), none, none, none, some (pI i)] [] s := by
  intro m
  induction m with
  | zero =>
    intro i s h0 h1 hm hK
    refine wx_J [61, 133] 9 tX1_reset_ok rfl (fun J hR hJ => ?_)
    have g := X1_reset_l2 (K := K) (Pt := Pt) 6 0 _ (by omega) (by omega) (by omega) hK
    repeat' (first | (refine And.intro ?_ ?_) | intro _)
    all_goals first | omega | exact hJ _ _ _ _ g
  | succ m ih =>
    intro i s h0 h1 hm hK
    refine wx_J [61, 133] 9 tX1_reset_ok rfl (fun J hR hJ => ?_)
    rw [rsL] at hK
    have g := ih (i + 1) _ (by omega) (by omega) (by omega) hK
    unfold wOpn at g
    refine ⟨⟨⟨by omega, by omega⟩, ⟨by omega, by omega⟩⟩, fun c => absurd c (by omega), fun c => ⟨⟨by omega, by omega⟩, fun c1 => ?_, fun c1 => ?_⟩⟩
    · rw [if_pos c1] at g
      repeat' (first | (refine And.intro ?_ ?_) | intro _)
      all_goals first | omega | exact hJ _ _ _ _ g
    · rw [if_neg c1] at g
      repeat' (first | (refine And.intro ?_ ?_) | intro _)
      all_goals first | omega | exact hJ _ _ _ _ g
def sX1_reset : Int → Int → Int → Int → WS → KW → Prop := fun n g l e s K => (xB n ∧ xB g ∧ xB l ∧ xB e) ∧ K [] (wReset s n g l e)
theorem mX1_reset_ok : mOk encW bdW mX1_reset (atR 0 (a4 sX1_reset)) := by
  refine mOVa4 kX1_reset (fun _ _ _ _ => rfl) (fun n g l e s K h hb => wx_J [61, 133] 9 tX1_reset_ok rfl (fun J hR hJ => ?_))
  obtain ⟨⟨h1, h2, h3, h4⟩, hK⟩ := h
  have q := X1_reset_l1 (K := K) (Pt := fun _ => False) n h1 n.toNat 0 _ (by omega) (by omega) (by omega) hK
  repeat' (first | (refine And.intro ?_ ?_) | intro _)
  all_goals first | omega | exact hJ _ _ _ _ q
theorem wok_Opn {w : WS} {t : Nat} {i : Int} (ht : t < 6) (h : wok w) : wok (wOpn w t i) := by
  unfold wOpn
  split
  · next c => exact wok_Op ht h c.2.2
  · exact h
theorem wok_rsL : ∀ (n : Nat) (i : Int) (w : WS), wok w → wok (rsL n i w)
  | 0, _, _, h => h
  | n + 1, i, _, h => wok_rsL n (i + 1) _ (wok_P (by decide) (wok_Opn (by decide) h))
theorem wok_rkL : ∀ (n : Nat) (i : Int) (w : WS), wok w → wok (rkL n i w)
  | 0, _, _, h => h
  | n + 1, i, _, h => wok_rkL n (i + 1) _ (wok_P (by decide) (wok_Opn (by decide) h))
theorem rmT0 {t : Nat} (ht : t < 6) : 0 ≤ rmT t := by
  have key : ∀ t, t < 6 → 0 ≤ rmT t := by decide
  exact key t ht
theorem wok_Cl {w : WS} {t : Nat} (ht : t < 6) (h : wok w) : wok (wCl w t) := wok_set h ⟨by show (0 : Int) ≤ 0; omega, rmT0 ht⟩
theorem wok_Reset {w : WS} {n g l e : Int} (h : wok w) : wok (wReset w n g l e) :=
  wok_rkL _ _ _ (wok_Cl (by decide) (wok_Cl (by decide) (wok_Cl (by decide) (wok_Cl (by decide) (wok_Cl (by decide) (wok_rsL _ _ _ (wok_Cl (by decide) h)))))))
/-! two Worlds -/
abbrev WWS : Type := WS × WS
abbrev KWW : Type := PS → WWS → Prop
def encWW (s : WWS) : XH := encW s.1 ++ encW s.2
def bdWW (s : WWS) : Prop := bdW s.1 ∧ bdW s.2
def pUp (k : Nat) : PV → PV := fun v => match v with
  | .inr (.inr (.inl r)) => .inr (.inr (.inl (k + r)))
  | .inl z => .inl z
  | .inr (.inl z) => .inr (.inl z)
  | .inr (.inr (.inr j)) => .inr (.inr (.inr j))
def oUp (k : Nat) : Option PV → Option PV := fun v => match v with
  | some v => some (pUp k v)
  | none => none
def fgWW : FG WWS := fun s r ci k => bif Nat.blt r 13 then fgW s.1 r ci k else oUp 13 (fgW s.2 (r - 13) ci k)
def fpWW : FP WWS := fun s r ci k z => bif Nat.blt r 13 then (match fpW s.1 r ci k z with
  | some w => some (w, s.2)
  | none => none) else none
theorem xl_n_app {α : Type} : ∀ (a b : List α) (k : Nat), xl_n (a ++ b) k = if k < a.length then xl_n a k else xl_n b (k - a.length) := by
  intro a b k
  rw [xl_n_eq, xl_n_eq, xl_n_eq, List.getElem?_append]
theorem lenW13 (s : WS) : (encW s).length = 13 := rfl
theorem pUp_o {r k : Nat} {w : Value} {v : PV} (h : xl_o r w = pV v) : xl_o (k + r) w = pV (pUp k v) := by
  rcases v with z | z | q | j <;> cases w <;> simp_all [xl_o, pV, pUp, Nat.add_assoc]
theorem vFgWW : vFg encWW bdWW fgWW := by
  intro s r ci k v hb h
  unfold fgWW at h
  cases e : Nat.blt r 13 with
  | true =>
    rw [e] at h
    have hr : r < 13 := Nat.le_of_ble_eq_true e
    obtain ⟨fs, w, e1, e2, e3, e4⟩ := vFgW s.1 r ci k v hb.1 h
    exact ⟨fs, w, by rw [encWW, xl_n_app, if_pos (by rw [lenW13]; exact hr)]; exact e1, e2, e3, e4⟩
  | false =>
    rw [e] at h
    have hr : ¬ r < 13 := fun q => by rw [show Nat.blt r 13 = true from Nat.ble_eq_true_of_le q] at e; cases e
    dsimp only [cond_false] at h
    cases e2 : fgW s.2 (r - 13) ci k with
    | none => rw [e2] at h; cases h
    | some v0 =>
      rw [e2] at h
      cases h
      obtain ⟨fs, w, e1, e2, e3, e4⟩ := vFgW s.2 (r - 13) ci k v0 hb.2 e2
      refine ⟨fs, w, by rw [encWW, xl_n_app, if_neg (by rw [lenW13]; exact hr)]; exact e1, e2, ?_, ?_⟩
      · have := pUp_o (k := 13) e3
        rw [show 13 + (r - 13) = r by omega] at this
        exact this
      · intro z hz
        rcases v0 with z0 | z0 | q | j
        · cases hz; exact e4 z rfl
        · cases hz
        · cases hz
        · cases hz
theorem xl_s_app {α : Type} : ∀ (a b : List α) (k : Nat) (x : α), k < a.length → xl_s (a ++ b) k x = xl_s a k x ++ b := by
  intro a b k x h
  rw [xl_s_eq, xl_s_eq, List.set_append_left _ _ h]
theorem vFpWW : vFp encWW bdWW fpWW := by
  intro s r ci k z s' hb hz h
  unfold fpWW at h
  obtain ⟨h1, h2⟩ := bN h
  have hr : r < 13 := Nat.le_of_ble_eq_true h1
  cases e : fpW s.1 r ci k z with
  | none => rw [e] at h2; cases h2
  | some w =>
    rw [e] at h2
    cases h2
    obtain ⟨fs, e1, e2, e3, e4⟩ := vFpW s.1 r ci k z w hb.1 hz e
    refine ⟨fs, by rw [encWW, xl_n_app, if_pos (by rw [lenW13]; exact hr)]; exact e1, e2, ?_, e4, hb.2⟩
    show encW w ++ encW s.2 = xl_s (encW s.1 ++ encW s.2) r _
    rw [xl_s_app _ _ _ _ (by rw [lenW13]; exact hr), e3]
theorem lenWW (s s' : WWS) : (encWW s').length = (encWW s).length := rfl
def piWW (q : Nat) : Nat → Nat := fun k => bif Nat.blt k 2 then q + k else q + 11 + k
theorem lkWW : ∀ (q t : Nat), tixW q = some t → vLk encWW bdWW (encTT (rmT t) (wdT t) (rmT t) (wdT t)) (bdTT (rmT t) (wdT t) (rmT t) (wdT t)) (piWW q) (fun s => (s.1.2 t, s.2.2 t)) (fun s b => (setT s.1 t b.1, setT s.2 t b.2)) ∧ ∀ s, ∃ fs, xl_n (encWW s) (piWW q 0) = some (.inr (0, fs)) := by
  intro q t ht
  have hm := rmT_b ht
  have hinj : ∀ i j, i < 4 → j < 4 → piWW q i = piWW q j → i = j := by
    intro i j hi hj e
    have key : ∀ k, k < 4 → piWW q k = q + (if k < 2 then k else 11 + k) := by
      intro k hk
      match k, hk with
      | 0, _ => rfl
      | 1, _ => rfl
      | 2, _ => rfl
      | 3, _ => rfl
    rw [key i hi, key j hj] at e
    split at e <;> split at e <;> omega
  have hok : ∀ (s : TTS) (j : Nat) (c : XE), (encTT (rmT t) (wdT t) (rmT t) (wdT t) s)[j]? = some c → xl_ok (piWW q) j c := by
    intro s j c h
    match j, h with
    | 0, h => cases h; exact fun aC ρ σ => rfl
    | 1, h => cases h; exact fun aC ρ σ => rfl
    | 2, h => cases h; exact fun aC ρ σ => rfl
    | 3, h => cases h; exact fun aC ρ σ => rfl
    | j + 4, h => cases h
  rcases tixW_inv ht with ⟨rfl, rfl⟩ | ⟨rfl, rfl⟩ | ⟨rfl, rfl⟩ | ⟨rfl, rfl⟩ | ⟨rfl, rfl⟩ | ⟨rfl, rfl⟩
  · refine ⟨⟨fun s hb => ⟨⟨⟨hm, hb.1.2 0⟩, ⟨hm, hb.2.2 0⟩⟩, ⟨hinj, fun j hj => ?_⟩, hok _⟩, fun s s' hb hb' => ⟨⟨bdW_set hb.1 hb'.1, bdW_set hb.2 hb'.2⟩, rfl, ⟨rfl, fun j hj => ?_, fun k hk => ?_⟩, hok _⟩⟩, fun s => ⟨_, rfl⟩⟩
    · match j, hj with
      | 0, _ => exact ⟨rfl, Nat.le_of_ble_eq_true rfl⟩
      | 1, _ => exact ⟨rfl, Nat.le_of_ble_eq_true rfl⟩
      | 2, _ => exact ⟨rfl, Nat.le_of_ble_eq_true rfl⟩
      | 3, _ => exact ⟨rfl, Nat.le_of_ble_eq_true rfl⟩
      | j + 4, hj => exact absurd (show j + 4 < 4 from hj) (by omega)
    · match j, hj with
      | 0, _ => rfl
      | 1, _ => rfl
      | 2, _ => rfl
      | 3, _ => rfl
      | j + 4, hj => exact absurd (show j + 4 < 4 from hj) (by omega)
    · match k, hk with
      | 0, _ => rfl
      | 1, hk => exact absurd rfl (hk 0 (Nat.le_of_ble_eq_true rfl))
      | 2, hk => exact absurd rfl (hk 1 (Nat.le_of_ble_eq_true rfl))
      | 3, _ => rfl
      | 4, _ => rfl
      | 5, _ => rfl
      | 6, _ => rfl
      | 7, _ => rfl
      | 8, _ => rfl
      | 9, _ => rfl
      | 10, _ => rfl
      | 11, _ => rfl
      | 12, _ => rfl
      | 13, _ => rfl
      | 14, hk => exact absurd rfl (hk 2 (Nat.le_of_ble_eq_true rfl))
      | 15, hk => exact absurd rfl (hk 3 (Nat.le_of_ble_eq_true rfl))
      | 16, _ => rfl
      | 17, _ => rfl
      | 18, _ => rfl
      | 19, _ => rfl
      | 20, _ => rfl
      | 21, _ => rfl
      | 22, _ => rfl
      | 23, _ => rfl
      | 24, _ => rfl
      | 25, _ => rfl
      | k + 26, _ => rfl
  · refine ⟨⟨fun s hb => ⟨⟨⟨hm, hb.1.2 1⟩, ⟨hm, hb.2.2 1⟩⟩, ⟨hinj, fun j hj => ?_⟩, hok _⟩, fun s s' hb hb' => ⟨⟨bdW_set hb.1 hb'.1, bdW_set hb.2 hb'.2⟩, rfl, ⟨rfl, fun j hj => ?_, fun k hk => ?_⟩, hok _⟩⟩, fun s => ⟨_, rfl⟩⟩
    · match j, hj with
      | 0, _ => exact ⟨rfl, Nat.le_of_ble_eq_true rfl⟩
      | 1, _ => exact ⟨rfl, Nat.le_of_ble_eq_true rfl⟩
      | 2, _ => exact ⟨rfl, Nat.le_of_ble_eq_true rfl⟩
      | 3, _ => exact ⟨rfl, Nat.le_of_ble_eq_true rfl⟩
      | j + 4, hj => exact absurd (show j + 4 < 4 from hj) (by omega)
    · match j, hj with
      | 0, _ => rfl
      | 1, _ => rfl
      | 2, _ => rfl
      | 3, _ => rfl
      | j + 4, hj => exact absurd (show j + 4 < 4 from hj) (by omega)
    · match k, hk with
      | 0, _ => rfl
      | 1, _ => rfl
      | 2, _ => rfl
      | 3, hk => exact absurd rfl (hk 0 (Nat.le_of_ble_eq_true rfl))
      | 4, hk => exact absurd rfl (hk 1 (Nat.le_of_ble_eq_true rfl))
      | 5, _ => rfl
      | 6, _ => rfl
      | 7, _ => rfl
      | 8, _ => rfl
      | 9, _ => rfl
      | 10, _ => rfl
      | 11, _ => rfl
      | 12, _ => rfl
      | 13, _ => rfl
      | 14, _ => rfl
      | 15, _ => rfl
      | 16, hk => exact absurd rfl (hk 2 (Nat.le_of_ble_eq_true rfl))
      | 17, hk => exact absurd rfl (hk 3 (Nat.le_of_ble_eq_true rfl))
      | 18, _ => rfl
      | 19, _ => rfl
      | 20, _ => rfl
      | 21, _ => rfl
      | 22, _ => rfl
      | 23, _ => rfl
      | 24, _ => rfl
      | 25, _ => rfl
      | k + 26, _ => rfl
  · refine ⟨⟨fun s hb => ⟨⟨⟨hm, hb.1.2 2⟩, ⟨hm, hb.2.2 2⟩⟩, ⟨hinj, fun j hj => ?_⟩, hok _⟩, fun s s' hb hb' => ⟨⟨bdW_set hb.1 hb'.1, bdW_set hb.2 hb'.2⟩, rfl, ⟨rfl, fun j hj => ?_, fun k hk => ?_⟩, hok _⟩⟩, fun s => ⟨_, rfl⟩⟩
    · match j, hj with
      | 0, _ => exact ⟨rfl, Nat.le_of_ble_eq_true rfl⟩
      | 1, _ => exact ⟨rfl, Nat.le_of_ble_eq_true rfl⟩
      | 2, _ => exact ⟨rfl, Nat.le_of_ble_eq_true rfl⟩
      | 3, _ => exact ⟨rfl, Nat.le_of_ble_eq_true rfl⟩
      | j + 4, hj => exact absurd (show j + 4 < 4 from hj) (by omega)
    · match j, hj with
      | 0, _ => rfl
      | 1, _ => rfl
      | 2, _ => rfl
      | 3, _ => rfl
      | j + 4, hj => exact absurd (show j + 4 < 4 from hj) (by omega)
    · match k, hk with
      | 0, _ => rfl
      | 1, _ => rfl
      | 2, _ => rfl
      | 3, _ => rfl
      | 4, _ => rfl
      | 5, hk => exact absurd rfl (hk 0 (Nat.le_of_ble_eq_true rfl))
      | 6, hk => exact absurd rfl (hk 1 (Nat.le_of_ble_eq_true rfl))
      | 7, _ => rfl
      | 8, _ => rfl
      | 9, _ => rfl
      | 10, _ => rfl
      | 11, _ => rfl
      | 12, _ => rfl
      | 13, _ => rfl
      | 14, _ => rfl
      | 15, _ => rfl
      | 16, _ => rfl
      | 17, _ => rfl
      | 18, hk => exact absurd rfl (hk 2 (Nat.le_of_ble_eq_true rfl))
      | 19, hk => exact absurd rfl (hk 3 (Nat.le_of_ble_eq_true rfl))
      | 20, _ => rfl
      | 21, _ => rfl
      | 22, _ => rfl
      | 23, _ => rfl
      | 24, _ => rfl
      | 25, _ => rfl
      | k + 26, _ => rfl
  · refine ⟨⟨fun s hb => ⟨⟨⟨hm, hb.1.2 3⟩, ⟨hm, hb.2.2 3⟩⟩, ⟨hinj, fun j hj => ?_⟩, hok _⟩, fun s s' hb hb' => ⟨⟨bdW_set hb.1 hb'.1, bdW_set hb.2 hb'.2⟩, rfl, ⟨rfl, fun j hj => ?_, fun k hk => ?_⟩, hok _⟩⟩, fun s => ⟨_, rfl⟩⟩
    · match j, hj with
      | 0, _ => exact ⟨rfl, Nat.le_of_ble_eq_true rfl⟩
      | 1, _ => exact ⟨rfl, Nat.le_of_ble_eq_true rfl⟩
      | 2, _ => exact ⟨rfl, Nat.le_of_ble_eq_true rfl⟩
      | 3, _ => exact ⟨rfl, Nat.le_of_ble_eq_true rfl⟩
      | j + 4, hj => exact absurd (show j + 4 < 4 from hj) (by omega)
    · match j, hj with
      | 0, _ => rfl
      | 1, _ => rfl
      | 2, _ => rfl
      | 3, _ => rfl
      | j + 4, hj => exact absurd (show j + 4 < 4 from hj) (by omega)
    · match k, hk with
      | 0, _ => rfl
      | 1, _ => rfl
      | 2, _ => rfl
      | 3, _ => rfl
      | 4, _ => rfl
      | 5, _ => rfl
      | 6, _ => rfl
      | 7, hk => exact absurd rfl (hk 0 (Nat.le_of_ble_eq_true rfl))
      | 8, hk => exact absurd rfl (hk 1 (Nat.le_of_ble_eq_true rfl))
      | 9, _ => rfl
      | 10, _ => rfl
      | 11, _ => rfl
      | 12, _ => rfl
      | 13, _ => rfl
      | 14, _ => rfl
      | 15, _ => rfl
      | 16, _ => rfl
      | 17, _ => rfl
      | 18, _ => rfl
      | 19, _ => rfl
      | 20, hk => exact absurd rfl (hk 2 (Nat.le_of_ble_eq_true rfl))
      | 21, hk => exact absurd rfl (hk 3 (Nat.le_of_ble_eq_true rfl))
      | 22, _ => rfl
      | 23, _ => rfl
      | 24, _ => rfl
      | 25, _ => rfl
      | k + 26, _ => rfl
  · refine ⟨⟨fun s hb => ⟨⟨⟨hm, hb.1.2 4⟩, ⟨hm, hb.2.2 4⟩⟩, ⟨hinj, fun j hj => ?_⟩, hok _⟩, fun s s' hb hb' => ⟨⟨bdW_set hb.1 hb'.1, bdW_set hb.2 hb'.2⟩, rfl, ⟨rfl, fun j hj => ?_, fun k hk => ?_⟩, hok _⟩⟩, fun s => ⟨_, rfl⟩⟩
    · match j, hj with
      | 0, _ => exact ⟨rfl, Nat.le_of_ble_eq_true rfl⟩
      | 1, _ => exact ⟨rfl, Nat.le_of_ble_eq_true rfl⟩
      | 2, _ => exact ⟨rfl, Nat.le_of_ble_eq_true rfl⟩
      | 3, _ => exact ⟨rfl, Nat.le_of_ble_eq_true rfl⟩
      | j + 4, hj => exact absurd (show j + 4 < 4 from hj) (by omega)
    · match j, hj with
      | 0, _ => rfl
      | 1, _ => rfl
      | 2, _ => rfl
      | 3, _ => rfl
      | j + 4, hj => exact absurd (show j + 4 < 4 from hj) (by omega)
    · match k, hk with
      | 0, _ => rfl
      | 1, _ => rfl
      | 2, _ => rfl
      | 3, _ => rfl
      | 4, _ => rfl
      | 5, _ => rfl
      | 6, _ => rfl
      | 7, _ => rfl
      | 8, _ => rfl
      | 9, hk => exact absurd rfl (hk 0 (Nat.le_of_ble_eq_true rfl))
      | 10, hk => exact absurd rfl (hk 1 (Nat.le_of_ble_eq_true rfl))
      | 11, _ => rfl
      | 12, _ => rfl
      | 13, _ => rfl
      | 14, _ => rfl
      | 15, _ => rfl
      | 16, _ => rfl
      | 17, _ => rfl
      | 18, _ => rfl
      | 19, _ => rfl
      | 20, _ => rfl
      | 21, _ => rfl
      | 22, hk => exact absurd rfl (hk 2 (Nat.le_of_ble_eq_true rfl))
      | 23, hk => exact absurd rfl (hk 3 (Nat.le_of_ble_eq_true rfl))
      | 24, _ => rfl
      | 25, _ => rfl
      | k + 26, _ => rfl
  · refine ⟨⟨fun s hb => ⟨⟨⟨hm, hb.1.2 5⟩, ⟨hm, hb.2.2 5⟩⟩, ⟨hinj, fun j hj => ?_⟩, hok _⟩, fun s s' hb hb' => ⟨⟨bdW_set hb.1 hb'.1, bdW_set hb.2 hb'.2⟩, rfl, ⟨rfl, fun j hj => ?_, fun k hk => ?_⟩, hok _⟩⟩, fun s => ⟨_, rfl⟩⟩
    · match j, hj with
      | 0, _ => exact ⟨rfl, Nat.le_of_ble_eq_true rfl⟩
      | 1, _ => exact ⟨rfl, Nat.le_of_ble_eq_true rfl⟩
      | 2, _ => exact ⟨rfl, Nat.le_of_ble_eq_true rfl⟩
      | 3, _ => exact ⟨rfl, Nat.le_of_ble_eq_true rfl⟩
      | j + 4, hj => exact absurd (show j + 4 < 4 from hj) (by omega)
    · match j, hj with
      | 0, _ => rfl
      | 1, _ => rfl
      | 2, _ => rfl
      | 3, _ => rfl
      | j + 4, hj => exact absurd (show j + 4 < 4 from hj) (by omega)
    · match k, hk with
      | 0, _ => rfl
      | 1, _ => rfl
      | 2, _ => rfl
      | 3, _ => rfl
      | 4, _ => rfl
      | 5, _ => rfl
      | 6, _ => rfl
      | 7, _ => rfl
      | 8, _ => rfl
      | 9, _ => rfl
      | 10, _ => rfl
      | 11, hk => exact absurd rfl (hk 0 (Nat.le_of_ble_eq_true rfl))
      | 12, hk => exact absurd rfl (hk 1 (Nat.le_of_ble_eq_true rfl))
      | 13, _ => rfl
      | 14, _ => rfl
      | 15, _ => rfl
      | 16, _ => rfl
      | 17, _ => rfl
      | 18, _ => rfl
      | 19, _ => rfl
      | 20, _ => rfl
      | 21, _ => rfl
      | 22, _ => rfl
      | 23, _ => rfl
      | 24, hk => exact absurd rfl (hk 2 (Nat.le_of_ble_eq_true rfl))
      | 25, hk => exact absurd rfl (hk 3 (Nat.le_of_ble_eq_true rfl))
      | k + 26, _ => rfl
def wTC (a b : WS) (t : Nat) : WS := setT a t ((b.2 t).1, xcp (b.2 t).2 (a.2 t).2 0 0 ((b.2 t).1 * wdT t).toNat)
def cWW_X0_copyFrom : Sp WWS := fun as s K => match as with
  | [.inr (.inr (.inl q)), .inr (.inr (.inl q2))] => match tixW q with
    | some t => bif Nat.beq q2 (q + 13) then ((0 ≤ wZ s.2 t ∧ wZ s.2 t ≤ rmT t) ∧ K [] (wTC s.1 s.2 t, s.2)) else False
    | none => False
  | _ => False
theorem qWW_X0_copyFrom {M : XI} {rc rs pc pc2 : Nat} (d : xl_Ca M pc mX0_copyFrom pc2) : cOk encWW bdWW M rc rs pc pc2 2 cWW_X0_copyFrom := by
  intro as L st s K Q hl hw hb hs hk
  unfold cWW_X0_copyFrom at hs
  split at hs
  · next q q2 =>
    split at hs
    · next t ht =>
      obtain ⟨e, h1⟩ := condT hs
      have e := nB e
      subst e
      exact (cVirt (sp := fun as s K => as = [pR q, pR (q + 13)] ∧ (0 ≤ wZ s.2 t ∧ wZ s.2 t ≤ rmT t) ∧ K [] (wTC s.1 s.2 t, s.2)) (mX0_copyFrom_ok (rmT t) (wdT t)) vX0_copyFrom d tcl rfl (fun as2 s2 K2 hb2 h2 => by
        obtain ⟨e, h3, h4⟩ := h2
        refine ⟨_, _, _, [pR 2], (lkWW q t ht).1, (lkWW q t ht).2 s2, by rw [e]; rfl, ⟨h3, ?_⟩⟩
        show K2 [] (setT s2.1 t ((s2.2.2 t).1, xcp (s2.2.2 t).2 (s2.1.2 t).2 0 0 ((s2.2.2 t).1 * wdT t).toNat), setT s2.2 t (s2.2.2 t))
        rw [setT_self]
        exact h4)) _ L st s K Q hl hw hb ⟨rfl, h1⟩ hk
    · exact hs.elim
  · exact hs.elim
-- X1_copyFrom: heads []
def tX1_copyFrom : Nat → Blk WWS := fun pc => bif Nat.blt pc 5 then (bif Nat.beq pc 0 then (oAld 1 <| oNN 5) else oNo) else (bif Nat.beq pc 5 then (oAld 0 <| oAld 1 <| oGet (fgWW) 1 0 <| oPut (fpWW) 1 0 <| oAld 0 <| oAld 1 <| oGet (fgWW) 1 1 <| oPut (fpWW) 1 1 <| oAld 0 <| oAld 1 <| oGet (fgWW) 1 2 <| oPut (fpWW) 1 2 <| oAld 0 <| oAld 1 <| oGet (fgWW) 1 3 <| oPut (fpWW) 1 3 <| oAld 0 <| oAld 1 <| oGet (fgWW) 1 4 <| oPut (fpWW) 1 4 <| oAld 0 <| oAld 1 <| oGet (fgWW) 1 5 <| oPut (fpWW) 1 5 <| oAld 0 <| oAld 1 <| oGet (fgWW) 1 6 <| oPut (fpWW) 1 6 <| oAld 0 <| oAld 1 <| oGet (fgWW) 1 7 <| oPut (fpWW) 1 7 <| oAld 0 <| oAld 1 <| oGet (fgWW) 1 8 <| oPut (fpWW) 1 8 <| oAld 0 <| oAld 1 <| oGet (fgWW) 1 9 <| oPut (fpWW) 1 9 <| oAld 0 <| oGet (fgWW) 1 10 <| oAld 1 <| oGet (fgWW) 1 10 <| oC2 (cWW_X0_copyFrom) <| oAld 0 <| oGet (fgWW) 1 11 <| oAld 1 <| oGet (fgWW) 1 11 <| oC2 (cWW_X0_copyFrom) <| oAld 0 <| oGet (fgWW) 1 12 <| oAld 1 <| oGet (fgWW) 1 12 <| oC2 (cWW_X0_copyFrom) <| oAld 0 <| oGet (fgWW) 1 13 <| oAld 1 <| oGet (fgWW) 1 13 <| oC2 (cWW_X0_copyFrom) <| oAld 0 <| oGet (fgWW) 1 14 <| oAld 1 <| oGet (fgWW) 1 14 <| oC2 (cWW_X0_copyFrom) <| oAld 0 <| oGet (fgWW) 1 15 <| oAld 1 <| oGet (fgWW) 1 15 <| oC2 (cWW_X0_copyFrom) <| oVret) else oNo)
theorem tX1_copyFrom_ok : ∀ pc, bOk (encWW) (bdWW) mX1_copyFrom 0 0 pc (tX1_copyFrom pc) := fun pc => (tNode (tLeaf (okAldn iX1_copyFrom_0 rfl <| okNN (tl rfl) iX1_copyFrom_1)) (tLeaf (okAldn iX1_copyFrom_5 rfl <| okAldn iX1_copyFrom_6 rfl <| okGet (vFgWW) iX1_copyFrom_7 <| okPut (vFpWW) iX1_copyFrom_10 <| okAldn iX1_copyFrom_13 rfl <| okAldn iX1_copyFrom_14 rfl <| okGet (vFgWW) iX1_copyFrom_15 <| okPut (vFpWW) iX1_copyFrom_18 <| okAldn iX1_copyFrom_21 rfl <| okAldn iX1_copyFrom_22 rfl <| okGet (vFgWW) iX1_copyFrom_23 <| okPut (vFpWW) iX1_copyFrom_26 <| okAldn iX1_copyFrom_29 rfl <| okAldn iX1_copyFrom_30 rfl <| okGet (vFgWW) iX1_copyFrom_31 <| okPut (vFpWW) iX1_copyFrom_34 <| okAldn iX1_copyFrom_37 rfl <| okAldn iX1_copyFrom_38 rfl <| okGet (vFgWW) iX1_copyFrom_39 <| okPut (vFpWW) iX1_copyFrom_42 <| okAldn iX1_copyFrom_45 rfl <| okAldn iX1_copyFrom_46 rfl <| okGet (vFgWW) iX1_copyFrom_47 <| okPut (vFpWW) iX1_copyFrom_50 <| okAldn iX1_copyFrom_53 rfl <| okAldn iX1_copyFrom_54 rfl <| okGet (vFgWW) iX1_copyFrom_55 <| okPut (vFpWW) iX1_copyFrom_58 <| okAldn iX1_copyFrom_61 rfl <| okAldn iX1_copyFrom_62 rfl <| okGet (vFgWW) iX1_copyFrom_63 <| okPut (vFpWW) iX1_copyFrom_66 <| okAldn iX1_copyFrom_69 rfl <| okAldn iX1_copyFrom_70 rfl <| okGet (vFgWW) iX1_copyFrom_71 <| okPut (vFpWW) iX1_copyFrom_74 <| okAldn iX1_copyFrom_77 rfl <| okAldn iX1_copyFrom_78 rfl <| okGet (vFgWW) iX1_copyFrom_79 <| okPut (vFpWW) iX1_copyFrom_82 <| okAldn iX1_copyFrom_85 rfl <| okGet (vFgWW) iX1_copyFrom_86 <| okAldn iX1_copyFrom_89 rfl <| okGet (vFgWW) iX1_copyFrom_90 <| okC2 (qWW_X0_copyFrom iX1_copyFrom_93) <| okAldn iX1_copyFrom_96 rfl <| okGet (vFgWW) iX1_copyFrom_97 <| okAldn iX1_copyFrom_100 rfl <| okGet (vFgWW) iX1_copyFrom_101 <| okC2 (qWW_X0_copyFrom iX1_copyFrom_104) <| okAldn iX1_copyFrom_107 rfl <| okGet (vFgWW) iX1_copyFrom_108 <| okAldn iX1_copyFrom_111 rfl <| okGet (vFgWW) iX1_copyFrom_112 <| okC2 (qWW_X0_copyFrom iX1_copyFrom_115) <| okAldn iX1_copyFrom_118 rfl <| okGet (vFgWW) iX1_copyFrom_119 <| okAldn iX1_copyFrom_122 rfl <| okGet (vFgWW) iX1_copyFrom_123 <| okC2 (qWW_X0_copyFrom iX1_copyFrom_126) <| okAldn iX1_copyFrom_129 rfl <| okGet (vFgWW) iX1_copyFrom_130 <| okAldn iX1_copyFrom_133 rfl <| okGet (vFgWW) iX1_copyFrom_134 <| okC2 (qWW_X0_copyFrom iX1_copyFrom_137) <| okAldn iX1_copyFrom_140 rfl <| okGet (vFgWW) iX1_copyFrom_141 <| okAldn iX1_copyFrom_144 rfl <| okGet (vFgWW) iX1_copyFrom_145 <| okC2 (qWW_X0_copyFrom iX1_copyFrom_148) <| okVret iX1_copyFrom_151 rfl))) pc
def wCopy (a b : WS) : WS := wTC (wTC (wTC (wTC (wTC (wTC (wFd (wFd (wFd (wFd (wFd (wFd (wFd (wFd (wFd (wFd a 0 (b.1 0)) 1 (b.1 1)) 2 (b.1 2)) 3 (b.1 3)) 4 (b.1 4)) 5 (b.1 5)) 6 (b.1 6)) 7 (b.1 7)) 8 (b.1 8)) 9 (b.1 9)) b 0) b 1) b 2) b 3) b 4) b 5
def sX1_copyFrom : List PV → WWS → KWW → Prop := fun as s K => match as with
  | [.inr (.inr (.inl 13))] => wok s.2 ∧ K [] (wCopy s.1 s.2, s.2)
  | _ => False
theorem mX1_copyFrom_ok : mOk encWW bdWW mX1_copyFrom (atR 0 sX1_copyFrom) := by
  refine mOk_of kX1_copyFrom (fun as s K h => ?_)
  obtain ⟨as, rfl, h1⟩ := atR_inv h
  unfold sX1_copyFrom at h1
  split at h1
  · refine ⟨rfl, fun hb => wx_J [] 9 tX1_copyFrom_ok rfl (fun J hR hJ => ?_)⟩
    obtain ⟨h2, hK⟩ := h1
    have k0 := h2 0 (by decide)
    have k1 := h2 1 (by decide)
    have k2 := h2 2 (by decide)
    have k3 := h2 3 (by decide)
    have k4 := h2 4 (by decide)
    have k5 := h2 5 (by decide)
    repeat' (first | exact k0 | exact k1 | exact k2 | exact k3 | exact k4 | exact k5 | (refine And.intro ?_ ?_) | intro _)
    all_goals first | omega | exact hR _ _ hK
  · exact h1.elim
theorem wok_TC {a b : WS} {t : Nat} (ht : t < 6) (h : wok a) (hb : wok b) : wok (wTC a b t) := wok_set h (hb t ht)
theorem wok_Copy {a b : WS} (h : wok a) (hb : wok b) : wok (wCopy a b) := by
  unfold wCopy
  exact wok_TC (by decide) (wok_TC (by decide) (wok_TC (by decide) (wok_TC (by decide) (wok_TC (by decide) (wok_TC (by decide) h hb) hb) hb) hb) hb) hb
end
-- 33.Wi
section
/-! ===== World: an input is played; a World and a table of inputs ===== -/
abbrev WTS : Type := WS × TS
abbrev KWT : Type := PS → WTS → Prop
def encWT (s : WTS) : XH := encW s.1 ++ encT 160 7 s.2
def bdWT (s : WTS) : Prop := bdW s.1 ∧ bdT 160 7 s.2
theorem lkWT_t : vLk encWT bdWT (encT 160 7) (bdT 160 7) (fun k => 13 + k) (fun s => s.2) (fun s b => (s.1, b)) :=
  vLk_run (n := 2) (fun _ => rfl) (by decide) (fun s => rfl) (fun s t => rfl) (fun s hb => hb.2) (fun s t hb ht => ⟨hb.1, ht⟩) (fun s => Nat.le_of_ble_eq_true rfl)
theorem lkWT_w : vLk encWT bdWT encW bdW (fun k => 0 + k) (fun s => s.1) (fun s b => (b, s.2)) :=
  vLk_run (n := 13) (fun _ => rfl) (by decide) (fun s => rfl) (fun s t => rfl) (fun s hb => hb.1) (fun s t hb ht => ⟨ht, hb.2⟩) (fun s => Nat.le_of_ble_eq_true rfl)
section WTC
variable {M : XI} {rc rs pc pc2 : Nat}
def cWT_X0_get : Sp WTS := atR 13 (a2 (fun i c s K => (xB i ∧ xB c) ∧ (xB (tg 160 7 s.2.2 i c) → K [pI (tg 160 7 s.2.2 i c)] s)))
theorem qWT_X0_get (d : xl_Ca M pc mX0_get pc2) : cOk encWT bdWT M rc rs pc pc2 3 cWT_X0_get := by
  refine cVirt (mX0_get_ok 160 7) vX0_get d tcl rfl (fun as s K hb h => ?_)
  obtain ⟨as, rfl, h1⟩ := atR_inv h
  obtain ⟨i, c, rfl, h2, h3⟩ := a2_inv h1
  exact ⟨_, _, _, [pI i, pI c], lkWT_t, ⟨_, rfl⟩, rfl, h2, h3 (tg_B hb.2.2.2)⟩
def cWT_X1_playEvent : Sp WTS := atR 0 (a4 (fun k t v r s K => sX1_playEvent k t v r s.1 (fun a w => K a (w, s.2))))
theorem qWT_X1_playEvent (d : xl_Ca M pc mX1_playEvent pc2) : cOk encWT bdWT M rc rs pc pc2 5 cWT_X1_playEvent := by
  refine cVirt mX1_playEvent_ok vX1_playEvent d wcl rfl (fun as s K hb h => ?_)
  obtain ⟨as, rfl, h1⟩ := atR_inv h
  obtain ⟨x, y, z, u, rfl, h2⟩ := a4_inv h1
  exact ⟨_, _, _, [pI x, pI y, pI z, pI u], lkWT_w, ⟨_, rfl⟩, rfl, h2⟩
def cWT_X1_playMark : Sp WTS := atR 0 (a2 (fun r t s K => sX1_playMark r t s.1 (fun a w => K a (w, s.2))))
theorem qWT_X1_playMark (d : xl_Ca M pc mX1_playMark pc2) : cOk encWT bdWT M rc rs pc pc2 3 cWT_X1_playMark := by
  refine cVirt mX1_playMark_ok vX1_playMark d wcl rfl (fun as s K hb h => ?_)
  obtain ⟨as, rfl, h1⟩ := atR_inv h
  obtain ⟨x, y, rfl, h2⟩ := a2_inv h1
  exact ⟨_, _, _, [pI x, pI y], lkWT_w, ⟨_, rfl⟩, rfl, h2⟩
def cWT_X1_playIdle : Sp WTS := atR 0 (a1 (fun r s K => sX1_playIdle r s.1 (fun a w => K a (w, s.2))))
theorem qWT_X1_playIdle (d : xl_Ca M pc mX1_playIdle pc2) : cOk encWT bdWT M rc rs pc pc2 2 cWT_X1_playIdle := by
  refine cVirt mX1_playIdle_ok vX1_playIdle d wcl rfl (fun as s K hb h => ?_)
  obtain ⟨as, rfl, h1⟩ := atR_inv h
  obtain ⟨x, rfl, h2⟩ := a1_inv h1
  exact ⟨_, _, _, [pI x], lkWT_w, ⟨_, rfl⟩, rfl, h2⟩
end WTC
-- X1_playInput: heads []
def tX1_playInput : Nat → Blk WTS := fun pc => bif Nat.blt pc 71 then (bif Nat.blt pc 48 then (bif Nat.beq pc 0 then (oAld 1 <| oIld 2 <| oI 1 <| oC3 (cWT_X0_get) <| oIst 3 <| oAld 1 <| oIld 2 <| oI 2 <| oC3 (cWT_X0_get) <| oIst 4 <| oAld 1 <| oIld 2 <| oI 0 <| oC3 (cWT_X0_get) <| oLook [(0, 48), (1, 71)] 81) else oNo) else (bif Nat.beq pc 48 then (oAld 0 <| oAld 1 <| oIld 2 <| oI 3 <| oC3 (cWT_X0_get) <| oIld 4 <| oAld 1 <| oIld 2 <| oI 4 <| oC3 (cWT_X0_get) <| oIld 3 <| oC5 (cWT_X1_playEvent) <| oPop <| oTo 86) else oNo)) else (bif Nat.blt pc 81 then (bif Nat.beq pc 71 then (oAld 0 <| oIld 3 <| oIld 4 <| oC3 (cWT_X1_playMark) <| oTo 86) else oNo) else (bif Nat.blt pc 86 then (bif Nat.beq pc 81 then (oAld 0 <| oIld 3 <| oC2 (cWT_X1_playIdle) <| oTo 86) else oNo) else (bif Nat.beq pc 86 then (oVret) else oNo)))
theorem tX1_playInput_ok : ∀ pc, bOk (encWT) (bdWT) mX1_playInput 0 0 pc (tX1_playInput pc) := fun pc => (tNode (tNode (tLeaf (okAldn iX1_playInput_0 rfl <| okIldn iX1_playInput_1 rfl <| okIc iX1_playInput_2 <| okC3 (qWT_X0_get iX1_playInput_3) <| okIstn iX1_playInput_6 rfl (by decide) <| okAldn iX1_playInput_7 rfl <| okIldn iX1_playInput_8 rfl <| okIc iX1_playInput_9 <| okC3 (qWT_X0_get iX1_playInput_10) <| okIst iX1_playInput_13 (by decide) <| okAldn iX1_playInput_15 rfl <| okIldn iX1_playInput_16 rfl <| okIc iX1_playInput_17 <| okC3 (qWT_X0_get iX1_playInput_18) <| okLook (by decide +kernel) (by decide +kernel) (by decide +kernel) iX1_playInput_21.1)) (tLeaf (okAldn iX1_playInput_48 rfl <| okAldn iX1_playInput_49 rfl <| okIldn iX1_playInput_50 rfl <| okIc iX1_playInput_51 <| okC3 (qWT_X0_get iX1_playInput_52) <| okIld iX1_playInput_55 <| okAldn iX1_playInput_57 rfl <| okIldn iX1_playInput_58 rfl <| okIc iX1_playInput_59 <| okC3 (qWT_X0_get iX1_playInput_60) <| okIldn iX1_playInput_63 rfl <| okC5 (qWT_X1_playEvent iX1_playInput_64) <| okPop iX1_playInput_67 <| okGoto (tl rfl) iX1_playInput_68))) (tNode (tLeaf (okAldn iX1_playInput_71 rfl <| okIldn iX1_playInput_72 rfl <| okIld iX1_playInput_73 <| okC3 (qWT_X1_playMark iX1_playInput_75) <| okGoto (tl rfl) iX1_playInput_78)) (tNode (tLeaf (okAldn iX1_playInput_81 rfl <| okIldn iX1_playInput_82 rfl <| okC2 (qWT_X1_playIdle iX1_playInput_83) <| okTo (tl rfl))) (tLeaf (okVret iX1_playInput_86 rfl))))) pc
def wPlayN (w : WS) (g : Nat → Int) (i : Int) : WS := if tg 160 7 g i 0 = 0 then wPlayE w (tg 160 7 g i 3) (tg 160 7 g i 2) (tg 160 7 g i 4) (tg 160 7 g i 1) else if tg 160 7 g i 0 = 1 then wPlayM w (tg 160 7 g i 1) (tg 160 7 g i 2) else wPlayI w (tg 160 7 g i 1)
theorem wok_PlayN {w : WS} {g : Nat → Int} {i : Int} (h : wok w) : wok (wPlayN w g i) := by
  unfold wPlayN
  split
  · exact wok_PlayE h
  · split
    · exact wok_PlayM h
    · exact wok_PlayI h
def sX1_playInput : List PV → WTS → KWT → Prop := fun as s K => match as with
  | [.inr (.inr (.inl 13)), .inl i] => (xB i ∧ wok s.1) ∧ K [] (wPlayN s.1 s.2.2 i, s.2)
  | _ => False
theorem mX1_playInput_ok : mOk encWT bdWT mX1_playInput (atR 0 sX1_playInput) := by
  refine mOk_of kX1_playInput (fun as s K h => ?_)
  obtain ⟨as, rfl, h1⟩ := atR_inv h
  unfold sX1_playInput at h1
  split at h1
  · next i =>
    refine ⟨rfl, fun hb => wx_J [] 9 tX1_playInput_ok rfl (fun J hR hJ => ?_)⟩
    obtain ⟨⟨h2, h3⟩, hK⟩ := h1
    unfold wPlayN at hK
    refine ⟨⟨h2, ⟨by omega, by omega⟩⟩, fun b1 => ⟨⟨h2, ⟨by omega, by omega⟩⟩, fun b2 => ⟨⟨h2, ⟨by omega, by omega⟩⟩, fun b0 => ⟨b0, fun c0 => ?_, fun c0 => ⟨fun c1 => ?_, fun c1 => ?_⟩⟩⟩⟩⟩
    · rw [if_pos c0] at hK
      refine ⟨⟨h2, ⟨by omega, by omega⟩⟩, fun b3 => ⟨⟨h2, ⟨by omega, by omega⟩⟩, fun b4 => ⟨⟨b3, b2, b4, b1, h3⟩, fun _ _ => hR _ _ hK⟩⟩⟩
    · rw [if_neg c0, if_pos c1] at hK
      exact ⟨⟨b1, b2, h3⟩, hR _ _ hK⟩
    · rw [if_neg c0, if_neg c1] at hK
      exact ⟨⟨b1, h3⟩, hR _ _ hK⟩
  · exact h1.elim
end
