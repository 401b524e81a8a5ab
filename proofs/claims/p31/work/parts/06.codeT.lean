theorem iX0_init_0 : xl_D mX0_init 0 (.aload_n 0) 1 1 := ⟨by decide +kernel, rfl⟩
theorem iX0_init_1 : xl_D mX0_init 1 (.invokespecial 1) 3 4 := ⟨by decide +kernel, rfl⟩
theorem iX0_init_4 : xl_D mX0_init 4 (.aload_n 0) 1 5 := ⟨by decide +kernel, rfl⟩
theorem iX0_init_5 : xl_D mX0_init 5 (.iconst 0) 1 6 := ⟨by decide +kernel, rfl⟩
theorem iX0_init_6 : xl_D mX0_init 6 (.iload_n 1) 1 7 := ⟨by decide +kernel, rfl⟩
theorem iX0_init_7 : xl_Cm mX0_init 7 Lib.Math.max.name Lib.Math.max.code 10 := ⟨7, by decide +kernel, rfl, lX0_7, xl_stmax, xl_iMath, xl_comax, Nat.le_of_ble_eq_true rfl, Nat.le_of_ble_eq_true rfl⟩
theorem iX0_init_13 : xl_D mX0_init 13 (.aload_n 0) 1 14 := ⟨by decide +kernel, rfl⟩
theorem iX0_init_14 : xl_D mX0_init 14 (.iconst 0) 1 15 := ⟨by decide +kernel, rfl⟩
theorem iX0_init_15 : xl_D mX0_init 15 (.iload_n 2) 1 16 := ⟨by decide +kernel, rfl⟩
theorem iX0_init_16 : xl_Cm mX0_init 16 Lib.Math.max.name Lib.Math.max.code 19 := ⟨7, by decide +kernel, rfl, lX0_7, xl_stmax, xl_iMath, xl_comax, Nat.le_of_ble_eq_true rfl, Nat.le_of_ble_eq_true rfl⟩
theorem iX0_init_22 : xl_D mX0_init 22 (.aload_n 0) 1 23 := ⟨by decide +kernel, rfl⟩
theorem iX0_init_23 : xl_D mX0_init 23 (.aload_n 0) 1 24 := ⟨by decide +kernel, rfl⟩
theorem iX0_init_24 : xl_G mX0_init 24 0 0 27 := ⟨13, by decide +kernel, rfl, fX0_13⟩
theorem iX0_init_27 : xl_D mX0_init 27 (.aload_n 0) 1 28 := ⟨by decide +kernel, rfl⟩
theorem iX0_init_28 : xl_G mX0_init 28 0 1 31 := ⟨19, by decide +kernel, rfl, fX0_19⟩
theorem iX0_init_31 : xl_D mX0_init 31 (.imul) 1 32 := ⟨by decide +kernel, rfl⟩
theorem iX0_init_32 : xl_D mX0_init 32 (.newarray .int) 2 34 := ⟨by decide +kernel, rfl⟩
theorem iX0_init_37 : xl_D mX0_init 37 (.return_) 1 38 := ⟨by decide +kernel, rfl⟩
theorem iX0_get_0 : xl_D mX0_get 0 (.iload_n 1) 1 1 := ⟨by decide +kernel, rfl⟩
theorem iX0_get_1 : xl_J mX0_get 1 (fun o => .ifCond .lt o) 4 24 := ⟨23, by decide +kernel, rfl, rfl⟩
theorem iX0_get_4 : xl_D mX0_get 4 (.iload_n 1) 1 5 := ⟨by decide +kernel, rfl⟩
theorem iX0_get_5 : xl_D mX0_get 5 (.aload_n 0) 1 6 := ⟨by decide +kernel, rfl⟩
theorem iX0_get_6 : xl_G mX0_get 6 0 0 9 := ⟨13, by decide +kernel, rfl, fX0_13⟩
theorem iX0_get_9 : xl_J mX0_get 9 (fun o => .if_icmp .ge o) 12 24 := ⟨15, by decide +kernel, rfl, rfl⟩
theorem iX0_get_12 : xl_D mX0_get 12 (.iload_n 2) 1 13 := ⟨by decide +kernel, rfl⟩
theorem iX0_get_13 : xl_J mX0_get 13 (fun o => .ifCond .lt o) 16 24 := ⟨11, by decide +kernel, rfl, rfl⟩
theorem iX0_get_16 : xl_D mX0_get 16 (.iload_n 2) 1 17 := ⟨by decide +kernel, rfl⟩
theorem iX0_get_17 : xl_D mX0_get 17 (.aload_n 0) 1 18 := ⟨by decide +kernel, rfl⟩
theorem iX0_get_18 : xl_G mX0_get 18 0 1 21 := ⟨19, by decide +kernel, rfl, fX0_19⟩
theorem iX0_get_21 : xl_J mX0_get 21 (fun o => .if_icmp .lt o) 24 26 := ⟨5, by decide +kernel, rfl, rfl⟩
theorem iX0_get_24 : xl_D mX0_get 24 (.iconst 0) 1 25 := ⟨by decide +kernel, rfl⟩
theorem iX0_get_25 : xl_D mX0_get 25 (.ireturn) 1 26 := ⟨by decide +kernel, rfl⟩
theorem iX0_get_26 : xl_D mX0_get 26 (.aload_n 0) 1 27 := ⟨by decide +kernel, rfl⟩
theorem iX0_get_27 : xl_G mX0_get 27 0 2 30 := ⟨22, by decide +kernel, rfl, fX0_22⟩
theorem iX0_get_30 : xl_D mX0_get 30 (.iload_n 1) 1 31 := ⟨by decide +kernel, rfl⟩
theorem iX0_get_31 : xl_D mX0_get 31 (.aload_n 0) 1 32 := ⟨by decide +kernel, rfl⟩
theorem iX0_get_32 : xl_G mX0_get 32 0 1 35 := ⟨19, by decide +kernel, rfl, fX0_19⟩
theorem iX0_get_35 : xl_D mX0_get 35 (.imul) 1 36 := ⟨by decide +kernel, rfl⟩
theorem iX0_get_36 : xl_D mX0_get 36 (.iload_n 2) 1 37 := ⟨by decide +kernel, rfl⟩
theorem iX0_get_37 : xl_D mX0_get 37 (.iadd) 1 38 := ⟨by decide +kernel, rfl⟩
theorem iX0_get_38 : xl_D mX0_get 38 (.iaload) 1 39 := ⟨by decide +kernel, rfl⟩
theorem iX0_get_39 : xl_D mX0_get 39 (.ireturn) 1 40 := ⟨by decide +kernel, rfl⟩
theorem iX0_set_0 : xl_D mX0_set 0 (.iload_n 1) 1 1 := ⟨by decide +kernel, rfl⟩
theorem iX0_set_1 : xl_J mX0_set 1 (fun o => .ifCond .lt o) 4 38 := ⟨37, by decide +kernel, rfl, rfl⟩
theorem iX0_set_4 : xl_D mX0_set 4 (.iload_n 1) 1 5 := ⟨by decide +kernel, rfl⟩
theorem iX0_set_5 : xl_D mX0_set 5 (.aload_n 0) 1 6 := ⟨by decide +kernel, rfl⟩
theorem iX0_set_6 : xl_G mX0_set 6 0 0 9 := ⟨13, by decide +kernel, rfl, fX0_13⟩
theorem iX0_set_9 : xl_J mX0_set 9 (fun o => .if_icmp .ge o) 12 38 := ⟨29, by decide +kernel, rfl, rfl⟩
theorem iX0_set_12 : xl_D mX0_set 12 (.iload_n 2) 1 13 := ⟨by decide +kernel, rfl⟩
theorem iX0_set_13 : xl_J mX0_set 13 (fun o => .ifCond .lt o) 16 38 := ⟨25, by decide +kernel, rfl, rfl⟩
theorem iX0_set_16 : xl_D mX0_set 16 (.iload_n 2) 1 17 := ⟨by decide +kernel, rfl⟩
theorem iX0_set_17 : xl_D mX0_set 17 (.aload_n 0) 1 18 := ⟨by decide +kernel, rfl⟩
theorem iX0_set_18 : xl_G mX0_set 18 0 1 21 := ⟨19, by decide +kernel, rfl, fX0_19⟩
theorem iX0_set_21 : xl_J mX0_set 21 (fun o => .if_icmp .ge o) 24 38 := ⟨17, by decide +kernel, rfl, rfl⟩
theorem iX0_set_24 : xl_D mX0_set 24 (.aload_n 0) 1 25 := ⟨by decide +kernel, rfl⟩
theorem iX0_set_25 : xl_G mX0_set 25 0 2 28 := ⟨22, by decide +kernel, rfl, fX0_22⟩
theorem iX0_set_28 : xl_D mX0_set 28 (.iload_n 1) 1 29 := ⟨by decide +kernel, rfl⟩
theorem iX0_set_29 : xl_D mX0_set 29 (.aload_n 0) 1 30 := ⟨by decide +kernel, rfl⟩
theorem iX0_set_30 : xl_G mX0_set 30 0 1 33 := ⟨19, by decide +kernel, rfl, fX0_19⟩
theorem iX0_set_33 : xl_D mX0_set 33 (.imul) 1 34 := ⟨by decide +kernel, rfl⟩
theorem iX0_set_34 : xl_D mX0_set 34 (.iload_n 2) 1 35 := ⟨by decide +kernel, rfl⟩
theorem iX0_set_35 : xl_D mX0_set 35 (.iadd) 1 36 := ⟨by decide +kernel, rfl⟩
theorem iX0_set_36 : xl_D mX0_set 36 (.iload_n 3) 1 37 := ⟨by decide +kernel, rfl⟩
theorem iX0_set_37 : xl_D mX0_set 37 (.iastore) 1 38 := ⟨by decide +kernel, rfl⟩
theorem iX0_set_38 : xl_D mX0_set 38 (.return_) 1 39 := ⟨by decide +kernel, rfl⟩
theorem iX0_add_0 : xl_D mX0_add 0 (.iload_n 1) 1 1 := ⟨by decide +kernel, rfl⟩
theorem iX0_add_1 : xl_J mX0_add 1 (fun o => .ifCond .lt o) 4 41 := ⟨40, by decide +kernel, rfl, rfl⟩
theorem iX0_add_4 : xl_D mX0_add 4 (.iload_n 1) 1 5 := ⟨by decide +kernel, rfl⟩
theorem iX0_add_5 : xl_D mX0_add 5 (.aload_n 0) 1 6 := ⟨by decide +kernel, rfl⟩
theorem iX0_add_6 : xl_G mX0_add 6 0 0 9 := ⟨13, by decide +kernel, rfl, fX0_13⟩
theorem iX0_add_9 : xl_J mX0_add 9 (fun o => .if_icmp .ge o) 12 41 := ⟨32, by decide +kernel, rfl, rfl⟩
theorem iX0_add_12 : xl_D mX0_add 12 (.iload_n 2) 1 13 := ⟨by decide +kernel, rfl⟩
theorem iX0_add_13 : xl_J mX0_add 13 (fun o => .ifCond .lt o) 16 41 := ⟨28, by decide +kernel, rfl, rfl⟩
theorem iX0_add_16 : xl_D mX0_add 16 (.iload_n 2) 1 17 := ⟨by decide +kernel, rfl⟩
theorem iX0_add_17 : xl_D mX0_add 17 (.aload_n 0) 1 18 := ⟨by decide +kernel, rfl⟩
theorem iX0_add_18 : xl_G mX0_add 18 0 1 21 := ⟨19, by decide +kernel, rfl, fX0_19⟩
theorem iX0_add_21 : xl_J mX0_add 21 (fun o => .if_icmp .ge o) 24 41 := ⟨20, by decide +kernel, rfl, rfl⟩
theorem iX0_add_24 : xl_D mX0_add 24 (.aload_n 0) 1 25 := ⟨by decide +kernel, rfl⟩
theorem iX0_add_25 : xl_G mX0_add 25 0 2 28 := ⟨22, by decide +kernel, rfl, fX0_22⟩
theorem iX0_add_28 : xl_D mX0_add 28 (.iload_n 1) 1 29 := ⟨by decide +kernel, rfl⟩
theorem iX0_add_29 : xl_D mX0_add 29 (.aload_n 0) 1 30 := ⟨by decide +kernel, rfl⟩
theorem iX0_add_30 : xl_G mX0_add 30 0 1 33 := ⟨19, by decide +kernel, rfl, fX0_19⟩
theorem iX0_add_33 : xl_D mX0_add 33 (.imul) 1 34 := ⟨by decide +kernel, rfl⟩
theorem iX0_add_34 : xl_D mX0_add 34 (.iload_n 2) 1 35 := ⟨by decide +kernel, rfl⟩
theorem iX0_add_35 : xl_D mX0_add 35 (.iadd) 1 36 := ⟨by decide +kernel, rfl⟩
theorem iX0_add_36 : xl_D mX0_add 36 (.dup2) 1 37 := ⟨by decide +kernel, rfl⟩
theorem iX0_add_37 : xl_D mX0_add 37 (.iaload) 1 38 := ⟨by decide +kernel, rfl⟩
theorem iX0_add_38 : xl_D mX0_add 38 (.iload_n 3) 1 39 := ⟨by decide +kernel, rfl⟩
theorem iX0_add_39 : xl_D mX0_add 39 (.iadd) 1 40 := ⟨by decide +kernel, rfl⟩
theorem iX0_add_40 : xl_D mX0_add 40 (.iastore) 1 41 := ⟨by decide +kernel, rfl⟩
theorem iX0_add_41 : xl_D mX0_add 41 (.return_) 1 42 := ⟨by decide +kernel, rfl⟩
theorem iX0_clear_0 : xl_D mX0_clear 0 (.aload_n 0) 1 1 := ⟨by decide +kernel, rfl⟩
theorem iX0_clear_1 : xl_D mX0_clear 1 (.iconst 0) 1 2 := ⟨by decide +kernel, rfl⟩
theorem iX0_clear_2 : xl_P mX0_clear 2 0 3 .int 5 := ⟨26, by decide +kernel, rfl, wX0_26⟩
theorem iX0_clear_5 : xl_D mX0_clear 5 (.return_) 1 6 := ⟨by decide +kernel, rfl⟩
theorem iX0_reach_0 : xl_D mX0_reach 0 (.iload_n 1) 1 1 := ⟨by decide +kernel, rfl⟩
theorem iX0_reach_1 : xl_D mX0_reach 1 (.aload_n 0) 1 2 := ⟨by decide +kernel, rfl⟩
theorem iX0_reach_2 : xl_G mX0_reach 2 0 3 5 := ⟨26, by decide +kernel, rfl, fX0_26⟩
theorem iX0_reach_5 : xl_J mX0_reach 5 (fun o => .if_icmp .lt o) 8 23 := ⟨18, by decide +kernel, rfl, rfl⟩
theorem iX0_reach_8 : xl_D mX0_reach 8 (.iload_n 1) 1 9 := ⟨by decide +kernel, rfl⟩
theorem iX0_reach_9 : xl_D mX0_reach 9 (.aload_n 0) 1 10 := ⟨by decide +kernel, rfl⟩
theorem iX0_reach_10 : xl_G mX0_reach 10 0 0 13 := ⟨13, by decide +kernel, rfl, fX0_13⟩
theorem iX0_reach_13 : xl_J mX0_reach 13 (fun o => .if_icmp .ge o) 16 23 := ⟨10, by decide +kernel, rfl, rfl⟩
theorem iX0_reach_16 : xl_D mX0_reach 16 (.aload_n 0) 1 17 := ⟨by decide +kernel, rfl⟩
theorem iX0_reach_17 : xl_D mX0_reach 17 (.iload_n 1) 1 18 := ⟨by decide +kernel, rfl⟩
theorem iX0_reach_18 : xl_D mX0_reach 18 (.iconst 1) 1 19 := ⟨by decide +kernel, rfl⟩
theorem iX0_reach_19 : xl_D mX0_reach 19 (.iadd) 1 20 := ⟨by decide +kernel, rfl⟩
theorem iX0_reach_20 : xl_P mX0_reach 20 0 3 .int 23 := ⟨26, by decide +kernel, rfl, wX0_26⟩
theorem iX0_reach_23 : xl_D mX0_reach 23 (.return_) 1 24 := ⟨by decide +kernel, rfl⟩
theorem iX0_open_0 : xl_D mX0_open 0 (.iload_n 1) 1 1 := ⟨by decide +kernel, rfl⟩
theorem iX0_open_1 : xl_J mX0_open 1 (fun o => .ifCond .lt o) 4 23 := ⟨22, by decide +kernel, rfl, rfl⟩
theorem iX0_open_4 : xl_D mX0_open 4 (.iload_n 1) 1 5 := ⟨by decide +kernel, rfl⟩
theorem iX0_open_5 : xl_D mX0_open 5 (.aload_n 0) 1 6 := ⟨by decide +kernel, rfl⟩
theorem iX0_open_6 : xl_G mX0_open 6 0 3 9 := ⟨26, by decide +kernel, rfl, fX0_26⟩
theorem iX0_open_9 : xl_J mX0_open 9 (fun o => .if_icmp .gt o) 12 23 := ⟨14, by decide +kernel, rfl, rfl⟩
theorem iX0_open_12 : xl_D mX0_open 12 (.aload_n 0) 1 13 := ⟨by decide +kernel, rfl⟩
theorem iX0_open_13 : xl_G mX0_open 13 0 3 16 := ⟨26, by decide +kernel, rfl, fX0_26⟩
theorem iX0_open_16 : xl_D mX0_open 16 (.aload_n 0) 1 17 := ⟨by decide +kernel, rfl⟩
theorem iX0_open_17 : xl_G mX0_open 17 0 0 20 := ⟨13, by decide +kernel, rfl, fX0_13⟩
theorem iX0_open_20 : xl_J mX0_open 20 (fun o => .if_icmp .lt o) 23 25 := ⟨5, by decide +kernel, rfl, rfl⟩
theorem iX0_open_23 : xl_D mX0_open 23 (.iconst 0) 1 24 := ⟨by decide +kernel, rfl⟩
theorem iX0_open_24 : xl_D mX0_open 24 (.ireturn) 1 25 := ⟨by decide +kernel, rfl⟩
theorem iX0_open_25 : xl_D mX0_open 25 (.aload_n 0) 1 26 := ⟨by decide +kernel, rfl⟩
theorem iX0_open_26 : xl_G mX0_open 26 0 2 29 := ⟨22, by decide +kernel, rfl, fX0_22⟩
theorem iX0_open_29 : xl_D mX0_open 29 (.iload_n 1) 1 30 := ⟨by decide +kernel, rfl⟩
theorem iX0_open_30 : xl_D mX0_open 30 (.aload_n 0) 1 31 := ⟨by decide +kernel, rfl⟩
theorem iX0_open_31 : xl_G mX0_open 31 0 1 34 := ⟨19, by decide +kernel, rfl, fX0_19⟩
theorem iX0_open_34 : xl_D mX0_open 34 (.imul) 1 35 := ⟨by decide +kernel, rfl⟩
theorem iX0_open_35 : xl_D mX0_open 35 (.aload_n 0) 1 36 := ⟨by decide +kernel, rfl⟩
theorem iX0_open_36 : xl_G mX0_open 36 0 2 39 := ⟨22, by decide +kernel, rfl, fX0_22⟩
theorem iX0_open_39 : xl_D mX0_open 39 (.iload_n 1) 1 40 := ⟨by decide +kernel, rfl⟩
theorem iX0_open_40 : xl_D mX0_open 40 (.iconst 1) 1 41 := ⟨by decide +kernel, rfl⟩
theorem iX0_open_41 : xl_D mX0_open 41 (.iadd) 1 42 := ⟨by decide +kernel, rfl⟩
theorem iX0_open_42 : xl_D mX0_open 42 (.aload_n 0) 1 43 := ⟨by decide +kernel, rfl⟩
theorem iX0_open_43 : xl_G mX0_open 43 0 1 46 := ⟨19, by decide +kernel, rfl, fX0_19⟩
theorem iX0_open_46 : xl_D mX0_open 46 (.imul) 1 47 := ⟨by decide +kernel, rfl⟩
theorem iX0_open_47 : xl_D mX0_open 47 (.aload_n 0) 1 48 := ⟨by decide +kernel, rfl⟩
theorem iX0_open_48 : xl_G mX0_open 48 0 3 51 := ⟨26, by decide +kernel, rfl, fX0_26⟩
theorem iX0_open_51 : xl_D mX0_open 51 (.iload_n 1) 1 52 := ⟨by decide +kernel, rfl⟩
theorem iX0_open_52 : xl_D mX0_open 52 (.isub) 1 53 := ⟨by decide +kernel, rfl⟩
theorem iX0_open_53 : xl_D mX0_open 53 (.aload_n 0) 1 54 := ⟨by decide +kernel, rfl⟩
theorem iX0_open_54 : xl_G mX0_open 54 0 1 57 := ⟨19, by decide +kernel, rfl, fX0_19⟩
theorem iX0_open_57 : xl_D mX0_open 57 (.imul) 1 58 := ⟨by decide +kernel, rfl⟩
theorem iX0_open_58 : xl_Cy mX0_open 58 61 := ⟨29, by decide +kernel, rfl, lX0_29, xl_acn, xl_acs, xl_iSystem, Nat.le_of_ble_eq_true rfl, Nat.le_of_ble_eq_true rfl⟩
theorem iX0_open_61 : xl_D mX0_open 61 (.iconst 0) 1 62 := ⟨by decide +kernel, rfl⟩
theorem iX0_open_62 : xl_D mX0_open 62 (.istore_n 2) 1 63 := ⟨by decide +kernel, rfl⟩
theorem iX0_open_63 : xl_D mX0_open 63 (.iload_n 2) 1 64 := ⟨by decide +kernel, rfl⟩
theorem iX0_open_64 : xl_D mX0_open 64 (.aload_n 0) 1 65 := ⟨by decide +kernel, rfl⟩
theorem iX0_open_65 : xl_G mX0_open 65 0 1 68 := ⟨19, by decide +kernel, rfl, fX0_19⟩
theorem iX0_open_68 : xl_J mX0_open 68 (fun o => .if_icmp .ge o) 71 84 := ⟨16, by decide +kernel, rfl, rfl⟩
theorem iX0_open_71 : xl_D mX0_open 71 (.aload_n 0) 1 72 := ⟨by decide +kernel, rfl⟩
theorem iX0_open_72 : xl_D mX0_open 72 (.iload_n 1) 1 73 := ⟨by decide +kernel, rfl⟩
theorem iX0_open_73 : xl_D mX0_open 73 (.iload_n 2) 1 74 := ⟨by decide +kernel, rfl⟩
theorem iX0_open_74 : xl_D mX0_open 74 (.iconst 0) 1 75 := ⟨by decide +kernel, rfl⟩
theorem iX0_open_75 : xl_Ca mX0_open 75 mX0_set 78 := ⟨35, by decide +kernel, rfl, lX0_35, Nat.le_of_ble_eq_true rfl, Nat.le_of_ble_eq_true rfl⟩
theorem iX0_open_78 : xl_D mX0_open 78 (.iinc 2 1) 3 81 := ⟨by decide +kernel, rfl⟩
theorem iX0_open_81 : xl_J mX0_open 81 (fun o => .goto o) 84 63 := ⟨-18, by decide +kernel, rfl, rfl⟩
theorem iX0_open_84 : xl_D mX0_open 84 (.aload_n 0) 1 85 := ⟨by decide +kernel, rfl⟩
theorem iX0_open_85 : xl_D mX0_open 85 (.dup) 1 86 := ⟨by decide +kernel, rfl⟩
theorem iX0_open_86 : xl_G mX0_open 86 0 3 89 := ⟨26, by decide +kernel, rfl, fX0_26⟩
theorem iX0_open_89 : xl_D mX0_open 89 (.iconst 1) 1 90 := ⟨by decide +kernel, rfl⟩
theorem iX0_open_90 : xl_D mX0_open 90 (.iadd) 1 91 := ⟨by decide +kernel, rfl⟩
theorem iX0_open_91 : xl_P mX0_open 91 0 3 .int 94 := ⟨26, by decide +kernel, rfl, wX0_26⟩
theorem iX0_open_94 : xl_D mX0_open 94 (.iconst 1) 1 95 := ⟨by decide +kernel, rfl⟩
theorem iX0_open_95 : xl_D mX0_open 95 (.ireturn) 1 96 := ⟨by decide +kernel, rfl⟩
theorem iX0_drop_0 : xl_D mX0_drop 0 (.iload_n 1) 1 1 := ⟨by decide +kernel, rfl⟩
theorem iX0_drop_1 : xl_J mX0_drop 1 (fun o => .ifCond .lt o) 4 12 := ⟨11, by decide +kernel, rfl, rfl⟩
theorem iX0_drop_4 : xl_D mX0_drop 4 (.iload_n 1) 1 5 := ⟨by decide +kernel, rfl⟩
theorem iX0_drop_5 : xl_D mX0_drop 5 (.aload_n 0) 1 6 := ⟨by decide +kernel, rfl⟩
theorem iX0_drop_6 : xl_G mX0_drop 6 0 3 9 := ⟨26, by decide +kernel, rfl, fX0_26⟩
theorem iX0_drop_9 : xl_J mX0_drop 9 (fun o => .if_icmp .lt o) 12 13 := ⟨4, by decide +kernel, rfl, rfl⟩
theorem iX0_drop_12 : xl_D mX0_drop 12 (.return_) 1 13 := ⟨by decide +kernel, rfl⟩
theorem iX0_drop_13 : xl_D mX0_drop 13 (.aload_n 0) 1 14 := ⟨by decide +kernel, rfl⟩
theorem iX0_drop_14 : xl_G mX0_drop 14 0 2 17 := ⟨22, by decide +kernel, rfl, fX0_22⟩
theorem iX0_drop_17 : xl_D mX0_drop 17 (.iload_n 1) 1 18 := ⟨by decide +kernel, rfl⟩
theorem iX0_drop_18 : xl_D mX0_drop 18 (.iconst 1) 1 19 := ⟨by decide +kernel, rfl⟩
theorem iX0_drop_19 : xl_D mX0_drop 19 (.iadd) 1 20 := ⟨by decide +kernel, rfl⟩
theorem iX0_drop_20 : xl_D mX0_drop 20 (.aload_n 0) 1 21 := ⟨by decide +kernel, rfl⟩
theorem iX0_drop_21 : xl_G mX0_drop 21 0 1 24 := ⟨19, by decide +kernel, rfl, fX0_19⟩
theorem iX0_drop_24 : xl_D mX0_drop 24 (.imul) 1 25 := ⟨by decide +kernel, rfl⟩
theorem iX0_drop_25 : xl_D mX0_drop 25 (.aload_n 0) 1 26 := ⟨by decide +kernel, rfl⟩
theorem iX0_drop_26 : xl_G mX0_drop 26 0 2 29 := ⟨22, by decide +kernel, rfl, fX0_22⟩
theorem iX0_drop_29 : xl_D mX0_drop 29 (.iload_n 1) 1 30 := ⟨by decide +kernel, rfl⟩
theorem iX0_drop_30 : xl_D mX0_drop 30 (.aload_n 0) 1 31 := ⟨by decide +kernel, rfl⟩
theorem iX0_drop_31 : xl_G mX0_drop 31 0 1 34 := ⟨19, by decide +kernel, rfl, fX0_19⟩
theorem iX0_drop_34 : xl_D mX0_drop 34 (.imul) 1 35 := ⟨by decide +kernel, rfl⟩
theorem iX0_drop_35 : xl_D mX0_drop 35 (.aload_n 0) 1 36 := ⟨by decide +kernel, rfl⟩
theorem iX0_drop_36 : xl_G mX0_drop 36 0 3 39 := ⟨26, by decide +kernel, rfl, fX0_26⟩
theorem iX0_drop_39 : xl_D mX0_drop 39 (.iload_n 1) 1 40 := ⟨by decide +kernel, rfl⟩
theorem iX0_drop_40 : xl_D mX0_drop 40 (.isub) 1 41 := ⟨by decide +kernel, rfl⟩
theorem iX0_drop_41 : xl_D mX0_drop 41 (.iconst 1) 1 42 := ⟨by decide +kernel, rfl⟩
theorem iX0_drop_42 : xl_D mX0_drop 42 (.isub) 1 43 := ⟨by decide +kernel, rfl⟩
theorem iX0_drop_43 : xl_D mX0_drop 43 (.aload_n 0) 1 44 := ⟨by decide +kernel, rfl⟩
theorem iX0_drop_44 : xl_G mX0_drop 44 0 1 47 := ⟨19, by decide +kernel, rfl, fX0_19⟩
theorem iX0_drop_47 : xl_D mX0_drop 47 (.imul) 1 48 := ⟨by decide +kernel, rfl⟩
theorem iX0_drop_48 : xl_Cy mX0_drop 48 51 := ⟨29, by decide +kernel, rfl, lX0_29, xl_acn, xl_acs, xl_iSystem, Nat.le_of_ble_eq_true rfl, Nat.le_of_ble_eq_true rfl⟩
theorem iX0_drop_51 : xl_D mX0_drop 51 (.aload_n 0) 1 52 := ⟨by decide +kernel, rfl⟩
theorem iX0_drop_52 : xl_D mX0_drop 52 (.dup) 1 53 := ⟨by decide +kernel, rfl⟩
theorem iX0_drop_53 : xl_G mX0_drop 53 0 3 56 := ⟨26, by decide +kernel, rfl, fX0_26⟩
theorem iX0_drop_56 : xl_D mX0_drop 56 (.iconst 1) 1 57 := ⟨by decide +kernel, rfl⟩
theorem iX0_drop_57 : xl_D mX0_drop 57 (.isub) 1 58 := ⟨by decide +kernel, rfl⟩
theorem iX0_drop_58 : xl_P mX0_drop 58 0 3 .int 61 := ⟨26, by decide +kernel, rfl, wX0_26⟩
theorem iX0_drop_61 : xl_D mX0_drop 61 (.return_) 1 62 := ⟨by decide +kernel, rfl⟩
theorem iX0_copyRow_0 : xl_D mX0_copyRow 0 (.aload_n 2) 1 1 := ⟨by decide +kernel, rfl⟩
theorem iX0_copyRow_1 : xl_J mX0_copyRow 1 (fun o => .ifnonnull o) 4 5 := ⟨4, by decide +kernel, rfl, rfl⟩
theorem iX0_copyRow_4 : xl_D mX0_copyRow 4 (.return_) 1 5 := ⟨by decide +kernel, rfl⟩
theorem iX0_copyRow_5 : xl_D mX0_copyRow 5 (.iconst 0) 1 6 := ⟨by decide +kernel, rfl⟩
theorem iX0_copyRow_6 : xl_D mX0_copyRow 6 (.istore 4) 2 8 := ⟨by decide +kernel, rfl⟩
theorem iX0_copyRow_8 : xl_D mX0_copyRow 8 (.iload 4) 2 10 := ⟨by decide +kernel, rfl⟩
theorem iX0_copyRow_10 : xl_D mX0_copyRow 10 (.aload_n 0) 1 11 := ⟨by decide +kernel, rfl⟩
theorem iX0_copyRow_11 : xl_G mX0_copyRow 11 0 1 14 := ⟨19, by decide +kernel, rfl, fX0_19⟩
theorem iX0_copyRow_14 : xl_J mX0_copyRow 14 (fun o => .if_icmp .ge o) 17 37 := ⟨23, by decide +kernel, rfl, rfl⟩
theorem iX0_copyRow_17 : xl_D mX0_copyRow 17 (.aload_n 0) 1 18 := ⟨by decide +kernel, rfl⟩
theorem iX0_copyRow_18 : xl_D mX0_copyRow 18 (.iload_n 1) 1 19 := ⟨by decide +kernel, rfl⟩
theorem iX0_copyRow_19 : xl_D mX0_copyRow 19 (.iload 4) 2 21 := ⟨by decide +kernel, rfl⟩
theorem iX0_copyRow_21 : xl_D mX0_copyRow 21 (.aload_n 2) 1 22 := ⟨by decide +kernel, rfl⟩
theorem iX0_copyRow_22 : xl_D mX0_copyRow 22 (.iload_n 3) 1 23 := ⟨by decide +kernel, rfl⟩
theorem iX0_copyRow_23 : xl_D mX0_copyRow 23 (.iload 4) 2 25 := ⟨by decide +kernel, rfl⟩
theorem iX0_copyRow_25 : xl_Ca mX0_copyRow 25 mX0_get 28 := ⟨39, by decide +kernel, rfl, lX0_39, Nat.le_of_ble_eq_true rfl, Nat.le_of_ble_eq_true rfl⟩
theorem iX0_copyRow_28 : xl_Ca mX0_copyRow 28 mX0_set 31 := ⟨35, by decide +kernel, rfl, lX0_35, Nat.le_of_ble_eq_true rfl, Nat.le_of_ble_eq_true rfl⟩
theorem iX0_copyRow_31 : xl_D mX0_copyRow 31 (.iinc 4 1) 3 34 := ⟨by decide +kernel, rfl⟩
theorem iX0_copyRow_34 : xl_J mX0_copyRow 34 (fun o => .goto o) 37 8 := ⟨-26, by decide +kernel, rfl, rfl⟩
theorem iX0_copyRow_37 : xl_D mX0_copyRow 37 (.return_) 1 38 := ⟨by decide +kernel, rfl⟩
theorem iX0_copyFrom_0 : xl_D mX0_copyFrom 0 (.aload_n 1) 1 1 := ⟨by decide +kernel, rfl⟩
theorem iX0_copyFrom_1 : xl_J mX0_copyFrom 1 (fun o => .ifnull o) 4 17 := ⟨16, by decide +kernel, rfl, rfl⟩
theorem iX0_copyFrom_4 : xl_D mX0_copyFrom 4 (.aload_n 1) 1 5 := ⟨by decide +kernel, rfl⟩
theorem iX0_copyFrom_5 : xl_G mX0_copyFrom 5 0 2 8 := ⟨22, by decide +kernel, rfl, fX0_22⟩
theorem iX0_copyFrom_8 : xl_D mX0_copyFrom 8 (.arraylength) 1 9 := ⟨by decide +kernel, rfl⟩
theorem iX0_copyFrom_9 : xl_D mX0_copyFrom 9 (.aload_n 0) 1 10 := ⟨by decide +kernel, rfl⟩
theorem iX0_copyFrom_10 : xl_G mX0_copyFrom 10 0 2 13 := ⟨22, by decide +kernel, rfl, fX0_22⟩
theorem iX0_copyFrom_13 : xl_D mX0_copyFrom 13 (.arraylength) 1 14 := ⟨by decide +kernel, rfl⟩
theorem iX0_copyFrom_14 : xl_J mX0_copyFrom 14 (fun o => .if_icmp .eq o) 17 18 := ⟨4, by decide +kernel, rfl, rfl⟩
theorem iX0_copyFrom_17 : xl_D mX0_copyFrom 17 (.return_) 1 18 := ⟨by decide +kernel, rfl⟩
theorem iX0_copyFrom_18 : xl_D mX0_copyFrom 18 (.aload_n 0) 1 19 := ⟨by decide +kernel, rfl⟩
theorem iX0_copyFrom_19 : xl_D mX0_copyFrom 19 (.aload_n 1) 1 20 := ⟨by decide +kernel, rfl⟩
theorem iX0_copyFrom_20 : xl_G mX0_copyFrom 20 0 3 23 := ⟨26, by decide +kernel, rfl, fX0_26⟩
theorem iX0_copyFrom_23 : xl_P mX0_copyFrom 23 0 3 .int 26 := ⟨26, by decide +kernel, rfl, wX0_26⟩
theorem iX0_copyFrom_26 : xl_D mX0_copyFrom 26 (.aload_n 1) 1 27 := ⟨by decide +kernel, rfl⟩
theorem iX0_copyFrom_27 : xl_G mX0_copyFrom 27 0 2 30 := ⟨22, by decide +kernel, rfl, fX0_22⟩
theorem iX0_copyFrom_30 : xl_D mX0_copyFrom 30 (.iconst 0) 1 31 := ⟨by decide +kernel, rfl⟩
theorem iX0_copyFrom_31 : xl_D mX0_copyFrom 31 (.aload_n 0) 1 32 := ⟨by decide +kernel, rfl⟩
theorem iX0_copyFrom_32 : xl_G mX0_copyFrom 32 0 2 35 := ⟨22, by decide +kernel, rfl, fX0_22⟩
theorem iX0_copyFrom_35 : xl_D mX0_copyFrom 35 (.iconst 0) 1 36 := ⟨by decide +kernel, rfl⟩
theorem iX0_copyFrom_36 : xl_D mX0_copyFrom 36 (.aload_n 0) 1 37 := ⟨by decide +kernel, rfl⟩
theorem iX0_copyFrom_37 : xl_G mX0_copyFrom 37 0 3 40 := ⟨26, by decide +kernel, rfl, fX0_26⟩
theorem iX0_copyFrom_40 : xl_D mX0_copyFrom 40 (.aload_n 0) 1 41 := ⟨by decide +kernel, rfl⟩
theorem iX0_copyFrom_41 : xl_G mX0_copyFrom 41 0 1 44 := ⟨19, by decide +kernel, rfl, fX0_19⟩
theorem iX0_copyFrom_44 : xl_D mX0_copyFrom 44 (.imul) 1 45 := ⟨by decide +kernel, rfl⟩
theorem iX0_copyFrom_45 : xl_D mX0_copyFrom 45 (.aload_n 0) 1 46 := ⟨by decide +kernel, rfl⟩
theorem iX0_copyFrom_46 : xl_G mX0_copyFrom 46 0 2 49 := ⟨22, by decide +kernel, rfl, fX0_22⟩
theorem iX0_copyFrom_49 : xl_D mX0_copyFrom 49 (.arraylength) 1 50 := ⟨by decide +kernel, rfl⟩
theorem iX0_copyFrom_50 : xl_Cm mX0_copyFrom 50 Lib.Math.min.name Lib.Math.min.code 53 := ⟨42, by decide +kernel, rfl, lX0_42, xl_stmin, xl_iMath, xl_comin, Nat.le_of_ble_eq_true rfl, Nat.le_of_ble_eq_true rfl⟩
theorem iX0_copyFrom_53 : xl_Cy mX0_copyFrom 53 56 := ⟨29, by decide +kernel, rfl, lX0_29, xl_acn, xl_acs, xl_iSystem, Nat.le_of_ble_eq_true rfl, Nat.le_of_ble_eq_true rfl⟩
theorem iX0_copyFrom_56 : xl_D mX0_copyFrom 56 (.return_) 1 57 := ⟨by decide +kernel, rfl⟩
theorem iJ7_fill_53178_0 : xl_D mJ7_fill_53178 0 (.iconst 0) 1 1 := ⟨by decide +kernel, rfl⟩
theorem iJ7_fill_53178_1 : xl_D mJ7_fill_53178 1 (.istore_n 2) 1 2 := ⟨by decide +kernel, rfl⟩
theorem iJ7_fill_53178_2 : xl_D mJ7_fill_53178 2 (.aload_n 0) 1 3 := ⟨by decide +kernel, rfl⟩
theorem iJ7_fill_53178_3 : xl_D mJ7_fill_53178 3 (.arraylength) 1 4 := ⟨by decide +kernel, rfl⟩
theorem iJ7_fill_53178_4 : xl_D mJ7_fill_53178 4 (.istore_n 3) 1 5 := ⟨by decide +kernel, rfl⟩
theorem iJ7_fill_53178_5 : xl_D mJ7_fill_53178 5 (.iload_n 2) 1 6 := ⟨by decide +kernel, rfl⟩
theorem iJ7_fill_53178_6 : xl_D mJ7_fill_53178 6 (.iload_n 3) 1 7 := ⟨by decide +kernel, rfl⟩
theorem iJ7_fill_53178_7 : xl_J mJ7_fill_53178 7 (fun o => .if_icmp .ge o) 10 20 := ⟨13, by decide +kernel, rfl, rfl⟩
theorem iJ7_fill_53178_10 : xl_D mJ7_fill_53178 10 (.aload_n 0) 1 11 := ⟨by decide +kernel, rfl⟩
theorem iJ7_fill_53178_11 : xl_D mJ7_fill_53178 11 (.iload_n 2) 1 12 := ⟨by decide +kernel, rfl⟩
theorem iJ7_fill_53178_12 : xl_D mJ7_fill_53178 12 (.iload_n 1) 1 13 := ⟨by decide +kernel, rfl⟩
theorem iJ7_fill_53178_13 : xl_D mJ7_fill_53178 13 (.iastore) 1 14 := ⟨by decide +kernel, rfl⟩
theorem iJ7_fill_53178_14 : xl_D mJ7_fill_53178 14 (.iinc 2 1) 3 17 := ⟨by decide +kernel, rfl⟩
theorem iJ7_fill_53178_17 : xl_J mJ7_fill_53178 17 (fun o => .goto o) 20 5 := ⟨-12, by decide +kernel, rfl, rfl⟩
theorem iJ7_fill_53178_20 : xl_D mJ7_fill_53178 20 (.return_) 1 21 := ⟨by decide +kernel, rfl⟩
