-- 06.codeT
section
theorem iX0_init_0 : xl_D mX0_init 0 (.aload_n 0) 1 1 := ⟨zd zq_0 (by decide +kernel), rfl⟩
theorem iX0_init_1 : xl_D mX0_init 1 (.invokespecial 1) 3 4 := ⟨zd zq_1 (by decide +kernel), rfl⟩
theorem iX0_init_4 : xl_D mX0_init 4 (.aload_n 0) 1 5 := ⟨zd zq_0 (by decide +kernel), rfl⟩
theorem iX0_init_5 : xl_D mX0_init 5 (.iconst 0) 1 6 := ⟨zd zq_2 (by decide +kernel), rfl⟩
theorem iX0_init_6 : xl_D mX0_init 6 (.iload_n 1) 1 7 := ⟨zd zq_3 (by decide +kernel), rfl⟩
theorem iX0_init_7 : xl_Cm mX0_init 7 Lib.Math.max.name Lib.Math.max.code 10 := ⟨7, zd zq_4 (by decide +kernel), rfl, lX0_7, xl_stmax, xl_iMath, xl_comax, Nat.le_of_ble_eq_true rfl, Nat.le_of_ble_eq_true rfl⟩
theorem iX0_init_13 : xl_D mX0_init 13 (.aload_n 0) 1 14 := ⟨zd zq_0 (by decide +kernel), rfl⟩
theorem iX0_init_14 : xl_D mX0_init 14 (.iconst 0) 1 15 := ⟨zd zq_2 (by decide +kernel), rfl⟩
theorem iX0_init_15 : xl_D mX0_init 15 (.iload_n 2) 1 16 := ⟨zd zq_6 (by decide +kernel), rfl⟩
theorem iX0_init_16 : xl_Cm mX0_init 16 Lib.Math.max.name Lib.Math.max.code 19 := ⟨7, zd zq_4 (by decide +kernel), rfl, lX0_7, xl_stmax, xl_iMath, xl_comax, Nat.le_of_ble_eq_true rfl, Nat.le_of_ble_eq_true rfl⟩
theorem iX0_init_22 : xl_D mX0_init 22 (.aload_n 0) 1 23 := ⟨zd zq_0 (by decide +kernel), rfl⟩
theorem iX0_init_23 : xl_D mX0_init 23 (.aload_n 0) 1 24 := ⟨zd zq_0 (by decide +kernel), rfl⟩
theorem iX0_init_24 : xl_G mX0_init 24 0 0 27 := ⟨13, zd zq_8 (by decide +kernel), rfl, fX0_13⟩
theorem iX0_init_27 : xl_D mX0_init 27 (.aload_n 0) 1 28 := ⟨zd zq_0 (by decide +kernel), rfl⟩
theorem iX0_init_28 : xl_G mX0_init 28 0 1 31 := ⟨19, zd zq_9 (by decide +kernel), rfl, fX0_19⟩
theorem iX0_init_31 : xl_D mX0_init 31 (.imul) 1 32 := ⟨zd zq_10 (by decide +kernel), rfl⟩
theorem iX0_init_32 : xl_D mX0_init 32 (.newarray .int) 2 34 := ⟨by decide +kernel, rfl⟩
theorem iX0_init_37 : xl_D mX0_init 37 (.return_) 1 38 := ⟨zd zq_12 (by decide +kernel), rfl⟩
theorem iX0_get_0 : xl_D mX0_get 0 (.iload_n 1) 1 1 := ⟨zd zq_3 (by decide +kernel), rfl⟩
theorem iX0_get_1 : xl_J mX0_get 1 (fun o => .ifCond .lt o) 4 24 := ⟨23, zd zq_13 (by decide +kernel), rfl, rfl⟩
theorem iX0_get_4 : xl_D mX0_get 4 (.iload_n 1) 1 5 := ⟨zd zq_3 (by decide +kernel), rfl⟩
theorem iX0_get_5 : xl_D mX0_get 5 (.aload_n 0) 1 6 := ⟨zd zq_0 (by decide +kernel), rfl⟩
theorem iX0_get_6 : xl_G mX0_get 6 0 0 9 := ⟨13, zd zq_8 (by decide +kernel), rfl, fX0_13⟩
theorem iX0_get_9 : xl_J mX0_get 9 (fun o => .if_icmp .ge o) 12 24 := ⟨15, zd zq_14 (by decide +kernel), rfl, rfl⟩
theorem iX0_get_12 : xl_D mX0_get 12 (.iload_n 2) 1 13 := ⟨zd zq_6 (by decide +kernel), rfl⟩
theorem iX0_get_13 : xl_J mX0_get 13 (fun o => .ifCond .lt o) 16 24 := ⟨11, zd zq_15 (by decide +kernel), rfl, rfl⟩
theorem iX0_get_16 : xl_D mX0_get 16 (.iload_n 2) 1 17 := ⟨zd zq_6 (by decide +kernel), rfl⟩
theorem iX0_get_17 : xl_D mX0_get 17 (.aload_n 0) 1 18 := ⟨zd zq_0 (by decide +kernel), rfl⟩
theorem iX0_get_18 : xl_G mX0_get 18 0 1 21 := ⟨19, zd zq_9 (by decide +kernel), rfl, fX0_19⟩
theorem iX0_get_21 : xl_J mX0_get 21 (fun o => .if_icmp .lt o) 24 26 := ⟨5, zd zq_16 (by decide +kernel), rfl, rfl⟩
theorem iX0_get_24 : xl_D mX0_get 24 (.iconst 0) 1 25 := ⟨zd zq_2 (by decide +kernel), rfl⟩
theorem iX0_get_25 : xl_D mX0_get 25 (.ireturn) 1 26 := ⟨zd zq_17 (by decide +kernel), rfl⟩
theorem iX0_get_26 : xl_D mX0_get 26 (.aload_n 0) 1 27 := ⟨zd zq_0 (by decide +kernel), rfl⟩
theorem iX0_get_27 : xl_G mX0_get 27 0 2 30 := ⟨22, zd zq_18 (by decide +kernel), rfl, fX0_22⟩
theorem iX0_get_30 : xl_D mX0_get 30 (.iload_n 1) 1 31 := ⟨zd zq_3 (by decide +kernel), rfl⟩
theorem iX0_get_31 : xl_D mX0_get 31 (.aload_n 0) 1 32 := ⟨zd zq_0 (by decide +kernel), rfl⟩
theorem iX0_get_32 : xl_G mX0_get 32 0 1 35 := ⟨19, zd zq_9 (by decide +kernel), rfl, fX0_19⟩
theorem iX0_get_35 : xl_D mX0_get 35 (.imul) 1 36 := ⟨zd zq_10 (by decide +kernel), rfl⟩
theorem iX0_get_36 : xl_D mX0_get 36 (.iload_n 2) 1 37 := ⟨zd zq_6 (by decide +kernel), rfl⟩
theorem iX0_get_37 : xl_D mX0_get 37 (.iadd) 1 38 := ⟨zd zq_19 (by decide +kernel), rfl⟩
theorem iX0_get_38 : xl_D mX0_get 38 (.iaload) 1 39 := ⟨zd zq_20 (by decide +kernel), rfl⟩
theorem iX0_get_39 : xl_D mX0_get 39 (.ireturn) 1 40 := ⟨zd zq_17 (by decide +kernel), rfl⟩
theorem iX0_set_0 : xl_D mX0_set 0 (.iload_n 1) 1 1 := ⟨zd zq_3 (by decide +kernel), rfl⟩
theorem iX0_set_1 : xl_J mX0_set 1 (fun o => .ifCond .lt o) 4 38 := ⟨37, zd zq_21 (by decide +kernel), rfl, rfl⟩
theorem iX0_set_4 : xl_D mX0_set 4 (.iload_n 1) 1 5 := ⟨zd zq_3 (by decide +kernel), rfl⟩
theorem iX0_set_5 : xl_D mX0_set 5 (.aload_n 0) 1 6 := ⟨zd zq_0 (by decide +kernel), rfl⟩
theorem iX0_set_6 : xl_G mX0_set 6 0 0 9 := ⟨13, zd zq_8 (by decide +kernel), rfl, fX0_13⟩
theorem iX0_set_9 : xl_J mX0_set 9 (fun o => .if_icmp .ge o) 12 38 := ⟨29, zd zq_22 (by decide +kernel), rfl, rfl⟩
theorem iX0_set_12 : xl_D mX0_set 12 (.iload_n 2) 1 13 := ⟨zd zq_6 (by decide +kernel), rfl⟩
theorem iX0_set_13 : xl_J mX0_set 13 (fun o => .ifCond .lt o) 16 38 := ⟨25, zd zq_23 (by decide +kernel), rfl, rfl⟩
theorem iX0_set_16 : xl_D mX0_set 16 (.iload_n 2) 1 17 := ⟨zd zq_6 (by decide +kernel), rfl⟩
theorem iX0_set_17 : xl_D mX0_set 17 (.aload_n 0) 1 18 := ⟨zd zq_0 (by decide +kernel), rfl⟩
theorem iX0_set_18 : xl_G mX0_set 18 0 1 21 := ⟨19, zd zq_9 (by decide +kernel), rfl, fX0_19⟩
theorem iX0_set_21 : xl_J mX0_set 21 (fun o => .if_icmp .ge o) 24 38 := ⟨17, zd zq_24 (by decide +kernel), rfl, rfl⟩
theorem iX0_set_24 : xl_D mX0_set 24 (.aload_n 0) 1 25 := ⟨zd zq_0 (by decide +kernel), rfl⟩
theorem iX0_set_25 : xl_G mX0_set 25 0 2 28 := ⟨22, zd zq_18 (by decide +kernel), rfl, fX0_22⟩
theorem iX0_set_28 : xl_D mX0_set 28 (.iload_n 1) 1 29 := ⟨zd zq_3 (by decide +kernel), rfl⟩
theorem iX0_set_29 : xl_D mX0_set 29 (.aload_n 0) 1 30 := ⟨zd zq_0 (by decide +kernel), rfl⟩
theorem iX0_set_30 : xl_G mX0_set 30 0 1 33 := ⟨19, zd zq_9 (by decide +kernel), rfl, fX0_19⟩
theorem iX0_set_33 : xl_D mX0_set 33 (.imul) 1 34 := ⟨zd zq_10 (by decide +kernel), rfl⟩
theorem iX0_set_34 : xl_D mX0_set 34 (.iload_n 2) 1 35 := ⟨zd zq_6 (by decide +kernel), rfl⟩
theorem iX0_set_35 : xl_D mX0_set 35 (.iadd) 1 36 := ⟨zd zq_19 (by decide +kernel), rfl⟩
theorem iX0_set_36 : xl_D mX0_set 36 (.iload_n 3) 1 37 := ⟨zd zq_25 (by decide +kernel), rfl⟩
theorem iX0_set_37 : xl_D mX0_set 37 (.iastore) 1 38 := ⟨zd zq_26 (by decide +kernel), rfl⟩
theorem iX0_set_38 : xl_D mX0_set 38 (.return_) 1 39 := ⟨zd zq_12 (by decide +kernel), rfl⟩
theorem iX0_add_0 : xl_D mX0_add 0 (.iload_n 1) 1 1 := ⟨zd zq_3 (by decide +kernel), rfl⟩
theorem iX0_add_1 : xl_J mX0_add 1 (fun o => .ifCond .lt o) 4 41 := ⟨40, zd zq_27 (by decide +kernel), rfl, rfl⟩
theorem iX0_add_4 : xl_D mX0_add 4 (.iload_n 1) 1 5 := ⟨zd zq_3 (by decide +kernel), rfl⟩
theorem iX0_add_5 : xl_D mX0_add 5 (.aload_n 0) 1 6 := ⟨zd zq_0 (by decide +kernel), rfl⟩
theorem iX0_add_6 : xl_G mX0_add 6 0 0 9 := ⟨13, zd zq_8 (by decide +kernel), rfl, fX0_13⟩
theorem iX0_add_9 : xl_J mX0_add 9 (fun o => .if_icmp .ge o) 12 41 := ⟨32, zd zq_28 (by decide +kernel), rfl, rfl⟩
theorem iX0_add_12 : xl_D mX0_add 12 (.iload_n 2) 1 13 := ⟨zd zq_6 (by decide +kernel), rfl⟩
theorem iX0_add_13 : xl_J mX0_add 13 (fun o => .ifCond .lt o) 16 41 := ⟨28, zd zq_29 (by decide +kernel), rfl, rfl⟩
theorem iX0_add_16 : xl_D mX0_add 16 (.iload_n 2) 1 17 := ⟨zd zq_6 (by decide +kernel), rfl⟩
theorem iX0_add_17 : xl_D mX0_add 17 (.aload_n 0) 1 18 := ⟨zd zq_0 (by decide +kernel), rfl⟩
theorem iX0_add_18 : xl_G mX0_add 18 0 1 21 := ⟨19, zd zq_9 (by decide +kernel), rfl, fX0_19⟩
theorem iX0_add_21 : xl_J mX0_add 21 (fun o => .if_icmp .ge o) 24 41 := ⟨20, zd zq_30 (by decide +kernel), rfl, rfl⟩
theorem iX0_add_24 : xl_D mX0_add 24 (.aload_n 0) 1 25 := ⟨zd zq_0 (by decide +kernel), rfl⟩
theorem iX0_add_25 : xl_G mX0_add 25 0 2 28 := ⟨22, zd zq_18 (by decide +kernel), rfl, fX0_22⟩
theorem iX0_add_28 : xl_D mX0_add 28 (.iload_n 1) 1 29 := ⟨zd zq_3 (by decide +kernel), rfl⟩
theorem iX0_add_29 : xl_D mX0_add 29 (.aload_n 0) 1 30 := ⟨zd zq_0 (by decide +kernel), rfl⟩
theorem iX0_add_30 : xl_G mX0_add 30 0 1 33 := ⟨19, zd zq_9 (by decide +kernel), rfl, fX0_19⟩
theorem iX0_add_33 : xl_D mX0_add 33 (.imul) 1 34 := ⟨zd zq_10 (by decide +kernel), rfl⟩
theorem iX0_add_34 : xl_D mX0_add 34 (.iload_n 2) 1 35 := ⟨zd zq_6 (by decide +kernel), rfl⟩
theorem iX0_add_35 : xl_D mX0_add 35 (.iadd) 1 36 := ⟨zd zq_19 (by decide +kernel), rfl⟩
theorem iX0_add_36 : xl_D mX0_add 36 (.dup2) 1 37 := ⟨zd zq_31 (by decide +kernel), rfl⟩
theorem iX0_add_37 : xl_D mX0_add 37 (.iaload) 1 38 := ⟨zd zq_20 (by decide +kernel), rfl⟩
theorem iX0_add_38 : xl_D mX0_add 38 (.iload_n 3) 1 39 := ⟨zd zq_25 (by decide +kernel), rfl⟩
theorem iX0_add_39 : xl_D mX0_add 39 (.iadd) 1 40 := ⟨zd zq_19 (by decide +kernel), rfl⟩
theorem iX0_add_40 : xl_D mX0_add 40 (.iastore) 1 41 := ⟨zd zq_26 (by decide +kernel), rfl⟩
theorem iX0_add_41 : xl_D mX0_add 41 (.return_) 1 42 := ⟨zd zq_12 (by decide +kernel), rfl⟩
theorem iX0_clear_0 : xl_D mX0_clear 0 (.aload_n 0) 1 1 := ⟨zd zq_0 (by decide +kernel), rfl⟩
theorem iX0_clear_1 : xl_D mX0_clear 1 (.iconst 0) 1 2 := ⟨zd zq_2 (by decide +kernel), rfl⟩
theorem iX0_clear_2 : xl_P mX0_clear 2 0 3 .int 5 := ⟨26, zd zq_32 (by decide +kernel), rfl, wX0_26⟩
theorem iX0_clear_5 : xl_D mX0_clear 5 (.return_) 1 6 := ⟨zd zq_12 (by decide +kernel), rfl⟩
theorem iX0_reach_0 : xl_D mX0_reach 0 (.iload_n 1) 1 1 := ⟨zd zq_3 (by decide +kernel), rfl⟩
theorem iX0_reach_1 : xl_D mX0_reach 1 (.aload_n 0) 1 2 := ⟨zd zq_0 (by decide +kernel), rfl⟩
theorem iX0_reach_2 : xl_G mX0_reach 2 0 3 5 := ⟨26, zd zq_33 (by decide +kernel), rfl, fX0_26⟩
theorem iX0_reach_5 : xl_J mX0_reach 5 (fun o => .if_icmp .lt o) 8 23 := ⟨18, zd zq_34 (by decide +kernel), rfl, rfl⟩
theorem iX0_reach_8 : xl_D mX0_reach 8 (.iload_n 1) 1 9 := ⟨zd zq_3 (by decide +kernel), rfl⟩
theorem iX0_reach_9 : xl_D mX0_reach 9 (.aload_n 0) 1 10 := ⟨zd zq_0 (by decide +kernel), rfl⟩
theorem iX0_reach_10 : xl_G mX0_reach 10 0 0 13 := ⟨13, zd zq_8 (by decide +kernel), rfl, fX0_13⟩
theorem iX0_reach_13 : xl_J mX0_reach 13 (fun o => .if_icmp .ge o) 16 23 := ⟨10, zd zq_35 (by decide +kernel), rfl, rfl⟩
theorem iX0_reach_16 : xl_D mX0_reach 16 (.aload_n 0) 1 17 := ⟨zd zq_0 (by decide +kernel), rfl⟩
theorem iX0_reach_17 : xl_D mX0_reach 17 (.iload_n 1) 1 18 := ⟨zd zq_3 (by decide +kernel), rfl⟩
theorem iX0_reach_18 : xl_D mX0_reach 18 (.iconst 1) 1 19 := ⟨zd zq_36 (by decide +kernel), rfl⟩
theorem iX0_reach_19 : xl_D mX0_reach 19 (.iadd) 1 20 := ⟨zd zq_19 (by decide +kernel), rfl⟩
theorem iX0_reach_20 : xl_P mX0_reach 20 0 3 .int 23 := ⟨26, zd zq_32 (by decide +kernel), rfl, wX0_26⟩
theorem iX0_reach_23 : xl_D mX0_reach 23 (.return_) 1 24 := ⟨zd zq_12 (by decide +kernel), rfl⟩
theorem iX0_open_0 : xl_D mX0_open 0 (.iload_n 1) 1 1 := ⟨zd zq_3 (by decide +kernel), rfl⟩
theorem iX0_open_1 : xl_J mX0_open 1 (fun o => .ifCond .lt o) 4 23 := ⟨22, zd zq_37 (by decide +kernel), rfl, rfl⟩
theorem iX0_open_4 : xl_D mX0_open 4 (.iload_n 1) 1 5 := ⟨zd zq_3 (by decide +kernel), rfl⟩
theorem iX0_open_5 : xl_D mX0_open 5 (.aload_n 0) 1 6 := ⟨zd zq_0 (by decide +kernel), rfl⟩
theorem iX0_open_6 : xl_G mX0_open 6 0 3 9 := ⟨26, zd zq_33 (by decide +kernel), rfl, fX0_26⟩
theorem iX0_open_9 : xl_J mX0_open 9 (fun o => .if_icmp .gt o) 12 23 := ⟨14, zd zq_38 (by decide +kernel), rfl, rfl⟩
theorem iX0_open_12 : xl_D mX0_open 12 (.aload_n 0) 1 13 := ⟨zd zq_0 (by decide +kernel), rfl⟩
theorem iX0_open_13 : xl_G mX0_open 13 0 3 16 := ⟨26, zd zq_33 (by decide +kernel), rfl, fX0_26⟩
theorem iX0_open_16 : xl_D mX0_open 16 (.aload_n 0) 1 17 := ⟨zd zq_0 (by decide +kernel), rfl⟩
theorem iX0_open_17 : xl_G mX0_open 17 0 0 20 := ⟨13, zd zq_8 (by decide +kernel), rfl, fX0_13⟩
theorem iX0_open_20 : xl_J mX0_open 20 (fun o => .if_icmp .lt o) 23 25 := ⟨5, zd zq_16 (by decide +kernel), rfl, rfl⟩
theorem iX0_open_23 : xl_D mX0_open 23 (.iconst 0) 1 24 := ⟨zd zq_2 (by decide +kernel), rfl⟩
theorem iX0_open_24 : xl_D mX0_open 24 (.ireturn) 1 25 := ⟨zd zq_17 (by decide +kernel), rfl⟩
theorem iX0_open_25 : xl_D mX0_open 25 (.aload_n 0) 1 26 := ⟨zd zq_0 (by decide +kernel), rfl⟩
theorem iX0_open_26 : xl_G mX0_open 26 0 2 29 := ⟨22, zd zq_18 (by decide +kernel), rfl, fX0_22⟩
theorem iX0_open_29 : xl_D mX0_open 29 (.iload_n 1) 1 30 := ⟨zd zq_3 (by decide +kernel), rfl⟩
theorem iX0_open_30 : xl_D mX0_open 30 (.aload_n 0) 1 31 := ⟨zd zq_0 (by decide +kernel), rfl⟩
theorem iX0_open_31 : xl_G mX0_open 31 0 1 34 := ⟨19, zd zq_9 (by decide +kernel), rfl, fX0_19⟩
theorem iX0_open_34 : xl_D mX0_open 34 (.imul) 1 35 := ⟨zd zq_10 (by decide +kernel), rfl⟩
theorem iX0_open_35 : xl_D mX0_open 35 (.aload_n 0) 1 36 := ⟨zd zq_0 (by decide +kernel), rfl⟩
theorem iX0_open_36 : xl_G mX0_open 36 0 2 39 := ⟨22, zd zq_18 (by decide +kernel), rfl, fX0_22⟩
theorem iX0_open_39 : xl_D mX0_open 39 (.iload_n 1) 1 40 := ⟨zd zq_3 (by decide +kernel), rfl⟩
theorem iX0_open_40 : xl_D mX0_open 40 (.iconst 1) 1 41 := ⟨zd zq_36 (by decide +kernel), rfl⟩
theorem iX0_open_41 : xl_D mX0_open 41 (.iadd) 1 42 := ⟨zd zq_19 (by decide +kernel), rfl⟩
theorem iX0_open_42 : xl_D mX0_open 42 (.aload_n 0) 1 43 := ⟨zd zq_0 (by decide +kernel), rfl⟩
theorem iX0_open_43 : xl_G mX0_open 43 0 1 46 := ⟨19, zd zq_9 (by decide +kernel), rfl, fX0_19⟩
theorem iX0_open_46 : xl_D mX0_open 46 (.imul) 1 47 := ⟨zd zq_10 (by decide +kernel), rfl⟩
theorem iX0_open_47 : xl_D mX0_open 47 (.aload_n 0) 1 48 := ⟨zd zq_0 (by decide +kernel), rfl⟩
theorem iX0_open_48 : xl_G mX0_open 48 0 3 51 := ⟨26, zd zq_33 (by decide +kernel), rfl, fX0_26⟩
theorem iX0_open_51 : xl_D mX0_open 51 (.iload_n 1) 1 52 := ⟨zd zq_3 (by decide +kernel), rfl⟩
theorem iX0_open_52 : xl_D mX0_open 52 (.isub) 1 53 := ⟨zd zq_39 (by decide +kernel), rfl⟩
theorem iX0_open_53 : xl_D mX0_open 53 (.aload_n 0) 1 54 := ⟨zd zq_0 (by decide +kernel), rfl⟩
theorem iX0_open_54 : xl_G mX0_open 54 0 1 57 := ⟨19, zd zq_9 (by decide +kernel), rfl, fX0_19⟩
theorem iX0_open_57 : xl_D mX0_open 57 (.imul) 1 58 := ⟨zd zq_10 (by decide +kernel), rfl⟩
theorem iX0_open_58 : xl_Cy mX0_open 58 61 := ⟨29, zd zq_40 (by decide +kernel), rfl, lX0_29, xl_acn, xl_acs, xl_iSystem, Nat.le_of_ble_eq_true rfl, Nat.le_of_ble_eq_true rfl⟩
theorem iX0_open_61 : xl_D mX0_open 61 (.iconst 0) 1 62 := ⟨zd zq_2 (by decide +kernel), rfl⟩
theorem iX0_open_62 : xl_D mX0_open 62 (.istore_n 2) 1 63 := ⟨zd zq_41 (by decide +kernel), rfl⟩
theorem iX0_open_63 : xl_D mX0_open 63 (.iload_n 2) 1 64 := ⟨zd zq_6 (by decide +kernel), rfl⟩
theorem iX0_open_64 : xl_D mX0_open 64 (.aload_n 0) 1 65 := ⟨zd zq_0 (by decide +kernel), rfl⟩
theorem iX0_open_65 : xl_G mX0_open 65 0 1 68 := ⟨19, zd zq_9 (by decide +kernel), rfl, fX0_19⟩
theorem iX0_open_68 : xl_J mX0_open 68 (fun o => .if_icmp .ge o) 71 84 := ⟨16, zd zq_42 (by decide +kernel), rfl, rfl⟩
theorem iX0_open_71 : xl_D mX0_open 71 (.aload_n 0) 1 72 := ⟨zd zq_0 (by decide +kernel), rfl⟩
theorem iX0_open_72 : xl_D mX0_open 72 (.iload_n 1) 1 73 := ⟨zd zq_3 (by decide +kernel), rfl⟩
theorem iX0_open_73 : xl_D mX0_open 73 (.iload_n 2) 1 74 := ⟨zd zq_6 (by decide +kernel), rfl⟩
theorem iX0_open_74 : xl_D mX0_open 74 (.iconst 0) 1 75 := ⟨zd zq_2 (by decide +kernel), rfl⟩
theorem iX0_open_75 : xl_Ca mX0_open 75 mX0_set 78 := ⟨35, zd zq_43 (by decide +kernel), rfl, lX0_35, Nat.le_of_ble_eq_true rfl, Nat.le_of_ble_eq_true rfl⟩
theorem iX0_open_78 : xl_D mX0_open 78 (.iinc 2 1) 3 81 := ⟨zd zq_44 (by decide +kernel), rfl⟩
theorem iX0_open_81 : xl_J mX0_open 81 (fun o => .goto o) 84 63 := ⟨-18, zd zq_45 (by decide +kernel), rfl, rfl⟩
theorem iX0_open_84 : xl_D mX0_open 84 (.aload_n 0) 1 85 := ⟨zd zq_0 (by decide +kernel), rfl⟩
theorem iX0_open_85 : xl_D mX0_open 85 (.dup) 1 86 := ⟨zd zq_46 (by decide +kernel), rfl⟩
theorem iX0_open_86 : xl_G mX0_open 86 0 3 89 := ⟨26, zd zq_33 (by decide +kernel), rfl, fX0_26⟩
theorem iX0_open_89 : xl_D mX0_open 89 (.iconst 1) 1 90 := ⟨zd zq_36 (by decide +kernel), rfl⟩
theorem iX0_open_90 : xl_D mX0_open 90 (.iadd) 1 91 := ⟨zd zq_19 (by decide +kernel), rfl⟩
theorem iX0_open_91 : xl_P mX0_open 91 0 3 .int 94 := ⟨26, zd zq_32 (by decide +kernel), rfl, wX0_26⟩
theorem iX0_open_94 : xl_D mX0_open 94 (.iconst 1) 1 95 := ⟨zd zq_36 (by decide +kernel), rfl⟩
theorem iX0_open_95 : xl_D mX0_open 95 (.ireturn) 1 96 := ⟨zd zq_17 (by decide +kernel), rfl⟩
theorem iX0_drop_0 : xl_D mX0_drop 0 (.iload_n 1) 1 1 := ⟨zd zq_3 (by decide +kernel), rfl⟩
theorem iX0_drop_1 : xl_J mX0_drop 1 (fun o => .ifCond .lt o) 4 12 := ⟨11, zd zq_15 (by decide +kernel), rfl, rfl⟩
theorem iX0_drop_4 : xl_D mX0_drop 4 (.iload_n 1) 1 5 := ⟨zd zq_3 (by decide +kernel), rfl⟩
theorem iX0_drop_5 : xl_D mX0_drop 5 (.aload_n 0) 1 6 := ⟨zd zq_0 (by decide +kernel), rfl⟩
theorem iX0_drop_6 : xl_G mX0_drop 6 0 3 9 := ⟨26, zd zq_33 (by decide +kernel), rfl, fX0_26⟩
theorem iX0_drop_9 : xl_J mX0_drop 9 (fun o => .if_icmp .lt o) 12 13 := ⟨4, zd zq_47 (by decide +kernel), rfl, rfl⟩
theorem iX0_drop_12 : xl_D mX0_drop 12 (.return_) 1 13 := ⟨zd zq_12 (by decide +kernel), rfl⟩
theorem iX0_drop_13 : xl_D mX0_drop 13 (.aload_n 0) 1 14 := ⟨zd zq_0 (by decide +kernel), rfl⟩
theorem iX0_drop_14 : xl_G mX0_drop 14 0 2 17 := ⟨22, zd zq_18 (by decide +kernel), rfl, fX0_22⟩
theorem iX0_drop_17 : xl_D mX0_drop 17 (.iload_n 1) 1 18 := ⟨zd zq_3 (by decide +kernel), rfl⟩
theorem iX0_drop_18 : xl_D mX0_drop 18 (.iconst 1) 1 19 := ⟨zd zq_36 (by decide +kernel), rfl⟩
theorem iX0_drop_19 : xl_D mX0_drop 19 (.iadd) 1 20 := ⟨zd zq_19 (by decide +kernel), rfl⟩
theorem iX0_drop_20 : xl_D mX0_drop 20 (.aload_n 0) 1 21 := ⟨zd zq_0 (by decide +kernel), rfl⟩
theorem iX0_drop_21 : xl_G mX0_drop 21 0 1 24 := ⟨19, zd zq_9 (by decide +kernel), rfl, fX0_19⟩
theorem iX0_drop_24 : xl_D mX0_drop 24 (.imul) 1 25 := ⟨zd zq_10 (by decide +kernel), rfl⟩
theorem iX0_drop_25 : xl_D mX0_drop 25 (.aload_n 0) 1 26 := ⟨zd zq_0 (by decide +kernel), rfl⟩
theorem iX0_drop_26 : xl_G mX0_drop 26 0 2 29 := ⟨22, zd zq_18 (by decide +kernel), rfl, fX0_22⟩
theorem iX0_drop_29 : xl_D mX0_drop 29 (.iload_n 1) 1 30 := ⟨zd zq_3 (by decide +kernel), rfl⟩
theorem iX0_drop_30 : xl_D mX0_drop 30 (.aload_n 0) 1 31 := ⟨zd zq_0 (by decide +kernel), rfl⟩
theorem iX0_drop_31 : xl_G mX0_drop 31 0 1 34 := ⟨19, zd zq_9 (by decide +kernel), rfl, fX0_19⟩
theorem iX0_drop_34 : xl_D mX0_drop 34 (.imul) 1 35 := ⟨zd zq_10 (by decide +kernel), rfl⟩
theorem iX0_drop_35 : xl_D mX0_drop 35 (.aload_n 0) 1 36 := ⟨zd zq_0 (by decide +kernel), rfl⟩
theorem iX0_drop_36 : xl_G mX0_drop 36 0 3 39 := ⟨26, zd zq_33 (by decide +kernel), rfl, fX0_26⟩
theorem iX0_drop_39 : xl_D mX0_drop 39 (.iload_n 1) 1 40 := ⟨zd zq_3 (by decide +kernel), rfl⟩
theorem iX0_drop_40 : xl_D mX0_drop 40 (.isub) 1 41 := ⟨zd zq_39 (by decide +kernel), rfl⟩
theorem iX0_drop_41 : xl_D mX0_drop 41 (.iconst 1) 1 42 := ⟨zd zq_36 (by decide +kernel), rfl⟩
theorem iX0_drop_42 : xl_D mX0_drop 42 (.isub) 1 43 := ⟨zd zq_39 (by decide +kernel), rfl⟩
theorem iX0_drop_43 : xl_D mX0_drop 43 (.aload_n 0) 1 44 := ⟨zd zq_0 (by decide +kernel), rfl⟩
theorem iX0_drop_44 : xl_G mX0_drop 44 0 1 47 := ⟨19, zd zq_9 (by decide +kernel), rfl, fX0_19⟩
theorem iX0_drop_47 : xl_D mX0_drop 47 (.imul) 1 48 := ⟨zd zq_10 (by decide +kernel), rfl⟩
theorem iX0_drop_48 : xl_Cy mX0_drop 48 51 := ⟨29, zd zq_40 (by decide +kernel), rfl, lX0_29, xl_acn, xl_acs, xl_iSystem, Nat.le_of_ble_eq_true rfl, Nat.le_of_ble_eq_true rfl⟩
theorem iX0_drop_51 : xl_D mX0_drop 51 (.aload_n 0) 1 52 := ⟨zd zq_0 (by decide +kernel), rfl⟩
theorem iX0_drop_52 : xl_D mX0_drop 52 (.dup) 1 53 := ⟨zd zq_46 (by decide +kernel), rfl⟩
theorem iX0_drop_53 : xl_G mX0_drop 53 0 3 56 := ⟨26, zd zq_33 (by decide +kernel), rfl, fX0_26⟩
theorem iX0_drop_56 : xl_D mX0_drop 56 (.iconst 1) 1 57 := ⟨zd zq_36 (by decide +kernel), rfl⟩
theorem iX0_drop_57 : xl_D mX0_drop 57 (.isub) 1 58 := ⟨zd zq_39 (by decide +kernel), rfl⟩
theorem iX0_drop_58 : xl_P mX0_drop 58 0 3 .int 61 := ⟨26, zd zq_32 (by decide +kernel), rfl, wX0_26⟩
theorem iX0_drop_61 : xl_D mX0_drop 61 (.return_) 1 62 := ⟨zd zq_12 (by decide +kernel), rfl⟩
theorem iX0_copyRow_0 : xl_D mX0_copyRow 0 (.aload_n 2) 1 1 := ⟨zd zq_48 (by decide +kernel), rfl⟩
theorem iX0_copyRow_1 : xl_J mX0_copyRow 1 (fun o => .ifnonnull o) 4 5 := ⟨4, zd zq_49 (by decide +kernel), rfl, rfl⟩
theorem iX0_copyRow_4 : xl_D mX0_copyRow 4 (.return_) 1 5 := ⟨zd zq_12 (by decide +kernel), rfl⟩
theorem iX0_copyRow_5 : xl_D mX0_copyRow 5 (.iconst 0) 1 6 := ⟨zd zq_2 (by decide +kernel), rfl⟩
theorem iX0_copyRow_6 : xl_D mX0_copyRow 6 (.istore 4) 2 8 := ⟨zd zq_50 (by decide +kernel), rfl⟩
theorem iX0_copyRow_8 : xl_D mX0_copyRow 8 (.iload 4) 2 10 := ⟨zd zq_51 (by decide +kernel), rfl⟩
theorem iX0_copyRow_10 : xl_D mX0_copyRow 10 (.aload_n 0) 1 11 := ⟨zd zq_0 (by decide +kernel), rfl⟩
theorem iX0_copyRow_11 : xl_G mX0_copyRow 11 0 1 14 := ⟨19, zd zq_9 (by decide +kernel), rfl, fX0_19⟩
theorem iX0_copyRow_14 : xl_J mX0_copyRow 14 (fun o => .if_icmp .ge o) 17 37 := ⟨23, zd zq_52 (by decide +kernel), rfl, rfl⟩
theorem iX0_copyRow_17 : xl_D mX0_copyRow 17 (.aload_n 0) 1 18 := ⟨zd zq_0 (by decide +kernel), rfl⟩
theorem iX0_copyRow_18 : xl_D mX0_copyRow 18 (.iload_n 1) 1 19 := ⟨zd zq_3 (by decide +kernel), rfl⟩
theorem iX0_copyRow_19 : xl_D mX0_copyRow 19 (.iload 4) 2 21 := ⟨zd zq_51 (by decide +kernel), rfl⟩
theorem iX0_copyRow_21 : xl_D mX0_copyRow 21 (.aload_n 2) 1 22 := ⟨zd zq_48 (by decide +kernel), rfl⟩
theorem iX0_copyRow_22 : xl_D mX0_copyRow 22 (.iload_n 3) 1 23 := ⟨zd zq_25 (by decide +kernel), rfl⟩
theorem iX0_copyRow_23 : xl_D mX0_copyRow 23 (.iload 4) 2 25 := ⟨zd zq_51 (by decide +kernel), rfl⟩
theorem iX0_copyRow_25 : xl_Ca mX0_copyRow 25 mX0_get 28 := ⟨39, zd zq_53 (by decide +kernel), rfl, lX0_39, Nat.le_of_ble_eq_true rfl, Nat.le_of_ble_eq_true rfl⟩
theorem iX0_copyRow_28 : xl_Ca mX0_copyRow 28 mX0_set 31 := ⟨35, zd zq_43 (by decide +kernel), rfl, lX0_35, Nat.le_of_ble_eq_true rfl, Nat.le_of_ble_eq_true rfl⟩
theorem iX0_copyRow_31 : xl_D mX0_copyRow 31 (.iinc 4 1) 3 34 := ⟨zd zq_54 (by decide +kernel), rfl⟩
theorem iX0_copyRow_34 : xl_J mX0_copyRow 34 (fun o => .goto o) 37 8 := ⟨-26, zd zq_55 (by decide +kernel), rfl, rfl⟩
theorem iX0_copyRow_37 : xl_D mX0_copyRow 37 (.return_) 1 38 := ⟨zd zq_12 (by decide +kernel), rfl⟩
theorem iX0_copyFrom_0 : xl_D mX0_copyFrom 0 (.aload_n 1) 1 1 := ⟨zd zq_56 (by decide +kernel), rfl⟩
theorem iX0_copyFrom_1 : xl_J mX0_copyFrom 1 (fun o => .ifnull o) 4 17 := ⟨16, zd zq_57 (by decide +kernel), rfl, rfl⟩
theorem iX0_copyFrom_4 : xl_D mX0_copyFrom 4 (.aload_n 1) 1 5 := ⟨zd zq_56 (by decide +kernel), rfl⟩
theorem iX0_copyFrom_5 : xl_G mX0_copyFrom 5 0 2 8 := ⟨22, zd zq_18 (by decide +kernel), rfl, fX0_22⟩
theorem iX0_copyFrom_8 : xl_D mX0_copyFrom 8 (.arraylength) 1 9 := ⟨zd zq_58 (by decide +kernel), rfl⟩
theorem iX0_copyFrom_9 : xl_D mX0_copyFrom 9 (.aload_n 0) 1 10 := ⟨zd zq_0 (by decide +kernel), rfl⟩
theorem iX0_copyFrom_10 : xl_G mX0_copyFrom 10 0 2 13 := ⟨22, zd zq_18 (by decide +kernel), rfl, fX0_22⟩
theorem iX0_copyFrom_13 : xl_D mX0_copyFrom 13 (.arraylength) 1 14 := ⟨zd zq_58 (by decide +kernel), rfl⟩
theorem iX0_copyFrom_14 : xl_J mX0_copyFrom 14 (fun o => .if_icmp .eq o) 17 18 := ⟨4, zd zq_59 (by decide +kernel), rfl, rfl⟩
theorem iX0_copyFrom_17 : xl_D mX0_copyFrom 17 (.return_) 1 18 := ⟨zd zq_12 (by decide +kernel), rfl⟩
theorem iX0_copyFrom_18 : xl_D mX0_copyFrom 18 (.aload_n 0) 1 19 := ⟨zd zq_0 (by decide +kernel), rfl⟩
theorem iX0_copyFrom_19 : xl_D mX0_copyFrom 19 (.aload_n 1) 1 20 := ⟨zd zq_56 (by decide +kernel), rfl⟩
theorem iX0_copyFrom_20 : xl_G mX0_copyFrom 20 0 3 23 := ⟨26, zd zq_33 (by decide +kernel), rfl, fX0_26⟩
theorem iX0_copyFrom_23 : xl_P mX0_copyFrom 23 0 3 .int 26 := ⟨26, zd zq_32 (by decide +kernel), rfl, wX0_26⟩
theorem iX0_copyFrom_26 : xl_D mX0_copyFrom 26 (.aload_n 1) 1 27 := ⟨zd zq_56 (by decide +kernel), rfl⟩
theorem iX0_copyFrom_27 : xl_G mX0_copyFrom 27 0 2 30 := ⟨22, zd zq_18 (by decide +kernel), rfl, fX0_22⟩
theorem iX0_copyFrom_30 : xl_D mX0_copyFrom 30 (.iconst 0) 1 31 := ⟨zd zq_2 (by decide +kernel), rfl⟩
theorem iX0_copyFrom_31 : xl_D mX0_copyFrom 31 (.aload_n 0) 1 32 := ⟨zd zq_0 (by decide +kernel), rfl⟩
theorem iX0_copyFrom_32 : xl_G mX0_copyFrom 32 0 2 35 := ⟨22, zd zq_18 (by decide +kernel), rfl, fX0_22⟩
theorem iX0_copyFrom_35 : xl_D mX0_copyFrom 35 (.iconst 0) 1 36 := ⟨zd zq_2 (by decide +kernel), rfl⟩
theorem iX0_copyFrom_36 : xl_D mX0_copyFrom 36 (.aload_n 0) 1 37 := ⟨zd zq_0 (by decide +kernel), rfl⟩
theorem iX0_copyFrom_37 : xl_G mX0_copyFrom 37 0 3 40 := ⟨26, zd zq_33 (by decide +kernel), rfl, fX0_26⟩
theorem iX0_copyFrom_40 : xl_D mX0_copyFrom 40 (.aload_n 0) 1 41 := ⟨zd zq_0 (by decide +kernel), rfl⟩
theorem iX0_copyFrom_41 : xl_G mX0_copyFrom 41 0 1 44 := ⟨19, zd zq_9 (by decide +kernel), rfl, fX0_19⟩
theorem iX0_copyFrom_44 : xl_D mX0_copyFrom 44 (.imul) 1 45 := ⟨zd zq_10 (by decide +kernel), rfl⟩
theorem iX0_copyFrom_45 : xl_D mX0_copyFrom 45 (.aload_n 0) 1 46 := ⟨zd zq_0 (by decide +kernel), rfl⟩
theorem iX0_copyFrom_46 : xl_G mX0_copyFrom 46 0 2 49 := ⟨22, zd zq_18 (by decide +kernel), rfl, fX0_22⟩
theorem iX0_copyFrom_49 : xl_D mX0_copyFrom 49 (.arraylength) 1 50 := ⟨zd zq_58 (by decide +kernel), rfl⟩
theorem iX0_copyFrom_50 : xl_Cm mX0_copyFrom 50 Lib.Math.min.name Lib.Math.min.code 53 := ⟨42, zd zq_60 (by decide +kernel), rfl, lX0_42, xl_stmin, xl_iMath, xl_comin, Nat.le_of_ble_eq_true rfl, Nat.le_of_ble_eq_true rfl⟩
theorem iX0_copyFrom_53 : xl_Cy mX0_copyFrom 53 56 := ⟨29, zd zq_40 (by decide +kernel), rfl, lX0_29, xl_acn, xl_acs, xl_iSystem, Nat.le_of_ble_eq_true rfl, Nat.le_of_ble_eq_true rfl⟩
theorem iX0_copyFrom_56 : xl_D mX0_copyFrom 56 (.return_) 1 57 := ⟨zd zq_12 (by decide +kernel), rfl⟩
theorem iJ7_fill_53178_0 : xl_D mJ7_fill_53178 0 (.iconst 0) 1 1 := ⟨zd zq_2 (by decide +kernel), rfl⟩
theorem iJ7_fill_53178_1 : xl_D mJ7_fill_53178 1 (.istore_n 2) 1 2 := ⟨zd zq_41 (by decide +kernel), rfl⟩
theorem iJ7_fill_53178_2 : xl_D mJ7_fill_53178 2 (.aload_n 0) 1 3 := ⟨zd zq_0 (by decide +kernel), rfl⟩
theorem iJ7_fill_53178_3 : xl_D mJ7_fill_53178 3 (.arraylength) 1 4 := ⟨zd zq_58 (by decide +kernel), rfl⟩
theorem iJ7_fill_53178_4 : xl_D mJ7_fill_53178 4 (.istore_n 3) 1 5 := ⟨zd zq_131 (by decide +kernel), rfl⟩
theorem iJ7_fill_53178_5 : xl_D mJ7_fill_53178 5 (.iload_n 2) 1 6 := ⟨zd zq_6 (by decide +kernel), rfl⟩
theorem iJ7_fill_53178_6 : xl_D mJ7_fill_53178 6 (.iload_n 3) 1 7 := ⟨zd zq_25 (by decide +kernel), rfl⟩
theorem iJ7_fill_53178_7 : xl_J mJ7_fill_53178 7 (fun o => .if_icmp .ge o) 10 20 := ⟨13, zd zq_288 (by decide +kernel), rfl, rfl⟩
theorem iJ7_fill_53178_10 : xl_D mJ7_fill_53178 10 (.aload_n 0) 1 11 := ⟨zd zq_0 (by decide +kernel), rfl⟩
theorem iJ7_fill_53178_11 : xl_D mJ7_fill_53178 11 (.iload_n 2) 1 12 := ⟨zd zq_6 (by decide +kernel), rfl⟩
theorem iJ7_fill_53178_12 : xl_D mJ7_fill_53178 12 (.iload_n 1) 1 13 := ⟨zd zq_3 (by decide +kernel), rfl⟩
theorem iJ7_fill_53178_13 : xl_D mJ7_fill_53178 13 (.iastore) 1 14 := ⟨zd zq_26 (by decide +kernel), rfl⟩
theorem iJ7_fill_53178_14 : xl_D mJ7_fill_53178 14 (.iinc 2 1) 3 17 := ⟨zd zq_44 (by decide +kernel), rfl⟩
theorem iJ7_fill_53178_17 : xl_J mJ7_fill_53178 17 (fun o => .goto o) 20 5 := ⟨-12, zd zq_745 (by decide +kernel), rfl, rfl⟩
theorem iJ7_fill_53178_20 : xl_D mJ7_fill_53178 20 (.return_) 1 21 := ⟨zd zq_12 (by decide +kernel), rfl⟩
end
-- 10.wx
section
/-! ===== ops: a block of code as a predicate transformer over plain data; whole numbers, a view of the cells (σ with enc) ===== -/
abbrev xB (z : Int) : Prop := -2147483648 ≤ z ∧ z ≤ 2147483647
abbrev PV : Type := Int ⊕ (Int ⊕ (Nat ⊕ Nat))
abbrev PL : Type := List (Option PV)
abbrev PS : Type := List PV
abbrev pI (z : Int) : PV := .inl z
abbrev pJ (z : Int) : PV := .inr (.inl z)
abbrev pR (r : Nat) : PV := .inr (.inr (.inl r))
abbrev pS (j : Nat) : PV := .inr (.inr (.inr j))
def pV : PV → Value := fun v => match v with
  | .inl z => .int (iI z)
  | .inr (.inl z) => .long (lI z)
  | .inr (.inr (.inl r)) => .ref r
  | .inr (.inr (.inr j)) => .float j.toUInt32
def eL (L : PL) : List (Option Value) := L.map (Option.map pV)
theorem eL_n (L : PL) (i : Nat) : xl_n (eL L) i = (xl_n L i).map (Option.map pV) := by
  rw [xl_n_eq, xl_n_eq, eL, List.getElem?_map]
theorem eL_s (L : PL) (i : Nat) (v : PV) : xl_s (eL L) i (some (pV v)) = eL (xl_s L i (some v)) := by
  rw [xl_s_eq, xl_s_eq, eL, eL, List.map_set]; rfl
theorem eL_at {L : PL} {i : Nat} {v : PV} (h : xl_n L i = some (some v)) : xl_n (eL L) i = some (some (pV v)) := by rw [eL_n, h]; rfl
/-- no value of two words ends at a place -/
def pk : PL → Nat → Bool
  | [], _ => true
  | _ :: _, 0 => true
  | a :: _, 1 => match a with
    | some (.inr (.inl _)) => false
    | _ => true
  | _ :: l, k + 2 => pk l (k + 1)
theorem pk_ok : ∀ (L : PL) (i : Nat), pk L i = true → xl_k (eL L) i = true
  | [], i, _ => by cases i <;> rfl
  | a :: l, 0, _ => rfl
  | a :: l, 1, h => by
    cases a with
    | none => rfl
    | some v => 
      rcases v with z | z | r | j
      · rfl
      · simp [pk] at h
      · rfl
      · rfl
  | a :: l, k + 2, h => pk_ok l (k + 1) h
/-- what is dead at a place is forgotten -/
def pm : List Bool → PL → PL
  | [], L => L
  | _, [] => []
  | true :: m, a :: l => a :: pm m l
  | false :: m, _ :: l => none :: pm m l
theorem pm_n : ∀ (m : List Bool) (L : PL) (i : Nat) (v : PV), xl_n (pm m L) i = some (some v) → xl_n L i = some (some v)
  | [], L, i, v, h => h
  | _ :: _, [], i, v, h => by simp [pm, xl_n] at h
  | true :: m, a :: l, 0, v, h => h
  | false :: m, a :: l, 0, v, h => by simp [pm, xl_n] at h
  | true :: m, a :: l, i + 1, v, h => pm_n m l i v h
  | false :: m, a :: l, i + 1, v, h => pm_n m l i v h
theorem xl_weak {M : XI} {rc rs pc : Nat} {L L' : List (Option Value)} {st : List Value} {h : XH} {Po : Option (Option Value) → XH → Prop} (hl : ∀ i v, xl_n L' i = some (some v) → xl_n L i = some (some v)) (k : xl_W M rc rs pc L' st h Po) : xl_W M rc rs pc L st h Po := by
  intro p l e R s m args below meth c D aC ρ σ aV A H locs cells slots ls Q hX hH hL h1 h2 hr ht
  exact k p l e R s m args below meth c D aC ρ σ aV A H locs cells slots ls Q hX hH ⟨hL.1, hL.2.1, fun i v hi => hL.2.2 i v (hl i v hi)⟩ h1 h2 hr ht
theorem pm_weak {M : XI} {rc rs pc : Nat} {m : List Bool} {L : PL} {st : List Value} {h : XH} {Po : Option (Option Value) → XH → Prop} (k : xl_W M rc rs pc (eL (pm m L)) st h Po) : xl_W M rc rs pc (eL L) st h Po := by
  refine xl_weak (fun i v hi => ?_) k
  rw [eL_n] at hi ⊢
  cases hx : xl_n (pm m L) i with
  | none => rw [hx] at hi; cases hi
  | some o =>
    cases o with
    | none => rw [hx] at hi; cases hi
    | some w => rw [hx] at hi; rw [pm_n m L i w hx]; exact hi
section WX
variable {σ : Type}
abbrev JP (σ : Type) : Type := Nat → PL → PS → σ → Prop
abbrev Blk (σ : Type) : Type := JP σ → PL → PS → σ → Prop
/-- a method's end, plainly -/
def wQ (enc : σ → XH) (bd : σ → Prop) (Po : PS → σ → Prop) (Pt : σ → Prop) : Option (Option Value) → XH → Prop := fun r h' => match r with
  | some v => ∃ (v' : PS) (s' : σ), v.toList = v'.map pV ∧ h' = enc s' ∧ bd s' ∧ (∀ a, v ≠ some (.ref a)) ∧ Po v' s'
  | none => ∃ s' : σ, h' = enc s' ∧ bd s' ∧ Pt s'
def wX (enc : σ → XH) (bd : σ → Prop) (M : XI) (rc rs : Nat) (Po : PS → σ → Prop) (Pt : σ → Prop) : JP σ := fun pc L st s =>
  bif Nat.beq pc 1000000 then Po st s else bif Nat.beq pc 1000001 then Pt s else (bd s → xl_W M rc rs pc (eL L) (st.map pV) (enc s) (wQ enc bd Po Pt))
def bOk (enc : σ → XH) (bd : σ → Prop) (M : XI) (rc rs pc : Nat) (B : Blk σ) : Prop :=
  ∀ Po Pt (J : JP σ), (∀ pc L st s, J pc L st s → wX enc bd M rc rs Po Pt pc L st s) → ∀ L st s, bd s → B J L st s → xl_W M rc rs pc (eL L) (st.map pV) (enc s) (wQ enc bd Po Pt)
/-- the blocks, one behind another, up to a cut -/
def pIn : List Nat → Nat → Bool
  | [], _ => false
  | a :: l, k => bif Nat.beq k a then true else pIn l k
def wp (T : Nat → Blk σ) (cut : List Nat) (J : JP σ) : Nat → JP σ
  | 0, pc, L, st, s => J pc L st s
  | n + 1, pc, L, st, s => bif Nat.ble 1000000 pc then J pc L st s else bif pIn cut pc then J pc L st s else T pc (wp T cut J n) L st s
variable {enc : σ → XH} {bd : σ → Prop} {M : XI} {rc rs pc pc2 tgt : Nat} {B : Blk σ}
theorem beqF {a b : Nat} (h : a < b) : Nat.beq a b = false := by
  cases e : Nat.beq a b with
  | false => rfl
  | true => have := Nat.eq_of_beq_eq_true e; omega
theorem wX_lt {Po : PS → σ → Prop} {Pt : σ → Prop} {L : PL} {st : PS} {s : σ} (h : tgt < 1000000) : wX enc bd M rc rs Po Pt tgt L st s = (bd s → xl_W M rc rs tgt (eL L) (st.map pV) (enc s) (wQ enc bd Po Pt)) := by
  unfold wX
  rw [beqF h, beqF (by omega)]
  rfl
end WX
end
-- 11.ops
section
/-! ===== the ops and why they hold ===== -/
def pw : PS → Nat
  | [] => 0
  | .inr (.inl _) :: l => 2 + pw l
  | _ :: l => 1 + pw l
theorem pw_ok : ∀ (st : PS), ((st.map pV).map fun v => if xl_1 v = true then 1 else 2).sum = pw st
  | [] => rfl
  | v :: l => by
    have ih := pw_ok l
    rcases v with z | z | r | j <;> simp only [List.map_cons, List.sum_cons, ih] <;> rfl
section OPS
variable {σ : Type} {enc : σ → XH} {bd : σ → Prop} {M : XI} {rc rs pc pc2 tgt : Nat} {B : Blk σ}
abbrev Sp (σ : Type) : Type := List PV → σ → (PS → σ → Prop) → Prop
def oTo (t : Nat) : Blk σ := fun J L st s => J t L st s
def oM (m : List Bool) (B : Blk σ) : Blk σ := fun J L st s => B J (pm m L) st s
theorem okTo (h : pc < 1000000) : bOk enc bd M rc rs pc (oTo pc) := by
  intro Po Pt J hJ L st s hb h1
  have := hJ _ _ _ _ h1
  rw [wX_lt h] at this
  exact this hb
theorem okM {m : List Bool} (k : bOk enc bd M rc rs pc B) : bOk enc bd M rc rs pc (oM m B) := by
  intro Po Pt J hJ L st s hb h1
  exact pm_weak (k Po Pt J hJ _ _ _ hb h1)
theorem okGoto (h : tgt < 1000000) (d : xl_J M pc (fun o => .goto o) pc2 tgt) : bOk enc bd M rc rs pc (oTo tgt) := by
  intro Po Pt J hJ L st s hb h1
  have := hJ _ _ _ _ h1
  rw [wX_lt h] at this
  exact xl_goto d (this hb)
theorem okGotoM {m : List Bool} (h : tgt < 1000000) (d : xl_J M pc (fun o => .goto o) pc2 tgt) : bOk enc bd M rc rs pc (oM m (oTo tgt)) := okM (okGoto h d)
/-- constants -/
def oI (z : Int) (B : Blk σ) : Blk σ := fun J L st s => B J L (.inl z :: st) s
def oJ (z : Int) (B : Blk σ) : Blk σ := fun J L st s => B J L (.inr (.inl z) :: st) s
def oS (j : Nat) (B : Blk σ) : Blk σ := fun J L st s => B J L (.inr (.inr (.inr j)) :: st) s
theorem okIc {n : Int} (d : xl_D M pc (.iconst n) 1 pc2) (k : bOk enc bd M rc rs pc2 B) : bOk enc bd M rc rs pc (oI n B) := fun Po Pt J hJ _ _ _ hb h => xz_iconst d (k Po Pt J hJ _ _ _ hb h)
theorem okBi {n : Int} (d : xl_D M pc (.bipush n) 2 pc2) (hv : (Int8.ofInt n).toInt32 = iI n) (k : bOk enc bd M rc rs pc2 B) : bOk enc bd M rc rs pc (oI n B) := fun Po Pt J hJ _ _ _ hb h => xz_bipush d hv (k Po Pt J hJ _ _ _ hb h)
theorem okSi {n : Int} (d : xl_D M pc (.sipush n) 3 pc2) (hv : (Int16.ofInt n).toInt32 = iI n) (k : bOk enc bd M rc rs pc2 B) : bOk enc bd M rc rs pc (oI n B) := fun Po Pt J hJ _ _ _ hb h => xz_sipush d hv (k Po Pt J hJ _ _ _ hb h)
theorem okLdcw {i : Nat} {v : Int32} {n : Int} (d : xl_D M pc (.ldc_w i) 3 pc2) (hw : Cond.constant M.1.cls i v ∈ xl_T) (hv : v = iI n) (k : bOk enc bd M rc rs pc2 B) : bOk enc bd M rc rs pc (oI n B) := fun Po Pt J hJ _ _ _ hb h => xl_ldcw d hw (by rw [hv]; exact k Po Pt J hJ _ _ _ hb h)
theorem okLc {n : Fin 2} {z : Int} (d : xl_D M pc (.lconst n) 1 pc2) (hz : (n.val : Int) = z) (k : bOk enc bd M rc rs pc2 B) : bOk enc bd M rc rs pc (oJ z B) := fun Po Pt J hJ _ _ _ hb h => xz_lconst d (by rw [hz]; exact k Po Pt J hJ _ _ _ hb h)
theorem okLdc2 {i : Nat} {v : Int64} {n : Int} (d : xl_D M pc (.ldc2_w i) 3 pc2) (hw : Cond.constantLong M.1.cls i v ∈ xl_T) (hv : v = lI n) (k : bOk enc bd M rc rs pc2 B) : bOk enc bd M rc rs pc (oJ n B) := fun Po Pt J hJ _ _ _ hb h => xl_ldc2 d hw (by rw [hv]; exact k Po Pt J hJ _ _ _ hb h)

def oAdd (B : Blk σ) : Blk σ := fun J L st s => match st with
  | .inl b :: .inl a :: st => B J L (.inl (a + b) :: st) s
  | _ => False
theorem okAdd (d : xl_D M pc  .iadd 1 pc2) (k : bOk enc bd M rc rs pc2 B) : bOk enc bd M rc rs pc (oAdd B) := by
  intro Po Pt J hJ L st s hb h
  unfold oAdd at h
  split at h
  · exact xz_iadd d (k Po Pt J hJ _ _ _ hb h)
  · exact h.elim
def oSub (B : Blk σ) : Blk σ := fun J L st s => match st with
  | .inl b :: .inl a :: st => B J L (.inl (a - b) :: st) s
  | _ => False
theorem okSub (d : xl_D M pc  .isub 1 pc2) (k : bOk enc bd M rc rs pc2 B) : bOk enc bd M rc rs pc (oSub B) := by
  intro Po Pt J hJ L st s hb h
  unfold oSub at h
  split at h
  · exact xz_isub d (k Po Pt J hJ _ _ _ hb h)
  · exact h.elim
def oMul (B : Blk σ) : Blk σ := fun J L st s => match st with
  | .inl b :: .inl a :: st => B J L (.inl (a * b) :: st) s
  | _ => False
theorem okMul (d : xl_D M pc  .imul 1 pc2) (k : bOk enc bd M rc rs pc2 B) : bOk enc bd M rc rs pc (oMul B) := by
  intro Po Pt J hJ L st s hb h
  unfold oMul at h
  split at h
  · exact xz_imul d (k Po Pt J hJ _ _ _ hb h)
  · exact h.elim
def oRem (B : Blk σ) : Blk σ := fun J L st s => match st with
  | .inl b :: .inl a :: st => (0 ≤ a ∧ 0 < b ∧ xB a ∧ xB b) ∧ B J L (.inl (a % b) :: st) s
  | _ => False
theorem okRem (d : xl_D M pc  .irem 1 pc2) (k : bOk enc bd M rc rs pc2 B) : bOk enc bd M rc rs pc (oRem B) := by
  intro Po Pt J hJ L st s hb h
  unfold oRem at h
  split at h
  · exact xz_irem d h.1.1 h.1.2.1 h.1.2.2.1 h.1.2.2.2 (k Po Pt J hJ _ _ _ hb h.2)
  · exact h.elim
def oDiv (B : Blk σ) : Blk σ := fun J L st s => match st with
  | .inl b :: .inl a :: st => (0 ≤ a ∧ 0 < b ∧ xB a ∧ xB b) ∧ B J L (.inl (a / b) :: st) s
  | _ => False
theorem okDiv (d : xl_D M pc  .idiv 1 pc2) (k : bOk enc bd M rc rs pc2 B) : bOk enc bd M rc rs pc (oDiv B) := by
  intro Po Pt J hJ L st s hb h
  unfold oDiv at h
  split at h
  · exact xz_idiv d h.1.1 h.1.2.1 h.1.2.2.1 h.1.2.2.2 (k Po Pt J hJ _ _ _ hb h.2)
  · exact h.elim
def oAnd (B : Blk σ) : Blk σ := fun J L st s => match st with
  | .inl b :: .inl a :: st => B J L (.inl (iI a &&& iI b).toInt :: st) s
  | _ => False
theorem okAnd (d : xl_D M pc .iand 1 pc2) (k : bOk enc bd M rc rs pc2 B) : bOk enc bd M rc rs pc (oAnd B) := by
  intro Po Pt J hJ L st s hb h
  unfold oAnd at h
  split at h
  · next b a st =>
    have := k Po Pt J hJ _ _ _ hb h
    rw [List.map_cons, show pV (.inl (iI a &&& iI b).toInt) = .int (iI a &&& iI b) from congrArg Value.int (iI_of _)] at this
    exact xl_iand d this
  · exact h.elim
def oOr (B : Blk σ) : Blk σ := fun J L st s => match st with
  | .inl b :: .inl a :: st => B J L (.inl (iI a ||| iI b).toInt :: st) s
  | _ => False
theorem okOr (d : xl_D M pc .ior 1 pc2) (k : bOk enc bd M rc rs pc2 B) : bOk enc bd M rc rs pc (oOr B) := by
  intro Po Pt J hJ L st s hb h
  unfold oOr at h
  split at h
  · next b a st =>
    have := k Po Pt J hJ _ _ _ hb h
    rw [List.map_cons, show pV (.inl (iI a ||| iI b).toInt) = .int (iI a ||| iI b) from congrArg Value.int (iI_of _)] at this
    exact xl_ior d this
  · exact h.elim
def oShl (B : Blk σ) : Blk σ := fun J L st s => match st with
  | .inl b :: .inl a :: st => B J L (.inl (iI a <<< (iI b &&& 31)).toInt :: st) s
  | _ => False
theorem okShl (d : xl_D M pc .ishl 1 pc2) (k : bOk enc bd M rc rs pc2 B) : bOk enc bd M rc rs pc (oShl B) := by
  intro Po Pt J hJ L st s hb h
  unfold oShl at h
  split at h
  · next b a st =>
    have := k Po Pt J hJ _ _ _ hb h
    rw [List.map_cons, show pV (.inl (iI a <<< (iI b &&& 31)).toInt) = .int (iI a <<< (iI b &&& 31)) from congrArg Value.int (iI_of _)] at this
    exact xl_ishl d this
  · exact h.elim
def oShr (B : Blk σ) : Blk σ := fun J L st s => match st with
  | .inl b :: .inl a :: st => B J L (.inl (iI a >>> (iI b &&& 31)).toInt :: st) s
  | _ => False
theorem okShr (d : xl_D M pc .ishr 1 pc2) (k : bOk enc bd M rc rs pc2 B) : bOk enc bd M rc rs pc (oShr B) := by
  intro Po Pt J hJ L st s hb h
  unfold oShr at h
  split at h
  · next b a st =>
    have := k Po Pt J hJ _ _ _ hb h
    rw [List.map_cons, show pV (.inl (iI a >>> (iI b &&& 31)).toInt) = .int (iI a >>> (iI b &&& 31)) from congrArg Value.int (iI_of _)] at this
    exact xl_ishr d this
  · exact h.elim
def oUshr (B : Blk σ) : Blk σ := fun J L st s => match st with
  | .inl b :: .inl a :: st => B J L (.inl (((iI a).toUInt32 >>> ((iI b).toUInt32 &&& Int32.toUInt32 31)).toInt32).toInt :: st) s
  | _ => False
theorem okUshr (d : xl_D M pc .iushr 1 pc2) (k : bOk enc bd M rc rs pc2 B) : bOk enc bd M rc rs pc (oUshr B) := by
  intro Po Pt J hJ L st s hb h
  unfold oUshr at h
  split at h
  · next b a st =>
    have := k Po Pt J hJ _ _ _ hb h
    rw [List.map_cons, show pV (.inl (((iI a).toUInt32 >>> ((iI b).toUInt32 &&& Int32.toUInt32 31)).toInt32).toInt) = .int (((iI a).toUInt32 >>> ((iI b).toUInt32 &&& Int32.toUInt32 31)).toInt32) from congrArg Value.int (iI_of _)] at this
    exact xl_iushr d this
  · exact h.elim
def oNeg (B : Blk σ) : Blk σ := fun J L st s => match st with
  | .inl a :: st => B J L (.inl (-a) :: st) s
  | _ => False
theorem okNeg (d : xl_D M pc .ineg 1 pc2) (k : bOk enc bd M rc rs pc2 B) : bOk enc bd M rc rs pc (oNeg B) := by
  intro Po Pt J hJ L st s hb h
  unfold oNeg at h
  split at h
  · exact xz_ineg d (k Po Pt J hJ _ _ _ hb h)
  · exact h.elim
def oI2l (B : Blk σ) : Blk σ := fun J L st s => match st with
  | .inl a :: st => xB a ∧ B J L (.inr (.inl a) :: st) s
  | _ => False
theorem okI2l (d : xl_D M pc .i2l 1 pc2) (k : bOk enc bd M rc rs pc2 B) : bOk enc bd M rc rs pc (oI2l B) := by
  intro Po Pt J hJ L st s hb h
  unfold oI2l at h
  split at h
  · exact xz_i2l d h.1 (k Po Pt J hJ _ _ _ hb h.2)
  · exact h.elim
def oLcmp (B : Blk σ) : Blk σ := fun J L st s => match st with
  | .inr (.inl b) :: .inr (.inl a) :: st => (xB a ∧ xB b) ∧ ((a < b → B J L (.inl (-1) :: st) s) ∧ (a = b → B J L (.inl 0 :: st) s) ∧ (b < a → B J L (.inl 1 :: st) s))
  | _ => False
theorem okLcmp (d : xl_D M pc .lcmp 1 pc2) (k : bOk enc bd M rc rs pc2 B) : bOk enc bd M rc rs pc (oLcmp B) := by
  intro Po Pt J hJ L st s hb h
  unfold oLcmp at h
  split at h
  · next b a st =>
    refine xz_lcmp d h.1.1 h.1.2 ?_
    by_cases h1 : a < b
    · rw [if_pos h1]; exact k Po Pt J hJ _ _ _ hb (h.2.1 h1)
    · by_cases h2 : a = b
      · rw [if_neg h1, if_pos h2]; exact k Po Pt J hJ _ _ _ hb (h.2.2.1 h2)
      · rw [if_neg h1, if_neg h2]; exact k Po Pt J hJ _ _ _ hb (h.2.2.2 (by omega))
  · exact h.elim
def oDup (B : Blk σ) : Blk σ := fun J L st s => match st with
  | .inl a :: st => B J L (.inl a :: .inl a :: st) s
  | .inr (.inr a) :: st => B J L (.inr (.inr a) :: .inr (.inr a) :: st) s
  | _ => False
theorem okDup (d : xl_D M pc .dup 1 pc2) (k : bOk enc bd M rc rs pc2 B) : bOk enc bd M rc rs pc (oDup B) := by
  intro Po Pt J hJ L st s hb h
  unfold oDup at h
  split at h
  · exact xl_dup d rfl (k Po Pt J hJ _ _ _ hb h)
  · next a st => rcases a with r | j
                 · exact xl_dup d rfl (k Po Pt J hJ _ _ _ hb h)
                 · exact xl_dup d rfl (k Po Pt J hJ _ _ _ hb h)
  · exact h.elim
def oPop (B : Blk σ) : Blk σ := fun J L st s => match st with
  | .inl _ :: st => B J L st s
  | .inr (.inr _) :: st => B J L st s
  | _ => False
theorem okPop (d : xl_D M pc .pop 1 pc2) (k : bOk enc bd M rc rs pc2 B) : bOk enc bd M rc rs pc (oPop B) := by
  intro Po Pt J hJ L st s hb h
  unfold oPop at h
  split at h
  · exact xl_pop d rfl (k Po Pt J hJ _ _ _ hb h)
  · next a st => rcases a with r | j
                 · exact xl_pop d rfl (k Po Pt J hJ _ _ _ hb h)
                 · exact xl_pop d rfl (k Po Pt J hJ _ _ _ hb h)
  · exact h.elim
/-- an array's place and an index, twice -/
def oDup2 (B : Blk σ) : Blk σ := fun J L st s => match st with
  | .inl a :: .inr (.inr b) :: st => B J L (.inl a :: .inr (.inr b) :: .inl a :: .inr (.inr b) :: st) s
  | _ => False
theorem okDup2 (d : xl_D M pc .dup2 1 pc2) (k : bOk enc bd M rc rs pc2 B) : bOk enc bd M rc rs pc (oDup2 B) := by
  intro Po Pt J hJ L st s hb h
  unfold oDup2 at h
  split at h
  · next a b st => rcases b with r | j
                   · exact xl_dup2 d rfl rfl (k Po Pt J hJ _ _ _ hb h)
                   · exact xl_dup2 d rfl rfl (k Po Pt J hJ _ _ _ hb h)
  · exact h.elim

def oZEq (t : Nat) (B : Blk σ) : Blk σ := fun J L st s => match st with
  | .inl a :: st => xB a ∧ (a = 0 → J t L st s) ∧ (a ≠ 0 → B J L st s)
  | _ => False
theorem okZEq (ht : tgt < 1000000) (d : xl_J M pc (fun o => .ifCond .eq o) pc2 tgt) (k : bOk enc bd M rc rs pc2 B) : bOk enc bd M rc rs pc (oZEq tgt B) := by
  intro Po Pt J hJ L st s hb h
  unfold oZEq at h
  split at h
  · refine xl_if_eq d (fun c1 => ?_) (fun c1 => ?_)
    · have := hJ _ _ _ _ (h.2.1 ((iI_eq0 h.1).mp c1))
      rw [wX_lt ht] at this
      exact this hb
    · exact k Po Pt J hJ _ _ _ hb (h.2.2 (fun c => c1 ((iI_eq0 h.1).mpr c)))
  · exact h.elim
def oCEq (t : Nat) (B : Blk σ) : Blk σ := fun J L st s => match st with
  | .inl b :: .inl a :: st => (xB a ∧ xB b) ∧ (a = b → J t L st s) ∧ (a ≠ b → B J L st s)
  | _ => False
theorem okCEq (ht : tgt < 1000000) (d : xl_J M pc (fun o => .if_icmp .eq o) pc2 tgt) (k : bOk enc bd M rc rs pc2 B) : bOk enc bd M rc rs pc (oCEq tgt B) := by
  intro Po Pt J hJ L st s hb h
  unfold oCEq at h
  split at h
  · refine xl_icmp_eq d (fun c1 => ?_) (fun c1 => ?_)
    · have := hJ _ _ _ _ (h.2.1 ((iI_eq h.1.1 h.1.2).mp c1))
      rw [wX_lt ht] at this
      exact this hb
    · exact k Po Pt J hJ _ _ _ hb (h.2.2 (fun c => c1 ((iI_eq h.1.1 h.1.2).mpr c)))
  · exact h.elim
def oZNe (t : Nat) (B : Blk σ) : Blk σ := fun J L st s => match st with
  | .inl a :: st => xB a ∧ (a ≠ 0 → J t L st s) ∧ (a = 0 → B J L st s)
  | _ => False
theorem okZNe (ht : tgt < 1000000) (d : xl_J M pc (fun o => .ifCond .ne o) pc2 tgt) (k : bOk enc bd M rc rs pc2 B) : bOk enc bd M rc rs pc (oZNe tgt B) := by
  intro Po Pt J hJ L st s hb h
  unfold oZNe at h
  split at h
  · refine xl_if_ne d (fun c1 => ?_) (fun c1 => ?_)
    · have := hJ _ _ _ _ (h.2.1 (fun c => c1 ((iI_eq0 h.1).mpr c)))
      rw [wX_lt ht] at this
      exact this hb
    · exact k Po Pt J hJ _ _ _ hb (h.2.2 ((iI_eq0 h.1).mp c1))
  · exact h.elim
def oCNe (t : Nat) (B : Blk σ) : Blk σ := fun J L st s => match st with
  | .inl b :: .inl a :: st => (xB a ∧ xB b) ∧ (a ≠ b → J t L st s) ∧ (a = b → B J L st s)
  | _ => False
theorem okCNe (ht : tgt < 1000000) (d : xl_J M pc (fun o => .if_icmp .ne o) pc2 tgt) (k : bOk enc bd M rc rs pc2 B) : bOk enc bd M rc rs pc (oCNe tgt B) := by
  intro Po Pt J hJ L st s hb h
  unfold oCNe at h
  split at h
  · refine xl_icmp_ne d (fun c1 => ?_) (fun c1 => ?_)
    · have := hJ _ _ _ _ (h.2.1 (fun c => c1 ((iI_eq h.1.1 h.1.2).mpr c)))
      rw [wX_lt ht] at this
      exact this hb
    · exact k Po Pt J hJ _ _ _ hb (h.2.2 ((iI_eq h.1.1 h.1.2).mp c1))
  · exact h.elim
def oZLt (t : Nat) (B : Blk σ) : Blk σ := fun J L st s => match st with
  | .inl a :: st => xB a ∧ (a < 0 → J t L st s) ∧ (0 ≤ a → B J L st s)
  | _ => False
theorem okZLt (ht : tgt < 1000000) (d : xl_J M pc (fun o => .ifCond .lt o) pc2 tgt) (k : bOk enc bd M rc rs pc2 B) : bOk enc bd M rc rs pc (oZLt tgt B) := by
  intro Po Pt J hJ L st s hb h
  unfold oZLt at h
  split at h
  · refine xl_if_lt d (fun c1 => ?_) (fun c1 => ?_)
    · have := hJ _ _ _ _ (h.2.1 ((iI_lt0 h.1).mp c1))
      rw [wX_lt ht] at this
      exact this hb
    · exact k Po Pt J hJ _ _ _ hb (h.2.2 (by have := mt (iI_lt0 h.1).mpr c1; omega))
  · exact h.elim
def oCLt (t : Nat) (B : Blk σ) : Blk σ := fun J L st s => match st with
  | .inl b :: .inl a :: st => (xB a ∧ xB b) ∧ (a < b → J t L st s) ∧ (b ≤ a → B J L st s)
  | _ => False
theorem okCLt (ht : tgt < 1000000) (d : xl_J M pc (fun o => .if_icmp .lt o) pc2 tgt) (k : bOk enc bd M rc rs pc2 B) : bOk enc bd M rc rs pc (oCLt tgt B) := by
  intro Po Pt J hJ L st s hb h
  unfold oCLt at h
  split at h
  · refine xl_icmp_lt d (fun c1 => ?_) (fun c1 => ?_)
    · have := hJ _ _ _ _ (h.2.1 ((iI_lt h.1.1 h.1.2).mp c1))
      rw [wX_lt ht] at this
      exact this hb
    · exact k Po Pt J hJ _ _ _ hb (h.2.2 (by have := mt (iI_lt h.1.1 h.1.2).mpr c1; omega))
  · exact h.elim
def oZGe (t : Nat) (B : Blk σ) : Blk σ := fun J L st s => match st with
  | .inl a :: st => xB a ∧ (0 ≤ a → J t L st s) ∧ (a < 0 → B J L st s)
  | _ => False
theorem okZGe (ht : tgt < 1000000) (d : xl_J M pc (fun o => .ifCond .ge o) pc2 tgt) (k : bOk enc bd M rc rs pc2 B) : bOk enc bd M rc rs pc (oZGe tgt B) := by
  intro Po Pt J hJ L st s hb h
  unfold oZGe at h
  split at h
  · refine xl_if_ge d (fun c1 => ?_) (fun c1 => ?_)
    · have := hJ _ _ _ _ (h.2.1 ((iI_0le h.1).mp c1))
      rw [wX_lt ht] at this
      exact this hb
    · exact k Po Pt J hJ _ _ _ hb (h.2.2 (by have := mt (iI_0le h.1).mpr c1; omega))
  · exact h.elim
def oCGe (t : Nat) (B : Blk σ) : Blk σ := fun J L st s => match st with
  | .inl b :: .inl a :: st => (xB a ∧ xB b) ∧ (b ≤ a → J t L st s) ∧ (a < b → B J L st s)
  | _ => False
theorem okCGe (ht : tgt < 1000000) (d : xl_J M pc (fun o => .if_icmp .ge o) pc2 tgt) (k : bOk enc bd M rc rs pc2 B) : bOk enc bd M rc rs pc (oCGe tgt B) := by
  intro Po Pt J hJ L st s hb h
  unfold oCGe at h
  split at h
  · refine xl_icmp_ge d (fun c1 => ?_) (fun c1 => ?_)
    · have := hJ _ _ _ _ (h.2.1 ((iI_le h.1.2 h.1.1).mp c1))
      rw [wX_lt ht] at this
      exact this hb
    · exact k Po Pt J hJ _ _ _ hb (h.2.2 (by have := mt (iI_le h.1.2 h.1.1).mpr c1; omega))
  · exact h.elim
def oZGt (t : Nat) (B : Blk σ) : Blk σ := fun J L st s => match st with
  | .inl a :: st => xB a ∧ (0 < a → J t L st s) ∧ (a ≤ 0 → B J L st s)
  | _ => False
theorem okZGt (ht : tgt < 1000000) (d : xl_J M pc (fun o => .ifCond .gt o) pc2 tgt) (k : bOk enc bd M rc rs pc2 B) : bOk enc bd M rc rs pc (oZGt tgt B) := by
  intro Po Pt J hJ L st s hb h
  unfold oZGt at h
  split at h
  · refine xl_if_gt d (fun c1 => ?_) (fun c1 => ?_)
    · have := hJ _ _ _ _ (h.2.1 ((iI_0lt h.1).mp c1))
      rw [wX_lt ht] at this
      exact this hb
    · exact k Po Pt J hJ _ _ _ hb (h.2.2 (by have := mt (iI_0lt h.1).mpr c1; omega))
  · exact h.elim
def oCGt (t : Nat) (B : Blk σ) : Blk σ := fun J L st s => match st with
  | .inl b :: .inl a :: st => (xB a ∧ xB b) ∧ (b < a → J t L st s) ∧ (a ≤ b → B J L st s)
  | _ => False
theorem okCGt (ht : tgt < 1000000) (d : xl_J M pc (fun o => .if_icmp .gt o) pc2 tgt) (k : bOk enc bd M rc rs pc2 B) : bOk enc bd M rc rs pc (oCGt tgt B) := by
  intro Po Pt J hJ L st s hb h
  unfold oCGt at h
  split at h
  · refine xl_icmp_gt d (fun c1 => ?_) (fun c1 => ?_)
    · have := hJ _ _ _ _ (h.2.1 ((iI_lt h.1.2 h.1.1).mp c1))
      rw [wX_lt ht] at this
      exact this hb
    · exact k Po Pt J hJ _ _ _ hb (h.2.2 (by have := mt (iI_lt h.1.2 h.1.1).mpr c1; omega))
  · exact h.elim
def oZLe (t : Nat) (B : Blk σ) : Blk σ := fun J L st s => match st with
  | .inl a :: st => xB a ∧ (a ≤ 0 → J t L st s) ∧ (0 < a → B J L st s)
  | _ => False
theorem okZLe (ht : tgt < 1000000) (d : xl_J M pc (fun o => .ifCond .le o) pc2 tgt) (k : bOk enc bd M rc rs pc2 B) : bOk enc bd M rc rs pc (oZLe tgt B) := by
  intro Po Pt J hJ L st s hb h
  unfold oZLe at h
  split at h
  · refine xl_if_le d (fun c1 => ?_) (fun c1 => ?_)
    · have := hJ _ _ _ _ (h.2.1 ((iI_le0 h.1).mp c1))
      rw [wX_lt ht] at this
      exact this hb
    · exact k Po Pt J hJ _ _ _ hb (h.2.2 (by have := mt (iI_le0 h.1).mpr c1; omega))
  · exact h.elim
def oCLe (t : Nat) (B : Blk σ) : Blk σ := fun J L st s => match st with
  | .inl b :: .inl a :: st => (xB a ∧ xB b) ∧ (a ≤ b → J t L st s) ∧ (b < a → B J L st s)
  | _ => False
theorem okCLe (ht : tgt < 1000000) (d : xl_J M pc (fun o => .if_icmp .le o) pc2 tgt) (k : bOk enc bd M rc rs pc2 B) : bOk enc bd M rc rs pc (oCLe tgt B) := by
  intro Po Pt J hJ L st s hb h
  unfold oCLe at h
  split at h
  · refine xl_icmp_le d (fun c1 => ?_) (fun c1 => ?_)
    · have := hJ _ _ _ _ (h.2.1 ((iI_le h.1.1 h.1.2).mp c1))
      rw [wX_lt ht] at this
      exact this hb
    · exact k Po Pt J hJ _ _ _ hb (h.2.2 (by have := mt (iI_le h.1.1 h.1.2).mpr c1; omega))
  · exact h.elim
def oNN (t : Nat) : Blk σ := fun J L st s => match st with
  | .inr (.inr (.inl _)) :: st => J t L st s
  | _ => False
theorem okNN (ht : tgt < 1000000) (d : xl_J M pc (fun o => .ifnonnull o) pc2 tgt) : bOk enc bd M rc rs pc (oNN tgt) := by
  intro Po Pt J hJ L st s hb h
  unfold oNN at h
  split at h
  · have := hJ _ _ _ _ h
    rw [wX_lt ht] at this
    exact xl_ifnonnull d (this hb)
  · exact h.elim
def oNu (B : Blk σ) : Blk σ := fun J L st s => match st with
  | .inr (.inr (.inl _)) :: st => B J L st s
  | _ => False
theorem okNu (d : xl_J M pc (fun o => .ifnull o) pc2 tgt) (k : bOk enc bd M rc rs pc2 B) : bOk enc bd M rc rs pc (oNu B) := by
  intro Po Pt J hJ L st s hb h
  unfold oNu at h
  split at h
  · exact xl_ifnull d (k Po Pt J hJ _ _ _ hb h)
  · exact h.elim
/-- locals -/
def oIld (i : Nat) (B : Blk σ) : Blk σ := fun J L st s => match xl_n L i with
  | some (some (.inl z)) => B J L (.inl z :: st) s
  | _ => False
def oLld (i : Nat) (B : Blk σ) : Blk σ := fun J L st s => match xl_n L i with
  | some (some (.inr (.inl z))) => B J L (.inr (.inl z) :: st) s
  | _ => False
def oAld (i : Nat) (B : Blk σ) : Blk σ := fun J L st s => match xl_n L i with
  | some (some (.inr (.inr x))) => B J L (.inr (.inr x) :: st) s
  | _ => False
def oIst (i : Nat) (B : Blk σ) : Blk σ := fun J L st s => match st with
  | .inl z :: st => bif pk L i then B J (xl_s L i (some (.inl z))) st s else False
  | _ => False
def oAst (i : Nat) (B : Blk σ) : Blk σ := fun J L st s => match st with
  | .inr (.inr x) :: st => bif pk L i then B J (xl_s L i (some (.inr (.inr x)))) st s else False
  | _ => False
def oInc (i : Nat) (n : Int) (B : Blk σ) : Blk σ := fun J L st s => match xl_n L i with
  | some (some (.inl z)) => bif pk L i then B J (xl_s L i (some (.inl (z + n)))) st s else False
  | _ => False
theorem condT {b : Bool} {P : Prop} (h : bif b then P else False) : b = true ∧ P := by
  cases b with
  | false => exact h.elim
  | true => exact ⟨rfl, h⟩
theorem okIld {i : Nat} (d : xl_D M pc (.iload i) 2 pc2) (k : bOk enc bd M rc rs pc2 B) : bOk enc bd M rc rs pc (oIld i B) := by
  intro Po Pt J hJ L st s hb h
  unfold oIld at h
  split at h
  · next z hz => exact xl_iload d (eL_at hz) (k Po Pt J hJ _ _ _ hb h)
  · exact h.elim
theorem okIldn {i : Fin 4} {j : Nat} (d : xl_D M pc (.iload_n i) 1 pc2) (e : i.val = j) (k : bOk enc bd M rc rs pc2 B) : bOk enc bd M rc rs pc (oIld j B) := by
  subst e
  intro Po Pt J hJ L st s hb h
  unfold oIld at h
  split at h
  · next z hz => exact xl_iload_n d (eL_at hz) (k Po Pt J hJ _ _ _ hb h)
  · exact h.elim
theorem okLld {i : Nat} (d : xl_D M pc (.lload i) 2 pc2) (k : bOk enc bd M rc rs pc2 B) : bOk enc bd M rc rs pc (oLld i B) := by
  intro Po Pt J hJ L st s hb h
  unfold oLld at h
  split at h
  · next z hz => exact xl_lload d (eL_at hz) (k Po Pt J hJ _ _ _ hb h)
  · exact h.elim
theorem okLldn {i : Fin 4} {j : Nat} (d : xl_D M pc (.lload_n i) 1 pc2) (e : i.val = j) (k : bOk enc bd M rc rs pc2 B) : bOk enc bd M rc rs pc (oLld j B) := by
  subst e
  intro Po Pt J hJ L st s hb h
  unfold oLld at h
  split at h
  · next z hz => exact xl_lload_n d (eL_at hz) (k Po Pt J hJ _ _ _ hb h)
  · exact h.elim
theorem okAld {i : Nat} (d : xl_D M pc (.aload i) 2 pc2) (k : bOk enc bd M rc rs pc2 B) : bOk enc bd M rc rs pc (oAld i B) := by
  intro Po Pt J hJ L st s hb h
  unfold oAld at h
  split at h
  · next x hz => rcases x with r | j
                 · exact xl_aload d (eL_at hz) (k Po Pt J hJ _ _ _ hb h)
                 · exact xl_saload d (eL_at hz) (k Po Pt J hJ _ _ _ hb h)
  · exact h.elim
theorem okAldn {i : Fin 4} {j : Nat} (d : xl_D M pc (.aload_n i) 1 pc2) (e : i.val = j) (k : bOk enc bd M rc rs pc2 B) : bOk enc bd M rc rs pc (oAld j B) := by
  subst e
  intro Po Pt J hJ L st s hb h
  unfold oAld at h
  split at h
  · next x hz => rcases x with r | j
                 · exact xl_aload_n d (eL_at hz) (k Po Pt J hJ _ _ _ hb h)
                 · exact xl_saload_n d (eL_at hz) (k Po Pt J hJ _ _ _ hb h)
  · exact h.elim
theorem okIst {i : Nat} (d : xl_D M pc (.istore i) 2 pc2) (hn : i < M.2.2.1) (k : bOk enc bd M rc rs pc2 B) : bOk enc bd M rc rs pc (oIst i B) := by
  intro Po Pt J hJ L st s hb h
  unfold oIst at h
  split at h
  · next z st => 
    obtain ⟨h1, h2⟩ := condT h
    have := k Po Pt J hJ _ _ _ hb h2
    rw [← eL_s] at this
    exact xl_istore d (pk_ok _ _ h1) hn this
  · exact h.elim
theorem okIstn {i : Fin 4} {j : Nat} (d : xl_D M pc (.istore_n i) 1 pc2) (e : i.val = j) (hn : j < M.2.2.1) (k : bOk enc bd M rc rs pc2 B) : bOk enc bd M rc rs pc (oIst j B) := by
  subst e
  intro Po Pt J hJ L st s hb h
  unfold oIst at h
  split at h
  · next z st => 
    obtain ⟨h1, h2⟩ := condT h
    have := k Po Pt J hJ _ _ _ hb h2
    rw [← eL_s] at this
    exact xl_istore_n d (pk_ok _ _ h1) hn this
  · exact h.elim
theorem okAst {i : Nat} (d : xl_D M pc (.astore i) 2 pc2) (hn : i < M.2.2.1) (k : bOk enc bd M rc rs pc2 B) : bOk enc bd M rc rs pc (oAst i B) := by
  intro Po Pt J hJ L st s hb h
  unfold oAst at h
  split at h
  · next x st => 
    obtain ⟨h1, h2⟩ := condT h
    have := k Po Pt J hJ _ _ _ hb h2
    rw [← eL_s] at this
    rcases x with r | j
    · exact xl_astore d (pk_ok _ _ h1) hn this
    · exact xl_sastore d (pk_ok _ _ h1) hn this
  · exact h.elim
theorem okAstn {i : Fin 4} {j : Nat} (d : xl_D M pc (.astore_n i) 1 pc2) (e : i.val = j) (hn : j < M.2.2.1) (k : bOk enc bd M rc rs pc2 B) : bOk enc bd M rc rs pc (oAst j B) := by
  subst e
  intro Po Pt J hJ L st s hb h
  unfold oAst at h
  split at h
  · next x st => 
    obtain ⟨h1, h2⟩ := condT h
    have := k Po Pt J hJ _ _ _ hb h2
    rw [← eL_s] at this
    rcases x with r | j
    · exact xl_astore_n d (pk_ok _ _ h1) hn this
    · exact xl_sastore_n d (pk_ok _ _ h1) hn this
  · exact h.elim
theorem okInc {i : Nat} {n : Int} (d : xl_D M pc (.iinc i n) 3 pc2) (hn : i < M.2.2.1) (k : bOk enc bd M rc rs pc2 B) : bOk enc bd M rc rs pc (oInc i n B) := by
  intro Po Pt J hJ L st s hb h
  unfold oInc at h
  split at h
  · next z hz => 
    obtain ⟨h1, h2⟩ := condT h
    have := k Po Pt J hJ _ _ _ hb h2
    rw [← eL_s] at this
    exact xz_iinc d (eL_at hz) (pk_ok _ _ h1) hn this
  · exact h.elim
/-- ends -/
def oIret : Blk σ := fun J _ st s => match st with
  | [.inl z] => J 1000000 [] [.inl z] s
  | _ => False
def oZret : Blk σ := fun J _ st s => match st with
  | [.inl z] => (z = 0 ∨ z = 1) ∧ J 1000000 [] [.inl z] s
  | _ => False
def oLret : Blk σ := fun J _ st s => match st with
  | [.inr (.inl z)] => J 1000000 [] [.inr (.inl z)] s
  | _ => False
def oSret : Blk σ := fun J _ st s => match st with
  | [.inr (.inr (.inr j))] => J 1000000 [] [.inr (.inr (.inr j))] s
  | _ => False
def oVret : Blk σ := fun J _ st s => match st with
  | [] => J 1000000 [] [] s
  | _ => False
def oThr : Blk σ := fun J _ st s => match st with
  | [] => J 1000001 [] [] s
  | _ => False
theorem okIret (d : xl_D M pc .ireturn 1 pc2) (hr : M.2.2.2.1 = some .int) : bOk enc bd M rc rs pc oIret := by
  intro Po Pt J hJ L st s hb h
  unfold oIret at h
  split at h
  · exact xl_ireturn d hr ⟨_, s, rfl, rfl, hb, (fun a e => by cases e), hJ _ _ _ _ h⟩
  · exact h.elim
theorem okZret (d : xl_D M pc .ireturn 1 pc2) (hr : M.2.2.2.1 = some .boolean) : bOk enc bd M rc rs pc oZret := by
  intro Po Pt J hJ L st s hb h
  unfold oZret at h
  split at h
  · next z => exact xl_zreturn d hr (by rcases h.1 with rfl | rfl
                                        · exact Or.inl rfl
                                        · exact Or.inr rfl) ⟨_, s, rfl, rfl, hb, (fun a e => by cases e), hJ _ _ _ _ h.2⟩
  · exact h.elim
theorem okLret (d : xl_D M pc .lreturn 1 pc2) (hr : M.2.2.2.1 = some .long) : bOk enc bd M rc rs pc oLret := by
  intro Po Pt J hJ L st s hb h
  unfold oLret at h
  split at h
  · exact xl_lreturn d hr ⟨_, s, rfl, rfl, hb, (fun a e => by cases e), hJ _ _ _ _ h⟩
  · exact h.elim
theorem okSret {n : String} (d : xl_D M pc .areturn 1 pc2) (hr : M.2.2.2.1 = some (.object n)) : bOk enc bd M rc rs pc oSret := by
  intro Po Pt J hJ L st s hb h
  unfold oSret at h
  split at h
  · exact xl_sreturn d hr ⟨_, s, rfl, rfl, hb, (fun a e => by cases e), hJ _ _ _ _ h⟩
  · exact h.elim
theorem okVret (d : xl_D M pc .return_ 1 pc2) (hr : M.2.2.2.1 = none) : bOk enc bd M rc rs pc oVret := by
  intro Po Pt J hJ L st s hb h
  unfold oVret at h
  split at h
  · exact xl_return d hr ⟨[], s, rfl, rfl, hb, (fun a e => by cases e), hJ _ _ _ _ h⟩
  · exact h.elim
theorem okThr (d : xl_Y M pc) : bOk enc bd M (rc + 1) (rs + 6) pc oThr := by
  intro Po Pt J hJ L st s hb h
  unfold oThr at h
  split at h
  · exact xl_thr ⟨s, rfl, hb, hJ _ _ _ _ h⟩ d
  · exact h.elim
/-- fields -/
abbrev FG (σ : Type) : Type := σ → Nat → Nat → Nat → Option PV
abbrev FP (σ : Type) : Type := σ → Nat → Nat → Nat → Int → Option σ
abbrev AG (σ : Type) : Type := σ → Nat → Option (Nat × Nat × (Nat → Int))
abbrev AP (σ : Type) : Type := σ → Nat → (Nat → Int) → σ
def vFg (enc : σ → XH) (bd : σ → Prop) (fg : FG σ) : Prop := ∀ s r ci k v, bd s → fg s r ci k = some v → ∃ fs w, xl_n (enc s) r = some (.inr (ci, fs)) ∧ xl_n fs k = some w ∧ xl_o r w = pV v ∧ ∀ z, v = .inl z → xB z
def vFp (enc : σ → XH) (bd : σ → Prop) (fp : FP σ) : Prop := ∀ s r ci k z s', bd s → xB z → fp s r ci k z = some s' → ∃ fs, xl_n (enc s) r = some (.inr (ci, fs)) ∧ k < fs.length ∧ enc s' = xl_s (enc s) r (.inr (ci, xl_s fs k (.int (iI z)))) ∧ bd s'
def aE (t n : Nat) (g : Nat → Int) : XE := match t with
  | 0 => xA n g
  | 1 => xL n g
  | _ => xZ n g
def vAg (enc : σ → XH) (bd : σ → Prop) (ag : AG σ) (ap : AP σ) : Prop := ∀ s r t n g, bd s → ag s r = some (t, n, g) → n ≤ 1000000 ∧ (∀ k, xB (g k)) ∧ xl_n (enc s) r = some (aE t n g) ∧ ∀ g', (∀ k, xB (g' k)) → bd (ap s r g') ∧ enc (ap s r g') = xl_s (enc s) r (aE t n g')
def oGet (fg : FG σ) (ci k : Nat) (B : Blk σ) : Blk σ := fun J L st s => match st with
  | .inr (.inr (.inl r)) :: st => match fg s r ci k with
    | some (.inl z) => xB z → B J L (.inl z :: st) s
    | some (.inr v) => B J L (.inr v :: st) s
    | none => False
  | _ => False
theorem okGet {fg : FG σ} {ci f : Nat} (hv : vFg enc bd fg) (d : xl_G M pc ci f pc2) (k : bOk enc bd M rc rs pc2 B) : bOk enc bd M rc rs pc (oGet fg ci f B) := by
  intro Po Pt J hJ L st s hb h
  unfold oGet at h
  split at h
  · next r st =>
    split at h
    · next z hz =>
      obtain ⟨fs, w, e1, e2, e3, e4⟩ := hv s r ci f _ hb hz
      have := k Po Pt J hJ _ _ _ hb (h (e4 z rfl))
      rw [List.map_cons, ← e3] at this
      exact xl_get d e1 e2 this
    · next v hz =>
      obtain ⟨fs, w, e1, e2, e3, e4⟩ := hv s r ci f _ hb hz
      have := k Po Pt J hJ _ _ _ hb h
      rw [List.map_cons, ← e3] at this
      exact xl_get d e1 e2 this
    · exact h.elim
  · exact h.elim
def oPut (fp : FP σ) (ci k : Nat) (B : Blk σ) : Blk σ := fun J L st s => match st with
  | .inl z :: .inr (.inr (.inl r)) :: st => match fp s r ci k z with
    | some s' => xB z ∧ B J L st s'
    | none => False
  | _ => False
theorem okPut {fp : FP σ} {ci f : Nat} (hv : vFp enc bd fp) (d : xl_P M pc ci f .int pc2) (k : bOk enc bd M rc rs pc2 B) : bOk enc bd M rc rs pc (oPut fp ci f B) := by
  intro Po Pt J hJ L st s hb h
  unfold oPut at h
  split at h
  · next z r st =>
    split at h
    · next s' hz =>
      obtain ⟨fs, e1, e2, e3, e4⟩ := hv s r ci f z s' hb h.1 hz
      have := k Po Pt J hJ _ _ _ e4 h.2
      rw [e3] at this
      exact xl_put d e1 e2 this
    · exact h.elim
  · exact h.elim
/-- arrays -/
def oIa (ag : AG σ) (B : Blk σ) : Blk σ := fun J L st s => match st with
  | .inl i :: .inr (.inr (.inl r)) :: st => match ag s r with
    | some (0, n, g) => (0 ≤ i ∧ i < (n : Int)) ∧ (xB (g i.toNat) → B J L (.inl (g i.toNat) :: st) s)
    | _ => False
  | _ => False
def oLa (ag : AG σ) (B : Blk σ) : Blk σ := fun J L st s => match st with
  | .inl i :: .inr (.inr (.inl r)) :: st => match ag s r with
    | some (1, n, g) => (0 ≤ i ∧ i < (n : Int)) ∧ (xB (g i.toNat) → B J L (.inr (.inl (g i.toNat)) :: st) s)
    | _ => False
  | _ => False
def oZa (ag : AG σ) (B : Blk σ) : Blk σ := fun J L st s => match st with
  | .inl i :: .inr (.inr (.inl r)) :: st => match ag s r with
    | some (2, n, g) => (0 ≤ i ∧ i < (n : Int)) ∧ (xB (g i.toNat) → B J L (.inl (g i.toNat) :: st) s)
    | _ => False
  | _ => False
def oLen (ag : AG σ) (B : Blk σ) : Blk σ := fun J L st s => match st with
  | .inr (.inr (.inl r)) :: st => match ag s r with
    | some (_, n, _) => B J L (.inl (n : Int) :: st) s
    | _ => False
  | _ => False
def oIas (ag : AG σ) (ap : AP σ) (B : Blk σ) : Blk σ := fun J L st s => match st with
  | .inl v :: .inl i :: .inr (.inr (.inl r)) :: st => match ag s r with
    | some (0, n, g) => (0 ≤ i ∧ i < (n : Int) ∧ xB v) ∧ B J L st (ap s r (xup g i.toNat v))
    | _ => False
  | _ => False
def oLas (ag : AG σ) (ap : AP σ) (B : Blk σ) : Blk σ := fun J L st s => match st with
  | .inr (.inl v) :: .inl i :: .inr (.inr (.inl r)) :: st => match ag s r with
    | some (1, n, g) => (0 ≤ i ∧ i < (n : Int) ∧ xB v) ∧ B J L st (ap s r (xup g i.toNat v))
    | _ => False
  | _ => False
def oZas (ag : AG σ) (ap : AP σ) (B : Blk σ) : Blk σ := fun J L st s => match st with
  | .inl v :: .inl i :: .inr (.inr (.inl r)) :: st => match ag s r with
    | some (2, n, g) => (0 ≤ i ∧ i < (n : Int) ∧ (v = 0 ∨ v = 1)) ∧ B J L st (ap s r (xup g i.toNat v))
    | _ => False
  | _ => False
theorem xup_B {g : Nat → Int} {k : Nat} {z : Int} (hg : ∀ k, xB (g k)) (hz : xB z) : ∀ j, xB (xup g k z j) := by
  intro j
  unfold xup
  by_cases h : j = k
  · rw [if_pos h]; exact hz
  · rw [if_neg h]; exact hg j
theorem iI_inN {i : Int} {n : Nat} (hn : n ≤ 1000000) (h : 0 ≤ i ∧ i < (n : Int)) : vp_in (iI i) n ∧ (iI i).toNatClampNeg = i.toNat := by
  have hb : xb i := ⟨by omega, by omega⟩
  exact ⟨iI_in hb h.1 h.2, iI_nat hb⟩
theorem okIa {ag : AG σ} {ap : AP σ} (hv : vAg enc bd ag ap) (d : xl_D M pc .iaload 1 pc2) (k : bOk enc bd M rc rs pc2 B) : bOk enc bd M rc rs pc (oIa ag B) := by
  intro Po Pt J hJ L st s hb h
  unfold oIa at h
  split at h
  · next i r st =>
    split at h
    · next n g hz =>
      obtain ⟨hn, hg, e1, -⟩ := hv s r _ _ _ hb hz
      obtain ⟨q1, q2⟩ := iI_inN hn h.1
      refine xl_iald d e1 q1 ?_
      rw [q2]
      exact k Po Pt J hJ _ _ _ hb (h.2 (hg _))
    · exact h.elim
  · exact h.elim
theorem okLa {ag : AG σ} {ap : AP σ} (hv : vAg enc bd ag ap) (d : xl_D M pc .laload 1 pc2) (k : bOk enc bd M rc rs pc2 B) : bOk enc bd M rc rs pc (oLa ag B) := by
  intro Po Pt J hJ L st s hb h
  unfold oLa at h
  split at h
  · next i r st =>
    split at h
    · next n g hz =>
      obtain ⟨hn, hg, e1, -⟩ := hv s r _ _ _ hb hz
      obtain ⟨q1, q2⟩ := iI_inN hn h.1
      refine xl_lald d e1 q1 ?_
      rw [q2]
      exact k Po Pt J hJ _ _ _ hb (h.2 (hg _))
    · exact h.elim
  · exact h.elim
theorem okZa {ag : AG σ} {ap : AP σ} (hv : vAg enc bd ag ap) (d : xl_D M pc .baload 1 pc2) (k : bOk enc bd M rc rs pc2 B) : bOk enc bd M rc rs pc (oZa ag B) := by
  intro Po Pt J hJ L st s hb h
  unfold oZa at h
  split at h
  · next i r st =>
    split at h
    · next n g hz =>
      obtain ⟨hn, hg, e1, -⟩ := hv s r _ _ _ hb hz
      obtain ⟨q1, q2⟩ := iI_inN hn h.1
      refine xl_zald d e1 q1 ?_
      rw [q2]
      exact k Po Pt J hJ _ _ _ hb (h.2 (hg _))
    · exact h.elim
  · exact h.elim
theorem okLen {ag : AG σ} {ap : AP σ} (hv : vAg enc bd ag ap) (d : xl_D M pc .arraylength 1 pc2) (k : bOk enc bd M rc rs pc2 B) : bOk enc bd M rc rs pc (oLen ag B) := by
  intro Po Pt J hJ L st s hb h
  unfold oLen at h
  split at h
  · next r st =>
    split at h
    · next t n g hz =>
      obtain ⟨hn, hg, e1, -⟩ := hv s r _ _ _ hb hz
      have kk := k Po Pt J hJ _ _ _ hb h
      rw [List.map_cons, show pV (.inl (n : Int)) = .int (nI n) by rw [iI_nI]; rfl] at kk
      match t, e1 with
      | 0, e1 => exact xl_alen d e1 (by decide) kk
      | 1, e1 => exact xl_alen d e1 (by decide) kk
      | t + 2, e1 => exact xl_alen (t := 2) d e1 (by decide) kk
    · exact h.elim
  · exact h.elim
theorem okIas {ag : AG σ} {ap : AP σ} (hv : vAg enc bd ag ap) (d : xl_D M pc .iastore 1 pc2) (k : bOk enc bd M rc rs pc2 B) : bOk enc bd M rc rs pc (oIas ag ap B) := by
  intro Po Pt J hJ L st s hb h
  unfold oIas at h
  split at h
  · next v i r st =>
    split at h
    · next n g hz =>
      obtain ⟨hn, hg, e1, e2⟩ := hv s r _ _ _ hb hz
      obtain ⟨q1, q2⟩ := iI_inN hn ⟨h.1.1, h.1.2.1⟩
      obtain ⟨b1, b2⟩ := e2 (xup g i.toNat v) (xup_B hg h.1.2.2)
      have kk := k Po Pt J hJ _ _ _ b1 h.2
      rw [b2] at kk
      refine xl_iast d e1 q1 ?_
      rw [q2, xup_upd]
      exact kk
    · exact h.elim
  · exact h.elim
theorem okLas {ag : AG σ} {ap : AP σ} (hv : vAg enc bd ag ap) (d : xl_D M pc .lastore 1 pc2) (k : bOk enc bd M rc rs pc2 B) : bOk enc bd M rc rs pc (oLas ag ap B) := by
  intro Po Pt J hJ L st s hb h
  unfold oLas at h
  split at h
  · next v i r st =>
    split at h
    · next n g hz =>
      obtain ⟨hn, hg, e1, e2⟩ := hv s r _ _ _ hb hz
      obtain ⟨q1, q2⟩ := iI_inN hn ⟨h.1.1, h.1.2.1⟩
      obtain ⟨b1, b2⟩ := e2 (xup g i.toNat v) (xup_B hg h.1.2.2)
      have kk := k Po Pt J hJ _ _ _ b1 h.2
      rw [b2] at kk
      refine xl_last d e1 q1 ?_
      rw [q2, xup_updL]
      exact kk
    · exact h.elim
  · exact h.elim
theorem okZas {ag : AG σ} {ap : AP σ} (hv : vAg enc bd ag ap) (d : xl_D M pc .bastore 1 pc2) (k : bOk enc bd M rc rs pc2 B) : bOk enc bd M rc rs pc (oZas ag ap B) := by
  intro Po Pt J hJ L st s hb h
  unfold oZas at h
  split at h
  · next v i r st =>
    split at h
    · next n g hz =>
      obtain ⟨hn, hg, e1, e2⟩ := hv s r _ _ _ hb hz
      obtain ⟨q1, q2⟩ := iI_inN hn ⟨h.1.1, h.1.2.1⟩
      obtain ⟨b1, b2⟩ := e2 (xup g i.toNat v) (xup_B hg (by rcases h.1.2.2 with rfl | rfl <;> exact ⟨by omega, by omega⟩))
      have kk := k Po Pt J hJ _ _ _ b1 h.2
      rw [b2] at kk
      refine xl_zast d e1 q1 ?_
      rw [q2, show vp_nar .boolean (iI v) = iI v by rcases h.1.2.2 with rfl | rfl <;> decide, xup_upd]
      exact kk
    · exact h.elim
  · exact h.elim
/-- Math.max, Math.min, System.arraycopy -/
def oMax (B : Blk σ) : Blk σ := fun J L st s => match st with
  | .inl b :: .inl a :: st => bif Nat.ble (pw st) 8 then (xB a ∧ xB b) ∧ B J L (.inl (max a b) :: st) s else False
  | _ => False
def oMin (B : Blk σ) : Blk σ := fun J L st s => match st with
  | .inl b :: .inl a :: st => bif Nat.ble (pw st) 8 then (xB a ∧ xB b) ∧ B J L (.inl (min a b) :: st) s else False
  | _ => False
theorem okMax (d : xl_Cm M pc Lib.Math.max.name Lib.Math.max.code pc2) (k : bOk enc bd M rc rs pc2 B) : bOk enc bd M rc rs pc (oMax B) := by
  intro Po Pt J hJ L st s hb h
  unfold oMax at h
  split at h
  · next b a st =>
    obtain ⟨h1, h2⟩ := condT h
    exact xz_max h2.1.1 h2.1.2 d (by rw [pw_ok]; exact Nat.le_of_ble_eq_true h1) (k Po Pt J hJ _ _ _ hb h2.2)
  · exact h.elim
theorem okMin (d : xl_Cm M pc Lib.Math.min.name Lib.Math.min.code pc2) (k : bOk enc bd M rc rs pc2 B) : bOk enc bd M rc rs pc (oMin B) := by
  intro Po Pt J hJ L st s hb h
  unfold oMin at h
  split at h
  · next b a st =>
    obtain ⟨h1, h2⟩ := condT h
    exact xz_min h2.1.1 h2.1.2 d (by rw [pw_ok]; exact Nat.le_of_ble_eq_true h1) (k Po Pt J hJ _ _ _ hb h2.2)
  · exact h.elim
def oCpy (ag : AG σ) (ap : AP σ) (B : Blk σ) : Blk σ := fun J L st s => match st with
  | .inl n :: .inl q :: .inr (.inr (.inl r1)) :: .inl p :: .inr (.inr (.inl r0)) :: st => match ag s r0 with
    | some (0, n0, f) => match ag s r1 with
      | some (0, n1, g) => bif Nat.ble (pw st) 8 then (0 ≤ p ∧ 0 ≤ q ∧ 0 ≤ n ∧ p + n ≤ (n0 : Int) ∧ q + n ≤ (n1 : Int)) ∧ B J L st (ap s r1 (xcp f g p.toNat q.toNat n.toNat)) else False
      | _ => False
    | _ => False
  | _ => False
theorem xcp_B {f g : Nat → Int} {p q n : Nat} (hf : ∀ k, xB (f k)) (hg : ∀ k, xB (g k)) : ∀ j, xB (xcp f g p q n j) := by
  intro j
  unfold xcp
  split
  · exact hf _
  · exact hg _
theorem okCpy {ag : AG σ} {ap : AP σ} (hv : vAg enc bd ag ap) (d : xl_Cy M pc pc2) (k : bOk enc bd M rc rs pc2 B) : bOk enc bd M rc rs pc (oCpy ag ap B) := by
  intro Po Pt J hJ L st s hb h
  unfold oCpy at h
  split at h
  · next n q r1 p r0 st =>
    split at h
    · next n0 f hz0 =>
      split at h
      · next n1 g hz1 =>
        obtain ⟨h1, h2, h3⟩ := condT h
        obtain ⟨hn0, hf, e0, -⟩ := hv s r0 _ _ _ hb hz0
        obtain ⟨hn1, hg, e1, e2⟩ := hv s r1 _ _ _ hb hz1
        obtain ⟨b1, b2⟩ := e2 _ (xcp_B (p := p.toNat) (q := q.toNat) (n := n.toNat) hf hg)
        have kk := k Po Pt J hJ _ _ _ b1 h3
        rw [b2] at kk
        have xp : xb p := ⟨by omega, by omega⟩
        have xq : xb q := ⟨by omega, by omega⟩
        have xn : xb n := ⟨by omega, by omega⟩
        refine xl_copy d e0 e1 (fun c => by have := (iI_lt0 xp).mp c; omega) (fun c => by have := (iI_lt0 xq).mp c; omega) (fun c => by have := (iI_lt0 xn).mp c; omega) (by rw [iI_nat xp, iI_nat xn]; omega) (by rw [iI_nat xq, iI_nat xn]; omega) (by rw [pw_ok]; exact Nat.le_of_ble_eq_true h1) ?_
        rw [iI_nat xp, iI_nat xq, iI_nat xn, xcp_cpy]
        exact kk
      · exact h.elim
    · exact h.elim
  · exact h.elim
/-- calls: a spec, by the arguments (the receiver first) -/
def cOk (enc : σ → XH) (bd : σ → Prop) (M : XI) (rc rs pc pc2 n : Nat) (sp : Sp σ) : Prop := ∀ (as : List PV) (L : PL) (st : PS) (s : σ) (K : PS → σ → Prop) (Q : Option (Option Value) → XH → Prop), as.length = n → pw st ≤ 8 → bd s → sp as s K → (∀ v s', K v s' → bd s' → xl_W M rc rs pc2 (eL L) ((v ++ st).map pV) (enc s') Q) → xl_W M rc rs pc (eL L) ((as.reverse ++ st).map pV) (enc s) Q

def oC0 (sp : Sp σ) (B : Blk σ) : Blk σ := fun J L st s => match st with
  | st => bif Nat.ble (pw st) 8 then sp [] s (fun v s' => B J L (v ++ st) s') else False
theorem okC0 {sp : Sp σ} (hc : cOk enc bd M rc rs pc pc2 0 sp) (k : bOk enc bd M rc rs pc2 B) : bOk enc bd M rc rs pc (oC0 sp B) := by
  intro Po Pt J hJ L st s hb h
  unfold oC0 at h
  obtain ⟨h1, h2⟩ := condT h
  exact hc [] L st s _ _ rfl (Nat.le_of_ble_eq_true h1) hb h2 (fun v s' q hb' => k Po Pt J hJ _ _ _ hb' q)
def oC1 (sp : Sp σ) (B : Blk σ) : Blk σ := fun J L st s => match st with
  | a0 :: st => bif Nat.ble (pw st) 8 then sp [a0] s (fun v s' => B J L (v ++ st) s') else False
  | _ => False
theorem okC1 {sp : Sp σ} (hc : cOk enc bd M rc rs pc pc2 1 sp) (k : bOk enc bd M rc rs pc2 B) : bOk enc bd M rc rs pc (oC1 sp B) := by
  intro Po Pt J hJ L st s hb h
  unfold oC1 at h
  split at h
  · next a0 st =>
    obtain ⟨h1, h2⟩ := condT h
    exact hc [a0] L st s _ _ rfl (Nat.le_of_ble_eq_true h1) hb h2 (fun v s' q hb' => k Po Pt J hJ _ _ _ hb' q)
  · exact h.elim
def oC2 (sp : Sp σ) (B : Blk σ) : Blk σ := fun J L st s => match st with
  | a1 :: a0 :: st => bif Nat.ble (pw st) 8 then sp [a0, a1] s (fun v s' => B J L (v ++ st) s') else False
  | _ => False
theorem okC2 {sp : Sp σ} (hc : cOk enc bd M rc rs pc pc2 2 sp) (k : bOk enc bd M rc rs pc2 B) : bOk enc bd M rc rs pc (oC2 sp B) := by
  intro Po Pt J hJ L st s hb h
  unfold oC2 at h
  split at h
  · next a1 a0 st =>
    obtain ⟨h1, h2⟩ := condT h
    exact hc [a0, a1] L st s _ _ rfl (Nat.le_of_ble_eq_true h1) hb h2 (fun v s' q hb' => k Po Pt J hJ _ _ _ hb' q)
  · exact h.elim
def oC3 (sp : Sp σ) (B : Blk σ) : Blk σ := fun J L st s => match st with
  | a2 :: a1 :: a0 :: st => bif Nat.ble (pw st) 8 then sp [a0, a1, a2] s (fun v s' => B J L (v ++ st) s') else False
  | _ => False
theorem okC3 {sp : Sp σ} (hc : cOk enc bd M rc rs pc pc2 3 sp) (k : bOk enc bd M rc rs pc2 B) : bOk enc bd M rc rs pc (oC3 sp B) := by
  intro Po Pt J hJ L st s hb h
  unfold oC3 at h
  split at h
  · next a2 a1 a0 st =>
    obtain ⟨h1, h2⟩ := condT h
    exact hc [a0, a1, a2] L st s _ _ rfl (Nat.le_of_ble_eq_true h1) hb h2 (fun v s' q hb' => k Po Pt J hJ _ _ _ hb' q)
  · exact h.elim
def oC4 (sp : Sp σ) (B : Blk σ) : Blk σ := fun J L st s => match st with
  | a3 :: a2 :: a1 :: a0 :: st => bif Nat.ble (pw st) 8 then sp [a0, a1, a2, a3] s (fun v s' => B J L (v ++ st) s') else False
  | _ => False
theorem okC4 {sp : Sp σ} (hc : cOk enc bd M rc rs pc pc2 4 sp) (k : bOk enc bd M rc rs pc2 B) : bOk enc bd M rc rs pc (oC4 sp B) := by
  intro Po Pt J hJ L st s hb h
  unfold oC4 at h
  split at h
  · next a3 a2 a1 a0 st =>
    obtain ⟨h1, h2⟩ := condT h
    exact hc [a0, a1, a2, a3] L st s _ _ rfl (Nat.le_of_ble_eq_true h1) hb h2 (fun v s' q hb' => k Po Pt J hJ _ _ _ hb' q)
  · exact h.elim
def oC5 (sp : Sp σ) (B : Blk σ) : Blk σ := fun J L st s => match st with
  | a4 :: a3 :: a2 :: a1 :: a0 :: st => bif Nat.ble (pw st) 8 then sp [a0, a1, a2, a3, a4] s (fun v s' => B J L (v ++ st) s') else False
  | _ => False
theorem okC5 {sp : Sp σ} (hc : cOk enc bd M rc rs pc pc2 5 sp) (k : bOk enc bd M rc rs pc2 B) : bOk enc bd M rc rs pc (oC5 sp B) := by
  intro Po Pt J hJ L st s hb h
  unfold oC5 at h
  split at h
  · next a4 a3 a2 a1 a0 st =>
    obtain ⟨h1, h2⟩ := condT h
    exact hc [a0, a1, a2, a3, a4] L st s _ _ rfl (Nat.le_of_ble_eq_true h1) hb h2 (fun v s' q hb' => k Po Pt J hJ _ _ _ hb' q)
  · exact h.elim
def oC6 (sp : Sp σ) (B : Blk σ) : Blk σ := fun J L st s => match st with
  | a5 :: a4 :: a3 :: a2 :: a1 :: a0 :: st => bif Nat.ble (pw st) 8 then sp [a0, a1, a2, a3, a4, a5] s (fun v s' => B J L (v ++ st) s') else False
  | _ => False
theorem okC6 {sp : Sp σ} (hc : cOk enc bd M rc rs pc pc2 6 sp) (k : bOk enc bd M rc rs pc2 B) : bOk enc bd M rc rs pc (oC6 sp B) := by
  intro Po Pt J hJ L st s hb h
  unfold oC6 at h
  split at h
  · next a5 a4 a3 a2 a1 a0 st =>
    obtain ⟨h1, h2⟩ := condT h
    exact hc [a0, a1, a2, a3, a4, a5] L st s _ _ rfl (Nat.le_of_ble_eq_true h1) hb h2 (fun v s' q hb' => k Po Pt J hJ _ _ _ hb' q)
  · exact h.elim
def oC7 (sp : Sp σ) (B : Blk σ) : Blk σ := fun J L st s => match st with
  | a6 :: a5 :: a4 :: a3 :: a2 :: a1 :: a0 :: st => bif Nat.ble (pw st) 8 then sp [a0, a1, a2, a3, a4, a5, a6] s (fun v s' => B J L (v ++ st) s') else False
  | _ => False
theorem okC7 {sp : Sp σ} (hc : cOk enc bd M rc rs pc pc2 7 sp) (k : bOk enc bd M rc rs pc2 B) : bOk enc bd M rc rs pc (oC7 sp B) := by
  intro Po Pt J hJ L st s hb h
  unfold oC7 at h
  split at h
  · next a6 a5 a4 a3 a2 a1 a0 st =>
    obtain ⟨h1, h2⟩ := condT h
    exact hc [a0, a1, a2, a3, a4, a5, a6] L st s _ _ rfl (Nat.le_of_ble_eq_true h1) hb h2 (fun v s' q hb' => k Po Pt J hJ _ _ _ hb' q)
  · exact h.elim
def oC8 (sp : Sp σ) (B : Blk σ) : Blk σ := fun J L st s => match st with
  | a7 :: a6 :: a5 :: a4 :: a3 :: a2 :: a1 :: a0 :: st => bif Nat.ble (pw st) 8 then sp [a0, a1, a2, a3, a4, a5, a6, a7] s (fun v s' => B J L (v ++ st) s') else False
  | _ => False
theorem okC8 {sp : Sp σ} (hc : cOk enc bd M rc rs pc pc2 8 sp) (k : bOk enc bd M rc rs pc2 B) : bOk enc bd M rc rs pc (oC8 sp B) := by
  intro Po Pt J hJ L st s hb h
  unfold oC8 at h
  split at h
  · next a7 a6 a5 a4 a3 a2 a1 a0 st =>
    obtain ⟨h1, h2⟩ := condT h
    exact hc [a0, a1, a2, a3, a4, a5, a6, a7] L st s _ _ rfl (Nat.le_of_ble_eq_true h1) hb h2 (fun v s' q hb' => k Po Pt J hJ _ _ _ hb' q)
  · exact h.elim
/-- the table of blocks -/
theorem tNode {A C : Nat → Blk σ} {c : Nat} (ha : ∀ pc, bOk enc bd M rc rs pc (A pc)) (hc : ∀ pc, bOk enc bd M rc rs pc (C pc)) : ∀ pc, bOk enc bd M rc rs pc (bif Nat.blt pc c then A pc else C pc) := by
  intro pc
  cases Nat.blt pc c with
  | true => exact ha pc
  | false => exact hc pc
def oNo : Blk σ := fun _ _ _ _ => False
theorem tLeaf {c : Nat} (ha : bOk enc bd M rc rs c B) : ∀ pc, bOk enc bd M rc rs pc (bif Nat.beq pc c then B else oNo) := by
  intro pc
  cases e : Nat.beq pc c with
  | true => rw [Nat.eq_of_beq_eq_true e]; exact ha
  | false => intro Po Pt J hJ L st s hb h; exact h.elim
theorem wp_ok {T : Nat → Blk σ} {cut : List Nat} {Po : PS → σ → Prop} {Pt : σ → Prop} (hT : ∀ pc, bOk enc bd M rc rs pc (T pc)) : ∀ (n pc : Nat) (L : PL) (st : PS) (s : σ), wp T cut (wX enc bd M rc rs Po Pt) n pc L st s → wX enc bd M rc rs Po Pt pc L st s
  | 0, pc, L, st, s, h => h
  | n + 1, pc, L, st, s, h => by
    unfold wp at h
    cases e1 : Nat.ble 1000000 pc with
    | true => rw [e1] at h; exact h
    | false =>
      rw [e1] at h
      cases e2 : pIn cut pc with
      | true => rw [e2] at h; exact h
      | false =>
        rw [e2] at h
        have hlt : pc < 1000000 := by
          cases Nat.lt_or_ge pc 1000000 with
          | inl q => exact q
          | inr q => rw [Nat.ble_eq_true_of_le q] at e1; cases e1
        rw [wX_lt hlt]
        intro hb
        exact hT pc Po Pt _ (fun pc L st s q => wp_ok hT n pc L st s q) L st s hb h
/-- from a place of the code on -/
theorem wx_go {T : Nat → Blk σ} (cut : List Nat) (n : Nat) {Po : PS → σ → Prop} {Pt : σ → Prop} {pc : Nat} {L : PL} {st : PS} {s : σ} (hT : ∀ pc, bOk enc bd M rc rs pc (T pc)) (hlt : Nat.blt pc 1000000 = true) (h : T pc (wp T cut (wX enc bd M rc rs Po Pt) n) L st s) : wX enc bd M rc rs Po Pt pc L st s := by
  rw [wX_lt (Nat.le_of_ble_eq_true hlt)]
  intro hb
  exact hT pc Po Pt _ (fun pc L st s q => wp_ok hT n pc L st s q) L st s hb h
/-- a method's contract: the spec by its arguments -/
def mOk (enc : σ → XH) (bd : σ → Prop) (μ : XI) (sp : Sp σ) : Prop := ∀ as s K, bd s → sp as s K → xl_C μ 0 0 (as.map pV) (enc s) (fun v h' => ∃ (v' : PS) (s' : σ), v.toList = v'.map pV ∧ h' = enc s' ∧ bd s' ∧ (∀ a, v ≠ some (.ref a)) ∧ K v' s')
def pe : List PV → Nat → PL
  | [], n => List.replicate n none
  | .inr (.inl z) :: vs, n => some (.inr (.inl z)) :: none :: pe vs (n - 2)
  | v :: vs, n => some v :: pe vs (n - 1)
theorem pe_ok : ∀ (as : List PV) (n : Nat), xl_e (as.map pV) n = eL (pe as n)
  | [], n => by simp [xl_e, pe, eL]
  | v :: vs, n => by
    rcases v with z | z | r | j
    · simp only [List.map_cons, xl_e, pe, pV, xl_1, if_true, pe_ok vs (n - 1)]; rfl
    · simp only [List.map_cons, xl_e, pe, pV, xl_1, pe_ok vs (n - 2)]; rfl
    · simp only [List.map_cons, xl_e, pe, pV, xl_1, if_true, pe_ok vs (n - 1)]; rfl
    · simp only [List.map_cons, xl_e, pe, pV, xl_1, if_true, pe_ok vs (n - 1)]; rfl
theorem pz_ok : ∀ (as : List PV), xl_z (as.map pV) = pw as
  | [] => rfl
  | v :: vs => by
    rcases v with z | z | r | j <;> simp only [List.map_cons, xl_z, pz_ok vs] <;> rfl
/-- a contract out of the walk -/
theorem mOk_of {μ : XI} {sp : Sp σ} (hk : xl_K μ) (h : ∀ as s K, sp as s K → Nat.ble (pw as) μ.2.2.1 = true ∧ (bd s → wX enc bd μ 0 0 K (fun _ => False) 0 (pe as μ.2.2.1) [] s)) : mOk enc bd μ sp := by
  intro as s K hb hs
  obtain ⟨h1, h2⟩ := h as s K hs
  have h2 := h2 hb
  rw [wX_lt (by decide)] at h2
  refine xl_con hk _ (pe_ok as _) (by rw [pz_ok]; exact Nat.le_of_ble_eq_true h1) ?_
  have e : (fun (v : Option (Option Value)) (h' : XH) => ∃ w, v = some w ∧ ∃ (v' : PS) (s' : σ), w.toList = v'.map pV ∧ h' = enc s' ∧ bd s' ∧ (∀ a, w ≠ some (.ref a)) ∧ K v' s') = wQ enc bd K (fun _ => False) := by
    funext v h'
    cases v with
    | none => apply propext; constructor
              · rintro ⟨w, e, -⟩; cases e
              · rintro ⟨s', -, -, e⟩; exact e.elim
    | some w => apply propext; constructor
                · rintro ⟨w', e, q⟩; cases e; exact q
                · intro q; exact ⟨w, rfl, q⟩
  rw [e]
  exact h2 hb
end OPS
end
-- 12.link
section
/-! ===== calls: a callee's view among the caller's ===== -/
section LNK
variable {σ τ : Type} {enc : σ → XH} {bd : σ → Prop} {enc' : τ → XH} {bd' : τ → Prop} {M μ : XI} {rc rs pc pc2 : Nat}
def pRel (π : Nat → Nat) : PV → PV := fun v => match v with
  | .inr (.inr (.inl r)) => .inr (.inr (.inl (π r)))
  | .inl z => .inl z
  | .inr (.inl z) => .inr (.inl z)
  | .inr (.inr (.inr j)) => .inr (.inr (.inr j))
theorem pRel_v (π ρ σ' : Nat → Nat) (v : PV) : xl_v ρ σ' (pV (pRel π v)) = xl_v (fun k => ρ (π k)) σ' (pV v) := by
  rcases v with z | z | r | j <;> rfl
theorem pRel_m (π ρ σ' : Nat → Nat) (l : List PV) : ((l.map (pRel π)).map pV).map (xl_v ρ σ') = (l.map pV).map (xl_v (fun k => ρ (π k)) σ') := by
  rw [List.map_map, List.map_map, List.map_map]
  exact List.map_congr_left (fun v _ => pRel_v π ρ σ' v)
def vLk (enc : σ → XH) (bd : σ → Prop) (enc' : τ → XH) (bd' : τ → Prop) (π : Nat → Nat) (sub : σ → τ) (put : σ → τ → σ) : Prop :=
  (∀ s, bd s → bd' (sub s) ∧ xl_pi π (enc s) (enc' (sub s)) ∧ ∀ j c, (enc' (sub s))[j]? = some c → xl_ok π j c) ∧ ∀ s s', bd s → bd' s' → bd (put s s') ∧ (enc' s').length = (enc' (sub s)).length ∧ xl_back π (enc' (sub s)).length (enc s) (enc' s') (enc (put s s')) ∧ ∀ j c, (enc' s')[j]? = some c → xl_ok π j c
theorem xl_back_u {π : Nat → Nat} {n : Nat} {h h' h1 h2 : XH} (a : xl_back π n h h' h1) (b : xl_back π n h h' h2) : h1 = h2 := by
  apply List.ext_getElem?
  intro k
  by_cases hk : ∃ j, j < n ∧ π j = k
  · obtain ⟨j, hj, rfl⟩ := hk
    rw [a.2.1 j hj, b.2.1 j hj]
  · rw [a.2.2 k (fun j hj e => hk ⟨j, hj, e⟩), b.2.2 k (fun j hj e => hk ⟨j, hj, e⟩)]
theorem cVirt {sp' : Sp τ} {sp : Sp σ} {ci n : Nat} (hm : mOk enc' bd' μ sp') (hv : xl_V μ) (d : xl_Ca M pc μ pc2) (hcl : ∃ T N, vwCl[ci]? = some (μ.1.cls, T, N)) (hn : n = μ.2.2.2.2.2.2 + 1)
    (h : ∀ as s K, bd s → sp as s K → ∃ (π : Nat → Nat) (sub : σ → τ) (put : σ → τ → σ) (as' : List PV), vLk enc bd enc' bd' π sub put ∧ (∃ fs, xl_n (enc s) (π 0) = some (.inr (ci, fs))) ∧ as = pR (π 0) :: as'.map (pRel π) ∧ sp' (pR 0 :: as') (sub s) (fun v s' => K v (put s s'))) : cOk enc bd M rc rs pc pc2 n sp := by
  intro as L st s K Q hlen hw hb hs hk
  obtain ⟨π, sub, put, as', lk, ⟨fs, hh⟩, rfl, hs'⟩ := h as s K hb hs
  obtain ⟨b1, b2, b3⟩ := lk.1 s hb
  have hc := hm _ _ _ b1 hs'
  refine xl_callV (mc := 0) (ms := 0) (As := (as'.map (pRel π)).map pV) (As' := (pR 0 :: as').map pV) (rest := st.map pV) π d hv hcl hh ?_ ?_ ?_ ?_ b2 b3 hc ?_ ?_
  · simp [List.map_append, List.map_reverse, pV]
  · simp at hlen ⊢; omega
  · rw [pw_ok]; exact hw
  · intro ρ σ'
    rw [List.map_cons, pRel_m]
    rfl
  · rintro v h' ⟨v', s', e1, rfl, q1, q2, q3⟩
    obtain ⟨p1, p2, p3, p4⟩ := lk.2 s s' hb q1
    exact ⟨p2, p4, q2⟩
  · rintro v h' h1 ⟨v', s', e1, rfl, q1, q2, q3⟩ hbk
    obtain ⟨p1, p2, p3, p4⟩ := lk.2 s s' hb q1
    rw [xl_back_u hbk p3, e1, ← List.map_append]
    exact hk _ _ q3 p1
theorem cStat {sp' : Sp τ} {sp : Sp σ} {n : Nat} (hm : mOk enc' bd' μ sp') (hv : xl_U μ) (d : xl_Cs M pc μ pc2) (hn : n = μ.2.2.2.2.2.2)
    (h : ∀ as s K, bd s → sp as s K → ∃ (π : Nat → Nat) (sub : σ → τ) (put : σ → τ → σ) (as' : List PV), vLk enc bd enc' bd' π sub put ∧ as = as'.map (pRel π) ∧ sp' as' (sub s) (fun v s' => K v (put s s'))) : cOk enc bd M rc rs pc pc2 n sp := by
  intro as L st s K Q hlen hw hb hs hk
  obtain ⟨π, sub, put, as', lk, rfl, hs'⟩ := h as s K hb hs
  obtain ⟨b1, b2, b3⟩ := lk.1 s hb
  have hc := hm _ _ _ b1 hs'
  refine xl_callS (mc := 0) (ms := 0) (As := (as'.map (pRel π)).map pV) (As' := as'.map pV) (rest := st.map pV) π d hv ?_ ?_ ?_ ?_ b2 b3 hc ?_ ?_
  · simp [List.map_append, List.map_reverse]
  · simp at hlen ⊢; omega
  · rw [pw_ok]; exact hw
  · intro ρ σ'
    exact pRel_m π ρ σ' as'
  · rintro v h' ⟨v', s', e1, rfl, q1, q2, q3⟩
    obtain ⟨p1, p2, p3, p4⟩ := lk.2 s s' hb q1
    exact ⟨p2, p4, q2⟩
  · rintro v h' h1 ⟨v', s', e1, rfl, q1, q2, q3⟩ hbk
    obtain ⟨p1, p2, p3, p4⟩ := lk.2 s s' hb q1
    rw [xl_back_u hbk p3, e1, ← List.map_append]
    exact hk _ _ q3 p1
/-- the same cells -/
theorem vLk_id (hl : ∀ s s' : σ, (enc s').length = (enc s).length) : vLk enc bd enc bd (fun k => k) (fun s => s) (fun _ s' => s') :=
  ⟨fun s hb => ⟨hb, xl_pi_all, fun j c _ => xl_ok_all j c⟩, fun s s' hb hb' => ⟨hb', hl s s', ⟨by rw [hl s s'], fun j _ => rfl, fun k hk => by
    have h1 : ¬ k < (enc s).length := fun q => hk k q rfl
    rw [List.getElem?_eq_none (by rw [hl s s']; omega), List.getElem?_eq_none (by omega)]⟩, fun j c _ => xl_ok_all j c⟩⟩
/-- a run of places -/
theorem vLk_run {sub : σ → τ} {put : σ → τ → σ} {r n : Nat} (hn : ∀ t : τ, (enc' t).length = n) (h0 : 0 < n) (h1 : ∀ s, ((enc s).drop r).take n = enc' (sub s)) (h2 : ∀ s t, enc (put s t) = (enc s).take r ++ (enc' t ++ (enc s).drop (r + n))) (h3 : ∀ s, bd s → bd' (sub s)) (h4 : ∀ s t, bd s → bd' t → bd (put s t)) (h5 : ∀ s, r + n ≤ (enc s).length) : vLk enc bd enc' bd' (fun k => r + k) sub put := by
  refine ⟨fun s hb => ⟨h3 s hb, xl_pi_add (by rw [hn]; exact h1 s), fun j c _ => xl_ok_add r j c⟩, fun s t hb hb' => ⟨h4 s t hb hb', by rw [hn, hn], ⟨?_, ?_, ?_⟩, fun j c _ => xl_ok_add r j c⟩⟩
  · rw [h2]; simp only [List.length_append, List.length_take, List.length_drop, hn]; have := h5 s; omega
  · intro j hj
    rw [hn] at hj
    show (enc (put s t))[r + j]? = _
    rw [h2, List.getElem?_append_right (by rw [List.length_take]; omega), List.length_take, Nat.min_eq_left (by have := h5 s; omega), List.getElem?_append_left (by rw [hn]; omega)]
    congr 1; omega
  · intro k hk
    have hout : k < r ∨ r + n ≤ k := by
      rcases Nat.lt_or_ge k r with q | q
      · exact Or.inl q
      · rcases Nat.lt_or_ge k (r + n) with q2 | q2
        · exact absurd (show r + (k - r) = k by omega) (hk (k - r) (by rw [hn]; omega))
        · exact Or.inr q2
    have h5 := h5 s
    rcases hout with q | q
    · rw [h2, List.getElem?_append_left (by rw [List.length_take]; omega), List.getElem?_take, if_pos q]
    · rw [h2, List.getElem?_append_right (by rw [List.length_take]; omega), List.length_take, Nat.min_eq_left (by omega), List.getElem?_append_right (by rw [hn]; omega), hn, List.getElem?_drop]
      congr 1; omega
/-- no cells -/
theorem vLk_no : vLk enc bd (fun _ : Unit => []) (fun _ => True) (fun k => k) (fun _ => ()) (fun s _ => s) :=
  ⟨fun s hb => ⟨trivial, ⟨fun i j hi => by simp at hi, fun j hj => by simp at hj⟩, fun j c e => by simp at e⟩, fun s s' hb _ => ⟨hb, rfl, ⟨rfl, fun j hj => by simp at hj, fun k _ => rfl⟩, fun j c e => by simp at e⟩⟩
/-- specs that stay with their state -/
def spRO (sp : Sp τ) : Prop := ∀ as s K, sp as s K → sp as s (fun v s' => s' = s ∧ K v s')
def atR (r : Nat) (f : List PV → σ → (PS → σ → Prop) → Prop) : Sp σ := fun as s K => match as with
  | .inr (.inr (.inl q)) :: as => bif Nat.beq q r then f as s K else False
  | _ => False
theorem atR_inv {r : Nat} {f : List PV → σ → (PS → σ → Prop) → Prop} {as : List PV} {s : σ} {K : PS → σ → Prop} (h : atR r f as s K) : ∃ as', as = pR r :: as' ∧ f as' s K := by
  unfold atR at h
  split at h
  · next q as =>
    obtain ⟨h1, h2⟩ := condT h
    rw [Nat.eq_of_beq_eq_true h1]
    exact ⟨as, rfl, h2⟩
  · exact h.elim
def pnr : PV → Bool := fun v => match v with
  | .inr (.inr (.inl _)) => false
  | _ => true
theorem pnr_rel {π : Nat → Nat} : ∀ {l : List PV}, l.all pnr = true → l.map (pRel π) = l
  | [], _ => rfl
  | v :: l, h => by
    rw [List.all_cons, Bool.and_eq_true] at h
    rw [List.map_cons, pnr_rel h.2]
    rcases v with z | z | r | j
    · rfl
    · rfl
    · cases h.1
    · rfl
theorem pid_rel : ∀ (l : List PV), l.map (pRel (fun k => k)) = l
  | [] => rfl
  | v :: l => by rw [List.map_cons, pid_rel l]; rcases v with z | z | r | j <;> rfl
/-- a method of the same cells -/
theorem cSame {f : List PV → σ → (PS → σ → Prop) → Prop} {ci n : Nat} (hm : mOk enc bd μ (atR 0 f)) (hv : xl_V μ) (d : xl_Ca M pc μ pc2) (hcl : ∃ T N, vwCl[ci]? = some (μ.1.cls, T, N)) (hn : n = μ.2.2.2.2.2.2 + 1) (hl : ∀ s s' : σ, (enc s').length = (enc s).length) (hr : ∀ s, ∃ fs, xl_n (enc s) 0 = some (.inr (ci, fs))) : cOk enc bd M rc rs pc pc2 n (atR 0 f) := by
  refine cVirt hm hv d hcl hn (fun as s K hb hs => ?_)
  obtain ⟨as', rfl, h⟩ := atR_inv hs
  exact ⟨fun k => k, fun s => s, fun _ s' => s', as', vLk_id hl, hr s, by rw [pid_rel], hs⟩
/-- a static method that sees no cells -/
theorem cNone {f : List PV → (PS → Prop) → Prop} {n : Nat} (hm : mOk (fun _ : Unit => []) (fun _ => True) μ (fun as _ K => as.all pnr = true ∧ f as (fun v => K v ()))) (hv : xl_U μ) (d : xl_Cs M pc μ pc2) (hn : n = μ.2.2.2.2.2.2) : cOk enc bd M rc rs pc pc2 n (fun as s K => as.all pnr = true ∧ f as (fun v => K v s)) := by
  refine cStat hm hv d hn (fun as s K hb hs => ?_)
  exact ⟨fun k => k, fun _ => (), fun s _ => s, as, vLk_no, by rw [pid_rel], hs⟩
end LNK
end
-- 13.opsw
section
/-! ===== more ops: sums that may go round, switches, arrays of objects ===== -/
theorem tl {t : Nat} (h : Nat.blt t 1000000 = true) : t < 1000000 := Nat.le_of_ble_eq_true h
/-- a whole number as an int has it -/
def wI (z : Int) : Int := (iI z).toInt
theorem wI_B (z : Int) : xB (wI z) := xb_of _
theorem wI_eq {z : Int} (h : xB z) : wI z = z := iI_toInt h
theorem iI_wI (z : Int) : iI (wI z) = iI z := iI_of _
section OPW
variable {σ : Type} {enc : σ → XH} {bd : σ → Prop} {M : XI} {rc rs pc pc2 tgt : Nat} {B : Blk σ}
def oAddW (B : Blk σ) : Blk σ := fun J L st s => match st with
  | .inl b :: .inl a :: st => xB (wI (a + b)) → B J L (.inl (wI (a + b)) :: st) s
  | _ => False
def oSubW (B : Blk σ) : Blk σ := fun J L st s => match st with
  | .inl b :: .inl a :: st => xB (wI (a - b)) → B J L (.inl (wI (a - b)) :: st) s
  | _ => False
def oMulW (B : Blk σ) : Blk σ := fun J L st s => match st with
  | .inl b :: .inl a :: st => xB (wI (a * b)) → B J L (.inl (wI (a * b)) :: st) s
  | _ => False
theorem pV_wI (z : Int) : pV (.inl (wI z)) = pV (.inl z) := congrArg Value.int (iI_wI z)
theorem okAddW (d : xl_D M pc .iadd 1 pc2) (k : bOk enc bd M rc rs pc2 B) : bOk enc bd M rc rs pc (oAddW B) := by
  intro Po Pt J hJ L st s hb h
  unfold oAddW at h
  split at h
  · next b a st => 
    have := k Po Pt J hJ _ _ _ hb (h (wI_B _))
    rw [List.map_cons, pV_wI] at this
    exact xz_iadd d this
  · exact h.elim
theorem okSubW (d : xl_D M pc .isub 1 pc2) (k : bOk enc bd M rc rs pc2 B) : bOk enc bd M rc rs pc (oSubW B) := by
  intro Po Pt J hJ L st s hb h
  unfold oSubW at h
  split at h
  · next b a st => 
    have := k Po Pt J hJ _ _ _ hb (h (wI_B _))
    rw [List.map_cons, pV_wI] at this
    exact xz_isub d this
  · exact h.elim
theorem okMulW (d : xl_D M pc .imul 1 pc2) (k : bOk enc bd M rc rs pc2 B) : bOk enc bd M rc rs pc (oMulW B) := by
  intro Po Pt J hJ L st s hb h
  unfold oMulW at h
  split at h
  · next b a st => 
    have := k Po Pt J hJ _ _ _ hb (h (wI_B _))
    rw [List.map_cons, pV_wI] at this
    exact xz_imul d this
  · exact h.elim
/-- the place of an object in an array: each one by itself -/
def oAa (ar : σ → Nat → Option (Nat × (Nat → Nat))) (B : Blk σ) : Blk σ := fun J L st s => match st with
  | .inl i :: .inr (.inr (.inl r)) :: st => match ar s r with
    | some (n, q) => (0 ≤ i ∧ i < (n : Int)) ∧ ∀ j : Nat, j < n → i = (j : Int) → B J L (.inr (.inr (.inl (q j))) :: st) s
    | none => False
  | _ => False
def vAr (enc : σ → XH) (bd : σ → Prop) (ar : σ → Nat → Option (Nat × (Nat → Nat))) : Prop := ∀ s r n q, bd s → ar s r = some (n, q) → n ≤ 1000000 ∧ ∃ f, xl_n (enc s) r = some (xQ n f) ∧ ∀ j, j < n → ∃ d, f j = some d ∧ r + d = q j
theorem okAa {ar : σ → Nat → Option (Nat × (Nat → Nat))} (hv : vAr enc bd ar) (d : xl_D M pc .aaload 1 pc2) (k : bOk enc bd M rc rs pc2 B) : bOk enc bd M rc rs pc (oAa ar B) := by
  intro Po Pt J hJ L st s hb h
  unfold oAa at h
  split at h
  · next i r st =>
    split at h
    · next n q hz =>
      obtain ⟨hn, f, e1, e2⟩ := hv s r _ _ hb hz
      obtain ⟨q1, q2⟩ := iI_inN hn h.1
      obtain ⟨dd, e3, e4⟩ := e2 i.toNat (by omega)
      refine xl_aald d e1 q1 (q := dd) (by rw [q2]; exact e3) ?_
      rw [e4]
      exact k Po Pt J hJ _ _ _ hb (h.2 i.toNat (by omega) (by omega))
    · exact h.elim
  · exact h.elim
/-- switches -/
def oTabP (J : JP σ) (L : PL) (st : PS) (s : σ) (z lo0 : Int) (df : Nat) : List Nat → Int → Prop
  | [], lo => (z < lo0 ∨ lo ≤ z) → J df L st s
  | t :: ts, lo => (z = lo → J t L st s) ∧ oTabP J L st s z lo0 df ts (lo + 1)
def oTab (lo : Int) (ts : List Nat) (df : Nat) : Blk σ := fun J L st s => match st with
  | .inl z :: st => xB z ∧ oTabP J L st s z lo df ts lo
  | _ => False
theorem oTabP_in {J : JP σ} {L : PL} {st : PS} {s : σ} {z lo0 : Int} {df : Nat} : ∀ (ts : List Nat) (lo : Int), oTabP J L st s z lo0 df ts lo → ∀ (k t : Nat), ts[k]? = some t → z = lo + k → J t L st s
  | [], lo, _, k, t, e, _ => by simp at e
  | a :: ts, lo, h, 0, t, e, hz => by
    simp at e; subst e
    exact h.1 (by omega)
  | a :: ts, lo, h, k + 1, t, e, hz => oTabP_in ts (lo + 1) h.2 k t (by simpa using e) (by omega)
theorem oTabP_out {J : JP σ} {L : PL} {st : PS} {s : σ} {z lo0 : Int} {df : Nat} : ∀ (ts : List Nat) (lo : Int), oTabP J L st s z lo0 df ts lo → (z < lo0 ∨ lo + ts.length ≤ z) → J df L st s
  | [], lo, h, hz => h (by simpa using hz)
  | a :: ts, lo, h, hz => oTabP_out ts (lo + 1) h.2 (by simp only [List.length_cons] at hz; omega)
theorem xl_tab {L : List (Option Value)} {st : List Value} {h : XH} {Po : Option (Option Value) → XH → Prop} {a : Int32} {dflt lo hi : Int} {offs : Array Int} {len : Nat} (d : decode M.2.1 pc = .ok (.tableswitch dflt lo hi offs, len)) (ts : List Nat) (df : Nat) (h1 : (pc : Int) + dflt = df) (h2 : ∀ k : Nat, (k : Int) ≤ hi - lo → ∃ (off : Int) (t : Nat), offs[k]? = some off ∧ ts[k]? = some t ∧ (pc : Int) + off = t)
    (ki : ∀ (k t : Nat), ts[k]? = some t → a.toInt = lo + k → xl_W M rc rs t L st h Po) (ko : a.toInt < lo ∨ hi < a.toInt → xl_W M rc rs df L st h Po) : xl_W M rc rs pc L (.int a :: st) h Po := by
  intro p l e R s m args below meth c D aC ρ σ aV A H locs cells slots ls Q hX hH hL q1 q2 hr ht
  by_cases c1 : a.toInt < lo ∨ hi < a.toInt
  · exact lv_tableOut hX.1 hX.2.1 d c1 h1 (ko c1 p l e R s m args below meth c D aC ρ σ aV A H locs cells slots ls Q hX hH hL q1 q2 hr ht)
  · obtain ⟨off, t, e1, e2, e3⟩ := h2 (a.toInt - lo).toNat (by omega)
    exact lv_tableIn hX.1 hX.2.1 d (by omega) (by omega) e1 e3 (ki _ t e2 (by omega) p l e R s m args below meth c D aC ρ σ aV A H locs cells slots ls Q hX hH hL q1 q2 hr ht)
def tabOk (pc : Nat) : List Int → List Nat → Bool
  | [], [] => true
  | o :: os, t :: ts => decide ((pc : Int) + o = (t : Int)) && (decide (t < 1000000) && tabOk pc os ts)
  | _, _ => false
theorem tabOk_at {pc : Nat} : ∀ (os : List Int) (ts : List Nat), tabOk pc os ts = true → os.length = ts.length ∧ ∀ (k : Nat), k < ts.length → ∃ (off : Int) (t : Nat), os[k]? = some off ∧ ts[k]? = some t ∧ (pc : Int) + off = t ∧ t < 1000000
  | [], [], _ => ⟨rfl, fun k hk => by simp at hk⟩
  | [], _ :: _, h => by simp [tabOk] at h
  | _ :: _, [], h => by simp [tabOk] at h
  | o :: os, t :: ts, h => by
    simp only [tabOk, Bool.and_eq_true, decide_eq_true_eq] at h
    obtain ⟨e1, e2⟩ := tabOk_at os ts h.2.2
    refine ⟨by simp [e1], fun k hk => ?_⟩
    cases k with
    | zero => exact ⟨o, t, rfl, rfl, h.1, h.2.1⟩
    | succ k => 
      obtain ⟨off, t', a1, a2, a3, a4⟩ := e2 k (by simpa using hk)
      exact ⟨off, t', by simpa using a1, by simpa using a2, a3, a4⟩
theorem okTab {dflt lo hi : Int} {offs : Array Int} {len : Nat} {ts : List Nat} {df : Nat} (h1 : (pc : Int) + dflt = df ∧ df < 1000000) (h2 : tabOk pc offs.toList ts = true) (h3 : lo + ts.length = hi + 1) (d : decode M.2.1 pc = .ok (.tableswitch dflt lo hi offs, len)) : bOk enc bd M rc rs pc (oTab lo ts df) := by
  intro Po Pt J hJ L st s hb h
  unfold oTab at h
  split at h
  · next z st =>
    obtain ⟨l1, l2⟩ := tabOk_at _ _ h2
    have hz : (iI z).toInt = z := iI_toInt h.1
    refine xl_tab d ts df h1.1 (fun k hk => ?_) (fun k t e1 e2 => ?_) (fun c => ?_)
    · obtain ⟨off, t, a1, a2, a3, a4⟩ := l2 k (by omega)
      exact ⟨off, t, by rw [← Array.getElem?_toList]; exact a1, a2, a3⟩
    · rw [hz] at e2
      have := hJ _ _ _ _ (oTabP_in ts lo h.2 k t e1 e2)
      obtain ⟨hk, -⟩ := List.getElem?_eq_some_iff.mp e1
      obtain ⟨off, t', a1, a2, a3, a4⟩ := l2 k hk
      rw [e1] at a2
      cases a2
      rw [wX_lt a4] at this
      exact this hb
    · rw [hz] at c
      have := hJ _ _ _ _ (oTabP_out ts lo h.2 (by omega))
      rw [wX_lt h1.2] at this
      exact this hb
  · exact h.elim
def oLookP (J : JP σ) (L : PL) (st : PS) (s : σ) (z : Int) (df : Nat) : List (Int × Nat) → Prop
  | [] => J df L st s
  | (k, t) :: ps => (z = k → J t L st s) ∧ (z ≠ k → oLookP J L st s z df ps)
def oLook (ps : List (Int × Nat)) (df : Nat) : Blk σ := fun J L st s => match st with
  | .inl z :: st => xB z ∧ oLookP J L st s z df ps
  | _ => False
end OPW
end
-- 14.ari
section
/-! ===== specs by the number of their arguments (ints; longs j) ===== -/
section ARI
variable {σ : Type} {enc : σ → XH} {bd : σ → Prop} {μ : XI}
def a0 (f : σ → (PS → σ → Prop) → Prop) : List PV → σ → (PS → σ → Prop) → Prop := fun as s K => match as with
  | [] => f  s K
  | _ => False
theorem mOVa0 {f : σ → (PS → σ → Prop) → Prop} (hk : xl_K μ) (hp : ∀ (_ : Unit), Nat.ble (pw (pR 0 :: [])) μ.2.2.1 = true) (h : ∀ (s : σ) (K : PS → σ → Prop), f  s K → bd s → wX enc bd μ 0 0 K (fun _ => False) 0 (pe (pR 0 :: []) μ.2.2.1) [] s) : mOk enc bd μ (atR 0 (a0 f)) := by
  refine mOk_of hk (fun as s K q => ?_)
  obtain ⟨as, rfl, q1⟩ := atR_inv q
  unfold a0 at q1
  split at q1
  · exact ⟨hp (), fun hb => h  s K q1 hb⟩
  · exact q1.elim
theorem mOSa0 {f : σ → (PS → σ → Prop) → Prop} (hk : xl_K μ) (hp : ∀ (_ : Unit), Nat.ble (pw ([] : List PV)) μ.2.2.1 = true) (h : ∀ (s : σ) (K : PS → σ → Prop), f  s K → bd s → wX enc bd μ 0 0 K (fun _ => False) 0 (pe ([] : List PV) μ.2.2.1) [] s) : mOk enc bd μ (a0 f) := by
  refine mOk_of hk (fun as s K q => ?_)
  have q1 := q
  unfold a0 at q1
  split at q1
  · exact ⟨hp (), fun hb => h  s K q1 hb⟩
  · exact q1.elim
def a1 (f : Int → σ → (PS → σ → Prop) → Prop) : List PV → σ → (PS → σ → Prop) → Prop := fun as s K => match as with
  | [.inl x0] => f x0 s K
  | _ => False
theorem mOVa1 {f : Int → σ → (PS → σ → Prop) → Prop} (hk : xl_K μ) (hp : ∀ (x0 : Int), Nat.ble (pw (pR 0 :: [(.inl x0 : PV)])) μ.2.2.1 = true) (h : ∀ (x0 : Int) (s : σ) (K : PS → σ → Prop), f x0 s K → bd s → wX enc bd μ 0 0 K (fun _ => False) 0 (pe (pR 0 :: [(.inl x0 : PV)]) μ.2.2.1) [] s) : mOk enc bd μ (atR 0 (a1 f)) := by
  refine mOk_of hk (fun as s K q => ?_)
  obtain ⟨as, rfl, q1⟩ := atR_inv q
  unfold a1 at q1
  split at q1
  · next x0 =>
    exact ⟨hp x0, fun hb => h x0 s K q1 hb⟩
  · exact q1.elim
theorem mOSa1 {f : Int → σ → (PS → σ → Prop) → Prop} (hk : xl_K μ) (hp : ∀ (x0 : Int), Nat.ble (pw [(.inl x0 : PV)]) μ.2.2.1 = true) (h : ∀ (x0 : Int) (s : σ) (K : PS → σ → Prop), f x0 s K → bd s → wX enc bd μ 0 0 K (fun _ => False) 0 (pe [(.inl x0 : PV)] μ.2.2.1) [] s) : mOk enc bd μ (a1 f) := by
  refine mOk_of hk (fun as s K q => ?_)
  have q1 := q
  unfold a1 at q1
  split at q1
  · next x0 =>
    exact ⟨hp x0, fun hb => h x0 s K q1 hb⟩
  · exact q1.elim
def a2 (f : Int → Int → σ → (PS → σ → Prop) → Prop) : List PV → σ → (PS → σ → Prop) → Prop := fun as s K => match as with
  | [.inl x0, .inl x1] => f x0 x1 s K
  | _ => False
theorem mOVa2 {f : Int → Int → σ → (PS → σ → Prop) → Prop} (hk : xl_K μ) (hp : ∀ (x0 x1 : Int), Nat.ble (pw (pR 0 :: [(.inl x0 : PV), (.inl x1 : PV)])) μ.2.2.1 = true) (h : ∀ (x0 x1 : Int) (s : σ) (K : PS → σ → Prop), f x0 x1 s K → bd s → wX enc bd μ 0 0 K (fun _ => False) 0 (pe (pR 0 :: [(.inl x0 : PV), (.inl x1 : PV)]) μ.2.2.1) [] s) : mOk enc bd μ (atR 0 (a2 f)) := by
  refine mOk_of hk (fun as s K q => ?_)
  obtain ⟨as, rfl, q1⟩ := atR_inv q
  unfold a2 at q1
  split at q1
  · next x0 x1 =>
    exact ⟨hp x0 x1, fun hb => h x0 x1 s K q1 hb⟩
  · exact q1.elim
theorem mOSa2 {f : Int → Int → σ → (PS → σ → Prop) → Prop} (hk : xl_K μ) (hp : ∀ (x0 x1 : Int), Nat.ble (pw [(.inl x0 : PV), (.inl x1 : PV)]) μ.2.2.1 = true) (h : ∀ (x0 x1 : Int) (s : σ) (K : PS → σ → Prop), f x0 x1 s K → bd s → wX enc bd μ 0 0 K (fun _ => False) 0 (pe [(.inl x0 : PV), (.inl x1 : PV)] μ.2.2.1) [] s) : mOk enc bd μ (a2 f) := by
  refine mOk_of hk (fun as s K q => ?_)
  have q1 := q
  unfold a2 at q1
  split at q1
  · next x0 x1 =>
    exact ⟨hp x0 x1, fun hb => h x0 x1 s K q1 hb⟩
  · exact q1.elim
def a3 (f : Int → Int → Int → σ → (PS → σ → Prop) → Prop) : List PV → σ → (PS → σ → Prop) → Prop := fun as s K => match as with
  | [.inl x0, .inl x1, .inl x2] => f x0 x1 x2 s K
  | _ => False
theorem mOVa3 {f : Int → Int → Int → σ → (PS → σ → Prop) → Prop} (hk : xl_K μ) (hp : ∀ (x0 x1 x2 : Int), Nat.ble (pw (pR 0 :: [(.inl x0 : PV), (.inl x1 : PV), (.inl x2 : PV)])) μ.2.2.1 = true) (h : ∀ (x0 x1 x2 : Int) (s : σ) (K : PS → σ → Prop), f x0 x1 x2 s K → bd s → wX enc bd μ 0 0 K (fun _ => False) 0 (pe (pR 0 :: [(.inl x0 : PV), (.inl x1 : PV), (.inl x2 : PV)]) μ.2.2.1) [] s) : mOk enc bd μ (atR 0 (a3 f)) := by
  refine mOk_of hk (fun as s K q => ?_)
  obtain ⟨as, rfl, q1⟩ := atR_inv q
  unfold a3 at q1
  split at q1
  · next x0 x1 x2 =>
    exact ⟨hp x0 x1 x2, fun hb => h x0 x1 x2 s K q1 hb⟩
  · exact q1.elim
theorem mOSa3 {f : Int → Int → Int → σ → (PS → σ → Prop) → Prop} (hk : xl_K μ) (hp : ∀ (x0 x1 x2 : Int), Nat.ble (pw [(.inl x0 : PV), (.inl x1 : PV), (.inl x2 : PV)]) μ.2.2.1 = true) (h : ∀ (x0 x1 x2 : Int) (s : σ) (K : PS → σ → Prop), f x0 x1 x2 s K → bd s → wX enc bd μ 0 0 K (fun _ => False) 0 (pe [(.inl x0 : PV), (.inl x1 : PV), (.inl x2 : PV)] μ.2.2.1) [] s) : mOk enc bd μ (a3 f) := by
  refine mOk_of hk (fun as s K q => ?_)
  have q1 := q
  unfold a3 at q1
  split at q1
  · next x0 x1 x2 =>
    exact ⟨hp x0 x1 x2, fun hb => h x0 x1 x2 s K q1 hb⟩
  · exact q1.elim
def a4 (f : Int → Int → Int → Int → σ → (PS → σ → Prop) → Prop) : List PV → σ → (PS → σ → Prop) → Prop := fun as s K => match as with
  | [.inl x0, .inl x1, .inl x2, .inl x3] => f x0 x1 x2 x3 s K
  | _ => False
theorem mOVa4 {f : Int → Int → Int → Int → σ → (PS → σ → Prop) → Prop} (hk : xl_K μ) (hp : ∀ (x0 x1 x2 x3 : Int), Nat.ble (pw (pR 0 :: [(.inl x0 : PV), (.inl x1 : PV), (.inl x2 : PV), (.inl x3 : PV)])) μ.2.2.1 = true) (h : ∀ (x0 x1 x2 x3 : Int) (s : σ) (K : PS → σ → Prop), f x0 x1 x2 x3 s K → bd s → wX enc bd μ 0 0 K (fun _ => False) 0 (pe (pR 0 :: [(.inl x0 : PV), (.inl x1 : PV), (.inl x2 : PV), (.inl x3 : PV)]) μ.2.2.1) [] s) : mOk enc bd μ (atR 0 (a4 f)) := by
  refine mOk_of hk (fun as s K q => ?_)
  obtain ⟨as, rfl, q1⟩ := atR_inv q
  unfold a4 at q1
  split at q1
  · next x0 x1 x2 x3 =>
    exact ⟨hp x0 x1 x2 x3, fun hb => h x0 x1 x2 x3 s K q1 hb⟩
  · exact q1.elim
theorem mOSa4 {f : Int → Int → Int → Int → σ → (PS → σ → Prop) → Prop} (hk : xl_K μ) (hp : ∀ (x0 x1 x2 x3 : Int), Nat.ble (pw [(.inl x0 : PV), (.inl x1 : PV), (.inl x2 : PV), (.inl x3 : PV)]) μ.2.2.1 = true) (h : ∀ (x0 x1 x2 x3 : Int) (s : σ) (K : PS → σ → Prop), f x0 x1 x2 x3 s K → bd s → wX enc bd μ 0 0 K (fun _ => False) 0 (pe [(.inl x0 : PV), (.inl x1 : PV), (.inl x2 : PV), (.inl x3 : PV)] μ.2.2.1) [] s) : mOk enc bd μ (a4 f) := by
  refine mOk_of hk (fun as s K q => ?_)
  have q1 := q
  unfold a4 at q1
  split at q1
  · next x0 x1 x2 x3 =>
    exact ⟨hp x0 x1 x2 x3, fun hb => h x0 x1 x2 x3 s K q1 hb⟩
  · exact q1.elim
def a5 (f : Int → Int → Int → Int → Int → σ → (PS → σ → Prop) → Prop) : List PV → σ → (PS → σ → Prop) → Prop := fun as s K => match as with
  | [.inl x0, .inl x1, .inl x2, .inl x3, .inl x4] => f x0 x1 x2 x3 x4 s K
  | _ => False
theorem mOVa5 {f : Int → Int → Int → Int → Int → σ → (PS → σ → Prop) → Prop} (hk : xl_K μ) (hp : ∀ (x0 x1 x2 x3 x4 : Int), Nat.ble (pw (pR 0 :: [(.inl x0 : PV), (.inl x1 : PV), (.inl x2 : PV), (.inl x3 : PV), (.inl x4 : PV)])) μ.2.2.1 = true) (h : ∀ (x0 x1 x2 x3 x4 : Int) (s : σ) (K : PS → σ → Prop), f x0 x1 x2 x3 x4 s K → bd s → wX enc bd μ 0 0 K (fun _ => False) 0 (pe (pR 0 :: [(.inl x0 : PV), (.inl x1 : PV), (.inl x2 : PV), (.inl x3 : PV), (.inl x4 : PV)]) μ.2.2.1) [] s) : mOk enc bd μ (atR 0 (a5 f)) := by
  refine mOk_of hk (fun as s K q => ?_)
  obtain ⟨as, rfl, q1⟩ := atR_inv q
  unfold a5 at q1
  split at q1
  · next x0 x1 x2 x3 x4 =>
    exact ⟨hp x0 x1 x2 x3 x4, fun hb => h x0 x1 x2 x3 x4 s K q1 hb⟩
  · exact q1.elim
theorem mOSa5 {f : Int → Int → Int → Int → Int → σ → (PS → σ → Prop) → Prop} (hk : xl_K μ) (hp : ∀ (x0 x1 x2 x3 x4 : Int), Nat.ble (pw [(.inl x0 : PV), (.inl x1 : PV), (.inl x2 : PV), (.inl x3 : PV), (.inl x4 : PV)]) μ.2.2.1 = true) (h : ∀ (x0 x1 x2 x3 x4 : Int) (s : σ) (K : PS → σ → Prop), f x0 x1 x2 x3 x4 s K → bd s → wX enc bd μ 0 0 K (fun _ => False) 0 (pe [(.inl x0 : PV), (.inl x1 : PV), (.inl x2 : PV), (.inl x3 : PV), (.inl x4 : PV)] μ.2.2.1) [] s) : mOk enc bd μ (a5 f) := by
  refine mOk_of hk (fun as s K q => ?_)
  have q1 := q
  unfold a5 at q1
  split at q1
  · next x0 x1 x2 x3 x4 =>
    exact ⟨hp x0 x1 x2 x3 x4, fun hb => h x0 x1 x2 x3 x4 s K q1 hb⟩
  · exact q1.elim
def a6 (f : Int → Int → Int → Int → Int → Int → σ → (PS → σ → Prop) → Prop) : List PV → σ → (PS → σ → Prop) → Prop := fun as s K => match as with
  | [.inl x0, .inl x1, .inl x2, .inl x3, .inl x4, .inl x5] => f x0 x1 x2 x3 x4 x5 s K
  | _ => False
theorem mOVa6 {f : Int → Int → Int → Int → Int → Int → σ → (PS → σ → Prop) → Prop} (hk : xl_K μ) (hp : ∀ (x0 x1 x2 x3 x4 x5 : Int), Nat.ble (pw (pR 0 :: [(.inl x0 : PV), (.inl x1 : PV), (.inl x2 : PV), (.inl x3 : PV), (.inl x4 : PV), (.inl x5 : PV)])) μ.2.2.1 = true) (h : ∀ (x0 x1 x2 x3 x4 x5 : Int) (s : σ) (K : PS → σ → Prop), f x0 x1 x2 x3 x4 x5 s K → bd s → wX enc bd μ 0 0 K (fun _ => False) 0 (pe (pR 0 :: [(.inl x0 : PV), (.inl x1 : PV), (.inl x2 : PV), (.inl x3 : PV), (.inl x4 : PV), (.inl x5 : PV)]) μ.2.2.1) [] s) : mOk enc bd μ (atR 0 (a6 f)) := by
  refine mOk_of hk (fun as s K q => ?_)
  obtain ⟨as, rfl, q1⟩ := atR_inv q
  unfold a6 at q1
  split at q1
  · next x0 x1 x2 x3 x4 x5 =>
    exact ⟨hp x0 x1 x2 x3 x4 x5, fun hb => h x0 x1 x2 x3 x4 x5 s K q1 hb⟩
  · exact q1.elim
theorem mOSa6 {f : Int → Int → Int → Int → Int → Int → σ → (PS → σ → Prop) → Prop} (hk : xl_K μ) (hp : ∀ (x0 x1 x2 x3 x4 x5 : Int), Nat.ble (pw [(.inl x0 : PV), (.inl x1 : PV), (.inl x2 : PV), (.inl x3 : PV), (.inl x4 : PV), (.inl x5 : PV)]) μ.2.2.1 = true) (h : ∀ (x0 x1 x2 x3 x4 x5 : Int) (s : σ) (K : PS → σ → Prop), f x0 x1 x2 x3 x4 x5 s K → bd s → wX enc bd μ 0 0 K (fun _ => False) 0 (pe [(.inl x0 : PV), (.inl x1 : PV), (.inl x2 : PV), (.inl x3 : PV), (.inl x4 : PV), (.inl x5 : PV)] μ.2.2.1) [] s) : mOk enc bd μ (a6 f) := by
  refine mOk_of hk (fun as s K q => ?_)
  have q1 := q
  unfold a6 at q1
  split at q1
  · next x0 x1 x2 x3 x4 x5 =>
    exact ⟨hp x0 x1 x2 x3 x4 x5, fun hb => h x0 x1 x2 x3 x4 x5 s K q1 hb⟩
  · exact q1.elim
def a7 (f : Int → Int → Int → Int → Int → Int → Int → σ → (PS → σ → Prop) → Prop) : List PV → σ → (PS → σ → Prop) → Prop := fun as s K => match as with
  | [.inl x0, .inl x1, .inl x2, .inl x3, .inl x4, .inl x5, .inl x6] => f x0 x1 x2 x3 x4 x5 x6 s K
  | _ => False
theorem mOVa7 {f : Int → Int → Int → Int → Int → Int → Int → σ → (PS → σ → Prop) → Prop} (hk : xl_K μ) (hp : ∀ (x0 x1 x2 x3 x4 x5 x6 : Int), Nat.ble (pw (pR 0 :: [(.inl x0 : PV), (.inl x1 : PV), (.inl x2 : PV), (.inl x3 : PV), (.inl x4 : PV), (.inl x5 : PV), (.inl x6 : PV)])) μ.2.2.1 = true) (h : ∀ (x0 x1 x2 x3 x4 x5 x6 : Int) (s : σ) (K : PS → σ → Prop), f x0 x1 x2 x3 x4 x5 x6 s K → bd s → wX enc bd μ 0 0 K (fun _ => False) 0 (pe (pR 0 :: [(.inl x0 : PV), (.inl x1 : PV), (.inl x2 : PV), (.inl x3 : PV), (.inl x4 : PV), (.inl x5 : PV), (.inl x6 : PV)]) μ.2.2.1) [] s) : mOk enc bd μ (atR 0 (a7 f)) := by
  refine mOk_of hk (fun as s K q => ?_)
  obtain ⟨as, rfl, q1⟩ := atR_inv q
  unfold a7 at q1
  split at q1
  · next x0 x1 x2 x3 x4 x5 x6 =>
    exact ⟨hp x0 x1 x2 x3 x4 x5 x6, fun hb => h x0 x1 x2 x3 x4 x5 x6 s K q1 hb⟩
  · exact q1.elim
theorem mOSa7 {f : Int → Int → Int → Int → Int → Int → Int → σ → (PS → σ → Prop) → Prop} (hk : xl_K μ) (hp : ∀ (x0 x1 x2 x3 x4 x5 x6 : Int), Nat.ble (pw [(.inl x0 : PV), (.inl x1 : PV), (.inl x2 : PV), (.inl x3 : PV), (.inl x4 : PV), (.inl x5 : PV), (.inl x6 : PV)]) μ.2.2.1 = true) (h : ∀ (x0 x1 x2 x3 x4 x5 x6 : Int) (s : σ) (K : PS → σ → Prop), f x0 x1 x2 x3 x4 x5 x6 s K → bd s → wX enc bd μ 0 0 K (fun _ => False) 0 (pe [(.inl x0 : PV), (.inl x1 : PV), (.inl x2 : PV), (.inl x3 : PV), (.inl x4 : PV), (.inl x5 : PV), (.inl x6 : PV)] μ.2.2.1) [] s) : mOk enc bd μ (a7 f) := by
  refine mOk_of hk (fun as s K q => ?_)
  have q1 := q
  unfold a7 at q1
  split at q1
  · next x0 x1 x2 x3 x4 x5 x6 =>
    exact ⟨hp x0 x1 x2 x3 x4 x5 x6, fun hb => h x0 x1 x2 x3 x4 x5 x6 s K q1 hb⟩
  · exact q1.elim
def j1 (f : Int → σ → (PS → σ → Prop) → Prop) : List PV → σ → (PS → σ → Prop) → Prop := fun as s K => match as with
  | [.inr (.inl x0)] => f x0 s K
  | _ => False
theorem mOVj1 {f : Int → σ → (PS → σ → Prop) → Prop} (hk : xl_K μ) (hp : ∀ (x0 : Int), Nat.ble (pw (pR 0 :: [pJ x0])) μ.2.2.1 = true) (h : ∀ (x0 : Int) (s : σ) (K : PS → σ → Prop), f x0 s K → bd s → wX enc bd μ 0 0 K (fun _ => False) 0 (pe (pR 0 :: [pJ x0]) μ.2.2.1) [] s) : mOk enc bd μ (atR 0 (j1 f)) := by
  refine mOk_of hk (fun as s K q => ?_)
  obtain ⟨as, rfl, q1⟩ := atR_inv q
  unfold j1 at q1
  split at q1
  · next x0 =>
    exact ⟨hp x0, fun hb => h x0 s K q1 hb⟩
  · exact q1.elim
theorem mOSj1 {f : Int → σ → (PS → σ → Prop) → Prop} (hk : xl_K μ) (hp : ∀ (x0 : Int), Nat.ble (pw [pJ x0]) μ.2.2.1 = true) (h : ∀ (x0 : Int) (s : σ) (K : PS → σ → Prop), f x0 s K → bd s → wX enc bd μ 0 0 K (fun _ => False) 0 (pe [pJ x0] μ.2.2.1) [] s) : mOk enc bd μ (j1 f) := by
  refine mOk_of hk (fun as s K q => ?_)
  have q1 := q
  unfold j1 at q1
  split at q1
  · next x0 =>
    exact ⟨hp x0, fun hb => h x0 s K q1 hb⟩
  · exact q1.elim
def j2 (f : Int → Int → σ → (PS → σ → Prop) → Prop) : List PV → σ → (PS → σ → Prop) → Prop := fun as s K => match as with
  | [.inr (.inl x0), .inr (.inl x1)] => f x0 x1 s K
  | _ => False
theorem mOVj2 {f : Int → Int → σ → (PS → σ → Prop) → Prop} (hk : xl_K μ) (hp : ∀ (x0 x1 : Int), Nat.ble (pw (pR 0 :: [pJ x0, pJ x1])) μ.2.2.1 = true) (h : ∀ (x0 x1 : Int) (s : σ) (K : PS → σ → Prop), f x0 x1 s K → bd s → wX enc bd μ 0 0 K (fun _ => False) 0 (pe (pR 0 :: [pJ x0, pJ x1]) μ.2.2.1) [] s) : mOk enc bd μ (atR 0 (j2 f)) := by
  refine mOk_of hk (fun as s K q => ?_)
  obtain ⟨as, rfl, q1⟩ := atR_inv q
  unfold j2 at q1
  split at q1
  · next x0 x1 =>
    exact ⟨hp x0 x1, fun hb => h x0 x1 s K q1 hb⟩
  · exact q1.elim
theorem mOSj2 {f : Int → Int → σ → (PS → σ → Prop) → Prop} (hk : xl_K μ) (hp : ∀ (x0 x1 : Int), Nat.ble (pw [pJ x0, pJ x1]) μ.2.2.1 = true) (h : ∀ (x0 x1 : Int) (s : σ) (K : PS → σ → Prop), f x0 x1 s K → bd s → wX enc bd μ 0 0 K (fun _ => False) 0 (pe [pJ x0, pJ x1] μ.2.2.1) [] s) : mOk enc bd μ (j2 f) := by
  refine mOk_of hk (fun as s K q => ?_)
  have q1 := q
  unfold j2 at q1
  split at q1
  · next x0 x1 =>
    exact ⟨hp x0 x1, fun hb => h x0 x1 s K q1 hb⟩
  · exact q1.elim
def j3 (f : Int → Int → Int → σ → (PS → σ → Prop) → Prop) : List PV → σ → (PS → σ → Prop) → Prop := fun as s K => match as with
  | [.inr (.inl x0), .inr (.inl x1), .inr (.inl x2)] => f x0 x1 x2 s K
  | _ => False
theorem mOVj3 {f : Int → Int → Int → σ → (PS → σ → Prop) → Prop} (hk : xl_K μ) (hp : ∀ (x0 x1 x2 : Int), Nat.ble (pw (pR 0 :: [pJ x0, pJ x1, pJ x2])) μ.2.2.1 = true) (h : ∀ (x0 x1 x2 : Int) (s : σ) (K : PS → σ → Prop), f x0 x1 x2 s K → bd s → wX enc bd μ 0 0 K (fun _ => False) 0 (pe (pR 0 :: [pJ x0, pJ x1, pJ x2]) μ.2.2.1) [] s) : mOk enc bd μ (atR 0 (j3 f)) := by
  refine mOk_of hk (fun as s K q => ?_)
  obtain ⟨as, rfl, q1⟩ := atR_inv q
  unfold j3 at q1
  split at q1
  · next x0 x1 x2 =>
    exact ⟨hp x0 x1 x2, fun hb => h x0 x1 x2 s K q1 hb⟩
  · exact q1.elim
theorem mOSj3 {f : Int → Int → Int → σ → (PS → σ → Prop) → Prop} (hk : xl_K μ) (hp : ∀ (x0 x1 x2 : Int), Nat.ble (pw [pJ x0, pJ x1, pJ x2]) μ.2.2.1 = true) (h : ∀ (x0 x1 x2 : Int) (s : σ) (K : PS → σ → Prop), f x0 x1 x2 s K → bd s → wX enc bd μ 0 0 K (fun _ => False) 0 (pe [pJ x0, pJ x1, pJ x2] μ.2.2.1) [] s) : mOk enc bd μ (j3 f) := by
  refine mOk_of hk (fun as s K q => ?_)
  have q1 := q
  unfold j3 at q1
  split at q1
  · next x0 x1 x2 =>
    exact ⟨hp x0 x1 x2, fun hb => h x0 x1 x2 s K q1 hb⟩
  · exact q1.elim
end ARI
end
-- 142.os
section
/-! ===== ops of String constants ===== -/
section OS
variable {σ : Type} {enc : σ → XH} {bd : σ → Prop} {M : XI} {rc rs pc pc2 : Nat} {B : Blk σ}
theorem okS {j : Nat} (hj : j < 9) (hc : (xl_sc j).1 = M.1.cls) (d : xl_D M pc (.ldc (xl_sc j).2.1) 2 pc2) (k : bOk enc bd M rc rs pc2 B) : bOk enc bd M rc rs pc (oS j B) := fun Po Pt J hJ _ _ _ hb h => xl_ldcS hj hc d (k Po Pt J hJ _ _ _ hb h)
theorem okSw {j : Nat} (hj : j < 9) (hc : (xl_sc j).1 = M.1.cls) (d : xl_D M pc (.ldc_w (xl_sc j).2.1) 3 pc2) (k : bOk enc bd M rc rs pc2 B) : bOk enc bd M rc rs pc (oS j B) := fun Po Pt J hJ _ _ _ hb h => xl_ldcSw hj hc d (k Po Pt J hJ _ _ _ hb h)
def slI (j : Nat) : Int := ((xl_sl.getD j 0 : Nat) : Int)
def sbI (j : Nat) (k : Int) : Int := (xs_ch j k.toNat).toInt
def oStrLength (B : Blk σ) : Blk σ := fun J L st s => match st with
  | .inr (.inr (.inr j)) :: st => bif Nat.ble (pw st) 8 then j < 9 ∧ B J L (.inl (slI j) :: st) s else False
  | _ => False
def oStrIsempty (B : Blk σ) : Blk σ := fun J L st s => match st with
  | .inr (.inr (.inr j)) :: st => bif Nat.ble (pw st) 8 then j < 9 ∧ B J L (.inl (if slI j = 0 then 1 else 0) :: st) s else False
  | _ => False
def oStrCharat (B : Blk σ) : Blk σ := fun J L st s => match st with
  | .inl k :: .inr (.inr (.inr j)) :: st => bif Nat.ble (pw st) 8 then (j < 9 ∧ 0 ≤ k ∧ k < slI j) ∧ B J L (.inl (sbI j k) :: st) s else False
  | _ => False
theorem okStrLength (d : xl_Ca M pc mJ0_length_8abf5 pc2) (k : bOk enc bd M rc rs pc2 B) : bOk enc bd M rc rs pc (oStrLength B) := by
  intro Po Pt J hJ L st s hb h
  unfold oStrLength at h
  split at h
  · next j st =>
    obtain ⟨h1, h2, h3⟩ := condT h
    refine xl_callK (As := []) h2 d vJ0_length_8abf5 rfl rfl rfl (by rw [pw_ok]; exact Nat.le_of_ble_eq_true h1) (xs_length h2) (fun v h' q => ⟨q.2, fun a => by rw [q.1]; exact fun e => by cases e⟩) (fun v q => ?_)
    rw [q.1, show Int32.ofNat (xl_sl.getD j 0) = iI (slI j) by simp [iI, slI, Int32.ofInt_eq_ofNat]]
    exact k Po Pt J hJ _ _ _ hb h3
  · exact h.elim
theorem okStrIsempty (d : xl_Ca M pc mJ0_isEmpty_aae02 pc2) (k : bOk enc bd M rc rs pc2 B) : bOk enc bd M rc rs pc (oStrIsempty B) := by
  intro Po Pt J hJ L st s hb h
  unfold oStrIsempty at h
  split at h
  · next j st =>
    obtain ⟨h1, h2, h3⟩ := condT h
    refine xl_callK (As := []) h2 d vJ0_isEmpty_aae02 rfl rfl rfl (by rw [pw_ok]; exact Nat.le_of_ble_eq_true h1) (xs_empty h2) (fun v h' q => ⟨q.2, fun a => by rw [q.1]; exact fun e => by cases e⟩) (fun v q => ?_)
    have e : (if xl_sl.getD j 0 = 0 then (1 : Int32) else 0) = iI (if slI j = 0 then 1 else 0) := by
      have h0 : slI j = 0 ↔ xl_sl.getD j 0 = 0 := by unfold slI; omega
      by_cases hz : xl_sl.getD j 0 = 0
      · rw [if_pos hz, if_pos (h0.mpr hz)]; rfl
      · rw [if_neg hz, if_neg (fun q => hz (h0.mp q))]; rfl
    rw [q.1, e]
    exact k Po Pt J hJ _ _ _ hb h3
  · exact h.elim
theorem okStrCharat (d : xl_Ca M pc mJ0_charAt_5068e pc2) (k : bOk enc bd M rc rs pc2 B) : bOk enc bd M rc rs pc (oStrCharat B) := by
  intro Po Pt J hJ L st s hb h
  unfold oStrCharat at h
  split at h
  · next z j st =>
    obtain ⟨h1, ⟨h2, h4, h5⟩, h3⟩ := condT h
    have hz : z.toNat < xl_sl.getD j 0 := by unfold slI at h5; omega
    have ez : Int32.ofNat z.toNat = iI z := by
      obtain ⟨n, rfl⟩ := Int.eq_ofNat_of_zero_le h4
      simp [iI, Int32.ofInt_eq_ofNat]
    have hc := xs_char h2 hz
    rw [ez] at hc
    refine xl_callK (As := [.int (iI z)]) h2 d vJ0_charAt_5068e rfl rfl rfl (by rw [pw_ok]; exact Nat.le_of_ble_eq_true h1) hc (fun v h' q => ⟨q.2, fun a => by rw [q.1]; exact fun e => by cases e⟩) (fun v q => ?_)
    rw [q.1, show xs_ch j z.toNat = iI (sbI j z) from (iI_of _).symm]
    exact k Po Pt J hJ _ _ _ hb h3
  · exact h.elim
end OS
end
-- 20.T
section
/-! ===== Table: room, width, cells, size ===== -/
abbrev TS : Type := Int × (Nat → Int)
def encT (rm w : Int) (s : TS) : XH := [xO 0 [xi rm, xi w, .ref 1, xi s.1], xA (rm * w).toNat s.2]
def bdT (rm w : Int) (s : TS) : Prop := (0 ≤ rm ∧ rm ≤ 1000 ∧ 0 ≤ w ∧ w ≤ 100) ∧ xB s.1 ∧ ∀ k, xB (s.2 k)
def fgT (rm w : Int) : FG TS := fun s r ci k => bif Nat.beq r 0 then (bif Nat.beq ci 0 then xl_n [pI rm, pI w, pR 1, pI s.1] k else none) else none
def fpT (_rm _w : Int) : FP TS := fun s r ci k z => bif Nat.beq r 0 then (bif Nat.beq ci 0 then (bif Nat.beq k 3 then some (z, s.2) else none) else none) else none
def agT (rm w : Int) : AG TS := fun s r => bif Nat.beq r 1 then some (0, (rm * w).toNat, s.2) else none
def apT (_rm _w : Int) : AP TS := fun s _ g => (s.1, g)
theorem bN {α : Type} {b : Bool} {x : Option α} {v : α} (h : (bif b then x else none) = some v) : b = true ∧ x = some v := by
  cases b with
  | false => cases h
  | true => exact ⟨rfl, h⟩
theorem nB {a b : Nat} (h : Nat.beq a b = true) : a = b := Nat.eq_of_beq_eq_true h
theorem mulle {a b c d : Int} (h0 : 0 ≤ a) (h1 : a ≤ c) (h2 : 0 ≤ b) (h3 : b ≤ d) : 0 ≤ a * b ∧ a * b ≤ c * d := by
  have e1 := Int.mul_nonneg h0 h2
  have e2 := Int.mul_le_mul h1 h3 h2 (by omega)
  exact ⟨e1, e2⟩
theorem vFgT (rm w : Int) : vFg (encT rm w) (bdT rm w) (fgT rm w) := by
  intro s r ci k v hb h
  obtain ⟨h1, h⟩ := bN h
  obtain ⟨h2, h⟩ := bN h
  have h1 := nB h1
  have h2 := nB h2
  subst h1; subst h2
  obtain ⟨⟨b1, b2, b3, b4⟩, b5, b6⟩ := hb
  match k, h with
  | 0, h => cases h; exact ⟨_, _, rfl, rfl, rfl, fun z e => by cases e; exact ⟨by omega, by omega⟩⟩
  | 1, h => cases h; exact ⟨_, _, rfl, rfl, rfl, fun z e => by cases e; exact ⟨by omega, by omega⟩⟩
  | 2, h => cases h; exact ⟨_, _, rfl, rfl, rfl, fun z e => by cases e⟩
  | 3, h => cases h; exact ⟨_, _, rfl, rfl, rfl, fun z e => by cases e; exact b5⟩
theorem vFpT (rm w : Int) : vFp (encT rm w) (bdT rm w) (fpT rm w) := by
  intro s r ci k z s' hb hz h
  obtain ⟨h1, h⟩ := bN h
  obtain ⟨h2, h⟩ := bN h
  obtain ⟨h3, h⟩ := bN h
  have h1 := nB h1
  have h2 := nB h2
  have h3 := nB h3
  subst h1; subst h2; subst h3
  cases h
  exact ⟨_, rfl, Nat.lt_succ_self 3, rfl, hb.1, hz, hb.2.2⟩
theorem vAgT (rm w : Int) : vAg (encT rm w) (bdT rm w) (agT rm w) (apT rm w) := by
  intro s r t n g hb h
  obtain ⟨h1, h⟩ := bN h
  have h1 := nB h1
  subst h1
  cases h
  obtain ⟨⟨b1, b2, b3, b4⟩, b5, b6⟩ := hb
  have := mulle b1 b2 b3 b4
  exact ⟨by omega, b6, rfl, fun g' hg => ⟨⟨⟨b1, b2, b3, b4⟩, b5, hg⟩, rfl⟩⟩
theorem tcl : ∃ T N, vwCl[0]? = some (RX0, T, N) := ⟨_, _, rfl⟩
theorem wcl : ∃ T N, vwCl[1]? = some (RX1, T, N) := ⟨_, _, rfl⟩
theorem lcl : ∃ T N, vwCl[2]? = some (RX2, T, N) := ⟨_, _, rfl⟩
theorem mcl : ∃ T N, vwCl[3]? = some (RX3, T, N) := ⟨_, _, rfl⟩
/-- a cell; one that is not there reads 0 -/
def tin (rm w i c : Int) : Prop := 0 ≤ i ∧ i < rm ∧ 0 ≤ c ∧ c < w
theorem tin_b {rm w i c : Int} (h : tin rm w i c) : 0 ≤ i * w ∧ 0 ≤ i * w + c ∧ i * w + c < rm * w := by
  obtain ⟨h0, h1, h2, h3⟩ := h
  have e1 : 0 ≤ i * w := Int.mul_nonneg h0 (by omega)
  have e2 : (i + 1) * w ≤ rm * w := Int.mul_le_mul_of_nonneg_right (by omega) (by omega)
  rw [Int.add_mul] at e2
  omega
def tg (rm w : Int) (g : Nat → Int) (i c : Int) : Int := if 0 ≤ i ∧ i < rm ∧ 0 ≤ c ∧ c < w then g (i * w + c).toNat else 0
def ts (rm w : Int) (g : Nat → Int) (i c v : Int) : Nat → Int := if 0 ≤ i ∧ i < rm ∧ 0 ≤ c ∧ c < w then xup g (i * w + c).toNat v else g
-- X0_get: heads []
def tX0_get (rm w : Int) : Nat → Blk TS := fun pc => bif Nat.blt pc 24 then (bif Nat.beq pc 0 then (oIld 1 <| oZLt 24 <| oIld 1 <| oAld 0 <| oGet (fgT rm w) 0 0 <| oCGe 24 <| oIld 2 <| oZLt 24 <| oIld 2 <| oAld 0 <| oGet (fgT rm w) 0 1 <| oCLt 26 <| oTo 24) else oNo) else (bif Nat.blt pc 26 then (bif Nat.beq pc 24 then (oI 0 <| oIret) else oNo) else (bif Nat.beq pc 26 then (oAld 0 <| oGet (fgT rm w) 0 2 <| oIld 1 <| oAld 0 <| oGet (fgT rm w) 0 1 <| oMul <| oIld 2 <| oAdd <| oIa (agT rm w) <| oIret) else oNo))
theorem tX0_get_ok (rm w : Int) : ∀ pc, bOk (encT rm w) (bdT rm w) mX0_get 0 0 pc (tX0_get rm w pc) := fun pc => (tNode (tLeaf (okIldn iX0_get_0 rfl <| okZLt (tl rfl) iX0_get_1 <| okIldn iX0_get_4 rfl <| okAldn iX0_get_5 rfl <| okGet (vFgT rm w) iX0_get_6 <| okCGe (tl rfl) iX0_get_9 <| okIldn iX0_get_12 rfl <| okZLt (tl rfl) iX0_get_13 <| okIldn iX0_get_16 rfl <| okAldn iX0_get_17 rfl <| okGet (vFgT rm w) iX0_get_18 <| okCLt (tl rfl) iX0_get_21 <| okTo (tl rfl))) (tNode (tLeaf (okIc iX0_get_24 <| okIret iX0_get_25 rfl)) (tLeaf (okAldn iX0_get_26 rfl <| okGet (vFgT rm w) iX0_get_27 <| okIldn iX0_get_30 rfl <| okAldn iX0_get_31 rfl <| okGet (vFgT rm w) iX0_get_32 <| okMul iX0_get_35 <| okIldn iX0_get_36 rfl <| okAdd iX0_get_37 <| okIa (vAgT rm w) iX0_get_38 <| okIret iX0_get_39 rfl)))) pc
-- X0_set: heads []
def tX0_set (rm w : Int) : Nat → Blk TS := fun pc => bif Nat.blt pc 38 then (bif Nat.beq pc 0 then (oIld 1 <| oZLt 38 <| oIld 1 <| oAld 0 <| oGet (fgT rm w) 0 0 <| oCGe 38 <| oIld 2 <| oZLt 38 <| oIld 2 <| oAld 0 <| oGet (fgT rm w) 0 1 <| oCGe 38 <| oAld 0 <| oGet (fgT rm w) 0 2 <| oIld 1 <| oAld 0 <| oGet (fgT rm w) 0 1 <| oMul <| oIld 2 <| oAdd <| oIld 3 <| oIas (agT rm w) (apT rm w) <| oTo 38) else oNo) else (bif Nat.beq pc 38 then (oVret) else oNo)
theorem tX0_set_ok (rm w : Int) : ∀ pc, bOk (encT rm w) (bdT rm w) mX0_set 0 0 pc (tX0_set rm w pc) := fun pc => (tNode (tLeaf (okIldn iX0_set_0 rfl <| okZLt (tl rfl) iX0_set_1 <| okIldn iX0_set_4 rfl <| okAldn iX0_set_5 rfl <| okGet (vFgT rm w) iX0_set_6 <| okCGe (tl rfl) iX0_set_9 <| okIldn iX0_set_12 rfl <| okZLt (tl rfl) iX0_set_13 <| okIldn iX0_set_16 rfl <| okAldn iX0_set_17 rfl <| okGet (vFgT rm w) iX0_set_18 <| okCGe (tl rfl) iX0_set_21 <| okAldn iX0_set_24 rfl <| okGet (vFgT rm w) iX0_set_25 <| okIldn iX0_set_28 rfl <| okAldn iX0_set_29 rfl <| okGet (vFgT rm w) iX0_set_30 <| okMul iX0_set_33 <| okIldn iX0_set_34 rfl <| okAdd iX0_set_35 <| okIldn iX0_set_36 rfl <| okIas (vAgT rm w) iX0_set_37 <| okTo (tl rfl))) (tLeaf (okVret iX0_set_38 rfl))) pc
-- X0_add: heads []
def tX0_add (rm w : Int) : Nat → Blk TS := fun pc => bif Nat.blt pc 41 then (bif Nat.beq pc 0 then (oIld 1 <| oZLt 41 <| oIld 1 <| oAld 0 <| oGet (fgT rm w) 0 0 <| oCGe 41 <| oIld 2 <| oZLt 41 <| oIld 2 <| oAld 0 <| oGet (fgT rm w) 0 1 <| oCGe 41 <| oAld 0 <| oGet (fgT rm w) 0 2 <| oIld 1 <| oAld 0 <| oGet (fgT rm w) 0 1 <| oMul <| oIld 2 <| oAdd <| oDup2 <| oIa (agT rm w) <| oIld 3 <| oAddW <| oIas (agT rm w) (apT rm w) <| oTo 41) else oNo) else (bif Nat.beq pc 41 then (oVret) else oNo)
theorem tX0_add_ok (rm w : Int) : ∀ pc, bOk (encT rm w) (bdT rm w) mX0_add 0 0 pc (tX0_add rm w pc) := fun pc => (tNode (tLeaf (okIldn iX0_add_0 rfl <| okZLt (tl rfl) iX0_add_1 <| okIldn iX0_add_4 rfl <| okAldn iX0_add_5 rfl <| okGet (vFgT rm w) iX0_add_6 <| okCGe (tl rfl) iX0_add_9 <| okIldn iX0_add_12 rfl <| okZLt (tl rfl) iX0_add_13 <| okIldn iX0_add_16 rfl <| okAldn iX0_add_17 rfl <| okGet (vFgT rm w) iX0_add_18 <| okCGe (tl rfl) iX0_add_21 <| okAldn iX0_add_24 rfl <| okGet (vFgT rm w) iX0_add_25 <| okIldn iX0_add_28 rfl <| okAldn iX0_add_29 rfl <| okGet (vFgT rm w) iX0_add_30 <| okMul iX0_add_33 <| okIldn iX0_add_34 rfl <| okAdd iX0_add_35 <| okDup2 iX0_add_36 <| okIa (vAgT rm w) iX0_add_37 <| okIldn iX0_add_38 rfl <| okAddW iX0_add_39 <| okIas (vAgT rm w) iX0_add_40 <| okTo (tl rfl))) (tLeaf (okVret iX0_add_41 rfl))) pc
-- X0_clear: heads []
def tX0_clear (rm w : Int) : Nat → Blk TS := fun pc => bif Nat.beq pc 0 then (oAld 0 <| oI 0 <| oPut (fpT rm w) 0 3 <| oVret) else oNo
theorem tX0_clear_ok (rm w : Int) : ∀ pc, bOk (encT rm w) (bdT rm w) mX0_clear 0 0 pc (tX0_clear rm w pc) := fun pc => (tLeaf (okAldn iX0_clear_0 rfl <| okIc iX0_clear_1 <| okPut (vFpT rm w) iX0_clear_2 <| okVret iX0_clear_5 rfl)) pc
-- X0_reach: heads []
def tX0_reach (rm w : Int) : Nat → Blk TS := fun pc => bif Nat.blt pc 23 then (bif Nat.beq pc 0 then (oIld 1 <| oAld 0 <| oGet (fgT rm w) 0 3 <| oCLt 23 <| oIld 1 <| oAld 0 <| oGet (fgT rm w) 0 0 <| oCGe 23 <| oAld 0 <| oIld 1 <| oI 1 <| oAdd <| oPut (fpT rm w) 0 3 <| oTo 23) else oNo) else (bif Nat.beq pc 23 then (oVret) else oNo)
theorem tX0_reach_ok (rm w : Int) : ∀ pc, bOk (encT rm w) (bdT rm w) mX0_reach 0 0 pc (tX0_reach rm w pc) := fun pc => (tNode (tLeaf (okIldn iX0_reach_0 rfl <| okAldn iX0_reach_1 rfl <| okGet (vFgT rm w) iX0_reach_2 <| okCLt (tl rfl) iX0_reach_5 <| okIldn iX0_reach_8 rfl <| okAldn iX0_reach_9 rfl <| okGet (vFgT rm w) iX0_reach_10 <| okCGe (tl rfl) iX0_reach_13 <| okAldn iX0_reach_16 rfl <| okIldn iX0_reach_17 rfl <| okIc iX0_reach_18 <| okAdd iX0_reach_19 <| okPut (vFpT rm w) iX0_reach_20 <| okTo (tl rfl))) (tLeaf (okVret iX0_reach_23 rfl))) pc
-- X0_drop: heads []
def tX0_drop (rm w : Int) : Nat → Blk TS := fun pc => bif Nat.blt pc 12 then (bif Nat.beq pc 0 then (oIld 1 <| oZLt 12 <| oIld 1 <| oAld 0 <| oGet (fgT rm w) 0 3 <| oCLt 13 <| oTo 12) else oNo) else (bif Nat.blt pc 13 then (bif Nat.beq pc 12 then (oVret) else oNo) else (bif Nat.beq pc 13 then (oAld 0 <| oGet (fgT rm w) 0 2 <| oIld 1 <| oI 1 <| oAdd <| oAld 0 <| oGet (fgT rm w) 0 1 <| oMul <| oAld 0 <| oGet (fgT rm w) 0 2 <| oIld 1 <| oAld 0 <| oGet (fgT rm w) 0 1 <| oMul <| oAld 0 <| oGet (fgT rm w) 0 3 <| oIld 1 <| oSub <| oI 1 <| oSub <| oAld 0 <| oGet (fgT rm w) 0 1 <| oMul <| oCpy (agT rm w) (apT rm w) <| oAld 0 <| oDup <| oGet (fgT rm w) 0 3 <| oI 1 <| oSub <| oPut (fpT rm w) 0 3 <| oVret) else oNo))
theorem tX0_drop_ok (rm w : Int) : ∀ pc, bOk (encT rm w) (bdT rm w) mX0_drop 0 0 pc (tX0_drop rm w pc) := fun pc => (tNode (tLeaf (okIldn iX0_drop_0 rfl <| okZLt (tl rfl) iX0_drop_1 <| okIldn iX0_drop_4 rfl <| okAldn iX0_drop_5 rfl <| okGet (vFgT rm w) iX0_drop_6 <| okCLt (tl rfl) iX0_drop_9 <| okTo (tl rfl))) (tNode (tLeaf (okVret iX0_drop_12 rfl)) (tLeaf (okAldn iX0_drop_13 rfl <| okGet (vFgT rm w) iX0_drop_14 <| okIldn iX0_drop_17 rfl <| okIc iX0_drop_18 <| okAdd iX0_drop_19 <| okAldn iX0_drop_20 rfl <| okGet (vFgT rm w) iX0_drop_21 <| okMul iX0_drop_24 <| okAldn iX0_drop_25 rfl <| okGet (vFgT rm w) iX0_drop_26 <| okIldn iX0_drop_29 rfl <| okAldn iX0_drop_30 rfl <| okGet (vFgT rm w) iX0_drop_31 <| okMul iX0_drop_34 <| okAldn iX0_drop_35 rfl <| okGet (vFgT rm w) iX0_drop_36 <| okIldn iX0_drop_39 rfl <| okSub iX0_drop_40 <| okIc iX0_drop_41 <| okSub iX0_drop_42 <| okAldn iX0_drop_43 rfl <| okGet (vFgT rm w) iX0_drop_44 <| okMul iX0_drop_47 <| okCpy (vAgT rm w) iX0_drop_48 <| okAldn iX0_drop_51 rfl <| okDup iX0_drop_52 <| okGet (vFgT rm w) iX0_drop_53 <| okIc iX0_drop_56 <| okSub iX0_drop_57 <| okPut (vFpT rm w) iX0_drop_58 <| okVret iX0_drop_61 rfl)))) pc
abbrev KT : Type := PS → TS → Prop
def sX0_get (rm w : Int) : Int → Int → TS → KT → Prop := fun i c s K => (xB i ∧ xB c) ∧ K [pI (tg rm w s.2 i c)] s
theorem mX0_get_ok (rm w : Int) : mOk (encT rm w) (bdT rm w) mX0_get (atR 0 (a2 (sX0_get rm w))) := by
  refine mOVa2 kX0_get (fun _ _ => rfl) (fun i c s K h hb => wx_go [] 9 (tX0_get_ok rm w) rfl ?_)
  obtain ⟨⟨hi, hc⟩, hK⟩ := h
  obtain ⟨⟨b1, b2, b3, b4⟩, b5, b6⟩ := hb
  by_cases q : 0 ≤ i ∧ i < rm ∧ 0 ≤ c ∧ c < w
  · obtain ⟨e1, e2, e3⟩ := tin_b q
    rw [show tg rm w s.2 i c = s.2 (i * w + c).toNat from if_pos q] at hK
    repeat' (first | (refine And.intro ?_ ?_) | intro _)
    all_goals first | omega | exact hK | (dsimp only [apT]; omega)
  · rw [show tg rm w s.2 i c = 0 from if_neg q] at hK
    repeat' (first | (refine And.intro ?_ ?_) | intro _)
    all_goals first | omega | exact hK | (dsimp only [apT]; omega)
def sX0_set (rm w : Int) : Int → Int → Int → TS → KT → Prop := fun i c v s K => (xB i ∧ xB c ∧ xB v) ∧ K [] (s.1, ts rm w s.2 i c v)
theorem mX0_set_ok (rm w : Int) : mOk (encT rm w) (bdT rm w) mX0_set (atR 0 (a3 (sX0_set rm w))) := by
  refine mOVa3 kX0_set (fun _ _ _ => rfl) (fun i c v s K h hb => wx_go [] 9 (tX0_set_ok rm w) rfl ?_)
  obtain ⟨⟨hi, hc, hv⟩, hK⟩ := h
  obtain ⟨⟨b1, b2, b3, b4⟩, b5, b6⟩ := hb
  by_cases q : 0 ≤ i ∧ i < rm ∧ 0 ≤ c ∧ c < w
  · obtain ⟨e1, e2, e3⟩ := tin_b q
    rw [show ts rm w s.2 i c v = xup s.2 (i * w + c).toNat v from if_pos q] at hK
    repeat' (first | (refine And.intro ?_ ?_) | intro _)
    all_goals first | omega | exact hK | (dsimp only [apT]; omega)
  · rw [show ts rm w s.2 i c v = s.2 from if_neg q] at hK
    repeat' (first | (refine And.intro ?_ ?_) | intro _)
    all_goals first | omega | exact hK | (dsimp only [apT]; omega)
def sX0_add (rm w : Int) : Int → Int → Int → TS → KT → Prop := fun i c v s K => (xB i ∧ xB c ∧ xB v) ∧ K [] (s.1, ts rm w s.2 i c (wI (tg rm w s.2 i c + v)))
theorem mX0_add_ok (rm w : Int) : mOk (encT rm w) (bdT rm w) mX0_add (atR 0 (a3 (sX0_add rm w))) := by
  refine mOVa3 kX0_add (fun _ _ _ => rfl) (fun i c v s K h hb => wx_go [] 9 (tX0_add_ok rm w) rfl ?_)
  obtain ⟨⟨hi, hc, hv⟩, hK⟩ := h
  obtain ⟨⟨b1, b2, b3, b4⟩, b5, b6⟩ := hb
  by_cases q : 0 ≤ i ∧ i < rm ∧ 0 ≤ c ∧ c < w
  · obtain ⟨e1, e2, e3⟩ := tin_b q
    rw [show tg rm w s.2 i c = s.2 (i * w + c).toNat from if_pos q] at hK
    rw [show ts rm w s.2 i c (wI (s.2 (i * w + c).toNat + v)) = xup s.2 (i * w + c).toNat (wI (s.2 (i * w + c).toNat + v)) from if_pos q] at hK
    repeat' (first | (refine And.intro ?_ ?_) | intro _)
    all_goals first | omega | exact hK | (dsimp only [apT]; omega)
  · rw [show ts rm w s.2 i c (wI (tg rm w s.2 i c + v)) = s.2 from if_neg q] at hK
    repeat' (first | (refine And.intro ?_ ?_) | intro _)
    all_goals first | omega | exact hK | (dsimp only [apT]; omega)
def sX0_clear (_rm _w : Int) : TS → KT → Prop := fun s K => K [] (0, s.2)
theorem mX0_clear_ok (rm w : Int) : mOk (encT rm w) (bdT rm w) mX0_clear (atR 0 (a0 (sX0_clear rm w))) := by
  refine mOVa0 kX0_clear (fun _ => rfl) (fun s K h hb => wx_go [] 9 (tX0_clear_ok rm w) rfl ?_)
  exact ⟨⟨by omega, by omega⟩, h⟩
def sX0_reach (rm _w : Int) : Int → TS → KT → Prop := fun i s K => xB i ∧ K [] (if s.1 ≤ i ∧ i < rm then i + 1 else s.1, s.2)
theorem mX0_reach_ok (rm w : Int) : mOk (encT rm w) (bdT rm w) mX0_reach (atR 0 (a1 (sX0_reach rm w))) := by
  refine mOVa1 kX0_reach (fun _ => rfl) (fun i s K h hb => wx_go [] 9 (tX0_reach_ok rm w) rfl ?_)
  obtain ⟨hi, hK⟩ := h
  obtain ⟨⟨b1, b2, b3, b4⟩, b5, b6⟩ := hb
  by_cases q : s.1 ≤ i ∧ i < rm
  · rw [if_pos q] at hK
    repeat' (first | (refine And.intro ?_ ?_) | intro _)
    all_goals first | omega | exact hK | (dsimp only [apT]; omega)
  · rw [if_neg q] at hK
    repeat' (first | (refine And.intro ?_ ?_) | intro _)
    all_goals first | omega | exact hK | (dsimp only [apT]; omega)
def sX0_drop (rm w : Int) : Int → TS → KT → Prop := fun i s K => (xB i ∧ s.1 ≤ rm) ∧ K [] (if 0 ≤ i ∧ i < s.1 then (s.1 - 1, xcp s.2 s.2 ((i + 1) * w).toNat (i * w).toNat ((s.1 - i - 1) * w).toNat) else s)
theorem mulA {a b : Int} (h0 : 0 ≤ a) (h1 : 0 ≤ b) : 0 ≤ a * b := Int.mul_nonneg h0 h1
theorem mX0_drop_ok (rm w : Int) : mOk (encT rm w) (bdT rm w) mX0_drop (atR 0 (a1 (sX0_drop rm w))) := by
  refine mOVa1 kX0_drop (fun _ => rfl) (fun i s K h hb => wx_go [] 9 (tX0_drop_ok rm w) rfl ?_)
  obtain ⟨⟨hi, hs⟩, hK⟩ := h
  obtain ⟨⟨b1, b2, b3, b4⟩, b5, b6⟩ := hb
  by_cases q : 0 ≤ i ∧ i < s.1
  · rw [if_pos q] at hK
    have e1 := mulA q.1 b3
    have e2 := mulA (a := s.1 - i - 1) (by omega) b3
    have e3 : (i + 1) * w + (s.1 - i - 1) * w = s.1 * w := by rw [← Int.add_mul]; congr 1; omega
    have e4 : s.1 * w ≤ rm * w := Int.mul_le_mul_of_nonneg_right hs b3
    have e5 := mulA (a := i + 1) (by omega) b3
    have e6 : (i + 1) * w = i * w + w := by rw [Int.add_mul]; omega
    repeat' (first | (refine And.intro ?_ ?_) | intro _)
    all_goals first | omega | exact hK | (dsimp only [apT]; omega)
  · rw [if_neg q] at hK
    repeat' (first | (refine And.intro ?_ ?_) | intro _)
    all_goals first | omega | exact hK | (dsimp only [apT]; omega)
end
-- 21.T
section
/-! ===== Table: open, copyRow, copyFrom ===== -/
section T2
variable {M : XI} {rc rs pc pc2 : Nat}
theorem lenT {rm w : Int} (s s' : TS) : (encT rm w s').length = (encT rm w s).length := rfl
theorem recT {rm w : Int} (s : TS) : ∃ fs, xl_n (encT rm w s) 0 = some (.inr (0, fs)) := ⟨_, rfl⟩
def cT_X0_set (rm w : Int) : Sp TS := atR 0 (a3 (sX0_set rm w))
theorem qT_X0_set (rm w : Int) (d : xl_Ca M pc mX0_set pc2) : cOk (encT rm w) (bdT rm w) M rc rs pc pc2 4 (cT_X0_set rm w) := cSame (mX0_set_ok rm w) vX0_set d tcl rfl lenT recT
end T2
-- X0_open: heads [63]
def tX0_open (rm w : Int) : Nat → Blk TS := fun pc => bif Nat.blt pc 25 then (bif Nat.blt pc 23 then (bif Nat.beq pc 0 then (oIld 1 <| oZLt 23 <| oIld 1 <| oAld 0 <| oGet (fgT rm w) 0 3 <| oCGt 23 <| oAld 0 <| oGet (fgT rm w) 0 3 <| oAld 0 <| oGet (fgT rm w) 0 0 <| oCLt 25 <| oTo 23) else oNo) else (bif Nat.beq pc 23 then (oI 0 <| oZret) else oNo)) else (bif Nat.blt pc 63 then (bif Nat.beq pc 25 then (oAld 0 <| oGet (fgT rm w) 0 2 <| oIld 1 <| oAld 0 <| oGet (fgT rm w) 0 1 <| oMul <| oAld 0 <| oGet (fgT rm w) 0 2 <| oIld 1 <| oI 1 <| oAdd <| oAld 0 <| oGet (fgT rm w) 0 1 <| oMul <| oAld 0 <| oGet (fgT rm w) 0 3 <| oIld 1 <| oSub <| oAld 0 <| oGet (fgT rm w) 0 1 <| oMul <| oCpy (agT rm w) (apT rm w) <| oI 0 <| oIst 2 <| oM [true, true, true] (oTo 63)) else oNo) else (bif Nat.blt pc 84 then (bif Nat.beq pc 63 then (oIld 2 <| oAld 0 <| oGet (fgT rm w) 0 1 <| oCGe 84 <| oAld 0 <| oIld 1 <| oIld 2 <| oI 0 <| oC4 (cT_X0_set rm w) <| oInc 2 1 <| oM [true, true, true] (oTo 63)) else oNo) else (bif Nat.beq pc 84 then (oAld 0 <| oDup <| oGet (fgT rm w) 0 3 <| oI 1 <| oAdd <| oPut (fpT rm w) 0 3 <| oI 1 <| oZret) else oNo)))
theorem tX0_open_ok (rm w : Int) : ∀ pc, bOk (encT rm w) (bdT rm w) mX0_open 0 0 pc (tX0_open rm w pc) := fun pc => (tNode (tNode (tLeaf (okIldn iX0_open_0 rfl <| okZLt (tl rfl) iX0_open_1 <| okIldn iX0_open_4 rfl <| okAldn iX0_open_5 rfl <| okGet (vFgT rm w) iX0_open_6 <| okCGt (tl rfl) iX0_open_9 <| okAldn iX0_open_12 rfl <| okGet (vFgT rm w) iX0_open_13 <| okAldn iX0_open_16 rfl <| okGet (vFgT rm w) iX0_open_17 <| okCLt (tl rfl) iX0_open_20 <| okTo (tl rfl))) (tLeaf (okIc iX0_open_23 <| okZret iX0_open_24 rfl))) (tNode (tLeaf (okAldn iX0_open_25 rfl <| okGet (vFgT rm w) iX0_open_26 <| okIldn iX0_open_29 rfl <| okAldn iX0_open_30 rfl <| okGet (vFgT rm w) iX0_open_31 <| okMul iX0_open_34 <| okAldn iX0_open_35 rfl <| okGet (vFgT rm w) iX0_open_36 <| okIldn iX0_open_39 rfl <| okIc iX0_open_40 <| okAdd iX0_open_41 <| okAldn iX0_open_42 rfl <| okGet (vFgT rm w) iX0_open_43 <| okMul iX0_open_46 <| okAldn iX0_open_47 rfl <| okGet (vFgT rm w) iX0_open_48 <| okIldn iX0_open_51 rfl <| okSub iX0_open_52 <| okAldn iX0_open_53 rfl <| okGet (vFgT rm w) iX0_open_54 <| okMul iX0_open_57 <| okCpy (vAgT rm w) iX0_open_58 <| okIc iX0_open_61 <| okIstn iX0_open_62 rfl (by decide) <| okM (okTo (tl rfl)))) (tNode (tLeaf (okIldn iX0_open_63 rfl <| okAldn iX0_open_64 rfl <| okGet (vFgT rm w) iX0_open_65 <| okCGe (tl rfl) iX0_open_68 <| okAldn iX0_open_71 rfl <| okIldn iX0_open_72 rfl <| okIldn iX0_open_73 rfl <| okIc iX0_open_74 <| okC4 (qT_X0_set rm w iX0_open_75) <| okInc iX0_open_78 (by decide) <| okGotoM (tl rfl) iX0_open_81)) (tLeaf (okAldn iX0_open_84 rfl <| okDup iX0_open_85 <| okGet (vFgT rm w) iX0_open_86 <| okIc iX0_open_89 <| okAdd iX0_open_90 <| okPut (vFpT rm w) iX0_open_91 <| okIc iX0_open_94 <| okZret iX0_open_95 rfl))))) pc
/-- a row of zeros at a place, what stood there and behind it one further -/
def topen (w : Int) (g : Nat → Int) (sz i : Int) : Nat → Int := fun k => if (i * w).toNat ≤ k ∧ k < (i * w).toNat + w.toNat then 0 else xcp g g (i * w).toNat ((i + 1) * w).toNat ((sz - i) * w).toNat k
def sX0_open (rm w : Int) : Int → TS → KT → Prop := fun i s K => xB i ∧ ((0 ≤ i ∧ i ≤ s.1 ∧ s.1 < rm) → K [pI 1] (s.1 + 1, topen w s.2 s.1 i)) ∧ (¬ (0 ≤ i ∧ i ≤ s.1 ∧ s.1 < rm) → K [pI 0] s)
theorem X0_open_loop (rm w : Int) {K : KT} {Pt : TS → Prop} (i sz : Int) (g : Nat → Int) (b1 : 0 ≤ rm ∧ rm ≤ 1000 ∧ 0 ≤ w ∧ w ≤ 100) (hi : 0 ≤ i ∧ i < rm) (hsz : xB (sz + 1)) (hK : K [pI 1] (sz + 1, fun k => if (i * w).toNat ≤ k ∧ k < (i * w).toNat + w.toNat then 0 else g k)) : ∀ (n : Nat) (c : Int), 0 ≤ c → c ≤ w → n = (w - c).toNat → wX (encT rm w) (bdT rm w) mX0_open 0 0 K Pt 63 [some (pR 0), some (pI i), some (pI c)] [] (sz, fun k => if (i * w).toNat ≤ k ∧ k < (i * w).toNat + c.toNat then 0 else g k) := by
  intro n
  induction n with
  | zero =>
    intro c h0 h1 hn
    have : c = w := by omega
    subst this
    refine wx_go [63] 9 (tX0_open_ok rm c) rfl ?_
    repeat' (first | (refine And.intro ?_ ?_) | intro _)
    all_goals first | omega | exact hK
  | succ n ih =>
    intro c h0 h1 hn
    refine wx_go [63] 9 (tX0_open_ok rm w) rfl ?_
    intro _
    refine ⟨⟨⟨by omega, by omega⟩, ⟨by omega, by omega⟩⟩, fun c1 => absurd c1 (by omega), fun c1 => ?_⟩
    refine ⟨⟨⟨by omega, by omega⟩, ⟨by omega, by omega⟩, ⟨by omega, by omega⟩⟩, ?_⟩
    have e := ih (c + 1) (by omega) (by omega) (by omega)
    have q : 0 ≤ i ∧ i < rm ∧ 0 ≤ c ∧ c < w := ⟨hi.1, hi.2, h0, by omega⟩
    obtain ⟨e1, e2, e3⟩ := tin_b q
    have es : ts rm w (fun k => if (i * w).toNat ≤ k ∧ k < (i * w).toNat + c.toNat then 0 else g k) i c 0 = fun k => if (i * w).toNat ≤ k ∧ k < (i * w).toNat + (c + 1).toNat then 0 else g k := by
      rw [ts, if_pos q]
      funext k
      unfold xup
      by_cases hk : k = (i * w + c).toNat
      · rw [if_pos hk, if_pos (by omega)]
      · rw [if_neg hk]
        dsimp only
        by_cases hk2 : (i * w).toNat ≤ k ∧ k < (i * w).toNat + c.toNat
        · rw [if_pos hk2, if_pos (by omega)]
        · rw [if_neg hk2, if_neg (by omega)]
    rw [← es] at e
    exact e
theorem mX0_open_ok (rm w : Int) : mOk (encT rm w) (bdT rm w) mX0_open (atR 0 (a1 (sX0_open rm w))) := by
  refine mOVa1 kX0_open (fun _ => rfl) (fun i s K h hb => wx_go [63] 9 (tX0_open_ok rm w) rfl ?_)
  obtain ⟨hi, hK1, hK2⟩ := h
  obtain ⟨⟨b1, b2, b3, b4⟩, b5, b6⟩ := hb
  by_cases q : 0 ≤ i ∧ i ≤ s.1 ∧ s.1 < rm
  · have hK := hK1 q
    have e1 := mulA q.1 b3
    have e2 := mulA (a := s.1 - i) (by omega) b3
    have e3 : i * w + (s.1 - i) * w = s.1 * w := by rw [← Int.add_mul]; congr 1; omega
    have e4 : (s.1 + 1) * w ≤ rm * w := Int.mul_le_mul_of_nonneg_right (by omega) b3
    have e5 : (s.1 + 1) * w = s.1 * w + w := by rw [Int.add_mul]; omega
    have e6 : (i + 1) * w = i * w + w := by rw [Int.add_mul]; omega
    have hl := X0_open_loop rm w (K := K) (Pt := fun _ => False) i s.1 (xcp s.2 s.2 (i * w).toNat ((i + 1) * w).toNat ((s.1 - i) * w).toNat) ⟨b1, b2, b3, b4⟩ ⟨q.1, by omega⟩ ⟨by omega, by omega⟩ hK w.toNat 0 (by omega) b3 (by omega)
    have ez : (fun k => if (i * w).toNat ≤ k ∧ k < (i * w).toNat + Int.toNat 0 then (0 : Int) else xcp s.2 s.2 (i * w).toNat ((i + 1) * w).toNat ((s.1 - i) * w).toNat k) = xcp s.2 s.2 (i * w).toNat ((i + 1) * w).toNat ((s.1 - i) * w).toNat := by
      funext k
      rw [if_neg (by omega)]
    rw [ez] at hl
    refine ⟨hi, fun c1 => absurd c1 (by omega), fun c1 _ => ⟨⟨hi, b5⟩, fun c2 => absurd c2 (by omega), fun c2 _ _ => ⟨⟨b5, ⟨by omega, by omega⟩⟩, fun c3 => ?_, fun c3 => absurd c3 (by omega)⟩⟩⟩
    intro _ _ _ _
    exact ⟨⟨by omega, by omega, by omega, by omega, by omega⟩, hl⟩
  · have hK := hK2 q
    refine ⟨hi, fun c1 => ?_, fun c1 _ => ⟨⟨hi, b5⟩, fun c2 => ?_, fun c2 _ _ => ⟨⟨b5, ⟨by omega, by omega⟩⟩, fun c3 => absurd c3 (by omega), fun c3 => ?_⟩⟩⟩
    · exact ⟨Or.inl rfl, hK⟩
    · exact ⟨Or.inl rfl, hK⟩
    · exact ⟨Or.inl rfl, hK⟩
/-! two tables -/
abbrev TTS : Type := TS × TS
abbrev KTT : Type := PS → TTS → Prop
def encTT (rm w rn z : Int) (s : TTS) : XH := encT rm w s.1 ++ encT rn z s.2
def bdTT (rm w rn z : Int) (s : TTS) : Prop := bdT rm w s.1 ∧ bdT rn z s.2
def fgTT (rm w rn z : Int) : FG TTS := fun s r ci k => bif Nat.beq ci 0 then (bif Nat.beq r 0 then xl_n [pI rm, pI w, pR 1, pI s.1.1] k else bif Nat.beq r 2 then xl_n [pI rn, pI z, pR 3, pI s.2.1] k else none) else none
def fpTT (_rm _w _rn _z : Int) : FP TTS := fun s r ci k v => bif Nat.beq ci 0 then (bif Nat.beq r 0 then (bif Nat.beq k 3 then some ((v, s.1.2), s.2) else none) else none) else none
def agTT (rm w rn z : Int) : AG TTS := fun s r => bif Nat.beq r 1 then some (0, (rm * w).toNat, s.1.2) else bif Nat.beq r 3 then some (0, (rn * z).toNat, s.2.2) else none
def apTT (_rm _w _rn _z : Int) : AP TTS := fun s r g => bif Nat.beq r 1 then ((s.1.1, g), s.2) else (s.1, (s.2.1, g))
theorem vFgTT (rm w rn z : Int) : vFg (encTT rm w rn z) (bdTT rm w rn z) (fgTT rm w rn z) := by
  intro s r ci k v hb h0
  obtain ⟨h2, h⟩ := bN h0
  clear h0
  have h2 := nB h2
  subst h2
  obtain ⟨⟨⟨b1, b2, b3, b4⟩, b5, b6⟩, ⟨⟨d1, d2, d3, d4⟩, d5, d6⟩⟩ := hb
  cases e1 : Nat.beq r 0 with
  | true =>
    rw [e1] at h
    have e1 := nB e1
    subst e1
    match k, h with
    | 0, h => cases h; exact ⟨_, _, rfl, rfl, rfl, fun z e => by cases e; exact ⟨by omega, by omega⟩⟩
    | 1, h => cases h; exact ⟨_, _, rfl, rfl, rfl, fun z e => by cases e; exact ⟨by omega, by omega⟩⟩
    | 2, h => cases h; exact ⟨_, _, rfl, rfl, rfl, fun z e => by cases e⟩
    | 3, h => cases h; exact ⟨_, _, rfl, rfl, rfl, fun z e => by cases e; exact b5⟩
  | false =>
    rw [e1] at h
    obtain ⟨h3, h⟩ := bN h
    have h3 := nB h3
    subst h3
    match k, h with
    | 0, h => cases h; exact ⟨_, _, rfl, rfl, rfl, fun z e => by cases e; exact ⟨by omega, by omega⟩⟩
    | 1, h => cases h; exact ⟨_, _, rfl, rfl, rfl, fun z e => by cases e; exact ⟨by omega, by omega⟩⟩
    | 2, h => cases h; exact ⟨_, _, rfl, rfl, rfl, fun z e => by cases e⟩
    | 3, h => cases h; exact ⟨_, _, rfl, rfl, rfl, fun z e => by cases e; exact d5⟩
theorem vFpTT (rm w rn z : Int) : vFp (encTT rm w rn z) (bdTT rm w rn z) (fpTT rm w rn z) := by
  intro s r ci k v s' hb hz h
  obtain ⟨h1, h⟩ := bN h
  obtain ⟨h2, h⟩ := bN h
  obtain ⟨h3, h⟩ := bN h
  have h1 := nB h1
  have h2 := nB h2
  have h3 := nB h3
  subst h1; subst h2; subst h3
  cases h
  exact ⟨_, rfl, Nat.lt_succ_self 3, rfl, ⟨hb.1.1, hz, hb.1.2.2⟩, hb.2⟩
theorem vAgTT (rm w rn z : Int) : vAg (encTT rm w rn z) (bdTT rm w rn z) (agTT rm w rn z) (apTT rm w rn z) := by
  intro s r t n g hb h
  obtain ⟨⟨⟨b1, b2, b3, b4⟩, b5, b6⟩, ⟨⟨d1, d2, d3, d4⟩, d5, d6⟩⟩ := hb
  have m1 := mulle b1 b2 b3 b4
  have m2 := mulle d1 d2 d3 d4
  unfold agTT at h
  cases e1 : Nat.beq r 1 with
  | true =>
    rw [e1] at h
    have e1 := nB e1
    subst e1
    cases h
    exact ⟨by omega, b6, rfl, fun g' hg => ⟨⟨⟨⟨b1, b2, b3, b4⟩, b5, hg⟩, ⟨⟨d1, d2, d3, d4⟩, d5, d6⟩⟩, rfl⟩⟩
  | false =>
    rw [e1] at h
    obtain ⟨h3, h⟩ := bN h
    have h3 := nB h3
    subst h3
    cases h
    exact ⟨by omega, d6, rfl, fun g' hg => ⟨⟨⟨⟨b1, b2, b3, b4⟩, b5, b6⟩, ⟨⟨d1, d2, d3, d4⟩, d5, hg⟩⟩, rfl⟩⟩
section T3
variable {M : XI} {rc rs pc pc2 : Nat}
theorem lenTT {rm w rn z : Int} (s s' : TTS) : (encTT rm w rn z s').length = (encTT rm w rn z s).length := rfl
theorem lkTT0 (rm w rn z : Int) : vLk (encTT rm w rn z) (bdTT rm w rn z) (encT rm w) (bdT rm w) (fun k => 0 + k) (fun s => s.1) (fun s t => (t, s.2)) :=
  vLk_run (n := 2) (fun _ => rfl) (by decide) (fun s => rfl) (fun s t => rfl) (fun s hb => hb.1) (fun s t hb ht => ⟨ht, hb.2⟩) (fun s => by show 2 ≤ 4; decide)
theorem lkTT2 (rm w rn z : Int) : vLk (encTT rm w rn z) (bdTT rm w rn z) (encT rn z) (bdT rn z) (fun k => 2 + k) (fun s => s.2) (fun s t => (s.1, t)) :=
  vLk_run (n := 2) (fun _ => rfl) (by decide) (fun s => rfl) (fun s t => rfl) (fun s hb => hb.2) (fun s t hb ht => ⟨hb.1, ht⟩) (fun s => by show 4 ≤ 4; decide)
def cTT_X0_get (_rm _w rn z : Int) : Sp TTS := atR 2 (a2 (fun i c s K => (xB i ∧ xB c) ∧ K [pI (tg rn z s.2.2 i c)] s))
theorem a2_inv {σ : Type} {f : Int → Int → σ → (PS → σ → Prop) → Prop} {as : List PV} {s : σ} {K : PS → σ → Prop} (h : a2 f as s K) : ∃ x y, as = [pI x, pI y] ∧ f x y s K := by
  unfold a2 at h
  split at h
  · exact ⟨_, _, rfl, h⟩
  · exact h.elim
theorem a3_inv {σ : Type} {f : Int → Int → Int → σ → (PS → σ → Prop) → Prop} {as : List PV} {s : σ} {K : PS → σ → Prop} (h : a3 f as s K) : ∃ x y z, as = [pI x, pI y, pI z] ∧ f x y z s K := by
  unfold a3 at h
  split at h
  · exact ⟨_, _, _, rfl, h⟩
  · exact h.elim
theorem qTT_X0_get (rm w rn z : Int) (d : xl_Ca M pc mX0_get pc2) : cOk (encTT rm w rn z) (bdTT rm w rn z) M rc rs pc pc2 3 (cTT_X0_get rm w rn z) := by
  refine cVirt (mX0_get_ok rn z) vX0_get d tcl rfl (fun as s K hb h => ?_)
  obtain ⟨as, rfl, h1⟩ := atR_inv h
  obtain ⟨i, c, rfl, h2⟩ := a2_inv h1
  exact ⟨_, _, _, [pI i, pI c], lkTT2 rm w rn z, ⟨_, rfl⟩, rfl, h2⟩
def cTT_X0_set (rm w _rn _z : Int) : Sp TTS := atR 0 (a3 (fun i c v s K => (xB i ∧ xB c ∧ xB v) ∧ K [] ((s.1.1, ts rm w s.1.2 i c v), s.2)))
theorem qTT_X0_set (rm w rn z : Int) (d : xl_Ca M pc mX0_set pc2) : cOk (encTT rm w rn z) (bdTT rm w rn z) M rc rs pc pc2 4 (cTT_X0_set rm w rn z) := by
  refine cVirt (mX0_set_ok rm w) vX0_set d tcl rfl (fun as s K hb h => ?_)
  obtain ⟨as, rfl, h1⟩ := atR_inv h
  obtain ⟨i, c, v, rfl, h2⟩ := a3_inv h1
  exact ⟨_, _, _, [pI i, pI c, pI v], lkTT0 rm w rn z, ⟨_, rfl⟩, rfl, h2⟩
end T3
-- X0_copyFrom: heads []
def tX0_copyFrom (rm w rn z : Int) : Nat → Blk TTS := fun pc => bif Nat.blt pc 17 then (bif Nat.beq pc 0 then (oAld 1 <| oNu <| oAld 1 <| oGet (fgTT rm w rn z) 0 2 <| oLen (agTT rm w rn z) <| oAld 0 <| oGet (fgTT rm w rn z) 0 2 <| oLen (agTT rm w rn z) <| oCEq 18 <| oTo 17) else oNo) else (bif Nat.blt pc 18 then (bif Nat.beq pc 17 then (oVret) else oNo) else (bif Nat.beq pc 18 then (oAld 0 <| oAld 1 <| oGet (fgTT rm w rn z) 0 3 <| oPut (fpTT rm w rn z) 0 3 <| oAld 1 <| oGet (fgTT rm w rn z) 0 2 <| oI 0 <| oAld 0 <| oGet (fgTT rm w rn z) 0 2 <| oI 0 <| oAld 0 <| oGet (fgTT rm w rn z) 0 3 <| oAld 0 <| oGet (fgTT rm w rn z) 0 1 <| oMul <| oAld 0 <| oGet (fgTT rm w rn z) 0 2 <| oLen (agTT rm w rn z) <| oMin <| oCpy (agTT rm w rn z) (apTT rm w rn z) <| oVret) else oNo))
theorem tX0_copyFrom_ok (rm w rn z : Int) : ∀ pc, bOk (encTT rm w rn z) (bdTT rm w rn z) mX0_copyFrom 0 0 pc (tX0_copyFrom rm w rn z pc) := fun pc => (tNode (tLeaf (okAldn iX0_copyFrom_0 rfl <| okNu iX0_copyFrom_1 <| okAldn iX0_copyFrom_4 rfl <| okGet (vFgTT rm w rn z) iX0_copyFrom_5 <| okLen (vAgTT rm w rn z) iX0_copyFrom_8 <| okAldn iX0_copyFrom_9 rfl <| okGet (vFgTT rm w rn z) iX0_copyFrom_10 <| okLen (vAgTT rm w rn z) iX0_copyFrom_13 <| okCEq (tl rfl) iX0_copyFrom_14 <| okTo (tl rfl))) (tNode (tLeaf (okVret iX0_copyFrom_17 rfl)) (tLeaf (okAldn iX0_copyFrom_18 rfl <| okAldn iX0_copyFrom_19 rfl <| okGet (vFgTT rm w rn z) iX0_copyFrom_20 <| okPut (vFpTT rm w rn z) iX0_copyFrom_23 <| okAldn iX0_copyFrom_26 rfl <| okGet (vFgTT rm w rn z) iX0_copyFrom_27 <| okIc iX0_copyFrom_30 <| okAldn iX0_copyFrom_31 rfl <| okGet (vFgTT rm w rn z) iX0_copyFrom_32 <| okIc iX0_copyFrom_35 <| okAldn iX0_copyFrom_36 rfl <| okGet (vFgTT rm w rn z) iX0_copyFrom_37 <| okAldn iX0_copyFrom_40 rfl <| okGet (vFgTT rm w rn z) iX0_copyFrom_41 <| okMul iX0_copyFrom_44 <| okAldn iX0_copyFrom_45 rfl <| okGet (vFgTT rm w rn z) iX0_copyFrom_46 <| okLen (vAgTT rm w rn z) iX0_copyFrom_49 <| okMin iX0_copyFrom_50 <| okCpy (vAgTT rm w rn z) iX0_copyFrom_53 <| okVret iX0_copyFrom_56 rfl)))) pc
-- X0_copyRow: heads [8]
def tX0_copyRow (rm w rn z : Int) : Nat → Blk TTS := fun pc => bif Nat.blt pc 8 then (bif Nat.blt pc 5 then (bif Nat.beq pc 0 then (oAld 2 <| oNN 5) else oNo) else (bif Nat.beq pc 5 then (oI 0 <| oIst 4 <| oM [true, true, true, true, true] (oTo 8)) else oNo)) else (bif Nat.blt pc 37 then (bif Nat.beq pc 8 then (oIld 4 <| oAld 0 <| oGet (fgTT rm w rn z) 0 1 <| oCGe 37 <| oAld 0 <| oIld 1 <| oIld 4 <| oAld 2 <| oIld 3 <| oIld 4 <| oC3 (cTT_X0_get rm w rn z) <| oC4 (cTT_X0_set rm w rn z) <| oInc 4 1 <| oM [true, true, true, true, true] (oTo 8)) else oNo) else (bif Nat.beq pc 37 then (oVret) else oNo))
theorem tX0_copyRow_ok (rm w rn z : Int) : ∀ pc, bOk (encTT rm w rn z) (bdTT rm w rn z) mX0_copyRow 0 0 pc (tX0_copyRow rm w rn z pc) := fun pc => (tNode (tNode (tLeaf (okAldn iX0_copyRow_0 rfl <| okNN (tl rfl) iX0_copyRow_1)) (tLeaf (okIc iX0_copyRow_5 <| okIst iX0_copyRow_6 (by decide) <| okM (okTo (tl rfl))))) (tNode (tLeaf (okIld iX0_copyRow_8 <| okAldn iX0_copyRow_10 rfl <| okGet (vFgTT rm w rn z) iX0_copyRow_11 <| okCGe (tl rfl) iX0_copyRow_14 <| okAldn iX0_copyRow_17 rfl <| okIldn iX0_copyRow_18 rfl <| okIld iX0_copyRow_19 <| okAldn iX0_copyRow_21 rfl <| okIldn iX0_copyRow_22 rfl <| okIld iX0_copyRow_23 <| okC3 (qTT_X0_get rm w rn z iX0_copyRow_25) <| okC4 (qTT_X0_set rm w rn z iX0_copyRow_28) <| okInc iX0_copyRow_31 (by decide) <| okGotoM (tl rfl) iX0_copyRow_34)) (tLeaf (okVret iX0_copyRow_37 rfl)))) pc
/-- two tables' methods: i, the other one at place 2 -/
def sX0_copyFrom (rm w : Int) : List PV → TTS → KTT → Prop := fun as s K => match as with
  | [.inr (.inr (.inl 2))] => (0 ≤ s.2.1 ∧ s.2.1 ≤ rm) ∧ K [] ((s.2.1, xcp s.2.2 s.1.2 0 0 (s.2.1 * w).toNat), s.2)
  | _ => False
theorem mX0_copyFrom_ok (rm w : Int) : mOk (encTT rm w rm w) (bdTT rm w rm w) mX0_copyFrom (atR 0 (sX0_copyFrom rm w)) := by
  refine mOk_of kX0_copyFrom (fun as s K h => ?_)
  obtain ⟨as, rfl, h1⟩ := atR_inv h
  unfold sX0_copyFrom at h1
  split at h1
  · refine ⟨rfl, fun hb => wx_go [] 9 (tX0_copyFrom_ok rm w rm w) rfl ?_⟩
    obtain ⟨⟨q1, q2⟩, hK⟩ := h1
    obtain ⟨⟨⟨b1, b2, b3, b4⟩, b5, b6⟩, ⟨⟨d1, d2, d3, d4⟩, d5, d6⟩⟩ := hb
    have m1 := mulle b1 b2 b3 b4
    have m2 := mulA q1 b3
    have e4 : s.2.1 * w ≤ rm * w := Int.mul_le_mul_of_nonneg_right q2 b3
    have emin : min (s.2.1 * w) ((rm * w).toNat : Int) = s.2.1 * w := by omega
    refine ⟨⟨⟨by omega, by omega⟩, ⟨by omega, by omega⟩⟩, fun _ => ?_, fun c => absurd rfl c⟩
    intro _
    refine ⟨d5, ?_⟩
    intro _ _
    refine ⟨⟨⟨?_, ?_⟩, ⟨by omega, by omega⟩⟩, ?_⟩
    · show -2147483648 ≤ s.2.1 * w
      omega
    · show s.2.1 * w ≤ 2147483647
      omega
    · refine ⟨⟨by omega, by omega, ?_, ?_, ?_⟩, ?_⟩
      · show 0 ≤ min (s.2.1 * w) ((rm * w).toNat : Int)
        omega
      · show 0 + min (s.2.1 * w) ((rm * w).toNat : Int) ≤ ((rm * w).toNat : Int)
        omega
      · show 0 + min (s.2.1 * w) ((rm * w).toNat : Int) ≤ ((rm * w).toNat : Int)
        omega
      · show K [] ((s.2.1, xcp s.2.2 s.1.2 0 0 (min (s.2.1 * w) ((rm * w).toNat : Int)).toNat), s.2)
        rw [emin]
        exact hK
  · exact h1.elim
/-- a row of another table -/
def trow (rm w rn z : Int) (g f : Nat → Int) (i j : Int) : Nat → Int := fun k => if (0 ≤ i ∧ i < rm) ∧ (i * w).toNat ≤ k ∧ k < (i * w).toNat + w.toNat then tg rn z f j ((k - (i * w).toNat : Nat) : Int) else g k
def sX0_copyRow (rm w rn z : Int) : List PV → TTS → KTT → Prop := fun as s K => match as with
  | [.inl i, .inr (.inr (.inl 2)), .inl j] => (xB i ∧ xB j) ∧ K [] ((s.1.1, trow rm w rn z s.1.2 s.2.2 i j), s.2)
  | _ => False
theorem tg_B {rm w : Int} {g : Nat → Int} {i c : Int} (h : ∀ k, xB (g k)) : xB (tg rm w g i c) := by
  unfold tg
  split
  · exact h _
  · exact ⟨by omega, by omega⟩
theorem X0_copyRow_loop (rm w rn z : Int) {K : KTT} {Pt : TTS → Prop} (i j sz : Int) (g : Nat → Int) (o : TS) (b1 : 0 ≤ rm ∧ rm ≤ 1000 ∧ 0 ≤ w ∧ w ≤ 100) (hi : xB i) (hj : xB j) (ho : ∀ k, xB (o.2 k)) (hK : K [] ((sz, trow rm w rn z g o.2 i j), o)) : ∀ (n : Nat) (c : Int), 0 ≤ c → c ≤ w → n = (w - c).toNat → wX (encTT rm w rn z) (bdTT rm w rn z) mX0_copyRow 0 0 K Pt 8 [some (pR 0), some (pI i), some (pR 2), some (pI j), some (pI c)] [] ((sz, fun k => if (0 ≤ i ∧ i < rm) ∧ (i * w).toNat ≤ k ∧ k < (i * w).toNat + c.toNat then tg rn z o.2 j ((k - (i * w).toNat : Nat) : Int) else g k), o) := by
  intro n
  induction n with
  | zero =>
    intro c h0 h1 hn
    have : c = w := by omega
    subst this
    refine wx_go [8] 9 (tX0_copyRow_ok rm c rn z) rfl ?_
    repeat' (first | (refine And.intro ?_ ?_) | intro _)
    all_goals first | omega | exact hK
  | succ n ih =>
    intro c h0 h1 hn
    refine wx_go [8] 9 (tX0_copyRow_ok rm w rn z) rfl ?_
    intro _
    refine ⟨⟨⟨by omega, by omega⟩, ⟨by omega, by omega⟩⟩, fun c1 => absurd c1 (by omega), fun c1 => ?_⟩
    refine ⟨⟨hj, ⟨by omega, by omega⟩⟩, ?_⟩
    refine ⟨⟨hi, ⟨by omega, by omega⟩, tg_B ho⟩, ?_⟩
    have e := ih (c + 1) (by omega) (by omega) (by omega)
    have es : ts rm w (fun k => if (0 ≤ i ∧ i < rm) ∧ (i * w).toNat ≤ k ∧ k < (i * w).toNat + c.toNat then tg rn z o.2 j ((k - (i * w).toNat : Nat) : Int) else g k) i c (tg rn z o.2 j c) = fun k => if (0 ≤ i ∧ i < rm) ∧ (i * w).toNat ≤ k ∧ k < (i * w).toNat + (c + 1).toNat then tg rn z o.2 j ((k - (i * w).toNat : Nat) : Int) else g k := by
      unfold ts
      by_cases q : 0 ≤ i ∧ i < rm ∧ 0 ≤ c ∧ c < w
      · obtain ⟨e1, e2, e3⟩ := tin_b q
        rw [if_pos q]
        funext k
        unfold xup
        by_cases hk : k = (i * w + c).toNat
        · rw [if_pos hk, if_pos (by omega)]
          congr 1
          omega
        · rw [if_neg hk]
          dsimp only
          by_cases hk2 : (0 ≤ i ∧ i < rm) ∧ (i * w).toNat ≤ k ∧ k < (i * w).toNat + c.toNat
          · rw [if_pos hk2, if_pos (by omega)]
          · rw [if_neg hk2, if_neg (by omega)]
      · rw [if_neg q]
        funext k
        rw [if_neg (by omega), if_neg (by omega)]
    rw [← es] at e
    exact e
theorem mX0_copyRow_ok (rm w rn z : Int) : mOk (encTT rm w rn z) (bdTT rm w rn z) mX0_copyRow (atR 0 (sX0_copyRow rm w rn z)) := by
  refine mOk_of kX0_copyRow (fun as s K h => ?_)
  obtain ⟨as, rfl, h1⟩ := atR_inv h
  unfold sX0_copyRow at h1
  split at h1
  · next i j =>
    refine ⟨rfl, fun hb => wx_go [8] 9 (tX0_copyRow_ok rm w rn z) rfl ?_⟩
    obtain ⟨⟨hi, hj⟩, hK⟩ := h1
    obtain ⟨⟨⟨b1, b2, b3, b4⟩, b5, b6⟩, ⟨⟨d1, d2, d3, d4⟩, d5, d6⟩⟩ := hb
    have hl := X0_copyRow_loop rm w rn z (K := K) (Pt := fun _ => False) i j s.1.1 s.1.2 s.2 ⟨b1, b2, b3, b4⟩ hi hj d6 hK w.toNat 0 (by omega) b3 (by omega)
    have ez : (fun k => if (0 ≤ i ∧ i < rm) ∧ (i * w).toNat ≤ k ∧ k < (i * w).toNat + Int.toNat 0 then tg rn z s.2.2 j ((k - (i * w).toNat : Nat) : Int) else s.1.2 k) = s.1.2 := by
      funext k
      rw [if_neg (by omega)]
    rw [ez] at hl
    exact hl
  · exact h1.elim
end
-- 22.rem
section
/-! ===== the rest of a division, signs as Java has them; counting ===== -/
section RMT
variable {σ : Type} {enc : σ → XH} {bd : σ → Prop} {M : XI} {rc rs pc pc2 : Nat} {B : Blk σ}
def oRemT (B : Blk σ) : Blk σ := fun J L st s => match st with
  | .inl b :: .inl a :: st => (b ≠ 0 ∧ xB a ∧ xB b) ∧ B J L (.inl (Int.tmod a b) :: st) s
  | _ => False
theorem iI_tmod {a b : Int} (ha : xB a) (hb : xB b) : iI a - iI a / iI b * iI b = iI (Int.tmod a b) := by
  have e : iI (a.tdiv b) = iI a / iI b := Int32.ofInt_tdiv (show Int32.minValue.toInt ≤ a from by show (-2147483648 : Int) ≤ a; exact ha.1) (show a ≤ Int32.maxValue.toInt from by show a ≤ (2147483647 : Int); exact ha.2) (show Int32.minValue.toInt ≤ b from by show (-2147483648 : Int) ≤ b; exact hb.1) (show b ≤ Int32.maxValue.toInt from by show b ≤ (2147483647 : Int); exact hb.2)
  rw [← e, iI_mul, iI_sub, Int.tmod_def, Int.mul_comm b]
theorem okRemT (d : xl_D M pc .irem 1 pc2) (k : bOk enc bd M rc rs pc2 B) : bOk enc bd M rc rs pc (oRemT B) := by
  intro Po Pt J hJ L st s hb h
  unfold oRemT at h
  split at h
  · next b a st => 
    obtain ⟨⟨h1, h2, h3⟩, h4⟩ := h
    exact xl_irem d (fun e => h1 ((iI_eq0 h3).mp e)) (by rw [iI_tmod h2 h3]; exact k Po Pt J hJ _ _ _ hb h4)
  · exact h.elim
theorem cMono {sp sp2 : Sp σ} {n : Nat} (h : ∀ as s K, bd s → sp as s K → sp2 as s K) (hc : cOk enc bd M rc rs pc pc2 n sp2) : cOk enc bd M rc rs pc pc2 n sp :=
  fun as L st s K Q hl hw hb hs hk => hc as L st s K Q hl hw hb (h as s K hb hs) hk
/-- an object among the caller's cells: which one, by its place -/
def inT (tix : Nat → Option Nat) (f : Nat → List PV → σ → (PS → σ → Prop) → Prop) : Sp σ := fun as s K => match as with
  | .inr (.inr (.inl q)) :: as => match tix q with
    | some t => bif as.all pnr then f t as s K else False
    | none => False
  | _ => False
theorem inT_inv {tix : Nat → Option Nat} {f : Nat → List PV → σ → (PS → σ → Prop) → Prop} {as : List PV} {s : σ} {K : PS → σ → Prop} (h : inT tix f as s K) : ∃ q t as', as = pR q :: as' ∧ tix q = some t ∧ as'.all pnr = true ∧ f t as' s K := by
  unfold inT at h
  split at h
  · next q as =>
    split at h
    · next t e =>
      obtain ⟨h1, h2⟩ := condT h
      exact ⟨q, t, as, rfl, e, h1, h2⟩
    · exact h.elim
  · exact h.elim
theorem inT_mk {tix : Nat → Option Nat} {f : Nat → List PV → σ → (PS → σ → Prop) → Prop} {as : List PV} {s : σ} {K : PS → σ → Prop} {q t : Nat} (h1 : tix q = some t) (h2 : as.all pnr = true) (h3 : f t as s K) : inT tix f (pR q :: as) s K := by
  show (match tix q with
    | some t => bif as.all pnr then f t as s K else False
    | none => False)
  rw [h1, h2]
  exact h3
theorem a0_inv {f : σ → (PS → σ → Prop) → Prop} {as : List PV} {s : σ} {K : PS → σ → Prop} (h : a0 f as s K) : as = [] ∧ f s K := by
  unfold a0 at h
  split at h
  · exact ⟨rfl, h⟩
  · exact h.elim
theorem a1_inv {f : Int → σ → (PS → σ → Prop) → Prop} {as : List PV} {s : σ} {K : PS → σ → Prop} (h : a1 f as s K) : ∃ x, as = [pI x] ∧ f x s K := by
  unfold a1 at h
  split at h
  · exact ⟨_, rfl, h⟩
  · exact h.elim
theorem a4_inv {f : Int → Int → Int → Int → σ → (PS → σ → Prop) → Prop} {as : List PV} {s : σ} {K : PS → σ → Prop} (h : a4 f as s K) : ∃ x y z u, as = [pI x, pI y, pI z, pI u] ∧ f x y z u s K := by
  unfold a4 at h
  split at h
  · exact ⟨_, _, _, _, rfl, h⟩
  · exact h.elim
/-- how many of n places from i on -/
def cntI (P : Int → Bool) : Nat → Int → Int
  | 0, _ => 0
  | n + 1, i => (bif P i then 1 else 0) + cntI P n (i + 1)
theorem cntI_b (P : Int → Bool) : ∀ (n : Nat) (i : Int), 0 ≤ cntI P n i ∧ cntI P n i ≤ n
  | 0, i => by simp [cntI]
  | n + 1, i => by
    have := cntI_b P n (i + 1)
    unfold cntI
    cases P i <;> simp only [cond_true, cond_false] <;> omega
def sumI (f : Int → Int) : Nat → Int → Int → Int
  | 0, _, a => a
  | n + 1, i, a => sumI f n (i + 1) (wI (a + f i))
theorem sumI_B (f : Int → Int) : ∀ (n : Nat) (i a : Int), xB a → xB (sumI f n i a)
  | 0, _, _, h => h
  | n + 1, i, a, _ => sumI_B f n (i + 1) _ (wI_B _)
end RMT
end
