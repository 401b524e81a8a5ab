/-! ===== the words of the throw, by their places ===== -/
theorem xt_in : ∀ w ∈ xt_L.filter goodWord, w ∈ xl_T := xl_inp [774, 107, 104, 796, 805, 807, 810, 812, 797, 798, 115, 116, 799, 804, 808, 824, 786, 825, 788, 826, 790, 800, 802, 792, 814, 815, 816, 817, 817, 818, 819, 820, 820, 821, 822, 797, 813, 775, 783, 784, 785, 787, 789, 791, 795, 794, 793] (by decide +kernel) (by decide +kernel)
theorem xt_b0 : Cond.castable nseC nseC ∈ lw_tbl := List.mem_of_getElem? (i := 776) (by decide +kernel)
theorem xt_b1 : Cond.declares (Bundle.init0 "java/lang/RuntimeException") ∈ lw_tbl := List.mem_of_getElem? (i := 777) (by decide +kernel)
theorem xt_b2 : Cond.declares (Bundle.init0 "java/lang/Exception") ∈ lw_tbl := List.mem_of_getElem? (i := 779) (by decide +kernel)
theorem xt_b3 : Cond.declares (Bundle.init0 Bundle.tN) ∈ lw_tbl := List.mem_of_getElem? (i := 781) (by decide +kernel)
theorem xt_lU : Cond.laysStatic Bundle.tN "UNASSIGNED_STACK" Bundle.steD ∈ lw_tbl := List.mem_of_getElem? (i := 801) (by decide +kernel)
theorem xt_lN : Cond.laysStatic Bundle.tN "SUPPRESSED_SENTINEL" Bundle.listD ∈ lw_tbl := List.mem_of_getElem? (i := 803) (by decide +kernel)
theorem xt_iT : Cond.initialized Bundle.tN ∈ lw_tbl := List.mem_of_getElem? (i := 104) (by decide +kernel)
