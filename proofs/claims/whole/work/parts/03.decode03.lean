theorem dX12_dipNow_0 : decode cX12_dipNow 0 = .ok (.aload_n 0, 1) := by decide +kernel
theorem dX12_dipNow_1 : decode cX12_dipNow 1 = .ok (.getfield 64, 3) := by decide +kernel
theorem dX12_dipNow_4 : decode cX12_dipNow 4 = .ok (.iconst 4, 1) := by decide +kernel
theorem dX12_dipNow_5 : decode cX12_dipNow 5 = .ok (.bipush 7, 2) := by decide +kernel
theorem dX12_dipNow_7 : decode cX12_dipNow 7 = .ok (.iload_n 2, 1) := by decide +kernel
theorem dX12_dipNow_8 : decode cX12_dipNow 8 = .ok (.imul, 1) := by decide +kernel
theorem dX12_dipNow_9 : decode cX12_dipNow 9 = .ok (.iadd, 1) := by decide +kernel
theorem dX12_dipNow_10 : decode cX12_dipNow 10 = .ok (.aload_n 0, 1) := by decide +kernel
theorem dX12_dipNow_11 : decode cX12_dipNow 11 = .ok (.getfield 64, 3) := by decide +kernel
theorem dX12_dipNow_14 : decode cX12_dipNow 14 = .ok (.iconst 0, 1) := by decide +kernel
theorem dX12_dipNow_15 : decode cX12_dipNow 15 = .ok (.iload_n 2, 1) := by decide +kernel
theorem dX12_dipNow_16 : decode cX12_dipNow 16 = .ok (.iadd, 1) := by decide +kernel
theorem dX12_dipNow_17 : decode cX12_dipNow 17 = .ok (.iaload, 1) := by decide +kernel
theorem dX12_dipNow_18 : decode cX12_dipNow 18 = .ok (.iadd, 1) := by decide +kernel
theorem dX12_dipNow_19 : decode cX12_dipNow 19 = .ok (.iload_n 1, 1) := by decide +kernel
theorem dX12_dipNow_20 : decode cX12_dipNow 20 = .ok (.iastore, 1) := by decide +kernel
theorem dX12_dipNow_21 : decode cX12_dipNow 21 = .ok (.aload_n 0, 1) := by decide +kernel
theorem dX12_dipNow_22 : decode cX12_dipNow 22 = .ok (.getfield 64, 3) := by decide +kernel
theorem dX12_dipNow_25 : decode cX12_dipNow 25 = .ok (.iconst 0, 1) := by decide +kernel
theorem dX12_dipNow_26 : decode cX12_dipNow 26 = .ok (.iload_n 2, 1) := by decide +kernel
theorem dX12_dipNow_27 : decode cX12_dipNow 27 = .ok (.iadd, 1) := by decide +kernel
theorem dX12_dipNow_28 : decode cX12_dipNow 28 = .ok (.dup2, 1) := by decide +kernel
theorem dX12_dipNow_29 : decode cX12_dipNow 29 = .ok (.iaload, 1) := by decide +kernel
theorem dX12_dipNow_30 : decode cX12_dipNow 30 = .ok (.iconst 1, 1) := by decide +kernel
theorem dX12_dipNow_31 : decode cX12_dipNow 31 = .ok (.iadd, 1) := by decide +kernel
theorem dX12_dipNow_32 : decode cX12_dipNow 32 = .ok (.iastore, 1) := by decide +kernel
theorem dX12_dipNow_33 : decode cX12_dipNow 33 = .ok (.return_, 1) := by decide +kernel
theorem dX12_dip_0 : decode cX12_dip 0 = .ok (.aload_n 0, 1) := by decide +kernel
theorem dX12_dip_1 : decode cX12_dip 1 = .ok (.aload_n 0, 1) := by decide +kernel
theorem dX12_dip_2 : decode cX12_dip 2 = .ok (.iload_n 1, 1) := by decide +kernel
theorem dX12_dip_3 : decode cX12_dip 3 = .ok (.invokevirtual 333, 3) := by decide +kernel
theorem dX12_dip_6 : decode cX12_dip 6 = .ok (.ifCond .eq 11, 3) := by decide +kernel
theorem dX12_dip_9 : decode cX12_dip 9 = .ok (.aload_n 0, 1) := by decide +kernel
theorem dX12_dip_10 : decode cX12_dip 10 = .ok (.iload_n 2, 1) := by decide +kernel
theorem dX12_dip_11 : decode cX12_dip 11 = .ok (.invokevirtual 336, 3) := by decide +kernel
theorem dX12_dip_14 : decode cX12_dip 14 = .ok (.ifCond .ne 7, 3) := by decide +kernel
theorem dX12_dip_17 : decode cX12_dip 17 = .ok (.iconst 0, 1) := by decide +kernel
theorem dX12_dip_18 : decode cX12_dip 18 = .ok (.goto 29, 3) := by decide +kernel
theorem dX12_dip_21 : decode cX12_dip 21 = .ok (.aload_n 0, 1) := by decide +kernel
theorem dX12_dip_22 : decode cX12_dip 22 = .ok (.iload_n 1, 1) := by decide +kernel
theorem dX12_dip_23 : decode cX12_dip 23 = .ok (.invokevirtual 303, 3) := by decide +kernel
theorem dX12_dip_26 : decode cX12_dip 26 = .ok (.ifCond .ne 7, 3) := by decide +kernel
theorem dX12_dip_29 : decode cX12_dip 29 = .ok (.iconst 2, 1) := by decide +kernel
theorem dX12_dip_30 : decode cX12_dip 30 = .ok (.goto 17, 3) := by decide +kernel
theorem dX12_dip_33 : decode cX12_dip 33 = .ok (.aload_n 0, 1) := by decide +kernel
theorem dX12_dip_34 : decode cX12_dip 34 = .ok (.iload_n 1, 1) := by decide +kernel
theorem dX12_dip_35 : decode cX12_dip 35 = .ok (.iload_n 2, 1) := by decide +kernel
theorem dX12_dip_36 : decode cX12_dip 36 = .ok (.invokevirtual 348, 3) := by decide +kernel
theorem dX12_dip_39 : decode cX12_dip 39 = .ok (.ifCond .ne 7, 3) := by decide +kernel
theorem dX12_dip_42 : decode cX12_dip 42 = .ok (.iconst 3, 1) := by decide +kernel
theorem dX12_dip_43 : decode cX12_dip 43 = .ok (.goto 4, 3) := by decide +kernel
theorem dX12_dip_46 : decode cX12_dip 46 = .ok (.iconst (-1), 1) := by decide +kernel
theorem dX12_dip_47 : decode cX12_dip 47 = .ok (.invokevirtual 351, 3) := by decide +kernel
theorem dX12_dip_50 : decode cX12_dip 50 = .ok (.ifCond .eq 5, 3) := by decide +kernel
theorem dX12_dip_53 : decode cX12_dip 53 = .ok (.iconst (-1), 1) := by decide +kernel
theorem dX12_dip_54 : decode cX12_dip 54 = .ok (.ireturn, 1) := by decide +kernel
theorem dX12_dip_55 : decode cX12_dip 55 = .ok (.aload_n 0, 1) := by decide +kernel
theorem dX12_dip_56 : decode cX12_dip 56 = .ok (.invokevirtual 354, 3) := by decide +kernel
theorem dX12_dip_59 : decode cX12_dip 59 = .ok (.aload_n 0, 1) := by decide +kernel
theorem dX12_dip_60 : decode cX12_dip 60 = .ok (.iload_n 1, 1) := by decide +kernel
theorem dX12_dip_61 : decode cX12_dip 61 = .ok (.iload_n 2, 1) := by decide +kernel
theorem dX12_dip_62 : decode cX12_dip 62 = .ok (.invokevirtual 357, 3) := by decide +kernel
theorem dX12_dip_65 : decode cX12_dip 65 = .ok (.aload_n 0, 1) := by decide +kernel
theorem dX12_dip_66 : decode cX12_dip 66 = .ok (.iload_n 2, 1) := by decide +kernel
theorem dX12_dip_67 : decode cX12_dip 67 = .ok (.invokevirtual 339, 3) := by decide +kernel
theorem dX12_dip_70 : decode cX12_dip 70 = .ok (.ireturn, 1) := by decide +kernel
theorem dX12_riseNow_0 : decode cX12_riseNow 0 = .ok (.aload_n 0, 1) := by decide +kernel
theorem dX12_riseNow_1 : decode cX12_riseNow 1 = .ok (.iload_n 1, 1) := by decide +kernel
theorem dX12_riseNow_2 : decode cX12_riseNow 2 = .ok (.iload_n 2, 1) := by decide +kernel
theorem dX12_riseNow_3 : decode cX12_riseNow 3 = .ok (.invokevirtual 285, 3) := by decide +kernel
theorem dX12_riseNow_6 : decode cX12_riseNow 6 = .ok (.istore_n 3, 1) := by decide +kernel
theorem dX12_riseNow_7 : decode cX12_riseNow 7 = .ok (.iload_n 2, 1) := by decide +kernel
theorem dX12_riseNow_8 : decode cX12_riseNow 8 = .ok (.iconst 1, 1) := by decide +kernel
theorem dX12_riseNow_9 : decode cX12_riseNow 9 = .ok (.iadd, 1) := by decide +kernel
theorem dX12_riseNow_10 : decode cX12_riseNow 10 = .ok (.istore 4, 2) := by decide +kernel
theorem dX12_riseNow_12 : decode cX12_riseNow 12 = .ok (.iload 4, 2) := by decide +kernel
theorem dX12_riseNow_14 : decode cX12_riseNow 14 = .ok (.aload_n 0, 1) := by decide +kernel
theorem dX12_riseNow_15 : decode cX12_riseNow 15 = .ok (.getfield 64, 3) := by decide +kernel
theorem dX12_riseNow_18 : decode cX12_riseNow 18 = .ok (.iconst 0, 1) := by decide +kernel
theorem dX12_riseNow_19 : decode cX12_riseNow 19 = .ok (.iload_n 1, 1) := by decide +kernel
theorem dX12_riseNow_20 : decode cX12_riseNow 20 = .ok (.iadd, 1) := by decide +kernel
theorem dX12_riseNow_21 : decode cX12_riseNow 21 = .ok (.iaload, 1) := by decide +kernel
theorem dX12_riseNow_22 : decode cX12_riseNow 22 = .ok (.if_icmp .ge 32, 3) := by decide +kernel
theorem dX12_riseNow_25 : decode cX12_riseNow 25 = .ok (.aload_n 0, 1) := by decide +kernel
theorem dX12_riseNow_26 : decode cX12_riseNow 26 = .ok (.getfield 64, 3) := by decide +kernel
theorem dX12_riseNow_29 : decode cX12_riseNow 29 = .ok (.iconst 4, 1) := by decide +kernel
theorem dX12_riseNow_30 : decode cX12_riseNow 30 = .ok (.bipush 7, 2) := by decide +kernel
theorem dX12_riseNow_32 : decode cX12_riseNow 32 = .ok (.iload_n 1, 1) := by decide +kernel
theorem dX12_riseNow_33 : decode cX12_riseNow 33 = .ok (.imul, 1) := by decide +kernel
theorem dX12_riseNow_34 : decode cX12_riseNow 34 = .ok (.iadd, 1) := by decide +kernel
theorem dX12_riseNow_35 : decode cX12_riseNow 35 = .ok (.iload 4, 2) := by decide +kernel
theorem dX12_riseNow_37 : decode cX12_riseNow 37 = .ok (.iadd, 1) := by decide +kernel
theorem dX12_riseNow_38 : decode cX12_riseNow 38 = .ok (.iconst 1, 1) := by decide +kernel
theorem dX12_riseNow_39 : decode cX12_riseNow 39 = .ok (.isub, 1) := by decide +kernel
theorem dX12_riseNow_40 : decode cX12_riseNow 40 = .ok (.aload_n 0, 1) := by decide +kernel
theorem dX12_riseNow_41 : decode cX12_riseNow 41 = .ok (.iload_n 1, 1) := by decide +kernel
theorem dX12_riseNow_42 : decode cX12_riseNow 42 = .ok (.iload 4, 2) := by decide +kernel
theorem dX12_riseNow_44 : decode cX12_riseNow 44 = .ok (.invokevirtual 285, 3) := by decide +kernel
theorem dX12_riseNow_47 : decode cX12_riseNow 47 = .ok (.iastore, 1) := by decide +kernel
theorem dX12_riseNow_48 : decode cX12_riseNow 48 = .ok (.iinc 4 1, 3) := by decide +kernel
theorem dX12_riseNow_51 : decode cX12_riseNow 51 = .ok (.goto (-39), 3) := by decide +kernel
theorem dX12_riseNow_54 : decode cX12_riseNow 54 = .ok (.aload_n 0, 1) := by decide +kernel
theorem dX12_riseNow_55 : decode cX12_riseNow 55 = .ok (.getfield 64, 3) := by decide +kernel
theorem dX12_riseNow_58 : decode cX12_riseNow 58 = .ok (.iconst 0, 1) := by decide +kernel
theorem dX12_riseNow_59 : decode cX12_riseNow 59 = .ok (.iload_n 1, 1) := by decide +kernel
theorem dX12_riseNow_60 : decode cX12_riseNow 60 = .ok (.iadd, 1) := by decide +kernel
theorem dX12_riseNow_61 : decode cX12_riseNow 61 = .ok (.dup2, 1) := by decide +kernel
theorem dX12_riseNow_62 : decode cX12_riseNow 62 = .ok (.iaload, 1) := by decide +kernel
theorem dX12_riseNow_63 : decode cX12_riseNow 63 = .ok (.iconst 1, 1) := by decide +kernel
theorem dX12_riseNow_64 : decode cX12_riseNow 64 = .ok (.isub, 1) := by decide +kernel
theorem dX12_riseNow_65 : decode cX12_riseNow 65 = .ok (.iastore, 1) := by decide +kernel
theorem dX12_riseNow_66 : decode cX12_riseNow 66 = .ok (.iload_n 3, 1) := by decide +kernel
theorem dX12_riseNow_67 : decode cX12_riseNow 67 = .ok (.ireturn, 1) := by decide +kernel
theorem dX12_reachedBy_0 : decode cX12_reachedBy 0 = .ok (.iconst 0, 1) := by decide +kernel
theorem dX12_reachedBy_1 : decode cX12_reachedBy 1 = .ok (.istore_n 3, 1) := by decide +kernel
theorem dX12_reachedBy_2 : decode cX12_reachedBy 2 = .ok (.iload_n 3, 1) := by decide +kernel
theorem dX12_reachedBy_3 : decode cX12_reachedBy 3 = .ok (.aload_n 0, 1) := by decide +kernel
theorem dX12_reachedBy_4 : decode cX12_reachedBy 4 = .ok (.getfield 64, 3) := by decide +kernel
theorem dX12_reachedBy_7 : decode cX12_reachedBy 7 = .ok (.iconst 0, 1) := by decide +kernel
theorem dX12_reachedBy_8 : decode cX12_reachedBy 8 = .ok (.iload_n 1, 1) := by decide +kernel
theorem dX12_reachedBy_9 : decode cX12_reachedBy 9 = .ok (.iadd, 1) := by decide +kernel
theorem dX12_reachedBy_10 : decode cX12_reachedBy 10 = .ok (.iaload, 1) := by decide +kernel
theorem dX12_reachedBy_11 : decode cX12_reachedBy 11 = .ok (.if_icmp .ge 32, 3) := by decide +kernel
theorem dX12_reachedBy_14 : decode cX12_reachedBy 14 = .ok (.aload_n 0, 1) := by decide +kernel
theorem dX12_reachedBy_15 : decode cX12_reachedBy 15 = .ok (.aload_n 0, 1) := by decide +kernel
theorem dX12_reachedBy_16 : decode cX12_reachedBy 16 = .ok (.iload_n 1, 1) := by decide +kernel
theorem dX12_reachedBy_17 : decode cX12_reachedBy 17 = .ok (.iload_n 3, 1) := by decide +kernel
theorem dX12_reachedBy_18 : decode cX12_reachedBy 18 = .ok (.invokevirtual 285, 3) := by decide +kernel
theorem dX12_reachedBy_21 : decode cX12_reachedBy 21 = .ok (.invokevirtual 288, 3) := by decide +kernel
theorem dX12_reachedBy_24 : decode cX12_reachedBy 24 = .ok (.aload_n 0, 1) := by decide +kernel
theorem dX12_reachedBy_25 : decode cX12_reachedBy 25 = .ok (.iload_n 1, 1) := by decide +kernel
theorem dX12_reachedBy_26 : decode cX12_reachedBy 26 = .ok (.iload_n 3, 1) := by decide +kernel
theorem dX12_reachedBy_27 : decode cX12_reachedBy 27 = .ok (.invokevirtual 300, 3) := by decide +kernel
theorem dX12_reachedBy_30 : decode cX12_reachedBy 30 = .ok (.iadd, 1) := by decide +kernel
theorem dX12_reachedBy_31 : decode cX12_reachedBy 31 = .ok (.iload_n 2, 1) := by decide +kernel
theorem dX12_reachedBy_32 : decode cX12_reachedBy 32 = .ok (.if_icmp .gt 5, 3) := by decide +kernel
theorem dX12_reachedBy_35 : decode cX12_reachedBy 35 = .ok (.iload_n 3, 1) := by decide +kernel
theorem dX12_reachedBy_36 : decode cX12_reachedBy 36 = .ok (.ireturn, 1) := by decide +kernel
theorem dX12_reachedBy_37 : decode cX12_reachedBy 37 = .ok (.iinc 3 1, 3) := by decide +kernel
theorem dX12_reachedBy_40 : decode cX12_reachedBy 40 = .ok (.goto (-38), 3) := by decide +kernel
theorem dX12_reachedBy_43 : decode cX12_reachedBy 43 = .ok (.iconst (-1), 1) := by decide +kernel
theorem dX12_reachedBy_44 : decode cX12_reachedBy 44 = .ok (.ireturn, 1) := by decide +kernel
theorem dX12_scratchNow_0 : decode cX12_scratchNow 0 = .ok (.aload_n 0, 1) := by decide +kernel
theorem dX12_scratchNow_1 : decode cX12_scratchNow 1 = .ok (.iload_n 1, 1) := by decide +kernel
theorem dX12_scratchNow_2 : decode cX12_scratchNow 2 = .ok (.iload_n 2, 1) := by decide +kernel
theorem dX12_scratchNow_3 : decode cX12_scratchNow 3 = .ok (.invokevirtual 360, 3) := by decide +kernel
theorem dX12_scratchNow_6 : decode cX12_scratchNow 6 = .ok (.istore_n 3, 1) := by decide +kernel
theorem dX12_scratchNow_7 : decode cX12_scratchNow 7 = .ok (.iload_n 3, 1) := by decide +kernel
theorem dX12_scratchNow_8 : decode cX12_scratchNow 8 = .ok (.iconst (-1), 1) := by decide +kernel
theorem dX12_scratchNow_9 : decode cX12_scratchNow 9 = .ok (.if_icmp .ne 7, 3) := by decide +kernel
theorem dX12_scratchNow_12 : decode cX12_scratchNow 12 = .ok (.iconst (-1), 1) := by decide +kernel
theorem dX12_scratchNow_13 : decode cX12_scratchNow 13 = .ok (.goto 9, 3) := by decide +kernel
theorem dX12_scratchNow_16 : decode cX12_scratchNow 16 = .ok (.aload_n 0, 1) := by decide +kernel
theorem dX12_scratchNow_17 : decode cX12_scratchNow 17 = .ok (.iload_n 1, 1) := by decide +kernel
theorem dX12_scratchNow_18 : decode cX12_scratchNow 18 = .ok (.iload_n 3, 1) := by decide +kernel
theorem dX12_scratchNow_19 : decode cX12_scratchNow 19 = .ok (.invokevirtual 363, 3) := by decide +kernel
theorem dX12_scratchNow_22 : decode cX12_scratchNow 22 = .ok (.ireturn, 1) := by decide +kernel
theorem dX12_scratch_0 : decode cX12_scratch 0 = .ok (.aload_n 0, 1) := by decide +kernel
theorem dX12_scratch_1 : decode cX12_scratch 1 = .ok (.aload_n 0, 1) := by decide +kernel
theorem dX12_scratch_2 : decode cX12_scratch 2 = .ok (.iload_n 1, 1) := by decide +kernel
theorem dX12_scratch_3 : decode cX12_scratch 3 = .ok (.invokevirtual 336, 3) := by decide +kernel
theorem dX12_scratch_6 : decode cX12_scratch 6 = .ok (.ifCond .ne 7, 3) := by decide +kernel
theorem dX12_scratch_9 : decode cX12_scratch 9 = .ok (.iconst 0, 1) := by decide +kernel
theorem dX12_scratch_10 : decode cX12_scratch 10 = .ok (.goto 33, 3) := by decide +kernel
theorem dX12_scratch_13 : decode cX12_scratch 13 = .ok (.iload_n 2, 1) := by decide +kernel
theorem dX12_scratch_14 : decode cX12_scratch 14 = .ok (.iconst 1, 1) := by decide +kernel
theorem dX12_scratch_15 : decode cX12_scratch 15 = .ok (.bipush 9, 2) := by decide +kernel
theorem dX12_scratch_17 : decode cX12_scratch 17 = .ok (.invokestatic 207, 3) := by decide +kernel
theorem dX12_scratch_20 : decode cX12_scratch 20 = .ok (.ifCond .ne 7, 3) := by decide +kernel
theorem dX12_scratch_23 : decode cX12_scratch 23 = .ok (.iconst 1, 1) := by decide +kernel
theorem dX12_scratch_24 : decode cX12_scratch 24 = .ok (.goto 19, 3) := by decide +kernel
theorem dX12_scratch_27 : decode cX12_scratch 27 = .ok (.aload_n 0, 1) := by decide +kernel
theorem dX12_scratch_28 : decode cX12_scratch 28 = .ok (.getfield 64, 3) := by decide +kernel
theorem dX12_scratch_31 : decode cX12_scratch 31 = .ok (.iconst 0, 1) := by decide +kernel
theorem dX12_scratch_32 : decode cX12_scratch 32 = .ok (.iload_n 1, 1) := by decide +kernel
theorem dX12_scratch_33 : decode cX12_scratch 33 = .ok (.iadd, 1) := by decide +kernel
theorem dX12_scratch_34 : decode cX12_scratch 34 = .ok (.iaload, 1) := by decide +kernel
theorem dX12_scratch_35 : decode cX12_scratch 35 = .ok (.ifCond .ne 7, 3) := by decide +kernel
theorem dX12_scratch_38 : decode cX12_scratch 38 = .ok (.iconst 2, 1) := by decide +kernel
theorem dX12_scratch_39 : decode cX12_scratch 39 = .ok (.goto 4, 3) := by decide +kernel
theorem dX12_scratch_42 : decode cX12_scratch 42 = .ok (.iconst (-1), 1) := by decide +kernel
theorem dX12_scratch_43 : decode cX12_scratch 43 = .ok (.invokevirtual 351, 3) := by decide +kernel
theorem dX12_scratch_46 : decode cX12_scratch 46 = .ok (.ifCond .eq 6, 3) := by decide +kernel
theorem dX12_scratch_49 : decode cX12_scratch 49 = .ok (.bipush (-2), 2) := by decide +kernel
theorem dX12_scratch_51 : decode cX12_scratch 51 = .ok (.ireturn, 1) := by decide +kernel
theorem dX12_scratch_52 : decode cX12_scratch 52 = .ok (.aload_n 0, 1) := by decide +kernel
theorem dX12_scratch_53 : decode cX12_scratch 53 = .ok (.invokevirtual 354, 3) := by decide +kernel
theorem dX12_scratch_56 : decode cX12_scratch 56 = .ok (.aload_n 0, 1) := by decide +kernel
theorem dX12_scratch_57 : decode cX12_scratch 57 = .ok (.iload_n 1, 1) := by decide +kernel
theorem dX12_scratch_58 : decode cX12_scratch 58 = .ok (.iload_n 2, 1) := by decide +kernel
theorem dX12_scratch_59 : decode cX12_scratch 59 = .ok (.invokevirtual 366, 3) := by decide +kernel
theorem dX12_scratch_62 : decode cX12_scratch 62 = .ok (.ireturn, 1) := by decide +kernel
theorem dX12_whyNot_0 : decode cX12_whyNot 0 = .ok (.aload_n 0, 1) := by decide +kernel
theorem dX12_whyNot_1 : decode cX12_whyNot 1 = .ok (.iload_n 1, 1) := by decide +kernel
theorem dX12_whyNot_2 : decode cX12_whyNot 2 = .ok (.invokevirtual 336, 3) := by decide +kernel
theorem dX12_whyNot_5 : decode cX12_whyNot 5 = .ok (.ifCond .ne 7, 3) := by decide +kernel
theorem dX12_whyNot_8 : decode cX12_whyNot 8 = .ok (.iconst 0, 1) := by decide +kernel
theorem dX12_whyNot_9 : decode cX12_whyNot 9 = .ok (.goto 34, 3) := by decide +kernel
theorem dX12_whyNot_12 : decode cX12_whyNot 12 = .ok (.aload_n 0, 1) := by decide +kernel
theorem dX12_whyNot_13 : decode cX12_whyNot 13 = .ok (.getfield 64, 3) := by decide +kernel
theorem dX12_whyNot_16 : decode cX12_whyNot 16 = .ok (.iconst 0, 1) := by decide +kernel
theorem dX12_whyNot_17 : decode cX12_whyNot 17 = .ok (.iload_n 1, 1) := by decide +kernel
theorem dX12_whyNot_18 : decode cX12_whyNot 18 = .ok (.iadd, 1) := by decide +kernel
theorem dX12_whyNot_19 : decode cX12_whyNot 19 = .ok (.iaload, 1) := by decide +kernel
theorem dX12_whyNot_20 : decode cX12_whyNot 20 = .ok (.ifCond .ne 7, 3) := by decide +kernel
theorem dX12_whyNot_23 : decode cX12_whyNot 23 = .ok (.iconst 2, 1) := by decide +kernel
theorem dX12_whyNot_24 : decode cX12_whyNot 24 = .ok (.goto 19, 3) := by decide +kernel
theorem dX12_whyNot_27 : decode cX12_whyNot 27 = .ok (.aload_n 0, 1) := by decide +kernel
theorem dX12_whyNot_28 : decode cX12_whyNot 28 = .ok (.getfield 64, 3) := by decide +kernel
theorem dX12_whyNot_31 : decode cX12_whyNot 31 = .ok (.bipush 36, 2) := by decide +kernel
theorem dX12_whyNot_33 : decode cX12_whyNot 33 = .ok (.iaload, 1) := by decide +kernel
theorem dX12_whyNot_34 : decode cX12_whyNot 34 = .ok (.iload_n 2, 1) := by decide +kernel
theorem dX12_whyNot_35 : decode cX12_whyNot 35 = .ok (.if_icmp .ge 7, 3) := by decide +kernel
theorem dX12_whyNot_38 : decode cX12_whyNot 38 = .ok (.iconst 4, 1) := by decide +kernel
theorem dX12_whyNot_39 : decode cX12_whyNot 39 = .ok (.goto 4, 3) := by decide +kernel
theorem dX12_whyNot_42 : decode cX12_whyNot 42 = .ok (.iconst (-1), 1) := by decide +kernel
theorem dX12_whyNot_43 : decode cX12_whyNot 43 = .ok (.ireturn, 1) := by decide +kernel
theorem dX12_blot_0 : decode cX12_blot 0 = .ok (.aload_n 0, 1) := by decide +kernel
theorem dX12_blot_1 : decode cX12_blot 1 = .ok (.aload_n 0, 1) := by decide +kernel
theorem dX12_blot_2 : decode cX12_blot 2 = .ok (.iload_n 1, 1) := by decide +kernel
theorem dX12_blot_3 : decode cX12_blot 3 = .ok (.iconst 2, 1) := by decide +kernel
theorem dX12_blot_4 : decode cX12_blot 4 = .ok (.invokevirtual 369, 3) := by decide +kernel
theorem dX12_blot_7 : decode cX12_blot 7 = .ok (.invokevirtual 351, 3) := by decide +kernel
theorem dX12_blot_10 : decode cX12_blot 10 = .ok (.ifCond .eq 6, 3) := by decide +kernel
theorem dX12_blot_13 : decode cX12_blot 13 = .ok (.bipush (-2), 2) := by decide +kernel
theorem dX12_blot_15 : decode cX12_blot 15 = .ok (.ireturn, 1) := by decide +kernel
theorem dX12_blot_16 : decode cX12_blot 16 = .ok (.aload_n 0, 1) := by decide +kernel
theorem dX12_blot_17 : decode cX12_blot 17 = .ok (.invokevirtual 354, 3) := by decide +kernel
theorem dX12_blot_20 : decode cX12_blot 20 = .ok (.aload_n 0, 1) := by decide +kernel
theorem dX12_blot_21 : decode cX12_blot 21 = .ok (.getfield 64, 3) := by decide +kernel
theorem dX12_blot_24 : decode cX12_blot 24 = .ok (.bipush 36, 2) := by decide +kernel
theorem dX12_blot_26 : decode cX12_blot 26 = .ok (.dup2, 1) := by decide +kernel
theorem dX12_blot_27 : decode cX12_blot 27 = .ok (.iaload, 1) := by decide +kernel
theorem dX12_blot_28 : decode cX12_blot 28 = .ok (.iconst 2, 1) := by decide +kernel
theorem dX12_blot_29 : decode cX12_blot 29 = .ok (.isub, 1) := by decide +kernel
theorem dX12_blot_30 : decode cX12_blot 30 = .ok (.iastore, 1) := by decide +kernel
theorem dX12_blot_31 : decode cX12_blot 31 = .ok (.aload_n 0, 1) := by decide +kernel
theorem dX12_blot_32 : decode cX12_blot 32 = .ok (.iload_n 1, 1) := by decide +kernel
theorem dX12_blot_33 : decode cX12_blot 33 = .ok (.aload_n 0, 1) := by decide +kernel
theorem dX12_blot_34 : decode cX12_blot 34 = .ok (.getfield 64, 3) := by decide +kernel
theorem dX12_blot_37 : decode cX12_blot 37 = .ok (.iconst 0, 1) := by decide +kernel
theorem dX12_blot_38 : decode cX12_blot 38 = .ok (.iload_n 1, 1) := by decide +kernel
theorem dX12_blot_39 : decode cX12_blot 39 = .ok (.iadd, 1) := by decide +kernel
theorem dX12_blot_40 : decode cX12_blot 40 = .ok (.iaload, 1) := by decide +kernel
theorem dX12_blot_41 : decode cX12_blot 41 = .ok (.iconst 1, 1) := by decide +kernel
theorem dX12_blot_42 : decode cX12_blot 42 = .ok (.isub, 1) := by decide +kernel
theorem dX12_blot_43 : decode cX12_blot 43 = .ok (.invokevirtual 363, 3) := by decide +kernel
theorem dX12_blot_46 : decode cX12_blot 46 = .ok (.ireturn, 1) := by decide +kernel
theorem dX12_water_0 : decode cX12_water 0 = .ok (.aload_n 0, 1) := by decide +kernel
theorem dX12_water_1 : decode cX12_water 1 = .ok (.aload_n 0, 1) := by decide +kernel
theorem dX12_water_2 : decode cX12_water 2 = .ok (.iload_n 1, 1) := by decide +kernel
theorem dX12_water_3 : decode cX12_water 3 = .ok (.iconst 5, 1) := by decide +kernel
theorem dX12_water_4 : decode cX12_water 4 = .ok (.invokevirtual 369, 3) := by decide +kernel
theorem dX12_water_7 : decode cX12_water 7 = .ok (.invokevirtual 351, 3) := by decide +kernel
theorem dX12_water_10 : decode cX12_water 10 = .ok (.ifCond .eq 5, 3) := by decide +kernel
theorem dX12_water_13 : decode cX12_water 13 = .ok (.iconst (-1), 1) := by decide +kernel
theorem dX12_water_14 : decode cX12_water 14 = .ok (.ireturn, 1) := by decide +kernel
theorem dX12_water_15 : decode cX12_water 15 = .ok (.aload_n 0, 1) := by decide +kernel
theorem dX12_water_16 : decode cX12_water 16 = .ok (.invokevirtual 354, 3) := by decide +kernel
theorem dX12_water_19 : decode cX12_water 19 = .ok (.aload_n 0, 1) := by decide +kernel
theorem dX12_water_20 : decode cX12_water 20 = .ok (.getfield 64, 3) := by decide +kernel
theorem dX12_water_23 : decode cX12_water 23 = .ok (.iconst 0, 1) := by decide +kernel
theorem dX12_water_24 : decode cX12_water 24 = .ok (.iload_n 1, 1) := by decide +kernel
theorem dX12_water_25 : decode cX12_water 25 = .ok (.iadd, 1) := by decide +kernel
theorem dX12_water_26 : decode cX12_water 26 = .ok (.iaload, 1) := by decide +kernel
theorem dX12_water_27 : decode cX12_water 27 = .ok (.istore_n 2, 1) := by decide +kernel
theorem dX12_water_28 : decode cX12_water 28 = .ok (.aload_n 0, 1) := by decide +kernel
theorem dX12_water_29 : decode cX12_water 29 = .ok (.getfield 64, 3) := by decide +kernel
theorem dX12_water_32 : decode cX12_water 32 = .ok (.bipush 36, 2) := by decide +kernel
theorem dX12_water_34 : decode cX12_water 34 = .ok (.dup2, 1) := by decide +kernel
theorem dX12_water_35 : decode cX12_water 35 = .ok (.iaload, 1) := by decide +kernel
theorem dX12_water_36 : decode cX12_water 36 = .ok (.iconst 5, 1) := by decide +kernel
theorem dX12_water_37 : decode cX12_water 37 = .ok (.isub, 1) := by decide +kernel
theorem dX12_water_38 : decode cX12_water 38 = .ok (.iastore, 1) := by decide +kernel
theorem dX12_water_39 : decode cX12_water 39 = .ok (.aload_n 0, 1) := by decide +kernel
theorem dX12_water_40 : decode cX12_water 40 = .ok (.getfield 64, 3) := by decide +kernel
theorem dX12_water_43 : decode cX12_water 43 = .ok (.iconst 0, 1) := by decide +kernel
theorem dX12_water_44 : decode cX12_water 44 = .ok (.iload_n 1, 1) := by decide +kernel
theorem dX12_water_45 : decode cX12_water 45 = .ok (.iadd, 1) := by decide +kernel
theorem dX12_water_46 : decode cX12_water 46 = .ok (.iconst 0, 1) := by decide +kernel
theorem dX12_water_47 : decode cX12_water 47 = .ok (.iastore, 1) := by decide +kernel
theorem dX12_water_48 : decode cX12_water 48 = .ok (.iload_n 2, 1) := by decide +kernel
theorem dX12_water_49 : decode cX12_water 49 = .ok (.ireturn, 1) := by decide +kernel
theorem dX12_fill_0 : decode cX12_fill 0 = .ok (.aload_n 0, 1) := by decide +kernel
theorem dX12_fill_1 : decode cX12_fill 1 = .ok (.aload_n 0, 1) := by decide +kernel
theorem dX12_fill_2 : decode cX12_fill 2 = .ok (.iload_n 1, 1) := by decide +kernel
theorem dX12_fill_3 : decode cX12_fill 3 = .ok (.invokevirtual 336, 3) := by decide +kernel
theorem dX12_fill_6 : decode cX12_fill 6 = .ok (.ifCond .ne 7, 3) := by decide +kernel
theorem dX12_fill_9 : decode cX12_fill 9 = .ok (.iconst 0, 1) := by decide +kernel
theorem dX12_fill_10 : decode cX12_fill 10 = .ok (.goto 37, 3) := by decide +kernel
theorem dX12_fill_13 : decode cX12_fill 13 = .ok (.aload_n 0, 1) := by decide +kernel
theorem dX12_fill_14 : decode cX12_fill 14 = .ok (.getfield 64, 3) := by decide +kernel
theorem dX12_fill_17 : decode cX12_fill 17 = .ok (.bipush 32, 2) := by decide +kernel
theorem dX12_fill_19 : decode cX12_fill 19 = .ok (.iload_n 1, 1) := by decide +kernel
theorem dX12_fill_20 : decode cX12_fill 20 = .ok (.iadd, 1) := by decide +kernel
theorem dX12_fill_21 : decode cX12_fill 21 = .ok (.iaload, 1) := by decide +kernel
theorem dX12_fill_22 : decode cX12_fill 22 = .ok (.bipush 30, 2) := by decide +kernel
theorem dX12_fill_24 : decode cX12_fill 24 = .ok (.if_icmp .ne 7, 3) := by decide +kernel
theorem dX12_fill_27 : decode cX12_fill 27 = .ok (.iconst 2, 1) := by decide +kernel
theorem dX12_fill_28 : decode cX12_fill 28 = .ok (.goto 19, 3) := by decide +kernel
theorem dX12_fill_31 : decode cX12_fill 31 = .ok (.aload_n 0, 1) := by decide +kernel
theorem dX12_fill_32 : decode cX12_fill 32 = .ok (.getfield 64, 3) := by decide +kernel
theorem dX12_fill_35 : decode cX12_fill 35 = .ok (.bipush 36, 2) := by decide +kernel
theorem dX12_fill_37 : decode cX12_fill 37 = .ok (.iaload, 1) := by decide +kernel
theorem dX12_fill_38 : decode cX12_fill 38 = .ok (.iconst 1, 1) := by decide +kernel
theorem dX12_fill_39 : decode cX12_fill 39 = .ok (.if_icmp .ge 7, 3) := by decide +kernel
theorem dX12_fill_42 : decode cX12_fill 42 = .ok (.iconst 4, 1) := by decide +kernel
theorem dX12_fill_43 : decode cX12_fill 43 = .ok (.goto 4, 3) := by decide +kernel
theorem dX12_fill_46 : decode cX12_fill 46 = .ok (.iconst (-1), 1) := by decide +kernel
theorem dX12_fill_47 : decode cX12_fill 47 = .ok (.invokevirtual 351, 3) := by decide +kernel
theorem dX12_fill_50 : decode cX12_fill 50 = .ok (.ifCond .eq 5, 3) := by decide +kernel
theorem dX12_fill_53 : decode cX12_fill 53 = .ok (.iconst (-1), 1) := by decide +kernel
theorem dX12_fill_54 : decode cX12_fill 54 = .ok (.ireturn, 1) := by decide +kernel
theorem dX12_fill_55 : decode cX12_fill 55 = .ok (.aload_n 0, 1) := by decide +kernel
theorem dX12_fill_56 : decode cX12_fill 56 = .ok (.invokevirtual 354, 3) := by decide +kernel
theorem dX12_fill_59 : decode cX12_fill 59 = .ok (.aload_n 0, 1) := by decide +kernel
theorem dX12_fill_60 : decode cX12_fill 60 = .ok (.getfield 64, 3) := by decide +kernel
theorem dX12_fill_63 : decode cX12_fill 63 = .ok (.bipush 32, 2) := by decide +kernel
theorem dX12_fill_65 : decode cX12_fill 65 = .ok (.iload_n 1, 1) := by decide +kernel
theorem dX12_fill_66 : decode cX12_fill 66 = .ok (.iadd, 1) := by decide +kernel
theorem dX12_fill_67 : decode cX12_fill 67 = .ok (.dup2, 1) := by decide +kernel
theorem dX12_fill_68 : decode cX12_fill 68 = .ok (.iaload, 1) := by decide +kernel
theorem dX12_fill_69 : decode cX12_fill 69 = .ok (.iconst 1, 1) := by decide +kernel
theorem dX12_fill_70 : decode cX12_fill 70 = .ok (.iadd, 1) := by decide +kernel
theorem dX12_fill_71 : decode cX12_fill 71 = .ok (.iastore, 1) := by decide +kernel
theorem dX12_fill_72 : decode cX12_fill 72 = .ok (.aload_n 0, 1) := by decide +kernel
theorem dX12_fill_73 : decode cX12_fill 73 = .ok (.getfield 64, 3) := by decide +kernel
theorem dX12_fill_76 : decode cX12_fill 76 = .ok (.bipush 36, 2) := by decide +kernel
theorem dX12_fill_78 : decode cX12_fill 78 = .ok (.dup2, 1) := by decide +kernel
theorem dX12_fill_79 : decode cX12_fill 79 = .ok (.iaload, 1) := by decide +kernel
theorem dX12_fill_80 : decode cX12_fill 80 = .ok (.iconst 1, 1) := by decide +kernel
theorem dX12_fill_81 : decode cX12_fill 81 = .ok (.isub, 1) := by decide +kernel
theorem dX12_fill_82 : decode cX12_fill 82 = .ok (.iastore, 1) := by decide +kernel
theorem dX12_fill_83 : decode cX12_fill 83 = .ok (.aload_n 0, 1) := by decide +kernel
theorem dX12_fill_84 : decode cX12_fill 84 = .ok (.getfield 64, 3) := by decide +kernel
theorem dX12_fill_87 : decode cX12_fill 87 = .ok (.bipush 32, 2) := by decide +kernel
theorem dX12_fill_89 : decode cX12_fill 89 = .ok (.iload_n 1, 1) := by decide +kernel
theorem dX12_fill_90 : decode cX12_fill 90 = .ok (.iadd, 1) := by decide +kernel
theorem dX12_fill_91 : decode cX12_fill 91 = .ok (.iaload, 1) := by decide +kernel
theorem dX12_fill_92 : decode cX12_fill 92 = .ok (.ireturn, 1) := by decide +kernel
theorem dX12_give_0 : decode cX12_give 0 = .ok (.aload_n 0, 1) := by decide +kernel
theorem dX12_give_1 : decode cX12_give 1 = .ok (.aload_n 0, 1) := by decide +kernel
theorem dX12_give_2 : decode cX12_give 2 = .ok (.getfield 260, 3) := by decide +kernel
theorem dX12_give_5 : decode cX12_give 5 = .ok (.ifCond .ne 7, 3) := by decide +kernel
theorem dX12_give_8 : decode cX12_give 8 = .ok (.iconst 0, 1) := by decide +kernel
theorem dX12_give_9 : decode cX12_give 9 = .ok (.goto 33, 3) := by decide +kernel
theorem dX12_give_12 : decode cX12_give 12 = .ok (.iload_n 1, 1) := by decide +kernel
theorem dX12_give_13 : decode cX12_give 13 = .ok (.iconst 1, 1) := by decide +kernel
theorem dX12_give_14 : decode cX12_give 14 = .ok (.bipush 50, 2) := by decide +kernel
theorem dX12_give_16 : decode cX12_give 16 = .ok (.invokestatic 207, 3) := by decide +kernel
theorem dX12_give_19 : decode cX12_give 19 = .ok (.ifCond .eq 18, 3) := by decide +kernel
theorem dX12_give_22 : decode cX12_give 22 = .ok (.aload_n 0, 1) := by decide +kernel
theorem dX12_give_23 : decode cX12_give 23 = .ok (.getfield 64, 3) := by decide +kernel
theorem dX12_give_26 : decode cX12_give 26 = .ok (.bipush 36, 2) := by decide +kernel
theorem dX12_give_28 : decode cX12_give 28 = .ok (.iaload, 1) := by decide +kernel
theorem dX12_give_29 : decode cX12_give 29 = .ok (.iload_n 1, 1) := by decide +kernel
theorem dX12_give_30 : decode cX12_give 30 = .ok (.iadd, 1) := by decide +kernel
theorem dX12_give_31 : decode cX12_give 31 = .ok (.sipush 999, 3) := by decide +kernel
theorem dX12_give_34 : decode cX12_give 34 = .ok (.if_icmp .le 7, 3) := by decide +kernel
theorem dX12_give_37 : decode cX12_give 37 = .ok (.iconst 1, 1) := by decide +kernel
theorem dX12_give_38 : decode cX12_give 38 = .ok (.goto 4, 3) := by decide +kernel
theorem dX12_give_41 : decode cX12_give 41 = .ok (.iconst (-1), 1) := by decide +kernel
theorem dX12_give_42 : decode cX12_give 42 = .ok (.invokevirtual 351, 3) := by decide +kernel
theorem dX12_give_45 : decode cX12_give 45 = .ok (.ifCond .eq 5, 3) := by decide +kernel
theorem dX12_give_48 : decode cX12_give 48 = .ok (.iconst (-1), 1) := by decide +kernel
theorem dX12_give_49 : decode cX12_give 49 = .ok (.ireturn, 1) := by decide +kernel
theorem dX12_give_50 : decode cX12_give 50 = .ok (.aload_n 0, 1) := by decide +kernel
theorem dX12_give_51 : decode cX12_give 51 = .ok (.invokevirtual 354, 3) := by decide +kernel
theorem dX12_give_54 : decode cX12_give 54 = .ok (.aload_n 0, 1) := by decide +kernel
theorem dX12_give_55 : decode cX12_give 55 = .ok (.getfield 64, 3) := by decide +kernel
theorem dX12_give_58 : decode cX12_give 58 = .ok (.bipush 36, 2) := by decide +kernel
theorem dX12_give_60 : decode cX12_give 60 = .ok (.dup2, 1) := by decide +kernel
theorem dX12_give_61 : decode cX12_give 61 = .ok (.iaload, 1) := by decide +kernel
theorem dX12_give_62 : decode cX12_give 62 = .ok (.iload_n 1, 1) := by decide +kernel
theorem dX12_give_63 : decode cX12_give 63 = .ok (.iadd, 1) := by decide +kernel
theorem dX12_give_64 : decode cX12_give 64 = .ok (.iastore, 1) := by decide +kernel
theorem dX12_give_65 : decode cX12_give 65 = .ok (.aload_n 0, 1) := by decide +kernel
theorem dX12_give_66 : decode cX12_give 66 = .ok (.getfield 64, 3) := by decide +kernel
theorem dX12_give_69 : decode cX12_give 69 = .ok (.bipush 36, 2) := by decide +kernel
theorem dX12_give_71 : decode cX12_give 71 = .ok (.iaload, 1) := by decide +kernel
theorem dX12_give_72 : decode cX12_give 72 = .ok (.ireturn, 1) := by decide +kernel
theorem dX12_passYear_0 : decode cX12_passYear 0 = .ok (.aload_n 0, 1) := by decide +kernel
theorem dX12_passYear_1 : decode cX12_passYear 1 = .ok (.invokevirtual 372, 3) := by decide +kernel
theorem dX12_passYear_4 : decode cX12_passYear 4 = .ok (.istore_n 1, 1) := by decide +kernel
theorem dX12_passYear_5 : decode cX12_passYear 5 = .ok (.aload_n 0, 1) := by decide +kernel
theorem dX12_passYear_6 : decode cX12_passYear 6 = .ok (.invokevirtual 309, 3) := by decide +kernel
theorem dX12_passYear_9 : decode cX12_passYear 9 = .ok (.istore_n 2, 1) := by decide +kernel
theorem dX12_passYear_10 : decode cX12_passYear 10 = .ok (.aload_n 0, 1) := by decide +kernel
theorem dX12_passYear_11 : decode cX12_passYear 11 = .ok (.getfield 64, 3) := by decide +kernel
theorem dX12_passYear_14 : decode cX12_passYear 14 = .ok (.bipush 37, 2) := by decide +kernel
theorem dX12_passYear_16 : decode cX12_passYear 16 = .ok (.sipush 9999, 3) := by decide +kernel
theorem dX12_passYear_19 : decode cX12_passYear 19 = .ok (.aload_n 0, 1) := by decide +kernel
theorem dX12_passYear_20 : decode cX12_passYear 20 = .ok (.getfield 64, 3) := by decide +kernel
theorem dX12_passYear_23 : decode cX12_passYear 23 = .ok (.bipush 37, 2) := by decide +kernel
theorem dX12_passYear_25 : decode cX12_passYear 25 = .ok (.iaload, 1) := by decide +kernel
theorem dX12_passYear_26 : decode cX12_passYear 26 = .ok (.iload_n 1, 1) := by decide +kernel
theorem dX12_passYear_27 : decode cX12_passYear 27 = .ok (.iadd, 1) := by decide +kernel
theorem dX12_passYear_28 : decode cX12_passYear 28 = .ok (.invokestatic 326, 3) := by decide +kernel
theorem dX12_passYear_31 : decode cX12_passYear 31 = .ok (.iastore, 1) := by decide +kernel
theorem dX12_passYear_32 : decode cX12_passYear 32 = .ok (.aload_n 0, 1) := by decide +kernel
theorem dX12_passYear_33 : decode cX12_passYear 33 = .ok (.getfield 64, 3) := by decide +kernel
theorem dX12_passYear_36 : decode cX12_passYear 36 = .ok (.bipush 36, 2) := by decide +kernel
theorem dX12_passYear_38 : decode cX12_passYear 38 = .ok (.sipush 999, 3) := by decide +kernel
theorem dX12_passYear_41 : decode cX12_passYear 41 = .ok (.aload_n 0, 1) := by decide +kernel
theorem dX12_passYear_42 : decode cX12_passYear 42 = .ok (.getfield 64, 3) := by decide +kernel
theorem dX12_passYear_45 : decode cX12_passYear 45 = .ok (.bipush 36, 2) := by decide +kernel
theorem dX12_passYear_47 : decode cX12_passYear 47 = .ok (.iaload, 1) := by decide +kernel
theorem dX12_passYear_48 : decode cX12_passYear 48 = .ok (.aload_n 0, 1) := by decide +kernel
theorem dX12_passYear_49 : decode cX12_passYear 49 = .ok (.getfield 260, 3) := by decide +kernel
theorem dX12_passYear_52 : decode cX12_passYear 52 = .ok (.iadd, 1) := by decide +kernel
theorem dX12_passYear_53 : decode cX12_passYear 53 = .ok (.iload_n 2, 1) := by decide +kernel
theorem dX12_passYear_54 : decode cX12_passYear 54 = .ok (.invokestatic 312, 3) := by decide +kernel
theorem dX12_passYear_57 : decode cX12_passYear 57 = .ok (.isub, 1) := by decide +kernel
theorem dX12_passYear_58 : decode cX12_passYear 58 = .ok (.invokestatic 326, 3) := by decide +kernel
theorem dX12_passYear_61 : decode cX12_passYear 61 = .ok (.iastore, 1) := by decide +kernel
theorem dX12_passYear_62 : decode cX12_passYear 62 = .ok (.aload_n 0, 1) := by decide +kernel
theorem dX12_passYear_63 : decode cX12_passYear 63 = .ok (.getfield 64, 3) := by decide +kernel
theorem dX12_passYear_66 : decode cX12_passYear 66 = .ok (.bipush 39, 2) := by decide +kernel
theorem dX12_passYear_68 : decode cX12_passYear 68 = .ok (.iaload, 1) := by decide +kernel
theorem dX12_passYear_69 : decode cX12_passYear 69 = .ok (.bipush 60, 2) := by decide +kernel
theorem dX12_passYear_71 : decode cX12_passYear 71 = .ok (.if_icmp .ne 48, 3) := by decide +kernel
theorem dX12_passYear_74 : decode cX12_passYear 74 = .ok (.iconst 2, 1) := by decide +kernel
theorem dX12_passYear_75 : decode cX12_passYear 75 = .ok (.istore_n 3, 1) := by decide +kernel
theorem dX12_passYear_76 : decode cX12_passYear 76 = .ok (.iload_n 3, 1) := by decide +kernel
theorem dX12_passYear_77 : decode cX12_passYear 77 = .ok (.bipush 120, 2) := by decide +kernel
theorem dX12_passYear_79 : decode cX12_passYear 79 = .ok (.if_icmp .ge 29, 3) := by decide +kernel
theorem dX12_passYear_82 : decode cX12_passYear 82 = .ok (.aload_n 0, 1) := by decide +kernel
theorem dX12_passYear_83 : decode cX12_passYear 83 = .ok (.getfield 64, 3) := by decide +kernel
theorem dX12_passYear_86 : decode cX12_passYear 86 = .ok (.bipush 40, 2) := by decide +kernel
theorem dX12_passYear_88 : decode cX12_passYear 88 = .ok (.iload_n 3, 1) := by decide +kernel
theorem dX12_passYear_89 : decode cX12_passYear 89 = .ok (.iadd, 1) := by decide +kernel
theorem dX12_passYear_90 : decode cX12_passYear 90 = .ok (.iconst 2, 1) := by decide +kernel
theorem dX12_passYear_91 : decode cX12_passYear 91 = .ok (.isub, 1) := by decide +kernel
theorem dX12_passYear_92 : decode cX12_passYear 92 = .ok (.aload_n 0, 1) := by decide +kernel
theorem dX12_passYear_93 : decode cX12_passYear 93 = .ok (.getfield 64, 3) := by decide +kernel
theorem dX12_passYear_96 : decode cX12_passYear 96 = .ok (.bipush 40, 2) := by decide +kernel
theorem dX12_passYear_98 : decode cX12_passYear 98 = .ok (.iload_n 3, 1) := by decide +kernel
theorem dX12_passYear_99 : decode cX12_passYear 99 = .ok (.iadd, 1) := by decide +kernel
theorem dX12_passYear_100 : decode cX12_passYear 100 = .ok (.iaload, 1) := by decide +kernel
theorem dX12_passYear_101 : decode cX12_passYear 101 = .ok (.iastore, 1) := by decide +kernel
theorem dX12_passYear_102 : decode cX12_passYear 102 = .ok (.iinc 3 1, 3) := by decide +kernel
theorem dX12_passYear_105 : decode cX12_passYear 105 = .ok (.goto (-29), 3) := by decide +kernel
theorem dX12_passYear_108 : decode cX12_passYear 108 = .ok (.aload_n 0, 1) := by decide +kernel
theorem dX12_passYear_109 : decode cX12_passYear 109 = .ok (.getfield 64, 3) := by decide +kernel
theorem dX12_passYear_112 : decode cX12_passYear 112 = .ok (.bipush 39, 2) := by decide +kernel
theorem dX12_passYear_114 : decode cX12_passYear 114 = .ok (.dup2, 1) := by decide +kernel
theorem dX12_passYear_115 : decode cX12_passYear 115 = .ok (.iaload, 1) := by decide +kernel
theorem dX12_passYear_116 : decode cX12_passYear 116 = .ok (.iconst 1, 1) := by decide +kernel
theorem dX12_passYear_117 : decode cX12_passYear 117 = .ok (.isub, 1) := by decide +kernel
theorem dX12_passYear_118 : decode cX12_passYear 118 = .ok (.iastore, 1) := by decide +kernel
theorem dX12_passYear_119 : decode cX12_passYear 119 = .ok (.aload_n 0, 1) := by decide +kernel
theorem dX12_passYear_120 : decode cX12_passYear 120 = .ok (.getfield 64, 3) := by decide +kernel
theorem dX12_passYear_123 : decode cX12_passYear 123 = .ok (.bipush 40, 2) := by decide +kernel
theorem dX12_passYear_125 : decode cX12_passYear 125 = .ok (.iconst 2, 1) := by decide +kernel
theorem dX12_passYear_126 : decode cX12_passYear 126 = .ok (.aload_n 0, 1) := by decide +kernel
theorem dX12_passYear_127 : decode cX12_passYear 127 = .ok (.getfield 64, 3) := by decide +kernel
theorem dX12_passYear_130 : decode cX12_passYear 130 = .ok (.bipush 39, 2) := by decide +kernel
theorem dX12_passYear_132 : decode cX12_passYear 132 = .ok (.iaload, 1) := by decide +kernel
theorem dX12_passYear_133 : decode cX12_passYear 133 = .ok (.imul, 1) := by decide +kernel
theorem dX12_passYear_134 : decode cX12_passYear 134 = .ok (.iadd, 1) := by decide +kernel
theorem dX12_passYear_135 : decode cX12_passYear 135 = .ok (.iload_n 2, 1) := by decide +kernel
theorem dX12_passYear_136 : decode cX12_passYear 136 = .ok (.iastore, 1) := by decide +kernel
theorem dX12_passYear_137 : decode cX12_passYear 137 = .ok (.aload_n 0, 1) := by decide +kernel
theorem dX12_passYear_138 : decode cX12_passYear 138 = .ok (.getfield 64, 3) := by decide +kernel
theorem dX12_passYear_141 : decode cX12_passYear 141 = .ok (.bipush 40, 2) := by decide +kernel
theorem dX12_passYear_143 : decode cX12_passYear 143 = .ok (.iconst 2, 1) := by decide +kernel
theorem dX12_passYear_144 : decode cX12_passYear 144 = .ok (.aload_n 0, 1) := by decide +kernel
theorem dX12_passYear_145 : decode cX12_passYear 145 = .ok (.getfield 64, 3) := by decide +kernel
theorem dX12_passYear_148 : decode cX12_passYear 148 = .ok (.bipush 39, 2) := by decide +kernel
theorem dX12_passYear_150 : decode cX12_passYear 150 = .ok (.iaload, 1) := by decide +kernel
theorem dX12_passYear_151 : decode cX12_passYear 151 = .ok (.imul, 1) := by decide +kernel
theorem dX12_passYear_152 : decode cX12_passYear 152 = .ok (.iadd, 1) := by decide +kernel
theorem dX12_passYear_153 : decode cX12_passYear 153 = .ok (.iconst 1, 1) := by decide +kernel
theorem dX12_passYear_154 : decode cX12_passYear 154 = .ok (.iadd, 1) := by decide +kernel
theorem dX12_passYear_155 : decode cX12_passYear 155 = .ok (.iload_n 1, 1) := by decide +kernel
theorem dX12_passYear_156 : decode cX12_passYear 156 = .ok (.iastore, 1) := by decide +kernel
theorem dX12_passYear_157 : decode cX12_passYear 157 = .ok (.aload_n 0, 1) := by decide +kernel
theorem dX12_passYear_158 : decode cX12_passYear 158 = .ok (.getfield 64, 3) := by decide +kernel
theorem dX12_passYear_161 : decode cX12_passYear 161 = .ok (.bipush 39, 2) := by decide +kernel
theorem dX12_passYear_163 : decode cX12_passYear 163 = .ok (.dup2, 1) := by decide +kernel
theorem dX12_passYear_164 : decode cX12_passYear 164 = .ok (.iaload, 1) := by decide +kernel
theorem dX12_passYear_165 : decode cX12_passYear 165 = .ok (.iconst 1, 1) := by decide +kernel
theorem dX12_passYear_166 : decode cX12_passYear 166 = .ok (.iadd, 1) := by decide +kernel
theorem dX12_passYear_167 : decode cX12_passYear 167 = .ok (.iastore, 1) := by decide +kernel
theorem dX12_passYear_168 : decode cX12_passYear 168 = .ok (.aload_n 0, 1) := by decide +kernel
theorem dX12_passYear_169 : decode cX12_passYear 169 = .ok (.getfield 64, 3) := by decide +kernel
theorem dX12_passYear_172 : decode cX12_passYear 172 = .ok (.bipush 38, 2) := by decide +kernel
theorem dX12_passYear_174 : decode cX12_passYear 174 = .ok (.dup2, 1) := by decide +kernel
theorem dX12_passYear_175 : decode cX12_passYear 175 = .ok (.iaload, 1) := by decide +kernel
theorem dX12_passYear_176 : decode cX12_passYear 176 = .ok (.iconst 1, 1) := by decide +kernel
theorem dX12_passYear_177 : decode cX12_passYear 177 = .ok (.iadd, 1) := by decide +kernel
theorem dX12_passYear_178 : decode cX12_passYear 178 = .ok (.iastore, 1) := by decide +kernel
theorem dX12_passYear_179 : decode cX12_passYear 179 = .ok (.return_, 1) := by decide +kernel
theorem dX12_areYears_0 : decode cX12_areYears 0 = .ok (.iload_n 1, 1) := by decide +kernel
theorem dX12_areYears_1 : decode cX12_areYears 1 = .ok (.iconst 1, 1) := by decide +kernel
theorem dX12_areYears_2 : decode cX12_areYears 2 = .ok (.bipush 60, 2) := by decide +kernel
theorem dX12_areYears_4 : decode cX12_areYears 4 = .ok (.invokestatic 207, 3) := by decide +kernel
theorem dX12_areYears_7 : decode cX12_areYears 7 = .ok (.ifCond .eq 22, 3) := by decide +kernel
theorem dX12_areYears_10 : decode cX12_areYears 10 = .ok (.aload_n 0, 1) := by decide +kernel
theorem dX12_areYears_11 : decode cX12_areYears 11 = .ok (.getfield 64, 3) := by decide +kernel
theorem dX12_areYears_14 : decode cX12_areYears 14 = .ok (.bipush 38, 2) := by decide +kernel
theorem dX12_areYears_16 : decode cX12_areYears 16 = .ok (.iaload, 1) := by decide +kernel
theorem dX12_areYears_17 : decode cX12_areYears 17 = .ok (.iload_n 1, 1) := by decide +kernel
theorem dX12_areYears_18 : decode cX12_areYears 18 = .ok (.iadd, 1) := by decide +kernel
theorem dX12_areYears_19 : decode cX12_areYears 19 = .ok (.sipush 999, 3) := by decide +kernel
theorem dX12_areYears_22 : decode cX12_areYears 22 = .ok (.if_icmp .gt 7, 3) := by decide +kernel
theorem dX12_areYears_25 : decode cX12_areYears 25 = .ok (.iconst 1, 1) := by decide +kernel
theorem dX12_areYears_26 : decode cX12_areYears 26 = .ok (.goto 4, 3) := by decide +kernel
theorem dX12_areYears_29 : decode cX12_areYears 29 = .ok (.iconst 0, 1) := by decide +kernel
theorem dX12_areYears_30 : decode cX12_areYears 30 = .ok (.ireturn, 1) := by decide +kernel
theorem dX12_years_0 : decode cX12_years 0 = .ok (.aload_n 0, 1) := by decide +kernel
theorem dX12_years_1 : decode cX12_years 1 = .ok (.aload_n 0, 1) := by decide +kernel
theorem dX12_years_2 : decode cX12_years 2 = .ok (.getfield 260, 3) := by decide +kernel
theorem dX12_years_5 : decode cX12_years 5 = .ok (.ifCond .ne 7, 3) := by decide +kernel
theorem dX12_years_8 : decode cX12_years 8 = .ok (.iconst 0, 1) := by decide +kernel
theorem dX12_years_9 : decode cX12_years 9 = .ok (.goto 30, 3) := by decide +kernel
theorem dX12_years_12 : decode cX12_years 12 = .ok (.iload_n 1, 1) := by decide +kernel
theorem dX12_years_13 : decode cX12_years 13 = .ok (.iconst 1, 1) := by decide +kernel
theorem dX12_years_14 : decode cX12_years 14 = .ok (.bipush 60, 2) := by decide +kernel
theorem dX12_years_16 : decode cX12_years 16 = .ok (.invokestatic 207, 3) := by decide +kernel
theorem dX12_years_19 : decode cX12_years 19 = .ok (.ifCond .ne 7, 3) := by decide +kernel
theorem dX12_years_22 : decode cX12_years 22 = .ok (.iconst 1, 1) := by decide +kernel
theorem dX12_years_23 : decode cX12_years 23 = .ok (.goto 16, 3) := by decide +kernel
theorem dX12_years_26 : decode cX12_years 26 = .ok (.aload_n 0, 1) := by decide +kernel
theorem dX12_years_27 : decode cX12_years 27 = .ok (.iload_n 1, 1) := by decide +kernel
theorem dX12_years_28 : decode cX12_years 28 = .ok (.invokevirtual 375, 3) := by decide +kernel
theorem dX12_years_31 : decode cX12_years 31 = .ok (.ifCond .ne 7, 3) := by decide +kernel
theorem dX12_years_34 : decode cX12_years 34 = .ok (.iconst 4, 1) := by decide +kernel
theorem dX12_years_35 : decode cX12_years 35 = .ok (.goto 4, 3) := by decide +kernel
theorem dX12_years_38 : decode cX12_years 38 = .ok (.iconst (-1), 1) := by decide +kernel
theorem dX12_years_39 : decode cX12_years 39 = .ok (.invokevirtual 351, 3) := by decide +kernel
theorem dX12_years_42 : decode cX12_years 42 = .ok (.ifCond .eq 5, 3) := by decide +kernel
theorem dX12_years_45 : decode cX12_years 45 = .ok (.iconst (-1), 1) := by decide +kernel
theorem dX12_years_46 : decode cX12_years 46 = .ok (.ireturn, 1) := by decide +kernel
theorem dX12_years_47 : decode cX12_years 47 = .ok (.iconst 0, 1) := by decide +kernel
theorem dX12_years_48 : decode cX12_years 48 = .ok (.istore_n 2, 1) := by decide +kernel
theorem dX12_years_49 : decode cX12_years 49 = .ok (.iload_n 2, 1) := by decide +kernel
theorem dX12_years_50 : decode cX12_years 50 = .ok (.iload_n 1, 1) := by decide +kernel
theorem dX12_years_51 : decode cX12_years 51 = .ok (.if_icmp .ge 17, 3) := by decide +kernel
theorem dX12_years_54 : decode cX12_years 54 = .ok (.aload_n 0, 1) := by decide +kernel
theorem dX12_years_55 : decode cX12_years 55 = .ok (.invokevirtual 354, 3) := by decide +kernel
theorem dX12_years_58 : decode cX12_years 58 = .ok (.aload_n 0, 1) := by decide +kernel
theorem dX12_years_59 : decode cX12_years 59 = .ok (.invokevirtual 378, 3) := by decide +kernel
theorem dX12_years_62 : decode cX12_years 62 = .ok (.iinc 2 1, 3) := by decide +kernel
theorem dX12_years_65 : decode cX12_years 65 = .ok (.goto (-16), 3) := by decide +kernel
theorem dX12_years_68 : decode cX12_years 68 = .ok (.aload_n 0, 1) := by decide +kernel
theorem dX12_years_69 : decode cX12_years 69 = .ok (.getfield 64, 3) := by decide +kernel
theorem dX12_years_72 : decode cX12_years 72 = .ok (.bipush 38, 2) := by decide +kernel
theorem dX12_years_74 : decode cX12_years 74 = .ok (.iaload, 1) := by decide +kernel
theorem dX12_years_75 : decode cX12_years 75 = .ok (.ireturn, 1) := by decide +kernel
theorem dX12_flies_0 : decode cX12_flies 0 = .ok (.iload_n 1, 1) := by decide +kernel
theorem dX12_flies_1 : decode cX12_flies 1 = .ok (.iconst 0, 1) := by decide +kernel
theorem dX12_flies_2 : decode cX12_flies 2 = .ok (.bipush 9, 2) := by decide +kernel
theorem dX12_flies_4 : decode cX12_flies 4 = .ok (.invokestatic 207, 3) := by decide +kernel
theorem dX12_flies_7 : decode cX12_flies 7 = .ok (.ifCond .eq 11, 3) := by decide +kernel
theorem dX12_flies_10 : decode cX12_flies 10 = .ok (.iload_n 1, 1) := by decide +kernel
theorem dX12_flies_11 : decode cX12_flies 11 = .ok (.aload_n 0, 1) := by decide +kernel
theorem dX12_flies_12 : decode cX12_flies 12 = .ok (.getfield 74, 3) := by decide +kernel
theorem dX12_flies_15 : decode cX12_flies 15 = .ok (.if_icmp .ne 5, 3) := by decide +kernel
theorem dX12_flies_18 : decode cX12_flies 18 = .ok (.iconst 0, 1) := by decide +kernel
theorem dX12_flies_19 : decode cX12_flies 19 = .ok (.ireturn, 1) := by decide +kernel
theorem dX12_flies_20 : decode cX12_flies 20 = .ok (.aload_n 0, 1) := by decide +kernel
theorem dX12_flies_21 : decode cX12_flies 21 = .ok (.iload_n 1, 1) := by decide +kernel
theorem dX12_flies_22 : decode cX12_flies 22 = .ok (.putfield 74, 3) := by decide +kernel
theorem dX12_flies_25 : decode cX12_flies 25 = .ok (.iconst 1, 1) := by decide +kernel
theorem dX12_flies_26 : decode cX12_flies 26 = .ok (.ireturn, 1) := by decide +kernel
theorem dX12_draw_0 : decode cX12_draw 0 = .ok (.aload_n 0, 1) := by decide +kernel
theorem dX12_draw_1 : decode cX12_draw 1 = .ok (.aload_n 0, 1) := by decide +kernel
theorem dX12_draw_2 : decode cX12_draw 2 = .ok (.getfield 381, 3) := by decide +kernel
theorem dX12_draw_5 : decode cX12_draw 5 = .ok (.ldc2_w 385, 3) := by decide +kernel
theorem dX12_draw_8 : decode cX12_draw 8 = .ok (.lmul, 1) := by decide +kernel
theorem dX12_draw_9 : decode cX12_draw 9 = .ok (.ldc2_w 387, 3) := by decide +kernel
theorem dX12_draw_12 : decode cX12_draw 12 = .ok (.ladd, 1) := by decide +kernel
theorem dX12_draw_13 : decode cX12_draw 13 = .ok (.putfield 381, 3) := by decide +kernel
theorem dX12_draw_16 : decode cX12_draw 16 = .ok (.aload_n 0, 1) := by decide +kernel
theorem dX12_draw_17 : decode cX12_draw 17 = .ok (.getfield 381, 3) := by decide +kernel
theorem dX12_draw_20 : decode cX12_draw 20 = .ok (.bipush 33, 2) := by decide +kernel
theorem dX12_draw_22 : decode cX12_draw 22 = .ok (.lushr, 1) := by decide +kernel
theorem dX12_draw_23 : decode cX12_draw 23 = .ok (.iload_n 1, 1) := by decide +kernel
theorem dX12_draw_24 : decode cX12_draw 24 = .ok (.i2l, 1) := by decide +kernel
theorem dX12_draw_25 : decode cX12_draw 25 = .ok (.lrem, 1) := by decide +kernel
theorem dX12_draw_26 : decode cX12_draw 26 = .ok (.l2i, 1) := by decide +kernel
theorem dX12_draw_27 : decode cX12_draw 27 = .ok (.ireturn, 1) := by decide +kernel
theorem dX12_drawYear_0 : decode cX12_drawYear 0 = .ok (.aload_n 0, 1) := by decide +kernel
theorem dX12_drawYear_1 : decode cX12_drawYear 1 = .ok (.aload_n 0, 1) := by decide +kernel
theorem dX12_drawYear_2 : decode cX12_drawYear 2 = .ok (.getfield 260, 3) := by decide +kernel
theorem dX12_drawYear_5 : decode cX12_drawYear 5 = .ok (.invokevirtual 389, 3) := by decide +kernel
theorem dX12_drawYear_8 : decode cX12_drawYear 8 = .ok (.istore_n 1, 1) := by decide +kernel
theorem dX12_drawYear_9 : decode cX12_drawYear 9 = .ok (.aload_n 0, 1) := by decide +kernel
theorem dX12_drawYear_10 : decode cX12_drawYear 10 = .ok (.aload_n 0, 1) := by decide +kernel
theorem dX12_drawYear_11 : decode cX12_drawYear 11 = .ok (.getfield 257, 3) := by decide +kernel
theorem dX12_drawYear_14 : decode cX12_drawYear 14 = .ok (.invokevirtual 389, 3) := by decide +kernel
theorem dX12_drawYear_17 : decode cX12_drawYear 17 = .ok (.istore_n 2, 1) := by decide +kernel
theorem dX12_drawYear_18 : decode cX12_drawYear 18 = .ok (.aload_n 0, 1) := by decide +kernel
theorem dX12_drawYear_19 : decode cX12_drawYear 19 = .ok (.iload_n 1, 1) := by decide +kernel
theorem dX12_drawYear_20 : decode cX12_drawYear 20 = .ok (.invokevirtual 303, 3) := by decide +kernel
theorem dX12_drawYear_23 : decode cX12_drawYear 23 = .ok (.ifCond .eq 18, 3) := by decide +kernel
theorem dX12_drawYear_26 : decode cX12_drawYear 26 = .ok (.aload_n 0, 1) := by decide +kernel
theorem dX12_drawYear_27 : decode cX12_drawYear 27 = .ok (.iload_n 1, 1) := by decide +kernel
theorem dX12_drawYear_28 : decode cX12_drawYear 28 = .ok (.iload_n 2, 1) := by decide +kernel
theorem dX12_drawYear_29 : decode cX12_drawYear 29 = .ok (.invokevirtual 348, 3) := by decide +kernel
theorem dX12_drawYear_32 : decode cX12_drawYear 32 = .ok (.ifCond .eq 9, 3) := by decide +kernel
theorem dX12_drawYear_35 : decode cX12_drawYear 35 = .ok (.aload_n 0, 1) := by decide +kernel
theorem dX12_drawYear_36 : decode cX12_drawYear 36 = .ok (.iload_n 1, 1) := by decide +kernel
theorem dX12_drawYear_37 : decode cX12_drawYear 37 = .ok (.iload_n 2, 1) := by decide +kernel
theorem dX12_drawYear_38 : decode cX12_drawYear 38 = .ok (.invokevirtual 357, 3) := by decide +kernel
theorem dX12_drawYear_41 : decode cX12_drawYear 41 = .ok (.aload_n 0, 1) := by decide +kernel
theorem dX12_drawYear_42 : decode cX12_drawYear 42 = .ok (.bipush 10, 2) := by decide +kernel
theorem dX12_drawYear_44 : decode cX12_drawYear 44 = .ok (.invokevirtual 389, 3) := by decide +kernel
theorem dX12_drawYear_47 : decode cX12_drawYear 47 = .ok (.aload_n 0, 1) := by decide +kernel
theorem dX12_drawYear_48 : decode cX12_drawYear 48 = .ok (.getfield 74, 3) := by decide +kernel
theorem dX12_drawYear_51 : decode cX12_drawYear 51 = .ok (.if_icmp .ge 26, 3) := by decide +kernel
theorem dX12_drawYear_54 : decode cX12_drawYear 54 = .ok (.aload_n 0, 1) := by decide +kernel
theorem dX12_drawYear_55 : decode cX12_drawYear 55 = .ok (.aload_n 0, 1) := by decide +kernel
theorem dX12_drawYear_56 : decode cX12_drawYear 56 = .ok (.getfield 257, 3) := by decide +kernel
theorem dX12_drawYear_59 : decode cX12_drawYear 59 = .ok (.invokevirtual 389, 3) := by decide +kernel
theorem dX12_drawYear_62 : decode cX12_drawYear 62 = .ok (.istore_n 3, 1) := by decide +kernel
theorem dX12_drawYear_63 : decode cX12_drawYear 63 = .ok (.aload_n 0, 1) := by decide +kernel
theorem dX12_drawYear_64 : decode cX12_drawYear 64 = .ok (.iload_n 3, 1) := by decide +kernel
theorem dX12_drawYear_65 : decode cX12_drawYear 65 = .ok (.aload_n 0, 1) := by decide +kernel
theorem dX12_drawYear_66 : decode cX12_drawYear 66 = .ok (.bipush 9, 2) := by decide +kernel
theorem dX12_drawYear_68 : decode cX12_drawYear 68 = .ok (.invokevirtual 389, 3) := by decide +kernel
theorem dX12_drawYear_71 : decode cX12_drawYear 71 = .ok (.iconst 1, 1) := by decide +kernel
theorem dX12_drawYear_72 : decode cX12_drawYear 72 = .ok (.iadd, 1) := by decide +kernel
theorem dX12_drawYear_73 : decode cX12_drawYear 73 = .ok (.invokevirtual 366, 3) := by decide +kernel
theorem dX12_drawYear_76 : decode cX12_drawYear 76 = .ok (.pop, 1) := by decide +kernel
theorem dX12_drawYear_77 : decode cX12_drawYear 77 = .ok (.return_, 1) := by decide +kernel
theorem dX12_decades_0 : decode cX12_decades 0 = .ok (.aload_n 0, 1) := by decide +kernel
theorem dX12_decades_1 : decode cX12_decades 1 = .ok (.getfield 260, 3) := by decide +kernel
theorem dX12_decades_4 : decode cX12_decades 4 = .ok (.ifCond .eq 11, 3) := by decide +kernel
theorem dX12_decades_7 : decode cX12_decades 7 = .ok (.aload_n 0, 1) := by decide +kernel
theorem dX12_decades_8 : decode cX12_decades 8 = .ok (.iload_n 1, 1) := by decide +kernel
theorem dX12_decades_9 : decode cX12_decades 9 = .ok (.invokevirtual 375, 3) := by decide +kernel
theorem dX12_decades_12 : decode cX12_decades 12 = .ok (.ifCond .ne 5, 3) := by decide +kernel
theorem dX12_decades_15 : decode cX12_decades 15 = .ok (.iconst (-1), 1) := by decide +kernel
theorem dX12_decades_16 : decode cX12_decades 16 = .ok (.ireturn, 1) := by decide +kernel
theorem dX12_decades_17 : decode cX12_decades 17 = .ok (.aload_n 0, 1) := by decide +kernel
theorem dX12_decades_18 : decode cX12_decades 18 = .ok (.lload_n 2, 1) := by decide +kernel
theorem dX12_decades_19 : decode cX12_decades 19 = .ok (.putfield 381, 3) := by decide +kernel
theorem dX12_decades_22 : decode cX12_decades 22 = .ok (.iconst 0, 1) := by decide +kernel
theorem dX12_decades_23 : decode cX12_decades 23 = .ok (.istore 4, 2) := by decide +kernel
theorem dX12_decades_25 : decode cX12_decades 25 = .ok (.iload 4, 2) := by decide +kernel
theorem dX12_decades_27 : decode cX12_decades 27 = .ok (.iload_n 1, 1) := by decide +kernel
theorem dX12_decades_28 : decode cX12_decades 28 = .ok (.if_icmp .ge 21, 3) := by decide +kernel
theorem dX12_decades_31 : decode cX12_decades 31 = .ok (.aload_n 0, 1) := by decide +kernel
theorem dX12_decades_32 : decode cX12_decades 32 = .ok (.invokevirtual 354, 3) := by decide +kernel
theorem dX12_decades_35 : decode cX12_decades 35 = .ok (.aload_n 0, 1) := by decide +kernel
theorem dX12_decades_36 : decode cX12_decades 36 = .ok (.invokevirtual 392, 3) := by decide +kernel
theorem dX12_decades_39 : decode cX12_decades 39 = .ok (.aload_n 0, 1) := by decide +kernel
theorem dX12_decades_40 : decode cX12_decades 40 = .ok (.invokevirtual 378, 3) := by decide +kernel
theorem dX12_decades_43 : decode cX12_decades 43 = .ok (.iinc 4 1, 3) := by decide +kernel
theorem dX12_decades_46 : decode cX12_decades 46 = .ok (.goto (-21), 3) := by decide +kernel
theorem dX12_decades_49 : decode cX12_decades 49 = .ok (.aload_n 0, 1) := by decide +kernel
theorem dX12_decades_50 : decode cX12_decades 50 = .ok (.getfield 64, 3) := by decide +kernel
theorem dX12_decades_53 : decode cX12_decades 53 = .ok (.bipush 38, 2) := by decide +kernel
theorem dX12_decades_55 : decode cX12_decades 55 = .ok (.iaload, 1) := by decide +kernel
theorem dX12_decades_56 : decode cX12_decades 56 = .ok (.ireturn, 1) := by decide +kernel
theorem dX12_status_0 : decode cX12_status 0 = .ok (.iload_n 1, 1) := by decide +kernel
theorem dX12_status_1 : decode cX12_status 1 = .ok (.iconst 0, 1) := by decide +kernel
theorem dX12_status_2 : decode cX12_status 2 = .ok (.iconst 4, 1) := by decide +kernel
theorem dX12_status_3 : decode cX12_status 3 = .ok (.invokestatic 207, 3) := by decide +kernel
theorem dX12_status_6 : decode cX12_status 6 = .ok (.ifCond .eq 12, 3) := by decide +kernel
theorem dX12_status_9 : decode cX12_status 9 = .ok (.aload_n 0, 1) := by decide +kernel
theorem dX12_status_10 : decode cX12_status 10 = .ok (.getfield 67, 3) := by decide +kernel
theorem dX12_status_13 : decode cX12_status 13 = .ok (.iload_n 1, 1) := by decide +kernel
theorem dX12_status_14 : decode cX12_status 14 = .ok (.iaload, 1) := by decide +kernel
theorem dX12_status_15 : decode cX12_status 15 = .ok (.goto 4, 3) := by decide +kernel
theorem dX12_status_18 : decode cX12_status 18 = .ok (.iconst (-1), 1) := by decide +kernel
theorem dX12_status_19 : decode cX12_status 19 = .ok (.ireturn, 1) := by decide +kernel
theorem dX12_undo_0 : decode cX12_undo 0 = .ok (.aload_n 0, 1) := by decide +kernel
theorem dX12_undo_1 : decode cX12_undo 1 = .ok (.getfield 269, 3) := by decide +kernel
theorem dX12_undo_4 : decode cX12_undo 4 = .ok (.ifCond .ne 5, 3) := by decide +kernel
theorem dX12_undo_7 : decode cX12_undo 7 = .ok (.iconst (-1), 1) := by decide +kernel
theorem dX12_undo_8 : decode cX12_undo 8 = .ok (.ireturn, 1) := by decide +kernel
theorem dX12_undo_9 : decode cX12_undo 9 = .ok (.aload_n 0, 1) := by decide +kernel
theorem dX12_undo_10 : decode cX12_undo 10 = .ok (.dup, 1) := by decide +kernel
theorem dX12_undo_11 : decode cX12_undo 11 = .ok (.getfield 269, 3) := by decide +kernel
theorem dX12_undo_14 : decode cX12_undo 14 = .ok (.iconst 1, 1) := by decide +kernel
theorem dX12_undo_15 : decode cX12_undo 15 = .ok (.isub, 1) := by decide +kernel
theorem dX12_undo_16 : decode cX12_undo 16 = .ok (.putfield 269, 3) := by decide +kernel
theorem dX12_undo_19 : decode cX12_undo 19 = .ok (.iconst 0, 1) := by decide +kernel
theorem dX12_undo_20 : decode cX12_undo 20 = .ok (.istore_n 1, 1) := by decide +kernel
theorem dX12_undo_21 : decode cX12_undo 21 = .ok (.iload_n 1, 1) := by decide +kernel
theorem dX12_undo_22 : decode cX12_undo 22 = .ok (.sipush 160, 3) := by decide +kernel
theorem dX12_undo_25 : decode cX12_undo 25 = .ok (.if_icmp .ge 30, 3) := by decide +kernel
theorem dX12_undo_28 : decode cX12_undo 28 = .ok (.aload_n 0, 1) := by decide +kernel
theorem dX12_undo_29 : decode cX12_undo 29 = .ok (.getfield 64, 3) := by decide +kernel
theorem dX12_undo_32 : decode cX12_undo 32 = .ok (.iload_n 1, 1) := by decide +kernel
theorem dX12_undo_33 : decode cX12_undo 33 = .ok (.aload_n 0, 1) := by decide +kernel
theorem dX12_undo_34 : decode cX12_undo 34 = .ok (.getfield 77, 3) := by decide +kernel
theorem dX12_undo_37 : decode cX12_undo 37 = .ok (.sipush 160, 3) := by decide +kernel
theorem dX12_undo_40 : decode cX12_undo 40 = .ok (.aload_n 0, 1) := by decide +kernel
theorem dX12_undo_41 : decode cX12_undo 41 = .ok (.getfield 269, 3) := by decide +kernel
theorem dX12_undo_44 : decode cX12_undo 44 = .ok (.imul, 1) := by decide +kernel
theorem dX12_undo_45 : decode cX12_undo 45 = .ok (.iload_n 1, 1) := by decide +kernel
theorem dX12_undo_46 : decode cX12_undo 46 = .ok (.iadd, 1) := by decide +kernel
theorem dX12_undo_47 : decode cX12_undo 47 = .ok (.iaload, 1) := by decide +kernel
theorem dX12_undo_48 : decode cX12_undo 48 = .ok (.iastore, 1) := by decide +kernel
theorem dX12_undo_49 : decode cX12_undo 49 = .ok (.iinc 1 1, 3) := by decide +kernel
theorem dX12_undo_52 : decode cX12_undo 52 = .ok (.goto (-31), 3) := by decide +kernel
theorem dX12_undo_55 : decode cX12_undo 55 = .ok (.aload_n 0, 1) := by decide +kernel
theorem dX12_undo_56 : decode cX12_undo 56 = .ok (.getfield 269, 3) := by decide +kernel
theorem dX12_undo_59 : decode cX12_undo 59 = .ok (.ireturn, 1) := by decide +kernel
theorem dX12_log_0 : decode cX12_log 0 = .ok (.iload_n 1, 1) := by decide +kernel
theorem dX12_log_1 : decode cX12_log 1 = .ok (.iconst 0, 1) := by decide +kernel
theorem dX12_log_2 : decode cX12_log 2 = .ok (.aload_n 0, 1) := by decide +kernel
theorem dX12_log_3 : decode cX12_log 3 = .ok (.getfield 64, 3) := by decide +kernel
theorem dX12_log_6 : decode cX12_log 6 = .ok (.bipush 39, 2) := by decide +kernel
theorem dX12_log_8 : decode cX12_log 8 = .ok (.iaload, 1) := by decide +kernel
theorem dX12_log_9 : decode cX12_log 9 = .ok (.iconst 1, 1) := by decide +kernel
theorem dX12_log_10 : decode cX12_log 10 = .ok (.isub, 1) := by decide +kernel
theorem dX12_log_11 : decode cX12_log 11 = .ok (.invokestatic 207, 3) := by decide +kernel
theorem dX12_log_14 : decode cX12_log 14 = .ok (.ifCond .eq 38, 3) := by decide +kernel
theorem dX12_log_17 : decode cX12_log 17 = .ok (.iload_n 2, 1) := by decide +kernel
theorem dX12_log_18 : decode cX12_log 18 = .ok (.iconst 0, 1) := by decide +kernel
theorem dX12_log_19 : decode cX12_log 19 = .ok (.iconst 1, 1) := by decide +kernel
theorem dX12_log_20 : decode cX12_log 20 = .ok (.invokestatic 207, 3) := by decide +kernel
theorem dX12_log_23 : decode cX12_log 23 = .ok (.ifCond .eq 29, 3) := by decide +kernel
theorem dX12_log_26 : decode cX12_log 26 = .ok (.aload_n 0, 1) := by decide +kernel
theorem dX12_log_27 : decode cX12_log 27 = .ok (.getfield 64, 3) := by decide +kernel
theorem dX12_log_30 : decode cX12_log 30 = .ok (.bipush 40, 2) := by decide +kernel
theorem dX12_log_32 : decode cX12_log 32 = .ok (.iconst 2, 1) := by decide +kernel
theorem dX12_log_33 : decode cX12_log 33 = .ok (.aload_n 0, 1) := by decide +kernel
theorem dX12_log_34 : decode cX12_log 34 = .ok (.getfield 64, 3) := by decide +kernel
theorem dX12_log_37 : decode cX12_log 37 = .ok (.bipush 39, 2) := by decide +kernel
theorem dX12_log_39 : decode cX12_log 39 = .ok (.iaload, 1) := by decide +kernel
theorem dX12_log_40 : decode cX12_log 40 = .ok (.iconst 1, 1) := by decide +kernel
theorem dX12_log_41 : decode cX12_log 41 = .ok (.isub, 1) := by decide +kernel
theorem dX12_log_42 : decode cX12_log 42 = .ok (.iload_n 1, 1) := by decide +kernel
theorem dX12_log_43 : decode cX12_log 43 = .ok (.isub, 1) := by decide +kernel
theorem dX12_log_44 : decode cX12_log 44 = .ok (.imul, 1) := by decide +kernel
theorem dX12_log_45 : decode cX12_log 45 = .ok (.iadd, 1) := by decide +kernel
theorem dX12_log_46 : decode cX12_log 46 = .ok (.iload_n 2, 1) := by decide +kernel
theorem dX12_log_47 : decode cX12_log 47 = .ok (.iadd, 1) := by decide +kernel
theorem dX12_log_48 : decode cX12_log 48 = .ok (.iaload, 1) := by decide +kernel
theorem dX12_log_49 : decode cX12_log 49 = .ok (.goto 4, 3) := by decide +kernel
theorem dX12_log_52 : decode cX12_log 52 = .ok (.iconst (-1), 1) := by decide +kernel
theorem dX12_log_53 : decode cX12_log 53 = .ok (.ireturn, 1) := by decide +kernel
theorem dX12_layer_0 : decode cX12_layer 0 = .ok (.aload_n 0, 1) := by decide +kernel
theorem dX12_layer_1 : decode cX12_layer 1 = .ok (.iload_n 1, 1) := by decide +kernel
theorem dX12_layer_2 : decode cX12_layer 2 = .ok (.invokevirtual 336, 3) := by decide +kernel
theorem dX12_layer_5 : decode cX12_layer 5 = .ok (.ifCond .eq 30, 3) := by decide +kernel
theorem dX12_layer_8 : decode cX12_layer 8 = .ok (.iload_n 2, 1) := by decide +kernel
theorem dX12_layer_9 : decode cX12_layer 9 = .ok (.iconst 0, 1) := by decide +kernel
theorem dX12_layer_10 : decode cX12_layer 10 = .ok (.aload_n 0, 1) := by decide +kernel
theorem dX12_layer_11 : decode cX12_layer 11 = .ok (.getfield 64, 3) := by decide +kernel
theorem dX12_layer_14 : decode cX12_layer 14 = .ok (.iconst 0, 1) := by decide +kernel
theorem dX12_layer_15 : decode cX12_layer 15 = .ok (.iload_n 1, 1) := by decide +kernel
theorem dX12_layer_16 : decode cX12_layer 16 = .ok (.iadd, 1) := by decide +kernel
theorem dX12_layer_17 : decode cX12_layer 17 = .ok (.iaload, 1) := by decide +kernel
theorem dX12_layer_18 : decode cX12_layer 18 = .ok (.iconst 1, 1) := by decide +kernel
theorem dX12_layer_19 : decode cX12_layer 19 = .ok (.isub, 1) := by decide +kernel
theorem dX12_layer_20 : decode cX12_layer 20 = .ok (.invokestatic 207, 3) := by decide +kernel
theorem dX12_layer_23 : decode cX12_layer 23 = .ok (.ifCond .eq 12, 3) := by decide +kernel
theorem dX12_layer_26 : decode cX12_layer 26 = .ok (.aload_n 0, 1) := by decide +kernel
theorem dX12_layer_27 : decode cX12_layer 27 = .ok (.iload_n 1, 1) := by decide +kernel
theorem dX12_layer_28 : decode cX12_layer 28 = .ok (.iload_n 2, 1) := by decide +kernel
theorem dX12_layer_29 : decode cX12_layer 29 = .ok (.invokevirtual 285, 3) := by decide +kernel
theorem dX12_layer_32 : decode cX12_layer 32 = .ok (.goto 4, 3) := by decide +kernel
theorem dX12_layer_35 : decode cX12_layer 35 = .ok (.iconst (-1), 1) := by decide +kernel
theorem dX12_layer_36 : decode cX12_layer 36 = .ok (.ireturn, 1) := by decide +kernel
theorem dX12_reach_0 : decode cX12_reach 0 = .ok (.aload_n 0, 1) := by decide +kernel
theorem dX12_reach_1 : decode cX12_reach 1 = .ok (.iload_n 1, 1) := by decide +kernel
theorem dX12_reach_2 : decode cX12_reach 2 = .ok (.invokevirtual 333, 3) := by decide +kernel
theorem dX12_reach_5 : decode cX12_reach 5 = .ok (.ifCond .eq 11, 3) := by decide +kernel
theorem dX12_reach_8 : decode cX12_reach 8 = .ok (.aload_n 0, 1) := by decide +kernel
theorem dX12_reach_9 : decode cX12_reach 9 = .ok (.iload_n 1, 1) := by decide +kernel
theorem dX12_reach_10 : decode cX12_reach 10 = .ok (.invokevirtual 297, 3) := by decide +kernel
theorem dX12_reach_13 : decode cX12_reach 13 = .ok (.goto 4, 3) := by decide +kernel
theorem dX12_reach_16 : decode cX12_reach 16 = .ok (.iconst (-1), 1) := by decide +kernel
theorem dX12_reach_17 : decode cX12_reach 17 = .ok (.istore_n 2, 1) := by decide +kernel
theorem dX12_reach_18 : decode cX12_reach 18 = .ok (.iconst 1, 1) := by decide +kernel
theorem dX12_reach_19 : decode cX12_reach 19 = .ok (.istore_n 3, 1) := by decide +kernel
theorem dX12_reach_20 : decode cX12_reach 20 = .ok (.iload_n 3, 1) := by decide +kernel
theorem dX12_reach_21 : decode cX12_reach 21 = .ok (.bipush 9, 2) := by decide +kernel
theorem dX12_reach_23 : decode cX12_reach 23 = .ok (.if_icmp .gt 41, 3) := by decide +kernel
theorem dX12_reach_26 : decode cX12_reach 26 = .ok (.iload_n 2, 1) := by decide +kernel
theorem dX12_reach_27 : decode cX12_reach 27 = .ok (.iconst (-1), 1) := by decide +kernel
theorem dX12_reach_28 : decode cX12_reach 28 = .ok (.if_icmp .eq 36, 3) := by decide +kernel
theorem dX12_reach_31 : decode cX12_reach 31 = .ok (.aload_n 0, 1) := by decide +kernel
theorem dX12_reach_32 : decode cX12_reach 32 = .ok (.iload_n 2, 1) := by decide +kernel
theorem dX12_reach_33 : decode cX12_reach 33 = .ok (.iload_n 3, 1) := by decide +kernel
theorem dX12_reach_34 : decode cX12_reach 34 = .ok (.invokevirtual 360, 3) := by decide +kernel
theorem dX12_reach_37 : decode cX12_reach 37 = .ok (.istore 4, 2) := by decide +kernel
theorem dX12_reach_39 : decode cX12_reach 39 = .ok (.iload 4, 2) := by decide +kernel
theorem dX12_reach_41 : decode cX12_reach 41 = .ok (.iconst (-1), 1) := by decide +kernel
theorem dX12_reach_42 : decode cX12_reach 42 = .ok (.if_icmp .eq 16, 3) := by decide +kernel
theorem dX12_reach_45 : decode cX12_reach 45 = .ok (.aload_n 0, 1) := by decide +kernel
theorem dX12_reach_46 : decode cX12_reach 46 = .ok (.iload_n 2, 1) := by decide +kernel
theorem dX12_reach_47 : decode cX12_reach 47 = .ok (.iload 4, 2) := by decide +kernel
theorem dX12_reach_49 : decode cX12_reach 49 = .ok (.invokevirtual 285, 3) := by decide +kernel
theorem dX12_reach_52 : decode cX12_reach 52 = .ok (.iload_n 1, 1) := by decide +kernel
theorem dX12_reach_53 : decode cX12_reach 53 = .ok (.if_icmp .ne 5, 3) := by decide +kernel
theorem dX12_reach_56 : decode cX12_reach 56 = .ok (.iload_n 3, 1) := by decide +kernel
theorem dX12_reach_57 : decode cX12_reach 57 = .ok (.ireturn, 1) := by decide +kernel
theorem dX12_reach_58 : decode cX12_reach 58 = .ok (.iinc 3 1, 3) := by decide +kernel
theorem dX12_reach_61 : decode cX12_reach 61 = .ok (.goto (-41), 3) := by decide +kernel
theorem dX12_reach_64 : decode cX12_reach 64 = .ok (.iconst (-1), 1) := by decide +kernel
theorem dX12_reach_65 : decode cX12_reach 65 = .ok (.ireturn, 1) := by decide +kernel
theorem dX12_putAside_0 : decode cX12_putAside 0 = .ok (.iconst 0, 1) := by decide +kernel
theorem dX12_putAside_1 : decode cX12_putAside 1 = .ok (.istore_n 2, 1) := by decide +kernel
theorem dX12_putAside_2 : decode cX12_putAside 2 = .ok (.iload_n 2, 1) := by decide +kernel
theorem dX12_putAside_3 : decode cX12_putAside 3 = .ok (.bipush 39, 2) := by decide +kernel
theorem dX12_putAside_5 : decode cX12_putAside 5 = .ok (.if_icmp .ge 26, 3) := by decide +kernel
theorem dX12_putAside_8 : decode cX12_putAside 8 = .ok (.aload_n 0, 1) := by decide +kernel
theorem dX12_putAside_9 : decode cX12_putAside 9 = .ok (.getfield 80, 3) := by decide +kernel
theorem dX12_putAside_12 : decode cX12_putAside 12 = .ok (.bipush 39, 2) := by decide +kernel
theorem dX12_putAside_14 : decode cX12_putAside 14 = .ok (.iload_n 1, 1) := by decide +kernel
theorem dX12_putAside_15 : decode cX12_putAside 15 = .ok (.imul, 1) := by decide +kernel
theorem dX12_putAside_16 : decode cX12_putAside 16 = .ok (.iload_n 2, 1) := by decide +kernel
theorem dX12_putAside_17 : decode cX12_putAside 17 = .ok (.iadd, 1) := by decide +kernel
theorem dX12_putAside_18 : decode cX12_putAside 18 = .ok (.aload_n 0, 1) := by decide +kernel
theorem dX12_putAside_19 : decode cX12_putAside 19 = .ok (.getfield 64, 3) := by decide +kernel
theorem dX12_putAside_22 : decode cX12_putAside 22 = .ok (.iload_n 2, 1) := by decide +kernel
theorem dX12_putAside_23 : decode cX12_putAside 23 = .ok (.iaload, 1) := by decide +kernel
theorem dX12_putAside_24 : decode cX12_putAside 24 = .ok (.iastore, 1) := by decide +kernel
theorem dX12_putAside_25 : decode cX12_putAside 25 = .ok (.iinc 2 1, 3) := by decide +kernel
theorem dX12_putAside_28 : decode cX12_putAside 28 = .ok (.goto (-26), 3) := by decide +kernel
theorem dX12_putAside_31 : decode cX12_putAside 31 = .ok (.return_, 1) := by decide +kernel
theorem dX12_takeBack_0 : decode cX12_takeBack 0 = .ok (.iconst 0, 1) := by decide +kernel
theorem dX12_takeBack_1 : decode cX12_takeBack 1 = .ok (.istore_n 2, 1) := by decide +kernel
theorem dX12_takeBack_2 : decode cX12_takeBack 2 = .ok (.iload_n 2, 1) := by decide +kernel
theorem dX12_takeBack_3 : decode cX12_takeBack 3 = .ok (.bipush 39, 2) := by decide +kernel
theorem dX12_takeBack_5 : decode cX12_takeBack 5 = .ok (.if_icmp .ge 26, 3) := by decide +kernel
theorem dX12_takeBack_8 : decode cX12_takeBack 8 = .ok (.aload_n 0, 1) := by decide +kernel
theorem dX12_takeBack_9 : decode cX12_takeBack 9 = .ok (.getfield 64, 3) := by decide +kernel
theorem dX12_takeBack_12 : decode cX12_takeBack 12 = .ok (.iload_n 2, 1) := by decide +kernel
theorem dX12_takeBack_13 : decode cX12_takeBack 13 = .ok (.aload_n 0, 1) := by decide +kernel
theorem dX12_takeBack_14 : decode cX12_takeBack 14 = .ok (.getfield 80, 3) := by decide +kernel
theorem dX12_takeBack_17 : decode cX12_takeBack 17 = .ok (.bipush 39, 2) := by decide +kernel
theorem dX12_takeBack_19 : decode cX12_takeBack 19 = .ok (.iload_n 1, 1) := by decide +kernel
theorem dX12_takeBack_20 : decode cX12_takeBack 20 = .ok (.imul, 1) := by decide +kernel
theorem dX12_takeBack_21 : decode cX12_takeBack 21 = .ok (.iload_n 2, 1) := by decide +kernel
theorem dX12_takeBack_22 : decode cX12_takeBack 22 = .ok (.iadd, 1) := by decide +kernel
theorem dX12_takeBack_23 : decode cX12_takeBack 23 = .ok (.iaload, 1) := by decide +kernel
theorem dX12_takeBack_24 : decode cX12_takeBack 24 = .ok (.iastore, 1) := by decide +kernel
theorem dX12_takeBack_25 : decode cX12_takeBack 25 = .ok (.iinc 2 1, 3) := by decide +kernel
theorem dX12_takeBack_28 : decode cX12_takeBack 28 = .ok (.goto (-26), 3) := by decide +kernel
theorem dX12_takeBack_31 : decode cX12_takeBack 31 = .ok (.return_, 1) := by decide +kernel
theorem dX12_firstWell_0 : decode cX12_firstWell 0 = .ok (.iconst 0, 1) := by decide +kernel
theorem dX12_firstWell_1 : decode cX12_firstWell 1 = .ok (.istore_n 2, 1) := by decide +kernel
theorem dX12_firstWell_2 : decode cX12_firstWell 2 = .ok (.iload_n 2, 1) := by decide +kernel
theorem dX12_firstWell_3 : decode cX12_firstWell 3 = .ok (.aload_n 0, 1) := by decide +kernel
theorem dX12_firstWell_4 : decode cX12_firstWell 4 = .ok (.getfield 257, 3) := by decide +kernel
theorem dX12_firstWell_7 : decode cX12_firstWell 7 = .ok (.if_icmp .ge 20, 3) := by decide +kernel
theorem dX12_firstWell_10 : decode cX12_firstWell 10 = .ok (.aload_n 0, 1) := by decide +kernel
theorem dX12_firstWell_11 : decode cX12_firstWell 11 = .ok (.iload_n 1, 1) := by decide +kernel
theorem dX12_firstWell_12 : decode cX12_firstWell 12 = .ok (.iload_n 2, 1) := by decide +kernel
theorem dX12_firstWell_13 : decode cX12_firstWell 13 = .ok (.invokevirtual 348, 3) := by decide +kernel
theorem dX12_firstWell_16 : decode cX12_firstWell 16 = .ok (.ifCond .eq 5, 3) := by decide +kernel
theorem dX12_firstWell_19 : decode cX12_firstWell 19 = .ok (.iload_n 2, 1) := by decide +kernel
theorem dX12_firstWell_20 : decode cX12_firstWell 20 = .ok (.ireturn, 1) := by decide +kernel
theorem dX12_firstWell_21 : decode cX12_firstWell 21 = .ok (.iinc 2 1, 3) := by decide +kernel
theorem dX12_firstWell_24 : decode cX12_firstWell 24 = .ok (.goto (-22), 3) := by decide +kernel
theorem dX12_firstWell_27 : decode cX12_firstWell 27 = .ok (.iconst (-1), 1) := by decide +kernel
theorem dX12_firstWell_28 : decode cX12_firstWell 28 = .ok (.ireturn, 1) := by decide +kernel
theorem dX12_leastMissed_0 : decode cX12_leastMissed 0 = .ok (.iconst (-1), 1) := by decide +kernel
theorem dX12_leastMissed_1 : decode cX12_leastMissed 1 = .ok (.istore_n 1, 1) := by decide +kernel
theorem dX12_leastMissed_2 : decode cX12_leastMissed 2 = .ok (.iconst 0, 1) := by decide +kernel
theorem dX12_leastMissed_3 : decode cX12_leastMissed 3 = .ok (.istore_n 2, 1) := by decide +kernel
theorem dX12_leastMissed_4 : decode cX12_leastMissed 4 = .ok (.iconst 0, 1) := by decide +kernel
theorem dX12_leastMissed_5 : decode cX12_leastMissed 5 = .ok (.istore_n 3, 1) := by decide +kernel
theorem dX12_leastMissed_6 : decode cX12_leastMissed 6 = .ok (.iload_n 3, 1) := by decide +kernel
theorem dX12_leastMissed_7 : decode cX12_leastMissed 7 = .ok (.aload_n 0, 1) := by decide +kernel
theorem dX12_leastMissed_8 : decode cX12_leastMissed 8 = .ok (.getfield 260, 3) := by decide +kernel
theorem dX12_leastMissed_11 : decode cX12_leastMissed 11 = .ok (.if_icmp .ge 69, 3) := by decide +kernel
theorem dX12_leastMissed_14 : decode cX12_leastMissed 14 = .ok (.aload_n 0, 1) := by decide +kernel
theorem dX12_leastMissed_15 : decode cX12_leastMissed 15 = .ok (.iload_n 3, 1) := by decide +kernel
theorem dX12_leastMissed_16 : decode cX12_leastMissed 16 = .ok (.invokevirtual 303, 3) := by decide +kernel
theorem dX12_leastMissed_19 : decode cX12_leastMissed 19 = .ok (.ifCond .eq 55, 3) := by decide +kernel
theorem dX12_leastMissed_22 : decode cX12_leastMissed 22 = .ok (.aload_n 0, 1) := by decide +kernel
theorem dX12_leastMissed_23 : decode cX12_leastMissed 23 = .ok (.iload_n 3, 1) := by decide +kernel
theorem dX12_leastMissed_24 : decode cX12_leastMissed 24 = .ok (.invokevirtual 395, 3) := by decide +kernel
theorem dX12_leastMissed_27 : decode cX12_leastMissed 27 = .ok (.iconst (-1), 1) := by decide +kernel
theorem dX12_leastMissed_28 : decode cX12_leastMissed 28 = .ok (.if_icmp .eq 46, 3) := by decide +kernel
theorem dX12_leastMissed_31 : decode cX12_leastMissed 31 = .ok (.aload_n 0, 1) := by decide +kernel
theorem dX12_leastMissed_32 : decode cX12_leastMissed 32 = .ok (.iconst 0, 1) := by decide +kernel
theorem dX12_leastMissed_33 : decode cX12_leastMissed 33 = .ok (.invokevirtual 398, 3) := by decide +kernel
theorem dX12_leastMissed_36 : decode cX12_leastMissed 36 = .ok (.aload_n 0, 1) := by decide +kernel
theorem dX12_leastMissed_37 : decode cX12_leastMissed 37 = .ok (.iload_n 3, 1) := by decide +kernel
theorem dX12_leastMissed_38 : decode cX12_leastMissed 38 = .ok (.aload_n 0, 1) := by decide +kernel
theorem dX12_leastMissed_39 : decode cX12_leastMissed 39 = .ok (.iload_n 3, 1) := by decide +kernel
theorem dX12_leastMissed_40 : decode cX12_leastMissed 40 = .ok (.invokevirtual 395, 3) := by decide +kernel
theorem dX12_leastMissed_43 : decode cX12_leastMissed 43 = .ok (.invokevirtual 357, 3) := by decide +kernel
theorem dX12_leastMissed_46 : decode cX12_leastMissed 46 = .ok (.aload_n 0, 1) := by decide +kernel
theorem dX12_leastMissed_47 : decode cX12_leastMissed 47 = .ok (.iload_n 3, 1) := by decide +kernel
theorem dX12_leastMissed_48 : decode cX12_leastMissed 48 = .ok (.invokevirtual 330, 3) := by decide +kernel
theorem dX12_leastMissed_51 : decode cX12_leastMissed 51 = .ok (.istore 4, 2) := by decide +kernel
theorem dX12_leastMissed_53 : decode cX12_leastMissed 53 = .ok (.aload_n 0, 1) := by decide +kernel
theorem dX12_leastMissed_54 : decode cX12_leastMissed 54 = .ok (.iconst 0, 1) := by decide +kernel
theorem dX12_leastMissed_55 : decode cX12_leastMissed 55 = .ok (.invokevirtual 401, 3) := by decide +kernel
theorem dX12_leastMissed_58 : decode cX12_leastMissed 58 = .ok (.iload_n 1, 1) := by decide +kernel
theorem dX12_leastMissed_59 : decode cX12_leastMissed 59 = .ok (.iconst (-1), 1) := by decide +kernel
theorem dX12_leastMissed_60 : decode cX12_leastMissed 60 = .ok (.if_icmp .eq 9, 3) := by decide +kernel
theorem dX12_leastMissed_63 : decode cX12_leastMissed 63 = .ok (.iload 4, 2) := by decide +kernel
theorem dX12_leastMissed_65 : decode cX12_leastMissed 65 = .ok (.iload_n 2, 1) := by decide +kernel
theorem dX12_leastMissed_66 : decode cX12_leastMissed 66 = .ok (.if_icmp .ge 8, 3) := by decide +kernel
theorem dX12_leastMissed_69 : decode cX12_leastMissed 69 = .ok (.iload_n 3, 1) := by decide +kernel
theorem dX12_leastMissed_70 : decode cX12_leastMissed 70 = .ok (.istore_n 1, 1) := by decide +kernel
theorem dX12_leastMissed_71 : decode cX12_leastMissed 71 = .ok (.iload 4, 2) := by decide +kernel
theorem dX12_leastMissed_73 : decode cX12_leastMissed 73 = .ok (.istore_n 2, 1) := by decide +kernel
theorem dX12_leastMissed_74 : decode cX12_leastMissed 74 = .ok (.iinc 3 1, 3) := by decide +kernel
theorem dX12_leastMissed_77 : decode cX12_leastMissed 77 = .ok (.goto (-71), 3) := by decide +kernel
theorem dX12_leastMissed_80 : decode cX12_leastMissed 80 = .ok (.iload_n 1, 1) := by decide +kernel
theorem dX12_leastMissed_81 : decode cX12_leastMissed 81 = .ok (.ireturn, 1) := by decide +kernel
theorem dX12_tryFaction_0 : decode cX12_tryFaction 0 = .ok (.iload_n 2, 1) := by decide +kernel
theorem dX12_tryFaction_1 : decode cX12_tryFaction 1 = .ok (.aload_n 0, 1) := by decide +kernel
theorem dX12_tryFaction_2 : decode cX12_tryFaction 2 = .ok (.getfield 260, 3) := by decide +kernel
theorem dX12_tryFaction_5 : decode cX12_tryFaction 5 = .ok (.if_icmp .ne 58, 3) := by decide +kernel
theorem dX12_tryFaction_8 : decode cX12_tryFaction 8 = .ok (.iload 4, 2) := by decide +kernel
theorem dX12_tryFaction_10 : decode cX12_tryFaction 10 = .ok (.invokestatic 312, 3) := by decide +kernel
theorem dX12_tryFaction_13 : decode cX12_tryFaction 13 = .ok (.istore 6, 2) := by decide +kernel
theorem dX12_tryFaction_15 : decode cX12_tryFaction 15 = .ok (.aload_n 0, 1) := by decide +kernel
theorem dX12_tryFaction_16 : decode cX12_tryFaction 16 = .ok (.getfield 404, 3) := by decide +kernel
theorem dX12_tryFaction_19 : decode cX12_tryFaction 19 = .ok (.iconst (-1), 1) := by decide +kernel
theorem dX12_tryFaction_20 : decode cX12_tryFaction 20 = .ok (.if_icmp .eq 30, 3) := by decide +kernel
theorem dX12_tryFaction_23 : decode cX12_tryFaction 23 = .ok (.iload 6, 2) := by decide +kernel
theorem dX12_tryFaction_25 : decode cX12_tryFaction 25 = .ok (.aload_n 0, 1) := by decide +kernel
theorem dX12_tryFaction_26 : decode cX12_tryFaction 26 = .ok (.getfield 407, 3) := by decide +kernel
theorem dX12_tryFaction_29 : decode cX12_tryFaction 29 = .ok (.if_icmp .lt 21, 3) := by decide +kernel
theorem dX12_tryFaction_32 : decode cX12_tryFaction 32 = .ok (.iload 6, 2) := by decide +kernel
theorem dX12_tryFaction_34 : decode cX12_tryFaction 34 = .ok (.aload_n 0, 1) := by decide +kernel
theorem dX12_tryFaction_35 : decode cX12_tryFaction 35 = .ok (.getfield 407, 3) := by decide +kernel
theorem dX12_tryFaction_38 : decode cX12_tryFaction 38 = .ok (.if_icmp .ne 24, 3) := by decide +kernel
theorem dX12_tryFaction_41 : decode cX12_tryFaction 41 = .ok (.iload 5, 2) := by decide +kernel
theorem dX12_tryFaction_43 : decode cX12_tryFaction 43 = .ok (.aload_n 0, 1) := by decide +kernel
theorem dX12_tryFaction_44 : decode cX12_tryFaction 44 = .ok (.getfield 404, 3) := by decide +kernel
theorem dX12_tryFaction_47 : decode cX12_tryFaction 47 = .ok (.if_icmp .ge 15, 3) := by decide +kernel
theorem dX12_tryFaction_50 : decode cX12_tryFaction 50 = .ok (.aload_n 0, 1) := by decide +kernel
theorem dX12_tryFaction_51 : decode cX12_tryFaction 51 = .ok (.iload 5, 2) := by decide +kernel
theorem dX12_tryFaction_53 : decode cX12_tryFaction 53 = .ok (.putfield 404, 3) := by decide +kernel
theorem dX12_tryFaction_56 : decode cX12_tryFaction 56 = .ok (.aload_n 0, 1) := by decide +kernel
theorem dX12_tryFaction_57 : decode cX12_tryFaction 57 = .ok (.iload 6, 2) := by decide +kernel
theorem dX12_tryFaction_59 : decode cX12_tryFaction 59 = .ok (.putfield 407, 3) := by decide +kernel
theorem dX12_tryFaction_62 : decode cX12_tryFaction 62 = .ok (.return_, 1) := by decide +kernel
theorem dX12_tryFaction_63 : decode cX12_tryFaction 63 = .ok (.iload_n 3, 1) := by decide +kernel
theorem dX12_tryFaction_64 : decode cX12_tryFaction 64 = .ok (.iload_n 2, 1) := by decide +kernel
theorem dX12_tryFaction_65 : decode cX12_tryFaction 65 = .ok (.invokestatic 218, 3) := by decide +kernel
theorem dX12_tryFaction_68 : decode cX12_tryFaction 68 = .ok (.ifCond .ne 17, 3) := by decide +kernel
theorem dX12_tryFaction_71 : decode cX12_tryFaction 71 = .ok (.aload_n 0, 1) := by decide +kernel
theorem dX12_tryFaction_72 : decode cX12_tryFaction 72 = .ok (.iload_n 1, 1) := by decide +kernel
theorem dX12_tryFaction_73 : decode cX12_tryFaction 73 = .ok (.iload_n 2, 1) := by decide +kernel
theorem dX12_tryFaction_74 : decode cX12_tryFaction 74 = .ok (.iconst 1, 1) := by decide +kernel
theorem dX12_tryFaction_75 : decode cX12_tryFaction 75 = .ok (.iadd, 1) := by decide +kernel
theorem dX12_tryFaction_76 : decode cX12_tryFaction 76 = .ok (.iload_n 3, 1) := by decide +kernel
theorem dX12_tryFaction_77 : decode cX12_tryFaction 77 = .ok (.iload 4, 2) := by decide +kernel
theorem dX12_tryFaction_79 : decode cX12_tryFaction 79 = .ok (.iload 5, 2) := by decide +kernel
theorem dX12_tryFaction_81 : decode cX12_tryFaction 81 = .ok (.invokevirtual 410, 3) := by decide +kernel
theorem dX12_tryFaction_84 : decode cX12_tryFaction 84 = .ok (.return_, 1) := by decide +kernel
theorem dX12_tryFaction_85 : decode cX12_tryFaction 85 = .ok (.aload_n 0, 1) := by decide +kernel
theorem dX12_tryFaction_86 : decode cX12_tryFaction 86 = .ok (.iload_n 1, 1) := by decide +kernel
theorem dX12_tryFaction_87 : decode cX12_tryFaction 87 = .ok (.invokevirtual 398, 3) := by decide +kernel
theorem dX12_tryFaction_90 : decode cX12_tryFaction 90 = .ok (.iconst 0, 1) := by decide +kernel
theorem dX12_tryFaction_91 : decode cX12_tryFaction 91 = .ok (.istore 6, 2) := by decide +kernel
theorem dX12_tryFaction_93 : decode cX12_tryFaction 93 = .ok (.iload 6, 2) := by decide +kernel
theorem dX12_tryFaction_95 : decode cX12_tryFaction 95 = .ok (.aload_n 0, 1) := by decide +kernel
theorem dX12_tryFaction_96 : decode cX12_tryFaction 96 = .ok (.getfield 257, 3) := by decide +kernel
theorem dX12_tryFaction_99 : decode cX12_tryFaction 99 = .ok (.if_icmp .ge 57, 3) := by decide +kernel
theorem dX12_tryFaction_102 : decode cX12_tryFaction 102 = .ok (.aload_n 0, 1) := by decide +kernel
theorem dX12_tryFaction_103 : decode cX12_tryFaction 103 = .ok (.iload_n 2, 1) := by decide +kernel
theorem dX12_tryFaction_104 : decode cX12_tryFaction 104 = .ok (.iload 6, 2) := by decide +kernel
theorem dX12_tryFaction_106 : decode cX12_tryFaction 106 = .ok (.invokevirtual 348, 3) := by decide +kernel
theorem dX12_tryFaction_109 : decode cX12_tryFaction 109 = .ok (.ifCond .eq 41, 3) := by decide +kernel
theorem dX12_tryFaction_112 : decode cX12_tryFaction 112 = .ok (.aload_n 0, 1) := by decide +kernel
theorem dX12_tryFaction_113 : decode cX12_tryFaction 113 = .ok (.iload_n 2, 1) := by decide +kernel
theorem dX12_tryFaction_114 : decode cX12_tryFaction 114 = .ok (.iload 6, 2) := by decide +kernel
theorem dX12_tryFaction_116 : decode cX12_tryFaction 116 = .ok (.invokevirtual 357, 3) := by decide +kernel
theorem dX12_tryFaction_119 : decode cX12_tryFaction 119 = .ok (.aload_n 0, 1) := by decide +kernel
theorem dX12_tryFaction_120 : decode cX12_tryFaction 120 = .ok (.iload_n 1, 1) := by decide +kernel
theorem dX12_tryFaction_121 : decode cX12_tryFaction 121 = .ok (.iconst 1, 1) := by decide +kernel
theorem dX12_tryFaction_122 : decode cX12_tryFaction 122 = .ok (.iadd, 1) := by decide +kernel
theorem dX12_tryFaction_123 : decode cX12_tryFaction 123 = .ok (.iload_n 2, 1) := by decide +kernel
theorem dX12_tryFaction_124 : decode cX12_tryFaction 124 = .ok (.iconst 1, 1) := by decide +kernel
theorem dX12_tryFaction_125 : decode cX12_tryFaction 125 = .ok (.iadd, 1) := by decide +kernel
theorem dX12_tryFaction_126 : decode cX12_tryFaction 126 = .ok (.iload_n 3, 1) := by decide +kernel
theorem dX12_tryFaction_127 : decode cX12_tryFaction 127 = .ok (.iload 4, 2) := by decide +kernel
theorem dX12_tryFaction_129 : decode cX12_tryFaction 129 = .ok (.iconst 1, 1) := by decide +kernel
theorem dX12_tryFaction_130 : decode cX12_tryFaction 130 = .ok (.iload 6, 2) := by decide +kernel
theorem dX12_tryFaction_132 : decode cX12_tryFaction 132 = .ok (.ishl, 1) := by decide +kernel
theorem dX12_tryFaction_133 : decode cX12_tryFaction 133 = .ok (.ior, 1) := by decide +kernel
theorem dX12_tryFaction_134 : decode cX12_tryFaction 134 = .ok (.bipush 10, 2) := by decide +kernel
theorem dX12_tryFaction_136 : decode cX12_tryFaction 136 = .ok (.iload 5, 2) := by decide +kernel
theorem dX12_tryFaction_138 : decode cX12_tryFaction 138 = .ok (.imul, 1) := by decide +kernel
theorem dX12_tryFaction_139 : decode cX12_tryFaction 139 = .ok (.iload 6, 2) := by decide +kernel
theorem dX12_tryFaction_141 : decode cX12_tryFaction 141 = .ok (.iadd, 1) := by decide +kernel
theorem dX12_tryFaction_142 : decode cX12_tryFaction 142 = .ok (.invokevirtual 410, 3) := by decide +kernel
theorem dX12_tryFaction_145 : decode cX12_tryFaction 145 = .ok (.aload_n 0, 1) := by decide +kernel
theorem dX12_tryFaction_146 : decode cX12_tryFaction 146 = .ok (.iload_n 1, 1) := by decide +kernel
theorem dX12_tryFaction_147 : decode cX12_tryFaction 147 = .ok (.invokevirtual 401, 3) := by decide +kernel
theorem dX12_tryFaction_150 : decode cX12_tryFaction 150 = .ok (.iinc 6 1, 3) := by decide +kernel
theorem dX12_tryFaction_153 : decode cX12_tryFaction 153 = .ok (.goto (-60), 3) := by decide +kernel
theorem dX12_tryFaction_156 : decode cX12_tryFaction 156 = .ok (.return_, 1) := by decide +kernel
theorem dX12_faction_0 : decode cX12_faction 0 = .ok (.aload_n 0, 1) := by decide +kernel
theorem dX12_faction_1 : decode cX12_faction 1 = .ok (.getfield 260, 3) := by decide +kernel
theorem dX12_faction_4 : decode cX12_faction 4 = .ok (.ifCond .eq 37, 3) := by decide +kernel
theorem dX12_faction_7 : decode cX12_faction 7 = .ok (.iload_n 1, 1) := by decide +kernel
theorem dX12_faction_8 : decode cX12_faction 8 = .ok (.iconst 1, 1) := by decide +kernel
theorem dX12_faction_9 : decode cX12_faction 9 = .ok (.iconst 1, 1) := by decide +kernel
theorem dX12_faction_10 : decode cX12_faction 10 = .ok (.aload_n 0, 1) := by decide +kernel
theorem dX12_faction_11 : decode cX12_faction 11 = .ok (.getfield 260, 3) := by decide +kernel
theorem dX12_faction_14 : decode cX12_faction 14 = .ok (.ishl, 1) := by decide +kernel
theorem dX12_faction_15 : decode cX12_faction 15 = .ok (.iconst 1, 1) := by decide +kernel
theorem dX12_faction_16 : decode cX12_faction 16 = .ok (.isub, 1) := by decide +kernel
theorem dX12_faction_17 : decode cX12_faction 17 = .ok (.invokestatic 207, 3) := by decide +kernel
theorem dX12_faction_20 : decode cX12_faction 20 = .ok (.ifCond .eq 21, 3) := by decide +kernel
theorem dX12_faction_23 : decode cX12_faction 23 = .ok (.iload_n 1, 1) := by decide +kernel
theorem dX12_faction_24 : decode cX12_faction 24 = .ok (.aload_n 0, 1) := by decide +kernel
theorem dX12_faction_25 : decode cX12_faction 25 = .ok (.invokevirtual 309, 3) := by decide +kernel
theorem dX12_faction_28 : decode cX12_faction 28 = .ok (.iand, 1) := by decide +kernel
theorem dX12_faction_29 : decode cX12_faction 29 = .ok (.ifCond .ne 12, 3) := by decide +kernel
theorem dX12_faction_32 : decode cX12_faction 32 = .ok (.iload_n 2, 1) := by decide +kernel
theorem dX12_faction_33 : decode cX12_faction 33 = .ok (.iconst 0, 1) := by decide +kernel
theorem dX12_faction_34 : decode cX12_faction 34 = .ok (.iconst 1, 1) := by decide +kernel
theorem dX12_faction_35 : decode cX12_faction 35 = .ok (.invokestatic 207, 3) := by decide +kernel
theorem dX12_faction_38 : decode cX12_faction 38 = .ok (.ifCond .ne 5, 3) := by decide +kernel
theorem dX12_faction_41 : decode cX12_faction 41 = .ok (.iconst (-1), 1) := by decide +kernel
theorem dX12_faction_42 : decode cX12_faction 42 = .ok (.ireturn, 1) := by decide +kernel
theorem dX12_faction_43 : decode cX12_faction 43 = .ok (.aload_n 0, 1) := by decide +kernel
theorem dX12_faction_44 : decode cX12_faction 44 = .ok (.iconst (-1), 1) := by decide +kernel
theorem dX12_faction_45 : decode cX12_faction 45 = .ok (.putfield 404, 3) := by decide +kernel
theorem dX12_faction_48 : decode cX12_faction 48 = .ok (.aload_n 0, 1) := by decide +kernel
theorem dX12_faction_49 : decode cX12_faction 49 = .ok (.iconst 0, 1) := by decide +kernel
theorem dX12_faction_50 : decode cX12_faction 50 = .ok (.iconst 0, 1) := by decide +kernel
theorem dX12_faction_51 : decode cX12_faction 51 = .ok (.iload_n 1, 1) := by decide +kernel
theorem dX12_faction_52 : decode cX12_faction 52 = .ok (.iconst 0, 1) := by decide +kernel
theorem dX12_faction_53 : decode cX12_faction 53 = .ok (.iconst 0, 1) := by decide +kernel
theorem dX12_faction_54 : decode cX12_faction 54 = .ok (.invokevirtual 410, 3) := by decide +kernel
theorem dX12_faction_57 : decode cX12_faction 57 = .ok (.aload_n 0, 1) := by decide +kernel
theorem dX12_faction_58 : decode cX12_faction 58 = .ok (.getfield 404, 3) := by decide +kernel
theorem dX12_faction_61 : decode cX12_faction 61 = .ok (.iconst (-1), 1) := by decide +kernel
theorem dX12_faction_62 : decode cX12_faction 62 = .ok (.if_icmp .eq 7, 3) := by decide +kernel
theorem dX12_faction_65 : decode cX12_faction 65 = .ok (.iload_n 2, 1) := by decide +kernel
theorem dX12_faction_66 : decode cX12_faction 66 = .ok (.ifCond .ne 10, 3) := by decide +kernel
theorem dX12_faction_69 : decode cX12_faction 69 = .ok (.aload_n 0, 1) := by decide +kernel
theorem dX12_faction_70 : decode cX12_faction 70 = .ok (.getfield 404, 3) := by decide +kernel
theorem dX12_faction_73 : decode cX12_faction 73 = .ok (.goto 7, 3) := by decide +kernel
theorem dX12_faction_76 : decode cX12_faction 76 = .ok (.aload_n 0, 1) := by decide +kernel
theorem dX12_faction_77 : decode cX12_faction 77 = .ok (.getfield 407, 3) := by decide +kernel
theorem dX12_faction_80 : decode cX12_faction 80 = .ok (.ireturn, 1) := by decide +kernel
theorem dX12_silence_0 : decode cX12_silence 0 = .ok (.aload_n 0, 1) := by decide +kernel
theorem dX12_silence_1 : decode cX12_silence 1 = .ok (.getfield 260, 3) := by decide +kernel
theorem dX12_silence_4 : decode cX12_silence 4 = .ok (.ifCond .eq 19, 3) := by decide +kernel
theorem dX12_silence_7 : decode cX12_silence 7 = .ok (.iload_n 1, 1) := by decide +kernel
theorem dX12_silence_8 : decode cX12_silence 8 = .ok (.iconst 0, 1) := by decide +kernel
theorem dX12_silence_9 : decode cX12_silence 9 = .ok (.iconst 1, 1) := by decide +kernel
theorem dX12_silence_10 : decode cX12_silence 10 = .ok (.aload_n 0, 1) := by decide +kernel
theorem dX12_silence_11 : decode cX12_silence 11 = .ok (.getfield 260, 3) := by decide +kernel
theorem dX12_silence_14 : decode cX12_silence 14 = .ok (.ishl, 1) := by decide +kernel
theorem dX12_silence_15 : decode cX12_silence 15 = .ok (.iconst 1, 1) := by decide +kernel
theorem dX12_silence_16 : decode cX12_silence 16 = .ok (.isub, 1) := by decide +kernel
theorem dX12_silence_17 : decode cX12_silence 17 = .ok (.invokestatic 207, 3) := by decide +kernel
theorem dX12_silence_20 : decode cX12_silence 20 = .ok (.ifCond .ne 5, 3) := by decide +kernel
theorem dX12_silence_23 : decode cX12_silence 23 = .ok (.iconst (-1), 1) := by decide +kernel
theorem dX12_silence_24 : decode cX12_silence 24 = .ok (.ireturn, 1) := by decide +kernel
theorem dX12_silence_25 : decode cX12_silence 25 = .ok (.iload_n 1, 1) := by decide +kernel
theorem dX12_silence_26 : decode cX12_silence 26 = .ok (.aload_n 0, 1) := by decide +kernel
theorem dX12_silence_27 : decode cX12_silence 27 = .ok (.invokevirtual 309, 3) := by decide +kernel
theorem dX12_silence_30 : decode cX12_silence 30 = .ok (.ior, 1) := by decide +kernel
theorem dX12_silence_31 : decode cX12_silence 31 = .ok (.istore_n 2, 1) := by decide +kernel
theorem dX12_silence_32 : decode cX12_silence 32 = .ok (.iconst 0, 1) := by decide +kernel
theorem dX12_silence_33 : decode cX12_silence 33 = .ok (.istore_n 3, 1) := by decide +kernel
theorem dX12_silence_34 : decode cX12_silence 34 = .ok (.iload_n 3, 1) := by decide +kernel
theorem dX12_silence_35 : decode cX12_silence 35 = .ok (.aload_n 0, 1) := by decide +kernel
theorem dX12_silence_36 : decode cX12_silence 36 = .ok (.getfield 260, 3) := by decide +kernel
theorem dX12_silence_39 : decode cX12_silence 39 = .ok (.if_icmp .ge 52, 3) := by decide +kernel
theorem dX12_silence_42 : decode cX12_silence 42 = .ok (.iconst 0, 1) := by decide +kernel
theorem dX12_silence_43 : decode cX12_silence 43 = .ok (.istore 4, 2) := by decide +kernel
theorem dX12_silence_45 : decode cX12_silence 45 = .ok (.iload 4, 2) := by decide +kernel
theorem dX12_silence_47 : decode cX12_silence 47 = .ok (.aload_n 0, 1) := by decide +kernel
theorem dX12_silence_48 : decode cX12_silence 48 = .ok (.getfield 260, 3) := by decide +kernel
theorem dX12_silence_51 : decode cX12_silence 51 = .ok (.if_icmp .ge 34, 3) := by decide +kernel
theorem dX12_silence_54 : decode cX12_silence 54 = .ok (.iload_n 2, 1) := by decide +kernel
theorem dX12_silence_55 : decode cX12_silence 55 = .ok (.iload_n 2, 1) := by decide +kernel
theorem dX12_silence_56 : decode cX12_silence 56 = .ok (.aload_n 0, 1) := by decide +kernel
theorem dX12_silence_57 : decode cX12_silence 57 = .ok (.iload 4, 2) := by decide +kernel
theorem dX12_silence_59 : decode cX12_silence 59 = .ok (.iconst 1, 1) := by decide +kernel
theorem dX12_silence_60 : decode cX12_silence 60 = .ok (.invokevirtual 282, 3) := by decide +kernel
theorem dX12_silence_63 : decode cX12_silence 63 = .ok (.invokestatic 218, 3) := by decide +kernel
theorem dX12_silence_66 : decode cX12_silence 66 = .ok (.ifCond .eq 10, 3) := by decide +kernel
theorem dX12_silence_69 : decode cX12_silence 69 = .ok (.iconst 1, 1) := by decide +kernel
theorem dX12_silence_70 : decode cX12_silence 70 = .ok (.iload 4, 2) := by decide +kernel
theorem dX12_silence_72 : decode cX12_silence 72 = .ok (.ishl, 1) := by decide +kernel
theorem dX12_silence_73 : decode cX12_silence 73 = .ok (.goto 4, 3) := by decide +kernel
theorem dX12_silence_76 : decode cX12_silence 76 = .ok (.iconst 0, 1) := by decide +kernel
theorem dX12_silence_77 : decode cX12_silence 77 = .ok (.ior, 1) := by decide +kernel
theorem dX12_silence_78 : decode cX12_silence 78 = .ok (.istore_n 2, 1) := by decide +kernel
theorem dX12_silence_79 : decode cX12_silence 79 = .ok (.iinc 4 1, 3) := by decide +kernel
theorem dX12_silence_82 : decode cX12_silence 82 = .ok (.goto (-37), 3) := by decide +kernel
theorem dX12_silence_85 : decode cX12_silence 85 = .ok (.iinc 3 1, 3) := by decide +kernel
theorem dX12_silence_88 : decode cX12_silence 88 = .ok (.goto (-54), 3) := by decide +kernel
theorem dX12_silence_91 : decode cX12_silence 91 = .ok (.iload_n 2, 1) := by decide +kernel
theorem dX12_silence_92 : decode cX12_silence 92 = .ok (.ireturn, 1) := by decide +kernel
theorem dX12_net_0 : decode cX12_net 0 = .ok (.aload_n 0, 1) := by decide +kernel
theorem dX12_net_1 : decode cX12_net 1 = .ok (.invokevirtual 309, 3) := by decide +kernel
theorem dX12_net_4 : decode cX12_net 4 = .ok (.istore_n 1, 1) := by decide +kernel
theorem dX12_net_5 : decode cX12_net 5 = .ok (.iconst 0, 1) := by decide +kernel
theorem dX12_net_6 : decode cX12_net 6 = .ok (.istore_n 2, 1) := by decide +kernel
theorem dX12_net_7 : decode cX12_net 7 = .ok (.iconst 0, 1) := by decide +kernel
theorem dX12_net_8 : decode cX12_net 8 = .ok (.istore_n 3, 1) := by decide +kernel
theorem dX12_net_9 : decode cX12_net 9 = .ok (.iload_n 3, 1) := by decide +kernel
theorem dX12_net_10 : decode cX12_net 10 = .ok (.aload_n 0, 1) := by decide +kernel
theorem dX12_net_11 : decode cX12_net 11 = .ok (.getfield 260, 3) := by decide +kernel
theorem dX12_net_14 : decode cX12_net 14 = .ok (.if_icmp .ge 38, 3) := by decide +kernel
theorem dX12_net_17 : decode cX12_net 17 = .ok (.iload_n 2, 1) := by decide +kernel
theorem dX12_net_18 : decode cX12_net 18 = .ok (.iload_n 1, 1) := by decide +kernel
theorem dX12_net_19 : decode cX12_net 19 = .ok (.iload_n 3, 1) := by decide +kernel
theorem dX12_net_20 : decode cX12_net 20 = .ok (.invokestatic 218, 3) := by decide +kernel
theorem dX12_net_23 : decode cX12_net 23 = .ok (.ifCond .ne 20, 3) := by decide +kernel
theorem dX12_net_26 : decode cX12_net 26 = .ok (.iload_n 1, 1) := by decide +kernel
theorem dX12_net_27 : decode cX12_net 27 = .ok (.aload_n 0, 1) := by decide +kernel
theorem dX12_net_28 : decode cX12_net 28 = .ok (.iload_n 3, 1) := by decide +kernel
theorem dX12_net_29 : decode cX12_net 29 = .ok (.iconst 1, 1) := by decide +kernel
theorem dX12_net_30 : decode cX12_net 30 = .ok (.invokevirtual 282, 3) := by decide +kernel
theorem dX12_net_33 : decode cX12_net 33 = .ok (.invokestatic 218, 3) := by decide +kernel
theorem dX12_net_36 : decode cX12_net 36 = .ok (.ifCond .eq 7, 3) := by decide +kernel
theorem dX12_net_39 : decode cX12_net 39 = .ok (.iconst 1, 1) := by decide +kernel
theorem dX12_net_40 : decode cX12_net 40 = .ok (.goto 4, 3) := by decide +kernel
theorem dX12_net_43 : decode cX12_net 43 = .ok (.iconst 0, 1) := by decide +kernel
theorem dX12_net_44 : decode cX12_net 44 = .ok (.iadd, 1) := by decide +kernel
theorem dX12_net_45 : decode cX12_net 45 = .ok (.istore_n 2, 1) := by decide +kernel
theorem dX12_net_46 : decode cX12_net 46 = .ok (.iinc 3 1, 3) := by decide +kernel
theorem dX12_net_49 : decode cX12_net 49 = .ok (.goto (-40), 3) := by decide +kernel
theorem dX12_net_52 : decode cX12_net 52 = .ok (.iload_n 2, 1) := by decide +kernel
theorem dX12_net_53 : decode cX12_net 53 = .ok (.ireturn, 1) := by decide +kernel
theorem dX12_seen_0 : decode cX12_seen 0 = .ok (.aload_n 0, 1) := by decide +kernel
theorem dX12_seen_1 : decode cX12_seen 1 = .ok (.iload_n 1, 1) := by decide +kernel
theorem dX12_seen_2 : decode cX12_seen 2 = .ok (.invokevirtual 342, 3) := by decide +kernel
theorem dX12_seen_5 : decode cX12_seen 5 = .ok (.ifCond .eq 21, 3) := by decide +kernel
theorem dX12_seen_8 : decode cX12_seen 8 = .ok (.iload_n 2, 1) := by decide +kernel
theorem dX12_seen_9 : decode cX12_seen 9 = .ok (.iconst 0, 1) := by decide +kernel
theorem dX12_seen_10 : decode cX12_seen 10 = .ok (.iconst 2, 1) := by decide +kernel
theorem dX12_seen_11 : decode cX12_seen 11 = .ok (.invokestatic 207, 3) := by decide +kernel
theorem dX12_seen_14 : decode cX12_seen 14 = .ok (.ifCond .eq 12, 3) := by decide +kernel
theorem dX12_seen_17 : decode cX12_seen 17 = .ok (.aload_n 0, 1) := by decide +kernel
theorem dX12_seen_18 : decode cX12_seen 18 = .ok (.getfield 266, 3) := by decide +kernel
theorem dX12_seen_21 : decode cX12_seen 21 = .ok (.bipush 10, 2) := by decide +kernel
theorem dX12_seen_23 : decode cX12_seen 23 = .ok (.if_icmp .ne 5, 3) := by decide +kernel
theorem dX12_seen_26 : decode cX12_seen 26 = .ok (.iconst (-1), 1) := by decide +kernel
theorem dX12_seen_27 : decode cX12_seen 27 = .ok (.ireturn, 1) := by decide +kernel
theorem dX12_seen_28 : decode cX12_seen 28 = .ok (.aload_n 0, 1) := by decide +kernel
theorem dX12_seen_29 : decode cX12_seen 29 = .ok (.getfield 83, 3) := by decide +kernel
theorem dX12_seen_32 : decode cX12_seen 32 = .ok (.aload_n 0, 1) := by decide +kernel
theorem dX12_seen_33 : decode cX12_seen 33 = .ok (.getfield 266, 3) := by decide +kernel
theorem dX12_seen_36 : decode cX12_seen 36 = .ok (.iload_n 1, 1) := by decide +kernel
theorem dX12_seen_37 : decode cX12_seen 37 = .ok (.iastore, 1) := by decide +kernel
theorem dX12_seen_38 : decode cX12_seen 38 = .ok (.aload_n 0, 1) := by decide +kernel
theorem dX12_seen_39 : decode cX12_seen 39 = .ok (.getfield 86, 3) := by decide +kernel
theorem dX12_seen_42 : decode cX12_seen 42 = .ok (.aload_n 0, 1) := by decide +kernel
theorem dX12_seen_43 : decode cX12_seen 43 = .ok (.getfield 266, 3) := by decide +kernel
theorem dX12_seen_46 : decode cX12_seen 46 = .ok (.iload_n 2, 1) := by decide +kernel
theorem dX12_seen_47 : decode cX12_seen 47 = .ok (.iastore, 1) := by decide +kernel
theorem dX12_seen_48 : decode cX12_seen 48 = .ok (.aload_n 0, 1) := by decide +kernel
theorem dX12_seen_49 : decode cX12_seen 49 = .ok (.dup, 1) := by decide +kernel
theorem dX12_seen_50 : decode cX12_seen 50 = .ok (.getfield 266, 3) := by decide +kernel
theorem dX12_seen_53 : decode cX12_seen 53 = .ok (.iconst 1, 1) := by decide +kernel
theorem dX12_seen_54 : decode cX12_seen 54 = .ok (.iadd, 1) := by decide +kernel
theorem dX12_seen_55 : decode cX12_seen 55 = .ok (.putfield 266, 3) := by decide +kernel
theorem dX12_seen_58 : decode cX12_seen 58 = .ok (.aload_n 0, 1) := by decide +kernel
theorem dX12_seen_59 : decode cX12_seen 59 = .ok (.getfield 266, 3) := by decide +kernel
theorem dX12_seen_62 : decode cX12_seen 62 = .ok (.ireturn, 1) := by decide +kernel
theorem dX12_areGone_0 : decode cX12_areGone 0 = .ok (.iload_n 1, 1) := by decide +kernel
theorem dX12_areGone_1 : decode cX12_areGone 1 = .ok (.invokestatic 312, 3) := by decide +kernel
theorem dX12_areGone_4 : decode cX12_areGone 4 = .ok (.iload_n 2, 1) := by decide +kernel
theorem dX12_areGone_5 : decode cX12_areGone 5 = .ok (.if_icmp .ne 7, 3) := by decide +kernel
theorem dX12_areGone_8 : decode cX12_areGone 8 = .ok (.iconst 1, 1) := by decide +kernel
theorem dX12_areGone_9 : decode cX12_areGone 9 = .ok (.goto 4, 3) := by decide +kernel
theorem dX12_areGone_12 : decode cX12_areGone 12 = .ok (.iconst 0, 1) := by decide +kernel
theorem dX12_areGone_13 : decode cX12_areGone 13 = .ok (.istore_n 3, 1) := by decide +kernel
theorem dX12_areGone_14 : decode cX12_areGone 14 = .ok (.iconst 0, 1) := by decide +kernel
theorem dX12_areGone_15 : decode cX12_areGone 15 = .ok (.istore 4, 2) := by decide +kernel
theorem dX12_areGone_17 : decode cX12_areGone 17 = .ok (.iload 4, 2) := by decide +kernel
theorem dX12_areGone_19 : decode cX12_areGone 19 = .ok (.aload_n 0, 1) := by decide +kernel
theorem dX12_areGone_20 : decode cX12_areGone 20 = .ok (.getfield 266, 3) := by decide +kernel
theorem dX12_areGone_23 : decode cX12_areGone 23 = .ok (.if_icmp .ge 41, 3) := by decide +kernel
theorem dX12_areGone_26 : decode cX12_areGone 26 = .ok (.iload_n 3, 1) := by decide +kernel
theorem dX12_areGone_27 : decode cX12_areGone 27 = .ok (.ifCond .eq 37, 3) := by decide +kernel
theorem dX12_areGone_30 : decode cX12_areGone 30 = .ok (.aload_n 0, 1) := by decide +kernel
theorem dX12_areGone_31 : decode cX12_areGone 31 = .ok (.aload_n 0, 1) := by decide +kernel
theorem dX12_areGone_32 : decode cX12_areGone 32 = .ok (.getfield 83, 3) := by decide +kernel
theorem dX12_areGone_35 : decode cX12_areGone 35 = .ok (.iload 4, 2) := by decide +kernel
theorem dX12_areGone_37 : decode cX12_areGone 37 = .ok (.iaload, 1) := by decide +kernel
theorem dX12_areGone_38 : decode cX12_areGone 38 = .ok (.iload_n 1, 1) := by decide +kernel
theorem dX12_areGone_39 : decode cX12_areGone 39 = .ok (.invokevirtual 345, 3) := by decide +kernel
theorem dX12_areGone_42 : decode cX12_areGone 42 = .ok (.aload_n 0, 1) := by decide +kernel
theorem dX12_areGone_43 : decode cX12_areGone 43 = .ok (.getfield 86, 3) := by decide +kernel
theorem dX12_areGone_46 : decode cX12_areGone 46 = .ok (.iload 4, 2) := by decide +kernel
theorem dX12_areGone_48 : decode cX12_areGone 48 = .ok (.iaload, 1) := by decide +kernel
theorem dX12_areGone_49 : decode cX12_areGone 49 = .ok (.if_icmp .ne 7, 3) := by decide +kernel
theorem dX12_areGone_52 : decode cX12_areGone 52 = .ok (.iconst 1, 1) := by decide +kernel
theorem dX12_areGone_53 : decode cX12_areGone 53 = .ok (.goto 4, 3) := by decide +kernel
theorem dX12_areGone_56 : decode cX12_areGone 56 = .ok (.iconst 0, 1) := by decide +kernel
theorem dX12_areGone_57 : decode cX12_areGone 57 = .ok (.istore_n 3, 1) := by decide +kernel
theorem dX12_areGone_58 : decode cX12_areGone 58 = .ok (.iinc 4 1, 3) := by decide +kernel
theorem dX12_areGone_61 : decode cX12_areGone 61 = .ok (.goto (-44), 3) := by decide +kernel
theorem dX12_areGone_64 : decode cX12_areGone 64 = .ok (.iload_n 3, 1) := by decide +kernel
theorem dX12_areGone_65 : decode cX12_areGone 65 = .ok (.ireturn, 1) := by decide +kernel
theorem dX12_isAsked_0 : decode cX12_isAsked 0 = .ok (.aload_n 0, 1) := by decide +kernel
theorem dX12_isAsked_1 : decode cX12_isAsked 1 = .ok (.getfield 260, 3) := by decide +kernel
theorem dX12_isAsked_4 : decode cX12_isAsked 4 = .ok (.ifCond .le 17, 3) := by decide +kernel
theorem dX12_isAsked_7 : decode cX12_isAsked 7 = .ok (.iload_n 1, 1) := by decide +kernel
theorem dX12_isAsked_8 : decode cX12_isAsked 8 = .ok (.iconst 0, 1) := by decide +kernel
theorem dX12_isAsked_9 : decode cX12_isAsked 9 = .ok (.bipush 7, 2) := by decide +kernel
theorem dX12_isAsked_11 : decode cX12_isAsked 11 = .ok (.invokestatic 207, 3) := by decide +kernel
theorem dX12_isAsked_14 : decode cX12_isAsked 14 = .ok (.ifCond .eq 7, 3) := by decide +kernel
theorem dX12_isAsked_17 : decode cX12_isAsked 17 = .ok (.iconst 1, 1) := by decide +kernel
theorem dX12_isAsked_18 : decode cX12_isAsked 18 = .ok (.goto 4, 3) := by decide +kernel
theorem dX12_isAsked_21 : decode cX12_isAsked 21 = .ok (.iconst 0, 1) := by decide +kernel
theorem dX12_isAsked_22 : decode cX12_isAsked 22 = .ok (.ireturn, 1) := by decide +kernel
theorem dX12_gone_0 : decode cX12_gone 0 = .ok (.aload_n 0, 1) := by decide +kernel
theorem dX12_gone_1 : decode cX12_gone 1 = .ok (.iload_n 1, 1) := by decide +kernel
theorem dX12_gone_2 : decode cX12_gone 2 = .ok (.invokevirtual 414, 3) := by decide +kernel
theorem dX12_gone_5 : decode cX12_gone 5 = .ok (.ifCond .eq 8, 3) := by decide +kernel
theorem dX12_gone_8 : decode cX12_gone 8 = .ok (.iload_n 2, 1) := by decide +kernel
theorem dX12_gone_9 : decode cX12_gone 9 = .ok (.iconst (-1), 1) := by decide +kernel
theorem dX12_gone_10 : decode cX12_gone 10 = .ok (.if_icmp .ge 5, 3) := by decide +kernel
theorem dX12_gone_13 : decode cX12_gone 13 = .ok (.iconst (-1), 1) := by decide +kernel
theorem dX12_gone_14 : decode cX12_gone 14 = .ok (.ireturn, 1) := by decide +kernel
theorem dX12_gone_15 : decode cX12_gone 15 = .ok (.iconst 0, 1) := by decide +kernel
theorem dX12_gone_16 : decode cX12_gone 16 = .ok (.istore_n 3, 1) := by decide +kernel
theorem dX12_gone_17 : decode cX12_gone 17 = .ok (.iconst 0, 1) := by decide +kernel
theorem dX12_gone_18 : decode cX12_gone 18 = .ok (.istore 4, 2) := by decide +kernel
theorem dX12_gone_20 : decode cX12_gone 20 = .ok (.iload 4, 2) := by decide +kernel
theorem dX12_gone_22 : decode cX12_gone 22 = .ok (.iconst 1, 1) := by decide +kernel
theorem dX12_gone_23 : decode cX12_gone 23 = .ok (.aload_n 0, 1) := by decide +kernel
theorem dX12_gone_24 : decode cX12_gone 24 = .ok (.getfield 260, 3) := by decide +kernel
theorem dX12_gone_27 : decode cX12_gone 27 = .ok (.ishl, 1) := by decide +kernel
theorem dX12_gone_28 : decode cX12_gone 28 = .ok (.if_icmp .ge 30, 3) := by decide +kernel
theorem dX12_gone_31 : decode cX12_gone 31 = .ok (.aload_n 0, 1) := by decide +kernel
theorem dX12_gone_32 : decode cX12_gone 32 = .ok (.iload 4, 2) := by decide +kernel
theorem dX12_gone_34 : decode cX12_gone 34 = .ok (.iload_n 1, 1) := by decide +kernel
theorem dX12_gone_35 : decode cX12_gone 35 = .ok (.invokevirtual 417, 3) := by decide +kernel
theorem dX12_gone_38 : decode cX12_gone 38 = .ok (.ifCond .eq 14, 3) := by decide +kernel
theorem dX12_gone_41 : decode cX12_gone 41 = .ok (.iload_n 3, 1) := by decide +kernel
theorem dX12_gone_42 : decode cX12_gone 42 = .ok (.iload_n 2, 1) := by decide +kernel
theorem dX12_gone_43 : decode cX12_gone 43 = .ok (.if_icmp .ne 6, 3) := by decide +kernel
theorem dX12_gone_46 : decode cX12_gone 46 = .ok (.iload 4, 2) := by decide +kernel
theorem dX12_gone_48 : decode cX12_gone 48 = .ok (.ireturn, 1) := by decide +kernel
theorem dX12_gone_49 : decode cX12_gone 49 = .ok (.iinc 3 1, 3) := by decide +kernel
theorem dX12_gone_52 : decode cX12_gone 52 = .ok (.iinc 4 1, 3) := by decide +kernel
theorem dX12_gone_55 : decode cX12_gone 55 = .ok (.goto (-35), 3) := by decide +kernel
theorem dX12_gone_58 : decode cX12_gone 58 = .ok (.iload_n 2, 1) := by decide +kernel
theorem dX12_gone_59 : decode cX12_gone 59 = .ok (.iconst (-1), 1) := by decide +kernel
theorem dX12_gone_60 : decode cX12_gone 60 = .ok (.if_icmp .ne 7, 3) := by decide +kernel
theorem dX12_gone_63 : decode cX12_gone 63 = .ok (.iload_n 3, 1) := by decide +kernel
theorem dX12_gone_64 : decode cX12_gone 64 = .ok (.goto 4, 3) := by decide +kernel
theorem dX12_gone_67 : decode cX12_gone 67 = .ok (.iconst (-1), 1) := by decide +kernel
theorem dX12_gone_68 : decode cX12_gone 68 = .ok (.ireturn, 1) := by decide +kernel
theorem dX12_sure_0 : decode cX12_sure 0 = .ok (.aload_n 0, 1) := by decide +kernel
theorem dX12_sure_1 : decode cX12_sure 1 = .ok (.iload_n 1, 1) := by decide +kernel
theorem dX12_sure_2 : decode cX12_sure 2 = .ok (.invokevirtual 414, 3) := by decide +kernel
theorem dX12_sure_5 : decode cX12_sure 5 = .ok (.ifCond .ne 5, 3) := by decide +kernel
theorem dX12_sure_8 : decode cX12_sure 8 = .ok (.iconst (-1), 1) := by decide +kernel
theorem dX12_sure_9 : decode cX12_sure 9 = .ok (.ireturn, 1) := by decide +kernel
theorem dX12_sure_10 : decode cX12_sure 10 = .ok (.iconst (-1), 1) := by decide +kernel
theorem dX12_sure_11 : decode cX12_sure 11 = .ok (.istore_n 2, 1) := by decide +kernel
theorem dX12_sure_12 : decode cX12_sure 12 = .ok (.iconst 0, 1) := by decide +kernel
theorem dX12_sure_13 : decode cX12_sure 13 = .ok (.istore_n 3, 1) := by decide +kernel
theorem dX12_sure_14 : decode cX12_sure 14 = .ok (.iload_n 3, 1) := by decide +kernel
theorem dX12_sure_15 : decode cX12_sure 15 = .ok (.iconst 1, 1) := by decide +kernel
theorem dX12_sure_16 : decode cX12_sure 16 = .ok (.aload_n 0, 1) := by decide +kernel
theorem dX12_sure_17 : decode cX12_sure 17 = .ok (.getfield 260, 3) := by decide +kernel
theorem dX12_sure_20 : decode cX12_sure 20 = .ok (.ishl, 1) := by decide +kernel
theorem dX12_sure_21 : decode cX12_sure 21 = .ok (.if_icmp .ge 26, 3) := by decide +kernel
theorem dX12_sure_24 : decode cX12_sure 24 = .ok (.iload_n 2, 1) := by decide +kernel
theorem dX12_sure_25 : decode cX12_sure 25 = .ok (.aload_n 0, 1) := by decide +kernel
theorem dX12_sure_26 : decode cX12_sure 26 = .ok (.iload_n 3, 1) := by decide +kernel
theorem dX12_sure_27 : decode cX12_sure 27 = .ok (.iload_n 1, 1) := by decide +kernel
theorem dX12_sure_28 : decode cX12_sure 28 = .ok (.invokevirtual 417, 3) := by decide +kernel
theorem dX12_sure_31 : decode cX12_sure 31 = .ok (.ifCond .eq 7, 3) := by decide +kernel
theorem dX12_sure_34 : decode cX12_sure 34 = .ok (.iload_n 3, 1) := by decide +kernel
theorem dX12_sure_35 : decode cX12_sure 35 = .ok (.goto 4, 3) := by decide +kernel
theorem dX12_sure_38 : decode cX12_sure 38 = .ok (.iconst (-1), 1) := by decide +kernel
theorem dX12_sure_39 : decode cX12_sure 39 = .ok (.iand, 1) := by decide +kernel
theorem dX12_sure_40 : decode cX12_sure 40 = .ok (.istore_n 2, 1) := by decide +kernel
theorem dX12_sure_41 : decode cX12_sure 41 = .ok (.iinc 3 1, 3) := by decide +kernel
theorem dX12_sure_44 : decode cX12_sure 44 = .ok (.goto (-30), 3) := by decide +kernel
theorem dX12_sure_47 : decode cX12_sure 47 = .ok (.iload_n 2, 1) := by decide +kernel
theorem dX12_sure_48 : decode cX12_sure 48 = .ok (.ireturn, 1) := by decide +kernel
theorem dX12_mostOfSort_0 : decode cX12_mostOfSort 0 = .ok (.iconst 0, 1) := by decide +kernel
theorem dX12_mostOfSort_1 : decode cX12_mostOfSort 1 = .ok (.istore_n 3, 1) := by decide +kernel
theorem dX12_mostOfSort_2 : decode cX12_mostOfSort 2 = .ok (.iconst 0, 1) := by decide +kernel
theorem dX12_mostOfSort_3 : decode cX12_mostOfSort 3 = .ok (.istore 4, 2) := by decide +kernel
theorem dX12_mostOfSort_5 : decode cX12_mostOfSort 5 = .ok (.iload 4, 2) := by decide +kernel
theorem dX12_mostOfSort_7 : decode cX12_mostOfSort 7 = .ok (.iconst 3, 1) := by decide +kernel
theorem dX12_mostOfSort_8 : decode cX12_mostOfSort 8 = .ok (.if_icmp .ge 71, 3) := by decide +kernel
theorem dX12_mostOfSort_11 : decode cX12_mostOfSort 11 = .ok (.iconst 0, 1) := by decide +kernel
theorem dX12_mostOfSort_12 : decode cX12_mostOfSort 12 = .ok (.istore 5, 2) := by decide +kernel
theorem dX12_mostOfSort_14 : decode cX12_mostOfSort 14 = .ok (.iconst 0, 1) := by decide +kernel
theorem dX12_mostOfSort_15 : decode cX12_mostOfSort 15 = .ok (.istore 6, 2) := by decide +kernel
theorem dX12_mostOfSort_17 : decode cX12_mostOfSort 17 = .ok (.iload 6, 2) := by decide +kernel
theorem dX12_mostOfSort_19 : decode cX12_mostOfSort 19 = .ok (.iconst 1, 1) := by decide +kernel
theorem dX12_mostOfSort_20 : decode cX12_mostOfSort 20 = .ok (.aload_n 0, 1) := by decide +kernel
theorem dX12_mostOfSort_21 : decode cX12_mostOfSort 21 = .ok (.getfield 260, 3) := by decide +kernel
theorem dX12_mostOfSort_24 : decode cX12_mostOfSort 24 = .ok (.ishl, 1) := by decide +kernel
theorem dX12_mostOfSort_25 : decode cX12_mostOfSort 25 = .ok (.if_icmp .ge 41, 3) := by decide +kernel
theorem dX12_mostOfSort_28 : decode cX12_mostOfSort 28 = .ok (.iload 5, 2) := by decide +kernel
theorem dX12_mostOfSort_30 : decode cX12_mostOfSort 30 = .ok (.aload_n 0, 1) := by decide +kernel
theorem dX12_mostOfSort_31 : decode cX12_mostOfSort 31 = .ok (.iload 6, 2) := by decide +kernel
theorem dX12_mostOfSort_33 : decode cX12_mostOfSort 33 = .ok (.iload_n 2, 1) := by decide +kernel
theorem dX12_mostOfSort_34 : decode cX12_mostOfSort 34 = .ok (.invokevirtual 417, 3) := by decide +kernel
theorem dX12_mostOfSort_37 : decode cX12_mostOfSort 37 = .ok (.ifCond .eq 19, 3) := by decide +kernel
theorem dX12_mostOfSort_40 : decode cX12_mostOfSort 40 = .ok (.aload_n 0, 1) := by decide +kernel
theorem dX12_mostOfSort_41 : decode cX12_mostOfSort 41 = .ok (.iload_n 1, 1) := by decide +kernel
theorem dX12_mostOfSort_42 : decode cX12_mostOfSort 42 = .ok (.iload 6, 2) := by decide +kernel
theorem dX12_mostOfSort_44 : decode cX12_mostOfSort 44 = .ok (.invokevirtual 345, 3) := by decide +kernel
theorem dX12_mostOfSort_47 : decode cX12_mostOfSort 47 = .ok (.iload 4, 2) := by decide +kernel
theorem dX12_mostOfSort_49 : decode cX12_mostOfSort 49 = .ok (.if_icmp .ne 7, 3) := by decide +kernel
theorem dX12_mostOfSort_52 : decode cX12_mostOfSort 52 = .ok (.iconst 1, 1) := by decide +kernel
theorem dX12_mostOfSort_53 : decode cX12_mostOfSort 53 = .ok (.goto 4, 3) := by decide +kernel
theorem dX12_mostOfSort_56 : decode cX12_mostOfSort 56 = .ok (.iconst 0, 1) := by decide +kernel
theorem dX12_mostOfSort_57 : decode cX12_mostOfSort 57 = .ok (.iadd, 1) := by decide +kernel
theorem dX12_mostOfSort_58 : decode cX12_mostOfSort 58 = .ok (.istore 5, 2) := by decide +kernel
theorem dX12_mostOfSort_60 : decode cX12_mostOfSort 60 = .ok (.iinc 6 1, 3) := by decide +kernel
theorem dX12_mostOfSort_63 : decode cX12_mostOfSort 63 = .ok (.goto (-46), 3) := by decide +kernel
theorem dX12_mostOfSort_66 : decode cX12_mostOfSort 66 = .ok (.iload_n 3, 1) := by decide +kernel
theorem dX12_mostOfSort_67 : decode cX12_mostOfSort 67 = .ok (.iload 5, 2) := by decide +kernel
theorem dX12_mostOfSort_69 : decode cX12_mostOfSort 69 = .ok (.invokestatic 328, 3) := by decide +kernel
theorem dX12_mostOfSort_72 : decode cX12_mostOfSort 72 = .ok (.istore_n 3, 1) := by decide +kernel
theorem dX12_mostOfSort_73 : decode cX12_mostOfSort 73 = .ok (.iinc 4 1, 3) := by decide +kernel
theorem dX12_mostOfSort_76 : decode cX12_mostOfSort 76 = .ok (.goto (-71), 3) := by decide +kernel
theorem dX12_mostOfSort_79 : decode cX12_mostOfSort 79 = .ok (.iload_n 3, 1) := by decide +kernel
theorem dX12_mostOfSort_80 : decode cX12_mostOfSort 80 = .ok (.ireturn, 1) := by decide +kernel
theorem dX12_ask_0 : decode cX12_ask 0 = .ok (.aload_n 0, 1) := by decide +kernel
theorem dX12_ask_1 : decode cX12_ask 1 = .ok (.iload_n 1, 1) := by decide +kernel
theorem dX12_ask_2 : decode cX12_ask 2 = .ok (.invokevirtual 414, 3) := by decide +kernel
theorem dX12_ask_5 : decode cX12_ask 5 = .ok (.ifCond .eq 13, 3) := by decide +kernel
theorem dX12_ask_8 : decode cX12_ask 8 = .ok (.aload_n 0, 1) := by decide +kernel
theorem dX12_ask_9 : decode cX12_ask 9 = .ok (.iload_n 1, 1) := by decide +kernel
theorem dX12_ask_10 : decode cX12_ask 10 = .ok (.iconst 0, 1) := by decide +kernel
theorem dX12_ask_11 : decode cX12_ask 11 = .ok (.invokevirtual 420, 3) := by decide +kernel
theorem dX12_ask_14 : decode cX12_ask 14 = .ok (.iconst (-1), 1) := by decide +kernel
theorem dX12_ask_15 : decode cX12_ask 15 = .ok (.if_icmp .ne 5, 3) := by decide +kernel
theorem dX12_ask_18 : decode cX12_ask 18 = .ok (.iconst (-1), 1) := by decide +kernel
theorem dX12_ask_19 : decode cX12_ask 19 = .ok (.ireturn, 1) := by decide +kernel
theorem dX12_ask_20 : decode cX12_ask 20 = .ok (.iconst (-1), 1) := by decide +kernel
theorem dX12_ask_21 : decode cX12_ask 21 = .ok (.istore_n 2, 1) := by decide +kernel
theorem dX12_ask_22 : decode cX12_ask 22 = .ok (.iconst 0, 1) := by decide +kernel
theorem dX12_ask_23 : decode cX12_ask 23 = .ok (.istore_n 3, 1) := by decide +kernel
theorem dX12_ask_24 : decode cX12_ask 24 = .ok (.iconst 0, 1) := by decide +kernel
theorem dX12_ask_25 : decode cX12_ask 25 = .ok (.istore 4, 2) := by decide +kernel
theorem dX12_ask_27 : decode cX12_ask 27 = .ok (.iload 4, 2) := by decide +kernel
theorem dX12_ask_29 : decode cX12_ask 29 = .ok (.aload_n 0, 1) := by decide +kernel
theorem dX12_ask_30 : decode cX12_ask 30 = .ok (.getfield 263, 3) := by decide +kernel
theorem dX12_ask_33 : decode cX12_ask 33 = .ok (.if_icmp .ge 35, 3) := by decide +kernel
theorem dX12_ask_36 : decode cX12_ask 36 = .ok (.aload_n 0, 1) := by decide +kernel
theorem dX12_ask_37 : decode cX12_ask 37 = .ok (.iload 4, 2) := by decide +kernel
theorem dX12_ask_39 : decode cX12_ask 39 = .ok (.iload_n 1, 1) := by decide +kernel
theorem dX12_ask_40 : decode cX12_ask 40 = .ok (.invokevirtual 423, 3) := by decide +kernel
theorem dX12_ask_43 : decode cX12_ask 43 = .ok (.istore 5, 2) := by decide +kernel
theorem dX12_ask_45 : decode cX12_ask 45 = .ok (.iload_n 2, 1) := by decide +kernel
theorem dX12_ask_46 : decode cX12_ask 46 = .ok (.iconst (-1), 1) := by decide +kernel
theorem dX12_ask_47 : decode cX12_ask 47 = .ok (.if_icmp .eq 9, 3) := by decide +kernel
theorem dX12_ask_50 : decode cX12_ask 50 = .ok (.iload 5, 2) := by decide +kernel
theorem dX12_ask_52 : decode cX12_ask 52 = .ok (.iload_n 3, 1) := by decide +kernel
theorem dX12_ask_53 : decode cX12_ask 53 = .ok (.if_icmp .ge 9, 3) := by decide +kernel
theorem dX12_ask_56 : decode cX12_ask 56 = .ok (.iload 4, 2) := by decide +kernel
theorem dX12_ask_58 : decode cX12_ask 58 = .ok (.istore_n 2, 1) := by decide +kernel
theorem dX12_ask_59 : decode cX12_ask 59 = .ok (.iload 5, 2) := by decide +kernel
theorem dX12_ask_61 : decode cX12_ask 61 = .ok (.istore_n 3, 1) := by decide +kernel
theorem dX12_ask_62 : decode cX12_ask 62 = .ok (.iinc 4 1, 3) := by decide +kernel
theorem dX12_ask_65 : decode cX12_ask 65 = .ok (.goto (-38), 3) := by decide +kernel
theorem dX12_ask_68 : decode cX12_ask 68 = .ok (.iload_n 2, 1) := by decide +kernel
theorem dX12_ask_69 : decode cX12_ask 69 = .ok (.ireturn, 1) := by decide +kernel
theorem dX12_gameOf_0 : decode cX12_gameOf 0 = .ok (.aload_n 0, 1) := by decide +kernel
theorem dX12_gameOf_1 : decode cX12_gameOf 1 = .ok (.iload_n 2, 1) := by decide +kernel
theorem dX12_gameOf_2 : decode cX12_gameOf 2 = .ok (.iload_n 3, 1) := by decide +kernel
theorem dX12_gameOf_3 : decode cX12_gameOf 3 = .ok (.iload 4, 2) := by decide +kernel
theorem dX12_gameOf_5 : decode cX12_gameOf 5 = .ok (.invokestatic 328, 3) := by decide +kernel
theorem dX12_gameOf_8 : decode cX12_gameOf 8 = .ok (.invokevirtual 360, 3) := by decide +kernel
theorem dX12_gameOf_11 : decode cX12_gameOf 11 = .ok (.istore 5, 2) := by decide +kernel
theorem dX12_gameOf_13 : decode cX12_gameOf 13 = .ok (.iload 5, 2) := by decide +kernel
theorem dX12_gameOf_15 : decode cX12_gameOf 15 = .ok (.iconst (-1), 1) := by decide +kernel
theorem dX12_gameOf_16 : decode cX12_gameOf 16 = .ok (.if_icmp .eq 23, 3) := by decide +kernel
theorem dX12_gameOf_19 : decode cX12_gameOf 19 = .ok (.aload_n 0, 1) := by decide +kernel
theorem dX12_gameOf_20 : decode cX12_gameOf 20 = .ok (.iload_n 2, 1) := by decide +kernel
theorem dX12_gameOf_21 : decode cX12_gameOf 21 = .ok (.iload 5, 2) := by decide +kernel
theorem dX12_gameOf_23 : decode cX12_gameOf 23 = .ok (.invokevirtual 285, 3) := by decide +kernel
theorem dX12_gameOf_26 : decode cX12_gameOf 26 = .ok (.aload_n 0, 1) := by decide +kernel
theorem dX12_gameOf_27 : decode cX12_gameOf 27 = .ok (.iload_n 1, 1) := by decide +kernel
theorem dX12_gameOf_28 : decode cX12_gameOf 28 = .ok (.iconst 1, 1) := by decide +kernel
theorem dX12_gameOf_29 : decode cX12_gameOf 29 = .ok (.invokevirtual 282, 3) := by decide +kernel
theorem dX12_gameOf_32 : decode cX12_gameOf 32 = .ok (.if_icmp .ne 7, 3) := by decide +kernel
theorem dX12_gameOf_35 : decode cX12_gameOf 35 = .ok (.iconst 1, 1) := by decide +kernel
theorem dX12_gameOf_36 : decode cX12_gameOf 36 = .ok (.goto 4, 3) := by decide +kernel
theorem dX12_gameOf_39 : decode cX12_gameOf 39 = .ok (.iconst 0, 1) := by decide +kernel
theorem dX12_gameOf_40 : decode cX12_gameOf 40 = .ok (.istore 6, 2) := by decide +kernel
theorem dX12_gameOf_42 : decode cX12_gameOf 42 = .ok (.iload 6, 2) := by decide +kernel
theorem dX12_gameOf_44 : decode cX12_gameOf 44 = .ok (.ifCond .eq 7, 3) := by decide +kernel
theorem dX12_gameOf_47 : decode cX12_gameOf 47 = .ok (.iconst 5, 1) := by decide +kernel
theorem dX12_gameOf_48 : decode cX12_gameOf 48 = .ok (.goto 4, 3) := by decide +kernel
theorem dX12_gameOf_51 : decode cX12_gameOf 51 = .ok (.iconst 0, 1) := by decide +kernel
theorem dX12_gameOf_52 : decode cX12_gameOf 52 = .ok (.iload_n 3, 1) := by decide +kernel
theorem dX12_gameOf_53 : decode cX12_gameOf 53 = .ok (.isub, 1) := by decide +kernel
theorem dX12_gameOf_54 : decode cX12_gameOf 54 = .ok (.ireturn, 1) := by decide +kernel
theorem dX12_areTwo_0 : decode cX12_areTwo 0 = .ok (.aload_n 0, 1) := by decide +kernel
theorem dX12_areTwo_1 : decode cX12_areTwo 1 = .ok (.iload_n 1, 1) := by decide +kernel
theorem dX12_areTwo_2 : decode cX12_areTwo 2 = .ok (.invokevirtual 333, 3) := by decide +kernel
theorem dX12_areTwo_5 : decode cX12_areTwo 5 = .ok (.ifCond .eq 28, 3) := by decide +kernel
theorem dX12_areTwo_8 : decode cX12_areTwo 8 = .ok (.aload_n 0, 1) := by decide +kernel
theorem dX12_areTwo_9 : decode cX12_areTwo 9 = .ok (.iload_n 2, 1) := by decide +kernel
theorem dX12_areTwo_10 : decode cX12_areTwo 10 = .ok (.invokevirtual 333, 3) := by decide +kernel
theorem dX12_areTwo_13 : decode cX12_areTwo 13 = .ok (.ifCond .eq 20, 3) := by decide +kernel
theorem dX12_areTwo_16 : decode cX12_areTwo 16 = .ok (.iload_n 1, 1) := by decide +kernel
theorem dX12_areTwo_17 : decode cX12_areTwo 17 = .ok (.iload_n 2, 1) := by decide +kernel
theorem dX12_areTwo_18 : decode cX12_areTwo 18 = .ok (.if_icmp .eq 15, 3) := by decide +kernel
theorem dX12_areTwo_21 : decode cX12_areTwo 21 = .ok (.aload_n 0, 1) := by decide +kernel
theorem dX12_areTwo_22 : decode cX12_areTwo 22 = .ok (.iload_n 3, 1) := by decide +kernel
theorem dX12_areTwo_23 : decode cX12_areTwo 23 = .ok (.invokevirtual 336, 3) := by decide +kernel
theorem dX12_areTwo_26 : decode cX12_areTwo 26 = .ok (.ifCond .eq 7, 3) := by decide +kernel
theorem dX12_areTwo_29 : decode cX12_areTwo 29 = .ok (.iconst 1, 1) := by decide +kernel
theorem dX12_areTwo_30 : decode cX12_areTwo 30 = .ok (.goto 4, 3) := by decide +kernel
theorem dX12_areTwo_33 : decode cX12_areTwo 33 = .ok (.iconst 0, 1) := by decide +kernel
theorem dX12_areTwo_34 : decode cX12_areTwo 34 = .ok (.ireturn, 1) := by decide +kernel
theorem dX12_game_0 : decode cX12_game 0 = .ok (.aload_n 0, 1) := by decide +kernel
theorem dX12_game_1 : decode cX12_game 1 = .ok (.iload_n 1, 1) := by decide +kernel
theorem dX12_game_2 : decode cX12_game 2 = .ok (.iload_n 2, 1) := by decide +kernel
theorem dX12_game_3 : decode cX12_game 3 = .ok (.iload_n 3, 1) := by decide +kernel
theorem dX12_game_4 : decode cX12_game 4 = .ok (.invokevirtual 426, 3) := by decide +kernel
theorem dX12_game_7 : decode cX12_game 7 = .ok (.ifCond .eq 35, 3) := by decide +kernel
theorem dX12_game_10 : decode cX12_game 10 = .ok (.iload 4, 2) := by decide +kernel
theorem dX12_game_12 : decode cX12_game 12 = .ok (.iconst 0, 1) := by decide +kernel
theorem dX12_game_13 : decode cX12_game 13 = .ok (.bipush 9, 2) := by decide +kernel
theorem dX12_game_15 : decode cX12_game 15 = .ok (.invokestatic 207, 3) := by decide +kernel
theorem dX12_game_18 : decode cX12_game 18 = .ok (.ifCond .eq 24, 3) := by decide +kernel
theorem dX12_game_21 : decode cX12_game 21 = .ok (.iload 5, 2) := by decide +kernel
theorem dX12_game_23 : decode cX12_game 23 = .ok (.iconst 0, 1) := by decide +kernel
theorem dX12_game_24 : decode cX12_game 24 = .ok (.bipush 9, 2) := by decide +kernel
theorem dX12_game_26 : decode cX12_game 26 = .ok (.invokestatic 207, 3) := by decide +kernel
theorem dX12_game_29 : decode cX12_game 29 = .ok (.ifCond .eq 13, 3) := by decide +kernel
theorem dX12_game_32 : decode cX12_game 32 = .ok (.iload 6, 2) := by decide +kernel
theorem dX12_game_34 : decode cX12_game 34 = .ok (.iconst 0, 1) := by decide +kernel
theorem dX12_game_35 : decode cX12_game 35 = .ok (.iconst 1, 1) := by decide +kernel
theorem dX12_game_36 : decode cX12_game 36 = .ok (.invokestatic 207, 3) := by decide +kernel
theorem dX12_game_39 : decode cX12_game 39 = .ok (.ifCond .ne 7, 3) := by decide +kernel
theorem dX12_game_42 : decode cX12_game 42 = .ok (.ldc_w 429, 3) := by decide +kernel
theorem dX12_game_45 : decode cX12_game 45 = .ok (.ireturn, 1) := by decide +kernel
theorem dX12_game_46 : decode cX12_game 46 = .ok (.iload 6, 2) := by decide +kernel
theorem dX12_game_48 : decode cX12_game 48 = .ok (.ifCond .ne 16, 3) := by decide +kernel
theorem dX12_game_51 : decode cX12_game 51 = .ok (.aload_n 0, 1) := by decide +kernel
theorem dX12_game_52 : decode cX12_game 52 = .ok (.iload_n 1, 1) := by decide +kernel
theorem dX12_game_53 : decode cX12_game 53 = .ok (.iload_n 3, 1) := by decide +kernel
theorem dX12_game_54 : decode cX12_game 54 = .ok (.iload 4, 2) := by decide +kernel
theorem dX12_game_56 : decode cX12_game 56 = .ok (.iload 5, 2) := by decide +kernel
theorem dX12_game_58 : decode cX12_game 58 = .ok (.invokevirtual 430, 3) := by decide +kernel
theorem dX12_game_61 : decode cX12_game 61 = .ok (.goto 13, 3) := by decide +kernel
theorem dX12_game_64 : decode cX12_game 64 = .ok (.aload_n 0, 1) := by decide +kernel
theorem dX12_game_65 : decode cX12_game 65 = .ok (.iload_n 2, 1) := by decide +kernel
theorem dX12_game_66 : decode cX12_game 66 = .ok (.iload_n 3, 1) := by decide +kernel
theorem dX12_game_67 : decode cX12_game 67 = .ok (.iload 5, 2) := by decide +kernel
theorem dX12_game_69 : decode cX12_game 69 = .ok (.iload 4, 2) := by decide +kernel
theorem dX12_game_71 : decode cX12_game 71 = .ok (.invokevirtual 430, 3) := by decide +kernel
theorem dX12_game_74 : decode cX12_game 74 = .ok (.ireturn, 1) := by decide +kernel
theorem dX12_isRest_0 : decode cX12_isRest 0 = .ok (.iconst 0, 1) := by decide +kernel
theorem dX12_isRest_1 : decode cX12_isRest 1 = .ok (.istore 6, 2) := by decide +kernel
theorem dX12_isRest_3 : decode cX12_isRest 3 = .ok (.iload 6, 2) := by decide +kernel
theorem dX12_isRest_5 : decode cX12_isRest 5 = .ok (.bipush 10, 2) := by decide +kernel
theorem dX12_isRest_7 : decode cX12_isRest 7 = .ok (.if_icmp .ge 57, 3) := by decide +kernel
theorem dX12_isRest_10 : decode cX12_isRest 10 = .ok (.aload_n 0, 1) := by decide +kernel
theorem dX12_isRest_11 : decode cX12_isRest 11 = .ok (.iload_n 1, 1) := by decide +kernel
theorem dX12_isRest_12 : decode cX12_isRest 12 = .ok (.iload_n 3, 1) := by decide +kernel
theorem dX12_isRest_13 : decode cX12_isRest 13 = .ok (.iload 6, 2) := by decide +kernel
theorem dX12_isRest_15 : decode cX12_isRest 15 = .ok (.iload 5, 2) := by decide +kernel
theorem dX12_isRest_17 : decode cX12_isRest 17 = .ok (.invokevirtual 430, 3) := by decide +kernel
theorem dX12_isRest_20 : decode cX12_isRest 20 = .ok (.aload_n 0, 1) := by decide +kernel
theorem dX12_isRest_21 : decode cX12_isRest 21 = .ok (.iload_n 1, 1) := by decide +kernel
theorem dX12_isRest_22 : decode cX12_isRest 22 = .ok (.iload_n 3, 1) := by decide +kernel
theorem dX12_isRest_23 : decode cX12_isRest 23 = .ok (.iload 4, 2) := by decide +kernel
theorem dX12_isRest_25 : decode cX12_isRest 25 = .ok (.iload 5, 2) := by decide +kernel
theorem dX12_isRest_27 : decode cX12_isRest 27 = .ok (.invokevirtual 430, 3) := by decide +kernel
theorem dX12_isRest_30 : decode cX12_isRest 30 = .ok (.if_icmp .gt 26, 3) := by decide +kernel
theorem dX12_isRest_33 : decode cX12_isRest 33 = .ok (.aload_n 0, 1) := by decide +kernel
theorem dX12_isRest_34 : decode cX12_isRest 34 = .ok (.iload_n 2, 1) := by decide +kernel
theorem dX12_isRest_35 : decode cX12_isRest 35 = .ok (.iload_n 3, 1) := by decide +kernel
theorem dX12_isRest_36 : decode cX12_isRest 36 = .ok (.iload 6, 2) := by decide +kernel
theorem dX12_isRest_38 : decode cX12_isRest 38 = .ok (.iload 4, 2) := by decide +kernel
theorem dX12_isRest_40 : decode cX12_isRest 40 = .ok (.invokevirtual 430, 3) := by decide +kernel
theorem dX12_isRest_43 : decode cX12_isRest 43 = .ok (.aload_n 0, 1) := by decide +kernel
theorem dX12_isRest_44 : decode cX12_isRest 44 = .ok (.iload_n 2, 1) := by decide +kernel
theorem dX12_isRest_45 : decode cX12_isRest 45 = .ok (.iload_n 3, 1) := by decide +kernel
theorem dX12_isRest_46 : decode cX12_isRest 46 = .ok (.iload 5, 2) := by decide +kernel
theorem dX12_isRest_48 : decode cX12_isRest 48 = .ok (.iload 4, 2) := by decide +kernel
theorem dX12_isRest_50 : decode cX12_isRest 50 = .ok (.invokevirtual 430, 3) := by decide +kernel
theorem dX12_isRest_53 : decode cX12_isRest 53 = .ok (.if_icmp .le 5, 3) := by decide +kernel
theorem dX12_isRest_56 : decode cX12_isRest 56 = .ok (.iconst 0, 1) := by decide +kernel
theorem dX12_isRest_57 : decode cX12_isRest 57 = .ok (.ireturn, 1) := by decide +kernel
theorem dX12_isRest_58 : decode cX12_isRest 58 = .ok (.iinc 6 1, 3) := by decide +kernel
theorem dX12_isRest_61 : decode cX12_isRest 61 = .ok (.goto (-58), 3) := by decide +kernel
theorem dX12_isRest_64 : decode cX12_isRest 64 = .ok (.iconst 1, 1) := by decide +kernel
theorem dX12_isRest_65 : decode cX12_isRest 65 = .ok (.ireturn, 1) := by decide +kernel
theorem dX12_rests_0 : decode cX12_rests 0 = .ok (.aload_n 0, 1) := by decide +kernel
theorem dX12_rests_1 : decode cX12_rests 1 = .ok (.iload_n 1, 1) := by decide +kernel
theorem dX12_rests_2 : decode cX12_rests 2 = .ok (.iload_n 2, 1) := by decide +kernel
theorem dX12_rests_3 : decode cX12_rests 3 = .ok (.iload_n 3, 1) := by decide +kernel
theorem dX12_rests_4 : decode cX12_rests 4 = .ok (.invokevirtual 426, 3) := by decide +kernel
theorem dX12_rests_7 : decode cX12_rests 7 = .ok (.ifCond .eq 9, 3) := by decide +kernel
theorem dX12_rests_10 : decode cX12_rests 10 = .ok (.iload 4, 2) := by decide +kernel
theorem dX12_rests_12 : decode cX12_rests 12 = .ok (.iconst (-1), 1) := by decide +kernel
theorem dX12_rests_13 : decode cX12_rests 13 = .ok (.if_icmp .ge 5, 3) := by decide +kernel
theorem dX12_rests_16 : decode cX12_rests 16 = .ok (.iconst (-1), 1) := by decide +kernel
theorem dX12_rests_17 : decode cX12_rests 17 = .ok (.ireturn, 1) := by decide +kernel
theorem dX12_rests_18 : decode cX12_rests 18 = .ok (.iconst 0, 1) := by decide +kernel
theorem dX12_rests_19 : decode cX12_rests 19 = .ok (.istore 5, 2) := by decide +kernel
theorem dX12_rests_21 : decode cX12_rests 21 = .ok (.iconst 0, 1) := by decide +kernel
theorem dX12_rests_22 : decode cX12_rests 22 = .ok (.istore 6, 2) := by decide +kernel
theorem dX12_rests_24 : decode cX12_rests 24 = .ok (.iload 6, 2) := by decide +kernel
theorem dX12_rests_26 : decode cX12_rests 26 = .ok (.bipush 100, 2) := by decide +kernel
theorem dX12_rests_28 : decode cX12_rests 28 = .ok (.if_icmp .ge 42, 3) := by decide +kernel
theorem dX12_rests_31 : decode cX12_rests 31 = .ok (.aload_n 0, 1) := by decide +kernel
theorem dX12_rests_32 : decode cX12_rests 32 = .ok (.iload_n 1, 1) := by decide +kernel
theorem dX12_rests_33 : decode cX12_rests 33 = .ok (.iload_n 2, 1) := by decide +kernel
theorem dX12_rests_34 : decode cX12_rests 34 = .ok (.iload_n 3, 1) := by decide +kernel
theorem dX12_rests_35 : decode cX12_rests 35 = .ok (.iload 6, 2) := by decide +kernel
theorem dX12_rests_37 : decode cX12_rests 37 = .ok (.bipush 10, 2) := by decide +kernel
theorem dX12_rests_39 : decode cX12_rests 39 = .ok (.idiv, 1) := by decide +kernel
theorem dX12_rests_40 : decode cX12_rests 40 = .ok (.iload 6, 2) := by decide +kernel
theorem dX12_rests_42 : decode cX12_rests 42 = .ok (.bipush 10, 2) := by decide +kernel
theorem dX12_rests_44 : decode cX12_rests 44 = .ok (.irem, 1) := by decide +kernel
theorem dX12_rests_45 : decode cX12_rests 45 = .ok (.invokevirtual 434, 3) := by decide +kernel
theorem dX12_rests_48 : decode cX12_rests 48 = .ok (.ifCond .eq 16, 3) := by decide +kernel
theorem dX12_rests_51 : decode cX12_rests 51 = .ok (.iload 5, 2) := by decide +kernel
theorem dX12_rests_53 : decode cX12_rests 53 = .ok (.iload 4, 2) := by decide +kernel
theorem dX12_rests_55 : decode cX12_rests 55 = .ok (.if_icmp .ne 6, 3) := by decide +kernel
theorem dX12_rests_58 : decode cX12_rests 58 = .ok (.iload 6, 2) := by decide +kernel
theorem dX12_rests_60 : decode cX12_rests 60 = .ok (.ireturn, 1) := by decide +kernel
theorem dX12_rests_61 : decode cX12_rests 61 = .ok (.iinc 5 1, 3) := by decide +kernel
theorem dX12_rests_64 : decode cX12_rests 64 = .ok (.iinc 6 1, 3) := by decide +kernel
theorem dX12_rests_67 : decode cX12_rests 67 = .ok (.goto (-43), 3) := by decide +kernel
theorem dX12_rests_70 : decode cX12_rests 70 = .ok (.iload 4, 2) := by decide +kernel
theorem dX12_rests_72 : decode cX12_rests 72 = .ok (.iconst (-1), 1) := by decide +kernel
theorem dX12_rests_73 : decode cX12_rests 73 = .ok (.if_icmp .ne 8, 3) := by decide +kernel
theorem dX12_rests_76 : decode cX12_rests 76 = .ok (.iload 5, 2) := by decide +kernel
theorem dX12_rests_78 : decode cX12_rests 78 = .ok (.goto 4, 3) := by decide +kernel
theorem dX12_rests_81 : decode cX12_rests 81 = .ok (.iconst (-1), 1) := by decide +kernel
theorem dX12_rests_82 : decode cX12_rests 82 = .ok (.ireturn, 1) := by decide +kernel
theorem dX12_oddsFrom_0 : decode cX12_oddsFrom 0 = .ok (.aload_n 0, 1) := by decide +kernel
theorem dX12_oddsFrom_1 : decode cX12_oddsFrom 1 = .ok (.iload_n 3, 1) := by decide +kernel
theorem dX12_oddsFrom_2 : decode cX12_oddsFrom 2 = .ok (.iload_n 2, 1) := by decide +kernel
theorem dX12_oddsFrom_3 : decode cX12_oddsFrom 3 = .ok (.invokevirtual 294, 3) := by decide +kernel
theorem dX12_oddsFrom_6 : decode cX12_oddsFrom 6 = .ok (.iconst (-1), 1) := by decide +kernel
theorem dX12_oddsFrom_7 : decode cX12_oddsFrom 7 = .ok (.if_icmp .ne 6, 3) := by decide +kernel
theorem dX12_oddsFrom_10 : decode cX12_oddsFrom 10 = .ok (.iload 5, 2) := by decide +kernel
theorem dX12_oddsFrom_12 : decode cX12_oddsFrom 12 = .ok (.ireturn, 1) := by decide +kernel
theorem dX12_oddsFrom_13 : decode cX12_oddsFrom 13 = .ok (.iload 4, 2) := by decide +kernel
theorem dX12_oddsFrom_15 : decode cX12_oddsFrom 15 = .ok (.ifCond .ne 5, 3) := by decide +kernel
theorem dX12_oddsFrom_18 : decode cX12_oddsFrom 18 = .ok (.iconst 0, 1) := by decide +kernel
theorem dX12_oddsFrom_19 : decode cX12_oddsFrom 19 = .ok (.ireturn, 1) := by decide +kernel
theorem dX12_oddsFrom_20 : decode cX12_oddsFrom 20 = .ok (.iload 5, 2) := by decide +kernel
theorem dX12_oddsFrom_22 : decode cX12_oddsFrom 22 = .ok (.iconst 3, 1) := by decide +kernel
theorem dX12_oddsFrom_23 : decode cX12_oddsFrom 23 = .ok (.idiv, 1) := by decide +kernel
theorem dX12_oddsFrom_24 : decode cX12_oddsFrom 24 = .ok (.istore 6, 2) := by decide +kernel
theorem dX12_oddsFrom_26 : decode cX12_oddsFrom 26 = .ok (.iconst 0, 1) := by decide +kernel
theorem dX12_oddsFrom_27 : decode cX12_oddsFrom 27 = .ok (.istore 7, 2) := by decide +kernel
theorem dX12_oddsFrom_29 : decode cX12_oddsFrom 29 = .ok (.aload_n 0, 1) := by decide +kernel
theorem dX12_oddsFrom_30 : decode cX12_oddsFrom 30 = .ok (.iload_n 1, 1) := by decide +kernel
theorem dX12_oddsFrom_31 : decode cX12_oddsFrom 31 = .ok (.invokevirtual 398, 3) := by decide +kernel
theorem dX12_oddsFrom_34 : decode cX12_oddsFrom 34 = .ok (.iconst 3, 1) := by decide +kernel
theorem dX12_oddsFrom_35 : decode cX12_oddsFrom 35 = .ok (.istore 8, 2) := by decide +kernel
theorem dX12_oddsFrom_37 : decode cX12_oddsFrom 37 = .ok (.iload 8, 2) := by decide +kernel
theorem dX12_oddsFrom_39 : decode cX12_oddsFrom 39 = .ok (.bipush 7, 2) := by decide +kernel
theorem dX12_oddsFrom_41 : decode cX12_oddsFrom 41 = .ok (.if_icmp .gt 59, 3) := by decide +kernel
theorem dX12_oddsFrom_44 : decode cX12_oddsFrom 44 = .ok (.aload_n 0, 1) := by decide +kernel
theorem dX12_oddsFrom_45 : decode cX12_oddsFrom 45 = .ok (.iload_n 3, 1) := by decide +kernel
theorem dX12_oddsFrom_46 : decode cX12_oddsFrom 46 = .ok (.iload 8, 2) := by decide +kernel
theorem dX12_oddsFrom_48 : decode cX12_oddsFrom 48 = .ok (.invokevirtual 366, 3) := by decide +kernel
theorem dX12_oddsFrom_51 : decode cX12_oddsFrom 51 = .ok (.pop, 1) := by decide +kernel
theorem dX12_oddsFrom_52 : decode cX12_oddsFrom 52 = .ok (.iload 7, 2) := by decide +kernel
theorem dX12_oddsFrom_54 : decode cX12_oddsFrom 54 = .ok (.aload_n 0, 1) := by decide +kernel
theorem dX12_oddsFrom_55 : decode cX12_oddsFrom 55 = .ok (.iload_n 1, 1) := by decide +kernel
theorem dX12_oddsFrom_56 : decode cX12_oddsFrom 56 = .ok (.iconst 1, 1) := by decide +kernel
theorem dX12_oddsFrom_57 : decode cX12_oddsFrom 57 = .ok (.iadd, 1) := by decide +kernel
theorem dX12_oddsFrom_58 : decode cX12_oddsFrom 58 = .ok (.iload_n 2, 1) := by decide +kernel
theorem dX12_oddsFrom_59 : decode cX12_oddsFrom 59 = .ok (.iload_n 3, 1) := by decide +kernel
theorem dX12_oddsFrom_60 : decode cX12_oddsFrom 60 = .ok (.iload 4, 2) := by decide +kernel
theorem dX12_oddsFrom_62 : decode cX12_oddsFrom 62 = .ok (.iconst 1, 1) := by decide +kernel
theorem dX12_oddsFrom_63 : decode cX12_oddsFrom 63 = .ok (.isub, 1) := by decide +kernel
theorem dX12_oddsFrom_64 : decode cX12_oddsFrom 64 = .ok (.iload 8, 2) := by decide +kernel
theorem dX12_oddsFrom_66 : decode cX12_oddsFrom 66 = .ok (.bipush 7, 2) := by decide +kernel
theorem dX12_oddsFrom_68 : decode cX12_oddsFrom 68 = .ok (.if_icmp .ne 13, 3) := by decide +kernel
theorem dX12_oddsFrom_71 : decode cX12_oddsFrom 71 = .ok (.iload 5, 2) := by decide +kernel
theorem dX12_oddsFrom_73 : decode cX12_oddsFrom 73 = .ok (.iconst 2, 1) := by decide +kernel
theorem dX12_oddsFrom_74 : decode cX12_oddsFrom 74 = .ok (.iload 6, 2) := by decide +kernel
theorem dX12_oddsFrom_76 : decode cX12_oddsFrom 76 = .ok (.imul, 1) := by decide +kernel
theorem dX12_oddsFrom_77 : decode cX12_oddsFrom 77 = .ok (.isub, 1) := by decide +kernel
theorem dX12_oddsFrom_78 : decode cX12_oddsFrom 78 = .ok (.goto 5, 3) := by decide +kernel
theorem dX12_oddsFrom_81 : decode cX12_oddsFrom 81 = .ok (.iload 6, 2) := by decide +kernel
theorem dX12_oddsFrom_83 : decode cX12_oddsFrom 83 = .ok (.invokevirtual 438, 3) := by decide +kernel
theorem dX12_oddsFrom_86 : decode cX12_oddsFrom 86 = .ok (.iadd, 1) := by decide +kernel
theorem dX12_oddsFrom_87 : decode cX12_oddsFrom 87 = .ok (.istore 7, 2) := by decide +kernel
theorem dX12_oddsFrom_89 : decode cX12_oddsFrom 89 = .ok (.aload_n 0, 1) := by decide +kernel
theorem dX12_oddsFrom_90 : decode cX12_oddsFrom 90 = .ok (.iload_n 1, 1) := by decide +kernel
theorem dX12_oddsFrom_91 : decode cX12_oddsFrom 91 = .ok (.invokevirtual 401, 3) := by decide +kernel
theorem dX12_oddsFrom_94 : decode cX12_oddsFrom 94 = .ok (.iinc 8 2, 3) := by decide +kernel
theorem dX12_oddsFrom_97 : decode cX12_oddsFrom 97 = .ok (.goto (-60), 3) := by decide +kernel
theorem dX12_oddsFrom_100 : decode cX12_oddsFrom 100 = .ok (.iload 7, 2) := by decide +kernel
theorem dX12_oddsFrom_102 : decode cX12_oddsFrom 102 = .ok (.ireturn, 1) := by decide +kernel
theorem dX12_odds_0 : decode cX12_odds 0 = .ok (.aload_n 0, 1) := by decide +kernel
theorem dX12_odds_1 : decode cX12_odds 1 = .ok (.iload_n 1, 1) := by decide +kernel
theorem dX12_odds_2 : decode cX12_odds 2 = .ok (.invokevirtual 333, 3) := by decide +kernel
theorem dX12_odds_5 : decode cX12_odds 5 = .ok (.ifCond .eq 20, 3) := by decide +kernel
theorem dX12_odds_8 : decode cX12_odds 8 = .ok (.aload_n 0, 1) := by decide +kernel
theorem dX12_odds_9 : decode cX12_odds 9 = .ok (.iload_n 1, 1) := by decide +kernel
theorem dX12_odds_10 : decode cX12_odds 10 = .ok (.invokevirtual 303, 3) := by decide +kernel
theorem dX12_odds_13 : decode cX12_odds 13 = .ok (.ifCond .ne 12, 3) := by decide +kernel
theorem dX12_odds_16 : decode cX12_odds 16 = .ok (.iload_n 2, 1) := by decide +kernel
theorem dX12_odds_17 : decode cX12_odds 17 = .ok (.iconst 0, 1) := by decide +kernel
theorem dX12_odds_18 : decode cX12_odds 18 = .ok (.iconst 4, 1) := by decide +kernel
theorem dX12_odds_19 : decode cX12_odds 19 = .ok (.invokestatic 207, 3) := by decide +kernel
theorem dX12_odds_22 : decode cX12_odds 22 = .ok (.ifCond .ne 5, 3) := by decide +kernel
theorem dX12_odds_25 : decode cX12_odds 25 = .ok (.iconst (-1), 1) := by decide +kernel
theorem dX12_odds_26 : decode cX12_odds 26 = .ok (.ireturn, 1) := by decide +kernel
theorem dX12_odds_27 : decode cX12_odds 27 = .ok (.aload_n 0, 1) := by decide +kernel
theorem dX12_odds_28 : decode cX12_odds 28 = .ok (.iconst 0, 1) := by decide +kernel
theorem dX12_odds_29 : decode cX12_odds 29 = .ok (.iload_n 1, 1) := by decide +kernel
theorem dX12_odds_30 : decode cX12_odds 30 = .ok (.aload_n 0, 1) := by decide +kernel
theorem dX12_odds_31 : decode cX12_odds 31 = .ok (.iload_n 1, 1) := by decide +kernel
theorem dX12_odds_32 : decode cX12_odds 32 = .ok (.invokevirtual 297, 3) := by decide +kernel
theorem dX12_odds_35 : decode cX12_odds 35 = .ok (.iload_n 2, 1) := by decide +kernel
theorem dX12_odds_36 : decode cX12_odds 36 = .ok (.ldc_w 442, 3) := by decide +kernel
theorem dX12_odds_39 : decode cX12_odds 39 = .ok (.invokevirtual 438, 3) := by decide +kernel
theorem dX12_odds_42 : decode cX12_odds 42 = .ok (.ireturn, 1) := by decide +kernel
theorem dX12_shares_0 : decode cX12_shares 0 = .ok (.aload_n 0, 1) := by decide +kernel
theorem dX12_shares_1 : decode cX12_shares 1 = .ok (.iload_n 1, 1) := by decide +kernel
theorem dX12_shares_2 : decode cX12_shares 2 = .ok (.invokevirtual 336, 3) := by decide +kernel
theorem dX12_shares_5 : decode cX12_shares 5 = .ok (.ifCond .eq 14, 3) := by decide +kernel
theorem dX12_shares_8 : decode cX12_shares 8 = .ok (.iload_n 2, 1) := by decide +kernel
theorem dX12_shares_9 : decode cX12_shares 9 = .ok (.iconst 0, 1) := by decide +kernel
theorem dX12_shares_10 : decode cX12_shares 10 = .ok (.sipush 999, 3) := by decide +kernel
theorem dX12_shares_13 : decode cX12_shares 13 = .ok (.invokestatic 207, 3) := by decide +kernel
theorem dX12_shares_16 : decode cX12_shares 16 = .ok (.ifCond .ne 5, 3) := by decide +kernel
theorem dX12_shares_19 : decode cX12_shares 19 = .ok (.iconst (-1), 1) := by decide +kernel
theorem dX12_shares_20 : decode cX12_shares 20 = .ok (.ireturn, 1) := by decide +kernel
theorem dX12_shares_21 : decode cX12_shares 21 = .ok (.iconst 0, 1) := by decide +kernel
theorem dX12_shares_22 : decode cX12_shares 22 = .ok (.istore_n 3, 1) := by decide +kernel
theorem dX12_shares_23 : decode cX12_shares 23 = .ok (.iconst 0, 1) := by decide +kernel
theorem dX12_shares_24 : decode cX12_shares 24 = .ok (.istore 4, 2) := by decide +kernel
theorem dX12_shares_26 : decode cX12_shares 26 = .ok (.iload 4, 2) := by decide +kernel
theorem dX12_shares_28 : decode cX12_shares 28 = .ok (.aload_n 0, 1) := by decide +kernel
theorem dX12_shares_29 : decode cX12_shares 29 = .ok (.getfield 257, 3) := by decide +kernel
theorem dX12_shares_32 : decode cX12_shares 32 = .ok (.if_icmp .ge 18, 3) := by decide +kernel
theorem dX12_shares_35 : decode cX12_shares 35 = .ok (.iload_n 3, 1) := by decide +kernel
theorem dX12_shares_36 : decode cX12_shares 36 = .ok (.aload_n 0, 1) := by decide +kernel
theorem dX12_shares_37 : decode cX12_shares 37 = .ok (.iload 4, 2) := by decide +kernel
theorem dX12_shares_39 : decode cX12_shares 39 = .ok (.invokevirtual 291, 3) := by decide +kernel
theorem dX12_shares_42 : decode cX12_shares 42 = .ok (.iadd, 1) := by decide +kernel
theorem dX12_shares_43 : decode cX12_shares 43 = .ok (.istore_n 3, 1) := by decide +kernel
theorem dX12_shares_44 : decode cX12_shares 44 = .ok (.iinc 4 1, 3) := by decide +kernel
theorem dX12_shares_47 : decode cX12_shares 47 = .ok (.goto (-21), 3) := by decide +kernel
theorem dX12_shares_50 : decode cX12_shares 50 = .ok (.iload_n 3, 1) := by decide +kernel
theorem dX12_shares_51 : decode cX12_shares 51 = .ok (.ifCond .ne 7, 3) := by decide +kernel
theorem dX12_shares_54 : decode cX12_shares 54 = .ok (.iconst 0, 1) := by decide +kernel
theorem dX12_shares_55 : decode cX12_shares 55 = .ok (.goto 12, 3) := by decide +kernel
theorem dX12_shares_58 : decode cX12_shares 58 = .ok (.iload_n 2, 1) := by decide +kernel
theorem dX12_shares_59 : decode cX12_shares 59 = .ok (.aload_n 0, 1) := by decide +kernel
theorem dX12_shares_60 : decode cX12_shares 60 = .ok (.iload_n 1, 1) := by decide +kernel
theorem dX12_shares_61 : decode cX12_shares 61 = .ok (.invokevirtual 291, 3) := by decide +kernel
theorem dX12_shares_64 : decode cX12_shares 64 = .ok (.imul, 1) := by decide +kernel
theorem dX12_shares_65 : decode cX12_shares 65 = .ok (.iload_n 3, 1) := by decide +kernel
theorem dX12_shares_66 : decode cX12_shares 66 = .ok (.idiv, 1) := by decide +kernel
theorem dX12_shares_67 : decode cX12_shares 67 = .ok (.ireturn, 1) := by decide +kernel
theorem dX12_amnesty_0 : decode cX12_amnesty 0 = .ok (.iconst (-1), 1) := by decide +kernel
theorem dX12_amnesty_1 : decode cX12_amnesty 1 = .ok (.istore_n 1, 1) := by decide +kernel
theorem dX12_amnesty_2 : decode cX12_amnesty 2 = .ok (.iconst 0, 1) := by decide +kernel
theorem dX12_amnesty_3 : decode cX12_amnesty 3 = .ok (.istore_n 2, 1) := by decide +kernel
theorem dX12_amnesty_4 : decode cX12_amnesty 4 = .ok (.iconst 0, 1) := by decide +kernel
theorem dX12_amnesty_5 : decode cX12_amnesty 5 = .ok (.istore_n 3, 1) := by decide +kernel
theorem dX12_amnesty_6 : decode cX12_amnesty 6 = .ok (.iload_n 3, 1) := by decide +kernel
theorem dX12_amnesty_7 : decode cX12_amnesty 7 = .ok (.aload_n 0, 1) := by decide +kernel
theorem dX12_amnesty_8 : decode cX12_amnesty 8 = .ok (.getfield 257, 3) := by decide +kernel
theorem dX12_amnesty_11 : decode cX12_amnesty 11 = .ok (.if_icmp .ge 60, 3) := by decide +kernel
theorem dX12_amnesty_14 : decode cX12_amnesty 14 = .ok (.aload_n 0, 1) := by decide +kernel
theorem dX12_amnesty_15 : decode cX12_amnesty 15 = .ok (.getfield 64, 3) := by decide +kernel
theorem dX12_amnesty_18 : decode cX12_amnesty 18 = .ok (.iconst 0, 1) := by decide +kernel
theorem dX12_amnesty_19 : decode cX12_amnesty 19 = .ok (.iload_n 3, 1) := by decide +kernel
theorem dX12_amnesty_20 : decode cX12_amnesty 20 = .ok (.iadd, 1) := by decide +kernel
theorem dX12_amnesty_21 : decode cX12_amnesty 21 = .ok (.iaload, 1) := by decide +kernel
theorem dX12_amnesty_22 : decode cX12_amnesty 22 = .ok (.istore 4, 2) := by decide +kernel
theorem dX12_amnesty_24 : decode cX12_amnesty 24 = .ok (.aload_n 0, 1) := by decide +kernel
theorem dX12_amnesty_25 : decode cX12_amnesty 25 = .ok (.getfield 64, 3) := by decide +kernel
theorem dX12_amnesty_28 : decode cX12_amnesty 28 = .ok (.iconst 0, 1) := by decide +kernel
theorem dX12_amnesty_29 : decode cX12_amnesty 29 = .ok (.iload_n 3, 1) := by decide +kernel
theorem dX12_amnesty_30 : decode cX12_amnesty 30 = .ok (.iadd, 1) := by decide +kernel
theorem dX12_amnesty_31 : decode cX12_amnesty 31 = .ok (.iconst 0, 1) := by decide +kernel
theorem dX12_amnesty_32 : decode cX12_amnesty 32 = .ok (.iastore, 1) := by decide +kernel
theorem dX12_amnesty_33 : decode cX12_amnesty 33 = .ok (.aload_n 0, 1) := by decide +kernel
theorem dX12_amnesty_34 : decode cX12_amnesty 34 = .ok (.invokevirtual 372, 3) := by decide +kernel
theorem dX12_amnesty_37 : decode cX12_amnesty 37 = .ok (.istore 5, 2) := by decide +kernel
theorem dX12_amnesty_39 : decode cX12_amnesty 39 = .ok (.aload_n 0, 1) := by decide +kernel
theorem dX12_amnesty_40 : decode cX12_amnesty 40 = .ok (.getfield 64, 3) := by decide +kernel
theorem dX12_amnesty_43 : decode cX12_amnesty 43 = .ok (.iconst 0, 1) := by decide +kernel
theorem dX12_amnesty_44 : decode cX12_amnesty 44 = .ok (.iload_n 3, 1) := by decide +kernel
theorem dX12_amnesty_45 : decode cX12_amnesty 45 = .ok (.iadd, 1) := by decide +kernel
theorem dX12_amnesty_46 : decode cX12_amnesty 46 = .ok (.iload 4, 2) := by decide +kernel
theorem dX12_amnesty_48 : decode cX12_amnesty 48 = .ok (.iastore, 1) := by decide +kernel
theorem dX12_amnesty_49 : decode cX12_amnesty 49 = .ok (.iload_n 1, 1) := by decide +kernel
theorem dX12_amnesty_50 : decode cX12_amnesty 50 = .ok (.iconst (-1), 1) := by decide +kernel
theorem dX12_amnesty_51 : decode cX12_amnesty 51 = .ok (.if_icmp .eq 9, 3) := by decide +kernel
theorem dX12_amnesty_54 : decode cX12_amnesty 54 = .ok (.iload 5, 2) := by decide +kernel
theorem dX12_amnesty_56 : decode cX12_amnesty 56 = .ok (.iload_n 2, 1) := by decide +kernel
theorem dX12_amnesty_57 : decode cX12_amnesty 57 = .ok (.if_icmp .ge 8, 3) := by decide +kernel
theorem dX12_amnesty_60 : decode cX12_amnesty 60 = .ok (.iload_n 3, 1) := by decide +kernel
theorem dX12_amnesty_61 : decode cX12_amnesty 61 = .ok (.istore_n 1, 1) := by decide +kernel
theorem dX12_amnesty_62 : decode cX12_amnesty 62 = .ok (.iload 5, 2) := by decide +kernel
theorem dX12_amnesty_64 : decode cX12_amnesty 64 = .ok (.istore_n 2, 1) := by decide +kernel
theorem dX12_amnesty_65 : decode cX12_amnesty 65 = .ok (.iinc 3 1, 3) := by decide +kernel
theorem dX12_amnesty_68 : decode cX12_amnesty 68 = .ok (.goto (-62), 3) := by decide +kernel
theorem dX12_amnesty_71 : decode cX12_amnesty 71 = .ok (.iload_n 1, 1) := by decide +kernel
theorem dX12_amnesty_72 : decode cX12_amnesty 72 = .ok (.ireturn, 1) := by decide +kernel
theorem dX12_topWell_0 : decode cX12_topWell 0 = .ok (.iconst 0, 1) := by decide +kernel
theorem dX12_topWell_1 : decode cX12_topWell 1 = .ok (.istore_n 2, 1) := by decide +kernel
theorem dX12_topWell_2 : decode cX12_topWell 2 = .ok (.iconst 1, 1) := by decide +kernel
theorem dX12_topWell_3 : decode cX12_topWell 3 = .ok (.istore_n 3, 1) := by decide +kernel
theorem dX12_topWell_4 : decode cX12_topWell 4 = .ok (.iload_n 3, 1) := by decide +kernel
theorem dX12_topWell_5 : decode cX12_topWell 5 = .ok (.aload_n 0, 1) := by decide +kernel
theorem dX12_topWell_6 : decode cX12_topWell 6 = .ok (.getfield 257, 3) := by decide +kernel
theorem dX12_topWell_9 : decode cX12_topWell 9 = .ok (.if_icmp .ge 59, 3) := by decide +kernel
theorem dX12_topWell_12 : decode cX12_topWell 12 = .ok (.iload_n 1, 1) := by decide +kernel
theorem dX12_topWell_13 : decode cX12_topWell 13 = .ok (.ifCond .eq 25, 3) := by decide +kernel
theorem dX12_topWell_16 : decode cX12_topWell 16 = .ok (.aload_n 0, 1) := by decide +kernel
theorem dX12_topWell_17 : decode cX12_topWell 17 = .ok (.getfield 64, 3) := by decide +kernel
theorem dX12_topWell_20 : decode cX12_topWell 20 = .ok (.bipush 32, 2) := by decide +kernel
theorem dX12_topWell_22 : decode cX12_topWell 22 = .ok (.iload_n 3, 1) := by decide +kernel
theorem dX12_topWell_23 : decode cX12_topWell 23 = .ok (.iadd, 1) := by decide +kernel
theorem dX12_topWell_24 : decode cX12_topWell 24 = .ok (.iaload, 1) := by decide +kernel
theorem dX12_topWell_25 : decode cX12_topWell 25 = .ok (.aload_n 0, 1) := by decide +kernel
theorem dX12_topWell_26 : decode cX12_topWell 26 = .ok (.getfield 64, 3) := by decide +kernel
theorem dX12_topWell_29 : decode cX12_topWell 29 = .ok (.bipush 32, 2) := by decide +kernel
theorem dX12_topWell_31 : decode cX12_topWell 31 = .ok (.iload_n 2, 1) := by decide +kernel
theorem dX12_topWell_32 : decode cX12_topWell 32 = .ok (.iadd, 1) := by decide +kernel
theorem dX12_topWell_33 : decode cX12_topWell 33 = .ok (.iaload, 1) := by decide +kernel
theorem dX12_topWell_34 : decode cX12_topWell 34 = .ok (.isub, 1) := by decide +kernel
theorem dX12_topWell_35 : decode cX12_topWell 35 = .ok (.goto 14, 3) := by decide +kernel
theorem dX12_topWell_38 : decode cX12_topWell 38 = .ok (.aload_n 0, 1) := by decide +kernel
theorem dX12_topWell_39 : decode cX12_topWell 39 = .ok (.iload_n 3, 1) := by decide +kernel
theorem dX12_topWell_40 : decode cX12_topWell 40 = .ok (.invokevirtual 291, 3) := by decide +kernel
theorem dX12_topWell_43 : decode cX12_topWell 43 = .ok (.aload_n 0, 1) := by decide +kernel
theorem dX12_topWell_44 : decode cX12_topWell 44 = .ok (.iload_n 2, 1) := by decide +kernel
theorem dX12_topWell_45 : decode cX12_topWell 45 = .ok (.invokevirtual 291, 3) := by decide +kernel
theorem dX12_topWell_48 : decode cX12_topWell 48 = .ok (.isub, 1) := by decide +kernel
theorem dX12_topWell_49 : decode cX12_topWell 49 = .ok (.istore 4, 2) := by decide +kernel
theorem dX12_topWell_51 : decode cX12_topWell 51 = .ok (.iload 4, 2) := by decide +kernel
theorem dX12_topWell_53 : decode cX12_topWell 53 = .ok (.ifCond .le 7, 3) := by decide +kernel
theorem dX12_topWell_56 : decode cX12_topWell 56 = .ok (.iload_n 3, 1) := by decide +kernel
theorem dX12_topWell_57 : decode cX12_topWell 57 = .ok (.goto 4, 3) := by decide +kernel
theorem dX12_topWell_60 : decode cX12_topWell 60 = .ok (.iload_n 2, 1) := by decide +kernel
theorem dX12_topWell_61 : decode cX12_topWell 61 = .ok (.istore_n 2, 1) := by decide +kernel
theorem dX12_topWell_62 : decode cX12_topWell 62 = .ok (.iinc 3 1, 3) := by decide +kernel
theorem dX12_topWell_65 : decode cX12_topWell 65 = .ok (.goto (-61), 3) := by decide +kernel
theorem dX12_topWell_68 : decode cX12_topWell 68 = .ok (.iload_n 2, 1) := by decide +kernel
theorem dX12_topWell_69 : decode cX12_topWell 69 = .ok (.ireturn, 1) := by decide +kernel
theorem dX12_longest_0 : decode cX12_longest 0 = .ok (.iconst 0, 1) := by decide +kernel
theorem dX12_longest_1 : decode cX12_longest 1 = .ok (.istore_n 1, 1) := by decide +kernel
theorem dX12_longest_2 : decode cX12_longest 2 = .ok (.iconst 1, 1) := by decide +kernel
theorem dX12_longest_3 : decode cX12_longest 3 = .ok (.istore_n 2, 1) := by decide +kernel
theorem dX12_longest_4 : decode cX12_longest 4 = .ok (.iload_n 2, 1) := by decide +kernel
theorem dX12_longest_5 : decode cX12_longest 5 = .ok (.aload_n 0, 1) := by decide +kernel
theorem dX12_longest_6 : decode cX12_longest 6 = .ok (.getfield 260, 3) := by decide +kernel
theorem dX12_longest_9 : decode cX12_longest 9 = .ok (.if_icmp .ge 30, 3) := by decide +kernel
theorem dX12_longest_12 : decode cX12_longest 12 = .ok (.aload_n 0, 1) := by decide +kernel
theorem dX12_longest_13 : decode cX12_longest 13 = .ok (.iload_n 2, 1) := by decide +kernel
theorem dX12_longest_14 : decode cX12_longest 14 = .ok (.iconst 0, 1) := by decide +kernel
theorem dX12_longest_15 : decode cX12_longest 15 = .ok (.invokevirtual 282, 3) := by decide +kernel
theorem dX12_longest_18 : decode cX12_longest 18 = .ok (.aload_n 0, 1) := by decide +kernel
theorem dX12_longest_19 : decode cX12_longest 19 = .ok (.iload_n 1, 1) := by decide +kernel
theorem dX12_longest_20 : decode cX12_longest 20 = .ok (.iconst 0, 1) := by decide +kernel
theorem dX12_longest_21 : decode cX12_longest 21 = .ok (.invokevirtual 282, 3) := by decide +kernel
theorem dX12_longest_24 : decode cX12_longest 24 = .ok (.if_icmp .le 7, 3) := by decide +kernel
theorem dX12_longest_27 : decode cX12_longest 27 = .ok (.iload_n 2, 1) := by decide +kernel
theorem dX12_longest_28 : decode cX12_longest 28 = .ok (.goto 4, 3) := by decide +kernel
theorem dX12_longest_31 : decode cX12_longest 31 = .ok (.iload_n 1, 1) := by decide +kernel
theorem dX12_longest_32 : decode cX12_longest 32 = .ok (.istore_n 1, 1) := by decide +kernel
theorem dX12_longest_33 : decode cX12_longest 33 = .ok (.iinc 2 1, 3) := by decide +kernel
theorem dX12_longest_36 : decode cX12_longest 36 = .ok (.goto (-32), 3) := by decide +kernel
theorem dX12_longest_39 : decode cX12_longest 39 = .ok (.iload_n 1, 1) := by decide +kernel
theorem dX12_longest_40 : decode cX12_longest 40 = .ok (.ireturn, 1) := by decide +kernel
theorem dX12_dearest_0 : decode cX12_dearest 0 = .ok (.iconst (-1), 1) := by decide +kernel
theorem dX12_dearest_1 : decode cX12_dearest 1 = .ok (.istore_n 1, 1) := by decide +kernel
theorem dX12_dearest_2 : decode cX12_dearest 2 = .ok (.iconst 0, 1) := by decide +kernel
theorem dX12_dearest_3 : decode cX12_dearest 3 = .ok (.istore_n 2, 1) := by decide +kernel
theorem dX12_dearest_4 : decode cX12_dearest 4 = .ok (.iload_n 2, 1) := by decide +kernel
theorem dX12_dearest_5 : decode cX12_dearest 5 = .ok (.aload_n 0, 1) := by decide +kernel
theorem dX12_dearest_6 : decode cX12_dearest 6 = .ok (.getfield 260, 3) := by decide +kernel
theorem dX12_dearest_9 : decode cX12_dearest 9 = .ok (.if_icmp .ge 41, 3) := by decide +kernel
theorem dX12_dearest_12 : decode cX12_dearest 12 = .ok (.aload_n 0, 1) := by decide +kernel
theorem dX12_dearest_13 : decode cX12_dearest 13 = .ok (.iload_n 2, 1) := by decide +kernel
theorem dX12_dearest_14 : decode cX12_dearest 14 = .ok (.invokevirtual 303, 3) := by decide +kernel
theorem dX12_dearest_17 : decode cX12_dearest 17 = .ok (.ifCond .eq 25, 3) := by decide +kernel
theorem dX12_dearest_20 : decode cX12_dearest 20 = .ok (.iload_n 1, 1) := by decide +kernel
theorem dX12_dearest_21 : decode cX12_dearest 21 = .ok (.iconst (-1), 1) := by decide +kernel
theorem dX12_dearest_22 : decode cX12_dearest 22 = .ok (.if_icmp .eq 16, 3) := by decide +kernel
theorem dX12_dearest_25 : decode cX12_dearest 25 = .ok (.aload_n 0, 1) := by decide +kernel
theorem dX12_dearest_26 : decode cX12_dearest 26 = .ok (.iload_n 2, 1) := by decide +kernel
theorem dX12_dearest_27 : decode cX12_dearest 27 = .ok (.invokevirtual 317, 3) := by decide +kernel
theorem dX12_dearest_30 : decode cX12_dearest 30 = .ok (.aload_n 0, 1) := by decide +kernel
theorem dX12_dearest_31 : decode cX12_dearest 31 = .ok (.iload_n 1, 1) := by decide +kernel
theorem dX12_dearest_32 : decode cX12_dearest 32 = .ok (.invokevirtual 317, 3) := by decide +kernel
theorem dX12_dearest_35 : decode cX12_dearest 35 = .ok (.if_icmp .le 7, 3) := by decide +kernel
theorem dX12_dearest_38 : decode cX12_dearest 38 = .ok (.iload_n 2, 1) := by decide +kernel
theorem dX12_dearest_39 : decode cX12_dearest 39 = .ok (.goto 4, 3) := by decide +kernel
theorem dX12_dearest_42 : decode cX12_dearest 42 = .ok (.iload_n 1, 1) := by decide +kernel
theorem dX12_dearest_43 : decode cX12_dearest 43 = .ok (.istore_n 1, 1) := by decide +kernel
theorem dX12_dearest_44 : decode cX12_dearest 44 = .ok (.iinc 2 1, 3) := by decide +kernel
theorem dX12_dearest_47 : decode cX12_dearest 47 = .ok (.goto (-43), 3) := by decide +kernel
theorem dX12_dearest_50 : decode cX12_dearest 50 = .ok (.iload_n 1, 1) := by decide +kernel
theorem dX12_dearest_51 : decode cX12_dearest 51 = .ok (.ireturn, 1) := by decide +kernel
theorem dX12_most_0 : decode cX12_most 0 = .ok (.aload_n 0, 1) := by decide +kernel
theorem dX12_most_1 : decode cX12_most 1 = .ok (.getfield 260, 3) := by decide +kernel
theorem dX12_most_4 : decode cX12_most 4 = .ok (.ifCond .ne 5, 3) := by decide +kernel
theorem dX12_most_7 : decode cX12_most 7 = .ok (.iconst (-1), 1) := by decide +kernel
theorem dX12_most_8 : decode cX12_most 8 = .ok (.ireturn, 1) := by decide +kernel
theorem dX12_most_9 : decode cX12_most 9 = .ok (.iload_n 1, 1) := by decide +kernel
theorem dX12_most_10 : decode cX12_most 10 = .ok (.tableswitch 91 0 7 #[46, 51, 56, 61, 67, 73, 78, 83], 46) := by decide +kernel
theorem dX12_most_56 : decode cX12_most 56 = .ok (.aload_n 0, 1) := by decide +kernel
theorem dX12_most_57 : decode cX12_most 57 = .ok (.invokevirtual 443, 3) := by decide +kernel
theorem dX12_most_60 : decode cX12_most 60 = .ok (.ireturn, 1) := by decide +kernel
theorem dX12_most_61 : decode cX12_most 61 = .ok (.aload_n 0, 1) := by decide +kernel
theorem dX12_most_62 : decode cX12_most 62 = .ok (.invokevirtual 446, 3) := by decide +kernel
theorem dX12_most_65 : decode cX12_most 65 = .ok (.ireturn, 1) := by decide +kernel
theorem dX12_most_66 : decode cX12_most 66 = .ok (.aload_n 0, 1) := by decide +kernel
theorem dX12_most_67 : decode cX12_most 67 = .ok (.invokevirtual 449, 3) := by decide +kernel
theorem dX12_most_70 : decode cX12_most 70 = .ok (.ireturn, 1) := by decide +kernel
theorem dX12_most_71 : decode cX12_most 71 = .ok (.aload_n 0, 1) := by decide +kernel
theorem dX12_most_72 : decode cX12_most 72 = .ok (.iconst 1, 1) := by decide +kernel
theorem dX12_most_73 : decode cX12_most 73 = .ok (.invokevirtual 452, 3) := by decide +kernel
theorem dX12_most_76 : decode cX12_most 76 = .ok (.ireturn, 1) := by decide +kernel
theorem dX12_most_77 : decode cX12_most 77 = .ok (.aload_n 0, 1) := by decide +kernel
theorem dX12_most_78 : decode cX12_most 78 = .ok (.iconst 0, 1) := by decide +kernel
theorem dX12_most_79 : decode cX12_most 79 = .ok (.invokevirtual 452, 3) := by decide +kernel
theorem dX12_most_82 : decode cX12_most 82 = .ok (.ireturn, 1) := by decide +kernel
theorem dX12_most_83 : decode cX12_most 83 = .ok (.aload_n 0, 1) := by decide +kernel
theorem dX12_most_84 : decode cX12_most 84 = .ok (.invokevirtual 456, 3) := by decide +kernel
theorem dX12_most_87 : decode cX12_most 87 = .ok (.ireturn, 1) := by decide +kernel
theorem dX12_most_88 : decode cX12_most 88 = .ok (.aload_n 0, 1) := by decide +kernel
theorem dX12_most_89 : decode cX12_most 89 = .ok (.invokevirtual 459, 3) := by decide +kernel
theorem dX12_most_92 : decode cX12_most 92 = .ok (.ireturn, 1) := by decide +kernel
theorem dX12_most_93 : decode cX12_most 93 = .ok (.aload_n 0, 1) := by decide +kernel
theorem dX12_most_94 : decode cX12_most 94 = .ok (.invokevirtual 309, 3) := by decide +kernel
theorem dX12_most_97 : decode cX12_most 97 = .ok (.invokestatic 312, 3) := by decide +kernel
theorem dX12_most_100 : decode cX12_most 100 = .ok (.ireturn, 1) := by decide +kernel
theorem dX12_most_101 : decode cX12_most 101 = .ok (.iconst (-1), 1) := by decide +kernel
theorem dX12_most_102 : decode cX12_most 102 = .ok (.ireturn, 1) := by decide +kernel
theorem dX12_known_0 : decode cX12_known 0 = .ok (.aload_n 0, 1) := by decide +kernel
theorem dX12_known_1 : decode cX12_known 1 = .ok (.iload_n 1, 1) := by decide +kernel
theorem dX12_known_2 : decode cX12_known 2 = .ok (.invokevirtual 333, 3) := by decide +kernel
theorem dX12_known_5 : decode cX12_known 5 = .ok (.ifCond .eq 11, 3) := by decide +kernel
theorem dX12_known_8 : decode cX12_known 8 = .ok (.aload_n 0, 1) := by decide +kernel
theorem dX12_known_9 : decode cX12_known 9 = .ok (.iload_n 1, 1) := by decide +kernel
theorem dX12_known_10 : decode cX12_known 10 = .ok (.invokevirtual 306, 3) := by decide +kernel
theorem dX12_known_13 : decode cX12_known 13 = .ok (.goto 4, 3) := by decide +kernel
theorem dX12_known_16 : decode cX12_known 16 = .ok (.iconst (-1), 1) := by decide +kernel
theorem dX12_known_17 : decode cX12_known 17 = .ok (.ireturn, 1) := by decide +kernel
theorem dX12_quiet_0 : decode cX12_quiet 0 = .ok (.aload_n 0, 1) := by decide +kernel
theorem dX12_quiet_1 : decode cX12_quiet 1 = .ok (.getfield 260, 3) := by decide +kernel
theorem dX12_quiet_4 : decode cX12_quiet 4 = .ok (.ifCond .eq 14, 3) := by decide +kernel
theorem dX12_quiet_7 : decode cX12_quiet 7 = .ok (.iload_n 1, 1) := by decide +kernel
theorem dX12_quiet_8 : decode cX12_quiet 8 = .ok (.iconst 1, 1) := by decide +kernel
theorem dX12_quiet_9 : decode cX12_quiet 9 = .ok (.sipush 9999, 3) := by decide +kernel
theorem dX12_quiet_12 : decode cX12_quiet 12 = .ok (.invokestatic 207, 3) := by decide +kernel
theorem dX12_quiet_15 : decode cX12_quiet 15 = .ok (.ifCond .ne 5, 3) := by decide +kernel
theorem dX12_quiet_18 : decode cX12_quiet 18 = .ok (.iconst (-1), 1) := by decide +kernel
theorem dX12_quiet_19 : decode cX12_quiet 19 = .ok (.ireturn, 1) := by decide +kernel
theorem dX12_quiet_20 : decode cX12_quiet 20 = .ok (.aload_n 0, 1) := by decide +kernel
theorem dX12_quiet_21 : decode cX12_quiet 21 = .ok (.invokevirtual 372, 3) := by decide +kernel
theorem dX12_quiet_24 : decode cX12_quiet 24 = .ok (.istore_n 2, 1) := by decide +kernel
theorem dX12_quiet_25 : decode cX12_quiet 25 = .ok (.iconst 0, 1) := by decide +kernel
theorem dX12_quiet_26 : decode cX12_quiet 26 = .ok (.istore_n 3, 1) := by decide +kernel
theorem dX12_quiet_27 : decode cX12_quiet 27 = .ok (.iload_n 3, 1) := by decide +kernel
theorem dX12_quiet_28 : decode cX12_quiet 28 = .ok (.sipush 999, 3) := by decide +kernel
theorem dX12_quiet_31 : decode cX12_quiet 31 = .ok (.if_icmp .gt 26, 3) := by decide +kernel
theorem dX12_quiet_34 : decode cX12_quiet 34 = .ok (.aload_n 0, 1) := by decide +kernel
theorem dX12_quiet_35 : decode cX12_quiet 35 = .ok (.getfield 64, 3) := by decide +kernel
theorem dX12_quiet_38 : decode cX12_quiet 38 = .ok (.bipush 37, 2) := by decide +kernel
theorem dX12_quiet_40 : decode cX12_quiet 40 = .ok (.iaload, 1) := by decide +kernel
theorem dX12_quiet_41 : decode cX12_quiet 41 = .ok (.iload_n 3, 1) := by decide +kernel
theorem dX12_quiet_42 : decode cX12_quiet 42 = .ok (.iload_n 2, 1) := by decide +kernel
theorem dX12_quiet_43 : decode cX12_quiet 43 = .ok (.imul, 1) := by decide +kernel
theorem dX12_quiet_44 : decode cX12_quiet 44 = .ok (.iadd, 1) := by decide +kernel
theorem dX12_quiet_45 : decode cX12_quiet 45 = .ok (.iload_n 1, 1) := by decide +kernel
theorem dX12_quiet_46 : decode cX12_quiet 46 = .ok (.if_icmp .lt 5, 3) := by decide +kernel
theorem dX12_quiet_49 : decode cX12_quiet 49 = .ok (.iload_n 3, 1) := by decide +kernel
theorem dX12_quiet_50 : decode cX12_quiet 50 = .ok (.ireturn, 1) := by decide +kernel
theorem dX12_quiet_51 : decode cX12_quiet 51 = .ok (.iinc 3 1, 3) := by decide +kernel
theorem dX12_quiet_54 : decode cX12_quiet 54 = .ok (.goto (-27), 3) := by decide +kernel
theorem dX12_quiet_57 : decode cX12_quiet 57 = .ok (.iconst (-1), 1) := by decide +kernel
theorem dX12_quiet_58 : decode cX12_quiet 58 = .ok (.ireturn, 1) := by decide +kernel
theorem dX12_image_0 : decode cX12_image 0 = .ok (.aload_n 0, 1) := by decide +kernel
theorem dX12_image_1 : decode cX12_image 1 = .ok (.getfield 260, 3) := by decide +kernel
theorem dX12_image_4 : decode cX12_image 4 = .ok (.ifCond .ne 5, 3) := by decide +kernel
theorem dX12_image_7 : decode cX12_image 7 = .ok (.iconst (-1), 1) := by decide +kernel
theorem dX12_image_8 : decode cX12_image 8 = .ok (.ireturn, 1) := by decide +kernel
theorem dX12_image_9 : decode cX12_image 9 = .ok (.iconst 0, 1) := by decide +kernel
theorem dX12_image_10 : decode cX12_image 10 = .ok (.istore_n 1, 1) := by decide +kernel
theorem dX12_image_11 : decode cX12_image 11 = .ok (.iload_n 1, 1) := by decide +kernel
theorem dX12_image_12 : decode cX12_image 12 = .ok (.sipush 160, 3) := by decide +kernel
theorem dX12_image_15 : decode cX12_image 15 = .ok (.if_icmp .ge 21, 3) := by decide +kernel
theorem dX12_image_18 : decode cX12_image 18 = .ok (.aload_n 0, 1) := by decide +kernel
theorem dX12_image_19 : decode cX12_image 19 = .ok (.getfield 89, 3) := by decide +kernel
theorem dX12_image_22 : decode cX12_image 22 = .ok (.iload_n 1, 1) := by decide +kernel
theorem dX12_image_23 : decode cX12_image 23 = .ok (.aload_n 0, 1) := by decide +kernel
theorem dX12_image_24 : decode cX12_image 24 = .ok (.getfield 64, 3) := by decide +kernel
theorem dX12_image_27 : decode cX12_image 27 = .ok (.iload_n 1, 1) := by decide +kernel
theorem dX12_image_28 : decode cX12_image 28 = .ok (.iaload, 1) := by decide +kernel
theorem dX12_image_29 : decode cX12_image 29 = .ok (.iastore, 1) := by decide +kernel
theorem dX12_image_30 : decode cX12_image 30 = .ok (.iinc 1 1, 3) := by decide +kernel
theorem dX12_image_33 : decode cX12_image 33 = .ok (.goto (-22), 3) := by decide +kernel
theorem dX12_image_36 : decode cX12_image 36 = .ok (.aload_n 0, 1) := by decide +kernel
theorem dX12_image_37 : decode cX12_image 37 = .ok (.iconst 1, 1) := by decide +kernel
theorem dX12_image_38 : decode cX12_image 38 = .ok (.putfield 272, 3) := by decide +kernel
theorem dX12_image_41 : decode cX12_image 41 = .ok (.aload_n 0, 1) := by decide +kernel
theorem dX12_image_42 : decode cX12_image 42 = .ok (.getfield 64, 3) := by decide +kernel
theorem dX12_image_45 : decode cX12_image 45 = .ok (.bipush 38, 2) := by decide +kernel
theorem dX12_image_47 : decode cX12_image 47 = .ok (.iaload, 1) := by decide +kernel
theorem dX12_image_48 : decode cX12_image 48 = .ok (.ireturn, 1) := by decide +kernel
theorem dX12_back_0 : decode cX12_back 0 = .ok (.aload_n 0, 1) := by decide +kernel
theorem dX12_back_1 : decode cX12_back 1 = .ok (.getfield 272, 3) := by decide +kernel
theorem dX12_back_4 : decode cX12_back 4 = .ok (.ifCond .ne 5, 3) := by decide +kernel
theorem dX12_back_7 : decode cX12_back 7 = .ok (.iconst (-1), 1) := by decide +kernel
theorem dX12_back_8 : decode cX12_back 8 = .ok (.ireturn, 1) := by decide +kernel
theorem dX12_back_9 : decode cX12_back 9 = .ok (.iconst 0, 1) := by decide +kernel
theorem dX12_back_10 : decode cX12_back 10 = .ok (.istore_n 1, 1) := by decide +kernel
theorem dX12_back_11 : decode cX12_back 11 = .ok (.iload_n 1, 1) := by decide +kernel
theorem dX12_back_12 : decode cX12_back 12 = .ok (.sipush 160, 3) := by decide +kernel
theorem dX12_back_15 : decode cX12_back 15 = .ok (.if_icmp .ge 21, 3) := by decide +kernel
theorem dX12_back_18 : decode cX12_back 18 = .ok (.aload_n 0, 1) := by decide +kernel
theorem dX12_back_19 : decode cX12_back 19 = .ok (.getfield 64, 3) := by decide +kernel
theorem dX12_back_22 : decode cX12_back 22 = .ok (.iload_n 1, 1) := by decide +kernel
theorem dX12_back_23 : decode cX12_back 23 = .ok (.aload_n 0, 1) := by decide +kernel
theorem dX12_back_24 : decode cX12_back 24 = .ok (.getfield 89, 3) := by decide +kernel
theorem dX12_back_27 : decode cX12_back 27 = .ok (.iload_n 1, 1) := by decide +kernel
theorem dX12_back_28 : decode cX12_back 28 = .ok (.iaload, 1) := by decide +kernel
theorem dX12_back_29 : decode cX12_back 29 = .ok (.iastore, 1) := by decide +kernel
theorem dX12_back_30 : decode cX12_back 30 = .ok (.iinc 1 1, 3) := by decide +kernel
theorem dX12_back_33 : decode cX12_back 33 = .ok (.goto (-22), 3) := by decide +kernel
theorem dX12_back_36 : decode cX12_back 36 = .ok (.aload_n 0, 1) := by decide +kernel
theorem dX12_back_37 : decode cX12_back 37 = .ok (.iconst 0, 1) := by decide +kernel
theorem dX12_back_38 : decode cX12_back 38 = .ok (.putfield 269, 3) := by decide +kernel
theorem dX12_back_41 : decode cX12_back 41 = .ok (.aload_n 0, 1) := by decide +kernel
theorem dX12_back_42 : decode cX12_back 42 = .ok (.getfield 64, 3) := by decide +kernel
theorem dX12_back_45 : decode cX12_back 45 = .ok (.bipush 38, 2) := by decide +kernel
theorem dX12_back_47 : decode cX12_back 47 = .ok (.iaload, 1) := by decide +kernel
theorem dX12_back_48 : decode cX12_back 48 = .ok (.ireturn, 1) := by decide +kernel
theorem dX12_count_0 : decode cX12_count 0 = .ok (.iload_n 1, 1) := by decide +kernel
theorem dX12_count_1 : decode cX12_count 1 = .ok (.tableswitch 141 0 12 #[67, 72, 77, 82, 87, 92, 97, 105, 113, 118, 123, 128, 136], 67) := by decide +kernel
theorem dX12_count_68 : decode cX12_count 68 = .ok (.aload_n 0, 1) := by decide +kernel
theorem dX12_count_69 : decode cX12_count 69 = .ok (.getfield 260, 3) := by decide +kernel
theorem dX12_count_72 : decode cX12_count 72 = .ok (.ireturn, 1) := by decide +kernel
theorem dX12_count_73 : decode cX12_count 73 = .ok (.aload_n 0, 1) := by decide +kernel
theorem dX12_count_74 : decode cX12_count 74 = .ok (.getfield 257, 3) := by decide +kernel
theorem dX12_count_77 : decode cX12_count 77 = .ok (.ireturn, 1) := by decide +kernel
theorem dX12_count_78 : decode cX12_count 78 = .ok (.aload_n 0, 1) := by decide +kernel
theorem dX12_count_79 : decode cX12_count 79 = .ok (.getfield 263, 3) := by decide +kernel
theorem dX12_count_82 : decode cX12_count 82 = .ok (.ireturn, 1) := by decide +kernel
theorem dX12_count_83 : decode cX12_count 83 = .ok (.aload_n 0, 1) := by decide +kernel
theorem dX12_count_84 : decode cX12_count 84 = .ok (.getfield 279, 3) := by decide +kernel
theorem dX12_count_87 : decode cX12_count 87 = .ok (.ireturn, 1) := by decide +kernel
theorem dX12_count_88 : decode cX12_count 88 = .ok (.aload_n 0, 1) := by decide +kernel
theorem dX12_count_89 : decode cX12_count 89 = .ok (.getfield 99, 3) := by decide +kernel
theorem dX12_count_92 : decode cX12_count 92 = .ok (.ireturn, 1) := by decide +kernel
theorem dX12_count_93 : decode cX12_count 93 = .ok (.aload_n 0, 1) := by decide +kernel
theorem dX12_count_94 : decode cX12_count 94 = .ok (.getfield 70, 3) := by decide +kernel
theorem dX12_count_97 : decode cX12_count 97 = .ok (.ireturn, 1) := by decide +kernel
theorem dX12_count_98 : decode cX12_count 98 = .ok (.aload_n 0, 1) := by decide +kernel
theorem dX12_count_99 : decode cX12_count 99 = .ok (.getfield 64, 3) := by decide +kernel
theorem dX12_count_102 : decode cX12_count 102 = .ok (.bipush 38, 2) := by decide +kernel
theorem dX12_count_104 : decode cX12_count 104 = .ok (.iaload, 1) := by decide +kernel
theorem dX12_count_105 : decode cX12_count 105 = .ok (.ireturn, 1) := by decide +kernel
theorem dX12_count_106 : decode cX12_count 106 = .ok (.aload_n 0, 1) := by decide +kernel
theorem dX12_count_107 : decode cX12_count 107 = .ok (.getfield 64, 3) := by decide +kernel
theorem dX12_count_110 : decode cX12_count 110 = .ok (.bipush 37, 2) := by decide +kernel
theorem dX12_count_112 : decode cX12_count 112 = .ok (.iaload, 1) := by decide +kernel
theorem dX12_count_113 : decode cX12_count 113 = .ok (.ireturn, 1) := by decide +kernel
theorem dX12_count_114 : decode cX12_count 114 = .ok (.aload_n 0, 1) := by decide +kernel
theorem dX12_count_115 : decode cX12_count 115 = .ok (.invokevirtual 309, 3) := by decide +kernel
theorem dX12_count_118 : decode cX12_count 118 = .ok (.ireturn, 1) := by decide +kernel
theorem dX12_count_119 : decode cX12_count 119 = .ok (.aload_n 0, 1) := by decide +kernel
theorem dX12_count_120 : decode cX12_count 120 = .ok (.getfield 74, 3) := by decide +kernel
theorem dX12_count_123 : decode cX12_count 123 = .ok (.ireturn, 1) := by decide +kernel
theorem dX12_count_124 : decode cX12_count 124 = .ok (.aload_n 0, 1) := by decide +kernel
theorem dX12_count_125 : decode cX12_count 125 = .ok (.getfield 266, 3) := by decide +kernel
theorem dX12_count_128 : decode cX12_count 128 = .ok (.ireturn, 1) := by decide +kernel
theorem dX12_count_129 : decode cX12_count 129 = .ok (.aload_n 0, 1) := by decide +kernel
theorem dX12_count_130 : decode cX12_count 130 = .ok (.getfield 64, 3) := by decide +kernel
theorem dX12_count_133 : decode cX12_count 133 = .ok (.bipush 39, 2) := by decide +kernel
theorem dX12_count_135 : decode cX12_count 135 = .ok (.iaload, 1) := by decide +kernel
theorem dX12_count_136 : decode cX12_count 136 = .ok (.ireturn, 1) := by decide +kernel
theorem dX12_count_137 : decode cX12_count 137 = .ok (.aload_n 0, 1) := by decide +kernel
theorem dX12_count_138 : decode cX12_count 138 = .ok (.getfield 269, 3) := by decide +kernel
theorem dX12_count_141 : decode cX12_count 141 = .ok (.ireturn, 1) := by decide +kernel
theorem dX12_count_142 : decode cX12_count 142 = .ok (.ldc_w 429, 3) := by decide +kernel
theorem dX12_count_145 : decode cX12_count 145 = .ok (.ireturn, 1) := by decide +kernel
theorem dJ6_bitCount_0f7a4_0 : decode cJ6_bitCount_0f7a4 0 = .ok (.iload_n 0, 1) := by decide +kernel
theorem dJ6_bitCount_0f7a4_1 : decode cJ6_bitCount_0f7a4 1 = .ok (.iload_n 0, 1) := by decide +kernel
theorem dJ6_bitCount_0f7a4_2 : decode cJ6_bitCount_0f7a4 2 = .ok (.iconst 1, 1) := by decide +kernel
theorem dJ6_bitCount_0f7a4_3 : decode cJ6_bitCount_0f7a4 3 = .ok (.iushr, 1) := by decide +kernel
theorem dJ6_bitCount_0f7a4_4 : decode cJ6_bitCount_0f7a4 4 = .ok (.ldc_w 265, 3) := by decide +kernel
theorem dJ6_bitCount_0f7a4_7 : decode cJ6_bitCount_0f7a4 7 = .ok (.iand, 1) := by decide +kernel
theorem dJ6_bitCount_0f7a4_8 : decode cJ6_bitCount_0f7a4 8 = .ok (.isub, 1) := by decide +kernel
theorem dJ6_bitCount_0f7a4_9 : decode cJ6_bitCount_0f7a4 9 = .ok (.istore_n 0, 1) := by decide +kernel
theorem dJ6_bitCount_0f7a4_10 : decode cJ6_bitCount_0f7a4 10 = .ok (.iload_n 0, 1) := by decide +kernel
theorem dJ6_bitCount_0f7a4_11 : decode cJ6_bitCount_0f7a4 11 = .ok (.ldc_w 266, 3) := by decide +kernel
theorem dJ6_bitCount_0f7a4_14 : decode cJ6_bitCount_0f7a4 14 = .ok (.iand, 1) := by decide +kernel
theorem dJ6_bitCount_0f7a4_15 : decode cJ6_bitCount_0f7a4 15 = .ok (.iload_n 0, 1) := by decide +kernel
theorem dJ6_bitCount_0f7a4_16 : decode cJ6_bitCount_0f7a4 16 = .ok (.iconst 2, 1) := by decide +kernel
theorem dJ6_bitCount_0f7a4_17 : decode cJ6_bitCount_0f7a4 17 = .ok (.iushr, 1) := by decide +kernel
theorem dJ6_bitCount_0f7a4_18 : decode cJ6_bitCount_0f7a4 18 = .ok (.ldc_w 266, 3) := by decide +kernel
theorem dJ6_bitCount_0f7a4_21 : decode cJ6_bitCount_0f7a4 21 = .ok (.iand, 1) := by decide +kernel
theorem dJ6_bitCount_0f7a4_22 : decode cJ6_bitCount_0f7a4 22 = .ok (.iadd, 1) := by decide +kernel
theorem dJ6_bitCount_0f7a4_23 : decode cJ6_bitCount_0f7a4 23 = .ok (.istore_n 0, 1) := by decide +kernel
theorem dJ6_bitCount_0f7a4_24 : decode cJ6_bitCount_0f7a4 24 = .ok (.iload_n 0, 1) := by decide +kernel
theorem dJ6_bitCount_0f7a4_25 : decode cJ6_bitCount_0f7a4 25 = .ok (.iload_n 0, 1) := by decide +kernel
theorem dJ6_bitCount_0f7a4_26 : decode cJ6_bitCount_0f7a4 26 = .ok (.iconst 4, 1) := by decide +kernel
theorem dJ6_bitCount_0f7a4_27 : decode cJ6_bitCount_0f7a4 27 = .ok (.iushr, 1) := by decide +kernel
theorem dJ6_bitCount_0f7a4_28 : decode cJ6_bitCount_0f7a4 28 = .ok (.iadd, 1) := by decide +kernel
theorem dJ6_bitCount_0f7a4_29 : decode cJ6_bitCount_0f7a4 29 = .ok (.ldc_w 267, 3) := by decide +kernel
theorem dJ6_bitCount_0f7a4_32 : decode cJ6_bitCount_0f7a4 32 = .ok (.iand, 1) := by decide +kernel
theorem dJ6_bitCount_0f7a4_33 : decode cJ6_bitCount_0f7a4 33 = .ok (.istore_n 0, 1) := by decide +kernel
theorem dJ6_bitCount_0f7a4_34 : decode cJ6_bitCount_0f7a4 34 = .ok (.iload_n 0, 1) := by decide +kernel
theorem dJ6_bitCount_0f7a4_35 : decode cJ6_bitCount_0f7a4 35 = .ok (.iload_n 0, 1) := by decide +kernel
theorem dJ6_bitCount_0f7a4_36 : decode cJ6_bitCount_0f7a4 36 = .ok (.bipush 8, 2) := by decide +kernel
theorem dJ6_bitCount_0f7a4_38 : decode cJ6_bitCount_0f7a4 38 = .ok (.iushr, 1) := by decide +kernel
theorem dJ6_bitCount_0f7a4_39 : decode cJ6_bitCount_0f7a4 39 = .ok (.iadd, 1) := by decide +kernel
theorem dJ6_bitCount_0f7a4_40 : decode cJ6_bitCount_0f7a4 40 = .ok (.istore_n 0, 1) := by decide +kernel
theorem dJ6_bitCount_0f7a4_41 : decode cJ6_bitCount_0f7a4 41 = .ok (.iload_n 0, 1) := by decide +kernel
theorem dJ6_bitCount_0f7a4_42 : decode cJ6_bitCount_0f7a4 42 = .ok (.iload_n 0, 1) := by decide +kernel
theorem dJ6_bitCount_0f7a4_43 : decode cJ6_bitCount_0f7a4 43 = .ok (.bipush 16, 2) := by decide +kernel
theorem dJ6_bitCount_0f7a4_45 : decode cJ6_bitCount_0f7a4 45 = .ok (.iushr, 1) := by decide +kernel
theorem dJ6_bitCount_0f7a4_46 : decode cJ6_bitCount_0f7a4 46 = .ok (.iadd, 1) := by decide +kernel
theorem dJ6_bitCount_0f7a4_47 : decode cJ6_bitCount_0f7a4 47 = .ok (.istore_n 0, 1) := by decide +kernel
theorem dJ6_bitCount_0f7a4_48 : decode cJ6_bitCount_0f7a4 48 = .ok (.iload_n 0, 1) := by decide +kernel
theorem dJ6_bitCount_0f7a4_49 : decode cJ6_bitCount_0f7a4 49 = .ok (.bipush 63, 2) := by decide +kernel
theorem dJ6_bitCount_0f7a4_51 : decode cJ6_bitCount_0f7a4 51 = .ok (.iand, 1) := by decide +kernel
theorem dJ6_bitCount_0f7a4_52 : decode cJ6_bitCount_0f7a4 52 = .ok (.ireturn, 1) := by decide +kernel
theorem dJ9_floorMod_7cf53_0 : decode cJ9_floorMod_7cf53 0 = .ok (.iload_n 0, 1) := by decide +kernel
theorem dJ9_floorMod_7cf53_1 : decode cJ9_floorMod_7cf53 1 = .ok (.iload_n 1, 1) := by decide +kernel
theorem dJ9_floorMod_7cf53_2 : decode cJ9_floorMod_7cf53 2 = .ok (.irem, 1) := by decide +kernel
theorem dJ9_floorMod_7cf53_3 : decode cJ9_floorMod_7cf53 3 = .ok (.istore_n 2, 1) := by decide +kernel
theorem dJ9_floorMod_7cf53_4 : decode cJ9_floorMod_7cf53 4 = .ok (.iload_n 0, 1) := by decide +kernel
theorem dJ9_floorMod_7cf53_5 : decode cJ9_floorMod_7cf53 5 = .ok (.iload_n 1, 1) := by decide +kernel
theorem dJ9_floorMod_7cf53_6 : decode cJ9_floorMod_7cf53 6 = .ok (.ixor, 1) := by decide +kernel
theorem dJ9_floorMod_7cf53_7 : decode cJ9_floorMod_7cf53 7 = .ok (.ifCond .ge 11, 3) := by decide +kernel
theorem dJ9_floorMod_7cf53_10 : decode cJ9_floorMod_7cf53 10 = .ok (.iload_n 2, 1) := by decide +kernel
theorem dJ9_floorMod_7cf53_11 : decode cJ9_floorMod_7cf53 11 = .ok (.ifCond .eq 7, 3) := by decide +kernel
theorem dJ9_floorMod_7cf53_14 : decode cJ9_floorMod_7cf53 14 = .ok (.iload_n 2, 1) := by decide +kernel
theorem dJ9_floorMod_7cf53_15 : decode cJ9_floorMod_7cf53 15 = .ok (.iload_n 1, 1) := by decide +kernel
theorem dJ9_floorMod_7cf53_16 : decode cJ9_floorMod_7cf53 16 = .ok (.iadd, 1) := by decide +kernel
theorem dJ9_floorMod_7cf53_17 : decode cJ9_floorMod_7cf53 17 = .ok (.ireturn, 1) := by decide +kernel
theorem dJ9_floorMod_7cf53_18 : decode cJ9_floorMod_7cf53 18 = .ok (.iload_n 2, 1) := by decide +kernel
theorem dJ9_floorMod_7cf53_19 : decode cJ9_floorMod_7cf53 19 = .ok (.ireturn, 1) := by decide +kernel
theorem dJ9_max_7cf53_0 : decode cJ9_max_7cf53 0 = .ok (.iload_n 0, 1) := by decide +kernel
theorem dJ9_max_7cf53_1 : decode cJ9_max_7cf53 1 = .ok (.iload_n 1, 1) := by decide +kernel
theorem dJ9_max_7cf53_2 : decode cJ9_max_7cf53 2 = .ok (.if_icmp .lt 7, 3) := by decide +kernel
theorem dJ9_max_7cf53_5 : decode cJ9_max_7cf53 5 = .ok (.iload_n 0, 1) := by decide +kernel
theorem dJ9_max_7cf53_6 : decode cJ9_max_7cf53 6 = .ok (.goto 4, 3) := by decide +kernel
theorem dJ9_max_7cf53_9 : decode cJ9_max_7cf53 9 = .ok (.iload_n 1, 1) := by decide +kernel
theorem dJ9_max_7cf53_10 : decode cJ9_max_7cf53 10 = .ok (.ireturn, 1) := by decide +kernel
theorem dJ9_max_f86c9_0 : decode cJ9_max_f86c9 0 = .ok (.lload_n 0, 1) := by decide +kernel
theorem dJ9_max_f86c9_1 : decode cJ9_max_f86c9 1 = .ok (.lload_n 2, 1) := by decide +kernel
theorem dJ9_max_f86c9_2 : decode cJ9_max_f86c9 2 = .ok (.lcmp, 1) := by decide +kernel
theorem dJ9_max_f86c9_3 : decode cJ9_max_f86c9 3 = .ok (.ifCond .lt 7, 3) := by decide +kernel
theorem dJ9_max_f86c9_6 : decode cJ9_max_f86c9 6 = .ok (.lload_n 0, 1) := by decide +kernel
theorem dJ9_max_f86c9_7 : decode cJ9_max_f86c9 7 = .ok (.goto 4, 3) := by decide +kernel
theorem dJ9_max_f86c9_10 : decode cJ9_max_f86c9 10 = .ok (.lload_n 2, 1) := by decide +kernel
theorem dJ9_max_f86c9_11 : decode cJ9_max_f86c9 11 = .ok (.lreturn, 1) := by decide +kernel
theorem dJ9_min_7cf53_0 : decode cJ9_min_7cf53 0 = .ok (.iload_n 0, 1) := by decide +kernel
theorem dJ9_min_7cf53_1 : decode cJ9_min_7cf53 1 = .ok (.iload_n 1, 1) := by decide +kernel
theorem dJ9_min_7cf53_2 : decode cJ9_min_7cf53 2 = .ok (.if_icmp .gt 7, 3) := by decide +kernel
theorem dJ9_min_7cf53_5 : decode cJ9_min_7cf53 5 = .ok (.iload_n 0, 1) := by decide +kernel
theorem dJ9_min_7cf53_6 : decode cJ9_min_7cf53 6 = .ok (.goto 4, 3) := by decide +kernel
theorem dJ9_min_7cf53_9 : decode cJ9_min_7cf53 9 = .ok (.iload_n 1, 1) := by decide +kernel
theorem dJ9_min_7cf53_10 : decode cJ9_min_7cf53 10 = .ok (.ireturn, 1) := by decide +kernel
theorem dJ9_min_f86c9_0 : decode cJ9_min_f86c9 0 = .ok (.lload_n 0, 1) := by decide +kernel
theorem dJ9_min_f86c9_1 : decode cJ9_min_f86c9 1 = .ok (.lload_n 2, 1) := by decide +kernel
theorem dJ9_min_f86c9_2 : decode cJ9_min_f86c9 2 = .ok (.lcmp, 1) := by decide +kernel
theorem dJ9_min_f86c9_3 : decode cJ9_min_f86c9 3 = .ok (.ifCond .gt 7, 3) := by decide +kernel
theorem dJ9_min_f86c9_6 : decode cJ9_min_f86c9 6 = .ok (.lload_n 0, 1) := by decide +kernel
theorem dJ9_min_f86c9_7 : decode cJ9_min_f86c9 7 = .ok (.goto 4, 3) := by decide +kernel
theorem dJ9_min_f86c9_10 : decode cJ9_min_f86c9 10 = .ok (.lload_n 2, 1) := by decide +kernel
theorem dJ9_min_f86c9_11 : decode cJ9_min_f86c9 11 = .ok (.lreturn, 1) := by decide +kernel
theorem dL_name_0 : decode cL_name 0 = .ok (.aload_n 3, 1) := by decide +kernel
theorem dL_name_1 : decode cL_name 1 = .ok (.iconst 0, 1) := by decide +kernel
theorem dL_name_2 : decode cL_name 2 = .ok (.aload_n 0, 1) := by decide +kernel
theorem dL_name_3 : decode cL_name 3 = .ok (.iload_n 1, 1) := by decide +kernel
theorem dL_name_4 : decode cL_name 4 = .ok (.iload_n 2, 1) := by decide +kernel
theorem dL_name_5 : decode cL_name 5 = .ok (.invokevirtual 7, 3) := by decide +kernel
theorem dL_name_8 : decode cL_name 8 = .ok (.i2l, 1) := by decide +kernel
theorem dL_name_9 : decode cL_name 9 = .ok (.lastore, 1) := by decide +kernel
theorem dL_name_10 : decode cL_name 10 = .ok (.goto 7, 3) := by decide +kernel
theorem dL_name_13 : decode cL_name 13 = .ok (.astore 4, 2) := by decide +kernel
theorem dL_name_15 : decode cL_name 15 = .ok (.iconst 1, 1) := by decide +kernel
theorem dL_name_16 : decode cL_name 16 = .ok (.ireturn, 1) := by decide +kernel
theorem dL_name_17 : decode cL_name 17 = .ok (.iconst 0, 1) := by decide +kernel
theorem dL_name_18 : decode cL_name 18 = .ok (.ireturn, 1) := by decide +kernel
theorem dL_law_0 : decode cL_law 0 = .ok (.new 8, 3) := by decide +kernel
theorem dL_law_3 : decode cL_law 3 = .ok (.dup, 1) := by decide +kernel
theorem dL_law_4 : decode cL_law 4 = .ok (.invokespecial 15, 3) := by decide +kernel
theorem dL_law_7 : decode cL_law 7 = .ok (.astore_n 1, 1) := by decide +kernel
theorem dL_law_8 : decode cL_law 8 = .ok (.new 16, 3) := by decide +kernel
theorem dL_law_11 : decode cL_law 11 = .ok (.dup, 1) := by decide +kernel
theorem dL_law_12 : decode cL_law 12 = .ok (.invokespecial 18, 3) := by decide +kernel
theorem dL_law_15 : decode cL_law 15 = .ok (.astore_n 2, 1) := by decide +kernel
theorem dL_law_16 : decode cL_law 16 = .ok (.iconst 1, 1) := by decide +kernel
theorem dL_law_17 : decode cL_law 17 = .ok (.newarray .long, 2) := by decide +kernel
theorem dL_law_19 : decode cL_law 19 = .ok (.astore_n 3, 1) := by decide +kernel
theorem dL_law_20 : decode cL_law 20 = .ok (.iconst 0, 1) := by decide +kernel
theorem dL_law_21 : decode cL_law 21 = .ok (.istore 4, 2) := by decide +kernel
theorem dL_law_23 : decode cL_law 23 = .ok (.iload 4, 2) := by decide +kernel
theorem dL_law_25 : decode cL_law 25 = .ok (.aload_n 0, 1) := by decide +kernel
theorem dL_law_26 : decode cL_law 26 = .ok (.arraylength, 1) := by decide +kernel
theorem dL_law_27 : decode cL_law 27 = .ok (.bipush 7, 2) := by decide +kernel
theorem dL_law_29 : decode cL_law 29 = .ok (.isub, 1) := by decide +kernel
theorem dL_law_30 : decode cL_law 30 = .ok (.if_icmp .gt 1492, 3) := by decide +kernel
theorem dL_law_33 : decode cL_law 33 = .ok (.aload_n 0, 1) := by decide +kernel
theorem dL_law_34 : decode cL_law 34 = .ok (.iload 4, 2) := by decide +kernel
theorem dL_law_36 : decode cL_law 36 = .ok (.iaload, 1) := by decide +kernel
theorem dL_law_37 : decode cL_law 37 = .ok (.bipush 63, 2) := by decide +kernel
theorem dL_law_39 : decode cL_law 39 = .ok (.iand, 1) := by decide +kernel
theorem dL_law_40 : decode cL_law 40 = .ok (.tableswitch 1476 0 38 #[172, 245, 270, 295, 320, 345, 413, 450, 487, 512, 549, 586, 611, 636, 661, 686, 711, 736, 805, 830, 843, 880, 917, 942, 979, 1004, 1041, 1078, 1103, 1128, 1215, 1276, 1313, 1350, 1375, 1400, 1425, 1438, 1451], 172) := by decide +kernel
theorem dL_law_212 : decode cL_law 212 = .ok (.aload_n 1, 1) := by decide +kernel
theorem dL_law_213 : decode cL_law 213 = .ok (.aload_n 0, 1) := by decide +kernel
theorem dL_law_214 : decode cL_law 214 = .ok (.iload 4, 2) := by decide +kernel
theorem dL_law_216 : decode cL_law 216 = .ok (.iconst 1, 1) := by decide +kernel
theorem dL_law_217 : decode cL_law 217 = .ok (.iadd, 1) := by decide +kernel
theorem dL_law_218 : decode cL_law 218 = .ok (.iaload, 1) := by decide +kernel
theorem dL_law_219 : decode cL_law 219 = .ok (.aload_n 0, 1) := by decide +kernel
theorem dL_law_220 : decode cL_law 220 = .ok (.iload 4, 2) := by decide +kernel
theorem dL_law_222 : decode cL_law 222 = .ok (.iconst 2, 1) := by decide +kernel
theorem dL_law_223 : decode cL_law 223 = .ok (.iadd, 1) := by decide +kernel
theorem dL_law_224 : decode cL_law 224 = .ok (.iaload, 1) := by decide +kernel
theorem dL_law_225 : decode cL_law 225 = .ok (.aload_n 0, 1) := by decide +kernel
theorem dL_law_226 : decode cL_law 226 = .ok (.iload 4, 2) := by decide +kernel
theorem dL_law_228 : decode cL_law 228 = .ok (.iconst 3, 1) := by decide +kernel
theorem dL_law_229 : decode cL_law 229 = .ok (.iadd, 1) := by decide +kernel
theorem dL_law_230 : decode cL_law 230 = .ok (.iaload, 1) := by decide +kernel
theorem dL_law_231 : decode cL_law 231 = .ok (.aload_n 0, 1) := by decide +kernel
theorem dL_law_232 : decode cL_law 232 = .ok (.iload 4, 2) := by decide +kernel
theorem dL_law_234 : decode cL_law 234 = .ok (.iconst 4, 1) := by decide +kernel
theorem dL_law_235 : decode cL_law 235 = .ok (.iadd, 1) := by decide +kernel
theorem dL_law_236 : decode cL_law 236 = .ok (.iaload, 1) := by decide +kernel
theorem dL_law_237 : decode cL_law 237 = .ok (.aload_n 0, 1) := by decide +kernel
theorem dL_law_238 : decode cL_law 238 = .ok (.iload 4, 2) := by decide +kernel
theorem dL_law_240 : decode cL_law 240 = .ok (.iconst 5, 1) := by decide +kernel
theorem dL_law_241 : decode cL_law 241 = .ok (.iadd, 1) := by decide +kernel
theorem dL_law_242 : decode cL_law 242 = .ok (.iaload, 1) := by decide +kernel
theorem dL_law_243 : decode cL_law 243 = .ok (.invokevirtual 19, 3) := by decide +kernel
theorem dL_law_246 : decode cL_law 246 = .ok (.aload_n 2, 1) := by decide +kernel
theorem dL_law_247 : decode cL_law 247 = .ok (.aload_n 0, 1) := by decide +kernel
theorem dL_law_248 : decode cL_law 248 = .ok (.iload 4, 2) := by decide +kernel
theorem dL_law_250 : decode cL_law 250 = .ok (.iconst 1, 1) := by decide +kernel
theorem dL_law_251 : decode cL_law 251 = .ok (.iadd, 1) := by decide +kernel
theorem dL_law_252 : decode cL_law 252 = .ok (.iaload, 1) := by decide +kernel
theorem dL_law_253 : decode cL_law 253 = .ok (.aload_n 0, 1) := by decide +kernel
theorem dL_law_254 : decode cL_law 254 = .ok (.iload 4, 2) := by decide +kernel
theorem dL_law_256 : decode cL_law 256 = .ok (.iconst 2, 1) := by decide +kernel
theorem dL_law_257 : decode cL_law 257 = .ok (.iadd, 1) := by decide +kernel
theorem dL_law_258 : decode cL_law 258 = .ok (.iaload, 1) := by decide +kernel
theorem dL_law_259 : decode cL_law 259 = .ok (.aload_n 0, 1) := by decide +kernel
theorem dL_law_260 : decode cL_law 260 = .ok (.iload 4, 2) := by decide +kernel
theorem dL_law_262 : decode cL_law 262 = .ok (.iconst 3, 1) := by decide +kernel
theorem dL_law_263 : decode cL_law 263 = .ok (.iadd, 1) := by decide +kernel
theorem dL_law_264 : decode cL_law 264 = .ok (.iaload, 1) := by decide +kernel
theorem dL_law_265 : decode cL_law 265 = .ok (.aload_n 0, 1) := by decide +kernel
theorem dL_law_266 : decode cL_law 266 = .ok (.iload 4, 2) := by decide +kernel
theorem dL_law_268 : decode cL_law 268 = .ok (.iconst 4, 1) := by decide +kernel
theorem dL_law_269 : decode cL_law 269 = .ok (.iadd, 1) := by decide +kernel
theorem dL_law_270 : decode cL_law 270 = .ok (.iaload, 1) := by decide +kernel
theorem dL_law_271 : decode cL_law 271 = .ok (.aload_n 0, 1) := by decide +kernel
theorem dL_law_272 : decode cL_law 272 = .ok (.iload 4, 2) := by decide +kernel
theorem dL_law_274 : decode cL_law 274 = .ok (.iconst 5, 1) := by decide +kernel
theorem dL_law_275 : decode cL_law 275 = .ok (.iadd, 1) := by decide +kernel
theorem dL_law_276 : decode cL_law 276 = .ok (.iaload, 1) := by decide +kernel
theorem dL_law_277 : decode cL_law 277 = .ok (.invokevirtual 23, 3) := by decide +kernel
theorem dL_law_280 : decode cL_law 280 = .ok (.if_icmp .eq 1236, 3) := by decide +kernel
theorem dL_law_283 : decode cL_law 283 = .ok (.iconst 0, 1) := by decide +kernel
theorem dL_law_284 : decode cL_law 284 = .ok (.ireturn, 1) := by decide +kernel
theorem dL_law_285 : decode cL_law 285 = .ok (.aload_n 1, 1) := by decide +kernel
theorem dL_law_286 : decode cL_law 286 = .ok (.aload_n 0, 1) := by decide +kernel
theorem dL_law_287 : decode cL_law 287 = .ok (.iload 4, 2) := by decide +kernel
theorem dL_law_289 : decode cL_law 289 = .ok (.iconst 1, 1) := by decide +kernel
theorem dL_law_290 : decode cL_law 290 = .ok (.iadd, 1) := by decide +kernel
theorem dL_law_291 : decode cL_law 291 = .ok (.iaload, 1) := by decide +kernel
theorem dL_law_292 : decode cL_law 292 = .ok (.invokevirtual 24, 3) := by decide +kernel
theorem dL_law_295 : decode cL_law 295 = .ok (.aload_n 2, 1) := by decide +kernel
theorem dL_law_296 : decode cL_law 296 = .ok (.aload_n 0, 1) := by decide +kernel
theorem dL_law_297 : decode cL_law 297 = .ok (.iload 4, 2) := by decide +kernel
theorem dL_law_299 : decode cL_law 299 = .ok (.iconst 1, 1) := by decide +kernel
theorem dL_law_300 : decode cL_law 300 = .ok (.iadd, 1) := by decide +kernel
theorem dL_law_301 : decode cL_law 301 = .ok (.iaload, 1) := by decide +kernel
theorem dL_law_302 : decode cL_law 302 = .ok (.invokevirtual 28, 3) := by decide +kernel
theorem dL_law_305 : decode cL_law 305 = .ok (.if_icmp .eq 1211, 3) := by decide +kernel
theorem dL_law_308 : decode cL_law 308 = .ok (.iconst 0, 1) := by decide +kernel
theorem dL_law_309 : decode cL_law 309 = .ok (.ireturn, 1) := by decide +kernel
theorem dL_law_310 : decode cL_law 310 = .ok (.aload_n 1, 1) := by decide +kernel
theorem dL_law_311 : decode cL_law 311 = .ok (.aload_n 0, 1) := by decide +kernel
theorem dL_law_312 : decode cL_law 312 = .ok (.iload 4, 2) := by decide +kernel
theorem dL_law_314 : decode cL_law 314 = .ok (.iconst 1, 1) := by decide +kernel
theorem dL_law_315 : decode cL_law 315 = .ok (.iadd, 1) := by decide +kernel
theorem dL_law_316 : decode cL_law 316 = .ok (.iaload, 1) := by decide +kernel
theorem dL_law_317 : decode cL_law 317 = .ok (.invokevirtual 29, 3) := by decide +kernel
theorem dL_law_320 : decode cL_law 320 = .ok (.aload_n 2, 1) := by decide +kernel
theorem dL_law_321 : decode cL_law 321 = .ok (.aload_n 0, 1) := by decide +kernel
theorem dL_law_322 : decode cL_law 322 = .ok (.iload 4, 2) := by decide +kernel
theorem dL_law_324 : decode cL_law 324 = .ok (.iconst 1, 1) := by decide +kernel
theorem dL_law_325 : decode cL_law 325 = .ok (.iadd, 1) := by decide +kernel
theorem dL_law_326 : decode cL_law 326 = .ok (.iaload, 1) := by decide +kernel
theorem dL_law_327 : decode cL_law 327 = .ok (.invokevirtual 33, 3) := by decide +kernel
theorem dL_law_330 : decode cL_law 330 = .ok (.if_icmp .eq 1186, 3) := by decide +kernel
theorem dL_law_333 : decode cL_law 333 = .ok (.iconst 0, 1) := by decide +kernel
theorem dL_law_334 : decode cL_law 334 = .ok (.ireturn, 1) := by decide +kernel
theorem dL_law_335 : decode cL_law 335 = .ok (.aload_n 1, 1) := by decide +kernel
theorem dL_law_336 : decode cL_law 336 = .ok (.aload_n 0, 1) := by decide +kernel
theorem dL_law_337 : decode cL_law 337 = .ok (.iload 4, 2) := by decide +kernel
theorem dL_law_339 : decode cL_law 339 = .ok (.iconst 1, 1) := by decide +kernel
theorem dL_law_340 : decode cL_law 340 = .ok (.iadd, 1) := by decide +kernel
theorem dL_law_341 : decode cL_law 341 = .ok (.iaload, 1) := by decide +kernel
theorem dL_law_342 : decode cL_law 342 = .ok (.invokevirtual 34, 3) := by decide +kernel
theorem dL_law_345 : decode cL_law 345 = .ok (.aload_n 2, 1) := by decide +kernel
theorem dL_law_346 : decode cL_law 346 = .ok (.aload_n 0, 1) := by decide +kernel
theorem dL_law_347 : decode cL_law 347 = .ok (.iload 4, 2) := by decide +kernel
theorem dL_law_349 : decode cL_law 349 = .ok (.iconst 1, 1) := by decide +kernel
theorem dL_law_350 : decode cL_law 350 = .ok (.iadd, 1) := by decide +kernel
theorem dL_law_351 : decode cL_law 351 = .ok (.iaload, 1) := by decide +kernel
theorem dL_law_352 : decode cL_law 352 = .ok (.invokevirtual 37, 3) := by decide +kernel
theorem dL_law_355 : decode cL_law 355 = .ok (.if_icmp .eq 1161, 3) := by decide +kernel
theorem dL_law_358 : decode cL_law 358 = .ok (.iconst 0, 1) := by decide +kernel
theorem dL_law_359 : decode cL_law 359 = .ok (.ireturn, 1) := by decide +kernel
theorem dL_law_360 : decode cL_law 360 = .ok (.aload_n 1, 1) := by decide +kernel
theorem dL_law_361 : decode cL_law 361 = .ok (.aload_n 0, 1) := by decide +kernel
theorem dL_law_362 : decode cL_law 362 = .ok (.iload 4, 2) := by decide +kernel
theorem dL_law_364 : decode cL_law 364 = .ok (.iconst 1, 1) := by decide +kernel
theorem dL_law_365 : decode cL_law 365 = .ok (.iadd, 1) := by decide +kernel
theorem dL_law_366 : decode cL_law 366 = .ok (.iaload, 1) := by decide +kernel
theorem dL_law_367 : decode cL_law 367 = .ok (.invokevirtual 38, 3) := by decide +kernel
theorem dL_law_370 : decode cL_law 370 = .ok (.aload_n 2, 1) := by decide +kernel
theorem dL_law_371 : decode cL_law 371 = .ok (.aload_n 0, 1) := by decide +kernel
theorem dL_law_372 : decode cL_law 372 = .ok (.iload 4, 2) := by decide +kernel
theorem dL_law_374 : decode cL_law 374 = .ok (.iconst 1, 1) := by decide +kernel
theorem dL_law_375 : decode cL_law 375 = .ok (.iadd, 1) := by decide +kernel
theorem dL_law_376 : decode cL_law 376 = .ok (.iaload, 1) := by decide +kernel
theorem dL_law_377 : decode cL_law 377 = .ok (.invokevirtual 41, 3) := by decide +kernel
theorem dL_law_380 : decode cL_law 380 = .ok (.if_icmp .eq 1136, 3) := by decide +kernel
theorem dL_law_383 : decode cL_law 383 = .ok (.iconst 0, 1) := by decide +kernel
theorem dL_law_384 : decode cL_law 384 = .ok (.ireturn, 1) := by decide +kernel
theorem dL_law_385 : decode cL_law 385 = .ok (.aload_n 1, 1) := by decide +kernel
theorem dL_law_386 : decode cL_law 386 = .ok (.aload_n 0, 1) := by decide +kernel
theorem dL_law_387 : decode cL_law 387 = .ok (.iload 4, 2) := by decide +kernel
theorem dL_law_389 : decode cL_law 389 = .ok (.iconst 1, 1) := by decide +kernel
theorem dL_law_390 : decode cL_law 390 = .ok (.iadd, 1) := by decide +kernel
theorem dL_law_391 : decode cL_law 391 = .ok (.iaload, 1) := by decide +kernel
theorem dL_law_392 : decode cL_law 392 = .ok (.aload_n 0, 1) := by decide +kernel
theorem dL_law_393 : decode cL_law 393 = .ok (.iload 4, 2) := by decide +kernel
theorem dL_law_395 : decode cL_law 395 = .ok (.iconst 2, 1) := by decide +kernel
theorem dL_law_396 : decode cL_law 396 = .ok (.iadd, 1) := by decide +kernel
theorem dL_law_397 : decode cL_law 397 = .ok (.iaload, 1) := by decide +kernel
theorem dL_law_398 : decode cL_law 398 = .ok (.aload_n 3, 1) := by decide +kernel
theorem dL_law_399 : decode cL_law 399 = .ok (.invokestatic 42, 3) := by decide +kernel
theorem dL_law_402 : decode cL_law 402 = .ok (.istore 5, 2) := by decide +kernel
theorem dL_law_404 : decode cL_law 404 = .ok (.aload_n 2, 1) := by decide +kernel
theorem dL_law_405 : decode cL_law 405 = .ok (.aload_n 0, 1) := by decide +kernel
theorem dL_law_406 : decode cL_law 406 = .ok (.iload 4, 2) := by decide +kernel
theorem dL_law_408 : decode cL_law 408 = .ok (.iconst 1, 1) := by decide +kernel
theorem dL_law_409 : decode cL_law 409 = .ok (.iadd, 1) := by decide +kernel
theorem dL_law_410 : decode cL_law 410 = .ok (.iaload, 1) := by decide +kernel
theorem dL_law_411 : decode cL_law 411 = .ok (.aload_n 0, 1) := by decide +kernel
theorem dL_law_412 : decode cL_law 412 = .ok (.iload 4, 2) := by decide +kernel
theorem dL_law_414 : decode cL_law 414 = .ok (.iconst 2, 1) := by decide +kernel
theorem dL_law_415 : decode cL_law 415 = .ok (.iadd, 1) := by decide +kernel
theorem dL_law_416 : decode cL_law 416 = .ok (.iaload, 1) := by decide +kernel
theorem dL_law_417 : decode cL_law 417 = .ok (.invokevirtual 47, 3) := by decide +kernel
theorem dL_law_420 : decode cL_law 420 = .ok (.istore 6, 2) := by decide +kernel
theorem dL_law_422 : decode cL_law 422 = .ok (.aload_n 2, 1) := by decide +kernel
theorem dL_law_423 : decode cL_law 423 = .ok (.invokevirtual 48, 3) := by decide +kernel
theorem dL_law_426 : decode cL_law 426 = .ok (.iload 5, 2) := by decide +kernel
theorem dL_law_428 : decode cL_law 428 = .ok (.if_icmp .eq 5, 3) := by decide +kernel
theorem dL_law_431 : decode cL_law 431 = .ok (.iconst 0, 1) := by decide +kernel
theorem dL_law_432 : decode cL_law 432 = .ok (.ireturn, 1) := by decide +kernel
theorem dL_law_433 : decode cL_law 433 = .ok (.iload 5, 2) := by decide +kernel
theorem dL_law_435 : decode cL_law 435 = .ok (.ifCond .ne 15, 3) := by decide +kernel
theorem dL_law_438 : decode cL_law 438 = .ok (.aload_n 3, 1) := by decide +kernel
theorem dL_law_439 : decode cL_law 439 = .ok (.iconst 0, 1) := by decide +kernel
theorem dL_law_440 : decode cL_law 440 = .ok (.laload, 1) := by decide +kernel
theorem dL_law_441 : decode cL_law 441 = .ok (.iload 6, 2) := by decide +kernel
theorem dL_law_443 : decode cL_law 443 = .ok (.i2l, 1) := by decide +kernel
theorem dL_law_444 : decode cL_law 444 = .ok (.lcmp, 1) := by decide +kernel
theorem dL_law_445 : decode cL_law 445 = .ok (.ifCond .eq 5, 3) := by decide +kernel
theorem dL_law_448 : decode cL_law 448 = .ok (.iconst 0, 1) := by decide +kernel
theorem dL_law_449 : decode cL_law 449 = .ok (.ireturn, 1) := by decide +kernel
theorem dL_law_450 : decode cL_law 450 = .ok (.goto 1066, 3) := by decide +kernel
theorem dL_law_453 : decode cL_law 453 = .ok (.aload_n 1, 1) := by decide +kernel
theorem dL_law_454 : decode cL_law 454 = .ok (.aload_n 0, 1) := by decide +kernel
theorem dL_law_455 : decode cL_law 455 = .ok (.iload 4, 2) := by decide +kernel
theorem dL_law_457 : decode cL_law 457 = .ok (.iconst 1, 1) := by decide +kernel
theorem dL_law_458 : decode cL_law 458 = .ok (.iadd, 1) := by decide +kernel
theorem dL_law_459 : decode cL_law 459 = .ok (.iaload, 1) := by decide +kernel
theorem dL_law_460 : decode cL_law 460 = .ok (.aload_n 0, 1) := by decide +kernel
theorem dL_law_461 : decode cL_law 461 = .ok (.iload 4, 2) := by decide +kernel
theorem dL_law_463 : decode cL_law 463 = .ok (.iconst 2, 1) := by decide +kernel
theorem dL_law_464 : decode cL_law 464 = .ok (.iadd, 1) := by decide +kernel
theorem dL_law_465 : decode cL_law 465 = .ok (.iaload, 1) := by decide +kernel
theorem dL_law_466 : decode cL_law 466 = .ok (.invokevirtual 52, 3) := by decide +kernel
theorem dL_law_469 : decode cL_law 469 = .ok (.aload_n 2, 1) := by decide +kernel
theorem dL_law_470 : decode cL_law 470 = .ok (.aload_n 0, 1) := by decide +kernel
theorem dL_law_471 : decode cL_law 471 = .ok (.iload 4, 2) := by decide +kernel
theorem dL_law_473 : decode cL_law 473 = .ok (.iconst 1, 1) := by decide +kernel
theorem dL_law_474 : decode cL_law 474 = .ok (.iadd, 1) := by decide +kernel
theorem dL_law_475 : decode cL_law 475 = .ok (.iaload, 1) := by decide +kernel
theorem dL_law_476 : decode cL_law 476 = .ok (.aload_n 0, 1) := by decide +kernel
theorem dL_law_477 : decode cL_law 477 = .ok (.iload 4, 2) := by decide +kernel
theorem dL_law_479 : decode cL_law 479 = .ok (.iconst 2, 1) := by decide +kernel
theorem dL_law_480 : decode cL_law 480 = .ok (.iadd, 1) := by decide +kernel
theorem dL_law_481 : decode cL_law 481 = .ok (.iaload, 1) := by decide +kernel
theorem dL_law_482 : decode cL_law 482 = .ok (.invokevirtual 55, 3) := by decide +kernel
theorem dL_law_485 : decode cL_law 485 = .ok (.if_icmp .eq 1031, 3) := by decide +kernel
theorem dL_law_488 : decode cL_law 488 = .ok (.iconst 0, 1) := by decide +kernel
theorem dL_law_489 : decode cL_law 489 = .ok (.ireturn, 1) := by decide +kernel
theorem dL_law_490 : decode cL_law 490 = .ok (.aload_n 1, 1) := by decide +kernel
theorem dL_law_491 : decode cL_law 491 = .ok (.aload_n 0, 1) := by decide +kernel
theorem dL_law_492 : decode cL_law 492 = .ok (.iload 4, 2) := by decide +kernel
theorem dL_law_494 : decode cL_law 494 = .ok (.iconst 1, 1) := by decide +kernel
theorem dL_law_495 : decode cL_law 495 = .ok (.iadd, 1) := by decide +kernel
theorem dL_law_496 : decode cL_law 496 = .ok (.iaload, 1) := by decide +kernel
theorem dL_law_497 : decode cL_law 497 = .ok (.aload_n 0, 1) := by decide +kernel
theorem dL_law_498 : decode cL_law 498 = .ok (.iload 4, 2) := by decide +kernel
theorem dL_law_500 : decode cL_law 500 = .ok (.iconst 2, 1) := by decide +kernel
theorem dL_law_501 : decode cL_law 501 = .ok (.iadd, 1) := by decide +kernel
theorem dL_law_502 : decode cL_law 502 = .ok (.iaload, 1) := by decide +kernel
theorem dL_law_503 : decode cL_law 503 = .ok (.invokevirtual 56, 3) := by decide +kernel
theorem dL_law_506 : decode cL_law 506 = .ok (.aload_n 2, 1) := by decide +kernel
theorem dL_law_507 : decode cL_law 507 = .ok (.aload_n 0, 1) := by decide +kernel
theorem dL_law_508 : decode cL_law 508 = .ok (.iload 4, 2) := by decide +kernel
theorem dL_law_510 : decode cL_law 510 = .ok (.iconst 1, 1) := by decide +kernel
theorem dL_law_511 : decode cL_law 511 = .ok (.iadd, 1) := by decide +kernel
theorem dL_law_512 : decode cL_law 512 = .ok (.iaload, 1) := by decide +kernel
theorem dL_law_513 : decode cL_law 513 = .ok (.aload_n 0, 1) := by decide +kernel
theorem dL_law_514 : decode cL_law 514 = .ok (.iload 4, 2) := by decide +kernel
theorem dL_law_516 : decode cL_law 516 = .ok (.iconst 2, 1) := by decide +kernel
theorem dL_law_517 : decode cL_law 517 = .ok (.iadd, 1) := by decide +kernel
theorem dL_law_518 : decode cL_law 518 = .ok (.iaload, 1) := by decide +kernel
theorem dL_law_519 : decode cL_law 519 = .ok (.invokevirtual 59, 3) := by decide +kernel
theorem dL_law_522 : decode cL_law 522 = .ok (.if_icmp .eq 994, 3) := by decide +kernel
theorem dL_law_525 : decode cL_law 525 = .ok (.iconst 0, 1) := by decide +kernel
theorem dL_law_526 : decode cL_law 526 = .ok (.ireturn, 1) := by decide +kernel
theorem dL_law_527 : decode cL_law 527 = .ok (.aload_n 1, 1) := by decide +kernel
theorem dL_law_528 : decode cL_law 528 = .ok (.aload_n 0, 1) := by decide +kernel
theorem dL_law_529 : decode cL_law 529 = .ok (.iload 4, 2) := by decide +kernel
theorem dL_law_531 : decode cL_law 531 = .ok (.iconst 1, 1) := by decide +kernel
theorem dL_law_532 : decode cL_law 532 = .ok (.iadd, 1) := by decide +kernel
theorem dL_law_533 : decode cL_law 533 = .ok (.iaload, 1) := by decide +kernel
theorem dL_law_534 : decode cL_law 534 = .ok (.invokevirtual 60, 3) := by decide +kernel
theorem dL_law_537 : decode cL_law 537 = .ok (.aload_n 2, 1) := by decide +kernel
theorem dL_law_538 : decode cL_law 538 = .ok (.aload_n 0, 1) := by decide +kernel
theorem dL_law_539 : decode cL_law 539 = .ok (.iload 4, 2) := by decide +kernel
theorem dL_law_541 : decode cL_law 541 = .ok (.iconst 1, 1) := by decide +kernel
theorem dL_law_542 : decode cL_law 542 = .ok (.iadd, 1) := by decide +kernel
theorem dL_law_543 : decode cL_law 543 = .ok (.iaload, 1) := by decide +kernel
theorem dL_law_544 : decode cL_law 544 = .ok (.invokevirtual 63, 3) := by decide +kernel
theorem dL_law_547 : decode cL_law 547 = .ok (.if_icmp .eq 969, 3) := by decide +kernel
theorem dL_law_550 : decode cL_law 550 = .ok (.iconst 0, 1) := by decide +kernel
theorem dL_law_551 : decode cL_law 551 = .ok (.ireturn, 1) := by decide +kernel
theorem dL_law_552 : decode cL_law 552 = .ok (.aload_n 1, 1) := by decide +kernel
theorem dL_law_553 : decode cL_law 553 = .ok (.aload_n 0, 1) := by decide +kernel
theorem dL_law_554 : decode cL_law 554 = .ok (.iload 4, 2) := by decide +kernel
theorem dL_law_556 : decode cL_law 556 = .ok (.iconst 1, 1) := by decide +kernel
theorem dL_law_557 : decode cL_law 557 = .ok (.iadd, 1) := by decide +kernel
theorem dL_law_558 : decode cL_law 558 = .ok (.iaload, 1) := by decide +kernel
theorem dL_law_559 : decode cL_law 559 = .ok (.aload_n 0, 1) := by decide +kernel
theorem dL_law_560 : decode cL_law 560 = .ok (.iload 4, 2) := by decide +kernel
theorem dL_law_562 : decode cL_law 562 = .ok (.iconst 2, 1) := by decide +kernel
theorem dL_law_563 : decode cL_law 563 = .ok (.iadd, 1) := by decide +kernel
theorem dL_law_564 : decode cL_law 564 = .ok (.iaload, 1) := by decide +kernel
theorem dL_law_565 : decode cL_law 565 = .ok (.invokevirtual 64, 3) := by decide +kernel
theorem dL_law_568 : decode cL_law 568 = .ok (.aload_n 2, 1) := by decide +kernel
theorem dL_law_569 : decode cL_law 569 = .ok (.aload_n 0, 1) := by decide +kernel
theorem dL_law_570 : decode cL_law 570 = .ok (.iload 4, 2) := by decide +kernel
theorem dL_law_572 : decode cL_law 572 = .ok (.iconst 1, 1) := by decide +kernel
theorem dL_law_573 : decode cL_law 573 = .ok (.iadd, 1) := by decide +kernel
theorem dL_law_574 : decode cL_law 574 = .ok (.iaload, 1) := by decide +kernel
theorem dL_law_575 : decode cL_law 575 = .ok (.aload_n 0, 1) := by decide +kernel
theorem dL_law_576 : decode cL_law 576 = .ok (.iload 4, 2) := by decide +kernel
theorem dL_law_578 : decode cL_law 578 = .ok (.iconst 2, 1) := by decide +kernel
theorem dL_law_579 : decode cL_law 579 = .ok (.iadd, 1) := by decide +kernel
theorem dL_law_580 : decode cL_law 580 = .ok (.iaload, 1) := by decide +kernel
theorem dL_law_581 : decode cL_law 581 = .ok (.invokevirtual 67, 3) := by decide +kernel
theorem dL_law_584 : decode cL_law 584 = .ok (.if_icmp .eq 932, 3) := by decide +kernel
theorem dL_law_587 : decode cL_law 587 = .ok (.iconst 0, 1) := by decide +kernel
theorem dL_law_588 : decode cL_law 588 = .ok (.ireturn, 1) := by decide +kernel
theorem dL_law_589 : decode cL_law 589 = .ok (.aload_n 1, 1) := by decide +kernel
theorem dL_law_590 : decode cL_law 590 = .ok (.aload_n 0, 1) := by decide +kernel
theorem dL_law_591 : decode cL_law 591 = .ok (.iload 4, 2) := by decide +kernel
theorem dL_law_593 : decode cL_law 593 = .ok (.iconst 1, 1) := by decide +kernel
theorem dL_law_594 : decode cL_law 594 = .ok (.iadd, 1) := by decide +kernel
theorem dL_law_595 : decode cL_law 595 = .ok (.iaload, 1) := by decide +kernel
theorem dL_law_596 : decode cL_law 596 = .ok (.aload_n 0, 1) := by decide +kernel
theorem dL_law_597 : decode cL_law 597 = .ok (.iload 4, 2) := by decide +kernel
theorem dL_law_599 : decode cL_law 599 = .ok (.iconst 2, 1) := by decide +kernel
theorem dL_law_600 : decode cL_law 600 = .ok (.iadd, 1) := by decide +kernel
theorem dL_law_601 : decode cL_law 601 = .ok (.iaload, 1) := by decide +kernel
theorem dL_law_602 : decode cL_law 602 = .ok (.invokevirtual 68, 3) := by decide +kernel
theorem dL_law_605 : decode cL_law 605 = .ok (.aload_n 2, 1) := by decide +kernel
theorem dL_law_606 : decode cL_law 606 = .ok (.aload_n 0, 1) := by decide +kernel
theorem dL_law_607 : decode cL_law 607 = .ok (.iload 4, 2) := by decide +kernel
theorem dL_law_609 : decode cL_law 609 = .ok (.iconst 1, 1) := by decide +kernel
theorem dL_law_610 : decode cL_law 610 = .ok (.iadd, 1) := by decide +kernel
theorem dL_law_611 : decode cL_law 611 = .ok (.iaload, 1) := by decide +kernel
theorem dL_law_612 : decode cL_law 612 = .ok (.aload_n 0, 1) := by decide +kernel
theorem dL_law_613 : decode cL_law 613 = .ok (.iload 4, 2) := by decide +kernel
theorem dL_law_615 : decode cL_law 615 = .ok (.iconst 2, 1) := by decide +kernel
theorem dL_law_616 : decode cL_law 616 = .ok (.iadd, 1) := by decide +kernel
theorem dL_law_617 : decode cL_law 617 = .ok (.iaload, 1) := by decide +kernel
theorem dL_law_618 : decode cL_law 618 = .ok (.invokevirtual 71, 3) := by decide +kernel
theorem dL_law_621 : decode cL_law 621 = .ok (.if_icmp .eq 895, 3) := by decide +kernel
theorem dL_law_624 : decode cL_law 624 = .ok (.iconst 0, 1) := by decide +kernel
theorem dL_law_625 : decode cL_law 625 = .ok (.ireturn, 1) := by decide +kernel
theorem dL_law_626 : decode cL_law 626 = .ok (.aload_n 1, 1) := by decide +kernel
theorem dL_law_627 : decode cL_law 627 = .ok (.aload_n 0, 1) := by decide +kernel
theorem dL_law_628 : decode cL_law 628 = .ok (.iload 4, 2) := by decide +kernel
theorem dL_law_630 : decode cL_law 630 = .ok (.iconst 1, 1) := by decide +kernel
theorem dL_law_631 : decode cL_law 631 = .ok (.iadd, 1) := by decide +kernel
theorem dL_law_632 : decode cL_law 632 = .ok (.iaload, 1) := by decide +kernel
theorem dL_law_633 : decode cL_law 633 = .ok (.invokevirtual 72, 3) := by decide +kernel
theorem dL_law_636 : decode cL_law 636 = .ok (.aload_n 2, 1) := by decide +kernel
theorem dL_law_637 : decode cL_law 637 = .ok (.aload_n 0, 1) := by decide +kernel
theorem dL_law_638 : decode cL_law 638 = .ok (.iload 4, 2) := by decide +kernel
theorem dL_law_640 : decode cL_law 640 = .ok (.iconst 1, 1) := by decide +kernel
theorem dL_law_641 : decode cL_law 641 = .ok (.iadd, 1) := by decide +kernel
theorem dL_law_642 : decode cL_law 642 = .ok (.iaload, 1) := by decide +kernel
theorem dL_law_643 : decode cL_law 643 = .ok (.invokevirtual 75, 3) := by decide +kernel
theorem dL_law_646 : decode cL_law 646 = .ok (.if_icmp .eq 870, 3) := by decide +kernel
theorem dL_law_649 : decode cL_law 649 = .ok (.iconst 0, 1) := by decide +kernel
theorem dL_law_650 : decode cL_law 650 = .ok (.ireturn, 1) := by decide +kernel
theorem dL_law_651 : decode cL_law 651 = .ok (.aload_n 1, 1) := by decide +kernel
theorem dL_law_652 : decode cL_law 652 = .ok (.aload_n 0, 1) := by decide +kernel
theorem dL_law_653 : decode cL_law 653 = .ok (.iload 4, 2) := by decide +kernel
theorem dL_law_655 : decode cL_law 655 = .ok (.iconst 1, 1) := by decide +kernel
theorem dL_law_656 : decode cL_law 656 = .ok (.iadd, 1) := by decide +kernel
theorem dL_law_657 : decode cL_law 657 = .ok (.iaload, 1) := by decide +kernel
theorem dL_law_658 : decode cL_law 658 = .ok (.invokevirtual 76, 3) := by decide +kernel
theorem dL_law_661 : decode cL_law 661 = .ok (.aload_n 2, 1) := by decide +kernel
theorem dL_law_662 : decode cL_law 662 = .ok (.aload_n 0, 1) := by decide +kernel
theorem dL_law_663 : decode cL_law 663 = .ok (.iload 4, 2) := by decide +kernel
theorem dL_law_665 : decode cL_law 665 = .ok (.iconst 1, 1) := by decide +kernel
theorem dL_law_666 : decode cL_law 666 = .ok (.iadd, 1) := by decide +kernel
theorem dL_law_667 : decode cL_law 667 = .ok (.iaload, 1) := by decide +kernel
theorem dL_law_668 : decode cL_law 668 = .ok (.invokevirtual 79, 3) := by decide +kernel
theorem dL_law_671 : decode cL_law 671 = .ok (.if_icmp .eq 845, 3) := by decide +kernel
theorem dL_law_674 : decode cL_law 674 = .ok (.iconst 0, 1) := by decide +kernel
theorem dL_law_675 : decode cL_law 675 = .ok (.ireturn, 1) := by decide +kernel
theorem dL_law_676 : decode cL_law 676 = .ok (.aload_n 1, 1) := by decide +kernel
theorem dL_law_677 : decode cL_law 677 = .ok (.aload_n 0, 1) := by decide +kernel
theorem dL_law_678 : decode cL_law 678 = .ok (.iload 4, 2) := by decide +kernel
theorem dL_law_680 : decode cL_law 680 = .ok (.iconst 1, 1) := by decide +kernel
theorem dL_law_681 : decode cL_law 681 = .ok (.iadd, 1) := by decide +kernel
theorem dL_law_682 : decode cL_law 682 = .ok (.iaload, 1) := by decide +kernel
theorem dL_law_683 : decode cL_law 683 = .ok (.invokevirtual 80, 3) := by decide +kernel
theorem dL_law_686 : decode cL_law 686 = .ok (.aload_n 2, 1) := by decide +kernel
theorem dL_law_687 : decode cL_law 687 = .ok (.aload_n 0, 1) := by decide +kernel
theorem dL_law_688 : decode cL_law 688 = .ok (.iload 4, 2) := by decide +kernel
theorem dL_law_690 : decode cL_law 690 = .ok (.iconst 1, 1) := by decide +kernel
theorem dL_law_691 : decode cL_law 691 = .ok (.iadd, 1) := by decide +kernel
theorem dL_law_692 : decode cL_law 692 = .ok (.iaload, 1) := by decide +kernel
theorem dL_law_693 : decode cL_law 693 = .ok (.invokevirtual 83, 3) := by decide +kernel
theorem dL_law_696 : decode cL_law 696 = .ok (.if_icmp .eq 820, 3) := by decide +kernel
theorem dL_law_699 : decode cL_law 699 = .ok (.iconst 0, 1) := by decide +kernel
theorem dL_law_700 : decode cL_law 700 = .ok (.ireturn, 1) := by decide +kernel
theorem dL_law_701 : decode cL_law 701 = .ok (.aload_n 1, 1) := by decide +kernel
theorem dL_law_702 : decode cL_law 702 = .ok (.aload_n 0, 1) := by decide +kernel
theorem dL_law_703 : decode cL_law 703 = .ok (.iload 4, 2) := by decide +kernel
theorem dL_law_705 : decode cL_law 705 = .ok (.iconst 1, 1) := by decide +kernel
theorem dL_law_706 : decode cL_law 706 = .ok (.iadd, 1) := by decide +kernel
theorem dL_law_707 : decode cL_law 707 = .ok (.iaload, 1) := by decide +kernel
theorem dL_law_708 : decode cL_law 708 = .ok (.invokevirtual 84, 3) := by decide +kernel
theorem dL_law_711 : decode cL_law 711 = .ok (.aload_n 2, 1) := by decide +kernel
theorem dL_law_712 : decode cL_law 712 = .ok (.aload_n 0, 1) := by decide +kernel
theorem dL_law_713 : decode cL_law 713 = .ok (.iload 4, 2) := by decide +kernel
theorem dL_law_715 : decode cL_law 715 = .ok (.iconst 1, 1) := by decide +kernel
theorem dL_law_716 : decode cL_law 716 = .ok (.iadd, 1) := by decide +kernel
theorem dL_law_717 : decode cL_law 717 = .ok (.iaload, 1) := by decide +kernel
theorem dL_law_718 : decode cL_law 718 = .ok (.invokevirtual 87, 3) := by decide +kernel
theorem dL_law_721 : decode cL_law 721 = .ok (.if_icmp .eq 795, 3) := by decide +kernel
theorem dL_law_724 : decode cL_law 724 = .ok (.iconst 0, 1) := by decide +kernel
theorem dL_law_725 : decode cL_law 725 = .ok (.ireturn, 1) := by decide +kernel
theorem dL_law_726 : decode cL_law 726 = .ok (.aload_n 1, 1) := by decide +kernel
theorem dL_law_727 : decode cL_law 727 = .ok (.aload_n 0, 1) := by decide +kernel
theorem dL_law_728 : decode cL_law 728 = .ok (.iload 4, 2) := by decide +kernel
theorem dL_law_730 : decode cL_law 730 = .ok (.iconst 1, 1) := by decide +kernel
theorem dL_law_731 : decode cL_law 731 = .ok (.iadd, 1) := by decide +kernel
theorem dL_law_732 : decode cL_law 732 = .ok (.iaload, 1) := by decide +kernel
theorem dL_law_733 : decode cL_law 733 = .ok (.invokevirtual 88, 3) := by decide +kernel
theorem dL_law_736 : decode cL_law 736 = .ok (.aload_n 2, 1) := by decide +kernel
theorem dL_law_737 : decode cL_law 737 = .ok (.aload_n 0, 1) := by decide +kernel
theorem dL_law_738 : decode cL_law 738 = .ok (.iload 4, 2) := by decide +kernel
theorem dL_law_740 : decode cL_law 740 = .ok (.iconst 1, 1) := by decide +kernel
theorem dL_law_741 : decode cL_law 741 = .ok (.iadd, 1) := by decide +kernel
theorem dL_law_742 : decode cL_law 742 = .ok (.iaload, 1) := by decide +kernel
theorem dL_law_743 : decode cL_law 743 = .ok (.invokevirtual 91, 3) := by decide +kernel
theorem dL_law_746 : decode cL_law 746 = .ok (.if_icmp .eq 770, 3) := by decide +kernel
theorem dL_law_749 : decode cL_law 749 = .ok (.iconst 0, 1) := by decide +kernel
theorem dL_law_750 : decode cL_law 750 = .ok (.ireturn, 1) := by decide +kernel
theorem dL_law_751 : decode cL_law 751 = .ok (.aload_n 1, 1) := by decide +kernel
theorem dL_law_752 : decode cL_law 752 = .ok (.aload_n 0, 1) := by decide +kernel
theorem dL_law_753 : decode cL_law 753 = .ok (.iload 4, 2) := by decide +kernel
theorem dL_law_755 : decode cL_law 755 = .ok (.iconst 1, 1) := by decide +kernel
theorem dL_law_756 : decode cL_law 756 = .ok (.iadd, 1) := by decide +kernel
theorem dL_law_757 : decode cL_law 757 = .ok (.iaload, 1) := by decide +kernel
theorem dL_law_758 : decode cL_law 758 = .ok (.invokevirtual 92, 3) := by decide +kernel
theorem dL_law_761 : decode cL_law 761 = .ok (.aload_n 2, 1) := by decide +kernel
theorem dL_law_762 : decode cL_law 762 = .ok (.aload_n 0, 1) := by decide +kernel
theorem dL_law_763 : decode cL_law 763 = .ok (.iload 4, 2) := by decide +kernel
theorem dL_law_765 : decode cL_law 765 = .ok (.iconst 1, 1) := by decide +kernel
theorem dL_law_766 : decode cL_law 766 = .ok (.iadd, 1) := by decide +kernel
theorem dL_law_767 : decode cL_law 767 = .ok (.iaload, 1) := by decide +kernel
theorem dL_law_768 : decode cL_law 768 = .ok (.invokevirtual 95, 3) := by decide +kernel
theorem dL_law_771 : decode cL_law 771 = .ok (.if_icmp .eq 745, 3) := by decide +kernel
theorem dL_law_774 : decode cL_law 774 = .ok (.iconst 0, 1) := by decide +kernel
theorem dL_law_775 : decode cL_law 775 = .ok (.ireturn, 1) := by decide +kernel
theorem dL_law_776 : decode cL_law 776 = .ok (.aload_n 1, 1) := by decide +kernel
theorem dL_law_777 : decode cL_law 777 = .ok (.aload_n 0, 1) := by decide +kernel
theorem dL_law_778 : decode cL_law 778 = .ok (.iload 4, 2) := by decide +kernel
theorem dL_law_780 : decode cL_law 780 = .ok (.iconst 1, 1) := by decide +kernel
theorem dL_law_781 : decode cL_law 781 = .ok (.iadd, 1) := by decide +kernel
theorem dL_law_782 : decode cL_law 782 = .ok (.iaload, 1) := by decide +kernel
theorem dL_law_783 : decode cL_law 783 = .ok (.aload_n 0, 1) := by decide +kernel
theorem dL_law_784 : decode cL_law 784 = .ok (.iload 4, 2) := by decide +kernel
theorem dL_law_786 : decode cL_law 786 = .ok (.iconst 2, 1) := by decide +kernel
theorem dL_law_787 : decode cL_law 787 = .ok (.iadd, 1) := by decide +kernel
theorem dL_law_788 : decode cL_law 788 = .ok (.iaload, 1) := by decide +kernel
theorem dL_law_789 : decode cL_law 789 = .ok (.i2l, 1) := by decide +kernel
theorem dL_law_790 : decode cL_law 790 = .ok (.bipush 32, 2) := by decide +kernel
theorem dL_law_792 : decode cL_law 792 = .ok (.lshl, 1) := by decide +kernel
theorem dL_law_793 : decode cL_law 793 = .ok (.aload_n 0, 1) := by decide +kernel
theorem dL_law_794 : decode cL_law 794 = .ok (.iload 4, 2) := by decide +kernel
theorem dL_law_796 : decode cL_law 796 = .ok (.iconst 3, 1) := by decide +kernel
theorem dL_law_797 : decode cL_law 797 = .ok (.iadd, 1) := by decide +kernel
theorem dL_law_798 : decode cL_law 798 = .ok (.iaload, 1) := by decide +kernel
theorem dL_law_799 : decode cL_law 799 = .ok (.i2l, 1) := by decide +kernel
theorem dL_law_800 : decode cL_law 800 = .ok (.ldc2_w 96, 3) := by decide +kernel
theorem dL_law_803 : decode cL_law 803 = .ok (.land, 1) := by decide +kernel
theorem dL_law_804 : decode cL_law 804 = .ok (.lor, 1) := by decide +kernel
theorem dL_law_805 : decode cL_law 805 = .ok (.invokevirtual 98, 3) := by decide +kernel
theorem dL_law_808 : decode cL_law 808 = .ok (.aload_n 2, 1) := by decide +kernel
theorem dL_law_809 : decode cL_law 809 = .ok (.aload_n 0, 1) := by decide +kernel
theorem dL_law_810 : decode cL_law 810 = .ok (.iload 4, 2) := by decide +kernel
theorem dL_law_812 : decode cL_law 812 = .ok (.iconst 1, 1) := by decide +kernel
theorem dL_law_813 : decode cL_law 813 = .ok (.iadd, 1) := by decide +kernel
theorem dL_law_814 : decode cL_law 814 = .ok (.iaload, 1) := by decide +kernel
theorem dL_law_815 : decode cL_law 815 = .ok (.aload_n 0, 1) := by decide +kernel
theorem dL_law_816 : decode cL_law 816 = .ok (.iload 4, 2) := by decide +kernel
theorem dL_law_818 : decode cL_law 818 = .ok (.iconst 2, 1) := by decide +kernel
theorem dL_law_819 : decode cL_law 819 = .ok (.iadd, 1) := by decide +kernel
theorem dL_law_820 : decode cL_law 820 = .ok (.iaload, 1) := by decide +kernel
theorem dL_law_821 : decode cL_law 821 = .ok (.i2l, 1) := by decide +kernel
theorem dL_law_822 : decode cL_law 822 = .ok (.bipush 32, 2) := by decide +kernel
theorem dL_law_824 : decode cL_law 824 = .ok (.lshl, 1) := by decide +kernel
theorem dL_law_825 : decode cL_law 825 = .ok (.aload_n 0, 1) := by decide +kernel
theorem dL_law_826 : decode cL_law 826 = .ok (.iload 4, 2) := by decide +kernel
theorem dL_law_828 : decode cL_law 828 = .ok (.iconst 3, 1) := by decide +kernel
theorem dL_law_829 : decode cL_law 829 = .ok (.iadd, 1) := by decide +kernel
theorem dL_law_830 : decode cL_law 830 = .ok (.iaload, 1) := by decide +kernel
theorem dL_law_831 : decode cL_law 831 = .ok (.i2l, 1) := by decide +kernel
theorem dL_law_832 : decode cL_law 832 = .ok (.ldc2_w 96, 3) := by decide +kernel
theorem dL_law_835 : decode cL_law 835 = .ok (.land, 1) := by decide +kernel
theorem dL_law_836 : decode cL_law 836 = .ok (.lor, 1) := by decide +kernel
theorem dL_law_837 : decode cL_law 837 = .ok (.invokevirtual 102, 3) := by decide +kernel
theorem dL_law_840 : decode cL_law 840 = .ok (.if_icmp .eq 676, 3) := by decide +kernel
theorem dL_law_843 : decode cL_law 843 = .ok (.iconst 0, 1) := by decide +kernel
theorem dL_law_844 : decode cL_law 844 = .ok (.ireturn, 1) := by decide +kernel
theorem dL_law_845 : decode cL_law 845 = .ok (.aload_n 1, 1) := by decide +kernel
theorem dL_law_846 : decode cL_law 846 = .ok (.aload_n 0, 1) := by decide +kernel
theorem dL_law_847 : decode cL_law 847 = .ok (.iload 4, 2) := by decide +kernel
theorem dL_law_849 : decode cL_law 849 = .ok (.iconst 1, 1) := by decide +kernel
theorem dL_law_850 : decode cL_law 850 = .ok (.iadd, 1) := by decide +kernel
theorem dL_law_851 : decode cL_law 851 = .ok (.iaload, 1) := by decide +kernel
theorem dL_law_852 : decode cL_law 852 = .ok (.invokevirtual 103, 3) := by decide +kernel
theorem dL_law_855 : decode cL_law 855 = .ok (.aload_n 2, 1) := by decide +kernel
theorem dL_law_856 : decode cL_law 856 = .ok (.aload_n 0, 1) := by decide +kernel
theorem dL_law_857 : decode cL_law 857 = .ok (.iload 4, 2) := by decide +kernel
theorem dL_law_859 : decode cL_law 859 = .ok (.iconst 1, 1) := by decide +kernel
theorem dL_law_860 : decode cL_law 860 = .ok (.iadd, 1) := by decide +kernel
theorem dL_law_861 : decode cL_law 861 = .ok (.iaload, 1) := by decide +kernel
theorem dL_law_862 : decode cL_law 862 = .ok (.invokevirtual 106, 3) := by decide +kernel
theorem dL_law_865 : decode cL_law 865 = .ok (.if_icmp .eq 651, 3) := by decide +kernel
theorem dL_law_868 : decode cL_law 868 = .ok (.iconst 0, 1) := by decide +kernel
theorem dL_law_869 : decode cL_law 869 = .ok (.ireturn, 1) := by decide +kernel
theorem dL_law_870 : decode cL_law 870 = .ok (.aload_n 1, 1) := by decide +kernel
theorem dL_law_871 : decode cL_law 871 = .ok (.invokevirtual 107, 3) := by decide +kernel
theorem dL_law_874 : decode cL_law 874 = .ok (.aload_n 2, 1) := by decide +kernel
theorem dL_law_875 : decode cL_law 875 = .ok (.invokevirtual 110, 3) := by decide +kernel
theorem dL_law_878 : decode cL_law 878 = .ok (.if_icmp .eq 638, 3) := by decide +kernel
theorem dL_law_881 : decode cL_law 881 = .ok (.iconst 0, 1) := by decide +kernel
theorem dL_law_882 : decode cL_law 882 = .ok (.ireturn, 1) := by decide +kernel
theorem dL_law_883 : decode cL_law 883 = .ok (.aload_n 1, 1) := by decide +kernel
theorem dL_law_884 : decode cL_law 884 = .ok (.aload_n 0, 1) := by decide +kernel
theorem dL_law_885 : decode cL_law 885 = .ok (.iload 4, 2) := by decide +kernel
theorem dL_law_887 : decode cL_law 887 = .ok (.iconst 1, 1) := by decide +kernel
theorem dL_law_888 : decode cL_law 888 = .ok (.iadd, 1) := by decide +kernel
theorem dL_law_889 : decode cL_law 889 = .ok (.iaload, 1) := by decide +kernel
theorem dL_law_890 : decode cL_law 890 = .ok (.aload_n 0, 1) := by decide +kernel
theorem dL_law_891 : decode cL_law 891 = .ok (.iload 4, 2) := by decide +kernel
theorem dL_law_893 : decode cL_law 893 = .ok (.iconst 2, 1) := by decide +kernel
theorem dL_law_894 : decode cL_law 894 = .ok (.iadd, 1) := by decide +kernel
theorem dL_law_895 : decode cL_law 895 = .ok (.iaload, 1) := by decide +kernel
theorem dL_law_896 : decode cL_law 896 = .ok (.invokevirtual 111, 3) := by decide +kernel
theorem dL_law_899 : decode cL_law 899 = .ok (.aload_n 2, 1) := by decide +kernel
theorem dL_law_900 : decode cL_law 900 = .ok (.aload_n 0, 1) := by decide +kernel
theorem dL_law_901 : decode cL_law 901 = .ok (.iload 4, 2) := by decide +kernel
theorem dL_law_903 : decode cL_law 903 = .ok (.iconst 1, 1) := by decide +kernel
theorem dL_law_904 : decode cL_law 904 = .ok (.iadd, 1) := by decide +kernel
theorem dL_law_905 : decode cL_law 905 = .ok (.iaload, 1) := by decide +kernel
theorem dL_law_906 : decode cL_law 906 = .ok (.aload_n 0, 1) := by decide +kernel
theorem dL_law_907 : decode cL_law 907 = .ok (.iload 4, 2) := by decide +kernel
theorem dL_law_909 : decode cL_law 909 = .ok (.iconst 2, 1) := by decide +kernel
theorem dL_law_910 : decode cL_law 910 = .ok (.iadd, 1) := by decide +kernel
theorem dL_law_911 : decode cL_law 911 = .ok (.iaload, 1) := by decide +kernel
theorem dL_law_912 : decode cL_law 912 = .ok (.invokevirtual 114, 3) := by decide +kernel
theorem dL_law_915 : decode cL_law 915 = .ok (.if_icmp .eq 601, 3) := by decide +kernel
theorem dL_law_918 : decode cL_law 918 = .ok (.iconst 0, 1) := by decide +kernel
theorem dL_law_919 : decode cL_law 919 = .ok (.ireturn, 1) := by decide +kernel
theorem dL_law_920 : decode cL_law 920 = .ok (.aload_n 1, 1) := by decide +kernel
theorem dL_law_921 : decode cL_law 921 = .ok (.aload_n 0, 1) := by decide +kernel
theorem dL_law_922 : decode cL_law 922 = .ok (.iload 4, 2) := by decide +kernel
theorem dL_law_924 : decode cL_law 924 = .ok (.iconst 1, 1) := by decide +kernel
theorem dL_law_925 : decode cL_law 925 = .ok (.iadd, 1) := by decide +kernel
theorem dL_law_926 : decode cL_law 926 = .ok (.iaload, 1) := by decide +kernel
theorem dL_law_927 : decode cL_law 927 = .ok (.aload_n 0, 1) := by decide +kernel
theorem dL_law_928 : decode cL_law 928 = .ok (.iload 4, 2) := by decide +kernel
theorem dL_law_930 : decode cL_law 930 = .ok (.iconst 2, 1) := by decide +kernel
theorem dL_law_931 : decode cL_law 931 = .ok (.iadd, 1) := by decide +kernel
theorem dL_law_932 : decode cL_law 932 = .ok (.iaload, 1) := by decide +kernel
theorem dL_law_933 : decode cL_law 933 = .ok (.invokevirtual 115, 3) := by decide +kernel
theorem dL_law_936 : decode cL_law 936 = .ok (.aload_n 2, 1) := by decide +kernel
theorem dL_law_937 : decode cL_law 937 = .ok (.aload_n 0, 1) := by decide +kernel
theorem dL_law_938 : decode cL_law 938 = .ok (.iload 4, 2) := by decide +kernel
theorem dL_law_940 : decode cL_law 940 = .ok (.iconst 1, 1) := by decide +kernel
theorem dL_law_941 : decode cL_law 941 = .ok (.iadd, 1) := by decide +kernel
theorem dL_law_942 : decode cL_law 942 = .ok (.iaload, 1) := by decide +kernel
theorem dL_law_943 : decode cL_law 943 = .ok (.aload_n 0, 1) := by decide +kernel
theorem dL_law_944 : decode cL_law 944 = .ok (.iload 4, 2) := by decide +kernel
theorem dL_law_946 : decode cL_law 946 = .ok (.iconst 2, 1) := by decide +kernel
theorem dL_law_947 : decode cL_law 947 = .ok (.iadd, 1) := by decide +kernel
theorem dL_law_948 : decode cL_law 948 = .ok (.iaload, 1) := by decide +kernel
theorem dL_law_949 : decode cL_law 949 = .ok (.invokevirtual 118, 3) := by decide +kernel
theorem dL_law_952 : decode cL_law 952 = .ok (.if_icmp .eq 564, 3) := by decide +kernel
theorem dL_law_955 : decode cL_law 955 = .ok (.iconst 0, 1) := by decide +kernel
theorem dL_law_956 : decode cL_law 956 = .ok (.ireturn, 1) := by decide +kernel
theorem dL_law_957 : decode cL_law 957 = .ok (.aload_n 1, 1) := by decide +kernel
theorem dL_law_958 : decode cL_law 958 = .ok (.aload_n 0, 1) := by decide +kernel
theorem dL_law_959 : decode cL_law 959 = .ok (.iload 4, 2) := by decide +kernel
theorem dL_law_961 : decode cL_law 961 = .ok (.iconst 1, 1) := by decide +kernel
theorem dL_law_962 : decode cL_law 962 = .ok (.iadd, 1) := by decide +kernel
theorem dL_law_963 : decode cL_law 963 = .ok (.iaload, 1) := by decide +kernel
theorem dL_law_964 : decode cL_law 964 = .ok (.invokevirtual 119, 3) := by decide +kernel
theorem dL_law_967 : decode cL_law 967 = .ok (.aload_n 2, 1) := by decide +kernel
theorem dL_law_968 : decode cL_law 968 = .ok (.aload_n 0, 1) := by decide +kernel
theorem dL_law_969 : decode cL_law 969 = .ok (.iload 4, 2) := by decide +kernel
theorem dL_law_971 : decode cL_law 971 = .ok (.iconst 1, 1) := by decide +kernel
theorem dL_law_972 : decode cL_law 972 = .ok (.iadd, 1) := by decide +kernel
theorem dL_law_973 : decode cL_law 973 = .ok (.iaload, 1) := by decide +kernel
theorem dL_law_974 : decode cL_law 974 = .ok (.invokevirtual 122, 3) := by decide +kernel
theorem dL_law_977 : decode cL_law 977 = .ok (.if_icmp .eq 539, 3) := by decide +kernel
theorem dL_law_980 : decode cL_law 980 = .ok (.iconst 0, 1) := by decide +kernel
theorem dL_law_981 : decode cL_law 981 = .ok (.ireturn, 1) := by decide +kernel
theorem dL_law_982 : decode cL_law 982 = .ok (.aload_n 1, 1) := by decide +kernel
theorem dL_law_983 : decode cL_law 983 = .ok (.aload_n 0, 1) := by decide +kernel
theorem dL_law_984 : decode cL_law 984 = .ok (.iload 4, 2) := by decide +kernel
theorem dL_law_986 : decode cL_law 986 = .ok (.iconst 1, 1) := by decide +kernel
theorem dL_law_987 : decode cL_law 987 = .ok (.iadd, 1) := by decide +kernel
theorem dL_law_988 : decode cL_law 988 = .ok (.iaload, 1) := by decide +kernel
theorem dL_law_989 : decode cL_law 989 = .ok (.aload_n 0, 1) := by decide +kernel
theorem dL_law_990 : decode cL_law 990 = .ok (.iload 4, 2) := by decide +kernel
theorem dL_law_992 : decode cL_law 992 = .ok (.iconst 2, 1) := by decide +kernel
theorem dL_law_993 : decode cL_law 993 = .ok (.iadd, 1) := by decide +kernel
theorem dL_law_994 : decode cL_law 994 = .ok (.iaload, 1) := by decide +kernel
theorem dL_law_995 : decode cL_law 995 = .ok (.invokevirtual 123, 3) := by decide +kernel
theorem dL_law_998 : decode cL_law 998 = .ok (.aload_n 2, 1) := by decide +kernel
theorem dL_law_999 : decode cL_law 999 = .ok (.aload_n 0, 1) := by decide +kernel
theorem dL_law_1000 : decode cL_law 1000 = .ok (.iload 4, 2) := by decide +kernel
theorem dL_law_1002 : decode cL_law 1002 = .ok (.iconst 1, 1) := by decide +kernel
theorem dL_law_1003 : decode cL_law 1003 = .ok (.iadd, 1) := by decide +kernel
theorem dL_law_1004 : decode cL_law 1004 = .ok (.iaload, 1) := by decide +kernel
theorem dL_law_1005 : decode cL_law 1005 = .ok (.aload_n 0, 1) := by decide +kernel
theorem dL_law_1006 : decode cL_law 1006 = .ok (.iload 4, 2) := by decide +kernel
theorem dL_law_1008 : decode cL_law 1008 = .ok (.iconst 2, 1) := by decide +kernel
theorem dL_law_1009 : decode cL_law 1009 = .ok (.iadd, 1) := by decide +kernel
theorem dL_law_1010 : decode cL_law 1010 = .ok (.iaload, 1) := by decide +kernel
theorem dL_law_1011 : decode cL_law 1011 = .ok (.invokevirtual 126, 3) := by decide +kernel
theorem dL_law_1014 : decode cL_law 1014 = .ok (.if_icmp .eq 502, 3) := by decide +kernel
theorem dL_law_1017 : decode cL_law 1017 = .ok (.iconst 0, 1) := by decide +kernel
theorem dL_law_1018 : decode cL_law 1018 = .ok (.ireturn, 1) := by decide +kernel
theorem dL_law_1019 : decode cL_law 1019 = .ok (.aload_n 1, 1) := by decide +kernel
theorem dL_law_1020 : decode cL_law 1020 = .ok (.aload_n 0, 1) := by decide +kernel
theorem dL_law_1021 : decode cL_law 1021 = .ok (.iload 4, 2) := by decide +kernel
theorem dL_law_1023 : decode cL_law 1023 = .ok (.iconst 1, 1) := by decide +kernel
theorem dL_law_1024 : decode cL_law 1024 = .ok (.iadd, 1) := by decide +kernel
theorem dL_law_1025 : decode cL_law 1025 = .ok (.iaload, 1) := by decide +kernel
theorem dL_law_1026 : decode cL_law 1026 = .ok (.invokevirtual 127, 3) := by decide +kernel
theorem dL_law_1029 : decode cL_law 1029 = .ok (.aload_n 2, 1) := by decide +kernel
theorem dL_law_1030 : decode cL_law 1030 = .ok (.aload_n 0, 1) := by decide +kernel
theorem dL_law_1031 : decode cL_law 1031 = .ok (.iload 4, 2) := by decide +kernel
theorem dL_law_1033 : decode cL_law 1033 = .ok (.iconst 1, 1) := by decide +kernel
theorem dL_law_1034 : decode cL_law 1034 = .ok (.iadd, 1) := by decide +kernel
theorem dL_law_1035 : decode cL_law 1035 = .ok (.iaload, 1) := by decide +kernel
theorem dL_law_1036 : decode cL_law 1036 = .ok (.invokevirtual 130, 3) := by decide +kernel
theorem dL_law_1039 : decode cL_law 1039 = .ok (.if_icmp .eq 477, 3) := by decide +kernel
theorem dL_law_1042 : decode cL_law 1042 = .ok (.iconst 0, 1) := by decide +kernel
theorem dL_law_1043 : decode cL_law 1043 = .ok (.ireturn, 1) := by decide +kernel
theorem dL_law_1044 : decode cL_law 1044 = .ok (.aload_n 1, 1) := by decide +kernel
theorem dL_law_1045 : decode cL_law 1045 = .ok (.aload_n 0, 1) := by decide +kernel
theorem dL_law_1046 : decode cL_law 1046 = .ok (.iload 4, 2) := by decide +kernel
theorem dL_law_1048 : decode cL_law 1048 = .ok (.iconst 1, 1) := by decide +kernel
theorem dL_law_1049 : decode cL_law 1049 = .ok (.iadd, 1) := by decide +kernel
theorem dL_law_1050 : decode cL_law 1050 = .ok (.iaload, 1) := by decide +kernel
theorem dL_law_1051 : decode cL_law 1051 = .ok (.aload_n 0, 1) := by decide +kernel
theorem dL_law_1052 : decode cL_law 1052 = .ok (.iload 4, 2) := by decide +kernel
theorem dL_law_1054 : decode cL_law 1054 = .ok (.iconst 2, 1) := by decide +kernel
theorem dL_law_1055 : decode cL_law 1055 = .ok (.iadd, 1) := by decide +kernel
theorem dL_law_1056 : decode cL_law 1056 = .ok (.iaload, 1) := by decide +kernel
theorem dL_law_1057 : decode cL_law 1057 = .ok (.invokevirtual 131, 3) := by decide +kernel
theorem dL_law_1060 : decode cL_law 1060 = .ok (.aload_n 2, 1) := by decide +kernel
theorem dL_law_1061 : decode cL_law 1061 = .ok (.aload_n 0, 1) := by decide +kernel
theorem dL_law_1062 : decode cL_law 1062 = .ok (.iload 4, 2) := by decide +kernel
theorem dL_law_1064 : decode cL_law 1064 = .ok (.iconst 1, 1) := by decide +kernel
theorem dL_law_1065 : decode cL_law 1065 = .ok (.iadd, 1) := by decide +kernel
theorem dL_law_1066 : decode cL_law 1066 = .ok (.iaload, 1) := by decide +kernel
theorem dL_law_1067 : decode cL_law 1067 = .ok (.aload_n 0, 1) := by decide +kernel
theorem dL_law_1068 : decode cL_law 1068 = .ok (.iload 4, 2) := by decide +kernel
theorem dL_law_1070 : decode cL_law 1070 = .ok (.iconst 2, 1) := by decide +kernel
theorem dL_law_1071 : decode cL_law 1071 = .ok (.iadd, 1) := by decide +kernel
theorem dL_law_1072 : decode cL_law 1072 = .ok (.iaload, 1) := by decide +kernel
theorem dL_law_1073 : decode cL_law 1073 = .ok (.invokevirtual 134, 3) := by decide +kernel
theorem dL_law_1076 : decode cL_law 1076 = .ok (.if_icmp .eq 440, 3) := by decide +kernel
theorem dL_law_1079 : decode cL_law 1079 = .ok (.iconst 0, 1) := by decide +kernel
theorem dL_law_1080 : decode cL_law 1080 = .ok (.ireturn, 1) := by decide +kernel
theorem dL_law_1081 : decode cL_law 1081 = .ok (.aload_n 1, 1) := by decide +kernel
theorem dL_law_1082 : decode cL_law 1082 = .ok (.aload_n 0, 1) := by decide +kernel
theorem dL_law_1083 : decode cL_law 1083 = .ok (.iload 4, 2) := by decide +kernel
theorem dL_law_1085 : decode cL_law 1085 = .ok (.iconst 1, 1) := by decide +kernel
theorem dL_law_1086 : decode cL_law 1086 = .ok (.iadd, 1) := by decide +kernel
theorem dL_law_1087 : decode cL_law 1087 = .ok (.iaload, 1) := by decide +kernel
theorem dL_law_1088 : decode cL_law 1088 = .ok (.aload_n 0, 1) := by decide +kernel
theorem dL_law_1089 : decode cL_law 1089 = .ok (.iload 4, 2) := by decide +kernel
theorem dL_law_1091 : decode cL_law 1091 = .ok (.iconst 2, 1) := by decide +kernel
theorem dL_law_1092 : decode cL_law 1092 = .ok (.iadd, 1) := by decide +kernel
theorem dL_law_1093 : decode cL_law 1093 = .ok (.iaload, 1) := by decide +kernel
theorem dL_law_1094 : decode cL_law 1094 = .ok (.invokevirtual 135, 3) := by decide +kernel
theorem dL_law_1097 : decode cL_law 1097 = .ok (.aload_n 2, 1) := by decide +kernel
theorem dL_law_1098 : decode cL_law 1098 = .ok (.aload_n 0, 1) := by decide +kernel
theorem dL_law_1099 : decode cL_law 1099 = .ok (.iload 4, 2) := by decide +kernel
theorem dL_law_1101 : decode cL_law 1101 = .ok (.iconst 1, 1) := by decide +kernel
theorem dL_law_1102 : decode cL_law 1102 = .ok (.iadd, 1) := by decide +kernel
theorem dL_law_1103 : decode cL_law 1103 = .ok (.iaload, 1) := by decide +kernel
theorem dL_law_1104 : decode cL_law 1104 = .ok (.aload_n 0, 1) := by decide +kernel
theorem dL_law_1105 : decode cL_law 1105 = .ok (.iload 4, 2) := by decide +kernel
theorem dL_law_1107 : decode cL_law 1107 = .ok (.iconst 2, 1) := by decide +kernel
theorem dL_law_1108 : decode cL_law 1108 = .ok (.iadd, 1) := by decide +kernel
theorem dL_law_1109 : decode cL_law 1109 = .ok (.iaload, 1) := by decide +kernel
theorem dL_law_1110 : decode cL_law 1110 = .ok (.invokevirtual 138, 3) := by decide +kernel
theorem dL_law_1113 : decode cL_law 1113 = .ok (.if_icmp .eq 403, 3) := by decide +kernel
theorem dL_law_1116 : decode cL_law 1116 = .ok (.iconst 0, 1) := by decide +kernel
theorem dL_law_1117 : decode cL_law 1117 = .ok (.ireturn, 1) := by decide +kernel
theorem dL_law_1118 : decode cL_law 1118 = .ok (.aload_n 1, 1) := by decide +kernel
theorem dL_law_1119 : decode cL_law 1119 = .ok (.aload_n 0, 1) := by decide +kernel
theorem dL_law_1120 : decode cL_law 1120 = .ok (.iload 4, 2) := by decide +kernel
theorem dL_law_1122 : decode cL_law 1122 = .ok (.iconst 1, 1) := by decide +kernel
theorem dL_law_1123 : decode cL_law 1123 = .ok (.iadd, 1) := by decide +kernel
theorem dL_law_1124 : decode cL_law 1124 = .ok (.iaload, 1) := by decide +kernel
theorem dL_law_1125 : decode cL_law 1125 = .ok (.invokevirtual 139, 3) := by decide +kernel
theorem dL_law_1128 : decode cL_law 1128 = .ok (.aload_n 2, 1) := by decide +kernel
theorem dL_law_1129 : decode cL_law 1129 = .ok (.aload_n 0, 1) := by decide +kernel
theorem dL_law_1130 : decode cL_law 1130 = .ok (.iload 4, 2) := by decide +kernel
theorem dL_law_1132 : decode cL_law 1132 = .ok (.iconst 1, 1) := by decide +kernel
theorem dL_law_1133 : decode cL_law 1133 = .ok (.iadd, 1) := by decide +kernel
theorem dL_law_1134 : decode cL_law 1134 = .ok (.iaload, 1) := by decide +kernel
theorem dL_law_1135 : decode cL_law 1135 = .ok (.invokevirtual 142, 3) := by decide +kernel
theorem dL_law_1138 : decode cL_law 1138 = .ok (.if_icmp .eq 378, 3) := by decide +kernel
theorem dL_law_1141 : decode cL_law 1141 = .ok (.iconst 0, 1) := by decide +kernel
theorem dL_law_1142 : decode cL_law 1142 = .ok (.ireturn, 1) := by decide +kernel
theorem dL_law_1143 : decode cL_law 1143 = .ok (.aload_n 1, 1) := by decide +kernel
theorem dL_law_1144 : decode cL_law 1144 = .ok (.aload_n 0, 1) := by decide +kernel
theorem dL_law_1145 : decode cL_law 1145 = .ok (.iload 4, 2) := by decide +kernel
theorem dL_law_1147 : decode cL_law 1147 = .ok (.iconst 1, 1) := by decide +kernel
theorem dL_law_1148 : decode cL_law 1148 = .ok (.iadd, 1) := by decide +kernel
theorem dL_law_1149 : decode cL_law 1149 = .ok (.iaload, 1) := by decide +kernel
theorem dL_law_1150 : decode cL_law 1150 = .ok (.invokevirtual 143, 3) := by decide +kernel
theorem dL_law_1153 : decode cL_law 1153 = .ok (.aload_n 2, 1) := by decide +kernel
theorem dL_law_1154 : decode cL_law 1154 = .ok (.aload_n 0, 1) := by decide +kernel
theorem dL_law_1155 : decode cL_law 1155 = .ok (.iload 4, 2) := by decide +kernel
theorem dL_law_1157 : decode cL_law 1157 = .ok (.iconst 1, 1) := by decide +kernel
theorem dL_law_1158 : decode cL_law 1158 = .ok (.iadd, 1) := by decide +kernel
theorem dL_law_1159 : decode cL_law 1159 = .ok (.iaload, 1) := by decide +kernel
theorem dL_law_1160 : decode cL_law 1160 = .ok (.invokevirtual 146, 3) := by decide +kernel
theorem dL_law_1163 : decode cL_law 1163 = .ok (.if_icmp .eq 353, 3) := by decide +kernel
theorem dL_law_1166 : decode cL_law 1166 = .ok (.iconst 0, 1) := by decide +kernel
theorem dL_law_1167 : decode cL_law 1167 = .ok (.ireturn, 1) := by decide +kernel
theorem dL_law_1168 : decode cL_law 1168 = .ok (.aload_n 1, 1) := by decide +kernel
theorem dL_law_1169 : decode cL_law 1169 = .ok (.aload_n 0, 1) := by decide +kernel
theorem dL_law_1170 : decode cL_law 1170 = .ok (.iload 4, 2) := by decide +kernel
theorem dL_law_1172 : decode cL_law 1172 = .ok (.iconst 1, 1) := by decide +kernel
theorem dL_law_1173 : decode cL_law 1173 = .ok (.iadd, 1) := by decide +kernel
theorem dL_law_1174 : decode cL_law 1174 = .ok (.iaload, 1) := by decide +kernel
theorem dL_law_1175 : decode cL_law 1175 = .ok (.aload_n 0, 1) := by decide +kernel
theorem dL_law_1176 : decode cL_law 1176 = .ok (.iload 4, 2) := by decide +kernel
theorem dL_law_1178 : decode cL_law 1178 = .ok (.iconst 2, 1) := by decide +kernel
theorem dL_law_1179 : decode cL_law 1179 = .ok (.iadd, 1) := by decide +kernel
theorem dL_law_1180 : decode cL_law 1180 = .ok (.iaload, 1) := by decide +kernel
theorem dL_law_1181 : decode cL_law 1181 = .ok (.aload_n 0, 1) := by decide +kernel
theorem dL_law_1182 : decode cL_law 1182 = .ok (.iload 4, 2) := by decide +kernel
theorem dL_law_1184 : decode cL_law 1184 = .ok (.iconst 3, 1) := by decide +kernel
theorem dL_law_1185 : decode cL_law 1185 = .ok (.iadd, 1) := by decide +kernel
theorem dL_law_1186 : decode cL_law 1186 = .ok (.iaload, 1) := by decide +kernel
theorem dL_law_1187 : decode cL_law 1187 = .ok (.aload_n 0, 1) := by decide +kernel
theorem dL_law_1188 : decode cL_law 1188 = .ok (.iload 4, 2) := by decide +kernel
theorem dL_law_1190 : decode cL_law 1190 = .ok (.iconst 4, 1) := by decide +kernel
theorem dL_law_1191 : decode cL_law 1191 = .ok (.iadd, 1) := by decide +kernel
theorem dL_law_1192 : decode cL_law 1192 = .ok (.iaload, 1) := by decide +kernel
theorem dL_law_1193 : decode cL_law 1193 = .ok (.aload_n 0, 1) := by decide +kernel
theorem dL_law_1194 : decode cL_law 1194 = .ok (.iload 4, 2) := by decide +kernel
theorem dL_law_1196 : decode cL_law 1196 = .ok (.iconst 5, 1) := by decide +kernel
theorem dL_law_1197 : decode cL_law 1197 = .ok (.iadd, 1) := by decide +kernel
theorem dL_law_1198 : decode cL_law 1198 = .ok (.iaload, 1) := by decide +kernel
theorem dL_law_1199 : decode cL_law 1199 = .ok (.aload_n 0, 1) := by decide +kernel
theorem dL_law_1200 : decode cL_law 1200 = .ok (.iload 4, 2) := by decide +kernel
theorem dL_law_1202 : decode cL_law 1202 = .ok (.bipush 6, 2) := by decide +kernel
theorem dL_law_1204 : decode cL_law 1204 = .ok (.iadd, 1) := by decide +kernel
theorem dL_law_1205 : decode cL_law 1205 = .ok (.iaload, 1) := by decide +kernel
theorem dL_law_1206 : decode cL_law 1206 = .ok (.invokevirtual 147, 3) := by decide +kernel
theorem dL_law_1209 : decode cL_law 1209 = .ok (.aload_n 2, 1) := by decide +kernel
theorem dL_law_1210 : decode cL_law 1210 = .ok (.aload_n 0, 1) := by decide +kernel
theorem dL_law_1211 : decode cL_law 1211 = .ok (.iload 4, 2) := by decide +kernel
theorem dL_law_1213 : decode cL_law 1213 = .ok (.iconst 1, 1) := by decide +kernel
theorem dL_law_1214 : decode cL_law 1214 = .ok (.iadd, 1) := by decide +kernel
theorem dL_law_1215 : decode cL_law 1215 = .ok (.iaload, 1) := by decide +kernel
theorem dL_law_1216 : decode cL_law 1216 = .ok (.aload_n 0, 1) := by decide +kernel
theorem dL_law_1217 : decode cL_law 1217 = .ok (.iload 4, 2) := by decide +kernel
theorem dL_law_1219 : decode cL_law 1219 = .ok (.iconst 2, 1) := by decide +kernel
theorem dL_law_1220 : decode cL_law 1220 = .ok (.iadd, 1) := by decide +kernel
theorem dL_law_1221 : decode cL_law 1221 = .ok (.iaload, 1) := by decide +kernel
theorem dL_law_1222 : decode cL_law 1222 = .ok (.aload_n 0, 1) := by decide +kernel
theorem dL_law_1223 : decode cL_law 1223 = .ok (.iload 4, 2) := by decide +kernel
theorem dL_law_1225 : decode cL_law 1225 = .ok (.iconst 3, 1) := by decide +kernel
theorem dL_law_1226 : decode cL_law 1226 = .ok (.iadd, 1) := by decide +kernel
theorem dL_law_1227 : decode cL_law 1227 = .ok (.iaload, 1) := by decide +kernel
theorem dL_law_1228 : decode cL_law 1228 = .ok (.aload_n 0, 1) := by decide +kernel
theorem dL_law_1229 : decode cL_law 1229 = .ok (.iload 4, 2) := by decide +kernel
theorem dL_law_1231 : decode cL_law 1231 = .ok (.iconst 4, 1) := by decide +kernel
theorem dL_law_1232 : decode cL_law 1232 = .ok (.iadd, 1) := by decide +kernel
theorem dL_law_1233 : decode cL_law 1233 = .ok (.iaload, 1) := by decide +kernel
theorem dL_law_1234 : decode cL_law 1234 = .ok (.aload_n 0, 1) := by decide +kernel
theorem dL_law_1235 : decode cL_law 1235 = .ok (.iload 4, 2) := by decide +kernel
theorem dL_law_1237 : decode cL_law 1237 = .ok (.iconst 5, 1) := by decide +kernel
theorem dL_law_1238 : decode cL_law 1238 = .ok (.iadd, 1) := by decide +kernel
theorem dL_law_1239 : decode cL_law 1239 = .ok (.iaload, 1) := by decide +kernel
theorem dL_law_1240 : decode cL_law 1240 = .ok (.aload_n 0, 1) := by decide +kernel
theorem dL_law_1241 : decode cL_law 1241 = .ok (.iload 4, 2) := by decide +kernel
theorem dL_law_1243 : decode cL_law 1243 = .ok (.bipush 6, 2) := by decide +kernel
theorem dL_law_1245 : decode cL_law 1245 = .ok (.iadd, 1) := by decide +kernel
theorem dL_law_1246 : decode cL_law 1246 = .ok (.iaload, 1) := by decide +kernel
theorem dL_law_1247 : decode cL_law 1247 = .ok (.invokevirtual 151, 3) := by decide +kernel
theorem dL_law_1250 : decode cL_law 1250 = .ok (.if_icmp .eq 266, 3) := by decide +kernel
theorem dL_law_1253 : decode cL_law 1253 = .ok (.iconst 0, 1) := by decide +kernel
theorem dL_law_1254 : decode cL_law 1254 = .ok (.ireturn, 1) := by decide +kernel
theorem dL_law_1255 : decode cL_law 1255 = .ok (.aload_n 1, 1) := by decide +kernel
theorem dL_law_1256 : decode cL_law 1256 = .ok (.aload_n 0, 1) := by decide +kernel
theorem dL_law_1257 : decode cL_law 1257 = .ok (.iload 4, 2) := by decide +kernel
theorem dL_law_1259 : decode cL_law 1259 = .ok (.iconst 1, 1) := by decide +kernel
theorem dL_law_1260 : decode cL_law 1260 = .ok (.iadd, 1) := by decide +kernel
theorem dL_law_1261 : decode cL_law 1261 = .ok (.iaload, 1) := by decide +kernel
theorem dL_law_1262 : decode cL_law 1262 = .ok (.aload_n 0, 1) := by decide +kernel
theorem dL_law_1263 : decode cL_law 1263 = .ok (.iload 4, 2) := by decide +kernel
theorem dL_law_1265 : decode cL_law 1265 = .ok (.iconst 2, 1) := by decide +kernel
theorem dL_law_1266 : decode cL_law 1266 = .ok (.iadd, 1) := by decide +kernel
theorem dL_law_1267 : decode cL_law 1267 = .ok (.iaload, 1) := by decide +kernel
theorem dL_law_1268 : decode cL_law 1268 = .ok (.aload_n 0, 1) := by decide +kernel
theorem dL_law_1269 : decode cL_law 1269 = .ok (.iload 4, 2) := by decide +kernel
theorem dL_law_1271 : decode cL_law 1271 = .ok (.iconst 3, 1) := by decide +kernel
theorem dL_law_1272 : decode cL_law 1272 = .ok (.iadd, 1) := by decide +kernel
theorem dL_law_1273 : decode cL_law 1273 = .ok (.iaload, 1) := by decide +kernel
theorem dL_law_1274 : decode cL_law 1274 = .ok (.aload_n 0, 1) := by decide +kernel
theorem dL_law_1275 : decode cL_law 1275 = .ok (.iload 4, 2) := by decide +kernel
theorem dL_law_1277 : decode cL_law 1277 = .ok (.iconst 4, 1) := by decide +kernel
theorem dL_law_1278 : decode cL_law 1278 = .ok (.iadd, 1) := by decide +kernel
theorem dL_law_1279 : decode cL_law 1279 = .ok (.iaload, 1) := by decide +kernel
theorem dL_law_1280 : decode cL_law 1280 = .ok (.invokevirtual 152, 3) := by decide +kernel
theorem dL_law_1283 : decode cL_law 1283 = .ok (.aload_n 2, 1) := by decide +kernel
theorem dL_law_1284 : decode cL_law 1284 = .ok (.aload_n 0, 1) := by decide +kernel
theorem dL_law_1285 : decode cL_law 1285 = .ok (.iload 4, 2) := by decide +kernel
theorem dL_law_1287 : decode cL_law 1287 = .ok (.iconst 1, 1) := by decide +kernel
theorem dL_law_1288 : decode cL_law 1288 = .ok (.iadd, 1) := by decide +kernel
theorem dL_law_1289 : decode cL_law 1289 = .ok (.iaload, 1) := by decide +kernel
theorem dL_law_1290 : decode cL_law 1290 = .ok (.aload_n 0, 1) := by decide +kernel
theorem dL_law_1291 : decode cL_law 1291 = .ok (.iload 4, 2) := by decide +kernel
theorem dL_law_1293 : decode cL_law 1293 = .ok (.iconst 2, 1) := by decide +kernel
theorem dL_law_1294 : decode cL_law 1294 = .ok (.iadd, 1) := by decide +kernel
theorem dL_law_1295 : decode cL_law 1295 = .ok (.iaload, 1) := by decide +kernel
theorem dL_law_1296 : decode cL_law 1296 = .ok (.aload_n 0, 1) := by decide +kernel
theorem dL_law_1297 : decode cL_law 1297 = .ok (.iload 4, 2) := by decide +kernel
theorem dL_law_1299 : decode cL_law 1299 = .ok (.iconst 3, 1) := by decide +kernel
theorem dL_law_1300 : decode cL_law 1300 = .ok (.iadd, 1) := by decide +kernel
theorem dL_law_1301 : decode cL_law 1301 = .ok (.iaload, 1) := by decide +kernel
theorem dL_law_1302 : decode cL_law 1302 = .ok (.aload_n 0, 1) := by decide +kernel
theorem dL_law_1303 : decode cL_law 1303 = .ok (.iload 4, 2) := by decide +kernel
theorem dL_law_1305 : decode cL_law 1305 = .ok (.iconst 4, 1) := by decide +kernel
theorem dL_law_1306 : decode cL_law 1306 = .ok (.iadd, 1) := by decide +kernel
theorem dL_law_1307 : decode cL_law 1307 = .ok (.iaload, 1) := by decide +kernel
theorem dL_law_1308 : decode cL_law 1308 = .ok (.invokevirtual 156, 3) := by decide +kernel
theorem dL_law_1311 : decode cL_law 1311 = .ok (.if_icmp .eq 205, 3) := by decide +kernel
theorem dL_law_1314 : decode cL_law 1314 = .ok (.iconst 0, 1) := by decide +kernel
theorem dL_law_1315 : decode cL_law 1315 = .ok (.ireturn, 1) := by decide +kernel
theorem dL_law_1316 : decode cL_law 1316 = .ok (.aload_n 1, 1) := by decide +kernel
theorem dL_law_1317 : decode cL_law 1317 = .ok (.aload_n 0, 1) := by decide +kernel
theorem dL_law_1318 : decode cL_law 1318 = .ok (.iload 4, 2) := by decide +kernel
theorem dL_law_1320 : decode cL_law 1320 = .ok (.iconst 1, 1) := by decide +kernel
theorem dL_law_1321 : decode cL_law 1321 = .ok (.iadd, 1) := by decide +kernel
theorem dL_law_1322 : decode cL_law 1322 = .ok (.iaload, 1) := by decide +kernel
theorem dL_law_1323 : decode cL_law 1323 = .ok (.aload_n 0, 1) := by decide +kernel
theorem dL_law_1324 : decode cL_law 1324 = .ok (.iload 4, 2) := by decide +kernel
theorem dL_law_1326 : decode cL_law 1326 = .ok (.iconst 2, 1) := by decide +kernel
theorem dL_law_1327 : decode cL_law 1327 = .ok (.iadd, 1) := by decide +kernel
theorem dL_law_1328 : decode cL_law 1328 = .ok (.iaload, 1) := by decide +kernel
theorem dL_law_1329 : decode cL_law 1329 = .ok (.invokevirtual 157, 3) := by decide +kernel
theorem dL_law_1332 : decode cL_law 1332 = .ok (.aload_n 2, 1) := by decide +kernel
theorem dL_law_1333 : decode cL_law 1333 = .ok (.aload_n 0, 1) := by decide +kernel
theorem dL_law_1334 : decode cL_law 1334 = .ok (.iload 4, 2) := by decide +kernel
theorem dL_law_1336 : decode cL_law 1336 = .ok (.iconst 1, 1) := by decide +kernel
theorem dL_law_1337 : decode cL_law 1337 = .ok (.iadd, 1) := by decide +kernel
theorem dL_law_1338 : decode cL_law 1338 = .ok (.iaload, 1) := by decide +kernel
theorem dL_law_1339 : decode cL_law 1339 = .ok (.aload_n 0, 1) := by decide +kernel
theorem dL_law_1340 : decode cL_law 1340 = .ok (.iload 4, 2) := by decide +kernel
theorem dL_law_1342 : decode cL_law 1342 = .ok (.iconst 2, 1) := by decide +kernel
theorem dL_law_1343 : decode cL_law 1343 = .ok (.iadd, 1) := by decide +kernel
theorem dL_law_1344 : decode cL_law 1344 = .ok (.iaload, 1) := by decide +kernel
theorem dL_law_1345 : decode cL_law 1345 = .ok (.invokevirtual 160, 3) := by decide +kernel
theorem dL_law_1348 : decode cL_law 1348 = .ok (.if_icmp .eq 168, 3) := by decide +kernel
theorem dL_law_1351 : decode cL_law 1351 = .ok (.iconst 0, 1) := by decide +kernel
theorem dL_law_1352 : decode cL_law 1352 = .ok (.ireturn, 1) := by decide +kernel
theorem dL_law_1353 : decode cL_law 1353 = .ok (.aload_n 1, 1) := by decide +kernel
theorem dL_law_1354 : decode cL_law 1354 = .ok (.aload_n 0, 1) := by decide +kernel
theorem dL_law_1355 : decode cL_law 1355 = .ok (.iload 4, 2) := by decide +kernel
theorem dL_law_1357 : decode cL_law 1357 = .ok (.iconst 1, 1) := by decide +kernel
theorem dL_law_1358 : decode cL_law 1358 = .ok (.iadd, 1) := by decide +kernel
theorem dL_law_1359 : decode cL_law 1359 = .ok (.iaload, 1) := by decide +kernel
theorem dL_law_1360 : decode cL_law 1360 = .ok (.aload_n 0, 1) := by decide +kernel
theorem dL_law_1361 : decode cL_law 1361 = .ok (.iload 4, 2) := by decide +kernel
theorem dL_law_1363 : decode cL_law 1363 = .ok (.iconst 2, 1) := by decide +kernel
theorem dL_law_1364 : decode cL_law 1364 = .ok (.iadd, 1) := by decide +kernel
theorem dL_law_1365 : decode cL_law 1365 = .ok (.iaload, 1) := by decide +kernel
theorem dL_law_1366 : decode cL_law 1366 = .ok (.invokevirtual 161, 3) := by decide +kernel
theorem dL_law_1369 : decode cL_law 1369 = .ok (.aload_n 2, 1) := by decide +kernel
theorem dL_law_1370 : decode cL_law 1370 = .ok (.aload_n 0, 1) := by decide +kernel
theorem dL_law_1371 : decode cL_law 1371 = .ok (.iload 4, 2) := by decide +kernel
theorem dL_law_1373 : decode cL_law 1373 = .ok (.iconst 1, 1) := by decide +kernel
theorem dL_law_1374 : decode cL_law 1374 = .ok (.iadd, 1) := by decide +kernel
theorem dL_law_1375 : decode cL_law 1375 = .ok (.iaload, 1) := by decide +kernel
theorem dL_law_1376 : decode cL_law 1376 = .ok (.aload_n 0, 1) := by decide +kernel
theorem dL_law_1377 : decode cL_law 1377 = .ok (.iload 4, 2) := by decide +kernel
theorem dL_law_1379 : decode cL_law 1379 = .ok (.iconst 2, 1) := by decide +kernel
theorem dL_law_1380 : decode cL_law 1380 = .ok (.iadd, 1) := by decide +kernel
theorem dL_law_1381 : decode cL_law 1381 = .ok (.iaload, 1) := by decide +kernel
theorem dL_law_1382 : decode cL_law 1382 = .ok (.invokevirtual 164, 3) := by decide +kernel
theorem dL_law_1385 : decode cL_law 1385 = .ok (.if_icmp .eq 131, 3) := by decide +kernel
theorem dL_law_1388 : decode cL_law 1388 = .ok (.iconst 0, 1) := by decide +kernel
theorem dL_law_1389 : decode cL_law 1389 = .ok (.ireturn, 1) := by decide +kernel
theorem dL_law_1390 : decode cL_law 1390 = .ok (.aload_n 1, 1) := by decide +kernel
theorem dL_law_1391 : decode cL_law 1391 = .ok (.aload_n 0, 1) := by decide +kernel
theorem dL_law_1392 : decode cL_law 1392 = .ok (.iload 4, 2) := by decide +kernel
theorem dL_law_1394 : decode cL_law 1394 = .ok (.iconst 1, 1) := by decide +kernel
theorem dL_law_1395 : decode cL_law 1395 = .ok (.iadd, 1) := by decide +kernel
theorem dL_law_1396 : decode cL_law 1396 = .ok (.iaload, 1) := by decide +kernel
theorem dL_law_1397 : decode cL_law 1397 = .ok (.invokevirtual 165, 3) := by decide +kernel
theorem dL_law_1400 : decode cL_law 1400 = .ok (.aload_n 2, 1) := by decide +kernel
theorem dL_law_1401 : decode cL_law 1401 = .ok (.aload_n 0, 1) := by decide +kernel
theorem dL_law_1402 : decode cL_law 1402 = .ok (.iload 4, 2) := by decide +kernel
theorem dL_law_1404 : decode cL_law 1404 = .ok (.iconst 1, 1) := by decide +kernel
theorem dL_law_1405 : decode cL_law 1405 = .ok (.iadd, 1) := by decide +kernel
theorem dL_law_1406 : decode cL_law 1406 = .ok (.iaload, 1) := by decide +kernel
theorem dL_law_1407 : decode cL_law 1407 = .ok (.invokevirtual 168, 3) := by decide +kernel
theorem dL_law_1410 : decode cL_law 1410 = .ok (.if_icmp .eq 106, 3) := by decide +kernel
theorem dL_law_1413 : decode cL_law 1413 = .ok (.iconst 0, 1) := by decide +kernel
theorem dL_law_1414 : decode cL_law 1414 = .ok (.ireturn, 1) := by decide +kernel
theorem dL_law_1415 : decode cL_law 1415 = .ok (.aload_n 1, 1) := by decide +kernel
theorem dL_law_1416 : decode cL_law 1416 = .ok (.aload_n 0, 1) := by decide +kernel
theorem dL_law_1417 : decode cL_law 1417 = .ok (.iload 4, 2) := by decide +kernel
theorem dL_law_1419 : decode cL_law 1419 = .ok (.iconst 1, 1) := by decide +kernel
theorem dL_law_1420 : decode cL_law 1420 = .ok (.iadd, 1) := by decide +kernel
theorem dL_law_1421 : decode cL_law 1421 = .ok (.iaload, 1) := by decide +kernel
theorem dL_law_1422 : decode cL_law 1422 = .ok (.invokevirtual 169, 3) := by decide +kernel
theorem dL_law_1425 : decode cL_law 1425 = .ok (.aload_n 2, 1) := by decide +kernel
theorem dL_law_1426 : decode cL_law 1426 = .ok (.aload_n 0, 1) := by decide +kernel
theorem dL_law_1427 : decode cL_law 1427 = .ok (.iload 4, 2) := by decide +kernel
theorem dL_law_1429 : decode cL_law 1429 = .ok (.iconst 1, 1) := by decide +kernel
theorem dL_law_1430 : decode cL_law 1430 = .ok (.iadd, 1) := by decide +kernel
theorem dL_law_1431 : decode cL_law 1431 = .ok (.iaload, 1) := by decide +kernel
theorem dL_law_1432 : decode cL_law 1432 = .ok (.invokevirtual 172, 3) := by decide +kernel
theorem dL_law_1435 : decode cL_law 1435 = .ok (.if_icmp .eq 81, 3) := by decide +kernel
theorem dL_law_1438 : decode cL_law 1438 = .ok (.iconst 0, 1) := by decide +kernel
theorem dL_law_1439 : decode cL_law 1439 = .ok (.ireturn, 1) := by decide +kernel
theorem dL_law_1440 : decode cL_law 1440 = .ok (.aload_n 1, 1) := by decide +kernel
theorem dL_law_1441 : decode cL_law 1441 = .ok (.aload_n 0, 1) := by decide +kernel
theorem dL_law_1442 : decode cL_law 1442 = .ok (.iload 4, 2) := by decide +kernel
theorem dL_law_1444 : decode cL_law 1444 = .ok (.iconst 1, 1) := by decide +kernel
theorem dL_law_1445 : decode cL_law 1445 = .ok (.iadd, 1) := by decide +kernel
theorem dL_law_1446 : decode cL_law 1446 = .ok (.iaload, 1) := by decide +kernel
theorem dL_law_1447 : decode cL_law 1447 = .ok (.invokevirtual 173, 3) := by decide +kernel
theorem dL_law_1450 : decode cL_law 1450 = .ok (.aload_n 2, 1) := by decide +kernel
theorem dL_law_1451 : decode cL_law 1451 = .ok (.aload_n 0, 1) := by decide +kernel
theorem dL_law_1452 : decode cL_law 1452 = .ok (.iload 4, 2) := by decide +kernel
theorem dL_law_1454 : decode cL_law 1454 = .ok (.iconst 1, 1) := by decide +kernel
theorem dL_law_1455 : decode cL_law 1455 = .ok (.iadd, 1) := by decide +kernel
theorem dL_law_1456 : decode cL_law 1456 = .ok (.iaload, 1) := by decide +kernel
theorem dL_law_1457 : decode cL_law 1457 = .ok (.invokevirtual 176, 3) := by decide +kernel
theorem dL_law_1460 : decode cL_law 1460 = .ok (.if_icmp .eq 56, 3) := by decide +kernel
theorem dL_law_1463 : decode cL_law 1463 = .ok (.iconst 0, 1) := by decide +kernel
theorem dL_law_1464 : decode cL_law 1464 = .ok (.ireturn, 1) := by decide +kernel
theorem dL_law_1465 : decode cL_law 1465 = .ok (.aload_n 1, 1) := by decide +kernel
theorem dL_law_1466 : decode cL_law 1466 = .ok (.invokevirtual 177, 3) := by decide +kernel
theorem dL_law_1469 : decode cL_law 1469 = .ok (.aload_n 2, 1) := by decide +kernel
theorem dL_law_1470 : decode cL_law 1470 = .ok (.invokevirtual 180, 3) := by decide +kernel
theorem dL_law_1473 : decode cL_law 1473 = .ok (.if_icmp .eq 43, 3) := by decide +kernel
theorem dL_law_1476 : decode cL_law 1476 = .ok (.iconst 0, 1) := by decide +kernel
theorem dL_law_1477 : decode cL_law 1477 = .ok (.ireturn, 1) := by decide +kernel
theorem dL_law_1478 : decode cL_law 1478 = .ok (.aload_n 1, 1) := by decide +kernel
theorem dL_law_1479 : decode cL_law 1479 = .ok (.invokevirtual 181, 3) := by decide +kernel
theorem dL_law_1482 : decode cL_law 1482 = .ok (.aload_n 2, 1) := by decide +kernel
theorem dL_law_1483 : decode cL_law 1483 = .ok (.invokevirtual 184, 3) := by decide +kernel
theorem dL_law_1486 : decode cL_law 1486 = .ok (.if_icmp .eq 30, 3) := by decide +kernel
theorem dL_law_1489 : decode cL_law 1489 = .ok (.iconst 0, 1) := by decide +kernel
theorem dL_law_1490 : decode cL_law 1490 = .ok (.ireturn, 1) := by decide +kernel
theorem dL_law_1491 : decode cL_law 1491 = .ok (.aload_n 1, 1) := by decide +kernel
theorem dL_law_1492 : decode cL_law 1492 = .ok (.aload_n 0, 1) := by decide +kernel
theorem dL_law_1493 : decode cL_law 1493 = .ok (.iload 4, 2) := by decide +kernel
theorem dL_law_1495 : decode cL_law 1495 = .ok (.iconst 1, 1) := by decide +kernel
theorem dL_law_1496 : decode cL_law 1496 = .ok (.iadd, 1) := by decide +kernel
theorem dL_law_1497 : decode cL_law 1497 = .ok (.iaload, 1) := by decide +kernel
theorem dL_law_1498 : decode cL_law 1498 = .ok (.invokevirtual 185, 3) := by decide +kernel
theorem dL_law_1501 : decode cL_law 1501 = .ok (.aload_n 2, 1) := by decide +kernel
theorem dL_law_1502 : decode cL_law 1502 = .ok (.aload_n 0, 1) := by decide +kernel
theorem dL_law_1503 : decode cL_law 1503 = .ok (.iload 4, 2) := by decide +kernel
theorem dL_law_1505 : decode cL_law 1505 = .ok (.iconst 1, 1) := by decide +kernel
theorem dL_law_1506 : decode cL_law 1506 = .ok (.iadd, 1) := by decide +kernel
theorem dL_law_1507 : decode cL_law 1507 = .ok (.iaload, 1) := by decide +kernel
theorem dL_law_1508 : decode cL_law 1508 = .ok (.invokevirtual 188, 3) := by decide +kernel
theorem dL_law_1511 : decode cL_law 1511 = .ok (.if_icmp .eq 5, 3) := by decide +kernel
theorem dL_law_1514 : decode cL_law 1514 = .ok (.iconst 0, 1) := by decide +kernel
theorem dL_law_1515 : decode cL_law 1515 = .ok (.ireturn, 1) := by decide +kernel
theorem dL_law_1516 : decode cL_law 1516 = .ok (.iinc 4 7, 3) := by decide +kernel
theorem dL_law_1519 : decode cL_law 1519 = .ok (.goto (-1496), 3) := by decide +kernel
theorem dL_law_1522 : decode cL_law 1522 = .ok (.iconst 1, 1) := by decide +kernel
theorem dL_law_1523 : decode cL_law 1523 = .ok (.ireturn, 1) := by decide +kernel
