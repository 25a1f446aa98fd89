theorem dX0_init_0 : decode cX0_init 0 = .ok (.aload_n 0, 1) := by decide +kernel
theorem dX0_init_1 : decode cX0_init 1 = .ok (.invokespecial 3, 3) := by decide +kernel
theorem dX0_init_4 : decode cX0_init 4 = .ok (.aload_n 0, 1) := by decide +kernel
theorem dX0_init_5 : decode cX0_init 5 = .ok (.bipush 10, 2) := by decide +kernel
theorem dX0_init_7 : decode cX0_init 7 = .ok (.newarray .int, 2) := by decide +kernel
theorem dX0_init_9 : decode cX0_init 9 = .ok (.putfield 11, 3) := by decide +kernel
theorem dX0_init_12 : decode cX0_init 12 = .ok (.aload_n 0, 1) := by decide +kernel
theorem dX0_init_13 : decode cX0_init 13 = .ok (.bipush 10, 2) := by decide +kernel
theorem dX0_init_15 : decode cX0_init 15 = .ok (.newarray .int, 2) := by decide +kernel
theorem dX0_init_17 : decode cX0_init 17 = .ok (.putfield 15, 3) := by decide +kernel
theorem dX0_init_20 : decode cX0_init 20 = .ok (.aload_n 0, 1) := by decide +kernel
theorem dX0_init_21 : decode cX0_init 21 = .ok (.iconst 3, 1) := by decide +kernel
theorem dX0_init_22 : decode cX0_init 22 = .ok (.newarray .int, 2) := by decide +kernel
theorem dX0_init_24 : decode cX0_init 24 = .ok (.putfield 18, 3) := by decide +kernel
theorem dX0_init_27 : decode cX0_init 27 = .ok (.aload_n 0, 1) := by decide +kernel
theorem dX0_init_28 : decode cX0_init 28 = .ok (.aload_n 1, 1) := by decide +kernel
theorem dX0_init_29 : decode cX0_init 29 = .ok (.putfield 21, 3) := by decide +kernel
theorem dX0_init_32 : decode cX0_init 32 = .ok (.return_, 1) := by decide +kernel
theorem dX0_noted_0 : decode cX0_noted 0 = .ok (.aload_n 0, 1) := by decide +kernel
theorem dX0_noted_1 : decode cX0_noted 1 = .ok (.getfield 25, 3) := by decide +kernel
theorem dX0_noted_4 : decode cX0_noted 4 = .ok (.ireturn, 1) := by decide +kernel
theorem dX0_forget_0 : decode cX0_forget 0 = .ok (.aload_n 0, 1) := by decide +kernel
theorem dX0_forget_1 : decode cX0_forget 1 = .ok (.iconst 0, 1) := by decide +kernel
theorem dX0_forget_2 : decode cX0_forget 2 = .ok (.putfield 25, 3) := by decide +kernel
theorem dX0_forget_5 : decode cX0_forget 5 = .ok (.return_, 1) := by decide +kernel
theorem dX0_note_0 : decode cX0_note 0 = .ok (.aload_n 0, 1) := by decide +kernel
theorem dX0_note_1 : decode cX0_note 1 = .ok (.getfield 21, 3) := by decide +kernel
theorem dX0_note_4 : decode cX0_note 4 = .ok (.iload_n 1, 1) := by decide +kernel
theorem dX0_note_5 : decode cX0_note 5 = .ok (.invokevirtual 29, 3) := by decide +kernel
theorem dX0_note_8 : decode cX0_note 8 = .ok (.ifCond .eq 21, 3) := by decide +kernel
theorem dX0_note_11 : decode cX0_note 11 = .ok (.iload_n 2, 1) := by decide +kernel
theorem dX0_note_12 : decode cX0_note 12 = .ok (.ifCond .lt 17, 3) := by decide +kernel
theorem dX0_note_15 : decode cX0_note 15 = .ok (.iload_n 2, 1) := by decide +kernel
theorem dX0_note_16 : decode cX0_note 16 = .ok (.iconst 2, 1) := by decide +kernel
theorem dX0_note_17 : decode cX0_note 17 = .ok (.if_icmp .gt 12, 3) := by decide +kernel
theorem dX0_note_20 : decode cX0_note 20 = .ok (.aload_n 0, 1) := by decide +kernel
theorem dX0_note_21 : decode cX0_note 21 = .ok (.getfield 25, 3) := by decide +kernel
theorem dX0_note_24 : decode cX0_note 24 = .ok (.bipush 10, 2) := by decide +kernel
theorem dX0_note_26 : decode cX0_note 26 = .ok (.if_icmp .lt 5, 3) := by decide +kernel
theorem dX0_note_29 : decode cX0_note 29 = .ok (.iconst (-1), 1) := by decide +kernel
theorem dX0_note_30 : decode cX0_note 30 = .ok (.ireturn, 1) := by decide +kernel
theorem dX0_note_31 : decode cX0_note 31 = .ok (.aload_n 0, 1) := by decide +kernel
theorem dX0_note_32 : decode cX0_note 32 = .ok (.getfield 11, 3) := by decide +kernel
theorem dX0_note_35 : decode cX0_note 35 = .ok (.aload_n 0, 1) := by decide +kernel
theorem dX0_note_36 : decode cX0_note 36 = .ok (.getfield 25, 3) := by decide +kernel
theorem dX0_note_39 : decode cX0_note 39 = .ok (.iload_n 1, 1) := by decide +kernel
theorem dX0_note_40 : decode cX0_note 40 = .ok (.iastore, 1) := by decide +kernel
theorem dX0_note_41 : decode cX0_note 41 = .ok (.aload_n 0, 1) := by decide +kernel
theorem dX0_note_42 : decode cX0_note 42 = .ok (.getfield 15, 3) := by decide +kernel
theorem dX0_note_45 : decode cX0_note 45 = .ok (.aload_n 0, 1) := by decide +kernel
theorem dX0_note_46 : decode cX0_note 46 = .ok (.getfield 25, 3) := by decide +kernel
theorem dX0_note_49 : decode cX0_note 49 = .ok (.iload_n 2, 1) := by decide +kernel
theorem dX0_note_50 : decode cX0_note 50 = .ok (.iastore, 1) := by decide +kernel
theorem dX0_note_51 : decode cX0_note 51 = .ok (.aload_n 0, 1) := by decide +kernel
theorem dX0_note_52 : decode cX0_note 52 = .ok (.dup, 1) := by decide +kernel
theorem dX0_note_53 : decode cX0_note 53 = .ok (.getfield 25, 3) := by decide +kernel
theorem dX0_note_56 : decode cX0_note 56 = .ok (.iconst 1, 1) := by decide +kernel
theorem dX0_note_57 : decode cX0_note 57 = .ok (.iadd, 1) := by decide +kernel
theorem dX0_note_58 : decode cX0_note 58 = .ok (.putfield 25, 3) := by decide +kernel
theorem dX0_note_61 : decode cX0_note 61 = .ok (.aload_n 0, 1) := by decide +kernel
theorem dX0_note_62 : decode cX0_note 62 = .ok (.getfield 25, 3) := by decide +kernel
theorem dX0_note_65 : decode cX0_note 65 = .ok (.ireturn, 1) := by decide +kernel
theorem dX0_canAsk_0 : decode cX0_canAsk 0 = .ok (.aload_n 0, 1) := by decide +kernel
theorem dX0_canAsk_1 : decode cX0_canAsk 1 = .ok (.getfield 21, 3) := by decide +kernel
theorem dX0_canAsk_4 : decode cX0_canAsk 4 = .ok (.invokevirtual 35, 3) := by decide +kernel
theorem dX0_canAsk_7 : decode cX0_canAsk 7 = .ok (.ifCond .eq 17, 3) := by decide +kernel
theorem dX0_canAsk_10 : decode cX0_canAsk 10 = .ok (.iload_n 1, 1) := by decide +kernel
theorem dX0_canAsk_11 : decode cX0_canAsk 11 = .ok (.ifCond .lt 13, 3) := by decide +kernel
theorem dX0_canAsk_14 : decode cX0_canAsk 14 = .ok (.iload_n 1, 1) := by decide +kernel
theorem dX0_canAsk_15 : decode cX0_canAsk 15 = .ok (.bipush 7, 2) := by decide +kernel
theorem dX0_canAsk_17 : decode cX0_canAsk 17 = .ok (.if_icmp .gt 7, 3) := by decide +kernel
theorem dX0_canAsk_20 : decode cX0_canAsk 20 = .ok (.iconst 1, 1) := by decide +kernel
theorem dX0_canAsk_21 : decode cX0_canAsk 21 = .ok (.goto 4, 3) := by decide +kernel
theorem dX0_canAsk_24 : decode cX0_canAsk 24 = .ok (.iconst 0, 1) := by decide +kernel
theorem dX0_canAsk_25 : decode cX0_canAsk 25 = .ok (.ireturn, 1) := by decide +kernel
theorem dX0_fits_0 : decode cX0_fits 0 = .ok (.iload_n 1, 1) := by decide +kernel
theorem dX0_fits_1 : decode cX0_fits 1 = .ok (.invokestatic 39, 3) := by decide +kernel
theorem dX0_fits_4 : decode cX0_fits 4 = .ok (.iload_n 2, 1) := by decide +kernel
theorem dX0_fits_5 : decode cX0_fits 5 = .ok (.if_icmp .eq 5, 3) := by decide +kernel
theorem dX0_fits_8 : decode cX0_fits 8 = .ok (.iconst 0, 1) := by decide +kernel
theorem dX0_fits_9 : decode cX0_fits 9 = .ok (.ireturn, 1) := by decide +kernel
theorem dX0_fits_10 : decode cX0_fits 10 = .ok (.iconst 0, 1) := by decide +kernel
theorem dX0_fits_11 : decode cX0_fits 11 = .ok (.istore_n 3, 1) := by decide +kernel
theorem dX0_fits_12 : decode cX0_fits 12 = .ok (.iload_n 3, 1) := by decide +kernel
theorem dX0_fits_13 : decode cX0_fits 13 = .ok (.aload_n 0, 1) := by decide +kernel
theorem dX0_fits_14 : decode cX0_fits 14 = .ok (.getfield 25, 3) := by decide +kernel
theorem dX0_fits_17 : decode cX0_fits 17 = .ok (.if_icmp .ge 40, 3) := by decide +kernel
theorem dX0_fits_20 : decode cX0_fits 20 = .ok (.iload_n 3, 1) := by decide +kernel
theorem dX0_fits_21 : decode cX0_fits 21 = .ok (.bipush 10, 2) := by decide +kernel
theorem dX0_fits_23 : decode cX0_fits 23 = .ok (.if_icmp .ge 34, 3) := by decide +kernel
theorem dX0_fits_26 : decode cX0_fits 26 = .ok (.aload_n 0, 1) := by decide +kernel
theorem dX0_fits_27 : decode cX0_fits 27 = .ok (.getfield 21, 3) := by decide +kernel
theorem dX0_fits_30 : decode cX0_fits 30 = .ok (.aload_n 0, 1) := by decide +kernel
theorem dX0_fits_31 : decode cX0_fits 31 = .ok (.getfield 11, 3) := by decide +kernel
theorem dX0_fits_34 : decode cX0_fits 34 = .ok (.iload_n 3, 1) := by decide +kernel
theorem dX0_fits_35 : decode cX0_fits 35 = .ok (.iaload, 1) := by decide +kernel
theorem dX0_fits_36 : decode cX0_fits 36 = .ok (.iload_n 1, 1) := by decide +kernel
theorem dX0_fits_37 : decode cX0_fits 37 = .ok (.invokevirtual 45, 3) := by decide +kernel
theorem dX0_fits_40 : decode cX0_fits 40 = .ok (.aload_n 0, 1) := by decide +kernel
theorem dX0_fits_41 : decode cX0_fits 41 = .ok (.getfield 15, 3) := by decide +kernel
theorem dX0_fits_44 : decode cX0_fits 44 = .ok (.iload_n 3, 1) := by decide +kernel
theorem dX0_fits_45 : decode cX0_fits 45 = .ok (.iaload, 1) := by decide +kernel
theorem dX0_fits_46 : decode cX0_fits 46 = .ok (.if_icmp .eq 5, 3) := by decide +kernel
theorem dX0_fits_49 : decode cX0_fits 49 = .ok (.iconst 0, 1) := by decide +kernel
theorem dX0_fits_50 : decode cX0_fits 50 = .ok (.ireturn, 1) := by decide +kernel
theorem dX0_fits_51 : decode cX0_fits 51 = .ok (.iinc 3 1, 3) := by decide +kernel
theorem dX0_fits_54 : decode cX0_fits 54 = .ok (.goto (-42), 3) := by decide +kernel
theorem dX0_fits_57 : decode cX0_fits 57 = .ok (.iconst 1, 1) := by decide +kernel
theorem dX0_fits_58 : decode cX0_fits 58 = .ok (.ireturn, 1) := by decide +kernel
theorem dX0_sets_0 : decode cX0_sets 0 = .ok (.iconst 0, 1) := by decide +kernel
theorem dX0_sets_1 : decode cX0_sets 1 = .ok (.istore_n 2, 1) := by decide +kernel
theorem dX0_sets_2 : decode cX0_sets 2 = .ok (.iconst 0, 1) := by decide +kernel
theorem dX0_sets_3 : decode cX0_sets 3 = .ok (.istore_n 3, 1) := by decide +kernel
theorem dX0_sets_4 : decode cX0_sets 4 = .ok (.iload_n 3, 1) := by decide +kernel
theorem dX0_sets_5 : decode cX0_sets 5 = .ok (.aload_n 0, 1) := by decide +kernel
theorem dX0_sets_6 : decode cX0_sets 6 = .ok (.getfield 21, 3) := by decide +kernel
theorem dX0_sets_9 : decode cX0_sets 9 = .ok (.invokevirtual 48, 3) := by decide +kernel
theorem dX0_sets_12 : decode cX0_sets 12 = .ok (.if_icmp .gt 21, 3) := by decide +kernel
theorem dX0_sets_15 : decode cX0_sets 15 = .ok (.aload_n 0, 1) := by decide +kernel
theorem dX0_sets_16 : decode cX0_sets 16 = .ok (.iload_n 3, 1) := by decide +kernel
theorem dX0_sets_17 : decode cX0_sets 17 = .ok (.iload_n 1, 1) := by decide +kernel
theorem dX0_sets_18 : decode cX0_sets 18 = .ok (.invokevirtual 52, 3) := by decide +kernel
theorem dX0_sets_21 : decode cX0_sets 21 = .ok (.ifCond .eq 6, 3) := by decide +kernel
theorem dX0_sets_24 : decode cX0_sets 24 = .ok (.iinc 2 1, 3) := by decide +kernel
theorem dX0_sets_27 : decode cX0_sets 27 = .ok (.iinc 3 1, 3) := by decide +kernel
theorem dX0_sets_30 : decode cX0_sets 30 = .ok (.goto (-26), 3) := by decide +kernel
theorem dX0_sets_33 : decode cX0_sets 33 = .ok (.iload_n 2, 1) := by decide +kernel
theorem dX0_sets_34 : decode cX0_sets 34 = .ok (.ireturn, 1) := by decide +kernel
theorem dX0_setAt_0 : decode cX0_setAt 0 = .ok (.iconst 0, 1) := by decide +kernel
theorem dX0_setAt_1 : decode cX0_setAt 1 = .ok (.istore_n 3, 1) := by decide +kernel
theorem dX0_setAt_2 : decode cX0_setAt 2 = .ok (.iconst 0, 1) := by decide +kernel
theorem dX0_setAt_3 : decode cX0_setAt 3 = .ok (.istore 4, 2) := by decide +kernel
theorem dX0_setAt_5 : decode cX0_setAt 5 = .ok (.iload 4, 2) := by decide +kernel
theorem dX0_setAt_7 : decode cX0_setAt 7 = .ok (.aload_n 0, 1) := by decide +kernel
theorem dX0_setAt_8 : decode cX0_setAt 8 = .ok (.getfield 21, 3) := by decide +kernel
theorem dX0_setAt_11 : decode cX0_setAt 11 = .ok (.invokevirtual 48, 3) := by decide +kernel
theorem dX0_setAt_14 : decode cX0_setAt 14 = .ok (.if_icmp .gt 30, 3) := by decide +kernel
theorem dX0_setAt_17 : decode cX0_setAt 17 = .ok (.aload_n 0, 1) := by decide +kernel
theorem dX0_setAt_18 : decode cX0_setAt 18 = .ok (.iload 4, 2) := by decide +kernel
theorem dX0_setAt_20 : decode cX0_setAt 20 = .ok (.iload_n 1, 1) := by decide +kernel
theorem dX0_setAt_21 : decode cX0_setAt 21 = .ok (.invokevirtual 52, 3) := by decide +kernel
theorem dX0_setAt_24 : decode cX0_setAt 24 = .ok (.ifCond .eq 14, 3) := by decide +kernel
theorem dX0_setAt_27 : decode cX0_setAt 27 = .ok (.iload_n 3, 1) := by decide +kernel
theorem dX0_setAt_28 : decode cX0_setAt 28 = .ok (.iload_n 2, 1) := by decide +kernel
theorem dX0_setAt_29 : decode cX0_setAt 29 = .ok (.if_icmp .ne 6, 3) := by decide +kernel
theorem dX0_setAt_32 : decode cX0_setAt 32 = .ok (.iload 4, 2) := by decide +kernel
theorem dX0_setAt_34 : decode cX0_setAt 34 = .ok (.ireturn, 1) := by decide +kernel
theorem dX0_setAt_35 : decode cX0_setAt 35 = .ok (.iinc 3 1, 3) := by decide +kernel
theorem dX0_setAt_38 : decode cX0_setAt 38 = .ok (.iinc 4 1, 3) := by decide +kernel
theorem dX0_setAt_41 : decode cX0_setAt 41 = .ok (.goto (-36), 3) := by decide +kernel
theorem dX0_setAt_44 : decode cX0_setAt 44 = .ok (.iconst (-1), 1) := by decide +kernel
theorem dX0_setAt_45 : decode cX0_setAt 45 = .ok (.ireturn, 1) := by decide +kernel
theorem dX0_inAll_0 : decode cX0_inAll 0 = .ok (.iconst (-1), 1) := by decide +kernel
theorem dX0_inAll_1 : decode cX0_inAll 1 = .ok (.istore_n 2, 1) := by decide +kernel
theorem dX0_inAll_2 : decode cX0_inAll 2 = .ok (.iconst 0, 1) := by decide +kernel
theorem dX0_inAll_3 : decode cX0_inAll 3 = .ok (.istore_n 3, 1) := by decide +kernel
theorem dX0_inAll_4 : decode cX0_inAll 4 = .ok (.iload_n 3, 1) := by decide +kernel
theorem dX0_inAll_5 : decode cX0_inAll 5 = .ok (.aload_n 0, 1) := by decide +kernel
theorem dX0_inAll_6 : decode cX0_inAll 6 = .ok (.getfield 21, 3) := by decide +kernel
theorem dX0_inAll_9 : decode cX0_inAll 9 = .ok (.invokevirtual 48, 3) := by decide +kernel
theorem dX0_inAll_12 : decode cX0_inAll 12 = .ok (.if_icmp .gt 31, 3) := by decide +kernel
theorem dX0_inAll_15 : decode cX0_inAll 15 = .ok (.aload_n 0, 1) := by decide +kernel
theorem dX0_inAll_16 : decode cX0_inAll 16 = .ok (.iload_n 3, 1) := by decide +kernel
theorem dX0_inAll_17 : decode cX0_inAll 17 = .ok (.iload_n 1, 1) := by decide +kernel
theorem dX0_inAll_18 : decode cX0_inAll 18 = .ok (.invokevirtual 52, 3) := by decide +kernel
theorem dX0_inAll_21 : decode cX0_inAll 21 = .ok (.ifCond .eq 16, 3) := by decide +kernel
theorem dX0_inAll_24 : decode cX0_inAll 24 = .ok (.iload_n 2, 1) := by decide +kernel
theorem dX0_inAll_25 : decode cX0_inAll 25 = .ok (.iconst (-1), 1) := by decide +kernel
theorem dX0_inAll_26 : decode cX0_inAll 26 = .ok (.if_icmp .ne 7, 3) := by decide +kernel
theorem dX0_inAll_29 : decode cX0_inAll 29 = .ok (.iload_n 3, 1) := by decide +kernel
theorem dX0_inAll_30 : decode cX0_inAll 30 = .ok (.goto 6, 3) := by decide +kernel
theorem dX0_inAll_33 : decode cX0_inAll 33 = .ok (.iload_n 2, 1) := by decide +kernel
theorem dX0_inAll_34 : decode cX0_inAll 34 = .ok (.iload_n 3, 1) := by decide +kernel
theorem dX0_inAll_35 : decode cX0_inAll 35 = .ok (.iand, 1) := by decide +kernel
theorem dX0_inAll_36 : decode cX0_inAll 36 = .ok (.istore_n 2, 1) := by decide +kernel
theorem dX0_inAll_37 : decode cX0_inAll 37 = .ok (.iinc 3 1, 3) := by decide +kernel
theorem dX0_inAll_40 : decode cX0_inAll 40 = .ok (.goto (-36), 3) := by decide +kernel
theorem dX0_inAll_43 : decode cX0_inAll 43 = .ok (.iload_n 2, 1) := by decide +kernel
theorem dX0_inAll_44 : decode cX0_inAll 44 = .ok (.ireturn, 1) := by decide +kernel
theorem dX0_bestFile_0 : decode cX0_bestFile 0 = .ok (.iconst (-1), 1) := by decide +kernel
theorem dX0_bestFile_1 : decode cX0_bestFile 1 = .ok (.istore_n 2, 1) := by decide +kernel
theorem dX0_bestFile_2 : decode cX0_bestFile 2 = .ok (.iconst 0, 1) := by decide +kernel
theorem dX0_bestFile_3 : decode cX0_bestFile 3 = .ok (.istore_n 3, 1) := by decide +kernel
theorem dX0_bestFile_4 : decode cX0_bestFile 4 = .ok (.iconst 0, 1) := by decide +kernel
theorem dX0_bestFile_5 : decode cX0_bestFile 5 = .ok (.istore 4, 2) := by decide +kernel
theorem dX0_bestFile_7 : decode cX0_bestFile 7 = .ok (.iload 4, 2) := by decide +kernel
theorem dX0_bestFile_9 : decode cX0_bestFile 9 = .ok (.aload_n 0, 1) := by decide +kernel
theorem dX0_bestFile_10 : decode cX0_bestFile 10 = .ok (.getfield 21, 3) := by decide +kernel
theorem dX0_bestFile_13 : decode cX0_bestFile 13 = .ok (.invokevirtual 56, 3) := by decide +kernel
theorem dX0_bestFile_16 : decode cX0_bestFile 16 = .ok (.if_icmp .ge 35, 3) := by decide +kernel
theorem dX0_bestFile_19 : decode cX0_bestFile 19 = .ok (.aload_n 0, 1) := by decide +kernel
theorem dX0_bestFile_20 : decode cX0_bestFile 20 = .ok (.iload 4, 2) := by decide +kernel
theorem dX0_bestFile_22 : decode cX0_bestFile 22 = .ok (.iload_n 1, 1) := by decide +kernel
theorem dX0_bestFile_23 : decode cX0_bestFile 23 = .ok (.invokevirtual 58, 3) := by decide +kernel
theorem dX0_bestFile_26 : decode cX0_bestFile 26 = .ok (.istore 5, 2) := by decide +kernel
theorem dX0_bestFile_28 : decode cX0_bestFile 28 = .ok (.iload_n 2, 1) := by decide +kernel
theorem dX0_bestFile_29 : decode cX0_bestFile 29 = .ok (.iconst (-1), 1) := by decide +kernel
theorem dX0_bestFile_30 : decode cX0_bestFile 30 = .ok (.if_icmp .eq 9, 3) := by decide +kernel
theorem dX0_bestFile_33 : decode cX0_bestFile 33 = .ok (.iload 5, 2) := by decide +kernel
theorem dX0_bestFile_35 : decode cX0_bestFile 35 = .ok (.iload_n 3, 1) := by decide +kernel
theorem dX0_bestFile_36 : decode cX0_bestFile 36 = .ok (.if_icmp .ge 9, 3) := by decide +kernel
theorem dX0_bestFile_39 : decode cX0_bestFile 39 = .ok (.iload 4, 2) := by decide +kernel
theorem dX0_bestFile_41 : decode cX0_bestFile 41 = .ok (.istore_n 2, 1) := by decide +kernel
theorem dX0_bestFile_42 : decode cX0_bestFile 42 = .ok (.iload 5, 2) := by decide +kernel
theorem dX0_bestFile_44 : decode cX0_bestFile 44 = .ok (.istore_n 3, 1) := by decide +kernel
theorem dX0_bestFile_45 : decode cX0_bestFile 45 = .ok (.iinc 4 1, 3) := by decide +kernel
theorem dX0_bestFile_48 : decode cX0_bestFile 48 = .ok (.goto (-41), 3) := by decide +kernel
theorem dX0_bestFile_51 : decode cX0_bestFile 51 = .ok (.iload_n 2, 1) := by decide +kernel
theorem dX0_bestFile_52 : decode cX0_bestFile 52 = .ok (.ireturn, 1) := by decide +kernel
theorem dX0_mostOfASort_0 : decode cX0_mostOfASort 0 = .ok (.iconst 0, 1) := by decide +kernel
theorem dX0_mostOfASort_1 : decode cX0_mostOfASort 1 = .ok (.istore_n 3, 1) := by decide +kernel
theorem dX0_mostOfASort_2 : decode cX0_mostOfASort 2 = .ok (.iload_n 3, 1) := by decide +kernel
theorem dX0_mostOfASort_3 : decode cX0_mostOfASort 3 = .ok (.iconst 2, 1) := by decide +kernel
theorem dX0_mostOfASort_4 : decode cX0_mostOfASort 4 = .ok (.if_icmp .gt 16, 3) := by decide +kernel
theorem dX0_mostOfASort_7 : decode cX0_mostOfASort 7 = .ok (.aload_n 0, 1) := by decide +kernel
theorem dX0_mostOfASort_8 : decode cX0_mostOfASort 8 = .ok (.getfield 18, 3) := by decide +kernel
theorem dX0_mostOfASort_11 : decode cX0_mostOfASort 11 = .ok (.iload_n 3, 1) := by decide +kernel
theorem dX0_mostOfASort_12 : decode cX0_mostOfASort 12 = .ok (.iconst 0, 1) := by decide +kernel
theorem dX0_mostOfASort_13 : decode cX0_mostOfASort 13 = .ok (.iastore, 1) := by decide +kernel
theorem dX0_mostOfASort_14 : decode cX0_mostOfASort 14 = .ok (.iinc 3 1, 3) := by decide +kernel
theorem dX0_mostOfASort_17 : decode cX0_mostOfASort 17 = .ok (.goto (-15), 3) := by decide +kernel
theorem dX0_mostOfASort_20 : decode cX0_mostOfASort 20 = .ok (.iconst 0, 1) := by decide +kernel
theorem dX0_mostOfASort_21 : decode cX0_mostOfASort 21 = .ok (.istore_n 3, 1) := by decide +kernel
theorem dX0_mostOfASort_22 : decode cX0_mostOfASort 22 = .ok (.iload_n 3, 1) := by decide +kernel
theorem dX0_mostOfASort_23 : decode cX0_mostOfASort 23 = .ok (.aload_n 0, 1) := by decide +kernel
theorem dX0_mostOfASort_24 : decode cX0_mostOfASort 24 = .ok (.getfield 21, 3) := by decide +kernel
theorem dX0_mostOfASort_27 : decode cX0_mostOfASort 27 = .ok (.invokevirtual 48, 3) := by decide +kernel
theorem dX0_mostOfASort_30 : decode cX0_mostOfASort 30 = .ok (.if_icmp .gt 36, 3) := by decide +kernel
theorem dX0_mostOfASort_33 : decode cX0_mostOfASort 33 = .ok (.aload_n 0, 1) := by decide +kernel
theorem dX0_mostOfASort_34 : decode cX0_mostOfASort 34 = .ok (.iload_n 3, 1) := by decide +kernel
theorem dX0_mostOfASort_35 : decode cX0_mostOfASort 35 = .ok (.iload_n 2, 1) := by decide +kernel
theorem dX0_mostOfASort_36 : decode cX0_mostOfASort 36 = .ok (.invokevirtual 52, 3) := by decide +kernel
theorem dX0_mostOfASort_39 : decode cX0_mostOfASort 39 = .ok (.ifCond .eq 21, 3) := by decide +kernel
theorem dX0_mostOfASort_42 : decode cX0_mostOfASort 42 = .ok (.aload_n 0, 1) := by decide +kernel
theorem dX0_mostOfASort_43 : decode cX0_mostOfASort 43 = .ok (.getfield 18, 3) := by decide +kernel
theorem dX0_mostOfASort_46 : decode cX0_mostOfASort 46 = .ok (.aload_n 0, 1) := by decide +kernel
theorem dX0_mostOfASort_47 : decode cX0_mostOfASort 47 = .ok (.getfield 21, 3) := by decide +kernel
theorem dX0_mostOfASort_50 : decode cX0_mostOfASort 50 = .ok (.iload_n 1, 1) := by decide +kernel
theorem dX0_mostOfASort_51 : decode cX0_mostOfASort 51 = .ok (.iload_n 3, 1) := by decide +kernel
theorem dX0_mostOfASort_52 : decode cX0_mostOfASort 52 = .ok (.invokevirtual 45, 3) := by decide +kernel
theorem dX0_mostOfASort_55 : decode cX0_mostOfASort 55 = .ok (.dup2, 1) := by decide +kernel
theorem dX0_mostOfASort_56 : decode cX0_mostOfASort 56 = .ok (.iaload, 1) := by decide +kernel
theorem dX0_mostOfASort_57 : decode cX0_mostOfASort 57 = .ok (.iconst 1, 1) := by decide +kernel
theorem dX0_mostOfASort_58 : decode cX0_mostOfASort 58 = .ok (.iadd, 1) := by decide +kernel
theorem dX0_mostOfASort_59 : decode cX0_mostOfASort 59 = .ok (.iastore, 1) := by decide +kernel
theorem dX0_mostOfASort_60 : decode cX0_mostOfASort 60 = .ok (.iinc 3 1, 3) := by decide +kernel
theorem dX0_mostOfASort_63 : decode cX0_mostOfASort 63 = .ok (.goto (-41), 3) := by decide +kernel
theorem dX0_mostOfASort_66 : decode cX0_mostOfASort 66 = .ok (.aload_n 0, 1) := by decide +kernel
theorem dX0_mostOfASort_67 : decode cX0_mostOfASort 67 = .ok (.getfield 18, 3) := by decide +kernel
theorem dX0_mostOfASort_70 : decode cX0_mostOfASort 70 = .ok (.iconst 0, 1) := by decide +kernel
theorem dX0_mostOfASort_71 : decode cX0_mostOfASort 71 = .ok (.iaload, 1) := by decide +kernel
theorem dX0_mostOfASort_72 : decode cX0_mostOfASort 72 = .ok (.aload_n 0, 1) := by decide +kernel
theorem dX0_mostOfASort_73 : decode cX0_mostOfASort 73 = .ok (.getfield 18, 3) := by decide +kernel
theorem dX0_mostOfASort_76 : decode cX0_mostOfASort 76 = .ok (.iconst 1, 1) := by decide +kernel
theorem dX0_mostOfASort_77 : decode cX0_mostOfASort 77 = .ok (.iaload, 1) := by decide +kernel
theorem dX0_mostOfASort_78 : decode cX0_mostOfASort 78 = .ok (.aload_n 0, 1) := by decide +kernel
theorem dX0_mostOfASort_79 : decode cX0_mostOfASort 79 = .ok (.getfield 18, 3) := by decide +kernel
theorem dX0_mostOfASort_82 : decode cX0_mostOfASort 82 = .ok (.iconst 2, 1) := by decide +kernel
theorem dX0_mostOfASort_83 : decode cX0_mostOfASort 83 = .ok (.iaload, 1) := by decide +kernel
theorem dX0_mostOfASort_84 : decode cX0_mostOfASort 84 = .ok (.invokestatic 61, 3) := by decide +kernel
theorem dX0_mostOfASort_87 : decode cX0_mostOfASort 87 = .ok (.invokestatic 61, 3) := by decide +kernel
theorem dX0_mostOfASort_90 : decode cX0_mostOfASort 90 = .ok (.ireturn, 1) := by decide +kernel
theorem dX1_init_0 : decode cX1_init 0 = .ok (.aload_n 0, 1) := by decide +kernel
theorem dX1_init_1 : decode cX1_init 1 = .ok (.invokespecial 3, 3) := by decide +kernel
theorem dX1_init_4 : decode cX1_init 4 = .ok (.aload_n 0, 1) := by decide +kernel
theorem dX1_init_5 : decode cX1_init 5 = .ok (.iconst 4, 1) := by decide +kernel
theorem dX1_init_6 : decode cX1_init 6 = .ok (.anewarray 11, 3) := by decide +kernel
theorem dX1_init_9 : decode cX1_init 9 = .ok (.putfield 13, 3) := by decide +kernel
theorem dX1_init_12 : decode cX1_init 12 = .ok (.aload_n 0, 1) := by decide +kernel
theorem dX1_init_13 : decode cX1_init 13 = .ok (.bipush 6, 2) := by decide +kernel
theorem dX1_init_15 : decode cX1_init 15 = .ok (.newarray .int, 2) := by decide +kernel
theorem dX1_init_17 : decode cX1_init 17 = .ok (.putfield 17, 3) := by decide +kernel
theorem dX1_init_20 : decode cX1_init 20 = .ok (.aload_n 0, 1) := by decide +kernel
theorem dX1_init_21 : decode cX1_init 21 = .ok (.iconst (-1), 1) := by decide +kernel
theorem dX1_init_22 : decode cX1_init 22 = .ok (.putfield 21, 3) := by decide +kernel
theorem dX1_init_25 : decode cX1_init 25 = .ok (.aload_n 0, 1) := by decide +kernel
theorem dX1_init_26 : decode cX1_init 26 = .ok (.aload_n 1, 1) := by decide +kernel
theorem dX1_init_27 : decode cX1_init 27 = .ok (.putfield 25, 3) := by decide +kernel
theorem dX1_init_30 : decode cX1_init 30 = .ok (.aload_n 0, 1) := by decide +kernel
theorem dX1_init_31 : decode cX1_init 31 = .ok (.aload_n 2, 1) := by decide +kernel
theorem dX1_init_32 : decode cX1_init 32 = .ok (.putfield 29, 3) := by decide +kernel
theorem dX1_init_35 : decode cX1_init 35 = .ok (.iconst 0, 1) := by decide +kernel
theorem dX1_init_36 : decode cX1_init 36 = .ok (.istore_n 3, 1) := by decide +kernel
theorem dX1_init_37 : decode cX1_init 37 = .ok (.iload_n 3, 1) := by decide +kernel
theorem dX1_init_38 : decode cX1_init 38 = .ok (.iconst 4, 1) := by decide +kernel
theorem dX1_init_39 : decode cX1_init 39 = .ok (.if_icmp .ge 22, 3) := by decide +kernel
theorem dX1_init_42 : decode cX1_init 42 = .ok (.aload_n 0, 1) := by decide +kernel
theorem dX1_init_43 : decode cX1_init 43 = .ok (.getfield 13, 3) := by decide +kernel
theorem dX1_init_46 : decode cX1_init 46 = .ok (.iload_n 3, 1) := by decide +kernel
theorem dX1_init_47 : decode cX1_init 47 = .ok (.new 11, 3) := by decide +kernel
theorem dX1_init_50 : decode cX1_init 50 = .ok (.dup, 1) := by decide +kernel
theorem dX1_init_51 : decode cX1_init 51 = .ok (.invokespecial 33, 3) := by decide +kernel
theorem dX1_init_54 : decode cX1_init 54 = .ok (.aastore, 1) := by decide +kernel
theorem dX1_init_55 : decode cX1_init 55 = .ok (.iinc 3 1, 3) := by decide +kernel
theorem dX1_init_58 : decode cX1_init 58 = .ok (.goto (-21), 3) := by decide +kernel
theorem dX1_init_61 : decode cX1_init 61 = .ok (.return_, 1) := by decide +kernel
theorem dX1_laws_0 : decode cX1_laws 0 = .ok (.aload_n 0, 1) := by decide +kernel
theorem dX1_laws_1 : decode cX1_laws 1 = .ok (.getfield 34, 3) := by decide +kernel
theorem dX1_laws_4 : decode cX1_laws 4 = .ok (.ireturn, 1) := by decide +kernel
theorem dX1_holding_0 : decode cX1_holding 0 = .ok (.aload_n 0, 1) := by decide +kernel
theorem dX1_holding_1 : decode cX1_holding 1 = .ok (.getfield 21, 3) := by decide +kernel
theorem dX1_holding_4 : decode cX1_holding 4 = .ok (.ireturn, 1) := by decide +kernel
theorem dX1_pass_0 : decode cX1_pass 0 = .ok (.aload_n 0, 1) := by decide +kernel
theorem dX1_pass_1 : decode cX1_pass 1 = .ok (.getfield 34, 3) := by decide +kernel
theorem dX1_pass_4 : decode cX1_pass 4 = .ok (.iconst 4, 1) := by decide +kernel
theorem dX1_pass_5 : decode cX1_pass 5 = .ok (.if_icmp .lt 5, 3) := by decide +kernel
theorem dX1_pass_8 : decode cX1_pass 8 = .ok (.iconst (-1), 1) := by decide +kernel
theorem dX1_pass_9 : decode cX1_pass 9 = .ok (.ireturn, 1) := by decide +kernel
theorem dX1_pass_10 : decode cX1_pass 10 = .ok (.aload_n 0, 1) := by decide +kernel
theorem dX1_pass_11 : decode cX1_pass 11 = .ok (.getfield 13, 3) := by decide +kernel
theorem dX1_pass_14 : decode cX1_pass 14 = .ok (.aload_n 0, 1) := by decide +kernel
theorem dX1_pass_15 : decode cX1_pass 15 = .ok (.getfield 34, 3) := by decide +kernel
theorem dX1_pass_18 : decode cX1_pass 18 = .ok (.aaload, 1) := by decide +kernel
theorem dX1_pass_19 : decode cX1_pass 19 = .ok (.aload_n 1, 1) := by decide +kernel
theorem dX1_pass_20 : decode cX1_pass 20 = .ok (.invokevirtual 37, 3) := by decide +kernel
theorem dX1_pass_23 : decode cX1_pass 23 = .ok (.aload_n 0, 1) := by decide +kernel
theorem dX1_pass_24 : decode cX1_pass 24 = .ok (.dup, 1) := by decide +kernel
theorem dX1_pass_25 : decode cX1_pass 25 = .ok (.getfield 34, 3) := by decide +kernel
theorem dX1_pass_28 : decode cX1_pass 28 = .ok (.iconst 1, 1) := by decide +kernel
theorem dX1_pass_29 : decode cX1_pass 29 = .ok (.iadd, 1) := by decide +kernel
theorem dX1_pass_30 : decode cX1_pass 30 = .ok (.putfield 34, 3) := by decide +kernel
theorem dX1_pass_33 : decode cX1_pass 33 = .ok (.aload_n 0, 1) := by decide +kernel
theorem dX1_pass_34 : decode cX1_pass 34 = .ok (.getfield 34, 3) := by decide +kernel
theorem dX1_pass_37 : decode cX1_pass 37 = .ok (.iconst 1, 1) := by decide +kernel
theorem dX1_pass_38 : decode cX1_pass 38 = .ok (.isub, 1) := by decide +kernel
theorem dX1_pass_39 : decode cX1_pass 39 = .ok (.ireturn, 1) := by decide +kernel
theorem dX1_hold_0 : decode cX1_hold 0 = .ok (.iload_n 1, 1) := by decide +kernel
theorem dX1_hold_1 : decode cX1_hold 1 = .ok (.iconst (-1), 1) := by decide +kernel
theorem dX1_hold_2 : decode cX1_hold 2 = .ok (.if_icmp .lt 11, 3) := by decide +kernel
theorem dX1_hold_5 : decode cX1_hold 5 = .ok (.iload_n 1, 1) := by decide +kernel
theorem dX1_hold_6 : decode cX1_hold 6 = .ok (.aload_n 0, 1) := by decide +kernel
theorem dX1_hold_7 : decode cX1_hold 7 = .ok (.getfield 34, 3) := by decide +kernel
theorem dX1_hold_10 : decode cX1_hold 10 = .ok (.if_icmp .lt 5, 3) := by decide +kernel
theorem dX1_hold_13 : decode cX1_hold 13 = .ok (.iconst 0, 1) := by decide +kernel
theorem dX1_hold_14 : decode cX1_hold 14 = .ok (.ireturn, 1) := by decide +kernel
theorem dX1_hold_15 : decode cX1_hold 15 = .ok (.aload_n 0, 1) := by decide +kernel
theorem dX1_hold_16 : decode cX1_hold 16 = .ok (.iload_n 1, 1) := by decide +kernel
theorem dX1_hold_17 : decode cX1_hold 17 = .ok (.putfield 21, 3) := by decide +kernel
theorem dX1_hold_20 : decode cX1_hold 20 = .ok (.iconst 1, 1) := by decide +kernel
theorem dX1_hold_21 : decode cX1_hold 21 = .ok (.ireturn, 1) := by decide +kernel
theorem dX1_missed_0 : decode cX1_missed 0 = .ok (.aload_n 0, 1) := by decide +kernel
theorem dX1_missed_1 : decode cX1_missed 1 = .ok (.getfield 29, 3) := by decide +kernel
theorem dX1_missed_4 : decode cX1_missed 4 = .ok (.iload_n 1, 1) := by decide +kernel
theorem dX1_missed_5 : decode cX1_missed 5 = .ok (.invokevirtual 41, 3) := by decide +kernel
theorem dX1_missed_8 : decode cX1_missed 8 = .ok (.ifCond .eq 13, 3) := by decide +kernel
theorem dX1_missed_11 : decode cX1_missed 11 = .ok (.aload_n 0, 1) := by decide +kernel
theorem dX1_missed_12 : decode cX1_missed 12 = .ok (.getfield 25, 3) := by decide +kernel
theorem dX1_missed_15 : decode cX1_missed 15 = .ok (.invokevirtual 47, 3) := by decide +kernel
theorem dX1_missed_18 : decode cX1_missed 18 = .ok (.goto 11, 3) := by decide +kernel
theorem dX1_missed_21 : decode cX1_missed 21 = .ok (.aload_n 0, 1) := by decide +kernel
theorem dX1_missed_22 : decode cX1_missed 22 = .ok (.getfield 29, 3) := by decide +kernel
theorem dX1_missed_25 : decode cX1_missed 25 = .ok (.iload_n 1, 1) := by decide +kernel
theorem dX1_missed_26 : decode cX1_missed 26 = .ok (.invokevirtual 53, 3) := by decide +kernel
theorem dX1_missed_29 : decode cX1_missed 29 = .ok (.istore_n 2, 1) := by decide +kernel
theorem dX1_missed_30 : decode cX1_missed 30 = .ok (.aload_n 0, 1) := by decide +kernel
theorem dX1_missed_31 : decode cX1_missed 31 = .ok (.iload_n 2, 1) := by decide +kernel
theorem dX1_missed_32 : decode cX1_missed 32 = .ok (.iload_n 1, 1) := by decide +kernel
theorem dX1_missed_33 : decode cX1_missed 33 = .ok (.aload_n 0, 1) := by decide +kernel
theorem dX1_missed_34 : decode cX1_missed 34 = .ok (.getfield 29, 3) := by decide +kernel
theorem dX1_missed_37 : decode cX1_missed 37 = .ok (.iload_n 1, 1) := by decide +kernel
theorem dX1_missed_38 : decode cX1_missed 38 = .ok (.aload_n 0, 1) := by decide +kernel
theorem dX1_missed_39 : decode cX1_missed 39 = .ok (.getfield 29, 3) := by decide +kernel
theorem dX1_missed_42 : decode cX1_missed 42 = .ok (.invokevirtual 57, 3) := by decide +kernel
theorem dX1_missed_45 : decode cX1_missed 45 = .ok (.invokevirtual 60, 3) := by decide +kernel
theorem dX1_missed_48 : decode cX1_missed 48 = .ok (.aload_n 0, 1) := by decide +kernel
theorem dX1_missed_49 : decode cX1_missed 49 = .ok (.getfield 29, 3) := by decide +kernel
theorem dX1_missed_52 : decode cX1_missed 52 = .ok (.invokevirtual 64, 3) := by decide +kernel
theorem dX1_missed_55 : decode cX1_missed 55 = .ok (.invokevirtual 67, 3) := by decide +kernel
theorem dX1_missed_58 : decode cX1_missed 58 = .ok (.ireturn, 1) := by decide +kernel
theorem dX1_missedIn_0 : decode cX1_missedIn 0 = .ok (.aload_n 0, 1) := by decide +kernel
theorem dX1_missedIn_1 : decode cX1_missedIn 1 = .ok (.getfield 25, 3) := by decide +kernel
theorem dX1_missedIn_4 : decode cX1_missedIn 4 = .ok (.iload_n 2, 1) := by decide +kernel
theorem dX1_missedIn_5 : decode cX1_missedIn 5 = .ok (.invokevirtual 71, 3) := by decide +kernel
theorem dX1_missedIn_8 : decode cX1_missedIn 8 = .ok (.iload 4, 2) := by decide +kernel
theorem dX1_missedIn_10 : decode cX1_missedIn 10 = .ok (.iand, 1) := by decide +kernel
theorem dX1_missedIn_11 : decode cX1_missedIn 11 = .ok (.invokestatic 74, 3) := by decide +kernel
theorem dX1_missedIn_14 : decode cX1_missedIn 14 = .ok (.istore 5, 2) := by decide +kernel
theorem dX1_missedIn_16 : decode cX1_missedIn 16 = .ok (.aload_n 0, 1) := by decide +kernel
theorem dX1_missedIn_17 : decode cX1_missedIn 17 = .ok (.getfield 21, 3) := by decide +kernel
theorem dX1_missedIn_20 : decode cX1_missedIn 20 = .ok (.ifCond .lt 11, 3) := by decide +kernel
theorem dX1_missedIn_23 : decode cX1_missedIn 23 = .ok (.aload_n 0, 1) := by decide +kernel
theorem dX1_missedIn_24 : decode cX1_missedIn 24 = .ok (.getfield 21, 3) := by decide +kernel
theorem dX1_missedIn_27 : decode cX1_missedIn 27 = .ok (.iconst 4, 1) := by decide +kernel
theorem dX1_missedIn_28 : decode cX1_missedIn 28 = .ok (.if_icmp .lt 17, 3) := by decide +kernel
theorem dX1_missedIn_31 : decode cX1_missedIn 31 = .ok (.aload_n 0, 1) := by decide +kernel
theorem dX1_missedIn_32 : decode cX1_missedIn 32 = .ok (.getfield 25, 3) := by decide +kernel
theorem dX1_missedIn_35 : decode cX1_missedIn 35 = .ok (.iload_n 2, 1) := by decide +kernel
theorem dX1_missedIn_36 : decode cX1_missedIn 36 = .ok (.invokevirtual 79, 3) := by decide +kernel
theorem dX1_missedIn_39 : decode cX1_missedIn 39 = .ok (.iconst 2, 1) := by decide +kernel
theorem dX1_missedIn_40 : decode cX1_missedIn 40 = .ok (.iload 5, 2) := by decide +kernel
theorem dX1_missedIn_42 : decode cX1_missedIn 42 = .ok (.imul, 1) := by decide +kernel
theorem dX1_missedIn_43 : decode cX1_missedIn 43 = .ok (.iadd, 1) := by decide +kernel
theorem dX1_missedIn_44 : decode cX1_missedIn 44 = .ok (.ireturn, 1) := by decide +kernel
theorem dX1_missedIn_45 : decode cX1_missedIn 45 = .ok (.aload_n 0, 1) := by decide +kernel
theorem dX1_missedIn_46 : decode cX1_missedIn 46 = .ok (.getfield 17, 3) := by decide +kernel
theorem dX1_missedIn_49 : decode cX1_missedIn 49 = .ok (.iconst 0, 1) := by decide +kernel
theorem dX1_missedIn_50 : decode cX1_missedIn 50 = .ok (.aload_n 0, 1) := by decide +kernel
theorem dX1_missedIn_51 : decode cX1_missedIn 51 = .ok (.getfield 25, 3) := by decide +kernel
theorem dX1_missedIn_54 : decode cX1_missedIn 54 = .ok (.iload_n 2, 1) := by decide +kernel
theorem dX1_missedIn_55 : decode cX1_missedIn 55 = .ok (.invokevirtual 79, 3) := by decide +kernel
theorem dX1_missedIn_58 : decode cX1_missedIn 58 = .ok (.iastore, 1) := by decide +kernel
theorem dX1_missedIn_59 : decode cX1_missedIn 59 = .ok (.aload_n 0, 1) := by decide +kernel
theorem dX1_missedIn_60 : decode cX1_missedIn 60 = .ok (.getfield 17, 3) := by decide +kernel
theorem dX1_missedIn_63 : decode cX1_missedIn 63 = .ok (.iconst 1, 1) := by decide +kernel
theorem dX1_missedIn_64 : decode cX1_missedIn 64 = .ok (.iload 5, 2) := by decide +kernel
theorem dX1_missedIn_66 : decode cX1_missedIn 66 = .ok (.iastore, 1) := by decide +kernel
theorem dX1_missedIn_67 : decode cX1_missedIn 67 = .ok (.aload_n 0, 1) := by decide +kernel
theorem dX1_missedIn_68 : decode cX1_missedIn 68 = .ok (.getfield 17, 3) := by decide +kernel
theorem dX1_missedIn_71 : decode cX1_missedIn 71 = .ok (.iconst 2, 1) := by decide +kernel
theorem dX1_missedIn_72 : decode cX1_missedIn 72 = .ok (.iload_n 3, 1) := by decide +kernel
theorem dX1_missedIn_73 : decode cX1_missedIn 73 = .ok (.iastore, 1) := by decide +kernel
theorem dX1_missedIn_74 : decode cX1_missedIn 74 = .ok (.aload_n 0, 1) := by decide +kernel
theorem dX1_missedIn_75 : decode cX1_missedIn 75 = .ok (.getfield 17, 3) := by decide +kernel
theorem dX1_missedIn_78 : decode cX1_missedIn 78 = .ok (.iconst 3, 1) := by decide +kernel
theorem dX1_missedIn_79 : decode cX1_missedIn 79 = .ok (.aload_n 0, 1) := by decide +kernel
theorem dX1_missedIn_80 : decode cX1_missedIn 80 = .ok (.getfield 25, 3) := by decide +kernel
theorem dX1_missedIn_83 : decode cX1_missedIn 83 = .ok (.iload_n 2, 1) := by decide +kernel
theorem dX1_missedIn_84 : decode cX1_missedIn 84 = .ok (.invokevirtual 82, 3) := by decide +kernel
theorem dX1_missedIn_87 : decode cX1_missedIn 87 = .ok (.ifCond .eq 7, 3) := by decide +kernel
theorem dX1_missedIn_90 : decode cX1_missedIn 90 = .ok (.iconst 1, 1) := by decide +kernel
theorem dX1_missedIn_91 : decode cX1_missedIn 91 = .ok (.goto 4, 3) := by decide +kernel
theorem dX1_missedIn_94 : decode cX1_missedIn 94 = .ok (.iconst 0, 1) := by decide +kernel
theorem dX1_missedIn_95 : decode cX1_missedIn 95 = .ok (.iastore, 1) := by decide +kernel
theorem dX1_missedIn_96 : decode cX1_missedIn 96 = .ok (.aload_n 0, 1) := by decide +kernel
theorem dX1_missedIn_97 : decode cX1_missedIn 97 = .ok (.getfield 17, 3) := by decide +kernel
theorem dX1_missedIn_100 : decode cX1_missedIn 100 = .ok (.iconst 4, 1) := by decide +kernel
theorem dX1_missedIn_101 : decode cX1_missedIn 101 = .ok (.iload_n 1, 1) := by decide +kernel
theorem dX1_missedIn_102 : decode cX1_missedIn 102 = .ok (.iastore, 1) := by decide +kernel
theorem dX1_missedIn_103 : decode cX1_missedIn 103 = .ok (.aload_n 0, 1) := by decide +kernel
theorem dX1_missedIn_104 : decode cX1_missedIn 104 = .ok (.getfield 17, 3) := by decide +kernel
theorem dX1_missedIn_107 : decode cX1_missedIn 107 = .ok (.iconst 5, 1) := by decide +kernel
theorem dX1_missedIn_108 : decode cX1_missedIn 108 = .ok (.aload_n 0, 1) := by decide +kernel
theorem dX1_missedIn_109 : decode cX1_missedIn 109 = .ok (.getfield 29, 3) := by decide +kernel
theorem dX1_missedIn_112 : decode cX1_missedIn 112 = .ok (.invokevirtual 85, 3) := by decide +kernel
theorem dX1_missedIn_115 : decode cX1_missedIn 115 = .ok (.iastore, 1) := by decide +kernel
theorem dX1_missedIn_116 : decode cX1_missedIn 116 = .ok (.iconst 0, 1) := by decide +kernel
theorem dX1_missedIn_117 : decode cX1_missedIn 117 = .ok (.bipush 30, 2) := by decide +kernel
theorem dX1_missedIn_119 : decode cX1_missedIn 119 = .ok (.aload_n 0, 1) := by decide +kernel
theorem dX1_missedIn_120 : decode cX1_missedIn 120 = .ok (.getfield 13, 3) := by decide +kernel
theorem dX1_missedIn_123 : decode cX1_missedIn 123 = .ok (.aload_n 0, 1) := by decide +kernel
theorem dX1_missedIn_124 : decode cX1_missedIn 124 = .ok (.getfield 21, 3) := by decide +kernel
theorem dX1_missedIn_127 : decode cX1_missedIn 127 = .ok (.aaload, 1) := by decide +kernel
theorem dX1_missedIn_128 : decode cX1_missedIn 128 = .ok (.aload_n 0, 1) := by decide +kernel
theorem dX1_missedIn_129 : decode cX1_missedIn 129 = .ok (.getfield 17, 3) := by decide +kernel
theorem dX1_missedIn_132 : decode cX1_missedIn 132 = .ok (.invokevirtual 88, 3) := by decide +kernel
theorem dX1_missedIn_135 : decode cX1_missedIn 135 = .ok (.invokestatic 92, 3) := by decide +kernel
theorem dX1_missedIn_138 : decode cX1_missedIn 138 = .ok (.invokestatic 97, 3) := by decide +kernel
theorem dX1_missedIn_141 : decode cX1_missedIn 141 = .ok (.ireturn, 1) := by decide +kernel
theorem dX1_ofDrowned_0 : decode cX1_ofDrowned 0 = .ok (.aload_n 0, 1) := by decide +kernel
theorem dX1_ofDrowned_1 : decode cX1_ofDrowned 1 = .ok (.iconst 0, 1) := by decide +kernel
theorem dX1_ofDrowned_2 : decode cX1_ofDrowned 2 = .ok (.invokevirtual 100, 3) := by decide +kernel
theorem dX1_ofDrowned_5 : decode cX1_ofDrowned 5 = .ok (.ireturn, 1) := by decide +kernel
theorem dX1_withoutThese_0 : decode cX1_withoutThese 0 = .ok (.aload_n 0, 1) := by decide +kernel
theorem dX1_withoutThese_1 : decode cX1_withoutThese 1 = .ok (.getfield 29, 3) := by decide +kernel
theorem dX1_withoutThese_4 : decode cX1_withoutThese 4 = .ok (.invokevirtual 57, 3) := by decide +kernel
theorem dX1_withoutThese_7 : decode cX1_withoutThese 7 = .ok (.iload_n 1, 1) := by decide +kernel
theorem dX1_withoutThese_8 : decode cX1_withoutThese 8 = .ok (.iconst (-1), 1) := by decide +kernel
theorem dX1_withoutThese_9 : decode cX1_withoutThese 9 = .ok (.ixor, 1) := by decide +kernel
theorem dX1_withoutThese_10 : decode cX1_withoutThese 10 = .ok (.iand, 1) := by decide +kernel
theorem dX1_withoutThese_11 : decode cX1_withoutThese 11 = .ok (.istore_n 2, 1) := by decide +kernel
theorem dX1_withoutThese_12 : decode cX1_withoutThese 12 = .ok (.aload_n 0, 1) := by decide +kernel
theorem dX1_withoutThese_13 : decode cX1_withoutThese 13 = .ok (.getfield 29, 3) := by decide +kernel
theorem dX1_withoutThese_16 : decode cX1_withoutThese 16 = .ok (.invokevirtual 64, 3) := by decide +kernel
theorem dX1_withoutThese_19 : decode cX1_withoutThese 19 = .ok (.iload_n 1, 1) := by decide +kernel
theorem dX1_withoutThese_20 : decode cX1_withoutThese 20 = .ok (.ior, 1) := by decide +kernel
theorem dX1_withoutThese_21 : decode cX1_withoutThese 21 = .ok (.istore_n 3, 1) := by decide +kernel
theorem dX1_withoutThese_22 : decode cX1_withoutThese 22 = .ok (.iconst 0, 1) := by decide +kernel
theorem dX1_withoutThese_23 : decode cX1_withoutThese 23 = .ok (.istore 4, 2) := by decide +kernel
theorem dX1_withoutThese_25 : decode cX1_withoutThese 25 = .ok (.iconst 0, 1) := by decide +kernel
theorem dX1_withoutThese_26 : decode cX1_withoutThese 26 = .ok (.istore 5, 2) := by decide +kernel
theorem dX1_withoutThese_28 : decode cX1_withoutThese 28 = .ok (.iload 5, 2) := by decide +kernel
theorem dX1_withoutThese_30 : decode cX1_withoutThese 30 = .ok (.aload_n 0, 1) := by decide +kernel
theorem dX1_withoutThese_31 : decode cX1_withoutThese 31 = .ok (.getfield 25, 3) := by decide +kernel
theorem dX1_withoutThese_34 : decode cX1_withoutThese 34 = .ok (.invokevirtual 103, 3) := by decide +kernel
theorem dX1_withoutThese_37 : decode cX1_withoutThese 37 = .ok (.if_icmp .ge 50, 3) := by decide +kernel
theorem dX1_withoutThese_40 : decode cX1_withoutThese 40 = .ok (.iload_n 2, 1) := by decide +kernel
theorem dX1_withoutThese_41 : decode cX1_withoutThese 41 = .ok (.iload 5, 2) := by decide +kernel
theorem dX1_withoutThese_43 : decode cX1_withoutThese 43 = .ok (.ishr, 1) := by decide +kernel
theorem dX1_withoutThese_44 : decode cX1_withoutThese 44 = .ok (.iconst 1, 1) := by decide +kernel
theorem dX1_withoutThese_45 : decode cX1_withoutThese 45 = .ok (.iand, 1) := by decide +kernel
theorem dX1_withoutThese_46 : decode cX1_withoutThese 46 = .ok (.iconst 1, 1) := by decide +kernel
theorem dX1_withoutThese_47 : decode cX1_withoutThese 47 = .ok (.if_icmp .ne 34, 3) := by decide +kernel
theorem dX1_withoutThese_50 : decode cX1_withoutThese 50 = .ok (.iload 4, 2) := by decide +kernel
theorem dX1_withoutThese_52 : decode cX1_withoutThese 52 = .ok (.aload_n 0, 1) := by decide +kernel
theorem dX1_withoutThese_53 : decode cX1_withoutThese 53 = .ok (.aload_n 0, 1) := by decide +kernel
theorem dX1_withoutThese_54 : decode cX1_withoutThese 54 = .ok (.getfield 29, 3) := by decide +kernel
theorem dX1_withoutThese_57 : decode cX1_withoutThese 57 = .ok (.iload 5, 2) := by decide +kernel
theorem dX1_withoutThese_59 : decode cX1_withoutThese 59 = .ok (.invokevirtual 53, 3) := by decide +kernel
theorem dX1_withoutThese_62 : decode cX1_withoutThese 62 = .ok (.iload 5, 2) := by decide +kernel
theorem dX1_withoutThese_64 : decode cX1_withoutThese 64 = .ok (.aload_n 0, 1) := by decide +kernel
theorem dX1_withoutThese_65 : decode cX1_withoutThese 65 = .ok (.getfield 29, 3) := by decide +kernel
theorem dX1_withoutThese_68 : decode cX1_withoutThese 68 = .ok (.iload 5, 2) := by decide +kernel
theorem dX1_withoutThese_70 : decode cX1_withoutThese 70 = .ok (.iload_n 2, 1) := by decide +kernel
theorem dX1_withoutThese_71 : decode cX1_withoutThese 71 = .ok (.invokevirtual 60, 3) := by decide +kernel
theorem dX1_withoutThese_74 : decode cX1_withoutThese 74 = .ok (.iload_n 3, 1) := by decide +kernel
theorem dX1_withoutThese_75 : decode cX1_withoutThese 75 = .ok (.invokevirtual 67, 3) := by decide +kernel
theorem dX1_withoutThese_78 : decode cX1_withoutThese 78 = .ok (.iadd, 1) := by decide +kernel
theorem dX1_withoutThese_79 : decode cX1_withoutThese 79 = .ok (.istore 4, 2) := by decide +kernel
theorem dX1_withoutThese_81 : decode cX1_withoutThese 81 = .ok (.iinc 5 1, 3) := by decide +kernel
theorem dX1_withoutThese_84 : decode cX1_withoutThese 84 = .ok (.goto (-56), 3) := by decide +kernel
theorem dX1_withoutThese_87 : decode cX1_withoutThese 87 = .ok (.iload 4, 2) := by decide +kernel
theorem dX1_withoutThese_89 : decode cX1_withoutThese 89 = .ok (.ireturn, 1) := by decide +kernel
theorem dX1_leastMissed_0 : decode cX1_leastMissed 0 = .ok (.iconst (-1), 1) := by decide +kernel
theorem dX1_leastMissed_1 : decode cX1_leastMissed 1 = .ok (.istore_n 1, 1) := by decide +kernel
theorem dX1_leastMissed_2 : decode cX1_leastMissed 2 = .ok (.iconst 0, 1) := by decide +kernel
theorem dX1_leastMissed_3 : decode cX1_leastMissed 3 = .ok (.istore_n 2, 1) := by decide +kernel
theorem dX1_leastMissed_4 : decode cX1_leastMissed 4 = .ok (.iconst 0, 1) := by decide +kernel
theorem dX1_leastMissed_5 : decode cX1_leastMissed 5 = .ok (.istore_n 3, 1) := by decide +kernel
theorem dX1_leastMissed_6 : decode cX1_leastMissed 6 = .ok (.iload_n 3, 1) := by decide +kernel
theorem dX1_leastMissed_7 : decode cX1_leastMissed 7 = .ok (.aload_n 0, 1) := by decide +kernel
theorem dX1_leastMissed_8 : decode cX1_leastMissed 8 = .ok (.getfield 25, 3) := by decide +kernel
theorem dX1_leastMissed_11 : decode cX1_leastMissed 11 = .ok (.invokevirtual 103, 3) := by decide +kernel
theorem dX1_leastMissed_14 : decode cX1_leastMissed 14 = .ok (.if_icmp .ge 76, 3) := by decide +kernel
theorem dX1_leastMissed_17 : decode cX1_leastMissed 17 = .ok (.aload_n 0, 1) := by decide +kernel
theorem dX1_leastMissed_18 : decode cX1_leastMissed 18 = .ok (.getfield 29, 3) := by decide +kernel
theorem dX1_leastMissed_21 : decode cX1_leastMissed 21 = .ok (.iload_n 3, 1) := by decide +kernel
theorem dX1_leastMissed_22 : decode cX1_leastMissed 22 = .ok (.invokevirtual 41, 3) := by decide +kernel
theorem dX1_leastMissed_25 : decode cX1_leastMissed 25 = .ok (.ifCond .eq 11, 3) := by decide +kernel
theorem dX1_leastMissed_28 : decode cX1_leastMissed 28 = .ok (.aload_n 0, 1) := by decide +kernel
theorem dX1_leastMissed_29 : decode cX1_leastMissed 29 = .ok (.iload_n 3, 1) := by decide +kernel
theorem dX1_leastMissed_30 : decode cX1_leastMissed 30 = .ok (.invokevirtual 106, 3) := by decide +kernel
theorem dX1_leastMissed_33 : decode cX1_leastMissed 33 = .ok (.goto 4, 3) := by decide +kernel
theorem dX1_leastMissed_36 : decode cX1_leastMissed 36 = .ok (.iconst (-1), 1) := by decide +kernel
theorem dX1_leastMissed_37 : decode cX1_leastMissed 37 = .ok (.istore 4, 2) := by decide +kernel
theorem dX1_leastMissed_39 : decode cX1_leastMissed 39 = .ok (.iload 4, 2) := by decide +kernel
theorem dX1_leastMissed_41 : decode cX1_leastMissed 41 = .ok (.iconst (-1), 1) := by decide +kernel
theorem dX1_leastMissed_42 : decode cX1_leastMissed 42 = .ok (.if_icmp .eq 42, 3) := by decide +kernel
theorem dX1_leastMissed_45 : decode cX1_leastMissed 45 = .ok (.aload_n 0, 1) := by decide +kernel
theorem dX1_leastMissed_46 : decode cX1_leastMissed 46 = .ok (.iload 4, 2) := by decide +kernel
theorem dX1_leastMissed_48 : decode cX1_leastMissed 48 = .ok (.iload_n 3, 1) := by decide +kernel
theorem dX1_leastMissed_49 : decode cX1_leastMissed 49 = .ok (.iconst 0, 1) := by decide +kernel
theorem dX1_leastMissed_50 : decode cX1_leastMissed 50 = .ok (.aload_n 0, 1) := by decide +kernel
theorem dX1_leastMissed_51 : decode cX1_leastMissed 51 = .ok (.getfield 29, 3) := by decide +kernel
theorem dX1_leastMissed_54 : decode cX1_leastMissed 54 = .ok (.invokevirtual 64, 3) := by decide +kernel
theorem dX1_leastMissed_57 : decode cX1_leastMissed 57 = .ok (.iconst 1, 1) := by decide +kernel
theorem dX1_leastMissed_58 : decode cX1_leastMissed 58 = .ok (.iload_n 3, 1) := by decide +kernel
theorem dX1_leastMissed_59 : decode cX1_leastMissed 59 = .ok (.ishl, 1) := by decide +kernel
theorem dX1_leastMissed_60 : decode cX1_leastMissed 60 = .ok (.iconst (-1), 1) := by decide +kernel
theorem dX1_leastMissed_61 : decode cX1_leastMissed 61 = .ok (.ixor, 1) := by decide +kernel
theorem dX1_leastMissed_62 : decode cX1_leastMissed 62 = .ok (.iand, 1) := by decide +kernel
theorem dX1_leastMissed_63 : decode cX1_leastMissed 63 = .ok (.invokevirtual 67, 3) := by decide +kernel
theorem dX1_leastMissed_66 : decode cX1_leastMissed 66 = .ok (.istore 5, 2) := by decide +kernel
theorem dX1_leastMissed_68 : decode cX1_leastMissed 68 = .ok (.iload_n 1, 1) := by decide +kernel
theorem dX1_leastMissed_69 : decode cX1_leastMissed 69 = .ok (.iconst (-1), 1) := by decide +kernel
theorem dX1_leastMissed_70 : decode cX1_leastMissed 70 = .ok (.if_icmp .eq 9, 3) := by decide +kernel
theorem dX1_leastMissed_73 : decode cX1_leastMissed 73 = .ok (.iload 5, 2) := by decide +kernel
theorem dX1_leastMissed_75 : decode cX1_leastMissed 75 = .ok (.iload_n 2, 1) := by decide +kernel
theorem dX1_leastMissed_76 : decode cX1_leastMissed 76 = .ok (.if_icmp .ge 8, 3) := by decide +kernel
theorem dX1_leastMissed_79 : decode cX1_leastMissed 79 = .ok (.iload_n 3, 1) := by decide +kernel
theorem dX1_leastMissed_80 : decode cX1_leastMissed 80 = .ok (.istore_n 1, 1) := by decide +kernel
theorem dX1_leastMissed_81 : decode cX1_leastMissed 81 = .ok (.iload 5, 2) := by decide +kernel
theorem dX1_leastMissed_83 : decode cX1_leastMissed 83 = .ok (.istore_n 2, 1) := by decide +kernel
theorem dX1_leastMissed_84 : decode cX1_leastMissed 84 = .ok (.iinc 3 1, 3) := by decide +kernel
theorem dX1_leastMissed_87 : decode cX1_leastMissed 87 = .ok (.goto (-81), 3) := by decide +kernel
theorem dX1_leastMissed_90 : decode cX1_leastMissed 90 = .ok (.iload_n 1, 1) := by decide +kernel
theorem dX1_leastMissed_91 : decode cX1_leastMissed 91 = .ok (.ireturn, 1) := by decide +kernel
theorem dX1_lowestTaking_0 : decode cX1_lowestTaking 0 = .ok (.iconst 0, 1) := by decide +kernel
theorem dX1_lowestTaking_1 : decode cX1_lowestTaking 1 = .ok (.istore_n 2, 1) := by decide +kernel
theorem dX1_lowestTaking_2 : decode cX1_lowestTaking 2 = .ok (.iload_n 2, 1) := by decide +kernel
theorem dX1_lowestTaking_3 : decode cX1_lowestTaking 3 = .ok (.aload_n 0, 1) := by decide +kernel
theorem dX1_lowestTaking_4 : decode cX1_lowestTaking 4 = .ok (.getfield 25, 3) := by decide +kernel
theorem dX1_lowestTaking_7 : decode cX1_lowestTaking 7 = .ok (.invokevirtual 47, 3) := by decide +kernel
theorem dX1_lowestTaking_10 : decode cX1_lowestTaking 10 = .ok (.if_icmp .ge 23, 3) := by decide +kernel
theorem dX1_lowestTaking_13 : decode cX1_lowestTaking 13 = .ok (.aload_n 0, 1) := by decide +kernel
theorem dX1_lowestTaking_14 : decode cX1_lowestTaking 14 = .ok (.getfield 29, 3) := by decide +kernel
theorem dX1_lowestTaking_17 : decode cX1_lowestTaking 17 = .ok (.iload_n 2, 1) := by decide +kernel
theorem dX1_lowestTaking_18 : decode cX1_lowestTaking 18 = .ok (.iload_n 1, 1) := by decide +kernel
theorem dX1_lowestTaking_19 : decode cX1_lowestTaking 19 = .ok (.invokevirtual 109, 3) := by decide +kernel
theorem dX1_lowestTaking_22 : decode cX1_lowestTaking 22 = .ok (.ifCond .eq 5, 3) := by decide +kernel
theorem dX1_lowestTaking_25 : decode cX1_lowestTaking 25 = .ok (.iload_n 2, 1) := by decide +kernel
theorem dX1_lowestTaking_26 : decode cX1_lowestTaking 26 = .ok (.ireturn, 1) := by decide +kernel
theorem dX1_lowestTaking_27 : decode cX1_lowestTaking 27 = .ok (.iinc 2 1, 3) := by decide +kernel
theorem dX1_lowestTaking_30 : decode cX1_lowestTaking 30 = .ok (.goto (-28), 3) := by decide +kernel
theorem dX1_lowestTaking_33 : decode cX1_lowestTaking 33 = .ok (.iconst (-1), 1) := by decide +kernel
theorem dX1_lowestTaking_34 : decode cX1_lowestTaking 34 = .ok (.ireturn, 1) := by decide +kernel
theorem dX1_net_0 : decode cX1_net 0 = .ok (.iconst 0, 1) := by decide +kernel
theorem dX1_net_1 : decode cX1_net 1 = .ok (.istore_n 1, 1) := by decide +kernel
theorem dX1_net_2 : decode cX1_net 2 = .ok (.iconst 0, 1) := by decide +kernel
theorem dX1_net_3 : decode cX1_net 3 = .ok (.istore_n 2, 1) := by decide +kernel
theorem dX1_net_4 : decode cX1_net 4 = .ok (.iload_n 2, 1) := by decide +kernel
theorem dX1_net_5 : decode cX1_net 5 = .ok (.aload_n 0, 1) := by decide +kernel
theorem dX1_net_6 : decode cX1_net 6 = .ok (.getfield 25, 3) := by decide +kernel
theorem dX1_net_9 : decode cX1_net 9 = .ok (.invokevirtual 103, 3) := by decide +kernel
theorem dX1_net_12 : decode cX1_net 12 = .ok (.if_icmp .ge 41, 3) := by decide +kernel
theorem dX1_net_15 : decode cX1_net 15 = .ok (.aload_n 0, 1) := by decide +kernel
theorem dX1_net_16 : decode cX1_net 16 = .ok (.getfield 29, 3) := by decide +kernel
theorem dX1_net_19 : decode cX1_net 19 = .ok (.iload_n 2, 1) := by decide +kernel
theorem dX1_net_20 : decode cX1_net 20 = .ok (.invokevirtual 41, 3) := by decide +kernel
theorem dX1_net_23 : decode cX1_net 23 = .ok (.ifCond .eq 24, 3) := by decide +kernel
theorem dX1_net_26 : decode cX1_net 26 = .ok (.aload_n 0, 1) := by decide +kernel
theorem dX1_net_27 : decode cX1_net 27 = .ok (.getfield 29, 3) := by decide +kernel
theorem dX1_net_30 : decode cX1_net 30 = .ok (.aload_n 0, 1) := by decide +kernel
theorem dX1_net_31 : decode cX1_net 31 = .ok (.getfield 25, 3) := by decide +kernel
theorem dX1_net_34 : decode cX1_net 34 = .ok (.iload_n 2, 1) := by decide +kernel
theorem dX1_net_35 : decode cX1_net 35 = .ok (.invokevirtual 113, 3) := by decide +kernel
theorem dX1_net_38 : decode cX1_net 38 = .ok (.invokevirtual 41, 3) := by decide +kernel
theorem dX1_net_41 : decode cX1_net 41 = .ok (.ifCond .ne 6, 3) := by decide +kernel
theorem dX1_net_44 : decode cX1_net 44 = .ok (.iinc 1 1, 3) := by decide +kernel
theorem dX1_net_47 : decode cX1_net 47 = .ok (.iinc 2 1, 3) := by decide +kernel
theorem dX1_net_50 : decode cX1_net 50 = .ok (.goto (-46), 3) := by decide +kernel
theorem dX1_net_53 : decode cX1_net 53 = .ok (.iload_n 1, 1) := by decide +kernel
theorem dX1_net_54 : decode cX1_net 54 = .ok (.ireturn, 1) := by decide +kernel
theorem dX1_amnesty_0 : decode cX1_amnesty 0 = .ok (.iconst 0, 1) := by decide +kernel
theorem dX1_amnesty_1 : decode cX1_amnesty 1 = .ok (.istore_n 1, 1) := by decide +kernel
theorem dX1_amnesty_2 : decode cX1_amnesty 2 = .ok (.aload_n 0, 1) := by decide +kernel
theorem dX1_amnesty_3 : decode cX1_amnesty 3 = .ok (.aload_n 0, 1) := by decide +kernel
theorem dX1_amnesty_4 : decode cX1_amnesty 4 = .ok (.getfield 29, 3) := by decide +kernel
theorem dX1_amnesty_7 : decode cX1_amnesty 7 = .ok (.iconst 0, 1) := by decide +kernel
theorem dX1_amnesty_8 : decode cX1_amnesty 8 = .ok (.invokevirtual 116, 3) := by decide +kernel
theorem dX1_amnesty_11 : decode cX1_amnesty 11 = .ok (.invokevirtual 100, 3) := by decide +kernel
theorem dX1_amnesty_14 : decode cX1_amnesty 14 = .ok (.istore_n 2, 1) := by decide +kernel
theorem dX1_amnesty_15 : decode cX1_amnesty 15 = .ok (.iconst 1, 1) := by decide +kernel
theorem dX1_amnesty_16 : decode cX1_amnesty 16 = .ok (.istore_n 3, 1) := by decide +kernel
theorem dX1_amnesty_17 : decode cX1_amnesty 17 = .ok (.iload_n 3, 1) := by decide +kernel
theorem dX1_amnesty_18 : decode cX1_amnesty 18 = .ok (.aload_n 0, 1) := by decide +kernel
theorem dX1_amnesty_19 : decode cX1_amnesty 19 = .ok (.getfield 25, 3) := by decide +kernel
theorem dX1_amnesty_22 : decode cX1_amnesty 22 = .ok (.invokevirtual 47, 3) := by decide +kernel
theorem dX1_amnesty_25 : decode cX1_amnesty 25 = .ok (.if_icmp .ge 34, 3) := by decide +kernel
theorem dX1_amnesty_28 : decode cX1_amnesty 28 = .ok (.aload_n 0, 1) := by decide +kernel
theorem dX1_amnesty_29 : decode cX1_amnesty 29 = .ok (.aload_n 0, 1) := by decide +kernel
theorem dX1_amnesty_30 : decode cX1_amnesty 30 = .ok (.getfield 29, 3) := by decide +kernel
theorem dX1_amnesty_33 : decode cX1_amnesty 33 = .ok (.iload_n 3, 1) := by decide +kernel
theorem dX1_amnesty_34 : decode cX1_amnesty 34 = .ok (.invokevirtual 116, 3) := by decide +kernel
theorem dX1_amnesty_37 : decode cX1_amnesty 37 = .ok (.invokevirtual 100, 3) := by decide +kernel
theorem dX1_amnesty_40 : decode cX1_amnesty 40 = .ok (.istore 4, 2) := by decide +kernel
theorem dX1_amnesty_42 : decode cX1_amnesty 42 = .ok (.iload 4, 2) := by decide +kernel
theorem dX1_amnesty_44 : decode cX1_amnesty 44 = .ok (.iload_n 2, 1) := by decide +kernel
theorem dX1_amnesty_45 : decode cX1_amnesty 45 = .ok (.if_icmp .ge 8, 3) := by decide +kernel
theorem dX1_amnesty_48 : decode cX1_amnesty 48 = .ok (.iload_n 3, 1) := by decide +kernel
theorem dX1_amnesty_49 : decode cX1_amnesty 49 = .ok (.istore_n 1, 1) := by decide +kernel
theorem dX1_amnesty_50 : decode cX1_amnesty 50 = .ok (.iload 4, 2) := by decide +kernel
theorem dX1_amnesty_52 : decode cX1_amnesty 52 = .ok (.istore_n 2, 1) := by decide +kernel
theorem dX1_amnesty_53 : decode cX1_amnesty 53 = .ok (.iinc 3 1, 3) := by decide +kernel
theorem dX1_amnesty_56 : decode cX1_amnesty 56 = .ok (.goto (-39), 3) := by decide +kernel
theorem dX1_amnesty_59 : decode cX1_amnesty 59 = .ok (.iload_n 1, 1) := by decide +kernel
theorem dX1_amnesty_60 : decode cX1_amnesty 60 = .ok (.ireturn, 1) := by decide +kernel
theorem dX1_dearest_0 : decode cX1_dearest 0 = .ok (.iconst (-1), 1) := by decide +kernel
theorem dX1_dearest_1 : decode cX1_dearest 1 = .ok (.istore_n 1, 1) := by decide +kernel
theorem dX1_dearest_2 : decode cX1_dearest 2 = .ok (.iconst (-1), 1) := by decide +kernel
theorem dX1_dearest_3 : decode cX1_dearest 3 = .ok (.istore_n 2, 1) := by decide +kernel
theorem dX1_dearest_4 : decode cX1_dearest 4 = .ok (.iconst 0, 1) := by decide +kernel
theorem dX1_dearest_5 : decode cX1_dearest 5 = .ok (.istore_n 3, 1) := by decide +kernel
theorem dX1_dearest_6 : decode cX1_dearest 6 = .ok (.iload_n 3, 1) := by decide +kernel
theorem dX1_dearest_7 : decode cX1_dearest 7 = .ok (.aload_n 0, 1) := by decide +kernel
theorem dX1_dearest_8 : decode cX1_dearest 8 = .ok (.getfield 25, 3) := by decide +kernel
theorem dX1_dearest_11 : decode cX1_dearest 11 = .ok (.invokevirtual 103, 3) := by decide +kernel
theorem dX1_dearest_14 : decode cX1_dearest 14 = .ok (.if_icmp .ge 52, 3) := by decide +kernel
theorem dX1_dearest_17 : decode cX1_dearest 17 = .ok (.aload_n 0, 1) := by decide +kernel
theorem dX1_dearest_18 : decode cX1_dearest 18 = .ok (.getfield 25, 3) := by decide +kernel
theorem dX1_dearest_21 : decode cX1_dearest 21 = .ok (.iload_n 3, 1) := by decide +kernel
theorem dX1_dearest_22 : decode cX1_dearest 22 = .ok (.invokevirtual 71, 3) := by decide +kernel
theorem dX1_dearest_25 : decode cX1_dearest 25 = .ok (.aload_n 0, 1) := by decide +kernel
theorem dX1_dearest_26 : decode cX1_dearest 26 = .ok (.getfield 29, 3) := by decide +kernel
theorem dX1_dearest_29 : decode cX1_dearest 29 = .ok (.invokevirtual 64, 3) := by decide +kernel
theorem dX1_dearest_32 : decode cX1_dearest 32 = .ok (.iand, 1) := by decide +kernel
theorem dX1_dearest_33 : decode cX1_dearest 33 = .ok (.invokestatic 74, 3) := by decide +kernel
theorem dX1_dearest_36 : decode cX1_dearest 36 = .ok (.istore 4, 2) := by decide +kernel
theorem dX1_dearest_38 : decode cX1_dearest 38 = .ok (.aload_n 0, 1) := by decide +kernel
theorem dX1_dearest_39 : decode cX1_dearest 39 = .ok (.getfield 29, 3) := by decide +kernel
theorem dX1_dearest_42 : decode cX1_dearest 42 = .ok (.iload_n 3, 1) := by decide +kernel
theorem dX1_dearest_43 : decode cX1_dearest 43 = .ok (.invokevirtual 41, 3) := by decide +kernel
theorem dX1_dearest_46 : decode cX1_dearest 46 = .ok (.ifCond .eq 14, 3) := by decide +kernel
theorem dX1_dearest_49 : decode cX1_dearest 49 = .ok (.iload 4, 2) := by decide +kernel
theorem dX1_dearest_51 : decode cX1_dearest 51 = .ok (.iload_n 2, 1) := by decide +kernel
theorem dX1_dearest_52 : decode cX1_dearest 52 = .ok (.if_icmp .le 8, 3) := by decide +kernel
theorem dX1_dearest_55 : decode cX1_dearest 55 = .ok (.iload_n 3, 1) := by decide +kernel
theorem dX1_dearest_56 : decode cX1_dearest 56 = .ok (.istore_n 1, 1) := by decide +kernel
theorem dX1_dearest_57 : decode cX1_dearest 57 = .ok (.iload 4, 2) := by decide +kernel
theorem dX1_dearest_59 : decode cX1_dearest 59 = .ok (.istore_n 2, 1) := by decide +kernel
theorem dX1_dearest_60 : decode cX1_dearest 60 = .ok (.iinc 3 1, 3) := by decide +kernel
theorem dX1_dearest_63 : decode cX1_dearest 63 = .ok (.goto (-57), 3) := by decide +kernel
theorem dX1_dearest_66 : decode cX1_dearest 66 = .ok (.iload_n 1, 1) := by decide +kernel
theorem dX1_dearest_67 : decode cX1_dearest 67 = .ok (.ireturn, 1) := by decide +kernel
theorem dX1_yearsUntil_0 : decode cX1_yearsUntil 0 = .ok (.iload_n 1, 1) := by decide +kernel
theorem dX1_yearsUntil_1 : decode cX1_yearsUntil 1 = .ok (.aload_n 0, 1) := by decide +kernel
theorem dX1_yearsUntil_2 : decode cX1_yearsUntil 2 = .ok (.getfield 29, 3) := by decide +kernel
theorem dX1_yearsUntil_5 : decode cX1_yearsUntil 5 = .ok (.invokevirtual 119, 3) := by decide +kernel
theorem dX1_yearsUntil_8 : decode cX1_yearsUntil 8 = .ok (.isub, 1) := by decide +kernel
theorem dX1_yearsUntil_9 : decode cX1_yearsUntil 9 = .ok (.istore_n 2, 1) := by decide +kernel
theorem dX1_yearsUntil_10 : decode cX1_yearsUntil 10 = .ok (.aload_n 0, 1) := by decide +kernel
theorem dX1_yearsUntil_11 : decode cX1_yearsUntil 11 = .ok (.invokevirtual 122, 3) := by decide +kernel
theorem dX1_yearsUntil_14 : decode cX1_yearsUntil 14 = .ok (.istore_n 3, 1) := by decide +kernel
theorem dX1_yearsUntil_15 : decode cX1_yearsUntil 15 = .ok (.iload_n 2, 1) := by decide +kernel
theorem dX1_yearsUntil_16 : decode cX1_yearsUntil 16 = .ok (.ifCond .gt 5, 3) := by decide +kernel
theorem dX1_yearsUntil_19 : decode cX1_yearsUntil 19 = .ok (.iconst 0, 1) := by decide +kernel
theorem dX1_yearsUntil_20 : decode cX1_yearsUntil 20 = .ok (.ireturn, 1) := by decide +kernel
theorem dX1_yearsUntil_21 : decode cX1_yearsUntil 21 = .ok (.iload_n 3, 1) := by decide +kernel
theorem dX1_yearsUntil_22 : decode cX1_yearsUntil 22 = .ok (.ifCond .gt 5, 3) := by decide +kernel
theorem dX1_yearsUntil_25 : decode cX1_yearsUntil 25 = .ok (.iconst (-1), 1) := by decide +kernel
theorem dX1_yearsUntil_26 : decode cX1_yearsUntil 26 = .ok (.ireturn, 1) := by decide +kernel
theorem dX1_yearsUntil_27 : decode cX1_yearsUntil 27 = .ok (.iload_n 2, 1) := by decide +kernel
theorem dX1_yearsUntil_28 : decode cX1_yearsUntil 28 = .ok (.iload_n 3, 1) := by decide +kernel
theorem dX1_yearsUntil_29 : decode cX1_yearsUntil 29 = .ok (.iadd, 1) := by decide +kernel
theorem dX1_yearsUntil_30 : decode cX1_yearsUntil 30 = .ok (.iconst 1, 1) := by decide +kernel
theorem dX1_yearsUntil_31 : decode cX1_yearsUntil 31 = .ok (.isub, 1) := by decide +kernel
theorem dX1_yearsUntil_32 : decode cX1_yearsUntil 32 = .ok (.iload_n 3, 1) := by decide +kernel
theorem dX1_yearsUntil_33 : decode cX1_yearsUntil 33 = .ok (.idiv, 1) := by decide +kernel
theorem dX1_yearsUntil_34 : decode cX1_yearsUntil 34 = .ok (.istore 4, 2) := by decide +kernel
theorem dX1_yearsUntil_36 : decode cX1_yearsUntil 36 = .ok (.iload 4, 2) := by decide +kernel
theorem dX1_yearsUntil_38 : decode cX1_yearsUntil 38 = .ok (.sipush 999, 3) := by decide +kernel
theorem dX1_yearsUntil_41 : decode cX1_yearsUntil 41 = .ok (.if_icmp .gt 8, 3) := by decide +kernel
theorem dX1_yearsUntil_44 : decode cX1_yearsUntil 44 = .ok (.iload 4, 2) := by decide +kernel
theorem dX1_yearsUntil_46 : decode cX1_yearsUntil 46 = .ok (.goto 4, 3) := by decide +kernel
theorem dX1_yearsUntil_49 : decode cX1_yearsUntil 49 = .ok (.iconst (-1), 1) := by decide +kernel
theorem dX1_yearsUntil_50 : decode cX1_yearsUntil 50 = .ok (.ireturn, 1) := by decide +kernel
theorem dX2_init_0 : decode cX2_init 0 = .ok (.aload_n 0, 1) := by decide +kernel
theorem dX2_init_1 : decode cX2_init 1 = .ok (.invokespecial 1, 3) := by decide +kernel
theorem dX2_init_4 : decode cX2_init 4 = .ok (.aload_n 0, 1) := by decide +kernel
theorem dX2_init_5 : decode cX2_init 5 = .ok (.sipush 840, 3) := by decide +kernel
theorem dX2_init_8 : decode cX2_init 8 = .ok (.newarray .int, 2) := by decide +kernel
theorem dX2_init_10 : decode cX2_init 10 = .ok (.putfield 11, 3) := by decide +kernel
theorem dX2_init_13 : decode cX2_init 13 = .ok (.return_, 1) := by decide +kernel
theorem dX2_acts_0 : decode cX2_acts 0 = .ok (.aload_n 0, 1) := by decide +kernel
theorem dX2_acts_1 : decode cX2_acts 1 = .ok (.getfield 15, 3) := by decide +kernel
theorem dX2_acts_4 : decode cX2_acts 4 = .ok (.ireturn, 1) := by decide +kernel
theorem dX2_forget_0 : decode cX2_forget 0 = .ok (.aload_n 0, 1) := by decide +kernel
theorem dX2_forget_1 : decode cX2_forget 1 = .ok (.iconst 0, 1) := by decide +kernel
theorem dX2_forget_2 : decode cX2_forget 2 = .ok (.putfield 15, 3) := by decide +kernel
theorem dX2_forget_5 : decode cX2_forget 5 = .ok (.return_, 1) := by decide +kernel
theorem dX2_keep_0 : decode cX2_keep 0 = .ok (.aload_n 1, 1) := by decide +kernel
theorem dX2_keep_1 : decode cX2_keep 1 = .ok (.aload_n 0, 1) := by decide +kernel
theorem dX2_keep_2 : decode cX2_keep 2 = .ok (.getfield 11, 3) := by decide +kernel
theorem dX2_keep_5 : decode cX2_keep 5 = .ok (.aload_n 0, 1) := by decide +kernel
theorem dX2_keep_6 : decode cX2_keep 6 = .ok (.getfield 19, 3) := by decide +kernel
theorem dX2_keep_9 : decode cX2_keep 9 = .ok (.bipush 21, 2) := by decide +kernel
theorem dX2_keep_11 : decode cX2_keep 11 = .ok (.imul, 1) := by decide +kernel
theorem dX2_keep_12 : decode cX2_keep 12 = .ok (.invokevirtual 22, 3) := by decide +kernel
theorem dX2_keep_15 : decode cX2_keep 15 = .ok (.aload_n 0, 1) := by decide +kernel
theorem dX2_keep_16 : decode cX2_keep 16 = .ok (.aload_n 0, 1) := by decide +kernel
theorem dX2_keep_17 : decode cX2_keep 17 = .ok (.getfield 19, 3) := by decide +kernel
theorem dX2_keep_20 : decode cX2_keep 20 = .ok (.iconst 1, 1) := by decide +kernel
theorem dX2_keep_21 : decode cX2_keep 21 = .ok (.iadd, 1) := by decide +kernel
theorem dX2_keep_22 : decode cX2_keep 22 = .ok (.bipush 40, 2) := by decide +kernel
theorem dX2_keep_24 : decode cX2_keep 24 = .ok (.irem, 1) := by decide +kernel
theorem dX2_keep_25 : decode cX2_keep 25 = .ok (.putfield 19, 3) := by decide +kernel
theorem dX2_keep_28 : decode cX2_keep 28 = .ok (.aload_n 0, 1) := by decide +kernel
theorem dX2_keep_29 : decode cX2_keep 29 = .ok (.bipush 40, 2) := by decide +kernel
theorem dX2_keep_31 : decode cX2_keep 31 = .ok (.aload_n 0, 1) := by decide +kernel
theorem dX2_keep_32 : decode cX2_keep 32 = .ok (.getfield 15, 3) := by decide +kernel
theorem dX2_keep_35 : decode cX2_keep 35 = .ok (.iconst 1, 1) := by decide +kernel
theorem dX2_keep_36 : decode cX2_keep 36 = .ok (.iadd, 1) := by decide +kernel
theorem dX2_keep_37 : decode cX2_keep 37 = .ok (.invokestatic 26, 3) := by decide +kernel
theorem dX2_keep_40 : decode cX2_keep 40 = .ok (.putfield 15, 3) := by decide +kernel
theorem dX2_keep_43 : decode cX2_keep 43 = .ok (.return_, 1) := by decide +kernel
theorem dX2_takeBack_0 : decode cX2_takeBack 0 = .ok (.aload_n 0, 1) := by decide +kernel
theorem dX2_takeBack_1 : decode cX2_takeBack 1 = .ok (.getfield 15, 3) := by decide +kernel
theorem dX2_takeBack_4 : decode cX2_takeBack 4 = .ok (.ifCond .ne 5, 3) := by decide +kernel
theorem dX2_takeBack_7 : decode cX2_takeBack 7 = .ok (.iconst 0, 1) := by decide +kernel
theorem dX2_takeBack_8 : decode cX2_takeBack 8 = .ok (.ireturn, 1) := by decide +kernel
theorem dX2_takeBack_9 : decode cX2_takeBack 9 = .ok (.aload_n 0, 1) := by decide +kernel
theorem dX2_takeBack_10 : decode cX2_takeBack 10 = .ok (.dup, 1) := by decide +kernel
theorem dX2_takeBack_11 : decode cX2_takeBack 11 = .ok (.getfield 15, 3) := by decide +kernel
theorem dX2_takeBack_14 : decode cX2_takeBack 14 = .ok (.iconst 1, 1) := by decide +kernel
theorem dX2_takeBack_15 : decode cX2_takeBack 15 = .ok (.isub, 1) := by decide +kernel
theorem dX2_takeBack_16 : decode cX2_takeBack 16 = .ok (.putfield 15, 3) := by decide +kernel
theorem dX2_takeBack_19 : decode cX2_takeBack 19 = .ok (.aload_n 0, 1) := by decide +kernel
theorem dX2_takeBack_20 : decode cX2_takeBack 20 = .ok (.aload_n 0, 1) := by decide +kernel
theorem dX2_takeBack_21 : decode cX2_takeBack 21 = .ok (.getfield 19, 3) := by decide +kernel
theorem dX2_takeBack_24 : decode cX2_takeBack 24 = .ok (.bipush 40, 2) := by decide +kernel
theorem dX2_takeBack_26 : decode cX2_takeBack 26 = .ok (.iadd, 1) := by decide +kernel
theorem dX2_takeBack_27 : decode cX2_takeBack 27 = .ok (.iconst 1, 1) := by decide +kernel
theorem dX2_takeBack_28 : decode cX2_takeBack 28 = .ok (.isub, 1) := by decide +kernel
theorem dX2_takeBack_29 : decode cX2_takeBack 29 = .ok (.bipush 40, 2) := by decide +kernel
theorem dX2_takeBack_31 : decode cX2_takeBack 31 = .ok (.irem, 1) := by decide +kernel
theorem dX2_takeBack_32 : decode cX2_takeBack 32 = .ok (.putfield 19, 3) := by decide +kernel
theorem dX2_takeBack_35 : decode cX2_takeBack 35 = .ok (.aload_n 1, 1) := by decide +kernel
theorem dX2_takeBack_36 : decode cX2_takeBack 36 = .ok (.aload_n 0, 1) := by decide +kernel
theorem dX2_takeBack_37 : decode cX2_takeBack 37 = .ok (.getfield 11, 3) := by decide +kernel
theorem dX2_takeBack_40 : decode cX2_takeBack 40 = .ok (.aload_n 0, 1) := by decide +kernel
theorem dX2_takeBack_41 : decode cX2_takeBack 41 = .ok (.getfield 19, 3) := by decide +kernel
theorem dX2_takeBack_44 : decode cX2_takeBack 44 = .ok (.bipush 21, 2) := by decide +kernel
theorem dX2_takeBack_46 : decode cX2_takeBack 46 = .ok (.imul, 1) := by decide +kernel
theorem dX2_takeBack_47 : decode cX2_takeBack 47 = .ok (.invokevirtual 32, 3) := by decide +kernel
theorem dX2_takeBack_50 : decode cX2_takeBack 50 = .ok (.iconst 1, 1) := by decide +kernel
theorem dX2_takeBack_51 : decode cX2_takeBack 51 = .ok (.ireturn, 1) := by decide +kernel
theorem dX3_init_0 : decode cX3_init 0 = .ok (.aload_n 0, 1) := by decide +kernel
theorem dX3_init_1 : decode cX3_init 1 = .ok (.invokespecial 9, 3) := by decide +kernel
theorem dX3_init_4 : decode cX3_init 4 = .ok (.aload_n 0, 1) := by decide +kernel
theorem dX3_init_5 : decode cX3_init 5 = .ok (.bipush 7, 2) := by decide +kernel
theorem dX3_init_7 : decode cX3_init 7 = .ok (.newarray .int, 2) := by decide +kernel
theorem dX3_init_9 : decode cX3_init 9 = .ok (.putfield 15, 3) := by decide +kernel
theorem dX3_init_12 : decode cX3_init 12 = .ok (.aload_n 0, 1) := by decide +kernel
theorem dX3_init_13 : decode cX3_init 13 = .ok (.bipush 7, 2) := by decide +kernel
theorem dX3_init_15 : decode cX3_init 15 = .ok (.newarray .int, 2) := by decide +kernel
theorem dX3_init_17 : decode cX3_init 17 = .ok (.putfield 19, 3) := by decide +kernel
theorem dX3_init_20 : decode cX3_init 20 = .ok (.aload_n 0, 1) := by decide +kernel
theorem dX3_init_21 : decode cX3_init 21 = .ok (.iconst 4, 1) := by decide +kernel
theorem dX3_init_22 : decode cX3_init 22 = .ok (.newarray .int, 2) := by decide +kernel
theorem dX3_init_24 : decode cX3_init 24 = .ok (.putfield 22, 3) := by decide +kernel
theorem dX3_init_27 : decode cX3_init 27 = .ok (.aload_n 0, 1) := by decide +kernel
theorem dX3_init_28 : decode cX3_init 28 = .ok (.bipush 100, 2) := by decide +kernel
theorem dX3_init_30 : decode cX3_init 30 = .ok (.newarray .int, 2) := by decide +kernel
theorem dX3_init_32 : decode cX3_init 32 = .ok (.putfield 25, 3) := by decide +kernel
theorem dX3_init_35 : decode cX3_init 35 = .ok (.aload_n 0, 1) := by decide +kernel
theorem dX3_init_36 : decode cX3_init 36 = .ok (.bipush 100, 2) := by decide +kernel
theorem dX3_init_38 : decode cX3_init 38 = .ok (.newarray .int, 2) := by decide +kernel
theorem dX3_init_40 : decode cX3_init 40 = .ok (.putfield 28, 3) := by decide +kernel
theorem dX3_init_43 : decode cX3_init 43 = .ok (.aload_n 0, 1) := by decide +kernel
theorem dX3_init_44 : decode cX3_init 44 = .ok (.aload_n 1, 1) := by decide +kernel
theorem dX3_init_45 : decode cX3_init 45 = .ok (.putfield 31, 3) := by decide +kernel
theorem dX3_init_48 : decode cX3_init 48 = .ok (.return_, 1) := by decide +kernel
theorem dX3_start_0 : decode cX3_start 0 = .ok (.iconst 0, 1) := by decide +kernel
theorem dX3_start_1 : decode cX3_start 1 = .ok (.istore_n 1, 1) := by decide +kernel
theorem dX3_start_2 : decode cX3_start 2 = .ok (.iload_n 1, 1) := by decide +kernel
theorem dX3_start_3 : decode cX3_start 3 = .ok (.bipush 7, 2) := by decide +kernel
theorem dX3_start_5 : decode cX3_start 5 = .ok (.if_icmp .ge 23, 3) := by decide +kernel
theorem dX3_start_8 : decode cX3_start 8 = .ok (.aload_n 0, 1) := by decide +kernel
theorem dX3_start_9 : decode cX3_start 9 = .ok (.getfield 15, 3) := by decide +kernel
theorem dX3_start_12 : decode cX3_start 12 = .ok (.iload_n 1, 1) := by decide +kernel
theorem dX3_start_13 : decode cX3_start 13 = .ok (.iconst (-1), 1) := by decide +kernel
theorem dX3_start_14 : decode cX3_start 14 = .ok (.iastore, 1) := by decide +kernel
theorem dX3_start_15 : decode cX3_start 15 = .ok (.aload_n 0, 1) := by decide +kernel
theorem dX3_start_16 : decode cX3_start 16 = .ok (.getfield 19, 3) := by decide +kernel
theorem dX3_start_19 : decode cX3_start 19 = .ok (.iload_n 1, 1) := by decide +kernel
theorem dX3_start_20 : decode cX3_start 20 = .ok (.iconst 0, 1) := by decide +kernel
theorem dX3_start_21 : decode cX3_start 21 = .ok (.iastore, 1) := by decide +kernel
theorem dX3_start_22 : decode cX3_start 22 = .ok (.iinc 1 1, 3) := by decide +kernel
theorem dX3_start_25 : decode cX3_start 25 = .ok (.goto (-23), 3) := by decide +kernel
theorem dX3_start_28 : decode cX3_start 28 = .ok (.iconst 0, 1) := by decide +kernel
theorem dX3_start_29 : decode cX3_start 29 = .ok (.istore_n 1, 1) := by decide +kernel
theorem dX3_start_30 : decode cX3_start 30 = .ok (.iload_n 1, 1) := by decide +kernel
theorem dX3_start_31 : decode cX3_start 31 = .ok (.iconst 4, 1) := by decide +kernel
theorem dX3_start_32 : decode cX3_start 32 = .ok (.if_icmp .ge 23, 3) := by decide +kernel
theorem dX3_start_35 : decode cX3_start 35 = .ok (.aload_n 0, 1) := by decide +kernel
theorem dX3_start_36 : decode cX3_start 36 = .ok (.getfield 22, 3) := by decide +kernel
theorem dX3_start_39 : decode cX3_start 39 = .ok (.iload_n 1, 1) := by decide +kernel
theorem dX3_start_40 : decode cX3_start 40 = .ok (.aload_n 0, 1) := by decide +kernel
theorem dX3_start_41 : decode cX3_start 41 = .ok (.getfield 31, 3) := by decide +kernel
theorem dX3_start_44 : decode cX3_start 44 = .ok (.iload_n 1, 1) := by decide +kernel
theorem dX3_start_45 : decode cX3_start 45 = .ok (.invokevirtual 35, 3) := by decide +kernel
theorem dX3_start_48 : decode cX3_start 48 = .ok (.iastore, 1) := by decide +kernel
theorem dX3_start_49 : decode cX3_start 49 = .ok (.iinc 1 1, 3) := by decide +kernel
theorem dX3_start_52 : decode cX3_start 52 = .ok (.goto (-22), 3) := by decide +kernel
theorem dX3_start_55 : decode cX3_start 55 = .ok (.aload_n 0, 1) := by decide +kernel
theorem dX3_start_56 : decode cX3_start 56 = .ok (.aload_n 0, 1) := by decide +kernel
theorem dX3_start_57 : decode cX3_start 57 = .ok (.getfield 31, 3) := by decide +kernel
theorem dX3_start_60 : decode cX3_start 60 = .ok (.invokevirtual 39, 3) := by decide +kernel
theorem dX3_start_63 : decode cX3_start 63 = .ok (.putfield 43, 3) := by decide +kernel
theorem dX3_start_66 : decode cX3_start 66 = .ok (.aload_n 0, 1) := by decide +kernel
theorem dX3_start_67 : decode cX3_start 67 = .ok (.iconst 0, 1) := by decide +kernel
theorem dX3_start_68 : decode cX3_start 68 = .ok (.putfield 47, 3) := by decide +kernel
theorem dX3_start_71 : decode cX3_start 71 = .ok (.aload_n 0, 1) := by decide +kernel
theorem dX3_start_72 : decode cX3_start 72 = .ok (.iconst 0, 1) := by decide +kernel
theorem dX3_start_73 : decode cX3_start 73 = .ok (.putfield 50, 3) := by decide +kernel
theorem dX3_start_76 : decode cX3_start 76 = .ok (.return_, 1) := by decide +kernel
theorem dX3_copyFrom_0 : decode cX3_copyFrom 0 = .ok (.aload_n 1, 1) := by decide +kernel
theorem dX3_copyFrom_1 : decode cX3_copyFrom 1 = .ok (.getfield 15, 3) := by decide +kernel
theorem dX3_copyFrom_4 : decode cX3_copyFrom 4 = .ok (.iconst 0, 1) := by decide +kernel
theorem dX3_copyFrom_5 : decode cX3_copyFrom 5 = .ok (.aload_n 0, 1) := by decide +kernel
theorem dX3_copyFrom_6 : decode cX3_copyFrom 6 = .ok (.getfield 15, 3) := by decide +kernel
theorem dX3_copyFrom_9 : decode cX3_copyFrom 9 = .ok (.iconst 0, 1) := by decide +kernel
theorem dX3_copyFrom_10 : decode cX3_copyFrom 10 = .ok (.aload_n 0, 1) := by decide +kernel
theorem dX3_copyFrom_11 : decode cX3_copyFrom 11 = .ok (.getfield 15, 3) := by decide +kernel
theorem dX3_copyFrom_14 : decode cX3_copyFrom 14 = .ok (.arraylength, 1) := by decide +kernel
theorem dX3_copyFrom_15 : decode cX3_copyFrom 15 = .ok (.invokestatic 53, 3) := by decide +kernel
theorem dX3_copyFrom_18 : decode cX3_copyFrom 18 = .ok (.aload_n 1, 1) := by decide +kernel
theorem dX3_copyFrom_19 : decode cX3_copyFrom 19 = .ok (.getfield 19, 3) := by decide +kernel
theorem dX3_copyFrom_22 : decode cX3_copyFrom 22 = .ok (.iconst 0, 1) := by decide +kernel
theorem dX3_copyFrom_23 : decode cX3_copyFrom 23 = .ok (.aload_n 0, 1) := by decide +kernel
theorem dX3_copyFrom_24 : decode cX3_copyFrom 24 = .ok (.getfield 19, 3) := by decide +kernel
theorem dX3_copyFrom_27 : decode cX3_copyFrom 27 = .ok (.iconst 0, 1) := by decide +kernel
theorem dX3_copyFrom_28 : decode cX3_copyFrom 28 = .ok (.aload_n 0, 1) := by decide +kernel
theorem dX3_copyFrom_29 : decode cX3_copyFrom 29 = .ok (.getfield 19, 3) := by decide +kernel
theorem dX3_copyFrom_32 : decode cX3_copyFrom 32 = .ok (.arraylength, 1) := by decide +kernel
theorem dX3_copyFrom_33 : decode cX3_copyFrom 33 = .ok (.invokestatic 53, 3) := by decide +kernel
theorem dX3_copyFrom_36 : decode cX3_copyFrom 36 = .ok (.aload_n 1, 1) := by decide +kernel
theorem dX3_copyFrom_37 : decode cX3_copyFrom 37 = .ok (.getfield 22, 3) := by decide +kernel
theorem dX3_copyFrom_40 : decode cX3_copyFrom 40 = .ok (.iconst 0, 1) := by decide +kernel
theorem dX3_copyFrom_41 : decode cX3_copyFrom 41 = .ok (.aload_n 0, 1) := by decide +kernel
theorem dX3_copyFrom_42 : decode cX3_copyFrom 42 = .ok (.getfield 22, 3) := by decide +kernel
theorem dX3_copyFrom_45 : decode cX3_copyFrom 45 = .ok (.iconst 0, 1) := by decide +kernel
theorem dX3_copyFrom_46 : decode cX3_copyFrom 46 = .ok (.aload_n 0, 1) := by decide +kernel
theorem dX3_copyFrom_47 : decode cX3_copyFrom 47 = .ok (.getfield 22, 3) := by decide +kernel
theorem dX3_copyFrom_50 : decode cX3_copyFrom 50 = .ok (.arraylength, 1) := by decide +kernel
theorem dX3_copyFrom_51 : decode cX3_copyFrom 51 = .ok (.invokestatic 53, 3) := by decide +kernel
theorem dX3_copyFrom_54 : decode cX3_copyFrom 54 = .ok (.aload_n 1, 1) := by decide +kernel
theorem dX3_copyFrom_55 : decode cX3_copyFrom 55 = .ok (.getfield 25, 3) := by decide +kernel
theorem dX3_copyFrom_58 : decode cX3_copyFrom 58 = .ok (.iconst 0, 1) := by decide +kernel
theorem dX3_copyFrom_59 : decode cX3_copyFrom 59 = .ok (.aload_n 0, 1) := by decide +kernel
theorem dX3_copyFrom_60 : decode cX3_copyFrom 60 = .ok (.getfield 25, 3) := by decide +kernel
theorem dX3_copyFrom_63 : decode cX3_copyFrom 63 = .ok (.iconst 0, 1) := by decide +kernel
theorem dX3_copyFrom_64 : decode cX3_copyFrom 64 = .ok (.aload_n 0, 1) := by decide +kernel
theorem dX3_copyFrom_65 : decode cX3_copyFrom 65 = .ok (.getfield 25, 3) := by decide +kernel
theorem dX3_copyFrom_68 : decode cX3_copyFrom 68 = .ok (.arraylength, 1) := by decide +kernel
theorem dX3_copyFrom_69 : decode cX3_copyFrom 69 = .ok (.invokestatic 53, 3) := by decide +kernel
theorem dX3_copyFrom_72 : decode cX3_copyFrom 72 = .ok (.aload_n 1, 1) := by decide +kernel
theorem dX3_copyFrom_73 : decode cX3_copyFrom 73 = .ok (.getfield 28, 3) := by decide +kernel
theorem dX3_copyFrom_76 : decode cX3_copyFrom 76 = .ok (.iconst 0, 1) := by decide +kernel
theorem dX3_copyFrom_77 : decode cX3_copyFrom 77 = .ok (.aload_n 0, 1) := by decide +kernel
theorem dX3_copyFrom_78 : decode cX3_copyFrom 78 = .ok (.getfield 28, 3) := by decide +kernel
theorem dX3_copyFrom_81 : decode cX3_copyFrom 81 = .ok (.iconst 0, 1) := by decide +kernel
theorem dX3_copyFrom_82 : decode cX3_copyFrom 82 = .ok (.aload_n 0, 1) := by decide +kernel
theorem dX3_copyFrom_83 : decode cX3_copyFrom 83 = .ok (.getfield 28, 3) := by decide +kernel
theorem dX3_copyFrom_86 : decode cX3_copyFrom 86 = .ok (.arraylength, 1) := by decide +kernel
theorem dX3_copyFrom_87 : decode cX3_copyFrom 87 = .ok (.invokestatic 53, 3) := by decide +kernel
theorem dX3_copyFrom_90 : decode cX3_copyFrom 90 = .ok (.aload_n 0, 1) := by decide +kernel
theorem dX3_copyFrom_91 : decode cX3_copyFrom 91 = .ok (.aload_n 1, 1) := by decide +kernel
theorem dX3_copyFrom_92 : decode cX3_copyFrom 92 = .ok (.getfield 43, 3) := by decide +kernel
theorem dX3_copyFrom_95 : decode cX3_copyFrom 95 = .ok (.putfield 43, 3) := by decide +kernel
theorem dX3_copyFrom_98 : decode cX3_copyFrom 98 = .ok (.aload_n 0, 1) := by decide +kernel
theorem dX3_copyFrom_99 : decode cX3_copyFrom 99 = .ok (.aload_n 1, 1) := by decide +kernel
theorem dX3_copyFrom_100 : decode cX3_copyFrom 100 = .ok (.getfield 47, 3) := by decide +kernel
theorem dX3_copyFrom_103 : decode cX3_copyFrom 103 = .ok (.putfield 47, 3) := by decide +kernel
theorem dX3_copyFrom_106 : decode cX3_copyFrom 106 = .ok (.aload_n 0, 1) := by decide +kernel
theorem dX3_copyFrom_107 : decode cX3_copyFrom 107 = .ok (.aload_n 1, 1) := by decide +kernel
theorem dX3_copyFrom_108 : decode cX3_copyFrom 108 = .ok (.getfield 50, 3) := by decide +kernel
theorem dX3_copyFrom_111 : decode cX3_copyFrom 111 = .ok (.putfield 50, 3) := by decide +kernel
theorem dX3_copyFrom_114 : decode cX3_copyFrom 114 = .ok (.return_, 1) := by decide +kernel
theorem dX3_writeTo_0 : decode cX3_writeTo 0 = .ok (.iload_n 2, 1) := by decide +kernel
theorem dX3_writeTo_1 : decode cX3_writeTo 1 = .ok (.ifCond .lt 12, 3) := by decide +kernel
theorem dX3_writeTo_4 : decode cX3_writeTo 4 = .ok (.iload_n 2, 1) := by decide +kernel
theorem dX3_writeTo_5 : decode cX3_writeTo 5 = .ok (.bipush 21, 2) := by decide +kernel
theorem dX3_writeTo_7 : decode cX3_writeTo 7 = .ok (.iadd, 1) := by decide +kernel
theorem dX3_writeTo_8 : decode cX3_writeTo 8 = .ok (.aload_n 1, 1) := by decide +kernel
theorem dX3_writeTo_9 : decode cX3_writeTo 9 = .ok (.arraylength, 1) := by decide +kernel
theorem dX3_writeTo_10 : decode cX3_writeTo 10 = .ok (.if_icmp .le 4, 3) := by decide +kernel
theorem dX3_writeTo_13 : decode cX3_writeTo 13 = .ok (.return_, 1) := by decide +kernel
theorem dX3_writeTo_14 : decode cX3_writeTo 14 = .ok (.aload_n 0, 1) := by decide +kernel
theorem dX3_writeTo_15 : decode cX3_writeTo 15 = .ok (.getfield 15, 3) := by decide +kernel
theorem dX3_writeTo_18 : decode cX3_writeTo 18 = .ok (.iconst 0, 1) := by decide +kernel
theorem dX3_writeTo_19 : decode cX3_writeTo 19 = .ok (.aload_n 1, 1) := by decide +kernel
theorem dX3_writeTo_20 : decode cX3_writeTo 20 = .ok (.iload_n 2, 1) := by decide +kernel
theorem dX3_writeTo_21 : decode cX3_writeTo 21 = .ok (.aload_n 0, 1) := by decide +kernel
theorem dX3_writeTo_22 : decode cX3_writeTo 22 = .ok (.getfield 15, 3) := by decide +kernel
theorem dX3_writeTo_25 : decode cX3_writeTo 25 = .ok (.arraylength, 1) := by decide +kernel
theorem dX3_writeTo_26 : decode cX3_writeTo 26 = .ok (.invokestatic 53, 3) := by decide +kernel
theorem dX3_writeTo_29 : decode cX3_writeTo 29 = .ok (.aload_n 0, 1) := by decide +kernel
theorem dX3_writeTo_30 : decode cX3_writeTo 30 = .ok (.getfield 19, 3) := by decide +kernel
theorem dX3_writeTo_33 : decode cX3_writeTo 33 = .ok (.iconst 0, 1) := by decide +kernel
theorem dX3_writeTo_34 : decode cX3_writeTo 34 = .ok (.aload_n 1, 1) := by decide +kernel
theorem dX3_writeTo_35 : decode cX3_writeTo 35 = .ok (.iload_n 2, 1) := by decide +kernel
theorem dX3_writeTo_36 : decode cX3_writeTo 36 = .ok (.aload_n 0, 1) := by decide +kernel
theorem dX3_writeTo_37 : decode cX3_writeTo 37 = .ok (.getfield 15, 3) := by decide +kernel
theorem dX3_writeTo_40 : decode cX3_writeTo 40 = .ok (.arraylength, 1) := by decide +kernel
theorem dX3_writeTo_41 : decode cX3_writeTo 41 = .ok (.iadd, 1) := by decide +kernel
theorem dX3_writeTo_42 : decode cX3_writeTo 42 = .ok (.aload_n 0, 1) := by decide +kernel
theorem dX3_writeTo_43 : decode cX3_writeTo 43 = .ok (.getfield 19, 3) := by decide +kernel
theorem dX3_writeTo_46 : decode cX3_writeTo 46 = .ok (.arraylength, 1) := by decide +kernel
theorem dX3_writeTo_47 : decode cX3_writeTo 47 = .ok (.invokestatic 53, 3) := by decide +kernel
theorem dX3_writeTo_50 : decode cX3_writeTo 50 = .ok (.aload_n 0, 1) := by decide +kernel
theorem dX3_writeTo_51 : decode cX3_writeTo 51 = .ok (.getfield 22, 3) := by decide +kernel
theorem dX3_writeTo_54 : decode cX3_writeTo 54 = .ok (.iconst 0, 1) := by decide +kernel
theorem dX3_writeTo_55 : decode cX3_writeTo 55 = .ok (.aload_n 1, 1) := by decide +kernel
theorem dX3_writeTo_56 : decode cX3_writeTo 56 = .ok (.iload_n 2, 1) := by decide +kernel
theorem dX3_writeTo_57 : decode cX3_writeTo 57 = .ok (.iconst 2, 1) := by decide +kernel
theorem dX3_writeTo_58 : decode cX3_writeTo 58 = .ok (.aload_n 0, 1) := by decide +kernel
theorem dX3_writeTo_59 : decode cX3_writeTo 59 = .ok (.getfield 15, 3) := by decide +kernel
theorem dX3_writeTo_62 : decode cX3_writeTo 62 = .ok (.arraylength, 1) := by decide +kernel
theorem dX3_writeTo_63 : decode cX3_writeTo 63 = .ok (.imul, 1) := by decide +kernel
theorem dX3_writeTo_64 : decode cX3_writeTo 64 = .ok (.iadd, 1) := by decide +kernel
theorem dX3_writeTo_65 : decode cX3_writeTo 65 = .ok (.aload_n 0, 1) := by decide +kernel
theorem dX3_writeTo_66 : decode cX3_writeTo 66 = .ok (.getfield 22, 3) := by decide +kernel
theorem dX3_writeTo_69 : decode cX3_writeTo 69 = .ok (.arraylength, 1) := by decide +kernel
theorem dX3_writeTo_70 : decode cX3_writeTo 70 = .ok (.invokestatic 53, 3) := by decide +kernel
theorem dX3_writeTo_73 : decode cX3_writeTo 73 = .ok (.aload_n 1, 1) := by decide +kernel
theorem dX3_writeTo_74 : decode cX3_writeTo 74 = .ok (.iload_n 2, 1) := by decide +kernel
theorem dX3_writeTo_75 : decode cX3_writeTo 75 = .ok (.bipush 21, 2) := by decide +kernel
theorem dX3_writeTo_77 : decode cX3_writeTo 77 = .ok (.iadd, 1) := by decide +kernel
theorem dX3_writeTo_78 : decode cX3_writeTo 78 = .ok (.iconst 3, 1) := by decide +kernel
theorem dX3_writeTo_79 : decode cX3_writeTo 79 = .ok (.isub, 1) := by decide +kernel
theorem dX3_writeTo_80 : decode cX3_writeTo 80 = .ok (.aload_n 0, 1) := by decide +kernel
theorem dX3_writeTo_81 : decode cX3_writeTo 81 = .ok (.getfield 43, 3) := by decide +kernel
theorem dX3_writeTo_84 : decode cX3_writeTo 84 = .ok (.iastore, 1) := by decide +kernel
theorem dX3_writeTo_85 : decode cX3_writeTo 85 = .ok (.aload_n 1, 1) := by decide +kernel
theorem dX3_writeTo_86 : decode cX3_writeTo 86 = .ok (.iload_n 2, 1) := by decide +kernel
theorem dX3_writeTo_87 : decode cX3_writeTo 87 = .ok (.bipush 21, 2) := by decide +kernel
theorem dX3_writeTo_89 : decode cX3_writeTo 89 = .ok (.iadd, 1) := by decide +kernel
theorem dX3_writeTo_90 : decode cX3_writeTo 90 = .ok (.iconst 2, 1) := by decide +kernel
theorem dX3_writeTo_91 : decode cX3_writeTo 91 = .ok (.isub, 1) := by decide +kernel
theorem dX3_writeTo_92 : decode cX3_writeTo 92 = .ok (.aload_n 0, 1) := by decide +kernel
theorem dX3_writeTo_93 : decode cX3_writeTo 93 = .ok (.getfield 47, 3) := by decide +kernel
theorem dX3_writeTo_96 : decode cX3_writeTo 96 = .ok (.iastore, 1) := by decide +kernel
theorem dX3_writeTo_97 : decode cX3_writeTo 97 = .ok (.aload_n 1, 1) := by decide +kernel
theorem dX3_writeTo_98 : decode cX3_writeTo 98 = .ok (.iload_n 2, 1) := by decide +kernel
theorem dX3_writeTo_99 : decode cX3_writeTo 99 = .ok (.bipush 21, 2) := by decide +kernel
theorem dX3_writeTo_101 : decode cX3_writeTo 101 = .ok (.iadd, 1) := by decide +kernel
theorem dX3_writeTo_102 : decode cX3_writeTo 102 = .ok (.iconst 1, 1) := by decide +kernel
theorem dX3_writeTo_103 : decode cX3_writeTo 103 = .ok (.isub, 1) := by decide +kernel
theorem dX3_writeTo_104 : decode cX3_writeTo 104 = .ok (.aload_n 0, 1) := by decide +kernel
theorem dX3_writeTo_105 : decode cX3_writeTo 105 = .ok (.getfield 50, 3) := by decide +kernel
theorem dX3_writeTo_108 : decode cX3_writeTo 108 = .ok (.iastore, 1) := by decide +kernel
theorem dX3_writeTo_109 : decode cX3_writeTo 109 = .ok (.return_, 1) := by decide +kernel
theorem dX3_readFrom_0 : decode cX3_readFrom 0 = .ok (.iload_n 2, 1) := by decide +kernel
theorem dX3_readFrom_1 : decode cX3_readFrom 1 = .ok (.ifCond .lt 12, 3) := by decide +kernel
theorem dX3_readFrom_4 : decode cX3_readFrom 4 = .ok (.iload_n 2, 1) := by decide +kernel
theorem dX3_readFrom_5 : decode cX3_readFrom 5 = .ok (.bipush 21, 2) := by decide +kernel
theorem dX3_readFrom_7 : decode cX3_readFrom 7 = .ok (.iadd, 1) := by decide +kernel
theorem dX3_readFrom_8 : decode cX3_readFrom 8 = .ok (.aload_n 1, 1) := by decide +kernel
theorem dX3_readFrom_9 : decode cX3_readFrom 9 = .ok (.arraylength, 1) := by decide +kernel
theorem dX3_readFrom_10 : decode cX3_readFrom 10 = .ok (.if_icmp .le 4, 3) := by decide +kernel
theorem dX3_readFrom_13 : decode cX3_readFrom 13 = .ok (.return_, 1) := by decide +kernel
theorem dX3_readFrom_14 : decode cX3_readFrom 14 = .ok (.aload_n 1, 1) := by decide +kernel
theorem dX3_readFrom_15 : decode cX3_readFrom 15 = .ok (.iload_n 2, 1) := by decide +kernel
theorem dX3_readFrom_16 : decode cX3_readFrom 16 = .ok (.aload_n 0, 1) := by decide +kernel
theorem dX3_readFrom_17 : decode cX3_readFrom 17 = .ok (.getfield 15, 3) := by decide +kernel
theorem dX3_readFrom_20 : decode cX3_readFrom 20 = .ok (.iconst 0, 1) := by decide +kernel
theorem dX3_readFrom_21 : decode cX3_readFrom 21 = .ok (.aload_n 0, 1) := by decide +kernel
theorem dX3_readFrom_22 : decode cX3_readFrom 22 = .ok (.getfield 15, 3) := by decide +kernel
theorem dX3_readFrom_25 : decode cX3_readFrom 25 = .ok (.arraylength, 1) := by decide +kernel
theorem dX3_readFrom_26 : decode cX3_readFrom 26 = .ok (.invokestatic 53, 3) := by decide +kernel
theorem dX3_readFrom_29 : decode cX3_readFrom 29 = .ok (.aload_n 1, 1) := by decide +kernel
theorem dX3_readFrom_30 : decode cX3_readFrom 30 = .ok (.iload_n 2, 1) := by decide +kernel
theorem dX3_readFrom_31 : decode cX3_readFrom 31 = .ok (.aload_n 0, 1) := by decide +kernel
theorem dX3_readFrom_32 : decode cX3_readFrom 32 = .ok (.getfield 15, 3) := by decide +kernel
theorem dX3_readFrom_35 : decode cX3_readFrom 35 = .ok (.arraylength, 1) := by decide +kernel
theorem dX3_readFrom_36 : decode cX3_readFrom 36 = .ok (.iadd, 1) := by decide +kernel
theorem dX3_readFrom_37 : decode cX3_readFrom 37 = .ok (.aload_n 0, 1) := by decide +kernel
theorem dX3_readFrom_38 : decode cX3_readFrom 38 = .ok (.getfield 19, 3) := by decide +kernel
theorem dX3_readFrom_41 : decode cX3_readFrom 41 = .ok (.iconst 0, 1) := by decide +kernel
theorem dX3_readFrom_42 : decode cX3_readFrom 42 = .ok (.aload_n 0, 1) := by decide +kernel
theorem dX3_readFrom_43 : decode cX3_readFrom 43 = .ok (.getfield 19, 3) := by decide +kernel
theorem dX3_readFrom_46 : decode cX3_readFrom 46 = .ok (.arraylength, 1) := by decide +kernel
theorem dX3_readFrom_47 : decode cX3_readFrom 47 = .ok (.invokestatic 53, 3) := by decide +kernel
theorem dX3_readFrom_50 : decode cX3_readFrom 50 = .ok (.aload_n 1, 1) := by decide +kernel
theorem dX3_readFrom_51 : decode cX3_readFrom 51 = .ok (.iload_n 2, 1) := by decide +kernel
theorem dX3_readFrom_52 : decode cX3_readFrom 52 = .ok (.iconst 2, 1) := by decide +kernel
theorem dX3_readFrom_53 : decode cX3_readFrom 53 = .ok (.aload_n 0, 1) := by decide +kernel
theorem dX3_readFrom_54 : decode cX3_readFrom 54 = .ok (.getfield 15, 3) := by decide +kernel
theorem dX3_readFrom_57 : decode cX3_readFrom 57 = .ok (.arraylength, 1) := by decide +kernel
theorem dX3_readFrom_58 : decode cX3_readFrom 58 = .ok (.imul, 1) := by decide +kernel
theorem dX3_readFrom_59 : decode cX3_readFrom 59 = .ok (.iadd, 1) := by decide +kernel
theorem dX3_readFrom_60 : decode cX3_readFrom 60 = .ok (.aload_n 0, 1) := by decide +kernel
theorem dX3_readFrom_61 : decode cX3_readFrom 61 = .ok (.getfield 22, 3) := by decide +kernel
theorem dX3_readFrom_64 : decode cX3_readFrom 64 = .ok (.iconst 0, 1) := by decide +kernel
theorem dX3_readFrom_65 : decode cX3_readFrom 65 = .ok (.aload_n 0, 1) := by decide +kernel
theorem dX3_readFrom_66 : decode cX3_readFrom 66 = .ok (.getfield 22, 3) := by decide +kernel
theorem dX3_readFrom_69 : decode cX3_readFrom 69 = .ok (.arraylength, 1) := by decide +kernel
theorem dX3_readFrom_70 : decode cX3_readFrom 70 = .ok (.invokestatic 53, 3) := by decide +kernel
theorem dX3_readFrom_73 : decode cX3_readFrom 73 = .ok (.aload_n 0, 1) := by decide +kernel
theorem dX3_readFrom_74 : decode cX3_readFrom 74 = .ok (.aload_n 1, 1) := by decide +kernel
theorem dX3_readFrom_75 : decode cX3_readFrom 75 = .ok (.iload_n 2, 1) := by decide +kernel
theorem dX3_readFrom_76 : decode cX3_readFrom 76 = .ok (.bipush 21, 2) := by decide +kernel
theorem dX3_readFrom_78 : decode cX3_readFrom 78 = .ok (.iadd, 1) := by decide +kernel
theorem dX3_readFrom_79 : decode cX3_readFrom 79 = .ok (.iconst 3, 1) := by decide +kernel
theorem dX3_readFrom_80 : decode cX3_readFrom 80 = .ok (.isub, 1) := by decide +kernel
theorem dX3_readFrom_81 : decode cX3_readFrom 81 = .ok (.iaload, 1) := by decide +kernel
theorem dX3_readFrom_82 : decode cX3_readFrom 82 = .ok (.putfield 43, 3) := by decide +kernel
theorem dX3_readFrom_85 : decode cX3_readFrom 85 = .ok (.aload_n 0, 1) := by decide +kernel
theorem dX3_readFrom_86 : decode cX3_readFrom 86 = .ok (.aload_n 1, 1) := by decide +kernel
theorem dX3_readFrom_87 : decode cX3_readFrom 87 = .ok (.iload_n 2, 1) := by decide +kernel
theorem dX3_readFrom_88 : decode cX3_readFrom 88 = .ok (.bipush 21, 2) := by decide +kernel
theorem dX3_readFrom_90 : decode cX3_readFrom 90 = .ok (.iadd, 1) := by decide +kernel
theorem dX3_readFrom_91 : decode cX3_readFrom 91 = .ok (.iconst 2, 1) := by decide +kernel
theorem dX3_readFrom_92 : decode cX3_readFrom 92 = .ok (.isub, 1) := by decide +kernel
theorem dX3_readFrom_93 : decode cX3_readFrom 93 = .ok (.iaload, 1) := by decide +kernel
theorem dX3_readFrom_94 : decode cX3_readFrom 94 = .ok (.putfield 47, 3) := by decide +kernel
theorem dX3_readFrom_97 : decode cX3_readFrom 97 = .ok (.aload_n 0, 1) := by decide +kernel
theorem dX3_readFrom_98 : decode cX3_readFrom 98 = .ok (.aload_n 1, 1) := by decide +kernel
theorem dX3_readFrom_99 : decode cX3_readFrom 99 = .ok (.iload_n 2, 1) := by decide +kernel
theorem dX3_readFrom_100 : decode cX3_readFrom 100 = .ok (.bipush 21, 2) := by decide +kernel
theorem dX3_readFrom_102 : decode cX3_readFrom 102 = .ok (.iadd, 1) := by decide +kernel
theorem dX3_readFrom_103 : decode cX3_readFrom 103 = .ok (.iconst 1, 1) := by decide +kernel
theorem dX3_readFrom_104 : decode cX3_readFrom 104 = .ok (.isub, 1) := by decide +kernel
theorem dX3_readFrom_105 : decode cX3_readFrom 105 = .ok (.iaload, 1) := by decide +kernel
theorem dX3_readFrom_106 : decode cX3_readFrom 106 = .ok (.putfield 50, 3) := by decide +kernel
theorem dX3_readFrom_109 : decode cX3_readFrom 109 = .ok (.return_, 1) := by decide +kernel
theorem dX3_coins_0 : decode cX3_coins 0 = .ok (.aload_n 0, 1) := by decide +kernel
theorem dX3_coins_1 : decode cX3_coins 1 = .ok (.getfield 43, 3) := by decide +kernel
theorem dX3_coins_4 : decode cX3_coins 4 = .ok (.ireturn, 1) := by decide +kernel
theorem dX3_unrest_0 : decode cX3_unrest 0 = .ok (.aload_n 0, 1) := by decide +kernel
theorem dX3_unrest_1 : decode cX3_unrest 1 = .ok (.getfield 47, 3) := by decide +kernel
theorem dX3_unrest_4 : decode cX3_unrest 4 = .ok (.ireturn, 1) := by decide +kernel
theorem dX3_year_0 : decode cX3_year 0 = .ok (.aload_n 0, 1) := by decide +kernel
theorem dX3_year_1 : decode cX3_year 1 = .ok (.getfield 50, 3) := by decide +kernel
theorem dX3_year_4 : decode cX3_year 4 = .ok (.ireturn, 1) := by decide +kernel
theorem dX3_depth_0 : decode cX3_depth 0 = .ok (.aload_n 0, 1) := by decide +kernel
theorem dX3_depth_1 : decode cX3_depth 1 = .ok (.getfield 31, 3) := by decide +kernel
theorem dX3_depth_4 : decode cX3_depth 4 = .ok (.iload_n 1, 1) := by decide +kernel
theorem dX3_depth_5 : decode cX3_depth 5 = .ok (.invokevirtual 59, 3) := by decide +kernel
theorem dX3_depth_8 : decode cX3_depth 8 = .ok (.ifCond .eq 12, 3) := by decide +kernel
theorem dX3_depth_11 : decode cX3_depth 11 = .ok (.aload_n 0, 1) := by decide +kernel
theorem dX3_depth_12 : decode cX3_depth 12 = .ok (.getfield 22, 3) := by decide +kernel
theorem dX3_depth_15 : decode cX3_depth 15 = .ok (.iload_n 1, 1) := by decide +kernel
theorem dX3_depth_16 : decode cX3_depth 16 = .ok (.iaload, 1) := by decide +kernel
theorem dX3_depth_17 : decode cX3_depth 17 = .ok (.goto 4, 3) := by decide +kernel
theorem dX3_depth_20 : decode cX3_depth 20 = .ok (.iconst 0, 1) := by decide +kernel
theorem dX3_depth_21 : decode cX3_depth 21 = .ok (.ireturn, 1) := by decide +kernel
theorem dX3_wellOf_0 : decode cX3_wellOf 0 = .ok (.aload_n 0, 1) := by decide +kernel
theorem dX3_wellOf_1 : decode cX3_wellOf 1 = .ok (.getfield 31, 3) := by decide +kernel
theorem dX3_wellOf_4 : decode cX3_wellOf 4 = .ok (.iload_n 1, 1) := by decide +kernel
theorem dX3_wellOf_5 : decode cX3_wellOf 5 = .ok (.invokevirtual 63, 3) := by decide +kernel
theorem dX3_wellOf_8 : decode cX3_wellOf 8 = .ok (.ifCond .eq 12, 3) := by decide +kernel
theorem dX3_wellOf_11 : decode cX3_wellOf 11 = .ok (.aload_n 0, 1) := by decide +kernel
theorem dX3_wellOf_12 : decode cX3_wellOf 12 = .ok (.getfield 15, 3) := by decide +kernel
theorem dX3_wellOf_15 : decode cX3_wellOf 15 = .ok (.iload_n 1, 1) := by decide +kernel
theorem dX3_wellOf_16 : decode cX3_wellOf 16 = .ok (.iaload, 1) := by decide +kernel
theorem dX3_wellOf_17 : decode cX3_wellOf 17 = .ok (.goto 4, 3) := by decide +kernel
theorem dX3_wellOf_20 : decode cX3_wellOf 20 = .ok (.iconst (-1), 1) := by decide +kernel
theorem dX3_wellOf_21 : decode cX3_wellOf 21 = .ok (.ireturn, 1) := by decide +kernel
theorem dX3_isFree_0 : decode cX3_isFree 0 = .ok (.aload_n 0, 1) := by decide +kernel
theorem dX3_isFree_1 : decode cX3_isFree 1 = .ok (.iload_n 1, 1) := by decide +kernel
theorem dX3_isFree_2 : decode cX3_isFree 2 = .ok (.invokevirtual 66, 3) := by decide +kernel
theorem dX3_isFree_5 : decode cX3_isFree 5 = .ok (.iconst (-1), 1) := by decide +kernel
theorem dX3_isFree_6 : decode cX3_isFree 6 = .ok (.if_icmp .ne 7, 3) := by decide +kernel
theorem dX3_isFree_9 : decode cX3_isFree 9 = .ok (.iconst 1, 1) := by decide +kernel
theorem dX3_isFree_10 : decode cX3_isFree 10 = .ok (.goto 4, 3) := by decide +kernel
theorem dX3_isFree_13 : decode cX3_isFree 13 = .ok (.iconst 0, 1) := by decide +kernel
theorem dX3_isFree_14 : decode cX3_isFree 14 = .ok (.ireturn, 1) := by decide +kernel
theorem dX3_liesOver_0 : decode cX3_liesOver 0 = .ok (.aload_n 0, 1) := by decide +kernel
theorem dX3_liesOver_1 : decode cX3_liesOver 1 = .ok (.getfield 15, 3) := by decide +kernel
theorem dX3_liesOver_4 : decode cX3_liesOver 4 = .ok (.iload_n 1, 1) := by decide +kernel
theorem dX3_liesOver_5 : decode cX3_liesOver 5 = .ok (.iaload, 1) := by decide +kernel
theorem dX3_liesOver_6 : decode cX3_liesOver 6 = .ok (.iconst (-1), 1) := by decide +kernel
theorem dX3_liesOver_7 : decode cX3_liesOver 7 = .ok (.if_icmp .eq 37, 3) := by decide +kernel
theorem dX3_liesOver_10 : decode cX3_liesOver 10 = .ok (.aload_n 0, 1) := by decide +kernel
theorem dX3_liesOver_11 : decode cX3_liesOver 11 = .ok (.getfield 15, 3) := by decide +kernel
theorem dX3_liesOver_14 : decode cX3_liesOver 14 = .ok (.iload_n 1, 1) := by decide +kernel
theorem dX3_liesOver_15 : decode cX3_liesOver 15 = .ok (.iaload, 1) := by decide +kernel
theorem dX3_liesOver_16 : decode cX3_liesOver 16 = .ok (.aload_n 0, 1) := by decide +kernel
theorem dX3_liesOver_17 : decode cX3_liesOver 17 = .ok (.getfield 15, 3) := by decide +kernel
theorem dX3_liesOver_20 : decode cX3_liesOver 20 = .ok (.iload_n 2, 1) := by decide +kernel
theorem dX3_liesOver_21 : decode cX3_liesOver 21 = .ok (.iaload, 1) := by decide +kernel
theorem dX3_liesOver_22 : decode cX3_liesOver 22 = .ok (.if_icmp .ne 22, 3) := by decide +kernel
theorem dX3_liesOver_25 : decode cX3_liesOver 25 = .ok (.aload_n 0, 1) := by decide +kernel
theorem dX3_liesOver_26 : decode cX3_liesOver 26 = .ok (.getfield 19, 3) := by decide +kernel
theorem dX3_liesOver_29 : decode cX3_liesOver 29 = .ok (.iload_n 1, 1) := by decide +kernel
theorem dX3_liesOver_30 : decode cX3_liesOver 30 = .ok (.iaload, 1) := by decide +kernel
theorem dX3_liesOver_31 : decode cX3_liesOver 31 = .ok (.aload_n 0, 1) := by decide +kernel
theorem dX3_liesOver_32 : decode cX3_liesOver 32 = .ok (.getfield 19, 3) := by decide +kernel
theorem dX3_liesOver_35 : decode cX3_liesOver 35 = .ok (.iload_n 2, 1) := by decide +kernel
theorem dX3_liesOver_36 : decode cX3_liesOver 36 = .ok (.iaload, 1) := by decide +kernel
theorem dX3_liesOver_37 : decode cX3_liesOver 37 = .ok (.if_icmp .le 7, 3) := by decide +kernel
theorem dX3_liesOver_40 : decode cX3_liesOver 40 = .ok (.iconst 1, 1) := by decide +kernel
theorem dX3_liesOver_41 : decode cX3_liesOver 41 = .ok (.goto 4, 3) := by decide +kernel
theorem dX3_liesOver_44 : decode cX3_liesOver 44 = .ok (.iconst 0, 1) := by decide +kernel
theorem dX3_liesOver_45 : decode cX3_liesOver 45 = .ok (.ireturn, 1) := by decide +kernel
theorem dX3_inside_0 : decode cX3_inside 0 = .ok (.iconst 0, 1) := by decide +kernel
theorem dX3_inside_1 : decode cX3_inside 1 = .ok (.istore_n 2, 1) := by decide +kernel
theorem dX3_inside_2 : decode cX3_inside 2 = .ok (.iconst 0, 1) := by decide +kernel
theorem dX3_inside_3 : decode cX3_inside 3 = .ok (.istore_n 3, 1) := by decide +kernel
theorem dX3_inside_4 : decode cX3_inside 4 = .ok (.iload_n 3, 1) := by decide +kernel
theorem dX3_inside_5 : decode cX3_inside 5 = .ok (.aload_n 0, 1) := by decide +kernel
theorem dX3_inside_6 : decode cX3_inside 6 = .ok (.getfield 31, 3) := by decide +kernel
theorem dX3_inside_9 : decode cX3_inside 9 = .ok (.invokevirtual 68, 3) := by decide +kernel
theorem dX3_inside_12 : decode cX3_inside 12 = .ok (.if_icmp .ge 25, 3) := by decide +kernel
theorem dX3_inside_15 : decode cX3_inside 15 = .ok (.aload_n 0, 1) := by decide +kernel
theorem dX3_inside_16 : decode cX3_inside 16 = .ok (.getfield 15, 3) := by decide +kernel
theorem dX3_inside_19 : decode cX3_inside 19 = .ok (.iload_n 3, 1) := by decide +kernel
theorem dX3_inside_20 : decode cX3_inside 20 = .ok (.iaload, 1) := by decide +kernel
theorem dX3_inside_21 : decode cX3_inside 21 = .ok (.iload_n 1, 1) := by decide +kernel
theorem dX3_inside_22 : decode cX3_inside 22 = .ok (.if_icmp .ne 9, 3) := by decide +kernel
theorem dX3_inside_25 : decode cX3_inside 25 = .ok (.iload_n 2, 1) := by decide +kernel
theorem dX3_inside_26 : decode cX3_inside 26 = .ok (.iconst 1, 1) := by decide +kernel
theorem dX3_inside_27 : decode cX3_inside 27 = .ok (.iload_n 3, 1) := by decide +kernel
theorem dX3_inside_28 : decode cX3_inside 28 = .ok (.ishl, 1) := by decide +kernel
theorem dX3_inside_29 : decode cX3_inside 29 = .ok (.ior, 1) := by decide +kernel
theorem dX3_inside_30 : decode cX3_inside 30 = .ok (.istore_n 2, 1) := by decide +kernel
theorem dX3_inside_31 : decode cX3_inside 31 = .ok (.iinc 3 1, 3) := by decide +kernel
theorem dX3_inside_34 : decode cX3_inside 34 = .ok (.goto (-30), 3) := by decide +kernel
theorem dX3_inside_37 : decode cX3_inside 37 = .ok (.iload_n 2, 1) := by decide +kernel
theorem dX3_inside_38 : decode cX3_inside 38 = .ok (.ireturn, 1) := by decide +kernel
theorem dX3_drowned_0 : decode cX3_drowned 0 = .ok (.aload_n 0, 1) := by decide +kernel
theorem dX3_drowned_1 : decode cX3_drowned 1 = .ok (.getfield 31, 3) := by decide +kernel
theorem dX3_drowned_4 : decode cX3_drowned 4 = .ok (.invokevirtual 71, 3) := by decide +kernel
theorem dX3_drowned_7 : decode cX3_drowned 7 = .ok (.aload_n 0, 1) := by decide +kernel
theorem dX3_drowned_8 : decode cX3_drowned 8 = .ok (.iconst (-1), 1) := by decide +kernel
theorem dX3_drowned_9 : decode cX3_drowned 9 = .ok (.invokevirtual 74, 3) := by decide +kernel
theorem dX3_drowned_12 : decode cX3_drowned 12 = .ok (.iconst (-1), 1) := by decide +kernel
theorem dX3_drowned_13 : decode cX3_drowned 13 = .ok (.ixor, 1) := by decide +kernel
theorem dX3_drowned_14 : decode cX3_drowned 14 = .ok (.iand, 1) := by decide +kernel
theorem dX3_drowned_15 : decode cX3_drowned 15 = .ok (.ireturn, 1) := by decide +kernel
theorem dX3_free_0 : decode cX3_free 0 = .ok (.aload_n 0, 1) := by decide +kernel
theorem dX3_free_1 : decode cX3_free 1 = .ok (.iconst (-1), 1) := by decide +kernel
theorem dX3_free_2 : decode cX3_free 2 = .ok (.invokevirtual 74, 3) := by decide +kernel
theorem dX3_free_5 : decode cX3_free 5 = .ok (.ireturn, 1) := by decide +kernel
theorem dX3_room_0 : decode cX3_room 0 = .ok (.aload_n 0, 1) := by decide +kernel
theorem dX3_room_1 : decode cX3_room 1 = .ok (.iload_n 1, 1) := by decide +kernel
theorem dX3_room_2 : decode cX3_room 2 = .ok (.invokevirtual 77, 3) := by decide +kernel
theorem dX3_room_5 : decode cX3_room 5 = .ok (.aload_n 0, 1) := by decide +kernel
theorem dX3_room_6 : decode cX3_room 6 = .ok (.getfield 31, 3) := by decide +kernel
theorem dX3_room_9 : decode cX3_room 9 = .ok (.aload_n 0, 1) := by decide +kernel
theorem dX3_room_10 : decode cX3_room 10 = .ok (.iload_n 1, 1) := by decide +kernel
theorem dX3_room_11 : decode cX3_room 11 = .ok (.invokevirtual 74, 3) := by decide +kernel
theorem dX3_room_14 : decode cX3_room 14 = .ok (.invokevirtual 80, 3) := by decide +kernel
theorem dX3_room_17 : decode cX3_room 17 = .ok (.isub, 1) := by decide +kernel
theorem dX3_room_18 : decode cX3_room 18 = .ok (.ireturn, 1) := by decide +kernel
theorem dX3_takes_0 : decode cX3_takes 0 = .ok (.aload_n 0, 1) := by decide +kernel
theorem dX3_takes_1 : decode cX3_takes 1 = .ok (.getfield 31, 3) := by decide +kernel
theorem dX3_takes_4 : decode cX3_takes 4 = .ok (.iload_n 2, 1) := by decide +kernel
theorem dX3_takes_5 : decode cX3_takes 5 = .ok (.iload_n 1, 1) := by decide +kernel
theorem dX3_takes_6 : decode cX3_takes 6 = .ok (.invokevirtual 83, 3) := by decide +kernel
theorem dX3_takes_9 : decode cX3_takes 9 = .ok (.ifCond .eq 23, 3) := by decide +kernel
theorem dX3_takes_12 : decode cX3_takes 12 = .ok (.aload_n 0, 1) := by decide +kernel
theorem dX3_takes_13 : decode cX3_takes 13 = .ok (.getfield 31, 3) := by decide +kernel
theorem dX3_takes_16 : decode cX3_takes 16 = .ok (.iload_n 2, 1) := by decide +kernel
theorem dX3_takes_17 : decode cX3_takes 17 = .ok (.invokevirtual 87, 3) := by decide +kernel
theorem dX3_takes_20 : decode cX3_takes 20 = .ok (.aload_n 0, 1) := by decide +kernel
theorem dX3_takes_21 : decode cX3_takes 21 = .ok (.iload_n 1, 1) := by decide +kernel
theorem dX3_takes_22 : decode cX3_takes 22 = .ok (.invokevirtual 90, 3) := by decide +kernel
theorem dX3_takes_25 : decode cX3_takes 25 = .ok (.if_icmp .gt 7, 3) := by decide +kernel
theorem dX3_takes_28 : decode cX3_takes 28 = .ok (.iconst 1, 1) := by decide +kernel
theorem dX3_takes_29 : decode cX3_takes 29 = .ok (.goto 4, 3) := by decide +kernel
theorem dX3_takes_32 : decode cX3_takes 32 = .ok (.iconst 0, 1) := by decide +kernel
theorem dX3_takes_33 : decode cX3_takes 33 = .ok (.ireturn, 1) := by decide +kernel
theorem dX3_lyingAt_0 : decode cX3_lyingAt 0 = .ok (.iconst 0, 1) := by decide +kernel
theorem dX3_lyingAt_1 : decode cX3_lyingAt 1 = .ok (.istore_n 3, 1) := by decide +kernel
theorem dX3_lyingAt_2 : decode cX3_lyingAt 2 = .ok (.iload_n 3, 1) := by decide +kernel
theorem dX3_lyingAt_3 : decode cX3_lyingAt 3 = .ok (.aload_n 0, 1) := by decide +kernel
theorem dX3_lyingAt_4 : decode cX3_lyingAt 4 = .ok (.getfield 31, 3) := by decide +kernel
theorem dX3_lyingAt_7 : decode cX3_lyingAt 7 = .ok (.invokevirtual 68, 3) := by decide +kernel
theorem dX3_lyingAt_10 : decode cX3_lyingAt 10 = .ok (.if_icmp .ge 31, 3) := by decide +kernel
theorem dX3_lyingAt_13 : decode cX3_lyingAt 13 = .ok (.aload_n 0, 1) := by decide +kernel
theorem dX3_lyingAt_14 : decode cX3_lyingAt 14 = .ok (.getfield 15, 3) := by decide +kernel
theorem dX3_lyingAt_17 : decode cX3_lyingAt 17 = .ok (.iload_n 3, 1) := by decide +kernel
theorem dX3_lyingAt_18 : decode cX3_lyingAt 18 = .ok (.iaload, 1) := by decide +kernel
theorem dX3_lyingAt_19 : decode cX3_lyingAt 19 = .ok (.iload_n 1, 1) := by decide +kernel
theorem dX3_lyingAt_20 : decode cX3_lyingAt 20 = .ok (.if_icmp .ne 15, 3) := by decide +kernel
theorem dX3_lyingAt_23 : decode cX3_lyingAt 23 = .ok (.aload_n 0, 1) := by decide +kernel
theorem dX3_lyingAt_24 : decode cX3_lyingAt 24 = .ok (.getfield 19, 3) := by decide +kernel
theorem dX3_lyingAt_27 : decode cX3_lyingAt 27 = .ok (.iload_n 3, 1) := by decide +kernel
theorem dX3_lyingAt_28 : decode cX3_lyingAt 28 = .ok (.iaload, 1) := by decide +kernel
theorem dX3_lyingAt_29 : decode cX3_lyingAt 29 = .ok (.iload_n 2, 1) := by decide +kernel
theorem dX3_lyingAt_30 : decode cX3_lyingAt 30 = .ok (.if_icmp .ne 5, 3) := by decide +kernel
theorem dX3_lyingAt_33 : decode cX3_lyingAt 33 = .ok (.iload_n 3, 1) := by decide +kernel
theorem dX3_lyingAt_34 : decode cX3_lyingAt 34 = .ok (.ireturn, 1) := by decide +kernel
theorem dX3_lyingAt_35 : decode cX3_lyingAt 35 = .ok (.iinc 3 1, 3) := by decide +kernel
theorem dX3_lyingAt_38 : decode cX3_lyingAt 38 = .ok (.goto (-36), 3) := by decide +kernel
theorem dX3_lyingAt_41 : decode cX3_lyingAt 41 = .ok (.iconst (-1), 1) := by decide +kernel
theorem dX3_lyingAt_42 : decode cX3_lyingAt 42 = .ok (.ireturn, 1) := by decide +kernel
theorem dX3_above_0 : decode cX3_above 0 = .ok (.iconst 0, 1) := by decide +kernel
theorem dX3_above_1 : decode cX3_above 1 = .ok (.istore_n 3, 1) := by decide +kernel
theorem dX3_above_2 : decode cX3_above 2 = .ok (.iconst 0, 1) := by decide +kernel
theorem dX3_above_3 : decode cX3_above 3 = .ok (.istore 4, 2) := by decide +kernel
theorem dX3_above_5 : decode cX3_above 5 = .ok (.iload 4, 2) := by decide +kernel
theorem dX3_above_7 : decode cX3_above 7 = .ok (.aload_n 0, 1) := by decide +kernel
theorem dX3_above_8 : decode cX3_above 8 = .ok (.getfield 31, 3) := by decide +kernel
theorem dX3_above_11 : decode cX3_above 11 = .ok (.invokevirtual 68, 3) := by decide +kernel
theorem dX3_above_14 : decode cX3_above 14 = .ok (.if_icmp .ge 36, 3) := by decide +kernel
theorem dX3_above_17 : decode cX3_above 17 = .ok (.iload_n 2, 1) := by decide +kernel
theorem dX3_above_18 : decode cX3_above 18 = .ok (.iload 4, 2) := by decide +kernel
theorem dX3_above_20 : decode cX3_above 20 = .ok (.ishr, 1) := by decide +kernel
theorem dX3_above_21 : decode cX3_above 21 = .ok (.iconst 1, 1) := by decide +kernel
theorem dX3_above_22 : decode cX3_above 22 = .ok (.iand, 1) := by decide +kernel
theorem dX3_above_23 : decode cX3_above 23 = .ok (.iconst 1, 1) := by decide +kernel
theorem dX3_above_24 : decode cX3_above 24 = .ok (.if_icmp .ne 20, 3) := by decide +kernel
theorem dX3_above_27 : decode cX3_above 27 = .ok (.aload_n 0, 1) := by decide +kernel
theorem dX3_above_28 : decode cX3_above 28 = .ok (.iload 4, 2) := by decide +kernel
theorem dX3_above_30 : decode cX3_above 30 = .ok (.iload_n 1, 1) := by decide +kernel
theorem dX3_above_31 : decode cX3_above 31 = .ok (.invokevirtual 93, 3) := by decide +kernel
theorem dX3_above_34 : decode cX3_above 34 = .ok (.ifCond .eq 10, 3) := by decide +kernel
theorem dX3_above_37 : decode cX3_above 37 = .ok (.iload_n 3, 1) := by decide +kernel
theorem dX3_above_38 : decode cX3_above 38 = .ok (.iconst 1, 1) := by decide +kernel
theorem dX3_above_39 : decode cX3_above 39 = .ok (.iload 4, 2) := by decide +kernel
theorem dX3_above_41 : decode cX3_above 41 = .ok (.ishl, 1) := by decide +kernel
theorem dX3_above_42 : decode cX3_above 42 = .ok (.ior, 1) := by decide +kernel
theorem dX3_above_43 : decode cX3_above 43 = .ok (.istore_n 3, 1) := by decide +kernel
theorem dX3_above_44 : decode cX3_above 44 = .ok (.iinc 4 1, 3) := by decide +kernel
theorem dX3_above_47 : decode cX3_above 47 = .ok (.goto (-42), 3) := by decide +kernel
theorem dX3_above_50 : decode cX3_above 50 = .ok (.aload_n 0, 1) := by decide +kernel
theorem dX3_above_51 : decode cX3_above 51 = .ok (.getfield 31, 3) := by decide +kernel
theorem dX3_above_54 : decode cX3_above 54 = .ok (.iload_n 3, 1) := by decide +kernel
theorem dX3_above_55 : decode cX3_above 55 = .ok (.invokevirtual 80, 3) := by decide +kernel
theorem dX3_above_58 : decode cX3_above 58 = .ok (.ireturn, 1) := by decide +kernel
theorem dX3_comesUp_0 : decode cX3_comesUp 0 = .ok (.iconst (-1), 1) := by decide +kernel
theorem dX3_comesUp_1 : decode cX3_comesUp 1 = .ok (.istore 4, 2) := by decide +kernel
theorem dX3_comesUp_3 : decode cX3_comesUp 3 = .ok (.iconst 0, 1) := by decide +kernel
theorem dX3_comesUp_4 : decode cX3_comesUp 4 = .ok (.istore 5, 2) := by decide +kernel
theorem dX3_comesUp_6 : decode cX3_comesUp 6 = .ok (.iload 5, 2) := by decide +kernel
theorem dX3_comesUp_8 : decode cX3_comesUp 8 = .ok (.aload_n 0, 1) := by decide +kernel
theorem dX3_comesUp_9 : decode cX3_comesUp 9 = .ok (.getfield 31, 3) := by decide +kernel
theorem dX3_comesUp_12 : decode cX3_comesUp 12 = .ok (.invokevirtual 68, 3) := by decide +kernel
theorem dX3_comesUp_15 : decode cX3_comesUp 15 = .ok (.if_icmp .ge 72, 3) := by decide +kernel
theorem dX3_comesUp_18 : decode cX3_comesUp 18 = .ok (.iload_n 3, 1) := by decide +kernel
theorem dX3_comesUp_19 : decode cX3_comesUp 19 = .ok (.iload 5, 2) := by decide +kernel
theorem dX3_comesUp_21 : decode cX3_comesUp 21 = .ok (.ishr, 1) := by decide +kernel
theorem dX3_comesUp_22 : decode cX3_comesUp 22 = .ok (.iconst 1, 1) := by decide +kernel
theorem dX3_comesUp_23 : decode cX3_comesUp 23 = .ok (.iand, 1) := by decide +kernel
theorem dX3_comesUp_24 : decode cX3_comesUp 24 = .ok (.iconst 1, 1) := by decide +kernel
theorem dX3_comesUp_25 : decode cX3_comesUp 25 = .ok (.if_icmp .ne 56, 3) := by decide +kernel
theorem dX3_comesUp_28 : decode cX3_comesUp 28 = .ok (.aload_n 0, 1) := by decide +kernel
theorem dX3_comesUp_29 : decode cX3_comesUp 29 = .ok (.getfield 15, 3) := by decide +kernel
theorem dX3_comesUp_32 : decode cX3_comesUp 32 = .ok (.iload 5, 2) := by decide +kernel
theorem dX3_comesUp_34 : decode cX3_comesUp 34 = .ok (.iaload, 1) := by decide +kernel
theorem dX3_comesUp_35 : decode cX3_comesUp 35 = .ok (.iload_n 1, 1) := by decide +kernel
theorem dX3_comesUp_36 : decode cX3_comesUp 36 = .ok (.if_icmp .ne 45, 3) := by decide +kernel
theorem dX3_comesUp_39 : decode cX3_comesUp 39 = .ok (.iload 4, 2) := by decide +kernel
theorem dX3_comesUp_41 : decode cX3_comesUp 41 = .ok (.iconst (-1), 1) := by decide +kernel
theorem dX3_comesUp_42 : decode cX3_comesUp 42 = .ok (.if_icmp .eq 14, 3) := by decide +kernel
theorem dX3_comesUp_45 : decode cX3_comesUp 45 = .ok (.aload_n 0, 1) := by decide +kernel
theorem dX3_comesUp_46 : decode cX3_comesUp 46 = .ok (.iload 4, 2) := by decide +kernel
theorem dX3_comesUp_48 : decode cX3_comesUp 48 = .ok (.iload 5, 2) := by decide +kernel
theorem dX3_comesUp_50 : decode cX3_comesUp 50 = .ok (.invokevirtual 93, 3) := by decide +kernel
theorem dX3_comesUp_53 : decode cX3_comesUp 53 = .ok (.ifCond .eq 28, 3) := by decide +kernel
theorem dX3_comesUp_56 : decode cX3_comesUp 56 = .ok (.aload_n 0, 1) := by decide +kernel
theorem dX3_comesUp_57 : decode cX3_comesUp 57 = .ok (.iload 5, 2) := by decide +kernel
theorem dX3_comesUp_59 : decode cX3_comesUp 59 = .ok (.iload_n 3, 1) := by decide +kernel
theorem dX3_comesUp_60 : decode cX3_comesUp 60 = .ok (.invokevirtual 96, 3) := by decide +kernel
theorem dX3_comesUp_63 : decode cX3_comesUp 63 = .ok (.aload_n 0, 1) := by decide +kernel
theorem dX3_comesUp_64 : decode cX3_comesUp 64 = .ok (.getfield 31, 3) := by decide +kernel
theorem dX3_comesUp_67 : decode cX3_comesUp 67 = .ok (.iload 5, 2) := by decide +kernel
theorem dX3_comesUp_69 : decode cX3_comesUp 69 = .ok (.invokevirtual 87, 3) := by decide +kernel
theorem dX3_comesUp_72 : decode cX3_comesUp 72 = .ok (.iadd, 1) := by decide +kernel
theorem dX3_comesUp_73 : decode cX3_comesUp 73 = .ok (.iload_n 2, 1) := by decide +kernel
theorem dX3_comesUp_74 : decode cX3_comesUp 74 = .ok (.if_icmp .gt 7, 3) := by decide +kernel
theorem dX3_comesUp_77 : decode cX3_comesUp 77 = .ok (.iload 5, 2) := by decide +kernel
theorem dX3_comesUp_79 : decode cX3_comesUp 79 = .ok (.istore 4, 2) := by decide +kernel
theorem dX3_comesUp_81 : decode cX3_comesUp 81 = .ok (.iinc 5 1, 3) := by decide +kernel
theorem dX3_comesUp_84 : decode cX3_comesUp 84 = .ok (.goto (-78), 3) := by decide +kernel
theorem dX3_comesUp_87 : decode cX3_comesUp 87 = .ok (.iload 4, 2) := by decide +kernel
theorem dX3_comesUp_89 : decode cX3_comesUp 89 = .ok (.ireturn, 1) := by decide +kernel
theorem dX3_drown_0 : decode cX3_drown 0 = .ok (.aload_n 0, 1) := by decide +kernel
theorem dX3_drown_1 : decode cX3_drown 1 = .ok (.getfield 31, 3) := by decide +kernel
theorem dX3_drown_4 : decode cX3_drown 4 = .ok (.iload_n 1, 1) := by decide +kernel
theorem dX3_drown_5 : decode cX3_drown 5 = .ok (.invokevirtual 63, 3) := by decide +kernel
theorem dX3_drown_8 : decode cX3_drown 8 = .ok (.ifCond .eq 24, 3) := by decide +kernel
theorem dX3_drown_11 : decode cX3_drown 11 = .ok (.aload_n 0, 1) := by decide +kernel
theorem dX3_drown_12 : decode cX3_drown 12 = .ok (.getfield 19, 3) := by decide +kernel
theorem dX3_drown_15 : decode cX3_drown 15 = .ok (.iload_n 1, 1) := by decide +kernel
theorem dX3_drown_16 : decode cX3_drown 16 = .ok (.aload_n 0, 1) := by decide +kernel
theorem dX3_drown_17 : decode cX3_drown 17 = .ok (.iload_n 2, 1) := by decide +kernel
theorem dX3_drown_18 : decode cX3_drown 18 = .ok (.invokevirtual 74, 3) := by decide +kernel
theorem dX3_drown_21 : decode cX3_drown 21 = .ok (.invokestatic 100, 3) := by decide +kernel
theorem dX3_drown_24 : decode cX3_drown 24 = .ok (.iastore, 1) := by decide +kernel
theorem dX3_drown_25 : decode cX3_drown 25 = .ok (.aload_n 0, 1) := by decide +kernel
theorem dX3_drown_26 : decode cX3_drown 26 = .ok (.getfield 15, 3) := by decide +kernel
theorem dX3_drown_29 : decode cX3_drown 29 = .ok (.iload_n 1, 1) := by decide +kernel
theorem dX3_drown_30 : decode cX3_drown 30 = .ok (.iload_n 2, 1) := by decide +kernel
theorem dX3_drown_31 : decode cX3_drown 31 = .ok (.iastore, 1) := by decide +kernel
theorem dX3_drown_32 : decode cX3_drown 32 = .ok (.return_, 1) := by decide +kernel
theorem dX3_scratchUp_0 : decode cX3_scratchUp 0 = .ok (.aload_n 0, 1) := by decide +kernel
theorem dX3_scratchUp_1 : decode cX3_scratchUp 1 = .ok (.iload_n 1, 1) := by decide +kernel
theorem dX3_scratchUp_2 : decode cX3_scratchUp 2 = .ok (.iload_n 2, 1) := by decide +kernel
theorem dX3_scratchUp_3 : decode cX3_scratchUp 3 = .ok (.aload_n 0, 1) := by decide +kernel
theorem dX3_scratchUp_4 : decode cX3_scratchUp 4 = .ok (.invokevirtual 105, 3) := by decide +kernel
theorem dX3_scratchUp_7 : decode cX3_scratchUp 7 = .ok (.invokevirtual 108, 3) := by decide +kernel
theorem dX3_scratchUp_10 : decode cX3_scratchUp 10 = .ok (.istore_n 3, 1) := by decide +kernel
theorem dX3_scratchUp_11 : decode cX3_scratchUp 11 = .ok (.aload_n 0, 1) := by decide +kernel
theorem dX3_scratchUp_12 : decode cX3_scratchUp 12 = .ok (.iload_n 3, 1) := by decide +kernel
theorem dX3_scratchUp_13 : decode cX3_scratchUp 13 = .ok (.invokevirtual 112, 3) := by decide +kernel
theorem dX3_scratchUp_16 : decode cX3_scratchUp 16 = .ok (.iload_n 3, 1) := by decide +kernel
theorem dX3_scratchUp_17 : decode cX3_scratchUp 17 = .ok (.ireturn, 1) := by decide +kernel
theorem dX3_liftUppermost_0 : decode cX3_liftUppermost 0 = .ok (.aload_n 0, 1) := by decide +kernel
theorem dX3_liftUppermost_1 : decode cX3_liftUppermost 1 = .ok (.iload_n 1, 1) := by decide +kernel
theorem dX3_liftUppermost_2 : decode cX3_liftUppermost 2 = .ok (.aload_n 0, 1) := by decide +kernel
theorem dX3_liftUppermost_3 : decode cX3_liftUppermost 3 = .ok (.iload_n 1, 1) := by decide +kernel
theorem dX3_liftUppermost_4 : decode cX3_liftUppermost 4 = .ok (.invokevirtual 74, 3) := by decide +kernel
theorem dX3_liftUppermost_7 : decode cX3_liftUppermost 7 = .ok (.invokestatic 100, 3) := by decide +kernel
theorem dX3_liftUppermost_10 : decode cX3_liftUppermost 10 = .ok (.iconst 1, 1) := by decide +kernel
theorem dX3_liftUppermost_11 : decode cX3_liftUppermost 11 = .ok (.isub, 1) := by decide +kernel
theorem dX3_liftUppermost_12 : decode cX3_liftUppermost 12 = .ok (.invokevirtual 116, 3) := by decide +kernel
theorem dX3_liftUppermost_15 : decode cX3_liftUppermost 15 = .ok (.istore_n 2, 1) := by decide +kernel
theorem dX3_liftUppermost_16 : decode cX3_liftUppermost 16 = .ok (.aload_n 0, 1) := by decide +kernel
theorem dX3_liftUppermost_17 : decode cX3_liftUppermost 17 = .ok (.iload_n 2, 1) := by decide +kernel
theorem dX3_liftUppermost_18 : decode cX3_liftUppermost 18 = .ok (.invokevirtual 112, 3) := by decide +kernel
theorem dX3_liftUppermost_21 : decode cX3_liftUppermost 21 = .ok (.iload_n 2, 1) := by decide +kernel
theorem dX3_liftUppermost_22 : decode cX3_liftUppermost 22 = .ok (.ireturn, 1) := by decide +kernel
theorem dX3_liftAll_0 : decode cX3_liftAll 0 = .ok (.iconst 0, 1) := by decide +kernel
theorem dX3_liftAll_1 : decode cX3_liftAll 1 = .ok (.istore_n 2, 1) := by decide +kernel
theorem dX3_liftAll_2 : decode cX3_liftAll 2 = .ok (.iconst 0, 1) := by decide +kernel
theorem dX3_liftAll_3 : decode cX3_liftAll 3 = .ok (.istore_n 3, 1) := by decide +kernel
theorem dX3_liftAll_4 : decode cX3_liftAll 4 = .ok (.iload_n 3, 1) := by decide +kernel
theorem dX3_liftAll_5 : decode cX3_liftAll 5 = .ok (.aload_n 0, 1) := by decide +kernel
theorem dX3_liftAll_6 : decode cX3_liftAll 6 = .ok (.getfield 31, 3) := by decide +kernel
theorem dX3_liftAll_9 : decode cX3_liftAll 9 = .ok (.invokevirtual 68, 3) := by decide +kernel
theorem dX3_liftAll_12 : decode cX3_liftAll 12 = .ok (.if_icmp .ge 27, 3) := by decide +kernel
theorem dX3_liftAll_15 : decode cX3_liftAll 15 = .ok (.aload_n 0, 1) := by decide +kernel
theorem dX3_liftAll_16 : decode cX3_liftAll 16 = .ok (.getfield 15, 3) := by decide +kernel
theorem dX3_liftAll_19 : decode cX3_liftAll 19 = .ok (.iload_n 3, 1) := by decide +kernel
theorem dX3_liftAll_20 : decode cX3_liftAll 20 = .ok (.iaload, 1) := by decide +kernel
theorem dX3_liftAll_21 : decode cX3_liftAll 21 = .ok (.iload_n 1, 1) := by decide +kernel
theorem dX3_liftAll_22 : decode cX3_liftAll 22 = .ok (.if_icmp .ne 11, 3) := by decide +kernel
theorem dX3_liftAll_25 : decode cX3_liftAll 25 = .ok (.aload_n 0, 1) := by decide +kernel
theorem dX3_liftAll_26 : decode cX3_liftAll 26 = .ok (.iload_n 3, 1) := by decide +kernel
theorem dX3_liftAll_27 : decode cX3_liftAll 27 = .ok (.invokevirtual 112, 3) := by decide +kernel
theorem dX3_liftAll_30 : decode cX3_liftAll 30 = .ok (.iinc 2 1, 3) := by decide +kernel
theorem dX3_liftAll_33 : decode cX3_liftAll 33 = .ok (.iinc 3 1, 3) := by decide +kernel
theorem dX3_liftAll_36 : decode cX3_liftAll 36 = .ok (.goto (-32), 3) := by decide +kernel
theorem dX3_liftAll_39 : decode cX3_liftAll 39 = .ok (.iload_n 2, 1) := by decide +kernel
theorem dX3_liftAll_40 : decode cX3_liftAll 40 = .ok (.ireturn, 1) := by decide +kernel
theorem dX3_lift_0 : decode cX3_lift 0 = .ok (.aload_n 0, 1) := by decide +kernel
theorem dX3_lift_1 : decode cX3_lift 1 = .ok (.iload_n 1, 1) := by decide +kernel
theorem dX3_lift_2 : decode cX3_lift 2 = .ok (.invokevirtual 119, 3) := by decide +kernel
theorem dX3_lift_5 : decode cX3_lift 5 = .ok (.ifCond .eq 4, 3) := by decide +kernel
theorem dX3_lift_8 : decode cX3_lift 8 = .ok (.return_, 1) := by decide +kernel
theorem dX3_lift_9 : decode cX3_lift 9 = .ok (.iconst 0, 1) := by decide +kernel
theorem dX3_lift_10 : decode cX3_lift 10 = .ok (.istore_n 2, 1) := by decide +kernel
theorem dX3_lift_11 : decode cX3_lift 11 = .ok (.iload_n 2, 1) := by decide +kernel
theorem dX3_lift_12 : decode cX3_lift 12 = .ok (.aload_n 0, 1) := by decide +kernel
theorem dX3_lift_13 : decode cX3_lift 13 = .ok (.getfield 31, 3) := by decide +kernel
theorem dX3_lift_16 : decode cX3_lift 16 = .ok (.invokevirtual 68, 3) := by decide +kernel
theorem dX3_lift_19 : decode cX3_lift 19 = .ok (.if_icmp .ge 28, 3) := by decide +kernel
theorem dX3_lift_22 : decode cX3_lift 22 = .ok (.aload_n 0, 1) := by decide +kernel
theorem dX3_lift_23 : decode cX3_lift 23 = .ok (.iload_n 2, 1) := by decide +kernel
theorem dX3_lift_24 : decode cX3_lift 24 = .ok (.iload_n 1, 1) := by decide +kernel
theorem dX3_lift_25 : decode cX3_lift 25 = .ok (.invokevirtual 93, 3) := by decide +kernel
theorem dX3_lift_28 : decode cX3_lift 28 = .ok (.ifCond .eq 13, 3) := by decide +kernel
theorem dX3_lift_31 : decode cX3_lift 31 = .ok (.aload_n 0, 1) := by decide +kernel
theorem dX3_lift_32 : decode cX3_lift 32 = .ok (.getfield 19, 3) := by decide +kernel
theorem dX3_lift_35 : decode cX3_lift 35 = .ok (.iload_n 2, 1) := by decide +kernel
theorem dX3_lift_36 : decode cX3_lift 36 = .ok (.dup2, 1) := by decide +kernel
theorem dX3_lift_37 : decode cX3_lift 37 = .ok (.iaload, 1) := by decide +kernel
theorem dX3_lift_38 : decode cX3_lift 38 = .ok (.iconst 1, 1) := by decide +kernel
theorem dX3_lift_39 : decode cX3_lift 39 = .ok (.isub, 1) := by decide +kernel
theorem dX3_lift_40 : decode cX3_lift 40 = .ok (.iastore, 1) := by decide +kernel
theorem dX3_lift_41 : decode cX3_lift 41 = .ok (.iinc 2 1, 3) := by decide +kernel
theorem dX3_lift_44 : decode cX3_lift 44 = .ok (.goto (-33), 3) := by decide +kernel
theorem dX3_lift_47 : decode cX3_lift 47 = .ok (.aload_n 0, 1) := by decide +kernel
theorem dX3_lift_48 : decode cX3_lift 48 = .ok (.getfield 15, 3) := by decide +kernel
theorem dX3_lift_51 : decode cX3_lift 51 = .ok (.iload_n 1, 1) := by decide +kernel
theorem dX3_lift_52 : decode cX3_lift 52 = .ok (.iconst (-1), 1) := by decide +kernel
theorem dX3_lift_53 : decode cX3_lift 53 = .ok (.iastore, 1) := by decide +kernel
theorem dX3_lift_54 : decode cX3_lift 54 = .ok (.aload_n 0, 1) := by decide +kernel
theorem dX3_lift_55 : decode cX3_lift 55 = .ok (.getfield 19, 3) := by decide +kernel
theorem dX3_lift_58 : decode cX3_lift 58 = .ok (.iload_n 1, 1) := by decide +kernel
theorem dX3_lift_59 : decode cX3_lift 59 = .ok (.iconst 0, 1) := by decide +kernel
theorem dX3_lift_60 : decode cX3_lift 60 = .ok (.iastore, 1) := by decide +kernel
theorem dX3_lift_61 : decode cX3_lift 61 = .ok (.return_, 1) := by decide +kernel
theorem dX3_pay_0 : decode cX3_pay 0 = .ok (.aload_n 0, 1) := by decide +kernel
theorem dX3_pay_1 : decode cX3_pay 1 = .ok (.dup, 1) := by decide +kernel
theorem dX3_pay_2 : decode cX3_pay 2 = .ok (.getfield 43, 3) := by decide +kernel
theorem dX3_pay_5 : decode cX3_pay 5 = .ok (.iload_n 1, 1) := by decide +kernel
theorem dX3_pay_6 : decode cX3_pay 6 = .ok (.isub, 1) := by decide +kernel
theorem dX3_pay_7 : decode cX3_pay 7 = .ok (.putfield 43, 3) := by decide +kernel
theorem dX3_pay_10 : decode cX3_pay 10 = .ok (.return_, 1) := by decide +kernel
theorem dX3_earn_0 : decode cX3_earn 0 = .ok (.aload_n 0, 1) := by decide +kernel
theorem dX3_earn_1 : decode cX3_earn 1 = .ok (.sipush 999, 3) := by decide +kernel
theorem dX3_earn_4 : decode cX3_earn 4 = .ok (.aload_n 0, 1) := by decide +kernel
theorem dX3_earn_5 : decode cX3_earn 5 = .ok (.getfield 43, 3) := by decide +kernel
theorem dX3_earn_8 : decode cX3_earn 8 = .ok (.iload_n 1, 1) := by decide +kernel
theorem dX3_earn_9 : decode cX3_earn 9 = .ok (.iadd, 1) := by decide +kernel
theorem dX3_earn_10 : decode cX3_earn 10 = .ok (.invokestatic 122, 3) := by decide +kernel
theorem dX3_earn_13 : decode cX3_earn 13 = .ok (.putfield 43, 3) := by decide +kernel
theorem dX3_earn_16 : decode cX3_earn 16 = .ok (.return_, 1) := by decide +kernel
theorem dX3_deepen_0 : decode cX3_deepen 0 = .ok (.aload_n 0, 1) := by decide +kernel
theorem dX3_deepen_1 : decode cX3_deepen 1 = .ok (.getfield 31, 3) := by decide +kernel
theorem dX3_deepen_4 : decode cX3_deepen 4 = .ok (.iload_n 1, 1) := by decide +kernel
theorem dX3_deepen_5 : decode cX3_deepen 5 = .ok (.invokevirtual 59, 3) := by decide +kernel
theorem dX3_deepen_8 : decode cX3_deepen 8 = .ok (.ifCond .eq 13, 3) := by decide +kernel
theorem dX3_deepen_11 : decode cX3_deepen 11 = .ok (.aload_n 0, 1) := by decide +kernel
theorem dX3_deepen_12 : decode cX3_deepen 12 = .ok (.getfield 22, 3) := by decide +kernel
theorem dX3_deepen_15 : decode cX3_deepen 15 = .ok (.iload_n 1, 1) := by decide +kernel
theorem dX3_deepen_16 : decode cX3_deepen 16 = .ok (.dup2, 1) := by decide +kernel
theorem dX3_deepen_17 : decode cX3_deepen 17 = .ok (.iaload, 1) := by decide +kernel
theorem dX3_deepen_18 : decode cX3_deepen 18 = .ok (.iconst 1, 1) := by decide +kernel
theorem dX3_deepen_19 : decode cX3_deepen 19 = .ok (.iadd, 1) := by decide +kernel
theorem dX3_deepen_20 : decode cX3_deepen 20 = .ok (.iastore, 1) := by decide +kernel
theorem dX3_deepen_21 : decode cX3_deepen 21 = .ok (.return_, 1) := by decide +kernel
theorem dX3_passYear_0 : decode cX3_passYear 0 = .ok (.aload_n 0, 1) := by decide +kernel
theorem dX3_passYear_1 : decode cX3_passYear 1 = .ok (.sipush 9999, 3) := by decide +kernel
theorem dX3_passYear_4 : decode cX3_passYear 4 = .ok (.aload_n 0, 1) := by decide +kernel
theorem dX3_passYear_5 : decode cX3_passYear 5 = .ok (.getfield 47, 3) := by decide +kernel
theorem dX3_passYear_8 : decode cX3_passYear 8 = .ok (.iload_n 1, 1) := by decide +kernel
theorem dX3_passYear_9 : decode cX3_passYear 9 = .ok (.iadd, 1) := by decide +kernel
theorem dX3_passYear_10 : decode cX3_passYear 10 = .ok (.invokestatic 122, 3) := by decide +kernel
theorem dX3_passYear_13 : decode cX3_passYear 13 = .ok (.putfield 47, 3) := by decide +kernel
theorem dX3_passYear_16 : decode cX3_passYear 16 = .ok (.aload_n 0, 1) := by decide +kernel
theorem dX3_passYear_17 : decode cX3_passYear 17 = .ok (.aload_n 0, 1) := by decide +kernel
theorem dX3_passYear_18 : decode cX3_passYear 18 = .ok (.invokevirtual 127, 3) := by decide +kernel
theorem dX3_passYear_21 : decode cX3_passYear 21 = .ok (.invokestatic 100, 3) := by decide +kernel
theorem dX3_passYear_24 : decode cX3_passYear 24 = .ok (.invokevirtual 130, 3) := by decide +kernel
theorem dX3_passYear_27 : decode cX3_passYear 27 = .ok (.aload_n 0, 1) := by decide +kernel
theorem dX3_passYear_28 : decode cX3_passYear 28 = .ok (.getfield 25, 3) := by decide +kernel
theorem dX3_passYear_31 : decode cX3_passYear 31 = .ok (.aload_n 0, 1) := by decide +kernel
theorem dX3_passYear_32 : decode cX3_passYear 32 = .ok (.iconst 0, 1) := by decide +kernel
theorem dX3_passYear_33 : decode cX3_passYear 33 = .ok (.invokevirtual 133, 3) := by decide +kernel
theorem dX3_passYear_36 : decode cX3_passYear 36 = .ok (.aload_n 0, 1) := by decide +kernel
theorem dX3_passYear_37 : decode cX3_passYear 37 = .ok (.invokevirtual 105, 3) := by decide +kernel
theorem dX3_passYear_40 : decode cX3_passYear 40 = .ok (.iastore, 1) := by decide +kernel
theorem dX3_passYear_41 : decode cX3_passYear 41 = .ok (.aload_n 0, 1) := by decide +kernel
theorem dX3_passYear_42 : decode cX3_passYear 42 = .ok (.getfield 28, 3) := by decide +kernel
theorem dX3_passYear_45 : decode cX3_passYear 45 = .ok (.aload_n 0, 1) := by decide +kernel
theorem dX3_passYear_46 : decode cX3_passYear 46 = .ok (.iconst 0, 1) := by decide +kernel
theorem dX3_passYear_47 : decode cX3_passYear 47 = .ok (.invokevirtual 133, 3) := by decide +kernel
theorem dX3_passYear_50 : decode cX3_passYear 50 = .ok (.iload_n 1, 1) := by decide +kernel
theorem dX3_passYear_51 : decode cX3_passYear 51 = .ok (.iastore, 1) := by decide +kernel
theorem dX3_passYear_52 : decode cX3_passYear 52 = .ok (.aload_n 0, 1) := by decide +kernel
theorem dX3_passYear_53 : decode cX3_passYear 53 = .ok (.dup, 1) := by decide +kernel
theorem dX3_passYear_54 : decode cX3_passYear 54 = .ok (.getfield 50, 3) := by decide +kernel
theorem dX3_passYear_57 : decode cX3_passYear 57 = .ok (.iconst 1, 1) := by decide +kernel
theorem dX3_passYear_58 : decode cX3_passYear 58 = .ok (.iadd, 1) := by decide +kernel
theorem dX3_passYear_59 : decode cX3_passYear 59 = .ok (.putfield 50, 3) := by decide +kernel
theorem dX3_passYear_62 : decode cX3_passYear 62 = .ok (.return_, 1) := by decide +kernel
theorem dX3_logCell_0 : decode cX3_logCell 0 = .ok (.aload_n 0, 1) := by decide +kernel
theorem dX3_logCell_1 : decode cX3_logCell 1 = .ok (.getfield 50, 3) := by decide +kernel
theorem dX3_logCell_4 : decode cX3_logCell 4 = .ok (.iload_n 1, 1) := by decide +kernel
theorem dX3_logCell_5 : decode cX3_logCell 5 = .ok (.isub, 1) := by decide +kernel
theorem dX3_logCell_6 : decode cX3_logCell 6 = .ok (.bipush 100, 2) := by decide +kernel
theorem dX3_logCell_8 : decode cX3_logCell 8 = .ok (.invokestatic 136, 3) := by decide +kernel
theorem dX3_logCell_11 : decode cX3_logCell 11 = .ok (.ireturn, 1) := by decide +kernel
theorem dX3_logged_0 : decode cX3_logged 0 = .ok (.aload_n 0, 1) := by decide +kernel
theorem dX3_logged_1 : decode cX3_logged 1 = .ok (.getfield 50, 3) := by decide +kernel
theorem dX3_logged_4 : decode cX3_logged 4 = .ok (.bipush 60, 2) := by decide +kernel
theorem dX3_logged_6 : decode cX3_logged 6 = .ok (.invokestatic 122, 3) := by decide +kernel
theorem dX3_logged_9 : decode cX3_logged 9 = .ok (.ireturn, 1) := by decide +kernel
theorem dX3_loggedWho_0 : decode cX3_loggedWho 0 = .ok (.aload_n 0, 1) := by decide +kernel
theorem dX3_loggedWho_1 : decode cX3_loggedWho 1 = .ok (.getfield 25, 3) := by decide +kernel
theorem dX3_loggedWho_4 : decode cX3_loggedWho 4 = .ok (.aload_n 0, 1) := by decide +kernel
theorem dX3_loggedWho_5 : decode cX3_loggedWho 5 = .ok (.iload_n 1, 1) := by decide +kernel
theorem dX3_loggedWho_6 : decode cX3_loggedWho 6 = .ok (.iconst 1, 1) := by decide +kernel
theorem dX3_loggedWho_7 : decode cX3_loggedWho 7 = .ok (.iadd, 1) := by decide +kernel
theorem dX3_loggedWho_8 : decode cX3_loggedWho 8 = .ok (.invokevirtual 133, 3) := by decide +kernel
theorem dX3_loggedWho_11 : decode cX3_loggedWho 11 = .ok (.iaload, 1) := by decide +kernel
theorem dX3_loggedWho_12 : decode cX3_loggedWho 12 = .ok (.ireturn, 1) := by decide +kernel
theorem dX3_loggedMissed_0 : decode cX3_loggedMissed 0 = .ok (.aload_n 0, 1) := by decide +kernel
theorem dX3_loggedMissed_1 : decode cX3_loggedMissed 1 = .ok (.getfield 28, 3) := by decide +kernel
theorem dX3_loggedMissed_4 : decode cX3_loggedMissed 4 = .ok (.aload_n 0, 1) := by decide +kernel
theorem dX3_loggedMissed_5 : decode cX3_loggedMissed 5 = .ok (.iload_n 1, 1) := by decide +kernel
theorem dX3_loggedMissed_6 : decode cX3_loggedMissed 6 = .ok (.iconst 1, 1) := by decide +kernel
theorem dX3_loggedMissed_7 : decode cX3_loggedMissed 7 = .ok (.iadd, 1) := by decide +kernel
theorem dX3_loggedMissed_8 : decode cX3_loggedMissed 8 = .ok (.invokevirtual 133, 3) := by decide +kernel
theorem dX3_loggedMissed_11 : decode cX3_loggedMissed 11 = .ok (.iaload, 1) := by decide +kernel
theorem dX3_loggedMissed_12 : decode cX3_loggedMissed 12 = .ok (.ireturn, 1) := by decide +kernel
theorem dX3_deepest_0 : decode cX3_deepest 0 = .ok (.iconst 0, 1) := by decide +kernel
theorem dX3_deepest_1 : decode cX3_deepest 1 = .ok (.istore_n 1, 1) := by decide +kernel
theorem dX3_deepest_2 : decode cX3_deepest 2 = .ok (.iconst 1, 1) := by decide +kernel
theorem dX3_deepest_3 : decode cX3_deepest 3 = .ok (.istore_n 2, 1) := by decide +kernel
theorem dX3_deepest_4 : decode cX3_deepest 4 = .ok (.iload_n 2, 1) := by decide +kernel
theorem dX3_deepest_5 : decode cX3_deepest 5 = .ok (.aload_n 0, 1) := by decide +kernel
theorem dX3_deepest_6 : decode cX3_deepest 6 = .ok (.getfield 31, 3) := by decide +kernel
theorem dX3_deepest_9 : decode cX3_deepest 9 = .ok (.invokevirtual 139, 3) := by decide +kernel
theorem dX3_deepest_12 : decode cX3_deepest 12 = .ok (.if_icmp .ge 24, 3) := by decide +kernel
theorem dX3_deepest_15 : decode cX3_deepest 15 = .ok (.aload_n 0, 1) := by decide +kernel
theorem dX3_deepest_16 : decode cX3_deepest 16 = .ok (.iload_n 2, 1) := by decide +kernel
theorem dX3_deepest_17 : decode cX3_deepest 17 = .ok (.invokevirtual 77, 3) := by decide +kernel
theorem dX3_deepest_20 : decode cX3_deepest 20 = .ok (.aload_n 0, 1) := by decide +kernel
theorem dX3_deepest_21 : decode cX3_deepest 21 = .ok (.iload_n 1, 1) := by decide +kernel
theorem dX3_deepest_22 : decode cX3_deepest 22 = .ok (.invokevirtual 77, 3) := by decide +kernel
theorem dX3_deepest_25 : decode cX3_deepest 25 = .ok (.if_icmp .le 5, 3) := by decide +kernel
theorem dX3_deepest_28 : decode cX3_deepest 28 = .ok (.iload_n 2, 1) := by decide +kernel
theorem dX3_deepest_29 : decode cX3_deepest 29 = .ok (.istore_n 1, 1) := by decide +kernel
theorem dX3_deepest_30 : decode cX3_deepest 30 = .ok (.iinc 2 1, 3) := by decide +kernel
theorem dX3_deepest_33 : decode cX3_deepest 33 = .ok (.goto (-29), 3) := by decide +kernel
theorem dX3_deepest_36 : decode cX3_deepest 36 = .ok (.iload_n 1, 1) := by decide +kernel
theorem dX3_deepest_37 : decode cX3_deepest 37 = .ok (.ireturn, 1) := by decide +kernel
theorem dX3_fullest_0 : decode cX3_fullest 0 = .ok (.iconst 0, 1) := by decide +kernel
theorem dX3_fullest_1 : decode cX3_fullest 1 = .ok (.istore_n 1, 1) := by decide +kernel
theorem dX3_fullest_2 : decode cX3_fullest 2 = .ok (.iconst 1, 1) := by decide +kernel
theorem dX3_fullest_3 : decode cX3_fullest 3 = .ok (.istore_n 2, 1) := by decide +kernel
theorem dX3_fullest_4 : decode cX3_fullest 4 = .ok (.iload_n 2, 1) := by decide +kernel
theorem dX3_fullest_5 : decode cX3_fullest 5 = .ok (.aload_n 0, 1) := by decide +kernel
theorem dX3_fullest_6 : decode cX3_fullest 6 = .ok (.getfield 31, 3) := by decide +kernel
theorem dX3_fullest_9 : decode cX3_fullest 9 = .ok (.invokevirtual 139, 3) := by decide +kernel
theorem dX3_fullest_12 : decode cX3_fullest 12 = .ok (.if_icmp .ge 38, 3) := by decide +kernel
theorem dX3_fullest_15 : decode cX3_fullest 15 = .ok (.aload_n 0, 1) := by decide +kernel
theorem dX3_fullest_16 : decode cX3_fullest 16 = .ok (.getfield 31, 3) := by decide +kernel
theorem dX3_fullest_19 : decode cX3_fullest 19 = .ok (.aload_n 0, 1) := by decide +kernel
theorem dX3_fullest_20 : decode cX3_fullest 20 = .ok (.iload_n 2, 1) := by decide +kernel
theorem dX3_fullest_21 : decode cX3_fullest 21 = .ok (.invokevirtual 74, 3) := by decide +kernel
theorem dX3_fullest_24 : decode cX3_fullest 24 = .ok (.invokevirtual 80, 3) := by decide +kernel
theorem dX3_fullest_27 : decode cX3_fullest 27 = .ok (.aload_n 0, 1) := by decide +kernel
theorem dX3_fullest_28 : decode cX3_fullest 28 = .ok (.getfield 31, 3) := by decide +kernel
theorem dX3_fullest_31 : decode cX3_fullest 31 = .ok (.aload_n 0, 1) := by decide +kernel
theorem dX3_fullest_32 : decode cX3_fullest 32 = .ok (.iload_n 1, 1) := by decide +kernel
theorem dX3_fullest_33 : decode cX3_fullest 33 = .ok (.invokevirtual 74, 3) := by decide +kernel
theorem dX3_fullest_36 : decode cX3_fullest 36 = .ok (.invokevirtual 80, 3) := by decide +kernel
theorem dX3_fullest_39 : decode cX3_fullest 39 = .ok (.if_icmp .le 5, 3) := by decide +kernel
theorem dX3_fullest_42 : decode cX3_fullest 42 = .ok (.iload_n 2, 1) := by decide +kernel
theorem dX3_fullest_43 : decode cX3_fullest 43 = .ok (.istore_n 1, 1) := by decide +kernel
theorem dX3_fullest_44 : decode cX3_fullest 44 = .ok (.iinc 2 1, 3) := by decide +kernel
theorem dX3_fullest_47 : decode cX3_fullest 47 = .ok (.goto (-43), 3) := by decide +kernel
theorem dX3_fullest_50 : decode cX3_fullest 50 = .ok (.iload_n 1, 1) := by decide +kernel
theorem dX3_fullest_51 : decode cX3_fullest 51 = .ok (.ireturn, 1) := by decide +kernel
theorem dX4_init_0 : decode cX4_init 0 = .ok (.aload_n 0, 1) := by decide +kernel
theorem dX4_init_1 : decode cX4_init 1 = .ok (.invokespecial 3, 3) := by decide +kernel
theorem dX4_init_4 : decode cX4_init 4 = .ok (.aload_n 0, 1) := by decide +kernel
theorem dX4_init_5 : decode cX4_init 5 = .ok (.sipush 240, 3) := by decide +kernel
theorem dX4_init_8 : decode cX4_init 8 = .ok (.newarray .int, 2) := by decide +kernel
theorem dX4_init_10 : decode cX4_init 10 = .ok (.putfield 11, 3) := by decide +kernel
theorem dX4_init_13 : decode cX4_init 13 = .ok (.aload_n 0, 1) := by decide +kernel
theorem dX4_init_14 : decode cX4_init 14 = .ok (.bipush 64, 2) := by decide +kernel
theorem dX4_init_16 : decode cX4_init 16 = .ok (.newarray .int, 2) := by decide +kernel
theorem dX4_init_18 : decode cX4_init 18 = .ok (.putfield 15, 3) := by decide +kernel
theorem dX4_init_21 : decode cX4_init 21 = .ok (.return_, 1) := by decide +kernel
theorem dX4_clear_0 : decode cX4_clear 0 = .ok (.aload_n 0, 1) := by decide +kernel
theorem dX4_clear_1 : decode cX4_clear 1 = .ok (.iconst 0, 1) := by decide +kernel
theorem dX4_clear_2 : decode cX4_clear 2 = .ok (.putfield 18, 3) := by decide +kernel
theorem dX4_clear_5 : decode cX4_clear 5 = .ok (.return_, 1) := by decide +kernel
theorem dX4_copyFrom_0 : decode cX4_copyFrom 0 = .ok (.aload_n 1, 1) := by decide +kernel
theorem dX4_copyFrom_1 : decode cX4_copyFrom 1 = .ok (.getfield 11, 3) := by decide +kernel
theorem dX4_copyFrom_4 : decode cX4_copyFrom 4 = .ok (.iconst 0, 1) := by decide +kernel
theorem dX4_copyFrom_5 : decode cX4_copyFrom 5 = .ok (.aload_n 0, 1) := by decide +kernel
theorem dX4_copyFrom_6 : decode cX4_copyFrom 6 = .ok (.getfield 11, 3) := by decide +kernel
theorem dX4_copyFrom_9 : decode cX4_copyFrom 9 = .ok (.iconst 0, 1) := by decide +kernel
theorem dX4_copyFrom_10 : decode cX4_copyFrom 10 = .ok (.aload_n 0, 1) := by decide +kernel
theorem dX4_copyFrom_11 : decode cX4_copyFrom 11 = .ok (.getfield 11, 3) := by decide +kernel
theorem dX4_copyFrom_14 : decode cX4_copyFrom 14 = .ok (.arraylength, 1) := by decide +kernel
theorem dX4_copyFrom_15 : decode cX4_copyFrom 15 = .ok (.invokestatic 22, 3) := by decide +kernel
theorem dX4_copyFrom_18 : decode cX4_copyFrom 18 = .ok (.aload_n 0, 1) := by decide +kernel
theorem dX4_copyFrom_19 : decode cX4_copyFrom 19 = .ok (.aload_n 1, 1) := by decide +kernel
theorem dX4_copyFrom_20 : decode cX4_copyFrom 20 = .ok (.getfield 18, 3) := by decide +kernel
theorem dX4_copyFrom_23 : decode cX4_copyFrom 23 = .ok (.putfield 18, 3) := by decide +kernel
theorem dX4_copyFrom_26 : decode cX4_copyFrom 26 = .ok (.return_, 1) := by decide +kernel
theorem dX4_length_0 : decode cX4_length 0 = .ok (.aload_n 0, 1) := by decide +kernel
theorem dX4_length_1 : decode cX4_length 1 = .ok (.getfield 18, 3) := by decide +kernel
theorem dX4_length_4 : decode cX4_length 4 = .ok (.ireturn, 1) := by decide +kernel
theorem dX4_add_0 : decode cX4_add 0 = .ok (.aload_n 0, 1) := by decide +kernel
theorem dX4_add_1 : decode cX4_add 1 = .ok (.getfield 18, 3) := by decide +kernel
theorem dX4_add_4 : decode cX4_add 4 = .ok (.sipush 240, 3) := by decide +kernel
theorem dX4_add_7 : decode cX4_add 7 = .ok (.if_icmp .ge 29, 3) := by decide +kernel
theorem dX4_add_10 : decode cX4_add 10 = .ok (.aload_n 0, 1) := by decide +kernel
theorem dX4_add_11 : decode cX4_add 11 = .ok (.getfield 11, 3) := by decide +kernel
theorem dX4_add_14 : decode cX4_add 14 = .ok (.aload_n 0, 1) := by decide +kernel
theorem dX4_add_15 : decode cX4_add 15 = .ok (.getfield 18, 3) := by decide +kernel
theorem dX4_add_18 : decode cX4_add 18 = .ok (.iload_n 1, 1) := by decide +kernel
theorem dX4_add_19 : decode cX4_add 19 = .ok (.sipush 10000, 3) := by decide +kernel
theorem dX4_add_22 : decode cX4_add 22 = .ok (.imul, 1) := by decide +kernel
theorem dX4_add_23 : decode cX4_add 23 = .ok (.iload_n 2, 1) := by decide +kernel
theorem dX4_add_24 : decode cX4_add 24 = .ok (.iadd, 1) := by decide +kernel
theorem dX4_add_25 : decode cX4_add 25 = .ok (.iastore, 1) := by decide +kernel
theorem dX4_add_26 : decode cX4_add 26 = .ok (.aload_n 0, 1) := by decide +kernel
theorem dX4_add_27 : decode cX4_add 27 = .ok (.dup, 1) := by decide +kernel
theorem dX4_add_28 : decode cX4_add 28 = .ok (.getfield 18, 3) := by decide +kernel
theorem dX4_add_31 : decode cX4_add 31 = .ok (.iconst 1, 1) := by decide +kernel
theorem dX4_add_32 : decode cX4_add 32 = .ok (.iadd, 1) := by decide +kernel
theorem dX4_add_33 : decode cX4_add 33 = .ok (.putfield 18, 3) := by decide +kernel
theorem dX4_add_36 : decode cX4_add 36 = .ok (.return_, 1) := by decide +kernel
theorem dX4_goOnHere_0 : decode cX4_goOnHere 0 = .ok (.iload_n 1, 1) := by decide +kernel
theorem dX4_goOnHere_1 : decode cX4_goOnHere 1 = .ok (.ifCond .lt 25, 3) := by decide +kernel
theorem dX4_goOnHere_4 : decode cX4_goOnHere 4 = .ok (.iload_n 1, 1) := by decide +kernel
theorem dX4_goOnHere_5 : decode cX4_goOnHere 5 = .ok (.aload_n 0, 1) := by decide +kernel
theorem dX4_goOnHere_6 : decode cX4_goOnHere 6 = .ok (.getfield 18, 3) := by decide +kernel
theorem dX4_goOnHere_9 : decode cX4_goOnHere 9 = .ok (.if_icmp .ge 17, 3) := by decide +kernel
theorem dX4_goOnHere_12 : decode cX4_goOnHere 12 = .ok (.aload_n 0, 1) := by decide +kernel
theorem dX4_goOnHere_13 : decode cX4_goOnHere 13 = .ok (.getfield 11, 3) := by decide +kernel
theorem dX4_goOnHere_16 : decode cX4_goOnHere 16 = .ok (.iload_n 1, 1) := by decide +kernel
theorem dX4_goOnHere_17 : decode cX4_goOnHere 17 = .ok (.sipush 30000, 3) := by decide +kernel
theorem dX4_goOnHere_20 : decode cX4_goOnHere 20 = .ok (.aload_n 0, 1) := by decide +kernel
theorem dX4_goOnHere_21 : decode cX4_goOnHere 21 = .ok (.getfield 18, 3) := by decide +kernel
theorem dX4_goOnHere_24 : decode cX4_goOnHere 24 = .ok (.iadd, 1) := by decide +kernel
theorem dX4_goOnHere_25 : decode cX4_goOnHere 25 = .ok (.iastore, 1) := by decide +kernel
theorem dX4_goOnHere_26 : decode cX4_goOnHere 26 = .ok (.return_, 1) := by decide +kernel
theorem dX4_weigh_0 : decode cX4_weigh 0 = .ok (.aload_n 0, 1) := by decide +kernel
theorem dX4_weigh_1 : decode cX4_weigh 1 = .ok (.iconst 0, 1) := by decide +kernel
theorem dX4_weigh_2 : decode cX4_weigh 2 = .ok (.putfield 28, 3) := by decide +kernel
theorem dX4_weigh_5 : decode cX4_weigh 5 = .ok (.iconst 0, 1) := by decide +kernel
theorem dX4_weigh_6 : decode cX4_weigh 6 = .ok (.istore_n 2, 1) := by decide +kernel
theorem dX4_weigh_7 : decode cX4_weigh 7 = .ok (.iload_n 2, 1) := by decide +kernel
theorem dX4_weigh_8 : decode cX4_weigh 8 = .ok (.aload_n 0, 1) := by decide +kernel
theorem dX4_weigh_9 : decode cX4_weigh 9 = .ok (.getfield 18, 3) := by decide +kernel
theorem dX4_weigh_12 : decode cX4_weigh 12 = .ok (.if_icmp .ge 176, 3) := by decide +kernel
theorem dX4_weigh_15 : decode cX4_weigh 15 = .ok (.aload_n 0, 1) := by decide +kernel
theorem dX4_weigh_16 : decode cX4_weigh 16 = .ok (.getfield 11, 3) := by decide +kernel
theorem dX4_weigh_19 : decode cX4_weigh 19 = .ok (.iload_n 2, 1) := by decide +kernel
theorem dX4_weigh_20 : decode cX4_weigh 20 = .ok (.iaload, 1) := by decide +kernel
theorem dX4_weigh_21 : decode cX4_weigh 21 = .ok (.sipush 10000, 3) := by decide +kernel
theorem dX4_weigh_24 : decode cX4_weigh 24 = .ok (.idiv, 1) := by decide +kernel
theorem dX4_weigh_25 : decode cX4_weigh 25 = .ok (.istore_n 3, 1) := by decide +kernel
theorem dX4_weigh_26 : decode cX4_weigh 26 = .ok (.aload_n 0, 1) := by decide +kernel
theorem dX4_weigh_27 : decode cX4_weigh 27 = .ok (.getfield 11, 3) := by decide +kernel
theorem dX4_weigh_30 : decode cX4_weigh 30 = .ok (.iload_n 2, 1) := by decide +kernel
theorem dX4_weigh_31 : decode cX4_weigh 31 = .ok (.iaload, 1) := by decide +kernel
theorem dX4_weigh_32 : decode cX4_weigh 32 = .ok (.sipush 10000, 3) := by decide +kernel
theorem dX4_weigh_35 : decode cX4_weigh 35 = .ok (.irem, 1) := by decide +kernel
theorem dX4_weigh_36 : decode cX4_weigh 36 = .ok (.istore 4, 2) := by decide +kernel
theorem dX4_weigh_38 : decode cX4_weigh 38 = .ok (.iload_n 3, 1) := by decide +kernel
theorem dX4_weigh_39 : decode cX4_weigh 39 = .ok (.lookupswitch 123 #[(0, 49), (1, 58), (2, 80), (3, 85), (33, 104)], 49) := by decide +kernel
theorem dX4_weigh_88 : decode cX4_weigh 88 = .ok (.aload_n 0, 1) := by decide +kernel
theorem dX4_weigh_89 : decode cX4_weigh 89 = .ok (.iload 4, 2) := by decide +kernel
theorem dX4_weigh_91 : decode cX4_weigh 91 = .ok (.invokevirtual 31, 3) := by decide +kernel
theorem dX4_weigh_94 : decode cX4_weigh 94 = .ok (.goto 88, 3) := by decide +kernel
theorem dX4_weigh_97 : decode cX4_weigh 97 = .ok (.aload_n 0, 1) := by decide +kernel
theorem dX4_weigh_98 : decode cX4_weigh 98 = .ok (.iload 4, 2) := by decide +kernel
theorem dX4_weigh_100 : decode cX4_weigh 100 = .ok (.aload_n 1, 1) := by decide +kernel
theorem dX4_weigh_101 : decode cX4_weigh 101 = .ok (.arraylength, 1) := by decide +kernel
theorem dX4_weigh_102 : decode cX4_weigh 102 = .ok (.if_icmp .ge 10, 3) := by decide +kernel
theorem dX4_weigh_105 : decode cX4_weigh 105 = .ok (.aload_n 1, 1) := by decide +kernel
theorem dX4_weigh_106 : decode cX4_weigh 106 = .ok (.iload 4, 2) := by decide +kernel
theorem dX4_weigh_108 : decode cX4_weigh 108 = .ok (.iaload, 1) := by decide +kernel
theorem dX4_weigh_109 : decode cX4_weigh 109 = .ok (.goto 4, 3) := by decide +kernel
theorem dX4_weigh_112 : decode cX4_weigh 112 = .ok (.iconst 0, 1) := by decide +kernel
theorem dX4_weigh_113 : decode cX4_weigh 113 = .ok (.invokevirtual 31, 3) := by decide +kernel
theorem dX4_weigh_116 : decode cX4_weigh 116 = .ok (.goto 66, 3) := by decide +kernel
theorem dX4_weigh_119 : decode cX4_weigh 119 = .ok (.aload_n 0, 1) := by decide +kernel
theorem dX4_weigh_120 : decode cX4_weigh 120 = .ok (.invokevirtual 35, 3) := by decide +kernel
theorem dX4_weigh_123 : decode cX4_weigh 123 = .ok (.ireturn, 1) := by decide +kernel
theorem dX4_weigh_124 : decode cX4_weigh 124 = .ok (.aload_n 0, 1) := by decide +kernel
theorem dX4_weigh_125 : decode cX4_weigh 125 = .ok (.invokevirtual 35, 3) := by decide +kernel
theorem dX4_weigh_128 : decode cX4_weigh 128 = .ok (.ifCond .ne 54, 3) := by decide +kernel
theorem dX4_weigh_131 : decode cX4_weigh 131 = .ok (.iload_n 2, 1) := by decide +kernel
theorem dX4_weigh_132 : decode cX4_weigh 132 = .ok (.iload 4, 2) := by decide +kernel
theorem dX4_weigh_134 : decode cX4_weigh 134 = .ok (.iconst 1, 1) := by decide +kernel
theorem dX4_weigh_135 : decode cX4_weigh 135 = .ok (.isub, 1) := by decide +kernel
theorem dX4_weigh_136 : decode cX4_weigh 136 = .ok (.invokestatic 39, 3) := by decide +kernel
theorem dX4_weigh_139 : decode cX4_weigh 139 = .ok (.istore_n 2, 1) := by decide +kernel
theorem dX4_weigh_140 : decode cX4_weigh 140 = .ok (.goto 42, 3) := by decide +kernel
theorem dX4_weigh_143 : decode cX4_weigh 143 = .ok (.aload_n 0, 1) := by decide +kernel
theorem dX4_weigh_144 : decode cX4_weigh 144 = .ok (.aload_n 0, 1) := by decide +kernel
theorem dX4_weigh_145 : decode cX4_weigh 145 = .ok (.invokevirtual 35, 3) := by decide +kernel
theorem dX4_weigh_148 : decode cX4_weigh 148 = .ok (.ifCond .ne 7, 3) := by decide +kernel
theorem dX4_weigh_151 : decode cX4_weigh 151 = .ok (.iconst 1, 1) := by decide +kernel
theorem dX4_weigh_152 : decode cX4_weigh 152 = .ok (.goto 4, 3) := by decide +kernel
theorem dX4_weigh_155 : decode cX4_weigh 155 = .ok (.iconst 0, 1) := by decide +kernel
theorem dX4_weigh_156 : decode cX4_weigh 156 = .ok (.invokevirtual 31, 3) := by decide +kernel
theorem dX4_weigh_159 : decode cX4_weigh 159 = .ok (.goto 23, 3) := by decide +kernel
theorem dX4_weigh_162 : decode cX4_weigh 162 = .ok (.aload_n 0, 1) := by decide +kernel
theorem dX4_weigh_163 : decode cX4_weigh 163 = .ok (.invokevirtual 35, 3) := by decide +kernel
theorem dX4_weigh_166 : decode cX4_weigh 166 = .ok (.istore 5, 2) := by decide +kernel
theorem dX4_weigh_168 : decode cX4_weigh 168 = .ok (.aload_n 0, 1) := by decide +kernel
theorem dX4_weigh_169 : decode cX4_weigh 169 = .ok (.iload_n 3, 1) := by decide +kernel
theorem dX4_weigh_170 : decode cX4_weigh 170 = .ok (.aload_n 0, 1) := by decide +kernel
theorem dX4_weigh_171 : decode cX4_weigh 171 = .ok (.invokevirtual 35, 3) := by decide +kernel
theorem dX4_weigh_174 : decode cX4_weigh 174 = .ok (.iload 5, 2) := by decide +kernel
theorem dX4_weigh_176 : decode cX4_weigh 176 = .ok (.invokestatic 45, 3) := by decide +kernel
theorem dX4_weigh_179 : decode cX4_weigh 179 = .ok (.invokevirtual 31, 3) := by decide +kernel
theorem dX4_weigh_182 : decode cX4_weigh 182 = .ok (.iinc 2 1, 3) := by decide +kernel
theorem dX4_weigh_185 : decode cX4_weigh 185 = .ok (.goto (-178), 3) := by decide +kernel
theorem dX4_weigh_188 : decode cX4_weigh 188 = .ok (.iconst 0, 1) := by decide +kernel
theorem dX4_weigh_189 : decode cX4_weigh 189 = .ok (.ireturn, 1) := by decide +kernel
theorem dX4_push_0 : decode cX4_push 0 = .ok (.aload_n 0, 1) := by decide +kernel
theorem dX4_push_1 : decode cX4_push 1 = .ok (.getfield 28, 3) := by decide +kernel
theorem dX4_push_4 : decode cX4_push 4 = .ok (.bipush 64, 2) := by decide +kernel
theorem dX4_push_6 : decode cX4_push 6 = .ok (.if_icmp .ge 23, 3) := by decide +kernel
theorem dX4_push_9 : decode cX4_push 9 = .ok (.aload_n 0, 1) := by decide +kernel
theorem dX4_push_10 : decode cX4_push 10 = .ok (.getfield 15, 3) := by decide +kernel
theorem dX4_push_13 : decode cX4_push 13 = .ok (.aload_n 0, 1) := by decide +kernel
theorem dX4_push_14 : decode cX4_push 14 = .ok (.getfield 28, 3) := by decide +kernel
theorem dX4_push_17 : decode cX4_push 17 = .ok (.iload_n 1, 1) := by decide +kernel
theorem dX4_push_18 : decode cX4_push 18 = .ok (.iastore, 1) := by decide +kernel
theorem dX4_push_19 : decode cX4_push 19 = .ok (.aload_n 0, 1) := by decide +kernel
theorem dX4_push_20 : decode cX4_push 20 = .ok (.dup, 1) := by decide +kernel
theorem dX4_push_21 : decode cX4_push 21 = .ok (.getfield 28, 3) := by decide +kernel
theorem dX4_push_24 : decode cX4_push 24 = .ok (.iconst 1, 1) := by decide +kernel
theorem dX4_push_25 : decode cX4_push 25 = .ok (.iadd, 1) := by decide +kernel
theorem dX4_push_26 : decode cX4_push 26 = .ok (.putfield 28, 3) := by decide +kernel
theorem dX4_push_29 : decode cX4_push 29 = .ok (.return_, 1) := by decide +kernel
theorem dX4_pop_0 : decode cX4_pop 0 = .ok (.aload_n 0, 1) := by decide +kernel
theorem dX4_pop_1 : decode cX4_pop 1 = .ok (.getfield 28, 3) := by decide +kernel
theorem dX4_pop_4 : decode cX4_pop 4 = .ok (.ifCond .gt 5, 3) := by decide +kernel
theorem dX4_pop_7 : decode cX4_pop 7 = .ok (.iconst 0, 1) := by decide +kernel
theorem dX4_pop_8 : decode cX4_pop 8 = .ok (.ireturn, 1) := by decide +kernel
theorem dX4_pop_9 : decode cX4_pop 9 = .ok (.aload_n 0, 1) := by decide +kernel
theorem dX4_pop_10 : decode cX4_pop 10 = .ok (.dup, 1) := by decide +kernel
theorem dX4_pop_11 : decode cX4_pop 11 = .ok (.getfield 28, 3) := by decide +kernel
theorem dX4_pop_14 : decode cX4_pop 14 = .ok (.iconst 1, 1) := by decide +kernel
theorem dX4_pop_15 : decode cX4_pop 15 = .ok (.isub, 1) := by decide +kernel
theorem dX4_pop_16 : decode cX4_pop 16 = .ok (.putfield 28, 3) := by decide +kernel
theorem dX4_pop_19 : decode cX4_pop 19 = .ok (.aload_n 0, 1) := by decide +kernel
theorem dX4_pop_20 : decode cX4_pop 20 = .ok (.getfield 15, 3) := by decide +kernel
theorem dX4_pop_23 : decode cX4_pop 23 = .ok (.aload_n 0, 1) := by decide +kernel
theorem dX4_pop_24 : decode cX4_pop 24 = .ok (.getfield 28, 3) := by decide +kernel
theorem dX4_pop_27 : decode cX4_pop 27 = .ok (.iaload, 1) := by decide +kernel
theorem dX4_pop_28 : decode cX4_pop 28 = .ok (.ireturn, 1) := by decide +kernel
theorem dX4_join_0 : decode cX4_join 0 = .ok (.iload_n 0, 1) := by decide +kernel
theorem dX4_join_1 : decode cX4_join 1 = .ok (.lookupswitch 161 #[(38, 153), (42, 99), (43, 83), (45, 91), (47, 108), (60, 131), (61, 120), (62, 142), (124, 157)], 83) := by decide +kernel
theorem dX4_join_84 : decode cX4_join 84 = .ok (.iload_n 1, 1) := by decide +kernel
theorem dX4_join_85 : decode cX4_join 85 = .ok (.iload_n 2, 1) := by decide +kernel
theorem dX4_join_86 : decode cX4_join 86 = .ok (.iadd, 1) := by decide +kernel
theorem dX4_join_87 : decode cX4_join 87 = .ok (.i2l, 1) := by decide +kernel
theorem dX4_join_88 : decode cX4_join 88 = .ok (.invokestatic 49, 3) := by decide +kernel
theorem dX4_join_91 : decode cX4_join 91 = .ok (.ireturn, 1) := by decide +kernel
theorem dX4_join_92 : decode cX4_join 92 = .ok (.iload_n 1, 1) := by decide +kernel
theorem dX4_join_93 : decode cX4_join 93 = .ok (.iload_n 2, 1) := by decide +kernel
theorem dX4_join_94 : decode cX4_join 94 = .ok (.isub, 1) := by decide +kernel
theorem dX4_join_95 : decode cX4_join 95 = .ok (.i2l, 1) := by decide +kernel
theorem dX4_join_96 : decode cX4_join 96 = .ok (.invokestatic 49, 3) := by decide +kernel
theorem dX4_join_99 : decode cX4_join 99 = .ok (.ireturn, 1) := by decide +kernel
theorem dX4_join_100 : decode cX4_join 100 = .ok (.iload_n 1, 1) := by decide +kernel
theorem dX4_join_101 : decode cX4_join 101 = .ok (.i2l, 1) := by decide +kernel
theorem dX4_join_102 : decode cX4_join 102 = .ok (.iload_n 2, 1) := by decide +kernel
theorem dX4_join_103 : decode cX4_join 103 = .ok (.i2l, 1) := by decide +kernel
theorem dX4_join_104 : decode cX4_join 104 = .ok (.lmul, 1) := by decide +kernel
theorem dX4_join_105 : decode cX4_join 105 = .ok (.invokestatic 49, 3) := by decide +kernel
theorem dX4_join_108 : decode cX4_join 108 = .ok (.ireturn, 1) := by decide +kernel
theorem dX4_join_109 : decode cX4_join 109 = .ok (.iload_n 2, 1) := by decide +kernel
theorem dX4_join_110 : decode cX4_join 110 = .ok (.ifCond .ne 7, 3) := by decide +kernel
theorem dX4_join_113 : decode cX4_join 113 = .ok (.iconst 0, 1) := by decide +kernel
theorem dX4_join_114 : decode cX4_join 114 = .ok (.goto 6, 3) := by decide +kernel
theorem dX4_join_117 : decode cX4_join 117 = .ok (.iload_n 1, 1) := by decide +kernel
theorem dX4_join_118 : decode cX4_join 118 = .ok (.iload_n 2, 1) := by decide +kernel
theorem dX4_join_119 : decode cX4_join 119 = .ok (.idiv, 1) := by decide +kernel
theorem dX4_join_120 : decode cX4_join 120 = .ok (.ireturn, 1) := by decide +kernel
theorem dX4_join_121 : decode cX4_join 121 = .ok (.iload_n 1, 1) := by decide +kernel
theorem dX4_join_122 : decode cX4_join 122 = .ok (.iload_n 2, 1) := by decide +kernel
theorem dX4_join_123 : decode cX4_join 123 = .ok (.if_icmp .ne 7, 3) := by decide +kernel
theorem dX4_join_126 : decode cX4_join 126 = .ok (.iconst 1, 1) := by decide +kernel
theorem dX4_join_127 : decode cX4_join 127 = .ok (.goto 4, 3) := by decide +kernel
theorem dX4_join_130 : decode cX4_join 130 = .ok (.iconst 0, 1) := by decide +kernel
theorem dX4_join_131 : decode cX4_join 131 = .ok (.ireturn, 1) := by decide +kernel
theorem dX4_join_132 : decode cX4_join 132 = .ok (.iload_n 1, 1) := by decide +kernel
theorem dX4_join_133 : decode cX4_join 133 = .ok (.iload_n 2, 1) := by decide +kernel
theorem dX4_join_134 : decode cX4_join 134 = .ok (.if_icmp .ge 7, 3) := by decide +kernel
theorem dX4_join_137 : decode cX4_join 137 = .ok (.iconst 1, 1) := by decide +kernel
theorem dX4_join_138 : decode cX4_join 138 = .ok (.goto 4, 3) := by decide +kernel
theorem dX4_join_141 : decode cX4_join 141 = .ok (.iconst 0, 1) := by decide +kernel
theorem dX4_join_142 : decode cX4_join 142 = .ok (.ireturn, 1) := by decide +kernel
theorem dX4_join_143 : decode cX4_join 143 = .ok (.iload_n 1, 1) := by decide +kernel
theorem dX4_join_144 : decode cX4_join 144 = .ok (.iload_n 2, 1) := by decide +kernel
theorem dX4_join_145 : decode cX4_join 145 = .ok (.if_icmp .le 7, 3) := by decide +kernel
theorem dX4_join_148 : decode cX4_join 148 = .ok (.iconst 1, 1) := by decide +kernel
theorem dX4_join_149 : decode cX4_join 149 = .ok (.goto 4, 3) := by decide +kernel
theorem dX4_join_152 : decode cX4_join 152 = .ok (.iconst 0, 1) := by decide +kernel
theorem dX4_join_153 : decode cX4_join 153 = .ok (.ireturn, 1) := by decide +kernel
theorem dX4_join_154 : decode cX4_join 154 = .ok (.iload_n 1, 1) := by decide +kernel
theorem dX4_join_155 : decode cX4_join 155 = .ok (.iload_n 2, 1) := by decide +kernel
theorem dX4_join_156 : decode cX4_join 156 = .ok (.iand, 1) := by decide +kernel
theorem dX4_join_157 : decode cX4_join 157 = .ok (.ireturn, 1) := by decide +kernel
theorem dX4_join_158 : decode cX4_join 158 = .ok (.iload_n 1, 1) := by decide +kernel
theorem dX4_join_159 : decode cX4_join 159 = .ok (.iload_n 2, 1) := by decide +kernel
theorem dX4_join_160 : decode cX4_join 160 = .ok (.ior, 1) := by decide +kernel
theorem dX4_join_161 : decode cX4_join 161 = .ok (.ireturn, 1) := by decide +kernel
theorem dX4_join_162 : decode cX4_join 162 = .ok (.iconst 0, 1) := by decide +kernel
theorem dX4_join_163 : decode cX4_join 163 = .ok (.ireturn, 1) := by decide +kernel
theorem dX4_bounded_0 : decode cX4_bounded 0 = .ok (.lload_n 0, 1) := by decide +kernel
theorem dX4_bounded_1 : decode cX4_bounded 1 = .ok (.ldc2_w 53, 3) := by decide +kernel
theorem dX4_bounded_4 : decode cX4_bounded 4 = .ok (.lcmp, 1) := by decide +kernel
theorem dX4_bounded_5 : decode cX4_bounded 5 = .ok (.ifCond .ge 9, 3) := by decide +kernel
theorem dX4_bounded_8 : decode cX4_bounded 8 = .ok (.ldc2_w 53, 3) := by decide +kernel
theorem dX4_bounded_11 : decode cX4_bounded 11 = .ok (.goto 18, 3) := by decide +kernel
theorem dX4_bounded_14 : decode cX4_bounded 14 = .ok (.lload_n 0, 1) := by decide +kernel
theorem dX4_bounded_15 : decode cX4_bounded 15 = .ok (.ldc2_w 55, 3) := by decide +kernel
theorem dX4_bounded_18 : decode cX4_bounded 18 = .ok (.lcmp, 1) := by decide +kernel
theorem dX4_bounded_19 : decode cX4_bounded 19 = .ok (.ifCond .le 9, 3) := by decide +kernel
theorem dX4_bounded_22 : decode cX4_bounded 22 = .ok (.ldc2_w 55, 3) := by decide +kernel
theorem dX4_bounded_25 : decode cX4_bounded 25 = .ok (.goto 4, 3) := by decide +kernel
theorem dX4_bounded_28 : decode cX4_bounded 28 = .ok (.lload_n 0, 1) := by decide +kernel
theorem dX4_bounded_29 : decode cX4_bounded 29 = .ok (.l2i, 1) := by decide +kernel
theorem dX4_bounded_30 : decode cX4_bounded 30 = .ok (.ireturn, 1) := by decide +kernel
theorem dX5_init_0 : decode cX5_init 0 = .ok (.aload_n 0, 1) := by decide +kernel
theorem dX5_init_1 : decode cX5_init 1 = .ok (.invokespecial 3, 3) := by decide +kernel
theorem dX5_init_4 : decode cX5_init 4 = .ok (.aload_n 0, 1) := by decide +kernel
theorem dX5_init_5 : decode cX5_init 5 = .ok (.new 9, 3) := by decide +kernel
theorem dX5_init_8 : decode cX5_init 8 = .ok (.dup, 1) := by decide +kernel
theorem dX5_init_9 : decode cX5_init 9 = .ok (.invokespecial 11, 3) := by decide +kernel
theorem dX5_init_12 : decode cX5_init 12 = .ok (.putfield 12, 3) := by decide +kernel
theorem dX5_init_15 : decode cX5_init 15 = .ok (.aload_n 0, 1) := by decide +kernel
theorem dX5_init_16 : decode cX5_init 16 = .ok (.aload_n 1, 1) := by decide +kernel
theorem dX5_init_17 : decode cX5_init 17 = .ok (.putfield 18, 3) := by decide +kernel
theorem dX5_init_20 : decode cX5_init 20 = .ok (.return_, 1) := by decide +kernel
theorem dX5_draft_0 : decode cX5_draft 0 = .ok (.aload_n 0, 1) := by decide +kernel
theorem dX5_draft_1 : decode cX5_draft 1 = .ok (.getfield 12, 3) := by decide +kernel
theorem dX5_draft_4 : decode cX5_draft 4 = .ok (.areturn, 1) := by decide +kernel
theorem dX5_read_0 : decode cX5_read 0 = .ok (.aload_n 0, 1) := by decide +kernel
theorem dX5_read_1 : decode cX5_read 1 = .ok (.getfield 12, 3) := by decide +kernel
theorem dX5_read_4 : decode cX5_read 4 = .ok (.invokevirtual 22, 3) := by decide +kernel
theorem dX5_read_7 : decode cX5_read 7 = .ok (.aload_n 0, 1) := by decide +kernel
theorem dX5_read_8 : decode cX5_read 8 = .ok (.aload_n 0, 1) := by decide +kernel
theorem dX5_read_9 : decode cX5_read 9 = .ok (.getfield 18, 3) := by decide +kernel
theorem dX5_read_12 : decode cX5_read 12 = .ok (.iconst 0, 1) := by decide +kernel
theorem dX5_read_13 : decode cX5_read 13 = .ok (.invokevirtual 25, 3) := by decide +kernel
theorem dX5_read_16 : decode cX5_read 16 = .ok (.putfield 31, 3) := by decide +kernel
theorem dX5_read_19 : decode cX5_read 19 = .ok (.iconst 1, 1) := by decide +kernel
theorem dX5_read_20 : decode cX5_read 20 = .ok (.istore_n 1, 1) := by decide +kernel
theorem dX5_read_21 : decode cX5_read 21 = .ok (.iconst 0, 1) := by decide +kernel
theorem dX5_read_22 : decode cX5_read 22 = .ok (.istore_n 2, 1) := by decide +kernel
theorem dX5_read_23 : decode cX5_read 23 = .ok (.iload_n 1, 1) := by decide +kernel
theorem dX5_read_24 : decode cX5_read 24 = .ok (.ifCond .eq 35, 3) := by decide +kernel
theorem dX5_read_27 : decode cX5_read 27 = .ok (.iload_n 2, 1) := by decide +kernel
theorem dX5_read_28 : decode cX5_read 28 = .ok (.sipush 240, 3) := by decide +kernel
theorem dX5_read_31 : decode cX5_read 31 = .ok (.if_icmp .ge 28, 3) := by decide +kernel
theorem dX5_read_34 : decode cX5_read 34 = .ok (.aload_n 0, 1) := by decide +kernel
theorem dX5_read_35 : decode cX5_read 35 = .ok (.invokevirtual 35, 3) := by decide +kernel
theorem dX5_read_38 : decode cX5_read 38 = .ok (.ifCond .ne 8, 3) := by decide +kernel
theorem dX5_read_41 : decode cX5_read 41 = .ok (.aload_n 0, 1) := by decide +kernel
theorem dX5_read_42 : decode cX5_read 42 = .ok (.getfield 31, 3) := by decide +kernel
theorem dX5_read_45 : decode cX5_read 45 = .ok (.ireturn, 1) := by decide +kernel
theorem dX5_read_46 : decode cX5_read 46 = .ok (.aload_n 0, 1) := by decide +kernel
theorem dX5_read_47 : decode cX5_read 47 = .ok (.bipush 59, 2) := by decide +kernel
theorem dX5_read_49 : decode cX5_read 49 = .ok (.invokevirtual 39, 3) := by decide +kernel
theorem dX5_read_52 : decode cX5_read 52 = .ok (.istore_n 1, 1) := by decide +kernel
theorem dX5_read_53 : decode cX5_read 53 = .ok (.iinc 2 1, 3) := by decide +kernel
theorem dX5_read_56 : decode cX5_read 56 = .ok (.goto (-33), 3) := by decide +kernel
theorem dX5_read_59 : decode cX5_read 59 = .ok (.aload_n 0, 1) := by decide +kernel
theorem dX5_read_60 : decode cX5_read 60 = .ok (.getfield 31, 3) := by decide +kernel
theorem dX5_read_63 : decode cX5_read 63 = .ok (.aload_n 0, 1) := by decide +kernel
theorem dX5_read_64 : decode cX5_read 64 = .ok (.getfield 18, 3) := by decide +kernel
theorem dX5_read_67 : decode cX5_read 67 = .ok (.invokevirtual 43, 3) := by decide +kernel
theorem dX5_read_70 : decode cX5_read 70 = .ok (.if_icmp .ne 7, 3) := by decide +kernel
theorem dX5_read_73 : decode cX5_read 73 = .ok (.iconst (-1), 1) := by decide +kernel
theorem dX5_read_74 : decode cX5_read 74 = .ok (.goto 7, 3) := by decide +kernel
theorem dX5_read_77 : decode cX5_read 77 = .ok (.aload_n 0, 1) := by decide +kernel
theorem dX5_read_78 : decode cX5_read 78 = .ok (.getfield 31, 3) := by decide +kernel
theorem dX5_read_81 : decode cX5_read 81 = .ok (.ireturn, 1) := by decide +kernel
theorem dX5_step_0 : decode cX5_step 0 = .ok (.aload_n 0, 1) := by decide +kernel
theorem dX5_step_1 : decode cX5_step 1 = .ok (.aload_n 0, 1) := by decide +kernel
theorem dX5_step_2 : decode cX5_step 2 = .ok (.getfield 18, 3) := by decide +kernel
theorem dX5_step_5 : decode cX5_step 5 = .ok (.aload_n 0, 1) := by decide +kernel
theorem dX5_step_6 : decode cX5_step 6 = .ok (.getfield 31, 3) := by decide +kernel
theorem dX5_step_9 : decode cX5_step 9 = .ok (.iconst 1, 1) := by decide +kernel
theorem dX5_step_10 : decode cX5_step 10 = .ok (.iadd, 1) := by decide +kernel
theorem dX5_step_11 : decode cX5_step 11 = .ok (.invokevirtual 25, 3) := by decide +kernel
theorem dX5_step_14 : decode cX5_step 14 = .ok (.putfield 31, 3) := by decide +kernel
theorem dX5_step_17 : decode cX5_step 17 = .ok (.return_, 1) := by decide +kernel
theorem dX5_take_0 : decode cX5_take 0 = .ok (.aload_n 0, 1) := by decide +kernel
theorem dX5_take_1 : decode cX5_take 1 = .ok (.getfield 18, 3) := by decide +kernel
theorem dX5_take_4 : decode cX5_take 4 = .ok (.aload_n 0, 1) := by decide +kernel
theorem dX5_take_5 : decode cX5_take 5 = .ok (.getfield 31, 3) := by decide +kernel
theorem dX5_take_8 : decode cX5_take 8 = .ok (.invokevirtual 47, 3) := by decide +kernel
theorem dX5_take_11 : decode cX5_take 11 = .ok (.iload_n 1, 1) := by decide +kernel
theorem dX5_take_12 : decode cX5_take 12 = .ok (.if_icmp .eq 5, 3) := by decide +kernel
theorem dX5_take_15 : decode cX5_take 15 = .ok (.iconst 0, 1) := by decide +kernel
theorem dX5_take_16 : decode cX5_take 16 = .ok (.ireturn, 1) := by decide +kernel
theorem dX5_take_17 : decode cX5_take 17 = .ok (.aload_n 0, 1) := by decide +kernel
theorem dX5_take_18 : decode cX5_take 18 = .ok (.aload_n 0, 1) := by decide +kernel
theorem dX5_take_19 : decode cX5_take 19 = .ok (.getfield 18, 3) := by decide +kernel
theorem dX5_take_22 : decode cX5_take 22 = .ok (.aload_n 0, 1) := by decide +kernel
theorem dX5_take_23 : decode cX5_take 23 = .ok (.getfield 31, 3) := by decide +kernel
theorem dX5_take_26 : decode cX5_take 26 = .ok (.iconst 1, 1) := by decide +kernel
theorem dX5_take_27 : decode cX5_take 27 = .ok (.iadd, 1) := by decide +kernel
theorem dX5_take_28 : decode cX5_take 28 = .ok (.invokevirtual 25, 3) := by decide +kernel
theorem dX5_take_31 : decode cX5_take 31 = .ok (.putfield 31, 3) := by decide +kernel
theorem dX5_take_34 : decode cX5_take 34 = .ok (.iconst 1, 1) := by decide +kernel
theorem dX5_take_35 : decode cX5_take 35 = .ok (.ireturn, 1) := by decide +kernel
theorem dX5_readClause_0 : decode cX5_readClause 0 = .ok (.aload_n 0, 1) := by decide +kernel
theorem dX5_readClause_1 : decode cX5_readClause 1 = .ok (.bipush 121, 2) := by decide +kernel
theorem dX5_readClause_3 : decode cX5_readClause 3 = .ok (.invokevirtual 39, 3) := by decide +kernel
theorem dX5_readClause_6 : decode cX5_readClause 6 = .ok (.ifCond .eq 12, 3) := by decide +kernel
theorem dX5_readClause_9 : decode cX5_readClause 9 = .ok (.aload_n 0, 1) := by decide +kernel
theorem dX5_readClause_10 : decode cX5_readClause 10 = .ok (.bipush 58, 2) := by decide +kernel
theorem dX5_readClause_12 : decode cX5_readClause 12 = .ok (.invokevirtual 39, 3) := by decide +kernel
theorem dX5_readClause_15 : decode cX5_readClause 15 = .ok (.ifCond .ne 5, 3) := by decide +kernel
theorem dX5_readClause_18 : decode cX5_readClause 18 = .ok (.iconst 0, 1) := by decide +kernel
theorem dX5_readClause_19 : decode cX5_readClause 19 = .ok (.ireturn, 1) := by decide +kernel
theorem dX5_readClause_20 : decode cX5_readClause 20 = .ok (.aload_n 0, 1) := by decide +kernel
theorem dX5_readClause_21 : decode cX5_readClause 21 = .ok (.getfield 18, 3) := by decide +kernel
theorem dX5_readClause_24 : decode cX5_readClause 24 = .ok (.aload_n 0, 1) := by decide +kernel
theorem dX5_readClause_25 : decode cX5_readClause 25 = .ok (.getfield 31, 3) := by decide +kernel
theorem dX5_readClause_28 : decode cX5_readClause 28 = .ok (.invokevirtual 47, 3) := by decide +kernel
theorem dX5_readClause_31 : decode cX5_readClause 31 = .ok (.bipush 33, 2) := by decide +kernel
theorem dX5_readClause_33 : decode cX5_readClause 33 = .ok (.if_icmp .eq 23, 3) := by decide +kernel
theorem dX5_readClause_36 : decode cX5_readClause 36 = .ok (.aload_n 0, 1) := by decide +kernel
theorem dX5_readClause_37 : decode cX5_readClause 37 = .ok (.getfield 18, 3) := by decide +kernel
theorem dX5_readClause_40 : decode cX5_readClause 40 = .ok (.aload_n 0, 1) := by decide +kernel
theorem dX5_readClause_41 : decode cX5_readClause 41 = .ok (.getfield 31, 3) := by decide +kernel
theorem dX5_readClause_44 : decode cX5_readClause 44 = .ok (.invokevirtual 47, 3) := by decide +kernel
theorem dX5_readClause_47 : decode cX5_readClause 47 = .ok (.bipush 40, 2) := by decide +kernel
theorem dX5_readClause_49 : decode cX5_readClause 49 = .ok (.if_icmp .eq 7, 3) := by decide +kernel
theorem dX5_readClause_52 : decode cX5_readClause 52 = .ok (.iconst 1, 1) := by decide +kernel
theorem dX5_readClause_53 : decode cX5_readClause 53 = .ok (.goto 4, 3) := by decide +kernel
theorem dX5_readClause_56 : decode cX5_readClause 56 = .ok (.iconst 0, 1) := by decide +kernel
theorem dX5_readClause_57 : decode cX5_readClause 57 = .ok (.istore_n 1, 1) := by decide +kernel
theorem dX5_readClause_58 : decode cX5_readClause 58 = .ok (.iload_n 1, 1) := by decide +kernel
theorem dX5_readClause_59 : decode cX5_readClause 59 = .ok (.ifCond .eq 13, 3) := by decide +kernel
theorem dX5_readClause_62 : decode cX5_readClause 62 = .ok (.aload_n 0, 1) := by decide +kernel
theorem dX5_readClause_63 : decode cX5_readClause 63 = .ok (.iconst 0, 1) := by decide +kernel
theorem dX5_readClause_64 : decode cX5_readClause 64 = .ok (.invokevirtual 49, 3) := by decide +kernel
theorem dX5_readClause_67 : decode cX5_readClause 67 = .ok (.ifCond .ne 5, 3) := by decide +kernel
theorem dX5_readClause_70 : decode cX5_readClause 70 = .ok (.iconst 0, 1) := by decide +kernel
theorem dX5_readClause_71 : decode cX5_readClause 71 = .ok (.ireturn, 1) := by decide +kernel
theorem dX5_readClause_72 : decode cX5_readClause 72 = .ok (.iconst (-1), 1) := by decide +kernel
theorem dX5_readClause_73 : decode cX5_readClause 73 = .ok (.istore_n 2, 1) := by decide +kernel
theorem dX5_readClause_74 : decode cX5_readClause 74 = .ok (.iload_n 1, 1) := by decide +kernel
theorem dX5_readClause_75 : decode cX5_readClause 75 = .ok (.ifCond .eq 20, 3) := by decide +kernel
theorem dX5_readClause_78 : decode cX5_readClause 78 = .ok (.aload_n 0, 1) := by decide +kernel
theorem dX5_readClause_79 : decode cX5_readClause 79 = .ok (.getfield 18, 3) := by decide +kernel
theorem dX5_readClause_82 : decode cX5_readClause 82 = .ok (.aload_n 0, 1) := by decide +kernel
theorem dX5_readClause_83 : decode cX5_readClause 83 = .ok (.getfield 31, 3) := by decide +kernel
theorem dX5_readClause_86 : decode cX5_readClause 86 = .ok (.invokevirtual 47, 3) := by decide +kernel
theorem dX5_readClause_89 : decode cX5_readClause 89 = .ok (.invokestatic 52, 3) := by decide +kernel
theorem dX5_readClause_92 : decode cX5_readClause 92 = .ok (.ifCond .eq 50, 3) := by decide +kernel
theorem dX5_readClause_95 : decode cX5_readClause 95 = .ok (.aload_n 0, 1) := by decide +kernel
theorem dX5_readClause_96 : decode cX5_readClause 96 = .ok (.iconst 0, 1) := by decide +kernel
theorem dX5_readClause_97 : decode cX5_readClause 97 = .ok (.iload_n 1, 1) := by decide +kernel
theorem dX5_readClause_98 : decode cX5_readClause 98 = .ok (.invokevirtual 55, 3) := by decide +kernel
theorem dX5_readClause_101 : decode cX5_readClause 101 = .ok (.ifCond .eq 12, 3) := by decide +kernel
theorem dX5_readClause_104 : decode cX5_readClause 104 = .ok (.aload_n 0, 1) := by decide +kernel
theorem dX5_readClause_105 : decode cX5_readClause 105 = .ok (.bipush 63, 2) := by decide +kernel
theorem dX5_readClause_107 : decode cX5_readClause 107 = .ok (.invokevirtual 39, 3) := by decide +kernel
theorem dX5_readClause_110 : decode cX5_readClause 110 = .ok (.ifCond .ne 5, 3) := by decide +kernel
theorem dX5_readClause_113 : decode cX5_readClause 113 = .ok (.iconst 0, 1) := by decide +kernel
theorem dX5_readClause_114 : decode cX5_readClause 114 = .ok (.ireturn, 1) := by decide +kernel
theorem dX5_readClause_115 : decode cX5_readClause 115 = .ok (.aload_n 0, 1) := by decide +kernel
theorem dX5_readClause_116 : decode cX5_readClause 116 = .ok (.getfield 12, 3) := by decide +kernel
theorem dX5_readClause_119 : decode cX5_readClause 119 = .ok (.invokevirtual 59, 3) := by decide +kernel
theorem dX5_readClause_122 : decode cX5_readClause 122 = .ok (.istore_n 2, 1) := by decide +kernel
theorem dX5_readClause_123 : decode cX5_readClause 123 = .ok (.aload_n 0, 1) := by decide +kernel
theorem dX5_readClause_124 : decode cX5_readClause 124 = .ok (.getfield 12, 3) := by decide +kernel
theorem dX5_readClause_127 : decode cX5_readClause 127 = .ok (.iconst 3, 1) := by decide +kernel
theorem dX5_readClause_128 : decode cX5_readClause 128 = .ok (.iconst 0, 1) := by decide +kernel
theorem dX5_readClause_129 : decode cX5_readClause 129 = .ok (.invokevirtual 62, 3) := by decide +kernel
theorem dX5_readClause_132 : decode cX5_readClause 132 = .ok (.aload_n 0, 1) := by decide +kernel
theorem dX5_readClause_133 : decode cX5_readClause 133 = .ok (.iconst 0, 1) := by decide +kernel
theorem dX5_readClause_134 : decode cX5_readClause 134 = .ok (.invokevirtual 49, 3) := by decide +kernel
theorem dX5_readClause_137 : decode cX5_readClause 137 = .ok (.ifCond .ne 5, 3) := by decide +kernel
theorem dX5_readClause_140 : decode cX5_readClause 140 = .ok (.iconst 0, 1) := by decide +kernel
theorem dX5_readClause_141 : decode cX5_readClause 141 = .ok (.ireturn, 1) := by decide +kernel
theorem dX5_readClause_142 : decode cX5_readClause 142 = .ok (.aload_n 0, 1) := by decide +kernel
theorem dX5_readClause_143 : decode cX5_readClause 143 = .ok (.getfield 12, 3) := by decide +kernel
theorem dX5_readClause_146 : decode cX5_readClause 146 = .ok (.iconst 2, 1) := by decide +kernel
theorem dX5_readClause_147 : decode cX5_readClause 147 = .ok (.iconst 0, 1) := by decide +kernel
theorem dX5_readClause_148 : decode cX5_readClause 148 = .ok (.invokevirtual 62, 3) := by decide +kernel
theorem dX5_readClause_151 : decode cX5_readClause 151 = .ok (.aload_n 0, 1) := by decide +kernel
theorem dX5_readClause_152 : decode cX5_readClause 152 = .ok (.getfield 12, 3) := by decide +kernel
theorem dX5_readClause_155 : decode cX5_readClause 155 = .ok (.iload_n 2, 1) := by decide +kernel
theorem dX5_readClause_156 : decode cX5_readClause 156 = .ok (.invokevirtual 66, 3) := by decide +kernel
theorem dX5_readClause_159 : decode cX5_readClause 159 = .ok (.iconst 1, 1) := by decide +kernel
theorem dX5_readClause_160 : decode cX5_readClause 160 = .ok (.ireturn, 1) := by decide +kernel
theorem dX5_readCondition_0 : decode cX5_readCondition 0 = .ok (.aload_n 0, 1) := by decide +kernel
theorem dX5_readCondition_1 : decode cX5_readCondition 1 = .ok (.iload_n 1, 1) := by decide +kernel
theorem dX5_readCondition_2 : decode cX5_readCondition 2 = .ok (.iload_n 2, 1) := by decide +kernel
theorem dX5_readCondition_3 : decode cX5_readCondition 3 = .ok (.invokevirtual 70, 3) := by decide +kernel
theorem dX5_readCondition_6 : decode cX5_readCondition 6 = .ok (.ifCond .ne 5, 3) := by decide +kernel
theorem dX5_readCondition_9 : decode cX5_readCondition 9 = .ok (.iconst 0, 1) := by decide +kernel
theorem dX5_readCondition_10 : decode cX5_readCondition 10 = .ok (.ireturn, 1) := by decide +kernel
theorem dX5_readCondition_11 : decode cX5_readCondition 11 = .ok (.iconst 0, 1) := by decide +kernel
theorem dX5_readCondition_12 : decode cX5_readCondition 12 = .ok (.istore_n 3, 1) := by decide +kernel
theorem dX5_readCondition_13 : decode cX5_readCondition 13 = .ok (.iload_n 3, 1) := by decide +kernel
theorem dX5_readCondition_14 : decode cX5_readCondition 14 = .ok (.sipush 240, 3) := by decide +kernel
theorem dX5_readCondition_17 : decode cX5_readCondition 17 = .ok (.if_icmp .ge 50, 3) := by decide +kernel
theorem dX5_readCondition_20 : decode cX5_readCondition 20 = .ok (.aload_n 0, 1) := by decide +kernel
theorem dX5_readCondition_21 : decode cX5_readCondition 21 = .ok (.getfield 18, 3) := by decide +kernel
theorem dX5_readCondition_24 : decode cX5_readCondition 24 = .ok (.aload_n 0, 1) := by decide +kernel
theorem dX5_readCondition_25 : decode cX5_readCondition 25 = .ok (.getfield 31, 3) := by decide +kernel
theorem dX5_readCondition_28 : decode cX5_readCondition 28 = .ok (.invokevirtual 47, 3) := by decide +kernel
theorem dX5_readCondition_31 : decode cX5_readCondition 31 = .ok (.bipush 124, 2) := by decide +kernel
theorem dX5_readCondition_33 : decode cX5_readCondition 33 = .ok (.if_icmp .ne 34, 3) := by decide +kernel
theorem dX5_readCondition_36 : decode cX5_readCondition 36 = .ok (.aload_n 0, 1) := by decide +kernel
theorem dX5_readCondition_37 : decode cX5_readCondition 37 = .ok (.invokevirtual 73, 3) := by decide +kernel
theorem dX5_readCondition_40 : decode cX5_readCondition 40 = .ok (.aload_n 0, 1) := by decide +kernel
theorem dX5_readCondition_41 : decode cX5_readCondition 41 = .ok (.iload_n 1, 1) := by decide +kernel
theorem dX5_readCondition_42 : decode cX5_readCondition 42 = .ok (.iconst 0, 1) := by decide +kernel
theorem dX5_readCondition_43 : decode cX5_readCondition 43 = .ok (.invokevirtual 70, 3) := by decide +kernel
theorem dX5_readCondition_46 : decode cX5_readCondition 46 = .ok (.ifCond .ne 5, 3) := by decide +kernel
theorem dX5_readCondition_49 : decode cX5_readCondition 49 = .ok (.iconst 0, 1) := by decide +kernel
theorem dX5_readCondition_50 : decode cX5_readCondition 50 = .ok (.ireturn, 1) := by decide +kernel
theorem dX5_readCondition_51 : decode cX5_readCondition 51 = .ok (.aload_n 0, 1) := by decide +kernel
theorem dX5_readCondition_52 : decode cX5_readCondition 52 = .ok (.getfield 12, 3) := by decide +kernel
theorem dX5_readCondition_55 : decode cX5_readCondition 55 = .ok (.bipush 124, 2) := by decide +kernel
theorem dX5_readCondition_57 : decode cX5_readCondition 57 = .ok (.iconst 0, 1) := by decide +kernel
theorem dX5_readCondition_58 : decode cX5_readCondition 58 = .ok (.invokevirtual 62, 3) := by decide +kernel
theorem dX5_readCondition_61 : decode cX5_readCondition 61 = .ok (.iinc 3 1, 3) := by decide +kernel
theorem dX5_readCondition_64 : decode cX5_readCondition 64 = .ok (.goto (-51), 3) := by decide +kernel
theorem dX5_readCondition_67 : decode cX5_readCondition 67 = .ok (.iconst 1, 1) := by decide +kernel
theorem dX5_readCondition_68 : decode cX5_readCondition 68 = .ok (.ireturn, 1) := by decide +kernel
theorem dX5_readTruth_0 : decode cX5_readTruth 0 = .ok (.aload_n 0, 1) := by decide +kernel
theorem dX5_readTruth_1 : decode cX5_readTruth 1 = .ok (.iload_n 1, 1) := by decide +kernel
theorem dX5_readTruth_2 : decode cX5_readTruth 2 = .ok (.iload_n 2, 1) := by decide +kernel
theorem dX5_readTruth_3 : decode cX5_readTruth 3 = .ok (.invokevirtual 76, 3) := by decide +kernel
theorem dX5_readTruth_6 : decode cX5_readTruth 6 = .ok (.ifCond .ne 5, 3) := by decide +kernel
theorem dX5_readTruth_9 : decode cX5_readTruth 9 = .ok (.iconst 0, 1) := by decide +kernel
theorem dX5_readTruth_10 : decode cX5_readTruth 10 = .ok (.ireturn, 1) := by decide +kernel
theorem dX5_readTruth_11 : decode cX5_readTruth 11 = .ok (.iconst 0, 1) := by decide +kernel
theorem dX5_readTruth_12 : decode cX5_readTruth 12 = .ok (.istore_n 3, 1) := by decide +kernel
theorem dX5_readTruth_13 : decode cX5_readTruth 13 = .ok (.iload_n 3, 1) := by decide +kernel
theorem dX5_readTruth_14 : decode cX5_readTruth 14 = .ok (.sipush 240, 3) := by decide +kernel
theorem dX5_readTruth_17 : decode cX5_readTruth 17 = .ok (.if_icmp .ge 50, 3) := by decide +kernel
theorem dX5_readTruth_20 : decode cX5_readTruth 20 = .ok (.aload_n 0, 1) := by decide +kernel
theorem dX5_readTruth_21 : decode cX5_readTruth 21 = .ok (.getfield 18, 3) := by decide +kernel
theorem dX5_readTruth_24 : decode cX5_readTruth 24 = .ok (.aload_n 0, 1) := by decide +kernel
theorem dX5_readTruth_25 : decode cX5_readTruth 25 = .ok (.getfield 31, 3) := by decide +kernel
theorem dX5_readTruth_28 : decode cX5_readTruth 28 = .ok (.invokevirtual 47, 3) := by decide +kernel
theorem dX5_readTruth_31 : decode cX5_readTruth 31 = .ok (.bipush 38, 2) := by decide +kernel
theorem dX5_readTruth_33 : decode cX5_readTruth 33 = .ok (.if_icmp .ne 34, 3) := by decide +kernel
theorem dX5_readTruth_36 : decode cX5_readTruth 36 = .ok (.aload_n 0, 1) := by decide +kernel
theorem dX5_readTruth_37 : decode cX5_readTruth 37 = .ok (.invokevirtual 73, 3) := by decide +kernel
theorem dX5_readTruth_40 : decode cX5_readTruth 40 = .ok (.aload_n 0, 1) := by decide +kernel
theorem dX5_readTruth_41 : decode cX5_readTruth 41 = .ok (.iload_n 1, 1) := by decide +kernel
theorem dX5_readTruth_42 : decode cX5_readTruth 42 = .ok (.iconst 0, 1) := by decide +kernel
theorem dX5_readTruth_43 : decode cX5_readTruth 43 = .ok (.invokevirtual 76, 3) := by decide +kernel
theorem dX5_readTruth_46 : decode cX5_readTruth 46 = .ok (.ifCond .ne 5, 3) := by decide +kernel
theorem dX5_readTruth_49 : decode cX5_readTruth 49 = .ok (.iconst 0, 1) := by decide +kernel
theorem dX5_readTruth_50 : decode cX5_readTruth 50 = .ok (.ireturn, 1) := by decide +kernel
theorem dX5_readTruth_51 : decode cX5_readTruth 51 = .ok (.aload_n 0, 1) := by decide +kernel
theorem dX5_readTruth_52 : decode cX5_readTruth 52 = .ok (.getfield 12, 3) := by decide +kernel
theorem dX5_readTruth_55 : decode cX5_readTruth 55 = .ok (.bipush 38, 2) := by decide +kernel
theorem dX5_readTruth_57 : decode cX5_readTruth 57 = .ok (.iconst 0, 1) := by decide +kernel
theorem dX5_readTruth_58 : decode cX5_readTruth 58 = .ok (.invokevirtual 62, 3) := by decide +kernel
theorem dX5_readTruth_61 : decode cX5_readTruth 61 = .ok (.iinc 3 1, 3) := by decide +kernel
theorem dX5_readTruth_64 : decode cX5_readTruth 64 = .ok (.goto (-51), 3) := by decide +kernel
theorem dX5_readTruth_67 : decode cX5_readTruth 67 = .ok (.iconst 1, 1) := by decide +kernel
theorem dX5_readTruth_68 : decode cX5_readTruth 68 = .ok (.ireturn, 1) := by decide +kernel
theorem dX5_readUnit_0 : decode cX5_readUnit 0 = .ok (.iload_n 2, 1) := by decide +kernel
theorem dX5_readUnit_1 : decode cX5_readUnit 1 = .ok (.ifCond .eq 7, 3) := by decide +kernel
theorem dX5_readUnit_4 : decode cX5_readUnit 4 = .ok (.iconst 0, 1) := by decide +kernel
theorem dX5_readUnit_5 : decode cX5_readUnit 5 = .ok (.goto 14, 3) := by decide +kernel
theorem dX5_readUnit_8 : decode cX5_readUnit 8 = .ok (.aload_n 0, 1) := by decide +kernel
theorem dX5_readUnit_9 : decode cX5_readUnit 9 = .ok (.getfield 18, 3) := by decide +kernel
theorem dX5_readUnit_12 : decode cX5_readUnit 12 = .ok (.aload_n 0, 1) := by decide +kernel
theorem dX5_readUnit_13 : decode cX5_readUnit 13 = .ok (.getfield 31, 3) := by decide +kernel
theorem dX5_readUnit_16 : decode cX5_readUnit 16 = .ok (.invokevirtual 47, 3) := by decide +kernel
theorem dX5_readUnit_19 : decode cX5_readUnit 19 = .ok (.istore_n 3, 1) := by decide +kernel
theorem dX5_readUnit_20 : decode cX5_readUnit 20 = .ok (.iload_n 3, 1) := by decide +kernel
theorem dX5_readUnit_21 : decode cX5_readUnit 21 = .ok (.bipush 33, 2) := by decide +kernel
theorem dX5_readUnit_23 : decode cX5_readUnit 23 = .ok (.if_icmp .eq 9, 3) := by decide +kernel
theorem dX5_readUnit_26 : decode cX5_readUnit 26 = .ok (.iload_n 3, 1) := by decide +kernel
theorem dX5_readUnit_27 : decode cX5_readUnit 27 = .ok (.bipush 40, 2) := by decide +kernel
theorem dX5_readUnit_29 : decode cX5_readUnit 29 = .ok (.if_icmp .ne 26, 3) := by decide +kernel
theorem dX5_readUnit_32 : decode cX5_readUnit 32 = .ok (.iload_n 1, 1) := by decide +kernel
theorem dX5_readUnit_33 : decode cX5_readUnit 33 = .ok (.bipush 6, 2) := by decide +kernel
theorem dX5_readUnit_35 : decode cX5_readUnit 35 = .ok (.if_icmp .ge 18, 3) := by decide +kernel
theorem dX5_readUnit_38 : decode cX5_readUnit 38 = .ok (.aload_n 0, 1) := by decide +kernel
theorem dX5_readUnit_39 : decode cX5_readUnit 39 = .ok (.iload_n 1, 1) := by decide +kernel
theorem dX5_readUnit_40 : decode cX5_readUnit 40 = .ok (.iconst 1, 1) := by decide +kernel
theorem dX5_readUnit_41 : decode cX5_readUnit 41 = .ok (.iadd, 1) := by decide +kernel
theorem dX5_readUnit_42 : decode cX5_readUnit 42 = .ok (.iload_n 3, 1) := by decide +kernel
theorem dX5_readUnit_43 : decode cX5_readUnit 43 = .ok (.invokevirtual 79, 3) := by decide +kernel
theorem dX5_readUnit_46 : decode cX5_readUnit 46 = .ok (.ifCond .eq 7, 3) := by decide +kernel
theorem dX5_readUnit_49 : decode cX5_readUnit 49 = .ok (.iconst 1, 1) := by decide +kernel
theorem dX5_readUnit_50 : decode cX5_readUnit 50 = .ok (.goto 4, 3) := by decide +kernel
theorem dX5_readUnit_53 : decode cX5_readUnit 53 = .ok (.iconst 0, 1) := by decide +kernel
theorem dX5_readUnit_54 : decode cX5_readUnit 54 = .ok (.ireturn, 1) := by decide +kernel
theorem dX5_readUnit_55 : decode cX5_readUnit 55 = .ok (.iload_n 2, 1) := by decide +kernel
theorem dX5_readUnit_56 : decode cX5_readUnit 56 = .ok (.ifCond .ne 13, 3) := by decide +kernel
theorem dX5_readUnit_59 : decode cX5_readUnit 59 = .ok (.aload_n 0, 1) := by decide +kernel
theorem dX5_readUnit_60 : decode cX5_readUnit 60 = .ok (.iload_n 1, 1) := by decide +kernel
theorem dX5_readUnit_61 : decode cX5_readUnit 61 = .ok (.invokevirtual 49, 3) := by decide +kernel
theorem dX5_readUnit_64 : decode cX5_readUnit 64 = .ok (.ifCond .ne 5, 3) := by decide +kernel
theorem dX5_readUnit_67 : decode cX5_readUnit 67 = .ok (.iconst 0, 1) := by decide +kernel
theorem dX5_readUnit_68 : decode cX5_readUnit 68 = .ok (.ireturn, 1) := by decide +kernel
theorem dX5_readUnit_69 : decode cX5_readUnit 69 = .ok (.aload_n 0, 1) := by decide +kernel
theorem dX5_readUnit_70 : decode cX5_readUnit 70 = .ok (.getfield 18, 3) := by decide +kernel
theorem dX5_readUnit_73 : decode cX5_readUnit 73 = .ok (.aload_n 0, 1) := by decide +kernel
theorem dX5_readUnit_74 : decode cX5_readUnit 74 = .ok (.getfield 31, 3) := by decide +kernel
theorem dX5_readUnit_77 : decode cX5_readUnit 77 = .ok (.invokevirtual 47, 3) := by decide +kernel
theorem dX5_readUnit_80 : decode cX5_readUnit 80 = .ok (.istore 4, 2) := by decide +kernel
theorem dX5_readUnit_82 : decode cX5_readUnit 82 = .ok (.iload 4, 2) := by decide +kernel
theorem dX5_readUnit_84 : decode cX5_readUnit 84 = .ok (.invokestatic 52, 3) := by decide +kernel
theorem dX5_readUnit_87 : decode cX5_readUnit 87 = .ok (.ifCond .ne 5, 3) := by decide +kernel
theorem dX5_readUnit_90 : decode cX5_readUnit 90 = .ok (.iconst 0, 1) := by decide +kernel
theorem dX5_readUnit_91 : decode cX5_readUnit 91 = .ok (.ireturn, 1) := by decide +kernel
theorem dX5_readUnit_92 : decode cX5_readUnit 92 = .ok (.aload_n 0, 1) := by decide +kernel
theorem dX5_readUnit_93 : decode cX5_readUnit 93 = .ok (.invokevirtual 73, 3) := by decide +kernel
theorem dX5_readUnit_96 : decode cX5_readUnit 96 = .ok (.aload_n 0, 1) := by decide +kernel
theorem dX5_readUnit_97 : decode cX5_readUnit 97 = .ok (.iload_n 1, 1) := by decide +kernel
theorem dX5_readUnit_98 : decode cX5_readUnit 98 = .ok (.invokevirtual 49, 3) := by decide +kernel
theorem dX5_readUnit_101 : decode cX5_readUnit 101 = .ok (.ifCond .ne 5, 3) := by decide +kernel
theorem dX5_readUnit_104 : decode cX5_readUnit 104 = .ok (.iconst 0, 1) := by decide +kernel
theorem dX5_readUnit_105 : decode cX5_readUnit 105 = .ok (.ireturn, 1) := by decide +kernel
theorem dX5_readUnit_106 : decode cX5_readUnit 106 = .ok (.aload_n 0, 1) := by decide +kernel
theorem dX5_readUnit_107 : decode cX5_readUnit 107 = .ok (.getfield 12, 3) := by decide +kernel
theorem dX5_readUnit_110 : decode cX5_readUnit 110 = .ok (.iload 4, 2) := by decide +kernel
theorem dX5_readUnit_112 : decode cX5_readUnit 112 = .ok (.iconst 0, 1) := by decide +kernel
theorem dX5_readUnit_113 : decode cX5_readUnit 113 = .ok (.invokevirtual 62, 3) := by decide +kernel
theorem dX5_readUnit_116 : decode cX5_readUnit 116 = .ok (.iconst 1, 1) := by decide +kernel
theorem dX5_readUnit_117 : decode cX5_readUnit 117 = .ok (.ireturn, 1) := by decide +kernel
theorem dX5_readNestedUnit_0 : decode cX5_readNestedUnit 0 = .ok (.aload_n 0, 1) := by decide +kernel
theorem dX5_readNestedUnit_1 : decode cX5_readNestedUnit 1 = .ok (.invokevirtual 73, 3) := by decide +kernel
theorem dX5_readNestedUnit_4 : decode cX5_readNestedUnit 4 = .ok (.iload_n 2, 1) := by decide +kernel
theorem dX5_readNestedUnit_5 : decode cX5_readNestedUnit 5 = .ok (.bipush 40, 2) := by decide +kernel
theorem dX5_readNestedUnit_7 : decode cX5_readNestedUnit 7 = .ok (.if_icmp .ne 27, 3) := by decide +kernel
theorem dX5_readNestedUnit_10 : decode cX5_readNestedUnit 10 = .ok (.aload_n 0, 1) := by decide +kernel
theorem dX5_readNestedUnit_11 : decode cX5_readNestedUnit 11 = .ok (.iload_n 1, 1) := by decide +kernel
theorem dX5_readNestedUnit_12 : decode cX5_readNestedUnit 12 = .ok (.iconst 0, 1) := by decide +kernel
theorem dX5_readNestedUnit_13 : decode cX5_readNestedUnit 13 = .ok (.invokevirtual 55, 3) := by decide +kernel
theorem dX5_readNestedUnit_16 : decode cX5_readNestedUnit 16 = .ok (.ifCond .eq 16, 3) := by decide +kernel
theorem dX5_readNestedUnit_19 : decode cX5_readNestedUnit 19 = .ok (.aload_n 0, 1) := by decide +kernel
theorem dX5_readNestedUnit_20 : decode cX5_readNestedUnit 20 = .ok (.bipush 41, 2) := by decide +kernel
theorem dX5_readNestedUnit_22 : decode cX5_readNestedUnit 22 = .ok (.invokevirtual 39, 3) := by decide +kernel
theorem dX5_readNestedUnit_25 : decode cX5_readNestedUnit 25 = .ok (.ifCond .eq 7, 3) := by decide +kernel
theorem dX5_readNestedUnit_28 : decode cX5_readNestedUnit 28 = .ok (.iconst 1, 1) := by decide +kernel
theorem dX5_readNestedUnit_29 : decode cX5_readNestedUnit 29 = .ok (.goto 4, 3) := by decide +kernel
theorem dX5_readNestedUnit_32 : decode cX5_readNestedUnit 32 = .ok (.iconst 0, 1) := by decide +kernel
theorem dX5_readNestedUnit_33 : decode cX5_readNestedUnit 33 = .ok (.ireturn, 1) := by decide +kernel
theorem dX5_readNestedUnit_34 : decode cX5_readNestedUnit 34 = .ok (.aload_n 0, 1) := by decide +kernel
theorem dX5_readNestedUnit_35 : decode cX5_readNestedUnit 35 = .ok (.iload_n 1, 1) := by decide +kernel
theorem dX5_readNestedUnit_36 : decode cX5_readNestedUnit 36 = .ok (.iconst 0, 1) := by decide +kernel
theorem dX5_readNestedUnit_37 : decode cX5_readNestedUnit 37 = .ok (.invokevirtual 76, 3) := by decide +kernel
theorem dX5_readNestedUnit_40 : decode cX5_readNestedUnit 40 = .ok (.ifCond .ne 5, 3) := by decide +kernel
theorem dX5_readNestedUnit_43 : decode cX5_readNestedUnit 43 = .ok (.iconst 0, 1) := by decide +kernel
theorem dX5_readNestedUnit_44 : decode cX5_readNestedUnit 44 = .ok (.ireturn, 1) := by decide +kernel
theorem dX5_readNestedUnit_45 : decode cX5_readNestedUnit 45 = .ok (.aload_n 0, 1) := by decide +kernel
theorem dX5_readNestedUnit_46 : decode cX5_readNestedUnit 46 = .ok (.getfield 12, 3) := by decide +kernel
theorem dX5_readNestedUnit_49 : decode cX5_readNestedUnit 49 = .ok (.bipush 33, 2) := by decide +kernel
theorem dX5_readNestedUnit_51 : decode cX5_readNestedUnit 51 = .ok (.iconst 0, 1) := by decide +kernel
theorem dX5_readNestedUnit_52 : decode cX5_readNestedUnit 52 = .ok (.invokevirtual 62, 3) := by decide +kernel
theorem dX5_readNestedUnit_55 : decode cX5_readNestedUnit 55 = .ok (.iconst 1, 1) := by decide +kernel
theorem dX5_readNestedUnit_56 : decode cX5_readNestedUnit 56 = .ok (.ireturn, 1) := by decide +kernel
theorem dX5_readSum_0 : decode cX5_readSum 0 = .ok (.aload_n 0, 1) := by decide +kernel
theorem dX5_readSum_1 : decode cX5_readSum 1 = .ok (.iload_n 1, 1) := by decide +kernel
theorem dX5_readSum_2 : decode cX5_readSum 2 = .ok (.invokevirtual 83, 3) := by decide +kernel
theorem dX5_readSum_5 : decode cX5_readSum 5 = .ok (.ifCond .ne 5, 3) := by decide +kernel
theorem dX5_readSum_8 : decode cX5_readSum 8 = .ok (.iconst 0, 1) := by decide +kernel
theorem dX5_readSum_9 : decode cX5_readSum 9 = .ok (.ireturn, 1) := by decide +kernel
theorem dX5_readSum_10 : decode cX5_readSum 10 = .ok (.iconst 0, 1) := by decide +kernel
theorem dX5_readSum_11 : decode cX5_readSum 11 = .ok (.istore_n 2, 1) := by decide +kernel
theorem dX5_readSum_12 : decode cX5_readSum 12 = .ok (.iload_n 2, 1) := by decide +kernel
theorem dX5_readSum_13 : decode cX5_readSum 13 = .ok (.sipush 240, 3) := by decide +kernel
theorem dX5_readSum_16 : decode cX5_readSum 16 = .ok (.if_icmp .ge 55, 3) := by decide +kernel
theorem dX5_readSum_19 : decode cX5_readSum 19 = .ok (.aload_n 0, 1) := by decide +kernel
theorem dX5_readSum_20 : decode cX5_readSum 20 = .ok (.bipush 43, 2) := by decide +kernel
theorem dX5_readSum_22 : decode cX5_readSum 22 = .ok (.bipush 45, 2) := by decide +kernel
theorem dX5_readSum_24 : decode cX5_readSum 24 = .ok (.invokevirtual 86, 3) := by decide +kernel
theorem dX5_readSum_27 : decode cX5_readSum 27 = .ok (.ifCond .eq 44, 3) := by decide +kernel
theorem dX5_readSum_30 : decode cX5_readSum 30 = .ok (.aload_n 0, 1) := by decide +kernel
theorem dX5_readSum_31 : decode cX5_readSum 31 = .ok (.getfield 18, 3) := by decide +kernel
theorem dX5_readSum_34 : decode cX5_readSum 34 = .ok (.aload_n 0, 1) := by decide +kernel
theorem dX5_readSum_35 : decode cX5_readSum 35 = .ok (.getfield 31, 3) := by decide +kernel
theorem dX5_readSum_38 : decode cX5_readSum 38 = .ok (.invokevirtual 47, 3) := by decide +kernel
theorem dX5_readSum_41 : decode cX5_readSum 41 = .ok (.istore_n 3, 1) := by decide +kernel
theorem dX5_readSum_42 : decode cX5_readSum 42 = .ok (.aload_n 0, 1) := by decide +kernel
theorem dX5_readSum_43 : decode cX5_readSum 43 = .ok (.invokevirtual 73, 3) := by decide +kernel
theorem dX5_readSum_46 : decode cX5_readSum 46 = .ok (.aload_n 0, 1) := by decide +kernel
theorem dX5_readSum_47 : decode cX5_readSum 47 = .ok (.iload_n 1, 1) := by decide +kernel
theorem dX5_readSum_48 : decode cX5_readSum 48 = .ok (.invokevirtual 83, 3) := by decide +kernel
theorem dX5_readSum_51 : decode cX5_readSum 51 = .ok (.ifCond .ne 5, 3) := by decide +kernel
theorem dX5_readSum_54 : decode cX5_readSum 54 = .ok (.iconst 0, 1) := by decide +kernel
theorem dX5_readSum_55 : decode cX5_readSum 55 = .ok (.ireturn, 1) := by decide +kernel
theorem dX5_readSum_56 : decode cX5_readSum 56 = .ok (.aload_n 0, 1) := by decide +kernel
theorem dX5_readSum_57 : decode cX5_readSum 57 = .ok (.getfield 12, 3) := by decide +kernel
theorem dX5_readSum_60 : decode cX5_readSum 60 = .ok (.iload_n 3, 1) := by decide +kernel
theorem dX5_readSum_61 : decode cX5_readSum 61 = .ok (.iconst 0, 1) := by decide +kernel
theorem dX5_readSum_62 : decode cX5_readSum 62 = .ok (.invokevirtual 62, 3) := by decide +kernel
theorem dX5_readSum_65 : decode cX5_readSum 65 = .ok (.iinc 2 1, 3) := by decide +kernel
theorem dX5_readSum_68 : decode cX5_readSum 68 = .ok (.goto (-56), 3) := by decide +kernel
theorem dX5_readSum_71 : decode cX5_readSum 71 = .ok (.iconst 1, 1) := by decide +kernel
theorem dX5_readSum_72 : decode cX5_readSum 72 = .ok (.ireturn, 1) := by decide +kernel
theorem dX5_readTerm_0 : decode cX5_readTerm 0 = .ok (.aload_n 0, 1) := by decide +kernel
theorem dX5_readTerm_1 : decode cX5_readTerm 1 = .ok (.iload_n 1, 1) := by decide +kernel
theorem dX5_readTerm_2 : decode cX5_readTerm 2 = .ok (.invokevirtual 89, 3) := by decide +kernel
theorem dX5_readTerm_5 : decode cX5_readTerm 5 = .ok (.ifCond .ne 5, 3) := by decide +kernel
theorem dX5_readTerm_8 : decode cX5_readTerm 8 = .ok (.iconst 0, 1) := by decide +kernel
theorem dX5_readTerm_9 : decode cX5_readTerm 9 = .ok (.ireturn, 1) := by decide +kernel
theorem dX5_readTerm_10 : decode cX5_readTerm 10 = .ok (.iconst 0, 1) := by decide +kernel
theorem dX5_readTerm_11 : decode cX5_readTerm 11 = .ok (.istore_n 2, 1) := by decide +kernel
theorem dX5_readTerm_12 : decode cX5_readTerm 12 = .ok (.iload_n 2, 1) := by decide +kernel
theorem dX5_readTerm_13 : decode cX5_readTerm 13 = .ok (.sipush 240, 3) := by decide +kernel
theorem dX5_readTerm_16 : decode cX5_readTerm 16 = .ok (.if_icmp .ge 55, 3) := by decide +kernel
theorem dX5_readTerm_19 : decode cX5_readTerm 19 = .ok (.aload_n 0, 1) := by decide +kernel
theorem dX5_readTerm_20 : decode cX5_readTerm 20 = .ok (.bipush 42, 2) := by decide +kernel
theorem dX5_readTerm_22 : decode cX5_readTerm 22 = .ok (.bipush 47, 2) := by decide +kernel
theorem dX5_readTerm_24 : decode cX5_readTerm 24 = .ok (.invokevirtual 86, 3) := by decide +kernel
theorem dX5_readTerm_27 : decode cX5_readTerm 27 = .ok (.ifCond .eq 44, 3) := by decide +kernel
theorem dX5_readTerm_30 : decode cX5_readTerm 30 = .ok (.aload_n 0, 1) := by decide +kernel
theorem dX5_readTerm_31 : decode cX5_readTerm 31 = .ok (.getfield 18, 3) := by decide +kernel
theorem dX5_readTerm_34 : decode cX5_readTerm 34 = .ok (.aload_n 0, 1) := by decide +kernel
theorem dX5_readTerm_35 : decode cX5_readTerm 35 = .ok (.getfield 31, 3) := by decide +kernel
theorem dX5_readTerm_38 : decode cX5_readTerm 38 = .ok (.invokevirtual 47, 3) := by decide +kernel
theorem dX5_readTerm_41 : decode cX5_readTerm 41 = .ok (.istore_n 3, 1) := by decide +kernel
theorem dX5_readTerm_42 : decode cX5_readTerm 42 = .ok (.aload_n 0, 1) := by decide +kernel
theorem dX5_readTerm_43 : decode cX5_readTerm 43 = .ok (.invokevirtual 73, 3) := by decide +kernel
theorem dX5_readTerm_46 : decode cX5_readTerm 46 = .ok (.aload_n 0, 1) := by decide +kernel
theorem dX5_readTerm_47 : decode cX5_readTerm 47 = .ok (.iload_n 1, 1) := by decide +kernel
theorem dX5_readTerm_48 : decode cX5_readTerm 48 = .ok (.invokevirtual 89, 3) := by decide +kernel
theorem dX5_readTerm_51 : decode cX5_readTerm 51 = .ok (.ifCond .ne 5, 3) := by decide +kernel
theorem dX5_readTerm_54 : decode cX5_readTerm 54 = .ok (.iconst 0, 1) := by decide +kernel
theorem dX5_readTerm_55 : decode cX5_readTerm 55 = .ok (.ireturn, 1) := by decide +kernel
theorem dX5_readTerm_56 : decode cX5_readTerm 56 = .ok (.aload_n 0, 1) := by decide +kernel
theorem dX5_readTerm_57 : decode cX5_readTerm 57 = .ok (.getfield 12, 3) := by decide +kernel
theorem dX5_readTerm_60 : decode cX5_readTerm 60 = .ok (.iload_n 3, 1) := by decide +kernel
theorem dX5_readTerm_61 : decode cX5_readTerm 61 = .ok (.iconst 0, 1) := by decide +kernel
theorem dX5_readTerm_62 : decode cX5_readTerm 62 = .ok (.invokevirtual 62, 3) := by decide +kernel
theorem dX5_readTerm_65 : decode cX5_readTerm 65 = .ok (.iinc 2 1, 3) := by decide +kernel
theorem dX5_readTerm_68 : decode cX5_readTerm 68 = .ok (.goto (-56), 3) := by decide +kernel
theorem dX5_readTerm_71 : decode cX5_readTerm 71 = .ok (.iconst 1, 1) := by decide +kernel
theorem dX5_readTerm_72 : decode cX5_readTerm 72 = .ok (.ireturn, 1) := by decide +kernel
theorem dX5_readAtom_0 : decode cX5_readAtom 0 = .ok (.aload_n 0, 1) := by decide +kernel
theorem dX5_readAtom_1 : decode cX5_readAtom 1 = .ok (.getfield 18, 3) := by decide +kernel
theorem dX5_readAtom_4 : decode cX5_readAtom 4 = .ok (.aload_n 0, 1) := by decide +kernel
theorem dX5_readAtom_5 : decode cX5_readAtom 5 = .ok (.getfield 31, 3) := by decide +kernel
theorem dX5_readAtom_8 : decode cX5_readAtom 8 = .ok (.invokevirtual 47, 3) := by decide +kernel
theorem dX5_readAtom_11 : decode cX5_readAtom 11 = .ok (.istore_n 2, 1) := by decide +kernel
theorem dX5_readAtom_12 : decode cX5_readAtom 12 = .ok (.iload_n 2, 1) := by decide +kernel
theorem dX5_readAtom_13 : decode cX5_readAtom 13 = .ok (.bipush 91, 2) := by decide +kernel
theorem dX5_readAtom_15 : decode cX5_readAtom 15 = .ok (.if_icmp .ne 40, 3) := by decide +kernel
theorem dX5_readAtom_18 : decode cX5_readAtom 18 = .ok (.iload_n 1, 1) := by decide +kernel
theorem dX5_readAtom_19 : decode cX5_readAtom 19 = .ok (.bipush 6, 2) := by decide +kernel
theorem dX5_readAtom_21 : decode cX5_readAtom 21 = .ok (.if_icmp .lt 5, 3) := by decide +kernel
theorem dX5_readAtom_24 : decode cX5_readAtom 24 = .ok (.iconst 0, 1) := by decide +kernel
theorem dX5_readAtom_25 : decode cX5_readAtom 25 = .ok (.ireturn, 1) := by decide +kernel
theorem dX5_readAtom_26 : decode cX5_readAtom 26 = .ok (.aload_n 0, 1) := by decide +kernel
theorem dX5_readAtom_27 : decode cX5_readAtom 27 = .ok (.invokevirtual 73, 3) := by decide +kernel
theorem dX5_readAtom_30 : decode cX5_readAtom 30 = .ok (.aload_n 0, 1) := by decide +kernel
theorem dX5_readAtom_31 : decode cX5_readAtom 31 = .ok (.iload_n 1, 1) := by decide +kernel
theorem dX5_readAtom_32 : decode cX5_readAtom 32 = .ok (.iconst 1, 1) := by decide +kernel
theorem dX5_readAtom_33 : decode cX5_readAtom 33 = .ok (.iadd, 1) := by decide +kernel
theorem dX5_readAtom_34 : decode cX5_readAtom 34 = .ok (.invokevirtual 49, 3) := by decide +kernel
theorem dX5_readAtom_37 : decode cX5_readAtom 37 = .ok (.ifCond .eq 16, 3) := by decide +kernel
theorem dX5_readAtom_40 : decode cX5_readAtom 40 = .ok (.aload_n 0, 1) := by decide +kernel
theorem dX5_readAtom_41 : decode cX5_readAtom 41 = .ok (.bipush 93, 2) := by decide +kernel
theorem dX5_readAtom_43 : decode cX5_readAtom 43 = .ok (.invokevirtual 39, 3) := by decide +kernel
theorem dX5_readAtom_46 : decode cX5_readAtom 46 = .ok (.ifCond .eq 7, 3) := by decide +kernel
theorem dX5_readAtom_49 : decode cX5_readAtom 49 = .ok (.iconst 1, 1) := by decide +kernel
theorem dX5_readAtom_50 : decode cX5_readAtom 50 = .ok (.goto 4, 3) := by decide +kernel
theorem dX5_readAtom_53 : decode cX5_readAtom 53 = .ok (.iconst 0, 1) := by decide +kernel
theorem dX5_readAtom_54 : decode cX5_readAtom 54 = .ok (.ireturn, 1) := by decide +kernel
theorem dX5_readAtom_55 : decode cX5_readAtom 55 = .ok (.iload_n 2, 1) := by decide +kernel
theorem dX5_readAtom_56 : decode cX5_readAtom 56 = .ok (.invokestatic 92, 3) := by decide +kernel
theorem dX5_readAtom_59 : decode cX5_readAtom 59 = .ok (.istore_n 3, 1) := by decide +kernel
theorem dX5_readAtom_60 : decode cX5_readAtom 60 = .ok (.iload_n 3, 1) := by decide +kernel
theorem dX5_readAtom_61 : decode cX5_readAtom 61 = .ok (.iconst (-1), 1) := by decide +kernel
theorem dX5_readAtom_62 : decode cX5_readAtom 62 = .ok (.if_icmp .ne 8, 3) := by decide +kernel
theorem dX5_readAtom_65 : decode cX5_readAtom 65 = .ok (.aload_n 0, 1) := by decide +kernel
theorem dX5_readAtom_66 : decode cX5_readAtom 66 = .ok (.invokevirtual 95, 3) := by decide +kernel
theorem dX5_readAtom_69 : decode cX5_readAtom 69 = .ok (.ireturn, 1) := by decide +kernel
theorem dX5_readAtom_70 : decode cX5_readAtom 70 = .ok (.aload_n 0, 1) := by decide +kernel
theorem dX5_readAtom_71 : decode cX5_readAtom 71 = .ok (.getfield 12, 3) := by decide +kernel
theorem dX5_readAtom_74 : decode cX5_readAtom 74 = .ok (.iconst 1, 1) := by decide +kernel
theorem dX5_readAtom_75 : decode cX5_readAtom 75 = .ok (.iload_n 3, 1) := by decide +kernel
theorem dX5_readAtom_76 : decode cX5_readAtom 76 = .ok (.invokevirtual 62, 3) := by decide +kernel
theorem dX5_readAtom_79 : decode cX5_readAtom 79 = .ok (.aload_n 0, 1) := by decide +kernel
theorem dX5_readAtom_80 : decode cX5_readAtom 80 = .ok (.invokevirtual 73, 3) := by decide +kernel
theorem dX5_readAtom_83 : decode cX5_readAtom 83 = .ok (.iconst 1, 1) := by decide +kernel
theorem dX5_readAtom_84 : decode cX5_readAtom 84 = .ok (.ireturn, 1) := by decide +kernel
theorem dX5_readNumber_0 : decode cX5_readNumber 0 = .ok (.aload_n 0, 1) := by decide +kernel
theorem dX5_readNumber_1 : decode cX5_readNumber 1 = .ok (.getfield 18, 3) := by decide +kernel
theorem dX5_readNumber_4 : decode cX5_readNumber 4 = .ok (.aload_n 0, 1) := by decide +kernel
theorem dX5_readNumber_5 : decode cX5_readNumber 5 = .ok (.getfield 31, 3) := by decide +kernel
theorem dX5_readNumber_8 : decode cX5_readNumber 8 = .ok (.iconst 5, 1) := by decide +kernel
theorem dX5_readNumber_9 : decode cX5_readNumber 9 = .ok (.invokevirtual 98, 3) := by decide +kernel
theorem dX5_readNumber_12 : decode cX5_readNumber 12 = .ok (.istore_n 1, 1) := by decide +kernel
theorem dX5_readNumber_13 : decode cX5_readNumber 13 = .ok (.iload_n 1, 1) := by decide +kernel
theorem dX5_readNumber_14 : decode cX5_readNumber 14 = .ok (.ifCond .ne 5, 3) := by decide +kernel
theorem dX5_readNumber_17 : decode cX5_readNumber 17 = .ok (.iconst 0, 1) := by decide +kernel
theorem dX5_readNumber_18 : decode cX5_readNumber 18 = .ok (.ireturn, 1) := by decide +kernel
theorem dX5_readNumber_19 : decode cX5_readNumber 19 = .ok (.iload_n 1, 1) := by decide +kernel
theorem dX5_readNumber_20 : decode cX5_readNumber 20 = .ok (.iconst 4, 1) := by decide +kernel
theorem dX5_readNumber_21 : decode cX5_readNumber 21 = .ok (.if_icmp .le 15, 3) := by decide +kernel
theorem dX5_readNumber_24 : decode cX5_readNumber 24 = .ok (.aload_n 0, 1) := by decide +kernel
theorem dX5_readNumber_25 : decode cX5_readNumber 25 = .ok (.dup, 1) := by decide +kernel
theorem dX5_readNumber_26 : decode cX5_readNumber 26 = .ok (.getfield 31, 3) := by decide +kernel
theorem dX5_readNumber_29 : decode cX5_readNumber 29 = .ok (.iconst 4, 1) := by decide +kernel
theorem dX5_readNumber_30 : decode cX5_readNumber 30 = .ok (.iadd, 1) := by decide +kernel
theorem dX5_readNumber_31 : decode cX5_readNumber 31 = .ok (.putfield 31, 3) := by decide +kernel
theorem dX5_readNumber_34 : decode cX5_readNumber 34 = .ok (.iconst 0, 1) := by decide +kernel
theorem dX5_readNumber_35 : decode cX5_readNumber 35 = .ok (.ireturn, 1) := by decide +kernel
theorem dX5_readNumber_36 : decode cX5_readNumber 36 = .ok (.aload_n 0, 1) := by decide +kernel
theorem dX5_readNumber_37 : decode cX5_readNumber 37 = .ok (.getfield 12, 3) := by decide +kernel
theorem dX5_readNumber_40 : decode cX5_readNumber 40 = .ok (.iconst 0, 1) := by decide +kernel
theorem dX5_readNumber_41 : decode cX5_readNumber 41 = .ok (.aload_n 0, 1) := by decide +kernel
theorem dX5_readNumber_42 : decode cX5_readNumber 42 = .ok (.getfield 18, 3) := by decide +kernel
theorem dX5_readNumber_45 : decode cX5_readNumber 45 = .ok (.aload_n 0, 1) := by decide +kernel
theorem dX5_readNumber_46 : decode cX5_readNumber 46 = .ok (.getfield 31, 3) := by decide +kernel
theorem dX5_readNumber_49 : decode cX5_readNumber 49 = .ok (.iload_n 1, 1) := by decide +kernel
theorem dX5_readNumber_50 : decode cX5_readNumber 50 = .ok (.invokevirtual 102, 3) := by decide +kernel
theorem dX5_readNumber_53 : decode cX5_readNumber 53 = .ok (.invokevirtual 62, 3) := by decide +kernel
theorem dX5_readNumber_56 : decode cX5_readNumber 56 = .ok (.aload_n 0, 1) := by decide +kernel
theorem dX5_readNumber_57 : decode cX5_readNumber 57 = .ok (.aload_n 0, 1) := by decide +kernel
theorem dX5_readNumber_58 : decode cX5_readNumber 58 = .ok (.getfield 18, 3) := by decide +kernel
theorem dX5_readNumber_61 : decode cX5_readNumber 61 = .ok (.aload_n 0, 1) := by decide +kernel
theorem dX5_readNumber_62 : decode cX5_readNumber 62 = .ok (.getfield 31, 3) := by decide +kernel
theorem dX5_readNumber_65 : decode cX5_readNumber 65 = .ok (.iload_n 1, 1) := by decide +kernel
theorem dX5_readNumber_66 : decode cX5_readNumber 66 = .ok (.iadd, 1) := by decide +kernel
theorem dX5_readNumber_67 : decode cX5_readNumber 67 = .ok (.invokevirtual 25, 3) := by decide +kernel
theorem dX5_readNumber_70 : decode cX5_readNumber 70 = .ok (.putfield 31, 3) := by decide +kernel
theorem dX5_readNumber_73 : decode cX5_readNumber 73 = .ok (.iconst 1, 1) := by decide +kernel
theorem dX5_readNumber_74 : decode cX5_readNumber 74 = .ok (.ireturn, 1) := by decide +kernel
theorem dX5_isEither_0 : decode cX5_isEither 0 = .ok (.aload_n 0, 1) := by decide +kernel
theorem dX5_isEither_1 : decode cX5_isEither 1 = .ok (.getfield 18, 3) := by decide +kernel
theorem dX5_isEither_4 : decode cX5_isEither 4 = .ok (.aload_n 0, 1) := by decide +kernel
theorem dX5_isEither_5 : decode cX5_isEither 5 = .ok (.getfield 31, 3) := by decide +kernel
theorem dX5_isEither_8 : decode cX5_isEither 8 = .ok (.invokevirtual 47, 3) := by decide +kernel
theorem dX5_isEither_11 : decode cX5_isEither 11 = .ok (.iload_n 1, 1) := by decide +kernel
theorem dX5_isEither_12 : decode cX5_isEither 12 = .ok (.if_icmp .eq 18, 3) := by decide +kernel
theorem dX5_isEither_15 : decode cX5_isEither 15 = .ok (.aload_n 0, 1) := by decide +kernel
theorem dX5_isEither_16 : decode cX5_isEither 16 = .ok (.getfield 18, 3) := by decide +kernel
theorem dX5_isEither_19 : decode cX5_isEither 19 = .ok (.aload_n 0, 1) := by decide +kernel
theorem dX5_isEither_20 : decode cX5_isEither 20 = .ok (.getfield 31, 3) := by decide +kernel
theorem dX5_isEither_23 : decode cX5_isEither 23 = .ok (.invokevirtual 47, 3) := by decide +kernel
theorem dX5_isEither_26 : decode cX5_isEither 26 = .ok (.iload_n 2, 1) := by decide +kernel
theorem dX5_isEither_27 : decode cX5_isEither 27 = .ok (.if_icmp .ne 7, 3) := by decide +kernel
theorem dX5_isEither_30 : decode cX5_isEither 30 = .ok (.iconst 1, 1) := by decide +kernel
theorem dX5_isEither_31 : decode cX5_isEither 31 = .ok (.goto 4, 3) := by decide +kernel
theorem dX5_isEither_34 : decode cX5_isEither 34 = .ok (.iconst 0, 1) := by decide +kernel
theorem dX5_isEither_35 : decode cX5_isEither 35 = .ok (.ireturn, 1) := by decide +kernel
theorem dX5_isComparison_0 : decode cX5_isComparison 0 = .ok (.iload_n 0, 1) := by decide +kernel
theorem dX5_isComparison_1 : decode cX5_isComparison 1 = .ok (.bipush 61, 2) := by decide +kernel
theorem dX5_isComparison_3 : decode cX5_isComparison 3 = .ok (.if_icmp .eq 15, 3) := by decide +kernel
theorem dX5_isComparison_6 : decode cX5_isComparison 6 = .ok (.iload_n 0, 1) := by decide +kernel
theorem dX5_isComparison_7 : decode cX5_isComparison 7 = .ok (.bipush 60, 2) := by decide +kernel
theorem dX5_isComparison_9 : decode cX5_isComparison 9 = .ok (.if_icmp .eq 9, 3) := by decide +kernel
theorem dX5_isComparison_12 : decode cX5_isComparison 12 = .ok (.iload_n 0, 1) := by decide +kernel
theorem dX5_isComparison_13 : decode cX5_isComparison 13 = .ok (.bipush 62, 2) := by decide +kernel
theorem dX5_isComparison_15 : decode cX5_isComparison 15 = .ok (.if_icmp .ne 7, 3) := by decide +kernel
theorem dX5_isComparison_18 : decode cX5_isComparison 18 = .ok (.iconst 1, 1) := by decide +kernel
theorem dX5_isComparison_19 : decode cX5_isComparison 19 = .ok (.goto 4, 3) := by decide +kernel
theorem dX5_isComparison_22 : decode cX5_isComparison 22 = .ok (.iconst 0, 1) := by decide +kernel
theorem dX5_isComparison_23 : decode cX5_isComparison 23 = .ok (.ireturn, 1) := by decide +kernel
theorem dX5_letterOf_0 : decode cX5_letterOf 0 = .ok (.iconst 0, 1) := by decide +kernel
theorem dX5_letterOf_1 : decode cX5_letterOf 1 = .ok (.istore_n 1, 1) := by decide +kernel
theorem dX5_letterOf_2 : decode cX5_letterOf 2 = .ok (.iload_n 1, 1) := by decide +kernel
theorem dX5_letterOf_3 : decode cX5_letterOf 3 = .ok (.getstatic 105, 3) := by decide +kernel
theorem dX5_letterOf_6 : decode cX5_letterOf 6 = .ok (.arraylength, 1) := by decide +kernel
theorem dX5_letterOf_7 : decode cX5_letterOf 7 = .ok (.if_icmp .ge 20, 3) := by decide +kernel
theorem dX5_letterOf_10 : decode cX5_letterOf 10 = .ok (.iload_n 0, 1) := by decide +kernel
theorem dX5_letterOf_11 : decode cX5_letterOf 11 = .ok (.getstatic 105, 3) := by decide +kernel
theorem dX5_letterOf_14 : decode cX5_letterOf 14 = .ok (.iload_n 1, 1) := by decide +kernel
theorem dX5_letterOf_15 : decode cX5_letterOf 15 = .ok (.caload, 1) := by decide +kernel
theorem dX5_letterOf_16 : decode cX5_letterOf 16 = .ok (.if_icmp .ne 5, 3) := by decide +kernel
theorem dX5_letterOf_19 : decode cX5_letterOf 19 = .ok (.iload_n 1, 1) := by decide +kernel
theorem dX5_letterOf_20 : decode cX5_letterOf 20 = .ok (.ireturn, 1) := by decide +kernel
theorem dX5_letterOf_21 : decode cX5_letterOf 21 = .ok (.iinc 1 1, 3) := by decide +kernel
theorem dX5_letterOf_24 : decode cX5_letterOf 24 = .ok (.goto (-22), 3) := by decide +kernel
theorem dX5_letterOf_27 : decode cX5_letterOf 27 = .ok (.iconst (-1), 1) := by decide +kernel
theorem dX5_letterOf_28 : decode cX5_letterOf 28 = .ok (.ireturn, 1) := by decide +kernel
theorem dX6_init_0 : decode cX6_init 0 = .ok (.aload_n 0, 1) := by decide +kernel
theorem dX6_init_1 : decode cX6_init 1 = .ok (.invokespecial 1, 3) := by decide +kernel
theorem dX6_init_4 : decode cX6_init 4 = .ok (.aload_n 0, 1) := by decide +kernel
theorem dX6_init_5 : decode cX6_init 5 = .ok (.bipush 54, 2) := by decide +kernel
theorem dX6_init_7 : decode cX6_init 7 = .ok (.newarray .int, 2) := by decide +kernel
theorem dX6_init_9 : decode cX6_init 9 = .ok (.putfield 9, 3) := by decide +kernel
theorem dX6_init_12 : decode cX6_init 12 = .ok (.aload_n 0, 1) := by decide +kernel
theorem dX6_init_13 : decode cX6_init 13 = .ok (.iconst 4, 1) := by decide +kernel
theorem dX6_init_14 : decode cX6_init 14 = .ok (.newarray .int, 2) := by decide +kernel
theorem dX6_init_16 : decode cX6_init 16 = .ok (.putfield 13, 3) := by decide +kernel
theorem dX6_init_19 : decode cX6_init 19 = .ok (.return_, 1) := by decide +kernel
theorem dX6_clear_0 : decode cX6_clear 0 = .ok (.iconst 0, 1) := by decide +kernel
theorem dX6_clear_1 : decode cX6_clear 1 = .ok (.istore_n 1, 1) := by decide +kernel
theorem dX6_clear_2 : decode cX6_clear 2 = .ok (.iload_n 1, 1) := by decide +kernel
theorem dX6_clear_3 : decode cX6_clear 3 = .ok (.iconst 4, 1) := by decide +kernel
theorem dX6_clear_4 : decode cX6_clear 4 = .ok (.if_icmp .ge 16, 3) := by decide +kernel
theorem dX6_clear_7 : decode cX6_clear 7 = .ok (.aload_n 0, 1) := by decide +kernel
theorem dX6_clear_8 : decode cX6_clear 8 = .ok (.getfield 13, 3) := by decide +kernel
theorem dX6_clear_11 : decode cX6_clear 11 = .ok (.iload_n 1, 1) := by decide +kernel
theorem dX6_clear_12 : decode cX6_clear 12 = .ok (.iconst 0, 1) := by decide +kernel
theorem dX6_clear_13 : decode cX6_clear 13 = .ok (.iastore, 1) := by decide +kernel
theorem dX6_clear_14 : decode cX6_clear 14 = .ok (.iinc 1 1, 3) := by decide +kernel
theorem dX6_clear_17 : decode cX6_clear 17 = .ok (.goto (-15), 3) := by decide +kernel
theorem dX6_clear_20 : decode cX6_clear 20 = .ok (.aload_n 0, 1) := by decide +kernel
theorem dX6_clear_21 : decode cX6_clear 21 = .ok (.iconst 0, 1) := by decide +kernel
theorem dX6_clear_22 : decode cX6_clear 22 = .ok (.iconst 0, 1) := by decide +kernel
theorem dX6_clear_23 : decode cX6_clear 23 = .ok (.invokevirtual 16, 3) := by decide +kernel
theorem dX6_clear_26 : decode cX6_clear 26 = .ok (.return_, 1) := by decide +kernel
theorem dX6_copyFrom_0 : decode cX6_copyFrom 0 = .ok (.aload_n 1, 1) := by decide +kernel
theorem dX6_copyFrom_1 : decode cX6_copyFrom 1 = .ok (.getfield 9, 3) := by decide +kernel
theorem dX6_copyFrom_4 : decode cX6_copyFrom 4 = .ok (.iconst 0, 1) := by decide +kernel
theorem dX6_copyFrom_5 : decode cX6_copyFrom 5 = .ok (.aload_n 0, 1) := by decide +kernel
theorem dX6_copyFrom_6 : decode cX6_copyFrom 6 = .ok (.getfield 9, 3) := by decide +kernel
theorem dX6_copyFrom_9 : decode cX6_copyFrom 9 = .ok (.iconst 0, 1) := by decide +kernel
theorem dX6_copyFrom_10 : decode cX6_copyFrom 10 = .ok (.aload_n 0, 1) := by decide +kernel
theorem dX6_copyFrom_11 : decode cX6_copyFrom 11 = .ok (.getfield 9, 3) := by decide +kernel
theorem dX6_copyFrom_14 : decode cX6_copyFrom 14 = .ok (.arraylength, 1) := by decide +kernel
theorem dX6_copyFrom_15 : decode cX6_copyFrom 15 = .ok (.invokestatic 20, 3) := by decide +kernel
theorem dX6_copyFrom_18 : decode cX6_copyFrom 18 = .ok (.aload_n 1, 1) := by decide +kernel
theorem dX6_copyFrom_19 : decode cX6_copyFrom 19 = .ok (.getfield 13, 3) := by decide +kernel
theorem dX6_copyFrom_22 : decode cX6_copyFrom 22 = .ok (.iconst 0, 1) := by decide +kernel
theorem dX6_copyFrom_23 : decode cX6_copyFrom 23 = .ok (.aload_n 0, 1) := by decide +kernel
theorem dX6_copyFrom_24 : decode cX6_copyFrom 24 = .ok (.getfield 13, 3) := by decide +kernel
theorem dX6_copyFrom_27 : decode cX6_copyFrom 27 = .ok (.iconst 0, 1) := by decide +kernel
theorem dX6_copyFrom_28 : decode cX6_copyFrom 28 = .ok (.aload_n 0, 1) := by decide +kernel
theorem dX6_copyFrom_29 : decode cX6_copyFrom 29 = .ok (.getfield 13, 3) := by decide +kernel
theorem dX6_copyFrom_32 : decode cX6_copyFrom 32 = .ok (.arraylength, 1) := by decide +kernel
theorem dX6_copyFrom_33 : decode cX6_copyFrom 33 = .ok (.invokestatic 20, 3) := by decide +kernel
theorem dX6_copyFrom_36 : decode cX6_copyFrom 36 = .ok (.return_, 1) := by decide +kernel
theorem dX6_open_0 : decode cX6_open 0 = .ok (.aload_n 0, 1) := by decide +kernel
theorem dX6_open_1 : decode cX6_open 1 = .ok (.getfield 13, 3) := by decide +kernel
theorem dX6_open_4 : decode cX6_open 4 = .ok (.iload_n 1, 1) := by decide +kernel
theorem dX6_open_5 : decode cX6_open 5 = .ok (.iaload, 1) := by decide +kernel
theorem dX6_open_6 : decode cX6_open 6 = .ok (.getstatic 26, 3) := by decide +kernel
theorem dX6_open_9 : decode cX6_open 9 = .ok (.iload_n 1, 1) := by decide +kernel
theorem dX6_open_10 : decode cX6_open 10 = .ok (.iaload, 1) := by decide +kernel
theorem dX6_open_11 : decode cX6_open 11 = .ok (.if_icmp .lt 5, 3) := by decide +kernel
theorem dX6_open_14 : decode cX6_open 14 = .ok (.iconst 0, 1) := by decide +kernel
theorem dX6_open_15 : decode cX6_open 15 = .ok (.ireturn, 1) := by decide +kernel
theorem dX6_open_16 : decode cX6_open 16 = .ok (.aload_n 0, 1) := by decide +kernel
theorem dX6_open_17 : decode cX6_open 17 = .ok (.iload_n 1, 1) := by decide +kernel
theorem dX6_open_18 : decode cX6_open 18 = .ok (.aload_n 0, 1) := by decide +kernel
theorem dX6_open_19 : decode cX6_open 19 = .ok (.getfield 13, 3) := by decide +kernel
theorem dX6_open_22 : decode cX6_open 22 = .ok (.iload_n 1, 1) := by decide +kernel
theorem dX6_open_23 : decode cX6_open 23 = .ok (.iaload, 1) := by decide +kernel
theorem dX6_open_24 : decode cX6_open 24 = .ok (.invokevirtual 16, 3) := by decide +kernel
theorem dX6_open_27 : decode cX6_open 27 = .ok (.aload_n 0, 1) := by decide +kernel
theorem dX6_open_28 : decode cX6_open 28 = .ok (.getfield 13, 3) := by decide +kernel
theorem dX6_open_31 : decode cX6_open 31 = .ok (.iload_n 1, 1) := by decide +kernel
theorem dX6_open_32 : decode cX6_open 32 = .ok (.dup2, 1) := by decide +kernel
theorem dX6_open_33 : decode cX6_open 33 = .ok (.iaload, 1) := by decide +kernel
theorem dX6_open_34 : decode cX6_open 34 = .ok (.iconst 1, 1) := by decide +kernel
theorem dX6_open_35 : decode cX6_open 35 = .ok (.iadd, 1) := by decide +kernel
theorem dX6_open_36 : decode cX6_open 36 = .ok (.iastore, 1) := by decide +kernel
theorem dX6_open_37 : decode cX6_open 37 = .ok (.iconst 1, 1) := by decide +kernel
theorem dX6_open_38 : decode cX6_open 38 = .ok (.ireturn, 1) := by decide +kernel
theorem dX6_setUsual_0 : decode cX6_setUsual 0 = .ok (.iconst 0, 1) := by decide +kernel
theorem dX6_setUsual_1 : decode cX6_setUsual 1 = .ok (.istore_n 3, 1) := by decide +kernel
theorem dX6_setUsual_2 : decode cX6_setUsual 2 = .ok (.iload_n 3, 1) := by decide +kernel
theorem dX6_setUsual_3 : decode cX6_setUsual 3 = .ok (.iconst 3, 1) := by decide +kernel
theorem dX6_setUsual_4 : decode cX6_setUsual 4 = .ok (.if_icmp .ge 34, 3) := by decide +kernel
theorem dX6_setUsual_7 : decode cX6_setUsual 7 = .ok (.aload_n 0, 1) := by decide +kernel
theorem dX6_setUsual_8 : decode cX6_setUsual 8 = .ok (.getfield 9, 3) := by decide +kernel
theorem dX6_setUsual_11 : decode cX6_setUsual 11 = .ok (.getstatic 29, 3) := by decide +kernel
theorem dX6_setUsual_14 : decode cX6_setUsual 14 = .ok (.iload_n 1, 1) := by decide +kernel
theorem dX6_setUsual_15 : decode cX6_setUsual 15 = .ok (.iaload, 1) := by decide +kernel
theorem dX6_setUsual_16 : decode cX6_setUsual 16 = .ok (.iload_n 2, 1) := by decide +kernel
theorem dX6_setUsual_17 : decode cX6_setUsual 17 = .ok (.iadd, 1) := by decide +kernel
theorem dX6_setUsual_18 : decode cX6_setUsual 18 = .ok (.iconst 3, 1) := by decide +kernel
theorem dX6_setUsual_19 : decode cX6_setUsual 19 = .ok (.imul, 1) := by decide +kernel
theorem dX6_setUsual_20 : decode cX6_setUsual 20 = .ok (.iload_n 3, 1) := by decide +kernel
theorem dX6_setUsual_21 : decode cX6_setUsual 21 = .ok (.iadd, 1) := by decide +kernel
theorem dX6_setUsual_22 : decode cX6_setUsual 22 = .ok (.getstatic 32, 3) := by decide +kernel
theorem dX6_setUsual_25 : decode cX6_setUsual 25 = .ok (.iload_n 1, 1) := by decide +kernel
theorem dX6_setUsual_26 : decode cX6_setUsual 26 = .ok (.iconst 3, 1) := by decide +kernel
theorem dX6_setUsual_27 : decode cX6_setUsual 27 = .ok (.imul, 1) := by decide +kernel
theorem dX6_setUsual_28 : decode cX6_setUsual 28 = .ok (.iload_n 3, 1) := by decide +kernel
theorem dX6_setUsual_29 : decode cX6_setUsual 29 = .ok (.iadd, 1) := by decide +kernel
theorem dX6_setUsual_30 : decode cX6_setUsual 30 = .ok (.iaload, 1) := by decide +kernel
theorem dX6_setUsual_31 : decode cX6_setUsual 31 = .ok (.iastore, 1) := by decide +kernel
theorem dX6_setUsual_32 : decode cX6_setUsual 32 = .ok (.iinc 3 1, 3) := by decide +kernel
theorem dX6_setUsual_35 : decode cX6_setUsual 35 = .ok (.goto (-33), 3) := by decide +kernel
theorem dX6_setUsual_38 : decode cX6_setUsual 38 = .ok (.return_, 1) := by decide +kernel
theorem dX6_tellLatest_0 : decode cX6_tellLatest 0 = .ok (.aload_n 0, 1) := by decide +kernel
theorem dX6_tellLatest_1 : decode cX6_tellLatest 1 = .ok (.getfield 13, 3) := by decide +kernel
theorem dX6_tellLatest_4 : decode cX6_tellLatest 4 = .ok (.iload_n 1, 1) := by decide +kernel
theorem dX6_tellLatest_5 : decode cX6_tellLatest 5 = .ok (.iaload, 1) := by decide +kernel
theorem dX6_tellLatest_6 : decode cX6_tellLatest 6 = .ok (.ifCond .le 27, 3) := by decide +kernel
theorem dX6_tellLatest_9 : decode cX6_tellLatest 9 = .ok (.aload_n 0, 1) := by decide +kernel
theorem dX6_tellLatest_10 : decode cX6_tellLatest 10 = .ok (.getfield 9, 3) := by decide +kernel
theorem dX6_tellLatest_13 : decode cX6_tellLatest 13 = .ok (.getstatic 29, 3) := by decide +kernel
theorem dX6_tellLatest_16 : decode cX6_tellLatest 16 = .ok (.iload_n 1, 1) := by decide +kernel
theorem dX6_tellLatest_17 : decode cX6_tellLatest 17 = .ok (.iaload, 1) := by decide +kernel
theorem dX6_tellLatest_18 : decode cX6_tellLatest 18 = .ok (.aload_n 0, 1) := by decide +kernel
theorem dX6_tellLatest_19 : decode cX6_tellLatest 19 = .ok (.getfield 13, 3) := by decide +kernel
theorem dX6_tellLatest_22 : decode cX6_tellLatest 22 = .ok (.iload_n 1, 1) := by decide +kernel
theorem dX6_tellLatest_23 : decode cX6_tellLatest 23 = .ok (.iaload, 1) := by decide +kernel
theorem dX6_tellLatest_24 : decode cX6_tellLatest 24 = .ok (.iadd, 1) := by decide +kernel
theorem dX6_tellLatest_25 : decode cX6_tellLatest 25 = .ok (.iconst 1, 1) := by decide +kernel
theorem dX6_tellLatest_26 : decode cX6_tellLatest 26 = .ok (.isub, 1) := by decide +kernel
theorem dX6_tellLatest_27 : decode cX6_tellLatest 27 = .ok (.iconst 3, 1) := by decide +kernel
theorem dX6_tellLatest_28 : decode cX6_tellLatest 28 = .ok (.imul, 1) := by decide +kernel
theorem dX6_tellLatest_29 : decode cX6_tellLatest 29 = .ok (.iload_n 2, 1) := by decide +kernel
theorem dX6_tellLatest_30 : decode cX6_tellLatest 30 = .ok (.iadd, 1) := by decide +kernel
theorem dX6_tellLatest_31 : decode cX6_tellLatest 31 = .ok (.iload_n 3, 1) := by decide +kernel
theorem dX6_tellLatest_32 : decode cX6_tellLatest 32 = .ok (.iastore, 1) := by decide +kernel
theorem dX6_tellLatest_33 : decode cX6_tellLatest 33 = .ok (.return_, 1) := by decide +kernel
theorem dX6_value_0 : decode cX6_value 0 = .ok (.iload_n 2, 1) := by decide +kernel
theorem dX6_value_1 : decode cX6_value 1 = .ok (.ifCond .lt 16, 3) := by decide +kernel
theorem dX6_value_4 : decode cX6_value 4 = .ok (.iload_n 2, 1) := by decide +kernel
theorem dX6_value_5 : decode cX6_value 5 = .ok (.getstatic 26, 3) := by decide +kernel
theorem dX6_value_8 : decode cX6_value 8 = .ok (.iload_n 1, 1) := by decide +kernel
theorem dX6_value_9 : decode cX6_value 9 = .ok (.iaload, 1) := by decide +kernel
theorem dX6_value_10 : decode cX6_value 10 = .ok (.if_icmp .ge 7, 3) := by decide +kernel
theorem dX6_value_13 : decode cX6_value 13 = .ok (.iconst 1, 1) := by decide +kernel
theorem dX6_value_14 : decode cX6_value 14 = .ok (.goto 4, 3) := by decide +kernel
theorem dX6_value_17 : decode cX6_value 17 = .ok (.iconst 0, 1) := by decide +kernel
theorem dX6_value_18 : decode cX6_value 18 = .ok (.istore 4, 2) := by decide +kernel
theorem dX6_value_20 : decode cX6_value 20 = .ok (.iload 4, 2) := by decide +kernel
theorem dX6_value_22 : decode cX6_value 22 = .ok (.ifCond .eq 22, 3) := by decide +kernel
theorem dX6_value_25 : decode cX6_value 25 = .ok (.aload_n 0, 1) := by decide +kernel
theorem dX6_value_26 : decode cX6_value 26 = .ok (.getfield 9, 3) := by decide +kernel
theorem dX6_value_29 : decode cX6_value 29 = .ok (.getstatic 29, 3) := by decide +kernel
theorem dX6_value_32 : decode cX6_value 32 = .ok (.iload_n 1, 1) := by decide +kernel
theorem dX6_value_33 : decode cX6_value 33 = .ok (.iaload, 1) := by decide +kernel
theorem dX6_value_34 : decode cX6_value 34 = .ok (.iload_n 2, 1) := by decide +kernel
theorem dX6_value_35 : decode cX6_value 35 = .ok (.iadd, 1) := by decide +kernel
theorem dX6_value_36 : decode cX6_value 36 = .ok (.iconst 3, 1) := by decide +kernel
theorem dX6_value_37 : decode cX6_value 37 = .ok (.imul, 1) := by decide +kernel
theorem dX6_value_38 : decode cX6_value 38 = .ok (.iload_n 3, 1) := by decide +kernel
theorem dX6_value_39 : decode cX6_value 39 = .ok (.iadd, 1) := by decide +kernel
theorem dX6_value_40 : decode cX6_value 40 = .ok (.iaload, 1) := by decide +kernel
theorem dX6_value_41 : decode cX6_value 41 = .ok (.goto 4, 3) := by decide +kernel
theorem dX6_value_44 : decode cX6_value 44 = .ok (.iconst 0, 1) := by decide +kernel
theorem dX6_value_45 : decode cX6_value 45 = .ok (.ireturn, 1) := by decide +kernel
