theorem dX6_isWhole_0 : decode cX6_isWhole 0 = .ok (.aload_n 0, 1) := by decide +kernel
theorem dX6_isWhole_1 : decode cX6_isWhole 1 = .ok (.invokevirtual 35, 3) := by decide +kernel
theorem dX6_isWhole_4 : decode cX6_isWhole 4 = .ok (.ifCond .le 29, 3) := by decide +kernel
theorem dX6_isWhole_7 : decode cX6_isWhole 7 = .ok (.aload_n 0, 1) := by decide +kernel
theorem dX6_isWhole_8 : decode cX6_isWhole 8 = .ok (.invokevirtual 39, 3) := by decide +kernel
theorem dX6_isWhole_11 : decode cX6_isWhole 11 = .ok (.iconst 2, 1) := by decide +kernel
theorem dX6_isWhole_12 : decode cX6_isWhole 12 = .ok (.if_icmp .lt 21, 3) := by decide +kernel
theorem dX6_isWhole_15 : decode cX6_isWhole 15 = .ok (.aload_n 0, 1) := by decide +kernel
theorem dX6_isWhole_16 : decode cX6_isWhole 16 = .ok (.invokevirtual 42, 3) := by decide +kernel
theorem dX6_isWhole_19 : decode cX6_isWhole 19 = .ok (.ifCond .eq 14, 3) := by decide +kernel
theorem dX6_isWhole_22 : decode cX6_isWhole 22 = .ok (.aload_n 0, 1) := by decide +kernel
theorem dX6_isWhole_23 : decode cX6_isWhole 23 = .ok (.invokevirtual 46, 3) := by decide +kernel
theorem dX6_isWhole_26 : decode cX6_isWhole 26 = .ok (.ifCond .eq 7, 3) := by decide +kernel
theorem dX6_isWhole_29 : decode cX6_isWhole 29 = .ok (.iconst 1, 1) := by decide +kernel
theorem dX6_isWhole_30 : decode cX6_isWhole 30 = .ok (.goto 4, 3) := by decide +kernel
theorem dX6_isWhole_33 : decode cX6_isWhole 33 = .ok (.iconst 0, 1) := by decide +kernel
theorem dX6_isWhole_34 : decode cX6_isWhole 34 = .ok (.ireturn, 1) := by decide +kernel
theorem dX6_knowOthers_0 : decode cX6_knowOthers 0 = .ok (.iconst 0, 1) := by decide +kernel
theorem dX6_knowOthers_1 : decode cX6_knowOthers 1 = .ok (.istore_n 1, 1) := by decide +kernel
theorem dX6_knowOthers_2 : decode cX6_knowOthers 2 = .ok (.iload_n 1, 1) := by decide +kernel
theorem dX6_knowOthers_3 : decode cX6_knowOthers 3 = .ok (.aload_n 0, 1) := by decide +kernel
theorem dX6_knowOthers_4 : decode cX6_knowOthers 4 = .ok (.invokevirtual 39, 3) := by decide +kernel
theorem dX6_knowOthers_7 : decode cX6_knowOthers 7 = .ok (.if_icmp .ge 32, 3) := by decide +kernel
theorem dX6_knowOthers_10 : decode cX6_knowOthers 10 = .ok (.aload_n 0, 1) := by decide +kernel
theorem dX6_knowOthers_11 : decode cX6_knowOthers 11 = .ok (.aload_n 0, 1) := by decide +kernel
theorem dX6_knowOthers_12 : decode cX6_knowOthers 12 = .ok (.iload_n 1, 1) := by decide +kernel
theorem dX6_knowOthers_13 : decode cX6_knowOthers 13 = .ok (.invokevirtual 49, 3) := by decide +kernel
theorem dX6_knowOthers_16 : decode cX6_knowOthers 16 = .ok (.invokevirtual 53, 3) := by decide +kernel
theorem dX6_knowOthers_19 : decode cX6_knowOthers 19 = .ok (.ifCond .eq 12, 3) := by decide +kernel
theorem dX6_knowOthers_22 : decode cX6_knowOthers 22 = .ok (.aload_n 0, 1) := by decide +kernel
theorem dX6_knowOthers_23 : decode cX6_knowOthers 23 = .ok (.iload_n 1, 1) := by decide +kernel
theorem dX6_knowOthers_24 : decode cX6_knowOthers 24 = .ok (.invokevirtual 49, 3) := by decide +kernel
theorem dX6_knowOthers_27 : decode cX6_knowOthers 27 = .ok (.iload_n 1, 1) := by decide +kernel
theorem dX6_knowOthers_28 : decode cX6_knowOthers 28 = .ok (.if_icmp .ne 5, 3) := by decide +kernel
theorem dX6_knowOthers_31 : decode cX6_knowOthers 31 = .ok (.iconst 0, 1) := by decide +kernel
theorem dX6_knowOthers_32 : decode cX6_knowOthers 32 = .ok (.ireturn, 1) := by decide +kernel
theorem dX6_knowOthers_33 : decode cX6_knowOthers 33 = .ok (.iinc 1 1, 3) := by decide +kernel
theorem dX6_knowOthers_36 : decode cX6_knowOthers 36 = .ok (.goto (-34), 3) := by decide +kernel
theorem dX6_knowOthers_39 : decode cX6_knowOthers 39 = .ok (.iconst 1, 1) := by decide +kernel
theorem dX6_knowOthers_40 : decode cX6_knowOthers 40 = .ok (.ireturn, 1) := by decide +kernel
theorem dX6_filesHoldTwo_0 : decode cX6_filesHoldTwo 0 = .ok (.iconst 0, 1) := by decide +kernel
theorem dX6_filesHoldTwo_1 : decode cX6_filesHoldTwo 1 = .ok (.istore_n 1, 1) := by decide +kernel
theorem dX6_filesHoldTwo_2 : decode cX6_filesHoldTwo 2 = .ok (.iload_n 1, 1) := by decide +kernel
theorem dX6_filesHoldTwo_3 : decode cX6_filesHoldTwo 3 = .ok (.aload_n 0, 1) := by decide +kernel
theorem dX6_filesHoldTwo_4 : decode cX6_filesHoldTwo 4 = .ok (.invokevirtual 57, 3) := by decide +kernel
theorem dX6_filesHoldTwo_7 : decode cX6_filesHoldTwo 7 = .ok (.if_icmp .ge 46, 3) := by decide +kernel
theorem dX6_filesHoldTwo_10 : decode cX6_filesHoldTwo 10 = .ok (.aload_n 0, 1) := by decide +kernel
theorem dX6_filesHoldTwo_11 : decode cX6_filesHoldTwo 11 = .ok (.iload_n 1, 1) := by decide +kernel
theorem dX6_filesHoldTwo_12 : decode cX6_filesHoldTwo 12 = .ok (.iconst 0, 1) := by decide +kernel
theorem dX6_filesHoldTwo_13 : decode cX6_filesHoldTwo 13 = .ok (.invokevirtual 60, 3) := by decide +kernel
theorem dX6_filesHoldTwo_16 : decode cX6_filesHoldTwo 16 = .ok (.istore_n 2, 1) := by decide +kernel
theorem dX6_filesHoldTwo_17 : decode cX6_filesHoldTwo 17 = .ok (.aload_n 0, 1) := by decide +kernel
theorem dX6_filesHoldTwo_18 : decode cX6_filesHoldTwo 18 = .ok (.iload_n 1, 1) := by decide +kernel
theorem dX6_filesHoldTwo_19 : decode cX6_filesHoldTwo 19 = .ok (.iconst 1, 1) := by decide +kernel
theorem dX6_filesHoldTwo_20 : decode cX6_filesHoldTwo 20 = .ok (.invokevirtual 60, 3) := by decide +kernel
theorem dX6_filesHoldTwo_23 : decode cX6_filesHoldTwo 23 = .ok (.istore_n 3, 1) := by decide +kernel
theorem dX6_filesHoldTwo_24 : decode cX6_filesHoldTwo 24 = .ok (.aload_n 0, 1) := by decide +kernel
theorem dX6_filesHoldTwo_25 : decode cX6_filesHoldTwo 25 = .ok (.iload_n 2, 1) := by decide +kernel
theorem dX6_filesHoldTwo_26 : decode cX6_filesHoldTwo 26 = .ok (.invokevirtual 53, 3) := by decide +kernel
theorem dX6_filesHoldTwo_29 : decode cX6_filesHoldTwo 29 = .ok (.ifCond .eq 16, 3) := by decide +kernel
theorem dX6_filesHoldTwo_32 : decode cX6_filesHoldTwo 32 = .ok (.aload_n 0, 1) := by decide +kernel
theorem dX6_filesHoldTwo_33 : decode cX6_filesHoldTwo 33 = .ok (.iload_n 3, 1) := by decide +kernel
theorem dX6_filesHoldTwo_34 : decode cX6_filesHoldTwo 34 = .ok (.invokevirtual 53, 3) := by decide +kernel
theorem dX6_filesHoldTwo_37 : decode cX6_filesHoldTwo 37 = .ok (.ifCond .eq 8, 3) := by decide +kernel
theorem dX6_filesHoldTwo_40 : decode cX6_filesHoldTwo 40 = .ok (.iload_n 2, 1) := by decide +kernel
theorem dX6_filesHoldTwo_41 : decode cX6_filesHoldTwo 41 = .ok (.iload_n 3, 1) := by decide +kernel
theorem dX6_filesHoldTwo_42 : decode cX6_filesHoldTwo 42 = .ok (.if_icmp .ne 5, 3) := by decide +kernel
theorem dX6_filesHoldTwo_45 : decode cX6_filesHoldTwo 45 = .ok (.iconst 0, 1) := by decide +kernel
theorem dX6_filesHoldTwo_46 : decode cX6_filesHoldTwo 46 = .ok (.ireturn, 1) := by decide +kernel
theorem dX6_filesHoldTwo_47 : decode cX6_filesHoldTwo 47 = .ok (.iinc 1 1, 3) := by decide +kernel
theorem dX6_filesHoldTwo_50 : decode cX6_filesHoldTwo 50 = .ok (.goto (-48), 3) := by decide +kernel
theorem dX6_filesHoldTwo_53 : decode cX6_filesHoldTwo 53 = .ok (.iconst 1, 1) := by decide +kernel
theorem dX6_filesHoldTwo_54 : decode cX6_filesHoldTwo 54 = .ok (.ireturn, 1) := by decide +kernel
theorem dX6_stands_0 : decode cX6_stands 0 = .ok (.aload_n 0, 1) := by decide +kernel
theorem dX6_stands_1 : decode cX6_stands 1 = .ok (.invokevirtual 39, 3) := by decide +kernel
theorem dX6_stands_4 : decode cX6_stands 4 = .ok (.ifCond .le 7, 3) := by decide +kernel
theorem dX6_stands_7 : decode cX6_stands 7 = .ok (.iconst 1, 1) := by decide +kernel
theorem dX6_stands_8 : decode cX6_stands 8 = .ok (.goto 4, 3) := by decide +kernel
theorem dX6_stands_11 : decode cX6_stands 11 = .ok (.iconst 0, 1) := by decide +kernel
theorem dX6_stands_12 : decode cX6_stands 12 = .ok (.ireturn, 1) := by decide +kernel
theorem dX6_wells_0 : decode cX6_wells 0 = .ok (.aload_n 0, 1) := by decide +kernel
theorem dX6_wells_1 : decode cX6_wells 1 = .ok (.getfield 13, 3) := by decide +kernel
theorem dX6_wells_4 : decode cX6_wells 4 = .ok (.iconst 1, 1) := by decide +kernel
theorem dX6_wells_5 : decode cX6_wells 5 = .ok (.iaload, 1) := by decide +kernel
theorem dX6_wells_6 : decode cX6_wells 6 = .ok (.ireturn, 1) := by decide +kernel
theorem dX6_names_0 : decode cX6_names 0 = .ok (.aload_n 0, 1) := by decide +kernel
theorem dX6_names_1 : decode cX6_names 1 = .ok (.getfield 13, 3) := by decide +kernel
theorem dX6_names_4 : decode cX6_names 4 = .ok (.iconst 2, 1) := by decide +kernel
theorem dX6_names_5 : decode cX6_names 5 = .ok (.iaload, 1) := by decide +kernel
theorem dX6_names_6 : decode cX6_names 6 = .ok (.ireturn, 1) := by decide +kernel
theorem dX6_files_0 : decode cX6_files 0 = .ok (.aload_n 0, 1) := by decide +kernel
theorem dX6_files_1 : decode cX6_files 1 = .ok (.getfield 13, 3) := by decide +kernel
theorem dX6_files_4 : decode cX6_files 4 = .ok (.iconst 3, 1) := by decide +kernel
theorem dX6_files_5 : decode cX6_files 5 = .ok (.iaload, 1) := by decide +kernel
theorem dX6_files_6 : decode cX6_files 6 = .ok (.ireturn, 1) := by decide +kernel
theorem dX6_hasWell_0 : decode cX6_hasWell 0 = .ok (.iload_n 1, 1) := by decide +kernel
theorem dX6_hasWell_1 : decode cX6_hasWell 1 = .ok (.ifCond .lt 17, 3) := by decide +kernel
theorem dX6_hasWell_4 : decode cX6_hasWell 4 = .ok (.iload_n 1, 1) := by decide +kernel
theorem dX6_hasWell_5 : decode cX6_hasWell 5 = .ok (.aload_n 0, 1) := by decide +kernel
theorem dX6_hasWell_6 : decode cX6_hasWell 6 = .ok (.getfield 13, 3) := by decide +kernel
theorem dX6_hasWell_9 : decode cX6_hasWell 9 = .ok (.iconst 1, 1) := by decide +kernel
theorem dX6_hasWell_10 : decode cX6_hasWell 10 = .ok (.iaload, 1) := by decide +kernel
theorem dX6_hasWell_11 : decode cX6_hasWell 11 = .ok (.if_icmp .ge 7, 3) := by decide +kernel
theorem dX6_hasWell_14 : decode cX6_hasWell 14 = .ok (.iconst 1, 1) := by decide +kernel
theorem dX6_hasWell_15 : decode cX6_hasWell 15 = .ok (.goto 4, 3) := by decide +kernel
theorem dX6_hasWell_18 : decode cX6_hasWell 18 = .ok (.iconst 0, 1) := by decide +kernel
theorem dX6_hasWell_19 : decode cX6_hasWell 19 = .ok (.ireturn, 1) := by decide +kernel
theorem dX6_hasName_0 : decode cX6_hasName 0 = .ok (.iload_n 1, 1) := by decide +kernel
theorem dX6_hasName_1 : decode cX6_hasName 1 = .ok (.ifCond .lt 17, 3) := by decide +kernel
theorem dX6_hasName_4 : decode cX6_hasName 4 = .ok (.iload_n 1, 1) := by decide +kernel
theorem dX6_hasName_5 : decode cX6_hasName 5 = .ok (.aload_n 0, 1) := by decide +kernel
theorem dX6_hasName_6 : decode cX6_hasName 6 = .ok (.getfield 13, 3) := by decide +kernel
theorem dX6_hasName_9 : decode cX6_hasName 9 = .ok (.iconst 2, 1) := by decide +kernel
theorem dX6_hasName_10 : decode cX6_hasName 10 = .ok (.iaload, 1) := by decide +kernel
theorem dX6_hasName_11 : decode cX6_hasName 11 = .ok (.if_icmp .ge 7, 3) := by decide +kernel
theorem dX6_hasName_14 : decode cX6_hasName 14 = .ok (.iconst 1, 1) := by decide +kernel
theorem dX6_hasName_15 : decode cX6_hasName 15 = .ok (.goto 4, 3) := by decide +kernel
theorem dX6_hasName_18 : decode cX6_hasName 18 = .ok (.iconst 0, 1) := by decide +kernel
theorem dX6_hasName_19 : decode cX6_hasName 19 = .ok (.ireturn, 1) := by decide +kernel
theorem dX6_hasFile_0 : decode cX6_hasFile 0 = .ok (.iload_n 1, 1) := by decide +kernel
theorem dX6_hasFile_1 : decode cX6_hasFile 1 = .ok (.ifCond .lt 17, 3) := by decide +kernel
theorem dX6_hasFile_4 : decode cX6_hasFile 4 = .ok (.iload_n 1, 1) := by decide +kernel
theorem dX6_hasFile_5 : decode cX6_hasFile 5 = .ok (.aload_n 0, 1) := by decide +kernel
theorem dX6_hasFile_6 : decode cX6_hasFile 6 = .ok (.getfield 13, 3) := by decide +kernel
theorem dX6_hasFile_9 : decode cX6_hasFile 9 = .ok (.iconst 3, 1) := by decide +kernel
theorem dX6_hasFile_10 : decode cX6_hasFile 10 = .ok (.iaload, 1) := by decide +kernel
theorem dX6_hasFile_11 : decode cX6_hasFile 11 = .ok (.if_icmp .ge 7, 3) := by decide +kernel
theorem dX6_hasFile_14 : decode cX6_hasFile 14 = .ok (.iconst 1, 1) := by decide +kernel
theorem dX6_hasFile_15 : decode cX6_hasFile 15 = .ok (.goto 4, 3) := by decide +kernel
theorem dX6_hasFile_18 : decode cX6_hasFile 18 = .ok (.iconst 0, 1) := by decide +kernel
theorem dX6_hasFile_19 : decode cX6_hasFile 19 = .ok (.ireturn, 1) := by decide +kernel
theorem dX6_all_0 : decode cX6_all 0 = .ok (.iconst 1, 1) := by decide +kernel
theorem dX6_all_1 : decode cX6_all 1 = .ok (.aload_n 0, 1) := by decide +kernel
theorem dX6_all_2 : decode cX6_all 2 = .ok (.getfield 13, 3) := by decide +kernel
theorem dX6_all_5 : decode cX6_all 5 = .ok (.iconst 2, 1) := by decide +kernel
theorem dX6_all_6 : decode cX6_all 6 = .ok (.iaload, 1) := by decide +kernel
theorem dX6_all_7 : decode cX6_all 7 = .ok (.ishl, 1) := by decide +kernel
theorem dX6_all_8 : decode cX6_all 8 = .ok (.iconst 1, 1) := by decide +kernel
theorem dX6_all_9 : decode cX6_all 9 = .ok (.isub, 1) := by decide +kernel
theorem dX6_all_10 : decode cX6_all 10 = .ok (.ireturn, 1) := by decide +kernel
theorem dX6_dropsOfSyllable_0 : decode cX6_dropsOfSyllable 0 = .ok (.aload_n 0, 1) := by decide +kernel
theorem dX6_dropsOfSyllable_1 : decode cX6_dropsOfSyllable 1 = .ok (.iconst 0, 1) := by decide +kernel
theorem dX6_dropsOfSyllable_2 : decode cX6_dropsOfSyllable 2 = .ok (.iconst 0, 1) := by decide +kernel
theorem dX6_dropsOfSyllable_3 : decode cX6_dropsOfSyllable 3 = .ok (.iconst 0, 1) := by decide +kernel
theorem dX6_dropsOfSyllable_4 : decode cX6_dropsOfSyllable 4 = .ok (.invokevirtual 64, 3) := by decide +kernel
theorem dX6_dropsOfSyllable_7 : decode cX6_dropsOfSyllable 7 = .ok (.ireturn, 1) := by decide +kernel
theorem dX6_firstCoins_0 : decode cX6_firstCoins 0 = .ok (.aload_n 0, 1) := by decide +kernel
theorem dX6_firstCoins_1 : decode cX6_firstCoins 1 = .ok (.iconst 0, 1) := by decide +kernel
theorem dX6_firstCoins_2 : decode cX6_firstCoins 2 = .ok (.iconst 0, 1) := by decide +kernel
theorem dX6_firstCoins_3 : decode cX6_firstCoins 3 = .ok (.iconst 1, 1) := by decide +kernel
theorem dX6_firstCoins_4 : decode cX6_firstCoins 4 = .ok (.invokevirtual 64, 3) := by decide +kernel
theorem dX6_firstCoins_7 : decode cX6_firstCoins 7 = .ok (.ireturn, 1) := by decide +kernel
theorem dX6_firstDepth_0 : decode cX6_firstDepth 0 = .ok (.aload_n 0, 1) := by decide +kernel
theorem dX6_firstDepth_1 : decode cX6_firstDepth 1 = .ok (.iconst 1, 1) := by decide +kernel
theorem dX6_firstDepth_2 : decode cX6_firstDepth 2 = .ok (.iload_n 1, 1) := by decide +kernel
theorem dX6_firstDepth_3 : decode cX6_firstDepth 3 = .ok (.iconst 0, 1) := by decide +kernel
theorem dX6_firstDepth_4 : decode cX6_firstDepth 4 = .ok (.invokevirtual 64, 3) := by decide +kernel
theorem dX6_firstDepth_7 : decode cX6_firstDepth 7 = .ok (.ireturn, 1) := by decide +kernel
theorem dX6_isRed_0 : decode cX6_isRed 0 = .ok (.aload_n 0, 1) := by decide +kernel
theorem dX6_isRed_1 : decode cX6_isRed 1 = .ok (.iconst 1, 1) := by decide +kernel
theorem dX6_isRed_2 : decode cX6_isRed 2 = .ok (.iload_n 1, 1) := by decide +kernel
theorem dX6_isRed_3 : decode cX6_isRed 3 = .ok (.iconst 1, 1) := by decide +kernel
theorem dX6_isRed_4 : decode cX6_isRed 4 = .ok (.invokevirtual 64, 3) := by decide +kernel
theorem dX6_isRed_7 : decode cX6_isRed 7 = .ok (.iconst 1, 1) := by decide +kernel
theorem dX6_isRed_8 : decode cX6_isRed 8 = .ok (.if_icmp .ne 7, 3) := by decide +kernel
theorem dX6_isRed_11 : decode cX6_isRed 11 = .ok (.iconst 1, 1) := by decide +kernel
theorem dX6_isRed_12 : decode cX6_isRed 12 = .ok (.goto 4, 3) := by decide +kernel
theorem dX6_isRed_15 : decode cX6_isRed 15 = .ok (.iconst 0, 1) := by decide +kernel
theorem dX6_isRed_16 : decode cX6_isRed 16 = .ok (.ireturn, 1) := by decide +kernel
theorem dX6_syllables_0 : decode cX6_syllables 0 = .ok (.aload_n 0, 1) := by decide +kernel
theorem dX6_syllables_1 : decode cX6_syllables 1 = .ok (.iconst 2, 1) := by decide +kernel
theorem dX6_syllables_2 : decode cX6_syllables 2 = .ok (.iload_n 1, 1) := by decide +kernel
theorem dX6_syllables_3 : decode cX6_syllables 3 = .ok (.iconst 0, 1) := by decide +kernel
theorem dX6_syllables_4 : decode cX6_syllables 4 = .ok (.invokevirtual 64, 3) := by decide +kernel
theorem dX6_syllables_7 : decode cX6_syllables 7 = .ok (.ireturn, 1) := by decide +kernel
theorem dX6_knows_0 : decode cX6_knows 0 = .ok (.aload_n 0, 1) := by decide +kernel
theorem dX6_knows_1 : decode cX6_knows 1 = .ok (.iconst 2, 1) := by decide +kernel
theorem dX6_knows_2 : decode cX6_knows 2 = .ok (.iload_n 1, 1) := by decide +kernel
theorem dX6_knows_3 : decode cX6_knows 3 = .ok (.iconst 1, 1) := by decide +kernel
theorem dX6_knows_4 : decode cX6_knows 4 = .ok (.invokevirtual 64, 3) := by decide +kernel
theorem dX6_knows_7 : decode cX6_knows 7 = .ok (.ireturn, 1) := by decide +kernel
theorem dX6_isForeign_0 : decode cX6_isForeign 0 = .ok (.aload_n 0, 1) := by decide +kernel
theorem dX6_isForeign_1 : decode cX6_isForeign 1 = .ok (.iconst 2, 1) := by decide +kernel
theorem dX6_isForeign_2 : decode cX6_isForeign 2 = .ok (.iload_n 1, 1) := by decide +kernel
theorem dX6_isForeign_3 : decode cX6_isForeign 3 = .ok (.iconst 2, 1) := by decide +kernel
theorem dX6_isForeign_4 : decode cX6_isForeign 4 = .ok (.invokevirtual 64, 3) := by decide +kernel
theorem dX6_isForeign_7 : decode cX6_isForeign 7 = .ok (.iconst 1, 1) := by decide +kernel
theorem dX6_isForeign_8 : decode cX6_isForeign 8 = .ok (.if_icmp .ne 7, 3) := by decide +kernel
theorem dX6_isForeign_11 : decode cX6_isForeign 11 = .ok (.iconst 1, 1) := by decide +kernel
theorem dX6_isForeign_12 : decode cX6_isForeign 12 = .ok (.goto 4, 3) := by decide +kernel
theorem dX6_isForeign_15 : decode cX6_isForeign 15 = .ok (.iconst 0, 1) := by decide +kernel
theorem dX6_isForeign_16 : decode cX6_isForeign 16 = .ok (.ireturn, 1) := by decide +kernel
theorem dX6_isHisColour_0 : decode cX6_isHisColour 0 = .ok (.aload_n 0, 1) := by decide +kernel
theorem dX6_isHisColour_1 : decode cX6_isHisColour 1 = .ok (.iload_n 1, 1) := by decide +kernel
theorem dX6_isHisColour_2 : decode cX6_isHisColour 2 = .ok (.invokevirtual 68, 3) := by decide +kernel
theorem dX6_isHisColour_5 : decode cX6_isHisColour 5 = .ok (.aload_n 0, 1) := by decide +kernel
theorem dX6_isHisColour_6 : decode cX6_isHisColour 6 = .ok (.iload_n 2, 1) := by decide +kernel
theorem dX6_isHisColour_7 : decode cX6_isHisColour 7 = .ok (.invokevirtual 71, 3) := by decide +kernel
theorem dX6_isHisColour_10 : decode cX6_isHisColour 10 = .ok (.if_icmp .ne 7, 3) := by decide +kernel
theorem dX6_isHisColour_13 : decode cX6_isHisColour 13 = .ok (.iconst 1, 1) := by decide +kernel
theorem dX6_isHisColour_14 : decode cX6_isHisColour 14 = .ok (.goto 4, 3) := by decide +kernel
theorem dX6_isHisColour_17 : decode cX6_isHisColour 17 = .ok (.iconst 0, 1) := by decide +kernel
theorem dX6_isHisColour_18 : decode cX6_isHisColour 18 = .ok (.ireturn, 1) := by decide +kernel
theorem dX6_inFile_0 : decode cX6_inFile 0 = .ok (.aload_n 0, 1) := by decide +kernel
theorem dX6_inFile_1 : decode cX6_inFile 1 = .ok (.iconst 3, 1) := by decide +kernel
theorem dX6_inFile_2 : decode cX6_inFile 2 = .ok (.iload_n 1, 1) := by decide +kernel
theorem dX6_inFile_3 : decode cX6_inFile 3 = .ok (.iload_n 2, 1) := by decide +kernel
theorem dX6_inFile_4 : decode cX6_inFile 4 = .ok (.ifCond .ne 7, 3) := by decide +kernel
theorem dX6_inFile_7 : decode cX6_inFile 7 = .ok (.iconst 0, 1) := by decide +kernel
theorem dX6_inFile_8 : decode cX6_inFile 8 = .ok (.goto 4, 3) := by decide +kernel
theorem dX6_inFile_11 : decode cX6_inFile 11 = .ok (.iconst 1, 1) := by decide +kernel
theorem dX6_inFile_12 : decode cX6_inFile 12 = .ok (.invokevirtual 64, 3) := by decide +kernel
theorem dX6_inFile_15 : decode cX6_inFile 15 = .ok (.ireturn, 1) := by decide +kernel
theorem dX6_gaps_0 : decode cX6_gaps 0 = .ok (.iload_n 2, 1) := by decide +kernel
theorem dX6_gaps_1 : decode cX6_gaps 1 = .ok (.aload_n 0, 1) := by decide +kernel
theorem dX6_gaps_2 : decode cX6_gaps 2 = .ok (.iload_n 1, 1) := by decide +kernel
theorem dX6_gaps_3 : decode cX6_gaps 3 = .ok (.iconst 0, 1) := by decide +kernel
theorem dX6_gaps_4 : decode cX6_gaps 4 = .ok (.invokevirtual 60, 3) := by decide +kernel
theorem dX6_gaps_7 : decode cX6_gaps 7 = .ok (.ishr, 1) := by decide +kernel
theorem dX6_gaps_8 : decode cX6_gaps 8 = .ok (.iconst 1, 1) := by decide +kernel
theorem dX6_gaps_9 : decode cX6_gaps 9 = .ok (.iand, 1) := by decide +kernel
theorem dX6_gaps_10 : decode cX6_gaps 10 = .ok (.iload_n 2, 1) := by decide +kernel
theorem dX6_gaps_11 : decode cX6_gaps 11 = .ok (.aload_n 0, 1) := by decide +kernel
theorem dX6_gaps_12 : decode cX6_gaps 12 = .ok (.iload_n 1, 1) := by decide +kernel
theorem dX6_gaps_13 : decode cX6_gaps 13 = .ok (.iconst 1, 1) := by decide +kernel
theorem dX6_gaps_14 : decode cX6_gaps 14 = .ok (.invokevirtual 60, 3) := by decide +kernel
theorem dX6_gaps_17 : decode cX6_gaps 17 = .ok (.ishr, 1) := by decide +kernel
theorem dX6_gaps_18 : decode cX6_gaps 18 = .ok (.iconst 1, 1) := by decide +kernel
theorem dX6_gaps_19 : decode cX6_gaps 19 = .ok (.iand, 1) := by decide +kernel
theorem dX6_gaps_20 : decode cX6_gaps 20 = .ok (.iadd, 1) := by decide +kernel
theorem dX6_gaps_21 : decode cX6_gaps 21 = .ok (.ireturn, 1) := by decide +kernel
theorem dX6_drops_0 : decode cX6_drops 0 = .ok (.aload_n 0, 1) := by decide +kernel
theorem dX6_drops_1 : decode cX6_drops 1 = .ok (.iconst 2, 1) := by decide +kernel
theorem dX6_drops_2 : decode cX6_drops 2 = .ok (.iload_n 1, 1) := by decide +kernel
theorem dX6_drops_3 : decode cX6_drops 3 = .ok (.iconst 0, 1) := by decide +kernel
theorem dX6_drops_4 : decode cX6_drops 4 = .ok (.invokevirtual 64, 3) := by decide +kernel
theorem dX6_drops_7 : decode cX6_drops 7 = .ok (.aload_n 0, 1) := by decide +kernel
theorem dX6_drops_8 : decode cX6_drops 8 = .ok (.iconst 0, 1) := by decide +kernel
theorem dX6_drops_9 : decode cX6_drops 9 = .ok (.iconst 0, 1) := by decide +kernel
theorem dX6_drops_10 : decode cX6_drops 10 = .ok (.iconst 0, 1) := by decide +kernel
theorem dX6_drops_11 : decode cX6_drops 11 = .ok (.invokevirtual 64, 3) := by decide +kernel
theorem dX6_drops_14 : decode cX6_drops 14 = .ok (.imul, 1) := by decide +kernel
theorem dX6_drops_15 : decode cX6_drops 15 = .ok (.ireturn, 1) := by decide +kernel
theorem dX6_dropsOf_0 : decode cX6_dropsOf 0 = .ok (.iconst 0, 1) := by decide +kernel
theorem dX6_dropsOf_1 : decode cX6_dropsOf 1 = .ok (.istore_n 2, 1) := by decide +kernel
theorem dX6_dropsOf_2 : decode cX6_dropsOf 2 = .ok (.iconst 0, 1) := by decide +kernel
theorem dX6_dropsOf_3 : decode cX6_dropsOf 3 = .ok (.istore_n 3, 1) := by decide +kernel
theorem dX6_dropsOf_4 : decode cX6_dropsOf 4 = .ok (.iload_n 3, 1) := by decide +kernel
theorem dX6_dropsOf_5 : decode cX6_dropsOf 5 = .ok (.aload_n 0, 1) := by decide +kernel
theorem dX6_dropsOf_6 : decode cX6_dropsOf 6 = .ok (.getfield 13, 3) := by decide +kernel
theorem dX6_dropsOf_9 : decode cX6_dropsOf 9 = .ok (.iconst 2, 1) := by decide +kernel
theorem dX6_dropsOf_10 : decode cX6_dropsOf 10 = .ok (.iaload, 1) := by decide +kernel
theorem dX6_dropsOf_11 : decode cX6_dropsOf 11 = .ok (.if_icmp .ge 28, 3) := by decide +kernel
theorem dX6_dropsOf_14 : decode cX6_dropsOf 14 = .ok (.iload_n 1, 1) := by decide +kernel
theorem dX6_dropsOf_15 : decode cX6_dropsOf 15 = .ok (.iload_n 3, 1) := by decide +kernel
theorem dX6_dropsOf_16 : decode cX6_dropsOf 16 = .ok (.ishr, 1) := by decide +kernel
theorem dX6_dropsOf_17 : decode cX6_dropsOf 17 = .ok (.iconst 1, 1) := by decide +kernel
theorem dX6_dropsOf_18 : decode cX6_dropsOf 18 = .ok (.iand, 1) := by decide +kernel
theorem dX6_dropsOf_19 : decode cX6_dropsOf 19 = .ok (.iconst 1, 1) := by decide +kernel
theorem dX6_dropsOf_20 : decode cX6_dropsOf 20 = .ok (.if_icmp .ne 13, 3) := by decide +kernel
theorem dX6_dropsOf_23 : decode cX6_dropsOf 23 = .ok (.iload_n 2, 1) := by decide +kernel
theorem dX6_dropsOf_24 : decode cX6_dropsOf 24 = .ok (.aload_n 0, 1) := by decide +kernel
theorem dX6_dropsOf_25 : decode cX6_dropsOf 25 = .ok (.iconst 2, 1) := by decide +kernel
theorem dX6_dropsOf_26 : decode cX6_dropsOf 26 = .ok (.iload_n 3, 1) := by decide +kernel
theorem dX6_dropsOf_27 : decode cX6_dropsOf 27 = .ok (.iconst 0, 1) := by decide +kernel
theorem dX6_dropsOf_28 : decode cX6_dropsOf 28 = .ok (.invokevirtual 64, 3) := by decide +kernel
theorem dX6_dropsOf_31 : decode cX6_dropsOf 31 = .ok (.iadd, 1) := by decide +kernel
theorem dX6_dropsOf_32 : decode cX6_dropsOf 32 = .ok (.istore_n 2, 1) := by decide +kernel
theorem dX6_dropsOf_33 : decode cX6_dropsOf 33 = .ok (.iinc 3 1, 3) := by decide +kernel
theorem dX6_dropsOf_36 : decode cX6_dropsOf 36 = .ok (.goto (-32), 3) := by decide +kernel
theorem dX6_dropsOf_39 : decode cX6_dropsOf 39 = .ok (.iload_n 2, 1) := by decide +kernel
theorem dX6_dropsOf_40 : decode cX6_dropsOf 40 = .ok (.aload_n 0, 1) := by decide +kernel
theorem dX6_dropsOf_41 : decode cX6_dropsOf 41 = .ok (.iconst 0, 1) := by decide +kernel
theorem dX6_dropsOf_42 : decode cX6_dropsOf 42 = .ok (.iconst 0, 1) := by decide +kernel
theorem dX6_dropsOf_43 : decode cX6_dropsOf 43 = .ok (.iconst 0, 1) := by decide +kernel
theorem dX6_dropsOf_44 : decode cX6_dropsOf 44 = .ok (.invokevirtual 64, 3) := by decide +kernel
theorem dX6_dropsOf_47 : decode cX6_dropsOf 47 = .ok (.imul, 1) := by decide +kernel
theorem dX6_dropsOf_48 : decode cX6_dropsOf 48 = .ok (.ireturn, 1) := by decide +kernel
theorem dX6_knownBy_0 : decode cX6_knownBy 0 = .ok (.iconst 0, 1) := by decide +kernel
theorem dX6_knownBy_1 : decode cX6_knownBy 1 = .ok (.istore_n 2, 1) := by decide +kernel
theorem dX6_knownBy_2 : decode cX6_knownBy 2 = .ok (.iconst 0, 1) := by decide +kernel
theorem dX6_knownBy_3 : decode cX6_knownBy 3 = .ok (.istore_n 3, 1) := by decide +kernel
theorem dX6_knownBy_4 : decode cX6_knownBy 4 = .ok (.iload_n 3, 1) := by decide +kernel
theorem dX6_knownBy_5 : decode cX6_knownBy 5 = .ok (.aload_n 0, 1) := by decide +kernel
theorem dX6_knownBy_6 : decode cX6_knownBy 6 = .ok (.getfield 13, 3) := by decide +kernel
theorem dX6_knownBy_9 : decode cX6_knownBy 9 = .ok (.iconst 2, 1) := by decide +kernel
theorem dX6_knownBy_10 : decode cX6_knownBy 10 = .ok (.iaload, 1) := by decide +kernel
theorem dX6_knownBy_11 : decode cX6_knownBy 11 = .ok (.if_icmp .ge 26, 3) := by decide +kernel
theorem dX6_knownBy_14 : decode cX6_knownBy 14 = .ok (.aload_n 0, 1) := by decide +kernel
theorem dX6_knownBy_15 : decode cX6_knownBy 15 = .ok (.iconst 2, 1) := by decide +kernel
theorem dX6_knownBy_16 : decode cX6_knownBy 16 = .ok (.iload_n 3, 1) := by decide +kernel
theorem dX6_knownBy_17 : decode cX6_knownBy 17 = .ok (.iconst 1, 1) := by decide +kernel
theorem dX6_knownBy_18 : decode cX6_knownBy 18 = .ok (.invokevirtual 64, 3) := by decide +kernel
theorem dX6_knownBy_21 : decode cX6_knownBy 21 = .ok (.iload_n 1, 1) := by decide +kernel
theorem dX6_knownBy_22 : decode cX6_knownBy 22 = .ok (.if_icmp .ne 9, 3) := by decide +kernel
theorem dX6_knownBy_25 : decode cX6_knownBy 25 = .ok (.iload_n 2, 1) := by decide +kernel
theorem dX6_knownBy_26 : decode cX6_knownBy 26 = .ok (.iconst 1, 1) := by decide +kernel
theorem dX6_knownBy_27 : decode cX6_knownBy 27 = .ok (.iload_n 3, 1) := by decide +kernel
theorem dX6_knownBy_28 : decode cX6_knownBy 28 = .ok (.ishl, 1) := by decide +kernel
theorem dX6_knownBy_29 : decode cX6_knownBy 29 = .ok (.ior, 1) := by decide +kernel
theorem dX6_knownBy_30 : decode cX6_knownBy 30 = .ok (.istore_n 2, 1) := by decide +kernel
theorem dX6_knownBy_31 : decode cX6_knownBy 31 = .ok (.iinc 3 1, 3) := by decide +kernel
theorem dX6_knownBy_34 : decode cX6_knownBy 34 = .ok (.goto (-30), 3) := by decide +kernel
theorem dX6_knownBy_37 : decode cX6_knownBy 37 = .ok (.iload_n 2, 1) := by decide +kernel
theorem dX6_knownBy_38 : decode cX6_knownBy 38 = .ok (.ireturn, 1) := by decide +kernel
theorem dX6_longest_0 : decode cX6_longest 0 = .ok (.iconst 0, 1) := by decide +kernel
theorem dX6_longest_1 : decode cX6_longest 1 = .ok (.istore_n 1, 1) := by decide +kernel
theorem dX6_longest_2 : decode cX6_longest 2 = .ok (.iconst 1, 1) := by decide +kernel
theorem dX6_longest_3 : decode cX6_longest 3 = .ok (.istore_n 2, 1) := by decide +kernel
theorem dX6_longest_4 : decode cX6_longest 4 = .ok (.iload_n 2, 1) := by decide +kernel
theorem dX6_longest_5 : decode cX6_longest 5 = .ok (.aload_n 0, 1) := by decide +kernel
theorem dX6_longest_6 : decode cX6_longest 6 = .ok (.invokevirtual 39, 3) := by decide +kernel
theorem dX6_longest_9 : decode cX6_longest 9 = .ok (.if_icmp .ge 24, 3) := by decide +kernel
theorem dX6_longest_12 : decode cX6_longest 12 = .ok (.aload_n 0, 1) := by decide +kernel
theorem dX6_longest_13 : decode cX6_longest 13 = .ok (.iload_n 2, 1) := by decide +kernel
theorem dX6_longest_14 : decode cX6_longest 14 = .ok (.invokevirtual 74, 3) := by decide +kernel
theorem dX6_longest_17 : decode cX6_longest 17 = .ok (.aload_n 0, 1) := by decide +kernel
theorem dX6_longest_18 : decode cX6_longest 18 = .ok (.iload_n 1, 1) := by decide +kernel
theorem dX6_longest_19 : decode cX6_longest 19 = .ok (.invokevirtual 74, 3) := by decide +kernel
theorem dX6_longest_22 : decode cX6_longest 22 = .ok (.if_icmp .le 5, 3) := by decide +kernel
theorem dX6_longest_25 : decode cX6_longest 25 = .ok (.iload_n 2, 1) := by decide +kernel
theorem dX6_longest_26 : decode cX6_longest 26 = .ok (.istore_n 1, 1) := by decide +kernel
theorem dX6_longest_27 : decode cX6_longest 27 = .ok (.iinc 2 1, 3) := by decide +kernel
theorem dX6_longest_30 : decode cX6_longest 30 = .ok (.goto (-26), 3) := by decide +kernel
theorem dX6_longest_33 : decode cX6_longest 33 = .ok (.iload_n 1, 1) := by decide +kernel
theorem dX6_longest_34 : decode cX6_longest 34 = .ok (.ireturn, 1) := by decide +kernel
theorem dX7_init_0 : decode cX7_init 0 = .ok (.aload_n 0, 1) := by decide +kernel
theorem dX7_init_1 : decode cX7_init 1 = .ok (.invokespecial 3, 3) := by decide +kernel
theorem dX7_init_4 : decode cX7_init 4 = .ok (.aload_n 0, 1) := by decide +kernel
theorem dX7_init_5 : decode cX7_init 5 = .ok (.new 9, 3) := by decide +kernel
theorem dX7_init_8 : decode cX7_init 8 = .ok (.dup, 1) := by decide +kernel
theorem dX7_init_9 : decode cX7_init 9 = .ok (.invokespecial 11, 3) := by decide +kernel
theorem dX7_init_12 : decode cX7_init 12 = .ok (.putfield 12, 3) := by decide +kernel
theorem dX7_init_15 : decode cX7_init 15 = .ok (.aload_n 0, 1) := by decide +kernel
theorem dX7_init_16 : decode cX7_init 16 = .ok (.aload_n 1, 1) := by decide +kernel
theorem dX7_init_17 : decode cX7_init 17 = .ok (.putfield 18, 3) := by decide +kernel
theorem dX7_init_20 : decode cX7_init 20 = .ok (.return_, 1) := by decide +kernel
theorem dX7_draft_0 : decode cX7_draft 0 = .ok (.aload_n 0, 1) := by decide +kernel
theorem dX7_draft_1 : decode cX7_draft 1 = .ok (.getfield 12, 3) := by decide +kernel
theorem dX7_draft_4 : decode cX7_draft 4 = .ok (.areturn, 1) := by decide +kernel
theorem dX7_read_0 : decode cX7_read 0 = .ok (.aload_n 0, 1) := by decide +kernel
theorem dX7_read_1 : decode cX7_read 1 = .ok (.getfield 12, 3) := by decide +kernel
theorem dX7_read_4 : decode cX7_read 4 = .ok (.invokevirtual 22, 3) := by decide +kernel
theorem dX7_read_7 : decode cX7_read 7 = .ok (.aload_n 0, 1) := by decide +kernel
theorem dX7_read_8 : decode cX7_read 8 = .ok (.aload_n 0, 1) := by decide +kernel
theorem dX7_read_9 : decode cX7_read 9 = .ok (.getfield 18, 3) := by decide +kernel
theorem dX7_read_12 : decode cX7_read 12 = .ok (.iconst 0, 1) := by decide +kernel
theorem dX7_read_13 : decode cX7_read 13 = .ok (.invokevirtual 25, 3) := by decide +kernel
theorem dX7_read_16 : decode cX7_read 16 = .ok (.putfield 31, 3) := by decide +kernel
theorem dX7_read_19 : decode cX7_read 19 = .ok (.iconst 1, 1) := by decide +kernel
theorem dX7_read_20 : decode cX7_read 20 = .ok (.istore_n 1, 1) := by decide +kernel
theorem dX7_read_21 : decode cX7_read 21 = .ok (.iconst 0, 1) := by decide +kernel
theorem dX7_read_22 : decode cX7_read 22 = .ok (.istore_n 2, 1) := by decide +kernel
theorem dX7_read_23 : decode cX7_read 23 = .ok (.iload_n 1, 1) := by decide +kernel
theorem dX7_read_24 : decode cX7_read 24 = .ok (.ifCond .eq 58, 3) := by decide +kernel
theorem dX7_read_27 : decode cX7_read 27 = .ok (.iload_n 2, 1) := by decide +kernel
theorem dX7_read_28 : decode cX7_read 28 = .ok (.sipush 240, 3) := by decide +kernel
theorem dX7_read_31 : decode cX7_read 31 = .ok (.if_icmp .ge 51, 3) := by decide +kernel
theorem dX7_read_34 : decode cX7_read 34 = .ok (.aload_n 0, 1) := by decide +kernel
theorem dX7_read_35 : decode cX7_read 35 = .ok (.invokevirtual 35, 3) := by decide +kernel
theorem dX7_read_38 : decode cX7_read 38 = .ok (.ifCond .ne 8, 3) := by decide +kernel
theorem dX7_read_41 : decode cX7_read 41 = .ok (.aload_n 0, 1) := by decide +kernel
theorem dX7_read_42 : decode cX7_read 42 = .ok (.getfield 31, 3) := by decide +kernel
theorem dX7_read_45 : decode cX7_read 45 = .ok (.ireturn, 1) := by decide +kernel
theorem dX7_read_46 : decode cX7_read 46 = .ok (.aload_n 0, 1) := by decide +kernel
theorem dX7_read_47 : decode cX7_read 47 = .ok (.getfield 18, 3) := by decide +kernel
theorem dX7_read_50 : decode cX7_read 50 = .ok (.aload_n 0, 1) := by decide +kernel
theorem dX7_read_51 : decode cX7_read 51 = .ok (.getfield 31, 3) := by decide +kernel
theorem dX7_read_54 : decode cX7_read 54 = .ok (.invokevirtual 39, 3) := by decide +kernel
theorem dX7_read_57 : decode cX7_read 57 = .ok (.bipush 59, 2) := by decide +kernel
theorem dX7_read_59 : decode cX7_read 59 = .ok (.if_icmp .ne 7, 3) := by decide +kernel
theorem dX7_read_62 : decode cX7_read 62 = .ok (.iconst 1, 1) := by decide +kernel
theorem dX7_read_63 : decode cX7_read 63 = .ok (.goto 4, 3) := by decide +kernel
theorem dX7_read_66 : decode cX7_read 66 = .ok (.iconst 0, 1) := by decide +kernel
theorem dX7_read_67 : decode cX7_read 67 = .ok (.istore_n 1, 1) := by decide +kernel
theorem dX7_read_68 : decode cX7_read 68 = .ok (.iload_n 1, 1) := by decide +kernel
theorem dX7_read_69 : decode cX7_read 69 = .ok (.ifCond .eq 7, 3) := by decide +kernel
theorem dX7_read_72 : decode cX7_read 72 = .ok (.aload_n 0, 1) := by decide +kernel
theorem dX7_read_73 : decode cX7_read 73 = .ok (.invokevirtual 41, 3) := by decide +kernel
theorem dX7_read_76 : decode cX7_read 76 = .ok (.iinc 2 1, 3) := by decide +kernel
theorem dX7_read_79 : decode cX7_read 79 = .ok (.goto (-56), 3) := by decide +kernel
theorem dX7_read_82 : decode cX7_read 82 = .ok (.aload_n 0, 1) := by decide +kernel
theorem dX7_read_83 : decode cX7_read 83 = .ok (.getfield 31, 3) := by decide +kernel
theorem dX7_read_86 : decode cX7_read 86 = .ok (.aload_n 0, 1) := by decide +kernel
theorem dX7_read_87 : decode cX7_read 87 = .ok (.getfield 18, 3) := by decide +kernel
theorem dX7_read_90 : decode cX7_read 90 = .ok (.invokevirtual 44, 3) := by decide +kernel
theorem dX7_read_93 : decode cX7_read 93 = .ok (.if_icmp .ne 17, 3) := by decide +kernel
theorem dX7_read_96 : decode cX7_read 96 = .ok (.aload_n 0, 1) := by decide +kernel
theorem dX7_read_97 : decode cX7_read 97 = .ok (.getfield 12, 3) := by decide +kernel
theorem dX7_read_100 : decode cX7_read 100 = .ok (.invokevirtual 48, 3) := by decide +kernel
theorem dX7_read_103 : decode cX7_read 103 = .ok (.ifCond .eq 7, 3) := by decide +kernel
theorem dX7_read_106 : decode cX7_read 106 = .ok (.iconst (-1), 1) := by decide +kernel
theorem dX7_read_107 : decode cX7_read 107 = .ok (.goto 7, 3) := by decide +kernel
theorem dX7_read_110 : decode cX7_read 110 = .ok (.aload_n 0, 1) := by decide +kernel
theorem dX7_read_111 : decode cX7_read 111 = .ok (.getfield 31, 3) := by decide +kernel
theorem dX7_read_114 : decode cX7_read 114 = .ok (.ireturn, 1) := by decide +kernel
theorem dX7_step_0 : decode cX7_step 0 = .ok (.aload_n 0, 1) := by decide +kernel
theorem dX7_step_1 : decode cX7_step 1 = .ok (.aload_n 0, 1) := by decide +kernel
theorem dX7_step_2 : decode cX7_step 2 = .ok (.getfield 18, 3) := by decide +kernel
theorem dX7_step_5 : decode cX7_step 5 = .ok (.aload_n 0, 1) := by decide +kernel
theorem dX7_step_6 : decode cX7_step 6 = .ok (.getfield 31, 3) := by decide +kernel
theorem dX7_step_9 : decode cX7_step 9 = .ok (.iconst 1, 1) := by decide +kernel
theorem dX7_step_10 : decode cX7_step 10 = .ok (.iadd, 1) := by decide +kernel
theorem dX7_step_11 : decode cX7_step 11 = .ok (.invokevirtual 25, 3) := by decide +kernel
theorem dX7_step_14 : decode cX7_step 14 = .ok (.putfield 31, 3) := by decide +kernel
theorem dX7_step_17 : decode cX7_step 17 = .ok (.return_, 1) := by decide +kernel
theorem dX7_readClause_0 : decode cX7_readClause 0 = .ok (.aload_n 0, 1) := by decide +kernel
theorem dX7_readClause_1 : decode cX7_readClause 1 = .ok (.getfield 18, 3) := by decide +kernel
theorem dX7_readClause_4 : decode cX7_readClause 4 = .ok (.aload_n 0, 1) := by decide +kernel
theorem dX7_readClause_5 : decode cX7_readClause 5 = .ok (.getfield 31, 3) := by decide +kernel
theorem dX7_readClause_8 : decode cX7_readClause 8 = .ok (.invokevirtual 39, 3) := by decide +kernel
theorem dX7_readClause_11 : decode cX7_readClause 11 = .ok (.invokestatic 51, 3) := by decide +kernel
theorem dX7_readClause_14 : decode cX7_readClause 14 = .ok (.istore_n 1, 1) := by decide +kernel
theorem dX7_readClause_15 : decode cX7_readClause 15 = .ok (.iload_n 1, 1) := by decide +kernel
theorem dX7_readClause_16 : decode cX7_readClause 16 = .ok (.iconst (-1), 1) := by decide +kernel
theorem dX7_readClause_17 : decode cX7_readClause 17 = .ok (.if_icmp .eq 14, 3) := by decide +kernel
theorem dX7_readClause_20 : decode cX7_readClause 20 = .ok (.aload_n 0, 1) := by decide +kernel
theorem dX7_readClause_21 : decode cX7_readClause 21 = .ok (.getfield 12, 3) := by decide +kernel
theorem dX7_readClause_24 : decode cX7_readClause 24 = .ok (.iload_n 1, 1) := by decide +kernel
theorem dX7_readClause_25 : decode cX7_readClause 25 = .ok (.invokevirtual 54, 3) := by decide +kernel
theorem dX7_readClause_28 : decode cX7_readClause 28 = .ok (.ifCond .ne 5, 3) := by decide +kernel
theorem dX7_readClause_31 : decode cX7_readClause 31 = .ok (.iconst 0, 1) := by decide +kernel
theorem dX7_readClause_32 : decode cX7_readClause 32 = .ok (.ireturn, 1) := by decide +kernel
theorem dX7_readClause_33 : decode cX7_readClause 33 = .ok (.aload_n 0, 1) := by decide +kernel
theorem dX7_readClause_34 : decode cX7_readClause 34 = .ok (.invokevirtual 41, 3) := by decide +kernel
theorem dX7_readClause_37 : decode cX7_readClause 37 = .ok (.iconst 0, 1) := by decide +kernel
theorem dX7_readClause_38 : decode cX7_readClause 38 = .ok (.istore_n 2, 1) := by decide +kernel
theorem dX7_readClause_39 : decode cX7_readClause 39 = .ok (.iconst 0, 1) := by decide +kernel
theorem dX7_readClause_40 : decode cX7_readClause 40 = .ok (.istore_n 3, 1) := by decide +kernel
theorem dX7_readClause_41 : decode cX7_readClause 41 = .ok (.iload_n 3, 1) := by decide +kernel
theorem dX7_readClause_42 : decode cX7_readClause 42 = .ok (.iconst 3, 1) := by decide +kernel
theorem dX7_readClause_43 : decode cX7_readClause 43 = .ok (.if_icmp .ge 69, 3) := by decide +kernel
theorem dX7_readClause_46 : decode cX7_readClause 46 = .ok (.iload_n 1, 1) := by decide +kernel
theorem dX7_readClause_47 : decode cX7_readClause 47 = .ok (.aload_n 0, 1) := by decide +kernel
theorem dX7_readClause_48 : decode cX7_readClause 48 = .ok (.getfield 18, 3) := by decide +kernel
theorem dX7_readClause_51 : decode cX7_readClause 51 = .ok (.aload_n 0, 1) := by decide +kernel
theorem dX7_readClause_52 : decode cX7_readClause 52 = .ok (.getfield 31, 3) := by decide +kernel
theorem dX7_readClause_55 : decode cX7_readClause 55 = .ok (.invokevirtual 39, 3) := by decide +kernel
theorem dX7_readClause_58 : decode cX7_readClause 58 = .ok (.invokestatic 58, 3) := by decide +kernel
theorem dX7_readClause_61 : decode cX7_readClause 61 = .ok (.istore 4, 2) := by decide +kernel
theorem dX7_readClause_63 : decode cX7_readClause 63 = .ok (.iload 4, 2) := by decide +kernel
theorem dX7_readClause_65 : decode cX7_readClause 65 = .ok (.iconst (-1), 1) := by decide +kernel
theorem dX7_readClause_66 : decode cX7_readClause 66 = .ok (.if_icmp .ne 5, 3) := by decide +kernel
theorem dX7_readClause_69 : decode cX7_readClause 69 = .ok (.iconst 1, 1) := by decide +kernel
theorem dX7_readClause_70 : decode cX7_readClause 70 = .ok (.ireturn, 1) := by decide +kernel
theorem dX7_readClause_71 : decode cX7_readClause 71 = .ok (.iload_n 2, 1) := by decide +kernel
theorem dX7_readClause_72 : decode cX7_readClause 72 = .ok (.iload 4, 2) := by decide +kernel
theorem dX7_readClause_74 : decode cX7_readClause 74 = .ok (.ishr, 1) := by decide +kernel
theorem dX7_readClause_75 : decode cX7_readClause 75 = .ok (.iconst 1, 1) := by decide +kernel
theorem dX7_readClause_76 : decode cX7_readClause 76 = .ok (.iand, 1) := by decide +kernel
theorem dX7_readClause_77 : decode cX7_readClause 77 = .ok (.iconst 1, 1) := by decide +kernel
theorem dX7_readClause_78 : decode cX7_readClause 78 = .ok (.if_icmp .ne 5, 3) := by decide +kernel
theorem dX7_readClause_81 : decode cX7_readClause 81 = .ok (.iconst 0, 1) := by decide +kernel
theorem dX7_readClause_82 : decode cX7_readClause 82 = .ok (.ireturn, 1) := by decide +kernel
theorem dX7_readClause_83 : decode cX7_readClause 83 = .ok (.iload_n 2, 1) := by decide +kernel
theorem dX7_readClause_84 : decode cX7_readClause 84 = .ok (.iconst 1, 1) := by decide +kernel
theorem dX7_readClause_85 : decode cX7_readClause 85 = .ok (.iload 4, 2) := by decide +kernel
theorem dX7_readClause_87 : decode cX7_readClause 87 = .ok (.ishl, 1) := by decide +kernel
theorem dX7_readClause_88 : decode cX7_readClause 88 = .ok (.ior, 1) := by decide +kernel
theorem dX7_readClause_89 : decode cX7_readClause 89 = .ok (.istore_n 2, 1) := by decide +kernel
theorem dX7_readClause_90 : decode cX7_readClause 90 = .ok (.aload_n 0, 1) := by decide +kernel
theorem dX7_readClause_91 : decode cX7_readClause 91 = .ok (.invokevirtual 41, 3) := by decide +kernel
theorem dX7_readClause_94 : decode cX7_readClause 94 = .ok (.aload_n 0, 1) := by decide +kernel
theorem dX7_readClause_95 : decode cX7_readClause 95 = .ok (.iload_n 1, 1) := by decide +kernel
theorem dX7_readClause_96 : decode cX7_readClause 96 = .ok (.iload 4, 2) := by decide +kernel
theorem dX7_readClause_98 : decode cX7_readClause 98 = .ok (.invokevirtual 62, 3) := by decide +kernel
theorem dX7_readClause_101 : decode cX7_readClause 101 = .ok (.ifCond .ne 5, 3) := by decide +kernel
theorem dX7_readClause_104 : decode cX7_readClause 104 = .ok (.iconst 0, 1) := by decide +kernel
theorem dX7_readClause_105 : decode cX7_readClause 105 = .ok (.ireturn, 1) := by decide +kernel
theorem dX7_readClause_106 : decode cX7_readClause 106 = .ok (.iinc 3 1, 3) := by decide +kernel
theorem dX7_readClause_109 : decode cX7_readClause 109 = .ok (.goto (-68), 3) := by decide +kernel
theorem dX7_readClause_112 : decode cX7_readClause 112 = .ok (.iconst 1, 1) := by decide +kernel
theorem dX7_readClause_113 : decode cX7_readClause 113 = .ok (.ireturn, 1) := by decide +kernel
theorem dX7_readNumber_0 : decode cX7_readNumber 0 = .ok (.aload_n 0, 1) := by decide +kernel
theorem dX7_readNumber_1 : decode cX7_readNumber 1 = .ok (.getfield 18, 3) := by decide +kernel
theorem dX7_readNumber_4 : decode cX7_readNumber 4 = .ok (.aload_n 0, 1) := by decide +kernel
theorem dX7_readNumber_5 : decode cX7_readNumber 5 = .ok (.getfield 31, 3) := by decide +kernel
theorem dX7_readNumber_8 : decode cX7_readNumber 8 = .ok (.iconst 3, 1) := by decide +kernel
theorem dX7_readNumber_9 : decode cX7_readNumber 9 = .ok (.invokevirtual 66, 3) := by decide +kernel
theorem dX7_readNumber_12 : decode cX7_readNumber 12 = .ok (.istore_n 3, 1) := by decide +kernel
theorem dX7_readNumber_13 : decode cX7_readNumber 13 = .ok (.iload_n 3, 1) := by decide +kernel
theorem dX7_readNumber_14 : decode cX7_readNumber 14 = .ok (.ifCond .ne 5, 3) := by decide +kernel
theorem dX7_readNumber_17 : decode cX7_readNumber 17 = .ok (.iconst 0, 1) := by decide +kernel
theorem dX7_readNumber_18 : decode cX7_readNumber 18 = .ok (.ireturn, 1) := by decide +kernel
theorem dX7_readNumber_19 : decode cX7_readNumber 19 = .ok (.iload_n 3, 1) := by decide +kernel
theorem dX7_readNumber_20 : decode cX7_readNumber 20 = .ok (.iconst 2, 1) := by decide +kernel
theorem dX7_readNumber_21 : decode cX7_readNumber 21 = .ok (.if_icmp .le 15, 3) := by decide +kernel
theorem dX7_readNumber_24 : decode cX7_readNumber 24 = .ok (.aload_n 0, 1) := by decide +kernel
theorem dX7_readNumber_25 : decode cX7_readNumber 25 = .ok (.dup, 1) := by decide +kernel
theorem dX7_readNumber_26 : decode cX7_readNumber 26 = .ok (.getfield 31, 3) := by decide +kernel
theorem dX7_readNumber_29 : decode cX7_readNumber 29 = .ok (.iconst 2, 1) := by decide +kernel
theorem dX7_readNumber_30 : decode cX7_readNumber 30 = .ok (.iadd, 1) := by decide +kernel
theorem dX7_readNumber_31 : decode cX7_readNumber 31 = .ok (.putfield 31, 3) := by decide +kernel
theorem dX7_readNumber_34 : decode cX7_readNumber 34 = .ok (.iconst 0, 1) := by decide +kernel
theorem dX7_readNumber_35 : decode cX7_readNumber 35 = .ok (.ireturn, 1) := by decide +kernel
theorem dX7_readNumber_36 : decode cX7_readNumber 36 = .ok (.aload_n 0, 1) := by decide +kernel
theorem dX7_readNumber_37 : decode cX7_readNumber 37 = .ok (.getfield 18, 3) := by decide +kernel
theorem dX7_readNumber_40 : decode cX7_readNumber 40 = .ok (.aload_n 0, 1) := by decide +kernel
theorem dX7_readNumber_41 : decode cX7_readNumber 41 = .ok (.getfield 31, 3) := by decide +kernel
theorem dX7_readNumber_44 : decode cX7_readNumber 44 = .ok (.iload_n 3, 1) := by decide +kernel
theorem dX7_readNumber_45 : decode cX7_readNumber 45 = .ok (.invokevirtual 69, 3) := by decide +kernel
theorem dX7_readNumber_48 : decode cX7_readNumber 48 = .ok (.istore 4, 2) := by decide +kernel
theorem dX7_readNumber_50 : decode cX7_readNumber 50 = .ok (.aload_n 0, 1) := by decide +kernel
theorem dX7_readNumber_51 : decode cX7_readNumber 51 = .ok (.dup, 1) := by decide +kernel
theorem dX7_readNumber_52 : decode cX7_readNumber 52 = .ok (.getfield 31, 3) := by decide +kernel
theorem dX7_readNumber_55 : decode cX7_readNumber 55 = .ok (.iload_n 3, 1) := by decide +kernel
theorem dX7_readNumber_56 : decode cX7_readNumber 56 = .ok (.iconst 1, 1) := by decide +kernel
theorem dX7_readNumber_57 : decode cX7_readNumber 57 = .ok (.isub, 1) := by decide +kernel
theorem dX7_readNumber_58 : decode cX7_readNumber 58 = .ok (.iadd, 1) := by decide +kernel
theorem dX7_readNumber_59 : decode cX7_readNumber 59 = .ok (.putfield 31, 3) := by decide +kernel
theorem dX7_readNumber_62 : decode cX7_readNumber 62 = .ok (.iload 4, 2) := by decide +kernel
theorem dX7_readNumber_64 : decode cX7_readNumber 64 = .ok (.getstatic 72, 3) := by decide +kernel
theorem dX7_readNumber_67 : decode cX7_readNumber 67 = .ok (.iload_n 1, 1) := by decide +kernel
theorem dX7_readNumber_68 : decode cX7_readNumber 68 = .ok (.iconst 3, 1) := by decide +kernel
theorem dX7_readNumber_69 : decode cX7_readNumber 69 = .ok (.imul, 1) := by decide +kernel
theorem dX7_readNumber_70 : decode cX7_readNumber 70 = .ok (.iload_n 2, 1) := by decide +kernel
theorem dX7_readNumber_71 : decode cX7_readNumber 71 = .ok (.iadd, 1) := by decide +kernel
theorem dX7_readNumber_72 : decode cX7_readNumber 72 = .ok (.iaload, 1) := by decide +kernel
theorem dX7_readNumber_73 : decode cX7_readNumber 73 = .ok (.if_icmp .lt 17, 3) := by decide +kernel
theorem dX7_readNumber_76 : decode cX7_readNumber 76 = .ok (.iload 4, 2) := by decide +kernel
theorem dX7_readNumber_78 : decode cX7_readNumber 78 = .ok (.getstatic 76, 3) := by decide +kernel
theorem dX7_readNumber_81 : decode cX7_readNumber 81 = .ok (.iload_n 1, 1) := by decide +kernel
theorem dX7_readNumber_82 : decode cX7_readNumber 82 = .ok (.iconst 3, 1) := by decide +kernel
theorem dX7_readNumber_83 : decode cX7_readNumber 83 = .ok (.imul, 1) := by decide +kernel
theorem dX7_readNumber_84 : decode cX7_readNumber 84 = .ok (.iload_n 2, 1) := by decide +kernel
theorem dX7_readNumber_85 : decode cX7_readNumber 85 = .ok (.iadd, 1) := by decide +kernel
theorem dX7_readNumber_86 : decode cX7_readNumber 86 = .ok (.iaload, 1) := by decide +kernel
theorem dX7_readNumber_87 : decode cX7_readNumber 87 = .ok (.if_icmp .le 5, 3) := by decide +kernel
theorem dX7_readNumber_90 : decode cX7_readNumber 90 = .ok (.iconst 0, 1) := by decide +kernel
theorem dX7_readNumber_91 : decode cX7_readNumber 91 = .ok (.ireturn, 1) := by decide +kernel
theorem dX7_readNumber_92 : decode cX7_readNumber 92 = .ok (.aload_n 0, 1) := by decide +kernel
theorem dX7_readNumber_93 : decode cX7_readNumber 93 = .ok (.getfield 12, 3) := by decide +kernel
theorem dX7_readNumber_96 : decode cX7_readNumber 96 = .ok (.iload_n 1, 1) := by decide +kernel
theorem dX7_readNumber_97 : decode cX7_readNumber 97 = .ok (.iload_n 2, 1) := by decide +kernel
theorem dX7_readNumber_98 : decode cX7_readNumber 98 = .ok (.iload 4, 2) := by decide +kernel
theorem dX7_readNumber_100 : decode cX7_readNumber 100 = .ok (.invokevirtual 79, 3) := by decide +kernel
theorem dX7_readNumber_103 : decode cX7_readNumber 103 = .ok (.aload_n 0, 1) := by decide +kernel
theorem dX7_readNumber_104 : decode cX7_readNumber 104 = .ok (.invokevirtual 41, 3) := by decide +kernel
theorem dX7_readNumber_107 : decode cX7_readNumber 107 = .ok (.iconst 1, 1) := by decide +kernel
theorem dX7_readNumber_108 : decode cX7_readNumber 108 = .ok (.ireturn, 1) := by decide +kernel
theorem dX7_kindOf_0 : decode cX7_kindOf 0 = .ok (.iconst 0, 1) := by decide +kernel
theorem dX7_kindOf_1 : decode cX7_kindOf 1 = .ok (.istore_n 1, 1) := by decide +kernel
theorem dX7_kindOf_2 : decode cX7_kindOf 2 = .ok (.iload_n 1, 1) := by decide +kernel
theorem dX7_kindOf_3 : decode cX7_kindOf 3 = .ok (.getstatic 83, 3) := by decide +kernel
theorem dX7_kindOf_6 : decode cX7_kindOf 6 = .ok (.arraylength, 1) := by decide +kernel
theorem dX7_kindOf_7 : decode cX7_kindOf 7 = .ok (.if_icmp .ge 20, 3) := by decide +kernel
theorem dX7_kindOf_10 : decode cX7_kindOf 10 = .ok (.iload_n 0, 1) := by decide +kernel
theorem dX7_kindOf_11 : decode cX7_kindOf 11 = .ok (.getstatic 83, 3) := by decide +kernel
theorem dX7_kindOf_14 : decode cX7_kindOf 14 = .ok (.iload_n 1, 1) := by decide +kernel
theorem dX7_kindOf_15 : decode cX7_kindOf 15 = .ok (.caload, 1) := by decide +kernel
theorem dX7_kindOf_16 : decode cX7_kindOf 16 = .ok (.if_icmp .ne 5, 3) := by decide +kernel
theorem dX7_kindOf_19 : decode cX7_kindOf 19 = .ok (.iload_n 1, 1) := by decide +kernel
theorem dX7_kindOf_20 : decode cX7_kindOf 20 = .ok (.ireturn, 1) := by decide +kernel
theorem dX7_kindOf_21 : decode cX7_kindOf 21 = .ok (.iinc 1 1, 3) := by decide +kernel
theorem dX7_kindOf_24 : decode cX7_kindOf 24 = .ok (.goto (-22), 3) := by decide +kernel
theorem dX7_kindOf_27 : decode cX7_kindOf 27 = .ok (.iconst (-1), 1) := by decide +kernel
theorem dX7_kindOf_28 : decode cX7_kindOf 28 = .ok (.ireturn, 1) := by decide +kernel
theorem dX7_itemOf_0 : decode cX7_itemOf 0 = .ok (.iconst 0, 1) := by decide +kernel
theorem dX7_itemOf_1 : decode cX7_itemOf 1 = .ok (.istore_n 2, 1) := by decide +kernel
theorem dX7_itemOf_2 : decode cX7_itemOf 2 = .ok (.iload_n 2, 1) := by decide +kernel
theorem dX7_itemOf_3 : decode cX7_itemOf 3 = .ok (.iconst 3, 1) := by decide +kernel
theorem dX7_itemOf_4 : decode cX7_itemOf 4 = .ok (.if_icmp .ge 28, 3) := by decide +kernel
theorem dX7_itemOf_7 : decode cX7_itemOf 7 = .ok (.iload_n 1, 1) := by decide +kernel
theorem dX7_itemOf_8 : decode cX7_itemOf 8 = .ok (.ifCond .eq 18, 3) := by decide +kernel
theorem dX7_itemOf_11 : decode cX7_itemOf 11 = .ok (.iload_n 1, 1) := by decide +kernel
theorem dX7_itemOf_12 : decode cX7_itemOf 12 = .ok (.getstatic 87, 3) := by decide +kernel
theorem dX7_itemOf_15 : decode cX7_itemOf 15 = .ok (.iload_n 0, 1) := by decide +kernel
theorem dX7_itemOf_16 : decode cX7_itemOf 16 = .ok (.iconst 3, 1) := by decide +kernel
theorem dX7_itemOf_17 : decode cX7_itemOf 17 = .ok (.imul, 1) := by decide +kernel
theorem dX7_itemOf_18 : decode cX7_itemOf 18 = .ok (.iload_n 2, 1) := by decide +kernel
theorem dX7_itemOf_19 : decode cX7_itemOf 19 = .ok (.iadd, 1) := by decide +kernel
theorem dX7_itemOf_20 : decode cX7_itemOf 20 = .ok (.caload, 1) := by decide +kernel
theorem dX7_itemOf_21 : decode cX7_itemOf 21 = .ok (.if_icmp .ne 5, 3) := by decide +kernel
theorem dX7_itemOf_24 : decode cX7_itemOf 24 = .ok (.iload_n 2, 1) := by decide +kernel
theorem dX7_itemOf_25 : decode cX7_itemOf 25 = .ok (.ireturn, 1) := by decide +kernel
theorem dX7_itemOf_26 : decode cX7_itemOf 26 = .ok (.iinc 2 1, 3) := by decide +kernel
theorem dX7_itemOf_29 : decode cX7_itemOf 29 = .ok (.goto (-27), 3) := by decide +kernel
theorem dX7_itemOf_32 : decode cX7_itemOf 32 = .ok (.iconst (-1), 1) := by decide +kernel
theorem dX7_itemOf_33 : decode cX7_itemOf 33 = .ok (.ireturn, 1) := by decide +kernel
theorem dX8_init_0 : decode cX8_init 0 = .ok (.aload_n 0, 1) := by decide +kernel
theorem dX8_init_1 : decode cX8_init 1 = .ok (.invokespecial 3, 3) := by decide +kernel
theorem dX8_init_4 : decode cX8_init 4 = .ok (.aload_n 0, 1) := by decide +kernel
theorem dX8_init_5 : decode cX8_init 5 = .ok (.bipush 10, 2) := by decide +kernel
theorem dX8_init_7 : decode cX8_init 7 = .ok (.newarray .int, 2) := by decide +kernel
theorem dX8_init_9 : decode cX8_init 9 = .ok (.putfield 11, 3) := by decide +kernel
theorem dX8_init_12 : decode cX8_init 12 = .ok (.aload_n 0, 1) := by decide +kernel
theorem dX8_init_13 : decode cX8_init 13 = .ok (.aload_n 1, 1) := by decide +kernel
theorem dX8_init_14 : decode cX8_init 14 = .ok (.putfield 15, 3) := by decide +kernel
theorem dX8_init_17 : decode cX8_init 17 = .ok (.aload_n 0, 1) := by decide +kernel
theorem dX8_init_18 : decode cX8_init 18 = .ok (.aload_n 2, 1) := by decide +kernel
theorem dX8_init_19 : decode cX8_init 19 = .ok (.putfield 19, 3) := by decide +kernel
theorem dX8_init_22 : decode cX8_init 22 = .ok (.return_, 1) := by decide +kernel
theorem dX8_fewestDrops_0 : decode cX8_fewestDrops 0 = .ok (.aload_n 0, 1) := by decide +kernel
theorem dX8_fewestDrops_1 : decode cX8_fewestDrops 1 = .ok (.getfield 19, 3) := by decide +kernel
theorem dX8_fewestDrops_4 : decode cX8_fewestDrops 4 = .ok (.iload_n 1, 1) := by decide +kernel
theorem dX8_fewestDrops_5 : decode cX8_fewestDrops 5 = .ok (.aload_n 0, 1) := by decide +kernel
theorem dX8_fewestDrops_6 : decode cX8_fewestDrops 6 = .ok (.getfield 19, 3) := by decide +kernel
theorem dX8_fewestDrops_9 : decode cX8_fewestDrops 9 = .ok (.invokevirtual 23, 3) := by decide +kernel
theorem dX8_fewestDrops_12 : decode cX8_fewestDrops 12 = .ok (.invokevirtual 29, 3) := by decide +kernel
theorem dX8_fewestDrops_15 : decode cX8_fewestDrops 15 = .ok (.aload_n 0, 1) := by decide +kernel
theorem dX8_fewestDrops_16 : decode cX8_fewestDrops 16 = .ok (.getfield 15, 3) := by decide +kernel
theorem dX8_fewestDrops_19 : decode cX8_fewestDrops 19 = .ok (.iload_n 1, 1) := by decide +kernel
theorem dX8_fewestDrops_20 : decode cX8_fewestDrops 20 = .ok (.invokevirtual 33, 3) := by decide +kernel
theorem dX8_fewestDrops_23 : decode cX8_fewestDrops 23 = .ok (.iadd, 1) := by decide +kernel
theorem dX8_fewestDrops_24 : decode cX8_fewestDrops 24 = .ok (.istore_n 2, 1) := by decide +kernel
theorem dX8_fewestDrops_25 : decode cX8_fewestDrops 25 = .ok (.aload_n 0, 1) := by decide +kernel
theorem dX8_fewestDrops_26 : decode cX8_fewestDrops 26 = .ok (.getfield 19, 3) := by decide +kernel
theorem dX8_fewestDrops_29 : decode cX8_fewestDrops 29 = .ok (.iload_n 1, 1) := by decide +kernel
theorem dX8_fewestDrops_30 : decode cX8_fewestDrops 30 = .ok (.invokevirtual 39, 3) := by decide +kernel
theorem dX8_fewestDrops_33 : decode cX8_fewestDrops 33 = .ok (.ifCond .ne 9, 3) := by decide +kernel
theorem dX8_fewestDrops_36 : decode cX8_fewestDrops 36 = .ok (.iload_n 2, 1) := by decide +kernel
theorem dX8_fewestDrops_37 : decode cX8_fewestDrops 37 = .ok (.bipush 9, 2) := by decide +kernel
theorem dX8_fewestDrops_39 : decode cX8_fewestDrops 39 = .ok (.if_icmp .le 7, 3) := by decide +kernel
theorem dX8_fewestDrops_42 : decode cX8_fewestDrops 42 = .ok (.iconst (-1), 1) := by decide +kernel
theorem dX8_fewestDrops_43 : decode cX8_fewestDrops 43 = .ok (.goto 4, 3) := by decide +kernel
theorem dX8_fewestDrops_46 : decode cX8_fewestDrops 46 = .ok (.iload_n 2, 1) := by decide +kernel
theorem dX8_fewestDrops_47 : decode cX8_fewestDrops 47 = .ok (.ireturn, 1) := by decide +kernel
theorem dX8_setUp_0 : decode cX8_setUp 0 = .ok (.iconst 0, 1) := by decide +kernel
theorem dX8_setUp_1 : decode cX8_setUp 1 = .ok (.istore_n 2, 1) := by decide +kernel
theorem dX8_setUp_2 : decode cX8_setUp 2 = .ok (.iload_n 2, 1) := by decide +kernel
theorem dX8_setUp_3 : decode cX8_setUp 3 = .ok (.bipush 9, 2) := by decide +kernel
theorem dX8_setUp_5 : decode cX8_setUp 5 = .ok (.if_icmp .gt 31, 3) := by decide +kernel
theorem dX8_setUp_8 : decode cX8_setUp 8 = .ok (.aload_n 0, 1) := by decide +kernel
theorem dX8_setUp_9 : decode cX8_setUp 9 = .ok (.getfield 11, 3) := by decide +kernel
theorem dX8_setUp_12 : decode cX8_setUp 12 = .ok (.iload_n 2, 1) := by decide +kernel
theorem dX8_setUp_13 : decode cX8_setUp 13 = .ok (.aload_n 0, 1) := by decide +kernel
theorem dX8_setUp_14 : decode cX8_setUp 14 = .ok (.getfield 19, 3) := by decide +kernel
theorem dX8_setUp_17 : decode cX8_setUp 17 = .ok (.iload_n 1, 1) := by decide +kernel
theorem dX8_setUp_18 : decode cX8_setUp 18 = .ok (.iload_n 2, 1) := by decide +kernel
theorem dX8_setUp_19 : decode cX8_setUp 19 = .ok (.aload_n 0, 1) := by decide +kernel
theorem dX8_setUp_20 : decode cX8_setUp 20 = .ok (.getfield 19, 3) := by decide +kernel
theorem dX8_setUp_23 : decode cX8_setUp 23 = .ok (.invokevirtual 23, 3) := by decide +kernel
theorem dX8_setUp_26 : decode cX8_setUp 26 = .ok (.invokevirtual 43, 3) := by decide +kernel
theorem dX8_setUp_29 : decode cX8_setUp 29 = .ok (.iastore, 1) := by decide +kernel
theorem dX8_setUp_30 : decode cX8_setUp 30 = .ok (.iinc 2 1, 3) := by decide +kernel
theorem dX8_setUp_33 : decode cX8_setUp 33 = .ok (.goto (-31), 3) := by decide +kernel
theorem dX8_setUp_36 : decode cX8_setUp 36 = .ok (.return_, 1) := by decide +kernel
theorem dX8_gain_0 : decode cX8_gain 0 = .ok (.iconst 0, 1) := by decide +kernel
theorem dX8_gain_1 : decode cX8_gain 1 = .ok (.bipush 9, 2) := by decide +kernel
theorem dX8_gain_3 : decode cX8_gain 3 = .ok (.iload_n 2, 1) := by decide +kernel
theorem dX8_gain_4 : decode cX8_gain 4 = .ok (.iload_n 3, 1) := by decide +kernel
theorem dX8_gain_5 : decode cX8_gain 5 = .ok (.invokestatic 47, 3) := by decide +kernel
theorem dX8_gain_8 : decode cX8_gain 8 = .ok (.invokestatic 52, 3) := by decide +kernel
theorem dX8_gain_11 : decode cX8_gain 11 = .ok (.invokestatic 47, 3) := by decide +kernel
theorem dX8_gain_14 : decode cX8_gain 14 = .ok (.istore 4, 2) := by decide +kernel
theorem dX8_gain_16 : decode cX8_gain 16 = .ok (.aload_n 0, 1) := by decide +kernel
theorem dX8_gain_17 : decode cX8_gain 17 = .ok (.getfield 11, 3) := by decide +kernel
theorem dX8_gain_20 : decode cX8_gain 20 = .ok (.iload 4, 2) := by decide +kernel
theorem dX8_gain_22 : decode cX8_gain 22 = .ok (.iaload, 1) := by decide +kernel
theorem dX8_gain_23 : decode cX8_gain 23 = .ok (.aload_n 0, 1) := by decide +kernel
theorem dX8_gain_24 : decode cX8_gain 24 = .ok (.getfield 15, 3) := by decide +kernel
theorem dX8_gain_27 : decode cX8_gain 27 = .ok (.iload_n 1, 1) := by decide +kernel
theorem dX8_gain_28 : decode cX8_gain 28 = .ok (.invokevirtual 55, 3) := by decide +kernel
theorem dX8_gain_31 : decode cX8_gain 31 = .ok (.if_icmp .ne 7, 3) := by decide +kernel
theorem dX8_gain_34 : decode cX8_gain 34 = .ok (.iconst 5, 1) := by decide +kernel
theorem dX8_gain_35 : decode cX8_gain 35 = .ok (.goto 4, 3) := by decide +kernel
theorem dX8_gain_38 : decode cX8_gain 38 = .ok (.iconst 0, 1) := by decide +kernel
theorem dX8_gain_39 : decode cX8_gain 39 = .ok (.iload_n 2, 1) := by decide +kernel
theorem dX8_gain_40 : decode cX8_gain 40 = .ok (.isub, 1) := by decide +kernel
theorem dX8_gain_41 : decode cX8_gain 41 = .ok (.ireturn, 1) := by decide +kernel
theorem dX8_restCount_0 : decode cX8_restCount 0 = .ok (.iconst 0, 1) := by decide +kernel
theorem dX8_restCount_1 : decode cX8_restCount 1 = .ok (.istore_n 3, 1) := by decide +kernel
theorem dX8_restCount_2 : decode cX8_restCount 2 = .ok (.iconst 0, 1) := by decide +kernel
theorem dX8_restCount_3 : decode cX8_restCount 3 = .ok (.istore 4, 2) := by decide +kernel
theorem dX8_restCount_5 : decode cX8_restCount 5 = .ok (.iload 4, 2) := by decide +kernel
theorem dX8_restCount_7 : decode cX8_restCount 7 = .ok (.bipush 9, 2) := by decide +kernel
theorem dX8_restCount_9 : decode cX8_restCount 9 = .ok (.if_icmp .gt 52, 3) := by decide +kernel
theorem dX8_restCount_12 : decode cX8_restCount 12 = .ok (.iconst 0, 1) := by decide +kernel
theorem dX8_restCount_13 : decode cX8_restCount 13 = .ok (.istore 5, 2) := by decide +kernel
theorem dX8_restCount_15 : decode cX8_restCount 15 = .ok (.iload 5, 2) := by decide +kernel
theorem dX8_restCount_17 : decode cX8_restCount 17 = .ok (.bipush 9, 2) := by decide +kernel
theorem dX8_restCount_19 : decode cX8_restCount 19 = .ok (.if_icmp .gt 36, 3) := by decide +kernel
theorem dX8_restCount_22 : decode cX8_restCount 22 = .ok (.aload_n 0, 1) := by decide +kernel
theorem dX8_restCount_23 : decode cX8_restCount 23 = .ok (.iload_n 1, 1) := by decide +kernel
theorem dX8_restCount_24 : decode cX8_restCount 24 = .ok (.iload 4, 2) := by decide +kernel
theorem dX8_restCount_26 : decode cX8_restCount 26 = .ok (.iload 5, 2) := by decide +kernel
theorem dX8_restCount_28 : decode cX8_restCount 28 = .ok (.invokevirtual 58, 3) := by decide +kernel
theorem dX8_restCount_31 : decode cX8_restCount 31 = .ok (.ifCond .eq 18, 3) := by decide +kernel
theorem dX8_restCount_34 : decode cX8_restCount 34 = .ok (.aload_n 0, 1) := by decide +kernel
theorem dX8_restCount_35 : decode cX8_restCount 35 = .ok (.iload_n 2, 1) := by decide +kernel
theorem dX8_restCount_36 : decode cX8_restCount 36 = .ok (.iload 5, 2) := by decide +kernel
theorem dX8_restCount_38 : decode cX8_restCount 38 = .ok (.iload 4, 2) := by decide +kernel
theorem dX8_restCount_40 : decode cX8_restCount 40 = .ok (.invokevirtual 58, 3) := by decide +kernel
theorem dX8_restCount_43 : decode cX8_restCount 43 = .ok (.ifCond .eq 6, 3) := by decide +kernel
theorem dX8_restCount_46 : decode cX8_restCount 46 = .ok (.iinc 3 1, 3) := by decide +kernel
theorem dX8_restCount_49 : decode cX8_restCount 49 = .ok (.iinc 5 1, 3) := by decide +kernel
theorem dX8_restCount_52 : decode cX8_restCount 52 = .ok (.goto (-37), 3) := by decide +kernel
theorem dX8_restCount_55 : decode cX8_restCount 55 = .ok (.iinc 4 1, 3) := by decide +kernel
theorem dX8_restCount_58 : decode cX8_restCount 58 = .ok (.goto (-53), 3) := by decide +kernel
theorem dX8_restCount_61 : decode cX8_restCount 61 = .ok (.iload_n 3, 1) := by decide +kernel
theorem dX8_restCount_62 : decode cX8_restCount 62 = .ok (.ireturn, 1) := by decide +kernel
theorem dX8_restAt_0 : decode cX8_restAt 0 = .ok (.iconst 0, 1) := by decide +kernel
theorem dX8_restAt_1 : decode cX8_restAt 1 = .ok (.istore 4, 2) := by decide +kernel
theorem dX8_restAt_3 : decode cX8_restAt 3 = .ok (.iconst 0, 1) := by decide +kernel
theorem dX8_restAt_4 : decode cX8_restAt 4 = .ok (.istore 5, 2) := by decide +kernel
theorem dX8_restAt_6 : decode cX8_restAt 6 = .ok (.iload 5, 2) := by decide +kernel
theorem dX8_restAt_8 : decode cX8_restAt 8 = .ok (.bipush 9, 2) := by decide +kernel
theorem dX8_restAt_10 : decode cX8_restAt 10 = .ok (.if_icmp .gt 67, 3) := by decide +kernel
theorem dX8_restAt_13 : decode cX8_restAt 13 = .ok (.iconst 0, 1) := by decide +kernel
theorem dX8_restAt_14 : decode cX8_restAt 14 = .ok (.istore 6, 2) := by decide +kernel
theorem dX8_restAt_16 : decode cX8_restAt 16 = .ok (.iload 6, 2) := by decide +kernel
theorem dX8_restAt_18 : decode cX8_restAt 18 = .ok (.bipush 9, 2) := by decide +kernel
theorem dX8_restAt_20 : decode cX8_restAt 20 = .ok (.if_icmp .gt 51, 3) := by decide +kernel
theorem dX8_restAt_23 : decode cX8_restAt 23 = .ok (.aload_n 0, 1) := by decide +kernel
theorem dX8_restAt_24 : decode cX8_restAt 24 = .ok (.iload_n 1, 1) := by decide +kernel
theorem dX8_restAt_25 : decode cX8_restAt 25 = .ok (.iload 5, 2) := by decide +kernel
theorem dX8_restAt_27 : decode cX8_restAt 27 = .ok (.iload 6, 2) := by decide +kernel
theorem dX8_restAt_29 : decode cX8_restAt 29 = .ok (.invokevirtual 58, 3) := by decide +kernel
theorem dX8_restAt_32 : decode cX8_restAt 32 = .ok (.ifCond .eq 33, 3) := by decide +kernel
theorem dX8_restAt_35 : decode cX8_restAt 35 = .ok (.aload_n 0, 1) := by decide +kernel
theorem dX8_restAt_36 : decode cX8_restAt 36 = .ok (.iload_n 2, 1) := by decide +kernel
theorem dX8_restAt_37 : decode cX8_restAt 37 = .ok (.iload 6, 2) := by decide +kernel
theorem dX8_restAt_39 : decode cX8_restAt 39 = .ok (.iload 5, 2) := by decide +kernel
theorem dX8_restAt_41 : decode cX8_restAt 41 = .ok (.invokevirtual 58, 3) := by decide +kernel
theorem dX8_restAt_44 : decode cX8_restAt 44 = .ok (.ifCond .eq 21, 3) := by decide +kernel
theorem dX8_restAt_47 : decode cX8_restAt 47 = .ok (.iload 4, 2) := by decide +kernel
theorem dX8_restAt_49 : decode cX8_restAt 49 = .ok (.iload_n 3, 1) := by decide +kernel
theorem dX8_restAt_50 : decode cX8_restAt 50 = .ok (.if_icmp .ne 12, 3) := by decide +kernel
theorem dX8_restAt_53 : decode cX8_restAt 53 = .ok (.bipush 10, 2) := by decide +kernel
theorem dX8_restAt_55 : decode cX8_restAt 55 = .ok (.iload 5, 2) := by decide +kernel
theorem dX8_restAt_57 : decode cX8_restAt 57 = .ok (.imul, 1) := by decide +kernel
theorem dX8_restAt_58 : decode cX8_restAt 58 = .ok (.iload 6, 2) := by decide +kernel
theorem dX8_restAt_60 : decode cX8_restAt 60 = .ok (.iadd, 1) := by decide +kernel
theorem dX8_restAt_61 : decode cX8_restAt 61 = .ok (.ireturn, 1) := by decide +kernel
theorem dX8_restAt_62 : decode cX8_restAt 62 = .ok (.iinc 4 1, 3) := by decide +kernel
theorem dX8_restAt_65 : decode cX8_restAt 65 = .ok (.iinc 6 1, 3) := by decide +kernel
theorem dX8_restAt_68 : decode cX8_restAt 68 = .ok (.goto (-52), 3) := by decide +kernel
theorem dX8_restAt_71 : decode cX8_restAt 71 = .ok (.iinc 5 1, 3) := by decide +kernel
theorem dX8_restAt_74 : decode cX8_restAt 74 = .ok (.goto (-68), 3) := by decide +kernel
theorem dX8_restAt_77 : decode cX8_restAt 77 = .ok (.iconst (-1), 1) := by decide +kernel
theorem dX8_restAt_78 : decode cX8_restAt 78 = .ok (.ireturn, 1) := by decide +kernel
theorem dX8_hasNoBetter_0 : decode cX8_hasNoBetter 0 = .ok (.iconst 0, 1) := by decide +kernel
theorem dX8_hasNoBetter_1 : decode cX8_hasNoBetter 1 = .ok (.istore 4, 2) := by decide +kernel
theorem dX8_hasNoBetter_3 : decode cX8_hasNoBetter 3 = .ok (.iload 4, 2) := by decide +kernel
theorem dX8_hasNoBetter_5 : decode cX8_hasNoBetter 5 = .ok (.bipush 9, 2) := by decide +kernel
theorem dX8_hasNoBetter_7 : decode cX8_hasNoBetter 7 = .ok (.if_icmp .gt 29, 3) := by decide +kernel
theorem dX8_hasNoBetter_10 : decode cX8_hasNoBetter 10 = .ok (.aload_n 0, 1) := by decide +kernel
theorem dX8_hasNoBetter_11 : decode cX8_hasNoBetter 11 = .ok (.iload_n 1, 1) := by decide +kernel
theorem dX8_hasNoBetter_12 : decode cX8_hasNoBetter 12 = .ok (.iload 4, 2) := by decide +kernel
theorem dX8_hasNoBetter_14 : decode cX8_hasNoBetter 14 = .ok (.iload_n 3, 1) := by decide +kernel
theorem dX8_hasNoBetter_15 : decode cX8_hasNoBetter 15 = .ok (.invokevirtual 62, 3) := by decide +kernel
theorem dX8_hasNoBetter_18 : decode cX8_hasNoBetter 18 = .ok (.aload_n 0, 1) := by decide +kernel
theorem dX8_hasNoBetter_19 : decode cX8_hasNoBetter 19 = .ok (.iload_n 1, 1) := by decide +kernel
theorem dX8_hasNoBetter_20 : decode cX8_hasNoBetter 20 = .ok (.iload_n 2, 1) := by decide +kernel
theorem dX8_hasNoBetter_21 : decode cX8_hasNoBetter 21 = .ok (.iload_n 3, 1) := by decide +kernel
theorem dX8_hasNoBetter_22 : decode cX8_hasNoBetter 22 = .ok (.invokevirtual 62, 3) := by decide +kernel
theorem dX8_hasNoBetter_25 : decode cX8_hasNoBetter 25 = .ok (.if_icmp .le 5, 3) := by decide +kernel
theorem dX8_hasNoBetter_28 : decode cX8_hasNoBetter 28 = .ok (.iconst 0, 1) := by decide +kernel
theorem dX8_hasNoBetter_29 : decode cX8_hasNoBetter 29 = .ok (.ireturn, 1) := by decide +kernel
theorem dX8_hasNoBetter_30 : decode cX8_hasNoBetter 30 = .ok (.iinc 4 1, 3) := by decide +kernel
theorem dX8_hasNoBetter_33 : decode cX8_hasNoBetter 33 = .ok (.goto (-30), 3) := by decide +kernel
theorem dX8_hasNoBetter_36 : decode cX8_hasNoBetter 36 = .ok (.iconst 1, 1) := by decide +kernel
theorem dX8_hasNoBetter_37 : decode cX8_hasNoBetter 37 = .ok (.ireturn, 1) := by decide +kernel
theorem dX8_partsUp_0 : decode cX8_partsUp 0 = .ok (.iload_n 2, 1) := by decide +kernel
theorem dX8_partsUp_1 : decode cX8_partsUp 1 = .ok (.ifCond .gt 5, 3) := by decide +kernel
theorem dX8_partsUp_4 : decode cX8_partsUp 4 = .ok (.iconst 0, 1) := by decide +kernel
theorem dX8_partsUp_5 : decode cX8_partsUp 5 = .ok (.ireturn, 1) := by decide +kernel
theorem dX8_partsUp_6 : decode cX8_partsUp 6 = .ok (.iload 4, 2) := by decide +kernel
theorem dX8_partsUp_8 : decode cX8_partsUp 8 = .ok (.iconst 3, 1) := by decide +kernel
theorem dX8_partsUp_9 : decode cX8_partsUp 9 = .ok (.idiv, 1) := by decide +kernel
theorem dX8_partsUp_10 : decode cX8_partsUp 10 = .ok (.istore 5, 2) := by decide +kernel
theorem dX8_partsUp_12 : decode cX8_partsUp 12 = .ok (.aload_n 0, 1) := by decide +kernel
theorem dX8_partsUp_13 : decode cX8_partsUp 13 = .ok (.iconst 3, 1) := by decide +kernel
theorem dX8_partsUp_14 : decode cX8_partsUp 14 = .ok (.iload_n 1, 1) := by decide +kernel
theorem dX8_partsUp_15 : decode cX8_partsUp 15 = .ok (.iload_n 2, 1) := by decide +kernel
theorem dX8_partsUp_16 : decode cX8_partsUp 16 = .ok (.iload_n 3, 1) := by decide +kernel
theorem dX8_partsUp_17 : decode cX8_partsUp 17 = .ok (.iload 5, 2) := by decide +kernel
theorem dX8_partsUp_19 : decode cX8_partsUp 19 = .ok (.invokevirtual 65, 3) := by decide +kernel
theorem dX8_partsUp_22 : decode cX8_partsUp 22 = .ok (.aload_n 0, 1) := by decide +kernel
theorem dX8_partsUp_23 : decode cX8_partsUp 23 = .ok (.iconst 5, 1) := by decide +kernel
theorem dX8_partsUp_24 : decode cX8_partsUp 24 = .ok (.iload_n 1, 1) := by decide +kernel
theorem dX8_partsUp_25 : decode cX8_partsUp 25 = .ok (.iload_n 2, 1) := by decide +kernel
theorem dX8_partsUp_26 : decode cX8_partsUp 26 = .ok (.iload_n 3, 1) := by decide +kernel
theorem dX8_partsUp_27 : decode cX8_partsUp 27 = .ok (.iload 5, 2) := by decide +kernel
theorem dX8_partsUp_29 : decode cX8_partsUp 29 = .ok (.invokevirtual 65, 3) := by decide +kernel
theorem dX8_partsUp_32 : decode cX8_partsUp 32 = .ok (.iadd, 1) := by decide +kernel
theorem dX8_partsUp_33 : decode cX8_partsUp 33 = .ok (.aload_n 0, 1) := by decide +kernel
theorem dX8_partsUp_34 : decode cX8_partsUp 34 = .ok (.bipush 7, 2) := by decide +kernel
theorem dX8_partsUp_36 : decode cX8_partsUp 36 = .ok (.iload_n 1, 1) := by decide +kernel
theorem dX8_partsUp_37 : decode cX8_partsUp 37 = .ok (.iload_n 2, 1) := by decide +kernel
theorem dX8_partsUp_38 : decode cX8_partsUp 38 = .ok (.iload_n 3, 1) := by decide +kernel
theorem dX8_partsUp_39 : decode cX8_partsUp 39 = .ok (.iload 4, 2) := by decide +kernel
theorem dX8_partsUp_41 : decode cX8_partsUp 41 = .ok (.iconst 2, 1) := by decide +kernel
theorem dX8_partsUp_42 : decode cX8_partsUp 42 = .ok (.iload 5, 2) := by decide +kernel
theorem dX8_partsUp_44 : decode cX8_partsUp 44 = .ok (.imul, 1) := by decide +kernel
theorem dX8_partsUp_45 : decode cX8_partsUp 45 = .ok (.isub, 1) := by decide +kernel
theorem dX8_partsUp_46 : decode cX8_partsUp 46 = .ok (.invokevirtual 65, 3) := by decide +kernel
theorem dX8_partsUp_49 : decode cX8_partsUp 49 = .ok (.iadd, 1) := by decide +kernel
theorem dX8_partsUp_50 : decode cX8_partsUp 50 = .ok (.ireturn, 1) := by decide +kernel
theorem dX8_partsUpBy_0 : decode cX8_partsUpBy 0 = .ok (.aload_n 0, 1) := by decide +kernel
theorem dX8_partsUpBy_1 : decode cX8_partsUpBy 1 = .ok (.getfield 19, 3) := by decide +kernel
theorem dX8_partsUpBy_4 : decode cX8_partsUpBy 4 = .ok (.aload_n 0, 1) := by decide +kernel
theorem dX8_partsUpBy_5 : decode cX8_partsUpBy 5 = .ok (.getfield 19, 3) := by decide +kernel
theorem dX8_partsUpBy_8 : decode cX8_partsUpBy 8 = .ok (.iload_n 2, 1) := by decide +kernel
theorem dX8_partsUpBy_9 : decode cX8_partsUpBy 9 = .ok (.invokevirtual 69, 3) := by decide +kernel
theorem dX8_partsUpBy_12 : decode cX8_partsUpBy 12 = .ok (.iload_n 1, 1) := by decide +kernel
theorem dX8_partsUpBy_13 : decode cX8_partsUpBy 13 = .ok (.iload 4, 2) := by decide +kernel
theorem dX8_partsUpBy_15 : decode cX8_partsUpBy 15 = .ok (.invokevirtual 43, 3) := by decide +kernel
theorem dX8_partsUpBy_18 : decode cX8_partsUpBy 18 = .ok (.istore 6, 2) := by decide +kernel
theorem dX8_partsUpBy_20 : decode cX8_partsUpBy 20 = .ok (.iload 6, 2) := by decide +kernel
theorem dX8_partsUpBy_22 : decode cX8_partsUpBy 22 = .ok (.iload_n 2, 1) := by decide +kernel
theorem dX8_partsUpBy_23 : decode cX8_partsUpBy 23 = .ok (.if_icmp .ne 6, 3) := by decide +kernel
theorem dX8_partsUpBy_26 : decode cX8_partsUpBy 26 = .ok (.iload 5, 2) := by decide +kernel
theorem dX8_partsUpBy_28 : decode cX8_partsUpBy 28 = .ok (.ireturn, 1) := by decide +kernel
theorem dX8_partsUpBy_29 : decode cX8_partsUpBy 29 = .ok (.iload 6, 2) := by decide +kernel
theorem dX8_partsUpBy_31 : decode cX8_partsUpBy 31 = .ok (.iconst (-1), 1) := by decide +kernel
theorem dX8_partsUpBy_32 : decode cX8_partsUpBy 32 = .ok (.if_icmp .ne 8, 3) := by decide +kernel
theorem dX8_partsUpBy_35 : decode cX8_partsUpBy 35 = .ok (.iload 4, 2) := by decide +kernel
theorem dX8_partsUpBy_37 : decode cX8_partsUpBy 37 = .ok (.goto 12, 3) := by decide +kernel
theorem dX8_partsUpBy_40 : decode cX8_partsUpBy 40 = .ok (.iload 4, 2) := by decide +kernel
theorem dX8_partsUpBy_42 : decode cX8_partsUpBy 42 = .ok (.iconst 1, 1) := by decide +kernel
theorem dX8_partsUpBy_43 : decode cX8_partsUpBy 43 = .ok (.iload 6, 2) := by decide +kernel
theorem dX8_partsUpBy_45 : decode cX8_partsUpBy 45 = .ok (.ishl, 1) := by decide +kernel
theorem dX8_partsUpBy_46 : decode cX8_partsUpBy 46 = .ok (.iconst (-1), 1) := by decide +kernel
theorem dX8_partsUpBy_47 : decode cX8_partsUpBy 47 = .ok (.ixor, 1) := by decide +kernel
theorem dX8_partsUpBy_48 : decode cX8_partsUpBy 48 = .ok (.iand, 1) := by decide +kernel
theorem dX8_partsUpBy_49 : decode cX8_partsUpBy 49 = .ok (.istore 7, 2) := by decide +kernel
theorem dX8_partsUpBy_51 : decode cX8_partsUpBy 51 = .ok (.aload_n 0, 1) := by decide +kernel
theorem dX8_partsUpBy_52 : decode cX8_partsUpBy 52 = .ok (.iload_n 2, 1) := by decide +kernel
theorem dX8_partsUpBy_53 : decode cX8_partsUpBy 53 = .ok (.iload_n 3, 1) := by decide +kernel
theorem dX8_partsUpBy_54 : decode cX8_partsUpBy 54 = .ok (.iconst 1, 1) := by decide +kernel
theorem dX8_partsUpBy_55 : decode cX8_partsUpBy 55 = .ok (.isub, 1) := by decide +kernel
theorem dX8_partsUpBy_56 : decode cX8_partsUpBy 56 = .ok (.iload 7, 2) := by decide +kernel
theorem dX8_partsUpBy_58 : decode cX8_partsUpBy 58 = .ok (.iload 5, 2) := by decide +kernel
theorem dX8_partsUpBy_60 : decode cX8_partsUpBy 60 = .ok (.invokevirtual 72, 3) := by decide +kernel
theorem dX8_partsUpBy_63 : decode cX8_partsUpBy 63 = .ok (.ireturn, 1) := by decide +kernel
theorem dX9_init_0 : decode cX9_init 0 = .ok (.aload_n 0, 1) := by decide +kernel
theorem dX9_init_1 : decode cX9_init 1 = .ok (.invokespecial 3, 3) := by decide +kernel
theorem dX9_init_4 : decode cX9_init 4 = .ok (.aload_n 0, 1) := by decide +kernel
theorem dX9_init_5 : decode cX9_init 5 = .ok (.iconst 4, 1) := by decide +kernel
theorem dX9_init_6 : decode cX9_init 6 = .ok (.newarray .int, 2) := by decide +kernel
theorem dX9_init_8 : decode cX9_init 8 = .ok (.putfield 11, 3) := by decide +kernel
theorem dX9_init_11 : decode cX9_init 11 = .ok (.aload_n 0, 1) := by decide +kernel
theorem dX9_init_12 : decode cX9_init 12 = .ok (.aload_n 1, 1) := by decide +kernel
theorem dX9_init_13 : decode cX9_init 13 = .ok (.putfield 17, 3) := by decide +kernel
theorem dX9_init_16 : decode cX9_init 16 = .ok (.aload_n 0, 1) := by decide +kernel
theorem dX9_init_17 : decode cX9_init 17 = .ok (.aload_n 2, 1) := by decide +kernel
theorem dX9_init_18 : decode cX9_init 18 = .ok (.putfield 21, 3) := by decide +kernel
theorem dX9_init_21 : decode cX9_init 21 = .ok (.return_, 1) := by decide +kernel
theorem dX9_row_0 : decode cX9_row 0 = .ok (.aload_n 0, 1) := by decide +kernel
theorem dX9_row_1 : decode cX9_row 1 = .ok (.getfield 25, 3) := by decide +kernel
theorem dX9_row_4 : decode cX9_row 4 = .ok (.ireturn, 1) := by decide +kernel
theorem dX9_fewest_0 : decode cX9_fewest 0 = .ok (.aload_n 0, 1) := by decide +kernel
theorem dX9_fewest_1 : decode cX9_fewest 1 = .ok (.getfield 29, 3) := by decide +kernel
theorem dX9_fewest_4 : decode cX9_fewest 4 = .ok (.ireturn, 1) := by decide +kernel
theorem dX9_place_0 : decode cX9_place 0 = .ok (.iconst 0, 1) := by decide +kernel
theorem dX9_place_1 : decode cX9_place 1 = .ok (.istore_n 2, 1) := by decide +kernel
theorem dX9_place_2 : decode cX9_place 2 = .ok (.iload_n 2, 1) := by decide +kernel
theorem dX9_place_3 : decode cX9_place 3 = .ok (.aload_n 0, 1) := by decide +kernel
theorem dX9_place_4 : decode cX9_place 4 = .ok (.getfield 17, 3) := by decide +kernel
theorem dX9_place_7 : decode cX9_place 7 = .ok (.invokevirtual 32, 3) := by decide +kernel
theorem dX9_place_10 : decode cX9_place 10 = .ok (.if_icmp .ge 23, 3) := by decide +kernel
theorem dX9_place_13 : decode cX9_place 13 = .ok (.aload_n 0, 1) := by decide +kernel
theorem dX9_place_14 : decode cX9_place 14 = .ok (.getfield 11, 3) := by decide +kernel
theorem dX9_place_17 : decode cX9_place 17 = .ok (.iload_n 2, 1) := by decide +kernel
theorem dX9_place_18 : decode cX9_place 18 = .ok (.aload_n 0, 1) := by decide +kernel
theorem dX9_place_19 : decode cX9_place 19 = .ok (.getfield 21, 3) := by decide +kernel
theorem dX9_place_22 : decode cX9_place 22 = .ok (.iload_n 2, 1) := by decide +kernel
theorem dX9_place_23 : decode cX9_place 23 = .ok (.invokevirtual 36, 3) := by decide +kernel
theorem dX9_place_26 : decode cX9_place 26 = .ok (.iastore, 1) := by decide +kernel
theorem dX9_place_27 : decode cX9_place 27 = .ok (.iinc 2 1, 3) := by decide +kernel
theorem dX9_place_30 : decode cX9_place 30 = .ok (.goto (-28), 3) := by decide +kernel
theorem dX9_place_33 : decode cX9_place 33 = .ok (.aload_n 0, 1) := by decide +kernel
theorem dX9_place_34 : decode cX9_place 34 = .ok (.aload_n 0, 1) := by decide +kernel
theorem dX9_place_35 : decode cX9_place 35 = .ok (.getfield 17, 3) := by decide +kernel
theorem dX9_place_38 : decode cX9_place 38 = .ok (.invokevirtual 32, 3) := by decide +kernel
theorem dX9_place_41 : decode cX9_place 41 = .ok (.iconst 1, 1) := by decide +kernel
theorem dX9_place_42 : decode cX9_place 42 = .ok (.iadd, 1) := by decide +kernel
theorem dX9_place_43 : decode cX9_place 43 = .ok (.putfield 29, 3) := by decide +kernel
theorem dX9_place_46 : decode cX9_place 46 = .ok (.aload_n 0, 1) := by decide +kernel
theorem dX9_place_47 : decode cX9_place 47 = .ok (.iconst (-1), 1) := by decide +kernel
theorem dX9_place_48 : decode cX9_place 48 = .ok (.putfield 25, 3) := by decide +kernel
theorem dX9_place_51 : decode cX9_place 51 = .ok (.aload_n 0, 1) := by decide +kernel
theorem dX9_place_52 : decode cX9_place 52 = .ok (.iconst 0, 1) := by decide +kernel
theorem dX9_place_53 : decode cX9_place 53 = .ok (.iload_n 1, 1) := by decide +kernel
theorem dX9_place_54 : decode cX9_place 54 = .ok (.iconst 0, 1) := by decide +kernel
theorem dX9_place_55 : decode cX9_place 55 = .ok (.iconst 0, 1) := by decide +kernel
theorem dX9_place_56 : decode cX9_place 56 = .ok (.invokevirtual 42, 3) := by decide +kernel
theorem dX9_place_59 : decode cX9_place 59 = .ok (.aload_n 0, 1) := by decide +kernel
theorem dX9_place_60 : decode cX9_place 60 = .ok (.getfield 25, 3) := by decide +kernel
theorem dX9_place_63 : decode cX9_place 63 = .ok (.iconst (-1), 1) := by decide +kernel
theorem dX9_place_64 : decode cX9_place 64 = .ok (.if_icmp .eq 7, 3) := by decide +kernel
theorem dX9_place_67 : decode cX9_place 67 = .ok (.iconst 1, 1) := by decide +kernel
theorem dX9_place_68 : decode cX9_place 68 = .ok (.goto 4, 3) := by decide +kernel
theorem dX9_place_71 : decode cX9_place 71 = .ok (.iconst 0, 1) := by decide +kernel
theorem dX9_place_72 : decode cX9_place 72 = .ok (.ireturn, 1) := by decide +kernel
theorem dX9_placeFrom_0 : decode cX9_placeFrom 0 = .ok (.iload 4, 2) := by decide +kernel
theorem dX9_placeFrom_2 : decode cX9_placeFrom 2 = .ok (.invokestatic 46, 3) := by decide +kernel
theorem dX9_placeFrom_5 : decode cX9_placeFrom 5 = .ok (.aload_n 0, 1) := by decide +kernel
theorem dX9_placeFrom_6 : decode cX9_placeFrom 6 = .ok (.getfield 29, 3) := by decide +kernel
theorem dX9_placeFrom_9 : decode cX9_placeFrom 9 = .ok (.if_icmp .lt 4, 3) := by decide +kernel
theorem dX9_placeFrom_12 : decode cX9_placeFrom 12 = .ok (.return_, 1) := by decide +kernel
theorem dX9_placeFrom_13 : decode cX9_placeFrom 13 = .ok (.iload_n 1, 1) := by decide +kernel
theorem dX9_placeFrom_14 : decode cX9_placeFrom 14 = .ok (.aload_n 0, 1) := by decide +kernel
theorem dX9_placeFrom_15 : decode cX9_placeFrom 15 = .ok (.getfield 17, 3) := by decide +kernel
theorem dX9_placeFrom_18 : decode cX9_placeFrom 18 = .ok (.invokevirtual 51, 3) := by decide +kernel
theorem dX9_placeFrom_21 : decode cX9_placeFrom 21 = .ok (.if_icmp .lt 18, 3) := by decide +kernel
theorem dX9_placeFrom_24 : decode cX9_placeFrom 24 = .ok (.aload_n 0, 1) := by decide +kernel
theorem dX9_placeFrom_25 : decode cX9_placeFrom 25 = .ok (.iload 4, 2) := by decide +kernel
theorem dX9_placeFrom_27 : decode cX9_placeFrom 27 = .ok (.invokestatic 46, 3) := by decide +kernel
theorem dX9_placeFrom_30 : decode cX9_placeFrom 30 = .ok (.putfield 29, 3) := by decide +kernel
theorem dX9_placeFrom_33 : decode cX9_placeFrom 33 = .ok (.aload_n 0, 1) := by decide +kernel
theorem dX9_placeFrom_34 : decode cX9_placeFrom 34 = .ok (.iload_n 3, 1) := by decide +kernel
theorem dX9_placeFrom_35 : decode cX9_placeFrom 35 = .ok (.putfield 25, 3) := by decide +kernel
theorem dX9_placeFrom_38 : decode cX9_placeFrom 38 = .ok (.return_, 1) := by decide +kernel
theorem dX9_placeFrom_39 : decode cX9_placeFrom 39 = .ok (.iload_n 2, 1) := by decide +kernel
theorem dX9_placeFrom_40 : decode cX9_placeFrom 40 = .ok (.iload_n 1, 1) := by decide +kernel
theorem dX9_placeFrom_41 : decode cX9_placeFrom 41 = .ok (.ishr, 1) := by decide +kernel
theorem dX9_placeFrom_42 : decode cX9_placeFrom 42 = .ok (.iconst 1, 1) := by decide +kernel
theorem dX9_placeFrom_43 : decode cX9_placeFrom 43 = .ok (.iand, 1) := by decide +kernel
theorem dX9_placeFrom_44 : decode cX9_placeFrom 44 = .ok (.ifCond .ne 15, 3) := by decide +kernel
theorem dX9_placeFrom_47 : decode cX9_placeFrom 47 = .ok (.aload_n 0, 1) := by decide +kernel
theorem dX9_placeFrom_48 : decode cX9_placeFrom 48 = .ok (.iload_n 1, 1) := by decide +kernel
theorem dX9_placeFrom_49 : decode cX9_placeFrom 49 = .ok (.iconst 1, 1) := by decide +kernel
theorem dX9_placeFrom_50 : decode cX9_placeFrom 50 = .ok (.iadd, 1) := by decide +kernel
theorem dX9_placeFrom_51 : decode cX9_placeFrom 51 = .ok (.iload_n 2, 1) := by decide +kernel
theorem dX9_placeFrom_52 : decode cX9_placeFrom 52 = .ok (.iload_n 3, 1) := by decide +kernel
theorem dX9_placeFrom_53 : decode cX9_placeFrom 53 = .ok (.iload 4, 2) := by decide +kernel
theorem dX9_placeFrom_55 : decode cX9_placeFrom 55 = .ok (.invokevirtual 42, 3) := by decide +kernel
theorem dX9_placeFrom_58 : decode cX9_placeFrom 58 = .ok (.return_, 1) := by decide +kernel
theorem dX9_placeFrom_59 : decode cX9_placeFrom 59 = .ok (.aload_n 0, 1) := by decide +kernel
theorem dX9_placeFrom_60 : decode cX9_placeFrom 60 = .ok (.getfield 17, 3) := by decide +kernel
theorem dX9_placeFrom_63 : decode cX9_placeFrom 63 = .ok (.iload_n 1, 1) := by decide +kernel
theorem dX9_placeFrom_64 : decode cX9_placeFrom 64 = .ok (.invokevirtual 54, 3) := by decide +kernel
theorem dX9_placeFrom_67 : decode cX9_placeFrom 67 = .ok (.istore 5, 2) := by decide +kernel
theorem dX9_placeFrom_69 : decode cX9_placeFrom 69 = .ok (.iconst 0, 1) := by decide +kernel
theorem dX9_placeFrom_70 : decode cX9_placeFrom 70 = .ok (.istore 6, 2) := by decide +kernel
theorem dX9_placeFrom_72 : decode cX9_placeFrom 72 = .ok (.iload 6, 2) := by decide +kernel
theorem dX9_placeFrom_74 : decode cX9_placeFrom 74 = .ok (.aload_n 0, 1) := by decide +kernel
theorem dX9_placeFrom_75 : decode cX9_placeFrom 75 = .ok (.getfield 17, 3) := by decide +kernel
theorem dX9_placeFrom_78 : decode cX9_placeFrom 78 = .ok (.invokevirtual 32, 3) := by decide +kernel
theorem dX9_placeFrom_81 : decode cX9_placeFrom 81 = .ok (.if_icmp .ge 90, 3) := by decide +kernel
theorem dX9_placeFrom_84 : decode cX9_placeFrom 84 = .ok (.iload 6, 2) := by decide +kernel
theorem dX9_placeFrom_86 : decode cX9_placeFrom 86 = .ok (.aload_n 0, 1) := by decide +kernel
theorem dX9_placeFrom_87 : decode cX9_placeFrom 87 = .ok (.getfield 11, 3) := by decide +kernel
theorem dX9_placeFrom_90 : decode cX9_placeFrom 90 = .ok (.arraylength, 1) := by decide +kernel
theorem dX9_placeFrom_91 : decode cX9_placeFrom 91 = .ok (.if_icmp .ge 80, 3) := by decide +kernel
theorem dX9_placeFrom_94 : decode cX9_placeFrom 94 = .ok (.aload_n 0, 1) := by decide +kernel
theorem dX9_placeFrom_95 : decode cX9_placeFrom 95 = .ok (.getfield 17, 3) := by decide +kernel
theorem dX9_placeFrom_98 : decode cX9_placeFrom 98 = .ok (.iload_n 1, 1) := by decide +kernel
theorem dX9_placeFrom_99 : decode cX9_placeFrom 99 = .ok (.iload 6, 2) := by decide +kernel
theorem dX9_placeFrom_101 : decode cX9_placeFrom 101 = .ok (.invokevirtual 57, 3) := by decide +kernel
theorem dX9_placeFrom_104 : decode cX9_placeFrom 104 = .ok (.ifCond .eq 61, 3) := by decide +kernel
theorem dX9_placeFrom_107 : decode cX9_placeFrom 107 = .ok (.iload 5, 2) := by decide +kernel
theorem dX9_placeFrom_109 : decode cX9_placeFrom 109 = .ok (.aload_n 0, 1) := by decide +kernel
theorem dX9_placeFrom_110 : decode cX9_placeFrom 110 = .ok (.getfield 11, 3) := by decide +kernel
theorem dX9_placeFrom_113 : decode cX9_placeFrom 113 = .ok (.iload 6, 2) := by decide +kernel
theorem dX9_placeFrom_115 : decode cX9_placeFrom 115 = .ok (.iaload, 1) := by decide +kernel
theorem dX9_placeFrom_116 : decode cX9_placeFrom 116 = .ok (.if_icmp .gt 49, 3) := by decide +kernel
theorem dX9_placeFrom_119 : decode cX9_placeFrom 119 = .ok (.aload_n 0, 1) := by decide +kernel
theorem dX9_placeFrom_120 : decode cX9_placeFrom 120 = .ok (.getfield 11, 3) := by decide +kernel
theorem dX9_placeFrom_123 : decode cX9_placeFrom 123 = .ok (.iload 6, 2) := by decide +kernel
theorem dX9_placeFrom_125 : decode cX9_placeFrom 125 = .ok (.dup2, 1) := by decide +kernel
theorem dX9_placeFrom_126 : decode cX9_placeFrom 126 = .ok (.iaload, 1) := by decide +kernel
theorem dX9_placeFrom_127 : decode cX9_placeFrom 127 = .ok (.iload 5, 2) := by decide +kernel
theorem dX9_placeFrom_129 : decode cX9_placeFrom 129 = .ok (.isub, 1) := by decide +kernel
theorem dX9_placeFrom_130 : decode cX9_placeFrom 130 = .ok (.iastore, 1) := by decide +kernel
theorem dX9_placeFrom_131 : decode cX9_placeFrom 131 = .ok (.aload_n 0, 1) := by decide +kernel
theorem dX9_placeFrom_132 : decode cX9_placeFrom 132 = .ok (.iload_n 1, 1) := by decide +kernel
theorem dX9_placeFrom_133 : decode cX9_placeFrom 133 = .ok (.iconst 1, 1) := by decide +kernel
theorem dX9_placeFrom_134 : decode cX9_placeFrom 134 = .ok (.iadd, 1) := by decide +kernel
theorem dX9_placeFrom_135 : decode cX9_placeFrom 135 = .ok (.iload_n 2, 1) := by decide +kernel
theorem dX9_placeFrom_136 : decode cX9_placeFrom 136 = .ok (.iload_n 3, 1) := by decide +kernel
theorem dX9_placeFrom_137 : decode cX9_placeFrom 137 = .ok (.bipush 10, 2) := by decide +kernel
theorem dX9_placeFrom_139 : decode cX9_placeFrom 139 = .ok (.imul, 1) := by decide +kernel
theorem dX9_placeFrom_140 : decode cX9_placeFrom 140 = .ok (.iload 6, 2) := by decide +kernel
theorem dX9_placeFrom_142 : decode cX9_placeFrom 142 = .ok (.iadd, 1) := by decide +kernel
theorem dX9_placeFrom_143 : decode cX9_placeFrom 143 = .ok (.iload 4, 2) := by decide +kernel
theorem dX9_placeFrom_145 : decode cX9_placeFrom 145 = .ok (.iconst 1, 1) := by decide +kernel
theorem dX9_placeFrom_146 : decode cX9_placeFrom 146 = .ok (.iload 6, 2) := by decide +kernel
theorem dX9_placeFrom_148 : decode cX9_placeFrom 148 = .ok (.ishl, 1) := by decide +kernel
theorem dX9_placeFrom_149 : decode cX9_placeFrom 149 = .ok (.ior, 1) := by decide +kernel
theorem dX9_placeFrom_150 : decode cX9_placeFrom 150 = .ok (.invokevirtual 42, 3) := by decide +kernel
theorem dX9_placeFrom_153 : decode cX9_placeFrom 153 = .ok (.aload_n 0, 1) := by decide +kernel
theorem dX9_placeFrom_154 : decode cX9_placeFrom 154 = .ok (.getfield 11, 3) := by decide +kernel
theorem dX9_placeFrom_157 : decode cX9_placeFrom 157 = .ok (.iload 6, 2) := by decide +kernel
theorem dX9_placeFrom_159 : decode cX9_placeFrom 159 = .ok (.dup2, 1) := by decide +kernel
theorem dX9_placeFrom_160 : decode cX9_placeFrom 160 = .ok (.iaload, 1) := by decide +kernel
theorem dX9_placeFrom_161 : decode cX9_placeFrom 161 = .ok (.iload 5, 2) := by decide +kernel
theorem dX9_placeFrom_163 : decode cX9_placeFrom 163 = .ok (.iadd, 1) := by decide +kernel
theorem dX9_placeFrom_164 : decode cX9_placeFrom 164 = .ok (.iastore, 1) := by decide +kernel
theorem dX9_placeFrom_165 : decode cX9_placeFrom 165 = .ok (.iinc 6 1, 3) := by decide +kernel
theorem dX9_placeFrom_168 : decode cX9_placeFrom 168 = .ok (.goto (-96), 3) := by decide +kernel
theorem dX9_placeFrom_171 : decode cX9_placeFrom 171 = .ok (.return_, 1) := by decide +kernel
theorem dX9_silenced_0 : decode cX9_silenced 0 = .ok (.iload_n 1, 1) := by decide +kernel
theorem dX9_silenced_1 : decode cX9_silenced 1 = .ok (.istore_n 2, 1) := by decide +kernel
theorem dX9_silenced_2 : decode cX9_silenced 2 = .ok (.iconst 0, 1) := by decide +kernel
theorem dX9_silenced_3 : decode cX9_silenced 3 = .ok (.istore_n 3, 1) := by decide +kernel
theorem dX9_silenced_4 : decode cX9_silenced 4 = .ok (.iload_n 3, 1) := by decide +kernel
theorem dX9_silenced_5 : decode cX9_silenced 5 = .ok (.aload_n 0, 1) := by decide +kernel
theorem dX9_silenced_6 : decode cX9_silenced 6 = .ok (.getfield 17, 3) := by decide +kernel
theorem dX9_silenced_9 : decode cX9_silenced 9 = .ok (.invokevirtual 51, 3) := by decide +kernel
theorem dX9_silenced_12 : decode cX9_silenced 12 = .ok (.if_icmp .ge 54, 3) := by decide +kernel
theorem dX9_silenced_15 : decode cX9_silenced 15 = .ok (.iconst 0, 1) := by decide +kernel
theorem dX9_silenced_16 : decode cX9_silenced 16 = .ok (.istore 4, 2) := by decide +kernel
theorem dX9_silenced_18 : decode cX9_silenced 18 = .ok (.iload 4, 2) := by decide +kernel
theorem dX9_silenced_20 : decode cX9_silenced 20 = .ok (.aload_n 0, 1) := by decide +kernel
theorem dX9_silenced_21 : decode cX9_silenced 21 = .ok (.getfield 17, 3) := by decide +kernel
theorem dX9_silenced_24 : decode cX9_silenced 24 = .ok (.invokevirtual 51, 3) := by decide +kernel
theorem dX9_silenced_27 : decode cX9_silenced 27 = .ok (.if_icmp .ge 33, 3) := by decide +kernel
theorem dX9_silenced_30 : decode cX9_silenced 30 = .ok (.iload_n 2, 1) := by decide +kernel
theorem dX9_silenced_31 : decode cX9_silenced 31 = .ok (.aload_n 0, 1) := by decide +kernel
theorem dX9_silenced_32 : decode cX9_silenced 32 = .ok (.getfield 17, 3) := by decide +kernel
theorem dX9_silenced_35 : decode cX9_silenced 35 = .ok (.iload 4, 2) := by decide +kernel
theorem dX9_silenced_37 : decode cX9_silenced 37 = .ok (.invokevirtual 61, 3) := by decide +kernel
theorem dX9_silenced_40 : decode cX9_silenced 40 = .ok (.ishr, 1) := by decide +kernel
theorem dX9_silenced_41 : decode cX9_silenced 41 = .ok (.iconst 1, 1) := by decide +kernel
theorem dX9_silenced_42 : decode cX9_silenced 42 = .ok (.iand, 1) := by decide +kernel
theorem dX9_silenced_43 : decode cX9_silenced 43 = .ok (.iconst 1, 1) := by decide +kernel
theorem dX9_silenced_44 : decode cX9_silenced 44 = .ok (.if_icmp .ne 10, 3) := by decide +kernel
theorem dX9_silenced_47 : decode cX9_silenced 47 = .ok (.iload_n 2, 1) := by decide +kernel
theorem dX9_silenced_48 : decode cX9_silenced 48 = .ok (.iconst 1, 1) := by decide +kernel
theorem dX9_silenced_49 : decode cX9_silenced 49 = .ok (.iload 4, 2) := by decide +kernel
theorem dX9_silenced_51 : decode cX9_silenced 51 = .ok (.ishl, 1) := by decide +kernel
theorem dX9_silenced_52 : decode cX9_silenced 52 = .ok (.ior, 1) := by decide +kernel
theorem dX9_silenced_53 : decode cX9_silenced 53 = .ok (.istore_n 2, 1) := by decide +kernel
theorem dX9_silenced_54 : decode cX9_silenced 54 = .ok (.iinc 4 1, 3) := by decide +kernel
theorem dX9_silenced_57 : decode cX9_silenced 57 = .ok (.goto (-39), 3) := by decide +kernel
theorem dX9_silenced_60 : decode cX9_silenced 60 = .ok (.iinc 3 1, 3) := by decide +kernel
theorem dX9_silenced_63 : decode cX9_silenced 63 = .ok (.goto (-59), 3) := by decide +kernel
theorem dX9_silenced_66 : decode cX9_silenced 66 = .ok (.iload_n 2, 1) := by decide +kernel
theorem dX9_silenced_67 : decode cX9_silenced 67 = .ok (.ireturn, 1) := by decide +kernel
theorem dX10_init_0 : decode cX10_init 0 = .ok (.aload_n 0, 1) := by decide +kernel
theorem dX10_init_1 : decode cX10_init 1 = .ok (.invokespecial 1, 3) := by decide +kernel
theorem dX10_init_4 : decode cX10_init 4 = .ok (.aload_n 0, 1) := by decide +kernel
theorem dX10_init_5 : decode cX10_init 5 = .ok (.sipush 240, 3) := by decide +kernel
theorem dX10_init_8 : decode cX10_init 8 = .ok (.newarray .int, 2) := by decide +kernel
theorem dX10_init_10 : decode cX10_init 10 = .ok (.putfield 9, 3) := by decide +kernel
theorem dX10_init_13 : decode cX10_init 13 = .ok (.return_, 1) := by decide +kernel
theorem dX10_bytesIn_0 : decode cX10_bytesIn 0 = .ok (.iconst 0, 1) := by decide +kernel
theorem dX10_bytesIn_1 : decode cX10_bytesIn 1 = .ok (.istore_n 1, 1) := by decide +kernel
theorem dX10_bytesIn_2 : decode cX10_bytesIn 2 = .ok (.bipush 24, 2) := by decide +kernel
theorem dX10_bytesIn_4 : decode cX10_bytesIn 4 = .ok (.istore_n 2, 1) := by decide +kernel
theorem dX10_bytesIn_5 : decode cX10_bytesIn 5 = .ok (.iload_n 2, 1) := by decide +kernel
theorem dX10_bytesIn_6 : decode cX10_bytesIn 6 = .ok (.ifCond .lt 22, 3) := by decide +kernel
theorem dX10_bytesIn_9 : decode cX10_bytesIn 9 = .ok (.iload_n 0, 1) := by decide +kernel
theorem dX10_bytesIn_10 : decode cX10_bytesIn 10 = .ok (.iload_n 2, 1) := by decide +kernel
theorem dX10_bytesIn_11 : decode cX10_bytesIn 11 = .ok (.iushr, 1) := by decide +kernel
theorem dX10_bytesIn_12 : decode cX10_bytesIn 12 = .ok (.sipush 255, 3) := by decide +kernel
theorem dX10_bytesIn_15 : decode cX10_bytesIn 15 = .ok (.iand, 1) := by decide +kernel
theorem dX10_bytesIn_16 : decode cX10_bytesIn 16 = .ok (.ifCond .eq 6, 3) := by decide +kernel
theorem dX10_bytesIn_19 : decode cX10_bytesIn 19 = .ok (.iinc 1 1, 3) := by decide +kernel
theorem dX10_bytesIn_22 : decode cX10_bytesIn 22 = .ok (.iinc 2 (-8), 3) := by decide +kernel
theorem dX10_bytesIn_25 : decode cX10_bytesIn 25 = .ok (.goto (-20), 3) := by decide +kernel
theorem dX10_bytesIn_28 : decode cX10_bytesIn 28 = .ok (.iload_n 1, 1) := by decide +kernel
theorem dX10_bytesIn_29 : decode cX10_bytesIn 29 = .ok (.ireturn, 1) := by decide +kernel
theorem dX10_size_0 : decode cX10_size 0 = .ok (.aload_n 0, 1) := by decide +kernel
theorem dX10_size_1 : decode cX10_size 1 = .ok (.getfield 13, 3) := by decide +kernel
theorem dX10_size_4 : decode cX10_size 4 = .ok (.ireturn, 1) := by decide +kernel
theorem dX10_append_0 : decode cX10_append 0 = .ok (.bipush 24, 2) := by decide +kernel
theorem dX10_append_2 : decode cX10_append 2 = .ok (.istore_n 2, 1) := by decide +kernel
theorem dX10_append_3 : decode cX10_append 3 = .ok (.iload_n 2, 1) := by decide +kernel
theorem dX10_append_4 : decode cX10_append 4 = .ok (.ifCond .lt 51, 3) := by decide +kernel
theorem dX10_append_7 : decode cX10_append 7 = .ok (.iload_n 1, 1) := by decide +kernel
theorem dX10_append_8 : decode cX10_append 8 = .ok (.iload_n 2, 1) := by decide +kernel
theorem dX10_append_9 : decode cX10_append 9 = .ok (.iushr, 1) := by decide +kernel
theorem dX10_append_10 : decode cX10_append 10 = .ok (.sipush 255, 3) := by decide +kernel
theorem dX10_append_13 : decode cX10_append 13 = .ok (.iand, 1) := by decide +kernel
theorem dX10_append_14 : decode cX10_append 14 = .ok (.istore_n 3, 1) := by decide +kernel
theorem dX10_append_15 : decode cX10_append 15 = .ok (.iload_n 3, 1) := by decide +kernel
theorem dX10_append_16 : decode cX10_append 16 = .ok (.ifCond .eq 33, 3) := by decide +kernel
theorem dX10_append_19 : decode cX10_append 19 = .ok (.aload_n 0, 1) := by decide +kernel
theorem dX10_append_20 : decode cX10_append 20 = .ok (.getfield 13, 3) := by decide +kernel
theorem dX10_append_23 : decode cX10_append 23 = .ok (.sipush 240, 3) := by decide +kernel
theorem dX10_append_26 : decode cX10_append 26 = .ok (.if_icmp .ge 23, 3) := by decide +kernel
theorem dX10_append_29 : decode cX10_append 29 = .ok (.aload_n 0, 1) := by decide +kernel
theorem dX10_append_30 : decode cX10_append 30 = .ok (.getfield 9, 3) := by decide +kernel
theorem dX10_append_33 : decode cX10_append 33 = .ok (.aload_n 0, 1) := by decide +kernel
theorem dX10_append_34 : decode cX10_append 34 = .ok (.getfield 13, 3) := by decide +kernel
theorem dX10_append_37 : decode cX10_append 37 = .ok (.iload_n 3, 1) := by decide +kernel
theorem dX10_append_38 : decode cX10_append 38 = .ok (.iastore, 1) := by decide +kernel
theorem dX10_append_39 : decode cX10_append 39 = .ok (.aload_n 0, 1) := by decide +kernel
theorem dX10_append_40 : decode cX10_append 40 = .ok (.dup, 1) := by decide +kernel
theorem dX10_append_41 : decode cX10_append 41 = .ok (.getfield 13, 3) := by decide +kernel
theorem dX10_append_44 : decode cX10_append 44 = .ok (.iconst 1, 1) := by decide +kernel
theorem dX10_append_45 : decode cX10_append 45 = .ok (.iadd, 1) := by decide +kernel
theorem dX10_append_46 : decode cX10_append 46 = .ok (.putfield 13, 3) := by decide +kernel
theorem dX10_append_49 : decode cX10_append 49 = .ok (.iinc 2 (-8), 3) := by decide +kernel
theorem dX10_append_52 : decode cX10_append 52 = .ok (.goto (-49), 3) := by decide +kernel
theorem dX10_append_55 : decode cX10_append 55 = .ok (.return_, 1) := by decide +kernel
theorem dX10_cut_0 : decode cX10_cut 0 = .ok (.iload_n 1, 1) := by decide +kernel
theorem dX10_cut_1 : decode cX10_cut 1 = .ok (.ifCond .lt 16, 3) := by decide +kernel
theorem dX10_cut_4 : decode cX10_cut 4 = .ok (.iload_n 1, 1) := by decide +kernel
theorem dX10_cut_5 : decode cX10_cut 5 = .ok (.aload_n 0, 1) := by decide +kernel
theorem dX10_cut_6 : decode cX10_cut 6 = .ok (.getfield 13, 3) := by decide +kernel
theorem dX10_cut_9 : decode cX10_cut 9 = .ok (.if_icmp .ge 8, 3) := by decide +kernel
theorem dX10_cut_12 : decode cX10_cut 12 = .ok (.aload_n 0, 1) := by decide +kernel
theorem dX10_cut_13 : decode cX10_cut 13 = .ok (.iload_n 1, 1) := by decide +kernel
theorem dX10_cut_14 : decode cX10_cut 14 = .ok (.putfield 13, 3) := by decide +kernel
theorem dX10_cut_17 : decode cX10_cut 17 = .ok (.return_, 1) := by decide +kernel
theorem dX10_at_0 : decode cX10_at 0 = .ok (.iload_n 1, 1) := by decide +kernel
theorem dX10_at_1 : decode cX10_at 1 = .ok (.ifCond .lt 20, 3) := by decide +kernel
theorem dX10_at_4 : decode cX10_at 4 = .ok (.iload_n 1, 1) := by decide +kernel
theorem dX10_at_5 : decode cX10_at 5 = .ok (.aload_n 0, 1) := by decide +kernel
theorem dX10_at_6 : decode cX10_at 6 = .ok (.getfield 13, 3) := by decide +kernel
theorem dX10_at_9 : decode cX10_at 9 = .ok (.if_icmp .ge 12, 3) := by decide +kernel
theorem dX10_at_12 : decode cX10_at 12 = .ok (.aload_n 0, 1) := by decide +kernel
theorem dX10_at_13 : decode cX10_at 13 = .ok (.getfield 9, 3) := by decide +kernel
theorem dX10_at_16 : decode cX10_at 16 = .ok (.iload_n 1, 1) := by decide +kernel
theorem dX10_at_17 : decode cX10_at 17 = .ok (.iaload, 1) := by decide +kernel
theorem dX10_at_18 : decode cX10_at 18 = .ok (.goto 4, 3) := by decide +kernel
theorem dX10_at_21 : decode cX10_at 21 = .ok (.iconst 0, 1) := by decide +kernel
theorem dX10_at_22 : decode cX10_at 22 = .ok (.ireturn, 1) := by decide +kernel
theorem dX10_behindBlanks_0 : decode cX10_behindBlanks 0 = .ok (.iload_n 1, 1) := by decide +kernel
theorem dX10_behindBlanks_1 : decode cX10_behindBlanks 1 = .ok (.ifCond .ge 7, 3) := by decide +kernel
theorem dX10_behindBlanks_4 : decode cX10_behindBlanks 4 = .ok (.iconst 0, 1) := by decide +kernel
theorem dX10_behindBlanks_5 : decode cX10_behindBlanks 5 = .ok (.goto 4, 3) := by decide +kernel
theorem dX10_behindBlanks_8 : decode cX10_behindBlanks 8 = .ok (.iload_n 1, 1) := by decide +kernel
theorem dX10_behindBlanks_9 : decode cX10_behindBlanks 9 = .ok (.istore_n 2, 1) := by decide +kernel
theorem dX10_behindBlanks_10 : decode cX10_behindBlanks 10 = .ok (.iload_n 2, 1) := by decide +kernel
theorem dX10_behindBlanks_11 : decode cX10_behindBlanks 11 = .ok (.aload_n 0, 1) := by decide +kernel
theorem dX10_behindBlanks_12 : decode cX10_behindBlanks 12 = .ok (.getfield 13, 3) := by decide +kernel
theorem dX10_behindBlanks_15 : decode cX10_behindBlanks 15 = .ok (.if_icmp .ge 20, 3) := by decide +kernel
theorem dX10_behindBlanks_18 : decode cX10_behindBlanks 18 = .ok (.aload_n 0, 1) := by decide +kernel
theorem dX10_behindBlanks_19 : decode cX10_behindBlanks 19 = .ok (.getfield 9, 3) := by decide +kernel
theorem dX10_behindBlanks_22 : decode cX10_behindBlanks 22 = .ok (.iload_n 2, 1) := by decide +kernel
theorem dX10_behindBlanks_23 : decode cX10_behindBlanks 23 = .ok (.iaload, 1) := by decide +kernel
theorem dX10_behindBlanks_24 : decode cX10_behindBlanks 24 = .ok (.bipush 32, 2) := by decide +kernel
theorem dX10_behindBlanks_26 : decode cX10_behindBlanks 26 = .ok (.if_icmp .ne 9, 3) := by decide +kernel
theorem dX10_behindBlanks_29 : decode cX10_behindBlanks 29 = .ok (.iinc 2 1, 3) := by decide +kernel
theorem dX10_behindBlanks_32 : decode cX10_behindBlanks 32 = .ok (.goto (-22), 3) := by decide +kernel
theorem dX10_behindBlanks_35 : decode cX10_behindBlanks 35 = .ok (.iload_n 2, 1) := by decide +kernel
theorem dX10_behindBlanks_36 : decode cX10_behindBlanks 36 = .ok (.ireturn, 1) := by decide +kernel
theorem dX10_digitsFrom_0 : decode cX10_digitsFrom 0 = .ok (.iconst 0, 1) := by decide +kernel
theorem dX10_digitsFrom_1 : decode cX10_digitsFrom 1 = .ok (.istore_n 3, 1) := by decide +kernel
theorem dX10_digitsFrom_2 : decode cX10_digitsFrom 2 = .ok (.iload_n 1, 1) := by decide +kernel
theorem dX10_digitsFrom_3 : decode cX10_digitsFrom 3 = .ok (.istore 4, 2) := by decide +kernel
theorem dX10_digitsFrom_5 : decode cX10_digitsFrom 5 = .ok (.iload 4, 2) := by decide +kernel
theorem dX10_digitsFrom_7 : decode cX10_digitsFrom 7 = .ok (.ifCond .lt 50, 3) := by decide +kernel
theorem dX10_digitsFrom_10 : decode cX10_digitsFrom 10 = .ok (.iload 4, 2) := by decide +kernel
theorem dX10_digitsFrom_12 : decode cX10_digitsFrom 12 = .ok (.aload_n 0, 1) := by decide +kernel
theorem dX10_digitsFrom_13 : decode cX10_digitsFrom 13 = .ok (.getfield 13, 3) := by decide +kernel
theorem dX10_digitsFrom_16 : decode cX10_digitsFrom 16 = .ok (.if_icmp .ge 41, 3) := by decide +kernel
theorem dX10_digitsFrom_19 : decode cX10_digitsFrom 19 = .ok (.iload_n 3, 1) := by decide +kernel
theorem dX10_digitsFrom_20 : decode cX10_digitsFrom 20 = .ok (.iload_n 2, 1) := by decide +kernel
theorem dX10_digitsFrom_21 : decode cX10_digitsFrom 21 = .ok (.if_icmp .ge 36, 3) := by decide +kernel
theorem dX10_digitsFrom_24 : decode cX10_digitsFrom 24 = .ok (.aload_n 0, 1) := by decide +kernel
theorem dX10_digitsFrom_25 : decode cX10_digitsFrom 25 = .ok (.getfield 9, 3) := by decide +kernel
theorem dX10_digitsFrom_28 : decode cX10_digitsFrom 28 = .ok (.iload 4, 2) := by decide +kernel
theorem dX10_digitsFrom_30 : decode cX10_digitsFrom 30 = .ok (.iaload, 1) := by decide +kernel
theorem dX10_digitsFrom_31 : decode cX10_digitsFrom 31 = .ok (.bipush 48, 2) := by decide +kernel
theorem dX10_digitsFrom_33 : decode cX10_digitsFrom 33 = .ok (.if_icmp .lt 24, 3) := by decide +kernel
theorem dX10_digitsFrom_36 : decode cX10_digitsFrom 36 = .ok (.aload_n 0, 1) := by decide +kernel
theorem dX10_digitsFrom_37 : decode cX10_digitsFrom 37 = .ok (.getfield 9, 3) := by decide +kernel
theorem dX10_digitsFrom_40 : decode cX10_digitsFrom 40 = .ok (.iload 4, 2) := by decide +kernel
theorem dX10_digitsFrom_42 : decode cX10_digitsFrom 42 = .ok (.iaload, 1) := by decide +kernel
theorem dX10_digitsFrom_43 : decode cX10_digitsFrom 43 = .ok (.bipush 57, 2) := by decide +kernel
theorem dX10_digitsFrom_45 : decode cX10_digitsFrom 45 = .ok (.if_icmp .gt 12, 3) := by decide +kernel
theorem dX10_digitsFrom_48 : decode cX10_digitsFrom 48 = .ok (.iinc 3 1, 3) := by decide +kernel
theorem dX10_digitsFrom_51 : decode cX10_digitsFrom 51 = .ok (.iinc 4 1, 3) := by decide +kernel
theorem dX10_digitsFrom_54 : decode cX10_digitsFrom 54 = .ok (.goto (-49), 3) := by decide +kernel
theorem dX10_digitsFrom_57 : decode cX10_digitsFrom 57 = .ok (.iload_n 3, 1) := by decide +kernel
theorem dX10_digitsFrom_58 : decode cX10_digitsFrom 58 = .ok (.ireturn, 1) := by decide +kernel
theorem dX10_number_0 : decode cX10_number 0 = .ok (.iconst 0, 1) := by decide +kernel
theorem dX10_number_1 : decode cX10_number 1 = .ok (.istore_n 3, 1) := by decide +kernel
theorem dX10_number_2 : decode cX10_number 2 = .ok (.iload_n 1, 1) := by decide +kernel
theorem dX10_number_3 : decode cX10_number 3 = .ok (.istore 4, 2) := by decide +kernel
theorem dX10_number_5 : decode cX10_number 5 = .ok (.iload 4, 2) := by decide +kernel
theorem dX10_number_7 : decode cX10_number 7 = .ok (.ifCond .lt 42, 3) := by decide +kernel
theorem dX10_number_10 : decode cX10_number 10 = .ok (.iload 4, 2) := by decide +kernel
theorem dX10_number_12 : decode cX10_number 12 = .ok (.aload_n 0, 1) := by decide +kernel
theorem dX10_number_13 : decode cX10_number 13 = .ok (.getfield 13, 3) := by decide +kernel
theorem dX10_number_16 : decode cX10_number 16 = .ok (.if_icmp .ge 33, 3) := by decide +kernel
theorem dX10_number_19 : decode cX10_number 19 = .ok (.iload 4, 2) := by decide +kernel
theorem dX10_number_21 : decode cX10_number 21 = .ok (.iload_n 1, 1) := by decide +kernel
theorem dX10_number_22 : decode cX10_number 22 = .ok (.iload_n 2, 1) := by decide +kernel
theorem dX10_number_23 : decode cX10_number 23 = .ok (.iadd, 1) := by decide +kernel
theorem dX10_number_24 : decode cX10_number 24 = .ok (.if_icmp .ge 25, 3) := by decide +kernel
theorem dX10_number_27 : decode cX10_number 27 = .ok (.iload_n 3, 1) := by decide +kernel
theorem dX10_number_28 : decode cX10_number 28 = .ok (.bipush 10, 2) := by decide +kernel
theorem dX10_number_30 : decode cX10_number 30 = .ok (.imul, 1) := by decide +kernel
theorem dX10_number_31 : decode cX10_number 31 = .ok (.aload_n 0, 1) := by decide +kernel
theorem dX10_number_32 : decode cX10_number 32 = .ok (.getfield 9, 3) := by decide +kernel
theorem dX10_number_35 : decode cX10_number 35 = .ok (.iload 4, 2) := by decide +kernel
theorem dX10_number_37 : decode cX10_number 37 = .ok (.iaload, 1) := by decide +kernel
theorem dX10_number_38 : decode cX10_number 38 = .ok (.iadd, 1) := by decide +kernel
theorem dX10_number_39 : decode cX10_number 39 = .ok (.bipush 48, 2) := by decide +kernel
theorem dX10_number_41 : decode cX10_number 41 = .ok (.isub, 1) := by decide +kernel
theorem dX10_number_42 : decode cX10_number 42 = .ok (.istore_n 3, 1) := by decide +kernel
theorem dX10_number_43 : decode cX10_number 43 = .ok (.iinc 4 1, 3) := by decide +kernel
theorem dX10_number_46 : decode cX10_number 46 = .ok (.goto (-41), 3) := by decide +kernel
theorem dX10_number_49 : decode cX10_number 49 = .ok (.iload_n 3, 1) := by decide +kernel
theorem dX10_number_50 : decode cX10_number 50 = .ok (.ireturn, 1) := by decide +kernel
theorem dX11_init_0 : decode cX11_init 0 = .ok (.aload_n 0, 1) := by decide +kernel
theorem dX11_init_1 : decode cX11_init 1 = .ok (.invokespecial 1, 3) := by decide +kernel
theorem dX11_init_4 : decode cX11_init 4 = .ok (.aload_n 0, 1) := by decide +kernel
theorem dX11_init_5 : decode cX11_init 5 = .ok (.new 7, 3) := by decide +kernel
theorem dX11_init_8 : decode cX11_init 8 = .ok (.dup, 1) := by decide +kernel
theorem dX11_init_9 : decode cX11_init 9 = .ok (.invokespecial 9, 3) := by decide +kernel
theorem dX11_init_12 : decode cX11_init 12 = .ok (.putfield 10, 3) := by decide +kernel
theorem dX11_init_15 : decode cX11_init 15 = .ok (.aload_n 0, 1) := by decide +kernel
theorem dX11_init_16 : decode cX11_init 16 = .ok (.new 16, 3) := by decide +kernel
theorem dX11_init_19 : decode cX11_init 19 = .ok (.dup, 1) := by decide +kernel
theorem dX11_init_20 : decode cX11_init 20 = .ok (.invokespecial 18, 3) := by decide +kernel
theorem dX11_init_23 : decode cX11_init 23 = .ok (.putfield 19, 3) := by decide +kernel
theorem dX11_init_26 : decode cX11_init 26 = .ok (.aload_n 0, 1) := by decide +kernel
theorem dX11_init_27 : decode cX11_init 27 = .ok (.new 23, 3) := by decide +kernel
theorem dX11_init_30 : decode cX11_init 30 = .ok (.dup, 1) := by decide +kernel
theorem dX11_init_31 : decode cX11_init 31 = .ok (.aload_n 0, 1) := by decide +kernel
theorem dX11_init_32 : decode cX11_init 32 = .ok (.getfield 10, 3) := by decide +kernel
theorem dX11_init_35 : decode cX11_init 35 = .ok (.invokespecial 25, 3) := by decide +kernel
theorem dX11_init_38 : decode cX11_init 38 = .ok (.putfield 28, 3) := by decide +kernel
theorem dX11_init_41 : decode cX11_init 41 = .ok (.aload_n 0, 1) := by decide +kernel
theorem dX11_init_42 : decode cX11_init 42 = .ok (.new 32, 3) := by decide +kernel
theorem dX11_init_45 : decode cX11_init 45 = .ok (.dup, 1) := by decide +kernel
theorem dX11_init_46 : decode cX11_init 46 = .ok (.aload_n 0, 1) := by decide +kernel
theorem dX11_init_47 : decode cX11_init 47 = .ok (.getfield 10, 3) := by decide +kernel
theorem dX11_init_50 : decode cX11_init 50 = .ok (.invokespecial 34, 3) := by decide +kernel
theorem dX11_init_53 : decode cX11_init 53 = .ok (.putfield 35, 3) := by decide +kernel
theorem dX11_init_56 : decode cX11_init 56 = .ok (.aload_n 0, 1) := by decide +kernel
theorem dX11_init_57 : decode cX11_init 57 = .ok (.new 39, 3) := by decide +kernel
theorem dX11_init_60 : decode cX11_init 60 = .ok (.dup, 1) := by decide +kernel
theorem dX11_init_61 : decode cX11_init 61 = .ok (.aload_n 0, 1) := by decide +kernel
theorem dX11_init_62 : decode cX11_init 62 = .ok (.getfield 19, 3) := by decide +kernel
theorem dX11_init_65 : decode cX11_init 65 = .ok (.invokespecial 41, 3) := by decide +kernel
theorem dX11_init_68 : decode cX11_init 68 = .ok (.putfield 44, 3) := by decide +kernel
theorem dX11_init_71 : decode cX11_init 71 = .ok (.aload_n 0, 1) := by decide +kernel
theorem dX11_init_72 : decode cX11_init 72 = .ok (.new 39, 3) := by decide +kernel
theorem dX11_init_75 : decode cX11_init 75 = .ok (.dup, 1) := by decide +kernel
theorem dX11_init_76 : decode cX11_init 76 = .ok (.aload_n 0, 1) := by decide +kernel
theorem dX11_init_77 : decode cX11_init 77 = .ok (.getfield 19, 3) := by decide +kernel
theorem dX11_init_80 : decode cX11_init 80 = .ok (.invokespecial 41, 3) := by decide +kernel
theorem dX11_init_83 : decode cX11_init 83 = .ok (.putfield 48, 3) := by decide +kernel
theorem dX11_init_86 : decode cX11_init 86 = .ok (.aload_n 0, 1) := by decide +kernel
theorem dX11_init_87 : decode cX11_init 87 = .ok (.new 51, 3) := by decide +kernel
theorem dX11_init_90 : decode cX11_init 90 = .ok (.dup, 1) := by decide +kernel
theorem dX11_init_91 : decode cX11_init 91 = .ok (.invokespecial 53, 3) := by decide +kernel
theorem dX11_init_94 : decode cX11_init 94 = .ok (.putfield 54, 3) := by decide +kernel
theorem dX11_init_97 : decode cX11_init 97 = .ok (.aload_n 0, 1) := by decide +kernel
theorem dX11_init_98 : decode cX11_init 98 = .ok (.new 58, 3) := by decide +kernel
theorem dX11_init_101 : decode cX11_init 101 = .ok (.dup, 1) := by decide +kernel
theorem dX11_init_102 : decode cX11_init 102 = .ok (.aload_n 0, 1) := by decide +kernel
theorem dX11_init_103 : decode cX11_init 103 = .ok (.getfield 19, 3) := by decide +kernel
theorem dX11_init_106 : decode cX11_init 106 = .ok (.aload_n 0, 1) := by decide +kernel
theorem dX11_init_107 : decode cX11_init 107 = .ok (.getfield 44, 3) := by decide +kernel
theorem dX11_init_110 : decode cX11_init 110 = .ok (.invokespecial 60, 3) := by decide +kernel
theorem dX11_init_113 : decode cX11_init 113 = .ok (.putfield 63, 3) := by decide +kernel
theorem dX11_init_116 : decode cX11_init 116 = .ok (.aload_n 0, 1) := by decide +kernel
theorem dX11_init_117 : decode cX11_init 117 = .ok (.new 67, 3) := by decide +kernel
theorem dX11_init_120 : decode cX11_init 120 = .ok (.dup, 1) := by decide +kernel
theorem dX11_init_121 : decode cX11_init 121 = .ok (.aload_n 0, 1) := by decide +kernel
theorem dX11_init_122 : decode cX11_init 122 = .ok (.getfield 19, 3) := by decide +kernel
theorem dX11_init_125 : decode cX11_init 125 = .ok (.aload_n 0, 1) := by decide +kernel
theorem dX11_init_126 : decode cX11_init 126 = .ok (.getfield 44, 3) := by decide +kernel
theorem dX11_init_129 : decode cX11_init 129 = .ok (.invokespecial 69, 3) := by decide +kernel
theorem dX11_init_132 : decode cX11_init 132 = .ok (.putfield 70, 3) := by decide +kernel
theorem dX11_init_135 : decode cX11_init 135 = .ok (.aload_n 0, 1) := by decide +kernel
theorem dX11_init_136 : decode cX11_init 136 = .ok (.new 74, 3) := by decide +kernel
theorem dX11_init_139 : decode cX11_init 139 = .ok (.dup, 1) := by decide +kernel
theorem dX11_init_140 : decode cX11_init 140 = .ok (.aload_n 0, 1) := by decide +kernel
theorem dX11_init_141 : decode cX11_init 141 = .ok (.getfield 19, 3) := by decide +kernel
theorem dX11_init_144 : decode cX11_init 144 = .ok (.invokespecial 76, 3) := by decide +kernel
theorem dX11_init_147 : decode cX11_init 147 = .ok (.putfield 77, 3) := by decide +kernel
theorem dX11_init_150 : decode cX11_init 150 = .ok (.aload_n 0, 1) := by decide +kernel
theorem dX11_init_151 : decode cX11_init 151 = .ok (.new 81, 3) := by decide +kernel
theorem dX11_init_154 : decode cX11_init 154 = .ok (.dup, 1) := by decide +kernel
theorem dX11_init_155 : decode cX11_init 155 = .ok (.aload_n 0, 1) := by decide +kernel
theorem dX11_init_156 : decode cX11_init 156 = .ok (.getfield 19, 3) := by decide +kernel
theorem dX11_init_159 : decode cX11_init 159 = .ok (.aload_n 0, 1) := by decide +kernel
theorem dX11_init_160 : decode cX11_init 160 = .ok (.getfield 44, 3) := by decide +kernel
theorem dX11_init_163 : decode cX11_init 163 = .ok (.invokespecial 83, 3) := by decide +kernel
theorem dX11_init_166 : decode cX11_init 166 = .ok (.putfield 84, 3) := by decide +kernel
theorem dX11_init_169 : decode cX11_init 169 = .ok (.aload_n 0, 1) := by decide +kernel
theorem dX11_init_170 : decode cX11_init 170 = .ok (.iconst 5, 1) := by decide +kernel
theorem dX11_init_171 : decode cX11_init 171 = .ok (.newarray .int, 2) := by decide +kernel
theorem dX11_init_173 : decode cX11_init 173 = .ok (.putfield 88, 3) := by decide +kernel
theorem dX11_init_176 : decode cX11_init 176 = .ok (.aload_n 0, 1) := by decide +kernel
theorem dX11_init_177 : decode cX11_init 177 = .ok (.iconst 3, 1) := by decide +kernel
theorem dX11_init_178 : decode cX11_init 178 = .ok (.putfield 92, 3) := by decide +kernel
theorem dX11_init_181 : decode cX11_init 181 = .ok (.return_, 1) := by decide +kernel
theorem dX11_feed_0 : decode cX11_feed 0 = .ok (.iload_n 1, 1) := by decide +kernel
theorem dX11_feed_1 : decode cX11_feed 1 = .ok (.invokestatic 96, 3) := by decide +kernel
theorem dX11_feed_4 : decode cX11_feed 4 = .ok (.iload_n 2, 1) := by decide +kernel
theorem dX11_feed_5 : decode cX11_feed 5 = .ok (.invokestatic 96, 3) := by decide +kernel
theorem dX11_feed_8 : decode cX11_feed 8 = .ok (.iadd, 1) := by decide +kernel
theorem dX11_feed_9 : decode cX11_feed 9 = .ok (.iload_n 3, 1) := by decide +kernel
theorem dX11_feed_10 : decode cX11_feed 10 = .ok (.invokestatic 96, 3) := by decide +kernel
theorem dX11_feed_13 : decode cX11_feed 13 = .ok (.iadd, 1) := by decide +kernel
theorem dX11_feed_14 : decode cX11_feed 14 = .ok (.iload 4, 2) := by decide +kernel
theorem dX11_feed_16 : decode cX11_feed 16 = .ok (.invokestatic 96, 3) := by decide +kernel
theorem dX11_feed_19 : decode cX11_feed 19 = .ok (.iadd, 1) := by decide +kernel
theorem dX11_feed_20 : decode cX11_feed 20 = .ok (.iload 5, 2) := by decide +kernel
theorem dX11_feed_22 : decode cX11_feed 22 = .ok (.invokestatic 96, 3) := by decide +kernel
theorem dX11_feed_25 : decode cX11_feed 25 = .ok (.iadd, 1) := by decide +kernel
theorem dX11_feed_26 : decode cX11_feed 26 = .ok (.istore 6, 2) := by decide +kernel
theorem dX11_feed_28 : decode cX11_feed 28 = .ok (.aload_n 0, 1) := by decide +kernel
theorem dX11_feed_29 : decode cX11_feed 29 = .ok (.getfield 10, 3) := by decide +kernel
theorem dX11_feed_32 : decode cX11_feed 32 = .ok (.invokevirtual 100, 3) := by decide +kernel
theorem dX11_feed_35 : decode cX11_feed 35 = .ok (.iload 6, 2) := by decide +kernel
theorem dX11_feed_37 : decode cX11_feed 37 = .ok (.iadd, 1) := by decide +kernel
theorem dX11_feed_38 : decode cX11_feed 38 = .ok (.sipush 240, 3) := by decide +kernel
theorem dX11_feed_41 : decode cX11_feed 41 = .ok (.if_icmp .le 5, 3) := by decide +kernel
theorem dX11_feed_44 : decode cX11_feed 44 = .ok (.iconst (-1), 1) := by decide +kernel
theorem dX11_feed_45 : decode cX11_feed 45 = .ok (.ireturn, 1) := by decide +kernel
theorem dX11_feed_46 : decode cX11_feed 46 = .ok (.aload_n 0, 1) := by decide +kernel
theorem dX11_feed_47 : decode cX11_feed 47 = .ok (.getfield 10, 3) := by decide +kernel
theorem dX11_feed_50 : decode cX11_feed 50 = .ok (.iload_n 1, 1) := by decide +kernel
theorem dX11_feed_51 : decode cX11_feed 51 = .ok (.invokevirtual 104, 3) := by decide +kernel
theorem dX11_feed_54 : decode cX11_feed 54 = .ok (.aload_n 0, 1) := by decide +kernel
theorem dX11_feed_55 : decode cX11_feed 55 = .ok (.getfield 10, 3) := by decide +kernel
theorem dX11_feed_58 : decode cX11_feed 58 = .ok (.iload_n 2, 1) := by decide +kernel
theorem dX11_feed_59 : decode cX11_feed 59 = .ok (.invokevirtual 104, 3) := by decide +kernel
theorem dX11_feed_62 : decode cX11_feed 62 = .ok (.aload_n 0, 1) := by decide +kernel
theorem dX11_feed_63 : decode cX11_feed 63 = .ok (.getfield 10, 3) := by decide +kernel
theorem dX11_feed_66 : decode cX11_feed 66 = .ok (.iload_n 3, 1) := by decide +kernel
theorem dX11_feed_67 : decode cX11_feed 67 = .ok (.invokevirtual 104, 3) := by decide +kernel
theorem dX11_feed_70 : decode cX11_feed 70 = .ok (.aload_n 0, 1) := by decide +kernel
theorem dX11_feed_71 : decode cX11_feed 71 = .ok (.getfield 10, 3) := by decide +kernel
theorem dX11_feed_74 : decode cX11_feed 74 = .ok (.iload 4, 2) := by decide +kernel
theorem dX11_feed_76 : decode cX11_feed 76 = .ok (.invokevirtual 104, 3) := by decide +kernel
theorem dX11_feed_79 : decode cX11_feed 79 = .ok (.aload_n 0, 1) := by decide +kernel
theorem dX11_feed_80 : decode cX11_feed 80 = .ok (.getfield 10, 3) := by decide +kernel
theorem dX11_feed_83 : decode cX11_feed 83 = .ok (.iload 5, 2) := by decide +kernel
theorem dX11_feed_85 : decode cX11_feed 85 = .ok (.invokevirtual 104, 3) := by decide +kernel
theorem dX11_feed_88 : decode cX11_feed 88 = .ok (.aload_n 0, 1) := by decide +kernel
theorem dX11_feed_89 : decode cX11_feed 89 = .ok (.getfield 10, 3) := by decide +kernel
theorem dX11_feed_92 : decode cX11_feed 92 = .ok (.invokevirtual 100, 3) := by decide +kernel
theorem dX11_feed_95 : decode cX11_feed 95 = .ok (.ireturn, 1) := by decide +kernel
theorem dX11_end_0 : decode cX11_end 0 = .ok (.iload_n 1, 1) := by decide +kernel
theorem dX11_end_1 : decode cX11_end 1 = .ok (.ifCond .lt 14, 3) := by decide +kernel
theorem dX11_end_4 : decode cX11_end 4 = .ok (.iload_n 1, 1) := by decide +kernel
theorem dX11_end_5 : decode cX11_end 5 = .ok (.aload_n 0, 1) := by decide +kernel
theorem dX11_end_6 : decode cX11_end 6 = .ok (.getfield 10, 3) := by decide +kernel
theorem dX11_end_9 : decode cX11_end 9 = .ok (.invokevirtual 100, 3) := by decide +kernel
theorem dX11_end_12 : decode cX11_end 12 = .ok (.if_icmp .le 5, 3) := by decide +kernel
theorem dX11_end_15 : decode cX11_end 15 = .ok (.iconst 0, 1) := by decide +kernel
theorem dX11_end_16 : decode cX11_end 16 = .ok (.ireturn, 1) := by decide +kernel
theorem dX11_end_17 : decode cX11_end 17 = .ok (.aload_n 0, 1) := by decide +kernel
theorem dX11_end_18 : decode cX11_end 18 = .ok (.getfield 10, 3) := by decide +kernel
theorem dX11_end_21 : decode cX11_end 21 = .ok (.iload_n 1, 1) := by decide +kernel
theorem dX11_end_22 : decode cX11_end 22 = .ok (.invokevirtual 108, 3) := by decide +kernel
theorem dX11_end_25 : decode cX11_end 25 = .ok (.iconst 1, 1) := by decide +kernel
theorem dX11_end_26 : decode cX11_end 26 = .ok (.ireturn, 1) := by decide +kernel
theorem dX11_fault_0 : decode cX11_fault 0 = .ok (.iload_n 1, 1) := by decide +kernel
theorem dX11_fault_1 : decode cX11_fault 1 = .ok (.lookupswitch 43 #[(0, 27), (1, 35)], 27) := by decide +kernel
theorem dX11_fault_28 : decode cX11_fault 28 = .ok (.aload_n 0, 1) := by decide +kernel
theorem dX11_fault_29 : decode cX11_fault 29 = .ok (.getfield 28, 3) := by decide +kernel
theorem dX11_fault_32 : decode cX11_fault 32 = .ok (.invokevirtual 111, 3) := by decide +kernel
theorem dX11_fault_35 : decode cX11_fault 35 = .ok (.ireturn, 1) := by decide +kernel
theorem dX11_fault_36 : decode cX11_fault 36 = .ok (.aload_n 0, 1) := by decide +kernel
theorem dX11_fault_37 : decode cX11_fault 37 = .ok (.getfield 35, 3) := by decide +kernel
theorem dX11_fault_40 : decode cX11_fault 40 = .ok (.invokevirtual 114, 3) := by decide +kernel
theorem dX11_fault_43 : decode cX11_fault 43 = .ok (.ireturn, 1) := by decide +kernel
theorem dX11_fault_44 : decode cX11_fault 44 = .ok (.bipush (-2), 2) := by decide +kernel
theorem dX11_fault_46 : decode cX11_fault 46 = .ok (.ireturn, 1) := by decide +kernel
theorem dX11_text_0 : decode cX11_text 0 = .ok (.iload_n 1, 1) := by decide +kernel
theorem dX11_text_1 : decode cX11_text 1 = .ok (.lookupswitch 37 #[(0, 27), (1, 32)], 27) := by decide +kernel
theorem dX11_text_28 : decode cX11_text 28 = .ok (.aload_n 0, 1) := by decide +kernel
theorem dX11_text_29 : decode cX11_text 29 = .ok (.invokevirtual 115, 3) := by decide +kernel
theorem dX11_text_32 : decode cX11_text 32 = .ok (.ireturn, 1) := by decide +kernel
theorem dX11_text_33 : decode cX11_text 33 = .ok (.aload_n 0, 1) := by decide +kernel
theorem dX11_text_34 : decode cX11_text 34 = .ok (.invokevirtual 118, 3) := by decide +kernel
theorem dX11_text_37 : decode cX11_text 37 = .ok (.ireturn, 1) := by decide +kernel
theorem dX11_text_38 : decode cX11_text 38 = .ok (.iconst (-1), 1) := by decide +kernel
theorem dX11_text_39 : decode cX11_text 39 = .ok (.ireturn, 1) := by decide +kernel
theorem dX11_foundMinistry_0 : decode cX11_foundMinistry 0 = .ok (.aload_n 0, 1) := by decide +kernel
theorem dX11_foundMinistry_1 : decode cX11_foundMinistry 1 = .ok (.getfield 28, 3) := by decide +kernel
theorem dX11_foundMinistry_4 : decode cX11_foundMinistry 4 = .ok (.invokevirtual 111, 3) := by decide +kernel
theorem dX11_foundMinistry_7 : decode cX11_foundMinistry 7 = .ok (.iconst (-1), 1) := by decide +kernel
theorem dX11_foundMinistry_8 : decode cX11_foundMinistry 8 = .ok (.if_icmp .eq 5, 3) := by decide +kernel
theorem dX11_foundMinistry_11 : decode cX11_foundMinistry 11 = .ok (.iconst (-1), 1) := by decide +kernel
theorem dX11_foundMinistry_12 : decode cX11_foundMinistry 12 = .ok (.ireturn, 1) := by decide +kernel
theorem dX11_foundMinistry_13 : decode cX11_foundMinistry 13 = .ok (.aload_n 0, 1) := by decide +kernel
theorem dX11_foundMinistry_14 : decode cX11_foundMinistry 14 = .ok (.getfield 19, 3) := by decide +kernel
theorem dX11_foundMinistry_17 : decode cX11_foundMinistry 17 = .ok (.aload_n 0, 1) := by decide +kernel
theorem dX11_foundMinistry_18 : decode cX11_foundMinistry 18 = .ok (.getfield 28, 3) := by decide +kernel
theorem dX11_foundMinistry_21 : decode cX11_foundMinistry 21 = .ok (.invokevirtual 121, 3) := by decide +kernel
theorem dX11_foundMinistry_24 : decode cX11_foundMinistry 24 = .ok (.invokevirtual 125, 3) := by decide +kernel
theorem dX11_foundMinistry_27 : decode cX11_foundMinistry 27 = .ok (.aload_n 0, 1) := by decide +kernel
theorem dX11_foundMinistry_28 : decode cX11_foundMinistry 28 = .ok (.getfield 44, 3) := by decide +kernel
theorem dX11_foundMinistry_31 : decode cX11_foundMinistry 31 = .ok (.invokevirtual 128, 3) := by decide +kernel
theorem dX11_foundMinistry_34 : decode cX11_foundMinistry 34 = .ok (.aload_n 0, 1) := by decide +kernel
theorem dX11_foundMinistry_35 : decode cX11_foundMinistry 35 = .ok (.getfield 54, 3) := by decide +kernel
theorem dX11_foundMinistry_38 : decode cX11_foundMinistry 38 = .ok (.invokevirtual 131, 3) := by decide +kernel
theorem dX11_foundMinistry_41 : decode cX11_foundMinistry 41 = .ok (.aload_n 0, 1) := by decide +kernel
theorem dX11_foundMinistry_42 : decode cX11_foundMinistry 42 = .ok (.getfield 77, 3) := by decide +kernel
theorem dX11_foundMinistry_45 : decode cX11_foundMinistry 45 = .ok (.invokevirtual 134, 3) := by decide +kernel
theorem dX11_foundMinistry_48 : decode cX11_foundMinistry 48 = .ok (.aload_n 0, 1) := by decide +kernel
theorem dX11_foundMinistry_49 : decode cX11_foundMinistry 49 = .ok (.iconst 0, 1) := by decide +kernel
theorem dX11_foundMinistry_50 : decode cX11_foundMinistry 50 = .ok (.putfield 135, 3) := by decide +kernel
theorem dX11_foundMinistry_53 : decode cX11_foundMinistry 53 = .ok (.aload_n 0, 1) := by decide +kernel
theorem dX11_foundMinistry_54 : decode cX11_foundMinistry 54 = .ok (.getfield 10, 3) := by decide +kernel
theorem dX11_foundMinistry_57 : decode cX11_foundMinistry 57 = .ok (.iconst 0, 1) := by decide +kernel
theorem dX11_foundMinistry_58 : decode cX11_foundMinistry 58 = .ok (.invokevirtual 108, 3) := by decide +kernel
theorem dX11_foundMinistry_61 : decode cX11_foundMinistry 61 = .ok (.aload_n 0, 1) := by decide +kernel
theorem dX11_foundMinistry_62 : decode cX11_foundMinistry 62 = .ok (.getfield 19, 3) := by decide +kernel
theorem dX11_foundMinistry_65 : decode cX11_foundMinistry 65 = .ok (.invokevirtual 139, 3) := by decide +kernel
theorem dX11_foundMinistry_68 : decode cX11_foundMinistry 68 = .ok (.ireturn, 1) := by decide +kernel
theorem dX11_passLaw_0 : decode cX11_passLaw 0 = .ok (.aload_n 0, 1) := by decide +kernel
theorem dX11_passLaw_1 : decode cX11_passLaw 1 = .ok (.getfield 63, 3) := by decide +kernel
theorem dX11_passLaw_4 : decode cX11_passLaw 4 = .ok (.invokevirtual 142, 3) := by decide +kernel
theorem dX11_passLaw_7 : decode cX11_passLaw 7 = .ok (.iconst 4, 1) := by decide +kernel
theorem dX11_passLaw_8 : decode cX11_passLaw 8 = .ok (.if_icmp .ge 14, 3) := by decide +kernel
theorem dX11_passLaw_11 : decode cX11_passLaw 11 = .ok (.aload_n 0, 1) := by decide +kernel
theorem dX11_passLaw_12 : decode cX11_passLaw 12 = .ok (.getfield 35, 3) := by decide +kernel
theorem dX11_passLaw_15 : decode cX11_passLaw 15 = .ok (.invokevirtual 114, 3) := by decide +kernel
theorem dX11_passLaw_18 : decode cX11_passLaw 18 = .ok (.iconst (-1), 1) := by decide +kernel
theorem dX11_passLaw_19 : decode cX11_passLaw 19 = .ok (.if_icmp .eq 5, 3) := by decide +kernel
theorem dX11_passLaw_22 : decode cX11_passLaw 22 = .ok (.iconst (-1), 1) := by decide +kernel
theorem dX11_passLaw_23 : decode cX11_passLaw 23 = .ok (.ireturn, 1) := by decide +kernel
theorem dX11_passLaw_24 : decode cX11_passLaw 24 = .ok (.aload_n 0, 1) := by decide +kernel
theorem dX11_passLaw_25 : decode cX11_passLaw 25 = .ok (.getfield 10, 3) := by decide +kernel
theorem dX11_passLaw_28 : decode cX11_passLaw 28 = .ok (.iconst 0, 1) := by decide +kernel
theorem dX11_passLaw_29 : decode cX11_passLaw 29 = .ok (.invokevirtual 108, 3) := by decide +kernel
theorem dX11_passLaw_32 : decode cX11_passLaw 32 = .ok (.aload_n 0, 1) := by decide +kernel
theorem dX11_passLaw_33 : decode cX11_passLaw 33 = .ok (.getfield 63, 3) := by decide +kernel
theorem dX11_passLaw_36 : decode cX11_passLaw 36 = .ok (.aload_n 0, 1) := by decide +kernel
theorem dX11_passLaw_37 : decode cX11_passLaw 37 = .ok (.getfield 35, 3) := by decide +kernel
theorem dX11_passLaw_40 : decode cX11_passLaw 40 = .ok (.invokevirtual 145, 3) := by decide +kernel
theorem dX11_passLaw_43 : decode cX11_passLaw 43 = .ok (.invokevirtual 148, 3) := by decide +kernel
theorem dX11_passLaw_46 : decode cX11_passLaw 46 = .ok (.ireturn, 1) := by decide +kernel
theorem dX11_rule_0 : decode cX11_rule 0 = .ok (.aload_n 0, 1) := by decide +kernel
theorem dX11_rule_1 : decode cX11_rule 1 = .ok (.getfield 19, 3) := by decide +kernel
theorem dX11_rule_4 : decode cX11_rule 4 = .ok (.invokevirtual 152, 3) := by decide +kernel
theorem dX11_rule_7 : decode cX11_rule 7 = .ok (.ifCond .ne 5, 3) := by decide +kernel
theorem dX11_rule_10 : decode cX11_rule 10 = .ok (.iconst (-1), 1) := by decide +kernel
theorem dX11_rule_11 : decode cX11_rule 11 = .ok (.ireturn, 1) := by decide +kernel
theorem dX11_rule_12 : decode cX11_rule 12 = .ok (.iload_n 1, 1) := by decide +kernel
theorem dX11_rule_13 : decode cX11_rule 13 = .ok (.lookupswitch 43 #[(0, 27), (1, 35)], 27) := by decide +kernel
theorem dX11_rule_40 : decode cX11_rule 40 = .ok (.aload_n 0, 1) := by decide +kernel
theorem dX11_rule_41 : decode cX11_rule 41 = .ok (.getfield 19, 3) := by decide +kernel
theorem dX11_rule_44 : decode cX11_rule 44 = .ok (.invokevirtual 156, 3) := by decide +kernel
theorem dX11_rule_47 : decode cX11_rule 47 = .ok (.ireturn, 1) := by decide +kernel
theorem dX11_rule_48 : decode cX11_rule 48 = .ok (.aload_n 0, 1) := by decide +kernel
theorem dX11_rule_49 : decode cX11_rule 49 = .ok (.getfield 44, 3) := by decide +kernel
theorem dX11_rule_52 : decode cX11_rule 52 = .ok (.invokevirtual 159, 3) := by decide +kernel
theorem dX11_rule_55 : decode cX11_rule 55 = .ok (.ireturn, 1) := by decide +kernel
theorem dX11_rule_56 : decode cX11_rule 56 = .ok (.iconst (-1), 1) := by decide +kernel
theorem dX11_rule_57 : decode cX11_rule 57 = .ok (.ireturn, 1) := by decide +kernel
theorem dX11_name_0 : decode cX11_name 0 = .ok (.aload_n 0, 1) := by decide +kernel
theorem dX11_name_1 : decode cX11_name 1 = .ok (.getfield 19, 3) := by decide +kernel
theorem dX11_name_4 : decode cX11_name 4 = .ok (.iload_n 1, 1) := by decide +kernel
theorem dX11_name_5 : decode cX11_name 5 = .ok (.invokevirtual 162, 3) := by decide +kernel
theorem dX11_name_8 : decode cX11_name 8 = .ok (.ifCond .ne 13, 3) := by decide +kernel
theorem dX11_name_11 : decode cX11_name 11 = .ok (.new 166, 3) := by decide +kernel
theorem dX11_name_14 : decode cX11_name 14 = .ok (.dup, 1) := by decide +kernel
theorem dX11_name_15 : decode cX11_name 15 = .ok (.ldc 168, 2) := by decide +kernel
theorem dX11_name_17 : decode cX11_name 17 = .ok (.invokespecial 170, 3) := by decide +kernel
theorem dX11_name_20 : decode cX11_name 20 = .ok (.athrow, 1) := by decide +kernel
theorem dX11_name_21 : decode cX11_name 21 = .ok (.iload_n 2, 1) := by decide +kernel
theorem dX11_name_22 : decode cX11_name 22 = .ok (.tableswitch 107 0 5 #[38, 47, 56, 73, 82, 98], 38) := by decide +kernel
theorem dX11_name_60 : decode cX11_name 60 = .ok (.aload_n 0, 1) := by decide +kernel
theorem dX11_name_61 : decode cX11_name 61 = .ok (.getfield 19, 3) := by decide +kernel
theorem dX11_name_64 : decode cX11_name 64 = .ok (.iload_n 1, 1) := by decide +kernel
theorem dX11_name_65 : decode cX11_name 65 = .ok (.invokevirtual 173, 3) := by decide +kernel
theorem dX11_name_68 : decode cX11_name 68 = .ok (.ireturn, 1) := by decide +kernel
theorem dX11_name_69 : decode cX11_name 69 = .ok (.aload_n 0, 1) := by decide +kernel
theorem dX11_name_70 : decode cX11_name 70 = .ok (.getfield 19, 3) := by decide +kernel
theorem dX11_name_73 : decode cX11_name 73 = .ok (.iload_n 1, 1) := by decide +kernel
theorem dX11_name_74 : decode cX11_name 74 = .ok (.invokevirtual 176, 3) := by decide +kernel
theorem dX11_name_77 : decode cX11_name 77 = .ok (.ireturn, 1) := by decide +kernel
theorem dX11_name_78 : decode cX11_name 78 = .ok (.aload_n 0, 1) := by decide +kernel
theorem dX11_name_79 : decode cX11_name 79 = .ok (.getfield 19, 3) := by decide +kernel
theorem dX11_name_82 : decode cX11_name 82 = .ok (.iload_n 1, 1) := by decide +kernel
theorem dX11_name_83 : decode cX11_name 83 = .ok (.invokevirtual 179, 3) := by decide +kernel
theorem dX11_name_86 : decode cX11_name 86 = .ok (.ifCond .eq 7, 3) := by decide +kernel
theorem dX11_name_89 : decode cX11_name 89 = .ok (.iconst 1, 1) := by decide +kernel
theorem dX11_name_90 : decode cX11_name 90 = .ok (.goto 4, 3) := by decide +kernel
theorem dX11_name_93 : decode cX11_name 93 = .ok (.iconst 0, 1) := by decide +kernel
theorem dX11_name_94 : decode cX11_name 94 = .ok (.ireturn, 1) := by decide +kernel
theorem dX11_name_95 : decode cX11_name 95 = .ok (.aload_n 0, 1) := by decide +kernel
theorem dX11_name_96 : decode cX11_name 96 = .ok (.getfield 44, 3) := by decide +kernel
theorem dX11_name_99 : decode cX11_name 99 = .ok (.iload_n 1, 1) := by decide +kernel
theorem dX11_name_100 : decode cX11_name 100 = .ok (.invokevirtual 182, 3) := by decide +kernel
theorem dX11_name_103 : decode cX11_name 103 = .ok (.ireturn, 1) := by decide +kernel
theorem dX11_name_104 : decode cX11_name 104 = .ok (.aload_n 0, 1) := by decide +kernel
theorem dX11_name_105 : decode cX11_name 105 = .ok (.getfield 44, 3) := by decide +kernel
theorem dX11_name_108 : decode cX11_name 108 = .ok (.iload_n 1, 1) := by decide +kernel
theorem dX11_name_109 : decode cX11_name 109 = .ok (.aload_n 0, 1) := by decide +kernel
theorem dX11_name_110 : decode cX11_name 110 = .ok (.getfield 44, 3) := by decide +kernel
theorem dX11_name_113 : decode cX11_name 113 = .ok (.invokevirtual 185, 3) := by decide +kernel
theorem dX11_name_116 : decode cX11_name 116 = .ok (.invokevirtual 188, 3) := by decide +kernel
theorem dX11_name_119 : decode cX11_name 119 = .ok (.ireturn, 1) := by decide +kernel
theorem dX11_name_120 : decode cX11_name 120 = .ok (.aload_n 0, 1) := by decide +kernel
theorem dX11_name_121 : decode cX11_name 121 = .ok (.getfield 63, 3) := by decide +kernel
theorem dX11_name_124 : decode cX11_name 124 = .ok (.iload_n 1, 1) := by decide +kernel
theorem dX11_name_125 : decode cX11_name 125 = .ok (.invokevirtual 192, 3) := by decide +kernel
theorem dX11_name_128 : decode cX11_name 128 = .ok (.ireturn, 1) := by decide +kernel
theorem dX11_name_129 : decode cX11_name 129 = .ok (.new 166, 3) := by decide +kernel
theorem dX11_name_132 : decode cX11_name 132 = .ok (.dup, 1) := by decide +kernel
theorem dX11_name_133 : decode cX11_name 133 = .ok (.ldc 195, 2) := by decide +kernel
theorem dX11_name_135 : decode cX11_name 135 = .ok (.invokespecial 170, 3) := by decide +kernel
theorem dX11_name_138 : decode cX11_name 138 = .ok (.athrow, 1) := by decide +kernel
theorem dX11_well_0 : decode cX11_well 0 = .ok (.aload_n 0, 1) := by decide +kernel
theorem dX11_well_1 : decode cX11_well 1 = .ok (.getfield 19, 3) := by decide +kernel
theorem dX11_well_4 : decode cX11_well 4 = .ok (.iload_n 1, 1) := by decide +kernel
theorem dX11_well_5 : decode cX11_well 5 = .ok (.invokevirtual 197, 3) := by decide +kernel
theorem dX11_well_8 : decode cX11_well 8 = .ok (.ifCond .ne 5, 3) := by decide +kernel
theorem dX11_well_11 : decode cX11_well 11 = .ok (.iconst (-1), 1) := by decide +kernel
theorem dX11_well_12 : decode cX11_well 12 = .ok (.ireturn, 1) := by decide +kernel
theorem dX11_well_13 : decode cX11_well 13 = .ok (.iload_n 2, 1) := by decide +kernel
theorem dX11_well_14 : decode cX11_well 14 = .ok (.tableswitch 77 0 3 #[30, 39, 56, 65], 30) := by decide +kernel
theorem dX11_well_44 : decode cX11_well 44 = .ok (.aload_n 0, 1) := by decide +kernel
theorem dX11_well_45 : decode cX11_well 45 = .ok (.getfield 44, 3) := by decide +kernel
theorem dX11_well_48 : decode cX11_well 48 = .ok (.iload_n 1, 1) := by decide +kernel
theorem dX11_well_49 : decode cX11_well 49 = .ok (.invokevirtual 200, 3) := by decide +kernel
theorem dX11_well_52 : decode cX11_well 52 = .ok (.ireturn, 1) := by decide +kernel
theorem dX11_well_53 : decode cX11_well 53 = .ok (.aload_n 0, 1) := by decide +kernel
theorem dX11_well_54 : decode cX11_well 54 = .ok (.getfield 19, 3) := by decide +kernel
theorem dX11_well_57 : decode cX11_well 57 = .ok (.iload_n 1, 1) := by decide +kernel
theorem dX11_well_58 : decode cX11_well 58 = .ok (.invokevirtual 203, 3) := by decide +kernel
theorem dX11_well_61 : decode cX11_well 61 = .ok (.ifCond .eq 7, 3) := by decide +kernel
theorem dX11_well_64 : decode cX11_well 64 = .ok (.iconst 1, 1) := by decide +kernel
theorem dX11_well_65 : decode cX11_well 65 = .ok (.goto 4, 3) := by decide +kernel
theorem dX11_well_68 : decode cX11_well 68 = .ok (.iconst 0, 1) := by decide +kernel
theorem dX11_well_69 : decode cX11_well 69 = .ok (.ireturn, 1) := by decide +kernel
theorem dX11_well_70 : decode cX11_well 70 = .ok (.aload_n 0, 1) := by decide +kernel
theorem dX11_well_71 : decode cX11_well 71 = .ok (.getfield 44, 3) := by decide +kernel
theorem dX11_well_74 : decode cX11_well 74 = .ok (.iload_n 1, 1) := by decide +kernel
theorem dX11_well_75 : decode cX11_well 75 = .ok (.invokevirtual 206, 3) := by decide +kernel
theorem dX11_well_78 : decode cX11_well 78 = .ok (.ireturn, 1) := by decide +kernel
theorem dX11_well_79 : decode cX11_well 79 = .ok (.aload_n 0, 1) := by decide +kernel
theorem dX11_well_80 : decode cX11_well 80 = .ok (.getfield 44, 3) := by decide +kernel
theorem dX11_well_83 : decode cX11_well 83 = .ok (.iload_n 1, 1) := by decide +kernel
theorem dX11_well_84 : decode cX11_well 84 = .ok (.invokevirtual 209, 3) := by decide +kernel
theorem dX11_well_87 : decode cX11_well 87 = .ok (.invokestatic 212, 3) := by decide +kernel
theorem dX11_well_90 : decode cX11_well 90 = .ok (.ireturn, 1) := by decide +kernel
theorem dX11_well_91 : decode cX11_well 91 = .ok (.iconst (-1), 1) := by decide +kernel
theorem dX11_well_92 : decode cX11_well 92 = .ok (.ireturn, 1) := by decide +kernel
theorem dX11_file_0 : decode cX11_file 0 = .ok (.aload_n 0, 1) := by decide +kernel
theorem dX11_file_1 : decode cX11_file 1 = .ok (.getfield 19, 3) := by decide +kernel
theorem dX11_file_4 : decode cX11_file 4 = .ok (.iload_n 1, 1) := by decide +kernel
theorem dX11_file_5 : decode cX11_file 5 = .ok (.invokevirtual 217, 3) := by decide +kernel
theorem dX11_file_8 : decode cX11_file 8 = .ok (.ifCond .ne 5, 3) := by decide +kernel
theorem dX11_file_11 : decode cX11_file 11 = .ok (.iconst (-1), 1) := by decide +kernel
theorem dX11_file_12 : decode cX11_file 12 = .ok (.ireturn, 1) := by decide +kernel
theorem dX11_file_13 : decode cX11_file 13 = .ok (.iload_n 2, 1) := by decide +kernel
theorem dX11_file_14 : decode cX11_file 14 = .ok (.tableswitch 52 0 2 #[26, 26, 36], 26) := by decide +kernel
theorem dX11_file_40 : decode cX11_file 40 = .ok (.aload_n 0, 1) := by decide +kernel
theorem dX11_file_41 : decode cX11_file 41 = .ok (.getfield 19, 3) := by decide +kernel
theorem dX11_file_44 : decode cX11_file 44 = .ok (.iload_n 1, 1) := by decide +kernel
theorem dX11_file_45 : decode cX11_file 45 = .ok (.iload_n 2, 1) := by decide +kernel
theorem dX11_file_46 : decode cX11_file 46 = .ok (.invokevirtual 220, 3) := by decide +kernel
theorem dX11_file_49 : decode cX11_file 49 = .ok (.ireturn, 1) := by decide +kernel
theorem dX11_file_50 : decode cX11_file 50 = .ok (.aload_n 0, 1) := by decide +kernel
theorem dX11_file_51 : decode cX11_file 51 = .ok (.getfield 19, 3) := by decide +kernel
theorem dX11_file_54 : decode cX11_file 54 = .ok (.iload_n 1, 1) := by decide +kernel
theorem dX11_file_55 : decode cX11_file 55 = .ok (.aload_n 0, 1) := by decide +kernel
theorem dX11_file_56 : decode cX11_file 56 = .ok (.getfield 44, 3) := by decide +kernel
theorem dX11_file_59 : decode cX11_file 59 = .ok (.invokevirtual 185, 3) := by decide +kernel
theorem dX11_file_62 : decode cX11_file 62 = .ok (.invokevirtual 223, 3) := by decide +kernel
theorem dX11_file_65 : decode cX11_file 65 = .ok (.ireturn, 1) := by decide +kernel
theorem dX11_file_66 : decode cX11_file 66 = .ok (.iconst (-1), 1) := by decide +kernel
theorem dX11_file_67 : decode cX11_file 67 = .ok (.ireturn, 1) := by decide +kernel
theorem dX11_law_0 : decode cX11_law 0 = .ok (.aload_n 0, 1) := by decide +kernel
theorem dX11_law_1 : decode cX11_law 1 = .ok (.getfield 63, 3) := by decide +kernel
theorem dX11_law_4 : decode cX11_law 4 = .ok (.iload_n 1, 1) := by decide +kernel
theorem dX11_law_5 : decode cX11_law 5 = .ok (.invokevirtual 226, 3) := by decide +kernel
theorem dX11_law_8 : decode cX11_law 8 = .ok (.ireturn, 1) := by decide +kernel
theorem dX11_dip_0 : decode cX11_dip 0 = .ok (.aload_n 0, 1) := by decide +kernel
theorem dX11_dip_1 : decode cX11_dip 1 = .ok (.getfield 19, 3) := by decide +kernel
theorem dX11_dip_4 : decode cX11_dip 4 = .ok (.iload_n 1, 1) := by decide +kernel
theorem dX11_dip_5 : decode cX11_dip 5 = .ok (.invokevirtual 162, 3) := by decide +kernel
theorem dX11_dip_8 : decode cX11_dip 8 = .ok (.ifCond .eq 14, 3) := by decide +kernel
theorem dX11_dip_11 : decode cX11_dip 11 = .ok (.aload_n 0, 1) := by decide +kernel
theorem dX11_dip_12 : decode cX11_dip 12 = .ok (.getfield 19, 3) := by decide +kernel
theorem dX11_dip_15 : decode cX11_dip 15 = .ok (.iload_n 2, 1) := by decide +kernel
theorem dX11_dip_16 : decode cX11_dip 16 = .ok (.invokevirtual 197, 3) := by decide +kernel
theorem dX11_dip_19 : decode cX11_dip 19 = .ok (.ifCond .ne 10, 3) := by decide +kernel
theorem dX11_dip_22 : decode cX11_dip 22 = .ok (.aload_n 0, 1) := by decide +kernel
theorem dX11_dip_23 : decode cX11_dip 23 = .ok (.iconst 0, 1) := by decide +kernel
theorem dX11_dip_24 : decode cX11_dip 24 = .ok (.iconst (-1), 1) := by decide +kernel
theorem dX11_dip_25 : decode cX11_dip 25 = .ok (.invokevirtual 229, 3) := by decide +kernel
theorem dX11_dip_28 : decode cX11_dip 28 = .ok (.ireturn, 1) := by decide +kernel
theorem dX11_dip_29 : decode cX11_dip 29 = .ok (.aload_n 0, 1) := by decide +kernel
theorem dX11_dip_30 : decode cX11_dip 30 = .ok (.getfield 44, 3) := by decide +kernel
theorem dX11_dip_33 : decode cX11_dip 33 = .ok (.iload_n 1, 1) := by decide +kernel
theorem dX11_dip_34 : decode cX11_dip 34 = .ok (.invokevirtual 232, 3) := by decide +kernel
theorem dX11_dip_37 : decode cX11_dip 37 = .ok (.ifCond .ne 10, 3) := by decide +kernel
theorem dX11_dip_40 : decode cX11_dip 40 = .ok (.aload_n 0, 1) := by decide +kernel
theorem dX11_dip_41 : decode cX11_dip 41 = .ok (.iconst 2, 1) := by decide +kernel
theorem dX11_dip_42 : decode cX11_dip 42 = .ok (.iconst (-1), 1) := by decide +kernel
theorem dX11_dip_43 : decode cX11_dip 43 = .ok (.invokevirtual 229, 3) := by decide +kernel
theorem dX11_dip_46 : decode cX11_dip 46 = .ok (.ireturn, 1) := by decide +kernel
theorem dX11_dip_47 : decode cX11_dip 47 = .ok (.aload_n 0, 1) := by decide +kernel
theorem dX11_dip_48 : decode cX11_dip 48 = .ok (.getfield 44, 3) := by decide +kernel
theorem dX11_dip_51 : decode cX11_dip 51 = .ok (.iload_n 2, 1) := by decide +kernel
theorem dX11_dip_52 : decode cX11_dip 52 = .ok (.iload_n 1, 1) := by decide +kernel
theorem dX11_dip_53 : decode cX11_dip 53 = .ok (.invokevirtual 235, 3) := by decide +kernel
theorem dX11_dip_56 : decode cX11_dip 56 = .ok (.ifCond .ne 10, 3) := by decide +kernel
theorem dX11_dip_59 : decode cX11_dip 59 = .ok (.aload_n 0, 1) := by decide +kernel
theorem dX11_dip_60 : decode cX11_dip 60 = .ok (.iconst 3, 1) := by decide +kernel
theorem dX11_dip_61 : decode cX11_dip 61 = .ok (.iconst (-1), 1) := by decide +kernel
theorem dX11_dip_62 : decode cX11_dip 62 = .ok (.invokevirtual 229, 3) := by decide +kernel
theorem dX11_dip_65 : decode cX11_dip 65 = .ok (.ireturn, 1) := by decide +kernel
theorem dX11_dip_66 : decode cX11_dip 66 = .ok (.aload_n 0, 1) := by decide +kernel
theorem dX11_dip_67 : decode cX11_dip 67 = .ok (.getfield 54, 3) := by decide +kernel
theorem dX11_dip_70 : decode cX11_dip 70 = .ok (.aload_n 0, 1) := by decide +kernel
theorem dX11_dip_71 : decode cX11_dip 71 = .ok (.getfield 44, 3) := by decide +kernel
theorem dX11_dip_74 : decode cX11_dip 74 = .ok (.invokevirtual 239, 3) := by decide +kernel
theorem dX11_dip_77 : decode cX11_dip 77 = .ok (.aload_n 0, 1) := by decide +kernel
theorem dX11_dip_78 : decode cX11_dip 78 = .ok (.getfield 44, 3) := by decide +kernel
theorem dX11_dip_81 : decode cX11_dip 81 = .ok (.iload_n 1, 1) := by decide +kernel
theorem dX11_dip_82 : decode cX11_dip 82 = .ok (.iload_n 2, 1) := by decide +kernel
theorem dX11_dip_83 : decode cX11_dip 83 = .ok (.invokevirtual 243, 3) := by decide +kernel
theorem dX11_dip_86 : decode cX11_dip 86 = .ok (.aload_n 0, 1) := by decide +kernel
theorem dX11_dip_87 : decode cX11_dip 87 = .ok (.getfield 44, 3) := by decide +kernel
theorem dX11_dip_90 : decode cX11_dip 90 = .ok (.iload_n 2, 1) := by decide +kernel
theorem dX11_dip_91 : decode cX11_dip 91 = .ok (.invokevirtual 206, 3) := by decide +kernel
theorem dX11_dip_94 : decode cX11_dip 94 = .ok (.ireturn, 1) := by decide +kernel
theorem dX11_scratch_0 : decode cX11_scratch 0 = .ok (.aload_n 0, 1) := by decide +kernel
theorem dX11_scratch_1 : decode cX11_scratch 1 = .ok (.getfield 19, 3) := by decide +kernel
theorem dX11_scratch_4 : decode cX11_scratch 4 = .ok (.iload_n 1, 1) := by decide +kernel
theorem dX11_scratch_5 : decode cX11_scratch 5 = .ok (.invokevirtual 197, 3) := by decide +kernel
theorem dX11_scratch_8 : decode cX11_scratch 8 = .ok (.ifCond .ne 11, 3) := by decide +kernel
theorem dX11_scratch_11 : decode cX11_scratch 11 = .ok (.aload_n 0, 1) := by decide +kernel
theorem dX11_scratch_12 : decode cX11_scratch 12 = .ok (.iconst 0, 1) := by decide +kernel
theorem dX11_scratch_13 : decode cX11_scratch 13 = .ok (.bipush (-2), 2) := by decide +kernel
theorem dX11_scratch_15 : decode cX11_scratch 15 = .ok (.invokevirtual 229, 3) := by decide +kernel
theorem dX11_scratch_18 : decode cX11_scratch 18 = .ok (.ireturn, 1) := by decide +kernel
theorem dX11_scratch_19 : decode cX11_scratch 19 = .ok (.iload_n 2, 1) := by decide +kernel
theorem dX11_scratch_20 : decode cX11_scratch 20 = .ok (.iconst 1, 1) := by decide +kernel
theorem dX11_scratch_21 : decode cX11_scratch 21 = .ok (.if_icmp .lt 9, 3) := by decide +kernel
theorem dX11_scratch_24 : decode cX11_scratch 24 = .ok (.iload_n 2, 1) := by decide +kernel
theorem dX11_scratch_25 : decode cX11_scratch 25 = .ok (.bipush 9, 2) := by decide +kernel
theorem dX11_scratch_27 : decode cX11_scratch 27 = .ok (.if_icmp .le 11, 3) := by decide +kernel
theorem dX11_scratch_30 : decode cX11_scratch 30 = .ok (.aload_n 0, 1) := by decide +kernel
theorem dX11_scratch_31 : decode cX11_scratch 31 = .ok (.iconst 1, 1) := by decide +kernel
theorem dX11_scratch_32 : decode cX11_scratch 32 = .ok (.bipush (-2), 2) := by decide +kernel
theorem dX11_scratch_34 : decode cX11_scratch 34 = .ok (.invokevirtual 229, 3) := by decide +kernel
theorem dX11_scratch_37 : decode cX11_scratch 37 = .ok (.ireturn, 1) := by decide +kernel
theorem dX11_scratch_38 : decode cX11_scratch 38 = .ok (.aload_n 0, 1) := by decide +kernel
theorem dX11_scratch_39 : decode cX11_scratch 39 = .ok (.getfield 44, 3) := by decide +kernel
theorem dX11_scratch_42 : decode cX11_scratch 42 = .ok (.iload_n 1, 1) := by decide +kernel
theorem dX11_scratch_43 : decode cX11_scratch 43 = .ok (.invokevirtual 209, 3) := by decide +kernel
theorem dX11_scratch_46 : decode cX11_scratch 46 = .ok (.ifCond .ne 11, 3) := by decide +kernel
theorem dX11_scratch_49 : decode cX11_scratch 49 = .ok (.aload_n 0, 1) := by decide +kernel
theorem dX11_scratch_50 : decode cX11_scratch 50 = .ok (.iconst 2, 1) := by decide +kernel
theorem dX11_scratch_51 : decode cX11_scratch 51 = .ok (.bipush (-2), 2) := by decide +kernel
theorem dX11_scratch_53 : decode cX11_scratch 53 = .ok (.invokevirtual 229, 3) := by decide +kernel
theorem dX11_scratch_56 : decode cX11_scratch 56 = .ok (.ireturn, 1) := by decide +kernel
theorem dX11_scratch_57 : decode cX11_scratch 57 = .ok (.aload_n 0, 1) := by decide +kernel
theorem dX11_scratch_58 : decode cX11_scratch 58 = .ok (.getfield 54, 3) := by decide +kernel
theorem dX11_scratch_61 : decode cX11_scratch 61 = .ok (.aload_n 0, 1) := by decide +kernel
theorem dX11_scratch_62 : decode cX11_scratch 62 = .ok (.getfield 44, 3) := by decide +kernel
theorem dX11_scratch_65 : decode cX11_scratch 65 = .ok (.invokevirtual 239, 3) := by decide +kernel
theorem dX11_scratch_68 : decode cX11_scratch 68 = .ok (.aload_n 0, 1) := by decide +kernel
theorem dX11_scratch_69 : decode cX11_scratch 69 = .ok (.getfield 44, 3) := by decide +kernel
theorem dX11_scratch_72 : decode cX11_scratch 72 = .ok (.iload_n 1, 1) := by decide +kernel
theorem dX11_scratch_73 : decode cX11_scratch 73 = .ok (.iload_n 2, 1) := by decide +kernel
theorem dX11_scratch_74 : decode cX11_scratch 74 = .ok (.invokevirtual 247, 3) := by decide +kernel
theorem dX11_scratch_77 : decode cX11_scratch 77 = .ok (.ireturn, 1) := by decide +kernel
theorem dX11_blot_0 : decode cX11_blot 0 = .ok (.aload_n 0, 1) := by decide +kernel
theorem dX11_blot_1 : decode cX11_blot 1 = .ok (.getfield 19, 3) := by decide +kernel
theorem dX11_blot_4 : decode cX11_blot 4 = .ok (.iload_n 1, 1) := by decide +kernel
theorem dX11_blot_5 : decode cX11_blot 5 = .ok (.invokevirtual 197, 3) := by decide +kernel
theorem dX11_blot_8 : decode cX11_blot 8 = .ok (.ifCond .ne 11, 3) := by decide +kernel
theorem dX11_blot_11 : decode cX11_blot 11 = .ok (.aload_n 0, 1) := by decide +kernel
theorem dX11_blot_12 : decode cX11_blot 12 = .ok (.iconst 0, 1) := by decide +kernel
theorem dX11_blot_13 : decode cX11_blot 13 = .ok (.bipush (-2), 2) := by decide +kernel
theorem dX11_blot_15 : decode cX11_blot 15 = .ok (.invokevirtual 229, 3) := by decide +kernel
theorem dX11_blot_18 : decode cX11_blot 18 = .ok (.ireturn, 1) := by decide +kernel
theorem dX11_blot_19 : decode cX11_blot 19 = .ok (.aload_n 0, 1) := by decide +kernel
theorem dX11_blot_20 : decode cX11_blot 20 = .ok (.getfield 44, 3) := by decide +kernel
theorem dX11_blot_23 : decode cX11_blot 23 = .ok (.iload_n 1, 1) := by decide +kernel
theorem dX11_blot_24 : decode cX11_blot 24 = .ok (.invokevirtual 209, 3) := by decide +kernel
theorem dX11_blot_27 : decode cX11_blot 27 = .ok (.ifCond .ne 11, 3) := by decide +kernel
theorem dX11_blot_30 : decode cX11_blot 30 = .ok (.aload_n 0, 1) := by decide +kernel
theorem dX11_blot_31 : decode cX11_blot 31 = .ok (.iconst 2, 1) := by decide +kernel
theorem dX11_blot_32 : decode cX11_blot 32 = .ok (.bipush (-2), 2) := by decide +kernel
theorem dX11_blot_34 : decode cX11_blot 34 = .ok (.invokevirtual 229, 3) := by decide +kernel
theorem dX11_blot_37 : decode cX11_blot 37 = .ok (.ireturn, 1) := by decide +kernel
theorem dX11_blot_38 : decode cX11_blot 38 = .ok (.aload_n 0, 1) := by decide +kernel
theorem dX11_blot_39 : decode cX11_blot 39 = .ok (.getfield 44, 3) := by decide +kernel
theorem dX11_blot_42 : decode cX11_blot 42 = .ok (.invokevirtual 159, 3) := by decide +kernel
theorem dX11_blot_45 : decode cX11_blot 45 = .ok (.iconst 2, 1) := by decide +kernel
theorem dX11_blot_46 : decode cX11_blot 46 = .ok (.if_icmp .ge 11, 3) := by decide +kernel
theorem dX11_blot_49 : decode cX11_blot 49 = .ok (.aload_n 0, 1) := by decide +kernel
theorem dX11_blot_50 : decode cX11_blot 50 = .ok (.iconst 4, 1) := by decide +kernel
theorem dX11_blot_51 : decode cX11_blot 51 = .ok (.bipush (-2), 2) := by decide +kernel
theorem dX11_blot_53 : decode cX11_blot 53 = .ok (.invokevirtual 229, 3) := by decide +kernel
theorem dX11_blot_56 : decode cX11_blot 56 = .ok (.ireturn, 1) := by decide +kernel
theorem dX11_blot_57 : decode cX11_blot 57 = .ok (.aload_n 0, 1) := by decide +kernel
theorem dX11_blot_58 : decode cX11_blot 58 = .ok (.getfield 54, 3) := by decide +kernel
theorem dX11_blot_61 : decode cX11_blot 61 = .ok (.aload_n 0, 1) := by decide +kernel
theorem dX11_blot_62 : decode cX11_blot 62 = .ok (.getfield 44, 3) := by decide +kernel
theorem dX11_blot_65 : decode cX11_blot 65 = .ok (.invokevirtual 239, 3) := by decide +kernel
theorem dX11_blot_68 : decode cX11_blot 68 = .ok (.aload_n 0, 1) := by decide +kernel
theorem dX11_blot_69 : decode cX11_blot 69 = .ok (.getfield 44, 3) := by decide +kernel
theorem dX11_blot_72 : decode cX11_blot 72 = .ok (.iconst 2, 1) := by decide +kernel
theorem dX11_blot_73 : decode cX11_blot 73 = .ok (.invokevirtual 250, 3) := by decide +kernel
theorem dX11_blot_76 : decode cX11_blot 76 = .ok (.aload_n 0, 1) := by decide +kernel
theorem dX11_blot_77 : decode cX11_blot 77 = .ok (.getfield 44, 3) := by decide +kernel
theorem dX11_blot_80 : decode cX11_blot 80 = .ok (.iload_n 1, 1) := by decide +kernel
theorem dX11_blot_81 : decode cX11_blot 81 = .ok (.invokevirtual 253, 3) := by decide +kernel
theorem dX11_blot_84 : decode cX11_blot 84 = .ok (.ireturn, 1) := by decide +kernel
theorem dX11_water_0 : decode cX11_water 0 = .ok (.aload_n 0, 1) := by decide +kernel
theorem dX11_water_1 : decode cX11_water 1 = .ok (.getfield 19, 3) := by decide +kernel
theorem dX11_water_4 : decode cX11_water 4 = .ok (.iload_n 1, 1) := by decide +kernel
theorem dX11_water_5 : decode cX11_water 5 = .ok (.invokevirtual 197, 3) := by decide +kernel
theorem dX11_water_8 : decode cX11_water 8 = .ok (.ifCond .ne 10, 3) := by decide +kernel
theorem dX11_water_11 : decode cX11_water 11 = .ok (.aload_n 0, 1) := by decide +kernel
theorem dX11_water_12 : decode cX11_water 12 = .ok (.iconst 0, 1) := by decide +kernel
theorem dX11_water_13 : decode cX11_water 13 = .ok (.iconst (-1), 1) := by decide +kernel
theorem dX11_water_14 : decode cX11_water 14 = .ok (.invokevirtual 229, 3) := by decide +kernel
theorem dX11_water_17 : decode cX11_water 17 = .ok (.ireturn, 1) := by decide +kernel
theorem dX11_water_18 : decode cX11_water 18 = .ok (.aload_n 0, 1) := by decide +kernel
theorem dX11_water_19 : decode cX11_water 19 = .ok (.getfield 44, 3) := by decide +kernel
theorem dX11_water_22 : decode cX11_water 22 = .ok (.iload_n 1, 1) := by decide +kernel
theorem dX11_water_23 : decode cX11_water 23 = .ok (.invokevirtual 209, 3) := by decide +kernel
theorem dX11_water_26 : decode cX11_water 26 = .ok (.ifCond .ne 10, 3) := by decide +kernel
theorem dX11_water_29 : decode cX11_water 29 = .ok (.aload_n 0, 1) := by decide +kernel
theorem dX11_water_30 : decode cX11_water 30 = .ok (.iconst 2, 1) := by decide +kernel
theorem dX11_water_31 : decode cX11_water 31 = .ok (.iconst (-1), 1) := by decide +kernel
theorem dX11_water_32 : decode cX11_water 32 = .ok (.invokevirtual 229, 3) := by decide +kernel
theorem dX11_water_35 : decode cX11_water 35 = .ok (.ireturn, 1) := by decide +kernel
theorem dX11_water_36 : decode cX11_water 36 = .ok (.aload_n 0, 1) := by decide +kernel
theorem dX11_water_37 : decode cX11_water 37 = .ok (.getfield 44, 3) := by decide +kernel
theorem dX11_water_40 : decode cX11_water 40 = .ok (.invokevirtual 159, 3) := by decide +kernel
theorem dX11_water_43 : decode cX11_water 43 = .ok (.iconst 5, 1) := by decide +kernel
theorem dX11_water_44 : decode cX11_water 44 = .ok (.if_icmp .ge 10, 3) := by decide +kernel
theorem dX11_water_47 : decode cX11_water 47 = .ok (.aload_n 0, 1) := by decide +kernel
theorem dX11_water_48 : decode cX11_water 48 = .ok (.iconst 4, 1) := by decide +kernel
theorem dX11_water_49 : decode cX11_water 49 = .ok (.iconst (-1), 1) := by decide +kernel
theorem dX11_water_50 : decode cX11_water 50 = .ok (.invokevirtual 229, 3) := by decide +kernel
theorem dX11_water_53 : decode cX11_water 53 = .ok (.ireturn, 1) := by decide +kernel
theorem dX11_water_54 : decode cX11_water 54 = .ok (.aload_n 0, 1) := by decide +kernel
theorem dX11_water_55 : decode cX11_water 55 = .ok (.getfield 54, 3) := by decide +kernel
theorem dX11_water_58 : decode cX11_water 58 = .ok (.aload_n 0, 1) := by decide +kernel
theorem dX11_water_59 : decode cX11_water 59 = .ok (.getfield 44, 3) := by decide +kernel
theorem dX11_water_62 : decode cX11_water 62 = .ok (.invokevirtual 239, 3) := by decide +kernel
theorem dX11_water_65 : decode cX11_water 65 = .ok (.aload_n 0, 1) := by decide +kernel
theorem dX11_water_66 : decode cX11_water 66 = .ok (.getfield 44, 3) := by decide +kernel
theorem dX11_water_69 : decode cX11_water 69 = .ok (.iconst 5, 1) := by decide +kernel
theorem dX11_water_70 : decode cX11_water 70 = .ok (.invokevirtual 250, 3) := by decide +kernel
theorem dX11_water_73 : decode cX11_water 73 = .ok (.aload_n 0, 1) := by decide +kernel
theorem dX11_water_74 : decode cX11_water 74 = .ok (.getfield 44, 3) := by decide +kernel
theorem dX11_water_77 : decode cX11_water 77 = .ok (.iload_n 1, 1) := by decide +kernel
theorem dX11_water_78 : decode cX11_water 78 = .ok (.invokevirtual 256, 3) := by decide +kernel
theorem dX11_water_81 : decode cX11_water 81 = .ok (.ireturn, 1) := by decide +kernel
theorem dX11_fill_0 : decode cX11_fill 0 = .ok (.aload_n 0, 1) := by decide +kernel
theorem dX11_fill_1 : decode cX11_fill 1 = .ok (.getfield 19, 3) := by decide +kernel
theorem dX11_fill_4 : decode cX11_fill 4 = .ok (.iload_n 1, 1) := by decide +kernel
theorem dX11_fill_5 : decode cX11_fill 5 = .ok (.invokevirtual 197, 3) := by decide +kernel
theorem dX11_fill_8 : decode cX11_fill 8 = .ok (.ifCond .ne 10, 3) := by decide +kernel
theorem dX11_fill_11 : decode cX11_fill 11 = .ok (.aload_n 0, 1) := by decide +kernel
theorem dX11_fill_12 : decode cX11_fill 12 = .ok (.iconst 0, 1) := by decide +kernel
theorem dX11_fill_13 : decode cX11_fill 13 = .ok (.iconst (-1), 1) := by decide +kernel
theorem dX11_fill_14 : decode cX11_fill 14 = .ok (.invokevirtual 229, 3) := by decide +kernel
theorem dX11_fill_17 : decode cX11_fill 17 = .ok (.ireturn, 1) := by decide +kernel
theorem dX11_fill_18 : decode cX11_fill 18 = .ok (.aload_n 0, 1) := by decide +kernel
theorem dX11_fill_19 : decode cX11_fill 19 = .ok (.getfield 44, 3) := by decide +kernel
theorem dX11_fill_22 : decode cX11_fill 22 = .ok (.iload_n 1, 1) := by decide +kernel
theorem dX11_fill_23 : decode cX11_fill 23 = .ok (.invokevirtual 200, 3) := by decide +kernel
theorem dX11_fill_26 : decode cX11_fill 26 = .ok (.bipush 30, 2) := by decide +kernel
theorem dX11_fill_28 : decode cX11_fill 28 = .ok (.if_icmp .lt 10, 3) := by decide +kernel
theorem dX11_fill_31 : decode cX11_fill 31 = .ok (.aload_n 0, 1) := by decide +kernel
theorem dX11_fill_32 : decode cX11_fill 32 = .ok (.iconst 2, 1) := by decide +kernel
theorem dX11_fill_33 : decode cX11_fill 33 = .ok (.iconst (-1), 1) := by decide +kernel
theorem dX11_fill_34 : decode cX11_fill 34 = .ok (.invokevirtual 229, 3) := by decide +kernel
theorem dX11_fill_37 : decode cX11_fill 37 = .ok (.ireturn, 1) := by decide +kernel
theorem dX11_fill_38 : decode cX11_fill 38 = .ok (.aload_n 0, 1) := by decide +kernel
theorem dX11_fill_39 : decode cX11_fill 39 = .ok (.getfield 44, 3) := by decide +kernel
theorem dX11_fill_42 : decode cX11_fill 42 = .ok (.invokevirtual 159, 3) := by decide +kernel
theorem dX11_fill_45 : decode cX11_fill 45 = .ok (.iconst 1, 1) := by decide +kernel
theorem dX11_fill_46 : decode cX11_fill 46 = .ok (.if_icmp .ge 10, 3) := by decide +kernel
theorem dX11_fill_49 : decode cX11_fill 49 = .ok (.aload_n 0, 1) := by decide +kernel
theorem dX11_fill_50 : decode cX11_fill 50 = .ok (.iconst 4, 1) := by decide +kernel
theorem dX11_fill_51 : decode cX11_fill 51 = .ok (.iconst (-1), 1) := by decide +kernel
theorem dX11_fill_52 : decode cX11_fill 52 = .ok (.invokevirtual 229, 3) := by decide +kernel
theorem dX11_fill_55 : decode cX11_fill 55 = .ok (.ireturn, 1) := by decide +kernel
theorem dX11_fill_56 : decode cX11_fill 56 = .ok (.aload_n 0, 1) := by decide +kernel
theorem dX11_fill_57 : decode cX11_fill 57 = .ok (.getfield 54, 3) := by decide +kernel
theorem dX11_fill_60 : decode cX11_fill 60 = .ok (.aload_n 0, 1) := by decide +kernel
theorem dX11_fill_61 : decode cX11_fill 61 = .ok (.getfield 44, 3) := by decide +kernel
theorem dX11_fill_64 : decode cX11_fill 64 = .ok (.invokevirtual 239, 3) := by decide +kernel
theorem dX11_fill_67 : decode cX11_fill 67 = .ok (.aload_n 0, 1) := by decide +kernel
theorem dX11_fill_68 : decode cX11_fill 68 = .ok (.getfield 44, 3) := by decide +kernel
theorem dX11_fill_71 : decode cX11_fill 71 = .ok (.iconst 1, 1) := by decide +kernel
theorem dX11_fill_72 : decode cX11_fill 72 = .ok (.invokevirtual 250, 3) := by decide +kernel
theorem dX11_fill_75 : decode cX11_fill 75 = .ok (.aload_n 0, 1) := by decide +kernel
theorem dX11_fill_76 : decode cX11_fill 76 = .ok (.getfield 44, 3) := by decide +kernel
theorem dX11_fill_79 : decode cX11_fill 79 = .ok (.iload_n 1, 1) := by decide +kernel
theorem dX11_fill_80 : decode cX11_fill 80 = .ok (.invokevirtual 259, 3) := by decide +kernel
theorem dX11_fill_83 : decode cX11_fill 83 = .ok (.aload_n 0, 1) := by decide +kernel
theorem dX11_fill_84 : decode cX11_fill 84 = .ok (.getfield 44, 3) := by decide +kernel
theorem dX11_fill_87 : decode cX11_fill 87 = .ok (.iload_n 1, 1) := by decide +kernel
theorem dX11_fill_88 : decode cX11_fill 88 = .ok (.invokevirtual 200, 3) := by decide +kernel
theorem dX11_fill_91 : decode cX11_fill 91 = .ok (.ireturn, 1) := by decide +kernel
theorem dX11_give_0 : decode cX11_give 0 = .ok (.aload_n 0, 1) := by decide +kernel
theorem dX11_give_1 : decode cX11_give 1 = .ok (.getfield 19, 3) := by decide +kernel
theorem dX11_give_4 : decode cX11_give 4 = .ok (.invokevirtual 152, 3) := by decide +kernel
theorem dX11_give_7 : decode cX11_give 7 = .ok (.ifCond .ne 10, 3) := by decide +kernel
theorem dX11_give_10 : decode cX11_give 10 = .ok (.aload_n 0, 1) := by decide +kernel
theorem dX11_give_11 : decode cX11_give 11 = .ok (.iconst 0, 1) := by decide +kernel
theorem dX11_give_12 : decode cX11_give 12 = .ok (.iconst (-1), 1) := by decide +kernel
theorem dX11_give_13 : decode cX11_give 13 = .ok (.invokevirtual 229, 3) := by decide +kernel
theorem dX11_give_16 : decode cX11_give 16 = .ok (.ireturn, 1) := by decide +kernel
theorem dX11_give_17 : decode cX11_give 17 = .ok (.iload_n 1, 1) := by decide +kernel
theorem dX11_give_18 : decode cX11_give 18 = .ok (.iconst 1, 1) := by decide +kernel
theorem dX11_give_19 : decode cX11_give 19 = .ok (.if_icmp .lt 24, 3) := by decide +kernel
theorem dX11_give_22 : decode cX11_give 22 = .ok (.iload_n 1, 1) := by decide +kernel
theorem dX11_give_23 : decode cX11_give 23 = .ok (.bipush 50, 2) := by decide +kernel
theorem dX11_give_25 : decode cX11_give 25 = .ok (.if_icmp .gt 18, 3) := by decide +kernel
theorem dX11_give_28 : decode cX11_give 28 = .ok (.aload_n 0, 1) := by decide +kernel
theorem dX11_give_29 : decode cX11_give 29 = .ok (.getfield 44, 3) := by decide +kernel
theorem dX11_give_32 : decode cX11_give 32 = .ok (.invokevirtual 159, 3) := by decide +kernel
theorem dX11_give_35 : decode cX11_give 35 = .ok (.iload_n 1, 1) := by decide +kernel
theorem dX11_give_36 : decode cX11_give 36 = .ok (.iadd, 1) := by decide +kernel
theorem dX11_give_37 : decode cX11_give 37 = .ok (.sipush 999, 3) := by decide +kernel
theorem dX11_give_40 : decode cX11_give 40 = .ok (.if_icmp .le 10, 3) := by decide +kernel
theorem dX11_give_43 : decode cX11_give 43 = .ok (.aload_n 0, 1) := by decide +kernel
theorem dX11_give_44 : decode cX11_give 44 = .ok (.iconst 1, 1) := by decide +kernel
theorem dX11_give_45 : decode cX11_give 45 = .ok (.iconst (-1), 1) := by decide +kernel
theorem dX11_give_46 : decode cX11_give 46 = .ok (.invokevirtual 229, 3) := by decide +kernel
theorem dX11_give_49 : decode cX11_give 49 = .ok (.ireturn, 1) := by decide +kernel
theorem dX11_give_50 : decode cX11_give 50 = .ok (.aload_n 0, 1) := by decide +kernel
theorem dX11_give_51 : decode cX11_give 51 = .ok (.getfield 54, 3) := by decide +kernel
theorem dX11_give_54 : decode cX11_give 54 = .ok (.aload_n 0, 1) := by decide +kernel
theorem dX11_give_55 : decode cX11_give 55 = .ok (.getfield 44, 3) := by decide +kernel
theorem dX11_give_58 : decode cX11_give 58 = .ok (.invokevirtual 239, 3) := by decide +kernel
theorem dX11_give_61 : decode cX11_give 61 = .ok (.aload_n 0, 1) := by decide +kernel
theorem dX11_give_62 : decode cX11_give 62 = .ok (.getfield 44, 3) := by decide +kernel
theorem dX11_give_65 : decode cX11_give 65 = .ok (.iload_n 1, 1) := by decide +kernel
theorem dX11_give_66 : decode cX11_give 66 = .ok (.invokevirtual 262, 3) := by decide +kernel
theorem dX11_give_69 : decode cX11_give 69 = .ok (.aload_n 0, 1) := by decide +kernel
theorem dX11_give_70 : decode cX11_give 70 = .ok (.getfield 44, 3) := by decide +kernel
theorem dX11_give_73 : decode cX11_give 73 = .ok (.invokevirtual 159, 3) := by decide +kernel
theorem dX11_give_76 : decode cX11_give 76 = .ok (.ireturn, 1) := by decide +kernel
theorem dX11_years_0 : decode cX11_years 0 = .ok (.aload_n 0, 1) := by decide +kernel
theorem dX11_years_1 : decode cX11_years 1 = .ok (.getfield 19, 3) := by decide +kernel
theorem dX11_years_4 : decode cX11_years 4 = .ok (.invokevirtual 152, 3) := by decide +kernel
theorem dX11_years_7 : decode cX11_years 7 = .ok (.ifCond .ne 10, 3) := by decide +kernel
theorem dX11_years_10 : decode cX11_years 10 = .ok (.aload_n 0, 1) := by decide +kernel
theorem dX11_years_11 : decode cX11_years 11 = .ok (.iconst 0, 1) := by decide +kernel
theorem dX11_years_12 : decode cX11_years 12 = .ok (.iconst (-1), 1) := by decide +kernel
theorem dX11_years_13 : decode cX11_years 13 = .ok (.invokevirtual 229, 3) := by decide +kernel
theorem dX11_years_16 : decode cX11_years 16 = .ok (.ireturn, 1) := by decide +kernel
theorem dX11_years_17 : decode cX11_years 17 = .ok (.iload_n 1, 1) := by decide +kernel
theorem dX11_years_18 : decode cX11_years 18 = .ok (.iconst 1, 1) := by decide +kernel
theorem dX11_years_19 : decode cX11_years 19 = .ok (.if_icmp .lt 9, 3) := by decide +kernel
theorem dX11_years_22 : decode cX11_years 22 = .ok (.iload_n 1, 1) := by decide +kernel
theorem dX11_years_23 : decode cX11_years 23 = .ok (.bipush 60, 2) := by decide +kernel
theorem dX11_years_25 : decode cX11_years 25 = .ok (.if_icmp .le 10, 3) := by decide +kernel
theorem dX11_years_28 : decode cX11_years 28 = .ok (.aload_n 0, 1) := by decide +kernel
theorem dX11_years_29 : decode cX11_years 29 = .ok (.iconst 1, 1) := by decide +kernel
theorem dX11_years_30 : decode cX11_years 30 = .ok (.iconst (-1), 1) := by decide +kernel
theorem dX11_years_31 : decode cX11_years 31 = .ok (.invokevirtual 229, 3) := by decide +kernel
theorem dX11_years_34 : decode cX11_years 34 = .ok (.ireturn, 1) := by decide +kernel
theorem dX11_years_35 : decode cX11_years 35 = .ok (.aload_n 0, 1) := by decide +kernel
theorem dX11_years_36 : decode cX11_years 36 = .ok (.getfield 44, 3) := by decide +kernel
theorem dX11_years_39 : decode cX11_years 39 = .ok (.invokevirtual 265, 3) := by decide +kernel
theorem dX11_years_42 : decode cX11_years 42 = .ok (.iload_n 1, 1) := by decide +kernel
theorem dX11_years_43 : decode cX11_years 43 = .ok (.iadd, 1) := by decide +kernel
theorem dX11_years_44 : decode cX11_years 44 = .ok (.sipush 999, 3) := by decide +kernel
theorem dX11_years_47 : decode cX11_years 47 = .ok (.if_icmp .le 10, 3) := by decide +kernel
theorem dX11_years_50 : decode cX11_years 50 = .ok (.aload_n 0, 1) := by decide +kernel
theorem dX11_years_51 : decode cX11_years 51 = .ok (.iconst 4, 1) := by decide +kernel
theorem dX11_years_52 : decode cX11_years 52 = .ok (.iconst (-1), 1) := by decide +kernel
theorem dX11_years_53 : decode cX11_years 53 = .ok (.invokevirtual 229, 3) := by decide +kernel
theorem dX11_years_56 : decode cX11_years 56 = .ok (.ireturn, 1) := by decide +kernel
theorem dX11_years_57 : decode cX11_years 57 = .ok (.iconst 0, 1) := by decide +kernel
theorem dX11_years_58 : decode cX11_years 58 = .ok (.istore_n 2, 1) := by decide +kernel
theorem dX11_years_59 : decode cX11_years 59 = .ok (.iload_n 2, 1) := by decide +kernel
theorem dX11_years_60 : decode cX11_years 60 = .ok (.iload_n 1, 1) := by decide +kernel
theorem dX11_years_61 : decode cX11_years 61 = .ok (.if_icmp .ge 34, 3) := by decide +kernel
theorem dX11_years_64 : decode cX11_years 64 = .ok (.aload_n 0, 1) := by decide +kernel
theorem dX11_years_65 : decode cX11_years 65 = .ok (.getfield 54, 3) := by decide +kernel
theorem dX11_years_68 : decode cX11_years 68 = .ok (.aload_n 0, 1) := by decide +kernel
theorem dX11_years_69 : decode cX11_years 69 = .ok (.getfield 44, 3) := by decide +kernel
theorem dX11_years_72 : decode cX11_years 72 = .ok (.invokevirtual 239, 3) := by decide +kernel
theorem dX11_years_75 : decode cX11_years 75 = .ok (.aload_n 0, 1) := by decide +kernel
theorem dX11_years_76 : decode cX11_years 76 = .ok (.getfield 44, 3) := by decide +kernel
theorem dX11_years_79 : decode cX11_years 79 = .ok (.aload_n 0, 1) := by decide +kernel
theorem dX11_years_80 : decode cX11_years 80 = .ok (.getfield 63, 3) := by decide +kernel
theorem dX11_years_83 : decode cX11_years 83 = .ok (.invokevirtual 268, 3) := by decide +kernel
theorem dX11_years_86 : decode cX11_years 86 = .ok (.invokevirtual 271, 3) := by decide +kernel
theorem dX11_years_89 : decode cX11_years 89 = .ok (.iinc 2 1, 3) := by decide +kernel
theorem dX11_years_92 : decode cX11_years 92 = .ok (.goto (-33), 3) := by decide +kernel
theorem dX11_years_95 : decode cX11_years 95 = .ok (.aload_n 0, 1) := by decide +kernel
theorem dX11_years_96 : decode cX11_years 96 = .ok (.getfield 44, 3) := by decide +kernel
theorem dX11_years_99 : decode cX11_years 99 = .ok (.invokevirtual 265, 3) := by decide +kernel
theorem dX11_years_102 : decode cX11_years 102 = .ok (.ireturn, 1) := by decide +kernel
theorem dX11_flies_0 : decode cX11_flies 0 = .ok (.iload_n 1, 1) := by decide +kernel
theorem dX11_flies_1 : decode cX11_flies 1 = .ok (.ifCond .lt 17, 3) := by decide +kernel
theorem dX11_flies_4 : decode cX11_flies 4 = .ok (.iload_n 1, 1) := by decide +kernel
theorem dX11_flies_5 : decode cX11_flies 5 = .ok (.bipush 9, 2) := by decide +kernel
theorem dX11_flies_7 : decode cX11_flies 7 = .ok (.if_icmp .gt 11, 3) := by decide +kernel
theorem dX11_flies_10 : decode cX11_flies 10 = .ok (.iload_n 1, 1) := by decide +kernel
theorem dX11_flies_11 : decode cX11_flies 11 = .ok (.aload_n 0, 1) := by decide +kernel
theorem dX11_flies_12 : decode cX11_flies 12 = .ok (.getfield 92, 3) := by decide +kernel
theorem dX11_flies_15 : decode cX11_flies 15 = .ok (.if_icmp .ne 5, 3) := by decide +kernel
theorem dX11_flies_18 : decode cX11_flies 18 = .ok (.iconst 0, 1) := by decide +kernel
theorem dX11_flies_19 : decode cX11_flies 19 = .ok (.ireturn, 1) := by decide +kernel
theorem dX11_flies_20 : decode cX11_flies 20 = .ok (.aload_n 0, 1) := by decide +kernel
theorem dX11_flies_21 : decode cX11_flies 21 = .ok (.iload_n 1, 1) := by decide +kernel
theorem dX11_flies_22 : decode cX11_flies 22 = .ok (.putfield 92, 3) := by decide +kernel
theorem dX11_flies_25 : decode cX11_flies 25 = .ok (.iconst 1, 1) := by decide +kernel
theorem dX11_flies_26 : decode cX11_flies 26 = .ok (.ireturn, 1) := by decide +kernel
theorem dX11_decades_0 : decode cX11_decades 0 = .ok (.aload_n 0, 1) := by decide +kernel
theorem dX11_decades_1 : decode cX11_decades 1 = .ok (.getfield 19, 3) := by decide +kernel
theorem dX11_decades_4 : decode cX11_decades 4 = .ok (.invokevirtual 152, 3) := by decide +kernel
theorem dX11_decades_7 : decode cX11_decades 7 = .ok (.ifCond .eq 29, 3) := by decide +kernel
theorem dX11_decades_10 : decode cX11_decades 10 = .ok (.iload_n 1, 1) := by decide +kernel
theorem dX11_decades_11 : decode cX11_decades 11 = .ok (.iconst 1, 1) := by decide +kernel
theorem dX11_decades_12 : decode cX11_decades 12 = .ok (.if_icmp .lt 24, 3) := by decide +kernel
theorem dX11_decades_15 : decode cX11_decades 15 = .ok (.iload_n 1, 1) := by decide +kernel
theorem dX11_decades_16 : decode cX11_decades 16 = .ok (.bipush 60, 2) := by decide +kernel
theorem dX11_decades_18 : decode cX11_decades 18 = .ok (.if_icmp .gt 18, 3) := by decide +kernel
theorem dX11_decades_21 : decode cX11_decades 21 = .ok (.aload_n 0, 1) := by decide +kernel
theorem dX11_decades_22 : decode cX11_decades 22 = .ok (.getfield 44, 3) := by decide +kernel
theorem dX11_decades_25 : decode cX11_decades 25 = .ok (.invokevirtual 265, 3) := by decide +kernel
theorem dX11_decades_28 : decode cX11_decades 28 = .ok (.iload_n 1, 1) := by decide +kernel
theorem dX11_decades_29 : decode cX11_decades 29 = .ok (.iadd, 1) := by decide +kernel
theorem dX11_decades_30 : decode cX11_decades 30 = .ok (.sipush 999, 3) := by decide +kernel
theorem dX11_decades_33 : decode cX11_decades 33 = .ok (.if_icmp .le 5, 3) := by decide +kernel
theorem dX11_decades_36 : decode cX11_decades 36 = .ok (.iconst (-1), 1) := by decide +kernel
theorem dX11_decades_37 : decode cX11_decades 37 = .ok (.ireturn, 1) := by decide +kernel
theorem dX11_decades_38 : decode cX11_decades 38 = .ok (.aload_n 0, 1) := by decide +kernel
theorem dX11_decades_39 : decode cX11_decades 39 = .ok (.lload_n 2, 1) := by decide +kernel
theorem dX11_decades_40 : decode cX11_decades 40 = .ok (.putfield 274, 3) := by decide +kernel
theorem dX11_decades_43 : decode cX11_decades 43 = .ok (.iconst 0, 1) := by decide +kernel
theorem dX11_decades_44 : decode cX11_decades 44 = .ok (.istore 4, 2) := by decide +kernel
theorem dX11_decades_46 : decode cX11_decades 46 = .ok (.iload 4, 2) := by decide +kernel
theorem dX11_decades_48 : decode cX11_decades 48 = .ok (.iload_n 1, 1) := by decide +kernel
theorem dX11_decades_49 : decode cX11_decades 49 = .ok (.if_icmp .ge 42, 3) := by decide +kernel
theorem dX11_decades_52 : decode cX11_decades 52 = .ok (.aload_n 0, 1) := by decide +kernel
theorem dX11_decades_53 : decode cX11_decades 53 = .ok (.getfield 54, 3) := by decide +kernel
theorem dX11_decades_56 : decode cX11_decades 56 = .ok (.aload_n 0, 1) := by decide +kernel
theorem dX11_decades_57 : decode cX11_decades 57 = .ok (.getfield 44, 3) := by decide +kernel
theorem dX11_decades_60 : decode cX11_decades 60 = .ok (.invokevirtual 239, 3) := by decide +kernel
theorem dX11_decades_63 : decode cX11_decades 63 = .ok (.aload_n 0, 1) := by decide +kernel
theorem dX11_decades_64 : decode cX11_decades 64 = .ok (.invokevirtual 278, 3) := by decide +kernel
theorem dX11_decades_67 : decode cX11_decades 67 = .ok (.aload_n 0, 1) := by decide +kernel
theorem dX11_decades_68 : decode cX11_decades 68 = .ok (.invokevirtual 281, 3) := by decide +kernel
theorem dX11_decades_71 : decode cX11_decades 71 = .ok (.aload_n 0, 1) := by decide +kernel
theorem dX11_decades_72 : decode cX11_decades 72 = .ok (.getfield 44, 3) := by decide +kernel
theorem dX11_decades_75 : decode cX11_decades 75 = .ok (.aload_n 0, 1) := by decide +kernel
theorem dX11_decades_76 : decode cX11_decades 76 = .ok (.getfield 63, 3) := by decide +kernel
theorem dX11_decades_79 : decode cX11_decades 79 = .ok (.invokevirtual 268, 3) := by decide +kernel
theorem dX11_decades_82 : decode cX11_decades 82 = .ok (.invokevirtual 271, 3) := by decide +kernel
theorem dX11_decades_85 : decode cX11_decades 85 = .ok (.iinc 4 1, 3) := by decide +kernel
theorem dX11_decades_88 : decode cX11_decades 88 = .ok (.goto (-42), 3) := by decide +kernel
theorem dX11_decades_91 : decode cX11_decades 91 = .ok (.aload_n 0, 1) := by decide +kernel
theorem dX11_decades_92 : decode cX11_decades 92 = .ok (.getfield 44, 3) := by decide +kernel
theorem dX11_decades_95 : decode cX11_decades 95 = .ok (.invokevirtual 265, 3) := by decide +kernel
theorem dX11_decades_98 : decode cX11_decades 98 = .ok (.ireturn, 1) := by decide +kernel
theorem dX11_dipByDraws_0 : decode cX11_dipByDraws 0 = .ok (.aload_n 0, 1) := by decide +kernel
theorem dX11_dipByDraws_1 : decode cX11_dipByDraws 1 = .ok (.aload_n 0, 1) := by decide +kernel
theorem dX11_dipByDraws_2 : decode cX11_dipByDraws 2 = .ok (.getfield 19, 3) := by decide +kernel
theorem dX11_dipByDraws_5 : decode cX11_dipByDraws 5 = .ok (.invokevirtual 139, 3) := by decide +kernel
theorem dX11_dipByDraws_8 : decode cX11_dipByDraws 8 = .ok (.invokevirtual 284, 3) := by decide +kernel
theorem dX11_dipByDraws_11 : decode cX11_dipByDraws 11 = .ok (.istore_n 1, 1) := by decide +kernel
theorem dX11_dipByDraws_12 : decode cX11_dipByDraws 12 = .ok (.aload_n 0, 1) := by decide +kernel
theorem dX11_dipByDraws_13 : decode cX11_dipByDraws 13 = .ok (.aload_n 0, 1) := by decide +kernel
theorem dX11_dipByDraws_14 : decode cX11_dipByDraws 14 = .ok (.getfield 19, 3) := by decide +kernel
theorem dX11_dipByDraws_17 : decode cX11_dipByDraws 17 = .ok (.invokevirtual 287, 3) := by decide +kernel
theorem dX11_dipByDraws_20 : decode cX11_dipByDraws 20 = .ok (.invokevirtual 284, 3) := by decide +kernel
theorem dX11_dipByDraws_23 : decode cX11_dipByDraws 23 = .ok (.istore_n 2, 1) := by decide +kernel
theorem dX11_dipByDraws_24 : decode cX11_dipByDraws 24 = .ok (.aload_n 0, 1) := by decide +kernel
theorem dX11_dipByDraws_25 : decode cX11_dipByDraws 25 = .ok (.getfield 44, 3) := by decide +kernel
theorem dX11_dipByDraws_28 : decode cX11_dipByDraws 28 = .ok (.iload_n 1, 1) := by decide +kernel
theorem dX11_dipByDraws_29 : decode cX11_dipByDraws 29 = .ok (.invokevirtual 232, 3) := by decide +kernel
theorem dX11_dipByDraws_32 : decode cX11_dipByDraws 32 = .ok (.ifCond .eq 24, 3) := by decide +kernel
theorem dX11_dipByDraws_35 : decode cX11_dipByDraws 35 = .ok (.aload_n 0, 1) := by decide +kernel
theorem dX11_dipByDraws_36 : decode cX11_dipByDraws 36 = .ok (.getfield 44, 3) := by decide +kernel
theorem dX11_dipByDraws_39 : decode cX11_dipByDraws 39 = .ok (.iload_n 2, 1) := by decide +kernel
theorem dX11_dipByDraws_40 : decode cX11_dipByDraws 40 = .ok (.iload_n 1, 1) := by decide +kernel
theorem dX11_dipByDraws_41 : decode cX11_dipByDraws 41 = .ok (.invokevirtual 235, 3) := by decide +kernel
theorem dX11_dipByDraws_44 : decode cX11_dipByDraws 44 = .ok (.ifCond .eq 12, 3) := by decide +kernel
theorem dX11_dipByDraws_47 : decode cX11_dipByDraws 47 = .ok (.aload_n 0, 1) := by decide +kernel
theorem dX11_dipByDraws_48 : decode cX11_dipByDraws 48 = .ok (.getfield 44, 3) := by decide +kernel
theorem dX11_dipByDraws_51 : decode cX11_dipByDraws 51 = .ok (.iload_n 1, 1) := by decide +kernel
theorem dX11_dipByDraws_52 : decode cX11_dipByDraws 52 = .ok (.iload_n 2, 1) := by decide +kernel
theorem dX11_dipByDraws_53 : decode cX11_dipByDraws 53 = .ok (.invokevirtual 243, 3) := by decide +kernel
theorem dX11_dipByDraws_56 : decode cX11_dipByDraws 56 = .ok (.return_, 1) := by decide +kernel
theorem dX11_scratchByDraws_0 : decode cX11_scratchByDraws 0 = .ok (.aload_n 0, 1) := by decide +kernel
theorem dX11_scratchByDraws_1 : decode cX11_scratchByDraws 1 = .ok (.bipush 10, 2) := by decide +kernel
theorem dX11_scratchByDraws_3 : decode cX11_scratchByDraws 3 = .ok (.invokevirtual 284, 3) := by decide +kernel
theorem dX11_scratchByDraws_6 : decode cX11_scratchByDraws 6 = .ok (.aload_n 0, 1) := by decide +kernel
theorem dX11_scratchByDraws_7 : decode cX11_scratchByDraws 7 = .ok (.getfield 92, 3) := by decide +kernel
theorem dX11_scratchByDraws_10 : decode cX11_scratchByDraws 10 = .ok (.if_icmp .ge 34, 3) := by decide +kernel
theorem dX11_scratchByDraws_13 : decode cX11_scratchByDraws 13 = .ok (.aload_n 0, 1) := by decide +kernel
theorem dX11_scratchByDraws_14 : decode cX11_scratchByDraws 14 = .ok (.aload_n 0, 1) := by decide +kernel
theorem dX11_scratchByDraws_15 : decode cX11_scratchByDraws 15 = .ok (.getfield 19, 3) := by decide +kernel
theorem dX11_scratchByDraws_18 : decode cX11_scratchByDraws 18 = .ok (.invokevirtual 287, 3) := by decide +kernel
theorem dX11_scratchByDraws_21 : decode cX11_scratchByDraws 21 = .ok (.invokevirtual 284, 3) := by decide +kernel
theorem dX11_scratchByDraws_24 : decode cX11_scratchByDraws 24 = .ok (.istore_n 1, 1) := by decide +kernel
theorem dX11_scratchByDraws_25 : decode cX11_scratchByDraws 25 = .ok (.aload_n 0, 1) := by decide +kernel
theorem dX11_scratchByDraws_26 : decode cX11_scratchByDraws 26 = .ok (.bipush 9, 2) := by decide +kernel
theorem dX11_scratchByDraws_28 : decode cX11_scratchByDraws 28 = .ok (.invokevirtual 284, 3) := by decide +kernel
theorem dX11_scratchByDraws_31 : decode cX11_scratchByDraws 31 = .ok (.iconst 1, 1) := by decide +kernel
theorem dX11_scratchByDraws_32 : decode cX11_scratchByDraws 32 = .ok (.iadd, 1) := by decide +kernel
theorem dX11_scratchByDraws_33 : decode cX11_scratchByDraws 33 = .ok (.istore_n 2, 1) := by decide +kernel
theorem dX11_scratchByDraws_34 : decode cX11_scratchByDraws 34 = .ok (.aload_n 0, 1) := by decide +kernel
theorem dX11_scratchByDraws_35 : decode cX11_scratchByDraws 35 = .ok (.getfield 44, 3) := by decide +kernel
theorem dX11_scratchByDraws_38 : decode cX11_scratchByDraws 38 = .ok (.iload_n 1, 1) := by decide +kernel
theorem dX11_scratchByDraws_39 : decode cX11_scratchByDraws 39 = .ok (.iload_n 2, 1) := by decide +kernel
theorem dX11_scratchByDraws_40 : decode cX11_scratchByDraws 40 = .ok (.invokevirtual 247, 3) := by decide +kernel
theorem dX11_scratchByDraws_43 : decode cX11_scratchByDraws 43 = .ok (.pop, 1) := by decide +kernel
theorem dX11_scratchByDraws_44 : decode cX11_scratchByDraws 44 = .ok (.return_, 1) := by decide +kernel
theorem dX11_draw_0 : decode cX11_draw 0 = .ok (.aload_n 0, 1) := by decide +kernel
theorem dX11_draw_1 : decode cX11_draw 1 = .ok (.aload_n 0, 1) := by decide +kernel
theorem dX11_draw_2 : decode cX11_draw 2 = .ok (.getfield 274, 3) := by decide +kernel
theorem dX11_draw_5 : decode cX11_draw 5 = .ok (.ldc2_w 290, 3) := by decide +kernel
theorem dX11_draw_8 : decode cX11_draw 8 = .ok (.lmul, 1) := by decide +kernel
theorem dX11_draw_9 : decode cX11_draw 9 = .ok (.ldc2_w 292, 3) := by decide +kernel
theorem dX11_draw_12 : decode cX11_draw 12 = .ok (.ladd, 1) := by decide +kernel
theorem dX11_draw_13 : decode cX11_draw 13 = .ok (.putfield 274, 3) := by decide +kernel
theorem dX11_draw_16 : decode cX11_draw 16 = .ok (.iload_n 1, 1) := by decide +kernel
theorem dX11_draw_17 : decode cX11_draw 17 = .ok (.ifCond .le 17, 3) := by decide +kernel
theorem dX11_draw_20 : decode cX11_draw 20 = .ok (.aload_n 0, 1) := by decide +kernel
theorem dX11_draw_21 : decode cX11_draw 21 = .ok (.getfield 274, 3) := by decide +kernel
theorem dX11_draw_24 : decode cX11_draw 24 = .ok (.bipush 33, 2) := by decide +kernel
theorem dX11_draw_26 : decode cX11_draw 26 = .ok (.lushr, 1) := by decide +kernel
theorem dX11_draw_27 : decode cX11_draw 27 = .ok (.iload_n 1, 1) := by decide +kernel
theorem dX11_draw_28 : decode cX11_draw 28 = .ok (.i2l, 1) := by decide +kernel
theorem dX11_draw_29 : decode cX11_draw 29 = .ok (.lrem, 1) := by decide +kernel
theorem dX11_draw_30 : decode cX11_draw 30 = .ok (.l2i, 1) := by decide +kernel
theorem dX11_draw_31 : decode cX11_draw 31 = .ok (.goto 4, 3) := by decide +kernel
theorem dX11_draw_34 : decode cX11_draw 34 = .ok (.iconst 0, 1) := by decide +kernel
theorem dX11_draw_35 : decode cX11_draw 35 = .ok (.ireturn, 1) := by decide +kernel
theorem dX11_status_0 : decode cX11_status 0 = .ok (.iload_n 1, 1) := by decide +kernel
theorem dX11_status_1 : decode cX11_status 1 = .ok (.ifCond .lt 12, 3) := by decide +kernel
theorem dX11_status_4 : decode cX11_status 4 = .ok (.iload_n 1, 1) := by decide +kernel
theorem dX11_status_5 : decode cX11_status 5 = .ok (.aload_n 0, 1) := by decide +kernel
theorem dX11_status_6 : decode cX11_status 6 = .ok (.getfield 88, 3) := by decide +kernel
theorem dX11_status_9 : decode cX11_status 9 = .ok (.arraylength, 1) := by decide +kernel
theorem dX11_status_10 : decode cX11_status 10 = .ok (.if_icmp .lt 7, 3) := by decide +kernel
theorem dX11_status_13 : decode cX11_status 13 = .ok (.iconst (-1), 1) := by decide +kernel
theorem dX11_status_14 : decode cX11_status 14 = .ok (.goto 9, 3) := by decide +kernel
theorem dX11_status_17 : decode cX11_status 17 = .ok (.aload_n 0, 1) := by decide +kernel
theorem dX11_status_18 : decode cX11_status 18 = .ok (.getfield 88, 3) := by decide +kernel
theorem dX11_status_21 : decode cX11_status 21 = .ok (.iload_n 1, 1) := by decide +kernel
theorem dX11_status_22 : decode cX11_status 22 = .ok (.iaload, 1) := by decide +kernel
theorem dX11_status_23 : decode cX11_status 23 = .ok (.ireturn, 1) := by decide +kernel
theorem dX11_refuse_0 : decode cX11_refuse 0 = .ok (.iload_n 1, 1) := by decide +kernel
theorem dX11_refuse_1 : decode cX11_refuse 1 = .ok (.ifCond .lt 22, 3) := by decide +kernel
theorem dX11_refuse_4 : decode cX11_refuse 4 = .ok (.iload_n 1, 1) := by decide +kernel
theorem dX11_refuse_5 : decode cX11_refuse 5 = .ok (.aload_n 0, 1) := by decide +kernel
theorem dX11_refuse_6 : decode cX11_refuse 6 = .ok (.getfield 88, 3) := by decide +kernel
theorem dX11_refuse_9 : decode cX11_refuse 9 = .ok (.arraylength, 1) := by decide +kernel
theorem dX11_refuse_10 : decode cX11_refuse 10 = .ok (.if_icmp .ge 13, 3) := by decide +kernel
theorem dX11_refuse_13 : decode cX11_refuse 13 = .ok (.aload_n 0, 1) := by decide +kernel
theorem dX11_refuse_14 : decode cX11_refuse 14 = .ok (.getfield 88, 3) := by decide +kernel
theorem dX11_refuse_17 : decode cX11_refuse 17 = .ok (.iload_n 1, 1) := by decide +kernel
theorem dX11_refuse_18 : decode cX11_refuse 18 = .ok (.dup2, 1) := by decide +kernel
theorem dX11_refuse_19 : decode cX11_refuse 19 = .ok (.iaload, 1) := by decide +kernel
theorem dX11_refuse_20 : decode cX11_refuse 20 = .ok (.iconst 1, 1) := by decide +kernel
theorem dX11_refuse_21 : decode cX11_refuse 21 = .ok (.iadd, 1) := by decide +kernel
theorem dX11_refuse_22 : decode cX11_refuse 22 = .ok (.iastore, 1) := by decide +kernel
theorem dX11_refuse_23 : decode cX11_refuse 23 = .ok (.iload_n 2, 1) := by decide +kernel
theorem dX11_refuse_24 : decode cX11_refuse 24 = .ok (.ireturn, 1) := by decide +kernel
theorem dX11_undo_0 : decode cX11_undo 0 = .ok (.aload_n 0, 1) := by decide +kernel
theorem dX11_undo_1 : decode cX11_undo 1 = .ok (.getfield 54, 3) := by decide +kernel
theorem dX11_undo_4 : decode cX11_undo 4 = .ok (.aload_n 0, 1) := by decide +kernel
theorem dX11_undo_5 : decode cX11_undo 5 = .ok (.getfield 44, 3) := by decide +kernel
theorem dX11_undo_8 : decode cX11_undo 8 = .ok (.invokevirtual 294, 3) := by decide +kernel
theorem dX11_undo_11 : decode cX11_undo 11 = .ok (.ifCond .eq 13, 3) := by decide +kernel
theorem dX11_undo_14 : decode cX11_undo 14 = .ok (.aload_n 0, 1) := by decide +kernel
theorem dX11_undo_15 : decode cX11_undo 15 = .ok (.getfield 54, 3) := by decide +kernel
theorem dX11_undo_18 : decode cX11_undo 18 = .ok (.invokevirtual 298, 3) := by decide +kernel
theorem dX11_undo_21 : decode cX11_undo 21 = .ok (.goto 4, 3) := by decide +kernel
theorem dX11_undo_24 : decode cX11_undo 24 = .ok (.iconst (-1), 1) := by decide +kernel
theorem dX11_undo_25 : decode cX11_undo 25 = .ok (.ireturn, 1) := by decide +kernel
theorem dX11_log_0 : decode cX11_log 0 = .ok (.iload_n 1, 1) := by decide +kernel
theorem dX11_log_1 : decode cX11_log 1 = .ok (.ifCond .lt 14, 3) := by decide +kernel
theorem dX11_log_4 : decode cX11_log 4 = .ok (.iload_n 1, 1) := by decide +kernel
theorem dX11_log_5 : decode cX11_log 5 = .ok (.aload_n 0, 1) := by decide +kernel
theorem dX11_log_6 : decode cX11_log 6 = .ok (.getfield 44, 3) := by decide +kernel
theorem dX11_log_9 : decode cX11_log 9 = .ok (.invokevirtual 301, 3) := by decide +kernel
theorem dX11_log_12 : decode cX11_log 12 = .ok (.if_icmp .lt 5, 3) := by decide +kernel
theorem dX11_log_15 : decode cX11_log 15 = .ok (.iconst (-1), 1) := by decide +kernel
theorem dX11_log_16 : decode cX11_log 16 = .ok (.ireturn, 1) := by decide +kernel
theorem dX11_log_17 : decode cX11_log 17 = .ok (.iload_n 2, 1) := by decide +kernel
theorem dX11_log_18 : decode cX11_log 18 = .ok (.lookupswitch 44 #[(0, 26), (1, 35)], 26) := by decide +kernel
theorem dX11_log_44 : decode cX11_log 44 = .ok (.aload_n 0, 1) := by decide +kernel
theorem dX11_log_45 : decode cX11_log 45 = .ok (.getfield 44, 3) := by decide +kernel
theorem dX11_log_48 : decode cX11_log 48 = .ok (.iload_n 1, 1) := by decide +kernel
theorem dX11_log_49 : decode cX11_log 49 = .ok (.invokevirtual 304, 3) := by decide +kernel
theorem dX11_log_52 : decode cX11_log 52 = .ok (.ireturn, 1) := by decide +kernel
theorem dX11_log_53 : decode cX11_log 53 = .ok (.aload_n 0, 1) := by decide +kernel
theorem dX11_log_54 : decode cX11_log 54 = .ok (.getfield 44, 3) := by decide +kernel
theorem dX11_log_57 : decode cX11_log 57 = .ok (.iload_n 1, 1) := by decide +kernel
theorem dX11_log_58 : decode cX11_log 58 = .ok (.invokevirtual 307, 3) := by decide +kernel
theorem dX11_log_61 : decode cX11_log 61 = .ok (.ireturn, 1) := by decide +kernel
theorem dX11_log_62 : decode cX11_log 62 = .ok (.iconst (-1), 1) := by decide +kernel
theorem dX11_log_63 : decode cX11_log 63 = .ok (.ireturn, 1) := by decide +kernel
theorem dX11_layer_0 : decode cX11_layer 0 = .ok (.aload_n 0, 1) := by decide +kernel
theorem dX11_layer_1 : decode cX11_layer 1 = .ok (.getfield 19, 3) := by decide +kernel
theorem dX11_layer_4 : decode cX11_layer 4 = .ok (.iload_n 1, 1) := by decide +kernel
theorem dX11_layer_5 : decode cX11_layer 5 = .ok (.invokevirtual 197, 3) := by decide +kernel
theorem dX11_layer_8 : decode cX11_layer 8 = .ok (.ifCond .eq 15, 3) := by decide +kernel
theorem dX11_layer_11 : decode cX11_layer 11 = .ok (.aload_n 0, 1) := by decide +kernel
theorem dX11_layer_12 : decode cX11_layer 12 = .ok (.getfield 44, 3) := by decide +kernel
theorem dX11_layer_15 : decode cX11_layer 15 = .ok (.iload_n 1, 1) := by decide +kernel
theorem dX11_layer_16 : decode cX11_layer 16 = .ok (.iload_n 2, 1) := by decide +kernel
theorem dX11_layer_17 : decode cX11_layer 17 = .ok (.invokevirtual 310, 3) := by decide +kernel
theorem dX11_layer_20 : decode cX11_layer 20 = .ok (.goto 4, 3) := by decide +kernel
theorem dX11_layer_23 : decode cX11_layer 23 = .ok (.iconst (-1), 1) := by decide +kernel
theorem dX11_layer_24 : decode cX11_layer 24 = .ok (.ireturn, 1) := by decide +kernel
theorem dX11_reach_0 : decode cX11_reach 0 = .ok (.aload_n 0, 1) := by decide +kernel
theorem dX11_reach_1 : decode cX11_reach 1 = .ok (.getfield 19, 3) := by decide +kernel
theorem dX11_reach_4 : decode cX11_reach 4 = .ok (.iload_n 1, 1) := by decide +kernel
theorem dX11_reach_5 : decode cX11_reach 5 = .ok (.invokevirtual 162, 3) := by decide +kernel
theorem dX11_reach_8 : decode cX11_reach 8 = .ok (.ifCond .eq 14, 3) := by decide +kernel
theorem dX11_reach_11 : decode cX11_reach 11 = .ok (.aload_n 0, 1) := by decide +kernel
theorem dX11_reach_12 : decode cX11_reach 12 = .ok (.getfield 84, 3) := by decide +kernel
theorem dX11_reach_15 : decode cX11_reach 15 = .ok (.iload_n 1, 1) := by decide +kernel
theorem dX11_reach_16 : decode cX11_reach 16 = .ok (.invokevirtual 313, 3) := by decide +kernel
theorem dX11_reach_19 : decode cX11_reach 19 = .ok (.goto 4, 3) := by decide +kernel
theorem dX11_reach_22 : decode cX11_reach 22 = .ok (.iconst (-1), 1) := by decide +kernel
theorem dX11_reach_23 : decode cX11_reach 23 = .ok (.ireturn, 1) := by decide +kernel
theorem dX11_faction_0 : decode cX11_faction 0 = .ok (.iload_n 1, 1) := by decide +kernel
theorem dX11_faction_1 : decode cX11_faction 1 = .ok (.ifCond .le 37, 3) := by decide +kernel
theorem dX11_faction_4 : decode cX11_faction 4 = .ok (.iload_n 1, 1) := by decide +kernel
theorem dX11_faction_5 : decode cX11_faction 5 = .ok (.aload_n 0, 1) := by decide +kernel
theorem dX11_faction_6 : decode cX11_faction 6 = .ok (.getfield 19, 3) := by decide +kernel
theorem dX11_faction_9 : decode cX11_faction 9 = .ok (.invokevirtual 316, 3) := by decide +kernel
theorem dX11_faction_12 : decode cX11_faction 12 = .ok (.if_icmp .gt 26, 3) := by decide +kernel
theorem dX11_faction_15 : decode cX11_faction 15 = .ok (.iload_n 1, 1) := by decide +kernel
theorem dX11_faction_16 : decode cX11_faction 16 = .ok (.aload_n 0, 1) := by decide +kernel
theorem dX11_faction_17 : decode cX11_faction 17 = .ok (.getfield 44, 3) := by decide +kernel
theorem dX11_faction_20 : decode cX11_faction 20 = .ok (.invokevirtual 185, 3) := by decide +kernel
theorem dX11_faction_23 : decode cX11_faction 23 = .ok (.iand, 1) := by decide +kernel
theorem dX11_faction_24 : decode cX11_faction 24 = .ok (.ifCond .ne 14, 3) := by decide +kernel
theorem dX11_faction_27 : decode cX11_faction 27 = .ok (.aload_n 0, 1) := by decide +kernel
theorem dX11_faction_28 : decode cX11_faction 28 = .ok (.getfield 70, 3) := by decide +kernel
theorem dX11_faction_31 : decode cX11_faction 31 = .ok (.iload_n 1, 1) := by decide +kernel
theorem dX11_faction_32 : decode cX11_faction 32 = .ok (.invokevirtual 319, 3) := by decide +kernel
theorem dX11_faction_35 : decode cX11_faction 35 = .ok (.ifCond .ne 5, 3) := by decide +kernel
theorem dX11_faction_38 : decode cX11_faction 38 = .ok (.iconst (-1), 1) := by decide +kernel
theorem dX11_faction_39 : decode cX11_faction 39 = .ok (.ireturn, 1) := by decide +kernel
theorem dX11_faction_40 : decode cX11_faction 40 = .ok (.iload_n 2, 1) := by decide +kernel
theorem dX11_faction_41 : decode cX11_faction 41 = .ok (.lookupswitch 43 #[(0, 27), (1, 35)], 27) := by decide +kernel
theorem dX11_faction_68 : decode cX11_faction 68 = .ok (.aload_n 0, 1) := by decide +kernel
theorem dX11_faction_69 : decode cX11_faction 69 = .ok (.getfield 70, 3) := by decide +kernel
theorem dX11_faction_72 : decode cX11_faction 72 = .ok (.invokevirtual 322, 3) := by decide +kernel
theorem dX11_faction_75 : decode cX11_faction 75 = .ok (.ireturn, 1) := by decide +kernel
theorem dX11_faction_76 : decode cX11_faction 76 = .ok (.aload_n 0, 1) := by decide +kernel
theorem dX11_faction_77 : decode cX11_faction 77 = .ok (.getfield 70, 3) := by decide +kernel
theorem dX11_faction_80 : decode cX11_faction 80 = .ok (.invokevirtual 325, 3) := by decide +kernel
theorem dX11_faction_83 : decode cX11_faction 83 = .ok (.ireturn, 1) := by decide +kernel
theorem dX11_faction_84 : decode cX11_faction 84 = .ok (.iconst (-1), 1) := by decide +kernel
theorem dX11_faction_85 : decode cX11_faction 85 = .ok (.ireturn, 1) := by decide +kernel
theorem dX11_silence_0 : decode cX11_silence 0 = .ok (.aload_n 0, 1) := by decide +kernel
theorem dX11_silence_1 : decode cX11_silence 1 = .ok (.getfield 19, 3) := by decide +kernel
theorem dX11_silence_4 : decode cX11_silence 4 = .ok (.invokevirtual 152, 3) := by decide +kernel
theorem dX11_silence_7 : decode cX11_silence 7 = .ok (.ifCond .eq 18, 3) := by decide +kernel
theorem dX11_silence_10 : decode cX11_silence 10 = .ok (.iload_n 1, 1) := by decide +kernel
theorem dX11_silence_11 : decode cX11_silence 11 = .ok (.ifCond .lt 14, 3) := by decide +kernel
theorem dX11_silence_14 : decode cX11_silence 14 = .ok (.iload_n 1, 1) := by decide +kernel
theorem dX11_silence_15 : decode cX11_silence 15 = .ok (.aload_n 0, 1) := by decide +kernel
theorem dX11_silence_16 : decode cX11_silence 16 = .ok (.getfield 19, 3) := by decide +kernel
theorem dX11_silence_19 : decode cX11_silence 19 = .ok (.invokevirtual 316, 3) := by decide +kernel
theorem dX11_silence_22 : decode cX11_silence 22 = .ok (.if_icmp .le 5, 3) := by decide +kernel
theorem dX11_silence_25 : decode cX11_silence 25 = .ok (.iconst (-1), 1) := by decide +kernel
theorem dX11_silence_26 : decode cX11_silence 26 = .ok (.ireturn, 1) := by decide +kernel
theorem dX11_silence_27 : decode cX11_silence 27 = .ok (.aload_n 0, 1) := by decide +kernel
theorem dX11_silence_28 : decode cX11_silence 28 = .ok (.getfield 70, 3) := by decide +kernel
theorem dX11_silence_31 : decode cX11_silence 31 = .ok (.iload_n 1, 1) := by decide +kernel
theorem dX11_silence_32 : decode cX11_silence 32 = .ok (.aload_n 0, 1) := by decide +kernel
theorem dX11_silence_33 : decode cX11_silence 33 = .ok (.getfield 44, 3) := by decide +kernel
theorem dX11_silence_36 : decode cX11_silence 36 = .ok (.invokevirtual 185, 3) := by decide +kernel
theorem dX11_silence_39 : decode cX11_silence 39 = .ok (.ior, 1) := by decide +kernel
theorem dX11_silence_40 : decode cX11_silence 40 = .ok (.invokevirtual 328, 3) := by decide +kernel
theorem dX11_silence_43 : decode cX11_silence 43 = .ok (.ireturn, 1) := by decide +kernel
theorem dX11_seen_0 : decode cX11_seen 0 = .ok (.aload_n 0, 1) := by decide +kernel
theorem dX11_seen_1 : decode cX11_seen 1 = .ok (.getfield 77, 3) := by decide +kernel
theorem dX11_seen_4 : decode cX11_seen 4 = .ok (.iload_n 1, 1) := by decide +kernel
theorem dX11_seen_5 : decode cX11_seen 5 = .ok (.iload_n 2, 1) := by decide +kernel
theorem dX11_seen_6 : decode cX11_seen 6 = .ok (.invokevirtual 331, 3) := by decide +kernel
theorem dX11_seen_9 : decode cX11_seen 9 = .ok (.ireturn, 1) := by decide +kernel
theorem dX11_gone_0 : decode cX11_gone 0 = .ok (.aload_n 0, 1) := by decide +kernel
theorem dX11_gone_1 : decode cX11_gone 1 = .ok (.getfield 77, 3) := by decide +kernel
theorem dX11_gone_4 : decode cX11_gone 4 = .ok (.iload_n 1, 1) := by decide +kernel
theorem dX11_gone_5 : decode cX11_gone 5 = .ok (.invokevirtual 334, 3) := by decide +kernel
theorem dX11_gone_8 : decode cX11_gone 8 = .ok (.ifCond .ne 5, 3) := by decide +kernel
theorem dX11_gone_11 : decode cX11_gone 11 = .ok (.iconst (-1), 1) := by decide +kernel
theorem dX11_gone_12 : decode cX11_gone 12 = .ok (.ireturn, 1) := by decide +kernel
theorem dX11_gone_13 : decode cX11_gone 13 = .ok (.iload_n 2, 1) := by decide +kernel
theorem dX11_gone_14 : decode cX11_gone 14 = .ok (.iconst (-1), 1) := by decide +kernel
theorem dX11_gone_15 : decode cX11_gone 15 = .ok (.if_icmp .ne 14, 3) := by decide +kernel
theorem dX11_gone_18 : decode cX11_gone 18 = .ok (.aload_n 0, 1) := by decide +kernel
theorem dX11_gone_19 : decode cX11_gone 19 = .ok (.getfield 77, 3) := by decide +kernel
theorem dX11_gone_22 : decode cX11_gone 22 = .ok (.iload_n 1, 1) := by decide +kernel
theorem dX11_gone_23 : decode cX11_gone 23 = .ok (.invokevirtual 337, 3) := by decide +kernel
theorem dX11_gone_26 : decode cX11_gone 26 = .ok (.goto 12, 3) := by decide +kernel
theorem dX11_gone_29 : decode cX11_gone 29 = .ok (.aload_n 0, 1) := by decide +kernel
theorem dX11_gone_30 : decode cX11_gone 30 = .ok (.getfield 77, 3) := by decide +kernel
theorem dX11_gone_33 : decode cX11_gone 33 = .ok (.iload_n 1, 1) := by decide +kernel
theorem dX11_gone_34 : decode cX11_gone 34 = .ok (.iload_n 2, 1) := by decide +kernel
theorem dX11_gone_35 : decode cX11_gone 35 = .ok (.invokevirtual 340, 3) := by decide +kernel
theorem dX11_gone_38 : decode cX11_gone 38 = .ok (.ireturn, 1) := by decide +kernel
theorem dX11_sure_0 : decode cX11_sure 0 = .ok (.aload_n 0, 1) := by decide +kernel
theorem dX11_sure_1 : decode cX11_sure 1 = .ok (.getfield 77, 3) := by decide +kernel
theorem dX11_sure_4 : decode cX11_sure 4 = .ok (.iload_n 1, 1) := by decide +kernel
theorem dX11_sure_5 : decode cX11_sure 5 = .ok (.invokevirtual 334, 3) := by decide +kernel
theorem dX11_sure_8 : decode cX11_sure 8 = .ok (.ifCond .eq 14, 3) := by decide +kernel
theorem dX11_sure_11 : decode cX11_sure 11 = .ok (.aload_n 0, 1) := by decide +kernel
theorem dX11_sure_12 : decode cX11_sure 12 = .ok (.getfield 77, 3) := by decide +kernel
theorem dX11_sure_15 : decode cX11_sure 15 = .ok (.iload_n 1, 1) := by decide +kernel
theorem dX11_sure_16 : decode cX11_sure 16 = .ok (.invokevirtual 343, 3) := by decide +kernel
theorem dX11_sure_19 : decode cX11_sure 19 = .ok (.goto 4, 3) := by decide +kernel
theorem dX11_sure_22 : decode cX11_sure 22 = .ok (.iconst (-1), 1) := by decide +kernel
theorem dX11_sure_23 : decode cX11_sure 23 = .ok (.ireturn, 1) := by decide +kernel
theorem dX11_ask_0 : decode cX11_ask 0 = .ok (.aload_n 0, 1) := by decide +kernel
theorem dX11_ask_1 : decode cX11_ask 1 = .ok (.getfield 77, 3) := by decide +kernel
theorem dX11_ask_4 : decode cX11_ask 4 = .ok (.iload_n 1, 1) := by decide +kernel
theorem dX11_ask_5 : decode cX11_ask 5 = .ok (.invokevirtual 334, 3) := by decide +kernel
theorem dX11_ask_8 : decode cX11_ask 8 = .ok (.ifCond .eq 25, 3) := by decide +kernel
theorem dX11_ask_11 : decode cX11_ask 11 = .ok (.aload_n 0, 1) := by decide +kernel
theorem dX11_ask_12 : decode cX11_ask 12 = .ok (.getfield 77, 3) := by decide +kernel
theorem dX11_ask_15 : decode cX11_ask 15 = .ok (.iload_n 1, 1) := by decide +kernel
theorem dX11_ask_16 : decode cX11_ask 16 = .ok (.invokevirtual 337, 3) := by decide +kernel
theorem dX11_ask_19 : decode cX11_ask 19 = .ok (.ifCond .le 14, 3) := by decide +kernel
theorem dX11_ask_22 : decode cX11_ask 22 = .ok (.aload_n 0, 1) := by decide +kernel
theorem dX11_ask_23 : decode cX11_ask 23 = .ok (.getfield 77, 3) := by decide +kernel
theorem dX11_ask_26 : decode cX11_ask 26 = .ok (.iload_n 1, 1) := by decide +kernel
theorem dX11_ask_27 : decode cX11_ask 27 = .ok (.invokevirtual 346, 3) := by decide +kernel
theorem dX11_ask_30 : decode cX11_ask 30 = .ok (.goto 4, 3) := by decide +kernel
theorem dX11_ask_33 : decode cX11_ask 33 = .ok (.iconst (-1), 1) := by decide +kernel
theorem dX11_ask_34 : decode cX11_ask 34 = .ok (.ireturn, 1) := by decide +kernel
theorem dX11_game_0 : decode cX11_game 0 = .ok (.aload_n 0, 1) := by decide +kernel
theorem dX11_game_1 : decode cX11_game 1 = .ok (.iload_n 1, 1) := by decide +kernel
theorem dX11_game_2 : decode cX11_game 2 = .ok (.iload_n 2, 1) := by decide +kernel
theorem dX11_game_3 : decode cX11_game 3 = .ok (.iload_n 3, 1) := by decide +kernel
theorem dX11_game_4 : decode cX11_game 4 = .ok (.invokevirtual 349, 3) := by decide +kernel
theorem dX11_game_7 : decode cX11_game 7 = .ok (.ifCond .eq 27, 3) := by decide +kernel
theorem dX11_game_10 : decode cX11_game 10 = .ok (.iload 4, 2) := by decide +kernel
theorem dX11_game_12 : decode cX11_game 12 = .ok (.ifCond .lt 22, 3) := by decide +kernel
theorem dX11_game_15 : decode cX11_game 15 = .ok (.iload 4, 2) := by decide +kernel
theorem dX11_game_17 : decode cX11_game 17 = .ok (.bipush 9, 2) := by decide +kernel
theorem dX11_game_19 : decode cX11_game 19 = .ok (.if_icmp .gt 15, 3) := by decide +kernel
theorem dX11_game_22 : decode cX11_game 22 = .ok (.iload 5, 2) := by decide +kernel
theorem dX11_game_24 : decode cX11_game 24 = .ok (.ifCond .lt 10, 3) := by decide +kernel
theorem dX11_game_27 : decode cX11_game 27 = .ok (.iload 5, 2) := by decide +kernel
theorem dX11_game_29 : decode cX11_game 29 = .ok (.bipush 9, 2) := by decide +kernel
theorem dX11_game_31 : decode cX11_game 31 = .ok (.if_icmp .le 7, 3) := by decide +kernel
theorem dX11_game_34 : decode cX11_game 34 = .ok (.ldc_w 353, 3) := by decide +kernel
theorem dX11_game_37 : decode cX11_game 37 = .ok (.ireturn, 1) := by decide +kernel
theorem dX11_game_38 : decode cX11_game 38 = .ok (.aload_n 0, 1) := by decide +kernel
theorem dX11_game_39 : decode cX11_game 39 = .ok (.getfield 84, 3) := by decide +kernel
theorem dX11_game_42 : decode cX11_game 42 = .ok (.iload_n 3, 1) := by decide +kernel
theorem dX11_game_43 : decode cX11_game 43 = .ok (.invokevirtual 354, 3) := by decide +kernel
theorem dX11_game_46 : decode cX11_game 46 = .ok (.iload 6, 2) := by decide +kernel
theorem dX11_game_48 : decode cX11_game 48 = .ok (.lookupswitch 54 #[(0, 28), (1, 41)], 28) := by decide +kernel
theorem dX11_game_76 : decode cX11_game 76 = .ok (.aload_n 0, 1) := by decide +kernel
theorem dX11_game_77 : decode cX11_game 77 = .ok (.getfield 84, 3) := by decide +kernel
theorem dX11_game_80 : decode cX11_game 80 = .ok (.iload_n 1, 1) := by decide +kernel
theorem dX11_game_81 : decode cX11_game 81 = .ok (.iload 4, 2) := by decide +kernel
theorem dX11_game_83 : decode cX11_game 83 = .ok (.iload 5, 2) := by decide +kernel
theorem dX11_game_85 : decode cX11_game 85 = .ok (.invokevirtual 357, 3) := by decide +kernel
theorem dX11_game_88 : decode cX11_game 88 = .ok (.ireturn, 1) := by decide +kernel
theorem dX11_game_89 : decode cX11_game 89 = .ok (.aload_n 0, 1) := by decide +kernel
theorem dX11_game_90 : decode cX11_game 90 = .ok (.getfield 84, 3) := by decide +kernel
theorem dX11_game_93 : decode cX11_game 93 = .ok (.iload_n 2, 1) := by decide +kernel
theorem dX11_game_94 : decode cX11_game 94 = .ok (.iload 5, 2) := by decide +kernel
theorem dX11_game_96 : decode cX11_game 96 = .ok (.iload 4, 2) := by decide +kernel
theorem dX11_game_98 : decode cX11_game 98 = .ok (.invokevirtual 357, 3) := by decide +kernel
theorem dX11_game_101 : decode cX11_game 101 = .ok (.ireturn, 1) := by decide +kernel
theorem dX11_game_102 : decode cX11_game 102 = .ok (.ldc_w 353, 3) := by decide +kernel
theorem dX11_game_105 : decode cX11_game 105 = .ok (.ireturn, 1) := by decide +kernel
theorem dX11_rests_0 : decode cX11_rests 0 = .ok (.aload_n 0, 1) := by decide +kernel
theorem dX11_rests_1 : decode cX11_rests 1 = .ok (.iload_n 1, 1) := by decide +kernel
theorem dX11_rests_2 : decode cX11_rests 2 = .ok (.iload_n 2, 1) := by decide +kernel
theorem dX11_rests_3 : decode cX11_rests 3 = .ok (.iload_n 3, 1) := by decide +kernel
theorem dX11_rests_4 : decode cX11_rests 4 = .ok (.invokevirtual 349, 3) := by decide +kernel
theorem dX11_rests_7 : decode cX11_rests 7 = .ok (.ifCond .ne 5, 3) := by decide +kernel
theorem dX11_rests_10 : decode cX11_rests 10 = .ok (.iconst (-1), 1) := by decide +kernel
theorem dX11_rests_11 : decode cX11_rests 11 = .ok (.ireturn, 1) := by decide +kernel
theorem dX11_rests_12 : decode cX11_rests 12 = .ok (.aload_n 0, 1) := by decide +kernel
theorem dX11_rests_13 : decode cX11_rests 13 = .ok (.getfield 84, 3) := by decide +kernel
theorem dX11_rests_16 : decode cX11_rests 16 = .ok (.iload_n 3, 1) := by decide +kernel
theorem dX11_rests_17 : decode cX11_rests 17 = .ok (.invokevirtual 354, 3) := by decide +kernel
theorem dX11_rests_20 : decode cX11_rests 20 = .ok (.iload 4, 2) := by decide +kernel
theorem dX11_rests_22 : decode cX11_rests 22 = .ok (.iconst (-1), 1) := by decide +kernel
theorem dX11_rests_23 : decode cX11_rests 23 = .ok (.if_icmp .ne 15, 3) := by decide +kernel
theorem dX11_rests_26 : decode cX11_rests 26 = .ok (.aload_n 0, 1) := by decide +kernel
theorem dX11_rests_27 : decode cX11_rests 27 = .ok (.getfield 84, 3) := by decide +kernel
theorem dX11_rests_30 : decode cX11_rests 30 = .ok (.iload_n 1, 1) := by decide +kernel
theorem dX11_rests_31 : decode cX11_rests 31 = .ok (.iload_n 2, 1) := by decide +kernel
theorem dX11_rests_32 : decode cX11_rests 32 = .ok (.invokevirtual 361, 3) := by decide +kernel
theorem dX11_rests_35 : decode cX11_rests 35 = .ok (.goto 14, 3) := by decide +kernel
theorem dX11_rests_38 : decode cX11_rests 38 = .ok (.aload_n 0, 1) := by decide +kernel
theorem dX11_rests_39 : decode cX11_rests 39 = .ok (.getfield 84, 3) := by decide +kernel
theorem dX11_rests_42 : decode cX11_rests 42 = .ok (.iload_n 1, 1) := by decide +kernel
theorem dX11_rests_43 : decode cX11_rests 43 = .ok (.iload_n 2, 1) := by decide +kernel
theorem dX11_rests_44 : decode cX11_rests 44 = .ok (.iload 4, 2) := by decide +kernel
theorem dX11_rests_46 : decode cX11_rests 46 = .ok (.invokevirtual 364, 3) := by decide +kernel
theorem dX11_rests_49 : decode cX11_rests 49 = .ok (.ireturn, 1) := by decide +kernel
theorem dX11_canPlay_0 : decode cX11_canPlay 0 = .ok (.aload_n 0, 1) := by decide +kernel
theorem dX11_canPlay_1 : decode cX11_canPlay 1 = .ok (.getfield 19, 3) := by decide +kernel
theorem dX11_canPlay_4 : decode cX11_canPlay 4 = .ok (.iload_n 1, 1) := by decide +kernel
theorem dX11_canPlay_5 : decode cX11_canPlay 5 = .ok (.invokevirtual 162, 3) := by decide +kernel
theorem dX11_canPlay_8 : decode cX11_canPlay 8 = .ok (.ifCond .eq 34, 3) := by decide +kernel
theorem dX11_canPlay_11 : decode cX11_canPlay 11 = .ok (.aload_n 0, 1) := by decide +kernel
theorem dX11_canPlay_12 : decode cX11_canPlay 12 = .ok (.getfield 19, 3) := by decide +kernel
theorem dX11_canPlay_15 : decode cX11_canPlay 15 = .ok (.iload_n 2, 1) := by decide +kernel
theorem dX11_canPlay_16 : decode cX11_canPlay 16 = .ok (.invokevirtual 162, 3) := by decide +kernel
theorem dX11_canPlay_19 : decode cX11_canPlay 19 = .ok (.ifCond .eq 23, 3) := by decide +kernel
theorem dX11_canPlay_22 : decode cX11_canPlay 22 = .ok (.iload_n 1, 1) := by decide +kernel
theorem dX11_canPlay_23 : decode cX11_canPlay 23 = .ok (.iload_n 2, 1) := by decide +kernel
theorem dX11_canPlay_24 : decode cX11_canPlay 24 = .ok (.if_icmp .eq 18, 3) := by decide +kernel
theorem dX11_canPlay_27 : decode cX11_canPlay 27 = .ok (.aload_n 0, 1) := by decide +kernel
theorem dX11_canPlay_28 : decode cX11_canPlay 28 = .ok (.getfield 19, 3) := by decide +kernel
theorem dX11_canPlay_31 : decode cX11_canPlay 31 = .ok (.iload_n 3, 1) := by decide +kernel
theorem dX11_canPlay_32 : decode cX11_canPlay 32 = .ok (.invokevirtual 197, 3) := by decide +kernel
theorem dX11_canPlay_35 : decode cX11_canPlay 35 = .ok (.ifCond .eq 7, 3) := by decide +kernel
theorem dX11_canPlay_38 : decode cX11_canPlay 38 = .ok (.iconst 1, 1) := by decide +kernel
theorem dX11_canPlay_39 : decode cX11_canPlay 39 = .ok (.goto 4, 3) := by decide +kernel
theorem dX11_canPlay_42 : decode cX11_canPlay 42 = .ok (.iconst 0, 1) := by decide +kernel
theorem dX11_canPlay_43 : decode cX11_canPlay 43 = .ok (.ireturn, 1) := by decide +kernel
theorem dX11_odds_0 : decode cX11_odds 0 = .ok (.aload_n 0, 1) := by decide +kernel
theorem dX11_odds_1 : decode cX11_odds 1 = .ok (.getfield 19, 3) := by decide +kernel
theorem dX11_odds_4 : decode cX11_odds 4 = .ok (.iload_n 1, 1) := by decide +kernel
theorem dX11_odds_5 : decode cX11_odds 5 = .ok (.invokevirtual 162, 3) := by decide +kernel
theorem dX11_odds_8 : decode cX11_odds 8 = .ok (.ifCond .eq 23, 3) := by decide +kernel
theorem dX11_odds_11 : decode cX11_odds 11 = .ok (.aload_n 0, 1) := by decide +kernel
theorem dX11_odds_12 : decode cX11_odds 12 = .ok (.getfield 44, 3) := by decide +kernel
theorem dX11_odds_15 : decode cX11_odds 15 = .ok (.iload_n 1, 1) := by decide +kernel
theorem dX11_odds_16 : decode cX11_odds 16 = .ok (.invokevirtual 232, 3) := by decide +kernel
theorem dX11_odds_19 : decode cX11_odds 19 = .ok (.ifCond .ne 12, 3) := by decide +kernel
theorem dX11_odds_22 : decode cX11_odds 22 = .ok (.iload_n 2, 1) := by decide +kernel
theorem dX11_odds_23 : decode cX11_odds 23 = .ok (.ifCond .lt 8, 3) := by decide +kernel
theorem dX11_odds_26 : decode cX11_odds 26 = .ok (.iload_n 2, 1) := by decide +kernel
theorem dX11_odds_27 : decode cX11_odds 27 = .ok (.iconst 4, 1) := by decide +kernel
theorem dX11_odds_28 : decode cX11_odds 28 = .ok (.if_icmp .le 5, 3) := by decide +kernel
theorem dX11_odds_31 : decode cX11_odds 31 = .ok (.iconst (-1), 1) := by decide +kernel
theorem dX11_odds_32 : decode cX11_odds 32 = .ok (.ireturn, 1) := by decide +kernel
theorem dX11_odds_33 : decode cX11_odds 33 = .ok (.aload_n 0, 1) := by decide +kernel
theorem dX11_odds_34 : decode cX11_odds 34 = .ok (.getfield 84, 3) := by decide +kernel
theorem dX11_odds_37 : decode cX11_odds 37 = .ok (.iload_n 1, 1) := by decide +kernel
theorem dX11_odds_38 : decode cX11_odds 38 = .ok (.iload_n 2, 1) := by decide +kernel
theorem dX11_odds_39 : decode cX11_odds 39 = .ok (.aload_n 0, 1) := by decide +kernel
theorem dX11_odds_40 : decode cX11_odds 40 = .ok (.getfield 44, 3) := by decide +kernel
theorem dX11_odds_43 : decode cX11_odds 43 = .ok (.invokevirtual 185, 3) := by decide +kernel
theorem dX11_odds_46 : decode cX11_odds 46 = .ok (.ldc_w 367, 3) := by decide +kernel
theorem dX11_odds_49 : decode cX11_odds 49 = .ok (.invokevirtual 368, 3) := by decide +kernel
theorem dX11_odds_52 : decode cX11_odds 52 = .ok (.ireturn, 1) := by decide +kernel
theorem dX11_shares_0 : decode cX11_shares 0 = .ok (.aload_n 0, 1) := by decide +kernel
theorem dX11_shares_1 : decode cX11_shares 1 = .ok (.getfield 19, 3) := by decide +kernel
theorem dX11_shares_4 : decode cX11_shares 4 = .ok (.iload_n 1, 1) := by decide +kernel
theorem dX11_shares_5 : decode cX11_shares 5 = .ok (.invokevirtual 197, 3) := by decide +kernel
theorem dX11_shares_8 : decode cX11_shares 8 = .ok (.ifCond .eq 14, 3) := by decide +kernel
theorem dX11_shares_11 : decode cX11_shares 11 = .ok (.iload_n 2, 1) := by decide +kernel
theorem dX11_shares_12 : decode cX11_shares 12 = .ok (.ifCond .lt 10, 3) := by decide +kernel
theorem dX11_shares_15 : decode cX11_shares 15 = .ok (.iload_n 2, 1) := by decide +kernel
theorem dX11_shares_16 : decode cX11_shares 16 = .ok (.sipush 999, 3) := by decide +kernel
theorem dX11_shares_19 : decode cX11_shares 19 = .ok (.if_icmp .le 5, 3) := by decide +kernel
theorem dX11_shares_22 : decode cX11_shares 22 = .ok (.iconst (-1), 1) := by decide +kernel
theorem dX11_shares_23 : decode cX11_shares 23 = .ok (.ireturn, 1) := by decide +kernel
theorem dX11_shares_24 : decode cX11_shares 24 = .ok (.aload_n 0, 1) := by decide +kernel
theorem dX11_shares_25 : decode cX11_shares 25 = .ok (.getfield 19, 3) := by decide +kernel
theorem dX11_shares_28 : decode cX11_shares 28 = .ok (.aload_n 0, 1) := by decide +kernel
theorem dX11_shares_29 : decode cX11_shares 29 = .ok (.getfield 44, 3) := by decide +kernel
theorem dX11_shares_32 : decode cX11_shares 32 = .ok (.invokevirtual 185, 3) := by decide +kernel
theorem dX11_shares_35 : decode cX11_shares 35 = .ok (.invokevirtual 372, 3) := by decide +kernel
theorem dX11_shares_38 : decode cX11_shares 38 = .ok (.istore_n 3, 1) := by decide +kernel
theorem dX11_shares_39 : decode cX11_shares 39 = .ok (.iload_n 3, 1) := by decide +kernel
theorem dX11_shares_40 : decode cX11_shares 40 = .ok (.ifCond .le 25, 3) := by decide +kernel
theorem dX11_shares_43 : decode cX11_shares 43 = .ok (.iload_n 2, 1) := by decide +kernel
theorem dX11_shares_44 : decode cX11_shares 44 = .ok (.aload_n 0, 1) := by decide +kernel
theorem dX11_shares_45 : decode cX11_shares 45 = .ok (.getfield 19, 3) := by decide +kernel
theorem dX11_shares_48 : decode cX11_shares 48 = .ok (.aload_n 0, 1) := by decide +kernel
theorem dX11_shares_49 : decode cX11_shares 49 = .ok (.getfield 44, 3) := by decide +kernel
theorem dX11_shares_52 : decode cX11_shares 52 = .ok (.iload_n 1, 1) := by decide +kernel
theorem dX11_shares_53 : decode cX11_shares 53 = .ok (.invokevirtual 209, 3) := by decide +kernel
theorem dX11_shares_56 : decode cX11_shares 56 = .ok (.invokevirtual 372, 3) := by decide +kernel
theorem dX11_shares_59 : decode cX11_shares 59 = .ok (.imul, 1) := by decide +kernel
theorem dX11_shares_60 : decode cX11_shares 60 = .ok (.iload_n 3, 1) := by decide +kernel
theorem dX11_shares_61 : decode cX11_shares 61 = .ok (.idiv, 1) := by decide +kernel
theorem dX11_shares_62 : decode cX11_shares 62 = .ok (.goto 4, 3) := by decide +kernel
theorem dX11_shares_65 : decode cX11_shares 65 = .ok (.iconst 0, 1) := by decide +kernel
theorem dX11_shares_66 : decode cX11_shares 66 = .ok (.ireturn, 1) := by decide +kernel
theorem dX11_most_0 : decode cX11_most 0 = .ok (.aload_n 0, 1) := by decide +kernel
theorem dX11_most_1 : decode cX11_most 1 = .ok (.getfield 19, 3) := by decide +kernel
theorem dX11_most_4 : decode cX11_most 4 = .ok (.invokevirtual 152, 3) := by decide +kernel
theorem dX11_most_7 : decode cX11_most 7 = .ok (.ifCond .ne 5, 3) := by decide +kernel
theorem dX11_most_10 : decode cX11_most 10 = .ok (.iconst (-1), 1) := by decide +kernel
theorem dX11_most_11 : decode cX11_most 11 = .ok (.ireturn, 1) := by decide +kernel
theorem dX11_most_12 : decode cX11_most 12 = .ok (.iload_n 1, 1) := by decide +kernel
theorem dX11_most_13 : decode cX11_most 13 = .ok (.tableswitch 114 0 7 #[47, 55, 63, 71, 79, 87, 95, 103], 47) := by decide +kernel
theorem dX11_most_60 : decode cX11_most 60 = .ok (.aload_n 0, 1) := by decide +kernel
theorem dX11_most_61 : decode cX11_most 61 = .ok (.getfield 63, 3) := by decide +kernel
theorem dX11_most_64 : decode cX11_most 64 = .ok (.invokevirtual 375, 3) := by decide +kernel
theorem dX11_most_67 : decode cX11_most 67 = .ok (.ireturn, 1) := by decide +kernel
theorem dX11_most_68 : decode cX11_most 68 = .ok (.aload_n 0, 1) := by decide +kernel
theorem dX11_most_69 : decode cX11_most 69 = .ok (.getfield 63, 3) := by decide +kernel
theorem dX11_most_72 : decode cX11_most 72 = .ok (.invokevirtual 378, 3) := by decide +kernel
theorem dX11_most_75 : decode cX11_most 75 = .ok (.ireturn, 1) := by decide +kernel
theorem dX11_most_76 : decode cX11_most 76 = .ok (.aload_n 0, 1) := by decide +kernel
theorem dX11_most_77 : decode cX11_most 77 = .ok (.getfield 63, 3) := by decide +kernel
theorem dX11_most_80 : decode cX11_most 80 = .ok (.invokevirtual 381, 3) := by decide +kernel
theorem dX11_most_83 : decode cX11_most 83 = .ok (.ireturn, 1) := by decide +kernel
theorem dX11_most_84 : decode cX11_most 84 = .ok (.aload_n 0, 1) := by decide +kernel
theorem dX11_most_85 : decode cX11_most 85 = .ok (.getfield 44, 3) := by decide +kernel
theorem dX11_most_88 : decode cX11_most 88 = .ok (.invokevirtual 384, 3) := by decide +kernel
theorem dX11_most_91 : decode cX11_most 91 = .ok (.ireturn, 1) := by decide +kernel
theorem dX11_most_92 : decode cX11_most 92 = .ok (.aload_n 0, 1) := by decide +kernel
theorem dX11_most_93 : decode cX11_most 93 = .ok (.getfield 44, 3) := by decide +kernel
theorem dX11_most_96 : decode cX11_most 96 = .ok (.invokevirtual 387, 3) := by decide +kernel
theorem dX11_most_99 : decode cX11_most 99 = .ok (.ireturn, 1) := by decide +kernel
theorem dX11_most_100 : decode cX11_most 100 = .ok (.aload_n 0, 1) := by decide +kernel
theorem dX11_most_101 : decode cX11_most 101 = .ok (.getfield 19, 3) := by decide +kernel
theorem dX11_most_104 : decode cX11_most 104 = .ok (.invokevirtual 390, 3) := by decide +kernel
theorem dX11_most_107 : decode cX11_most 107 = .ok (.ireturn, 1) := by decide +kernel
theorem dX11_most_108 : decode cX11_most 108 = .ok (.aload_n 0, 1) := by decide +kernel
theorem dX11_most_109 : decode cX11_most 109 = .ok (.getfield 63, 3) := by decide +kernel
theorem dX11_most_112 : decode cX11_most 112 = .ok (.invokevirtual 393, 3) := by decide +kernel
theorem dX11_most_115 : decode cX11_most 115 = .ok (.ireturn, 1) := by decide +kernel
theorem dX11_most_116 : decode cX11_most 116 = .ok (.aload_n 0, 1) := by decide +kernel
theorem dX11_most_117 : decode cX11_most 117 = .ok (.getfield 44, 3) := by decide +kernel
theorem dX11_most_120 : decode cX11_most 120 = .ok (.invokevirtual 185, 3) := by decide +kernel
theorem dX11_most_123 : decode cX11_most 123 = .ok (.invokestatic 212, 3) := by decide +kernel
theorem dX11_most_126 : decode cX11_most 126 = .ok (.ireturn, 1) := by decide +kernel
theorem dX11_most_127 : decode cX11_most 127 = .ok (.iconst (-1), 1) := by decide +kernel
theorem dX11_most_128 : decode cX11_most 128 = .ok (.ireturn, 1) := by decide +kernel
theorem dX11_known_0 : decode cX11_known 0 = .ok (.aload_n 0, 1) := by decide +kernel
theorem dX11_known_1 : decode cX11_known 1 = .ok (.getfield 19, 3) := by decide +kernel
theorem dX11_known_4 : decode cX11_known 4 = .ok (.iload_n 1, 1) := by decide +kernel
theorem dX11_known_5 : decode cX11_known 5 = .ok (.invokevirtual 162, 3) := by decide +kernel
theorem dX11_known_8 : decode cX11_known 8 = .ok (.ifCond .eq 14, 3) := by decide +kernel
theorem dX11_known_11 : decode cX11_known 11 = .ok (.aload_n 0, 1) := by decide +kernel
theorem dX11_known_12 : decode cX11_known 12 = .ok (.getfield 19, 3) := by decide +kernel
theorem dX11_known_15 : decode cX11_known 15 = .ok (.iload_n 1, 1) := by decide +kernel
theorem dX11_known_16 : decode cX11_known 16 = .ok (.invokevirtual 396, 3) := by decide +kernel
theorem dX11_known_19 : decode cX11_known 19 = .ok (.goto 4, 3) := by decide +kernel
theorem dX11_known_22 : decode cX11_known 22 = .ok (.iconst (-1), 1) := by decide +kernel
theorem dX11_known_23 : decode cX11_known 23 = .ok (.ireturn, 1) := by decide +kernel
theorem dX11_quiet_0 : decode cX11_quiet 0 = .ok (.aload_n 0, 1) := by decide +kernel
theorem dX11_quiet_1 : decode cX11_quiet 1 = .ok (.getfield 19, 3) := by decide +kernel
theorem dX11_quiet_4 : decode cX11_quiet 4 = .ok (.invokevirtual 152, 3) := by decide +kernel
theorem dX11_quiet_7 : decode cX11_quiet 7 = .ok (.ifCond .eq 15, 3) := by decide +kernel
theorem dX11_quiet_10 : decode cX11_quiet 10 = .ok (.iload_n 1, 1) := by decide +kernel
theorem dX11_quiet_11 : decode cX11_quiet 11 = .ok (.iconst 1, 1) := by decide +kernel
theorem dX11_quiet_12 : decode cX11_quiet 12 = .ok (.if_icmp .lt 10, 3) := by decide +kernel
theorem dX11_quiet_15 : decode cX11_quiet 15 = .ok (.iload_n 1, 1) := by decide +kernel
theorem dX11_quiet_16 : decode cX11_quiet 16 = .ok (.sipush 9999, 3) := by decide +kernel
theorem dX11_quiet_19 : decode cX11_quiet 19 = .ok (.if_icmp .le 5, 3) := by decide +kernel
theorem dX11_quiet_22 : decode cX11_quiet 22 = .ok (.iconst (-1), 1) := by decide +kernel
theorem dX11_quiet_23 : decode cX11_quiet 23 = .ok (.ireturn, 1) := by decide +kernel
theorem dX11_quiet_24 : decode cX11_quiet 24 = .ok (.aload_n 0, 1) := by decide +kernel
theorem dX11_quiet_25 : decode cX11_quiet 25 = .ok (.getfield 63, 3) := by decide +kernel
theorem dX11_quiet_28 : decode cX11_quiet 28 = .ok (.iload_n 1, 1) := by decide +kernel
theorem dX11_quiet_29 : decode cX11_quiet 29 = .ok (.invokevirtual 399, 3) := by decide +kernel
theorem dX11_quiet_32 : decode cX11_quiet 32 = .ok (.ireturn, 1) := by decide +kernel
theorem dX11_image_0 : decode cX11_image 0 = .ok (.aload_n 0, 1) := by decide +kernel
theorem dX11_image_1 : decode cX11_image 1 = .ok (.getfield 19, 3) := by decide +kernel
theorem dX11_image_4 : decode cX11_image 4 = .ok (.invokevirtual 152, 3) := by decide +kernel
theorem dX11_image_7 : decode cX11_image 7 = .ok (.ifCond .ne 5, 3) := by decide +kernel
theorem dX11_image_10 : decode cX11_image 10 = .ok (.iconst (-1), 1) := by decide +kernel
theorem dX11_image_11 : decode cX11_image 11 = .ok (.ireturn, 1) := by decide +kernel
theorem dX11_image_12 : decode cX11_image 12 = .ok (.aload_n 0, 1) := by decide +kernel
theorem dX11_image_13 : decode cX11_image 13 = .ok (.getfield 48, 3) := by decide +kernel
theorem dX11_image_16 : decode cX11_image 16 = .ok (.aload_n 0, 1) := by decide +kernel
theorem dX11_image_17 : decode cX11_image 17 = .ok (.getfield 44, 3) := by decide +kernel
theorem dX11_image_20 : decode cX11_image 20 = .ok (.invokevirtual 402, 3) := by decide +kernel
theorem dX11_image_23 : decode cX11_image 23 = .ok (.aload_n 0, 1) := by decide +kernel
theorem dX11_image_24 : decode cX11_image 24 = .ok (.iconst 1, 1) := by decide +kernel
theorem dX11_image_25 : decode cX11_image 25 = .ok (.putfield 135, 3) := by decide +kernel
theorem dX11_image_28 : decode cX11_image 28 = .ok (.aload_n 0, 1) := by decide +kernel
theorem dX11_image_29 : decode cX11_image 29 = .ok (.getfield 44, 3) := by decide +kernel
theorem dX11_image_32 : decode cX11_image 32 = .ok (.invokevirtual 265, 3) := by decide +kernel
theorem dX11_image_35 : decode cX11_image 35 = .ok (.ireturn, 1) := by decide +kernel
theorem dX11_back_0 : decode cX11_back 0 = .ok (.aload_n 0, 1) := by decide +kernel
theorem dX11_back_1 : decode cX11_back 1 = .ok (.getfield 135, 3) := by decide +kernel
theorem dX11_back_4 : decode cX11_back 4 = .ok (.ifCond .ne 5, 3) := by decide +kernel
theorem dX11_back_7 : decode cX11_back 7 = .ok (.iconst (-1), 1) := by decide +kernel
theorem dX11_back_8 : decode cX11_back 8 = .ok (.ireturn, 1) := by decide +kernel
theorem dX11_back_9 : decode cX11_back 9 = .ok (.aload_n 0, 1) := by decide +kernel
theorem dX11_back_10 : decode cX11_back 10 = .ok (.getfield 44, 3) := by decide +kernel
theorem dX11_back_13 : decode cX11_back 13 = .ok (.aload_n 0, 1) := by decide +kernel
theorem dX11_back_14 : decode cX11_back 14 = .ok (.getfield 48, 3) := by decide +kernel
theorem dX11_back_17 : decode cX11_back 17 = .ok (.invokevirtual 402, 3) := by decide +kernel
theorem dX11_back_20 : decode cX11_back 20 = .ok (.aload_n 0, 1) := by decide +kernel
theorem dX11_back_21 : decode cX11_back 21 = .ok (.getfield 54, 3) := by decide +kernel
theorem dX11_back_24 : decode cX11_back 24 = .ok (.invokevirtual 131, 3) := by decide +kernel
theorem dX11_back_27 : decode cX11_back 27 = .ok (.aload_n 0, 1) := by decide +kernel
theorem dX11_back_28 : decode cX11_back 28 = .ok (.getfield 44, 3) := by decide +kernel
theorem dX11_back_31 : decode cX11_back 31 = .ok (.invokevirtual 265, 3) := by decide +kernel
theorem dX11_back_34 : decode cX11_back 34 = .ok (.ireturn, 1) := by decide +kernel
theorem dX11_count_0 : decode cX11_count 0 = .ok (.iload_n 1, 1) := by decide +kernel
theorem dX11_count_1 : decode cX11_count 1 = .ok (.tableswitch 168 0 12 #[67, 75, 83, 91, 99, 107, 115, 123, 131, 139, 144, 152, 160], 67) := by decide +kernel
theorem dX11_count_68 : decode cX11_count 68 = .ok (.aload_n 0, 1) := by decide +kernel
theorem dX11_count_69 : decode cX11_count 69 = .ok (.getfield 19, 3) := by decide +kernel
theorem dX11_count_72 : decode cX11_count 72 = .ok (.invokevirtual 139, 3) := by decide +kernel
theorem dX11_count_75 : decode cX11_count 75 = .ok (.ireturn, 1) := by decide +kernel
theorem dX11_count_76 : decode cX11_count 76 = .ok (.aload_n 0, 1) := by decide +kernel
theorem dX11_count_77 : decode cX11_count 77 = .ok (.getfield 19, 3) := by decide +kernel
theorem dX11_count_80 : decode cX11_count 80 = .ok (.invokevirtual 287, 3) := by decide +kernel
theorem dX11_count_83 : decode cX11_count 83 = .ok (.ireturn, 1) := by decide +kernel
theorem dX11_count_84 : decode cX11_count 84 = .ok (.aload_n 0, 1) := by decide +kernel
theorem dX11_count_85 : decode cX11_count 85 = .ok (.getfield 19, 3) := by decide +kernel
theorem dX11_count_88 : decode cX11_count 88 = .ok (.invokevirtual 404, 3) := by decide +kernel
theorem dX11_count_91 : decode cX11_count 91 = .ok (.ireturn, 1) := by decide +kernel
theorem dX11_count_92 : decode cX11_count 92 = .ok (.aload_n 0, 1) := by decide +kernel
theorem dX11_count_93 : decode cX11_count 93 = .ok (.getfield 63, 3) := by decide +kernel
theorem dX11_count_96 : decode cX11_count 96 = .ok (.invokevirtual 142, 3) := by decide +kernel
theorem dX11_count_99 : decode cX11_count 99 = .ok (.ireturn, 1) := by decide +kernel
theorem dX11_count_100 : decode cX11_count 100 = .ok (.aload_n 0, 1) := by decide +kernel
theorem dX11_count_101 : decode cX11_count 101 = .ok (.getfield 10, 3) := by decide +kernel
theorem dX11_count_104 : decode cX11_count 104 = .ok (.invokevirtual 100, 3) := by decide +kernel
theorem dX11_count_107 : decode cX11_count 107 = .ok (.ireturn, 1) := by decide +kernel
theorem dX11_count_108 : decode cX11_count 108 = .ok (.aload_n 0, 1) := by decide +kernel
theorem dX11_count_109 : decode cX11_count 109 = .ok (.getfield 63, 3) := by decide +kernel
theorem dX11_count_112 : decode cX11_count 112 = .ok (.invokevirtual 407, 3) := by decide +kernel
theorem dX11_count_115 : decode cX11_count 115 = .ok (.ireturn, 1) := by decide +kernel
theorem dX11_count_116 : decode cX11_count 116 = .ok (.aload_n 0, 1) := by decide +kernel
theorem dX11_count_117 : decode cX11_count 117 = .ok (.getfield 44, 3) := by decide +kernel
theorem dX11_count_120 : decode cX11_count 120 = .ok (.invokevirtual 265, 3) := by decide +kernel
theorem dX11_count_123 : decode cX11_count 123 = .ok (.ireturn, 1) := by decide +kernel
theorem dX11_count_124 : decode cX11_count 124 = .ok (.aload_n 0, 1) := by decide +kernel
theorem dX11_count_125 : decode cX11_count 125 = .ok (.getfield 44, 3) := by decide +kernel
theorem dX11_count_128 : decode cX11_count 128 = .ok (.invokevirtual 410, 3) := by decide +kernel
theorem dX11_count_131 : decode cX11_count 131 = .ok (.ireturn, 1) := by decide +kernel
theorem dX11_count_132 : decode cX11_count 132 = .ok (.aload_n 0, 1) := by decide +kernel
theorem dX11_count_133 : decode cX11_count 133 = .ok (.getfield 44, 3) := by decide +kernel
theorem dX11_count_136 : decode cX11_count 136 = .ok (.invokevirtual 185, 3) := by decide +kernel
theorem dX11_count_139 : decode cX11_count 139 = .ok (.ireturn, 1) := by decide +kernel
theorem dX11_count_140 : decode cX11_count 140 = .ok (.aload_n 0, 1) := by decide +kernel
theorem dX11_count_141 : decode cX11_count 141 = .ok (.getfield 92, 3) := by decide +kernel
theorem dX11_count_144 : decode cX11_count 144 = .ok (.ireturn, 1) := by decide +kernel
theorem dX11_count_145 : decode cX11_count 145 = .ok (.aload_n 0, 1) := by decide +kernel
theorem dX11_count_146 : decode cX11_count 146 = .ok (.getfield 77, 3) := by decide +kernel
theorem dX11_count_149 : decode cX11_count 149 = .ok (.invokevirtual 413, 3) := by decide +kernel
theorem dX11_count_152 : decode cX11_count 152 = .ok (.ireturn, 1) := by decide +kernel
theorem dX11_count_153 : decode cX11_count 153 = .ok (.aload_n 0, 1) := by decide +kernel
theorem dX11_count_154 : decode cX11_count 154 = .ok (.getfield 44, 3) := by decide +kernel
theorem dX11_count_157 : decode cX11_count 157 = .ok (.invokevirtual 301, 3) := by decide +kernel
theorem dX11_count_160 : decode cX11_count 160 = .ok (.ireturn, 1) := by decide +kernel
theorem dX11_count_161 : decode cX11_count 161 = .ok (.aload_n 0, 1) := by decide +kernel
theorem dX11_count_162 : decode cX11_count 162 = .ok (.getfield 54, 3) := by decide +kernel
theorem dX11_count_165 : decode cX11_count 165 = .ok (.invokevirtual 298, 3) := by decide +kernel
theorem dX11_count_168 : decode cX11_count 168 = .ok (.ireturn, 1) := by decide +kernel
theorem dX11_count_169 : decode cX11_count 169 = .ok (.ldc_w 353, 3) := by decide +kernel
theorem dX11_count_172 : decode cX11_count 172 = .ok (.ireturn, 1) := by decide +kernel
