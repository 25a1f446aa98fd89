theorem dX12_in_0 : decode cX12_in 0 = .ok (.iload_n 0, 1) := by decide +kernel
theorem dX12_in_1 : decode cX12_in 1 = .ok (.iload_n 1, 1) := by decide +kernel
theorem dX12_in_2 : decode cX12_in 2 = .ok (.if_icmp .lt 12, 3) := by decide +kernel
theorem dX12_in_5 : decode cX12_in 5 = .ok (.iload_n 0, 1) := by decide +kernel
theorem dX12_in_6 : decode cX12_in 6 = .ok (.iload_n 2, 1) := by decide +kernel
theorem dX12_in_7 : decode cX12_in 7 = .ok (.if_icmp .gt 7, 3) := by decide +kernel
theorem dX12_in_10 : decode cX12_in 10 = .ok (.iconst 1, 1) := by decide +kernel
theorem dX12_in_11 : decode cX12_in 11 = .ok (.goto 4, 3) := by decide +kernel
theorem dX12_in_14 : decode cX12_in 14 = .ok (.iconst 0, 1) := by decide +kernel
theorem dX12_in_15 : decode cX12_in 15 = .ok (.ireturn, 1) := by decide +kernel
theorem dX12_has_0 : decode cX12_has 0 = .ok (.iload_n 0, 1) := by decide +kernel
theorem dX12_has_1 : decode cX12_has 1 = .ok (.iload_n 1, 1) := by decide +kernel
theorem dX12_has_2 : decode cX12_has 2 = .ok (.ishr, 1) := by decide +kernel
theorem dX12_has_3 : decode cX12_has 3 = .ok (.iconst 1, 1) := by decide +kernel
theorem dX12_has_4 : decode cX12_has 4 = .ok (.iand, 1) := by decide +kernel
theorem dX12_has_5 : decode cX12_has 5 = .ok (.iconst 1, 1) := by decide +kernel
theorem dX12_has_6 : decode cX12_has 6 = .ok (.if_icmp .ne 7, 3) := by decide +kernel
theorem dX12_has_9 : decode cX12_has 9 = .ok (.iconst 1, 1) := by decide +kernel
theorem dX12_has_10 : decode cX12_has 10 = .ok (.goto 4, 3) := by decide +kernel
theorem dX12_has_13 : decode cX12_has 13 = .ok (.iconst 0, 1) := by decide +kernel
theorem dX12_has_14 : decode cX12_has 14 = .ok (.ireturn, 1) := by decide +kernel
theorem dX12_init_0 : decode cX12_init 0 = .ok (.aload_n 0, 1) := by decide +kernel
theorem dX12_init_1 : decode cX12_init 1 = .ok (.invokespecial 3, 3) := by decide +kernel
theorem dX12_init_4 : decode cX12_init 4 = .ok (.aload_n 0, 1) := by decide +kernel
theorem dX12_init_5 : decode cX12_init 5 = .ok (.sipush 240, 3) := by decide +kernel
theorem dX12_init_8 : decode cX12_init 8 = .ok (.newarray .int, 2) := by decide +kernel
theorem dX12_init_10 : decode cX12_init 10 = .ok (.putfield 9, 3) := by decide +kernel
theorem dX12_init_13 : decode cX12_init 13 = .ok (.aload_n 0, 1) := by decide +kernel
theorem dX12_init_14 : decode cX12_init 14 = .ok (.sipush 2600, 3) := by decide +kernel
theorem dX12_init_17 : decode cX12_init 17 = .ok (.newarray .int, 2) := by decide +kernel
theorem dX12_init_19 : decode cX12_init 19 = .ok (.putfield 13, 3) := by decide +kernel
theorem dX12_init_22 : decode cX12_init 22 = .ok (.aload_n 0, 1) := by decide +kernel
theorem dX12_init_23 : decode cX12_init 23 = .ok (.sipush 2600, 3) := by decide +kernel
theorem dX12_init_26 : decode cX12_init 26 = .ok (.newarray .int, 2) := by decide +kernel
theorem dX12_init_28 : decode cX12_init 28 = .ok (.putfield 16, 3) := by decide +kernel
theorem dX12_init_31 : decode cX12_init 31 = .ok (.aload_n 0, 1) := by decide +kernel
theorem dX12_init_32 : decode cX12_init 32 = .ok (.iconst 5, 1) := by decide +kernel
theorem dX12_init_33 : decode cX12_init 33 = .ok (.newarray .int, 2) := by decide +kernel
theorem dX12_init_35 : decode cX12_init 35 = .ok (.putfield 19, 3) := by decide +kernel
theorem dX12_init_38 : decode cX12_init 38 = .ok (.aload_n 0, 1) := by decide +kernel
theorem dX12_init_39 : decode cX12_init 39 = .ok (.iconst 5, 1) := by decide +kernel
theorem dX12_init_40 : decode cX12_init 40 = .ok (.newarray .int, 2) := by decide +kernel
theorem dX12_init_42 : decode cX12_init 42 = .ok (.putfield 22, 3) := by decide +kernel
theorem dX12_init_45 : decode cX12_init 45 = .ok (.aload_n 0, 1) := by decide +kernel
theorem dX12_init_46 : decode cX12_init 46 = .ok (.sipush 700, 3) := by decide +kernel
theorem dX12_init_49 : decode cX12_init 49 = .ok (.newarray .int, 2) := by decide +kernel
theorem dX12_init_51 : decode cX12_init 51 = .ok (.putfield 25, 3) := by decide +kernel
theorem dX12_init_54 : decode cX12_init 54 = .ok (.aload_n 0, 1) := by decide +kernel
theorem dX12_init_55 : decode cX12_init 55 = .ok (.sipush 700, 3) := by decide +kernel
theorem dX12_init_58 : decode cX12_init 58 = .ok (.newarray .int, 2) := by decide +kernel
theorem dX12_init_60 : decode cX12_init 60 = .ok (.putfield 28, 3) := by decide +kernel
theorem dX12_init_63 : decode cX12_init 63 = .ok (.aload_n 0, 1) := by decide +kernel
theorem dX12_init_64 : decode cX12_init 64 = .ok (.sipush 700, 3) := by decide +kernel
theorem dX12_init_67 : decode cX12_init 67 = .ok (.newarray .int, 2) := by decide +kernel
theorem dX12_init_69 : decode cX12_init 69 = .ok (.putfield 31, 3) := by decide +kernel
theorem dX12_init_72 : decode cX12_init 72 = .ok (.aload_n 0, 1) := by decide +kernel
theorem dX12_init_73 : decode cX12_init 73 = .ok (.bipush 6, 2) := by decide +kernel
theorem dX12_init_75 : decode cX12_init 75 = .ok (.newarray .int, 2) := by decide +kernel
theorem dX12_init_77 : decode cX12_init 77 = .ok (.putfield 34, 3) := by decide +kernel
theorem dX12_init_80 : decode cX12_init 80 = .ok (.aload_n 0, 1) := by decide +kernel
theorem dX12_init_81 : decode cX12_init 81 = .ok (.bipush 80, 2) := by decide +kernel
theorem dX12_init_83 : decode cX12_init 83 = .ok (.newarray .int, 2) := by decide +kernel
theorem dX12_init_85 : decode cX12_init 85 = .ok (.putfield 37, 3) := by decide +kernel
theorem dX12_init_88 : decode cX12_init 88 = .ok (.aload_n 0, 1) := by decide +kernel
theorem dX12_init_89 : decode cX12_init 89 = .ok (.iconst 2, 1) := by decide +kernel
theorem dX12_init_90 : decode cX12_init 90 = .ok (.newarray .int, 2) := by decide +kernel
theorem dX12_init_92 : decode cX12_init 92 = .ok (.putfield 40, 3) := by decide +kernel
theorem dX12_init_95 : decode cX12_init 95 = .ok (.aload_n 0, 1) := by decide +kernel
theorem dX12_init_96 : decode cX12_init 96 = .ok (.bipush 8, 2) := by decide +kernel
theorem dX12_init_98 : decode cX12_init 98 = .ok (.newarray .int, 2) := by decide +kernel
theorem dX12_init_100 : decode cX12_init 100 = .ok (.putfield 43, 3) := by decide +kernel
theorem dX12_init_103 : decode cX12_init 103 = .ok (.aload_n 0, 1) := by decide +kernel
theorem dX12_init_104 : decode cX12_init 104 = .ok (.bipush 21, 2) := by decide +kernel
theorem dX12_init_106 : decode cX12_init 106 = .ok (.newarray .int, 2) := by decide +kernel
theorem dX12_init_108 : decode cX12_init 108 = .ok (.putfield 46, 3) := by decide +kernel
theorem dX12_init_111 : decode cX12_init 111 = .ok (.aload_n 0, 1) := by decide +kernel
theorem dX12_init_112 : decode cX12_init 112 = .ok (.bipush 12, 2) := by decide +kernel
theorem dX12_init_114 : decode cX12_init 114 = .ok (.newarray .int, 2) := by decide +kernel
theorem dX12_init_116 : decode cX12_init 116 = .ok (.putfield 49, 3) := by decide +kernel
theorem dX12_init_119 : decode cX12_init 119 = .ok (.aload_n 0, 1) := by decide +kernel
theorem dX12_init_120 : decode cX12_init 120 = .ok (.iconst 2, 1) := by decide +kernel
theorem dX12_init_121 : decode cX12_init 121 = .ok (.newarray .int, 2) := by decide +kernel
theorem dX12_init_123 : decode cX12_init 123 = .ok (.putfield 52, 3) := by decide +kernel
theorem dX12_init_126 : decode cX12_init 126 = .ok (.aload_n 0, 1) := by decide +kernel
theorem dX12_init_127 : decode cX12_init 127 = .ok (.bipush 8, 2) := by decide +kernel
theorem dX12_init_129 : decode cX12_init 129 = .ok (.newarray .int, 2) := by decide +kernel
theorem dX12_init_131 : decode cX12_init 131 = .ok (.putfield 55, 3) := by decide +kernel
theorem dX12_init_134 : decode cX12_init 134 = .ok (.aload_n 0, 1) := by decide +kernel
theorem dX12_init_135 : decode cX12_init 135 = .ok (.bipush 21, 2) := by decide +kernel
theorem dX12_init_137 : decode cX12_init 137 = .ok (.newarray .int, 2) := by decide +kernel
theorem dX12_init_139 : decode cX12_init 139 = .ok (.putfield 58, 3) := by decide +kernel
theorem dX12_init_142 : decode cX12_init 142 = .ok (.aload_n 0, 1) := by decide +kernel
theorem dX12_init_143 : decode cX12_init 143 = .ok (.bipush 12, 2) := by decide +kernel
theorem dX12_init_145 : decode cX12_init 145 = .ok (.newarray .int, 2) := by decide +kernel
theorem dX12_init_147 : decode cX12_init 147 = .ok (.putfield 61, 3) := by decide +kernel
theorem dX12_init_150 : decode cX12_init 150 = .ok (.aload_n 0, 1) := by decide +kernel
theorem dX12_init_151 : decode cX12_init 151 = .ok (.sipush 160, 3) := by decide +kernel
theorem dX12_init_154 : decode cX12_init 154 = .ok (.newarray .int, 2) := by decide +kernel
theorem dX12_init_156 : decode cX12_init 156 = .ok (.putfield 64, 3) := by decide +kernel
theorem dX12_init_159 : decode cX12_init 159 = .ok (.aload_n 0, 1) := by decide +kernel
theorem dX12_init_160 : decode cX12_init 160 = .ok (.iconst 5, 1) := by decide +kernel
theorem dX12_init_161 : decode cX12_init 161 = .ok (.newarray .int, 2) := by decide +kernel
theorem dX12_init_163 : decode cX12_init 163 = .ok (.putfield 67, 3) := by decide +kernel
theorem dX12_init_166 : decode cX12_init 166 = .ok (.aload_n 0, 1) := by decide +kernel
theorem dX12_init_167 : decode cX12_init 167 = .ok (.iconst (-1), 1) := by decide +kernel
theorem dX12_init_168 : decode cX12_init 168 = .ok (.putfield 70, 3) := by decide +kernel
theorem dX12_init_171 : decode cX12_init 171 = .ok (.aload_n 0, 1) := by decide +kernel
theorem dX12_init_172 : decode cX12_init 172 = .ok (.iconst 3, 1) := by decide +kernel
theorem dX12_init_173 : decode cX12_init 173 = .ok (.putfield 74, 3) := by decide +kernel
theorem dX12_init_176 : decode cX12_init 176 = .ok (.aload_n 0, 1) := by decide +kernel
theorem dX12_init_177 : decode cX12_init 177 = .ok (.sipush 6400, 3) := by decide +kernel
theorem dX12_init_180 : decode cX12_init 180 = .ok (.newarray .int, 2) := by decide +kernel
theorem dX12_init_182 : decode cX12_init 182 = .ok (.putfield 77, 3) := by decide +kernel
theorem dX12_init_185 : decode cX12_init 185 = .ok (.aload_n 0, 1) := by decide +kernel
theorem dX12_init_186 : decode cX12_init 186 = .ok (.sipush 351, 3) := by decide +kernel
theorem dX12_init_189 : decode cX12_init 189 = .ok (.newarray .int, 2) := by decide +kernel
theorem dX12_init_191 : decode cX12_init 191 = .ok (.putfield 80, 3) := by decide +kernel
theorem dX12_init_194 : decode cX12_init 194 = .ok (.aload_n 0, 1) := by decide +kernel
theorem dX12_init_195 : decode cX12_init 195 = .ok (.bipush 10, 2) := by decide +kernel
theorem dX12_init_197 : decode cX12_init 197 = .ok (.newarray .int, 2) := by decide +kernel
theorem dX12_init_199 : decode cX12_init 199 = .ok (.putfield 83, 3) := by decide +kernel
theorem dX12_init_202 : decode cX12_init 202 = .ok (.aload_n 0, 1) := by decide +kernel
theorem dX12_init_203 : decode cX12_init 203 = .ok (.bipush 10, 2) := by decide +kernel
theorem dX12_init_205 : decode cX12_init 205 = .ok (.newarray .int, 2) := by decide +kernel
theorem dX12_init_207 : decode cX12_init 207 = .ok (.putfield 86, 3) := by decide +kernel
theorem dX12_init_210 : decode cX12_init 210 = .ok (.aload_n 0, 1) := by decide +kernel
theorem dX12_init_211 : decode cX12_init 211 = .ok (.sipush 160, 3) := by decide +kernel
theorem dX12_init_214 : decode cX12_init 214 = .ok (.newarray .int, 2) := by decide +kernel
theorem dX12_init_216 : decode cX12_init 216 = .ok (.putfield 89, 3) := by decide +kernel
theorem dX12_init_219 : decode cX12_init 219 = .ok (.return_, 1) := by decide +kernel
theorem dX12_thrown_0 : decode cX12_thrown 0 = .ok (.aload_n 0, 1) := by decide +kernel
theorem dX12_thrown_1 : decode cX12_thrown 1 = .ok (.getfield 92, 3) := by decide +kernel
theorem dX12_thrown_4 : decode cX12_thrown 4 = .ok (.ireturn, 1) := by decide +kernel
theorem dX12_byteOf_0 : decode cX12_byteOf 0 = .ok (.iload 5, 2) := by decide +kernel
theorem dX12_byteOf_2 : decode cX12_byteOf 2 = .ok (.iconst 4, 1) := by decide +kernel
theorem dX12_byteOf_3 : decode cX12_byteOf 3 = .ok (.if_icmp .ge 7, 3) := by decide +kernel
theorem dX12_byteOf_6 : decode cX12_byteOf 6 = .ok (.iload_n 0, 1) := by decide +kernel
theorem dX12_byteOf_7 : decode cX12_byteOf 7 = .ok (.goto 38, 3) := by decide +kernel
theorem dX12_byteOf_10 : decode cX12_byteOf 10 = .ok (.iload 5, 2) := by decide +kernel
theorem dX12_byteOf_12 : decode cX12_byteOf 12 = .ok (.bipush 8, 2) := by decide +kernel
theorem dX12_byteOf_14 : decode cX12_byteOf 14 = .ok (.if_icmp .ge 7, 3) := by decide +kernel
theorem dX12_byteOf_17 : decode cX12_byteOf 17 = .ok (.iload_n 1, 1) := by decide +kernel
theorem dX12_byteOf_18 : decode cX12_byteOf 18 = .ok (.goto 27, 3) := by decide +kernel
theorem dX12_byteOf_21 : decode cX12_byteOf 21 = .ok (.iload 5, 2) := by decide +kernel
theorem dX12_byteOf_23 : decode cX12_byteOf 23 = .ok (.bipush 12, 2) := by decide +kernel
theorem dX12_byteOf_25 : decode cX12_byteOf 25 = .ok (.if_icmp .ge 7, 3) := by decide +kernel
theorem dX12_byteOf_28 : decode cX12_byteOf 28 = .ok (.iload_n 2, 1) := by decide +kernel
theorem dX12_byteOf_29 : decode cX12_byteOf 29 = .ok (.goto 16, 3) := by decide +kernel
theorem dX12_byteOf_32 : decode cX12_byteOf 32 = .ok (.iload 5, 2) := by decide +kernel
theorem dX12_byteOf_34 : decode cX12_byteOf 34 = .ok (.bipush 16, 2) := by decide +kernel
theorem dX12_byteOf_36 : decode cX12_byteOf 36 = .ok (.if_icmp .ge 7, 3) := by decide +kernel
theorem dX12_byteOf_39 : decode cX12_byteOf 39 = .ok (.iload_n 3, 1) := by decide +kernel
theorem dX12_byteOf_40 : decode cX12_byteOf 40 = .ok (.goto 5, 3) := by decide +kernel
theorem dX12_byteOf_43 : decode cX12_byteOf 43 = .ok (.iload 4, 2) := by decide +kernel
theorem dX12_byteOf_45 : decode cX12_byteOf 45 = .ok (.istore 6, 2) := by decide +kernel
theorem dX12_byteOf_47 : decode cX12_byteOf 47 = .ok (.iload 6, 2) := by decide +kernel
theorem dX12_byteOf_49 : decode cX12_byteOf 49 = .ok (.bipush 24, 2) := by decide +kernel
theorem dX12_byteOf_51 : decode cX12_byteOf 51 = .ok (.bipush 8, 2) := by decide +kernel
theorem dX12_byteOf_53 : decode cX12_byteOf 53 = .ok (.iload 5, 2) := by decide +kernel
theorem dX12_byteOf_55 : decode cX12_byteOf 55 = .ok (.iconst 4, 1) := by decide +kernel
theorem dX12_byteOf_56 : decode cX12_byteOf 56 = .ok (.irem, 1) := by decide +kernel
theorem dX12_byteOf_57 : decode cX12_byteOf 57 = .ok (.imul, 1) := by decide +kernel
theorem dX12_byteOf_58 : decode cX12_byteOf 58 = .ok (.isub, 1) := by decide +kernel
theorem dX12_byteOf_59 : decode cX12_byteOf 59 = .ok (.ishr, 1) := by decide +kernel
theorem dX12_byteOf_60 : decode cX12_byteOf 60 = .ok (.sipush 255, 3) := by decide +kernel
theorem dX12_byteOf_63 : decode cX12_byteOf 63 = .ok (.iand, 1) := by decide +kernel
theorem dX12_byteOf_64 : decode cX12_byteOf 64 = .ok (.ireturn, 1) := by decide +kernel
theorem dX12_feed_0 : decode cX12_feed 0 = .ok (.iconst 0, 1) := by decide +kernel
theorem dX12_feed_1 : decode cX12_feed 1 = .ok (.istore 6, 2) := by decide +kernel
theorem dX12_feed_3 : decode cX12_feed 3 = .ok (.iconst 0, 1) := by decide +kernel
theorem dX12_feed_4 : decode cX12_feed 4 = .ok (.istore 7, 2) := by decide +kernel
theorem dX12_feed_6 : decode cX12_feed 6 = .ok (.iload 7, 2) := by decide +kernel
theorem dX12_feed_8 : decode cX12_feed 8 = .ok (.bipush 20, 2) := by decide +kernel
theorem dX12_feed_10 : decode cX12_feed 10 = .ok (.if_icmp .ge 34, 3) := by decide +kernel
theorem dX12_feed_13 : decode cX12_feed 13 = .ok (.iload 6, 2) := by decide +kernel
theorem dX12_feed_15 : decode cX12_feed 15 = .ok (.iload_n 1, 1) := by decide +kernel
theorem dX12_feed_16 : decode cX12_feed 16 = .ok (.iload_n 2, 1) := by decide +kernel
theorem dX12_feed_17 : decode cX12_feed 17 = .ok (.iload_n 3, 1) := by decide +kernel
theorem dX12_feed_18 : decode cX12_feed 18 = .ok (.iload 4, 2) := by decide +kernel
theorem dX12_feed_20 : decode cX12_feed 20 = .ok (.iload 5, 2) := by decide +kernel
theorem dX12_feed_22 : decode cX12_feed 22 = .ok (.iload 7, 2) := by decide +kernel
theorem dX12_feed_24 : decode cX12_feed 24 = .ok (.invokestatic 95, 3) := by decide +kernel
theorem dX12_feed_27 : decode cX12_feed 27 = .ok (.ifCond .eq 7, 3) := by decide +kernel
theorem dX12_feed_30 : decode cX12_feed 30 = .ok (.iconst 1, 1) := by decide +kernel
theorem dX12_feed_31 : decode cX12_feed 31 = .ok (.goto 4, 3) := by decide +kernel
theorem dX12_feed_34 : decode cX12_feed 34 = .ok (.iconst 0, 1) := by decide +kernel
theorem dX12_feed_35 : decode cX12_feed 35 = .ok (.iadd, 1) := by decide +kernel
theorem dX12_feed_36 : decode cX12_feed 36 = .ok (.istore 6, 2) := by decide +kernel
theorem dX12_feed_38 : decode cX12_feed 38 = .ok (.iinc 7 1, 3) := by decide +kernel
theorem dX12_feed_41 : decode cX12_feed 41 = .ok (.goto (-35), 3) := by decide +kernel
theorem dX12_feed_44 : decode cX12_feed 44 = .ok (.aload_n 0, 1) := by decide +kernel
theorem dX12_feed_45 : decode cX12_feed 45 = .ok (.getfield 99, 3) := by decide +kernel
theorem dX12_feed_48 : decode cX12_feed 48 = .ok (.iload 6, 2) := by decide +kernel
theorem dX12_feed_50 : decode cX12_feed 50 = .ok (.iadd, 1) := by decide +kernel
theorem dX12_feed_51 : decode cX12_feed 51 = .ok (.sipush 240, 3) := by decide +kernel
theorem dX12_feed_54 : decode cX12_feed 54 = .ok (.if_icmp .le 5, 3) := by decide +kernel
theorem dX12_feed_57 : decode cX12_feed 57 = .ok (.iconst (-1), 1) := by decide +kernel
theorem dX12_feed_58 : decode cX12_feed 58 = .ok (.ireturn, 1) := by decide +kernel
theorem dX12_feed_59 : decode cX12_feed 59 = .ok (.iconst 0, 1) := by decide +kernel
theorem dX12_feed_60 : decode cX12_feed 60 = .ok (.istore 7, 2) := by decide +kernel
theorem dX12_feed_62 : decode cX12_feed 62 = .ok (.iload 7, 2) := by decide +kernel
theorem dX12_feed_64 : decode cX12_feed 64 = .ok (.bipush 20, 2) := by decide +kernel
theorem dX12_feed_66 : decode cX12_feed 66 = .ok (.if_icmp .ge 49, 3) := by decide +kernel
theorem dX12_feed_69 : decode cX12_feed 69 = .ok (.iload_n 1, 1) := by decide +kernel
theorem dX12_feed_70 : decode cX12_feed 70 = .ok (.iload_n 2, 1) := by decide +kernel
theorem dX12_feed_71 : decode cX12_feed 71 = .ok (.iload_n 3, 1) := by decide +kernel
theorem dX12_feed_72 : decode cX12_feed 72 = .ok (.iload 4, 2) := by decide +kernel
theorem dX12_feed_74 : decode cX12_feed 74 = .ok (.iload 5, 2) := by decide +kernel
theorem dX12_feed_76 : decode cX12_feed 76 = .ok (.iload 7, 2) := by decide +kernel
theorem dX12_feed_78 : decode cX12_feed 78 = .ok (.invokestatic 95, 3) := by decide +kernel
theorem dX12_feed_81 : decode cX12_feed 81 = .ok (.istore 8, 2) := by decide +kernel
theorem dX12_feed_83 : decode cX12_feed 83 = .ok (.iload 8, 2) := by decide +kernel
theorem dX12_feed_85 : decode cX12_feed 85 = .ok (.ifCond .eq 24, 3) := by decide +kernel
theorem dX12_feed_88 : decode cX12_feed 88 = .ok (.aload_n 0, 1) := by decide +kernel
theorem dX12_feed_89 : decode cX12_feed 89 = .ok (.getfield 9, 3) := by decide +kernel
theorem dX12_feed_92 : decode cX12_feed 92 = .ok (.aload_n 0, 1) := by decide +kernel
theorem dX12_feed_93 : decode cX12_feed 93 = .ok (.getfield 99, 3) := by decide +kernel
theorem dX12_feed_96 : decode cX12_feed 96 = .ok (.iload 8, 2) := by decide +kernel
theorem dX12_feed_98 : decode cX12_feed 98 = .ok (.iastore, 1) := by decide +kernel
theorem dX12_feed_99 : decode cX12_feed 99 = .ok (.aload_n 0, 1) := by decide +kernel
theorem dX12_feed_100 : decode cX12_feed 100 = .ok (.dup, 1) := by decide +kernel
theorem dX12_feed_101 : decode cX12_feed 101 = .ok (.getfield 99, 3) := by decide +kernel
theorem dX12_feed_104 : decode cX12_feed 104 = .ok (.iconst 1, 1) := by decide +kernel
theorem dX12_feed_105 : decode cX12_feed 105 = .ok (.iadd, 1) := by decide +kernel
theorem dX12_feed_106 : decode cX12_feed 106 = .ok (.putfield 99, 3) := by decide +kernel
theorem dX12_feed_109 : decode cX12_feed 109 = .ok (.iinc 7 1, 3) := by decide +kernel
theorem dX12_feed_112 : decode cX12_feed 112 = .ok (.goto (-50), 3) := by decide +kernel
theorem dX12_feed_115 : decode cX12_feed 115 = .ok (.aload_n 0, 1) := by decide +kernel
theorem dX12_feed_116 : decode cX12_feed 116 = .ok (.getfield 99, 3) := by decide +kernel
theorem dX12_feed_119 : decode cX12_feed 119 = .ok (.ireturn, 1) := by decide +kernel
theorem dX12_end_0 : decode cX12_end 0 = .ok (.iload_n 1, 1) := by decide +kernel
theorem dX12_end_1 : decode cX12_end 1 = .ok (.ifCond .lt 11, 3) := by decide +kernel
theorem dX12_end_4 : decode cX12_end 4 = .ok (.iload_n 1, 1) := by decide +kernel
theorem dX12_end_5 : decode cX12_end 5 = .ok (.aload_n 0, 1) := by decide +kernel
theorem dX12_end_6 : decode cX12_end 6 = .ok (.getfield 99, 3) := by decide +kernel
theorem dX12_end_9 : decode cX12_end 9 = .ok (.if_icmp .le 5, 3) := by decide +kernel
theorem dX12_end_12 : decode cX12_end 12 = .ok (.iconst 0, 1) := by decide +kernel
theorem dX12_end_13 : decode cX12_end 13 = .ok (.ireturn, 1) := by decide +kernel
theorem dX12_end_14 : decode cX12_end 14 = .ok (.aload_n 0, 1) := by decide +kernel
theorem dX12_end_15 : decode cX12_end 15 = .ok (.iload_n 1, 1) := by decide +kernel
theorem dX12_end_16 : decode cX12_end 16 = .ok (.putfield 99, 3) := by decide +kernel
theorem dX12_end_19 : decode cX12_end 19 = .ok (.iconst 1, 1) := by decide +kernel
theorem dX12_end_20 : decode cX12_end 20 = .ok (.ireturn, 1) := by decide +kernel
theorem dX12_here_0 : decode cX12_here 0 = .ok (.aload_n 0, 1) := by decide +kernel
theorem dX12_here_1 : decode cX12_here 1 = .ok (.getfield 102, 3) := by decide +kernel
theorem dX12_here_4 : decode cX12_here 4 = .ok (.aload_n 0, 1) := by decide +kernel
theorem dX12_here_5 : decode cX12_here 5 = .ok (.getfield 99, 3) := by decide +kernel
theorem dX12_here_8 : decode cX12_here 8 = .ok (.if_icmp .ge 15, 3) := by decide +kernel
theorem dX12_here_11 : decode cX12_here 11 = .ok (.aload_n 0, 1) := by decide +kernel
theorem dX12_here_12 : decode cX12_here 12 = .ok (.getfield 9, 3) := by decide +kernel
theorem dX12_here_15 : decode cX12_here 15 = .ok (.aload_n 0, 1) := by decide +kernel
theorem dX12_here_16 : decode cX12_here 16 = .ok (.getfield 102, 3) := by decide +kernel
theorem dX12_here_19 : decode cX12_here 19 = .ok (.iaload, 1) := by decide +kernel
theorem dX12_here_20 : decode cX12_here 20 = .ok (.goto 4, 3) := by decide +kernel
theorem dX12_here_23 : decode cX12_here 23 = .ok (.iconst (-1), 1) := by decide +kernel
theorem dX12_here_24 : decode cX12_here 24 = .ok (.ireturn, 1) := by decide +kernel
theorem dX12_look_0 : decode cX12_look 0 = .ok (.aload_n 0, 1) := by decide +kernel
theorem dX12_look_1 : decode cX12_look 1 = .ok (.invokevirtual 105, 3) := by decide +kernel
theorem dX12_look_4 : decode cX12_look 4 = .ok (.bipush 32, 2) := by decide +kernel
theorem dX12_look_6 : decode cX12_look 6 = .ok (.if_icmp .ne 16, 3) := by decide +kernel
theorem dX12_look_9 : decode cX12_look 9 = .ok (.aload_n 0, 1) := by decide +kernel
theorem dX12_look_10 : decode cX12_look 10 = .ok (.dup, 1) := by decide +kernel
theorem dX12_look_11 : decode cX12_look 11 = .ok (.getfield 102, 3) := by decide +kernel
theorem dX12_look_14 : decode cX12_look 14 = .ok (.iconst 1, 1) := by decide +kernel
theorem dX12_look_15 : decode cX12_look 15 = .ok (.iadd, 1) := by decide +kernel
theorem dX12_look_16 : decode cX12_look 16 = .ok (.putfield 102, 3) := by decide +kernel
theorem dX12_look_19 : decode cX12_look 19 = .ok (.goto (-19), 3) := by decide +kernel
theorem dX12_look_22 : decode cX12_look 22 = .ok (.aload_n 0, 1) := by decide +kernel
theorem dX12_look_23 : decode cX12_look 23 = .ok (.invokevirtual 105, 3) := by decide +kernel
theorem dX12_look_26 : decode cX12_look 26 = .ok (.ireturn, 1) := by decide +kernel
theorem dX12_bad_0 : decode cX12_bad 0 = .ok (.aload_n 0, 1) := by decide +kernel
theorem dX12_bad_1 : decode cX12_bad 1 = .ok (.aload_n 0, 1) := by decide +kernel
theorem dX12_bad_2 : decode cX12_bad 2 = .ok (.getfield 109, 3) := by decide +kernel
theorem dX12_bad_5 : decode cX12_bad 5 = .ok (.iconst (-1), 1) := by decide +kernel
theorem dX12_bad_6 : decode cX12_bad 6 = .ok (.if_icmp .ne 10, 3) := by decide +kernel
theorem dX12_bad_9 : decode cX12_bad 9 = .ok (.aload_n 0, 1) := by decide +kernel
theorem dX12_bad_10 : decode cX12_bad 10 = .ok (.getfield 102, 3) := by decide +kernel
theorem dX12_bad_13 : decode cX12_bad 13 = .ok (.goto 7, 3) := by decide +kernel
theorem dX12_bad_16 : decode cX12_bad 16 = .ok (.aload_n 0, 1) := by decide +kernel
theorem dX12_bad_17 : decode cX12_bad 17 = .ok (.getfield 109, 3) := by decide +kernel
theorem dX12_bad_20 : decode cX12_bad 20 = .ok (.putfield 109, 3) := by decide +kernel
theorem dX12_bad_23 : decode cX12_bad 23 = .ok (.return_, 1) := by decide +kernel
theorem dX12_isDigit_0 : decode cX12_isDigit 0 = .ok (.iload_n 0, 1) := by decide +kernel
theorem dX12_isDigit_1 : decode cX12_isDigit 1 = .ok (.bipush 48, 2) := by decide +kernel
theorem dX12_isDigit_3 : decode cX12_isDigit 3 = .ok (.if_icmp .lt 13, 3) := by decide +kernel
theorem dX12_isDigit_6 : decode cX12_isDigit 6 = .ok (.iload_n 0, 1) := by decide +kernel
theorem dX12_isDigit_7 : decode cX12_isDigit 7 = .ok (.bipush 57, 2) := by decide +kernel
theorem dX12_isDigit_9 : decode cX12_isDigit 9 = .ok (.if_icmp .gt 7, 3) := by decide +kernel
theorem dX12_isDigit_12 : decode cX12_isDigit 12 = .ok (.iconst 1, 1) := by decide +kernel
theorem dX12_isDigit_13 : decode cX12_isDigit 13 = .ok (.goto 4, 3) := by decide +kernel
theorem dX12_isDigit_16 : decode cX12_isDigit 16 = .ok (.iconst 0, 1) := by decide +kernel
theorem dX12_isDigit_17 : decode cX12_isDigit 17 = .ok (.ireturn, 1) := by decide +kernel
theorem dX12_put_0 : decode cX12_put 0 = .ok (.aload_n 0, 1) := by decide +kernel
theorem dX12_put_1 : decode cX12_put 1 = .ok (.getfield 13, 3) := by decide +kernel
theorem dX12_put_4 : decode cX12_put 4 = .ok (.sipush 520, 3) := by decide +kernel
theorem dX12_put_7 : decode cX12_put 7 = .ok (.aload_n 0, 1) := by decide +kernel
theorem dX12_put_8 : decode cX12_put 8 = .ok (.getfield 112, 3) := by decide +kernel
theorem dX12_put_11 : decode cX12_put 11 = .ok (.imul, 1) := by decide +kernel
theorem dX12_put_12 : decode cX12_put 12 = .ok (.aload_n 0, 1) := by decide +kernel
theorem dX12_put_13 : decode cX12_put 13 = .ok (.getfield 19, 3) := by decide +kernel
theorem dX12_put_16 : decode cX12_put 16 = .ok (.aload_n 0, 1) := by decide +kernel
theorem dX12_put_17 : decode cX12_put 17 = .ok (.getfield 112, 3) := by decide +kernel
theorem dX12_put_20 : decode cX12_put 20 = .ok (.iaload, 1) := by decide +kernel
theorem dX12_put_21 : decode cX12_put 21 = .ok (.iadd, 1) := by decide +kernel
theorem dX12_put_22 : decode cX12_put 22 = .ok (.iload_n 1, 1) := by decide +kernel
theorem dX12_put_23 : decode cX12_put 23 = .ok (.iastore, 1) := by decide +kernel
theorem dX12_put_24 : decode cX12_put 24 = .ok (.aload_n 0, 1) := by decide +kernel
theorem dX12_put_25 : decode cX12_put 25 = .ok (.getfield 16, 3) := by decide +kernel
theorem dX12_put_28 : decode cX12_put 28 = .ok (.sipush 520, 3) := by decide +kernel
theorem dX12_put_31 : decode cX12_put 31 = .ok (.aload_n 0, 1) := by decide +kernel
theorem dX12_put_32 : decode cX12_put 32 = .ok (.getfield 112, 3) := by decide +kernel
theorem dX12_put_35 : decode cX12_put 35 = .ok (.imul, 1) := by decide +kernel
theorem dX12_put_36 : decode cX12_put 36 = .ok (.aload_n 0, 1) := by decide +kernel
theorem dX12_put_37 : decode cX12_put 37 = .ok (.getfield 19, 3) := by decide +kernel
theorem dX12_put_40 : decode cX12_put 40 = .ok (.aload_n 0, 1) := by decide +kernel
theorem dX12_put_41 : decode cX12_put 41 = .ok (.getfield 112, 3) := by decide +kernel
theorem dX12_put_44 : decode cX12_put 44 = .ok (.iaload, 1) := by decide +kernel
theorem dX12_put_45 : decode cX12_put 45 = .ok (.iadd, 1) := by decide +kernel
theorem dX12_put_46 : decode cX12_put 46 = .ok (.iload_n 2, 1) := by decide +kernel
theorem dX12_put_47 : decode cX12_put 47 = .ok (.iastore, 1) := by decide +kernel
theorem dX12_put_48 : decode cX12_put 48 = .ok (.aload_n 0, 1) := by decide +kernel
theorem dX12_put_49 : decode cX12_put 49 = .ok (.getfield 19, 3) := by decide +kernel
theorem dX12_put_52 : decode cX12_put 52 = .ok (.aload_n 0, 1) := by decide +kernel
theorem dX12_put_53 : decode cX12_put 53 = .ok (.getfield 112, 3) := by decide +kernel
theorem dX12_put_56 : decode cX12_put 56 = .ok (.dup2, 1) := by decide +kernel
theorem dX12_put_57 : decode cX12_put 57 = .ok (.iaload, 1) := by decide +kernel
theorem dX12_put_58 : decode cX12_put 58 = .ok (.iconst 1, 1) := by decide +kernel
theorem dX12_put_59 : decode cX12_put 59 = .ok (.iadd, 1) := by decide +kernel
theorem dX12_put_60 : decode cX12_put 60 = .ok (.iastore, 1) := by decide +kernel
theorem dX12_put_61 : decode cX12_put 61 = .ok (.return_, 1) := by decide +kernel
theorem dX12_letterOf_0 : decode cX12_letterOf 0 = .ok (.iload_n 0, 1) := by decide +kernel
theorem dX12_letterOf_1 : decode cX12_letterOf 1 = .ok (.bipush 115, 2) := by decide +kernel
theorem dX12_letterOf_3 : decode cX12_letterOf 3 = .ok (.if_icmp .ne 7, 3) := by decide +kernel
theorem dX12_letterOf_6 : decode cX12_letterOf 6 = .ok (.iconst 0, 1) := by decide +kernel
theorem dX12_letterOf_7 : decode cX12_letterOf 7 = .ok (.goto 54, 3) := by decide +kernel
theorem dX12_letterOf_10 : decode cX12_letterOf 10 = .ok (.iload_n 0, 1) := by decide +kernel
theorem dX12_letterOf_11 : decode cX12_letterOf 11 = .ok (.bipush 107, 2) := by decide +kernel
theorem dX12_letterOf_13 : decode cX12_letterOf 13 = .ok (.if_icmp .ne 7, 3) := by decide +kernel
theorem dX12_letterOf_16 : decode cX12_letterOf 16 = .ok (.iconst 1, 1) := by decide +kernel
theorem dX12_letterOf_17 : decode cX12_letterOf 17 = .ok (.goto 44, 3) := by decide +kernel
theorem dX12_letterOf_20 : decode cX12_letterOf 20 = .ok (.iload_n 0, 1) := by decide +kernel
theorem dX12_letterOf_21 : decode cX12_letterOf 21 = .ok (.bipush 97, 2) := by decide +kernel
theorem dX12_letterOf_23 : decode cX12_letterOf 23 = .ok (.if_icmp .ne 7, 3) := by decide +kernel
theorem dX12_letterOf_26 : decode cX12_letterOf 26 = .ok (.iconst 2, 1) := by decide +kernel
theorem dX12_letterOf_27 : decode cX12_letterOf 27 = .ok (.goto 34, 3) := by decide +kernel
theorem dX12_letterOf_30 : decode cX12_letterOf 30 = .ok (.iload_n 0, 1) := by decide +kernel
theorem dX12_letterOf_31 : decode cX12_letterOf 31 = .ok (.bipush 111, 2) := by decide +kernel
theorem dX12_letterOf_33 : decode cX12_letterOf 33 = .ok (.if_icmp .ne 7, 3) := by decide +kernel
theorem dX12_letterOf_36 : decode cX12_letterOf 36 = .ok (.iconst 3, 1) := by decide +kernel
theorem dX12_letterOf_37 : decode cX12_letterOf 37 = .ok (.goto 24, 3) := by decide +kernel
theorem dX12_letterOf_40 : decode cX12_letterOf 40 = .ok (.iload_n 0, 1) := by decide +kernel
theorem dX12_letterOf_41 : decode cX12_letterOf 41 = .ok (.bipush 119, 2) := by decide +kernel
theorem dX12_letterOf_43 : decode cX12_letterOf 43 = .ok (.if_icmp .ne 7, 3) := by decide +kernel
theorem dX12_letterOf_46 : decode cX12_letterOf 46 = .ok (.iconst 4, 1) := by decide +kernel
theorem dX12_letterOf_47 : decode cX12_letterOf 47 = .ok (.goto 14, 3) := by decide +kernel
theorem dX12_letterOf_50 : decode cX12_letterOf 50 = .ok (.iload_n 0, 1) := by decide +kernel
theorem dX12_letterOf_51 : decode cX12_letterOf 51 = .ok (.bipush 121, 2) := by decide +kernel
theorem dX12_letterOf_53 : decode cX12_letterOf 53 = .ok (.if_icmp .ne 7, 3) := by decide +kernel
theorem dX12_letterOf_56 : decode cX12_letterOf 56 = .ok (.iconst 5, 1) := by decide +kernel
theorem dX12_letterOf_57 : decode cX12_letterOf 57 = .ok (.goto 4, 3) := by decide +kernel
theorem dX12_letterOf_60 : decode cX12_letterOf 60 = .ok (.iconst (-1), 1) := by decide +kernel
theorem dX12_letterOf_61 : decode cX12_letterOf 61 = .ok (.ireturn, 1) := by decide +kernel
theorem dX12_opens_0 : decode cX12_opens 0 = .ok (.aload_n 0, 1) := by decide +kernel
theorem dX12_opens_1 : decode cX12_opens 1 = .ok (.getfield 115, 3) := by decide +kernel
theorem dX12_opens_4 : decode cX12_opens 4 = .ok (.bipush 6, 2) := by decide +kernel
theorem dX12_opens_6 : decode cX12_opens 6 = .ok (.if_icmp .ne 7, 3) := by decide +kernel
theorem dX12_opens_9 : decode cX12_opens 9 = .ok (.aload_n 0, 1) := by decide +kernel
theorem dX12_opens_10 : decode cX12_opens 10 = .ok (.invokevirtual 118, 3) := by decide +kernel
theorem dX12_opens_13 : decode cX12_opens 13 = .ok (.aload_n 0, 1) := by decide +kernel
theorem dX12_opens_14 : decode cX12_opens 14 = .ok (.dup, 1) := by decide +kernel
theorem dX12_opens_15 : decode cX12_opens 15 = .ok (.getfield 115, 3) := by decide +kernel
theorem dX12_opens_18 : decode cX12_opens 18 = .ok (.iconst 1, 1) := by decide +kernel
theorem dX12_opens_19 : decode cX12_opens 19 = .ok (.iadd, 1) := by decide +kernel
theorem dX12_opens_20 : decode cX12_opens 20 = .ok (.putfield 115, 3) := by decide +kernel
theorem dX12_opens_23 : decode cX12_opens 23 = .ok (.aload_n 0, 1) := by decide +kernel
theorem dX12_opens_24 : decode cX12_opens 24 = .ok (.dup, 1) := by decide +kernel
theorem dX12_opens_25 : decode cX12_opens 25 = .ok (.getfield 102, 3) := by decide +kernel
theorem dX12_opens_28 : decode cX12_opens 28 = .ok (.iconst 1, 1) := by decide +kernel
theorem dX12_opens_29 : decode cX12_opens 29 = .ok (.iadd, 1) := by decide +kernel
theorem dX12_opens_30 : decode cX12_opens 30 = .ok (.putfield 102, 3) := by decide +kernel
theorem dX12_opens_33 : decode cX12_opens 33 = .ok (.return_, 1) := by decide +kernel
theorem dX12_closes_0 : decode cX12_closes 0 = .ok (.aload_n 0, 1) := by decide +kernel
theorem dX12_closes_1 : decode cX12_closes 1 = .ok (.getfield 109, 3) := by decide +kernel
theorem dX12_closes_4 : decode cX12_closes 4 = .ok (.iconst (-1), 1) := by decide +kernel
theorem dX12_closes_5 : decode cX12_closes 5 = .ok (.if_icmp .ne 15, 3) := by decide +kernel
theorem dX12_closes_8 : decode cX12_closes 8 = .ok (.aload_n 0, 1) := by decide +kernel
theorem dX12_closes_9 : decode cX12_closes 9 = .ok (.invokevirtual 121, 3) := by decide +kernel
theorem dX12_closes_12 : decode cX12_closes 12 = .ok (.iload_n 1, 1) := by decide +kernel
theorem dX12_closes_13 : decode cX12_closes 13 = .ok (.if_icmp .eq 7, 3) := by decide +kernel
theorem dX12_closes_16 : decode cX12_closes 16 = .ok (.aload_n 0, 1) := by decide +kernel
theorem dX12_closes_17 : decode cX12_closes 17 = .ok (.invokevirtual 118, 3) := by decide +kernel
theorem dX12_closes_20 : decode cX12_closes 20 = .ok (.aload_n 0, 1) := by decide +kernel
theorem dX12_closes_21 : decode cX12_closes 21 = .ok (.dup, 1) := by decide +kernel
theorem dX12_closes_22 : decode cX12_closes 22 = .ok (.getfield 102, 3) := by decide +kernel
theorem dX12_closes_25 : decode cX12_closes 25 = .ok (.iconst 1, 1) := by decide +kernel
theorem dX12_closes_26 : decode cX12_closes 26 = .ok (.iadd, 1) := by decide +kernel
theorem dX12_closes_27 : decode cX12_closes 27 = .ok (.putfield 102, 3) := by decide +kernel
theorem dX12_closes_30 : decode cX12_closes 30 = .ok (.aload_n 0, 1) := by decide +kernel
theorem dX12_closes_31 : decode cX12_closes 31 = .ok (.dup, 1) := by decide +kernel
theorem dX12_closes_32 : decode cX12_closes 32 = .ok (.getfield 115, 3) := by decide +kernel
theorem dX12_closes_35 : decode cX12_closes 35 = .ok (.iconst 1, 1) := by decide +kernel
theorem dX12_closes_36 : decode cX12_closes 36 = .ok (.isub, 1) := by decide +kernel
theorem dX12_closes_37 : decode cX12_closes 37 = .ok (.putfield 115, 3) := by decide +kernel
theorem dX12_closes_40 : decode cX12_closes 40 = .ok (.return_, 1) := by decide +kernel
theorem dX12_plainNumber_0 : decode cX12_plainNumber 0 = .ok (.iconst 0, 1) := by decide +kernel
theorem dX12_plainNumber_1 : decode cX12_plainNumber 1 = .ok (.istore_n 1, 1) := by decide +kernel
theorem dX12_plainNumber_2 : decode cX12_plainNumber 2 = .ok (.iconst 0, 1) := by decide +kernel
theorem dX12_plainNumber_3 : decode cX12_plainNumber 3 = .ok (.istore_n 2, 1) := by decide +kernel
theorem dX12_plainNumber_4 : decode cX12_plainNumber 4 = .ok (.iload_n 2, 1) := by decide +kernel
theorem dX12_plainNumber_5 : decode cX12_plainNumber 5 = .ok (.iconst 4, 1) := by decide +kernel
theorem dX12_plainNumber_6 : decode cX12_plainNumber 6 = .ok (.if_icmp .ge 42, 3) := by decide +kernel
theorem dX12_plainNumber_9 : decode cX12_plainNumber 9 = .ok (.aload_n 0, 1) := by decide +kernel
theorem dX12_plainNumber_10 : decode cX12_plainNumber 10 = .ok (.invokevirtual 105, 3) := by decide +kernel
theorem dX12_plainNumber_13 : decode cX12_plainNumber 13 = .ok (.invokestatic 124, 3) := by decide +kernel
theorem dX12_plainNumber_16 : decode cX12_plainNumber 16 = .ok (.ifCond .eq 32, 3) := by decide +kernel
theorem dX12_plainNumber_19 : decode cX12_plainNumber 19 = .ok (.bipush 10, 2) := by decide +kernel
theorem dX12_plainNumber_21 : decode cX12_plainNumber 21 = .ok (.iload_n 1, 1) := by decide +kernel
theorem dX12_plainNumber_22 : decode cX12_plainNumber 22 = .ok (.imul, 1) := by decide +kernel
theorem dX12_plainNumber_23 : decode cX12_plainNumber 23 = .ok (.aload_n 0, 1) := by decide +kernel
theorem dX12_plainNumber_24 : decode cX12_plainNumber 24 = .ok (.invokevirtual 105, 3) := by decide +kernel
theorem dX12_plainNumber_27 : decode cX12_plainNumber 27 = .ok (.iadd, 1) := by decide +kernel
theorem dX12_plainNumber_28 : decode cX12_plainNumber 28 = .ok (.bipush 48, 2) := by decide +kernel
theorem dX12_plainNumber_30 : decode cX12_plainNumber 30 = .ok (.isub, 1) := by decide +kernel
theorem dX12_plainNumber_31 : decode cX12_plainNumber 31 = .ok (.istore_n 1, 1) := by decide +kernel
theorem dX12_plainNumber_32 : decode cX12_plainNumber 32 = .ok (.aload_n 0, 1) := by decide +kernel
theorem dX12_plainNumber_33 : decode cX12_plainNumber 33 = .ok (.dup, 1) := by decide +kernel
theorem dX12_plainNumber_34 : decode cX12_plainNumber 34 = .ok (.getfield 102, 3) := by decide +kernel
theorem dX12_plainNumber_37 : decode cX12_plainNumber 37 = .ok (.iconst 1, 1) := by decide +kernel
theorem dX12_plainNumber_38 : decode cX12_plainNumber 38 = .ok (.iadd, 1) := by decide +kernel
theorem dX12_plainNumber_39 : decode cX12_plainNumber 39 = .ok (.putfield 102, 3) := by decide +kernel
theorem dX12_plainNumber_42 : decode cX12_plainNumber 42 = .ok (.iinc 2 1, 3) := by decide +kernel
theorem dX12_plainNumber_45 : decode cX12_plainNumber 45 = .ok (.goto (-41), 3) := by decide +kernel
theorem dX12_plainNumber_48 : decode cX12_plainNumber 48 = .ok (.aload_n 0, 1) := by decide +kernel
theorem dX12_plainNumber_49 : decode cX12_plainNumber 49 = .ok (.invokevirtual 105, 3) := by decide +kernel
theorem dX12_plainNumber_52 : decode cX12_plainNumber 52 = .ok (.invokestatic 124, 3) := by decide +kernel
theorem dX12_plainNumber_55 : decode cX12_plainNumber 55 = .ok (.ifCond .eq 7, 3) := by decide +kernel
theorem dX12_plainNumber_58 : decode cX12_plainNumber 58 = .ok (.aload_n 0, 1) := by decide +kernel
theorem dX12_plainNumber_59 : decode cX12_plainNumber 59 = .ok (.invokevirtual 118, 3) := by decide +kernel
theorem dX12_plainNumber_62 : decode cX12_plainNumber 62 = .ok (.iload_n 1, 1) := by decide +kernel
theorem dX12_plainNumber_63 : decode cX12_plainNumber 63 = .ok (.ireturn, 1) := by decide +kernel
theorem dX12_atom_0 : decode cX12_atom 0 = .ok (.aload_n 0, 1) := by decide +kernel
theorem dX12_atom_1 : decode cX12_atom 1 = .ok (.invokevirtual 121, 3) := by decide +kernel
theorem dX12_atom_4 : decode cX12_atom 4 = .ok (.istore_n 1, 1) := by decide +kernel
theorem dX12_atom_5 : decode cX12_atom 5 = .ok (.iload_n 1, 1) := by decide +kernel
theorem dX12_atom_6 : decode cX12_atom 6 = .ok (.invokestatic 124, 3) := by decide +kernel
theorem dX12_atom_9 : decode cX12_atom 9 = .ok (.ifCond .eq 15, 3) := by decide +kernel
theorem dX12_atom_12 : decode cX12_atom 12 = .ok (.aload_n 0, 1) := by decide +kernel
theorem dX12_atom_13 : decode cX12_atom 13 = .ok (.iconst 0, 1) := by decide +kernel
theorem dX12_atom_14 : decode cX12_atom 14 = .ok (.aload_n 0, 1) := by decide +kernel
theorem dX12_atom_15 : decode cX12_atom 15 = .ok (.invokevirtual 128, 3) := by decide +kernel
theorem dX12_atom_18 : decode cX12_atom 18 = .ok (.invokevirtual 131, 3) := by decide +kernel
theorem dX12_atom_21 : decode cX12_atom 21 = .ok (.goto 68, 3) := by decide +kernel
theorem dX12_atom_24 : decode cX12_atom 24 = .ok (.iload_n 1, 1) := by decide +kernel
theorem dX12_atom_25 : decode cX12_atom 25 = .ok (.invokestatic 135, 3) := by decide +kernel
theorem dX12_atom_28 : decode cX12_atom 28 = .ok (.iconst (-1), 1) := by decide +kernel
theorem dX12_atom_29 : decode cX12_atom 29 = .ok (.if_icmp .eq 25, 3) := by decide +kernel
theorem dX12_atom_32 : decode cX12_atom 32 = .ok (.aload_n 0, 1) := by decide +kernel
theorem dX12_atom_33 : decode cX12_atom 33 = .ok (.dup, 1) := by decide +kernel
theorem dX12_atom_34 : decode cX12_atom 34 = .ok (.getfield 102, 3) := by decide +kernel
theorem dX12_atom_37 : decode cX12_atom 37 = .ok (.iconst 1, 1) := by decide +kernel
theorem dX12_atom_38 : decode cX12_atom 38 = .ok (.iadd, 1) := by decide +kernel
theorem dX12_atom_39 : decode cX12_atom 39 = .ok (.putfield 102, 3) := by decide +kernel
theorem dX12_atom_42 : decode cX12_atom 42 = .ok (.aload_n 0, 1) := by decide +kernel
theorem dX12_atom_43 : decode cX12_atom 43 = .ok (.iconst 1, 1) := by decide +kernel
theorem dX12_atom_44 : decode cX12_atom 44 = .ok (.iload_n 1, 1) := by decide +kernel
theorem dX12_atom_45 : decode cX12_atom 45 = .ok (.invokestatic 135, 3) := by decide +kernel
theorem dX12_atom_48 : decode cX12_atom 48 = .ok (.invokevirtual 131, 3) := by decide +kernel
theorem dX12_atom_51 : decode cX12_atom 51 = .ok (.goto 38, 3) := by decide +kernel
theorem dX12_atom_54 : decode cX12_atom 54 = .ok (.iload_n 1, 1) := by decide +kernel
theorem dX12_atom_55 : decode cX12_atom 55 = .ok (.bipush 91, 2) := by decide +kernel
theorem dX12_atom_57 : decode cX12_atom 57 = .ok (.if_icmp .ne 28, 3) := by decide +kernel
theorem dX12_atom_60 : decode cX12_atom 60 = .ok (.aload_n 0, 1) := by decide +kernel
theorem dX12_atom_61 : decode cX12_atom 61 = .ok (.invokevirtual 139, 3) := by decide +kernel
theorem dX12_atom_64 : decode cX12_atom 64 = .ok (.aload_n 0, 1) := by decide +kernel
theorem dX12_atom_65 : decode cX12_atom 65 = .ok (.getfield 109, 3) := by decide +kernel
theorem dX12_atom_68 : decode cX12_atom 68 = .ok (.iconst (-1), 1) := by decide +kernel
theorem dX12_atom_69 : decode cX12_atom 69 = .ok (.if_icmp .ne 20, 3) := by decide +kernel
theorem dX12_atom_72 : decode cX12_atom 72 = .ok (.aload_n 0, 1) := by decide +kernel
theorem dX12_atom_73 : decode cX12_atom 73 = .ok (.invokevirtual 142, 3) := by decide +kernel
theorem dX12_atom_76 : decode cX12_atom 76 = .ok (.aload_n 0, 1) := by decide +kernel
theorem dX12_atom_77 : decode cX12_atom 77 = .ok (.bipush 93, 2) := by decide +kernel
theorem dX12_atom_79 : decode cX12_atom 79 = .ok (.invokevirtual 145, 3) := by decide +kernel
theorem dX12_atom_82 : decode cX12_atom 82 = .ok (.goto 7, 3) := by decide +kernel
theorem dX12_atom_85 : decode cX12_atom 85 = .ok (.aload_n 0, 1) := by decide +kernel
theorem dX12_atom_86 : decode cX12_atom 86 = .ok (.invokevirtual 118, 3) := by decide +kernel
theorem dX12_atom_89 : decode cX12_atom 89 = .ok (.return_, 1) := by decide +kernel
theorem dX12_term_0 : decode cX12_term 0 = .ok (.aload_n 0, 1) := by decide +kernel
theorem dX12_term_1 : decode cX12_term 1 = .ok (.invokevirtual 149, 3) := by decide +kernel
theorem dX12_term_4 : decode cX12_term 4 = .ok (.aload_n 0, 1) := by decide +kernel
theorem dX12_term_5 : decode cX12_term 5 = .ok (.getfield 109, 3) := by decide +kernel
theorem dX12_term_8 : decode cX12_term 8 = .ok (.iconst (-1), 1) := by decide +kernel
theorem dX12_term_9 : decode cX12_term 9 = .ok (.if_icmp .ne 10, 3) := by decide +kernel
theorem dX12_term_12 : decode cX12_term 12 = .ok (.aload_n 0, 1) := by decide +kernel
theorem dX12_term_13 : decode cX12_term 13 = .ok (.invokevirtual 121, 3) := by decide +kernel
theorem dX12_term_16 : decode cX12_term 16 = .ok (.goto 4, 3) := by decide +kernel
theorem dX12_term_19 : decode cX12_term 19 = .ok (.iconst (-1), 1) := by decide +kernel
theorem dX12_term_20 : decode cX12_term 20 = .ok (.istore_n 1, 1) := by decide +kernel
theorem dX12_term_21 : decode cX12_term 21 = .ok (.iload_n 1, 1) := by decide +kernel
theorem dX12_term_22 : decode cX12_term 22 = .ok (.bipush 42, 2) := by decide +kernel
theorem dX12_term_24 : decode cX12_term 24 = .ok (.if_icmp .eq 9, 3) := by decide +kernel
theorem dX12_term_27 : decode cX12_term 27 = .ok (.iload_n 1, 1) := by decide +kernel
theorem dX12_term_28 : decode cX12_term 28 = .ok (.bipush 47, 2) := by decide +kernel
theorem dX12_term_30 : decode cX12_term 30 = .ok (.if_icmp .ne 53, 3) := by decide +kernel
theorem dX12_term_33 : decode cX12_term 33 = .ok (.aload_n 0, 1) := by decide +kernel
theorem dX12_term_34 : decode cX12_term 34 = .ok (.dup, 1) := by decide +kernel
theorem dX12_term_35 : decode cX12_term 35 = .ok (.getfield 102, 3) := by decide +kernel
theorem dX12_term_38 : decode cX12_term 38 = .ok (.iconst 1, 1) := by decide +kernel
theorem dX12_term_39 : decode cX12_term 39 = .ok (.iadd, 1) := by decide +kernel
theorem dX12_term_40 : decode cX12_term 40 = .ok (.putfield 102, 3) := by decide +kernel
theorem dX12_term_43 : decode cX12_term 43 = .ok (.aload_n 0, 1) := by decide +kernel
theorem dX12_term_44 : decode cX12_term 44 = .ok (.invokevirtual 149, 3) := by decide +kernel
theorem dX12_term_47 : decode cX12_term 47 = .ok (.aload_n 0, 1) := by decide +kernel
theorem dX12_term_48 : decode cX12_term 48 = .ok (.iload_n 1, 1) := by decide +kernel
theorem dX12_term_49 : decode cX12_term 49 = .ok (.bipush 42, 2) := by decide +kernel
theorem dX12_term_51 : decode cX12_term 51 = .ok (.if_icmp .ne 7, 3) := by decide +kernel
theorem dX12_term_54 : decode cX12_term 54 = .ok (.iconst 4, 1) := by decide +kernel
theorem dX12_term_55 : decode cX12_term 55 = .ok (.goto 4, 3) := by decide +kernel
theorem dX12_term_58 : decode cX12_term 58 = .ok (.iconst 5, 1) := by decide +kernel
theorem dX12_term_59 : decode cX12_term 59 = .ok (.iconst 0, 1) := by decide +kernel
theorem dX12_term_60 : decode cX12_term 60 = .ok (.invokevirtual 131, 3) := by decide +kernel
theorem dX12_term_63 : decode cX12_term 63 = .ok (.aload_n 0, 1) := by decide +kernel
theorem dX12_term_64 : decode cX12_term 64 = .ok (.getfield 109, 3) := by decide +kernel
theorem dX12_term_67 : decode cX12_term 67 = .ok (.iconst (-1), 1) := by decide +kernel
theorem dX12_term_68 : decode cX12_term 68 = .ok (.if_icmp .ne 10, 3) := by decide +kernel
theorem dX12_term_71 : decode cX12_term 71 = .ok (.aload_n 0, 1) := by decide +kernel
theorem dX12_term_72 : decode cX12_term 72 = .ok (.invokevirtual 121, 3) := by decide +kernel
theorem dX12_term_75 : decode cX12_term 75 = .ok (.goto 4, 3) := by decide +kernel
theorem dX12_term_78 : decode cX12_term 78 = .ok (.iconst (-1), 1) := by decide +kernel
theorem dX12_term_79 : decode cX12_term 79 = .ok (.istore_n 1, 1) := by decide +kernel
theorem dX12_term_80 : decode cX12_term 80 = .ok (.goto (-59), 3) := by decide +kernel
theorem dX12_term_83 : decode cX12_term 83 = .ok (.return_, 1) := by decide +kernel
theorem dX12_sum_0 : decode cX12_sum 0 = .ok (.aload_n 0, 1) := by decide +kernel
theorem dX12_sum_1 : decode cX12_sum 1 = .ok (.invokevirtual 152, 3) := by decide +kernel
theorem dX12_sum_4 : decode cX12_sum 4 = .ok (.aload_n 0, 1) := by decide +kernel
theorem dX12_sum_5 : decode cX12_sum 5 = .ok (.getfield 109, 3) := by decide +kernel
theorem dX12_sum_8 : decode cX12_sum 8 = .ok (.iconst (-1), 1) := by decide +kernel
theorem dX12_sum_9 : decode cX12_sum 9 = .ok (.if_icmp .ne 10, 3) := by decide +kernel
theorem dX12_sum_12 : decode cX12_sum 12 = .ok (.aload_n 0, 1) := by decide +kernel
theorem dX12_sum_13 : decode cX12_sum 13 = .ok (.invokevirtual 121, 3) := by decide +kernel
theorem dX12_sum_16 : decode cX12_sum 16 = .ok (.goto 4, 3) := by decide +kernel
theorem dX12_sum_19 : decode cX12_sum 19 = .ok (.iconst (-1), 1) := by decide +kernel
theorem dX12_sum_20 : decode cX12_sum 20 = .ok (.istore_n 1, 1) := by decide +kernel
theorem dX12_sum_21 : decode cX12_sum 21 = .ok (.iload_n 1, 1) := by decide +kernel
theorem dX12_sum_22 : decode cX12_sum 22 = .ok (.bipush 43, 2) := by decide +kernel
theorem dX12_sum_24 : decode cX12_sum 24 = .ok (.if_icmp .eq 9, 3) := by decide +kernel
theorem dX12_sum_27 : decode cX12_sum 27 = .ok (.iload_n 1, 1) := by decide +kernel
theorem dX12_sum_28 : decode cX12_sum 28 = .ok (.bipush 45, 2) := by decide +kernel
theorem dX12_sum_30 : decode cX12_sum 30 = .ok (.if_icmp .ne 53, 3) := by decide +kernel
theorem dX12_sum_33 : decode cX12_sum 33 = .ok (.aload_n 0, 1) := by decide +kernel
theorem dX12_sum_34 : decode cX12_sum 34 = .ok (.dup, 1) := by decide +kernel
theorem dX12_sum_35 : decode cX12_sum 35 = .ok (.getfield 102, 3) := by decide +kernel
theorem dX12_sum_38 : decode cX12_sum 38 = .ok (.iconst 1, 1) := by decide +kernel
theorem dX12_sum_39 : decode cX12_sum 39 = .ok (.iadd, 1) := by decide +kernel
theorem dX12_sum_40 : decode cX12_sum 40 = .ok (.putfield 102, 3) := by decide +kernel
theorem dX12_sum_43 : decode cX12_sum 43 = .ok (.aload_n 0, 1) := by decide +kernel
theorem dX12_sum_44 : decode cX12_sum 44 = .ok (.invokevirtual 152, 3) := by decide +kernel
theorem dX12_sum_47 : decode cX12_sum 47 = .ok (.aload_n 0, 1) := by decide +kernel
theorem dX12_sum_48 : decode cX12_sum 48 = .ok (.iload_n 1, 1) := by decide +kernel
theorem dX12_sum_49 : decode cX12_sum 49 = .ok (.bipush 43, 2) := by decide +kernel
theorem dX12_sum_51 : decode cX12_sum 51 = .ok (.if_icmp .ne 7, 3) := by decide +kernel
theorem dX12_sum_54 : decode cX12_sum 54 = .ok (.iconst 2, 1) := by decide +kernel
theorem dX12_sum_55 : decode cX12_sum 55 = .ok (.goto 4, 3) := by decide +kernel
theorem dX12_sum_58 : decode cX12_sum 58 = .ok (.iconst 3, 1) := by decide +kernel
theorem dX12_sum_59 : decode cX12_sum 59 = .ok (.iconst 0, 1) := by decide +kernel
theorem dX12_sum_60 : decode cX12_sum 60 = .ok (.invokevirtual 131, 3) := by decide +kernel
theorem dX12_sum_63 : decode cX12_sum 63 = .ok (.aload_n 0, 1) := by decide +kernel
theorem dX12_sum_64 : decode cX12_sum 64 = .ok (.getfield 109, 3) := by decide +kernel
theorem dX12_sum_67 : decode cX12_sum 67 = .ok (.iconst (-1), 1) := by decide +kernel
theorem dX12_sum_68 : decode cX12_sum 68 = .ok (.if_icmp .ne 10, 3) := by decide +kernel
theorem dX12_sum_71 : decode cX12_sum 71 = .ok (.aload_n 0, 1) := by decide +kernel
theorem dX12_sum_72 : decode cX12_sum 72 = .ok (.invokevirtual 121, 3) := by decide +kernel
theorem dX12_sum_75 : decode cX12_sum 75 = .ok (.goto 4, 3) := by decide +kernel
theorem dX12_sum_78 : decode cX12_sum 78 = .ok (.iconst (-1), 1) := by decide +kernel
theorem dX12_sum_79 : decode cX12_sum 79 = .ok (.istore_n 1, 1) := by decide +kernel
theorem dX12_sum_80 : decode cX12_sum 80 = .ok (.goto (-59), 3) := by decide +kernel
theorem dX12_sum_83 : decode cX12_sum 83 = .ok (.return_, 1) := by decide +kernel
theorem dX12_isSign_0 : decode cX12_isSign 0 = .ok (.iload_n 0, 1) := by decide +kernel
theorem dX12_isSign_1 : decode cX12_isSign 1 = .ok (.bipush 61, 2) := by decide +kernel
theorem dX12_isSign_3 : decode cX12_isSign 3 = .ok (.if_icmp .eq 15, 3) := by decide +kernel
theorem dX12_isSign_6 : decode cX12_isSign 6 = .ok (.iload_n 0, 1) := by decide +kernel
theorem dX12_isSign_7 : decode cX12_isSign 7 = .ok (.bipush 60, 2) := by decide +kernel
theorem dX12_isSign_9 : decode cX12_isSign 9 = .ok (.if_icmp .eq 9, 3) := by decide +kernel
theorem dX12_isSign_12 : decode cX12_isSign 12 = .ok (.iload_n 0, 1) := by decide +kernel
theorem dX12_isSign_13 : decode cX12_isSign 13 = .ok (.bipush 62, 2) := by decide +kernel
theorem dX12_isSign_15 : decode cX12_isSign 15 = .ok (.if_icmp .ne 7, 3) := by decide +kernel
theorem dX12_isSign_18 : decode cX12_isSign 18 = .ok (.iconst 1, 1) := by decide +kernel
theorem dX12_isSign_19 : decode cX12_isSign 19 = .ok (.goto 4, 3) := by decide +kernel
theorem dX12_isSign_22 : decode cX12_isSign 22 = .ok (.iconst 0, 1) := by decide +kernel
theorem dX12_isSign_23 : decode cX12_isSign 23 = .ok (.ireturn, 1) := by decide +kernel
theorem dX12_compare_0 : decode cX12_compare 0 = .ok (.aload_n 0, 1) := by decide +kernel
theorem dX12_compare_1 : decode cX12_compare 1 = .ok (.getfield 109, 3) := by decide +kernel
theorem dX12_compare_4 : decode cX12_compare 4 = .ok (.iconst (-1), 1) := by decide +kernel
theorem dX12_compare_5 : decode cX12_compare 5 = .ok (.if_icmp .ne 10, 3) := by decide +kernel
theorem dX12_compare_8 : decode cX12_compare 8 = .ok (.aload_n 0, 1) := by decide +kernel
theorem dX12_compare_9 : decode cX12_compare 9 = .ok (.invokevirtual 121, 3) := by decide +kernel
theorem dX12_compare_12 : decode cX12_compare 12 = .ok (.goto 4, 3) := by decide +kernel
theorem dX12_compare_15 : decode cX12_compare 15 = .ok (.iconst (-1), 1) := by decide +kernel
theorem dX12_compare_16 : decode cX12_compare 16 = .ok (.istore_n 1, 1) := by decide +kernel
theorem dX12_compare_17 : decode cX12_compare 17 = .ok (.iload_n 1, 1) := by decide +kernel
theorem dX12_compare_18 : decode cX12_compare 18 = .ok (.invokestatic 155, 3) := by decide +kernel
theorem dX12_compare_21 : decode cX12_compare 21 = .ok (.ifCond .ne 8, 3) := by decide +kernel
theorem dX12_compare_24 : decode cX12_compare 24 = .ok (.aload_n 0, 1) := by decide +kernel
theorem dX12_compare_25 : decode cX12_compare 25 = .ok (.invokevirtual 118, 3) := by decide +kernel
theorem dX12_compare_28 : decode cX12_compare 28 = .ok (.return_, 1) := by decide +kernel
theorem dX12_compare_29 : decode cX12_compare 29 = .ok (.aload_n 0, 1) := by decide +kernel
theorem dX12_compare_30 : decode cX12_compare 30 = .ok (.dup, 1) := by decide +kernel
theorem dX12_compare_31 : decode cX12_compare 31 = .ok (.getfield 102, 3) := by decide +kernel
theorem dX12_compare_34 : decode cX12_compare 34 = .ok (.iconst 1, 1) := by decide +kernel
theorem dX12_compare_35 : decode cX12_compare 35 = .ok (.iadd, 1) := by decide +kernel
theorem dX12_compare_36 : decode cX12_compare 36 = .ok (.putfield 102, 3) := by decide +kernel
theorem dX12_compare_39 : decode cX12_compare 39 = .ok (.aload_n 0, 1) := by decide +kernel
theorem dX12_compare_40 : decode cX12_compare 40 = .ok (.invokevirtual 142, 3) := by decide +kernel
theorem dX12_compare_43 : decode cX12_compare 43 = .ok (.aload_n 0, 1) := by decide +kernel
theorem dX12_compare_44 : decode cX12_compare 44 = .ok (.iload_n 1, 1) := by decide +kernel
theorem dX12_compare_45 : decode cX12_compare 45 = .ok (.bipush 61, 2) := by decide +kernel
theorem dX12_compare_47 : decode cX12_compare 47 = .ok (.if_icmp .ne 8, 3) := by decide +kernel
theorem dX12_compare_50 : decode cX12_compare 50 = .ok (.bipush 6, 2) := by decide +kernel
theorem dX12_compare_52 : decode cX12_compare 52 = .ok (.goto 16, 3) := by decide +kernel
theorem dX12_compare_55 : decode cX12_compare 55 = .ok (.iload_n 1, 1) := by decide +kernel
theorem dX12_compare_56 : decode cX12_compare 56 = .ok (.bipush 60, 2) := by decide +kernel
theorem dX12_compare_58 : decode cX12_compare 58 = .ok (.if_icmp .ne 8, 3) := by decide +kernel
theorem dX12_compare_61 : decode cX12_compare 61 = .ok (.bipush 7, 2) := by decide +kernel
theorem dX12_compare_63 : decode cX12_compare 63 = .ok (.goto 5, 3) := by decide +kernel
theorem dX12_compare_66 : decode cX12_compare 66 = .ok (.bipush 8, 2) := by decide +kernel
theorem dX12_compare_68 : decode cX12_compare 68 = .ok (.iconst 0, 1) := by decide +kernel
theorem dX12_compare_69 : decode cX12_compare 69 = .ok (.invokevirtual 131, 3) := by decide +kernel
theorem dX12_compare_72 : decode cX12_compare 72 = .ok (.return_, 1) := by decide +kernel
theorem dX12_unit_0 : decode cX12_unit 0 = .ok (.aload_n 0, 1) := by decide +kernel
theorem dX12_unit_1 : decode cX12_unit 1 = .ok (.invokevirtual 121, 3) := by decide +kernel
theorem dX12_unit_4 : decode cX12_unit 4 = .ok (.istore_n 1, 1) := by decide +kernel
theorem dX12_unit_5 : decode cX12_unit 5 = .ok (.iload_n 1, 1) := by decide +kernel
theorem dX12_unit_6 : decode cX12_unit 6 = .ok (.bipush 33, 2) := by decide +kernel
theorem dX12_unit_8 : decode cX12_unit 8 = .ok (.if_icmp .ne 39, 3) := by decide +kernel
theorem dX12_unit_11 : decode cX12_unit 11 = .ok (.aload_n 0, 1) := by decide +kernel
theorem dX12_unit_12 : decode cX12_unit 12 = .ok (.invokevirtual 139, 3) := by decide +kernel
theorem dX12_unit_15 : decode cX12_unit 15 = .ok (.aload_n 0, 1) := by decide +kernel
theorem dX12_unit_16 : decode cX12_unit 16 = .ok (.getfield 109, 3) := by decide +kernel
theorem dX12_unit_19 : decode cX12_unit 19 = .ok (.iconst (-1), 1) := by decide +kernel
theorem dX12_unit_20 : decode cX12_unit 20 = .ok (.if_icmp .ne 74, 3) := by decide +kernel
theorem dX12_unit_23 : decode cX12_unit 23 = .ok (.aload_n 0, 1) := by decide +kernel
theorem dX12_unit_24 : decode cX12_unit 24 = .ok (.invokevirtual 158, 3) := by decide +kernel
theorem dX12_unit_27 : decode cX12_unit 27 = .ok (.aload_n 0, 1) := by decide +kernel
theorem dX12_unit_28 : decode cX12_unit 28 = .ok (.bipush 9, 2) := by decide +kernel
theorem dX12_unit_30 : decode cX12_unit 30 = .ok (.iconst 0, 1) := by decide +kernel
theorem dX12_unit_31 : decode cX12_unit 31 = .ok (.invokevirtual 131, 3) := by decide +kernel
theorem dX12_unit_34 : decode cX12_unit 34 = .ok (.aload_n 0, 1) := by decide +kernel
theorem dX12_unit_35 : decode cX12_unit 35 = .ok (.dup, 1) := by decide +kernel
theorem dX12_unit_36 : decode cX12_unit 36 = .ok (.getfield 115, 3) := by decide +kernel
theorem dX12_unit_39 : decode cX12_unit 39 = .ok (.iconst 1, 1) := by decide +kernel
theorem dX12_unit_40 : decode cX12_unit 40 = .ok (.isub, 1) := by decide +kernel
theorem dX12_unit_41 : decode cX12_unit 41 = .ok (.putfield 115, 3) := by decide +kernel
theorem dX12_unit_44 : decode cX12_unit 44 = .ok (.goto 50, 3) := by decide +kernel
theorem dX12_unit_47 : decode cX12_unit 47 = .ok (.iload_n 1, 1) := by decide +kernel
theorem dX12_unit_48 : decode cX12_unit 48 = .ok (.bipush 40, 2) := by decide +kernel
theorem dX12_unit_50 : decode cX12_unit 50 = .ok (.if_icmp .ne 28, 3) := by decide +kernel
theorem dX12_unit_53 : decode cX12_unit 53 = .ok (.aload_n 0, 1) := by decide +kernel
theorem dX12_unit_54 : decode cX12_unit 54 = .ok (.invokevirtual 139, 3) := by decide +kernel
theorem dX12_unit_57 : decode cX12_unit 57 = .ok (.aload_n 0, 1) := by decide +kernel
theorem dX12_unit_58 : decode cX12_unit 58 = .ok (.getfield 109, 3) := by decide +kernel
theorem dX12_unit_61 : decode cX12_unit 61 = .ok (.iconst (-1), 1) := by decide +kernel
theorem dX12_unit_62 : decode cX12_unit 62 = .ok (.if_icmp .ne 32, 3) := by decide +kernel
theorem dX12_unit_65 : decode cX12_unit 65 = .ok (.aload_n 0, 1) := by decide +kernel
theorem dX12_unit_66 : decode cX12_unit 66 = .ok (.invokevirtual 161, 3) := by decide +kernel
theorem dX12_unit_69 : decode cX12_unit 69 = .ok (.aload_n 0, 1) := by decide +kernel
theorem dX12_unit_70 : decode cX12_unit 70 = .ok (.bipush 41, 2) := by decide +kernel
theorem dX12_unit_72 : decode cX12_unit 72 = .ok (.invokevirtual 145, 3) := by decide +kernel
theorem dX12_unit_75 : decode cX12_unit 75 = .ok (.goto 19, 3) := by decide +kernel
theorem dX12_unit_78 : decode cX12_unit 78 = .ok (.aload_n 0, 1) := by decide +kernel
theorem dX12_unit_79 : decode cX12_unit 79 = .ok (.invokevirtual 142, 3) := by decide +kernel
theorem dX12_unit_82 : decode cX12_unit 82 = .ok (.aload_n 0, 1) := by decide +kernel
theorem dX12_unit_83 : decode cX12_unit 83 = .ok (.getfield 109, 3) := by decide +kernel
theorem dX12_unit_86 : decode cX12_unit 86 = .ok (.iconst (-1), 1) := by decide +kernel
theorem dX12_unit_87 : decode cX12_unit 87 = .ok (.if_icmp .ne 7, 3) := by decide +kernel
theorem dX12_unit_90 : decode cX12_unit 90 = .ok (.aload_n 0, 1) := by decide +kernel
theorem dX12_unit_91 : decode cX12_unit 91 = .ok (.invokevirtual 164, 3) := by decide +kernel
theorem dX12_unit_94 : decode cX12_unit 94 = .ok (.return_, 1) := by decide +kernel
theorem dX12_goOnAnd_0 : decode cX12_goOnAnd 0 = .ok (.aload_n 0, 1) := by decide +kernel
theorem dX12_goOnAnd_1 : decode cX12_goOnAnd 1 = .ok (.getfield 109, 3) := by decide +kernel
theorem dX12_goOnAnd_4 : decode cX12_goOnAnd 4 = .ok (.iconst (-1), 1) := by decide +kernel
theorem dX12_goOnAnd_5 : decode cX12_goOnAnd 5 = .ok (.if_icmp .ne 36, 3) := by decide +kernel
theorem dX12_goOnAnd_8 : decode cX12_goOnAnd 8 = .ok (.aload_n 0, 1) := by decide +kernel
theorem dX12_goOnAnd_9 : decode cX12_goOnAnd 9 = .ok (.invokevirtual 121, 3) := by decide +kernel
theorem dX12_goOnAnd_12 : decode cX12_goOnAnd 12 = .ok (.bipush 38, 2) := by decide +kernel
theorem dX12_goOnAnd_14 : decode cX12_goOnAnd 14 = .ok (.if_icmp .ne 27, 3) := by decide +kernel
theorem dX12_goOnAnd_17 : decode cX12_goOnAnd 17 = .ok (.aload_n 0, 1) := by decide +kernel
theorem dX12_goOnAnd_18 : decode cX12_goOnAnd 18 = .ok (.dup, 1) := by decide +kernel
theorem dX12_goOnAnd_19 : decode cX12_goOnAnd 19 = .ok (.getfield 102, 3) := by decide +kernel
theorem dX12_goOnAnd_22 : decode cX12_goOnAnd 22 = .ok (.iconst 1, 1) := by decide +kernel
theorem dX12_goOnAnd_23 : decode cX12_goOnAnd 23 = .ok (.iadd, 1) := by decide +kernel
theorem dX12_goOnAnd_24 : decode cX12_goOnAnd 24 = .ok (.putfield 102, 3) := by decide +kernel
theorem dX12_goOnAnd_27 : decode cX12_goOnAnd 27 = .ok (.aload_n 0, 1) := by decide +kernel
theorem dX12_goOnAnd_28 : decode cX12_goOnAnd 28 = .ok (.invokevirtual 158, 3) := by decide +kernel
theorem dX12_goOnAnd_31 : decode cX12_goOnAnd 31 = .ok (.aload_n 0, 1) := by decide +kernel
theorem dX12_goOnAnd_32 : decode cX12_goOnAnd 32 = .ok (.bipush 10, 2) := by decide +kernel
theorem dX12_goOnAnd_34 : decode cX12_goOnAnd 34 = .ok (.iconst 0, 1) := by decide +kernel
theorem dX12_goOnAnd_35 : decode cX12_goOnAnd 35 = .ok (.invokevirtual 131, 3) := by decide +kernel
theorem dX12_goOnAnd_38 : decode cX12_goOnAnd 38 = .ok (.goto (-38), 3) := by decide +kernel
theorem dX12_goOnAnd_41 : decode cX12_goOnAnd 41 = .ok (.return_, 1) := by decide +kernel
theorem dX12_goOnOr_0 : decode cX12_goOnOr 0 = .ok (.aload_n 0, 1) := by decide +kernel
theorem dX12_goOnOr_1 : decode cX12_goOnOr 1 = .ok (.getfield 109, 3) := by decide +kernel
theorem dX12_goOnOr_4 : decode cX12_goOnOr 4 = .ok (.iconst (-1), 1) := by decide +kernel
theorem dX12_goOnOr_5 : decode cX12_goOnOr 5 = .ok (.if_icmp .ne 40, 3) := by decide +kernel
theorem dX12_goOnOr_8 : decode cX12_goOnOr 8 = .ok (.aload_n 0, 1) := by decide +kernel
theorem dX12_goOnOr_9 : decode cX12_goOnOr 9 = .ok (.invokevirtual 121, 3) := by decide +kernel
theorem dX12_goOnOr_12 : decode cX12_goOnOr 12 = .ok (.bipush 124, 2) := by decide +kernel
theorem dX12_goOnOr_14 : decode cX12_goOnOr 14 = .ok (.if_icmp .ne 31, 3) := by decide +kernel
theorem dX12_goOnOr_17 : decode cX12_goOnOr 17 = .ok (.aload_n 0, 1) := by decide +kernel
theorem dX12_goOnOr_18 : decode cX12_goOnOr 18 = .ok (.dup, 1) := by decide +kernel
theorem dX12_goOnOr_19 : decode cX12_goOnOr 19 = .ok (.getfield 102, 3) := by decide +kernel
theorem dX12_goOnOr_22 : decode cX12_goOnOr 22 = .ok (.iconst 1, 1) := by decide +kernel
theorem dX12_goOnOr_23 : decode cX12_goOnOr 23 = .ok (.iadd, 1) := by decide +kernel
theorem dX12_goOnOr_24 : decode cX12_goOnOr 24 = .ok (.putfield 102, 3) := by decide +kernel
theorem dX12_goOnOr_27 : decode cX12_goOnOr 27 = .ok (.aload_n 0, 1) := by decide +kernel
theorem dX12_goOnOr_28 : decode cX12_goOnOr 28 = .ok (.invokevirtual 158, 3) := by decide +kernel
theorem dX12_goOnOr_31 : decode cX12_goOnOr 31 = .ok (.aload_n 0, 1) := by decide +kernel
theorem dX12_goOnOr_32 : decode cX12_goOnOr 32 = .ok (.invokevirtual 167, 3) := by decide +kernel
theorem dX12_goOnOr_35 : decode cX12_goOnOr 35 = .ok (.aload_n 0, 1) := by decide +kernel
theorem dX12_goOnOr_36 : decode cX12_goOnOr 36 = .ok (.bipush 11, 2) := by decide +kernel
theorem dX12_goOnOr_38 : decode cX12_goOnOr 38 = .ok (.iconst 0, 1) := by decide +kernel
theorem dX12_goOnOr_39 : decode cX12_goOnOr 39 = .ok (.invokevirtual 131, 3) := by decide +kernel
theorem dX12_goOnOr_42 : decode cX12_goOnOr 42 = .ok (.goto (-42), 3) := by decide +kernel
theorem dX12_goOnOr_45 : decode cX12_goOnOr 45 = .ok (.return_, 1) := by decide +kernel
theorem dX12_condition_0 : decode cX12_condition 0 = .ok (.aload_n 0, 1) := by decide +kernel
theorem dX12_condition_1 : decode cX12_condition 1 = .ok (.invokevirtual 158, 3) := by decide +kernel
theorem dX12_condition_4 : decode cX12_condition 4 = .ok (.aload_n 0, 1) := by decide +kernel
theorem dX12_condition_5 : decode cX12_condition 5 = .ok (.invokevirtual 167, 3) := by decide +kernel
theorem dX12_condition_8 : decode cX12_condition 8 = .ok (.aload_n 0, 1) := by decide +kernel
theorem dX12_condition_9 : decode cX12_condition 9 = .ok (.invokevirtual 170, 3) := by decide +kernel
theorem dX12_condition_12 : decode cX12_condition 12 = .ok (.return_, 1) := by decide +kernel
theorem dX12_clause_0 : decode cX12_clause 0 = .ok (.sipush 140, 3) := by decide +kernel
theorem dX12_clause_3 : decode cX12_clause 3 = .ok (.aload_n 0, 1) := by decide +kernel
theorem dX12_clause_4 : decode cX12_clause 4 = .ok (.getfield 112, 3) := by decide +kernel
theorem dX12_clause_7 : decode cX12_clause 7 = .ok (.imul, 1) := by decide +kernel
theorem dX12_clause_8 : decode cX12_clause 8 = .ok (.aload_n 0, 1) := by decide +kernel
theorem dX12_clause_9 : decode cX12_clause 9 = .ok (.getfield 22, 3) := by decide +kernel
theorem dX12_clause_12 : decode cX12_clause 12 = .ok (.aload_n 0, 1) := by decide +kernel
theorem dX12_clause_13 : decode cX12_clause 13 = .ok (.getfield 112, 3) := by decide +kernel
theorem dX12_clause_16 : decode cX12_clause 16 = .ok (.iaload, 1) := by decide +kernel
theorem dX12_clause_17 : decode cX12_clause 17 = .ok (.iadd, 1) := by decide +kernel
theorem dX12_clause_18 : decode cX12_clause 18 = .ok (.istore_n 1, 1) := by decide +kernel
theorem dX12_clause_19 : decode cX12_clause 19 = .ok (.aload_n 0, 1) := by decide +kernel
theorem dX12_clause_20 : decode cX12_clause 20 = .ok (.getfield 109, 3) := by decide +kernel
theorem dX12_clause_23 : decode cX12_clause 23 = .ok (.iconst (-1), 1) := by decide +kernel
theorem dX12_clause_24 : decode cX12_clause 24 = .ok (.if_icmp .ne 16, 3) := by decide +kernel
theorem dX12_clause_27 : decode cX12_clause 27 = .ok (.aload_n 0, 1) := by decide +kernel
theorem dX12_clause_28 : decode cX12_clause 28 = .ok (.invokevirtual 121, 3) := by decide +kernel
theorem dX12_clause_31 : decode cX12_clause 31 = .ok (.bipush 121, 2) := by decide +kernel
theorem dX12_clause_33 : decode cX12_clause 33 = .ok (.if_icmp .eq 7, 3) := by decide +kernel
theorem dX12_clause_36 : decode cX12_clause 36 = .ok (.aload_n 0, 1) := by decide +kernel
theorem dX12_clause_37 : decode cX12_clause 37 = .ok (.invokevirtual 118, 3) := by decide +kernel
theorem dX12_clause_40 : decode cX12_clause 40 = .ok (.aload_n 0, 1) := by decide +kernel
theorem dX12_clause_41 : decode cX12_clause 41 = .ok (.dup, 1) := by decide +kernel
theorem dX12_clause_42 : decode cX12_clause 42 = .ok (.getfield 102, 3) := by decide +kernel
theorem dX12_clause_45 : decode cX12_clause 45 = .ok (.iconst 1, 1) := by decide +kernel
theorem dX12_clause_46 : decode cX12_clause 46 = .ok (.iadd, 1) := by decide +kernel
theorem dX12_clause_47 : decode cX12_clause 47 = .ok (.putfield 102, 3) := by decide +kernel
theorem dX12_clause_50 : decode cX12_clause 50 = .ok (.aload_n 0, 1) := by decide +kernel
theorem dX12_clause_51 : decode cX12_clause 51 = .ok (.getfield 109, 3) := by decide +kernel
theorem dX12_clause_54 : decode cX12_clause 54 = .ok (.iconst (-1), 1) := by decide +kernel
theorem dX12_clause_55 : decode cX12_clause 55 = .ok (.if_icmp .ne 16, 3) := by decide +kernel
theorem dX12_clause_58 : decode cX12_clause 58 = .ok (.aload_n 0, 1) := by decide +kernel
theorem dX12_clause_59 : decode cX12_clause 59 = .ok (.invokevirtual 121, 3) := by decide +kernel
theorem dX12_clause_62 : decode cX12_clause 62 = .ok (.bipush 58, 2) := by decide +kernel
theorem dX12_clause_64 : decode cX12_clause 64 = .ok (.if_icmp .eq 7, 3) := by decide +kernel
theorem dX12_clause_67 : decode cX12_clause 67 = .ok (.aload_n 0, 1) := by decide +kernel
theorem dX12_clause_68 : decode cX12_clause 68 = .ok (.invokevirtual 118, 3) := by decide +kernel
theorem dX12_clause_71 : decode cX12_clause 71 = .ok (.aload_n 0, 1) := by decide +kernel
theorem dX12_clause_72 : decode cX12_clause 72 = .ok (.dup, 1) := by decide +kernel
theorem dX12_clause_73 : decode cX12_clause 73 = .ok (.getfield 102, 3) := by decide +kernel
theorem dX12_clause_76 : decode cX12_clause 76 = .ok (.iconst 1, 1) := by decide +kernel
theorem dX12_clause_77 : decode cX12_clause 77 = .ok (.iadd, 1) := by decide +kernel
theorem dX12_clause_78 : decode cX12_clause 78 = .ok (.putfield 102, 3) := by decide +kernel
theorem dX12_clause_81 : decode cX12_clause 81 = .ok (.aload_n 0, 1) := by decide +kernel
theorem dX12_clause_82 : decode cX12_clause 82 = .ok (.getfield 109, 3) := by decide +kernel
theorem dX12_clause_85 : decode cX12_clause 85 = .ok (.iconst (-1), 1) := by decide +kernel
theorem dX12_clause_86 : decode cX12_clause 86 = .ok (.if_icmp .eq 4, 3) := by decide +kernel
theorem dX12_clause_89 : decode cX12_clause 89 = .ok (.return_, 1) := by decide +kernel
theorem dX12_clause_90 : decode cX12_clause 90 = .ok (.aload_n 0, 1) := by decide +kernel
theorem dX12_clause_91 : decode cX12_clause 91 = .ok (.getfield 25, 3) := by decide +kernel
theorem dX12_clause_94 : decode cX12_clause 94 = .ok (.iload_n 1, 1) := by decide +kernel
theorem dX12_clause_95 : decode cX12_clause 95 = .ok (.aload_n 0, 1) := by decide +kernel
theorem dX12_clause_96 : decode cX12_clause 96 = .ok (.getfield 19, 3) := by decide +kernel
theorem dX12_clause_99 : decode cX12_clause 99 = .ok (.aload_n 0, 1) := by decide +kernel
theorem dX12_clause_100 : decode cX12_clause 100 = .ok (.getfield 112, 3) := by decide +kernel
theorem dX12_clause_103 : decode cX12_clause 103 = .ok (.iaload, 1) := by decide +kernel
theorem dX12_clause_104 : decode cX12_clause 104 = .ok (.iastore, 1) := by decide +kernel
theorem dX12_clause_105 : decode cX12_clause 105 = .ok (.aload_n 0, 1) := by decide +kernel
theorem dX12_clause_106 : decode cX12_clause 106 = .ok (.invokevirtual 121, 3) := by decide +kernel
theorem dX12_clause_109 : decode cX12_clause 109 = .ok (.bipush 33, 2) := by decide +kernel
theorem dX12_clause_111 : decode cX12_clause 111 = .ok (.if_icmp .eq 12, 3) := by decide +kernel
theorem dX12_clause_114 : decode cX12_clause 114 = .ok (.aload_n 0, 1) := by decide +kernel
theorem dX12_clause_115 : decode cX12_clause 115 = .ok (.invokevirtual 121, 3) := by decide +kernel
theorem dX12_clause_118 : decode cX12_clause 118 = .ok (.bipush 40, 2) := by decide +kernel
theorem dX12_clause_120 : decode cX12_clause 120 = .ok (.if_icmp .ne 7, 3) := by decide +kernel
theorem dX12_clause_123 : decode cX12_clause 123 = .ok (.iconst 1, 1) := by decide +kernel
theorem dX12_clause_124 : decode cX12_clause 124 = .ok (.goto 4, 3) := by decide +kernel
theorem dX12_clause_127 : decode cX12_clause 127 = .ok (.iconst 0, 1) := by decide +kernel
theorem dX12_clause_128 : decode cX12_clause 128 = .ok (.istore_n 2, 1) := by decide +kernel
theorem dX12_clause_129 : decode cX12_clause 129 = .ok (.iload_n 2, 1) := by decide +kernel
theorem dX12_clause_130 : decode cX12_clause 130 = .ok (.ifCond .eq 10, 3) := by decide +kernel
theorem dX12_clause_133 : decode cX12_clause 133 = .ok (.aload_n 0, 1) := by decide +kernel
theorem dX12_clause_134 : decode cX12_clause 134 = .ok (.invokevirtual 161, 3) := by decide +kernel
theorem dX12_clause_137 : decode cX12_clause 137 = .ok (.goto 47, 3) := by decide +kernel
theorem dX12_clause_140 : decode cX12_clause 140 = .ok (.aload_n 0, 1) := by decide +kernel
theorem dX12_clause_141 : decode cX12_clause 141 = .ok (.invokevirtual 142, 3) := by decide +kernel
theorem dX12_clause_144 : decode cX12_clause 144 = .ok (.aload_n 0, 1) := by decide +kernel
theorem dX12_clause_145 : decode cX12_clause 145 = .ok (.getfield 109, 3) := by decide +kernel
theorem dX12_clause_148 : decode cX12_clause 148 = .ok (.iconst (-1), 1) := by decide +kernel
theorem dX12_clause_149 : decode cX12_clause 149 = .ok (.if_icmp .ne 17, 3) := by decide +kernel
theorem dX12_clause_152 : decode cX12_clause 152 = .ok (.aload_n 0, 1) := by decide +kernel
theorem dX12_clause_153 : decode cX12_clause 153 = .ok (.invokevirtual 121, 3) := by decide +kernel
theorem dX12_clause_156 : decode cX12_clause 156 = .ok (.invokestatic 155, 3) := by decide +kernel
theorem dX12_clause_159 : decode cX12_clause 159 = .ok (.ifCond .eq 7, 3) := by decide +kernel
theorem dX12_clause_162 : decode cX12_clause 162 = .ok (.iconst 1, 1) := by decide +kernel
theorem dX12_clause_163 : decode cX12_clause 163 = .ok (.goto 4, 3) := by decide +kernel
theorem dX12_clause_166 : decode cX12_clause 166 = .ok (.iconst 0, 1) := by decide +kernel
theorem dX12_clause_167 : decode cX12_clause 167 = .ok (.istore_n 2, 1) := by decide +kernel
theorem dX12_clause_168 : decode cX12_clause 168 = .ok (.iload_n 2, 1) := by decide +kernel
theorem dX12_clause_169 : decode cX12_clause 169 = .ok (.ifCond .eq 15, 3) := by decide +kernel
theorem dX12_clause_172 : decode cX12_clause 172 = .ok (.aload_n 0, 1) := by decide +kernel
theorem dX12_clause_173 : decode cX12_clause 173 = .ok (.invokevirtual 164, 3) := by decide +kernel
theorem dX12_clause_176 : decode cX12_clause 176 = .ok (.aload_n 0, 1) := by decide +kernel
theorem dX12_clause_177 : decode cX12_clause 177 = .ok (.invokevirtual 167, 3) := by decide +kernel
theorem dX12_clause_180 : decode cX12_clause 180 = .ok (.aload_n 0, 1) := by decide +kernel
theorem dX12_clause_181 : decode cX12_clause 181 = .ok (.invokevirtual 170, 3) := by decide +kernel
theorem dX12_clause_184 : decode cX12_clause 184 = .ok (.aload_n 0, 1) := by decide +kernel
theorem dX12_clause_185 : decode cX12_clause 185 = .ok (.getfield 28, 3) := by decide +kernel
theorem dX12_clause_188 : decode cX12_clause 188 = .ok (.iload_n 1, 1) := by decide +kernel
theorem dX12_clause_189 : decode cX12_clause 189 = .ok (.aload_n 0, 1) := by decide +kernel
theorem dX12_clause_190 : decode cX12_clause 190 = .ok (.getfield 25, 3) := by decide +kernel
theorem dX12_clause_193 : decode cX12_clause 193 = .ok (.iload_n 1, 1) := by decide +kernel
theorem dX12_clause_194 : decode cX12_clause 194 = .ok (.iaload, 1) := by decide +kernel
theorem dX12_clause_195 : decode cX12_clause 195 = .ok (.iastore, 1) := by decide +kernel
theorem dX12_clause_196 : decode cX12_clause 196 = .ok (.iload_n 2, 1) := by decide +kernel
theorem dX12_clause_197 : decode cX12_clause 197 = .ok (.ifCond .eq 54, 3) := by decide +kernel
theorem dX12_clause_200 : decode cX12_clause 200 = .ok (.aload_n 0, 1) := by decide +kernel
theorem dX12_clause_201 : decode cX12_clause 201 = .ok (.getfield 109, 3) := by decide +kernel
theorem dX12_clause_204 : decode cX12_clause 204 = .ok (.iconst (-1), 1) := by decide +kernel
theorem dX12_clause_205 : decode cX12_clause 205 = .ok (.if_icmp .ne 46, 3) := by decide +kernel
theorem dX12_clause_208 : decode cX12_clause 208 = .ok (.aload_n 0, 1) := by decide +kernel
theorem dX12_clause_209 : decode cX12_clause 209 = .ok (.invokevirtual 121, 3) := by decide +kernel
theorem dX12_clause_212 : decode cX12_clause 212 = .ok (.bipush 63, 2) := by decide +kernel
theorem dX12_clause_214 : decode cX12_clause 214 = .ok (.if_icmp .eq 8, 3) := by decide +kernel
theorem dX12_clause_217 : decode cX12_clause 217 = .ok (.aload_n 0, 1) := by decide +kernel
theorem dX12_clause_218 : decode cX12_clause 218 = .ok (.invokevirtual 118, 3) := by decide +kernel
theorem dX12_clause_221 : decode cX12_clause 221 = .ok (.return_, 1) := by decide +kernel
theorem dX12_clause_222 : decode cX12_clause 222 = .ok (.aload_n 0, 1) := by decide +kernel
theorem dX12_clause_223 : decode cX12_clause 223 = .ok (.dup, 1) := by decide +kernel
theorem dX12_clause_224 : decode cX12_clause 224 = .ok (.getfield 102, 3) := by decide +kernel
theorem dX12_clause_227 : decode cX12_clause 227 = .ok (.iconst 1, 1) := by decide +kernel
theorem dX12_clause_228 : decode cX12_clause 228 = .ok (.iadd, 1) := by decide +kernel
theorem dX12_clause_229 : decode cX12_clause 229 = .ok (.putfield 102, 3) := by decide +kernel
theorem dX12_clause_232 : decode cX12_clause 232 = .ok (.aload_n 0, 1) := by decide +kernel
theorem dX12_clause_233 : decode cX12_clause 233 = .ok (.getfield 28, 3) := by decide +kernel
theorem dX12_clause_236 : decode cX12_clause 236 = .ok (.iload_n 1, 1) := by decide +kernel
theorem dX12_clause_237 : decode cX12_clause 237 = .ok (.aload_n 0, 1) := by decide +kernel
theorem dX12_clause_238 : decode cX12_clause 238 = .ok (.getfield 19, 3) := by decide +kernel
theorem dX12_clause_241 : decode cX12_clause 241 = .ok (.aload_n 0, 1) := by decide +kernel
theorem dX12_clause_242 : decode cX12_clause 242 = .ok (.getfield 112, 3) := by decide +kernel
theorem dX12_clause_245 : decode cX12_clause 245 = .ok (.iaload, 1) := by decide +kernel
theorem dX12_clause_246 : decode cX12_clause 246 = .ok (.iastore, 1) := by decide +kernel
theorem dX12_clause_247 : decode cX12_clause 247 = .ok (.aload_n 0, 1) := by decide +kernel
theorem dX12_clause_248 : decode cX12_clause 248 = .ok (.invokevirtual 142, 3) := by decide +kernel
theorem dX12_clause_251 : decode cX12_clause 251 = .ok (.aload_n 0, 1) := by decide +kernel
theorem dX12_clause_252 : decode cX12_clause 252 = .ok (.getfield 31, 3) := by decide +kernel
theorem dX12_clause_255 : decode cX12_clause 255 = .ok (.iload_n 1, 1) := by decide +kernel
theorem dX12_clause_256 : decode cX12_clause 256 = .ok (.aload_n 0, 1) := by decide +kernel
theorem dX12_clause_257 : decode cX12_clause 257 = .ok (.getfield 19, 3) := by decide +kernel
theorem dX12_clause_260 : decode cX12_clause 260 = .ok (.aload_n 0, 1) := by decide +kernel
theorem dX12_clause_261 : decode cX12_clause 261 = .ok (.getfield 112, 3) := by decide +kernel
theorem dX12_clause_264 : decode cX12_clause 264 = .ok (.iaload, 1) := by decide +kernel
theorem dX12_clause_265 : decode cX12_clause 265 = .ok (.iastore, 1) := by decide +kernel
theorem dX12_clause_266 : decode cX12_clause 266 = .ok (.aload_n 0, 1) := by decide +kernel
theorem dX12_clause_267 : decode cX12_clause 267 = .ok (.getfield 22, 3) := by decide +kernel
theorem dX12_clause_270 : decode cX12_clause 270 = .ok (.aload_n 0, 1) := by decide +kernel
theorem dX12_clause_271 : decode cX12_clause 271 = .ok (.getfield 112, 3) := by decide +kernel
theorem dX12_clause_274 : decode cX12_clause 274 = .ok (.dup2, 1) := by decide +kernel
theorem dX12_clause_275 : decode cX12_clause 275 = .ok (.iaload, 1) := by decide +kernel
theorem dX12_clause_276 : decode cX12_clause 276 = .ok (.iconst 1, 1) := by decide +kernel
theorem dX12_clause_277 : decode cX12_clause 277 = .ok (.iadd, 1) := by decide +kernel
theorem dX12_clause_278 : decode cX12_clause 278 = .ok (.iastore, 1) := by decide +kernel
theorem dX12_clause_279 : decode cX12_clause 279 = .ok (.return_, 1) := by decide +kernel
theorem dX12_open_0 : decode cX12_open 0 = .ok (.aload_n 0, 1) := by decide +kernel
theorem dX12_open_1 : decode cX12_open 1 = .ok (.iload_n 1, 1) := by decide +kernel
theorem dX12_open_2 : decode cX12_open 2 = .ok (.putfield 112, 3) := by decide +kernel
theorem dX12_open_5 : decode cX12_open 5 = .ok (.aload_n 0, 1) := by decide +kernel
theorem dX12_open_6 : decode cX12_open 6 = .ok (.iconst 0, 1) := by decide +kernel
theorem dX12_open_7 : decode cX12_open 7 = .ok (.putfield 102, 3) := by decide +kernel
theorem dX12_open_10 : decode cX12_open 10 = .ok (.aload_n 0, 1) := by decide +kernel
theorem dX12_open_11 : decode cX12_open 11 = .ok (.iconst (-1), 1) := by decide +kernel
theorem dX12_open_12 : decode cX12_open 12 = .ok (.putfield 109, 3) := by decide +kernel
theorem dX12_open_15 : decode cX12_open 15 = .ok (.aload_n 0, 1) := by decide +kernel
theorem dX12_open_16 : decode cX12_open 16 = .ok (.iconst 0, 1) := by decide +kernel
theorem dX12_open_17 : decode cX12_open 17 = .ok (.putfield 115, 3) := by decide +kernel
theorem dX12_open_20 : decode cX12_open 20 = .ok (.aload_n 0, 1) := by decide +kernel
theorem dX12_open_21 : decode cX12_open 21 = .ok (.getfield 19, 3) := by decide +kernel
theorem dX12_open_24 : decode cX12_open 24 = .ok (.iload_n 1, 1) := by decide +kernel
theorem dX12_open_25 : decode cX12_open 25 = .ok (.iconst 0, 1) := by decide +kernel
theorem dX12_open_26 : decode cX12_open 26 = .ok (.iastore, 1) := by decide +kernel
theorem dX12_open_27 : decode cX12_open 27 = .ok (.aload_n 0, 1) := by decide +kernel
theorem dX12_open_28 : decode cX12_open 28 = .ok (.getfield 22, 3) := by decide +kernel
theorem dX12_open_31 : decode cX12_open 31 = .ok (.iload_n 1, 1) := by decide +kernel
theorem dX12_open_32 : decode cX12_open 32 = .ok (.iconst 0, 1) := by decide +kernel
theorem dX12_open_33 : decode cX12_open 33 = .ok (.iastore, 1) := by decide +kernel
theorem dX12_open_34 : decode cX12_open 34 = .ok (.return_, 1) := by decide +kernel
theorem dX12_atEnd_0 : decode cX12_atEnd 0 = .ok (.aload_n 0, 1) := by decide +kernel
theorem dX12_atEnd_1 : decode cX12_atEnd 1 = .ok (.getfield 109, 3) := by decide +kernel
theorem dX12_atEnd_4 : decode cX12_atEnd 4 = .ok (.iconst (-1), 1) := by decide +kernel
theorem dX12_atEnd_5 : decode cX12_atEnd 5 = .ok (.if_icmp .ne 15, 3) := by decide +kernel
theorem dX12_atEnd_8 : decode cX12_atEnd 8 = .ok (.aload_n 0, 1) := by decide +kernel
theorem dX12_atEnd_9 : decode cX12_atEnd 9 = .ok (.invokevirtual 121, 3) := by decide +kernel
theorem dX12_atEnd_12 : decode cX12_atEnd 12 = .ok (.iconst (-1), 1) := by decide +kernel
theorem dX12_atEnd_13 : decode cX12_atEnd 13 = .ok (.if_icmp .eq 7, 3) := by decide +kernel
theorem dX12_atEnd_16 : decode cX12_atEnd 16 = .ok (.aload_n 0, 1) := by decide +kernel
theorem dX12_atEnd_17 : decode cX12_atEnd 17 = .ok (.invokevirtual 118, 3) := by decide +kernel
theorem dX12_atEnd_20 : decode cX12_atEnd 20 = .ok (.aload_n 0, 1) := by decide +kernel
theorem dX12_atEnd_21 : decode cX12_atEnd 21 = .ok (.getfield 109, 3) := by decide +kernel
theorem dX12_atEnd_24 : decode cX12_atEnd 24 = .ok (.ireturn, 1) := by decide +kernel
theorem dX12_readLaw_0 : decode cX12_readLaw 0 = .ok (.aload_n 0, 1) := by decide +kernel
theorem dX12_readLaw_1 : decode cX12_readLaw 1 = .ok (.iload_n 1, 1) := by decide +kernel
theorem dX12_readLaw_2 : decode cX12_readLaw 2 = .ok (.invokevirtual 173, 3) := by decide +kernel
theorem dX12_readLaw_5 : decode cX12_readLaw 5 = .ok (.aload_n 0, 1) := by decide +kernel
theorem dX12_readLaw_6 : decode cX12_readLaw 6 = .ok (.invokevirtual 176, 3) := by decide +kernel
theorem dX12_readLaw_9 : decode cX12_readLaw 9 = .ok (.aload_n 0, 1) := by decide +kernel
theorem dX12_readLaw_10 : decode cX12_readLaw 10 = .ok (.getfield 109, 3) := by decide +kernel
theorem dX12_readLaw_13 : decode cX12_readLaw 13 = .ok (.iconst (-1), 1) := by decide +kernel
theorem dX12_readLaw_14 : decode cX12_readLaw 14 = .ok (.if_icmp .ne 29, 3) := by decide +kernel
theorem dX12_readLaw_17 : decode cX12_readLaw 17 = .ok (.aload_n 0, 1) := by decide +kernel
theorem dX12_readLaw_18 : decode cX12_readLaw 18 = .ok (.invokevirtual 121, 3) := by decide +kernel
theorem dX12_readLaw_21 : decode cX12_readLaw 21 = .ok (.bipush 59, 2) := by decide +kernel
theorem dX12_readLaw_23 : decode cX12_readLaw 23 = .ok (.if_icmp .ne 20, 3) := by decide +kernel
theorem dX12_readLaw_26 : decode cX12_readLaw 26 = .ok (.aload_n 0, 1) := by decide +kernel
theorem dX12_readLaw_27 : decode cX12_readLaw 27 = .ok (.dup, 1) := by decide +kernel
theorem dX12_readLaw_28 : decode cX12_readLaw 28 = .ok (.getfield 102, 3) := by decide +kernel
theorem dX12_readLaw_31 : decode cX12_readLaw 31 = .ok (.iconst 1, 1) := by decide +kernel
theorem dX12_readLaw_32 : decode cX12_readLaw 32 = .ok (.iadd, 1) := by decide +kernel
theorem dX12_readLaw_33 : decode cX12_readLaw 33 = .ok (.putfield 102, 3) := by decide +kernel
theorem dX12_readLaw_36 : decode cX12_readLaw 36 = .ok (.aload_n 0, 1) := by decide +kernel
theorem dX12_readLaw_37 : decode cX12_readLaw 37 = .ok (.invokevirtual 176, 3) := by decide +kernel
theorem dX12_readLaw_40 : decode cX12_readLaw 40 = .ok (.goto (-31), 3) := by decide +kernel
theorem dX12_readLaw_43 : decode cX12_readLaw 43 = .ok (.aload_n 0, 1) := by decide +kernel
theorem dX12_readLaw_44 : decode cX12_readLaw 44 = .ok (.invokevirtual 179, 3) := by decide +kernel
theorem dX12_readLaw_47 : decode cX12_readLaw 47 = .ok (.ireturn, 1) := by decide +kernel
theorem dX12_bounded_0 : decode cX12_bounded 0 = .ok (.ldc2_w 182, 3) := by decide +kernel
theorem dX12_bounded_3 : decode cX12_bounded 3 = .ok (.ldc2_w 184, 3) := by decide +kernel
theorem dX12_bounded_6 : decode cX12_bounded 6 = .ok (.lload_n 0, 1) := by decide +kernel
theorem dX12_bounded_7 : decode cX12_bounded 7 = .ok (.invokestatic 186, 3) := by decide +kernel
theorem dX12_bounded_10 : decode cX12_bounded 10 = .ok (.invokestatic 192, 3) := by decide +kernel
theorem dX12_bounded_13 : decode cX12_bounded 13 = .ok (.l2i, 1) := by decide +kernel
theorem dX12_bounded_14 : decode cX12_bounded 14 = .ok (.ireturn, 1) := by decide +kernel
theorem dX12_worked_0 : decode cX12_worked 0 = .ok (.iload_n 0, 1) := by decide +kernel
theorem dX12_worked_1 : decode cX12_worked 1 = .ok (.tableswitch 143 2 10 #[51, 58, 65, 72, 89, 101, 113, 143, 125], 51) := by decide +kernel
theorem dX12_worked_52 : decode cX12_worked 52 = .ok (.lload_n 1, 1) := by decide +kernel
theorem dX12_worked_53 : decode cX12_worked 53 = .ok (.lload_n 3, 1) := by decide +kernel
theorem dX12_worked_54 : decode cX12_worked 54 = .ok (.ladd, 1) := by decide +kernel
theorem dX12_worked_55 : decode cX12_worked 55 = .ok (.invokestatic 195, 3) := by decide +kernel
theorem dX12_worked_58 : decode cX12_worked 58 = .ok (.ireturn, 1) := by decide +kernel
theorem dX12_worked_59 : decode cX12_worked 59 = .ok (.lload_n 1, 1) := by decide +kernel
theorem dX12_worked_60 : decode cX12_worked 60 = .ok (.lload_n 3, 1) := by decide +kernel
theorem dX12_worked_61 : decode cX12_worked 61 = .ok (.lsub, 1) := by decide +kernel
theorem dX12_worked_62 : decode cX12_worked 62 = .ok (.invokestatic 195, 3) := by decide +kernel
theorem dX12_worked_65 : decode cX12_worked 65 = .ok (.ireturn, 1) := by decide +kernel
theorem dX12_worked_66 : decode cX12_worked 66 = .ok (.lload_n 1, 1) := by decide +kernel
theorem dX12_worked_67 : decode cX12_worked 67 = .ok (.lload_n 3, 1) := by decide +kernel
theorem dX12_worked_68 : decode cX12_worked 68 = .ok (.lmul, 1) := by decide +kernel
theorem dX12_worked_69 : decode cX12_worked 69 = .ok (.invokestatic 195, 3) := by decide +kernel
theorem dX12_worked_72 : decode cX12_worked 72 = .ok (.ireturn, 1) := by decide +kernel
theorem dX12_worked_73 : decode cX12_worked 73 = .ok (.lload_n 3, 1) := by decide +kernel
theorem dX12_worked_74 : decode cX12_worked 74 = .ok (.lconst 0, 1) := by decide +kernel
theorem dX12_worked_75 : decode cX12_worked 75 = .ok (.lcmp, 1) := by decide +kernel
theorem dX12_worked_76 : decode cX12_worked 76 = .ok (.ifCond .ne 7, 3) := by decide +kernel
theorem dX12_worked_79 : decode cX12_worked 79 = .ok (.iconst 0, 1) := by decide +kernel
theorem dX12_worked_80 : decode cX12_worked 80 = .ok (.goto 9, 3) := by decide +kernel
theorem dX12_worked_83 : decode cX12_worked 83 = .ok (.lload_n 1, 1) := by decide +kernel
theorem dX12_worked_84 : decode cX12_worked 84 = .ok (.lload_n 3, 1) := by decide +kernel
theorem dX12_worked_85 : decode cX12_worked 85 = .ok (.ldiv, 1) := by decide +kernel
theorem dX12_worked_86 : decode cX12_worked 86 = .ok (.invokestatic 195, 3) := by decide +kernel
theorem dX12_worked_89 : decode cX12_worked 89 = .ok (.ireturn, 1) := by decide +kernel
theorem dX12_worked_90 : decode cX12_worked 90 = .ok (.lload_n 1, 1) := by decide +kernel
theorem dX12_worked_91 : decode cX12_worked 91 = .ok (.lload_n 3, 1) := by decide +kernel
theorem dX12_worked_92 : decode cX12_worked 92 = .ok (.lcmp, 1) := by decide +kernel
theorem dX12_worked_93 : decode cX12_worked 93 = .ok (.ifCond .ne 7, 3) := by decide +kernel
theorem dX12_worked_96 : decode cX12_worked 96 = .ok (.iconst 1, 1) := by decide +kernel
theorem dX12_worked_97 : decode cX12_worked 97 = .ok (.goto 4, 3) := by decide +kernel
theorem dX12_worked_100 : decode cX12_worked 100 = .ok (.iconst 0, 1) := by decide +kernel
theorem dX12_worked_101 : decode cX12_worked 101 = .ok (.ireturn, 1) := by decide +kernel
theorem dX12_worked_102 : decode cX12_worked 102 = .ok (.lload_n 1, 1) := by decide +kernel
theorem dX12_worked_103 : decode cX12_worked 103 = .ok (.lload_n 3, 1) := by decide +kernel
theorem dX12_worked_104 : decode cX12_worked 104 = .ok (.lcmp, 1) := by decide +kernel
theorem dX12_worked_105 : decode cX12_worked 105 = .ok (.ifCond .ge 7, 3) := by decide +kernel
theorem dX12_worked_108 : decode cX12_worked 108 = .ok (.iconst 1, 1) := by decide +kernel
theorem dX12_worked_109 : decode cX12_worked 109 = .ok (.goto 4, 3) := by decide +kernel
theorem dX12_worked_112 : decode cX12_worked 112 = .ok (.iconst 0, 1) := by decide +kernel
theorem dX12_worked_113 : decode cX12_worked 113 = .ok (.ireturn, 1) := by decide +kernel
theorem dX12_worked_114 : decode cX12_worked 114 = .ok (.lload_n 1, 1) := by decide +kernel
theorem dX12_worked_115 : decode cX12_worked 115 = .ok (.lload_n 3, 1) := by decide +kernel
theorem dX12_worked_116 : decode cX12_worked 116 = .ok (.lcmp, 1) := by decide +kernel
theorem dX12_worked_117 : decode cX12_worked 117 = .ok (.ifCond .le 7, 3) := by decide +kernel
theorem dX12_worked_120 : decode cX12_worked 120 = .ok (.iconst 1, 1) := by decide +kernel
theorem dX12_worked_121 : decode cX12_worked 121 = .ok (.goto 4, 3) := by decide +kernel
theorem dX12_worked_124 : decode cX12_worked 124 = .ok (.iconst 0, 1) := by decide +kernel
theorem dX12_worked_125 : decode cX12_worked 125 = .ok (.ireturn, 1) := by decide +kernel
theorem dX12_worked_126 : decode cX12_worked 126 = .ok (.lload_n 1, 1) := by decide +kernel
theorem dX12_worked_127 : decode cX12_worked 127 = .ok (.lconst 0, 1) := by decide +kernel
theorem dX12_worked_128 : decode cX12_worked 128 = .ok (.lcmp, 1) := by decide +kernel
theorem dX12_worked_129 : decode cX12_worked 129 = .ok (.ifCond .eq 13, 3) := by decide +kernel
theorem dX12_worked_132 : decode cX12_worked 132 = .ok (.lload_n 3, 1) := by decide +kernel
theorem dX12_worked_133 : decode cX12_worked 133 = .ok (.lconst 0, 1) := by decide +kernel
theorem dX12_worked_134 : decode cX12_worked 134 = .ok (.lcmp, 1) := by decide +kernel
theorem dX12_worked_135 : decode cX12_worked 135 = .ok (.ifCond .eq 7, 3) := by decide +kernel
theorem dX12_worked_138 : decode cX12_worked 138 = .ok (.iconst 1, 1) := by decide +kernel
theorem dX12_worked_139 : decode cX12_worked 139 = .ok (.goto 4, 3) := by decide +kernel
theorem dX12_worked_142 : decode cX12_worked 142 = .ok (.iconst 0, 1) := by decide +kernel
theorem dX12_worked_143 : decode cX12_worked 143 = .ok (.ireturn, 1) := by decide +kernel
theorem dX12_worked_144 : decode cX12_worked 144 = .ok (.lload_n 1, 1) := by decide +kernel
theorem dX12_worked_145 : decode cX12_worked 145 = .ok (.lconst 0, 1) := by decide +kernel
theorem dX12_worked_146 : decode cX12_worked 146 = .ok (.lcmp, 1) := by decide +kernel
theorem dX12_worked_147 : decode cX12_worked 147 = .ok (.ifCond .ne 9, 3) := by decide +kernel
theorem dX12_worked_150 : decode cX12_worked 150 = .ok (.lload_n 3, 1) := by decide +kernel
theorem dX12_worked_151 : decode cX12_worked 151 = .ok (.lconst 0, 1) := by decide +kernel
theorem dX12_worked_152 : decode cX12_worked 152 = .ok (.lcmp, 1) := by decide +kernel
theorem dX12_worked_153 : decode cX12_worked 153 = .ok (.ifCond .eq 7, 3) := by decide +kernel
theorem dX12_worked_156 : decode cX12_worked 156 = .ok (.iconst 1, 1) := by decide +kernel
theorem dX12_worked_157 : decode cX12_worked 157 = .ok (.goto 4, 3) := by decide +kernel
theorem dX12_worked_160 : decode cX12_worked 160 = .ok (.iconst 0, 1) := by decide +kernel
theorem dX12_worked_161 : decode cX12_worked 161 = .ok (.ireturn, 1) := by decide +kernel
theorem dX12_workOut_0 : decode cX12_workOut 0 = .ok (.iconst 0, 1) := by decide +kernel
theorem dX12_workOut_1 : decode cX12_workOut 1 = .ok (.istore 4, 2) := by decide +kernel
theorem dX12_workOut_3 : decode cX12_workOut 3 = .ok (.sipush 520, 3) := by decide +kernel
theorem dX12_workOut_6 : decode cX12_workOut 6 = .ok (.iload_n 1, 1) := by decide +kernel
theorem dX12_workOut_7 : decode cX12_workOut 7 = .ok (.imul, 1) := by decide +kernel
theorem dX12_workOut_8 : decode cX12_workOut 8 = .ok (.iload_n 2, 1) := by decide +kernel
theorem dX12_workOut_9 : decode cX12_workOut 9 = .ok (.iadd, 1) := by decide +kernel
theorem dX12_workOut_10 : decode cX12_workOut 10 = .ok (.istore 5, 2) := by decide +kernel
theorem dX12_workOut_12 : decode cX12_workOut 12 = .ok (.iload 5, 2) := by decide +kernel
theorem dX12_workOut_14 : decode cX12_workOut 14 = .ok (.sipush 520, 3) := by decide +kernel
theorem dX12_workOut_17 : decode cX12_workOut 17 = .ok (.iload_n 1, 1) := by decide +kernel
theorem dX12_workOut_18 : decode cX12_workOut 18 = .ok (.imul, 1) := by decide +kernel
theorem dX12_workOut_19 : decode cX12_workOut 19 = .ok (.iload_n 3, 1) := by decide +kernel
theorem dX12_workOut_20 : decode cX12_workOut 20 = .ok (.iadd, 1) := by decide +kernel
theorem dX12_workOut_21 : decode cX12_workOut 21 = .ok (.if_icmp .ge 150, 3) := by decide +kernel
theorem dX12_workOut_24 : decode cX12_workOut 24 = .ok (.aload_n 0, 1) := by decide +kernel
theorem dX12_workOut_25 : decode cX12_workOut 25 = .ok (.getfield 13, 3) := by decide +kernel
theorem dX12_workOut_28 : decode cX12_workOut 28 = .ok (.iload 5, 2) := by decide +kernel
theorem dX12_workOut_30 : decode cX12_workOut 30 = .ok (.iaload, 1) := by decide +kernel
theorem dX12_workOut_31 : decode cX12_workOut 31 = .ok (.ifCond .eq 14, 3) := by decide +kernel
theorem dX12_workOut_34 : decode cX12_workOut 34 = .ok (.aload_n 0, 1) := by decide +kernel
theorem dX12_workOut_35 : decode cX12_workOut 35 = .ok (.getfield 13, 3) := by decide +kernel
theorem dX12_workOut_38 : decode cX12_workOut 38 = .ok (.iload 5, 2) := by decide +kernel
theorem dX12_workOut_40 : decode cX12_workOut 40 = .ok (.iaload, 1) := by decide +kernel
theorem dX12_workOut_41 : decode cX12_workOut 41 = .ok (.iconst 1, 1) := by decide +kernel
theorem dX12_workOut_42 : decode cX12_workOut 42 = .ok (.if_icmp .ne 48, 3) := by decide +kernel
theorem dX12_workOut_45 : decode cX12_workOut 45 = .ok (.aload_n 0, 1) := by decide +kernel
theorem dX12_workOut_46 : decode cX12_workOut 46 = .ok (.getfield 37, 3) := by decide +kernel
theorem dX12_workOut_49 : decode cX12_workOut 49 = .ok (.iload 4, 2) := by decide +kernel
theorem dX12_workOut_51 : decode cX12_workOut 51 = .ok (.aload_n 0, 1) := by decide +kernel
theorem dX12_workOut_52 : decode cX12_workOut 52 = .ok (.getfield 13, 3) := by decide +kernel
theorem dX12_workOut_55 : decode cX12_workOut 55 = .ok (.iload 5, 2) := by decide +kernel
theorem dX12_workOut_57 : decode cX12_workOut 57 = .ok (.iaload, 1) := by decide +kernel
theorem dX12_workOut_58 : decode cX12_workOut 58 = .ok (.ifCond .ne 13, 3) := by decide +kernel
theorem dX12_workOut_61 : decode cX12_workOut 61 = .ok (.aload_n 0, 1) := by decide +kernel
theorem dX12_workOut_62 : decode cX12_workOut 62 = .ok (.getfield 16, 3) := by decide +kernel
theorem dX12_workOut_65 : decode cX12_workOut 65 = .ok (.iload 5, 2) := by decide +kernel
theorem dX12_workOut_67 : decode cX12_workOut 67 = .ok (.iaload, 1) := by decide +kernel
theorem dX12_workOut_68 : decode cX12_workOut 68 = .ok (.goto 15, 3) := by decide +kernel
theorem dX12_workOut_71 : decode cX12_workOut 71 = .ok (.aload_n 0, 1) := by decide +kernel
theorem dX12_workOut_72 : decode cX12_workOut 72 = .ok (.getfield 34, 3) := by decide +kernel
theorem dX12_workOut_75 : decode cX12_workOut 75 = .ok (.aload_n 0, 1) := by decide +kernel
theorem dX12_workOut_76 : decode cX12_workOut 76 = .ok (.getfield 16, 3) := by decide +kernel
theorem dX12_workOut_79 : decode cX12_workOut 79 = .ok (.iload 5, 2) := by decide +kernel
theorem dX12_workOut_81 : decode cX12_workOut 81 = .ok (.iaload, 1) := by decide +kernel
theorem dX12_workOut_82 : decode cX12_workOut 82 = .ok (.iaload, 1) := by decide +kernel
theorem dX12_workOut_83 : decode cX12_workOut 83 = .ok (.iastore, 1) := by decide +kernel
theorem dX12_workOut_84 : decode cX12_workOut 84 = .ok (.iinc 4 1, 3) := by decide +kernel
theorem dX12_workOut_87 : decode cX12_workOut 87 = .ok (.goto 78, 3) := by decide +kernel
theorem dX12_workOut_90 : decode cX12_workOut 90 = .ok (.aload_n 0, 1) := by decide +kernel
theorem dX12_workOut_91 : decode cX12_workOut 91 = .ok (.getfield 13, 3) := by decide +kernel
theorem dX12_workOut_94 : decode cX12_workOut 94 = .ok (.iload 5, 2) := by decide +kernel
theorem dX12_workOut_96 : decode cX12_workOut 96 = .ok (.iaload, 1) := by decide +kernel
theorem dX12_workOut_97 : decode cX12_workOut 97 = .ok (.bipush 9, 2) := by decide +kernel
theorem dX12_workOut_99 : decode cX12_workOut 99 = .ok (.if_icmp .ne 26, 3) := by decide +kernel
theorem dX12_workOut_102 : decode cX12_workOut 102 = .ok (.aload_n 0, 1) := by decide +kernel
theorem dX12_workOut_103 : decode cX12_workOut 103 = .ok (.getfield 37, 3) := by decide +kernel
theorem dX12_workOut_106 : decode cX12_workOut 106 = .ok (.iload 4, 2) := by decide +kernel
theorem dX12_workOut_108 : decode cX12_workOut 108 = .ok (.iconst 1, 1) := by decide +kernel
theorem dX12_workOut_109 : decode cX12_workOut 109 = .ok (.isub, 1) := by decide +kernel
theorem dX12_workOut_110 : decode cX12_workOut 110 = .ok (.iconst 1, 1) := by decide +kernel
theorem dX12_workOut_111 : decode cX12_workOut 111 = .ok (.aload_n 0, 1) := by decide +kernel
theorem dX12_workOut_112 : decode cX12_workOut 112 = .ok (.getfield 37, 3) := by decide +kernel
theorem dX12_workOut_115 : decode cX12_workOut 115 = .ok (.iload 4, 2) := by decide +kernel
theorem dX12_workOut_117 : decode cX12_workOut 117 = .ok (.iconst 1, 1) := by decide +kernel
theorem dX12_workOut_118 : decode cX12_workOut 118 = .ok (.isub, 1) := by decide +kernel
theorem dX12_workOut_119 : decode cX12_workOut 119 = .ok (.iaload, 1) := by decide +kernel
theorem dX12_workOut_120 : decode cX12_workOut 120 = .ok (.isub, 1) := by decide +kernel
theorem dX12_workOut_121 : decode cX12_workOut 121 = .ok (.iastore, 1) := by decide +kernel
theorem dX12_workOut_122 : decode cX12_workOut 122 = .ok (.goto 43, 3) := by decide +kernel
theorem dX12_workOut_125 : decode cX12_workOut 125 = .ok (.iinc 4 (-1), 3) := by decide +kernel
theorem dX12_workOut_128 : decode cX12_workOut 128 = .ok (.aload_n 0, 1) := by decide +kernel
theorem dX12_workOut_129 : decode cX12_workOut 129 = .ok (.getfield 37, 3) := by decide +kernel
theorem dX12_workOut_132 : decode cX12_workOut 132 = .ok (.iload 4, 2) := by decide +kernel
theorem dX12_workOut_134 : decode cX12_workOut 134 = .ok (.iconst 1, 1) := by decide +kernel
theorem dX12_workOut_135 : decode cX12_workOut 135 = .ok (.isub, 1) := by decide +kernel
theorem dX12_workOut_136 : decode cX12_workOut 136 = .ok (.aload_n 0, 1) := by decide +kernel
theorem dX12_workOut_137 : decode cX12_workOut 137 = .ok (.getfield 13, 3) := by decide +kernel
theorem dX12_workOut_140 : decode cX12_workOut 140 = .ok (.iload 5, 2) := by decide +kernel
theorem dX12_workOut_142 : decode cX12_workOut 142 = .ok (.iaload, 1) := by decide +kernel
theorem dX12_workOut_143 : decode cX12_workOut 143 = .ok (.aload_n 0, 1) := by decide +kernel
theorem dX12_workOut_144 : decode cX12_workOut 144 = .ok (.getfield 37, 3) := by decide +kernel
theorem dX12_workOut_147 : decode cX12_workOut 147 = .ok (.iload 4, 2) := by decide +kernel
theorem dX12_workOut_149 : decode cX12_workOut 149 = .ok (.iconst 1, 1) := by decide +kernel
theorem dX12_workOut_150 : decode cX12_workOut 150 = .ok (.isub, 1) := by decide +kernel
theorem dX12_workOut_151 : decode cX12_workOut 151 = .ok (.iaload, 1) := by decide +kernel
theorem dX12_workOut_152 : decode cX12_workOut 152 = .ok (.i2l, 1) := by decide +kernel
theorem dX12_workOut_153 : decode cX12_workOut 153 = .ok (.aload_n 0, 1) := by decide +kernel
theorem dX12_workOut_154 : decode cX12_workOut 154 = .ok (.getfield 37, 3) := by decide +kernel
theorem dX12_workOut_157 : decode cX12_workOut 157 = .ok (.iload 4, 2) := by decide +kernel
theorem dX12_workOut_159 : decode cX12_workOut 159 = .ok (.iaload, 1) := by decide +kernel
theorem dX12_workOut_160 : decode cX12_workOut 160 = .ok (.i2l, 1) := by decide +kernel
theorem dX12_workOut_161 : decode cX12_workOut 161 = .ok (.invokestatic 199, 3) := by decide +kernel
theorem dX12_workOut_164 : decode cX12_workOut 164 = .ok (.iastore, 1) := by decide +kernel
theorem dX12_workOut_165 : decode cX12_workOut 165 = .ok (.iinc 5 1, 3) := by decide +kernel
theorem dX12_workOut_168 : decode cX12_workOut 168 = .ok (.goto (-156), 3) := by decide +kernel
theorem dX12_workOut_171 : decode cX12_workOut 171 = .ok (.aload_n 0, 1) := by decide +kernel
theorem dX12_workOut_172 : decode cX12_workOut 172 = .ok (.getfield 37, 3) := by decide +kernel
theorem dX12_workOut_175 : decode cX12_workOut 175 = .ok (.iconst 0, 1) := by decide +kernel
theorem dX12_workOut_176 : decode cX12_workOut 176 = .ok (.iaload, 1) := by decide +kernel
theorem dX12_workOut_177 : decode cX12_workOut 177 = .ok (.ireturn, 1) := by decide +kernel
theorem dX12_worthOf_0 : decode cX12_worthOf 0 = .ok (.sipush 140, 3) := by decide +kernel
theorem dX12_worthOf_3 : decode cX12_worthOf 3 = .ok (.iload_n 1, 1) := by decide +kernel
theorem dX12_worthOf_4 : decode cX12_worthOf 4 = .ok (.imul, 1) := by decide +kernel
theorem dX12_worthOf_5 : decode cX12_worthOf 5 = .ok (.istore_n 2, 1) := by decide +kernel
theorem dX12_worthOf_6 : decode cX12_worthOf 6 = .ok (.iload_n 2, 1) := by decide +kernel
theorem dX12_worthOf_7 : decode cX12_worthOf 7 = .ok (.sipush 140, 3) := by decide +kernel
theorem dX12_worthOf_10 : decode cX12_worthOf 10 = .ok (.iload_n 1, 1) := by decide +kernel
theorem dX12_worthOf_11 : decode cX12_worthOf 11 = .ok (.imul, 1) := by decide +kernel
theorem dX12_worthOf_12 : decode cX12_worthOf 12 = .ok (.aload_n 0, 1) := by decide +kernel
theorem dX12_worthOf_13 : decode cX12_worthOf 13 = .ok (.getfield 22, 3) := by decide +kernel
theorem dX12_worthOf_16 : decode cX12_worthOf 16 = .ok (.iload_n 1, 1) := by decide +kernel
theorem dX12_worthOf_17 : decode cX12_worthOf 17 = .ok (.iaload, 1) := by decide +kernel
theorem dX12_worthOf_18 : decode cX12_worthOf 18 = .ok (.iadd, 1) := by decide +kernel
theorem dX12_worthOf_19 : decode cX12_worthOf 19 = .ok (.if_icmp .ge 62, 3) := by decide +kernel
theorem dX12_worthOf_22 : decode cX12_worthOf 22 = .ok (.aload_n 0, 1) := by decide +kernel
theorem dX12_worthOf_23 : decode cX12_worthOf 23 = .ok (.getfield 25, 3) := by decide +kernel
theorem dX12_worthOf_26 : decode cX12_worthOf 26 = .ok (.iload_n 2, 1) := by decide +kernel
theorem dX12_worthOf_27 : decode cX12_worthOf 27 = .ok (.iaload, 1) := by decide +kernel
theorem dX12_worthOf_28 : decode cX12_worthOf 28 = .ok (.aload_n 0, 1) := by decide +kernel
theorem dX12_worthOf_29 : decode cX12_worthOf 29 = .ok (.getfield 28, 3) := by decide +kernel
theorem dX12_worthOf_32 : decode cX12_worthOf 32 = .ok (.iload_n 2, 1) := by decide +kernel
theorem dX12_worthOf_33 : decode cX12_worthOf 33 = .ok (.iaload, 1) := by decide +kernel
theorem dX12_worthOf_34 : decode cX12_worthOf 34 = .ok (.if_icmp .eq 23, 3) := by decide +kernel
theorem dX12_worthOf_37 : decode cX12_worthOf 37 = .ok (.aload_n 0, 1) := by decide +kernel
theorem dX12_worthOf_38 : decode cX12_worthOf 38 = .ok (.iload_n 1, 1) := by decide +kernel
theorem dX12_worthOf_39 : decode cX12_worthOf 39 = .ok (.aload_n 0, 1) := by decide +kernel
theorem dX12_worthOf_40 : decode cX12_worthOf 40 = .ok (.getfield 25, 3) := by decide +kernel
theorem dX12_worthOf_43 : decode cX12_worthOf 43 = .ok (.iload_n 2, 1) := by decide +kernel
theorem dX12_worthOf_44 : decode cX12_worthOf 44 = .ok (.iaload, 1) := by decide +kernel
theorem dX12_worthOf_45 : decode cX12_worthOf 45 = .ok (.aload_n 0, 1) := by decide +kernel
theorem dX12_worthOf_46 : decode cX12_worthOf 46 = .ok (.getfield 28, 3) := by decide +kernel
theorem dX12_worthOf_49 : decode cX12_worthOf 49 = .ok (.iload_n 2, 1) := by decide +kernel
theorem dX12_worthOf_50 : decode cX12_worthOf 50 = .ok (.iaload, 1) := by decide +kernel
theorem dX12_worthOf_51 : decode cX12_worthOf 51 = .ok (.invokevirtual 203, 3) := by decide +kernel
theorem dX12_worthOf_54 : decode cX12_worthOf 54 = .ok (.ifCond .eq 21, 3) := by decide +kernel
theorem dX12_worthOf_57 : decode cX12_worthOf 57 = .ok (.aload_n 0, 1) := by decide +kernel
theorem dX12_worthOf_58 : decode cX12_worthOf 58 = .ok (.iload_n 1, 1) := by decide +kernel
theorem dX12_worthOf_59 : decode cX12_worthOf 59 = .ok (.aload_n 0, 1) := by decide +kernel
theorem dX12_worthOf_60 : decode cX12_worthOf 60 = .ok (.getfield 28, 3) := by decide +kernel
theorem dX12_worthOf_63 : decode cX12_worthOf 63 = .ok (.iload_n 2, 1) := by decide +kernel
theorem dX12_worthOf_64 : decode cX12_worthOf 64 = .ok (.iaload, 1) := by decide +kernel
theorem dX12_worthOf_65 : decode cX12_worthOf 65 = .ok (.aload_n 0, 1) := by decide +kernel
theorem dX12_worthOf_66 : decode cX12_worthOf 66 = .ok (.getfield 31, 3) := by decide +kernel
theorem dX12_worthOf_69 : decode cX12_worthOf 69 = .ok (.iload_n 2, 1) := by decide +kernel
theorem dX12_worthOf_70 : decode cX12_worthOf 70 = .ok (.iaload, 1) := by decide +kernel
theorem dX12_worthOf_71 : decode cX12_worthOf 71 = .ok (.invokevirtual 203, 3) := by decide +kernel
theorem dX12_worthOf_74 : decode cX12_worthOf 74 = .ok (.ireturn, 1) := by decide +kernel
theorem dX12_worthOf_75 : decode cX12_worthOf 75 = .ok (.iinc 2 1, 3) := by decide +kernel
theorem dX12_worthOf_78 : decode cX12_worthOf 78 = .ok (.goto (-72), 3) := by decide +kernel
theorem dX12_worthOf_81 : decode cX12_worthOf 81 = .ok (.iconst 0, 1) := by decide +kernel
theorem dX12_worthOf_82 : decode cX12_worthOf 82 = .ok (.ireturn, 1) := by decide +kernel
theorem dX12_number_0 : decode cX12_number 0 = .ok (.aload_n 0, 1) := by decide +kernel
theorem dX12_number_1 : decode cX12_number 1 = .ok (.invokevirtual 121, 3) := by decide +kernel
theorem dX12_number_4 : decode cX12_number 4 = .ok (.invokestatic 124, 3) := by decide +kernel
theorem dX12_number_7 : decode cX12_number 7 = .ok (.ifCond .ne 9, 3) := by decide +kernel
theorem dX12_number_10 : decode cX12_number 10 = .ok (.aload_n 0, 1) := by decide +kernel
theorem dX12_number_11 : decode cX12_number 11 = .ok (.invokevirtual 118, 3) := by decide +kernel
theorem dX12_number_14 : decode cX12_number 14 = .ok (.iload_n 1, 1) := by decide +kernel
theorem dX12_number_15 : decode cX12_number 15 = .ok (.ireturn, 1) := by decide +kernel
theorem dX12_number_16 : decode cX12_number 16 = .ok (.aload_n 0, 1) := by decide +kernel
theorem dX12_number_17 : decode cX12_number 17 = .ok (.invokevirtual 105, 3) := by decide +kernel
theorem dX12_number_20 : decode cX12_number 20 = .ok (.bipush 48, 2) := by decide +kernel
theorem dX12_number_22 : decode cX12_number 22 = .ok (.isub, 1) := by decide +kernel
theorem dX12_number_23 : decode cX12_number 23 = .ok (.istore_n 3, 1) := by decide +kernel
theorem dX12_number_24 : decode cX12_number 24 = .ok (.aload_n 0, 1) := by decide +kernel
theorem dX12_number_25 : decode cX12_number 25 = .ok (.dup, 1) := by decide +kernel
theorem dX12_number_26 : decode cX12_number 26 = .ok (.getfield 102, 3) := by decide +kernel
theorem dX12_number_29 : decode cX12_number 29 = .ok (.iconst 1, 1) := by decide +kernel
theorem dX12_number_30 : decode cX12_number 30 = .ok (.iadd, 1) := by decide +kernel
theorem dX12_number_31 : decode cX12_number 31 = .ok (.putfield 102, 3) := by decide +kernel
theorem dX12_number_34 : decode cX12_number 34 = .ok (.aload_n 0, 1) := by decide +kernel
theorem dX12_number_35 : decode cX12_number 35 = .ok (.invokevirtual 105, 3) := by decide +kernel
theorem dX12_number_38 : decode cX12_number 38 = .ok (.invokestatic 124, 3) := by decide +kernel
theorem dX12_number_41 : decode cX12_number 41 = .ok (.ifCond .eq 26, 3) := by decide +kernel
theorem dX12_number_44 : decode cX12_number 44 = .ok (.bipush 10, 2) := by decide +kernel
theorem dX12_number_46 : decode cX12_number 46 = .ok (.iload_n 3, 1) := by decide +kernel
theorem dX12_number_47 : decode cX12_number 47 = .ok (.imul, 1) := by decide +kernel
theorem dX12_number_48 : decode cX12_number 48 = .ok (.aload_n 0, 1) := by decide +kernel
theorem dX12_number_49 : decode cX12_number 49 = .ok (.invokevirtual 105, 3) := by decide +kernel
theorem dX12_number_52 : decode cX12_number 52 = .ok (.iadd, 1) := by decide +kernel
theorem dX12_number_53 : decode cX12_number 53 = .ok (.bipush 48, 2) := by decide +kernel
theorem dX12_number_55 : decode cX12_number 55 = .ok (.isub, 1) := by decide +kernel
theorem dX12_number_56 : decode cX12_number 56 = .ok (.istore_n 3, 1) := by decide +kernel
theorem dX12_number_57 : decode cX12_number 57 = .ok (.aload_n 0, 1) := by decide +kernel
theorem dX12_number_58 : decode cX12_number 58 = .ok (.dup, 1) := by decide +kernel
theorem dX12_number_59 : decode cX12_number 59 = .ok (.getfield 102, 3) := by decide +kernel
theorem dX12_number_62 : decode cX12_number 62 = .ok (.iconst 1, 1) := by decide +kernel
theorem dX12_number_63 : decode cX12_number 63 = .ok (.iadd, 1) := by decide +kernel
theorem dX12_number_64 : decode cX12_number 64 = .ok (.putfield 102, 3) := by decide +kernel
theorem dX12_number_67 : decode cX12_number 67 = .ok (.aload_n 0, 1) := by decide +kernel
theorem dX12_number_68 : decode cX12_number 68 = .ok (.invokevirtual 105, 3) := by decide +kernel
theorem dX12_number_71 : decode cX12_number 71 = .ok (.invokestatic 124, 3) := by decide +kernel
theorem dX12_number_74 : decode cX12_number 74 = .ok (.ifCond .eq 10, 3) := by decide +kernel
theorem dX12_number_77 : decode cX12_number 77 = .ok (.aload_n 0, 1) := by decide +kernel
theorem dX12_number_78 : decode cX12_number 78 = .ok (.invokevirtual 118, 3) := by decide +kernel
theorem dX12_number_81 : decode cX12_number 81 = .ok (.goto 26, 3) := by decide +kernel
theorem dX12_number_84 : decode cX12_number 84 = .ok (.iload_n 3, 1) := by decide +kernel
theorem dX12_number_85 : decode cX12_number 85 = .ok (.iload_n 1, 1) := by decide +kernel
theorem dX12_number_86 : decode cX12_number 86 = .ok (.iload_n 2, 1) := by decide +kernel
theorem dX12_number_87 : decode cX12_number 87 = .ok (.invokestatic 207, 3) := by decide +kernel
theorem dX12_number_90 : decode cX12_number 90 = .ok (.ifCond .ne 17, 3) := by decide +kernel
theorem dX12_number_93 : decode cX12_number 93 = .ok (.aload_n 0, 1) := by decide +kernel
theorem dX12_number_94 : decode cX12_number 94 = .ok (.dup, 1) := by decide +kernel
theorem dX12_number_95 : decode cX12_number 95 = .ok (.getfield 102, 3) := by decide +kernel
theorem dX12_number_98 : decode cX12_number 98 = .ok (.iconst 1, 1) := by decide +kernel
theorem dX12_number_99 : decode cX12_number 99 = .ok (.isub, 1) := by decide +kernel
theorem dX12_number_100 : decode cX12_number 100 = .ok (.putfield 102, 3) := by decide +kernel
theorem dX12_number_103 : decode cX12_number 103 = .ok (.aload_n 0, 1) := by decide +kernel
theorem dX12_number_104 : decode cX12_number 104 = .ok (.invokevirtual 118, 3) := by decide +kernel
theorem dX12_number_107 : decode cX12_number 107 = .ok (.iload_n 3, 1) := by decide +kernel
theorem dX12_number_108 : decode cX12_number 108 = .ok (.ireturn, 1) := by decide +kernel
theorem dX12_itemOf_0 : decode cX12_itemOf 0 = .ok (.iload_n 0, 1) := by decide +kernel
theorem dX12_itemOf_1 : decode cX12_itemOf 1 = .ok (.lookupswitch 111 #[(110, 79), (115, 35), (119, 57)], 35) := by decide +kernel
theorem dX12_itemOf_36 : decode cX12_itemOf 36 = .ok (.iload_n 1, 1) := by decide +kernel
theorem dX12_itemOf_37 : decode cX12_itemOf 37 = .ok (.bipush 100, 2) := by decide +kernel
theorem dX12_itemOf_39 : decode cX12_itemOf 39 = .ok (.if_icmp .ne 7, 3) := by decide +kernel
theorem dX12_itemOf_42 : decode cX12_itemOf 42 = .ok (.iconst 0, 1) := by decide +kernel
theorem dX12_itemOf_43 : decode cX12_itemOf 43 = .ok (.goto 14, 3) := by decide +kernel
theorem dX12_itemOf_46 : decode cX12_itemOf 46 = .ok (.iload_n 1, 1) := by decide +kernel
theorem dX12_itemOf_47 : decode cX12_itemOf 47 = .ok (.bipush 99, 2) := by decide +kernel
theorem dX12_itemOf_49 : decode cX12_itemOf 49 = .ok (.if_icmp .ne 7, 3) := by decide +kernel
theorem dX12_itemOf_52 : decode cX12_itemOf 52 = .ok (.iconst 1, 1) := by decide +kernel
theorem dX12_itemOf_53 : decode cX12_itemOf 53 = .ok (.goto 4, 3) := by decide +kernel
theorem dX12_itemOf_56 : decode cX12_itemOf 56 = .ok (.iconst (-1), 1) := by decide +kernel
theorem dX12_itemOf_57 : decode cX12_itemOf 57 = .ok (.ireturn, 1) := by decide +kernel
theorem dX12_itemOf_58 : decode cX12_itemOf 58 = .ok (.iload_n 1, 1) := by decide +kernel
theorem dX12_itemOf_59 : decode cX12_itemOf 59 = .ok (.bipush 100, 2) := by decide +kernel
theorem dX12_itemOf_61 : decode cX12_itemOf 61 = .ok (.if_icmp .ne 7, 3) := by decide +kernel
theorem dX12_itemOf_64 : decode cX12_itemOf 64 = .ok (.iconst 0, 1) := by decide +kernel
theorem dX12_itemOf_65 : decode cX12_itemOf 65 = .ok (.goto 14, 3) := by decide +kernel
theorem dX12_itemOf_68 : decode cX12_itemOf 68 = .ok (.iload_n 1, 1) := by decide +kernel
theorem dX12_itemOf_69 : decode cX12_itemOf 69 = .ok (.bipush 114, 2) := by decide +kernel
theorem dX12_itemOf_71 : decode cX12_itemOf 71 = .ok (.if_icmp .ne 7, 3) := by decide +kernel
theorem dX12_itemOf_74 : decode cX12_itemOf 74 = .ok (.iconst 1, 1) := by decide +kernel
theorem dX12_itemOf_75 : decode cX12_itemOf 75 = .ok (.goto 4, 3) := by decide +kernel
theorem dX12_itemOf_78 : decode cX12_itemOf 78 = .ok (.iconst (-1), 1) := by decide +kernel
theorem dX12_itemOf_79 : decode cX12_itemOf 79 = .ok (.ireturn, 1) := by decide +kernel
theorem dX12_itemOf_80 : decode cX12_itemOf 80 = .ok (.iload_n 1, 1) := by decide +kernel
theorem dX12_itemOf_81 : decode cX12_itemOf 81 = .ok (.bipush 115, 2) := by decide +kernel
theorem dX12_itemOf_83 : decode cX12_itemOf 83 = .ok (.if_icmp .ne 7, 3) := by decide +kernel
theorem dX12_itemOf_86 : decode cX12_itemOf 86 = .ok (.iconst 0, 1) := by decide +kernel
theorem dX12_itemOf_87 : decode cX12_itemOf 87 = .ok (.goto 24, 3) := by decide +kernel
theorem dX12_itemOf_90 : decode cX12_itemOf 90 = .ok (.iload_n 1, 1) := by decide +kernel
theorem dX12_itemOf_91 : decode cX12_itemOf 91 = .ok (.bipush 102, 2) := by decide +kernel
theorem dX12_itemOf_93 : decode cX12_itemOf 93 = .ok (.if_icmp .ne 7, 3) := by decide +kernel
theorem dX12_itemOf_96 : decode cX12_itemOf 96 = .ok (.iconst 1, 1) := by decide +kernel
theorem dX12_itemOf_97 : decode cX12_itemOf 97 = .ok (.goto 14, 3) := by decide +kernel
theorem dX12_itemOf_100 : decode cX12_itemOf 100 = .ok (.iload_n 1, 1) := by decide +kernel
theorem dX12_itemOf_101 : decode cX12_itemOf 101 = .ok (.bipush 111, 2) := by decide +kernel
theorem dX12_itemOf_103 : decode cX12_itemOf 103 = .ok (.if_icmp .ne 7, 3) := by decide +kernel
theorem dX12_itemOf_106 : decode cX12_itemOf 106 = .ok (.iconst 2, 1) := by decide +kernel
theorem dX12_itemOf_107 : decode cX12_itemOf 107 = .ok (.goto 4, 3) := by decide +kernel
theorem dX12_itemOf_110 : decode cX12_itemOf 110 = .ok (.iconst (-1), 1) := by decide +kernel
theorem dX12_itemOf_111 : decode cX12_itemOf 111 = .ok (.ireturn, 1) := by decide +kernel
theorem dX12_itemOf_112 : decode cX12_itemOf 112 = .ok (.iload_n 1, 1) := by decide +kernel
theorem dX12_itemOf_113 : decode cX12_itemOf 113 = .ok (.bipush 97, 2) := by decide +kernel
theorem dX12_itemOf_115 : decode cX12_itemOf 115 = .ok (.if_icmp .ne 7, 3) := by decide +kernel
theorem dX12_itemOf_118 : decode cX12_itemOf 118 = .ok (.iconst 0, 1) := by decide +kernel
theorem dX12_itemOf_119 : decode cX12_itemOf 119 = .ok (.goto 14, 3) := by decide +kernel
theorem dX12_itemOf_122 : decode cX12_itemOf 122 = .ok (.iload_n 1, 1) := by decide +kernel
theorem dX12_itemOf_123 : decode cX12_itemOf 123 = .ok (.bipush 98, 2) := by decide +kernel
theorem dX12_itemOf_125 : decode cX12_itemOf 125 = .ok (.if_icmp .ne 7, 3) := by decide +kernel
theorem dX12_itemOf_128 : decode cX12_itemOf 128 = .ok (.iconst 1, 1) := by decide +kernel
theorem dX12_itemOf_129 : decode cX12_itemOf 129 = .ok (.goto 4, 3) := by decide +kernel
theorem dX12_itemOf_132 : decode cX12_itemOf 132 = .ok (.iconst (-1), 1) := by decide +kernel
theorem dX12_itemOf_133 : decode cX12_itemOf 133 = .ok (.ireturn, 1) := by decide +kernel
theorem dX12_lowest_0 : decode cX12_lowest 0 = .ok (.iload_n 0, 1) := by decide +kernel
theorem dX12_lowest_1 : decode cX12_lowest 1 = .ok (.bipush 115, 2) := by decide +kernel
theorem dX12_lowest_3 : decode cX12_lowest 3 = .ok (.if_icmp .ne 7, 3) := by decide +kernel
theorem dX12_lowest_6 : decode cX12_lowest 6 = .ok (.iload_n 1, 1) := by decide +kernel
theorem dX12_lowest_7 : decode cX12_lowest 7 = .ok (.ifCond .eq 13, 3) := by decide +kernel
theorem dX12_lowest_10 : decode cX12_lowest 10 = .ok (.iload_n 0, 1) := by decide +kernel
theorem dX12_lowest_11 : decode cX12_lowest 11 = .ok (.bipush 110, 2) := by decide +kernel
theorem dX12_lowest_13 : decode cX12_lowest 13 = .ok (.if_icmp .ne 11, 3) := by decide +kernel
theorem dX12_lowest_16 : decode cX12_lowest 16 = .ok (.iload_n 1, 1) := by decide +kernel
theorem dX12_lowest_17 : decode cX12_lowest 17 = .ok (.ifCond .ne 7, 3) := by decide +kernel
theorem dX12_lowest_20 : decode cX12_lowest 20 = .ok (.iconst 1, 1) := by decide +kernel
theorem dX12_lowest_21 : decode cX12_lowest 21 = .ok (.goto 4, 3) := by decide +kernel
theorem dX12_lowest_24 : decode cX12_lowest 24 = .ok (.iconst 0, 1) := by decide +kernel
theorem dX12_lowest_25 : decode cX12_lowest 25 = .ok (.ireturn, 1) := by decide +kernel
theorem dX12_highest_0 : decode cX12_highest 0 = .ok (.iload_n 0, 1) := by decide +kernel
theorem dX12_highest_1 : decode cX12_highest 1 = .ok (.lookupswitch 77 #[(110, 57), (115, 35), (119, 46)], 35) := by decide +kernel
theorem dX12_highest_36 : decode cX12_highest 36 = .ok (.iload_n 1, 1) := by decide +kernel
theorem dX12_highest_37 : decode cX12_highest 37 = .ok (.ifCond .ne 7, 3) := by decide +kernel
theorem dX12_highest_40 : decode cX12_highest 40 = .ok (.iconst 3, 1) := by decide +kernel
theorem dX12_highest_41 : decode cX12_highest 41 = .ok (.goto 5, 3) := by decide +kernel
theorem dX12_highest_44 : decode cX12_highest 44 = .ok (.bipush 99, 2) := by decide +kernel
theorem dX12_highest_46 : decode cX12_highest 46 = .ok (.ireturn, 1) := by decide +kernel
theorem dX12_highest_47 : decode cX12_highest 47 = .ok (.iload_n 1, 1) := by decide +kernel
theorem dX12_highest_48 : decode cX12_highest 48 = .ok (.ifCond .ne 8, 3) := by decide +kernel
theorem dX12_highest_51 : decode cX12_highest 51 = .ok (.bipush 30, 2) := by decide +kernel
theorem dX12_highest_53 : decode cX12_highest 53 = .ok (.goto 4, 3) := by decide +kernel
theorem dX12_highest_56 : decode cX12_highest 56 = .ok (.iconst 1, 1) := by decide +kernel
theorem dX12_highest_57 : decode cX12_highest 57 = .ok (.ireturn, 1) := by decide +kernel
theorem dX12_highest_58 : decode cX12_highest 58 = .ok (.iload_n 1, 1) := by decide +kernel
theorem dX12_highest_59 : decode cX12_highest 59 = .ok (.ifCond .ne 7, 3) := by decide +kernel
theorem dX12_highest_62 : decode cX12_highest 62 = .ok (.iconst 5, 1) := by decide +kernel
theorem dX12_highest_63 : decode cX12_highest 63 = .ok (.goto 14, 3) := by decide +kernel
theorem dX12_highest_66 : decode cX12_highest 66 = .ok (.iload_n 1, 1) := by decide +kernel
theorem dX12_highest_67 : decode cX12_highest 67 = .ok (.iconst 1, 1) := by decide +kernel
theorem dX12_highest_68 : decode cX12_highest 68 = .ok (.if_icmp .ne 8, 3) := by decide +kernel
theorem dX12_highest_71 : decode cX12_highest 71 = .ok (.bipush 6, 2) := by decide +kernel
theorem dX12_highest_73 : decode cX12_highest 73 = .ok (.goto 4, 3) := by decide +kernel
theorem dX12_highest_76 : decode cX12_highest 76 = .ok (.iconst 1, 1) := by decide +kernel
theorem dX12_highest_77 : decode cX12_highest 77 = .ok (.ireturn, 1) := by decide +kernel
theorem dX12_highest_78 : decode cX12_highest 78 = .ok (.bipush 6, 2) := by decide +kernel
theorem dX12_highest_80 : decode cX12_highest 80 = .ok (.ireturn, 1) := by decide +kernel
theorem dX12_usual_0 : decode cX12_usual 0 = .ok (.iload_n 0, 1) := by decide +kernel
theorem dX12_usual_1 : decode cX12_usual 1 = .ok (.lookupswitch 67 #[(110, 57), (115, 35), (119, 46)], 35) := by decide +kernel
theorem dX12_usual_36 : decode cX12_usual 36 = .ok (.iload_n 1, 1) := by decide +kernel
theorem dX12_usual_37 : decode cX12_usual 37 = .ok (.ifCond .ne 7, 3) := by decide +kernel
theorem dX12_usual_40 : decode cX12_usual 40 = .ok (.iconst 1, 1) := by decide +kernel
theorem dX12_usual_41 : decode cX12_usual 41 = .ok (.goto 5, 3) := by decide +kernel
theorem dX12_usual_44 : decode cX12_usual 44 = .ok (.bipush 20, 2) := by decide +kernel
theorem dX12_usual_46 : decode cX12_usual 46 = .ok (.ireturn, 1) := by decide +kernel
theorem dX12_usual_47 : decode cX12_usual 47 = .ok (.iload_n 1, 1) := by decide +kernel
theorem dX12_usual_48 : decode cX12_usual 48 = .ok (.ifCond .ne 8, 3) := by decide +kernel
theorem dX12_usual_51 : decode cX12_usual 51 = .ok (.bipush 8, 2) := by decide +kernel
theorem dX12_usual_53 : decode cX12_usual 53 = .ok (.goto 4, 3) := by decide +kernel
theorem dX12_usual_56 : decode cX12_usual 56 = .ok (.iconst 0, 1) := by decide +kernel
theorem dX12_usual_57 : decode cX12_usual 57 = .ok (.ireturn, 1) := by decide +kernel
theorem dX12_usual_58 : decode cX12_usual 58 = .ok (.iload_n 1, 1) := by decide +kernel
theorem dX12_usual_59 : decode cX12_usual 59 = .ok (.ifCond .ne 7, 3) := by decide +kernel
theorem dX12_usual_62 : decode cX12_usual 62 = .ok (.iconst 2, 1) := by decide +kernel
theorem dX12_usual_63 : decode cX12_usual 63 = .ok (.goto 4, 3) := by decide +kernel
theorem dX12_usual_66 : decode cX12_usual 66 = .ok (.iconst 0, 1) := by decide +kernel
theorem dX12_usual_67 : decode cX12_usual 67 = .ok (.ireturn, 1) := by decide +kernel
theorem dX12_usual_68 : decode cX12_usual 68 = .ok (.iload_n 1, 1) := by decide +kernel
theorem dX12_usual_69 : decode cX12_usual 69 = .ok (.ireturn, 1) := by decide +kernel
theorem dX12_items_0 : decode cX12_items 0 = .ok (.iconst 0, 1) := by decide +kernel
theorem dX12_items_1 : decode cX12_items 1 = .ok (.istore 5, 2) := by decide +kernel
theorem dX12_items_3 : decode cX12_items 3 = .ok (.iload 5, 2) := by decide +kernel
theorem dX12_items_5 : decode cX12_items 5 = .ok (.iload 4, 2) := by decide +kernel
theorem dX12_items_7 : decode cX12_items 7 = .ok (.if_icmp .ge 21, 3) := by decide +kernel
theorem dX12_items_10 : decode cX12_items 10 = .ok (.aload_n 2, 1) := by decide +kernel
theorem dX12_items_11 : decode cX12_items 11 = .ok (.iload_n 3, 1) := by decide +kernel
theorem dX12_items_12 : decode cX12_items 12 = .ok (.iload 5, 2) := by decide +kernel
theorem dX12_items_14 : decode cX12_items 14 = .ok (.iadd, 1) := by decide +kernel
theorem dX12_items_15 : decode cX12_items 15 = .ok (.iload_n 1, 1) := by decide +kernel
theorem dX12_items_16 : decode cX12_items 16 = .ok (.iload 5, 2) := by decide +kernel
theorem dX12_items_18 : decode cX12_items 18 = .ok (.invokestatic 211, 3) := by decide +kernel
theorem dX12_items_21 : decode cX12_items 21 = .ok (.iastore, 1) := by decide +kernel
theorem dX12_items_22 : decode cX12_items 22 = .ok (.iinc 5 1, 3) := by decide +kernel
theorem dX12_items_25 : decode cX12_items 25 = .ok (.goto (-22), 3) := by decide +kernel
theorem dX12_items_28 : decode cX12_items 28 = .ok (.iconst 0, 1) := by decide +kernel
theorem dX12_items_29 : decode cX12_items 29 = .ok (.istore 5, 2) := by decide +kernel
theorem dX12_items_31 : decode cX12_items 31 = .ok (.iload_n 1, 1) := by decide +kernel
theorem dX12_items_32 : decode cX12_items 32 = .ok (.aload_n 0, 1) := by decide +kernel
theorem dX12_items_33 : decode cX12_items 33 = .ok (.invokevirtual 121, 3) := by decide +kernel
theorem dX12_items_36 : decode cX12_items 36 = .ok (.invokestatic 215, 3) := by decide +kernel
theorem dX12_items_39 : decode cX12_items 39 = .ok (.istore 6, 2) := by decide +kernel
theorem dX12_items_41 : decode cX12_items 41 = .ok (.aload_n 0, 1) := by decide +kernel
theorem dX12_items_42 : decode cX12_items 42 = .ok (.getfield 109, 3) := by decide +kernel
theorem dX12_items_45 : decode cX12_items 45 = .ok (.iconst (-1), 1) := by decide +kernel
theorem dX12_items_46 : decode cX12_items 46 = .ok (.if_icmp .ne 85, 3) := by decide +kernel
theorem dX12_items_49 : decode cX12_items 49 = .ok (.iload 6, 2) := by decide +kernel
theorem dX12_items_51 : decode cX12_items 51 = .ok (.iconst (-1), 1) := by decide +kernel
theorem dX12_items_52 : decode cX12_items 52 = .ok (.if_icmp .eq 79, 3) := by decide +kernel
theorem dX12_items_55 : decode cX12_items 55 = .ok (.iload 5, 2) := by decide +kernel
theorem dX12_items_57 : decode cX12_items 57 = .ok (.iload 6, 2) := by decide +kernel
theorem dX12_items_59 : decode cX12_items 59 = .ok (.invokestatic 218, 3) := by decide +kernel
theorem dX12_items_62 : decode cX12_items 62 = .ok (.ifCond .ne 69, 3) := by decide +kernel
theorem dX12_items_65 : decode cX12_items 65 = .ok (.iload 5, 2) := by decide +kernel
theorem dX12_items_67 : decode cX12_items 67 = .ok (.iconst 1, 1) := by decide +kernel
theorem dX12_items_68 : decode cX12_items 68 = .ok (.iload 6, 2) := by decide +kernel
theorem dX12_items_70 : decode cX12_items 70 = .ok (.ishl, 1) := by decide +kernel
theorem dX12_items_71 : decode cX12_items 71 = .ok (.ior, 1) := by decide +kernel
theorem dX12_items_72 : decode cX12_items 72 = .ok (.istore 5, 2) := by decide +kernel
theorem dX12_items_74 : decode cX12_items 74 = .ok (.aload_n 0, 1) := by decide +kernel
theorem dX12_items_75 : decode cX12_items 75 = .ok (.dup, 1) := by decide +kernel
theorem dX12_items_76 : decode cX12_items 76 = .ok (.getfield 102, 3) := by decide +kernel
theorem dX12_items_79 : decode cX12_items 79 = .ok (.iconst 1, 1) := by decide +kernel
theorem dX12_items_80 : decode cX12_items 80 = .ok (.iadd, 1) := by decide +kernel
theorem dX12_items_81 : decode cX12_items 81 = .ok (.putfield 102, 3) := by decide +kernel
theorem dX12_items_84 : decode cX12_items 84 = .ok (.aload_n 2, 1) := by decide +kernel
theorem dX12_items_85 : decode cX12_items 85 = .ok (.iload_n 3, 1) := by decide +kernel
theorem dX12_items_86 : decode cX12_items 86 = .ok (.iload 6, 2) := by decide +kernel
theorem dX12_items_88 : decode cX12_items 88 = .ok (.iadd, 1) := by decide +kernel
theorem dX12_items_89 : decode cX12_items 89 = .ok (.aload_n 0, 1) := by decide +kernel
theorem dX12_items_90 : decode cX12_items 90 = .ok (.iload_n 1, 1) := by decide +kernel
theorem dX12_items_91 : decode cX12_items 91 = .ok (.iload 6, 2) := by decide +kernel
theorem dX12_items_93 : decode cX12_items 93 = .ok (.invokestatic 222, 3) := by decide +kernel
theorem dX12_items_96 : decode cX12_items 96 = .ok (.iload_n 1, 1) := by decide +kernel
theorem dX12_items_97 : decode cX12_items 97 = .ok (.iload 6, 2) := by decide +kernel
theorem dX12_items_99 : decode cX12_items 99 = .ok (.invokestatic 225, 3) := by decide +kernel
theorem dX12_items_102 : decode cX12_items 102 = .ok (.invokevirtual 228, 3) := by decide +kernel
theorem dX12_items_105 : decode cX12_items 105 = .ok (.iastore, 1) := by decide +kernel
theorem dX12_items_106 : decode cX12_items 106 = .ok (.aload_n 0, 1) := by decide +kernel
theorem dX12_items_107 : decode cX12_items 107 = .ok (.getfield 109, 3) := by decide +kernel
theorem dX12_items_110 : decode cX12_items 110 = .ok (.iconst (-1), 1) := by decide +kernel
theorem dX12_items_111 : decode cX12_items 111 = .ok (.if_icmp .ne 14, 3) := by decide +kernel
theorem dX12_items_114 : decode cX12_items 114 = .ok (.iload_n 1, 1) := by decide +kernel
theorem dX12_items_115 : decode cX12_items 115 = .ok (.aload_n 0, 1) := by decide +kernel
theorem dX12_items_116 : decode cX12_items 116 = .ok (.invokevirtual 121, 3) := by decide +kernel
theorem dX12_items_119 : decode cX12_items 119 = .ok (.invokestatic 215, 3) := by decide +kernel
theorem dX12_items_122 : decode cX12_items 122 = .ok (.goto 4, 3) := by decide +kernel
theorem dX12_items_125 : decode cX12_items 125 = .ok (.iconst (-1), 1) := by decide +kernel
theorem dX12_items_126 : decode cX12_items 126 = .ok (.istore 6, 2) := by decide +kernel
theorem dX12_items_128 : decode cX12_items 128 = .ok (.goto (-87), 3) := by decide +kernel
theorem dX12_items_131 : decode cX12_items 131 = .ok (.return_, 1) := by decide +kernel
theorem dX12_clauseText_0 : decode cX12_clauseText 0 = .ok (.aload_n 0, 1) := by decide +kernel
theorem dX12_clauseText_1 : decode cX12_clauseText 1 = .ok (.dup, 1) := by decide +kernel
theorem dX12_clauseText_2 : decode cX12_clauseText 2 = .ok (.getfield 102, 3) := by decide +kernel
theorem dX12_clauseText_5 : decode cX12_clauseText 5 = .ok (.iconst 1, 1) := by decide +kernel
theorem dX12_clauseText_6 : decode cX12_clauseText 6 = .ok (.iadd, 1) := by decide +kernel
theorem dX12_clauseText_7 : decode cX12_clauseText 7 = .ok (.putfield 102, 3) := by decide +kernel
theorem dX12_clauseText_10 : decode cX12_clauseText 10 = .ok (.iload_n 1, 1) := by decide +kernel
theorem dX12_clauseText_11 : decode cX12_clauseText 11 = .ok (.lookupswitch 105 #[(110, 76), (115, 33), (119, 47)], 33) := by decide +kernel
theorem dX12_clauseText_44 : decode cX12_clauseText 44 = .ok (.aload_n 0, 1) := by decide +kernel
theorem dX12_clauseText_45 : decode cX12_clauseText 45 = .ok (.iload_n 1, 1) := by decide +kernel
theorem dX12_clauseText_46 : decode cX12_clauseText 46 = .ok (.aload_n 0, 1) := by decide +kernel
theorem dX12_clauseText_47 : decode cX12_clauseText 47 = .ok (.getfield 40, 3) := by decide +kernel
theorem dX12_clauseText_50 : decode cX12_clauseText 50 = .ok (.iconst 0, 1) := by decide +kernel
theorem dX12_clauseText_51 : decode cX12_clauseText 51 = .ok (.iconst 2, 1) := by decide +kernel
theorem dX12_clauseText_52 : decode cX12_clauseText 52 = .ok (.invokevirtual 231, 3) := by decide +kernel
theorem dX12_clauseText_55 : decode cX12_clauseText 55 = .ok (.goto 87, 3) := by decide +kernel
theorem dX12_clauseText_58 : decode cX12_clauseText 58 = .ok (.aload_n 0, 1) := by decide +kernel
theorem dX12_clauseText_59 : decode cX12_clauseText 59 = .ok (.iload_n 1, 1) := by decide +kernel
theorem dX12_clauseText_60 : decode cX12_clauseText 60 = .ok (.aload_n 0, 1) := by decide +kernel
theorem dX12_clauseText_61 : decode cX12_clauseText 61 = .ok (.getfield 43, 3) := by decide +kernel
theorem dX12_clauseText_64 : decode cX12_clauseText 64 = .ok (.iconst 2, 1) := by decide +kernel
theorem dX12_clauseText_65 : decode cX12_clauseText 65 = .ok (.aload_n 0, 1) := by decide +kernel
theorem dX12_clauseText_66 : decode cX12_clauseText 66 = .ok (.getfield 235, 3) := by decide +kernel
theorem dX12_clauseText_69 : decode cX12_clauseText 69 = .ok (.imul, 1) := by decide +kernel
theorem dX12_clauseText_70 : decode cX12_clauseText 70 = .ok (.iconst 2, 1) := by decide +kernel
theorem dX12_clauseText_71 : decode cX12_clauseText 71 = .ok (.invokevirtual 231, 3) := by decide +kernel
theorem dX12_clauseText_74 : decode cX12_clauseText 74 = .ok (.aload_n 0, 1) := by decide +kernel
theorem dX12_clauseText_75 : decode cX12_clauseText 75 = .ok (.dup, 1) := by decide +kernel
theorem dX12_clauseText_76 : decode cX12_clauseText 76 = .ok (.getfield 235, 3) := by decide +kernel
theorem dX12_clauseText_79 : decode cX12_clauseText 79 = .ok (.iconst 1, 1) := by decide +kernel
theorem dX12_clauseText_80 : decode cX12_clauseText 80 = .ok (.iadd, 1) := by decide +kernel
theorem dX12_clauseText_81 : decode cX12_clauseText 81 = .ok (.putfield 235, 3) := by decide +kernel
theorem dX12_clauseText_84 : decode cX12_clauseText 84 = .ok (.goto 58, 3) := by decide +kernel
theorem dX12_clauseText_87 : decode cX12_clauseText 87 = .ok (.aload_n 0, 1) := by decide +kernel
theorem dX12_clauseText_88 : decode cX12_clauseText 88 = .ok (.iload_n 1, 1) := by decide +kernel
theorem dX12_clauseText_89 : decode cX12_clauseText 89 = .ok (.aload_n 0, 1) := by decide +kernel
theorem dX12_clauseText_90 : decode cX12_clauseText 90 = .ok (.getfield 46, 3) := by decide +kernel
theorem dX12_clauseText_93 : decode cX12_clauseText 93 = .ok (.iconst 3, 1) := by decide +kernel
theorem dX12_clauseText_94 : decode cX12_clauseText 94 = .ok (.aload_n 0, 1) := by decide +kernel
theorem dX12_clauseText_95 : decode cX12_clauseText 95 = .ok (.getfield 238, 3) := by decide +kernel
theorem dX12_clauseText_98 : decode cX12_clauseText 98 = .ok (.imul, 1) := by decide +kernel
theorem dX12_clauseText_99 : decode cX12_clauseText 99 = .ok (.iconst 3, 1) := by decide +kernel
theorem dX12_clauseText_100 : decode cX12_clauseText 100 = .ok (.invokevirtual 231, 3) := by decide +kernel
theorem dX12_clauseText_103 : decode cX12_clauseText 103 = .ok (.aload_n 0, 1) := by decide +kernel
theorem dX12_clauseText_104 : decode cX12_clauseText 104 = .ok (.dup, 1) := by decide +kernel
theorem dX12_clauseText_105 : decode cX12_clauseText 105 = .ok (.getfield 238, 3) := by decide +kernel
theorem dX12_clauseText_108 : decode cX12_clauseText 108 = .ok (.iconst 1, 1) := by decide +kernel
theorem dX12_clauseText_109 : decode cX12_clauseText 109 = .ok (.iadd, 1) := by decide +kernel
theorem dX12_clauseText_110 : decode cX12_clauseText 110 = .ok (.putfield 238, 3) := by decide +kernel
theorem dX12_clauseText_113 : decode cX12_clauseText 113 = .ok (.goto 29, 3) := by decide +kernel
theorem dX12_clauseText_116 : decode cX12_clauseText 116 = .ok (.aload_n 0, 1) := by decide +kernel
theorem dX12_clauseText_117 : decode cX12_clauseText 117 = .ok (.iload_n 1, 1) := by decide +kernel
theorem dX12_clauseText_118 : decode cX12_clauseText 118 = .ok (.aload_n 0, 1) := by decide +kernel
theorem dX12_clauseText_119 : decode cX12_clauseText 119 = .ok (.getfield 49, 3) := by decide +kernel
theorem dX12_clauseText_122 : decode cX12_clauseText 122 = .ok (.iconst 2, 1) := by decide +kernel
theorem dX12_clauseText_123 : decode cX12_clauseText 123 = .ok (.aload_n 0, 1) := by decide +kernel
theorem dX12_clauseText_124 : decode cX12_clauseText 124 = .ok (.getfield 241, 3) := by decide +kernel
theorem dX12_clauseText_127 : decode cX12_clauseText 127 = .ok (.imul, 1) := by decide +kernel
theorem dX12_clauseText_128 : decode cX12_clauseText 128 = .ok (.iconst 2, 1) := by decide +kernel
theorem dX12_clauseText_129 : decode cX12_clauseText 129 = .ok (.invokevirtual 231, 3) := by decide +kernel
theorem dX12_clauseText_132 : decode cX12_clauseText 132 = .ok (.aload_n 0, 1) := by decide +kernel
theorem dX12_clauseText_133 : decode cX12_clauseText 133 = .ok (.dup, 1) := by decide +kernel
theorem dX12_clauseText_134 : decode cX12_clauseText 134 = .ok (.getfield 241, 3) := by decide +kernel
theorem dX12_clauseText_137 : decode cX12_clauseText 137 = .ok (.iconst 1, 1) := by decide +kernel
theorem dX12_clauseText_138 : decode cX12_clauseText 138 = .ok (.iadd, 1) := by decide +kernel
theorem dX12_clauseText_139 : decode cX12_clauseText 139 = .ok (.putfield 241, 3) := by decide +kernel
theorem dX12_clauseText_142 : decode cX12_clauseText 142 = .ok (.return_, 1) := by decide +kernel
theorem dX12_isWhole_0 : decode cX12_isWhole 0 = .ok (.aload_n 0, 1) := by decide +kernel
theorem dX12_isWhole_1 : decode cX12_isWhole 1 = .ok (.getfield 235, 3) := by decide +kernel
theorem dX12_isWhole_4 : decode cX12_isWhole 4 = .ok (.ifCond .le 15, 3) := by decide +kernel
theorem dX12_isWhole_7 : decode cX12_isWhole 7 = .ok (.aload_n 0, 1) := by decide +kernel
theorem dX12_isWhole_8 : decode cX12_isWhole 8 = .ok (.getfield 238, 3) := by decide +kernel
theorem dX12_isWhole_11 : decode cX12_isWhole 11 = .ok (.iconst 1, 1) := by decide +kernel
theorem dX12_isWhole_12 : decode cX12_isWhole 12 = .ok (.if_icmp .le 7, 3) := by decide +kernel
theorem dX12_isWhole_15 : decode cX12_isWhole 15 = .ok (.iconst 1, 1) := by decide +kernel
theorem dX12_isWhole_16 : decode cX12_isWhole 16 = .ok (.goto 4, 3) := by decide +kernel
theorem dX12_isWhole_19 : decode cX12_isWhole 19 = .ok (.iconst 0, 1) := by decide +kernel
theorem dX12_isWhole_20 : decode cX12_isWhole 20 = .ok (.istore_n 1, 1) := by decide +kernel
theorem dX12_isWhole_21 : decode cX12_isWhole 21 = .ok (.iconst 0, 1) := by decide +kernel
theorem dX12_isWhole_22 : decode cX12_isWhole 22 = .ok (.istore_n 2, 1) := by decide +kernel
theorem dX12_isWhole_23 : decode cX12_isWhole 23 = .ok (.iload_n 2, 1) := by decide +kernel
theorem dX12_isWhole_24 : decode cX12_isWhole 24 = .ok (.aload_n 0, 1) := by decide +kernel
theorem dX12_isWhole_25 : decode cX12_isWhole 25 = .ok (.getfield 238, 3) := by decide +kernel
theorem dX12_isWhole_28 : decode cX12_isWhole 28 = .ok (.if_icmp .ge 43, 3) := by decide +kernel
theorem dX12_isWhole_31 : decode cX12_isWhole 31 = .ok (.aload_n 0, 1) := by decide +kernel
theorem dX12_isWhole_32 : decode cX12_isWhole 32 = .ok (.getfield 46, 3) := by decide +kernel
theorem dX12_isWhole_35 : decode cX12_isWhole 35 = .ok (.iconst 3, 1) := by decide +kernel
theorem dX12_isWhole_36 : decode cX12_isWhole 36 = .ok (.iload_n 2, 1) := by decide +kernel
theorem dX12_isWhole_37 : decode cX12_isWhole 37 = .ok (.imul, 1) := by decide +kernel
theorem dX12_isWhole_38 : decode cX12_isWhole 38 = .ok (.iconst 1, 1) := by decide +kernel
theorem dX12_isWhole_39 : decode cX12_isWhole 39 = .ok (.iadd, 1) := by decide +kernel
theorem dX12_isWhole_40 : decode cX12_isWhole 40 = .ok (.iaload, 1) := by decide +kernel
theorem dX12_isWhole_41 : decode cX12_isWhole 41 = .ok (.istore_n 3, 1) := by decide +kernel
theorem dX12_isWhole_42 : decode cX12_isWhole 42 = .ok (.iload_n 1, 1) := by decide +kernel
theorem dX12_isWhole_43 : decode cX12_isWhole 43 = .ok (.ifCond .eq 20, 3) := by decide +kernel
theorem dX12_isWhole_46 : decode cX12_isWhole 46 = .ok (.iload_n 3, 1) := by decide +kernel
theorem dX12_isWhole_47 : decode cX12_isWhole 47 = .ok (.aload_n 0, 1) := by decide +kernel
theorem dX12_isWhole_48 : decode cX12_isWhole 48 = .ok (.getfield 238, 3) := by decide +kernel
theorem dX12_isWhole_51 : decode cX12_isWhole 51 = .ok (.if_icmp .ge 12, 3) := by decide +kernel
theorem dX12_isWhole_54 : decode cX12_isWhole 54 = .ok (.iload_n 3, 1) := by decide +kernel
theorem dX12_isWhole_55 : decode cX12_isWhole 55 = .ok (.iload_n 2, 1) := by decide +kernel
theorem dX12_isWhole_56 : decode cX12_isWhole 56 = .ok (.if_icmp .eq 7, 3) := by decide +kernel
theorem dX12_isWhole_59 : decode cX12_isWhole 59 = .ok (.iconst 1, 1) := by decide +kernel
theorem dX12_isWhole_60 : decode cX12_isWhole 60 = .ok (.goto 4, 3) := by decide +kernel
theorem dX12_isWhole_63 : decode cX12_isWhole 63 = .ok (.iconst 0, 1) := by decide +kernel
theorem dX12_isWhole_64 : decode cX12_isWhole 64 = .ok (.istore_n 1, 1) := by decide +kernel
theorem dX12_isWhole_65 : decode cX12_isWhole 65 = .ok (.iinc 2 1, 3) := by decide +kernel
theorem dX12_isWhole_68 : decode cX12_isWhole 68 = .ok (.goto (-45), 3) := by decide +kernel
theorem dX12_isWhole_71 : decode cX12_isWhole 71 = .ok (.iconst 0, 1) := by decide +kernel
theorem dX12_isWhole_72 : decode cX12_isWhole 72 = .ok (.istore_n 2, 1) := by decide +kernel
theorem dX12_isWhole_73 : decode cX12_isWhole 73 = .ok (.iload_n 2, 1) := by decide +kernel
theorem dX12_isWhole_74 : decode cX12_isWhole 74 = .ok (.aload_n 0, 1) := by decide +kernel
theorem dX12_isWhole_75 : decode cX12_isWhole 75 = .ok (.getfield 241, 3) := by decide +kernel
theorem dX12_isWhole_78 : decode cX12_isWhole 78 = .ok (.if_icmp .ge 72, 3) := by decide +kernel
theorem dX12_isWhole_81 : decode cX12_isWhole 81 = .ok (.iload_n 1, 1) := by decide +kernel
theorem dX12_isWhole_82 : decode cX12_isWhole 82 = .ok (.ifCond .eq 60, 3) := by decide +kernel
theorem dX12_isWhole_85 : decode cX12_isWhole 85 = .ok (.aload_n 0, 1) := by decide +kernel
theorem dX12_isWhole_86 : decode cX12_isWhole 86 = .ok (.getfield 49, 3) := by decide +kernel
theorem dX12_isWhole_89 : decode cX12_isWhole 89 = .ok (.iconst 2, 1) := by decide +kernel
theorem dX12_isWhole_90 : decode cX12_isWhole 90 = .ok (.iload_n 2, 1) := by decide +kernel
theorem dX12_isWhole_91 : decode cX12_isWhole 91 = .ok (.imul, 1) := by decide +kernel
theorem dX12_isWhole_92 : decode cX12_isWhole 92 = .ok (.iaload, 1) := by decide +kernel
theorem dX12_isWhole_93 : decode cX12_isWhole 93 = .ok (.aload_n 0, 1) := by decide +kernel
theorem dX12_isWhole_94 : decode cX12_isWhole 94 = .ok (.getfield 238, 3) := by decide +kernel
theorem dX12_isWhole_97 : decode cX12_isWhole 97 = .ok (.if_icmp .ge 45, 3) := by decide +kernel
theorem dX12_isWhole_100 : decode cX12_isWhole 100 = .ok (.aload_n 0, 1) := by decide +kernel
theorem dX12_isWhole_101 : decode cX12_isWhole 101 = .ok (.getfield 49, 3) := by decide +kernel
theorem dX12_isWhole_104 : decode cX12_isWhole 104 = .ok (.iconst 2, 1) := by decide +kernel
theorem dX12_isWhole_105 : decode cX12_isWhole 105 = .ok (.iload_n 2, 1) := by decide +kernel
theorem dX12_isWhole_106 : decode cX12_isWhole 106 = .ok (.imul, 1) := by decide +kernel
theorem dX12_isWhole_107 : decode cX12_isWhole 107 = .ok (.iconst 1, 1) := by decide +kernel
theorem dX12_isWhole_108 : decode cX12_isWhole 108 = .ok (.iadd, 1) := by decide +kernel
theorem dX12_isWhole_109 : decode cX12_isWhole 109 = .ok (.iaload, 1) := by decide +kernel
theorem dX12_isWhole_110 : decode cX12_isWhole 110 = .ok (.aload_n 0, 1) := by decide +kernel
theorem dX12_isWhole_111 : decode cX12_isWhole 111 = .ok (.getfield 238, 3) := by decide +kernel
theorem dX12_isWhole_114 : decode cX12_isWhole 114 = .ok (.if_icmp .ge 28, 3) := by decide +kernel
theorem dX12_isWhole_117 : decode cX12_isWhole 117 = .ok (.aload_n 0, 1) := by decide +kernel
theorem dX12_isWhole_118 : decode cX12_isWhole 118 = .ok (.getfield 49, 3) := by decide +kernel
theorem dX12_isWhole_121 : decode cX12_isWhole 121 = .ok (.iconst 2, 1) := by decide +kernel
theorem dX12_isWhole_122 : decode cX12_isWhole 122 = .ok (.iload_n 2, 1) := by decide +kernel
theorem dX12_isWhole_123 : decode cX12_isWhole 123 = .ok (.imul, 1) := by decide +kernel
theorem dX12_isWhole_124 : decode cX12_isWhole 124 = .ok (.iaload, 1) := by decide +kernel
theorem dX12_isWhole_125 : decode cX12_isWhole 125 = .ok (.aload_n 0, 1) := by decide +kernel
theorem dX12_isWhole_126 : decode cX12_isWhole 126 = .ok (.getfield 49, 3) := by decide +kernel
theorem dX12_isWhole_129 : decode cX12_isWhole 129 = .ok (.iconst 2, 1) := by decide +kernel
theorem dX12_isWhole_130 : decode cX12_isWhole 130 = .ok (.iload_n 2, 1) := by decide +kernel
theorem dX12_isWhole_131 : decode cX12_isWhole 131 = .ok (.imul, 1) := by decide +kernel
theorem dX12_isWhole_132 : decode cX12_isWhole 132 = .ok (.iconst 1, 1) := by decide +kernel
theorem dX12_isWhole_133 : decode cX12_isWhole 133 = .ok (.iadd, 1) := by decide +kernel
theorem dX12_isWhole_134 : decode cX12_isWhole 134 = .ok (.iaload, 1) := by decide +kernel
theorem dX12_isWhole_135 : decode cX12_isWhole 135 = .ok (.if_icmp .eq 7, 3) := by decide +kernel
theorem dX12_isWhole_138 : decode cX12_isWhole 138 = .ok (.iconst 1, 1) := by decide +kernel
theorem dX12_isWhole_139 : decode cX12_isWhole 139 = .ok (.goto 4, 3) := by decide +kernel
theorem dX12_isWhole_142 : decode cX12_isWhole 142 = .ok (.iconst 0, 1) := by decide +kernel
theorem dX12_isWhole_143 : decode cX12_isWhole 143 = .ok (.istore_n 1, 1) := by decide +kernel
theorem dX12_isWhole_144 : decode cX12_isWhole 144 = .ok (.iinc 2 1, 3) := by decide +kernel
theorem dX12_isWhole_147 : decode cX12_isWhole 147 = .ok (.goto (-74), 3) := by decide +kernel
theorem dX12_isWhole_150 : decode cX12_isWhole 150 = .ok (.iload_n 1, 1) := by decide +kernel
theorem dX12_isWhole_151 : decode cX12_isWhole 151 = .ok (.ireturn, 1) := by decide +kernel
theorem dX12_readMinistry_0 : decode cX12_readMinistry 0 = .ok (.aload_n 0, 1) := by decide +kernel
theorem dX12_readMinistry_1 : decode cX12_readMinistry 1 = .ok (.iconst 0, 1) := by decide +kernel
theorem dX12_readMinistry_2 : decode cX12_readMinistry 2 = .ok (.putfield 102, 3) := by decide +kernel
theorem dX12_readMinistry_5 : decode cX12_readMinistry 5 = .ok (.aload_n 0, 1) := by decide +kernel
theorem dX12_readMinistry_6 : decode cX12_readMinistry 6 = .ok (.iconst (-1), 1) := by decide +kernel
theorem dX12_readMinistry_7 : decode cX12_readMinistry 7 = .ok (.putfield 109, 3) := by decide +kernel
theorem dX12_readMinistry_10 : decode cX12_readMinistry 10 = .ok (.aload_n 0, 1) := by decide +kernel
theorem dX12_readMinistry_11 : decode cX12_readMinistry 11 = .ok (.iconst 0, 1) := by decide +kernel
theorem dX12_readMinistry_12 : decode cX12_readMinistry 12 = .ok (.putfield 235, 3) := by decide +kernel
theorem dX12_readMinistry_15 : decode cX12_readMinistry 15 = .ok (.aload_n 0, 1) := by decide +kernel
theorem dX12_readMinistry_16 : decode cX12_readMinistry 16 = .ok (.iconst 0, 1) := by decide +kernel
theorem dX12_readMinistry_17 : decode cX12_readMinistry 17 = .ok (.putfield 238, 3) := by decide +kernel
theorem dX12_readMinistry_20 : decode cX12_readMinistry 20 = .ok (.aload_n 0, 1) := by decide +kernel
theorem dX12_readMinistry_21 : decode cX12_readMinistry 21 = .ok (.iconst 0, 1) := by decide +kernel
theorem dX12_readMinistry_22 : decode cX12_readMinistry 22 = .ok (.putfield 241, 3) := by decide +kernel
theorem dX12_readMinistry_25 : decode cX12_readMinistry 25 = .ok (.iconst 0, 1) := by decide +kernel
theorem dX12_readMinistry_26 : decode cX12_readMinistry 26 = .ok (.istore_n 1, 1) := by decide +kernel
theorem dX12_readMinistry_27 : decode cX12_readMinistry 27 = .ok (.iconst 0, 1) := by decide +kernel
theorem dX12_readMinistry_28 : decode cX12_readMinistry 28 = .ok (.istore_n 2, 1) := by decide +kernel
theorem dX12_readMinistry_29 : decode cX12_readMinistry 29 = .ok (.iload_n 2, 1) := by decide +kernel
theorem dX12_readMinistry_30 : decode cX12_readMinistry 30 = .ok (.iconst 2, 1) := by decide +kernel
theorem dX12_readMinistry_31 : decode cX12_readMinistry 31 = .ok (.if_icmp .ge 21, 3) := by decide +kernel
theorem dX12_readMinistry_34 : decode cX12_readMinistry 34 = .ok (.aload_n 0, 1) := by decide +kernel
theorem dX12_readMinistry_35 : decode cX12_readMinistry 35 = .ok (.getfield 40, 3) := by decide +kernel
theorem dX12_readMinistry_38 : decode cX12_readMinistry 38 = .ok (.iload_n 2, 1) := by decide +kernel
theorem dX12_readMinistry_39 : decode cX12_readMinistry 39 = .ok (.bipush 115, 2) := by decide +kernel
theorem dX12_readMinistry_41 : decode cX12_readMinistry 41 = .ok (.iload_n 2, 1) := by decide +kernel
theorem dX12_readMinistry_42 : decode cX12_readMinistry 42 = .ok (.invokestatic 211, 3) := by decide +kernel
theorem dX12_readMinistry_45 : decode cX12_readMinistry 45 = .ok (.iastore, 1) := by decide +kernel
theorem dX12_readMinistry_46 : decode cX12_readMinistry 46 = .ok (.iinc 2 1, 3) := by decide +kernel
theorem dX12_readMinistry_49 : decode cX12_readMinistry 49 = .ok (.goto (-20), 3) := by decide +kernel
theorem dX12_readMinistry_52 : decode cX12_readMinistry 52 = .ok (.iconst 1, 1) := by decide +kernel
theorem dX12_readMinistry_53 : decode cX12_readMinistry 53 = .ok (.istore_n 2, 1) := by decide +kernel
theorem dX12_readMinistry_54 : decode cX12_readMinistry 54 = .ok (.iload_n 2, 1) := by decide +kernel
theorem dX12_readMinistry_55 : decode cX12_readMinistry 55 = .ok (.ifCond .eq 154, 3) := by decide +kernel
theorem dX12_readMinistry_58 : decode cX12_readMinistry 58 = .ok (.aload_n 0, 1) := by decide +kernel
theorem dX12_readMinistry_59 : decode cX12_readMinistry 59 = .ok (.getfield 109, 3) := by decide +kernel
theorem dX12_readMinistry_62 : decode cX12_readMinistry 62 = .ok (.iconst (-1), 1) := by decide +kernel
theorem dX12_readMinistry_63 : decode cX12_readMinistry 63 = .ok (.if_icmp .ne 146, 3) := by decide +kernel
theorem dX12_readMinistry_66 : decode cX12_readMinistry 66 = .ok (.aload_n 0, 1) := by decide +kernel
theorem dX12_readMinistry_67 : decode cX12_readMinistry 67 = .ok (.invokevirtual 121, 3) := by decide +kernel
theorem dX12_readMinistry_70 : decode cX12_readMinistry 70 = .ok (.istore_n 3, 1) := by decide +kernel
theorem dX12_readMinistry_71 : decode cX12_readMinistry 71 = .ok (.iload_n 3, 1) := by decide +kernel
theorem dX12_readMinistry_72 : decode cX12_readMinistry 72 = .ok (.bipush 115, 2) := by decide +kernel
theorem dX12_readMinistry_74 : decode cX12_readMinistry 74 = .ok (.if_icmp .ne 7, 3) := by decide +kernel
theorem dX12_readMinistry_77 : decode cX12_readMinistry 77 = .ok (.iload_n 1, 1) := by decide +kernel
theorem dX12_readMinistry_78 : decode cX12_readMinistry 78 = .ok (.ifCond .eq 47, 3) := by decide +kernel
theorem dX12_readMinistry_81 : decode cX12_readMinistry 81 = .ok (.iload_n 3, 1) := by decide +kernel
theorem dX12_readMinistry_82 : decode cX12_readMinistry 82 = .ok (.bipush 119, 2) := by decide +kernel
theorem dX12_readMinistry_84 : decode cX12_readMinistry 84 = .ok (.if_icmp .ne 11, 3) := by decide +kernel
theorem dX12_readMinistry_87 : decode cX12_readMinistry 87 = .ok (.aload_n 0, 1) := by decide +kernel
theorem dX12_readMinistry_88 : decode cX12_readMinistry 88 = .ok (.getfield 235, 3) := by decide +kernel
theorem dX12_readMinistry_91 : decode cX12_readMinistry 91 = .ok (.iconst 4, 1) := by decide +kernel
theorem dX12_readMinistry_92 : decode cX12_readMinistry 92 = .ok (.if_icmp .lt 33, 3) := by decide +kernel
theorem dX12_readMinistry_95 : decode cX12_readMinistry 95 = .ok (.iload_n 3, 1) := by decide +kernel
theorem dX12_readMinistry_96 : decode cX12_readMinistry 96 = .ok (.bipush 110, 2) := by decide +kernel
theorem dX12_readMinistry_98 : decode cX12_readMinistry 98 = .ok (.if_icmp .ne 12, 3) := by decide +kernel
theorem dX12_readMinistry_101 : decode cX12_readMinistry 101 = .ok (.aload_n 0, 1) := by decide +kernel
theorem dX12_readMinistry_102 : decode cX12_readMinistry 102 = .ok (.getfield 238, 3) := by decide +kernel
theorem dX12_readMinistry_105 : decode cX12_readMinistry 105 = .ok (.bipush 7, 2) := by decide +kernel
theorem dX12_readMinistry_107 : decode cX12_readMinistry 107 = .ok (.if_icmp .lt 18, 3) := by decide +kernel
theorem dX12_readMinistry_110 : decode cX12_readMinistry 110 = .ok (.iload_n 3, 1) := by decide +kernel
theorem dX12_readMinistry_111 : decode cX12_readMinistry 111 = .ok (.bipush 102, 2) := by decide +kernel
theorem dX12_readMinistry_113 : decode cX12_readMinistry 113 = .ok (.if_icmp .ne 16, 3) := by decide +kernel
theorem dX12_readMinistry_116 : decode cX12_readMinistry 116 = .ok (.aload_n 0, 1) := by decide +kernel
theorem dX12_readMinistry_117 : decode cX12_readMinistry 117 = .ok (.getfield 241, 3) := by decide +kernel
theorem dX12_readMinistry_120 : decode cX12_readMinistry 120 = .ok (.bipush 6, 2) := by decide +kernel
theorem dX12_readMinistry_122 : decode cX12_readMinistry 122 = .ok (.if_icmp .ge 7, 3) := by decide +kernel
theorem dX12_readMinistry_125 : decode cX12_readMinistry 125 = .ok (.iconst 1, 1) := by decide +kernel
theorem dX12_readMinistry_126 : decode cX12_readMinistry 126 = .ok (.goto 4, 3) := by decide +kernel
theorem dX12_readMinistry_129 : decode cX12_readMinistry 129 = .ok (.iconst 0, 1) := by decide +kernel
theorem dX12_readMinistry_130 : decode cX12_readMinistry 130 = .ok (.istore 4, 2) := by decide +kernel
theorem dX12_readMinistry_132 : decode cX12_readMinistry 132 = .ok (.iload 4, 2) := by decide +kernel
theorem dX12_readMinistry_134 : decode cX12_readMinistry 134 = .ok (.ifCond .eq 27, 3) := by decide +kernel
theorem dX12_readMinistry_137 : decode cX12_readMinistry 137 = .ok (.iload_n 1, 1) := by decide +kernel
theorem dX12_readMinistry_138 : decode cX12_readMinistry 138 = .ok (.ifCond .ne 9, 3) := by decide +kernel
theorem dX12_readMinistry_141 : decode cX12_readMinistry 141 = .ok (.iload_n 3, 1) := by decide +kernel
theorem dX12_readMinistry_142 : decode cX12_readMinistry 142 = .ok (.bipush 115, 2) := by decide +kernel
theorem dX12_readMinistry_144 : decode cX12_readMinistry 144 = .ok (.if_icmp .ne 7, 3) := by decide +kernel
theorem dX12_readMinistry_147 : decode cX12_readMinistry 147 = .ok (.iconst 1, 1) := by decide +kernel
theorem dX12_readMinistry_148 : decode cX12_readMinistry 148 = .ok (.goto 4, 3) := by decide +kernel
theorem dX12_readMinistry_151 : decode cX12_readMinistry 151 = .ok (.iconst 0, 1) := by decide +kernel
theorem dX12_readMinistry_152 : decode cX12_readMinistry 152 = .ok (.istore_n 1, 1) := by decide +kernel
theorem dX12_readMinistry_153 : decode cX12_readMinistry 153 = .ok (.aload_n 0, 1) := by decide +kernel
theorem dX12_readMinistry_154 : decode cX12_readMinistry 154 = .ok (.iload_n 3, 1) := by decide +kernel
theorem dX12_readMinistry_155 : decode cX12_readMinistry 155 = .ok (.invokevirtual 244, 3) := by decide +kernel
theorem dX12_readMinistry_158 : decode cX12_readMinistry 158 = .ok (.goto 7, 3) := by decide +kernel
theorem dX12_readMinistry_161 : decode cX12_readMinistry 161 = .ok (.aload_n 0, 1) := by decide +kernel
theorem dX12_readMinistry_162 : decode cX12_readMinistry 162 = .ok (.invokevirtual 118, 3) := by decide +kernel
theorem dX12_readMinistry_165 : decode cX12_readMinistry 165 = .ok (.aload_n 0, 1) := by decide +kernel
theorem dX12_readMinistry_166 : decode cX12_readMinistry 166 = .ok (.getfield 109, 3) := by decide +kernel
theorem dX12_readMinistry_169 : decode cX12_readMinistry 169 = .ok (.iconst (-1), 1) := by decide +kernel
theorem dX12_readMinistry_170 : decode cX12_readMinistry 170 = .ok (.if_icmp .ne 16, 3) := by decide +kernel
theorem dX12_readMinistry_173 : decode cX12_readMinistry 173 = .ok (.aload_n 0, 1) := by decide +kernel
theorem dX12_readMinistry_174 : decode cX12_readMinistry 174 = .ok (.invokevirtual 121, 3) := by decide +kernel
theorem dX12_readMinistry_177 : decode cX12_readMinistry 177 = .ok (.bipush 59, 2) := by decide +kernel
theorem dX12_readMinistry_179 : decode cX12_readMinistry 179 = .ok (.if_icmp .ne 7, 3) := by decide +kernel
theorem dX12_readMinistry_182 : decode cX12_readMinistry 182 = .ok (.iconst 1, 1) := by decide +kernel
theorem dX12_readMinistry_183 : decode cX12_readMinistry 183 = .ok (.goto 4, 3) := by decide +kernel
theorem dX12_readMinistry_186 : decode cX12_readMinistry 186 = .ok (.iconst 0, 1) := by decide +kernel
theorem dX12_readMinistry_187 : decode cX12_readMinistry 187 = .ok (.istore_n 2, 1) := by decide +kernel
theorem dX12_readMinistry_188 : decode cX12_readMinistry 188 = .ok (.aload_n 0, 1) := by decide +kernel
theorem dX12_readMinistry_189 : decode cX12_readMinistry 189 = .ok (.dup, 1) := by decide +kernel
theorem dX12_readMinistry_190 : decode cX12_readMinistry 190 = .ok (.getfield 102, 3) := by decide +kernel
theorem dX12_readMinistry_193 : decode cX12_readMinistry 193 = .ok (.iload_n 2, 1) := by decide +kernel
theorem dX12_readMinistry_194 : decode cX12_readMinistry 194 = .ok (.ifCond .eq 7, 3) := by decide +kernel
theorem dX12_readMinistry_197 : decode cX12_readMinistry 197 = .ok (.iconst 1, 1) := by decide +kernel
theorem dX12_readMinistry_198 : decode cX12_readMinistry 198 = .ok (.goto 4, 3) := by decide +kernel
theorem dX12_readMinistry_201 : decode cX12_readMinistry 201 = .ok (.iconst 0, 1) := by decide +kernel
theorem dX12_readMinistry_202 : decode cX12_readMinistry 202 = .ok (.iadd, 1) := by decide +kernel
theorem dX12_readMinistry_203 : decode cX12_readMinistry 203 = .ok (.putfield 102, 3) := by decide +kernel
theorem dX12_readMinistry_206 : decode cX12_readMinistry 206 = .ok (.goto (-152), 3) := by decide +kernel
theorem dX12_readMinistry_209 : decode cX12_readMinistry 209 = .ok (.aload_n 0, 1) := by decide +kernel
theorem dX12_readMinistry_210 : decode cX12_readMinistry 210 = .ok (.getfield 109, 3) := by decide +kernel
theorem dX12_readMinistry_213 : decode cX12_readMinistry 213 = .ok (.iconst (-1), 1) := by decide +kernel
theorem dX12_readMinistry_214 : decode cX12_readMinistry 214 = .ok (.if_icmp .ne 22, 3) := by decide +kernel
theorem dX12_readMinistry_217 : decode cX12_readMinistry 217 = .ok (.aload_n 0, 1) := by decide +kernel
theorem dX12_readMinistry_218 : decode cX12_readMinistry 218 = .ok (.invokevirtual 121, 3) := by decide +kernel
theorem dX12_readMinistry_221 : decode cX12_readMinistry 221 = .ok (.iconst (-1), 1) := by decide +kernel
theorem dX12_readMinistry_222 : decode cX12_readMinistry 222 = .ok (.if_icmp .ne 10, 3) := by decide +kernel
theorem dX12_readMinistry_225 : decode cX12_readMinistry 225 = .ok (.aload_n 0, 1) := by decide +kernel
theorem dX12_readMinistry_226 : decode cX12_readMinistry 226 = .ok (.invokevirtual 247, 3) := by decide +kernel
theorem dX12_readMinistry_229 : decode cX12_readMinistry 229 = .ok (.ifCond .ne 7, 3) := by decide +kernel
theorem dX12_readMinistry_232 : decode cX12_readMinistry 232 = .ok (.aload_n 0, 1) := by decide +kernel
theorem dX12_readMinistry_233 : decode cX12_readMinistry 233 = .ok (.invokevirtual 118, 3) := by decide +kernel
theorem dX12_readMinistry_236 : decode cX12_readMinistry 236 = .ok (.aload_n 0, 1) := by decide +kernel
theorem dX12_readMinistry_237 : decode cX12_readMinistry 237 = .ok (.getfield 109, 3) := by decide +kernel
theorem dX12_readMinistry_240 : decode cX12_readMinistry 240 = .ok (.ireturn, 1) := by decide +kernel
theorem dX12_fault_0 : decode cX12_fault 0 = .ok (.iload_n 1, 1) := by decide +kernel
theorem dX12_fault_1 : decode cX12_fault 1 = .ok (.ifCond .ne 10, 3) := by decide +kernel
theorem dX12_fault_4 : decode cX12_fault 4 = .ok (.aload_n 0, 1) := by decide +kernel
theorem dX12_fault_5 : decode cX12_fault 5 = .ok (.invokevirtual 251, 3) := by decide +kernel
theorem dX12_fault_8 : decode cX12_fault 8 = .ok (.goto 18, 3) := by decide +kernel
theorem dX12_fault_11 : decode cX12_fault 11 = .ok (.iload_n 1, 1) := by decide +kernel
theorem dX12_fault_12 : decode cX12_fault 12 = .ok (.iconst 1, 1) := by decide +kernel
theorem dX12_fault_13 : decode cX12_fault 13 = .ok (.if_icmp .ne 11, 3) := by decide +kernel
theorem dX12_fault_16 : decode cX12_fault 16 = .ok (.aload_n 0, 1) := by decide +kernel
theorem dX12_fault_17 : decode cX12_fault 17 = .ok (.iconst 4, 1) := by decide +kernel
theorem dX12_fault_18 : decode cX12_fault 18 = .ok (.invokevirtual 254, 3) := by decide +kernel
theorem dX12_fault_21 : decode cX12_fault 21 = .ok (.goto 5, 3) := by decide +kernel
theorem dX12_fault_24 : decode cX12_fault 24 = .ok (.bipush (-2), 2) := by decide +kernel
theorem dX12_fault_26 : decode cX12_fault 26 = .ok (.ireturn, 1) := by decide +kernel
theorem dX12_takeMinistry_0 : decode cX12_takeMinistry 0 = .ok (.aload_n 0, 1) := by decide +kernel
theorem dX12_takeMinistry_1 : decode cX12_takeMinistry 1 = .ok (.aload_n 0, 1) := by decide +kernel
theorem dX12_takeMinistry_2 : decode cX12_takeMinistry 2 = .ok (.getfield 235, 3) := by decide +kernel
theorem dX12_takeMinistry_5 : decode cX12_takeMinistry 5 = .ok (.putfield 257, 3) := by decide +kernel
theorem dX12_takeMinistry_8 : decode cX12_takeMinistry 8 = .ok (.aload_n 0, 1) := by decide +kernel
theorem dX12_takeMinistry_9 : decode cX12_takeMinistry 9 = .ok (.aload_n 0, 1) := by decide +kernel
theorem dX12_takeMinistry_10 : decode cX12_takeMinistry 10 = .ok (.getfield 238, 3) := by decide +kernel
theorem dX12_takeMinistry_13 : decode cX12_takeMinistry 13 = .ok (.putfield 260, 3) := by decide +kernel
theorem dX12_takeMinistry_16 : decode cX12_takeMinistry 16 = .ok (.aload_n 0, 1) := by decide +kernel
theorem dX12_takeMinistry_17 : decode cX12_takeMinistry 17 = .ok (.aload_n 0, 1) := by decide +kernel
theorem dX12_takeMinistry_18 : decode cX12_takeMinistry 18 = .ok (.getfield 241, 3) := by decide +kernel
theorem dX12_takeMinistry_21 : decode cX12_takeMinistry 21 = .ok (.putfield 263, 3) := by decide +kernel
theorem dX12_takeMinistry_24 : decode cX12_takeMinistry 24 = .ok (.iconst 0, 1) := by decide +kernel
theorem dX12_takeMinistry_25 : decode cX12_takeMinistry 25 = .ok (.istore_n 1, 1) := by decide +kernel
theorem dX12_takeMinistry_26 : decode cX12_takeMinistry 26 = .ok (.iload_n 1, 1) := by decide +kernel
theorem dX12_takeMinistry_27 : decode cX12_takeMinistry 27 = .ok (.iconst 2, 1) := by decide +kernel
theorem dX12_takeMinistry_28 : decode cX12_takeMinistry 28 = .ok (.if_icmp .ge 21, 3) := by decide +kernel
theorem dX12_takeMinistry_31 : decode cX12_takeMinistry 31 = .ok (.aload_n 0, 1) := by decide +kernel
theorem dX12_takeMinistry_32 : decode cX12_takeMinistry 32 = .ok (.getfield 52, 3) := by decide +kernel
theorem dX12_takeMinistry_35 : decode cX12_takeMinistry 35 = .ok (.iload_n 1, 1) := by decide +kernel
theorem dX12_takeMinistry_36 : decode cX12_takeMinistry 36 = .ok (.aload_n 0, 1) := by decide +kernel
theorem dX12_takeMinistry_37 : decode cX12_takeMinistry 37 = .ok (.getfield 40, 3) := by decide +kernel
theorem dX12_takeMinistry_40 : decode cX12_takeMinistry 40 = .ok (.iload_n 1, 1) := by decide +kernel
theorem dX12_takeMinistry_41 : decode cX12_takeMinistry 41 = .ok (.iaload, 1) := by decide +kernel
theorem dX12_takeMinistry_42 : decode cX12_takeMinistry 42 = .ok (.iastore, 1) := by decide +kernel
theorem dX12_takeMinistry_43 : decode cX12_takeMinistry 43 = .ok (.iinc 1 1, 3) := by decide +kernel
theorem dX12_takeMinistry_46 : decode cX12_takeMinistry 46 = .ok (.goto (-20), 3) := by decide +kernel
theorem dX12_takeMinistry_49 : decode cX12_takeMinistry 49 = .ok (.iconst 0, 1) := by decide +kernel
theorem dX12_takeMinistry_50 : decode cX12_takeMinistry 50 = .ok (.istore_n 1, 1) := by decide +kernel
theorem dX12_takeMinistry_51 : decode cX12_takeMinistry 51 = .ok (.iload_n 1, 1) := by decide +kernel
theorem dX12_takeMinistry_52 : decode cX12_takeMinistry 52 = .ok (.bipush 8, 2) := by decide +kernel
theorem dX12_takeMinistry_54 : decode cX12_takeMinistry 54 = .ok (.if_icmp .ge 21, 3) := by decide +kernel
theorem dX12_takeMinistry_57 : decode cX12_takeMinistry 57 = .ok (.aload_n 0, 1) := by decide +kernel
theorem dX12_takeMinistry_58 : decode cX12_takeMinistry 58 = .ok (.getfield 55, 3) := by decide +kernel
theorem dX12_takeMinistry_61 : decode cX12_takeMinistry 61 = .ok (.iload_n 1, 1) := by decide +kernel
theorem dX12_takeMinistry_62 : decode cX12_takeMinistry 62 = .ok (.aload_n 0, 1) := by decide +kernel
theorem dX12_takeMinistry_63 : decode cX12_takeMinistry 63 = .ok (.getfield 43, 3) := by decide +kernel
theorem dX12_takeMinistry_66 : decode cX12_takeMinistry 66 = .ok (.iload_n 1, 1) := by decide +kernel
theorem dX12_takeMinistry_67 : decode cX12_takeMinistry 67 = .ok (.iaload, 1) := by decide +kernel
theorem dX12_takeMinistry_68 : decode cX12_takeMinistry 68 = .ok (.iastore, 1) := by decide +kernel
theorem dX12_takeMinistry_69 : decode cX12_takeMinistry 69 = .ok (.iinc 1 1, 3) := by decide +kernel
theorem dX12_takeMinistry_72 : decode cX12_takeMinistry 72 = .ok (.goto (-21), 3) := by decide +kernel
theorem dX12_takeMinistry_75 : decode cX12_takeMinistry 75 = .ok (.iconst 0, 1) := by decide +kernel
theorem dX12_takeMinistry_76 : decode cX12_takeMinistry 76 = .ok (.istore_n 1, 1) := by decide +kernel
theorem dX12_takeMinistry_77 : decode cX12_takeMinistry 77 = .ok (.iload_n 1, 1) := by decide +kernel
theorem dX12_takeMinistry_78 : decode cX12_takeMinistry 78 = .ok (.bipush 21, 2) := by decide +kernel
theorem dX12_takeMinistry_80 : decode cX12_takeMinistry 80 = .ok (.if_icmp .ge 21, 3) := by decide +kernel
theorem dX12_takeMinistry_83 : decode cX12_takeMinistry 83 = .ok (.aload_n 0, 1) := by decide +kernel
theorem dX12_takeMinistry_84 : decode cX12_takeMinistry 84 = .ok (.getfield 58, 3) := by decide +kernel
theorem dX12_takeMinistry_87 : decode cX12_takeMinistry 87 = .ok (.iload_n 1, 1) := by decide +kernel
theorem dX12_takeMinistry_88 : decode cX12_takeMinistry 88 = .ok (.aload_n 0, 1) := by decide +kernel
theorem dX12_takeMinistry_89 : decode cX12_takeMinistry 89 = .ok (.getfield 46, 3) := by decide +kernel
theorem dX12_takeMinistry_92 : decode cX12_takeMinistry 92 = .ok (.iload_n 1, 1) := by decide +kernel
theorem dX12_takeMinistry_93 : decode cX12_takeMinistry 93 = .ok (.iaload, 1) := by decide +kernel
theorem dX12_takeMinistry_94 : decode cX12_takeMinistry 94 = .ok (.iastore, 1) := by decide +kernel
theorem dX12_takeMinistry_95 : decode cX12_takeMinistry 95 = .ok (.iinc 1 1, 3) := by decide +kernel
theorem dX12_takeMinistry_98 : decode cX12_takeMinistry 98 = .ok (.goto (-21), 3) := by decide +kernel
theorem dX12_takeMinistry_101 : decode cX12_takeMinistry 101 = .ok (.iconst 0, 1) := by decide +kernel
theorem dX12_takeMinistry_102 : decode cX12_takeMinistry 102 = .ok (.istore_n 1, 1) := by decide +kernel
theorem dX12_takeMinistry_103 : decode cX12_takeMinistry 103 = .ok (.iload_n 1, 1) := by decide +kernel
theorem dX12_takeMinistry_104 : decode cX12_takeMinistry 104 = .ok (.bipush 12, 2) := by decide +kernel
theorem dX12_takeMinistry_106 : decode cX12_takeMinistry 106 = .ok (.if_icmp .ge 21, 3) := by decide +kernel
theorem dX12_takeMinistry_109 : decode cX12_takeMinistry 109 = .ok (.aload_n 0, 1) := by decide +kernel
theorem dX12_takeMinistry_110 : decode cX12_takeMinistry 110 = .ok (.getfield 61, 3) := by decide +kernel
theorem dX12_takeMinistry_113 : decode cX12_takeMinistry 113 = .ok (.iload_n 1, 1) := by decide +kernel
theorem dX12_takeMinistry_114 : decode cX12_takeMinistry 114 = .ok (.aload_n 0, 1) := by decide +kernel
theorem dX12_takeMinistry_115 : decode cX12_takeMinistry 115 = .ok (.getfield 49, 3) := by decide +kernel
theorem dX12_takeMinistry_118 : decode cX12_takeMinistry 118 = .ok (.iload_n 1, 1) := by decide +kernel
theorem dX12_takeMinistry_119 : decode cX12_takeMinistry 119 = .ok (.iaload, 1) := by decide +kernel
theorem dX12_takeMinistry_120 : decode cX12_takeMinistry 120 = .ok (.iastore, 1) := by decide +kernel
theorem dX12_takeMinistry_121 : decode cX12_takeMinistry 121 = .ok (.iinc 1 1, 3) := by decide +kernel
theorem dX12_takeMinistry_124 : decode cX12_takeMinistry 124 = .ok (.goto (-21), 3) := by decide +kernel
theorem dX12_takeMinistry_127 : decode cX12_takeMinistry 127 = .ok (.iconst 0, 1) := by decide +kernel
theorem dX12_takeMinistry_128 : decode cX12_takeMinistry 128 = .ok (.istore_n 1, 1) := by decide +kernel
theorem dX12_takeMinistry_129 : decode cX12_takeMinistry 129 = .ok (.iload_n 1, 1) := by decide +kernel
theorem dX12_takeMinistry_130 : decode cX12_takeMinistry 130 = .ok (.sipush 160, 3) := by decide +kernel
theorem dX12_takeMinistry_133 : decode cX12_takeMinistry 133 = .ok (.if_icmp .ge 16, 3) := by decide +kernel
theorem dX12_takeMinistry_136 : decode cX12_takeMinistry 136 = .ok (.aload_n 0, 1) := by decide +kernel
theorem dX12_takeMinistry_137 : decode cX12_takeMinistry 137 = .ok (.getfield 64, 3) := by decide +kernel
theorem dX12_takeMinistry_140 : decode cX12_takeMinistry 140 = .ok (.iload_n 1, 1) := by decide +kernel
theorem dX12_takeMinistry_141 : decode cX12_takeMinistry 141 = .ok (.iconst 0, 1) := by decide +kernel
theorem dX12_takeMinistry_142 : decode cX12_takeMinistry 142 = .ok (.iastore, 1) := by decide +kernel
theorem dX12_takeMinistry_143 : decode cX12_takeMinistry 143 = .ok (.iinc 1 1, 3) := by decide +kernel
theorem dX12_takeMinistry_146 : decode cX12_takeMinistry 146 = .ok (.goto (-17), 3) := by decide +kernel
theorem dX12_takeMinistry_149 : decode cX12_takeMinistry 149 = .ok (.iconst 0, 1) := by decide +kernel
theorem dX12_takeMinistry_150 : decode cX12_takeMinistry 150 = .ok (.istore_n 1, 1) := by decide +kernel
theorem dX12_takeMinistry_151 : decode cX12_takeMinistry 151 = .ok (.iload_n 1, 1) := by decide +kernel
theorem dX12_takeMinistry_152 : decode cX12_takeMinistry 152 = .ok (.aload_n 0, 1) := by decide +kernel
theorem dX12_takeMinistry_153 : decode cX12_takeMinistry 153 = .ok (.getfield 257, 3) := by decide +kernel
theorem dX12_takeMinistry_156 : decode cX12_takeMinistry 156 = .ok (.if_icmp .ge 28, 3) := by decide +kernel
theorem dX12_takeMinistry_159 : decode cX12_takeMinistry 159 = .ok (.aload_n 0, 1) := by decide +kernel
theorem dX12_takeMinistry_160 : decode cX12_takeMinistry 160 = .ok (.getfield 64, 3) := by decide +kernel
theorem dX12_takeMinistry_163 : decode cX12_takeMinistry 163 = .ok (.bipush 32, 2) := by decide +kernel
theorem dX12_takeMinistry_165 : decode cX12_takeMinistry 165 = .ok (.iload_n 1, 1) := by decide +kernel
theorem dX12_takeMinistry_166 : decode cX12_takeMinistry 166 = .ok (.iadd, 1) := by decide +kernel
theorem dX12_takeMinistry_167 : decode cX12_takeMinistry 167 = .ok (.aload_n 0, 1) := by decide +kernel
theorem dX12_takeMinistry_168 : decode cX12_takeMinistry 168 = .ok (.getfield 55, 3) := by decide +kernel
theorem dX12_takeMinistry_171 : decode cX12_takeMinistry 171 = .ok (.iconst 2, 1) := by decide +kernel
theorem dX12_takeMinistry_172 : decode cX12_takeMinistry 172 = .ok (.iload_n 1, 1) := by decide +kernel
theorem dX12_takeMinistry_173 : decode cX12_takeMinistry 173 = .ok (.imul, 1) := by decide +kernel
theorem dX12_takeMinistry_174 : decode cX12_takeMinistry 174 = .ok (.iconst 0, 1) := by decide +kernel
theorem dX12_takeMinistry_175 : decode cX12_takeMinistry 175 = .ok (.iadd, 1) := by decide +kernel
theorem dX12_takeMinistry_176 : decode cX12_takeMinistry 176 = .ok (.iaload, 1) := by decide +kernel
theorem dX12_takeMinistry_177 : decode cX12_takeMinistry 177 = .ok (.iastore, 1) := by decide +kernel
theorem dX12_takeMinistry_178 : decode cX12_takeMinistry 178 = .ok (.iinc 1 1, 3) := by decide +kernel
theorem dX12_takeMinistry_181 : decode cX12_takeMinistry 181 = .ok (.goto (-30), 3) := by decide +kernel
theorem dX12_takeMinistry_184 : decode cX12_takeMinistry 184 = .ok (.aload_n 0, 1) := by decide +kernel
theorem dX12_takeMinistry_185 : decode cX12_takeMinistry 185 = .ok (.getfield 64, 3) := by decide +kernel
theorem dX12_takeMinistry_188 : decode cX12_takeMinistry 188 = .ok (.bipush 36, 2) := by decide +kernel
theorem dX12_takeMinistry_190 : decode cX12_takeMinistry 190 = .ok (.aload_n 0, 1) := by decide +kernel
theorem dX12_takeMinistry_191 : decode cX12_takeMinistry 191 = .ok (.getfield 52, 3) := by decide +kernel
theorem dX12_takeMinistry_194 : decode cX12_takeMinistry 194 = .ok (.iconst 1, 1) := by decide +kernel
theorem dX12_takeMinistry_195 : decode cX12_takeMinistry 195 = .ok (.iaload, 1) := by decide +kernel
theorem dX12_takeMinistry_196 : decode cX12_takeMinistry 196 = .ok (.iastore, 1) := by decide +kernel
theorem dX12_takeMinistry_197 : decode cX12_takeMinistry 197 = .ok (.aload_n 0, 1) := by decide +kernel
theorem dX12_takeMinistry_198 : decode cX12_takeMinistry 198 = .ok (.iconst 0, 1) := by decide +kernel
theorem dX12_takeMinistry_199 : decode cX12_takeMinistry 199 = .ok (.putfield 266, 3) := by decide +kernel
theorem dX12_takeMinistry_202 : decode cX12_takeMinistry 202 = .ok (.aload_n 0, 1) := by decide +kernel
theorem dX12_takeMinistry_203 : decode cX12_takeMinistry 203 = .ok (.iconst 0, 1) := by decide +kernel
theorem dX12_takeMinistry_204 : decode cX12_takeMinistry 204 = .ok (.putfield 269, 3) := by decide +kernel
theorem dX12_takeMinistry_207 : decode cX12_takeMinistry 207 = .ok (.aload_n 0, 1) := by decide +kernel
theorem dX12_takeMinistry_208 : decode cX12_takeMinistry 208 = .ok (.iconst 0, 1) := by decide +kernel
theorem dX12_takeMinistry_209 : decode cX12_takeMinistry 209 = .ok (.putfield 272, 3) := by decide +kernel
theorem dX12_takeMinistry_212 : decode cX12_takeMinistry 212 = .ok (.aload_n 0, 1) := by decide +kernel
theorem dX12_takeMinistry_213 : decode cX12_takeMinistry 213 = .ok (.getfield 260, 3) := by decide +kernel
theorem dX12_takeMinistry_216 : decode cX12_takeMinistry 216 = .ok (.ireturn, 1) := by decide +kernel
theorem dX12_text_0 : decode cX12_text 0 = .ok (.iload_n 1, 1) := by decide +kernel
theorem dX12_text_1 : decode cX12_text 1 = .ok (.ifCond .ne 21, 3) := by decide +kernel
theorem dX12_text_4 : decode cX12_text 4 = .ok (.aload_n 0, 1) := by decide +kernel
theorem dX12_text_5 : decode cX12_text 5 = .ok (.invokevirtual 251, 3) := by decide +kernel
theorem dX12_text_8 : decode cX12_text 8 = .ok (.iconst (-1), 1) := by decide +kernel
theorem dX12_text_9 : decode cX12_text 9 = .ok (.if_icmp .ne 13, 3) := by decide +kernel
theorem dX12_text_12 : decode cX12_text 12 = .ok (.aload_n 0, 1) := by decide +kernel
theorem dX12_text_13 : decode cX12_text 13 = .ok (.iconst 0, 1) := by decide +kernel
theorem dX12_text_14 : decode cX12_text 14 = .ok (.putfield 99, 3) := by decide +kernel
theorem dX12_text_17 : decode cX12_text 17 = .ok (.aload_n 0, 1) := by decide +kernel
theorem dX12_text_18 : decode cX12_text 18 = .ok (.invokevirtual 276, 3) := by decide +kernel
theorem dX12_text_21 : decode cX12_text 21 = .ok (.ireturn, 1) := by decide +kernel
theorem dX12_text_22 : decode cX12_text 22 = .ok (.iload_n 1, 1) := by decide +kernel
theorem dX12_text_23 : decode cX12_text 23 = .ok (.iconst 1, 1) := by decide +kernel
theorem dX12_text_24 : decode cX12_text 24 = .ok (.if_icmp .ne 45, 3) := by decide +kernel
theorem dX12_text_27 : decode cX12_text 27 = .ok (.aload_n 0, 1) := by decide +kernel
theorem dX12_text_28 : decode cX12_text 28 = .ok (.getfield 279, 3) := by decide +kernel
theorem dX12_text_31 : decode cX12_text 31 = .ok (.iconst 4, 1) := by decide +kernel
theorem dX12_text_32 : decode cX12_text 32 = .ok (.if_icmp .ge 37, 3) := by decide +kernel
theorem dX12_text_35 : decode cX12_text 35 = .ok (.aload_n 0, 1) := by decide +kernel
theorem dX12_text_36 : decode cX12_text 36 = .ok (.aload_n 0, 1) := by decide +kernel
theorem dX12_text_37 : decode cX12_text 37 = .ok (.getfield 279, 3) := by decide +kernel
theorem dX12_text_40 : decode cX12_text 40 = .ok (.invokevirtual 254, 3) := by decide +kernel
theorem dX12_text_43 : decode cX12_text 43 = .ok (.iconst (-1), 1) := by decide +kernel
theorem dX12_text_44 : decode cX12_text 44 = .ok (.if_icmp .ne 25, 3) := by decide +kernel
theorem dX12_text_47 : decode cX12_text 47 = .ok (.aload_n 0, 1) := by decide +kernel
theorem dX12_text_48 : decode cX12_text 48 = .ok (.iconst 0, 1) := by decide +kernel
theorem dX12_text_49 : decode cX12_text 49 = .ok (.putfield 99, 3) := by decide +kernel
theorem dX12_text_52 : decode cX12_text 52 = .ok (.aload_n 0, 1) := by decide +kernel
theorem dX12_text_53 : decode cX12_text 53 = .ok (.dup, 1) := by decide +kernel
theorem dX12_text_54 : decode cX12_text 54 = .ok (.getfield 279, 3) := by decide +kernel
theorem dX12_text_57 : decode cX12_text 57 = .ok (.iconst 1, 1) := by decide +kernel
theorem dX12_text_58 : decode cX12_text 58 = .ok (.iadd, 1) := by decide +kernel
theorem dX12_text_59 : decode cX12_text 59 = .ok (.putfield 279, 3) := by decide +kernel
theorem dX12_text_62 : decode cX12_text 62 = .ok (.aload_n 0, 1) := by decide +kernel
theorem dX12_text_63 : decode cX12_text 63 = .ok (.getfield 279, 3) := by decide +kernel
theorem dX12_text_66 : decode cX12_text 66 = .ok (.iconst 1, 1) := by decide +kernel
theorem dX12_text_67 : decode cX12_text 67 = .ok (.isub, 1) := by decide +kernel
theorem dX12_text_68 : decode cX12_text 68 = .ok (.ireturn, 1) := by decide +kernel
theorem dX12_text_69 : decode cX12_text 69 = .ok (.iconst (-1), 1) := by decide +kernel
theorem dX12_text_70 : decode cX12_text 70 = .ok (.ireturn, 1) := by decide +kernel
theorem dX12_of_0 : decode cX12_of 0 = .ok (.aload_n 0, 1) := by decide +kernel
theorem dX12_of_1 : decode cX12_of 1 = .ok (.getfield 58, 3) := by decide +kernel
theorem dX12_of_4 : decode cX12_of 4 = .ok (.iconst 3, 1) := by decide +kernel
theorem dX12_of_5 : decode cX12_of 5 = .ok (.iload_n 1, 1) := by decide +kernel
theorem dX12_of_6 : decode cX12_of 6 = .ok (.imul, 1) := by decide +kernel
theorem dX12_of_7 : decode cX12_of 7 = .ok (.iload_n 2, 1) := by decide +kernel
theorem dX12_of_8 : decode cX12_of 8 = .ok (.iadd, 1) := by decide +kernel
theorem dX12_of_9 : decode cX12_of 9 = .ok (.iaload, 1) := by decide +kernel
theorem dX12_of_10 : decode cX12_of 10 = .ok (.ireturn, 1) := by decide +kernel
theorem dX12_isName_0 : decode cX12_isName 0 = .ok (.iload_n 1, 1) := by decide +kernel
theorem dX12_isName_1 : decode cX12_isName 1 = .ok (.iconst 0, 1) := by decide +kernel
theorem dX12_isName_2 : decode cX12_isName 2 = .ok (.aload_n 0, 1) := by decide +kernel
theorem dX12_isName_3 : decode cX12_isName 3 = .ok (.getfield 260, 3) := by decide +kernel
theorem dX12_isName_6 : decode cX12_isName 6 = .ok (.iconst 1, 1) := by decide +kernel
theorem dX12_isName_7 : decode cX12_isName 7 = .ok (.isub, 1) := by decide +kernel
theorem dX12_isName_8 : decode cX12_isName 8 = .ok (.invokestatic 207, 3) := by decide +kernel
theorem dX12_isName_11 : decode cX12_isName 11 = .ok (.ireturn, 1) := by decide +kernel
theorem dX12_isWell_0 : decode cX12_isWell 0 = .ok (.iload_n 1, 1) := by decide +kernel
theorem dX12_isWell_1 : decode cX12_isWell 1 = .ok (.iconst 0, 1) := by decide +kernel
theorem dX12_isWell_2 : decode cX12_isWell 2 = .ok (.aload_n 0, 1) := by decide +kernel
theorem dX12_isWell_3 : decode cX12_isWell 3 = .ok (.getfield 257, 3) := by decide +kernel
theorem dX12_isWell_6 : decode cX12_isWell 6 = .ok (.iconst 1, 1) := by decide +kernel
theorem dX12_isWell_7 : decode cX12_isWell 7 = .ok (.isub, 1) := by decide +kernel
theorem dX12_isWell_8 : decode cX12_isWell 8 = .ok (.invokestatic 207, 3) := by decide +kernel
theorem dX12_isWell_11 : decode cX12_isWell 11 = .ok (.ireturn, 1) := by decide +kernel
theorem dX12_isFile_0 : decode cX12_isFile 0 = .ok (.iload_n 1, 1) := by decide +kernel
theorem dX12_isFile_1 : decode cX12_isFile 1 = .ok (.iconst 0, 1) := by decide +kernel
theorem dX12_isFile_2 : decode cX12_isFile 2 = .ok (.aload_n 0, 1) := by decide +kernel
theorem dX12_isFile_3 : decode cX12_isFile 3 = .ok (.getfield 263, 3) := by decide +kernel
theorem dX12_isFile_6 : decode cX12_isFile 6 = .ok (.iconst 1, 1) := by decide +kernel
theorem dX12_isFile_7 : decode cX12_isFile 7 = .ok (.isub, 1) := by decide +kernel
theorem dX12_isFile_8 : decode cX12_isFile 8 = .ok (.invokestatic 207, 3) := by decide +kernel
theorem dX12_isFile_11 : decode cX12_isFile 11 = .ok (.ireturn, 1) := by decide +kernel
theorem dX12_lies_0 : decode cX12_lies 0 = .ok (.aload_n 0, 1) := by decide +kernel
theorem dX12_lies_1 : decode cX12_lies 1 = .ok (.getfield 64, 3) := by decide +kernel
theorem dX12_lies_4 : decode cX12_lies 4 = .ok (.iconst 4, 1) := by decide +kernel
theorem dX12_lies_5 : decode cX12_lies 5 = .ok (.bipush 7, 2) := by decide +kernel
theorem dX12_lies_7 : decode cX12_lies 7 = .ok (.iload_n 1, 1) := by decide +kernel
theorem dX12_lies_8 : decode cX12_lies 8 = .ok (.imul, 1) := by decide +kernel
theorem dX12_lies_9 : decode cX12_lies 9 = .ok (.iadd, 1) := by decide +kernel
theorem dX12_lies_10 : decode cX12_lies 10 = .ok (.iload_n 2, 1) := by decide +kernel
theorem dX12_lies_11 : decode cX12_lies 11 = .ok (.iadd, 1) := by decide +kernel
theorem dX12_lies_12 : decode cX12_lies 12 = .ok (.iaload, 1) := by decide +kernel
theorem dX12_lies_13 : decode cX12_lies 13 = .ok (.ireturn, 1) := by decide +kernel
theorem dX12_dropsOf_0 : decode cX12_dropsOf 0 = .ok (.aload_n 0, 1) := by decide +kernel
theorem dX12_dropsOf_1 : decode cX12_dropsOf 1 = .ok (.iload_n 1, 1) := by decide +kernel
theorem dX12_dropsOf_2 : decode cX12_dropsOf 2 = .ok (.iconst 0, 1) := by decide +kernel
theorem dX12_dropsOf_3 : decode cX12_dropsOf 3 = .ok (.invokevirtual 282, 3) := by decide +kernel
theorem dX12_dropsOf_6 : decode cX12_dropsOf 6 = .ok (.aload_n 0, 1) := by decide +kernel
theorem dX12_dropsOf_7 : decode cX12_dropsOf 7 = .ok (.getfield 52, 3) := by decide +kernel
theorem dX12_dropsOf_10 : decode cX12_dropsOf 10 = .ok (.iconst 0, 1) := by decide +kernel
theorem dX12_dropsOf_11 : decode cX12_dropsOf 11 = .ok (.iaload, 1) := by decide +kernel
theorem dX12_dropsOf_12 : decode cX12_dropsOf 12 = .ok (.imul, 1) := by decide +kernel
theorem dX12_dropsOf_13 : decode cX12_dropsOf 13 = .ok (.ireturn, 1) := by decide +kernel
theorem dX12_dropsIn_0 : decode cX12_dropsIn 0 = .ok (.iconst 0, 1) := by decide +kernel
theorem dX12_dropsIn_1 : decode cX12_dropsIn 1 = .ok (.istore_n 2, 1) := by decide +kernel
theorem dX12_dropsIn_2 : decode cX12_dropsIn 2 = .ok (.iconst 0, 1) := by decide +kernel
theorem dX12_dropsIn_3 : decode cX12_dropsIn 3 = .ok (.istore_n 3, 1) := by decide +kernel
theorem dX12_dropsIn_4 : decode cX12_dropsIn 4 = .ok (.iload_n 3, 1) := by decide +kernel
theorem dX12_dropsIn_5 : decode cX12_dropsIn 5 = .ok (.aload_n 0, 1) := by decide +kernel
theorem dX12_dropsIn_6 : decode cX12_dropsIn 6 = .ok (.getfield 64, 3) := by decide +kernel
theorem dX12_dropsIn_9 : decode cX12_dropsIn 9 = .ok (.iconst 0, 1) := by decide +kernel
theorem dX12_dropsIn_10 : decode cX12_dropsIn 10 = .ok (.iload_n 1, 1) := by decide +kernel
theorem dX12_dropsIn_11 : decode cX12_dropsIn 11 = .ok (.iadd, 1) := by decide +kernel
theorem dX12_dropsIn_12 : decode cX12_dropsIn 12 = .ok (.iaload, 1) := by decide +kernel
theorem dX12_dropsIn_13 : decode cX12_dropsIn 13 = .ok (.if_icmp .ge 22, 3) := by decide +kernel
theorem dX12_dropsIn_16 : decode cX12_dropsIn 16 = .ok (.iload_n 2, 1) := by decide +kernel
theorem dX12_dropsIn_17 : decode cX12_dropsIn 17 = .ok (.aload_n 0, 1) := by decide +kernel
theorem dX12_dropsIn_18 : decode cX12_dropsIn 18 = .ok (.aload_n 0, 1) := by decide +kernel
theorem dX12_dropsIn_19 : decode cX12_dropsIn 19 = .ok (.iload_n 1, 1) := by decide +kernel
theorem dX12_dropsIn_20 : decode cX12_dropsIn 20 = .ok (.iload_n 3, 1) := by decide +kernel
theorem dX12_dropsIn_21 : decode cX12_dropsIn 21 = .ok (.invokevirtual 285, 3) := by decide +kernel
theorem dX12_dropsIn_24 : decode cX12_dropsIn 24 = .ok (.invokevirtual 288, 3) := by decide +kernel
theorem dX12_dropsIn_27 : decode cX12_dropsIn 27 = .ok (.iadd, 1) := by decide +kernel
theorem dX12_dropsIn_28 : decode cX12_dropsIn 28 = .ok (.istore_n 2, 1) := by decide +kernel
theorem dX12_dropsIn_29 : decode cX12_dropsIn 29 = .ok (.iinc 3 1, 3) := by decide +kernel
theorem dX12_dropsIn_32 : decode cX12_dropsIn 32 = .ok (.goto (-28), 3) := by decide +kernel
theorem dX12_dropsIn_35 : decode cX12_dropsIn 35 = .ok (.iload_n 2, 1) := by decide +kernel
theorem dX12_dropsIn_36 : decode cX12_dropsIn 36 = .ok (.ireturn, 1) := by decide +kernel
theorem dX12_roomOf_0 : decode cX12_roomOf 0 = .ok (.aload_n 0, 1) := by decide +kernel
theorem dX12_roomOf_1 : decode cX12_roomOf 1 = .ok (.getfield 64, 3) := by decide +kernel
theorem dX12_roomOf_4 : decode cX12_roomOf 4 = .ok (.bipush 32, 2) := by decide +kernel
theorem dX12_roomOf_6 : decode cX12_roomOf 6 = .ok (.iload_n 1, 1) := by decide +kernel
theorem dX12_roomOf_7 : decode cX12_roomOf 7 = .ok (.iadd, 1) := by decide +kernel
theorem dX12_roomOf_8 : decode cX12_roomOf 8 = .ok (.iaload, 1) := by decide +kernel
theorem dX12_roomOf_9 : decode cX12_roomOf 9 = .ok (.aload_n 0, 1) := by decide +kernel
theorem dX12_roomOf_10 : decode cX12_roomOf 10 = .ok (.iload_n 1, 1) := by decide +kernel
theorem dX12_roomOf_11 : decode cX12_roomOf 11 = .ok (.invokevirtual 291, 3) := by decide +kernel
theorem dX12_roomOf_14 : decode cX12_roomOf 14 = .ok (.isub, 1) := by decide +kernel
theorem dX12_roomOf_15 : decode cX12_roomOf 15 = .ok (.ireturn, 1) := by decide +kernel
theorem dX12_layerOf_0 : decode cX12_layerOf 0 = .ok (.iconst 0, 1) := by decide +kernel
theorem dX12_layerOf_1 : decode cX12_layerOf 1 = .ok (.istore_n 3, 1) := by decide +kernel
theorem dX12_layerOf_2 : decode cX12_layerOf 2 = .ok (.iload_n 3, 1) := by decide +kernel
theorem dX12_layerOf_3 : decode cX12_layerOf 3 = .ok (.aload_n 0, 1) := by decide +kernel
theorem dX12_layerOf_4 : decode cX12_layerOf 4 = .ok (.getfield 64, 3) := by decide +kernel
theorem dX12_layerOf_7 : decode cX12_layerOf 7 = .ok (.iconst 0, 1) := by decide +kernel
theorem dX12_layerOf_8 : decode cX12_layerOf 8 = .ok (.iload_n 1, 1) := by decide +kernel
theorem dX12_layerOf_9 : decode cX12_layerOf 9 = .ok (.iadd, 1) := by decide +kernel
theorem dX12_layerOf_10 : decode cX12_layerOf 10 = .ok (.iaload, 1) := by decide +kernel
theorem dX12_layerOf_11 : decode cX12_layerOf 11 = .ok (.if_icmp .ge 21, 3) := by decide +kernel
theorem dX12_layerOf_14 : decode cX12_layerOf 14 = .ok (.aload_n 0, 1) := by decide +kernel
theorem dX12_layerOf_15 : decode cX12_layerOf 15 = .ok (.iload_n 1, 1) := by decide +kernel
theorem dX12_layerOf_16 : decode cX12_layerOf 16 = .ok (.iload_n 3, 1) := by decide +kernel
theorem dX12_layerOf_17 : decode cX12_layerOf 17 = .ok (.invokevirtual 285, 3) := by decide +kernel
theorem dX12_layerOf_20 : decode cX12_layerOf 20 = .ok (.iload_n 2, 1) := by decide +kernel
theorem dX12_layerOf_21 : decode cX12_layerOf 21 = .ok (.if_icmp .ne 5, 3) := by decide +kernel
theorem dX12_layerOf_24 : decode cX12_layerOf 24 = .ok (.iload_n 3, 1) := by decide +kernel
theorem dX12_layerOf_25 : decode cX12_layerOf 25 = .ok (.ireturn, 1) := by decide +kernel
theorem dX12_layerOf_26 : decode cX12_layerOf 26 = .ok (.iinc 3 1, 3) := by decide +kernel
theorem dX12_layerOf_29 : decode cX12_layerOf 29 = .ok (.goto (-27), 3) := by decide +kernel
theorem dX12_layerOf_32 : decode cX12_layerOf 32 = .ok (.iconst (-1), 1) := by decide +kernel
theorem dX12_layerOf_33 : decode cX12_layerOf 33 = .ok (.ireturn, 1) := by decide +kernel
theorem dX12_wellOf_0 : decode cX12_wellOf 0 = .ok (.iconst 0, 1) := by decide +kernel
theorem dX12_wellOf_1 : decode cX12_wellOf 1 = .ok (.istore_n 2, 1) := by decide +kernel
theorem dX12_wellOf_2 : decode cX12_wellOf 2 = .ok (.iload_n 2, 1) := by decide +kernel
theorem dX12_wellOf_3 : decode cX12_wellOf 3 = .ok (.aload_n 0, 1) := by decide +kernel
theorem dX12_wellOf_4 : decode cX12_wellOf 4 = .ok (.getfield 257, 3) := by decide +kernel
theorem dX12_wellOf_7 : decode cX12_wellOf 7 = .ok (.if_icmp .ge 21, 3) := by decide +kernel
theorem dX12_wellOf_10 : decode cX12_wellOf 10 = .ok (.aload_n 0, 1) := by decide +kernel
theorem dX12_wellOf_11 : decode cX12_wellOf 11 = .ok (.iload_n 2, 1) := by decide +kernel
theorem dX12_wellOf_12 : decode cX12_wellOf 12 = .ok (.iload_n 1, 1) := by decide +kernel
theorem dX12_wellOf_13 : decode cX12_wellOf 13 = .ok (.invokevirtual 294, 3) := by decide +kernel
theorem dX12_wellOf_16 : decode cX12_wellOf 16 = .ok (.iconst (-1), 1) := by decide +kernel
theorem dX12_wellOf_17 : decode cX12_wellOf 17 = .ok (.if_icmp .eq 5, 3) := by decide +kernel
theorem dX12_wellOf_20 : decode cX12_wellOf 20 = .ok (.iload_n 2, 1) := by decide +kernel
theorem dX12_wellOf_21 : decode cX12_wellOf 21 = .ok (.ireturn, 1) := by decide +kernel
theorem dX12_wellOf_22 : decode cX12_wellOf 22 = .ok (.iinc 2 1, 3) := by decide +kernel
theorem dX12_wellOf_25 : decode cX12_wellOf 25 = .ok (.goto (-23), 3) := by decide +kernel
theorem dX12_wellOf_28 : decode cX12_wellOf 28 = .ok (.iconst (-1), 1) := by decide +kernel
theorem dX12_wellOf_29 : decode cX12_wellOf 29 = .ok (.ireturn, 1) := by decide +kernel
theorem dX12_isFree_0 : decode cX12_isFree 0 = .ok (.aload_n 0, 1) := by decide +kernel
theorem dX12_isFree_1 : decode cX12_isFree 1 = .ok (.iload_n 1, 1) := by decide +kernel
theorem dX12_isFree_2 : decode cX12_isFree 2 = .ok (.invokevirtual 297, 3) := by decide +kernel
theorem dX12_isFree_5 : decode cX12_isFree 5 = .ok (.iconst (-1), 1) := by decide +kernel
theorem dX12_isFree_6 : decode cX12_isFree 6 = .ok (.if_icmp .ne 7, 3) := by decide +kernel
theorem dX12_isFree_9 : decode cX12_isFree 9 = .ok (.iconst 1, 1) := by decide +kernel
theorem dX12_isFree_10 : decode cX12_isFree 10 = .ok (.goto 4, 3) := by decide +kernel
theorem dX12_isFree_13 : decode cX12_isFree 13 = .ok (.iconst 0, 1) := by decide +kernel
theorem dX12_isFree_14 : decode cX12_isFree 14 = .ok (.ireturn, 1) := by decide +kernel
theorem dX12_aboveAt_0 : decode cX12_aboveAt 0 = .ok (.iconst 0, 1) := by decide +kernel
theorem dX12_aboveAt_1 : decode cX12_aboveAt 1 = .ok (.istore_n 3, 1) := by decide +kernel
theorem dX12_aboveAt_2 : decode cX12_aboveAt 2 = .ok (.iload_n 2, 1) := by decide +kernel
theorem dX12_aboveAt_3 : decode cX12_aboveAt 3 = .ok (.iconst 1, 1) := by decide +kernel
theorem dX12_aboveAt_4 : decode cX12_aboveAt 4 = .ok (.iadd, 1) := by decide +kernel
theorem dX12_aboveAt_5 : decode cX12_aboveAt 5 = .ok (.istore 4, 2) := by decide +kernel
theorem dX12_aboveAt_7 : decode cX12_aboveAt 7 = .ok (.iload 4, 2) := by decide +kernel
theorem dX12_aboveAt_9 : decode cX12_aboveAt 9 = .ok (.aload_n 0, 1) := by decide +kernel
theorem dX12_aboveAt_10 : decode cX12_aboveAt 10 = .ok (.getfield 64, 3) := by decide +kernel
theorem dX12_aboveAt_13 : decode cX12_aboveAt 13 = .ok (.iconst 0, 1) := by decide +kernel
theorem dX12_aboveAt_14 : decode cX12_aboveAt 14 = .ok (.iload_n 1, 1) := by decide +kernel
theorem dX12_aboveAt_15 : decode cX12_aboveAt 15 = .ok (.iadd, 1) := by decide +kernel
theorem dX12_aboveAt_16 : decode cX12_aboveAt 16 = .ok (.iaload, 1) := by decide +kernel
theorem dX12_aboveAt_17 : decode cX12_aboveAt 17 = .ok (.if_icmp .ge 23, 3) := by decide +kernel
theorem dX12_aboveAt_20 : decode cX12_aboveAt 20 = .ok (.iload_n 3, 1) := by decide +kernel
theorem dX12_aboveAt_21 : decode cX12_aboveAt 21 = .ok (.aload_n 0, 1) := by decide +kernel
theorem dX12_aboveAt_22 : decode cX12_aboveAt 22 = .ok (.aload_n 0, 1) := by decide +kernel
theorem dX12_aboveAt_23 : decode cX12_aboveAt 23 = .ok (.iload_n 1, 1) := by decide +kernel
theorem dX12_aboveAt_24 : decode cX12_aboveAt 24 = .ok (.iload 4, 2) := by decide +kernel
theorem dX12_aboveAt_26 : decode cX12_aboveAt 26 = .ok (.invokevirtual 285, 3) := by decide +kernel
theorem dX12_aboveAt_29 : decode cX12_aboveAt 29 = .ok (.invokevirtual 288, 3) := by decide +kernel
theorem dX12_aboveAt_32 : decode cX12_aboveAt 32 = .ok (.iadd, 1) := by decide +kernel
theorem dX12_aboveAt_33 : decode cX12_aboveAt 33 = .ok (.istore_n 3, 1) := by decide +kernel
theorem dX12_aboveAt_34 : decode cX12_aboveAt 34 = .ok (.iinc 4 1, 3) := by decide +kernel
theorem dX12_aboveAt_37 : decode cX12_aboveAt 37 = .ok (.goto (-30), 3) := by decide +kernel
theorem dX12_aboveAt_40 : decode cX12_aboveAt 40 = .ok (.iload_n 3, 1) := by decide +kernel
theorem dX12_aboveAt_41 : decode cX12_aboveAt 41 = .ok (.ireturn, 1) := by decide +kernel
theorem dX12_aboveOf_0 : decode cX12_aboveOf 0 = .ok (.aload_n 0, 1) := by decide +kernel
theorem dX12_aboveOf_1 : decode cX12_aboveOf 1 = .ok (.iload_n 1, 1) := by decide +kernel
theorem dX12_aboveOf_2 : decode cX12_aboveOf 2 = .ok (.invokevirtual 297, 3) := by decide +kernel
theorem dX12_aboveOf_5 : decode cX12_aboveOf 5 = .ok (.istore_n 2, 1) := by decide +kernel
theorem dX12_aboveOf_6 : decode cX12_aboveOf 6 = .ok (.iload_n 2, 1) := by decide +kernel
theorem dX12_aboveOf_7 : decode cX12_aboveOf 7 = .ok (.iconst (-1), 1) := by decide +kernel
theorem dX12_aboveOf_8 : decode cX12_aboveOf 8 = .ok (.if_icmp .ne 7, 3) := by decide +kernel
theorem dX12_aboveOf_11 : decode cX12_aboveOf 11 = .ok (.iconst 0, 1) := by decide +kernel
theorem dX12_aboveOf_12 : decode cX12_aboveOf 12 = .ok (.goto 14, 3) := by decide +kernel
theorem dX12_aboveOf_15 : decode cX12_aboveOf 15 = .ok (.aload_n 0, 1) := by decide +kernel
theorem dX12_aboveOf_16 : decode cX12_aboveOf 16 = .ok (.iload_n 2, 1) := by decide +kernel
theorem dX12_aboveOf_17 : decode cX12_aboveOf 17 = .ok (.aload_n 0, 1) := by decide +kernel
theorem dX12_aboveOf_18 : decode cX12_aboveOf 18 = .ok (.iload_n 2, 1) := by decide +kernel
theorem dX12_aboveOf_19 : decode cX12_aboveOf 19 = .ok (.iload_n 1, 1) := by decide +kernel
theorem dX12_aboveOf_20 : decode cX12_aboveOf 20 = .ok (.invokevirtual 294, 3) := by decide +kernel
theorem dX12_aboveOf_23 : decode cX12_aboveOf 23 = .ok (.invokevirtual 300, 3) := by decide +kernel
theorem dX12_aboveOf_26 : decode cX12_aboveOf 26 = .ok (.ireturn, 1) := by decide +kernel
theorem dX12_drowned_0 : decode cX12_drowned 0 = .ok (.iconst 0, 1) := by decide +kernel
theorem dX12_drowned_1 : decode cX12_drowned 1 = .ok (.istore_n 1, 1) := by decide +kernel
theorem dX12_drowned_2 : decode cX12_drowned 2 = .ok (.iconst 0, 1) := by decide +kernel
theorem dX12_drowned_3 : decode cX12_drowned 3 = .ok (.istore_n 2, 1) := by decide +kernel
theorem dX12_drowned_4 : decode cX12_drowned 4 = .ok (.iload_n 2, 1) := by decide +kernel
theorem dX12_drowned_5 : decode cX12_drowned 5 = .ok (.aload_n 0, 1) := by decide +kernel
theorem dX12_drowned_6 : decode cX12_drowned 6 = .ok (.getfield 260, 3) := by decide +kernel
theorem dX12_drowned_9 : decode cX12_drowned 9 = .ok (.if_icmp .ge 27, 3) := by decide +kernel
theorem dX12_drowned_12 : decode cX12_drowned 12 = .ok (.iload_n 1, 1) := by decide +kernel
theorem dX12_drowned_13 : decode cX12_drowned 13 = .ok (.aload_n 0, 1) := by decide +kernel
theorem dX12_drowned_14 : decode cX12_drowned 14 = .ok (.iload_n 2, 1) := by decide +kernel
theorem dX12_drowned_15 : decode cX12_drowned 15 = .ok (.invokevirtual 303, 3) := by decide +kernel
theorem dX12_drowned_18 : decode cX12_drowned 18 = .ok (.ifCond .eq 7, 3) := by decide +kernel
theorem dX12_drowned_21 : decode cX12_drowned 21 = .ok (.iconst 0, 1) := by decide +kernel
theorem dX12_drowned_22 : decode cX12_drowned 22 = .ok (.goto 6, 3) := by decide +kernel
theorem dX12_drowned_25 : decode cX12_drowned 25 = .ok (.iconst 1, 1) := by decide +kernel
theorem dX12_drowned_26 : decode cX12_drowned 26 = .ok (.iload_n 2, 1) := by decide +kernel
theorem dX12_drowned_27 : decode cX12_drowned 27 = .ok (.ishl, 1) := by decide +kernel
theorem dX12_drowned_28 : decode cX12_drowned 28 = .ok (.ior, 1) := by decide +kernel
theorem dX12_drowned_29 : decode cX12_drowned 29 = .ok (.istore_n 1, 1) := by decide +kernel
theorem dX12_drowned_30 : decode cX12_drowned 30 = .ok (.iinc 2 1, 3) := by decide +kernel
theorem dX12_drowned_33 : decode cX12_drowned 33 = .ok (.goto (-29), 3) := by decide +kernel
theorem dX12_drowned_36 : decode cX12_drowned 36 = .ok (.iload_n 1, 1) := by decide +kernel
theorem dX12_drowned_37 : decode cX12_drowned 37 = .ok (.ireturn, 1) := by decide +kernel
theorem dX12_knownBy_0 : decode cX12_knownBy 0 = .ok (.iconst 0, 1) := by decide +kernel
theorem dX12_knownBy_1 : decode cX12_knownBy 1 = .ok (.istore_n 2, 1) := by decide +kernel
theorem dX12_knownBy_2 : decode cX12_knownBy 2 = .ok (.iconst 0, 1) := by decide +kernel
theorem dX12_knownBy_3 : decode cX12_knownBy 3 = .ok (.istore_n 3, 1) := by decide +kernel
theorem dX12_knownBy_4 : decode cX12_knownBy 4 = .ok (.iload_n 3, 1) := by decide +kernel
theorem dX12_knownBy_5 : decode cX12_knownBy 5 = .ok (.aload_n 0, 1) := by decide +kernel
theorem dX12_knownBy_6 : decode cX12_knownBy 6 = .ok (.getfield 260, 3) := by decide +kernel
theorem dX12_knownBy_9 : decode cX12_knownBy 9 = .ok (.if_icmp .ge 29, 3) := by decide +kernel
theorem dX12_knownBy_12 : decode cX12_knownBy 12 = .ok (.iload_n 2, 1) := by decide +kernel
theorem dX12_knownBy_13 : decode cX12_knownBy 13 = .ok (.aload_n 0, 1) := by decide +kernel
theorem dX12_knownBy_14 : decode cX12_knownBy 14 = .ok (.iload_n 3, 1) := by decide +kernel
theorem dX12_knownBy_15 : decode cX12_knownBy 15 = .ok (.iconst 1, 1) := by decide +kernel
theorem dX12_knownBy_16 : decode cX12_knownBy 16 = .ok (.invokevirtual 282, 3) := by decide +kernel
theorem dX12_knownBy_19 : decode cX12_knownBy 19 = .ok (.iload_n 1, 1) := by decide +kernel
theorem dX12_knownBy_20 : decode cX12_knownBy 20 = .ok (.if_icmp .ne 9, 3) := by decide +kernel
theorem dX12_knownBy_23 : decode cX12_knownBy 23 = .ok (.iconst 1, 1) := by decide +kernel
theorem dX12_knownBy_24 : decode cX12_knownBy 24 = .ok (.iload_n 3, 1) := by decide +kernel
theorem dX12_knownBy_25 : decode cX12_knownBy 25 = .ok (.ishl, 1) := by decide +kernel
theorem dX12_knownBy_26 : decode cX12_knownBy 26 = .ok (.goto 4, 3) := by decide +kernel
theorem dX12_knownBy_29 : decode cX12_knownBy 29 = .ok (.iconst 0, 1) := by decide +kernel
theorem dX12_knownBy_30 : decode cX12_knownBy 30 = .ok (.ior, 1) := by decide +kernel
theorem dX12_knownBy_31 : decode cX12_knownBy 31 = .ok (.istore_n 2, 1) := by decide +kernel
theorem dX12_knownBy_32 : decode cX12_knownBy 32 = .ok (.iinc 3 1, 3) := by decide +kernel
theorem dX12_knownBy_35 : decode cX12_knownBy 35 = .ok (.goto (-31), 3) := by decide +kernel
theorem dX12_knownBy_38 : decode cX12_knownBy 38 = .ok (.iload_n 2, 1) := by decide +kernel
theorem dX12_knownBy_39 : decode cX12_knownBy 39 = .ok (.ireturn, 1) := by decide +kernel
theorem dX12_friendsOf_0 : decode cX12_friendsOf 0 = .ok (.aload_n 0, 1) := by decide +kernel
theorem dX12_friendsOf_1 : decode cX12_friendsOf 1 = .ok (.iload_n 1, 1) := by decide +kernel
theorem dX12_friendsOf_2 : decode cX12_friendsOf 2 = .ok (.invokevirtual 306, 3) := by decide +kernel
theorem dX12_friendsOf_5 : decode cX12_friendsOf 5 = .ok (.aload_n 0, 1) := by decide +kernel
theorem dX12_friendsOf_6 : decode cX12_friendsOf 6 = .ok (.invokevirtual 309, 3) := by decide +kernel
theorem dX12_friendsOf_9 : decode cX12_friendsOf 9 = .ok (.iconst (-1), 1) := by decide +kernel
theorem dX12_friendsOf_10 : decode cX12_friendsOf 10 = .ok (.ixor, 1) := by decide +kernel
theorem dX12_friendsOf_11 : decode cX12_friendsOf 11 = .ok (.iand, 1) := by decide +kernel
theorem dX12_friendsOf_12 : decode cX12_friendsOf 12 = .ok (.invokestatic 312, 3) := by decide +kernel
theorem dX12_friendsOf_15 : decode cX12_friendsOf 15 = .ok (.ireturn, 1) := by decide +kernel
theorem dX12_missedOf_0 : decode cX12_missedOf 0 = .ok (.aload_n 0, 1) := by decide +kernel
theorem dX12_missedOf_1 : decode cX12_missedOf 1 = .ok (.iload_n 1, 1) := by decide +kernel
theorem dX12_missedOf_2 : decode cX12_missedOf 2 = .ok (.iconst 0, 1) := by decide +kernel
theorem dX12_missedOf_3 : decode cX12_missedOf 3 = .ok (.invokevirtual 282, 3) := by decide +kernel
theorem dX12_missedOf_6 : decode cX12_missedOf 6 = .ok (.iconst 2, 1) := by decide +kernel
theorem dX12_missedOf_7 : decode cX12_missedOf 7 = .ok (.aload_n 0, 1) := by decide +kernel
theorem dX12_missedOf_8 : decode cX12_missedOf 8 = .ok (.iload_n 1, 1) := by decide +kernel
theorem dX12_missedOf_9 : decode cX12_missedOf 9 = .ok (.invokevirtual 317, 3) := by decide +kernel
theorem dX12_missedOf_12 : decode cX12_missedOf 12 = .ok (.imul, 1) := by decide +kernel
theorem dX12_missedOf_13 : decode cX12_missedOf 13 = .ok (.iadd, 1) := by decide +kernel
theorem dX12_missedOf_14 : decode cX12_missedOf 14 = .ok (.istore_n 2, 1) := by decide +kernel
theorem dX12_missedOf_15 : decode cX12_missedOf 15 = .ok (.aload_n 0, 1) := by decide +kernel
theorem dX12_missedOf_16 : decode cX12_missedOf 16 = .ok (.getfield 70, 3) := by decide +kernel
theorem dX12_missedOf_19 : decode cX12_missedOf 19 = .ok (.iconst (-1), 1) := by decide +kernel
theorem dX12_missedOf_20 : decode cX12_missedOf 20 = .ok (.if_icmp .eq 97, 3) := by decide +kernel
theorem dX12_missedOf_23 : decode cX12_missedOf 23 = .ok (.aload_n 0, 1) := by decide +kernel
theorem dX12_missedOf_24 : decode cX12_missedOf 24 = .ok (.getfield 34, 3) := by decide +kernel
theorem dX12_missedOf_27 : decode cX12_missedOf 27 = .ok (.iconst 0, 1) := by decide +kernel
theorem dX12_missedOf_28 : decode cX12_missedOf 28 = .ok (.aload_n 0, 1) := by decide +kernel
theorem dX12_missedOf_29 : decode cX12_missedOf 29 = .ok (.iload_n 1, 1) := by decide +kernel
theorem dX12_missedOf_30 : decode cX12_missedOf 30 = .ok (.iconst 0, 1) := by decide +kernel
theorem dX12_missedOf_31 : decode cX12_missedOf 31 = .ok (.invokevirtual 282, 3) := by decide +kernel
theorem dX12_missedOf_34 : decode cX12_missedOf 34 = .ok (.iastore, 1) := by decide +kernel
theorem dX12_missedOf_35 : decode cX12_missedOf 35 = .ok (.aload_n 0, 1) := by decide +kernel
theorem dX12_missedOf_36 : decode cX12_missedOf 36 = .ok (.getfield 34, 3) := by decide +kernel
theorem dX12_missedOf_39 : decode cX12_missedOf 39 = .ok (.iconst 1, 1) := by decide +kernel
theorem dX12_missedOf_40 : decode cX12_missedOf 40 = .ok (.aload_n 0, 1) := by decide +kernel
theorem dX12_missedOf_41 : decode cX12_missedOf 41 = .ok (.iload_n 1, 1) := by decide +kernel
theorem dX12_missedOf_42 : decode cX12_missedOf 42 = .ok (.invokevirtual 317, 3) := by decide +kernel
theorem dX12_missedOf_45 : decode cX12_missedOf 45 = .ok (.iastore, 1) := by decide +kernel
theorem dX12_missedOf_46 : decode cX12_missedOf 46 = .ok (.aload_n 0, 1) := by decide +kernel
theorem dX12_missedOf_47 : decode cX12_missedOf 47 = .ok (.getfield 34, 3) := by decide +kernel
theorem dX12_missedOf_50 : decode cX12_missedOf 50 = .ok (.iconst 2, 1) := by decide +kernel
theorem dX12_missedOf_51 : decode cX12_missedOf 51 = .ok (.aload_n 0, 1) := by decide +kernel
theorem dX12_missedOf_52 : decode cX12_missedOf 52 = .ok (.iload_n 1, 1) := by decide +kernel
theorem dX12_missedOf_53 : decode cX12_missedOf 53 = .ok (.invokevirtual 320, 3) := by decide +kernel
theorem dX12_missedOf_56 : decode cX12_missedOf 56 = .ok (.iastore, 1) := by decide +kernel
theorem dX12_missedOf_57 : decode cX12_missedOf 57 = .ok (.aload_n 0, 1) := by decide +kernel
theorem dX12_missedOf_58 : decode cX12_missedOf 58 = .ok (.getfield 34, 3) := by decide +kernel
theorem dX12_missedOf_61 : decode cX12_missedOf 61 = .ok (.iconst 3, 1) := by decide +kernel
theorem dX12_missedOf_62 : decode cX12_missedOf 62 = .ok (.aload_n 0, 1) := by decide +kernel
theorem dX12_missedOf_63 : decode cX12_missedOf 63 = .ok (.iload_n 1, 1) := by decide +kernel
theorem dX12_missedOf_64 : decode cX12_missedOf 64 = .ok (.iconst 2, 1) := by decide +kernel
theorem dX12_missedOf_65 : decode cX12_missedOf 65 = .ok (.invokevirtual 282, 3) := by decide +kernel
theorem dX12_missedOf_68 : decode cX12_missedOf 68 = .ok (.iastore, 1) := by decide +kernel
theorem dX12_missedOf_69 : decode cX12_missedOf 69 = .ok (.aload_n 0, 1) := by decide +kernel
theorem dX12_missedOf_70 : decode cX12_missedOf 70 = .ok (.getfield 34, 3) := by decide +kernel
theorem dX12_missedOf_73 : decode cX12_missedOf 73 = .ok (.iconst 4, 1) := by decide +kernel
theorem dX12_missedOf_74 : decode cX12_missedOf 74 = .ok (.aload_n 0, 1) := by decide +kernel
theorem dX12_missedOf_75 : decode cX12_missedOf 75 = .ok (.iload_n 1, 1) := by decide +kernel
theorem dX12_missedOf_76 : decode cX12_missedOf 76 = .ok (.invokevirtual 303, 3) := by decide +kernel
theorem dX12_missedOf_79 : decode cX12_missedOf 79 = .ok (.ifCond .eq 10, 3) := by decide +kernel
theorem dX12_missedOf_82 : decode cX12_missedOf 82 = .ok (.aload_n 0, 1) := by decide +kernel
theorem dX12_missedOf_83 : decode cX12_missedOf 83 = .ok (.getfield 257, 3) := by decide +kernel
theorem dX12_missedOf_86 : decode cX12_missedOf 86 = .ok (.goto 8, 3) := by decide +kernel
theorem dX12_missedOf_89 : decode cX12_missedOf 89 = .ok (.aload_n 0, 1) := by decide +kernel
theorem dX12_missedOf_90 : decode cX12_missedOf 90 = .ok (.iload_n 1, 1) := by decide +kernel
theorem dX12_missedOf_91 : decode cX12_missedOf 91 = .ok (.invokevirtual 297, 3) := by decide +kernel
theorem dX12_missedOf_94 : decode cX12_missedOf 94 = .ok (.iastore, 1) := by decide +kernel
theorem dX12_missedOf_95 : decode cX12_missedOf 95 = .ok (.aload_n 0, 1) := by decide +kernel
theorem dX12_missedOf_96 : decode cX12_missedOf 96 = .ok (.getfield 34, 3) := by decide +kernel
theorem dX12_missedOf_99 : decode cX12_missedOf 99 = .ok (.iconst 5, 1) := by decide +kernel
theorem dX12_missedOf_100 : decode cX12_missedOf 100 = .ok (.aload_n 0, 1) := by decide +kernel
theorem dX12_missedOf_101 : decode cX12_missedOf 101 = .ok (.getfield 64, 3) := by decide +kernel
theorem dX12_missedOf_104 : decode cX12_missedOf 104 = .ok (.bipush 38, 2) := by decide +kernel
theorem dX12_missedOf_106 : decode cX12_missedOf 106 = .ok (.iaload, 1) := by decide +kernel
theorem dX12_missedOf_107 : decode cX12_missedOf 107 = .ok (.iastore, 1) := by decide +kernel
theorem dX12_missedOf_108 : decode cX12_missedOf 108 = .ok (.aload_n 0, 1) := by decide +kernel
theorem dX12_missedOf_109 : decode cX12_missedOf 109 = .ok (.aload_n 0, 1) := by decide +kernel
theorem dX12_missedOf_110 : decode cX12_missedOf 110 = .ok (.getfield 70, 3) := by decide +kernel
theorem dX12_missedOf_113 : decode cX12_missedOf 113 = .ok (.invokevirtual 323, 3) := by decide +kernel
theorem dX12_missedOf_116 : decode cX12_missedOf 116 = .ok (.istore_n 2, 1) := by decide +kernel
theorem dX12_missedOf_117 : decode cX12_missedOf 117 = .ok (.iconst 0, 1) := by decide +kernel
theorem dX12_missedOf_118 : decode cX12_missedOf 118 = .ok (.bipush 30, 2) := by decide +kernel
theorem dX12_missedOf_120 : decode cX12_missedOf 120 = .ok (.iload_n 2, 1) := by decide +kernel
theorem dX12_missedOf_121 : decode cX12_missedOf 121 = .ok (.invokestatic 326, 3) := by decide +kernel
theorem dX12_missedOf_124 : decode cX12_missedOf 124 = .ok (.invokestatic 328, 3) := by decide +kernel
theorem dX12_missedOf_127 : decode cX12_missedOf 127 = .ok (.ireturn, 1) := by decide +kernel
theorem dX12_missedAll_0 : decode cX12_missedAll 0 = .ok (.iconst 0, 1) := by decide +kernel
theorem dX12_missedAll_1 : decode cX12_missedAll 1 = .ok (.istore_n 1, 1) := by decide +kernel
theorem dX12_missedAll_2 : decode cX12_missedAll 2 = .ok (.iconst 0, 1) := by decide +kernel
theorem dX12_missedAll_3 : decode cX12_missedAll 3 = .ok (.istore_n 2, 1) := by decide +kernel
theorem dX12_missedAll_4 : decode cX12_missedAll 4 = .ok (.iload_n 2, 1) := by decide +kernel
theorem dX12_missedAll_5 : decode cX12_missedAll 5 = .ok (.aload_n 0, 1) := by decide +kernel
theorem dX12_missedAll_6 : decode cX12_missedAll 6 = .ok (.getfield 260, 3) := by decide +kernel
theorem dX12_missedAll_9 : decode cX12_missedAll 9 = .ok (.if_icmp .ge 29, 3) := by decide +kernel
theorem dX12_missedAll_12 : decode cX12_missedAll 12 = .ok (.iload_n 1, 1) := by decide +kernel
theorem dX12_missedAll_13 : decode cX12_missedAll 13 = .ok (.aload_n 0, 1) := by decide +kernel
theorem dX12_missedAll_14 : decode cX12_missedAll 14 = .ok (.iload_n 2, 1) := by decide +kernel
theorem dX12_missedAll_15 : decode cX12_missedAll 15 = .ok (.invokevirtual 303, 3) := by decide +kernel
theorem dX12_missedAll_18 : decode cX12_missedAll 18 = .ok (.ifCond .eq 7, 3) := by decide +kernel
theorem dX12_missedAll_21 : decode cX12_missedAll 21 = .ok (.iconst 0, 1) := by decide +kernel
theorem dX12_missedAll_22 : decode cX12_missedAll 22 = .ok (.goto 8, 3) := by decide +kernel
theorem dX12_missedAll_25 : decode cX12_missedAll 25 = .ok (.aload_n 0, 1) := by decide +kernel
theorem dX12_missedAll_26 : decode cX12_missedAll 26 = .ok (.iload_n 2, 1) := by decide +kernel
theorem dX12_missedAll_27 : decode cX12_missedAll 27 = .ok (.invokevirtual 330, 3) := by decide +kernel
theorem dX12_missedAll_30 : decode cX12_missedAll 30 = .ok (.iadd, 1) := by decide +kernel
theorem dX12_missedAll_31 : decode cX12_missedAll 31 = .ok (.istore_n 1, 1) := by decide +kernel
theorem dX12_missedAll_32 : decode cX12_missedAll 32 = .ok (.iinc 2 1, 3) := by decide +kernel
theorem dX12_missedAll_35 : decode cX12_missedAll 35 = .ok (.goto (-31), 3) := by decide +kernel
theorem dX12_missedAll_38 : decode cX12_missedAll 38 = .ok (.iload_n 1, 1) := by decide +kernel
theorem dX12_missedAll_39 : decode cX12_missedAll 39 = .ok (.ireturn, 1) := by decide +kernel
theorem dX12_rule_0 : decode cX12_rule 0 = .ok (.aload_n 0, 1) := by decide +kernel
theorem dX12_rule_1 : decode cX12_rule 1 = .ok (.getfield 260, 3) := by decide +kernel
theorem dX12_rule_4 : decode cX12_rule 4 = .ok (.ifCond .eq 12, 3) := by decide +kernel
theorem dX12_rule_7 : decode cX12_rule 7 = .ok (.iload_n 1, 1) := by decide +kernel
theorem dX12_rule_8 : decode cX12_rule 8 = .ok (.iconst 0, 1) := by decide +kernel
theorem dX12_rule_9 : decode cX12_rule 9 = .ok (.iconst 1, 1) := by decide +kernel
theorem dX12_rule_10 : decode cX12_rule 10 = .ok (.invokestatic 207, 3) := by decide +kernel
theorem dX12_rule_13 : decode cX12_rule 13 = .ok (.ifCond .ne 7, 3) := by decide +kernel
theorem dX12_rule_16 : decode cX12_rule 16 = .ok (.iconst (-1), 1) := by decide +kernel
theorem dX12_rule_17 : decode cX12_rule 17 = .ok (.goto 23, 3) := by decide +kernel
theorem dX12_rule_20 : decode cX12_rule 20 = .ok (.iload_n 1, 1) := by decide +kernel
theorem dX12_rule_21 : decode cX12_rule 21 = .ok (.ifCond .ne 12, 3) := by decide +kernel
theorem dX12_rule_24 : decode cX12_rule 24 = .ok (.aload_n 0, 1) := by decide +kernel
theorem dX12_rule_25 : decode cX12_rule 25 = .ok (.getfield 52, 3) := by decide +kernel
theorem dX12_rule_28 : decode cX12_rule 28 = .ok (.iconst 0, 1) := by decide +kernel
theorem dX12_rule_29 : decode cX12_rule 29 = .ok (.iaload, 1) := by decide +kernel
theorem dX12_rule_30 : decode cX12_rule 30 = .ok (.goto 10, 3) := by decide +kernel
theorem dX12_rule_33 : decode cX12_rule 33 = .ok (.aload_n 0, 1) := by decide +kernel
theorem dX12_rule_34 : decode cX12_rule 34 = .ok (.getfield 64, 3) := by decide +kernel
theorem dX12_rule_37 : decode cX12_rule 37 = .ok (.bipush 36, 2) := by decide +kernel
theorem dX12_rule_39 : decode cX12_rule 39 = .ok (.iaload, 1) := by decide +kernel
theorem dX12_rule_40 : decode cX12_rule 40 = .ok (.ireturn, 1) := by decide +kernel
theorem dX12_name_0 : decode cX12_name 0 = .ok (.aload_n 0, 1) := by decide +kernel
theorem dX12_name_1 : decode cX12_name 1 = .ok (.aload_n 0, 1) := by decide +kernel
theorem dX12_name_2 : decode cX12_name 2 = .ok (.iload_n 1, 1) := by decide +kernel
theorem dX12_name_3 : decode cX12_name 3 = .ok (.invokevirtual 333, 3) := by decide +kernel
theorem dX12_name_6 : decode cX12_name 6 = .ok (.ifCond .eq 16, 3) := by decide +kernel
theorem dX12_name_9 : decode cX12_name 9 = .ok (.iload_n 2, 1) := by decide +kernel
theorem dX12_name_10 : decode cX12_name 10 = .ok (.iconst 0, 1) := by decide +kernel
theorem dX12_name_11 : decode cX12_name 11 = .ok (.iconst 5, 1) := by decide +kernel
theorem dX12_name_12 : decode cX12_name 12 = .ok (.invokestatic 207, 3) := by decide +kernel
theorem dX12_name_15 : decode cX12_name 15 = .ok (.ifCond .eq 7, 3) := by decide +kernel
theorem dX12_name_18 : decode cX12_name 18 = .ok (.iconst 0, 1) := by decide +kernel
theorem dX12_name_19 : decode cX12_name 19 = .ok (.goto 4, 3) := by decide +kernel
theorem dX12_name_22 : decode cX12_name 22 = .ok (.iconst 1, 1) := by decide +kernel
theorem dX12_name_23 : decode cX12_name 23 = .ok (.putfield 92, 3) := by decide +kernel
theorem dX12_name_26 : decode cX12_name 26 = .ok (.aload_n 0, 1) := by decide +kernel
theorem dX12_name_27 : decode cX12_name 27 = .ok (.getfield 92, 3) := by decide +kernel
theorem dX12_name_30 : decode cX12_name 30 = .ok (.iconst 1, 1) := by decide +kernel
theorem dX12_name_31 : decode cX12_name 31 = .ok (.if_icmp .ne 5, 3) := by decide +kernel
theorem dX12_name_34 : decode cX12_name 34 = .ok (.iconst 0, 1) := by decide +kernel
theorem dX12_name_35 : decode cX12_name 35 = .ok (.ireturn, 1) := by decide +kernel
theorem dX12_name_36 : decode cX12_name 36 = .ok (.iload_n 2, 1) := by decide +kernel
theorem dX12_name_37 : decode cX12_name 37 = .ok (.tableswitch 45 3 5 #[27, 33, 39], 27) := by decide +kernel
theorem dX12_name_64 : decode cX12_name 64 = .ok (.aload_n 0, 1) := by decide +kernel
theorem dX12_name_65 : decode cX12_name 65 = .ok (.iload_n 1, 1) := by decide +kernel
theorem dX12_name_66 : decode cX12_name 66 = .ok (.invokevirtual 297, 3) := by decide +kernel
theorem dX12_name_69 : decode cX12_name 69 = .ok (.ireturn, 1) := by decide +kernel
theorem dX12_name_70 : decode cX12_name 70 = .ok (.aload_n 0, 1) := by decide +kernel
theorem dX12_name_71 : decode cX12_name 71 = .ok (.iload_n 1, 1) := by decide +kernel
theorem dX12_name_72 : decode cX12_name 72 = .ok (.invokevirtual 320, 3) := by decide +kernel
theorem dX12_name_75 : decode cX12_name 75 = .ok (.ireturn, 1) := by decide +kernel
theorem dX12_name_76 : decode cX12_name 76 = .ok (.aload_n 0, 1) := by decide +kernel
theorem dX12_name_77 : decode cX12_name 77 = .ok (.iload_n 1, 1) := by decide +kernel
theorem dX12_name_78 : decode cX12_name 78 = .ok (.invokevirtual 330, 3) := by decide +kernel
theorem dX12_name_81 : decode cX12_name 81 = .ok (.ireturn, 1) := by decide +kernel
theorem dX12_name_82 : decode cX12_name 82 = .ok (.aload_n 0, 1) := by decide +kernel
theorem dX12_name_83 : decode cX12_name 83 = .ok (.iload_n 1, 1) := by decide +kernel
theorem dX12_name_84 : decode cX12_name 84 = .ok (.iload_n 2, 1) := by decide +kernel
theorem dX12_name_85 : decode cX12_name 85 = .ok (.invokevirtual 282, 3) := by decide +kernel
theorem dX12_name_88 : decode cX12_name 88 = .ok (.ireturn, 1) := by decide +kernel
theorem dX12_well_0 : decode cX12_well 0 = .ok (.aload_n 0, 1) := by decide +kernel
theorem dX12_well_1 : decode cX12_well 1 = .ok (.iload_n 1, 1) := by decide +kernel
theorem dX12_well_2 : decode cX12_well 2 = .ok (.invokevirtual 336, 3) := by decide +kernel
theorem dX12_well_5 : decode cX12_well 5 = .ok (.ifCond .eq 12, 3) := by decide +kernel
theorem dX12_well_8 : decode cX12_well 8 = .ok (.iload_n 2, 1) := by decide +kernel
theorem dX12_well_9 : decode cX12_well 9 = .ok (.iconst 0, 1) := by decide +kernel
theorem dX12_well_10 : decode cX12_well 10 = .ok (.iconst 3, 1) := by decide +kernel
theorem dX12_well_11 : decode cX12_well 11 = .ok (.invokestatic 207, 3) := by decide +kernel
theorem dX12_well_14 : decode cX12_well 14 = .ok (.ifCond .ne 5, 3) := by decide +kernel
theorem dX12_well_17 : decode cX12_well 17 = .ok (.iconst (-1), 1) := by decide +kernel
theorem dX12_well_18 : decode cX12_well 18 = .ok (.ireturn, 1) := by decide +kernel
theorem dX12_well_19 : decode cX12_well 19 = .ok (.iload_n 2, 1) := by decide +kernel
theorem dX12_well_20 : decode cX12_well 20 = .ok (.tableswitch 55 0 2 #[28, 38, 49], 28) := by decide +kernel
theorem dX12_well_48 : decode cX12_well 48 = .ok (.aload_n 0, 1) := by decide +kernel
theorem dX12_well_49 : decode cX12_well 49 = .ok (.getfield 64, 3) := by decide +kernel
theorem dX12_well_52 : decode cX12_well 52 = .ok (.bipush 32, 2) := by decide +kernel
theorem dX12_well_54 : decode cX12_well 54 = .ok (.iload_n 1, 1) := by decide +kernel
theorem dX12_well_55 : decode cX12_well 55 = .ok (.iadd, 1) := by decide +kernel
theorem dX12_well_56 : decode cX12_well 56 = .ok (.iaload, 1) := by decide +kernel
theorem dX12_well_57 : decode cX12_well 57 = .ok (.ireturn, 1) := by decide +kernel
theorem dX12_well_58 : decode cX12_well 58 = .ok (.aload_n 0, 1) := by decide +kernel
theorem dX12_well_59 : decode cX12_well 59 = .ok (.getfield 55, 3) := by decide +kernel
theorem dX12_well_62 : decode cX12_well 62 = .ok (.iconst 2, 1) := by decide +kernel
theorem dX12_well_63 : decode cX12_well 63 = .ok (.iload_n 1, 1) := by decide +kernel
theorem dX12_well_64 : decode cX12_well 64 = .ok (.imul, 1) := by decide +kernel
theorem dX12_well_65 : decode cX12_well 65 = .ok (.iconst 1, 1) := by decide +kernel
theorem dX12_well_66 : decode cX12_well 66 = .ok (.iadd, 1) := by decide +kernel
theorem dX12_well_67 : decode cX12_well 67 = .ok (.iaload, 1) := by decide +kernel
theorem dX12_well_68 : decode cX12_well 68 = .ok (.ireturn, 1) := by decide +kernel
theorem dX12_well_69 : decode cX12_well 69 = .ok (.aload_n 0, 1) := by decide +kernel
theorem dX12_well_70 : decode cX12_well 70 = .ok (.iload_n 1, 1) := by decide +kernel
theorem dX12_well_71 : decode cX12_well 71 = .ok (.invokevirtual 339, 3) := by decide +kernel
theorem dX12_well_74 : decode cX12_well 74 = .ok (.ireturn, 1) := by decide +kernel
theorem dX12_well_75 : decode cX12_well 75 = .ok (.aload_n 0, 1) := by decide +kernel
theorem dX12_well_76 : decode cX12_well 76 = .ok (.getfield 64, 3) := by decide +kernel
theorem dX12_well_79 : decode cX12_well 79 = .ok (.iconst 0, 1) := by decide +kernel
theorem dX12_well_80 : decode cX12_well 80 = .ok (.iload_n 1, 1) := by decide +kernel
theorem dX12_well_81 : decode cX12_well 81 = .ok (.iadd, 1) := by decide +kernel
theorem dX12_well_82 : decode cX12_well 82 = .ok (.iaload, 1) := by decide +kernel
theorem dX12_well_83 : decode cX12_well 83 = .ok (.ireturn, 1) := by decide +kernel
theorem dX12_gapsBy_0 : decode cX12_gapsBy 0 = .ok (.iload_n 2, 1) := by decide +kernel
theorem dX12_gapsBy_1 : decode cX12_gapsBy 1 = .ok (.aload_n 0, 1) := by decide +kernel
theorem dX12_gapsBy_2 : decode cX12_gapsBy 2 = .ok (.getfield 61, 3) := by decide +kernel
theorem dX12_gapsBy_5 : decode cX12_gapsBy 5 = .ok (.iconst 2, 1) := by decide +kernel
theorem dX12_gapsBy_6 : decode cX12_gapsBy 6 = .ok (.iload_n 1, 1) := by decide +kernel
theorem dX12_gapsBy_7 : decode cX12_gapsBy 7 = .ok (.imul, 1) := by decide +kernel
theorem dX12_gapsBy_8 : decode cX12_gapsBy 8 = .ok (.iaload, 1) := by decide +kernel
theorem dX12_gapsBy_9 : decode cX12_gapsBy 9 = .ok (.ishr, 1) := by decide +kernel
theorem dX12_gapsBy_10 : decode cX12_gapsBy 10 = .ok (.iconst 1, 1) := by decide +kernel
theorem dX12_gapsBy_11 : decode cX12_gapsBy 11 = .ok (.iand, 1) := by decide +kernel
theorem dX12_gapsBy_12 : decode cX12_gapsBy 12 = .ok (.iload_n 2, 1) := by decide +kernel
theorem dX12_gapsBy_13 : decode cX12_gapsBy 13 = .ok (.aload_n 0, 1) := by decide +kernel
theorem dX12_gapsBy_14 : decode cX12_gapsBy 14 = .ok (.getfield 61, 3) := by decide +kernel
theorem dX12_gapsBy_17 : decode cX12_gapsBy 17 = .ok (.iconst 2, 1) := by decide +kernel
theorem dX12_gapsBy_18 : decode cX12_gapsBy 18 = .ok (.iload_n 1, 1) := by decide +kernel
theorem dX12_gapsBy_19 : decode cX12_gapsBy 19 = .ok (.imul, 1) := by decide +kernel
theorem dX12_gapsBy_20 : decode cX12_gapsBy 20 = .ok (.iconst 1, 1) := by decide +kernel
theorem dX12_gapsBy_21 : decode cX12_gapsBy 21 = .ok (.iadd, 1) := by decide +kernel
theorem dX12_gapsBy_22 : decode cX12_gapsBy 22 = .ok (.iaload, 1) := by decide +kernel
theorem dX12_gapsBy_23 : decode cX12_gapsBy 23 = .ok (.ishr, 1) := by decide +kernel
theorem dX12_gapsBy_24 : decode cX12_gapsBy 24 = .ok (.iconst 1, 1) := by decide +kernel
theorem dX12_gapsBy_25 : decode cX12_gapsBy 25 = .ok (.iand, 1) := by decide +kernel
theorem dX12_gapsBy_26 : decode cX12_gapsBy 26 = .ok (.iadd, 1) := by decide +kernel
theorem dX12_gapsBy_27 : decode cX12_gapsBy 27 = .ok (.ireturn, 1) := by decide +kernel
theorem dX12_file_0 : decode cX12_file 0 = .ok (.aload_n 0, 1) := by decide +kernel
theorem dX12_file_1 : decode cX12_file 1 = .ok (.iload_n 1, 1) := by decide +kernel
theorem dX12_file_2 : decode cX12_file 2 = .ok (.invokevirtual 342, 3) := by decide +kernel
theorem dX12_file_5 : decode cX12_file 5 = .ok (.ifCond .eq 12, 3) := by decide +kernel
theorem dX12_file_8 : decode cX12_file 8 = .ok (.iload_n 2, 1) := by decide +kernel
theorem dX12_file_9 : decode cX12_file 9 = .ok (.iconst 0, 1) := by decide +kernel
theorem dX12_file_10 : decode cX12_file 10 = .ok (.iconst 2, 1) := by decide +kernel
theorem dX12_file_11 : decode cX12_file 11 = .ok (.invokestatic 207, 3) := by decide +kernel
theorem dX12_file_14 : decode cX12_file 14 = .ok (.ifCond .ne 7, 3) := by decide +kernel
theorem dX12_file_17 : decode cX12_file 17 = .ok (.iconst (-1), 1) := by decide +kernel
theorem dX12_file_18 : decode cX12_file 18 = .ok (.goto 30, 3) := by decide +kernel
theorem dX12_file_21 : decode cX12_file 21 = .ok (.iload_n 2, 1) := by decide +kernel
theorem dX12_file_22 : decode cX12_file 22 = .ok (.iconst 2, 1) := by decide +kernel
theorem dX12_file_23 : decode cX12_file 23 = .ok (.if_icmp .ne 15, 3) := by decide +kernel
theorem dX12_file_26 : decode cX12_file 26 = .ok (.aload_n 0, 1) := by decide +kernel
theorem dX12_file_27 : decode cX12_file 27 = .ok (.iload_n 1, 1) := by decide +kernel
theorem dX12_file_28 : decode cX12_file 28 = .ok (.aload_n 0, 1) := by decide +kernel
theorem dX12_file_29 : decode cX12_file 29 = .ok (.invokevirtual 309, 3) := by decide +kernel
theorem dX12_file_32 : decode cX12_file 32 = .ok (.invokevirtual 345, 3) := by decide +kernel
theorem dX12_file_35 : decode cX12_file 35 = .ok (.goto 13, 3) := by decide +kernel
theorem dX12_file_38 : decode cX12_file 38 = .ok (.aload_n 0, 1) := by decide +kernel
theorem dX12_file_39 : decode cX12_file 39 = .ok (.getfield 61, 3) := by decide +kernel
theorem dX12_file_42 : decode cX12_file 42 = .ok (.iconst 2, 1) := by decide +kernel
theorem dX12_file_43 : decode cX12_file 43 = .ok (.iload_n 1, 1) := by decide +kernel
theorem dX12_file_44 : decode cX12_file 44 = .ok (.imul, 1) := by decide +kernel
theorem dX12_file_45 : decode cX12_file 45 = .ok (.iload_n 2, 1) := by decide +kernel
theorem dX12_file_46 : decode cX12_file 46 = .ok (.iadd, 1) := by decide +kernel
theorem dX12_file_47 : decode cX12_file 47 = .ok (.iaload, 1) := by decide +kernel
theorem dX12_file_48 : decode cX12_file 48 = .ok (.ireturn, 1) := by decide +kernel
theorem dX12_law_0 : decode cX12_law 0 = .ok (.iload_n 1, 1) := by decide +kernel
theorem dX12_law_1 : decode cX12_law 1 = .ok (.iconst (-1), 1) := by decide +kernel
theorem dX12_law_2 : decode cX12_law 2 = .ok (.aload_n 0, 1) := by decide +kernel
theorem dX12_law_3 : decode cX12_law 3 = .ok (.getfield 279, 3) := by decide +kernel
theorem dX12_law_6 : decode cX12_law 6 = .ok (.iconst 1, 1) := by decide +kernel
theorem dX12_law_7 : decode cX12_law 7 = .ok (.isub, 1) := by decide +kernel
theorem dX12_law_8 : decode cX12_law 8 = .ok (.invokestatic 207, 3) := by decide +kernel
theorem dX12_law_11 : decode cX12_law 11 = .ok (.ifCond .ne 5, 3) := by decide +kernel
theorem dX12_law_14 : decode cX12_law 14 = .ok (.iconst 0, 1) := by decide +kernel
theorem dX12_law_15 : decode cX12_law 15 = .ok (.ireturn, 1) := by decide +kernel
theorem dX12_law_16 : decode cX12_law 16 = .ok (.aload_n 0, 1) := by decide +kernel
theorem dX12_law_17 : decode cX12_law 17 = .ok (.iload_n 1, 1) := by decide +kernel
theorem dX12_law_18 : decode cX12_law 18 = .ok (.putfield 70, 3) := by decide +kernel
theorem dX12_law_21 : decode cX12_law 21 = .ok (.iconst 1, 1) := by decide +kernel
theorem dX12_law_22 : decode cX12_law 22 = .ok (.ireturn, 1) := by decide +kernel
theorem dX12_keep_0 : decode cX12_keep 0 = .ok (.aload_n 0, 1) := by decide +kernel
theorem dX12_keep_1 : decode cX12_keep 1 = .ok (.getfield 269, 3) := by decide +kernel
theorem dX12_keep_4 : decode cX12_keep 4 = .ok (.bipush 40, 2) := by decide +kernel
theorem dX12_keep_6 : decode cX12_keep 6 = .ok (.if_icmp .ne 46, 3) := by decide +kernel
theorem dX12_keep_9 : decode cX12_keep 9 = .ok (.sipush 160, 3) := by decide +kernel
theorem dX12_keep_12 : decode cX12_keep 12 = .ok (.istore_n 1, 1) := by decide +kernel
theorem dX12_keep_13 : decode cX12_keep 13 = .ok (.iload_n 1, 1) := by decide +kernel
theorem dX12_keep_14 : decode cX12_keep 14 = .ok (.sipush 6400, 3) := by decide +kernel
theorem dX12_keep_17 : decode cX12_keep 17 = .ok (.if_icmp .ge 25, 3) := by decide +kernel
theorem dX12_keep_20 : decode cX12_keep 20 = .ok (.aload_n 0, 1) := by decide +kernel
theorem dX12_keep_21 : decode cX12_keep 21 = .ok (.getfield 77, 3) := by decide +kernel
theorem dX12_keep_24 : decode cX12_keep 24 = .ok (.iload_n 1, 1) := by decide +kernel
theorem dX12_keep_25 : decode cX12_keep 25 = .ok (.sipush 160, 3) := by decide +kernel
theorem dX12_keep_28 : decode cX12_keep 28 = .ok (.isub, 1) := by decide +kernel
theorem dX12_keep_29 : decode cX12_keep 29 = .ok (.aload_n 0, 1) := by decide +kernel
theorem dX12_keep_30 : decode cX12_keep 30 = .ok (.getfield 77, 3) := by decide +kernel
theorem dX12_keep_33 : decode cX12_keep 33 = .ok (.iload_n 1, 1) := by decide +kernel
theorem dX12_keep_34 : decode cX12_keep 34 = .ok (.iaload, 1) := by decide +kernel
theorem dX12_keep_35 : decode cX12_keep 35 = .ok (.iastore, 1) := by decide +kernel
theorem dX12_keep_36 : decode cX12_keep 36 = .ok (.iinc 1 1, 3) := by decide +kernel
theorem dX12_keep_39 : decode cX12_keep 39 = .ok (.goto (-26), 3) := by decide +kernel
theorem dX12_keep_42 : decode cX12_keep 42 = .ok (.aload_n 0, 1) := by decide +kernel
theorem dX12_keep_43 : decode cX12_keep 43 = .ok (.dup, 1) := by decide +kernel
theorem dX12_keep_44 : decode cX12_keep 44 = .ok (.getfield 269, 3) := by decide +kernel
theorem dX12_keep_47 : decode cX12_keep 47 = .ok (.iconst 1, 1) := by decide +kernel
theorem dX12_keep_48 : decode cX12_keep 48 = .ok (.isub, 1) := by decide +kernel
theorem dX12_keep_49 : decode cX12_keep 49 = .ok (.putfield 269, 3) := by decide +kernel
theorem dX12_keep_52 : decode cX12_keep 52 = .ok (.iconst 0, 1) := by decide +kernel
theorem dX12_keep_53 : decode cX12_keep 53 = .ok (.istore_n 1, 1) := by decide +kernel
theorem dX12_keep_54 : decode cX12_keep 54 = .ok (.iload_n 1, 1) := by decide +kernel
theorem dX12_keep_55 : decode cX12_keep 55 = .ok (.sipush 160, 3) := by decide +kernel
theorem dX12_keep_58 : decode cX12_keep 58 = .ok (.if_icmp .ge 30, 3) := by decide +kernel
theorem dX12_keep_61 : decode cX12_keep 61 = .ok (.aload_n 0, 1) := by decide +kernel
theorem dX12_keep_62 : decode cX12_keep 62 = .ok (.getfield 77, 3) := by decide +kernel
theorem dX12_keep_65 : decode cX12_keep 65 = .ok (.sipush 160, 3) := by decide +kernel
theorem dX12_keep_68 : decode cX12_keep 68 = .ok (.aload_n 0, 1) := by decide +kernel
theorem dX12_keep_69 : decode cX12_keep 69 = .ok (.getfield 269, 3) := by decide +kernel
theorem dX12_keep_72 : decode cX12_keep 72 = .ok (.imul, 1) := by decide +kernel
theorem dX12_keep_73 : decode cX12_keep 73 = .ok (.iload_n 1, 1) := by decide +kernel
theorem dX12_keep_74 : decode cX12_keep 74 = .ok (.iadd, 1) := by decide +kernel
theorem dX12_keep_75 : decode cX12_keep 75 = .ok (.aload_n 0, 1) := by decide +kernel
theorem dX12_keep_76 : decode cX12_keep 76 = .ok (.getfield 64, 3) := by decide +kernel
theorem dX12_keep_79 : decode cX12_keep 79 = .ok (.iload_n 1, 1) := by decide +kernel
theorem dX12_keep_80 : decode cX12_keep 80 = .ok (.iaload, 1) := by decide +kernel
theorem dX12_keep_81 : decode cX12_keep 81 = .ok (.iastore, 1) := by decide +kernel
theorem dX12_keep_82 : decode cX12_keep 82 = .ok (.iinc 1 1, 3) := by decide +kernel
theorem dX12_keep_85 : decode cX12_keep 85 = .ok (.goto (-31), 3) := by decide +kernel
theorem dX12_keep_88 : decode cX12_keep 88 = .ok (.aload_n 0, 1) := by decide +kernel
theorem dX12_keep_89 : decode cX12_keep 89 = .ok (.dup, 1) := by decide +kernel
theorem dX12_keep_90 : decode cX12_keep 90 = .ok (.getfield 269, 3) := by decide +kernel
theorem dX12_keep_93 : decode cX12_keep 93 = .ok (.iconst 1, 1) := by decide +kernel
theorem dX12_keep_94 : decode cX12_keep 94 = .ok (.iadd, 1) := by decide +kernel
theorem dX12_keep_95 : decode cX12_keep 95 = .ok (.putfield 269, 3) := by decide +kernel
theorem dX12_keep_98 : decode cX12_keep 98 = .ok (.return_, 1) := by decide +kernel
theorem dX12_isRefused_0 : decode cX12_isRefused 0 = .ok (.iload_n 1, 1) := by decide +kernel
theorem dX12_isRefused_1 : decode cX12_isRefused 1 = .ok (.iconst (-1), 1) := by decide +kernel
theorem dX12_isRefused_2 : decode cX12_isRefused 2 = .ok (.if_icmp .eq 13, 3) := by decide +kernel
theorem dX12_isRefused_5 : decode cX12_isRefused 5 = .ok (.aload_n 0, 1) := by decide +kernel
theorem dX12_isRefused_6 : decode cX12_isRefused 6 = .ok (.getfield 67, 3) := by decide +kernel
theorem dX12_isRefused_9 : decode cX12_isRefused 9 = .ok (.iload_n 1, 1) := by decide +kernel
theorem dX12_isRefused_10 : decode cX12_isRefused 10 = .ok (.dup2, 1) := by decide +kernel
theorem dX12_isRefused_11 : decode cX12_isRefused 11 = .ok (.iaload, 1) := by decide +kernel
theorem dX12_isRefused_12 : decode cX12_isRefused 12 = .ok (.iconst 1, 1) := by decide +kernel
theorem dX12_isRefused_13 : decode cX12_isRefused 13 = .ok (.iadd, 1) := by decide +kernel
theorem dX12_isRefused_14 : decode cX12_isRefused 14 = .ok (.iastore, 1) := by decide +kernel
theorem dX12_isRefused_15 : decode cX12_isRefused 15 = .ok (.iload_n 1, 1) := by decide +kernel
theorem dX12_isRefused_16 : decode cX12_isRefused 16 = .ok (.iconst (-1), 1) := by decide +kernel
theorem dX12_isRefused_17 : decode cX12_isRefused 17 = .ok (.if_icmp .eq 7, 3) := by decide +kernel
theorem dX12_isRefused_20 : decode cX12_isRefused 20 = .ok (.iconst 1, 1) := by decide +kernel
theorem dX12_isRefused_21 : decode cX12_isRefused 21 = .ok (.goto 4, 3) := by decide +kernel
theorem dX12_isRefused_24 : decode cX12_isRefused 24 = .ok (.iconst 0, 1) := by decide +kernel
theorem dX12_isRefused_25 : decode cX12_isRefused 25 = .ok (.ireturn, 1) := by decide +kernel
theorem dX12_fits_0 : decode cX12_fits 0 = .ok (.aload_n 0, 1) := by decide +kernel
theorem dX12_fits_1 : decode cX12_fits 1 = .ok (.iload_n 2, 1) := by decide +kernel
theorem dX12_fits_2 : decode cX12_fits 2 = .ok (.invokevirtual 339, 3) := by decide +kernel
theorem dX12_fits_5 : decode cX12_fits 5 = .ok (.aload_n 0, 1) := by decide +kernel
theorem dX12_fits_6 : decode cX12_fits 6 = .ok (.iload_n 1, 1) := by decide +kernel
theorem dX12_fits_7 : decode cX12_fits 7 = .ok (.invokevirtual 288, 3) := by decide +kernel
theorem dX12_fits_10 : decode cX12_fits 10 = .ok (.if_icmp .lt 26, 3) := by decide +kernel
theorem dX12_fits_13 : decode cX12_fits 13 = .ok (.aload_n 0, 1) := by decide +kernel
theorem dX12_fits_14 : decode cX12_fits 14 = .ok (.getfield 55, 3) := by decide +kernel
theorem dX12_fits_17 : decode cX12_fits 17 = .ok (.iconst 2, 1) := by decide +kernel
theorem dX12_fits_18 : decode cX12_fits 18 = .ok (.iload_n 2, 1) := by decide +kernel
theorem dX12_fits_19 : decode cX12_fits 19 = .ok (.imul, 1) := by decide +kernel
theorem dX12_fits_20 : decode cX12_fits 20 = .ok (.iconst 1, 1) := by decide +kernel
theorem dX12_fits_21 : decode cX12_fits 21 = .ok (.iadd, 1) := by decide +kernel
theorem dX12_fits_22 : decode cX12_fits 22 = .ok (.iaload, 1) := by decide +kernel
theorem dX12_fits_23 : decode cX12_fits 23 = .ok (.aload_n 0, 1) := by decide +kernel
theorem dX12_fits_24 : decode cX12_fits 24 = .ok (.iload_n 1, 1) := by decide +kernel
theorem dX12_fits_25 : decode cX12_fits 25 = .ok (.iconst 2, 1) := by decide +kernel
theorem dX12_fits_26 : decode cX12_fits 26 = .ok (.invokevirtual 282, 3) := by decide +kernel
theorem dX12_fits_29 : decode cX12_fits 29 = .ok (.if_icmp .ne 7, 3) := by decide +kernel
theorem dX12_fits_32 : decode cX12_fits 32 = .ok (.iconst 1, 1) := by decide +kernel
theorem dX12_fits_33 : decode cX12_fits 33 = .ok (.goto 4, 3) := by decide +kernel
theorem dX12_fits_36 : decode cX12_fits 36 = .ok (.iconst 0, 1) := by decide +kernel
theorem dX12_fits_37 : decode cX12_fits 37 = .ok (.ireturn, 1) := by decide +kernel
