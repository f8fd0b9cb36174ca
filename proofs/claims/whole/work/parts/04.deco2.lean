theorem dX11_in_0 : decode cX11_in 0 = .ok (.iload_n 0, 1) := by decide +kernel
theorem dX11_in_1 : decode cX11_in 1 = .ok (.iload_n 1, 1) := by decide +kernel
theorem dX11_in_2 : decode cX11_in 2 = .ok (.if_icmp .lt 12, 3) := by decide +kernel
theorem dX11_in_5 : decode cX11_in 5 = .ok (.iload_n 0, 1) := by decide +kernel
theorem dX11_in_6 : decode cX11_in 6 = .ok (.iload_n 2, 1) := by decide +kernel
theorem dX11_in_7 : decode cX11_in 7 = .ok (.if_icmp .gt 7, 3) := by decide +kernel
theorem dX11_in_10 : decode cX11_in 10 = .ok (.iconst 1, 1) := by decide +kernel
theorem dX11_in_11 : decode cX11_in 11 = .ok (.goto 4, 3) := by decide +kernel
theorem dX11_in_14 : decode cX11_in 14 = .ok (.iconst 0, 1) := by decide +kernel
theorem dX11_in_15 : decode cX11_in 15 = .ok (.ireturn, 1) := by decide +kernel
theorem dX11_has_0 : decode cX11_has 0 = .ok (.iload_n 0, 1) := by decide +kernel
theorem dX11_has_1 : decode cX11_has 1 = .ok (.iload_n 1, 1) := by decide +kernel
theorem dX11_has_2 : decode cX11_has 2 = .ok (.ishr, 1) := by decide +kernel
theorem dX11_has_3 : decode cX11_has 3 = .ok (.iconst 1, 1) := by decide +kernel
theorem dX11_has_4 : decode cX11_has 4 = .ok (.iand, 1) := by decide +kernel
theorem dX11_has_5 : decode cX11_has 5 = .ok (.iconst 1, 1) := by decide +kernel
theorem dX11_has_6 : decode cX11_has 6 = .ok (.if_icmp .ne 7, 3) := by decide +kernel
theorem dX11_has_9 : decode cX11_has 9 = .ok (.iconst 1, 1) := by decide +kernel
theorem dX11_has_10 : decode cX11_has 10 = .ok (.goto 4, 3) := by decide +kernel
theorem dX11_has_13 : decode cX11_has 13 = .ok (.iconst 0, 1) := by decide +kernel
theorem dX11_has_14 : decode cX11_has 14 = .ok (.ireturn, 1) := by decide +kernel
theorem dX11_init_0 : decode cX11_init 0 = .ok (.aload_n 0, 1) := by decide +kernel
theorem dX11_init_1 : decode cX11_init 1 = .ok (.invokespecial 3, 3) := by decide +kernel
theorem dX11_init_4 : decode cX11_init 4 = .ok (.aload_n 0, 1) := by decide +kernel
theorem dX11_init_5 : decode cX11_init 5 = .ok (.sipush 240, 3) := by decide +kernel
theorem dX11_init_8 : decode cX11_init 8 = .ok (.newarray .int, 2) := by decide +kernel
theorem dX11_init_10 : decode cX11_init 10 = .ok (.putfield 9, 3) := by decide +kernel
theorem dX11_init_13 : decode cX11_init 13 = .ok (.aload_n 0, 1) := by decide +kernel
theorem dX11_init_14 : decode cX11_init 14 = .ok (.sipush 2600, 3) := by decide +kernel
theorem dX11_init_17 : decode cX11_init 17 = .ok (.newarray .int, 2) := by decide +kernel
theorem dX11_init_19 : decode cX11_init 19 = .ok (.putfield 13, 3) := by decide +kernel
theorem dX11_init_22 : decode cX11_init 22 = .ok (.aload_n 0, 1) := by decide +kernel
theorem dX11_init_23 : decode cX11_init 23 = .ok (.sipush 2600, 3) := by decide +kernel
theorem dX11_init_26 : decode cX11_init 26 = .ok (.newarray .int, 2) := by decide +kernel
theorem dX11_init_28 : decode cX11_init 28 = .ok (.putfield 16, 3) := by decide +kernel
theorem dX11_init_31 : decode cX11_init 31 = .ok (.aload_n 0, 1) := by decide +kernel
theorem dX11_init_32 : decode cX11_init 32 = .ok (.iconst 5, 1) := by decide +kernel
theorem dX11_init_33 : decode cX11_init 33 = .ok (.newarray .int, 2) := by decide +kernel
theorem dX11_init_35 : decode cX11_init 35 = .ok (.putfield 19, 3) := by decide +kernel
theorem dX11_init_38 : decode cX11_init 38 = .ok (.aload_n 0, 1) := by decide +kernel
theorem dX11_init_39 : decode cX11_init 39 = .ok (.iconst 5, 1) := by decide +kernel
theorem dX11_init_40 : decode cX11_init 40 = .ok (.newarray .int, 2) := by decide +kernel
theorem dX11_init_42 : decode cX11_init 42 = .ok (.putfield 22, 3) := by decide +kernel
theorem dX11_init_45 : decode cX11_init 45 = .ok (.aload_n 0, 1) := by decide +kernel
theorem dX11_init_46 : decode cX11_init 46 = .ok (.sipush 700, 3) := by decide +kernel
theorem dX11_init_49 : decode cX11_init 49 = .ok (.newarray .int, 2) := by decide +kernel
theorem dX11_init_51 : decode cX11_init 51 = .ok (.putfield 25, 3) := by decide +kernel
theorem dX11_init_54 : decode cX11_init 54 = .ok (.aload_n 0, 1) := by decide +kernel
theorem dX11_init_55 : decode cX11_init 55 = .ok (.sipush 700, 3) := by decide +kernel
theorem dX11_init_58 : decode cX11_init 58 = .ok (.newarray .int, 2) := by decide +kernel
theorem dX11_init_60 : decode cX11_init 60 = .ok (.putfield 28, 3) := by decide +kernel
theorem dX11_init_63 : decode cX11_init 63 = .ok (.aload_n 0, 1) := by decide +kernel
theorem dX11_init_64 : decode cX11_init 64 = .ok (.sipush 700, 3) := by decide +kernel
theorem dX11_init_67 : decode cX11_init 67 = .ok (.newarray .int, 2) := by decide +kernel
theorem dX11_init_69 : decode cX11_init 69 = .ok (.putfield 31, 3) := by decide +kernel
theorem dX11_init_72 : decode cX11_init 72 = .ok (.aload_n 0, 1) := by decide +kernel
theorem dX11_init_73 : decode cX11_init 73 = .ok (.bipush 7, 2) := by decide +kernel
theorem dX11_init_75 : decode cX11_init 75 = .ok (.newarray .int, 2) := by decide +kernel
theorem dX11_init_77 : decode cX11_init 77 = .ok (.putfield 34, 3) := by decide +kernel
theorem dX11_init_80 : decode cX11_init 80 = .ok (.aload_n 0, 1) := by decide +kernel
theorem dX11_init_81 : decode cX11_init 81 = .ok (.bipush 80, 2) := by decide +kernel
theorem dX11_init_83 : decode cX11_init 83 = .ok (.newarray .int, 2) := by decide +kernel
theorem dX11_init_85 : decode cX11_init 85 = .ok (.putfield 37, 3) := by decide +kernel
theorem dX11_init_88 : decode cX11_init 88 = .ok (.aload_n 0, 1) := by decide +kernel
theorem dX11_init_89 : decode cX11_init 89 = .ok (.iconst 2, 1) := by decide +kernel
theorem dX11_init_90 : decode cX11_init 90 = .ok (.newarray .int, 2) := by decide +kernel
theorem dX11_init_92 : decode cX11_init 92 = .ok (.putfield 40, 3) := by decide +kernel
theorem dX11_init_95 : decode cX11_init 95 = .ok (.aload_n 0, 1) := by decide +kernel
theorem dX11_init_96 : decode cX11_init 96 = .ok (.bipush 18, 2) := by decide +kernel
theorem dX11_init_98 : decode cX11_init 98 = .ok (.newarray .int, 2) := by decide +kernel
theorem dX11_init_100 : decode cX11_init 100 = .ok (.putfield 43, 3) := by decide +kernel
theorem dX11_init_103 : decode cX11_init 103 = .ok (.aload_n 0, 1) := by decide +kernel
theorem dX11_init_104 : decode cX11_init 104 = .ok (.bipush 16, 2) := by decide +kernel
theorem dX11_init_106 : decode cX11_init 106 = .ok (.newarray .int, 2) := by decide +kernel
theorem dX11_init_108 : decode cX11_init 108 = .ok (.putfield 46, 3) := by decide +kernel
theorem dX11_init_111 : decode cX11_init 111 = .ok (.aload_n 0, 1) := by decide +kernel
theorem dX11_init_112 : decode cX11_init 112 = .ok (.bipush 24, 2) := by decide +kernel
theorem dX11_init_114 : decode cX11_init 114 = .ok (.newarray .int, 2) := by decide +kernel
theorem dX11_init_116 : decode cX11_init 116 = .ok (.putfield 49, 3) := by decide +kernel
theorem dX11_init_119 : decode cX11_init 119 = .ok (.aload_n 0, 1) := by decide +kernel
theorem dX11_init_120 : decode cX11_init 120 = .ok (.iconst 2, 1) := by decide +kernel
theorem dX11_init_121 : decode cX11_init 121 = .ok (.newarray .int, 2) := by decide +kernel
theorem dX11_init_123 : decode cX11_init 123 = .ok (.putfield 52, 3) := by decide +kernel
theorem dX11_init_126 : decode cX11_init 126 = .ok (.aload_n 0, 1) := by decide +kernel
theorem dX11_init_127 : decode cX11_init 127 = .ok (.bipush 18, 2) := by decide +kernel
theorem dX11_init_129 : decode cX11_init 129 = .ok (.newarray .int, 2) := by decide +kernel
theorem dX11_init_131 : decode cX11_init 131 = .ok (.putfield 55, 3) := by decide +kernel
theorem dX11_init_134 : decode cX11_init 134 = .ok (.aload_n 0, 1) := by decide +kernel
theorem dX11_init_135 : decode cX11_init 135 = .ok (.bipush 16, 2) := by decide +kernel
theorem dX11_init_137 : decode cX11_init 137 = .ok (.newarray .int, 2) := by decide +kernel
theorem dX11_init_139 : decode cX11_init 139 = .ok (.putfield 58, 3) := by decide +kernel
theorem dX11_init_142 : decode cX11_init 142 = .ok (.aload_n 0, 1) := by decide +kernel
theorem dX11_init_143 : decode cX11_init 143 = .ok (.bipush 24, 2) := by decide +kernel
theorem dX11_init_145 : decode cX11_init 145 = .ok (.newarray .int, 2) := by decide +kernel
theorem dX11_init_147 : decode cX11_init 147 = .ok (.putfield 61, 3) := by decide +kernel
theorem dX11_init_150 : decode cX11_init 150 = .ok (.aload_n 0, 1) := by decide +kernel
theorem dX11_init_151 : decode cX11_init 151 = .ok (.sipush 240, 3) := by decide +kernel
theorem dX11_init_154 : decode cX11_init 154 = .ok (.newarray .int, 2) := by decide +kernel
theorem dX11_init_156 : decode cX11_init 156 = .ok (.putfield 64, 3) := by decide +kernel
theorem dX11_init_159 : decode cX11_init 159 = .ok (.aload_n 0, 1) := by decide +kernel
theorem dX11_init_160 : decode cX11_init 160 = .ok (.iconst 5, 1) := by decide +kernel
theorem dX11_init_161 : decode cX11_init 161 = .ok (.newarray .int, 2) := by decide +kernel
theorem dX11_init_163 : decode cX11_init 163 = .ok (.putfield 67, 3) := by decide +kernel
theorem dX11_init_166 : decode cX11_init 166 = .ok (.aload_n 0, 1) := by decide +kernel
theorem dX11_init_167 : decode cX11_init 167 = .ok (.sipush 165, 3) := by decide +kernel
theorem dX11_init_170 : decode cX11_init 170 = .ok (.newarray .int, 2) := by decide +kernel
theorem dX11_init_172 : decode cX11_init 172 = .ok (.putfield 70, 3) := by decide +kernel
theorem dX11_init_175 : decode cX11_init 175 = .ok (.aload_n 0, 1) := by decide +kernel
theorem dX11_init_176 : decode cX11_init 176 = .ok (.iconst (-1), 1) := by decide +kernel
theorem dX11_init_177 : decode cX11_init 177 = .ok (.putfield 73, 3) := by decide +kernel
theorem dX11_init_180 : decode cX11_init 180 = .ok (.aload_n 0, 1) := by decide +kernel
theorem dX11_init_181 : decode cX11_init 181 = .ok (.sipush 6600, 3) := by decide +kernel
theorem dX11_init_184 : decode cX11_init 184 = .ok (.newarray .int, 2) := by decide +kernel
theorem dX11_init_186 : decode cX11_init 186 = .ok (.putfield 77, 3) := by decide +kernel
theorem dX11_init_189 : decode cX11_init 189 = .ok (.aload_n 0, 1) := by decide +kernel
theorem dX11_init_190 : decode cX11_init 190 = .ok (.sipush 165, 3) := by decide +kernel
theorem dX11_init_193 : decode cX11_init 193 = .ok (.newarray .int, 2) := by decide +kernel
theorem dX11_init_195 : decode cX11_init 195 = .ok (.putfield 80, 3) := by decide +kernel
theorem dX11_init_198 : decode cX11_init 198 = .ok (.aload_n 0, 1) := by decide +kernel
theorem dX11_init_199 : decode cX11_init 199 = .ok (.bipush 6, 2) := by decide +kernel
theorem dX11_init_201 : decode cX11_init 201 = .ok (.newarray .int, 2) := by decide +kernel
theorem dX11_init_203 : decode cX11_init 203 = .ok (.putfield 83, 3) := by decide +kernel
theorem dX11_init_206 : decode cX11_init 206 = .ok (.aload_n 0, 1) := by decide +kernel
theorem dX11_init_207 : decode cX11_init 207 = .ok (.bipush 12, 2) := by decide +kernel
theorem dX11_init_209 : decode cX11_init 209 = .ok (.newarray .int, 2) := by decide +kernel
theorem dX11_init_211 : decode cX11_init 211 = .ok (.putfield 86, 3) := by decide +kernel
theorem dX11_init_214 : decode cX11_init 214 = .ok (.aload_n 0, 1) := by decide +kernel
theorem dX11_init_215 : decode cX11_init 215 = .ok (.bipush 12, 2) := by decide +kernel
theorem dX11_init_217 : decode cX11_init 217 = .ok (.newarray .int, 2) := by decide +kernel
theorem dX11_init_219 : decode cX11_init 219 = .ok (.putfield 89, 3) := by decide +kernel
theorem dX11_init_222 : decode cX11_init 222 = .ok (.aload_n 0, 1) := by decide +kernel
theorem dX11_init_223 : decode cX11_init 223 = .ok (.sipush 165, 3) := by decide +kernel
theorem dX11_init_226 : decode cX11_init 226 = .ok (.newarray .int, 2) := by decide +kernel
theorem dX11_init_228 : decode cX11_init 228 = .ok (.putfield 92, 3) := by decide +kernel
theorem dX11_init_231 : decode cX11_init 231 = .ok (.return_, 1) := by decide +kernel
theorem dX11_thrown_0 : decode cX11_thrown 0 = .ok (.aload_n 0, 1) := by decide +kernel
theorem dX11_thrown_1 : decode cX11_thrown 1 = .ok (.getfield 95, 3) := by decide +kernel
theorem dX11_thrown_4 : decode cX11_thrown 4 = .ok (.ireturn, 1) := by decide +kernel
theorem dX11_byteOf_0 : decode cX11_byteOf 0 = .ok (.iload 5, 2) := by decide +kernel
theorem dX11_byteOf_2 : decode cX11_byteOf 2 = .ok (.iconst 4, 1) := by decide +kernel
theorem dX11_byteOf_3 : decode cX11_byteOf 3 = .ok (.if_icmp .ge 7, 3) := by decide +kernel
theorem dX11_byteOf_6 : decode cX11_byteOf 6 = .ok (.iload_n 0, 1) := by decide +kernel
theorem dX11_byteOf_7 : decode cX11_byteOf 7 = .ok (.goto 38, 3) := by decide +kernel
theorem dX11_byteOf_10 : decode cX11_byteOf 10 = .ok (.iload 5, 2) := by decide +kernel
theorem dX11_byteOf_12 : decode cX11_byteOf 12 = .ok (.bipush 8, 2) := by decide +kernel
theorem dX11_byteOf_14 : decode cX11_byteOf 14 = .ok (.if_icmp .ge 7, 3) := by decide +kernel
theorem dX11_byteOf_17 : decode cX11_byteOf 17 = .ok (.iload_n 1, 1) := by decide +kernel
theorem dX11_byteOf_18 : decode cX11_byteOf 18 = .ok (.goto 27, 3) := by decide +kernel
theorem dX11_byteOf_21 : decode cX11_byteOf 21 = .ok (.iload 5, 2) := by decide +kernel
theorem dX11_byteOf_23 : decode cX11_byteOf 23 = .ok (.bipush 12, 2) := by decide +kernel
theorem dX11_byteOf_25 : decode cX11_byteOf 25 = .ok (.if_icmp .ge 7, 3) := by decide +kernel
theorem dX11_byteOf_28 : decode cX11_byteOf 28 = .ok (.iload_n 2, 1) := by decide +kernel
theorem dX11_byteOf_29 : decode cX11_byteOf 29 = .ok (.goto 16, 3) := by decide +kernel
theorem dX11_byteOf_32 : decode cX11_byteOf 32 = .ok (.iload 5, 2) := by decide +kernel
theorem dX11_byteOf_34 : decode cX11_byteOf 34 = .ok (.bipush 16, 2) := by decide +kernel
theorem dX11_byteOf_36 : decode cX11_byteOf 36 = .ok (.if_icmp .ge 7, 3) := by decide +kernel
theorem dX11_byteOf_39 : decode cX11_byteOf 39 = .ok (.iload_n 3, 1) := by decide +kernel
theorem dX11_byteOf_40 : decode cX11_byteOf 40 = .ok (.goto 5, 3) := by decide +kernel
theorem dX11_byteOf_43 : decode cX11_byteOf 43 = .ok (.iload 4, 2) := by decide +kernel
theorem dX11_byteOf_45 : decode cX11_byteOf 45 = .ok (.istore 6, 2) := by decide +kernel
theorem dX11_byteOf_47 : decode cX11_byteOf 47 = .ok (.iload 6, 2) := by decide +kernel
theorem dX11_byteOf_49 : decode cX11_byteOf 49 = .ok (.bipush 24, 2) := by decide +kernel
theorem dX11_byteOf_51 : decode cX11_byteOf 51 = .ok (.bipush 8, 2) := by decide +kernel
theorem dX11_byteOf_53 : decode cX11_byteOf 53 = .ok (.iload 5, 2) := by decide +kernel
theorem dX11_byteOf_55 : decode cX11_byteOf 55 = .ok (.iconst 4, 1) := by decide +kernel
theorem dX11_byteOf_56 : decode cX11_byteOf 56 = .ok (.irem, 1) := by decide +kernel
theorem dX11_byteOf_57 : decode cX11_byteOf 57 = .ok (.imul, 1) := by decide +kernel
theorem dX11_byteOf_58 : decode cX11_byteOf 58 = .ok (.isub, 1) := by decide +kernel
theorem dX11_byteOf_59 : decode cX11_byteOf 59 = .ok (.ishr, 1) := by decide +kernel
theorem dX11_byteOf_60 : decode cX11_byteOf 60 = .ok (.sipush 255, 3) := by decide +kernel
theorem dX11_byteOf_63 : decode cX11_byteOf 63 = .ok (.iand, 1) := by decide +kernel
theorem dX11_byteOf_64 : decode cX11_byteOf 64 = .ok (.ireturn, 1) := by decide +kernel
theorem dX11_feed_0 : decode cX11_feed 0 = .ok (.iconst 0, 1) := by decide +kernel
theorem dX11_feed_1 : decode cX11_feed 1 = .ok (.istore 6, 2) := by decide +kernel
theorem dX11_feed_3 : decode cX11_feed 3 = .ok (.iconst 0, 1) := by decide +kernel
theorem dX11_feed_4 : decode cX11_feed 4 = .ok (.istore 7, 2) := by decide +kernel
theorem dX11_feed_6 : decode cX11_feed 6 = .ok (.iload 7, 2) := by decide +kernel
theorem dX11_feed_8 : decode cX11_feed 8 = .ok (.bipush 20, 2) := by decide +kernel
theorem dX11_feed_10 : decode cX11_feed 10 = .ok (.if_icmp .ge 34, 3) := by decide +kernel
theorem dX11_feed_13 : decode cX11_feed 13 = .ok (.iload 6, 2) := by decide +kernel
theorem dX11_feed_15 : decode cX11_feed 15 = .ok (.iload_n 1, 1) := by decide +kernel
theorem dX11_feed_16 : decode cX11_feed 16 = .ok (.iload_n 2, 1) := by decide +kernel
theorem dX11_feed_17 : decode cX11_feed 17 = .ok (.iload_n 3, 1) := by decide +kernel
theorem dX11_feed_18 : decode cX11_feed 18 = .ok (.iload 4, 2) := by decide +kernel
theorem dX11_feed_20 : decode cX11_feed 20 = .ok (.iload 5, 2) := by decide +kernel
theorem dX11_feed_22 : decode cX11_feed 22 = .ok (.iload 7, 2) := by decide +kernel
theorem dX11_feed_24 : decode cX11_feed 24 = .ok (.invokestatic 98, 3) := by decide +kernel
theorem dX11_feed_27 : decode cX11_feed 27 = .ok (.ifCond .eq 7, 3) := by decide +kernel
theorem dX11_feed_30 : decode cX11_feed 30 = .ok (.iconst 1, 1) := by decide +kernel
theorem dX11_feed_31 : decode cX11_feed 31 = .ok (.goto 4, 3) := by decide +kernel
theorem dX11_feed_34 : decode cX11_feed 34 = .ok (.iconst 0, 1) := by decide +kernel
theorem dX11_feed_35 : decode cX11_feed 35 = .ok (.iadd, 1) := by decide +kernel
theorem dX11_feed_36 : decode cX11_feed 36 = .ok (.istore 6, 2) := by decide +kernel
theorem dX11_feed_38 : decode cX11_feed 38 = .ok (.iinc 7 1, 3) := by decide +kernel
theorem dX11_feed_41 : decode cX11_feed 41 = .ok (.goto (-35), 3) := by decide +kernel
theorem dX11_feed_44 : decode cX11_feed 44 = .ok (.aload_n 0, 1) := by decide +kernel
theorem dX11_feed_45 : decode cX11_feed 45 = .ok (.getfield 102, 3) := by decide +kernel
theorem dX11_feed_48 : decode cX11_feed 48 = .ok (.iload 6, 2) := by decide +kernel
theorem dX11_feed_50 : decode cX11_feed 50 = .ok (.iadd, 1) := by decide +kernel
theorem dX11_feed_51 : decode cX11_feed 51 = .ok (.sipush 240, 3) := by decide +kernel
theorem dX11_feed_54 : decode cX11_feed 54 = .ok (.if_icmp .le 5, 3) := by decide +kernel
theorem dX11_feed_57 : decode cX11_feed 57 = .ok (.iconst (-1), 1) := by decide +kernel
theorem dX11_feed_58 : decode cX11_feed 58 = .ok (.ireturn, 1) := by decide +kernel
theorem dX11_feed_59 : decode cX11_feed 59 = .ok (.iconst 0, 1) := by decide +kernel
theorem dX11_feed_60 : decode cX11_feed 60 = .ok (.istore 7, 2) := by decide +kernel
theorem dX11_feed_62 : decode cX11_feed 62 = .ok (.iload 7, 2) := by decide +kernel
theorem dX11_feed_64 : decode cX11_feed 64 = .ok (.bipush 20, 2) := by decide +kernel
theorem dX11_feed_66 : decode cX11_feed 66 = .ok (.if_icmp .ge 49, 3) := by decide +kernel
theorem dX11_feed_69 : decode cX11_feed 69 = .ok (.iload_n 1, 1) := by decide +kernel
theorem dX11_feed_70 : decode cX11_feed 70 = .ok (.iload_n 2, 1) := by decide +kernel
theorem dX11_feed_71 : decode cX11_feed 71 = .ok (.iload_n 3, 1) := by decide +kernel
theorem dX11_feed_72 : decode cX11_feed 72 = .ok (.iload 4, 2) := by decide +kernel
theorem dX11_feed_74 : decode cX11_feed 74 = .ok (.iload 5, 2) := by decide +kernel
theorem dX11_feed_76 : decode cX11_feed 76 = .ok (.iload 7, 2) := by decide +kernel
theorem dX11_feed_78 : decode cX11_feed 78 = .ok (.invokestatic 98, 3) := by decide +kernel
theorem dX11_feed_81 : decode cX11_feed 81 = .ok (.istore 8, 2) := by decide +kernel
theorem dX11_feed_83 : decode cX11_feed 83 = .ok (.iload 8, 2) := by decide +kernel
theorem dX11_feed_85 : decode cX11_feed 85 = .ok (.ifCond .eq 24, 3) := by decide +kernel
theorem dX11_feed_88 : decode cX11_feed 88 = .ok (.aload_n 0, 1) := by decide +kernel
theorem dX11_feed_89 : decode cX11_feed 89 = .ok (.getfield 9, 3) := by decide +kernel
theorem dX11_feed_92 : decode cX11_feed 92 = .ok (.aload_n 0, 1) := by decide +kernel
theorem dX11_feed_93 : decode cX11_feed 93 = .ok (.getfield 102, 3) := by decide +kernel
theorem dX11_feed_96 : decode cX11_feed 96 = .ok (.iload 8, 2) := by decide +kernel
theorem dX11_feed_98 : decode cX11_feed 98 = .ok (.iastore, 1) := by decide +kernel
theorem dX11_feed_99 : decode cX11_feed 99 = .ok (.aload_n 0, 1) := by decide +kernel
theorem dX11_feed_100 : decode cX11_feed 100 = .ok (.dup, 1) := by decide +kernel
theorem dX11_feed_101 : decode cX11_feed 101 = .ok (.getfield 102, 3) := by decide +kernel
theorem dX11_feed_104 : decode cX11_feed 104 = .ok (.iconst 1, 1) := by decide +kernel
theorem dX11_feed_105 : decode cX11_feed 105 = .ok (.iadd, 1) := by decide +kernel
theorem dX11_feed_106 : decode cX11_feed 106 = .ok (.putfield 102, 3) := by decide +kernel
theorem dX11_feed_109 : decode cX11_feed 109 = .ok (.iinc 7 1, 3) := by decide +kernel
theorem dX11_feed_112 : decode cX11_feed 112 = .ok (.goto (-50), 3) := by decide +kernel
theorem dX11_feed_115 : decode cX11_feed 115 = .ok (.aload_n 0, 1) := by decide +kernel
theorem dX11_feed_116 : decode cX11_feed 116 = .ok (.getfield 102, 3) := by decide +kernel
theorem dX11_feed_119 : decode cX11_feed 119 = .ok (.ireturn, 1) := by decide +kernel
theorem dX11_end_0 : decode cX11_end 0 = .ok (.iload_n 1, 1) := by decide +kernel
theorem dX11_end_1 : decode cX11_end 1 = .ok (.ifCond .lt 11, 3) := by decide +kernel
theorem dX11_end_4 : decode cX11_end 4 = .ok (.iload_n 1, 1) := by decide +kernel
theorem dX11_end_5 : decode cX11_end 5 = .ok (.aload_n 0, 1) := by decide +kernel
theorem dX11_end_6 : decode cX11_end 6 = .ok (.getfield 102, 3) := by decide +kernel
theorem dX11_end_9 : decode cX11_end 9 = .ok (.if_icmp .le 5, 3) := by decide +kernel
theorem dX11_end_12 : decode cX11_end 12 = .ok (.iconst 0, 1) := by decide +kernel
theorem dX11_end_13 : decode cX11_end 13 = .ok (.ireturn, 1) := by decide +kernel
theorem dX11_end_14 : decode cX11_end 14 = .ok (.aload_n 0, 1) := by decide +kernel
theorem dX11_end_15 : decode cX11_end 15 = .ok (.iload_n 1, 1) := by decide +kernel
theorem dX11_end_16 : decode cX11_end 16 = .ok (.putfield 102, 3) := by decide +kernel
theorem dX11_end_19 : decode cX11_end 19 = .ok (.iconst 1, 1) := by decide +kernel
theorem dX11_end_20 : decode cX11_end 20 = .ok (.ireturn, 1) := by decide +kernel
theorem dX11_here_0 : decode cX11_here 0 = .ok (.aload_n 0, 1) := by decide +kernel
theorem dX11_here_1 : decode cX11_here 1 = .ok (.getfield 105, 3) := by decide +kernel
theorem dX11_here_4 : decode cX11_here 4 = .ok (.aload_n 0, 1) := by decide +kernel
theorem dX11_here_5 : decode cX11_here 5 = .ok (.getfield 102, 3) := by decide +kernel
theorem dX11_here_8 : decode cX11_here 8 = .ok (.if_icmp .ge 15, 3) := by decide +kernel
theorem dX11_here_11 : decode cX11_here 11 = .ok (.aload_n 0, 1) := by decide +kernel
theorem dX11_here_12 : decode cX11_here 12 = .ok (.getfield 9, 3) := by decide +kernel
theorem dX11_here_15 : decode cX11_here 15 = .ok (.aload_n 0, 1) := by decide +kernel
theorem dX11_here_16 : decode cX11_here 16 = .ok (.getfield 105, 3) := by decide +kernel
theorem dX11_here_19 : decode cX11_here 19 = .ok (.iaload, 1) := by decide +kernel
theorem dX11_here_20 : decode cX11_here 20 = .ok (.goto 4, 3) := by decide +kernel
theorem dX11_here_23 : decode cX11_here 23 = .ok (.iconst (-1), 1) := by decide +kernel
theorem dX11_here_24 : decode cX11_here 24 = .ok (.ireturn, 1) := by decide +kernel
theorem dX11_look_0 : decode cX11_look 0 = .ok (.aload_n 0, 1) := by decide +kernel
theorem dX11_look_1 : decode cX11_look 1 = .ok (.invokevirtual 108, 3) := by decide +kernel
theorem dX11_look_4 : decode cX11_look 4 = .ok (.bipush 32, 2) := by decide +kernel
theorem dX11_look_6 : decode cX11_look 6 = .ok (.if_icmp .ne 16, 3) := by decide +kernel
theorem dX11_look_9 : decode cX11_look 9 = .ok (.aload_n 0, 1) := by decide +kernel
theorem dX11_look_10 : decode cX11_look 10 = .ok (.dup, 1) := by decide +kernel
theorem dX11_look_11 : decode cX11_look 11 = .ok (.getfield 105, 3) := by decide +kernel
theorem dX11_look_14 : decode cX11_look 14 = .ok (.iconst 1, 1) := by decide +kernel
theorem dX11_look_15 : decode cX11_look 15 = .ok (.iadd, 1) := by decide +kernel
theorem dX11_look_16 : decode cX11_look 16 = .ok (.putfield 105, 3) := by decide +kernel
theorem dX11_look_19 : decode cX11_look 19 = .ok (.goto (-19), 3) := by decide +kernel
theorem dX11_look_22 : decode cX11_look 22 = .ok (.aload_n 0, 1) := by decide +kernel
theorem dX11_look_23 : decode cX11_look 23 = .ok (.invokevirtual 108, 3) := by decide +kernel
theorem dX11_look_26 : decode cX11_look 26 = .ok (.ireturn, 1) := by decide +kernel
theorem dX11_bad_0 : decode cX11_bad 0 = .ok (.aload_n 0, 1) := by decide +kernel
theorem dX11_bad_1 : decode cX11_bad 1 = .ok (.aload_n 0, 1) := by decide +kernel
theorem dX11_bad_2 : decode cX11_bad 2 = .ok (.getfield 112, 3) := by decide +kernel
theorem dX11_bad_5 : decode cX11_bad 5 = .ok (.iconst (-1), 1) := by decide +kernel
theorem dX11_bad_6 : decode cX11_bad 6 = .ok (.if_icmp .ne 10, 3) := by decide +kernel
theorem dX11_bad_9 : decode cX11_bad 9 = .ok (.aload_n 0, 1) := by decide +kernel
theorem dX11_bad_10 : decode cX11_bad 10 = .ok (.getfield 105, 3) := by decide +kernel
theorem dX11_bad_13 : decode cX11_bad 13 = .ok (.goto 7, 3) := by decide +kernel
theorem dX11_bad_16 : decode cX11_bad 16 = .ok (.aload_n 0, 1) := by decide +kernel
theorem dX11_bad_17 : decode cX11_bad 17 = .ok (.getfield 112, 3) := by decide +kernel
theorem dX11_bad_20 : decode cX11_bad 20 = .ok (.putfield 112, 3) := by decide +kernel
theorem dX11_bad_23 : decode cX11_bad 23 = .ok (.return_, 1) := by decide +kernel
theorem dX11_isDigit_0 : decode cX11_isDigit 0 = .ok (.iload_n 0, 1) := by decide +kernel
theorem dX11_isDigit_1 : decode cX11_isDigit 1 = .ok (.bipush 48, 2) := by decide +kernel
theorem dX11_isDigit_3 : decode cX11_isDigit 3 = .ok (.if_icmp .lt 13, 3) := by decide +kernel
theorem dX11_isDigit_6 : decode cX11_isDigit 6 = .ok (.iload_n 0, 1) := by decide +kernel
theorem dX11_isDigit_7 : decode cX11_isDigit 7 = .ok (.bipush 57, 2) := by decide +kernel
theorem dX11_isDigit_9 : decode cX11_isDigit 9 = .ok (.if_icmp .gt 7, 3) := by decide +kernel
theorem dX11_isDigit_12 : decode cX11_isDigit 12 = .ok (.iconst 1, 1) := by decide +kernel
theorem dX11_isDigit_13 : decode cX11_isDigit 13 = .ok (.goto 4, 3) := by decide +kernel
theorem dX11_isDigit_16 : decode cX11_isDigit 16 = .ok (.iconst 0, 1) := by decide +kernel
theorem dX11_isDigit_17 : decode cX11_isDigit 17 = .ok (.ireturn, 1) := by decide +kernel
theorem dX11_put_0 : decode cX11_put 0 = .ok (.aload_n 0, 1) := by decide +kernel
theorem dX11_put_1 : decode cX11_put 1 = .ok (.getfield 13, 3) := by decide +kernel
theorem dX11_put_4 : decode cX11_put 4 = .ok (.sipush 520, 3) := by decide +kernel
theorem dX11_put_7 : decode cX11_put 7 = .ok (.aload_n 0, 1) := by decide +kernel
theorem dX11_put_8 : decode cX11_put 8 = .ok (.getfield 115, 3) := by decide +kernel
theorem dX11_put_11 : decode cX11_put 11 = .ok (.imul, 1) := by decide +kernel
theorem dX11_put_12 : decode cX11_put 12 = .ok (.aload_n 0, 1) := by decide +kernel
theorem dX11_put_13 : decode cX11_put 13 = .ok (.getfield 19, 3) := by decide +kernel
theorem dX11_put_16 : decode cX11_put 16 = .ok (.aload_n 0, 1) := by decide +kernel
theorem dX11_put_17 : decode cX11_put 17 = .ok (.getfield 115, 3) := by decide +kernel
theorem dX11_put_20 : decode cX11_put 20 = .ok (.iaload, 1) := by decide +kernel
theorem dX11_put_21 : decode cX11_put 21 = .ok (.iadd, 1) := by decide +kernel
theorem dX11_put_22 : decode cX11_put 22 = .ok (.iload_n 1, 1) := by decide +kernel
theorem dX11_put_23 : decode cX11_put 23 = .ok (.iastore, 1) := by decide +kernel
theorem dX11_put_24 : decode cX11_put 24 = .ok (.aload_n 0, 1) := by decide +kernel
theorem dX11_put_25 : decode cX11_put 25 = .ok (.getfield 16, 3) := by decide +kernel
theorem dX11_put_28 : decode cX11_put 28 = .ok (.sipush 520, 3) := by decide +kernel
theorem dX11_put_31 : decode cX11_put 31 = .ok (.aload_n 0, 1) := by decide +kernel
theorem dX11_put_32 : decode cX11_put 32 = .ok (.getfield 115, 3) := by decide +kernel
theorem dX11_put_35 : decode cX11_put 35 = .ok (.imul, 1) := by decide +kernel
theorem dX11_put_36 : decode cX11_put 36 = .ok (.aload_n 0, 1) := by decide +kernel
theorem dX11_put_37 : decode cX11_put 37 = .ok (.getfield 19, 3) := by decide +kernel
theorem dX11_put_40 : decode cX11_put 40 = .ok (.aload_n 0, 1) := by decide +kernel
theorem dX11_put_41 : decode cX11_put 41 = .ok (.getfield 115, 3) := by decide +kernel
theorem dX11_put_44 : decode cX11_put 44 = .ok (.iaload, 1) := by decide +kernel
theorem dX11_put_45 : decode cX11_put 45 = .ok (.iadd, 1) := by decide +kernel
theorem dX11_put_46 : decode cX11_put 46 = .ok (.iload_n 2, 1) := by decide +kernel
theorem dX11_put_47 : decode cX11_put 47 = .ok (.iastore, 1) := by decide +kernel
theorem dX11_put_48 : decode cX11_put 48 = .ok (.aload_n 0, 1) := by decide +kernel
theorem dX11_put_49 : decode cX11_put 49 = .ok (.getfield 19, 3) := by decide +kernel
theorem dX11_put_52 : decode cX11_put 52 = .ok (.aload_n 0, 1) := by decide +kernel
theorem dX11_put_53 : decode cX11_put 53 = .ok (.getfield 115, 3) := by decide +kernel
theorem dX11_put_56 : decode cX11_put 56 = .ok (.dup2, 1) := by decide +kernel
theorem dX11_put_57 : decode cX11_put 57 = .ok (.iaload, 1) := by decide +kernel
theorem dX11_put_58 : decode cX11_put 58 = .ok (.iconst 1, 1) := by decide +kernel
theorem dX11_put_59 : decode cX11_put 59 = .ok (.iadd, 1) := by decide +kernel
theorem dX11_put_60 : decode cX11_put 60 = .ok (.iastore, 1) := by decide +kernel
theorem dX11_put_61 : decode cX11_put 61 = .ok (.return_, 1) := by decide +kernel
theorem dX11_letterOf_0 : decode cX11_letterOf 0 = .ok (.iload_n 0, 1) := by decide +kernel
theorem dX11_letterOf_1 : decode cX11_letterOf 1 = .ok (.bipush 104, 2) := by decide +kernel
theorem dX11_letterOf_3 : decode cX11_letterOf 3 = .ok (.if_icmp .ne 7, 3) := by decide +kernel
theorem dX11_letterOf_6 : decode cX11_letterOf 6 = .ok (.iconst 0, 1) := by decide +kernel
theorem dX11_letterOf_7 : decode cX11_letterOf 7 = .ok (.goto 65, 3) := by decide +kernel
theorem dX11_letterOf_10 : decode cX11_letterOf 10 = .ok (.iload_n 0, 1) := by decide +kernel
theorem dX11_letterOf_11 : decode cX11_letterOf 11 = .ok (.bipush 100, 2) := by decide +kernel
theorem dX11_letterOf_13 : decode cX11_letterOf 13 = .ok (.if_icmp .ne 7, 3) := by decide +kernel
theorem dX11_letterOf_16 : decode cX11_letterOf 16 = .ok (.iconst 1, 1) := by decide +kernel
theorem dX11_letterOf_17 : decode cX11_letterOf 17 = .ok (.goto 55, 3) := by decide +kernel
theorem dX11_letterOf_20 : decode cX11_letterOf 20 = .ok (.iload_n 0, 1) := by decide +kernel
theorem dX11_letterOf_21 : decode cX11_letterOf 21 = .ok (.bipush 119, 2) := by decide +kernel
theorem dX11_letterOf_23 : decode cX11_letterOf 23 = .ok (.if_icmp .ne 7, 3) := by decide +kernel
theorem dX11_letterOf_26 : decode cX11_letterOf 26 = .ok (.iconst 2, 1) := by decide +kernel
theorem dX11_letterOf_27 : decode cX11_letterOf 27 = .ok (.goto 45, 3) := by decide +kernel
theorem dX11_letterOf_30 : decode cX11_letterOf 30 = .ok (.iload_n 0, 1) := by decide +kernel
theorem dX11_letterOf_31 : decode cX11_letterOf 31 = .ok (.bipush 107, 2) := by decide +kernel
theorem dX11_letterOf_33 : decode cX11_letterOf 33 = .ok (.if_icmp .ne 7, 3) := by decide +kernel
theorem dX11_letterOf_36 : decode cX11_letterOf 36 = .ok (.iconst 3, 1) := by decide +kernel
theorem dX11_letterOf_37 : decode cX11_letterOf 37 = .ok (.goto 35, 3) := by decide +kernel
theorem dX11_letterOf_40 : decode cX11_letterOf 40 = .ok (.iload_n 0, 1) := by decide +kernel
theorem dX11_letterOf_41 : decode cX11_letterOf 41 = .ok (.bipush 112, 2) := by decide +kernel
theorem dX11_letterOf_43 : decode cX11_letterOf 43 = .ok (.if_icmp .ne 7, 3) := by decide +kernel
theorem dX11_letterOf_46 : decode cX11_letterOf 46 = .ok (.iconst 4, 1) := by decide +kernel
theorem dX11_letterOf_47 : decode cX11_letterOf 47 = .ok (.goto 25, 3) := by decide +kernel
theorem dX11_letterOf_50 : decode cX11_letterOf 50 = .ok (.iload_n 0, 1) := by decide +kernel
theorem dX11_letterOf_51 : decode cX11_letterOf 51 = .ok (.bipush 110, 2) := by decide +kernel
theorem dX11_letterOf_53 : decode cX11_letterOf 53 = .ok (.if_icmp .ne 7, 3) := by decide +kernel
theorem dX11_letterOf_56 : decode cX11_letterOf 56 = .ok (.iconst 5, 1) := by decide +kernel
theorem dX11_letterOf_57 : decode cX11_letterOf 57 = .ok (.goto 15, 3) := by decide +kernel
theorem dX11_letterOf_60 : decode cX11_letterOf 60 = .ok (.iload_n 0, 1) := by decide +kernel
theorem dX11_letterOf_61 : decode cX11_letterOf 61 = .ok (.bipush 122, 2) := by decide +kernel
theorem dX11_letterOf_63 : decode cX11_letterOf 63 = .ok (.if_icmp .ne 8, 3) := by decide +kernel
theorem dX11_letterOf_66 : decode cX11_letterOf 66 = .ok (.bipush 6, 2) := by decide +kernel
theorem dX11_letterOf_68 : decode cX11_letterOf 68 = .ok (.goto 4, 3) := by decide +kernel
theorem dX11_letterOf_71 : decode cX11_letterOf 71 = .ok (.iconst (-1), 1) := by decide +kernel
theorem dX11_letterOf_72 : decode cX11_letterOf 72 = .ok (.ireturn, 1) := by decide +kernel
theorem dX11_opens_0 : decode cX11_opens 0 = .ok (.aload_n 0, 1) := by decide +kernel
theorem dX11_opens_1 : decode cX11_opens 1 = .ok (.getfield 118, 3) := by decide +kernel
theorem dX11_opens_4 : decode cX11_opens 4 = .ok (.bipush 6, 2) := by decide +kernel
theorem dX11_opens_6 : decode cX11_opens 6 = .ok (.if_icmp .ne 7, 3) := by decide +kernel
theorem dX11_opens_9 : decode cX11_opens 9 = .ok (.aload_n 0, 1) := by decide +kernel
theorem dX11_opens_10 : decode cX11_opens 10 = .ok (.invokevirtual 121, 3) := by decide +kernel
theorem dX11_opens_13 : decode cX11_opens 13 = .ok (.aload_n 0, 1) := by decide +kernel
theorem dX11_opens_14 : decode cX11_opens 14 = .ok (.dup, 1) := by decide +kernel
theorem dX11_opens_15 : decode cX11_opens 15 = .ok (.getfield 118, 3) := by decide +kernel
theorem dX11_opens_18 : decode cX11_opens 18 = .ok (.iconst 1, 1) := by decide +kernel
theorem dX11_opens_19 : decode cX11_opens 19 = .ok (.iadd, 1) := by decide +kernel
theorem dX11_opens_20 : decode cX11_opens 20 = .ok (.putfield 118, 3) := by decide +kernel
theorem dX11_opens_23 : decode cX11_opens 23 = .ok (.aload_n 0, 1) := by decide +kernel
theorem dX11_opens_24 : decode cX11_opens 24 = .ok (.dup, 1) := by decide +kernel
theorem dX11_opens_25 : decode cX11_opens 25 = .ok (.getfield 105, 3) := by decide +kernel
theorem dX11_opens_28 : decode cX11_opens 28 = .ok (.iconst 1, 1) := by decide +kernel
theorem dX11_opens_29 : decode cX11_opens 29 = .ok (.iadd, 1) := by decide +kernel
theorem dX11_opens_30 : decode cX11_opens 30 = .ok (.putfield 105, 3) := by decide +kernel
theorem dX11_opens_33 : decode cX11_opens 33 = .ok (.return_, 1) := by decide +kernel
theorem dX11_closes_0 : decode cX11_closes 0 = .ok (.aload_n 0, 1) := by decide +kernel
theorem dX11_closes_1 : decode cX11_closes 1 = .ok (.getfield 112, 3) := by decide +kernel
theorem dX11_closes_4 : decode cX11_closes 4 = .ok (.iconst (-1), 1) := by decide +kernel
theorem dX11_closes_5 : decode cX11_closes 5 = .ok (.if_icmp .ne 15, 3) := by decide +kernel
theorem dX11_closes_8 : decode cX11_closes 8 = .ok (.aload_n 0, 1) := by decide +kernel
theorem dX11_closes_9 : decode cX11_closes 9 = .ok (.invokevirtual 124, 3) := by decide +kernel
theorem dX11_closes_12 : decode cX11_closes 12 = .ok (.iload_n 1, 1) := by decide +kernel
theorem dX11_closes_13 : decode cX11_closes 13 = .ok (.if_icmp .eq 7, 3) := by decide +kernel
theorem dX11_closes_16 : decode cX11_closes 16 = .ok (.aload_n 0, 1) := by decide +kernel
theorem dX11_closes_17 : decode cX11_closes 17 = .ok (.invokevirtual 121, 3) := by decide +kernel
theorem dX11_closes_20 : decode cX11_closes 20 = .ok (.aload_n 0, 1) := by decide +kernel
theorem dX11_closes_21 : decode cX11_closes 21 = .ok (.dup, 1) := by decide +kernel
theorem dX11_closes_22 : decode cX11_closes 22 = .ok (.getfield 105, 3) := by decide +kernel
theorem dX11_closes_25 : decode cX11_closes 25 = .ok (.iconst 1, 1) := by decide +kernel
theorem dX11_closes_26 : decode cX11_closes 26 = .ok (.iadd, 1) := by decide +kernel
theorem dX11_closes_27 : decode cX11_closes 27 = .ok (.putfield 105, 3) := by decide +kernel
theorem dX11_closes_30 : decode cX11_closes 30 = .ok (.aload_n 0, 1) := by decide +kernel
theorem dX11_closes_31 : decode cX11_closes 31 = .ok (.dup, 1) := by decide +kernel
theorem dX11_closes_32 : decode cX11_closes 32 = .ok (.getfield 118, 3) := by decide +kernel
theorem dX11_closes_35 : decode cX11_closes 35 = .ok (.iconst 1, 1) := by decide +kernel
theorem dX11_closes_36 : decode cX11_closes 36 = .ok (.isub, 1) := by decide +kernel
theorem dX11_closes_37 : decode cX11_closes 37 = .ok (.putfield 118, 3) := by decide +kernel
theorem dX11_closes_40 : decode cX11_closes 40 = .ok (.return_, 1) := by decide +kernel
theorem dX11_plainNumber_0 : decode cX11_plainNumber 0 = .ok (.iconst 0, 1) := by decide +kernel
theorem dX11_plainNumber_1 : decode cX11_plainNumber 1 = .ok (.istore_n 1, 1) := by decide +kernel
theorem dX11_plainNumber_2 : decode cX11_plainNumber 2 = .ok (.iconst 0, 1) := by decide +kernel
theorem dX11_plainNumber_3 : decode cX11_plainNumber 3 = .ok (.istore_n 2, 1) := by decide +kernel
theorem dX11_plainNumber_4 : decode cX11_plainNumber 4 = .ok (.iload_n 2, 1) := by decide +kernel
theorem dX11_plainNumber_5 : decode cX11_plainNumber 5 = .ok (.iconst 4, 1) := by decide +kernel
theorem dX11_plainNumber_6 : decode cX11_plainNumber 6 = .ok (.if_icmp .ge 42, 3) := by decide +kernel
theorem dX11_plainNumber_9 : decode cX11_plainNumber 9 = .ok (.aload_n 0, 1) := by decide +kernel
theorem dX11_plainNumber_10 : decode cX11_plainNumber 10 = .ok (.invokevirtual 108, 3) := by decide +kernel
theorem dX11_plainNumber_13 : decode cX11_plainNumber 13 = .ok (.invokestatic 127, 3) := by decide +kernel
theorem dX11_plainNumber_16 : decode cX11_plainNumber 16 = .ok (.ifCond .eq 32, 3) := by decide +kernel
theorem dX11_plainNumber_19 : decode cX11_plainNumber 19 = .ok (.bipush 10, 2) := by decide +kernel
theorem dX11_plainNumber_21 : decode cX11_plainNumber 21 = .ok (.iload_n 1, 1) := by decide +kernel
theorem dX11_plainNumber_22 : decode cX11_plainNumber 22 = .ok (.imul, 1) := by decide +kernel
theorem dX11_plainNumber_23 : decode cX11_plainNumber 23 = .ok (.aload_n 0, 1) := by decide +kernel
theorem dX11_plainNumber_24 : decode cX11_plainNumber 24 = .ok (.invokevirtual 108, 3) := by decide +kernel
theorem dX11_plainNumber_27 : decode cX11_plainNumber 27 = .ok (.iadd, 1) := by decide +kernel
theorem dX11_plainNumber_28 : decode cX11_plainNumber 28 = .ok (.bipush 48, 2) := by decide +kernel
theorem dX11_plainNumber_30 : decode cX11_plainNumber 30 = .ok (.isub, 1) := by decide +kernel
theorem dX11_plainNumber_31 : decode cX11_plainNumber 31 = .ok (.istore_n 1, 1) := by decide +kernel
theorem dX11_plainNumber_32 : decode cX11_plainNumber 32 = .ok (.aload_n 0, 1) := by decide +kernel
theorem dX11_plainNumber_33 : decode cX11_plainNumber 33 = .ok (.dup, 1) := by decide +kernel
theorem dX11_plainNumber_34 : decode cX11_plainNumber 34 = .ok (.getfield 105, 3) := by decide +kernel
theorem dX11_plainNumber_37 : decode cX11_plainNumber 37 = .ok (.iconst 1, 1) := by decide +kernel
theorem dX11_plainNumber_38 : decode cX11_plainNumber 38 = .ok (.iadd, 1) := by decide +kernel
theorem dX11_plainNumber_39 : decode cX11_plainNumber 39 = .ok (.putfield 105, 3) := by decide +kernel
theorem dX11_plainNumber_42 : decode cX11_plainNumber 42 = .ok (.iinc 2 1, 3) := by decide +kernel
theorem dX11_plainNumber_45 : decode cX11_plainNumber 45 = .ok (.goto (-41), 3) := by decide +kernel
theorem dX11_plainNumber_48 : decode cX11_plainNumber 48 = .ok (.aload_n 0, 1) := by decide +kernel
theorem dX11_plainNumber_49 : decode cX11_plainNumber 49 = .ok (.invokevirtual 108, 3) := by decide +kernel
theorem dX11_plainNumber_52 : decode cX11_plainNumber 52 = .ok (.invokestatic 127, 3) := by decide +kernel
theorem dX11_plainNumber_55 : decode cX11_plainNumber 55 = .ok (.ifCond .eq 7, 3) := by decide +kernel
theorem dX11_plainNumber_58 : decode cX11_plainNumber 58 = .ok (.aload_n 0, 1) := by decide +kernel
theorem dX11_plainNumber_59 : decode cX11_plainNumber 59 = .ok (.invokevirtual 121, 3) := by decide +kernel
theorem dX11_plainNumber_62 : decode cX11_plainNumber 62 = .ok (.iload_n 1, 1) := by decide +kernel
theorem dX11_plainNumber_63 : decode cX11_plainNumber 63 = .ok (.ireturn, 1) := by decide +kernel
theorem dX11_atom_0 : decode cX11_atom 0 = .ok (.aload_n 0, 1) := by decide +kernel
theorem dX11_atom_1 : decode cX11_atom 1 = .ok (.invokevirtual 124, 3) := by decide +kernel
theorem dX11_atom_4 : decode cX11_atom 4 = .ok (.istore_n 1, 1) := by decide +kernel
theorem dX11_atom_5 : decode cX11_atom 5 = .ok (.iload_n 1, 1) := by decide +kernel
theorem dX11_atom_6 : decode cX11_atom 6 = .ok (.invokestatic 127, 3) := by decide +kernel
theorem dX11_atom_9 : decode cX11_atom 9 = .ok (.ifCond .eq 15, 3) := by decide +kernel
theorem dX11_atom_12 : decode cX11_atom 12 = .ok (.aload_n 0, 1) := by decide +kernel
theorem dX11_atom_13 : decode cX11_atom 13 = .ok (.iconst 0, 1) := by decide +kernel
theorem dX11_atom_14 : decode cX11_atom 14 = .ok (.aload_n 0, 1) := by decide +kernel
theorem dX11_atom_15 : decode cX11_atom 15 = .ok (.invokevirtual 131, 3) := by decide +kernel
theorem dX11_atom_18 : decode cX11_atom 18 = .ok (.invokevirtual 134, 3) := by decide +kernel
theorem dX11_atom_21 : decode cX11_atom 21 = .ok (.goto 68, 3) := by decide +kernel
theorem dX11_atom_24 : decode cX11_atom 24 = .ok (.iload_n 1, 1) := by decide +kernel
theorem dX11_atom_25 : decode cX11_atom 25 = .ok (.invokestatic 138, 3) := by decide +kernel
theorem dX11_atom_28 : decode cX11_atom 28 = .ok (.iconst (-1), 1) := by decide +kernel
theorem dX11_atom_29 : decode cX11_atom 29 = .ok (.if_icmp .eq 25, 3) := by decide +kernel
theorem dX11_atom_32 : decode cX11_atom 32 = .ok (.aload_n 0, 1) := by decide +kernel
theorem dX11_atom_33 : decode cX11_atom 33 = .ok (.dup, 1) := by decide +kernel
theorem dX11_atom_34 : decode cX11_atom 34 = .ok (.getfield 105, 3) := by decide +kernel
theorem dX11_atom_37 : decode cX11_atom 37 = .ok (.iconst 1, 1) := by decide +kernel
theorem dX11_atom_38 : decode cX11_atom 38 = .ok (.iadd, 1) := by decide +kernel
theorem dX11_atom_39 : decode cX11_atom 39 = .ok (.putfield 105, 3) := by decide +kernel
theorem dX11_atom_42 : decode cX11_atom 42 = .ok (.aload_n 0, 1) := by decide +kernel
theorem dX11_atom_43 : decode cX11_atom 43 = .ok (.iconst 1, 1) := by decide +kernel
theorem dX11_atom_44 : decode cX11_atom 44 = .ok (.iload_n 1, 1) := by decide +kernel
theorem dX11_atom_45 : decode cX11_atom 45 = .ok (.invokestatic 138, 3) := by decide +kernel
theorem dX11_atom_48 : decode cX11_atom 48 = .ok (.invokevirtual 134, 3) := by decide +kernel
theorem dX11_atom_51 : decode cX11_atom 51 = .ok (.goto 38, 3) := by decide +kernel
theorem dX11_atom_54 : decode cX11_atom 54 = .ok (.iload_n 1, 1) := by decide +kernel
theorem dX11_atom_55 : decode cX11_atom 55 = .ok (.bipush 91, 2) := by decide +kernel
theorem dX11_atom_57 : decode cX11_atom 57 = .ok (.if_icmp .ne 28, 3) := by decide +kernel
theorem dX11_atom_60 : decode cX11_atom 60 = .ok (.aload_n 0, 1) := by decide +kernel
theorem dX11_atom_61 : decode cX11_atom 61 = .ok (.invokevirtual 142, 3) := by decide +kernel
theorem dX11_atom_64 : decode cX11_atom 64 = .ok (.aload_n 0, 1) := by decide +kernel
theorem dX11_atom_65 : decode cX11_atom 65 = .ok (.getfield 112, 3) := by decide +kernel
theorem dX11_atom_68 : decode cX11_atom 68 = .ok (.iconst (-1), 1) := by decide +kernel
theorem dX11_atom_69 : decode cX11_atom 69 = .ok (.if_icmp .ne 20, 3) := by decide +kernel
theorem dX11_atom_72 : decode cX11_atom 72 = .ok (.aload_n 0, 1) := by decide +kernel
theorem dX11_atom_73 : decode cX11_atom 73 = .ok (.invokevirtual 145, 3) := by decide +kernel
theorem dX11_atom_76 : decode cX11_atom 76 = .ok (.aload_n 0, 1) := by decide +kernel
theorem dX11_atom_77 : decode cX11_atom 77 = .ok (.bipush 93, 2) := by decide +kernel
theorem dX11_atom_79 : decode cX11_atom 79 = .ok (.invokevirtual 148, 3) := by decide +kernel
theorem dX11_atom_82 : decode cX11_atom 82 = .ok (.goto 7, 3) := by decide +kernel
theorem dX11_atom_85 : decode cX11_atom 85 = .ok (.aload_n 0, 1) := by decide +kernel
theorem dX11_atom_86 : decode cX11_atom 86 = .ok (.invokevirtual 121, 3) := by decide +kernel
theorem dX11_atom_89 : decode cX11_atom 89 = .ok (.return_, 1) := by decide +kernel
theorem dX11_term_0 : decode cX11_term 0 = .ok (.aload_n 0, 1) := by decide +kernel
theorem dX11_term_1 : decode cX11_term 1 = .ok (.invokevirtual 152, 3) := by decide +kernel
theorem dX11_term_4 : decode cX11_term 4 = .ok (.aload_n 0, 1) := by decide +kernel
theorem dX11_term_5 : decode cX11_term 5 = .ok (.getfield 112, 3) := by decide +kernel
theorem dX11_term_8 : decode cX11_term 8 = .ok (.iconst (-1), 1) := by decide +kernel
theorem dX11_term_9 : decode cX11_term 9 = .ok (.if_icmp .ne 10, 3) := by decide +kernel
theorem dX11_term_12 : decode cX11_term 12 = .ok (.aload_n 0, 1) := by decide +kernel
theorem dX11_term_13 : decode cX11_term 13 = .ok (.invokevirtual 124, 3) := by decide +kernel
theorem dX11_term_16 : decode cX11_term 16 = .ok (.goto 4, 3) := by decide +kernel
theorem dX11_term_19 : decode cX11_term 19 = .ok (.iconst (-1), 1) := by decide +kernel
theorem dX11_term_20 : decode cX11_term 20 = .ok (.istore_n 1, 1) := by decide +kernel
theorem dX11_term_21 : decode cX11_term 21 = .ok (.iload_n 1, 1) := by decide +kernel
theorem dX11_term_22 : decode cX11_term 22 = .ok (.bipush 42, 2) := by decide +kernel
theorem dX11_term_24 : decode cX11_term 24 = .ok (.if_icmp .eq 9, 3) := by decide +kernel
theorem dX11_term_27 : decode cX11_term 27 = .ok (.iload_n 1, 1) := by decide +kernel
theorem dX11_term_28 : decode cX11_term 28 = .ok (.bipush 47, 2) := by decide +kernel
theorem dX11_term_30 : decode cX11_term 30 = .ok (.if_icmp .ne 53, 3) := by decide +kernel
theorem dX11_term_33 : decode cX11_term 33 = .ok (.aload_n 0, 1) := by decide +kernel
theorem dX11_term_34 : decode cX11_term 34 = .ok (.dup, 1) := by decide +kernel
theorem dX11_term_35 : decode cX11_term 35 = .ok (.getfield 105, 3) := by decide +kernel
theorem dX11_term_38 : decode cX11_term 38 = .ok (.iconst 1, 1) := by decide +kernel
theorem dX11_term_39 : decode cX11_term 39 = .ok (.iadd, 1) := by decide +kernel
theorem dX11_term_40 : decode cX11_term 40 = .ok (.putfield 105, 3) := by decide +kernel
theorem dX11_term_43 : decode cX11_term 43 = .ok (.aload_n 0, 1) := by decide +kernel
theorem dX11_term_44 : decode cX11_term 44 = .ok (.invokevirtual 152, 3) := by decide +kernel
theorem dX11_term_47 : decode cX11_term 47 = .ok (.aload_n 0, 1) := by decide +kernel
theorem dX11_term_48 : decode cX11_term 48 = .ok (.iload_n 1, 1) := by decide +kernel
theorem dX11_term_49 : decode cX11_term 49 = .ok (.bipush 42, 2) := by decide +kernel
theorem dX11_term_51 : decode cX11_term 51 = .ok (.if_icmp .ne 7, 3) := by decide +kernel
theorem dX11_term_54 : decode cX11_term 54 = .ok (.iconst 4, 1) := by decide +kernel
theorem dX11_term_55 : decode cX11_term 55 = .ok (.goto 4, 3) := by decide +kernel
theorem dX11_term_58 : decode cX11_term 58 = .ok (.iconst 5, 1) := by decide +kernel
theorem dX11_term_59 : decode cX11_term 59 = .ok (.iconst 0, 1) := by decide +kernel
theorem dX11_term_60 : decode cX11_term 60 = .ok (.invokevirtual 134, 3) := by decide +kernel
theorem dX11_term_63 : decode cX11_term 63 = .ok (.aload_n 0, 1) := by decide +kernel
theorem dX11_term_64 : decode cX11_term 64 = .ok (.getfield 112, 3) := by decide +kernel
theorem dX11_term_67 : decode cX11_term 67 = .ok (.iconst (-1), 1) := by decide +kernel
theorem dX11_term_68 : decode cX11_term 68 = .ok (.if_icmp .ne 10, 3) := by decide +kernel
theorem dX11_term_71 : decode cX11_term 71 = .ok (.aload_n 0, 1) := by decide +kernel
theorem dX11_term_72 : decode cX11_term 72 = .ok (.invokevirtual 124, 3) := by decide +kernel
theorem dX11_term_75 : decode cX11_term 75 = .ok (.goto 4, 3) := by decide +kernel
theorem dX11_term_78 : decode cX11_term 78 = .ok (.iconst (-1), 1) := by decide +kernel
theorem dX11_term_79 : decode cX11_term 79 = .ok (.istore_n 1, 1) := by decide +kernel
theorem dX11_term_80 : decode cX11_term 80 = .ok (.goto (-59), 3) := by decide +kernel
theorem dX11_term_83 : decode cX11_term 83 = .ok (.return_, 1) := by decide +kernel
theorem dX11_sum_0 : decode cX11_sum 0 = .ok (.aload_n 0, 1) := by decide +kernel
theorem dX11_sum_1 : decode cX11_sum 1 = .ok (.invokevirtual 155, 3) := by decide +kernel
theorem dX11_sum_4 : decode cX11_sum 4 = .ok (.aload_n 0, 1) := by decide +kernel
theorem dX11_sum_5 : decode cX11_sum 5 = .ok (.getfield 112, 3) := by decide +kernel
theorem dX11_sum_8 : decode cX11_sum 8 = .ok (.iconst (-1), 1) := by decide +kernel
theorem dX11_sum_9 : decode cX11_sum 9 = .ok (.if_icmp .ne 10, 3) := by decide +kernel
theorem dX11_sum_12 : decode cX11_sum 12 = .ok (.aload_n 0, 1) := by decide +kernel
theorem dX11_sum_13 : decode cX11_sum 13 = .ok (.invokevirtual 124, 3) := by decide +kernel
theorem dX11_sum_16 : decode cX11_sum 16 = .ok (.goto 4, 3) := by decide +kernel
theorem dX11_sum_19 : decode cX11_sum 19 = .ok (.iconst (-1), 1) := by decide +kernel
theorem dX11_sum_20 : decode cX11_sum 20 = .ok (.istore_n 1, 1) := by decide +kernel
theorem dX11_sum_21 : decode cX11_sum 21 = .ok (.iload_n 1, 1) := by decide +kernel
theorem dX11_sum_22 : decode cX11_sum 22 = .ok (.bipush 43, 2) := by decide +kernel
theorem dX11_sum_24 : decode cX11_sum 24 = .ok (.if_icmp .eq 9, 3) := by decide +kernel
theorem dX11_sum_27 : decode cX11_sum 27 = .ok (.iload_n 1, 1) := by decide +kernel
theorem dX11_sum_28 : decode cX11_sum 28 = .ok (.bipush 45, 2) := by decide +kernel
theorem dX11_sum_30 : decode cX11_sum 30 = .ok (.if_icmp .ne 53, 3) := by decide +kernel
theorem dX11_sum_33 : decode cX11_sum 33 = .ok (.aload_n 0, 1) := by decide +kernel
theorem dX11_sum_34 : decode cX11_sum 34 = .ok (.dup, 1) := by decide +kernel
theorem dX11_sum_35 : decode cX11_sum 35 = .ok (.getfield 105, 3) := by decide +kernel
theorem dX11_sum_38 : decode cX11_sum 38 = .ok (.iconst 1, 1) := by decide +kernel
theorem dX11_sum_39 : decode cX11_sum 39 = .ok (.iadd, 1) := by decide +kernel
theorem dX11_sum_40 : decode cX11_sum 40 = .ok (.putfield 105, 3) := by decide +kernel
theorem dX11_sum_43 : decode cX11_sum 43 = .ok (.aload_n 0, 1) := by decide +kernel
theorem dX11_sum_44 : decode cX11_sum 44 = .ok (.invokevirtual 155, 3) := by decide +kernel
theorem dX11_sum_47 : decode cX11_sum 47 = .ok (.aload_n 0, 1) := by decide +kernel
theorem dX11_sum_48 : decode cX11_sum 48 = .ok (.iload_n 1, 1) := by decide +kernel
theorem dX11_sum_49 : decode cX11_sum 49 = .ok (.bipush 43, 2) := by decide +kernel
theorem dX11_sum_51 : decode cX11_sum 51 = .ok (.if_icmp .ne 7, 3) := by decide +kernel
theorem dX11_sum_54 : decode cX11_sum 54 = .ok (.iconst 2, 1) := by decide +kernel
theorem dX11_sum_55 : decode cX11_sum 55 = .ok (.goto 4, 3) := by decide +kernel
theorem dX11_sum_58 : decode cX11_sum 58 = .ok (.iconst 3, 1) := by decide +kernel
theorem dX11_sum_59 : decode cX11_sum 59 = .ok (.iconst 0, 1) := by decide +kernel
theorem dX11_sum_60 : decode cX11_sum 60 = .ok (.invokevirtual 134, 3) := by decide +kernel
theorem dX11_sum_63 : decode cX11_sum 63 = .ok (.aload_n 0, 1) := by decide +kernel
theorem dX11_sum_64 : decode cX11_sum 64 = .ok (.getfield 112, 3) := by decide +kernel
theorem dX11_sum_67 : decode cX11_sum 67 = .ok (.iconst (-1), 1) := by decide +kernel
theorem dX11_sum_68 : decode cX11_sum 68 = .ok (.if_icmp .ne 10, 3) := by decide +kernel
theorem dX11_sum_71 : decode cX11_sum 71 = .ok (.aload_n 0, 1) := by decide +kernel
theorem dX11_sum_72 : decode cX11_sum 72 = .ok (.invokevirtual 124, 3) := by decide +kernel
theorem dX11_sum_75 : decode cX11_sum 75 = .ok (.goto 4, 3) := by decide +kernel
theorem dX11_sum_78 : decode cX11_sum 78 = .ok (.iconst (-1), 1) := by decide +kernel
theorem dX11_sum_79 : decode cX11_sum 79 = .ok (.istore_n 1, 1) := by decide +kernel
theorem dX11_sum_80 : decode cX11_sum 80 = .ok (.goto (-59), 3) := by decide +kernel
theorem dX11_sum_83 : decode cX11_sum 83 = .ok (.return_, 1) := by decide +kernel
theorem dX11_isSign_0 : decode cX11_isSign 0 = .ok (.iload_n 0, 1) := by decide +kernel
theorem dX11_isSign_1 : decode cX11_isSign 1 = .ok (.bipush 61, 2) := by decide +kernel
theorem dX11_isSign_3 : decode cX11_isSign 3 = .ok (.if_icmp .eq 15, 3) := by decide +kernel
theorem dX11_isSign_6 : decode cX11_isSign 6 = .ok (.iload_n 0, 1) := by decide +kernel
theorem dX11_isSign_7 : decode cX11_isSign 7 = .ok (.bipush 60, 2) := by decide +kernel
theorem dX11_isSign_9 : decode cX11_isSign 9 = .ok (.if_icmp .eq 9, 3) := by decide +kernel
theorem dX11_isSign_12 : decode cX11_isSign 12 = .ok (.iload_n 0, 1) := by decide +kernel
theorem dX11_isSign_13 : decode cX11_isSign 13 = .ok (.bipush 62, 2) := by decide +kernel
theorem dX11_isSign_15 : decode cX11_isSign 15 = .ok (.if_icmp .ne 7, 3) := by decide +kernel
theorem dX11_isSign_18 : decode cX11_isSign 18 = .ok (.iconst 1, 1) := by decide +kernel
theorem dX11_isSign_19 : decode cX11_isSign 19 = .ok (.goto 4, 3) := by decide +kernel
theorem dX11_isSign_22 : decode cX11_isSign 22 = .ok (.iconst 0, 1) := by decide +kernel
theorem dX11_isSign_23 : decode cX11_isSign 23 = .ok (.ireturn, 1) := by decide +kernel
theorem dX11_compare_0 : decode cX11_compare 0 = .ok (.aload_n 0, 1) := by decide +kernel
theorem dX11_compare_1 : decode cX11_compare 1 = .ok (.getfield 112, 3) := by decide +kernel
theorem dX11_compare_4 : decode cX11_compare 4 = .ok (.iconst (-1), 1) := by decide +kernel
theorem dX11_compare_5 : decode cX11_compare 5 = .ok (.if_icmp .ne 10, 3) := by decide +kernel
theorem dX11_compare_8 : decode cX11_compare 8 = .ok (.aload_n 0, 1) := by decide +kernel
theorem dX11_compare_9 : decode cX11_compare 9 = .ok (.invokevirtual 124, 3) := by decide +kernel
theorem dX11_compare_12 : decode cX11_compare 12 = .ok (.goto 4, 3) := by decide +kernel
theorem dX11_compare_15 : decode cX11_compare 15 = .ok (.iconst (-1), 1) := by decide +kernel
theorem dX11_compare_16 : decode cX11_compare 16 = .ok (.istore_n 1, 1) := by decide +kernel
theorem dX11_compare_17 : decode cX11_compare 17 = .ok (.iload_n 1, 1) := by decide +kernel
theorem dX11_compare_18 : decode cX11_compare 18 = .ok (.invokestatic 158, 3) := by decide +kernel
theorem dX11_compare_21 : decode cX11_compare 21 = .ok (.ifCond .ne 8, 3) := by decide +kernel
theorem dX11_compare_24 : decode cX11_compare 24 = .ok (.aload_n 0, 1) := by decide +kernel
theorem dX11_compare_25 : decode cX11_compare 25 = .ok (.invokevirtual 121, 3) := by decide +kernel
theorem dX11_compare_28 : decode cX11_compare 28 = .ok (.return_, 1) := by decide +kernel
theorem dX11_compare_29 : decode cX11_compare 29 = .ok (.aload_n 0, 1) := by decide +kernel
theorem dX11_compare_30 : decode cX11_compare 30 = .ok (.dup, 1) := by decide +kernel
theorem dX11_compare_31 : decode cX11_compare 31 = .ok (.getfield 105, 3) := by decide +kernel
theorem dX11_compare_34 : decode cX11_compare 34 = .ok (.iconst 1, 1) := by decide +kernel
theorem dX11_compare_35 : decode cX11_compare 35 = .ok (.iadd, 1) := by decide +kernel
theorem dX11_compare_36 : decode cX11_compare 36 = .ok (.putfield 105, 3) := by decide +kernel
theorem dX11_compare_39 : decode cX11_compare 39 = .ok (.aload_n 0, 1) := by decide +kernel
theorem dX11_compare_40 : decode cX11_compare 40 = .ok (.invokevirtual 145, 3) := by decide +kernel
theorem dX11_compare_43 : decode cX11_compare 43 = .ok (.aload_n 0, 1) := by decide +kernel
theorem dX11_compare_44 : decode cX11_compare 44 = .ok (.iload_n 1, 1) := by decide +kernel
theorem dX11_compare_45 : decode cX11_compare 45 = .ok (.bipush 61, 2) := by decide +kernel
theorem dX11_compare_47 : decode cX11_compare 47 = .ok (.if_icmp .ne 8, 3) := by decide +kernel
theorem dX11_compare_50 : decode cX11_compare 50 = .ok (.bipush 6, 2) := by decide +kernel
theorem dX11_compare_52 : decode cX11_compare 52 = .ok (.goto 16, 3) := by decide +kernel
theorem dX11_compare_55 : decode cX11_compare 55 = .ok (.iload_n 1, 1) := by decide +kernel
theorem dX11_compare_56 : decode cX11_compare 56 = .ok (.bipush 60, 2) := by decide +kernel
theorem dX11_compare_58 : decode cX11_compare 58 = .ok (.if_icmp .ne 8, 3) := by decide +kernel
theorem dX11_compare_61 : decode cX11_compare 61 = .ok (.bipush 7, 2) := by decide +kernel
theorem dX11_compare_63 : decode cX11_compare 63 = .ok (.goto 5, 3) := by decide +kernel
theorem dX11_compare_66 : decode cX11_compare 66 = .ok (.bipush 8, 2) := by decide +kernel
theorem dX11_compare_68 : decode cX11_compare 68 = .ok (.iconst 0, 1) := by decide +kernel
theorem dX11_compare_69 : decode cX11_compare 69 = .ok (.invokevirtual 134, 3) := by decide +kernel
theorem dX11_compare_72 : decode cX11_compare 72 = .ok (.return_, 1) := by decide +kernel
theorem dX11_unit_0 : decode cX11_unit 0 = .ok (.aload_n 0, 1) := by decide +kernel
theorem dX11_unit_1 : decode cX11_unit 1 = .ok (.invokevirtual 124, 3) := by decide +kernel
theorem dX11_unit_4 : decode cX11_unit 4 = .ok (.istore_n 1, 1) := by decide +kernel
theorem dX11_unit_5 : decode cX11_unit 5 = .ok (.iload_n 1, 1) := by decide +kernel
theorem dX11_unit_6 : decode cX11_unit 6 = .ok (.bipush 33, 2) := by decide +kernel
theorem dX11_unit_8 : decode cX11_unit 8 = .ok (.if_icmp .ne 39, 3) := by decide +kernel
theorem dX11_unit_11 : decode cX11_unit 11 = .ok (.aload_n 0, 1) := by decide +kernel
theorem dX11_unit_12 : decode cX11_unit 12 = .ok (.invokevirtual 142, 3) := by decide +kernel
theorem dX11_unit_15 : decode cX11_unit 15 = .ok (.aload_n 0, 1) := by decide +kernel
theorem dX11_unit_16 : decode cX11_unit 16 = .ok (.getfield 112, 3) := by decide +kernel
theorem dX11_unit_19 : decode cX11_unit 19 = .ok (.iconst (-1), 1) := by decide +kernel
theorem dX11_unit_20 : decode cX11_unit 20 = .ok (.if_icmp .ne 74, 3) := by decide +kernel
theorem dX11_unit_23 : decode cX11_unit 23 = .ok (.aload_n 0, 1) := by decide +kernel
theorem dX11_unit_24 : decode cX11_unit 24 = .ok (.invokevirtual 161, 3) := by decide +kernel
theorem dX11_unit_27 : decode cX11_unit 27 = .ok (.aload_n 0, 1) := by decide +kernel
theorem dX11_unit_28 : decode cX11_unit 28 = .ok (.bipush 9, 2) := by decide +kernel
theorem dX11_unit_30 : decode cX11_unit 30 = .ok (.iconst 0, 1) := by decide +kernel
theorem dX11_unit_31 : decode cX11_unit 31 = .ok (.invokevirtual 134, 3) := by decide +kernel
theorem dX11_unit_34 : decode cX11_unit 34 = .ok (.aload_n 0, 1) := by decide +kernel
theorem dX11_unit_35 : decode cX11_unit 35 = .ok (.dup, 1) := by decide +kernel
theorem dX11_unit_36 : decode cX11_unit 36 = .ok (.getfield 118, 3) := by decide +kernel
theorem dX11_unit_39 : decode cX11_unit 39 = .ok (.iconst 1, 1) := by decide +kernel
theorem dX11_unit_40 : decode cX11_unit 40 = .ok (.isub, 1) := by decide +kernel
theorem dX11_unit_41 : decode cX11_unit 41 = .ok (.putfield 118, 3) := by decide +kernel
theorem dX11_unit_44 : decode cX11_unit 44 = .ok (.goto 50, 3) := by decide +kernel
theorem dX11_unit_47 : decode cX11_unit 47 = .ok (.iload_n 1, 1) := by decide +kernel
theorem dX11_unit_48 : decode cX11_unit 48 = .ok (.bipush 40, 2) := by decide +kernel
theorem dX11_unit_50 : decode cX11_unit 50 = .ok (.if_icmp .ne 28, 3) := by decide +kernel
theorem dX11_unit_53 : decode cX11_unit 53 = .ok (.aload_n 0, 1) := by decide +kernel
theorem dX11_unit_54 : decode cX11_unit 54 = .ok (.invokevirtual 142, 3) := by decide +kernel
theorem dX11_unit_57 : decode cX11_unit 57 = .ok (.aload_n 0, 1) := by decide +kernel
theorem dX11_unit_58 : decode cX11_unit 58 = .ok (.getfield 112, 3) := by decide +kernel
theorem dX11_unit_61 : decode cX11_unit 61 = .ok (.iconst (-1), 1) := by decide +kernel
theorem dX11_unit_62 : decode cX11_unit 62 = .ok (.if_icmp .ne 32, 3) := by decide +kernel
theorem dX11_unit_65 : decode cX11_unit 65 = .ok (.aload_n 0, 1) := by decide +kernel
theorem dX11_unit_66 : decode cX11_unit 66 = .ok (.invokevirtual 164, 3) := by decide +kernel
theorem dX11_unit_69 : decode cX11_unit 69 = .ok (.aload_n 0, 1) := by decide +kernel
theorem dX11_unit_70 : decode cX11_unit 70 = .ok (.bipush 41, 2) := by decide +kernel
theorem dX11_unit_72 : decode cX11_unit 72 = .ok (.invokevirtual 148, 3) := by decide +kernel
theorem dX11_unit_75 : decode cX11_unit 75 = .ok (.goto 19, 3) := by decide +kernel
theorem dX11_unit_78 : decode cX11_unit 78 = .ok (.aload_n 0, 1) := by decide +kernel
theorem dX11_unit_79 : decode cX11_unit 79 = .ok (.invokevirtual 145, 3) := by decide +kernel
theorem dX11_unit_82 : decode cX11_unit 82 = .ok (.aload_n 0, 1) := by decide +kernel
theorem dX11_unit_83 : decode cX11_unit 83 = .ok (.getfield 112, 3) := by decide +kernel
theorem dX11_unit_86 : decode cX11_unit 86 = .ok (.iconst (-1), 1) := by decide +kernel
theorem dX11_unit_87 : decode cX11_unit 87 = .ok (.if_icmp .ne 7, 3) := by decide +kernel
theorem dX11_unit_90 : decode cX11_unit 90 = .ok (.aload_n 0, 1) := by decide +kernel
theorem dX11_unit_91 : decode cX11_unit 91 = .ok (.invokevirtual 167, 3) := by decide +kernel
theorem dX11_unit_94 : decode cX11_unit 94 = .ok (.return_, 1) := by decide +kernel
theorem dX11_goOnAnd_0 : decode cX11_goOnAnd 0 = .ok (.aload_n 0, 1) := by decide +kernel
theorem dX11_goOnAnd_1 : decode cX11_goOnAnd 1 = .ok (.getfield 112, 3) := by decide +kernel
theorem dX11_goOnAnd_4 : decode cX11_goOnAnd 4 = .ok (.iconst (-1), 1) := by decide +kernel
theorem dX11_goOnAnd_5 : decode cX11_goOnAnd 5 = .ok (.if_icmp .ne 36, 3) := by decide +kernel
theorem dX11_goOnAnd_8 : decode cX11_goOnAnd 8 = .ok (.aload_n 0, 1) := by decide +kernel
theorem dX11_goOnAnd_9 : decode cX11_goOnAnd 9 = .ok (.invokevirtual 124, 3) := by decide +kernel
theorem dX11_goOnAnd_12 : decode cX11_goOnAnd 12 = .ok (.bipush 38, 2) := by decide +kernel
theorem dX11_goOnAnd_14 : decode cX11_goOnAnd 14 = .ok (.if_icmp .ne 27, 3) := by decide +kernel
theorem dX11_goOnAnd_17 : decode cX11_goOnAnd 17 = .ok (.aload_n 0, 1) := by decide +kernel
theorem dX11_goOnAnd_18 : decode cX11_goOnAnd 18 = .ok (.dup, 1) := by decide +kernel
theorem dX11_goOnAnd_19 : decode cX11_goOnAnd 19 = .ok (.getfield 105, 3) := by decide +kernel
theorem dX11_goOnAnd_22 : decode cX11_goOnAnd 22 = .ok (.iconst 1, 1) := by decide +kernel
theorem dX11_goOnAnd_23 : decode cX11_goOnAnd 23 = .ok (.iadd, 1) := by decide +kernel
theorem dX11_goOnAnd_24 : decode cX11_goOnAnd 24 = .ok (.putfield 105, 3) := by decide +kernel
theorem dX11_goOnAnd_27 : decode cX11_goOnAnd 27 = .ok (.aload_n 0, 1) := by decide +kernel
theorem dX11_goOnAnd_28 : decode cX11_goOnAnd 28 = .ok (.invokevirtual 161, 3) := by decide +kernel
theorem dX11_goOnAnd_31 : decode cX11_goOnAnd 31 = .ok (.aload_n 0, 1) := by decide +kernel
theorem dX11_goOnAnd_32 : decode cX11_goOnAnd 32 = .ok (.bipush 10, 2) := by decide +kernel
theorem dX11_goOnAnd_34 : decode cX11_goOnAnd 34 = .ok (.iconst 0, 1) := by decide +kernel
theorem dX11_goOnAnd_35 : decode cX11_goOnAnd 35 = .ok (.invokevirtual 134, 3) := by decide +kernel
theorem dX11_goOnAnd_38 : decode cX11_goOnAnd 38 = .ok (.goto (-38), 3) := by decide +kernel
theorem dX11_goOnAnd_41 : decode cX11_goOnAnd 41 = .ok (.return_, 1) := by decide +kernel
theorem dX11_goOnOr_0 : decode cX11_goOnOr 0 = .ok (.aload_n 0, 1) := by decide +kernel
theorem dX11_goOnOr_1 : decode cX11_goOnOr 1 = .ok (.getfield 112, 3) := by decide +kernel
theorem dX11_goOnOr_4 : decode cX11_goOnOr 4 = .ok (.iconst (-1), 1) := by decide +kernel
theorem dX11_goOnOr_5 : decode cX11_goOnOr 5 = .ok (.if_icmp .ne 40, 3) := by decide +kernel
theorem dX11_goOnOr_8 : decode cX11_goOnOr 8 = .ok (.aload_n 0, 1) := by decide +kernel
theorem dX11_goOnOr_9 : decode cX11_goOnOr 9 = .ok (.invokevirtual 124, 3) := by decide +kernel
theorem dX11_goOnOr_12 : decode cX11_goOnOr 12 = .ok (.bipush 124, 2) := by decide +kernel
theorem dX11_goOnOr_14 : decode cX11_goOnOr 14 = .ok (.if_icmp .ne 31, 3) := by decide +kernel
theorem dX11_goOnOr_17 : decode cX11_goOnOr 17 = .ok (.aload_n 0, 1) := by decide +kernel
theorem dX11_goOnOr_18 : decode cX11_goOnOr 18 = .ok (.dup, 1) := by decide +kernel
theorem dX11_goOnOr_19 : decode cX11_goOnOr 19 = .ok (.getfield 105, 3) := by decide +kernel
theorem dX11_goOnOr_22 : decode cX11_goOnOr 22 = .ok (.iconst 1, 1) := by decide +kernel
theorem dX11_goOnOr_23 : decode cX11_goOnOr 23 = .ok (.iadd, 1) := by decide +kernel
theorem dX11_goOnOr_24 : decode cX11_goOnOr 24 = .ok (.putfield 105, 3) := by decide +kernel
theorem dX11_goOnOr_27 : decode cX11_goOnOr 27 = .ok (.aload_n 0, 1) := by decide +kernel
theorem dX11_goOnOr_28 : decode cX11_goOnOr 28 = .ok (.invokevirtual 161, 3) := by decide +kernel
theorem dX11_goOnOr_31 : decode cX11_goOnOr 31 = .ok (.aload_n 0, 1) := by decide +kernel
theorem dX11_goOnOr_32 : decode cX11_goOnOr 32 = .ok (.invokevirtual 170, 3) := by decide +kernel
theorem dX11_goOnOr_35 : decode cX11_goOnOr 35 = .ok (.aload_n 0, 1) := by decide +kernel
theorem dX11_goOnOr_36 : decode cX11_goOnOr 36 = .ok (.bipush 11, 2) := by decide +kernel
theorem dX11_goOnOr_38 : decode cX11_goOnOr 38 = .ok (.iconst 0, 1) := by decide +kernel
theorem dX11_goOnOr_39 : decode cX11_goOnOr 39 = .ok (.invokevirtual 134, 3) := by decide +kernel
theorem dX11_goOnOr_42 : decode cX11_goOnOr 42 = .ok (.goto (-42), 3) := by decide +kernel
theorem dX11_goOnOr_45 : decode cX11_goOnOr 45 = .ok (.return_, 1) := by decide +kernel
theorem dX11_condition_0 : decode cX11_condition 0 = .ok (.aload_n 0, 1) := by decide +kernel
theorem dX11_condition_1 : decode cX11_condition 1 = .ok (.invokevirtual 161, 3) := by decide +kernel
theorem dX11_condition_4 : decode cX11_condition 4 = .ok (.aload_n 0, 1) := by decide +kernel
theorem dX11_condition_5 : decode cX11_condition 5 = .ok (.invokevirtual 170, 3) := by decide +kernel
theorem dX11_condition_8 : decode cX11_condition 8 = .ok (.aload_n 0, 1) := by decide +kernel
theorem dX11_condition_9 : decode cX11_condition 9 = .ok (.invokevirtual 173, 3) := by decide +kernel
theorem dX11_condition_12 : decode cX11_condition 12 = .ok (.return_, 1) := by decide +kernel
theorem dX11_clause_0 : decode cX11_clause 0 = .ok (.sipush 140, 3) := by decide +kernel
theorem dX11_clause_3 : decode cX11_clause 3 = .ok (.aload_n 0, 1) := by decide +kernel
theorem dX11_clause_4 : decode cX11_clause 4 = .ok (.getfield 115, 3) := by decide +kernel
theorem dX11_clause_7 : decode cX11_clause 7 = .ok (.imul, 1) := by decide +kernel
theorem dX11_clause_8 : decode cX11_clause 8 = .ok (.aload_n 0, 1) := by decide +kernel
theorem dX11_clause_9 : decode cX11_clause 9 = .ok (.getfield 22, 3) := by decide +kernel
theorem dX11_clause_12 : decode cX11_clause 12 = .ok (.aload_n 0, 1) := by decide +kernel
theorem dX11_clause_13 : decode cX11_clause 13 = .ok (.getfield 115, 3) := by decide +kernel
theorem dX11_clause_16 : decode cX11_clause 16 = .ok (.iaload, 1) := by decide +kernel
theorem dX11_clause_17 : decode cX11_clause 17 = .ok (.iadd, 1) := by decide +kernel
theorem dX11_clause_18 : decode cX11_clause 18 = .ok (.istore_n 1, 1) := by decide +kernel
theorem dX11_clause_19 : decode cX11_clause 19 = .ok (.aload_n 0, 1) := by decide +kernel
theorem dX11_clause_20 : decode cX11_clause 20 = .ok (.getfield 112, 3) := by decide +kernel
theorem dX11_clause_23 : decode cX11_clause 23 = .ok (.iconst (-1), 1) := by decide +kernel
theorem dX11_clause_24 : decode cX11_clause 24 = .ok (.if_icmp .ne 16, 3) := by decide +kernel
theorem dX11_clause_27 : decode cX11_clause 27 = .ok (.aload_n 0, 1) := by decide +kernel
theorem dX11_clause_28 : decode cX11_clause 28 = .ok (.invokevirtual 124, 3) := by decide +kernel
theorem dX11_clause_31 : decode cX11_clause 31 = .ok (.bipush 121, 2) := by decide +kernel
theorem dX11_clause_33 : decode cX11_clause 33 = .ok (.if_icmp .eq 7, 3) := by decide +kernel
theorem dX11_clause_36 : decode cX11_clause 36 = .ok (.aload_n 0, 1) := by decide +kernel
theorem dX11_clause_37 : decode cX11_clause 37 = .ok (.invokevirtual 121, 3) := by decide +kernel
theorem dX11_clause_40 : decode cX11_clause 40 = .ok (.aload_n 0, 1) := by decide +kernel
theorem dX11_clause_41 : decode cX11_clause 41 = .ok (.dup, 1) := by decide +kernel
theorem dX11_clause_42 : decode cX11_clause 42 = .ok (.getfield 105, 3) := by decide +kernel
theorem dX11_clause_45 : decode cX11_clause 45 = .ok (.iconst 1, 1) := by decide +kernel
theorem dX11_clause_46 : decode cX11_clause 46 = .ok (.iadd, 1) := by decide +kernel
theorem dX11_clause_47 : decode cX11_clause 47 = .ok (.putfield 105, 3) := by decide +kernel
theorem dX11_clause_50 : decode cX11_clause 50 = .ok (.aload_n 0, 1) := by decide +kernel
theorem dX11_clause_51 : decode cX11_clause 51 = .ok (.getfield 112, 3) := by decide +kernel
theorem dX11_clause_54 : decode cX11_clause 54 = .ok (.iconst (-1), 1) := by decide +kernel
theorem dX11_clause_55 : decode cX11_clause 55 = .ok (.if_icmp .ne 16, 3) := by decide +kernel
theorem dX11_clause_58 : decode cX11_clause 58 = .ok (.aload_n 0, 1) := by decide +kernel
theorem dX11_clause_59 : decode cX11_clause 59 = .ok (.invokevirtual 124, 3) := by decide +kernel
theorem dX11_clause_62 : decode cX11_clause 62 = .ok (.bipush 58, 2) := by decide +kernel
theorem dX11_clause_64 : decode cX11_clause 64 = .ok (.if_icmp .eq 7, 3) := by decide +kernel
theorem dX11_clause_67 : decode cX11_clause 67 = .ok (.aload_n 0, 1) := by decide +kernel
theorem dX11_clause_68 : decode cX11_clause 68 = .ok (.invokevirtual 121, 3) := by decide +kernel
theorem dX11_clause_71 : decode cX11_clause 71 = .ok (.aload_n 0, 1) := by decide +kernel
theorem dX11_clause_72 : decode cX11_clause 72 = .ok (.dup, 1) := by decide +kernel
theorem dX11_clause_73 : decode cX11_clause 73 = .ok (.getfield 105, 3) := by decide +kernel
theorem dX11_clause_76 : decode cX11_clause 76 = .ok (.iconst 1, 1) := by decide +kernel
theorem dX11_clause_77 : decode cX11_clause 77 = .ok (.iadd, 1) := by decide +kernel
theorem dX11_clause_78 : decode cX11_clause 78 = .ok (.putfield 105, 3) := by decide +kernel
theorem dX11_clause_81 : decode cX11_clause 81 = .ok (.aload_n 0, 1) := by decide +kernel
theorem dX11_clause_82 : decode cX11_clause 82 = .ok (.getfield 112, 3) := by decide +kernel
theorem dX11_clause_85 : decode cX11_clause 85 = .ok (.iconst (-1), 1) := by decide +kernel
theorem dX11_clause_86 : decode cX11_clause 86 = .ok (.if_icmp .eq 4, 3) := by decide +kernel
theorem dX11_clause_89 : decode cX11_clause 89 = .ok (.return_, 1) := by decide +kernel
theorem dX11_clause_90 : decode cX11_clause 90 = .ok (.aload_n 0, 1) := by decide +kernel
theorem dX11_clause_91 : decode cX11_clause 91 = .ok (.getfield 25, 3) := by decide +kernel
theorem dX11_clause_94 : decode cX11_clause 94 = .ok (.iload_n 1, 1) := by decide +kernel
theorem dX11_clause_95 : decode cX11_clause 95 = .ok (.aload_n 0, 1) := by decide +kernel
theorem dX11_clause_96 : decode cX11_clause 96 = .ok (.getfield 19, 3) := by decide +kernel
theorem dX11_clause_99 : decode cX11_clause 99 = .ok (.aload_n 0, 1) := by decide +kernel
theorem dX11_clause_100 : decode cX11_clause 100 = .ok (.getfield 115, 3) := by decide +kernel
theorem dX11_clause_103 : decode cX11_clause 103 = .ok (.iaload, 1) := by decide +kernel
theorem dX11_clause_104 : decode cX11_clause 104 = .ok (.iastore, 1) := by decide +kernel
theorem dX11_clause_105 : decode cX11_clause 105 = .ok (.aload_n 0, 1) := by decide +kernel
theorem dX11_clause_106 : decode cX11_clause 106 = .ok (.invokevirtual 124, 3) := by decide +kernel
theorem dX11_clause_109 : decode cX11_clause 109 = .ok (.bipush 33, 2) := by decide +kernel
theorem dX11_clause_111 : decode cX11_clause 111 = .ok (.if_icmp .eq 12, 3) := by decide +kernel
theorem dX11_clause_114 : decode cX11_clause 114 = .ok (.aload_n 0, 1) := by decide +kernel
theorem dX11_clause_115 : decode cX11_clause 115 = .ok (.invokevirtual 124, 3) := by decide +kernel
theorem dX11_clause_118 : decode cX11_clause 118 = .ok (.bipush 40, 2) := by decide +kernel
theorem dX11_clause_120 : decode cX11_clause 120 = .ok (.if_icmp .ne 7, 3) := by decide +kernel
theorem dX11_clause_123 : decode cX11_clause 123 = .ok (.iconst 1, 1) := by decide +kernel
theorem dX11_clause_124 : decode cX11_clause 124 = .ok (.goto 4, 3) := by decide +kernel
theorem dX11_clause_127 : decode cX11_clause 127 = .ok (.iconst 0, 1) := by decide +kernel
theorem dX11_clause_128 : decode cX11_clause 128 = .ok (.istore_n 2, 1) := by decide +kernel
theorem dX11_clause_129 : decode cX11_clause 129 = .ok (.iload_n 2, 1) := by decide +kernel
theorem dX11_clause_130 : decode cX11_clause 130 = .ok (.ifCond .eq 10, 3) := by decide +kernel
theorem dX11_clause_133 : decode cX11_clause 133 = .ok (.aload_n 0, 1) := by decide +kernel
theorem dX11_clause_134 : decode cX11_clause 134 = .ok (.invokevirtual 164, 3) := by decide +kernel
theorem dX11_clause_137 : decode cX11_clause 137 = .ok (.goto 47, 3) := by decide +kernel
theorem dX11_clause_140 : decode cX11_clause 140 = .ok (.aload_n 0, 1) := by decide +kernel
theorem dX11_clause_141 : decode cX11_clause 141 = .ok (.invokevirtual 145, 3) := by decide +kernel
theorem dX11_clause_144 : decode cX11_clause 144 = .ok (.aload_n 0, 1) := by decide +kernel
theorem dX11_clause_145 : decode cX11_clause 145 = .ok (.getfield 112, 3) := by decide +kernel
theorem dX11_clause_148 : decode cX11_clause 148 = .ok (.iconst (-1), 1) := by decide +kernel
theorem dX11_clause_149 : decode cX11_clause 149 = .ok (.if_icmp .ne 17, 3) := by decide +kernel
theorem dX11_clause_152 : decode cX11_clause 152 = .ok (.aload_n 0, 1) := by decide +kernel
theorem dX11_clause_153 : decode cX11_clause 153 = .ok (.invokevirtual 124, 3) := by decide +kernel
theorem dX11_clause_156 : decode cX11_clause 156 = .ok (.invokestatic 158, 3) := by decide +kernel
theorem dX11_clause_159 : decode cX11_clause 159 = .ok (.ifCond .eq 7, 3) := by decide +kernel
theorem dX11_clause_162 : decode cX11_clause 162 = .ok (.iconst 1, 1) := by decide +kernel
theorem dX11_clause_163 : decode cX11_clause 163 = .ok (.goto 4, 3) := by decide +kernel
theorem dX11_clause_166 : decode cX11_clause 166 = .ok (.iconst 0, 1) := by decide +kernel
theorem dX11_clause_167 : decode cX11_clause 167 = .ok (.istore_n 2, 1) := by decide +kernel
theorem dX11_clause_168 : decode cX11_clause 168 = .ok (.iload_n 2, 1) := by decide +kernel
theorem dX11_clause_169 : decode cX11_clause 169 = .ok (.ifCond .eq 15, 3) := by decide +kernel
theorem dX11_clause_172 : decode cX11_clause 172 = .ok (.aload_n 0, 1) := by decide +kernel
theorem dX11_clause_173 : decode cX11_clause 173 = .ok (.invokevirtual 167, 3) := by decide +kernel
theorem dX11_clause_176 : decode cX11_clause 176 = .ok (.aload_n 0, 1) := by decide +kernel
theorem dX11_clause_177 : decode cX11_clause 177 = .ok (.invokevirtual 170, 3) := by decide +kernel
theorem dX11_clause_180 : decode cX11_clause 180 = .ok (.aload_n 0, 1) := by decide +kernel
theorem dX11_clause_181 : decode cX11_clause 181 = .ok (.invokevirtual 173, 3) := by decide +kernel
theorem dX11_clause_184 : decode cX11_clause 184 = .ok (.aload_n 0, 1) := by decide +kernel
theorem dX11_clause_185 : decode cX11_clause 185 = .ok (.getfield 28, 3) := by decide +kernel
theorem dX11_clause_188 : decode cX11_clause 188 = .ok (.iload_n 1, 1) := by decide +kernel
theorem dX11_clause_189 : decode cX11_clause 189 = .ok (.aload_n 0, 1) := by decide +kernel
theorem dX11_clause_190 : decode cX11_clause 190 = .ok (.getfield 25, 3) := by decide +kernel
theorem dX11_clause_193 : decode cX11_clause 193 = .ok (.iload_n 1, 1) := by decide +kernel
theorem dX11_clause_194 : decode cX11_clause 194 = .ok (.iaload, 1) := by decide +kernel
theorem dX11_clause_195 : decode cX11_clause 195 = .ok (.iastore, 1) := by decide +kernel
theorem dX11_clause_196 : decode cX11_clause 196 = .ok (.iload_n 2, 1) := by decide +kernel
theorem dX11_clause_197 : decode cX11_clause 197 = .ok (.ifCond .eq 54, 3) := by decide +kernel
theorem dX11_clause_200 : decode cX11_clause 200 = .ok (.aload_n 0, 1) := by decide +kernel
theorem dX11_clause_201 : decode cX11_clause 201 = .ok (.getfield 112, 3) := by decide +kernel
theorem dX11_clause_204 : decode cX11_clause 204 = .ok (.iconst (-1), 1) := by decide +kernel
theorem dX11_clause_205 : decode cX11_clause 205 = .ok (.if_icmp .ne 46, 3) := by decide +kernel
theorem dX11_clause_208 : decode cX11_clause 208 = .ok (.aload_n 0, 1) := by decide +kernel
theorem dX11_clause_209 : decode cX11_clause 209 = .ok (.invokevirtual 124, 3) := by decide +kernel
theorem dX11_clause_212 : decode cX11_clause 212 = .ok (.bipush 63, 2) := by decide +kernel
theorem dX11_clause_214 : decode cX11_clause 214 = .ok (.if_icmp .eq 8, 3) := by decide +kernel
theorem dX11_clause_217 : decode cX11_clause 217 = .ok (.aload_n 0, 1) := by decide +kernel
theorem dX11_clause_218 : decode cX11_clause 218 = .ok (.invokevirtual 121, 3) := by decide +kernel
theorem dX11_clause_221 : decode cX11_clause 221 = .ok (.return_, 1) := by decide +kernel
theorem dX11_clause_222 : decode cX11_clause 222 = .ok (.aload_n 0, 1) := by decide +kernel
theorem dX11_clause_223 : decode cX11_clause 223 = .ok (.dup, 1) := by decide +kernel
theorem dX11_clause_224 : decode cX11_clause 224 = .ok (.getfield 105, 3) := by decide +kernel
theorem dX11_clause_227 : decode cX11_clause 227 = .ok (.iconst 1, 1) := by decide +kernel
theorem dX11_clause_228 : decode cX11_clause 228 = .ok (.iadd, 1) := by decide +kernel
theorem dX11_clause_229 : decode cX11_clause 229 = .ok (.putfield 105, 3) := by decide +kernel
theorem dX11_clause_232 : decode cX11_clause 232 = .ok (.aload_n 0, 1) := by decide +kernel
theorem dX11_clause_233 : decode cX11_clause 233 = .ok (.getfield 28, 3) := by decide +kernel
theorem dX11_clause_236 : decode cX11_clause 236 = .ok (.iload_n 1, 1) := by decide +kernel
theorem dX11_clause_237 : decode cX11_clause 237 = .ok (.aload_n 0, 1) := by decide +kernel
theorem dX11_clause_238 : decode cX11_clause 238 = .ok (.getfield 19, 3) := by decide +kernel
theorem dX11_clause_241 : decode cX11_clause 241 = .ok (.aload_n 0, 1) := by decide +kernel
theorem dX11_clause_242 : decode cX11_clause 242 = .ok (.getfield 115, 3) := by decide +kernel
theorem dX11_clause_245 : decode cX11_clause 245 = .ok (.iaload, 1) := by decide +kernel
theorem dX11_clause_246 : decode cX11_clause 246 = .ok (.iastore, 1) := by decide +kernel
theorem dX11_clause_247 : decode cX11_clause 247 = .ok (.aload_n 0, 1) := by decide +kernel
theorem dX11_clause_248 : decode cX11_clause 248 = .ok (.invokevirtual 145, 3) := by decide +kernel
theorem dX11_clause_251 : decode cX11_clause 251 = .ok (.aload_n 0, 1) := by decide +kernel
theorem dX11_clause_252 : decode cX11_clause 252 = .ok (.getfield 31, 3) := by decide +kernel
theorem dX11_clause_255 : decode cX11_clause 255 = .ok (.iload_n 1, 1) := by decide +kernel
theorem dX11_clause_256 : decode cX11_clause 256 = .ok (.aload_n 0, 1) := by decide +kernel
theorem dX11_clause_257 : decode cX11_clause 257 = .ok (.getfield 19, 3) := by decide +kernel
theorem dX11_clause_260 : decode cX11_clause 260 = .ok (.aload_n 0, 1) := by decide +kernel
theorem dX11_clause_261 : decode cX11_clause 261 = .ok (.getfield 115, 3) := by decide +kernel
theorem dX11_clause_264 : decode cX11_clause 264 = .ok (.iaload, 1) := by decide +kernel
theorem dX11_clause_265 : decode cX11_clause 265 = .ok (.iastore, 1) := by decide +kernel
theorem dX11_clause_266 : decode cX11_clause 266 = .ok (.aload_n 0, 1) := by decide +kernel
theorem dX11_clause_267 : decode cX11_clause 267 = .ok (.getfield 22, 3) := by decide +kernel
theorem dX11_clause_270 : decode cX11_clause 270 = .ok (.aload_n 0, 1) := by decide +kernel
theorem dX11_clause_271 : decode cX11_clause 271 = .ok (.getfield 115, 3) := by decide +kernel
theorem dX11_clause_274 : decode cX11_clause 274 = .ok (.dup2, 1) := by decide +kernel
theorem dX11_clause_275 : decode cX11_clause 275 = .ok (.iaload, 1) := by decide +kernel
theorem dX11_clause_276 : decode cX11_clause 276 = .ok (.iconst 1, 1) := by decide +kernel
theorem dX11_clause_277 : decode cX11_clause 277 = .ok (.iadd, 1) := by decide +kernel
theorem dX11_clause_278 : decode cX11_clause 278 = .ok (.iastore, 1) := by decide +kernel
theorem dX11_clause_279 : decode cX11_clause 279 = .ok (.return_, 1) := by decide +kernel
theorem dX11_open_0 : decode cX11_open 0 = .ok (.aload_n 0, 1) := by decide +kernel
theorem dX11_open_1 : decode cX11_open 1 = .ok (.iload_n 1, 1) := by decide +kernel
theorem dX11_open_2 : decode cX11_open 2 = .ok (.putfield 115, 3) := by decide +kernel
theorem dX11_open_5 : decode cX11_open 5 = .ok (.aload_n 0, 1) := by decide +kernel
theorem dX11_open_6 : decode cX11_open 6 = .ok (.iconst 0, 1) := by decide +kernel
theorem dX11_open_7 : decode cX11_open 7 = .ok (.putfield 105, 3) := by decide +kernel
theorem dX11_open_10 : decode cX11_open 10 = .ok (.aload_n 0, 1) := by decide +kernel
theorem dX11_open_11 : decode cX11_open 11 = .ok (.iconst (-1), 1) := by decide +kernel
theorem dX11_open_12 : decode cX11_open 12 = .ok (.putfield 112, 3) := by decide +kernel
theorem dX11_open_15 : decode cX11_open 15 = .ok (.aload_n 0, 1) := by decide +kernel
theorem dX11_open_16 : decode cX11_open 16 = .ok (.iconst 0, 1) := by decide +kernel
theorem dX11_open_17 : decode cX11_open 17 = .ok (.putfield 118, 3) := by decide +kernel
theorem dX11_open_20 : decode cX11_open 20 = .ok (.aload_n 0, 1) := by decide +kernel
theorem dX11_open_21 : decode cX11_open 21 = .ok (.getfield 19, 3) := by decide +kernel
theorem dX11_open_24 : decode cX11_open 24 = .ok (.iload_n 1, 1) := by decide +kernel
theorem dX11_open_25 : decode cX11_open 25 = .ok (.iconst 0, 1) := by decide +kernel
theorem dX11_open_26 : decode cX11_open 26 = .ok (.iastore, 1) := by decide +kernel
theorem dX11_open_27 : decode cX11_open 27 = .ok (.aload_n 0, 1) := by decide +kernel
theorem dX11_open_28 : decode cX11_open 28 = .ok (.getfield 22, 3) := by decide +kernel
theorem dX11_open_31 : decode cX11_open 31 = .ok (.iload_n 1, 1) := by decide +kernel
theorem dX11_open_32 : decode cX11_open 32 = .ok (.iconst 0, 1) := by decide +kernel
theorem dX11_open_33 : decode cX11_open 33 = .ok (.iastore, 1) := by decide +kernel
theorem dX11_open_34 : decode cX11_open 34 = .ok (.return_, 1) := by decide +kernel
theorem dX11_atEnd_0 : decode cX11_atEnd 0 = .ok (.aload_n 0, 1) := by decide +kernel
theorem dX11_atEnd_1 : decode cX11_atEnd 1 = .ok (.getfield 112, 3) := by decide +kernel
theorem dX11_atEnd_4 : decode cX11_atEnd 4 = .ok (.iconst (-1), 1) := by decide +kernel
theorem dX11_atEnd_5 : decode cX11_atEnd 5 = .ok (.if_icmp .ne 15, 3) := by decide +kernel
theorem dX11_atEnd_8 : decode cX11_atEnd 8 = .ok (.aload_n 0, 1) := by decide +kernel
theorem dX11_atEnd_9 : decode cX11_atEnd 9 = .ok (.invokevirtual 124, 3) := by decide +kernel
theorem dX11_atEnd_12 : decode cX11_atEnd 12 = .ok (.iconst (-1), 1) := by decide +kernel
theorem dX11_atEnd_13 : decode cX11_atEnd 13 = .ok (.if_icmp .eq 7, 3) := by decide +kernel
theorem dX11_atEnd_16 : decode cX11_atEnd 16 = .ok (.aload_n 0, 1) := by decide +kernel
theorem dX11_atEnd_17 : decode cX11_atEnd 17 = .ok (.invokevirtual 121, 3) := by decide +kernel
theorem dX11_atEnd_20 : decode cX11_atEnd 20 = .ok (.aload_n 0, 1) := by decide +kernel
theorem dX11_atEnd_21 : decode cX11_atEnd 21 = .ok (.getfield 112, 3) := by decide +kernel
theorem dX11_atEnd_24 : decode cX11_atEnd 24 = .ok (.ireturn, 1) := by decide +kernel
theorem dX11_readLaw_0 : decode cX11_readLaw 0 = .ok (.aload_n 0, 1) := by decide +kernel
theorem dX11_readLaw_1 : decode cX11_readLaw 1 = .ok (.iload_n 1, 1) := by decide +kernel
theorem dX11_readLaw_2 : decode cX11_readLaw 2 = .ok (.invokevirtual 176, 3) := by decide +kernel
theorem dX11_readLaw_5 : decode cX11_readLaw 5 = .ok (.aload_n 0, 1) := by decide +kernel
theorem dX11_readLaw_6 : decode cX11_readLaw 6 = .ok (.invokevirtual 179, 3) := by decide +kernel
theorem dX11_readLaw_9 : decode cX11_readLaw 9 = .ok (.aload_n 0, 1) := by decide +kernel
theorem dX11_readLaw_10 : decode cX11_readLaw 10 = .ok (.getfield 112, 3) := by decide +kernel
theorem dX11_readLaw_13 : decode cX11_readLaw 13 = .ok (.iconst (-1), 1) := by decide +kernel
theorem dX11_readLaw_14 : decode cX11_readLaw 14 = .ok (.if_icmp .ne 29, 3) := by decide +kernel
theorem dX11_readLaw_17 : decode cX11_readLaw 17 = .ok (.aload_n 0, 1) := by decide +kernel
theorem dX11_readLaw_18 : decode cX11_readLaw 18 = .ok (.invokevirtual 124, 3) := by decide +kernel
theorem dX11_readLaw_21 : decode cX11_readLaw 21 = .ok (.bipush 59, 2) := by decide +kernel
theorem dX11_readLaw_23 : decode cX11_readLaw 23 = .ok (.if_icmp .ne 20, 3) := by decide +kernel
theorem dX11_readLaw_26 : decode cX11_readLaw 26 = .ok (.aload_n 0, 1) := by decide +kernel
theorem dX11_readLaw_27 : decode cX11_readLaw 27 = .ok (.dup, 1) := by decide +kernel
theorem dX11_readLaw_28 : decode cX11_readLaw 28 = .ok (.getfield 105, 3) := by decide +kernel
theorem dX11_readLaw_31 : decode cX11_readLaw 31 = .ok (.iconst 1, 1) := by decide +kernel
theorem dX11_readLaw_32 : decode cX11_readLaw 32 = .ok (.iadd, 1) := by decide +kernel
theorem dX11_readLaw_33 : decode cX11_readLaw 33 = .ok (.putfield 105, 3) := by decide +kernel
theorem dX11_readLaw_36 : decode cX11_readLaw 36 = .ok (.aload_n 0, 1) := by decide +kernel
theorem dX11_readLaw_37 : decode cX11_readLaw 37 = .ok (.invokevirtual 179, 3) := by decide +kernel
theorem dX11_readLaw_40 : decode cX11_readLaw 40 = .ok (.goto (-31), 3) := by decide +kernel
theorem dX11_readLaw_43 : decode cX11_readLaw 43 = .ok (.aload_n 0, 1) := by decide +kernel
theorem dX11_readLaw_44 : decode cX11_readLaw 44 = .ok (.invokevirtual 182, 3) := by decide +kernel
theorem dX11_readLaw_47 : decode cX11_readLaw 47 = .ok (.ireturn, 1) := by decide +kernel
theorem dX11_bounded_0 : decode cX11_bounded 0 = .ok (.ldc2_w 185, 3) := by decide +kernel
theorem dX11_bounded_3 : decode cX11_bounded 3 = .ok (.ldc2_w 187, 3) := by decide +kernel
theorem dX11_bounded_6 : decode cX11_bounded 6 = .ok (.lload_n 0, 1) := by decide +kernel
theorem dX11_bounded_7 : decode cX11_bounded 7 = .ok (.invokestatic 189, 3) := by decide +kernel
theorem dX11_bounded_10 : decode cX11_bounded 10 = .ok (.invokestatic 195, 3) := by decide +kernel
theorem dX11_bounded_13 : decode cX11_bounded 13 = .ok (.l2i, 1) := by decide +kernel
theorem dX11_bounded_14 : decode cX11_bounded 14 = .ok (.ireturn, 1) := by decide +kernel
theorem dX11_worked_0 : decode cX11_worked 0 = .ok (.iload_n 0, 1) := by decide +kernel
theorem dX11_worked_1 : decode cX11_worked 1 = .ok (.tableswitch 143 2 10 #[51, 58, 65, 72, 89, 101, 113, 143, 125], 51) := by decide +kernel
theorem dX11_worked_52 : decode cX11_worked 52 = .ok (.lload_n 1, 1) := by decide +kernel
theorem dX11_worked_53 : decode cX11_worked 53 = .ok (.lload_n 3, 1) := by decide +kernel
theorem dX11_worked_54 : decode cX11_worked 54 = .ok (.ladd, 1) := by decide +kernel
theorem dX11_worked_55 : decode cX11_worked 55 = .ok (.invokestatic 198, 3) := by decide +kernel
theorem dX11_worked_58 : decode cX11_worked 58 = .ok (.ireturn, 1) := by decide +kernel
theorem dX11_worked_59 : decode cX11_worked 59 = .ok (.lload_n 1, 1) := by decide +kernel
theorem dX11_worked_60 : decode cX11_worked 60 = .ok (.lload_n 3, 1) := by decide +kernel
theorem dX11_worked_61 : decode cX11_worked 61 = .ok (.lsub, 1) := by decide +kernel
theorem dX11_worked_62 : decode cX11_worked 62 = .ok (.invokestatic 198, 3) := by decide +kernel
theorem dX11_worked_65 : decode cX11_worked 65 = .ok (.ireturn, 1) := by decide +kernel
theorem dX11_worked_66 : decode cX11_worked 66 = .ok (.lload_n 1, 1) := by decide +kernel
theorem dX11_worked_67 : decode cX11_worked 67 = .ok (.lload_n 3, 1) := by decide +kernel
theorem dX11_worked_68 : decode cX11_worked 68 = .ok (.lmul, 1) := by decide +kernel
theorem dX11_worked_69 : decode cX11_worked 69 = .ok (.invokestatic 198, 3) := by decide +kernel
theorem dX11_worked_72 : decode cX11_worked 72 = .ok (.ireturn, 1) := by decide +kernel
theorem dX11_worked_73 : decode cX11_worked 73 = .ok (.lload_n 3, 1) := by decide +kernel
theorem dX11_worked_74 : decode cX11_worked 74 = .ok (.lconst 0, 1) := by decide +kernel
theorem dX11_worked_75 : decode cX11_worked 75 = .ok (.lcmp, 1) := by decide +kernel
theorem dX11_worked_76 : decode cX11_worked 76 = .ok (.ifCond .ne 7, 3) := by decide +kernel
theorem dX11_worked_79 : decode cX11_worked 79 = .ok (.iconst 0, 1) := by decide +kernel
theorem dX11_worked_80 : decode cX11_worked 80 = .ok (.goto 9, 3) := by decide +kernel
theorem dX11_worked_83 : decode cX11_worked 83 = .ok (.lload_n 1, 1) := by decide +kernel
theorem dX11_worked_84 : decode cX11_worked 84 = .ok (.lload_n 3, 1) := by decide +kernel
theorem dX11_worked_85 : decode cX11_worked 85 = .ok (.ldiv, 1) := by decide +kernel
theorem dX11_worked_86 : decode cX11_worked 86 = .ok (.invokestatic 198, 3) := by decide +kernel
theorem dX11_worked_89 : decode cX11_worked 89 = .ok (.ireturn, 1) := by decide +kernel
theorem dX11_worked_90 : decode cX11_worked 90 = .ok (.lload_n 1, 1) := by decide +kernel
theorem dX11_worked_91 : decode cX11_worked 91 = .ok (.lload_n 3, 1) := by decide +kernel
theorem dX11_worked_92 : decode cX11_worked 92 = .ok (.lcmp, 1) := by decide +kernel
theorem dX11_worked_93 : decode cX11_worked 93 = .ok (.ifCond .ne 7, 3) := by decide +kernel
theorem dX11_worked_96 : decode cX11_worked 96 = .ok (.iconst 1, 1) := by decide +kernel
theorem dX11_worked_97 : decode cX11_worked 97 = .ok (.goto 4, 3) := by decide +kernel
theorem dX11_worked_100 : decode cX11_worked 100 = .ok (.iconst 0, 1) := by decide +kernel
theorem dX11_worked_101 : decode cX11_worked 101 = .ok (.ireturn, 1) := by decide +kernel
theorem dX11_worked_102 : decode cX11_worked 102 = .ok (.lload_n 1, 1) := by decide +kernel
theorem dX11_worked_103 : decode cX11_worked 103 = .ok (.lload_n 3, 1) := by decide +kernel
theorem dX11_worked_104 : decode cX11_worked 104 = .ok (.lcmp, 1) := by decide +kernel
theorem dX11_worked_105 : decode cX11_worked 105 = .ok (.ifCond .ge 7, 3) := by decide +kernel
theorem dX11_worked_108 : decode cX11_worked 108 = .ok (.iconst 1, 1) := by decide +kernel
theorem dX11_worked_109 : decode cX11_worked 109 = .ok (.goto 4, 3) := by decide +kernel
theorem dX11_worked_112 : decode cX11_worked 112 = .ok (.iconst 0, 1) := by decide +kernel
theorem dX11_worked_113 : decode cX11_worked 113 = .ok (.ireturn, 1) := by decide +kernel
theorem dX11_worked_114 : decode cX11_worked 114 = .ok (.lload_n 1, 1) := by decide +kernel
theorem dX11_worked_115 : decode cX11_worked 115 = .ok (.lload_n 3, 1) := by decide +kernel
theorem dX11_worked_116 : decode cX11_worked 116 = .ok (.lcmp, 1) := by decide +kernel
theorem dX11_worked_117 : decode cX11_worked 117 = .ok (.ifCond .le 7, 3) := by decide +kernel
theorem dX11_worked_120 : decode cX11_worked 120 = .ok (.iconst 1, 1) := by decide +kernel
theorem dX11_worked_121 : decode cX11_worked 121 = .ok (.goto 4, 3) := by decide +kernel
theorem dX11_worked_124 : decode cX11_worked 124 = .ok (.iconst 0, 1) := by decide +kernel
theorem dX11_worked_125 : decode cX11_worked 125 = .ok (.ireturn, 1) := by decide +kernel
theorem dX11_worked_126 : decode cX11_worked 126 = .ok (.lload_n 1, 1) := by decide +kernel
theorem dX11_worked_127 : decode cX11_worked 127 = .ok (.lconst 0, 1) := by decide +kernel
theorem dX11_worked_128 : decode cX11_worked 128 = .ok (.lcmp, 1) := by decide +kernel
theorem dX11_worked_129 : decode cX11_worked 129 = .ok (.ifCond .eq 13, 3) := by decide +kernel
theorem dX11_worked_132 : decode cX11_worked 132 = .ok (.lload_n 3, 1) := by decide +kernel
theorem dX11_worked_133 : decode cX11_worked 133 = .ok (.lconst 0, 1) := by decide +kernel
theorem dX11_worked_134 : decode cX11_worked 134 = .ok (.lcmp, 1) := by decide +kernel
theorem dX11_worked_135 : decode cX11_worked 135 = .ok (.ifCond .eq 7, 3) := by decide +kernel
theorem dX11_worked_138 : decode cX11_worked 138 = .ok (.iconst 1, 1) := by decide +kernel
theorem dX11_worked_139 : decode cX11_worked 139 = .ok (.goto 4, 3) := by decide +kernel
theorem dX11_worked_142 : decode cX11_worked 142 = .ok (.iconst 0, 1) := by decide +kernel
theorem dX11_worked_143 : decode cX11_worked 143 = .ok (.ireturn, 1) := by decide +kernel
theorem dX11_worked_144 : decode cX11_worked 144 = .ok (.lload_n 1, 1) := by decide +kernel
theorem dX11_worked_145 : decode cX11_worked 145 = .ok (.lconst 0, 1) := by decide +kernel
theorem dX11_worked_146 : decode cX11_worked 146 = .ok (.lcmp, 1) := by decide +kernel
theorem dX11_worked_147 : decode cX11_worked 147 = .ok (.ifCond .ne 9, 3) := by decide +kernel
theorem dX11_worked_150 : decode cX11_worked 150 = .ok (.lload_n 3, 1) := by decide +kernel
theorem dX11_worked_151 : decode cX11_worked 151 = .ok (.lconst 0, 1) := by decide +kernel
theorem dX11_worked_152 : decode cX11_worked 152 = .ok (.lcmp, 1) := by decide +kernel
theorem dX11_worked_153 : decode cX11_worked 153 = .ok (.ifCond .eq 7, 3) := by decide +kernel
theorem dX11_worked_156 : decode cX11_worked 156 = .ok (.iconst 1, 1) := by decide +kernel
theorem dX11_worked_157 : decode cX11_worked 157 = .ok (.goto 4, 3) := by decide +kernel
theorem dX11_worked_160 : decode cX11_worked 160 = .ok (.iconst 0, 1) := by decide +kernel
theorem dX11_worked_161 : decode cX11_worked 161 = .ok (.ireturn, 1) := by decide +kernel
theorem dX11_workOut_0 : decode cX11_workOut 0 = .ok (.iconst 0, 1) := by decide +kernel
theorem dX11_workOut_1 : decode cX11_workOut 1 = .ok (.istore 4, 2) := by decide +kernel
theorem dX11_workOut_3 : decode cX11_workOut 3 = .ok (.sipush 520, 3) := by decide +kernel
theorem dX11_workOut_6 : decode cX11_workOut 6 = .ok (.iload_n 1, 1) := by decide +kernel
theorem dX11_workOut_7 : decode cX11_workOut 7 = .ok (.imul, 1) := by decide +kernel
theorem dX11_workOut_8 : decode cX11_workOut 8 = .ok (.iload_n 2, 1) := by decide +kernel
theorem dX11_workOut_9 : decode cX11_workOut 9 = .ok (.iadd, 1) := by decide +kernel
theorem dX11_workOut_10 : decode cX11_workOut 10 = .ok (.istore 5, 2) := by decide +kernel
theorem dX11_workOut_12 : decode cX11_workOut 12 = .ok (.iload 5, 2) := by decide +kernel
theorem dX11_workOut_14 : decode cX11_workOut 14 = .ok (.sipush 520, 3) := by decide +kernel
theorem dX11_workOut_17 : decode cX11_workOut 17 = .ok (.iload_n 1, 1) := by decide +kernel
theorem dX11_workOut_18 : decode cX11_workOut 18 = .ok (.imul, 1) := by decide +kernel
theorem dX11_workOut_19 : decode cX11_workOut 19 = .ok (.iload_n 3, 1) := by decide +kernel
theorem dX11_workOut_20 : decode cX11_workOut 20 = .ok (.iadd, 1) := by decide +kernel
theorem dX11_workOut_21 : decode cX11_workOut 21 = .ok (.if_icmp .ge 150, 3) := by decide +kernel
theorem dX11_workOut_24 : decode cX11_workOut 24 = .ok (.aload_n 0, 1) := by decide +kernel
theorem dX11_workOut_25 : decode cX11_workOut 25 = .ok (.getfield 13, 3) := by decide +kernel
theorem dX11_workOut_28 : decode cX11_workOut 28 = .ok (.iload 5, 2) := by decide +kernel
theorem dX11_workOut_30 : decode cX11_workOut 30 = .ok (.iaload, 1) := by decide +kernel
theorem dX11_workOut_31 : decode cX11_workOut 31 = .ok (.ifCond .eq 14, 3) := by decide +kernel
theorem dX11_workOut_34 : decode cX11_workOut 34 = .ok (.aload_n 0, 1) := by decide +kernel
theorem dX11_workOut_35 : decode cX11_workOut 35 = .ok (.getfield 13, 3) := by decide +kernel
theorem dX11_workOut_38 : decode cX11_workOut 38 = .ok (.iload 5, 2) := by decide +kernel
theorem dX11_workOut_40 : decode cX11_workOut 40 = .ok (.iaload, 1) := by decide +kernel
theorem dX11_workOut_41 : decode cX11_workOut 41 = .ok (.iconst 1, 1) := by decide +kernel
theorem dX11_workOut_42 : decode cX11_workOut 42 = .ok (.if_icmp .ne 48, 3) := by decide +kernel
theorem dX11_workOut_45 : decode cX11_workOut 45 = .ok (.aload_n 0, 1) := by decide +kernel
theorem dX11_workOut_46 : decode cX11_workOut 46 = .ok (.getfield 37, 3) := by decide +kernel
theorem dX11_workOut_49 : decode cX11_workOut 49 = .ok (.iload 4, 2) := by decide +kernel
theorem dX11_workOut_51 : decode cX11_workOut 51 = .ok (.aload_n 0, 1) := by decide +kernel
theorem dX11_workOut_52 : decode cX11_workOut 52 = .ok (.getfield 13, 3) := by decide +kernel
theorem dX11_workOut_55 : decode cX11_workOut 55 = .ok (.iload 5, 2) := by decide +kernel
theorem dX11_workOut_57 : decode cX11_workOut 57 = .ok (.iaload, 1) := by decide +kernel
theorem dX11_workOut_58 : decode cX11_workOut 58 = .ok (.ifCond .ne 13, 3) := by decide +kernel
theorem dX11_workOut_61 : decode cX11_workOut 61 = .ok (.aload_n 0, 1) := by decide +kernel
theorem dX11_workOut_62 : decode cX11_workOut 62 = .ok (.getfield 16, 3) := by decide +kernel
theorem dX11_workOut_65 : decode cX11_workOut 65 = .ok (.iload 5, 2) := by decide +kernel
theorem dX11_workOut_67 : decode cX11_workOut 67 = .ok (.iaload, 1) := by decide +kernel
theorem dX11_workOut_68 : decode cX11_workOut 68 = .ok (.goto 15, 3) := by decide +kernel
theorem dX11_workOut_71 : decode cX11_workOut 71 = .ok (.aload_n 0, 1) := by decide +kernel
theorem dX11_workOut_72 : decode cX11_workOut 72 = .ok (.getfield 34, 3) := by decide +kernel
theorem dX11_workOut_75 : decode cX11_workOut 75 = .ok (.aload_n 0, 1) := by decide +kernel
theorem dX11_workOut_76 : decode cX11_workOut 76 = .ok (.getfield 16, 3) := by decide +kernel
theorem dX11_workOut_79 : decode cX11_workOut 79 = .ok (.iload 5, 2) := by decide +kernel
theorem dX11_workOut_81 : decode cX11_workOut 81 = .ok (.iaload, 1) := by decide +kernel
theorem dX11_workOut_82 : decode cX11_workOut 82 = .ok (.iaload, 1) := by decide +kernel
theorem dX11_workOut_83 : decode cX11_workOut 83 = .ok (.iastore, 1) := by decide +kernel
theorem dX11_workOut_84 : decode cX11_workOut 84 = .ok (.iinc 4 1, 3) := by decide +kernel
theorem dX11_workOut_87 : decode cX11_workOut 87 = .ok (.goto 78, 3) := by decide +kernel
theorem dX11_workOut_90 : decode cX11_workOut 90 = .ok (.aload_n 0, 1) := by decide +kernel
theorem dX11_workOut_91 : decode cX11_workOut 91 = .ok (.getfield 13, 3) := by decide +kernel
theorem dX11_workOut_94 : decode cX11_workOut 94 = .ok (.iload 5, 2) := by decide +kernel
theorem dX11_workOut_96 : decode cX11_workOut 96 = .ok (.iaload, 1) := by decide +kernel
theorem dX11_workOut_97 : decode cX11_workOut 97 = .ok (.bipush 9, 2) := by decide +kernel
theorem dX11_workOut_99 : decode cX11_workOut 99 = .ok (.if_icmp .ne 26, 3) := by decide +kernel
theorem dX11_workOut_102 : decode cX11_workOut 102 = .ok (.aload_n 0, 1) := by decide +kernel
theorem dX11_workOut_103 : decode cX11_workOut 103 = .ok (.getfield 37, 3) := by decide +kernel
theorem dX11_workOut_106 : decode cX11_workOut 106 = .ok (.iload 4, 2) := by decide +kernel
theorem dX11_workOut_108 : decode cX11_workOut 108 = .ok (.iconst 1, 1) := by decide +kernel
theorem dX11_workOut_109 : decode cX11_workOut 109 = .ok (.isub, 1) := by decide +kernel
theorem dX11_workOut_110 : decode cX11_workOut 110 = .ok (.iconst 1, 1) := by decide +kernel
theorem dX11_workOut_111 : decode cX11_workOut 111 = .ok (.aload_n 0, 1) := by decide +kernel
theorem dX11_workOut_112 : decode cX11_workOut 112 = .ok (.getfield 37, 3) := by decide +kernel
theorem dX11_workOut_115 : decode cX11_workOut 115 = .ok (.iload 4, 2) := by decide +kernel
theorem dX11_workOut_117 : decode cX11_workOut 117 = .ok (.iconst 1, 1) := by decide +kernel
theorem dX11_workOut_118 : decode cX11_workOut 118 = .ok (.isub, 1) := by decide +kernel
theorem dX11_workOut_119 : decode cX11_workOut 119 = .ok (.iaload, 1) := by decide +kernel
theorem dX11_workOut_120 : decode cX11_workOut 120 = .ok (.isub, 1) := by decide +kernel
theorem dX11_workOut_121 : decode cX11_workOut 121 = .ok (.iastore, 1) := by decide +kernel
theorem dX11_workOut_122 : decode cX11_workOut 122 = .ok (.goto 43, 3) := by decide +kernel
theorem dX11_workOut_125 : decode cX11_workOut 125 = .ok (.iinc 4 (-1), 3) := by decide +kernel
theorem dX11_workOut_128 : decode cX11_workOut 128 = .ok (.aload_n 0, 1) := by decide +kernel
theorem dX11_workOut_129 : decode cX11_workOut 129 = .ok (.getfield 37, 3) := by decide +kernel
theorem dX11_workOut_132 : decode cX11_workOut 132 = .ok (.iload 4, 2) := by decide +kernel
theorem dX11_workOut_134 : decode cX11_workOut 134 = .ok (.iconst 1, 1) := by decide +kernel
theorem dX11_workOut_135 : decode cX11_workOut 135 = .ok (.isub, 1) := by decide +kernel
theorem dX11_workOut_136 : decode cX11_workOut 136 = .ok (.aload_n 0, 1) := by decide +kernel
theorem dX11_workOut_137 : decode cX11_workOut 137 = .ok (.getfield 13, 3) := by decide +kernel
theorem dX11_workOut_140 : decode cX11_workOut 140 = .ok (.iload 5, 2) := by decide +kernel
theorem dX11_workOut_142 : decode cX11_workOut 142 = .ok (.iaload, 1) := by decide +kernel
theorem dX11_workOut_143 : decode cX11_workOut 143 = .ok (.aload_n 0, 1) := by decide +kernel
theorem dX11_workOut_144 : decode cX11_workOut 144 = .ok (.getfield 37, 3) := by decide +kernel
theorem dX11_workOut_147 : decode cX11_workOut 147 = .ok (.iload 4, 2) := by decide +kernel
theorem dX11_workOut_149 : decode cX11_workOut 149 = .ok (.iconst 1, 1) := by decide +kernel
theorem dX11_workOut_150 : decode cX11_workOut 150 = .ok (.isub, 1) := by decide +kernel
theorem dX11_workOut_151 : decode cX11_workOut 151 = .ok (.iaload, 1) := by decide +kernel
theorem dX11_workOut_152 : decode cX11_workOut 152 = .ok (.i2l, 1) := by decide +kernel
theorem dX11_workOut_153 : decode cX11_workOut 153 = .ok (.aload_n 0, 1) := by decide +kernel
theorem dX11_workOut_154 : decode cX11_workOut 154 = .ok (.getfield 37, 3) := by decide +kernel
theorem dX11_workOut_157 : decode cX11_workOut 157 = .ok (.iload 4, 2) := by decide +kernel
theorem dX11_workOut_159 : decode cX11_workOut 159 = .ok (.iaload, 1) := by decide +kernel
theorem dX11_workOut_160 : decode cX11_workOut 160 = .ok (.i2l, 1) := by decide +kernel
theorem dX11_workOut_161 : decode cX11_workOut 161 = .ok (.invokestatic 202, 3) := by decide +kernel
theorem dX11_workOut_164 : decode cX11_workOut 164 = .ok (.iastore, 1) := by decide +kernel
theorem dX11_workOut_165 : decode cX11_workOut 165 = .ok (.iinc 5 1, 3) := by decide +kernel
theorem dX11_workOut_168 : decode cX11_workOut 168 = .ok (.goto (-156), 3) := by decide +kernel
theorem dX11_workOut_171 : decode cX11_workOut 171 = .ok (.aload_n 0, 1) := by decide +kernel
theorem dX11_workOut_172 : decode cX11_workOut 172 = .ok (.getfield 37, 3) := by decide +kernel
theorem dX11_workOut_175 : decode cX11_workOut 175 = .ok (.iconst 0, 1) := by decide +kernel
theorem dX11_workOut_176 : decode cX11_workOut 176 = .ok (.iaload, 1) := by decide +kernel
theorem dX11_workOut_177 : decode cX11_workOut 177 = .ok (.ireturn, 1) := by decide +kernel
theorem dX11_worthOf_0 : decode cX11_worthOf 0 = .ok (.sipush 140, 3) := by decide +kernel
theorem dX11_worthOf_3 : decode cX11_worthOf 3 = .ok (.iload_n 1, 1) := by decide +kernel
theorem dX11_worthOf_4 : decode cX11_worthOf 4 = .ok (.imul, 1) := by decide +kernel
theorem dX11_worthOf_5 : decode cX11_worthOf 5 = .ok (.istore_n 2, 1) := by decide +kernel
theorem dX11_worthOf_6 : decode cX11_worthOf 6 = .ok (.iload_n 2, 1) := by decide +kernel
theorem dX11_worthOf_7 : decode cX11_worthOf 7 = .ok (.sipush 140, 3) := by decide +kernel
theorem dX11_worthOf_10 : decode cX11_worthOf 10 = .ok (.iload_n 1, 1) := by decide +kernel
theorem dX11_worthOf_11 : decode cX11_worthOf 11 = .ok (.imul, 1) := by decide +kernel
theorem dX11_worthOf_12 : decode cX11_worthOf 12 = .ok (.aload_n 0, 1) := by decide +kernel
theorem dX11_worthOf_13 : decode cX11_worthOf 13 = .ok (.getfield 22, 3) := by decide +kernel
theorem dX11_worthOf_16 : decode cX11_worthOf 16 = .ok (.iload_n 1, 1) := by decide +kernel
theorem dX11_worthOf_17 : decode cX11_worthOf 17 = .ok (.iaload, 1) := by decide +kernel
theorem dX11_worthOf_18 : decode cX11_worthOf 18 = .ok (.iadd, 1) := by decide +kernel
theorem dX11_worthOf_19 : decode cX11_worthOf 19 = .ok (.if_icmp .ge 62, 3) := by decide +kernel
theorem dX11_worthOf_22 : decode cX11_worthOf 22 = .ok (.aload_n 0, 1) := by decide +kernel
theorem dX11_worthOf_23 : decode cX11_worthOf 23 = .ok (.getfield 25, 3) := by decide +kernel
theorem dX11_worthOf_26 : decode cX11_worthOf 26 = .ok (.iload_n 2, 1) := by decide +kernel
theorem dX11_worthOf_27 : decode cX11_worthOf 27 = .ok (.iaload, 1) := by decide +kernel
theorem dX11_worthOf_28 : decode cX11_worthOf 28 = .ok (.aload_n 0, 1) := by decide +kernel
theorem dX11_worthOf_29 : decode cX11_worthOf 29 = .ok (.getfield 28, 3) := by decide +kernel
theorem dX11_worthOf_32 : decode cX11_worthOf 32 = .ok (.iload_n 2, 1) := by decide +kernel
theorem dX11_worthOf_33 : decode cX11_worthOf 33 = .ok (.iaload, 1) := by decide +kernel
theorem dX11_worthOf_34 : decode cX11_worthOf 34 = .ok (.if_icmp .eq 23, 3) := by decide +kernel
theorem dX11_worthOf_37 : decode cX11_worthOf 37 = .ok (.aload_n 0, 1) := by decide +kernel
theorem dX11_worthOf_38 : decode cX11_worthOf 38 = .ok (.iload_n 1, 1) := by decide +kernel
theorem dX11_worthOf_39 : decode cX11_worthOf 39 = .ok (.aload_n 0, 1) := by decide +kernel
theorem dX11_worthOf_40 : decode cX11_worthOf 40 = .ok (.getfield 25, 3) := by decide +kernel
theorem dX11_worthOf_43 : decode cX11_worthOf 43 = .ok (.iload_n 2, 1) := by decide +kernel
theorem dX11_worthOf_44 : decode cX11_worthOf 44 = .ok (.iaload, 1) := by decide +kernel
theorem dX11_worthOf_45 : decode cX11_worthOf 45 = .ok (.aload_n 0, 1) := by decide +kernel
theorem dX11_worthOf_46 : decode cX11_worthOf 46 = .ok (.getfield 28, 3) := by decide +kernel
theorem dX11_worthOf_49 : decode cX11_worthOf 49 = .ok (.iload_n 2, 1) := by decide +kernel
theorem dX11_worthOf_50 : decode cX11_worthOf 50 = .ok (.iaload, 1) := by decide +kernel
theorem dX11_worthOf_51 : decode cX11_worthOf 51 = .ok (.invokevirtual 206, 3) := by decide +kernel
theorem dX11_worthOf_54 : decode cX11_worthOf 54 = .ok (.ifCond .eq 21, 3) := by decide +kernel
theorem dX11_worthOf_57 : decode cX11_worthOf 57 = .ok (.aload_n 0, 1) := by decide +kernel
theorem dX11_worthOf_58 : decode cX11_worthOf 58 = .ok (.iload_n 1, 1) := by decide +kernel
theorem dX11_worthOf_59 : decode cX11_worthOf 59 = .ok (.aload_n 0, 1) := by decide +kernel
theorem dX11_worthOf_60 : decode cX11_worthOf 60 = .ok (.getfield 28, 3) := by decide +kernel
theorem dX11_worthOf_63 : decode cX11_worthOf 63 = .ok (.iload_n 2, 1) := by decide +kernel
theorem dX11_worthOf_64 : decode cX11_worthOf 64 = .ok (.iaload, 1) := by decide +kernel
theorem dX11_worthOf_65 : decode cX11_worthOf 65 = .ok (.aload_n 0, 1) := by decide +kernel
theorem dX11_worthOf_66 : decode cX11_worthOf 66 = .ok (.getfield 31, 3) := by decide +kernel
theorem dX11_worthOf_69 : decode cX11_worthOf 69 = .ok (.iload_n 2, 1) := by decide +kernel
theorem dX11_worthOf_70 : decode cX11_worthOf 70 = .ok (.iaload, 1) := by decide +kernel
theorem dX11_worthOf_71 : decode cX11_worthOf 71 = .ok (.invokevirtual 206, 3) := by decide +kernel
theorem dX11_worthOf_74 : decode cX11_worthOf 74 = .ok (.ireturn, 1) := by decide +kernel
theorem dX11_worthOf_75 : decode cX11_worthOf 75 = .ok (.iinc 2 1, 3) := by decide +kernel
theorem dX11_worthOf_78 : decode cX11_worthOf 78 = .ok (.goto (-72), 3) := by decide +kernel
theorem dX11_worthOf_81 : decode cX11_worthOf 81 = .ok (.iconst 0, 1) := by decide +kernel
theorem dX11_worthOf_82 : decode cX11_worthOf 82 = .ok (.ireturn, 1) := by decide +kernel
theorem dX11_number_0 : decode cX11_number 0 = .ok (.aload_n 0, 1) := by decide +kernel
theorem dX11_number_1 : decode cX11_number 1 = .ok (.invokevirtual 124, 3) := by decide +kernel
theorem dX11_number_4 : decode cX11_number 4 = .ok (.invokestatic 127, 3) := by decide +kernel
theorem dX11_number_7 : decode cX11_number 7 = .ok (.ifCond .ne 9, 3) := by decide +kernel
theorem dX11_number_10 : decode cX11_number 10 = .ok (.aload_n 0, 1) := by decide +kernel
theorem dX11_number_11 : decode cX11_number 11 = .ok (.invokevirtual 121, 3) := by decide +kernel
theorem dX11_number_14 : decode cX11_number 14 = .ok (.iload_n 1, 1) := by decide +kernel
theorem dX11_number_15 : decode cX11_number 15 = .ok (.ireturn, 1) := by decide +kernel
theorem dX11_number_16 : decode cX11_number 16 = .ok (.aload_n 0, 1) := by decide +kernel
theorem dX11_number_17 : decode cX11_number 17 = .ok (.invokevirtual 108, 3) := by decide +kernel
theorem dX11_number_20 : decode cX11_number 20 = .ok (.bipush 48, 2) := by decide +kernel
theorem dX11_number_22 : decode cX11_number 22 = .ok (.isub, 1) := by decide +kernel
theorem dX11_number_23 : decode cX11_number 23 = .ok (.istore_n 3, 1) := by decide +kernel
theorem dX11_number_24 : decode cX11_number 24 = .ok (.aload_n 0, 1) := by decide +kernel
theorem dX11_number_25 : decode cX11_number 25 = .ok (.dup, 1) := by decide +kernel
theorem dX11_number_26 : decode cX11_number 26 = .ok (.getfield 105, 3) := by decide +kernel
theorem dX11_number_29 : decode cX11_number 29 = .ok (.iconst 1, 1) := by decide +kernel
theorem dX11_number_30 : decode cX11_number 30 = .ok (.iadd, 1) := by decide +kernel
theorem dX11_number_31 : decode cX11_number 31 = .ok (.putfield 105, 3) := by decide +kernel
theorem dX11_number_34 : decode cX11_number 34 = .ok (.aload_n 0, 1) := by decide +kernel
theorem dX11_number_35 : decode cX11_number 35 = .ok (.invokevirtual 108, 3) := by decide +kernel
theorem dX11_number_38 : decode cX11_number 38 = .ok (.invokestatic 127, 3) := by decide +kernel
theorem dX11_number_41 : decode cX11_number 41 = .ok (.ifCond .eq 26, 3) := by decide +kernel
theorem dX11_number_44 : decode cX11_number 44 = .ok (.bipush 10, 2) := by decide +kernel
theorem dX11_number_46 : decode cX11_number 46 = .ok (.iload_n 3, 1) := by decide +kernel
theorem dX11_number_47 : decode cX11_number 47 = .ok (.imul, 1) := by decide +kernel
theorem dX11_number_48 : decode cX11_number 48 = .ok (.aload_n 0, 1) := by decide +kernel
theorem dX11_number_49 : decode cX11_number 49 = .ok (.invokevirtual 108, 3) := by decide +kernel
theorem dX11_number_52 : decode cX11_number 52 = .ok (.iadd, 1) := by decide +kernel
theorem dX11_number_53 : decode cX11_number 53 = .ok (.bipush 48, 2) := by decide +kernel
theorem dX11_number_55 : decode cX11_number 55 = .ok (.isub, 1) := by decide +kernel
theorem dX11_number_56 : decode cX11_number 56 = .ok (.istore_n 3, 1) := by decide +kernel
theorem dX11_number_57 : decode cX11_number 57 = .ok (.aload_n 0, 1) := by decide +kernel
theorem dX11_number_58 : decode cX11_number 58 = .ok (.dup, 1) := by decide +kernel
theorem dX11_number_59 : decode cX11_number 59 = .ok (.getfield 105, 3) := by decide +kernel
theorem dX11_number_62 : decode cX11_number 62 = .ok (.iconst 1, 1) := by decide +kernel
theorem dX11_number_63 : decode cX11_number 63 = .ok (.iadd, 1) := by decide +kernel
theorem dX11_number_64 : decode cX11_number 64 = .ok (.putfield 105, 3) := by decide +kernel
theorem dX11_number_67 : decode cX11_number 67 = .ok (.aload_n 0, 1) := by decide +kernel
theorem dX11_number_68 : decode cX11_number 68 = .ok (.invokevirtual 108, 3) := by decide +kernel
theorem dX11_number_71 : decode cX11_number 71 = .ok (.invokestatic 127, 3) := by decide +kernel
theorem dX11_number_74 : decode cX11_number 74 = .ok (.ifCond .eq 10, 3) := by decide +kernel
theorem dX11_number_77 : decode cX11_number 77 = .ok (.aload_n 0, 1) := by decide +kernel
theorem dX11_number_78 : decode cX11_number 78 = .ok (.invokevirtual 121, 3) := by decide +kernel
theorem dX11_number_81 : decode cX11_number 81 = .ok (.goto 26, 3) := by decide +kernel
theorem dX11_number_84 : decode cX11_number 84 = .ok (.iload_n 3, 1) := by decide +kernel
theorem dX11_number_85 : decode cX11_number 85 = .ok (.iload_n 1, 1) := by decide +kernel
theorem dX11_number_86 : decode cX11_number 86 = .ok (.iload_n 2, 1) := by decide +kernel
theorem dX11_number_87 : decode cX11_number 87 = .ok (.invokestatic 210, 3) := by decide +kernel
theorem dX11_number_90 : decode cX11_number 90 = .ok (.ifCond .ne 17, 3) := by decide +kernel
theorem dX11_number_93 : decode cX11_number 93 = .ok (.aload_n 0, 1) := by decide +kernel
theorem dX11_number_94 : decode cX11_number 94 = .ok (.dup, 1) := by decide +kernel
theorem dX11_number_95 : decode cX11_number 95 = .ok (.getfield 105, 3) := by decide +kernel
theorem dX11_number_98 : decode cX11_number 98 = .ok (.iconst 1, 1) := by decide +kernel
theorem dX11_number_99 : decode cX11_number 99 = .ok (.isub, 1) := by decide +kernel
theorem dX11_number_100 : decode cX11_number 100 = .ok (.putfield 105, 3) := by decide +kernel
theorem dX11_number_103 : decode cX11_number 103 = .ok (.aload_n 0, 1) := by decide +kernel
theorem dX11_number_104 : decode cX11_number 104 = .ok (.invokevirtual 121, 3) := by decide +kernel
theorem dX11_number_107 : decode cX11_number 107 = .ok (.iload_n 3, 1) := by decide +kernel
theorem dX11_number_108 : decode cX11_number 108 = .ok (.ireturn, 1) := by decide +kernel
theorem dX11_itemOf_0 : decode cX11_itemOf 0 = .ok (.iload_n 0, 1) := by decide +kernel
theorem dX11_itemOf_1 : decode cX11_itemOf 1 = .ok (.lookupswitch 131 #[(100, 89), (112, 57), (115, 35)], 35) := by decide +kernel
theorem dX11_itemOf_36 : decode cX11_itemOf 36 = .ok (.iload_n 1, 1) := by decide +kernel
theorem dX11_itemOf_37 : decode cX11_itemOf 37 = .ok (.bipush 97, 2) := by decide +kernel
theorem dX11_itemOf_39 : decode cX11_itemOf 39 = .ok (.if_icmp .ne 7, 3) := by decide +kernel
theorem dX11_itemOf_42 : decode cX11_itemOf 42 = .ok (.iconst 0, 1) := by decide +kernel
theorem dX11_itemOf_43 : decode cX11_itemOf 43 = .ok (.goto 14, 3) := by decide +kernel
theorem dX11_itemOf_46 : decode cX11_itemOf 46 = .ok (.iload_n 1, 1) := by decide +kernel
theorem dX11_itemOf_47 : decode cX11_itemOf 47 = .ok (.bipush 108, 2) := by decide +kernel
theorem dX11_itemOf_49 : decode cX11_itemOf 49 = .ok (.if_icmp .ne 7, 3) := by decide +kernel
theorem dX11_itemOf_52 : decode cX11_itemOf 52 = .ok (.iconst 1, 1) := by decide +kernel
theorem dX11_itemOf_53 : decode cX11_itemOf 53 = .ok (.goto 4, 3) := by decide +kernel
theorem dX11_itemOf_56 : decode cX11_itemOf 56 = .ok (.iconst (-1), 1) := by decide +kernel
theorem dX11_itemOf_57 : decode cX11_itemOf 57 = .ok (.ireturn, 1) := by decide +kernel
theorem dX11_itemOf_58 : decode cX11_itemOf 58 = .ok (.iload_n 1, 1) := by decide +kernel
theorem dX11_itemOf_59 : decode cX11_itemOf 59 = .ok (.bipush 102, 2) := by decide +kernel
theorem dX11_itemOf_61 : decode cX11_itemOf 61 = .ok (.if_icmp .ne 7, 3) := by decide +kernel
theorem dX11_itemOf_64 : decode cX11_itemOf 64 = .ok (.iconst 0, 1) := by decide +kernel
theorem dX11_itemOf_65 : decode cX11_itemOf 65 = .ok (.goto 24, 3) := by decide +kernel
theorem dX11_itemOf_68 : decode cX11_itemOf 68 = .ok (.iload_n 1, 1) := by decide +kernel
theorem dX11_itemOf_69 : decode cX11_itemOf 69 = .ok (.bipush 110, 2) := by decide +kernel
theorem dX11_itemOf_71 : decode cX11_itemOf 71 = .ok (.if_icmp .ne 7, 3) := by decide +kernel
theorem dX11_itemOf_74 : decode cX11_itemOf 74 = .ok (.iconst 1, 1) := by decide +kernel
theorem dX11_itemOf_75 : decode cX11_itemOf 75 = .ok (.goto 14, 3) := by decide +kernel
theorem dX11_itemOf_78 : decode cX11_itemOf 78 = .ok (.iload_n 1, 1) := by decide +kernel
theorem dX11_itemOf_79 : decode cX11_itemOf 79 = .ok (.bipush 122, 2) := by decide +kernel
theorem dX11_itemOf_81 : decode cX11_itemOf 81 = .ok (.if_icmp .ne 7, 3) := by decide +kernel
theorem dX11_itemOf_84 : decode cX11_itemOf 84 = .ok (.iconst 2, 1) := by decide +kernel
theorem dX11_itemOf_85 : decode cX11_itemOf 85 = .ok (.goto 4, 3) := by decide +kernel
theorem dX11_itemOf_88 : decode cX11_itemOf 88 = .ok (.iconst (-1), 1) := by decide +kernel
theorem dX11_itemOf_89 : decode cX11_itemOf 89 = .ok (.ireturn, 1) := by decide +kernel
theorem dX11_itemOf_90 : decode cX11_itemOf 90 = .ok (.iload_n 1, 1) := by decide +kernel
theorem dX11_itemOf_91 : decode cX11_itemOf 91 = .ok (.bipush 111, 2) := by decide +kernel
theorem dX11_itemOf_93 : decode cX11_itemOf 93 = .ok (.if_icmp .ne 7, 3) := by decide +kernel
theorem dX11_itemOf_96 : decode cX11_itemOf 96 = .ok (.iconst 0, 1) := by decide +kernel
theorem dX11_itemOf_97 : decode cX11_itemOf 97 = .ok (.goto 34, 3) := by decide +kernel
theorem dX11_itemOf_100 : decode cX11_itemOf 100 = .ok (.iload_n 1, 1) := by decide +kernel
theorem dX11_itemOf_101 : decode cX11_itemOf 101 = .ok (.bipush 99, 2) := by decide +kernel
theorem dX11_itemOf_103 : decode cX11_itemOf 103 = .ok (.if_icmp .ne 7, 3) := by decide +kernel
theorem dX11_itemOf_106 : decode cX11_itemOf 106 = .ok (.iconst 1, 1) := by decide +kernel
theorem dX11_itemOf_107 : decode cX11_itemOf 107 = .ok (.goto 24, 3) := by decide +kernel
theorem dX11_itemOf_110 : decode cX11_itemOf 110 = .ok (.iload_n 1, 1) := by decide +kernel
theorem dX11_itemOf_111 : decode cX11_itemOf 111 = .ok (.bipush 116, 2) := by decide +kernel
theorem dX11_itemOf_113 : decode cX11_itemOf 113 = .ok (.if_icmp .ne 7, 3) := by decide +kernel
theorem dX11_itemOf_116 : decode cX11_itemOf 116 = .ok (.iconst 2, 1) := by decide +kernel
theorem dX11_itemOf_117 : decode cX11_itemOf 117 = .ok (.goto 14, 3) := by decide +kernel
theorem dX11_itemOf_120 : decode cX11_itemOf 120 = .ok (.iload_n 1, 1) := by decide +kernel
theorem dX11_itemOf_121 : decode cX11_itemOf 121 = .ok (.bipush 101, 2) := by decide +kernel
theorem dX11_itemOf_123 : decode cX11_itemOf 123 = .ok (.if_icmp .ne 7, 3) := by decide +kernel
theorem dX11_itemOf_126 : decode cX11_itemOf 126 = .ok (.iconst 3, 1) := by decide +kernel
theorem dX11_itemOf_127 : decode cX11_itemOf 127 = .ok (.goto 4, 3) := by decide +kernel
theorem dX11_itemOf_130 : decode cX11_itemOf 130 = .ok (.iconst (-1), 1) := by decide +kernel
theorem dX11_itemOf_131 : decode cX11_itemOf 131 = .ok (.ireturn, 1) := by decide +kernel
theorem dX11_itemOf_132 : decode cX11_itemOf 132 = .ok (.iload_n 1, 1) := by decide +kernel
theorem dX11_itemOf_133 : decode cX11_itemOf 133 = .ok (.bipush 100, 2) := by decide +kernel
theorem dX11_itemOf_135 : decode cX11_itemOf 135 = .ok (.if_icmp .ne 7, 3) := by decide +kernel
theorem dX11_itemOf_138 : decode cX11_itemOf 138 = .ok (.iconst 0, 1) := by decide +kernel
theorem dX11_itemOf_139 : decode cX11_itemOf 139 = .ok (.goto 24, 3) := by decide +kernel
theorem dX11_itemOf_142 : decode cX11_itemOf 142 = .ok (.iload_n 1, 1) := by decide +kernel
theorem dX11_itemOf_143 : decode cX11_itemOf 143 = .ok (.bipush 110, 2) := by decide +kernel
theorem dX11_itemOf_145 : decode cX11_itemOf 145 = .ok (.if_icmp .ne 7, 3) := by decide +kernel
theorem dX11_itemOf_148 : decode cX11_itemOf 148 = .ok (.iconst 1, 1) := by decide +kernel
theorem dX11_itemOf_149 : decode cX11_itemOf 149 = .ok (.goto 14, 3) := by decide +kernel
theorem dX11_itemOf_152 : decode cX11_itemOf 152 = .ok (.iload_n 1, 1) := by decide +kernel
theorem dX11_itemOf_153 : decode cX11_itemOf 153 = .ok (.bipush 109, 2) := by decide +kernel
theorem dX11_itemOf_155 : decode cX11_itemOf 155 = .ok (.if_icmp .ne 7, 3) := by decide +kernel
theorem dX11_itemOf_158 : decode cX11_itemOf 158 = .ok (.iconst 2, 1) := by decide +kernel
theorem dX11_itemOf_159 : decode cX11_itemOf 159 = .ok (.goto 4, 3) := by decide +kernel
theorem dX11_itemOf_162 : decode cX11_itemOf 162 = .ok (.iconst (-1), 1) := by decide +kernel
theorem dX11_itemOf_163 : decode cX11_itemOf 163 = .ok (.ireturn, 1) := by decide +kernel
theorem dX11_lowest_0 : decode cX11_lowest 0 = .ok (.iload_n 0, 1) := by decide +kernel
theorem dX11_lowest_1 : decode cX11_lowest 1 = .ok (.bipush 112, 2) := by decide +kernel
theorem dX11_lowest_3 : decode cX11_lowest 3 = .ok (.if_icmp .ne 16, 3) := by decide +kernel
theorem dX11_lowest_6 : decode cX11_lowest 6 = .ok (.iload_n 1, 1) := by decide +kernel
theorem dX11_lowest_7 : decode cX11_lowest 7 = .ok (.iconst 1, 1) := by decide +kernel
theorem dX11_lowest_8 : decode cX11_lowest 8 = .ok (.if_icmp .ne 7, 3) := by decide +kernel
theorem dX11_lowest_11 : decode cX11_lowest 11 = .ok (.iconst 1, 1) := by decide +kernel
theorem dX11_lowest_12 : decode cX11_lowest 12 = .ok (.goto 28, 3) := by decide +kernel
theorem dX11_lowest_15 : decode cX11_lowest 15 = .ok (.iconst 0, 1) := by decide +kernel
theorem dX11_lowest_16 : decode cX11_lowest 16 = .ok (.goto 24, 3) := by decide +kernel
theorem dX11_lowest_19 : decode cX11_lowest 19 = .ok (.iload_n 0, 1) := by decide +kernel
theorem dX11_lowest_20 : decode cX11_lowest 20 = .ok (.bipush 100, 2) := by decide +kernel
theorem dX11_lowest_22 : decode cX11_lowest 22 = .ok (.if_icmp .ne 17, 3) := by decide +kernel
theorem dX11_lowest_25 : decode cX11_lowest 25 = .ok (.iload_n 1, 1) := by decide +kernel
theorem dX11_lowest_26 : decode cX11_lowest 26 = .ok (.iconst 1, 1) := by decide +kernel
theorem dX11_lowest_27 : decode cX11_lowest 27 = .ok (.if_icmp .eq 8, 3) := by decide +kernel
theorem dX11_lowest_30 : decode cX11_lowest 30 = .ok (.iload_n 1, 1) := by decide +kernel
theorem dX11_lowest_31 : decode cX11_lowest 31 = .ok (.iconst 2, 1) := by decide +kernel
theorem dX11_lowest_32 : decode cX11_lowest 32 = .ok (.if_icmp .ne 7, 3) := by decide +kernel
theorem dX11_lowest_35 : decode cX11_lowest 35 = .ok (.iconst 1, 1) := by decide +kernel
theorem dX11_lowest_36 : decode cX11_lowest 36 = .ok (.goto 4, 3) := by decide +kernel
theorem dX11_lowest_39 : decode cX11_lowest 39 = .ok (.iconst 0, 1) := by decide +kernel
theorem dX11_lowest_40 : decode cX11_lowest 40 = .ok (.istore_n 2, 1) := by decide +kernel
theorem dX11_lowest_41 : decode cX11_lowest 41 = .ok (.iload_n 2, 1) := by decide +kernel
theorem dX11_lowest_42 : decode cX11_lowest 42 = .ok (.ifCond .eq 7, 3) := by decide +kernel
theorem dX11_lowest_45 : decode cX11_lowest 45 = .ok (.iconst 1, 1) := by decide +kernel
theorem dX11_lowest_46 : decode cX11_lowest 46 = .ok (.goto 4, 3) := by decide +kernel
theorem dX11_lowest_49 : decode cX11_lowest 49 = .ok (.iconst 0, 1) := by decide +kernel
theorem dX11_lowest_50 : decode cX11_lowest 50 = .ok (.ireturn, 1) := by decide +kernel
theorem dX11_highest_0 : decode cX11_highest 0 = .ok (.iload_n 0, 1) := by decide +kernel
theorem dX11_highest_1 : decode cX11_highest 1 = .ok (.lookupswitch 91 #[(100, 69), (112, 47), (115, 35)], 35) := by decide +kernel
theorem dX11_highest_36 : decode cX11_highest 36 = .ok (.iload_n 1, 1) := by decide +kernel
theorem dX11_highest_37 : decode cX11_highest 37 = .ok (.ifCond .ne 8, 3) := by decide +kernel
theorem dX11_highest_40 : decode cX11_highest 40 = .ok (.bipush 23, 2) := by decide +kernel
theorem dX11_highest_42 : decode cX11_highest 42 = .ok (.goto 5, 3) := by decide +kernel
theorem dX11_highest_45 : decode cX11_highest 45 = .ok (.bipush 24, 2) := by decide +kernel
theorem dX11_highest_47 : decode cX11_highest 47 = .ok (.ireturn, 1) := by decide +kernel
theorem dX11_highest_48 : decode cX11_highest 48 = .ok (.iload_n 1, 1) := by decide +kernel
theorem dX11_highest_49 : decode cX11_highest 49 = .ok (.ifCond .ne 8, 3) := by decide +kernel
theorem dX11_highest_52 : decode cX11_highest 52 = .ok (.bipush 7, 2) := by decide +kernel
theorem dX11_highest_54 : decode cX11_highest 54 = .ok (.goto 15, 3) := by decide +kernel
theorem dX11_highest_57 : decode cX11_highest 57 = .ok (.iload_n 1, 1) := by decide +kernel
theorem dX11_highest_58 : decode cX11_highest 58 = .ok (.iconst 1, 1) := by decide +kernel
theorem dX11_highest_59 : decode cX11_highest 59 = .ok (.if_icmp .ne 8, 3) := by decide +kernel
theorem dX11_highest_62 : decode cX11_highest 62 = .ok (.bipush 24, 2) := by decide +kernel
theorem dX11_highest_64 : decode cX11_highest 64 = .ok (.goto 5, 3) := by decide +kernel
theorem dX11_highest_67 : decode cX11_highest 67 = .ok (.bipush 9, 2) := by decide +kernel
theorem dX11_highest_69 : decode cX11_highest 69 = .ok (.ireturn, 1) := by decide +kernel
theorem dX11_highest_70 : decode cX11_highest 70 = .ok (.iload_n 1, 1) := by decide +kernel
theorem dX11_highest_71 : decode cX11_highest 71 = .ok (.ifCond .ne 8, 3) := by decide +kernel
theorem dX11_highest_74 : decode cX11_highest 74 = .ok (.bipush 23, 2) := by decide +kernel
theorem dX11_highest_76 : decode cX11_highest 76 = .ok (.goto 15, 3) := by decide +kernel
theorem dX11_highest_79 : decode cX11_highest 79 = .ok (.iload_n 1, 1) := by decide +kernel
theorem dX11_highest_80 : decode cX11_highest 80 = .ok (.iconst 1, 1) := by decide +kernel
theorem dX11_highest_81 : decode cX11_highest 81 = .ok (.if_icmp .ne 8, 3) := by decide +kernel
theorem dX11_highest_84 : decode cX11_highest 84 = .ok (.bipush 24, 2) := by decide +kernel
theorem dX11_highest_86 : decode cX11_highest 86 = .ok (.goto 5, 3) := by decide +kernel
theorem dX11_highest_89 : decode cX11_highest 89 = .ok (.bipush 9, 2) := by decide +kernel
theorem dX11_highest_91 : decode cX11_highest 91 = .ok (.ireturn, 1) := by decide +kernel
theorem dX11_highest_92 : decode cX11_highest 92 = .ok (.iload_n 1, 1) := by decide +kernel
theorem dX11_highest_93 : decode cX11_highest 93 = .ok (.ifCond .ne 7, 3) := by decide +kernel
theorem dX11_highest_96 : decode cX11_highest 96 = .ok (.iconst 3, 1) := by decide +kernel
theorem dX11_highest_97 : decode cX11_highest 97 = .ok (.goto 5, 3) := by decide +kernel
theorem dX11_highest_100 : decode cX11_highest 100 = .ok (.bipush 8, 2) := by decide +kernel
theorem dX11_highest_102 : decode cX11_highest 102 = .ok (.ireturn, 1) := by decide +kernel
theorem dX11_usual_0 : decode cX11_usual 0 = .ok (.iload_n 0, 1) := by decide +kernel
theorem dX11_usual_1 : decode cX11_usual 1 = .ok (.lookupswitch 87 #[(100, 67), (112, 47), (115, 35)], 35) := by decide +kernel
theorem dX11_usual_36 : decode cX11_usual 36 = .ok (.iload_n 1, 1) := by decide +kernel
theorem dX11_usual_37 : decode cX11_usual 37 = .ok (.ifCond .ne 8, 3) := by decide +kernel
theorem dX11_usual_40 : decode cX11_usual 40 = .ok (.bipush 6, 2) := by decide +kernel
theorem dX11_usual_42 : decode cX11_usual 42 = .ok (.goto 5, 3) := by decide +kernel
theorem dX11_usual_45 : decode cX11_usual 45 = .ok (.bipush 12, 2) := by decide +kernel
theorem dX11_usual_47 : decode cX11_usual 47 = .ok (.ireturn, 1) := by decide +kernel
theorem dX11_usual_48 : decode cX11_usual 48 = .ok (.iload_n 1, 1) := by decide +kernel
theorem dX11_usual_49 : decode cX11_usual 49 = .ok (.ifCond .ne 7, 3) := by decide +kernel
theorem dX11_usual_52 : decode cX11_usual 52 = .ok (.iconst 0, 1) := by decide +kernel
theorem dX11_usual_53 : decode cX11_usual 53 = .ok (.goto 14, 3) := by decide +kernel
theorem dX11_usual_56 : decode cX11_usual 56 = .ok (.iload_n 1, 1) := by decide +kernel
theorem dX11_usual_57 : decode cX11_usual 57 = .ok (.iconst 1, 1) := by decide +kernel
theorem dX11_usual_58 : decode cX11_usual 58 = .ok (.if_icmp .ne 8, 3) := by decide +kernel
theorem dX11_usual_61 : decode cX11_usual 61 = .ok (.bipush 6, 2) := by decide +kernel
theorem dX11_usual_63 : decode cX11_usual 63 = .ok (.goto 4, 3) := by decide +kernel
theorem dX11_usual_66 : decode cX11_usual 66 = .ok (.iconst 5, 1) := by decide +kernel
theorem dX11_usual_67 : decode cX11_usual 67 = .ok (.ireturn, 1) := by decide +kernel
theorem dX11_usual_68 : decode cX11_usual 68 = .ok (.iload_n 1, 1) := by decide +kernel
theorem dX11_usual_69 : decode cX11_usual 69 = .ok (.ifCond .ne 7, 3) := by decide +kernel
theorem dX11_usual_72 : decode cX11_usual 72 = .ok (.iconst 0, 1) := by decide +kernel
theorem dX11_usual_73 : decode cX11_usual 73 = .ok (.goto 14, 3) := by decide +kernel
theorem dX11_usual_76 : decode cX11_usual 76 = .ok (.iload_n 1, 1) := by decide +kernel
theorem dX11_usual_77 : decode cX11_usual 77 = .ok (.iconst 1, 1) := by decide +kernel
theorem dX11_usual_78 : decode cX11_usual 78 = .ok (.if_icmp .ne 8, 3) := by decide +kernel
theorem dX11_usual_81 : decode cX11_usual 81 = .ok (.bipush 24, 2) := by decide +kernel
theorem dX11_usual_83 : decode cX11_usual 83 = .ok (.goto 4, 3) := by decide +kernel
theorem dX11_usual_86 : decode cX11_usual 86 = .ok (.iconst 1, 1) := by decide +kernel
theorem dX11_usual_87 : decode cX11_usual 87 = .ok (.ireturn, 1) := by decide +kernel
theorem dX11_usual_88 : decode cX11_usual 88 = .ok (.iload_n 1, 1) := by decide +kernel
theorem dX11_usual_89 : decode cX11_usual 89 = .ok (.ifCond .ne 7, 3) := by decide +kernel
theorem dX11_usual_92 : decode cX11_usual 92 = .ok (.iconst 0, 1) := by decide +kernel
theorem dX11_usual_93 : decode cX11_usual 93 = .ok (.goto 5, 3) := by decide +kernel
theorem dX11_usual_96 : decode cX11_usual 96 = .ok (.bipush 8, 2) := by decide +kernel
theorem dX11_usual_98 : decode cX11_usual 98 = .ok (.ireturn, 1) := by decide +kernel
theorem dX11_items_0 : decode cX11_items 0 = .ok (.iconst 0, 1) := by decide +kernel
theorem dX11_items_1 : decode cX11_items 1 = .ok (.istore 5, 2) := by decide +kernel
theorem dX11_items_3 : decode cX11_items 3 = .ok (.iload 5, 2) := by decide +kernel
theorem dX11_items_5 : decode cX11_items 5 = .ok (.iload 4, 2) := by decide +kernel
theorem dX11_items_7 : decode cX11_items 7 = .ok (.if_icmp .ge 21, 3) := by decide +kernel
theorem dX11_items_10 : decode cX11_items 10 = .ok (.aload_n 2, 1) := by decide +kernel
theorem dX11_items_11 : decode cX11_items 11 = .ok (.iload_n 3, 1) := by decide +kernel
theorem dX11_items_12 : decode cX11_items 12 = .ok (.iload 5, 2) := by decide +kernel
theorem dX11_items_14 : decode cX11_items 14 = .ok (.iadd, 1) := by decide +kernel
theorem dX11_items_15 : decode cX11_items 15 = .ok (.iload_n 1, 1) := by decide +kernel
theorem dX11_items_16 : decode cX11_items 16 = .ok (.iload 5, 2) := by decide +kernel
theorem dX11_items_18 : decode cX11_items 18 = .ok (.invokestatic 214, 3) := by decide +kernel
theorem dX11_items_21 : decode cX11_items 21 = .ok (.iastore, 1) := by decide +kernel
theorem dX11_items_22 : decode cX11_items 22 = .ok (.iinc 5 1, 3) := by decide +kernel
theorem dX11_items_25 : decode cX11_items 25 = .ok (.goto (-22), 3) := by decide +kernel
theorem dX11_items_28 : decode cX11_items 28 = .ok (.iconst 0, 1) := by decide +kernel
theorem dX11_items_29 : decode cX11_items 29 = .ok (.istore 5, 2) := by decide +kernel
theorem dX11_items_31 : decode cX11_items 31 = .ok (.iload_n 1, 1) := by decide +kernel
theorem dX11_items_32 : decode cX11_items 32 = .ok (.aload_n 0, 1) := by decide +kernel
theorem dX11_items_33 : decode cX11_items 33 = .ok (.invokevirtual 124, 3) := by decide +kernel
theorem dX11_items_36 : decode cX11_items 36 = .ok (.invokestatic 218, 3) := by decide +kernel
theorem dX11_items_39 : decode cX11_items 39 = .ok (.istore 6, 2) := by decide +kernel
theorem dX11_items_41 : decode cX11_items 41 = .ok (.aload_n 0, 1) := by decide +kernel
theorem dX11_items_42 : decode cX11_items 42 = .ok (.getfield 112, 3) := by decide +kernel
theorem dX11_items_45 : decode cX11_items 45 = .ok (.iconst (-1), 1) := by decide +kernel
theorem dX11_items_46 : decode cX11_items 46 = .ok (.if_icmp .ne 85, 3) := by decide +kernel
theorem dX11_items_49 : decode cX11_items 49 = .ok (.iload 6, 2) := by decide +kernel
theorem dX11_items_51 : decode cX11_items 51 = .ok (.iconst (-1), 1) := by decide +kernel
theorem dX11_items_52 : decode cX11_items 52 = .ok (.if_icmp .eq 79, 3) := by decide +kernel
theorem dX11_items_55 : decode cX11_items 55 = .ok (.iload 5, 2) := by decide +kernel
theorem dX11_items_57 : decode cX11_items 57 = .ok (.iload 6, 2) := by decide +kernel
theorem dX11_items_59 : decode cX11_items 59 = .ok (.invokestatic 221, 3) := by decide +kernel
theorem dX11_items_62 : decode cX11_items 62 = .ok (.ifCond .ne 69, 3) := by decide +kernel
theorem dX11_items_65 : decode cX11_items 65 = .ok (.iload 5, 2) := by decide +kernel
theorem dX11_items_67 : decode cX11_items 67 = .ok (.iconst 1, 1) := by decide +kernel
theorem dX11_items_68 : decode cX11_items 68 = .ok (.iload 6, 2) := by decide +kernel
theorem dX11_items_70 : decode cX11_items 70 = .ok (.ishl, 1) := by decide +kernel
theorem dX11_items_71 : decode cX11_items 71 = .ok (.ior, 1) := by decide +kernel
theorem dX11_items_72 : decode cX11_items 72 = .ok (.istore 5, 2) := by decide +kernel
theorem dX11_items_74 : decode cX11_items 74 = .ok (.aload_n 0, 1) := by decide +kernel
theorem dX11_items_75 : decode cX11_items 75 = .ok (.dup, 1) := by decide +kernel
theorem dX11_items_76 : decode cX11_items 76 = .ok (.getfield 105, 3) := by decide +kernel
theorem dX11_items_79 : decode cX11_items 79 = .ok (.iconst 1, 1) := by decide +kernel
theorem dX11_items_80 : decode cX11_items 80 = .ok (.iadd, 1) := by decide +kernel
theorem dX11_items_81 : decode cX11_items 81 = .ok (.putfield 105, 3) := by decide +kernel
theorem dX11_items_84 : decode cX11_items 84 = .ok (.aload_n 2, 1) := by decide +kernel
theorem dX11_items_85 : decode cX11_items 85 = .ok (.iload_n 3, 1) := by decide +kernel
theorem dX11_items_86 : decode cX11_items 86 = .ok (.iload 6, 2) := by decide +kernel
theorem dX11_items_88 : decode cX11_items 88 = .ok (.iadd, 1) := by decide +kernel
theorem dX11_items_89 : decode cX11_items 89 = .ok (.aload_n 0, 1) := by decide +kernel
theorem dX11_items_90 : decode cX11_items 90 = .ok (.iload_n 1, 1) := by decide +kernel
theorem dX11_items_91 : decode cX11_items 91 = .ok (.iload 6, 2) := by decide +kernel
theorem dX11_items_93 : decode cX11_items 93 = .ok (.invokestatic 225, 3) := by decide +kernel
theorem dX11_items_96 : decode cX11_items 96 = .ok (.iload_n 1, 1) := by decide +kernel
theorem dX11_items_97 : decode cX11_items 97 = .ok (.iload 6, 2) := by decide +kernel
theorem dX11_items_99 : decode cX11_items 99 = .ok (.invokestatic 228, 3) := by decide +kernel
theorem dX11_items_102 : decode cX11_items 102 = .ok (.invokevirtual 231, 3) := by decide +kernel
theorem dX11_items_105 : decode cX11_items 105 = .ok (.iastore, 1) := by decide +kernel
theorem dX11_items_106 : decode cX11_items 106 = .ok (.aload_n 0, 1) := by decide +kernel
theorem dX11_items_107 : decode cX11_items 107 = .ok (.getfield 112, 3) := by decide +kernel
theorem dX11_items_110 : decode cX11_items 110 = .ok (.iconst (-1), 1) := by decide +kernel
theorem dX11_items_111 : decode cX11_items 111 = .ok (.if_icmp .ne 14, 3) := by decide +kernel
theorem dX11_items_114 : decode cX11_items 114 = .ok (.iload_n 1, 1) := by decide +kernel
theorem dX11_items_115 : decode cX11_items 115 = .ok (.aload_n 0, 1) := by decide +kernel
theorem dX11_items_116 : decode cX11_items 116 = .ok (.invokevirtual 124, 3) := by decide +kernel
theorem dX11_items_119 : decode cX11_items 119 = .ok (.invokestatic 218, 3) := by decide +kernel
theorem dX11_items_122 : decode cX11_items 122 = .ok (.goto 4, 3) := by decide +kernel
theorem dX11_items_125 : decode cX11_items 125 = .ok (.iconst (-1), 1) := by decide +kernel
theorem dX11_items_126 : decode cX11_items 126 = .ok (.istore 6, 2) := by decide +kernel
theorem dX11_items_128 : decode cX11_items 128 = .ok (.goto (-87), 3) := by decide +kernel
theorem dX11_items_131 : decode cX11_items 131 = .ok (.return_, 1) := by decide +kernel
theorem dX11_isTold_0 : decode cX11_isTold 0 = .ok (.iload_n 0, 1) := by decide +kernel
theorem dX11_isTold_1 : decode cX11_isTold 1 = .ok (.bipush 8, 2) := by decide +kernel
theorem dX11_isTold_3 : decode cX11_isTold 3 = .ok (.if_icmp .eq 8, 3) := by decide +kernel
theorem dX11_isTold_6 : decode cX11_isTold 6 = .ok (.iload_n 0, 1) := by decide +kernel
theorem dX11_isTold_7 : decode cX11_isTold 7 = .ok (.iload_n 1, 1) := by decide +kernel
theorem dX11_isTold_8 : decode cX11_isTold 8 = .ok (.if_icmp .ge 7, 3) := by decide +kernel
theorem dX11_isTold_11 : decode cX11_isTold 11 = .ok (.iconst 1, 1) := by decide +kernel
theorem dX11_isTold_12 : decode cX11_isTold 12 = .ok (.goto 4, 3) := by decide +kernel
theorem dX11_isTold_15 : decode cX11_isTold 15 = .ok (.iconst 0, 1) := by decide +kernel
theorem dX11_isTold_16 : decode cX11_isTold 16 = .ok (.ireturn, 1) := by decide +kernel
theorem dX11_isWhole_0 : decode cX11_isWhole 0 = .ok (.aload_n 0, 1) := by decide +kernel
theorem dX11_isWhole_1 : decode cX11_isWhole 1 = .ok (.getfield 234, 3) := by decide +kernel
theorem dX11_isWhole_4 : decode cX11_isWhole 4 = .ok (.ifCond .le 21, 3) := by decide +kernel
theorem dX11_isWhole_7 : decode cX11_isWhole 7 = .ok (.aload_n 0, 1) := by decide +kernel
theorem dX11_isWhole_8 : decode cX11_isWhole 8 = .ok (.getfield 237, 3) := by decide +kernel
theorem dX11_isWhole_11 : decode cX11_isWhole 11 = .ok (.ifCond .le 14, 3) := by decide +kernel
theorem dX11_isWhole_14 : decode cX11_isWhole 14 = .ok (.aload_n 0, 1) := by decide +kernel
theorem dX11_isWhole_15 : decode cX11_isWhole 15 = .ok (.getfield 240, 3) := by decide +kernel
theorem dX11_isWhole_18 : decode cX11_isWhole 18 = .ok (.ifCond .le 7, 3) := by decide +kernel
theorem dX11_isWhole_21 : decode cX11_isWhole 21 = .ok (.iconst 1, 1) := by decide +kernel
theorem dX11_isWhole_22 : decode cX11_isWhole 22 = .ok (.goto 4, 3) := by decide +kernel
theorem dX11_isWhole_25 : decode cX11_isWhole 25 = .ok (.iconst 0, 1) := by decide +kernel
theorem dX11_isWhole_26 : decode cX11_isWhole 26 = .ok (.istore_n 1, 1) := by decide +kernel
theorem dX11_isWhole_27 : decode cX11_isWhole 27 = .ok (.iconst 0, 1) := by decide +kernel
theorem dX11_isWhole_28 : decode cX11_isWhole 28 = .ok (.istore_n 2, 1) := by decide +kernel
theorem dX11_isWhole_29 : decode cX11_isWhole 29 = .ok (.iload_n 2, 1) := by decide +kernel
theorem dX11_isWhole_30 : decode cX11_isWhole 30 = .ok (.aload_n 0, 1) := by decide +kernel
theorem dX11_isWhole_31 : decode cX11_isWhole 31 = .ok (.getfield 237, 3) := by decide +kernel
theorem dX11_isWhole_34 : decode cX11_isWhole 34 = .ok (.if_icmp .ge 42, 3) := by decide +kernel
theorem dX11_isWhole_37 : decode cX11_isWhole 37 = .ok (.iload_n 1, 1) := by decide +kernel
theorem dX11_isWhole_38 : decode cX11_isWhole 38 = .ok (.ifCond .eq 30, 3) := by decide +kernel
theorem dX11_isWhole_41 : decode cX11_isWhole 41 = .ok (.aload_n 0, 1) := by decide +kernel
theorem dX11_isWhole_42 : decode cX11_isWhole 42 = .ok (.getfield 46, 3) := by decide +kernel
theorem dX11_isWhole_45 : decode cX11_isWhole 45 = .ok (.iconst 4, 1) := by decide +kernel
theorem dX11_isWhole_46 : decode cX11_isWhole 46 = .ok (.iload_n 2, 1) := by decide +kernel
theorem dX11_isWhole_47 : decode cX11_isWhole 47 = .ok (.imul, 1) := by decide +kernel
theorem dX11_isWhole_48 : decode cX11_isWhole 48 = .ok (.iconst 0, 1) := by decide +kernel
theorem dX11_isWhole_49 : decode cX11_isWhole 49 = .ok (.iadd, 1) := by decide +kernel
theorem dX11_isWhole_50 : decode cX11_isWhole 50 = .ok (.iaload, 1) := by decide +kernel
theorem dX11_isWhole_51 : decode cX11_isWhole 51 = .ok (.aload_n 0, 1) := by decide +kernel
theorem dX11_isWhole_52 : decode cX11_isWhole 52 = .ok (.getfield 46, 3) := by decide +kernel
theorem dX11_isWhole_55 : decode cX11_isWhole 55 = .ok (.iconst 4, 1) := by decide +kernel
theorem dX11_isWhole_56 : decode cX11_isWhole 56 = .ok (.iload_n 2, 1) := by decide +kernel
theorem dX11_isWhole_57 : decode cX11_isWhole 57 = .ok (.imul, 1) := by decide +kernel
theorem dX11_isWhole_58 : decode cX11_isWhole 58 = .ok (.iconst 1, 1) := by decide +kernel
theorem dX11_isWhole_59 : decode cX11_isWhole 59 = .ok (.iadd, 1) := by decide +kernel
theorem dX11_isWhole_60 : decode cX11_isWhole 60 = .ok (.iaload, 1) := by decide +kernel
theorem dX11_isWhole_61 : decode cX11_isWhole 61 = .ok (.if_icmp .ge 7, 3) := by decide +kernel
theorem dX11_isWhole_64 : decode cX11_isWhole 64 = .ok (.iconst 1, 1) := by decide +kernel
theorem dX11_isWhole_65 : decode cX11_isWhole 65 = .ok (.goto 4, 3) := by decide +kernel
theorem dX11_isWhole_68 : decode cX11_isWhole 68 = .ok (.iconst 0, 1) := by decide +kernel
theorem dX11_isWhole_69 : decode cX11_isWhole 69 = .ok (.istore_n 1, 1) := by decide +kernel
theorem dX11_isWhole_70 : decode cX11_isWhole 70 = .ok (.iinc 2 1, 3) := by decide +kernel
theorem dX11_isWhole_73 : decode cX11_isWhole 73 = .ok (.goto (-44), 3) := by decide +kernel
theorem dX11_isWhole_76 : decode cX11_isWhole 76 = .ok (.iconst 0, 1) := by decide +kernel
theorem dX11_isWhole_77 : decode cX11_isWhole 77 = .ok (.istore_n 2, 1) := by decide +kernel
theorem dX11_isWhole_78 : decode cX11_isWhole 78 = .ok (.iload_n 2, 1) := by decide +kernel
theorem dX11_isWhole_79 : decode cX11_isWhole 79 = .ok (.aload_n 0, 1) := by decide +kernel
theorem dX11_isWhole_80 : decode cX11_isWhole 80 = .ok (.getfield 234, 3) := by decide +kernel
theorem dX11_isWhole_83 : decode cX11_isWhole 83 = .ok (.if_icmp .ge 36, 3) := by decide +kernel
theorem dX11_isWhole_86 : decode cX11_isWhole 86 = .ok (.iload_n 1, 1) := by decide +kernel
theorem dX11_isWhole_87 : decode cX11_isWhole 87 = .ok (.ifCond .eq 24, 3) := by decide +kernel
theorem dX11_isWhole_90 : decode cX11_isWhole 90 = .ok (.aload_n 0, 1) := by decide +kernel
theorem dX11_isWhole_91 : decode cX11_isWhole 91 = .ok (.getfield 43, 3) := by decide +kernel
theorem dX11_isWhole_94 : decode cX11_isWhole 94 = .ok (.iconst 3, 1) := by decide +kernel
theorem dX11_isWhole_95 : decode cX11_isWhole 95 = .ok (.iload_n 2, 1) := by decide +kernel
theorem dX11_isWhole_96 : decode cX11_isWhole 96 = .ok (.imul, 1) := by decide +kernel
theorem dX11_isWhole_97 : decode cX11_isWhole 97 = .ok (.iconst 0, 1) := by decide +kernel
theorem dX11_isWhole_98 : decode cX11_isWhole 98 = .ok (.iadd, 1) := by decide +kernel
theorem dX11_isWhole_99 : decode cX11_isWhole 99 = .ok (.iaload, 1) := by decide +kernel
theorem dX11_isWhole_100 : decode cX11_isWhole 100 = .ok (.aload_n 0, 1) := by decide +kernel
theorem dX11_isWhole_101 : decode cX11_isWhole 101 = .ok (.getfield 240, 3) := by decide +kernel
theorem dX11_isWhole_104 : decode cX11_isWhole 104 = .ok (.if_icmp .ge 7, 3) := by decide +kernel
theorem dX11_isWhole_107 : decode cX11_isWhole 107 = .ok (.iconst 1, 1) := by decide +kernel
theorem dX11_isWhole_108 : decode cX11_isWhole 108 = .ok (.goto 4, 3) := by decide +kernel
theorem dX11_isWhole_111 : decode cX11_isWhole 111 = .ok (.iconst 0, 1) := by decide +kernel
theorem dX11_isWhole_112 : decode cX11_isWhole 112 = .ok (.istore_n 1, 1) := by decide +kernel
theorem dX11_isWhole_113 : decode cX11_isWhole 113 = .ok (.iinc 2 1, 3) := by decide +kernel
theorem dX11_isWhole_116 : decode cX11_isWhole 116 = .ok (.goto (-38), 3) := by decide +kernel
theorem dX11_isWhole_119 : decode cX11_isWhole 119 = .ok (.iconst 0, 1) := by decide +kernel
theorem dX11_isWhole_120 : decode cX11_isWhole 120 = .ok (.istore_n 2, 1) := by decide +kernel
theorem dX11_isWhole_121 : decode cX11_isWhole 121 = .ok (.iload_n 2, 1) := by decide +kernel
theorem dX11_isWhole_122 : decode cX11_isWhole 122 = .ok (.aload_n 0, 1) := by decide +kernel
theorem dX11_isWhole_123 : decode cX11_isWhole 123 = .ok (.getfield 240, 3) := by decide +kernel
theorem dX11_isWhole_126 : decode cX11_isWhole 126 = .ok (.if_icmp .ge 76, 3) := by decide +kernel
theorem dX11_isWhole_129 : decode cX11_isWhole 129 = .ok (.iload_n 1, 1) := by decide +kernel
theorem dX11_isWhole_130 : decode cX11_isWhole 130 = .ok (.ifCond .eq 64, 3) := by decide +kernel
theorem dX11_isWhole_133 : decode cX11_isWhole 133 = .ok (.aload_n 0, 1) := by decide +kernel
theorem dX11_isWhole_134 : decode cX11_isWhole 134 = .ok (.getfield 49, 3) := by decide +kernel
theorem dX11_isWhole_137 : decode cX11_isWhole 137 = .ok (.iconst 3, 1) := by decide +kernel
theorem dX11_isWhole_138 : decode cX11_isWhole 138 = .ok (.iload_n 2, 1) := by decide +kernel
theorem dX11_isWhole_139 : decode cX11_isWhole 139 = .ok (.imul, 1) := by decide +kernel
theorem dX11_isWhole_140 : decode cX11_isWhole 140 = .ok (.iconst 0, 1) := by decide +kernel
theorem dX11_isWhole_141 : decode cX11_isWhole 141 = .ok (.iadd, 1) := by decide +kernel
theorem dX11_isWhole_142 : decode cX11_isWhole 142 = .ok (.iaload, 1) := by decide +kernel
theorem dX11_isWhole_143 : decode cX11_isWhole 143 = .ok (.aload_n 0, 1) := by decide +kernel
theorem dX11_isWhole_144 : decode cX11_isWhole 144 = .ok (.getfield 237, 3) := by decide +kernel
theorem dX11_isWhole_147 : decode cX11_isWhole 147 = .ok (.if_icmp .ge 47, 3) := by decide +kernel
theorem dX11_isWhole_150 : decode cX11_isWhole 150 = .ok (.aload_n 0, 1) := by decide +kernel
theorem dX11_isWhole_151 : decode cX11_isWhole 151 = .ok (.getfield 49, 3) := by decide +kernel
theorem dX11_isWhole_154 : decode cX11_isWhole 154 = .ok (.iconst 3, 1) := by decide +kernel
theorem dX11_isWhole_155 : decode cX11_isWhole 155 = .ok (.iload_n 2, 1) := by decide +kernel
theorem dX11_isWhole_156 : decode cX11_isWhole 156 = .ok (.imul, 1) := by decide +kernel
theorem dX11_isWhole_157 : decode cX11_isWhole 157 = .ok (.iconst 1, 1) := by decide +kernel
theorem dX11_isWhole_158 : decode cX11_isWhole 158 = .ok (.iadd, 1) := by decide +kernel
theorem dX11_isWhole_159 : decode cX11_isWhole 159 = .ok (.iaload, 1) := by decide +kernel
theorem dX11_isWhole_160 : decode cX11_isWhole 160 = .ok (.aload_n 0, 1) := by decide +kernel
theorem dX11_isWhole_161 : decode cX11_isWhole 161 = .ok (.getfield 240, 3) := by decide +kernel
theorem dX11_isWhole_164 : decode cX11_isWhole 164 = .ok (.invokestatic 243, 3) := by decide +kernel
theorem dX11_isWhole_167 : decode cX11_isWhole 167 = .ok (.ifCond .eq 27, 3) := by decide +kernel
theorem dX11_isWhole_170 : decode cX11_isWhole 170 = .ok (.aload_n 0, 1) := by decide +kernel
theorem dX11_isWhole_171 : decode cX11_isWhole 171 = .ok (.getfield 49, 3) := by decide +kernel
theorem dX11_isWhole_174 : decode cX11_isWhole 174 = .ok (.iconst 3, 1) := by decide +kernel
theorem dX11_isWhole_175 : decode cX11_isWhole 175 = .ok (.iload_n 2, 1) := by decide +kernel
theorem dX11_isWhole_176 : decode cX11_isWhole 176 = .ok (.imul, 1) := by decide +kernel
theorem dX11_isWhole_177 : decode cX11_isWhole 177 = .ok (.iconst 2, 1) := by decide +kernel
theorem dX11_isWhole_178 : decode cX11_isWhole 178 = .ok (.iadd, 1) := by decide +kernel
theorem dX11_isWhole_179 : decode cX11_isWhole 179 = .ok (.iaload, 1) := by decide +kernel
theorem dX11_isWhole_180 : decode cX11_isWhole 180 = .ok (.aload_n 0, 1) := by decide +kernel
theorem dX11_isWhole_181 : decode cX11_isWhole 181 = .ok (.getfield 240, 3) := by decide +kernel
theorem dX11_isWhole_184 : decode cX11_isWhole 184 = .ok (.invokestatic 243, 3) := by decide +kernel
theorem dX11_isWhole_187 : decode cX11_isWhole 187 = .ok (.ifCond .eq 7, 3) := by decide +kernel
theorem dX11_isWhole_190 : decode cX11_isWhole 190 = .ok (.iconst 1, 1) := by decide +kernel
theorem dX11_isWhole_191 : decode cX11_isWhole 191 = .ok (.goto 4, 3) := by decide +kernel
theorem dX11_isWhole_194 : decode cX11_isWhole 194 = .ok (.iconst 0, 1) := by decide +kernel
theorem dX11_isWhole_195 : decode cX11_isWhole 195 = .ok (.istore_n 1, 1) := by decide +kernel
theorem dX11_isWhole_196 : decode cX11_isWhole 196 = .ok (.iinc 2 1, 3) := by decide +kernel
theorem dX11_isWhole_199 : decode cX11_isWhole 199 = .ok (.goto (-78), 3) := by decide +kernel
theorem dX11_isWhole_202 : decode cX11_isWhole 202 = .ok (.iload_n 1, 1) := by decide +kernel
theorem dX11_isWhole_203 : decode cX11_isWhole 203 = .ok (.ireturn, 1) := by decide +kernel
theorem dX11_readHill_0 : decode cX11_readHill 0 = .ok (.aload_n 0, 1) := by decide +kernel
theorem dX11_readHill_1 : decode cX11_readHill 1 = .ok (.iconst 0, 1) := by decide +kernel
theorem dX11_readHill_2 : decode cX11_readHill 2 = .ok (.putfield 105, 3) := by decide +kernel
theorem dX11_readHill_5 : decode cX11_readHill 5 = .ok (.aload_n 0, 1) := by decide +kernel
theorem dX11_readHill_6 : decode cX11_readHill 6 = .ok (.iconst (-1), 1) := by decide +kernel
theorem dX11_readHill_7 : decode cX11_readHill 7 = .ok (.putfield 112, 3) := by decide +kernel
theorem dX11_readHill_10 : decode cX11_readHill 10 = .ok (.aload_n 0, 1) := by decide +kernel
theorem dX11_readHill_11 : decode cX11_readHill 11 = .ok (.iconst 0, 1) := by decide +kernel
theorem dX11_readHill_12 : decode cX11_readHill 12 = .ok (.putfield 234, 3) := by decide +kernel
theorem dX11_readHill_15 : decode cX11_readHill 15 = .ok (.aload_n 0, 1) := by decide +kernel
theorem dX11_readHill_16 : decode cX11_readHill 16 = .ok (.iconst 0, 1) := by decide +kernel
theorem dX11_readHill_17 : decode cX11_readHill 17 = .ok (.putfield 237, 3) := by decide +kernel
theorem dX11_readHill_20 : decode cX11_readHill 20 = .ok (.aload_n 0, 1) := by decide +kernel
theorem dX11_readHill_21 : decode cX11_readHill 21 = .ok (.iconst 0, 1) := by decide +kernel
theorem dX11_readHill_22 : decode cX11_readHill 22 = .ok (.putfield 240, 3) := by decide +kernel
theorem dX11_readHill_25 : decode cX11_readHill 25 = .ok (.iconst 0, 1) := by decide +kernel
theorem dX11_readHill_26 : decode cX11_readHill 26 = .ok (.istore_n 1, 1) := by decide +kernel
theorem dX11_readHill_27 : decode cX11_readHill 27 = .ok (.aload_n 0, 1) := by decide +kernel
theorem dX11_readHill_28 : decode cX11_readHill 28 = .ok (.getfield 40, 3) := by decide +kernel
theorem dX11_readHill_31 : decode cX11_readHill 31 = .ok (.iconst 0, 1) := by decide +kernel
theorem dX11_readHill_32 : decode cX11_readHill 32 = .ok (.bipush 115, 2) := by decide +kernel
theorem dX11_readHill_34 : decode cX11_readHill 34 = .ok (.iconst 0, 1) := by decide +kernel
theorem dX11_readHill_35 : decode cX11_readHill 35 = .ok (.invokestatic 214, 3) := by decide +kernel
theorem dX11_readHill_38 : decode cX11_readHill 38 = .ok (.iastore, 1) := by decide +kernel
theorem dX11_readHill_39 : decode cX11_readHill 39 = .ok (.aload_n 0, 1) := by decide +kernel
theorem dX11_readHill_40 : decode cX11_readHill 40 = .ok (.getfield 40, 3) := by decide +kernel
theorem dX11_readHill_43 : decode cX11_readHill 43 = .ok (.iconst 1, 1) := by decide +kernel
theorem dX11_readHill_44 : decode cX11_readHill 44 = .ok (.bipush 115, 2) := by decide +kernel
theorem dX11_readHill_46 : decode cX11_readHill 46 = .ok (.iconst 1, 1) := by decide +kernel
theorem dX11_readHill_47 : decode cX11_readHill 47 = .ok (.invokestatic 214, 3) := by decide +kernel
theorem dX11_readHill_50 : decode cX11_readHill 50 = .ok (.iastore, 1) := by decide +kernel
theorem dX11_readHill_51 : decode cX11_readHill 51 = .ok (.iconst 1, 1) := by decide +kernel
theorem dX11_readHill_52 : decode cX11_readHill 52 = .ok (.istore_n 2, 1) := by decide +kernel
theorem dX11_readHill_53 : decode cX11_readHill 53 = .ok (.iload_n 2, 1) := by decide +kernel
theorem dX11_readHill_54 : decode cX11_readHill 54 = .ok (.ifCond .eq 261, 3) := by decide +kernel
theorem dX11_readHill_57 : decode cX11_readHill 57 = .ok (.aload_n 0, 1) := by decide +kernel
theorem dX11_readHill_58 : decode cX11_readHill 58 = .ok (.getfield 112, 3) := by decide +kernel
theorem dX11_readHill_61 : decode cX11_readHill 61 = .ok (.iconst (-1), 1) := by decide +kernel
theorem dX11_readHill_62 : decode cX11_readHill 62 = .ok (.if_icmp .ne 253, 3) := by decide +kernel
theorem dX11_readHill_65 : decode cX11_readHill 65 = .ok (.aload_n 0, 1) := by decide +kernel
theorem dX11_readHill_66 : decode cX11_readHill 66 = .ok (.invokevirtual 124, 3) := by decide +kernel
theorem dX11_readHill_69 : decode cX11_readHill 69 = .ok (.istore_n 3, 1) := by decide +kernel
theorem dX11_readHill_70 : decode cX11_readHill 70 = .ok (.iload_n 3, 1) := by decide +kernel
theorem dX11_readHill_71 : decode cX11_readHill 71 = .ok (.bipush 115, 2) := by decide +kernel
theorem dX11_readHill_73 : decode cX11_readHill 73 = .ok (.if_icmp .ne 33, 3) := by decide +kernel
theorem dX11_readHill_76 : decode cX11_readHill 76 = .ok (.iload_n 1, 1) := by decide +kernel
theorem dX11_readHill_77 : decode cX11_readHill 77 = .ok (.ifCond .ne 29, 3) := by decide +kernel
theorem dX11_readHill_80 : decode cX11_readHill 80 = .ok (.iconst 1, 1) := by decide +kernel
theorem dX11_readHill_81 : decode cX11_readHill 81 = .ok (.istore_n 1, 1) := by decide +kernel
theorem dX11_readHill_82 : decode cX11_readHill 82 = .ok (.aload_n 0, 1) := by decide +kernel
theorem dX11_readHill_83 : decode cX11_readHill 83 = .ok (.dup, 1) := by decide +kernel
theorem dX11_readHill_84 : decode cX11_readHill 84 = .ok (.getfield 105, 3) := by decide +kernel
theorem dX11_readHill_87 : decode cX11_readHill 87 = .ok (.iconst 1, 1) := by decide +kernel
theorem dX11_readHill_88 : decode cX11_readHill 88 = .ok (.iadd, 1) := by decide +kernel
theorem dX11_readHill_89 : decode cX11_readHill 89 = .ok (.putfield 105, 3) := by decide +kernel
theorem dX11_readHill_92 : decode cX11_readHill 92 = .ok (.aload_n 0, 1) := by decide +kernel
theorem dX11_readHill_93 : decode cX11_readHill 93 = .ok (.iload_n 3, 1) := by decide +kernel
theorem dX11_readHill_94 : decode cX11_readHill 94 = .ok (.aload_n 0, 1) := by decide +kernel
theorem dX11_readHill_95 : decode cX11_readHill 95 = .ok (.getfield 40, 3) := by decide +kernel
theorem dX11_readHill_98 : decode cX11_readHill 98 = .ok (.iconst 0, 1) := by decide +kernel
theorem dX11_readHill_99 : decode cX11_readHill 99 = .ok (.iconst 2, 1) := by decide +kernel
theorem dX11_readHill_100 : decode cX11_readHill 100 = .ok (.invokevirtual 246, 3) := by decide +kernel
theorem dX11_readHill_103 : decode cX11_readHill 103 = .ok (.goto 168, 3) := by decide +kernel
theorem dX11_readHill_106 : decode cX11_readHill 106 = .ok (.iload_n 3, 1) := by decide +kernel
theorem dX11_readHill_107 : decode cX11_readHill 107 = .ok (.bipush 112, 2) := by decide +kernel
theorem dX11_readHill_109 : decode cX11_readHill 109 = .ok (.if_icmp .ne 51, 3) := by decide +kernel
theorem dX11_readHill_112 : decode cX11_readHill 112 = .ok (.aload_n 0, 1) := by decide +kernel
theorem dX11_readHill_113 : decode cX11_readHill 113 = .ok (.getfield 234, 3) := by decide +kernel
theorem dX11_readHill_116 : decode cX11_readHill 116 = .ok (.bipush 6, 2) := by decide +kernel
theorem dX11_readHill_118 : decode cX11_readHill 118 = .ok (.if_icmp .ge 42, 3) := by decide +kernel
theorem dX11_readHill_121 : decode cX11_readHill 121 = .ok (.aload_n 0, 1) := by decide +kernel
theorem dX11_readHill_122 : decode cX11_readHill 122 = .ok (.dup, 1) := by decide +kernel
theorem dX11_readHill_123 : decode cX11_readHill 123 = .ok (.getfield 105, 3) := by decide +kernel
theorem dX11_readHill_126 : decode cX11_readHill 126 = .ok (.iconst 1, 1) := by decide +kernel
theorem dX11_readHill_127 : decode cX11_readHill 127 = .ok (.iadd, 1) := by decide +kernel
theorem dX11_readHill_128 : decode cX11_readHill 128 = .ok (.putfield 105, 3) := by decide +kernel
theorem dX11_readHill_131 : decode cX11_readHill 131 = .ok (.aload_n 0, 1) := by decide +kernel
theorem dX11_readHill_132 : decode cX11_readHill 132 = .ok (.iload_n 3, 1) := by decide +kernel
theorem dX11_readHill_133 : decode cX11_readHill 133 = .ok (.aload_n 0, 1) := by decide +kernel
theorem dX11_readHill_134 : decode cX11_readHill 134 = .ok (.getfield 43, 3) := by decide +kernel
theorem dX11_readHill_137 : decode cX11_readHill 137 = .ok (.iconst 3, 1) := by decide +kernel
theorem dX11_readHill_138 : decode cX11_readHill 138 = .ok (.aload_n 0, 1) := by decide +kernel
theorem dX11_readHill_139 : decode cX11_readHill 139 = .ok (.getfield 234, 3) := by decide +kernel
theorem dX11_readHill_142 : decode cX11_readHill 142 = .ok (.imul, 1) := by decide +kernel
theorem dX11_readHill_143 : decode cX11_readHill 143 = .ok (.iconst 3, 1) := by decide +kernel
theorem dX11_readHill_144 : decode cX11_readHill 144 = .ok (.invokevirtual 246, 3) := by decide +kernel
theorem dX11_readHill_147 : decode cX11_readHill 147 = .ok (.aload_n 0, 1) := by decide +kernel
theorem dX11_readHill_148 : decode cX11_readHill 148 = .ok (.dup, 1) := by decide +kernel
theorem dX11_readHill_149 : decode cX11_readHill 149 = .ok (.getfield 234, 3) := by decide +kernel
theorem dX11_readHill_152 : decode cX11_readHill 152 = .ok (.iconst 1, 1) := by decide +kernel
theorem dX11_readHill_153 : decode cX11_readHill 153 = .ok (.iadd, 1) := by decide +kernel
theorem dX11_readHill_154 : decode cX11_readHill 154 = .ok (.putfield 234, 3) := by decide +kernel
theorem dX11_readHill_157 : decode cX11_readHill 157 = .ok (.goto 114, 3) := by decide +kernel
theorem dX11_readHill_160 : decode cX11_readHill 160 = .ok (.iload_n 3, 1) := by decide +kernel
theorem dX11_readHill_161 : decode cX11_readHill 161 = .ok (.bipush 100, 2) := by decide +kernel
theorem dX11_readHill_163 : decode cX11_readHill 163 = .ok (.if_icmp .ne 50, 3) := by decide +kernel
theorem dX11_readHill_166 : decode cX11_readHill 166 = .ok (.aload_n 0, 1) := by decide +kernel
theorem dX11_readHill_167 : decode cX11_readHill 167 = .ok (.getfield 237, 3) := by decide +kernel
theorem dX11_readHill_170 : decode cX11_readHill 170 = .ok (.iconst 4, 1) := by decide +kernel
theorem dX11_readHill_171 : decode cX11_readHill 171 = .ok (.if_icmp .ge 42, 3) := by decide +kernel
theorem dX11_readHill_174 : decode cX11_readHill 174 = .ok (.aload_n 0, 1) := by decide +kernel
theorem dX11_readHill_175 : decode cX11_readHill 175 = .ok (.dup, 1) := by decide +kernel
theorem dX11_readHill_176 : decode cX11_readHill 176 = .ok (.getfield 105, 3) := by decide +kernel
theorem dX11_readHill_179 : decode cX11_readHill 179 = .ok (.iconst 1, 1) := by decide +kernel
theorem dX11_readHill_180 : decode cX11_readHill 180 = .ok (.iadd, 1) := by decide +kernel
theorem dX11_readHill_181 : decode cX11_readHill 181 = .ok (.putfield 105, 3) := by decide +kernel
theorem dX11_readHill_184 : decode cX11_readHill 184 = .ok (.aload_n 0, 1) := by decide +kernel
theorem dX11_readHill_185 : decode cX11_readHill 185 = .ok (.iload_n 3, 1) := by decide +kernel
theorem dX11_readHill_186 : decode cX11_readHill 186 = .ok (.aload_n 0, 1) := by decide +kernel
theorem dX11_readHill_187 : decode cX11_readHill 187 = .ok (.getfield 46, 3) := by decide +kernel
theorem dX11_readHill_190 : decode cX11_readHill 190 = .ok (.iconst 4, 1) := by decide +kernel
theorem dX11_readHill_191 : decode cX11_readHill 191 = .ok (.aload_n 0, 1) := by decide +kernel
theorem dX11_readHill_192 : decode cX11_readHill 192 = .ok (.getfield 237, 3) := by decide +kernel
theorem dX11_readHill_195 : decode cX11_readHill 195 = .ok (.imul, 1) := by decide +kernel
theorem dX11_readHill_196 : decode cX11_readHill 196 = .ok (.iconst 4, 1) := by decide +kernel
theorem dX11_readHill_197 : decode cX11_readHill 197 = .ok (.invokevirtual 246, 3) := by decide +kernel
theorem dX11_readHill_200 : decode cX11_readHill 200 = .ok (.aload_n 0, 1) := by decide +kernel
theorem dX11_readHill_201 : decode cX11_readHill 201 = .ok (.dup, 1) := by decide +kernel
theorem dX11_readHill_202 : decode cX11_readHill 202 = .ok (.getfield 237, 3) := by decide +kernel
theorem dX11_readHill_205 : decode cX11_readHill 205 = .ok (.iconst 1, 1) := by decide +kernel
theorem dX11_readHill_206 : decode cX11_readHill 206 = .ok (.iadd, 1) := by decide +kernel
theorem dX11_readHill_207 : decode cX11_readHill 207 = .ok (.putfield 237, 3) := by decide +kernel
theorem dX11_readHill_210 : decode cX11_readHill 210 = .ok (.goto 61, 3) := by decide +kernel
theorem dX11_readHill_213 : decode cX11_readHill 213 = .ok (.iload_n 3, 1) := by decide +kernel
theorem dX11_readHill_214 : decode cX11_readHill 214 = .ok (.bipush 114, 2) := by decide +kernel
theorem dX11_readHill_216 : decode cX11_readHill 216 = .ok (.if_icmp .ne 51, 3) := by decide +kernel
theorem dX11_readHill_219 : decode cX11_readHill 219 = .ok (.aload_n 0, 1) := by decide +kernel
theorem dX11_readHill_220 : decode cX11_readHill 220 = .ok (.getfield 240, 3) := by decide +kernel
theorem dX11_readHill_223 : decode cX11_readHill 223 = .ok (.bipush 8, 2) := by decide +kernel
theorem dX11_readHill_225 : decode cX11_readHill 225 = .ok (.if_icmp .ge 42, 3) := by decide +kernel
theorem dX11_readHill_228 : decode cX11_readHill 228 = .ok (.aload_n 0, 1) := by decide +kernel
theorem dX11_readHill_229 : decode cX11_readHill 229 = .ok (.dup, 1) := by decide +kernel
theorem dX11_readHill_230 : decode cX11_readHill 230 = .ok (.getfield 105, 3) := by decide +kernel
theorem dX11_readHill_233 : decode cX11_readHill 233 = .ok (.iconst 1, 1) := by decide +kernel
theorem dX11_readHill_234 : decode cX11_readHill 234 = .ok (.iadd, 1) := by decide +kernel
theorem dX11_readHill_235 : decode cX11_readHill 235 = .ok (.putfield 105, 3) := by decide +kernel
theorem dX11_readHill_238 : decode cX11_readHill 238 = .ok (.aload_n 0, 1) := by decide +kernel
theorem dX11_readHill_239 : decode cX11_readHill 239 = .ok (.iload_n 3, 1) := by decide +kernel
theorem dX11_readHill_240 : decode cX11_readHill 240 = .ok (.aload_n 0, 1) := by decide +kernel
theorem dX11_readHill_241 : decode cX11_readHill 241 = .ok (.getfield 49, 3) := by decide +kernel
theorem dX11_readHill_244 : decode cX11_readHill 244 = .ok (.iconst 3, 1) := by decide +kernel
theorem dX11_readHill_245 : decode cX11_readHill 245 = .ok (.aload_n 0, 1) := by decide +kernel
theorem dX11_readHill_246 : decode cX11_readHill 246 = .ok (.getfield 240, 3) := by decide +kernel
theorem dX11_readHill_249 : decode cX11_readHill 249 = .ok (.imul, 1) := by decide +kernel
theorem dX11_readHill_250 : decode cX11_readHill 250 = .ok (.iconst 3, 1) := by decide +kernel
theorem dX11_readHill_251 : decode cX11_readHill 251 = .ok (.invokevirtual 246, 3) := by decide +kernel
theorem dX11_readHill_254 : decode cX11_readHill 254 = .ok (.aload_n 0, 1) := by decide +kernel
theorem dX11_readHill_255 : decode cX11_readHill 255 = .ok (.dup, 1) := by decide +kernel
theorem dX11_readHill_256 : decode cX11_readHill 256 = .ok (.getfield 240, 3) := by decide +kernel
theorem dX11_readHill_259 : decode cX11_readHill 259 = .ok (.iconst 1, 1) := by decide +kernel
theorem dX11_readHill_260 : decode cX11_readHill 260 = .ok (.iadd, 1) := by decide +kernel
theorem dX11_readHill_261 : decode cX11_readHill 261 = .ok (.putfield 240, 3) := by decide +kernel
theorem dX11_readHill_264 : decode cX11_readHill 264 = .ok (.goto 7, 3) := by decide +kernel
theorem dX11_readHill_267 : decode cX11_readHill 267 = .ok (.aload_n 0, 1) := by decide +kernel
theorem dX11_readHill_268 : decode cX11_readHill 268 = .ok (.invokevirtual 121, 3) := by decide +kernel
theorem dX11_readHill_271 : decode cX11_readHill 271 = .ok (.aload_n 0, 1) := by decide +kernel
theorem dX11_readHill_272 : decode cX11_readHill 272 = .ok (.getfield 112, 3) := by decide +kernel
theorem dX11_readHill_275 : decode cX11_readHill 275 = .ok (.iconst (-1), 1) := by decide +kernel
theorem dX11_readHill_276 : decode cX11_readHill 276 = .ok (.if_icmp .ne 16, 3) := by decide +kernel
theorem dX11_readHill_279 : decode cX11_readHill 279 = .ok (.aload_n 0, 1) := by decide +kernel
theorem dX11_readHill_280 : decode cX11_readHill 280 = .ok (.invokevirtual 124, 3) := by decide +kernel
theorem dX11_readHill_283 : decode cX11_readHill 283 = .ok (.bipush 59, 2) := by decide +kernel
theorem dX11_readHill_285 : decode cX11_readHill 285 = .ok (.if_icmp .ne 7, 3) := by decide +kernel
theorem dX11_readHill_288 : decode cX11_readHill 288 = .ok (.iconst 1, 1) := by decide +kernel
theorem dX11_readHill_289 : decode cX11_readHill 289 = .ok (.goto 4, 3) := by decide +kernel
theorem dX11_readHill_292 : decode cX11_readHill 292 = .ok (.iconst 0, 1) := by decide +kernel
theorem dX11_readHill_293 : decode cX11_readHill 293 = .ok (.istore_n 2, 1) := by decide +kernel
theorem dX11_readHill_294 : decode cX11_readHill 294 = .ok (.aload_n 0, 1) := by decide +kernel
theorem dX11_readHill_295 : decode cX11_readHill 295 = .ok (.dup, 1) := by decide +kernel
theorem dX11_readHill_296 : decode cX11_readHill 296 = .ok (.getfield 105, 3) := by decide +kernel
theorem dX11_readHill_299 : decode cX11_readHill 299 = .ok (.iload_n 2, 1) := by decide +kernel
theorem dX11_readHill_300 : decode cX11_readHill 300 = .ok (.ifCond .eq 7, 3) := by decide +kernel
theorem dX11_readHill_303 : decode cX11_readHill 303 = .ok (.iconst 1, 1) := by decide +kernel
theorem dX11_readHill_304 : decode cX11_readHill 304 = .ok (.goto 4, 3) := by decide +kernel
theorem dX11_readHill_307 : decode cX11_readHill 307 = .ok (.iconst 0, 1) := by decide +kernel
theorem dX11_readHill_308 : decode cX11_readHill 308 = .ok (.iadd, 1) := by decide +kernel
theorem dX11_readHill_309 : decode cX11_readHill 309 = .ok (.putfield 105, 3) := by decide +kernel
theorem dX11_readHill_312 : decode cX11_readHill 312 = .ok (.goto (-259), 3) := by decide +kernel
theorem dX11_readHill_315 : decode cX11_readHill 315 = .ok (.aload_n 0, 1) := by decide +kernel
theorem dX11_readHill_316 : decode cX11_readHill 316 = .ok (.getfield 112, 3) := by decide +kernel
theorem dX11_readHill_319 : decode cX11_readHill 319 = .ok (.iconst (-1), 1) := by decide +kernel
theorem dX11_readHill_320 : decode cX11_readHill 320 = .ok (.if_icmp .ne 22, 3) := by decide +kernel
theorem dX11_readHill_323 : decode cX11_readHill 323 = .ok (.aload_n 0, 1) := by decide +kernel
theorem dX11_readHill_324 : decode cX11_readHill 324 = .ok (.invokevirtual 124, 3) := by decide +kernel
theorem dX11_readHill_327 : decode cX11_readHill 327 = .ok (.iconst (-1), 1) := by decide +kernel
theorem dX11_readHill_328 : decode cX11_readHill 328 = .ok (.if_icmp .ne 10, 3) := by decide +kernel
theorem dX11_readHill_331 : decode cX11_readHill 331 = .ok (.aload_n 0, 1) := by decide +kernel
theorem dX11_readHill_332 : decode cX11_readHill 332 = .ok (.invokevirtual 250, 3) := by decide +kernel
theorem dX11_readHill_335 : decode cX11_readHill 335 = .ok (.ifCond .ne 7, 3) := by decide +kernel
theorem dX11_readHill_338 : decode cX11_readHill 338 = .ok (.aload_n 0, 1) := by decide +kernel
theorem dX11_readHill_339 : decode cX11_readHill 339 = .ok (.invokevirtual 121, 3) := by decide +kernel
theorem dX11_readHill_342 : decode cX11_readHill 342 = .ok (.aload_n 0, 1) := by decide +kernel
theorem dX11_readHill_343 : decode cX11_readHill 343 = .ok (.getfield 112, 3) := by decide +kernel
theorem dX11_readHill_346 : decode cX11_readHill 346 = .ok (.ireturn, 1) := by decide +kernel
theorem dX11_figure_0 : decode cX11_figure 0 = .ok (.aload_n 0, 1) := by decide +kernel
theorem dX11_figure_1 : decode cX11_figure 1 = .ok (.getfield 112, 3) := by decide +kernel
theorem dX11_figure_4 : decode cX11_figure 4 = .ok (.iconst (-1), 1) := by decide +kernel
theorem dX11_figure_5 : decode cX11_figure 5 = .ok (.if_icmp .eq 5, 3) := by decide +kernel
theorem dX11_figure_8 : decode cX11_figure 8 = .ok (.iconst 0, 1) := by decide +kernel
theorem dX11_figure_9 : decode cX11_figure 9 = .ok (.ireturn, 1) := by decide +kernel
theorem dX11_figure_10 : decode cX11_figure 10 = .ok (.aload_n 0, 1) := by decide +kernel
theorem dX11_figure_11 : decode cX11_figure 11 = .ok (.invokevirtual 124, 3) := by decide +kernel
theorem dX11_figure_14 : decode cX11_figure 14 = .ok (.invokestatic 127, 3) := by decide +kernel
theorem dX11_figure_17 : decode cX11_figure 17 = .ok (.ifCond .ne 9, 3) := by decide +kernel
theorem dX11_figure_20 : decode cX11_figure 20 = .ok (.aload_n 0, 1) := by decide +kernel
theorem dX11_figure_21 : decode cX11_figure 21 = .ok (.invokevirtual 121, 3) := by decide +kernel
theorem dX11_figure_24 : decode cX11_figure 24 = .ok (.iconst 0, 1) := by decide +kernel
theorem dX11_figure_25 : decode cX11_figure 25 = .ok (.ireturn, 1) := by decide +kernel
theorem dX11_figure_26 : decode cX11_figure 26 = .ok (.aload_n 0, 1) := by decide +kernel
theorem dX11_figure_27 : decode cX11_figure 27 = .ok (.invokevirtual 108, 3) := by decide +kernel
theorem dX11_figure_30 : decode cX11_figure 30 = .ok (.bipush 48, 2) := by decide +kernel
theorem dX11_figure_32 : decode cX11_figure 32 = .ok (.isub, 1) := by decide +kernel
theorem dX11_figure_33 : decode cX11_figure 33 = .ok (.istore_n 1, 1) := by decide +kernel
theorem dX11_figure_34 : decode cX11_figure 34 = .ok (.aload_n 0, 1) := by decide +kernel
theorem dX11_figure_35 : decode cX11_figure 35 = .ok (.dup, 1) := by decide +kernel
theorem dX11_figure_36 : decode cX11_figure 36 = .ok (.getfield 105, 3) := by decide +kernel
theorem dX11_figure_39 : decode cX11_figure 39 = .ok (.iconst 1, 1) := by decide +kernel
theorem dX11_figure_40 : decode cX11_figure 40 = .ok (.iadd, 1) := by decide +kernel
theorem dX11_figure_41 : decode cX11_figure 41 = .ok (.putfield 105, 3) := by decide +kernel
theorem dX11_figure_44 : decode cX11_figure 44 = .ok (.iload_n 1, 1) := by decide +kernel
theorem dX11_figure_45 : decode cX11_figure 45 = .ok (.ireturn, 1) := by decide +kernel
theorem dX11_stepText_0 : decode cX11_stepText 0 = .ok (.aload_n 0, 1) := by decide +kernel
theorem dX11_stepText_1 : decode cX11_stepText 1 = .ok (.invokevirtual 124, 3) := by decide +kernel
theorem dX11_stepText_4 : decode cX11_stepText 4 = .ok (.istore_n 2, 1) := by decide +kernel
theorem dX11_stepText_5 : decode cX11_stepText 5 = .ok (.iload_n 2, 1) := by decide +kernel
theorem dX11_stepText_6 : decode cX11_stepText 6 = .ok (.bipush 102, 2) := by decide +kernel
theorem dX11_stepText_8 : decode cX11_stepText 8 = .ok (.if_icmp .ne 7, 3) := by decide +kernel
theorem dX11_stepText_11 : decode cX11_stepText 11 = .ok (.iconst 0, 1) := by decide +kernel
theorem dX11_stepText_12 : decode cX11_stepText 12 = .ok (.goto 24, 3) := by decide +kernel
theorem dX11_stepText_15 : decode cX11_stepText 15 = .ok (.iload_n 2, 1) := by decide +kernel
theorem dX11_stepText_16 : decode cX11_stepText 16 = .ok (.bipush 119, 2) := by decide +kernel
theorem dX11_stepText_18 : decode cX11_stepText 18 = .ok (.if_icmp .ne 7, 3) := by decide +kernel
theorem dX11_stepText_21 : decode cX11_stepText 21 = .ok (.iconst 1, 1) := by decide +kernel
theorem dX11_stepText_22 : decode cX11_stepText 22 = .ok (.goto 14, 3) := by decide +kernel
theorem dX11_stepText_25 : decode cX11_stepText 25 = .ok (.iload_n 2, 1) := by decide +kernel
theorem dX11_stepText_26 : decode cX11_stepText 26 = .ok (.bipush 104, 2) := by decide +kernel
theorem dX11_stepText_28 : decode cX11_stepText 28 = .ok (.if_icmp .ne 7, 3) := by decide +kernel
theorem dX11_stepText_31 : decode cX11_stepText 31 = .ok (.iconst 2, 1) := by decide +kernel
theorem dX11_stepText_32 : decode cX11_stepText 32 = .ok (.goto 4, 3) := by decide +kernel
theorem dX11_stepText_35 : decode cX11_stepText 35 = .ok (.iconst (-1), 1) := by decide +kernel
theorem dX11_stepText_36 : decode cX11_stepText 36 = .ok (.istore_n 3, 1) := by decide +kernel
theorem dX11_stepText_37 : decode cX11_stepText 37 = .ok (.iload_n 3, 1) := by decide +kernel
theorem dX11_stepText_38 : decode cX11_stepText 38 = .ok (.iconst (-1), 1) := by decide +kernel
theorem dX11_stepText_39 : decode cX11_stepText 39 = .ok (.if_icmp .ne 8, 3) := by decide +kernel
theorem dX11_stepText_42 : decode cX11_stepText 42 = .ok (.aload_n 0, 1) := by decide +kernel
theorem dX11_stepText_43 : decode cX11_stepText 43 = .ok (.invokevirtual 121, 3) := by decide +kernel
theorem dX11_stepText_46 : decode cX11_stepText 46 = .ok (.return_, 1) := by decide +kernel
theorem dX11_stepText_47 : decode cX11_stepText 47 = .ok (.aload_n 0, 1) := by decide +kernel
theorem dX11_stepText_48 : decode cX11_stepText 48 = .ok (.dup, 1) := by decide +kernel
theorem dX11_stepText_49 : decode cX11_stepText 49 = .ok (.getfield 105, 3) := by decide +kernel
theorem dX11_stepText_52 : decode cX11_stepText 52 = .ok (.iconst 1, 1) := by decide +kernel
theorem dX11_stepText_53 : decode cX11_stepText 53 = .ok (.iadd, 1) := by decide +kernel
theorem dX11_stepText_54 : decode cX11_stepText 54 = .ok (.putfield 105, 3) := by decide +kernel
theorem dX11_stepText_57 : decode cX11_stepText 57 = .ok (.aload_n 0, 1) := by decide +kernel
theorem dX11_stepText_58 : decode cX11_stepText 58 = .ok (.getfield 64, 3) := by decide +kernel
theorem dX11_stepText_61 : decode cX11_stepText 61 = .ok (.iload_n 1, 1) := by decide +kernel
theorem dX11_stepText_62 : decode cX11_stepText 62 = .ok (.iload_n 3, 1) := by decide +kernel
theorem dX11_stepText_63 : decode cX11_stepText 63 = .ok (.iastore, 1) := by decide +kernel
theorem dX11_stepText_64 : decode cX11_stepText 64 = .ok (.aload_n 0, 1) := by decide +kernel
theorem dX11_stepText_65 : decode cX11_stepText 65 = .ok (.getfield 64, 3) := by decide +kernel
theorem dX11_stepText_68 : decode cX11_stepText 68 = .ok (.iload_n 1, 1) := by decide +kernel
theorem dX11_stepText_69 : decode cX11_stepText 69 = .ok (.iconst 1, 1) := by decide +kernel
theorem dX11_stepText_70 : decode cX11_stepText 70 = .ok (.iadd, 1) := by decide +kernel
theorem dX11_stepText_71 : decode cX11_stepText 71 = .ok (.iload_n 3, 1) := by decide +kernel
theorem dX11_stepText_72 : decode cX11_stepText 72 = .ok (.iconst 2, 1) := by decide +kernel
theorem dX11_stepText_73 : decode cX11_stepText 73 = .ok (.if_icmp .ge 10, 3) := by decide +kernel
theorem dX11_stepText_76 : decode cX11_stepText 76 = .ok (.aload_n 0, 1) := by decide +kernel
theorem dX11_stepText_77 : decode cX11_stepText 77 = .ok (.invokevirtual 254, 3) := by decide +kernel
theorem dX11_stepText_80 : decode cX11_stepText 80 = .ok (.goto 4, 3) := by decide +kernel
theorem dX11_stepText_83 : decode cX11_stepText 83 = .ok (.iconst (-1), 1) := by decide +kernel
theorem dX11_stepText_84 : decode cX11_stepText 84 = .ok (.iastore, 1) := by decide +kernel
theorem dX11_stepText_85 : decode cX11_stepText 85 = .ok (.aload_n 0, 1) := by decide +kernel
theorem dX11_stepText_86 : decode cX11_stepText 86 = .ok (.getfield 64, 3) := by decide +kernel
theorem dX11_stepText_89 : decode cX11_stepText 89 = .ok (.iload_n 1, 1) := by decide +kernel
theorem dX11_stepText_90 : decode cX11_stepText 90 = .ok (.iconst 2, 1) := by decide +kernel
theorem dX11_stepText_91 : decode cX11_stepText 91 = .ok (.iadd, 1) := by decide +kernel
theorem dX11_stepText_92 : decode cX11_stepText 92 = .ok (.iload_n 3, 1) := by decide +kernel
theorem dX11_stepText_93 : decode cX11_stepText 93 = .ok (.ifCond .ne 10, 3) := by decide +kernel
theorem dX11_stepText_96 : decode cX11_stepText 96 = .ok (.aload_n 0, 1) := by decide +kernel
theorem dX11_stepText_97 : decode cX11_stepText 97 = .ok (.invokevirtual 254, 3) := by decide +kernel
theorem dX11_stepText_100 : decode cX11_stepText 100 = .ok (.goto 4, 3) := by decide +kernel
theorem dX11_stepText_103 : decode cX11_stepText 103 = .ok (.iconst (-1), 1) := by decide +kernel
theorem dX11_stepText_104 : decode cX11_stepText 104 = .ok (.iastore, 1) := by decide +kernel
theorem dX11_stepText_105 : decode cX11_stepText 105 = .ok (.return_, 1) := by decide +kernel
theorem dX11_readOrders_0 : decode cX11_readOrders 0 = .ok (.aload_n 0, 1) := by decide +kernel
theorem dX11_readOrders_1 : decode cX11_readOrders 1 = .ok (.iconst 0, 1) := by decide +kernel
theorem dX11_readOrders_2 : decode cX11_readOrders 2 = .ok (.putfield 105, 3) := by decide +kernel
theorem dX11_readOrders_5 : decode cX11_readOrders 5 = .ok (.aload_n 0, 1) := by decide +kernel
theorem dX11_readOrders_6 : decode cX11_readOrders 6 = .ok (.iconst (-1), 1) := by decide +kernel
theorem dX11_readOrders_7 : decode cX11_readOrders 7 = .ok (.putfield 112, 3) := by decide +kernel
theorem dX11_readOrders_10 : decode cX11_readOrders 10 = .ok (.aload_n 0, 1) := by decide +kernel
theorem dX11_readOrders_11 : decode cX11_readOrders 11 = .ok (.getfield 67, 3) := by decide +kernel
theorem dX11_readOrders_14 : decode cX11_readOrders 14 = .ok (.iload_n 1, 1) := by decide +kernel
theorem dX11_readOrders_15 : decode cX11_readOrders 15 = .ok (.iconst 0, 1) := by decide +kernel
theorem dX11_readOrders_16 : decode cX11_readOrders 16 = .ok (.iastore, 1) := by decide +kernel
theorem dX11_readOrders_17 : decode cX11_readOrders 17 = .ok (.iconst 1, 1) := by decide +kernel
theorem dX11_readOrders_18 : decode cX11_readOrders 18 = .ok (.istore_n 2, 1) := by decide +kernel
theorem dX11_readOrders_19 : decode cX11_readOrders 19 = .ok (.iload_n 2, 1) := by decide +kernel
theorem dX11_readOrders_20 : decode cX11_readOrders 20 = .ok (.ifCond .eq 93, 3) := by decide +kernel
theorem dX11_readOrders_23 : decode cX11_readOrders 23 = .ok (.aload_n 0, 1) := by decide +kernel
theorem dX11_readOrders_24 : decode cX11_readOrders 24 = .ok (.getfield 112, 3) := by decide +kernel
theorem dX11_readOrders_27 : decode cX11_readOrders 27 = .ok (.iconst (-1), 1) := by decide +kernel
theorem dX11_readOrders_28 : decode cX11_readOrders 28 = .ok (.if_icmp .ne 85, 3) := by decide +kernel
theorem dX11_readOrders_31 : decode cX11_readOrders 31 = .ok (.aload_n 0, 1) := by decide +kernel
theorem dX11_readOrders_32 : decode cX11_readOrders 32 = .ok (.iconst 3, 1) := by decide +kernel
theorem dX11_readOrders_33 : decode cX11_readOrders 33 = .ok (.bipush 16, 2) := by decide +kernel
theorem dX11_readOrders_35 : decode cX11_readOrders 35 = .ok (.iload_n 1, 1) := by decide +kernel
theorem dX11_readOrders_36 : decode cX11_readOrders 36 = .ok (.imul, 1) := by decide +kernel
theorem dX11_readOrders_37 : decode cX11_readOrders 37 = .ok (.aload_n 0, 1) := by decide +kernel
theorem dX11_readOrders_38 : decode cX11_readOrders 38 = .ok (.getfield 67, 3) := by decide +kernel
theorem dX11_readOrders_41 : decode cX11_readOrders 41 = .ok (.iload_n 1, 1) := by decide +kernel
theorem dX11_readOrders_42 : decode cX11_readOrders 42 = .ok (.iaload, 1) := by decide +kernel
theorem dX11_readOrders_43 : decode cX11_readOrders 43 = .ok (.iadd, 1) := by decide +kernel
theorem dX11_readOrders_44 : decode cX11_readOrders 44 = .ok (.imul, 1) := by decide +kernel
theorem dX11_readOrders_45 : decode cX11_readOrders 45 = .ok (.invokevirtual 257, 3) := by decide +kernel
theorem dX11_readOrders_48 : decode cX11_readOrders 48 = .ok (.aload_n 0, 1) := by decide +kernel
theorem dX11_readOrders_49 : decode cX11_readOrders 49 = .ok (.getfield 67, 3) := by decide +kernel
theorem dX11_readOrders_52 : decode cX11_readOrders 52 = .ok (.iload_n 1, 1) := by decide +kernel
theorem dX11_readOrders_53 : decode cX11_readOrders 53 = .ok (.dup2, 1) := by decide +kernel
theorem dX11_readOrders_54 : decode cX11_readOrders 54 = .ok (.iaload, 1) := by decide +kernel
theorem dX11_readOrders_55 : decode cX11_readOrders 55 = .ok (.iconst 1, 1) := by decide +kernel
theorem dX11_readOrders_56 : decode cX11_readOrders 56 = .ok (.iadd, 1) := by decide +kernel
theorem dX11_readOrders_57 : decode cX11_readOrders 57 = .ok (.iastore, 1) := by decide +kernel
theorem dX11_readOrders_58 : decode cX11_readOrders 58 = .ok (.aload_n 0, 1) := by decide +kernel
theorem dX11_readOrders_59 : decode cX11_readOrders 59 = .ok (.getfield 112, 3) := by decide +kernel
theorem dX11_readOrders_62 : decode cX11_readOrders 62 = .ok (.iconst (-1), 1) := by decide +kernel
theorem dX11_readOrders_63 : decode cX11_readOrders 63 = .ok (.if_icmp .ne 27, 3) := by decide +kernel
theorem dX11_readOrders_66 : decode cX11_readOrders 66 = .ok (.aload_n 0, 1) := by decide +kernel
theorem dX11_readOrders_67 : decode cX11_readOrders 67 = .ok (.invokevirtual 124, 3) := by decide +kernel
theorem dX11_readOrders_70 : decode cX11_readOrders 70 = .ok (.bipush 59, 2) := by decide +kernel
theorem dX11_readOrders_72 : decode cX11_readOrders 72 = .ok (.if_icmp .ne 18, 3) := by decide +kernel
theorem dX11_readOrders_75 : decode cX11_readOrders 75 = .ok (.aload_n 0, 1) := by decide +kernel
theorem dX11_readOrders_76 : decode cX11_readOrders 76 = .ok (.getfield 67, 3) := by decide +kernel
theorem dX11_readOrders_79 : decode cX11_readOrders 79 = .ok (.iload_n 1, 1) := by decide +kernel
theorem dX11_readOrders_80 : decode cX11_readOrders 80 = .ok (.iaload, 1) := by decide +kernel
theorem dX11_readOrders_81 : decode cX11_readOrders 81 = .ok (.bipush 16, 2) := by decide +kernel
theorem dX11_readOrders_83 : decode cX11_readOrders 83 = .ok (.if_icmp .ge 7, 3) := by decide +kernel
theorem dX11_readOrders_86 : decode cX11_readOrders 86 = .ok (.iconst 1, 1) := by decide +kernel
theorem dX11_readOrders_87 : decode cX11_readOrders 87 = .ok (.goto 4, 3) := by decide +kernel
theorem dX11_readOrders_90 : decode cX11_readOrders 90 = .ok (.iconst 0, 1) := by decide +kernel
theorem dX11_readOrders_91 : decode cX11_readOrders 91 = .ok (.istore_n 2, 1) := by decide +kernel
theorem dX11_readOrders_92 : decode cX11_readOrders 92 = .ok (.aload_n 0, 1) := by decide +kernel
theorem dX11_readOrders_93 : decode cX11_readOrders 93 = .ok (.dup, 1) := by decide +kernel
theorem dX11_readOrders_94 : decode cX11_readOrders 94 = .ok (.getfield 105, 3) := by decide +kernel
theorem dX11_readOrders_97 : decode cX11_readOrders 97 = .ok (.iload_n 2, 1) := by decide +kernel
theorem dX11_readOrders_98 : decode cX11_readOrders 98 = .ok (.ifCond .eq 7, 3) := by decide +kernel
theorem dX11_readOrders_101 : decode cX11_readOrders 101 = .ok (.iconst 1, 1) := by decide +kernel
theorem dX11_readOrders_102 : decode cX11_readOrders 102 = .ok (.goto 4, 3) := by decide +kernel
theorem dX11_readOrders_105 : decode cX11_readOrders 105 = .ok (.iconst 0, 1) := by decide +kernel
theorem dX11_readOrders_106 : decode cX11_readOrders 106 = .ok (.iadd, 1) := by decide +kernel
theorem dX11_readOrders_107 : decode cX11_readOrders 107 = .ok (.putfield 105, 3) := by decide +kernel
theorem dX11_readOrders_110 : decode cX11_readOrders 110 = .ok (.goto (-91), 3) := by decide +kernel
theorem dX11_readOrders_113 : decode cX11_readOrders 113 = .ok (.aload_n 0, 1) := by decide +kernel
theorem dX11_readOrders_114 : decode cX11_readOrders 114 = .ok (.getfield 112, 3) := by decide +kernel
theorem dX11_readOrders_117 : decode cX11_readOrders 117 = .ok (.iconst (-1), 1) := by decide +kernel
theorem dX11_readOrders_118 : decode cX11_readOrders 118 = .ok (.if_icmp .ne 15, 3) := by decide +kernel
theorem dX11_readOrders_121 : decode cX11_readOrders 121 = .ok (.aload_n 0, 1) := by decide +kernel
theorem dX11_readOrders_122 : decode cX11_readOrders 122 = .ok (.invokevirtual 124, 3) := by decide +kernel
theorem dX11_readOrders_125 : decode cX11_readOrders 125 = .ok (.iconst (-1), 1) := by decide +kernel
theorem dX11_readOrders_126 : decode cX11_readOrders 126 = .ok (.if_icmp .eq 7, 3) := by decide +kernel
theorem dX11_readOrders_129 : decode cX11_readOrders 129 = .ok (.aload_n 0, 1) := by decide +kernel
theorem dX11_readOrders_130 : decode cX11_readOrders 130 = .ok (.invokevirtual 121, 3) := by decide +kernel
theorem dX11_readOrders_133 : decode cX11_readOrders 133 = .ok (.aload_n 0, 1) := by decide +kernel
theorem dX11_readOrders_134 : decode cX11_readOrders 134 = .ok (.getfield 112, 3) := by decide +kernel
theorem dX11_readOrders_137 : decode cX11_readOrders 137 = .ok (.ireturn, 1) := by decide +kernel
theorem dX11_fault_0 : decode cX11_fault 0 = .ok (.iload_n 1, 1) := by decide +kernel
theorem dX11_fault_1 : decode cX11_fault 1 = .ok (.ifCond .ne 10, 3) := by decide +kernel
theorem dX11_fault_4 : decode cX11_fault 4 = .ok (.aload_n 0, 1) := by decide +kernel
theorem dX11_fault_5 : decode cX11_fault 5 = .ok (.invokevirtual 260, 3) := by decide +kernel
theorem dX11_fault_8 : decode cX11_fault 8 = .ok (.goto 31, 3) := by decide +kernel
theorem dX11_fault_11 : decode cX11_fault 11 = .ok (.iload_n 1, 1) := by decide +kernel
theorem dX11_fault_12 : decode cX11_fault 12 = .ok (.iconst 1, 1) := by decide +kernel
theorem dX11_fault_13 : decode cX11_fault 13 = .ok (.if_icmp .ne 11, 3) := by decide +kernel
theorem dX11_fault_16 : decode cX11_fault 16 = .ok (.aload_n 0, 1) := by decide +kernel
theorem dX11_fault_17 : decode cX11_fault 17 = .ok (.iconst 4, 1) := by decide +kernel
theorem dX11_fault_18 : decode cX11_fault 18 = .ok (.invokevirtual 263, 3) := by decide +kernel
theorem dX11_fault_21 : decode cX11_fault 21 = .ok (.goto 18, 3) := by decide +kernel
theorem dX11_fault_24 : decode cX11_fault 24 = .ok (.iload_n 1, 1) := by decide +kernel
theorem dX11_fault_25 : decode cX11_fault 25 = .ok (.iconst 2, 1) := by decide +kernel
theorem dX11_fault_26 : decode cX11_fault 26 = .ok (.if_icmp .ne 11, 3) := by decide +kernel
theorem dX11_fault_29 : decode cX11_fault 29 = .ok (.aload_n 0, 1) := by decide +kernel
theorem dX11_fault_30 : decode cX11_fault 30 = .ok (.iconst 4, 1) := by decide +kernel
theorem dX11_fault_31 : decode cX11_fault 31 = .ok (.invokevirtual 266, 3) := by decide +kernel
theorem dX11_fault_34 : decode cX11_fault 34 = .ok (.goto 5, 3) := by decide +kernel
theorem dX11_fault_37 : decode cX11_fault 37 = .ok (.bipush (-2), 2) := by decide +kernel
theorem dX11_fault_39 : decode cX11_fault 39 = .ok (.ireturn, 1) := by decide +kernel
theorem dX11_takeHill_0 : decode cX11_takeHill 0 = .ok (.aload_n 0, 1) := by decide +kernel
theorem dX11_takeHill_1 : decode cX11_takeHill 1 = .ok (.aload_n 0, 1) := by decide +kernel
theorem dX11_takeHill_2 : decode cX11_takeHill 2 = .ok (.getfield 234, 3) := by decide +kernel
theorem dX11_takeHill_5 : decode cX11_takeHill 5 = .ok (.putfield 269, 3) := by decide +kernel
theorem dX11_takeHill_8 : decode cX11_takeHill 8 = .ok (.aload_n 0, 1) := by decide +kernel
theorem dX11_takeHill_9 : decode cX11_takeHill 9 = .ok (.aload_n 0, 1) := by decide +kernel
theorem dX11_takeHill_10 : decode cX11_takeHill 10 = .ok (.getfield 237, 3) := by decide +kernel
theorem dX11_takeHill_13 : decode cX11_takeHill 13 = .ok (.putfield 272, 3) := by decide +kernel
theorem dX11_takeHill_16 : decode cX11_takeHill 16 = .ok (.aload_n 0, 1) := by decide +kernel
theorem dX11_takeHill_17 : decode cX11_takeHill 17 = .ok (.aload_n 0, 1) := by decide +kernel
theorem dX11_takeHill_18 : decode cX11_takeHill 18 = .ok (.getfield 240, 3) := by decide +kernel
theorem dX11_takeHill_21 : decode cX11_takeHill 21 = .ok (.putfield 275, 3) := by decide +kernel
theorem dX11_takeHill_24 : decode cX11_takeHill 24 = .ok (.iconst 0, 1) := by decide +kernel
theorem dX11_takeHill_25 : decode cX11_takeHill 25 = .ok (.istore_n 1, 1) := by decide +kernel
theorem dX11_takeHill_26 : decode cX11_takeHill 26 = .ok (.iload_n 1, 1) := by decide +kernel
theorem dX11_takeHill_27 : decode cX11_takeHill 27 = .ok (.iconst 2, 1) := by decide +kernel
theorem dX11_takeHill_28 : decode cX11_takeHill 28 = .ok (.if_icmp .ge 21, 3) := by decide +kernel
theorem dX11_takeHill_31 : decode cX11_takeHill 31 = .ok (.aload_n 0, 1) := by decide +kernel
theorem dX11_takeHill_32 : decode cX11_takeHill 32 = .ok (.getfield 52, 3) := by decide +kernel
theorem dX11_takeHill_35 : decode cX11_takeHill 35 = .ok (.iload_n 1, 1) := by decide +kernel
theorem dX11_takeHill_36 : decode cX11_takeHill 36 = .ok (.aload_n 0, 1) := by decide +kernel
theorem dX11_takeHill_37 : decode cX11_takeHill 37 = .ok (.getfield 40, 3) := by decide +kernel
theorem dX11_takeHill_40 : decode cX11_takeHill 40 = .ok (.iload_n 1, 1) := by decide +kernel
theorem dX11_takeHill_41 : decode cX11_takeHill 41 = .ok (.iaload, 1) := by decide +kernel
theorem dX11_takeHill_42 : decode cX11_takeHill 42 = .ok (.iastore, 1) := by decide +kernel
theorem dX11_takeHill_43 : decode cX11_takeHill 43 = .ok (.iinc 1 1, 3) := by decide +kernel
theorem dX11_takeHill_46 : decode cX11_takeHill 46 = .ok (.goto (-20), 3) := by decide +kernel
theorem dX11_takeHill_49 : decode cX11_takeHill 49 = .ok (.iconst 0, 1) := by decide +kernel
theorem dX11_takeHill_50 : decode cX11_takeHill 50 = .ok (.istore_n 1, 1) := by decide +kernel
theorem dX11_takeHill_51 : decode cX11_takeHill 51 = .ok (.iload_n 1, 1) := by decide +kernel
theorem dX11_takeHill_52 : decode cX11_takeHill 52 = .ok (.bipush 18, 2) := by decide +kernel
theorem dX11_takeHill_54 : decode cX11_takeHill 54 = .ok (.if_icmp .ge 21, 3) := by decide +kernel
theorem dX11_takeHill_57 : decode cX11_takeHill 57 = .ok (.aload_n 0, 1) := by decide +kernel
theorem dX11_takeHill_58 : decode cX11_takeHill 58 = .ok (.getfield 55, 3) := by decide +kernel
theorem dX11_takeHill_61 : decode cX11_takeHill 61 = .ok (.iload_n 1, 1) := by decide +kernel
theorem dX11_takeHill_62 : decode cX11_takeHill 62 = .ok (.aload_n 0, 1) := by decide +kernel
theorem dX11_takeHill_63 : decode cX11_takeHill 63 = .ok (.getfield 43, 3) := by decide +kernel
theorem dX11_takeHill_66 : decode cX11_takeHill 66 = .ok (.iload_n 1, 1) := by decide +kernel
theorem dX11_takeHill_67 : decode cX11_takeHill 67 = .ok (.iaload, 1) := by decide +kernel
theorem dX11_takeHill_68 : decode cX11_takeHill 68 = .ok (.iastore, 1) := by decide +kernel
theorem dX11_takeHill_69 : decode cX11_takeHill 69 = .ok (.iinc 1 1, 3) := by decide +kernel
theorem dX11_takeHill_72 : decode cX11_takeHill 72 = .ok (.goto (-21), 3) := by decide +kernel
theorem dX11_takeHill_75 : decode cX11_takeHill 75 = .ok (.iconst 0, 1) := by decide +kernel
theorem dX11_takeHill_76 : decode cX11_takeHill 76 = .ok (.istore_n 1, 1) := by decide +kernel
theorem dX11_takeHill_77 : decode cX11_takeHill 77 = .ok (.iload_n 1, 1) := by decide +kernel
theorem dX11_takeHill_78 : decode cX11_takeHill 78 = .ok (.bipush 16, 2) := by decide +kernel
theorem dX11_takeHill_80 : decode cX11_takeHill 80 = .ok (.if_icmp .ge 21, 3) := by decide +kernel
theorem dX11_takeHill_83 : decode cX11_takeHill 83 = .ok (.aload_n 0, 1) := by decide +kernel
theorem dX11_takeHill_84 : decode cX11_takeHill 84 = .ok (.getfield 58, 3) := by decide +kernel
theorem dX11_takeHill_87 : decode cX11_takeHill 87 = .ok (.iload_n 1, 1) := by decide +kernel
theorem dX11_takeHill_88 : decode cX11_takeHill 88 = .ok (.aload_n 0, 1) := by decide +kernel
theorem dX11_takeHill_89 : decode cX11_takeHill 89 = .ok (.getfield 46, 3) := by decide +kernel
theorem dX11_takeHill_92 : decode cX11_takeHill 92 = .ok (.iload_n 1, 1) := by decide +kernel
theorem dX11_takeHill_93 : decode cX11_takeHill 93 = .ok (.iaload, 1) := by decide +kernel
theorem dX11_takeHill_94 : decode cX11_takeHill 94 = .ok (.iastore, 1) := by decide +kernel
theorem dX11_takeHill_95 : decode cX11_takeHill 95 = .ok (.iinc 1 1, 3) := by decide +kernel
theorem dX11_takeHill_98 : decode cX11_takeHill 98 = .ok (.goto (-21), 3) := by decide +kernel
theorem dX11_takeHill_101 : decode cX11_takeHill 101 = .ok (.iconst 0, 1) := by decide +kernel
theorem dX11_takeHill_102 : decode cX11_takeHill 102 = .ok (.istore_n 1, 1) := by decide +kernel
theorem dX11_takeHill_103 : decode cX11_takeHill 103 = .ok (.iload_n 1, 1) := by decide +kernel
theorem dX11_takeHill_104 : decode cX11_takeHill 104 = .ok (.bipush 24, 2) := by decide +kernel
theorem dX11_takeHill_106 : decode cX11_takeHill 106 = .ok (.if_icmp .ge 21, 3) := by decide +kernel
theorem dX11_takeHill_109 : decode cX11_takeHill 109 = .ok (.aload_n 0, 1) := by decide +kernel
theorem dX11_takeHill_110 : decode cX11_takeHill 110 = .ok (.getfield 61, 3) := by decide +kernel
theorem dX11_takeHill_113 : decode cX11_takeHill 113 = .ok (.iload_n 1, 1) := by decide +kernel
theorem dX11_takeHill_114 : decode cX11_takeHill 114 = .ok (.aload_n 0, 1) := by decide +kernel
theorem dX11_takeHill_115 : decode cX11_takeHill 115 = .ok (.getfield 49, 3) := by decide +kernel
theorem dX11_takeHill_118 : decode cX11_takeHill 118 = .ok (.iload_n 1, 1) := by decide +kernel
theorem dX11_takeHill_119 : decode cX11_takeHill 119 = .ok (.iaload, 1) := by decide +kernel
theorem dX11_takeHill_120 : decode cX11_takeHill 120 = .ok (.iastore, 1) := by decide +kernel
theorem dX11_takeHill_121 : decode cX11_takeHill 121 = .ok (.iinc 1 1, 3) := by decide +kernel
theorem dX11_takeHill_124 : decode cX11_takeHill 124 = .ok (.goto (-21), 3) := by decide +kernel
theorem dX11_takeHill_127 : decode cX11_takeHill 127 = .ok (.iconst 0, 1) := by decide +kernel
theorem dX11_takeHill_128 : decode cX11_takeHill 128 = .ok (.istore_n 1, 1) := by decide +kernel
theorem dX11_takeHill_129 : decode cX11_takeHill 129 = .ok (.iload_n 1, 1) := by decide +kernel
theorem dX11_takeHill_130 : decode cX11_takeHill 130 = .ok (.sipush 165, 3) := by decide +kernel
theorem dX11_takeHill_133 : decode cX11_takeHill 133 = .ok (.if_icmp .ge 16, 3) := by decide +kernel
theorem dX11_takeHill_136 : decode cX11_takeHill 136 = .ok (.aload_n 0, 1) := by decide +kernel
theorem dX11_takeHill_137 : decode cX11_takeHill 137 = .ok (.getfield 70, 3) := by decide +kernel
theorem dX11_takeHill_140 : decode cX11_takeHill 140 = .ok (.iload_n 1, 1) := by decide +kernel
theorem dX11_takeHill_141 : decode cX11_takeHill 141 = .ok (.iconst 0, 1) := by decide +kernel
theorem dX11_takeHill_142 : decode cX11_takeHill 142 = .ok (.iastore, 1) := by decide +kernel
theorem dX11_takeHill_143 : decode cX11_takeHill 143 = .ok (.iinc 1 1, 3) := by decide +kernel
theorem dX11_takeHill_146 : decode cX11_takeHill 146 = .ok (.goto (-17), 3) := by decide +kernel
theorem dX11_takeHill_149 : decode cX11_takeHill 149 = .ok (.iconst 0, 1) := by decide +kernel
theorem dX11_takeHill_150 : decode cX11_takeHill 150 = .ok (.istore_n 1, 1) := by decide +kernel
theorem dX11_takeHill_151 : decode cX11_takeHill 151 = .ok (.iload_n 1, 1) := by decide +kernel
theorem dX11_takeHill_152 : decode cX11_takeHill 152 = .ok (.aload_n 0, 1) := by decide +kernel
theorem dX11_takeHill_153 : decode cX11_takeHill 153 = .ok (.getfield 269, 3) := by decide +kernel
theorem dX11_takeHill_156 : decode cX11_takeHill 156 = .ok (.if_icmp .ge 16, 3) := by decide +kernel
theorem dX11_takeHill_159 : decode cX11_takeHill 159 = .ok (.aload_n 0, 1) := by decide +kernel
theorem dX11_takeHill_160 : decode cX11_takeHill 160 = .ok (.iload_n 1, 1) := by decide +kernel
theorem dX11_takeHill_161 : decode cX11_takeHill 161 = .ok (.iconst 1, 1) := by decide +kernel
theorem dX11_takeHill_162 : decode cX11_takeHill 162 = .ok (.iconst (-1), 1) := by decide +kernel
theorem dX11_takeHill_163 : decode cX11_takeHill 163 = .ok (.invokevirtual 278, 3) := by decide +kernel
theorem dX11_takeHill_166 : decode cX11_takeHill 166 = .ok (.iinc 1 1, 3) := by decide +kernel
theorem dX11_takeHill_169 : decode cX11_takeHill 169 = .ok (.goto (-18), 3) := by decide +kernel
theorem dX11_takeHill_172 : decode cX11_takeHill 172 = .ok (.aload_n 0, 1) := by decide +kernel
theorem dX11_takeHill_173 : decode cX11_takeHill 173 = .ok (.iconst 0, 1) := by decide +kernel
theorem dX11_takeHill_174 : decode cX11_takeHill 174 = .ok (.putfield 281, 3) := by decide +kernel
theorem dX11_takeHill_177 : decode cX11_takeHill 177 = .ok (.aload_n 0, 1) := by decide +kernel
theorem dX11_takeHill_178 : decode cX11_takeHill 178 = .ok (.iconst 0, 1) := by decide +kernel
theorem dX11_takeHill_179 : decode cX11_takeHill 179 = .ok (.putfield 284, 3) := by decide +kernel
theorem dX11_takeHill_182 : decode cX11_takeHill 182 = .ok (.aload_n 0, 1) := by decide +kernel
theorem dX11_takeHill_183 : decode cX11_takeHill 183 = .ok (.iconst 0, 1) := by decide +kernel
theorem dX11_takeHill_184 : decode cX11_takeHill 184 = .ok (.putfield 287, 3) := by decide +kernel
theorem dX11_takeHill_187 : decode cX11_takeHill 187 = .ok (.aload_n 0, 1) := by decide +kernel
theorem dX11_takeHill_188 : decode cX11_takeHill 188 = .ok (.getfield 269, 3) := by decide +kernel
theorem dX11_takeHill_191 : decode cX11_takeHill 191 = .ok (.ireturn, 1) := by decide +kernel
theorem dX11_text_0 : decode cX11_text 0 = .ok (.iload_n 1, 1) := by decide +kernel
theorem dX11_text_1 : decode cX11_text 1 = .ok (.ifCond .ne 21, 3) := by decide +kernel
theorem dX11_text_4 : decode cX11_text 4 = .ok (.aload_n 0, 1) := by decide +kernel
theorem dX11_text_5 : decode cX11_text 5 = .ok (.invokevirtual 260, 3) := by decide +kernel
theorem dX11_text_8 : decode cX11_text 8 = .ok (.iconst (-1), 1) := by decide +kernel
theorem dX11_text_9 : decode cX11_text 9 = .ok (.if_icmp .ne 13, 3) := by decide +kernel
theorem dX11_text_12 : decode cX11_text 12 = .ok (.aload_n 0, 1) := by decide +kernel
theorem dX11_text_13 : decode cX11_text 13 = .ok (.iconst 0, 1) := by decide +kernel
theorem dX11_text_14 : decode cX11_text 14 = .ok (.putfield 102, 3) := by decide +kernel
theorem dX11_text_17 : decode cX11_text 17 = .ok (.aload_n 0, 1) := by decide +kernel
theorem dX11_text_18 : decode cX11_text 18 = .ok (.invokevirtual 291, 3) := by decide +kernel
theorem dX11_text_21 : decode cX11_text 21 = .ok (.ireturn, 1) := by decide +kernel
theorem dX11_text_22 : decode cX11_text 22 = .ok (.iload_n 1, 1) := by decide +kernel
theorem dX11_text_23 : decode cX11_text 23 = .ok (.iconst 1, 1) := by decide +kernel
theorem dX11_text_24 : decode cX11_text 24 = .ok (.if_icmp .ne 45, 3) := by decide +kernel
theorem dX11_text_27 : decode cX11_text 27 = .ok (.aload_n 0, 1) := by decide +kernel
theorem dX11_text_28 : decode cX11_text 28 = .ok (.getfield 294, 3) := by decide +kernel
theorem dX11_text_31 : decode cX11_text 31 = .ok (.iconst 4, 1) := by decide +kernel
theorem dX11_text_32 : decode cX11_text 32 = .ok (.if_icmp .ge 37, 3) := by decide +kernel
theorem dX11_text_35 : decode cX11_text 35 = .ok (.aload_n 0, 1) := by decide +kernel
theorem dX11_text_36 : decode cX11_text 36 = .ok (.aload_n 0, 1) := by decide +kernel
theorem dX11_text_37 : decode cX11_text 37 = .ok (.getfield 294, 3) := by decide +kernel
theorem dX11_text_40 : decode cX11_text 40 = .ok (.invokevirtual 263, 3) := by decide +kernel
theorem dX11_text_43 : decode cX11_text 43 = .ok (.iconst (-1), 1) := by decide +kernel
theorem dX11_text_44 : decode cX11_text 44 = .ok (.if_icmp .ne 25, 3) := by decide +kernel
theorem dX11_text_47 : decode cX11_text 47 = .ok (.aload_n 0, 1) := by decide +kernel
theorem dX11_text_48 : decode cX11_text 48 = .ok (.iconst 0, 1) := by decide +kernel
theorem dX11_text_49 : decode cX11_text 49 = .ok (.putfield 102, 3) := by decide +kernel
theorem dX11_text_52 : decode cX11_text 52 = .ok (.aload_n 0, 1) := by decide +kernel
theorem dX11_text_53 : decode cX11_text 53 = .ok (.dup, 1) := by decide +kernel
theorem dX11_text_54 : decode cX11_text 54 = .ok (.getfield 294, 3) := by decide +kernel
theorem dX11_text_57 : decode cX11_text 57 = .ok (.iconst 1, 1) := by decide +kernel
theorem dX11_text_58 : decode cX11_text 58 = .ok (.iadd, 1) := by decide +kernel
theorem dX11_text_59 : decode cX11_text 59 = .ok (.putfield 294, 3) := by decide +kernel
theorem dX11_text_62 : decode cX11_text 62 = .ok (.aload_n 0, 1) := by decide +kernel
theorem dX11_text_63 : decode cX11_text 63 = .ok (.getfield 294, 3) := by decide +kernel
theorem dX11_text_66 : decode cX11_text 66 = .ok (.iconst 1, 1) := by decide +kernel
theorem dX11_text_67 : decode cX11_text 67 = .ok (.isub, 1) := by decide +kernel
theorem dX11_text_68 : decode cX11_text 68 = .ok (.ireturn, 1) := by decide +kernel
theorem dX11_text_69 : decode cX11_text 69 = .ok (.iload_n 1, 1) := by decide +kernel
theorem dX11_text_70 : decode cX11_text 70 = .ok (.iconst 2, 1) := by decide +kernel
theorem dX11_text_71 : decode cX11_text 71 = .ok (.if_icmp .ne 45, 3) := by decide +kernel
theorem dX11_text_74 : decode cX11_text 74 = .ok (.aload_n 0, 1) := by decide +kernel
theorem dX11_text_75 : decode cX11_text 75 = .ok (.getfield 297, 3) := by decide +kernel
theorem dX11_text_78 : decode cX11_text 78 = .ok (.iconst 4, 1) := by decide +kernel
theorem dX11_text_79 : decode cX11_text 79 = .ok (.if_icmp .ge 37, 3) := by decide +kernel
theorem dX11_text_82 : decode cX11_text 82 = .ok (.aload_n 0, 1) := by decide +kernel
theorem dX11_text_83 : decode cX11_text 83 = .ok (.aload_n 0, 1) := by decide +kernel
theorem dX11_text_84 : decode cX11_text 84 = .ok (.getfield 297, 3) := by decide +kernel
theorem dX11_text_87 : decode cX11_text 87 = .ok (.invokevirtual 266, 3) := by decide +kernel
theorem dX11_text_90 : decode cX11_text 90 = .ok (.iconst (-1), 1) := by decide +kernel
theorem dX11_text_91 : decode cX11_text 91 = .ok (.if_icmp .ne 25, 3) := by decide +kernel
theorem dX11_text_94 : decode cX11_text 94 = .ok (.aload_n 0, 1) := by decide +kernel
theorem dX11_text_95 : decode cX11_text 95 = .ok (.iconst 0, 1) := by decide +kernel
theorem dX11_text_96 : decode cX11_text 96 = .ok (.putfield 102, 3) := by decide +kernel
theorem dX11_text_99 : decode cX11_text 99 = .ok (.aload_n 0, 1) := by decide +kernel
theorem dX11_text_100 : decode cX11_text 100 = .ok (.dup, 1) := by decide +kernel
theorem dX11_text_101 : decode cX11_text 101 = .ok (.getfield 297, 3) := by decide +kernel
theorem dX11_text_104 : decode cX11_text 104 = .ok (.iconst 1, 1) := by decide +kernel
theorem dX11_text_105 : decode cX11_text 105 = .ok (.iadd, 1) := by decide +kernel
theorem dX11_text_106 : decode cX11_text 106 = .ok (.putfield 297, 3) := by decide +kernel
theorem dX11_text_109 : decode cX11_text 109 = .ok (.aload_n 0, 1) := by decide +kernel
theorem dX11_text_110 : decode cX11_text 110 = .ok (.getfield 297, 3) := by decide +kernel
theorem dX11_text_113 : decode cX11_text 113 = .ok (.iconst 1, 1) := by decide +kernel
theorem dX11_text_114 : decode cX11_text 114 = .ok (.isub, 1) := by decide +kernel
theorem dX11_text_115 : decode cX11_text 115 = .ok (.ireturn, 1) := by decide +kernel
theorem dX11_text_116 : decode cX11_text 116 = .ok (.iconst (-1), 1) := by decide +kernel
theorem dX11_text_117 : decode cX11_text 117 = .ok (.ireturn, 1) := by decide +kernel
theorem dX11_of_0 : decode cX11_of 0 = .ok (.aload_n 0, 1) := by decide +kernel
theorem dX11_of_1 : decode cX11_of 1 = .ok (.getfield 70, 3) := by decide +kernel
theorem dX11_of_4 : decode cX11_of 4 = .ok (.bipush 7, 2) := by decide +kernel
theorem dX11_of_6 : decode cX11_of 6 = .ok (.iload_n 1, 1) := by decide +kernel
theorem dX11_of_7 : decode cX11_of 7 = .ok (.imul, 1) := by decide +kernel
theorem dX11_of_8 : decode cX11_of 8 = .ok (.iload_n 2, 1) := by decide +kernel
theorem dX11_of_9 : decode cX11_of 9 = .ok (.iadd, 1) := by decide +kernel
theorem dX11_of_10 : decode cX11_of 10 = .ok (.iaload, 1) := by decide +kernel
theorem dX11_of_11 : decode cX11_of 11 = .ok (.ireturn, 1) := by decide +kernel
theorem dX11_put__0 : decode cX11_put_ 0 = .ok (.aload_n 0, 1) := by decide +kernel
theorem dX11_put__1 : decode cX11_put_ 1 = .ok (.getfield 70, 3) := by decide +kernel
theorem dX11_put__4 : decode cX11_put_ 4 = .ok (.bipush 7, 2) := by decide +kernel
theorem dX11_put__6 : decode cX11_put_ 6 = .ok (.iload_n 1, 1) := by decide +kernel
theorem dX11_put__7 : decode cX11_put_ 7 = .ok (.imul, 1) := by decide +kernel
theorem dX11_put__8 : decode cX11_put_ 8 = .ok (.iload_n 2, 1) := by decide +kernel
theorem dX11_put__9 : decode cX11_put_ 9 = .ok (.iadd, 1) := by decide +kernel
theorem dX11_put__10 : decode cX11_put_ 10 = .ok (.iload_n 3, 1) := by decide +kernel
theorem dX11_put__11 : decode cX11_put_ 11 = .ok (.iastore, 1) := by decide +kernel
theorem dX11_put__12 : decode cX11_put_ 12 = .ok (.return_, 1) := by decide +kernel
theorem dX11_isParish_0 : decode cX11_isParish 0 = .ok (.iload_n 1, 1) := by decide +kernel
theorem dX11_isParish_1 : decode cX11_isParish 1 = .ok (.iconst 0, 1) := by decide +kernel
theorem dX11_isParish_2 : decode cX11_isParish 2 = .ok (.aload_n 0, 1) := by decide +kernel
theorem dX11_isParish_3 : decode cX11_isParish 3 = .ok (.getfield 269, 3) := by decide +kernel
theorem dX11_isParish_6 : decode cX11_isParish 6 = .ok (.iconst 1, 1) := by decide +kernel
theorem dX11_isParish_7 : decode cX11_isParish 7 = .ok (.isub, 1) := by decide +kernel
theorem dX11_isParish_8 : decode cX11_isParish 8 = .ok (.invokestatic 210, 3) := by decide +kernel
theorem dX11_isParish_11 : decode cX11_isParish 11 = .ok (.ireturn, 1) := by decide +kernel
theorem dX11_isPaper_0 : decode cX11_isPaper 0 = .ok (.iload_n 1, 1) := by decide +kernel
theorem dX11_isPaper_1 : decode cX11_isPaper 1 = .ok (.iconst 0, 1) := by decide +kernel
theorem dX11_isPaper_2 : decode cX11_isPaper 2 = .ok (.aload_n 0, 1) := by decide +kernel
theorem dX11_isPaper_3 : decode cX11_isPaper 3 = .ok (.getfield 275, 3) := by decide +kernel
theorem dX11_isPaper_6 : decode cX11_isPaper 6 = .ok (.iconst 1, 1) := by decide +kernel
theorem dX11_isPaper_7 : decode cX11_isPaper 7 = .ok (.isub, 1) := by decide +kernel
theorem dX11_isPaper_8 : decode cX11_isPaper 8 = .ok (.invokestatic 210, 3) := by decide +kernel
theorem dX11_isPaper_11 : decode cX11_isPaper 11 = .ok (.ireturn, 1) := by decide +kernel
theorem dX11_form_0 : decode cX11_form 0 = .ok (.aload_n 0, 1) := by decide +kernel
theorem dX11_form_1 : decode cX11_form 1 = .ok (.getfield 55, 3) := by decide +kernel
theorem dX11_form_4 : decode cX11_form 4 = .ok (.iconst 3, 1) := by decide +kernel
theorem dX11_form_5 : decode cX11_form 5 = .ok (.iload_n 1, 1) := by decide +kernel
theorem dX11_form_6 : decode cX11_form 6 = .ok (.imul, 1) := by decide +kernel
theorem dX11_form_7 : decode cX11_form 7 = .ok (.iconst 0, 1) := by decide +kernel
theorem dX11_form_8 : decode cX11_form 8 = .ok (.iadd, 1) := by decide +kernel
theorem dX11_form_9 : decode cX11_form 9 = .ok (.iaload, 1) := by decide +kernel
theorem dX11_form_10 : decode cX11_form 10 = .ok (.ireturn, 1) := by decide +kernel
theorem dX11_deskOf_0 : decode cX11_deskOf 0 = .ok (.aload_n 0, 1) := by decide +kernel
theorem dX11_deskOf_1 : decode cX11_deskOf 1 = .ok (.getfield 61, 3) := by decide +kernel
theorem dX11_deskOf_4 : decode cX11_deskOf 4 = .ok (.iconst 3, 1) := by decide +kernel
theorem dX11_deskOf_5 : decode cX11_deskOf 5 = .ok (.iload_n 1, 1) := by decide +kernel
theorem dX11_deskOf_6 : decode cX11_deskOf 6 = .ok (.imul, 1) := by decide +kernel
theorem dX11_deskOf_7 : decode cX11_deskOf 7 = .ok (.iconst 0, 1) := by decide +kernel
theorem dX11_deskOf_8 : decode cX11_deskOf 8 = .ok (.iadd, 1) := by decide +kernel
theorem dX11_deskOf_9 : decode cX11_deskOf 9 = .ok (.iaload, 1) := by decide +kernel
theorem dX11_deskOf_10 : decode cX11_deskOf 10 = .ok (.ireturn, 1) := by decide +kernel
theorem dX11_wants_0 : decode cX11_wants 0 = .ok (.iconst 0, 1) := by decide +kernel
theorem dX11_wants_1 : decode cX11_wants 1 = .ok (.istore_n 2, 1) := by decide +kernel
theorem dX11_wants_2 : decode cX11_wants 2 = .ok (.iconst 1, 1) := by decide +kernel
theorem dX11_wants_3 : decode cX11_wants 3 = .ok (.istore_n 3, 1) := by decide +kernel
theorem dX11_wants_4 : decode cX11_wants 4 = .ok (.iload_n 3, 1) := by decide +kernel
theorem dX11_wants_5 : decode cX11_wants 5 = .ok (.iconst 2, 1) := by decide +kernel
theorem dX11_wants_6 : decode cX11_wants 6 = .ok (.if_icmp .gt 43, 3) := by decide +kernel
theorem dX11_wants_9 : decode cX11_wants 9 = .ok (.iload_n 2, 1) := by decide +kernel
theorem dX11_wants_10 : decode cX11_wants 10 = .ok (.aload_n 0, 1) := by decide +kernel
theorem dX11_wants_11 : decode cX11_wants 11 = .ok (.getfield 61, 3) := by decide +kernel
theorem dX11_wants_14 : decode cX11_wants 14 = .ok (.iconst 3, 1) := by decide +kernel
theorem dX11_wants_15 : decode cX11_wants 15 = .ok (.iload_n 1, 1) := by decide +kernel
theorem dX11_wants_16 : decode cX11_wants 16 = .ok (.imul, 1) := by decide +kernel
theorem dX11_wants_17 : decode cX11_wants 17 = .ok (.iload_n 3, 1) := by decide +kernel
theorem dX11_wants_18 : decode cX11_wants 18 = .ok (.iadd, 1) := by decide +kernel
theorem dX11_wants_19 : decode cX11_wants 19 = .ok (.iaload, 1) := by decide +kernel
theorem dX11_wants_20 : decode cX11_wants 20 = .ok (.bipush 8, 2) := by decide +kernel
theorem dX11_wants_22 : decode cX11_wants 22 = .ok (.if_icmp .ne 7, 3) := by decide +kernel
theorem dX11_wants_25 : decode cX11_wants 25 = .ok (.iconst 0, 1) := by decide +kernel
theorem dX11_wants_26 : decode cX11_wants 26 = .ok (.goto 15, 3) := by decide +kernel
theorem dX11_wants_29 : decode cX11_wants 29 = .ok (.iconst 1, 1) := by decide +kernel
theorem dX11_wants_30 : decode cX11_wants 30 = .ok (.aload_n 0, 1) := by decide +kernel
theorem dX11_wants_31 : decode cX11_wants 31 = .ok (.getfield 61, 3) := by decide +kernel
theorem dX11_wants_34 : decode cX11_wants 34 = .ok (.iconst 3, 1) := by decide +kernel
theorem dX11_wants_35 : decode cX11_wants 35 = .ok (.iload_n 1, 1) := by decide +kernel
theorem dX11_wants_36 : decode cX11_wants 36 = .ok (.imul, 1) := by decide +kernel
theorem dX11_wants_37 : decode cX11_wants 37 = .ok (.iload_n 3, 1) := by decide +kernel
theorem dX11_wants_38 : decode cX11_wants 38 = .ok (.iadd, 1) := by decide +kernel
theorem dX11_wants_39 : decode cX11_wants 39 = .ok (.iaload, 1) := by decide +kernel
theorem dX11_wants_40 : decode cX11_wants 40 = .ok (.ishl, 1) := by decide +kernel
theorem dX11_wants_41 : decode cX11_wants 41 = .ok (.ior, 1) := by decide +kernel
theorem dX11_wants_42 : decode cX11_wants 42 = .ok (.istore_n 2, 1) := by decide +kernel
theorem dX11_wants_43 : decode cX11_wants 43 = .ok (.iinc 3 1, 3) := by decide +kernel
theorem dX11_wants_46 : decode cX11_wants 46 = .ok (.goto (-42), 3) := by decide +kernel
theorem dX11_wants_49 : decode cX11_wants 49 = .ok (.iload_n 2, 1) := by decide +kernel
theorem dX11_wants_50 : decode cX11_wants 50 = .ok (.ireturn, 1) := by decide +kernel
theorem dX11_time_0 : decode cX11_time 0 = .ok (.aload_n 0, 1) := by decide +kernel
theorem dX11_time_1 : decode cX11_time 1 = .ok (.getfield 70, 3) := by decide +kernel
theorem dX11_time_4 : decode cX11_time 4 = .ok (.bipush 42, 2) := by decide +kernel
theorem dX11_time_6 : decode cX11_time 6 = .ok (.iaload, 1) := by decide +kernel
theorem dX11_time_7 : decode cX11_time 7 = .ok (.bipush 24, 2) := by decide +kernel
theorem dX11_time_9 : decode cX11_time 9 = .ok (.irem, 1) := by decide +kernel
theorem dX11_time_10 : decode cX11_time 10 = .ok (.ireturn, 1) := by decide +kernel
theorem dX11_isOpen_0 : decode cX11_isOpen 0 = .ok (.iload_n 2, 1) := by decide +kernel
theorem dX11_isOpen_1 : decode cX11_isOpen 1 = .ok (.aload_n 0, 1) := by decide +kernel
theorem dX11_isOpen_2 : decode cX11_isOpen 2 = .ok (.getfield 58, 3) := by decide +kernel
theorem dX11_isOpen_5 : decode cX11_isOpen 5 = .ok (.iconst 4, 1) := by decide +kernel
theorem dX11_isOpen_6 : decode cX11_isOpen 6 = .ok (.iload_n 1, 1) := by decide +kernel
theorem dX11_isOpen_7 : decode cX11_isOpen 7 = .ok (.imul, 1) := by decide +kernel
theorem dX11_isOpen_8 : decode cX11_isOpen 8 = .ok (.iconst 0, 1) := by decide +kernel
theorem dX11_isOpen_9 : decode cX11_isOpen 9 = .ok (.iadd, 1) := by decide +kernel
theorem dX11_isOpen_10 : decode cX11_isOpen 10 = .ok (.iaload, 1) := by decide +kernel
theorem dX11_isOpen_11 : decode cX11_isOpen 11 = .ok (.if_icmp .lt 21, 3) := by decide +kernel
theorem dX11_isOpen_14 : decode cX11_isOpen 14 = .ok (.iload_n 2, 1) := by decide +kernel
theorem dX11_isOpen_15 : decode cX11_isOpen 15 = .ok (.aload_n 0, 1) := by decide +kernel
theorem dX11_isOpen_16 : decode cX11_isOpen 16 = .ok (.getfield 58, 3) := by decide +kernel
theorem dX11_isOpen_19 : decode cX11_isOpen 19 = .ok (.iconst 4, 1) := by decide +kernel
theorem dX11_isOpen_20 : decode cX11_isOpen 20 = .ok (.iload_n 1, 1) := by decide +kernel
theorem dX11_isOpen_21 : decode cX11_isOpen 21 = .ok (.imul, 1) := by decide +kernel
theorem dX11_isOpen_22 : decode cX11_isOpen 22 = .ok (.iconst 1, 1) := by decide +kernel
theorem dX11_isOpen_23 : decode cX11_isOpen 23 = .ok (.iadd, 1) := by decide +kernel
theorem dX11_isOpen_24 : decode cX11_isOpen 24 = .ok (.iaload, 1) := by decide +kernel
theorem dX11_isOpen_25 : decode cX11_isOpen 25 = .ok (.if_icmp .ge 7, 3) := by decide +kernel
theorem dX11_isOpen_28 : decode cX11_isOpen 28 = .ok (.iconst 1, 1) := by decide +kernel
theorem dX11_isOpen_29 : decode cX11_isOpen 29 = .ok (.goto 4, 3) := by decide +kernel
theorem dX11_isOpen_32 : decode cX11_isOpen 32 = .ok (.iconst 0, 1) := by decide +kernel
theorem dX11_isOpen_33 : decode cX11_isOpen 33 = .ok (.ireturn, 1) := by decide +kernel
theorem dX11_sun_0 : decode cX11_sun 0 = .ok (.aload_n 0, 1) := by decide +kernel
theorem dX11_sun_1 : decode cX11_sun 1 = .ok (.getfield 269, 3) := by decide +kernel
theorem dX11_sun_4 : decode cX11_sun 4 = .ok (.ifCond .le 21, 3) := by decide +kernel
theorem dX11_sun_7 : decode cX11_sun 7 = .ok (.iload_n 1, 1) := by decide +kernel
theorem dX11_sun_8 : decode cX11_sun 8 = .ok (.iconst 0, 1) := by decide +kernel
theorem dX11_sun_9 : decode cX11_sun 9 = .ok (.iconst 1, 1) := by decide +kernel
theorem dX11_sun_10 : decode cX11_sun 10 = .ok (.invokestatic 210, 3) := by decide +kernel
theorem dX11_sun_13 : decode cX11_sun 13 = .ok (.ifCond .eq 12, 3) := by decide +kernel
theorem dX11_sun_16 : decode cX11_sun 16 = .ok (.aload_n 0, 1) := by decide +kernel
theorem dX11_sun_17 : decode cX11_sun 17 = .ok (.getfield 52, 3) := by decide +kernel
theorem dX11_sun_20 : decode cX11_sun 20 = .ok (.iload_n 1, 1) := by decide +kernel
theorem dX11_sun_21 : decode cX11_sun 21 = .ok (.iaload, 1) := by decide +kernel
theorem dX11_sun_22 : decode cX11_sun 22 = .ok (.goto 4, 3) := by decide +kernel
theorem dX11_sun_25 : decode cX11_sun 25 = .ok (.iconst (-1), 1) := by decide +kernel
theorem dX11_sun_26 : decode cX11_sun 26 = .ok (.ireturn, 1) := by decide +kernel
theorem dX11_parish_0 : decode cX11_parish 0 = .ok (.aload_n 0, 1) := by decide +kernel
theorem dX11_parish_1 : decode cX11_parish 1 = .ok (.aload_n 0, 1) := by decide +kernel
theorem dX11_parish_2 : decode cX11_parish 2 = .ok (.iload_n 1, 1) := by decide +kernel
theorem dX11_parish_3 : decode cX11_parish 3 = .ok (.invokevirtual 300, 3) := by decide +kernel
theorem dX11_parish_6 : decode cX11_parish 6 = .ok (.ifCond .eq 17, 3) := by decide +kernel
theorem dX11_parish_9 : decode cX11_parish 9 = .ok (.iload_n 2, 1) := by decide +kernel
theorem dX11_parish_10 : decode cX11_parish 10 = .ok (.iconst 0, 1) := by decide +kernel
theorem dX11_parish_11 : decode cX11_parish 11 = .ok (.bipush 8, 2) := by decide +kernel
theorem dX11_parish_13 : decode cX11_parish 13 = .ok (.invokestatic 210, 3) := by decide +kernel
theorem dX11_parish_16 : decode cX11_parish 16 = .ok (.ifCond .eq 7, 3) := by decide +kernel
theorem dX11_parish_19 : decode cX11_parish 19 = .ok (.iconst 0, 1) := by decide +kernel
theorem dX11_parish_20 : decode cX11_parish 20 = .ok (.goto 4, 3) := by decide +kernel
theorem dX11_parish_23 : decode cX11_parish 23 = .ok (.iconst 1, 1) := by decide +kernel
theorem dX11_parish_24 : decode cX11_parish 24 = .ok (.putfield 95, 3) := by decide +kernel
theorem dX11_parish_27 : decode cX11_parish 27 = .ok (.aload_n 0, 1) := by decide +kernel
theorem dX11_parish_28 : decode cX11_parish 28 = .ok (.getfield 95, 3) := by decide +kernel
theorem dX11_parish_31 : decode cX11_parish 31 = .ok (.iconst 1, 1) := by decide +kernel
theorem dX11_parish_32 : decode cX11_parish 32 = .ok (.if_icmp .ne 5, 3) := by decide +kernel
theorem dX11_parish_35 : decode cX11_parish 35 = .ok (.iconst 0, 1) := by decide +kernel
theorem dX11_parish_36 : decode cX11_parish 36 = .ok (.ireturn, 1) := by decide +kernel
theorem dX11_parish_37 : decode cX11_parish 37 = .ok (.iload_n 2, 1) := by decide +kernel
theorem dX11_parish_38 : decode cX11_parish 38 = .ok (.tableswitch 92 0 7 #[46, 46, 46, 57, 64, 71, 78, 85], 46) := by decide +kernel
theorem dX11_parish_84 : decode cX11_parish 84 = .ok (.aload_n 0, 1) := by decide +kernel
theorem dX11_parish_85 : decode cX11_parish 85 = .ok (.getfield 55, 3) := by decide +kernel
theorem dX11_parish_88 : decode cX11_parish 88 = .ok (.iconst 3, 1) := by decide +kernel
theorem dX11_parish_89 : decode cX11_parish 89 = .ok (.iload_n 1, 1) := by decide +kernel
theorem dX11_parish_90 : decode cX11_parish 90 = .ok (.imul, 1) := by decide +kernel
theorem dX11_parish_91 : decode cX11_parish 91 = .ok (.iload_n 2, 1) := by decide +kernel
theorem dX11_parish_92 : decode cX11_parish 92 = .ok (.iadd, 1) := by decide +kernel
theorem dX11_parish_93 : decode cX11_parish 93 = .ok (.iaload, 1) := by decide +kernel
theorem dX11_parish_94 : decode cX11_parish 94 = .ok (.ireturn, 1) := by decide +kernel
theorem dX11_parish_95 : decode cX11_parish 95 = .ok (.aload_n 0, 1) := by decide +kernel
theorem dX11_parish_96 : decode cX11_parish 96 = .ok (.iload_n 1, 1) := by decide +kernel
theorem dX11_parish_97 : decode cX11_parish 97 = .ok (.iconst 0, 1) := by decide +kernel
theorem dX11_parish_98 : decode cX11_parish 98 = .ok (.invokevirtual 303, 3) := by decide +kernel
theorem dX11_parish_101 : decode cX11_parish 101 = .ok (.ireturn, 1) := by decide +kernel
theorem dX11_parish_102 : decode cX11_parish 102 = .ok (.aload_n 0, 1) := by decide +kernel
theorem dX11_parish_103 : decode cX11_parish 103 = .ok (.iload_n 1, 1) := by decide +kernel
theorem dX11_parish_104 : decode cX11_parish 104 = .ok (.iconst 1, 1) := by decide +kernel
theorem dX11_parish_105 : decode cX11_parish 105 = .ok (.invokevirtual 303, 3) := by decide +kernel
theorem dX11_parish_108 : decode cX11_parish 108 = .ok (.ireturn, 1) := by decide +kernel
theorem dX11_parish_109 : decode cX11_parish 109 = .ok (.aload_n 0, 1) := by decide +kernel
theorem dX11_parish_110 : decode cX11_parish 110 = .ok (.iload_n 1, 1) := by decide +kernel
theorem dX11_parish_111 : decode cX11_parish 111 = .ok (.iconst 3, 1) := by decide +kernel
theorem dX11_parish_112 : decode cX11_parish 112 = .ok (.invokevirtual 303, 3) := by decide +kernel
theorem dX11_parish_115 : decode cX11_parish 115 = .ok (.ireturn, 1) := by decide +kernel
theorem dX11_parish_116 : decode cX11_parish 116 = .ok (.aload_n 0, 1) := by decide +kernel
theorem dX11_parish_117 : decode cX11_parish 117 = .ok (.iload_n 1, 1) := by decide +kernel
theorem dX11_parish_118 : decode cX11_parish 118 = .ok (.iconst 4, 1) := by decide +kernel
theorem dX11_parish_119 : decode cX11_parish 119 = .ok (.invokevirtual 303, 3) := by decide +kernel
theorem dX11_parish_122 : decode cX11_parish 122 = .ok (.ireturn, 1) := by decide +kernel
theorem dX11_parish_123 : decode cX11_parish 123 = .ok (.aload_n 0, 1) := by decide +kernel
theorem dX11_parish_124 : decode cX11_parish 124 = .ok (.iload_n 1, 1) := by decide +kernel
theorem dX11_parish_125 : decode cX11_parish 125 = .ok (.iconst 5, 1) := by decide +kernel
theorem dX11_parish_126 : decode cX11_parish 126 = .ok (.invokevirtual 303, 3) := by decide +kernel
theorem dX11_parish_129 : decode cX11_parish 129 = .ok (.ireturn, 1) := by decide +kernel
theorem dX11_parish_130 : decode cX11_parish 130 = .ok (.aload_n 0, 1) := by decide +kernel
theorem dX11_parish_131 : decode cX11_parish 131 = .ok (.iload_n 1, 1) := by decide +kernel
theorem dX11_parish_132 : decode cX11_parish 132 = .ok (.bipush 6, 2) := by decide +kernel
theorem dX11_parish_134 : decode cX11_parish 134 = .ok (.invokevirtual 303, 3) := by decide +kernel
theorem dX11_parish_137 : decode cX11_parish 137 = .ok (.ireturn, 1) := by decide +kernel
theorem dX11_isAt_0 : decode cX11_isAt 0 = .ok (.aload_n 0, 1) := by decide +kernel
theorem dX11_isAt_1 : decode cX11_isAt 1 = .ok (.iload_n 1, 1) := by decide +kernel
theorem dX11_isAt_2 : decode cX11_isAt 2 = .ok (.iconst 1, 1) := by decide +kernel
theorem dX11_isAt_3 : decode cX11_isAt 3 = .ok (.invokevirtual 303, 3) := by decide +kernel
theorem dX11_isAt_6 : decode cX11_isAt 6 = .ok (.iconst (-1), 1) := by decide +kernel
theorem dX11_isAt_7 : decode cX11_isAt 7 = .ok (.if_icmp .eq 21, 3) := by decide +kernel
theorem dX11_isAt_10 : decode cX11_isAt 10 = .ok (.aload_n 0, 1) := by decide +kernel
theorem dX11_isAt_11 : decode cX11_isAt 11 = .ok (.aload_n 0, 1) := by decide +kernel
theorem dX11_isAt_12 : decode cX11_isAt 12 = .ok (.iload_n 1, 1) := by decide +kernel
theorem dX11_isAt_13 : decode cX11_isAt 13 = .ok (.iconst 1, 1) := by decide +kernel
theorem dX11_isAt_14 : decode cX11_isAt 14 = .ok (.invokevirtual 303, 3) := by decide +kernel
theorem dX11_isAt_17 : decode cX11_isAt 17 = .ok (.invokevirtual 306, 3) := by decide +kernel
theorem dX11_isAt_20 : decode cX11_isAt 20 = .ok (.iload_n 2, 1) := by decide +kernel
theorem dX11_isAt_21 : decode cX11_isAt 21 = .ok (.if_icmp .ne 7, 3) := by decide +kernel
theorem dX11_isAt_24 : decode cX11_isAt 24 = .ok (.iconst 1, 1) := by decide +kernel
theorem dX11_isAt_25 : decode cX11_isAt 25 = .ok (.goto 4, 3) := by decide +kernel
theorem dX11_isAt_28 : decode cX11_isAt 28 = .ok (.iconst 0, 1) := by decide +kernel
theorem dX11_isAt_29 : decode cX11_isAt 29 = .ok (.ireturn, 1) := by decide +kernel
theorem dX11_backlog_0 : decode cX11_backlog 0 = .ok (.iconst 0, 1) := by decide +kernel
theorem dX11_backlog_1 : decode cX11_backlog 1 = .ok (.istore_n 2, 1) := by decide +kernel
theorem dX11_backlog_2 : decode cX11_backlog 2 = .ok (.iconst 0, 1) := by decide +kernel
theorem dX11_backlog_3 : decode cX11_backlog 3 = .ok (.istore_n 3, 1) := by decide +kernel
theorem dX11_backlog_4 : decode cX11_backlog 4 = .ok (.iload_n 3, 1) := by decide +kernel
theorem dX11_backlog_5 : decode cX11_backlog 5 = .ok (.aload_n 0, 1) := by decide +kernel
theorem dX11_backlog_6 : decode cX11_backlog 6 = .ok (.getfield 269, 3) := by decide +kernel
theorem dX11_backlog_9 : decode cX11_backlog 9 = .ok (.if_icmp .ge 26, 3) := by decide +kernel
theorem dX11_backlog_12 : decode cX11_backlog 12 = .ok (.iload_n 2, 1) := by decide +kernel
theorem dX11_backlog_13 : decode cX11_backlog 13 = .ok (.aload_n 0, 1) := by decide +kernel
theorem dX11_backlog_14 : decode cX11_backlog 14 = .ok (.iload_n 3, 1) := by decide +kernel
theorem dX11_backlog_15 : decode cX11_backlog 15 = .ok (.iload_n 1, 1) := by decide +kernel
theorem dX11_backlog_16 : decode cX11_backlog 16 = .ok (.invokevirtual 309, 3) := by decide +kernel
theorem dX11_backlog_19 : decode cX11_backlog 19 = .ok (.ifCond .eq 7, 3) := by decide +kernel
theorem dX11_backlog_22 : decode cX11_backlog 22 = .ok (.iconst 1, 1) := by decide +kernel
theorem dX11_backlog_23 : decode cX11_backlog 23 = .ok (.goto 4, 3) := by decide +kernel
theorem dX11_backlog_26 : decode cX11_backlog 26 = .ok (.iconst 0, 1) := by decide +kernel
theorem dX11_backlog_27 : decode cX11_backlog 27 = .ok (.iadd, 1) := by decide +kernel
theorem dX11_backlog_28 : decode cX11_backlog 28 = .ok (.istore_n 2, 1) := by decide +kernel
theorem dX11_backlog_29 : decode cX11_backlog 29 = .ok (.iinc 3 1, 3) := by decide +kernel
theorem dX11_backlog_32 : decode cX11_backlog 32 = .ok (.goto (-28), 3) := by decide +kernel
theorem dX11_backlog_35 : decode cX11_backlog 35 = .ok (.iload_n 2, 1) := by decide +kernel
theorem dX11_backlog_36 : decode cX11_backlog 36 = .ok (.ireturn, 1) := by decide +kernel
theorem dX11_firstAt_0 : decode cX11_firstAt 0 = .ok (.iconst (-1), 1) := by decide +kernel
theorem dX11_firstAt_1 : decode cX11_firstAt 1 = .ok (.istore_n 2, 1) := by decide +kernel
theorem dX11_firstAt_2 : decode cX11_firstAt 2 = .ok (.iconst 0, 1) := by decide +kernel
theorem dX11_firstAt_3 : decode cX11_firstAt 3 = .ok (.istore_n 3, 1) := by decide +kernel
theorem dX11_firstAt_4 : decode cX11_firstAt 4 = .ok (.iload_n 3, 1) := by decide +kernel
theorem dX11_firstAt_5 : decode cX11_firstAt 5 = .ok (.aload_n 0, 1) := by decide +kernel
theorem dX11_firstAt_6 : decode cX11_firstAt 6 = .ok (.getfield 269, 3) := by decide +kernel
theorem dX11_firstAt_9 : decode cX11_firstAt 9 = .ok (.if_icmp .ge 44, 3) := by decide +kernel
theorem dX11_firstAt_12 : decode cX11_firstAt 12 = .ok (.aload_n 0, 1) := by decide +kernel
theorem dX11_firstAt_13 : decode cX11_firstAt 13 = .ok (.iload_n 3, 1) := by decide +kernel
theorem dX11_firstAt_14 : decode cX11_firstAt 14 = .ok (.iload_n 1, 1) := by decide +kernel
theorem dX11_firstAt_15 : decode cX11_firstAt 15 = .ok (.invokevirtual 309, 3) := by decide +kernel
theorem dX11_firstAt_18 : decode cX11_firstAt 18 = .ok (.ifCond .eq 27, 3) := by decide +kernel
theorem dX11_firstAt_21 : decode cX11_firstAt 21 = .ok (.iload_n 2, 1) := by decide +kernel
theorem dX11_firstAt_22 : decode cX11_firstAt 22 = .ok (.iconst (-1), 1) := by decide +kernel
theorem dX11_firstAt_23 : decode cX11_firstAt 23 = .ok (.if_icmp .eq 18, 3) := by decide +kernel
theorem dX11_firstAt_26 : decode cX11_firstAt 26 = .ok (.aload_n 0, 1) := by decide +kernel
theorem dX11_firstAt_27 : decode cX11_firstAt 27 = .ok (.iload_n 3, 1) := by decide +kernel
theorem dX11_firstAt_28 : decode cX11_firstAt 28 = .ok (.iconst 2, 1) := by decide +kernel
theorem dX11_firstAt_29 : decode cX11_firstAt 29 = .ok (.invokevirtual 303, 3) := by decide +kernel
theorem dX11_firstAt_32 : decode cX11_firstAt 32 = .ok (.aload_n 0, 1) := by decide +kernel
theorem dX11_firstAt_33 : decode cX11_firstAt 33 = .ok (.iload_n 2, 1) := by decide +kernel
theorem dX11_firstAt_34 : decode cX11_firstAt 34 = .ok (.iconst 2, 1) := by decide +kernel
theorem dX11_firstAt_35 : decode cX11_firstAt 35 = .ok (.invokevirtual 303, 3) := by decide +kernel
theorem dX11_firstAt_38 : decode cX11_firstAt 38 = .ok (.if_icmp .ge 7, 3) := by decide +kernel
theorem dX11_firstAt_41 : decode cX11_firstAt 41 = .ok (.iload_n 3, 1) := by decide +kernel
theorem dX11_firstAt_42 : decode cX11_firstAt 42 = .ok (.goto 4, 3) := by decide +kernel
theorem dX11_firstAt_45 : decode cX11_firstAt 45 = .ok (.iload_n 2, 1) := by decide +kernel
theorem dX11_firstAt_46 : decode cX11_firstAt 46 = .ok (.istore_n 2, 1) := by decide +kernel
theorem dX11_firstAt_47 : decode cX11_firstAt 47 = .ok (.iinc 3 1, 3) := by decide +kernel
theorem dX11_firstAt_50 : decode cX11_firstAt 50 = .ok (.goto (-46), 3) := by decide +kernel
theorem dX11_firstAt_53 : decode cX11_firstAt 53 = .ok (.iload_n 2, 1) := by decide +kernel
theorem dX11_firstAt_54 : decode cX11_firstAt 54 = .ok (.ireturn, 1) := by decide +kernel
theorem dX11_desk_0 : decode cX11_desk 0 = .ok (.iload_n 1, 1) := by decide +kernel
theorem dX11_desk_1 : decode cX11_desk 1 = .ok (.iconst 0, 1) := by decide +kernel
theorem dX11_desk_2 : decode cX11_desk 2 = .ok (.aload_n 0, 1) := by decide +kernel
theorem dX11_desk_3 : decode cX11_desk 3 = .ok (.getfield 272, 3) := by decide +kernel
theorem dX11_desk_6 : decode cX11_desk 6 = .ok (.iconst 1, 1) := by decide +kernel
theorem dX11_desk_7 : decode cX11_desk 7 = .ok (.isub, 1) := by decide +kernel
theorem dX11_desk_8 : decode cX11_desk 8 = .ok (.invokestatic 210, 3) := by decide +kernel
theorem dX11_desk_11 : decode cX11_desk 11 = .ok (.ifCond .eq 13, 3) := by decide +kernel
theorem dX11_desk_14 : decode cX11_desk 14 = .ok (.iload_n 2, 1) := by decide +kernel
theorem dX11_desk_15 : decode cX11_desk 15 = .ok (.iconst 0, 1) := by decide +kernel
theorem dX11_desk_16 : decode cX11_desk 16 = .ok (.bipush 6, 2) := by decide +kernel
theorem dX11_desk_18 : decode cX11_desk 18 = .ok (.invokestatic 210, 3) := by decide +kernel
theorem dX11_desk_21 : decode cX11_desk 21 = .ok (.ifCond .ne 5, 3) := by decide +kernel
theorem dX11_desk_24 : decode cX11_desk 24 = .ok (.iconst (-1), 1) := by decide +kernel
theorem dX11_desk_25 : decode cX11_desk 25 = .ok (.ireturn, 1) := by decide +kernel
theorem dX11_desk_26 : decode cX11_desk 26 = .ok (.iload_n 2, 1) := by decide +kernel
theorem dX11_desk_27 : decode cX11_desk 27 = .ok (.iconst 4, 1) := by decide +kernel
theorem dX11_desk_28 : decode cX11_desk 28 = .ok (.if_icmp .ge 16, 3) := by decide +kernel
theorem dX11_desk_31 : decode cX11_desk 31 = .ok (.aload_n 0, 1) := by decide +kernel
theorem dX11_desk_32 : decode cX11_desk 32 = .ok (.getfield 58, 3) := by decide +kernel
theorem dX11_desk_35 : decode cX11_desk 35 = .ok (.iconst 4, 1) := by decide +kernel
theorem dX11_desk_36 : decode cX11_desk 36 = .ok (.iload_n 1, 1) := by decide +kernel
theorem dX11_desk_37 : decode cX11_desk 37 = .ok (.imul, 1) := by decide +kernel
theorem dX11_desk_38 : decode cX11_desk 38 = .ok (.iload_n 2, 1) := by decide +kernel
theorem dX11_desk_39 : decode cX11_desk 39 = .ok (.iadd, 1) := by decide +kernel
theorem dX11_desk_40 : decode cX11_desk 40 = .ok (.iaload, 1) := by decide +kernel
theorem dX11_desk_41 : decode cX11_desk 41 = .ok (.goto 46, 3) := by decide +kernel
theorem dX11_desk_44 : decode cX11_desk 44 = .ok (.iload_n 2, 1) := by decide +kernel
theorem dX11_desk_45 : decode cX11_desk 45 = .ok (.iconst 4, 1) := by decide +kernel
theorem dX11_desk_46 : decode cX11_desk 46 = .ok (.if_icmp .ne 11, 3) := by decide +kernel
theorem dX11_desk_49 : decode cX11_desk 49 = .ok (.aload_n 0, 1) := by decide +kernel
theorem dX11_desk_50 : decode cX11_desk 50 = .ok (.iload_n 1, 1) := by decide +kernel
theorem dX11_desk_51 : decode cX11_desk 51 = .ok (.invokevirtual 312, 3) := by decide +kernel
theorem dX11_desk_54 : decode cX11_desk 54 = .ok (.goto 33, 3) := by decide +kernel
theorem dX11_desk_57 : decode cX11_desk 57 = .ok (.iload_n 2, 1) := by decide +kernel
theorem dX11_desk_58 : decode cX11_desk 58 = .ok (.iconst 5, 1) := by decide +kernel
theorem dX11_desk_59 : decode cX11_desk 59 = .ok (.if_icmp .ne 11, 3) := by decide +kernel
theorem dX11_desk_62 : decode cX11_desk 62 = .ok (.aload_n 0, 1) := by decide +kernel
theorem dX11_desk_63 : decode cX11_desk 63 = .ok (.iload_n 1, 1) := by decide +kernel
theorem dX11_desk_64 : decode cX11_desk 64 = .ok (.invokevirtual 315, 3) := by decide +kernel
theorem dX11_desk_67 : decode cX11_desk 67 = .ok (.goto 20, 3) := by decide +kernel
theorem dX11_desk_70 : decode cX11_desk 70 = .ok (.aload_n 0, 1) := by decide +kernel
theorem dX11_desk_71 : decode cX11_desk 71 = .ok (.iload_n 1, 1) := by decide +kernel
theorem dX11_desk_72 : decode cX11_desk 72 = .ok (.aload_n 0, 1) := by decide +kernel
theorem dX11_desk_73 : decode cX11_desk 73 = .ok (.invokevirtual 318, 3) := by decide +kernel
theorem dX11_desk_76 : decode cX11_desk 76 = .ok (.invokevirtual 321, 3) := by decide +kernel
theorem dX11_desk_79 : decode cX11_desk 79 = .ok (.ifCond .eq 7, 3) := by decide +kernel
theorem dX11_desk_82 : decode cX11_desk 82 = .ok (.iconst 1, 1) := by decide +kernel
theorem dX11_desk_83 : decode cX11_desk 83 = .ok (.goto 4, 3) := by decide +kernel
theorem dX11_desk_86 : decode cX11_desk 86 = .ok (.iconst 0, 1) := by decide +kernel
theorem dX11_desk_87 : decode cX11_desk 87 = .ok (.ireturn, 1) := by decide +kernel
theorem dX11_paper_0 : decode cX11_paper 0 = .ok (.aload_n 0, 1) := by decide +kernel
theorem dX11_paper_1 : decode cX11_paper 1 = .ok (.iload_n 1, 1) := by decide +kernel
theorem dX11_paper_2 : decode cX11_paper 2 = .ok (.invokevirtual 324, 3) := by decide +kernel
theorem dX11_paper_5 : decode cX11_paper 5 = .ok (.ifCond .eq 12, 3) := by decide +kernel
theorem dX11_paper_8 : decode cX11_paper 8 = .ok (.iload_n 2, 1) := by decide +kernel
theorem dX11_paper_9 : decode cX11_paper 9 = .ok (.iconst 0, 1) := by decide +kernel
theorem dX11_paper_10 : decode cX11_paper 10 = .ok (.iconst 2, 1) := by decide +kernel
theorem dX11_paper_11 : decode cX11_paper 11 = .ok (.invokestatic 210, 3) := by decide +kernel
theorem dX11_paper_14 : decode cX11_paper 14 = .ok (.ifCond .ne 5, 3) := by decide +kernel
theorem dX11_paper_17 : decode cX11_paper 17 = .ok (.iconst (-1), 1) := by decide +kernel
theorem dX11_paper_18 : decode cX11_paper 18 = .ok (.ireturn, 1) := by decide +kernel
theorem dX11_paper_19 : decode cX11_paper 19 = .ok (.aload_n 0, 1) := by decide +kernel
theorem dX11_paper_20 : decode cX11_paper 20 = .ok (.getfield 61, 3) := by decide +kernel
theorem dX11_paper_23 : decode cX11_paper 23 = .ok (.iconst 3, 1) := by decide +kernel
theorem dX11_paper_24 : decode cX11_paper 24 = .ok (.iload_n 1, 1) := by decide +kernel
theorem dX11_paper_25 : decode cX11_paper 25 = .ok (.imul, 1) := by decide +kernel
theorem dX11_paper_26 : decode cX11_paper 26 = .ok (.iload_n 2, 1) := by decide +kernel
theorem dX11_paper_27 : decode cX11_paper 27 = .ok (.iadd, 1) := by decide +kernel
theorem dX11_paper_28 : decode cX11_paper 28 = .ok (.iaload, 1) := by decide +kernel
theorem dX11_paper_29 : decode cX11_paper 29 = .ok (.istore_n 3, 1) := by decide +kernel
theorem dX11_paper_30 : decode cX11_paper 30 = .ok (.iload_n 2, 1) := by decide +kernel
theorem dX11_paper_31 : decode cX11_paper 31 = .ok (.ifCond .le 13, 3) := by decide +kernel
theorem dX11_paper_34 : decode cX11_paper 34 = .ok (.iload_n 3, 1) := by decide +kernel
theorem dX11_paper_35 : decode cX11_paper 35 = .ok (.bipush 8, 2) := by decide +kernel
theorem dX11_paper_37 : decode cX11_paper 37 = .ok (.if_icmp .ne 7, 3) := by decide +kernel
theorem dX11_paper_40 : decode cX11_paper 40 = .ok (.iconst (-1), 1) := by decide +kernel
theorem dX11_paper_41 : decode cX11_paper 41 = .ok (.goto 4, 3) := by decide +kernel
theorem dX11_paper_44 : decode cX11_paper 44 = .ok (.iload_n 3, 1) := by decide +kernel
theorem dX11_paper_45 : decode cX11_paper 45 = .ok (.ireturn, 1) := by decide +kernel
theorem dX11_rule_0 : decode cX11_rule 0 = .ok (.iload_n 1, 1) := by decide +kernel
theorem dX11_rule_1 : decode cX11_rule 1 = .ok (.iconst (-1), 1) := by decide +kernel
theorem dX11_rule_2 : decode cX11_rule 2 = .ok (.aload_n 0, 1) := by decide +kernel
theorem dX11_rule_3 : decode cX11_rule 3 = .ok (.getfield 294, 3) := by decide +kernel
theorem dX11_rule_6 : decode cX11_rule 6 = .ok (.iconst 1, 1) := by decide +kernel
theorem dX11_rule_7 : decode cX11_rule 7 = .ok (.isub, 1) := by decide +kernel
theorem dX11_rule_8 : decode cX11_rule 8 = .ok (.invokestatic 210, 3) := by decide +kernel
theorem dX11_rule_11 : decode cX11_rule 11 = .ok (.ifCond .ne 5, 3) := by decide +kernel
theorem dX11_rule_14 : decode cX11_rule 14 = .ok (.iconst 0, 1) := by decide +kernel
theorem dX11_rule_15 : decode cX11_rule 15 = .ok (.ireturn, 1) := by decide +kernel
theorem dX11_rule_16 : decode cX11_rule 16 = .ok (.aload_n 0, 1) := by decide +kernel
theorem dX11_rule_17 : decode cX11_rule 17 = .ok (.iload_n 1, 1) := by decide +kernel
theorem dX11_rule_18 : decode cX11_rule 18 = .ok (.putfield 73, 3) := by decide +kernel
theorem dX11_rule_21 : decode cX11_rule 21 = .ok (.iconst 1, 1) := by decide +kernel
theorem dX11_rule_22 : decode cX11_rule 22 = .ok (.ireturn, 1) := by decide +kernel
theorem dX11_eclipse_0 : decode cX11_eclipse 0 = .ok (.iload_n 1, 1) := by decide +kernel
theorem dX11_eclipse_1 : decode cX11_eclipse 1 = .ok (.iconst 0, 1) := by decide +kernel
theorem dX11_eclipse_2 : decode cX11_eclipse 2 = .ok (.bipush 99, 2) := by decide +kernel
theorem dX11_eclipse_4 : decode cX11_eclipse 4 = .ok (.invokestatic 210, 3) := by decide +kernel
theorem dX11_eclipse_7 : decode cX11_eclipse 7 = .ok (.ifCond .eq 11, 3) := by decide +kernel
theorem dX11_eclipse_10 : decode cX11_eclipse 10 = .ok (.iload_n 1, 1) := by decide +kernel
theorem dX11_eclipse_11 : decode cX11_eclipse 11 = .ok (.aload_n 0, 1) := by decide +kernel
theorem dX11_eclipse_12 : decode cX11_eclipse 12 = .ok (.getfield 327, 3) := by decide +kernel
theorem dX11_eclipse_15 : decode cX11_eclipse 15 = .ok (.if_icmp .ne 5, 3) := by decide +kernel
theorem dX11_eclipse_18 : decode cX11_eclipse 18 = .ok (.iconst 0, 1) := by decide +kernel
theorem dX11_eclipse_19 : decode cX11_eclipse 19 = .ok (.ireturn, 1) := by decide +kernel
theorem dX11_eclipse_20 : decode cX11_eclipse 20 = .ok (.aload_n 0, 1) := by decide +kernel
theorem dX11_eclipse_21 : decode cX11_eclipse 21 = .ok (.iload_n 1, 1) := by decide +kernel
theorem dX11_eclipse_22 : decode cX11_eclipse 22 = .ok (.putfield 327, 3) := by decide +kernel
theorem dX11_eclipse_25 : decode cX11_eclipse 25 = .ok (.iconst 1, 1) := by decide +kernel
theorem dX11_eclipse_26 : decode cX11_eclipse 26 = .ok (.ireturn, 1) := by decide +kernel
theorem dX11_keep_0 : decode cX11_keep 0 = .ok (.aload_n 0, 1) := by decide +kernel
theorem dX11_keep_1 : decode cX11_keep 1 = .ok (.getfield 284, 3) := by decide +kernel
theorem dX11_keep_4 : decode cX11_keep 4 = .ok (.bipush 40, 2) := by decide +kernel
theorem dX11_keep_6 : decode cX11_keep 6 = .ok (.if_icmp .ne 46, 3) := by decide +kernel
theorem dX11_keep_9 : decode cX11_keep 9 = .ok (.sipush 165, 3) := by decide +kernel
theorem dX11_keep_12 : decode cX11_keep 12 = .ok (.istore_n 1, 1) := by decide +kernel
theorem dX11_keep_13 : decode cX11_keep 13 = .ok (.iload_n 1, 1) := by decide +kernel
theorem dX11_keep_14 : decode cX11_keep 14 = .ok (.sipush 6600, 3) := by decide +kernel
theorem dX11_keep_17 : decode cX11_keep 17 = .ok (.if_icmp .ge 25, 3) := by decide +kernel
theorem dX11_keep_20 : decode cX11_keep 20 = .ok (.aload_n 0, 1) := by decide +kernel
theorem dX11_keep_21 : decode cX11_keep 21 = .ok (.getfield 77, 3) := by decide +kernel
theorem dX11_keep_24 : decode cX11_keep 24 = .ok (.iload_n 1, 1) := by decide +kernel
theorem dX11_keep_25 : decode cX11_keep 25 = .ok (.sipush 165, 3) := by decide +kernel
theorem dX11_keep_28 : decode cX11_keep 28 = .ok (.isub, 1) := by decide +kernel
theorem dX11_keep_29 : decode cX11_keep 29 = .ok (.aload_n 0, 1) := by decide +kernel
theorem dX11_keep_30 : decode cX11_keep 30 = .ok (.getfield 77, 3) := by decide +kernel
theorem dX11_keep_33 : decode cX11_keep 33 = .ok (.iload_n 1, 1) := by decide +kernel
theorem dX11_keep_34 : decode cX11_keep 34 = .ok (.iaload, 1) := by decide +kernel
theorem dX11_keep_35 : decode cX11_keep 35 = .ok (.iastore, 1) := by decide +kernel
theorem dX11_keep_36 : decode cX11_keep 36 = .ok (.iinc 1 1, 3) := by decide +kernel
theorem dX11_keep_39 : decode cX11_keep 39 = .ok (.goto (-26), 3) := by decide +kernel
theorem dX11_keep_42 : decode cX11_keep 42 = .ok (.aload_n 0, 1) := by decide +kernel
theorem dX11_keep_43 : decode cX11_keep 43 = .ok (.dup, 1) := by decide +kernel
theorem dX11_keep_44 : decode cX11_keep 44 = .ok (.getfield 284, 3) := by decide +kernel
theorem dX11_keep_47 : decode cX11_keep 47 = .ok (.iconst 1, 1) := by decide +kernel
theorem dX11_keep_48 : decode cX11_keep 48 = .ok (.isub, 1) := by decide +kernel
theorem dX11_keep_49 : decode cX11_keep 49 = .ok (.putfield 284, 3) := by decide +kernel
theorem dX11_keep_52 : decode cX11_keep 52 = .ok (.iconst 0, 1) := by decide +kernel
theorem dX11_keep_53 : decode cX11_keep 53 = .ok (.istore_n 1, 1) := by decide +kernel
theorem dX11_keep_54 : decode cX11_keep 54 = .ok (.iload_n 1, 1) := by decide +kernel
theorem dX11_keep_55 : decode cX11_keep 55 = .ok (.sipush 165, 3) := by decide +kernel
theorem dX11_keep_58 : decode cX11_keep 58 = .ok (.if_icmp .ge 30, 3) := by decide +kernel
theorem dX11_keep_61 : decode cX11_keep 61 = .ok (.aload_n 0, 1) := by decide +kernel
theorem dX11_keep_62 : decode cX11_keep 62 = .ok (.getfield 77, 3) := by decide +kernel
theorem dX11_keep_65 : decode cX11_keep 65 = .ok (.sipush 165, 3) := by decide +kernel
theorem dX11_keep_68 : decode cX11_keep 68 = .ok (.aload_n 0, 1) := by decide +kernel
theorem dX11_keep_69 : decode cX11_keep 69 = .ok (.getfield 284, 3) := by decide +kernel
theorem dX11_keep_72 : decode cX11_keep 72 = .ok (.imul, 1) := by decide +kernel
theorem dX11_keep_73 : decode cX11_keep 73 = .ok (.iload_n 1, 1) := by decide +kernel
theorem dX11_keep_74 : decode cX11_keep 74 = .ok (.iadd, 1) := by decide +kernel
theorem dX11_keep_75 : decode cX11_keep 75 = .ok (.aload_n 0, 1) := by decide +kernel
theorem dX11_keep_76 : decode cX11_keep 76 = .ok (.getfield 70, 3) := by decide +kernel
theorem dX11_keep_79 : decode cX11_keep 79 = .ok (.iload_n 1, 1) := by decide +kernel
theorem dX11_keep_80 : decode cX11_keep 80 = .ok (.iaload, 1) := by decide +kernel
theorem dX11_keep_81 : decode cX11_keep 81 = .ok (.iastore, 1) := by decide +kernel
theorem dX11_keep_82 : decode cX11_keep 82 = .ok (.iinc 1 1, 3) := by decide +kernel
theorem dX11_keep_85 : decode cX11_keep 85 = .ok (.goto (-31), 3) := by decide +kernel
theorem dX11_keep_88 : decode cX11_keep 88 = .ok (.aload_n 0, 1) := by decide +kernel
theorem dX11_keep_89 : decode cX11_keep 89 = .ok (.dup, 1) := by decide +kernel
theorem dX11_keep_90 : decode cX11_keep 90 = .ok (.getfield 284, 3) := by decide +kernel
theorem dX11_keep_93 : decode cX11_keep 93 = .ok (.iconst 1, 1) := by decide +kernel
theorem dX11_keep_94 : decode cX11_keep 94 = .ok (.iadd, 1) := by decide +kernel
theorem dX11_keep_95 : decode cX11_keep 95 = .ok (.putfield 284, 3) := by decide +kernel
theorem dX11_keep_98 : decode cX11_keep 98 = .ok (.return_, 1) := by decide +kernel
theorem dX11_canFile_0 : decode cX11_canFile 0 = .ok (.aload_n 0, 1) := by decide +kernel
theorem dX11_canFile_1 : decode cX11_canFile 1 = .ok (.iload_n 1, 1) := by decide +kernel
theorem dX11_canFile_2 : decode cX11_canFile 2 = .ok (.invokevirtual 300, 3) := by decide +kernel
theorem dX11_canFile_5 : decode cX11_canFile 5 = .ok (.ifCond .eq 55, 3) := by decide +kernel
theorem dX11_canFile_8 : decode cX11_canFile 8 = .ok (.aload_n 0, 1) := by decide +kernel
theorem dX11_canFile_9 : decode cX11_canFile 9 = .ok (.iload_n 2, 1) := by decide +kernel
theorem dX11_canFile_10 : decode cX11_canFile 10 = .ok (.invokevirtual 324, 3) := by decide +kernel
theorem dX11_canFile_13 : decode cX11_canFile 13 = .ok (.ifCond .eq 47, 3) := by decide +kernel
theorem dX11_canFile_16 : decode cX11_canFile 16 = .ok (.aload_n 0, 1) := by decide +kernel
theorem dX11_canFile_17 : decode cX11_canFile 17 = .ok (.iload_n 1, 1) := by decide +kernel
theorem dX11_canFile_18 : decode cX11_canFile 18 = .ok (.iconst 1, 1) := by decide +kernel
theorem dX11_canFile_19 : decode cX11_canFile 19 = .ok (.invokevirtual 303, 3) := by decide +kernel
theorem dX11_canFile_22 : decode cX11_canFile 22 = .ok (.iconst (-1), 1) := by decide +kernel
theorem dX11_canFile_23 : decode cX11_canFile 23 = .ok (.if_icmp .ne 37, 3) := by decide +kernel
theorem dX11_canFile_26 : decode cX11_canFile 26 = .ok (.aload_n 0, 1) := by decide +kernel
theorem dX11_canFile_27 : decode cX11_canFile 27 = .ok (.iload_n 1, 1) := by decide +kernel
theorem dX11_canFile_28 : decode cX11_canFile 28 = .ok (.iconst 0, 1) := by decide +kernel
theorem dX11_canFile_29 : decode cX11_canFile 29 = .ok (.invokevirtual 303, 3) := by decide +kernel
theorem dX11_canFile_32 : decode cX11_canFile 32 = .ok (.iload_n 2, 1) := by decide +kernel
theorem dX11_canFile_33 : decode cX11_canFile 33 = .ok (.invokestatic 221, 3) := by decide +kernel
theorem dX11_canFile_36 : decode cX11_canFile 36 = .ok (.ifCond .ne 24, 3) := by decide +kernel
theorem dX11_canFile_39 : decode cX11_canFile 39 = .ok (.aload_n 0, 1) := by decide +kernel
theorem dX11_canFile_40 : decode cX11_canFile 40 = .ok (.iload_n 2, 1) := by decide +kernel
theorem dX11_canFile_41 : decode cX11_canFile 41 = .ok (.invokevirtual 330, 3) := by decide +kernel
theorem dX11_canFile_44 : decode cX11_canFile 44 = .ok (.aload_n 0, 1) := by decide +kernel
theorem dX11_canFile_45 : decode cX11_canFile 45 = .ok (.iload_n 1, 1) := by decide +kernel
theorem dX11_canFile_46 : decode cX11_canFile 46 = .ok (.iconst 0, 1) := by decide +kernel
theorem dX11_canFile_47 : decode cX11_canFile 47 = .ok (.invokevirtual 303, 3) := by decide +kernel
theorem dX11_canFile_50 : decode cX11_canFile 50 = .ok (.iconst (-1), 1) := by decide +kernel
theorem dX11_canFile_51 : decode cX11_canFile 51 = .ok (.ixor, 1) := by decide +kernel
theorem dX11_canFile_52 : decode cX11_canFile 52 = .ok (.iand, 1) := by decide +kernel
theorem dX11_canFile_53 : decode cX11_canFile 53 = .ok (.ifCond .ne 7, 3) := by decide +kernel
theorem dX11_canFile_56 : decode cX11_canFile 56 = .ok (.iconst 1, 1) := by decide +kernel
theorem dX11_canFile_57 : decode cX11_canFile 57 = .ok (.goto 4, 3) := by decide +kernel
theorem dX11_canFile_60 : decode cX11_canFile 60 = .ok (.iconst 0, 1) := by decide +kernel
theorem dX11_canFile_61 : decode cX11_canFile 61 = .ok (.ireturn, 1) := by decide +kernel
theorem dX11_fileNow_0 : decode cX11_fileNow 0 = .ok (.aload_n 0, 1) := by decide +kernel
theorem dX11_fileNow_1 : decode cX11_fileNow 1 = .ok (.iload_n 1, 1) := by decide +kernel
theorem dX11_fileNow_2 : decode cX11_fileNow 2 = .ok (.iconst 1, 1) := by decide +kernel
theorem dX11_fileNow_3 : decode cX11_fileNow 3 = .ok (.iload_n 2, 1) := by decide +kernel
theorem dX11_fileNow_4 : decode cX11_fileNow 4 = .ok (.invokevirtual 278, 3) := by decide +kernel
theorem dX11_fileNow_7 : decode cX11_fileNow 7 = .ok (.aload_n 0, 1) := by decide +kernel
theorem dX11_fileNow_8 : decode cX11_fileNow 8 = .ok (.iload_n 1, 1) := by decide +kernel
theorem dX11_fileNow_9 : decode cX11_fileNow 9 = .ok (.iconst 3, 1) := by decide +kernel
theorem dX11_fileNow_10 : decode cX11_fileNow 10 = .ok (.iconst 0, 1) := by decide +kernel
theorem dX11_fileNow_11 : decode cX11_fileNow 11 = .ok (.invokevirtual 278, 3) := by decide +kernel
theorem dX11_fileNow_14 : decode cX11_fileNow 14 = .ok (.aload_n 0, 1) := by decide +kernel
theorem dX11_fileNow_15 : decode cX11_fileNow 15 = .ok (.iload_n 1, 1) := by decide +kernel
theorem dX11_fileNow_16 : decode cX11_fileNow 16 = .ok (.iconst 2, 1) := by decide +kernel
theorem dX11_fileNow_17 : decode cX11_fileNow 17 = .ok (.aload_n 0, 1) := by decide +kernel
theorem dX11_fileNow_18 : decode cX11_fileNow 18 = .ok (.getfield 70, 3) := by decide +kernel
theorem dX11_fileNow_21 : decode cX11_fileNow 21 = .ok (.bipush 43, 2) := by decide +kernel
theorem dX11_fileNow_23 : decode cX11_fileNow 23 = .ok (.iaload, 1) := by decide +kernel
theorem dX11_fileNow_24 : decode cX11_fileNow 24 = .ok (.invokevirtual 278, 3) := by decide +kernel
theorem dX11_fileNow_27 : decode cX11_fileNow 27 = .ok (.aload_n 0, 1) := by decide +kernel
theorem dX11_fileNow_28 : decode cX11_fileNow 28 = .ok (.getfield 70, 3) := by decide +kernel
theorem dX11_fileNow_31 : decode cX11_fileNow 31 = .ok (.bipush 43, 2) := by decide +kernel
theorem dX11_fileNow_33 : decode cX11_fileNow 33 = .ok (.dup2, 1) := by decide +kernel
theorem dX11_fileNow_34 : decode cX11_fileNow 34 = .ok (.iaload, 1) := by decide +kernel
theorem dX11_fileNow_35 : decode cX11_fileNow 35 = .ok (.iconst 1, 1) := by decide +kernel
theorem dX11_fileNow_36 : decode cX11_fileNow 36 = .ok (.iadd, 1) := by decide +kernel
theorem dX11_fileNow_37 : decode cX11_fileNow 37 = .ok (.iastore, 1) := by decide +kernel
theorem dX11_fileNow_38 : decode cX11_fileNow 38 = .ok (.return_, 1) := by decide +kernel
theorem dX11_file_0 : decode cX11_file 0 = .ok (.aload_n 0, 1) := by decide +kernel
theorem dX11_file_1 : decode cX11_file 1 = .ok (.iload_n 1, 1) := by decide +kernel
theorem dX11_file_2 : decode cX11_file 2 = .ok (.iload_n 2, 1) := by decide +kernel
theorem dX11_file_3 : decode cX11_file 3 = .ok (.invokevirtual 333, 3) := by decide +kernel
theorem dX11_file_6 : decode cX11_file 6 = .ok (.ifCond .ne 5, 3) := by decide +kernel
theorem dX11_file_9 : decode cX11_file 9 = .ok (.iconst (-1), 1) := by decide +kernel
theorem dX11_file_10 : decode cX11_file 10 = .ok (.ireturn, 1) := by decide +kernel
theorem dX11_file_11 : decode cX11_file 11 = .ok (.aload_n 0, 1) := by decide +kernel
theorem dX11_file_12 : decode cX11_file 12 = .ok (.invokevirtual 336, 3) := by decide +kernel
theorem dX11_file_15 : decode cX11_file 15 = .ok (.aload_n 0, 1) := by decide +kernel
theorem dX11_file_16 : decode cX11_file 16 = .ok (.iload_n 1, 1) := by decide +kernel
theorem dX11_file_17 : decode cX11_file 17 = .ok (.iload_n 2, 1) := by decide +kernel
theorem dX11_file_18 : decode cX11_file 18 = .ok (.invokevirtual 339, 3) := by decide +kernel
theorem dX11_file_21 : decode cX11_file 21 = .ok (.aload_n 0, 1) := by decide +kernel
theorem dX11_file_22 : decode cX11_file 22 = .ok (.aload_n 0, 1) := by decide +kernel
theorem dX11_file_23 : decode cX11_file 23 = .ok (.iload_n 2, 1) := by decide +kernel
theorem dX11_file_24 : decode cX11_file 24 = .ok (.invokevirtual 306, 3) := by decide +kernel
theorem dX11_file_27 : decode cX11_file 27 = .ok (.invokevirtual 312, 3) := by decide +kernel
theorem dX11_file_30 : decode cX11_file 30 = .ok (.ireturn, 1) := by decide +kernel
theorem dX11_canWithdraw_0 : decode cX11_canWithdraw 0 = .ok (.aload_n 0, 1) := by decide +kernel
theorem dX11_canWithdraw_1 : decode cX11_canWithdraw 1 = .ok (.iload_n 1, 1) := by decide +kernel
theorem dX11_canWithdraw_2 : decode cX11_canWithdraw 2 = .ok (.invokevirtual 300, 3) := by decide +kernel
theorem dX11_canWithdraw_5 : decode cX11_canWithdraw 5 = .ok (.ifCond .eq 17, 3) := by decide +kernel
theorem dX11_canWithdraw_8 : decode cX11_canWithdraw 8 = .ok (.aload_n 0, 1) := by decide +kernel
theorem dX11_canWithdraw_9 : decode cX11_canWithdraw 9 = .ok (.iload_n 1, 1) := by decide +kernel
theorem dX11_canWithdraw_10 : decode cX11_canWithdraw 10 = .ok (.iconst 1, 1) := by decide +kernel
theorem dX11_canWithdraw_11 : decode cX11_canWithdraw 11 = .ok (.invokevirtual 303, 3) := by decide +kernel
theorem dX11_canWithdraw_14 : decode cX11_canWithdraw 14 = .ok (.iconst (-1), 1) := by decide +kernel
theorem dX11_canWithdraw_15 : decode cX11_canWithdraw 15 = .ok (.if_icmp .eq 7, 3) := by decide +kernel
theorem dX11_canWithdraw_18 : decode cX11_canWithdraw 18 = .ok (.iconst 1, 1) := by decide +kernel
theorem dX11_canWithdraw_19 : decode cX11_canWithdraw 19 = .ok (.goto 4, 3) := by decide +kernel
theorem dX11_canWithdraw_22 : decode cX11_canWithdraw 22 = .ok (.iconst 0, 1) := by decide +kernel
theorem dX11_canWithdraw_23 : decode cX11_canWithdraw 23 = .ok (.ireturn, 1) := by decide +kernel
theorem dX11_goAway_0 : decode cX11_goAway 0 = .ok (.aload_n 0, 1) := by decide +kernel
theorem dX11_goAway_1 : decode cX11_goAway 1 = .ok (.iload_n 1, 1) := by decide +kernel
theorem dX11_goAway_2 : decode cX11_goAway 2 = .ok (.iconst 1, 1) := by decide +kernel
theorem dX11_goAway_3 : decode cX11_goAway 3 = .ok (.iconst (-1), 1) := by decide +kernel
theorem dX11_goAway_4 : decode cX11_goAway 4 = .ok (.invokevirtual 278, 3) := by decide +kernel
theorem dX11_goAway_7 : decode cX11_goAway 7 = .ok (.aload_n 0, 1) := by decide +kernel
theorem dX11_goAway_8 : decode cX11_goAway 8 = .ok (.iload_n 1, 1) := by decide +kernel
theorem dX11_goAway_9 : decode cX11_goAway 9 = .ok (.iconst 3, 1) := by decide +kernel
theorem dX11_goAway_10 : decode cX11_goAway 10 = .ok (.iconst 0, 1) := by decide +kernel
theorem dX11_goAway_11 : decode cX11_goAway 11 = .ok (.invokevirtual 278, 3) := by decide +kernel
theorem dX11_goAway_14 : decode cX11_goAway 14 = .ok (.aload_n 0, 1) := by decide +kernel
theorem dX11_goAway_15 : decode cX11_goAway 15 = .ok (.iload_n 1, 1) := by decide +kernel
theorem dX11_goAway_16 : decode cX11_goAway 16 = .ok (.iconst 2, 1) := by decide +kernel
theorem dX11_goAway_17 : decode cX11_goAway 17 = .ok (.iconst 0, 1) := by decide +kernel
theorem dX11_goAway_18 : decode cX11_goAway 18 = .ok (.invokevirtual 278, 3) := by decide +kernel
theorem dX11_goAway_21 : decode cX11_goAway 21 = .ok (.return_, 1) := by decide +kernel
theorem dX11_withdraw_0 : decode cX11_withdraw 0 = .ok (.aload_n 0, 1) := by decide +kernel
theorem dX11_withdraw_1 : decode cX11_withdraw 1 = .ok (.iload_n 1, 1) := by decide +kernel
theorem dX11_withdraw_2 : decode cX11_withdraw 2 = .ok (.invokevirtual 342, 3) := by decide +kernel
theorem dX11_withdraw_5 : decode cX11_withdraw 5 = .ok (.ifCond .ne 5, 3) := by decide +kernel
theorem dX11_withdraw_8 : decode cX11_withdraw 8 = .ok (.iconst (-1), 1) := by decide +kernel
theorem dX11_withdraw_9 : decode cX11_withdraw 9 = .ok (.ireturn, 1) := by decide +kernel
theorem dX11_withdraw_10 : decode cX11_withdraw 10 = .ok (.aload_n 0, 1) := by decide +kernel
theorem dX11_withdraw_11 : decode cX11_withdraw 11 = .ok (.invokevirtual 336, 3) := by decide +kernel
theorem dX11_withdraw_14 : decode cX11_withdraw 14 = .ok (.aload_n 0, 1) := by decide +kernel
theorem dX11_withdraw_15 : decode cX11_withdraw 15 = .ok (.iload_n 1, 1) := by decide +kernel
theorem dX11_withdraw_16 : decode cX11_withdraw 16 = .ok (.iconst 1, 1) := by decide +kernel
theorem dX11_withdraw_17 : decode cX11_withdraw 17 = .ok (.invokevirtual 303, 3) := by decide +kernel
theorem dX11_withdraw_20 : decode cX11_withdraw 20 = .ok (.istore_n 2, 1) := by decide +kernel
theorem dX11_withdraw_21 : decode cX11_withdraw 21 = .ok (.aload_n 0, 1) := by decide +kernel
theorem dX11_withdraw_22 : decode cX11_withdraw 22 = .ok (.iload_n 1, 1) := by decide +kernel
theorem dX11_withdraw_23 : decode cX11_withdraw 23 = .ok (.invokevirtual 345, 3) := by decide +kernel
theorem dX11_withdraw_26 : decode cX11_withdraw 26 = .ok (.iload_n 2, 1) := by decide +kernel
theorem dX11_withdraw_27 : decode cX11_withdraw 27 = .ok (.ireturn, 1) := by decide +kernel
theorem dX11_shareOf_0 : decode cX11_shareOf 0 = .ok (.aload_n 0, 1) := by decide +kernel
theorem dX11_shareOf_1 : decode cX11_shareOf 1 = .ok (.getfield 52, 3) := by decide +kernel
theorem dX11_shareOf_4 : decode cX11_shareOf 4 = .ok (.iconst 1, 1) := by decide +kernel
theorem dX11_shareOf_5 : decode cX11_shareOf 5 = .ok (.iaload, 1) := by decide +kernel
theorem dX11_shareOf_6 : decode cX11_shareOf 6 = .ok (.iload_n 2, 1) := by decide +kernel
theorem dX11_shareOf_7 : decode cX11_shareOf 7 = .ok (.idiv, 1) := by decide +kernel
theorem dX11_shareOf_8 : decode cX11_shareOf 8 = .ok (.iload_n 3, 1) := by decide +kernel
theorem dX11_shareOf_9 : decode cX11_shareOf 9 = .ok (.aload_n 0, 1) := by decide +kernel
theorem dX11_shareOf_10 : decode cX11_shareOf 10 = .ok (.getfield 52, 3) := by decide +kernel
theorem dX11_shareOf_13 : decode cX11_shareOf 13 = .ok (.iconst 1, 1) := by decide +kernel
theorem dX11_shareOf_14 : decode cX11_shareOf 14 = .ok (.iaload, 1) := by decide +kernel
theorem dX11_shareOf_15 : decode cX11_shareOf 15 = .ok (.iload_n 2, 1) := by decide +kernel
theorem dX11_shareOf_16 : decode cX11_shareOf 16 = .ok (.irem, 1) := by decide +kernel
theorem dX11_shareOf_17 : decode cX11_shareOf 17 = .ok (.if_icmp .ge 7, 3) := by decide +kernel
theorem dX11_shareOf_20 : decode cX11_shareOf 20 = .ok (.iconst 1, 1) := by decide +kernel
theorem dX11_shareOf_21 : decode cX11_shareOf 21 = .ok (.goto 4, 3) := by decide +kernel
theorem dX11_shareOf_24 : decode cX11_shareOf 24 = .ok (.iconst 0, 1) := by decide +kernel
theorem dX11_shareOf_25 : decode cX11_shareOf 25 = .ok (.iadd, 1) := by decide +kernel
theorem dX11_shareOf_26 : decode cX11_shareOf 26 = .ok (.istore 4, 2) := by decide +kernel
theorem dX11_shareOf_28 : decode cX11_shareOf 28 = .ok (.iload 4, 2) := by decide +kernel
theorem dX11_shareOf_30 : decode cX11_shareOf 30 = .ok (.aload_n 0, 1) := by decide +kernel
theorem dX11_shareOf_31 : decode cX11_shareOf 31 = .ok (.getfield 55, 3) := by decide +kernel
theorem dX11_shareOf_34 : decode cX11_shareOf 34 = .ok (.iconst 3, 1) := by decide +kernel
theorem dX11_shareOf_35 : decode cX11_shareOf 35 = .ok (.iload_n 1, 1) := by decide +kernel
theorem dX11_shareOf_36 : decode cX11_shareOf 36 = .ok (.imul, 1) := by decide +kernel
theorem dX11_shareOf_37 : decode cX11_shareOf 37 = .ok (.iconst 1, 1) := by decide +kernel
theorem dX11_shareOf_38 : decode cX11_shareOf 38 = .ok (.iadd, 1) := by decide +kernel
theorem dX11_shareOf_39 : decode cX11_shareOf 39 = .ok (.iaload, 1) := by decide +kernel
theorem dX11_shareOf_40 : decode cX11_shareOf 40 = .ok (.invokestatic 348, 3) := by decide +kernel
theorem dX11_shareOf_43 : decode cX11_shareOf 43 = .ok (.ireturn, 1) := by decide +kernel
theorem dX11_note_0 : decode cX11_note 0 = .ok (.aload_n 0, 1) := by decide +kernel
theorem dX11_note_1 : decode cX11_note 1 = .ok (.getfield 70, 3) := by decide +kernel
theorem dX11_note_4 : decode cX11_note 4 = .ok (.bipush 44, 2) := by decide +kernel
theorem dX11_note_6 : decode cX11_note 6 = .ok (.iaload, 1) := by decide +kernel
theorem dX11_note_7 : decode cX11_note 7 = .ok (.bipush 60, 2) := by decide +kernel
theorem dX11_note_9 : decode cX11_note 9 = .ok (.if_icmp .ne 48, 3) := by decide +kernel
theorem dX11_note_12 : decode cX11_note 12 = .ok (.iconst 2, 1) := by decide +kernel
theorem dX11_note_13 : decode cX11_note 13 = .ok (.istore_n 3, 1) := by decide +kernel
theorem dX11_note_14 : decode cX11_note 14 = .ok (.iload_n 3, 1) := by decide +kernel
theorem dX11_note_15 : decode cX11_note 15 = .ok (.bipush 120, 2) := by decide +kernel
theorem dX11_note_17 : decode cX11_note 17 = .ok (.if_icmp .ge 29, 3) := by decide +kernel
theorem dX11_note_20 : decode cX11_note 20 = .ok (.aload_n 0, 1) := by decide +kernel
theorem dX11_note_21 : decode cX11_note 21 = .ok (.getfield 70, 3) := by decide +kernel
theorem dX11_note_24 : decode cX11_note 24 = .ok (.bipush 45, 2) := by decide +kernel
theorem dX11_note_26 : decode cX11_note 26 = .ok (.iload_n 3, 1) := by decide +kernel
theorem dX11_note_27 : decode cX11_note 27 = .ok (.iadd, 1) := by decide +kernel
theorem dX11_note_28 : decode cX11_note 28 = .ok (.iconst 2, 1) := by decide +kernel
theorem dX11_note_29 : decode cX11_note 29 = .ok (.isub, 1) := by decide +kernel
theorem dX11_note_30 : decode cX11_note 30 = .ok (.aload_n 0, 1) := by decide +kernel
theorem dX11_note_31 : decode cX11_note 31 = .ok (.getfield 70, 3) := by decide +kernel
theorem dX11_note_34 : decode cX11_note 34 = .ok (.bipush 45, 2) := by decide +kernel
theorem dX11_note_36 : decode cX11_note 36 = .ok (.iload_n 3, 1) := by decide +kernel
theorem dX11_note_37 : decode cX11_note 37 = .ok (.iadd, 1) := by decide +kernel
theorem dX11_note_38 : decode cX11_note 38 = .ok (.iaload, 1) := by decide +kernel
theorem dX11_note_39 : decode cX11_note 39 = .ok (.iastore, 1) := by decide +kernel
theorem dX11_note_40 : decode cX11_note 40 = .ok (.iinc 3 1, 3) := by decide +kernel
theorem dX11_note_43 : decode cX11_note 43 = .ok (.goto (-29), 3) := by decide +kernel
theorem dX11_note_46 : decode cX11_note 46 = .ok (.aload_n 0, 1) := by decide +kernel
theorem dX11_note_47 : decode cX11_note 47 = .ok (.getfield 70, 3) := by decide +kernel
theorem dX11_note_50 : decode cX11_note 50 = .ok (.bipush 44, 2) := by decide +kernel
theorem dX11_note_52 : decode cX11_note 52 = .ok (.dup2, 1) := by decide +kernel
theorem dX11_note_53 : decode cX11_note 53 = .ok (.iaload, 1) := by decide +kernel
theorem dX11_note_54 : decode cX11_note 54 = .ok (.iconst 1, 1) := by decide +kernel
theorem dX11_note_55 : decode cX11_note 55 = .ok (.isub, 1) := by decide +kernel
theorem dX11_note_56 : decode cX11_note 56 = .ok (.iastore, 1) := by decide +kernel
theorem dX11_note_57 : decode cX11_note 57 = .ok (.aload_n 0, 1) := by decide +kernel
theorem dX11_note_58 : decode cX11_note 58 = .ok (.getfield 70, 3) := by decide +kernel
theorem dX11_note_61 : decode cX11_note 61 = .ok (.bipush 45, 2) := by decide +kernel
theorem dX11_note_63 : decode cX11_note 63 = .ok (.iconst 2, 1) := by decide +kernel
theorem dX11_note_64 : decode cX11_note 64 = .ok (.aload_n 0, 1) := by decide +kernel
theorem dX11_note_65 : decode cX11_note 65 = .ok (.getfield 70, 3) := by decide +kernel
theorem dX11_note_68 : decode cX11_note 68 = .ok (.bipush 44, 2) := by decide +kernel
theorem dX11_note_70 : decode cX11_note 70 = .ok (.iaload, 1) := by decide +kernel
theorem dX11_note_71 : decode cX11_note 71 = .ok (.imul, 1) := by decide +kernel
theorem dX11_note_72 : decode cX11_note 72 = .ok (.iadd, 1) := by decide +kernel
theorem dX11_note_73 : decode cX11_note 73 = .ok (.iload_n 1, 1) := by decide +kernel
theorem dX11_note_74 : decode cX11_note 74 = .ok (.iastore, 1) := by decide +kernel
theorem dX11_note_75 : decode cX11_note 75 = .ok (.aload_n 0, 1) := by decide +kernel
theorem dX11_note_76 : decode cX11_note 76 = .ok (.getfield 70, 3) := by decide +kernel
theorem dX11_note_79 : decode cX11_note 79 = .ok (.bipush 45, 2) := by decide +kernel
theorem dX11_note_81 : decode cX11_note 81 = .ok (.iconst 2, 1) := by decide +kernel
theorem dX11_note_82 : decode cX11_note 82 = .ok (.aload_n 0, 1) := by decide +kernel
theorem dX11_note_83 : decode cX11_note 83 = .ok (.getfield 70, 3) := by decide +kernel
theorem dX11_note_86 : decode cX11_note 86 = .ok (.bipush 44, 2) := by decide +kernel
theorem dX11_note_88 : decode cX11_note 88 = .ok (.iaload, 1) := by decide +kernel
theorem dX11_note_89 : decode cX11_note 89 = .ok (.imul, 1) := by decide +kernel
theorem dX11_note_90 : decode cX11_note 90 = .ok (.iadd, 1) := by decide +kernel
theorem dX11_note_91 : decode cX11_note 91 = .ok (.iconst 1, 1) := by decide +kernel
theorem dX11_note_92 : decode cX11_note 92 = .ok (.iadd, 1) := by decide +kernel
theorem dX11_note_93 : decode cX11_note 93 = .ok (.iload_n 2, 1) := by decide +kernel
theorem dX11_note_94 : decode cX11_note 94 = .ok (.iastore, 1) := by decide +kernel
theorem dX11_note_95 : decode cX11_note 95 = .ok (.aload_n 0, 1) := by decide +kernel
theorem dX11_note_96 : decode cX11_note 96 = .ok (.getfield 70, 3) := by decide +kernel
theorem dX11_note_99 : decode cX11_note 99 = .ok (.bipush 44, 2) := by decide +kernel
theorem dX11_note_101 : decode cX11_note 101 = .ok (.dup2, 1) := by decide +kernel
theorem dX11_note_102 : decode cX11_note 102 = .ok (.iaload, 1) := by decide +kernel
theorem dX11_note_103 : decode cX11_note 103 = .ok (.iconst 1, 1) := by decide +kernel
theorem dX11_note_104 : decode cX11_note 104 = .ok (.iadd, 1) := by decide +kernel
theorem dX11_note_105 : decode cX11_note 105 = .ok (.iastore, 1) := by decide +kernel
theorem dX11_note_106 : decode cX11_note 106 = .ok (.return_, 1) := by decide +kernel
theorem dX11_hoursBy_0 : decode cX11_hoursBy 0 = .ok (.iload_n 2, 1) := by decide +kernel
theorem dX11_hoursBy_1 : decode cX11_hoursBy 1 = .ok (.iload_n 1, 1) := by decide +kernel
theorem dX11_hoursBy_2 : decode cX11_hoursBy 2 = .ok (.invokestatic 221, 3) := by decide +kernel
theorem dX11_hoursBy_5 : decode cX11_hoursBy 5 = .ok (.ifCond .ne 5, 3) := by decide +kernel
theorem dX11_hoursBy_8 : decode cX11_hoursBy 8 = .ok (.iconst 0, 1) := by decide +kernel
theorem dX11_hoursBy_9 : decode cX11_hoursBy 9 = .ok (.ireturn, 1) := by decide +kernel
theorem dX11_hoursBy_10 : decode cX11_hoursBy 10 = .ok (.iconst 0, 1) := by decide +kernel
theorem dX11_hoursBy_11 : decode cX11_hoursBy 11 = .ok (.istore_n 3, 1) := by decide +kernel
theorem dX11_hoursBy_12 : decode cX11_hoursBy 12 = .ok (.iconst 0, 1) := by decide +kernel
theorem dX11_hoursBy_13 : decode cX11_hoursBy 13 = .ok (.istore 4, 2) := by decide +kernel
theorem dX11_hoursBy_15 : decode cX11_hoursBy 15 = .ok (.iconst 0, 1) := by decide +kernel
theorem dX11_hoursBy_16 : decode cX11_hoursBy 16 = .ok (.istore 5, 2) := by decide +kernel
theorem dX11_hoursBy_18 : decode cX11_hoursBy 18 = .ok (.iload 5, 2) := by decide +kernel
theorem dX11_hoursBy_20 : decode cX11_hoursBy 20 = .ok (.aload_n 0, 1) := by decide +kernel
theorem dX11_hoursBy_21 : decode cX11_hoursBy 21 = .ok (.getfield 269, 3) := by decide +kernel
theorem dX11_hoursBy_24 : decode cX11_hoursBy 24 = .ok (.if_icmp .ge 73, 3) := by decide +kernel
theorem dX11_hoursBy_27 : decode cX11_hoursBy 27 = .ok (.iload_n 2, 1) := by decide +kernel
theorem dX11_hoursBy_28 : decode cX11_hoursBy 28 = .ok (.iload 5, 2) := by decide +kernel
theorem dX11_hoursBy_30 : decode cX11_hoursBy 30 = .ok (.invokestatic 221, 3) := by decide +kernel
theorem dX11_hoursBy_33 : decode cX11_hoursBy 33 = .ok (.ifCond .eq 21, 3) := by decide +kernel
theorem dX11_hoursBy_36 : decode cX11_hoursBy 36 = .ok (.aload_n 0, 1) := by decide +kernel
theorem dX11_hoursBy_37 : decode cX11_hoursBy 37 = .ok (.iload 5, 2) := by decide +kernel
theorem dX11_hoursBy_39 : decode cX11_hoursBy 39 = .ok (.invokevirtual 350, 3) := by decide +kernel
theorem dX11_hoursBy_42 : decode cX11_hoursBy 42 = .ok (.aload_n 0, 1) := by decide +kernel
theorem dX11_hoursBy_43 : decode cX11_hoursBy 43 = .ok (.iload_n 1, 1) := by decide +kernel
theorem dX11_hoursBy_44 : decode cX11_hoursBy 44 = .ok (.invokevirtual 350, 3) := by decide +kernel
theorem dX11_hoursBy_47 : decode cX11_hoursBy 47 = .ok (.if_icmp .ne 7, 3) := by decide +kernel
theorem dX11_hoursBy_50 : decode cX11_hoursBy 50 = .ok (.iconst 1, 1) := by decide +kernel
theorem dX11_hoursBy_51 : decode cX11_hoursBy 51 = .ok (.goto 4, 3) := by decide +kernel
theorem dX11_hoursBy_54 : decode cX11_hoursBy 54 = .ok (.iconst 0, 1) := by decide +kernel
theorem dX11_hoursBy_55 : decode cX11_hoursBy 55 = .ok (.istore 6, 2) := by decide +kernel
theorem dX11_hoursBy_57 : decode cX11_hoursBy 57 = .ok (.iload_n 3, 1) := by decide +kernel
theorem dX11_hoursBy_58 : decode cX11_hoursBy 58 = .ok (.iload 6, 2) := by decide +kernel
theorem dX11_hoursBy_60 : decode cX11_hoursBy 60 = .ok (.ifCond .eq 7, 3) := by decide +kernel
theorem dX11_hoursBy_63 : decode cX11_hoursBy 63 = .ok (.iconst 1, 1) := by decide +kernel
theorem dX11_hoursBy_64 : decode cX11_hoursBy 64 = .ok (.goto 4, 3) := by decide +kernel
theorem dX11_hoursBy_67 : decode cX11_hoursBy 67 = .ok (.iconst 0, 1) := by decide +kernel
theorem dX11_hoursBy_68 : decode cX11_hoursBy 68 = .ok (.iadd, 1) := by decide +kernel
theorem dX11_hoursBy_69 : decode cX11_hoursBy 69 = .ok (.istore_n 3, 1) := by decide +kernel
theorem dX11_hoursBy_70 : decode cX11_hoursBy 70 = .ok (.iload 4, 2) := by decide +kernel
theorem dX11_hoursBy_72 : decode cX11_hoursBy 72 = .ok (.iload 6, 2) := by decide +kernel
theorem dX11_hoursBy_74 : decode cX11_hoursBy 74 = .ok (.ifCond .eq 13, 3) := by decide +kernel
theorem dX11_hoursBy_77 : decode cX11_hoursBy 77 = .ok (.iload 5, 2) := by decide +kernel
theorem dX11_hoursBy_79 : decode cX11_hoursBy 79 = .ok (.iload_n 1, 1) := by decide +kernel
theorem dX11_hoursBy_80 : decode cX11_hoursBy 80 = .ok (.if_icmp .ge 7, 3) := by decide +kernel
theorem dX11_hoursBy_83 : decode cX11_hoursBy 83 = .ok (.iconst 1, 1) := by decide +kernel
theorem dX11_hoursBy_84 : decode cX11_hoursBy 84 = .ok (.goto 4, 3) := by decide +kernel
theorem dX11_hoursBy_87 : decode cX11_hoursBy 87 = .ok (.iconst 0, 1) := by decide +kernel
theorem dX11_hoursBy_88 : decode cX11_hoursBy 88 = .ok (.iadd, 1) := by decide +kernel
theorem dX11_hoursBy_89 : decode cX11_hoursBy 89 = .ok (.istore 4, 2) := by decide +kernel
theorem dX11_hoursBy_91 : decode cX11_hoursBy 91 = .ok (.iinc 5 1, 3) := by decide +kernel
theorem dX11_hoursBy_94 : decode cX11_hoursBy 94 = .ok (.goto (-76), 3) := by decide +kernel
theorem dX11_hoursBy_97 : decode cX11_hoursBy 97 = .ok (.aload_n 0, 1) := by decide +kernel
theorem dX11_hoursBy_98 : decode cX11_hoursBy 98 = .ok (.iload_n 1, 1) := by decide +kernel
theorem dX11_hoursBy_99 : decode cX11_hoursBy 99 = .ok (.iload_n 3, 1) := by decide +kernel
theorem dX11_hoursBy_100 : decode cX11_hoursBy 100 = .ok (.iload 4, 2) := by decide +kernel
theorem dX11_hoursBy_102 : decode cX11_hoursBy 102 = .ok (.invokevirtual 353, 3) := by decide +kernel
theorem dX11_hoursBy_105 : decode cX11_hoursBy 105 = .ok (.ireturn, 1) := by decide +kernel
theorem dX11_dawn_0 : decode cX11_dawn 0 = .ok (.iconst 0, 1) := by decide +kernel
theorem dX11_dawn_1 : decode cX11_dawn 1 = .ok (.istore_n 2, 1) := by decide +kernel
theorem dX11_dawn_2 : decode cX11_dawn 2 = .ok (.iconst 0, 1) := by decide +kernel
theorem dX11_dawn_3 : decode cX11_dawn 3 = .ok (.istore_n 3, 1) := by decide +kernel
theorem dX11_dawn_4 : decode cX11_dawn 4 = .ok (.iload_n 3, 1) := by decide +kernel
theorem dX11_dawn_5 : decode cX11_dawn 5 = .ok (.aload_n 0, 1) := by decide +kernel
theorem dX11_dawn_6 : decode cX11_dawn 6 = .ok (.getfield 269, 3) := by decide +kernel
theorem dX11_dawn_9 : decode cX11_dawn 9 = .ok (.if_icmp .ge 40, 3) := by decide +kernel
theorem dX11_dawn_12 : decode cX11_dawn 12 = .ok (.iload_n 2, 1) := by decide +kernel
theorem dX11_dawn_13 : decode cX11_dawn 13 = .ok (.iload_n 1, 1) := by decide +kernel
theorem dX11_dawn_14 : decode cX11_dawn 14 = .ok (.ifCond .ne 26, 3) := by decide +kernel
theorem dX11_dawn_17 : decode cX11_dawn 17 = .ok (.aload_n 0, 1) := by decide +kernel
theorem dX11_dawn_18 : decode cX11_dawn 18 = .ok (.iload_n 3, 1) := by decide +kernel
theorem dX11_dawn_19 : decode cX11_dawn 19 = .ok (.iconst 0, 1) := by decide +kernel
theorem dX11_dawn_20 : decode cX11_dawn 20 = .ok (.invokevirtual 303, 3) := by decide +kernel
theorem dX11_dawn_23 : decode cX11_dawn 23 = .ok (.aload_n 0, 1) := by decide +kernel
theorem dX11_dawn_24 : decode cX11_dawn 24 = .ok (.iload_n 3, 1) := by decide +kernel
theorem dX11_dawn_25 : decode cX11_dawn 25 = .ok (.invokevirtual 350, 3) := by decide +kernel
theorem dX11_dawn_28 : decode cX11_dawn 28 = .ok (.invokestatic 221, 3) := by decide +kernel
theorem dX11_dawn_31 : decode cX11_dawn 31 = .ok (.ifCond .eq 9, 3) := by decide +kernel
theorem dX11_dawn_34 : decode cX11_dawn 34 = .ok (.iconst 1, 1) := by decide +kernel
theorem dX11_dawn_35 : decode cX11_dawn 35 = .ok (.iload_n 3, 1) := by decide +kernel
theorem dX11_dawn_36 : decode cX11_dawn 36 = .ok (.ishl, 1) := by decide +kernel
theorem dX11_dawn_37 : decode cX11_dawn 37 = .ok (.goto 4, 3) := by decide +kernel
theorem dX11_dawn_40 : decode cX11_dawn 40 = .ok (.iconst 0, 1) := by decide +kernel
theorem dX11_dawn_41 : decode cX11_dawn 41 = .ok (.ior, 1) := by decide +kernel
theorem dX11_dawn_42 : decode cX11_dawn 42 = .ok (.istore_n 2, 1) := by decide +kernel
theorem dX11_dawn_43 : decode cX11_dawn 43 = .ok (.iinc 3 1, 3) := by decide +kernel
theorem dX11_dawn_46 : decode cX11_dawn 46 = .ok (.goto (-42), 3) := by decide +kernel
theorem dX11_dawn_49 : decode cX11_dawn 49 = .ok (.iconst 0, 1) := by decide +kernel
theorem dX11_dawn_50 : decode cX11_dawn 50 = .ok (.istore_n 3, 1) := by decide +kernel
theorem dX11_dawn_51 : decode cX11_dawn 51 = .ok (.iconst 0, 1) := by decide +kernel
theorem dX11_dawn_52 : decode cX11_dawn 52 = .ok (.istore 4, 2) := by decide +kernel
theorem dX11_dawn_54 : decode cX11_dawn 54 = .ok (.iload 4, 2) := by decide +kernel
theorem dX11_dawn_56 : decode cX11_dawn 56 = .ok (.aload_n 0, 1) := by decide +kernel
theorem dX11_dawn_57 : decode cX11_dawn 57 = .ok (.getfield 269, 3) := by decide +kernel
theorem dX11_dawn_60 : decode cX11_dawn 60 = .ok (.if_icmp .ge 33, 3) := by decide +kernel
theorem dX11_dawn_63 : decode cX11_dawn 63 = .ok (.aload_n 0, 1) := by decide +kernel
theorem dX11_dawn_64 : decode cX11_dawn 64 = .ok (.iload 4, 2) := by decide +kernel
theorem dX11_dawn_66 : decode cX11_dawn 66 = .ok (.iconst 4, 1) := by decide +kernel
theorem dX11_dawn_67 : decode cX11_dawn 67 = .ok (.aload_n 0, 1) := by decide +kernel
theorem dX11_dawn_68 : decode cX11_dawn 68 = .ok (.iload 4, 2) := by decide +kernel
theorem dX11_dawn_70 : decode cX11_dawn 70 = .ok (.iload_n 2, 1) := by decide +kernel
theorem dX11_dawn_71 : decode cX11_dawn 71 = .ok (.invokevirtual 356, 3) := by decide +kernel
theorem dX11_dawn_74 : decode cX11_dawn 74 = .ok (.invokevirtual 278, 3) := by decide +kernel
theorem dX11_dawn_77 : decode cX11_dawn 77 = .ok (.iload_n 3, 1) := by decide +kernel
theorem dX11_dawn_78 : decode cX11_dawn 78 = .ok (.aload_n 0, 1) := by decide +kernel
theorem dX11_dawn_79 : decode cX11_dawn 79 = .ok (.iload 4, 2) := by decide +kernel
theorem dX11_dawn_81 : decode cX11_dawn 81 = .ok (.iconst 4, 1) := by decide +kernel
theorem dX11_dawn_82 : decode cX11_dawn 82 = .ok (.invokevirtual 303, 3) := by decide +kernel
theorem dX11_dawn_85 : decode cX11_dawn 85 = .ok (.iadd, 1) := by decide +kernel
theorem dX11_dawn_86 : decode cX11_dawn 86 = .ok (.istore_n 3, 1) := by decide +kernel
theorem dX11_dawn_87 : decode cX11_dawn 87 = .ok (.iinc 4 1, 3) := by decide +kernel
theorem dX11_dawn_90 : decode cX11_dawn 90 = .ok (.goto (-36), 3) := by decide +kernel
theorem dX11_dawn_93 : decode cX11_dawn 93 = .ok (.iconst 0, 1) := by decide +kernel
theorem dX11_dawn_94 : decode cX11_dawn 94 = .ok (.istore 4, 2) := by decide +kernel
theorem dX11_dawn_96 : decode cX11_dawn 96 = .ok (.iload 4, 2) := by decide +kernel
theorem dX11_dawn_98 : decode cX11_dawn 98 = .ok (.aload_n 0, 1) := by decide +kernel
theorem dX11_dawn_99 : decode cX11_dawn 99 = .ok (.getfield 269, 3) := by decide +kernel
theorem dX11_dawn_102 : decode cX11_dawn 102 = .ok (.if_icmp .ge 53, 3) := by decide +kernel
theorem dX11_dawn_105 : decode cX11_dawn 105 = .ok (.aload_n 0, 1) := by decide +kernel
theorem dX11_dawn_106 : decode cX11_dawn 106 = .ok (.iload 4, 2) := by decide +kernel
theorem dX11_dawn_108 : decode cX11_dawn 108 = .ok (.iconst 0, 1) := by decide +kernel
theorem dX11_dawn_109 : decode cX11_dawn 109 = .ok (.iload_n 2, 1) := by decide +kernel
theorem dX11_dawn_110 : decode cX11_dawn 110 = .ok (.iload 4, 2) := by decide +kernel
theorem dX11_dawn_112 : decode cX11_dawn 112 = .ok (.invokestatic 221, 3) := by decide +kernel
theorem dX11_dawn_115 : decode cX11_dawn 115 = .ok (.ifCond .eq 24, 3) := by decide +kernel
theorem dX11_dawn_118 : decode cX11_dawn 118 = .ok (.aload_n 0, 1) := by decide +kernel
theorem dX11_dawn_119 : decode cX11_dawn 119 = .ok (.iload 4, 2) := by decide +kernel
theorem dX11_dawn_121 : decode cX11_dawn 121 = .ok (.iconst 0, 1) := by decide +kernel
theorem dX11_dawn_122 : decode cX11_dawn 122 = .ok (.invokevirtual 303, 3) := by decide +kernel
theorem dX11_dawn_125 : decode cX11_dawn 125 = .ok (.iconst 1, 1) := by decide +kernel
theorem dX11_dawn_126 : decode cX11_dawn 126 = .ok (.aload_n 0, 1) := by decide +kernel
theorem dX11_dawn_127 : decode cX11_dawn 127 = .ok (.iload 4, 2) := by decide +kernel
theorem dX11_dawn_129 : decode cX11_dawn 129 = .ok (.invokevirtual 350, 3) := by decide +kernel
theorem dX11_dawn_132 : decode cX11_dawn 132 = .ok (.ishl, 1) := by decide +kernel
theorem dX11_dawn_133 : decode cX11_dawn 133 = .ok (.iconst (-1), 1) := by decide +kernel
theorem dX11_dawn_134 : decode cX11_dawn 134 = .ok (.ixor, 1) := by decide +kernel
theorem dX11_dawn_135 : decode cX11_dawn 135 = .ok (.iand, 1) := by decide +kernel
theorem dX11_dawn_136 : decode cX11_dawn 136 = .ok (.goto 10, 3) := by decide +kernel
theorem dX11_dawn_139 : decode cX11_dawn 139 = .ok (.aload_n 0, 1) := by decide +kernel
theorem dX11_dawn_140 : decode cX11_dawn 140 = .ok (.iload 4, 2) := by decide +kernel
theorem dX11_dawn_142 : decode cX11_dawn 142 = .ok (.iconst 0, 1) := by decide +kernel
theorem dX11_dawn_143 : decode cX11_dawn 143 = .ok (.invokevirtual 303, 3) := by decide +kernel
theorem dX11_dawn_146 : decode cX11_dawn 146 = .ok (.invokevirtual 278, 3) := by decide +kernel
theorem dX11_dawn_149 : decode cX11_dawn 149 = .ok (.iinc 4 1, 3) := by decide +kernel
theorem dX11_dawn_152 : decode cX11_dawn 152 = .ok (.goto (-56), 3) := by decide +kernel
theorem dX11_dawn_155 : decode cX11_dawn 155 = .ok (.aload_n 0, 1) := by decide +kernel
theorem dX11_dawn_156 : decode cX11_dawn 156 = .ok (.iload_n 2, 1) := by decide +kernel
theorem dX11_dawn_157 : decode cX11_dawn 157 = .ok (.iload_n 3, 1) := by decide +kernel
theorem dX11_dawn_158 : decode cX11_dawn 158 = .ok (.invokevirtual 359, 3) := by decide +kernel
theorem dX11_dawn_161 : decode cX11_dawn 161 = .ok (.return_, 1) := by decide +kernel
theorem dX11_isGranted_0 : decode cX11_isGranted 0 = .ok (.aload_n 0, 1) := by decide +kernel
theorem dX11_isGranted_1 : decode cX11_isGranted 1 = .ok (.getfield 73, 3) := by decide +kernel
theorem dX11_isGranted_4 : decode cX11_isGranted 4 = .ok (.iconst (-1), 1) := by decide +kernel
theorem dX11_isGranted_5 : decode cX11_isGranted 5 = .ok (.if_icmp .ne 5, 3) := by decide +kernel
theorem dX11_isGranted_8 : decode cX11_isGranted 8 = .ok (.iconst 1, 1) := by decide +kernel
theorem dX11_isGranted_9 : decode cX11_isGranted 9 = .ok (.ireturn, 1) := by decide +kernel
theorem dX11_isGranted_10 : decode cX11_isGranted 10 = .ok (.aload_n 0, 1) := by decide +kernel
theorem dX11_isGranted_11 : decode cX11_isGranted 11 = .ok (.getfield 34, 3) := by decide +kernel
theorem dX11_isGranted_14 : decode cX11_isGranted 14 = .ok (.iconst 0, 1) := by decide +kernel
theorem dX11_isGranted_15 : decode cX11_isGranted 15 = .ok (.aload_n 0, 1) := by decide +kernel
theorem dX11_isGranted_16 : decode cX11_isGranted 16 = .ok (.invokevirtual 318, 3) := by decide +kernel
theorem dX11_isGranted_19 : decode cX11_isGranted 19 = .ok (.iastore, 1) := by decide +kernel
theorem dX11_isGranted_20 : decode cX11_isGranted 20 = .ok (.aload_n 0, 1) := by decide +kernel
theorem dX11_isGranted_21 : decode cX11_isGranted 21 = .ok (.getfield 34, 3) := by decide +kernel
theorem dX11_isGranted_24 : decode cX11_isGranted 24 = .ok (.iconst 1, 1) := by decide +kernel
theorem dX11_isGranted_25 : decode cX11_isGranted 25 = .ok (.aload_n 0, 1) := by decide +kernel
theorem dX11_isGranted_26 : decode cX11_isGranted 26 = .ok (.getfield 70, 3) := by decide +kernel
theorem dX11_isGranted_29 : decode cX11_isGranted 29 = .ok (.bipush 42, 2) := by decide +kernel
theorem dX11_isGranted_31 : decode cX11_isGranted 31 = .ok (.iaload, 1) := by decide +kernel
theorem dX11_isGranted_32 : decode cX11_isGranted 32 = .ok (.bipush 24, 2) := by decide +kernel
theorem dX11_isGranted_34 : decode cX11_isGranted 34 = .ok (.idiv, 1) := by decide +kernel
theorem dX11_isGranted_35 : decode cX11_isGranted 35 = .ok (.iastore, 1) := by decide +kernel
theorem dX11_isGranted_36 : decode cX11_isGranted 36 = .ok (.aload_n 0, 1) := by decide +kernel
theorem dX11_isGranted_37 : decode cX11_isGranted 37 = .ok (.getfield 34, 3) := by decide +kernel
theorem dX11_isGranted_40 : decode cX11_isGranted 40 = .ok (.iconst 2, 1) := by decide +kernel
theorem dX11_isGranted_41 : decode cX11_isGranted 41 = .ok (.iload_n 3, 1) := by decide +kernel
theorem dX11_isGranted_42 : decode cX11_isGranted 42 = .ok (.iastore, 1) := by decide +kernel
theorem dX11_isGranted_43 : decode cX11_isGranted 43 = .ok (.aload_n 0, 1) := by decide +kernel
theorem dX11_isGranted_44 : decode cX11_isGranted 44 = .ok (.getfield 34, 3) := by decide +kernel
theorem dX11_isGranted_47 : decode cX11_isGranted 47 = .ok (.iconst 3, 1) := by decide +kernel
theorem dX11_isGranted_48 : decode cX11_isGranted 48 = .ok (.aload_n 0, 1) := by decide +kernel
theorem dX11_isGranted_49 : decode cX11_isGranted 49 = .ok (.iload_n 1, 1) := by decide +kernel
theorem dX11_isGranted_50 : decode cX11_isGranted 50 = .ok (.iconst 0, 1) := by decide +kernel
theorem dX11_isGranted_51 : decode cX11_isGranted 51 = .ok (.invokevirtual 303, 3) := by decide +kernel
theorem dX11_isGranted_54 : decode cX11_isGranted 54 = .ok (.invokestatic 362, 3) := by decide +kernel
theorem dX11_isGranted_57 : decode cX11_isGranted 57 = .ok (.iastore, 1) := by decide +kernel
theorem dX11_isGranted_58 : decode cX11_isGranted 58 = .ok (.aload_n 0, 1) := by decide +kernel
theorem dX11_isGranted_59 : decode cX11_isGranted 59 = .ok (.getfield 34, 3) := by decide +kernel
theorem dX11_isGranted_62 : decode cX11_isGranted 62 = .ok (.iconst 4, 1) := by decide +kernel
theorem dX11_isGranted_63 : decode cX11_isGranted 63 = .ok (.iload_n 1, 1) := by decide +kernel
theorem dX11_isGranted_64 : decode cX11_isGranted 64 = .ok (.iastore, 1) := by decide +kernel
theorem dX11_isGranted_65 : decode cX11_isGranted 65 = .ok (.aload_n 0, 1) := by decide +kernel
theorem dX11_isGranted_66 : decode cX11_isGranted 66 = .ok (.getfield 34, 3) := by decide +kernel
theorem dX11_isGranted_69 : decode cX11_isGranted 69 = .ok (.iconst 5, 1) := by decide +kernel
theorem dX11_isGranted_70 : decode cX11_isGranted 70 = .ok (.iload_n 2, 1) := by decide +kernel
theorem dX11_isGranted_71 : decode cX11_isGranted 71 = .ok (.iastore, 1) := by decide +kernel
theorem dX11_isGranted_72 : decode cX11_isGranted 72 = .ok (.aload_n 0, 1) := by decide +kernel
theorem dX11_isGranted_73 : decode cX11_isGranted 73 = .ok (.getfield 34, 3) := by decide +kernel
theorem dX11_isGranted_76 : decode cX11_isGranted 76 = .ok (.bipush 6, 2) := by decide +kernel
theorem dX11_isGranted_78 : decode cX11_isGranted 78 = .ok (.aload_n 0, 1) := by decide +kernel
theorem dX11_isGranted_79 : decode cX11_isGranted 79 = .ok (.getfield 55, 3) := by decide +kernel
theorem dX11_isGranted_82 : decode cX11_isGranted 82 = .ok (.iconst 3, 1) := by decide +kernel
theorem dX11_isGranted_83 : decode cX11_isGranted 83 = .ok (.iload_n 1, 1) := by decide +kernel
theorem dX11_isGranted_84 : decode cX11_isGranted 84 = .ok (.imul, 1) := by decide +kernel
theorem dX11_isGranted_85 : decode cX11_isGranted 85 = .ok (.iconst 2, 1) := by decide +kernel
theorem dX11_isGranted_86 : decode cX11_isGranted 86 = .ok (.iadd, 1) := by decide +kernel
theorem dX11_isGranted_87 : decode cX11_isGranted 87 = .ok (.iaload, 1) := by decide +kernel
theorem dX11_isGranted_88 : decode cX11_isGranted 88 = .ok (.iastore, 1) := by decide +kernel
theorem dX11_isGranted_89 : decode cX11_isGranted 89 = .ok (.aload_n 0, 1) := by decide +kernel
theorem dX11_isGranted_90 : decode cX11_isGranted 90 = .ok (.aload_n 0, 1) := by decide +kernel
theorem dX11_isGranted_91 : decode cX11_isGranted 91 = .ok (.getfield 73, 3) := by decide +kernel
theorem dX11_isGranted_94 : decode cX11_isGranted 94 = .ok (.invokevirtual 367, 3) := by decide +kernel
theorem dX11_isGranted_97 : decode cX11_isGranted 97 = .ok (.ifCond .le 7, 3) := by decide +kernel
theorem dX11_isGranted_100 : decode cX11_isGranted 100 = .ok (.iconst 1, 1) := by decide +kernel
theorem dX11_isGranted_101 : decode cX11_isGranted 101 = .ok (.goto 4, 3) := by decide +kernel
theorem dX11_isGranted_104 : decode cX11_isGranted 104 = .ok (.iconst 0, 1) := by decide +kernel
theorem dX11_isGranted_105 : decode cX11_isGranted 105 = .ok (.ireturn, 1) := by decide +kernel
theorem dX11_serve_0 : decode cX11_serve 0 = .ok (.aload_n 0, 1) := by decide +kernel
theorem dX11_serve_1 : decode cX11_serve 1 = .ok (.iload_n 1, 1) := by decide +kernel
theorem dX11_serve_2 : decode cX11_serve 2 = .ok (.aload_n 0, 1) := by decide +kernel
theorem dX11_serve_3 : decode cX11_serve 3 = .ok (.invokevirtual 318, 3) := by decide +kernel
theorem dX11_serve_6 : decode cX11_serve 6 = .ok (.invokevirtual 321, 3) := by decide +kernel
theorem dX11_serve_9 : decode cX11_serve 9 = .ok (.ifCond .eq 11, 3) := by decide +kernel
theorem dX11_serve_12 : decode cX11_serve 12 = .ok (.aload_n 0, 1) := by decide +kernel
theorem dX11_serve_13 : decode cX11_serve 13 = .ok (.iload_n 1, 1) := by decide +kernel
theorem dX11_serve_14 : decode cX11_serve 14 = .ok (.invokevirtual 315, 3) := by decide +kernel
theorem dX11_serve_17 : decode cX11_serve 17 = .ok (.goto 4, 3) := by decide +kernel
theorem dX11_serve_20 : decode cX11_serve 20 = .ok (.iconst (-1), 1) := by decide +kernel
theorem dX11_serve_21 : decode cX11_serve 21 = .ok (.istore_n 2, 1) := by decide +kernel
theorem dX11_serve_22 : decode cX11_serve 22 = .ok (.iload_n 2, 1) := by decide +kernel
theorem dX11_serve_23 : decode cX11_serve 23 = .ok (.iconst (-1), 1) := by decide +kernel
theorem dX11_serve_24 : decode cX11_serve 24 = .ok (.if_icmp .ne 4, 3) := by decide +kernel
theorem dX11_serve_27 : decode cX11_serve 27 = .ok (.return_, 1) := by decide +kernel
theorem dX11_serve_28 : decode cX11_serve 28 = .ok (.aload_n 0, 1) := by decide +kernel
theorem dX11_serve_29 : decode cX11_serve 29 = .ok (.iload_n 2, 1) := by decide +kernel
theorem dX11_serve_30 : decode cX11_serve 30 = .ok (.iconst 3, 1) := by decide +kernel
theorem dX11_serve_31 : decode cX11_serve 31 = .ok (.aload_n 0, 1) := by decide +kernel
theorem dX11_serve_32 : decode cX11_serve 32 = .ok (.iload_n 2, 1) := by decide +kernel
theorem dX11_serve_33 : decode cX11_serve 33 = .ok (.iconst 3, 1) := by decide +kernel
theorem dX11_serve_34 : decode cX11_serve 34 = .ok (.invokevirtual 303, 3) := by decide +kernel
theorem dX11_serve_37 : decode cX11_serve 37 = .ok (.iconst 1, 1) := by decide +kernel
theorem dX11_serve_38 : decode cX11_serve 38 = .ok (.iadd, 1) := by decide +kernel
theorem dX11_serve_39 : decode cX11_serve 39 = .ok (.invokevirtual 278, 3) := by decide +kernel
theorem dX11_serve_42 : decode cX11_serve 42 = .ok (.aload_n 0, 1) := by decide +kernel
theorem dX11_serve_43 : decode cX11_serve 43 = .ok (.iload_n 2, 1) := by decide +kernel
theorem dX11_serve_44 : decode cX11_serve 44 = .ok (.iconst 3, 1) := by decide +kernel
theorem dX11_serve_45 : decode cX11_serve 45 = .ok (.invokevirtual 303, 3) := by decide +kernel
theorem dX11_serve_48 : decode cX11_serve 48 = .ok (.aload_n 0, 1) := by decide +kernel
theorem dX11_serve_49 : decode cX11_serve 49 = .ok (.getfield 58, 3) := by decide +kernel
theorem dX11_serve_52 : decode cX11_serve 52 = .ok (.iconst 4, 1) := by decide +kernel
theorem dX11_serve_53 : decode cX11_serve 53 = .ok (.iload_n 1, 1) := by decide +kernel
theorem dX11_serve_54 : decode cX11_serve 54 = .ok (.imul, 1) := by decide +kernel
theorem dX11_serve_55 : decode cX11_serve 55 = .ok (.iconst 2, 1) := by decide +kernel
theorem dX11_serve_56 : decode cX11_serve 56 = .ok (.iadd, 1) := by decide +kernel
theorem dX11_serve_57 : decode cX11_serve 57 = .ok (.iaload, 1) := by decide +kernel
theorem dX11_serve_58 : decode cX11_serve 58 = .ok (.if_icmp .ne 91, 3) := by decide +kernel
theorem dX11_serve_61 : decode cX11_serve 61 = .ok (.aload_n 0, 1) := by decide +kernel
theorem dX11_serve_62 : decode cX11_serve 62 = .ok (.iload_n 2, 1) := by decide +kernel
theorem dX11_serve_63 : decode cX11_serve 63 = .ok (.iconst 1, 1) := by decide +kernel
theorem dX11_serve_64 : decode cX11_serve 64 = .ok (.invokevirtual 303, 3) := by decide +kernel
theorem dX11_serve_67 : decode cX11_serve 67 = .ok (.istore_n 3, 1) := by decide +kernel
theorem dX11_serve_68 : decode cX11_serve 68 = .ok (.aload_n 0, 1) := by decide +kernel
theorem dX11_serve_69 : decode cX11_serve 69 = .ok (.iload_n 1, 1) := by decide +kernel
theorem dX11_serve_70 : decode cX11_serve 70 = .ok (.invokevirtual 312, 3) := by decide +kernel
theorem dX11_serve_73 : decode cX11_serve 73 = .ok (.istore 4, 2) := by decide +kernel
theorem dX11_serve_75 : decode cX11_serve 75 = .ok (.aload_n 0, 1) := by decide +kernel
theorem dX11_serve_76 : decode cX11_serve 76 = .ok (.iload_n 2, 1) := by decide +kernel
theorem dX11_serve_77 : decode cX11_serve 77 = .ok (.invokevirtual 345, 3) := by decide +kernel
theorem dX11_serve_80 : decode cX11_serve 80 = .ok (.aload_n 0, 1) := by decide +kernel
theorem dX11_serve_81 : decode cX11_serve 81 = .ok (.iload_n 2, 1) := by decide +kernel
theorem dX11_serve_82 : decode cX11_serve 82 = .ok (.iconst 5, 1) := by decide +kernel
theorem dX11_serve_83 : decode cX11_serve 83 = .ok (.aload_n 0, 1) := by decide +kernel
theorem dX11_serve_84 : decode cX11_serve 84 = .ok (.iload_n 2, 1) := by decide +kernel
theorem dX11_serve_85 : decode cX11_serve 85 = .ok (.iconst 5, 1) := by decide +kernel
theorem dX11_serve_86 : decode cX11_serve 86 = .ok (.invokevirtual 303, 3) := by decide +kernel
theorem dX11_serve_89 : decode cX11_serve 89 = .ok (.aload_n 0, 1) := by decide +kernel
theorem dX11_serve_90 : decode cX11_serve 90 = .ok (.getfield 58, 3) := by decide +kernel
theorem dX11_serve_93 : decode cX11_serve 93 = .ok (.iconst 4, 1) := by decide +kernel
theorem dX11_serve_94 : decode cX11_serve 94 = .ok (.iload_n 1, 1) := by decide +kernel
theorem dX11_serve_95 : decode cX11_serve 95 = .ok (.imul, 1) := by decide +kernel
theorem dX11_serve_96 : decode cX11_serve 96 = .ok (.iconst 3, 1) := by decide +kernel
theorem dX11_serve_97 : decode cX11_serve 97 = .ok (.iadd, 1) := by decide +kernel
theorem dX11_serve_98 : decode cX11_serve 98 = .ok (.iaload, 1) := by decide +kernel
theorem dX11_serve_99 : decode cX11_serve 99 = .ok (.iadd, 1) := by decide +kernel
theorem dX11_serve_100 : decode cX11_serve 100 = .ok (.invokevirtual 278, 3) := by decide +kernel
theorem dX11_serve_103 : decode cX11_serve 103 = .ok (.aload_n 0, 1) := by decide +kernel
theorem dX11_serve_104 : decode cX11_serve 104 = .ok (.iload_n 2, 1) := by decide +kernel
theorem dX11_serve_105 : decode cX11_serve 105 = .ok (.iload_n 3, 1) := by decide +kernel
theorem dX11_serve_106 : decode cX11_serve 106 = .ok (.iload 4, 2) := by decide +kernel
theorem dX11_serve_108 : decode cX11_serve 108 = .ok (.invokevirtual 370, 3) := by decide +kernel
theorem dX11_serve_111 : decode cX11_serve 111 = .ok (.ifCond .eq 22, 3) := by decide +kernel
theorem dX11_serve_114 : decode cX11_serve 114 = .ok (.aload_n 0, 1) := by decide +kernel
theorem dX11_serve_115 : decode cX11_serve 115 = .ok (.iload_n 2, 1) := by decide +kernel
theorem dX11_serve_116 : decode cX11_serve 116 = .ok (.iconst 0, 1) := by decide +kernel
theorem dX11_serve_117 : decode cX11_serve 117 = .ok (.aload_n 0, 1) := by decide +kernel
theorem dX11_serve_118 : decode cX11_serve 118 = .ok (.iload_n 2, 1) := by decide +kernel
theorem dX11_serve_119 : decode cX11_serve 119 = .ok (.iconst 0, 1) := by decide +kernel
theorem dX11_serve_120 : decode cX11_serve 120 = .ok (.invokevirtual 303, 3) := by decide +kernel
theorem dX11_serve_123 : decode cX11_serve 123 = .ok (.iconst 1, 1) := by decide +kernel
theorem dX11_serve_124 : decode cX11_serve 124 = .ok (.iload_n 3, 1) := by decide +kernel
theorem dX11_serve_125 : decode cX11_serve 125 = .ok (.ishl, 1) := by decide +kernel
theorem dX11_serve_126 : decode cX11_serve 126 = .ok (.ior, 1) := by decide +kernel
theorem dX11_serve_127 : decode cX11_serve 127 = .ok (.invokevirtual 278, 3) := by decide +kernel
theorem dX11_serve_130 : decode cX11_serve 130 = .ok (.goto 19, 3) := by decide +kernel
theorem dX11_serve_133 : decode cX11_serve 133 = .ok (.aload_n 0, 1) := by decide +kernel
theorem dX11_serve_134 : decode cX11_serve 134 = .ok (.iload_n 2, 1) := by decide +kernel
theorem dX11_serve_135 : decode cX11_serve 135 = .ok (.bipush 6, 2) := by decide +kernel
theorem dX11_serve_137 : decode cX11_serve 137 = .ok (.aload_n 0, 1) := by decide +kernel
theorem dX11_serve_138 : decode cX11_serve 138 = .ok (.iload_n 2, 1) := by decide +kernel
theorem dX11_serve_139 : decode cX11_serve 139 = .ok (.bipush 6, 2) := by decide +kernel
theorem dX11_serve_141 : decode cX11_serve 141 = .ok (.invokevirtual 303, 3) := by decide +kernel
theorem dX11_serve_144 : decode cX11_serve 144 = .ok (.iconst 1, 1) := by decide +kernel
theorem dX11_serve_145 : decode cX11_serve 145 = .ok (.iadd, 1) := by decide +kernel
theorem dX11_serve_146 : decode cX11_serve 146 = .ok (.invokevirtual 278, 3) := by decide +kernel
theorem dX11_serve_149 : decode cX11_serve 149 = .ok (.return_, 1) := by decide +kernel
theorem dX11_isDawn_0 : decode cX11_isDawn 0 = .ok (.aload_n 0, 1) := by decide +kernel
theorem dX11_isDawn_1 : decode cX11_isDawn 1 = .ok (.invokevirtual 318, 3) := by decide +kernel
theorem dX11_isDawn_4 : decode cX11_isDawn 4 = .ok (.aload_n 0, 1) := by decide +kernel
theorem dX11_isDawn_5 : decode cX11_isDawn 5 = .ok (.getfield 52, 3) := by decide +kernel
theorem dX11_isDawn_8 : decode cX11_isDawn 8 = .ok (.iconst 0, 1) := by decide +kernel
theorem dX11_isDawn_9 : decode cX11_isDawn 9 = .ok (.iaload, 1) := by decide +kernel
theorem dX11_isDawn_10 : decode cX11_isDawn 10 = .ok (.if_icmp .ne 7, 3) := by decide +kernel
theorem dX11_isDawn_13 : decode cX11_isDawn 13 = .ok (.iconst 1, 1) := by decide +kernel
theorem dX11_isDawn_14 : decode cX11_isDawn 14 = .ok (.goto 4, 3) := by decide +kernel
theorem dX11_isDawn_17 : decode cX11_isDawn 17 = .ok (.iconst 0, 1) := by decide +kernel
theorem dX11_isDawn_18 : decode cX11_isDawn 18 = .ok (.ireturn, 1) := by decide +kernel
theorem dX11_pass_0 : decode cX11_pass 0 = .ok (.aload_n 0, 1) := by decide +kernel
theorem dX11_pass_1 : decode cX11_pass 1 = .ok (.invokevirtual 373, 3) := by decide +kernel
theorem dX11_pass_4 : decode cX11_pass 4 = .ok (.ifCond .eq 8, 3) := by decide +kernel
theorem dX11_pass_7 : decode cX11_pass 7 = .ok (.aload_n 0, 1) := by decide +kernel
theorem dX11_pass_8 : decode cX11_pass 8 = .ok (.iload_n 1, 1) := by decide +kernel
theorem dX11_pass_9 : decode cX11_pass 9 = .ok (.invokevirtual 376, 3) := by decide +kernel
theorem dX11_pass_12 : decode cX11_pass 12 = .ok (.iconst 0, 1) := by decide +kernel
theorem dX11_pass_13 : decode cX11_pass 13 = .ok (.istore_n 2, 1) := by decide +kernel
theorem dX11_pass_14 : decode cX11_pass 14 = .ok (.iload_n 2, 1) := by decide +kernel
theorem dX11_pass_15 : decode cX11_pass 15 = .ok (.aload_n 0, 1) := by decide +kernel
theorem dX11_pass_16 : decode cX11_pass 16 = .ok (.getfield 272, 3) := by decide +kernel
theorem dX11_pass_19 : decode cX11_pass 19 = .ok (.if_icmp .ge 14, 3) := by decide +kernel
theorem dX11_pass_22 : decode cX11_pass 22 = .ok (.aload_n 0, 1) := by decide +kernel
theorem dX11_pass_23 : decode cX11_pass 23 = .ok (.iload_n 2, 1) := by decide +kernel
theorem dX11_pass_24 : decode cX11_pass 24 = .ok (.invokevirtual 380, 3) := by decide +kernel
theorem dX11_pass_27 : decode cX11_pass 27 = .ok (.iinc 2 1, 3) := by decide +kernel
theorem dX11_pass_30 : decode cX11_pass 30 = .ok (.goto (-16), 3) := by decide +kernel
theorem dX11_pass_33 : decode cX11_pass 33 = .ok (.aload_n 0, 1) := by decide +kernel
theorem dX11_pass_34 : decode cX11_pass 34 = .ok (.getfield 70, 3) := by decide +kernel
theorem dX11_pass_37 : decode cX11_pass 37 = .ok (.bipush 42, 2) := by decide +kernel
theorem dX11_pass_39 : decode cX11_pass 39 = .ok (.dup2, 1) := by decide +kernel
theorem dX11_pass_40 : decode cX11_pass 40 = .ok (.iaload, 1) := by decide +kernel
theorem dX11_pass_41 : decode cX11_pass 41 = .ok (.iconst 1, 1) := by decide +kernel
theorem dX11_pass_42 : decode cX11_pass 42 = .ok (.iadd, 1) := by decide +kernel
theorem dX11_pass_43 : decode cX11_pass 43 = .ok (.iastore, 1) := by decide +kernel
theorem dX11_pass_44 : decode cX11_pass 44 = .ok (.return_, 1) := by decide +kernel
theorem dX11_areHours_0 : decode cX11_areHours 0 = .ok (.aload_n 0, 1) := by decide +kernel
theorem dX11_areHours_1 : decode cX11_areHours 1 = .ok (.getfield 269, 3) := by decide +kernel
theorem dX11_areHours_4 : decode cX11_areHours 4 = .ok (.ifCond .le 31, 3) := by decide +kernel
theorem dX11_areHours_7 : decode cX11_areHours 7 = .ok (.iload_n 1, 1) := by decide +kernel
theorem dX11_areHours_8 : decode cX11_areHours 8 = .ok (.iconst 1, 1) := by decide +kernel
theorem dX11_areHours_9 : decode cX11_areHours 9 = .ok (.iload_n 2, 1) := by decide +kernel
theorem dX11_areHours_10 : decode cX11_areHours 10 = .ok (.invokestatic 210, 3) := by decide +kernel
theorem dX11_areHours_13 : decode cX11_areHours 13 = .ok (.ifCond .eq 22, 3) := by decide +kernel
theorem dX11_areHours_16 : decode cX11_areHours 16 = .ok (.aload_n 0, 1) := by decide +kernel
theorem dX11_areHours_17 : decode cX11_areHours 17 = .ok (.getfield 70, 3) := by decide +kernel
theorem dX11_areHours_20 : decode cX11_areHours 20 = .ok (.bipush 42, 2) := by decide +kernel
theorem dX11_areHours_22 : decode cX11_areHours 22 = .ok (.iaload, 1) := by decide +kernel
theorem dX11_areHours_23 : decode cX11_areHours 23 = .ok (.iload_n 1, 1) := by decide +kernel
theorem dX11_areHours_24 : decode cX11_areHours 24 = .ok (.iadd, 1) := by decide +kernel
theorem dX11_areHours_25 : decode cX11_areHours 25 = .ok (.sipush 9999, 3) := by decide +kernel
theorem dX11_areHours_28 : decode cX11_areHours 28 = .ok (.if_icmp .gt 7, 3) := by decide +kernel
theorem dX11_areHours_31 : decode cX11_areHours 31 = .ok (.iconst 1, 1) := by decide +kernel
theorem dX11_areHours_32 : decode cX11_areHours 32 = .ok (.goto 4, 3) := by decide +kernel
theorem dX11_areHours_35 : decode cX11_areHours 35 = .ok (.iconst 0, 1) := by decide +kernel
theorem dX11_areHours_36 : decode cX11_areHours 36 = .ok (.ireturn, 1) := by decide +kernel
theorem dX11_go_0 : decode cX11_go 0 = .ok (.aload_n 0, 1) := by decide +kernel
theorem dX11_go_1 : decode cX11_go 1 = .ok (.iload_n 1, 1) := by decide +kernel
theorem dX11_go_2 : decode cX11_go 2 = .ok (.sipush 240, 3) := by decide +kernel
theorem dX11_go_5 : decode cX11_go 5 = .ok (.invokevirtual 383, 3) := by decide +kernel
theorem dX11_go_8 : decode cX11_go 8 = .ok (.ifCond .ne 5, 3) := by decide +kernel
theorem dX11_go_11 : decode cX11_go 11 = .ok (.iconst (-1), 1) := by decide +kernel
theorem dX11_go_12 : decode cX11_go 12 = .ok (.ireturn, 1) := by decide +kernel
theorem dX11_go_13 : decode cX11_go 13 = .ok (.iconst 0, 1) := by decide +kernel
theorem dX11_go_14 : decode cX11_go 14 = .ok (.istore_n 2, 1) := by decide +kernel
theorem dX11_go_15 : decode cX11_go 15 = .ok (.iload_n 2, 1) := by decide +kernel
theorem dX11_go_16 : decode cX11_go 16 = .ok (.iload_n 1, 1) := by decide +kernel
theorem dX11_go_17 : decode cX11_go 17 = .ok (.if_icmp .ge 18, 3) := by decide +kernel
theorem dX11_go_20 : decode cX11_go 20 = .ok (.aload_n 0, 1) := by decide +kernel
theorem dX11_go_21 : decode cX11_go 21 = .ok (.invokevirtual 336, 3) := by decide +kernel
theorem dX11_go_24 : decode cX11_go 24 = .ok (.aload_n 0, 1) := by decide +kernel
theorem dX11_go_25 : decode cX11_go 25 = .ok (.iconst 0, 1) := by decide +kernel
theorem dX11_go_26 : decode cX11_go 26 = .ok (.invokevirtual 386, 3) := by decide +kernel
theorem dX11_go_29 : decode cX11_go 29 = .ok (.iinc 2 1, 3) := by decide +kernel
theorem dX11_go_32 : decode cX11_go 32 = .ok (.goto (-17), 3) := by decide +kernel
theorem dX11_go_35 : decode cX11_go 35 = .ok (.aload_n 0, 1) := by decide +kernel
theorem dX11_go_36 : decode cX11_go 36 = .ok (.getfield 70, 3) := by decide +kernel
theorem dX11_go_39 : decode cX11_go 39 = .ok (.bipush 42, 2) := by decide +kernel
theorem dX11_go_41 : decode cX11_go 41 = .ok (.iaload, 1) := by decide +kernel
theorem dX11_go_42 : decode cX11_go 42 = .ok (.ireturn, 1) := by decide +kernel
theorem dX11_undo_0 : decode cX11_undo 0 = .ok (.aload_n 0, 1) := by decide +kernel
theorem dX11_undo_1 : decode cX11_undo 1 = .ok (.getfield 284, 3) := by decide +kernel
theorem dX11_undo_4 : decode cX11_undo 4 = .ok (.ifCond .ne 5, 3) := by decide +kernel
theorem dX11_undo_7 : decode cX11_undo 7 = .ok (.iconst (-1), 1) := by decide +kernel
theorem dX11_undo_8 : decode cX11_undo 8 = .ok (.ireturn, 1) := by decide +kernel
theorem dX11_undo_9 : decode cX11_undo 9 = .ok (.aload_n 0, 1) := by decide +kernel
theorem dX11_undo_10 : decode cX11_undo 10 = .ok (.dup, 1) := by decide +kernel
theorem dX11_undo_11 : decode cX11_undo 11 = .ok (.getfield 284, 3) := by decide +kernel
theorem dX11_undo_14 : decode cX11_undo 14 = .ok (.iconst 1, 1) := by decide +kernel
theorem dX11_undo_15 : decode cX11_undo 15 = .ok (.isub, 1) := by decide +kernel
theorem dX11_undo_16 : decode cX11_undo 16 = .ok (.putfield 284, 3) := by decide +kernel
theorem dX11_undo_19 : decode cX11_undo 19 = .ok (.iconst 0, 1) := by decide +kernel
theorem dX11_undo_20 : decode cX11_undo 20 = .ok (.istore_n 1, 1) := by decide +kernel
theorem dX11_undo_21 : decode cX11_undo 21 = .ok (.iload_n 1, 1) := by decide +kernel
theorem dX11_undo_22 : decode cX11_undo 22 = .ok (.sipush 165, 3) := by decide +kernel
theorem dX11_undo_25 : decode cX11_undo 25 = .ok (.if_icmp .ge 30, 3) := by decide +kernel
theorem dX11_undo_28 : decode cX11_undo 28 = .ok (.aload_n 0, 1) := by decide +kernel
theorem dX11_undo_29 : decode cX11_undo 29 = .ok (.getfield 70, 3) := by decide +kernel
theorem dX11_undo_32 : decode cX11_undo 32 = .ok (.iload_n 1, 1) := by decide +kernel
theorem dX11_undo_33 : decode cX11_undo 33 = .ok (.aload_n 0, 1) := by decide +kernel
theorem dX11_undo_34 : decode cX11_undo 34 = .ok (.getfield 77, 3) := by decide +kernel
theorem dX11_undo_37 : decode cX11_undo 37 = .ok (.sipush 165, 3) := by decide +kernel
theorem dX11_undo_40 : decode cX11_undo 40 = .ok (.aload_n 0, 1) := by decide +kernel
theorem dX11_undo_41 : decode cX11_undo 41 = .ok (.getfield 284, 3) := by decide +kernel
theorem dX11_undo_44 : decode cX11_undo 44 = .ok (.imul, 1) := by decide +kernel
theorem dX11_undo_45 : decode cX11_undo 45 = .ok (.iload_n 1, 1) := by decide +kernel
theorem dX11_undo_46 : decode cX11_undo 46 = .ok (.iadd, 1) := by decide +kernel
theorem dX11_undo_47 : decode cX11_undo 47 = .ok (.iaload, 1) := by decide +kernel
theorem dX11_undo_48 : decode cX11_undo 48 = .ok (.iastore, 1) := by decide +kernel
theorem dX11_undo_49 : decode cX11_undo 49 = .ok (.iinc 1 1, 3) := by decide +kernel
theorem dX11_undo_52 : decode cX11_undo 52 = .ok (.goto (-31), 3) := by decide +kernel
theorem dX11_undo_55 : decode cX11_undo 55 = .ok (.aload_n 0, 1) := by decide +kernel
theorem dX11_undo_56 : decode cX11_undo 56 = .ok (.getfield 284, 3) := by decide +kernel
theorem dX11_undo_59 : decode cX11_undo 59 = .ok (.ireturn, 1) := by decide +kernel
theorem dX11_log_0 : decode cX11_log 0 = .ok (.iload_n 1, 1) := by decide +kernel
theorem dX11_log_1 : decode cX11_log 1 = .ok (.iconst 0, 1) := by decide +kernel
theorem dX11_log_2 : decode cX11_log 2 = .ok (.aload_n 0, 1) := by decide +kernel
theorem dX11_log_3 : decode cX11_log 3 = .ok (.getfield 70, 3) := by decide +kernel
theorem dX11_log_6 : decode cX11_log 6 = .ok (.bipush 44, 2) := by decide +kernel
theorem dX11_log_8 : decode cX11_log 8 = .ok (.iaload, 1) := by decide +kernel
theorem dX11_log_9 : decode cX11_log 9 = .ok (.iconst 1, 1) := by decide +kernel
theorem dX11_log_10 : decode cX11_log 10 = .ok (.isub, 1) := by decide +kernel
theorem dX11_log_11 : decode cX11_log 11 = .ok (.invokestatic 210, 3) := by decide +kernel
theorem dX11_log_14 : decode cX11_log 14 = .ok (.ifCond .eq 38, 3) := by decide +kernel
theorem dX11_log_17 : decode cX11_log 17 = .ok (.iload_n 2, 1) := by decide +kernel
theorem dX11_log_18 : decode cX11_log 18 = .ok (.iconst 0, 1) := by decide +kernel
theorem dX11_log_19 : decode cX11_log 19 = .ok (.iconst 1, 1) := by decide +kernel
theorem dX11_log_20 : decode cX11_log 20 = .ok (.invokestatic 210, 3) := by decide +kernel
theorem dX11_log_23 : decode cX11_log 23 = .ok (.ifCond .eq 29, 3) := by decide +kernel
theorem dX11_log_26 : decode cX11_log 26 = .ok (.aload_n 0, 1) := by decide +kernel
theorem dX11_log_27 : decode cX11_log 27 = .ok (.getfield 70, 3) := by decide +kernel
theorem dX11_log_30 : decode cX11_log 30 = .ok (.bipush 45, 2) := by decide +kernel
theorem dX11_log_32 : decode cX11_log 32 = .ok (.iconst 2, 1) := by decide +kernel
theorem dX11_log_33 : decode cX11_log 33 = .ok (.aload_n 0, 1) := by decide +kernel
theorem dX11_log_34 : decode cX11_log 34 = .ok (.getfield 70, 3) := by decide +kernel
theorem dX11_log_37 : decode cX11_log 37 = .ok (.bipush 44, 2) := by decide +kernel
theorem dX11_log_39 : decode cX11_log 39 = .ok (.iaload, 1) := by decide +kernel
theorem dX11_log_40 : decode cX11_log 40 = .ok (.iconst 1, 1) := by decide +kernel
theorem dX11_log_41 : decode cX11_log 41 = .ok (.isub, 1) := by decide +kernel
theorem dX11_log_42 : decode cX11_log 42 = .ok (.iload_n 1, 1) := by decide +kernel
theorem dX11_log_43 : decode cX11_log 43 = .ok (.isub, 1) := by decide +kernel
theorem dX11_log_44 : decode cX11_log 44 = .ok (.imul, 1) := by decide +kernel
theorem dX11_log_45 : decode cX11_log 45 = .ok (.iadd, 1) := by decide +kernel
theorem dX11_log_46 : decode cX11_log 46 = .ok (.iload_n 2, 1) := by decide +kernel
theorem dX11_log_47 : decode cX11_log 47 = .ok (.iadd, 1) := by decide +kernel
theorem dX11_log_48 : decode cX11_log 48 = .ok (.iaload, 1) := by decide +kernel
theorem dX11_log_49 : decode cX11_log 49 = .ok (.goto 4, 3) := by decide +kernel
theorem dX11_log_52 : decode cX11_log 52 = .ok (.iconst (-1), 1) := by decide +kernel
theorem dX11_log_53 : decode cX11_log 53 = .ok (.ireturn, 1) := by decide +kernel
theorem dX11_isOrders_0 : decode cX11_isOrders 0 = .ok (.iload_n 1, 1) := by decide +kernel
theorem dX11_isOrders_1 : decode cX11_isOrders 1 = .ok (.iconst 0, 1) := by decide +kernel
theorem dX11_isOrders_2 : decode cX11_isOrders 2 = .ok (.aload_n 0, 1) := by decide +kernel
theorem dX11_isOrders_3 : decode cX11_isOrders 3 = .ok (.getfield 297, 3) := by decide +kernel
theorem dX11_isOrders_6 : decode cX11_isOrders 6 = .ok (.iconst 1, 1) := by decide +kernel
theorem dX11_isOrders_7 : decode cX11_isOrders 7 = .ok (.isub, 1) := by decide +kernel
theorem dX11_isOrders_8 : decode cX11_isOrders 8 = .ok (.invokestatic 210, 3) := by decide +kernel
theorem dX11_isOrders_11 : decode cX11_isOrders 11 = .ok (.ireturn, 1) := by decide +kernel
theorem dX11_step_0 : decode cX11_step 0 = .ok (.aload_n 0, 1) := by decide +kernel
theorem dX11_step_1 : decode cX11_step 1 = .ok (.iload_n 1, 1) := by decide +kernel
theorem dX11_step_2 : decode cX11_step 2 = .ok (.invokevirtual 389, 3) := by decide +kernel
theorem dX11_step_5 : decode cX11_step 5 = .ok (.ifCond .eq 46, 3) := by decide +kernel
theorem dX11_step_8 : decode cX11_step 8 = .ok (.iload_n 2, 1) := by decide +kernel
theorem dX11_step_9 : decode cX11_step 9 = .ok (.iconst 0, 1) := by decide +kernel
theorem dX11_step_10 : decode cX11_step 10 = .ok (.aload_n 0, 1) := by decide +kernel
theorem dX11_step_11 : decode cX11_step 11 = .ok (.getfield 67, 3) := by decide +kernel
theorem dX11_step_14 : decode cX11_step 14 = .ok (.iload_n 1, 1) := by decide +kernel
theorem dX11_step_15 : decode cX11_step 15 = .ok (.iaload, 1) := by decide +kernel
theorem dX11_step_16 : decode cX11_step 16 = .ok (.iconst 1, 1) := by decide +kernel
theorem dX11_step_17 : decode cX11_step 17 = .ok (.isub, 1) := by decide +kernel
theorem dX11_step_18 : decode cX11_step 18 = .ok (.invokestatic 210, 3) := by decide +kernel
theorem dX11_step_21 : decode cX11_step 21 = .ok (.ifCond .eq 30, 3) := by decide +kernel
theorem dX11_step_24 : decode cX11_step 24 = .ok (.iload_n 3, 1) := by decide +kernel
theorem dX11_step_25 : decode cX11_step 25 = .ok (.iconst 0, 1) := by decide +kernel
theorem dX11_step_26 : decode cX11_step 26 = .ok (.iconst 2, 1) := by decide +kernel
theorem dX11_step_27 : decode cX11_step 27 = .ok (.invokestatic 210, 3) := by decide +kernel
theorem dX11_step_30 : decode cX11_step 30 = .ok (.ifCond .eq 21, 3) := by decide +kernel
theorem dX11_step_33 : decode cX11_step 33 = .ok (.aload_n 0, 1) := by decide +kernel
theorem dX11_step_34 : decode cX11_step 34 = .ok (.getfield 64, 3) := by decide +kernel
theorem dX11_step_37 : decode cX11_step 37 = .ok (.iconst 3, 1) := by decide +kernel
theorem dX11_step_38 : decode cX11_step 38 = .ok (.bipush 16, 2) := by decide +kernel
theorem dX11_step_40 : decode cX11_step 40 = .ok (.iload_n 1, 1) := by decide +kernel
theorem dX11_step_41 : decode cX11_step 41 = .ok (.imul, 1) := by decide +kernel
theorem dX11_step_42 : decode cX11_step 42 = .ok (.iload_n 2, 1) := by decide +kernel
theorem dX11_step_43 : decode cX11_step 43 = .ok (.iadd, 1) := by decide +kernel
theorem dX11_step_44 : decode cX11_step 44 = .ok (.imul, 1) := by decide +kernel
theorem dX11_step_45 : decode cX11_step 45 = .ok (.iload_n 3, 1) := by decide +kernel
theorem dX11_step_46 : decode cX11_step 46 = .ok (.iadd, 1) := by decide +kernel
theorem dX11_step_47 : decode cX11_step 47 = .ok (.iaload, 1) := by decide +kernel
theorem dX11_step_48 : decode cX11_step 48 = .ok (.goto 4, 3) := by decide +kernel
theorem dX11_step_51 : decode cX11_step 51 = .ok (.iconst (-1), 1) := by decide +kernel
theorem dX11_step_52 : decode cX11_step 52 = .ok (.ireturn, 1) := by decide +kernel
theorem dX11_canStep_0 : decode cX11_canStep 0 = .ok (.aload_n 0, 1) := by decide +kernel
theorem dX11_canStep_1 : decode cX11_canStep 1 = .ok (.getfield 64, 3) := by decide +kernel
theorem dX11_canStep_4 : decode cX11_canStep 4 = .ok (.iload_n 1, 1) := by decide +kernel
theorem dX11_canStep_5 : decode cX11_canStep 5 = .ok (.iaload, 1) := by decide +kernel
theorem dX11_canStep_6 : decode cX11_canStep 6 = .ok (.istore_n 2, 1) := by decide +kernel
theorem dX11_canStep_7 : decode cX11_canStep 7 = .ok (.iload_n 2, 1) := by decide +kernel
theorem dX11_canStep_8 : decode cX11_canStep 8 = .ok (.ifCond .ne 26, 3) := by decide +kernel
theorem dX11_canStep_11 : decode cX11_canStep 11 = .ok (.aload_n 0, 1) := by decide +kernel
theorem dX11_canStep_12 : decode cX11_canStep 12 = .ok (.aload_n 0, 1) := by decide +kernel
theorem dX11_canStep_13 : decode cX11_canStep 13 = .ok (.getfield 64, 3) := by decide +kernel
theorem dX11_canStep_16 : decode cX11_canStep 16 = .ok (.iload_n 1, 1) := by decide +kernel
theorem dX11_canStep_17 : decode cX11_canStep 17 = .ok (.iconst 1, 1) := by decide +kernel
theorem dX11_canStep_18 : decode cX11_canStep 18 = .ok (.iadd, 1) := by decide +kernel
theorem dX11_canStep_19 : decode cX11_canStep 19 = .ok (.iaload, 1) := by decide +kernel
theorem dX11_canStep_20 : decode cX11_canStep 20 = .ok (.aload_n 0, 1) := by decide +kernel
theorem dX11_canStep_21 : decode cX11_canStep 21 = .ok (.getfield 64, 3) := by decide +kernel
theorem dX11_canStep_24 : decode cX11_canStep 24 = .ok (.iload_n 1, 1) := by decide +kernel
theorem dX11_canStep_25 : decode cX11_canStep 25 = .ok (.iconst 2, 1) := by decide +kernel
theorem dX11_canStep_26 : decode cX11_canStep 26 = .ok (.iadd, 1) := by decide +kernel
theorem dX11_canStep_27 : decode cX11_canStep 27 = .ok (.iaload, 1) := by decide +kernel
theorem dX11_canStep_28 : decode cX11_canStep 28 = .ok (.invokevirtual 333, 3) := by decide +kernel
theorem dX11_canStep_31 : decode cX11_canStep 31 = .ok (.goto 41, 3) := by decide +kernel
theorem dX11_canStep_34 : decode cX11_canStep 34 = .ok (.iload_n 2, 1) := by decide +kernel
theorem dX11_canStep_35 : decode cX11_canStep 35 = .ok (.iconst 1, 1) := by decide +kernel
theorem dX11_canStep_36 : decode cX11_canStep 36 = .ok (.if_icmp .ne 18, 3) := by decide +kernel
theorem dX11_canStep_39 : decode cX11_canStep 39 = .ok (.aload_n 0, 1) := by decide +kernel
theorem dX11_canStep_40 : decode cX11_canStep 40 = .ok (.aload_n 0, 1) := by decide +kernel
theorem dX11_canStep_41 : decode cX11_canStep 41 = .ok (.getfield 64, 3) := by decide +kernel
theorem dX11_canStep_44 : decode cX11_canStep 44 = .ok (.iload_n 1, 1) := by decide +kernel
theorem dX11_canStep_45 : decode cX11_canStep 45 = .ok (.iconst 1, 1) := by decide +kernel
theorem dX11_canStep_46 : decode cX11_canStep 46 = .ok (.iadd, 1) := by decide +kernel
theorem dX11_canStep_47 : decode cX11_canStep 47 = .ok (.iaload, 1) := by decide +kernel
theorem dX11_canStep_48 : decode cX11_canStep 48 = .ok (.invokevirtual 342, 3) := by decide +kernel
theorem dX11_canStep_51 : decode cX11_canStep 51 = .ok (.goto 21, 3) := by decide +kernel
theorem dX11_canStep_54 : decode cX11_canStep 54 = .ok (.aload_n 0, 1) := by decide +kernel
theorem dX11_canStep_55 : decode cX11_canStep 55 = .ok (.getfield 70, 3) := by decide +kernel
theorem dX11_canStep_58 : decode cX11_canStep 58 = .ok (.bipush 42, 2) := by decide +kernel
theorem dX11_canStep_60 : decode cX11_canStep 60 = .ok (.iaload, 1) := by decide +kernel
theorem dX11_canStep_61 : decode cX11_canStep 61 = .ok (.sipush 9999, 3) := by decide +kernel
theorem dX11_canStep_64 : decode cX11_canStep 64 = .ok (.if_icmp .ge 7, 3) := by decide +kernel
theorem dX11_canStep_67 : decode cX11_canStep 67 = .ok (.iconst 1, 1) := by decide +kernel
theorem dX11_canStep_68 : decode cX11_canStep 68 = .ok (.goto 4, 3) := by decide +kernel
theorem dX11_canStep_71 : decode cX11_canStep 71 = .ok (.iconst 0, 1) := by decide +kernel
theorem dX11_canStep_72 : decode cX11_canStep 72 = .ok (.ireturn, 1) := by decide +kernel
theorem dX11_doStep_0 : decode cX11_doStep 0 = .ok (.aload_n 0, 1) := by decide +kernel
theorem dX11_doStep_1 : decode cX11_doStep 1 = .ok (.getfield 64, 3) := by decide +kernel
theorem dX11_doStep_4 : decode cX11_doStep 4 = .ok (.iload_n 1, 1) := by decide +kernel
theorem dX11_doStep_5 : decode cX11_doStep 5 = .ok (.iaload, 1) := by decide +kernel
theorem dX11_doStep_6 : decode cX11_doStep 6 = .ok (.ifCond .ne 26, 3) := by decide +kernel
theorem dX11_doStep_9 : decode cX11_doStep 9 = .ok (.aload_n 0, 1) := by decide +kernel
theorem dX11_doStep_10 : decode cX11_doStep 10 = .ok (.aload_n 0, 1) := by decide +kernel
theorem dX11_doStep_11 : decode cX11_doStep 11 = .ok (.getfield 64, 3) := by decide +kernel
theorem dX11_doStep_14 : decode cX11_doStep 14 = .ok (.iload_n 1, 1) := by decide +kernel
theorem dX11_doStep_15 : decode cX11_doStep 15 = .ok (.iconst 1, 1) := by decide +kernel
theorem dX11_doStep_16 : decode cX11_doStep 16 = .ok (.iadd, 1) := by decide +kernel
theorem dX11_doStep_17 : decode cX11_doStep 17 = .ok (.iaload, 1) := by decide +kernel
theorem dX11_doStep_18 : decode cX11_doStep 18 = .ok (.aload_n 0, 1) := by decide +kernel
theorem dX11_doStep_19 : decode cX11_doStep 19 = .ok (.getfield 64, 3) := by decide +kernel
theorem dX11_doStep_22 : decode cX11_doStep 22 = .ok (.iload_n 1, 1) := by decide +kernel
theorem dX11_doStep_23 : decode cX11_doStep 23 = .ok (.iconst 2, 1) := by decide +kernel
theorem dX11_doStep_24 : decode cX11_doStep 24 = .ok (.iadd, 1) := by decide +kernel
theorem dX11_doStep_25 : decode cX11_doStep 25 = .ok (.iaload, 1) := by decide +kernel
theorem dX11_doStep_26 : decode cX11_doStep 26 = .ok (.invokevirtual 339, 3) := by decide +kernel
theorem dX11_doStep_29 : decode cX11_doStep 29 = .ok (.goto 33, 3) := by decide +kernel
theorem dX11_doStep_32 : decode cX11_doStep 32 = .ok (.aload_n 0, 1) := by decide +kernel
theorem dX11_doStep_33 : decode cX11_doStep 33 = .ok (.getfield 64, 3) := by decide +kernel
theorem dX11_doStep_36 : decode cX11_doStep 36 = .ok (.iload_n 1, 1) := by decide +kernel
theorem dX11_doStep_37 : decode cX11_doStep 37 = .ok (.iaload, 1) := by decide +kernel
theorem dX11_doStep_38 : decode cX11_doStep 38 = .ok (.iconst 1, 1) := by decide +kernel
theorem dX11_doStep_39 : decode cX11_doStep 39 = .ok (.if_icmp .ne 18, 3) := by decide +kernel
theorem dX11_doStep_42 : decode cX11_doStep 42 = .ok (.aload_n 0, 1) := by decide +kernel
theorem dX11_doStep_43 : decode cX11_doStep 43 = .ok (.aload_n 0, 1) := by decide +kernel
theorem dX11_doStep_44 : decode cX11_doStep 44 = .ok (.getfield 64, 3) := by decide +kernel
theorem dX11_doStep_47 : decode cX11_doStep 47 = .ok (.iload_n 1, 1) := by decide +kernel
theorem dX11_doStep_48 : decode cX11_doStep 48 = .ok (.iconst 1, 1) := by decide +kernel
theorem dX11_doStep_49 : decode cX11_doStep 49 = .ok (.iadd, 1) := by decide +kernel
theorem dX11_doStep_50 : decode cX11_doStep 50 = .ok (.iaload, 1) := by decide +kernel
theorem dX11_doStep_51 : decode cX11_doStep 51 = .ok (.invokevirtual 345, 3) := by decide +kernel
theorem dX11_doStep_54 : decode cX11_doStep 54 = .ok (.goto 8, 3) := by decide +kernel
theorem dX11_doStep_57 : decode cX11_doStep 57 = .ok (.aload_n 0, 1) := by decide +kernel
theorem dX11_doStep_58 : decode cX11_doStep 58 = .ok (.iconst 0, 1) := by decide +kernel
theorem dX11_doStep_59 : decode cX11_doStep 59 = .ok (.invokevirtual 386, 3) := by decide +kernel
theorem dX11_doStep_62 : decode cX11_doStep 62 = .ok (.return_, 1) := by decide +kernel
theorem dX11_putAside_0 : decode cX11_putAside 0 = .ok (.iconst 0, 1) := by decide +kernel
theorem dX11_putAside_1 : decode cX11_putAside 1 = .ok (.istore_n 1, 1) := by decide +kernel
theorem dX11_putAside_2 : decode cX11_putAside 2 = .ok (.iload_n 1, 1) := by decide +kernel
theorem dX11_putAside_3 : decode cX11_putAside 3 = .ok (.sipush 165, 3) := by decide +kernel
theorem dX11_putAside_6 : decode cX11_putAside 6 = .ok (.if_icmp .ge 21, 3) := by decide +kernel
theorem dX11_putAside_9 : decode cX11_putAside 9 = .ok (.aload_n 0, 1) := by decide +kernel
theorem dX11_putAside_10 : decode cX11_putAside 10 = .ok (.getfield 80, 3) := by decide +kernel
theorem dX11_putAside_13 : decode cX11_putAside 13 = .ok (.iload_n 1, 1) := by decide +kernel
theorem dX11_putAside_14 : decode cX11_putAside 14 = .ok (.aload_n 0, 1) := by decide +kernel
theorem dX11_putAside_15 : decode cX11_putAside 15 = .ok (.getfield 70, 3) := by decide +kernel
theorem dX11_putAside_18 : decode cX11_putAside 18 = .ok (.iload_n 1, 1) := by decide +kernel
theorem dX11_putAside_19 : decode cX11_putAside 19 = .ok (.iaload, 1) := by decide +kernel
theorem dX11_putAside_20 : decode cX11_putAside 20 = .ok (.iastore, 1) := by decide +kernel
theorem dX11_putAside_21 : decode cX11_putAside 21 = .ok (.iinc 1 1, 3) := by decide +kernel
theorem dX11_putAside_24 : decode cX11_putAside 24 = .ok (.goto (-22), 3) := by decide +kernel
theorem dX11_putAside_27 : decode cX11_putAside 27 = .ok (.return_, 1) := by decide +kernel
theorem dX11_takeBack_0 : decode cX11_takeBack 0 = .ok (.iconst 0, 1) := by decide +kernel
theorem dX11_takeBack_1 : decode cX11_takeBack 1 = .ok (.istore_n 1, 1) := by decide +kernel
theorem dX11_takeBack_2 : decode cX11_takeBack 2 = .ok (.iload_n 1, 1) := by decide +kernel
theorem dX11_takeBack_3 : decode cX11_takeBack 3 = .ok (.sipush 165, 3) := by decide +kernel
theorem dX11_takeBack_6 : decode cX11_takeBack 6 = .ok (.if_icmp .ge 21, 3) := by decide +kernel
theorem dX11_takeBack_9 : decode cX11_takeBack 9 = .ok (.aload_n 0, 1) := by decide +kernel
theorem dX11_takeBack_10 : decode cX11_takeBack 10 = .ok (.getfield 70, 3) := by decide +kernel
theorem dX11_takeBack_13 : decode cX11_takeBack 13 = .ok (.iload_n 1, 1) := by decide +kernel
theorem dX11_takeBack_14 : decode cX11_takeBack 14 = .ok (.aload_n 0, 1) := by decide +kernel
theorem dX11_takeBack_15 : decode cX11_takeBack 15 = .ok (.getfield 80, 3) := by decide +kernel
theorem dX11_takeBack_18 : decode cX11_takeBack 18 = .ok (.iload_n 1, 1) := by decide +kernel
theorem dX11_takeBack_19 : decode cX11_takeBack 19 = .ok (.iaload, 1) := by decide +kernel
theorem dX11_takeBack_20 : decode cX11_takeBack 20 = .ok (.iastore, 1) := by decide +kernel
theorem dX11_takeBack_21 : decode cX11_takeBack 21 = .ok (.iinc 1 1, 3) := by decide +kernel
theorem dX11_takeBack_24 : decode cX11_takeBack 24 = .ok (.goto (-22), 3) := by decide +kernel
theorem dX11_takeBack_27 : decode cX11_takeBack 27 = .ok (.return_, 1) := by decide +kernel
theorem dX11_run_0 : decode cX11_run 0 = .ok (.aload_n 0, 1) := by decide +kernel
theorem dX11_run_1 : decode cX11_run 1 = .ok (.getfield 269, 3) := by decide +kernel
theorem dX11_run_4 : decode cX11_run 4 = .ok (.ifCond .eq 11, 3) := by decide +kernel
theorem dX11_run_7 : decode cX11_run 7 = .ok (.aload_n 0, 1) := by decide +kernel
theorem dX11_run_8 : decode cX11_run 8 = .ok (.iload_n 1, 1) := by decide +kernel
theorem dX11_run_9 : decode cX11_run 9 = .ok (.invokevirtual 389, 3) := by decide +kernel
theorem dX11_run_12 : decode cX11_run 12 = .ok (.ifCond .ne 7, 3) := by decide +kernel
theorem dX11_run_15 : decode cX11_run 15 = .ok (.ldc_w 392, 3) := by decide +kernel
theorem dX11_run_18 : decode cX11_run 18 = .ok (.ireturn, 1) := by decide +kernel
theorem dX11_run_19 : decode cX11_run 19 = .ok (.aload_n 0, 1) := by decide +kernel
theorem dX11_run_20 : decode cX11_run 20 = .ok (.invokevirtual 393, 3) := by decide +kernel
theorem dX11_run_23 : decode cX11_run 23 = .ok (.iconst 0, 1) := by decide +kernel
theorem dX11_run_24 : decode cX11_run 24 = .ok (.istore_n 2, 1) := by decide +kernel
theorem dX11_run_25 : decode cX11_run 25 = .ok (.iload_n 2, 1) := by decide +kernel
theorem dX11_run_26 : decode cX11_run 26 = .ok (.aload_n 0, 1) := by decide +kernel
theorem dX11_run_27 : decode cX11_run 27 = .ok (.getfield 67, 3) := by decide +kernel
theorem dX11_run_30 : decode cX11_run 30 = .ok (.iload_n 1, 1) := by decide +kernel
theorem dX11_run_31 : decode cX11_run 31 = .ok (.iaload, 1) := by decide +kernel
theorem dX11_run_32 : decode cX11_run 32 = .ok (.if_icmp .ge 36, 3) := by decide +kernel
theorem dX11_run_35 : decode cX11_run 35 = .ok (.aload_n 0, 1) := by decide +kernel
theorem dX11_run_36 : decode cX11_run 36 = .ok (.iconst 3, 1) := by decide +kernel
theorem dX11_run_37 : decode cX11_run 37 = .ok (.bipush 16, 2) := by decide +kernel
theorem dX11_run_39 : decode cX11_run 39 = .ok (.iload_n 1, 1) := by decide +kernel
theorem dX11_run_40 : decode cX11_run 40 = .ok (.imul, 1) := by decide +kernel
theorem dX11_run_41 : decode cX11_run 41 = .ok (.iload_n 2, 1) := by decide +kernel
theorem dX11_run_42 : decode cX11_run 42 = .ok (.iadd, 1) := by decide +kernel
theorem dX11_run_43 : decode cX11_run 43 = .ok (.imul, 1) := by decide +kernel
theorem dX11_run_44 : decode cX11_run 44 = .ok (.invokevirtual 396, 3) := by decide +kernel
theorem dX11_run_47 : decode cX11_run 47 = .ok (.ifCond .eq 21, 3) := by decide +kernel
theorem dX11_run_50 : decode cX11_run 50 = .ok (.aload_n 0, 1) := by decide +kernel
theorem dX11_run_51 : decode cX11_run 51 = .ok (.iconst 3, 1) := by decide +kernel
theorem dX11_run_52 : decode cX11_run 52 = .ok (.bipush 16, 2) := by decide +kernel
theorem dX11_run_54 : decode cX11_run 54 = .ok (.iload_n 1, 1) := by decide +kernel
theorem dX11_run_55 : decode cX11_run 55 = .ok (.imul, 1) := by decide +kernel
theorem dX11_run_56 : decode cX11_run 56 = .ok (.iload_n 2, 1) := by decide +kernel
theorem dX11_run_57 : decode cX11_run 57 = .ok (.iadd, 1) := by decide +kernel
theorem dX11_run_58 : decode cX11_run 58 = .ok (.imul, 1) := by decide +kernel
theorem dX11_run_59 : decode cX11_run 59 = .ok (.invokevirtual 399, 3) := by decide +kernel
theorem dX11_run_62 : decode cX11_run 62 = .ok (.iinc 2 1, 3) := by decide +kernel
theorem dX11_run_65 : decode cX11_run 65 = .ok (.goto (-40), 3) := by decide +kernel
theorem dX11_run_68 : decode cX11_run 68 = .ok (.aload_n 0, 1) := by decide +kernel
theorem dX11_run_69 : decode cX11_run 69 = .ok (.invokevirtual 402, 3) := by decide +kernel
theorem dX11_run_72 : decode cX11_run 72 = .ok (.iload_n 2, 1) := by decide +kernel
theorem dX11_run_73 : decode cX11_run 73 = .ok (.aload_n 0, 1) := by decide +kernel
theorem dX11_run_74 : decode cX11_run 74 = .ok (.getfield 67, 3) := by decide +kernel
theorem dX11_run_77 : decode cX11_run 77 = .ok (.iload_n 1, 1) := by decide +kernel
theorem dX11_run_78 : decode cX11_run 78 = .ok (.iaload, 1) := by decide +kernel
theorem dX11_run_79 : decode cX11_run 79 = .ok (.if_icmp .ne 7, 3) := by decide +kernel
theorem dX11_run_82 : decode cX11_run 82 = .ok (.iconst (-1), 1) := by decide +kernel
theorem dX11_run_83 : decode cX11_run 83 = .ok (.goto 4, 3) := by decide +kernel
theorem dX11_run_86 : decode cX11_run 86 = .ok (.iload_n 2, 1) := by decide +kernel
theorem dX11_run_87 : decode cX11_run 87 = .ok (.ireturn, 1) := by decide +kernel
theorem dX11_perform_0 : decode cX11_perform 0 = .ok (.aload_n 0, 1) := by decide +kernel
theorem dX11_perform_1 : decode cX11_perform 1 = .ok (.getfield 269, 3) := by decide +kernel
theorem dX11_perform_4 : decode cX11_perform 4 = .ok (.ifCond .eq 11, 3) := by decide +kernel
theorem dX11_perform_7 : decode cX11_perform 7 = .ok (.aload_n 0, 1) := by decide +kernel
theorem dX11_perform_8 : decode cX11_perform 8 = .ok (.iload_n 1, 1) := by decide +kernel
theorem dX11_perform_9 : decode cX11_perform 9 = .ok (.invokevirtual 389, 3) := by decide +kernel
theorem dX11_perform_12 : decode cX11_perform 12 = .ok (.ifCond .ne 5, 3) := by decide +kernel
theorem dX11_perform_15 : decode cX11_perform 15 = .ok (.iconst (-1), 1) := by decide +kernel
theorem dX11_perform_16 : decode cX11_perform 16 = .ok (.ireturn, 1) := by decide +kernel
theorem dX11_perform_17 : decode cX11_perform 17 = .ok (.iconst 0, 1) := by decide +kernel
theorem dX11_perform_18 : decode cX11_perform 18 = .ok (.istore_n 2, 1) := by decide +kernel
theorem dX11_perform_19 : decode cX11_perform 19 = .ok (.iload_n 2, 1) := by decide +kernel
theorem dX11_perform_20 : decode cX11_perform 20 = .ok (.aload_n 0, 1) := by decide +kernel
theorem dX11_perform_21 : decode cX11_perform 21 = .ok (.getfield 67, 3) := by decide +kernel
theorem dX11_perform_24 : decode cX11_perform 24 = .ok (.iload_n 1, 1) := by decide +kernel
theorem dX11_perform_25 : decode cX11_perform 25 = .ok (.iaload, 1) := by decide +kernel
theorem dX11_perform_26 : decode cX11_perform 26 = .ok (.if_icmp .ge 40, 3) := by decide +kernel
theorem dX11_perform_29 : decode cX11_perform 29 = .ok (.aload_n 0, 1) := by decide +kernel
theorem dX11_perform_30 : decode cX11_perform 30 = .ok (.iconst 3, 1) := by decide +kernel
theorem dX11_perform_31 : decode cX11_perform 31 = .ok (.bipush 16, 2) := by decide +kernel
theorem dX11_perform_33 : decode cX11_perform 33 = .ok (.iload_n 1, 1) := by decide +kernel
theorem dX11_perform_34 : decode cX11_perform 34 = .ok (.imul, 1) := by decide +kernel
theorem dX11_perform_35 : decode cX11_perform 35 = .ok (.iload_n 2, 1) := by decide +kernel
theorem dX11_perform_36 : decode cX11_perform 36 = .ok (.iadd, 1) := by decide +kernel
theorem dX11_perform_37 : decode cX11_perform 37 = .ok (.imul, 1) := by decide +kernel
theorem dX11_perform_38 : decode cX11_perform 38 = .ok (.invokevirtual 396, 3) := by decide +kernel
theorem dX11_perform_41 : decode cX11_perform 41 = .ok (.ifCond .eq 25, 3) := by decide +kernel
theorem dX11_perform_44 : decode cX11_perform 44 = .ok (.aload_n 0, 1) := by decide +kernel
theorem dX11_perform_45 : decode cX11_perform 45 = .ok (.invokevirtual 336, 3) := by decide +kernel
theorem dX11_perform_48 : decode cX11_perform 48 = .ok (.aload_n 0, 1) := by decide +kernel
theorem dX11_perform_49 : decode cX11_perform 49 = .ok (.iconst 3, 1) := by decide +kernel
theorem dX11_perform_50 : decode cX11_perform 50 = .ok (.bipush 16, 2) := by decide +kernel
theorem dX11_perform_52 : decode cX11_perform 52 = .ok (.iload_n 1, 1) := by decide +kernel
theorem dX11_perform_53 : decode cX11_perform 53 = .ok (.imul, 1) := by decide +kernel
theorem dX11_perform_54 : decode cX11_perform 54 = .ok (.iload_n 2, 1) := by decide +kernel
theorem dX11_perform_55 : decode cX11_perform 55 = .ok (.iadd, 1) := by decide +kernel
theorem dX11_perform_56 : decode cX11_perform 56 = .ok (.imul, 1) := by decide +kernel
theorem dX11_perform_57 : decode cX11_perform 57 = .ok (.invokevirtual 399, 3) := by decide +kernel
theorem dX11_perform_60 : decode cX11_perform 60 = .ok (.iinc 2 1, 3) := by decide +kernel
theorem dX11_perform_63 : decode cX11_perform 63 = .ok (.goto (-44), 3) := by decide +kernel
theorem dX11_perform_66 : decode cX11_perform 66 = .ok (.iload_n 2, 1) := by decide +kernel
theorem dX11_perform_67 : decode cX11_perform 67 = .ok (.ireturn, 1) := by decide +kernel
theorem dX11_ahead_0 : decode cX11_ahead 0 = .ok (.aload_n 0, 1) := by decide +kernel
theorem dX11_ahead_1 : decode cX11_ahead 1 = .ok (.iload_n 1, 1) := by decide +kernel
theorem dX11_ahead_2 : decode cX11_ahead 2 = .ok (.invokevirtual 300, 3) := by decide +kernel
theorem dX11_ahead_5 : decode cX11_ahead 5 = .ok (.ifCond .eq 23, 3) := by decide +kernel
theorem dX11_ahead_8 : decode cX11_ahead 8 = .ok (.iload_n 2, 1) := by decide +kernel
theorem dX11_ahead_9 : decode cX11_ahead 9 = .ok (.iconst 0, 1) := by decide +kernel
theorem dX11_ahead_10 : decode cX11_ahead 10 = .ok (.sipush 240, 3) := by decide +kernel
theorem dX11_ahead_13 : decode cX11_ahead 13 = .ok (.invokestatic 210, 3) := by decide +kernel
theorem dX11_ahead_16 : decode cX11_ahead 16 = .ok (.ifCond .eq 12, 3) := by decide +kernel
theorem dX11_ahead_19 : decode cX11_ahead 19 = .ok (.iload_n 3, 1) := by decide +kernel
theorem dX11_ahead_20 : decode cX11_ahead 20 = .ok (.iconst 0, 1) := by decide +kernel
theorem dX11_ahead_21 : decode cX11_ahead 21 = .ok (.iconst 1, 1) := by decide +kernel
theorem dX11_ahead_22 : decode cX11_ahead 22 = .ok (.invokestatic 210, 3) := by decide +kernel
theorem dX11_ahead_25 : decode cX11_ahead 25 = .ok (.ifCond .ne 5, 3) := by decide +kernel
theorem dX11_ahead_28 : decode cX11_ahead 28 = .ok (.iconst (-1), 1) := by decide +kernel
theorem dX11_ahead_29 : decode cX11_ahead 29 = .ok (.ireturn, 1) := by decide +kernel
theorem dX11_ahead_30 : decode cX11_ahead 30 = .ok (.aload_n 0, 1) := by decide +kernel
theorem dX11_ahead_31 : decode cX11_ahead 31 = .ok (.invokevirtual 393, 3) := by decide +kernel
theorem dX11_ahead_34 : decode cX11_ahead 34 = .ok (.iconst 0, 1) := by decide +kernel
theorem dX11_ahead_35 : decode cX11_ahead 35 = .ok (.istore 4, 2) := by decide +kernel
theorem dX11_ahead_37 : decode cX11_ahead 37 = .ok (.iload 4, 2) := by decide +kernel
theorem dX11_ahead_39 : decode cX11_ahead 39 = .ok (.iload_n 2, 1) := by decide +kernel
theorem dX11_ahead_40 : decode cX11_ahead 40 = .ok (.if_icmp .ge 14, 3) := by decide +kernel
theorem dX11_ahead_43 : decode cX11_ahead 43 = .ok (.aload_n 0, 1) := by decide +kernel
theorem dX11_ahead_44 : decode cX11_ahead 44 = .ok (.iconst 0, 1) := by decide +kernel
theorem dX11_ahead_45 : decode cX11_ahead 45 = .ok (.invokevirtual 386, 3) := by decide +kernel
theorem dX11_ahead_48 : decode cX11_ahead 48 = .ok (.iinc 4 1, 3) := by decide +kernel
theorem dX11_ahead_51 : decode cX11_ahead 51 = .ok (.goto (-14), 3) := by decide +kernel
theorem dX11_ahead_54 : decode cX11_ahead 54 = .ok (.aload_n 0, 1) := by decide +kernel
theorem dX11_ahead_55 : decode cX11_ahead 55 = .ok (.iload_n 1, 1) := by decide +kernel
theorem dX11_ahead_56 : decode cX11_ahead 56 = .ok (.iload_n 3, 1) := by decide +kernel
theorem dX11_ahead_57 : decode cX11_ahead 57 = .ok (.ifCond .ne 7, 3) := by decide +kernel
theorem dX11_ahead_60 : decode cX11_ahead 60 = .ok (.iconst 0, 1) := by decide +kernel
theorem dX11_ahead_61 : decode cX11_ahead 61 = .ok (.goto 4, 3) := by decide +kernel
theorem dX11_ahead_64 : decode cX11_ahead 64 = .ok (.iconst 4, 1) := by decide +kernel
theorem dX11_ahead_65 : decode cX11_ahead 65 = .ok (.invokevirtual 303, 3) := by decide +kernel
theorem dX11_ahead_68 : decode cX11_ahead 68 = .ok (.istore 4, 2) := by decide +kernel
theorem dX11_ahead_70 : decode cX11_ahead 70 = .ok (.aload_n 0, 1) := by decide +kernel
theorem dX11_ahead_71 : decode cX11_ahead 71 = .ok (.invokevirtual 402, 3) := by decide +kernel
theorem dX11_ahead_74 : decode cX11_ahead 74 = .ok (.iload 4, 2) := by decide +kernel
theorem dX11_ahead_76 : decode cX11_ahead 76 = .ok (.ireturn, 1) := by decide +kernel
theorem dX11_neededFor_0 : decode cX11_neededFor 0 = .ok (.iload_n 1, 1) := by decide +kernel
theorem dX11_neededFor_1 : decode cX11_neededFor 1 = .ok (.istore_n 2, 1) := by decide +kernel
theorem dX11_neededFor_2 : decode cX11_neededFor 2 = .ok (.iconst 0, 1) := by decide +kernel
theorem dX11_neededFor_3 : decode cX11_neededFor 3 = .ok (.istore_n 3, 1) := by decide +kernel
theorem dX11_neededFor_4 : decode cX11_neededFor 4 = .ok (.iload_n 3, 1) := by decide +kernel
theorem dX11_neededFor_5 : decode cX11_neededFor 5 = .ok (.bipush 8, 2) := by decide +kernel
theorem dX11_neededFor_7 : decode cX11_neededFor 7 = .ok (.if_icmp .ge 49, 3) := by decide +kernel
theorem dX11_neededFor_10 : decode cX11_neededFor 10 = .ok (.iconst 0, 1) := by decide +kernel
theorem dX11_neededFor_11 : decode cX11_neededFor 11 = .ok (.istore 4, 2) := by decide +kernel
theorem dX11_neededFor_13 : decode cX11_neededFor 13 = .ok (.iload 4, 2) := by decide +kernel
theorem dX11_neededFor_15 : decode cX11_neededFor 15 = .ok (.aload_n 0, 1) := by decide +kernel
theorem dX11_neededFor_16 : decode cX11_neededFor 16 = .ok (.getfield 275, 3) := by decide +kernel
theorem dX11_neededFor_19 : decode cX11_neededFor 19 = .ok (.if_icmp .ge 31, 3) := by decide +kernel
theorem dX11_neededFor_22 : decode cX11_neededFor 22 = .ok (.iload_n 2, 1) := by decide +kernel
theorem dX11_neededFor_23 : decode cX11_neededFor 23 = .ok (.iload_n 2, 1) := by decide +kernel
theorem dX11_neededFor_24 : decode cX11_neededFor 24 = .ok (.iload 4, 2) := by decide +kernel
theorem dX11_neededFor_26 : decode cX11_neededFor 26 = .ok (.invokestatic 221, 3) := by decide +kernel
theorem dX11_neededFor_29 : decode cX11_neededFor 29 = .ok (.ifCond .eq 12, 3) := by decide +kernel
theorem dX11_neededFor_32 : decode cX11_neededFor 32 = .ok (.aload_n 0, 1) := by decide +kernel
theorem dX11_neededFor_33 : decode cX11_neededFor 33 = .ok (.iload 4, 2) := by decide +kernel
theorem dX11_neededFor_35 : decode cX11_neededFor 35 = .ok (.invokevirtual 330, 3) := by decide +kernel
theorem dX11_neededFor_38 : decode cX11_neededFor 38 = .ok (.goto 4, 3) := by decide +kernel
theorem dX11_neededFor_41 : decode cX11_neededFor 41 = .ok (.iconst 0, 1) := by decide +kernel
theorem dX11_neededFor_42 : decode cX11_neededFor 42 = .ok (.ior, 1) := by decide +kernel
theorem dX11_neededFor_43 : decode cX11_neededFor 43 = .ok (.istore_n 2, 1) := by decide +kernel
theorem dX11_neededFor_44 : decode cX11_neededFor 44 = .ok (.iinc 4 1, 3) := by decide +kernel
theorem dX11_neededFor_47 : decode cX11_neededFor 47 = .ok (.goto (-34), 3) := by decide +kernel
theorem dX11_neededFor_50 : decode cX11_neededFor 50 = .ok (.iinc 3 1, 3) := by decide +kernel
theorem dX11_neededFor_53 : decode cX11_neededFor 53 = .ok (.goto (-49), 3) := by decide +kernel
theorem dX11_neededFor_56 : decode cX11_neededFor 56 = .ok (.iload_n 2, 1) := by decide +kernel
theorem dX11_neededFor_57 : decode cX11_neededFor 57 = .ok (.ireturn, 1) := by decide +kernel
theorem dX11_needed_0 : decode cX11_needed 0 = .ok (.aload_n 0, 1) := by decide +kernel
theorem dX11_needed_1 : decode cX11_needed 1 = .ok (.iload_n 1, 1) := by decide +kernel
theorem dX11_needed_2 : decode cX11_needed 2 = .ok (.invokevirtual 324, 3) := by decide +kernel
theorem dX11_needed_5 : decode cX11_needed 5 = .ok (.ifCond .eq 13, 3) := by decide +kernel
theorem dX11_needed_8 : decode cX11_needed 8 = .ok (.aload_n 0, 1) := by decide +kernel
theorem dX11_needed_9 : decode cX11_needed 9 = .ok (.iconst 1, 1) := by decide +kernel
theorem dX11_needed_10 : decode cX11_needed 10 = .ok (.iload_n 1, 1) := by decide +kernel
theorem dX11_needed_11 : decode cX11_needed 11 = .ok (.ishl, 1) := by decide +kernel
theorem dX11_needed_12 : decode cX11_needed 12 = .ok (.invokevirtual 405, 3) := by decide +kernel
theorem dX11_needed_15 : decode cX11_needed 15 = .ok (.goto 4, 3) := by decide +kernel
theorem dX11_needed_18 : decode cX11_needed 18 = .ok (.iconst (-1), 1) := by decide +kernel
theorem dX11_needed_19 : decode cX11_needed 19 = .ok (.ireturn, 1) := by decide +kernel
theorem dX11_ring_0 : decode cX11_ring 0 = .ok (.aload_n 0, 1) := by decide +kernel
theorem dX11_ring_1 : decode cX11_ring 1 = .ok (.getfield 269, 3) := by decide +kernel
theorem dX11_ring_4 : decode cX11_ring 4 = .ok (.ifCond .ne 5, 3) := by decide +kernel
theorem dX11_ring_7 : decode cX11_ring 7 = .ok (.iconst (-1), 1) := by decide +kernel
theorem dX11_ring_8 : decode cX11_ring 8 = .ok (.ireturn, 1) := by decide +kernel
theorem dX11_ring_9 : decode cX11_ring 9 = .ok (.iconst 0, 1) := by decide +kernel
theorem dX11_ring_10 : decode cX11_ring 10 = .ok (.istore_n 1, 1) := by decide +kernel
theorem dX11_ring_11 : decode cX11_ring 11 = .ok (.iconst 0, 1) := by decide +kernel
theorem dX11_ring_12 : decode cX11_ring 12 = .ok (.istore_n 2, 1) := by decide +kernel
theorem dX11_ring_13 : decode cX11_ring 13 = .ok (.iload_n 2, 1) := by decide +kernel
theorem dX11_ring_14 : decode cX11_ring 14 = .ok (.aload_n 0, 1) := by decide +kernel
theorem dX11_ring_15 : decode cX11_ring 15 = .ok (.getfield 275, 3) := by decide +kernel
theorem dX11_ring_18 : decode cX11_ring 18 = .ok (.if_icmp .ge 35, 3) := by decide +kernel
theorem dX11_ring_21 : decode cX11_ring 21 = .ok (.iload_n 1, 1) := by decide +kernel
theorem dX11_ring_22 : decode cX11_ring 22 = .ok (.aload_n 0, 1) := by decide +kernel
theorem dX11_ring_23 : decode cX11_ring 23 = .ok (.aload_n 0, 1) := by decide +kernel
theorem dX11_ring_24 : decode cX11_ring 24 = .ok (.iload_n 2, 1) := by decide +kernel
theorem dX11_ring_25 : decode cX11_ring 25 = .ok (.invokevirtual 330, 3) := by decide +kernel
theorem dX11_ring_28 : decode cX11_ring 28 = .ok (.invokevirtual 405, 3) := by decide +kernel
theorem dX11_ring_31 : decode cX11_ring 31 = .ok (.iload_n 2, 1) := by decide +kernel
theorem dX11_ring_32 : decode cX11_ring 32 = .ok (.invokestatic 221, 3) := by decide +kernel
theorem dX11_ring_35 : decode cX11_ring 35 = .ok (.ifCond .eq 9, 3) := by decide +kernel
theorem dX11_ring_38 : decode cX11_ring 38 = .ok (.iconst 1, 1) := by decide +kernel
theorem dX11_ring_39 : decode cX11_ring 39 = .ok (.iload_n 2, 1) := by decide +kernel
theorem dX11_ring_40 : decode cX11_ring 40 = .ok (.ishl, 1) := by decide +kernel
theorem dX11_ring_41 : decode cX11_ring 41 = .ok (.goto 4, 3) := by decide +kernel
theorem dX11_ring_44 : decode cX11_ring 44 = .ok (.iconst 0, 1) := by decide +kernel
theorem dX11_ring_45 : decode cX11_ring 45 = .ok (.ior, 1) := by decide +kernel
theorem dX11_ring_46 : decode cX11_ring 46 = .ok (.istore_n 1, 1) := by decide +kernel
theorem dX11_ring_47 : decode cX11_ring 47 = .ok (.iinc 2 1, 3) := by decide +kernel
theorem dX11_ring_50 : decode cX11_ring 50 = .ok (.goto (-37), 3) := by decide +kernel
theorem dX11_ring_53 : decode cX11_ring 53 = .ok (.iload_n 1, 1) := by decide +kernel
theorem dX11_ring_54 : decode cX11_ring 54 = .ok (.ireturn, 1) := by decide +kernel
theorem dX11_lacks_0 : decode cX11_lacks 0 = .ok (.iload_n 2, 1) := by decide +kernel
theorem dX11_lacks_1 : decode cX11_lacks 1 = .ok (.aload_n 0, 1) := by decide +kernel
theorem dX11_lacks_2 : decode cX11_lacks 2 = .ok (.iload_n 1, 1) := by decide +kernel
theorem dX11_lacks_3 : decode cX11_lacks 3 = .ok (.invokevirtual 350, 3) := by decide +kernel
theorem dX11_lacks_6 : decode cX11_lacks 6 = .ok (.invokestatic 221, 3) := by decide +kernel
theorem dX11_lacks_9 : decode cX11_lacks 9 = .ok (.ifCond .eq 7, 3) := by decide +kernel
theorem dX11_lacks_12 : decode cX11_lacks 12 = .ok (.iconst 0, 1) := by decide +kernel
theorem dX11_lacks_13 : decode cX11_lacks 13 = .ok (.goto 10, 3) := by decide +kernel
theorem dX11_lacks_16 : decode cX11_lacks 16 = .ok (.iconst 1, 1) := by decide +kernel
theorem dX11_lacks_17 : decode cX11_lacks 17 = .ok (.aload_n 0, 1) := by decide +kernel
theorem dX11_lacks_18 : decode cX11_lacks 18 = .ok (.iload_n 1, 1) := by decide +kernel
theorem dX11_lacks_19 : decode cX11_lacks 19 = .ok (.invokevirtual 350, 3) := by decide +kernel
theorem dX11_lacks_22 : decode cX11_lacks 22 = .ok (.ishl, 1) := by decide +kernel
theorem dX11_lacks_23 : decode cX11_lacks 23 = .ok (.istore_n 3, 1) := by decide +kernel
theorem dX11_lacks_24 : decode cX11_lacks 24 = .ok (.iconst 0, 1) := by decide +kernel
theorem dX11_lacks_25 : decode cX11_lacks 25 = .ok (.istore 4, 2) := by decide +kernel
theorem dX11_lacks_27 : decode cX11_lacks 27 = .ok (.iload 4, 2) := by decide +kernel
theorem dX11_lacks_29 : decode cX11_lacks 29 = .ok (.bipush 8, 2) := by decide +kernel
theorem dX11_lacks_31 : decode cX11_lacks 31 = .ok (.if_icmp .ge 53, 3) := by decide +kernel
theorem dX11_lacks_34 : decode cX11_lacks 34 = .ok (.iconst 0, 1) := by decide +kernel
theorem dX11_lacks_35 : decode cX11_lacks 35 = .ok (.istore 5, 2) := by decide +kernel
theorem dX11_lacks_37 : decode cX11_lacks 37 = .ok (.iload 5, 2) := by decide +kernel
theorem dX11_lacks_39 : decode cX11_lacks 39 = .ok (.aload_n 0, 1) := by decide +kernel
theorem dX11_lacks_40 : decode cX11_lacks 40 = .ok (.getfield 275, 3) := by decide +kernel
theorem dX11_lacks_43 : decode cX11_lacks 43 = .ok (.if_icmp .ge 35, 3) := by decide +kernel
theorem dX11_lacks_46 : decode cX11_lacks 46 = .ok (.iload_n 3, 1) := by decide +kernel
theorem dX11_lacks_47 : decode cX11_lacks 47 = .ok (.iload_n 3, 1) := by decide +kernel
theorem dX11_lacks_48 : decode cX11_lacks 48 = .ok (.iload 5, 2) := by decide +kernel
theorem dX11_lacks_50 : decode cX11_lacks 50 = .ok (.invokestatic 221, 3) := by decide +kernel
theorem dX11_lacks_53 : decode cX11_lacks 53 = .ok (.ifCond .eq 16, 3) := by decide +kernel
theorem dX11_lacks_56 : decode cX11_lacks 56 = .ok (.aload_n 0, 1) := by decide +kernel
theorem dX11_lacks_57 : decode cX11_lacks 57 = .ok (.iload 5, 2) := by decide +kernel
theorem dX11_lacks_59 : decode cX11_lacks 59 = .ok (.invokevirtual 330, 3) := by decide +kernel
theorem dX11_lacks_62 : decode cX11_lacks 62 = .ok (.iload_n 2, 1) := by decide +kernel
theorem dX11_lacks_63 : decode cX11_lacks 63 = .ok (.iconst (-1), 1) := by decide +kernel
theorem dX11_lacks_64 : decode cX11_lacks 64 = .ok (.ixor, 1) := by decide +kernel
theorem dX11_lacks_65 : decode cX11_lacks 65 = .ok (.iand, 1) := by decide +kernel
theorem dX11_lacks_66 : decode cX11_lacks 66 = .ok (.goto 4, 3) := by decide +kernel
theorem dX11_lacks_69 : decode cX11_lacks 69 = .ok (.iconst 0, 1) := by decide +kernel
theorem dX11_lacks_70 : decode cX11_lacks 70 = .ok (.ior, 1) := by decide +kernel
theorem dX11_lacks_71 : decode cX11_lacks 71 = .ok (.istore_n 3, 1) := by decide +kernel
theorem dX11_lacks_72 : decode cX11_lacks 72 = .ok (.iinc 5 1, 3) := by decide +kernel
theorem dX11_lacks_75 : decode cX11_lacks 75 = .ok (.goto (-38), 3) := by decide +kernel
theorem dX11_lacks_78 : decode cX11_lacks 78 = .ok (.iinc 4 1, 3) := by decide +kernel
theorem dX11_lacks_81 : decode cX11_lacks 81 = .ok (.goto (-54), 3) := by decide +kernel
theorem dX11_lacks_84 : decode cX11_lacks 84 = .ok (.iload_n 3, 1) := by decide +kernel
theorem dX11_lacks_85 : decode cX11_lacks 85 = .ok (.ireturn, 1) := by decide +kernel
theorem dX11_hadBy_0 : decode cX11_hadBy 0 = .ok (.aload_n 0, 1) := by decide +kernel
theorem dX11_hadBy_1 : decode cX11_hadBy 1 = .ok (.getfield 58, 3) := by decide +kernel
theorem dX11_hadBy_4 : decode cX11_hadBy 4 = .ok (.iconst 4, 1) := by decide +kernel
theorem dX11_hadBy_5 : decode cX11_hadBy 5 = .ok (.aload_n 0, 1) := by decide +kernel
theorem dX11_hadBy_6 : decode cX11_hadBy 6 = .ok (.iload_n 1, 1) := by decide +kernel
theorem dX11_hadBy_7 : decode cX11_hadBy 7 = .ok (.invokevirtual 306, 3) := by decide +kernel
theorem dX11_hadBy_10 : decode cX11_hadBy 10 = .ok (.imul, 1) := by decide +kernel
theorem dX11_hadBy_11 : decode cX11_hadBy 11 = .ok (.iconst 2, 1) := by decide +kernel
theorem dX11_hadBy_12 : decode cX11_hadBy 12 = .ok (.iadd, 1) := by decide +kernel
theorem dX11_hadBy_13 : decode cX11_hadBy 13 = .ok (.iaload, 1) := by decide +kernel
theorem dX11_hadBy_14 : decode cX11_hadBy 14 = .ok (.istore_n 3, 1) := by decide +kernel
theorem dX11_hadBy_15 : decode cX11_hadBy 15 = .ok (.iload_n 2, 1) := by decide +kernel
theorem dX11_hadBy_16 : decode cX11_hadBy 16 = .ok (.istore 4, 2) := by decide +kernel
theorem dX11_hadBy_18 : decode cX11_hadBy 18 = .ok (.iload_n 3, 1) := by decide +kernel
theorem dX11_hadBy_19 : decode cX11_hadBy 19 = .ok (.ifCond .le 34, 3) := by decide +kernel
theorem dX11_hadBy_22 : decode cX11_hadBy 22 = .ok (.iload_n 3, 1) := by decide +kernel
theorem dX11_hadBy_23 : decode cX11_hadBy 23 = .ok (.aload_n 0, 1) := by decide +kernel
theorem dX11_hadBy_24 : decode cX11_hadBy 24 = .ok (.aload_n 0, 1) := by decide +kernel
theorem dX11_hadBy_25 : decode cX11_hadBy 25 = .ok (.iload_n 1, 1) := by decide +kernel
theorem dX11_hadBy_26 : decode cX11_hadBy 26 = .ok (.invokevirtual 306, 3) := by decide +kernel
theorem dX11_hadBy_29 : decode cX11_hadBy 29 = .ok (.iload 4, 2) := by decide +kernel
theorem dX11_hadBy_31 : decode cX11_hadBy 31 = .ok (.bipush 24, 2) := by decide +kernel
theorem dX11_hadBy_33 : decode cX11_hadBy 33 = .ok (.irem, 1) := by decide +kernel
theorem dX11_hadBy_34 : decode cX11_hadBy 34 = .ok (.invokevirtual 321, 3) := by decide +kernel
theorem dX11_hadBy_37 : decode cX11_hadBy 37 = .ok (.ifCond .eq 7, 3) := by decide +kernel
theorem dX11_hadBy_40 : decode cX11_hadBy 40 = .ok (.iconst 1, 1) := by decide +kernel
theorem dX11_hadBy_41 : decode cX11_hadBy 41 = .ok (.goto 4, 3) := by decide +kernel
theorem dX11_hadBy_44 : decode cX11_hadBy 44 = .ok (.iconst 0, 1) := by decide +kernel
theorem dX11_hadBy_45 : decode cX11_hadBy 45 = .ok (.isub, 1) := by decide +kernel
theorem dX11_hadBy_46 : decode cX11_hadBy 46 = .ok (.istore_n 3, 1) := by decide +kernel
theorem dX11_hadBy_47 : decode cX11_hadBy 47 = .ok (.iinc 4 1, 3) := by decide +kernel
theorem dX11_hadBy_50 : decode cX11_hadBy 50 = .ok (.goto (-32), 3) := by decide +kernel
theorem dX11_hadBy_53 : decode cX11_hadBy 53 = .ok (.iload 4, 2) := by decide +kernel
theorem dX11_hadBy_55 : decode cX11_hadBy 55 = .ok (.ireturn, 1) := by decide +kernel
theorem dX11_tryRows_0 : decode cX11_tryRows 0 = .ok (.iload_n 1, 1) := by decide +kernel
theorem dX11_tryRows_1 : decode cX11_tryRows 1 = .ok (.ifCond .ne 50, 3) := by decide +kernel
theorem dX11_tryRows_4 : decode cX11_tryRows 4 = .ok (.iload_n 3, 1) := by decide +kernel
theorem dX11_tryRows_5 : decode cX11_tryRows 5 = .ok (.aload_n 0, 1) := by decide +kernel
theorem dX11_tryRows_6 : decode cX11_tryRows 6 = .ok (.getfield 70, 3) := by decide +kernel
theorem dX11_tryRows_9 : decode cX11_tryRows 9 = .ok (.bipush 42, 2) := by decide +kernel
theorem dX11_tryRows_11 : decode cX11_tryRows 11 = .ok (.iaload, 1) := by decide +kernel
theorem dX11_tryRows_12 : decode cX11_tryRows 12 = .ok (.isub, 1) := by decide +kernel
theorem dX11_tryRows_13 : decode cX11_tryRows 13 = .ok (.istore 6, 2) := by decide +kernel
theorem dX11_tryRows_15 : decode cX11_tryRows 15 = .ok (.aload_n 0, 1) := by decide +kernel
theorem dX11_tryRows_16 : decode cX11_tryRows 16 = .ok (.getfield 408, 3) := by decide +kernel
theorem dX11_tryRows_19 : decode cX11_tryRows 19 = .ok (.iconst (-1), 1) := by decide +kernel
theorem dX11_tryRows_20 : decode cX11_tryRows 20 = .ok (.if_icmp .eq 12, 3) := by decide +kernel
theorem dX11_tryRows_23 : decode cX11_tryRows 23 = .ok (.iload 6, 2) := by decide +kernel
theorem dX11_tryRows_25 : decode cX11_tryRows 25 = .ok (.aload_n 0, 1) := by decide +kernel
theorem dX11_tryRows_26 : decode cX11_tryRows 26 = .ok (.getfield 408, 3) := by decide +kernel
theorem dX11_tryRows_29 : decode cX11_tryRows 29 = .ok (.if_icmp .ge 21, 3) := by decide +kernel
theorem dX11_tryRows_32 : decode cX11_tryRows 32 = .ok (.aload_n 0, 1) := by decide +kernel
theorem dX11_tryRows_33 : decode cX11_tryRows 33 = .ok (.iload 6, 2) := by decide +kernel
theorem dX11_tryRows_35 : decode cX11_tryRows 35 = .ok (.putfield 408, 3) := by decide +kernel
theorem dX11_tryRows_38 : decode cX11_tryRows 38 = .ok (.aload_n 0, 1) := by decide +kernel
theorem dX11_tryRows_39 : decode cX11_tryRows 39 = .ok (.iload 4, 2) := by decide +kernel
theorem dX11_tryRows_41 : decode cX11_tryRows 41 = .ok (.putfield 411, 3) := by decide +kernel
theorem dX11_tryRows_44 : decode cX11_tryRows 44 = .ok (.aload_n 0, 1) := by decide +kernel
theorem dX11_tryRows_45 : decode cX11_tryRows 45 = .ok (.iload 5, 2) := by decide +kernel
theorem dX11_tryRows_47 : decode cX11_tryRows 47 = .ok (.putfield 414, 3) := by decide +kernel
theorem dX11_tryRows_50 : decode cX11_tryRows 50 = .ok (.return_, 1) := by decide +kernel
theorem dX11_tryRows_51 : decode cX11_tryRows 51 = .ok (.iconst 0, 1) := by decide +kernel
theorem dX11_tryRows_52 : decode cX11_tryRows 52 = .ok (.istore 6, 2) := by decide +kernel
theorem dX11_tryRows_54 : decode cX11_tryRows 54 = .ok (.iload 6, 2) := by decide +kernel
theorem dX11_tryRows_56 : decode cX11_tryRows 56 = .ok (.aload_n 0, 1) := by decide +kernel
theorem dX11_tryRows_57 : decode cX11_tryRows 57 = .ok (.getfield 275, 3) := by decide +kernel
theorem dX11_tryRows_60 : decode cX11_tryRows 60 = .ok (.if_icmp .ge 82, 3) := by decide +kernel
theorem dX11_tryRows_63 : decode cX11_tryRows 63 = .ok (.iload_n 1, 1) := by decide +kernel
theorem dX11_tryRows_64 : decode cX11_tryRows 64 = .ok (.iload 6, 2) := by decide +kernel
theorem dX11_tryRows_66 : decode cX11_tryRows 66 = .ok (.invokestatic 221, 3) := by decide +kernel
theorem dX11_tryRows_69 : decode cX11_tryRows 69 = .ok (.ifCond .eq 67, 3) := by decide +kernel
theorem dX11_tryRows_72 : decode cX11_tryRows 72 = .ok (.aload_n 0, 1) := by decide +kernel
theorem dX11_tryRows_73 : decode cX11_tryRows 73 = .ok (.iload 6, 2) := by decide +kernel
theorem dX11_tryRows_75 : decode cX11_tryRows 75 = .ok (.invokevirtual 330, 3) := by decide +kernel
theorem dX11_tryRows_78 : decode cX11_tryRows 78 = .ok (.iload_n 2, 1) := by decide +kernel
theorem dX11_tryRows_79 : decode cX11_tryRows 79 = .ok (.iconst (-1), 1) := by decide +kernel
theorem dX11_tryRows_80 : decode cX11_tryRows 80 = .ok (.ixor, 1) := by decide +kernel
theorem dX11_tryRows_81 : decode cX11_tryRows 81 = .ok (.iand, 1) := by decide +kernel
theorem dX11_tryRows_82 : decode cX11_tryRows 82 = .ok (.ifCond .ne 54, 3) := by decide +kernel
theorem dX11_tryRows_85 : decode cX11_tryRows 85 = .ok (.aload_n 0, 1) := by decide +kernel
theorem dX11_tryRows_86 : decode cX11_tryRows 86 = .ok (.iload_n 1, 1) := by decide +kernel
theorem dX11_tryRows_87 : decode cX11_tryRows 87 = .ok (.iconst 1, 1) := by decide +kernel
theorem dX11_tryRows_88 : decode cX11_tryRows 88 = .ok (.iload 6, 2) := by decide +kernel
theorem dX11_tryRows_90 : decode cX11_tryRows 90 = .ok (.ishl, 1) := by decide +kernel
theorem dX11_tryRows_91 : decode cX11_tryRows 91 = .ok (.iconst (-1), 1) := by decide +kernel
theorem dX11_tryRows_92 : decode cX11_tryRows 92 = .ok (.ixor, 1) := by decide +kernel
theorem dX11_tryRows_93 : decode cX11_tryRows 93 = .ok (.iand, 1) := by decide +kernel
theorem dX11_tryRows_94 : decode cX11_tryRows 94 = .ok (.iload_n 2, 1) := by decide +kernel
theorem dX11_tryRows_95 : decode cX11_tryRows 95 = .ok (.iconst 1, 1) := by decide +kernel
theorem dX11_tryRows_96 : decode cX11_tryRows 96 = .ok (.iload 6, 2) := by decide +kernel
theorem dX11_tryRows_98 : decode cX11_tryRows 98 = .ok (.ishl, 1) := by decide +kernel
theorem dX11_tryRows_99 : decode cX11_tryRows 99 = .ok (.ior, 1) := by decide +kernel
theorem dX11_tryRows_100 : decode cX11_tryRows 100 = .ok (.aload_n 0, 1) := by decide +kernel
theorem dX11_tryRows_101 : decode cX11_tryRows 101 = .ok (.iload 6, 2) := by decide +kernel
theorem dX11_tryRows_103 : decode cX11_tryRows 103 = .ok (.iload_n 3, 1) := by decide +kernel
theorem dX11_tryRows_104 : decode cX11_tryRows 104 = .ok (.invokevirtual 417, 3) := by decide +kernel
theorem dX11_tryRows_107 : decode cX11_tryRows 107 = .ok (.bipush 10, 2) := by decide +kernel
theorem dX11_tryRows_109 : decode cX11_tryRows 109 = .ok (.iload 4, 2) := by decide +kernel
theorem dX11_tryRows_111 : decode cX11_tryRows 111 = .ok (.imul, 1) := by decide +kernel
theorem dX11_tryRows_112 : decode cX11_tryRows 112 = .ok (.iload 6, 2) := by decide +kernel
theorem dX11_tryRows_114 : decode cX11_tryRows 114 = .ok (.iadd, 1) := by decide +kernel
theorem dX11_tryRows_115 : decode cX11_tryRows 115 = .ok (.iload 5, 2) := by decide +kernel
theorem dX11_tryRows_117 : decode cX11_tryRows 117 = .ok (.aload_n 0, 1) := by decide +kernel
theorem dX11_tryRows_118 : decode cX11_tryRows 118 = .ok (.getfield 58, 3) := by decide +kernel
theorem dX11_tryRows_121 : decode cX11_tryRows 121 = .ok (.iconst 4, 1) := by decide +kernel
theorem dX11_tryRows_122 : decode cX11_tryRows 122 = .ok (.aload_n 0, 1) := by decide +kernel
theorem dX11_tryRows_123 : decode cX11_tryRows 123 = .ok (.iload 6, 2) := by decide +kernel
theorem dX11_tryRows_125 : decode cX11_tryRows 125 = .ok (.invokevirtual 306, 3) := by decide +kernel
theorem dX11_tryRows_128 : decode cX11_tryRows 128 = .ok (.imul, 1) := by decide +kernel
theorem dX11_tryRows_129 : decode cX11_tryRows 129 = .ok (.iconst 3, 1) := by decide +kernel
theorem dX11_tryRows_130 : decode cX11_tryRows 130 = .ok (.iadd, 1) := by decide +kernel
theorem dX11_tryRows_131 : decode cX11_tryRows 131 = .ok (.iaload, 1) := by decide +kernel
theorem dX11_tryRows_132 : decode cX11_tryRows 132 = .ok (.iadd, 1) := by decide +kernel
theorem dX11_tryRows_133 : decode cX11_tryRows 133 = .ok (.invokevirtual 420, 3) := by decide +kernel
theorem dX11_tryRows_136 : decode cX11_tryRows 136 = .ok (.iinc 6 1, 3) := by decide +kernel
theorem dX11_tryRows_139 : decode cX11_tryRows 139 = .ok (.goto (-85), 3) := by decide +kernel
theorem dX11_tryRows_142 : decode cX11_tryRows 142 = .ok (.return_, 1) := by decide +kernel
theorem dX11_laySoonest_0 : decode cX11_laySoonest 0 = .ok (.aload_n 0, 1) := by decide +kernel
theorem dX11_laySoonest_1 : decode cX11_laySoonest 1 = .ok (.iconst (-1), 1) := by decide +kernel
theorem dX11_laySoonest_2 : decode cX11_laySoonest 2 = .ok (.putfield 408, 3) := by decide +kernel
theorem dX11_laySoonest_5 : decode cX11_laySoonest 5 = .ok (.aload_n 0, 1) := by decide +kernel
theorem dX11_laySoonest_6 : decode cX11_laySoonest 6 = .ok (.iconst (-1), 1) := by decide +kernel
theorem dX11_laySoonest_7 : decode cX11_laySoonest 7 = .ok (.putfield 411, 3) := by decide +kernel
theorem dX11_laySoonest_10 : decode cX11_laySoonest 10 = .ok (.aload_n 0, 1) := by decide +kernel
theorem dX11_laySoonest_11 : decode cX11_laySoonest 11 = .ok (.iconst 0, 1) := by decide +kernel
theorem dX11_laySoonest_12 : decode cX11_laySoonest 12 = .ok (.putfield 414, 3) := by decide +kernel
theorem dX11_laySoonest_15 : decode cX11_laySoonest 15 = .ok (.aload_n 0, 1) := by decide +kernel
theorem dX11_laySoonest_16 : decode cX11_laySoonest 16 = .ok (.iload_n 1, 1) := by decide +kernel
theorem dX11_laySoonest_17 : decode cX11_laySoonest 17 = .ok (.iload_n 2, 1) := by decide +kernel
theorem dX11_laySoonest_18 : decode cX11_laySoonest 18 = .ok (.invokevirtual 424, 3) := by decide +kernel
theorem dX11_laySoonest_21 : decode cX11_laySoonest 21 = .ok (.istore_n 3, 1) := by decide +kernel
theorem dX11_laySoonest_22 : decode cX11_laySoonest 22 = .ok (.aload_n 0, 1) := by decide +kernel
theorem dX11_laySoonest_23 : decode cX11_laySoonest 23 = .ok (.iload_n 3, 1) := by decide +kernel
theorem dX11_laySoonest_24 : decode cX11_laySoonest 24 = .ok (.iload_n 2, 1) := by decide +kernel
theorem dX11_laySoonest_25 : decode cX11_laySoonest 25 = .ok (.aload_n 0, 1) := by decide +kernel
theorem dX11_laySoonest_26 : decode cX11_laySoonest 26 = .ok (.getfield 70, 3) := by decide +kernel
theorem dX11_laySoonest_29 : decode cX11_laySoonest 29 = .ok (.bipush 42, 2) := by decide +kernel
theorem dX11_laySoonest_31 : decode cX11_laySoonest 31 = .ok (.iaload, 1) := by decide +kernel
theorem dX11_laySoonest_32 : decode cX11_laySoonest 32 = .ok (.iconst 0, 1) := by decide +kernel
theorem dX11_laySoonest_33 : decode cX11_laySoonest 33 = .ok (.iconst 0, 1) := by decide +kernel
theorem dX11_laySoonest_34 : decode cX11_laySoonest 34 = .ok (.invokevirtual 420, 3) := by decide +kernel
theorem dX11_laySoonest_37 : decode cX11_laySoonest 37 = .ok (.aload_n 0, 1) := by decide +kernel
theorem dX11_laySoonest_38 : decode cX11_laySoonest 38 = .ok (.iload_n 3, 1) := by decide +kernel
theorem dX11_laySoonest_39 : decode cX11_laySoonest 39 = .ok (.ifCond .ne 7, 3) := by decide +kernel
theorem dX11_laySoonest_42 : decode cX11_laySoonest 42 = .ok (.iconst (-1), 1) := by decide +kernel
theorem dX11_laySoonest_43 : decode cX11_laySoonest 43 = .ok (.goto 7, 3) := by decide +kernel
theorem dX11_laySoonest_46 : decode cX11_laySoonest 46 = .ok (.aload_n 0, 1) := by decide +kernel
theorem dX11_laySoonest_47 : decode cX11_laySoonest 47 = .ok (.getfield 411, 3) := by decide +kernel
theorem dX11_laySoonest_50 : decode cX11_laySoonest 50 = .ok (.putfield 411, 3) := by decide +kernel
theorem dX11_laySoonest_53 : decode cX11_laySoonest 53 = .ok (.return_, 1) := by decide +kernel
theorem dX11_soonest_0 : decode cX11_soonest 0 = .ok (.aload_n 0, 1) := by decide +kernel
theorem dX11_soonest_1 : decode cX11_soonest 1 = .ok (.iload_n 1, 1) := by decide +kernel
theorem dX11_soonest_2 : decode cX11_soonest 2 = .ok (.invokevirtual 300, 3) := by decide +kernel
theorem dX11_soonest_5 : decode cX11_soonest 5 = .ok (.ifCond .eq 12, 3) := by decide +kernel
theorem dX11_soonest_8 : decode cX11_soonest 8 = .ok (.iload_n 2, 1) := by decide +kernel
theorem dX11_soonest_9 : decode cX11_soonest 9 = .ok (.iconst 0, 1) := by decide +kernel
theorem dX11_soonest_10 : decode cX11_soonest 10 = .ok (.iconst 2, 1) := by decide +kernel
theorem dX11_soonest_11 : decode cX11_soonest 11 = .ok (.invokestatic 210, 3) := by decide +kernel
theorem dX11_soonest_14 : decode cX11_soonest 14 = .ok (.ifCond .ne 5, 3) := by decide +kernel
theorem dX11_soonest_17 : decode cX11_soonest 17 = .ok (.iconst (-1), 1) := by decide +kernel
theorem dX11_soonest_18 : decode cX11_soonest 18 = .ok (.ireturn, 1) := by decide +kernel
theorem dX11_soonest_19 : decode cX11_soonest 19 = .ok (.aload_n 0, 1) := by decide +kernel
theorem dX11_soonest_20 : decode cX11_soonest 20 = .ok (.iload_n 1, 1) := by decide +kernel
theorem dX11_soonest_21 : decode cX11_soonest 21 = .ok (.aload_n 0, 1) := by decide +kernel
theorem dX11_soonest_22 : decode cX11_soonest 22 = .ok (.iload_n 1, 1) := by decide +kernel
theorem dX11_soonest_23 : decode cX11_soonest 23 = .ok (.iconst 0, 1) := by decide +kernel
theorem dX11_soonest_24 : decode cX11_soonest 24 = .ok (.invokevirtual 303, 3) := by decide +kernel
theorem dX11_soonest_27 : decode cX11_soonest 27 = .ok (.invokevirtual 427, 3) := by decide +kernel
theorem dX11_soonest_30 : decode cX11_soonest 30 = .ok (.aload_n 0, 1) := by decide +kernel
theorem dX11_soonest_31 : decode cX11_soonest 31 = .ok (.getfield 408, 3) := by decide +kernel
theorem dX11_soonest_34 : decode cX11_soonest 34 = .ok (.iconst (-1), 1) := by decide +kernel
theorem dX11_soonest_35 : decode cX11_soonest 35 = .ok (.if_icmp .ne 7, 3) := by decide +kernel
theorem dX11_soonest_38 : decode cX11_soonest 38 = .ok (.iconst (-1), 1) := by decide +kernel
theorem dX11_soonest_39 : decode cX11_soonest 39 = .ok (.goto 30, 3) := by decide +kernel
theorem dX11_soonest_42 : decode cX11_soonest 42 = .ok (.iload_n 2, 1) := by decide +kernel
theorem dX11_soonest_43 : decode cX11_soonest 43 = .ok (.ifCond .ne 10, 3) := by decide +kernel
theorem dX11_soonest_46 : decode cX11_soonest 46 = .ok (.aload_n 0, 1) := by decide +kernel
theorem dX11_soonest_47 : decode cX11_soonest 47 = .ok (.getfield 408, 3) := by decide +kernel
theorem dX11_soonest_50 : decode cX11_soonest 50 = .ok (.goto 19, 3) := by decide +kernel
theorem dX11_soonest_53 : decode cX11_soonest 53 = .ok (.iload_n 2, 1) := by decide +kernel
theorem dX11_soonest_54 : decode cX11_soonest 54 = .ok (.iconst 1, 1) := by decide +kernel
theorem dX11_soonest_55 : decode cX11_soonest 55 = .ok (.if_icmp .ne 10, 3) := by decide +kernel
theorem dX11_soonest_58 : decode cX11_soonest 58 = .ok (.aload_n 0, 1) := by decide +kernel
theorem dX11_soonest_59 : decode cX11_soonest 59 = .ok (.getfield 411, 3) := by decide +kernel
theorem dX11_soonest_62 : decode cX11_soonest 62 = .ok (.goto 7, 3) := by decide +kernel
theorem dX11_soonest_65 : decode cX11_soonest 65 = .ok (.aload_n 0, 1) := by decide +kernel
theorem dX11_soonest_66 : decode cX11_soonest 66 = .ok (.getfield 414, 3) := by decide +kernel
theorem dX11_soonest_69 : decode cX11_soonest 69 = .ok (.ireturn, 1) := by decide +kernel
theorem dX11_hasRow_0 : decode cX11_hasRow 0 = .ok (.aload_n 0, 1) := by decide +kernel
theorem dX11_hasRow_1 : decode cX11_hasRow 1 = .ok (.iload_n 1, 1) := by decide +kernel
theorem dX11_hasRow_2 : decode cX11_hasRow 2 = .ok (.iload_n 2, 1) := by decide +kernel
theorem dX11_hasRow_3 : decode cX11_hasRow 3 = .ok (.invokevirtual 424, 3) := by decide +kernel
theorem dX11_hasRow_6 : decode cX11_hasRow 6 = .ok (.istore_n 3, 1) := by decide +kernel
theorem dX11_hasRow_7 : decode cX11_hasRow 7 = .ok (.iload_n 2, 1) := by decide +kernel
theorem dX11_hasRow_8 : decode cX11_hasRow 8 = .ok (.istore 4, 2) := by decide +kernel
theorem dX11_hasRow_10 : decode cX11_hasRow 10 = .ok (.iconst 1, 1) := by decide +kernel
theorem dX11_hasRow_11 : decode cX11_hasRow 11 = .ok (.istore 5, 2) := by decide +kernel
theorem dX11_hasRow_13 : decode cX11_hasRow 13 = .ok (.iload 5, 2) := by decide +kernel
theorem dX11_hasRow_15 : decode cX11_hasRow 15 = .ok (.ifCond .eq 72, 3) := by decide +kernel
theorem dX11_hasRow_18 : decode cX11_hasRow 18 = .ok (.iconst 0, 1) := by decide +kernel
theorem dX11_hasRow_19 : decode cX11_hasRow 19 = .ok (.istore 5, 2) := by decide +kernel
theorem dX11_hasRow_21 : decode cX11_hasRow 21 = .ok (.iconst 0, 1) := by decide +kernel
theorem dX11_hasRow_22 : decode cX11_hasRow 22 = .ok (.istore 6, 2) := by decide +kernel
theorem dX11_hasRow_24 : decode cX11_hasRow 24 = .ok (.iload 6, 2) := by decide +kernel
theorem dX11_hasRow_26 : decode cX11_hasRow 26 = .ok (.aload_n 0, 1) := by decide +kernel
theorem dX11_hasRow_27 : decode cX11_hasRow 27 = .ok (.getfield 275, 3) := by decide +kernel
theorem dX11_hasRow_30 : decode cX11_hasRow 30 = .ok (.if_icmp .ge 54, 3) := by decide +kernel
theorem dX11_hasRow_33 : decode cX11_hasRow 33 = .ok (.iload_n 3, 1) := by decide +kernel
theorem dX11_hasRow_34 : decode cX11_hasRow 34 = .ok (.iload 6, 2) := by decide +kernel
theorem dX11_hasRow_36 : decode cX11_hasRow 36 = .ok (.invokestatic 221, 3) := by decide +kernel
theorem dX11_hasRow_39 : decode cX11_hasRow 39 = .ok (.ifCond .eq 39, 3) := by decide +kernel
theorem dX11_hasRow_42 : decode cX11_hasRow 42 = .ok (.iload 4, 2) := by decide +kernel
theorem dX11_hasRow_44 : decode cX11_hasRow 44 = .ok (.iload 6, 2) := by decide +kernel
theorem dX11_hasRow_46 : decode cX11_hasRow 46 = .ok (.invokestatic 221, 3) := by decide +kernel
theorem dX11_hasRow_49 : decode cX11_hasRow 49 = .ok (.ifCond .ne 29, 3) := by decide +kernel
theorem dX11_hasRow_52 : decode cX11_hasRow 52 = .ok (.aload_n 0, 1) := by decide +kernel
theorem dX11_hasRow_53 : decode cX11_hasRow 53 = .ok (.iload 6, 2) := by decide +kernel
theorem dX11_hasRow_55 : decode cX11_hasRow 55 = .ok (.invokevirtual 330, 3) := by decide +kernel
theorem dX11_hasRow_58 : decode cX11_hasRow 58 = .ok (.iload 4, 2) := by decide +kernel
theorem dX11_hasRow_60 : decode cX11_hasRow 60 = .ok (.iconst (-1), 1) := by decide +kernel
theorem dX11_hasRow_61 : decode cX11_hasRow 61 = .ok (.ixor, 1) := by decide +kernel
theorem dX11_hasRow_62 : decode cX11_hasRow 62 = .ok (.iand, 1) := by decide +kernel
theorem dX11_hasRow_63 : decode cX11_hasRow 63 = .ok (.ifCond .ne 15, 3) := by decide +kernel
theorem dX11_hasRow_66 : decode cX11_hasRow 66 = .ok (.iload 4, 2) := by decide +kernel
theorem dX11_hasRow_68 : decode cX11_hasRow 68 = .ok (.iconst 1, 1) := by decide +kernel
theorem dX11_hasRow_69 : decode cX11_hasRow 69 = .ok (.iload 6, 2) := by decide +kernel
theorem dX11_hasRow_71 : decode cX11_hasRow 71 = .ok (.ishl, 1) := by decide +kernel
theorem dX11_hasRow_72 : decode cX11_hasRow 72 = .ok (.ior, 1) := by decide +kernel
theorem dX11_hasRow_73 : decode cX11_hasRow 73 = .ok (.istore 4, 2) := by decide +kernel
theorem dX11_hasRow_75 : decode cX11_hasRow 75 = .ok (.iconst 1, 1) := by decide +kernel
theorem dX11_hasRow_76 : decode cX11_hasRow 76 = .ok (.istore 5, 2) := by decide +kernel
theorem dX11_hasRow_78 : decode cX11_hasRow 78 = .ok (.iinc 6 1, 3) := by decide +kernel
theorem dX11_hasRow_81 : decode cX11_hasRow 81 = .ok (.goto (-57), 3) := by decide +kernel
theorem dX11_hasRow_84 : decode cX11_hasRow 84 = .ok (.goto (-71), 3) := by decide +kernel
theorem dX11_hasRow_87 : decode cX11_hasRow 87 = .ok (.iload_n 3, 1) := by decide +kernel
theorem dX11_hasRow_88 : decode cX11_hasRow 88 = .ok (.iload 4, 2) := by decide +kernel
theorem dX11_hasRow_90 : decode cX11_hasRow 90 = .ok (.iconst (-1), 1) := by decide +kernel
theorem dX11_hasRow_91 : decode cX11_hasRow 91 = .ok (.ixor, 1) := by decide +kernel
theorem dX11_hasRow_92 : decode cX11_hasRow 92 = .ok (.iand, 1) := by decide +kernel
theorem dX11_hasRow_93 : decode cX11_hasRow 93 = .ok (.ifCond .ne 7, 3) := by decide +kernel
theorem dX11_hasRow_96 : decode cX11_hasRow 96 = .ok (.iconst 1, 1) := by decide +kernel
theorem dX11_hasRow_97 : decode cX11_hasRow 97 = .ok (.goto 4, 3) := by decide +kernel
theorem dX11_hasRow_100 : decode cX11_hasRow 100 = .ok (.iconst 0, 1) := by decide +kernel
theorem dX11_hasRow_101 : decode cX11_hasRow 101 = .ok (.ireturn, 1) := by decide +kernel
theorem dX11_waived_0 : decode cX11_waived 0 = .ok (.aload_n 0, 1) := by decide +kernel
theorem dX11_waived_1 : decode cX11_waived 1 = .ok (.iload_n 1, 1) := by decide +kernel
theorem dX11_waived_2 : decode cX11_waived 2 = .ok (.invokevirtual 300, 3) := by decide +kernel
theorem dX11_waived_5 : decode cX11_waived 5 = .ok (.ifCond .ne 5, 3) := by decide +kernel
theorem dX11_waived_8 : decode cX11_waived 8 = .ok (.iconst (-1), 1) := by decide +kernel
theorem dX11_waived_9 : decode cX11_waived 9 = .ok (.ireturn, 1) := by decide +kernel
theorem dX11_waived_10 : decode cX11_waived 10 = .ok (.iconst (-1), 1) := by decide +kernel
theorem dX11_waived_11 : decode cX11_waived 11 = .ok (.istore_n 2, 1) := by decide +kernel
theorem dX11_waived_12 : decode cX11_waived 12 = .ok (.iconst 0, 1) := by decide +kernel
theorem dX11_waived_13 : decode cX11_waived 13 = .ok (.istore_n 3, 1) := by decide +kernel
theorem dX11_waived_14 : decode cX11_waived 14 = .ok (.iload_n 3, 1) := by decide +kernel
theorem dX11_waived_15 : decode cX11_waived 15 = .ok (.iconst 1, 1) := by decide +kernel
theorem dX11_waived_16 : decode cX11_waived 16 = .ok (.aload_n 0, 1) := by decide +kernel
theorem dX11_waived_17 : decode cX11_waived 17 = .ok (.getfield 275, 3) := by decide +kernel
theorem dX11_waived_20 : decode cX11_waived 20 = .ok (.ishl, 1) := by decide +kernel
theorem dX11_waived_21 : decode cX11_waived 21 = .ok (.if_icmp .ge 59, 3) := by decide +kernel
theorem dX11_waived_24 : decode cX11_waived 24 = .ok (.iload_n 2, 1) := by decide +kernel
theorem dX11_waived_25 : decode cX11_waived 25 = .ok (.iconst (-1), 1) := by decide +kernel
theorem dX11_waived_26 : decode cX11_waived 26 = .ok (.if_icmp .eq 14, 3) := by decide +kernel
theorem dX11_waived_29 : decode cX11_waived 29 = .ok (.iload_n 3, 1) := by decide +kernel
theorem dX11_waived_30 : decode cX11_waived 30 = .ok (.invokestatic 362, 3) := by decide +kernel
theorem dX11_waived_33 : decode cX11_waived 33 = .ok (.iload_n 2, 1) := by decide +kernel
theorem dX11_waived_34 : decode cX11_waived 34 = .ok (.invokestatic 362, 3) := by decide +kernel
theorem dX11_waived_37 : decode cX11_waived 37 = .ok (.if_icmp .ge 7, 3) := by decide +kernel
theorem dX11_waived_40 : decode cX11_waived 40 = .ok (.iconst 1, 1) := by decide +kernel
theorem dX11_waived_41 : decode cX11_waived 41 = .ok (.goto 4, 3) := by decide +kernel
theorem dX11_waived_44 : decode cX11_waived 44 = .ok (.iconst 0, 1) := by decide +kernel
theorem dX11_waived_45 : decode cX11_waived 45 = .ok (.istore 4, 2) := by decide +kernel
theorem dX11_waived_47 : decode cX11_waived 47 = .ok (.iload 4, 2) := by decide +kernel
theorem dX11_waived_49 : decode cX11_waived 49 = .ok (.ifCond .eq 23, 3) := by decide +kernel
theorem dX11_waived_52 : decode cX11_waived 52 = .ok (.aload_n 0, 1) := by decide +kernel
theorem dX11_waived_53 : decode cX11_waived 53 = .ok (.iload_n 1, 1) := by decide +kernel
theorem dX11_waived_54 : decode cX11_waived 54 = .ok (.aload_n 0, 1) := by decide +kernel
theorem dX11_waived_55 : decode cX11_waived 55 = .ok (.iload_n 1, 1) := by decide +kernel
theorem dX11_waived_56 : decode cX11_waived 56 = .ok (.iconst 0, 1) := by decide +kernel
theorem dX11_waived_57 : decode cX11_waived 57 = .ok (.invokevirtual 303, 3) := by decide +kernel
theorem dX11_waived_60 : decode cX11_waived 60 = .ok (.iload_n 3, 1) := by decide +kernel
theorem dX11_waived_61 : decode cX11_waived 61 = .ok (.ior, 1) := by decide +kernel
theorem dX11_waived_62 : decode cX11_waived 62 = .ok (.invokevirtual 430, 3) := by decide +kernel
theorem dX11_waived_65 : decode cX11_waived 65 = .ok (.ifCond .eq 7, 3) := by decide +kernel
theorem dX11_waived_68 : decode cX11_waived 68 = .ok (.iload_n 3, 1) := by decide +kernel
theorem dX11_waived_69 : decode cX11_waived 69 = .ok (.goto 4, 3) := by decide +kernel
theorem dX11_waived_72 : decode cX11_waived 72 = .ok (.iload_n 2, 1) := by decide +kernel
theorem dX11_waived_73 : decode cX11_waived 73 = .ok (.istore_n 2, 1) := by decide +kernel
theorem dX11_waived_74 : decode cX11_waived 74 = .ok (.iinc 3 1, 3) := by decide +kernel
theorem dX11_waived_77 : decode cX11_waived 77 = .ok (.goto (-63), 3) := by decide +kernel
theorem dX11_waived_80 : decode cX11_waived 80 = .ok (.iload_n 2, 1) := by decide +kernel
theorem dX11_waived_81 : decode cX11_waived 81 = .ok (.ireturn, 1) := by decide +kernel
theorem dX11_earliest_0 : decode cX11_earliest 0 = .ok (.iconst (-1), 1) := by decide +kernel
theorem dX11_earliest_1 : decode cX11_earliest 1 = .ok (.istore_n 1, 1) := by decide +kernel
theorem dX11_earliest_2 : decode cX11_earliest 2 = .ok (.iconst 0, 1) := by decide +kernel
theorem dX11_earliest_3 : decode cX11_earliest 3 = .ok (.istore_n 2, 1) := by decide +kernel
theorem dX11_earliest_4 : decode cX11_earliest 4 = .ok (.iconst 0, 1) := by decide +kernel
theorem dX11_earliest_5 : decode cX11_earliest 5 = .ok (.istore_n 3, 1) := by decide +kernel
theorem dX11_earliest_6 : decode cX11_earliest 6 = .ok (.iload_n 3, 1) := by decide +kernel
theorem dX11_earliest_7 : decode cX11_earliest 7 = .ok (.aload_n 0, 1) := by decide +kernel
theorem dX11_earliest_8 : decode cX11_earliest 8 = .ok (.getfield 269, 3) := by decide +kernel
theorem dX11_earliest_11 : decode cX11_earliest 11 = .ok (.if_icmp .ge 48, 3) := by decide +kernel
theorem dX11_earliest_14 : decode cX11_earliest 14 = .ok (.aload_n 0, 1) := by decide +kernel
theorem dX11_earliest_15 : decode cX11_earliest 15 = .ok (.iload_n 3, 1) := by decide +kernel
theorem dX11_earliest_16 : decode cX11_earliest 16 = .ok (.aload_n 0, 1) := by decide +kernel
theorem dX11_earliest_17 : decode cX11_earliest 17 = .ok (.iload_n 3, 1) := by decide +kernel
theorem dX11_earliest_18 : decode cX11_earliest 18 = .ok (.iconst 0, 1) := by decide +kernel
theorem dX11_earliest_19 : decode cX11_earliest 19 = .ok (.invokevirtual 303, 3) := by decide +kernel
theorem dX11_earliest_22 : decode cX11_earliest 22 = .ok (.invokevirtual 427, 3) := by decide +kernel
theorem dX11_earliest_25 : decode cX11_earliest 25 = .ok (.aload_n 0, 1) := by decide +kernel
theorem dX11_earliest_26 : decode cX11_earliest 26 = .ok (.getfield 408, 3) := by decide +kernel
theorem dX11_earliest_29 : decode cX11_earliest 29 = .ok (.iconst (-1), 1) := by decide +kernel
theorem dX11_earliest_30 : decode cX11_earliest 30 = .ok (.if_icmp .eq 23, 3) := by decide +kernel
theorem dX11_earliest_33 : decode cX11_earliest 33 = .ok (.iload_n 1, 1) := by decide +kernel
theorem dX11_earliest_34 : decode cX11_earliest 34 = .ok (.iconst (-1), 1) := by decide +kernel
theorem dX11_earliest_35 : decode cX11_earliest 35 = .ok (.if_icmp .eq 11, 3) := by decide +kernel
theorem dX11_earliest_38 : decode cX11_earliest 38 = .ok (.aload_n 0, 1) := by decide +kernel
theorem dX11_earliest_39 : decode cX11_earliest 39 = .ok (.getfield 408, 3) := by decide +kernel
theorem dX11_earliest_42 : decode cX11_earliest 42 = .ok (.iload_n 2, 1) := by decide +kernel
theorem dX11_earliest_43 : decode cX11_earliest 43 = .ok (.if_icmp .ge 10, 3) := by decide +kernel
theorem dX11_earliest_46 : decode cX11_earliest 46 = .ok (.iload_n 3, 1) := by decide +kernel
theorem dX11_earliest_47 : decode cX11_earliest 47 = .ok (.istore_n 1, 1) := by decide +kernel
theorem dX11_earliest_48 : decode cX11_earliest 48 = .ok (.aload_n 0, 1) := by decide +kernel
theorem dX11_earliest_49 : decode cX11_earliest 49 = .ok (.getfield 408, 3) := by decide +kernel
theorem dX11_earliest_52 : decode cX11_earliest 52 = .ok (.istore_n 2, 1) := by decide +kernel
theorem dX11_earliest_53 : decode cX11_earliest 53 = .ok (.iinc 3 1, 3) := by decide +kernel
theorem dX11_earliest_56 : decode cX11_earliest 56 = .ok (.goto (-50), 3) := by decide +kernel
theorem dX11_earliest_59 : decode cX11_earliest 59 = .ok (.iload_n 1, 1) := by decide +kernel
theorem dX11_earliest_60 : decode cX11_earliest 60 = .ok (.ireturn, 1) := by decide +kernel
theorem dX11_isForm_0 : decode cX11_isForm 0 = .ok (.iconst 0, 1) := by decide +kernel
theorem dX11_isForm_1 : decode cX11_isForm 1 = .ok (.istore_n 2, 1) := by decide +kernel
theorem dX11_isForm_2 : decode cX11_isForm 2 = .ok (.iload_n 2, 1) := by decide +kernel
theorem dX11_isForm_3 : decode cX11_isForm 3 = .ok (.aload_n 0, 1) := by decide +kernel
theorem dX11_isForm_4 : decode cX11_isForm 4 = .ok (.getfield 269, 3) := by decide +kernel
theorem dX11_isForm_7 : decode cX11_isForm 7 = .ok (.if_icmp .ge 20, 3) := by decide +kernel
theorem dX11_isForm_10 : decode cX11_isForm 10 = .ok (.aload_n 0, 1) := by decide +kernel
theorem dX11_isForm_11 : decode cX11_isForm 11 = .ok (.iload_n 2, 1) := by decide +kernel
theorem dX11_isForm_12 : decode cX11_isForm 12 = .ok (.invokevirtual 350, 3) := by decide +kernel
theorem dX11_isForm_15 : decode cX11_isForm 15 = .ok (.iload_n 1, 1) := by decide +kernel
theorem dX11_isForm_16 : decode cX11_isForm 16 = .ok (.if_icmp .ne 5, 3) := by decide +kernel
theorem dX11_isForm_19 : decode cX11_isForm 19 = .ok (.iconst 1, 1) := by decide +kernel
theorem dX11_isForm_20 : decode cX11_isForm 20 = .ok (.ireturn, 1) := by decide +kernel
theorem dX11_isForm_21 : decode cX11_isForm 21 = .ok (.iinc 2 1, 3) := by decide +kernel
theorem dX11_isForm_24 : decode cX11_isForm 24 = .ok (.goto (-22), 3) := by decide +kernel
theorem dX11_isForm_27 : decode cX11_isForm 27 = .ok (.iconst 0, 1) := by decide +kernel
theorem dX11_isForm_28 : decode cX11_isForm 28 = .ok (.ireturn, 1) := by decide +kernel
theorem dX11_chosenHours_0 : decode cX11_chosenHours 0 = .ok (.iconst 0, 1) := by decide +kernel
theorem dX11_chosenHours_1 : decode cX11_chosenHours 1 = .ok (.istore_n 2, 1) := by decide +kernel
theorem dX11_chosenHours_2 : decode cX11_chosenHours 2 = .ok (.iconst 0, 1) := by decide +kernel
theorem dX11_chosenHours_3 : decode cX11_chosenHours 3 = .ok (.istore_n 3, 1) := by decide +kernel
theorem dX11_chosenHours_4 : decode cX11_chosenHours 4 = .ok (.iconst 0, 1) := by decide +kernel
theorem dX11_chosenHours_5 : decode cX11_chosenHours 5 = .ok (.istore 4, 2) := by decide +kernel
theorem dX11_chosenHours_7 : decode cX11_chosenHours 7 = .ok (.iload 4, 2) := by decide +kernel
theorem dX11_chosenHours_9 : decode cX11_chosenHours 9 = .ok (.aload_n 0, 1) := by decide +kernel
theorem dX11_chosenHours_10 : decode cX11_chosenHours 10 = .ok (.getfield 269, 3) := by decide +kernel
theorem dX11_chosenHours_13 : decode cX11_chosenHours 13 = .ok (.if_icmp .ge 63, 3) := by decide +kernel
theorem dX11_chosenHours_16 : decode cX11_chosenHours 16 = .ok (.iload_n 2, 1) := by decide +kernel
theorem dX11_chosenHours_17 : decode cX11_chosenHours 17 = .ok (.aload_n 0, 1) := by decide +kernel
theorem dX11_chosenHours_18 : decode cX11_chosenHours 18 = .ok (.getfield 83, 3) := by decide +kernel
theorem dX11_chosenHours_21 : decode cX11_chosenHours 21 = .ok (.iload 4, 2) := by decide +kernel
theorem dX11_chosenHours_23 : decode cX11_chosenHours 23 = .ok (.iaload, 1) := by decide +kernel
theorem dX11_chosenHours_24 : decode cX11_chosenHours 24 = .ok (.aload_n 0, 1) := by decide +kernel
theorem dX11_chosenHours_25 : decode cX11_chosenHours 25 = .ok (.getfield 83, 3) := by decide +kernel
theorem dX11_chosenHours_28 : decode cX11_chosenHours 28 = .ok (.iload_n 1, 1) := by decide +kernel
theorem dX11_chosenHours_29 : decode cX11_chosenHours 29 = .ok (.iaload, 1) := by decide +kernel
theorem dX11_chosenHours_30 : decode cX11_chosenHours 30 = .ok (.if_icmp .ne 7, 3) := by decide +kernel
theorem dX11_chosenHours_33 : decode cX11_chosenHours 33 = .ok (.iconst 1, 1) := by decide +kernel
theorem dX11_chosenHours_34 : decode cX11_chosenHours 34 = .ok (.goto 4, 3) := by decide +kernel
theorem dX11_chosenHours_37 : decode cX11_chosenHours 37 = .ok (.iconst 0, 1) := by decide +kernel
theorem dX11_chosenHours_38 : decode cX11_chosenHours 38 = .ok (.iadd, 1) := by decide +kernel
theorem dX11_chosenHours_39 : decode cX11_chosenHours 39 = .ok (.istore_n 2, 1) := by decide +kernel
theorem dX11_chosenHours_40 : decode cX11_chosenHours 40 = .ok (.iload_n 3, 1) := by decide +kernel
theorem dX11_chosenHours_41 : decode cX11_chosenHours 41 = .ok (.aload_n 0, 1) := by decide +kernel
theorem dX11_chosenHours_42 : decode cX11_chosenHours 42 = .ok (.getfield 83, 3) := by decide +kernel
theorem dX11_chosenHours_45 : decode cX11_chosenHours 45 = .ok (.iload 4, 2) := by decide +kernel
theorem dX11_chosenHours_47 : decode cX11_chosenHours 47 = .ok (.iaload, 1) := by decide +kernel
theorem dX11_chosenHours_48 : decode cX11_chosenHours 48 = .ok (.aload_n 0, 1) := by decide +kernel
theorem dX11_chosenHours_49 : decode cX11_chosenHours 49 = .ok (.getfield 83, 3) := by decide +kernel
theorem dX11_chosenHours_52 : decode cX11_chosenHours 52 = .ok (.iload_n 1, 1) := by decide +kernel
theorem dX11_chosenHours_53 : decode cX11_chosenHours 53 = .ok (.iaload, 1) := by decide +kernel
theorem dX11_chosenHours_54 : decode cX11_chosenHours 54 = .ok (.if_icmp .ne 13, 3) := by decide +kernel
theorem dX11_chosenHours_57 : decode cX11_chosenHours 57 = .ok (.iload 4, 2) := by decide +kernel
theorem dX11_chosenHours_59 : decode cX11_chosenHours 59 = .ok (.iload_n 1, 1) := by decide +kernel
theorem dX11_chosenHours_60 : decode cX11_chosenHours 60 = .ok (.if_icmp .ge 7, 3) := by decide +kernel
theorem dX11_chosenHours_63 : decode cX11_chosenHours 63 = .ok (.iconst 1, 1) := by decide +kernel
theorem dX11_chosenHours_64 : decode cX11_chosenHours 64 = .ok (.goto 4, 3) := by decide +kernel
theorem dX11_chosenHours_67 : decode cX11_chosenHours 67 = .ok (.iconst 0, 1) := by decide +kernel
theorem dX11_chosenHours_68 : decode cX11_chosenHours 68 = .ok (.iadd, 1) := by decide +kernel
theorem dX11_chosenHours_69 : decode cX11_chosenHours 69 = .ok (.istore_n 3, 1) := by decide +kernel
theorem dX11_chosenHours_70 : decode cX11_chosenHours 70 = .ok (.iinc 4 1, 3) := by decide +kernel
theorem dX11_chosenHours_73 : decode cX11_chosenHours 73 = .ok (.goto (-66), 3) := by decide +kernel
theorem dX11_chosenHours_76 : decode cX11_chosenHours 76 = .ok (.aload_n 0, 1) := by decide +kernel
theorem dX11_chosenHours_77 : decode cX11_chosenHours 77 = .ok (.iload_n 1, 1) := by decide +kernel
theorem dX11_chosenHours_78 : decode cX11_chosenHours 78 = .ok (.iload_n 2, 1) := by decide +kernel
theorem dX11_chosenHours_79 : decode cX11_chosenHours 79 = .ok (.iload_n 3, 1) := by decide +kernel
theorem dX11_chosenHours_80 : decode cX11_chosenHours 80 = .ok (.invokevirtual 353, 3) := by decide +kernel
theorem dX11_chosenHours_83 : decode cX11_chosenHours 83 = .ok (.ireturn, 1) := by decide +kernel
theorem dX11_ten_0 : decode cX11_ten 0 = .ok (.iconst 1, 1) := by decide +kernel
theorem dX11_ten_1 : decode cX11_ten 1 = .ok (.istore_n 1, 1) := by decide +kernel
theorem dX11_ten_2 : decode cX11_ten 2 = .ok (.iconst 0, 1) := by decide +kernel
theorem dX11_ten_3 : decode cX11_ten 3 = .ok (.istore_n 2, 1) := by decide +kernel
theorem dX11_ten_4 : decode cX11_ten 4 = .ok (.iload_n 2, 1) := by decide +kernel
theorem dX11_ten_5 : decode cX11_ten 5 = .ok (.iload_n 0, 1) := by decide +kernel
theorem dX11_ten_6 : decode cX11_ten 6 = .ok (.if_icmp .ge 14, 3) := by decide +kernel
theorem dX11_ten_9 : decode cX11_ten 9 = .ok (.iload_n 1, 1) := by decide +kernel
theorem dX11_ten_10 : decode cX11_ten 10 = .ok (.bipush 10, 2) := by decide +kernel
theorem dX11_ten_12 : decode cX11_ten 12 = .ok (.imul, 1) := by decide +kernel
theorem dX11_ten_13 : decode cX11_ten 13 = .ok (.istore_n 1, 1) := by decide +kernel
theorem dX11_ten_14 : decode cX11_ten 14 = .ok (.iinc 2 1, 3) := by decide +kernel
theorem dX11_ten_17 : decode cX11_ten 17 = .ok (.goto (-13), 3) := by decide +kernel
theorem dX11_ten_20 : decode cX11_ten 20 = .ok (.iload_n 1, 1) := by decide +kernel
theorem dX11_ten_21 : decode cX11_ten 21 = .ok (.ireturn, 1) := by decide +kernel
theorem dX11_layRow_0 : decode cX11_layRow 0 = .ok (.iload_n 1, 1) := by decide +kernel
theorem dX11_layRow_1 : decode cX11_layRow 1 = .ok (.iconst 0, 1) := by decide +kernel
theorem dX11_layRow_2 : decode cX11_layRow 2 = .ok (.aload_n 0, 1) := by decide +kernel
theorem dX11_layRow_3 : decode cX11_layRow 3 = .ok (.getfield 269, 3) := by decide +kernel
theorem dX11_layRow_6 : decode cX11_layRow 6 = .ok (.invokestatic 433, 3) := by decide +kernel
theorem dX11_layRow_9 : decode cX11_layRow 9 = .ok (.iconst 1, 1) := by decide +kernel
theorem dX11_layRow_10 : decode cX11_layRow 10 = .ok (.isub, 1) := by decide +kernel
theorem dX11_layRow_11 : decode cX11_layRow 11 = .ok (.invokestatic 210, 3) := by decide +kernel
theorem dX11_layRow_14 : decode cX11_layRow 14 = .ok (.istore_n 2, 1) := by decide +kernel
theorem dX11_layRow_15 : decode cX11_layRow 15 = .ok (.iconst 0, 1) := by decide +kernel
theorem dX11_layRow_16 : decode cX11_layRow 16 = .ok (.istore_n 3, 1) := by decide +kernel
theorem dX11_layRow_17 : decode cX11_layRow 17 = .ok (.iload_n 3, 1) := by decide +kernel
theorem dX11_layRow_18 : decode cX11_layRow 18 = .ok (.aload_n 0, 1) := by decide +kernel
theorem dX11_layRow_19 : decode cX11_layRow 19 = .ok (.getfield 269, 3) := by decide +kernel
theorem dX11_layRow_22 : decode cX11_layRow 22 = .ok (.if_icmp .ge 62, 3) := by decide +kernel
theorem dX11_layRow_25 : decode cX11_layRow 25 = .ok (.aload_n 0, 1) := by decide +kernel
theorem dX11_layRow_26 : decode cX11_layRow 26 = .ok (.getfield 83, 3) := by decide +kernel
theorem dX11_layRow_29 : decode cX11_layRow 29 = .ok (.iload_n 3, 1) := by decide +kernel
theorem dX11_layRow_30 : decode cX11_layRow 30 = .ok (.iload_n 2, 1) := by decide +kernel
theorem dX11_layRow_31 : decode cX11_layRow 31 = .ok (.ifCond .eq 22, 3) := by decide +kernel
theorem dX11_layRow_34 : decode cX11_layRow 34 = .ok (.iload_n 1, 1) := by decide +kernel
theorem dX11_layRow_35 : decode cX11_layRow 35 = .ok (.aload_n 0, 1) := by decide +kernel
theorem dX11_layRow_36 : decode cX11_layRow 36 = .ok (.getfield 269, 3) := by decide +kernel
theorem dX11_layRow_39 : decode cX11_layRow 39 = .ok (.iconst 1, 1) := by decide +kernel
theorem dX11_layRow_40 : decode cX11_layRow 40 = .ok (.isub, 1) := by decide +kernel
theorem dX11_layRow_41 : decode cX11_layRow 41 = .ok (.iload_n 3, 1) := by decide +kernel
theorem dX11_layRow_42 : decode cX11_layRow 42 = .ok (.isub, 1) := by decide +kernel
theorem dX11_layRow_43 : decode cX11_layRow 43 = .ok (.invokestatic 433, 3) := by decide +kernel
theorem dX11_layRow_46 : decode cX11_layRow 46 = .ok (.idiv, 1) := by decide +kernel
theorem dX11_layRow_47 : decode cX11_layRow 47 = .ok (.bipush 10, 2) := by decide +kernel
theorem dX11_layRow_49 : decode cX11_layRow 49 = .ok (.irem, 1) := by decide +kernel
theorem dX11_layRow_50 : decode cX11_layRow 50 = .ok (.goto 4, 3) := by decide +kernel
theorem dX11_layRow_53 : decode cX11_layRow 53 = .ok (.iconst 0, 1) := by decide +kernel
theorem dX11_layRow_54 : decode cX11_layRow 54 = .ok (.iastore, 1) := by decide +kernel
theorem dX11_layRow_55 : decode cX11_layRow 55 = .ok (.iload_n 2, 1) := by decide +kernel
theorem dX11_layRow_56 : decode cX11_layRow 56 = .ok (.ifCond .eq 20, 3) := by decide +kernel
theorem dX11_layRow_59 : decode cX11_layRow 59 = .ok (.aload_n 0, 1) := by decide +kernel
theorem dX11_layRow_60 : decode cX11_layRow 60 = .ok (.aload_n 0, 1) := by decide +kernel
theorem dX11_layRow_61 : decode cX11_layRow 61 = .ok (.getfield 83, 3) := by decide +kernel
theorem dX11_layRow_64 : decode cX11_layRow 64 = .ok (.iload_n 3, 1) := by decide +kernel
theorem dX11_layRow_65 : decode cX11_layRow 65 = .ok (.iaload, 1) := by decide +kernel
theorem dX11_layRow_66 : decode cX11_layRow 66 = .ok (.invokevirtual 436, 3) := by decide +kernel
theorem dX11_layRow_69 : decode cX11_layRow 69 = .ok (.ifCond .eq 7, 3) := by decide +kernel
theorem dX11_layRow_72 : decode cX11_layRow 72 = .ok (.iconst 1, 1) := by decide +kernel
theorem dX11_layRow_73 : decode cX11_layRow 73 = .ok (.goto 4, 3) := by decide +kernel
theorem dX11_layRow_76 : decode cX11_layRow 76 = .ok (.iconst 0, 1) := by decide +kernel
theorem dX11_layRow_77 : decode cX11_layRow 77 = .ok (.istore_n 2, 1) := by decide +kernel
theorem dX11_layRow_78 : decode cX11_layRow 78 = .ok (.iinc 3 1, 3) := by decide +kernel
theorem dX11_layRow_81 : decode cX11_layRow 81 = .ok (.goto (-64), 3) := by decide +kernel
theorem dX11_layRow_84 : decode cX11_layRow 84 = .ok (.iload_n 2, 1) := by decide +kernel
theorem dX11_layRow_85 : decode cX11_layRow 85 = .ok (.ireturn, 1) := by decide +kernel
theorem dX11_share_0 : decode cX11_share 0 = .ok (.aload_n 0, 1) := by decide +kernel
theorem dX11_share_1 : decode cX11_share 1 = .ok (.iload_n 2, 1) := by decide +kernel
theorem dX11_share_2 : decode cX11_share 2 = .ok (.invokevirtual 300, 3) := by decide +kernel
theorem dX11_share_5 : decode cX11_share 5 = .ok (.ifCond .eq 27, 3) := by decide +kernel
theorem dX11_share_8 : decode cX11_share 8 = .ok (.aload_n 0, 1) := by decide +kernel
theorem dX11_share_9 : decode cX11_share 9 = .ok (.getfield 269, 3) := by decide +kernel
theorem dX11_share_12 : decode cX11_share 12 = .ok (.iconst 5, 1) := by decide +kernel
theorem dX11_share_13 : decode cX11_share 13 = .ok (.if_icmp .gt 19, 3) := by decide +kernel
theorem dX11_share_16 : decode cX11_share 16 = .ok (.aload_n 0, 1) := by decide +kernel
theorem dX11_share_17 : decode cX11_share 17 = .ok (.iload_n 1, 1) := by decide +kernel
theorem dX11_share_18 : decode cX11_share 18 = .ok (.invokevirtual 439, 3) := by decide +kernel
theorem dX11_share_21 : decode cX11_share 21 = .ok (.ifCond .eq 11, 3) := by decide +kernel
theorem dX11_share_24 : decode cX11_share 24 = .ok (.aload_n 0, 1) := by decide +kernel
theorem dX11_share_25 : decode cX11_share 25 = .ok (.iload_n 2, 1) := by decide +kernel
theorem dX11_share_26 : decode cX11_share 26 = .ok (.invokevirtual 442, 3) := by decide +kernel
theorem dX11_share_29 : decode cX11_share 29 = .ok (.goto 6, 3) := by decide +kernel
theorem dX11_share_32 : decode cX11_share 32 = .ok (.ldc_w 392, 3) := by decide +kernel
theorem dX11_share_35 : decode cX11_share 35 = .ok (.ireturn, 1) := by decide +kernel
theorem dX11_isRest_0 : decode cX11_isRest 0 = .ok (.iconst 0, 1) := by decide +kernel
theorem dX11_isRest_1 : decode cX11_isRest 1 = .ok (.istore_n 1, 1) := by decide +kernel
theorem dX11_isRest_2 : decode cX11_isRest 2 = .ok (.iload_n 1, 1) := by decide +kernel
theorem dX11_isRest_3 : decode cX11_isRest 3 = .ok (.aload_n 0, 1) := by decide +kernel
theorem dX11_isRest_4 : decode cX11_isRest 4 = .ok (.getfield 269, 3) := by decide +kernel
theorem dX11_isRest_7 : decode cX11_isRest 7 = .ok (.if_icmp .ge 95, 3) := by decide +kernel
theorem dX11_isRest_10 : decode cX11_isRest 10 = .ok (.aload_n 0, 1) := by decide +kernel
theorem dX11_isRest_11 : decode cX11_isRest 11 = .ok (.iload_n 1, 1) := by decide +kernel
theorem dX11_isRest_12 : decode cX11_isRest 12 = .ok (.invokevirtual 442, 3) := by decide +kernel
theorem dX11_isRest_15 : decode cX11_isRest 15 = .ok (.istore_n 2, 1) := by decide +kernel
theorem dX11_isRest_16 : decode cX11_isRest 16 = .ok (.aload_n 0, 1) := by decide +kernel
theorem dX11_isRest_17 : decode cX11_isRest 17 = .ok (.getfield 83, 3) := by decide +kernel
theorem dX11_isRest_20 : decode cX11_isRest 20 = .ok (.iload_n 1, 1) := by decide +kernel
theorem dX11_isRest_21 : decode cX11_isRest 21 = .ok (.iaload, 1) := by decide +kernel
theorem dX11_isRest_22 : decode cX11_isRest 22 = .ok (.istore_n 3, 1) := by decide +kernel
theorem dX11_isRest_23 : decode cX11_isRest 23 = .ok (.iconst 1, 1) := by decide +kernel
theorem dX11_isRest_24 : decode cX11_isRest 24 = .ok (.istore 4, 2) := by decide +kernel
theorem dX11_isRest_26 : decode cX11_isRest 26 = .ok (.iconst 0, 1) := by decide +kernel
theorem dX11_isRest_27 : decode cX11_isRest 27 = .ok (.istore 5, 2) := by decide +kernel
theorem dX11_isRest_29 : decode cX11_isRest 29 = .ok (.iload 5, 2) := by decide +kernel
theorem dX11_isRest_31 : decode cX11_isRest 31 = .ok (.aload_n 0, 1) := by decide +kernel
theorem dX11_isRest_32 : decode cX11_isRest 32 = .ok (.getfield 275, 3) := by decide +kernel
theorem dX11_isRest_35 : decode cX11_isRest 35 = .ok (.if_icmp .ge 47, 3) := by decide +kernel
theorem dX11_isRest_38 : decode cX11_isRest 38 = .ok (.aload_n 0, 1) := by decide +kernel
theorem dX11_isRest_39 : decode cX11_isRest 39 = .ok (.iload 5, 2) := by decide +kernel
theorem dX11_isRest_41 : decode cX11_isRest 41 = .ok (.invokevirtual 436, 3) := by decide +kernel
theorem dX11_isRest_44 : decode cX11_isRest 44 = .ok (.ifCond .eq 32, 3) := by decide +kernel
theorem dX11_isRest_47 : decode cX11_isRest 47 = .ok (.aload_n 0, 1) := by decide +kernel
theorem dX11_isRest_48 : decode cX11_isRest 48 = .ok (.getfield 83, 3) := by decide +kernel
theorem dX11_isRest_51 : decode cX11_isRest 51 = .ok (.iload_n 1, 1) := by decide +kernel
theorem dX11_isRest_52 : decode cX11_isRest 52 = .ok (.iload 5, 2) := by decide +kernel
theorem dX11_isRest_54 : decode cX11_isRest 54 = .ok (.iastore, 1) := by decide +kernel
theorem dX11_isRest_55 : decode cX11_isRest 55 = .ok (.iload 4, 2) := by decide +kernel
theorem dX11_isRest_57 : decode cX11_isRest 57 = .ok (.ifCond .eq 16, 3) := by decide +kernel
theorem dX11_isRest_60 : decode cX11_isRest 60 = .ok (.aload_n 0, 1) := by decide +kernel
theorem dX11_isRest_61 : decode cX11_isRest 61 = .ok (.iload_n 1, 1) := by decide +kernel
theorem dX11_isRest_62 : decode cX11_isRest 62 = .ok (.invokevirtual 442, 3) := by decide +kernel
theorem dX11_isRest_65 : decode cX11_isRest 65 = .ok (.iload_n 2, 1) := by decide +kernel
theorem dX11_isRest_66 : decode cX11_isRest 66 = .ok (.if_icmp .gt 7, 3) := by decide +kernel
theorem dX11_isRest_69 : decode cX11_isRest 69 = .ok (.iconst 1, 1) := by decide +kernel
theorem dX11_isRest_70 : decode cX11_isRest 70 = .ok (.goto 4, 3) := by decide +kernel
theorem dX11_isRest_73 : decode cX11_isRest 73 = .ok (.iconst 0, 1) := by decide +kernel
theorem dX11_isRest_74 : decode cX11_isRest 74 = .ok (.istore 4, 2) := by decide +kernel
theorem dX11_isRest_76 : decode cX11_isRest 76 = .ok (.iinc 5 1, 3) := by decide +kernel
theorem dX11_isRest_79 : decode cX11_isRest 79 = .ok (.goto (-50), 3) := by decide +kernel
theorem dX11_isRest_82 : decode cX11_isRest 82 = .ok (.aload_n 0, 1) := by decide +kernel
theorem dX11_isRest_83 : decode cX11_isRest 83 = .ok (.getfield 83, 3) := by decide +kernel
theorem dX11_isRest_86 : decode cX11_isRest 86 = .ok (.iload_n 1, 1) := by decide +kernel
theorem dX11_isRest_87 : decode cX11_isRest 87 = .ok (.iload_n 3, 1) := by decide +kernel
theorem dX11_isRest_88 : decode cX11_isRest 88 = .ok (.iastore, 1) := by decide +kernel
theorem dX11_isRest_89 : decode cX11_isRest 89 = .ok (.iload 4, 2) := by decide +kernel
theorem dX11_isRest_91 : decode cX11_isRest 91 = .ok (.ifCond .ne 5, 3) := by decide +kernel
theorem dX11_isRest_94 : decode cX11_isRest 94 = .ok (.iconst 0, 1) := by decide +kernel
theorem dX11_isRest_95 : decode cX11_isRest 95 = .ok (.ireturn, 1) := by decide +kernel
theorem dX11_isRest_96 : decode cX11_isRest 96 = .ok (.iinc 1 1, 3) := by decide +kernel
theorem dX11_isRest_99 : decode cX11_isRest 99 = .ok (.goto (-97), 3) := by decide +kernel
theorem dX11_isRest_102 : decode cX11_isRest 102 = .ok (.iconst 1, 1) := by decide +kernel
theorem dX11_isRest_103 : decode cX11_isRest 103 = .ok (.ireturn, 1) := by decide +kernel
theorem dX11_rests_0 : decode cX11_rests 0 = .ok (.aload_n 0, 1) := by decide +kernel
theorem dX11_rests_1 : decode cX11_rests 1 = .ok (.getfield 269, 3) := by decide +kernel
theorem dX11_rests_4 : decode cX11_rests 4 = .ok (.iconst 5, 1) := by decide +kernel
theorem dX11_rests_5 : decode cX11_rests 5 = .ok (.if_icmp .le 7, 3) := by decide +kernel
theorem dX11_rests_8 : decode cX11_rests 8 = .ok (.ldc_w 392, 3) := by decide +kernel
theorem dX11_rests_11 : decode cX11_rests 11 = .ok (.ireturn, 1) := by decide +kernel
theorem dX11_rests_12 : decode cX11_rests 12 = .ok (.aload_n 0, 1) := by decide +kernel
theorem dX11_rests_13 : decode cX11_rests 13 = .ok (.getfield 269, 3) := by decide +kernel
theorem dX11_rests_16 : decode cX11_rests 16 = .ok (.ifCond .eq 8, 3) := by decide +kernel
theorem dX11_rests_19 : decode cX11_rests 19 = .ok (.iload_n 1, 1) := by decide +kernel
theorem dX11_rests_20 : decode cX11_rests 20 = .ok (.iconst (-1), 1) := by decide +kernel
theorem dX11_rests_21 : decode cX11_rests 21 = .ok (.if_icmp .ge 5, 3) := by decide +kernel
theorem dX11_rests_24 : decode cX11_rests 24 = .ok (.iconst (-1), 1) := by decide +kernel
theorem dX11_rests_25 : decode cX11_rests 25 = .ok (.ireturn, 1) := by decide +kernel
theorem dX11_rests_26 : decode cX11_rests 26 = .ok (.iconst 0, 1) := by decide +kernel
theorem dX11_rests_27 : decode cX11_rests 27 = .ok (.istore_n 2, 1) := by decide +kernel
theorem dX11_rests_28 : decode cX11_rests 28 = .ok (.iconst 0, 1) := by decide +kernel
theorem dX11_rests_29 : decode cX11_rests 29 = .ok (.istore_n 3, 1) := by decide +kernel
theorem dX11_rests_30 : decode cX11_rests 30 = .ok (.iload_n 3, 1) := by decide +kernel
theorem dX11_rests_31 : decode cX11_rests 31 = .ok (.aload_n 0, 1) := by decide +kernel
theorem dX11_rests_32 : decode cX11_rests 32 = .ok (.getfield 269, 3) := by decide +kernel
theorem dX11_rests_35 : decode cX11_rests 35 = .ok (.invokestatic 433, 3) := by decide +kernel
theorem dX11_rests_38 : decode cX11_rests 38 = .ok (.if_icmp .ge 34, 3) := by decide +kernel
theorem dX11_rests_41 : decode cX11_rests 41 = .ok (.aload_n 0, 1) := by decide +kernel
theorem dX11_rests_42 : decode cX11_rests 42 = .ok (.iload_n 3, 1) := by decide +kernel
theorem dX11_rests_43 : decode cX11_rests 43 = .ok (.invokevirtual 439, 3) := by decide +kernel
theorem dX11_rests_46 : decode cX11_rests 46 = .ok (.ifCond .eq 20, 3) := by decide +kernel
theorem dX11_rests_49 : decode cX11_rests 49 = .ok (.aload_n 0, 1) := by decide +kernel
theorem dX11_rests_50 : decode cX11_rests 50 = .ok (.invokevirtual 445, 3) := by decide +kernel
theorem dX11_rests_53 : decode cX11_rests 53 = .ok (.ifCond .eq 13, 3) := by decide +kernel
theorem dX11_rests_56 : decode cX11_rests 56 = .ok (.iload_n 2, 1) := by decide +kernel
theorem dX11_rests_57 : decode cX11_rests 57 = .ok (.iload_n 1, 1) := by decide +kernel
theorem dX11_rests_58 : decode cX11_rests 58 = .ok (.if_icmp .ne 5, 3) := by decide +kernel
theorem dX11_rests_61 : decode cX11_rests 61 = .ok (.iload_n 3, 1) := by decide +kernel
theorem dX11_rests_62 : decode cX11_rests 62 = .ok (.ireturn, 1) := by decide +kernel
theorem dX11_rests_63 : decode cX11_rests 63 = .ok (.iinc 2 1, 3) := by decide +kernel
theorem dX11_rests_66 : decode cX11_rests 66 = .ok (.iinc 3 1, 3) := by decide +kernel
theorem dX11_rests_69 : decode cX11_rests 69 = .ok (.goto (-39), 3) := by decide +kernel
theorem dX11_rests_72 : decode cX11_rests 72 = .ok (.iload_n 1, 1) := by decide +kernel
theorem dX11_rests_73 : decode cX11_rests 73 = .ok (.iconst (-1), 1) := by decide +kernel
theorem dX11_rests_74 : decode cX11_rests 74 = .ok (.if_icmp .ne 7, 3) := by decide +kernel
theorem dX11_rests_77 : decode cX11_rests 77 = .ok (.iload_n 2, 1) := by decide +kernel
theorem dX11_rests_78 : decode cX11_rests 78 = .ok (.goto 4, 3) := by decide +kernel
theorem dX11_rests_81 : decode cX11_rests 81 = .ok (.iconst (-1), 1) := by decide +kernel
theorem dX11_rests_82 : decode cX11_rests 82 = .ok (.ireturn, 1) := by decide +kernel
theorem dX11_divisor_0 : decode cX11_divisor 0 = .ok (.iload_n 1, 1) := by decide +kernel
theorem dX11_divisor_1 : decode cX11_divisor 1 = .ok (.ifCond .ne 7, 3) := by decide +kernel
theorem dX11_divisor_4 : decode cX11_divisor 4 = .ok (.iload_n 0, 1) := by decide +kernel
theorem dX11_divisor_5 : decode cX11_divisor 5 = .ok (.goto 10, 3) := by decide +kernel
theorem dX11_divisor_8 : decode cX11_divisor 8 = .ok (.iload_n 1, 1) := by decide +kernel
theorem dX11_divisor_9 : decode cX11_divisor 9 = .ok (.iload_n 0, 1) := by decide +kernel
theorem dX11_divisor_10 : decode cX11_divisor 10 = .ok (.iload_n 1, 1) := by decide +kernel
theorem dX11_divisor_11 : decode cX11_divisor 11 = .ok (.irem, 1) := by decide +kernel
theorem dX11_divisor_12 : decode cX11_divisor 12 = .ok (.invokestatic 448, 3) := by decide +kernel
theorem dX11_divisor_15 : decode cX11_divisor 15 = .ok (.ireturn, 1) := by decide +kernel
theorem dX11_bribes_0 : decode cX11_bribes 0 = .ok (.iload_n 1, 1) := by decide +kernel
theorem dX11_bribes_1 : decode cX11_bribes 1 = .ok (.iconst 1, 1) := by decide +kernel
theorem dX11_bribes_2 : decode cX11_bribes 2 = .ok (.bipush 99, 2) := by decide +kernel
theorem dX11_bribes_4 : decode cX11_bribes 4 = .ok (.invokestatic 210, 3) := by decide +kernel
theorem dX11_bribes_7 : decode cX11_bribes 7 = .ok (.ifCond .eq 33, 3) := by decide +kernel
theorem dX11_bribes_10 : decode cX11_bribes 10 = .ok (.iload_n 2, 1) := by decide +kernel
theorem dX11_bribes_11 : decode cX11_bribes 11 = .ok (.iconst 1, 1) := by decide +kernel
theorem dX11_bribes_12 : decode cX11_bribes 12 = .ok (.bipush 99, 2) := by decide +kernel
theorem dX11_bribes_14 : decode cX11_bribes 14 = .ok (.invokestatic 210, 3) := by decide +kernel
theorem dX11_bribes_17 : decode cX11_bribes 17 = .ok (.ifCond .eq 23, 3) := by decide +kernel
theorem dX11_bribes_20 : decode cX11_bribes 20 = .ok (.iload_n 3, 1) := by decide +kernel
theorem dX11_bribes_21 : decode cX11_bribes 21 = .ok (.iconst 1, 1) := by decide +kernel
theorem dX11_bribes_22 : decode cX11_bribes 22 = .ok (.bipush 99, 2) := by decide +kernel
theorem dX11_bribes_24 : decode cX11_bribes 24 = .ok (.invokestatic 210, 3) := by decide +kernel
theorem dX11_bribes_27 : decode cX11_bribes 27 = .ok (.ifCond .eq 13, 3) := by decide +kernel
theorem dX11_bribes_30 : decode cX11_bribes 30 = .ok (.iload 4, 2) := by decide +kernel
theorem dX11_bribes_32 : decode cX11_bribes 32 = .ok (.iconst 0, 1) := by decide +kernel
theorem dX11_bribes_33 : decode cX11_bribes 33 = .ok (.iconst 3, 1) := by decide +kernel
theorem dX11_bribes_34 : decode cX11_bribes 34 = .ok (.invokestatic 210, 3) := by decide +kernel
theorem dX11_bribes_37 : decode cX11_bribes 37 = .ok (.ifCond .ne 5, 3) := by decide +kernel
theorem dX11_bribes_40 : decode cX11_bribes 40 = .ok (.iconst (-1), 1) := by decide +kernel
theorem dX11_bribes_41 : decode cX11_bribes 41 = .ok (.ireturn, 1) := by decide +kernel
theorem dX11_bribes_42 : decode cX11_bribes 42 = .ok (.iload_n 3, 1) := by decide +kernel
theorem dX11_bribes_43 : decode cX11_bribes 43 = .ok (.iload_n 2, 1) := by decide +kernel
theorem dX11_bribes_44 : decode cX11_bribes 44 = .ok (.if_icmp .lt 15, 3) := by decide +kernel
theorem dX11_bribes_47 : decode cX11_bribes 47 = .ok (.iload 4, 2) := by decide +kernel
theorem dX11_bribes_49 : decode cX11_bribes 49 = .ok (.iconst 2, 1) := by decide +kernel
theorem dX11_bribes_50 : decode cX11_bribes 50 = .ok (.if_icmp .ne 7, 3) := by decide +kernel
theorem dX11_bribes_53 : decode cX11_bribes 53 = .ok (.iconst 0, 1) := by decide +kernel
theorem dX11_bribes_54 : decode cX11_bribes 54 = .ok (.goto 4, 3) := by decide +kernel
theorem dX11_bribes_57 : decode cX11_bribes 57 = .ok (.iconst 1, 1) := by decide +kernel
theorem dX11_bribes_58 : decode cX11_bribes 58 = .ok (.ireturn, 1) := by decide +kernel
theorem dX11_bribes_59 : decode cX11_bribes 59 = .ok (.iload 4, 2) := by decide +kernel
theorem dX11_bribes_61 : decode cX11_bribes 61 = .ok (.iconst 2, 1) := by decide +kernel
theorem dX11_bribes_62 : decode cX11_bribes 62 = .ok (.if_icmp .ge 11, 3) := by decide +kernel
theorem dX11_bribes_65 : decode cX11_bribes 65 = .ok (.iload_n 3, 1) := by decide +kernel
theorem dX11_bribes_66 : decode cX11_bribes 66 = .ok (.iload_n 2, 1) := by decide +kernel
theorem dX11_bribes_67 : decode cX11_bribes 67 = .ok (.invokestatic 448, 3) := by decide +kernel
theorem dX11_bribes_70 : decode cX11_bribes 70 = .ok (.goto 10, 3) := by decide +kernel
theorem dX11_bribes_73 : decode cX11_bribes 73 = .ok (.iload_n 1, 1) := by decide +kernel
theorem dX11_bribes_74 : decode cX11_bribes 74 = .ok (.iload_n 1, 1) := by decide +kernel
theorem dX11_bribes_75 : decode cX11_bribes 75 = .ok (.iload_n 2, 1) := by decide +kernel
theorem dX11_bribes_76 : decode cX11_bribes 76 = .ok (.iadd, 1) := by decide +kernel
theorem dX11_bribes_77 : decode cX11_bribes 77 = .ok (.invokestatic 448, 3) := by decide +kernel
theorem dX11_bribes_80 : decode cX11_bribes 80 = .ok (.istore 5, 2) := by decide +kernel
theorem dX11_bribes_82 : decode cX11_bribes 82 = .ok (.iload 4, 2) := by decide +kernel
theorem dX11_bribes_84 : decode cX11_bribes 84 = .ok (.ifCond .ne 10, 3) := by decide +kernel
theorem dX11_bribes_87 : decode cX11_bribes 87 = .ok (.iload_n 3, 1) := by decide +kernel
theorem dX11_bribes_88 : decode cX11_bribes 88 = .ok (.iload 5, 2) := by decide +kernel
theorem dX11_bribes_90 : decode cX11_bribes 90 = .ok (.idiv, 1) := by decide +kernel
theorem dX11_bribes_91 : decode cX11_bribes 91 = .ok (.goto 35, 3) := by decide +kernel
theorem dX11_bribes_94 : decode cX11_bribes 94 = .ok (.iload 4, 2) := by decide +kernel
theorem dX11_bribes_96 : decode cX11_bribes 96 = .ok (.iconst 1, 1) := by decide +kernel
theorem dX11_bribes_97 : decode cX11_bribes 97 = .ok (.if_icmp .ne 10, 3) := by decide +kernel
theorem dX11_bribes_100 : decode cX11_bribes 100 = .ok (.iload_n 2, 1) := by decide +kernel
theorem dX11_bribes_101 : decode cX11_bribes 101 = .ok (.iload 5, 2) := by decide +kernel
theorem dX11_bribes_103 : decode cX11_bribes 103 = .ok (.idiv, 1) := by decide +kernel
theorem dX11_bribes_104 : decode cX11_bribes 104 = .ok (.goto 22, 3) := by decide +kernel
theorem dX11_bribes_107 : decode cX11_bribes 107 = .ok (.iload 4, 2) := by decide +kernel
theorem dX11_bribes_109 : decode cX11_bribes 109 = .ok (.iconst 2, 1) := by decide +kernel
theorem dX11_bribes_110 : decode cX11_bribes 110 = .ok (.if_icmp .ne 10, 3) := by decide +kernel
theorem dX11_bribes_113 : decode cX11_bribes 113 = .ok (.iload_n 1, 1) := by decide +kernel
theorem dX11_bribes_114 : decode cX11_bribes 114 = .ok (.iload 5, 2) := by decide +kernel
theorem dX11_bribes_116 : decode cX11_bribes 116 = .ok (.idiv, 1) := by decide +kernel
theorem dX11_bribes_117 : decode cX11_bribes 117 = .ok (.goto 9, 3) := by decide +kernel
theorem dX11_bribes_120 : decode cX11_bribes 120 = .ok (.iload_n 1, 1) := by decide +kernel
theorem dX11_bribes_121 : decode cX11_bribes 121 = .ok (.iload_n 2, 1) := by decide +kernel
theorem dX11_bribes_122 : decode cX11_bribes 122 = .ok (.iadd, 1) := by decide +kernel
theorem dX11_bribes_123 : decode cX11_bribes 123 = .ok (.iload 5, 2) := by decide +kernel
theorem dX11_bribes_125 : decode cX11_bribes 125 = .ok (.idiv, 1) := by decide +kernel
theorem dX11_bribes_126 : decode cX11_bribes 126 = .ok (.ireturn, 1) := by decide +kernel
theorem dX11_see_0 : decode cX11_see 0 = .ok (.aload_n 0, 1) := by decide +kernel
theorem dX11_see_1 : decode cX11_see 1 = .ok (.iload_n 1, 1) := by decide +kernel
theorem dX11_see_2 : decode cX11_see 2 = .ok (.invokevirtual 300, 3) := by decide +kernel
theorem dX11_see_5 : decode cX11_see 5 = .ok (.ifCond .eq 22, 3) := by decide +kernel
theorem dX11_see_8 : decode cX11_see 8 = .ok (.iload_n 2, 1) := by decide +kernel
theorem dX11_see_9 : decode cX11_see 9 = .ok (.iconst 0, 1) := by decide +kernel
theorem dX11_see_10 : decode cX11_see 10 = .ok (.bipush 24, 2) := by decide +kernel
theorem dX11_see_12 : decode cX11_see 12 = .ok (.invokestatic 210, 3) := by decide +kernel
theorem dX11_see_15 : decode cX11_see 15 = .ok (.ifCond .eq 12, 3) := by decide +kernel
theorem dX11_see_18 : decode cX11_see 18 = .ok (.aload_n 0, 1) := by decide +kernel
theorem dX11_see_19 : decode cX11_see 19 = .ok (.getfield 281, 3) := by decide +kernel
theorem dX11_see_22 : decode cX11_see 22 = .ok (.bipush 12, 2) := by decide +kernel
theorem dX11_see_24 : decode cX11_see 24 = .ok (.if_icmp .ne 5, 3) := by decide +kernel
theorem dX11_see_27 : decode cX11_see 27 = .ok (.iconst (-1), 1) := by decide +kernel
theorem dX11_see_28 : decode cX11_see 28 = .ok (.ireturn, 1) := by decide +kernel
theorem dX11_see_29 : decode cX11_see 29 = .ok (.aload_n 0, 1) := by decide +kernel
theorem dX11_see_30 : decode cX11_see 30 = .ok (.getfield 86, 3) := by decide +kernel
theorem dX11_see_33 : decode cX11_see 33 = .ok (.aload_n 0, 1) := by decide +kernel
theorem dX11_see_34 : decode cX11_see 34 = .ok (.getfield 281, 3) := by decide +kernel
theorem dX11_see_37 : decode cX11_see 37 = .ok (.iload_n 1, 1) := by decide +kernel
theorem dX11_see_38 : decode cX11_see 38 = .ok (.iastore, 1) := by decide +kernel
theorem dX11_see_39 : decode cX11_see 39 = .ok (.aload_n 0, 1) := by decide +kernel
theorem dX11_see_40 : decode cX11_see 40 = .ok (.getfield 89, 3) := by decide +kernel
theorem dX11_see_43 : decode cX11_see 43 = .ok (.aload_n 0, 1) := by decide +kernel
theorem dX11_see_44 : decode cX11_see 44 = .ok (.getfield 281, 3) := by decide +kernel
theorem dX11_see_47 : decode cX11_see 47 = .ok (.iload_n 2, 1) := by decide +kernel
theorem dX11_see_48 : decode cX11_see 48 = .ok (.iastore, 1) := by decide +kernel
theorem dX11_see_49 : decode cX11_see 49 = .ok (.aload_n 0, 1) := by decide +kernel
theorem dX11_see_50 : decode cX11_see 50 = .ok (.dup, 1) := by decide +kernel
theorem dX11_see_51 : decode cX11_see 51 = .ok (.getfield 281, 3) := by decide +kernel
theorem dX11_see_54 : decode cX11_see 54 = .ok (.iconst 1, 1) := by decide +kernel
theorem dX11_see_55 : decode cX11_see 55 = .ok (.iadd, 1) := by decide +kernel
theorem dX11_see_56 : decode cX11_see 56 = .ok (.putfield 281, 3) := by decide +kernel
theorem dX11_see_59 : decode cX11_see 59 = .ok (.aload_n 0, 1) := by decide +kernel
theorem dX11_see_60 : decode cX11_see 60 = .ok (.getfield 281, 3) := by decide +kernel
theorem dX11_see_63 : decode cX11_see 63 = .ok (.ireturn, 1) := by decide +kernel
theorem dX11_falseBy_0 : decode cX11_falseBy 0 = .ok (.iconst 0, 1) := by decide +kernel
theorem dX11_falseBy_1 : decode cX11_falseBy 1 = .ok (.istore_n 2, 1) := by decide +kernel
theorem dX11_falseBy_2 : decode cX11_falseBy 2 = .ok (.iconst 0, 1) := by decide +kernel
theorem dX11_falseBy_3 : decode cX11_falseBy 3 = .ok (.istore_n 3, 1) := by decide +kernel
theorem dX11_falseBy_4 : decode cX11_falseBy 4 = .ok (.iload_n 3, 1) := by decide +kernel
theorem dX11_falseBy_5 : decode cX11_falseBy 5 = .ok (.aload_n 0, 1) := by decide +kernel
theorem dX11_falseBy_6 : decode cX11_falseBy 6 = .ok (.getfield 281, 3) := by decide +kernel
theorem dX11_falseBy_9 : decode cX11_falseBy 9 = .ok (.if_icmp .ge 37, 3) := by decide +kernel
theorem dX11_falseBy_12 : decode cX11_falseBy 12 = .ok (.iload_n 2, 1) := by decide +kernel
theorem dX11_falseBy_13 : decode cX11_falseBy 13 = .ok (.aload_n 0, 1) := by decide +kernel
theorem dX11_falseBy_14 : decode cX11_falseBy 14 = .ok (.aload_n 0, 1) := by decide +kernel
theorem dX11_falseBy_15 : decode cX11_falseBy 15 = .ok (.getfield 86, 3) := by decide +kernel
theorem dX11_falseBy_18 : decode cX11_falseBy 18 = .ok (.iload_n 3, 1) := by decide +kernel
theorem dX11_falseBy_19 : decode cX11_falseBy 19 = .ok (.iaload, 1) := by decide +kernel
theorem dX11_falseBy_20 : decode cX11_falseBy 20 = .ok (.iload_n 1, 1) := by decide +kernel
theorem dX11_falseBy_21 : decode cX11_falseBy 21 = .ok (.invokevirtual 356, 3) := by decide +kernel
theorem dX11_falseBy_24 : decode cX11_falseBy 24 = .ok (.aload_n 0, 1) := by decide +kernel
theorem dX11_falseBy_25 : decode cX11_falseBy 25 = .ok (.getfield 89, 3) := by decide +kernel
theorem dX11_falseBy_28 : decode cX11_falseBy 28 = .ok (.iload_n 3, 1) := by decide +kernel
theorem dX11_falseBy_29 : decode cX11_falseBy 29 = .ok (.iaload, 1) := by decide +kernel
theorem dX11_falseBy_30 : decode cX11_falseBy 30 = .ok (.if_icmp .ne 7, 3) := by decide +kernel
theorem dX11_falseBy_33 : decode cX11_falseBy 33 = .ok (.iconst 0, 1) := by decide +kernel
theorem dX11_falseBy_34 : decode cX11_falseBy 34 = .ok (.goto 4, 3) := by decide +kernel
theorem dX11_falseBy_37 : decode cX11_falseBy 37 = .ok (.iconst 1, 1) := by decide +kernel
theorem dX11_falseBy_38 : decode cX11_falseBy 38 = .ok (.iadd, 1) := by decide +kernel
theorem dX11_falseBy_39 : decode cX11_falseBy 39 = .ok (.istore_n 2, 1) := by decide +kernel
theorem dX11_falseBy_40 : decode cX11_falseBy 40 = .ok (.iinc 3 1, 3) := by decide +kernel
theorem dX11_falseBy_43 : decode cX11_falseBy 43 = .ok (.goto (-39), 3) := by decide +kernel
theorem dX11_falseBy_46 : decode cX11_falseBy 46 = .ok (.iload_n 2, 1) := by decide +kernel
theorem dX11_falseBy_47 : decode cX11_falseBy 47 = .ok (.ireturn, 1) := by decide +kernel
theorem dX11_could_0 : decode cX11_could 0 = .ok (.aload_n 0, 1) := by decide +kernel
theorem dX11_could_1 : decode cX11_could 1 = .ok (.getfield 269, 3) := by decide +kernel
theorem dX11_could_4 : decode cX11_could 4 = .ok (.ifCond .eq 8, 3) := by decide +kernel
theorem dX11_could_7 : decode cX11_could 7 = .ok (.iload_n 1, 1) := by decide +kernel
theorem dX11_could_8 : decode cX11_could 8 = .ok (.iconst (-1), 1) := by decide +kernel
theorem dX11_could_9 : decode cX11_could 9 = .ok (.if_icmp .ge 5, 3) := by decide +kernel
theorem dX11_could_12 : decode cX11_could 12 = .ok (.iconst (-1), 1) := by decide +kernel
theorem dX11_could_13 : decode cX11_could 13 = .ok (.ireturn, 1) := by decide +kernel
theorem dX11_could_14 : decode cX11_could 14 = .ok (.iconst 0, 1) := by decide +kernel
theorem dX11_could_15 : decode cX11_could 15 = .ok (.istore_n 2, 1) := by decide +kernel
theorem dX11_could_16 : decode cX11_could 16 = .ok (.iconst 0, 1) := by decide +kernel
theorem dX11_could_17 : decode cX11_could 17 = .ok (.istore_n 3, 1) := by decide +kernel
theorem dX11_could_18 : decode cX11_could 18 = .ok (.iload_n 3, 1) := by decide +kernel
theorem dX11_could_19 : decode cX11_could 19 = .ok (.iconst 1, 1) := by decide +kernel
theorem dX11_could_20 : decode cX11_could 20 = .ok (.aload_n 0, 1) := by decide +kernel
theorem dX11_could_21 : decode cX11_could 21 = .ok (.getfield 269, 3) := by decide +kernel
theorem dX11_could_24 : decode cX11_could 24 = .ok (.ishl, 1) := by decide +kernel
theorem dX11_could_25 : decode cX11_could 25 = .ok (.if_icmp .ge 27, 3) := by decide +kernel
theorem dX11_could_28 : decode cX11_could 28 = .ok (.aload_n 0, 1) := by decide +kernel
theorem dX11_could_29 : decode cX11_could 29 = .ok (.iload_n 3, 1) := by decide +kernel
theorem dX11_could_30 : decode cX11_could 30 = .ok (.invokevirtual 451, 3) := by decide +kernel
theorem dX11_could_33 : decode cX11_could 33 = .ok (.ifCond .ne 13, 3) := by decide +kernel
theorem dX11_could_36 : decode cX11_could 36 = .ok (.iload_n 2, 1) := by decide +kernel
theorem dX11_could_37 : decode cX11_could 37 = .ok (.iload_n 1, 1) := by decide +kernel
theorem dX11_could_38 : decode cX11_could 38 = .ok (.if_icmp .ne 5, 3) := by decide +kernel
theorem dX11_could_41 : decode cX11_could 41 = .ok (.iload_n 3, 1) := by decide +kernel
theorem dX11_could_42 : decode cX11_could 42 = .ok (.ireturn, 1) := by decide +kernel
theorem dX11_could_43 : decode cX11_could 43 = .ok (.iinc 2 1, 3) := by decide +kernel
theorem dX11_could_46 : decode cX11_could 46 = .ok (.iinc 3 1, 3) := by decide +kernel
theorem dX11_could_49 : decode cX11_could 49 = .ok (.goto (-31), 3) := by decide +kernel
theorem dX11_could_52 : decode cX11_could 52 = .ok (.iload_n 1, 1) := by decide +kernel
theorem dX11_could_53 : decode cX11_could 53 = .ok (.iconst (-1), 1) := by decide +kernel
theorem dX11_could_54 : decode cX11_could 54 = .ok (.if_icmp .ne 7, 3) := by decide +kernel
theorem dX11_could_57 : decode cX11_could 57 = .ok (.iload_n 2, 1) := by decide +kernel
theorem dX11_could_58 : decode cX11_could 58 = .ok (.goto 4, 3) := by decide +kernel
theorem dX11_could_61 : decode cX11_could 61 = .ok (.iconst (-1), 1) := by decide +kernel
theorem dX11_could_62 : decode cX11_could 62 = .ok (.ireturn, 1) := by decide +kernel
theorem dX11_sure_0 : decode cX11_sure 0 = .ok (.iconst (-1), 1) := by decide +kernel
theorem dX11_sure_1 : decode cX11_sure 1 = .ok (.istore_n 1, 1) := by decide +kernel
theorem dX11_sure_2 : decode cX11_sure 2 = .ok (.iconst 0, 1) := by decide +kernel
theorem dX11_sure_3 : decode cX11_sure 3 = .ok (.istore_n 2, 1) := by decide +kernel
theorem dX11_sure_4 : decode cX11_sure 4 = .ok (.aload_n 0, 1) := by decide +kernel
theorem dX11_sure_5 : decode cX11_sure 5 = .ok (.getfield 269, 3) := by decide +kernel
theorem dX11_sure_8 : decode cX11_sure 8 = .ok (.ifCond .le 44, 3) := by decide +kernel
theorem dX11_sure_11 : decode cX11_sure 11 = .ok (.iload_n 2, 1) := by decide +kernel
theorem dX11_sure_12 : decode cX11_sure 12 = .ok (.iconst 1, 1) := by decide +kernel
theorem dX11_sure_13 : decode cX11_sure 13 = .ok (.aload_n 0, 1) := by decide +kernel
theorem dX11_sure_14 : decode cX11_sure 14 = .ok (.getfield 269, 3) := by decide +kernel
theorem dX11_sure_17 : decode cX11_sure 17 = .ok (.ishl, 1) := by decide +kernel
theorem dX11_sure_18 : decode cX11_sure 18 = .ok (.if_icmp .ge 34, 3) := by decide +kernel
theorem dX11_sure_21 : decode cX11_sure 21 = .ok (.aload_n 0, 1) := by decide +kernel
theorem dX11_sure_22 : decode cX11_sure 22 = .ok (.iload_n 2, 1) := by decide +kernel
theorem dX11_sure_23 : decode cX11_sure 23 = .ok (.invokevirtual 451, 3) := by decide +kernel
theorem dX11_sure_26 : decode cX11_sure 26 = .ok (.ifCond .le 7, 3) := by decide +kernel
theorem dX11_sure_29 : decode cX11_sure 29 = .ok (.iload_n 1, 1) := by decide +kernel
theorem dX11_sure_30 : decode cX11_sure 30 = .ok (.goto 15, 3) := by decide +kernel
theorem dX11_sure_33 : decode cX11_sure 33 = .ok (.iload_n 1, 1) := by decide +kernel
theorem dX11_sure_34 : decode cX11_sure 34 = .ok (.iconst (-1), 1) := by decide +kernel
theorem dX11_sure_35 : decode cX11_sure 35 = .ok (.if_icmp .ne 7, 3) := by decide +kernel
theorem dX11_sure_38 : decode cX11_sure 38 = .ok (.iload_n 2, 1) := by decide +kernel
theorem dX11_sure_39 : decode cX11_sure 39 = .ok (.goto 6, 3) := by decide +kernel
theorem dX11_sure_42 : decode cX11_sure 42 = .ok (.iload_n 1, 1) := by decide +kernel
theorem dX11_sure_43 : decode cX11_sure 43 = .ok (.iload_n 2, 1) := by decide +kernel
theorem dX11_sure_44 : decode cX11_sure 44 = .ok (.iand, 1) := by decide +kernel
theorem dX11_sure_45 : decode cX11_sure 45 = .ok (.istore_n 1, 1) := by decide +kernel
theorem dX11_sure_46 : decode cX11_sure 46 = .ok (.iinc 2 1, 3) := by decide +kernel
theorem dX11_sure_49 : decode cX11_sure 49 = .ok (.goto (-45), 3) := by decide +kernel
theorem dX11_sure_52 : decode cX11_sure 52 = .ok (.iload_n 1, 1) := by decide +kernel
theorem dX11_sure_53 : decode cX11_sure 53 = .ok (.ireturn, 1) := by decide +kernel
theorem dX11_wrong_0 : decode cX11_wrong 0 = .ok (.aload_n 0, 1) := by decide +kernel
theorem dX11_wrong_1 : decode cX11_wrong 1 = .ok (.getfield 269, 3) := by decide +kernel
theorem dX11_wrong_4 : decode cX11_wrong 4 = .ok (.ifCond .ne 5, 3) := by decide +kernel
theorem dX11_wrong_7 : decode cX11_wrong 7 = .ok (.iconst (-1), 1) := by decide +kernel
theorem dX11_wrong_8 : decode cX11_wrong 8 = .ok (.ireturn, 1) := by decide +kernel
theorem dX11_wrong_9 : decode cX11_wrong 9 = .ok (.aload_n 0, 1) := by decide +kernel
theorem dX11_wrong_10 : decode cX11_wrong 10 = .ok (.getfield 281, 3) := by decide +kernel
theorem dX11_wrong_13 : decode cX11_wrong 13 = .ok (.istore_n 1, 1) := by decide +kernel
theorem dX11_wrong_14 : decode cX11_wrong 14 = .ok (.iconst 0, 1) := by decide +kernel
theorem dX11_wrong_15 : decode cX11_wrong 15 = .ok (.istore_n 2, 1) := by decide +kernel
theorem dX11_wrong_16 : decode cX11_wrong 16 = .ok (.iload_n 2, 1) := by decide +kernel
theorem dX11_wrong_17 : decode cX11_wrong 17 = .ok (.iconst 1, 1) := by decide +kernel
theorem dX11_wrong_18 : decode cX11_wrong 18 = .ok (.aload_n 0, 1) := by decide +kernel
theorem dX11_wrong_19 : decode cX11_wrong 19 = .ok (.getfield 269, 3) := by decide +kernel
theorem dX11_wrong_22 : decode cX11_wrong 22 = .ok (.ishl, 1) := by decide +kernel
theorem dX11_wrong_23 : decode cX11_wrong 23 = .ok (.if_icmp .ge 19, 3) := by decide +kernel
theorem dX11_wrong_26 : decode cX11_wrong 26 = .ok (.iload_n 1, 1) := by decide +kernel
theorem dX11_wrong_27 : decode cX11_wrong 27 = .ok (.aload_n 0, 1) := by decide +kernel
theorem dX11_wrong_28 : decode cX11_wrong 28 = .ok (.iload_n 2, 1) := by decide +kernel
theorem dX11_wrong_29 : decode cX11_wrong 29 = .ok (.invokevirtual 451, 3) := by decide +kernel
theorem dX11_wrong_32 : decode cX11_wrong 32 = .ok (.invokestatic 348, 3) := by decide +kernel
theorem dX11_wrong_35 : decode cX11_wrong 35 = .ok (.istore_n 1, 1) := by decide +kernel
theorem dX11_wrong_36 : decode cX11_wrong 36 = .ok (.iinc 2 1, 3) := by decide +kernel
theorem dX11_wrong_39 : decode cX11_wrong 39 = .ok (.goto (-23), 3) := by decide +kernel
theorem dX11_wrong_42 : decode cX11_wrong 42 = .ok (.iload_n 1, 1) := by decide +kernel
theorem dX11_wrong_43 : decode cX11_wrong 43 = .ok (.ireturn, 1) := by decide +kernel
theorem dX11_works_0 : decode cX11_works 0 = .ok (.aload_n 0, 1) := by decide +kernel
theorem dX11_works_1 : decode cX11_works 1 = .ok (.getfield 269, 3) := by decide +kernel
theorem dX11_works_4 : decode cX11_works 4 = .ok (.ifCond .eq 33, 3) := by decide +kernel
theorem dX11_works_7 : decode cX11_works 7 = .ok (.iload_n 1, 1) := by decide +kernel
theorem dX11_works_8 : decode cX11_works 8 = .ok (.iconst 1, 1) := by decide +kernel
theorem dX11_works_9 : decode cX11_works 9 = .ok (.bipush 9, 2) := by decide +kernel
theorem dX11_works_11 : decode cX11_works 11 = .ok (.invokestatic 210, 3) := by decide +kernel
theorem dX11_works_14 : decode cX11_works 14 = .ok (.ifCond .eq 23, 3) := by decide +kernel
theorem dX11_works_17 : decode cX11_works 17 = .ok (.iload_n 2, 1) := by decide +kernel
theorem dX11_works_18 : decode cX11_works 18 = .ok (.iconst 0, 1) := by decide +kernel
theorem dX11_works_19 : decode cX11_works 19 = .ok (.iconst 1, 1) := by decide +kernel
theorem dX11_works_20 : decode cX11_works 20 = .ok (.invokestatic 210, 3) := by decide +kernel
theorem dX11_works_23 : decode cX11_works 23 = .ok (.ifCond .eq 14, 3) := by decide +kernel
theorem dX11_works_26 : decode cX11_works 26 = .ok (.aload_n 0, 1) := by decide +kernel
theorem dX11_works_27 : decode cX11_works 27 = .ok (.getfield 70, 3) := by decide +kernel
theorem dX11_works_30 : decode cX11_works 30 = .ok (.bipush 44, 2) := by decide +kernel
theorem dX11_works_32 : decode cX11_works 32 = .ok (.iaload, 1) := by decide +kernel
theorem dX11_works_33 : decode cX11_works 33 = .ok (.iload_n 1, 1) := by decide +kernel
theorem dX11_works_34 : decode cX11_works 34 = .ok (.if_icmp .ge 5, 3) := by decide +kernel
theorem dX11_works_37 : decode cX11_works 37 = .ok (.iconst (-1), 1) := by decide +kernel
theorem dX11_works_38 : decode cX11_works 38 = .ok (.ireturn, 1) := by decide +kernel
theorem dX11_works_39 : decode cX11_works 39 = .ok (.iconst (-1), 1) := by decide +kernel
theorem dX11_works_40 : decode cX11_works 40 = .ok (.istore_n 3, 1) := by decide +kernel
theorem dX11_works_41 : decode cX11_works 41 = .ok (.iconst (-1), 1) := by decide +kernel
theorem dX11_works_42 : decode cX11_works 42 = .ok (.istore 4, 2) := by decide +kernel
theorem dX11_works_44 : decode cX11_works 44 = .ok (.iconst 0, 1) := by decide +kernel
theorem dX11_works_45 : decode cX11_works 45 = .ok (.istore 5, 2) := by decide +kernel
theorem dX11_works_47 : decode cX11_works 47 = .ok (.iload 5, 2) := by decide +kernel
theorem dX11_works_49 : decode cX11_works 49 = .ok (.iload_n 1, 1) := by decide +kernel
theorem dX11_works_50 : decode cX11_works 50 = .ok (.iadd, 1) := by decide +kernel
theorem dX11_works_51 : decode cX11_works 51 = .ok (.aload_n 0, 1) := by decide +kernel
theorem dX11_works_52 : decode cX11_works 52 = .ok (.getfield 70, 3) := by decide +kernel
theorem dX11_works_55 : decode cX11_works 55 = .ok (.bipush 44, 2) := by decide +kernel
theorem dX11_works_57 : decode cX11_works 57 = .ok (.iaload, 1) := by decide +kernel
theorem dX11_works_58 : decode cX11_works 58 = .ok (.if_icmp .gt 72, 3) := by decide +kernel
theorem dX11_works_61 : decode cX11_works 61 = .ok (.iconst 0, 1) := by decide +kernel
theorem dX11_works_62 : decode cX11_works 62 = .ok (.istore 6, 2) := by decide +kernel
theorem dX11_works_64 : decode cX11_works 64 = .ok (.iconst 0, 1) := by decide +kernel
theorem dX11_works_65 : decode cX11_works 65 = .ok (.istore 7, 2) := by decide +kernel
theorem dX11_works_67 : decode cX11_works 67 = .ok (.iload 7, 2) := by decide +kernel
theorem dX11_works_69 : decode cX11_works 69 = .ok (.iload_n 1, 1) := by decide +kernel
theorem dX11_works_70 : decode cX11_works 70 = .ok (.if_icmp .ge 31, 3) := by decide +kernel
theorem dX11_works_73 : decode cX11_works 73 = .ok (.iload 6, 2) := by decide +kernel
theorem dX11_works_75 : decode cX11_works 75 = .ok (.aload_n 0, 1) := by decide +kernel
theorem dX11_works_76 : decode cX11_works 76 = .ok (.getfield 70, 3) := by decide +kernel
theorem dX11_works_79 : decode cX11_works 79 = .ok (.bipush 45, 2) := by decide +kernel
theorem dX11_works_81 : decode cX11_works 81 = .ok (.iconst 2, 1) := by decide +kernel
theorem dX11_works_82 : decode cX11_works 82 = .ok (.iload 5, 2) := by decide +kernel
theorem dX11_works_84 : decode cX11_works 84 = .ok (.iload 7, 2) := by decide +kernel
theorem dX11_works_86 : decode cX11_works 86 = .ok (.iadd, 1) := by decide +kernel
theorem dX11_works_87 : decode cX11_works 87 = .ok (.imul, 1) := by decide +kernel
theorem dX11_works_88 : decode cX11_works 88 = .ok (.iadd, 1) := by decide +kernel
theorem dX11_works_89 : decode cX11_works 89 = .ok (.iconst 1, 1) := by decide +kernel
theorem dX11_works_90 : decode cX11_works 90 = .ok (.iadd, 1) := by decide +kernel
theorem dX11_works_91 : decode cX11_works 91 = .ok (.iaload, 1) := by decide +kernel
theorem dX11_works_92 : decode cX11_works 92 = .ok (.iadd, 1) := by decide +kernel
theorem dX11_works_93 : decode cX11_works 93 = .ok (.istore 6, 2) := by decide +kernel
theorem dX11_works_95 : decode cX11_works 95 = .ok (.iinc 7 1, 3) := by decide +kernel
theorem dX11_works_98 : decode cX11_works 98 = .ok (.goto (-31), 3) := by decide +kernel
theorem dX11_works_101 : decode cX11_works 101 = .ok (.iload 6, 2) := by decide +kernel
theorem dX11_works_103 : decode cX11_works 103 = .ok (.iload 4, 2) := by decide +kernel
theorem dX11_works_105 : decode cX11_works 105 = .ok (.if_icmp .le 8, 3) := by decide +kernel
theorem dX11_works_108 : decode cX11_works 108 = .ok (.iload 5, 2) := by decide +kernel
theorem dX11_works_110 : decode cX11_works 110 = .ok (.goto 4, 3) := by decide +kernel
theorem dX11_works_113 : decode cX11_works 113 = .ok (.iload_n 3, 1) := by decide +kernel
theorem dX11_works_114 : decode cX11_works 114 = .ok (.istore_n 3, 1) := by decide +kernel
theorem dX11_works_115 : decode cX11_works 115 = .ok (.iload 4, 2) := by decide +kernel
theorem dX11_works_117 : decode cX11_works 117 = .ok (.iload 6, 2) := by decide +kernel
theorem dX11_works_119 : decode cX11_works 119 = .ok (.invokestatic 454, 3) := by decide +kernel
theorem dX11_works_122 : decode cX11_works 122 = .ok (.istore 4, 2) := by decide +kernel
theorem dX11_works_124 : decode cX11_works 124 = .ok (.iinc 5 1, 3) := by decide +kernel
theorem dX11_works_127 : decode cX11_works 127 = .ok (.goto (-80), 3) := by decide +kernel
theorem dX11_works_130 : decode cX11_works 130 = .ok (.iload_n 2, 1) := by decide +kernel
theorem dX11_works_131 : decode cX11_works 131 = .ok (.ifCond .ne 7, 3) := by decide +kernel
theorem dX11_works_134 : decode cX11_works 134 = .ok (.iload_n 3, 1) := by decide +kernel
theorem dX11_works_135 : decode cX11_works 135 = .ok (.goto 5, 3) := by decide +kernel
theorem dX11_works_138 : decode cX11_works 138 = .ok (.iload 4, 2) := by decide +kernel
theorem dX11_works_140 : decode cX11_works 140 = .ok (.ireturn, 1) := by decide +kernel
theorem dX11_isIdle_0 : decode cX11_isIdle 0 = .ok (.aload_n 0, 1) := by decide +kernel
theorem dX11_isIdle_1 : decode cX11_isIdle 1 = .ok (.iload_n 1, 1) := by decide +kernel
theorem dX11_isIdle_2 : decode cX11_isIdle 2 = .ok (.iconst 1, 1) := by decide +kernel
theorem dX11_isIdle_3 : decode cX11_isIdle 3 = .ok (.invokevirtual 303, 3) := by decide +kernel
theorem dX11_isIdle_6 : decode cX11_isIdle 6 = .ok (.iconst (-1), 1) := by decide +kernel
theorem dX11_isIdle_7 : decode cX11_isIdle 7 = .ok (.if_icmp .ne 24, 3) := by decide +kernel
theorem dX11_isIdle_10 : decode cX11_isIdle 10 = .ok (.aload_n 0, 1) := by decide +kernel
theorem dX11_isIdle_11 : decode cX11_isIdle 11 = .ok (.iload_n 1, 1) := by decide +kernel
theorem dX11_isIdle_12 : decode cX11_isIdle 12 = .ok (.iconst 0, 1) := by decide +kernel
theorem dX11_isIdle_13 : decode cX11_isIdle 13 = .ok (.invokevirtual 303, 3) := by decide +kernel
theorem dX11_isIdle_16 : decode cX11_isIdle 16 = .ok (.aload_n 0, 1) := by decide +kernel
theorem dX11_isIdle_17 : decode cX11_isIdle 17 = .ok (.iload_n 1, 1) := by decide +kernel
theorem dX11_isIdle_18 : decode cX11_isIdle 18 = .ok (.invokevirtual 350, 3) := by decide +kernel
theorem dX11_isIdle_21 : decode cX11_isIdle 21 = .ok (.invokestatic 221, 3) := by decide +kernel
theorem dX11_isIdle_24 : decode cX11_isIdle 24 = .ok (.ifCond .ne 7, 3) := by decide +kernel
theorem dX11_isIdle_27 : decode cX11_isIdle 27 = .ok (.iconst 1, 1) := by decide +kernel
theorem dX11_isIdle_28 : decode cX11_isIdle 28 = .ok (.goto 4, 3) := by decide +kernel
theorem dX11_isIdle_31 : decode cX11_isIdle 31 = .ok (.iconst 0, 1) := by decide +kernel
theorem dX11_isIdle_32 : decode cX11_isIdle 32 = .ok (.ireturn, 1) := by decide +kernel
theorem dX11_firstDigit_0 : decode cX11_firstDigit 0 = .ok (.iload_n 0, 1) := by decide +kernel
theorem dX11_firstDigit_1 : decode cX11_firstDigit 1 = .ok (.iload_n 1, 1) := by decide +kernel
theorem dX11_firstDigit_2 : decode cX11_firstDigit 2 = .ok (.iconst 1, 1) := by decide +kernel
theorem dX11_firstDigit_3 : decode cX11_firstDigit 3 = .ok (.isub, 1) := by decide +kernel
theorem dX11_firstDigit_4 : decode cX11_firstDigit 4 = .ok (.invokestatic 433, 3) := by decide +kernel
theorem dX11_firstDigit_7 : decode cX11_firstDigit 7 = .ok (.idiv, 1) := by decide +kernel
theorem dX11_firstDigit_8 : decode cX11_firstDigit 8 = .ok (.ireturn, 1) := by decide +kernel
theorem dX11_fileSoonest_0 : decode cX11_fileSoonest 0 = .ok (.aload_n 0, 1) := by decide +kernel
theorem dX11_fileSoonest_1 : decode cX11_fileSoonest 1 = .ok (.iload_n 1, 1) := by decide +kernel
theorem dX11_fileSoonest_2 : decode cX11_fileSoonest 2 = .ok (.aload_n 0, 1) := by decide +kernel
theorem dX11_fileSoonest_3 : decode cX11_fileSoonest 3 = .ok (.iload_n 1, 1) := by decide +kernel
theorem dX11_fileSoonest_4 : decode cX11_fileSoonest 4 = .ok (.iconst 0, 1) := by decide +kernel
theorem dX11_fileSoonest_5 : decode cX11_fileSoonest 5 = .ok (.invokevirtual 303, 3) := by decide +kernel
theorem dX11_fileSoonest_8 : decode cX11_fileSoonest 8 = .ok (.invokevirtual 424, 3) := by decide +kernel
theorem dX11_fileSoonest_11 : decode cX11_fileSoonest 11 = .ok (.invokestatic 362, 3) := by decide +kernel
theorem dX11_fileSoonest_14 : decode cX11_fileSoonest 14 = .ok (.istore_n 2, 1) := by decide +kernel
theorem dX11_fileSoonest_15 : decode cX11_fileSoonest 15 = .ok (.aload_n 0, 1) := by decide +kernel
theorem dX11_fileSoonest_16 : decode cX11_fileSoonest 16 = .ok (.iload_n 1, 1) := by decide +kernel
theorem dX11_fileSoonest_17 : decode cX11_fileSoonest 17 = .ok (.aload_n 0, 1) := by decide +kernel
theorem dX11_fileSoonest_18 : decode cX11_fileSoonest 18 = .ok (.iload_n 1, 1) := by decide +kernel
theorem dX11_fileSoonest_19 : decode cX11_fileSoonest 19 = .ok (.iconst 0, 1) := by decide +kernel
theorem dX11_fileSoonest_20 : decode cX11_fileSoonest 20 = .ok (.invokevirtual 303, 3) := by decide +kernel
theorem dX11_fileSoonest_23 : decode cX11_fileSoonest 23 = .ok (.invokevirtual 427, 3) := by decide +kernel
theorem dX11_fileSoonest_26 : decode cX11_fileSoonest 26 = .ok (.aload_n 0, 1) := by decide +kernel
theorem dX11_fileSoonest_27 : decode cX11_fileSoonest 27 = .ok (.getfield 408, 3) := by decide +kernel
theorem dX11_fileSoonest_30 : decode cX11_fileSoonest 30 = .ok (.iconst (-1), 1) := by decide +kernel
theorem dX11_fileSoonest_31 : decode cX11_fileSoonest 31 = .ok (.if_icmp .eq 16, 3) := by decide +kernel
theorem dX11_fileSoonest_34 : decode cX11_fileSoonest 34 = .ok (.aload_n 0, 1) := by decide +kernel
theorem dX11_fileSoonest_35 : decode cX11_fileSoonest 35 = .ok (.iload_n 1, 1) := by decide +kernel
theorem dX11_fileSoonest_36 : decode cX11_fileSoonest 36 = .ok (.aload_n 0, 1) := by decide +kernel
theorem dX11_fileSoonest_37 : decode cX11_fileSoonest 37 = .ok (.getfield 411, 3) := by decide +kernel
theorem dX11_fileSoonest_40 : decode cX11_fileSoonest 40 = .ok (.iload_n 2, 1) := by decide +kernel
theorem dX11_fileSoonest_41 : decode cX11_fileSoonest 41 = .ok (.invokestatic 456, 3) := by decide +kernel
theorem dX11_fileSoonest_44 : decode cX11_fileSoonest 44 = .ok (.invokevirtual 339, 3) := by decide +kernel
theorem dX11_fileSoonest_47 : decode cX11_fileSoonest 47 = .ok (.return_, 1) := by decide +kernel
theorem dX11_toil_0 : decode cX11_toil 0 = .ok (.aload_n 0, 1) := by decide +kernel
theorem dX11_toil_1 : decode cX11_toil 1 = .ok (.iload_n 1, 1) := by decide +kernel
theorem dX11_toil_2 : decode cX11_toil 2 = .ok (.bipush 48, 2) := by decide +kernel
theorem dX11_toil_4 : decode cX11_toil 4 = .ok (.invokevirtual 383, 3) := by decide +kernel
theorem dX11_toil_7 : decode cX11_toil 7 = .ok (.ifCond .ne 5, 3) := by decide +kernel
theorem dX11_toil_10 : decode cX11_toil 10 = .ok (.iconst (-1), 1) := by decide +kernel
theorem dX11_toil_11 : decode cX11_toil 11 = .ok (.ireturn, 1) := by decide +kernel
theorem dX11_toil_12 : decode cX11_toil 12 = .ok (.iconst 0, 1) := by decide +kernel
theorem dX11_toil_13 : decode cX11_toil 13 = .ok (.istore_n 2, 1) := by decide +kernel
theorem dX11_toil_14 : decode cX11_toil 14 = .ok (.iload_n 2, 1) := by decide +kernel
theorem dX11_toil_15 : decode cX11_toil 15 = .ok (.iload_n 1, 1) := by decide +kernel
theorem dX11_toil_16 : decode cX11_toil 16 = .ok (.if_icmp .ge 47, 3) := by decide +kernel
theorem dX11_toil_19 : decode cX11_toil 19 = .ok (.aload_n 0, 1) := by decide +kernel
theorem dX11_toil_20 : decode cX11_toil 20 = .ok (.invokevirtual 336, 3) := by decide +kernel
theorem dX11_toil_23 : decode cX11_toil 23 = .ok (.iconst 0, 1) := by decide +kernel
theorem dX11_toil_24 : decode cX11_toil 24 = .ok (.istore_n 3, 1) := by decide +kernel
theorem dX11_toil_25 : decode cX11_toil 25 = .ok (.iload_n 3, 1) := by decide +kernel
theorem dX11_toil_26 : decode cX11_toil 26 = .ok (.aload_n 0, 1) := by decide +kernel
theorem dX11_toil_27 : decode cX11_toil 27 = .ok (.getfield 269, 3) := by decide +kernel
theorem dX11_toil_30 : decode cX11_toil 30 = .ok (.if_icmp .ge 22, 3) := by decide +kernel
theorem dX11_toil_33 : decode cX11_toil 33 = .ok (.aload_n 0, 1) := by decide +kernel
theorem dX11_toil_34 : decode cX11_toil 34 = .ok (.iload_n 3, 1) := by decide +kernel
theorem dX11_toil_35 : decode cX11_toil 35 = .ok (.invokevirtual 459, 3) := by decide +kernel
theorem dX11_toil_38 : decode cX11_toil 38 = .ok (.ifCond .eq 8, 3) := by decide +kernel
theorem dX11_toil_41 : decode cX11_toil 41 = .ok (.aload_n 0, 1) := by decide +kernel
theorem dX11_toil_42 : decode cX11_toil 42 = .ok (.iload_n 3, 1) := by decide +kernel
theorem dX11_toil_43 : decode cX11_toil 43 = .ok (.invokevirtual 462, 3) := by decide +kernel
theorem dX11_toil_46 : decode cX11_toil 46 = .ok (.iinc 3 1, 3) := by decide +kernel
theorem dX11_toil_49 : decode cX11_toil 49 = .ok (.goto (-24), 3) := by decide +kernel
theorem dX11_toil_52 : decode cX11_toil 52 = .ok (.aload_n 0, 1) := by decide +kernel
theorem dX11_toil_53 : decode cX11_toil 53 = .ok (.iconst 0, 1) := by decide +kernel
theorem dX11_toil_54 : decode cX11_toil 54 = .ok (.invokevirtual 386, 3) := by decide +kernel
theorem dX11_toil_57 : decode cX11_toil 57 = .ok (.iinc 2 1, 3) := by decide +kernel
theorem dX11_toil_60 : decode cX11_toil 60 = .ok (.goto (-46), 3) := by decide +kernel
theorem dX11_toil_63 : decode cX11_toil 63 = .ok (.aload_n 0, 1) := by decide +kernel
theorem dX11_toil_64 : decode cX11_toil 64 = .ok (.getfield 70, 3) := by decide +kernel
theorem dX11_toil_67 : decode cX11_toil 67 = .ok (.bipush 42, 2) := by decide +kernel
theorem dX11_toil_69 : decode cX11_toil 69 = .ok (.iaload, 1) := by decide +kernel
theorem dX11_toil_70 : decode cX11_toil 70 = .ok (.ireturn, 1) := by decide +kernel
theorem dX11_draw_0 : decode cX11_draw 0 = .ok (.aload_n 0, 1) := by decide +kernel
theorem dX11_draw_1 : decode cX11_draw 1 = .ok (.aload_n 0, 1) := by decide +kernel
theorem dX11_draw_2 : decode cX11_draw 2 = .ok (.getfield 465, 3) := by decide +kernel
theorem dX11_draw_5 : decode cX11_draw 5 = .ok (.ldc2_w 469, 3) := by decide +kernel
theorem dX11_draw_8 : decode cX11_draw 8 = .ok (.lmul, 1) := by decide +kernel
theorem dX11_draw_9 : decode cX11_draw 9 = .ok (.ldc2_w 471, 3) := by decide +kernel
theorem dX11_draw_12 : decode cX11_draw 12 = .ok (.ladd, 1) := by decide +kernel
theorem dX11_draw_13 : decode cX11_draw 13 = .ok (.putfield 465, 3) := by decide +kernel
theorem dX11_draw_16 : decode cX11_draw 16 = .ok (.aload_n 0, 1) := by decide +kernel
theorem dX11_draw_17 : decode cX11_draw 17 = .ok (.getfield 465, 3) := by decide +kernel
theorem dX11_draw_20 : decode cX11_draw 20 = .ok (.bipush 33, 2) := by decide +kernel
theorem dX11_draw_22 : decode cX11_draw 22 = .ok (.lushr, 1) := by decide +kernel
theorem dX11_draw_23 : decode cX11_draw 23 = .ok (.iload_n 1, 1) := by decide +kernel
theorem dX11_draw_24 : decode cX11_draw 24 = .ok (.i2l, 1) := by decide +kernel
theorem dX11_draw_25 : decode cX11_draw 25 = .ok (.lrem, 1) := by decide +kernel
theorem dX11_draw_26 : decode cX11_draw 26 = .ok (.l2i, 1) := by decide +kernel
theorem dX11_draw_27 : decode cX11_draw 27 = .ok (.ireturn, 1) := by decide +kernel
theorem dX11_years_0 : decode cX11_years 0 = .ok (.aload_n 0, 1) := by decide +kernel
theorem dX11_years_1 : decode cX11_years 1 = .ok (.iload_n 1, 1) := by decide +kernel
theorem dX11_years_2 : decode cX11_years 2 = .ok (.sipush 240, 3) := by decide +kernel
theorem dX11_years_5 : decode cX11_years 5 = .ok (.invokevirtual 383, 3) := by decide +kernel
theorem dX11_years_8 : decode cX11_years 8 = .ok (.ifCond .ne 5, 3) := by decide +kernel
theorem dX11_years_11 : decode cX11_years 11 = .ok (.iconst (-1), 1) := by decide +kernel
theorem dX11_years_12 : decode cX11_years 12 = .ok (.ireturn, 1) := by decide +kernel
theorem dX11_years_13 : decode cX11_years 13 = .ok (.aload_n 0, 1) := by decide +kernel
theorem dX11_years_14 : decode cX11_years 14 = .ok (.lload_n 2, 1) := by decide +kernel
theorem dX11_years_15 : decode cX11_years 15 = .ok (.putfield 465, 3) := by decide +kernel
theorem dX11_years_18 : decode cX11_years 18 = .ok (.iconst 0, 1) := by decide +kernel
theorem dX11_years_19 : decode cX11_years 19 = .ok (.istore 4, 2) := by decide +kernel
theorem dX11_years_21 : decode cX11_years 21 = .ok (.iload 4, 2) := by decide +kernel
theorem dX11_years_23 : decode cX11_years 23 = .ok (.iload_n 1, 1) := by decide +kernel
theorem dX11_years_24 : decode cX11_years 24 = .ok (.if_icmp .ge 95, 3) := by decide +kernel
theorem dX11_years_27 : decode cX11_years 27 = .ok (.aload_n 0, 1) := by decide +kernel
theorem dX11_years_28 : decode cX11_years 28 = .ok (.invokevirtual 336, 3) := by decide +kernel
theorem dX11_years_31 : decode cX11_years 31 = .ok (.iconst 0, 1) := by decide +kernel
theorem dX11_years_32 : decode cX11_years 32 = .ok (.istore 5, 2) := by decide +kernel
theorem dX11_years_34 : decode cX11_years 34 = .ok (.iload 5, 2) := by decide +kernel
theorem dX11_years_36 : decode cX11_years 36 = .ok (.aload_n 0, 1) := by decide +kernel
theorem dX11_years_37 : decode cX11_years 37 = .ok (.getfield 269, 3) := by decide +kernel
theorem dX11_years_40 : decode cX11_years 40 = .ok (.if_icmp .ge 44, 3) := by decide +kernel
theorem dX11_years_43 : decode cX11_years 43 = .ok (.aload_n 0, 1) := by decide +kernel
theorem dX11_years_44 : decode cX11_years 44 = .ok (.iload 5, 2) := by decide +kernel
theorem dX11_years_46 : decode cX11_years 46 = .ok (.invokevirtual 459, 3) := by decide +kernel
theorem dX11_years_49 : decode cX11_years 49 = .ok (.ifCond .eq 29, 3) := by decide +kernel
theorem dX11_years_52 : decode cX11_years 52 = .ok (.aload_n 0, 1) := by decide +kernel
theorem dX11_years_53 : decode cX11_years 53 = .ok (.bipush 10, 2) := by decide +kernel
theorem dX11_years_55 : decode cX11_years 55 = .ok (.invokevirtual 473, 3) := by decide +kernel
theorem dX11_years_58 : decode cX11_years 58 = .ok (.aload_n 0, 1) := by decide +kernel
theorem dX11_years_59 : decode cX11_years 59 = .ok (.getfield 55, 3) := by decide +kernel
theorem dX11_years_62 : decode cX11_years 62 = .ok (.iconst 3, 1) := by decide +kernel
theorem dX11_years_63 : decode cX11_years 63 = .ok (.iload 5, 2) := by decide +kernel
theorem dX11_years_65 : decode cX11_years 65 = .ok (.imul, 1) := by decide +kernel
theorem dX11_years_66 : decode cX11_years 66 = .ok (.iconst 2, 1) := by decide +kernel
theorem dX11_years_67 : decode cX11_years 67 = .ok (.iadd, 1) := by decide +kernel
theorem dX11_years_68 : decode cX11_years 68 = .ok (.iaload, 1) := by decide +kernel
theorem dX11_years_69 : decode cX11_years 69 = .ok (.if_icmp .ge 9, 3) := by decide +kernel
theorem dX11_years_72 : decode cX11_years 72 = .ok (.aload_n 0, 1) := by decide +kernel
theorem dX11_years_73 : decode cX11_years 73 = .ok (.iload 5, 2) := by decide +kernel
theorem dX11_years_75 : decode cX11_years 75 = .ok (.invokevirtual 462, 3) := by decide +kernel
theorem dX11_years_78 : decode cX11_years 78 = .ok (.iinc 5 1, 3) := by decide +kernel
theorem dX11_years_81 : decode cX11_years 81 = .ok (.goto (-47), 3) := by decide +kernel
theorem dX11_years_84 : decode cX11_years 84 = .ok (.aload_n 0, 1) := by decide +kernel
theorem dX11_years_85 : decode cX11_years 85 = .ok (.aload_n 0, 1) := by decide +kernel
theorem dX11_years_86 : decode cX11_years 86 = .ok (.invokevirtual 373, 3) := by decide +kernel
theorem dX11_years_89 : decode cX11_years 89 = .ok (.ifCond .eq 20, 3) := by decide +kernel
theorem dX11_years_92 : decode cX11_years 92 = .ok (.aload_n 0, 1) := by decide +kernel
theorem dX11_years_93 : decode cX11_years 93 = .ok (.bipush 100, 2) := by decide +kernel
theorem dX11_years_95 : decode cX11_years 95 = .ok (.invokevirtual 473, 3) := by decide +kernel
theorem dX11_years_98 : decode cX11_years 98 = .ok (.aload_n 0, 1) := by decide +kernel
theorem dX11_years_99 : decode cX11_years 99 = .ok (.getfield 327, 3) := by decide +kernel
theorem dX11_years_102 : decode cX11_years 102 = .ok (.if_icmp .ge 7, 3) := by decide +kernel
theorem dX11_years_105 : decode cX11_years 105 = .ok (.iconst 1, 1) := by decide +kernel
theorem dX11_years_106 : decode cX11_years 106 = .ok (.goto 4, 3) := by decide +kernel
theorem dX11_years_109 : decode cX11_years 109 = .ok (.iconst 0, 1) := by decide +kernel
theorem dX11_years_110 : decode cX11_years 110 = .ok (.invokevirtual 386, 3) := by decide +kernel
theorem dX11_years_113 : decode cX11_years 113 = .ok (.iinc 4 1, 3) := by decide +kernel
theorem dX11_years_116 : decode cX11_years 116 = .ok (.goto (-95), 3) := by decide +kernel
theorem dX11_years_119 : decode cX11_years 119 = .ok (.aload_n 0, 1) := by decide +kernel
theorem dX11_years_120 : decode cX11_years 120 = .ok (.getfield 70, 3) := by decide +kernel
theorem dX11_years_123 : decode cX11_years 123 = .ok (.bipush 42, 2) := by decide +kernel
theorem dX11_years_125 : decode cX11_years 125 = .ok (.iaload, 1) := by decide +kernel
theorem dX11_years_126 : decode cX11_years 126 = .ok (.ireturn, 1) := by decide +kernel
theorem dX11_image_0 : decode cX11_image 0 = .ok (.aload_n 0, 1) := by decide +kernel
theorem dX11_image_1 : decode cX11_image 1 = .ok (.getfield 269, 3) := by decide +kernel
theorem dX11_image_4 : decode cX11_image 4 = .ok (.ifCond .ne 5, 3) := by decide +kernel
theorem dX11_image_7 : decode cX11_image 7 = .ok (.iconst (-1), 1) := by decide +kernel
theorem dX11_image_8 : decode cX11_image 8 = .ok (.ireturn, 1) := by decide +kernel
theorem dX11_image_9 : decode cX11_image 9 = .ok (.iconst 0, 1) := by decide +kernel
theorem dX11_image_10 : decode cX11_image 10 = .ok (.istore_n 1, 1) := by decide +kernel
theorem dX11_image_11 : decode cX11_image 11 = .ok (.iload_n 1, 1) := by decide +kernel
theorem dX11_image_12 : decode cX11_image 12 = .ok (.sipush 165, 3) := by decide +kernel
theorem dX11_image_15 : decode cX11_image 15 = .ok (.if_icmp .ge 21, 3) := by decide +kernel
theorem dX11_image_18 : decode cX11_image 18 = .ok (.aload_n 0, 1) := by decide +kernel
theorem dX11_image_19 : decode cX11_image 19 = .ok (.getfield 92, 3) := by decide +kernel
theorem dX11_image_22 : decode cX11_image 22 = .ok (.iload_n 1, 1) := by decide +kernel
theorem dX11_image_23 : decode cX11_image 23 = .ok (.aload_n 0, 1) := by decide +kernel
theorem dX11_image_24 : decode cX11_image 24 = .ok (.getfield 70, 3) := by decide +kernel
theorem dX11_image_27 : decode cX11_image 27 = .ok (.iload_n 1, 1) := by decide +kernel
theorem dX11_image_28 : decode cX11_image 28 = .ok (.iaload, 1) := by decide +kernel
theorem dX11_image_29 : decode cX11_image 29 = .ok (.iastore, 1) := by decide +kernel
theorem dX11_image_30 : decode cX11_image 30 = .ok (.iinc 1 1, 3) := by decide +kernel
theorem dX11_image_33 : decode cX11_image 33 = .ok (.goto (-22), 3) := by decide +kernel
theorem dX11_image_36 : decode cX11_image 36 = .ok (.aload_n 0, 1) := by decide +kernel
theorem dX11_image_37 : decode cX11_image 37 = .ok (.iconst 1, 1) := by decide +kernel
theorem dX11_image_38 : decode cX11_image 38 = .ok (.putfield 287, 3) := by decide +kernel
theorem dX11_image_41 : decode cX11_image 41 = .ok (.aload_n 0, 1) := by decide +kernel
theorem dX11_image_42 : decode cX11_image 42 = .ok (.getfield 70, 3) := by decide +kernel
theorem dX11_image_45 : decode cX11_image 45 = .ok (.bipush 42, 2) := by decide +kernel
theorem dX11_image_47 : decode cX11_image 47 = .ok (.iaload, 1) := by decide +kernel
theorem dX11_image_48 : decode cX11_image 48 = .ok (.ireturn, 1) := by decide +kernel
theorem dX11_back_0 : decode cX11_back 0 = .ok (.aload_n 0, 1) := by decide +kernel
theorem dX11_back_1 : decode cX11_back 1 = .ok (.getfield 287, 3) := by decide +kernel
theorem dX11_back_4 : decode cX11_back 4 = .ok (.ifCond .ne 5, 3) := by decide +kernel
theorem dX11_back_7 : decode cX11_back 7 = .ok (.iconst (-1), 1) := by decide +kernel
theorem dX11_back_8 : decode cX11_back 8 = .ok (.ireturn, 1) := by decide +kernel
theorem dX11_back_9 : decode cX11_back 9 = .ok (.iconst 0, 1) := by decide +kernel
theorem dX11_back_10 : decode cX11_back 10 = .ok (.istore_n 1, 1) := by decide +kernel
theorem dX11_back_11 : decode cX11_back 11 = .ok (.iload_n 1, 1) := by decide +kernel
theorem dX11_back_12 : decode cX11_back 12 = .ok (.sipush 165, 3) := by decide +kernel
theorem dX11_back_15 : decode cX11_back 15 = .ok (.if_icmp .ge 21, 3) := by decide +kernel
theorem dX11_back_18 : decode cX11_back 18 = .ok (.aload_n 0, 1) := by decide +kernel
theorem dX11_back_19 : decode cX11_back 19 = .ok (.getfield 70, 3) := by decide +kernel
theorem dX11_back_22 : decode cX11_back 22 = .ok (.iload_n 1, 1) := by decide +kernel
theorem dX11_back_23 : decode cX11_back 23 = .ok (.aload_n 0, 1) := by decide +kernel
theorem dX11_back_24 : decode cX11_back 24 = .ok (.getfield 92, 3) := by decide +kernel
theorem dX11_back_27 : decode cX11_back 27 = .ok (.iload_n 1, 1) := by decide +kernel
theorem dX11_back_28 : decode cX11_back 28 = .ok (.iaload, 1) := by decide +kernel
theorem dX11_back_29 : decode cX11_back 29 = .ok (.iastore, 1) := by decide +kernel
theorem dX11_back_30 : decode cX11_back 30 = .ok (.iinc 1 1, 3) := by decide +kernel
theorem dX11_back_33 : decode cX11_back 33 = .ok (.goto (-22), 3) := by decide +kernel
theorem dX11_back_36 : decode cX11_back 36 = .ok (.aload_n 0, 1) := by decide +kernel
theorem dX11_back_37 : decode cX11_back 37 = .ok (.iconst 0, 1) := by decide +kernel
theorem dX11_back_38 : decode cX11_back 38 = .ok (.putfield 284, 3) := by decide +kernel
theorem dX11_back_41 : decode cX11_back 41 = .ok (.aload_n 0, 1) := by decide +kernel
theorem dX11_back_42 : decode cX11_back 42 = .ok (.getfield 70, 3) := by decide +kernel
theorem dX11_back_45 : decode cX11_back 45 = .ok (.bipush 42, 2) := by decide +kernel
theorem dX11_back_47 : decode cX11_back 47 = .ok (.iaload, 1) := by decide +kernel
theorem dX11_back_48 : decode cX11_back 48 = .ok (.ireturn, 1) := by decide +kernel
theorem dX11_count_0 : decode cX11_count 0 = .ok (.iload_n 1, 1) := by decide +kernel
theorem dX11_count_1 : decode cX11_count 1 = .ok (.tableswitch 129 0 11 #[63, 68, 73, 78, 83, 88, 93, 98, 106, 111, 116, 124], 63) := by decide +kernel
theorem dX11_count_64 : decode cX11_count 64 = .ok (.aload_n 0, 1) := by decide +kernel
theorem dX11_count_65 : decode cX11_count 65 = .ok (.getfield 269, 3) := by decide +kernel
theorem dX11_count_68 : decode cX11_count 68 = .ok (.ireturn, 1) := by decide +kernel
theorem dX11_count_69 : decode cX11_count 69 = .ok (.aload_n 0, 1) := by decide +kernel
theorem dX11_count_70 : decode cX11_count 70 = .ok (.getfield 272, 3) := by decide +kernel
theorem dX11_count_73 : decode cX11_count 73 = .ok (.ireturn, 1) := by decide +kernel
theorem dX11_count_74 : decode cX11_count 74 = .ok (.aload_n 0, 1) := by decide +kernel
theorem dX11_count_75 : decode cX11_count 75 = .ok (.getfield 275, 3) := by decide +kernel
theorem dX11_count_78 : decode cX11_count 78 = .ok (.ireturn, 1) := by decide +kernel
theorem dX11_count_79 : decode cX11_count 79 = .ok (.aload_n 0, 1) := by decide +kernel
theorem dX11_count_80 : decode cX11_count 80 = .ok (.getfield 294, 3) := by decide +kernel
theorem dX11_count_83 : decode cX11_count 83 = .ok (.ireturn, 1) := by decide +kernel
theorem dX11_count_84 : decode cX11_count 84 = .ok (.aload_n 0, 1) := by decide +kernel
theorem dX11_count_85 : decode cX11_count 85 = .ok (.getfield 297, 3) := by decide +kernel
theorem dX11_count_88 : decode cX11_count 88 = .ok (.ireturn, 1) := by decide +kernel
theorem dX11_count_89 : decode cX11_count 89 = .ok (.aload_n 0, 1) := by decide +kernel
theorem dX11_count_90 : decode cX11_count 90 = .ok (.getfield 102, 3) := by decide +kernel
theorem dX11_count_93 : decode cX11_count 93 = .ok (.ireturn, 1) := by decide +kernel
theorem dX11_count_94 : decode cX11_count 94 = .ok (.aload_n 0, 1) := by decide +kernel
theorem dX11_count_95 : decode cX11_count 95 = .ok (.getfield 73, 3) := by decide +kernel
theorem dX11_count_98 : decode cX11_count 98 = .ok (.ireturn, 1) := by decide +kernel
theorem dX11_count_99 : decode cX11_count 99 = .ok (.aload_n 0, 1) := by decide +kernel
theorem dX11_count_100 : decode cX11_count 100 = .ok (.getfield 70, 3) := by decide +kernel
theorem dX11_count_103 : decode cX11_count 103 = .ok (.bipush 42, 2) := by decide +kernel
theorem dX11_count_105 : decode cX11_count 105 = .ok (.iaload, 1) := by decide +kernel
theorem dX11_count_106 : decode cX11_count 106 = .ok (.ireturn, 1) := by decide +kernel
theorem dX11_count_107 : decode cX11_count 107 = .ok (.aload_n 0, 1) := by decide +kernel
theorem dX11_count_108 : decode cX11_count 108 = .ok (.getfield 327, 3) := by decide +kernel
theorem dX11_count_111 : decode cX11_count 111 = .ok (.ireturn, 1) := by decide +kernel
theorem dX11_count_112 : decode cX11_count 112 = .ok (.aload_n 0, 1) := by decide +kernel
theorem dX11_count_113 : decode cX11_count 113 = .ok (.getfield 281, 3) := by decide +kernel
theorem dX11_count_116 : decode cX11_count 116 = .ok (.ireturn, 1) := by decide +kernel
theorem dX11_count_117 : decode cX11_count 117 = .ok (.aload_n 0, 1) := by decide +kernel
theorem dX11_count_118 : decode cX11_count 118 = .ok (.getfield 70, 3) := by decide +kernel
theorem dX11_count_121 : decode cX11_count 121 = .ok (.bipush 44, 2) := by decide +kernel
theorem dX11_count_123 : decode cX11_count 123 = .ok (.iaload, 1) := by decide +kernel
theorem dX11_count_124 : decode cX11_count 124 = .ok (.ireturn, 1) := by decide +kernel
theorem dX11_count_125 : decode cX11_count 125 = .ok (.aload_n 0, 1) := by decide +kernel
theorem dX11_count_126 : decode cX11_count 126 = .ok (.getfield 284, 3) := by decide +kernel
theorem dX11_count_129 : decode cX11_count 129 = .ok (.ireturn, 1) := by decide +kernel
theorem dX11_count_130 : decode cX11_count 130 = .ok (.ldc_w 392, 3) := by decide +kernel
theorem dX11_count_133 : decode cX11_count 133 = .ok (.ireturn, 1) := by decide +kernel
theorem dL_parish_0 : decode cL_parish 0 = .ok (.aload_n 3, 1) := by decide +kernel
theorem dL_parish_1 : decode cL_parish 1 = .ok (.iconst 0, 1) := by decide +kernel
theorem dL_parish_2 : decode cL_parish 2 = .ok (.aload_n 0, 1) := by decide +kernel
theorem dL_parish_3 : decode cL_parish 3 = .ok (.iload_n 1, 1) := by decide +kernel
theorem dL_parish_4 : decode cL_parish 4 = .ok (.iload_n 2, 1) := by decide +kernel
theorem dL_parish_5 : decode cL_parish 5 = .ok (.invokevirtual 7, 3) := by decide +kernel
theorem dL_parish_8 : decode cL_parish 8 = .ok (.i2l, 1) := by decide +kernel
theorem dL_parish_9 : decode cL_parish 9 = .ok (.lastore, 1) := by decide +kernel
theorem dL_parish_10 : decode cL_parish 10 = .ok (.goto 7, 3) := by decide +kernel
theorem dL_parish_13 : decode cL_parish 13 = .ok (.astore 4, 2) := by decide +kernel
theorem dL_parish_15 : decode cL_parish 15 = .ok (.iconst 1, 1) := by decide +kernel
theorem dL_parish_16 : decode cL_parish 16 = .ok (.ireturn, 1) := by decide +kernel
theorem dL_parish_17 : decode cL_parish 17 = .ok (.iconst 0, 1) := by decide +kernel
theorem dL_parish_18 : decode cL_parish 18 = .ok (.ireturn, 1) := by decide +kernel
theorem dL_law_0 : decode cL_law 0 = .ok (.new 8, 3) := by decide +kernel
theorem dL_law_3 : decode cL_law 3 = .ok (.dup, 1) := by decide +kernel
theorem dL_law_4 : decode cL_law 4 = .ok (.invokespecial 15, 3) := by decide +kernel
theorem dL_law_7 : decode cL_law 7 = .ok (.astore_n 1, 1) := by decide +kernel
theorem dL_law_8 : decode cL_law 8 = .ok (.new 16, 3) := by decide +kernel
theorem dL_law_11 : decode cL_law 11 = .ok (.dup, 1) := by decide +kernel
theorem dL_law_12 : decode cL_law 12 = .ok (.invokespecial 18, 3) := by decide +kernel
theorem dL_law_15 : decode cL_law 15 = .ok (.astore_n 2, 1) := by decide +kernel
theorem dL_law_16 : decode cL_law 16 = .ok (.iconst 1, 1) := by decide +kernel
theorem dL_law_17 : decode cL_law 17 = .ok (.newarray .long, 2) := by decide +kernel
theorem dL_law_19 : decode cL_law 19 = .ok (.astore_n 3, 1) := by decide +kernel
theorem dL_law_20 : decode cL_law 20 = .ok (.iconst 0, 1) := by decide +kernel
theorem dL_law_21 : decode cL_law 21 = .ok (.istore 4, 2) := by decide +kernel
theorem dL_law_23 : decode cL_law 23 = .ok (.iload 4, 2) := by decide +kernel
theorem dL_law_25 : decode cL_law 25 = .ok (.aload_n 0, 1) := by decide +kernel
theorem dL_law_26 : decode cL_law 26 = .ok (.arraylength, 1) := by decide +kernel
theorem dL_law_27 : decode cL_law 27 = .ok (.bipush 6, 2) := by decide +kernel
theorem dL_law_29 : decode cL_law 29 = .ok (.isub, 1) := by decide +kernel
theorem dL_law_30 : decode cL_law 30 = .ok (.if_icmp .gt 1336, 3) := by decide +kernel
theorem dL_law_33 : decode cL_law 33 = .ok (.aload_n 0, 1) := by decide +kernel
theorem dL_law_34 : decode cL_law 34 = .ok (.iload 4, 2) := by decide +kernel
theorem dL_law_36 : decode cL_law 36 = .ok (.iaload, 1) := by decide +kernel
theorem dL_law_37 : decode cL_law 37 = .ok (.bipush 63, 2) := by decide +kernel
theorem dL_law_39 : decode cL_law 39 = .ok (.iand, 1) := by decide +kernel
theorem dL_law_40 : decode cL_law 40 = .ok (.tableswitch 1320 0 36 #[164, 237, 262, 287, 312, 337, 405, 442, 479, 504, 529, 566, 591, 616, 641, 710, 723, 760, 809, 834, 859, 908, 933, 946, 983, 1008, 1021, 1058, 1083, 1144, 1181, 1206, 1219, 1232, 1269, 1282, 1295], 164) := by decide +kernel
theorem dL_law_204 : decode cL_law 204 = .ok (.aload_n 1, 1) := by decide +kernel
theorem dL_law_205 : decode cL_law 205 = .ok (.aload_n 0, 1) := by decide +kernel
theorem dL_law_206 : decode cL_law 206 = .ok (.iload 4, 2) := by decide +kernel
theorem dL_law_208 : decode cL_law 208 = .ok (.iconst 1, 1) := by decide +kernel
theorem dL_law_209 : decode cL_law 209 = .ok (.iadd, 1) := by decide +kernel
theorem dL_law_210 : decode cL_law 210 = .ok (.iaload, 1) := by decide +kernel
theorem dL_law_211 : decode cL_law 211 = .ok (.aload_n 0, 1) := by decide +kernel
theorem dL_law_212 : decode cL_law 212 = .ok (.iload 4, 2) := by decide +kernel
theorem dL_law_214 : decode cL_law 214 = .ok (.iconst 2, 1) := by decide +kernel
theorem dL_law_215 : decode cL_law 215 = .ok (.iadd, 1) := by decide +kernel
theorem dL_law_216 : decode cL_law 216 = .ok (.iaload, 1) := by decide +kernel
theorem dL_law_217 : decode cL_law 217 = .ok (.aload_n 0, 1) := by decide +kernel
theorem dL_law_218 : decode cL_law 218 = .ok (.iload 4, 2) := by decide +kernel
theorem dL_law_220 : decode cL_law 220 = .ok (.iconst 3, 1) := by decide +kernel
theorem dL_law_221 : decode cL_law 221 = .ok (.iadd, 1) := by decide +kernel
theorem dL_law_222 : decode cL_law 222 = .ok (.iaload, 1) := by decide +kernel
theorem dL_law_223 : decode cL_law 223 = .ok (.aload_n 0, 1) := by decide +kernel
theorem dL_law_224 : decode cL_law 224 = .ok (.iload 4, 2) := by decide +kernel
theorem dL_law_226 : decode cL_law 226 = .ok (.iconst 4, 1) := by decide +kernel
theorem dL_law_227 : decode cL_law 227 = .ok (.iadd, 1) := by decide +kernel
theorem dL_law_228 : decode cL_law 228 = .ok (.iaload, 1) := by decide +kernel
theorem dL_law_229 : decode cL_law 229 = .ok (.aload_n 0, 1) := by decide +kernel
theorem dL_law_230 : decode cL_law 230 = .ok (.iload 4, 2) := by decide +kernel
theorem dL_law_232 : decode cL_law 232 = .ok (.iconst 5, 1) := by decide +kernel
theorem dL_law_233 : decode cL_law 233 = .ok (.iadd, 1) := by decide +kernel
theorem dL_law_234 : decode cL_law 234 = .ok (.iaload, 1) := by decide +kernel
theorem dL_law_235 : decode cL_law 235 = .ok (.invokevirtual 19, 3) := by decide +kernel
theorem dL_law_238 : decode cL_law 238 = .ok (.aload_n 2, 1) := by decide +kernel
theorem dL_law_239 : decode cL_law 239 = .ok (.aload_n 0, 1) := by decide +kernel
theorem dL_law_240 : decode cL_law 240 = .ok (.iload 4, 2) := by decide +kernel
theorem dL_law_242 : decode cL_law 242 = .ok (.iconst 1, 1) := by decide +kernel
theorem dL_law_243 : decode cL_law 243 = .ok (.iadd, 1) := by decide +kernel
theorem dL_law_244 : decode cL_law 244 = .ok (.iaload, 1) := by decide +kernel
theorem dL_law_245 : decode cL_law 245 = .ok (.aload_n 0, 1) := by decide +kernel
theorem dL_law_246 : decode cL_law 246 = .ok (.iload 4, 2) := by decide +kernel
theorem dL_law_248 : decode cL_law 248 = .ok (.iconst 2, 1) := by decide +kernel
theorem dL_law_249 : decode cL_law 249 = .ok (.iadd, 1) := by decide +kernel
theorem dL_law_250 : decode cL_law 250 = .ok (.iaload, 1) := by decide +kernel
theorem dL_law_251 : decode cL_law 251 = .ok (.aload_n 0, 1) := by decide +kernel
theorem dL_law_252 : decode cL_law 252 = .ok (.iload 4, 2) := by decide +kernel
theorem dL_law_254 : decode cL_law 254 = .ok (.iconst 3, 1) := by decide +kernel
theorem dL_law_255 : decode cL_law 255 = .ok (.iadd, 1) := by decide +kernel
theorem dL_law_256 : decode cL_law 256 = .ok (.iaload, 1) := by decide +kernel
theorem dL_law_257 : decode cL_law 257 = .ok (.aload_n 0, 1) := by decide +kernel
theorem dL_law_258 : decode cL_law 258 = .ok (.iload 4, 2) := by decide +kernel
theorem dL_law_260 : decode cL_law 260 = .ok (.iconst 4, 1) := by decide +kernel
theorem dL_law_261 : decode cL_law 261 = .ok (.iadd, 1) := by decide +kernel
theorem dL_law_262 : decode cL_law 262 = .ok (.iaload, 1) := by decide +kernel
theorem dL_law_263 : decode cL_law 263 = .ok (.aload_n 0, 1) := by decide +kernel
theorem dL_law_264 : decode cL_law 264 = .ok (.iload 4, 2) := by decide +kernel
theorem dL_law_266 : decode cL_law 266 = .ok (.iconst 5, 1) := by decide +kernel
theorem dL_law_267 : decode cL_law 267 = .ok (.iadd, 1) := by decide +kernel
theorem dL_law_268 : decode cL_law 268 = .ok (.iaload, 1) := by decide +kernel
theorem dL_law_269 : decode cL_law 269 = .ok (.invokevirtual 23, 3) := by decide +kernel
theorem dL_law_272 : decode cL_law 272 = .ok (.if_icmp .eq 1088, 3) := by decide +kernel
theorem dL_law_275 : decode cL_law 275 = .ok (.iconst 0, 1) := by decide +kernel
theorem dL_law_276 : decode cL_law 276 = .ok (.ireturn, 1) := by decide +kernel
theorem dL_law_277 : decode cL_law 277 = .ok (.aload_n 1, 1) := by decide +kernel
theorem dL_law_278 : decode cL_law 278 = .ok (.aload_n 0, 1) := by decide +kernel
theorem dL_law_279 : decode cL_law 279 = .ok (.iload 4, 2) := by decide +kernel
theorem dL_law_281 : decode cL_law 281 = .ok (.iconst 1, 1) := by decide +kernel
theorem dL_law_282 : decode cL_law 282 = .ok (.iadd, 1) := by decide +kernel
theorem dL_law_283 : decode cL_law 283 = .ok (.iaload, 1) := by decide +kernel
theorem dL_law_284 : decode cL_law 284 = .ok (.invokevirtual 24, 3) := by decide +kernel
theorem dL_law_287 : decode cL_law 287 = .ok (.aload_n 2, 1) := by decide +kernel
theorem dL_law_288 : decode cL_law 288 = .ok (.aload_n 0, 1) := by decide +kernel
theorem dL_law_289 : decode cL_law 289 = .ok (.iload 4, 2) := by decide +kernel
theorem dL_law_291 : decode cL_law 291 = .ok (.iconst 1, 1) := by decide +kernel
theorem dL_law_292 : decode cL_law 292 = .ok (.iadd, 1) := by decide +kernel
theorem dL_law_293 : decode cL_law 293 = .ok (.iaload, 1) := by decide +kernel
theorem dL_law_294 : decode cL_law 294 = .ok (.invokevirtual 28, 3) := by decide +kernel
theorem dL_law_297 : decode cL_law 297 = .ok (.if_icmp .eq 1063, 3) := by decide +kernel
theorem dL_law_300 : decode cL_law 300 = .ok (.iconst 0, 1) := by decide +kernel
theorem dL_law_301 : decode cL_law 301 = .ok (.ireturn, 1) := by decide +kernel
theorem dL_law_302 : decode cL_law 302 = .ok (.aload_n 1, 1) := by decide +kernel
theorem dL_law_303 : decode cL_law 303 = .ok (.aload_n 0, 1) := by decide +kernel
theorem dL_law_304 : decode cL_law 304 = .ok (.iload 4, 2) := by decide +kernel
theorem dL_law_306 : decode cL_law 306 = .ok (.iconst 1, 1) := by decide +kernel
theorem dL_law_307 : decode cL_law 307 = .ok (.iadd, 1) := by decide +kernel
theorem dL_law_308 : decode cL_law 308 = .ok (.iaload, 1) := by decide +kernel
theorem dL_law_309 : decode cL_law 309 = .ok (.invokevirtual 29, 3) := by decide +kernel
theorem dL_law_312 : decode cL_law 312 = .ok (.aload_n 2, 1) := by decide +kernel
theorem dL_law_313 : decode cL_law 313 = .ok (.aload_n 0, 1) := by decide +kernel
theorem dL_law_314 : decode cL_law 314 = .ok (.iload 4, 2) := by decide +kernel
theorem dL_law_316 : decode cL_law 316 = .ok (.iconst 1, 1) := by decide +kernel
theorem dL_law_317 : decode cL_law 317 = .ok (.iadd, 1) := by decide +kernel
theorem dL_law_318 : decode cL_law 318 = .ok (.iaload, 1) := by decide +kernel
theorem dL_law_319 : decode cL_law 319 = .ok (.invokevirtual 33, 3) := by decide +kernel
theorem dL_law_322 : decode cL_law 322 = .ok (.if_icmp .eq 1038, 3) := by decide +kernel
theorem dL_law_325 : decode cL_law 325 = .ok (.iconst 0, 1) := by decide +kernel
theorem dL_law_326 : decode cL_law 326 = .ok (.ireturn, 1) := by decide +kernel
theorem dL_law_327 : decode cL_law 327 = .ok (.aload_n 1, 1) := by decide +kernel
theorem dL_law_328 : decode cL_law 328 = .ok (.aload_n 0, 1) := by decide +kernel
theorem dL_law_329 : decode cL_law 329 = .ok (.iload 4, 2) := by decide +kernel
theorem dL_law_331 : decode cL_law 331 = .ok (.iconst 1, 1) := by decide +kernel
theorem dL_law_332 : decode cL_law 332 = .ok (.iadd, 1) := by decide +kernel
theorem dL_law_333 : decode cL_law 333 = .ok (.iaload, 1) := by decide +kernel
theorem dL_law_334 : decode cL_law 334 = .ok (.invokevirtual 34, 3) := by decide +kernel
theorem dL_law_337 : decode cL_law 337 = .ok (.aload_n 2, 1) := by decide +kernel
theorem dL_law_338 : decode cL_law 338 = .ok (.aload_n 0, 1) := by decide +kernel
theorem dL_law_339 : decode cL_law 339 = .ok (.iload 4, 2) := by decide +kernel
theorem dL_law_341 : decode cL_law 341 = .ok (.iconst 1, 1) := by decide +kernel
theorem dL_law_342 : decode cL_law 342 = .ok (.iadd, 1) := by decide +kernel
theorem dL_law_343 : decode cL_law 343 = .ok (.iaload, 1) := by decide +kernel
theorem dL_law_344 : decode cL_law 344 = .ok (.invokevirtual 37, 3) := by decide +kernel
theorem dL_law_347 : decode cL_law 347 = .ok (.if_icmp .eq 1013, 3) := by decide +kernel
theorem dL_law_350 : decode cL_law 350 = .ok (.iconst 0, 1) := by decide +kernel
theorem dL_law_351 : decode cL_law 351 = .ok (.ireturn, 1) := by decide +kernel
theorem dL_law_352 : decode cL_law 352 = .ok (.aload_n 1, 1) := by decide +kernel
theorem dL_law_353 : decode cL_law 353 = .ok (.aload_n 0, 1) := by decide +kernel
theorem dL_law_354 : decode cL_law 354 = .ok (.iload 4, 2) := by decide +kernel
theorem dL_law_356 : decode cL_law 356 = .ok (.iconst 1, 1) := by decide +kernel
theorem dL_law_357 : decode cL_law 357 = .ok (.iadd, 1) := by decide +kernel
theorem dL_law_358 : decode cL_law 358 = .ok (.iaload, 1) := by decide +kernel
theorem dL_law_359 : decode cL_law 359 = .ok (.invokevirtual 38, 3) := by decide +kernel
theorem dL_law_362 : decode cL_law 362 = .ok (.aload_n 2, 1) := by decide +kernel
theorem dL_law_363 : decode cL_law 363 = .ok (.aload_n 0, 1) := by decide +kernel
theorem dL_law_364 : decode cL_law 364 = .ok (.iload 4, 2) := by decide +kernel
theorem dL_law_366 : decode cL_law 366 = .ok (.iconst 1, 1) := by decide +kernel
theorem dL_law_367 : decode cL_law 367 = .ok (.iadd, 1) := by decide +kernel
theorem dL_law_368 : decode cL_law 368 = .ok (.iaload, 1) := by decide +kernel
theorem dL_law_369 : decode cL_law 369 = .ok (.invokevirtual 41, 3) := by decide +kernel
theorem dL_law_372 : decode cL_law 372 = .ok (.if_icmp .eq 988, 3) := by decide +kernel
theorem dL_law_375 : decode cL_law 375 = .ok (.iconst 0, 1) := by decide +kernel
theorem dL_law_376 : decode cL_law 376 = .ok (.ireturn, 1) := by decide +kernel
theorem dL_law_377 : decode cL_law 377 = .ok (.aload_n 1, 1) := by decide +kernel
theorem dL_law_378 : decode cL_law 378 = .ok (.aload_n 0, 1) := by decide +kernel
theorem dL_law_379 : decode cL_law 379 = .ok (.iload 4, 2) := by decide +kernel
theorem dL_law_381 : decode cL_law 381 = .ok (.iconst 1, 1) := by decide +kernel
theorem dL_law_382 : decode cL_law 382 = .ok (.iadd, 1) := by decide +kernel
theorem dL_law_383 : decode cL_law 383 = .ok (.iaload, 1) := by decide +kernel
theorem dL_law_384 : decode cL_law 384 = .ok (.aload_n 0, 1) := by decide +kernel
theorem dL_law_385 : decode cL_law 385 = .ok (.iload 4, 2) := by decide +kernel
theorem dL_law_387 : decode cL_law 387 = .ok (.iconst 2, 1) := by decide +kernel
theorem dL_law_388 : decode cL_law 388 = .ok (.iadd, 1) := by decide +kernel
theorem dL_law_389 : decode cL_law 389 = .ok (.iaload, 1) := by decide +kernel
theorem dL_law_390 : decode cL_law 390 = .ok (.aload_n 3, 1) := by decide +kernel
theorem dL_law_391 : decode cL_law 391 = .ok (.invokestatic 42, 3) := by decide +kernel
theorem dL_law_394 : decode cL_law 394 = .ok (.istore 5, 2) := by decide +kernel
theorem dL_law_396 : decode cL_law 396 = .ok (.aload_n 2, 1) := by decide +kernel
theorem dL_law_397 : decode cL_law 397 = .ok (.aload_n 0, 1) := by decide +kernel
theorem dL_law_398 : decode cL_law 398 = .ok (.iload 4, 2) := by decide +kernel
theorem dL_law_400 : decode cL_law 400 = .ok (.iconst 1, 1) := by decide +kernel
theorem dL_law_401 : decode cL_law 401 = .ok (.iadd, 1) := by decide +kernel
theorem dL_law_402 : decode cL_law 402 = .ok (.iaload, 1) := by decide +kernel
theorem dL_law_403 : decode cL_law 403 = .ok (.aload_n 0, 1) := by decide +kernel
theorem dL_law_404 : decode cL_law 404 = .ok (.iload 4, 2) := by decide +kernel
theorem dL_law_406 : decode cL_law 406 = .ok (.iconst 2, 1) := by decide +kernel
theorem dL_law_407 : decode cL_law 407 = .ok (.iadd, 1) := by decide +kernel
theorem dL_law_408 : decode cL_law 408 = .ok (.iaload, 1) := by decide +kernel
theorem dL_law_409 : decode cL_law 409 = .ok (.invokevirtual 47, 3) := by decide +kernel
theorem dL_law_412 : decode cL_law 412 = .ok (.istore 6, 2) := by decide +kernel
theorem dL_law_414 : decode cL_law 414 = .ok (.aload_n 2, 1) := by decide +kernel
theorem dL_law_415 : decode cL_law 415 = .ok (.invokevirtual 48, 3) := by decide +kernel
theorem dL_law_418 : decode cL_law 418 = .ok (.iload 5, 2) := by decide +kernel
theorem dL_law_420 : decode cL_law 420 = .ok (.if_icmp .eq 5, 3) := by decide +kernel
theorem dL_law_423 : decode cL_law 423 = .ok (.iconst 0, 1) := by decide +kernel
theorem dL_law_424 : decode cL_law 424 = .ok (.ireturn, 1) := by decide +kernel
theorem dL_law_425 : decode cL_law 425 = .ok (.iload 5, 2) := by decide +kernel
theorem dL_law_427 : decode cL_law 427 = .ok (.ifCond .ne 15, 3) := by decide +kernel
theorem dL_law_430 : decode cL_law 430 = .ok (.aload_n 3, 1) := by decide +kernel
theorem dL_law_431 : decode cL_law 431 = .ok (.iconst 0, 1) := by decide +kernel
theorem dL_law_432 : decode cL_law 432 = .ok (.laload, 1) := by decide +kernel
theorem dL_law_433 : decode cL_law 433 = .ok (.iload 6, 2) := by decide +kernel
theorem dL_law_435 : decode cL_law 435 = .ok (.i2l, 1) := by decide +kernel
theorem dL_law_436 : decode cL_law 436 = .ok (.lcmp, 1) := by decide +kernel
theorem dL_law_437 : decode cL_law 437 = .ok (.ifCond .eq 5, 3) := by decide +kernel
theorem dL_law_440 : decode cL_law 440 = .ok (.iconst 0, 1) := by decide +kernel
theorem dL_law_441 : decode cL_law 441 = .ok (.ireturn, 1) := by decide +kernel
theorem dL_law_442 : decode cL_law 442 = .ok (.goto 918, 3) := by decide +kernel
theorem dL_law_445 : decode cL_law 445 = .ok (.aload_n 1, 1) := by decide +kernel
theorem dL_law_446 : decode cL_law 446 = .ok (.aload_n 0, 1) := by decide +kernel
theorem dL_law_447 : decode cL_law 447 = .ok (.iload 4, 2) := by decide +kernel
theorem dL_law_449 : decode cL_law 449 = .ok (.iconst 1, 1) := by decide +kernel
theorem dL_law_450 : decode cL_law 450 = .ok (.iadd, 1) := by decide +kernel
theorem dL_law_451 : decode cL_law 451 = .ok (.iaload, 1) := by decide +kernel
theorem dL_law_452 : decode cL_law 452 = .ok (.aload_n 0, 1) := by decide +kernel
theorem dL_law_453 : decode cL_law 453 = .ok (.iload 4, 2) := by decide +kernel
theorem dL_law_455 : decode cL_law 455 = .ok (.iconst 2, 1) := by decide +kernel
theorem dL_law_456 : decode cL_law 456 = .ok (.iadd, 1) := by decide +kernel
theorem dL_law_457 : decode cL_law 457 = .ok (.iaload, 1) := by decide +kernel
theorem dL_law_458 : decode cL_law 458 = .ok (.invokevirtual 52, 3) := by decide +kernel
theorem dL_law_461 : decode cL_law 461 = .ok (.aload_n 2, 1) := by decide +kernel
theorem dL_law_462 : decode cL_law 462 = .ok (.aload_n 0, 1) := by decide +kernel
theorem dL_law_463 : decode cL_law 463 = .ok (.iload 4, 2) := by decide +kernel
theorem dL_law_465 : decode cL_law 465 = .ok (.iconst 1, 1) := by decide +kernel
theorem dL_law_466 : decode cL_law 466 = .ok (.iadd, 1) := by decide +kernel
theorem dL_law_467 : decode cL_law 467 = .ok (.iaload, 1) := by decide +kernel
theorem dL_law_468 : decode cL_law 468 = .ok (.aload_n 0, 1) := by decide +kernel
theorem dL_law_469 : decode cL_law 469 = .ok (.iload 4, 2) := by decide +kernel
theorem dL_law_471 : decode cL_law 471 = .ok (.iconst 2, 1) := by decide +kernel
theorem dL_law_472 : decode cL_law 472 = .ok (.iadd, 1) := by decide +kernel
theorem dL_law_473 : decode cL_law 473 = .ok (.iaload, 1) := by decide +kernel
theorem dL_law_474 : decode cL_law 474 = .ok (.invokevirtual 55, 3) := by decide +kernel
theorem dL_law_477 : decode cL_law 477 = .ok (.if_icmp .eq 883, 3) := by decide +kernel
theorem dL_law_480 : decode cL_law 480 = .ok (.iconst 0, 1) := by decide +kernel
theorem dL_law_481 : decode cL_law 481 = .ok (.ireturn, 1) := by decide +kernel
theorem dL_law_482 : decode cL_law 482 = .ok (.aload_n 1, 1) := by decide +kernel
theorem dL_law_483 : decode cL_law 483 = .ok (.aload_n 0, 1) := by decide +kernel
theorem dL_law_484 : decode cL_law 484 = .ok (.iload 4, 2) := by decide +kernel
theorem dL_law_486 : decode cL_law 486 = .ok (.iconst 1, 1) := by decide +kernel
theorem dL_law_487 : decode cL_law 487 = .ok (.iadd, 1) := by decide +kernel
theorem dL_law_488 : decode cL_law 488 = .ok (.iaload, 1) := by decide +kernel
theorem dL_law_489 : decode cL_law 489 = .ok (.aload_n 0, 1) := by decide +kernel
theorem dL_law_490 : decode cL_law 490 = .ok (.iload 4, 2) := by decide +kernel
theorem dL_law_492 : decode cL_law 492 = .ok (.iconst 2, 1) := by decide +kernel
theorem dL_law_493 : decode cL_law 493 = .ok (.iadd, 1) := by decide +kernel
theorem dL_law_494 : decode cL_law 494 = .ok (.iaload, 1) := by decide +kernel
theorem dL_law_495 : decode cL_law 495 = .ok (.invokevirtual 56, 3) := by decide +kernel
theorem dL_law_498 : decode cL_law 498 = .ok (.aload_n 2, 1) := by decide +kernel
theorem dL_law_499 : decode cL_law 499 = .ok (.aload_n 0, 1) := by decide +kernel
theorem dL_law_500 : decode cL_law 500 = .ok (.iload 4, 2) := by decide +kernel
theorem dL_law_502 : decode cL_law 502 = .ok (.iconst 1, 1) := by decide +kernel
theorem dL_law_503 : decode cL_law 503 = .ok (.iadd, 1) := by decide +kernel
theorem dL_law_504 : decode cL_law 504 = .ok (.iaload, 1) := by decide +kernel
theorem dL_law_505 : decode cL_law 505 = .ok (.aload_n 0, 1) := by decide +kernel
theorem dL_law_506 : decode cL_law 506 = .ok (.iload 4, 2) := by decide +kernel
theorem dL_law_508 : decode cL_law 508 = .ok (.iconst 2, 1) := by decide +kernel
theorem dL_law_509 : decode cL_law 509 = .ok (.iadd, 1) := by decide +kernel
theorem dL_law_510 : decode cL_law 510 = .ok (.iaload, 1) := by decide +kernel
theorem dL_law_511 : decode cL_law 511 = .ok (.invokevirtual 59, 3) := by decide +kernel
theorem dL_law_514 : decode cL_law 514 = .ok (.if_icmp .eq 846, 3) := by decide +kernel
theorem dL_law_517 : decode cL_law 517 = .ok (.iconst 0, 1) := by decide +kernel
theorem dL_law_518 : decode cL_law 518 = .ok (.ireturn, 1) := by decide +kernel
theorem dL_law_519 : decode cL_law 519 = .ok (.aload_n 1, 1) := by decide +kernel
theorem dL_law_520 : decode cL_law 520 = .ok (.aload_n 0, 1) := by decide +kernel
theorem dL_law_521 : decode cL_law 521 = .ok (.iload 4, 2) := by decide +kernel
theorem dL_law_523 : decode cL_law 523 = .ok (.iconst 1, 1) := by decide +kernel
theorem dL_law_524 : decode cL_law 524 = .ok (.iadd, 1) := by decide +kernel
theorem dL_law_525 : decode cL_law 525 = .ok (.iaload, 1) := by decide +kernel
theorem dL_law_526 : decode cL_law 526 = .ok (.invokevirtual 60, 3) := by decide +kernel
theorem dL_law_529 : decode cL_law 529 = .ok (.aload_n 2, 1) := by decide +kernel
theorem dL_law_530 : decode cL_law 530 = .ok (.aload_n 0, 1) := by decide +kernel
theorem dL_law_531 : decode cL_law 531 = .ok (.iload 4, 2) := by decide +kernel
theorem dL_law_533 : decode cL_law 533 = .ok (.iconst 1, 1) := by decide +kernel
theorem dL_law_534 : decode cL_law 534 = .ok (.iadd, 1) := by decide +kernel
theorem dL_law_535 : decode cL_law 535 = .ok (.iaload, 1) := by decide +kernel
theorem dL_law_536 : decode cL_law 536 = .ok (.invokevirtual 63, 3) := by decide +kernel
theorem dL_law_539 : decode cL_law 539 = .ok (.if_icmp .eq 821, 3) := by decide +kernel
theorem dL_law_542 : decode cL_law 542 = .ok (.iconst 0, 1) := by decide +kernel
theorem dL_law_543 : decode cL_law 543 = .ok (.ireturn, 1) := by decide +kernel
theorem dL_law_544 : decode cL_law 544 = .ok (.aload_n 1, 1) := by decide +kernel
theorem dL_law_545 : decode cL_law 545 = .ok (.aload_n 0, 1) := by decide +kernel
theorem dL_law_546 : decode cL_law 546 = .ok (.iload 4, 2) := by decide +kernel
theorem dL_law_548 : decode cL_law 548 = .ok (.iconst 1, 1) := by decide +kernel
theorem dL_law_549 : decode cL_law 549 = .ok (.iadd, 1) := by decide +kernel
theorem dL_law_550 : decode cL_law 550 = .ok (.iaload, 1) := by decide +kernel
theorem dL_law_551 : decode cL_law 551 = .ok (.invokevirtual 64, 3) := by decide +kernel
theorem dL_law_554 : decode cL_law 554 = .ok (.aload_n 2, 1) := by decide +kernel
theorem dL_law_555 : decode cL_law 555 = .ok (.aload_n 0, 1) := by decide +kernel
theorem dL_law_556 : decode cL_law 556 = .ok (.iload 4, 2) := by decide +kernel
theorem dL_law_558 : decode cL_law 558 = .ok (.iconst 1, 1) := by decide +kernel
theorem dL_law_559 : decode cL_law 559 = .ok (.iadd, 1) := by decide +kernel
theorem dL_law_560 : decode cL_law 560 = .ok (.iaload, 1) := by decide +kernel
theorem dL_law_561 : decode cL_law 561 = .ok (.invokevirtual 67, 3) := by decide +kernel
theorem dL_law_564 : decode cL_law 564 = .ok (.if_icmp .eq 796, 3) := by decide +kernel
theorem dL_law_567 : decode cL_law 567 = .ok (.iconst 0, 1) := by decide +kernel
theorem dL_law_568 : decode cL_law 568 = .ok (.ireturn, 1) := by decide +kernel
theorem dL_law_569 : decode cL_law 569 = .ok (.aload_n 1, 1) := by decide +kernel
theorem dL_law_570 : decode cL_law 570 = .ok (.aload_n 0, 1) := by decide +kernel
theorem dL_law_571 : decode cL_law 571 = .ok (.iload 4, 2) := by decide +kernel
theorem dL_law_573 : decode cL_law 573 = .ok (.iconst 1, 1) := by decide +kernel
theorem dL_law_574 : decode cL_law 574 = .ok (.iadd, 1) := by decide +kernel
theorem dL_law_575 : decode cL_law 575 = .ok (.iaload, 1) := by decide +kernel
theorem dL_law_576 : decode cL_law 576 = .ok (.aload_n 0, 1) := by decide +kernel
theorem dL_law_577 : decode cL_law 577 = .ok (.iload 4, 2) := by decide +kernel
theorem dL_law_579 : decode cL_law 579 = .ok (.iconst 2, 1) := by decide +kernel
theorem dL_law_580 : decode cL_law 580 = .ok (.iadd, 1) := by decide +kernel
theorem dL_law_581 : decode cL_law 581 = .ok (.iaload, 1) := by decide +kernel
theorem dL_law_582 : decode cL_law 582 = .ok (.invokevirtual 68, 3) := by decide +kernel
theorem dL_law_585 : decode cL_law 585 = .ok (.aload_n 2, 1) := by decide +kernel
theorem dL_law_586 : decode cL_law 586 = .ok (.aload_n 0, 1) := by decide +kernel
theorem dL_law_587 : decode cL_law 587 = .ok (.iload 4, 2) := by decide +kernel
theorem dL_law_589 : decode cL_law 589 = .ok (.iconst 1, 1) := by decide +kernel
theorem dL_law_590 : decode cL_law 590 = .ok (.iadd, 1) := by decide +kernel
theorem dL_law_591 : decode cL_law 591 = .ok (.iaload, 1) := by decide +kernel
theorem dL_law_592 : decode cL_law 592 = .ok (.aload_n 0, 1) := by decide +kernel
theorem dL_law_593 : decode cL_law 593 = .ok (.iload 4, 2) := by decide +kernel
theorem dL_law_595 : decode cL_law 595 = .ok (.iconst 2, 1) := by decide +kernel
theorem dL_law_596 : decode cL_law 596 = .ok (.iadd, 1) := by decide +kernel
theorem dL_law_597 : decode cL_law 597 = .ok (.iaload, 1) := by decide +kernel
theorem dL_law_598 : decode cL_law 598 = .ok (.invokevirtual 71, 3) := by decide +kernel
theorem dL_law_601 : decode cL_law 601 = .ok (.if_icmp .eq 759, 3) := by decide +kernel
theorem dL_law_604 : decode cL_law 604 = .ok (.iconst 0, 1) := by decide +kernel
theorem dL_law_605 : decode cL_law 605 = .ok (.ireturn, 1) := by decide +kernel
theorem dL_law_606 : decode cL_law 606 = .ok (.aload_n 1, 1) := by decide +kernel
theorem dL_law_607 : decode cL_law 607 = .ok (.aload_n 0, 1) := by decide +kernel
theorem dL_law_608 : decode cL_law 608 = .ok (.iload 4, 2) := by decide +kernel
theorem dL_law_610 : decode cL_law 610 = .ok (.iconst 1, 1) := by decide +kernel
theorem dL_law_611 : decode cL_law 611 = .ok (.iadd, 1) := by decide +kernel
theorem dL_law_612 : decode cL_law 612 = .ok (.iaload, 1) := by decide +kernel
theorem dL_law_613 : decode cL_law 613 = .ok (.invokevirtual 72, 3) := by decide +kernel
theorem dL_law_616 : decode cL_law 616 = .ok (.aload_n 2, 1) := by decide +kernel
theorem dL_law_617 : decode cL_law 617 = .ok (.aload_n 0, 1) := by decide +kernel
theorem dL_law_618 : decode cL_law 618 = .ok (.iload 4, 2) := by decide +kernel
theorem dL_law_620 : decode cL_law 620 = .ok (.iconst 1, 1) := by decide +kernel
theorem dL_law_621 : decode cL_law 621 = .ok (.iadd, 1) := by decide +kernel
theorem dL_law_622 : decode cL_law 622 = .ok (.iaload, 1) := by decide +kernel
theorem dL_law_623 : decode cL_law 623 = .ok (.invokevirtual 75, 3) := by decide +kernel
theorem dL_law_626 : decode cL_law 626 = .ok (.if_icmp .eq 734, 3) := by decide +kernel
theorem dL_law_629 : decode cL_law 629 = .ok (.iconst 0, 1) := by decide +kernel
theorem dL_law_630 : decode cL_law 630 = .ok (.ireturn, 1) := by decide +kernel
theorem dL_law_631 : decode cL_law 631 = .ok (.aload_n 1, 1) := by decide +kernel
theorem dL_law_632 : decode cL_law 632 = .ok (.aload_n 0, 1) := by decide +kernel
theorem dL_law_633 : decode cL_law 633 = .ok (.iload 4, 2) := by decide +kernel
theorem dL_law_635 : decode cL_law 635 = .ok (.iconst 1, 1) := by decide +kernel
theorem dL_law_636 : decode cL_law 636 = .ok (.iadd, 1) := by decide +kernel
theorem dL_law_637 : decode cL_law 637 = .ok (.iaload, 1) := by decide +kernel
theorem dL_law_638 : decode cL_law 638 = .ok (.invokevirtual 76, 3) := by decide +kernel
theorem dL_law_641 : decode cL_law 641 = .ok (.aload_n 2, 1) := by decide +kernel
theorem dL_law_642 : decode cL_law 642 = .ok (.aload_n 0, 1) := by decide +kernel
theorem dL_law_643 : decode cL_law 643 = .ok (.iload 4, 2) := by decide +kernel
theorem dL_law_645 : decode cL_law 645 = .ok (.iconst 1, 1) := by decide +kernel
theorem dL_law_646 : decode cL_law 646 = .ok (.iadd, 1) := by decide +kernel
theorem dL_law_647 : decode cL_law 647 = .ok (.iaload, 1) := by decide +kernel
theorem dL_law_648 : decode cL_law 648 = .ok (.invokevirtual 79, 3) := by decide +kernel
theorem dL_law_651 : decode cL_law 651 = .ok (.if_icmp .eq 709, 3) := by decide +kernel
theorem dL_law_654 : decode cL_law 654 = .ok (.iconst 0, 1) := by decide +kernel
theorem dL_law_655 : decode cL_law 655 = .ok (.ireturn, 1) := by decide +kernel
theorem dL_law_656 : decode cL_law 656 = .ok (.aload_n 1, 1) := by decide +kernel
theorem dL_law_657 : decode cL_law 657 = .ok (.aload_n 0, 1) := by decide +kernel
theorem dL_law_658 : decode cL_law 658 = .ok (.iload 4, 2) := by decide +kernel
theorem dL_law_660 : decode cL_law 660 = .ok (.iconst 1, 1) := by decide +kernel
theorem dL_law_661 : decode cL_law 661 = .ok (.iadd, 1) := by decide +kernel
theorem dL_law_662 : decode cL_law 662 = .ok (.iaload, 1) := by decide +kernel
theorem dL_law_663 : decode cL_law 663 = .ok (.invokevirtual 80, 3) := by decide +kernel
theorem dL_law_666 : decode cL_law 666 = .ok (.aload_n 2, 1) := by decide +kernel
theorem dL_law_667 : decode cL_law 667 = .ok (.aload_n 0, 1) := by decide +kernel
theorem dL_law_668 : decode cL_law 668 = .ok (.iload 4, 2) := by decide +kernel
theorem dL_law_670 : decode cL_law 670 = .ok (.iconst 1, 1) := by decide +kernel
theorem dL_law_671 : decode cL_law 671 = .ok (.iadd, 1) := by decide +kernel
theorem dL_law_672 : decode cL_law 672 = .ok (.iaload, 1) := by decide +kernel
theorem dL_law_673 : decode cL_law 673 = .ok (.invokevirtual 83, 3) := by decide +kernel
theorem dL_law_676 : decode cL_law 676 = .ok (.if_icmp .eq 684, 3) := by decide +kernel
theorem dL_law_679 : decode cL_law 679 = .ok (.iconst 0, 1) := by decide +kernel
theorem dL_law_680 : decode cL_law 680 = .ok (.ireturn, 1) := by decide +kernel
theorem dL_law_681 : decode cL_law 681 = .ok (.aload_n 1, 1) := by decide +kernel
theorem dL_law_682 : decode cL_law 682 = .ok (.aload_n 0, 1) := by decide +kernel
theorem dL_law_683 : decode cL_law 683 = .ok (.iload 4, 2) := by decide +kernel
theorem dL_law_685 : decode cL_law 685 = .ok (.iconst 1, 1) := by decide +kernel
theorem dL_law_686 : decode cL_law 686 = .ok (.iadd, 1) := by decide +kernel
theorem dL_law_687 : decode cL_law 687 = .ok (.iaload, 1) := by decide +kernel
theorem dL_law_688 : decode cL_law 688 = .ok (.aload_n 0, 1) := by decide +kernel
theorem dL_law_689 : decode cL_law 689 = .ok (.iload 4, 2) := by decide +kernel
theorem dL_law_691 : decode cL_law 691 = .ok (.iconst 2, 1) := by decide +kernel
theorem dL_law_692 : decode cL_law 692 = .ok (.iadd, 1) := by decide +kernel
theorem dL_law_693 : decode cL_law 693 = .ok (.iaload, 1) := by decide +kernel
theorem dL_law_694 : decode cL_law 694 = .ok (.i2l, 1) := by decide +kernel
theorem dL_law_695 : decode cL_law 695 = .ok (.bipush 32, 2) := by decide +kernel
theorem dL_law_697 : decode cL_law 697 = .ok (.lshl, 1) := by decide +kernel
theorem dL_law_698 : decode cL_law 698 = .ok (.aload_n 0, 1) := by decide +kernel
theorem dL_law_699 : decode cL_law 699 = .ok (.iload 4, 2) := by decide +kernel
theorem dL_law_701 : decode cL_law 701 = .ok (.iconst 3, 1) := by decide +kernel
theorem dL_law_702 : decode cL_law 702 = .ok (.iadd, 1) := by decide +kernel
theorem dL_law_703 : decode cL_law 703 = .ok (.iaload, 1) := by decide +kernel
theorem dL_law_704 : decode cL_law 704 = .ok (.i2l, 1) := by decide +kernel
theorem dL_law_705 : decode cL_law 705 = .ok (.ldc2_w 84, 3) := by decide +kernel
theorem dL_law_708 : decode cL_law 708 = .ok (.land, 1) := by decide +kernel
theorem dL_law_709 : decode cL_law 709 = .ok (.lor, 1) := by decide +kernel
theorem dL_law_710 : decode cL_law 710 = .ok (.invokevirtual 86, 3) := by decide +kernel
theorem dL_law_713 : decode cL_law 713 = .ok (.aload_n 2, 1) := by decide +kernel
theorem dL_law_714 : decode cL_law 714 = .ok (.aload_n 0, 1) := by decide +kernel
theorem dL_law_715 : decode cL_law 715 = .ok (.iload 4, 2) := by decide +kernel
theorem dL_law_717 : decode cL_law 717 = .ok (.iconst 1, 1) := by decide +kernel
theorem dL_law_718 : decode cL_law 718 = .ok (.iadd, 1) := by decide +kernel
theorem dL_law_719 : decode cL_law 719 = .ok (.iaload, 1) := by decide +kernel
theorem dL_law_720 : decode cL_law 720 = .ok (.aload_n 0, 1) := by decide +kernel
theorem dL_law_721 : decode cL_law 721 = .ok (.iload 4, 2) := by decide +kernel
theorem dL_law_723 : decode cL_law 723 = .ok (.iconst 2, 1) := by decide +kernel
theorem dL_law_724 : decode cL_law 724 = .ok (.iadd, 1) := by decide +kernel
theorem dL_law_725 : decode cL_law 725 = .ok (.iaload, 1) := by decide +kernel
theorem dL_law_726 : decode cL_law 726 = .ok (.i2l, 1) := by decide +kernel
theorem dL_law_727 : decode cL_law 727 = .ok (.bipush 32, 2) := by decide +kernel
theorem dL_law_729 : decode cL_law 729 = .ok (.lshl, 1) := by decide +kernel
theorem dL_law_730 : decode cL_law 730 = .ok (.aload_n 0, 1) := by decide +kernel
theorem dL_law_731 : decode cL_law 731 = .ok (.iload 4, 2) := by decide +kernel
theorem dL_law_733 : decode cL_law 733 = .ok (.iconst 3, 1) := by decide +kernel
theorem dL_law_734 : decode cL_law 734 = .ok (.iadd, 1) := by decide +kernel
theorem dL_law_735 : decode cL_law 735 = .ok (.iaload, 1) := by decide +kernel
theorem dL_law_736 : decode cL_law 736 = .ok (.i2l, 1) := by decide +kernel
theorem dL_law_737 : decode cL_law 737 = .ok (.ldc2_w 84, 3) := by decide +kernel
theorem dL_law_740 : decode cL_law 740 = .ok (.land, 1) := by decide +kernel
theorem dL_law_741 : decode cL_law 741 = .ok (.lor, 1) := by decide +kernel
theorem dL_law_742 : decode cL_law 742 = .ok (.invokevirtual 90, 3) := by decide +kernel
theorem dL_law_745 : decode cL_law 745 = .ok (.if_icmp .eq 615, 3) := by decide +kernel
theorem dL_law_748 : decode cL_law 748 = .ok (.iconst 0, 1) := by decide +kernel
theorem dL_law_749 : decode cL_law 749 = .ok (.ireturn, 1) := by decide +kernel
theorem dL_law_750 : decode cL_law 750 = .ok (.aload_n 1, 1) := by decide +kernel
theorem dL_law_751 : decode cL_law 751 = .ok (.invokevirtual 91, 3) := by decide +kernel
theorem dL_law_754 : decode cL_law 754 = .ok (.aload_n 2, 1) := by decide +kernel
theorem dL_law_755 : decode cL_law 755 = .ok (.invokevirtual 94, 3) := by decide +kernel
theorem dL_law_758 : decode cL_law 758 = .ok (.if_icmp .eq 602, 3) := by decide +kernel
theorem dL_law_761 : decode cL_law 761 = .ok (.iconst 0, 1) := by decide +kernel
theorem dL_law_762 : decode cL_law 762 = .ok (.ireturn, 1) := by decide +kernel
theorem dL_law_763 : decode cL_law 763 = .ok (.aload_n 1, 1) := by decide +kernel
theorem dL_law_764 : decode cL_law 764 = .ok (.aload_n 0, 1) := by decide +kernel
theorem dL_law_765 : decode cL_law 765 = .ok (.iload 4, 2) := by decide +kernel
theorem dL_law_767 : decode cL_law 767 = .ok (.iconst 1, 1) := by decide +kernel
theorem dL_law_768 : decode cL_law 768 = .ok (.iadd, 1) := by decide +kernel
theorem dL_law_769 : decode cL_law 769 = .ok (.iaload, 1) := by decide +kernel
theorem dL_law_770 : decode cL_law 770 = .ok (.aload_n 0, 1) := by decide +kernel
theorem dL_law_771 : decode cL_law 771 = .ok (.iload 4, 2) := by decide +kernel
theorem dL_law_773 : decode cL_law 773 = .ok (.iconst 2, 1) := by decide +kernel
theorem dL_law_774 : decode cL_law 774 = .ok (.iadd, 1) := by decide +kernel
theorem dL_law_775 : decode cL_law 775 = .ok (.iaload, 1) := by decide +kernel
theorem dL_law_776 : decode cL_law 776 = .ok (.invokevirtual 95, 3) := by decide +kernel
theorem dL_law_779 : decode cL_law 779 = .ok (.aload_n 2, 1) := by decide +kernel
theorem dL_law_780 : decode cL_law 780 = .ok (.aload_n 0, 1) := by decide +kernel
theorem dL_law_781 : decode cL_law 781 = .ok (.iload 4, 2) := by decide +kernel
theorem dL_law_783 : decode cL_law 783 = .ok (.iconst 1, 1) := by decide +kernel
theorem dL_law_784 : decode cL_law 784 = .ok (.iadd, 1) := by decide +kernel
theorem dL_law_785 : decode cL_law 785 = .ok (.iaload, 1) := by decide +kernel
theorem dL_law_786 : decode cL_law 786 = .ok (.aload_n 0, 1) := by decide +kernel
theorem dL_law_787 : decode cL_law 787 = .ok (.iload 4, 2) := by decide +kernel
theorem dL_law_789 : decode cL_law 789 = .ok (.iconst 2, 1) := by decide +kernel
theorem dL_law_790 : decode cL_law 790 = .ok (.iadd, 1) := by decide +kernel
theorem dL_law_791 : decode cL_law 791 = .ok (.iaload, 1) := by decide +kernel
theorem dL_law_792 : decode cL_law 792 = .ok (.invokevirtual 98, 3) := by decide +kernel
theorem dL_law_795 : decode cL_law 795 = .ok (.if_icmp .eq 565, 3) := by decide +kernel
theorem dL_law_798 : decode cL_law 798 = .ok (.iconst 0, 1) := by decide +kernel
theorem dL_law_799 : decode cL_law 799 = .ok (.ireturn, 1) := by decide +kernel
theorem dL_law_800 : decode cL_law 800 = .ok (.aload_n 1, 1) := by decide +kernel
theorem dL_law_801 : decode cL_law 801 = .ok (.aload_n 0, 1) := by decide +kernel
theorem dL_law_802 : decode cL_law 802 = .ok (.iload 4, 2) := by decide +kernel
theorem dL_law_804 : decode cL_law 804 = .ok (.iconst 1, 1) := by decide +kernel
theorem dL_law_805 : decode cL_law 805 = .ok (.iadd, 1) := by decide +kernel
theorem dL_law_806 : decode cL_law 806 = .ok (.iaload, 1) := by decide +kernel
theorem dL_law_807 : decode cL_law 807 = .ok (.aload_n 0, 1) := by decide +kernel
theorem dL_law_808 : decode cL_law 808 = .ok (.iload 4, 2) := by decide +kernel
theorem dL_law_810 : decode cL_law 810 = .ok (.iconst 2, 1) := by decide +kernel
theorem dL_law_811 : decode cL_law 811 = .ok (.iadd, 1) := by decide +kernel
theorem dL_law_812 : decode cL_law 812 = .ok (.iaload, 1) := by decide +kernel
theorem dL_law_813 : decode cL_law 813 = .ok (.aload_n 0, 1) := by decide +kernel
theorem dL_law_814 : decode cL_law 814 = .ok (.iload 4, 2) := by decide +kernel
theorem dL_law_816 : decode cL_law 816 = .ok (.iconst 3, 1) := by decide +kernel
theorem dL_law_817 : decode cL_law 817 = .ok (.iadd, 1) := by decide +kernel
theorem dL_law_818 : decode cL_law 818 = .ok (.iaload, 1) := by decide +kernel
theorem dL_law_819 : decode cL_law 819 = .ok (.invokevirtual 99, 3) := by decide +kernel
theorem dL_law_822 : decode cL_law 822 = .ok (.aload_n 2, 1) := by decide +kernel
theorem dL_law_823 : decode cL_law 823 = .ok (.aload_n 0, 1) := by decide +kernel
theorem dL_law_824 : decode cL_law 824 = .ok (.iload 4, 2) := by decide +kernel
theorem dL_law_826 : decode cL_law 826 = .ok (.iconst 1, 1) := by decide +kernel
theorem dL_law_827 : decode cL_law 827 = .ok (.iadd, 1) := by decide +kernel
theorem dL_law_828 : decode cL_law 828 = .ok (.iaload, 1) := by decide +kernel
theorem dL_law_829 : decode cL_law 829 = .ok (.aload_n 0, 1) := by decide +kernel
theorem dL_law_830 : decode cL_law 830 = .ok (.iload 4, 2) := by decide +kernel
theorem dL_law_832 : decode cL_law 832 = .ok (.iconst 2, 1) := by decide +kernel
theorem dL_law_833 : decode cL_law 833 = .ok (.iadd, 1) := by decide +kernel
theorem dL_law_834 : decode cL_law 834 = .ok (.iaload, 1) := by decide +kernel
theorem dL_law_835 : decode cL_law 835 = .ok (.aload_n 0, 1) := by decide +kernel
theorem dL_law_836 : decode cL_law 836 = .ok (.iload 4, 2) := by decide +kernel
theorem dL_law_838 : decode cL_law 838 = .ok (.iconst 3, 1) := by decide +kernel
theorem dL_law_839 : decode cL_law 839 = .ok (.iadd, 1) := by decide +kernel
theorem dL_law_840 : decode cL_law 840 = .ok (.iaload, 1) := by decide +kernel
theorem dL_law_841 : decode cL_law 841 = .ok (.invokevirtual 103, 3) := by decide +kernel
theorem dL_law_844 : decode cL_law 844 = .ok (.if_icmp .eq 516, 3) := by decide +kernel
theorem dL_law_847 : decode cL_law 847 = .ok (.iconst 0, 1) := by decide +kernel
theorem dL_law_848 : decode cL_law 848 = .ok (.ireturn, 1) := by decide +kernel
theorem dL_law_849 : decode cL_law 849 = .ok (.aload_n 1, 1) := by decide +kernel
theorem dL_law_850 : decode cL_law 850 = .ok (.aload_n 0, 1) := by decide +kernel
theorem dL_law_851 : decode cL_law 851 = .ok (.iload 4, 2) := by decide +kernel
theorem dL_law_853 : decode cL_law 853 = .ok (.iconst 1, 1) := by decide +kernel
theorem dL_law_854 : decode cL_law 854 = .ok (.iadd, 1) := by decide +kernel
theorem dL_law_855 : decode cL_law 855 = .ok (.iaload, 1) := by decide +kernel
theorem dL_law_856 : decode cL_law 856 = .ok (.invokevirtual 104, 3) := by decide +kernel
theorem dL_law_859 : decode cL_law 859 = .ok (.aload_n 2, 1) := by decide +kernel
theorem dL_law_860 : decode cL_law 860 = .ok (.aload_n 0, 1) := by decide +kernel
theorem dL_law_861 : decode cL_law 861 = .ok (.iload 4, 2) := by decide +kernel
theorem dL_law_863 : decode cL_law 863 = .ok (.iconst 1, 1) := by decide +kernel
theorem dL_law_864 : decode cL_law 864 = .ok (.iadd, 1) := by decide +kernel
theorem dL_law_865 : decode cL_law 865 = .ok (.iaload, 1) := by decide +kernel
theorem dL_law_866 : decode cL_law 866 = .ok (.invokevirtual 107, 3) := by decide +kernel
theorem dL_law_869 : decode cL_law 869 = .ok (.if_icmp .eq 491, 3) := by decide +kernel
theorem dL_law_872 : decode cL_law 872 = .ok (.iconst 0, 1) := by decide +kernel
theorem dL_law_873 : decode cL_law 873 = .ok (.ireturn, 1) := by decide +kernel
theorem dL_law_874 : decode cL_law 874 = .ok (.aload_n 1, 1) := by decide +kernel
theorem dL_law_875 : decode cL_law 875 = .ok (.aload_n 0, 1) := by decide +kernel
theorem dL_law_876 : decode cL_law 876 = .ok (.iload 4, 2) := by decide +kernel
theorem dL_law_878 : decode cL_law 878 = .ok (.iconst 1, 1) := by decide +kernel
theorem dL_law_879 : decode cL_law 879 = .ok (.iadd, 1) := by decide +kernel
theorem dL_law_880 : decode cL_law 880 = .ok (.iaload, 1) := by decide +kernel
theorem dL_law_881 : decode cL_law 881 = .ok (.invokevirtual 108, 3) := by decide +kernel
theorem dL_law_884 : decode cL_law 884 = .ok (.aload_n 2, 1) := by decide +kernel
theorem dL_law_885 : decode cL_law 885 = .ok (.aload_n 0, 1) := by decide +kernel
theorem dL_law_886 : decode cL_law 886 = .ok (.iload 4, 2) := by decide +kernel
theorem dL_law_888 : decode cL_law 888 = .ok (.iconst 1, 1) := by decide +kernel
theorem dL_law_889 : decode cL_law 889 = .ok (.iadd, 1) := by decide +kernel
theorem dL_law_890 : decode cL_law 890 = .ok (.iaload, 1) := by decide +kernel
theorem dL_law_891 : decode cL_law 891 = .ok (.invokevirtual 111, 3) := by decide +kernel
theorem dL_law_894 : decode cL_law 894 = .ok (.if_icmp .eq 466, 3) := by decide +kernel
theorem dL_law_897 : decode cL_law 897 = .ok (.iconst 0, 1) := by decide +kernel
theorem dL_law_898 : decode cL_law 898 = .ok (.ireturn, 1) := by decide +kernel
theorem dL_law_899 : decode cL_law 899 = .ok (.aload_n 1, 1) := by decide +kernel
theorem dL_law_900 : decode cL_law 900 = .ok (.aload_n 0, 1) := by decide +kernel
theorem dL_law_901 : decode cL_law 901 = .ok (.iload 4, 2) := by decide +kernel
theorem dL_law_903 : decode cL_law 903 = .ok (.iconst 1, 1) := by decide +kernel
theorem dL_law_904 : decode cL_law 904 = .ok (.iadd, 1) := by decide +kernel
theorem dL_law_905 : decode cL_law 905 = .ok (.iaload, 1) := by decide +kernel
theorem dL_law_906 : decode cL_law 906 = .ok (.aload_n 0, 1) := by decide +kernel
theorem dL_law_907 : decode cL_law 907 = .ok (.iload 4, 2) := by decide +kernel
theorem dL_law_909 : decode cL_law 909 = .ok (.iconst 2, 1) := by decide +kernel
theorem dL_law_910 : decode cL_law 910 = .ok (.iadd, 1) := by decide +kernel
theorem dL_law_911 : decode cL_law 911 = .ok (.iaload, 1) := by decide +kernel
theorem dL_law_912 : decode cL_law 912 = .ok (.aload_n 0, 1) := by decide +kernel
theorem dL_law_913 : decode cL_law 913 = .ok (.iload 4, 2) := by decide +kernel
theorem dL_law_915 : decode cL_law 915 = .ok (.iconst 3, 1) := by decide +kernel
theorem dL_law_916 : decode cL_law 916 = .ok (.iadd, 1) := by decide +kernel
theorem dL_law_917 : decode cL_law 917 = .ok (.iaload, 1) := by decide +kernel
theorem dL_law_918 : decode cL_law 918 = .ok (.invokevirtual 112, 3) := by decide +kernel
theorem dL_law_921 : decode cL_law 921 = .ok (.aload_n 2, 1) := by decide +kernel
theorem dL_law_922 : decode cL_law 922 = .ok (.aload_n 0, 1) := by decide +kernel
theorem dL_law_923 : decode cL_law 923 = .ok (.iload 4, 2) := by decide +kernel
theorem dL_law_925 : decode cL_law 925 = .ok (.iconst 1, 1) := by decide +kernel
theorem dL_law_926 : decode cL_law 926 = .ok (.iadd, 1) := by decide +kernel
theorem dL_law_927 : decode cL_law 927 = .ok (.iaload, 1) := by decide +kernel
theorem dL_law_928 : decode cL_law 928 = .ok (.aload_n 0, 1) := by decide +kernel
theorem dL_law_929 : decode cL_law 929 = .ok (.iload 4, 2) := by decide +kernel
theorem dL_law_931 : decode cL_law 931 = .ok (.iconst 2, 1) := by decide +kernel
theorem dL_law_932 : decode cL_law 932 = .ok (.iadd, 1) := by decide +kernel
theorem dL_law_933 : decode cL_law 933 = .ok (.iaload, 1) := by decide +kernel
theorem dL_law_934 : decode cL_law 934 = .ok (.aload_n 0, 1) := by decide +kernel
theorem dL_law_935 : decode cL_law 935 = .ok (.iload 4, 2) := by decide +kernel
theorem dL_law_937 : decode cL_law 937 = .ok (.iconst 3, 1) := by decide +kernel
theorem dL_law_938 : decode cL_law 938 = .ok (.iadd, 1) := by decide +kernel
theorem dL_law_939 : decode cL_law 939 = .ok (.iaload, 1) := by decide +kernel
theorem dL_law_940 : decode cL_law 940 = .ok (.invokevirtual 115, 3) := by decide +kernel
theorem dL_law_943 : decode cL_law 943 = .ok (.if_icmp .eq 417, 3) := by decide +kernel
theorem dL_law_946 : decode cL_law 946 = .ok (.iconst 0, 1) := by decide +kernel
theorem dL_law_947 : decode cL_law 947 = .ok (.ireturn, 1) := by decide +kernel
theorem dL_law_948 : decode cL_law 948 = .ok (.aload_n 1, 1) := by decide +kernel
theorem dL_law_949 : decode cL_law 949 = .ok (.aload_n 0, 1) := by decide +kernel
theorem dL_law_950 : decode cL_law 950 = .ok (.iload 4, 2) := by decide +kernel
theorem dL_law_952 : decode cL_law 952 = .ok (.iconst 1, 1) := by decide +kernel
theorem dL_law_953 : decode cL_law 953 = .ok (.iadd, 1) := by decide +kernel
theorem dL_law_954 : decode cL_law 954 = .ok (.iaload, 1) := by decide +kernel
theorem dL_law_955 : decode cL_law 955 = .ok (.invokevirtual 116, 3) := by decide +kernel
theorem dL_law_958 : decode cL_law 958 = .ok (.aload_n 2, 1) := by decide +kernel
theorem dL_law_959 : decode cL_law 959 = .ok (.aload_n 0, 1) := by decide +kernel
theorem dL_law_960 : decode cL_law 960 = .ok (.iload 4, 2) := by decide +kernel
theorem dL_law_962 : decode cL_law 962 = .ok (.iconst 1, 1) := by decide +kernel
theorem dL_law_963 : decode cL_law 963 = .ok (.iadd, 1) := by decide +kernel
theorem dL_law_964 : decode cL_law 964 = .ok (.iaload, 1) := by decide +kernel
theorem dL_law_965 : decode cL_law 965 = .ok (.invokevirtual 119, 3) := by decide +kernel
theorem dL_law_968 : decode cL_law 968 = .ok (.if_icmp .eq 392, 3) := by decide +kernel
theorem dL_law_971 : decode cL_law 971 = .ok (.iconst 0, 1) := by decide +kernel
theorem dL_law_972 : decode cL_law 972 = .ok (.ireturn, 1) := by decide +kernel
theorem dL_law_973 : decode cL_law 973 = .ok (.aload_n 1, 1) := by decide +kernel
theorem dL_law_974 : decode cL_law 974 = .ok (.invokevirtual 120, 3) := by decide +kernel
theorem dL_law_977 : decode cL_law 977 = .ok (.aload_n 2, 1) := by decide +kernel
theorem dL_law_978 : decode cL_law 978 = .ok (.invokevirtual 123, 3) := by decide +kernel
theorem dL_law_981 : decode cL_law 981 = .ok (.if_icmp .eq 379, 3) := by decide +kernel
theorem dL_law_984 : decode cL_law 984 = .ok (.iconst 0, 1) := by decide +kernel
theorem dL_law_985 : decode cL_law 985 = .ok (.ireturn, 1) := by decide +kernel
theorem dL_law_986 : decode cL_law 986 = .ok (.aload_n 1, 1) := by decide +kernel
theorem dL_law_987 : decode cL_law 987 = .ok (.aload_n 0, 1) := by decide +kernel
theorem dL_law_988 : decode cL_law 988 = .ok (.iload 4, 2) := by decide +kernel
theorem dL_law_990 : decode cL_law 990 = .ok (.iconst 1, 1) := by decide +kernel
theorem dL_law_991 : decode cL_law 991 = .ok (.iadd, 1) := by decide +kernel
theorem dL_law_992 : decode cL_law 992 = .ok (.iaload, 1) := by decide +kernel
theorem dL_law_993 : decode cL_law 993 = .ok (.aload_n 0, 1) := by decide +kernel
theorem dL_law_994 : decode cL_law 994 = .ok (.iload 4, 2) := by decide +kernel
theorem dL_law_996 : decode cL_law 996 = .ok (.iconst 2, 1) := by decide +kernel
theorem dL_law_997 : decode cL_law 997 = .ok (.iadd, 1) := by decide +kernel
theorem dL_law_998 : decode cL_law 998 = .ok (.iaload, 1) := by decide +kernel
theorem dL_law_999 : decode cL_law 999 = .ok (.invokevirtual 124, 3) := by decide +kernel
theorem dL_law_1002 : decode cL_law 1002 = .ok (.aload_n 2, 1) := by decide +kernel
theorem dL_law_1003 : decode cL_law 1003 = .ok (.aload_n 0, 1) := by decide +kernel
theorem dL_law_1004 : decode cL_law 1004 = .ok (.iload 4, 2) := by decide +kernel
theorem dL_law_1006 : decode cL_law 1006 = .ok (.iconst 1, 1) := by decide +kernel
theorem dL_law_1007 : decode cL_law 1007 = .ok (.iadd, 1) := by decide +kernel
theorem dL_law_1008 : decode cL_law 1008 = .ok (.iaload, 1) := by decide +kernel
theorem dL_law_1009 : decode cL_law 1009 = .ok (.aload_n 0, 1) := by decide +kernel
theorem dL_law_1010 : decode cL_law 1010 = .ok (.iload 4, 2) := by decide +kernel
theorem dL_law_1012 : decode cL_law 1012 = .ok (.iconst 2, 1) := by decide +kernel
theorem dL_law_1013 : decode cL_law 1013 = .ok (.iadd, 1) := by decide +kernel
theorem dL_law_1014 : decode cL_law 1014 = .ok (.iaload, 1) := by decide +kernel
theorem dL_law_1015 : decode cL_law 1015 = .ok (.invokevirtual 127, 3) := by decide +kernel
theorem dL_law_1018 : decode cL_law 1018 = .ok (.if_icmp .eq 342, 3) := by decide +kernel
theorem dL_law_1021 : decode cL_law 1021 = .ok (.iconst 0, 1) := by decide +kernel
theorem dL_law_1022 : decode cL_law 1022 = .ok (.ireturn, 1) := by decide +kernel
theorem dL_law_1023 : decode cL_law 1023 = .ok (.aload_n 1, 1) := by decide +kernel
theorem dL_law_1024 : decode cL_law 1024 = .ok (.aload_n 0, 1) := by decide +kernel
theorem dL_law_1025 : decode cL_law 1025 = .ok (.iload 4, 2) := by decide +kernel
theorem dL_law_1027 : decode cL_law 1027 = .ok (.iconst 1, 1) := by decide +kernel
theorem dL_law_1028 : decode cL_law 1028 = .ok (.iadd, 1) := by decide +kernel
theorem dL_law_1029 : decode cL_law 1029 = .ok (.iaload, 1) := by decide +kernel
theorem dL_law_1030 : decode cL_law 1030 = .ok (.invokevirtual 128, 3) := by decide +kernel
theorem dL_law_1033 : decode cL_law 1033 = .ok (.aload_n 2, 1) := by decide +kernel
theorem dL_law_1034 : decode cL_law 1034 = .ok (.aload_n 0, 1) := by decide +kernel
theorem dL_law_1035 : decode cL_law 1035 = .ok (.iload 4, 2) := by decide +kernel
theorem dL_law_1037 : decode cL_law 1037 = .ok (.iconst 1, 1) := by decide +kernel
theorem dL_law_1038 : decode cL_law 1038 = .ok (.iadd, 1) := by decide +kernel
theorem dL_law_1039 : decode cL_law 1039 = .ok (.iaload, 1) := by decide +kernel
theorem dL_law_1040 : decode cL_law 1040 = .ok (.invokevirtual 131, 3) := by decide +kernel
theorem dL_law_1043 : decode cL_law 1043 = .ok (.if_icmp .eq 317, 3) := by decide +kernel
theorem dL_law_1046 : decode cL_law 1046 = .ok (.iconst 0, 1) := by decide +kernel
theorem dL_law_1047 : decode cL_law 1047 = .ok (.ireturn, 1) := by decide +kernel
theorem dL_law_1048 : decode cL_law 1048 = .ok (.aload_n 1, 1) := by decide +kernel
theorem dL_law_1049 : decode cL_law 1049 = .ok (.invokevirtual 132, 3) := by decide +kernel
theorem dL_law_1052 : decode cL_law 1052 = .ok (.aload_n 2, 1) := by decide +kernel
theorem dL_law_1053 : decode cL_law 1053 = .ok (.invokevirtual 135, 3) := by decide +kernel
theorem dL_law_1056 : decode cL_law 1056 = .ok (.if_icmp .eq 304, 3) := by decide +kernel
theorem dL_law_1059 : decode cL_law 1059 = .ok (.iconst 0, 1) := by decide +kernel
theorem dL_law_1060 : decode cL_law 1060 = .ok (.ireturn, 1) := by decide +kernel
theorem dL_law_1061 : decode cL_law 1061 = .ok (.aload_n 1, 1) := by decide +kernel
theorem dL_law_1062 : decode cL_law 1062 = .ok (.aload_n 0, 1) := by decide +kernel
theorem dL_law_1063 : decode cL_law 1063 = .ok (.iload 4, 2) := by decide +kernel
theorem dL_law_1065 : decode cL_law 1065 = .ok (.iconst 1, 1) := by decide +kernel
theorem dL_law_1066 : decode cL_law 1066 = .ok (.iadd, 1) := by decide +kernel
theorem dL_law_1067 : decode cL_law 1067 = .ok (.iaload, 1) := by decide +kernel
theorem dL_law_1068 : decode cL_law 1068 = .ok (.aload_n 0, 1) := by decide +kernel
theorem dL_law_1069 : decode cL_law 1069 = .ok (.iload 4, 2) := by decide +kernel
theorem dL_law_1071 : decode cL_law 1071 = .ok (.iconst 2, 1) := by decide +kernel
theorem dL_law_1072 : decode cL_law 1072 = .ok (.iadd, 1) := by decide +kernel
theorem dL_law_1073 : decode cL_law 1073 = .ok (.iaload, 1) := by decide +kernel
theorem dL_law_1074 : decode cL_law 1074 = .ok (.invokevirtual 136, 3) := by decide +kernel
theorem dL_law_1077 : decode cL_law 1077 = .ok (.aload_n 2, 1) := by decide +kernel
theorem dL_law_1078 : decode cL_law 1078 = .ok (.aload_n 0, 1) := by decide +kernel
theorem dL_law_1079 : decode cL_law 1079 = .ok (.iload 4, 2) := by decide +kernel
theorem dL_law_1081 : decode cL_law 1081 = .ok (.iconst 1, 1) := by decide +kernel
theorem dL_law_1082 : decode cL_law 1082 = .ok (.iadd, 1) := by decide +kernel
theorem dL_law_1083 : decode cL_law 1083 = .ok (.iaload, 1) := by decide +kernel
theorem dL_law_1084 : decode cL_law 1084 = .ok (.aload_n 0, 1) := by decide +kernel
theorem dL_law_1085 : decode cL_law 1085 = .ok (.iload 4, 2) := by decide +kernel
theorem dL_law_1087 : decode cL_law 1087 = .ok (.iconst 2, 1) := by decide +kernel
theorem dL_law_1088 : decode cL_law 1088 = .ok (.iadd, 1) := by decide +kernel
theorem dL_law_1089 : decode cL_law 1089 = .ok (.iaload, 1) := by decide +kernel
theorem dL_law_1090 : decode cL_law 1090 = .ok (.invokevirtual 139, 3) := by decide +kernel
theorem dL_law_1093 : decode cL_law 1093 = .ok (.if_icmp .eq 267, 3) := by decide +kernel
theorem dL_law_1096 : decode cL_law 1096 = .ok (.iconst 0, 1) := by decide +kernel
theorem dL_law_1097 : decode cL_law 1097 = .ok (.ireturn, 1) := by decide +kernel
theorem dL_law_1098 : decode cL_law 1098 = .ok (.aload_n 1, 1) := by decide +kernel
theorem dL_law_1099 : decode cL_law 1099 = .ok (.aload_n 0, 1) := by decide +kernel
theorem dL_law_1100 : decode cL_law 1100 = .ok (.iload 4, 2) := by decide +kernel
theorem dL_law_1102 : decode cL_law 1102 = .ok (.iconst 1, 1) := by decide +kernel
theorem dL_law_1103 : decode cL_law 1103 = .ok (.iadd, 1) := by decide +kernel
theorem dL_law_1104 : decode cL_law 1104 = .ok (.iaload, 1) := by decide +kernel
theorem dL_law_1105 : decode cL_law 1105 = .ok (.invokevirtual 140, 3) := by decide +kernel
theorem dL_law_1108 : decode cL_law 1108 = .ok (.aload_n 2, 1) := by decide +kernel
theorem dL_law_1109 : decode cL_law 1109 = .ok (.aload_n 0, 1) := by decide +kernel
theorem dL_law_1110 : decode cL_law 1110 = .ok (.iload 4, 2) := by decide +kernel
theorem dL_law_1112 : decode cL_law 1112 = .ok (.iconst 1, 1) := by decide +kernel
theorem dL_law_1113 : decode cL_law 1113 = .ok (.iadd, 1) := by decide +kernel
theorem dL_law_1114 : decode cL_law 1114 = .ok (.iaload, 1) := by decide +kernel
theorem dL_law_1115 : decode cL_law 1115 = .ok (.invokevirtual 143, 3) := by decide +kernel
theorem dL_law_1118 : decode cL_law 1118 = .ok (.if_icmp .eq 242, 3) := by decide +kernel
theorem dL_law_1121 : decode cL_law 1121 = .ok (.iconst 0, 1) := by decide +kernel
theorem dL_law_1122 : decode cL_law 1122 = .ok (.ireturn, 1) := by decide +kernel
theorem dL_law_1123 : decode cL_law 1123 = .ok (.aload_n 1, 1) := by decide +kernel
theorem dL_law_1124 : decode cL_law 1124 = .ok (.aload_n 0, 1) := by decide +kernel
theorem dL_law_1125 : decode cL_law 1125 = .ok (.iload 4, 2) := by decide +kernel
theorem dL_law_1127 : decode cL_law 1127 = .ok (.iconst 1, 1) := by decide +kernel
theorem dL_law_1128 : decode cL_law 1128 = .ok (.iadd, 1) := by decide +kernel
theorem dL_law_1129 : decode cL_law 1129 = .ok (.iaload, 1) := by decide +kernel
theorem dL_law_1130 : decode cL_law 1130 = .ok (.aload_n 0, 1) := by decide +kernel
theorem dL_law_1131 : decode cL_law 1131 = .ok (.iload 4, 2) := by decide +kernel
theorem dL_law_1133 : decode cL_law 1133 = .ok (.iconst 2, 1) := by decide +kernel
theorem dL_law_1134 : decode cL_law 1134 = .ok (.iadd, 1) := by decide +kernel
theorem dL_law_1135 : decode cL_law 1135 = .ok (.iaload, 1) := by decide +kernel
theorem dL_law_1136 : decode cL_law 1136 = .ok (.aload_n 0, 1) := by decide +kernel
theorem dL_law_1137 : decode cL_law 1137 = .ok (.iload 4, 2) := by decide +kernel
theorem dL_law_1139 : decode cL_law 1139 = .ok (.iconst 3, 1) := by decide +kernel
theorem dL_law_1140 : decode cL_law 1140 = .ok (.iadd, 1) := by decide +kernel
theorem dL_law_1141 : decode cL_law 1141 = .ok (.iaload, 1) := by decide +kernel
theorem dL_law_1142 : decode cL_law 1142 = .ok (.aload_n 0, 1) := by decide +kernel
theorem dL_law_1143 : decode cL_law 1143 = .ok (.iload 4, 2) := by decide +kernel
theorem dL_law_1145 : decode cL_law 1145 = .ok (.iconst 4, 1) := by decide +kernel
theorem dL_law_1146 : decode cL_law 1146 = .ok (.iadd, 1) := by decide +kernel
theorem dL_law_1147 : decode cL_law 1147 = .ok (.iaload, 1) := by decide +kernel
theorem dL_law_1148 : decode cL_law 1148 = .ok (.invokevirtual 144, 3) := by decide +kernel
theorem dL_law_1151 : decode cL_law 1151 = .ok (.aload_n 2, 1) := by decide +kernel
theorem dL_law_1152 : decode cL_law 1152 = .ok (.aload_n 0, 1) := by decide +kernel
theorem dL_law_1153 : decode cL_law 1153 = .ok (.iload 4, 2) := by decide +kernel
theorem dL_law_1155 : decode cL_law 1155 = .ok (.iconst 1, 1) := by decide +kernel
theorem dL_law_1156 : decode cL_law 1156 = .ok (.iadd, 1) := by decide +kernel
theorem dL_law_1157 : decode cL_law 1157 = .ok (.iaload, 1) := by decide +kernel
theorem dL_law_1158 : decode cL_law 1158 = .ok (.aload_n 0, 1) := by decide +kernel
theorem dL_law_1159 : decode cL_law 1159 = .ok (.iload 4, 2) := by decide +kernel
theorem dL_law_1161 : decode cL_law 1161 = .ok (.iconst 2, 1) := by decide +kernel
theorem dL_law_1162 : decode cL_law 1162 = .ok (.iadd, 1) := by decide +kernel
theorem dL_law_1163 : decode cL_law 1163 = .ok (.iaload, 1) := by decide +kernel
theorem dL_law_1164 : decode cL_law 1164 = .ok (.aload_n 0, 1) := by decide +kernel
theorem dL_law_1165 : decode cL_law 1165 = .ok (.iload 4, 2) := by decide +kernel
theorem dL_law_1167 : decode cL_law 1167 = .ok (.iconst 3, 1) := by decide +kernel
theorem dL_law_1168 : decode cL_law 1168 = .ok (.iadd, 1) := by decide +kernel
theorem dL_law_1169 : decode cL_law 1169 = .ok (.iaload, 1) := by decide +kernel
theorem dL_law_1170 : decode cL_law 1170 = .ok (.aload_n 0, 1) := by decide +kernel
theorem dL_law_1171 : decode cL_law 1171 = .ok (.iload 4, 2) := by decide +kernel
theorem dL_law_1173 : decode cL_law 1173 = .ok (.iconst 4, 1) := by decide +kernel
theorem dL_law_1174 : decode cL_law 1174 = .ok (.iadd, 1) := by decide +kernel
theorem dL_law_1175 : decode cL_law 1175 = .ok (.iaload, 1) := by decide +kernel
theorem dL_law_1176 : decode cL_law 1176 = .ok (.invokevirtual 148, 3) := by decide +kernel
theorem dL_law_1179 : decode cL_law 1179 = .ok (.if_icmp .eq 181, 3) := by decide +kernel
theorem dL_law_1182 : decode cL_law 1182 = .ok (.iconst 0, 1) := by decide +kernel
theorem dL_law_1183 : decode cL_law 1183 = .ok (.ireturn, 1) := by decide +kernel
theorem dL_law_1184 : decode cL_law 1184 = .ok (.aload_n 1, 1) := by decide +kernel
theorem dL_law_1185 : decode cL_law 1185 = .ok (.aload_n 0, 1) := by decide +kernel
theorem dL_law_1186 : decode cL_law 1186 = .ok (.iload 4, 2) := by decide +kernel
theorem dL_law_1188 : decode cL_law 1188 = .ok (.iconst 1, 1) := by decide +kernel
theorem dL_law_1189 : decode cL_law 1189 = .ok (.iadd, 1) := by decide +kernel
theorem dL_law_1190 : decode cL_law 1190 = .ok (.iaload, 1) := by decide +kernel
theorem dL_law_1191 : decode cL_law 1191 = .ok (.aload_n 0, 1) := by decide +kernel
theorem dL_law_1192 : decode cL_law 1192 = .ok (.iload 4, 2) := by decide +kernel
theorem dL_law_1194 : decode cL_law 1194 = .ok (.iconst 2, 1) := by decide +kernel
theorem dL_law_1195 : decode cL_law 1195 = .ok (.iadd, 1) := by decide +kernel
theorem dL_law_1196 : decode cL_law 1196 = .ok (.iaload, 1) := by decide +kernel
theorem dL_law_1197 : decode cL_law 1197 = .ok (.invokevirtual 149, 3) := by decide +kernel
theorem dL_law_1200 : decode cL_law 1200 = .ok (.aload_n 2, 1) := by decide +kernel
theorem dL_law_1201 : decode cL_law 1201 = .ok (.aload_n 0, 1) := by decide +kernel
theorem dL_law_1202 : decode cL_law 1202 = .ok (.iload 4, 2) := by decide +kernel
theorem dL_law_1204 : decode cL_law 1204 = .ok (.iconst 1, 1) := by decide +kernel
theorem dL_law_1205 : decode cL_law 1205 = .ok (.iadd, 1) := by decide +kernel
theorem dL_law_1206 : decode cL_law 1206 = .ok (.iaload, 1) := by decide +kernel
theorem dL_law_1207 : decode cL_law 1207 = .ok (.aload_n 0, 1) := by decide +kernel
theorem dL_law_1208 : decode cL_law 1208 = .ok (.iload 4, 2) := by decide +kernel
theorem dL_law_1210 : decode cL_law 1210 = .ok (.iconst 2, 1) := by decide +kernel
theorem dL_law_1211 : decode cL_law 1211 = .ok (.iadd, 1) := by decide +kernel
theorem dL_law_1212 : decode cL_law 1212 = .ok (.iaload, 1) := by decide +kernel
theorem dL_law_1213 : decode cL_law 1213 = .ok (.invokevirtual 152, 3) := by decide +kernel
theorem dL_law_1216 : decode cL_law 1216 = .ok (.if_icmp .eq 144, 3) := by decide +kernel
theorem dL_law_1219 : decode cL_law 1219 = .ok (.iconst 0, 1) := by decide +kernel
theorem dL_law_1220 : decode cL_law 1220 = .ok (.ireturn, 1) := by decide +kernel
theorem dL_law_1221 : decode cL_law 1221 = .ok (.aload_n 1, 1) := by decide +kernel
theorem dL_law_1222 : decode cL_law 1222 = .ok (.aload_n 0, 1) := by decide +kernel
theorem dL_law_1223 : decode cL_law 1223 = .ok (.iload 4, 2) := by decide +kernel
theorem dL_law_1225 : decode cL_law 1225 = .ok (.iconst 1, 1) := by decide +kernel
theorem dL_law_1226 : decode cL_law 1226 = .ok (.iadd, 1) := by decide +kernel
theorem dL_law_1227 : decode cL_law 1227 = .ok (.iaload, 1) := by decide +kernel
theorem dL_law_1228 : decode cL_law 1228 = .ok (.invokevirtual 153, 3) := by decide +kernel
theorem dL_law_1231 : decode cL_law 1231 = .ok (.aload_n 2, 1) := by decide +kernel
theorem dL_law_1232 : decode cL_law 1232 = .ok (.aload_n 0, 1) := by decide +kernel
theorem dL_law_1233 : decode cL_law 1233 = .ok (.iload 4, 2) := by decide +kernel
theorem dL_law_1235 : decode cL_law 1235 = .ok (.iconst 1, 1) := by decide +kernel
theorem dL_law_1236 : decode cL_law 1236 = .ok (.iadd, 1) := by decide +kernel
theorem dL_law_1237 : decode cL_law 1237 = .ok (.iaload, 1) := by decide +kernel
theorem dL_law_1238 : decode cL_law 1238 = .ok (.invokevirtual 156, 3) := by decide +kernel
theorem dL_law_1241 : decode cL_law 1241 = .ok (.if_icmp .eq 119, 3) := by decide +kernel
theorem dL_law_1244 : decode cL_law 1244 = .ok (.iconst 0, 1) := by decide +kernel
theorem dL_law_1245 : decode cL_law 1245 = .ok (.ireturn, 1) := by decide +kernel
theorem dL_law_1246 : decode cL_law 1246 = .ok (.aload_n 1, 1) := by decide +kernel
theorem dL_law_1247 : decode cL_law 1247 = .ok (.invokevirtual 157, 3) := by decide +kernel
theorem dL_law_1250 : decode cL_law 1250 = .ok (.aload_n 2, 1) := by decide +kernel
theorem dL_law_1251 : decode cL_law 1251 = .ok (.invokevirtual 160, 3) := by decide +kernel
theorem dL_law_1254 : decode cL_law 1254 = .ok (.if_icmp .eq 106, 3) := by decide +kernel
theorem dL_law_1257 : decode cL_law 1257 = .ok (.iconst 0, 1) := by decide +kernel
theorem dL_law_1258 : decode cL_law 1258 = .ok (.ireturn, 1) := by decide +kernel
theorem dL_law_1259 : decode cL_law 1259 = .ok (.aload_n 1, 1) := by decide +kernel
theorem dL_law_1260 : decode cL_law 1260 = .ok (.invokevirtual 161, 3) := by decide +kernel
theorem dL_law_1263 : decode cL_law 1263 = .ok (.aload_n 2, 1) := by decide +kernel
theorem dL_law_1264 : decode cL_law 1264 = .ok (.invokevirtual 164, 3) := by decide +kernel
theorem dL_law_1267 : decode cL_law 1267 = .ok (.if_icmp .eq 93, 3) := by decide +kernel
theorem dL_law_1270 : decode cL_law 1270 = .ok (.iconst 0, 1) := by decide +kernel
theorem dL_law_1271 : decode cL_law 1271 = .ok (.ireturn, 1) := by decide +kernel
theorem dL_law_1272 : decode cL_law 1272 = .ok (.aload_n 1, 1) := by decide +kernel
theorem dL_law_1273 : decode cL_law 1273 = .ok (.aload_n 0, 1) := by decide +kernel
theorem dL_law_1274 : decode cL_law 1274 = .ok (.iload 4, 2) := by decide +kernel
theorem dL_law_1276 : decode cL_law 1276 = .ok (.iconst 1, 1) := by decide +kernel
theorem dL_law_1277 : decode cL_law 1277 = .ok (.iadd, 1) := by decide +kernel
theorem dL_law_1278 : decode cL_law 1278 = .ok (.iaload, 1) := by decide +kernel
theorem dL_law_1279 : decode cL_law 1279 = .ok (.aload_n 0, 1) := by decide +kernel
theorem dL_law_1280 : decode cL_law 1280 = .ok (.iload 4, 2) := by decide +kernel
theorem dL_law_1282 : decode cL_law 1282 = .ok (.iconst 2, 1) := by decide +kernel
theorem dL_law_1283 : decode cL_law 1283 = .ok (.iadd, 1) := by decide +kernel
theorem dL_law_1284 : decode cL_law 1284 = .ok (.iaload, 1) := by decide +kernel
theorem dL_law_1285 : decode cL_law 1285 = .ok (.invokevirtual 165, 3) := by decide +kernel
theorem dL_law_1288 : decode cL_law 1288 = .ok (.aload_n 2, 1) := by decide +kernel
theorem dL_law_1289 : decode cL_law 1289 = .ok (.aload_n 0, 1) := by decide +kernel
theorem dL_law_1290 : decode cL_law 1290 = .ok (.iload 4, 2) := by decide +kernel
theorem dL_law_1292 : decode cL_law 1292 = .ok (.iconst 1, 1) := by decide +kernel
theorem dL_law_1293 : decode cL_law 1293 = .ok (.iadd, 1) := by decide +kernel
theorem dL_law_1294 : decode cL_law 1294 = .ok (.iaload, 1) := by decide +kernel
theorem dL_law_1295 : decode cL_law 1295 = .ok (.aload_n 0, 1) := by decide +kernel
theorem dL_law_1296 : decode cL_law 1296 = .ok (.iload 4, 2) := by decide +kernel
theorem dL_law_1298 : decode cL_law 1298 = .ok (.iconst 2, 1) := by decide +kernel
theorem dL_law_1299 : decode cL_law 1299 = .ok (.iadd, 1) := by decide +kernel
theorem dL_law_1300 : decode cL_law 1300 = .ok (.iaload, 1) := by decide +kernel
theorem dL_law_1301 : decode cL_law 1301 = .ok (.invokevirtual 168, 3) := by decide +kernel
theorem dL_law_1304 : decode cL_law 1304 = .ok (.if_icmp .eq 56, 3) := by decide +kernel
theorem dL_law_1307 : decode cL_law 1307 = .ok (.iconst 0, 1) := by decide +kernel
theorem dL_law_1308 : decode cL_law 1308 = .ok (.ireturn, 1) := by decide +kernel
theorem dL_law_1309 : decode cL_law 1309 = .ok (.aload_n 1, 1) := by decide +kernel
theorem dL_law_1310 : decode cL_law 1310 = .ok (.invokevirtual 169, 3) := by decide +kernel
theorem dL_law_1313 : decode cL_law 1313 = .ok (.aload_n 2, 1) := by decide +kernel
theorem dL_law_1314 : decode cL_law 1314 = .ok (.invokevirtual 172, 3) := by decide +kernel
theorem dL_law_1317 : decode cL_law 1317 = .ok (.if_icmp .eq 43, 3) := by decide +kernel
theorem dL_law_1320 : decode cL_law 1320 = .ok (.iconst 0, 1) := by decide +kernel
theorem dL_law_1321 : decode cL_law 1321 = .ok (.ireturn, 1) := by decide +kernel
theorem dL_law_1322 : decode cL_law 1322 = .ok (.aload_n 1, 1) := by decide +kernel
theorem dL_law_1323 : decode cL_law 1323 = .ok (.invokevirtual 173, 3) := by decide +kernel
theorem dL_law_1326 : decode cL_law 1326 = .ok (.aload_n 2, 1) := by decide +kernel
theorem dL_law_1327 : decode cL_law 1327 = .ok (.invokevirtual 176, 3) := by decide +kernel
theorem dL_law_1330 : decode cL_law 1330 = .ok (.if_icmp .eq 30, 3) := by decide +kernel
theorem dL_law_1333 : decode cL_law 1333 = .ok (.iconst 0, 1) := by decide +kernel
theorem dL_law_1334 : decode cL_law 1334 = .ok (.ireturn, 1) := by decide +kernel
theorem dL_law_1335 : decode cL_law 1335 = .ok (.aload_n 1, 1) := by decide +kernel
theorem dL_law_1336 : decode cL_law 1336 = .ok (.aload_n 0, 1) := by decide +kernel
theorem dL_law_1337 : decode cL_law 1337 = .ok (.iload 4, 2) := by decide +kernel
theorem dL_law_1339 : decode cL_law 1339 = .ok (.iconst 1, 1) := by decide +kernel
theorem dL_law_1340 : decode cL_law 1340 = .ok (.iadd, 1) := by decide +kernel
theorem dL_law_1341 : decode cL_law 1341 = .ok (.iaload, 1) := by decide +kernel
theorem dL_law_1342 : decode cL_law 1342 = .ok (.invokevirtual 177, 3) := by decide +kernel
theorem dL_law_1345 : decode cL_law 1345 = .ok (.aload_n 2, 1) := by decide +kernel
theorem dL_law_1346 : decode cL_law 1346 = .ok (.aload_n 0, 1) := by decide +kernel
theorem dL_law_1347 : decode cL_law 1347 = .ok (.iload 4, 2) := by decide +kernel
theorem dL_law_1349 : decode cL_law 1349 = .ok (.iconst 1, 1) := by decide +kernel
theorem dL_law_1350 : decode cL_law 1350 = .ok (.iadd, 1) := by decide +kernel
theorem dL_law_1351 : decode cL_law 1351 = .ok (.iaload, 1) := by decide +kernel
theorem dL_law_1352 : decode cL_law 1352 = .ok (.invokevirtual 180, 3) := by decide +kernel
theorem dL_law_1355 : decode cL_law 1355 = .ok (.if_icmp .eq 5, 3) := by decide +kernel
theorem dL_law_1358 : decode cL_law 1358 = .ok (.iconst 0, 1) := by decide +kernel
theorem dL_law_1359 : decode cL_law 1359 = .ok (.ireturn, 1) := by decide +kernel
theorem dL_law_1360 : decode cL_law 1360 = .ok (.iinc 4 6, 3) := by decide +kernel
theorem dL_law_1363 : decode cL_law 1363 = .ok (.goto (-1340), 3) := by decide +kernel
theorem dL_law_1366 : decode cL_law 1366 = .ok (.iconst 1, 1) := by decide +kernel
theorem dL_law_1367 : decode cL_law 1367 = .ok (.ireturn, 1) := by decide +kernel
