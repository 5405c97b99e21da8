theorem dX9_enter_23 : decode cX9_enter 23 = .ok (.iastore, 1) := by decide +kernel
theorem dX9_enter_24 : decode cX9_enter 24 = .ok (.aload_n 0, 1) := by decide +kernel
theorem dX9_enter_25 : decode cX9_enter 25 = .ok (.getfield 21, 3) := by decide +kernel
theorem dX9_enter_28 : decode cX9_enter 28 = .ok (.iload_n 1, 1) := by decide +kernel
theorem dX9_enter_29 : decode cX9_enter 29 = .ok (.iload 4, 2) := by decide +kernel
theorem dX9_enter_31 : decode cX9_enter 31 = .ok (.iastore, 1) := by decide +kernel
theorem dX9_enter_32 : decode cX9_enter 32 = .ok (.aload_n 0, 1) := by decide +kernel
theorem dX9_enter_33 : decode cX9_enter 33 = .ok (.getfield 24, 3) := by decide +kernel
theorem dX9_enter_36 : decode cX9_enter 36 = .ok (.iload_n 1, 1) := by decide +kernel
theorem dX9_enter_37 : decode cX9_enter 37 = .ok (.iload 5, 2) := by decide +kernel
theorem dX9_enter_39 : decode cX9_enter 39 = .ok (.iastore, 1) := by decide +kernel
theorem dX9_enter_40 : decode cX9_enter 40 = .ok (.return_, 1) := by decide +kernel
theorem dX9_valueAt_0 : decode cX9_valueAt 0 = .ok (.iload_n 1, 1) := by decide +kernel
theorem dX9_valueAt_1 : decode cX9_valueAt 1 = .ok (.ifCond .lt 26, 3) := by decide +kernel
theorem dX9_valueAt_4 : decode cX9_valueAt 4 = .ok (.iload_n 1, 1) := by decide +kernel
theorem dX9_valueAt_5 : decode cX9_valueAt 5 = .ok (.aload_n 0, 1) := by decide +kernel
theorem dX9_valueAt_6 : decode cX9_valueAt 6 = .ok (.getfield 37, 3) := by decide +kernel
theorem dX9_valueAt_9 : decode cX9_valueAt 9 = .ok (.if_icmp .ge 18, 3) := by decide +kernel
theorem dX9_valueAt_12 : decode cX9_valueAt 12 = .ok (.iload_n 1, 1) := by decide +kernel
theorem dX9_valueAt_13 : decode cX9_valueAt 13 = .ok (.bipush 50, 2) := by decide +kernel
theorem dX9_valueAt_15 : decode cX9_valueAt 15 = .ok (.if_icmp .ge 12, 3) := by decide +kernel
theorem dX9_valueAt_18 : decode cX9_valueAt 18 = .ok (.aload_n 0, 1) := by decide +kernel
theorem dX9_valueAt_19 : decode cX9_valueAt 19 = .ok (.getfield 11, 3) := by decide +kernel
theorem dX9_valueAt_22 : decode cX9_valueAt 22 = .ok (.iload_n 1, 1) := by decide +kernel
theorem dX9_valueAt_23 : decode cX9_valueAt 23 = .ok (.aaload, 1) := by decide +kernel
theorem dX9_valueAt_24 : decode cX9_valueAt 24 = .ok (.goto 4, 3) := by decide +kernel
theorem dX9_valueAt_27 : decode cX9_valueAt 27 = .ok (.aconst_null, 1) := by decide +kernel
theorem dX9_valueAt_28 : decode cX9_valueAt 28 = .ok (.areturn, 1) := by decide +kernel
theorem dX9_above_0 : decode cX9_above 0 = .ok (.iload_n 1, 1) := by decide +kernel
theorem dX9_above_1 : decode cX9_above 1 = .ok (.ifCond .le 18, 3) := by decide +kernel
theorem dX9_above_4 : decode cX9_above 4 = .ok (.iload_n 1, 1) := by decide +kernel
theorem dX9_above_5 : decode cX9_above 5 = .ok (.bipush 50, 2) := by decide +kernel
theorem dX9_above_7 : decode cX9_above 7 = .ok (.if_icmp .ge 12, 3) := by decide +kernel
theorem dX9_above_10 : decode cX9_above 10 = .ok (.aload_n 0, 1) := by decide +kernel
theorem dX9_above_11 : decode cX9_above 11 = .ok (.getfield 17, 3) := by decide +kernel
theorem dX9_above_14 : decode cX9_above 14 = .ok (.iload_n 1, 1) := by decide +kernel
theorem dX9_above_15 : decode cX9_above 15 = .ok (.iaload, 1) := by decide +kernel
theorem dX9_above_16 : decode cX9_above 16 = .ok (.goto 4, 3) := by decide +kernel
theorem dX9_above_19 : decode cX9_above 19 = .ok (.iconst 0, 1) := by decide +kernel
theorem dX9_above_20 : decode cX9_above 20 = .ok (.ireturn, 1) := by decide +kernel
theorem dX9_stepTo_0 : decode cX9_stepTo 0 = .ok (.iload_n 1, 1) := by decide +kernel
theorem dX9_stepTo_1 : decode cX9_stepTo 1 = .ok (.ifCond .le 18, 3) := by decide +kernel
theorem dX9_stepTo_4 : decode cX9_stepTo 4 = .ok (.iload_n 1, 1) := by decide +kernel
theorem dX9_stepTo_5 : decode cX9_stepTo 5 = .ok (.bipush 50, 2) := by decide +kernel
theorem dX9_stepTo_7 : decode cX9_stepTo 7 = .ok (.if_icmp .ge 12, 3) := by decide +kernel
theorem dX9_stepTo_10 : decode cX9_stepTo 10 = .ok (.aload_n 0, 1) := by decide +kernel
theorem dX9_stepTo_11 : decode cX9_stepTo 11 = .ok (.getfield 21, 3) := by decide +kernel
theorem dX9_stepTo_14 : decode cX9_stepTo 14 = .ok (.iload_n 1, 1) := by decide +kernel
theorem dX9_stepTo_15 : decode cX9_stepTo 15 = .ok (.iaload, 1) := by decide +kernel
theorem dX9_stepTo_16 : decode cX9_stepTo 16 = .ok (.goto 4, 3) := by decide +kernel
theorem dX9_stepTo_19 : decode cX9_stepTo 19 = .ok (.iconst 0, 1) := by decide +kernel
theorem dX9_stepTo_20 : decode cX9_stepTo 20 = .ok (.ireturn, 1) := by decide +kernel
theorem dX9_pick_0 : decode cX9_pick 0 = .ok (.lconst 0, 1) := by decide +kernel
theorem dX9_pick_1 : decode cX9_pick 1 = .ok (.lstore 5, 2) := by decide +kernel
theorem dX9_pick_3 : decode cX9_pick 3 = .ok (.iconst 0, 1) := by decide +kernel
theorem dX9_pick_4 : decode cX9_pick 4 = .ok (.istore 7, 2) := by decide +kernel
theorem dX9_pick_6 : decode cX9_pick 6 = .ok (.iload 7, 2) := by decide +kernel
theorem dX9_pick_8 : decode cX9_pick 8 = .ok (.aload_n 0, 1) := by decide +kernel
theorem dX9_pick_9 : decode cX9_pick 9 = .ok (.getfield 37, 3) := by decide +kernel
theorem dX9_pick_12 : decode cX9_pick 12 = .ok (.if_icmp .ge 48, 3) := by decide +kernel
theorem dX9_pick_15 : decode cX9_pick 15 = .ok (.aload_n 0, 1) := by decide +kernel
theorem dX9_pick_16 : decode cX9_pick 16 = .ok (.iload 7, 2) := by decide +kernel
theorem dX9_pick_18 : decode cX9_pick 18 = .ok (.invokevirtual 56, 3) := by decide +kernel
theorem dX9_pick_21 : decode cX9_pick 21 = .ok (.astore 8, 2) := by decide +kernel
theorem dX9_pick_23 : decode cX9_pick 23 = .ok (.aload 8, 2) := by decide +kernel
theorem dX9_pick_25 : decode cX9_pick 25 = .ok (.ifnull 29, 3) := by decide +kernel
theorem dX9_pick_28 : decode cX9_pick 28 = .ok (.aload_n 0, 1) := by decide +kernel
theorem dX9_pick_29 : decode cX9_pick 29 = .ok (.lload_n 1, 1) := by decide +kernel
theorem dX9_pick_30 : decode cX9_pick 30 = .ok (.lload 5, 2) := by decide +kernel
theorem dX9_pick_32 : decode cX9_pick 32 = .ok (.iload 7, 2) := by decide +kernel
theorem dX9_pick_34 : decode cX9_pick 34 = .ok (.aload 8, 2) := by decide +kernel
theorem dX9_pick_36 : decode cX9_pick 36 = .ok (.iload_n 3, 1) := by decide +kernel
theorem dX9_pick_37 : decode cX9_pick 37 = .ok (.iload 4, 2) := by decide +kernel
theorem dX9_pick_39 : decode cX9_pick 39 = .ok (.invokevirtual 59, 3) := by decide +kernel
theorem dX9_pick_42 : decode cX9_pick 42 = .ok (.ifCond .eq 12, 3) := by decide +kernel
theorem dX9_pick_45 : decode cX9_pick 45 = .ok (.lload 5, 2) := by decide +kernel
theorem dX9_pick_47 : decode cX9_pick 47 = .ok (.lconst 1, 1) := by decide +kernel
theorem dX9_pick_48 : decode cX9_pick 48 = .ok (.iload 7, 2) := by decide +kernel
theorem dX9_pick_50 : decode cX9_pick 50 = .ok (.lshl, 1) := by decide +kernel
theorem dX9_pick_51 : decode cX9_pick 51 = .ok (.lor, 1) := by decide +kernel
theorem dX9_pick_52 : decode cX9_pick 52 = .ok (.lstore 5, 2) := by decide +kernel
theorem dX9_pick_54 : decode cX9_pick 54 = .ok (.iinc 7 1, 3) := by decide +kernel
theorem dX9_pick_57 : decode cX9_pick 57 = .ok (.goto (-51), 3) := by decide +kernel
theorem dX9_pick_60 : decode cX9_pick 60 = .ok (.lload 5, 2) := by decide +kernel
theorem dX9_pick_62 : decode cX9_pick 62 = .ok (.lreturn, 1) := by decide +kernel
theorem dX9_isPicked_0 : decode cX9_isPicked 0 = .ok (.lload_n 1, 1) := by decide +kernel
theorem dX9_isPicked_1 : decode cX9_isPicked 1 = .ok (.iload 5, 2) := by decide +kernel
theorem dX9_isPicked_3 : decode cX9_isPicked 3 = .ok (.invokestatic 63, 3) := by decide +kernel
theorem dX9_isPicked_6 : decode cX9_isPicked 6 = .ok (.istore 9, 2) := by decide +kernel
theorem dX9_isPicked_8 : decode cX9_isPicked 8 = .ok (.iload 5, 2) := by decide +kernel
theorem dX9_isPicked_10 : decode cX9_isPicked 10 = .ok (.ifCond .le 20, 3) := by decide +kernel
theorem dX9_isPicked_13 : decode cX9_isPicked 13 = .ok (.lload_n 1, 1) := by decide +kernel
theorem dX9_isPicked_14 : decode cX9_isPicked 14 = .ok (.aload_n 0, 1) := by decide +kernel
theorem dX9_isPicked_15 : decode cX9_isPicked 15 = .ok (.iload 5, 2) := by decide +kernel
theorem dX9_isPicked_17 : decode cX9_isPicked 17 = .ok (.invokevirtual 67, 3) := by decide +kernel
theorem dX9_isPicked_20 : decode cX9_isPicked 20 = .ok (.invokestatic 63, 3) := by decide +kernel
theorem dX9_isPicked_23 : decode cX9_isPicked 23 = .ok (.ifCond .eq 7, 3) := by decide +kernel
theorem dX9_isPicked_26 : decode cX9_isPicked 26 = .ok (.iconst 1, 1) := by decide +kernel
theorem dX9_isPicked_27 : decode cX9_isPicked 27 = .ok (.goto 4, 3) := by decide +kernel
theorem dX9_isPicked_30 : decode cX9_isPicked 30 = .ok (.iconst 0, 1) := by decide +kernel
theorem dX9_isPicked_31 : decode cX9_isPicked 31 = .ok (.istore 10, 2) := by decide +kernel
theorem dX9_isPicked_33 : decode cX9_isPicked 33 = .ok (.iload 7, 2) := by decide +kernel
theorem dX9_isPicked_35 : decode cX9_isPicked 35 = .ok (.tableswitch 164 0 5 #[37, 59, 62, 91, 113, 143], 37) := by decide +kernel
theorem dX9_isPicked_72 : decode cX9_isPicked 72 = .ok (.iload 10, 2) := by decide +kernel
theorem dX9_isPicked_74 : decode cX9_isPicked 74 = .ok (.ifCond .eq 18, 3) := by decide +kernel
theorem dX9_isPicked_77 : decode cX9_isPicked 77 = .ok (.aload_n 0, 1) := by decide +kernel
theorem dX9_isPicked_78 : decode cX9_isPicked 78 = .ok (.iload 5, 2) := by decide +kernel
theorem dX9_isPicked_80 : decode cX9_isPicked 80 = .ok (.invokevirtual 70, 3) := by decide +kernel
theorem dX9_isPicked_83 : decode cX9_isPicked 83 = .ok (.iload 8, 2) := by decide +kernel
theorem dX9_isPicked_85 : decode cX9_isPicked 85 = .ok (.if_icmp .ne 7, 3) := by decide +kernel
theorem dX9_isPicked_88 : decode cX9_isPicked 88 = .ok (.iconst 1, 1) := by decide +kernel
theorem dX9_isPicked_89 : decode cX9_isPicked 89 = .ok (.goto 4, 3) := by decide +kernel
theorem dX9_isPicked_92 : decode cX9_isPicked 92 = .ok (.iconst 0, 1) := by decide +kernel
theorem dX9_isPicked_93 : decode cX9_isPicked 93 = .ok (.ireturn, 1) := by decide +kernel
theorem dX9_isPicked_94 : decode cX9_isPicked 94 = .ok (.iload 10, 2) := by decide +kernel
theorem dX9_isPicked_96 : decode cX9_isPicked 96 = .ok (.ireturn, 1) := by decide +kernel
theorem dX9_isPicked_97 : decode cX9_isPicked 97 = .ok (.iload 9, 2) := by decide +kernel
theorem dX9_isPicked_99 : decode cX9_isPicked 99 = .ok (.ifCond .ne 21, 3) := by decide +kernel
theorem dX9_isPicked_102 : decode cX9_isPicked 102 = .ok (.iload 5, 2) := by decide +kernel
theorem dX9_isPicked_104 : decode cX9_isPicked 104 = .ok (.ifCond .le 20, 3) := by decide +kernel
theorem dX9_isPicked_107 : decode cX9_isPicked 107 = .ok (.lload_n 3, 1) := by decide +kernel
theorem dX9_isPicked_108 : decode cX9_isPicked 108 = .ok (.aload_n 0, 1) := by decide +kernel
theorem dX9_isPicked_109 : decode cX9_isPicked 109 = .ok (.iload 5, 2) := by decide +kernel
theorem dX9_isPicked_111 : decode cX9_isPicked 111 = .ok (.invokevirtual 67, 3) := by decide +kernel
theorem dX9_isPicked_114 : decode cX9_isPicked 114 = .ok (.invokestatic 63, 3) := by decide +kernel
theorem dX9_isPicked_117 : decode cX9_isPicked 117 = .ok (.ifCond .eq 7, 3) := by decide +kernel
theorem dX9_isPicked_120 : decode cX9_isPicked 120 = .ok (.iconst 1, 1) := by decide +kernel
theorem dX9_isPicked_121 : decode cX9_isPicked 121 = .ok (.goto 4, 3) := by decide +kernel
theorem dX9_isPicked_124 : decode cX9_isPicked 124 = .ok (.iconst 0, 1) := by decide +kernel
theorem dX9_isPicked_125 : decode cX9_isPicked 125 = .ok (.ireturn, 1) := by decide +kernel
theorem dX9_isPicked_126 : decode cX9_isPicked 126 = .ok (.iload 10, 2) := by decide +kernel
theorem dX9_isPicked_128 : decode cX9_isPicked 128 = .ok (.ifCond .eq 18, 3) := by decide +kernel
theorem dX9_isPicked_131 : decode cX9_isPicked 131 = .ok (.aload_n 0, 1) := by decide +kernel
theorem dX9_isPicked_132 : decode cX9_isPicked 132 = .ok (.iload 5, 2) := by decide +kernel
theorem dX9_isPicked_134 : decode cX9_isPicked 134 = .ok (.aload 6, 2) := by decide +kernel
theorem dX9_isPicked_136 : decode cX9_isPicked 136 = .ok (.invokevirtual 73, 3) := by decide +kernel
theorem dX9_isPicked_139 : decode cX9_isPicked 139 = .ok (.ifCond .eq 7, 3) := by decide +kernel
theorem dX9_isPicked_142 : decode cX9_isPicked 142 = .ok (.iconst 1, 1) := by decide +kernel
theorem dX9_isPicked_143 : decode cX9_isPicked 143 = .ok (.goto 4, 3) := by decide +kernel
theorem dX9_isPicked_146 : decode cX9_isPicked 146 = .ok (.iconst 0, 1) := by decide +kernel
theorem dX9_isPicked_147 : decode cX9_isPicked 147 = .ok (.ireturn, 1) := by decide +kernel
theorem dX9_isPicked_148 : decode cX9_isPicked 148 = .ok (.iload 9, 2) := by decide +kernel
theorem dX9_isPicked_150 : decode cX9_isPicked 150 = .ok (.ifCond .eq 26, 3) := by decide +kernel
theorem dX9_isPicked_153 : decode cX9_isPicked 153 = .ok (.aload 6, 2) := by decide +kernel
theorem dX9_isPicked_155 : decode cX9_isPicked 155 = .ok (.getfield 77, 3) := by decide +kernel
theorem dX9_isPicked_158 : decode cX9_isPicked 158 = .ok (.iconst 2, 1) := by decide +kernel
theorem dX9_isPicked_159 : decode cX9_isPicked 159 = .ok (.if_icmp .ne 17, 3) := by decide +kernel
theorem dX9_isPicked_162 : decode cX9_isPicked 162 = .ok (.aload 6, 2) := by decide +kernel
theorem dX9_isPicked_164 : decode cX9_isPicked 164 = .ok (.getfield 80, 3) := by decide +kernel
theorem dX9_isPicked_167 : decode cX9_isPicked 167 = .ok (.iload 8, 2) := by decide +kernel
theorem dX9_isPicked_169 : decode cX9_isPicked 169 = .ok (.if_icmp .ge 7, 3) := by decide +kernel
theorem dX9_isPicked_172 : decode cX9_isPicked 172 = .ok (.iconst 1, 1) := by decide +kernel
theorem dX9_isPicked_173 : decode cX9_isPicked 173 = .ok (.goto 4, 3) := by decide +kernel
theorem dX9_isPicked_176 : decode cX9_isPicked 176 = .ok (.iconst 0, 1) := by decide +kernel
theorem dX9_isPicked_177 : decode cX9_isPicked 177 = .ok (.ireturn, 1) := by decide +kernel
theorem dX9_isPicked_178 : decode cX9_isPicked 178 = .ok (.iload 9, 2) := by decide +kernel
theorem dX9_isPicked_180 : decode cX9_isPicked 180 = .ok (.ifCond .eq 17, 3) := by decide +kernel
theorem dX9_isPicked_183 : decode cX9_isPicked 183 = .ok (.aload 6, 2) := by decide +kernel
theorem dX9_isPicked_185 : decode cX9_isPicked 185 = .ok (.iload 8, 2) := by decide +kernel
theorem dX9_isPicked_187 : decode cX9_isPicked 187 = .ok (.invokevirtual 83, 3) := by decide +kernel
theorem dX9_isPicked_190 : decode cX9_isPicked 190 = .ok (.ifCond .lt 7, 3) := by decide +kernel
theorem dX9_isPicked_193 : decode cX9_isPicked 193 = .ok (.iconst 1, 1) := by decide +kernel
theorem dX9_isPicked_194 : decode cX9_isPicked 194 = .ok (.goto 4, 3) := by decide +kernel
theorem dX9_isPicked_197 : decode cX9_isPicked 197 = .ok (.iconst 0, 1) := by decide +kernel
theorem dX9_isPicked_198 : decode cX9_isPicked 198 = .ok (.ireturn, 1) := by decide +kernel
theorem dX9_isPicked_199 : decode cX9_isPicked 199 = .ok (.iload 9, 2) := by decide +kernel
theorem dX9_isPicked_201 : decode cX9_isPicked 201 = .ok (.ifCond .eq 17, 3) := by decide +kernel
theorem dX9_isPicked_204 : decode cX9_isPicked 204 = .ok (.aload 6, 2) := by decide +kernel
theorem dX9_isPicked_206 : decode cX9_isPicked 206 = .ok (.getfield 77, 3) := by decide +kernel
theorem dX9_isPicked_209 : decode cX9_isPicked 209 = .ok (.iload 8, 2) := by decide +kernel
theorem dX9_isPicked_211 : decode cX9_isPicked 211 = .ok (.if_icmp .ne 7, 3) := by decide +kernel
theorem dX9_isPicked_214 : decode cX9_isPicked 214 = .ok (.iconst 1, 1) := by decide +kernel
theorem dX9_isPicked_215 : decode cX9_isPicked 215 = .ok (.goto 4, 3) := by decide +kernel
theorem dX9_isPicked_218 : decode cX9_isPicked 218 = .ok (.iconst 0, 1) := by decide +kernel
theorem dX9_isPicked_219 : decode cX9_isPicked 219 = .ok (.ireturn, 1) := by decide +kernel
theorem dX9_isLast_0 : decode cX9_isLast 0 = .ok (.aload_n 0, 1) := by decide +kernel
theorem dX9_isLast_1 : decode cX9_isLast 1 = .ok (.aload_n 0, 1) := by decide +kernel
theorem dX9_isLast_2 : decode cX9_isLast 2 = .ok (.iload_n 1, 1) := by decide +kernel
theorem dX9_isLast_3 : decode cX9_isLast 3 = .ok (.invokevirtual 67, 3) := by decide +kernel
theorem dX9_isLast_6 : decode cX9_isLast 6 = .ok (.invokevirtual 56, 3) := by decide +kernel
theorem dX9_isLast_9 : decode cX9_isLast 9 = .ok (.astore_n 3, 1) := by decide +kernel
theorem dX9_isLast_10 : decode cX9_isLast 10 = .ok (.aload_n 3, 1) := by decide +kernel
theorem dX9_isLast_11 : decode cX9_isLast 11 = .ok (.ifnull 26, 3) := by decide +kernel
theorem dX9_isLast_14 : decode cX9_isLast 14 = .ok (.iload_n 1, 1) := by decide +kernel
theorem dX9_isLast_15 : decode cX9_isLast 15 = .ok (.aload_n 2, 1) := by decide +kernel
theorem dX9_isLast_16 : decode cX9_isLast 16 = .ok (.getfield 27, 3) := by decide +kernel
theorem dX9_isLast_19 : decode cX9_isLast 19 = .ok (.iadd, 1) := by decide +kernel
theorem dX9_isLast_20 : decode cX9_isLast 20 = .ok (.aload_n 0, 1) := by decide +kernel
theorem dX9_isLast_21 : decode cX9_isLast 21 = .ok (.iload_n 1, 1) := by decide +kernel
theorem dX9_isLast_22 : decode cX9_isLast 22 = .ok (.invokevirtual 67, 3) := by decide +kernel
theorem dX9_isLast_25 : decode cX9_isLast 25 = .ok (.aload_n 3, 1) := by decide +kernel
theorem dX9_isLast_26 : decode cX9_isLast 26 = .ok (.getfield 27, 3) := by decide +kernel
theorem dX9_isLast_29 : decode cX9_isLast 29 = .ok (.iadd, 1) := by decide +kernel
theorem dX9_isLast_30 : decode cX9_isLast 30 = .ok (.if_icmp .ne 7, 3) := by decide +kernel
theorem dX9_isLast_33 : decode cX9_isLast 33 = .ok (.iconst 1, 1) := by decide +kernel
theorem dX9_isLast_34 : decode cX9_isLast 34 = .ok (.goto 4, 3) := by decide +kernel
theorem dX9_isLast_37 : decode cX9_isLast 37 = .ok (.iconst 0, 1) := by decide +kernel
theorem dX9_isLast_38 : decode cX9_isLast 38 = .ok (.ireturn, 1) := by decide +kernel
theorem dX9_without_0 : decode cX9_without 0 = .ok (.aload_n 0, 1) := by decide +kernel
theorem dX9_without_1 : decode cX9_without 1 = .ok (.getfield 37, 3) := by decide +kernel
theorem dX9_without_4 : decode cX9_without 4 = .ok (.iconst 1, 1) := by decide +kernel
theorem dX9_without_5 : decode cX9_without 5 = .ok (.isub, 1) := by decide +kernel
theorem dX9_without_6 : decode cX9_without 6 = .ok (.istore_n 3, 1) := by decide +kernel
theorem dX9_without_7 : decode cX9_without 7 = .ok (.iload_n 3, 1) := by decide +kernel
theorem dX9_without_8 : decode cX9_without 8 = .ok (.ifCond .le 100, 3) := by decide +kernel
theorem dX9_without_11 : decode cX9_without 11 = .ok (.aload_n 0, 1) := by decide +kernel
theorem dX9_without_12 : decode cX9_without 12 = .ok (.iload_n 3, 1) := by decide +kernel
theorem dX9_without_13 : decode cX9_without 13 = .ok (.invokevirtual 67, 3) := by decide +kernel
theorem dX9_without_16 : decode cX9_without 16 = .ok (.istore 4, 2) := by decide +kernel
theorem dX9_without_18 : decode cX9_without 18 = .ok (.aload_n 0, 1) := by decide +kernel
theorem dX9_without_19 : decode cX9_without 19 = .ok (.iload 4, 2) := by decide +kernel
theorem dX9_without_21 : decode cX9_without 21 = .ok (.invokevirtual 56, 3) := by decide +kernel
theorem dX9_without_24 : decode cX9_without 24 = .ok (.astore 5, 2) := by decide +kernel
theorem dX9_without_26 : decode cX9_without 26 = .ok (.aload 5, 2) := by decide +kernel
theorem dX9_without_28 : decode cX9_without 28 = .ok (.ifnull 74, 3) := by decide +kernel
theorem dX9_without_31 : decode cX9_without 31 = .ok (.aload 5, 2) := by decide +kernel
theorem dX9_without_33 : decode cX9_without 33 = .ok (.aload_n 0, 1) := by decide +kernel
theorem dX9_without_34 : decode cX9_without 34 = .ok (.iload_n 3, 1) := by decide +kernel
theorem dX9_without_35 : decode cX9_without 35 = .ok (.invokevirtual 70, 3) := by decide +kernel
theorem dX9_without_38 : decode cX9_without 38 = .ok (.invokevirtual 83, 3) := by decide +kernel
theorem dX9_without_41 : decode cX9_without 41 = .ok (.istore 6, 2) := by decide +kernel
theorem dX9_without_43 : decode cX9_without 43 = .ok (.lload_n 1, 1) := by decide +kernel
theorem dX9_without_44 : decode cX9_without 44 = .ok (.iload_n 3, 1) := by decide +kernel
theorem dX9_without_45 : decode cX9_without 45 = .ok (.invokestatic 63, 3) := by decide +kernel
theorem dX9_without_48 : decode cX9_without 48 = .ok (.ifCond .eq 20, 3) := by decide +kernel
theorem dX9_without_51 : decode cX9_without 51 = .ok (.aload_n 0, 1) := by decide +kernel
theorem dX9_without_52 : decode cX9_without 52 = .ok (.getfield 11, 3) := by decide +kernel
theorem dX9_without_55 : decode cX9_without 55 = .ok (.iload 4, 2) := by decide +kernel
theorem dX9_without_57 : decode cX9_without 57 = .ok (.aload 5, 2) := by decide +kernel
theorem dX9_without_59 : decode cX9_without 59 = .ok (.iload 6, 2) := by decide +kernel
theorem dX9_without_61 : decode cX9_without 61 = .ok (.invokevirtual 90, 3) := by decide +kernel
theorem dX9_without_64 : decode cX9_without 64 = .ok (.aastore, 1) := by decide +kernel
theorem dX9_without_65 : decode cX9_without 65 = .ok (.goto 37, 3) := by decide +kernel
theorem dX9_without_68 : decode cX9_without 68 = .ok (.aload 5, 2) := by decide +kernel
theorem dX9_without_70 : decode cX9_without 70 = .ok (.iload 6, 2) := by decide +kernel
theorem dX9_without_72 : decode cX9_without 72 = .ok (.invokevirtual 48, 3) := by decide +kernel
theorem dX9_without_75 : decode cX9_without 75 = .ok (.aload_n 0, 1) := by decide +kernel
theorem dX9_without_76 : decode cX9_without 76 = .ok (.iload_n 3, 1) := by decide +kernel
theorem dX9_without_77 : decode cX9_without 77 = .ok (.invokevirtual 56, 3) := by decide +kernel
theorem dX9_without_80 : decode cX9_without 80 = .ok (.if_acmp .eq 22, 3) := by decide +kernel
theorem dX9_without_83 : decode cX9_without 83 = .ok (.aload_n 0, 1) := by decide +kernel
theorem dX9_without_84 : decode cX9_without 84 = .ok (.getfield 11, 3) := by decide +kernel
theorem dX9_without_87 : decode cX9_without 87 = .ok (.iload 4, 2) := by decide +kernel
theorem dX9_without_89 : decode cX9_without 89 = .ok (.aload 5, 2) := by decide +kernel
theorem dX9_without_91 : decode cX9_without 91 = .ok (.iload 6, 2) := by decide +kernel
theorem dX9_without_93 : decode cX9_without 93 = .ok (.aload_n 0, 1) := by decide +kernel
theorem dX9_without_94 : decode cX9_without 94 = .ok (.iload_n 3, 1) := by decide +kernel
theorem dX9_without_95 : decode cX9_without 95 = .ok (.invokevirtual 56, 3) := by decide +kernel
theorem dX9_without_98 : decode cX9_without 98 = .ok (.invokevirtual 93, 3) := by decide +kernel
theorem dX9_without_101 : decode cX9_without 101 = .ok (.aastore, 1) := by decide +kernel
theorem dX9_without_102 : decode cX9_without 102 = .ok (.iinc 3 (-1), 3) := by decide +kernel
theorem dX9_without_105 : decode cX9_without 105 = .ok (.goto (-98), 3) := by decide +kernel
theorem dX9_without_108 : decode cX9_without 108 = .ok (.aload_n 0, 1) := by decide +kernel
theorem dX9_without_109 : decode cX9_without 109 = .ok (.getfield 11, 3) := by decide +kernel
theorem dX9_without_112 : decode cX9_without 112 = .ok (.iconst 0, 1) := by decide +kernel
theorem dX9_without_113 : decode cX9_without 113 = .ok (.aaload, 1) := by decide +kernel
theorem dX9_without_114 : decode cX9_without 114 = .ok (.areturn, 1) := by decide +kernel
theorem dX10_init_0 : decode cX10_init 0 = .ok (.aload_n 0, 1) := by decide +kernel
theorem dX10_init_1 : decode cX10_init 1 = .ok (.invokespecial 1, 3) := by decide +kernel
theorem dX10_init_4 : decode cX10_init 4 = .ok (.new 7, 3) := by decide +kernel
theorem dX10_init_7 : decode cX10_init 7 = .ok (.dup, 1) := by decide +kernel
theorem dX10_init_8 : decode cX10_init 8 = .ok (.iconst 0, 1) := by decide +kernel
theorem dX10_init_9 : decode cX10_init 9 = .ok (.sipush (-10000), 3) := by decide +kernel
theorem dX10_init_12 : decode cX10_init 12 = .ok (.aconst_null, 1) := by decide +kernel
theorem dX10_init_13 : decode cX10_init 13 = .ok (.aconst_null, 1) := by decide +kernel
theorem dX10_init_14 : decode cX10_init 14 = .ok (.invokespecial 11, 3) := by decide +kernel
theorem dX10_init_17 : decode cX10_init 17 = .ok (.astore_n 1, 1) := by decide +kernel
theorem dX10_init_18 : decode cX10_init 18 = .ok (.aload_n 0, 1) := by decide +kernel
theorem dX10_init_19 : decode cX10_init 19 = .ok (.bipush 6, 2) := by decide +kernel
theorem dX10_init_21 : decode cX10_init 21 = .ok (.anewarray 7, 3) := by decide +kernel
theorem dX10_init_24 : decode cX10_init 24 = .ok (.putfield 14, 3) := by decide +kernel
theorem dX10_init_27 : decode cX10_init 27 = .ok (.iconst 0, 1) := by decide +kernel
theorem dX10_init_28 : decode cX10_init 28 = .ok (.istore_n 2, 1) := by decide +kernel
theorem dX10_init_29 : decode cX10_init 29 = .ok (.iload_n 2, 1) := by decide +kernel
theorem dX10_init_30 : decode cX10_init 30 = .ok (.bipush 6, 2) := by decide +kernel
theorem dX10_init_32 : decode cX10_init 32 = .ok (.if_icmp .ge 16, 3) := by decide +kernel
theorem dX10_init_35 : decode cX10_init 35 = .ok (.aload_n 0, 1) := by decide +kernel
theorem dX10_init_36 : decode cX10_init 36 = .ok (.getfield 14, 3) := by decide +kernel
theorem dX10_init_39 : decode cX10_init 39 = .ok (.iload_n 2, 1) := by decide +kernel
theorem dX10_init_40 : decode cX10_init 40 = .ok (.aload_n 1, 1) := by decide +kernel
theorem dX10_init_41 : decode cX10_init 41 = .ok (.aastore, 1) := by decide +kernel
theorem dX10_init_42 : decode cX10_init 42 = .ok (.iinc 2 1, 3) := by decide +kernel
theorem dX10_init_45 : decode cX10_init 45 = .ok (.goto (-16), 3) := by decide +kernel
theorem dX10_init_48 : decode cX10_init 48 = .ok (.aload_n 0, 1) := by decide +kernel
theorem dX10_init_49 : decode cX10_init 49 = .ok (.aload_n 1, 1) := by decide +kernel
theorem dX10_init_50 : decode cX10_init 50 = .ok (.putfield 18, 3) := by decide +kernel
theorem dX10_init_53 : decode cX10_init 53 = .ok (.aload_n 0, 1) := by decide +kernel
theorem dX10_init_54 : decode cX10_init 54 = .ok (.new 22, 3) := by decide +kernel
theorem dX10_init_57 : decode cX10_init 57 = .ok (.dup, 1) := by decide +kernel
theorem dX10_init_58 : decode cX10_init 58 = .ok (.invokespecial 24, 3) := by decide +kernel
theorem dX10_init_61 : decode cX10_init 61 = .ok (.putfield 25, 3) := by decide +kernel
theorem dX10_init_64 : decode cX10_init 64 = .ok (.aload_n 0, 1) := by decide +kernel
theorem dX10_init_65 : decode cX10_init 65 = .ok (.new 29, 3) := by decide +kernel
theorem dX10_init_68 : decode cX10_init 68 = .ok (.dup, 1) := by decide +kernel
theorem dX10_init_69 : decode cX10_init 69 = .ok (.aload_n 1, 1) := by decide +kernel
theorem dX10_init_70 : decode cX10_init 70 = .ok (.invokespecial 31, 3) := by decide +kernel
theorem dX10_init_73 : decode cX10_init 73 = .ok (.putfield 34, 3) := by decide +kernel
theorem dX10_init_76 : decode cX10_init 76 = .ok (.aload_n 0, 1) := by decide +kernel
theorem dX10_init_77 : decode cX10_init 77 = .ok (.bipush 8, 2) := by decide +kernel
theorem dX10_init_79 : decode cX10_init 79 = .ok (.anewarray 38, 3) := by decide +kernel
theorem dX10_init_82 : decode cX10_init 82 = .ok (.putfield 40, 3) := by decide +kernel
theorem dX10_init_85 : decode cX10_init 85 = .ok (.iconst 0, 1) := by decide +kernel
theorem dX10_init_86 : decode cX10_init 86 = .ok (.istore_n 2, 1) := by decide +kernel
theorem dX10_init_87 : decode cX10_init 87 = .ok (.iload_n 2, 1) := by decide +kernel
theorem dX10_init_88 : decode cX10_init 88 = .ok (.bipush 8, 2) := by decide +kernel
theorem dX10_init_90 : decode cX10_init 90 = .ok (.if_icmp .ge 22, 3) := by decide +kernel
theorem dX10_init_93 : decode cX10_init 93 = .ok (.aload_n 0, 1) := by decide +kernel
theorem dX10_init_94 : decode cX10_init 94 = .ok (.getfield 40, 3) := by decide +kernel
theorem dX10_init_97 : decode cX10_init 97 = .ok (.iload_n 2, 1) := by decide +kernel
theorem dX10_init_98 : decode cX10_init 98 = .ok (.new 38, 3) := by decide +kernel
theorem dX10_init_101 : decode cX10_init 101 = .ok (.dup, 1) := by decide +kernel
theorem dX10_init_102 : decode cX10_init 102 = .ok (.invokespecial 44, 3) := by decide +kernel
theorem dX10_init_105 : decode cX10_init 105 = .ok (.aastore, 1) := by decide +kernel
theorem dX10_init_106 : decode cX10_init 106 = .ok (.iinc 2 1, 3) := by decide +kernel
theorem dX10_init_109 : decode cX10_init 109 = .ok (.goto (-22), 3) := by decide +kernel
theorem dX10_init_112 : decode cX10_init 112 = .ok (.aload_n 0, 1) := by decide +kernel
theorem dX10_init_113 : decode cX10_init 113 = .ok (.bipush 20, 2) := by decide +kernel
theorem dX10_init_115 : decode cX10_init 115 = .ok (.anewarray 7, 3) := by decide +kernel
theorem dX10_init_118 : decode cX10_init 118 = .ok (.putfield 45, 3) := by decide +kernel
theorem dX10_init_121 : decode cX10_init 121 = .ok (.aload_n 0, 1) := by decide +kernel
theorem dX10_init_122 : decode cX10_init 122 = .ok (.new 48, 3) := by decide +kernel
theorem dX10_init_125 : decode cX10_init 125 = .ok (.dup, 1) := by decide +kernel
theorem dX10_init_126 : decode cX10_init 126 = .ok (.invokespecial 50, 3) := by decide +kernel
theorem dX10_init_129 : decode cX10_init 129 = .ok (.putfield 51, 3) := by decide +kernel
theorem dX10_init_132 : decode cX10_init 132 = .ok (.aload_n 0, 1) := by decide +kernel
theorem dX10_init_133 : decode cX10_init 133 = .ok (.bipush 10, 2) := by decide +kernel
theorem dX10_init_135 : decode cX10_init 135 = .ok (.anewarray 55, 3) := by decide +kernel
theorem dX10_init_138 : decode cX10_init 138 = .ok (.putfield 57, 3) := by decide +kernel
theorem dX10_init_141 : decode cX10_init 141 = .ok (.iconst 0, 1) := by decide +kernel
theorem dX10_init_142 : decode cX10_init 142 = .ok (.istore_n 2, 1) := by decide +kernel
theorem dX10_init_143 : decode cX10_init 143 = .ok (.iload_n 2, 1) := by decide +kernel
theorem dX10_init_144 : decode cX10_init 144 = .ok (.bipush 10, 2) := by decide +kernel
theorem dX10_init_146 : decode cX10_init 146 = .ok (.if_icmp .ge 22, 3) := by decide +kernel
theorem dX10_init_149 : decode cX10_init 149 = .ok (.aload_n 0, 1) := by decide +kernel
theorem dX10_init_150 : decode cX10_init 150 = .ok (.getfield 57, 3) := by decide +kernel
theorem dX10_init_153 : decode cX10_init 153 = .ok (.iload_n 2, 1) := by decide +kernel
theorem dX10_init_154 : decode cX10_init 154 = .ok (.new 55, 3) := by decide +kernel
theorem dX10_init_157 : decode cX10_init 157 = .ok (.dup, 1) := by decide +kernel
theorem dX10_init_158 : decode cX10_init 158 = .ok (.invokespecial 61, 3) := by decide +kernel
theorem dX10_init_161 : decode cX10_init 161 = .ok (.aastore, 1) := by decide +kernel
theorem dX10_init_162 : decode cX10_init 162 = .ok (.iinc 2 1, 3) := by decide +kernel
theorem dX10_init_165 : decode cX10_init 165 = .ok (.goto (-22), 3) := by decide +kernel
theorem dX10_init_168 : decode cX10_init 168 = .ok (.aload_n 0, 1) := by decide +kernel
theorem dX10_init_169 : decode cX10_init 169 = .ok (.new 62, 3) := by decide +kernel
theorem dX10_init_172 : decode cX10_init 172 = .ok (.dup, 1) := by decide +kernel
theorem dX10_init_173 : decode cX10_init 173 = .ok (.invokespecial 64, 3) := by decide +kernel
theorem dX10_init_176 : decode cX10_init 176 = .ok (.putfield 65, 3) := by decide +kernel
theorem dX10_init_179 : decode cX10_init 179 = .ok (.aload_n 0, 1) := by decide +kernel
theorem dX10_init_180 : decode cX10_init 180 = .ok (.new 69, 3) := by decide +kernel
theorem dX10_init_183 : decode cX10_init 183 = .ok (.dup, 1) := by decide +kernel
theorem dX10_init_184 : decode cX10_init 184 = .ok (.aload_n 0, 1) := by decide +kernel
theorem dX10_init_185 : decode cX10_init 185 = .ok (.getfield 65, 3) := by decide +kernel
theorem dX10_init_188 : decode cX10_init 188 = .ok (.aload_n 0, 1) := by decide +kernel
theorem dX10_init_189 : decode cX10_init 189 = .ok (.getfield 57, 3) := by decide +kernel
theorem dX10_init_192 : decode cX10_init 192 = .ok (.invokespecial 71, 3) := by decide +kernel
theorem dX10_init_195 : decode cX10_init 195 = .ok (.putfield 74, 3) := by decide +kernel
theorem dX10_init_198 : decode cX10_init 198 = .ok (.aload_n 0, 1) := by decide +kernel
theorem dX10_init_199 : decode cX10_init 199 = .ok (.bipush 6, 2) := by decide +kernel
theorem dX10_init_201 : decode cX10_init 201 = .ok (.anewarray 78, 3) := by decide +kernel
theorem dX10_init_204 : decode cX10_init 204 = .ok (.putfield 80, 3) := by decide +kernel
theorem dX10_init_207 : decode cX10_init 207 = .ok (.iconst 0, 1) := by decide +kernel
theorem dX10_init_208 : decode cX10_init 208 = .ok (.istore_n 2, 1) := by decide +kernel
theorem dX10_init_209 : decode cX10_init 209 = .ok (.iload_n 2, 1) := by decide +kernel
theorem dX10_init_210 : decode cX10_init 210 = .ok (.bipush 6, 2) := by decide +kernel
theorem dX10_init_212 : decode cX10_init 212 = .ok (.if_icmp .ge 22, 3) := by decide +kernel
theorem dX10_init_215 : decode cX10_init 215 = .ok (.aload_n 0, 1) := by decide +kernel
theorem dX10_init_216 : decode cX10_init 216 = .ok (.getfield 80, 3) := by decide +kernel
theorem dX10_init_219 : decode cX10_init 219 = .ok (.iload_n 2, 1) := by decide +kernel
theorem dX10_init_220 : decode cX10_init 220 = .ok (.new 78, 3) := by decide +kernel
theorem dX10_init_223 : decode cX10_init 223 = .ok (.dup, 1) := by decide +kernel
theorem dX10_init_224 : decode cX10_init 224 = .ok (.invokespecial 84, 3) := by decide +kernel
theorem dX10_init_227 : decode cX10_init 227 = .ok (.aastore, 1) := by decide +kernel
theorem dX10_init_228 : decode cX10_init 228 = .ok (.iinc 2 1, 3) := by decide +kernel
theorem dX10_init_231 : decode cX10_init 231 = .ok (.goto (-22), 3) := by decide +kernel
theorem dX10_init_234 : decode cX10_init 234 = .ok (.return_, 1) := by decide +kernel
theorem dX10_point_0 : decode cX10_point 0 = .ok (.aload_n 0, 1) := by decide +kernel
theorem dX10_point_1 : decode cX10_point 1 = .ok (.iload_n 1, 1) := by decide +kernel
theorem dX10_point_2 : decode cX10_point 2 = .ok (.invokevirtual 85, 3) := by decide +kernel
theorem dX10_point_5 : decode cX10_point 5 = .ok (.astore_n 2, 1) := by decide +kernel
theorem dX10_point_6 : decode cX10_point 6 = .ok (.aload_n 0, 1) := by decide +kernel
theorem dX10_point_7 : decode cX10_point 7 = .ok (.getfield 25, 3) := by decide +kernel
theorem dX10_point_10 : decode cX10_point 10 = .ok (.iload_n 1, 1) := by decide +kernel
theorem dX10_point_11 : decode cX10_point 11 = .ok (.invokevirtual 89, 3) := by decide +kernel
theorem dX10_point_14 : decode cX10_point 14 = .ok (.aload_n 2, 1) := by decide +kernel
theorem dX10_point_15 : decode cX10_point 15 = .ok (.getfield 93, 3) := by decide +kernel
theorem dX10_point_18 : decode cX10_point 18 = .ok (.ireturn, 1) := by decide +kernel
theorem dX10_into_0 : decode cX10_into 0 = .ok (.aload_n 0, 1) := by decide +kernel
theorem dX10_into_1 : decode cX10_into 1 = .ok (.invokevirtual 97, 3) := by decide +kernel
theorem dX10_into_4 : decode cX10_into 4 = .ok (.astore_n 2, 1) := by decide +kernel
theorem dX10_into_5 : decode cX10_into 5 = .ok (.aload_n 2, 1) := by decide +kernel
theorem dX10_into_6 : decode cX10_into 6 = .ok (.aload_n 2, 1) := by decide +kernel
theorem dX10_into_7 : decode cX10_into 7 = .ok (.iload_n 1, 1) := by decide +kernel
theorem dX10_into_8 : decode cX10_into 8 = .ok (.invokevirtual 101, 3) := by decide +kernel
theorem dX10_into_11 : decode cX10_into 11 = .ok (.invokevirtual 105, 3) := by decide +kernel
theorem dX10_into_14 : decode cX10_into 14 = .ok (.astore_n 3, 1) := by decide +kernel
theorem dX10_into_15 : decode cX10_into 15 = .ok (.aload_n 3, 1) := by decide +kernel
theorem dX10_into_16 : decode cX10_into 16 = .ok (.ifnull 14, 3) := by decide +kernel
theorem dX10_into_19 : decode cX10_into 19 = .ok (.aload_n 0, 1) := by decide +kernel
theorem dX10_into_20 : decode cX10_into 20 = .ok (.getfield 25, 3) := by decide +kernel
theorem dX10_into_23 : decode cX10_into 23 = .ok (.iload_n 1, 1) := by decide +kernel
theorem dX10_into_24 : decode cX10_into 24 = .ok (.invokevirtual 108, 3) := by decide +kernel
theorem dX10_into_27 : decode cX10_into 27 = .ok (.ifCond .ne 13, 3) := by decide +kernel
theorem dX10_into_30 : decode cX10_into 30 = .ok (.new 112, 3) := by decide +kernel
theorem dX10_into_33 : decode cX10_into 33 = .ok (.dup, 1) := by decide +kernel
theorem dX10_into_34 : decode cX10_into 34 = .ok (.ldc 114, 2) := by decide +kernel
theorem dX10_into_36 : decode cX10_into 36 = .ok (.invokespecial 116, 3) := by decide +kernel
theorem dX10_into_39 : decode cX10_into 39 = .ok (.athrow, 1) := by decide +kernel
theorem dX10_into_40 : decode cX10_into 40 = .ok (.aload_n 3, 1) := by decide +kernel
theorem dX10_into_41 : decode cX10_into 41 = .ok (.getfield 93, 3) := by decide +kernel
theorem dX10_into_44 : decode cX10_into 44 = .ok (.ireturn, 1) := by decide +kernel
theorem dX10_up_0 : decode cX10_up 0 = .ok (.aload_n 0, 1) := by decide +kernel
theorem dX10_up_1 : decode cX10_up 1 = .ok (.getfield 25, 3) := by decide +kernel
theorem dX10_up_4 : decode cX10_up 4 = .ok (.invokevirtual 119, 3) := by decide +kernel
theorem dX10_up_7 : decode cX10_up 7 = .ok (.ifCond .ne 13, 3) := by decide +kernel
theorem dX10_up_10 : decode cX10_up 10 = .ok (.new 123, 3) := by decide +kernel
theorem dX10_up_13 : decode cX10_up 13 = .ok (.dup, 1) := by decide +kernel
theorem dX10_up_14 : decode cX10_up 14 = .ok (.ldc 125, 2) := by decide +kernel
theorem dX10_up_16 : decode cX10_up 16 = .ok (.invokespecial 127, 3) := by decide +kernel
theorem dX10_up_19 : decode cX10_up 19 = .ok (.athrow, 1) := by decide +kernel
theorem dX10_up_20 : decode cX10_up 20 = .ok (.aload_n 0, 1) := by decide +kernel
theorem dX10_up_21 : decode cX10_up 21 = .ok (.getfield 25, 3) := by decide +kernel
theorem dX10_up_24 : decode cX10_up 24 = .ok (.getfield 128, 3) := by decide +kernel
theorem dX10_up_27 : decode cX10_up 27 = .ok (.ireturn, 1) := by decide +kernel
theorem dX10_document_0 : decode cX10_document 0 = .ok (.aload_n 0, 1) := by decide +kernel
theorem dX10_document_1 : decode cX10_document 1 = .ok (.getfield 25, 3) := by decide +kernel
theorem dX10_document_4 : decode cX10_document 4 = .ok (.getfield 131, 3) := by decide +kernel
theorem dX10_document_7 : decode cX10_document 7 = .ok (.ireturn, 1) := by decide +kernel
theorem dX10_steps_0 : decode cX10_steps 0 = .ok (.aload_n 0, 1) := by decide +kernel
theorem dX10_steps_1 : decode cX10_steps 1 = .ok (.getfield 25, 3) := by decide +kernel
theorem dX10_steps_4 : decode cX10_steps 4 = .ok (.getfield 128, 3) := by decide +kernel
theorem dX10_steps_7 : decode cX10_steps 7 = .ok (.ireturn, 1) := by decide +kernel
theorem dX10_stepAt_0 : decode cX10_stepAt 0 = .ok (.iload_n 1, 1) := by decide +kernel
theorem dX10_stepAt_1 : decode cX10_stepAt 1 = .ok (.ifCond .lt 26, 3) := by decide +kernel
theorem dX10_stepAt_4 : decode cX10_stepAt 4 = .ok (.iload_n 1, 1) := by decide +kernel
theorem dX10_stepAt_5 : decode cX10_stepAt 5 = .ok (.aload_n 0, 1) := by decide +kernel
theorem dX10_stepAt_6 : decode cX10_stepAt 6 = .ok (.getfield 25, 3) := by decide +kernel
theorem dX10_stepAt_9 : decode cX10_stepAt 9 = .ok (.getfield 128, 3) := by decide +kernel
theorem dX10_stepAt_12 : decode cX10_stepAt 12 = .ok (.if_icmp .ge 15, 3) := by decide +kernel
theorem dX10_stepAt_15 : decode cX10_stepAt 15 = .ok (.iload_n 1, 1) := by decide +kernel
theorem dX10_stepAt_16 : decode cX10_stepAt 16 = .ok (.aload_n 0, 1) := by decide +kernel
theorem dX10_stepAt_17 : decode cX10_stepAt 17 = .ok (.getfield 25, 3) := by decide +kernel
theorem dX10_stepAt_20 : decode cX10_stepAt 20 = .ok (.getfield 134, 3) := by decide +kernel
theorem dX10_stepAt_23 : decode cX10_stepAt 23 = .ok (.arraylength, 1) := by decide +kernel
theorem dX10_stepAt_24 : decode cX10_stepAt 24 = .ok (.if_icmp .lt 13, 3) := by decide +kernel
theorem dX10_stepAt_27 : decode cX10_stepAt 27 = .ok (.new 112, 3) := by decide +kernel
theorem dX10_stepAt_30 : decode cX10_stepAt 30 = .ok (.dup, 1) := by decide +kernel
theorem dX10_stepAt_31 : decode cX10_stepAt 31 = .ok (.ldc 138, 2) := by decide +kernel
theorem dX10_stepAt_33 : decode cX10_stepAt 33 = .ok (.invokespecial 116, 3) := by decide +kernel
theorem dX10_stepAt_36 : decode cX10_stepAt 36 = .ok (.athrow, 1) := by decide +kernel
theorem dX10_stepAt_37 : decode cX10_stepAt 37 = .ok (.aload_n 0, 1) := by decide +kernel
theorem dX10_stepAt_38 : decode cX10_stepAt 38 = .ok (.getfield 25, 3) := by decide +kernel
theorem dX10_stepAt_41 : decode cX10_stepAt 41 = .ok (.getfield 134, 3) := by decide +kernel
theorem dX10_stepAt_44 : decode cX10_stepAt 44 = .ok (.iload_n 1, 1) := by decide +kernel
theorem dX10_stepAt_45 : decode cX10_stepAt 45 = .ok (.iaload, 1) := by decide +kernel
theorem dX10_stepAt_46 : decode cX10_stepAt 46 = .ok (.ireturn, 1) := by decide +kernel
theorem dX10_set_0 : decode cX10_set 0 = .ok (.iload_n 1, 1) := by decide +kernel
theorem dX10_set_1 : decode cX10_set 1 = .ok (.ifCond .lt 41, 3) := by decide +kernel
theorem dX10_set_4 : decode cX10_set 4 = .ok (.iload_n 1, 1) := by decide +kernel
theorem dX10_set_5 : decode cX10_set 5 = .ok (.iconst 4, 1) := by decide +kernel
theorem dX10_set_6 : decode cX10_set 6 = .ok (.if_icmp .gt 36, 3) := by decide +kernel
theorem dX10_set_9 : decode cX10_set 9 = .ok (.iload_n 1, 1) := by decide +kernel
theorem dX10_set_10 : decode cX10_set 10 = .ok (.iconst 1, 1) := by decide +kernel
theorem dX10_set_11 : decode cX10_set 11 = .ok (.if_icmp .ne 12, 3) := by decide +kernel
theorem dX10_set_14 : decode cX10_set 14 = .ok (.iload_n 2, 1) := by decide +kernel
theorem dX10_set_15 : decode cX10_set 15 = .ok (.ifCond .lt 27, 3) := by decide +kernel
theorem dX10_set_18 : decode cX10_set 18 = .ok (.iload_n 2, 1) := by decide +kernel
theorem dX10_set_19 : decode cX10_set 19 = .ok (.iconst 1, 1) := by decide +kernel
theorem dX10_set_20 : decode cX10_set 20 = .ok (.if_icmp .gt 22, 3) := by decide +kernel
theorem dX10_set_23 : decode cX10_set 23 = .ok (.iload_n 1, 1) := by decide +kernel
theorem dX10_set_24 : decode cX10_set 24 = .ok (.iconst 2, 1) := by decide +kernel
theorem dX10_set_25 : decode cX10_set 25 = .ok (.if_icmp .ne 21, 3) := by decide +kernel
theorem dX10_set_28 : decode cX10_set 28 = .ok (.iload_n 2, 1) := by decide +kernel
theorem dX10_set_29 : decode cX10_set 29 = .ok (.sipush (-9999), 3) := by decide +kernel
theorem dX10_set_32 : decode cX10_set 32 = .ok (.if_icmp .lt 10, 3) := by decide +kernel
theorem dX10_set_35 : decode cX10_set 35 = .ok (.iload_n 2, 1) := by decide +kernel
theorem dX10_set_36 : decode cX10_set 36 = .ok (.sipush 9999, 3) := by decide +kernel
theorem dX10_set_39 : decode cX10_set 39 = .ok (.if_icmp .le 7, 3) := by decide +kernel
theorem dX10_set_42 : decode cX10_set 42 = .ok (.iconst 1, 1) := by decide +kernel
theorem dX10_set_43 : decode cX10_set 43 = .ok (.goto 4, 3) := by decide +kernel
theorem dX10_set_46 : decode cX10_set 46 = .ok (.iconst 0, 1) := by decide +kernel
theorem dX10_set_47 : decode cX10_set 47 = .ok (.istore_n 3, 1) := by decide +kernel
theorem dX10_set_48 : decode cX10_set 48 = .ok (.iload_n 3, 1) := by decide +kernel
theorem dX10_set_49 : decode cX10_set 49 = .ok (.ifCond .eq 13, 3) := by decide +kernel
theorem dX10_set_52 : decode cX10_set 52 = .ok (.new 140, 3) := by decide +kernel
theorem dX10_set_55 : decode cX10_set 55 = .ok (.dup, 1) := by decide +kernel
theorem dX10_set_56 : decode cX10_set 56 = .ok (.ldc 142, 2) := by decide +kernel
theorem dX10_set_58 : decode cX10_set 58 = .ok (.invokespecial 144, 3) := by decide +kernel
theorem dX10_set_61 : decode cX10_set 61 = .ok (.athrow, 1) := by decide +kernel
theorem dX10_set_62 : decode cX10_set 62 = .ok (.aload_n 0, 1) := by decide +kernel
theorem dX10_set_63 : decode cX10_set 63 = .ok (.invokevirtual 97, 3) := by decide +kernel
theorem dX10_set_66 : decode cX10_set 66 = .ok (.getfield 145, 3) := by decide +kernel
theorem dX10_set_69 : decode cX10_set 69 = .ok (.istore 4, 2) := by decide +kernel
theorem dX10_set_71 : decode cX10_set 71 = .ok (.iload_n 1, 1) := by decide +kernel
theorem dX10_set_72 : decode cX10_set 72 = .ok (.iconst 1, 1) := by decide +kernel
theorem dX10_set_73 : decode cX10_set 73 = .ok (.if_icmp .eq 8, 3) := by decide +kernel
theorem dX10_set_76 : decode cX10_set 76 = .ok (.iload_n 1, 1) := by decide +kernel
theorem dX10_set_77 : decode cX10_set 77 = .ok (.iconst 2, 1) := by decide +kernel
theorem dX10_set_78 : decode cX10_set 78 = .ok (.if_icmp .ne 7, 3) := by decide +kernel
theorem dX10_set_81 : decode cX10_set 81 = .ok (.iconst 1, 1) := by decide +kernel
theorem dX10_set_82 : decode cX10_set 82 = .ok (.goto 4, 3) := by decide +kernel
theorem dX10_set_85 : decode cX10_set 85 = .ok (.iconst 0, 1) := by decide +kernel
theorem dX10_set_86 : decode cX10_set 86 = .ok (.istore 5, 2) := by decide +kernel
theorem dX10_set_88 : decode cX10_set 88 = .ok (.new 7, 3) := by decide +kernel
theorem dX10_set_91 : decode cX10_set 91 = .ok (.dup, 1) := by decide +kernel
theorem dX10_set_92 : decode cX10_set 92 = .ok (.iload_n 1, 1) := by decide +kernel
theorem dX10_set_93 : decode cX10_set 93 = .ok (.iload 5, 2) := by decide +kernel
theorem dX10_set_95 : decode cX10_set 95 = .ok (.ifCond .eq 7, 3) := by decide +kernel
theorem dX10_set_98 : decode cX10_set 98 = .ok (.iload_n 2, 1) := by decide +kernel
theorem dX10_set_99 : decode cX10_set 99 = .ok (.goto 6, 3) := by decide +kernel
theorem dX10_set_102 : decode cX10_set 102 = .ok (.sipush (-10000), 3) := by decide +kernel
theorem dX10_set_105 : decode cX10_set 105 = .ok (.aconst_null, 1) := by decide +kernel
theorem dX10_set_106 : decode cX10_set 106 = .ok (.aconst_null, 1) := by decide +kernel
theorem dX10_set_107 : decode cX10_set 107 = .ok (.invokespecial 11, 3) := by decide +kernel
theorem dX10_set_110 : decode cX10_set 110 = .ok (.astore 6, 2) := by decide +kernel
theorem dX10_set_112 : decode cX10_set 112 = .ok (.aload_n 0, 1) := by decide +kernel
theorem dX10_set_113 : decode cX10_set 113 = .ok (.getfield 34, 3) := by decide +kernel
theorem dX10_set_116 : decode cX10_set 116 = .ok (.aload_n 0, 1) := by decide +kernel
theorem dX10_set_117 : decode cX10_set 117 = .ok (.aload_n 0, 1) := by decide +kernel
theorem dX10_set_118 : decode cX10_set 118 = .ok (.getfield 25, 3) := by decide +kernel
theorem dX10_set_121 : decode cX10_set 121 = .ok (.getfield 131, 3) := by decide +kernel
theorem dX10_set_124 : decode cX10_set 124 = .ok (.invokevirtual 85, 3) := by decide +kernel
theorem dX10_set_127 : decode cX10_set 127 = .ok (.invokevirtual 148, 3) := by decide +kernel
theorem dX10_set_130 : decode cX10_set 130 = .ok (.aload_n 0, 1) := by decide +kernel
theorem dX10_set_131 : decode cX10_set 131 = .ok (.aload_n 0, 1) := by decide +kernel
theorem dX10_set_132 : decode cX10_set 132 = .ok (.getfield 34, 3) := by decide +kernel
theorem dX10_set_135 : decode cX10_set 135 = .ok (.aload_n 0, 1) := by decide +kernel
theorem dX10_set_136 : decode cX10_set 136 = .ok (.getfield 25, 3) := by decide +kernel
theorem dX10_set_139 : decode cX10_set 139 = .ok (.getfield 134, 3) := by decide +kernel
theorem dX10_set_142 : decode cX10_set 142 = .ok (.aload_n 0, 1) := by decide +kernel
theorem dX10_set_143 : decode cX10_set 143 = .ok (.getfield 25, 3) := by decide +kernel
theorem dX10_set_146 : decode cX10_set 146 = .ok (.getfield 128, 3) := by decide +kernel
theorem dX10_set_149 : decode cX10_set 149 = .ok (.aload 6, 2) := by decide +kernel
theorem dX10_set_151 : decode cX10_set 151 = .ok (.invokevirtual 151, 3) := by decide +kernel
theorem dX10_set_154 : decode cX10_set 154 = .ok (.invokevirtual 155, 3) := by decide +kernel
theorem dX10_set_157 : decode cX10_set 157 = .ok (.pop, 1) := by decide +kernel
theorem dX10_set_158 : decode cX10_set 158 = .ok (.iload 4, 2) := by decide +kernel
theorem dX10_set_160 : decode cX10_set 160 = .ok (.ireturn, 1) := by decide +kernel
theorem dX10_copy_0 : decode cX10_copy 0 = .ok (.aload_n 0, 1) := by decide +kernel
theorem dX10_copy_1 : decode cX10_copy 1 = .ok (.aload_n 0, 1) := by decide +kernel
theorem dX10_copy_2 : decode cX10_copy 2 = .ok (.invokevirtual 97, 3) := by decide +kernel
theorem dX10_copy_5 : decode cX10_copy 5 = .ok (.putfield 18, 3) := by decide +kernel
theorem dX10_copy_8 : decode cX10_copy 8 = .ok (.aload_n 0, 1) := by decide +kernel
theorem dX10_copy_9 : decode cX10_copy 9 = .ok (.getfield 18, 3) := by decide +kernel
theorem dX10_copy_12 : decode cX10_copy 12 = .ok (.getfield 145, 3) := by decide +kernel
theorem dX10_copy_15 : decode cX10_copy 15 = .ok (.ireturn, 1) := by decide +kernel
theorem dX10_insert_0 : decode cX10_insert 0 = .ok (.aload_n 0, 1) := by decide +kernel
theorem dX10_insert_1 : decode cX10_insert 1 = .ok (.getfield 34, 3) := by decide +kernel
theorem dX10_insert_4 : decode cX10_insert 4 = .ok (.aload_n 0, 1) := by decide +kernel
theorem dX10_insert_5 : decode cX10_insert 5 = .ok (.aload_n 0, 1) := by decide +kernel
theorem dX10_insert_6 : decode cX10_insert 6 = .ok (.getfield 25, 3) := by decide +kernel
theorem dX10_insert_9 : decode cX10_insert 9 = .ok (.getfield 131, 3) := by decide +kernel
theorem dX10_insert_12 : decode cX10_insert 12 = .ok (.invokevirtual 85, 3) := by decide +kernel
theorem dX10_insert_15 : decode cX10_insert 15 = .ok (.invokevirtual 148, 3) := by decide +kernel
theorem dX10_insert_18 : decode cX10_insert 18 = .ok (.aload_n 0, 1) := by decide +kernel
theorem dX10_insert_19 : decode cX10_insert 19 = .ok (.aload_n 0, 1) := by decide +kernel
theorem dX10_insert_20 : decode cX10_insert 20 = .ok (.getfield 34, 3) := by decide +kernel
theorem dX10_insert_23 : decode cX10_insert 23 = .ok (.aload_n 0, 1) := by decide +kernel
theorem dX10_insert_24 : decode cX10_insert 24 = .ok (.getfield 25, 3) := by decide +kernel
theorem dX10_insert_27 : decode cX10_insert 27 = .ok (.getfield 134, 3) := by decide +kernel
theorem dX10_insert_30 : decode cX10_insert 30 = .ok (.aload_n 0, 1) := by decide +kernel
theorem dX10_insert_31 : decode cX10_insert 31 = .ok (.getfield 25, 3) := by decide +kernel
theorem dX10_insert_34 : decode cX10_insert 34 = .ok (.getfield 128, 3) := by decide +kernel
theorem dX10_insert_37 : decode cX10_insert 37 = .ok (.iload_n 1, 1) := by decide +kernel
theorem dX10_insert_38 : decode cX10_insert 38 = .ok (.aload_n 0, 1) := by decide +kernel
theorem dX10_insert_39 : decode cX10_insert 39 = .ok (.getfield 18, 3) := by decide +kernel
theorem dX10_insert_42 : decode cX10_insert 42 = .ok (.invokevirtual 159, 3) := by decide +kernel
theorem dX10_insert_45 : decode cX10_insert 45 = .ok (.invokevirtual 155, 3) := by decide +kernel
theorem dX10_insert_48 : decode cX10_insert 48 = .ok (.ireturn, 1) := by decide +kernel
theorem dX10_drop_0 : decode cX10_drop 0 = .ok (.aload_n 0, 1) := by decide +kernel
theorem dX10_drop_1 : decode cX10_drop 1 = .ok (.getfield 34, 3) := by decide +kernel
theorem dX10_drop_4 : decode cX10_drop 4 = .ok (.aload_n 0, 1) := by decide +kernel
theorem dX10_drop_5 : decode cX10_drop 5 = .ok (.aload_n 0, 1) := by decide +kernel
theorem dX10_drop_6 : decode cX10_drop 6 = .ok (.getfield 25, 3) := by decide +kernel
theorem dX10_drop_9 : decode cX10_drop 9 = .ok (.getfield 131, 3) := by decide +kernel
theorem dX10_drop_12 : decode cX10_drop 12 = .ok (.invokevirtual 85, 3) := by decide +kernel
theorem dX10_drop_15 : decode cX10_drop 15 = .ok (.invokevirtual 148, 3) := by decide +kernel
theorem dX10_drop_18 : decode cX10_drop 18 = .ok (.aload_n 0, 1) := by decide +kernel
theorem dX10_drop_19 : decode cX10_drop 19 = .ok (.aload_n 0, 1) := by decide +kernel
theorem dX10_drop_20 : decode cX10_drop 20 = .ok (.getfield 34, 3) := by decide +kernel
theorem dX10_drop_23 : decode cX10_drop 23 = .ok (.aload_n 0, 1) := by decide +kernel
theorem dX10_drop_24 : decode cX10_drop 24 = .ok (.getfield 25, 3) := by decide +kernel
theorem dX10_drop_27 : decode cX10_drop 27 = .ok (.getfield 134, 3) := by decide +kernel
theorem dX10_drop_30 : decode cX10_drop 30 = .ok (.aload_n 0, 1) := by decide +kernel
theorem dX10_drop_31 : decode cX10_drop 31 = .ok (.getfield 25, 3) := by decide +kernel
theorem dX10_drop_34 : decode cX10_drop 34 = .ok (.getfield 128, 3) := by decide +kernel
theorem dX10_drop_37 : decode cX10_drop 37 = .ok (.iload_n 1, 1) := by decide +kernel
theorem dX10_drop_38 : decode cX10_drop 38 = .ok (.invokevirtual 163, 3) := by decide +kernel
theorem dX10_drop_41 : decode cX10_drop 41 = .ok (.invokevirtual 155, 3) := by decide +kernel
theorem dX10_drop_44 : decode cX10_drop 44 = .ok (.ireturn, 1) := by decide +kernel
theorem dX10_kind_0 : decode cX10_kind 0 = .ok (.aload_n 0, 1) := by decide +kernel
theorem dX10_kind_1 : decode cX10_kind 1 = .ok (.invokevirtual 97, 3) := by decide +kernel
theorem dX10_kind_4 : decode cX10_kind 4 = .ok (.getfield 93, 3) := by decide +kernel
theorem dX10_kind_7 : decode cX10_kind 7 = .ok (.ireturn, 1) := by decide +kernel
theorem dX10_number_0 : decode cX10_number 0 = .ok (.aload_n 0, 1) := by decide +kernel
theorem dX10_number_1 : decode cX10_number 1 = .ok (.invokevirtual 97, 3) := by decide +kernel
theorem dX10_number_4 : decode cX10_number 4 = .ok (.getfield 167, 3) := by decide +kernel
theorem dX10_number_7 : decode cX10_number 7 = .ok (.ireturn, 1) := by decide +kernel
theorem dX10_children_0 : decode cX10_children 0 = .ok (.aload_n 0, 1) := by decide +kernel
theorem dX10_children_1 : decode cX10_children 1 = .ok (.invokevirtual 97, 3) := by decide +kernel
theorem dX10_children_4 : decode cX10_children 4 = .ok (.invokevirtual 170, 3) := by decide +kernel
theorem dX10_children_7 : decode cX10_children 7 = .ok (.ireturn, 1) := by decide +kernel
theorem dX10_childStep_0 : decode cX10_childStep 0 = .ok (.aload_n 0, 1) := by decide +kernel
theorem dX10_childStep_1 : decode cX10_childStep 1 = .ok (.invokevirtual 97, 3) := by decide +kernel
theorem dX10_childStep_4 : decode cX10_childStep 4 = .ok (.astore_n 2, 1) := by decide +kernel
theorem dX10_childStep_5 : decode cX10_childStep 5 = .ok (.iload_n 1, 1) := by decide +kernel
theorem dX10_childStep_6 : decode cX10_childStep 6 = .ok (.ifCond .lt 11, 3) := by decide +kernel
theorem dX10_childStep_9 : decode cX10_childStep 9 = .ok (.iload_n 1, 1) := by decide +kernel
theorem dX10_childStep_10 : decode cX10_childStep 10 = .ok (.aload_n 2, 1) := by decide +kernel
theorem dX10_childStep_11 : decode cX10_childStep 11 = .ok (.invokevirtual 170, 3) := by decide +kernel
theorem dX10_childStep_14 : decode cX10_childStep 14 = .ok (.if_icmp .lt 13, 3) := by decide +kernel
theorem dX10_childStep_17 : decode cX10_childStep 17 = .ok (.new 112, 3) := by decide +kernel
theorem dX10_childStep_20 : decode cX10_childStep 20 = .ok (.dup, 1) := by decide +kernel
theorem dX10_childStep_21 : decode cX10_childStep 21 = .ok (.ldc 174, 2) := by decide +kernel
theorem dX10_childStep_23 : decode cX10_childStep 23 = .ok (.invokespecial 116, 3) := by decide +kernel
theorem dX10_childStep_26 : decode cX10_childStep 26 = .ok (.athrow, 1) := by decide +kernel
theorem dX10_childStep_27 : decode cX10_childStep 27 = .ok (.aload_n 2, 1) := by decide +kernel
theorem dX10_childStep_28 : decode cX10_childStep 28 = .ok (.iload_n 1, 1) := by decide +kernel
theorem dX10_childStep_29 : decode cX10_childStep 29 = .ok (.invokevirtual 176, 3) := by decide +kernel
theorem dX10_childStep_32 : decode cX10_childStep 32 = .ok (.ireturn, 1) := by decide +kernel
theorem dX10_size_0 : decode cX10_size 0 = .ok (.aload_n 0, 1) := by decide +kernel
theorem dX10_size_1 : decode cX10_size 1 = .ok (.iload_n 1, 1) := by decide +kernel
theorem dX10_size_2 : decode cX10_size 2 = .ok (.invokevirtual 85, 3) := by decide +kernel
theorem dX10_size_5 : decode cX10_size 5 = .ok (.getfield 145, 3) := by decide +kernel
theorem dX10_size_8 : decode cX10_size 8 = .ok (.ireturn, 1) := by decide +kernel
theorem dX10_depth_0 : decode cX10_depth 0 = .ok (.aload_n 0, 1) := by decide +kernel
theorem dX10_depth_1 : decode cX10_depth 1 = .ok (.iload_n 1, 1) := by decide +kernel
theorem dX10_depth_2 : decode cX10_depth 2 = .ok (.invokevirtual 85, 3) := by decide +kernel
theorem dX10_depth_5 : decode cX10_depth 5 = .ok (.getfield 179, 3) := by decide +kernel
theorem dX10_depth_8 : decode cX10_depth 8 = .ok (.ireturn, 1) := by decide +kernel
theorem dX10_clip_0 : decode cX10_clip 0 = .ok (.aload_n 0, 1) := by decide +kernel
theorem dX10_clip_1 : decode cX10_clip 1 = .ok (.getfield 18, 3) := by decide +kernel
theorem dX10_clip_4 : decode cX10_clip 4 = .ok (.getfield 145, 3) := by decide +kernel
theorem dX10_clip_7 : decode cX10_clip 7 = .ok (.ireturn, 1) := by decide +kernel
theorem dX10_apply_0 : decode cX10_apply 0 = .ok (.aload_n 0, 1) := by decide +kernel
theorem dX10_apply_1 : decode cX10_apply 1 = .ok (.iload_n 1, 1) := by decide +kernel
theorem dX10_apply_2 : decode cX10_apply 2 = .ok (.invokevirtual 185, 3) := by decide +kernel
theorem dX10_apply_5 : decode cX10_apply 5 = .ok (.astore_n 3, 1) := by decide +kernel
theorem dX10_apply_6 : decode cX10_apply 6 = .ok (.aload_n 0, 1) := by decide +kernel
theorem dX10_apply_7 : decode cX10_apply 7 = .ok (.aload_n 3, 1) := by decide +kernel
theorem dX10_apply_8 : decode cX10_apply 8 = .ok (.aload_n 0, 1) := by decide +kernel
theorem dX10_apply_9 : decode cX10_apply 9 = .ok (.iload_n 2, 1) := by decide +kernel
theorem dX10_apply_10 : decode cX10_apply 10 = .ok (.invokevirtual 85, 3) := by decide +kernel
theorem dX10_apply_13 : decode cX10_apply 13 = .ok (.invokevirtual 209, 3) := by decide +kernel
theorem dX10_apply_16 : decode cX10_apply 16 = .ok (.iconst (-1), 1) := by decide +kernel
theorem dX10_apply_17 : decode cX10_apply 17 = .ok (.if_icmp .eq 5, 3) := by decide +kernel
theorem dX10_apply_20 : decode cX10_apply 20 = .ok (.iconst (-1), 1) := by decide +kernel
theorem dX10_apply_21 : decode cX10_apply 21 = .ok (.ireturn, 1) := by decide +kernel
theorem dX10_apply_22 : decode cX10_apply 22 = .ok (.aload_n 0, 1) := by decide +kernel
theorem dX10_apply_23 : decode cX10_apply 23 = .ok (.iload_n 2, 1) := by decide +kernel
theorem dX10_apply_24 : decode cX10_apply 24 = .ok (.aload_n 0, 1) := by decide +kernel
theorem dX10_apply_25 : decode cX10_apply 25 = .ok (.getfield 34, 3) := by decide +kernel
theorem dX10_apply_28 : decode cX10_apply 28 = .ok (.getfield 213, 3) := by decide +kernel
theorem dX10_apply_31 : decode cX10_apply 31 = .ok (.invokevirtual 216, 3) := by decide +kernel
theorem dX10_apply_34 : decode cX10_apply 34 = .ok (.aload_n 0, 1) := by decide +kernel
theorem dX10_apply_35 : decode cX10_apply 35 = .ok (.getfield 220, 3) := by decide +kernel
theorem dX10_apply_38 : decode cX10_apply 38 = .ok (.bipush 8, 2) := by decide +kernel
theorem dX10_apply_40 : decode cX10_apply 40 = .ok (.if_icmp .lt 6, 3) := by decide +kernel
theorem dX10_apply_43 : decode cX10_apply 43 = .ok (.bipush (-2), 2) := by decide +kernel
theorem dX10_apply_45 : decode cX10_apply 45 = .ok (.ireturn, 1) := by decide +kernel
theorem dX10_apply_46 : decode cX10_apply 46 = .ok (.aload_n 0, 1) := by decide +kernel
theorem dX10_apply_47 : decode cX10_apply 47 = .ok (.invokevirtual 182, 3) := by decide +kernel
theorem dX10_apply_50 : decode cX10_apply 50 = .ok (.istore 4, 2) := by decide +kernel
theorem dX10_apply_52 : decode cX10_apply 52 = .ok (.aload_n 0, 1) := by decide +kernel
theorem dX10_apply_53 : decode cX10_apply 53 = .ok (.aload_n 3, 1) := by decide +kernel
theorem dX10_apply_54 : decode cX10_apply 54 = .ok (.aload_n 0, 1) := by decide +kernel
theorem dX10_apply_55 : decode cX10_apply 55 = .ok (.iload 4, 2) := by decide +kernel
theorem dX10_apply_57 : decode cX10_apply 57 = .ok (.invokevirtual 185, 3) := by decide +kernel
theorem dX10_apply_60 : decode cX10_apply 60 = .ok (.invokevirtual 223, 3) := by decide +kernel
theorem dX10_apply_63 : decode cX10_apply 63 = .ok (.iload 4, 2) := by decide +kernel
theorem dX10_apply_65 : decode cX10_apply 65 = .ok (.ireturn, 1) := by decide +kernel
theorem dX10_failsAt_0 : decode cX10_failsAt 0 = .ok (.aload_n 0, 1) := by decide +kernel
theorem dX10_failsAt_1 : decode cX10_failsAt 1 = .ok (.iload_n 1, 1) := by decide +kernel
theorem dX10_failsAt_2 : decode cX10_failsAt 2 = .ok (.invokevirtual 185, 3) := by decide +kernel
theorem dX10_failsAt_5 : decode cX10_failsAt 5 = .ok (.astore_n 3, 1) := by decide +kernel
theorem dX10_failsAt_6 : decode cX10_failsAt 6 = .ok (.aload_n 0, 1) := by decide +kernel
theorem dX10_failsAt_7 : decode cX10_failsAt 7 = .ok (.aload_n 3, 1) := by decide +kernel
theorem dX10_failsAt_8 : decode cX10_failsAt 8 = .ok (.aload_n 0, 1) := by decide +kernel
theorem dX10_failsAt_9 : decode cX10_failsAt 9 = .ok (.iload_n 2, 1) := by decide +kernel
theorem dX10_failsAt_10 : decode cX10_failsAt 10 = .ok (.invokevirtual 85, 3) := by decide +kernel
theorem dX10_failsAt_13 : decode cX10_failsAt 13 = .ok (.invokevirtual 209, 3) := by decide +kernel
theorem dX10_failsAt_16 : decode cX10_failsAt 16 = .ok (.ireturn, 1) := by decide +kernel
theorem dX10_diff_0 : decode cX10_diff 0 = .ok (.aload_n 0, 1) := by decide +kernel
theorem dX10_diff_1 : decode cX10_diff 1 = .ok (.getfield 51, 3) := by decide +kernel
theorem dX10_diff_4 : decode cX10_diff 4 = .ok (.aload_n 0, 1) := by decide +kernel
theorem dX10_diff_5 : decode cX10_diff 5 = .ok (.iload_n 1, 1) := by decide +kernel
theorem dX10_diff_6 : decode cX10_diff 6 = .ok (.invokevirtual 85, 3) := by decide +kernel
theorem dX10_diff_9 : decode cX10_diff 9 = .ok (.aload_n 0, 1) := by decide +kernel
theorem dX10_diff_10 : decode cX10_diff 10 = .ok (.iload_n 2, 1) := by decide +kernel
theorem dX10_diff_11 : decode cX10_diff 11 = .ok (.invokevirtual 85, 3) := by decide +kernel
theorem dX10_diff_14 : decode cX10_diff 14 = .ok (.invokevirtual 227, 3) := by decide +kernel
theorem dX10_diff_17 : decode cX10_diff 17 = .ok (.istore_n 3, 1) := by decide +kernel
theorem dX10_diff_18 : decode cX10_diff 18 = .ok (.iload_n 3, 1) := by decide +kernel
theorem dX10_diff_19 : decode cX10_diff 19 = .ok (.bipush 20, 2) := by decide +kernel
theorem dX10_diff_21 : decode cX10_diff 21 = .ok (.if_icmp .le 13, 3) := by decide +kernel
theorem dX10_diff_24 : decode cX10_diff 24 = .ok (.new 123, 3) := by decide +kernel
theorem dX10_diff_27 : decode cX10_diff 27 = .ok (.dup, 1) := by decide +kernel
theorem dX10_diff_28 : decode cX10_diff 28 = .ok (.ldc 231, 2) := by decide +kernel
theorem dX10_diff_30 : decode cX10_diff 30 = .ok (.invokespecial 127, 3) := by decide +kernel
theorem dX10_diff_33 : decode cX10_diff 33 = .ok (.athrow, 1) := by decide +kernel
theorem dX10_diff_34 : decode cX10_diff 34 = .ok (.aload_n 0, 1) := by decide +kernel
theorem dX10_diff_35 : decode cX10_diff 35 = .ok (.invokevirtual 182, 3) := by decide +kernel
theorem dX10_diff_38 : decode cX10_diff 38 = .ok (.istore 4, 2) := by decide +kernel
theorem dX10_diff_40 : decode cX10_diff 40 = .ok (.iconst 0, 1) := by decide +kernel
theorem dX10_diff_41 : decode cX10_diff 41 = .ok (.istore 5, 2) := by decide +kernel
theorem dX10_diff_43 : decode cX10_diff 43 = .ok (.iload 5, 2) := by decide +kernel
theorem dX10_diff_45 : decode cX10_diff 45 = .ok (.iload_n 3, 1) := by decide +kernel
theorem dX10_diff_46 : decode cX10_diff 46 = .ok (.if_icmp .ge 27, 3) := by decide +kernel
theorem dX10_diff_49 : decode cX10_diff 49 = .ok (.aload_n 0, 1) := by decide +kernel
theorem dX10_diff_50 : decode cX10_diff 50 = .ok (.iload 4, 2) := by decide +kernel
theorem dX10_diff_52 : decode cX10_diff 52 = .ok (.invokevirtual 185, 3) := by decide +kernel
theorem dX10_diff_55 : decode cX10_diff 55 = .ok (.aload_n 0, 1) := by decide +kernel
theorem dX10_diff_56 : decode cX10_diff 56 = .ok (.getfield 51, 3) := by decide +kernel
theorem dX10_diff_59 : decode cX10_diff 59 = .ok (.iload 5, 2) := by decide +kernel
theorem dX10_diff_61 : decode cX10_diff 61 = .ok (.invokevirtual 233, 3) := by decide +kernel
theorem dX10_diff_64 : decode cX10_diff 64 = .ok (.invokevirtual 205, 3) := by decide +kernel
theorem dX10_diff_67 : decode cX10_diff 67 = .ok (.iinc 5 1, 3) := by decide +kernel
theorem dX10_diff_70 : decode cX10_diff 70 = .ok (.goto (-27), 3) := by decide +kernel
theorem dX10_diff_73 : decode cX10_diff 73 = .ok (.iload 4, 2) := by decide +kernel
theorem dX10_diff_75 : decode cX10_diff 75 = .ok (.ireturn, 1) := by decide +kernel
theorem dX10_forget_0 : decode cX10_forget 0 = .ok (.aload_n 0, 1) := by decide +kernel
theorem dX10_forget_1 : decode cX10_forget 1 = .ok (.getfield 220, 3) := by decide +kernel
theorem dX10_forget_4 : decode cX10_forget 4 = .ok (.ifCond .ne 13, 3) := by decide +kernel
theorem dX10_forget_7 : decode cX10_forget 7 = .ok (.new 123, 3) := by decide +kernel
theorem dX10_forget_10 : decode cX10_forget 10 = .ok (.dup, 1) := by decide +kernel
theorem dX10_forget_11 : decode cX10_forget 11 = .ok (.ldc 237, 2) := by decide +kernel
theorem dX10_forget_13 : decode cX10_forget 13 = .ok (.invokespecial 127, 3) := by decide +kernel
theorem dX10_forget_16 : decode cX10_forget 16 = .ok (.athrow, 1) := by decide +kernel
theorem dX10_forget_17 : decode cX10_forget 17 = .ok (.aload_n 0, 1) := by decide +kernel
theorem dX10_forget_18 : decode cX10_forget 18 = .ok (.dup, 1) := by decide +kernel
theorem dX10_forget_19 : decode cX10_forget 19 = .ok (.getfield 220, 3) := by decide +kernel
theorem dX10_forget_22 : decode cX10_forget 22 = .ok (.iconst 1, 1) := by decide +kernel
theorem dX10_forget_23 : decode cX10_forget 23 = .ok (.isub, 1) := by decide +kernel
theorem dX10_forget_24 : decode cX10_forget 24 = .ok (.putfield 220, 3) := by decide +kernel
theorem dX10_forget_27 : decode cX10_forget 27 = .ok (.aload_n 0, 1) := by decide +kernel
theorem dX10_forget_28 : decode cX10_forget 28 = .ok (.getfield 220, 3) := by decide +kernel
theorem dX10_forget_31 : decode cX10_forget 31 = .ok (.ireturn, 1) := by decide +kernel
theorem dX10_patches_0 : decode cX10_patches 0 = .ok (.aload_n 0, 1) := by decide +kernel
theorem dX10_patches_1 : decode cX10_patches 1 = .ok (.getfield 220, 3) := by decide +kernel
theorem dX10_patches_4 : decode cX10_patches 4 = .ok (.ireturn, 1) := by decide +kernel
theorem dX10_operations_0 : decode cX10_operations 0 = .ok (.aload_n 0, 1) := by decide +kernel
theorem dX10_operations_1 : decode cX10_operations 1 = .ok (.iload_n 1, 1) := by decide +kernel
theorem dX10_operations_2 : decode cX10_operations 2 = .ok (.invokevirtual 185, 3) := by decide +kernel
theorem dX10_operations_5 : decode cX10_operations 5 = .ok (.getfield 191, 3) := by decide +kernel
theorem dX10_operations_8 : decode cX10_operations 8 = .ok (.ireturn, 1) := by decide +kernel
theorem dX10_ofOperation_0 : decode cX10_ofOperation 0 = .ok (.aload_n 0, 1) := by decide +kernel
theorem dX10_ofOperation_1 : decode cX10_ofOperation 1 = .ok (.iload_n 1, 1) := by decide +kernel
theorem dX10_ofOperation_2 : decode cX10_ofOperation 2 = .ok (.invokevirtual 185, 3) := by decide +kernel
theorem dX10_ofOperation_5 : decode cX10_ofOperation 5 = .ok (.iload_n 2, 1) := by decide +kernel
theorem dX10_ofOperation_6 : decode cX10_ofOperation 6 = .ok (.invokevirtual 239, 3) := by decide +kernel
theorem dX10_ofOperation_9 : decode cX10_ofOperation 9 = .ok (.astore 4, 2) := by decide +kernel
theorem dX10_ofOperation_11 : decode cX10_ofOperation 11 = .ok (.aload 4, 2) := by decide +kernel
theorem dX10_ofOperation_13 : decode cX10_ofOperation 13 = .ok (.ifnonnull 13, 3) := by decide +kernel
theorem dX10_ofOperation_16 : decode cX10_ofOperation 16 = .ok (.new 112, 3) := by decide +kernel
theorem dX10_ofOperation_19 : decode cX10_ofOperation 19 = .ok (.dup, 1) := by decide +kernel
theorem dX10_ofOperation_20 : decode cX10_ofOperation 20 = .ok (.ldc 240, 2) := by decide +kernel
theorem dX10_ofOperation_22 : decode cX10_ofOperation 22 = .ok (.invokespecial 116, 3) := by decide +kernel
theorem dX10_ofOperation_25 : decode cX10_ofOperation 25 = .ok (.athrow, 1) := by decide +kernel
theorem dX10_ofOperation_26 : decode cX10_ofOperation 26 = .ok (.iload_n 3, 1) := by decide +kernel
theorem dX10_ofOperation_27 : decode cX10_ofOperation 27 = .ok (.ifCond .lt 8, 3) := by decide +kernel
theorem dX10_ofOperation_30 : decode cX10_ofOperation 30 = .ok (.iload_n 3, 1) := by decide +kernel
theorem dX10_ofOperation_31 : decode cX10_ofOperation 31 = .ok (.iconst 3, 1) := by decide +kernel
theorem dX10_ofOperation_32 : decode cX10_ofOperation 32 = .ok (.if_icmp .le 13, 3) := by decide +kernel
theorem dX10_ofOperation_35 : decode cX10_ofOperation 35 = .ok (.new 140, 3) := by decide +kernel
theorem dX10_ofOperation_38 : decode cX10_ofOperation 38 = .ok (.dup, 1) := by decide +kernel
theorem dX10_ofOperation_39 : decode cX10_ofOperation 39 = .ok (.ldc 242, 2) := by decide +kernel
theorem dX10_ofOperation_41 : decode cX10_ofOperation 41 = .ok (.invokespecial 144, 3) := by decide +kernel
theorem dX10_ofOperation_44 : decode cX10_ofOperation 44 = .ok (.athrow, 1) := by decide +kernel
theorem dX10_ofOperation_45 : decode cX10_ofOperation 45 = .ok (.aload 4, 2) := by decide +kernel
theorem dX10_ofOperation_47 : decode cX10_ofOperation 47 = .ok (.iload_n 3, 1) := by decide +kernel
theorem dX10_ofOperation_48 : decode cX10_ofOperation 48 = .ok (.invokevirtual 244, 3) := by decide +kernel
theorem dX10_ofOperation_51 : decode cX10_ofOperation 51 = .ok (.ireturn, 1) := by decide +kernel
theorem dX10_difference_0 : decode cX10_difference 0 = .ok (.aload_n 0, 1) := by decide +kernel
theorem dX10_difference_1 : decode cX10_difference 1 = .ok (.getfield 51, 3) := by decide +kernel
theorem dX10_difference_4 : decode cX10_difference 4 = .ok (.aload_n 0, 1) := by decide +kernel
theorem dX10_difference_5 : decode cX10_difference 5 = .ok (.iload_n 1, 1) := by decide +kernel
theorem dX10_difference_6 : decode cX10_difference 6 = .ok (.invokevirtual 85, 3) := by decide +kernel
theorem dX10_difference_9 : decode cX10_difference 9 = .ok (.aload_n 0, 1) := by decide +kernel
theorem dX10_difference_10 : decode cX10_difference 10 = .ok (.iload_n 2, 1) := by decide +kernel
theorem dX10_difference_11 : decode cX10_difference 11 = .ok (.invokevirtual 85, 3) := by decide +kernel
theorem dX10_difference_14 : decode cX10_difference 14 = .ok (.invokevirtual 247, 3) := by decide +kernel
theorem dX10_difference_17 : decode cX10_difference 17 = .ok (.ireturn, 1) := by decide +kernel
theorem dX10_changes_0 : decode cX10_changes 0 = .ok (.aload_n 0, 1) := by decide +kernel
theorem dX10_changes_1 : decode cX10_changes 1 = .ok (.getfield 51, 3) := by decide +kernel
theorem dX10_changes_4 : decode cX10_changes 4 = .ok (.aload_n 0, 1) := by decide +kernel
theorem dX10_changes_5 : decode cX10_changes 5 = .ok (.iload_n 1, 1) := by decide +kernel
theorem dX10_changes_6 : decode cX10_changes 6 = .ok (.invokevirtual 85, 3) := by decide +kernel
theorem dX10_changes_9 : decode cX10_changes 9 = .ok (.aload_n 0, 1) := by decide +kernel
theorem dX10_changes_10 : decode cX10_changes 10 = .ok (.iload_n 2, 1) := by decide +kernel
theorem dX10_changes_11 : decode cX10_changes 11 = .ok (.invokevirtual 85, 3) := by decide +kernel
theorem dX10_changes_14 : decode cX10_changes 14 = .ok (.invokevirtual 227, 3) := by decide +kernel
theorem dX10_changes_17 : decode cX10_changes 17 = .ok (.ireturn, 1) := by decide +kernel
theorem dX10_fitting_0 : decode cX10_fitting 0 = .ok (.iconst 0, 1) := by decide +kernel
theorem dX10_fitting_1 : decode cX10_fitting 1 = .ok (.istore_n 2, 1) := by decide +kernel
theorem dX10_fitting_2 : decode cX10_fitting 2 = .ok (.iconst 0, 1) := by decide +kernel
theorem dX10_fitting_3 : decode cX10_fitting 3 = .ok (.istore_n 3, 1) := by decide +kernel
theorem dX10_fitting_4 : decode cX10_fitting 4 = .ok (.iload_n 3, 1) := by decide +kernel
theorem dX10_fitting_5 : decode cX10_fitting 5 = .ok (.bipush 6, 2) := by decide +kernel
theorem dX10_fitting_7 : decode cX10_fitting 7 = .ok (.if_icmp .ge 25, 3) := by decide +kernel
theorem dX10_fitting_10 : decode cX10_fitting 10 = .ok (.aload_n 0, 1) := by decide +kernel
theorem dX10_fitting_11 : decode cX10_fitting 11 = .ok (.iload_n 3, 1) := by decide +kernel
theorem dX10_fitting_12 : decode cX10_fitting 12 = .ok (.iload_n 1, 1) := by decide +kernel
theorem dX10_fitting_13 : decode cX10_fitting 13 = .ok (.iconst (-1), 1) := by decide +kernel
theorem dX10_fitting_14 : decode cX10_fitting 14 = .ok (.invokevirtual 295, 3) := by decide +kernel
theorem dX10_fitting_17 : decode cX10_fitting 17 = .ok (.ifCond .ne 9, 3) := by decide +kernel
theorem dX10_fitting_20 : decode cX10_fitting 20 = .ok (.iload_n 2, 1) := by decide +kernel
theorem dX10_fitting_21 : decode cX10_fitting 21 = .ok (.iconst 1, 1) := by decide +kernel
theorem dX10_fitting_22 : decode cX10_fitting 22 = .ok (.iload_n 3, 1) := by decide +kernel
theorem dX10_fitting_23 : decode cX10_fitting 23 = .ok (.ishl, 1) := by decide +kernel
theorem dX10_fitting_24 : decode cX10_fitting 24 = .ok (.ior, 1) := by decide +kernel
theorem dX10_fitting_25 : decode cX10_fitting 25 = .ok (.istore_n 2, 1) := by decide +kernel
theorem dX10_fitting_26 : decode cX10_fitting 26 = .ok (.iinc 3 1, 3) := by decide +kernel
theorem dX10_fitting_29 : decode cX10_fitting 29 = .ok (.goto (-25), 3) := by decide +kernel
theorem dX10_fitting_32 : decode cX10_fitting 32 = .ok (.iload_n 2, 1) := by decide +kernel
theorem dX10_fitting_33 : decode cX10_fitting 33 = .ok (.ireturn, 1) := by decide +kernel
theorem dX10_addQuery_0 : decode cX10_addQuery 0 = .ok (.aload_n 0, 1) := by decide +kernel
theorem dX10_addQuery_1 : decode cX10_addQuery 1 = .ok (.getfield 311, 3) := by decide +kernel
theorem dX10_addQuery_4 : decode cX10_addQuery 4 = .ok (.bipush 6, 2) := by decide +kernel
theorem dX10_addQuery_6 : decode cX10_addQuery 6 = .ok (.if_icmp .lt 14, 3) := by decide +kernel
theorem dX10_addQuery_9 : decode cX10_addQuery 9 = .ok (.new 123, 3) := by decide +kernel
theorem dX10_addQuery_12 : decode cX10_addQuery 12 = .ok (.dup, 1) := by decide +kernel
theorem dX10_addQuery_13 : decode cX10_addQuery 13 = .ok (.ldc_w 314, 3) := by decide +kernel
theorem dX10_addQuery_16 : decode cX10_addQuery 16 = .ok (.invokespecial 127, 3) := by decide +kernel
theorem dX10_addQuery_19 : decode cX10_addQuery 19 = .ok (.athrow, 1) := by decide +kernel
theorem dX10_addQuery_20 : decode cX10_addQuery 20 = .ok (.aload_n 0, 1) := by decide +kernel
theorem dX10_addQuery_21 : decode cX10_addQuery 21 = .ok (.dup, 1) := by decide +kernel
theorem dX10_addQuery_22 : decode cX10_addQuery 22 = .ok (.getfield 311, 3) := by decide +kernel
theorem dX10_addQuery_25 : decode cX10_addQuery 25 = .ok (.iconst 1, 1) := by decide +kernel
theorem dX10_addQuery_26 : decode cX10_addQuery 26 = .ok (.iadd, 1) := by decide +kernel
theorem dX10_addQuery_27 : decode cX10_addQuery 27 = .ok (.putfield 311, 3) := by decide +kernel
theorem dX10_addQuery_30 : decode cX10_addQuery 30 = .ok (.aload_n 0, 1) := by decide +kernel
theorem dX10_addQuery_31 : decode cX10_addQuery 31 = .ok (.getfield 311, 3) := by decide +kernel
theorem dX10_addQuery_34 : decode cX10_addQuery 34 = .ok (.iconst 1, 1) := by decide +kernel
theorem dX10_addQuery_35 : decode cX10_addQuery 35 = .ok (.isub, 1) := by decide +kernel
theorem dX10_addQuery_36 : decode cX10_addQuery 36 = .ok (.ireturn, 1) := by decide +kernel
theorem dX10_addPart_0 : decode cX10_addPart 0 = .ok (.aload_n 0, 1) := by decide +kernel
theorem dX10_addPart_1 : decode cX10_addPart 1 = .ok (.iload_n 1, 1) := by decide +kernel
theorem dX10_addPart_2 : decode cX10_addPart 2 = .ok (.invokevirtual 316, 3) := by decide +kernel
theorem dX10_addPart_5 : decode cX10_addPart 5 = .ok (.astore 4, 2) := by decide +kernel
theorem dX10_addPart_7 : decode cX10_addPart 7 = .ok (.iload_n 2, 1) := by decide +kernel
theorem dX10_addPart_8 : decode cX10_addPart 8 = .ok (.iload_n 3, 1) := by decide +kernel
theorem dX10_addPart_9 : decode cX10_addPart 9 = .ok (.invokestatic 320, 3) := by decide +kernel
theorem dX10_addPart_12 : decode cX10_addPart 12 = .ok (.ifCond .ne 14, 3) := by decide +kernel
theorem dX10_addPart_15 : decode cX10_addPart 15 = .ok (.new 140, 3) := by decide +kernel
theorem dX10_addPart_18 : decode cX10_addPart 18 = .ok (.dup, 1) := by decide +kernel
theorem dX10_addPart_19 : decode cX10_addPart 19 = .ok (.ldc_w 324, 3) := by decide +kernel
theorem dX10_addPart_22 : decode cX10_addPart 22 = .ok (.invokespecial 144, 3) := by decide +kernel
theorem dX10_addPart_25 : decode cX10_addPart 25 = .ok (.athrow, 1) := by decide +kernel
theorem dX10_addPart_26 : decode cX10_addPart 26 = .ok (.aload 4, 2) := by decide +kernel
theorem dX10_addPart_28 : decode cX10_addPart 28 = .ok (.iload_n 2, 1) := by decide +kernel
theorem dX10_addPart_29 : decode cX10_addPart 29 = .ok (.iload_n 3, 1) := by decide +kernel
theorem dX10_addPart_30 : decode cX10_addPart 30 = .ok (.invokevirtual 326, 3) := by decide +kernel
theorem dX10_addPart_33 : decode cX10_addPart 33 = .ok (.ifCond .ne 14, 3) := by decide +kernel
theorem dX10_addPart_36 : decode cX10_addPart 36 = .ok (.new 123, 3) := by decide +kernel
theorem dX10_addPart_39 : decode cX10_addPart 39 = .ok (.dup, 1) := by decide +kernel
theorem dX10_addPart_40 : decode cX10_addPart 40 = .ok (.ldc_w 328, 3) := by decide +kernel
theorem dX10_addPart_43 : decode cX10_addPart 43 = .ok (.invokespecial 127, 3) := by decide +kernel
theorem dX10_addPart_46 : decode cX10_addPart 46 = .ok (.athrow, 1) := by decide +kernel
theorem dX10_addPart_47 : decode cX10_addPart 47 = .ok (.aload 4, 2) := by decide +kernel
theorem dX10_addPart_49 : decode cX10_addPart 49 = .ok (.getfield 330, 3) := by decide +kernel
theorem dX10_addPart_52 : decode cX10_addPart 52 = .ok (.ireturn, 1) := by decide +kernel
theorem dX10_found_0 : decode cX10_found 0 = .ok (.aload_n 0, 1) := by decide +kernel
theorem dX10_found_1 : decode cX10_found 1 = .ok (.iload_n 1, 1) := by decide +kernel
theorem dX10_found_2 : decode cX10_found 2 = .ok (.iload_n 2, 1) := by decide +kernel
theorem dX10_found_3 : decode cX10_found 3 = .ok (.invokevirtual 331, 3) := by decide +kernel
theorem dX10_found_6 : decode cX10_found 6 = .ok (.invokestatic 335, 3) := by decide +kernel
theorem dX10_found_9 : decode cX10_found 9 = .ok (.ireturn, 1) := by decide +kernel
theorem dX10_dropFound_0 : decode cX10_dropFound 0 = .ok (.aload_n 0, 1) := by decide +kernel
theorem dX10_dropFound_1 : decode cX10_dropFound 1 = .ok (.iload_n 2, 1) := by decide +kernel
theorem dX10_dropFound_2 : decode cX10_dropFound 2 = .ok (.aload_n 0, 1) := by decide +kernel
theorem dX10_dropFound_3 : decode cX10_dropFound 3 = .ok (.getfield 65, 3) := by decide +kernel
theorem dX10_dropFound_6 : decode cX10_dropFound 6 = .ok (.aload_n 0, 1) := by decide +kernel
theorem dX10_dropFound_7 : decode cX10_dropFound 7 = .ok (.iload_n 1, 1) := by decide +kernel
theorem dX10_dropFound_8 : decode cX10_dropFound 8 = .ok (.iload_n 2, 1) := by decide +kernel
theorem dX10_dropFound_9 : decode cX10_dropFound 9 = .ok (.invokevirtual 331, 3) := by decide +kernel
theorem dX10_dropFound_12 : decode cX10_dropFound 12 = .ok (.invokevirtual 363, 3) := by decide +kernel
theorem dX10_dropFound_15 : decode cX10_dropFound 15 = .ok (.invokevirtual 216, 3) := by decide +kernel
theorem dX10_dropFound_18 : decode cX10_dropFound 18 = .ok (.aload_n 0, 1) := by decide +kernel
theorem dX10_dropFound_19 : decode cX10_dropFound 19 = .ok (.iload_n 2, 1) := by decide +kernel
theorem dX10_dropFound_20 : decode cX10_dropFound 20 = .ok (.invokevirtual 85, 3) := by decide +kernel
theorem dX10_dropFound_23 : decode cX10_dropFound 23 = .ok (.getfield 145, 3) := by decide +kernel
theorem dX10_dropFound_26 : decode cX10_dropFound 26 = .ok (.ireturn, 1) := by decide +kernel
theorem dX10_digest_0 : decode cX10_digest 0 = .ok (.ldc2_w 367, 3) := by decide +kernel
theorem dX10_digest_3 : decode cX10_digest 3 = .ok (.lstore_n 1, 1) := by decide +kernel
theorem dX10_digest_4 : decode cX10_digest 4 = .ok (.lload_n 1, 1) := by decide +kernel
theorem dX10_digest_5 : decode cX10_digest 5 = .ok (.ldc2_w 369, 3) := by decide +kernel
theorem dX10_digest_8 : decode cX10_digest 8 = .ok (.lmul, 1) := by decide +kernel
theorem dX10_digest_9 : decode cX10_digest 9 = .ok (.aload_n 0, 1) := by decide +kernel
theorem dX10_digest_10 : decode cX10_digest 10 = .ok (.getfield 25, 3) := by decide +kernel
theorem dX10_digest_13 : decode cX10_digest 13 = .ok (.getfield 131, 3) := by decide +kernel
theorem dX10_digest_16 : decode cX10_digest 16 = .ok (.i2l, 1) := by decide +kernel
theorem dX10_digest_17 : decode cX10_digest 17 = .ok (.ladd, 1) := by decide +kernel
theorem dX10_digest_18 : decode cX10_digest 18 = .ok (.lstore_n 1, 1) := by decide +kernel
theorem dX10_digest_19 : decode cX10_digest 19 = .ok (.lload_n 1, 1) := by decide +kernel
theorem dX10_digest_20 : decode cX10_digest 20 = .ok (.ldc2_w 369, 3) := by decide +kernel
theorem dX10_digest_23 : decode cX10_digest 23 = .ok (.lmul, 1) := by decide +kernel
theorem dX10_digest_24 : decode cX10_digest 24 = .ok (.aload_n 0, 1) := by decide +kernel
theorem dX10_digest_25 : decode cX10_digest 25 = .ok (.getfield 25, 3) := by decide +kernel
theorem dX10_digest_28 : decode cX10_digest 28 = .ok (.getfield 128, 3) := by decide +kernel
theorem dX10_digest_31 : decode cX10_digest 31 = .ok (.i2l, 1) := by decide +kernel
theorem dX10_digest_32 : decode cX10_digest 32 = .ok (.ladd, 1) := by decide +kernel
theorem dX10_digest_33 : decode cX10_digest 33 = .ok (.lstore_n 1, 1) := by decide +kernel
theorem dX10_digest_34 : decode cX10_digest 34 = .ok (.iconst 0, 1) := by decide +kernel
theorem dX10_digest_35 : decode cX10_digest 35 = .ok (.istore_n 3, 1) := by decide +kernel
theorem dX10_digest_36 : decode cX10_digest 36 = .ok (.iload_n 3, 1) := by decide +kernel
theorem dX10_digest_37 : decode cX10_digest 37 = .ok (.aload_n 0, 1) := by decide +kernel
theorem dX10_digest_38 : decode cX10_digest 38 = .ok (.getfield 25, 3) := by decide +kernel
theorem dX10_digest_41 : decode cX10_digest 41 = .ok (.getfield 128, 3) := by decide +kernel
theorem dX10_digest_44 : decode cX10_digest 44 = .ok (.if_icmp .ge 22, 3) := by decide +kernel
theorem dX10_digest_47 : decode cX10_digest 47 = .ok (.lload_n 1, 1) := by decide +kernel
theorem dX10_digest_48 : decode cX10_digest 48 = .ok (.ldc2_w 369, 3) := by decide +kernel
theorem dX10_digest_51 : decode cX10_digest 51 = .ok (.lmul, 1) := by decide +kernel
theorem dX10_digest_52 : decode cX10_digest 52 = .ok (.aload_n 0, 1) := by decide +kernel
theorem dX10_digest_53 : decode cX10_digest 53 = .ok (.iload_n 3, 1) := by decide +kernel
theorem dX10_digest_54 : decode cX10_digest 54 = .ok (.invokevirtual 371, 3) := by decide +kernel
theorem dX10_digest_57 : decode cX10_digest 57 = .ok (.i2l, 1) := by decide +kernel
theorem dX10_digest_58 : decode cX10_digest 58 = .ok (.ladd, 1) := by decide +kernel
theorem dX10_digest_59 : decode cX10_digest 59 = .ok (.lstore_n 1, 1) := by decide +kernel
theorem dX10_digest_60 : decode cX10_digest 60 = .ok (.iinc 3 1, 3) := by decide +kernel
theorem dX10_digest_63 : decode cX10_digest 63 = .ok (.goto (-27), 3) := by decide +kernel
theorem dX10_digest_66 : decode cX10_digest 66 = .ok (.iconst 0, 1) := by decide +kernel
theorem dX10_digest_67 : decode cX10_digest 67 = .ok (.istore_n 3, 1) := by decide +kernel
theorem dX10_digest_68 : decode cX10_digest 68 = .ok (.iload_n 3, 1) := by decide +kernel
theorem dX10_digest_69 : decode cX10_digest 69 = .ok (.bipush 6, 2) := by decide +kernel
theorem dX10_digest_71 : decode cX10_digest 71 = .ok (.if_icmp .ge 20, 3) := by decide +kernel
theorem dX10_digest_74 : decode cX10_digest 74 = .ok (.aload_n 0, 1) := by decide +kernel
theorem dX10_digest_75 : decode cX10_digest 75 = .ok (.lload_n 1, 1) := by decide +kernel
theorem dX10_digest_76 : decode cX10_digest 76 = .ok (.aload_n 0, 1) := by decide +kernel
theorem dX10_digest_77 : decode cX10_digest 77 = .ok (.iload_n 3, 1) := by decide +kernel
theorem dX10_digest_78 : decode cX10_digest 78 = .ok (.invokevirtual 85, 3) := by decide +kernel
theorem dX10_digest_81 : decode cX10_digest 81 = .ok (.invokevirtual 374, 3) := by decide +kernel
theorem dX10_digest_84 : decode cX10_digest 84 = .ok (.lstore_n 1, 1) := by decide +kernel
theorem dX10_digest_85 : decode cX10_digest 85 = .ok (.iinc 3 1, 3) := by decide +kernel
theorem dX10_digest_88 : decode cX10_digest 88 = .ok (.goto (-20), 3) := by decide +kernel
theorem dX10_digest_91 : decode cX10_digest 91 = .ok (.aload_n 0, 1) := by decide +kernel
theorem dX10_digest_92 : decode cX10_digest 92 = .ok (.lload_n 1, 1) := by decide +kernel
theorem dX10_digest_93 : decode cX10_digest 93 = .ok (.aload_n 0, 1) := by decide +kernel
theorem dX10_digest_94 : decode cX10_digest 94 = .ok (.getfield 18, 3) := by decide +kernel
theorem dX10_digest_97 : decode cX10_digest 97 = .ok (.invokevirtual 374, 3) := by decide +kernel
theorem dX10_digest_100 : decode cX10_digest 100 = .ok (.lstore_n 1, 1) := by decide +kernel
theorem dX10_digest_101 : decode cX10_digest 101 = .ok (.iconst 0, 1) := by decide +kernel
theorem dX10_digest_102 : decode cX10_digest 102 = .ok (.istore_n 3, 1) := by decide +kernel
theorem dX10_digest_103 : decode cX10_digest 103 = .ok (.iload_n 3, 1) := by decide +kernel
theorem dX10_digest_104 : decode cX10_digest 104 = .ok (.iconst 1, 1) := by decide +kernel
theorem dX10_digest_105 : decode cX10_digest 105 = .ok (.iadd, 1) := by decide +kernel
theorem dX10_digest_106 : decode cX10_digest 106 = .ok (.bipush 6, 2) := by decide +kernel
theorem dX10_digest_108 : decode cX10_digest 108 = .ok (.if_icmp .ge 25, 3) := by decide +kernel
theorem dX10_digest_111 : decode cX10_digest 111 = .ok (.lload_n 1, 1) := by decide +kernel
theorem dX10_digest_112 : decode cX10_digest 112 = .ok (.ldc2_w 369, 3) := by decide +kernel
theorem dX10_digest_115 : decode cX10_digest 115 = .ok (.lmul, 1) := by decide +kernel
theorem dX10_digest_116 : decode cX10_digest 116 = .ok (.aload_n 0, 1) := by decide +kernel
theorem dX10_digest_117 : decode cX10_digest 117 = .ok (.iload_n 3, 1) := by decide +kernel
theorem dX10_digest_118 : decode cX10_digest 118 = .ok (.iload_n 3, 1) := by decide +kernel
theorem dX10_digest_119 : decode cX10_digest 119 = .ok (.iconst 1, 1) := by decide +kernel
theorem dX10_digest_120 : decode cX10_digest 120 = .ok (.iadd, 1) := by decide +kernel
theorem dX10_digest_121 : decode cX10_digest 121 = .ok (.invokevirtual 378, 3) := by decide +kernel
theorem dX10_digest_124 : decode cX10_digest 124 = .ok (.i2l, 1) := by decide +kernel
theorem dX10_digest_125 : decode cX10_digest 125 = .ok (.ladd, 1) := by decide +kernel
theorem dX10_digest_126 : decode cX10_digest 126 = .ok (.lstore_n 1, 1) := by decide +kernel
theorem dX10_digest_127 : decode cX10_digest 127 = .ok (.iinc 3 1, 3) := by decide +kernel
theorem dX10_digest_130 : decode cX10_digest 130 = .ok (.goto (-27), 3) := by decide +kernel
theorem dX10_digest_133 : decode cX10_digest 133 = .ok (.aload_n 0, 1) := by decide +kernel
theorem dX10_digest_134 : decode cX10_digest 134 = .ok (.lload_n 1, 1) := by decide +kernel
theorem dX10_digest_135 : decode cX10_digest 135 = .ok (.invokevirtual 382, 3) := by decide +kernel
theorem dX10_digest_138 : decode cX10_digest 138 = .ok (.lstore_n 1, 1) := by decide +kernel
theorem dX10_digest_139 : decode cX10_digest 139 = .ok (.iconst 0, 1) := by decide +kernel
theorem dX10_digest_140 : decode cX10_digest 140 = .ok (.istore_n 3, 1) := by decide +kernel
theorem dX10_digest_141 : decode cX10_digest 141 = .ok (.iload_n 3, 1) := by decide +kernel
theorem dX10_digest_142 : decode cX10_digest 142 = .ok (.aload_n 0, 1) := by decide +kernel
theorem dX10_digest_143 : decode cX10_digest 143 = .ok (.getfield 250, 3) := by decide +kernel
theorem dX10_digest_146 : decode cX10_digest 146 = .ok (.if_icmp .ge 22, 3) := by decide +kernel
theorem dX10_digest_149 : decode cX10_digest 149 = .ok (.lload_n 1, 1) := by decide +kernel
theorem dX10_digest_150 : decode cX10_digest 150 = .ok (.ldc2_w 369, 3) := by decide +kernel
theorem dX10_digest_153 : decode cX10_digest 153 = .ok (.lmul, 1) := by decide +kernel
theorem dX10_digest_154 : decode cX10_digest 154 = .ok (.aload_n 0, 1) := by decide +kernel
theorem dX10_digest_155 : decode cX10_digest 155 = .ok (.iload_n 3, 1) := by decide +kernel
theorem dX10_digest_156 : decode cX10_digest 156 = .ok (.invokevirtual 385, 3) := by decide +kernel
theorem dX10_digest_159 : decode cX10_digest 159 = .ok (.i2l, 1) := by decide +kernel
theorem dX10_digest_160 : decode cX10_digest 160 = .ok (.ladd, 1) := by decide +kernel
theorem dX10_digest_161 : decode cX10_digest 161 = .ok (.lstore_n 1, 1) := by decide +kernel
theorem dX10_digest_162 : decode cX10_digest 162 = .ok (.iinc 3 1, 3) := by decide +kernel
theorem dX10_digest_165 : decode cX10_digest 165 = .ok (.goto (-24), 3) := by decide +kernel
theorem dX10_digest_168 : decode cX10_digest 168 = .ok (.iconst 0, 1) := by decide +kernel
theorem dX10_digest_169 : decode cX10_digest 169 = .ok (.istore_n 3, 1) := by decide +kernel
theorem dX10_digest_170 : decode cX10_digest 170 = .ok (.iload_n 3, 1) := by decide +kernel
theorem dX10_digest_171 : decode cX10_digest 171 = .ok (.aload_n 0, 1) := by decide +kernel
theorem dX10_digest_172 : decode cX10_digest 172 = .ok (.getfield 311, 3) := by decide +kernel
theorem dX10_digest_175 : decode cX10_digest 175 = .ok (.if_icmp .ge 40, 3) := by decide +kernel
theorem dX10_digest_178 : decode cX10_digest 178 = .ok (.iconst 0, 1) := by decide +kernel
theorem dX10_digest_179 : decode cX10_digest 179 = .ok (.istore 4, 2) := by decide +kernel
theorem dX10_digest_181 : decode cX10_digest 181 = .ok (.iload 4, 2) := by decide +kernel
theorem dX10_digest_183 : decode cX10_digest 183 = .ok (.bipush 6, 2) := by decide +kernel
theorem dX10_digest_185 : decode cX10_digest 185 = .ok (.if_icmp .ge 24, 3) := by decide +kernel
theorem dX10_digest_188 : decode cX10_digest 188 = .ok (.lload_n 1, 1) := by decide +kernel
theorem dX10_digest_189 : decode cX10_digest 189 = .ok (.ldc2_w 369, 3) := by decide +kernel
theorem dX10_digest_192 : decode cX10_digest 192 = .ok (.lmul, 1) := by decide +kernel
theorem dX10_digest_193 : decode cX10_digest 193 = .ok (.aload_n 0, 1) := by decide +kernel
theorem dX10_digest_194 : decode cX10_digest 194 = .ok (.iload_n 3, 1) := by decide +kernel
theorem dX10_digest_195 : decode cX10_digest 195 = .ok (.iload 4, 2) := by decide +kernel
theorem dX10_digest_197 : decode cX10_digest 197 = .ok (.invokevirtual 388, 3) := by decide +kernel
theorem dX10_digest_200 : decode cX10_digest 200 = .ok (.i2l, 1) := by decide +kernel
theorem dX10_digest_201 : decode cX10_digest 201 = .ok (.ladd, 1) := by decide +kernel
theorem dX10_digest_202 : decode cX10_digest 202 = .ok (.lstore_n 1, 1) := by decide +kernel
theorem dX10_digest_203 : decode cX10_digest 203 = .ok (.iinc 4 1, 3) := by decide +kernel
theorem dX10_digest_206 : decode cX10_digest 206 = .ok (.goto (-25), 3) := by decide +kernel
theorem dX10_digest_209 : decode cX10_digest 209 = .ok (.iinc 3 1, 3) := by decide +kernel
theorem dX10_digest_212 : decode cX10_digest 212 = .ok (.goto (-42), 3) := by decide +kernel
theorem dX10_digest_215 : decode cX10_digest 215 = .ok (.lload_n 1, 1) := by decide +kernel
theorem dX10_digest_216 : decode cX10_digest 216 = .ok (.lreturn, 1) := by decide +kernel
theorem dX10_wholeOf_0 : decode cX10_wholeOf 0 = .ok (.iload_n 1, 1) := by decide +kernel
theorem dX10_wholeOf_1 : decode cX10_wholeOf 1 = .ok (.ifCond .lt 12, 3) := by decide +kernel
theorem dX10_wholeOf_4 : decode cX10_wholeOf 4 = .ok (.iload_n 1, 1) := by decide +kernel
theorem dX10_wholeOf_5 : decode cX10_wholeOf 5 = .ok (.aload_n 0, 1) := by decide +kernel
theorem dX10_wholeOf_6 : decode cX10_wholeOf 6 = .ok (.getfield 14, 3) := by decide +kernel
theorem dX10_wholeOf_9 : decode cX10_wholeOf 9 = .ok (.arraylength, 1) := by decide +kernel
theorem dX10_wholeOf_10 : decode cX10_wholeOf 10 = .ok (.if_icmp .lt 14, 3) := by decide +kernel
theorem dX10_wholeOf_13 : decode cX10_wholeOf 13 = .ok (.new 112, 3) := by decide +kernel
theorem dX10_wholeOf_16 : decode cX10_wholeOf 16 = .ok (.dup, 1) := by decide +kernel
theorem dX10_wholeOf_17 : decode cX10_wholeOf 17 = .ok (.ldc_w 391, 3) := by decide +kernel
theorem dX10_wholeOf_20 : decode cX10_wholeOf 20 = .ok (.invokespecial 116, 3) := by decide +kernel
theorem dX10_wholeOf_23 : decode cX10_wholeOf 23 = .ok (.athrow, 1) := by decide +kernel
theorem dX10_wholeOf_24 : decode cX10_wholeOf 24 = .ok (.aload_n 0, 1) := by decide +kernel
theorem dX10_wholeOf_25 : decode cX10_wholeOf 25 = .ok (.getfield 14, 3) := by decide +kernel
theorem dX10_wholeOf_28 : decode cX10_wholeOf 28 = .ok (.iload_n 1, 1) := by decide +kernel
theorem dX10_wholeOf_29 : decode cX10_wholeOf 29 = .ok (.aaload, 1) := by decide +kernel
theorem dX10_wholeOf_30 : decode cX10_wholeOf 30 = .ok (.areturn, 1) := by decide +kernel
theorem dX10_patchOf_0 : decode cX10_patchOf 0 = .ok (.iload_n 1, 1) := by decide +kernel
theorem dX10_patchOf_1 : decode cX10_patchOf 1 = .ok (.ifCond .lt 20, 3) := by decide +kernel
theorem dX10_patchOf_4 : decode cX10_patchOf 4 = .ok (.iload_n 1, 1) := by decide +kernel
theorem dX10_patchOf_5 : decode cX10_patchOf 5 = .ok (.aload_n 0, 1) := by decide +kernel
theorem dX10_patchOf_6 : decode cX10_patchOf 6 = .ok (.getfield 220, 3) := by decide +kernel
theorem dX10_patchOf_9 : decode cX10_patchOf 9 = .ok (.if_icmp .ge 12, 3) := by decide +kernel
theorem dX10_patchOf_12 : decode cX10_patchOf 12 = .ok (.iload_n 1, 1) := by decide +kernel
theorem dX10_patchOf_13 : decode cX10_patchOf 13 = .ok (.aload_n 0, 1) := by decide +kernel
theorem dX10_patchOf_14 : decode cX10_patchOf 14 = .ok (.getfield 40, 3) := by decide +kernel
theorem dX10_patchOf_17 : decode cX10_patchOf 17 = .ok (.arraylength, 1) := by decide +kernel
theorem dX10_patchOf_18 : decode cX10_patchOf 18 = .ok (.if_icmp .lt 14, 3) := by decide +kernel
theorem dX10_patchOf_21 : decode cX10_patchOf 21 = .ok (.new 112, 3) := by decide +kernel
theorem dX10_patchOf_24 : decode cX10_patchOf 24 = .ok (.dup, 1) := by decide +kernel
theorem dX10_patchOf_25 : decode cX10_patchOf 25 = .ok (.ldc_w 393, 3) := by decide +kernel
theorem dX10_patchOf_28 : decode cX10_patchOf 28 = .ok (.invokespecial 116, 3) := by decide +kernel
theorem dX10_patchOf_31 : decode cX10_patchOf 31 = .ok (.athrow, 1) := by decide +kernel
theorem dX10_patchOf_32 : decode cX10_patchOf 32 = .ok (.aload_n 0, 1) := by decide +kernel
theorem dX10_patchOf_33 : decode cX10_patchOf 33 = .ok (.getfield 40, 3) := by decide +kernel
theorem dX10_patchOf_36 : decode cX10_patchOf 36 = .ok (.iload_n 1, 1) := by decide +kernel
theorem dX10_patchOf_37 : decode cX10_patchOf 37 = .ok (.aaload, 1) := by decide +kernel
theorem dX10_patchOf_38 : decode cX10_patchOf 38 = .ok (.areturn, 1) := by decide +kernel
theorem dX10_schemaOf_0 : decode cX10_schemaOf 0 = .ok (.iload_n 1, 1) := by decide +kernel
theorem dX10_schemaOf_1 : decode cX10_schemaOf 1 = .ok (.ifCond .lt 20, 3) := by decide +kernel
theorem dX10_schemaOf_4 : decode cX10_schemaOf 4 = .ok (.iload_n 1, 1) := by decide +kernel
theorem dX10_schemaOf_5 : decode cX10_schemaOf 5 = .ok (.aload_n 0, 1) := by decide +kernel
theorem dX10_schemaOf_6 : decode cX10_schemaOf 6 = .ok (.getfield 250, 3) := by decide +kernel
theorem dX10_schemaOf_9 : decode cX10_schemaOf 9 = .ok (.if_icmp .ge 12, 3) := by decide +kernel
theorem dX10_schemaOf_12 : decode cX10_schemaOf 12 = .ok (.iload_n 1, 1) := by decide +kernel
theorem dX10_schemaOf_13 : decode cX10_schemaOf 13 = .ok (.aload_n 0, 1) := by decide +kernel
theorem dX10_schemaOf_14 : decode cX10_schemaOf 14 = .ok (.getfield 57, 3) := by decide +kernel
theorem dX10_schemaOf_17 : decode cX10_schemaOf 17 = .ok (.arraylength, 1) := by decide +kernel
theorem dX10_schemaOf_18 : decode cX10_schemaOf 18 = .ok (.if_icmp .lt 14, 3) := by decide +kernel
theorem dX10_schemaOf_21 : decode cX10_schemaOf 21 = .ok (.new 112, 3) := by decide +kernel
theorem dX10_schemaOf_24 : decode cX10_schemaOf 24 = .ok (.dup, 1) := by decide +kernel
theorem dX10_schemaOf_25 : decode cX10_schemaOf 25 = .ok (.ldc_w 395, 3) := by decide +kernel
theorem dX10_schemaOf_28 : decode cX10_schemaOf 28 = .ok (.invokespecial 116, 3) := by decide +kernel
theorem dX10_schemaOf_31 : decode cX10_schemaOf 31 = .ok (.athrow, 1) := by decide +kernel
theorem dX10_schemaOf_32 : decode cX10_schemaOf 32 = .ok (.aload_n 0, 1) := by decide +kernel
theorem dX10_schemaOf_33 : decode cX10_schemaOf 33 = .ok (.getfield 57, 3) := by decide +kernel
theorem dX10_schemaOf_36 : decode cX10_schemaOf 36 = .ok (.iload_n 1, 1) := by decide +kernel
theorem dX10_schemaOf_37 : decode cX10_schemaOf 37 = .ok (.aaload, 1) := by decide +kernel
theorem dX10_schemaOf_38 : decode cX10_schemaOf 38 = .ok (.areturn, 1) := by decide +kernel
theorem dX10_queryOf_0 : decode cX10_queryOf 0 = .ok (.iload_n 1, 1) := by decide +kernel
theorem dX10_queryOf_1 : decode cX10_queryOf 1 = .ok (.ifCond .lt 20, 3) := by decide +kernel
theorem dX10_queryOf_4 : decode cX10_queryOf 4 = .ok (.iload_n 1, 1) := by decide +kernel
theorem dX10_queryOf_5 : decode cX10_queryOf 5 = .ok (.aload_n 0, 1) := by decide +kernel
theorem dX10_queryOf_6 : decode cX10_queryOf 6 = .ok (.getfield 311, 3) := by decide +kernel
theorem dX10_queryOf_9 : decode cX10_queryOf 9 = .ok (.if_icmp .ge 12, 3) := by decide +kernel
theorem dX10_queryOf_12 : decode cX10_queryOf 12 = .ok (.iload_n 1, 1) := by decide +kernel
theorem dX10_queryOf_13 : decode cX10_queryOf 13 = .ok (.aload_n 0, 1) := by decide +kernel
theorem dX10_queryOf_14 : decode cX10_queryOf 14 = .ok (.getfield 80, 3) := by decide +kernel
theorem dX10_queryOf_17 : decode cX10_queryOf 17 = .ok (.arraylength, 1) := by decide +kernel
theorem dX10_queryOf_18 : decode cX10_queryOf 18 = .ok (.if_icmp .lt 14, 3) := by decide +kernel
theorem dX10_queryOf_21 : decode cX10_queryOf 21 = .ok (.new 112, 3) := by decide +kernel
theorem dX10_queryOf_24 : decode cX10_queryOf 24 = .ok (.dup, 1) := by decide +kernel
theorem dX10_queryOf_25 : decode cX10_queryOf 25 = .ok (.ldc_w 397, 3) := by decide +kernel
theorem dX10_queryOf_28 : decode cX10_queryOf 28 = .ok (.invokespecial 116, 3) := by decide +kernel
theorem dX10_queryOf_31 : decode cX10_queryOf 31 = .ok (.athrow, 1) := by decide +kernel
theorem dX10_queryOf_32 : decode cX10_queryOf 32 = .ok (.aload_n 0, 1) := by decide +kernel
theorem dX10_queryOf_33 : decode cX10_queryOf 33 = .ok (.getfield 80, 3) := by decide +kernel
theorem dX10_queryOf_36 : decode cX10_queryOf 36 = .ok (.iload_n 1, 1) := by decide +kernel
theorem dX10_queryOf_37 : decode cX10_queryOf 37 = .ok (.aaload, 1) := by decide +kernel
theorem dX10_queryOf_38 : decode cX10_queryOf 38 = .ok (.areturn, 1) := by decide +kernel
theorem dX10_beginPatch_0 : decode cX10_beginPatch 0 = .ok (.aload_n 0, 1) := by decide +kernel
theorem dX10_beginPatch_1 : decode cX10_beginPatch 1 = .ok (.getfield 220, 3) := by decide +kernel
theorem dX10_beginPatch_4 : decode cX10_beginPatch 4 = .ok (.bipush 8, 2) := by decide +kernel
theorem dX10_beginPatch_6 : decode cX10_beginPatch 6 = .ok (.if_icmp .lt 14, 3) := by decide +kernel
theorem dX10_beginPatch_9 : decode cX10_beginPatch 9 = .ok (.new 123, 3) := by decide +kernel
theorem dX10_beginPatch_12 : decode cX10_beginPatch 12 = .ok (.dup, 1) := by decide +kernel
theorem dX10_beginPatch_13 : decode cX10_beginPatch 13 = .ok (.ldc_w 399, 3) := by decide +kernel
theorem dX10_beginPatch_16 : decode cX10_beginPatch 16 = .ok (.invokespecial 127, 3) := by decide +kernel
theorem dX10_beginPatch_19 : decode cX10_beginPatch 19 = .ok (.athrow, 1) := by decide +kernel
theorem dX10_beginPatch_20 : decode cX10_beginPatch 20 = .ok (.aload_n 0, 1) := by decide +kernel
theorem dX10_beginPatch_21 : decode cX10_beginPatch 21 = .ok (.dup, 1) := by decide +kernel
theorem dX10_beginPatch_22 : decode cX10_beginPatch 22 = .ok (.getfield 220, 3) := by decide +kernel
