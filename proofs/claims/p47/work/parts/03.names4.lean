theorem dX10_beginPatch_25 : decode cX10_beginPatch 25 = .ok (.iconst 1, 1) := by decide +kernel
theorem dX10_beginPatch_26 : decode cX10_beginPatch 26 = .ok (.iadd, 1) := by decide +kernel
theorem dX10_beginPatch_27 : decode cX10_beginPatch 27 = .ok (.putfield 220, 3) := by decide +kernel
theorem dX10_beginPatch_30 : decode cX10_beginPatch 30 = .ok (.aload_n 0, 1) := by decide +kernel
theorem dX10_beginPatch_31 : decode cX10_beginPatch 31 = .ok (.aload_n 0, 1) := by decide +kernel
theorem dX10_beginPatch_32 : decode cX10_beginPatch 32 = .ok (.getfield 220, 3) := by decide +kernel
theorem dX10_beginPatch_35 : decode cX10_beginPatch 35 = .ok (.iconst 1, 1) := by decide +kernel
theorem dX10_beginPatch_36 : decode cX10_beginPatch 36 = .ok (.isub, 1) := by decide +kernel
theorem dX10_beginPatch_37 : decode cX10_beginPatch 37 = .ok (.invokevirtual 185, 3) := by decide +kernel
theorem dX10_beginPatch_40 : decode cX10_beginPatch 40 = .ok (.invokevirtual 401, 3) := by decide +kernel
theorem dX10_beginPatch_43 : decode cX10_beginPatch 43 = .ok (.aload_n 0, 1) := by decide +kernel
theorem dX10_beginPatch_44 : decode cX10_beginPatch 44 = .ok (.getfield 220, 3) := by decide +kernel
theorem dX10_beginPatch_47 : decode cX10_beginPatch 47 = .ok (.iconst 1, 1) := by decide +kernel
theorem dX10_beginPatch_48 : decode cX10_beginPatch 48 = .ok (.isub, 1) := by decide +kernel
theorem dX10_beginPatch_49 : decode cX10_beginPatch 49 = .ok (.ireturn, 1) := by decide +kernel
theorem dX10_pointed_0 : decode cX10_pointed 0 = .ok (.aload_n 0, 1) := by decide +kernel
theorem dX10_pointed_1 : decode cX10_pointed 1 = .ok (.aload_n 0, 1) := by decide +kernel
theorem dX10_pointed_2 : decode cX10_pointed 2 = .ok (.getfield 25, 3) := by decide +kernel
theorem dX10_pointed_5 : decode cX10_pointed 5 = .ok (.getfield 131, 3) := by decide +kernel
theorem dX10_pointed_8 : decode cX10_pointed 8 = .ok (.invokevirtual 85, 3) := by decide +kernel
theorem dX10_pointed_11 : decode cX10_pointed 11 = .ok (.astore_n 1, 1) := by decide +kernel
theorem dX10_pointed_12 : decode cX10_pointed 12 = .ok (.aload_n 1, 1) := by decide +kernel
theorem dX10_pointed_13 : decode cX10_pointed 13 = .ok (.aload_n 0, 1) := by decide +kernel
theorem dX10_pointed_14 : decode cX10_pointed 14 = .ok (.getfield 25, 3) := by decide +kernel
theorem dX10_pointed_17 : decode cX10_pointed 17 = .ok (.getfield 134, 3) := by decide +kernel
theorem dX10_pointed_20 : decode cX10_pointed 20 = .ok (.aload_n 0, 1) := by decide +kernel
theorem dX10_pointed_21 : decode cX10_pointed 21 = .ok (.getfield 25, 3) := by decide +kernel
theorem dX10_pointed_24 : decode cX10_pointed 24 = .ok (.getfield 128, 3) := by decide +kernel
theorem dX10_pointed_27 : decode cX10_pointed 27 = .ok (.invokevirtual 404, 3) := by decide +kernel
theorem dX10_pointed_30 : decode cX10_pointed 30 = .ok (.astore_n 2, 1) := by decide +kernel
theorem dX10_pointed_31 : decode cX10_pointed 31 = .ok (.aload_n 2, 1) := by decide +kernel
theorem dX10_pointed_32 : decode cX10_pointed 32 = .ok (.ifnonnull 7, 3) := by decide +kernel
theorem dX10_pointed_35 : decode cX10_pointed 35 = .ok (.aload_n 1, 1) := by decide +kernel
theorem dX10_pointed_36 : decode cX10_pointed 36 = .ok (.goto 4, 3) := by decide +kernel
theorem dX10_pointed_39 : decode cX10_pointed 39 = .ok (.aload_n 2, 1) := by decide +kernel
theorem dX10_pointed_40 : decode cX10_pointed 40 = .ok (.areturn, 1) := by decide +kernel
theorem dX10_changeTo_0 : decode cX10_changeTo 0 = .ok (.iload_n 1, 1) := by decide +kernel
theorem dX10_changeTo_1 : decode cX10_changeTo 1 = .ok (.ifCond .lt 19, 3) := by decide +kernel
theorem dX10_changeTo_4 : decode cX10_changeTo 4 = .ok (.iload_n 1, 1) := by decide +kernel
theorem dX10_changeTo_5 : decode cX10_changeTo 5 = .ok (.aload_n 0, 1) := by decide +kernel
theorem dX10_changeTo_6 : decode cX10_changeTo 6 = .ok (.getfield 14, 3) := by decide +kernel
theorem dX10_changeTo_9 : decode cX10_changeTo 9 = .ok (.arraylength, 1) := by decide +kernel
theorem dX10_changeTo_10 : decode cX10_changeTo 10 = .ok (.if_icmp .ge 10, 3) := by decide +kernel
theorem dX10_changeTo_13 : decode cX10_changeTo 13 = .ok (.aload_n 0, 1) := by decide +kernel
theorem dX10_changeTo_14 : decode cX10_changeTo 14 = .ok (.getfield 14, 3) := by decide +kernel
theorem dX10_changeTo_17 : decode cX10_changeTo 17 = .ok (.iload_n 1, 1) := by decide +kernel
theorem dX10_changeTo_18 : decode cX10_changeTo 18 = .ok (.aload_n 2, 1) := by decide +kernel
theorem dX10_changeTo_19 : decode cX10_changeTo 19 = .ok (.aastore, 1) := by decide +kernel
theorem dX10_changeTo_20 : decode cX10_changeTo 20 = .ok (.aload_n 0, 1) := by decide +kernel
theorem dX10_changeTo_21 : decode cX10_changeTo 21 = .ok (.getfield 25, 3) := by decide +kernel
theorem dX10_changeTo_24 : decode cX10_changeTo 24 = .ok (.getfield 131, 3) := by decide +kernel
theorem dX10_changeTo_27 : decode cX10_changeTo 27 = .ok (.iload_n 1, 1) := by decide +kernel
theorem dX10_changeTo_28 : decode cX10_changeTo 28 = .ok (.if_icmp .ne 11, 3) := by decide +kernel
theorem dX10_changeTo_31 : decode cX10_changeTo 31 = .ok (.aload_n 0, 1) := by decide +kernel
theorem dX10_changeTo_32 : decode cX10_changeTo 32 = .ok (.getfield 25, 3) := by decide +kernel
theorem dX10_changeTo_35 : decode cX10_changeTo 35 = .ok (.aload_n 2, 1) := by decide +kernel
theorem dX10_changeTo_36 : decode cX10_changeTo 36 = .ok (.invokevirtual 408, 3) := by decide +kernel
theorem dX10_changeTo_39 : decode cX10_changeTo 39 = .ok (.return_, 1) := by decide +kernel
theorem dX10_finish_0 : decode cX10_finish 0 = .ok (.iload_n 1, 1) := by decide +kernel
theorem dX10_finish_1 : decode cX10_finish 1 = .ok (.ifCond .eq 13, 3) := by decide +kernel
theorem dX10_finish_4 : decode cX10_finish 4 = .ok (.aload_n 0, 1) := by decide +kernel
theorem dX10_finish_5 : decode cX10_finish 5 = .ok (.getfield 34, 3) := by decide +kernel
theorem dX10_finish_8 : decode cX10_finish 8 = .ok (.invokevirtual 411, 3) := by decide +kernel
theorem dX10_finish_11 : decode cX10_finish 11 = .ok (.ifCond .ne 5, 3) := by decide +kernel
theorem dX10_finish_14 : decode cX10_finish 14 = .ok (.iconst (-1), 1) := by decide +kernel
theorem dX10_finish_15 : decode cX10_finish 15 = .ok (.ireturn, 1) := by decide +kernel
theorem dX10_finish_16 : decode cX10_finish 16 = .ok (.aload_n 0, 1) := by decide +kernel
theorem dX10_finish_17 : decode cX10_finish 17 = .ok (.aload_n 0, 1) := by decide +kernel
theorem dX10_finish_18 : decode cX10_finish 18 = .ok (.getfield 25, 3) := by decide +kernel
theorem dX10_finish_21 : decode cX10_finish 21 = .ok (.getfield 131, 3) := by decide +kernel
theorem dX10_finish_24 : decode cX10_finish 24 = .ok (.aload_n 0, 1) := by decide +kernel
theorem dX10_finish_25 : decode cX10_finish 25 = .ok (.getfield 34, 3) := by decide +kernel
theorem dX10_finish_28 : decode cX10_finish 28 = .ok (.getfield 213, 3) := by decide +kernel
theorem dX10_finish_31 : decode cX10_finish 31 = .ok (.invokevirtual 216, 3) := by decide +kernel
theorem dX10_finish_34 : decode cX10_finish 34 = .ok (.aload_n 0, 1) := by decide +kernel
theorem dX10_finish_35 : decode cX10_finish 35 = .ok (.getfield 34, 3) := by decide +kernel
theorem dX10_finish_38 : decode cX10_finish 38 = .ok (.getfield 213, 3) := by decide +kernel
theorem dX10_finish_41 : decode cX10_finish 41 = .ok (.getfield 145, 3) := by decide +kernel
theorem dX10_finish_44 : decode cX10_finish 44 = .ok (.ireturn, 1) := by decide +kernel
theorem dX10_tryOut_0 : decode cX10_tryOut 0 = .ok (.aload_n 0, 1) := by decide +kernel
theorem dX10_tryOut_1 : decode cX10_tryOut 1 = .ok (.getfield 34, 3) := by decide +kernel
theorem dX10_tryOut_4 : decode cX10_tryOut 4 = .ok (.aload_n 2, 1) := by decide +kernel
theorem dX10_tryOut_5 : decode cX10_tryOut 5 = .ok (.invokevirtual 148, 3) := by decide +kernel
theorem dX10_tryOut_8 : decode cX10_tryOut 8 = .ok (.iconst 0, 1) := by decide +kernel
theorem dX10_tryOut_9 : decode cX10_tryOut 9 = .ok (.istore_n 3, 1) := by decide +kernel
theorem dX10_tryOut_10 : decode cX10_tryOut 10 = .ok (.iload_n 3, 1) := by decide +kernel
theorem dX10_tryOut_11 : decode cX10_tryOut 11 = .ok (.aload_n 1, 1) := by decide +kernel
theorem dX10_tryOut_12 : decode cX10_tryOut 12 = .ok (.getfield 191, 3) := by decide +kernel
theorem dX10_tryOut_15 : decode cX10_tryOut 15 = .ok (.if_icmp .ge 57, 3) := by decide +kernel
theorem dX10_tryOut_18 : decode cX10_tryOut 18 = .ok (.iload_n 3, 1) := by decide +kernel
theorem dX10_tryOut_19 : decode cX10_tryOut 19 = .ok (.aload_n 0, 1) := by decide +kernel
theorem dX10_tryOut_20 : decode cX10_tryOut 20 = .ok (.getfield 45, 3) := by decide +kernel
theorem dX10_tryOut_23 : decode cX10_tryOut 23 = .ok (.arraylength, 1) := by decide +kernel
theorem dX10_tryOut_24 : decode cX10_tryOut 24 = .ok (.if_icmp .ge 48, 3) := by decide +kernel
theorem dX10_tryOut_27 : decode cX10_tryOut 27 = .ok (.aload_n 1, 1) := by decide +kernel
theorem dX10_tryOut_28 : decode cX10_tryOut 28 = .ok (.iload_n 3, 1) := by decide +kernel
theorem dX10_tryOut_29 : decode cX10_tryOut 29 = .ok (.invokevirtual 239, 3) := by decide +kernel
theorem dX10_tryOut_32 : decode cX10_tryOut 32 = .ok (.astore 4, 2) := by decide +kernel
theorem dX10_tryOut_34 : decode cX10_tryOut 34 = .ok (.aload 4, 2) := by decide +kernel
theorem dX10_tryOut_36 : decode cX10_tryOut 36 = .ok (.ifnull 15, 3) := by decide +kernel
theorem dX10_tryOut_39 : decode cX10_tryOut 39 = .ok (.aload_n 0, 1) := by decide +kernel
theorem dX10_tryOut_40 : decode cX10_tryOut 40 = .ok (.getfield 34, 3) := by decide +kernel
theorem dX10_tryOut_43 : decode cX10_tryOut 43 = .ok (.aload 4, 2) := by decide +kernel
theorem dX10_tryOut_45 : decode cX10_tryOut 45 = .ok (.invokevirtual 414, 3) := by decide +kernel
theorem dX10_tryOut_48 : decode cX10_tryOut 48 = .ok (.ifCond .ne 5, 3) := by decide +kernel
theorem dX10_tryOut_51 : decode cX10_tryOut 51 = .ok (.iload_n 3, 1) := by decide +kernel
theorem dX10_tryOut_52 : decode cX10_tryOut 52 = .ok (.ireturn, 1) := by decide +kernel
theorem dX10_tryOut_53 : decode cX10_tryOut 53 = .ok (.aload_n 0, 1) := by decide +kernel
theorem dX10_tryOut_54 : decode cX10_tryOut 54 = .ok (.getfield 45, 3) := by decide +kernel
theorem dX10_tryOut_57 : decode cX10_tryOut 57 = .ok (.iload_n 3, 1) := by decide +kernel
theorem dX10_tryOut_58 : decode cX10_tryOut 58 = .ok (.aload_n 0, 1) := by decide +kernel
theorem dX10_tryOut_59 : decode cX10_tryOut 59 = .ok (.getfield 34, 3) := by decide +kernel
theorem dX10_tryOut_62 : decode cX10_tryOut 62 = .ok (.getfield 418, 3) := by decide +kernel
theorem dX10_tryOut_65 : decode cX10_tryOut 65 = .ok (.aastore, 1) := by decide +kernel
theorem dX10_tryOut_66 : decode cX10_tryOut 66 = .ok (.iinc 3 1, 3) := by decide +kernel
theorem dX10_tryOut_69 : decode cX10_tryOut 69 = .ok (.goto (-59), 3) := by decide +kernel
theorem dX10_tryOut_72 : decode cX10_tryOut 72 = .ok (.aload_n 0, 1) := by decide +kernel
theorem dX10_tryOut_73 : decode cX10_tryOut 73 = .ok (.getfield 34, 3) := by decide +kernel
theorem dX10_tryOut_76 : decode cX10_tryOut 76 = .ok (.invokevirtual 411, 3) := by decide +kernel
theorem dX10_tryOut_79 : decode cX10_tryOut 79 = .ok (.ifCond .eq 7, 3) := by decide +kernel
theorem dX10_tryOut_82 : decode cX10_tryOut 82 = .ok (.iconst (-1), 1) := by decide +kernel
theorem dX10_tryOut_83 : decode cX10_tryOut 83 = .ok (.goto 7, 3) := by decide +kernel
theorem dX10_tryOut_86 : decode cX10_tryOut 86 = .ok (.aload_n 1, 1) := by decide +kernel
theorem dX10_tryOut_87 : decode cX10_tryOut 87 = .ok (.getfield 191, 3) := by decide +kernel
theorem dX10_tryOut_90 : decode cX10_tryOut 90 = .ok (.ireturn, 1) := by decide +kernel
theorem dX10_writeInverse_0 : decode cX10_writeInverse 0 = .ok (.aload_n 1, 1) := by decide +kernel
theorem dX10_writeInverse_1 : decode cX10_writeInverse 1 = .ok (.getfield 191, 3) := by decide +kernel
theorem dX10_writeInverse_4 : decode cX10_writeInverse 4 = .ok (.iconst 1, 1) := by decide +kernel
theorem dX10_writeInverse_5 : decode cX10_writeInverse 5 = .ok (.isub, 1) := by decide +kernel
theorem dX10_writeInverse_6 : decode cX10_writeInverse 6 = .ok (.istore_n 3, 1) := by decide +kernel
theorem dX10_writeInverse_7 : decode cX10_writeInverse 7 = .ok (.iload_n 3, 1) := by decide +kernel
theorem dX10_writeInverse_8 : decode cX10_writeInverse 8 = .ok (.ifCond .lt 45, 3) := by decide +kernel
theorem dX10_writeInverse_11 : decode cX10_writeInverse 11 = .ok (.aload_n 1, 1) := by decide +kernel
theorem dX10_writeInverse_12 : decode cX10_writeInverse 12 = .ok (.iload_n 3, 1) := by decide +kernel
theorem dX10_writeInverse_13 : decode cX10_writeInverse 13 = .ok (.invokevirtual 239, 3) := by decide +kernel
theorem dX10_writeInverse_16 : decode cX10_writeInverse 16 = .ok (.astore 4, 2) := by decide +kernel
theorem dX10_writeInverse_18 : decode cX10_writeInverse 18 = .ok (.aload 4, 2) := by decide +kernel
theorem dX10_writeInverse_20 : decode cX10_writeInverse 20 = .ok (.ifnull 27, 3) := by decide +kernel
theorem dX10_writeInverse_23 : decode cX10_writeInverse 23 = .ok (.iload_n 3, 1) := by decide +kernel
theorem dX10_writeInverse_24 : decode cX10_writeInverse 24 = .ok (.aload_n 0, 1) := by decide +kernel
theorem dX10_writeInverse_25 : decode cX10_writeInverse 25 = .ok (.getfield 45, 3) := by decide +kernel
theorem dX10_writeInverse_28 : decode cX10_writeInverse 28 = .ok (.arraylength, 1) := by decide +kernel
theorem dX10_writeInverse_29 : decode cX10_writeInverse 29 = .ok (.if_icmp .ge 18, 3) := by decide +kernel
theorem dX10_writeInverse_32 : decode cX10_writeInverse 32 = .ok (.aload_n 2, 1) := by decide +kernel
theorem dX10_writeInverse_33 : decode cX10_writeInverse 33 = .ok (.aload 4, 2) := by decide +kernel
theorem dX10_writeInverse_35 : decode cX10_writeInverse 35 = .ok (.aload_n 0, 1) := by decide +kernel
theorem dX10_writeInverse_36 : decode cX10_writeInverse 36 = .ok (.getfield 45, 3) := by decide +kernel
theorem dX10_writeInverse_39 : decode cX10_writeInverse 39 = .ok (.iload_n 3, 1) := by decide +kernel
theorem dX10_writeInverse_40 : decode cX10_writeInverse 40 = .ok (.aaload, 1) := by decide +kernel
theorem dX10_writeInverse_41 : decode cX10_writeInverse 41 = .ok (.invokevirtual 421, 3) := by decide +kernel
theorem dX10_writeInverse_44 : decode cX10_writeInverse 44 = .ok (.invokevirtual 205, 3) := by decide +kernel
theorem dX10_writeInverse_47 : decode cX10_writeInverse 47 = .ok (.iinc 3 (-1), 3) := by decide +kernel
theorem dX10_writeInverse_50 : decode cX10_writeInverse 50 = .ok (.goto (-43), 3) := by decide +kernel
theorem dX10_writeInverse_53 : decode cX10_writeInverse 53 = .ok (.return_, 1) := by decide +kernel
theorem dX10_countFailures_0 : decode cX10_countFailures 0 = .ok (.aload_n 0, 1) := by decide +kernel
theorem dX10_countFailures_1 : decode cX10_countFailures 1 = .ok (.getfield 65, 3) := by decide +kernel
theorem dX10_countFailures_4 : decode cX10_countFailures 4 = .ok (.aload_n 0, 1) := by decide +kernel
theorem dX10_countFailures_5 : decode cX10_countFailures 5 = .ok (.iload_n 1, 1) := by decide +kernel
theorem dX10_countFailures_6 : decode cX10_countFailures 6 = .ok (.invokevirtual 85, 3) := by decide +kernel
theorem dX10_countFailures_9 : decode cX10_countFailures 9 = .ok (.invokevirtual 425, 3) := by decide +kernel
theorem dX10_countFailures_12 : decode cX10_countFailures 12 = .ok (.aload_n 0, 1) := by decide +kernel
theorem dX10_countFailures_13 : decode cX10_countFailures 13 = .ok (.iload_n 2, 1) := by decide +kernel
theorem dX10_countFailures_14 : decode cX10_countFailures 14 = .ok (.invokevirtual 255, 3) := by decide +kernel
theorem dX10_countFailures_17 : decode cX10_countFailures 17 = .ok (.pop, 1) := by decide +kernel
theorem dX10_countFailures_18 : decode cX10_countFailures 18 = .ok (.aload_n 0, 1) := by decide +kernel
theorem dX10_countFailures_19 : decode cX10_countFailures 19 = .ok (.getfield 74, 3) := by decide +kernel
theorem dX10_countFailures_22 : decode cX10_countFailures 22 = .ok (.iload_n 2, 1) := by decide +kernel
theorem dX10_countFailures_23 : decode cX10_countFailures 23 = .ok (.iload_n 3, 1) := by decide +kernel
theorem dX10_countFailures_24 : decode cX10_countFailures 24 = .ok (.invokevirtual 428, 3) := by decide +kernel
theorem dX10_countFailures_27 : decode cX10_countFailures 27 = .ok (.ireturn, 1) := by decide +kernel
theorem dX10_isPart_0 : decode cX10_isPart 0 = .ok (.iload_n 0, 1) := by decide +kernel
theorem dX10_isPart_1 : decode cX10_isPart 1 = .ok (.tableswitch 94 0 6 #[43, 94, 94, 94, 59, 43, 79], 43) := by decide +kernel
theorem dX10_isPart_44 : decode cX10_isPart 44 = .ok (.iload_n 1, 1) := by decide +kernel
theorem dX10_isPart_45 : decode cX10_isPart 45 = .ok (.ifCond .lt 13, 3) := by decide +kernel
theorem dX10_isPart_48 : decode cX10_isPart 48 = .ok (.iload_n 1, 1) := by decide +kernel
theorem dX10_isPart_49 : decode cX10_isPart 49 = .ok (.bipush 99, 2) := by decide +kernel
theorem dX10_isPart_51 : decode cX10_isPart 51 = .ok (.if_icmp .gt 7, 3) := by decide +kernel
theorem dX10_isPart_54 : decode cX10_isPart 54 = .ok (.iconst 1, 1) := by decide +kernel
theorem dX10_isPart_55 : decode cX10_isPart 55 = .ok (.goto 4, 3) := by decide +kernel
theorem dX10_isPart_58 : decode cX10_isPart 58 = .ok (.iconst 0, 1) := by decide +kernel
theorem dX10_isPart_59 : decode cX10_isPart 59 = .ok (.ireturn, 1) := by decide +kernel
theorem dX10_isPart_60 : decode cX10_isPart 60 = .ok (.iload_n 1, 1) := by decide +kernel
theorem dX10_isPart_61 : decode cX10_isPart 61 = .ok (.sipush (-9999), 3) := by decide +kernel
theorem dX10_isPart_64 : decode cX10_isPart 64 = .ok (.if_icmp .lt 14, 3) := by decide +kernel
theorem dX10_isPart_67 : decode cX10_isPart 67 = .ok (.iload_n 1, 1) := by decide +kernel
theorem dX10_isPart_68 : decode cX10_isPart 68 = .ok (.sipush 9999, 3) := by decide +kernel
theorem dX10_isPart_71 : decode cX10_isPart 71 = .ok (.if_icmp .gt 7, 3) := by decide +kernel
theorem dX10_isPart_74 : decode cX10_isPart 74 = .ok (.iconst 1, 1) := by decide +kernel
theorem dX10_isPart_75 : decode cX10_isPart 75 = .ok (.goto 4, 3) := by decide +kernel
theorem dX10_isPart_78 : decode cX10_isPart 78 = .ok (.iconst 0, 1) := by decide +kernel
theorem dX10_isPart_79 : decode cX10_isPart 79 = .ok (.ireturn, 1) := by decide +kernel
theorem dX10_isPart_80 : decode cX10_isPart 80 = .ok (.iload_n 1, 1) := by decide +kernel
theorem dX10_isPart_81 : decode cX10_isPart 81 = .ok (.ifCond .lt 12, 3) := by decide +kernel
theorem dX10_isPart_84 : decode cX10_isPart 84 = .ok (.iload_n 1, 1) := by decide +kernel
theorem dX10_isPart_85 : decode cX10_isPart 85 = .ok (.iconst 4, 1) := by decide +kernel
theorem dX10_isPart_86 : decode cX10_isPart 86 = .ok (.if_icmp .gt 7, 3) := by decide +kernel
theorem dX10_isPart_89 : decode cX10_isPart 89 = .ok (.iconst 1, 1) := by decide +kernel
theorem dX10_isPart_90 : decode cX10_isPart 90 = .ok (.goto 4, 3) := by decide +kernel
theorem dX10_isPart_93 : decode cX10_isPart 93 = .ok (.iconst 0, 1) := by decide +kernel
theorem dX10_isPart_94 : decode cX10_isPart 94 = .ok (.ireturn, 1) := by decide +kernel
theorem dX10_isPart_95 : decode cX10_isPart 95 = .ok (.iload_n 0, 1) := by decide +kernel
theorem dX10_isPart_96 : decode cX10_isPart 96 = .ok (.ifCond .lt 13, 3) := by decide +kernel
theorem dX10_isPart_99 : decode cX10_isPart 99 = .ok (.iload_n 0, 1) := by decide +kernel
theorem dX10_isPart_100 : decode cX10_isPart 100 = .ok (.bipush 6, 2) := by decide +kernel
theorem dX10_isPart_102 : decode cX10_isPart 102 = .ok (.if_icmp .gt 7, 3) := by decide +kernel
theorem dX10_isPart_105 : decode cX10_isPart 105 = .ok (.iconst 1, 1) := by decide +kernel
theorem dX10_isPart_106 : decode cX10_isPart 106 = .ok (.goto 4, 3) := by decide +kernel
theorem dX10_isPart_109 : decode cX10_isPart 109 = .ok (.iconst 0, 1) := by decide +kernel
theorem dX10_isPart_110 : decode cX10_isPart 110 = .ok (.ireturn, 1) := by decide +kernel
theorem dX10_findIn_0 : decode cX10_findIn 0 = .ok (.aload_n 0, 1) := by decide +kernel
theorem dX10_findIn_1 : decode cX10_findIn 1 = .ok (.iload_n 1, 1) := by decide +kernel
theorem dX10_findIn_2 : decode cX10_findIn 2 = .ok (.invokevirtual 316, 3) := by decide +kernel
theorem dX10_findIn_5 : decode cX10_findIn 5 = .ok (.astore_n 3, 1) := by decide +kernel
theorem dX10_findIn_6 : decode cX10_findIn 6 = .ok (.aload_n 0, 1) := by decide +kernel
theorem dX10_findIn_7 : decode cX10_findIn 7 = .ok (.getfield 65, 3) := by decide +kernel
theorem dX10_findIn_10 : decode cX10_findIn 10 = .ok (.aload_n 0, 1) := by decide +kernel
theorem dX10_findIn_11 : decode cX10_findIn 11 = .ok (.iload_n 2, 1) := by decide +kernel
theorem dX10_findIn_12 : decode cX10_findIn 12 = .ok (.invokevirtual 85, 3) := by decide +kernel
theorem dX10_findIn_15 : decode cX10_findIn 15 = .ok (.invokevirtual 425, 3) := by decide +kernel
theorem dX10_findIn_18 : decode cX10_findIn 18 = .ok (.aload_n 3, 1) := by decide +kernel
theorem dX10_findIn_19 : decode cX10_findIn 19 = .ok (.aload_n 0, 1) := by decide +kernel
theorem dX10_findIn_20 : decode cX10_findIn 20 = .ok (.getfield 65, 3) := by decide +kernel
theorem dX10_findIn_23 : decode cX10_findIn 23 = .ok (.invokevirtual 430, 3) := by decide +kernel
theorem dX10_findIn_26 : decode cX10_findIn 26 = .ok (.lreturn, 1) := by decide +kernel
theorem dX10_isIn_0 : decode cX10_isIn 0 = .ok (.lload_n 0, 1) := by decide +kernel
theorem dX10_isIn_1 : decode cX10_isIn 1 = .ok (.iload_n 2, 1) := by decide +kernel
theorem dX10_isIn_2 : decode cX10_isIn 2 = .ok (.lshr, 1) := by decide +kernel
theorem dX10_isIn_3 : decode cX10_isIn 3 = .ok (.lconst 1, 1) := by decide +kernel
theorem dX10_isIn_4 : decode cX10_isIn 4 = .ok (.land, 1) := by decide +kernel
theorem dX10_isIn_5 : decode cX10_isIn 5 = .ok (.lconst 0, 1) := by decide +kernel
theorem dX10_isIn_6 : decode cX10_isIn 6 = .ok (.lcmp, 1) := by decide +kernel
theorem dX10_isIn_7 : decode cX10_isIn 7 = .ok (.ifCond .eq 7, 3) := by decide +kernel
theorem dX10_isIn_10 : decode cX10_isIn 10 = .ok (.iconst 1, 1) := by decide +kernel
theorem dX10_isIn_11 : decode cX10_isIn 11 = .ok (.goto 4, 3) := by decide +kernel
theorem dX10_isIn_14 : decode cX10_isIn 14 = .ok (.iconst 0, 1) := by decide +kernel
theorem dX10_isIn_15 : decode cX10_isIn 15 = .ok (.ireturn, 1) := by decide +kernel
theorem dX10_digestValue_0 : decode cX10_digestValue 0 = .ok (.lload_n 1, 1) := by decide +kernel
theorem dX10_digestValue_1 : decode cX10_digestValue 1 = .ok (.ldc2_w 369, 3) := by decide +kernel
theorem dX10_digestValue_4 : decode cX10_digestValue 4 = .ok (.lmul, 1) := by decide +kernel
theorem dX10_digestValue_5 : decode cX10_digestValue 5 = .ok (.aload_n 3, 1) := by decide +kernel
theorem dX10_digestValue_6 : decode cX10_digestValue 6 = .ok (.getfield 145, 3) := by decide +kernel
theorem dX10_digestValue_9 : decode cX10_digestValue 9 = .ok (.i2l, 1) := by decide +kernel
theorem dX10_digestValue_10 : decode cX10_digestValue 10 = .ok (.ladd, 1) := by decide +kernel
theorem dX10_digestValue_11 : decode cX10_digestValue 11 = .ok (.lstore 4, 2) := by decide +kernel
theorem dX10_digestValue_13 : decode cX10_digestValue 13 = .ok (.lload 4, 2) := by decide +kernel
theorem dX10_digestValue_15 : decode cX10_digestValue 15 = .ok (.ldc2_w 369, 3) := by decide +kernel
theorem dX10_digestValue_18 : decode cX10_digestValue 18 = .ok (.lmul, 1) := by decide +kernel
theorem dX10_digestValue_19 : decode cX10_digestValue 19 = .ok (.aload_n 3, 1) := by decide +kernel
theorem dX10_digestValue_20 : decode cX10_digestValue 20 = .ok (.getfield 179, 3) := by decide +kernel
theorem dX10_digestValue_23 : decode cX10_digestValue 23 = .ok (.i2l, 1) := by decide +kernel
theorem dX10_digestValue_24 : decode cX10_digestValue 24 = .ok (.ladd, 1) := by decide +kernel
theorem dX10_digestValue_25 : decode cX10_digestValue 25 = .ok (.lstore 4, 2) := by decide +kernel
theorem dX10_digestValue_27 : decode cX10_digestValue 27 = .ok (.aload_n 0, 1) := by decide +kernel
theorem dX10_digestValue_28 : decode cX10_digestValue 28 = .ok (.getfield 65, 3) := by decide +kernel
theorem dX10_digestValue_31 : decode cX10_digestValue 31 = .ok (.aload_n 3, 1) := by decide +kernel
theorem dX10_digestValue_32 : decode cX10_digestValue 32 = .ok (.invokevirtual 425, 3) := by decide +kernel
theorem dX10_digestValue_35 : decode cX10_digestValue 35 = .ok (.iconst 0, 1) := by decide +kernel
theorem dX10_digestValue_36 : decode cX10_digestValue 36 = .ok (.istore 6, 2) := by decide +kernel
theorem dX10_digestValue_38 : decode cX10_digestValue 38 = .ok (.iload 6, 2) := by decide +kernel
theorem dX10_digestValue_40 : decode cX10_digestValue 40 = .ok (.aload_n 0, 1) := by decide +kernel
theorem dX10_digestValue_41 : decode cX10_digestValue 41 = .ok (.getfield 65, 3) := by decide +kernel
theorem dX10_digestValue_44 : decode cX10_digestValue 44 = .ok (.getfield 437, 3) := by decide +kernel
theorem dX10_digestValue_47 : decode cX10_digestValue 47 = .ok (.if_icmp .ge 106, 3) := by decide +kernel
theorem dX10_digestValue_50 : decode cX10_digestValue 50 = .ok (.aload_n 0, 1) := by decide +kernel
theorem dX10_digestValue_51 : decode cX10_digestValue 51 = .ok (.getfield 65, 3) := by decide +kernel
theorem dX10_digestValue_54 : decode cX10_digestValue 54 = .ok (.iload 6, 2) := by decide +kernel
theorem dX10_digestValue_56 : decode cX10_digestValue 56 = .ok (.invokevirtual 345, 3) := by decide +kernel
theorem dX10_digestValue_59 : decode cX10_digestValue 59 = .ok (.astore 7, 2) := by decide +kernel
theorem dX10_digestValue_61 : decode cX10_digestValue 61 = .ok (.aload 7, 2) := by decide +kernel
theorem dX10_digestValue_63 : decode cX10_digestValue 63 = .ok (.ifnull 84, 3) := by decide +kernel
theorem dX10_digestValue_66 : decode cX10_digestValue 66 = .ok (.lload 4, 2) := by decide +kernel
theorem dX10_digestValue_68 : decode cX10_digestValue 68 = .ok (.ldc2_w 369, 3) := by decide +kernel
theorem dX10_digestValue_71 : decode cX10_digestValue 71 = .ok (.lmul, 1) := by decide +kernel
theorem dX10_digestValue_72 : decode cX10_digestValue 72 = .ok (.aload 7, 2) := by decide +kernel
theorem dX10_digestValue_74 : decode cX10_digestValue 74 = .ok (.getfield 93, 3) := by decide +kernel
theorem dX10_digestValue_77 : decode cX10_digestValue 77 = .ok (.i2l, 1) := by decide +kernel
theorem dX10_digestValue_78 : decode cX10_digestValue 78 = .ok (.ladd, 1) := by decide +kernel
theorem dX10_digestValue_79 : decode cX10_digestValue 79 = .ok (.lstore 4, 2) := by decide +kernel
theorem dX10_digestValue_81 : decode cX10_digestValue 81 = .ok (.lload 4, 2) := by decide +kernel
theorem dX10_digestValue_83 : decode cX10_digestValue 83 = .ok (.ldc2_w 369, 3) := by decide +kernel
theorem dX10_digestValue_86 : decode cX10_digestValue 86 = .ok (.lmul, 1) := by decide +kernel
theorem dX10_digestValue_87 : decode cX10_digestValue 87 = .ok (.aload 7, 2) := by decide +kernel
theorem dX10_digestValue_89 : decode cX10_digestValue 89 = .ok (.getfield 167, 3) := by decide +kernel
theorem dX10_digestValue_92 : decode cX10_digestValue 92 = .ok (.i2l, 1) := by decide +kernel
theorem dX10_digestValue_93 : decode cX10_digestValue 93 = .ok (.ladd, 1) := by decide +kernel
theorem dX10_digestValue_94 : decode cX10_digestValue 94 = .ok (.lstore 4, 2) := by decide +kernel
theorem dX10_digestValue_96 : decode cX10_digestValue 96 = .ok (.lload 4, 2) := by decide +kernel
theorem dX10_digestValue_98 : decode cX10_digestValue 98 = .ok (.ldc2_w 369, 3) := by decide +kernel
theorem dX10_digestValue_101 : decode cX10_digestValue 101 = .ok (.lmul, 1) := by decide +kernel
theorem dX10_digestValue_102 : decode cX10_digestValue 102 = .ok (.aload 7, 2) := by decide +kernel
theorem dX10_digestValue_104 : decode cX10_digestValue 104 = .ok (.invokevirtual 170, 3) := by decide +kernel
theorem dX10_digestValue_107 : decode cX10_digestValue 107 = .ok (.i2l, 1) := by decide +kernel
theorem dX10_digestValue_108 : decode cX10_digestValue 108 = .ok (.ladd, 1) := by decide +kernel
theorem dX10_digestValue_109 : decode cX10_digestValue 109 = .ok (.lstore 4, 2) := by decide +kernel
theorem dX10_digestValue_111 : decode cX10_digestValue 111 = .ok (.iconst 0, 1) := by decide +kernel
theorem dX10_digestValue_112 : decode cX10_digestValue 112 = .ok (.istore 8, 2) := by decide +kernel
theorem dX10_digestValue_114 : decode cX10_digestValue 114 = .ok (.iload 8, 2) := by decide +kernel
theorem dX10_digestValue_116 : decode cX10_digestValue 116 = .ok (.aload 7, 2) := by decide +kernel
theorem dX10_digestValue_118 : decode cX10_digestValue 118 = .ok (.invokevirtual 170, 3) := by decide +kernel
theorem dX10_digestValue_121 : decode cX10_digestValue 121 = .ok (.if_icmp .ge 26, 3) := by decide +kernel
theorem dX10_digestValue_124 : decode cX10_digestValue 124 = .ok (.lload 4, 2) := by decide +kernel
theorem dX10_digestValue_126 : decode cX10_digestValue 126 = .ok (.ldc2_w 369, 3) := by decide +kernel
theorem dX10_digestValue_129 : decode cX10_digestValue 129 = .ok (.lmul, 1) := by decide +kernel
theorem dX10_digestValue_130 : decode cX10_digestValue 130 = .ok (.aload 7, 2) := by decide +kernel
theorem dX10_digestValue_132 : decode cX10_digestValue 132 = .ok (.iload 8, 2) := by decide +kernel
theorem dX10_digestValue_134 : decode cX10_digestValue 134 = .ok (.invokevirtual 176, 3) := by decide +kernel
theorem dX10_digestValue_137 : decode cX10_digestValue 137 = .ok (.i2l, 1) := by decide +kernel
theorem dX10_digestValue_138 : decode cX10_digestValue 138 = .ok (.ladd, 1) := by decide +kernel
theorem dX10_digestValue_139 : decode cX10_digestValue 139 = .ok (.lstore 4, 2) := by decide +kernel
theorem dX10_digestValue_141 : decode cX10_digestValue 141 = .ok (.iinc 8 1, 3) := by decide +kernel
theorem dX10_digestValue_144 : decode cX10_digestValue 144 = .ok (.goto (-30), 3) := by decide +kernel
theorem dX10_digestValue_147 : decode cX10_digestValue 147 = .ok (.iinc 6 1, 3) := by decide +kernel
theorem dX10_digestValue_150 : decode cX10_digestValue 150 = .ok (.goto (-112), 3) := by decide +kernel
theorem dX10_digestValue_153 : decode cX10_digestValue 153 = .ok (.lload 4, 2) := by decide +kernel
theorem dX10_digestValue_155 : decode cX10_digestValue 155 = .ok (.lreturn, 1) := by decide +kernel
theorem dX10_digestPatches_0 : decode cX10_digestPatches 0 = .ok (.lload_n 1, 1) := by decide +kernel
theorem dX10_digestPatches_1 : decode cX10_digestPatches 1 = .ok (.ldc2_w 369, 3) := by decide +kernel
theorem dX10_digestPatches_4 : decode cX10_digestPatches 4 = .ok (.lmul, 1) := by decide +kernel
theorem dX10_digestPatches_5 : decode cX10_digestPatches 5 = .ok (.aload_n 0, 1) := by decide +kernel
theorem dX10_digestPatches_6 : decode cX10_digestPatches 6 = .ok (.getfield 220, 3) := by decide +kernel
theorem dX10_digestPatches_9 : decode cX10_digestPatches 9 = .ok (.i2l, 1) := by decide +kernel
theorem dX10_digestPatches_10 : decode cX10_digestPatches 10 = .ok (.ladd, 1) := by decide +kernel
theorem dX10_digestPatches_11 : decode cX10_digestPatches 11 = .ok (.lstore_n 3, 1) := by decide +kernel
theorem dX10_digestPatches_12 : decode cX10_digestPatches 12 = .ok (.iconst 0, 1) := by decide +kernel
theorem dX10_digestPatches_13 : decode cX10_digestPatches 13 = .ok (.istore 5, 2) := by decide +kernel
theorem dX10_digestPatches_15 : decode cX10_digestPatches 15 = .ok (.iload 5, 2) := by decide +kernel
theorem dX10_digestPatches_17 : decode cX10_digestPatches 17 = .ok (.aload_n 0, 1) := by decide +kernel
theorem dX10_digestPatches_18 : decode cX10_digestPatches 18 = .ok (.getfield 220, 3) := by decide +kernel
theorem dX10_digestPatches_21 : decode cX10_digestPatches 21 = .ok (.if_icmp .ge 76, 3) := by decide +kernel
theorem dX10_digestPatches_24 : decode cX10_digestPatches 24 = .ok (.aload_n 0, 1) := by decide +kernel
theorem dX10_digestPatches_25 : decode cX10_digestPatches 25 = .ok (.iload 5, 2) := by decide +kernel
theorem dX10_digestPatches_27 : decode cX10_digestPatches 27 = .ok (.invokevirtual 438, 3) := by decide +kernel
theorem dX10_digestPatches_30 : decode cX10_digestPatches 30 = .ok (.istore 6, 2) := by decide +kernel
theorem dX10_digestPatches_32 : decode cX10_digestPatches 32 = .ok (.lload_n 3, 1) := by decide +kernel
theorem dX10_digestPatches_33 : decode cX10_digestPatches 33 = .ok (.ldc2_w 369, 3) := by decide +kernel
theorem dX10_digestPatches_36 : decode cX10_digestPatches 36 = .ok (.lmul, 1) := by decide +kernel
theorem dX10_digestPatches_37 : decode cX10_digestPatches 37 = .ok (.iload 6, 2) := by decide +kernel
theorem dX10_digestPatches_39 : decode cX10_digestPatches 39 = .ok (.i2l, 1) := by decide +kernel
theorem dX10_digestPatches_40 : decode cX10_digestPatches 40 = .ok (.ladd, 1) := by decide +kernel
theorem dX10_digestPatches_41 : decode cX10_digestPatches 41 = .ok (.lstore_n 3, 1) := by decide +kernel
theorem dX10_digestPatches_42 : decode cX10_digestPatches 42 = .ok (.iconst 0, 1) := by decide +kernel
theorem dX10_digestPatches_43 : decode cX10_digestPatches 43 = .ok (.istore 7, 2) := by decide +kernel
theorem dX10_digestPatches_45 : decode cX10_digestPatches 45 = .ok (.iload 7, 2) := by decide +kernel
theorem dX10_digestPatches_47 : decode cX10_digestPatches 47 = .ok (.iload 6, 2) := by decide +kernel
theorem dX10_digestPatches_49 : decode cX10_digestPatches 49 = .ok (.if_icmp .ge 42, 3) := by decide +kernel
theorem dX10_digestPatches_52 : decode cX10_digestPatches 52 = .ok (.iconst 0, 1) := by decide +kernel
theorem dX10_digestPatches_53 : decode cX10_digestPatches 53 = .ok (.istore 8, 2) := by decide +kernel
theorem dX10_digestPatches_55 : decode cX10_digestPatches 55 = .ok (.iload 8, 2) := by decide +kernel
theorem dX10_digestPatches_57 : decode cX10_digestPatches 57 = .ok (.iconst 3, 1) := by decide +kernel
theorem dX10_digestPatches_58 : decode cX10_digestPatches 58 = .ok (.if_icmp .gt 27, 3) := by decide +kernel
theorem dX10_digestPatches_61 : decode cX10_digestPatches 61 = .ok (.lload_n 3, 1) := by decide +kernel
theorem dX10_digestPatches_62 : decode cX10_digestPatches 62 = .ok (.ldc2_w 369, 3) := by decide +kernel
theorem dX10_digestPatches_65 : decode cX10_digestPatches 65 = .ok (.lmul, 1) := by decide +kernel
theorem dX10_digestPatches_66 : decode cX10_digestPatches 66 = .ok (.aload_n 0, 1) := by decide +kernel
theorem dX10_digestPatches_67 : decode cX10_digestPatches 67 = .ok (.iload 5, 2) := by decide +kernel
theorem dX10_digestPatches_69 : decode cX10_digestPatches 69 = .ok (.iload 7, 2) := by decide +kernel
theorem dX10_digestPatches_71 : decode cX10_digestPatches 71 = .ok (.iload 8, 2) := by decide +kernel
theorem dX10_digestPatches_73 : decode cX10_digestPatches 73 = .ok (.invokevirtual 441, 3) := by decide +kernel
theorem dX10_digestPatches_76 : decode cX10_digestPatches 76 = .ok (.i2l, 1) := by decide +kernel
theorem dX10_digestPatches_77 : decode cX10_digestPatches 77 = .ok (.ladd, 1) := by decide +kernel
theorem dX10_digestPatches_78 : decode cX10_digestPatches 78 = .ok (.lstore_n 3, 1) := by decide +kernel
theorem dX10_digestPatches_79 : decode cX10_digestPatches 79 = .ok (.iinc 8 1, 3) := by decide +kernel
theorem dX10_digestPatches_82 : decode cX10_digestPatches 82 = .ok (.goto (-27), 3) := by decide +kernel
theorem dX10_digestPatches_85 : decode cX10_digestPatches 85 = .ok (.iinc 7 1, 3) := by decide +kernel
theorem dX10_digestPatches_88 : decode cX10_digestPatches 88 = .ok (.goto (-43), 3) := by decide +kernel
theorem dX10_digestPatches_91 : decode cX10_digestPatches 91 = .ok (.iinc 5 1, 3) := by decide +kernel
theorem dX10_digestPatches_94 : decode cX10_digestPatches 94 = .ok (.goto (-79), 3) := by decide +kernel
theorem dX10_digestPatches_97 : decode cX10_digestPatches 97 = .ok (.lload_n 3, 1) := by decide +kernel
theorem dX10_digestPatches_98 : decode cX10_digestPatches 98 = .ok (.lreturn, 1) := by decide +kernel
theorem dJ13_bitCount_95d88_0 : decode cJ13_bitCount_95d88 0 = .ok (.lload_n 0, 1) := by decide +kernel
theorem dJ13_bitCount_95d88_1 : decode cJ13_bitCount_95d88 1 = .ok (.lload_n 0, 1) := by decide +kernel
theorem dJ13_bitCount_95d88_2 : decode cJ13_bitCount_95d88 2 = .ok (.iconst 1, 1) := by decide +kernel
theorem dJ13_bitCount_95d88_3 : decode cJ13_bitCount_95d88 3 = .ok (.lushr, 1) := by decide +kernel
theorem dJ13_bitCount_95d88_4 : decode cJ13_bitCount_95d88 4 = .ok (.ldc2_w 314, 3) := by decide +kernel
theorem dJ13_bitCount_95d88_7 : decode cJ13_bitCount_95d88 7 = .ok (.land, 1) := by decide +kernel
theorem dJ13_bitCount_95d88_8 : decode cJ13_bitCount_95d88 8 = .ok (.lsub, 1) := by decide +kernel
theorem dJ13_bitCount_95d88_9 : decode cJ13_bitCount_95d88 9 = .ok (.lstore_n 0, 1) := by decide +kernel
theorem dJ13_bitCount_95d88_10 : decode cJ13_bitCount_95d88 10 = .ok (.lload_n 0, 1) := by decide +kernel
theorem dJ13_bitCount_95d88_11 : decode cJ13_bitCount_95d88 11 = .ok (.ldc2_w 316, 3) := by decide +kernel
theorem dJ13_bitCount_95d88_14 : decode cJ13_bitCount_95d88 14 = .ok (.land, 1) := by decide +kernel
theorem dJ13_bitCount_95d88_15 : decode cJ13_bitCount_95d88 15 = .ok (.lload_n 0, 1) := by decide +kernel
theorem dJ13_bitCount_95d88_16 : decode cJ13_bitCount_95d88 16 = .ok (.iconst 2, 1) := by decide +kernel
theorem dJ13_bitCount_95d88_17 : decode cJ13_bitCount_95d88 17 = .ok (.lushr, 1) := by decide +kernel
theorem dJ13_bitCount_95d88_18 : decode cJ13_bitCount_95d88 18 = .ok (.ldc2_w 316, 3) := by decide +kernel
theorem dJ13_bitCount_95d88_21 : decode cJ13_bitCount_95d88 21 = .ok (.land, 1) := by decide +kernel
theorem dJ13_bitCount_95d88_22 : decode cJ13_bitCount_95d88 22 = .ok (.ladd, 1) := by decide +kernel
theorem dJ13_bitCount_95d88_23 : decode cJ13_bitCount_95d88 23 = .ok (.lstore_n 0, 1) := by decide +kernel
theorem dJ13_bitCount_95d88_24 : decode cJ13_bitCount_95d88 24 = .ok (.lload_n 0, 1) := by decide +kernel
theorem dJ13_bitCount_95d88_25 : decode cJ13_bitCount_95d88 25 = .ok (.lload_n 0, 1) := by decide +kernel
theorem dJ13_bitCount_95d88_26 : decode cJ13_bitCount_95d88 26 = .ok (.iconst 4, 1) := by decide +kernel
theorem dJ13_bitCount_95d88_27 : decode cJ13_bitCount_95d88 27 = .ok (.lushr, 1) := by decide +kernel
theorem dJ13_bitCount_95d88_28 : decode cJ13_bitCount_95d88 28 = .ok (.ladd, 1) := by decide +kernel
theorem dJ13_bitCount_95d88_29 : decode cJ13_bitCount_95d88 29 = .ok (.ldc2_w 318, 3) := by decide +kernel
theorem dJ13_bitCount_95d88_32 : decode cJ13_bitCount_95d88 32 = .ok (.land, 1) := by decide +kernel
theorem dJ13_bitCount_95d88_33 : decode cJ13_bitCount_95d88 33 = .ok (.lstore_n 0, 1) := by decide +kernel
theorem dJ13_bitCount_95d88_34 : decode cJ13_bitCount_95d88 34 = .ok (.lload_n 0, 1) := by decide +kernel
theorem dJ13_bitCount_95d88_35 : decode cJ13_bitCount_95d88 35 = .ok (.lload_n 0, 1) := by decide +kernel
theorem dJ13_bitCount_95d88_36 : decode cJ13_bitCount_95d88 36 = .ok (.bipush 8, 2) := by decide +kernel
theorem dJ13_bitCount_95d88_38 : decode cJ13_bitCount_95d88 38 = .ok (.lushr, 1) := by decide +kernel
theorem dJ13_bitCount_95d88_39 : decode cJ13_bitCount_95d88 39 = .ok (.ladd, 1) := by decide +kernel
theorem dJ13_bitCount_95d88_40 : decode cJ13_bitCount_95d88 40 = .ok (.lstore_n 0, 1) := by decide +kernel
theorem dJ13_bitCount_95d88_41 : decode cJ13_bitCount_95d88 41 = .ok (.lload_n 0, 1) := by decide +kernel
theorem dJ13_bitCount_95d88_42 : decode cJ13_bitCount_95d88 42 = .ok (.lload_n 0, 1) := by decide +kernel
theorem dJ13_bitCount_95d88_43 : decode cJ13_bitCount_95d88 43 = .ok (.bipush 16, 2) := by decide +kernel
theorem dJ13_bitCount_95d88_45 : decode cJ13_bitCount_95d88 45 = .ok (.lushr, 1) := by decide +kernel
theorem dJ13_bitCount_95d88_46 : decode cJ13_bitCount_95d88 46 = .ok (.ladd, 1) := by decide +kernel
theorem dJ13_bitCount_95d88_47 : decode cJ13_bitCount_95d88 47 = .ok (.lstore_n 0, 1) := by decide +kernel
theorem dJ13_bitCount_95d88_48 : decode cJ13_bitCount_95d88 48 = .ok (.lload_n 0, 1) := by decide +kernel
theorem dJ13_bitCount_95d88_49 : decode cJ13_bitCount_95d88 49 = .ok (.lload_n 0, 1) := by decide +kernel
theorem dJ13_bitCount_95d88_50 : decode cJ13_bitCount_95d88 50 = .ok (.bipush 32, 2) := by decide +kernel
theorem dJ13_bitCount_95d88_52 : decode cJ13_bitCount_95d88 52 = .ok (.lushr, 1) := by decide +kernel
theorem dJ13_bitCount_95d88_53 : decode cJ13_bitCount_95d88 53 = .ok (.ladd, 1) := by decide +kernel
theorem dJ13_bitCount_95d88_54 : decode cJ13_bitCount_95d88 54 = .ok (.lstore_n 0, 1) := by decide +kernel
theorem dJ13_bitCount_95d88_55 : decode cJ13_bitCount_95d88 55 = .ok (.lload_n 0, 1) := by decide +kernel
theorem dJ13_bitCount_95d88_56 : decode cJ13_bitCount_95d88 56 = .ok (.l2i, 1) := by decide +kernel
theorem dJ13_bitCount_95d88_57 : decode cJ13_bitCount_95d88 57 = .ok (.bipush 127, 2) := by decide +kernel
theorem dJ13_bitCount_95d88_59 : decode cJ13_bitCount_95d88 59 = .ok (.iand, 1) := by decide +kernel
theorem dJ13_bitCount_95d88_60 : decode cJ13_bitCount_95d88 60 = .ok (.ireturn, 1) := by decide +kernel
theorem dJ9_max_7cf53_0 : decode cJ9_max_7cf53 0 = .ok (.iload_n 0, 1) := by decide +kernel
theorem dJ9_max_7cf53_1 : decode cJ9_max_7cf53 1 = .ok (.iload_n 1, 1) := by decide +kernel
theorem dJ9_max_7cf53_2 : decode cJ9_max_7cf53 2 = .ok (.if_icmp .lt 7, 3) := by decide +kernel
theorem dJ9_max_7cf53_5 : decode cJ9_max_7cf53 5 = .ok (.iload_n 0, 1) := by decide +kernel
theorem dJ9_max_7cf53_6 : decode cJ9_max_7cf53 6 = .ok (.goto 4, 3) := by decide +kernel
theorem dJ9_max_7cf53_9 : decode cJ9_max_7cf53 9 = .ok (.iload_n 1, 1) := by decide +kernel
theorem dJ9_max_7cf53_10 : decode cJ9_max_7cf53 10 = .ok (.ireturn, 1) := by decide +kernel
theorem dJ9_min_7cf53_0 : decode cJ9_min_7cf53 0 = .ok (.iload_n 0, 1) := by decide +kernel
theorem dJ9_min_7cf53_1 : decode cJ9_min_7cf53 1 = .ok (.iload_n 1, 1) := by decide +kernel
theorem dJ9_min_7cf53_2 : decode cJ9_min_7cf53 2 = .ok (.if_icmp .gt 7, 3) := by decide +kernel
theorem dJ9_min_7cf53_5 : decode cJ9_min_7cf53 5 = .ok (.iload_n 0, 1) := by decide +kernel
theorem dJ9_min_7cf53_6 : decode cJ9_min_7cf53 6 = .ok (.goto 4, 3) := by decide +kernel
theorem dJ9_min_7cf53_9 : decode cJ9_min_7cf53 9 = .ok (.iload_n 1, 1) := by decide +kernel
theorem dJ9_min_7cf53_10 : decode cJ9_min_7cf53 10 = .ok (.ireturn, 1) := by decide +kernel
theorem dJ7_copyOf_59c91_0 : decode cJ7_copyOf_59c91 0 = .ok (.iload_n 1, 1) := by decide +kernel
theorem dJ7_copyOf_59c91_1 : decode cJ7_copyOf_59c91 1 = .ok (.aload_n 0, 1) := by decide +kernel
theorem dJ7_copyOf_59c91_2 : decode cJ7_copyOf_59c91 2 = .ok (.arraylength, 1) := by decide +kernel
theorem dJ7_copyOf_59c91_3 : decode cJ7_copyOf_59c91 3 = .ok (.if_icmp .ne 11, 3) := by decide +kernel
theorem dJ7_copyOf_59c91_6 : decode cJ7_copyOf_59c91 6 = .ok (.aload_n 0, 1) := by decide +kernel
theorem dJ7_copyOf_59c91_7 : decode cJ7_copyOf_59c91 7 = .ok (.invokevirtual 316, 3) := by decide +kernel
theorem dJ7_copyOf_59c91_10 : decode cJ7_copyOf_59c91 10 = .ok (.checkcast 317, 3) := by decide +kernel
theorem dJ7_copyOf_59c91_13 : decode cJ7_copyOf_59c91 13 = .ok (.areturn, 1) := by decide +kernel
theorem dJ7_copyOf_59c91_14 : decode cJ7_copyOf_59c91 14 = .ok (.iload_n 1, 1) := by decide +kernel
theorem dJ7_copyOf_59c91_15 : decode cJ7_copyOf_59c91 15 = .ok (.newarray .int, 2) := by decide +kernel
theorem dJ7_copyOf_59c91_17 : decode cJ7_copyOf_59c91 17 = .ok (.astore_n 2, 1) := by decide +kernel
theorem dJ7_copyOf_59c91_18 : decode cJ7_copyOf_59c91 18 = .ok (.aload_n 0, 1) := by decide +kernel
theorem dJ7_copyOf_59c91_19 : decode cJ7_copyOf_59c91 19 = .ok (.iconst 0, 1) := by decide +kernel
theorem dJ7_copyOf_59c91_20 : decode cJ7_copyOf_59c91 20 = .ok (.aload_n 2, 1) := by decide +kernel
theorem dJ7_copyOf_59c91_21 : decode cJ7_copyOf_59c91 21 = .ok (.iconst 0, 1) := by decide +kernel
theorem dJ7_copyOf_59c91_22 : decode cJ7_copyOf_59c91 22 = .ok (.aload_n 0, 1) := by decide +kernel
theorem dJ7_copyOf_59c91_23 : decode cJ7_copyOf_59c91 23 = .ok (.arraylength, 1) := by decide +kernel
theorem dJ7_copyOf_59c91_24 : decode cJ7_copyOf_59c91 24 = .ok (.iload_n 1, 1) := by decide +kernel
theorem dJ7_copyOf_59c91_25 : decode cJ7_copyOf_59c91 25 = .ok (.invokestatic 304, 3) := by decide +kernel
theorem dJ7_copyOf_59c91_28 : decode cJ7_copyOf_59c91 28 = .ok (.invokestatic 150, 3) := by decide +kernel
theorem dJ7_copyOf_59c91_31 : decode cJ7_copyOf_59c91 31 = .ok (.aload_n 2, 1) := by decide +kernel
theorem dJ7_copyOf_59c91_32 : decode cJ7_copyOf_59c91 32 = .ok (.areturn, 1) := by decide +kernel
theorem dL_below_0 : decode cL_below 0 = .ok (.iload_n 0, 1) := by decide +kernel
theorem dL_below_1 : decode cL_below 1 = .ok (.ldc 7, 2) := by decide +kernel
theorem dL_below_3 : decode cL_below 3 = .ok (.iand, 1) := by decide +kernel
theorem dL_below_4 : decode cL_below 4 = .ok (.iload_n 1, 1) := by decide +kernel
theorem dL_below_5 : decode cL_below 5 = .ok (.irem, 1) := by decide +kernel
theorem dL_below_6 : decode cL_below 6 = .ok (.ireturn, 1) := by decide +kernel
theorem dL_cell_0 : decode cL_cell 0 = .ok (.iload_n 1, 1) := by decide +kernel
theorem dL_cell_1 : decode cL_cell 1 = .ok (.aload_n 0, 1) := by decide +kernel
theorem dL_cell_2 : decode cL_cell 2 = .ok (.arraylength, 1) := by decide +kernel
theorem dL_cell_3 : decode cL_cell 3 = .ok (.if_icmp .ge 9, 3) := by decide +kernel
theorem dL_cell_6 : decode cL_cell 6 = .ok (.aload_n 0, 1) := by decide +kernel
theorem dL_cell_7 : decode cL_cell 7 = .ok (.iload_n 1, 1) := by decide +kernel
theorem dL_cell_8 : decode cL_cell 8 = .ok (.iaload, 1) := by decide +kernel
theorem dL_cell_9 : decode cL_cell 9 = .ok (.goto 9, 3) := by decide +kernel
theorem dL_cell_12 : decode cL_cell 12 = .ok (.ldc 8, 2) := by decide +kernel
theorem dL_cell_14 : decode cL_cell 14 = .ok (.iload_n 1, 1) := by decide +kernel
theorem dL_cell_15 : decode cL_cell 15 = .ok (.iconst 3, 1) := by decide +kernel
theorem dL_cell_16 : decode cL_cell 16 = .ok (.iadd, 1) := by decide +kernel
theorem dL_cell_17 : decode cL_cell 17 = .ok (.imul, 1) := by decide +kernel
theorem dL_cell_18 : decode cL_cell 18 = .ok (.ireturn, 1) := by decide +kernel
theorem dL_law_0 : decode cL_law 0 = .ok (.new 9, 3) := by decide +kernel
theorem dL_law_3 : decode cL_law 3 = .ok (.dup, 1) := by decide +kernel
theorem dL_law_4 : decode cL_law 4 = .ok (.invokespecial 11, 3) := by decide +kernel
theorem dL_law_7 : decode cL_law 7 = .ok (.astore_n 1, 1) := by decide +kernel
theorem dL_law_8 : decode cL_law 8 = .ok (.iconst 0, 1) := by decide +kernel
theorem dL_law_9 : decode cL_law 9 = .ok (.istore_n 2, 1) := by decide +kernel
theorem dL_law_10 : decode cL_law 10 = .ok (.iload_n 2, 1) := by decide +kernel
theorem dL_law_11 : decode cL_law 11 = .ok (.bipush 60, 2) := by decide +kernel
theorem dL_law_13 : decode cL_law 13 = .ok (.if_icmp .ge 76, 3) := by decide +kernel
theorem dL_law_16 : decode cL_law 16 = .ok (.aload_n 1, 1) := by decide +kernel
theorem dL_law_17 : decode cL_law 17 = .ok (.aload_n 0, 1) := by decide +kernel
theorem dL_law_18 : decode cL_law 18 = .ok (.iload_n 2, 1) := by decide +kernel
theorem dL_law_19 : decode cL_law 19 = .ok (.bipush 34, 2) := by decide +kernel
theorem dL_law_21 : decode cL_law 21 = .ok (.irem, 1) := by decide +kernel
theorem dL_law_22 : decode cL_law 22 = .ok (.invokestatic 12, 3) := by decide +kernel
theorem dL_law_25 : decode cL_law 25 = .ok (.iload_n 2, 1) := by decide +kernel
theorem dL_law_26 : decode cL_law 26 = .ok (.bipush 34, 2) := by decide +kernel
theorem dL_law_28 : decode cL_law 28 = .ok (.idiv, 1) := by decide +kernel
theorem dL_law_29 : decode cL_law 29 = .ok (.bipush 11, 2) := by decide +kernel
theorem dL_law_31 : decode cL_law 31 = .ok (.imul, 1) := by decide +kernel
theorem dL_law_32 : decode cL_law 32 = .ok (.ishr, 1) := by decide +kernel
theorem dL_law_33 : decode cL_law 33 = .ok (.invokestatic 18, 3) := by decide +kernel
theorem dL_law_36 : decode cL_law 36 = .ok (.ifCond .ne 5, 3) := by decide +kernel
theorem dL_law_39 : decode cL_law 39 = .ok (.iconst 0, 1) := by decide +kernel
theorem dL_law_40 : decode cL_law 40 = .ok (.ireturn, 1) := by decide +kernel
theorem dL_law_41 : decode cL_law 41 = .ok (.iload_n 2, 1) := by decide +kernel
theorem dL_law_42 : decode cL_law 42 = .ok (.bipush 10, 2) := by decide +kernel
theorem dL_law_44 : decode cL_law 44 = .ok (.irem, 1) := by decide +kernel
theorem dL_law_45 : decode cL_law 45 = .ok (.bipush 9, 2) := by decide +kernel
theorem dL_law_47 : decode cL_law 47 = .ok (.if_icmp .eq 6, 3) := by decide +kernel
theorem dL_law_50 : decode cL_law 50 = .ok (.goto 33, 3) := by decide +kernel
theorem dL_law_53 : decode cL_law 53 = .ok (.aload_n 1, 1) := by decide +kernel
theorem dL_law_54 : decode cL_law 54 = .ok (.invokevirtual 22, 3) := by decide +kernel
theorem dL_law_57 : decode cL_law 57 = .ok (.lstore_n 3, 1) := by decide +kernel
theorem dL_law_58 : decode cL_law 58 = .ok (.aload_n 1, 1) := by decide +kernel
theorem dL_law_59 : decode cL_law 59 = .ok (.invokestatic 26, 3) := by decide +kernel
theorem dL_law_62 : decode cL_law 62 = .ok (.ifCond .eq 19, 3) := by decide +kernel
theorem dL_law_65 : decode cL_law 65 = .ok (.aload_n 1, 1) := by decide +kernel
theorem dL_law_66 : decode cL_law 66 = .ok (.invokestatic 30, 3) := by decide +kernel
theorem dL_law_69 : decode cL_law 69 = .ok (.ifCond .eq 12, 3) := by decide +kernel
theorem dL_law_72 : decode cL_law 72 = .ok (.aload_n 1, 1) := by decide +kernel
theorem dL_law_73 : decode cL_law 73 = .ok (.invokevirtual 22, 3) := by decide +kernel
theorem dL_law_76 : decode cL_law 76 = .ok (.lload_n 3, 1) := by decide +kernel
theorem dL_law_77 : decode cL_law 77 = .ok (.lcmp, 1) := by decide +kernel
theorem dL_law_78 : decode cL_law 78 = .ok (.ifCond .eq 5, 3) := by decide +kernel
theorem dL_law_81 : decode cL_law 81 = .ok (.iconst 0, 1) := by decide +kernel
theorem dL_law_82 : decode cL_law 82 = .ok (.ireturn, 1) := by decide +kernel
theorem dL_law_83 : decode cL_law 83 = .ok (.iinc 2 1, 3) := by decide +kernel
theorem dL_law_86 : decode cL_law 86 = .ok (.goto (-76), 3) := by decide +kernel
theorem dL_law_89 : decode cL_law 89 = .ok (.iconst 1, 1) := by decide +kernel
theorem dL_law_90 : decode cL_law 90 = .ok (.ireturn, 1) := by decide +kernel
theorem dL_act_0 : decode cL_act 0 = .ok (.aload_n 0, 1) := by decide +kernel
theorem dL_act_1 : decode cL_act 1 = .ok (.invokevirtual 33, 3) := by decide +kernel
theorem dL_act_4 : decode cL_act 4 = .ok (.istore_n 2, 1) := by decide +kernel
theorem dL_act_5 : decode cL_act 5 = .ok (.aload_n 0, 1) := by decide +kernel
theorem dL_act_6 : decode cL_act 6 = .ok (.iload_n 2, 1) := by decide +kernel
theorem dL_act_7 : decode cL_act 7 = .ok (.invokevirtual 37, 3) := by decide +kernel
theorem dL_act_10 : decode cL_act 10 = .ok (.istore_n 3, 1) := by decide +kernel
theorem dL_act_11 : decode cL_act 11 = .ok (.iload_n 1, 1) := by decide +kernel
theorem dL_act_12 : decode cL_act 12 = .ok (.bipush 18, 2) := by decide +kernel
theorem dL_act_14 : decode cL_act 14 = .ok (.invokestatic 41, 3) := by decide +kernel
theorem dL_act_17 : decode cL_act 17 = .ok (.tableswitch 426 0 16 #[83, 98, 98, 98, 98, 169, 177, 177, 177, 218, 226, 226, 226, 290, 312, 376, 418], 83) := by decide +kernel
theorem dL_act_100 : decode cL_act 100 = .ok (.aload_n 0, 1) := by decide +kernel
theorem dL_act_101 : decode cL_act 101 = .ok (.iload_n 1, 1) := by decide +kernel
theorem dL_act_102 : decode cL_act 102 = .ok (.iconst 4, 1) := by decide +kernel
theorem dL_act_103 : decode cL_act 103 = .ok (.ishr, 1) := by decide +kernel
theorem dL_act_104 : decode cL_act 104 = .ok (.iconst 3, 1) := by decide +kernel
theorem dL_act_105 : decode cL_act 105 = .ok (.invokestatic 41, 3) := by decide +kernel
theorem dL_act_108 : decode cL_act 108 = .ok (.invokevirtual 45, 3) := by decide +kernel
theorem dL_act_111 : decode cL_act 111 = .ok (.pop, 1) := by decide +kernel
theorem dL_act_112 : decode cL_act 112 = .ok (.goto 378, 3) := by decide +kernel
theorem dL_act_115 : decode cL_act 115 = .ok (.iload_n 1, 1) := by decide +kernel
theorem dL_act_116 : decode cL_act 116 = .ok (.iconst 5, 1) := by decide +kernel
theorem dL_act_117 : decode cL_act 117 = .ok (.ishr, 1) := by decide +kernel
theorem dL_act_118 : decode cL_act 118 = .ok (.iconst 1, 1) := by decide +kernel
theorem dL_act_119 : decode cL_act 119 = .ok (.aload_n 0, 1) := by decide +kernel
theorem dL_act_120 : decode cL_act 120 = .ok (.invokevirtual 48, 3) := by decide +kernel
theorem dL_act_123 : decode cL_act 123 = .ok (.invokestatic 51, 3) := by decide +kernel
theorem dL_act_126 : decode cL_act 126 = .ok (.invokestatic 41, 3) := by decide +kernel
theorem dL_act_129 : decode cL_act 129 = .ok (.istore 4, 2) := by decide +kernel
theorem dL_act_131 : decode cL_act 131 = .ok (.aload_n 0, 1) := by decide +kernel
theorem dL_act_132 : decode cL_act 132 = .ok (.iload 4, 2) := by decide +kernel
theorem dL_act_134 : decode cL_act 134 = .ok (.invokevirtual 56, 3) := by decide +kernel
theorem dL_act_137 : decode cL_act 137 = .ok (.istore 5, 2) := by decide +kernel
theorem dL_act_139 : decode cL_act 139 = .ok (.aload_n 0, 1) := by decide +kernel
theorem dL_act_140 : decode cL_act 140 = .ok (.invokevirtual 59, 3) := by decide +kernel
theorem dL_act_143 : decode cL_act 143 = .ok (.istore 6, 2) := by decide +kernel
theorem dL_act_145 : decode cL_act 145 = .ok (.aload_n 0, 1) := by decide +kernel
theorem dL_act_146 : decode cL_act 146 = .ok (.iload 5, 2) := by decide +kernel
theorem dL_act_148 : decode cL_act 148 = .ok (.invokevirtual 62, 3) := by decide +kernel
theorem dL_act_151 : decode cL_act 151 = .ok (.aload_n 0, 1) := by decide +kernel
theorem dL_act_152 : decode cL_act 152 = .ok (.invokevirtual 65, 3) := by decide +kernel
theorem dL_act_155 : decode cL_act 155 = .ok (.if_icmp .ne 29, 3) := by decide +kernel
theorem dL_act_158 : decode cL_act 158 = .ok (.aload_n 0, 1) := by decide +kernel
theorem dL_act_159 : decode cL_act 159 = .ok (.invokevirtual 59, 3) := by decide +kernel
theorem dL_act_162 : decode cL_act 162 = .ok (.iload 6, 2) := by decide +kernel
theorem dL_act_164 : decode cL_act 164 = .ok (.iconst 1, 1) := by decide +kernel
theorem dL_act_165 : decode cL_act 165 = .ok (.iadd, 1) := by decide +kernel
theorem dL_act_166 : decode cL_act 166 = .ok (.if_icmp .ne 18, 3) := by decide +kernel
theorem dL_act_169 : decode cL_act 169 = .ok (.aload_n 0, 1) := by decide +kernel
theorem dL_act_170 : decode cL_act 170 = .ok (.iload 6, 2) := by decide +kernel
theorem dL_act_172 : decode cL_act 172 = .ok (.invokevirtual 68, 3) := by decide +kernel
theorem dL_act_175 : decode cL_act 175 = .ok (.iload 5, 2) := by decide +kernel
theorem dL_act_177 : decode cL_act 177 = .ok (.if_icmp .ne 7, 3) := by decide +kernel
theorem dL_act_180 : decode cL_act 180 = .ok (.iconst 1, 1) := by decide +kernel
theorem dL_act_181 : decode cL_act 181 = .ok (.goto 4, 3) := by decide +kernel
theorem dL_act_184 : decode cL_act 184 = .ok (.iconst 0, 1) := by decide +kernel
theorem dL_act_185 : decode cL_act 185 = .ok (.ireturn, 1) := by decide +kernel
theorem dL_act_186 : decode cL_act 186 = .ok (.aload_n 0, 1) := by decide +kernel
theorem dL_act_187 : decode cL_act 187 = .ok (.invokevirtual 71, 3) := by decide +kernel
theorem dL_act_190 : decode cL_act 190 = .ok (.pop, 1) := by decide +kernel
theorem dL_act_191 : decode cL_act 191 = .ok (.goto 299, 3) := by decide +kernel
theorem dL_act_194 : decode cL_act 194 = .ok (.aload_n 0, 1) := by decide +kernel
theorem dL_act_195 : decode cL_act 195 = .ok (.iload_n 1, 1) := by decide +kernel
theorem dL_act_196 : decode cL_act 196 = .ok (.iconst 4, 1) := by decide +kernel
theorem dL_act_197 : decode cL_act 197 = .ok (.ishr, 1) := by decide +kernel
theorem dL_act_198 : decode cL_act 198 = .ok (.iconst 5, 1) := by decide +kernel
theorem dL_act_199 : decode cL_act 199 = .ok (.invokestatic 41, 3) := by decide +kernel
theorem dL_act_202 : decode cL_act 202 = .ok (.iload_n 1, 1) := by decide +kernel
theorem dL_act_203 : decode cL_act 203 = .ok (.bipush 7, 2) := by decide +kernel
theorem dL_act_205 : decode cL_act 205 = .ok (.ishr, 1) := by decide +kernel
theorem dL_act_206 : decode cL_act 206 = .ok (.iconst 2, 1) := by decide +kernel
theorem dL_act_207 : decode cL_act 207 = .ok (.invokestatic 41, 3) := by decide +kernel
theorem dL_act_210 : decode cL_act 210 = .ok (.invokevirtual 74, 3) := by decide +kernel
theorem dL_act_213 : decode cL_act 213 = .ok (.istore 7, 2) := by decide +kernel
theorem dL_act_215 : decode cL_act 215 = .ok (.aload_n 0, 1) := by decide +kernel
theorem dL_act_216 : decode cL_act 216 = .ok (.iload_n 2, 1) := by decide +kernel
theorem dL_act_217 : decode cL_act 217 = .ok (.invokevirtual 37, 3) := by decide +kernel
theorem dL_act_220 : decode cL_act 220 = .ok (.iload_n 3, 1) := by decide +kernel
theorem dL_act_221 : decode cL_act 221 = .ok (.iload 7, 2) := by decide +kernel
theorem dL_act_223 : decode cL_act 223 = .ok (.isub, 1) := by decide +kernel
theorem dL_act_224 : decode cL_act 224 = .ok (.iconst 1, 1) := by decide +kernel
theorem dL_act_225 : decode cL_act 225 = .ok (.iadd, 1) := by decide +kernel
theorem dL_act_226 : decode cL_act 226 = .ok (.if_icmp .ne 7, 3) := by decide +kernel
theorem dL_act_229 : decode cL_act 229 = .ok (.iconst 1, 1) := by decide +kernel
theorem dL_act_230 : decode cL_act 230 = .ok (.goto 4, 3) := by decide +kernel
theorem dL_act_233 : decode cL_act 233 = .ok (.iconst 0, 1) := by decide +kernel
theorem dL_act_234 : decode cL_act 234 = .ok (.ireturn, 1) := by decide +kernel
theorem dL_act_235 : decode cL_act 235 = .ok (.aload_n 0, 1) := by decide +kernel
theorem dL_act_236 : decode cL_act 236 = .ok (.invokevirtual 77, 3) := by decide +kernel
theorem dL_act_239 : decode cL_act 239 = .ok (.pop, 1) := by decide +kernel
theorem dL_act_240 : decode cL_act 240 = .ok (.goto 250, 3) := by decide +kernel
theorem dL_act_243 : decode cL_act 243 = .ok (.aload_n 0, 1) := by decide +kernel
theorem dL_act_244 : decode cL_act 244 = .ok (.iload_n 1, 1) := by decide +kernel
theorem dL_act_245 : decode cL_act 245 = .ok (.iconst 5, 1) := by decide +kernel
theorem dL_act_246 : decode cL_act 246 = .ok (.ishr, 1) := by decide +kernel
theorem dL_act_247 : decode cL_act 247 = .ok (.bipush 6, 2) := by decide +kernel
theorem dL_act_249 : decode cL_act 249 = .ok (.invokestatic 41, 3) := by decide +kernel
theorem dL_act_252 : decode cL_act 252 = .ok (.invokevirtual 80, 3) := by decide +kernel
theorem dL_act_255 : decode cL_act 255 = .ok (.istore 8, 2) := by decide +kernel
theorem dL_act_257 : decode cL_act 257 = .ok (.iload 8, 2) := by decide +kernel
theorem dL_act_259 : decode cL_act 259 = .ok (.iconst (-1), 1) := by decide +kernel
theorem dL_act_260 : decode cL_act 260 = .ok (.if_icmp .ne 20, 3) := by decide +kernel
theorem dL_act_263 : decode cL_act 263 = .ok (.aload_n 0, 1) := by decide +kernel
theorem dL_act_264 : decode cL_act 264 = .ok (.iload_n 2, 1) := by decide +kernel
theorem dL_act_265 : decode cL_act 265 = .ok (.invokevirtual 37, 3) := by decide +kernel
theorem dL_act_268 : decode cL_act 268 = .ok (.iload_n 3, 1) := by decide +kernel
theorem dL_act_269 : decode cL_act 269 = .ok (.if_icmp .ne 7, 3) := by decide +kernel
theorem dL_act_272 : decode cL_act 272 = .ok (.iconst 1, 1) := by decide +kernel
theorem dL_act_273 : decode cL_act 273 = .ok (.goto 33, 3) := by decide +kernel
theorem dL_act_276 : decode cL_act 276 = .ok (.iconst 0, 1) := by decide +kernel
theorem dL_act_277 : decode cL_act 277 = .ok (.goto 29, 3) := by decide +kernel
theorem dL_act_280 : decode cL_act 280 = .ok (.iload 8, 2) := by decide +kernel
theorem dL_act_282 : decode cL_act 282 = .ok (.iload_n 3, 1) := by decide +kernel
theorem dL_act_283 : decode cL_act 283 = .ok (.aload_n 0, 1) := by decide +kernel
theorem dL_act_284 : decode cL_act 284 = .ok (.invokevirtual 83, 3) := by decide +kernel
theorem dL_act_287 : decode cL_act 287 = .ok (.iadd, 1) := by decide +kernel
theorem dL_act_288 : decode cL_act 288 = .ok (.if_icmp .ne 17, 3) := by decide +kernel
theorem dL_act_291 : decode cL_act 291 = .ok (.aload_n 0, 1) := by decide +kernel
theorem dL_act_292 : decode cL_act 292 = .ok (.iload_n 2, 1) := by decide +kernel
theorem dL_act_293 : decode cL_act 293 = .ok (.invokevirtual 37, 3) := by decide +kernel
theorem dL_act_296 : decode cL_act 296 = .ok (.iload 8, 2) := by decide +kernel
theorem dL_act_298 : decode cL_act 298 = .ok (.if_icmp .ne 7, 3) := by decide +kernel
theorem dL_act_301 : decode cL_act 301 = .ok (.iconst 1, 1) := by decide +kernel
theorem dL_act_302 : decode cL_act 302 = .ok (.goto 4, 3) := by decide +kernel
theorem dL_act_305 : decode cL_act 305 = .ok (.iconst 0, 1) := by decide +kernel
theorem dL_act_306 : decode cL_act 306 = .ok (.ireturn, 1) := by decide +kernel
theorem dL_act_307 : decode cL_act 307 = .ok (.aload_n 0, 1) := by decide +kernel
theorem dL_act_308 : decode cL_act 308 = .ok (.iload_n 1, 1) := by decide +kernel
theorem dL_act_309 : decode cL_act 309 = .ok (.iconst 5, 1) := by decide +kernel
theorem dL_act_310 : decode cL_act 310 = .ok (.ishr, 1) := by decide +kernel
theorem dL_act_311 : decode cL_act 311 = .ok (.bipush 6, 2) := by decide +kernel
theorem dL_act_313 : decode cL_act 313 = .ok (.invokestatic 41, 3) := by decide +kernel
theorem dL_act_316 : decode cL_act 316 = .ok (.invokevirtual 86, 3) := by decide +kernel
theorem dL_act_319 : decode cL_act 319 = .ok (.iload_n 3, 1) := by decide +kernel
theorem dL_act_320 : decode cL_act 320 = .ok (.if_icmp .ge 7, 3) := by decide +kernel
theorem dL_act_323 : decode cL_act 323 = .ok (.iconst 1, 1) := by decide +kernel
theorem dL_act_324 : decode cL_act 324 = .ok (.goto 4, 3) := by decide +kernel
theorem dL_act_327 : decode cL_act 327 = .ok (.iconst 0, 1) := by decide +kernel
theorem dL_act_328 : decode cL_act 328 = .ok (.ireturn, 1) := by decide +kernel
theorem dL_act_329 : decode cL_act 329 = .ok (.iload_n 1, 1) := by decide +kernel
theorem dL_act_330 : decode cL_act 330 = .ok (.iconst 5, 1) := by decide +kernel
theorem dL_act_331 : decode cL_act 331 = .ok (.ishr, 1) := by decide +kernel
theorem dL_act_332 : decode cL_act 332 = .ok (.iconst 3, 1) := by decide +kernel
theorem dL_act_333 : decode cL_act 333 = .ok (.invokestatic 41, 3) := by decide +kernel
theorem dL_act_336 : decode cL_act 336 = .ok (.istore 9, 2) := by decide +kernel
theorem dL_act_338 : decode cL_act 338 = .ok (.iload_n 1, 1) := by decide +kernel
theorem dL_act_339 : decode cL_act 339 = .ok (.bipush 7, 2) := by decide +kernel
theorem dL_act_341 : decode cL_act 341 = .ok (.ishr, 1) := by decide +kernel
theorem dL_act_342 : decode cL_act 342 = .ok (.iconst 3, 1) := by decide +kernel
theorem dL_act_343 : decode cL_act 343 = .ok (.invokestatic 41, 3) := by decide +kernel
theorem dL_act_346 : decode cL_act 346 = .ok (.istore 10, 2) := by decide +kernel
theorem dL_act_348 : decode cL_act 348 = .ok (.aload_n 0, 1) := by decide +kernel
theorem dL_act_349 : decode cL_act 349 = .ok (.iload 9, 2) := by decide +kernel
theorem dL_act_351 : decode cL_act 351 = .ok (.iload 10, 2) := by decide +kernel
theorem dL_act_353 : decode cL_act 353 = .ok (.invokevirtual 89, 3) := by decide +kernel
theorem dL_act_356 : decode cL_act 356 = .ok (.istore 11, 2) := by decide +kernel
theorem dL_act_358 : decode cL_act 358 = .ok (.aload_n 0, 1) := by decide +kernel
theorem dL_act_359 : decode cL_act 359 = .ok (.iload 11, 2) := by decide +kernel
theorem dL_act_361 : decode cL_act 361 = .ok (.iload 9, 2) := by decide +kernel
theorem dL_act_363 : decode cL_act 363 = .ok (.invokevirtual 92, 3) := by decide +kernel
theorem dL_act_366 : decode cL_act 366 = .ok (.iconst (-1), 1) := by decide +kernel
theorem dL_act_367 : decode cL_act 367 = .ok (.if_icmp .ne 24, 3) := by decide +kernel
theorem dL_act_370 : decode cL_act 370 = .ok (.aload_n 0, 1) := by decide +kernel
theorem dL_act_371 : decode cL_act 371 = .ok (.iload 11, 2) := by decide +kernel
theorem dL_act_373 : decode cL_act 373 = .ok (.invokevirtual 95, 3) := by decide +kernel
theorem dL_act_376 : decode cL_act 376 = .ok (.aload_n 0, 1) := by decide +kernel
theorem dL_act_377 : decode cL_act 377 = .ok (.iload 9, 2) := by decide +kernel
theorem dL_act_379 : decode cL_act 379 = .ok (.iload 10, 2) := by decide +kernel
theorem dL_act_381 : decode cL_act 381 = .ok (.invokevirtual 98, 3) := by decide +kernel
theorem dL_act_384 : decode cL_act 384 = .ok (.if_icmp .ne 7, 3) := by decide +kernel
theorem dL_act_387 : decode cL_act 387 = .ok (.iconst 1, 1) := by decide +kernel
theorem dL_act_388 : decode cL_act 388 = .ok (.goto 4, 3) := by decide +kernel
theorem dL_act_391 : decode cL_act 391 = .ok (.iconst 0, 1) := by decide +kernel
theorem dL_act_392 : decode cL_act 392 = .ok (.ireturn, 1) := by decide +kernel
theorem dL_act_393 : decode cL_act 393 = .ok (.aload_n 0, 1) := by decide +kernel
theorem dL_act_394 : decode cL_act 394 = .ok (.invokevirtual 101, 3) := by decide +kernel
theorem dL_act_397 : decode cL_act 397 = .ok (.ifCond .eq 93, 3) := by decide +kernel
theorem dL_act_400 : decode cL_act 400 = .ok (.aload_n 0, 1) := by decide +kernel
theorem dL_act_401 : decode cL_act 401 = .ok (.invokevirtual 101, 3) := by decide +kernel
theorem dL_act_404 : decode cL_act 404 = .ok (.bipush 8, 2) := by decide +kernel
theorem dL_act_406 : decode cL_act 406 = .ok (.if_icmp .ne 6, 3) := by decide +kernel
theorem dL_act_409 : decode cL_act 409 = .ok (.goto 81, 3) := by decide +kernel
theorem dL_act_412 : decode cL_act 412 = .ok (.aload_n 0, 1) := by decide +kernel
theorem dL_act_413 : decode cL_act 413 = .ok (.iload_n 1, 1) := by decide +kernel
theorem dL_act_414 : decode cL_act 414 = .ok (.iconst 5, 1) := by decide +kernel
theorem dL_act_415 : decode cL_act 415 = .ok (.ishr, 1) := by decide +kernel
theorem dL_act_416 : decode cL_act 416 = .ok (.aload_n 0, 1) := by decide +kernel
theorem dL_act_417 : decode cL_act 417 = .ok (.invokevirtual 101, 3) := by decide +kernel
theorem dL_act_420 : decode cL_act 420 = .ok (.invokestatic 41, 3) := by decide +kernel
theorem dL_act_423 : decode cL_act 423 = .ok (.iload_n 1, 1) := by decide +kernel
theorem dL_act_424 : decode cL_act 424 = .ok (.bipush 7, 2) := by decide +kernel
theorem dL_act_426 : decode cL_act 426 = .ok (.ishr, 1) := by decide +kernel
theorem dL_act_427 : decode cL_act 427 = .ok (.iconst 3, 1) := by decide +kernel
theorem dL_act_428 : decode cL_act 428 = .ok (.invokestatic 41, 3) := by decide +kernel
theorem dL_act_431 : decode cL_act 431 = .ok (.invokestatic 104, 3) := by decide +kernel
theorem dL_act_434 : decode cL_act 434 = .ok (.ireturn, 1) := by decide +kernel
theorem dL_act_435 : decode cL_act 435 = .ok (.aload_n 0, 1) := by decide +kernel
theorem dL_act_436 : decode cL_act 436 = .ok (.invokevirtual 108, 3) := by decide +kernel
theorem dL_act_439 : decode cL_act 439 = .ok (.pop, 1) := by decide +kernel
theorem dL_act_440 : decode cL_act 440 = .ok (.goto 50, 3) := by decide +kernel
theorem dL_act_443 : decode cL_act 443 = .ok (.iload_n 1, 1) := by decide +kernel
theorem dL_act_444 : decode cL_act 444 = .ok (.iconst 5, 1) := by decide +kernel
theorem dL_act_445 : decode cL_act 445 = .ok (.ishr, 1) := by decide +kernel
theorem dL_act_446 : decode cL_act 446 = .ok (.iconst 2, 1) := by decide +kernel
theorem dL_act_447 : decode cL_act 447 = .ok (.invokestatic 41, 3) := by decide +kernel
theorem dL_act_450 : decode cL_act 450 = .ok (.ifCond .ne 26, 3) := by decide +kernel
theorem dL_act_453 : decode cL_act 453 = .ok (.aload_n 0, 1) := by decide +kernel
theorem dL_act_454 : decode cL_act 454 = .ok (.aload_n 0, 1) := by decide +kernel
theorem dL_act_455 : decode cL_act 455 = .ok (.invokevirtual 111, 3) := by decide +kernel
theorem dL_act_458 : decode cL_act 458 = .ok (.iconst 1, 1) := by decide +kernel
theorem dL_act_459 : decode cL_act 459 = .ok (.iload_n 1, 1) := by decide +kernel
theorem dL_act_460 : decode cL_act 460 = .ok (.bipush 6, 2) := by decide +kernel
theorem dL_act_462 : decode cL_act 462 = .ok (.ishr, 1) := by decide +kernel
theorem dL_act_463 : decode cL_act 463 = .ok (.iconst 3, 1) := by decide +kernel
theorem dL_act_464 : decode cL_act 464 = .ok (.invokestatic 41, 3) := by decide +kernel
theorem dL_act_467 : decode cL_act 467 = .ok (.iadd, 1) := by decide +kernel
theorem dL_act_468 : decode cL_act 468 = .ok (.iconst 0, 1) := by decide +kernel
theorem dL_act_469 : decode cL_act 469 = .ok (.invokevirtual 114, 3) := by decide +kernel
theorem dL_act_472 : decode cL_act 472 = .ok (.pop, 1) := by decide +kernel
theorem dL_act_473 : decode cL_act 473 = .ok (.goto 17, 3) := by decide +kernel
theorem dL_act_476 : decode cL_act 476 = .ok (.aload_n 0, 1) := by decide +kernel
theorem dL_act_477 : decode cL_act 477 = .ok (.iconst 0, 1) := by decide +kernel
theorem dL_act_478 : decode cL_act 478 = .ok (.iload_n 1, 1) := by decide +kernel
theorem dL_act_479 : decode cL_act 479 = .ok (.bipush 6, 2) := by decide +kernel
theorem dL_act_481 : decode cL_act 481 = .ok (.ishr, 1) := by decide +kernel
theorem dL_act_482 : decode cL_act 482 = .ok (.iconst 3, 1) := by decide +kernel
theorem dL_act_483 : decode cL_act 483 = .ok (.invokestatic 41, 3) := by decide +kernel
theorem dL_act_486 : decode cL_act 486 = .ok (.invokevirtual 118, 3) := by decide +kernel
theorem dL_act_489 : decode cL_act 489 = .ok (.pop, 1) := by decide +kernel
theorem dL_act_490 : decode cL_act 490 = .ok (.goto 37, 3) := by decide +kernel
theorem dL_act_493 : decode cL_act 493 = .ok (.astore 4, 2) := by decide +kernel
theorem dL_act_495 : decode cL_act 495 = .ok (.aload_n 0, 1) := by decide +kernel
theorem dL_act_496 : decode cL_act 496 = .ok (.iload_n 2, 1) := by decide +kernel
theorem dL_act_497 : decode cL_act 497 = .ok (.invokevirtual 37, 3) := by decide +kernel
theorem dL_act_500 : decode cL_act 500 = .ok (.iload_n 3, 1) := by decide +kernel
theorem dL_act_501 : decode cL_act 501 = .ok (.if_icmp .ne 7, 3) := by decide +kernel
theorem dL_act_504 : decode cL_act 504 = .ok (.iconst 1, 1) := by decide +kernel
theorem dL_act_505 : decode cL_act 505 = .ok (.goto 4, 3) := by decide +kernel
theorem dL_act_508 : decode cL_act 508 = .ok (.iconst 0, 1) := by decide +kernel
theorem dL_act_509 : decode cL_act 509 = .ok (.ireturn, 1) := by decide +kernel
theorem dL_act_510 : decode cL_act 510 = .ok (.astore 4, 2) := by decide +kernel
theorem dL_act_512 : decode cL_act 512 = .ok (.aload_n 0, 1) := by decide +kernel
theorem dL_act_513 : decode cL_act 513 = .ok (.iload_n 2, 1) := by decide +kernel
theorem dL_act_514 : decode cL_act 514 = .ok (.invokevirtual 37, 3) := by decide +kernel
theorem dL_act_517 : decode cL_act 517 = .ok (.iload_n 3, 1) := by decide +kernel
theorem dL_act_518 : decode cL_act 518 = .ok (.if_icmp .ne 7, 3) := by decide +kernel
theorem dL_act_521 : decode cL_act 521 = .ok (.iconst 1, 1) := by decide +kernel
theorem dL_act_522 : decode cL_act 522 = .ok (.goto 4, 3) := by decide +kernel
theorem dL_act_525 : decode cL_act 525 = .ok (.iconst 0, 1) := by decide +kernel
theorem dL_act_526 : decode cL_act 526 = .ok (.ireturn, 1) := by decide +kernel
theorem dL_act_527 : decode cL_act 527 = .ok (.iconst 1, 1) := by decide +kernel
theorem dL_act_528 : decode cL_act 528 = .ok (.ireturn, 1) := by decide +kernel
theorem dL_isTurnedBack_0 : decode cL_isTurnedBack 0 = .ok (.aload_n 0, 1) := by decide +kernel
theorem dL_isTurnedBack_1 : decode cL_isTurnedBack 1 = .ok (.iload_n 1, 1) := by decide +kernel
theorem dL_isTurnedBack_2 : decode cL_isTurnedBack 2 = .ok (.iload_n 2, 1) := by decide +kernel
theorem dL_isTurnedBack_3 : decode cL_isTurnedBack 3 = .ok (.invokevirtual 92, 3) := by decide +kernel
theorem dL_isTurnedBack_6 : decode cL_isTurnedBack 6 = .ok (.istore_n 3, 1) := by decide +kernel
theorem dL_isTurnedBack_7 : decode cL_isTurnedBack 7 = .ok (.aload_n 0, 1) := by decide +kernel
theorem dL_isTurnedBack_8 : decode cL_isTurnedBack 8 = .ok (.iload_n 2, 1) := by decide +kernel
theorem dL_isTurnedBack_9 : decode cL_isTurnedBack 9 = .ok (.invokevirtual 37, 3) := by decide +kernel
theorem dL_isTurnedBack_12 : decode cL_isTurnedBack 12 = .ok (.i2l, 1) := by decide +kernel
theorem dL_isTurnedBack_13 : decode cL_isTurnedBack 13 = .ok (.lstore 4, 2) := by decide +kernel
theorem dL_isTurnedBack_15 : decode cL_isTurnedBack 15 = .ok (.aload_n 0, 1) := by decide +kernel
theorem dL_isTurnedBack_16 : decode cL_isTurnedBack 16 = .ok (.invokevirtual 101, 3) := by decide +kernel
theorem dL_isTurnedBack_19 : decode cL_isTurnedBack 19 = .ok (.bipush 6, 2) := by decide +kernel
theorem dL_isTurnedBack_21 : decode cL_isTurnedBack 21 = .ok (.if_icmp .le 5, 3) := by decide +kernel
theorem dL_isTurnedBack_24 : decode cL_isTurnedBack 24 = .ok (.iconst 1, 1) := by decide +kernel
theorem dL_isTurnedBack_25 : decode cL_isTurnedBack 25 = .ok (.ireturn, 1) := by decide +kernel
theorem dL_isTurnedBack_26 : decode cL_isTurnedBack 26 = .ok (.aload_n 0, 1) := by decide +kernel
theorem dL_isTurnedBack_27 : decode cL_isTurnedBack 27 = .ok (.iload_n 1, 1) := by decide +kernel
theorem dL_isTurnedBack_28 : decode cL_isTurnedBack 28 = .ok (.iload_n 2, 1) := by decide +kernel
theorem dL_isTurnedBack_29 : decode cL_isTurnedBack 29 = .ok (.invokevirtual 125, 3) := by decide +kernel
theorem dL_isTurnedBack_32 : decode cL_isTurnedBack 32 = .ok (.istore 6, 2) := by decide +kernel
theorem dL_isTurnedBack_34 : decode cL_isTurnedBack 34 = .ok (.iload_n 3, 1) := by decide +kernel
theorem dL_isTurnedBack_35 : decode cL_isTurnedBack 35 = .ok (.iconst (-1), 1) := by decide +kernel
theorem dL_isTurnedBack_36 : decode cL_isTurnedBack 36 = .ok (.if_icmp .eq 27, 3) := by decide +kernel
theorem dL_isTurnedBack_39 : decode cL_isTurnedBack 39 = .ok (.iload 6, 2) := by decide +kernel
theorem dL_isTurnedBack_41 : decode cL_isTurnedBack 41 = .ok (.iconst (-1), 1) := by decide +kernel
theorem dL_isTurnedBack_42 : decode cL_isTurnedBack 42 = .ok (.if_icmp .ne 19, 3) := by decide +kernel
theorem dL_isTurnedBack_45 : decode cL_isTurnedBack 45 = .ok (.aload_n 0, 1) := by decide +kernel
theorem dL_isTurnedBack_46 : decode cL_isTurnedBack 46 = .ok (.iload_n 2, 1) := by decide +kernel
theorem dL_isTurnedBack_47 : decode cL_isTurnedBack 47 = .ok (.invokevirtual 37, 3) := by decide +kernel
theorem dL_isTurnedBack_50 : decode cL_isTurnedBack 50 = .ok (.i2l, 1) := by decide +kernel
theorem dL_isTurnedBack_51 : decode cL_isTurnedBack 51 = .ok (.lload 4, 2) := by decide +kernel
theorem dL_isTurnedBack_53 : decode cL_isTurnedBack 53 = .ok (.lcmp, 1) := by decide +kernel
theorem dL_isTurnedBack_54 : decode cL_isTurnedBack 54 = .ok (.ifCond .ne 7, 3) := by decide +kernel
theorem dL_isTurnedBack_57 : decode cL_isTurnedBack 57 = .ok (.iconst 1, 1) := by decide +kernel
theorem dL_isTurnedBack_58 : decode cL_isTurnedBack 58 = .ok (.goto 4, 3) := by decide +kernel
theorem dL_isTurnedBack_61 : decode cL_isTurnedBack 61 = .ok (.iconst 0, 1) := by decide +kernel
theorem dL_isTurnedBack_62 : decode cL_isTurnedBack 62 = .ok (.ireturn, 1) := by decide +kernel
theorem dL_isTurnedBack_63 : decode cL_isTurnedBack 63 = .ok (.iload 6, 2) := by decide +kernel
theorem dL_isTurnedBack_65 : decode cL_isTurnedBack 65 = .ok (.aload_n 0, 1) := by decide +kernel
theorem dL_isTurnedBack_66 : decode cL_isTurnedBack 66 = .ok (.invokevirtual 101, 3) := by decide +kernel
theorem dL_isTurnedBack_69 : decode cL_isTurnedBack 69 = .ok (.iconst 1, 1) := by decide +kernel
theorem dL_isTurnedBack_70 : decode cL_isTurnedBack 70 = .ok (.isub, 1) := by decide +kernel
theorem dL_isTurnedBack_71 : decode cL_isTurnedBack 71 = .ok (.if_icmp .ne 28, 3) := by decide +kernel
theorem dL_isTurnedBack_74 : decode cL_isTurnedBack 74 = .ok (.aload_n 0, 1) := by decide +kernel
theorem dL_isTurnedBack_75 : decode cL_isTurnedBack 75 = .ok (.iload 6, 2) := by decide +kernel
theorem dL_isTurnedBack_77 : decode cL_isTurnedBack 77 = .ok (.invokevirtual 95, 3) := by decide +kernel
theorem dL_isTurnedBack_80 : decode cL_isTurnedBack 80 = .ok (.aload_n 0, 1) := by decide +kernel
theorem dL_isTurnedBack_81 : decode cL_isTurnedBack 81 = .ok (.iload_n 1, 1) := by decide +kernel
theorem dL_isTurnedBack_82 : decode cL_isTurnedBack 82 = .ok (.invokevirtual 95, 3) := by decide +kernel
theorem dL_isTurnedBack_85 : decode cL_isTurnedBack 85 = .ok (.if_icmp .ne 14, 3) := by decide +kernel
theorem dL_isTurnedBack_88 : decode cL_isTurnedBack 88 = .ok (.aload_n 0, 1) := by decide +kernel
theorem dL_isTurnedBack_89 : decode cL_isTurnedBack 89 = .ok (.iload 6, 2) := by decide +kernel
theorem dL_isTurnedBack_91 : decode cL_isTurnedBack 91 = .ok (.iload_n 2, 1) := by decide +kernel
theorem dL_isTurnedBack_92 : decode cL_isTurnedBack 92 = .ok (.invokevirtual 92, 3) := by decide +kernel
theorem dL_isTurnedBack_95 : decode cL_isTurnedBack 95 = .ok (.iconst (-1), 1) := by decide +kernel
theorem dL_isTurnedBack_96 : decode cL_isTurnedBack 96 = .ok (.if_icmp .eq 5, 3) := by decide +kernel
theorem dL_isTurnedBack_99 : decode cL_isTurnedBack 99 = .ok (.iconst 0, 1) := by decide +kernel
theorem dL_isTurnedBack_100 : decode cL_isTurnedBack 100 = .ok (.ireturn, 1) := by decide +kernel
theorem dL_isTurnedBack_101 : decode cL_isTurnedBack 101 = .ok (.aload_n 0, 1) := by decide +kernel
theorem dL_isTurnedBack_102 : decode cL_isTurnedBack 102 = .ok (.iload 6, 2) := by decide +kernel
theorem dL_isTurnedBack_104 : decode cL_isTurnedBack 104 = .ok (.iload_n 2, 1) := by decide +kernel
theorem dL_isTurnedBack_105 : decode cL_isTurnedBack 105 = .ok (.invokevirtual 125, 3) := by decide +kernel
theorem dL_isTurnedBack_108 : decode cL_isTurnedBack 108 = .ok (.istore 7, 2) := by decide +kernel
theorem dL_isTurnedBack_110 : decode cL_isTurnedBack 110 = .ok (.aload_n 0, 1) := by decide +kernel
theorem dL_isTurnedBack_111 : decode cL_isTurnedBack 111 = .ok (.iload_n 2, 1) := by decide +kernel
theorem dL_isTurnedBack_112 : decode cL_isTurnedBack 112 = .ok (.invokevirtual 37, 3) := by decide +kernel
theorem dL_isTurnedBack_115 : decode cL_isTurnedBack 115 = .ok (.i2l, 1) := by decide +kernel
theorem dL_isTurnedBack_116 : decode cL_isTurnedBack 116 = .ok (.lload 4, 2) := by decide +kernel
theorem dL_isTurnedBack_118 : decode cL_isTurnedBack 118 = .ok (.lcmp, 1) := by decide +kernel
theorem dL_isTurnedBack_119 : decode cL_isTurnedBack 119 = .ok (.ifCond .ne 17, 3) := by decide +kernel
theorem dL_isTurnedBack_122 : decode cL_isTurnedBack 122 = .ok (.aload_n 0, 1) := by decide +kernel
theorem dL_isTurnedBack_123 : decode cL_isTurnedBack 123 = .ok (.iload_n 1, 1) := by decide +kernel
theorem dL_isTurnedBack_124 : decode cL_isTurnedBack 124 = .ok (.iload_n 2, 1) := by decide +kernel
theorem dL_isTurnedBack_125 : decode cL_isTurnedBack 125 = .ok (.invokevirtual 92, 3) := by decide +kernel
theorem dL_isTurnedBack_128 : decode cL_isTurnedBack 128 = .ok (.iconst (-1), 1) := by decide +kernel
theorem dL_isTurnedBack_129 : decode cL_isTurnedBack 129 = .ok (.if_icmp .ne 7, 3) := by decide +kernel
theorem dL_isTurnedBack_132 : decode cL_isTurnedBack 132 = .ok (.iconst 1, 1) := by decide +kernel
theorem dL_isTurnedBack_133 : decode cL_isTurnedBack 133 = .ok (.goto 4, 3) := by decide +kernel
theorem dL_isTurnedBack_136 : decode cL_isTurnedBack 136 = .ok (.iconst 0, 1) := by decide +kernel
theorem dL_isTurnedBack_137 : decode cL_isTurnedBack 137 = .ok (.istore 8, 2) := by decide +kernel
theorem dL_isTurnedBack_139 : decode cL_isTurnedBack 139 = .ok (.aload_n 0, 1) := by decide +kernel
theorem dL_isTurnedBack_140 : decode cL_isTurnedBack 140 = .ok (.invokevirtual 108, 3) := by decide +kernel
theorem dL_isTurnedBack_143 : decode cL_isTurnedBack 143 = .ok (.pop, 1) := by decide +kernel
theorem dL_isTurnedBack_144 : decode cL_isTurnedBack 144 = .ok (.aload_n 0, 1) := by decide +kernel
theorem dL_isTurnedBack_145 : decode cL_isTurnedBack 145 = .ok (.invokevirtual 108, 3) := by decide +kernel
theorem dL_isTurnedBack_148 : decode cL_isTurnedBack 148 = .ok (.pop, 1) := by decide +kernel
theorem dL_isTurnedBack_149 : decode cL_isTurnedBack 149 = .ok (.iload 8, 2) := by decide +kernel
theorem dL_isTurnedBack_151 : decode cL_isTurnedBack 151 = .ok (.ifCond .eq 16, 3) := by decide +kernel
theorem dL_isTurnedBack_154 : decode cL_isTurnedBack 154 = .ok (.iload 7, 2) := by decide +kernel
theorem dL_isTurnedBack_156 : decode cL_isTurnedBack 156 = .ok (.iload 6, 2) := by decide +kernel
theorem dL_isTurnedBack_158 : decode cL_isTurnedBack 158 = .ok (.iconst 1, 1) := by decide +kernel
theorem dL_isTurnedBack_159 : decode cL_isTurnedBack 159 = .ok (.iadd, 1) := by decide +kernel
theorem dL_isTurnedBack_160 : decode cL_isTurnedBack 160 = .ok (.if_icmp .ne 7, 3) := by decide +kernel
theorem dL_isTurnedBack_163 : decode cL_isTurnedBack 163 = .ok (.iconst 1, 1) := by decide +kernel
theorem dL_isTurnedBack_164 : decode cL_isTurnedBack 164 = .ok (.goto 4, 3) := by decide +kernel
theorem dL_isTurnedBack_167 : decode cL_isTurnedBack 167 = .ok (.iconst 0, 1) := by decide +kernel
theorem dL_isTurnedBack_168 : decode cL_isTurnedBack 168 = .ok (.ireturn, 1) := by decide +kernel
theorem dL_areDocumentsRight_0 : decode cL_areDocumentsRight 0 = .ok (.iconst 0, 1) := by decide +kernel
theorem dL_areDocumentsRight_1 : decode cL_areDocumentsRight 1 = .ok (.istore_n 1, 1) := by decide +kernel
theorem dL_areDocumentsRight_2 : decode cL_areDocumentsRight 2 = .ok (.iload_n 1, 1) := by decide +kernel
theorem dL_areDocumentsRight_3 : decode cL_areDocumentsRight 3 = .ok (.bipush 6, 2) := by decide +kernel
theorem dL_areDocumentsRight_5 : decode cL_areDocumentsRight 5 = .ok (.if_icmp .ge 145, 3) := by decide +kernel
theorem dL_areDocumentsRight_8 : decode cL_areDocumentsRight 8 = .ok (.aload_n 0, 1) := by decide +kernel
theorem dL_areDocumentsRight_9 : decode cL_areDocumentsRight 9 = .ok (.iload_n 1, 1) := by decide +kernel
theorem dL_areDocumentsRight_10 : decode cL_areDocumentsRight 10 = .ok (.invokevirtual 37, 3) := by decide +kernel
theorem dL_areDocumentsRight_13 : decode cL_areDocumentsRight 13 = .ok (.iconst 1, 1) := by decide +kernel
theorem dL_areDocumentsRight_14 : decode cL_areDocumentsRight 14 = .ok (.if_icmp .lt 45, 3) := by decide +kernel
theorem dL_areDocumentsRight_17 : decode cL_areDocumentsRight 17 = .ok (.aload_n 0, 1) := by decide +kernel
theorem dL_areDocumentsRight_18 : decode cL_areDocumentsRight 18 = .ok (.iload_n 1, 1) := by decide +kernel
theorem dL_areDocumentsRight_19 : decode cL_areDocumentsRight 19 = .ok (.invokevirtual 37, 3) := by decide +kernel
theorem dL_areDocumentsRight_22 : decode cL_areDocumentsRight 22 = .ok (.bipush 50, 2) := by decide +kernel
theorem dL_areDocumentsRight_24 : decode cL_areDocumentsRight 24 = .ok (.if_icmp .gt 35, 3) := by decide +kernel
theorem dL_areDocumentsRight_27 : decode cL_areDocumentsRight 27 = .ok (.aload_n 0, 1) := by decide +kernel
theorem dL_areDocumentsRight_28 : decode cL_areDocumentsRight 28 = .ok (.iload_n 1, 1) := by decide +kernel
theorem dL_areDocumentsRight_29 : decode cL_areDocumentsRight 29 = .ok (.invokevirtual 128, 3) := by decide +kernel
theorem dL_areDocumentsRight_32 : decode cL_areDocumentsRight 32 = .ok (.iconst 1, 1) := by decide +kernel
theorem dL_areDocumentsRight_33 : decode cL_areDocumentsRight 33 = .ok (.if_icmp .lt 26, 3) := by decide +kernel
theorem dL_areDocumentsRight_36 : decode cL_areDocumentsRight 36 = .ok (.aload_n 0, 1) := by decide +kernel
theorem dL_areDocumentsRight_37 : decode cL_areDocumentsRight 37 = .ok (.iload_n 1, 1) := by decide +kernel
theorem dL_areDocumentsRight_38 : decode cL_areDocumentsRight 38 = .ok (.invokevirtual 128, 3) := by decide +kernel
theorem dL_areDocumentsRight_41 : decode cL_areDocumentsRight 41 = .ok (.bipush 7, 2) := by decide +kernel
theorem dL_areDocumentsRight_43 : decode cL_areDocumentsRight 43 = .ok (.if_icmp .gt 16, 3) := by decide +kernel
theorem dL_areDocumentsRight_46 : decode cL_areDocumentsRight 46 = .ok (.aload_n 0, 1) := by decide +kernel
theorem dL_areDocumentsRight_47 : decode cL_areDocumentsRight 47 = .ok (.iload_n 1, 1) := by decide +kernel
theorem dL_areDocumentsRight_48 : decode cL_areDocumentsRight 48 = .ok (.invokevirtual 128, 3) := by decide +kernel
theorem dL_areDocumentsRight_51 : decode cL_areDocumentsRight 51 = .ok (.aload_n 0, 1) := by decide +kernel
theorem dL_areDocumentsRight_52 : decode cL_areDocumentsRight 52 = .ok (.iload_n 1, 1) := by decide +kernel
theorem dL_areDocumentsRight_53 : decode cL_areDocumentsRight 53 = .ok (.invokevirtual 37, 3) := by decide +kernel
theorem dL_areDocumentsRight_56 : decode cL_areDocumentsRight 56 = .ok (.if_icmp .le 5, 3) := by decide +kernel
theorem dL_areDocumentsRight_59 : decode cL_areDocumentsRight 59 = .ok (.iconst 0, 1) := by decide +kernel
theorem dL_areDocumentsRight_60 : decode cL_areDocumentsRight 60 = .ok (.ireturn, 1) := by decide +kernel
theorem dL_areDocumentsRight_61 : decode cL_areDocumentsRight 61 = .ok (.iconst 0, 1) := by decide +kernel
theorem dL_areDocumentsRight_62 : decode cL_areDocumentsRight 62 = .ok (.istore_n 2, 1) := by decide +kernel
theorem dL_areDocumentsRight_63 : decode cL_areDocumentsRight 63 = .ok (.iload_n 2, 1) := by decide +kernel
theorem dL_areDocumentsRight_64 : decode cL_areDocumentsRight 64 = .ok (.bipush 6, 2) := by decide +kernel
theorem dL_areDocumentsRight_66 : decode cL_areDocumentsRight 66 = .ok (.if_icmp .ge 78, 3) := by decide +kernel
theorem dL_areDocumentsRight_69 : decode cL_areDocumentsRight 69 = .ok (.aload_n 0, 1) := by decide +kernel
theorem dL_areDocumentsRight_70 : decode cL_areDocumentsRight 70 = .ok (.iload_n 1, 1) := by decide +kernel
theorem dL_areDocumentsRight_71 : decode cL_areDocumentsRight 71 = .ok (.iload_n 2, 1) := by decide +kernel
theorem dL_areDocumentsRight_72 : decode cL_areDocumentsRight 72 = .ok (.invokevirtual 131, 3) := by decide +kernel
theorem dL_areDocumentsRight_75 : decode cL_areDocumentsRight 75 = .ok (.istore_n 3, 1) := by decide +kernel
theorem dL_areDocumentsRight_76 : decode cL_areDocumentsRight 76 = .ok (.iload_n 3, 1) := by decide +kernel
theorem dL_areDocumentsRight_77 : decode cL_areDocumentsRight 77 = .ok (.aload_n 0, 1) := by decide +kernel
theorem dL_areDocumentsRight_78 : decode cL_areDocumentsRight 78 = .ok (.iload_n 2, 1) := by decide +kernel
theorem dL_areDocumentsRight_79 : decode cL_areDocumentsRight 79 = .ok (.iload_n 1, 1) := by decide +kernel
theorem dL_areDocumentsRight_80 : decode cL_areDocumentsRight 80 = .ok (.invokevirtual 131, 3) := by decide +kernel
theorem dL_areDocumentsRight_83 : decode cL_areDocumentsRight 83 = .ok (.if_icmp .ne 53, 3) := by decide +kernel
theorem dL_areDocumentsRight_86 : decode cL_areDocumentsRight 86 = .ok (.iload_n 3, 1) := by decide +kernel
theorem dL_areDocumentsRight_87 : decode cL_areDocumentsRight 87 = .ok (.aload_n 0, 1) := by decide +kernel
theorem dL_areDocumentsRight_88 : decode cL_areDocumentsRight 88 = .ok (.iload_n 1, 1) := by decide +kernel
theorem dL_areDocumentsRight_89 : decode cL_areDocumentsRight 89 = .ok (.invokevirtual 37, 3) := by decide +kernel
theorem dL_areDocumentsRight_92 : decode cL_areDocumentsRight 92 = .ok (.aload_n 0, 1) := by decide +kernel
theorem dL_areDocumentsRight_93 : decode cL_areDocumentsRight 93 = .ok (.iload_n 2, 1) := by decide +kernel
theorem dL_areDocumentsRight_94 : decode cL_areDocumentsRight 94 = .ok (.invokevirtual 37, 3) := by decide +kernel
theorem dL_areDocumentsRight_97 : decode cL_areDocumentsRight 97 = .ok (.iadd, 1) := by decide +kernel
theorem dL_areDocumentsRight_98 : decode cL_areDocumentsRight 98 = .ok (.if_icmp .gt 38, 3) := by decide +kernel
theorem dL_areDocumentsRight_101 : decode cL_areDocumentsRight 101 = .ok (.iload_n 1, 1) := by decide +kernel
theorem dL_areDocumentsRight_102 : decode cL_areDocumentsRight 102 = .ok (.iload_n 2, 1) := by decide +kernel
theorem dL_areDocumentsRight_103 : decode cL_areDocumentsRight 103 = .ok (.if_icmp .ne 7, 3) := by decide +kernel
theorem dL_areDocumentsRight_106 : decode cL_areDocumentsRight 106 = .ok (.iload_n 3, 1) := by decide +kernel
theorem dL_areDocumentsRight_107 : decode cL_areDocumentsRight 107 = .ok (.ifCond .ne 29, 3) := by decide +kernel
theorem dL_areDocumentsRight_110 : decode cL_areDocumentsRight 110 = .ok (.iload_n 3, 1) := by decide +kernel
theorem dL_areDocumentsRight_111 : decode cL_areDocumentsRight 111 = .ok (.ifCond .ne 7, 3) := by decide +kernel
theorem dL_areDocumentsRight_114 : decode cL_areDocumentsRight 114 = .ok (.iconst 1, 1) := by decide +kernel
theorem dL_areDocumentsRight_115 : decode cL_areDocumentsRight 115 = .ok (.goto 4, 3) := by decide +kernel
theorem dL_areDocumentsRight_118 : decode cL_areDocumentsRight 118 = .ok (.iconst 0, 1) := by decide +kernel
theorem dL_areDocumentsRight_119 : decode cL_areDocumentsRight 119 = .ok (.aload_n 0, 1) := by decide +kernel
theorem dL_areDocumentsRight_120 : decode cL_areDocumentsRight 120 = .ok (.iload_n 1, 1) := by decide +kernel
theorem dL_areDocumentsRight_121 : decode cL_areDocumentsRight 121 = .ok (.iload_n 2, 1) := by decide +kernel
theorem dL_areDocumentsRight_122 : decode cL_areDocumentsRight 122 = .ok (.invokevirtual 98, 3) := by decide +kernel
theorem dL_areDocumentsRight_125 : decode cL_areDocumentsRight 125 = .ok (.ifCond .ne 7, 3) := by decide +kernel
theorem dL_areDocumentsRight_128 : decode cL_areDocumentsRight 128 = .ok (.iconst 1, 1) := by decide +kernel
theorem dL_areDocumentsRight_129 : decode cL_areDocumentsRight 129 = .ok (.goto 4, 3) := by decide +kernel
theorem dL_areDocumentsRight_132 : decode cL_areDocumentsRight 132 = .ok (.iconst 0, 1) := by decide +kernel
theorem dL_areDocumentsRight_133 : decode cL_areDocumentsRight 133 = .ok (.if_icmp .eq 5, 3) := by decide +kernel
theorem dL_areDocumentsRight_136 : decode cL_areDocumentsRight 136 = .ok (.iconst 0, 1) := by decide +kernel
theorem dL_areDocumentsRight_137 : decode cL_areDocumentsRight 137 = .ok (.ireturn, 1) := by decide +kernel
theorem dL_areDocumentsRight_138 : decode cL_areDocumentsRight 138 = .ok (.iinc 2 1, 3) := by decide +kernel
theorem dL_areDocumentsRight_141 : decode cL_areDocumentsRight 141 = .ok (.goto (-78), 3) := by decide +kernel
theorem dL_areDocumentsRight_144 : decode cL_areDocumentsRight 144 = .ok (.iinc 1 1, 3) := by decide +kernel
theorem dL_areDocumentsRight_147 : decode cL_areDocumentsRight 147 = .ok (.goto (-145), 3) := by decide +kernel
theorem dL_areDocumentsRight_150 : decode cL_areDocumentsRight 150 = .ok (.aload_n 0, 1) := by decide +kernel
theorem dL_areDocumentsRight_151 : decode cL_areDocumentsRight 151 = .ok (.invokevirtual 59, 3) := by decide +kernel
theorem dL_areDocumentsRight_154 : decode cL_areDocumentsRight 154 = .ok (.aload_n 0, 1) := by decide +kernel
theorem dL_areDocumentsRight_155 : decode cL_areDocumentsRight 155 = .ok (.aload_n 0, 1) := by decide +kernel
theorem dL_areDocumentsRight_156 : decode cL_areDocumentsRight 156 = .ok (.invokevirtual 33, 3) := by decide +kernel
theorem dL_areDocumentsRight_159 : decode cL_areDocumentsRight 159 = .ok (.invokevirtual 128, 3) := by decide +kernel
theorem dL_areDocumentsRight_162 : decode cL_areDocumentsRight 162 = .ok (.if_icmp .ge 16, 3) := by decide +kernel
theorem dL_areDocumentsRight_165 : decode cL_areDocumentsRight 165 = .ok (.aload_n 0, 1) := by decide +kernel
theorem dL_areDocumentsRight_166 : decode cL_areDocumentsRight 166 = .ok (.invokevirtual 83, 3) := by decide +kernel
theorem dL_areDocumentsRight_169 : decode cL_areDocumentsRight 169 = .ok (.bipush 50, 2) := by decide +kernel
theorem dL_areDocumentsRight_171 : decode cL_areDocumentsRight 171 = .ok (.if_icmp .gt 7, 3) := by decide +kernel
theorem dL_areDocumentsRight_174 : decode cL_areDocumentsRight 174 = .ok (.iconst 1, 1) := by decide +kernel
theorem dL_areDocumentsRight_175 : decode cL_areDocumentsRight 175 = .ok (.goto 4, 3) := by decide +kernel
theorem dL_areDocumentsRight_178 : decode cL_areDocumentsRight 178 = .ok (.iconst 0, 1) := by decide +kernel
theorem dL_areDocumentsRight_179 : decode cL_areDocumentsRight 179 = .ok (.ireturn, 1) := by decide +kernel
theorem dL_areFewRight_0 : decode cL_areFewRight 0 = .ok (.aload_n 0, 1) := by decide +kernel
theorem dL_areFewRight_1 : decode cL_areFewRight 1 = .ok (.invokevirtual 101, 3) := by decide +kernel
theorem dL_areFewRight_4 : decode cL_areFewRight 4 = .ok (.bipush 8, 2) := by decide +kernel
theorem dL_areFewRight_6 : decode cL_areFewRight 6 = .ok (.if_icmp .gt 18, 3) := by decide +kernel
theorem dL_areFewRight_9 : decode cL_areFewRight 9 = .ok (.aload_n 0, 1) := by decide +kernel
theorem dL_areFewRight_10 : decode cL_areFewRight 10 = .ok (.invokevirtual 48, 3) := by decide +kernel
theorem dL_areFewRight_13 : decode cL_areFewRight 13 = .ok (.ifCond .le 13, 3) := by decide +kernel
theorem dL_areFewRight_16 : decode cL_areFewRight 16 = .ok (.aload_n 0, 1) := by decide +kernel
theorem dL_areFewRight_17 : decode cL_areFewRight 17 = .ok (.invokevirtual 65, 3) := by decide +kernel
theorem dL_areFewRight_20 : decode cL_areFewRight 20 = .ok (.iconst 3, 1) := by decide +kernel
theorem dL_areFewRight_21 : decode cL_areFewRight 21 = .ok (.if_icmp .ge 5, 3) := by decide +kernel
theorem dL_areFewRight_24 : decode cL_areFewRight 24 = .ok (.iconst 0, 1) := by decide +kernel
theorem dL_areFewRight_25 : decode cL_areFewRight 25 = .ok (.ireturn, 1) := by decide +kernel
theorem dL_areFewRight_26 : decode cL_areFewRight 26 = .ok (.iconst 1, 1) := by decide +kernel
theorem dL_areFewRight_27 : decode cL_areFewRight 27 = .ok (.istore_n 1, 1) := by decide +kernel
theorem dL_areFewRight_28 : decode cL_areFewRight 28 = .ok (.iload_n 1, 1) := by decide +kernel
theorem dL_areFewRight_29 : decode cL_areFewRight 29 = .ok (.aload_n 0, 1) := by decide +kernel
theorem dL_areFewRight_30 : decode cL_areFewRight 30 = .ok (.invokevirtual 48, 3) := by decide +kernel
theorem dL_areFewRight_33 : decode cL_areFewRight 33 = .ok (.if_icmp .ge 26, 3) := by decide +kernel
theorem dL_areFewRight_36 : decode cL_areFewRight 36 = .ok (.aload_n 0, 1) := by decide +kernel
theorem dL_areFewRight_37 : decode cL_areFewRight 37 = .ok (.iload_n 1, 1) := by decide +kernel
theorem dL_areFewRight_38 : decode cL_areFewRight 38 = .ok (.invokevirtual 56, 3) := by decide +kernel
theorem dL_areFewRight_41 : decode cL_areFewRight 41 = .ok (.aload_n 0, 1) := by decide +kernel
theorem dL_areFewRight_42 : decode cL_areFewRight 42 = .ok (.iload_n 1, 1) := by decide +kernel
theorem dL_areFewRight_43 : decode cL_areFewRight 43 = .ok (.iconst 1, 1) := by decide +kernel
theorem dL_areFewRight_44 : decode cL_areFewRight 44 = .ok (.isub, 1) := by decide +kernel
theorem dL_areFewRight_45 : decode cL_areFewRight 45 = .ok (.invokevirtual 56, 3) := by decide +kernel
theorem dL_areFewRight_48 : decode cL_areFewRight 48 = .ok (.if_icmp .gt 5, 3) := by decide +kernel
theorem dL_areFewRight_51 : decode cL_areFewRight 51 = .ok (.iconst 0, 1) := by decide +kernel
theorem dL_areFewRight_52 : decode cL_areFewRight 52 = .ok (.ireturn, 1) := by decide +kernel
theorem dL_areFewRight_53 : decode cL_areFewRight 53 = .ok (.iinc 1 1, 3) := by decide +kernel
theorem dL_areFewRight_56 : decode cL_areFewRight 56 = .ok (.goto (-28), 3) := by decide +kernel
theorem dL_areFewRight_59 : decode cL_areFewRight 59 = .ok (.aload_n 0, 1) := by decide +kernel
theorem dL_areFewRight_60 : decode cL_areFewRight 60 = .ok (.invokevirtual 134, 3) := by decide +kernel
theorem dL_areFewRight_63 : decode cL_areFewRight 63 = .ok (.sipush (-10000), 3) := by decide +kernel
theorem dL_areFewRight_66 : decode cL_areFewRight 66 = .ok (.if_icmp .ne 7, 3) := by decide +kernel
theorem dL_areFewRight_69 : decode cL_areFewRight 69 = .ok (.iconst 1, 1) := by decide +kernel
theorem dL_areFewRight_70 : decode cL_areFewRight 70 = .ok (.goto 4, 3) := by decide +kernel
theorem dL_areFewRight_73 : decode cL_areFewRight 73 = .ok (.iconst 0, 1) := by decide +kernel
theorem dL_areFewRight_74 : decode cL_areFewRight 74 = .ok (.aload_n 0, 1) := by decide +kernel
theorem dL_areFewRight_75 : decode cL_areFewRight 75 = .ok (.invokevirtual 65, 3) := by decide +kernel
theorem dL_areFewRight_78 : decode cL_areFewRight 78 = .ok (.iconst 1, 1) := by decide +kernel
theorem dL_areFewRight_79 : decode cL_areFewRight 79 = .ok (.if_icmp .eq 15, 3) := by decide +kernel
theorem dL_areFewRight_82 : decode cL_areFewRight 82 = .ok (.aload_n 0, 1) := by decide +kernel
theorem dL_areFewRight_83 : decode cL_areFewRight 83 = .ok (.invokevirtual 65, 3) := by decide +kernel
theorem dL_areFewRight_86 : decode cL_areFewRight 86 = .ok (.iconst 2, 1) := by decide +kernel
theorem dL_areFewRight_87 : decode cL_areFewRight 87 = .ok (.if_icmp .eq 7, 3) := by decide +kernel
theorem dL_areFewRight_90 : decode cL_areFewRight 90 = .ok (.iconst 1, 1) := by decide +kernel
theorem dL_areFewRight_91 : decode cL_areFewRight 91 = .ok (.goto 4, 3) := by decide +kernel
theorem dL_areFewRight_94 : decode cL_areFewRight 94 = .ok (.iconst 0, 1) := by decide +kernel
theorem dL_areFewRight_95 : decode cL_areFewRight 95 = .ok (.if_icmp .ne 7, 3) := by decide +kernel
theorem dL_areFewRight_98 : decode cL_areFewRight 98 = .ok (.iconst 1, 1) := by decide +kernel
theorem dL_areFewRight_99 : decode cL_areFewRight 99 = .ok (.goto 4, 3) := by decide +kernel
theorem dL_areFewRight_102 : decode cL_areFewRight 102 = .ok (.iconst 0, 1) := by decide +kernel
theorem dL_areFewRight_103 : decode cL_areFewRight 103 = .ok (.ireturn, 1) := by decide +kernel
