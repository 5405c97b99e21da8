theorem dX0_init_0 : decode cX0_init 0 = .ok (.aload_n 0, 1) := by decide +kernel
theorem dX0_init_1 : decode cX0_init 1 = .ok (.invokespecial 3, 3) := by decide +kernel
theorem dX0_init_4 : decode cX0_init 4 = .ok (.aload_n 0, 1) := by decide +kernel
theorem dX0_init_5 : decode cX0_init 5 = .ok (.bipush 50, 2) := by decide +kernel
theorem dX0_init_7 : decode cX0_init 7 = .ok (.newarray .int, 2) := by decide +kernel
theorem dX0_init_9 : decode cX0_init 9 = .ok (.putfield 9, 3) := by decide +kernel
theorem dX0_init_12 : decode cX0_init 12 = .ok (.aload_n 0, 1) := by decide +kernel
theorem dX0_init_13 : decode cX0_init 13 = .ok (.aload_n 1, 1) := by decide +kernel
theorem dX0_init_14 : decode cX0_init 14 = .ok (.putfield 15, 3) := by decide +kernel
theorem dX0_init_17 : decode cX0_init 17 = .ok (.aload_n 0, 1) := by decide +kernel
theorem dX0_init_18 : decode cX0_init 18 = .ok (.aload_n 2, 1) := by decide +kernel
theorem dX0_init_19 : decode cX0_init 19 = .ok (.putfield 19, 3) := by decide +kernel
theorem dX0_init_22 : decode cX0_init 22 = .ok (.return_, 1) := by decide +kernel
theorem dX0_countFailures_0 : decode cX0_countFailures 0 = .ok (.aload_n 0, 1) := by decide +kernel
theorem dX0_countFailures_1 : decode cX0_countFailures 1 = .ok (.iload_n 2, 1) := by decide +kernel
theorem dX0_countFailures_2 : decode cX0_countFailures 2 = .ok (.putfield 23, 3) := by decide +kernel
theorem dX0_countFailures_5 : decode cX0_countFailures 5 = .ok (.aload_n 0, 1) := by decide +kernel
theorem dX0_countFailures_6 : decode cX0_countFailures 6 = .ok (.iconst 0, 1) := by decide +kernel
theorem dX0_countFailures_7 : decode cX0_countFailures 7 = .ok (.putfield 27, 3) := by decide +kernel
theorem dX0_countFailures_10 : decode cX0_countFailures 10 = .ok (.iconst 0, 1) := by decide +kernel
theorem dX0_countFailures_11 : decode cX0_countFailures 11 = .ok (.istore_n 3, 1) := by decide +kernel
theorem dX0_countFailures_12 : decode cX0_countFailures 12 = .ok (.iload_n 3, 1) := by decide +kernel
theorem dX0_countFailures_13 : decode cX0_countFailures 13 = .ok (.aload_n 0, 1) := by decide +kernel
theorem dX0_countFailures_14 : decode cX0_countFailures 14 = .ok (.getfield 15, 3) := by decide +kernel
theorem dX0_countFailures_17 : decode cX0_countFailures 17 = .ok (.getfield 30, 3) := by decide +kernel
theorem dX0_countFailures_20 : decode cX0_countFailures 20 = .ok (.if_icmp .ge 131, 3) := by decide +kernel
theorem dX0_countFailures_23 : decode cX0_countFailures 23 = .ok (.iload_n 3, 1) := by decide +kernel
theorem dX0_countFailures_24 : decode cX0_countFailures 24 = .ok (.aload_n 0, 1) := by decide +kernel
theorem dX0_countFailures_25 : decode cX0_countFailures 25 = .ok (.getfield 9, 3) := by decide +kernel
theorem dX0_countFailures_28 : decode cX0_countFailures 28 = .ok (.arraylength, 1) := by decide +kernel
theorem dX0_countFailures_29 : decode cX0_countFailures 29 = .ok (.if_icmp .ge 122, 3) := by decide +kernel
theorem dX0_countFailures_32 : decode cX0_countFailures 32 = .ok (.aload_n 0, 1) := by decide +kernel
theorem dX0_countFailures_33 : decode cX0_countFailures 33 = .ok (.getfield 15, 3) := by decide +kernel
theorem dX0_countFailures_36 : decode cX0_countFailures 36 = .ok (.iload_n 3, 1) := by decide +kernel
theorem dX0_countFailures_37 : decode cX0_countFailures 37 = .ok (.invokevirtual 33, 3) := by decide +kernel
theorem dX0_countFailures_40 : decode cX0_countFailures 40 = .ok (.astore 4, 2) := by decide +kernel
theorem dX0_countFailures_42 : decode cX0_countFailures 42 = .ok (.aload_n 0, 1) := by decide +kernel
theorem dX0_countFailures_43 : decode cX0_countFailures 43 = .ok (.getfield 9, 3) := by decide +kernel
theorem dX0_countFailures_46 : decode cX0_countFailures 46 = .ok (.iload_n 3, 1) := by decide +kernel
theorem dX0_countFailures_47 : decode cX0_countFailures 47 = .ok (.iload_n 3, 1) := by decide +kernel
theorem dX0_countFailures_48 : decode cX0_countFailures 48 = .ok (.ifCond .ne 7, 3) := by decide +kernel
theorem dX0_countFailures_51 : decode cX0_countFailures 51 = .ok (.iload_n 1, 1) := by decide +kernel
theorem dX0_countFailures_52 : decode cX0_countFailures 52 = .ok (.goto 16, 3) := by decide +kernel
theorem dX0_countFailures_55 : decode cX0_countFailures 55 = .ok (.aload_n 0, 1) := by decide +kernel
theorem dX0_countFailures_56 : decode cX0_countFailures 56 = .ok (.aload_n 0, 1) := by decide +kernel
theorem dX0_countFailures_57 : decode cX0_countFailures 57 = .ok (.getfield 15, 3) := by decide +kernel
theorem dX0_countFailures_60 : decode cX0_countFailures 60 = .ok (.iload_n 3, 1) := by decide +kernel
theorem dX0_countFailures_61 : decode cX0_countFailures 61 = .ok (.invokevirtual 37, 3) := by decide +kernel
theorem dX0_countFailures_64 : decode cX0_countFailures 64 = .ok (.iload_n 3, 1) := by decide +kernel
theorem dX0_countFailures_65 : decode cX0_countFailures 65 = .ok (.invokevirtual 41, 3) := by decide +kernel
theorem dX0_countFailures_68 : decode cX0_countFailures 68 = .ok (.iastore, 1) := by decide +kernel
theorem dX0_countFailures_69 : decode cX0_countFailures 69 = .ok (.aload_n 0, 1) := by decide +kernel
theorem dX0_countFailures_70 : decode cX0_countFailures 70 = .ok (.getfield 9, 3) := by decide +kernel
theorem dX0_countFailures_73 : decode cX0_countFailures 73 = .ok (.iload_n 3, 1) := by decide +kernel
theorem dX0_countFailures_74 : decode cX0_countFailures 74 = .ok (.iaload, 1) := by decide +kernel
theorem dX0_countFailures_75 : decode cX0_countFailures 75 = .ok (.bipush (-2), 2) := by decide +kernel
theorem dX0_countFailures_77 : decode cX0_countFailures 77 = .ok (.if_icmp .ne 12, 3) := by decide +kernel
theorem dX0_countFailures_80 : decode cX0_countFailures 80 = .ok (.aload_n 0, 1) := by decide +kernel
theorem dX0_countFailures_81 : decode cX0_countFailures 81 = .ok (.iload_n 3, 1) := by decide +kernel
theorem dX0_countFailures_82 : decode cX0_countFailures 82 = .ok (.iconst 5, 1) := by decide +kernel
theorem dX0_countFailures_83 : decode cX0_countFailures 83 = .ok (.invokevirtual 45, 3) := by decide +kernel
theorem dX0_countFailures_86 : decode cX0_countFailures 86 = .ok (.goto 59, 3) := by decide +kernel
theorem dX0_countFailures_89 : decode cX0_countFailures 89 = .ok (.aload_n 0, 1) := by decide +kernel
theorem dX0_countFailures_90 : decode cX0_countFailures 90 = .ok (.getfield 9, 3) := by decide +kernel
theorem dX0_countFailures_93 : decode cX0_countFailures 93 = .ok (.iload_n 3, 1) := by decide +kernel
theorem dX0_countFailures_94 : decode cX0_countFailures 94 = .ok (.iaload, 1) := by decide +kernel
theorem dX0_countFailures_95 : decode cX0_countFailures 95 = .ok (.ifCond .lt 50, 3) := by decide +kernel
theorem dX0_countFailures_98 : decode cX0_countFailures 98 = .ok (.aload_n 0, 1) := by decide +kernel
theorem dX0_countFailures_99 : decode cX0_countFailures 99 = .ok (.getfield 9, 3) := by decide +kernel
theorem dX0_countFailures_102 : decode cX0_countFailures 102 = .ok (.iload_n 3, 1) := by decide +kernel
theorem dX0_countFailures_103 : decode cX0_countFailures 103 = .ok (.iaload, 1) := by decide +kernel
theorem dX0_countFailures_104 : decode cX0_countFailures 104 = .ok (.aload_n 0, 1) := by decide +kernel
theorem dX0_countFailures_105 : decode cX0_countFailures 105 = .ok (.getfield 19, 3) := by decide +kernel
theorem dX0_countFailures_108 : decode cX0_countFailures 108 = .ok (.arraylength, 1) := by decide +kernel
theorem dX0_countFailures_109 : decode cX0_countFailures 109 = .ok (.if_icmp .ge 36, 3) := by decide +kernel
theorem dX0_countFailures_112 : decode cX0_countFailures 112 = .ok (.aload 4, 2) := by decide +kernel
theorem dX0_countFailures_114 : decode cX0_countFailures 114 = .ok (.ifnull 31, 3) := by decide +kernel
theorem dX0_countFailures_117 : decode cX0_countFailures 117 = .ok (.aload_n 0, 1) := by decide +kernel
theorem dX0_countFailures_118 : decode cX0_countFailures 118 = .ok (.iload_n 3, 1) := by decide +kernel
theorem dX0_countFailures_119 : decode cX0_countFailures 119 = .ok (.aload 4, 2) := by decide +kernel
theorem dX0_countFailures_121 : decode cX0_countFailures 121 = .ok (.aload_n 0, 1) := by decide +kernel
theorem dX0_countFailures_122 : decode cX0_countFailures 122 = .ok (.getfield 19, 3) := by decide +kernel
theorem dX0_countFailures_125 : decode cX0_countFailures 125 = .ok (.aload_n 0, 1) := by decide +kernel
theorem dX0_countFailures_126 : decode cX0_countFailures 126 = .ok (.getfield 9, 3) := by decide +kernel
theorem dX0_countFailures_129 : decode cX0_countFailures 129 = .ok (.iload_n 3, 1) := by decide +kernel
theorem dX0_countFailures_130 : decode cX0_countFailures 130 = .ok (.iaload, 1) := by decide +kernel
theorem dX0_countFailures_131 : decode cX0_countFailures 131 = .ok (.aaload, 1) := by decide +kernel
theorem dX0_countFailures_132 : decode cX0_countFailures 132 = .ok (.invokevirtual 49, 3) := by decide +kernel
theorem dX0_countFailures_135 : decode cX0_countFailures 135 = .ok (.ifCond .ne 10, 3) := by decide +kernel
theorem dX0_countFailures_138 : decode cX0_countFailures 138 = .ok (.aload_n 0, 1) := by decide +kernel
theorem dX0_countFailures_139 : decode cX0_countFailures 139 = .ok (.getfield 9, 3) := by decide +kernel
theorem dX0_countFailures_142 : decode cX0_countFailures 142 = .ok (.iload_n 3, 1) := by decide +kernel
theorem dX0_countFailures_143 : decode cX0_countFailures 143 = .ok (.iconst (-1), 1) := by decide +kernel
theorem dX0_countFailures_144 : decode cX0_countFailures 144 = .ok (.iastore, 1) := by decide +kernel
theorem dX0_countFailures_145 : decode cX0_countFailures 145 = .ok (.iinc 3 1, 3) := by decide +kernel
theorem dX0_countFailures_148 : decode cX0_countFailures 148 = .ok (.goto (-136), 3) := by decide +kernel
theorem dX0_countFailures_151 : decode cX0_countFailures 151 = .ok (.aload_n 0, 1) := by decide +kernel
theorem dX0_countFailures_152 : decode cX0_countFailures 152 = .ok (.getfield 27, 3) := by decide +kernel
theorem dX0_countFailures_155 : decode cX0_countFailures 155 = .ok (.ireturn, 1) := by decide +kernel
theorem dX0_schemaBelow_0 : decode cX0_schemaBelow 0 = .ok (.aload_n 0, 1) := by decide +kernel
theorem dX0_schemaBelow_1 : decode cX0_schemaBelow 1 = .ok (.getfield 15, 3) := by decide +kernel
theorem dX0_schemaBelow_4 : decode cX0_schemaBelow 4 = .ok (.iload_n 1, 1) := by decide +kernel
theorem dX0_schemaBelow_5 : decode cX0_schemaBelow 5 = .ok (.invokevirtual 33, 3) := by decide +kernel
theorem dX0_schemaBelow_8 : decode cX0_schemaBelow 8 = .ok (.astore_n 3, 1) := by decide +kernel
theorem dX0_schemaBelow_9 : decode cX0_schemaBelow 9 = .ok (.aload_n 3, 1) := by decide +kernel
theorem dX0_schemaBelow_10 : decode cX0_schemaBelow 10 = .ok (.ifnull 39, 3) := by decide +kernel
theorem dX0_schemaBelow_13 : decode cX0_schemaBelow 13 = .ok (.iload_n 1, 1) := by decide +kernel
theorem dX0_schemaBelow_14 : decode cX0_schemaBelow 14 = .ok (.ifCond .lt 35, 3) := by decide +kernel
theorem dX0_schemaBelow_17 : decode cX0_schemaBelow 17 = .ok (.iload_n 1, 1) := by decide +kernel
theorem dX0_schemaBelow_18 : decode cX0_schemaBelow 18 = .ok (.aload_n 0, 1) := by decide +kernel
theorem dX0_schemaBelow_19 : decode cX0_schemaBelow 19 = .ok (.getfield 9, 3) := by decide +kernel
theorem dX0_schemaBelow_22 : decode cX0_schemaBelow 22 = .ok (.arraylength, 1) := by decide +kernel
theorem dX0_schemaBelow_23 : decode cX0_schemaBelow 23 = .ok (.if_icmp .ge 26, 3) := by decide +kernel
theorem dX0_schemaBelow_26 : decode cX0_schemaBelow 26 = .ok (.aload_n 0, 1) := by decide +kernel
theorem dX0_schemaBelow_27 : decode cX0_schemaBelow 27 = .ok (.getfield 9, 3) := by decide +kernel
theorem dX0_schemaBelow_30 : decode cX0_schemaBelow 30 = .ok (.iload_n 1, 1) := by decide +kernel
theorem dX0_schemaBelow_31 : decode cX0_schemaBelow 31 = .ok (.iaload, 1) := by decide +kernel
theorem dX0_schemaBelow_32 : decode cX0_schemaBelow 32 = .ok (.ifCond .lt 17, 3) := by decide +kernel
theorem dX0_schemaBelow_35 : decode cX0_schemaBelow 35 = .ok (.aload_n 0, 1) := by decide +kernel
theorem dX0_schemaBelow_36 : decode cX0_schemaBelow 36 = .ok (.getfield 9, 3) := by decide +kernel
theorem dX0_schemaBelow_39 : decode cX0_schemaBelow 39 = .ok (.iload_n 1, 1) := by decide +kernel
theorem dX0_schemaBelow_40 : decode cX0_schemaBelow 40 = .ok (.iaload, 1) := by decide +kernel
theorem dX0_schemaBelow_41 : decode cX0_schemaBelow 41 = .ok (.aload_n 0, 1) := by decide +kernel
theorem dX0_schemaBelow_42 : decode cX0_schemaBelow 42 = .ok (.getfield 19, 3) := by decide +kernel
theorem dX0_schemaBelow_45 : decode cX0_schemaBelow 45 = .ok (.arraylength, 1) := by decide +kernel
theorem dX0_schemaBelow_46 : decode cX0_schemaBelow 46 = .ok (.if_icmp .lt 5, 3) := by decide +kernel
theorem dX0_schemaBelow_49 : decode cX0_schemaBelow 49 = .ok (.iconst (-1), 1) := by decide +kernel
theorem dX0_schemaBelow_50 : decode cX0_schemaBelow 50 = .ok (.ireturn, 1) := by decide +kernel
theorem dX0_schemaBelow_51 : decode cX0_schemaBelow 51 = .ok (.aload_n 0, 1) := by decide +kernel
theorem dX0_schemaBelow_52 : decode cX0_schemaBelow 52 = .ok (.getfield 19, 3) := by decide +kernel
theorem dX0_schemaBelow_55 : decode cX0_schemaBelow 55 = .ok (.aload_n 0, 1) := by decide +kernel
theorem dX0_schemaBelow_56 : decode cX0_schemaBelow 56 = .ok (.getfield 9, 3) := by decide +kernel
theorem dX0_schemaBelow_59 : decode cX0_schemaBelow 59 = .ok (.iload_n 1, 1) := by decide +kernel
theorem dX0_schemaBelow_60 : decode cX0_schemaBelow 60 = .ok (.iaload, 1) := by decide +kernel
theorem dX0_schemaBelow_61 : decode cX0_schemaBelow 61 = .ok (.aaload, 1) := by decide +kernel
theorem dX0_schemaBelow_62 : decode cX0_schemaBelow 62 = .ok (.aload_n 3, 1) := by decide +kernel
theorem dX0_schemaBelow_63 : decode cX0_schemaBelow 63 = .ok (.getfield 53, 3) := by decide +kernel
theorem dX0_schemaBelow_66 : decode cX0_schemaBelow 66 = .ok (.aload_n 0, 1) := by decide +kernel
theorem dX0_schemaBelow_67 : decode cX0_schemaBelow 67 = .ok (.getfield 15, 3) := by decide +kernel
theorem dX0_schemaBelow_70 : decode cX0_schemaBelow 70 = .ok (.iload_n 2, 1) := by decide +kernel
theorem dX0_schemaBelow_71 : decode cX0_schemaBelow 71 = .ok (.invokevirtual 58, 3) := by decide +kernel
theorem dX0_schemaBelow_74 : decode cX0_schemaBelow 74 = .ok (.invokevirtual 61, 3) := by decide +kernel
theorem dX0_schemaBelow_77 : decode cX0_schemaBelow 77 = .ok (.ireturn, 1) := by decide +kernel
theorem dX0_isOfKind_0 : decode cX0_isOfKind 0 = .ok (.aload_n 3, 1) := by decide +kernel
theorem dX0_isOfKind_1 : decode cX0_isOfKind 1 = .ok (.getfield 66, 3) := by decide +kernel
theorem dX0_isOfKind_4 : decode cX0_isOfKind 4 = .ok (.aload_n 2, 1) := by decide +kernel
theorem dX0_isOfKind_5 : decode cX0_isOfKind 5 = .ok (.getfield 53, 3) := by decide +kernel
theorem dX0_isOfKind_8 : decode cX0_isOfKind 8 = .ok (.ishr, 1) := by decide +kernel
theorem dX0_isOfKind_9 : decode cX0_isOfKind 9 = .ok (.iconst 1, 1) := by decide +kernel
theorem dX0_isOfKind_10 : decode cX0_isOfKind 10 = .ok (.iand, 1) := by decide +kernel
theorem dX0_isOfKind_11 : decode cX0_isOfKind 11 = .ok (.ifCond .ne 11, 3) := by decide +kernel
theorem dX0_isOfKind_14 : decode cX0_isOfKind 14 = .ok (.aload_n 0, 1) := by decide +kernel
theorem dX0_isOfKind_15 : decode cX0_isOfKind 15 = .ok (.iload_n 1, 1) := by decide +kernel
theorem dX0_isOfKind_16 : decode cX0_isOfKind 16 = .ok (.iconst 1, 1) := by decide +kernel
theorem dX0_isOfKind_17 : decode cX0_isOfKind 17 = .ok (.invokevirtual 45, 3) := by decide +kernel
theorem dX0_isOfKind_20 : decode cX0_isOfKind 20 = .ok (.iconst 0, 1) := by decide +kernel
theorem dX0_isOfKind_21 : decode cX0_isOfKind 21 = .ok (.ireturn, 1) := by decide +kernel
theorem dX0_isOfKind_22 : decode cX0_isOfKind 22 = .ok (.aload_n 2, 1) := by decide +kernel
theorem dX0_isOfKind_23 : decode cX0_isOfKind 23 = .ok (.getfield 53, 3) := by decide +kernel
theorem dX0_isOfKind_26 : decode cX0_isOfKind 26 = .ok (.iconst 2, 1) := by decide +kernel
theorem dX0_isOfKind_27 : decode cX0_isOfKind 27 = .ok (.if_icmp .ne 31, 3) := by decide +kernel
theorem dX0_isOfKind_30 : decode cX0_isOfKind 30 = .ok (.aload_n 2, 1) := by decide +kernel
theorem dX0_isOfKind_31 : decode cX0_isOfKind 31 = .ok (.getfield 69, 3) := by decide +kernel
theorem dX0_isOfKind_34 : decode cX0_isOfKind 34 = .ok (.aload_n 3, 1) := by decide +kernel
theorem dX0_isOfKind_35 : decode cX0_isOfKind 35 = .ok (.getfield 72, 3) := by decide +kernel
theorem dX0_isOfKind_38 : decode cX0_isOfKind 38 = .ok (.if_icmp .lt 14, 3) := by decide +kernel
theorem dX0_isOfKind_41 : decode cX0_isOfKind 41 = .ok (.aload_n 2, 1) := by decide +kernel
theorem dX0_isOfKind_42 : decode cX0_isOfKind 42 = .ok (.getfield 69, 3) := by decide +kernel
theorem dX0_isOfKind_45 : decode cX0_isOfKind 45 = .ok (.aload_n 3, 1) := by decide +kernel
theorem dX0_isOfKind_46 : decode cX0_isOfKind 46 = .ok (.getfield 75, 3) := by decide +kernel
theorem dX0_isOfKind_49 : decode cX0_isOfKind 49 = .ok (.if_icmp .le 9, 3) := by decide +kernel
theorem dX0_isOfKind_52 : decode cX0_isOfKind 52 = .ok (.aload_n 0, 1) := by decide +kernel
theorem dX0_isOfKind_53 : decode cX0_isOfKind 53 = .ok (.iload_n 1, 1) := by decide +kernel
theorem dX0_isOfKind_54 : decode cX0_isOfKind 54 = .ok (.iconst 2, 1) := by decide +kernel
theorem dX0_isOfKind_55 : decode cX0_isOfKind 55 = .ok (.invokevirtual 45, 3) := by decide +kernel
theorem dX0_isOfKind_58 : decode cX0_isOfKind 58 = .ok (.aload_n 2, 1) := by decide +kernel
theorem dX0_isOfKind_59 : decode cX0_isOfKind 59 = .ok (.getfield 53, 3) := by decide +kernel
theorem dX0_isOfKind_62 : decode cX0_isOfKind 62 = .ok (.iconst 3, 1) := by decide +kernel
theorem dX0_isOfKind_63 : decode cX0_isOfKind 63 = .ok (.if_icmp .eq 11, 3) := by decide +kernel
theorem dX0_isOfKind_66 : decode cX0_isOfKind 66 = .ok (.aload_n 2, 1) := by decide +kernel
theorem dX0_isOfKind_67 : decode cX0_isOfKind 67 = .ok (.getfield 53, 3) := by decide +kernel
theorem dX0_isOfKind_70 : decode cX0_isOfKind 70 = .ok (.iconst 4, 1) := by decide +kernel
theorem dX0_isOfKind_71 : decode cX0_isOfKind 71 = .ok (.if_icmp .ne 7, 3) := by decide +kernel
theorem dX0_isOfKind_74 : decode cX0_isOfKind 74 = .ok (.iconst 1, 1) := by decide +kernel
theorem dX0_isOfKind_75 : decode cX0_isOfKind 75 = .ok (.goto 4, 3) := by decide +kernel
theorem dX0_isOfKind_78 : decode cX0_isOfKind 78 = .ok (.iconst 0, 1) := by decide +kernel
theorem dX0_isOfKind_79 : decode cX0_isOfKind 79 = .ok (.istore 4, 2) := by decide +kernel
theorem dX0_isOfKind_81 : decode cX0_isOfKind 81 = .ok (.iload 4, 2) := by decide +kernel
theorem dX0_isOfKind_83 : decode cX0_isOfKind 83 = .ok (.ifCond .eq 31, 3) := by decide +kernel
theorem dX0_isOfKind_86 : decode cX0_isOfKind 86 = .ok (.aload_n 2, 1) := by decide +kernel
theorem dX0_isOfKind_87 : decode cX0_isOfKind 87 = .ok (.invokevirtual 78, 3) := by decide +kernel
theorem dX0_isOfKind_90 : decode cX0_isOfKind 90 = .ok (.aload_n 3, 1) := by decide +kernel
theorem dX0_isOfKind_91 : decode cX0_isOfKind 91 = .ok (.getfield 82, 3) := by decide +kernel
theorem dX0_isOfKind_94 : decode cX0_isOfKind 94 = .ok (.if_icmp .lt 14, 3) := by decide +kernel
theorem dX0_isOfKind_97 : decode cX0_isOfKind 97 = .ok (.aload_n 2, 1) := by decide +kernel
theorem dX0_isOfKind_98 : decode cX0_isOfKind 98 = .ok (.invokevirtual 78, 3) := by decide +kernel
theorem dX0_isOfKind_101 : decode cX0_isOfKind 101 = .ok (.aload_n 3, 1) := by decide +kernel
theorem dX0_isOfKind_102 : decode cX0_isOfKind 102 = .ok (.getfield 85, 3) := by decide +kernel
theorem dX0_isOfKind_105 : decode cX0_isOfKind 105 = .ok (.if_icmp .le 9, 3) := by decide +kernel
theorem dX0_isOfKind_108 : decode cX0_isOfKind 108 = .ok (.aload_n 0, 1) := by decide +kernel
theorem dX0_isOfKind_109 : decode cX0_isOfKind 109 = .ok (.iload_n 1, 1) := by decide +kernel
theorem dX0_isOfKind_110 : decode cX0_isOfKind 110 = .ok (.iconst 3, 1) := by decide +kernel
theorem dX0_isOfKind_111 : decode cX0_isOfKind 111 = .ok (.invokevirtual 45, 3) := by decide +kernel
theorem dX0_isOfKind_114 : decode cX0_isOfKind 114 = .ok (.aload_n 2, 1) := by decide +kernel
theorem dX0_isOfKind_115 : decode cX0_isOfKind 115 = .ok (.getfield 53, 3) := by decide +kernel
theorem dX0_isOfKind_118 : decode cX0_isOfKind 118 = .ok (.iconst 4, 1) := by decide +kernel
theorem dX0_isOfKind_119 : decode cX0_isOfKind 119 = .ok (.if_icmp .ne 11, 3) := by decide +kernel
theorem dX0_isOfKind_122 : decode cX0_isOfKind 122 = .ok (.aload_n 3, 1) := by decide +kernel
theorem dX0_isOfKind_123 : decode cX0_isOfKind 123 = .ok (.aload_n 2, 1) := by decide +kernel
theorem dX0_isOfKind_124 : decode cX0_isOfKind 124 = .ok (.invokevirtual 88, 3) := by decide +kernel
theorem dX0_isOfKind_127 : decode cX0_isOfKind 127 = .ok (.goto 4, 3) := by decide +kernel
theorem dX0_isOfKind_130 : decode cX0_isOfKind 130 = .ok (.iconst 0, 1) := by decide +kernel
theorem dX0_isOfKind_131 : decode cX0_isOfKind 131 = .ok (.istore 5, 2) := by decide +kernel
theorem dX0_isOfKind_133 : decode cX0_isOfKind 133 = .ok (.iconst 0, 1) := by decide +kernel
theorem dX0_isOfKind_134 : decode cX0_isOfKind 134 = .ok (.istore 6, 2) := by decide +kernel
theorem dX0_isOfKind_136 : decode cX0_isOfKind 136 = .ok (.iload 6, 2) := by decide +kernel
theorem dX0_isOfKind_138 : decode cX0_isOfKind 138 = .ok (.iload 5, 2) := by decide +kernel
theorem dX0_isOfKind_140 : decode cX0_isOfKind 140 = .ok (.if_icmp .ge 15, 3) := by decide +kernel
theorem dX0_isOfKind_143 : decode cX0_isOfKind 143 = .ok (.aload_n 0, 1) := by decide +kernel
theorem dX0_isOfKind_144 : decode cX0_isOfKind 144 = .ok (.iload_n 1, 1) := by decide +kernel
theorem dX0_isOfKind_145 : decode cX0_isOfKind 145 = .ok (.iconst 4, 1) := by decide +kernel
theorem dX0_isOfKind_146 : decode cX0_isOfKind 146 = .ok (.invokevirtual 45, 3) := by decide +kernel
theorem dX0_isOfKind_149 : decode cX0_isOfKind 149 = .ok (.iinc 6 1, 3) := by decide +kernel
theorem dX0_isOfKind_152 : decode cX0_isOfKind 152 = .ok (.goto (-16), 3) := by decide +kernel
theorem dX0_isOfKind_155 : decode cX0_isOfKind 155 = .ok (.iconst 1, 1) := by decide +kernel
theorem dX0_isOfKind_156 : decode cX0_isOfKind 156 = .ok (.ireturn, 1) := by decide +kernel
theorem dX0_note_0 : decode cX0_note 0 = .ok (.aload_n 0, 1) := by decide +kernel
theorem dX0_note_1 : decode cX0_note 1 = .ok (.getfield 27, 3) := by decide +kernel
theorem dX0_note_4 : decode cX0_note 4 = .ok (.aload_n 0, 1) := by decide +kernel
theorem dX0_note_5 : decode cX0_note 5 = .ok (.getfield 23, 3) := by decide +kernel
theorem dX0_note_8 : decode cX0_note 8 = .ok (.if_icmp .ne 13, 3) := by decide +kernel
theorem dX0_note_11 : decode cX0_note 11 = .ok (.aload_n 0, 1) := by decide +kernel
theorem dX0_note_12 : decode cX0_note 12 = .ok (.iload_n 1, 1) := by decide +kernel
theorem dX0_note_13 : decode cX0_note 13 = .ok (.putfield 92, 3) := by decide +kernel
theorem dX0_note_16 : decode cX0_note 16 = .ok (.aload_n 0, 1) := by decide +kernel
theorem dX0_note_17 : decode cX0_note 17 = .ok (.iload_n 2, 1) := by decide +kernel
theorem dX0_note_18 : decode cX0_note 18 = .ok (.putfield 95, 3) := by decide +kernel
theorem dX0_note_21 : decode cX0_note 21 = .ok (.aload_n 0, 1) := by decide +kernel
theorem dX0_note_22 : decode cX0_note 22 = .ok (.dup, 1) := by decide +kernel
theorem dX0_note_23 : decode cX0_note 23 = .ok (.getfield 27, 3) := by decide +kernel
theorem dX0_note_26 : decode cX0_note 26 = .ok (.iconst 1, 1) := by decide +kernel
theorem dX0_note_27 : decode cX0_note 27 = .ok (.iadd, 1) := by decide +kernel
theorem dX0_note_28 : decode cX0_note 28 = .ok (.putfield 27, 3) := by decide +kernel
theorem dX0_note_31 : decode cX0_note 31 = .ok (.return_, 1) := by decide +kernel
theorem dX1_init_0 : decode cX1_init 0 = .ok (.aload_n 0, 1) := by decide +kernel
theorem dX1_init_1 : decode cX1_init 1 = .ok (.invokespecial 3, 3) := by decide +kernel
theorem dX1_init_4 : decode cX1_init 4 = .ok (.aload_n 0, 1) := by decide +kernel
theorem dX1_init_5 : decode cX1_init 5 = .ok (.sipush 2600, 3) := by decide +kernel
theorem dX1_init_8 : decode cX1_init 8 = .ok (.newarray .int, 2) := by decide +kernel
theorem dX1_init_10 : decode cX1_init 10 = .ok (.putfield 9, 3) := by decide +kernel
theorem dX1_init_13 : decode cX1_init 13 = .ok (.aload_n 0, 1) := by decide +kernel
theorem dX1_init_14 : decode cX1_init 14 = .ok (.bipush 6, 2) := by decide +kernel
theorem dX1_init_16 : decode cX1_init 16 = .ok (.newarray .int, 2) := by decide +kernel
theorem dX1_init_18 : decode cX1_init 18 = .ok (.putfield 15, 3) := by decide +kernel
theorem dX1_init_21 : decode cX1_init 21 = .ok (.aload_n 0, 1) := by decide +kernel
theorem dX1_init_22 : decode cX1_init 22 = .ok (.bipush 20, 2) := by decide +kernel
theorem dX1_init_24 : decode cX1_init 24 = .ok (.anewarray 18, 3) := by decide +kernel
theorem dX1_init_27 : decode cX1_init 27 = .ok (.putfield 20, 3) := by decide +kernel
theorem dX1_init_30 : decode cX1_init 30 = .ok (.return_, 1) := by decide +kernel
theorem dX1_compare_0 : decode cX1_compare 0 = .ok (.aload_n 0, 1) := by decide +kernel
theorem dX1_compare_1 : decode cX1_compare 1 = .ok (.aload_n 1, 1) := by decide +kernel
theorem dX1_compare_2 : decode cX1_compare 2 = .ok (.aload_n 2, 1) := by decide +kernel
theorem dX1_compare_3 : decode cX1_compare 3 = .ok (.iconst 0, 1) := by decide +kernel
theorem dX1_compare_4 : decode cX1_compare 4 = .ok (.iconst 0, 1) := by decide +kernel
theorem dX1_compare_5 : decode cX1_compare 5 = .ok (.invokevirtual 24, 3) := by decide +kernel
theorem dX1_compare_8 : decode cX1_compare 8 = .ok (.ireturn, 1) := by decide +kernel
theorem dX1_between_0 : decode cX1_between 0 = .ok (.aload_n 1, 1) := by decide +kernel
theorem dX1_between_1 : decode cX1_between 1 = .ok (.aload_n 2, 1) := by decide +kernel
theorem dX1_between_2 : decode cX1_between 2 = .ok (.if_acmp .eq 11, 3) := by decide +kernel
theorem dX1_between_5 : decode cX1_between 5 = .ok (.aload_n 1, 1) := by decide +kernel
theorem dX1_between_6 : decode cX1_between 6 = .ok (.ifnull 7, 3) := by decide +kernel
theorem dX1_between_9 : decode cX1_between 9 = .ok (.aload_n 2, 1) := by decide +kernel
theorem dX1_between_10 : decode cX1_between 10 = .ok (.ifnonnull 5, 3) := by decide +kernel
theorem dX1_between_13 : decode cX1_between 13 = .ok (.iconst 0, 1) := by decide +kernel
theorem dX1_between_14 : decode cX1_between 14 = .ok (.ireturn, 1) := by decide +kernel
theorem dX1_between_15 : decode cX1_between 15 = .ok (.iload_n 3, 1) := by decide +kernel
theorem dX1_between_16 : decode cX1_between 16 = .ok (.bipush 40, 2) := by decide +kernel
theorem dX1_between_18 : decode cX1_between 18 = .ok (.if_icmp .gt 51, 3) := by decide +kernel
theorem dX1_between_21 : decode cX1_between 21 = .ok (.aload_n 1, 1) := by decide +kernel
theorem dX1_between_22 : decode cX1_between 22 = .ok (.getfield 28, 3) := by decide +kernel
theorem dX1_between_25 : decode cX1_between 25 = .ok (.iconst 3, 1) := by decide +kernel
theorem dX1_between_26 : decode cX1_between 26 = .ok (.if_icmp .ne 43, 3) := by decide +kernel
theorem dX1_between_29 : decode cX1_between 29 = .ok (.aload_n 2, 1) := by decide +kernel
theorem dX1_between_30 : decode cX1_between 30 = .ok (.getfield 28, 3) := by decide +kernel
theorem dX1_between_33 : decode cX1_between 33 = .ok (.iconst 3, 1) := by decide +kernel
theorem dX1_between_34 : decode cX1_between 34 = .ok (.if_icmp .ne 35, 3) := by decide +kernel
theorem dX1_between_37 : decode cX1_between 37 = .ok (.aload_n 0, 1) := by decide +kernel
theorem dX1_between_38 : decode cX1_between 38 = .ok (.aload_n 1, 1) := by decide +kernel
theorem dX1_between_39 : decode cX1_between 39 = .ok (.aload_n 2, 1) := by decide +kernel
theorem dX1_between_40 : decode cX1_between 40 = .ok (.iload_n 3, 1) := by decide +kernel
theorem dX1_between_41 : decode cX1_between 41 = .ok (.iload 4, 2) := by decide +kernel
theorem dX1_between_43 : decode cX1_between 43 = .ok (.invokevirtual 34, 3) := by decide +kernel
theorem dX1_between_46 : decode cX1_between 46 = .ok (.ifCond .eq 13, 3) := by decide +kernel
theorem dX1_between_49 : decode cX1_between 49 = .ok (.aload_n 0, 1) := by decide +kernel
theorem dX1_between_50 : decode cX1_between 50 = .ok (.getfield 9, 3) := by decide +kernel
theorem dX1_between_53 : decode cX1_between 53 = .ok (.iload 4, 2) := by decide +kernel
theorem dX1_between_55 : decode cX1_between 55 = .ok (.iaload, 1) := by decide +kernel
theorem dX1_between_56 : decode cX1_between 56 = .ok (.goto 12, 3) := by decide +kernel
theorem dX1_between_59 : decode cX1_between 59 = .ok (.aload_n 1, 1) := by decide +kernel
theorem dX1_between_60 : decode cX1_between 60 = .ok (.getfield 38, 3) := by decide +kernel
theorem dX1_between_63 : decode cX1_between 63 = .ok (.aload_n 2, 1) := by decide +kernel
theorem dX1_between_64 : decode cX1_between 64 = .ok (.getfield 38, 3) := by decide +kernel
theorem dX1_between_67 : decode cX1_between 67 = .ok (.iadd, 1) := by decide +kernel
theorem dX1_between_68 : decode cX1_between 68 = .ok (.ireturn, 1) := by decide +kernel
theorem dX1_between_69 : decode cX1_between 69 = .ok (.iload_n 3, 1) := by decide +kernel
theorem dX1_between_70 : decode cX1_between 70 = .ok (.bipush 40, 2) := by decide +kernel
theorem dX1_between_72 : decode cX1_between 72 = .ok (.if_icmp .gt 29, 3) := by decide +kernel
theorem dX1_between_75 : decode cX1_between 75 = .ok (.aload_n 1, 1) := by decide +kernel
theorem dX1_between_76 : decode cX1_between 76 = .ok (.getfield 28, 3) := by decide +kernel
theorem dX1_between_79 : decode cX1_between 79 = .ok (.iconst 4, 1) := by decide +kernel
theorem dX1_between_80 : decode cX1_between 80 = .ok (.if_icmp .ne 21, 3) := by decide +kernel
theorem dX1_between_83 : decode cX1_between 83 = .ok (.aload_n 2, 1) := by decide +kernel
theorem dX1_between_84 : decode cX1_between 84 = .ok (.getfield 28, 3) := by decide +kernel
theorem dX1_between_87 : decode cX1_between 87 = .ok (.iconst 4, 1) := by decide +kernel
theorem dX1_between_88 : decode cX1_between 88 = .ok (.if_icmp .ne 13, 3) := by decide +kernel
theorem dX1_between_91 : decode cX1_between 91 = .ok (.aload_n 0, 1) := by decide +kernel
theorem dX1_between_92 : decode cX1_between 92 = .ok (.aload_n 1, 1) := by decide +kernel
theorem dX1_between_93 : decode cX1_between 93 = .ok (.aload_n 2, 1) := by decide +kernel
theorem dX1_between_94 : decode cX1_between 94 = .ok (.iload_n 3, 1) := by decide +kernel
theorem dX1_between_95 : decode cX1_between 95 = .ok (.iload 4, 2) := by decide +kernel
theorem dX1_between_97 : decode cX1_between 97 = .ok (.invokevirtual 41, 3) := by decide +kernel
theorem dX1_between_100 : decode cX1_between 100 = .ok (.ireturn, 1) := by decide +kernel
theorem dX1_between_101 : decode cX1_between 101 = .ok (.aload_n 1, 1) := by decide +kernel
theorem dX1_between_102 : decode cX1_between 102 = .ok (.getfield 28, 3) := by decide +kernel
theorem dX1_between_105 : decode cX1_between 105 = .ok (.aload_n 2, 1) := by decide +kernel
theorem dX1_between_106 : decode cX1_between 106 = .ok (.getfield 28, 3) := by decide +kernel
theorem dX1_between_109 : decode cX1_between 109 = .ok (.if_icmp .ne 18, 3) := by decide +kernel
theorem dX1_between_112 : decode cX1_between 112 = .ok (.aload_n 1, 1) := by decide +kernel
theorem dX1_between_113 : decode cX1_between 113 = .ok (.getfield 44, 3) := by decide +kernel
theorem dX1_between_116 : decode cX1_between 116 = .ok (.aload_n 2, 1) := by decide +kernel
theorem dX1_between_117 : decode cX1_between 117 = .ok (.getfield 44, 3) := by decide +kernel
theorem dX1_between_120 : decode cX1_between 120 = .ok (.if_icmp .ne 7, 3) := by decide +kernel
theorem dX1_between_123 : decode cX1_between 123 = .ok (.iconst 0, 1) := by decide +kernel
theorem dX1_between_124 : decode cX1_between 124 = .ok (.goto 12, 3) := by decide +kernel
theorem dX1_between_127 : decode cX1_between 127 = .ok (.aload_n 1, 1) := by decide +kernel
theorem dX1_between_128 : decode cX1_between 128 = .ok (.getfield 38, 3) := by decide +kernel
theorem dX1_between_131 : decode cX1_between 131 = .ok (.aload_n 2, 1) := by decide +kernel
theorem dX1_between_132 : decode cX1_between 132 = .ok (.getfield 38, 3) := by decide +kernel
theorem dX1_between_135 : decode cX1_between 135 = .ok (.iadd, 1) := by decide +kernel
theorem dX1_between_136 : decode cX1_between 136 = .ok (.ireturn, 1) := by decide +kernel
theorem dX1_betweenObjects_0 : decode cX1_betweenObjects 0 = .ok (.iconst 0, 1) := by decide +kernel
theorem dX1_betweenObjects_1 : decode cX1_betweenObjects 1 = .ok (.istore 5, 2) := by decide +kernel
theorem dX1_betweenObjects_3 : decode cX1_betweenObjects 3 = .ok (.iconst 0, 1) := by decide +kernel
theorem dX1_betweenObjects_4 : decode cX1_betweenObjects 4 = .ok (.istore 6, 2) := by decide +kernel
theorem dX1_betweenObjects_6 : decode cX1_betweenObjects 6 = .ok (.iconst 0, 1) := by decide +kernel
theorem dX1_betweenObjects_7 : decode cX1_betweenObjects 7 = .ok (.istore 7, 2) := by decide +kernel
theorem dX1_betweenObjects_9 : decode cX1_betweenObjects 9 = .ok (.aload_n 1, 1) := by decide +kernel
theorem dX1_betweenObjects_10 : decode cX1_betweenObjects 10 = .ok (.invokevirtual 47, 3) := by decide +kernel
theorem dX1_betweenObjects_13 : decode cX1_betweenObjects 13 = .ok (.aload_n 2, 1) := by decide +kernel
theorem dX1_betweenObjects_14 : decode cX1_betweenObjects 14 = .ok (.invokevirtual 47, 3) := by decide +kernel
theorem dX1_betweenObjects_17 : decode cX1_betweenObjects 17 = .ok (.iadd, 1) := by decide +kernel
theorem dX1_betweenObjects_18 : decode cX1_betweenObjects 18 = .ok (.istore 8, 2) := by decide +kernel
theorem dX1_betweenObjects_20 : decode cX1_betweenObjects 20 = .ok (.iload 8, 2) := by decide +kernel
theorem dX1_betweenObjects_22 : decode cX1_betweenObjects 22 = .ok (.ifCond .le 112, 3) := by decide +kernel
theorem dX1_betweenObjects_25 : decode cX1_betweenObjects 25 = .ok (.aload_n 1, 1) := by decide +kernel
theorem dX1_betweenObjects_26 : decode cX1_betweenObjects 26 = .ok (.iload 6, 2) := by decide +kernel
theorem dX1_betweenObjects_28 : decode cX1_betweenObjects 28 = .ok (.aload_n 2, 1) := by decide +kernel
theorem dX1_betweenObjects_29 : decode cX1_betweenObjects 29 = .ok (.iload 7, 2) := by decide +kernel
theorem dX1_betweenObjects_31 : decode cX1_betweenObjects 31 = .ok (.invokestatic 51, 3) := by decide +kernel
theorem dX1_betweenObjects_34 : decode cX1_betweenObjects 34 = .ok (.istore 9, 2) := by decide +kernel
theorem dX1_betweenObjects_36 : decode cX1_betweenObjects 36 = .ok (.iload 9, 2) := by decide +kernel
theorem dX1_betweenObjects_38 : decode cX1_betweenObjects 38 = .ok (.ifCond .ne 35, 3) := by decide +kernel
theorem dX1_betweenObjects_41 : decode cX1_betweenObjects 41 = .ok (.iload 5, 2) := by decide +kernel
theorem dX1_betweenObjects_43 : decode cX1_betweenObjects 43 = .ok (.aload_n 0, 1) := by decide +kernel
theorem dX1_betweenObjects_44 : decode cX1_betweenObjects 44 = .ok (.aload_n 1, 1) := by decide +kernel
theorem dX1_betweenObjects_45 : decode cX1_betweenObjects 45 = .ok (.iload 6, 2) := by decide +kernel
theorem dX1_betweenObjects_47 : decode cX1_betweenObjects 47 = .ok (.invokevirtual 55, 3) := by decide +kernel
theorem dX1_betweenObjects_50 : decode cX1_betweenObjects 50 = .ok (.aload_n 2, 1) := by decide +kernel
theorem dX1_betweenObjects_51 : decode cX1_betweenObjects 51 = .ok (.iload 7, 2) := by decide +kernel
theorem dX1_betweenObjects_53 : decode cX1_betweenObjects 53 = .ok (.invokevirtual 55, 3) := by decide +kernel
theorem dX1_betweenObjects_56 : decode cX1_betweenObjects 56 = .ok (.iload_n 3, 1) := by decide +kernel
theorem dX1_betweenObjects_57 : decode cX1_betweenObjects 57 = .ok (.iconst 1, 1) := by decide +kernel
theorem dX1_betweenObjects_58 : decode cX1_betweenObjects 58 = .ok (.iadd, 1) := by decide +kernel
theorem dX1_betweenObjects_59 : decode cX1_betweenObjects 59 = .ok (.iload 4, 2) := by decide +kernel
theorem dX1_betweenObjects_61 : decode cX1_betweenObjects 61 = .ok (.invokevirtual 24, 3) := by decide +kernel
theorem dX1_betweenObjects_64 : decode cX1_betweenObjects 64 = .ok (.iadd, 1) := by decide +kernel
theorem dX1_betweenObjects_65 : decode cX1_betweenObjects 65 = .ok (.istore 5, 2) := by decide +kernel
theorem dX1_betweenObjects_67 : decode cX1_betweenObjects 67 = .ok (.iinc 8 (-1), 3) := by decide +kernel
theorem dX1_betweenObjects_70 : decode cX1_betweenObjects 70 = .ok (.goto 28, 3) := by decide +kernel
theorem dX1_betweenObjects_73 : decode cX1_betweenObjects 73 = .ok (.iload 5, 2) := by decide +kernel
theorem dX1_betweenObjects_75 : decode cX1_betweenObjects 75 = .ok (.iload 9, 2) := by decide +kernel
theorem dX1_betweenObjects_77 : decode cX1_betweenObjects 77 = .ok (.ifCond .ge 12, 3) := by decide +kernel
theorem dX1_betweenObjects_80 : decode cX1_betweenObjects 80 = .ok (.aload_n 1, 1) := by decide +kernel
theorem dX1_betweenObjects_81 : decode cX1_betweenObjects 81 = .ok (.iload 6, 2) := by decide +kernel
theorem dX1_betweenObjects_83 : decode cX1_betweenObjects 83 = .ok (.invokestatic 59, 3) := by decide +kernel
theorem dX1_betweenObjects_86 : decode cX1_betweenObjects 86 = .ok (.goto 9, 3) := by decide +kernel
theorem dX1_betweenObjects_89 : decode cX1_betweenObjects 89 = .ok (.aload_n 2, 1) := by decide +kernel
theorem dX1_betweenObjects_90 : decode cX1_betweenObjects 90 = .ok (.iload 7, 2) := by decide +kernel
theorem dX1_betweenObjects_92 : decode cX1_betweenObjects 92 = .ok (.invokestatic 59, 3) := by decide +kernel
theorem dX1_betweenObjects_95 : decode cX1_betweenObjects 95 = .ok (.iadd, 1) := by decide +kernel
theorem dX1_betweenObjects_96 : decode cX1_betweenObjects 96 = .ok (.istore 5, 2) := by decide +kernel
theorem dX1_betweenObjects_98 : decode cX1_betweenObjects 98 = .ok (.iload 6, 2) := by decide +kernel
theorem dX1_betweenObjects_100 : decode cX1_betweenObjects 100 = .ok (.iload 9, 2) := by decide +kernel
theorem dX1_betweenObjects_102 : decode cX1_betweenObjects 102 = .ok (.ifCond .gt 7, 3) := by decide +kernel
theorem dX1_betweenObjects_105 : decode cX1_betweenObjects 105 = .ok (.iconst 1, 1) := by decide +kernel
theorem dX1_betweenObjects_106 : decode cX1_betweenObjects 106 = .ok (.goto 4, 3) := by decide +kernel
theorem dX1_betweenObjects_109 : decode cX1_betweenObjects 109 = .ok (.iconst 0, 1) := by decide +kernel
theorem dX1_betweenObjects_110 : decode cX1_betweenObjects 110 = .ok (.iadd, 1) := by decide +kernel
theorem dX1_betweenObjects_111 : decode cX1_betweenObjects 111 = .ok (.istore 6, 2) := by decide +kernel
theorem dX1_betweenObjects_113 : decode cX1_betweenObjects 113 = .ok (.iload 7, 2) := by decide +kernel
theorem dX1_betweenObjects_115 : decode cX1_betweenObjects 115 = .ok (.iload 9, 2) := by decide +kernel
theorem dX1_betweenObjects_117 : decode cX1_betweenObjects 117 = .ok (.ifCond .lt 7, 3) := by decide +kernel
theorem dX1_betweenObjects_120 : decode cX1_betweenObjects 120 = .ok (.iconst 1, 1) := by decide +kernel
theorem dX1_betweenObjects_121 : decode cX1_betweenObjects 121 = .ok (.goto 4, 3) := by decide +kernel
theorem dX1_betweenObjects_124 : decode cX1_betweenObjects 124 = .ok (.iconst 0, 1) := by decide +kernel
theorem dX1_betweenObjects_125 : decode cX1_betweenObjects 125 = .ok (.iadd, 1) := by decide +kernel
theorem dX1_betweenObjects_126 : decode cX1_betweenObjects 126 = .ok (.istore 7, 2) := by decide +kernel
theorem dX1_betweenObjects_128 : decode cX1_betweenObjects 128 = .ok (.iinc 8 (-1), 3) := by decide +kernel
theorem dX1_betweenObjects_131 : decode cX1_betweenObjects 131 = .ok (.goto (-111), 3) := by decide +kernel
theorem dX1_betweenObjects_134 : decode cX1_betweenObjects 134 = .ok (.iload 5, 2) := by decide +kernel
theorem dX1_betweenObjects_136 : decode cX1_betweenObjects 136 = .ok (.ireturn, 1) := by decide +kernel
theorem dX1_order_0 : decode cX1_order 0 = .ok (.iload_n 1, 1) := by decide +kernel
theorem dX1_order_1 : decode cX1_order 1 = .ok (.aload_n 0, 1) := by decide +kernel
theorem dX1_order_2 : decode cX1_order 2 = .ok (.invokevirtual 47, 3) := by decide +kernel
theorem dX1_order_5 : decode cX1_order 5 = .ok (.if_icmp .ge 11, 3) := by decide +kernel
theorem dX1_order_8 : decode cX1_order 8 = .ok (.aload_n 0, 1) := by decide +kernel
theorem dX1_order_9 : decode cX1_order 9 = .ok (.iload_n 1, 1) := by decide +kernel
theorem dX1_order_10 : decode cX1_order 10 = .ok (.invokevirtual 63, 3) := by decide +kernel
theorem dX1_order_13 : decode cX1_order 13 = .ok (.goto 5, 3) := by decide +kernel
theorem dX1_order_16 : decode cX1_order 16 = .ok (.bipush 100, 2) := by decide +kernel
theorem dX1_order_18 : decode cX1_order 18 = .ok (.istore 4, 2) := by decide +kernel
theorem dX1_order_20 : decode cX1_order 20 = .ok (.iload_n 3, 1) := by decide +kernel
theorem dX1_order_21 : decode cX1_order 21 = .ok (.aload_n 2, 1) := by decide +kernel
theorem dX1_order_22 : decode cX1_order 22 = .ok (.invokevirtual 47, 3) := by decide +kernel
theorem dX1_order_25 : decode cX1_order 25 = .ok (.if_icmp .ge 11, 3) := by decide +kernel
theorem dX1_order_28 : decode cX1_order 28 = .ok (.aload_n 2, 1) := by decide +kernel
theorem dX1_order_29 : decode cX1_order 29 = .ok (.iload_n 3, 1) := by decide +kernel
theorem dX1_order_30 : decode cX1_order 30 = .ok (.invokevirtual 63, 3) := by decide +kernel
theorem dX1_order_33 : decode cX1_order 33 = .ok (.goto 5, 3) := by decide +kernel
theorem dX1_order_36 : decode cX1_order 36 = .ok (.bipush 100, 2) := by decide +kernel
theorem dX1_order_38 : decode cX1_order 38 = .ok (.istore 5, 2) := by decide +kernel
theorem dX1_order_40 : decode cX1_order 40 = .ok (.iload 4, 2) := by decide +kernel
theorem dX1_order_42 : decode cX1_order 42 = .ok (.iload 5, 2) := by decide +kernel
theorem dX1_order_44 : decode cX1_order 44 = .ok (.isub, 1) := by decide +kernel
theorem dX1_order_45 : decode cX1_order 45 = .ok (.ireturn, 1) := by decide +kernel
theorem dX1_sizeAt_0 : decode cX1_sizeAt 0 = .ok (.aload_n 0, 1) := by decide +kernel
theorem dX1_sizeAt_1 : decode cX1_sizeAt 1 = .ok (.iload_n 1, 1) := by decide +kernel
theorem dX1_sizeAt_2 : decode cX1_sizeAt 2 = .ok (.invokevirtual 55, 3) := by decide +kernel
theorem dX1_sizeAt_5 : decode cX1_sizeAt 5 = .ok (.astore_n 2, 1) := by decide +kernel
theorem dX1_sizeAt_6 : decode cX1_sizeAt 6 = .ok (.aload_n 2, 1) := by decide +kernel
theorem dX1_sizeAt_7 : decode cX1_sizeAt 7 = .ok (.ifnonnull 7, 3) := by decide +kernel
theorem dX1_sizeAt_10 : decode cX1_sizeAt 10 = .ok (.iconst 0, 1) := by decide +kernel
theorem dX1_sizeAt_11 : decode cX1_sizeAt 11 = .ok (.goto 7, 3) := by decide +kernel
theorem dX1_sizeAt_14 : decode cX1_sizeAt 14 = .ok (.aload_n 2, 1) := by decide +kernel
theorem dX1_sizeAt_15 : decode cX1_sizeAt 15 = .ok (.getfield 38, 3) := by decide +kernel
theorem dX1_sizeAt_18 : decode cX1_sizeAt 18 = .ok (.ireturn, 1) := by decide +kernel
theorem dX1_fillTable_0 : decode cX1_fillTable 0 = .ok (.aload_n 1, 1) := by decide +kernel
theorem dX1_fillTable_1 : decode cX1_fillTable 1 = .ok (.invokevirtual 47, 3) := by decide +kernel
theorem dX1_fillTable_4 : decode cX1_fillTable 4 = .ok (.iconst 1, 1) := by decide +kernel
theorem dX1_fillTable_5 : decode cX1_fillTable 5 = .ok (.iadd, 1) := by decide +kernel
theorem dX1_fillTable_6 : decode cX1_fillTable 6 = .ok (.istore 5, 2) := by decide +kernel
theorem dX1_fillTable_8 : decode cX1_fillTable 8 = .ok (.aload_n 2, 1) := by decide +kernel
theorem dX1_fillTable_9 : decode cX1_fillTable 9 = .ok (.invokevirtual 47, 3) := by decide +kernel
theorem dX1_fillTable_12 : decode cX1_fillTable 12 = .ok (.iconst 1, 1) := by decide +kernel
theorem dX1_fillTable_13 : decode cX1_fillTable 13 = .ok (.iadd, 1) := by decide +kernel
theorem dX1_fillTable_14 : decode cX1_fillTable 14 = .ok (.istore 6, 2) := by decide +kernel
theorem dX1_fillTable_16 : decode cX1_fillTable 16 = .ok (.iload 4, 2) := by decide +kernel
theorem dX1_fillTable_18 : decode cX1_fillTable 18 = .ok (.ifCond .lt 33, 3) := by decide +kernel
theorem dX1_fillTable_21 : decode cX1_fillTable 21 = .ok (.iload 5, 2) := by decide +kernel
theorem dX1_fillTable_23 : decode cX1_fillTable 23 = .ok (.bipush 50, 2) := by decide +kernel
theorem dX1_fillTable_25 : decode cX1_fillTable 25 = .ok (.if_icmp .gt 26, 3) := by decide +kernel
theorem dX1_fillTable_28 : decode cX1_fillTable 28 = .ok (.iload 6, 2) := by decide +kernel
theorem dX1_fillTable_30 : decode cX1_fillTable 30 = .ok (.bipush 50, 2) := by decide +kernel
theorem dX1_fillTable_32 : decode cX1_fillTable 32 = .ok (.if_icmp .gt 19, 3) := by decide +kernel
theorem dX1_fillTable_35 : decode cX1_fillTable 35 = .ok (.iload 4, 2) := by decide +kernel
theorem dX1_fillTable_37 : decode cX1_fillTable 37 = .ok (.iload 5, 2) := by decide +kernel
theorem dX1_fillTable_39 : decode cX1_fillTable 39 = .ok (.iload 6, 2) := by decide +kernel
theorem dX1_fillTable_41 : decode cX1_fillTable 41 = .ok (.imul, 1) := by decide +kernel
theorem dX1_fillTable_42 : decode cX1_fillTable 42 = .ok (.iadd, 1) := by decide +kernel
theorem dX1_fillTable_43 : decode cX1_fillTable 43 = .ok (.aload_n 0, 1) := by decide +kernel
theorem dX1_fillTable_44 : decode cX1_fillTable 44 = .ok (.getfield 9, 3) := by decide +kernel
theorem dX1_fillTable_47 : decode cX1_fillTable 47 = .ok (.arraylength, 1) := by decide +kernel
theorem dX1_fillTable_48 : decode cX1_fillTable 48 = .ok (.if_icmp .le 5, 3) := by decide +kernel
theorem dX1_fillTable_51 : decode cX1_fillTable 51 = .ok (.iconst 0, 1) := by decide +kernel
theorem dX1_fillTable_52 : decode cX1_fillTable 52 = .ok (.ireturn, 1) := by decide +kernel
theorem dX1_fillTable_53 : decode cX1_fillTable 53 = .ok (.iload 5, 2) := by decide +kernel
theorem dX1_fillTable_55 : decode cX1_fillTable 55 = .ok (.iconst 1, 1) := by decide +kernel
theorem dX1_fillTable_56 : decode cX1_fillTable 56 = .ok (.isub, 1) := by decide +kernel
theorem dX1_fillTable_57 : decode cX1_fillTable 57 = .ok (.istore 7, 2) := by decide +kernel
theorem dX1_fillTable_59 : decode cX1_fillTable 59 = .ok (.iload 7, 2) := by decide +kernel
theorem dX1_fillTable_61 : decode cX1_fillTable 61 = .ok (.ifCond .lt 55, 3) := by decide +kernel
theorem dX1_fillTable_64 : decode cX1_fillTable 64 = .ok (.iload 6, 2) := by decide +kernel
theorem dX1_fillTable_66 : decode cX1_fillTable 66 = .ok (.iconst 1, 1) := by decide +kernel
theorem dX1_fillTable_67 : decode cX1_fillTable 67 = .ok (.isub, 1) := by decide +kernel
theorem dX1_fillTable_68 : decode cX1_fillTable 68 = .ok (.istore 8, 2) := by decide +kernel
theorem dX1_fillTable_70 : decode cX1_fillTable 70 = .ok (.iload 8, 2) := by decide +kernel
theorem dX1_fillTable_72 : decode cX1_fillTable 72 = .ok (.ifCond .lt 38, 3) := by decide +kernel
theorem dX1_fillTable_75 : decode cX1_fillTable 75 = .ok (.aload_n 0, 1) := by decide +kernel
theorem dX1_fillTable_76 : decode cX1_fillTable 76 = .ok (.getfield 9, 3) := by decide +kernel
theorem dX1_fillTable_79 : decode cX1_fillTable 79 = .ok (.iload 4, 2) := by decide +kernel
theorem dX1_fillTable_81 : decode cX1_fillTable 81 = .ok (.iload 7, 2) := by decide +kernel
theorem dX1_fillTable_83 : decode cX1_fillTable 83 = .ok (.iload 6, 2) := by decide +kernel
theorem dX1_fillTable_85 : decode cX1_fillTable 85 = .ok (.imul, 1) := by decide +kernel
theorem dX1_fillTable_86 : decode cX1_fillTable 86 = .ok (.iadd, 1) := by decide +kernel
theorem dX1_fillTable_87 : decode cX1_fillTable 87 = .ok (.iload 8, 2) := by decide +kernel
theorem dX1_fillTable_89 : decode cX1_fillTable 89 = .ok (.iadd, 1) := by decide +kernel
theorem dX1_fillTable_90 : decode cX1_fillTable 90 = .ok (.aload_n 0, 1) := by decide +kernel
theorem dX1_fillTable_91 : decode cX1_fillTable 91 = .ok (.aload_n 1, 1) := by decide +kernel
theorem dX1_fillTable_92 : decode cX1_fillTable 92 = .ok (.iload 7, 2) := by decide +kernel
theorem dX1_fillTable_94 : decode cX1_fillTable 94 = .ok (.aload_n 2, 1) := by decide +kernel
theorem dX1_fillTable_95 : decode cX1_fillTable 95 = .ok (.iload 8, 2) := by decide +kernel
theorem dX1_fillTable_97 : decode cX1_fillTable 97 = .ok (.iload_n 3, 1) := by decide +kernel
theorem dX1_fillTable_98 : decode cX1_fillTable 98 = .ok (.iload 4, 2) := by decide +kernel
theorem dX1_fillTable_100 : decode cX1_fillTable 100 = .ok (.invokevirtual 67, 3) := by decide +kernel
theorem dX1_fillTable_103 : decode cX1_fillTable 103 = .ok (.iastore, 1) := by decide +kernel
theorem dX1_fillTable_104 : decode cX1_fillTable 104 = .ok (.iinc 8 (-1), 3) := by decide +kernel
theorem dX1_fillTable_107 : decode cX1_fillTable 107 = .ok (.goto (-37), 3) := by decide +kernel
theorem dX1_fillTable_110 : decode cX1_fillTable 110 = .ok (.iinc 7 (-1), 3) := by decide +kernel
theorem dX1_fillTable_113 : decode cX1_fillTable 113 = .ok (.goto (-54), 3) := by decide +kernel
theorem dX1_fillTable_116 : decode cX1_fillTable 116 = .ok (.iconst 1, 1) := by decide +kernel
theorem dX1_fillTable_117 : decode cX1_fillTable 117 = .ok (.ireturn, 1) := by decide +kernel
theorem dX1_leastFrom_0 : decode cX1_leastFrom 0 = .ok (.iload_n 2, 1) := by decide +kernel
theorem dX1_leastFrom_1 : decode cX1_leastFrom 1 = .ok (.aload_n 1, 1) := by decide +kernel
theorem dX1_leastFrom_2 : decode cX1_leastFrom 2 = .ok (.invokevirtual 47, 3) := by decide +kernel
theorem dX1_leastFrom_5 : decode cX1_leastFrom 5 = .ok (.if_icmp .lt 14, 3) := by decide +kernel
theorem dX1_leastFrom_8 : decode cX1_leastFrom 8 = .ok (.iload 4, 2) := by decide +kernel
theorem dX1_leastFrom_10 : decode cX1_leastFrom 10 = .ok (.aload_n 3, 1) := by decide +kernel
theorem dX1_leastFrom_11 : decode cX1_leastFrom 11 = .ok (.invokevirtual 47, 3) := by decide +kernel
theorem dX1_leastFrom_14 : decode cX1_leastFrom 14 = .ok (.if_icmp .lt 5, 3) := by decide +kernel
theorem dX1_leastFrom_17 : decode cX1_leastFrom 17 = .ok (.iconst 0, 1) := by decide +kernel
theorem dX1_leastFrom_18 : decode cX1_leastFrom 18 = .ok (.ireturn, 1) := by decide +kernel
theorem dX1_leastFrom_19 : decode cX1_leastFrom 19 = .ok (.iload_n 2, 1) := by decide +kernel
theorem dX1_leastFrom_20 : decode cX1_leastFrom 20 = .ok (.aload_n 1, 1) := by decide +kernel
theorem dX1_leastFrom_21 : decode cX1_leastFrom 21 = .ok (.invokevirtual 47, 3) := by decide +kernel
theorem dX1_leastFrom_24 : decode cX1_leastFrom 24 = .ok (.if_icmp .lt 24, 3) := by decide +kernel
theorem dX1_leastFrom_27 : decode cX1_leastFrom 27 = .ok (.aload_n 3, 1) := by decide +kernel
theorem dX1_leastFrom_28 : decode cX1_leastFrom 28 = .ok (.iload 4, 2) := by decide +kernel
theorem dX1_leastFrom_30 : decode cX1_leastFrom 30 = .ok (.invokestatic 59, 3) := by decide +kernel
theorem dX1_leastFrom_33 : decode cX1_leastFrom 33 = .ok (.aload_n 0, 1) := by decide +kernel
theorem dX1_leastFrom_34 : decode cX1_leastFrom 34 = .ok (.aload_n 1, 1) := by decide +kernel
theorem dX1_leastFrom_35 : decode cX1_leastFrom 35 = .ok (.iload_n 2, 1) := by decide +kernel
theorem dX1_leastFrom_36 : decode cX1_leastFrom 36 = .ok (.aload_n 3, 1) := by decide +kernel
theorem dX1_leastFrom_37 : decode cX1_leastFrom 37 = .ok (.iload 4, 2) := by decide +kernel
theorem dX1_leastFrom_39 : decode cX1_leastFrom 39 = .ok (.iconst 1, 1) := by decide +kernel
theorem dX1_leastFrom_40 : decode cX1_leastFrom 40 = .ok (.iadd, 1) := by decide +kernel
theorem dX1_leastFrom_41 : decode cX1_leastFrom 41 = .ok (.iload 6, 2) := by decide +kernel
theorem dX1_leastFrom_43 : decode cX1_leastFrom 43 = .ok (.invokevirtual 71, 3) := by decide +kernel
theorem dX1_leastFrom_46 : decode cX1_leastFrom 46 = .ok (.iadd, 1) := by decide +kernel
theorem dX1_leastFrom_47 : decode cX1_leastFrom 47 = .ok (.ireturn, 1) := by decide +kernel
theorem dX1_leastFrom_48 : decode cX1_leastFrom 48 = .ok (.iload 4, 2) := by decide +kernel
theorem dX1_leastFrom_50 : decode cX1_leastFrom 50 = .ok (.aload_n 3, 1) := by decide +kernel
theorem dX1_leastFrom_51 : decode cX1_leastFrom 51 = .ok (.invokevirtual 47, 3) := by decide +kernel
theorem dX1_leastFrom_54 : decode cX1_leastFrom 54 = .ok (.if_icmp .lt 23, 3) := by decide +kernel
theorem dX1_leastFrom_57 : decode cX1_leastFrom 57 = .ok (.aload_n 1, 1) := by decide +kernel
theorem dX1_leastFrom_58 : decode cX1_leastFrom 58 = .ok (.iload_n 2, 1) := by decide +kernel
theorem dX1_leastFrom_59 : decode cX1_leastFrom 59 = .ok (.invokestatic 59, 3) := by decide +kernel
theorem dX1_leastFrom_62 : decode cX1_leastFrom 62 = .ok (.aload_n 0, 1) := by decide +kernel
theorem dX1_leastFrom_63 : decode cX1_leastFrom 63 = .ok (.aload_n 1, 1) := by decide +kernel
theorem dX1_leastFrom_64 : decode cX1_leastFrom 64 = .ok (.iload_n 2, 1) := by decide +kernel
theorem dX1_leastFrom_65 : decode cX1_leastFrom 65 = .ok (.iconst 1, 1) := by decide +kernel
theorem dX1_leastFrom_66 : decode cX1_leastFrom 66 = .ok (.iadd, 1) := by decide +kernel
theorem dX1_leastFrom_67 : decode cX1_leastFrom 67 = .ok (.aload_n 3, 1) := by decide +kernel
theorem dX1_leastFrom_68 : decode cX1_leastFrom 68 = .ok (.iload 4, 2) := by decide +kernel
theorem dX1_leastFrom_70 : decode cX1_leastFrom 70 = .ok (.iload 6, 2) := by decide +kernel
theorem dX1_leastFrom_72 : decode cX1_leastFrom 72 = .ok (.invokevirtual 71, 3) := by decide +kernel
theorem dX1_leastFrom_75 : decode cX1_leastFrom 75 = .ok (.iadd, 1) := by decide +kernel
theorem dX1_leastFrom_76 : decode cX1_leastFrom 76 = .ok (.ireturn, 1) := by decide +kernel
theorem dX1_leastFrom_77 : decode cX1_leastFrom 77 = .ok (.aload_n 3, 1) := by decide +kernel
theorem dX1_leastFrom_78 : decode cX1_leastFrom 78 = .ok (.iload 4, 2) := by decide +kernel
theorem dX1_leastFrom_80 : decode cX1_leastFrom 80 = .ok (.invokestatic 59, 3) := by decide +kernel
theorem dX1_leastFrom_83 : decode cX1_leastFrom 83 = .ok (.aload_n 0, 1) := by decide +kernel
theorem dX1_leastFrom_84 : decode cX1_leastFrom 84 = .ok (.aload_n 1, 1) := by decide +kernel
theorem dX1_leastFrom_85 : decode cX1_leastFrom 85 = .ok (.iload_n 2, 1) := by decide +kernel
theorem dX1_leastFrom_86 : decode cX1_leastFrom 86 = .ok (.aload_n 3, 1) := by decide +kernel
theorem dX1_leastFrom_87 : decode cX1_leastFrom 87 = .ok (.iload 4, 2) := by decide +kernel
theorem dX1_leastFrom_89 : decode cX1_leastFrom 89 = .ok (.iconst 1, 1) := by decide +kernel
theorem dX1_leastFrom_90 : decode cX1_leastFrom 90 = .ok (.iadd, 1) := by decide +kernel
theorem dX1_leastFrom_91 : decode cX1_leastFrom 91 = .ok (.iload 6, 2) := by decide +kernel
theorem dX1_leastFrom_93 : decode cX1_leastFrom 93 = .ok (.invokevirtual 71, 3) := by decide +kernel
theorem dX1_leastFrom_96 : decode cX1_leastFrom 96 = .ok (.iadd, 1) := by decide +kernel
theorem dX1_leastFrom_97 : decode cX1_leastFrom 97 = .ok (.aload_n 1, 1) := by decide +kernel
theorem dX1_leastFrom_98 : decode cX1_leastFrom 98 = .ok (.iload_n 2, 1) := by decide +kernel
theorem dX1_leastFrom_99 : decode cX1_leastFrom 99 = .ok (.invokestatic 59, 3) := by decide +kernel
theorem dX1_leastFrom_102 : decode cX1_leastFrom 102 = .ok (.aload_n 0, 1) := by decide +kernel
theorem dX1_leastFrom_103 : decode cX1_leastFrom 103 = .ok (.aload_n 1, 1) := by decide +kernel
theorem dX1_leastFrom_104 : decode cX1_leastFrom 104 = .ok (.iload_n 2, 1) := by decide +kernel
theorem dX1_leastFrom_105 : decode cX1_leastFrom 105 = .ok (.iconst 1, 1) := by decide +kernel
theorem dX1_leastFrom_106 : decode cX1_leastFrom 106 = .ok (.iadd, 1) := by decide +kernel
theorem dX1_leastFrom_107 : decode cX1_leastFrom 107 = .ok (.aload_n 3, 1) := by decide +kernel
theorem dX1_leastFrom_108 : decode cX1_leastFrom 108 = .ok (.iload 4, 2) := by decide +kernel
theorem dX1_leastFrom_110 : decode cX1_leastFrom 110 = .ok (.iload 6, 2) := by decide +kernel
theorem dX1_leastFrom_112 : decode cX1_leastFrom 112 = .ok (.invokevirtual 71, 3) := by decide +kernel
theorem dX1_leastFrom_115 : decode cX1_leastFrom 115 = .ok (.iadd, 1) := by decide +kernel
theorem dX1_leastFrom_116 : decode cX1_leastFrom 116 = .ok (.invokestatic 75, 3) := by decide +kernel
theorem dX1_leastFrom_119 : decode cX1_leastFrom 119 = .ok (.istore 7, 2) := by decide +kernel
theorem dX1_leastFrom_121 : decode cX1_leastFrom 121 = .ok (.iload 7, 2) := by decide +kernel
theorem dX1_leastFrom_123 : decode cX1_leastFrom 123 = .ok (.aload_n 0, 1) := by decide +kernel
theorem dX1_leastFrom_124 : decode cX1_leastFrom 124 = .ok (.aload_n 1, 1) := by decide +kernel
theorem dX1_leastFrom_125 : decode cX1_leastFrom 125 = .ok (.iload_n 2, 1) := by decide +kernel
theorem dX1_leastFrom_126 : decode cX1_leastFrom 126 = .ok (.aload_n 3, 1) := by decide +kernel
theorem dX1_leastFrom_127 : decode cX1_leastFrom 127 = .ok (.iload 4, 2) := by decide +kernel
theorem dX1_leastFrom_129 : decode cX1_leastFrom 129 = .ok (.iload 5, 2) := by decide +kernel
theorem dX1_leastFrom_131 : decode cX1_leastFrom 131 = .ok (.iload 6, 2) := by decide +kernel
theorem dX1_leastFrom_133 : decode cX1_leastFrom 133 = .ok (.invokevirtual 81, 3) := by decide +kernel
theorem dX1_leastFrom_136 : decode cX1_leastFrom 136 = .ok (.invokestatic 75, 3) := by decide +kernel
theorem dX1_leastFrom_139 : decode cX1_leastFrom 139 = .ok (.ireturn, 1) := by decide +kernel
theorem dX1_pairedFrom_0 : decode cX1_pairedFrom 0 = .ok (.aload_n 0, 1) := by decide +kernel
theorem dX1_pairedFrom_1 : decode cX1_pairedFrom 1 = .ok (.aload_n 1, 1) := by decide +kernel
theorem dX1_pairedFrom_2 : decode cX1_pairedFrom 2 = .ok (.iload_n 2, 1) := by decide +kernel
theorem dX1_pairedFrom_3 : decode cX1_pairedFrom 3 = .ok (.invokevirtual 55, 3) := by decide +kernel
theorem dX1_pairedFrom_6 : decode cX1_pairedFrom 6 = .ok (.aload_n 3, 1) := by decide +kernel
theorem dX1_pairedFrom_7 : decode cX1_pairedFrom 7 = .ok (.iload 4, 2) := by decide +kernel
theorem dX1_pairedFrom_9 : decode cX1_pairedFrom 9 = .ok (.invokevirtual 55, 3) := by decide +kernel
theorem dX1_pairedFrom_12 : decode cX1_pairedFrom 12 = .ok (.iload 5, 2) := by decide +kernel
theorem dX1_pairedFrom_14 : decode cX1_pairedFrom 14 = .ok (.iconst 1, 1) := by decide +kernel
theorem dX1_pairedFrom_15 : decode cX1_pairedFrom 15 = .ok (.iadd, 1) := by decide +kernel
theorem dX1_pairedFrom_16 : decode cX1_pairedFrom 16 = .ok (.aload_n 1, 1) := by decide +kernel
theorem dX1_pairedFrom_17 : decode cX1_pairedFrom 17 = .ok (.aload_n 3, 1) := by decide +kernel
theorem dX1_pairedFrom_18 : decode cX1_pairedFrom 18 = .ok (.iload 6, 2) := by decide +kernel
theorem dX1_pairedFrom_20 : decode cX1_pairedFrom 20 = .ok (.invokestatic 84, 3) := by decide +kernel
theorem dX1_pairedFrom_23 : decode cX1_pairedFrom 23 = .ok (.invokevirtual 24, 3) := by decide +kernel
theorem dX1_pairedFrom_26 : decode cX1_pairedFrom 26 = .ok (.aload_n 0, 1) := by decide +kernel
theorem dX1_pairedFrom_27 : decode cX1_pairedFrom 27 = .ok (.aload_n 1, 1) := by decide +kernel
theorem dX1_pairedFrom_28 : decode cX1_pairedFrom 28 = .ok (.iload_n 2, 1) := by decide +kernel
theorem dX1_pairedFrom_29 : decode cX1_pairedFrom 29 = .ok (.iconst 1, 1) := by decide +kernel
theorem dX1_pairedFrom_30 : decode cX1_pairedFrom 30 = .ok (.iadd, 1) := by decide +kernel
theorem dX1_pairedFrom_31 : decode cX1_pairedFrom 31 = .ok (.aload_n 3, 1) := by decide +kernel
theorem dX1_pairedFrom_32 : decode cX1_pairedFrom 32 = .ok (.iload 4, 2) := by decide +kernel
theorem dX1_pairedFrom_34 : decode cX1_pairedFrom 34 = .ok (.iconst 1, 1) := by decide +kernel
theorem dX1_pairedFrom_35 : decode cX1_pairedFrom 35 = .ok (.iadd, 1) := by decide +kernel
theorem dX1_pairedFrom_36 : decode cX1_pairedFrom 36 = .ok (.iload 6, 2) := by decide +kernel
theorem dX1_pairedFrom_38 : decode cX1_pairedFrom 38 = .ok (.invokevirtual 71, 3) := by decide +kernel
theorem dX1_pairedFrom_41 : decode cX1_pairedFrom 41 = .ok (.iadd, 1) := by decide +kernel
theorem dX1_pairedFrom_42 : decode cX1_pairedFrom 42 = .ok (.ireturn, 1) := by decide +kernel
theorem dX1_freeBehind_0 : decode cX1_freeBehind 0 = .ok (.iload_n 2, 1) := by decide +kernel
theorem dX1_freeBehind_1 : decode cX1_freeBehind 1 = .ok (.aload_n 0, 1) := by decide +kernel
theorem dX1_freeBehind_2 : decode cX1_freeBehind 2 = .ok (.invokevirtual 47, 3) := by decide +kernel
theorem dX1_freeBehind_5 : decode cX1_freeBehind 5 = .ok (.iconst 1, 1) := by decide +kernel
theorem dX1_freeBehind_6 : decode cX1_freeBehind 6 = .ok (.iadd, 1) := by decide +kernel
theorem dX1_freeBehind_7 : decode cX1_freeBehind 7 = .ok (.aload_n 1, 1) := by decide +kernel
theorem dX1_freeBehind_8 : decode cX1_freeBehind 8 = .ok (.invokevirtual 47, 3) := by decide +kernel
theorem dX1_freeBehind_11 : decode cX1_freeBehind 11 = .ok (.iconst 1, 1) := by decide +kernel
theorem dX1_freeBehind_12 : decode cX1_freeBehind 12 = .ok (.iadd, 1) := by decide +kernel
theorem dX1_freeBehind_13 : decode cX1_freeBehind 13 = .ok (.imul, 1) := by decide +kernel
theorem dX1_freeBehind_14 : decode cX1_freeBehind 14 = .ok (.iadd, 1) := by decide +kernel
theorem dX1_freeBehind_15 : decode cX1_freeBehind 15 = .ok (.ireturn, 1) := by decide +kernel
theorem dX1_cell_0 : decode cX1_cell 0 = .ok (.iload 5, 2) := by decide +kernel
theorem dX1_cell_2 : decode cX1_cell 2 = .ok (.iload_n 2, 1) := by decide +kernel
theorem dX1_cell_3 : decode cX1_cell 3 = .ok (.aload_n 3, 1) := by decide +kernel
theorem dX1_cell_4 : decode cX1_cell 4 = .ok (.invokevirtual 47, 3) := by decide +kernel
theorem dX1_cell_7 : decode cX1_cell 7 = .ok (.iconst 1, 1) := by decide +kernel
theorem dX1_cell_8 : decode cX1_cell 8 = .ok (.iadd, 1) := by decide +kernel
theorem dX1_cell_9 : decode cX1_cell 9 = .ok (.imul, 1) := by decide +kernel
theorem dX1_cell_10 : decode cX1_cell 10 = .ok (.iadd, 1) := by decide +kernel
theorem dX1_cell_11 : decode cX1_cell 11 = .ok (.iload 4, 2) := by decide +kernel
theorem dX1_cell_13 : decode cX1_cell 13 = .ok (.iadd, 1) := by decide +kernel
theorem dX1_cell_14 : decode cX1_cell 14 = .ok (.istore 6, 2) := by decide +kernel
theorem dX1_cell_16 : decode cX1_cell 16 = .ok (.iload_n 2, 1) := by decide +kernel
theorem dX1_cell_17 : decode cX1_cell 17 = .ok (.aload_n 1, 1) := by decide +kernel
theorem dX1_cell_18 : decode cX1_cell 18 = .ok (.invokevirtual 47, 3) := by decide +kernel
theorem dX1_cell_21 : decode cX1_cell 21 = .ok (.if_icmp .gt 27, 3) := by decide +kernel
theorem dX1_cell_24 : decode cX1_cell 24 = .ok (.iload 4, 2) := by decide +kernel
theorem dX1_cell_26 : decode cX1_cell 26 = .ok (.aload_n 3, 1) := by decide +kernel
theorem dX1_cell_27 : decode cX1_cell 27 = .ok (.invokevirtual 47, 3) := by decide +kernel
theorem dX1_cell_30 : decode cX1_cell 30 = .ok (.if_icmp .gt 18, 3) := by decide +kernel
theorem dX1_cell_33 : decode cX1_cell 33 = .ok (.iload 6, 2) := by decide +kernel
theorem dX1_cell_35 : decode cX1_cell 35 = .ok (.ifCond .lt 13, 3) := by decide +kernel
theorem dX1_cell_38 : decode cX1_cell 38 = .ok (.iload 6, 2) := by decide +kernel
theorem dX1_cell_40 : decode cX1_cell 40 = .ok (.aload_n 0, 1) := by decide +kernel
theorem dX1_cell_41 : decode cX1_cell 41 = .ok (.getfield 9, 3) := by decide +kernel
theorem dX1_cell_44 : decode cX1_cell 44 = .ok (.arraylength, 1) := by decide +kernel
theorem dX1_cell_45 : decode cX1_cell 45 = .ok (.if_icmp .lt 5, 3) := by decide +kernel
theorem dX1_cell_48 : decode cX1_cell 48 = .ok (.iconst 0, 1) := by decide +kernel
theorem dX1_cell_49 : decode cX1_cell 49 = .ok (.ireturn, 1) := by decide +kernel
theorem dX1_cell_50 : decode cX1_cell 50 = .ok (.aload_n 0, 1) := by decide +kernel
theorem dX1_cell_51 : decode cX1_cell 51 = .ok (.getfield 9, 3) := by decide +kernel
theorem dX1_cell_54 : decode cX1_cell 54 = .ok (.iload 6, 2) := by decide +kernel
theorem dX1_cell_56 : decode cX1_cell 56 = .ok (.iaload, 1) := by decide +kernel
theorem dX1_cell_57 : decode cX1_cell 57 = .ok (.ireturn, 1) := by decide +kernel
theorem dX1_write_0 : decode cX1_write 0 = .ok (.aload_n 0, 1) := by decide +kernel
theorem dX1_write_1 : decode cX1_write 1 = .ok (.iconst 0, 1) := by decide +kernel
theorem dX1_write_2 : decode cX1_write 2 = .ok (.putfield 88, 3) := by decide +kernel
theorem dX1_write_5 : decode cX1_write 5 = .ok (.aload_n 0, 1) := by decide +kernel
theorem dX1_write_6 : decode cX1_write 6 = .ok (.aload_n 1, 1) := by decide +kernel
theorem dX1_write_7 : decode cX1_write 7 = .ok (.aload_n 2, 1) := by decide +kernel
theorem dX1_write_8 : decode cX1_write 8 = .ok (.iconst 0, 1) := by decide +kernel
theorem dX1_write_9 : decode cX1_write 9 = .ok (.iconst 0, 1) := by decide +kernel
theorem dX1_write_10 : decode cX1_write 10 = .ok (.invokevirtual 91, 3) := by decide +kernel
theorem dX1_write_13 : decode cX1_write 13 = .ok (.aload_n 0, 1) := by decide +kernel
theorem dX1_write_14 : decode cX1_write 14 = .ok (.getfield 88, 3) := by decide +kernel
theorem dX1_write_17 : decode cX1_write 17 = .ok (.ireturn, 1) := by decide +kernel
theorem dX1_operationAt_0 : decode cX1_operationAt 0 = .ok (.iload_n 1, 1) := by decide +kernel
theorem dX1_operationAt_1 : decode cX1_operationAt 1 = .ok (.ifCond .lt 20, 3) := by decide +kernel
theorem dX1_operationAt_4 : decode cX1_operationAt 4 = .ok (.iload_n 1, 1) := by decide +kernel
theorem dX1_operationAt_5 : decode cX1_operationAt 5 = .ok (.aload_n 0, 1) := by decide +kernel
theorem dX1_operationAt_6 : decode cX1_operationAt 6 = .ok (.getfield 88, 3) := by decide +kernel
theorem dX1_operationAt_9 : decode cX1_operationAt 9 = .ok (.if_icmp .ge 12, 3) := by decide +kernel
theorem dX1_operationAt_12 : decode cX1_operationAt 12 = .ok (.iload_n 1, 1) := by decide +kernel
theorem dX1_operationAt_13 : decode cX1_operationAt 13 = .ok (.aload_n 0, 1) := by decide +kernel
theorem dX1_operationAt_14 : decode cX1_operationAt 14 = .ok (.getfield 20, 3) := by decide +kernel
theorem dX1_operationAt_17 : decode cX1_operationAt 17 = .ok (.arraylength, 1) := by decide +kernel
theorem dX1_operationAt_18 : decode cX1_operationAt 18 = .ok (.if_icmp .lt 5, 3) := by decide +kernel
theorem dX1_operationAt_21 : decode cX1_operationAt 21 = .ok (.aconst_null, 1) := by decide +kernel
theorem dX1_operationAt_22 : decode cX1_operationAt 22 = .ok (.areturn, 1) := by decide +kernel
theorem dX1_operationAt_23 : decode cX1_operationAt 23 = .ok (.aload_n 0, 1) := by decide +kernel
theorem dX1_operationAt_24 : decode cX1_operationAt 24 = .ok (.getfield 20, 3) := by decide +kernel
theorem dX1_operationAt_27 : decode cX1_operationAt 27 = .ok (.iload_n 1, 1) := by decide +kernel
theorem dX1_operationAt_28 : decode cX1_operationAt 28 = .ok (.aaload, 1) := by decide +kernel
theorem dX1_operationAt_29 : decode cX1_operationAt 29 = .ok (.areturn, 1) := by decide +kernel
theorem dX1_writeAt_0 : decode cX1_writeAt 0 = .ok (.aload_n 1, 1) := by decide +kernel
theorem dX1_writeAt_1 : decode cX1_writeAt 1 = .ok (.ifnull 15, 3) := by decide +kernel
theorem dX1_writeAt_4 : decode cX1_writeAt 4 = .ok (.aload_n 2, 1) := by decide +kernel
theorem dX1_writeAt_5 : decode cX1_writeAt 5 = .ok (.ifnull 11, 3) := by decide +kernel
theorem dX1_writeAt_8 : decode cX1_writeAt 8 = .ok (.aload_n 1, 1) := by decide +kernel
theorem dX1_writeAt_9 : decode cX1_writeAt 9 = .ok (.aload_n 2, 1) := by decide +kernel
theorem dX1_writeAt_10 : decode cX1_writeAt 10 = .ok (.invokevirtual 95, 3) := by decide +kernel
theorem dX1_writeAt_13 : decode cX1_writeAt 13 = .ok (.ifCond .eq 4, 3) := by decide +kernel
theorem dX1_writeAt_16 : decode cX1_writeAt 16 = .ok (.return_, 1) := by decide +kernel
theorem dX1_writeAt_17 : decode cX1_writeAt 17 = .ok (.iload_n 3, 1) := by decide +kernel
theorem dX1_writeAt_18 : decode cX1_writeAt 18 = .ok (.aload_n 0, 1) := by decide +kernel
theorem dX1_writeAt_19 : decode cX1_writeAt 19 = .ok (.getfield 15, 3) := by decide +kernel
theorem dX1_writeAt_22 : decode cX1_writeAt 22 = .ok (.arraylength, 1) := by decide +kernel
theorem dX1_writeAt_23 : decode cX1_writeAt 23 = .ok (.if_icmp .ge 7, 3) := by decide +kernel
theorem dX1_writeAt_26 : decode cX1_writeAt 26 = .ok (.iconst 1, 1) := by decide +kernel
theorem dX1_writeAt_27 : decode cX1_writeAt 27 = .ok (.goto 4, 3) := by decide +kernel
theorem dX1_writeAt_30 : decode cX1_writeAt 30 = .ok (.iconst 0, 1) := by decide +kernel
theorem dX1_writeAt_31 : decode cX1_writeAt 31 = .ok (.istore 5, 2) := by decide +kernel
theorem dX1_writeAt_33 : decode cX1_writeAt 33 = .ok (.iload 5, 2) := by decide +kernel
theorem dX1_writeAt_35 : decode cX1_writeAt 35 = .ok (.ifCond .eq 43, 3) := by decide +kernel
theorem dX1_writeAt_38 : decode cX1_writeAt 38 = .ok (.aload_n 1, 1) := by decide +kernel
theorem dX1_writeAt_39 : decode cX1_writeAt 39 = .ok (.getfield 28, 3) := by decide +kernel
theorem dX1_writeAt_42 : decode cX1_writeAt 42 = .ok (.iconst 3, 1) := by decide +kernel
theorem dX1_writeAt_43 : decode cX1_writeAt 43 = .ok (.if_icmp .ne 35, 3) := by decide +kernel
theorem dX1_writeAt_46 : decode cX1_writeAt 46 = .ok (.aload_n 2, 1) := by decide +kernel
theorem dX1_writeAt_47 : decode cX1_writeAt 47 = .ok (.getfield 28, 3) := by decide +kernel
theorem dX1_writeAt_50 : decode cX1_writeAt 50 = .ok (.iconst 3, 1) := by decide +kernel
theorem dX1_writeAt_51 : decode cX1_writeAt 51 = .ok (.if_icmp .ne 27, 3) := by decide +kernel
theorem dX1_writeAt_54 : decode cX1_writeAt 54 = .ok (.aload_n 0, 1) := by decide +kernel
theorem dX1_writeAt_55 : decode cX1_writeAt 55 = .ok (.aload_n 1, 1) := by decide +kernel
theorem dX1_writeAt_56 : decode cX1_writeAt 56 = .ok (.aload_n 2, 1) := by decide +kernel
theorem dX1_writeAt_57 : decode cX1_writeAt 57 = .ok (.iload_n 3, 1) := by decide +kernel
theorem dX1_writeAt_58 : decode cX1_writeAt 58 = .ok (.iload 4, 2) := by decide +kernel
theorem dX1_writeAt_60 : decode cX1_writeAt 60 = .ok (.invokevirtual 34, 3) := by decide +kernel
theorem dX1_writeAt_63 : decode cX1_writeAt 63 = .ok (.ifCond .eq 15, 3) := by decide +kernel
theorem dX1_writeAt_66 : decode cX1_writeAt 66 = .ok (.aload_n 0, 1) := by decide +kernel
theorem dX1_writeAt_67 : decode cX1_writeAt 67 = .ok (.aload_n 1, 1) := by decide +kernel
theorem dX1_writeAt_68 : decode cX1_writeAt 68 = .ok (.aload_n 2, 1) := by decide +kernel
theorem dX1_writeAt_69 : decode cX1_writeAt 69 = .ok (.iload_n 3, 1) := by decide +kernel
theorem dX1_writeAt_70 : decode cX1_writeAt 70 = .ok (.iload 4, 2) := by decide +kernel
theorem dX1_writeAt_72 : decode cX1_writeAt 72 = .ok (.invokevirtual 99, 3) := by decide +kernel
theorem dX1_writeAt_75 : decode cX1_writeAt 75 = .ok (.goto 44, 3) := by decide +kernel
theorem dX1_writeAt_78 : decode cX1_writeAt 78 = .ok (.iload 5, 2) := by decide +kernel
theorem dX1_writeAt_80 : decode cX1_writeAt 80 = .ok (.ifCond .eq 31, 3) := by decide +kernel
theorem dX1_writeAt_83 : decode cX1_writeAt 83 = .ok (.aload_n 1, 1) := by decide +kernel
theorem dX1_writeAt_84 : decode cX1_writeAt 84 = .ok (.getfield 28, 3) := by decide +kernel
theorem dX1_writeAt_87 : decode cX1_writeAt 87 = .ok (.iconst 4, 1) := by decide +kernel
theorem dX1_writeAt_88 : decode cX1_writeAt 88 = .ok (.if_icmp .ne 23, 3) := by decide +kernel
theorem dX1_writeAt_91 : decode cX1_writeAt 91 = .ok (.aload_n 2, 1) := by decide +kernel
theorem dX1_writeAt_92 : decode cX1_writeAt 92 = .ok (.getfield 28, 3) := by decide +kernel
theorem dX1_writeAt_95 : decode cX1_writeAt 95 = .ok (.iconst 4, 1) := by decide +kernel
theorem dX1_writeAt_96 : decode cX1_writeAt 96 = .ok (.if_icmp .ne 15, 3) := by decide +kernel
theorem dX1_writeAt_99 : decode cX1_writeAt 99 = .ok (.aload_n 0, 1) := by decide +kernel
theorem dX1_writeAt_100 : decode cX1_writeAt 100 = .ok (.aload_n 1, 1) := by decide +kernel
theorem dX1_writeAt_101 : decode cX1_writeAt 101 = .ok (.aload_n 2, 1) := by decide +kernel
theorem dX1_writeAt_102 : decode cX1_writeAt 102 = .ok (.iload_n 3, 1) := by decide +kernel
theorem dX1_writeAt_103 : decode cX1_writeAt 103 = .ok (.iload 4, 2) := by decide +kernel
theorem dX1_writeAt_105 : decode cX1_writeAt 105 = .ok (.invokevirtual 102, 3) := by decide +kernel
theorem dX1_writeAt_108 : decode cX1_writeAt 108 = .ok (.goto 11, 3) := by decide +kernel
theorem dX1_writeAt_111 : decode cX1_writeAt 111 = .ok (.aload_n 0, 1) := by decide +kernel
theorem dX1_writeAt_112 : decode cX1_writeAt 112 = .ok (.iconst 2, 1) := by decide +kernel
theorem dX1_writeAt_113 : decode cX1_writeAt 113 = .ok (.iload_n 3, 1) := by decide +kernel
theorem dX1_writeAt_114 : decode cX1_writeAt 114 = .ok (.iconst 0, 1) := by decide +kernel
theorem dX1_writeAt_115 : decode cX1_writeAt 115 = .ok (.aload_n 2, 1) := by decide +kernel
theorem dX1_writeAt_116 : decode cX1_writeAt 116 = .ok (.invokevirtual 105, 3) := by decide +kernel
theorem dX1_writeAt_119 : decode cX1_writeAt 119 = .ok (.return_, 1) := by decide +kernel
theorem dX1_writeObjects_0 : decode cX1_writeObjects 0 = .ok (.iconst 0, 1) := by decide +kernel
theorem dX1_writeObjects_1 : decode cX1_writeObjects 1 = .ok (.istore 5, 2) := by decide +kernel
theorem dX1_writeObjects_3 : decode cX1_writeObjects 3 = .ok (.iconst 0, 1) := by decide +kernel
theorem dX1_writeObjects_4 : decode cX1_writeObjects 4 = .ok (.istore 6, 2) := by decide +kernel
theorem dX1_writeObjects_6 : decode cX1_writeObjects 6 = .ok (.aload_n 1, 1) := by decide +kernel
theorem dX1_writeObjects_7 : decode cX1_writeObjects 7 = .ok (.invokevirtual 47, 3) := by decide +kernel
theorem dX1_writeObjects_10 : decode cX1_writeObjects 10 = .ok (.aload_n 2, 1) := by decide +kernel
theorem dX1_writeObjects_11 : decode cX1_writeObjects 11 = .ok (.invokevirtual 47, 3) := by decide +kernel
theorem dX1_writeObjects_14 : decode cX1_writeObjects 14 = .ok (.iadd, 1) := by decide +kernel
theorem dX1_writeObjects_15 : decode cX1_writeObjects 15 = .ok (.istore 7, 2) := by decide +kernel
theorem dX1_writeObjects_17 : decode cX1_writeObjects 17 = .ok (.iload 7, 2) := by decide +kernel
theorem dX1_writeObjects_19 : decode cX1_writeObjects 19 = .ok (.ifCond .le 125, 3) := by decide +kernel
theorem dX1_writeObjects_22 : decode cX1_writeObjects 22 = .ok (.aload_n 1, 1) := by decide +kernel
theorem dX1_writeObjects_23 : decode cX1_writeObjects 23 = .ok (.iload 5, 2) := by decide +kernel
theorem dX1_writeObjects_25 : decode cX1_writeObjects 25 = .ok (.aload_n 2, 1) := by decide +kernel
theorem dX1_writeObjects_26 : decode cX1_writeObjects 26 = .ok (.iload 6, 2) := by decide +kernel
theorem dX1_writeObjects_28 : decode cX1_writeObjects 28 = .ok (.invokestatic 51, 3) := by decide +kernel
theorem dX1_writeObjects_31 : decode cX1_writeObjects 31 = .ok (.istore 8, 2) := by decide +kernel
theorem dX1_writeObjects_33 : decode cX1_writeObjects 33 = .ok (.iload 8, 2) := by decide +kernel
theorem dX1_writeObjects_35 : decode cX1_writeObjects 35 = .ok (.ifCond .ne 34, 3) := by decide +kernel
theorem dX1_writeObjects_38 : decode cX1_writeObjects 38 = .ok (.aload_n 0, 1) := by decide +kernel
theorem dX1_writeObjects_39 : decode cX1_writeObjects 39 = .ok (.aload_n 1, 1) := by decide +kernel
theorem dX1_writeObjects_40 : decode cX1_writeObjects 40 = .ok (.iload 5, 2) := by decide +kernel
theorem dX1_writeObjects_42 : decode cX1_writeObjects 42 = .ok (.invokevirtual 55, 3) := by decide +kernel
theorem dX1_writeObjects_45 : decode cX1_writeObjects 45 = .ok (.aload_n 2, 1) := by decide +kernel
theorem dX1_writeObjects_46 : decode cX1_writeObjects 46 = .ok (.iload 6, 2) := by decide +kernel
theorem dX1_writeObjects_48 : decode cX1_writeObjects 48 = .ok (.invokevirtual 55, 3) := by decide +kernel
theorem dX1_writeObjects_51 : decode cX1_writeObjects 51 = .ok (.aload_n 1, 1) := by decide +kernel
theorem dX1_writeObjects_52 : decode cX1_writeObjects 52 = .ok (.iload 5, 2) := by decide +kernel
theorem dX1_writeObjects_54 : decode cX1_writeObjects 54 = .ok (.invokevirtual 63, 3) := by decide +kernel
theorem dX1_writeObjects_57 : decode cX1_writeObjects 57 = .ok (.iload_n 3, 1) := by decide +kernel
theorem dX1_writeObjects_58 : decode cX1_writeObjects 58 = .ok (.iload 4, 2) := by decide +kernel
theorem dX1_writeObjects_60 : decode cX1_writeObjects 60 = .ok (.invokevirtual 109, 3) := by decide +kernel
theorem dX1_writeObjects_63 : decode cX1_writeObjects 63 = .ok (.iinc 7 (-1), 3) := by decide +kernel
theorem dX1_writeObjects_66 : decode cX1_writeObjects 66 = .ok (.goto 42, 3) := by decide +kernel
theorem dX1_writeObjects_69 : decode cX1_writeObjects 69 = .ok (.iload 8, 2) := by decide +kernel
theorem dX1_writeObjects_71 : decode cX1_writeObjects 71 = .ok (.ifCond .ge 19, 3) := by decide +kernel
theorem dX1_writeObjects_74 : decode cX1_writeObjects 74 = .ok (.aload_n 0, 1) := by decide +kernel
theorem dX1_writeObjects_75 : decode cX1_writeObjects 75 = .ok (.iconst 1, 1) := by decide +kernel
theorem dX1_writeObjects_76 : decode cX1_writeObjects 76 = .ok (.iload_n 3, 1) := by decide +kernel
theorem dX1_writeObjects_77 : decode cX1_writeObjects 77 = .ok (.aload_n 1, 1) := by decide +kernel
theorem dX1_writeObjects_78 : decode cX1_writeObjects 78 = .ok (.iload 5, 2) := by decide +kernel
theorem dX1_writeObjects_80 : decode cX1_writeObjects 80 = .ok (.invokevirtual 63, 3) := by decide +kernel
theorem dX1_writeObjects_83 : decode cX1_writeObjects 83 = .ok (.aconst_null, 1) := by decide +kernel
theorem dX1_writeObjects_84 : decode cX1_writeObjects 84 = .ok (.invokevirtual 105, 3) := by decide +kernel
theorem dX1_writeObjects_87 : decode cX1_writeObjects 87 = .ok (.goto 21, 3) := by decide +kernel
theorem dX1_writeObjects_90 : decode cX1_writeObjects 90 = .ok (.aload_n 0, 1) := by decide +kernel
theorem dX1_writeObjects_91 : decode cX1_writeObjects 91 = .ok (.iconst 0, 1) := by decide +kernel
theorem dX1_writeObjects_92 : decode cX1_writeObjects 92 = .ok (.iload_n 3, 1) := by decide +kernel
theorem dX1_writeObjects_93 : decode cX1_writeObjects 93 = .ok (.aload_n 2, 1) := by decide +kernel
theorem dX1_writeObjects_94 : decode cX1_writeObjects 94 = .ok (.iload 6, 2) := by decide +kernel
theorem dX1_writeObjects_96 : decode cX1_writeObjects 96 = .ok (.invokevirtual 63, 3) := by decide +kernel
theorem dX1_writeObjects_99 : decode cX1_writeObjects 99 = .ok (.aload_n 2, 1) := by decide +kernel
theorem dX1_writeObjects_100 : decode cX1_writeObjects 100 = .ok (.iload 6, 2) := by decide +kernel
theorem dX1_writeObjects_102 : decode cX1_writeObjects 102 = .ok (.invokevirtual 55, 3) := by decide +kernel
theorem dX1_writeObjects_105 : decode cX1_writeObjects 105 = .ok (.invokevirtual 105, 3) := by decide +kernel
theorem dX1_writeObjects_108 : decode cX1_writeObjects 108 = .ok (.iload 5, 2) := by decide +kernel
theorem dX1_writeObjects_110 : decode cX1_writeObjects 110 = .ok (.iload 8, 2) := by decide +kernel
theorem dX1_writeObjects_112 : decode cX1_writeObjects 112 = .ok (.ifCond .gt 7, 3) := by decide +kernel
theorem dX1_writeObjects_115 : decode cX1_writeObjects 115 = .ok (.iconst 1, 1) := by decide +kernel
theorem dX1_writeObjects_116 : decode cX1_writeObjects 116 = .ok (.goto 4, 3) := by decide +kernel
theorem dX1_writeObjects_119 : decode cX1_writeObjects 119 = .ok (.iconst 0, 1) := by decide +kernel
theorem dX1_writeObjects_120 : decode cX1_writeObjects 120 = .ok (.iadd, 1) := by decide +kernel
theorem dX1_writeObjects_121 : decode cX1_writeObjects 121 = .ok (.istore 5, 2) := by decide +kernel
theorem dX1_writeObjects_123 : decode cX1_writeObjects 123 = .ok (.iload 6, 2) := by decide +kernel
theorem dX1_writeObjects_125 : decode cX1_writeObjects 125 = .ok (.iload 8, 2) := by decide +kernel
theorem dX1_writeObjects_127 : decode cX1_writeObjects 127 = .ok (.ifCond .lt 7, 3) := by decide +kernel
theorem dX1_writeObjects_130 : decode cX1_writeObjects 130 = .ok (.iconst 1, 1) := by decide +kernel
theorem dX1_writeObjects_131 : decode cX1_writeObjects 131 = .ok (.goto 4, 3) := by decide +kernel
theorem dX1_writeObjects_134 : decode cX1_writeObjects 134 = .ok (.iconst 0, 1) := by decide +kernel
theorem dX1_writeObjects_135 : decode cX1_writeObjects 135 = .ok (.iadd, 1) := by decide +kernel
theorem dX1_writeObjects_136 : decode cX1_writeObjects 136 = .ok (.istore 6, 2) := by decide +kernel
theorem dX1_writeObjects_138 : decode cX1_writeObjects 138 = .ok (.iinc 7 (-1), 3) := by decide +kernel
theorem dX1_writeObjects_141 : decode cX1_writeObjects 141 = .ok (.goto (-124), 3) := by decide +kernel
theorem dX1_writeObjects_144 : decode cX1_writeObjects 144 = .ok (.return_, 1) := by decide +kernel
theorem dX1_writeBelow_0 : decode cX1_writeBelow 0 = .ok (.iload 4, 2) := by decide +kernel
theorem dX1_writeBelow_2 : decode cX1_writeBelow 2 = .ok (.ifCond .lt 33, 3) := by decide +kernel
theorem dX1_writeBelow_5 : decode cX1_writeBelow 5 = .ok (.iload 4, 2) := by decide +kernel
theorem dX1_writeBelow_7 : decode cX1_writeBelow 7 = .ok (.aload_n 0, 1) := by decide +kernel
theorem dX1_writeBelow_8 : decode cX1_writeBelow 8 = .ok (.getfield 15, 3) := by decide +kernel
theorem dX1_writeBelow_11 : decode cX1_writeBelow 11 = .ok (.arraylength, 1) := by decide +kernel
theorem dX1_writeBelow_12 : decode cX1_writeBelow 12 = .ok (.if_icmp .ge 23, 3) := by decide +kernel
theorem dX1_writeBelow_15 : decode cX1_writeBelow 15 = .ok (.aload_n 0, 1) := by decide +kernel
theorem dX1_writeBelow_16 : decode cX1_writeBelow 16 = .ok (.getfield 15, 3) := by decide +kernel
theorem dX1_writeBelow_19 : decode cX1_writeBelow 19 = .ok (.iload 4, 2) := by decide +kernel
theorem dX1_writeBelow_21 : decode cX1_writeBelow 21 = .ok (.iload_n 3, 1) := by decide +kernel
theorem dX1_writeBelow_22 : decode cX1_writeBelow 22 = .ok (.iastore, 1) := by decide +kernel
theorem dX1_writeBelow_23 : decode cX1_writeBelow 23 = .ok (.aload_n 0, 1) := by decide +kernel
theorem dX1_writeBelow_24 : decode cX1_writeBelow 24 = .ok (.aload_n 1, 1) := by decide +kernel
theorem dX1_writeBelow_25 : decode cX1_writeBelow 25 = .ok (.aload_n 2, 1) := by decide +kernel
theorem dX1_writeBelow_26 : decode cX1_writeBelow 26 = .ok (.iload 4, 2) := by decide +kernel
theorem dX1_writeBelow_28 : decode cX1_writeBelow 28 = .ok (.iconst 1, 1) := by decide +kernel
theorem dX1_writeBelow_29 : decode cX1_writeBelow 29 = .ok (.iadd, 1) := by decide +kernel
theorem dX1_writeBelow_30 : decode cX1_writeBelow 30 = .ok (.iload 5, 2) := by decide +kernel
theorem dX1_writeBelow_32 : decode cX1_writeBelow 32 = .ok (.invokevirtual 91, 3) := by decide +kernel
theorem dX1_writeBelow_35 : decode cX1_writeBelow 35 = .ok (.return_, 1) := by decide +kernel
theorem dX1_writeLists_0 : decode cX1_writeLists 0 = .ok (.iconst 0, 1) := by decide +kernel
theorem dX1_writeLists_1 : decode cX1_writeLists 1 = .ok (.istore 5, 2) := by decide +kernel
theorem dX1_writeLists_3 : decode cX1_writeLists 3 = .ok (.iconst 0, 1) := by decide +kernel
theorem dX1_writeLists_4 : decode cX1_writeLists 4 = .ok (.istore 6, 2) := by decide +kernel
theorem dX1_writeLists_6 : decode cX1_writeLists 6 = .ok (.aload_n 1, 1) := by decide +kernel
theorem dX1_writeLists_7 : decode cX1_writeLists 7 = .ok (.invokevirtual 47, 3) := by decide +kernel
theorem dX1_writeLists_10 : decode cX1_writeLists 10 = .ok (.aload_n 2, 1) := by decide +kernel
theorem dX1_writeLists_11 : decode cX1_writeLists 11 = .ok (.invokevirtual 47, 3) := by decide +kernel
theorem dX1_writeLists_14 : decode cX1_writeLists 14 = .ok (.iadd, 1) := by decide +kernel
theorem dX1_writeLists_15 : decode cX1_writeLists 15 = .ok (.istore 7, 2) := by decide +kernel
theorem dX1_writeLists_17 : decode cX1_writeLists 17 = .ok (.iload 7, 2) := by decide +kernel
theorem dX1_writeLists_19 : decode cX1_writeLists 19 = .ok (.ifCond .le 184, 3) := by decide +kernel
theorem dX1_writeLists_22 : decode cX1_writeLists 22 = .ok (.aload_n 0, 1) := by decide +kernel
theorem dX1_writeLists_23 : decode cX1_writeLists 23 = .ok (.aload_n 1, 1) := by decide +kernel
theorem dX1_writeLists_24 : decode cX1_writeLists 24 = .ok (.iload 5, 2) := by decide +kernel
theorem dX1_writeLists_26 : decode cX1_writeLists 26 = .ok (.aload_n 2, 1) := by decide +kernel
theorem dX1_writeLists_27 : decode cX1_writeLists 27 = .ok (.iload 6, 2) := by decide +kernel
theorem dX1_writeLists_29 : decode cX1_writeLists 29 = .ok (.iload 4, 2) := by decide +kernel
theorem dX1_writeLists_31 : decode cX1_writeLists 31 = .ok (.invokevirtual 71, 3) := by decide +kernel
theorem dX1_writeLists_34 : decode cX1_writeLists 34 = .ok (.istore 8, 2) := by decide +kernel
theorem dX1_writeLists_36 : decode cX1_writeLists 36 = .ok (.iload 5, 2) := by decide +kernel
theorem dX1_writeLists_38 : decode cX1_writeLists 38 = .ok (.aload_n 1, 1) := by decide +kernel
theorem dX1_writeLists_39 : decode cX1_writeLists 39 = .ok (.invokevirtual 47, 3) := by decide +kernel
theorem dX1_writeLists_42 : decode cX1_writeLists 42 = .ok (.if_icmp .ge 7, 3) := by decide +kernel
theorem dX1_writeLists_45 : decode cX1_writeLists 45 = .ok (.iconst 1, 1) := by decide +kernel
theorem dX1_writeLists_46 : decode cX1_writeLists 46 = .ok (.goto 4, 3) := by decide +kernel
theorem dX1_writeLists_49 : decode cX1_writeLists 49 = .ok (.iconst 0, 1) := by decide +kernel
theorem dX1_writeLists_50 : decode cX1_writeLists 50 = .ok (.istore 9, 2) := by decide +kernel
theorem dX1_writeLists_52 : decode cX1_writeLists 52 = .ok (.iload 6, 2) := by decide +kernel
theorem dX1_writeLists_54 : decode cX1_writeLists 54 = .ok (.aload_n 2, 1) := by decide +kernel
theorem dX1_writeLists_55 : decode cX1_writeLists 55 = .ok (.invokevirtual 47, 3) := by decide +kernel
theorem dX1_writeLists_58 : decode cX1_writeLists 58 = .ok (.if_icmp .ge 7, 3) := by decide +kernel
theorem dX1_writeLists_61 : decode cX1_writeLists 61 = .ok (.iconst 1, 1) := by decide +kernel
theorem dX1_writeLists_62 : decode cX1_writeLists 62 = .ok (.goto 4, 3) := by decide +kernel
theorem dX1_writeLists_65 : decode cX1_writeLists 65 = .ok (.iconst 0, 1) := by decide +kernel
theorem dX1_writeLists_66 : decode cX1_writeLists 66 = .ok (.istore 10, 2) := by decide +kernel
theorem dX1_writeLists_68 : decode cX1_writeLists 68 = .ok (.iload 9, 2) := by decide +kernel
theorem dX1_writeLists_70 : decode cX1_writeLists 70 = .ok (.ifCond .eq 64, 3) := by decide +kernel
theorem dX1_writeLists_73 : decode cX1_writeLists 73 = .ok (.iload 10, 2) := by decide +kernel
theorem dX1_writeLists_75 : decode cX1_writeLists 75 = .ok (.ifCond .eq 59, 3) := by decide +kernel
theorem dX1_writeLists_78 : decode cX1_writeLists 78 = .ok (.iload 8, 2) := by decide +kernel
theorem dX1_writeLists_80 : decode cX1_writeLists 80 = .ok (.aload_n 0, 1) := by decide +kernel
theorem dX1_writeLists_81 : decode cX1_writeLists 81 = .ok (.aload_n 1, 1) := by decide +kernel
theorem dX1_writeLists_82 : decode cX1_writeLists 82 = .ok (.iload 5, 2) := by decide +kernel
theorem dX1_writeLists_84 : decode cX1_writeLists 84 = .ok (.aload_n 2, 1) := by decide +kernel
theorem dX1_writeLists_85 : decode cX1_writeLists 85 = .ok (.iload 6, 2) := by decide +kernel
theorem dX1_writeLists_87 : decode cX1_writeLists 87 = .ok (.iload_n 3, 1) := by decide +kernel
theorem dX1_writeLists_88 : decode cX1_writeLists 88 = .ok (.iload 4, 2) := by decide +kernel
theorem dX1_writeLists_90 : decode cX1_writeLists 90 = .ok (.invokevirtual 81, 3) := by decide +kernel
theorem dX1_writeLists_93 : decode cX1_writeLists 93 = .ok (.if_icmp .ne 41, 3) := by decide +kernel
theorem dX1_writeLists_96 : decode cX1_writeLists 96 = .ok (.aload_n 0, 1) := by decide +kernel
theorem dX1_writeLists_97 : decode cX1_writeLists 97 = .ok (.aload_n 1, 1) := by decide +kernel
theorem dX1_writeLists_98 : decode cX1_writeLists 98 = .ok (.iload 5, 2) := by decide +kernel
theorem dX1_writeLists_100 : decode cX1_writeLists 100 = .ok (.invokevirtual 55, 3) := by decide +kernel
theorem dX1_writeLists_103 : decode cX1_writeLists 103 = .ok (.aload_n 2, 1) := by decide +kernel
theorem dX1_writeLists_104 : decode cX1_writeLists 104 = .ok (.iload 6, 2) := by decide +kernel
theorem dX1_writeLists_106 : decode cX1_writeLists 106 = .ok (.invokevirtual 55, 3) := by decide +kernel
theorem dX1_writeLists_109 : decode cX1_writeLists 109 = .ok (.iload 6, 2) := by decide +kernel
theorem dX1_writeLists_111 : decode cX1_writeLists 111 = .ok (.iload_n 3, 1) := by decide +kernel
theorem dX1_writeLists_112 : decode cX1_writeLists 112 = .ok (.aload_n 1, 1) := by decide +kernel
theorem dX1_writeLists_113 : decode cX1_writeLists 113 = .ok (.aload_n 2, 1) := by decide +kernel
theorem dX1_writeLists_114 : decode cX1_writeLists 114 = .ok (.iload 4, 2) := by decide +kernel
theorem dX1_writeLists_116 : decode cX1_writeLists 116 = .ok (.invokestatic 84, 3) := by decide +kernel
theorem dX1_writeLists_119 : decode cX1_writeLists 119 = .ok (.invokevirtual 109, 3) := by decide +kernel
theorem dX1_writeLists_122 : decode cX1_writeLists 122 = .ok (.iinc 5 1, 3) := by decide +kernel
theorem dX1_writeLists_125 : decode cX1_writeLists 125 = .ok (.iinc 6 1, 3) := by decide +kernel
theorem dX1_writeLists_128 : decode cX1_writeLists 128 = .ok (.iinc 7 (-1), 3) := by decide +kernel
theorem dX1_writeLists_131 : decode cX1_writeLists 131 = .ok (.goto 66, 3) := by decide +kernel
theorem dX1_writeLists_134 : decode cX1_writeLists 134 = .ok (.iload 9, 2) := by decide +kernel
theorem dX1_writeLists_136 : decode cX1_writeLists 136 = .ok (.ifCond .eq 44, 3) := by decide +kernel
theorem dX1_writeLists_139 : decode cX1_writeLists 139 = .ok (.iload 8, 2) := by decide +kernel
theorem dX1_writeLists_141 : decode cX1_writeLists 141 = .ok (.aload_n 1, 1) := by decide +kernel
theorem dX1_writeLists_142 : decode cX1_writeLists 142 = .ok (.iload 5, 2) := by decide +kernel
theorem dX1_writeLists_144 : decode cX1_writeLists 144 = .ok (.invokestatic 59, 3) := by decide +kernel
theorem dX1_writeLists_147 : decode cX1_writeLists 147 = .ok (.aload_n 0, 1) := by decide +kernel
theorem dX1_writeLists_148 : decode cX1_writeLists 148 = .ok (.aload_n 1, 1) := by decide +kernel
theorem dX1_writeLists_149 : decode cX1_writeLists 149 = .ok (.iload 5, 2) := by decide +kernel
theorem dX1_writeLists_151 : decode cX1_writeLists 151 = .ok (.iconst 1, 1) := by decide +kernel
theorem dX1_writeLists_152 : decode cX1_writeLists 152 = .ok (.iadd, 1) := by decide +kernel
theorem dX1_writeLists_153 : decode cX1_writeLists 153 = .ok (.aload_n 2, 1) := by decide +kernel
theorem dX1_writeLists_154 : decode cX1_writeLists 154 = .ok (.iload 6, 2) := by decide +kernel
theorem dX1_writeLists_156 : decode cX1_writeLists 156 = .ok (.iload 4, 2) := by decide +kernel
theorem dX1_writeLists_158 : decode cX1_writeLists 158 = .ok (.invokevirtual 71, 3) := by decide +kernel
theorem dX1_writeLists_161 : decode cX1_writeLists 161 = .ok (.iadd, 1) := by decide +kernel
theorem dX1_writeLists_162 : decode cX1_writeLists 162 = .ok (.if_icmp .ne 18, 3) := by decide +kernel
theorem dX1_writeLists_165 : decode cX1_writeLists 165 = .ok (.aload_n 0, 1) := by decide +kernel
theorem dX1_writeLists_166 : decode cX1_writeLists 166 = .ok (.iconst 1, 1) := by decide +kernel
theorem dX1_writeLists_167 : decode cX1_writeLists 167 = .ok (.iload_n 3, 1) := by decide +kernel
theorem dX1_writeLists_168 : decode cX1_writeLists 168 = .ok (.iload 6, 2) := by decide +kernel
theorem dX1_writeLists_170 : decode cX1_writeLists 170 = .ok (.aconst_null, 1) := by decide +kernel
theorem dX1_writeLists_171 : decode cX1_writeLists 171 = .ok (.invokevirtual 105, 3) := by decide +kernel
theorem dX1_writeLists_174 : decode cX1_writeLists 174 = .ok (.iinc 5 1, 3) := by decide +kernel
theorem dX1_writeLists_177 : decode cX1_writeLists 177 = .ok (.goto 20, 3) := by decide +kernel
theorem dX1_writeLists_180 : decode cX1_writeLists 180 = .ok (.aload_n 0, 1) := by decide +kernel
theorem dX1_writeLists_181 : decode cX1_writeLists 181 = .ok (.iconst 0, 1) := by decide +kernel
theorem dX1_writeLists_182 : decode cX1_writeLists 182 = .ok (.iload_n 3, 1) := by decide +kernel
theorem dX1_writeLists_183 : decode cX1_writeLists 183 = .ok (.iload 6, 2) := by decide +kernel
theorem dX1_writeLists_185 : decode cX1_writeLists 185 = .ok (.aload_n 2, 1) := by decide +kernel
theorem dX1_writeLists_186 : decode cX1_writeLists 186 = .ok (.iload 6, 2) := by decide +kernel
theorem dX1_writeLists_188 : decode cX1_writeLists 188 = .ok (.invokevirtual 55, 3) := by decide +kernel
theorem dX1_writeLists_191 : decode cX1_writeLists 191 = .ok (.invokevirtual 105, 3) := by decide +kernel
theorem dX1_writeLists_194 : decode cX1_writeLists 194 = .ok (.iinc 6 1, 3) := by decide +kernel
theorem dX1_writeLists_197 : decode cX1_writeLists 197 = .ok (.iinc 7 (-1), 3) := by decide +kernel
theorem dX1_writeLists_200 : decode cX1_writeLists 200 = .ok (.goto (-183), 3) := by decide +kernel
theorem dX1_writeLists_203 : decode cX1_writeLists 203 = .ok (.return_, 1) := by decide +kernel
theorem dX1_note_0 : decode cX1_note 0 = .ok (.aload_n 0, 1) := by decide +kernel
theorem dX1_note_1 : decode cX1_note 1 = .ok (.getfield 88, 3) := by decide +kernel
theorem dX1_note_4 : decode cX1_note 4 = .ok (.ifCond .lt 56, 3) := by decide +kernel
theorem dX1_note_7 : decode cX1_note 7 = .ok (.aload_n 0, 1) := by decide +kernel
theorem dX1_note_8 : decode cX1_note 8 = .ok (.getfield 88, 3) := by decide +kernel
theorem dX1_note_11 : decode cX1_note 11 = .ok (.aload_n 0, 1) := by decide +kernel
theorem dX1_note_12 : decode cX1_note 12 = .ok (.getfield 20, 3) := by decide +kernel
theorem dX1_note_15 : decode cX1_note 15 = .ok (.arraylength, 1) := by decide +kernel
theorem dX1_note_16 : decode cX1_note 16 = .ok (.if_icmp .ge 44, 3) := by decide +kernel
theorem dX1_note_19 : decode cX1_note 19 = .ok (.iload_n 2, 1) := by decide +kernel
theorem dX1_note_20 : decode cX1_note 20 = .ok (.ifCond .lt 40, 3) := by decide +kernel
theorem dX1_note_23 : decode cX1_note 23 = .ok (.iload_n 2, 1) := by decide +kernel
theorem dX1_note_24 : decode cX1_note 24 = .ok (.aload_n 0, 1) := by decide +kernel
theorem dX1_note_25 : decode cX1_note 25 = .ok (.getfield 15, 3) := by decide +kernel
theorem dX1_note_28 : decode cX1_note 28 = .ok (.arraylength, 1) := by decide +kernel
theorem dX1_note_29 : decode cX1_note 29 = .ok (.if_icmp .gt 31, 3) := by decide +kernel
theorem dX1_note_32 : decode cX1_note 32 = .ok (.aload_n 0, 1) := by decide +kernel
theorem dX1_note_33 : decode cX1_note 33 = .ok (.getfield 20, 3) := by decide +kernel
theorem dX1_note_36 : decode cX1_note 36 = .ok (.aload_n 0, 1) := by decide +kernel
theorem dX1_note_37 : decode cX1_note 37 = .ok (.getfield 88, 3) := by decide +kernel
theorem dX1_note_40 : decode cX1_note 40 = .ok (.new 18, 3) := by decide +kernel
theorem dX1_note_43 : decode cX1_note 43 = .ok (.dup, 1) := by decide +kernel
theorem dX1_note_44 : decode cX1_note 44 = .ok (.iload_n 1, 1) := by decide +kernel
theorem dX1_note_45 : decode cX1_note 45 = .ok (.aload_n 0, 1) := by decide +kernel
theorem dX1_note_46 : decode cX1_note 46 = .ok (.getfield 15, 3) := by decide +kernel
theorem dX1_note_49 : decode cX1_note 49 = .ok (.iload_n 2, 1) := by decide +kernel
theorem dX1_note_50 : decode cX1_note 50 = .ok (.invokestatic 113, 3) := by decide +kernel
theorem dX1_note_53 : decode cX1_note 53 = .ok (.iload_n 3, 1) := by decide +kernel
theorem dX1_note_54 : decode cX1_note 54 = .ok (.aload 4, 2) := by decide +kernel
theorem dX1_note_56 : decode cX1_note 56 = .ok (.invokespecial 119, 3) := by decide +kernel
theorem dX1_note_59 : decode cX1_note 59 = .ok (.aastore, 1) := by decide +kernel
theorem dX1_note_60 : decode cX1_note 60 = .ok (.aload_n 0, 1) := by decide +kernel
theorem dX1_note_61 : decode cX1_note 61 = .ok (.dup, 1) := by decide +kernel
theorem dX1_note_62 : decode cX1_note 62 = .ok (.getfield 88, 3) := by decide +kernel
theorem dX1_note_65 : decode cX1_note 65 = .ok (.iconst 1, 1) := by decide +kernel
theorem dX1_note_66 : decode cX1_note 66 = .ok (.iadd, 1) := by decide +kernel
theorem dX1_note_67 : decode cX1_note 67 = .ok (.putfield 88, 3) := by decide +kernel
theorem dX1_note_70 : decode cX1_note 70 = .ok (.return_, 1) := by decide +kernel
theorem dX2_init_0 : decode cX2_init 0 = .ok (.aload_n 0, 1) := by decide +kernel
theorem dX2_init_1 : decode cX2_init 1 = .ok (.invokespecial 3, 3) := by decide +kernel
theorem dX2_init_4 : decode cX2_init 4 = .ok (.aload_n 0, 1) := by decide +kernel
theorem dX2_init_5 : decode cX2_init 5 = .ok (.bipush 6, 2) := by decide +kernel
theorem dX2_init_7 : decode cX2_init 7 = .ok (.anewarray 9, 3) := by decide +kernel
theorem dX2_init_10 : decode cX2_init 10 = .ok (.putfield 11, 3) := by decide +kernel
theorem dX2_init_13 : decode cX2_init 13 = .ok (.aload_n 0, 1) := by decide +kernel
theorem dX2_init_14 : decode cX2_init 14 = .ok (.bipush 6, 2) := by decide +kernel
theorem dX2_init_16 : decode cX2_init 16 = .ok (.newarray .int, 2) := by decide +kernel
theorem dX2_init_18 : decode cX2_init 18 = .ok (.putfield 17, 3) := by decide +kernel
theorem dX2_init_21 : decode cX2_init 21 = .ok (.aload_n 0, 1) := by decide +kernel
theorem dX2_init_22 : decode cX2_init 22 = .ok (.aload_n 1, 1) := by decide +kernel
theorem dX2_init_23 : decode cX2_init 23 = .ok (.putfield 21, 3) := by decide +kernel
theorem dX2_init_26 : decode cX2_init 26 = .ok (.return_, 1) := by decide +kernel
theorem dX2_begin_0 : decode cX2_begin 0 = .ok (.aload_n 0, 1) := by decide +kernel
theorem dX2_begin_1 : decode cX2_begin 1 = .ok (.aload_n 1, 1) := by decide +kernel
theorem dX2_begin_2 : decode cX2_begin 2 = .ok (.putfield 21, 3) := by decide +kernel
theorem dX2_begin_5 : decode cX2_begin 5 = .ok (.aload_n 0, 1) := by decide +kernel
theorem dX2_begin_6 : decode cX2_begin 6 = .ok (.aconst_null, 1) := by decide +kernel
theorem dX2_begin_7 : decode cX2_begin 7 = .ok (.putfield 25, 3) := by decide +kernel
theorem dX2_begin_10 : decode cX2_begin 10 = .ok (.return_, 1) := by decide +kernel
theorem dX2_isAllowed_0 : decode cX2_isAllowed 0 = .ok (.aload_n 0, 1) := by decide +kernel
theorem dX2_isAllowed_1 : decode cX2_isAllowed 1 = .ok (.getfield 21, 3) := by decide +kernel
theorem dX2_isAllowed_4 : decode cX2_isAllowed 4 = .ok (.getfield 28, 3) := by decide +kernel
theorem dX2_isAllowed_7 : decode cX2_isAllowed 7 = .ok (.bipush 50, 2) := by decide +kernel
theorem dX2_isAllowed_9 : decode cX2_isAllowed 9 = .ok (.if_icmp .gt 19, 3) := by decide +kernel
theorem dX2_isAllowed_12 : decode cX2_isAllowed 12 = .ok (.aload_n 0, 1) := by decide +kernel
theorem dX2_isAllowed_13 : decode cX2_isAllowed 13 = .ok (.getfield 21, 3) := by decide +kernel
theorem dX2_isAllowed_16 : decode cX2_isAllowed 16 = .ok (.getfield 32, 3) := by decide +kernel
theorem dX2_isAllowed_19 : decode cX2_isAllowed 19 = .ok (.bipush 7, 2) := by decide +kernel
theorem dX2_isAllowed_21 : decode cX2_isAllowed 21 = .ok (.if_icmp .gt 7, 3) := by decide +kernel
theorem dX2_isAllowed_24 : decode cX2_isAllowed 24 = .ok (.iconst 1, 1) := by decide +kernel
theorem dX2_isAllowed_25 : decode cX2_isAllowed 25 = .ok (.goto 4, 3) := by decide +kernel
theorem dX2_isAllowed_28 : decode cX2_isAllowed 28 = .ok (.iconst 0, 1) := by decide +kernel
theorem dX2_isAllowed_29 : decode cX2_isAllowed 29 = .ok (.ireturn, 1) := by decide +kernel
theorem dX2_perform_0 : decode cX2_perform 0 = .ok (.aload_n 1, 1) := by decide +kernel
theorem dX2_perform_1 : decode cX2_perform 1 = .ok (.getfield 35, 3) := by decide +kernel
theorem dX2_perform_4 : decode cX2_perform 4 = .ok (.astore_n 2, 1) := by decide +kernel
theorem dX2_perform_5 : decode cX2_perform 5 = .ok (.aload_n 1, 1) := by decide +kernel
theorem dX2_perform_6 : decode cX2_perform 6 = .ok (.getfield 40, 3) := by decide +kernel
theorem dX2_perform_9 : decode cX2_perform 9 = .ok (.tableswitch 67 0 2 #[27, 43, 55], 27) := by decide +kernel
theorem dX2_perform_36 : decode cX2_perform 36 = .ok (.aload_n 0, 1) := by decide +kernel
theorem dX2_perform_37 : decode cX2_perform 37 = .ok (.aload_n 2, 1) := by decide +kernel
theorem dX2_perform_38 : decode cX2_perform 38 = .ok (.aload_n 2, 1) := by decide +kernel
theorem dX2_perform_39 : decode cX2_perform 39 = .ok (.arraylength, 1) := by decide +kernel
theorem dX2_perform_40 : decode cX2_perform 40 = .ok (.aload_n 1, 1) := by decide +kernel
theorem dX2_perform_41 : decode cX2_perform 41 = .ok (.getfield 43, 3) := by decide +kernel
theorem dX2_perform_44 : decode cX2_perform 44 = .ok (.aload_n 1, 1) := by decide +kernel
theorem dX2_perform_45 : decode cX2_perform 45 = .ok (.getfield 46, 3) := by decide +kernel
theorem dX2_perform_48 : decode cX2_perform 48 = .ok (.invokevirtual 49, 3) := by decide +kernel
theorem dX2_perform_51 : decode cX2_perform 51 = .ok (.ireturn, 1) := by decide +kernel
theorem dX2_perform_52 : decode cX2_perform 52 = .ok (.aload_n 0, 1) := by decide +kernel
theorem dX2_perform_53 : decode cX2_perform 53 = .ok (.aload_n 2, 1) := by decide +kernel
theorem dX2_perform_54 : decode cX2_perform 54 = .ok (.aload_n 2, 1) := by decide +kernel
theorem dX2_perform_55 : decode cX2_perform 55 = .ok (.arraylength, 1) := by decide +kernel
theorem dX2_perform_56 : decode cX2_perform 56 = .ok (.aload_n 1, 1) := by decide +kernel
theorem dX2_perform_57 : decode cX2_perform 57 = .ok (.getfield 43, 3) := by decide +kernel
theorem dX2_perform_60 : decode cX2_perform 60 = .ok (.invokevirtual 53, 3) := by decide +kernel
theorem dX2_perform_63 : decode cX2_perform 63 = .ok (.ireturn, 1) := by decide +kernel
theorem dX2_perform_64 : decode cX2_perform 64 = .ok (.aload_n 0, 1) := by decide +kernel
theorem dX2_perform_65 : decode cX2_perform 65 = .ok (.aload_n 2, 1) := by decide +kernel
theorem dX2_perform_66 : decode cX2_perform 66 = .ok (.aload_n 2, 1) := by decide +kernel
theorem dX2_perform_67 : decode cX2_perform 67 = .ok (.arraylength, 1) := by decide +kernel
theorem dX2_perform_68 : decode cX2_perform 68 = .ok (.aload_n 1, 1) := by decide +kernel
theorem dX2_perform_69 : decode cX2_perform 69 = .ok (.getfield 46, 3) := by decide +kernel
theorem dX2_perform_72 : decode cX2_perform 72 = .ok (.invokevirtual 57, 3) := by decide +kernel
theorem dX2_perform_75 : decode cX2_perform 75 = .ok (.ireturn, 1) := by decide +kernel
theorem dX2_perform_76 : decode cX2_perform 76 = .ok (.aload_n 0, 1) := by decide +kernel
theorem dX2_perform_77 : decode cX2_perform 77 = .ok (.aload_n 2, 1) := by decide +kernel
theorem dX2_perform_78 : decode cX2_perform 78 = .ok (.aload_n 2, 1) := by decide +kernel
theorem dX2_perform_79 : decode cX2_perform 79 = .ok (.arraylength, 1) := by decide +kernel
theorem dX2_perform_80 : decode cX2_perform 80 = .ok (.aload_n 1, 1) := by decide +kernel
theorem dX2_perform_81 : decode cX2_perform 81 = .ok (.getfield 46, 3) := by decide +kernel
theorem dX2_perform_84 : decode cX2_perform 84 = .ok (.invokevirtual 61, 3) := by decide +kernel
theorem dX2_perform_87 : decode cX2_perform 87 = .ok (.ireturn, 1) := by decide +kernel
theorem dX2_addAt_0 : decode cX2_addAt 0 = .ok (.aload_n 0, 1) := by decide +kernel
theorem dX2_addAt_1 : decode cX2_addAt 1 = .ok (.aload_n 1, 1) := by decide +kernel
theorem dX2_addAt_2 : decode cX2_addAt 2 = .ok (.iload_n 2, 1) := by decide +kernel
theorem dX2_addAt_3 : decode cX2_addAt 3 = .ok (.invokevirtual 64, 3) := by decide +kernel
theorem dX2_addAt_6 : decode cX2_addAt 6 = .ok (.astore 5, 2) := by decide +kernel
theorem dX2_addAt_8 : decode cX2_addAt 8 = .ok (.aload_n 0, 1) := by decide +kernel
theorem dX2_addAt_9 : decode cX2_addAt 9 = .ok (.aconst_null, 1) := by decide +kernel
theorem dX2_addAt_10 : decode cX2_addAt 10 = .ok (.putfield 25, 3) := by decide +kernel
theorem dX2_addAt_13 : decode cX2_addAt 13 = .ok (.aload 5, 2) := by decide +kernel
theorem dX2_addAt_15 : decode cX2_addAt 15 = .ok (.ifnull 8, 3) := by decide +kernel
theorem dX2_addAt_18 : decode cX2_addAt 18 = .ok (.aload 4, 2) := by decide +kernel
theorem dX2_addAt_20 : decode cX2_addAt 20 = .ok (.ifnonnull 5, 3) := by decide +kernel
theorem dX2_addAt_23 : decode cX2_addAt 23 = .ok (.iconst 0, 1) := by decide +kernel
theorem dX2_addAt_24 : decode cX2_addAt 24 = .ok (.ireturn, 1) := by decide +kernel
theorem dX2_addAt_25 : decode cX2_addAt 25 = .ok (.aload 5, 2) := by decide +kernel
theorem dX2_addAt_27 : decode cX2_addAt 27 = .ok (.iload_n 3, 1) := by decide +kernel
theorem dX2_addAt_28 : decode cX2_addAt 28 = .ok (.invokevirtual 68, 3) := by decide +kernel
theorem dX2_addAt_31 : decode cX2_addAt 31 = .ok (.istore 6, 2) := by decide +kernel
theorem dX2_addAt_33 : decode cX2_addAt 33 = .ok (.iload 6, 2) := by decide +kernel
theorem dX2_addAt_35 : decode cX2_addAt 35 = .ok (.ifCond .ge 5, 3) := by decide +kernel
theorem dX2_addAt_38 : decode cX2_addAt 38 = .ok (.iconst 0, 1) := by decide +kernel
