theorem dX2_addAt_39 : decode cX2_addAt 39 = .ok (.ireturn, 1) := by decide +kernel
theorem dX2_addAt_40 : decode cX2_addAt 40 = .ok (.aload_n 0, 1) := by decide +kernel
theorem dX2_addAt_41 : decode cX2_addAt 41 = .ok (.aload 5, 2) := by decide +kernel
theorem dX2_addAt_43 : decode cX2_addAt 43 = .ok (.iload 6, 2) := by decide +kernel
theorem dX2_addAt_45 : decode cX2_addAt 45 = .ok (.iload_n 3, 1) := by decide +kernel
theorem dX2_addAt_46 : decode cX2_addAt 46 = .ok (.aload 4, 2) := by decide +kernel
theorem dX2_addAt_48 : decode cX2_addAt 48 = .ok (.invokevirtual 72, 3) := by decide +kernel
theorem dX2_addAt_51 : decode cX2_addAt 51 = .ok (.invokevirtual 76, 3) := by decide +kernel
theorem dX2_addAt_54 : decode cX2_addAt 54 = .ok (.iconst 1, 1) := by decide +kernel
theorem dX2_addAt_55 : decode cX2_addAt 55 = .ok (.ireturn, 1) := by decide +kernel
theorem dX2_dropAt_0 : decode cX2_dropAt 0 = .ok (.aload_n 0, 1) := by decide +kernel
theorem dX2_dropAt_1 : decode cX2_dropAt 1 = .ok (.aload_n 1, 1) := by decide +kernel
theorem dX2_dropAt_2 : decode cX2_dropAt 2 = .ok (.iload_n 2, 1) := by decide +kernel
theorem dX2_dropAt_3 : decode cX2_dropAt 3 = .ok (.invokevirtual 64, 3) := by decide +kernel
theorem dX2_dropAt_6 : decode cX2_dropAt 6 = .ok (.astore 4, 2) := by decide +kernel
theorem dX2_dropAt_8 : decode cX2_dropAt 8 = .ok (.aload_n 0, 1) := by decide +kernel
theorem dX2_dropAt_9 : decode cX2_dropAt 9 = .ok (.aconst_null, 1) := by decide +kernel
theorem dX2_dropAt_10 : decode cX2_dropAt 10 = .ok (.putfield 25, 3) := by decide +kernel
theorem dX2_dropAt_13 : decode cX2_dropAt 13 = .ok (.aload 4, 2) := by decide +kernel
theorem dX2_dropAt_15 : decode cX2_dropAt 15 = .ok (.ifnonnull 5, 3) := by decide +kernel
theorem dX2_dropAt_18 : decode cX2_dropAt 18 = .ok (.iconst 0, 1) := by decide +kernel
theorem dX2_dropAt_19 : decode cX2_dropAt 19 = .ok (.ireturn, 1) := by decide +kernel
theorem dX2_dropAt_20 : decode cX2_dropAt 20 = .ok (.aload 4, 2) := by decide +kernel
theorem dX2_dropAt_22 : decode cX2_dropAt 22 = .ok (.iload_n 3, 1) := by decide +kernel
theorem dX2_dropAt_23 : decode cX2_dropAt 23 = .ok (.invokevirtual 80, 3) := by decide +kernel
theorem dX2_dropAt_26 : decode cX2_dropAt 26 = .ok (.istore 5, 2) := by decide +kernel
theorem dX2_dropAt_28 : decode cX2_dropAt 28 = .ok (.iload 5, 2) := by decide +kernel
theorem dX2_dropAt_30 : decode cX2_dropAt 30 = .ok (.ifCond .ge 5, 3) := by decide +kernel
theorem dX2_dropAt_33 : decode cX2_dropAt 33 = .ok (.iconst 0, 1) := by decide +kernel
theorem dX2_dropAt_34 : decode cX2_dropAt 34 = .ok (.ireturn, 1) := by decide +kernel
theorem dX2_dropAt_35 : decode cX2_dropAt 35 = .ok (.aload_n 0, 1) := by decide +kernel
theorem dX2_dropAt_36 : decode cX2_dropAt 36 = .ok (.aload 4, 2) := by decide +kernel
theorem dX2_dropAt_38 : decode cX2_dropAt 38 = .ok (.iload 5, 2) := by decide +kernel
theorem dX2_dropAt_40 : decode cX2_dropAt 40 = .ok (.invokevirtual 83, 3) := by decide +kernel
theorem dX2_dropAt_43 : decode cX2_dropAt 43 = .ok (.putfield 25, 3) := by decide +kernel
theorem dX2_dropAt_46 : decode cX2_dropAt 46 = .ok (.aload_n 0, 1) := by decide +kernel
theorem dX2_dropAt_47 : decode cX2_dropAt 47 = .ok (.aload 4, 2) := by decide +kernel
theorem dX2_dropAt_49 : decode cX2_dropAt 49 = .ok (.iload 5, 2) := by decide +kernel
theorem dX2_dropAt_51 : decode cX2_dropAt 51 = .ok (.invokevirtual 87, 3) := by decide +kernel
theorem dX2_dropAt_54 : decode cX2_dropAt 54 = .ok (.invokevirtual 76, 3) := by decide +kernel
theorem dX2_dropAt_57 : decode cX2_dropAt 57 = .ok (.iconst 1, 1) := by decide +kernel
theorem dX2_dropAt_58 : decode cX2_dropAt 58 = .ok (.ireturn, 1) := by decide +kernel
theorem dX2_putAt_0 : decode cX2_putAt 0 = .ok (.aload_n 0, 1) := by decide +kernel
theorem dX2_putAt_1 : decode cX2_putAt 1 = .ok (.aload_n 1, 1) := by decide +kernel
theorem dX2_putAt_2 : decode cX2_putAt 2 = .ok (.iload_n 2, 1) := by decide +kernel
theorem dX2_putAt_3 : decode cX2_putAt 3 = .ok (.invokevirtual 64, 3) := by decide +kernel
theorem dX2_putAt_6 : decode cX2_putAt 6 = .ok (.astore 4, 2) := by decide +kernel
theorem dX2_putAt_8 : decode cX2_putAt 8 = .ok (.aload_n 0, 1) := by decide +kernel
theorem dX2_putAt_9 : decode cX2_putAt 9 = .ok (.aload 4, 2) := by decide +kernel
theorem dX2_putAt_11 : decode cX2_putAt 11 = .ok (.putfield 25, 3) := by decide +kernel
theorem dX2_putAt_14 : decode cX2_putAt 14 = .ok (.aload 4, 2) := by decide +kernel
theorem dX2_putAt_16 : decode cX2_putAt 16 = .ok (.ifnull 7, 3) := by decide +kernel
theorem dX2_putAt_19 : decode cX2_putAt 19 = .ok (.aload_n 3, 1) := by decide +kernel
theorem dX2_putAt_20 : decode cX2_putAt 20 = .ok (.ifnonnull 5, 3) := by decide +kernel
theorem dX2_putAt_23 : decode cX2_putAt 23 = .ok (.iconst 0, 1) := by decide +kernel
theorem dX2_putAt_24 : decode cX2_putAt 24 = .ok (.ireturn, 1) := by decide +kernel
theorem dX2_putAt_25 : decode cX2_putAt 25 = .ok (.aload_n 0, 1) := by decide +kernel
theorem dX2_putAt_26 : decode cX2_putAt 26 = .ok (.aload_n 3, 1) := by decide +kernel
theorem dX2_putAt_27 : decode cX2_putAt 27 = .ok (.invokevirtual 76, 3) := by decide +kernel
theorem dX2_putAt_30 : decode cX2_putAt 30 = .ok (.iconst 1, 1) := by decide +kernel
theorem dX2_putAt_31 : decode cX2_putAt 31 = .ok (.ireturn, 1) := by decide +kernel
theorem dX2_testAt_0 : decode cX2_testAt 0 = .ok (.aload_n 0, 1) := by decide +kernel
theorem dX2_testAt_1 : decode cX2_testAt 1 = .ok (.aload_n 1, 1) := by decide +kernel
theorem dX2_testAt_2 : decode cX2_testAt 2 = .ok (.iload_n 2, 1) := by decide +kernel
theorem dX2_testAt_3 : decode cX2_testAt 3 = .ok (.invokevirtual 64, 3) := by decide +kernel
theorem dX2_testAt_6 : decode cX2_testAt 6 = .ok (.astore 4, 2) := by decide +kernel
theorem dX2_testAt_8 : decode cX2_testAt 8 = .ok (.aload_n 0, 1) := by decide +kernel
theorem dX2_testAt_9 : decode cX2_testAt 9 = .ok (.aconst_null, 1) := by decide +kernel
theorem dX2_testAt_10 : decode cX2_testAt 10 = .ok (.putfield 25, 3) := by decide +kernel
theorem dX2_testAt_13 : decode cX2_testAt 13 = .ok (.aload 4, 2) := by decide +kernel
theorem dX2_testAt_15 : decode cX2_testAt 15 = .ok (.ifnull 16, 3) := by decide +kernel
theorem dX2_testAt_18 : decode cX2_testAt 18 = .ok (.aload 4, 2) := by decide +kernel
theorem dX2_testAt_20 : decode cX2_testAt 20 = .ok (.aload_n 3, 1) := by decide +kernel
theorem dX2_testAt_21 : decode cX2_testAt 21 = .ok (.invokevirtual 90, 3) := by decide +kernel
theorem dX2_testAt_24 : decode cX2_testAt 24 = .ok (.ifCond .eq 7, 3) := by decide +kernel
theorem dX2_testAt_27 : decode cX2_testAt 27 = .ok (.iconst 1, 1) := by decide +kernel
theorem dX2_testAt_28 : decode cX2_testAt 28 = .ok (.goto 4, 3) := by decide +kernel
theorem dX2_testAt_31 : decode cX2_testAt 31 = .ok (.iconst 0, 1) := by decide +kernel
theorem dX2_testAt_32 : decode cX2_testAt 32 = .ok (.ireturn, 1) := by decide +kernel
theorem dX2_follow_0 : decode cX2_follow 0 = .ok (.iload_n 2, 1) := by decide +kernel
theorem dX2_follow_1 : decode cX2_follow 1 = .ok (.ifCond .lt 15, 3) := by decide +kernel
theorem dX2_follow_4 : decode cX2_follow 4 = .ok (.iload_n 2, 1) := by decide +kernel
theorem dX2_follow_5 : decode cX2_follow 5 = .ok (.aload_n 1, 1) := by decide +kernel
theorem dX2_follow_6 : decode cX2_follow 6 = .ok (.arraylength, 1) := by decide +kernel
theorem dX2_follow_7 : decode cX2_follow 7 = .ok (.if_icmp .gt 9, 3) := by decide +kernel
theorem dX2_follow_10 : decode cX2_follow 10 = .ok (.iload_n 2, 1) := by decide +kernel
theorem dX2_follow_11 : decode cX2_follow 11 = .ok (.bipush 6, 2) := by decide +kernel
theorem dX2_follow_13 : decode cX2_follow 13 = .ok (.if_icmp .le 5, 3) := by decide +kernel
theorem dX2_follow_16 : decode cX2_follow 16 = .ok (.aconst_null, 1) := by decide +kernel
theorem dX2_follow_17 : decode cX2_follow 17 = .ok (.areturn, 1) := by decide +kernel
theorem dX2_follow_18 : decode cX2_follow 18 = .ok (.aload_n 0, 1) := by decide +kernel
theorem dX2_follow_19 : decode cX2_follow 19 = .ok (.iload_n 2, 1) := by decide +kernel
theorem dX2_follow_20 : decode cX2_follow 20 = .ok (.putfield 94, 3) := by decide +kernel
theorem dX2_follow_23 : decode cX2_follow 23 = .ok (.aload_n 0, 1) := by decide +kernel
theorem dX2_follow_24 : decode cX2_follow 24 = .ok (.getfield 21, 3) := by decide +kernel
theorem dX2_follow_27 : decode cX2_follow 27 = .ok (.astore_n 3, 1) := by decide +kernel
theorem dX2_follow_28 : decode cX2_follow 28 = .ok (.iconst 0, 1) := by decide +kernel
theorem dX2_follow_29 : decode cX2_follow 29 = .ok (.istore 4, 2) := by decide +kernel
theorem dX2_follow_31 : decode cX2_follow 31 = .ok (.iload 4, 2) := by decide +kernel
theorem dX2_follow_33 : decode cX2_follow 33 = .ok (.iload_n 2, 1) := by decide +kernel
theorem dX2_follow_34 : decode cX2_follow 34 = .ok (.if_icmp .ge 48, 3) := by decide +kernel
theorem dX2_follow_37 : decode cX2_follow 37 = .ok (.aload_n 3, 1) := by decide +kernel
theorem dX2_follow_38 : decode cX2_follow 38 = .ok (.ifnull 44, 3) := by decide +kernel
theorem dX2_follow_41 : decode cX2_follow 41 = .ok (.aload_n 0, 1) := by decide +kernel
theorem dX2_follow_42 : decode cX2_follow 42 = .ok (.getfield 11, 3) := by decide +kernel
theorem dX2_follow_45 : decode cX2_follow 45 = .ok (.iload 4, 2) := by decide +kernel
theorem dX2_follow_47 : decode cX2_follow 47 = .ok (.aload_n 3, 1) := by decide +kernel
theorem dX2_follow_48 : decode cX2_follow 48 = .ok (.aastore, 1) := by decide +kernel
theorem dX2_follow_49 : decode cX2_follow 49 = .ok (.aload_n 0, 1) := by decide +kernel
theorem dX2_follow_50 : decode cX2_follow 50 = .ok (.getfield 17, 3) := by decide +kernel
theorem dX2_follow_53 : decode cX2_follow 53 = .ok (.iload 4, 2) := by decide +kernel
theorem dX2_follow_55 : decode cX2_follow 55 = .ok (.aload_n 3, 1) := by decide +kernel
theorem dX2_follow_56 : decode cX2_follow 56 = .ok (.aload_n 1, 1) := by decide +kernel
theorem dX2_follow_57 : decode cX2_follow 57 = .ok (.iload 4, 2) := by decide +kernel
theorem dX2_follow_59 : decode cX2_follow 59 = .ok (.iaload, 1) := by decide +kernel
theorem dX2_follow_60 : decode cX2_follow 60 = .ok (.invokevirtual 80, 3) := by decide +kernel
theorem dX2_follow_63 : decode cX2_follow 63 = .ok (.iastore, 1) := by decide +kernel
theorem dX2_follow_64 : decode cX2_follow 64 = .ok (.aload_n 3, 1) := by decide +kernel
theorem dX2_follow_65 : decode cX2_follow 65 = .ok (.aload_n 0, 1) := by decide +kernel
theorem dX2_follow_66 : decode cX2_follow 66 = .ok (.getfield 17, 3) := by decide +kernel
theorem dX2_follow_69 : decode cX2_follow 69 = .ok (.iload 4, 2) := by decide +kernel
theorem dX2_follow_71 : decode cX2_follow 71 = .ok (.iaload, 1) := by decide +kernel
theorem dX2_follow_72 : decode cX2_follow 72 = .ok (.invokevirtual 83, 3) := by decide +kernel
theorem dX2_follow_75 : decode cX2_follow 75 = .ok (.astore_n 3, 1) := by decide +kernel
theorem dX2_follow_76 : decode cX2_follow 76 = .ok (.iinc 4 1, 3) := by decide +kernel
theorem dX2_follow_79 : decode cX2_follow 79 = .ok (.goto (-48), 3) := by decide +kernel
theorem dX2_follow_82 : decode cX2_follow 82 = .ok (.aload_n 3, 1) := by decide +kernel
theorem dX2_follow_83 : decode cX2_follow 83 = .ok (.areturn, 1) := by decide +kernel
theorem dX2_rebuild_0 : decode cX2_rebuild 0 = .ok (.aload_n 1, 1) := by decide +kernel
theorem dX2_rebuild_1 : decode cX2_rebuild 1 = .ok (.astore_n 2, 1) := by decide +kernel
theorem dX2_rebuild_2 : decode cX2_rebuild 2 = .ok (.aload_n 0, 1) := by decide +kernel
theorem dX2_rebuild_3 : decode cX2_rebuild 3 = .ok (.getfield 94, 3) := by decide +kernel
theorem dX2_rebuild_6 : decode cX2_rebuild 6 = .ok (.iconst 1, 1) := by decide +kernel
theorem dX2_rebuild_7 : decode cX2_rebuild 7 = .ok (.isub, 1) := by decide +kernel
theorem dX2_rebuild_8 : decode cX2_rebuild 8 = .ok (.istore_n 3, 1) := by decide +kernel
theorem dX2_rebuild_9 : decode cX2_rebuild 9 = .ok (.iload_n 3, 1) := by decide +kernel
theorem dX2_rebuild_10 : decode cX2_rebuild 10 = .ok (.ifCond .lt 35, 3) := by decide +kernel
theorem dX2_rebuild_13 : decode cX2_rebuild 13 = .ok (.aload_n 0, 1) := by decide +kernel
theorem dX2_rebuild_14 : decode cX2_rebuild 14 = .ok (.getfield 11, 3) := by decide +kernel
theorem dX2_rebuild_17 : decode cX2_rebuild 17 = .ok (.iload_n 3, 1) := by decide +kernel
theorem dX2_rebuild_18 : decode cX2_rebuild 18 = .ok (.aaload, 1) := by decide +kernel
theorem dX2_rebuild_19 : decode cX2_rebuild 19 = .ok (.astore 4, 2) := by decide +kernel
theorem dX2_rebuild_21 : decode cX2_rebuild 21 = .ok (.aload 4, 2) := by decide +kernel
theorem dX2_rebuild_23 : decode cX2_rebuild 23 = .ok (.ifnull 16, 3) := by decide +kernel
theorem dX2_rebuild_26 : decode cX2_rebuild 26 = .ok (.aload 4, 2) := by decide +kernel
theorem dX2_rebuild_28 : decode cX2_rebuild 28 = .ok (.aload_n 0, 1) := by decide +kernel
theorem dX2_rebuild_29 : decode cX2_rebuild 29 = .ok (.getfield 17, 3) := by decide +kernel
theorem dX2_rebuild_32 : decode cX2_rebuild 32 = .ok (.iload_n 3, 1) := by decide +kernel
theorem dX2_rebuild_33 : decode cX2_rebuild 33 = .ok (.iaload, 1) := by decide +kernel
theorem dX2_rebuild_34 : decode cX2_rebuild 34 = .ok (.aload_n 2, 1) := by decide +kernel
theorem dX2_rebuild_35 : decode cX2_rebuild 35 = .ok (.invokevirtual 97, 3) := by decide +kernel
theorem dX2_rebuild_38 : decode cX2_rebuild 38 = .ok (.astore_n 2, 1) := by decide +kernel
theorem dX2_rebuild_39 : decode cX2_rebuild 39 = .ok (.iinc 3 (-1), 3) := by decide +kernel
theorem dX2_rebuild_42 : decode cX2_rebuild 42 = .ok (.goto (-33), 3) := by decide +kernel
theorem dX2_rebuild_45 : decode cX2_rebuild 45 = .ok (.aload_n 0, 1) := by decide +kernel
theorem dX2_rebuild_46 : decode cX2_rebuild 46 = .ok (.aload_n 2, 1) := by decide +kernel
theorem dX2_rebuild_47 : decode cX2_rebuild 47 = .ok (.putfield 21, 3) := by decide +kernel
theorem dX2_rebuild_50 : decode cX2_rebuild 50 = .ok (.return_, 1) := by decide +kernel
theorem dX3_init_0 : decode cX3_init 0 = .ok (.aload_n 0, 1) := by decide +kernel
theorem dX3_init_1 : decode cX3_init 1 = .ok (.invokespecial 3, 3) := by decide +kernel
theorem dX3_init_4 : decode cX3_init 4 = .ok (.aload_n 0, 1) := by decide +kernel
theorem dX3_init_5 : decode cX3_init 5 = .ok (.iload_n 1, 1) := by decide +kernel
theorem dX3_init_6 : decode cX3_init 6 = .ok (.putfield 9, 3) := by decide +kernel
theorem dX3_init_9 : decode cX3_init 9 = .ok (.aload_n 0, 1) := by decide +kernel
theorem dX3_init_10 : decode cX3_init 10 = .ok (.aload_n 2, 1) := by decide +kernel
theorem dX3_init_11 : decode cX3_init 11 = .ok (.putfield 15, 3) := by decide +kernel
theorem dX3_init_14 : decode cX3_init 14 = .ok (.aload_n 0, 1) := by decide +kernel
theorem dX3_init_15 : decode cX3_init 15 = .ok (.iload_n 3, 1) := by decide +kernel
theorem dX3_init_16 : decode cX3_init 16 = .ok (.putfield 19, 3) := by decide +kernel
theorem dX3_init_19 : decode cX3_init 19 = .ok (.aload_n 0, 1) := by decide +kernel
theorem dX3_init_20 : decode cX3_init 20 = .ok (.aload 4, 2) := by decide +kernel
theorem dX3_init_22 : decode cX3_init 22 = .ok (.putfield 22, 3) := by decide +kernel
theorem dX3_init_25 : decode cX3_init 25 = .ok (.return_, 1) := by decide +kernel
theorem dX3_inverse_0 : decode cX3_inverse 0 = .ok (.aload_n 0, 1) := by decide +kernel
theorem dX3_inverse_1 : decode cX3_inverse 1 = .ok (.getfield 9, 3) := by decide +kernel
theorem dX3_inverse_4 : decode cX3_inverse 4 = .ok (.tableswitch 82 0 2 #[28, 46, 64], 28) := by decide +kernel
theorem dX3_inverse_32 : decode cX3_inverse 32 = .ok (.new 10, 3) := by decide +kernel
theorem dX3_inverse_35 : decode cX3_inverse 35 = .ok (.dup, 1) := by decide +kernel
theorem dX3_inverse_36 : decode cX3_inverse 36 = .ok (.iconst 1, 1) := by decide +kernel
theorem dX3_inverse_37 : decode cX3_inverse 37 = .ok (.aload_n 0, 1) := by decide +kernel
theorem dX3_inverse_38 : decode cX3_inverse 38 = .ok (.getfield 15, 3) := by decide +kernel
theorem dX3_inverse_41 : decode cX3_inverse 41 = .ok (.aload_n 0, 1) := by decide +kernel
theorem dX3_inverse_42 : decode cX3_inverse 42 = .ok (.getfield 19, 3) := by decide +kernel
theorem dX3_inverse_45 : decode cX3_inverse 45 = .ok (.aconst_null, 1) := by decide +kernel
theorem dX3_inverse_46 : decode cX3_inverse 46 = .ok (.invokespecial 26, 3) := by decide +kernel
theorem dX3_inverse_49 : decode cX3_inverse 49 = .ok (.areturn, 1) := by decide +kernel
theorem dX3_inverse_50 : decode cX3_inverse 50 = .ok (.new 10, 3) := by decide +kernel
theorem dX3_inverse_53 : decode cX3_inverse 53 = .ok (.dup, 1) := by decide +kernel
theorem dX3_inverse_54 : decode cX3_inverse 54 = .ok (.iconst 0, 1) := by decide +kernel
theorem dX3_inverse_55 : decode cX3_inverse 55 = .ok (.aload_n 0, 1) := by decide +kernel
theorem dX3_inverse_56 : decode cX3_inverse 56 = .ok (.getfield 15, 3) := by decide +kernel
theorem dX3_inverse_59 : decode cX3_inverse 59 = .ok (.aload_n 0, 1) := by decide +kernel
theorem dX3_inverse_60 : decode cX3_inverse 60 = .ok (.getfield 19, 3) := by decide +kernel
theorem dX3_inverse_63 : decode cX3_inverse 63 = .ok (.aload_n 1, 1) := by decide +kernel
theorem dX3_inverse_64 : decode cX3_inverse 64 = .ok (.invokespecial 26, 3) := by decide +kernel
theorem dX3_inverse_67 : decode cX3_inverse 67 = .ok (.areturn, 1) := by decide +kernel
theorem dX3_inverse_68 : decode cX3_inverse 68 = .ok (.new 10, 3) := by decide +kernel
theorem dX3_inverse_71 : decode cX3_inverse 71 = .ok (.dup, 1) := by decide +kernel
theorem dX3_inverse_72 : decode cX3_inverse 72 = .ok (.iconst 2, 1) := by decide +kernel
theorem dX3_inverse_73 : decode cX3_inverse 73 = .ok (.aload_n 0, 1) := by decide +kernel
theorem dX3_inverse_74 : decode cX3_inverse 74 = .ok (.getfield 15, 3) := by decide +kernel
theorem dX3_inverse_77 : decode cX3_inverse 77 = .ok (.aload_n 0, 1) := by decide +kernel
theorem dX3_inverse_78 : decode cX3_inverse 78 = .ok (.getfield 19, 3) := by decide +kernel
theorem dX3_inverse_81 : decode cX3_inverse 81 = .ok (.aload_n 1, 1) := by decide +kernel
theorem dX3_inverse_82 : decode cX3_inverse 82 = .ok (.invokespecial 26, 3) := by decide +kernel
theorem dX3_inverse_85 : decode cX3_inverse 85 = .ok (.areturn, 1) := by decide +kernel
theorem dX3_inverse_86 : decode cX3_inverse 86 = .ok (.aload_n 0, 1) := by decide +kernel
theorem dX3_inverse_87 : decode cX3_inverse 87 = .ok (.areturn, 1) := by decide +kernel
theorem dX3_tell_0 : decode cX3_tell 0 = .ok (.iload_n 1, 1) := by decide +kernel
theorem dX3_tell_1 : decode cX3_tell 1 = .ok (.tableswitch 43 0 2 #[27, 32, 38], 27) := by decide +kernel
theorem dX3_tell_28 : decode cX3_tell 28 = .ok (.aload_n 0, 1) := by decide +kernel
theorem dX3_tell_29 : decode cX3_tell 29 = .ok (.getfield 9, 3) := by decide +kernel
theorem dX3_tell_32 : decode cX3_tell 32 = .ok (.ireturn, 1) := by decide +kernel
theorem dX3_tell_33 : decode cX3_tell 33 = .ok (.aload_n 0, 1) := by decide +kernel
theorem dX3_tell_34 : decode cX3_tell 34 = .ok (.getfield 15, 3) := by decide +kernel
theorem dX3_tell_37 : decode cX3_tell 37 = .ok (.arraylength, 1) := by decide +kernel
theorem dX3_tell_38 : decode cX3_tell 38 = .ok (.ireturn, 1) := by decide +kernel
theorem dX3_tell_39 : decode cX3_tell 39 = .ok (.aload_n 0, 1) := by decide +kernel
theorem dX3_tell_40 : decode cX3_tell 40 = .ok (.getfield 19, 3) := by decide +kernel
theorem dX3_tell_43 : decode cX3_tell 43 = .ok (.ireturn, 1) := by decide +kernel
theorem dX3_tell_44 : decode cX3_tell 44 = .ok (.aload_n 0, 1) := by decide +kernel
theorem dX3_tell_45 : decode cX3_tell 45 = .ok (.getfield 22, 3) := by decide +kernel
theorem dX3_tell_48 : decode cX3_tell 48 = .ok (.ifnonnull 7, 3) := by decide +kernel
theorem dX3_tell_51 : decode cX3_tell 51 = .ok (.iconst 0, 1) := by decide +kernel
theorem dX3_tell_52 : decode cX3_tell 52 = .ok (.goto 10, 3) := by decide +kernel
theorem dX3_tell_55 : decode cX3_tell 55 = .ok (.aload_n 0, 1) := by decide +kernel
theorem dX3_tell_56 : decode cX3_tell 56 = .ok (.getfield 22, 3) := by decide +kernel
theorem dX3_tell_59 : decode cX3_tell 59 = .ok (.getfield 29, 3) := by decide +kernel
theorem dX3_tell_62 : decode cX3_tell 62 = .ok (.ireturn, 1) := by decide +kernel
theorem dX4_init_0 : decode cX4_init 0 = .ok (.aload_n 0, 1) := by decide +kernel
theorem dX4_init_1 : decode cX4_init 1 = .ok (.invokespecial 3, 3) := by decide +kernel
theorem dX4_init_4 : decode cX4_init 4 = .ok (.aload_n 0, 1) := by decide +kernel
theorem dX4_init_5 : decode cX4_init 5 = .ok (.bipush 20, 2) := by decide +kernel
theorem dX4_init_7 : decode cX4_init 7 = .ok (.anewarray 9, 3) := by decide +kernel
theorem dX4_init_10 : decode cX4_init 10 = .ok (.putfield 11, 3) := by decide +kernel
theorem dX4_init_13 : decode cX4_init 13 = .ok (.return_, 1) := by decide +kernel
theorem dX4_clear_0 : decode cX4_clear 0 = .ok (.aload_n 0, 1) := by decide +kernel
theorem dX4_clear_1 : decode cX4_clear 1 = .ok (.iconst 0, 1) := by decide +kernel
theorem dX4_clear_2 : decode cX4_clear 2 = .ok (.putfield 17, 3) := by decide +kernel
theorem dX4_clear_5 : decode cX4_clear 5 = .ok (.return_, 1) := by decide +kernel
theorem dX4_append_0 : decode cX4_append 0 = .ok (.aload_n 0, 1) := by decide +kernel
theorem dX4_append_1 : decode cX4_append 1 = .ok (.getfield 17, 3) := by decide +kernel
theorem dX4_append_4 : decode cX4_append 4 = .ok (.ifCond .lt 35, 3) := by decide +kernel
theorem dX4_append_7 : decode cX4_append 7 = .ok (.aload_n 0, 1) := by decide +kernel
theorem dX4_append_8 : decode cX4_append 8 = .ok (.getfield 17, 3) := by decide +kernel
theorem dX4_append_11 : decode cX4_append 11 = .ok (.aload_n 0, 1) := by decide +kernel
theorem dX4_append_12 : decode cX4_append 12 = .ok (.getfield 11, 3) := by decide +kernel
theorem dX4_append_15 : decode cX4_append 15 = .ok (.arraylength, 1) := by decide +kernel
theorem dX4_append_16 : decode cX4_append 16 = .ok (.if_icmp .ge 23, 3) := by decide +kernel
theorem dX4_append_19 : decode cX4_append 19 = .ok (.aload_n 0, 1) := by decide +kernel
theorem dX4_append_20 : decode cX4_append 20 = .ok (.getfield 11, 3) := by decide +kernel
theorem dX4_append_23 : decode cX4_append 23 = .ok (.aload_n 0, 1) := by decide +kernel
theorem dX4_append_24 : decode cX4_append 24 = .ok (.getfield 17, 3) := by decide +kernel
theorem dX4_append_27 : decode cX4_append 27 = .ok (.aload_n 1, 1) := by decide +kernel
theorem dX4_append_28 : decode cX4_append 28 = .ok (.aastore, 1) := by decide +kernel
theorem dX4_append_29 : decode cX4_append 29 = .ok (.aload_n 0, 1) := by decide +kernel
theorem dX4_append_30 : decode cX4_append 30 = .ok (.dup, 1) := by decide +kernel
theorem dX4_append_31 : decode cX4_append 31 = .ok (.getfield 17, 3) := by decide +kernel
theorem dX4_append_34 : decode cX4_append 34 = .ok (.iconst 1, 1) := by decide +kernel
theorem dX4_append_35 : decode cX4_append 35 = .ok (.iadd, 1) := by decide +kernel
theorem dX4_append_36 : decode cX4_append 36 = .ok (.putfield 17, 3) := by decide +kernel
theorem dX4_append_39 : decode cX4_append 39 = .ok (.return_, 1) := by decide +kernel
theorem dX4_operationAt_0 : decode cX4_operationAt 0 = .ok (.iload_n 1, 1) := by decide +kernel
theorem dX4_operationAt_1 : decode cX4_operationAt 1 = .ok (.ifCond .lt 20, 3) := by decide +kernel
theorem dX4_operationAt_4 : decode cX4_operationAt 4 = .ok (.iload_n 1, 1) := by decide +kernel
theorem dX4_operationAt_5 : decode cX4_operationAt 5 = .ok (.aload_n 0, 1) := by decide +kernel
theorem dX4_operationAt_6 : decode cX4_operationAt 6 = .ok (.getfield 17, 3) := by decide +kernel
theorem dX4_operationAt_9 : decode cX4_operationAt 9 = .ok (.if_icmp .ge 12, 3) := by decide +kernel
theorem dX4_operationAt_12 : decode cX4_operationAt 12 = .ok (.iload_n 1, 1) := by decide +kernel
theorem dX4_operationAt_13 : decode cX4_operationAt 13 = .ok (.aload_n 0, 1) := by decide +kernel
theorem dX4_operationAt_14 : decode cX4_operationAt 14 = .ok (.getfield 11, 3) := by decide +kernel
theorem dX4_operationAt_17 : decode cX4_operationAt 17 = .ok (.arraylength, 1) := by decide +kernel
theorem dX4_operationAt_18 : decode cX4_operationAt 18 = .ok (.if_icmp .lt 5, 3) := by decide +kernel
theorem dX4_operationAt_21 : decode cX4_operationAt 21 = .ok (.aconst_null, 1) := by decide +kernel
theorem dX4_operationAt_22 : decode cX4_operationAt 22 = .ok (.areturn, 1) := by decide +kernel
theorem dX4_operationAt_23 : decode cX4_operationAt 23 = .ok (.aload_n 0, 1) := by decide +kernel
theorem dX4_operationAt_24 : decode cX4_operationAt 24 = .ok (.getfield 11, 3) := by decide +kernel
theorem dX4_operationAt_27 : decode cX4_operationAt 27 = .ok (.iload_n 1, 1) := by decide +kernel
theorem dX4_operationAt_28 : decode cX4_operationAt 28 = .ok (.aaload, 1) := by decide +kernel
theorem dX4_operationAt_29 : decode cX4_operationAt 29 = .ok (.areturn, 1) := by decide +kernel
theorem dX5_init_0 : decode cX5_init 0 = .ok (.aload_n 0, 1) := by decide +kernel
theorem dX5_init_1 : decode cX5_init 1 = .ok (.invokespecial 3, 3) := by decide +kernel
theorem dX5_init_4 : decode cX5_init 4 = .ok (.aload_n 0, 1) := by decide +kernel
theorem dX5_init_5 : decode cX5_init 5 = .ok (.bipush 6, 2) := by decide +kernel
theorem dX5_init_7 : decode cX5_init 7 = .ok (.newarray .int, 2) := by decide +kernel
theorem dX5_init_9 : decode cX5_init 9 = .ok (.putfield 9, 3) := by decide +kernel
theorem dX5_init_12 : decode cX5_init 12 = .ok (.return_, 1) := by decide +kernel
theorem dX5_goToWhole_0 : decode cX5_goToWhole 0 = .ok (.aload_n 0, 1) := by decide +kernel
theorem dX5_goToWhole_1 : decode cX5_goToWhole 1 = .ok (.iload_n 1, 1) := by decide +kernel
theorem dX5_goToWhole_2 : decode cX5_goToWhole 2 = .ok (.putfield 34, 3) := by decide +kernel
theorem dX5_goToWhole_5 : decode cX5_goToWhole 5 = .ok (.aload_n 0, 1) := by decide +kernel
theorem dX5_goToWhole_6 : decode cX5_goToWhole 6 = .ok (.iconst 0, 1) := by decide +kernel
theorem dX5_goToWhole_7 : decode cX5_goToWhole 7 = .ok (.putfield 15, 3) := by decide +kernel
theorem dX5_goToWhole_10 : decode cX5_goToWhole 10 = .ok (.return_, 1) := by decide +kernel
theorem dX5_goDown_0 : decode cX5_goDown 0 = .ok (.aload_n 0, 1) := by decide +kernel
theorem dX5_goDown_1 : decode cX5_goDown 1 = .ok (.getfield 15, 3) := by decide +kernel
theorem dX5_goDown_4 : decode cX5_goDown 4 = .ok (.ifCond .lt 15, 3) := by decide +kernel
theorem dX5_goDown_7 : decode cX5_goDown 7 = .ok (.aload_n 0, 1) := by decide +kernel
theorem dX5_goDown_8 : decode cX5_goDown 8 = .ok (.getfield 15, 3) := by decide +kernel
theorem dX5_goDown_11 : decode cX5_goDown 11 = .ok (.aload_n 0, 1) := by decide +kernel
theorem dX5_goDown_12 : decode cX5_goDown 12 = .ok (.getfield 9, 3) := by decide +kernel
theorem dX5_goDown_15 : decode cX5_goDown 15 = .ok (.arraylength, 1) := by decide +kernel
theorem dX5_goDown_16 : decode cX5_goDown 16 = .ok (.if_icmp .lt 5, 3) := by decide +kernel
theorem dX5_goDown_19 : decode cX5_goDown 19 = .ok (.iconst 0, 1) := by decide +kernel
theorem dX5_goDown_20 : decode cX5_goDown 20 = .ok (.ireturn, 1) := by decide +kernel
theorem dX5_goDown_21 : decode cX5_goDown 21 = .ok (.aload_n 0, 1) := by decide +kernel
theorem dX5_goDown_22 : decode cX5_goDown 22 = .ok (.getfield 9, 3) := by decide +kernel
theorem dX5_goDown_25 : decode cX5_goDown 25 = .ok (.aload_n 0, 1) := by decide +kernel
theorem dX5_goDown_26 : decode cX5_goDown 26 = .ok (.getfield 15, 3) := by decide +kernel
theorem dX5_goDown_29 : decode cX5_goDown 29 = .ok (.iload_n 1, 1) := by decide +kernel
theorem dX5_goDown_30 : decode cX5_goDown 30 = .ok (.iastore, 1) := by decide +kernel
theorem dX5_goDown_31 : decode cX5_goDown 31 = .ok (.aload_n 0, 1) := by decide +kernel
theorem dX5_goDown_32 : decode cX5_goDown 32 = .ok (.dup, 1) := by decide +kernel
theorem dX5_goDown_33 : decode cX5_goDown 33 = .ok (.getfield 15, 3) := by decide +kernel
theorem dX5_goDown_36 : decode cX5_goDown 36 = .ok (.iconst 1, 1) := by decide +kernel
theorem dX5_goDown_37 : decode cX5_goDown 37 = .ok (.iadd, 1) := by decide +kernel
theorem dX5_goDown_38 : decode cX5_goDown 38 = .ok (.putfield 15, 3) := by decide +kernel
theorem dX5_goDown_41 : decode cX5_goDown 41 = .ok (.iconst 1, 1) := by decide +kernel
theorem dX5_goDown_42 : decode cX5_goDown 42 = .ok (.ireturn, 1) := by decide +kernel
theorem dX5_goUp_0 : decode cX5_goUp 0 = .ok (.aload_n 0, 1) := by decide +kernel
theorem dX5_goUp_1 : decode cX5_goUp 1 = .ok (.getfield 15, 3) := by decide +kernel
theorem dX5_goUp_4 : decode cX5_goUp 4 = .ok (.ifCond .ne 5, 3) := by decide +kernel
theorem dX5_goUp_7 : decode cX5_goUp 7 = .ok (.iconst 0, 1) := by decide +kernel
theorem dX5_goUp_8 : decode cX5_goUp 8 = .ok (.ireturn, 1) := by decide +kernel
theorem dX5_goUp_9 : decode cX5_goUp 9 = .ok (.aload_n 0, 1) := by decide +kernel
theorem dX5_goUp_10 : decode cX5_goUp 10 = .ok (.dup, 1) := by decide +kernel
theorem dX5_goUp_11 : decode cX5_goUp 11 = .ok (.getfield 15, 3) := by decide +kernel
theorem dX5_goUp_14 : decode cX5_goUp 14 = .ok (.iconst 1, 1) := by decide +kernel
theorem dX5_goUp_15 : decode cX5_goUp 15 = .ok (.isub, 1) := by decide +kernel
theorem dX5_goUp_16 : decode cX5_goUp 16 = .ok (.putfield 15, 3) := by decide +kernel
theorem dX5_goUp_19 : decode cX5_goUp 19 = .ok (.iconst 1, 1) := by decide +kernel
theorem dX5_goUp_20 : decode cX5_goUp 20 = .ok (.ireturn, 1) := by decide +kernel
theorem dX5_settle_0 : decode cX5_settle 0 = .ok (.aload_n 1, 1) := by decide +kernel
theorem dX5_settle_1 : decode cX5_settle 1 = .ok (.astore_n 2, 1) := by decide +kernel
theorem dX5_settle_2 : decode cX5_settle 2 = .ok (.iconst 0, 1) := by decide +kernel
theorem dX5_settle_3 : decode cX5_settle 3 = .ok (.istore_n 3, 1) := by decide +kernel
theorem dX5_settle_4 : decode cX5_settle 4 = .ok (.iconst 0, 1) := by decide +kernel
theorem dX5_settle_5 : decode cX5_settle 5 = .ok (.istore 4, 2) := by decide +kernel
theorem dX5_settle_7 : decode cX5_settle 7 = .ok (.iload 4, 2) := by decide +kernel
theorem dX5_settle_9 : decode cX5_settle 9 = .ok (.aload_n 0, 1) := by decide +kernel
theorem dX5_settle_10 : decode cX5_settle 10 = .ok (.getfield 15, 3) := by decide +kernel
theorem dX5_settle_13 : decode cX5_settle 13 = .ok (.if_icmp .ge 45, 3) := by decide +kernel
theorem dX5_settle_16 : decode cX5_settle 16 = .ok (.iload 4, 2) := by decide +kernel
theorem dX5_settle_18 : decode cX5_settle 18 = .ok (.aload_n 0, 1) := by decide +kernel
theorem dX5_settle_19 : decode cX5_settle 19 = .ok (.getfield 9, 3) := by decide +kernel
theorem dX5_settle_22 : decode cX5_settle 22 = .ok (.arraylength, 1) := by decide +kernel
theorem dX5_settle_23 : decode cX5_settle 23 = .ok (.if_icmp .ge 35, 3) := by decide +kernel
theorem dX5_settle_26 : decode cX5_settle 26 = .ok (.aload_n 2, 1) := by decide +kernel
theorem dX5_settle_27 : decode cX5_settle 27 = .ok (.aload_n 2, 1) := by decide +kernel
theorem dX5_settle_28 : decode cX5_settle 28 = .ok (.aload_n 0, 1) := by decide +kernel
theorem dX5_settle_29 : decode cX5_settle 29 = .ok (.getfield 9, 3) := by decide +kernel
theorem dX5_settle_32 : decode cX5_settle 32 = .ok (.iload 4, 2) := by decide +kernel
theorem dX5_settle_34 : decode cX5_settle 34 = .ok (.iaload, 1) := by decide +kernel
theorem dX5_settle_35 : decode cX5_settle 35 = .ok (.invokevirtual 49, 3) := by decide +kernel
theorem dX5_settle_38 : decode cX5_settle 38 = .ok (.invokevirtual 54, 3) := by decide +kernel
theorem dX5_settle_41 : decode cX5_settle 41 = .ok (.astore_n 2, 1) := by decide +kernel
theorem dX5_settle_42 : decode cX5_settle 42 = .ok (.aload_n 2, 1) := by decide +kernel
theorem dX5_settle_43 : decode cX5_settle 43 = .ok (.ifnonnull 6, 3) := by decide +kernel
theorem dX5_settle_46 : decode cX5_settle 46 = .ok (.goto 12, 3) := by decide +kernel
theorem dX5_settle_49 : decode cX5_settle 49 = .ok (.iinc 3 1, 3) := by decide +kernel
theorem dX5_settle_52 : decode cX5_settle 52 = .ok (.iinc 4 1, 3) := by decide +kernel
theorem dX5_settle_55 : decode cX5_settle 55 = .ok (.goto (-48), 3) := by decide +kernel
theorem dX5_settle_58 : decode cX5_settle 58 = .ok (.aload_n 0, 1) := by decide +kernel
theorem dX5_settle_59 : decode cX5_settle 59 = .ok (.iload_n 3, 1) := by decide +kernel
theorem dX5_settle_60 : decode cX5_settle 60 = .ok (.putfield 15, 3) := by decide +kernel
theorem dX5_settle_63 : decode cX5_settle 63 = .ok (.return_, 1) := by decide +kernel
theorem dX6_init_0 : decode cX6_init 0 = .ok (.aload_n 0, 1) := by decide +kernel
theorem dX6_init_1 : decode cX6_init 1 = .ok (.invokespecial 3, 3) := by decide +kernel
theorem dX6_init_4 : decode cX6_init 4 = .ok (.aload_n 0, 1) := by decide +kernel
theorem dX6_init_5 : decode cX6_init 5 = .ok (.iconst 5, 1) := by decide +kernel
theorem dX6_init_6 : decode cX6_init 6 = .ok (.newarray .int, 2) := by decide +kernel
theorem dX6_init_8 : decode cX6_init 8 = .ok (.putfield 9, 3) := by decide +kernel
theorem dX6_init_11 : decode cX6_init 11 = .ok (.aload_n 0, 1) := by decide +kernel
theorem dX6_init_12 : decode cX6_init 12 = .ok (.iconst 5, 1) := by decide +kernel
theorem dX6_init_13 : decode cX6_init 13 = .ok (.newarray .int, 2) := by decide +kernel
theorem dX6_init_15 : decode cX6_init 15 = .ok (.putfield 15, 3) := by decide +kernel
theorem dX6_init_18 : decode cX6_init 18 = .ok (.return_, 1) := by decide +kernel
theorem dX6_append_0 : decode cX6_append 0 = .ok (.aload_n 0, 1) := by decide +kernel
theorem dX6_append_1 : decode cX6_append 1 = .ok (.getfield 18, 3) := by decide +kernel
theorem dX6_append_4 : decode cX6_append 4 = .ok (.ifCond .lt 15, 3) := by decide +kernel
theorem dX6_append_7 : decode cX6_append 7 = .ok (.aload_n 0, 1) := by decide +kernel
theorem dX6_append_8 : decode cX6_append 8 = .ok (.getfield 18, 3) := by decide +kernel
theorem dX6_append_11 : decode cX6_append 11 = .ok (.aload_n 0, 1) := by decide +kernel
theorem dX6_append_12 : decode cX6_append 12 = .ok (.getfield 9, 3) := by decide +kernel
theorem dX6_append_15 : decode cX6_append 15 = .ok (.arraylength, 1) := by decide +kernel
theorem dX6_append_16 : decode cX6_append 16 = .ok (.if_icmp .lt 5, 3) := by decide +kernel
theorem dX6_append_19 : decode cX6_append 19 = .ok (.iconst 0, 1) := by decide +kernel
theorem dX6_append_20 : decode cX6_append 20 = .ok (.ireturn, 1) := by decide +kernel
theorem dX6_append_21 : decode cX6_append 21 = .ok (.aload_n 0, 1) := by decide +kernel
theorem dX6_append_22 : decode cX6_append 22 = .ok (.getfield 9, 3) := by decide +kernel
theorem dX6_append_25 : decode cX6_append 25 = .ok (.aload_n 0, 1) := by decide +kernel
theorem dX6_append_26 : decode cX6_append 26 = .ok (.getfield 18, 3) := by decide +kernel
theorem dX6_append_29 : decode cX6_append 29 = .ok (.iload_n 1, 1) := by decide +kernel
theorem dX6_append_30 : decode cX6_append 30 = .ok (.iastore, 1) := by decide +kernel
theorem dX6_append_31 : decode cX6_append 31 = .ok (.aload_n 0, 1) := by decide +kernel
theorem dX6_append_32 : decode cX6_append 32 = .ok (.getfield 15, 3) := by decide +kernel
theorem dX6_append_35 : decode cX6_append 35 = .ok (.aload_n 0, 1) := by decide +kernel
theorem dX6_append_36 : decode cX6_append 36 = .ok (.getfield 18, 3) := by decide +kernel
theorem dX6_append_39 : decode cX6_append 39 = .ok (.iload_n 2, 1) := by decide +kernel
theorem dX6_append_40 : decode cX6_append 40 = .ok (.iastore, 1) := by decide +kernel
theorem dX6_append_41 : decode cX6_append 41 = .ok (.aload_n 0, 1) := by decide +kernel
theorem dX6_append_42 : decode cX6_append 42 = .ok (.dup, 1) := by decide +kernel
theorem dX6_append_43 : decode cX6_append 43 = .ok (.getfield 18, 3) := by decide +kernel
theorem dX6_append_46 : decode cX6_append 46 = .ok (.iconst 1, 1) := by decide +kernel
theorem dX6_append_47 : decode cX6_append 47 = .ok (.iadd, 1) := by decide +kernel
theorem dX6_append_48 : decode cX6_append 48 = .ok (.putfield 18, 3) := by decide +kernel
theorem dX6_append_51 : decode cX6_append 51 = .ok (.iconst 1, 1) := by decide +kernel
theorem dX6_append_52 : decode cX6_append 52 = .ok (.ireturn, 1) := by decide +kernel
theorem dX6_findIn_0 : decode cX6_findIn 0 = .ok (.lconst 1, 1) := by decide +kernel
theorem dX6_findIn_1 : decode cX6_findIn 1 = .ok (.lstore_n 2, 1) := by decide +kernel
theorem dX6_findIn_2 : decode cX6_findIn 2 = .ok (.iconst 0, 1) := by decide +kernel
theorem dX6_findIn_3 : decode cX6_findIn 3 = .ok (.istore 4, 2) := by decide +kernel
theorem dX6_findIn_5 : decode cX6_findIn 5 = .ok (.iload 4, 2) := by decide +kernel
theorem dX6_findIn_7 : decode cX6_findIn 7 = .ok (.aload_n 0, 1) := by decide +kernel
theorem dX6_findIn_8 : decode cX6_findIn 8 = .ok (.getfield 18, 3) := by decide +kernel
theorem dX6_findIn_11 : decode cX6_findIn 11 = .ok (.if_icmp .ge 39, 3) := by decide +kernel
theorem dX6_findIn_14 : decode cX6_findIn 14 = .ok (.iload 4, 2) := by decide +kernel
theorem dX6_findIn_16 : decode cX6_findIn 16 = .ok (.aload_n 0, 1) := by decide +kernel
theorem dX6_findIn_17 : decode cX6_findIn 17 = .ok (.getfield 9, 3) := by decide +kernel
theorem dX6_findIn_20 : decode cX6_findIn 20 = .ok (.arraylength, 1) := by decide +kernel
theorem dX6_findIn_21 : decode cX6_findIn 21 = .ok (.if_icmp .ge 29, 3) := by decide +kernel
theorem dX6_findIn_24 : decode cX6_findIn 24 = .ok (.aload_n 1, 1) := by decide +kernel
theorem dX6_findIn_25 : decode cX6_findIn 25 = .ok (.lload_n 2, 1) := by decide +kernel
theorem dX6_findIn_26 : decode cX6_findIn 26 = .ok (.aload_n 0, 1) := by decide +kernel
theorem dX6_findIn_27 : decode cX6_findIn 27 = .ok (.getfield 9, 3) := by decide +kernel
theorem dX6_findIn_30 : decode cX6_findIn 30 = .ok (.iload 4, 2) := by decide +kernel
theorem dX6_findIn_32 : decode cX6_findIn 32 = .ok (.iaload, 1) := by decide +kernel
theorem dX6_findIn_33 : decode cX6_findIn 33 = .ok (.aload_n 0, 1) := by decide +kernel
theorem dX6_findIn_34 : decode cX6_findIn 34 = .ok (.getfield 15, 3) := by decide +kernel
theorem dX6_findIn_37 : decode cX6_findIn 37 = .ok (.iload 4, 2) := by decide +kernel
theorem dX6_findIn_39 : decode cX6_findIn 39 = .ok (.iaload, 1) := by decide +kernel
theorem dX6_findIn_40 : decode cX6_findIn 40 = .ok (.invokevirtual 22, 3) := by decide +kernel
theorem dX6_findIn_43 : decode cX6_findIn 43 = .ok (.lstore_n 2, 1) := by decide +kernel
theorem dX6_findIn_44 : decode cX6_findIn 44 = .ok (.iinc 4 1, 3) := by decide +kernel
theorem dX6_findIn_47 : decode cX6_findIn 47 = .ok (.goto (-42), 3) := by decide +kernel
theorem dX6_findIn_50 : decode cX6_findIn 50 = .ok (.lload_n 2, 1) := by decide +kernel
theorem dX6_findIn_51 : decode cX6_findIn 51 = .ok (.lreturn, 1) := by decide +kernel
theorem dX7_init_0 : decode cX7_init 0 = .ok (.aload_n 0, 1) := by decide +kernel
theorem dX7_init_1 : decode cX7_init 1 = .ok (.invokespecial 3, 3) := by decide +kernel
theorem dX7_init_4 : decode cX7_init 4 = .ok (.aload_n 0, 1) := by decide +kernel
theorem dX7_init_5 : decode cX7_init 5 = .ok (.bipush 31, 2) := by decide +kernel
theorem dX7_init_7 : decode cX7_init 7 = .ok (.putfield 9, 3) := by decide +kernel
theorem dX7_init_10 : decode cX7_init 10 = .ok (.aload_n 0, 1) := by decide +kernel
theorem dX7_init_11 : decode cX7_init 11 = .ok (.sipush (-9999), 3) := by decide +kernel
theorem dX7_init_14 : decode cX7_init 14 = .ok (.putfield 15, 3) := by decide +kernel
theorem dX7_init_17 : decode cX7_init 17 = .ok (.aload_n 0, 1) := by decide +kernel
theorem dX7_init_18 : decode cX7_init 18 = .ok (.sipush 9999, 3) := by decide +kernel
theorem dX7_init_21 : decode cX7_init 21 = .ok (.putfield 18, 3) := by decide +kernel
theorem dX7_init_24 : decode cX7_init 24 = .ok (.aload_n 0, 1) := by decide +kernel
theorem dX7_init_25 : decode cX7_init 25 = .ok (.bipush 50, 2) := by decide +kernel
theorem dX7_init_27 : decode cX7_init 27 = .ok (.putfield 21, 3) := by decide +kernel
theorem dX7_init_30 : decode cX7_init 30 = .ok (.aload_n 0, 1) := by decide +kernel
theorem dX7_init_31 : decode cX7_init 31 = .ok (.iconst (-1), 1) := by decide +kernel
theorem dX7_init_32 : decode cX7_init 32 = .ok (.putfield 24, 3) := by decide +kernel
theorem dX7_init_35 : decode cX7_init 35 = .ok (.aload_n 0, 1) := by decide +kernel
theorem dX7_init_36 : decode cX7_init 36 = .ok (.iconst (-1), 1) := by decide +kernel
theorem dX7_init_37 : decode cX7_init 37 = .ok (.putfield 27, 3) := by decide +kernel
theorem dX7_init_40 : decode cX7_init 40 = .ok (.aload_n 0, 1) := by decide +kernel
theorem dX7_init_41 : decode cX7_init 41 = .ok (.iconst 4, 1) := by decide +kernel
theorem dX7_init_42 : decode cX7_init 42 = .ok (.newarray .int, 2) := by decide +kernel
theorem dX7_init_44 : decode cX7_init 44 = .ok (.putfield 30, 3) := by decide +kernel
theorem dX7_init_47 : decode cX7_init 47 = .ok (.aload_n 0, 1) := by decide +kernel
theorem dX7_init_48 : decode cX7_init 48 = .ok (.iconst 4, 1) := by decide +kernel
theorem dX7_init_49 : decode cX7_init 49 = .ok (.newarray .int, 2) := by decide +kernel
theorem dX7_init_51 : decode cX7_init 51 = .ok (.putfield 34, 3) := by decide +kernel
theorem dX7_init_54 : decode cX7_init 54 = .ok (.aload_n 0, 1) := by decide +kernel
theorem dX7_init_55 : decode cX7_init 55 = .ok (.iconst 4, 1) := by decide +kernel
theorem dX7_init_56 : decode cX7_init 56 = .ok (.newarray .boolean, 2) := by decide +kernel
theorem dX7_init_58 : decode cX7_init 58 = .ok (.putfield 37, 3) := by decide +kernel
theorem dX7_init_61 : decode cX7_init 61 = .ok (.return_, 1) := by decide +kernel
theorem dX7_placeOfKey_0 : decode cX7_placeOfKey 0 = .ok (.iconst 0, 1) := by decide +kernel
theorem dX7_placeOfKey_1 : decode cX7_placeOfKey 1 = .ok (.istore_n 2, 1) := by decide +kernel
theorem dX7_placeOfKey_2 : decode cX7_placeOfKey 2 = .ok (.iload_n 2, 1) := by decide +kernel
theorem dX7_placeOfKey_3 : decode cX7_placeOfKey 3 = .ok (.aload_n 0, 1) := by decide +kernel
theorem dX7_placeOfKey_4 : decode cX7_placeOfKey 4 = .ok (.getfield 45, 3) := by decide +kernel
theorem dX7_placeOfKey_7 : decode cX7_placeOfKey 7 = .ok (.if_icmp .ge 30, 3) := by decide +kernel
theorem dX7_placeOfKey_10 : decode cX7_placeOfKey 10 = .ok (.iload_n 2, 1) := by decide +kernel
theorem dX7_placeOfKey_11 : decode cX7_placeOfKey 11 = .ok (.aload_n 0, 1) := by decide +kernel
theorem dX7_placeOfKey_12 : decode cX7_placeOfKey 12 = .ok (.getfield 30, 3) := by decide +kernel
theorem dX7_placeOfKey_15 : decode cX7_placeOfKey 15 = .ok (.arraylength, 1) := by decide +kernel
theorem dX7_placeOfKey_16 : decode cX7_placeOfKey 16 = .ok (.if_icmp .ge 21, 3) := by decide +kernel
theorem dX7_placeOfKey_19 : decode cX7_placeOfKey 19 = .ok (.aload_n 0, 1) := by decide +kernel
theorem dX7_placeOfKey_20 : decode cX7_placeOfKey 20 = .ok (.getfield 30, 3) := by decide +kernel
theorem dX7_placeOfKey_23 : decode cX7_placeOfKey 23 = .ok (.iload_n 2, 1) := by decide +kernel
theorem dX7_placeOfKey_24 : decode cX7_placeOfKey 24 = .ok (.iaload, 1) := by decide +kernel
theorem dX7_placeOfKey_25 : decode cX7_placeOfKey 25 = .ok (.iload_n 1, 1) := by decide +kernel
theorem dX7_placeOfKey_26 : decode cX7_placeOfKey 26 = .ok (.if_icmp .ne 5, 3) := by decide +kernel
theorem dX7_placeOfKey_29 : decode cX7_placeOfKey 29 = .ok (.iload_n 2, 1) := by decide +kernel
theorem dX7_placeOfKey_30 : decode cX7_placeOfKey 30 = .ok (.ireturn, 1) := by decide +kernel
theorem dX7_placeOfKey_31 : decode cX7_placeOfKey 31 = .ok (.iinc 2 1, 3) := by decide +kernel
theorem dX7_placeOfKey_34 : decode cX7_placeOfKey 34 = .ok (.goto (-32), 3) := by decide +kernel
theorem dX7_placeOfKey_37 : decode cX7_placeOfKey 37 = .ok (.iconst (-1), 1) := by decide +kernel
theorem dX7_placeOfKey_38 : decode cX7_placeOfKey 38 = .ok (.ireturn, 1) := by decide +kernel
theorem dX7_forChild_0 : decode cX7_forChild 0 = .ok (.iload_n 1, 1) := by decide +kernel
theorem dX7_forChild_1 : decode cX7_forChild 1 = .ok (.iconst 3, 1) := by decide +kernel
theorem dX7_forChild_2 : decode cX7_forChild 2 = .ok (.if_icmp .ne 8, 3) := by decide +kernel
theorem dX7_forChild_5 : decode cX7_forChild 5 = .ok (.aload_n 0, 1) := by decide +kernel
theorem dX7_forChild_6 : decode cX7_forChild 6 = .ok (.getfield 24, 3) := by decide +kernel
theorem dX7_forChild_9 : decode cX7_forChild 9 = .ok (.ireturn, 1) := by decide +kernel
theorem dX7_forChild_10 : decode cX7_forChild 10 = .ok (.aload_n 0, 1) := by decide +kernel
theorem dX7_forChild_11 : decode cX7_forChild 11 = .ok (.iload_n 2, 1) := by decide +kernel
theorem dX7_forChild_12 : decode cX7_forChild 12 = .ok (.invokevirtual 41, 3) := by decide +kernel
theorem dX7_forChild_15 : decode cX7_forChild 15 = .ok (.istore_n 3, 1) := by decide +kernel
theorem dX7_forChild_16 : decode cX7_forChild 16 = .ok (.iload_n 3, 1) := by decide +kernel
theorem dX7_forChild_17 : decode cX7_forChild 17 = .ok (.ifCond .ge 10, 3) := by decide +kernel
theorem dX7_forChild_20 : decode cX7_forChild 20 = .ok (.aload_n 0, 1) := by decide +kernel
theorem dX7_forChild_21 : decode cX7_forChild 21 = .ok (.getfield 27, 3) := by decide +kernel
theorem dX7_forChild_24 : decode cX7_forChild 24 = .ok (.goto 9, 3) := by decide +kernel
theorem dX7_forChild_27 : decode cX7_forChild 27 = .ok (.aload_n 0, 1) := by decide +kernel
theorem dX7_forChild_28 : decode cX7_forChild 28 = .ok (.getfield 34, 3) := by decide +kernel
theorem dX7_forChild_31 : decode cX7_forChild 31 = .ok (.iload_n 3, 1) := by decide +kernel
theorem dX7_forChild_32 : decode cX7_forChild 32 = .ok (.iaload, 1) := by decide +kernel
theorem dX7_forChild_33 : decode cX7_forChild 33 = .ok (.ireturn, 1) := by decide +kernel
theorem dX7_countMissing_0 : decode cX7_countMissing 0 = .ok (.iconst 0, 1) := by decide +kernel
theorem dX7_countMissing_1 : decode cX7_countMissing 1 = .ok (.istore_n 2, 1) := by decide +kernel
theorem dX7_countMissing_2 : decode cX7_countMissing 2 = .ok (.iconst 0, 1) := by decide +kernel
theorem dX7_countMissing_3 : decode cX7_countMissing 3 = .ok (.istore_n 3, 1) := by decide +kernel
theorem dX7_countMissing_4 : decode cX7_countMissing 4 = .ok (.iload_n 3, 1) := by decide +kernel
theorem dX7_countMissing_5 : decode cX7_countMissing 5 = .ok (.aload_n 0, 1) := by decide +kernel
theorem dX7_countMissing_6 : decode cX7_countMissing 6 = .ok (.getfield 45, 3) := by decide +kernel
theorem dX7_countMissing_9 : decode cX7_countMissing 9 = .ok (.if_icmp .ge 43, 3) := by decide +kernel
theorem dX7_countMissing_12 : decode cX7_countMissing 12 = .ok (.iload_n 3, 1) := by decide +kernel
theorem dX7_countMissing_13 : decode cX7_countMissing 13 = .ok (.aload_n 0, 1) := by decide +kernel
theorem dX7_countMissing_14 : decode cX7_countMissing 14 = .ok (.getfield 30, 3) := by decide +kernel
theorem dX7_countMissing_17 : decode cX7_countMissing 17 = .ok (.arraylength, 1) := by decide +kernel
theorem dX7_countMissing_18 : decode cX7_countMissing 18 = .ok (.if_icmp .ge 34, 3) := by decide +kernel
theorem dX7_countMissing_21 : decode cX7_countMissing 21 = .ok (.aload_n 0, 1) := by decide +kernel
theorem dX7_countMissing_22 : decode cX7_countMissing 22 = .ok (.getfield 37, 3) := by decide +kernel
theorem dX7_countMissing_25 : decode cX7_countMissing 25 = .ok (.iload_n 3, 1) := by decide +kernel
theorem dX7_countMissing_26 : decode cX7_countMissing 26 = .ok (.baload, 1) := by decide +kernel
theorem dX7_countMissing_27 : decode cX7_countMissing 27 = .ok (.ifCond .eq 19, 3) := by decide +kernel
theorem dX7_countMissing_30 : decode cX7_countMissing 30 = .ok (.aload_n 1, 1) := by decide +kernel
theorem dX7_countMissing_31 : decode cX7_countMissing 31 = .ok (.aload_n 0, 1) := by decide +kernel
theorem dX7_countMissing_32 : decode cX7_countMissing 32 = .ok (.getfield 30, 3) := by decide +kernel
theorem dX7_countMissing_35 : decode cX7_countMissing 35 = .ok (.iload_n 3, 1) := by decide +kernel
theorem dX7_countMissing_36 : decode cX7_countMissing 36 = .ok (.iaload, 1) := by decide +kernel
theorem dX7_countMissing_37 : decode cX7_countMissing 37 = .ok (.invokevirtual 51, 3) := by decide +kernel
theorem dX7_countMissing_40 : decode cX7_countMissing 40 = .ok (.ifCond .ge 6, 3) := by decide +kernel
theorem dX7_countMissing_43 : decode cX7_countMissing 43 = .ok (.iinc 2 1, 3) := by decide +kernel
theorem dX7_countMissing_46 : decode cX7_countMissing 46 = .ok (.iinc 3 1, 3) := by decide +kernel
theorem dX7_countMissing_49 : decode cX7_countMissing 49 = .ok (.goto (-45), 3) := by decide +kernel
theorem dX7_countMissing_52 : decode cX7_countMissing 52 = .ok (.iload_n 2, 1) := by decide +kernel
theorem dX7_countMissing_53 : decode cX7_countMissing 53 = .ok (.ireturn, 1) := by decide +kernel
theorem dX8_init_0 : decode cX8_init 0 = .ok (.aload_n 0, 1) := by decide +kernel
theorem dX8_init_1 : decode cX8_init 1 = .ok (.invokespecial 3, 3) := by decide +kernel
theorem dX8_init_4 : decode cX8_init 4 = .ok (.aload_n 0, 1) := by decide +kernel
theorem dX8_init_5 : decode cX8_init 5 = .ok (.iload_n 1, 1) := by decide +kernel
theorem dX8_init_6 : decode cX8_init 6 = .ok (.putfield 9, 3) := by decide +kernel
theorem dX8_init_9 : decode cX8_init 9 = .ok (.aload_n 0, 1) := by decide +kernel
theorem dX8_init_10 : decode cX8_init 10 = .ok (.iload_n 2, 1) := by decide +kernel
theorem dX8_init_11 : decode cX8_init 11 = .ok (.putfield 15, 3) := by decide +kernel
theorem dX8_init_14 : decode cX8_init 14 = .ok (.aload_n 0, 1) := by decide +kernel
theorem dX8_init_15 : decode cX8_init 15 = .ok (.aload_n 3, 1) := by decide +kernel
theorem dX8_init_16 : decode cX8_init 16 = .ok (.putfield 18, 3) := by decide +kernel
theorem dX8_init_19 : decode cX8_init 19 = .ok (.aload_n 0, 1) := by decide +kernel
theorem dX8_init_20 : decode cX8_init 20 = .ok (.aload 4, 2) := by decide +kernel
theorem dX8_init_22 : decode cX8_init 22 = .ok (.putfield 22, 3) := by decide +kernel
theorem dX8_init_25 : decode cX8_init 25 = .ok (.iconst 1, 1) := by decide +kernel
theorem dX8_init_26 : decode cX8_init 26 = .ok (.istore 5, 2) := by decide +kernel
theorem dX8_init_28 : decode cX8_init 28 = .ok (.iconst 0, 1) := by decide +kernel
theorem dX8_init_29 : decode cX8_init 29 = .ok (.istore 6, 2) := by decide +kernel
theorem dX8_init_31 : decode cX8_init 31 = .ok (.aload 4, 2) := by decide +kernel
theorem dX8_init_33 : decode cX8_init 33 = .ok (.ifnull 62, 3) := by decide +kernel
theorem dX8_init_36 : decode cX8_init 36 = .ok (.aload 4, 2) := by decide +kernel
theorem dX8_init_38 : decode cX8_init 38 = .ok (.astore 7, 2) := by decide +kernel
theorem dX8_init_40 : decode cX8_init 40 = .ok (.aload 7, 2) := by decide +kernel
theorem dX8_init_42 : decode cX8_init 42 = .ok (.arraylength, 1) := by decide +kernel
theorem dX8_init_43 : decode cX8_init 43 = .ok (.istore 8, 2) := by decide +kernel
theorem dX8_init_45 : decode cX8_init 45 = .ok (.iconst 0, 1) := by decide +kernel
theorem dX8_init_46 : decode cX8_init 46 = .ok (.istore 9, 2) := by decide +kernel
theorem dX8_init_48 : decode cX8_init 48 = .ok (.iload 9, 2) := by decide +kernel
theorem dX8_init_50 : decode cX8_init 50 = .ok (.iload 8, 2) := by decide +kernel
theorem dX8_init_52 : decode cX8_init 52 = .ok (.if_icmp .ge 43, 3) := by decide +kernel
theorem dX8_init_55 : decode cX8_init 55 = .ok (.aload 7, 2) := by decide +kernel
theorem dX8_init_57 : decode cX8_init 57 = .ok (.iload 9, 2) := by decide +kernel
theorem dX8_init_59 : decode cX8_init 59 = .ok (.aaload, 1) := by decide +kernel
theorem dX8_init_60 : decode cX8_init 60 = .ok (.astore 10, 2) := by decide +kernel
theorem dX8_init_62 : decode cX8_init 62 = .ok (.aload 10, 2) := by decide +kernel
theorem dX8_init_64 : decode cX8_init 64 = .ok (.ifnull 25, 3) := by decide +kernel
theorem dX8_init_67 : decode cX8_init 67 = .ok (.iload 5, 2) := by decide +kernel
theorem dX8_init_69 : decode cX8_init 69 = .ok (.aload 10, 2) := by decide +kernel
theorem dX8_init_71 : decode cX8_init 71 = .ok (.getfield 26, 3) := by decide +kernel
theorem dX8_init_74 : decode cX8_init 74 = .ok (.iadd, 1) := by decide +kernel
theorem dX8_init_75 : decode cX8_init 75 = .ok (.istore 5, 2) := by decide +kernel
theorem dX8_init_77 : decode cX8_init 77 = .ok (.iload 6, 2) := by decide +kernel
theorem dX8_init_79 : decode cX8_init 79 = .ok (.aload 10, 2) := by decide +kernel
theorem dX8_init_81 : decode cX8_init 81 = .ok (.getfield 29, 3) := by decide +kernel
theorem dX8_init_84 : decode cX8_init 84 = .ok (.invokestatic 32, 3) := by decide +kernel
theorem dX8_init_87 : decode cX8_init 87 = .ok (.istore 6, 2) := by decide +kernel
theorem dX8_init_89 : decode cX8_init 89 = .ok (.iinc 9 1, 3) := by decide +kernel
theorem dX8_init_92 : decode cX8_init 92 = .ok (.goto (-44), 3) := by decide +kernel
theorem dX8_init_95 : decode cX8_init 95 = .ok (.aload_n 0, 1) := by decide +kernel
theorem dX8_init_96 : decode cX8_init 96 = .ok (.iload 5, 2) := by decide +kernel
theorem dX8_init_98 : decode cX8_init 98 = .ok (.putfield 26, 3) := by decide +kernel
theorem dX8_init_101 : decode cX8_init 101 = .ok (.aload_n 0, 1) := by decide +kernel
theorem dX8_init_102 : decode cX8_init 102 = .ok (.iload 6, 2) := by decide +kernel
theorem dX8_init_104 : decode cX8_init 104 = .ok (.iconst 1, 1) := by decide +kernel
theorem dX8_init_105 : decode cX8_init 105 = .ok (.iadd, 1) := by decide +kernel
theorem dX8_init_106 : decode cX8_init 106 = .ok (.putfield 29, 3) := by decide +kernel
theorem dX8_init_109 : decode cX8_init 109 = .ok (.return_, 1) := by decide +kernel
theorem dX8_width_0 : decode cX8_width 0 = .ok (.aload_n 0, 1) := by decide +kernel
theorem dX8_width_1 : decode cX8_width 1 = .ok (.getfield 22, 3) := by decide +kernel
theorem dX8_width_4 : decode cX8_width 4 = .ok (.ifnonnull 7, 3) := by decide +kernel
theorem dX8_width_7 : decode cX8_width 7 = .ok (.iconst 0, 1) := by decide +kernel
theorem dX8_width_8 : decode cX8_width 8 = .ok (.goto 8, 3) := by decide +kernel
theorem dX8_width_11 : decode cX8_width 11 = .ok (.aload_n 0, 1) := by decide +kernel
theorem dX8_width_12 : decode cX8_width 12 = .ok (.getfield 22, 3) := by decide +kernel
theorem dX8_width_15 : decode cX8_width 15 = .ok (.arraylength, 1) := by decide +kernel
theorem dX8_width_16 : decode cX8_width 16 = .ok (.ireturn, 1) := by decide +kernel
theorem dX8_partAt_0 : decode cX8_partAt 0 = .ok (.aload_n 0, 1) := by decide +kernel
theorem dX8_partAt_1 : decode cX8_partAt 1 = .ok (.getfield 22, 3) := by decide +kernel
theorem dX8_partAt_4 : decode cX8_partAt 4 = .ok (.ifnull 16, 3) := by decide +kernel
theorem dX8_partAt_7 : decode cX8_partAt 7 = .ok (.iload_n 1, 1) := by decide +kernel
theorem dX8_partAt_8 : decode cX8_partAt 8 = .ok (.ifCond .lt 12, 3) := by decide +kernel
theorem dX8_partAt_11 : decode cX8_partAt 11 = .ok (.iload_n 1, 1) := by decide +kernel
theorem dX8_partAt_12 : decode cX8_partAt 12 = .ok (.aload_n 0, 1) := by decide +kernel
theorem dX8_partAt_13 : decode cX8_partAt 13 = .ok (.getfield 22, 3) := by decide +kernel
theorem dX8_partAt_16 : decode cX8_partAt 16 = .ok (.arraylength, 1) := by decide +kernel
theorem dX8_partAt_17 : decode cX8_partAt 17 = .ok (.if_icmp .lt 5, 3) := by decide +kernel
theorem dX8_partAt_20 : decode cX8_partAt 20 = .ok (.aconst_null, 1) := by decide +kernel
theorem dX8_partAt_21 : decode cX8_partAt 21 = .ok (.areturn, 1) := by decide +kernel
theorem dX8_partAt_22 : decode cX8_partAt 22 = .ok (.aload_n 0, 1) := by decide +kernel
theorem dX8_partAt_23 : decode cX8_partAt 23 = .ok (.getfield 22, 3) := by decide +kernel
theorem dX8_partAt_26 : decode cX8_partAt 26 = .ok (.iload_n 1, 1) := by decide +kernel
theorem dX8_partAt_27 : decode cX8_partAt 27 = .ok (.aaload, 1) := by decide +kernel
theorem dX8_partAt_28 : decode cX8_partAt 28 = .ok (.areturn, 1) := by decide +kernel
theorem dX8_stepOf_0 : decode cX8_stepOf 0 = .ok (.aload_n 0, 1) := by decide +kernel
theorem dX8_stepOf_1 : decode cX8_stepOf 1 = .ok (.getfield 18, 3) := by decide +kernel
theorem dX8_stepOf_4 : decode cX8_stepOf 4 = .ok (.ifnull 16, 3) := by decide +kernel
theorem dX8_stepOf_7 : decode cX8_stepOf 7 = .ok (.iload_n 1, 1) := by decide +kernel
theorem dX8_stepOf_8 : decode cX8_stepOf 8 = .ok (.ifCond .lt 12, 3) := by decide +kernel
theorem dX8_stepOf_11 : decode cX8_stepOf 11 = .ok (.iload_n 1, 1) := by decide +kernel
theorem dX8_stepOf_12 : decode cX8_stepOf 12 = .ok (.aload_n 0, 1) := by decide +kernel
theorem dX8_stepOf_13 : decode cX8_stepOf 13 = .ok (.getfield 18, 3) := by decide +kernel
theorem dX8_stepOf_16 : decode cX8_stepOf 16 = .ok (.arraylength, 1) := by decide +kernel
theorem dX8_stepOf_17 : decode cX8_stepOf 17 = .ok (.if_icmp .lt 5, 3) := by decide +kernel
theorem dX8_stepOf_20 : decode cX8_stepOf 20 = .ok (.iload_n 1, 1) := by decide +kernel
theorem dX8_stepOf_21 : decode cX8_stepOf 21 = .ok (.ireturn, 1) := by decide +kernel
theorem dX8_stepOf_22 : decode cX8_stepOf 22 = .ok (.aload_n 0, 1) := by decide +kernel
theorem dX8_stepOf_23 : decode cX8_stepOf 23 = .ok (.getfield 18, 3) := by decide +kernel
theorem dX8_stepOf_26 : decode cX8_stepOf 26 = .ok (.iload_n 1, 1) := by decide +kernel
theorem dX8_stepOf_27 : decode cX8_stepOf 27 = .ok (.iaload, 1) := by decide +kernel
theorem dX8_stepOf_28 : decode cX8_stepOf 28 = .ok (.ireturn, 1) := by decide +kernel
theorem dX8_placeOf_0 : decode cX8_placeOf 0 = .ok (.aload_n 0, 1) := by decide +kernel
theorem dX8_placeOf_1 : decode cX8_placeOf 1 = .ok (.getfield 9, 3) := by decide +kernel
theorem dX8_placeOf_4 : decode cX8_placeOf 4 = .ok (.iconst 4, 1) := by decide +kernel
theorem dX8_placeOf_5 : decode cX8_placeOf 5 = .ok (.if_icmp .eq 29, 3) := by decide +kernel
theorem dX8_placeOf_8 : decode cX8_placeOf 8 = .ok (.aload_n 0, 1) := by decide +kernel
theorem dX8_placeOf_9 : decode cX8_placeOf 9 = .ok (.getfield 22, 3) := by decide +kernel
theorem dX8_placeOf_12 : decode cX8_placeOf 12 = .ok (.ifnull 20, 3) := by decide +kernel
theorem dX8_placeOf_15 : decode cX8_placeOf 15 = .ok (.iload_n 1, 1) := by decide +kernel
theorem dX8_placeOf_16 : decode cX8_placeOf 16 = .ok (.ifCond .lt 16, 3) := by decide +kernel
theorem dX8_placeOf_19 : decode cX8_placeOf 19 = .ok (.iload_n 1, 1) := by decide +kernel
theorem dX8_placeOf_20 : decode cX8_placeOf 20 = .ok (.aload_n 0, 1) := by decide +kernel
theorem dX8_placeOf_21 : decode cX8_placeOf 21 = .ok (.getfield 22, 3) := by decide +kernel
theorem dX8_placeOf_24 : decode cX8_placeOf 24 = .ok (.arraylength, 1) := by decide +kernel
theorem dX8_placeOf_25 : decode cX8_placeOf 25 = .ok (.if_icmp .ge 7, 3) := by decide +kernel
theorem dX8_placeOf_28 : decode cX8_placeOf 28 = .ok (.iload_n 1, 1) := by decide +kernel
theorem dX8_placeOf_29 : decode cX8_placeOf 29 = .ok (.goto 4, 3) := by decide +kernel
theorem dX8_placeOf_32 : decode cX8_placeOf 32 = .ok (.iconst (-1), 1) := by decide +kernel
theorem dX8_placeOf_33 : decode cX8_placeOf 33 = .ok (.ireturn, 1) := by decide +kernel
theorem dX8_placeOf_34 : decode cX8_placeOf 34 = .ok (.iconst 0, 1) := by decide +kernel
theorem dX8_placeOf_35 : decode cX8_placeOf 35 = .ok (.istore_n 2, 1) := by decide +kernel
theorem dX8_placeOf_36 : decode cX8_placeOf 36 = .ok (.aload_n 0, 1) := by decide +kernel
theorem dX8_placeOf_37 : decode cX8_placeOf 37 = .ok (.getfield 18, 3) := by decide +kernel
theorem dX8_placeOf_40 : decode cX8_placeOf 40 = .ok (.ifnull 30, 3) := by decide +kernel
theorem dX8_placeOf_43 : decode cX8_placeOf 43 = .ok (.iload_n 2, 1) := by decide +kernel
theorem dX8_placeOf_44 : decode cX8_placeOf 44 = .ok (.aload_n 0, 1) := by decide +kernel
theorem dX8_placeOf_45 : decode cX8_placeOf 45 = .ok (.getfield 18, 3) := by decide +kernel
theorem dX8_placeOf_48 : decode cX8_placeOf 48 = .ok (.arraylength, 1) := by decide +kernel
theorem dX8_placeOf_49 : decode cX8_placeOf 49 = .ok (.if_icmp .ge 21, 3) := by decide +kernel
theorem dX8_placeOf_52 : decode cX8_placeOf 52 = .ok (.aload_n 0, 1) := by decide +kernel
theorem dX8_placeOf_53 : decode cX8_placeOf 53 = .ok (.getfield 18, 3) := by decide +kernel
theorem dX8_placeOf_56 : decode cX8_placeOf 56 = .ok (.iload_n 2, 1) := by decide +kernel
theorem dX8_placeOf_57 : decode cX8_placeOf 57 = .ok (.iaload, 1) := by decide +kernel
theorem dX8_placeOf_58 : decode cX8_placeOf 58 = .ok (.iload_n 1, 1) := by decide +kernel
theorem dX8_placeOf_59 : decode cX8_placeOf 59 = .ok (.if_icmp .ne 5, 3) := by decide +kernel
theorem dX8_placeOf_62 : decode cX8_placeOf 62 = .ok (.iload_n 2, 1) := by decide +kernel
theorem dX8_placeOf_63 : decode cX8_placeOf 63 = .ok (.ireturn, 1) := by decide +kernel
theorem dX8_placeOf_64 : decode cX8_placeOf 64 = .ok (.iinc 2 1, 3) := by decide +kernel
theorem dX8_placeOf_67 : decode cX8_placeOf 67 = .ok (.goto (-31), 3) := by decide +kernel
theorem dX8_placeOf_70 : decode cX8_placeOf 70 = .ok (.iconst (-1), 1) := by decide +kernel
theorem dX8_placeOf_71 : decode cX8_placeOf 71 = .ok (.ireturn, 1) := by decide +kernel
theorem dX8_placeToAdd_0 : decode cX8_placeToAdd 0 = .ok (.aload_n 0, 1) := by decide +kernel
theorem dX8_placeToAdd_1 : decode cX8_placeToAdd 1 = .ok (.getfield 9, 3) := by decide +kernel
theorem dX8_placeToAdd_4 : decode cX8_placeToAdd 4 = .ok (.iconst 3, 1) := by decide +kernel
theorem dX8_placeToAdd_5 : decode cX8_placeToAdd 5 = .ok (.if_icmp .ne 21, 3) := by decide +kernel
theorem dX8_placeToAdd_8 : decode cX8_placeToAdd 8 = .ok (.iload_n 1, 1) := by decide +kernel
theorem dX8_placeToAdd_9 : decode cX8_placeToAdd 9 = .ok (.ifCond .lt 15, 3) := by decide +kernel
theorem dX8_placeToAdd_12 : decode cX8_placeToAdd 12 = .ok (.iload_n 1, 1) := by decide +kernel
theorem dX8_placeToAdd_13 : decode cX8_placeToAdd 13 = .ok (.aload_n 0, 1) := by decide +kernel
theorem dX8_placeToAdd_14 : decode cX8_placeToAdd 14 = .ok (.invokevirtual 38, 3) := by decide +kernel
theorem dX8_placeToAdd_17 : decode cX8_placeToAdd 17 = .ok (.if_icmp .gt 7, 3) := by decide +kernel
theorem dX8_placeToAdd_20 : decode cX8_placeToAdd 20 = .ok (.iload_n 1, 1) := by decide +kernel
theorem dX8_placeToAdd_21 : decode cX8_placeToAdd 21 = .ok (.goto 4, 3) := by decide +kernel
theorem dX8_placeToAdd_24 : decode cX8_placeToAdd 24 = .ok (.iconst (-1), 1) := by decide +kernel
theorem dX8_placeToAdd_25 : decode cX8_placeToAdd 25 = .ok (.ireturn, 1) := by decide +kernel
theorem dX8_placeToAdd_26 : decode cX8_placeToAdd 26 = .ok (.aload_n 0, 1) := by decide +kernel
theorem dX8_placeToAdd_27 : decode cX8_placeToAdd 27 = .ok (.getfield 9, 3) := by decide +kernel
theorem dX8_placeToAdd_30 : decode cX8_placeToAdd 30 = .ok (.iconst 4, 1) := by decide +kernel
theorem dX8_placeToAdd_31 : decode cX8_placeToAdd 31 = .ok (.if_icmp .ne 21, 3) := by decide +kernel
theorem dX8_placeToAdd_34 : decode cX8_placeToAdd 34 = .ok (.iload_n 1, 1) := by decide +kernel
theorem dX8_placeToAdd_35 : decode cX8_placeToAdd 35 = .ok (.ifCond .lt 17, 3) := by decide +kernel
theorem dX8_placeToAdd_38 : decode cX8_placeToAdd 38 = .ok (.iload_n 1, 1) := by decide +kernel
theorem dX8_placeToAdd_39 : decode cX8_placeToAdd 39 = .ok (.bipush 99, 2) := by decide +kernel
theorem dX8_placeToAdd_41 : decode cX8_placeToAdd 41 = .ok (.if_icmp .gt 11, 3) := by decide +kernel
theorem dX8_placeToAdd_44 : decode cX8_placeToAdd 44 = .ok (.aload_n 0, 1) := by decide +kernel
theorem dX8_placeToAdd_45 : decode cX8_placeToAdd 45 = .ok (.iload_n 1, 1) := by decide +kernel
theorem dX8_placeToAdd_46 : decode cX8_placeToAdd 46 = .ok (.invokevirtual 42, 3) := by decide +kernel
theorem dX8_placeToAdd_49 : decode cX8_placeToAdd 49 = .ok (.ifCond .lt 5, 3) := by decide +kernel
theorem dX8_placeToAdd_52 : decode cX8_placeToAdd 52 = .ok (.iconst (-1), 1) := by decide +kernel
theorem dX8_placeToAdd_53 : decode cX8_placeToAdd 53 = .ok (.ireturn, 1) := by decide +kernel
theorem dX8_placeToAdd_54 : decode cX8_placeToAdd 54 = .ok (.iconst 0, 1) := by decide +kernel
theorem dX8_placeToAdd_55 : decode cX8_placeToAdd 55 = .ok (.istore_n 2, 1) := by decide +kernel
theorem dX8_placeToAdd_56 : decode cX8_placeToAdd 56 = .ok (.aload_n 0, 1) := by decide +kernel
theorem dX8_placeToAdd_57 : decode cX8_placeToAdd 57 = .ok (.getfield 18, 3) := by decide +kernel
theorem dX8_placeToAdd_60 : decode cX8_placeToAdd 60 = .ok (.ifnull 28, 3) := by decide +kernel
theorem dX8_placeToAdd_63 : decode cX8_placeToAdd 63 = .ok (.iload_n 2, 1) := by decide +kernel
theorem dX8_placeToAdd_64 : decode cX8_placeToAdd 64 = .ok (.aload_n 0, 1) := by decide +kernel
theorem dX8_placeToAdd_65 : decode cX8_placeToAdd 65 = .ok (.getfield 18, 3) := by decide +kernel
theorem dX8_placeToAdd_68 : decode cX8_placeToAdd 68 = .ok (.arraylength, 1) := by decide +kernel
theorem dX8_placeToAdd_69 : decode cX8_placeToAdd 69 = .ok (.if_icmp .ge 19, 3) := by decide +kernel
theorem dX8_placeToAdd_72 : decode cX8_placeToAdd 72 = .ok (.aload_n 0, 1) := by decide +kernel
theorem dX8_placeToAdd_73 : decode cX8_placeToAdd 73 = .ok (.getfield 18, 3) := by decide +kernel
theorem dX8_placeToAdd_76 : decode cX8_placeToAdd 76 = .ok (.iload_n 2, 1) := by decide +kernel
theorem dX8_placeToAdd_77 : decode cX8_placeToAdd 77 = .ok (.iaload, 1) := by decide +kernel
theorem dX8_placeToAdd_78 : decode cX8_placeToAdd 78 = .ok (.iload_n 1, 1) := by decide +kernel
theorem dX8_placeToAdd_79 : decode cX8_placeToAdd 79 = .ok (.if_icmp .ge 9, 3) := by decide +kernel
theorem dX8_placeToAdd_82 : decode cX8_placeToAdd 82 = .ok (.iinc 2 1, 3) := by decide +kernel
theorem dX8_placeToAdd_85 : decode cX8_placeToAdd 85 = .ok (.goto (-29), 3) := by decide +kernel
theorem dX8_placeToAdd_88 : decode cX8_placeToAdd 88 = .ok (.iload_n 2, 1) := by decide +kernel
theorem dX8_placeToAdd_89 : decode cX8_placeToAdd 89 = .ok (.ireturn, 1) := by decide +kernel
theorem dX8_below_0 : decode cX8_below 0 = .ok (.aload_n 0, 1) := by decide +kernel
theorem dX8_below_1 : decode cX8_below 1 = .ok (.astore_n 3, 1) := by decide +kernel
theorem dX8_below_2 : decode cX8_below 2 = .ok (.iconst 0, 1) := by decide +kernel
theorem dX8_below_3 : decode cX8_below 3 = .ok (.istore 4, 2) := by decide +kernel
theorem dX8_below_5 : decode cX8_below 5 = .ok (.iload 4, 2) := by decide +kernel
theorem dX8_below_7 : decode cX8_below 7 = .ok (.iload_n 2, 1) := by decide +kernel
theorem dX8_below_8 : decode cX8_below 8 = .ok (.if_icmp .ge 33, 3) := by decide +kernel
theorem dX8_below_11 : decode cX8_below 11 = .ok (.iload 4, 2) := by decide +kernel
theorem dX8_below_13 : decode cX8_below 13 = .ok (.aload_n 1, 1) := by decide +kernel
theorem dX8_below_14 : decode cX8_below 14 = .ok (.arraylength, 1) := by decide +kernel
theorem dX8_below_15 : decode cX8_below 15 = .ok (.if_icmp .ge 26, 3) := by decide +kernel
theorem dX8_below_18 : decode cX8_below 18 = .ok (.aload_n 3, 1) := by decide +kernel
theorem dX8_below_19 : decode cX8_below 19 = .ok (.ifnull 22, 3) := by decide +kernel
theorem dX8_below_22 : decode cX8_below 22 = .ok (.aload_n 3, 1) := by decide +kernel
theorem dX8_below_23 : decode cX8_below 23 = .ok (.aload_n 3, 1) := by decide +kernel
theorem dX8_below_24 : decode cX8_below 24 = .ok (.aload_n 1, 1) := by decide +kernel
theorem dX8_below_25 : decode cX8_below 25 = .ok (.iload 4, 2) := by decide +kernel
theorem dX8_below_27 : decode cX8_below 27 = .ok (.iaload, 1) := by decide +kernel
theorem dX8_below_28 : decode cX8_below 28 = .ok (.invokevirtual 42, 3) := by decide +kernel
theorem dX8_below_31 : decode cX8_below 31 = .ok (.invokevirtual 46, 3) := by decide +kernel
theorem dX8_below_34 : decode cX8_below 34 = .ok (.astore_n 3, 1) := by decide +kernel
theorem dX8_below_35 : decode cX8_below 35 = .ok (.iinc 4 1, 3) := by decide +kernel
theorem dX8_below_38 : decode cX8_below 38 = .ok (.goto (-33), 3) := by decide +kernel
theorem dX8_below_41 : decode cX8_below 41 = .ok (.aload_n 3, 1) := by decide +kernel
theorem dX8_below_42 : decode cX8_below 42 = .ok (.areturn, 1) := by decide +kernel
theorem dX8_withPart_0 : decode cX8_withPart 0 = .ok (.aload_n 0, 1) := by decide +kernel
theorem dX8_withPart_1 : decode cX8_withPart 1 = .ok (.invokevirtual 38, 3) := by decide +kernel
theorem dX8_withPart_4 : decode cX8_withPart 4 = .ok (.istore_n 3, 1) := by decide +kernel
theorem dX8_withPart_5 : decode cX8_withPart 5 = .ok (.iload_n 3, 1) := by decide +kernel
theorem dX8_withPart_6 : decode cX8_withPart 6 = .ok (.anewarray 10, 3) := by decide +kernel
theorem dX8_withPart_9 : decode cX8_withPart 9 = .ok (.astore 4, 2) := by decide +kernel
theorem dX8_withPart_11 : decode cX8_withPart 11 = .ok (.iconst 0, 1) := by decide +kernel
theorem dX8_withPart_12 : decode cX8_withPart 12 = .ok (.istore 5, 2) := by decide +kernel
theorem dX8_withPart_14 : decode cX8_withPart 14 = .ok (.iload 5, 2) := by decide +kernel
theorem dX8_withPart_16 : decode cX8_withPart 16 = .ok (.iload_n 3, 1) := by decide +kernel
theorem dX8_withPart_17 : decode cX8_withPart 17 = .ok (.if_icmp .ge 30, 3) := by decide +kernel
theorem dX8_withPart_20 : decode cX8_withPart 20 = .ok (.aload 4, 2) := by decide +kernel
theorem dX8_withPart_22 : decode cX8_withPart 22 = .ok (.iload 5, 2) := by decide +kernel
theorem dX8_withPart_24 : decode cX8_withPart 24 = .ok (.iload 5, 2) := by decide +kernel
theorem dX8_withPart_26 : decode cX8_withPart 26 = .ok (.iload_n 1, 1) := by decide +kernel
theorem dX8_withPart_27 : decode cX8_withPart 27 = .ok (.if_icmp .ne 7, 3) := by decide +kernel
theorem dX8_withPart_30 : decode cX8_withPart 30 = .ok (.aload_n 2, 1) := by decide +kernel
theorem dX8_withPart_31 : decode cX8_withPart 31 = .ok (.goto 9, 3) := by decide +kernel
theorem dX8_withPart_34 : decode cX8_withPart 34 = .ok (.aload_n 0, 1) := by decide +kernel
theorem dX8_withPart_35 : decode cX8_withPart 35 = .ok (.iload 5, 2) := by decide +kernel
theorem dX8_withPart_37 : decode cX8_withPart 37 = .ok (.invokevirtual 46, 3) := by decide +kernel
theorem dX8_withPart_40 : decode cX8_withPart 40 = .ok (.aastore, 1) := by decide +kernel
theorem dX8_withPart_41 : decode cX8_withPart 41 = .ok (.iinc 5 1, 3) := by decide +kernel
theorem dX8_withPart_44 : decode cX8_withPart 44 = .ok (.goto (-30), 3) := by decide +kernel
theorem dX8_withPart_47 : decode cX8_withPart 47 = .ok (.new 10, 3) := by decide +kernel
theorem dX8_withPart_50 : decode cX8_withPart 50 = .ok (.dup, 1) := by decide +kernel
theorem dX8_withPart_51 : decode cX8_withPart 51 = .ok (.aload_n 0, 1) := by decide +kernel
theorem dX8_withPart_52 : decode cX8_withPart 52 = .ok (.getfield 9, 3) := by decide +kernel
theorem dX8_withPart_55 : decode cX8_withPart 55 = .ok (.aload_n 0, 1) := by decide +kernel
theorem dX8_withPart_56 : decode cX8_withPart 56 = .ok (.getfield 15, 3) := by decide +kernel
theorem dX8_withPart_59 : decode cX8_withPart 59 = .ok (.aload_n 0, 1) := by decide +kernel
theorem dX8_withPart_60 : decode cX8_withPart 60 = .ok (.getfield 18, 3) := by decide +kernel
theorem dX8_withPart_63 : decode cX8_withPart 63 = .ok (.aload 4, 2) := by decide +kernel
theorem dX8_withPart_65 : decode cX8_withPart 65 = .ok (.invokespecial 50, 3) := by decide +kernel
theorem dX8_withPart_68 : decode cX8_withPart 68 = .ok (.areturn, 1) := by decide +kernel
theorem dX8_withAdded_0 : decode cX8_withAdded 0 = .ok (.aload_n 0, 1) := by decide +kernel
theorem dX8_withAdded_1 : decode cX8_withAdded 1 = .ok (.invokevirtual 38, 3) := by decide +kernel
theorem dX8_withAdded_4 : decode cX8_withAdded 4 = .ok (.istore 4, 2) := by decide +kernel
theorem dX8_withAdded_6 : decode cX8_withAdded 6 = .ok (.iload 4, 2) := by decide +kernel
theorem dX8_withAdded_8 : decode cX8_withAdded 8 = .ok (.iconst 1, 1) := by decide +kernel
theorem dX8_withAdded_9 : decode cX8_withAdded 9 = .ok (.iadd, 1) := by decide +kernel
theorem dX8_withAdded_10 : decode cX8_withAdded 10 = .ok (.anewarray 10, 3) := by decide +kernel
theorem dX8_withAdded_13 : decode cX8_withAdded 13 = .ok (.astore 5, 2) := by decide +kernel
theorem dX8_withAdded_15 : decode cX8_withAdded 15 = .ok (.aload_n 0, 1) := by decide +kernel
theorem dX8_withAdded_16 : decode cX8_withAdded 16 = .ok (.getfield 9, 3) := by decide +kernel
theorem dX8_withAdded_19 : decode cX8_withAdded 19 = .ok (.iconst 4, 1) := by decide +kernel
theorem dX8_withAdded_20 : decode cX8_withAdded 20 = .ok (.if_icmp .ne 12, 3) := by decide +kernel
theorem dX8_withAdded_23 : decode cX8_withAdded 23 = .ok (.iload 4, 2) := by decide +kernel
theorem dX8_withAdded_25 : decode cX8_withAdded 25 = .ok (.iconst 1, 1) := by decide +kernel
theorem dX8_withAdded_26 : decode cX8_withAdded 26 = .ok (.iadd, 1) := by decide +kernel
theorem dX8_withAdded_27 : decode cX8_withAdded 27 = .ok (.newarray .int, 2) := by decide +kernel
theorem dX8_withAdded_29 : decode cX8_withAdded 29 = .ok (.goto 4, 3) := by decide +kernel
theorem dX8_withAdded_32 : decode cX8_withAdded 32 = .ok (.aconst_null, 1) := by decide +kernel
theorem dX8_withAdded_33 : decode cX8_withAdded 33 = .ok (.astore 6, 2) := by decide +kernel
theorem dX8_withAdded_35 : decode cX8_withAdded 35 = .ok (.iconst 0, 1) := by decide +kernel
theorem dX8_withAdded_36 : decode cX8_withAdded 36 = .ok (.istore 7, 2) := by decide +kernel
theorem dX8_withAdded_38 : decode cX8_withAdded 38 = .ok (.iload 7, 2) := by decide +kernel
theorem dX8_withAdded_40 : decode cX8_withAdded 40 = .ok (.iload 4, 2) := by decide +kernel
theorem dX8_withAdded_42 : decode cX8_withAdded 42 = .ok (.if_icmp .gt 73, 3) := by decide +kernel
theorem dX8_withAdded_45 : decode cX8_withAdded 45 = .ok (.iload 7, 2) := by decide +kernel
theorem dX8_withAdded_47 : decode cX8_withAdded 47 = .ok (.iload_n 1, 1) := by decide +kernel
theorem dX8_withAdded_48 : decode cX8_withAdded 48 = .ok (.if_icmp .ge 8, 3) := by decide +kernel
theorem dX8_withAdded_51 : decode cX8_withAdded 51 = .ok (.iload 7, 2) := by decide +kernel
theorem dX8_withAdded_53 : decode cX8_withAdded 53 = .ok (.goto 7, 3) := by decide +kernel
theorem dX8_withAdded_56 : decode cX8_withAdded 56 = .ok (.iload 7, 2) := by decide +kernel
theorem dX8_withAdded_58 : decode cX8_withAdded 58 = .ok (.iconst 1, 1) := by decide +kernel
theorem dX8_withAdded_59 : decode cX8_withAdded 59 = .ok (.isub, 1) := by decide +kernel
theorem dX8_withAdded_60 : decode cX8_withAdded 60 = .ok (.istore 8, 2) := by decide +kernel
theorem dX8_withAdded_62 : decode cX8_withAdded 62 = .ok (.aload 5, 2) := by decide +kernel
theorem dX8_withAdded_64 : decode cX8_withAdded 64 = .ok (.iload 7, 2) := by decide +kernel
theorem dX8_withAdded_66 : decode cX8_withAdded 66 = .ok (.iload 7, 2) := by decide +kernel
theorem dX8_withAdded_68 : decode cX8_withAdded 68 = .ok (.iload_n 1, 1) := by decide +kernel
theorem dX8_withAdded_69 : decode cX8_withAdded 69 = .ok (.if_icmp .ne 7, 3) := by decide +kernel
theorem dX8_withAdded_72 : decode cX8_withAdded 72 = .ok (.aload_n 3, 1) := by decide +kernel
theorem dX8_withAdded_73 : decode cX8_withAdded 73 = .ok (.goto 9, 3) := by decide +kernel
theorem dX8_withAdded_76 : decode cX8_withAdded 76 = .ok (.aload_n 0, 1) := by decide +kernel
theorem dX8_withAdded_77 : decode cX8_withAdded 77 = .ok (.iload 8, 2) := by decide +kernel
theorem dX8_withAdded_79 : decode cX8_withAdded 79 = .ok (.invokevirtual 46, 3) := by decide +kernel
theorem dX8_withAdded_82 : decode cX8_withAdded 82 = .ok (.aastore, 1) := by decide +kernel
theorem dX8_withAdded_83 : decode cX8_withAdded 83 = .ok (.aload 6, 2) := by decide +kernel
theorem dX8_withAdded_85 : decode cX8_withAdded 85 = .ok (.ifnull 24, 3) := by decide +kernel
theorem dX8_withAdded_88 : decode cX8_withAdded 88 = .ok (.aload 6, 2) := by decide +kernel
theorem dX8_withAdded_90 : decode cX8_withAdded 90 = .ok (.iload 7, 2) := by decide +kernel
theorem dX8_withAdded_92 : decode cX8_withAdded 92 = .ok (.iload 7, 2) := by decide +kernel
theorem dX8_withAdded_94 : decode cX8_withAdded 94 = .ok (.iload_n 1, 1) := by decide +kernel
theorem dX8_withAdded_95 : decode cX8_withAdded 95 = .ok (.if_icmp .ne 7, 3) := by decide +kernel
theorem dX8_withAdded_98 : decode cX8_withAdded 98 = .ok (.iload_n 2, 1) := by decide +kernel
theorem dX8_withAdded_99 : decode cX8_withAdded 99 = .ok (.goto 9, 3) := by decide +kernel
theorem dX8_withAdded_102 : decode cX8_withAdded 102 = .ok (.aload_n 0, 1) := by decide +kernel
theorem dX8_withAdded_103 : decode cX8_withAdded 103 = .ok (.iload 8, 2) := by decide +kernel
theorem dX8_withAdded_105 : decode cX8_withAdded 105 = .ok (.invokevirtual 53, 3) := by decide +kernel
theorem dX8_withAdded_108 : decode cX8_withAdded 108 = .ok (.iastore, 1) := by decide +kernel
theorem dX8_withAdded_109 : decode cX8_withAdded 109 = .ok (.iinc 7 1, 3) := by decide +kernel
theorem dX8_withAdded_112 : decode cX8_withAdded 112 = .ok (.goto (-74), 3) := by decide +kernel
theorem dX8_withAdded_115 : decode cX8_withAdded 115 = .ok (.new 10, 3) := by decide +kernel
theorem dX8_withAdded_118 : decode cX8_withAdded 118 = .ok (.dup, 1) := by decide +kernel
theorem dX8_withAdded_119 : decode cX8_withAdded 119 = .ok (.aload_n 0, 1) := by decide +kernel
theorem dX8_withAdded_120 : decode cX8_withAdded 120 = .ok (.getfield 9, 3) := by decide +kernel
theorem dX8_withAdded_123 : decode cX8_withAdded 123 = .ok (.aload_n 0, 1) := by decide +kernel
theorem dX8_withAdded_124 : decode cX8_withAdded 124 = .ok (.getfield 15, 3) := by decide +kernel
theorem dX8_withAdded_127 : decode cX8_withAdded 127 = .ok (.aload 6, 2) := by decide +kernel
theorem dX8_withAdded_129 : decode cX8_withAdded 129 = .ok (.aload 5, 2) := by decide +kernel
theorem dX8_withAdded_131 : decode cX8_withAdded 131 = .ok (.invokespecial 50, 3) := by decide +kernel
theorem dX8_withAdded_134 : decode cX8_withAdded 134 = .ok (.areturn, 1) := by decide +kernel
theorem dX8_withoutPart_0 : decode cX8_withoutPart 0 = .ok (.aload_n 0, 1) := by decide +kernel
theorem dX8_withoutPart_1 : decode cX8_withoutPart 1 = .ok (.invokevirtual 38, 3) := by decide +kernel
theorem dX8_withoutPart_4 : decode cX8_withoutPart 4 = .ok (.iconst 1, 1) := by decide +kernel
theorem dX8_withoutPart_5 : decode cX8_withoutPart 5 = .ok (.isub, 1) := by decide +kernel
theorem dX8_withoutPart_6 : decode cX8_withoutPart 6 = .ok (.istore_n 2, 1) := by decide +kernel
theorem dX8_withoutPart_7 : decode cX8_withoutPart 7 = .ok (.iload_n 2, 1) := by decide +kernel
theorem dX8_withoutPart_8 : decode cX8_withoutPart 8 = .ok (.ifCond .gt 21, 3) := by decide +kernel
theorem dX8_withoutPart_11 : decode cX8_withoutPart 11 = .ok (.new 10, 3) := by decide +kernel
theorem dX8_withoutPart_14 : decode cX8_withoutPart 14 = .ok (.dup, 1) := by decide +kernel
theorem dX8_withoutPart_15 : decode cX8_withoutPart 15 = .ok (.aload_n 0, 1) := by decide +kernel
theorem dX8_withoutPart_16 : decode cX8_withoutPart 16 = .ok (.getfield 9, 3) := by decide +kernel
theorem dX8_withoutPart_19 : decode cX8_withoutPart 19 = .ok (.aload_n 0, 1) := by decide +kernel
theorem dX8_withoutPart_20 : decode cX8_withoutPart 20 = .ok (.getfield 15, 3) := by decide +kernel
theorem dX8_withoutPart_23 : decode cX8_withoutPart 23 = .ok (.aconst_null, 1) := by decide +kernel
theorem dX8_withoutPart_24 : decode cX8_withoutPart 24 = .ok (.aconst_null, 1) := by decide +kernel
theorem dX8_withoutPart_25 : decode cX8_withoutPart 25 = .ok (.invokespecial 50, 3) := by decide +kernel
theorem dX8_withoutPart_28 : decode cX8_withoutPart 28 = .ok (.areturn, 1) := by decide +kernel
theorem dX8_withoutPart_29 : decode cX8_withoutPart 29 = .ok (.iload_n 2, 1) := by decide +kernel
theorem dX8_withoutPart_30 : decode cX8_withoutPart 30 = .ok (.anewarray 10, 3) := by decide +kernel
theorem dX8_withoutPart_33 : decode cX8_withoutPart 33 = .ok (.astore_n 3, 1) := by decide +kernel
theorem dX8_withoutPart_34 : decode cX8_withoutPart 34 = .ok (.aload_n 0, 1) := by decide +kernel
theorem dX8_withoutPart_35 : decode cX8_withoutPart 35 = .ok (.getfield 9, 3) := by decide +kernel
theorem dX8_withoutPart_38 : decode cX8_withoutPart 38 = .ok (.iconst 4, 1) := by decide +kernel
theorem dX8_withoutPart_39 : decode cX8_withoutPart 39 = .ok (.if_icmp .ne 9, 3) := by decide +kernel
theorem dX8_withoutPart_42 : decode cX8_withoutPart 42 = .ok (.iload_n 2, 1) := by decide +kernel
theorem dX8_withoutPart_43 : decode cX8_withoutPart 43 = .ok (.newarray .int, 2) := by decide +kernel
theorem dX8_withoutPart_45 : decode cX8_withoutPart 45 = .ok (.goto 4, 3) := by decide +kernel
theorem dX8_withoutPart_48 : decode cX8_withoutPart 48 = .ok (.aconst_null, 1) := by decide +kernel
theorem dX8_withoutPart_49 : decode cX8_withoutPart 49 = .ok (.astore 4, 2) := by decide +kernel
theorem dX8_withoutPart_51 : decode cX8_withoutPart 51 = .ok (.iconst 0, 1) := by decide +kernel
theorem dX8_withoutPart_52 : decode cX8_withoutPart 52 = .ok (.istore 5, 2) := by decide +kernel
theorem dX8_withoutPart_54 : decode cX8_withoutPart 54 = .ok (.iload 5, 2) := by decide +kernel
theorem dX8_withoutPart_56 : decode cX8_withoutPart 56 = .ok (.iload_n 2, 1) := by decide +kernel
theorem dX8_withoutPart_57 : decode cX8_withoutPart 57 = .ok (.if_icmp .ge 52, 3) := by decide +kernel
theorem dX8_withoutPart_60 : decode cX8_withoutPart 60 = .ok (.iload 5, 2) := by decide +kernel
theorem dX8_withoutPart_62 : decode cX8_withoutPart 62 = .ok (.iload_n 1, 1) := by decide +kernel
theorem dX8_withoutPart_63 : decode cX8_withoutPart 63 = .ok (.if_icmp .ge 8, 3) := by decide +kernel
theorem dX8_withoutPart_66 : decode cX8_withoutPart 66 = .ok (.iload 5, 2) := by decide +kernel
theorem dX8_withoutPart_68 : decode cX8_withoutPart 68 = .ok (.goto 7, 3) := by decide +kernel
theorem dX8_withoutPart_71 : decode cX8_withoutPart 71 = .ok (.iload 5, 2) := by decide +kernel
theorem dX8_withoutPart_73 : decode cX8_withoutPart 73 = .ok (.iconst 1, 1) := by decide +kernel
theorem dX8_withoutPart_74 : decode cX8_withoutPart 74 = .ok (.iadd, 1) := by decide +kernel
theorem dX8_withoutPart_75 : decode cX8_withoutPart 75 = .ok (.istore 6, 2) := by decide +kernel
theorem dX8_withoutPart_77 : decode cX8_withoutPart 77 = .ok (.aload_n 3, 1) := by decide +kernel
theorem dX8_withoutPart_78 : decode cX8_withoutPart 78 = .ok (.iload 5, 2) := by decide +kernel
theorem dX8_withoutPart_80 : decode cX8_withoutPart 80 = .ok (.aload_n 0, 1) := by decide +kernel
theorem dX8_withoutPart_81 : decode cX8_withoutPart 81 = .ok (.iload 6, 2) := by decide +kernel
theorem dX8_withoutPart_83 : decode cX8_withoutPart 83 = .ok (.invokevirtual 46, 3) := by decide +kernel
theorem dX8_withoutPart_86 : decode cX8_withoutPart 86 = .ok (.aastore, 1) := by decide +kernel
theorem dX8_withoutPart_87 : decode cX8_withoutPart 87 = .ok (.aload 4, 2) := by decide +kernel
theorem dX8_withoutPart_89 : decode cX8_withoutPart 89 = .ok (.ifnull 14, 3) := by decide +kernel
theorem dX8_withoutPart_92 : decode cX8_withoutPart 92 = .ok (.aload 4, 2) := by decide +kernel
theorem dX8_withoutPart_94 : decode cX8_withoutPart 94 = .ok (.iload 5, 2) := by decide +kernel
theorem dX8_withoutPart_96 : decode cX8_withoutPart 96 = .ok (.aload_n 0, 1) := by decide +kernel
theorem dX8_withoutPart_97 : decode cX8_withoutPart 97 = .ok (.iload 6, 2) := by decide +kernel
theorem dX8_withoutPart_99 : decode cX8_withoutPart 99 = .ok (.invokevirtual 53, 3) := by decide +kernel
theorem dX8_withoutPart_102 : decode cX8_withoutPart 102 = .ok (.iastore, 1) := by decide +kernel
theorem dX8_withoutPart_103 : decode cX8_withoutPart 103 = .ok (.iinc 5 1, 3) := by decide +kernel
theorem dX8_withoutPart_106 : decode cX8_withoutPart 106 = .ok (.goto (-52), 3) := by decide +kernel
theorem dX8_withoutPart_109 : decode cX8_withoutPart 109 = .ok (.new 10, 3) := by decide +kernel
theorem dX8_withoutPart_112 : decode cX8_withoutPart 112 = .ok (.dup, 1) := by decide +kernel
theorem dX8_withoutPart_113 : decode cX8_withoutPart 113 = .ok (.aload_n 0, 1) := by decide +kernel
theorem dX8_withoutPart_114 : decode cX8_withoutPart 114 = .ok (.getfield 9, 3) := by decide +kernel
theorem dX8_withoutPart_117 : decode cX8_withoutPart 117 = .ok (.aload_n 0, 1) := by decide +kernel
theorem dX8_withoutPart_118 : decode cX8_withoutPart 118 = .ok (.getfield 15, 3) := by decide +kernel
theorem dX8_withoutPart_121 : decode cX8_withoutPart 121 = .ok (.aload 4, 2) := by decide +kernel
theorem dX8_withoutPart_123 : decode cX8_withoutPart 123 = .ok (.aload_n 3, 1) := by decide +kernel
theorem dX8_withoutPart_124 : decode cX8_withoutPart 124 = .ok (.invokespecial 50, 3) := by decide +kernel
theorem dX8_withoutPart_127 : decode cX8_withoutPart 127 = .ok (.areturn, 1) := by decide +kernel
theorem dX8_isSameAs_0 : decode cX8_isSameAs 0 = .ok (.aload_n 0, 1) := by decide +kernel
theorem dX8_isSameAs_1 : decode cX8_isSameAs 1 = .ok (.aload_n 1, 1) := by decide +kernel
theorem dX8_isSameAs_2 : decode cX8_isSameAs 2 = .ok (.iconst 0, 1) := by decide +kernel
theorem dX8_isSameAs_3 : decode cX8_isSameAs 3 = .ok (.invokestatic 56, 3) := by decide +kernel
theorem dX8_isSameAs_6 : decode cX8_isSameAs 6 = .ok (.ireturn, 1) := by decide +kernel
theorem dX8_areSame_0 : decode cX8_areSame 0 = .ok (.aload_n 0, 1) := by decide +kernel
theorem dX8_areSame_1 : decode cX8_areSame 1 = .ok (.aload_n 1, 1) := by decide +kernel
theorem dX8_areSame_2 : decode cX8_areSame 2 = .ok (.if_acmp .ne 5, 3) := by decide +kernel
theorem dX8_areSame_5 : decode cX8_areSame 5 = .ok (.iconst 1, 1) := by decide +kernel
theorem dX8_areSame_6 : decode cX8_areSame 6 = .ok (.ireturn, 1) := by decide +kernel
theorem dX8_areSame_7 : decode cX8_areSame 7 = .ok (.aload_n 0, 1) := by decide +kernel
theorem dX8_areSame_8 : decode cX8_areSame 8 = .ok (.ifnull 57, 3) := by decide +kernel
theorem dX8_areSame_11 : decode cX8_areSame 11 = .ok (.aload_n 1, 1) := by decide +kernel
theorem dX8_areSame_12 : decode cX8_areSame 12 = .ok (.ifnull 53, 3) := by decide +kernel
theorem dX8_areSame_15 : decode cX8_areSame 15 = .ok (.iload_n 2, 1) := by decide +kernel
theorem dX8_areSame_16 : decode cX8_areSame 16 = .ok (.bipush 40, 2) := by decide +kernel
theorem dX8_areSame_18 : decode cX8_areSame 18 = .ok (.if_icmp .gt 47, 3) := by decide +kernel
theorem dX8_areSame_21 : decode cX8_areSame 21 = .ok (.aload_n 0, 1) := by decide +kernel
theorem dX8_areSame_22 : decode cX8_areSame 22 = .ok (.getfield 9, 3) := by decide +kernel
theorem dX8_areSame_25 : decode cX8_areSame 25 = .ok (.aload_n 1, 1) := by decide +kernel
theorem dX8_areSame_26 : decode cX8_areSame 26 = .ok (.getfield 9, 3) := by decide +kernel
theorem dX8_areSame_29 : decode cX8_areSame 29 = .ok (.if_icmp .ne 36, 3) := by decide +kernel
theorem dX8_areSame_32 : decode cX8_areSame 32 = .ok (.aload_n 0, 1) := by decide +kernel
theorem dX8_areSame_33 : decode cX8_areSame 33 = .ok (.getfield 15, 3) := by decide +kernel
theorem dX8_areSame_36 : decode cX8_areSame 36 = .ok (.aload_n 1, 1) := by decide +kernel
theorem dX8_areSame_37 : decode cX8_areSame 37 = .ok (.getfield 15, 3) := by decide +kernel
theorem dX8_areSame_40 : decode cX8_areSame 40 = .ok (.if_icmp .ne 25, 3) := by decide +kernel
theorem dX8_areSame_43 : decode cX8_areSame 43 = .ok (.aload_n 0, 1) := by decide +kernel
theorem dX8_areSame_44 : decode cX8_areSame 44 = .ok (.getfield 26, 3) := by decide +kernel
theorem dX8_areSame_47 : decode cX8_areSame 47 = .ok (.aload_n 1, 1) := by decide +kernel
theorem dX8_areSame_48 : decode cX8_areSame 48 = .ok (.getfield 26, 3) := by decide +kernel
theorem dX8_areSame_51 : decode cX8_areSame 51 = .ok (.if_icmp .ne 14, 3) := by decide +kernel
theorem dX8_areSame_54 : decode cX8_areSame 54 = .ok (.aload_n 0, 1) := by decide +kernel
theorem dX8_areSame_55 : decode cX8_areSame 55 = .ok (.invokevirtual 38, 3) := by decide +kernel
theorem dX8_areSame_58 : decode cX8_areSame 58 = .ok (.aload_n 1, 1) := by decide +kernel
theorem dX8_areSame_59 : decode cX8_areSame 59 = .ok (.invokevirtual 38, 3) := by decide +kernel
theorem dX8_areSame_62 : decode cX8_areSame 62 = .ok (.if_icmp .eq 5, 3) := by decide +kernel
theorem dX8_areSame_65 : decode cX8_areSame 65 = .ok (.iconst 0, 1) := by decide +kernel
theorem dX8_areSame_66 : decode cX8_areSame 66 = .ok (.ireturn, 1) := by decide +kernel
theorem dX8_areSame_67 : decode cX8_areSame 67 = .ok (.iconst 0, 1) := by decide +kernel
theorem dX8_areSame_68 : decode cX8_areSame 68 = .ok (.istore_n 3, 1) := by decide +kernel
theorem dX8_areSame_69 : decode cX8_areSame 69 = .ok (.iload_n 3, 1) := by decide +kernel
theorem dX8_areSame_70 : decode cX8_areSame 70 = .ok (.aload_n 0, 1) := by decide +kernel
theorem dX8_areSame_71 : decode cX8_areSame 71 = .ok (.invokevirtual 38, 3) := by decide +kernel
theorem dX8_areSame_74 : decode cX8_areSame 74 = .ok (.if_icmp .ge 43, 3) := by decide +kernel
theorem dX8_areSame_77 : decode cX8_areSame 77 = .ok (.aload_n 0, 1) := by decide +kernel
theorem dX8_areSame_78 : decode cX8_areSame 78 = .ok (.iload_n 3, 1) := by decide +kernel
theorem dX8_areSame_79 : decode cX8_areSame 79 = .ok (.invokevirtual 53, 3) := by decide +kernel
theorem dX8_areSame_82 : decode cX8_areSame 82 = .ok (.aload_n 1, 1) := by decide +kernel
theorem dX8_areSame_83 : decode cX8_areSame 83 = .ok (.iload_n 3, 1) := by decide +kernel
theorem dX8_areSame_84 : decode cX8_areSame 84 = .ok (.invokevirtual 53, 3) := by decide +kernel
theorem dX8_areSame_87 : decode cX8_areSame 87 = .ok (.if_icmp .ne 22, 3) := by decide +kernel
theorem dX8_areSame_90 : decode cX8_areSame 90 = .ok (.aload_n 0, 1) := by decide +kernel
theorem dX8_areSame_91 : decode cX8_areSame 91 = .ok (.iload_n 3, 1) := by decide +kernel
theorem dX8_areSame_92 : decode cX8_areSame 92 = .ok (.invokevirtual 46, 3) := by decide +kernel
theorem dX8_areSame_95 : decode cX8_areSame 95 = .ok (.aload_n 1, 1) := by decide +kernel
theorem dX8_areSame_96 : decode cX8_areSame 96 = .ok (.iload_n 3, 1) := by decide +kernel
theorem dX8_areSame_97 : decode cX8_areSame 97 = .ok (.invokevirtual 46, 3) := by decide +kernel
theorem dX8_areSame_100 : decode cX8_areSame 100 = .ok (.iload_n 2, 1) := by decide +kernel
theorem dX8_areSame_101 : decode cX8_areSame 101 = .ok (.iconst 1, 1) := by decide +kernel
theorem dX8_areSame_102 : decode cX8_areSame 102 = .ok (.iadd, 1) := by decide +kernel
theorem dX8_areSame_103 : decode cX8_areSame 103 = .ok (.invokestatic 56, 3) := by decide +kernel
theorem dX8_areSame_106 : decode cX8_areSame 106 = .ok (.ifCond .ne 5, 3) := by decide +kernel
theorem dX8_areSame_109 : decode cX8_areSame 109 = .ok (.iconst 0, 1) := by decide +kernel
theorem dX8_areSame_110 : decode cX8_areSame 110 = .ok (.ireturn, 1) := by decide +kernel
theorem dX8_areSame_111 : decode cX8_areSame 111 = .ok (.iinc 3 1, 3) := by decide +kernel
theorem dX8_areSame_114 : decode cX8_areSame 114 = .ok (.goto (-45), 3) := by decide +kernel
theorem dX8_areSame_117 : decode cX8_areSame 117 = .ok (.iconst 1, 1) := by decide +kernel
theorem dX8_areSame_118 : decode cX8_areSame 118 = .ok (.ireturn, 1) := by decide +kernel
theorem dX9_init_0 : decode cX9_init 0 = .ok (.aload_n 0, 1) := by decide +kernel
theorem dX9_init_1 : decode cX9_init 1 = .ok (.invokespecial 3, 3) := by decide +kernel
theorem dX9_init_4 : decode cX9_init 4 = .ok (.aload_n 0, 1) := by decide +kernel
theorem dX9_init_5 : decode cX9_init 5 = .ok (.bipush 50, 2) := by decide +kernel
theorem dX9_init_7 : decode cX9_init 7 = .ok (.anewarray 9, 3) := by decide +kernel
theorem dX9_init_10 : decode cX9_init 10 = .ok (.putfield 11, 3) := by decide +kernel
theorem dX9_init_13 : decode cX9_init 13 = .ok (.aload_n 0, 1) := by decide +kernel
theorem dX9_init_14 : decode cX9_init 14 = .ok (.bipush 50, 2) := by decide +kernel
theorem dX9_init_16 : decode cX9_init 16 = .ok (.newarray .int, 2) := by decide +kernel
theorem dX9_init_18 : decode cX9_init 18 = .ok (.putfield 17, 3) := by decide +kernel
theorem dX9_init_21 : decode cX9_init 21 = .ok (.aload_n 0, 1) := by decide +kernel
theorem dX9_init_22 : decode cX9_init 22 = .ok (.bipush 50, 2) := by decide +kernel
theorem dX9_init_24 : decode cX9_init 24 = .ok (.newarray .int, 2) := by decide +kernel
theorem dX9_init_26 : decode cX9_init 26 = .ok (.putfield 21, 3) := by decide +kernel
theorem dX9_init_29 : decode cX9_init 29 = .ok (.aload_n 0, 1) := by decide +kernel
theorem dX9_init_30 : decode cX9_init 30 = .ok (.bipush 50, 2) := by decide +kernel
theorem dX9_init_32 : decode cX9_init 32 = .ok (.newarray .int, 2) := by decide +kernel
theorem dX9_init_34 : decode cX9_init 34 = .ok (.putfield 24, 3) := by decide +kernel
theorem dX9_init_37 : decode cX9_init 37 = .ok (.return_, 1) := by decide +kernel
theorem dX9_fill_0 : decode cX9_fill 0 = .ok (.aload_n 0, 1) := by decide +kernel
theorem dX9_fill_1 : decode cX9_fill 1 = .ok (.aload_n 1, 1) := by decide +kernel
theorem dX9_fill_2 : decode cX9_fill 2 = .ok (.getfield 27, 3) := by decide +kernel
theorem dX9_fill_5 : decode cX9_fill 5 = .ok (.bipush 50, 2) := by decide +kernel
theorem dX9_fill_7 : decode cX9_fill 7 = .ok (.invokestatic 31, 3) := by decide +kernel
theorem dX9_fill_10 : decode cX9_fill 10 = .ok (.putfield 37, 3) := by decide +kernel
theorem dX9_fill_13 : decode cX9_fill 13 = .ok (.aload_n 0, 1) := by decide +kernel
theorem dX9_fill_14 : decode cX9_fill 14 = .ok (.iconst 0, 1) := by decide +kernel
theorem dX9_fill_15 : decode cX9_fill 15 = .ok (.aload_n 1, 1) := by decide +kernel
theorem dX9_fill_16 : decode cX9_fill 16 = .ok (.iconst 0, 1) := by decide +kernel
theorem dX9_fill_17 : decode cX9_fill 17 = .ok (.iconst 0, 1) := by decide +kernel
theorem dX9_fill_18 : decode cX9_fill 18 = .ok (.iconst 0, 1) := by decide +kernel
theorem dX9_fill_19 : decode cX9_fill 19 = .ok (.invokevirtual 40, 3) := by decide +kernel
theorem dX9_fill_22 : decode cX9_fill 22 = .ok (.iconst 0, 1) := by decide +kernel
theorem dX9_fill_23 : decode cX9_fill 23 = .ok (.istore_n 2, 1) := by decide +kernel
theorem dX9_fill_24 : decode cX9_fill 24 = .ok (.iload_n 2, 1) := by decide +kernel
theorem dX9_fill_25 : decode cX9_fill 25 = .ok (.aload_n 0, 1) := by decide +kernel
theorem dX9_fill_26 : decode cX9_fill 26 = .ok (.getfield 37, 3) := by decide +kernel
theorem dX9_fill_29 : decode cX9_fill 29 = .ok (.if_icmp .ge 93, 3) := by decide +kernel
theorem dX9_fill_32 : decode cX9_fill 32 = .ok (.aload_n 0, 1) := by decide +kernel
theorem dX9_fill_33 : decode cX9_fill 33 = .ok (.getfield 11, 3) := by decide +kernel
theorem dX9_fill_36 : decode cX9_fill 36 = .ok (.iload_n 2, 1) := by decide +kernel
theorem dX9_fill_37 : decode cX9_fill 37 = .ok (.aaload, 1) := by decide +kernel
theorem dX9_fill_38 : decode cX9_fill 38 = .ok (.astore_n 3, 1) := by decide +kernel
theorem dX9_fill_39 : decode cX9_fill 39 = .ok (.iload_n 2, 1) := by decide +kernel
theorem dX9_fill_40 : decode cX9_fill 40 = .ok (.iconst 1, 1) := by decide +kernel
theorem dX9_fill_41 : decode cX9_fill 41 = .ok (.iadd, 1) := by decide +kernel
theorem dX9_fill_42 : decode cX9_fill 42 = .ok (.istore 4, 2) := by decide +kernel
theorem dX9_fill_44 : decode cX9_fill 44 = .ok (.iconst 0, 1) := by decide +kernel
theorem dX9_fill_45 : decode cX9_fill 45 = .ok (.istore 5, 2) := by decide +kernel
theorem dX9_fill_47 : decode cX9_fill 47 = .ok (.aload_n 3, 1) := by decide +kernel
theorem dX9_fill_48 : decode cX9_fill 48 = .ok (.ifnull 68, 3) := by decide +kernel
theorem dX9_fill_51 : decode cX9_fill 51 = .ok (.iload 5, 2) := by decide +kernel
theorem dX9_fill_53 : decode cX9_fill 53 = .ok (.aload_n 3, 1) := by decide +kernel
theorem dX9_fill_54 : decode cX9_fill 54 = .ok (.invokevirtual 44, 3) := by decide +kernel
theorem dX9_fill_57 : decode cX9_fill 57 = .ok (.if_icmp .ge 59, 3) := by decide +kernel
theorem dX9_fill_60 : decode cX9_fill 60 = .ok (.aload_n 3, 1) := by decide +kernel
theorem dX9_fill_61 : decode cX9_fill 61 = .ok (.iload 5, 2) := by decide +kernel
theorem dX9_fill_63 : decode cX9_fill 63 = .ok (.invokevirtual 48, 3) := by decide +kernel
theorem dX9_fill_66 : decode cX9_fill 66 = .ok (.astore 6, 2) := by decide +kernel
theorem dX9_fill_68 : decode cX9_fill 68 = .ok (.aload_n 0, 1) := by decide +kernel
theorem dX9_fill_69 : decode cX9_fill 69 = .ok (.iload 4, 2) := by decide +kernel
theorem dX9_fill_71 : decode cX9_fill 71 = .ok (.aload 6, 2) := by decide +kernel
theorem dX9_fill_73 : decode cX9_fill 73 = .ok (.iload_n 2, 1) := by decide +kernel
theorem dX9_fill_74 : decode cX9_fill 74 = .ok (.aload_n 3, 1) := by decide +kernel
theorem dX9_fill_75 : decode cX9_fill 75 = .ok (.iload 5, 2) := by decide +kernel
theorem dX9_fill_77 : decode cX9_fill 77 = .ok (.invokevirtual 52, 3) := by decide +kernel
theorem dX9_fill_80 : decode cX9_fill 80 = .ok (.aload_n 0, 1) := by decide +kernel
theorem dX9_fill_81 : decode cX9_fill 81 = .ok (.getfield 24, 3) := by decide +kernel
theorem dX9_fill_84 : decode cX9_fill 84 = .ok (.iload_n 2, 1) := by decide +kernel
theorem dX9_fill_85 : decode cX9_fill 85 = .ok (.iaload, 1) := by decide +kernel
theorem dX9_fill_86 : decode cX9_fill 86 = .ok (.iconst 1, 1) := by decide +kernel
theorem dX9_fill_87 : decode cX9_fill 87 = .ok (.iadd, 1) := by decide +kernel
theorem dX9_fill_88 : decode cX9_fill 88 = .ok (.invokevirtual 40, 3) := by decide +kernel
theorem dX9_fill_91 : decode cX9_fill 91 = .ok (.iload 4, 2) := by decide +kernel
theorem dX9_fill_93 : decode cX9_fill 93 = .ok (.aload 6, 2) := by decide +kernel
theorem dX9_fill_95 : decode cX9_fill 95 = .ok (.ifnonnull 7, 3) := by decide +kernel
theorem dX9_fill_98 : decode cX9_fill 98 = .ok (.iconst 0, 1) := by decide +kernel
theorem dX9_fill_99 : decode cX9_fill 99 = .ok (.goto 8, 3) := by decide +kernel
theorem dX9_fill_102 : decode cX9_fill 102 = .ok (.aload 6, 2) := by decide +kernel
theorem dX9_fill_104 : decode cX9_fill 104 = .ok (.getfield 27, 3) := by decide +kernel
theorem dX9_fill_107 : decode cX9_fill 107 = .ok (.iadd, 1) := by decide +kernel
theorem dX9_fill_108 : decode cX9_fill 108 = .ok (.istore 4, 2) := by decide +kernel
theorem dX9_fill_110 : decode cX9_fill 110 = .ok (.iinc 5 1, 3) := by decide +kernel
theorem dX9_fill_113 : decode cX9_fill 113 = .ok (.goto (-66), 3) := by decide +kernel
theorem dX9_fill_116 : decode cX9_fill 116 = .ok (.iinc 2 1, 3) := by decide +kernel
theorem dX9_fill_119 : decode cX9_fill 119 = .ok (.goto (-95), 3) := by decide +kernel
theorem dX9_fill_122 : decode cX9_fill 122 = .ok (.return_, 1) := by decide +kernel
theorem dX9_enter_0 : decode cX9_enter 0 = .ok (.iload_n 1, 1) := by decide +kernel
theorem dX9_enter_1 : decode cX9_enter 1 = .ok (.ifCond .lt 39, 3) := by decide +kernel
theorem dX9_enter_4 : decode cX9_enter 4 = .ok (.iload_n 1, 1) := by decide +kernel
theorem dX9_enter_5 : decode cX9_enter 5 = .ok (.bipush 50, 2) := by decide +kernel
theorem dX9_enter_7 : decode cX9_enter 7 = .ok (.if_icmp .ge 33, 3) := by decide +kernel
theorem dX9_enter_10 : decode cX9_enter 10 = .ok (.aload_n 0, 1) := by decide +kernel
theorem dX9_enter_11 : decode cX9_enter 11 = .ok (.getfield 11, 3) := by decide +kernel
theorem dX9_enter_14 : decode cX9_enter 14 = .ok (.iload_n 1, 1) := by decide +kernel
theorem dX9_enter_15 : decode cX9_enter 15 = .ok (.aload_n 2, 1) := by decide +kernel
theorem dX9_enter_16 : decode cX9_enter 16 = .ok (.aastore, 1) := by decide +kernel
theorem dX9_enter_17 : decode cX9_enter 17 = .ok (.aload_n 0, 1) := by decide +kernel
theorem dX9_enter_18 : decode cX9_enter 18 = .ok (.getfield 17, 3) := by decide +kernel
theorem dX9_enter_21 : decode cX9_enter 21 = .ok (.iload_n 1, 1) := by decide +kernel
theorem dX9_enter_22 : decode cX9_enter 22 = .ok (.iload_n 3, 1) := by decide +kernel
