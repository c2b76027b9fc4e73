theorem dX0_init_0 : decode cX0_init 0 = .ok (.aload_n 0, 1) := by decide +kernel
theorem dX0_init_1 : decode cX0_init 1 = .ok (.invokespecial 3, 3) := by decide +kernel
theorem dX0_init_4 : decode cX0_init 4 = .ok (.aload_n 0, 1) := by decide +kernel
theorem dX0_init_5 : decode cX0_init 5 = .ok (.new 9, 3) := by decide +kernel
theorem dX0_init_8 : decode cX0_init 8 = .ok (.dup, 1) := by decide +kernel
theorem dX0_init_9 : decode cX0_init 9 = .ok (.invokespecial 11, 3) := by decide +kernel
theorem dX0_init_12 : decode cX0_init 12 = .ok (.putfield 12, 3) := by decide +kernel
theorem dX0_init_15 : decode cX0_init 15 = .ok (.aload_n 0, 1) := by decide +kernel
theorem dX0_init_16 : decode cX0_init 16 = .ok (.iconst 3, 1) := by decide +kernel
theorem dX0_init_17 : decode cX0_init 17 = .ok (.newarray .int, 2) := by decide +kernel
theorem dX0_init_19 : decode cX0_init 19 = .ok (.putfield 18, 3) := by decide +kernel
theorem dX0_init_22 : decode cX0_init 22 = .ok (.aload_n 0, 1) := by decide +kernel
theorem dX0_init_23 : decode cX0_init 23 = .ok (.aload_n 1, 1) := by decide +kernel
theorem dX0_init_24 : decode cX0_init 24 = .ok (.putfield 22, 3) := by decide +kernel
theorem dX0_init_27 : decode cX0_init 27 = .ok (.return_, 1) := by decide +kernel
theorem dX0_readBook_0 : decode cX0_readBook 0 = .ok (.aload_n 0, 1) := by decide +kernel
theorem dX0_readBook_1 : decode cX0_readBook 1 = .ok (.getfield 12, 3) := by decide +kernel
theorem dX0_readBook_4 : decode cX0_readBook 4 = .ok (.invokevirtual 26, 3) := by decide +kernel
theorem dX0_readBook_7 : decode cX0_readBook 7 = .ok (.aload_n 0, 1) := by decide +kernel
theorem dX0_readBook_8 : decode cX0_readBook 8 = .ok (.iconst 0, 1) := by decide +kernel
theorem dX0_readBook_9 : decode cX0_readBook 9 = .ok (.putfield 29, 3) := by decide +kernel
theorem dX0_readBook_12 : decode cX0_readBook 12 = .ok (.aload_n 0, 1) := by decide +kernel
theorem dX0_readBook_13 : decode cX0_readBook 13 = .ok (.getfield 22, 3) := by decide +kernel
theorem dX0_readBook_16 : decode cX0_readBook 16 = .ok (.invokevirtual 33, 3) := by decide +kernel
theorem dX0_readBook_19 : decode cX0_readBook 19 = .ok (.iconst 1, 1) := by decide +kernel
theorem dX0_readBook_20 : decode cX0_readBook 20 = .ok (.istore_n 1, 1) := by decide +kernel
theorem dX0_readBook_21 : decode cX0_readBook 21 = .ok (.iconst 0, 1) := by decide +kernel
theorem dX0_readBook_22 : decode cX0_readBook 22 = .ok (.istore_n 2, 1) := by decide +kernel
theorem dX0_readBook_23 : decode cX0_readBook 23 = .ok (.iload_n 2, 1) := by decide +kernel
theorem dX0_readBook_24 : decode cX0_readBook 24 = .ok (.sipush 600, 3) := by decide +kernel
theorem dX0_readBook_27 : decode cX0_readBook 27 = .ok (.if_icmp .ge 40, 3) := by decide +kernel
theorem dX0_readBook_30 : decode cX0_readBook 30 = .ok (.iload_n 1, 1) := by decide +kernel
theorem dX0_readBook_31 : decode cX0_readBook 31 = .ok (.ifCond .eq 36, 3) := by decide +kernel
theorem dX0_readBook_34 : decode cX0_readBook 34 = .ok (.aload_n 0, 1) := by decide +kernel
theorem dX0_readBook_35 : decode cX0_readBook 35 = .ok (.invokevirtual 38, 3) := by decide +kernel
theorem dX0_readBook_38 : decode cX0_readBook 38 = .ok (.ifCond .ne 5, 3) := by decide +kernel
theorem dX0_readBook_41 : decode cX0_readBook 41 = .ok (.iconst 0, 1) := by decide +kernel
theorem dX0_readBook_42 : decode cX0_readBook 42 = .ok (.ireturn, 1) := by decide +kernel
theorem dX0_readBook_43 : decode cX0_readBook 43 = .ok (.aload_n 0, 1) := by decide +kernel
theorem dX0_readBook_44 : decode cX0_readBook 44 = .ok (.dup, 1) := by decide +kernel
theorem dX0_readBook_45 : decode cX0_readBook 45 = .ok (.getfield 29, 3) := by decide +kernel
theorem dX0_readBook_48 : decode cX0_readBook 48 = .ok (.iconst 1, 1) := by decide +kernel
theorem dX0_readBook_49 : decode cX0_readBook 49 = .ok (.iadd, 1) := by decide +kernel
theorem dX0_readBook_50 : decode cX0_readBook 50 = .ok (.putfield 29, 3) := by decide +kernel
theorem dX0_readBook_53 : decode cX0_readBook 53 = .ok (.aload_n 0, 1) := by decide +kernel
theorem dX0_readBook_54 : decode cX0_readBook 54 = .ok (.getfield 22, 3) := by decide +kernel
theorem dX0_readBook_57 : decode cX0_readBook 57 = .ok (.invokevirtual 42, 3) := by decide +kernel
theorem dX0_readBook_60 : decode cX0_readBook 60 = .ok (.istore_n 1, 1) := by decide +kernel
theorem dX0_readBook_61 : decode cX0_readBook 61 = .ok (.iinc 2 1, 3) := by decide +kernel
theorem dX0_readBook_64 : decode cX0_readBook 64 = .ok (.goto (-41), 3) := by decide +kernel
theorem dX0_readBook_67 : decode cX0_readBook 67 = .ok (.aload_n 0, 1) := by decide +kernel
theorem dX0_readBook_68 : decode cX0_readBook 68 = .ok (.getfield 22, 3) := by decide +kernel
theorem dX0_readBook_71 : decode cX0_readBook 71 = .ok (.getfield 45, 3) := by decide +kernel
theorem dX0_readBook_74 : decode cX0_readBook 74 = .ok (.ifCond .ne 7, 3) := by decide +kernel
theorem dX0_readBook_77 : decode cX0_readBook 77 = .ok (.iload_n 1, 1) := by decide +kernel
theorem dX0_readBook_78 : decode cX0_readBook 78 = .ok (.ifCond .eq 12, 3) := by decide +kernel
theorem dX0_readBook_81 : decode cX0_readBook 81 = .ok (.aload_n 0, 1) := by decide +kernel
theorem dX0_readBook_82 : decode cX0_readBook 82 = .ok (.getfield 22, 3) := by decide +kernel
theorem dX0_readBook_85 : decode cX0_readBook 85 = .ok (.iconst 1, 1) := by decide +kernel
theorem dX0_readBook_86 : decode cX0_readBook 86 = .ok (.invokevirtual 48, 3) := by decide +kernel
theorem dX0_readBook_89 : decode cX0_readBook 89 = .ok (.ireturn, 1) := by decide +kernel
theorem dX0_readBook_90 : decode cX0_readBook 90 = .ok (.aload_n 0, 1) := by decide +kernel
theorem dX0_readBook_91 : decode cX0_readBook 91 = .ok (.getfield 12, 3) := by decide +kernel
theorem dX0_readBook_94 : decode cX0_readBook 94 = .ok (.getfield 52, 3) := by decide +kernel
theorem dX0_readBook_97 : decode cX0_readBook 97 = .ok (.iconst 2, 1) := by decide +kernel
theorem dX0_readBook_98 : decode cX0_readBook 98 = .ok (.if_icmp .lt 14, 3) := by decide +kernel
theorem dX0_readBook_101 : decode cX0_readBook 101 = .ok (.aload_n 0, 1) := by decide +kernel
theorem dX0_readBook_102 : decode cX0_readBook 102 = .ok (.getfield 12, 3) := by decide +kernel
theorem dX0_readBook_105 : decode cX0_readBook 105 = .ok (.getfield 55, 3) := by decide +kernel
theorem dX0_readBook_108 : decode cX0_readBook 108 = .ok (.iconst 1, 1) := by decide +kernel
theorem dX0_readBook_109 : decode cX0_readBook 109 = .ok (.if_icmp .ge 14, 3) := by decide +kernel
theorem dX0_readBook_112 : decode cX0_readBook 112 = .ok (.aload_n 0, 1) := by decide +kernel
theorem dX0_readBook_113 : decode cX0_readBook 113 = .ok (.getfield 22, 3) := by decide +kernel
theorem dX0_readBook_116 : decode cX0_readBook 116 = .ok (.iconst 4, 1) := by decide +kernel
theorem dX0_readBook_117 : decode cX0_readBook 117 = .ok (.invokevirtual 48, 3) := by decide +kernel
theorem dX0_readBook_120 : decode cX0_readBook 120 = .ok (.ifCond .eq 7, 3) := by decide +kernel
theorem dX0_readBook_123 : decode cX0_readBook 123 = .ok (.iconst 1, 1) := by decide +kernel
theorem dX0_readBook_124 : decode cX0_readBook 124 = .ok (.goto 4, 3) := by decide +kernel
theorem dX0_readBook_127 : decode cX0_readBook 127 = .ok (.iconst 0, 1) := by decide +kernel
theorem dX0_readBook_128 : decode cX0_readBook 128 = .ok (.ireturn, 1) := by decide +kernel
theorem dX0_readLine_0 : decode cX0_readLine 0 = .ok (.aload_n 0, 1) := by decide +kernel
theorem dX0_readLine_1 : decode cX0_readLine 1 = .ok (.getfield 22, 3) := by decide +kernel
theorem dX0_readLine_4 : decode cX0_readLine 4 = .ok (.ldc 58, 2) := by decide +kernel
theorem dX0_readLine_6 : decode cX0_readLine 6 = .ok (.invokevirtual 60, 3) := by decide +kernel
theorem dX0_readLine_9 : decode cX0_readLine 9 = .ok (.ifCond .eq 31, 3) := by decide +kernel
theorem dX0_readLine_12 : decode cX0_readLine 12 = .ok (.aload_n 0, 1) := by decide +kernel
theorem dX0_readLine_13 : decode cX0_readLine 13 = .ok (.getfield 12, 3) := by decide +kernel
theorem dX0_readLine_16 : decode cX0_readLine 16 = .ok (.getfield 52, 3) := by decide +kernel
theorem dX0_readLine_19 : decode cX0_readLine 19 = .ok (.bipush 12, 2) := by decide +kernel
theorem dX0_readLine_21 : decode cX0_readLine 21 = .ok (.if_icmp .ge 10, 3) := by decide +kernel
theorem dX0_readLine_24 : decode cX0_readLine 24 = .ok (.aload_n 0, 1) := by decide +kernel
theorem dX0_readLine_25 : decode cX0_readLine 25 = .ok (.invokevirtual 64, 3) := by decide +kernel
theorem dX0_readLine_28 : decode cX0_readLine 28 = .ok (.goto 11, 3) := by decide +kernel
theorem dX0_readLine_31 : decode cX0_readLine 31 = .ok (.aload_n 0, 1) := by decide +kernel
theorem dX0_readLine_32 : decode cX0_readLine 32 = .ok (.getfield 22, 3) := by decide +kernel
theorem dX0_readLine_35 : decode cX0_readLine 35 = .ok (.iconst 3, 1) := by decide +kernel
theorem dX0_readLine_36 : decode cX0_readLine 36 = .ok (.invokevirtual 48, 3) := by decide +kernel
theorem dX0_readLine_39 : decode cX0_readLine 39 = .ok (.ireturn, 1) := by decide +kernel
theorem dX0_readLine_40 : decode cX0_readLine 40 = .ok (.aload_n 0, 1) := by decide +kernel
theorem dX0_readLine_41 : decode cX0_readLine 41 = .ok (.getfield 22, 3) := by decide +kernel
theorem dX0_readLine_44 : decode cX0_readLine 44 = .ok (.ldc 67, 2) := by decide +kernel
theorem dX0_readLine_46 : decode cX0_readLine 46 = .ok (.invokevirtual 60, 3) := by decide +kernel
theorem dX0_readLine_49 : decode cX0_readLine 49 = .ok (.ifCond .eq 30, 3) := by decide +kernel
theorem dX0_readLine_52 : decode cX0_readLine 52 = .ok (.aload_n 0, 1) := by decide +kernel
theorem dX0_readLine_53 : decode cX0_readLine 53 = .ok (.getfield 12, 3) := by decide +kernel
theorem dX0_readLine_56 : decode cX0_readLine 56 = .ok (.getfield 55, 3) := by decide +kernel
theorem dX0_readLine_59 : decode cX0_readLine 59 = .ok (.iconst 4, 1) := by decide +kernel
theorem dX0_readLine_60 : decode cX0_readLine 60 = .ok (.if_icmp .ge 10, 3) := by decide +kernel
theorem dX0_readLine_63 : decode cX0_readLine 63 = .ok (.aload_n 0, 1) := by decide +kernel
theorem dX0_readLine_64 : decode cX0_readLine 64 = .ok (.invokevirtual 69, 3) := by decide +kernel
theorem dX0_readLine_67 : decode cX0_readLine 67 = .ok (.goto 11, 3) := by decide +kernel
theorem dX0_readLine_70 : decode cX0_readLine 70 = .ok (.aload_n 0, 1) := by decide +kernel
theorem dX0_readLine_71 : decode cX0_readLine 71 = .ok (.getfield 22, 3) := by decide +kernel
theorem dX0_readLine_74 : decode cX0_readLine 74 = .ok (.iconst 3, 1) := by decide +kernel
theorem dX0_readLine_75 : decode cX0_readLine 75 = .ok (.invokevirtual 48, 3) := by decide +kernel
theorem dX0_readLine_78 : decode cX0_readLine 78 = .ok (.ireturn, 1) := by decide +kernel
theorem dX0_readLine_79 : decode cX0_readLine 79 = .ok (.aload_n 0, 1) := by decide +kernel
theorem dX0_readLine_80 : decode cX0_readLine 80 = .ok (.getfield 22, 3) := by decide +kernel
theorem dX0_readLine_83 : decode cX0_readLine 83 = .ok (.ldc 72, 2) := by decide +kernel
theorem dX0_readLine_85 : decode cX0_readLine 85 = .ok (.invokevirtual 60, 3) := by decide +kernel
theorem dX0_readLine_88 : decode cX0_readLine 88 = .ok (.ifCond .eq 10, 3) := by decide +kernel
theorem dX0_readLine_91 : decode cX0_readLine 91 = .ok (.aload_n 0, 1) := by decide +kernel
theorem dX0_readLine_92 : decode cX0_readLine 92 = .ok (.invokevirtual 74, 3) := by decide +kernel
theorem dX0_readLine_95 : decode cX0_readLine 95 = .ok (.goto 11, 3) := by decide +kernel
theorem dX0_readLine_98 : decode cX0_readLine 98 = .ok (.aload_n 0, 1) := by decide +kernel
theorem dX0_readLine_99 : decode cX0_readLine 99 = .ok (.getfield 22, 3) := by decide +kernel
theorem dX0_readLine_102 : decode cX0_readLine 102 = .ok (.iconst 1, 1) := by decide +kernel
theorem dX0_readLine_103 : decode cX0_readLine 103 = .ok (.invokevirtual 48, 3) := by decide +kernel
theorem dX0_readLine_106 : decode cX0_readLine 106 = .ok (.ireturn, 1) := by decide +kernel
theorem dX0_readClub_0 : decode cX0_readClub 0 = .ok (.aload_n 0, 1) := by decide +kernel
theorem dX0_readClub_1 : decode cX0_readClub 1 = .ok (.getfield 22, 3) := by decide +kernel
theorem dX0_readClub_4 : decode cX0_readClub 4 = .ok (.invokevirtual 77, 3) := by decide +kernel
theorem dX0_readClub_7 : decode cX0_readClub 7 = .ok (.aload_n 0, 1) := by decide +kernel
theorem dX0_readClub_8 : decode cX0_readClub 8 = .ok (.getfield 12, 3) := by decide +kernel
theorem dX0_readClub_11 : decode cX0_readClub 11 = .ok (.getfield 80, 3) := by decide +kernel
theorem dX0_readClub_14 : decode cX0_readClub 14 = .ok (.aload_n 0, 1) := by decide +kernel
theorem dX0_readClub_15 : decode cX0_readClub 15 = .ok (.getfield 12, 3) := by decide +kernel
theorem dX0_readClub_18 : decode cX0_readClub 18 = .ok (.getfield 52, 3) := by decide +kernel
theorem dX0_readClub_21 : decode cX0_readClub 21 = .ok (.aaload, 1) := by decide +kernel
theorem dX0_readClub_22 : decode cX0_readClub 22 = .ok (.astore_n 1, 1) := by decide +kernel
theorem dX0_readClub_23 : decode cX0_readClub 23 = .ok (.aload_n 0, 1) := by decide +kernel
theorem dX0_readClub_24 : decode cX0_readClub 24 = .ok (.getfield 12, 3) := by decide +kernel
theorem dX0_readClub_27 : decode cX0_readClub 27 = .ok (.dup, 1) := by decide +kernel
theorem dX0_readClub_28 : decode cX0_readClub 28 = .ok (.getfield 52, 3) := by decide +kernel
theorem dX0_readClub_31 : decode cX0_readClub 31 = .ok (.iconst 1, 1) := by decide +kernel
theorem dX0_readClub_32 : decode cX0_readClub 32 = .ok (.iadd, 1) := by decide +kernel
theorem dX0_readClub_33 : decode cX0_readClub 33 = .ok (.putfield 52, 3) := by decide +kernel
theorem dX0_readClub_36 : decode cX0_readClub 36 = .ok (.aload_n 0, 1) := by decide +kernel
theorem dX0_readClub_37 : decode cX0_readClub 37 = .ok (.getfield 22, 3) := by decide +kernel
theorem dX0_readClub_40 : decode cX0_readClub 40 = .ok (.aload_n 1, 1) := by decide +kernel
theorem dX0_readClub_41 : decode cX0_readClub 41 = .ok (.iconst 0, 1) := by decide +kernel
theorem dX0_readClub_42 : decode cX0_readClub 42 = .ok (.iconst 0, 1) := by decide +kernel
theorem dX0_readClub_43 : decode cX0_readClub 43 = .ok (.sipush 9999, 3) := by decide +kernel
theorem dX0_readClub_46 : decode cX0_readClub 46 = .ok (.invokevirtual 84, 3) := by decide +kernel
theorem dX0_readClub_49 : decode cX0_readClub 49 = .ok (.ifCond .eq 38, 3) := by decide +kernel
theorem dX0_readClub_52 : decode cX0_readClub 52 = .ok (.aload_n 0, 1) := by decide +kernel
theorem dX0_readClub_53 : decode cX0_readClub 53 = .ok (.getfield 22, 3) := by decide +kernel
theorem dX0_readClub_56 : decode cX0_readClub 56 = .ok (.aload_n 1, 1) := by decide +kernel
theorem dX0_readClub_57 : decode cX0_readClub 57 = .ok (.iconst 1, 1) := by decide +kernel
theorem dX0_readClub_58 : decode cX0_readClub 58 = .ok (.iconst 0, 1) := by decide +kernel
theorem dX0_readClub_59 : decode cX0_readClub 59 = .ok (.sipush 9999, 3) := by decide +kernel
theorem dX0_readClub_62 : decode cX0_readClub 62 = .ok (.invokevirtual 84, 3) := by decide +kernel
theorem dX0_readClub_65 : decode cX0_readClub 65 = .ok (.ifCond .eq 22, 3) := by decide +kernel
theorem dX0_readClub_68 : decode cX0_readClub 68 = .ok (.aload_n 0, 1) := by decide +kernel
theorem dX0_readClub_69 : decode cX0_readClub 69 = .ok (.getfield 22, 3) := by decide +kernel
theorem dX0_readClub_72 : decode cX0_readClub 72 = .ok (.aload_n 1, 1) := by decide +kernel
theorem dX0_readClub_73 : decode cX0_readClub 73 = .ok (.iconst 2, 1) := by decide +kernel
theorem dX0_readClub_74 : decode cX0_readClub 74 = .ok (.iconst 0, 1) := by decide +kernel
theorem dX0_readClub_75 : decode cX0_readClub 75 = .ok (.ldc 88, 2) := by decide +kernel
theorem dX0_readClub_77 : decode cX0_readClub 77 = .ok (.invokevirtual 84, 3) := by decide +kernel
theorem dX0_readClub_80 : decode cX0_readClub 80 = .ok (.ifCond .eq 7, 3) := by decide +kernel
theorem dX0_readClub_83 : decode cX0_readClub 83 = .ok (.iconst 1, 1) := by decide +kernel
theorem dX0_readClub_84 : decode cX0_readClub 84 = .ok (.goto 4, 3) := by decide +kernel
theorem dX0_readClub_87 : decode cX0_readClub 87 = .ok (.iconst 0, 1) := by decide +kernel
theorem dX0_readClub_88 : decode cX0_readClub 88 = .ok (.ireturn, 1) := by decide +kernel
theorem dX0_readCup_0 : decode cX0_readCup 0 = .ok (.aload_n 0, 1) := by decide +kernel
theorem dX0_readCup_1 : decode cX0_readCup 1 = .ok (.getfield 22, 3) := by decide +kernel
theorem dX0_readCup_4 : decode cX0_readCup 4 = .ok (.invokevirtual 77, 3) := by decide +kernel
theorem dX0_readCup_7 : decode cX0_readCup 7 = .ok (.aload_n 0, 1) := by decide +kernel
theorem dX0_readCup_8 : decode cX0_readCup 8 = .ok (.getfield 12, 3) := by decide +kernel
theorem dX0_readCup_11 : decode cX0_readCup 11 = .ok (.getfield 89, 3) := by decide +kernel
theorem dX0_readCup_14 : decode cX0_readCup 14 = .ok (.aload_n 0, 1) := by decide +kernel
theorem dX0_readCup_15 : decode cX0_readCup 15 = .ok (.getfield 12, 3) := by decide +kernel
theorem dX0_readCup_18 : decode cX0_readCup 18 = .ok (.getfield 55, 3) := by decide +kernel
theorem dX0_readCup_21 : decode cX0_readCup 21 = .ok (.aaload, 1) := by decide +kernel
theorem dX0_readCup_22 : decode cX0_readCup 22 = .ok (.astore_n 1, 1) := by decide +kernel
theorem dX0_readCup_23 : decode cX0_readCup 23 = .ok (.aload_n 0, 1) := by decide +kernel
theorem dX0_readCup_24 : decode cX0_readCup 24 = .ok (.getfield 12, 3) := by decide +kernel
theorem dX0_readCup_27 : decode cX0_readCup 27 = .ok (.dup, 1) := by decide +kernel
theorem dX0_readCup_28 : decode cX0_readCup 28 = .ok (.getfield 55, 3) := by decide +kernel
theorem dX0_readCup_31 : decode cX0_readCup 31 = .ok (.iconst 1, 1) := by decide +kernel
theorem dX0_readCup_32 : decode cX0_readCup 32 = .ok (.iadd, 1) := by decide +kernel
theorem dX0_readCup_33 : decode cX0_readCup 33 = .ok (.putfield 55, 3) := by decide +kernel
theorem dX0_readCup_36 : decode cX0_readCup 36 = .ok (.aload_n 0, 1) := by decide +kernel
theorem dX0_readCup_37 : decode cX0_readCup 37 = .ok (.aload_n 1, 1) := by decide +kernel
theorem dX0_readCup_38 : decode cX0_readCup 38 = .ok (.iconst 0, 1) := by decide +kernel
theorem dX0_readCup_39 : decode cX0_readCup 39 = .ok (.invokevirtual 92, 3) := by decide +kernel
theorem dX0_readCup_42 : decode cX0_readCup 42 = .ok (.ifCond .ne 5, 3) := by decide +kernel
theorem dX0_readCup_45 : decode cX0_readCup 45 = .ok (.iconst 0, 1) := by decide +kernel
theorem dX0_readCup_46 : decode cX0_readCup 46 = .ok (.ireturn, 1) := by decide +kernel
theorem dX0_readCup_47 : decode cX0_readCup 47 = .ok (.aload_n 1, 1) := by decide +kernel
theorem dX0_readCup_48 : decode cX0_readCup 48 = .ok (.iconst 0, 1) := by decide +kernel
theorem dX0_readCup_49 : decode cX0_readCup 49 = .ok (.aload_n 1, 1) := by decide +kernel
theorem dX0_readCup_50 : decode cX0_readCup 50 = .ok (.bipush 6, 2) := by decide +kernel
theorem dX0_readCup_52 : decode cX0_readCup 52 = .ok (.iconst 3, 1) := by decide +kernel
theorem dX0_readCup_53 : decode cX0_readCup 53 = .ok (.invokestatic 96, 3) := by decide +kernel
theorem dX0_readCup_56 : decode cX0_readCup 56 = .ok (.aload_n 0, 1) := by decide +kernel
theorem dX0_readCup_57 : decode cX0_readCup 57 = .ok (.ldc 102, 2) := by decide +kernel
theorem dX0_readCup_59 : decode cX0_readCup 59 = .ok (.aload_n 1, 1) := by decide +kernel
theorem dX0_readCup_60 : decode cX0_readCup 60 = .ok (.iconst 3, 1) := by decide +kernel
theorem dX0_readCup_61 : decode cX0_readCup 61 = .ok (.iconst 0, 1) := by decide +kernel
theorem dX0_readCup_62 : decode cX0_readCup 62 = .ok (.iconst 2, 1) := by decide +kernel
theorem dX0_readCup_63 : decode cX0_readCup 63 = .ok (.invokevirtual 104, 3) := by decide +kernel
theorem dX0_readCup_66 : decode cX0_readCup 66 = .ok (.ifCond .eq 85, 3) := by decide +kernel
theorem dX0_readCup_69 : decode cX0_readCup 69 = .ok (.aload_n 0, 1) := by decide +kernel
theorem dX0_readCup_70 : decode cX0_readCup 70 = .ok (.ldc 108, 2) := by decide +kernel
theorem dX0_readCup_72 : decode cX0_readCup 72 = .ok (.aload_n 1, 1) := by decide +kernel
theorem dX0_readCup_73 : decode cX0_readCup 73 = .ok (.iconst 4, 1) := by decide +kernel
theorem dX0_readCup_74 : decode cX0_readCup 74 = .ok (.iconst 0, 1) := by decide +kernel
theorem dX0_readCup_75 : decode cX0_readCup 75 = .ok (.ldc 88, 2) := by decide +kernel
theorem dX0_readCup_77 : decode cX0_readCup 77 = .ok (.invokevirtual 104, 3) := by decide +kernel
theorem dX0_readCup_80 : decode cX0_readCup 80 = .ok (.ifCond .eq 71, 3) := by decide +kernel
theorem dX0_readCup_83 : decode cX0_readCup 83 = .ok (.aload_n 0, 1) := by decide +kernel
theorem dX0_readCup_84 : decode cX0_readCup 84 = .ok (.ldc 110, 2) := by decide +kernel
theorem dX0_readCup_86 : decode cX0_readCup 86 = .ok (.aload_n 1, 1) := by decide +kernel
theorem dX0_readCup_87 : decode cX0_readCup 87 = .ok (.iconst 5, 1) := by decide +kernel
theorem dX0_readCup_88 : decode cX0_readCup 88 = .ok (.iconst 0, 1) := by decide +kernel
theorem dX0_readCup_89 : decode cX0_readCup 89 = .ok (.iconst 3, 1) := by decide +kernel
theorem dX0_readCup_90 : decode cX0_readCup 90 = .ok (.invokevirtual 104, 3) := by decide +kernel
theorem dX0_readCup_93 : decode cX0_readCup 93 = .ok (.ifCond .eq 58, 3) := by decide +kernel
theorem dX0_readCup_96 : decode cX0_readCup 96 = .ok (.aload_n 0, 1) := by decide +kernel
theorem dX0_readCup_97 : decode cX0_readCup 97 = .ok (.getfield 22, 3) := by decide +kernel
theorem dX0_readCup_100 : decode cX0_readCup 100 = .ok (.ldc 112, 2) := by decide +kernel
theorem dX0_readCup_102 : decode cX0_readCup 102 = .ok (.invokevirtual 114, 3) := by decide +kernel
theorem dX0_readCup_105 : decode cX0_readCup 105 = .ok (.ifCond .eq 13, 3) := by decide +kernel
theorem dX0_readCup_108 : decode cX0_readCup 108 = .ok (.aload_n 0, 1) := by decide +kernel
theorem dX0_readCup_109 : decode cX0_readCup 109 = .ok (.aload_n 1, 1) := by decide +kernel
theorem dX0_readCup_110 : decode cX0_readCup 110 = .ok (.bipush 6, 2) := by decide +kernel
theorem dX0_readCup_112 : decode cX0_readCup 112 = .ok (.invokevirtual 92, 3) := by decide +kernel
theorem dX0_readCup_115 : decode cX0_readCup 115 = .ok (.ifCond .eq 36, 3) := by decide +kernel
theorem dX0_readCup_118 : decode cX0_readCup 118 = .ok (.aload_n 0, 1) := by decide +kernel
theorem dX0_readCup_119 : decode cX0_readCup 119 = .ok (.ldc 117, 2) := by decide +kernel
theorem dX0_readCup_121 : decode cX0_readCup 121 = .ok (.aload_n 1, 1) := by decide +kernel
theorem dX0_readCup_122 : decode cX0_readCup 122 = .ok (.bipush 9, 2) := by decide +kernel
theorem dX0_readCup_124 : decode cX0_readCup 124 = .ok (.iconst 1, 1) := by decide +kernel
theorem dX0_readCup_125 : decode cX0_readCup 125 = .ok (.bipush 6, 2) := by decide +kernel
theorem dX0_readCup_127 : decode cX0_readCup 127 = .ok (.invokevirtual 104, 3) := by decide +kernel
theorem dX0_readCup_130 : decode cX0_readCup 130 = .ok (.ifCond .eq 21, 3) := by decide +kernel
theorem dX0_readCup_133 : decode cX0_readCup 133 = .ok (.aload_n 0, 1) := by decide +kernel
theorem dX0_readCup_134 : decode cX0_readCup 134 = .ok (.ldc 119, 2) := by decide +kernel
theorem dX0_readCup_136 : decode cX0_readCup 136 = .ok (.aload_n 1, 1) := by decide +kernel
theorem dX0_readCup_137 : decode cX0_readCup 137 = .ok (.bipush 10, 2) := by decide +kernel
theorem dX0_readCup_139 : decode cX0_readCup 139 = .ok (.iconst 0, 1) := by decide +kernel
theorem dX0_readCup_140 : decode cX0_readCup 140 = .ok (.iconst 2, 1) := by decide +kernel
theorem dX0_readCup_141 : decode cX0_readCup 141 = .ok (.invokevirtual 104, 3) := by decide +kernel
theorem dX0_readCup_144 : decode cX0_readCup 144 = .ok (.ifCond .eq 7, 3) := by decide +kernel
theorem dX0_readCup_147 : decode cX0_readCup 147 = .ok (.iconst 1, 1) := by decide +kernel
theorem dX0_readCup_148 : decode cX0_readCup 148 = .ok (.goto 4, 3) := by decide +kernel
theorem dX0_readCup_151 : decode cX0_readCup 151 = .ok (.iconst 0, 1) := by decide +kernel
theorem dX0_readCup_152 : decode cX0_readCup 152 = .ok (.ireturn, 1) := by decide +kernel
theorem dX0_readParts_0 : decode cX0_readParts 0 = .ok (.aload_n 0, 1) := by decide +kernel
theorem dX0_readParts_1 : decode cX0_readParts 1 = .ok (.getfield 22, 3) := by decide +kernel
theorem dX0_readParts_4 : decode cX0_readParts 4 = .ok (.aload_n 1, 1) := by decide +kernel
theorem dX0_readParts_5 : decode cX0_readParts 5 = .ok (.iload_n 2, 1) := by decide +kernel
theorem dX0_readParts_6 : decode cX0_readParts 6 = .ok (.iconst 0, 1) := by decide +kernel
theorem dX0_readParts_7 : decode cX0_readParts 7 = .ok (.bipush 100, 2) := by decide +kernel
theorem dX0_readParts_9 : decode cX0_readParts 9 = .ok (.invokevirtual 84, 3) := by decide +kernel
theorem dX0_readParts_12 : decode cX0_readParts 12 = .ok (.ifCond .eq 20, 3) := by decide +kernel
theorem dX0_readParts_15 : decode cX0_readParts 15 = .ok (.aload_n 0, 1) := by decide +kernel
theorem dX0_readParts_16 : decode cX0_readParts 16 = .ok (.getfield 22, 3) := by decide +kernel
theorem dX0_readParts_19 : decode cX0_readParts 19 = .ok (.aload_n 1, 1) := by decide +kernel
theorem dX0_readParts_20 : decode cX0_readParts 20 = .ok (.iload_n 2, 1) := by decide +kernel
theorem dX0_readParts_21 : decode cX0_readParts 21 = .ok (.iconst 1, 1) := by decide +kernel
theorem dX0_readParts_22 : decode cX0_readParts 22 = .ok (.iadd, 1) := by decide +kernel
theorem dX0_readParts_23 : decode cX0_readParts 23 = .ok (.iconst 0, 1) := by decide +kernel
theorem dX0_readParts_24 : decode cX0_readParts 24 = .ok (.bipush 100, 2) := by decide +kernel
theorem dX0_readParts_26 : decode cX0_readParts 26 = .ok (.invokevirtual 84, 3) := by decide +kernel
theorem dX0_readParts_29 : decode cX0_readParts 29 = .ok (.ifCond .ne 5, 3) := by decide +kernel
theorem dX0_readParts_32 : decode cX0_readParts 32 = .ok (.iconst 0, 1) := by decide +kernel
theorem dX0_readParts_33 : decode cX0_readParts 33 = .ok (.ireturn, 1) := by decide +kernel
theorem dX0_readParts_34 : decode cX0_readParts 34 = .ok (.bipush 100, 2) := by decide +kernel
theorem dX0_readParts_36 : decode cX0_readParts 36 = .ok (.aload_n 1, 1) := by decide +kernel
theorem dX0_readParts_37 : decode cX0_readParts 37 = .ok (.iload_n 2, 1) := by decide +kernel
theorem dX0_readParts_38 : decode cX0_readParts 38 = .ok (.iaload, 1) := by decide +kernel
theorem dX0_readParts_39 : decode cX0_readParts 39 = .ok (.isub, 1) := by decide +kernel
theorem dX0_readParts_40 : decode cX0_readParts 40 = .ok (.aload_n 1, 1) := by decide +kernel
theorem dX0_readParts_41 : decode cX0_readParts 41 = .ok (.iload_n 2, 1) := by decide +kernel
theorem dX0_readParts_42 : decode cX0_readParts 42 = .ok (.iconst 1, 1) := by decide +kernel
theorem dX0_readParts_43 : decode cX0_readParts 43 = .ok (.iadd, 1) := by decide +kernel
theorem dX0_readParts_44 : decode cX0_readParts 44 = .ok (.iaload, 1) := by decide +kernel
theorem dX0_readParts_45 : decode cX0_readParts 45 = .ok (.isub, 1) := by decide +kernel
theorem dX0_readParts_46 : decode cX0_readParts 46 = .ok (.istore_n 3, 1) := by decide +kernel
theorem dX0_readParts_47 : decode cX0_readParts 47 = .ok (.aload_n 0, 1) := by decide +kernel
theorem dX0_readParts_48 : decode cX0_readParts 48 = .ok (.getfield 22, 3) := by decide +kernel
theorem dX0_readParts_51 : decode cX0_readParts 51 = .ok (.aload_n 1, 1) := by decide +kernel
theorem dX0_readParts_52 : decode cX0_readParts 52 = .ok (.iload_n 2, 1) := by decide +kernel
theorem dX0_readParts_53 : decode cX0_readParts 53 = .ok (.iconst 2, 1) := by decide +kernel
theorem dX0_readParts_54 : decode cX0_readParts 54 = .ok (.iadd, 1) := by decide +kernel
theorem dX0_readParts_55 : decode cX0_readParts 55 = .ok (.iload_n 3, 1) := by decide +kernel
theorem dX0_readParts_56 : decode cX0_readParts 56 = .ok (.iload_n 3, 1) := by decide +kernel
theorem dX0_readParts_57 : decode cX0_readParts 57 = .ok (.invokevirtual 84, 3) := by decide +kernel
theorem dX0_readParts_60 : decode cX0_readParts 60 = .ok (.ireturn, 1) := by decide +kernel
theorem dX0_readOption_0 : decode cX0_readOption 0 = .ok (.aload_n 0, 1) := by decide +kernel
theorem dX0_readOption_1 : decode cX0_readOption 1 = .ok (.getfield 22, 3) := by decide +kernel
theorem dX0_readOption_4 : decode cX0_readOption 4 = .ok (.aload_n 1, 1) := by decide +kernel
theorem dX0_readOption_5 : decode cX0_readOption 5 = .ok (.invokevirtual 114, 3) := by decide +kernel
theorem dX0_readOption_8 : decode cX0_readOption 8 = .ok (.ifCond .eq 19, 3) := by decide +kernel
theorem dX0_readOption_11 : decode cX0_readOption 11 = .ok (.aload_n 0, 1) := by decide +kernel
theorem dX0_readOption_12 : decode cX0_readOption 12 = .ok (.getfield 22, 3) := by decide +kernel
theorem dX0_readOption_15 : decode cX0_readOption 15 = .ok (.aload_n 2, 1) := by decide +kernel
theorem dX0_readOption_16 : decode cX0_readOption 16 = .ok (.iload_n 3, 1) := by decide +kernel
theorem dX0_readOption_17 : decode cX0_readOption 17 = .ok (.iload 4, 2) := by decide +kernel
theorem dX0_readOption_19 : decode cX0_readOption 19 = .ok (.iload 5, 2) := by decide +kernel
theorem dX0_readOption_21 : decode cX0_readOption 21 = .ok (.invokevirtual 84, 3) := by decide +kernel
theorem dX0_readOption_24 : decode cX0_readOption 24 = .ok (.ifCond .eq 7, 3) := by decide +kernel
theorem dX0_readOption_27 : decode cX0_readOption 27 = .ok (.iconst 1, 1) := by decide +kernel
theorem dX0_readOption_28 : decode cX0_readOption 28 = .ok (.goto 4, 3) := by decide +kernel
theorem dX0_readOption_31 : decode cX0_readOption 31 = .ok (.iconst 0, 1) := by decide +kernel
theorem dX0_readOption_32 : decode cX0_readOption 32 = .ok (.ireturn, 1) := by decide +kernel
theorem dX0_readWay_0 : decode cX0_readWay 0 = .ok (.aload_n 0, 1) := by decide +kernel
theorem dX0_readWay_1 : decode cX0_readWay 1 = .ok (.getfield 22, 3) := by decide +kernel
theorem dX0_readWay_4 : decode cX0_readWay 4 = .ok (.invokevirtual 77, 3) := by decide +kernel
theorem dX0_readWay_7 : decode cX0_readWay 7 = .ok (.aload_n 0, 1) := by decide +kernel
theorem dX0_readWay_8 : decode cX0_readWay 8 = .ok (.getfield 22, 3) := by decide +kernel
theorem dX0_readWay_11 : decode cX0_readWay 11 = .ok (.aload_n 0, 1) := by decide +kernel
theorem dX0_readWay_12 : decode cX0_readWay 12 = .ok (.getfield 18, 3) := by decide +kernel
theorem dX0_readWay_15 : decode cX0_readWay 15 = .ok (.iconst 0, 1) := by decide +kernel
theorem dX0_readWay_16 : decode cX0_readWay 16 = .ok (.iconst 0, 1) := by decide +kernel
theorem dX0_readWay_17 : decode cX0_readWay 17 = .ok (.aload_n 0, 1) := by decide +kernel
theorem dX0_readWay_18 : decode cX0_readWay 18 = .ok (.getfield 12, 3) := by decide +kernel
theorem dX0_readWay_21 : decode cX0_readWay 21 = .ok (.getfield 55, 3) := by decide +kernel
theorem dX0_readWay_24 : decode cX0_readWay 24 = .ok (.iconst 1, 1) := by decide +kernel
theorem dX0_readWay_25 : decode cX0_readWay 25 = .ok (.isub, 1) := by decide +kernel
theorem dX0_readWay_26 : decode cX0_readWay 26 = .ok (.invokevirtual 84, 3) := by decide +kernel
theorem dX0_readWay_29 : decode cX0_readWay 29 = .ok (.ifCond .eq 41, 3) := by decide +kernel
theorem dX0_readWay_32 : decode cX0_readWay 32 = .ok (.aload_n 0, 1) := by decide +kernel
theorem dX0_readWay_33 : decode cX0_readWay 33 = .ok (.getfield 22, 3) := by decide +kernel
theorem dX0_readWay_36 : decode cX0_readWay 36 = .ok (.aload_n 0, 1) := by decide +kernel
theorem dX0_readWay_37 : decode cX0_readWay 37 = .ok (.getfield 18, 3) := by decide +kernel
theorem dX0_readWay_40 : decode cX0_readWay 40 = .ok (.iconst 1, 1) := by decide +kernel
theorem dX0_readWay_41 : decode cX0_readWay 41 = .ok (.iconst 0, 1) := by decide +kernel
theorem dX0_readWay_42 : decode cX0_readWay 42 = .ok (.iconst 5, 1) := by decide +kernel
theorem dX0_readWay_43 : decode cX0_readWay 43 = .ok (.invokevirtual 84, 3) := by decide +kernel
theorem dX0_readWay_46 : decode cX0_readWay 46 = .ok (.ifCond .eq 24, 3) := by decide +kernel
theorem dX0_readWay_49 : decode cX0_readWay 49 = .ok (.aload_n 0, 1) := by decide +kernel
theorem dX0_readWay_50 : decode cX0_readWay 50 = .ok (.getfield 22, 3) := by decide +kernel
theorem dX0_readWay_53 : decode cX0_readWay 53 = .ok (.aload_n 0, 1) := by decide +kernel
theorem dX0_readWay_54 : decode cX0_readWay 54 = .ok (.getfield 18, 3) := by decide +kernel
theorem dX0_readWay_57 : decode cX0_readWay 57 = .ok (.iconst 2, 1) := by decide +kernel
theorem dX0_readWay_58 : decode cX0_readWay 58 = .ok (.iconst 0, 1) := by decide +kernel
theorem dX0_readWay_59 : decode cX0_readWay 59 = .ok (.iconst 3, 1) := by decide +kernel
theorem dX0_readWay_60 : decode cX0_readWay 60 = .ok (.invokevirtual 84, 3) := by decide +kernel
theorem dX0_readWay_63 : decode cX0_readWay 63 = .ok (.ifCond .eq 7, 3) := by decide +kernel
theorem dX0_readWay_66 : decode cX0_readWay 66 = .ok (.iconst 1, 1) := by decide +kernel
theorem dX0_readWay_67 : decode cX0_readWay 67 = .ok (.goto 4, 3) := by decide +kernel
theorem dX0_readWay_70 : decode cX0_readWay 70 = .ok (.iconst 0, 1) := by decide +kernel
theorem dX0_readWay_71 : decode cX0_readWay 71 = .ok (.istore_n 1, 1) := by decide +kernel
theorem dX0_readWay_72 : decode cX0_readWay 72 = .ok (.iload_n 1, 1) := by decide +kernel
theorem dX0_readWay_73 : decode cX0_readWay 73 = .ok (.ifCond .eq 30, 3) := by decide +kernel
theorem dX0_readWay_76 : decode cX0_readWay 76 = .ok (.aload_n 0, 1) := by decide +kernel
theorem dX0_readWay_77 : decode cX0_readWay 77 = .ok (.getfield 12, 3) := by decide +kernel
theorem dX0_readWay_80 : decode cX0_readWay 80 = .ok (.getfield 121, 3) := by decide +kernel
theorem dX0_readWay_83 : decode cX0_readWay 83 = .ok (.aload_n 0, 1) := by decide +kernel
theorem dX0_readWay_84 : decode cX0_readWay 84 = .ok (.getfield 18, 3) := by decide +kernel
theorem dX0_readWay_87 : decode cX0_readWay 87 = .ok (.iconst 0, 1) := by decide +kernel
theorem dX0_readWay_88 : decode cX0_readWay 88 = .ok (.iaload, 1) := by decide +kernel
theorem dX0_readWay_89 : decode cX0_readWay 89 = .ok (.aaload, 1) := by decide +kernel
theorem dX0_readWay_90 : decode cX0_readWay 90 = .ok (.aload_n 0, 1) := by decide +kernel
theorem dX0_readWay_91 : decode cX0_readWay 91 = .ok (.getfield 18, 3) := by decide +kernel
theorem dX0_readWay_94 : decode cX0_readWay 94 = .ok (.iconst 1, 1) := by decide +kernel
theorem dX0_readWay_95 : decode cX0_readWay 95 = .ok (.iaload, 1) := by decide +kernel
theorem dX0_readWay_96 : decode cX0_readWay 96 = .ok (.aload_n 0, 1) := by decide +kernel
theorem dX0_readWay_97 : decode cX0_readWay 97 = .ok (.getfield 18, 3) := by decide +kernel
theorem dX0_readWay_100 : decode cX0_readWay 100 = .ok (.iconst 2, 1) := by decide +kernel
theorem dX0_readWay_101 : decode cX0_readWay 101 = .ok (.iaload, 1) := by decide +kernel
theorem dX0_readWay_102 : decode cX0_readWay 102 = .ok (.iastore, 1) := by decide +kernel
theorem dX0_readWay_103 : decode cX0_readWay 103 = .ok (.iload_n 1, 1) := by decide +kernel
theorem dX0_readWay_104 : decode cX0_readWay 104 = .ok (.ireturn, 1) := by decide +kernel
theorem dX1_init_0 : decode cX1_init 0 = .ok (.aload_n 0, 1) := by decide +kernel
theorem dX1_init_1 : decode cX1_init 1 = .ok (.invokespecial 3, 3) := by decide +kernel
theorem dX1_init_4 : decode cX1_init 4 = .ok (.aload_n 0, 1) := by decide +kernel
theorem dX1_init_5 : decode cX1_init 5 = .ok (.sipush 335, 3) := by decide +kernel
theorem dX1_init_8 : decode cX1_init 8 = .ok (.newarray .int, 2) := by decide +kernel
theorem dX1_init_10 : decode cX1_init 10 = .ok (.putfield 9, 3) := by decide +kernel
theorem dX1_init_13 : decode cX1_init 13 = .ok (.aload_n 0, 1) := by decide +kernel
theorem dX1_init_14 : decode cX1_init 14 = .ok (.aload_n 1, 1) := by decide +kernel
theorem dX1_init_15 : decode cX1_init 15 = .ok (.putfield 15, 3) := by decide +kernel
theorem dX1_init_18 : decode cX1_init 18 = .ok (.return_, 1) := by decide +kernel
theorem dX1_readDeeds_0 : decode cX1_readDeeds 0 = .ok (.aload_n 0, 1) := by decide +kernel
theorem dX1_readDeeds_1 : decode cX1_readDeeds 1 = .ok (.getfield 15, 3) := by decide +kernel
theorem dX1_readDeeds_4 : decode cX1_readDeeds 4 = .ok (.invokevirtual 19, 3) := by decide +kernel
theorem dX1_readDeeds_7 : decode cX1_readDeeds 7 = .ok (.iconst 1, 1) := by decide +kernel
theorem dX1_readDeeds_8 : decode cX1_readDeeds 8 = .ok (.istore_n 1, 1) := by decide +kernel
theorem dX1_readDeeds_9 : decode cX1_readDeeds 9 = .ok (.aload_n 0, 1) := by decide +kernel
theorem dX1_readDeeds_10 : decode cX1_readDeeds 10 = .ok (.iconst 0, 1) := by decide +kernel
theorem dX1_readDeeds_11 : decode cX1_readDeeds 11 = .ok (.putfield 24, 3) := by decide +kernel
theorem dX1_readDeeds_14 : decode cX1_readDeeds 14 = .ok (.aload_n 0, 1) := by decide +kernel
theorem dX1_readDeeds_15 : decode cX1_readDeeds 15 = .ok (.getfield 24, 3) := by decide +kernel
theorem dX1_readDeeds_18 : decode cX1_readDeeds 18 = .ok (.bipush 67, 2) := by decide +kernel
theorem dX1_readDeeds_20 : decode cX1_readDeeds 20 = .ok (.if_icmp .ge 43, 3) := by decide +kernel
theorem dX1_readDeeds_23 : decode cX1_readDeeds 23 = .ok (.iload_n 1, 1) := by decide +kernel
theorem dX1_readDeeds_24 : decode cX1_readDeeds 24 = .ok (.ifCond .eq 39, 3) := by decide +kernel
theorem dX1_readDeeds_27 : decode cX1_readDeeds 27 = .ok (.aload_n 0, 1) := by decide +kernel
theorem dX1_readDeeds_28 : decode cX1_readDeeds 28 = .ok (.aload_n 0, 1) := by decide +kernel
theorem dX1_readDeeds_29 : decode cX1_readDeeds 29 = .ok (.getfield 24, 3) := by decide +kernel
theorem dX1_readDeeds_32 : decode cX1_readDeeds 32 = .ok (.iconst 5, 1) := by decide +kernel
theorem dX1_readDeeds_33 : decode cX1_readDeeds 33 = .ok (.imul, 1) := by decide +kernel
theorem dX1_readDeeds_34 : decode cX1_readDeeds 34 = .ok (.invokevirtual 28, 3) := by decide +kernel
theorem dX1_readDeeds_37 : decode cX1_readDeeds 37 = .ok (.ifCond .ne 5, 3) := by decide +kernel
theorem dX1_readDeeds_40 : decode cX1_readDeeds 40 = .ok (.iconst 0, 1) := by decide +kernel
theorem dX1_readDeeds_41 : decode cX1_readDeeds 41 = .ok (.ireturn, 1) := by decide +kernel
theorem dX1_readDeeds_42 : decode cX1_readDeeds 42 = .ok (.aload_n 0, 1) := by decide +kernel
theorem dX1_readDeeds_43 : decode cX1_readDeeds 43 = .ok (.getfield 15, 3) := by decide +kernel
theorem dX1_readDeeds_46 : decode cX1_readDeeds 46 = .ok (.invokevirtual 32, 3) := by decide +kernel
theorem dX1_readDeeds_49 : decode cX1_readDeeds 49 = .ok (.istore_n 1, 1) := by decide +kernel
theorem dX1_readDeeds_50 : decode cX1_readDeeds 50 = .ok (.aload_n 0, 1) := by decide +kernel
theorem dX1_readDeeds_51 : decode cX1_readDeeds 51 = .ok (.dup, 1) := by decide +kernel
theorem dX1_readDeeds_52 : decode cX1_readDeeds 52 = .ok (.getfield 24, 3) := by decide +kernel
theorem dX1_readDeeds_55 : decode cX1_readDeeds 55 = .ok (.iconst 1, 1) := by decide +kernel
theorem dX1_readDeeds_56 : decode cX1_readDeeds 56 = .ok (.iadd, 1) := by decide +kernel
theorem dX1_readDeeds_57 : decode cX1_readDeeds 57 = .ok (.putfield 24, 3) := by decide +kernel
theorem dX1_readDeeds_60 : decode cX1_readDeeds 60 = .ok (.goto (-46), 3) := by decide +kernel
theorem dX1_readDeeds_63 : decode cX1_readDeeds 63 = .ok (.aload_n 0, 1) := by decide +kernel
theorem dX1_readDeeds_64 : decode cX1_readDeeds 64 = .ok (.getfield 15, 3) := by decide +kernel
theorem dX1_readDeeds_67 : decode cX1_readDeeds 67 = .ok (.getfield 36, 3) := by decide +kernel
theorem dX1_readDeeds_70 : decode cX1_readDeeds 70 = .ok (.ifCond .ne 7, 3) := by decide +kernel
theorem dX1_readDeeds_73 : decode cX1_readDeeds 73 = .ok (.iload_n 1, 1) := by decide +kernel
theorem dX1_readDeeds_74 : decode cX1_readDeeds 74 = .ok (.ifCond .eq 14, 3) := by decide +kernel
theorem dX1_readDeeds_77 : decode cX1_readDeeds 77 = .ok (.aload_n 0, 1) := by decide +kernel
theorem dX1_readDeeds_78 : decode cX1_readDeeds 78 = .ok (.getfield 15, 3) := by decide +kernel
theorem dX1_readDeeds_81 : decode cX1_readDeeds 81 = .ok (.iconst 1, 1) := by decide +kernel
theorem dX1_readDeeds_82 : decode cX1_readDeeds 82 = .ok (.invokevirtual 39, 3) := by decide +kernel
theorem dX1_readDeeds_85 : decode cX1_readDeeds 85 = .ok (.ifCond .eq 7, 3) := by decide +kernel
theorem dX1_readDeeds_88 : decode cX1_readDeeds 88 = .ok (.iconst 1, 1) := by decide +kernel
theorem dX1_readDeeds_89 : decode cX1_readDeeds 89 = .ok (.goto 4, 3) := by decide +kernel
theorem dX1_readDeeds_92 : decode cX1_readDeeds 92 = .ok (.iconst 0, 1) := by decide +kernel
theorem dX1_readDeeds_93 : decode cX1_readDeeds 93 = .ok (.ireturn, 1) := by decide +kernel
theorem dX1_readDeed_0 : decode cX1_readDeed 0 = .ok (.aload_n 0, 1) := by decide +kernel
theorem dX1_readDeed_1 : decode cX1_readDeed 1 = .ok (.getfield 15, 3) := by decide +kernel
theorem dX1_readDeed_4 : decode cX1_readDeed 4 = .ok (.ldc 42, 2) := by decide +kernel
theorem dX1_readDeed_6 : decode cX1_readDeed 6 = .ok (.invokevirtual 44, 3) := by decide +kernel
theorem dX1_readDeed_9 : decode cX1_readDeed 9 = .ok (.ifCond .eq 19, 3) := by decide +kernel
theorem dX1_readDeed_12 : decode cX1_readDeed 12 = .ok (.aload_n 0, 1) := by decide +kernel
theorem dX1_readDeed_13 : decode cX1_readDeed 13 = .ok (.getfield 9, 3) := by decide +kernel
theorem dX1_readDeed_16 : decode cX1_readDeed 16 = .ok (.iload_n 1, 1) := by decide +kernel
theorem dX1_readDeed_17 : decode cX1_readDeed 17 = .ok (.iconst 0, 1) := by decide +kernel
theorem dX1_readDeed_18 : decode cX1_readDeed 18 = .ok (.iastore, 1) := by decide +kernel
theorem dX1_readDeed_19 : decode cX1_readDeed 19 = .ok (.aload_n 0, 1) := by decide +kernel
theorem dX1_readDeed_20 : decode cX1_readDeed 20 = .ok (.iload_n 1, 1) := by decide +kernel
theorem dX1_readDeed_21 : decode cX1_readDeed 21 = .ok (.iconst 1, 1) := by decide +kernel
theorem dX1_readDeed_22 : decode cX1_readDeed 22 = .ok (.iadd, 1) := by decide +kernel
theorem dX1_readDeed_23 : decode cX1_readDeed 23 = .ok (.iconst 4, 1) := by decide +kernel
theorem dX1_readDeed_24 : decode cX1_readDeed 24 = .ok (.invokevirtual 48, 3) := by decide +kernel
theorem dX1_readDeed_27 : decode cX1_readDeed 27 = .ok (.ireturn, 1) := by decide +kernel
theorem dX1_readDeed_28 : decode cX1_readDeed 28 = .ok (.aload_n 0, 1) := by decide +kernel
theorem dX1_readDeed_29 : decode cX1_readDeed 29 = .ok (.getfield 15, 3) := by decide +kernel
theorem dX1_readDeed_32 : decode cX1_readDeed 32 = .ok (.ldc 52, 2) := by decide +kernel
theorem dX1_readDeed_34 : decode cX1_readDeed 34 = .ok (.invokevirtual 44, 3) := by decide +kernel
theorem dX1_readDeed_37 : decode cX1_readDeed 37 = .ok (.ifCond .eq 37, 3) := by decide +kernel
theorem dX1_readDeed_40 : decode cX1_readDeed 40 = .ok (.aload_n 0, 1) := by decide +kernel
theorem dX1_readDeed_41 : decode cX1_readDeed 41 = .ok (.getfield 9, 3) := by decide +kernel
theorem dX1_readDeed_44 : decode cX1_readDeed 44 = .ok (.iload_n 1, 1) := by decide +kernel
theorem dX1_readDeed_45 : decode cX1_readDeed 45 = .ok (.iconst 1, 1) := by decide +kernel
theorem dX1_readDeed_46 : decode cX1_readDeed 46 = .ok (.iastore, 1) := by decide +kernel
theorem dX1_readDeed_47 : decode cX1_readDeed 47 = .ok (.aload_n 0, 1) := by decide +kernel
theorem dX1_readDeed_48 : decode cX1_readDeed 48 = .ok (.iload_n 1, 1) := by decide +kernel
theorem dX1_readDeed_49 : decode cX1_readDeed 49 = .ok (.iconst 1, 1) := by decide +kernel
theorem dX1_readDeed_50 : decode cX1_readDeed 50 = .ok (.iadd, 1) := by decide +kernel
theorem dX1_readDeed_51 : decode cX1_readDeed 51 = .ok (.iconst 2, 1) := by decide +kernel
theorem dX1_readDeed_52 : decode cX1_readDeed 52 = .ok (.invokevirtual 48, 3) := by decide +kernel
theorem dX1_readDeed_55 : decode cX1_readDeed 55 = .ok (.ifCond .eq 17, 3) := by decide +kernel
theorem dX1_readDeed_58 : decode cX1_readDeed 58 = .ok (.aload_n 0, 1) := by decide +kernel
theorem dX1_readDeed_59 : decode cX1_readDeed 59 = .ok (.iload_n 1, 1) := by decide +kernel
theorem dX1_readDeed_60 : decode cX1_readDeed 60 = .ok (.iconst 3, 1) := by decide +kernel
theorem dX1_readDeed_61 : decode cX1_readDeed 61 = .ok (.iadd, 1) := by decide +kernel
theorem dX1_readDeed_62 : decode cX1_readDeed 62 = .ok (.invokevirtual 54, 3) := by decide +kernel
theorem dX1_readDeed_65 : decode cX1_readDeed 65 = .ok (.ifCond .eq 7, 3) := by decide +kernel
theorem dX1_readDeed_68 : decode cX1_readDeed 68 = .ok (.iconst 1, 1) := by decide +kernel
theorem dX1_readDeed_69 : decode cX1_readDeed 69 = .ok (.goto 4, 3) := by decide +kernel
theorem dX1_readDeed_72 : decode cX1_readDeed 72 = .ok (.iconst 0, 1) := by decide +kernel
theorem dX1_readDeed_73 : decode cX1_readDeed 73 = .ok (.ireturn, 1) := by decide +kernel
theorem dX1_readDeed_74 : decode cX1_readDeed 74 = .ok (.aload_n 0, 1) := by decide +kernel
theorem dX1_readDeed_75 : decode cX1_readDeed 75 = .ok (.getfield 15, 3) := by decide +kernel
theorem dX1_readDeed_78 : decode cX1_readDeed 78 = .ok (.ldc 57, 2) := by decide +kernel
theorem dX1_readDeed_80 : decode cX1_readDeed 80 = .ok (.invokevirtual 44, 3) := by decide +kernel
theorem dX1_readDeed_83 : decode cX1_readDeed 83 = .ok (.ifCond .eq 19, 3) := by decide +kernel
theorem dX1_readDeed_86 : decode cX1_readDeed 86 = .ok (.aload_n 0, 1) := by decide +kernel
theorem dX1_readDeed_87 : decode cX1_readDeed 87 = .ok (.getfield 9, 3) := by decide +kernel
theorem dX1_readDeed_90 : decode cX1_readDeed 90 = .ok (.iload_n 1, 1) := by decide +kernel
theorem dX1_readDeed_91 : decode cX1_readDeed 91 = .ok (.iconst 2, 1) := by decide +kernel
theorem dX1_readDeed_92 : decode cX1_readDeed 92 = .ok (.iastore, 1) := by decide +kernel
theorem dX1_readDeed_93 : decode cX1_readDeed 93 = .ok (.aload_n 0, 1) := by decide +kernel
theorem dX1_readDeed_94 : decode cX1_readDeed 94 = .ok (.iload_n 1, 1) := by decide +kernel
theorem dX1_readDeed_95 : decode cX1_readDeed 95 = .ok (.iconst 1, 1) := by decide +kernel
theorem dX1_readDeed_96 : decode cX1_readDeed 96 = .ok (.iadd, 1) := by decide +kernel
theorem dX1_readDeed_97 : decode cX1_readDeed 97 = .ok (.iconst 2, 1) := by decide +kernel
theorem dX1_readDeed_98 : decode cX1_readDeed 98 = .ok (.invokevirtual 48, 3) := by decide +kernel
theorem dX1_readDeed_101 : decode cX1_readDeed 101 = .ok (.ireturn, 1) := by decide +kernel
theorem dX1_readDeed_102 : decode cX1_readDeed 102 = .ok (.aload_n 0, 1) := by decide +kernel
theorem dX1_readDeed_103 : decode cX1_readDeed 103 = .ok (.getfield 15, 3) := by decide +kernel
theorem dX1_readDeed_106 : decode cX1_readDeed 106 = .ok (.iconst 1, 1) := by decide +kernel
theorem dX1_readDeed_107 : decode cX1_readDeed 107 = .ok (.invokevirtual 39, 3) := by decide +kernel
theorem dX1_readDeed_110 : decode cX1_readDeed 110 = .ok (.ireturn, 1) := by decide +kernel
theorem dX1_readNumbers_0 : decode cX1_readNumbers 0 = .ok (.iconst 0, 1) := by decide +kernel
theorem dX1_readNumbers_1 : decode cX1_readNumbers 1 = .ok (.istore_n 3, 1) := by decide +kernel
theorem dX1_readNumbers_2 : decode cX1_readNumbers 2 = .ok (.iload_n 3, 1) := by decide +kernel
theorem dX1_readNumbers_3 : decode cX1_readNumbers 3 = .ok (.iload_n 2, 1) := by decide +kernel
theorem dX1_readNumbers_4 : decode cX1_readNumbers 4 = .ok (.if_icmp .ge 31, 3) := by decide +kernel
theorem dX1_readNumbers_7 : decode cX1_readNumbers 7 = .ok (.aload_n 0, 1) := by decide +kernel
theorem dX1_readNumbers_8 : decode cX1_readNumbers 8 = .ok (.getfield 15, 3) := by decide +kernel
theorem dX1_readNumbers_11 : decode cX1_readNumbers 11 = .ok (.aload_n 0, 1) := by decide +kernel
theorem dX1_readNumbers_12 : decode cX1_readNumbers 12 = .ok (.getfield 9, 3) := by decide +kernel
theorem dX1_readNumbers_15 : decode cX1_readNumbers 15 = .ok (.iload_n 1, 1) := by decide +kernel
theorem dX1_readNumbers_16 : decode cX1_readNumbers 16 = .ok (.iload_n 3, 1) := by decide +kernel
theorem dX1_readNumbers_17 : decode cX1_readNumbers 17 = .ok (.iadd, 1) := by decide +kernel
theorem dX1_readNumbers_18 : decode cX1_readNumbers 18 = .ok (.iconst 0, 1) := by decide +kernel
theorem dX1_readNumbers_19 : decode cX1_readNumbers 19 = .ok (.ldc 59, 2) := by decide +kernel
theorem dX1_readNumbers_21 : decode cX1_readNumbers 21 = .ok (.invokevirtual 60, 3) := by decide +kernel
theorem dX1_readNumbers_24 : decode cX1_readNumbers 24 = .ok (.ifCond .ne 5, 3) := by decide +kernel
theorem dX1_readNumbers_27 : decode cX1_readNumbers 27 = .ok (.iconst 0, 1) := by decide +kernel
theorem dX1_readNumbers_28 : decode cX1_readNumbers 28 = .ok (.ireturn, 1) := by decide +kernel
theorem dX1_readNumbers_29 : decode cX1_readNumbers 29 = .ok (.iinc 3 1, 3) := by decide +kernel
theorem dX1_readNumbers_32 : decode cX1_readNumbers 32 = .ok (.goto (-30), 3) := by decide +kernel
theorem dX1_readNumbers_35 : decode cX1_readNumbers 35 = .ok (.iconst 1, 1) := by decide +kernel
theorem dX1_readNumbers_36 : decode cX1_readNumbers 36 = .ok (.ireturn, 1) := by decide +kernel
theorem dX1_readWon_0 : decode cX1_readWon 0 = .ok (.aload_n 0, 1) := by decide +kernel
theorem dX1_readWon_1 : decode cX1_readWon 1 = .ok (.getfield 15, 3) := by decide +kernel
theorem dX1_readWon_4 : decode cX1_readWon 4 = .ok (.ldc 64, 2) := by decide +kernel
theorem dX1_readWon_6 : decode cX1_readWon 6 = .ok (.invokevirtual 44, 3) := by decide +kernel
theorem dX1_readWon_9 : decode cX1_readWon 9 = .ok (.ifCond .eq 12, 3) := by decide +kernel
theorem dX1_readWon_12 : decode cX1_readWon 12 = .ok (.aload_n 0, 1) := by decide +kernel
theorem dX1_readWon_13 : decode cX1_readWon 13 = .ok (.getfield 9, 3) := by decide +kernel
theorem dX1_readWon_16 : decode cX1_readWon 16 = .ok (.iload_n 1, 1) := by decide +kernel
theorem dX1_readWon_17 : decode cX1_readWon 17 = .ok (.iconst 0, 1) := by decide +kernel
theorem dX1_readWon_18 : decode cX1_readWon 18 = .ok (.iastore, 1) := by decide +kernel
theorem dX1_readWon_19 : decode cX1_readWon 19 = .ok (.iconst 1, 1) := by decide +kernel
theorem dX1_readWon_20 : decode cX1_readWon 20 = .ok (.ireturn, 1) := by decide +kernel
theorem dX1_readWon_21 : decode cX1_readWon 21 = .ok (.aload_n 0, 1) := by decide +kernel
theorem dX1_readWon_22 : decode cX1_readWon 22 = .ok (.getfield 15, 3) := by decide +kernel
theorem dX1_readWon_25 : decode cX1_readWon 25 = .ok (.ldc 66, 2) := by decide +kernel
theorem dX1_readWon_27 : decode cX1_readWon 27 = .ok (.invokevirtual 44, 3) := by decide +kernel
theorem dX1_readWon_30 : decode cX1_readWon 30 = .ok (.ifCond .eq 12, 3) := by decide +kernel
theorem dX1_readWon_33 : decode cX1_readWon 33 = .ok (.aload_n 0, 1) := by decide +kernel
theorem dX1_readWon_34 : decode cX1_readWon 34 = .ok (.getfield 9, 3) := by decide +kernel
theorem dX1_readWon_37 : decode cX1_readWon 37 = .ok (.iload_n 1, 1) := by decide +kernel
theorem dX1_readWon_38 : decode cX1_readWon 38 = .ok (.iconst 1, 1) := by decide +kernel
theorem dX1_readWon_39 : decode cX1_readWon 39 = .ok (.iastore, 1) := by decide +kernel
theorem dX1_readWon_40 : decode cX1_readWon 40 = .ok (.iconst 1, 1) := by decide +kernel
theorem dX1_readWon_41 : decode cX1_readWon 41 = .ok (.ireturn, 1) := by decide +kernel
theorem dX1_readWon_42 : decode cX1_readWon 42 = .ok (.aload_n 0, 1) := by decide +kernel
theorem dX1_readWon_43 : decode cX1_readWon 43 = .ok (.getfield 9, 3) := by decide +kernel
theorem dX1_readWon_46 : decode cX1_readWon 46 = .ok (.iload_n 1, 1) := by decide +kernel
theorem dX1_readWon_47 : decode cX1_readWon 47 = .ok (.iconst 2, 1) := by decide +kernel
theorem dX1_readWon_48 : decode cX1_readWon 48 = .ok (.iastore, 1) := by decide +kernel
theorem dX1_readWon_49 : decode cX1_readWon 49 = .ok (.aload_n 0, 1) := by decide +kernel
theorem dX1_readWon_50 : decode cX1_readWon 50 = .ok (.getfield 15, 3) := by decide +kernel
theorem dX1_readWon_53 : decode cX1_readWon 53 = .ok (.ldc 68, 2) := by decide +kernel
theorem dX1_readWon_55 : decode cX1_readWon 55 = .ok (.invokevirtual 44, 3) := by decide +kernel
theorem dX1_readWon_58 : decode cX1_readWon 58 = .ok (.ifCond .ne 14, 3) := by decide +kernel
theorem dX1_readWon_61 : decode cX1_readWon 61 = .ok (.aload_n 0, 1) := by decide +kernel
theorem dX1_readWon_62 : decode cX1_readWon 62 = .ok (.getfield 15, 3) := by decide +kernel
theorem dX1_readWon_65 : decode cX1_readWon 65 = .ok (.iconst 1, 1) := by decide +kernel
theorem dX1_readWon_66 : decode cX1_readWon 66 = .ok (.invokevirtual 39, 3) := by decide +kernel
theorem dX1_readWon_69 : decode cX1_readWon 69 = .ok (.ifCond .eq 7, 3) := by decide +kernel
theorem dX1_readWon_72 : decode cX1_readWon 72 = .ok (.iconst 1, 1) := by decide +kernel
theorem dX1_readWon_73 : decode cX1_readWon 73 = .ok (.goto 4, 3) := by decide +kernel
theorem dX1_readWon_76 : decode cX1_readWon 76 = .ok (.iconst 0, 1) := by decide +kernel
theorem dX1_readWon_77 : decode cX1_readWon 77 = .ok (.ireturn, 1) := by decide +kernel
theorem dX2_init_0 : decode cX2_init 0 = .ok (.aload_n 0, 1) := by decide +kernel
theorem dX2_init_1 : decode cX2_init 1 = .ok (.invokespecial 3, 3) := by decide +kernel
theorem dX2_init_4 : decode cX2_init 4 = .ok (.aload_n 0, 1) := by decide +kernel
theorem dX2_init_5 : decode cX2_init 5 = .ok (.bipush 12, 2) := by decide +kernel
theorem dX2_init_7 : decode cX2_init 7 = .ok (.anewarray 9, 3) := by decide +kernel
theorem dX2_init_10 : decode cX2_init 10 = .ok (.putfield 11, 3) := by decide +kernel
theorem dX2_init_13 : decode cX2_init 13 = .ok (.iconst 0, 1) := by decide +kernel
theorem dX2_init_14 : decode cX2_init 14 = .ok (.istore_n 1, 1) := by decide +kernel
theorem dX2_init_15 : decode cX2_init 15 = .ok (.iload_n 1, 1) := by decide +kernel
theorem dX2_init_16 : decode cX2_init 16 = .ok (.bipush 12, 2) := by decide +kernel
theorem dX2_init_18 : decode cX2_init 18 = .ok (.if_icmp .ge 22, 3) := by decide +kernel
theorem dX2_init_21 : decode cX2_init 21 = .ok (.aload_n 0, 1) := by decide +kernel
theorem dX2_init_22 : decode cX2_init 22 = .ok (.getfield 11, 3) := by decide +kernel
theorem dX2_init_25 : decode cX2_init 25 = .ok (.iload_n 1, 1) := by decide +kernel
theorem dX2_init_26 : decode cX2_init 26 = .ok (.new 9, 3) := by decide +kernel
theorem dX2_init_29 : decode cX2_init 29 = .ok (.dup, 1) := by decide +kernel
theorem dX2_init_30 : decode cX2_init 30 = .ok (.invokespecial 17, 3) := by decide +kernel
theorem dX2_init_33 : decode cX2_init 33 = .ok (.aastore, 1) := by decide +kernel
theorem dX2_init_34 : decode cX2_init 34 = .ok (.iinc 1 1, 3) := by decide +kernel
theorem dX2_init_37 : decode cX2_init 37 = .ok (.goto (-22), 3) := by decide +kernel
theorem dX2_init_40 : decode cX2_init 40 = .ok (.return_, 1) := by decide +kernel
theorem dX2_clear_0 : decode cX2_clear 0 = .ok (.aload_n 0, 1) := by decide +kernel
theorem dX2_clear_1 : decode cX2_clear 1 = .ok (.iconst 0, 1) := by decide +kernel
theorem dX2_clear_2 : decode cX2_clear 2 = .ok (.putfield 18, 3) := by decide +kernel
theorem dX2_clear_5 : decode cX2_clear 5 = .ok (.return_, 1) := by decide +kernel
theorem dX2_put_0 : decode cX2_put 0 = .ok (.aload_n 0, 1) := by decide +kernel
theorem dX2_put_1 : decode cX2_put 1 = .ok (.getfield 11, 3) := by decide +kernel
theorem dX2_put_4 : decode cX2_put 4 = .ok (.aload_n 0, 1) := by decide +kernel
theorem dX2_put_5 : decode cX2_put 5 = .ok (.getfield 22, 3) := by decide +kernel
theorem dX2_put_8 : decode cX2_put 8 = .ok (.aaload, 1) := by decide +kernel
theorem dX2_put_9 : decode cX2_put 9 = .ok (.aload_n 1, 1) := by decide +kernel
theorem dX2_put_10 : decode cX2_put 10 = .ok (.invokevirtual 25, 3) := by decide +kernel
theorem dX2_put_13 : decode cX2_put 13 = .ok (.aload_n 0, 1) := by decide +kernel
theorem dX2_put_14 : decode cX2_put 14 = .ok (.aload_n 0, 1) := by decide +kernel
theorem dX2_put_15 : decode cX2_put 15 = .ok (.getfield 22, 3) := by decide +kernel
theorem dX2_put_18 : decode cX2_put 18 = .ok (.iconst 1, 1) := by decide +kernel
theorem dX2_put_19 : decode cX2_put 19 = .ok (.iadd, 1) := by decide +kernel
theorem dX2_put_20 : decode cX2_put 20 = .ok (.bipush 12, 2) := by decide +kernel
theorem dX2_put_22 : decode cX2_put 22 = .ok (.irem, 1) := by decide +kernel
theorem dX2_put_23 : decode cX2_put 23 = .ok (.putfield 22, 3) := by decide +kernel
theorem dX2_put_26 : decode cX2_put 26 = .ok (.aload_n 0, 1) := by decide +kernel
theorem dX2_put_27 : decode cX2_put 27 = .ok (.aload_n 0, 1) := by decide +kernel
theorem dX2_put_28 : decode cX2_put 28 = .ok (.getfield 18, 3) := by decide +kernel
theorem dX2_put_31 : decode cX2_put 31 = .ok (.iconst 1, 1) := by decide +kernel
theorem dX2_put_32 : decode cX2_put 32 = .ok (.iadd, 1) := by decide +kernel
theorem dX2_put_33 : decode cX2_put 33 = .ok (.bipush 12, 2) := by decide +kernel
theorem dX2_put_35 : decode cX2_put 35 = .ok (.invokestatic 29, 3) := by decide +kernel
theorem dX2_put_38 : decode cX2_put 38 = .ok (.putfield 18, 3) := by decide +kernel
theorem dX2_put_41 : decode cX2_put 41 = .ok (.return_, 1) := by decide +kernel
theorem dX2_takeBack_0 : decode cX2_takeBack 0 = .ok (.aload_n 0, 1) := by decide +kernel
theorem dX2_takeBack_1 : decode cX2_takeBack 1 = .ok (.aload_n 0, 1) := by decide +kernel
theorem dX2_takeBack_2 : decode cX2_takeBack 2 = .ok (.getfield 22, 3) := by decide +kernel
theorem dX2_takeBack_5 : decode cX2_takeBack 5 = .ok (.bipush 12, 2) := by decide +kernel
theorem dX2_takeBack_7 : decode cX2_takeBack 7 = .ok (.iadd, 1) := by decide +kernel
theorem dX2_takeBack_8 : decode cX2_takeBack 8 = .ok (.iconst 1, 1) := by decide +kernel
theorem dX2_takeBack_9 : decode cX2_takeBack 9 = .ok (.isub, 1) := by decide +kernel
theorem dX2_takeBack_10 : decode cX2_takeBack 10 = .ok (.bipush 12, 2) := by decide +kernel
theorem dX2_takeBack_12 : decode cX2_takeBack 12 = .ok (.irem, 1) := by decide +kernel
theorem dX2_takeBack_13 : decode cX2_takeBack 13 = .ok (.putfield 22, 3) := by decide +kernel
theorem dX2_takeBack_16 : decode cX2_takeBack 16 = .ok (.aload_n 1, 1) := by decide +kernel
theorem dX2_takeBack_17 : decode cX2_takeBack 17 = .ok (.aload_n 0, 1) := by decide +kernel
theorem dX2_takeBack_18 : decode cX2_takeBack 18 = .ok (.getfield 11, 3) := by decide +kernel
theorem dX2_takeBack_21 : decode cX2_takeBack 21 = .ok (.aload_n 0, 1) := by decide +kernel
theorem dX2_takeBack_22 : decode cX2_takeBack 22 = .ok (.getfield 22, 3) := by decide +kernel
theorem dX2_takeBack_25 : decode cX2_takeBack 25 = .ok (.aaload, 1) := by decide +kernel
theorem dX2_takeBack_26 : decode cX2_takeBack 26 = .ok (.invokevirtual 25, 3) := by decide +kernel
theorem dX2_takeBack_29 : decode cX2_takeBack 29 = .ok (.aload_n 0, 1) := by decide +kernel
theorem dX2_takeBack_30 : decode cX2_takeBack 30 = .ok (.dup, 1) := by decide +kernel
theorem dX2_takeBack_31 : decode cX2_takeBack 31 = .ok (.getfield 18, 3) := by decide +kernel
theorem dX2_takeBack_34 : decode cX2_takeBack 34 = .ok (.iconst 1, 1) := by decide +kernel
theorem dX2_takeBack_35 : decode cX2_takeBack 35 = .ok (.isub, 1) := by decide +kernel
theorem dX2_takeBack_36 : decode cX2_takeBack 36 = .ok (.putfield 18, 3) := by decide +kernel
theorem dX2_takeBack_39 : decode cX2_takeBack 39 = .ok (.return_, 1) := by decide +kernel
theorem dX3_init_0 : decode cX3_init 0 = .ok (.aload_n 0, 1) := by decide +kernel
theorem dX3_init_1 : decode cX3_init 1 = .ok (.invokespecial 3, 3) := by decide +kernel
theorem dX3_init_4 : decode cX3_init 4 = .ok (.aload_n 0, 1) := by decide +kernel
theorem dX3_init_5 : decode cX3_init 5 = .ok (.bipush 12, 2) := by decide +kernel
theorem dX3_init_7 : decode cX3_init 7 = .ok (.bipush 12, 2) := by decide +kernel
theorem dX3_init_9 : decode cX3_init 9 = .ok (.multianewarray 9 2, 4) := by decide +kernel
theorem dX3_init_13 : decode cX3_init 13 = .ok (.putfield 11, 3) := by decide +kernel
theorem dX3_init_16 : decode cX3_init 16 = .ok (.aload_n 0, 1) := by decide +kernel
theorem dX3_init_17 : decode cX3_init 17 = .ok (.iconst 4, 1) := by decide +kernel
theorem dX3_init_18 : decode cX3_init 18 = .ok (.iconst 3, 1) := by decide +kernel
theorem dX3_init_19 : decode cX3_init 19 = .ok (.multianewarray 9 2, 4) := by decide +kernel
theorem dX3_init_23 : decode cX3_init 23 = .ok (.putfield 16, 3) := by decide +kernel
theorem dX3_init_26 : decode cX3_init 26 = .ok (.aload_n 0, 1) := by decide +kernel
theorem dX3_init_27 : decode cX3_init 27 = .ok (.bipush 24, 2) := by decide +kernel
theorem dX3_init_29 : decode cX3_init 29 = .ok (.bipush 7, 2) := by decide +kernel
theorem dX3_init_31 : decode cX3_init 31 = .ok (.multianewarray 9 2, 4) := by decide +kernel
theorem dX3_init_35 : decode cX3_init 35 = .ok (.putfield 19, 3) := by decide +kernel
theorem dX3_init_38 : decode cX3_init 38 = .ok (.aload_n 0, 1) := by decide +kernel
theorem dX3_init_39 : decode cX3_init 39 = .ok (.bipush 12, 2) := by decide +kernel
theorem dX3_init_41 : decode cX3_init 41 = .ok (.newarray .int, 2) := by decide +kernel
theorem dX3_init_43 : decode cX3_init 43 = .ok (.putfield 22, 3) := by decide +kernel
theorem dX3_init_46 : decode cX3_init 46 = .ok (.aload_n 0, 1) := by decide +kernel
theorem dX3_init_47 : decode cX3_init 47 = .ok (.bipush 13, 2) := by decide +kernel
theorem dX3_init_49 : decode cX3_init 49 = .ok (.newarray .int, 2) := by decide +kernel
theorem dX3_init_51 : decode cX3_init 51 = .ok (.putfield 26, 3) := by decide +kernel
theorem dX3_init_54 : decode cX3_init 54 = .ok (.aload_n 0, 1) := by decide +kernel
theorem dX3_init_55 : decode cX3_init 55 = .ok (.bipush 6, 2) := by decide +kernel
theorem dX3_init_57 : decode cX3_init 57 = .ok (.newarray .int, 2) := by decide +kernel
theorem dX3_init_59 : decode cX3_init 59 = .ok (.putfield 29, 3) := by decide +kernel
theorem dX3_init_62 : decode cX3_init 62 = .ok (.return_, 1) := by decide +kernel
theorem dX3_reckonAll_0 : decode cX3_reckonAll 0 = .ok (.aload_n 0, 1) := by decide +kernel
theorem dX3_reckonAll_1 : decode cX3_reckonAll 1 = .ok (.invokevirtual 32, 3) := by decide +kernel
theorem dX3_reckonAll_4 : decode cX3_reckonAll 4 = .ok (.iconst 0, 1) := by decide +kernel
theorem dX3_reckonAll_5 : decode cX3_reckonAll 5 = .ok (.istore 4, 2) := by decide +kernel
theorem dX3_reckonAll_7 : decode cX3_reckonAll 7 = .ok (.iload 4, 2) := by decide +kernel
theorem dX3_reckonAll_9 : decode cX3_reckonAll 9 = .ok (.aload_n 2, 1) := by decide +kernel
theorem dX3_reckonAll_10 : decode cX3_reckonAll 10 = .ok (.getfield 35, 3) := by decide +kernel
theorem dX3_reckonAll_13 : decode cX3_reckonAll 13 = .ok (.if_icmp .ge 48, 3) := by decide +kernel
theorem dX3_reckonAll_16 : decode cX3_reckonAll 16 = .ok (.aload_n 0, 1) := by decide +kernel
theorem dX3_reckonAll_17 : decode cX3_reckonAll 17 = .ok (.aload_n 2, 1) := by decide +kernel
theorem dX3_reckonAll_18 : decode cX3_reckonAll 18 = .ok (.iload 4, 2) := by decide +kernel
theorem dX3_reckonAll_20 : decode cX3_reckonAll 20 = .ok (.invokevirtual 41, 3) := by decide +kernel
theorem dX3_reckonAll_23 : decode cX3_reckonAll 23 = .ok (.iconst 0, 1) := by decide +kernel
theorem dX3_reckonAll_24 : decode cX3_reckonAll 24 = .ok (.istore 5, 2) := by decide +kernel
theorem dX3_reckonAll_26 : decode cX3_reckonAll 26 = .ok (.iload 5, 2) := by decide +kernel
theorem dX3_reckonAll_28 : decode cX3_reckonAll 28 = .ok (.aload_n 2, 1) := by decide +kernel
theorem dX3_reckonAll_29 : decode cX3_reckonAll 29 = .ok (.getfield 45, 3) := by decide +kernel
theorem dX3_reckonAll_32 : decode cX3_reckonAll 32 = .ok (.iload 4, 2) := by decide +kernel
theorem dX3_reckonAll_34 : decode cX3_reckonAll 34 = .ok (.iaload, 1) := by decide +kernel
theorem dX3_reckonAll_35 : decode cX3_reckonAll 35 = .ok (.if_icmp .ge 20, 3) := by decide +kernel
theorem dX3_reckonAll_38 : decode cX3_reckonAll 38 = .ok (.aload_n 0, 1) := by decide +kernel
theorem dX3_reckonAll_39 : decode cX3_reckonAll 39 = .ok (.aload_n 1, 1) := by decide +kernel
theorem dX3_reckonAll_40 : decode cX3_reckonAll 40 = .ok (.aload_n 2, 1) := by decide +kernel
theorem dX3_reckonAll_41 : decode cX3_reckonAll 41 = .ok (.aload_n 3, 1) := by decide +kernel
theorem dX3_reckonAll_42 : decode cX3_reckonAll 42 = .ok (.iload 4, 2) := by decide +kernel
theorem dX3_reckonAll_44 : decode cX3_reckonAll 44 = .ok (.iload 5, 2) := by decide +kernel
theorem dX3_reckonAll_46 : decode cX3_reckonAll 46 = .ok (.invokevirtual 48, 3) := by decide +kernel
theorem dX3_reckonAll_49 : decode cX3_reckonAll 49 = .ok (.iinc 5 1, 3) := by decide +kernel
theorem dX3_reckonAll_52 : decode cX3_reckonAll 52 = .ok (.goto (-26), 3) := by decide +kernel
theorem dX3_reckonAll_55 : decode cX3_reckonAll 55 = .ok (.iinc 4 1, 3) := by decide +kernel
theorem dX3_reckonAll_58 : decode cX3_reckonAll 58 = .ok (.goto (-51), 3) := by decide +kernel
theorem dX3_reckonAll_61 : decode cX3_reckonAll 61 = .ok (.iconst 0, 1) := by decide +kernel
theorem dX3_reckonAll_62 : decode cX3_reckonAll 62 = .ok (.istore 4, 2) := by decide +kernel
theorem dX3_reckonAll_64 : decode cX3_reckonAll 64 = .ok (.iload 4, 2) := by decide +kernel
theorem dX3_reckonAll_66 : decode cX3_reckonAll 66 = .ok (.aload_n 1, 1) := by decide +kernel
theorem dX3_reckonAll_67 : decode cX3_reckonAll 67 = .ok (.getfield 52, 3) := by decide +kernel
theorem dX3_reckonAll_70 : decode cX3_reckonAll 70 = .ok (.if_icmp .ge 17, 3) := by decide +kernel
theorem dX3_reckonAll_73 : decode cX3_reckonAll 73 = .ok (.aload_n 0, 1) := by decide +kernel
theorem dX3_reckonAll_74 : decode cX3_reckonAll 74 = .ok (.aload_n 1, 1) := by decide +kernel
theorem dX3_reckonAll_75 : decode cX3_reckonAll 75 = .ok (.aload_n 2, 1) := by decide +kernel
theorem dX3_reckonAll_76 : decode cX3_reckonAll 76 = .ok (.iload 4, 2) := by decide +kernel
theorem dX3_reckonAll_78 : decode cX3_reckonAll 78 = .ok (.invokevirtual 57, 3) := by decide +kernel
theorem dX3_reckonAll_81 : decode cX3_reckonAll 81 = .ok (.iinc 4 1, 3) := by decide +kernel
theorem dX3_reckonAll_84 : decode cX3_reckonAll 84 = .ok (.goto (-20), 3) := by decide +kernel
theorem dX3_reckonAll_87 : decode cX3_reckonAll 87 = .ok (.iconst 0, 1) := by decide +kernel
theorem dX3_reckonAll_88 : decode cX3_reckonAll 88 = .ok (.istore 4, 2) := by decide +kernel
theorem dX3_reckonAll_90 : decode cX3_reckonAll 90 = .ok (.iload 4, 2) := by decide +kernel
theorem dX3_reckonAll_92 : decode cX3_reckonAll 92 = .ok (.aload_n 1, 1) := by decide +kernel
theorem dX3_reckonAll_93 : decode cX3_reckonAll 93 = .ok (.getfield 61, 3) := by decide +kernel
theorem dX3_reckonAll_96 : decode cX3_reckonAll 96 = .ok (.if_icmp .ge 16, 3) := by decide +kernel
theorem dX3_reckonAll_99 : decode cX3_reckonAll 99 = .ok (.aload_n 0, 1) := by decide +kernel
theorem dX3_reckonAll_100 : decode cX3_reckonAll 100 = .ok (.aload_n 1, 1) := by decide +kernel
theorem dX3_reckonAll_101 : decode cX3_reckonAll 101 = .ok (.iload 4, 2) := by decide +kernel
theorem dX3_reckonAll_103 : decode cX3_reckonAll 103 = .ok (.invokevirtual 64, 3) := by decide +kernel
theorem dX3_reckonAll_106 : decode cX3_reckonAll 106 = .ok (.iinc 4 1, 3) := by decide +kernel
theorem dX3_reckonAll_109 : decode cX3_reckonAll 109 = .ok (.goto (-19), 3) := by decide +kernel
theorem dX3_reckonAll_112 : decode cX3_reckonAll 112 = .ok (.aload_n 0, 1) := by decide +kernel
theorem dX3_reckonAll_113 : decode cX3_reckonAll 113 = .ok (.getfield 26, 3) := by decide +kernel
theorem dX3_reckonAll_116 : decode cX3_reckonAll 116 = .ok (.aload_n 1, 1) := by decide +kernel
theorem dX3_reckonAll_117 : decode cX3_reckonAll 117 = .ok (.getfield 61, 3) := by decide +kernel
theorem dX3_reckonAll_120 : decode cX3_reckonAll 120 = .ok (.aload_n 0, 1) := by decide +kernel
theorem dX3_reckonAll_121 : decode cX3_reckonAll 121 = .ok (.getfield 29, 3) := by decide +kernel
theorem dX3_reckonAll_124 : decode cX3_reckonAll 124 = .ok (.iconst 3, 1) := by decide +kernel
theorem dX3_reckonAll_125 : decode cX3_reckonAll 125 = .ok (.iaload, 1) := by decide +kernel
theorem dX3_reckonAll_126 : decode cX3_reckonAll 126 = .ok (.aload_n 0, 1) := by decide +kernel
theorem dX3_reckonAll_127 : decode cX3_reckonAll 127 = .ok (.getfield 29, 3) := by decide +kernel
theorem dX3_reckonAll_130 : decode cX3_reckonAll 130 = .ok (.iconst 4, 1) := by decide +kernel
theorem dX3_reckonAll_131 : decode cX3_reckonAll 131 = .ok (.iaload, 1) := by decide +kernel
theorem dX3_reckonAll_132 : decode cX3_reckonAll 132 = .ok (.isub, 1) := by decide +kernel
theorem dX3_reckonAll_133 : decode cX3_reckonAll 133 = .ok (.iastore, 1) := by decide +kernel
theorem dX3_reckonAll_134 : decode cX3_reckonAll 134 = .ok (.aload_n 0, 1) := by decide +kernel
theorem dX3_reckonAll_135 : decode cX3_reckonAll 135 = .ok (.aload_n 1, 1) := by decide +kernel
theorem dX3_reckonAll_136 : decode cX3_reckonAll 136 = .ok (.getfield 61, 3) := by decide +kernel
theorem dX3_reckonAll_139 : decode cX3_reckonAll 139 = .ok (.invokevirtual 68, 3) := by decide +kernel
theorem dX3_reckonAll_142 : decode cX3_reckonAll 142 = .ok (.aload_n 0, 1) := by decide +kernel
theorem dX3_reckonAll_143 : decode cX3_reckonAll 143 = .ok (.iconst 1, 1) := by decide +kernel
theorem dX3_reckonAll_144 : decode cX3_reckonAll 144 = .ok (.putfield 72, 3) := by decide +kernel
theorem dX3_reckonAll_147 : decode cX3_reckonAll 147 = .ok (.return_, 1) := by decide +kernel
theorem dX3_clear_0 : decode cX3_clear 0 = .ok (.iconst 0, 1) := by decide +kernel
theorem dX3_clear_1 : decode cX3_clear 1 = .ok (.istore_n 1, 1) := by decide +kernel
theorem dX3_clear_2 : decode cX3_clear 2 = .ok (.iload_n 1, 1) := by decide +kernel
theorem dX3_clear_3 : decode cX3_clear 3 = .ok (.bipush 12, 2) := by decide +kernel
theorem dX3_clear_5 : decode cX3_clear 5 = .ok (.if_icmp .ge 18, 3) := by decide +kernel
theorem dX3_clear_8 : decode cX3_clear 8 = .ok (.aload_n 0, 1) := by decide +kernel
theorem dX3_clear_9 : decode cX3_clear 9 = .ok (.getfield 11, 3) := by decide +kernel
theorem dX3_clear_12 : decode cX3_clear 12 = .ok (.iload_n 1, 1) := by decide +kernel
theorem dX3_clear_13 : decode cX3_clear 13 = .ok (.aaload, 1) := by decide +kernel
theorem dX3_clear_14 : decode cX3_clear 14 = .ok (.invokestatic 76, 3) := by decide +kernel
theorem dX3_clear_17 : decode cX3_clear 17 = .ok (.iinc 1 1, 3) := by decide +kernel
theorem dX3_clear_20 : decode cX3_clear 20 = .ok (.goto (-18), 3) := by decide +kernel
theorem dX3_clear_23 : decode cX3_clear 23 = .ok (.iconst 0, 1) := by decide +kernel
theorem dX3_clear_24 : decode cX3_clear 24 = .ok (.istore_n 1, 1) := by decide +kernel
theorem dX3_clear_25 : decode cX3_clear 25 = .ok (.iload_n 1, 1) := by decide +kernel
theorem dX3_clear_26 : decode cX3_clear 26 = .ok (.iconst 4, 1) := by decide +kernel
theorem dX3_clear_27 : decode cX3_clear 27 = .ok (.if_icmp .ge 18, 3) := by decide +kernel
theorem dX3_clear_30 : decode cX3_clear 30 = .ok (.aload_n 0, 1) := by decide +kernel
theorem dX3_clear_31 : decode cX3_clear 31 = .ok (.getfield 16, 3) := by decide +kernel
theorem dX3_clear_34 : decode cX3_clear 34 = .ok (.iload_n 1, 1) := by decide +kernel
theorem dX3_clear_35 : decode cX3_clear 35 = .ok (.aaload, 1) := by decide +kernel
theorem dX3_clear_36 : decode cX3_clear 36 = .ok (.invokestatic 76, 3) := by decide +kernel
theorem dX3_clear_39 : decode cX3_clear 39 = .ok (.iinc 1 1, 3) := by decide +kernel
theorem dX3_clear_42 : decode cX3_clear 42 = .ok (.goto (-17), 3) := by decide +kernel
theorem dX3_clear_45 : decode cX3_clear 45 = .ok (.iconst 0, 1) := by decide +kernel
theorem dX3_clear_46 : decode cX3_clear 46 = .ok (.istore_n 1, 1) := by decide +kernel
theorem dX3_clear_47 : decode cX3_clear 47 = .ok (.iload_n 1, 1) := by decide +kernel
theorem dX3_clear_48 : decode cX3_clear 48 = .ok (.bipush 24, 2) := by decide +kernel
theorem dX3_clear_50 : decode cX3_clear 50 = .ok (.if_icmp .ge 18, 3) := by decide +kernel
theorem dX3_clear_53 : decode cX3_clear 53 = .ok (.aload_n 0, 1) := by decide +kernel
theorem dX3_clear_54 : decode cX3_clear 54 = .ok (.getfield 19, 3) := by decide +kernel
theorem dX3_clear_57 : decode cX3_clear 57 = .ok (.iload_n 1, 1) := by decide +kernel
theorem dX3_clear_58 : decode cX3_clear 58 = .ok (.aaload, 1) := by decide +kernel
theorem dX3_clear_59 : decode cX3_clear 59 = .ok (.invokestatic 76, 3) := by decide +kernel
theorem dX3_clear_62 : decode cX3_clear 62 = .ok (.iinc 1 1, 3) := by decide +kernel
theorem dX3_clear_65 : decode cX3_clear 65 = .ok (.goto (-18), 3) := by decide +kernel
theorem dX3_clear_68 : decode cX3_clear 68 = .ok (.aload_n 0, 1) := by decide +kernel
theorem dX3_clear_69 : decode cX3_clear 69 = .ok (.getfield 22, 3) := by decide +kernel
theorem dX3_clear_72 : decode cX3_clear 72 = .ok (.invokestatic 76, 3) := by decide +kernel
theorem dX3_clear_75 : decode cX3_clear 75 = .ok (.aload_n 0, 1) := by decide +kernel
theorem dX3_clear_76 : decode cX3_clear 76 = .ok (.getfield 29, 3) := by decide +kernel
theorem dX3_clear_79 : decode cX3_clear 79 = .ok (.invokestatic 76, 3) := by decide +kernel
theorem dX3_clear_82 : decode cX3_clear 82 = .ok (.return_, 1) := by decide +kernel
theorem dX3_clearRow_0 : decode cX3_clearRow 0 = .ok (.iconst 0, 1) := by decide +kernel
theorem dX3_clearRow_1 : decode cX3_clearRow 1 = .ok (.istore_n 1, 1) := by decide +kernel
theorem dX3_clearRow_2 : decode cX3_clearRow 2 = .ok (.iload_n 1, 1) := by decide +kernel
theorem dX3_clearRow_3 : decode cX3_clearRow 3 = .ok (.aload_n 0, 1) := by decide +kernel
theorem dX3_clearRow_4 : decode cX3_clearRow 4 = .ok (.arraylength, 1) := by decide +kernel
theorem dX3_clearRow_5 : decode cX3_clearRow 5 = .ok (.if_icmp .ge 13, 3) := by decide +kernel
theorem dX3_clearRow_8 : decode cX3_clearRow 8 = .ok (.aload_n 0, 1) := by decide +kernel
theorem dX3_clearRow_9 : decode cX3_clearRow 9 = .ok (.iload_n 1, 1) := by decide +kernel
theorem dX3_clearRow_10 : decode cX3_clearRow 10 = .ok (.iconst 0, 1) := by decide +kernel
theorem dX3_clearRow_11 : decode cX3_clearRow 11 = .ok (.iastore, 1) := by decide +kernel
theorem dX3_clearRow_12 : decode cX3_clearRow 12 = .ok (.iinc 1 1, 3) := by decide +kernel
theorem dX3_clearRow_15 : decode cX3_clearRow 15 = .ok (.goto (-13), 3) := by decide +kernel
theorem dX3_clearRow_18 : decode cX3_clearRow 18 = .ok (.return_, 1) := by decide +kernel
theorem dX3_enterTie_0 : decode cX3_enterTie 0 = .ok (.aload_n 0, 1) := by decide +kernel
theorem dX3_enterTie_1 : decode cX3_enterTie 1 = .ok (.getfield 16, 3) := by decide +kernel
theorem dX3_enterTie_4 : decode cX3_enterTie 4 = .ok (.aload_n 1, 1) := by decide +kernel
theorem dX3_enterTie_5 : decode cX3_enterTie 5 = .ok (.getfield 80, 3) := by decide +kernel
theorem dX3_enterTie_8 : decode cX3_enterTie 8 = .ok (.iload_n 2, 1) := by decide +kernel
theorem dX3_enterTie_9 : decode cX3_enterTie 9 = .ok (.iaload, 1) := by decide +kernel
theorem dX3_enterTie_10 : decode cX3_enterTie 10 = .ok (.aaload, 1) := by decide +kernel
theorem dX3_enterTie_11 : decode cX3_enterTie 11 = .ok (.iconst 2, 1) := by decide +kernel
theorem dX3_enterTie_12 : decode cX3_enterTie 12 = .ok (.dup2, 1) := by decide +kernel
theorem dX3_enterTie_13 : decode cX3_enterTie 13 = .ok (.iaload, 1) := by decide +kernel
theorem dX3_enterTie_14 : decode cX3_enterTie 14 = .ok (.iconst 1, 1) := by decide +kernel
theorem dX3_enterTie_15 : decode cX3_enterTie 15 = .ok (.iadd, 1) := by decide +kernel
theorem dX3_enterTie_16 : decode cX3_enterTie 16 = .ok (.iastore, 1) := by decide +kernel
theorem dX3_enterTie_17 : decode cX3_enterTie 17 = .ok (.aload_n 0, 1) := by decide +kernel
theorem dX3_enterTie_18 : decode cX3_enterTie 18 = .ok (.getfield 19, 3) := by decide +kernel
theorem dX3_enterTie_21 : decode cX3_enterTie 21 = .ok (.aload_n 1, 1) := by decide +kernel
theorem dX3_enterTie_22 : decode cX3_enterTie 22 = .ok (.getfield 80, 3) := by decide +kernel
theorem dX3_enterTie_25 : decode cX3_enterTie 25 = .ok (.iload_n 2, 1) := by decide +kernel
theorem dX3_enterTie_26 : decode cX3_enterTie 26 = .ok (.iaload, 1) := by decide +kernel
theorem dX3_enterTie_27 : decode cX3_enterTie 27 = .ok (.bipush 6, 2) := by decide +kernel
theorem dX3_enterTie_29 : decode cX3_enterTie 29 = .ok (.imul, 1) := by decide +kernel
theorem dX3_enterTie_30 : decode cX3_enterTie 30 = .ok (.aload_n 1, 1) := by decide +kernel
theorem dX3_enterTie_31 : decode cX3_enterTie 31 = .ok (.getfield 83, 3) := by decide +kernel
theorem dX3_enterTie_34 : decode cX3_enterTie 34 = .ok (.iload_n 2, 1) := by decide +kernel
theorem dX3_enterTie_35 : decode cX3_enterTie 35 = .ok (.iaload, 1) := by decide +kernel
theorem dX3_enterTie_36 : decode cX3_enterTie 36 = .ok (.iadd, 1) := by decide +kernel
theorem dX3_enterTie_37 : decode cX3_enterTie 37 = .ok (.aaload, 1) := by decide +kernel
theorem dX3_enterTie_38 : decode cX3_enterTie 38 = .ok (.bipush 6, 2) := by decide +kernel
theorem dX3_enterTie_40 : decode cX3_enterTie 40 = .ok (.dup2, 1) := by decide +kernel
theorem dX3_enterTie_41 : decode cX3_enterTie 41 = .ok (.iaload, 1) := by decide +kernel
theorem dX3_enterTie_42 : decode cX3_enterTie 42 = .ok (.iconst 1, 1) := by decide +kernel
theorem dX3_enterTie_43 : decode cX3_enterTie 43 = .ok (.iadd, 1) := by decide +kernel
theorem dX3_enterTie_44 : decode cX3_enterTie 44 = .ok (.iastore, 1) := by decide +kernel
theorem dX3_enterTie_45 : decode cX3_enterTie 45 = .ok (.aload_n 1, 1) := by decide +kernel
theorem dX3_enterTie_46 : decode cX3_enterTie 46 = .ok (.iload_n 2, 1) := by decide +kernel
theorem dX3_enterTie_47 : decode cX3_enterTie 47 = .ok (.invokevirtual 86, 3) := by decide +kernel
theorem dX3_enterTie_50 : decode cX3_enterTie 50 = .ok (.ifCond .eq 20, 3) := by decide +kernel
theorem dX3_enterTie_53 : decode cX3_enterTie 53 = .ok (.aload_n 0, 1) := by decide +kernel
theorem dX3_enterTie_54 : decode cX3_enterTie 54 = .ok (.getfield 11, 3) := by decide +kernel
theorem dX3_enterTie_57 : decode cX3_enterTie 57 = .ok (.aload_n 1, 1) := by decide +kernel
theorem dX3_enterTie_58 : decode cX3_enterTie 58 = .ok (.iload_n 2, 1) := by decide +kernel
theorem dX3_enterTie_59 : decode cX3_enterTie 59 = .ok (.invokevirtual 90, 3) := by decide +kernel
theorem dX3_enterTie_62 : decode cX3_enterTie 62 = .ok (.aaload, 1) := by decide +kernel
theorem dX3_enterTie_63 : decode cX3_enterTie 63 = .ok (.bipush 11, 2) := by decide +kernel
theorem dX3_enterTie_65 : decode cX3_enterTie 65 = .ok (.dup2, 1) := by decide +kernel
theorem dX3_enterTie_66 : decode cX3_enterTie 66 = .ok (.iaload, 1) := by decide +kernel
theorem dX3_enterTie_67 : decode cX3_enterTie 67 = .ok (.iconst 1, 1) := by decide +kernel
theorem dX3_enterTie_68 : decode cX3_enterTie 68 = .ok (.iadd, 1) := by decide +kernel
theorem dX3_enterTie_69 : decode cX3_enterTie 69 = .ok (.iastore, 1) := by decide +kernel
theorem dX3_enterTie_70 : decode cX3_enterTie 70 = .ok (.return_, 1) := by decide +kernel
theorem dX3_enterGame_0 : decode cX3_enterGame 0 = .ok (.aload_n 2, 1) := by decide +kernel
theorem dX3_enterGame_1 : decode cX3_enterGame 1 = .ok (.getfield 80, 3) := by decide +kernel
theorem dX3_enterGame_4 : decode cX3_enterGame 4 = .ok (.iload 4, 2) := by decide +kernel
theorem dX3_enterGame_6 : decode cX3_enterGame 6 = .ok (.iaload, 1) := by decide +kernel
theorem dX3_enterGame_7 : decode cX3_enterGame 7 = .ok (.istore 6, 2) := by decide +kernel
theorem dX3_enterGame_9 : decode cX3_enterGame 9 = .ok (.aload_n 2, 1) := by decide +kernel
theorem dX3_enterGame_10 : decode cX3_enterGame 10 = .ok (.getfield 83, 3) := by decide +kernel
theorem dX3_enterGame_13 : decode cX3_enterGame 13 = .ok (.iload 4, 2) := by decide +kernel
theorem dX3_enterGame_15 : decode cX3_enterGame 15 = .ok (.iaload, 1) := by decide +kernel
theorem dX3_enterGame_16 : decode cX3_enterGame 16 = .ok (.istore 7, 2) := by decide +kernel
theorem dX3_enterGame_18 : decode cX3_enterGame 18 = .ok (.aload_n 2, 1) := by decide +kernel
theorem dX3_enterGame_19 : decode cX3_enterGame 19 = .ok (.iload 4, 2) := by decide +kernel
theorem dX3_enterGame_21 : decode cX3_enterGame 21 = .ok (.iload 5, 2) := by decide +kernel
theorem dX3_enterGame_23 : decode cX3_enterGame 23 = .ok (.invokevirtual 94, 3) := by decide +kernel
theorem dX3_enterGame_26 : decode cX3_enterGame 26 = .ok (.istore 8, 2) := by decide +kernel
theorem dX3_enterGame_28 : decode cX3_enterGame 28 = .ok (.aload_n 2, 1) := by decide +kernel
theorem dX3_enterGame_29 : decode cX3_enterGame 29 = .ok (.iload 4, 2) := by decide +kernel
theorem dX3_enterGame_31 : decode cX3_enterGame 31 = .ok (.iload 5, 2) := by decide +kernel
theorem dX3_enterGame_33 : decode cX3_enterGame 33 = .ok (.invokevirtual 98, 3) := by decide +kernel
theorem dX3_enterGame_36 : decode cX3_enterGame 36 = .ok (.istore 9, 2) := by decide +kernel
theorem dX3_enterGame_38 : decode cX3_enterGame 38 = .ok (.aload_n 2, 1) := by decide +kernel
theorem dX3_enterGame_39 : decode cX3_enterGame 39 = .ok (.getfield 101, 3) := by decide +kernel
theorem dX3_enterGame_42 : decode cX3_enterGame 42 = .ok (.iload 4, 2) := by decide +kernel
theorem dX3_enterGame_44 : decode cX3_enterGame 44 = .ok (.iconst 4, 1) := by decide +kernel
theorem dX3_enterGame_45 : decode cX3_enterGame 45 = .ok (.imul, 1) := by decide +kernel
theorem dX3_enterGame_46 : decode cX3_enterGame 46 = .ok (.iload 5, 2) := by decide +kernel
theorem dX3_enterGame_48 : decode cX3_enterGame 48 = .ok (.iadd, 1) := by decide +kernel
theorem dX3_enterGame_49 : decode cX3_enterGame 49 = .ok (.iaload, 1) := by decide +kernel
theorem dX3_enterGame_50 : decode cX3_enterGame 50 = .ok (.istore 10, 2) := by decide +kernel
theorem dX3_enterGame_52 : decode cX3_enterGame 52 = .ok (.aload_n 3, 1) := by decide +kernel
theorem dX3_enterGame_53 : decode cX3_enterGame 53 = .ok (.aload_n 1, 1) := by decide +kernel
theorem dX3_enterGame_54 : decode cX3_enterGame 54 = .ok (.iload 6, 2) := by decide +kernel
theorem dX3_enterGame_56 : decode cX3_enterGame 56 = .ok (.iload 7, 2) := by decide +kernel
theorem dX3_enterGame_58 : decode cX3_enterGame 58 = .ok (.iload 5, 2) := by decide +kernel
theorem dX3_enterGame_60 : decode cX3_enterGame 60 = .ok (.iload 8, 2) := by decide +kernel
theorem dX3_enterGame_62 : decode cX3_enterGame 62 = .ok (.iload 9, 2) := by decide +kernel
theorem dX3_enterGame_64 : decode cX3_enterGame 64 = .ok (.iload 10, 2) := by decide +kernel
theorem dX3_enterGame_66 : decode cX3_enterGame 66 = .ok (.invokevirtual 104, 3) := by decide +kernel
theorem dX3_enterGame_69 : decode cX3_enterGame 69 = .ok (.aload_n 0, 1) := by decide +kernel
theorem dX3_enterGame_70 : decode cX3_enterGame 70 = .ok (.getfield 11, 3) := by decide +kernel
theorem dX3_enterGame_73 : decode cX3_enterGame 73 = .ok (.iload 8, 2) := by decide +kernel
theorem dX3_enterGame_75 : decode cX3_enterGame 75 = .ok (.aaload, 1) := by decide +kernel
theorem dX3_enterGame_76 : decode cX3_enterGame 76 = .ok (.bipush 10, 2) := by decide +kernel
theorem dX3_enterGame_78 : decode cX3_enterGame 78 = .ok (.dup2, 1) := by decide +kernel
theorem dX3_enterGame_79 : decode cX3_enterGame 79 = .ok (.iaload, 1) := by decide +kernel
theorem dX3_enterGame_80 : decode cX3_enterGame 80 = .ok (.iconst 1, 1) := by decide +kernel
theorem dX3_enterGame_81 : decode cX3_enterGame 81 = .ok (.iadd, 1) := by decide +kernel
theorem dX3_enterGame_82 : decode cX3_enterGame 82 = .ok (.iastore, 1) := by decide +kernel
theorem dX3_enterGame_83 : decode cX3_enterGame 83 = .ok (.aload_n 0, 1) := by decide +kernel
theorem dX3_enterGame_84 : decode cX3_enterGame 84 = .ok (.getfield 11, 3) := by decide +kernel
theorem dX3_enterGame_87 : decode cX3_enterGame 87 = .ok (.iload 9, 2) := by decide +kernel
theorem dX3_enterGame_89 : decode cX3_enterGame 89 = .ok (.aaload, 1) := by decide +kernel
theorem dX3_enterGame_90 : decode cX3_enterGame 90 = .ok (.bipush 10, 2) := by decide +kernel
theorem dX3_enterGame_92 : decode cX3_enterGame 92 = .ok (.dup2, 1) := by decide +kernel
theorem dX3_enterGame_93 : decode cX3_enterGame 93 = .ok (.iaload, 1) := by decide +kernel
theorem dX3_enterGame_94 : decode cX3_enterGame 94 = .ok (.iconst 1, 1) := by decide +kernel
theorem dX3_enterGame_95 : decode cX3_enterGame 95 = .ok (.iadd, 1) := by decide +kernel
theorem dX3_enterGame_96 : decode cX3_enterGame 96 = .ok (.iastore, 1) := by decide +kernel
theorem dX3_enterGame_97 : decode cX3_enterGame 97 = .ok (.aload_n 0, 1) := by decide +kernel
theorem dX3_enterGame_98 : decode cX3_enterGame 98 = .ok (.getfield 11, 3) := by decide +kernel
theorem dX3_enterGame_101 : decode cX3_enterGame 101 = .ok (.iload 8, 2) := by decide +kernel
theorem dX3_enterGame_103 : decode cX3_enterGame 103 = .ok (.aaload, 1) := by decide +kernel
theorem dX3_enterGame_104 : decode cX3_enterGame 104 = .ok (.iconst 4, 1) := by decide +kernel
theorem dX3_enterGame_105 : decode cX3_enterGame 105 = .ok (.dup2, 1) := by decide +kernel
theorem dX3_enterGame_106 : decode cX3_enterGame 106 = .ok (.iaload, 1) := by decide +kernel
theorem dX3_enterGame_107 : decode cX3_enterGame 107 = .ok (.aload_n 3, 1) := by decide +kernel
theorem dX3_enterGame_108 : decode cX3_enterGame 108 = .ok (.getfield 110, 3) := by decide +kernel
theorem dX3_enterGame_111 : decode cX3_enterGame 111 = .ok (.iadd, 1) := by decide +kernel
theorem dX3_enterGame_112 : decode cX3_enterGame 112 = .ok (.iastore, 1) := by decide +kernel
theorem dX3_enterGame_113 : decode cX3_enterGame 113 = .ok (.aload_n 0, 1) := by decide +kernel
theorem dX3_enterGame_114 : decode cX3_enterGame 114 = .ok (.getfield 11, 3) := by decide +kernel
theorem dX3_enterGame_117 : decode cX3_enterGame 117 = .ok (.iload 9, 2) := by decide +kernel
theorem dX3_enterGame_119 : decode cX3_enterGame 119 = .ok (.aaload, 1) := by decide +kernel
theorem dX3_enterGame_120 : decode cX3_enterGame 120 = .ok (.iconst 4, 1) := by decide +kernel
theorem dX3_enterGame_121 : decode cX3_enterGame 121 = .ok (.dup2, 1) := by decide +kernel
theorem dX3_enterGame_122 : decode cX3_enterGame 122 = .ok (.iaload, 1) := by decide +kernel
theorem dX3_enterGame_123 : decode cX3_enterGame 123 = .ok (.aload_n 3, 1) := by decide +kernel
theorem dX3_enterGame_124 : decode cX3_enterGame 124 = .ok (.getfield 113, 3) := by decide +kernel
theorem dX3_enterGame_127 : decode cX3_enterGame 127 = .ok (.iadd, 1) := by decide +kernel
theorem dX3_enterGame_128 : decode cX3_enterGame 128 = .ok (.iastore, 1) := by decide +kernel
theorem dX3_enterGame_129 : decode cX3_enterGame 129 = .ok (.aload_n 0, 1) := by decide +kernel
theorem dX3_enterGame_130 : decode cX3_enterGame 130 = .ok (.getfield 11, 3) := by decide +kernel
theorem dX3_enterGame_133 : decode cX3_enterGame 133 = .ok (.iload 8, 2) := by decide +kernel
theorem dX3_enterGame_135 : decode cX3_enterGame 135 = .ok (.aaload, 1) := by decide +kernel
theorem dX3_enterGame_136 : decode cX3_enterGame 136 = .ok (.iconst 5, 1) := by decide +kernel
theorem dX3_enterGame_137 : decode cX3_enterGame 137 = .ok (.dup2, 1) := by decide +kernel
theorem dX3_enterGame_138 : decode cX3_enterGame 138 = .ok (.iaload, 1) := by decide +kernel
theorem dX3_enterGame_139 : decode cX3_enterGame 139 = .ok (.aload_n 3, 1) := by decide +kernel
theorem dX3_enterGame_140 : decode cX3_enterGame 140 = .ok (.getfield 116, 3) := by decide +kernel
theorem dX3_enterGame_143 : decode cX3_enterGame 143 = .ok (.iadd, 1) := by decide +kernel
theorem dX3_enterGame_144 : decode cX3_enterGame 144 = .ok (.iastore, 1) := by decide +kernel
theorem dX3_enterGame_145 : decode cX3_enterGame 145 = .ok (.aload_n 0, 1) := by decide +kernel
theorem dX3_enterGame_146 : decode cX3_enterGame 146 = .ok (.getfield 11, 3) := by decide +kernel
theorem dX3_enterGame_149 : decode cX3_enterGame 149 = .ok (.iload 9, 2) := by decide +kernel
theorem dX3_enterGame_151 : decode cX3_enterGame 151 = .ok (.aaload, 1) := by decide +kernel
theorem dX3_enterGame_152 : decode cX3_enterGame 152 = .ok (.bipush 6, 2) := by decide +kernel
theorem dX3_enterGame_154 : decode cX3_enterGame 154 = .ok (.dup2, 1) := by decide +kernel
theorem dX3_enterGame_155 : decode cX3_enterGame 155 = .ok (.iaload, 1) := by decide +kernel
theorem dX3_enterGame_156 : decode cX3_enterGame 156 = .ok (.aload_n 3, 1) := by decide +kernel
theorem dX3_enterGame_157 : decode cX3_enterGame 157 = .ok (.getfield 119, 3) := by decide +kernel
theorem dX3_enterGame_160 : decode cX3_enterGame 160 = .ok (.iadd, 1) := by decide +kernel
theorem dX3_enterGame_161 : decode cX3_enterGame 161 = .ok (.iastore, 1) := by decide +kernel
theorem dX3_enterGame_162 : decode cX3_enterGame 162 = .ok (.aload_n 0, 1) := by decide +kernel
theorem dX3_enterGame_163 : decode cX3_enterGame 163 = .ok (.getfield 22, 3) := by decide +kernel
theorem dX3_enterGame_166 : decode cX3_enterGame 166 = .ok (.iload 8, 2) := by decide +kernel
theorem dX3_enterGame_168 : decode cX3_enterGame 168 = .ok (.dup2, 1) := by decide +kernel
theorem dX3_enterGame_169 : decode cX3_enterGame 169 = .ok (.iaload, 1) := by decide +kernel
theorem dX3_enterGame_170 : decode cX3_enterGame 170 = .ok (.iload 10, 2) := by decide +kernel
theorem dX3_enterGame_172 : decode cX3_enterGame 172 = .ok (.iadd, 1) := by decide +kernel
theorem dX3_enterGame_173 : decode cX3_enterGame 173 = .ok (.iastore, 1) := by decide +kernel
theorem dX3_enterGame_174 : decode cX3_enterGame 174 = .ok (.aload_n 0, 1) := by decide +kernel
theorem dX3_enterGame_175 : decode cX3_enterGame 175 = .ok (.getfield 16, 3) := by decide +kernel
theorem dX3_enterGame_178 : decode cX3_enterGame 178 = .ok (.iload 6, 2) := by decide +kernel
theorem dX3_enterGame_180 : decode cX3_enterGame 180 = .ok (.aaload, 1) := by decide +kernel
theorem dX3_enterGame_181 : decode cX3_enterGame 181 = .ok (.iconst 1, 1) := by decide +kernel
theorem dX3_enterGame_182 : decode cX3_enterGame 182 = .ok (.dup2, 1) := by decide +kernel
theorem dX3_enterGame_183 : decode cX3_enterGame 183 = .ok (.iaload, 1) := by decide +kernel
theorem dX3_enterGame_184 : decode cX3_enterGame 184 = .ok (.iload 10, 2) := by decide +kernel
theorem dX3_enterGame_186 : decode cX3_enterGame 186 = .ok (.iadd, 1) := by decide +kernel
theorem dX3_enterGame_187 : decode cX3_enterGame 187 = .ok (.iastore, 1) := by decide +kernel
theorem dX3_enterGame_188 : decode cX3_enterGame 188 = .ok (.aload_n 0, 1) := by decide +kernel
theorem dX3_enterGame_189 : decode cX3_enterGame 189 = .ok (.getfield 19, 3) := by decide +kernel
theorem dX3_enterGame_192 : decode cX3_enterGame 192 = .ok (.iload 6, 2) := by decide +kernel
theorem dX3_enterGame_194 : decode cX3_enterGame 194 = .ok (.bipush 6, 2) := by decide +kernel
theorem dX3_enterGame_196 : decode cX3_enterGame 196 = .ok (.imul, 1) := by decide +kernel
theorem dX3_enterGame_197 : decode cX3_enterGame 197 = .ok (.iload 7, 2) := by decide +kernel
theorem dX3_enterGame_199 : decode cX3_enterGame 199 = .ok (.iadd, 1) := by decide +kernel
theorem dX3_enterGame_200 : decode cX3_enterGame 200 = .ok (.aaload, 1) := by decide +kernel
theorem dX3_enterGame_201 : decode cX3_enterGame 201 = .ok (.iconst 0, 1) := by decide +kernel
theorem dX3_enterGame_202 : decode cX3_enterGame 202 = .ok (.dup2, 1) := by decide +kernel
theorem dX3_enterGame_203 : decode cX3_enterGame 203 = .ok (.iaload, 1) := by decide +kernel
theorem dX3_enterGame_204 : decode cX3_enterGame 204 = .ok (.aload_n 3, 1) := by decide +kernel
theorem dX3_enterGame_205 : decode cX3_enterGame 205 = .ok (.getfield 122, 3) := by decide +kernel
theorem dX3_enterGame_208 : decode cX3_enterGame 208 = .ok (.iadd, 1) := by decide +kernel
theorem dX3_enterGame_209 : decode cX3_enterGame 209 = .ok (.iastore, 1) := by decide +kernel
theorem dX3_enterGame_210 : decode cX3_enterGame 210 = .ok (.aload_n 0, 1) := by decide +kernel
theorem dX3_enterGame_211 : decode cX3_enterGame 211 = .ok (.getfield 29, 3) := by decide +kernel
theorem dX3_enterGame_214 : decode cX3_enterGame 214 = .ok (.iconst 0, 1) := by decide +kernel
theorem dX3_enterGame_215 : decode cX3_enterGame 215 = .ok (.dup2, 1) := by decide +kernel
theorem dX3_enterGame_216 : decode cX3_enterGame 216 = .ok (.iaload, 1) := by decide +kernel
theorem dX3_enterGame_217 : decode cX3_enterGame 217 = .ok (.iload 10, 2) := by decide +kernel
theorem dX3_enterGame_219 : decode cX3_enterGame 219 = .ok (.iadd, 1) := by decide +kernel
theorem dX3_enterGame_220 : decode cX3_enterGame 220 = .ok (.iastore, 1) := by decide +kernel
theorem dX3_enterGame_221 : decode cX3_enterGame 221 = .ok (.aload_n 0, 1) := by decide +kernel
theorem dX3_enterGame_222 : decode cX3_enterGame 222 = .ok (.getfield 29, 3) := by decide +kernel
theorem dX3_enterGame_225 : decode cX3_enterGame 225 = .ok (.iconst 1, 1) := by decide +kernel
theorem dX3_enterGame_226 : decode cX3_enterGame 226 = .ok (.dup2, 1) := by decide +kernel
theorem dX3_enterGame_227 : decode cX3_enterGame 227 = .ok (.iaload, 1) := by decide +kernel
theorem dX3_enterGame_228 : decode cX3_enterGame 228 = .ok (.aload_n 3, 1) := by decide +kernel
theorem dX3_enterGame_229 : decode cX3_enterGame 229 = .ok (.getfield 110, 3) := by decide +kernel
theorem dX3_enterGame_232 : decode cX3_enterGame 232 = .ok (.aload_n 3, 1) := by decide +kernel
theorem dX3_enterGame_233 : decode cX3_enterGame 233 = .ok (.getfield 113, 3) := by decide +kernel
theorem dX3_enterGame_236 : decode cX3_enterGame 236 = .ok (.iadd, 1) := by decide +kernel
theorem dX3_enterGame_237 : decode cX3_enterGame 237 = .ok (.iadd, 1) := by decide +kernel
theorem dX3_enterGame_238 : decode cX3_enterGame 238 = .ok (.iastore, 1) := by decide +kernel
theorem dX3_enterGame_239 : decode cX3_enterGame 239 = .ok (.aload_n 0, 1) := by decide +kernel
theorem dX3_enterGame_240 : decode cX3_enterGame 240 = .ok (.getfield 29, 3) := by decide +kernel
theorem dX3_enterGame_243 : decode cX3_enterGame 243 = .ok (.iconst 2, 1) := by decide +kernel
theorem dX3_enterGame_244 : decode cX3_enterGame 244 = .ok (.dup2, 1) := by decide +kernel
theorem dX3_enterGame_245 : decode cX3_enterGame 245 = .ok (.iaload, 1) := by decide +kernel
theorem dX3_enterGame_246 : decode cX3_enterGame 246 = .ok (.aload_n 3, 1) := by decide +kernel
theorem dX3_enterGame_247 : decode cX3_enterGame 247 = .ok (.getfield 116, 3) := by decide +kernel
theorem dX3_enterGame_250 : decode cX3_enterGame 250 = .ok (.aload_n 3, 1) := by decide +kernel
theorem dX3_enterGame_251 : decode cX3_enterGame 251 = .ok (.getfield 119, 3) := by decide +kernel
theorem dX3_enterGame_254 : decode cX3_enterGame 254 = .ok (.iadd, 1) := by decide +kernel
theorem dX3_enterGame_255 : decode cX3_enterGame 255 = .ok (.iadd, 1) := by decide +kernel
theorem dX3_enterGame_256 : decode cX3_enterGame 256 = .ok (.iastore, 1) := by decide +kernel
theorem dX3_enterGame_257 : decode cX3_enterGame 257 = .ok (.aload_n 0, 1) := by decide +kernel
theorem dX3_enterGame_258 : decode cX3_enterGame 258 = .ok (.getfield 29, 3) := by decide +kernel
theorem dX3_enterGame_261 : decode cX3_enterGame 261 = .ok (.iconst 3, 1) := by decide +kernel
theorem dX3_enterGame_262 : decode cX3_enterGame 262 = .ok (.dup2, 1) := by decide +kernel
theorem dX3_enterGame_263 : decode cX3_enterGame 263 = .ok (.iaload, 1) := by decide +kernel
theorem dX3_enterGame_264 : decode cX3_enterGame 264 = .ok (.aload_n 3, 1) := by decide +kernel
theorem dX3_enterGame_265 : decode cX3_enterGame 265 = .ok (.getfield 122, 3) := by decide +kernel
theorem dX3_enterGame_268 : decode cX3_enterGame 268 = .ok (.iadd, 1) := by decide +kernel
theorem dX3_enterGame_269 : decode cX3_enterGame 269 = .ok (.iastore, 1) := by decide +kernel
theorem dX3_enterGame_270 : decode cX3_enterGame 270 = .ok (.return_, 1) := by decide +kernel
theorem dX3_settlePools_0 : decode cX3_settlePools 0 = .ok (.iconst 0, 1) := by decide +kernel
theorem dX3_settlePools_1 : decode cX3_settlePools 1 = .ok (.istore 4, 2) := by decide +kernel
theorem dX3_settlePools_3 : decode cX3_settlePools 3 = .ok (.iconst 0, 1) := by decide +kernel
theorem dX3_settlePools_4 : decode cX3_settlePools 4 = .ok (.istore 5, 2) := by decide +kernel
theorem dX3_settlePools_6 : decode cX3_settlePools 6 = .ok (.iload 5, 2) := by decide +kernel
theorem dX3_settlePools_8 : decode cX3_settlePools 8 = .ok (.bipush 6, 2) := by decide +kernel
theorem dX3_settlePools_10 : decode cX3_settlePools 10 = .ok (.if_icmp .ge 135, 3) := by decide +kernel
theorem dX3_settlePools_13 : decode cX3_settlePools 13 = .ok (.aload_n 0, 1) := by decide +kernel
theorem dX3_settlePools_14 : decode cX3_settlePools 14 = .ok (.getfield 19, 3) := by decide +kernel
theorem dX3_settlePools_17 : decode cX3_settlePools 17 = .ok (.iload_n 3, 1) := by decide +kernel
theorem dX3_settlePools_18 : decode cX3_settlePools 18 = .ok (.bipush 6, 2) := by decide +kernel
theorem dX3_settlePools_20 : decode cX3_settlePools 20 = .ok (.imul, 1) := by decide +kernel
theorem dX3_settlePools_21 : decode cX3_settlePools 21 = .ok (.iload 5, 2) := by decide +kernel
theorem dX3_settlePools_23 : decode cX3_settlePools 23 = .ok (.iadd, 1) := by decide +kernel
theorem dX3_settlePools_24 : decode cX3_settlePools 24 = .ok (.aaload, 1) := by decide +kernel
theorem dX3_settlePools_25 : decode cX3_settlePools 25 = .ok (.astore 6, 2) := by decide +kernel
theorem dX3_settlePools_27 : decode cX3_settlePools 27 = .ok (.aload 6, 2) := by decide +kernel
theorem dX3_settlePools_29 : decode cX3_settlePools 29 = .ok (.iconst 1, 1) := by decide +kernel
theorem dX3_settlePools_30 : decode cX3_settlePools 30 = .ok (.iload 4, 2) := by decide +kernel
theorem dX3_settlePools_32 : decode cX3_settlePools 32 = .ok (.iastore, 1) := by decide +kernel
theorem dX3_settlePools_33 : decode cX3_settlePools 33 = .ok (.aload 6, 2) := by decide +kernel
theorem dX3_settlePools_35 : decode cX3_settlePools 35 = .ok (.iconst 0, 1) := by decide +kernel
theorem dX3_settlePools_36 : decode cX3_settlePools 36 = .ok (.dup2, 1) := by decide +kernel
theorem dX3_settlePools_37 : decode cX3_settlePools 37 = .ok (.iaload, 1) := by decide +kernel
theorem dX3_settlePools_38 : decode cX3_settlePools 38 = .ok (.iload 4, 2) := by decide +kernel
theorem dX3_settlePools_40 : decode cX3_settlePools 40 = .ok (.iadd, 1) := by decide +kernel
theorem dX3_settlePools_41 : decode cX3_settlePools 41 = .ok (.iastore, 1) := by decide +kernel
theorem dX3_settlePools_42 : decode cX3_settlePools 42 = .ok (.aload 6, 2) := by decide +kernel
theorem dX3_settlePools_44 : decode cX3_settlePools 44 = .ok (.iconst 5, 1) := by decide +kernel
theorem dX3_settlePools_45 : decode cX3_settlePools 45 = .ok (.aload_n 1, 1) := by decide +kernel
theorem dX3_settlePools_46 : decode cX3_settlePools 46 = .ok (.getfield 125, 3) := by decide +kernel
theorem dX3_settlePools_49 : decode cX3_settlePools 49 = .ok (.iload_n 3, 1) := by decide +kernel
theorem dX3_settlePools_50 : decode cX3_settlePools 50 = .ok (.aaload, 1) := by decide +kernel
theorem dX3_settlePools_51 : decode cX3_settlePools 51 = .ok (.iload 5, 2) := by decide +kernel
theorem dX3_settlePools_53 : decode cX3_settlePools 53 = .ok (.iaload, 1) := by decide +kernel
theorem dX3_settlePools_54 : decode cX3_settlePools 54 = .ok (.iastore, 1) := by decide +kernel
theorem dX3_settlePools_55 : decode cX3_settlePools 55 = .ok (.iconst 0, 1) := by decide +kernel
theorem dX3_settlePools_56 : decode cX3_settlePools 56 = .ok (.istore 4, 2) := by decide +kernel
theorem dX3_settlePools_58 : decode cX3_settlePools 58 = .ok (.aload_n 2, 1) := by decide +kernel
theorem dX3_settlePools_59 : decode cX3_settlePools 59 = .ok (.iload_n 3, 1) := by decide +kernel
theorem dX3_settlePools_60 : decode cX3_settlePools 60 = .ok (.iload 5, 2) := by decide +kernel
theorem dX3_settlePools_62 : decode cX3_settlePools 62 = .ok (.invokevirtual 128, 3) := by decide +kernel
theorem dX3_settlePools_65 : decode cX3_settlePools 65 = .ok (.ifCond .eq 74, 3) := by decide +kernel
theorem dX3_settlePools_68 : decode cX3_settlePools 68 = .ok (.aload 6, 2) := by decide +kernel
theorem dX3_settlePools_70 : decode cX3_settlePools 70 = .ok (.iconst 4, 1) := by decide +kernel
theorem dX3_settlePools_71 : decode cX3_settlePools 71 = .ok (.iconst 1, 1) := by decide +kernel
theorem dX3_settlePools_72 : decode cX3_settlePools 72 = .ok (.iastore, 1) := by decide +kernel
theorem dX3_settlePools_73 : decode cX3_settlePools 73 = .ok (.aload 6, 2) := by decide +kernel
theorem dX3_settlePools_75 : decode cX3_settlePools 75 = .ok (.iconst 3, 1) := by decide +kernel
theorem dX3_settlePools_76 : decode cX3_settlePools 76 = .ok (.aload 6, 2) := by decide +kernel
theorem dX3_settlePools_78 : decode cX3_settlePools 78 = .ok (.iconst 5, 1) := by decide +kernel
theorem dX3_settlePools_79 : decode cX3_settlePools 79 = .ok (.iaload, 1) := by decide +kernel
theorem dX3_settlePools_80 : decode cX3_settlePools 80 = .ok (.aload 6, 2) := by decide +kernel
theorem dX3_settlePools_82 : decode cX3_settlePools 82 = .ok (.bipush 6, 2) := by decide +kernel
theorem dX3_settlePools_84 : decode cX3_settlePools 84 = .ok (.iaload, 1) := by decide +kernel
theorem dX3_settlePools_85 : decode cX3_settlePools 85 = .ok (.invokestatic 132, 3) := by decide +kernel
theorem dX3_settlePools_88 : decode cX3_settlePools 88 = .ok (.iastore, 1) := by decide +kernel
theorem dX3_settlePools_89 : decode cX3_settlePools 89 = .ok (.aload 6, 2) := by decide +kernel
theorem dX3_settlePools_91 : decode cX3_settlePools 91 = .ok (.iconst 2, 1) := by decide +kernel
theorem dX3_settlePools_92 : decode cX3_settlePools 92 = .ok (.aload 6, 2) := by decide +kernel
theorem dX3_settlePools_94 : decode cX3_settlePools 94 = .ok (.iconst 3, 1) := by decide +kernel
theorem dX3_settlePools_95 : decode cX3_settlePools 95 = .ok (.iaload, 1) := by decide +kernel
theorem dX3_settlePools_96 : decode cX3_settlePools 96 = .ok (.ifCond .le 15, 3) := by decide +kernel
theorem dX3_settlePools_99 : decode cX3_settlePools 99 = .ok (.aload 6, 2) := by decide +kernel
theorem dX3_settlePools_101 : decode cX3_settlePools 101 = .ok (.iconst 0, 1) := by decide +kernel
theorem dX3_settlePools_102 : decode cX3_settlePools 102 = .ok (.iaload, 1) := by decide +kernel
theorem dX3_settlePools_103 : decode cX3_settlePools 103 = .ok (.aload 6, 2) := by decide +kernel
theorem dX3_settlePools_105 : decode cX3_settlePools 105 = .ok (.iconst 3, 1) := by decide +kernel
theorem dX3_settlePools_106 : decode cX3_settlePools 106 = .ok (.iaload, 1) := by decide +kernel
theorem dX3_settlePools_107 : decode cX3_settlePools 107 = .ok (.idiv, 1) := by decide +kernel
theorem dX3_settlePools_108 : decode cX3_settlePools 108 = .ok (.goto 4, 3) := by decide +kernel
theorem dX3_settlePools_111 : decode cX3_settlePools 111 = .ok (.iconst 0, 1) := by decide +kernel
theorem dX3_settlePools_112 : decode cX3_settlePools 112 = .ok (.iastore, 1) := by decide +kernel
theorem dX3_settlePools_113 : decode cX3_settlePools 113 = .ok (.aload_n 0, 1) := by decide +kernel
theorem dX3_settlePools_114 : decode cX3_settlePools 114 = .ok (.aload_n 2, 1) := by decide +kernel
theorem dX3_settlePools_115 : decode cX3_settlePools 115 = .ok (.iload_n 3, 1) := by decide +kernel
theorem dX3_settlePools_116 : decode cX3_settlePools 116 = .ok (.iload 5, 2) := by decide +kernel
theorem dX3_settlePools_118 : decode cX3_settlePools 118 = .ok (.aload 6, 2) := by decide +kernel
theorem dX3_settlePools_120 : decode cX3_settlePools 120 = .ok (.invokevirtual 135, 3) := by decide +kernel
theorem dX3_settlePools_123 : decode cX3_settlePools 123 = .ok (.aload 6, 2) := by decide +kernel
theorem dX3_settlePools_125 : decode cX3_settlePools 125 = .ok (.iconst 0, 1) := by decide +kernel
theorem dX3_settlePools_126 : decode cX3_settlePools 126 = .ok (.iaload, 1) := by decide +kernel
theorem dX3_settlePools_127 : decode cX3_settlePools 127 = .ok (.aload 6, 2) := by decide +kernel
theorem dX3_settlePools_129 : decode cX3_settlePools 129 = .ok (.iconst 2, 1) := by decide +kernel
theorem dX3_settlePools_130 : decode cX3_settlePools 130 = .ok (.iaload, 1) := by decide +kernel
theorem dX3_settlePools_131 : decode cX3_settlePools 131 = .ok (.aload 6, 2) := by decide +kernel
theorem dX3_settlePools_133 : decode cX3_settlePools 133 = .ok (.iconst 3, 1) := by decide +kernel
theorem dX3_settlePools_134 : decode cX3_settlePools 134 = .ok (.iaload, 1) := by decide +kernel
theorem dX3_settlePools_135 : decode cX3_settlePools 135 = .ok (.imul, 1) := by decide +kernel
theorem dX3_settlePools_136 : decode cX3_settlePools 136 = .ok (.isub, 1) := by decide +kernel
theorem dX3_settlePools_137 : decode cX3_settlePools 137 = .ok (.istore 4, 2) := by decide +kernel
theorem dX3_settlePools_139 : decode cX3_settlePools 139 = .ok (.iinc 5 1, 3) := by decide +kernel
theorem dX3_settlePools_142 : decode cX3_settlePools 142 = .ok (.goto (-136), 3) := by decide +kernel
theorem dX3_settlePools_145 : decode cX3_settlePools 145 = .ok (.aload_n 0, 1) := by decide +kernel
theorem dX3_settlePools_146 : decode cX3_settlePools 146 = .ok (.getfield 16, 3) := by decide +kernel
theorem dX3_settlePools_149 : decode cX3_settlePools 149 = .ok (.iload_n 3, 1) := by decide +kernel
theorem dX3_settlePools_150 : decode cX3_settlePools 150 = .ok (.aaload, 1) := by decide +kernel
theorem dX3_settlePools_151 : decode cX3_settlePools 151 = .ok (.iconst 0, 1) := by decide +kernel
theorem dX3_settlePools_152 : decode cX3_settlePools 152 = .ok (.iload 4, 2) := by decide +kernel
theorem dX3_settlePools_154 : decode cX3_settlePools 154 = .ok (.iastore, 1) := by decide +kernel
theorem dX3_settlePools_155 : decode cX3_settlePools 155 = .ok (.aload_n 0, 1) := by decide +kernel
theorem dX3_settlePools_156 : decode cX3_settlePools 156 = .ok (.getfield 29, 3) := by decide +kernel
theorem dX3_settlePools_159 : decode cX3_settlePools 159 = .ok (.iconst 5, 1) := by decide +kernel
theorem dX3_settlePools_160 : decode cX3_settlePools 160 = .ok (.dup2, 1) := by decide +kernel
theorem dX3_settlePools_161 : decode cX3_settlePools 161 = .ok (.iaload, 1) := by decide +kernel
theorem dX3_settlePools_162 : decode cX3_settlePools 162 = .ok (.iload 4, 2) := by decide +kernel
theorem dX3_settlePools_164 : decode cX3_settlePools 164 = .ok (.iadd, 1) := by decide +kernel
theorem dX3_settlePools_165 : decode cX3_settlePools 165 = .ok (.iastore, 1) := by decide +kernel
theorem dX3_settlePools_166 : decode cX3_settlePools 166 = .ok (.return_, 1) := by decide +kernel
theorem dX3_takersBy_0 : decode cX3_takersBy 0 = .ok (.iload_n 0, 1) := by decide +kernel
theorem dX3_takersBy_1 : decode cX3_takersBy 1 = .ok (.iconst 3, 1) := by decide +kernel
theorem dX3_takersBy_2 : decode cX3_takersBy 2 = .ok (.if_icmp .ne 5, 3) := by decide +kernel
theorem dX3_takersBy_5 : decode cX3_takersBy 5 = .ok (.iconst 0, 1) := by decide +kernel
theorem dX3_takersBy_6 : decode cX3_takersBy 6 = .ok (.ireturn, 1) := by decide +kernel
theorem dX3_takersBy_7 : decode cX3_takersBy 7 = .ok (.iload_n 0, 1) := by decide +kernel
theorem dX3_takersBy_8 : decode cX3_takersBy 8 = .ok (.iconst 1, 1) := by decide +kernel
theorem dX3_takersBy_9 : decode cX3_takersBy 9 = .ok (.if_icmp .ne 9, 3) := by decide +kernel
theorem dX3_takersBy_12 : decode cX3_takersBy 12 = .ok (.iconst 2, 1) := by decide +kernel
theorem dX3_takersBy_13 : decode cX3_takersBy 13 = .ok (.iload_n 1, 1) := by decide +kernel
theorem dX3_takersBy_14 : decode cX3_takersBy 14 = .ok (.imul, 1) := by decide +kernel
theorem dX3_takersBy_15 : decode cX3_takersBy 15 = .ok (.goto 4, 3) := by decide +kernel
theorem dX3_takersBy_18 : decode cX3_takersBy 18 = .ok (.iload_n 1, 1) := by decide +kernel
theorem dX3_takersBy_19 : decode cX3_takersBy 19 = .ok (.ireturn, 1) := by decide +kernel
theorem dX3_handOut_0 : decode cX3_handOut 0 = .ok (.iconst 0, 1) := by decide +kernel
theorem dX3_handOut_1 : decode cX3_handOut 1 = .ok (.istore 5, 2) := by decide +kernel
theorem dX3_handOut_3 : decode cX3_handOut 3 = .ok (.iload 5, 2) := by decide +kernel
theorem dX3_handOut_5 : decode cX3_handOut 5 = .ok (.aload_n 1, 1) := by decide +kernel
theorem dX3_handOut_6 : decode cX3_handOut 6 = .ok (.getfield 35, 3) := by decide +kernel
theorem dX3_handOut_9 : decode cX3_handOut 9 = .ok (.if_icmp .ge 102, 3) := by decide +kernel
theorem dX3_handOut_12 : decode cX3_handOut 12 = .ok (.aload_n 1, 1) := by decide +kernel
theorem dX3_handOut_13 : decode cX3_handOut 13 = .ok (.iload 5, 2) := by decide +kernel
theorem dX3_handOut_15 : decode cX3_handOut 15 = .ok (.iload_n 2, 1) := by decide +kernel
theorem dX3_handOut_16 : decode cX3_handOut 16 = .ok (.iload_n 3, 1) := by decide +kernel
theorem dX3_handOut_17 : decode cX3_handOut 17 = .ok (.invokevirtual 139, 3) := by decide +kernel
theorem dX3_handOut_20 : decode cX3_handOut 20 = .ok (.ifCond .eq 85, 3) := by decide +kernel
theorem dX3_handOut_23 : decode cX3_handOut 23 = .ok (.aload_n 1, 1) := by decide +kernel
theorem dX3_handOut_24 : decode cX3_handOut 24 = .ok (.iload 5, 2) := by decide +kernel
theorem dX3_handOut_26 : decode cX3_handOut 26 = .ok (.invokevirtual 86, 3) := by decide +kernel
theorem dX3_handOut_29 : decode cX3_handOut 29 = .ok (.ifCond .eq 76, 3) := by decide +kernel
theorem dX3_handOut_32 : decode cX3_handOut 32 = .ok (.aload 4, 2) := by decide +kernel
theorem dX3_handOut_34 : decode cX3_handOut 34 = .ok (.iconst 5, 1) := by decide +kernel
theorem dX3_handOut_35 : decode cX3_handOut 35 = .ok (.iaload, 1) := by decide +kernel
theorem dX3_handOut_36 : decode cX3_handOut 36 = .ok (.ifCond .eq 11, 3) := by decide +kernel
theorem dX3_handOut_39 : decode cX3_handOut 39 = .ok (.aload 4, 2) := by decide +kernel
theorem dX3_handOut_41 : decode cX3_handOut 41 = .ok (.iconst 5, 1) := by decide +kernel
theorem dX3_handOut_42 : decode cX3_handOut 42 = .ok (.iaload, 1) := by decide +kernel
theorem dX3_handOut_43 : decode cX3_handOut 43 = .ok (.iconst 1, 1) := by decide +kernel
theorem dX3_handOut_44 : decode cX3_handOut 44 = .ok (.if_icmp .ne 24, 3) := by decide +kernel
theorem dX3_handOut_47 : decode cX3_handOut 47 = .ok (.aload_n 0, 1) := by decide +kernel
theorem dX3_handOut_48 : decode cX3_handOut 48 = .ok (.getfield 11, 3) := by decide +kernel
theorem dX3_handOut_51 : decode cX3_handOut 51 = .ok (.aload_n 1, 1) := by decide +kernel
theorem dX3_handOut_52 : decode cX3_handOut 52 = .ok (.iload 5, 2) := by decide +kernel
theorem dX3_handOut_54 : decode cX3_handOut 54 = .ok (.invokevirtual 90, 3) := by decide +kernel
theorem dX3_handOut_57 : decode cX3_handOut 57 = .ok (.aaload, 1) := by decide +kernel
theorem dX3_handOut_58 : decode cX3_handOut 58 = .ok (.bipush 7, 2) := by decide +kernel
theorem dX3_handOut_60 : decode cX3_handOut 60 = .ok (.dup2, 1) := by decide +kernel
theorem dX3_handOut_61 : decode cX3_handOut 61 = .ok (.iaload, 1) := by decide +kernel
theorem dX3_handOut_62 : decode cX3_handOut 62 = .ok (.aload 4, 2) := by decide +kernel
theorem dX3_handOut_64 : decode cX3_handOut 64 = .ok (.iconst 2, 1) := by decide +kernel
theorem dX3_handOut_65 : decode cX3_handOut 65 = .ok (.iaload, 1) := by decide +kernel
theorem dX3_handOut_66 : decode cX3_handOut 66 = .ok (.iadd, 1) := by decide +kernel
theorem dX3_handOut_67 : decode cX3_handOut 67 = .ok (.iastore, 1) := by decide +kernel
theorem dX3_handOut_68 : decode cX3_handOut 68 = .ok (.aload 4, 2) := by decide +kernel
theorem dX3_handOut_70 : decode cX3_handOut 70 = .ok (.iconst 5, 1) := by decide +kernel
theorem dX3_handOut_71 : decode cX3_handOut 71 = .ok (.iaload, 1) := by decide +kernel
theorem dX3_handOut_72 : decode cX3_handOut 72 = .ok (.iconst 2, 1) := by decide +kernel
theorem dX3_handOut_73 : decode cX3_handOut 73 = .ok (.if_icmp .eq 11, 3) := by decide +kernel
theorem dX3_handOut_76 : decode cX3_handOut 76 = .ok (.aload 4, 2) := by decide +kernel
theorem dX3_handOut_78 : decode cX3_handOut 78 = .ok (.iconst 5, 1) := by decide +kernel
theorem dX3_handOut_79 : decode cX3_handOut 79 = .ok (.iaload, 1) := by decide +kernel
theorem dX3_handOut_80 : decode cX3_handOut 80 = .ok (.iconst 1, 1) := by decide +kernel
theorem dX3_handOut_81 : decode cX3_handOut 81 = .ok (.if_icmp .ne 24, 3) := by decide +kernel
theorem dX3_handOut_84 : decode cX3_handOut 84 = .ok (.aload_n 0, 1) := by decide +kernel
theorem dX3_handOut_85 : decode cX3_handOut 85 = .ok (.getfield 11, 3) := by decide +kernel
theorem dX3_handOut_88 : decode cX3_handOut 88 = .ok (.aload_n 1, 1) := by decide +kernel
theorem dX3_handOut_89 : decode cX3_handOut 89 = .ok (.iload 5, 2) := by decide +kernel
theorem dX3_handOut_91 : decode cX3_handOut 91 = .ok (.invokevirtual 143, 3) := by decide +kernel
theorem dX3_handOut_94 : decode cX3_handOut 94 = .ok (.aaload, 1) := by decide +kernel
theorem dX3_handOut_95 : decode cX3_handOut 95 = .ok (.bipush 7, 2) := by decide +kernel
theorem dX3_handOut_97 : decode cX3_handOut 97 = .ok (.dup2, 1) := by decide +kernel
theorem dX3_handOut_98 : decode cX3_handOut 98 = .ok (.iaload, 1) := by decide +kernel
theorem dX3_handOut_99 : decode cX3_handOut 99 = .ok (.aload 4, 2) := by decide +kernel
theorem dX3_handOut_101 : decode cX3_handOut 101 = .ok (.iconst 2, 1) := by decide +kernel
theorem dX3_handOut_102 : decode cX3_handOut 102 = .ok (.iaload, 1) := by decide +kernel
theorem dX3_handOut_103 : decode cX3_handOut 103 = .ok (.iadd, 1) := by decide +kernel
theorem dX3_handOut_104 : decode cX3_handOut 104 = .ok (.iastore, 1) := by decide +kernel
theorem dX3_handOut_105 : decode cX3_handOut 105 = .ok (.iinc 5 1, 3) := by decide +kernel
theorem dX3_handOut_108 : decode cX3_handOut 108 = .ok (.goto (-105), 3) := by decide +kernel
theorem dX3_handOut_111 : decode cX3_handOut 111 = .ok (.aload_n 0, 1) := by decide +kernel
theorem dX3_handOut_112 : decode cX3_handOut 112 = .ok (.getfield 29, 3) := by decide +kernel
theorem dX3_handOut_115 : decode cX3_handOut 115 = .ok (.iconst 4, 1) := by decide +kernel
theorem dX3_handOut_116 : decode cX3_handOut 116 = .ok (.dup2, 1) := by decide +kernel
theorem dX3_handOut_117 : decode cX3_handOut 117 = .ok (.iaload, 1) := by decide +kernel
theorem dX3_handOut_118 : decode cX3_handOut 118 = .ok (.aload 4, 2) := by decide +kernel
theorem dX3_handOut_120 : decode cX3_handOut 120 = .ok (.iconst 2, 1) := by decide +kernel
theorem dX3_handOut_121 : decode cX3_handOut 121 = .ok (.iaload, 1) := by decide +kernel
theorem dX3_handOut_122 : decode cX3_handOut 122 = .ok (.aload 4, 2) := by decide +kernel
theorem dX3_handOut_124 : decode cX3_handOut 124 = .ok (.iconst 3, 1) := by decide +kernel
theorem dX3_handOut_125 : decode cX3_handOut 125 = .ok (.iaload, 1) := by decide +kernel
theorem dX3_handOut_126 : decode cX3_handOut 126 = .ok (.imul, 1) := by decide +kernel
theorem dX3_handOut_127 : decode cX3_handOut 127 = .ok (.iadd, 1) := by decide +kernel
theorem dX3_handOut_128 : decode cX3_handOut 128 = .ok (.iastore, 1) := by decide +kernel
theorem dX3_handOut_129 : decode cX3_handOut 129 = .ok (.return_, 1) := by decide +kernel
theorem dX3_sumUp_0 : decode cX3_sumUp 0 = .ok (.aload_n 0, 1) := by decide +kernel
theorem dX3_sumUp_1 : decode cX3_sumUp 1 = .ok (.getfield 11, 3) := by decide +kernel
theorem dX3_sumUp_4 : decode cX3_sumUp 4 = .ok (.iload_n 2, 1) := by decide +kernel
theorem dX3_sumUp_5 : decode cX3_sumUp 5 = .ok (.aaload, 1) := by decide +kernel
theorem dX3_sumUp_6 : decode cX3_sumUp 6 = .ok (.astore_n 3, 1) := by decide +kernel
theorem dX3_sumUp_7 : decode cX3_sumUp 7 = .ok (.aload_n 3, 1) := by decide +kernel
theorem dX3_sumUp_8 : decode cX3_sumUp 8 = .ok (.iconst 3, 1) := by decide +kernel
theorem dX3_sumUp_9 : decode cX3_sumUp 9 = .ok (.aload_n 3, 1) := by decide +kernel
theorem dX3_sumUp_10 : decode cX3_sumUp 10 = .ok (.iconst 4, 1) := by decide +kernel
theorem dX3_sumUp_11 : decode cX3_sumUp 11 = .ok (.iaload, 1) := by decide +kernel
theorem dX3_sumUp_12 : decode cX3_sumUp 12 = .ok (.aload_n 3, 1) := by decide +kernel
theorem dX3_sumUp_13 : decode cX3_sumUp 13 = .ok (.iconst 5, 1) := by decide +kernel
theorem dX3_sumUp_14 : decode cX3_sumUp 14 = .ok (.iaload, 1) := by decide +kernel
theorem dX3_sumUp_15 : decode cX3_sumUp 15 = .ok (.iadd, 1) := by decide +kernel
theorem dX3_sumUp_16 : decode cX3_sumUp 16 = .ok (.aload_n 3, 1) := by decide +kernel
theorem dX3_sumUp_17 : decode cX3_sumUp 17 = .ok (.bipush 6, 2) := by decide +kernel
theorem dX3_sumUp_19 : decode cX3_sumUp 19 = .ok (.iaload, 1) := by decide +kernel
theorem dX3_sumUp_20 : decode cX3_sumUp 20 = .ok (.iadd, 1) := by decide +kernel
theorem dX3_sumUp_21 : decode cX3_sumUp 21 = .ok (.aload_n 3, 1) := by decide +kernel
theorem dX3_sumUp_22 : decode cX3_sumUp 22 = .ok (.bipush 7, 2) := by decide +kernel
theorem dX3_sumUp_24 : decode cX3_sumUp 24 = .ok (.iaload, 1) := by decide +kernel
theorem dX3_sumUp_25 : decode cX3_sumUp 25 = .ok (.iadd, 1) := by decide +kernel
theorem dX3_sumUp_26 : decode cX3_sumUp 26 = .ok (.iastore, 1) := by decide +kernel
theorem dX3_sumUp_27 : decode cX3_sumUp 27 = .ok (.aload_n 3, 1) := by decide +kernel
theorem dX3_sumUp_28 : decode cX3_sumUp 28 = .ok (.bipush 8, 2) := by decide +kernel
theorem dX3_sumUp_30 : decode cX3_sumUp 30 = .ok (.iconst 0, 1) := by decide +kernel
theorem dX3_sumUp_31 : decode cX3_sumUp 31 = .ok (.aload_n 1, 1) := by decide +kernel
theorem dX3_sumUp_32 : decode cX3_sumUp 32 = .ok (.getfield 146, 3) := by decide +kernel
theorem dX3_sumUp_35 : decode cX3_sumUp 35 = .ok (.iload_n 2, 1) := by decide +kernel
theorem dX3_sumUp_36 : decode cX3_sumUp 36 = .ok (.aaload, 1) := by decide +kernel
theorem dX3_sumUp_37 : decode cX3_sumUp 37 = .ok (.iconst 2, 1) := by decide +kernel
theorem dX3_sumUp_38 : decode cX3_sumUp 38 = .ok (.iaload, 1) := by decide +kernel
theorem dX3_sumUp_39 : decode cX3_sumUp 39 = .ok (.aload_n 3, 1) := by decide +kernel
theorem dX3_sumUp_40 : decode cX3_sumUp 40 = .ok (.iconst 3, 1) := by decide +kernel
theorem dX3_sumUp_41 : decode cX3_sumUp 41 = .ok (.iaload, 1) := by decide +kernel
theorem dX3_sumUp_42 : decode cX3_sumUp 42 = .ok (.isub, 1) := by decide +kernel
theorem dX3_sumUp_43 : decode cX3_sumUp 43 = .ok (.invokestatic 149, 3) := by decide +kernel
theorem dX3_sumUp_46 : decode cX3_sumUp 46 = .ok (.iastore, 1) := by decide +kernel
theorem dX3_sumUp_47 : decode cX3_sumUp 47 = .ok (.aload_n 0, 1) := by decide +kernel
theorem dX3_sumUp_48 : decode cX3_sumUp 48 = .ok (.getfield 26, 3) := by decide +kernel
theorem dX3_sumUp_51 : decode cX3_sumUp 51 = .ok (.iload_n 2, 1) := by decide +kernel
theorem dX3_sumUp_52 : decode cX3_sumUp 52 = .ok (.aload_n 3, 1) := by decide +kernel
theorem dX3_sumUp_53 : decode cX3_sumUp 53 = .ok (.iconst 3, 1) := by decide +kernel
theorem dX3_sumUp_54 : decode cX3_sumUp 54 = .ok (.iaload, 1) := by decide +kernel
theorem dX3_sumUp_55 : decode cX3_sumUp 55 = .ok (.aload_n 0, 1) := by decide +kernel
theorem dX3_sumUp_56 : decode cX3_sumUp 56 = .ok (.getfield 22, 3) := by decide +kernel
theorem dX3_sumUp_59 : decode cX3_sumUp 59 = .ok (.iload_n 2, 1) := by decide +kernel
theorem dX3_sumUp_60 : decode cX3_sumUp 60 = .ok (.iaload, 1) := by decide +kernel
theorem dX3_sumUp_61 : decode cX3_sumUp 61 = .ok (.isub, 1) := by decide +kernel
theorem dX3_sumUp_62 : decode cX3_sumUp 62 = .ok (.iastore, 1) := by decide +kernel
theorem dX3_sumUp_63 : decode cX3_sumUp 63 = .ok (.return_, 1) := by decide +kernel
theorem dX3_topUp_0 : decode cX3_topUp 0 = .ok (.aload_n 0, 1) := by decide +kernel
theorem dX3_topUp_1 : decode cX3_topUp 1 = .ok (.getfield 29, 3) := by decide +kernel
theorem dX3_topUp_4 : decode cX3_topUp 4 = .ok (.iconst 5, 1) := by decide +kernel
theorem dX3_topUp_5 : decode cX3_topUp 5 = .ok (.iaload, 1) := by decide +kernel
theorem dX3_topUp_6 : decode cX3_topUp 6 = .ok (.istore_n 2, 1) := by decide +kernel
theorem dX3_topUp_7 : decode cX3_topUp 7 = .ok (.iconst 0, 1) := by decide +kernel
theorem dX3_topUp_8 : decode cX3_topUp 8 = .ok (.istore_n 3, 1) := by decide +kernel
theorem dX3_topUp_9 : decode cX3_topUp 9 = .ok (.iconst 0, 1) := by decide +kernel
theorem dX3_topUp_10 : decode cX3_topUp 10 = .ok (.istore 4, 2) := by decide +kernel
theorem dX3_topUp_12 : decode cX3_topUp 12 = .ok (.iload 4, 2) := by decide +kernel
theorem dX3_topUp_14 : decode cX3_topUp 14 = .ok (.iload_n 1, 1) := by decide +kernel
theorem dX3_topUp_15 : decode cX3_topUp 15 = .ok (.if_icmp .ge 71, 3) := by decide +kernel
theorem dX3_topUp_18 : decode cX3_topUp 18 = .ok (.iload_n 2, 1) := by decide +kernel
theorem dX3_topUp_19 : decode cX3_topUp 19 = .ok (.ifCond .le 67, 3) := by decide +kernel
theorem dX3_topUp_22 : decode cX3_topUp 22 = .ok (.aload_n 0, 1) := by decide +kernel
theorem dX3_topUp_23 : decode cX3_topUp 23 = .ok (.iload_n 1, 1) := by decide +kernel
theorem dX3_topUp_24 : decode cX3_topUp 24 = .ok (.iload_n 3, 1) := by decide +kernel
theorem dX3_topUp_25 : decode cX3_topUp 25 = .ok (.invokevirtual 154, 3) := by decide +kernel
theorem dX3_topUp_28 : decode cX3_topUp 28 = .ok (.istore 5, 2) := by decide +kernel
theorem dX3_topUp_30 : decode cX3_topUp 30 = .ok (.iload 5, 2) := by decide +kernel
theorem dX3_topUp_32 : decode cX3_topUp 32 = .ok (.iconst (-1), 1) := by decide +kernel
theorem dX3_topUp_33 : decode cX3_topUp 33 = .ok (.if_icmp .eq 47, 3) := by decide +kernel
theorem dX3_topUp_36 : decode cX3_topUp 36 = .ok (.iload_n 3, 1) := by decide +kernel
theorem dX3_topUp_37 : decode cX3_topUp 37 = .ok (.iconst 1, 1) := by decide +kernel
theorem dX3_topUp_38 : decode cX3_topUp 38 = .ok (.iload 5, 2) := by decide +kernel
theorem dX3_topUp_40 : decode cX3_topUp 40 = .ok (.ishl, 1) := by decide +kernel
theorem dX3_topUp_41 : decode cX3_topUp 41 = .ok (.ior, 1) := by decide +kernel
theorem dX3_topUp_42 : decode cX3_topUp 42 = .ok (.istore_n 3, 1) := by decide +kernel
theorem dX3_topUp_43 : decode cX3_topUp 43 = .ok (.aload_n 0, 1) := by decide +kernel
theorem dX3_topUp_44 : decode cX3_topUp 44 = .ok (.getfield 11, 3) := by decide +kernel
theorem dX3_topUp_47 : decode cX3_topUp 47 = .ok (.iload 5, 2) := by decide +kernel
theorem dX3_topUp_49 : decode cX3_topUp 49 = .ok (.aaload, 1) := by decide +kernel
theorem dX3_topUp_50 : decode cX3_topUp 50 = .ok (.bipush 9, 2) := by decide +kernel
theorem dX3_topUp_52 : decode cX3_topUp 52 = .ok (.iload_n 2, 1) := by decide +kernel
theorem dX3_topUp_53 : decode cX3_topUp 53 = .ok (.aload_n 0, 1) := by decide +kernel
theorem dX3_topUp_54 : decode cX3_topUp 54 = .ok (.getfield 11, 3) := by decide +kernel
theorem dX3_topUp_57 : decode cX3_topUp 57 = .ok (.iload 5, 2) := by decide +kernel
theorem dX3_topUp_59 : decode cX3_topUp 59 = .ok (.aaload, 1) := by decide +kernel
theorem dX3_topUp_60 : decode cX3_topUp 60 = .ok (.bipush 8, 2) := by decide +kernel
theorem dX3_topUp_62 : decode cX3_topUp 62 = .ok (.iaload, 1) := by decide +kernel
theorem dX3_topUp_63 : decode cX3_topUp 63 = .ok (.invokestatic 157, 3) := by decide +kernel
theorem dX3_topUp_66 : decode cX3_topUp 66 = .ok (.iastore, 1) := by decide +kernel
theorem dX3_topUp_67 : decode cX3_topUp 67 = .ok (.iload_n 2, 1) := by decide +kernel
theorem dX3_topUp_68 : decode cX3_topUp 68 = .ok (.aload_n 0, 1) := by decide +kernel
theorem dX3_topUp_69 : decode cX3_topUp 69 = .ok (.getfield 11, 3) := by decide +kernel
theorem dX3_topUp_72 : decode cX3_topUp 72 = .ok (.iload 5, 2) := by decide +kernel
theorem dX3_topUp_74 : decode cX3_topUp 74 = .ok (.aaload, 1) := by decide +kernel
theorem dX3_topUp_75 : decode cX3_topUp 75 = .ok (.bipush 9, 2) := by decide +kernel
theorem dX3_topUp_77 : decode cX3_topUp 77 = .ok (.iaload, 1) := by decide +kernel
theorem dX3_topUp_78 : decode cX3_topUp 78 = .ok (.isub, 1) := by decide +kernel
theorem dX3_topUp_79 : decode cX3_topUp 79 = .ok (.istore_n 2, 1) := by decide +kernel
theorem dX3_topUp_80 : decode cX3_topUp 80 = .ok (.iinc 4 1, 3) := by decide +kernel
theorem dX3_topUp_83 : decode cX3_topUp 83 = .ok (.goto (-71), 3) := by decide +kernel
theorem dX3_topUp_86 : decode cX3_topUp 86 = .ok (.return_, 1) := by decide +kernel
theorem dX3_leastLacking_0 : decode cX3_leastLacking 0 = .ok (.iconst (-1), 1) := by decide +kernel
theorem dX3_leastLacking_1 : decode cX3_leastLacking 1 = .ok (.istore_n 3, 1) := by decide +kernel
theorem dX3_leastLacking_2 : decode cX3_leastLacking 2 = .ok (.iconst 0, 1) := by decide +kernel
theorem dX3_leastLacking_3 : decode cX3_leastLacking 3 = .ok (.istore 4, 2) := by decide +kernel
theorem dX3_leastLacking_5 : decode cX3_leastLacking 5 = .ok (.iload 4, 2) := by decide +kernel
theorem dX3_leastLacking_7 : decode cX3_leastLacking 7 = .ok (.iload_n 1, 1) := by decide +kernel
theorem dX3_leastLacking_8 : decode cX3_leastLacking 8 = .ok (.if_icmp .ge 73, 3) := by decide +kernel
theorem dX3_leastLacking_11 : decode cX3_leastLacking 11 = .ok (.aload_n 0, 1) := by decide +kernel
theorem dX3_leastLacking_12 : decode cX3_leastLacking 12 = .ok (.getfield 11, 3) := by decide +kernel
theorem dX3_leastLacking_15 : decode cX3_leastLacking 15 = .ok (.iload 4, 2) := by decide +kernel
theorem dX3_leastLacking_17 : decode cX3_leastLacking 17 = .ok (.aaload, 1) := by decide +kernel
theorem dX3_leastLacking_18 : decode cX3_leastLacking 18 = .ok (.bipush 8, 2) := by decide +kernel
theorem dX3_leastLacking_20 : decode cX3_leastLacking 20 = .ok (.iaload, 1) := by decide +kernel
theorem dX3_leastLacking_21 : decode cX3_leastLacking 21 = .ok (.ifCond .le 16, 3) := by decide +kernel
theorem dX3_leastLacking_24 : decode cX3_leastLacking 24 = .ok (.iload_n 2, 1) := by decide +kernel
theorem dX3_leastLacking_25 : decode cX3_leastLacking 25 = .ok (.iload 4, 2) := by decide +kernel
theorem dX3_leastLacking_27 : decode cX3_leastLacking 27 = .ok (.ishr, 1) := by decide +kernel
theorem dX3_leastLacking_28 : decode cX3_leastLacking 28 = .ok (.iconst 1, 1) := by decide +kernel
theorem dX3_leastLacking_29 : decode cX3_leastLacking 29 = .ok (.iand, 1) := by decide +kernel
theorem dX3_leastLacking_30 : decode cX3_leastLacking 30 = .ok (.ifCond .ne 7, 3) := by decide +kernel
theorem dX3_leastLacking_33 : decode cX3_leastLacking 33 = .ok (.iconst 1, 1) := by decide +kernel
theorem dX3_leastLacking_34 : decode cX3_leastLacking 34 = .ok (.goto 4, 3) := by decide +kernel
theorem dX3_leastLacking_37 : decode cX3_leastLacking 37 = .ok (.iconst 0, 1) := by decide +kernel
theorem dX3_leastLacking_38 : decode cX3_leastLacking 38 = .ok (.istore 5, 2) := by decide +kernel
theorem dX3_leastLacking_40 : decode cX3_leastLacking 40 = .ok (.iload 5, 2) := by decide +kernel
theorem dX3_leastLacking_42 : decode cX3_leastLacking 42 = .ok (.ifCond .eq 33, 3) := by decide +kernel
theorem dX3_leastLacking_45 : decode cX3_leastLacking 45 = .ok (.iload_n 3, 1) := by decide +kernel
theorem dX3_leastLacking_46 : decode cX3_leastLacking 46 = .ok (.iconst (-1), 1) := by decide +kernel
theorem dX3_leastLacking_47 : decode cX3_leastLacking 47 = .ok (.if_icmp .eq 25, 3) := by decide +kernel
theorem dX3_leastLacking_50 : decode cX3_leastLacking 50 = .ok (.aload_n 0, 1) := by decide +kernel
theorem dX3_leastLacking_51 : decode cX3_leastLacking 51 = .ok (.getfield 11, 3) := by decide +kernel
theorem dX3_leastLacking_54 : decode cX3_leastLacking 54 = .ok (.iload 4, 2) := by decide +kernel
theorem dX3_leastLacking_56 : decode cX3_leastLacking 56 = .ok (.aaload, 1) := by decide +kernel
theorem dX3_leastLacking_57 : decode cX3_leastLacking 57 = .ok (.bipush 8, 2) := by decide +kernel
theorem dX3_leastLacking_59 : decode cX3_leastLacking 59 = .ok (.iaload, 1) := by decide +kernel
theorem dX3_leastLacking_60 : decode cX3_leastLacking 60 = .ok (.aload_n 0, 1) := by decide +kernel
theorem dX3_leastLacking_61 : decode cX3_leastLacking 61 = .ok (.getfield 11, 3) := by decide +kernel
theorem dX3_leastLacking_64 : decode cX3_leastLacking 64 = .ok (.iload_n 3, 1) := by decide +kernel
theorem dX3_leastLacking_65 : decode cX3_leastLacking 65 = .ok (.aaload, 1) := by decide +kernel
theorem dX3_leastLacking_66 : decode cX3_leastLacking 66 = .ok (.bipush 8, 2) := by decide +kernel
theorem dX3_leastLacking_68 : decode cX3_leastLacking 68 = .ok (.iaload, 1) := by decide +kernel
theorem dX3_leastLacking_69 : decode cX3_leastLacking 69 = .ok (.if_icmp .ge 6, 3) := by decide +kernel
theorem dX3_leastLacking_72 : decode cX3_leastLacking 72 = .ok (.iload 4, 2) := by decide +kernel
theorem dX3_leastLacking_74 : decode cX3_leastLacking 74 = .ok (.istore_n 3, 1) := by decide +kernel
theorem dX3_leastLacking_75 : decode cX3_leastLacking 75 = .ok (.iinc 4 1, 3) := by decide +kernel
theorem dX3_leastLacking_78 : decode cX3_leastLacking 78 = .ok (.goto (-73), 3) := by decide +kernel
theorem dX3_leastLacking_81 : decode cX3_leastLacking 81 = .ok (.iload_n 3, 1) := by decide +kernel
theorem dX3_leastLacking_82 : decode cX3_leastLacking 82 = .ok (.ireturn, 1) := by decide +kernel
theorem dX3_allLacks_0 : decode cX3_allLacks 0 = .ok (.iconst 0, 1) := by decide +kernel
theorem dX3_allLacks_1 : decode cX3_allLacks 1 = .ok (.istore_n 2, 1) := by decide +kernel
theorem dX3_allLacks_2 : decode cX3_allLacks 2 = .ok (.iconst 0, 1) := by decide +kernel
theorem dX3_allLacks_3 : decode cX3_allLacks 3 = .ok (.istore_n 3, 1) := by decide +kernel
theorem dX3_allLacks_4 : decode cX3_allLacks 4 = .ok (.iload_n 3, 1) := by decide +kernel
theorem dX3_allLacks_5 : decode cX3_allLacks 5 = .ok (.iload_n 1, 1) := by decide +kernel
theorem dX3_allLacks_6 : decode cX3_allLacks 6 = .ok (.if_icmp .ge 21, 3) := by decide +kernel
theorem dX3_allLacks_9 : decode cX3_allLacks 9 = .ok (.iload_n 2, 1) := by decide +kernel
theorem dX3_allLacks_10 : decode cX3_allLacks 10 = .ok (.aload_n 0, 1) := by decide +kernel
theorem dX3_allLacks_11 : decode cX3_allLacks 11 = .ok (.getfield 11, 3) := by decide +kernel
theorem dX3_allLacks_14 : decode cX3_allLacks 14 = .ok (.iload_n 3, 1) := by decide +kernel
theorem dX3_allLacks_15 : decode cX3_allLacks 15 = .ok (.aaload, 1) := by decide +kernel
theorem dX3_allLacks_16 : decode cX3_allLacks 16 = .ok (.bipush 8, 2) := by decide +kernel
theorem dX3_allLacks_18 : decode cX3_allLacks 18 = .ok (.iaload, 1) := by decide +kernel
theorem dX3_allLacks_19 : decode cX3_allLacks 19 = .ok (.iadd, 1) := by decide +kernel
theorem dX3_allLacks_20 : decode cX3_allLacks 20 = .ok (.istore_n 2, 1) := by decide +kernel
theorem dX3_allLacks_21 : decode cX3_allLacks 21 = .ok (.iinc 3 1, 3) := by decide +kernel
theorem dX3_allLacks_24 : decode cX3_allLacks 24 = .ok (.goto (-20), 3) := by decide +kernel
theorem dX3_allLacks_27 : decode cX3_allLacks 27 = .ok (.iload_n 2, 1) := by decide +kernel
theorem dX3_allLacks_28 : decode cX3_allLacks 28 = .ok (.ireturn, 1) := by decide +kernel
theorem dX3_rankOf_0 : decode cX3_rankOf 0 = .ok (.iconst 0, 1) := by decide +kernel
theorem dX3_rankOf_1 : decode cX3_rankOf 1 = .ok (.istore_n 3, 1) := by decide +kernel
theorem dX3_rankOf_2 : decode cX3_rankOf 2 = .ok (.iconst 0, 1) := by decide +kernel
theorem dX3_rankOf_3 : decode cX3_rankOf 3 = .ok (.istore 4, 2) := by decide +kernel
theorem dX3_rankOf_5 : decode cX3_rankOf 5 = .ok (.iload 4, 2) := by decide +kernel
theorem dX3_rankOf_7 : decode cX3_rankOf 7 = .ok (.iload_n 2, 1) := by decide +kernel
theorem dX3_rankOf_8 : decode cX3_rankOf 8 = .ok (.if_icmp .ge 48, 3) := by decide +kernel
theorem dX3_rankOf_11 : decode cX3_rankOf 11 = .ok (.aload_n 0, 1) := by decide +kernel
theorem dX3_rankOf_12 : decode cX3_rankOf 12 = .ok (.getfield 11, 3) := by decide +kernel
theorem dX3_rankOf_15 : decode cX3_rankOf 15 = .ok (.iload 4, 2) := by decide +kernel
theorem dX3_rankOf_17 : decode cX3_rankOf 17 = .ok (.aaload, 1) := by decide +kernel
theorem dX3_rankOf_18 : decode cX3_rankOf 18 = .ok (.iconst 3, 1) := by decide +kernel
theorem dX3_rankOf_19 : decode cX3_rankOf 19 = .ok (.iaload, 1) := by decide +kernel
theorem dX3_rankOf_20 : decode cX3_rankOf 20 = .ok (.aload_n 0, 1) := by decide +kernel
theorem dX3_rankOf_21 : decode cX3_rankOf 21 = .ok (.getfield 11, 3) := by decide +kernel
theorem dX3_rankOf_24 : decode cX3_rankOf 24 = .ok (.iload_n 1, 1) := by decide +kernel
theorem dX3_rankOf_25 : decode cX3_rankOf 25 = .ok (.aaload, 1) := by decide +kernel
theorem dX3_rankOf_26 : decode cX3_rankOf 26 = .ok (.iconst 3, 1) := by decide +kernel
theorem dX3_rankOf_27 : decode cX3_rankOf 27 = .ok (.iaload, 1) := by decide +kernel
theorem dX3_rankOf_28 : decode cX3_rankOf 28 = .ok (.isub, 1) := by decide +kernel
theorem dX3_rankOf_29 : decode cX3_rankOf 29 = .ok (.istore 5, 2) := by decide +kernel
theorem dX3_rankOf_31 : decode cX3_rankOf 31 = .ok (.iload 5, 2) := by decide +kernel
theorem dX3_rankOf_33 : decode cX3_rankOf 33 = .ok (.ifCond .gt 14, 3) := by decide +kernel
theorem dX3_rankOf_36 : decode cX3_rankOf 36 = .ok (.iload 5, 2) := by decide +kernel
theorem dX3_rankOf_38 : decode cX3_rankOf 38 = .ok (.ifCond .ne 12, 3) := by decide +kernel
theorem dX3_rankOf_41 : decode cX3_rankOf 41 = .ok (.iload 4, 2) := by decide +kernel
theorem dX3_rankOf_43 : decode cX3_rankOf 43 = .ok (.iload_n 1, 1) := by decide +kernel
theorem dX3_rankOf_44 : decode cX3_rankOf 44 = .ok (.if_icmp .ge 6, 3) := by decide +kernel
theorem dX3_rankOf_47 : decode cX3_rankOf 47 = .ok (.iinc 3 1, 3) := by decide +kernel
theorem dX3_rankOf_50 : decode cX3_rankOf 50 = .ok (.iinc 4 1, 3) := by decide +kernel
theorem dX3_rankOf_53 : decode cX3_rankOf 53 = .ok (.goto (-48), 3) := by decide +kernel
theorem dX3_rankOf_56 : decode cX3_rankOf 56 = .ok (.iload_n 3, 1) := by decide +kernel
theorem dX3_rankOf_57 : decode cX3_rankOf 57 = .ok (.ireturn, 1) := by decide +kernel
theorem dX4_init_0 : decode cX4_init 0 = .ok (.aload_n 0, 1) := by decide +kernel
theorem dX4_init_1 : decode cX4_init 1 = .ok (.invokespecial 3, 3) := by decide +kernel
theorem dX4_init_4 : decode cX4_init 4 = .ok (.aload_n 0, 1) := by decide +kernel
theorem dX4_init_5 : decode cX4_init 5 = .ok (.sipush 600, 3) := by decide +kernel
theorem dX4_init_8 : decode cX4_init 8 = .ok (.newarray .int, 2) := by decide +kernel
theorem dX4_init_10 : decode cX4_init 10 = .ok (.putfield 9, 3) := by decide +kernel
theorem dX4_init_13 : decode cX4_init 13 = .ok (.aload_n 0, 1) := by decide +kernel
theorem dX4_init_14 : decode cX4_init 14 = .ok (.iconst (-1), 1) := by decide +kernel
theorem dX4_init_15 : decode cX4_init 15 = .ok (.putfield 15, 3) := by decide +kernel
theorem dX4_init_18 : decode cX4_init 18 = .ok (.return_, 1) := by decide +kernel
theorem dX4_append_0 : decode cX4_append 0 = .ok (.aload_n 0, 1) := by decide +kernel
theorem dX4_append_1 : decode cX4_append 1 = .ok (.getfield 19, 3) := by decide +kernel
theorem dX4_append_4 : decode cX4_append 4 = .ok (.iconst 4, 1) := by decide +kernel
theorem dX4_append_5 : decode cX4_append 5 = .ok (.iadd, 1) := by decide +kernel
theorem dX4_append_6 : decode cX4_append 6 = .ok (.sipush 600, 3) := by decide +kernel
theorem dX4_append_9 : decode cX4_append 9 = .ok (.if_icmp .le 5, 3) := by decide +kernel
theorem dX4_append_12 : decode cX4_append 12 = .ok (.iconst 0, 1) := by decide +kernel
theorem dX4_append_13 : decode cX4_append 13 = .ok (.ireturn, 1) := by decide +kernel
theorem dX4_append_14 : decode cX4_append 14 = .ok (.bipush 24, 2) := by decide +kernel
theorem dX4_append_16 : decode cX4_append 16 = .ok (.istore_n 2, 1) := by decide +kernel
theorem dX4_append_17 : decode cX4_append 17 = .ok (.iload_n 2, 1) := by decide +kernel
theorem dX4_append_18 : decode cX4_append 18 = .ok (.ifCond .lt 35, 3) := by decide +kernel
theorem dX4_append_21 : decode cX4_append 21 = .ok (.aload_n 0, 1) := by decide +kernel
theorem dX4_append_22 : decode cX4_append 22 = .ok (.getfield 9, 3) := by decide +kernel
theorem dX4_append_25 : decode cX4_append 25 = .ok (.aload_n 0, 1) := by decide +kernel
theorem dX4_append_26 : decode cX4_append 26 = .ok (.getfield 19, 3) := by decide +kernel
theorem dX4_append_29 : decode cX4_append 29 = .ok (.iload_n 1, 1) := by decide +kernel
theorem dX4_append_30 : decode cX4_append 30 = .ok (.iload_n 2, 1) := by decide +kernel
theorem dX4_append_31 : decode cX4_append 31 = .ok (.iushr, 1) := by decide +kernel
theorem dX4_append_32 : decode cX4_append 32 = .ok (.sipush 255, 3) := by decide +kernel
theorem dX4_append_35 : decode cX4_append 35 = .ok (.iand, 1) := by decide +kernel
theorem dX4_append_36 : decode cX4_append 36 = .ok (.iastore, 1) := by decide +kernel
theorem dX4_append_37 : decode cX4_append 37 = .ok (.aload_n 0, 1) := by decide +kernel
theorem dX4_append_38 : decode cX4_append 38 = .ok (.dup, 1) := by decide +kernel
theorem dX4_append_39 : decode cX4_append 39 = .ok (.getfield 19, 3) := by decide +kernel
theorem dX4_append_42 : decode cX4_append 42 = .ok (.iconst 1, 1) := by decide +kernel
theorem dX4_append_43 : decode cX4_append 43 = .ok (.iadd, 1) := by decide +kernel
theorem dX4_append_44 : decode cX4_append 44 = .ok (.putfield 19, 3) := by decide +kernel
theorem dX4_append_47 : decode cX4_append 47 = .ok (.iinc 2 (-8), 3) := by decide +kernel
theorem dX4_append_50 : decode cX4_append 50 = .ok (.goto (-33), 3) := by decide +kernel
theorem dX4_append_53 : decode cX4_append 53 = .ok (.iconst 1, 1) := by decide +kernel
theorem dX4_append_54 : decode cX4_append 54 = .ok (.ireturn, 1) := by decide +kernel
theorem dX4_rewind_0 : decode cX4_rewind 0 = .ok (.aload_n 0, 1) := by decide +kernel
theorem dX4_rewind_1 : decode cX4_rewind 1 = .ok (.iconst 0, 1) := by decide +kernel
theorem dX4_rewind_2 : decode cX4_rewind 2 = .ok (.putfield 22, 3) := by decide +kernel
theorem dX4_rewind_5 : decode cX4_rewind 5 = .ok (.aload_n 0, 1) := by decide +kernel
theorem dX4_rewind_6 : decode cX4_rewind 6 = .ok (.iconst (-1), 1) := by decide +kernel
theorem dX4_rewind_7 : decode cX4_rewind 7 = .ok (.putfield 15, 3) := by decide +kernel
theorem dX4_rewind_10 : decode cX4_rewind 10 = .ok (.aload_n 0, 1) := by decide +kernel
theorem dX4_rewind_11 : decode cX4_rewind 11 = .ok (.iconst 0, 1) := by decide +kernel
theorem dX4_rewind_12 : decode cX4_rewind 12 = .ok (.putfield 25, 3) := by decide +kernel
theorem dX4_rewind_15 : decode cX4_rewind 15 = .ok (.aload_n 0, 1) := by decide +kernel
theorem dX4_rewind_16 : decode cX4_rewind 16 = .ok (.invokevirtual 28, 3) := by decide +kernel
theorem dX4_rewind_19 : decode cX4_rewind 19 = .ok (.return_, 1) := by decide +kernel
theorem dX4_step_0 : decode cX4_step 0 = .ok (.aload_n 0, 1) := by decide +kernel
theorem dX4_step_1 : decode cX4_step 1 = .ok (.getfield 25, 3) := by decide +kernel
theorem dX4_step_4 : decode cX4_step 4 = .ok (.istore_n 1, 1) := by decide +kernel
theorem dX4_step_5 : decode cX4_step 5 = .ok (.iload_n 1, 1) := by decide +kernel
theorem dX4_step_6 : decode cX4_step 6 = .ok (.aload_n 0, 1) := by decide +kernel
theorem dX4_step_7 : decode cX4_step 7 = .ok (.getfield 19, 3) := by decide +kernel
theorem dX4_step_10 : decode cX4_step 10 = .ok (.if_icmp .ge 22, 3) := by decide +kernel
theorem dX4_step_13 : decode cX4_step 13 = .ok (.aload_n 0, 1) := by decide +kernel
theorem dX4_step_14 : decode cX4_step 14 = .ok (.getfield 9, 3) := by decide +kernel
theorem dX4_step_17 : decode cX4_step 17 = .ok (.iload_n 1, 1) := by decide +kernel
theorem dX4_step_18 : decode cX4_step 18 = .ok (.iaload, 1) := by decide +kernel
theorem dX4_step_19 : decode cX4_step 19 = .ok (.invokestatic 31, 3) := by decide +kernel
theorem dX4_step_22 : decode cX4_step 22 = .ok (.iconst 1, 1) := by decide +kernel
theorem dX4_step_23 : decode cX4_step 23 = .ok (.if_icmp .ne 9, 3) := by decide +kernel
theorem dX4_step_26 : decode cX4_step 26 = .ok (.iinc 1 1, 3) := by decide +kernel
theorem dX4_step_29 : decode cX4_step 29 = .ok (.goto (-24), 3) := by decide +kernel
theorem dX4_step_32 : decode cX4_step 32 = .ok (.aload_n 0, 1) := by decide +kernel
theorem dX4_step_33 : decode cX4_step 33 = .ok (.iload_n 1, 1) := by decide +kernel
theorem dX4_step_34 : decode cX4_step 34 = .ok (.putfield 35, 3) := by decide +kernel
theorem dX4_step_37 : decode cX4_step 37 = .ok (.aload_n 0, 1) := by decide +kernel
theorem dX4_step_38 : decode cX4_step 38 = .ok (.iload_n 1, 1) := by decide +kernel
theorem dX4_step_39 : decode cX4_step 39 = .ok (.aload_n 0, 1) := by decide +kernel
theorem dX4_step_40 : decode cX4_step 40 = .ok (.getfield 19, 3) := by decide +kernel
theorem dX4_step_43 : decode cX4_step 43 = .ok (.if_icmp .ge 15, 3) := by decide +kernel
theorem dX4_step_46 : decode cX4_step 46 = .ok (.aload_n 0, 1) := by decide +kernel
theorem dX4_step_47 : decode cX4_step 47 = .ok (.getfield 9, 3) := by decide +kernel
theorem dX4_step_50 : decode cX4_step 50 = .ok (.iload_n 1, 1) := by decide +kernel
theorem dX4_step_51 : decode cX4_step 51 = .ok (.iaload, 1) := by decide +kernel
theorem dX4_step_52 : decode cX4_step 52 = .ok (.invokestatic 31, 3) := by decide +kernel
theorem dX4_step_55 : decode cX4_step 55 = .ok (.goto 4, 3) := by decide +kernel
theorem dX4_step_58 : decode cX4_step 58 = .ok (.iconst 0, 1) := by decide +kernel
theorem dX4_step_59 : decode cX4_step 59 = .ok (.putfield 38, 3) := by decide +kernel
theorem dX4_step_62 : decode cX4_step 62 = .ok (.aload_n 0, 1) := by decide +kernel
theorem dX4_step_63 : decode cX4_step 63 = .ok (.getfield 38, 3) := by decide +kernel
theorem dX4_step_66 : decode cX4_step 66 = .ok (.iconst 4, 1) := by decide +kernel
theorem dX4_step_67 : decode cX4_step 67 = .ok (.if_icmp .ne 6, 3) := by decide +kernel
theorem dX4_step_70 : decode cX4_step 70 = .ok (.iinc 1 1, 3) := by decide +kernel
theorem dX4_step_73 : decode cX4_step 73 = .ok (.iload_n 1, 1) := by decide +kernel
theorem dX4_step_74 : decode cX4_step 74 = .ok (.aload_n 0, 1) := by decide +kernel
theorem dX4_step_75 : decode cX4_step 75 = .ok (.getfield 19, 3) := by decide +kernel
theorem dX4_step_78 : decode cX4_step 78 = .ok (.if_icmp .ge 33, 3) := by decide +kernel
theorem dX4_step_81 : decode cX4_step 81 = .ok (.aload_n 0, 1) := by decide +kernel
theorem dX4_step_82 : decode cX4_step 82 = .ok (.getfield 38, 3) := by decide +kernel
theorem dX4_step_85 : decode cX4_step 85 = .ok (.iconst 4, 1) := by decide +kernel
theorem dX4_step_86 : decode cX4_step 86 = .ok (.if_icmp .eq 25, 3) := by decide +kernel
theorem dX4_step_89 : decode cX4_step 89 = .ok (.aload_n 0, 1) := by decide +kernel
theorem dX4_step_90 : decode cX4_step 90 = .ok (.getfield 9, 3) := by decide +kernel
theorem dX4_step_93 : decode cX4_step 93 = .ok (.iload_n 1, 1) := by decide +kernel
theorem dX4_step_94 : decode cX4_step 94 = .ok (.iaload, 1) := by decide +kernel
theorem dX4_step_95 : decode cX4_step 95 = .ok (.invokestatic 31, 3) := by decide +kernel
theorem dX4_step_98 : decode cX4_step 98 = .ok (.aload_n 0, 1) := by decide +kernel
theorem dX4_step_99 : decode cX4_step 99 = .ok (.getfield 38, 3) := by decide +kernel
theorem dX4_step_102 : decode cX4_step 102 = .ok (.if_icmp .ne 9, 3) := by decide +kernel
theorem dX4_step_105 : decode cX4_step 105 = .ok (.iinc 1 1, 3) := by decide +kernel
theorem dX4_step_108 : decode cX4_step 108 = .ok (.goto (-35), 3) := by decide +kernel
theorem dX4_step_111 : decode cX4_step 111 = .ok (.aload_n 0, 1) := by decide +kernel
theorem dX4_step_112 : decode cX4_step 112 = .ok (.iload_n 1, 1) := by decide +kernel
theorem dX4_step_113 : decode cX4_step 113 = .ok (.putfield 25, 3) := by decide +kernel
theorem dX4_step_116 : decode cX4_step 116 = .ok (.return_, 1) := by decide +kernel
theorem dX4_kindOf_0 : decode cX4_kindOf 0 = .ok (.iload_n 0, 1) := by decide +kernel
theorem dX4_kindOf_1 : decode cX4_kindOf 1 = .ok (.bipush 32, 2) := by decide +kernel
theorem dX4_kindOf_3 : decode cX4_kindOf 3 = .ok (.if_icmp .eq 9, 3) := by decide +kernel
theorem dX4_kindOf_6 : decode cX4_kindOf 6 = .ok (.iload_n 0, 1) := by decide +kernel
theorem dX4_kindOf_7 : decode cX4_kindOf 7 = .ok (.bipush 10, 2) := by decide +kernel
theorem dX4_kindOf_9 : decode cX4_kindOf 9 = .ok (.if_icmp .ne 5, 3) := by decide +kernel
theorem dX4_kindOf_12 : decode cX4_kindOf 12 = .ok (.iconst 1, 1) := by decide +kernel
theorem dX4_kindOf_13 : decode cX4_kindOf 13 = .ok (.ireturn, 1) := by decide +kernel
theorem dX4_kindOf_14 : decode cX4_kindOf 14 = .ok (.iload_n 0, 1) := by decide +kernel
theorem dX4_kindOf_15 : decode cX4_kindOf 15 = .ok (.bipush 97, 2) := by decide +kernel
theorem dX4_kindOf_17 : decode cX4_kindOf 17 = .ok (.if_icmp .lt 11, 3) := by decide +kernel
theorem dX4_kindOf_20 : decode cX4_kindOf 20 = .ok (.iload_n 0, 1) := by decide +kernel
theorem dX4_kindOf_21 : decode cX4_kindOf 21 = .ok (.bipush 122, 2) := by decide +kernel
theorem dX4_kindOf_23 : decode cX4_kindOf 23 = .ok (.if_icmp .gt 5, 3) := by decide +kernel
theorem dX4_kindOf_26 : decode cX4_kindOf 26 = .ok (.iconst 2, 1) := by decide +kernel
theorem dX4_kindOf_27 : decode cX4_kindOf 27 = .ok (.ireturn, 1) := by decide +kernel
theorem dX4_kindOf_28 : decode cX4_kindOf 28 = .ok (.iload_n 0, 1) := by decide +kernel
theorem dX4_kindOf_29 : decode cX4_kindOf 29 = .ok (.bipush 48, 2) := by decide +kernel
theorem dX4_kindOf_31 : decode cX4_kindOf 31 = .ok (.if_icmp .lt 13, 3) := by decide +kernel
theorem dX4_kindOf_34 : decode cX4_kindOf 34 = .ok (.iload_n 0, 1) := by decide +kernel
theorem dX4_kindOf_35 : decode cX4_kindOf 35 = .ok (.bipush 57, 2) := by decide +kernel
theorem dX4_kindOf_37 : decode cX4_kindOf 37 = .ok (.if_icmp .gt 7, 3) := by decide +kernel
theorem dX4_kindOf_40 : decode cX4_kindOf 40 = .ok (.iconst 3, 1) := by decide +kernel
theorem dX4_kindOf_41 : decode cX4_kindOf 41 = .ok (.goto 4, 3) := by decide +kernel
theorem dX4_kindOf_44 : decode cX4_kindOf 44 = .ok (.iconst 4, 1) := by decide +kernel
theorem dX4_kindOf_45 : decode cX4_kindOf 45 = .ok (.ireturn, 1) := by decide +kernel
theorem dX4_refuse_0 : decode cX4_refuse 0 = .ok (.aload_n 0, 1) := by decide +kernel
theorem dX4_refuse_1 : decode cX4_refuse 1 = .ok (.iload_n 1, 1) := by decide +kernel
theorem dX4_refuse_2 : decode cX4_refuse 2 = .ok (.putfield 22, 3) := by decide +kernel
theorem dX4_refuse_5 : decode cX4_refuse 5 = .ok (.aload_n 0, 1) := by decide +kernel
theorem dX4_refuse_6 : decode cX4_refuse 6 = .ok (.aload_n 0, 1) := by decide +kernel
theorem dX4_refuse_7 : decode cX4_refuse 7 = .ok (.getfield 35, 3) := by decide +kernel
theorem dX4_refuse_10 : decode cX4_refuse 10 = .ok (.putfield 15, 3) := by decide +kernel
theorem dX4_refuse_13 : decode cX4_refuse 13 = .ok (.iconst 0, 1) := by decide +kernel
theorem dX4_refuse_14 : decode cX4_refuse 14 = .ok (.ireturn, 1) := by decide +kernel
theorem dX4_isAt_0 : decode cX4_isAt 0 = .ok (.aload_n 0, 1) := by decide +kernel
theorem dX4_isAt_1 : decode cX4_isAt 1 = .ok (.getfield 38, 3) := by decide +kernel
theorem dX4_isAt_4 : decode cX4_isAt 4 = .ok (.iconst 2, 1) := by decide +kernel
theorem dX4_isAt_5 : decode cX4_isAt 5 = .ok (.if_icmp .ne 19, 3) := by decide +kernel
theorem dX4_isAt_8 : decode cX4_isAt 8 = .ok (.aload_n 0, 1) := by decide +kernel
theorem dX4_isAt_9 : decode cX4_isAt 9 = .ok (.getfield 25, 3) := by decide +kernel
theorem dX4_isAt_12 : decode cX4_isAt 12 = .ok (.aload_n 0, 1) := by decide +kernel
theorem dX4_isAt_13 : decode cX4_isAt 13 = .ok (.getfield 35, 3) := by decide +kernel
theorem dX4_isAt_16 : decode cX4_isAt 16 = .ok (.isub, 1) := by decide +kernel
theorem dX4_isAt_17 : decode cX4_isAt 17 = .ok (.aload_n 1, 1) := by decide +kernel
theorem dX4_isAt_18 : decode cX4_isAt 18 = .ok (.invokevirtual 41, 3) := by decide +kernel
theorem dX4_isAt_21 : decode cX4_isAt 21 = .ok (.if_icmp .eq 5, 3) := by decide +kernel
theorem dX4_isAt_24 : decode cX4_isAt 24 = .ok (.iconst 0, 1) := by decide +kernel
theorem dX4_isAt_25 : decode cX4_isAt 25 = .ok (.ireturn, 1) := by decide +kernel
theorem dX4_isAt_26 : decode cX4_isAt 26 = .ok (.iconst 0, 1) := by decide +kernel
theorem dX4_isAt_27 : decode cX4_isAt 27 = .ok (.istore_n 2, 1) := by decide +kernel
theorem dX4_isAt_28 : decode cX4_isAt 28 = .ok (.iload_n 2, 1) := by decide +kernel
theorem dX4_isAt_29 : decode cX4_isAt 29 = .ok (.aload_n 1, 1) := by decide +kernel
theorem dX4_isAt_30 : decode cX4_isAt 30 = .ok (.invokevirtual 41, 3) := by decide +kernel
theorem dX4_isAt_33 : decode cX4_isAt 33 = .ok (.if_icmp .ge 30, 3) := by decide +kernel
theorem dX4_isAt_36 : decode cX4_isAt 36 = .ok (.aload_n 0, 1) := by decide +kernel
theorem dX4_isAt_37 : decode cX4_isAt 37 = .ok (.getfield 9, 3) := by decide +kernel
theorem dX4_isAt_40 : decode cX4_isAt 40 = .ok (.aload_n 0, 1) := by decide +kernel
theorem dX4_isAt_41 : decode cX4_isAt 41 = .ok (.getfield 35, 3) := by decide +kernel
theorem dX4_isAt_44 : decode cX4_isAt 44 = .ok (.iload_n 2, 1) := by decide +kernel
theorem dX4_isAt_45 : decode cX4_isAt 45 = .ok (.iadd, 1) := by decide +kernel
theorem dX4_isAt_46 : decode cX4_isAt 46 = .ok (.iaload, 1) := by decide +kernel
theorem dX4_isAt_47 : decode cX4_isAt 47 = .ok (.aload_n 1, 1) := by decide +kernel
theorem dX4_isAt_48 : decode cX4_isAt 48 = .ok (.iload_n 2, 1) := by decide +kernel
theorem dX4_isAt_49 : decode cX4_isAt 49 = .ok (.invokevirtual 47, 3) := by decide +kernel
theorem dX4_isAt_52 : decode cX4_isAt 52 = .ok (.if_icmp .eq 5, 3) := by decide +kernel
theorem dX4_isAt_55 : decode cX4_isAt 55 = .ok (.iconst 0, 1) := by decide +kernel
theorem dX4_isAt_56 : decode cX4_isAt 56 = .ok (.ireturn, 1) := by decide +kernel
theorem dX4_isAt_57 : decode cX4_isAt 57 = .ok (.iinc 2 1, 3) := by decide +kernel
theorem dX4_isAt_60 : decode cX4_isAt 60 = .ok (.goto (-32), 3) := by decide +kernel
theorem dX4_isAt_63 : decode cX4_isAt 63 = .ok (.iconst 1, 1) := by decide +kernel
theorem dX4_isAt_64 : decode cX4_isAt 64 = .ok (.ireturn, 1) := by decide +kernel
theorem dX4_takeWord_0 : decode cX4_takeWord 0 = .ok (.aload_n 0, 1) := by decide +kernel
theorem dX4_takeWord_1 : decode cX4_takeWord 1 = .ok (.aload_n 1, 1) := by decide +kernel
theorem dX4_takeWord_2 : decode cX4_takeWord 2 = .ok (.invokevirtual 51, 3) := by decide +kernel
theorem dX4_takeWord_5 : decode cX4_takeWord 5 = .ok (.ifCond .ne 5, 3) := by decide +kernel
theorem dX4_takeWord_8 : decode cX4_takeWord 8 = .ok (.iconst 0, 1) := by decide +kernel
theorem dX4_takeWord_9 : decode cX4_takeWord 9 = .ok (.ireturn, 1) := by decide +kernel
theorem dX4_takeWord_10 : decode cX4_takeWord 10 = .ok (.aload_n 0, 1) := by decide +kernel
theorem dX4_takeWord_11 : decode cX4_takeWord 11 = .ok (.invokevirtual 28, 3) := by decide +kernel
theorem dX4_takeWord_14 : decode cX4_takeWord 14 = .ok (.iconst 1, 1) := by decide +kernel
theorem dX4_takeWord_15 : decode cX4_takeWord 15 = .ok (.ireturn, 1) := by decide +kernel
theorem dX4_takeSeparator_0 : decode cX4_takeSeparator 0 = .ok (.aload_n 0, 1) := by decide +kernel
theorem dX4_takeSeparator_1 : decode cX4_takeSeparator 1 = .ok (.getfield 38, 3) := by decide +kernel
theorem dX4_takeSeparator_4 : decode cX4_takeSeparator 4 = .ok (.iconst 4, 1) := by decide +kernel
theorem dX4_takeSeparator_5 : decode cX4_takeSeparator 5 = .ok (.if_icmp .ne 17, 3) := by decide +kernel
theorem dX4_takeSeparator_8 : decode cX4_takeSeparator 8 = .ok (.aload_n 0, 1) := by decide +kernel
theorem dX4_takeSeparator_9 : decode cX4_takeSeparator 9 = .ok (.getfield 9, 3) := by decide +kernel
theorem dX4_takeSeparator_12 : decode cX4_takeSeparator 12 = .ok (.aload_n 0, 1) := by decide +kernel
theorem dX4_takeSeparator_13 : decode cX4_takeSeparator 13 = .ok (.getfield 35, 3) := by decide +kernel
theorem dX4_takeSeparator_16 : decode cX4_takeSeparator 16 = .ok (.iaload, 1) := by decide +kernel
theorem dX4_takeSeparator_17 : decode cX4_takeSeparator 17 = .ok (.bipush 59, 2) := by decide +kernel
theorem dX4_takeSeparator_19 : decode cX4_takeSeparator 19 = .ok (.if_icmp .eq 5, 3) := by decide +kernel
theorem dX4_takeSeparator_22 : decode cX4_takeSeparator 22 = .ok (.iconst 0, 1) := by decide +kernel
theorem dX4_takeSeparator_23 : decode cX4_takeSeparator 23 = .ok (.ireturn, 1) := by decide +kernel
theorem dX4_takeSeparator_24 : decode cX4_takeSeparator 24 = .ok (.aload_n 0, 1) := by decide +kernel
theorem dX4_takeSeparator_25 : decode cX4_takeSeparator 25 = .ok (.invokevirtual 28, 3) := by decide +kernel
theorem dX4_takeSeparator_28 : decode cX4_takeSeparator 28 = .ok (.iconst 1, 1) := by decide +kernel
theorem dX4_takeSeparator_29 : decode cX4_takeSeparator 29 = .ok (.ireturn, 1) := by decide +kernel
theorem dX4_takeNumber_0 : decode cX4_takeNumber 0 = .ok (.aload_n 0, 1) := by decide +kernel
theorem dX4_takeNumber_1 : decode cX4_takeNumber 1 = .ok (.getfield 38, 3) := by decide +kernel
theorem dX4_takeNumber_4 : decode cX4_takeNumber 4 = .ok (.iconst 3, 1) := by decide +kernel
theorem dX4_takeNumber_5 : decode cX4_takeNumber 5 = .ok (.if_icmp .eq 9, 3) := by decide +kernel
theorem dX4_takeNumber_8 : decode cX4_takeNumber 8 = .ok (.aload_n 0, 1) := by decide +kernel
theorem dX4_takeNumber_9 : decode cX4_takeNumber 9 = .ok (.iconst 1, 1) := by decide +kernel
theorem dX4_takeNumber_10 : decode cX4_takeNumber 10 = .ok (.invokevirtual 55, 3) := by decide +kernel
theorem dX4_takeNumber_13 : decode cX4_takeNumber 13 = .ok (.ireturn, 1) := by decide +kernel
theorem dX4_takeNumber_14 : decode cX4_takeNumber 14 = .ok (.aload_n 0, 1) := by decide +kernel
theorem dX4_takeNumber_15 : decode cX4_takeNumber 15 = .ok (.getfield 25, 3) := by decide +kernel
theorem dX4_takeNumber_18 : decode cX4_takeNumber 18 = .ok (.aload_n 0, 1) := by decide +kernel
theorem dX4_takeNumber_19 : decode cX4_takeNumber 19 = .ok (.getfield 35, 3) := by decide +kernel
theorem dX4_takeNumber_22 : decode cX4_takeNumber 22 = .ok (.isub, 1) := by decide +kernel
theorem dX4_takeNumber_23 : decode cX4_takeNumber 23 = .ok (.iconst 5, 1) := by decide +kernel
theorem dX4_takeNumber_24 : decode cX4_takeNumber 24 = .ok (.if_icmp .le 9, 3) := by decide +kernel
theorem dX4_takeNumber_27 : decode cX4_takeNumber 27 = .ok (.aload_n 0, 1) := by decide +kernel
theorem dX4_takeNumber_28 : decode cX4_takeNumber 28 = .ok (.iconst 2, 1) := by decide +kernel
theorem dX4_takeNumber_29 : decode cX4_takeNumber 29 = .ok (.invokevirtual 55, 3) := by decide +kernel
theorem dX4_takeNumber_32 : decode cX4_takeNumber 32 = .ok (.ireturn, 1) := by decide +kernel
theorem dX4_takeNumber_33 : decode cX4_takeNumber 33 = .ok (.iconst 0, 1) := by decide +kernel
theorem dX4_takeNumber_34 : decode cX4_takeNumber 34 = .ok (.istore 5, 2) := by decide +kernel
theorem dX4_takeNumber_36 : decode cX4_takeNumber 36 = .ok (.aload_n 0, 1) := by decide +kernel
theorem dX4_takeNumber_37 : decode cX4_takeNumber 37 = .ok (.getfield 35, 3) := by decide +kernel
theorem dX4_takeNumber_40 : decode cX4_takeNumber 40 = .ok (.istore 6, 2) := by decide +kernel
theorem dX4_takeNumber_42 : decode cX4_takeNumber 42 = .ok (.iload 6, 2) := by decide +kernel
theorem dX4_takeNumber_44 : decode cX4_takeNumber 44 = .ok (.aload_n 0, 1) := by decide +kernel
theorem dX4_takeNumber_45 : decode cX4_takeNumber 45 = .ok (.getfield 25, 3) := by decide +kernel
theorem dX4_takeNumber_48 : decode cX4_takeNumber 48 = .ok (.if_icmp .ge 27, 3) := by decide +kernel
theorem dX4_takeNumber_51 : decode cX4_takeNumber 51 = .ok (.iload 5, 2) := by decide +kernel
theorem dX4_takeNumber_53 : decode cX4_takeNumber 53 = .ok (.bipush 10, 2) := by decide +kernel
theorem dX4_takeNumber_55 : decode cX4_takeNumber 55 = .ok (.imul, 1) := by decide +kernel
theorem dX4_takeNumber_56 : decode cX4_takeNumber 56 = .ok (.aload_n 0, 1) := by decide +kernel
theorem dX4_takeNumber_57 : decode cX4_takeNumber 57 = .ok (.getfield 9, 3) := by decide +kernel
theorem dX4_takeNumber_60 : decode cX4_takeNumber 60 = .ok (.iload 6, 2) := by decide +kernel
theorem dX4_takeNumber_62 : decode cX4_takeNumber 62 = .ok (.iaload, 1) := by decide +kernel
theorem dX4_takeNumber_63 : decode cX4_takeNumber 63 = .ok (.iadd, 1) := by decide +kernel
theorem dX4_takeNumber_64 : decode cX4_takeNumber 64 = .ok (.bipush 48, 2) := by decide +kernel
theorem dX4_takeNumber_66 : decode cX4_takeNumber 66 = .ok (.isub, 1) := by decide +kernel
theorem dX4_takeNumber_67 : decode cX4_takeNumber 67 = .ok (.istore 5, 2) := by decide +kernel
theorem dX4_takeNumber_69 : decode cX4_takeNumber 69 = .ok (.iinc 6 1, 3) := by decide +kernel
theorem dX4_takeNumber_72 : decode cX4_takeNumber 72 = .ok (.goto (-30), 3) := by decide +kernel
theorem dX4_takeNumber_75 : decode cX4_takeNumber 75 = .ok (.iload 5, 2) := by decide +kernel
theorem dX4_takeNumber_77 : decode cX4_takeNumber 77 = .ok (.iload_n 3, 1) := by decide +kernel
theorem dX4_takeNumber_78 : decode cX4_takeNumber 78 = .ok (.if_icmp .lt 10, 3) := by decide +kernel
theorem dX4_takeNumber_81 : decode cX4_takeNumber 81 = .ok (.iload 5, 2) := by decide +kernel
theorem dX4_takeNumber_83 : decode cX4_takeNumber 83 = .ok (.iload 4, 2) := by decide +kernel
theorem dX4_takeNumber_85 : decode cX4_takeNumber 85 = .ok (.if_icmp .le 9, 3) := by decide +kernel
theorem dX4_takeNumber_88 : decode cX4_takeNumber 88 = .ok (.aload_n 0, 1) := by decide +kernel
theorem dX4_takeNumber_89 : decode cX4_takeNumber 89 = .ok (.iconst 2, 1) := by decide +kernel
theorem dX4_takeNumber_90 : decode cX4_takeNumber 90 = .ok (.invokevirtual 55, 3) := by decide +kernel
theorem dX4_takeNumber_93 : decode cX4_takeNumber 93 = .ok (.ireturn, 1) := by decide +kernel
theorem dX4_takeNumber_94 : decode cX4_takeNumber 94 = .ok (.aload_n 1, 1) := by decide +kernel
theorem dX4_takeNumber_95 : decode cX4_takeNumber 95 = .ok (.iload_n 2, 1) := by decide +kernel
theorem dX4_takeNumber_96 : decode cX4_takeNumber 96 = .ok (.iload 5, 2) := by decide +kernel
theorem dX4_takeNumber_98 : decode cX4_takeNumber 98 = .ok (.iastore, 1) := by decide +kernel
theorem dX4_takeNumber_99 : decode cX4_takeNumber 99 = .ok (.aload_n 0, 1) := by decide +kernel
theorem dX4_takeNumber_100 : decode cX4_takeNumber 100 = .ok (.invokevirtual 28, 3) := by decide +kernel
theorem dX4_takeNumber_103 : decode cX4_takeNumber 103 = .ok (.iconst 1, 1) := by decide +kernel
theorem dX4_takeNumber_104 : decode cX4_takeNumber 104 = .ok (.ireturn, 1) := by decide +kernel
theorem dX5_init_0 : decode cX5_init 0 = .ok (.aload_n 0, 1) := by decide +kernel
theorem dX5_init_1 : decode cX5_init 1 = .ok (.invokespecial 3, 3) := by decide +kernel
theorem dX5_init_4 : decode cX5_init 4 = .ok (.aload_n 0, 1) := by decide +kernel
theorem dX5_init_5 : decode cX5_init 5 = .ok (.bipush 12, 2) := by decide +kernel
theorem dX5_init_7 : decode cX5_init 7 = .ok (.iconst 3, 1) := by decide +kernel
theorem dX5_init_8 : decode cX5_init 8 = .ok (.multianewarray 9 2, 4) := by decide +kernel
theorem dX5_init_12 : decode cX5_init 12 = .ok (.putfield 11, 3) := by decide +kernel
theorem dX5_init_15 : decode cX5_init 15 = .ok (.aload_n 0, 1) := by decide +kernel
theorem dX5_init_16 : decode cX5_init 16 = .ok (.iconst 4, 1) := by decide +kernel
theorem dX5_init_17 : decode cX5_init 17 = .ok (.bipush 11, 2) := by decide +kernel
theorem dX5_init_19 : decode cX5_init 19 = .ok (.multianewarray 9 2, 4) := by decide +kernel
theorem dX5_init_23 : decode cX5_init 23 = .ok (.putfield 16, 3) := by decide +kernel
theorem dX5_init_26 : decode cX5_init 26 = .ok (.aload_n 0, 1) := by decide +kernel
theorem dX5_init_27 : decode cX5_init 27 = .ok (.iconst 4, 1) := by decide +kernel
theorem dX5_init_28 : decode cX5_init 28 = .ok (.bipush 6, 2) := by decide +kernel
theorem dX5_init_30 : decode cX5_init 30 = .ok (.multianewarray 9 2, 4) := by decide +kernel
theorem dX5_init_34 : decode cX5_init 34 = .ok (.putfield 19, 3) := by decide +kernel
theorem dX5_init_37 : decode cX5_init 37 = .ok (.return_, 1) := by decide +kernel
theorem dX5_clear_0 : decode cX5_clear 0 = .ok (.aload_n 0, 1) := by decide +kernel
theorem dX5_clear_1 : decode cX5_clear 1 = .ok (.iconst 0, 1) := by decide +kernel
theorem dX5_clear_2 : decode cX5_clear 2 = .ok (.putfield 22, 3) := by decide +kernel
theorem dX5_clear_5 : decode cX5_clear 5 = .ok (.aload_n 0, 1) := by decide +kernel
theorem dX5_clear_6 : decode cX5_clear 6 = .ok (.iconst 0, 1) := by decide +kernel
theorem dX5_clear_7 : decode cX5_clear 7 = .ok (.putfield 26, 3) := by decide +kernel
theorem dX5_clear_10 : decode cX5_clear 10 = .ok (.iconst 0, 1) := by decide +kernel
theorem dX5_clear_11 : decode cX5_clear 11 = .ok (.istore_n 1, 1) := by decide +kernel
theorem dX5_clear_12 : decode cX5_clear 12 = .ok (.iload_n 1, 1) := by decide +kernel
theorem dX5_clear_13 : decode cX5_clear 13 = .ok (.iconst 4, 1) := by decide +kernel
theorem dX5_clear_14 : decode cX5_clear 14 = .ok (.if_icmp .ge 41, 3) := by decide +kernel
theorem dX5_clear_17 : decode cX5_clear 17 = .ok (.iconst 0, 1) := by decide +kernel
theorem dX5_clear_18 : decode cX5_clear 18 = .ok (.istore_n 2, 1) := by decide +kernel
theorem dX5_clear_19 : decode cX5_clear 19 = .ok (.iload_n 2, 1) := by decide +kernel
theorem dX5_clear_20 : decode cX5_clear 20 = .ok (.bipush 6, 2) := by decide +kernel
theorem dX5_clear_22 : decode cX5_clear 22 = .ok (.if_icmp .ge 18, 3) := by decide +kernel
theorem dX5_clear_25 : decode cX5_clear 25 = .ok (.aload_n 0, 1) := by decide +kernel
theorem dX5_clear_26 : decode cX5_clear 26 = .ok (.getfield 19, 3) := by decide +kernel
theorem dX5_clear_29 : decode cX5_clear 29 = .ok (.iload_n 1, 1) := by decide +kernel
theorem dX5_clear_30 : decode cX5_clear 30 = .ok (.aaload, 1) := by decide +kernel
theorem dX5_clear_31 : decode cX5_clear 31 = .ok (.iload_n 2, 1) := by decide +kernel
theorem dX5_clear_32 : decode cX5_clear 32 = .ok (.iconst 0, 1) := by decide +kernel
theorem dX5_clear_33 : decode cX5_clear 33 = .ok (.iastore, 1) := by decide +kernel
theorem dX5_clear_34 : decode cX5_clear 34 = .ok (.iinc 2 1, 3) := by decide +kernel
theorem dX5_clear_37 : decode cX5_clear 37 = .ok (.goto (-18), 3) := by decide +kernel
theorem dX5_clear_40 : decode cX5_clear 40 = .ok (.aload_n 0, 1) := by decide +kernel
theorem dX5_clear_41 : decode cX5_clear 41 = .ok (.getfield 16, 3) := by decide +kernel
theorem dX5_clear_44 : decode cX5_clear 44 = .ok (.iload_n 1, 1) := by decide +kernel
theorem dX5_clear_45 : decode cX5_clear 45 = .ok (.aaload, 1) := by decide +kernel
theorem dX5_clear_46 : decode cX5_clear 46 = .ok (.invokestatic 29, 3) := by decide +kernel
theorem dX5_clear_49 : decode cX5_clear 49 = .ok (.iinc 1 1, 3) := by decide +kernel
theorem dX5_clear_52 : decode cX5_clear 52 = .ok (.goto (-40), 3) := by decide +kernel
theorem dX5_clear_55 : decode cX5_clear 55 = .ok (.return_, 1) := by decide +kernel
theorem dX5_setUsual_0 : decode cX5_setUsual 0 = .ok (.aload_n 0, 1) := by decide +kernel
theorem dX5_setUsual_1 : decode cX5_setUsual 1 = .ok (.iconst 3, 1) := by decide +kernel
theorem dX5_setUsual_2 : decode cX5_setUsual 2 = .ok (.iconst 0, 1) := by decide +kernel
theorem dX5_setUsual_3 : decode cX5_setUsual 3 = .ok (.iastore, 1) := by decide +kernel
theorem dX5_setUsual_4 : decode cX5_setUsual 4 = .ok (.aload_n 0, 1) := by decide +kernel
theorem dX5_setUsual_5 : decode cX5_setUsual 5 = .ok (.iconst 4, 1) := by decide +kernel
theorem dX5_setUsual_6 : decode cX5_setUsual 6 = .ok (.iconst 0, 1) := by decide +kernel
theorem dX5_setUsual_7 : decode cX5_setUsual 7 = .ok (.iastore, 1) := by decide +kernel
theorem dX5_setUsual_8 : decode cX5_setUsual 8 = .ok (.aload_n 0, 1) := by decide +kernel
theorem dX5_setUsual_9 : decode cX5_setUsual 9 = .ok (.iconst 5, 1) := by decide +kernel
theorem dX5_setUsual_10 : decode cX5_setUsual 10 = .ok (.iconst 1, 1) := by decide +kernel
theorem dX5_setUsual_11 : decode cX5_setUsual 11 = .ok (.iastore, 1) := by decide +kernel
theorem dX5_setUsual_12 : decode cX5_setUsual 12 = .ok (.aload_n 0, 1) := by decide +kernel
theorem dX5_setUsual_13 : decode cX5_setUsual 13 = .ok (.bipush 9, 2) := by decide +kernel
theorem dX5_setUsual_15 : decode cX5_setUsual 15 = .ok (.bipush 6, 2) := by decide +kernel
theorem dX5_setUsual_17 : decode cX5_setUsual 17 = .ok (.iastore, 1) := by decide +kernel
theorem dX5_setUsual_18 : decode cX5_setUsual 18 = .ok (.aload_n 0, 1) := by decide +kernel
theorem dX5_setUsual_19 : decode cX5_setUsual 19 = .ok (.bipush 10, 2) := by decide +kernel
theorem dX5_setUsual_21 : decode cX5_setUsual 21 = .ok (.iconst 0, 1) := by decide +kernel
theorem dX5_setUsual_22 : decode cX5_setUsual 22 = .ok (.iastore, 1) := by decide +kernel
theorem dX5_setUsual_23 : decode cX5_setUsual 23 = .ok (.return_, 1) := by decide +kernel
theorem dX5_copyFrom_0 : decode cX5_copyFrom 0 = .ok (.aload_n 0, 1) := by decide +kernel
theorem dX5_copyFrom_1 : decode cX5_copyFrom 1 = .ok (.aload_n 1, 1) := by decide +kernel
theorem dX5_copyFrom_2 : decode cX5_copyFrom 2 = .ok (.getfield 22, 3) := by decide +kernel
theorem dX5_copyFrom_5 : decode cX5_copyFrom 5 = .ok (.putfield 22, 3) := by decide +kernel
theorem dX5_copyFrom_8 : decode cX5_copyFrom 8 = .ok (.aload_n 0, 1) := by decide +kernel
theorem dX5_copyFrom_9 : decode cX5_copyFrom 9 = .ok (.aload_n 1, 1) := by decide +kernel
theorem dX5_copyFrom_10 : decode cX5_copyFrom 10 = .ok (.getfield 26, 3) := by decide +kernel
theorem dX5_copyFrom_13 : decode cX5_copyFrom 13 = .ok (.putfield 26, 3) := by decide +kernel
theorem dX5_copyFrom_16 : decode cX5_copyFrom 16 = .ok (.iconst 0, 1) := by decide +kernel
theorem dX5_copyFrom_17 : decode cX5_copyFrom 17 = .ok (.istore_n 2, 1) := by decide +kernel
theorem dX5_copyFrom_18 : decode cX5_copyFrom 18 = .ok (.iload_n 2, 1) := by decide +kernel
theorem dX5_copyFrom_19 : decode cX5_copyFrom 19 = .ok (.aload_n 0, 1) := by decide +kernel
theorem dX5_copyFrom_20 : decode cX5_copyFrom 20 = .ok (.getfield 22, 3) := by decide +kernel
theorem dX5_copyFrom_23 : decode cX5_copyFrom 23 = .ok (.if_icmp .ge 27, 3) := by decide +kernel
theorem dX5_copyFrom_26 : decode cX5_copyFrom 26 = .ok (.aload_n 1, 1) := by decide +kernel
theorem dX5_copyFrom_27 : decode cX5_copyFrom 27 = .ok (.getfield 11, 3) := by decide +kernel
theorem dX5_copyFrom_30 : decode cX5_copyFrom 30 = .ok (.iload_n 2, 1) := by decide +kernel
theorem dX5_copyFrom_31 : decode cX5_copyFrom 31 = .ok (.aaload, 1) := by decide +kernel
theorem dX5_copyFrom_32 : decode cX5_copyFrom 32 = .ok (.iconst 0, 1) := by decide +kernel
theorem dX5_copyFrom_33 : decode cX5_copyFrom 33 = .ok (.aload_n 0, 1) := by decide +kernel
theorem dX5_copyFrom_34 : decode cX5_copyFrom 34 = .ok (.getfield 11, 3) := by decide +kernel
theorem dX5_copyFrom_37 : decode cX5_copyFrom 37 = .ok (.iload_n 2, 1) := by decide +kernel
theorem dX5_copyFrom_38 : decode cX5_copyFrom 38 = .ok (.aaload, 1) := by decide +kernel
theorem dX5_copyFrom_39 : decode cX5_copyFrom 39 = .ok (.iconst 0, 1) := by decide +kernel
theorem dX5_copyFrom_40 : decode cX5_copyFrom 40 = .ok (.iconst 3, 1) := by decide +kernel
theorem dX5_copyFrom_41 : decode cX5_copyFrom 41 = .ok (.invokestatic 33, 3) := by decide +kernel
theorem dX5_copyFrom_44 : decode cX5_copyFrom 44 = .ok (.iinc 2 1, 3) := by decide +kernel
theorem dX5_copyFrom_47 : decode cX5_copyFrom 47 = .ok (.goto (-29), 3) := by decide +kernel
theorem dX5_copyFrom_50 : decode cX5_copyFrom 50 = .ok (.iconst 0, 1) := by decide +kernel
theorem dX5_copyFrom_51 : decode cX5_copyFrom 51 = .ok (.istore_n 2, 1) := by decide +kernel
theorem dX5_copyFrom_52 : decode cX5_copyFrom 52 = .ok (.iload_n 2, 1) := by decide +kernel
theorem dX5_copyFrom_53 : decode cX5_copyFrom 53 = .ok (.aload_n 0, 1) := by decide +kernel
theorem dX5_copyFrom_54 : decode cX5_copyFrom 54 = .ok (.getfield 26, 3) := by decide +kernel
theorem dX5_copyFrom_57 : decode cX5_copyFrom 57 = .ok (.if_icmp .ge 47, 3) := by decide +kernel
theorem dX5_copyFrom_60 : decode cX5_copyFrom 60 = .ok (.aload_n 1, 1) := by decide +kernel
theorem dX5_copyFrom_61 : decode cX5_copyFrom 61 = .ok (.getfield 16, 3) := by decide +kernel
theorem dX5_copyFrom_64 : decode cX5_copyFrom 64 = .ok (.iload_n 2, 1) := by decide +kernel
theorem dX5_copyFrom_65 : decode cX5_copyFrom 65 = .ok (.aaload, 1) := by decide +kernel
theorem dX5_copyFrom_66 : decode cX5_copyFrom 66 = .ok (.iconst 0, 1) := by decide +kernel
theorem dX5_copyFrom_67 : decode cX5_copyFrom 67 = .ok (.aload_n 0, 1) := by decide +kernel
theorem dX5_copyFrom_68 : decode cX5_copyFrom 68 = .ok (.getfield 16, 3) := by decide +kernel
theorem dX5_copyFrom_71 : decode cX5_copyFrom 71 = .ok (.iload_n 2, 1) := by decide +kernel
theorem dX5_copyFrom_72 : decode cX5_copyFrom 72 = .ok (.aaload, 1) := by decide +kernel
theorem dX5_copyFrom_73 : decode cX5_copyFrom 73 = .ok (.iconst 0, 1) := by decide +kernel
theorem dX5_copyFrom_74 : decode cX5_copyFrom 74 = .ok (.bipush 11, 2) := by decide +kernel
theorem dX5_copyFrom_76 : decode cX5_copyFrom 76 = .ok (.invokestatic 33, 3) := by decide +kernel
theorem dX5_copyFrom_79 : decode cX5_copyFrom 79 = .ok (.aload_n 1, 1) := by decide +kernel
theorem dX5_copyFrom_80 : decode cX5_copyFrom 80 = .ok (.getfield 19, 3) := by decide +kernel
theorem dX5_copyFrom_83 : decode cX5_copyFrom 83 = .ok (.iload_n 2, 1) := by decide +kernel
theorem dX5_copyFrom_84 : decode cX5_copyFrom 84 = .ok (.aaload, 1) := by decide +kernel
theorem dX5_copyFrom_85 : decode cX5_copyFrom 85 = .ok (.iconst 0, 1) := by decide +kernel
theorem dX5_copyFrom_86 : decode cX5_copyFrom 86 = .ok (.aload_n 0, 1) := by decide +kernel
theorem dX5_copyFrom_87 : decode cX5_copyFrom 87 = .ok (.getfield 19, 3) := by decide +kernel
theorem dX5_copyFrom_90 : decode cX5_copyFrom 90 = .ok (.iload_n 2, 1) := by decide +kernel
theorem dX5_copyFrom_91 : decode cX5_copyFrom 91 = .ok (.aaload, 1) := by decide +kernel
theorem dX5_copyFrom_92 : decode cX5_copyFrom 92 = .ok (.iconst 0, 1) := by decide +kernel
theorem dX5_copyFrom_93 : decode cX5_copyFrom 93 = .ok (.bipush 6, 2) := by decide +kernel
theorem dX5_copyFrom_95 : decode cX5_copyFrom 95 = .ok (.invokestatic 33, 3) := by decide +kernel
theorem dX5_copyFrom_98 : decode cX5_copyFrom 98 = .ok (.iinc 2 1, 3) := by decide +kernel
theorem dX5_copyFrom_101 : decode cX5_copyFrom 101 = .ok (.goto (-49), 3) := by decide +kernel
theorem dX5_copyFrom_104 : decode cX5_copyFrom 104 = .ok (.return_, 1) := by decide +kernel
theorem dX6_init_0 : decode cX6_init 0 = .ok (.aload_n 0, 1) := by decide +kernel
theorem dX6_init_1 : decode cX6_init 1 = .ok (.invokespecial 3, 3) := by decide +kernel
theorem dX6_init_4 : decode cX6_init 4 = .ok (.aload_n 0, 1) := by decide +kernel
theorem dX6_init_5 : decode cX6_init 5 = .ok (.bipush 30, 2) := by decide +kernel
theorem dX6_init_7 : decode cX6_init 7 = .ok (.newarray .int, 2) := by decide +kernel
theorem dX6_init_9 : decode cX6_init 9 = .ok (.putfield 9, 3) := by decide +kernel
theorem dX6_init_12 : decode cX6_init 12 = .ok (.aload_n 0, 1) := by decide +kernel
theorem dX6_init_13 : decode cX6_init 13 = .ok (.bipush 30, 2) := by decide +kernel
theorem dX6_init_15 : decode cX6_init 15 = .ok (.newarray .int, 2) := by decide +kernel
theorem dX6_init_17 : decode cX6_init 17 = .ok (.putfield 15, 3) := by decide +kernel
theorem dX6_init_20 : decode cX6_init 20 = .ok (.aload_n 0, 1) := by decide +kernel
theorem dX6_init_21 : decode cX6_init 21 = .ok (.bipush 30, 2) := by decide +kernel
theorem dX6_init_23 : decode cX6_init 23 = .ok (.newarray .int, 2) := by decide +kernel
theorem dX6_init_25 : decode cX6_init 25 = .ok (.putfield 18, 3) := by decide +kernel
theorem dX6_init_28 : decode cX6_init 28 = .ok (.aload_n 0, 1) := by decide +kernel
theorem dX6_init_29 : decode cX6_init 29 = .ok (.bipush 30, 2) := by decide +kernel
theorem dX6_init_31 : decode cX6_init 31 = .ok (.newarray .int, 2) := by decide +kernel
theorem dX6_init_33 : decode cX6_init 33 = .ok (.putfield 21, 3) := by decide +kernel
theorem dX6_init_36 : decode cX6_init 36 = .ok (.aload_n 0, 1) := by decide +kernel
theorem dX6_init_37 : decode cX6_init 37 = .ok (.bipush 30, 2) := by decide +kernel
theorem dX6_init_39 : decode cX6_init 39 = .ok (.newarray .int, 2) := by decide +kernel
theorem dX6_init_41 : decode cX6_init 41 = .ok (.putfield 24, 3) := by decide +kernel
theorem dX6_init_44 : decode cX6_init 44 = .ok (.aload_n 0, 1) := by decide +kernel
theorem dX6_init_45 : decode cX6_init 45 = .ok (.bipush 120, 2) := by decide +kernel
theorem dX6_init_47 : decode cX6_init 47 = .ok (.newarray .int, 2) := by decide +kernel
theorem dX6_init_49 : decode cX6_init 49 = .ok (.putfield 27, 3) := by decide +kernel
theorem dX6_init_52 : decode cX6_init 52 = .ok (.aload_n 0, 1) := by decide +kernel
theorem dX6_init_53 : decode cX6_init 53 = .ok (.bipush 120, 2) := by decide +kernel
theorem dX6_init_55 : decode cX6_init 55 = .ok (.newarray .int, 2) := by decide +kernel
theorem dX6_init_57 : decode cX6_init 57 = .ok (.putfield 30, 3) := by decide +kernel
theorem dX6_init_60 : decode cX6_init 60 = .ok (.return_, 1) := by decide +kernel
theorem dX6_clear_0 : decode cX6_clear 0 = .ok (.aload_n 0, 1) := by decide +kernel
theorem dX6_clear_1 : decode cX6_clear 1 = .ok (.iconst 0, 1) := by decide +kernel
theorem dX6_clear_2 : decode cX6_clear 2 = .ok (.putfield 33, 3) := by decide +kernel
theorem dX6_clear_5 : decode cX6_clear 5 = .ok (.aload_n 0, 1) := by decide +kernel
theorem dX6_clear_6 : decode cX6_clear 6 = .ok (.iconst 0, 1) := by decide +kernel
theorem dX6_clear_7 : decode cX6_clear 7 = .ok (.putfield 37, 3) := by decide +kernel
theorem dX6_clear_10 : decode cX6_clear 10 = .ok (.return_, 1) := by decide +kernel
theorem dX6_copyFrom_0 : decode cX6_copyFrom 0 = .ok (.aload_n 0, 1) := by decide +kernel
theorem dX6_copyFrom_1 : decode cX6_copyFrom 1 = .ok (.aload_n 1, 1) := by decide +kernel
theorem dX6_copyFrom_2 : decode cX6_copyFrom 2 = .ok (.getfield 33, 3) := by decide +kernel
theorem dX6_copyFrom_5 : decode cX6_copyFrom 5 = .ok (.putfield 33, 3) := by decide +kernel
theorem dX6_copyFrom_8 : decode cX6_copyFrom 8 = .ok (.aload_n 0, 1) := by decide +kernel
theorem dX6_copyFrom_9 : decode cX6_copyFrom 9 = .ok (.aload_n 1, 1) := by decide +kernel
theorem dX6_copyFrom_10 : decode cX6_copyFrom 10 = .ok (.getfield 37, 3) := by decide +kernel
theorem dX6_copyFrom_13 : decode cX6_copyFrom 13 = .ok (.putfield 37, 3) := by decide +kernel
theorem dX6_copyFrom_16 : decode cX6_copyFrom 16 = .ok (.aload_n 1, 1) := by decide +kernel
theorem dX6_copyFrom_17 : decode cX6_copyFrom 17 = .ok (.getfield 9, 3) := by decide +kernel
theorem dX6_copyFrom_20 : decode cX6_copyFrom 20 = .ok (.iconst 0, 1) := by decide +kernel
theorem dX6_copyFrom_21 : decode cX6_copyFrom 21 = .ok (.aload_n 0, 1) := by decide +kernel
theorem dX6_copyFrom_22 : decode cX6_copyFrom 22 = .ok (.getfield 9, 3) := by decide +kernel
theorem dX6_copyFrom_25 : decode cX6_copyFrom 25 = .ok (.iconst 0, 1) := by decide +kernel
theorem dX6_copyFrom_26 : decode cX6_copyFrom 26 = .ok (.aload_n 0, 1) := by decide +kernel
theorem dX6_copyFrom_27 : decode cX6_copyFrom 27 = .ok (.getfield 33, 3) := by decide +kernel
theorem dX6_copyFrom_30 : decode cX6_copyFrom 30 = .ok (.invokestatic 40, 3) := by decide +kernel
theorem dX6_copyFrom_33 : decode cX6_copyFrom 33 = .ok (.aload_n 1, 1) := by decide +kernel
theorem dX6_copyFrom_34 : decode cX6_copyFrom 34 = .ok (.getfield 15, 3) := by decide +kernel
theorem dX6_copyFrom_37 : decode cX6_copyFrom 37 = .ok (.iconst 0, 1) := by decide +kernel
theorem dX6_copyFrom_38 : decode cX6_copyFrom 38 = .ok (.aload_n 0, 1) := by decide +kernel
theorem dX6_copyFrom_39 : decode cX6_copyFrom 39 = .ok (.getfield 15, 3) := by decide +kernel
theorem dX6_copyFrom_42 : decode cX6_copyFrom 42 = .ok (.iconst 0, 1) := by decide +kernel
theorem dX6_copyFrom_43 : decode cX6_copyFrom 43 = .ok (.aload_n 0, 1) := by decide +kernel
theorem dX6_copyFrom_44 : decode cX6_copyFrom 44 = .ok (.getfield 33, 3) := by decide +kernel
theorem dX6_copyFrom_47 : decode cX6_copyFrom 47 = .ok (.invokestatic 40, 3) := by decide +kernel
theorem dX6_copyFrom_50 : decode cX6_copyFrom 50 = .ok (.aload_n 1, 1) := by decide +kernel
theorem dX6_copyFrom_51 : decode cX6_copyFrom 51 = .ok (.getfield 18, 3) := by decide +kernel
theorem dX6_copyFrom_54 : decode cX6_copyFrom 54 = .ok (.iconst 0, 1) := by decide +kernel
theorem dX6_copyFrom_55 : decode cX6_copyFrom 55 = .ok (.aload_n 0, 1) := by decide +kernel
theorem dX6_copyFrom_56 : decode cX6_copyFrom 56 = .ok (.getfield 18, 3) := by decide +kernel
theorem dX6_copyFrom_59 : decode cX6_copyFrom 59 = .ok (.iconst 0, 1) := by decide +kernel
theorem dX6_copyFrom_60 : decode cX6_copyFrom 60 = .ok (.aload_n 0, 1) := by decide +kernel
theorem dX6_copyFrom_61 : decode cX6_copyFrom 61 = .ok (.getfield 33, 3) := by decide +kernel
theorem dX6_copyFrom_64 : decode cX6_copyFrom 64 = .ok (.invokestatic 40, 3) := by decide +kernel
theorem dX6_copyFrom_67 : decode cX6_copyFrom 67 = .ok (.aload_n 1, 1) := by decide +kernel
theorem dX6_copyFrom_68 : decode cX6_copyFrom 68 = .ok (.getfield 21, 3) := by decide +kernel
theorem dX6_copyFrom_71 : decode cX6_copyFrom 71 = .ok (.iconst 0, 1) := by decide +kernel
theorem dX6_copyFrom_72 : decode cX6_copyFrom 72 = .ok (.aload_n 0, 1) := by decide +kernel
theorem dX6_copyFrom_73 : decode cX6_copyFrom 73 = .ok (.getfield 21, 3) := by decide +kernel
theorem dX6_copyFrom_76 : decode cX6_copyFrom 76 = .ok (.iconst 0, 1) := by decide +kernel
theorem dX6_copyFrom_77 : decode cX6_copyFrom 77 = .ok (.aload_n 0, 1) := by decide +kernel
theorem dX6_copyFrom_78 : decode cX6_copyFrom 78 = .ok (.getfield 33, 3) := by decide +kernel
theorem dX6_copyFrom_81 : decode cX6_copyFrom 81 = .ok (.invokestatic 40, 3) := by decide +kernel
theorem dX6_copyFrom_84 : decode cX6_copyFrom 84 = .ok (.aload_n 1, 1) := by decide +kernel
theorem dX6_copyFrom_85 : decode cX6_copyFrom 85 = .ok (.getfield 24, 3) := by decide +kernel
theorem dX6_copyFrom_88 : decode cX6_copyFrom 88 = .ok (.iconst 0, 1) := by decide +kernel
theorem dX6_copyFrom_89 : decode cX6_copyFrom 89 = .ok (.aload_n 0, 1) := by decide +kernel
theorem dX6_copyFrom_90 : decode cX6_copyFrom 90 = .ok (.getfield 24, 3) := by decide +kernel
theorem dX6_copyFrom_93 : decode cX6_copyFrom 93 = .ok (.iconst 0, 1) := by decide +kernel
theorem dX6_copyFrom_94 : decode cX6_copyFrom 94 = .ok (.aload_n 0, 1) := by decide +kernel
theorem dX6_copyFrom_95 : decode cX6_copyFrom 95 = .ok (.getfield 33, 3) := by decide +kernel
theorem dX6_copyFrom_98 : decode cX6_copyFrom 98 = .ok (.invokestatic 40, 3) := by decide +kernel
theorem dX6_copyFrom_101 : decode cX6_copyFrom 101 = .ok (.aload_n 1, 1) := by decide +kernel
theorem dX6_copyFrom_102 : decode cX6_copyFrom 102 = .ok (.getfield 27, 3) := by decide +kernel
theorem dX6_copyFrom_105 : decode cX6_copyFrom 105 = .ok (.iconst 0, 1) := by decide +kernel
theorem dX6_copyFrom_106 : decode cX6_copyFrom 106 = .ok (.aload_n 0, 1) := by decide +kernel
theorem dX6_copyFrom_107 : decode cX6_copyFrom 107 = .ok (.getfield 27, 3) := by decide +kernel
theorem dX6_copyFrom_110 : decode cX6_copyFrom 110 = .ok (.iconst 0, 1) := by decide +kernel
theorem dX6_copyFrom_111 : decode cX6_copyFrom 111 = .ok (.aload_n 0, 1) := by decide +kernel
theorem dX6_copyFrom_112 : decode cX6_copyFrom 112 = .ok (.getfield 33, 3) := by decide +kernel
theorem dX6_copyFrom_115 : decode cX6_copyFrom 115 = .ok (.iconst 4, 1) := by decide +kernel
theorem dX6_copyFrom_116 : decode cX6_copyFrom 116 = .ok (.imul, 1) := by decide +kernel
theorem dX6_copyFrom_117 : decode cX6_copyFrom 117 = .ok (.invokestatic 40, 3) := by decide +kernel
theorem dX6_copyFrom_120 : decode cX6_copyFrom 120 = .ok (.aload_n 1, 1) := by decide +kernel
theorem dX6_copyFrom_121 : decode cX6_copyFrom 121 = .ok (.getfield 30, 3) := by decide +kernel
theorem dX6_copyFrom_124 : decode cX6_copyFrom 124 = .ok (.iconst 0, 1) := by decide +kernel
theorem dX6_copyFrom_125 : decode cX6_copyFrom 125 = .ok (.aload_n 0, 1) := by decide +kernel
theorem dX6_copyFrom_126 : decode cX6_copyFrom 126 = .ok (.getfield 30, 3) := by decide +kernel
theorem dX6_copyFrom_129 : decode cX6_copyFrom 129 = .ok (.iconst 0, 1) := by decide +kernel
theorem dX6_copyFrom_130 : decode cX6_copyFrom 130 = .ok (.aload_n 0, 1) := by decide +kernel
theorem dX6_copyFrom_131 : decode cX6_copyFrom 131 = .ok (.getfield 33, 3) := by decide +kernel
theorem dX6_copyFrom_134 : decode cX6_copyFrom 134 = .ok (.iconst 4, 1) := by decide +kernel
theorem dX6_copyFrom_135 : decode cX6_copyFrom 135 = .ok (.imul, 1) := by decide +kernel
theorem dX6_copyFrom_136 : decode cX6_copyFrom 136 = .ok (.invokestatic 40, 3) := by decide +kernel
theorem dX6_copyFrom_139 : decode cX6_copyFrom 139 = .ok (.return_, 1) := by decide +kernel
theorem dX6_addTie_0 : decode cX6_addTie 0 = .ok (.aload_n 0, 1) := by decide +kernel
theorem dX6_addTie_1 : decode cX6_addTie 1 = .ok (.getfield 9, 3) := by decide +kernel
theorem dX6_addTie_4 : decode cX6_addTie 4 = .ok (.aload_n 0, 1) := by decide +kernel
theorem dX6_addTie_5 : decode cX6_addTie 5 = .ok (.getfield 33, 3) := by decide +kernel
theorem dX6_addTie_8 : decode cX6_addTie 8 = .ok (.iload_n 1, 1) := by decide +kernel
theorem dX6_addTie_9 : decode cX6_addTie 9 = .ok (.iastore, 1) := by decide +kernel
theorem dX6_addTie_10 : decode cX6_addTie 10 = .ok (.aload_n 0, 1) := by decide +kernel
theorem dX6_addTie_11 : decode cX6_addTie 11 = .ok (.getfield 15, 3) := by decide +kernel
theorem dX6_addTie_14 : decode cX6_addTie 14 = .ok (.aload_n 0, 1) := by decide +kernel
theorem dX6_addTie_15 : decode cX6_addTie 15 = .ok (.getfield 33, 3) := by decide +kernel
theorem dX6_addTie_18 : decode cX6_addTie 18 = .ok (.iload_n 2, 1) := by decide +kernel
theorem dX6_addTie_19 : decode cX6_addTie 19 = .ok (.iastore, 1) := by decide +kernel
theorem dX6_addTie_20 : decode cX6_addTie 20 = .ok (.aload_n 0, 1) := by decide +kernel
theorem dX6_addTie_21 : decode cX6_addTie 21 = .ok (.getfield 18, 3) := by decide +kernel
theorem dX6_addTie_24 : decode cX6_addTie 24 = .ok (.aload_n 0, 1) := by decide +kernel
theorem dX6_addTie_25 : decode cX6_addTie 25 = .ok (.getfield 33, 3) := by decide +kernel
theorem dX6_addTie_28 : decode cX6_addTie 28 = .ok (.iload_n 3, 1) := by decide +kernel
theorem dX6_addTie_29 : decode cX6_addTie 29 = .ok (.iastore, 1) := by decide +kernel
theorem dX6_addTie_30 : decode cX6_addTie 30 = .ok (.aload_n 0, 1) := by decide +kernel
theorem dX6_addTie_31 : decode cX6_addTie 31 = .ok (.getfield 21, 3) := by decide +kernel
theorem dX6_addTie_34 : decode cX6_addTie 34 = .ok (.aload_n 0, 1) := by decide +kernel
theorem dX6_addTie_35 : decode cX6_addTie 35 = .ok (.getfield 33, 3) := by decide +kernel
theorem dX6_addTie_38 : decode cX6_addTie 38 = .ok (.iload 4, 2) := by decide +kernel
theorem dX6_addTie_40 : decode cX6_addTie 40 = .ok (.iastore, 1) := by decide +kernel
theorem dX6_addTie_41 : decode cX6_addTie 41 = .ok (.aload_n 0, 1) := by decide +kernel
theorem dX6_addTie_42 : decode cX6_addTie 42 = .ok (.getfield 24, 3) := by decide +kernel
theorem dX6_addTie_45 : decode cX6_addTie 45 = .ok (.aload_n 0, 1) := by decide +kernel
theorem dX6_addTie_46 : decode cX6_addTie 46 = .ok (.getfield 33, 3) := by decide +kernel
theorem dX6_addTie_49 : decode cX6_addTie 49 = .ok (.iconst 0, 1) := by decide +kernel
theorem dX6_addTie_50 : decode cX6_addTie 50 = .ok (.iastore, 1) := by decide +kernel
theorem dX6_addTie_51 : decode cX6_addTie 51 = .ok (.aload_n 0, 1) := by decide +kernel
theorem dX6_addTie_52 : decode cX6_addTie 52 = .ok (.dup, 1) := by decide +kernel
theorem dX6_addTie_53 : decode cX6_addTie 53 = .ok (.getfield 33, 3) := by decide +kernel
theorem dX6_addTie_56 : decode cX6_addTie 56 = .ok (.iconst 1, 1) := by decide +kernel
theorem dX6_addTie_57 : decode cX6_addTie 57 = .ok (.iadd, 1) := by decide +kernel
theorem dX6_addTie_58 : decode cX6_addTie 58 = .ok (.putfield 33, 3) := by decide +kernel
theorem dX6_addTie_61 : decode cX6_addTie 61 = .ok (.return_, 1) := by decide +kernel
theorem dX6_addGame_0 : decode cX6_addGame 0 = .ok (.iload_n 1, 1) := by decide +kernel
theorem dX6_addGame_1 : decode cX6_addGame 1 = .ok (.iconst 4, 1) := by decide +kernel
theorem dX6_addGame_2 : decode cX6_addGame 2 = .ok (.imul, 1) := by decide +kernel
theorem dX6_addGame_3 : decode cX6_addGame 3 = .ok (.aload_n 0, 1) := by decide +kernel
theorem dX6_addGame_4 : decode cX6_addGame 4 = .ok (.getfield 24, 3) := by decide +kernel
theorem dX6_addGame_7 : decode cX6_addGame 7 = .ok (.iload_n 1, 1) := by decide +kernel
theorem dX6_addGame_8 : decode cX6_addGame 8 = .ok (.iaload, 1) := by decide +kernel
theorem dX6_addGame_9 : decode cX6_addGame 9 = .ok (.iadd, 1) := by decide +kernel
theorem dX6_addGame_10 : decode cX6_addGame 10 = .ok (.istore 4, 2) := by decide +kernel
theorem dX6_addGame_12 : decode cX6_addGame 12 = .ok (.aload_n 0, 1) := by decide +kernel
theorem dX6_addGame_13 : decode cX6_addGame 13 = .ok (.getfield 27, 3) := by decide +kernel
theorem dX6_addGame_16 : decode cX6_addGame 16 = .ok (.iload 4, 2) := by decide +kernel
theorem dX6_addGame_18 : decode cX6_addGame 18 = .ok (.iload_n 2, 1) := by decide +kernel
theorem dX6_addGame_19 : decode cX6_addGame 19 = .ok (.iastore, 1) := by decide +kernel
theorem dX6_addGame_20 : decode cX6_addGame 20 = .ok (.aload_n 0, 1) := by decide +kernel
theorem dX6_addGame_21 : decode cX6_addGame 21 = .ok (.getfield 30, 3) := by decide +kernel
theorem dX6_addGame_24 : decode cX6_addGame 24 = .ok (.iload 4, 2) := by decide +kernel
theorem dX6_addGame_26 : decode cX6_addGame 26 = .ok (.iload_n 3, 1) := by decide +kernel
theorem dX6_addGame_27 : decode cX6_addGame 27 = .ok (.iastore, 1) := by decide +kernel
theorem dX6_addGame_28 : decode cX6_addGame 28 = .ok (.aload_n 0, 1) := by decide +kernel
theorem dX6_addGame_29 : decode cX6_addGame 29 = .ok (.getfield 24, 3) := by decide +kernel
theorem dX6_addGame_32 : decode cX6_addGame 32 = .ok (.iload_n 1, 1) := by decide +kernel
theorem dX6_addGame_33 : decode cX6_addGame 33 = .ok (.dup2, 1) := by decide +kernel
theorem dX6_addGame_34 : decode cX6_addGame 34 = .ok (.iaload, 1) := by decide +kernel
theorem dX6_addGame_35 : decode cX6_addGame 35 = .ok (.iconst 1, 1) := by decide +kernel
theorem dX6_addGame_36 : decode cX6_addGame 36 = .ok (.iadd, 1) := by decide +kernel
theorem dX6_addGame_37 : decode cX6_addGame 37 = .ok (.iastore, 1) := by decide +kernel
theorem dX6_addGame_38 : decode cX6_addGame 38 = .ok (.return_, 1) := by decide +kernel
theorem dX6_closeRound_0 : decode cX6_closeRound 0 = .ok (.aload_n 0, 1) := by decide +kernel
theorem dX6_closeRound_1 : decode cX6_closeRound 1 = .ok (.dup, 1) := by decide +kernel
theorem dX6_closeRound_2 : decode cX6_closeRound 2 = .ok (.getfield 37, 3) := by decide +kernel
theorem dX6_closeRound_5 : decode cX6_closeRound 5 = .ok (.iconst 1, 1) := by decide +kernel
theorem dX6_closeRound_6 : decode cX6_closeRound 6 = .ok (.iload_n 1, 1) := by decide +kernel
theorem dX6_closeRound_7 : decode cX6_closeRound 7 = .ok (.bipush 6, 2) := by decide +kernel
theorem dX6_closeRound_9 : decode cX6_closeRound 9 = .ok (.imul, 1) := by decide +kernel
theorem dX6_closeRound_10 : decode cX6_closeRound 10 = .ok (.iload_n 2, 1) := by decide +kernel
theorem dX6_closeRound_11 : decode cX6_closeRound 11 = .ok (.iadd, 1) := by decide +kernel
theorem dX6_closeRound_12 : decode cX6_closeRound 12 = .ok (.ishl, 1) := by decide +kernel
theorem dX6_closeRound_13 : decode cX6_closeRound 13 = .ok (.ior, 1) := by decide +kernel
theorem dX6_closeRound_14 : decode cX6_closeRound 14 = .ok (.putfield 37, 3) := by decide +kernel
theorem dX6_closeRound_17 : decode cX6_closeRound 17 = .ok (.return_, 1) := by decide +kernel
theorem dX6_isClosed_0 : decode cX6_isClosed 0 = .ok (.aload_n 0, 1) := by decide +kernel
theorem dX6_isClosed_1 : decode cX6_isClosed 1 = .ok (.getfield 37, 3) := by decide +kernel
theorem dX6_isClosed_4 : decode cX6_isClosed 4 = .ok (.iload_n 1, 1) := by decide +kernel
theorem dX6_isClosed_5 : decode cX6_isClosed 5 = .ok (.bipush 6, 2) := by decide +kernel
theorem dX6_isClosed_7 : decode cX6_isClosed 7 = .ok (.imul, 1) := by decide +kernel
theorem dX6_isClosed_8 : decode cX6_isClosed 8 = .ok (.iload_n 2, 1) := by decide +kernel
theorem dX6_isClosed_9 : decode cX6_isClosed 9 = .ok (.iadd, 1) := by decide +kernel
theorem dX6_isClosed_10 : decode cX6_isClosed 10 = .ok (.ishr, 1) := by decide +kernel
theorem dX6_isClosed_11 : decode cX6_isClosed 11 = .ok (.iconst 1, 1) := by decide +kernel
theorem dX6_isClosed_12 : decode cX6_isClosed 12 = .ok (.iand, 1) := by decide +kernel
theorem dX6_isClosed_13 : decode cX6_isClosed 13 = .ok (.iconst 1, 1) := by decide +kernel
theorem dX6_isClosed_14 : decode cX6_isClosed 14 = .ok (.if_icmp .ne 7, 3) := by decide +kernel
theorem dX6_isClosed_17 : decode cX6_isClosed 17 = .ok (.iconst 1, 1) := by decide +kernel
theorem dX6_isClosed_18 : decode cX6_isClosed 18 = .ok (.goto 4, 3) := by decide +kernel
theorem dX6_isClosed_21 : decode cX6_isClosed 21 = .ok (.iconst 0, 1) := by decide +kernel
theorem dX6_isClosed_22 : decode cX6_isClosed 22 = .ok (.ireturn, 1) := by decide +kernel
theorem dX6_canClose_0 : decode cX6_canClose 0 = .ok (.iconst 0, 1) := by decide +kernel
theorem dX6_canClose_1 : decode cX6_canClose 1 = .ok (.istore_n 3, 1) := by decide +kernel
theorem dX6_canClose_2 : decode cX6_canClose 2 = .ok (.iconst 1, 1) := by decide +kernel
theorem dX6_canClose_3 : decode cX6_canClose 3 = .ok (.istore 4, 2) := by decide +kernel
theorem dX6_canClose_5 : decode cX6_canClose 5 = .ok (.iconst 0, 1) := by decide +kernel
theorem dX6_canClose_6 : decode cX6_canClose 6 = .ok (.istore 5, 2) := by decide +kernel
theorem dX6_canClose_8 : decode cX6_canClose 8 = .ok (.iload 5, 2) := by decide +kernel
theorem dX6_canClose_10 : decode cX6_canClose 10 = .ok (.aload_n 0, 1) := by decide +kernel
theorem dX6_canClose_11 : decode cX6_canClose 11 = .ok (.getfield 33, 3) := by decide +kernel
theorem dX6_canClose_14 : decode cX6_canClose 14 = .ok (.if_icmp .ge 43, 3) := by decide +kernel
theorem dX6_canClose_17 : decode cX6_canClose 17 = .ok (.aload_n 0, 1) := by decide +kernel
theorem dX6_canClose_18 : decode cX6_canClose 18 = .ok (.iload 5, 2) := by decide +kernel
theorem dX6_canClose_20 : decode cX6_canClose 20 = .ok (.iload_n 1, 1) := by decide +kernel
theorem dX6_canClose_21 : decode cX6_canClose 21 = .ok (.iload_n 2, 1) := by decide +kernel
theorem dX6_canClose_22 : decode cX6_canClose 22 = .ok (.invokevirtual 46, 3) := by decide +kernel
theorem dX6_canClose_25 : decode cX6_canClose 25 = .ok (.ifCond .eq 26, 3) := by decide +kernel
theorem dX6_canClose_28 : decode cX6_canClose 28 = .ok (.iconst 1, 1) := by decide +kernel
theorem dX6_canClose_29 : decode cX6_canClose 29 = .ok (.istore_n 3, 1) := by decide +kernel
theorem dX6_canClose_30 : decode cX6_canClose 30 = .ok (.iload 4, 2) := by decide +kernel
theorem dX6_canClose_32 : decode cX6_canClose 32 = .ok (.ifCond .eq 16, 3) := by decide +kernel
theorem dX6_canClose_35 : decode cX6_canClose 35 = .ok (.aload_n 0, 1) := by decide +kernel
theorem dX6_canClose_36 : decode cX6_canClose 36 = .ok (.iload 5, 2) := by decide +kernel
theorem dX6_canClose_38 : decode cX6_canClose 38 = .ok (.invokevirtual 50, 3) := by decide +kernel
theorem dX6_canClose_41 : decode cX6_canClose 41 = .ok (.ifCond .eq 7, 3) := by decide +kernel
theorem dX6_canClose_44 : decode cX6_canClose 44 = .ok (.iconst 1, 1) := by decide +kernel
theorem dX6_canClose_45 : decode cX6_canClose 45 = .ok (.goto 4, 3) := by decide +kernel
theorem dX6_canClose_48 : decode cX6_canClose 48 = .ok (.iconst 0, 1) := by decide +kernel
theorem dX6_canClose_49 : decode cX6_canClose 49 = .ok (.istore 4, 2) := by decide +kernel
theorem dX6_canClose_51 : decode cX6_canClose 51 = .ok (.iinc 5 1, 3) := by decide +kernel
theorem dX6_canClose_54 : decode cX6_canClose 54 = .ok (.goto (-46), 3) := by decide +kernel
theorem dX6_canClose_57 : decode cX6_canClose 57 = .ok (.iload_n 3, 1) := by decide +kernel
theorem dX6_canClose_58 : decode cX6_canClose 58 = .ok (.ifCond .eq 21, 3) := by decide +kernel
theorem dX6_canClose_61 : decode cX6_canClose 61 = .ok (.iload 4, 2) := by decide +kernel
theorem dX6_canClose_63 : decode cX6_canClose 63 = .ok (.ifCond .eq 16, 3) := by decide +kernel
theorem dX6_canClose_66 : decode cX6_canClose 66 = .ok (.aload_n 0, 1) := by decide +kernel
theorem dX6_canClose_67 : decode cX6_canClose 67 = .ok (.iload_n 1, 1) := by decide +kernel
theorem dX6_canClose_68 : decode cX6_canClose 68 = .ok (.iload_n 2, 1) := by decide +kernel
theorem dX6_canClose_69 : decode cX6_canClose 69 = .ok (.invokevirtual 54, 3) := by decide +kernel
theorem dX6_canClose_72 : decode cX6_canClose 72 = .ok (.ifCond .ne 7, 3) := by decide +kernel
theorem dX6_canClose_75 : decode cX6_canClose 75 = .ok (.iconst 1, 1) := by decide +kernel
theorem dX6_canClose_76 : decode cX6_canClose 76 = .ok (.goto 4, 3) := by decide +kernel
theorem dX6_canClose_79 : decode cX6_canClose 79 = .ok (.iconst 0, 1) := by decide +kernel
theorem dX6_canClose_80 : decode cX6_canClose 80 = .ok (.ireturn, 1) := by decide +kernel
theorem dX6_isOf_0 : decode cX6_isOf 0 = .ok (.aload_n 0, 1) := by decide +kernel
theorem dX6_isOf_1 : decode cX6_isOf 1 = .ok (.getfield 9, 3) := by decide +kernel
theorem dX6_isOf_4 : decode cX6_isOf 4 = .ok (.iload_n 1, 1) := by decide +kernel
theorem dX6_isOf_5 : decode cX6_isOf 5 = .ok (.iaload, 1) := by decide +kernel
