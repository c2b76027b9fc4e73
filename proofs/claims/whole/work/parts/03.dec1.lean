theorem dX6_isOf_6 : decode cX6_isOf 6 = .ok (.iload_n 2, 1) := by decide +kernel
theorem dX6_isOf_7 : decode cX6_isOf 7 = .ok (.if_icmp .ne 17, 3) := by decide +kernel
theorem dX6_isOf_10 : decode cX6_isOf 10 = .ok (.aload_n 0, 1) := by decide +kernel
theorem dX6_isOf_11 : decode cX6_isOf 11 = .ok (.getfield 15, 3) := by decide +kernel
theorem dX6_isOf_14 : decode cX6_isOf 14 = .ok (.iload_n 1, 1) := by decide +kernel
theorem dX6_isOf_15 : decode cX6_isOf 15 = .ok (.iaload, 1) := by decide +kernel
theorem dX6_isOf_16 : decode cX6_isOf 16 = .ok (.iload_n 3, 1) := by decide +kernel
theorem dX6_isOf_17 : decode cX6_isOf 17 = .ok (.if_icmp .ne 7, 3) := by decide +kernel
theorem dX6_isOf_20 : decode cX6_isOf 20 = .ok (.iconst 1, 1) := by decide +kernel
theorem dX6_isOf_21 : decode cX6_isOf 21 = .ok (.goto 4, 3) := by decide +kernel
theorem dX6_isOf_24 : decode cX6_isOf 24 = .ok (.iconst 0, 1) := by decide +kernel
theorem dX6_isOf_25 : decode cX6_isOf 25 = .ok (.ireturn, 1) := by decide +kernel
theorem dX6_isIn_0 : decode cX6_isIn 0 = .ok (.iconst 0, 1) := by decide +kernel
theorem dX6_isIn_1 : decode cX6_isIn 1 = .ok (.istore 4, 2) := by decide +kernel
theorem dX6_isIn_3 : decode cX6_isIn 3 = .ok (.iload 4, 2) := by decide +kernel
theorem dX6_isIn_5 : decode cX6_isIn 5 = .ok (.aload_n 0, 1) := by decide +kernel
theorem dX6_isIn_6 : decode cX6_isIn 6 = .ok (.getfield 33, 3) := by decide +kernel
theorem dX6_isIn_9 : decode cX6_isIn 9 = .ok (.if_icmp .ge 44, 3) := by decide +kernel
theorem dX6_isIn_12 : decode cX6_isIn 12 = .ok (.aload_n 0, 1) := by decide +kernel
theorem dX6_isIn_13 : decode cX6_isIn 13 = .ok (.iload 4, 2) := by decide +kernel
theorem dX6_isIn_15 : decode cX6_isIn 15 = .ok (.iload_n 1, 1) := by decide +kernel
theorem dX6_isIn_16 : decode cX6_isIn 16 = .ok (.iload_n 2, 1) := by decide +kernel
theorem dX6_isIn_17 : decode cX6_isIn 17 = .ok (.invokevirtual 46, 3) := by decide +kernel
theorem dX6_isIn_20 : decode cX6_isIn 20 = .ok (.ifCond .eq 27, 3) := by decide +kernel
theorem dX6_isIn_23 : decode cX6_isIn 23 = .ok (.aload_n 0, 1) := by decide +kernel
theorem dX6_isIn_24 : decode cX6_isIn 24 = .ok (.getfield 18, 3) := by decide +kernel
theorem dX6_isIn_27 : decode cX6_isIn 27 = .ok (.iload 4, 2) := by decide +kernel
theorem dX6_isIn_29 : decode cX6_isIn 29 = .ok (.iaload, 1) := by decide +kernel
theorem dX6_isIn_30 : decode cX6_isIn 30 = .ok (.iload_n 3, 1) := by decide +kernel
theorem dX6_isIn_31 : decode cX6_isIn 31 = .ok (.if_icmp .eq 14, 3) := by decide +kernel
theorem dX6_isIn_34 : decode cX6_isIn 34 = .ok (.aload_n 0, 1) := by decide +kernel
theorem dX6_isIn_35 : decode cX6_isIn 35 = .ok (.getfield 21, 3) := by decide +kernel
theorem dX6_isIn_38 : decode cX6_isIn 38 = .ok (.iload 4, 2) := by decide +kernel
theorem dX6_isIn_40 : decode cX6_isIn 40 = .ok (.iaload, 1) := by decide +kernel
theorem dX6_isIn_41 : decode cX6_isIn 41 = .ok (.iload_n 3, 1) := by decide +kernel
theorem dX6_isIn_42 : decode cX6_isIn 42 = .ok (.if_icmp .ne 5, 3) := by decide +kernel
theorem dX6_isIn_45 : decode cX6_isIn 45 = .ok (.iconst 1, 1) := by decide +kernel
theorem dX6_isIn_46 : decode cX6_isIn 46 = .ok (.ireturn, 1) := by decide +kernel
theorem dX6_isIn_47 : decode cX6_isIn 47 = .ok (.iinc 4 1, 3) := by decide +kernel
theorem dX6_isIn_50 : decode cX6_isIn 50 = .ok (.goto (-47), 3) := by decide +kernel
theorem dX6_isIn_53 : decode cX6_isIn 53 = .ok (.iconst 0, 1) := by decide +kernel
theorem dX6_isIn_54 : decode cX6_isIn 54 = .ok (.ireturn, 1) := by decide +kernel
theorem dX6_hasWonIn_0 : decode cX6_hasWonIn 0 = .ok (.iconst 0, 1) := by decide +kernel
theorem dX6_hasWonIn_1 : decode cX6_hasWonIn 1 = .ok (.istore 4, 2) := by decide +kernel
theorem dX6_hasWonIn_3 : decode cX6_hasWonIn 3 = .ok (.iload 4, 2) := by decide +kernel
theorem dX6_hasWonIn_5 : decode cX6_hasWonIn 5 = .ok (.aload_n 0, 1) := by decide +kernel
theorem dX6_hasWonIn_6 : decode cX6_hasWonIn 6 = .ok (.getfield 33, 3) := by decide +kernel
theorem dX6_hasWonIn_9 : decode cX6_hasWonIn 9 = .ok (.if_icmp .ge 32, 3) := by decide +kernel
theorem dX6_hasWonIn_12 : decode cX6_hasWonIn 12 = .ok (.aload_n 0, 1) := by decide +kernel
theorem dX6_hasWonIn_13 : decode cX6_hasWonIn 13 = .ok (.iload 4, 2) := by decide +kernel
theorem dX6_hasWonIn_15 : decode cX6_hasWonIn 15 = .ok (.iload_n 1, 1) := by decide +kernel
theorem dX6_hasWonIn_16 : decode cX6_hasWonIn 16 = .ok (.iload_n 2, 1) := by decide +kernel
theorem dX6_hasWonIn_17 : decode cX6_hasWonIn 17 = .ok (.invokevirtual 46, 3) := by decide +kernel
theorem dX6_hasWonIn_20 : decode cX6_hasWonIn 20 = .ok (.ifCond .eq 15, 3) := by decide +kernel
theorem dX6_hasWonIn_23 : decode cX6_hasWonIn 23 = .ok (.aload_n 0, 1) := by decide +kernel
theorem dX6_hasWonIn_24 : decode cX6_hasWonIn 24 = .ok (.iload 4, 2) := by decide +kernel
theorem dX6_hasWonIn_26 : decode cX6_hasWonIn 26 = .ok (.invokevirtual 58, 3) := by decide +kernel
theorem dX6_hasWonIn_29 : decode cX6_hasWonIn 29 = .ok (.iload_n 3, 1) := by decide +kernel
theorem dX6_hasWonIn_30 : decode cX6_hasWonIn 30 = .ok (.if_icmp .ne 5, 3) := by decide +kernel
theorem dX6_hasWonIn_33 : decode cX6_hasWonIn 33 = .ok (.iconst 1, 1) := by decide +kernel
theorem dX6_hasWonIn_34 : decode cX6_hasWonIn 34 = .ok (.ireturn, 1) := by decide +kernel
theorem dX6_hasWonIn_35 : decode cX6_hasWonIn 35 = .ok (.iinc 4 1, 3) := by decide +kernel
theorem dX6_hasWonIn_38 : decode cX6_hasWonIn 38 = .ok (.goto (-35), 3) := by decide +kernel
theorem dX6_hasWonIn_41 : decode cX6_hasWonIn 41 = .ok (.iconst 0, 1) := by decide +kernel
theorem dX6_hasWonIn_42 : decode cX6_hasWonIn 42 = .ok (.ireturn, 1) := by decide +kernel
theorem dX6_resultOf_0 : decode cX6_resultOf 0 = .ok (.aload_n 0, 1) := by decide +kernel
theorem dX6_resultOf_1 : decode cX6_resultOf 1 = .ok (.getfield 24, 3) := by decide +kernel
theorem dX6_resultOf_4 : decode cX6_resultOf 4 = .ok (.iload_n 1, 1) := by decide +kernel
theorem dX6_resultOf_5 : decode cX6_resultOf 5 = .ok (.iaload, 1) := by decide +kernel
theorem dX6_resultOf_6 : decode cX6_resultOf 6 = .ok (.ifCond .le 23, 3) := by decide +kernel
theorem dX6_resultOf_9 : decode cX6_resultOf 9 = .ok (.aload_n 0, 1) := by decide +kernel
theorem dX6_resultOf_10 : decode cX6_resultOf 10 = .ok (.getfield 30, 3) := by decide +kernel
theorem dX6_resultOf_13 : decode cX6_resultOf 13 = .ok (.iload_n 1, 1) := by decide +kernel
theorem dX6_resultOf_14 : decode cX6_resultOf 14 = .ok (.iconst 4, 1) := by decide +kernel
theorem dX6_resultOf_15 : decode cX6_resultOf 15 = .ok (.imul, 1) := by decide +kernel
theorem dX6_resultOf_16 : decode cX6_resultOf 16 = .ok (.aload_n 0, 1) := by decide +kernel
theorem dX6_resultOf_17 : decode cX6_resultOf 17 = .ok (.getfield 24, 3) := by decide +kernel
theorem dX6_resultOf_20 : decode cX6_resultOf 20 = .ok (.iload_n 1, 1) := by decide +kernel
theorem dX6_resultOf_21 : decode cX6_resultOf 21 = .ok (.iaload, 1) := by decide +kernel
theorem dX6_resultOf_22 : decode cX6_resultOf 22 = .ok (.iadd, 1) := by decide +kernel
theorem dX6_resultOf_23 : decode cX6_resultOf 23 = .ok (.iconst 1, 1) := by decide +kernel
theorem dX6_resultOf_24 : decode cX6_resultOf 24 = .ok (.isub, 1) := by decide +kernel
theorem dX6_resultOf_25 : decode cX6_resultOf 25 = .ok (.iaload, 1) := by decide +kernel
theorem dX6_resultOf_26 : decode cX6_resultOf 26 = .ok (.goto 4, 3) := by decide +kernel
theorem dX6_resultOf_29 : decode cX6_resultOf 29 = .ok (.iconst 2, 1) := by decide +kernel
theorem dX6_resultOf_30 : decode cX6_resultOf 30 = .ok (.ireturn, 1) := by decide +kernel
theorem dX6_isDecided_0 : decode cX6_isDecided 0 = .ok (.aload_n 0, 1) := by decide +kernel
theorem dX6_isDecided_1 : decode cX6_isDecided 1 = .ok (.iload_n 1, 1) := by decide +kernel
theorem dX6_isDecided_2 : decode cX6_isDecided 2 = .ok (.invokevirtual 62, 3) := by decide +kernel
theorem dX6_isDecided_5 : decode cX6_isDecided 5 = .ok (.iconst 2, 1) := by decide +kernel
theorem dX6_isDecided_6 : decode cX6_isDecided 6 = .ok (.if_icmp .eq 7, 3) := by decide +kernel
theorem dX6_isDecided_9 : decode cX6_isDecided 9 = .ok (.iconst 1, 1) := by decide +kernel
theorem dX6_isDecided_10 : decode cX6_isDecided 10 = .ok (.goto 4, 3) := by decide +kernel
theorem dX6_isDecided_13 : decode cX6_isDecided 13 = .ok (.iconst 0, 1) := by decide +kernel
theorem dX6_isDecided_14 : decode cX6_isDecided 14 = .ok (.ireturn, 1) := by decide +kernel
theorem dX6_winnerOf_0 : decode cX6_winnerOf 0 = .ok (.aload_n 0, 1) := by decide +kernel
theorem dX6_winnerOf_1 : decode cX6_winnerOf 1 = .ok (.iload_n 1, 1) := by decide +kernel
theorem dX6_winnerOf_2 : decode cX6_winnerOf 2 = .ok (.invokevirtual 50, 3) := by decide +kernel
theorem dX6_winnerOf_5 : decode cX6_winnerOf 5 = .ok (.ifCond .ne 6, 3) := by decide +kernel
theorem dX6_winnerOf_8 : decode cX6_winnerOf 8 = .ok (.bipush (-2), 2) := by decide +kernel
theorem dX6_winnerOf_10 : decode cX6_winnerOf 10 = .ok (.ireturn, 1) := by decide +kernel
theorem dX6_winnerOf_11 : decode cX6_winnerOf 11 = .ok (.aload_n 0, 1) := by decide +kernel
theorem dX6_winnerOf_12 : decode cX6_winnerOf 12 = .ok (.iload_n 1, 1) := by decide +kernel
theorem dX6_winnerOf_13 : decode cX6_winnerOf 13 = .ok (.invokevirtual 62, 3) := by decide +kernel
theorem dX6_winnerOf_16 : decode cX6_winnerOf 16 = .ok (.ifCond .ne 12, 3) := by decide +kernel
theorem dX6_winnerOf_19 : decode cX6_winnerOf 19 = .ok (.aload_n 0, 1) := by decide +kernel
theorem dX6_winnerOf_20 : decode cX6_winnerOf 20 = .ok (.getfield 18, 3) := by decide +kernel
theorem dX6_winnerOf_23 : decode cX6_winnerOf 23 = .ok (.iload_n 1, 1) := by decide +kernel
theorem dX6_winnerOf_24 : decode cX6_winnerOf 24 = .ok (.iaload, 1) := by decide +kernel
theorem dX6_winnerOf_25 : decode cX6_winnerOf 25 = .ok (.goto 9, 3) := by decide +kernel
theorem dX6_winnerOf_28 : decode cX6_winnerOf 28 = .ok (.aload_n 0, 1) := by decide +kernel
theorem dX6_winnerOf_29 : decode cX6_winnerOf 29 = .ok (.getfield 21, 3) := by decide +kernel
theorem dX6_winnerOf_32 : decode cX6_winnerOf 32 = .ok (.iload_n 1, 1) := by decide +kernel
theorem dX6_winnerOf_33 : decode cX6_winnerOf 33 = .ok (.iaload, 1) := by decide +kernel
theorem dX6_winnerOf_34 : decode cX6_winnerOf 34 = .ok (.ireturn, 1) := by decide +kernel
theorem dX6_loserOf_0 : decode cX6_loserOf 0 = .ok (.aload_n 0, 1) := by decide +kernel
theorem dX6_loserOf_1 : decode cX6_loserOf 1 = .ok (.iload_n 1, 1) := by decide +kernel
theorem dX6_loserOf_2 : decode cX6_loserOf 2 = .ok (.invokevirtual 50, 3) := by decide +kernel
theorem dX6_loserOf_5 : decode cX6_loserOf 5 = .ok (.ifCond .ne 6, 3) := by decide +kernel
theorem dX6_loserOf_8 : decode cX6_loserOf 8 = .ok (.bipush (-2), 2) := by decide +kernel
theorem dX6_loserOf_10 : decode cX6_loserOf 10 = .ok (.ireturn, 1) := by decide +kernel
theorem dX6_loserOf_11 : decode cX6_loserOf 11 = .ok (.aload_n 0, 1) := by decide +kernel
theorem dX6_loserOf_12 : decode cX6_loserOf 12 = .ok (.iload_n 1, 1) := by decide +kernel
theorem dX6_loserOf_13 : decode cX6_loserOf 13 = .ok (.invokevirtual 62, 3) := by decide +kernel
theorem dX6_loserOf_16 : decode cX6_loserOf 16 = .ok (.ifCond .ne 12, 3) := by decide +kernel
theorem dX6_loserOf_19 : decode cX6_loserOf 19 = .ok (.aload_n 0, 1) := by decide +kernel
theorem dX6_loserOf_20 : decode cX6_loserOf 20 = .ok (.getfield 21, 3) := by decide +kernel
theorem dX6_loserOf_23 : decode cX6_loserOf 23 = .ok (.iload_n 1, 1) := by decide +kernel
theorem dX6_loserOf_24 : decode cX6_loserOf 24 = .ok (.iaload, 1) := by decide +kernel
theorem dX6_loserOf_25 : decode cX6_loserOf 25 = .ok (.goto 9, 3) := by decide +kernel
theorem dX6_loserOf_28 : decode cX6_loserOf 28 = .ok (.aload_n 0, 1) := by decide +kernel
theorem dX6_loserOf_29 : decode cX6_loserOf 29 = .ok (.getfield 18, 3) := by decide +kernel
theorem dX6_loserOf_32 : decode cX6_loserOf 32 = .ok (.iload_n 1, 1) := by decide +kernel
theorem dX6_loserOf_33 : decode cX6_loserOf 33 = .ok (.iaload, 1) := by decide +kernel
theorem dX6_loserOf_34 : decode cX6_loserOf 34 = .ok (.ireturn, 1) := by decide +kernel
theorem dX6_hostOf_0 : decode cX6_hostOf 0 = .ok (.iload_n 2, 1) := by decide +kernel
theorem dX6_hostOf_1 : decode cX6_hostOf 1 = .ok (.iconst 2, 1) := by decide +kernel
theorem dX6_hostOf_2 : decode cX6_hostOf 2 = .ok (.irem, 1) := by decide +kernel
theorem dX6_hostOf_3 : decode cX6_hostOf 3 = .ok (.ifCond .ne 12, 3) := by decide +kernel
theorem dX6_hostOf_6 : decode cX6_hostOf 6 = .ok (.aload_n 0, 1) := by decide +kernel
theorem dX6_hostOf_7 : decode cX6_hostOf 7 = .ok (.getfield 18, 3) := by decide +kernel
theorem dX6_hostOf_10 : decode cX6_hostOf 10 = .ok (.iload_n 1, 1) := by decide +kernel
theorem dX6_hostOf_11 : decode cX6_hostOf 11 = .ok (.iaload, 1) := by decide +kernel
theorem dX6_hostOf_12 : decode cX6_hostOf 12 = .ok (.goto 9, 3) := by decide +kernel
theorem dX6_hostOf_15 : decode cX6_hostOf 15 = .ok (.aload_n 0, 1) := by decide +kernel
theorem dX6_hostOf_16 : decode cX6_hostOf 16 = .ok (.getfield 21, 3) := by decide +kernel
theorem dX6_hostOf_19 : decode cX6_hostOf 19 = .ok (.iload_n 1, 1) := by decide +kernel
theorem dX6_hostOf_20 : decode cX6_hostOf 20 = .ok (.iaload, 1) := by decide +kernel
theorem dX6_hostOf_21 : decode cX6_hostOf 21 = .ok (.ireturn, 1) := by decide +kernel
theorem dX6_guestOf_0 : decode cX6_guestOf 0 = .ok (.iload_n 2, 1) := by decide +kernel
theorem dX6_guestOf_1 : decode cX6_guestOf 1 = .ok (.iconst 2, 1) := by decide +kernel
theorem dX6_guestOf_2 : decode cX6_guestOf 2 = .ok (.irem, 1) := by decide +kernel
theorem dX6_guestOf_3 : decode cX6_guestOf 3 = .ok (.ifCond .ne 12, 3) := by decide +kernel
theorem dX6_guestOf_6 : decode cX6_guestOf 6 = .ok (.aload_n 0, 1) := by decide +kernel
theorem dX6_guestOf_7 : decode cX6_guestOf 7 = .ok (.getfield 21, 3) := by decide +kernel
theorem dX6_guestOf_10 : decode cX6_guestOf 10 = .ok (.iload_n 1, 1) := by decide +kernel
theorem dX6_guestOf_11 : decode cX6_guestOf 11 = .ok (.iaload, 1) := by decide +kernel
theorem dX6_guestOf_12 : decode cX6_guestOf 12 = .ok (.goto 9, 3) := by decide +kernel
theorem dX6_guestOf_15 : decode cX6_guestOf 15 = .ok (.aload_n 0, 1) := by decide +kernel
theorem dX6_guestOf_16 : decode cX6_guestOf 16 = .ok (.getfield 18, 3) := by decide +kernel
theorem dX6_guestOf_19 : decode cX6_guestOf 19 = .ok (.iload_n 1, 1) := by decide +kernel
theorem dX6_guestOf_20 : decode cX6_guestOf 20 = .ok (.iaload, 1) := by decide +kernel
theorem dX6_guestOf_21 : decode cX6_guestOf 21 = .ok (.ireturn, 1) := by decide +kernel
theorem dX6_gatesOf_0 : decode cX6_gatesOf 0 = .ok (.iconst 0, 1) := by decide +kernel
theorem dX6_gatesOf_1 : decode cX6_gatesOf 1 = .ok (.istore_n 2, 1) := by decide +kernel
theorem dX6_gatesOf_2 : decode cX6_gatesOf 2 = .ok (.iconst 0, 1) := by decide +kernel
theorem dX6_gatesOf_3 : decode cX6_gatesOf 3 = .ok (.istore_n 3, 1) := by decide +kernel
theorem dX6_gatesOf_4 : decode cX6_gatesOf 4 = .ok (.iload_n 3, 1) := by decide +kernel
theorem dX6_gatesOf_5 : decode cX6_gatesOf 5 = .ok (.aload_n 0, 1) := by decide +kernel
theorem dX6_gatesOf_6 : decode cX6_gatesOf 6 = .ok (.getfield 24, 3) := by decide +kernel
theorem dX6_gatesOf_9 : decode cX6_gatesOf 9 = .ok (.iload_n 1, 1) := by decide +kernel
theorem dX6_gatesOf_10 : decode cX6_gatesOf 10 = .ok (.iaload, 1) := by decide +kernel
theorem dX6_gatesOf_11 : decode cX6_gatesOf 11 = .ok (.if_icmp .ge 22, 3) := by decide +kernel
theorem dX6_gatesOf_14 : decode cX6_gatesOf 14 = .ok (.iload_n 2, 1) := by decide +kernel
theorem dX6_gatesOf_15 : decode cX6_gatesOf 15 = .ok (.aload_n 0, 1) := by decide +kernel
theorem dX6_gatesOf_16 : decode cX6_gatesOf 16 = .ok (.getfield 27, 3) := by decide +kernel
theorem dX6_gatesOf_19 : decode cX6_gatesOf 19 = .ok (.iload_n 1, 1) := by decide +kernel
theorem dX6_gatesOf_20 : decode cX6_gatesOf 20 = .ok (.iconst 4, 1) := by decide +kernel
theorem dX6_gatesOf_21 : decode cX6_gatesOf 21 = .ok (.imul, 1) := by decide +kernel
theorem dX6_gatesOf_22 : decode cX6_gatesOf 22 = .ok (.iload_n 3, 1) := by decide +kernel
theorem dX6_gatesOf_23 : decode cX6_gatesOf 23 = .ok (.iadd, 1) := by decide +kernel
theorem dX6_gatesOf_24 : decode cX6_gatesOf 24 = .ok (.iaload, 1) := by decide +kernel
theorem dX6_gatesOf_25 : decode cX6_gatesOf 25 = .ok (.iadd, 1) := by decide +kernel
theorem dX6_gatesOf_26 : decode cX6_gatesOf 26 = .ok (.istore_n 2, 1) := by decide +kernel
theorem dX6_gatesOf_27 : decode cX6_gatesOf 27 = .ok (.iinc 3 1, 3) := by decide +kernel
theorem dX6_gatesOf_30 : decode cX6_gatesOf 30 = .ok (.goto (-26), 3) := by decide +kernel
theorem dX6_gatesOf_33 : decode cX6_gatesOf 33 = .ok (.iload_n 2, 1) := by decide +kernel
theorem dX6_gatesOf_34 : decode cX6_gatesOf 34 = .ok (.ireturn, 1) := by decide +kernel
theorem dX6_allGames_0 : decode cX6_allGames 0 = .ok (.iconst 0, 1) := by decide +kernel
theorem dX6_allGames_1 : decode cX6_allGames 1 = .ok (.istore_n 1, 1) := by decide +kernel
theorem dX6_allGames_2 : decode cX6_allGames 2 = .ok (.iconst 0, 1) := by decide +kernel
theorem dX6_allGames_3 : decode cX6_allGames 3 = .ok (.istore_n 2, 1) := by decide +kernel
theorem dX6_allGames_4 : decode cX6_allGames 4 = .ok (.iload_n 2, 1) := by decide +kernel
theorem dX6_allGames_5 : decode cX6_allGames 5 = .ok (.aload_n 0, 1) := by decide +kernel
theorem dX6_allGames_6 : decode cX6_allGames 6 = .ok (.getfield 33, 3) := by decide +kernel
theorem dX6_allGames_9 : decode cX6_allGames 9 = .ok (.if_icmp .ge 18, 3) := by decide +kernel
theorem dX6_allGames_12 : decode cX6_allGames 12 = .ok (.iload_n 1, 1) := by decide +kernel
theorem dX6_allGames_13 : decode cX6_allGames 13 = .ok (.aload_n 0, 1) := by decide +kernel
theorem dX6_allGames_14 : decode cX6_allGames 14 = .ok (.getfield 24, 3) := by decide +kernel
theorem dX6_allGames_17 : decode cX6_allGames 17 = .ok (.iload_n 2, 1) := by decide +kernel
theorem dX6_allGames_18 : decode cX6_allGames 18 = .ok (.iaload, 1) := by decide +kernel
theorem dX6_allGames_19 : decode cX6_allGames 19 = .ok (.iadd, 1) := by decide +kernel
theorem dX6_allGames_20 : decode cX6_allGames 20 = .ok (.istore_n 1, 1) := by decide +kernel
theorem dX6_allGames_21 : decode cX6_allGames 21 = .ok (.iinc 2 1, 3) := by decide +kernel
theorem dX6_allGames_24 : decode cX6_allGames 24 = .ok (.goto (-20), 3) := by decide +kernel
theorem dX6_allGames_27 : decode cX6_allGames 27 = .ok (.iload_n 1, 1) := by decide +kernel
theorem dX6_allGames_28 : decode cX6_allGames 28 = .ok (.ireturn, 1) := by decide +kernel
theorem dX6_decidedTies_0 : decode cX6_decidedTies 0 = .ok (.iconst 0, 1) := by decide +kernel
theorem dX6_decidedTies_1 : decode cX6_decidedTies 1 = .ok (.istore_n 1, 1) := by decide +kernel
theorem dX6_decidedTies_2 : decode cX6_decidedTies 2 = .ok (.iconst 0, 1) := by decide +kernel
theorem dX6_decidedTies_3 : decode cX6_decidedTies 3 = .ok (.istore_n 2, 1) := by decide +kernel
theorem dX6_decidedTies_4 : decode cX6_decidedTies 4 = .ok (.iload_n 2, 1) := by decide +kernel
theorem dX6_decidedTies_5 : decode cX6_decidedTies 5 = .ok (.aload_n 0, 1) := by decide +kernel
theorem dX6_decidedTies_6 : decode cX6_decidedTies 6 = .ok (.getfield 33, 3) := by decide +kernel
theorem dX6_decidedTies_9 : decode cX6_decidedTies 9 = .ok (.if_icmp .ge 20, 3) := by decide +kernel
theorem dX6_decidedTies_12 : decode cX6_decidedTies 12 = .ok (.aload_n 0, 1) := by decide +kernel
theorem dX6_decidedTies_13 : decode cX6_decidedTies 13 = .ok (.iload_n 2, 1) := by decide +kernel
theorem dX6_decidedTies_14 : decode cX6_decidedTies 14 = .ok (.invokevirtual 50, 3) := by decide +kernel
theorem dX6_decidedTies_17 : decode cX6_decidedTies 17 = .ok (.ifCond .eq 6, 3) := by decide +kernel
theorem dX6_decidedTies_20 : decode cX6_decidedTies 20 = .ok (.iinc 1 1, 3) := by decide +kernel
theorem dX6_decidedTies_23 : decode cX6_decidedTies 23 = .ok (.iinc 2 1, 3) := by decide +kernel
theorem dX6_decidedTies_26 : decode cX6_decidedTies 26 = .ok (.goto (-22), 3) := by decide +kernel
theorem dX6_decidedTies_29 : decode cX6_decidedTies 29 = .ok (.iload_n 1, 1) := by decide +kernel
theorem dX6_decidedTies_30 : decode cX6_decidedTies 30 = .ok (.ireturn, 1) := by decide +kernel
theorem dX6_metBy_0 : decode cX6_metBy 0 = .ok (.iconst 0, 1) := by decide +kernel
theorem dX6_metBy_1 : decode cX6_metBy 1 = .ok (.istore_n 2, 1) := by decide +kernel
theorem dX6_metBy_2 : decode cX6_metBy 2 = .ok (.iconst 0, 1) := by decide +kernel
theorem dX6_metBy_3 : decode cX6_metBy 3 = .ok (.istore_n 3, 1) := by decide +kernel
theorem dX6_metBy_4 : decode cX6_metBy 4 = .ok (.iload_n 3, 1) := by decide +kernel
theorem dX6_metBy_5 : decode cX6_metBy 5 = .ok (.aload_n 0, 1) := by decide +kernel
theorem dX6_metBy_6 : decode cX6_metBy 6 = .ok (.getfield 33, 3) := by decide +kernel
theorem dX6_metBy_9 : decode cX6_metBy 9 = .ok (.if_icmp .ge 59, 3) := by decide +kernel
theorem dX6_metBy_12 : decode cX6_metBy 12 = .ok (.iload_n 1, 1) := by decide +kernel
theorem dX6_metBy_13 : decode cX6_metBy 13 = .ok (.aload_n 0, 1) := by decide +kernel
theorem dX6_metBy_14 : decode cX6_metBy 14 = .ok (.getfield 18, 3) := by decide +kernel
theorem dX6_metBy_17 : decode cX6_metBy 17 = .ok (.iload_n 3, 1) := by decide +kernel
theorem dX6_metBy_18 : decode cX6_metBy 18 = .ok (.iaload, 1) := by decide +kernel
theorem dX6_metBy_19 : decode cX6_metBy 19 = .ok (.ishr, 1) := by decide +kernel
theorem dX6_metBy_20 : decode cX6_metBy 20 = .ok (.iconst 1, 1) := by decide +kernel
theorem dX6_metBy_21 : decode cX6_metBy 21 = .ok (.iand, 1) := by decide +kernel
theorem dX6_metBy_22 : decode cX6_metBy 22 = .ok (.iconst 1, 1) := by decide +kernel
theorem dX6_metBy_23 : decode cX6_metBy 23 = .ok (.if_icmp .ne 14, 3) := by decide +kernel
theorem dX6_metBy_26 : decode cX6_metBy 26 = .ok (.iload_n 2, 1) := by decide +kernel
theorem dX6_metBy_27 : decode cX6_metBy 27 = .ok (.iconst 1, 1) := by decide +kernel
theorem dX6_metBy_28 : decode cX6_metBy 28 = .ok (.aload_n 0, 1) := by decide +kernel
theorem dX6_metBy_29 : decode cX6_metBy 29 = .ok (.getfield 21, 3) := by decide +kernel
theorem dX6_metBy_32 : decode cX6_metBy 32 = .ok (.iload_n 3, 1) := by decide +kernel
theorem dX6_metBy_33 : decode cX6_metBy 33 = .ok (.iaload, 1) := by decide +kernel
theorem dX6_metBy_34 : decode cX6_metBy 34 = .ok (.ishl, 1) := by decide +kernel
theorem dX6_metBy_35 : decode cX6_metBy 35 = .ok (.ior, 1) := by decide +kernel
theorem dX6_metBy_36 : decode cX6_metBy 36 = .ok (.istore_n 2, 1) := by decide +kernel
theorem dX6_metBy_37 : decode cX6_metBy 37 = .ok (.iload_n 1, 1) := by decide +kernel
theorem dX6_metBy_38 : decode cX6_metBy 38 = .ok (.aload_n 0, 1) := by decide +kernel
theorem dX6_metBy_39 : decode cX6_metBy 39 = .ok (.getfield 21, 3) := by decide +kernel
theorem dX6_metBy_42 : decode cX6_metBy 42 = .ok (.iload_n 3, 1) := by decide +kernel
theorem dX6_metBy_43 : decode cX6_metBy 43 = .ok (.iaload, 1) := by decide +kernel
theorem dX6_metBy_44 : decode cX6_metBy 44 = .ok (.ishr, 1) := by decide +kernel
theorem dX6_metBy_45 : decode cX6_metBy 45 = .ok (.iconst 1, 1) := by decide +kernel
theorem dX6_metBy_46 : decode cX6_metBy 46 = .ok (.iand, 1) := by decide +kernel
theorem dX6_metBy_47 : decode cX6_metBy 47 = .ok (.iconst 1, 1) := by decide +kernel
theorem dX6_metBy_48 : decode cX6_metBy 48 = .ok (.if_icmp .ne 14, 3) := by decide +kernel
theorem dX6_metBy_51 : decode cX6_metBy 51 = .ok (.iload_n 2, 1) := by decide +kernel
theorem dX6_metBy_52 : decode cX6_metBy 52 = .ok (.iconst 1, 1) := by decide +kernel
theorem dX6_metBy_53 : decode cX6_metBy 53 = .ok (.aload_n 0, 1) := by decide +kernel
theorem dX6_metBy_54 : decode cX6_metBy 54 = .ok (.getfield 18, 3) := by decide +kernel
theorem dX6_metBy_57 : decode cX6_metBy 57 = .ok (.iload_n 3, 1) := by decide +kernel
theorem dX6_metBy_58 : decode cX6_metBy 58 = .ok (.iaload, 1) := by decide +kernel
theorem dX6_metBy_59 : decode cX6_metBy 59 = .ok (.ishl, 1) := by decide +kernel
theorem dX6_metBy_60 : decode cX6_metBy 60 = .ok (.ior, 1) := by decide +kernel
theorem dX6_metBy_61 : decode cX6_metBy 61 = .ok (.istore_n 2, 1) := by decide +kernel
theorem dX6_metBy_62 : decode cX6_metBy 62 = .ok (.iinc 3 1, 3) := by decide +kernel
theorem dX6_metBy_65 : decode cX6_metBy 65 = .ok (.goto (-61), 3) := by decide +kernel
theorem dX6_metBy_68 : decode cX6_metBy 68 = .ok (.iload_n 2, 1) := by decide +kernel
theorem dX6_metBy_69 : decode cX6_metBy 69 = .ok (.ireturn, 1) := by decide +kernel
theorem dX6_linkedWith_0 : decode cX6_linkedWith 0 = .ok (.iconst 1, 1) := by decide +kernel
theorem dX6_linkedWith_1 : decode cX6_linkedWith 1 = .ok (.iload_n 1, 1) := by decide +kernel
theorem dX6_linkedWith_2 : decode cX6_linkedWith 2 = .ok (.ishl, 1) := by decide +kernel
theorem dX6_linkedWith_3 : decode cX6_linkedWith 3 = .ok (.istore_n 2, 1) := by decide +kernel
theorem dX6_linkedWith_4 : decode cX6_linkedWith 4 = .ok (.iconst 1, 1) := by decide +kernel
theorem dX6_linkedWith_5 : decode cX6_linkedWith 5 = .ok (.istore_n 3, 1) := by decide +kernel
theorem dX6_linkedWith_6 : decode cX6_linkedWith 6 = .ok (.iload_n 3, 1) := by decide +kernel
theorem dX6_linkedWith_7 : decode cX6_linkedWith 7 = .ok (.bipush 12, 2) := by decide +kernel
theorem dX6_linkedWith_9 : decode cX6_linkedWith 9 = .ok (.if_icmp .ge 17, 3) := by decide +kernel
theorem dX6_linkedWith_12 : decode cX6_linkedWith 12 = .ok (.iload_n 2, 1) := by decide +kernel
theorem dX6_linkedWith_13 : decode cX6_linkedWith 13 = .ok (.aload_n 0, 1) := by decide +kernel
theorem dX6_linkedWith_14 : decode cX6_linkedWith 14 = .ok (.iload_n 2, 1) := by decide +kernel
theorem dX6_linkedWith_15 : decode cX6_linkedWith 15 = .ok (.invokevirtual 65, 3) := by decide +kernel
theorem dX6_linkedWith_18 : decode cX6_linkedWith 18 = .ok (.ior, 1) := by decide +kernel
theorem dX6_linkedWith_19 : decode cX6_linkedWith 19 = .ok (.istore_n 2, 1) := by decide +kernel
theorem dX6_linkedWith_20 : decode cX6_linkedWith 20 = .ok (.iinc 3 1, 3) := by decide +kernel
theorem dX6_linkedWith_23 : decode cX6_linkedWith 23 = .ok (.goto (-17), 3) := by decide +kernel
theorem dX6_linkedWith_26 : decode cX6_linkedWith 26 = .ok (.iload_n 2, 1) := by decide +kernel
theorem dX6_linkedWith_27 : decode cX6_linkedWith 27 = .ok (.ireturn, 1) := by decide +kernel
theorem dX6_stillIn_0 : decode cX6_stillIn 0 = .ok (.iconst 0, 1) := by decide +kernel
theorem dX6_stillIn_1 : decode cX6_stillIn 1 = .ok (.istore_n 2, 1) := by decide +kernel
theorem dX6_stillIn_2 : decode cX6_stillIn 2 = .ok (.iconst 0, 1) := by decide +kernel
theorem dX6_stillIn_3 : decode cX6_stillIn 3 = .ok (.istore_n 3, 1) := by decide +kernel
theorem dX6_stillIn_4 : decode cX6_stillIn 4 = .ok (.iconst 0, 1) := by decide +kernel
theorem dX6_stillIn_5 : decode cX6_stillIn 5 = .ok (.istore 4, 2) := by decide +kernel
theorem dX6_stillIn_7 : decode cX6_stillIn 7 = .ok (.iload 4, 2) := by decide +kernel
theorem dX6_stillIn_9 : decode cX6_stillIn 9 = .ok (.aload_n 0, 1) := by decide +kernel
theorem dX6_stillIn_10 : decode cX6_stillIn 10 = .ok (.getfield 33, 3) := by decide +kernel
theorem dX6_stillIn_13 : decode cX6_stillIn 13 = .ok (.if_icmp .ge 66, 3) := by decide +kernel
theorem dX6_stillIn_16 : decode cX6_stillIn 16 = .ok (.aload_n 0, 1) := by decide +kernel
theorem dX6_stillIn_17 : decode cX6_stillIn 17 = .ok (.getfield 9, 3) := by decide +kernel
theorem dX6_stillIn_20 : decode cX6_stillIn 20 = .ok (.iload 4, 2) := by decide +kernel
theorem dX6_stillIn_22 : decode cX6_stillIn 22 = .ok (.iaload, 1) := by decide +kernel
theorem dX6_stillIn_23 : decode cX6_stillIn 23 = .ok (.iload_n 1, 1) := by decide +kernel
theorem dX6_stillIn_24 : decode cX6_stillIn 24 = .ok (.if_icmp .ne 49, 3) := by decide +kernel
theorem dX6_stillIn_27 : decode cX6_stillIn 27 = .ok (.iload_n 2, 1) := by decide +kernel
theorem dX6_stillIn_28 : decode cX6_stillIn 28 = .ok (.iconst 1, 1) := by decide +kernel
theorem dX6_stillIn_29 : decode cX6_stillIn 29 = .ok (.aload_n 0, 1) := by decide +kernel
theorem dX6_stillIn_30 : decode cX6_stillIn 30 = .ok (.getfield 18, 3) := by decide +kernel
theorem dX6_stillIn_33 : decode cX6_stillIn 33 = .ok (.iload 4, 2) := by decide +kernel
theorem dX6_stillIn_35 : decode cX6_stillIn 35 = .ok (.iaload, 1) := by decide +kernel
theorem dX6_stillIn_36 : decode cX6_stillIn 36 = .ok (.ishl, 1) := by decide +kernel
theorem dX6_stillIn_37 : decode cX6_stillIn 37 = .ok (.iconst 1, 1) := by decide +kernel
theorem dX6_stillIn_38 : decode cX6_stillIn 38 = .ok (.aload_n 0, 1) := by decide +kernel
theorem dX6_stillIn_39 : decode cX6_stillIn 39 = .ok (.getfield 21, 3) := by decide +kernel
theorem dX6_stillIn_42 : decode cX6_stillIn 42 = .ok (.iload 4, 2) := by decide +kernel
theorem dX6_stillIn_44 : decode cX6_stillIn 44 = .ok (.iaload, 1) := by decide +kernel
theorem dX6_stillIn_45 : decode cX6_stillIn 45 = .ok (.ishl, 1) := by decide +kernel
theorem dX6_stillIn_46 : decode cX6_stillIn 46 = .ok (.ior, 1) := by decide +kernel
theorem dX6_stillIn_47 : decode cX6_stillIn 47 = .ok (.ior, 1) := by decide +kernel
theorem dX6_stillIn_48 : decode cX6_stillIn 48 = .ok (.istore_n 2, 1) := by decide +kernel
theorem dX6_stillIn_49 : decode cX6_stillIn 49 = .ok (.iload_n 3, 1) := by decide +kernel
theorem dX6_stillIn_50 : decode cX6_stillIn 50 = .ok (.aload_n 0, 1) := by decide +kernel
theorem dX6_stillIn_51 : decode cX6_stillIn 51 = .ok (.iload 4, 2) := by decide +kernel
theorem dX6_stillIn_53 : decode cX6_stillIn 53 = .ok (.invokevirtual 50, 3) := by decide +kernel
theorem dX6_stillIn_56 : decode cX6_stillIn 56 = .ok (.ifCond .eq 14, 3) := by decide +kernel
theorem dX6_stillIn_59 : decode cX6_stillIn 59 = .ok (.iconst 1, 1) := by decide +kernel
theorem dX6_stillIn_60 : decode cX6_stillIn 60 = .ok (.aload_n 0, 1) := by decide +kernel
theorem dX6_stillIn_61 : decode cX6_stillIn 61 = .ok (.iload 4, 2) := by decide +kernel
theorem dX6_stillIn_63 : decode cX6_stillIn 63 = .ok (.invokevirtual 68, 3) := by decide +kernel
theorem dX6_stillIn_66 : decode cX6_stillIn 66 = .ok (.ishl, 1) := by decide +kernel
theorem dX6_stillIn_67 : decode cX6_stillIn 67 = .ok (.goto 4, 3) := by decide +kernel
theorem dX6_stillIn_70 : decode cX6_stillIn 70 = .ok (.iconst 0, 1) := by decide +kernel
theorem dX6_stillIn_71 : decode cX6_stillIn 71 = .ok (.ior, 1) := by decide +kernel
theorem dX6_stillIn_72 : decode cX6_stillIn 72 = .ok (.istore_n 3, 1) := by decide +kernel
theorem dX6_stillIn_73 : decode cX6_stillIn 73 = .ok (.iinc 4 1, 3) := by decide +kernel
theorem dX6_stillIn_76 : decode cX6_stillIn 76 = .ok (.goto (-69), 3) := by decide +kernel
theorem dX6_stillIn_79 : decode cX6_stillIn 79 = .ok (.iload_n 2, 1) := by decide +kernel
theorem dX6_stillIn_80 : decode cX6_stillIn 80 = .ok (.iload_n 3, 1) := by decide +kernel
theorem dX6_stillIn_81 : decode cX6_stillIn 81 = .ok (.iconst (-1), 1) := by decide +kernel
theorem dX6_stillIn_82 : decode cX6_stillIn 82 = .ok (.ixor, 1) := by decide +kernel
theorem dX6_stillIn_83 : decode cX6_stillIn 83 = .ok (.iand, 1) := by decide +kernel
theorem dX6_stillIn_84 : decode cX6_stillIn 84 = .ok (.ireturn, 1) := by decide +kernel
theorem dX7_init_0 : decode cX7_init 0 = .ok (.aload_n 0, 1) := by decide +kernel
theorem dX7_init_1 : decode cX7_init 1 = .ok (.invokespecial 3, 3) := by decide +kernel
theorem dX7_init_4 : decode cX7_init 4 = .ok (.aload_n 0, 1) := by decide +kernel
theorem dX7_init_5 : decode cX7_init 5 = .ok (.bipush 13, 2) := by decide +kernel
theorem dX7_init_7 : decode cX7_init 7 = .ok (.newarray .int, 2) := by decide +kernel
theorem dX7_init_9 : decode cX7_init 9 = .ok (.putfield 11, 3) := by decide +kernel
theorem dX7_init_12 : decode cX7_init 12 = .ok (.aload_n 0, 1) := by decide +kernel
theorem dX7_init_13 : decode cX7_init 13 = .ok (.sipush 4096, 3) := by decide +kernel
theorem dX7_init_16 : decode cX7_init 16 = .ok (.newarray .int, 2) := by decide +kernel
theorem dX7_init_18 : decode cX7_init 18 = .ok (.putfield 15, 3) := by decide +kernel
theorem dX7_init_21 : decode cX7_init 21 = .ok (.aload_n 0, 1) := by decide +kernel
theorem dX7_init_22 : decode cX7_init 22 = .ok (.bipush 13, 2) := by decide +kernel
theorem dX7_init_24 : decode cX7_init 24 = .ok (.newarray .int, 2) := by decide +kernel
theorem dX7_init_26 : decode cX7_init 26 = .ok (.putfield 18, 3) := by decide +kernel
theorem dX7_init_29 : decode cX7_init 29 = .ok (.aload_n 0, 1) := by decide +kernel
theorem dX7_init_30 : decode cX7_init 30 = .ok (.bipush 13, 2) := by decide +kernel
theorem dX7_init_32 : decode cX7_init 32 = .ok (.newarray .int, 2) := by decide +kernel
theorem dX7_init_34 : decode cX7_init 34 = .ok (.putfield 21, 3) := by decide +kernel
theorem dX7_init_37 : decode cX7_init 37 = .ok (.aload_n 0, 1) := by decide +kernel
theorem dX7_init_38 : decode cX7_init 38 = .ok (.bipush 13, 2) := by decide +kernel
theorem dX7_init_40 : decode cX7_init 40 = .ok (.newarray .int, 2) := by decide +kernel
theorem dX7_init_42 : decode cX7_init 42 = .ok (.putfield 24, 3) := by decide +kernel
theorem dX7_init_45 : decode cX7_init 45 = .ok (.return_, 1) := by decide +kernel
theorem dX7_gather_0 : decode cX7_gather 0 = .ok (.aload_n 0, 1) := by decide +kernel
theorem dX7_gather_1 : decode cX7_gather 1 = .ok (.iconst 0, 1) := by decide +kernel
theorem dX7_gather_2 : decode cX7_gather 2 = .ok (.putfield 27, 3) := by decide +kernel
theorem dX7_gather_5 : decode cX7_gather 5 = .ok (.iconst 0, 1) := by decide +kernel
theorem dX7_gather_6 : decode cX7_gather 6 = .ok (.istore_n 3, 1) := by decide +kernel
theorem dX7_gather_7 : decode cX7_gather 7 = .ok (.iload_n 3, 1) := by decide +kernel
theorem dX7_gather_8 : decode cX7_gather 8 = .ok (.iload_n 2, 1) := by decide +kernel
theorem dX7_gather_9 : decode cX7_gather 9 = .ok (.if_icmp .ge 37, 3) := by decide +kernel
theorem dX7_gather_12 : decode cX7_gather 12 = .ok (.aload_n 1, 1) := by decide +kernel
theorem dX7_gather_13 : decode cX7_gather 13 = .ok (.iload_n 3, 1) := by decide +kernel
theorem dX7_gather_14 : decode cX7_gather 14 = .ok (.iaload, 1) := by decide +kernel
theorem dX7_gather_15 : decode cX7_gather 15 = .ok (.ifCond .eq 25, 3) := by decide +kernel
theorem dX7_gather_18 : decode cX7_gather 18 = .ok (.aload_n 0, 1) := by decide +kernel
theorem dX7_gather_19 : decode cX7_gather 19 = .ok (.getfield 11, 3) := by decide +kernel
theorem dX7_gather_22 : decode cX7_gather 22 = .ok (.aload_n 0, 1) := by decide +kernel
theorem dX7_gather_23 : decode cX7_gather 23 = .ok (.getfield 27, 3) := by decide +kernel
theorem dX7_gather_26 : decode cX7_gather 26 = .ok (.aload_n 1, 1) := by decide +kernel
theorem dX7_gather_27 : decode cX7_gather 27 = .ok (.iload_n 3, 1) := by decide +kernel
theorem dX7_gather_28 : decode cX7_gather 28 = .ok (.iaload, 1) := by decide +kernel
theorem dX7_gather_29 : decode cX7_gather 29 = .ok (.iastore, 1) := by decide +kernel
theorem dX7_gather_30 : decode cX7_gather 30 = .ok (.aload_n 0, 1) := by decide +kernel
theorem dX7_gather_31 : decode cX7_gather 31 = .ok (.dup, 1) := by decide +kernel
theorem dX7_gather_32 : decode cX7_gather 32 = .ok (.getfield 27, 3) := by decide +kernel
theorem dX7_gather_35 : decode cX7_gather 35 = .ok (.iconst 1, 1) := by decide +kernel
theorem dX7_gather_36 : decode cX7_gather 36 = .ok (.iadd, 1) := by decide +kernel
theorem dX7_gather_37 : decode cX7_gather 37 = .ok (.putfield 27, 3) := by decide +kernel
theorem dX7_gather_40 : decode cX7_gather 40 = .ok (.iinc 3 1, 3) := by decide +kernel
theorem dX7_gather_43 : decode cX7_gather 43 = .ok (.goto (-36), 3) := by decide +kernel
theorem dX7_gather_46 : decode cX7_gather 46 = .ok (.return_, 1) := by decide +kernel
theorem dX7_mostGroups_0 : decode cX7_mostGroups 0 = .ok (.aload_n 0, 1) := by decide +kernel
theorem dX7_mostGroups_1 : decode cX7_mostGroups 1 = .ok (.getfield 27, 3) := by decide +kernel
theorem dX7_mostGroups_4 : decode cX7_mostGroups 4 = .ok (.ifCond .ne 5, 3) := by decide +kernel
theorem dX7_mostGroups_7 : decode cX7_mostGroups 7 = .ok (.iconst 0, 1) := by decide +kernel
theorem dX7_mostGroups_8 : decode cX7_mostGroups 8 = .ok (.ireturn, 1) := by decide +kernel
theorem dX7_mostGroups_9 : decode cX7_mostGroups 9 = .ok (.iconst 1, 1) := by decide +kernel
theorem dX7_mostGroups_10 : decode cX7_mostGroups 10 = .ok (.aload_n 0, 1) := by decide +kernel
theorem dX7_mostGroups_11 : decode cX7_mostGroups 11 = .ok (.getfield 27, 3) := by decide +kernel
theorem dX7_mostGroups_14 : decode cX7_mostGroups 14 = .ok (.iconst 1, 1) := by decide +kernel
theorem dX7_mostGroups_15 : decode cX7_mostGroups 15 = .ok (.isub, 1) := by decide +kernel
theorem dX7_mostGroups_16 : decode cX7_mostGroups 16 = .ok (.ishl, 1) := by decide +kernel
theorem dX7_mostGroups_17 : decode cX7_mostGroups 17 = .ok (.istore_n 1, 1) := by decide +kernel
theorem dX7_mostGroups_18 : decode cX7_mostGroups 18 = .ok (.iconst 1, 1) := by decide +kernel
theorem dX7_mostGroups_19 : decode cX7_mostGroups 19 = .ok (.istore_n 2, 1) := by decide +kernel
theorem dX7_mostGroups_20 : decode cX7_mostGroups 20 = .ok (.iload_n 2, 1) := by decide +kernel
theorem dX7_mostGroups_21 : decode cX7_mostGroups 21 = .ok (.iload_n 1, 1) := by decide +kernel
theorem dX7_mostGroups_22 : decode cX7_mostGroups 22 = .ok (.if_icmp .ge 91, 3) := by decide +kernel
theorem dX7_mostGroups_25 : decode cX7_mostGroups 25 = .ok (.iconst 0, 1) := by decide +kernel
theorem dX7_mostGroups_26 : decode cX7_mostGroups 26 = .ok (.istore_n 3, 1) := by decide +kernel
theorem dX7_mostGroups_27 : decode cX7_mostGroups 27 = .ok (.iconst 0, 1) := by decide +kernel
theorem dX7_mostGroups_28 : decode cX7_mostGroups 28 = .ok (.istore 4, 2) := by decide +kernel
theorem dX7_mostGroups_30 : decode cX7_mostGroups 30 = .ok (.iconst 0, 1) := by decide +kernel
theorem dX7_mostGroups_31 : decode cX7_mostGroups 31 = .ok (.istore 5, 2) := by decide +kernel
theorem dX7_mostGroups_33 : decode cX7_mostGroups 33 = .ok (.iload 5, 2) := by decide +kernel
theorem dX7_mostGroups_35 : decode cX7_mostGroups 35 = .ok (.aload_n 0, 1) := by decide +kernel
theorem dX7_mostGroups_36 : decode cX7_mostGroups 36 = .ok (.getfield 27, 3) := by decide +kernel
theorem dX7_mostGroups_39 : decode cX7_mostGroups 39 = .ok (.iconst 1, 1) := by decide +kernel
theorem dX7_mostGroups_40 : decode cX7_mostGroups 40 = .ok (.isub, 1) := by decide +kernel
theorem dX7_mostGroups_41 : decode cX7_mostGroups 41 = .ok (.if_icmp .ge 47, 3) := by decide +kernel
theorem dX7_mostGroups_44 : decode cX7_mostGroups 44 = .ok (.iload_n 2, 1) := by decide +kernel
theorem dX7_mostGroups_45 : decode cX7_mostGroups 45 = .ok (.iload 5, 2) := by decide +kernel
theorem dX7_mostGroups_47 : decode cX7_mostGroups 47 = .ok (.ishr, 1) := by decide +kernel
theorem dX7_mostGroups_48 : decode cX7_mostGroups 48 = .ok (.iconst 1, 1) := by decide +kernel
theorem dX7_mostGroups_49 : decode cX7_mostGroups 49 = .ok (.iand, 1) := by decide +kernel
theorem dX7_mostGroups_50 : decode cX7_mostGroups 50 = .ok (.iconst 1, 1) := by decide +kernel
theorem dX7_mostGroups_51 : decode cX7_mostGroups 51 = .ok (.if_icmp .ne 31, 3) := by decide +kernel
theorem dX7_mostGroups_54 : decode cX7_mostGroups 54 = .ok (.iload_n 3, 1) := by decide +kernel
theorem dX7_mostGroups_55 : decode cX7_mostGroups 55 = .ok (.aload_n 0, 1) := by decide +kernel
theorem dX7_mostGroups_56 : decode cX7_mostGroups 56 = .ok (.getfield 11, 3) := by decide +kernel
theorem dX7_mostGroups_59 : decode cX7_mostGroups 59 = .ok (.iload 5, 2) := by decide +kernel
theorem dX7_mostGroups_61 : decode cX7_mostGroups 61 = .ok (.iaload, 1) := by decide +kernel
theorem dX7_mostGroups_62 : decode cX7_mostGroups 62 = .ok (.iadd, 1) := by decide +kernel
theorem dX7_mostGroups_63 : decode cX7_mostGroups 63 = .ok (.istore_n 3, 1) := by decide +kernel
theorem dX7_mostGroups_64 : decode cX7_mostGroups 64 = .ok (.iload 4, 2) := by decide +kernel
theorem dX7_mostGroups_66 : decode cX7_mostGroups 66 = .ok (.aload_n 0, 1) := by decide +kernel
theorem dX7_mostGroups_67 : decode cX7_mostGroups 67 = .ok (.getfield 15, 3) := by decide +kernel
theorem dX7_mostGroups_70 : decode cX7_mostGroups 70 = .ok (.iload_n 2, 1) := by decide +kernel
theorem dX7_mostGroups_71 : decode cX7_mostGroups 71 = .ok (.iconst 1, 1) := by decide +kernel
theorem dX7_mostGroups_72 : decode cX7_mostGroups 72 = .ok (.iload 5, 2) := by decide +kernel
theorem dX7_mostGroups_74 : decode cX7_mostGroups 74 = .ok (.ishl, 1) := by decide +kernel
theorem dX7_mostGroups_75 : decode cX7_mostGroups 75 = .ok (.ixor, 1) := by decide +kernel
theorem dX7_mostGroups_76 : decode cX7_mostGroups 76 = .ok (.iaload, 1) := by decide +kernel
theorem dX7_mostGroups_77 : decode cX7_mostGroups 77 = .ok (.invokestatic 31, 3) := by decide +kernel
theorem dX7_mostGroups_80 : decode cX7_mostGroups 80 = .ok (.istore 4, 2) := by decide +kernel
theorem dX7_mostGroups_82 : decode cX7_mostGroups 82 = .ok (.iinc 5 1, 3) := by decide +kernel
theorem dX7_mostGroups_85 : decode cX7_mostGroups 85 = .ok (.goto (-52), 3) := by decide +kernel
theorem dX7_mostGroups_88 : decode cX7_mostGroups 88 = .ok (.aload_n 0, 1) := by decide +kernel
theorem dX7_mostGroups_89 : decode cX7_mostGroups 89 = .ok (.getfield 15, 3) := by decide +kernel
theorem dX7_mostGroups_92 : decode cX7_mostGroups 92 = .ok (.iload_n 2, 1) := by decide +kernel
theorem dX7_mostGroups_93 : decode cX7_mostGroups 93 = .ok (.iload_n 3, 1) := by decide +kernel
theorem dX7_mostGroups_94 : decode cX7_mostGroups 94 = .ok (.ifCond .ne 10, 3) := by decide +kernel
theorem dX7_mostGroups_97 : decode cX7_mostGroups 97 = .ok (.iload 4, 2) := by decide +kernel
theorem dX7_mostGroups_99 : decode cX7_mostGroups 99 = .ok (.iconst 1, 1) := by decide +kernel
theorem dX7_mostGroups_100 : decode cX7_mostGroups 100 = .ok (.iadd, 1) := by decide +kernel
theorem dX7_mostGroups_101 : decode cX7_mostGroups 101 = .ok (.goto 5, 3) := by decide +kernel
theorem dX7_mostGroups_104 : decode cX7_mostGroups 104 = .ok (.iload 4, 2) := by decide +kernel
theorem dX7_mostGroups_106 : decode cX7_mostGroups 106 = .ok (.iastore, 1) := by decide +kernel
theorem dX7_mostGroups_107 : decode cX7_mostGroups 107 = .ok (.iinc 2 1, 3) := by decide +kernel
theorem dX7_mostGroups_110 : decode cX7_mostGroups 110 = .ok (.goto (-90), 3) := by decide +kernel
theorem dX7_mostGroups_113 : decode cX7_mostGroups 113 = .ok (.aload_n 0, 1) := by decide +kernel
theorem dX7_mostGroups_114 : decode cX7_mostGroups 114 = .ok (.getfield 15, 3) := by decide +kernel
theorem dX7_mostGroups_117 : decode cX7_mostGroups 117 = .ok (.iload_n 1, 1) := by decide +kernel
theorem dX7_mostGroups_118 : decode cX7_mostGroups 118 = .ok (.iconst 1, 1) := by decide +kernel
theorem dX7_mostGroups_119 : decode cX7_mostGroups 119 = .ok (.isub, 1) := by decide +kernel
theorem dX7_mostGroups_120 : decode cX7_mostGroups 120 = .ok (.iaload, 1) := by decide +kernel
theorem dX7_mostGroups_121 : decode cX7_mostGroups 121 = .ok (.iconst 1, 1) := by decide +kernel
theorem dX7_mostGroups_122 : decode cX7_mostGroups 122 = .ok (.iadd, 1) := by decide +kernel
theorem dX7_mostGroups_123 : decode cX7_mostGroups 123 = .ok (.ireturn, 1) := by decide +kernel
theorem dX7_listPayments_0 : decode cX7_listPayments 0 = .ok (.aload_n 1, 1) := by decide +kernel
theorem dX7_listPayments_1 : decode cX7_listPayments 1 = .ok (.iconst 0, 1) := by decide +kernel
theorem dX7_listPayments_2 : decode cX7_listPayments 2 = .ok (.aload_n 0, 1) := by decide +kernel
theorem dX7_listPayments_3 : decode cX7_listPayments 3 = .ok (.getfield 11, 3) := by decide +kernel
theorem dX7_listPayments_6 : decode cX7_listPayments 6 = .ok (.iconst 0, 1) := by decide +kernel
theorem dX7_listPayments_7 : decode cX7_listPayments 7 = .ok (.iload_n 2, 1) := by decide +kernel
theorem dX7_listPayments_8 : decode cX7_listPayments 8 = .ok (.invokestatic 37, 3) := by decide +kernel
theorem dX7_listPayments_11 : decode cX7_listPayments 11 = .ok (.aload_n 0, 1) := by decide +kernel
theorem dX7_listPayments_12 : decode cX7_listPayments 12 = .ok (.iconst 0, 1) := by decide +kernel
theorem dX7_listPayments_13 : decode cX7_listPayments 13 = .ok (.putfield 43, 3) := by decide +kernel
theorem dX7_listPayments_16 : decode cX7_listPayments 16 = .ok (.iconst 0, 1) := by decide +kernel
theorem dX7_listPayments_17 : decode cX7_listPayments 17 = .ok (.istore_n 3, 1) := by decide +kernel
theorem dX7_listPayments_18 : decode cX7_listPayments 18 = .ok (.iload_n 3, 1) := by decide +kernel
theorem dX7_listPayments_19 : decode cX7_listPayments 19 = .ok (.iload_n 2, 1) := by decide +kernel
theorem dX7_listPayments_20 : decode cX7_listPayments 20 = .ok (.if_icmp .ge 100, 3) := by decide +kernel
theorem dX7_listPayments_23 : decode cX7_listPayments 23 = .ok (.iconst 0, 1) := by decide +kernel
theorem dX7_listPayments_24 : decode cX7_listPayments 24 = .ok (.istore 4, 2) := by decide +kernel
theorem dX7_listPayments_26 : decode cX7_listPayments 26 = .ok (.iconst 0, 1) := by decide +kernel
theorem dX7_listPayments_27 : decode cX7_listPayments 27 = .ok (.istore 5, 2) := by decide +kernel
theorem dX7_listPayments_29 : decode cX7_listPayments 29 = .ok (.iconst 1, 1) := by decide +kernel
theorem dX7_listPayments_30 : decode cX7_listPayments 30 = .ok (.istore 6, 2) := by decide +kernel
theorem dX7_listPayments_32 : decode cX7_listPayments 32 = .ok (.iload 6, 2) := by decide +kernel
theorem dX7_listPayments_34 : decode cX7_listPayments 34 = .ok (.iload_n 2, 1) := by decide +kernel
theorem dX7_listPayments_35 : decode cX7_listPayments 35 = .ok (.if_icmp .ge 61, 3) := by decide +kernel
theorem dX7_listPayments_38 : decode cX7_listPayments 38 = .ok (.aload_n 0, 1) := by decide +kernel
theorem dX7_listPayments_39 : decode cX7_listPayments 39 = .ok (.getfield 11, 3) := by decide +kernel
theorem dX7_listPayments_42 : decode cX7_listPayments 42 = .ok (.iload 6, 2) := by decide +kernel
theorem dX7_listPayments_44 : decode cX7_listPayments 44 = .ok (.iaload, 1) := by decide +kernel
theorem dX7_listPayments_45 : decode cX7_listPayments 45 = .ok (.aload_n 0, 1) := by decide +kernel
theorem dX7_listPayments_46 : decode cX7_listPayments 46 = .ok (.getfield 11, 3) := by decide +kernel
theorem dX7_listPayments_49 : decode cX7_listPayments 49 = .ok (.iload 4, 2) := by decide +kernel
theorem dX7_listPayments_51 : decode cX7_listPayments 51 = .ok (.iaload, 1) := by decide +kernel
theorem dX7_listPayments_52 : decode cX7_listPayments 52 = .ok (.if_icmp .ge 8, 3) := by decide +kernel
theorem dX7_listPayments_55 : decode cX7_listPayments 55 = .ok (.iload 6, 2) := by decide +kernel
theorem dX7_listPayments_57 : decode cX7_listPayments 57 = .ok (.goto 5, 3) := by decide +kernel
theorem dX7_listPayments_60 : decode cX7_listPayments 60 = .ok (.iload 4, 2) := by decide +kernel
theorem dX7_listPayments_62 : decode cX7_listPayments 62 = .ok (.istore 4, 2) := by decide +kernel
theorem dX7_listPayments_64 : decode cX7_listPayments 64 = .ok (.aload_n 0, 1) := by decide +kernel
theorem dX7_listPayments_65 : decode cX7_listPayments 65 = .ok (.getfield 11, 3) := by decide +kernel
theorem dX7_listPayments_68 : decode cX7_listPayments 68 = .ok (.iload 6, 2) := by decide +kernel
theorem dX7_listPayments_70 : decode cX7_listPayments 70 = .ok (.iaload, 1) := by decide +kernel
theorem dX7_listPayments_71 : decode cX7_listPayments 71 = .ok (.aload_n 0, 1) := by decide +kernel
theorem dX7_listPayments_72 : decode cX7_listPayments 72 = .ok (.getfield 11, 3) := by decide +kernel
theorem dX7_listPayments_75 : decode cX7_listPayments 75 = .ok (.iload 5, 2) := by decide +kernel
theorem dX7_listPayments_77 : decode cX7_listPayments 77 = .ok (.iaload, 1) := by decide +kernel
theorem dX7_listPayments_78 : decode cX7_listPayments 78 = .ok (.if_icmp .le 8, 3) := by decide +kernel
theorem dX7_listPayments_81 : decode cX7_listPayments 81 = .ok (.iload 6, 2) := by decide +kernel
theorem dX7_listPayments_83 : decode cX7_listPayments 83 = .ok (.goto 5, 3) := by decide +kernel
theorem dX7_listPayments_86 : decode cX7_listPayments 86 = .ok (.iload 5, 2) := by decide +kernel
theorem dX7_listPayments_88 : decode cX7_listPayments 88 = .ok (.istore 5, 2) := by decide +kernel
theorem dX7_listPayments_90 : decode cX7_listPayments 90 = .ok (.iinc 6 1, 3) := by decide +kernel
theorem dX7_listPayments_93 : decode cX7_listPayments 93 = .ok (.goto (-61), 3) := by decide +kernel
theorem dX7_listPayments_96 : decode cX7_listPayments 96 = .ok (.aload_n 0, 1) := by decide +kernel
theorem dX7_listPayments_97 : decode cX7_listPayments 97 = .ok (.getfield 11, 3) := by decide +kernel
theorem dX7_listPayments_100 : decode cX7_listPayments 100 = .ok (.iload 4, 2) := by decide +kernel
theorem dX7_listPayments_102 : decode cX7_listPayments 102 = .ok (.iaload, 1) := by decide +kernel
theorem dX7_listPayments_103 : decode cX7_listPayments 103 = .ok (.ifCond .ge 11, 3) := by decide +kernel
theorem dX7_listPayments_106 : decode cX7_listPayments 106 = .ok (.aload_n 0, 1) := by decide +kernel
theorem dX7_listPayments_107 : decode cX7_listPayments 107 = .ok (.iload 4, 2) := by decide +kernel
theorem dX7_listPayments_109 : decode cX7_listPayments 109 = .ok (.iload 5, 2) := by decide +kernel
theorem dX7_listPayments_111 : decode cX7_listPayments 111 = .ok (.invokevirtual 46, 3) := by decide +kernel
theorem dX7_listPayments_114 : decode cX7_listPayments 114 = .ok (.iinc 3 1, 3) := by decide +kernel
theorem dX7_listPayments_117 : decode cX7_listPayments 117 = .ok (.goto (-99), 3) := by decide +kernel
theorem dX7_listPayments_120 : decode cX7_listPayments 120 = .ok (.return_, 1) := by decide +kernel
theorem dX7_pay_0 : decode cX7_pay 0 = .ok (.aload_n 0, 1) := by decide +kernel
theorem dX7_pay_1 : decode cX7_pay 1 = .ok (.getfield 11, 3) := by decide +kernel
theorem dX7_pay_4 : decode cX7_pay 4 = .ok (.iload_n 1, 1) := by decide +kernel
theorem dX7_pay_5 : decode cX7_pay 5 = .ok (.iaload, 1) := by decide +kernel
theorem dX7_pay_6 : decode cX7_pay 6 = .ok (.ineg, 1) := by decide +kernel
theorem dX7_pay_7 : decode cX7_pay 7 = .ok (.aload_n 0, 1) := by decide +kernel
theorem dX7_pay_8 : decode cX7_pay 8 = .ok (.getfield 11, 3) := by decide +kernel
theorem dX7_pay_11 : decode cX7_pay 11 = .ok (.iload_n 2, 1) := by decide +kernel
theorem dX7_pay_12 : decode cX7_pay 12 = .ok (.iaload, 1) := by decide +kernel
theorem dX7_pay_13 : decode cX7_pay 13 = .ok (.invokestatic 50, 3) := by decide +kernel
theorem dX7_pay_16 : decode cX7_pay 16 = .ok (.istore_n 3, 1) := by decide +kernel
theorem dX7_pay_17 : decode cX7_pay 17 = .ok (.aload_n 0, 1) := by decide +kernel
theorem dX7_pay_18 : decode cX7_pay 18 = .ok (.getfield 11, 3) := by decide +kernel
theorem dX7_pay_21 : decode cX7_pay 21 = .ok (.iload_n 1, 1) := by decide +kernel
theorem dX7_pay_22 : decode cX7_pay 22 = .ok (.dup2, 1) := by decide +kernel
theorem dX7_pay_23 : decode cX7_pay 23 = .ok (.iaload, 1) := by decide +kernel
theorem dX7_pay_24 : decode cX7_pay 24 = .ok (.iload_n 3, 1) := by decide +kernel
theorem dX7_pay_25 : decode cX7_pay 25 = .ok (.iadd, 1) := by decide +kernel
theorem dX7_pay_26 : decode cX7_pay 26 = .ok (.iastore, 1) := by decide +kernel
theorem dX7_pay_27 : decode cX7_pay 27 = .ok (.aload_n 0, 1) := by decide +kernel
theorem dX7_pay_28 : decode cX7_pay 28 = .ok (.getfield 11, 3) := by decide +kernel
theorem dX7_pay_31 : decode cX7_pay 31 = .ok (.iload_n 2, 1) := by decide +kernel
theorem dX7_pay_32 : decode cX7_pay 32 = .ok (.dup2, 1) := by decide +kernel
theorem dX7_pay_33 : decode cX7_pay 33 = .ok (.iaload, 1) := by decide +kernel
theorem dX7_pay_34 : decode cX7_pay 34 = .ok (.iload_n 3, 1) := by decide +kernel
theorem dX7_pay_35 : decode cX7_pay 35 = .ok (.isub, 1) := by decide +kernel
theorem dX7_pay_36 : decode cX7_pay 36 = .ok (.iastore, 1) := by decide +kernel
theorem dX7_pay_37 : decode cX7_pay 37 = .ok (.aload_n 0, 1) := by decide +kernel
theorem dX7_pay_38 : decode cX7_pay 38 = .ok (.getfield 18, 3) := by decide +kernel
theorem dX7_pay_41 : decode cX7_pay 41 = .ok (.aload_n 0, 1) := by decide +kernel
theorem dX7_pay_42 : decode cX7_pay 42 = .ok (.getfield 43, 3) := by decide +kernel
theorem dX7_pay_45 : decode cX7_pay 45 = .ok (.iload_n 1, 1) := by decide +kernel
theorem dX7_pay_46 : decode cX7_pay 46 = .ok (.iastore, 1) := by decide +kernel
theorem dX7_pay_47 : decode cX7_pay 47 = .ok (.aload_n 0, 1) := by decide +kernel
theorem dX7_pay_48 : decode cX7_pay 48 = .ok (.getfield 21, 3) := by decide +kernel
theorem dX7_pay_51 : decode cX7_pay 51 = .ok (.aload_n 0, 1) := by decide +kernel
theorem dX7_pay_52 : decode cX7_pay 52 = .ok (.getfield 43, 3) := by decide +kernel
theorem dX7_pay_55 : decode cX7_pay 55 = .ok (.iload_n 2, 1) := by decide +kernel
theorem dX7_pay_56 : decode cX7_pay 56 = .ok (.iastore, 1) := by decide +kernel
theorem dX7_pay_57 : decode cX7_pay 57 = .ok (.aload_n 0, 1) := by decide +kernel
theorem dX7_pay_58 : decode cX7_pay 58 = .ok (.getfield 24, 3) := by decide +kernel
theorem dX7_pay_61 : decode cX7_pay 61 = .ok (.aload_n 0, 1) := by decide +kernel
theorem dX7_pay_62 : decode cX7_pay 62 = .ok (.getfield 43, 3) := by decide +kernel
theorem dX7_pay_65 : decode cX7_pay 65 = .ok (.iload_n 3, 1) := by decide +kernel
theorem dX7_pay_66 : decode cX7_pay 66 = .ok (.iastore, 1) := by decide +kernel
theorem dX7_pay_67 : decode cX7_pay 67 = .ok (.aload_n 0, 1) := by decide +kernel
theorem dX7_pay_68 : decode cX7_pay 68 = .ok (.dup, 1) := by decide +kernel
theorem dX7_pay_69 : decode cX7_pay 69 = .ok (.getfield 43, 3) := by decide +kernel
theorem dX7_pay_72 : decode cX7_pay 72 = .ok (.iconst 1, 1) := by decide +kernel
theorem dX7_pay_73 : decode cX7_pay 73 = .ok (.iadd, 1) := by decide +kernel
theorem dX7_pay_74 : decode cX7_pay 74 = .ok (.putfield 43, 3) := by decide +kernel
theorem dX7_pay_77 : decode cX7_pay 77 = .ok (.return_, 1) := by decide +kernel
theorem dX8_init_0 : decode cX8_init 0 = .ok (.aload_n 0, 1) := by decide +kernel
theorem dX8_init_1 : decode cX8_init 1 = .ok (.invokespecial 3, 3) := by decide +kernel
theorem dX8_init_4 : decode cX8_init 4 = .ok (.return_, 1) := by decide +kernel
theorem dX8_reckonGame_0 : decode cX8_reckonGame 0 = .ok (.aload_n 1, 1) := by decide +kernel
theorem dX8_reckonGame_1 : decode cX8_reckonGame 1 = .ok (.getfield 9, 3) := by decide +kernel
theorem dX8_reckonGame_4 : decode cX8_reckonGame 4 = .ok (.iload_n 2, 1) := by decide +kernel
theorem dX8_reckonGame_5 : decode cX8_reckonGame 5 = .ok (.aaload, 1) := by decide +kernel
theorem dX8_reckonGame_6 : decode cX8_reckonGame 6 = .ok (.astore 8, 2) := by decide +kernel
theorem dX8_reckonGame_8 : decode cX8_reckonGame 8 = .ok (.iload_n 3, 1) := by decide +kernel
theorem dX8_reckonGame_9 : decode cX8_reckonGame 9 = .ok (.aload 8, 2) := by decide +kernel
theorem dX8_reckonGame_11 : decode cX8_reckonGame 11 = .ok (.bipush 9, 2) := by decide +kernel
theorem dX8_reckonGame_13 : decode cX8_reckonGame 13 = .ok (.iaload, 1) := by decide +kernel
theorem dX8_reckonGame_14 : decode cX8_reckonGame 14 = .ok (.if_icmp .lt 7, 3) := by decide +kernel
theorem dX8_reckonGame_17 : decode cX8_reckonGame 17 = .ok (.iconst 1, 1) := by decide +kernel
theorem dX8_reckonGame_18 : decode cX8_reckonGame 18 = .ok (.goto 4, 3) := by decide +kernel
theorem dX8_reckonGame_21 : decode cX8_reckonGame 21 = .ok (.iconst 0, 1) := by decide +kernel
theorem dX8_reckonGame_22 : decode cX8_reckonGame 22 = .ok (.istore 9, 2) := by decide +kernel
theorem dX8_reckonGame_24 : decode cX8_reckonGame 24 = .ok (.aload_n 0, 1) := by decide +kernel
theorem dX8_reckonGame_25 : decode cX8_reckonGame 25 = .ok (.aload_n 1, 1) := by decide +kernel
theorem dX8_reckonGame_26 : decode cX8_reckonGame 26 = .ok (.getfield 15, 3) := by decide +kernel
theorem dX8_reckonGame_29 : decode cX8_reckonGame 29 = .ok (.iload 5, 2) := by decide +kernel
theorem dX8_reckonGame_31 : decode cX8_reckonGame 31 = .ok (.aaload, 1) := by decide +kernel
theorem dX8_reckonGame_32 : decode cX8_reckonGame 32 = .ok (.iload 9, 2) := by decide +kernel
theorem dX8_reckonGame_34 : decode cX8_reckonGame 34 = .ok (.ifCond .eq 7, 3) := by decide +kernel
theorem dX8_reckonGame_37 : decode cX8_reckonGame 37 = .ok (.iconst 1, 1) := by decide +kernel
theorem dX8_reckonGame_38 : decode cX8_reckonGame 38 = .ok (.goto 4, 3) := by decide +kernel
theorem dX8_reckonGame_41 : decode cX8_reckonGame 41 = .ok (.iconst 0, 1) := by decide +kernel
theorem dX8_reckonGame_42 : decode cX8_reckonGame 42 = .ok (.iaload, 1) := by decide +kernel
theorem dX8_reckonGame_43 : decode cX8_reckonGame 43 = .ok (.putfield 18, 3) := by decide +kernel
theorem dX8_reckonGame_46 : decode cX8_reckonGame 46 = .ok (.aload_n 0, 1) := by decide +kernel
theorem dX8_reckonGame_47 : decode cX8_reckonGame 47 = .ok (.aload_n 1, 1) := by decide +kernel
theorem dX8_reckonGame_48 : decode cX8_reckonGame 48 = .ok (.getfield 15, 3) := by decide +kernel
theorem dX8_reckonGame_51 : decode cX8_reckonGame 51 = .ok (.iload 6, 2) := by decide +kernel
theorem dX8_reckonGame_53 : decode cX8_reckonGame 53 = .ok (.aaload, 1) := by decide +kernel
theorem dX8_reckonGame_54 : decode cX8_reckonGame 54 = .ok (.iconst 1, 1) := by decide +kernel
theorem dX8_reckonGame_55 : decode cX8_reckonGame 55 = .ok (.iaload, 1) := by decide +kernel
theorem dX8_reckonGame_56 : decode cX8_reckonGame 56 = .ok (.putfield 24, 3) := by decide +kernel
theorem dX8_reckonGame_59 : decode cX8_reckonGame 59 = .ok (.aload_n 0, 1) := by decide +kernel
theorem dX8_reckonGame_60 : decode cX8_reckonGame 60 = .ok (.aload 8, 2) := by decide +kernel
theorem dX8_reckonGame_62 : decode cX8_reckonGame 62 = .ok (.iconst 3, 1) := by decide +kernel
theorem dX8_reckonGame_63 : decode cX8_reckonGame 63 = .ok (.iaload, 1) := by decide +kernel
theorem dX8_reckonGame_64 : decode cX8_reckonGame 64 = .ok (.iload 7, 2) := by decide +kernel
theorem dX8_reckonGame_66 : decode cX8_reckonGame 66 = .ok (.invokevirtual 27, 3) := by decide +kernel
theorem dX8_reckonGame_69 : decode cX8_reckonGame 69 = .ok (.aload_n 0, 1) := by decide +kernel
theorem dX8_reckonGame_70 : decode cX8_reckonGame 70 = .ok (.iload 7, 2) := by decide +kernel
theorem dX8_reckonGame_72 : decode cX8_reckonGame 72 = .ok (.aload_n 0, 1) := by decide +kernel
theorem dX8_reckonGame_73 : decode cX8_reckonGame 73 = .ok (.getfield 31, 3) := by decide +kernel
theorem dX8_reckonGame_76 : decode cX8_reckonGame 76 = .ok (.isub, 1) := by decide +kernel
theorem dX8_reckonGame_77 : decode cX8_reckonGame 77 = .ok (.aload_n 0, 1) := by decide +kernel
theorem dX8_reckonGame_78 : decode cX8_reckonGame 78 = .ok (.getfield 34, 3) := by decide +kernel
theorem dX8_reckonGame_81 : decode cX8_reckonGame 81 = .ok (.isub, 1) := by decide +kernel
theorem dX8_reckonGame_82 : decode cX8_reckonGame 82 = .ok (.putfield 37, 3) := by decide +kernel
theorem dX8_reckonGame_85 : decode cX8_reckonGame 85 = .ok (.aload_n 0, 1) := by decide +kernel
theorem dX8_reckonGame_86 : decode cX8_reckonGame 86 = .ok (.aload 8, 2) := by decide +kernel
theorem dX8_reckonGame_88 : decode cX8_reckonGame 88 = .ok (.iload 4, 2) := by decide +kernel
theorem dX8_reckonGame_90 : decode cX8_reckonGame 90 = .ok (.ifCond .ne 7, 3) := by decide +kernel
theorem dX8_reckonGame_93 : decode cX8_reckonGame 93 = .ok (.iconst 0, 1) := by decide +kernel
theorem dX8_reckonGame_94 : decode cX8_reckonGame 94 = .ok (.goto 5, 3) := by decide +kernel
theorem dX8_reckonGame_97 : decode cX8_reckonGame 97 = .ok (.bipush 6, 2) := by decide +kernel
theorem dX8_reckonGame_99 : decode cX8_reckonGame 99 = .ok (.iload 9, 2) := by decide +kernel
theorem dX8_reckonGame_101 : decode cX8_reckonGame 101 = .ok (.invokevirtual 40, 3) := by decide +kernel
theorem dX8_reckonGame_104 : decode cX8_reckonGame 104 = .ok (.aload_n 0, 1) := by decide +kernel
theorem dX8_reckonGame_105 : decode cX8_reckonGame 105 = .ok (.iconst 0, 1) := by decide +kernel
theorem dX8_reckonGame_106 : decode cX8_reckonGame 106 = .ok (.putfield 44, 3) := by decide +kernel
theorem dX8_reckonGame_109 : decode cX8_reckonGame 109 = .ok (.iload 4, 2) := by decide +kernel
theorem dX8_reckonGame_111 : decode cX8_reckonGame 111 = .ok (.ifCond .ne 23, 3) := by decide +kernel
theorem dX8_reckonGame_114 : decode cX8_reckonGame 114 = .ok (.iload 9, 2) := by decide +kernel
theorem dX8_reckonGame_116 : decode cX8_reckonGame 116 = .ok (.ifCond .ne 18, 3) := by decide +kernel
theorem dX8_reckonGame_119 : decode cX8_reckonGame 119 = .ok (.aload_n 0, 1) := by decide +kernel
theorem dX8_reckonGame_120 : decode cX8_reckonGame 120 = .ok (.aload 8, 2) := by decide +kernel
theorem dX8_reckonGame_122 : decode cX8_reckonGame 122 = .ok (.iconst 4, 1) := by decide +kernel
theorem dX8_reckonGame_123 : decode cX8_reckonGame 123 = .ok (.iaload, 1) := by decide +kernel
theorem dX8_reckonGame_124 : decode cX8_reckonGame 124 = .ok (.aload_n 0, 1) := by decide +kernel
theorem dX8_reckonGame_125 : decode cX8_reckonGame 125 = .ok (.getfield 37, 3) := by decide +kernel
theorem dX8_reckonGame_128 : decode cX8_reckonGame 128 = .ok (.invokestatic 47, 3) := by decide +kernel
theorem dX8_reckonGame_131 : decode cX8_reckonGame 131 = .ok (.invokevirtual 53, 3) := by decide +kernel
theorem dX8_reckonGame_134 : decode cX8_reckonGame 134 = .ok (.return_, 1) := by decide +kernel
theorem dX8_payExpenses_0 : decode cX8_payExpenses 0 = .ok (.aload_n 0, 1) := by decide +kernel
theorem dX8_payExpenses_1 : decode cX8_payExpenses 1 = .ok (.getfield 18, 3) := by decide +kernel
theorem dX8_payExpenses_4 : decode cX8_payExpenses 4 = .ok (.aload_n 0, 1) := by decide +kernel
theorem dX8_payExpenses_5 : decode cX8_payExpenses 5 = .ok (.getfield 24, 3) := by decide +kernel
theorem dX8_payExpenses_8 : decode cX8_payExpenses 8 = .ok (.iadd, 1) := by decide +kernel
theorem dX8_payExpenses_9 : decode cX8_payExpenses 9 = .ok (.istore_n 3, 1) := by decide +kernel
theorem dX8_payExpenses_10 : decode cX8_payExpenses 10 = .ok (.iload_n 3, 1) := by decide +kernel
theorem dX8_payExpenses_11 : decode cX8_payExpenses 11 = .ok (.iload_n 2, 1) := by decide +kernel
theorem dX8_payExpenses_12 : decode cX8_payExpenses 12 = .ok (.if_icmp .le 7, 3) := by decide +kernel
theorem dX8_payExpenses_15 : decode cX8_payExpenses 15 = .ok (.iload_n 3, 1) := by decide +kernel
theorem dX8_payExpenses_16 : decode cX8_payExpenses 16 = .ok (.ifCond .gt 22, 3) := by decide +kernel
theorem dX8_payExpenses_19 : decode cX8_payExpenses 19 = .ok (.aload_n 0, 1) := by decide +kernel
theorem dX8_payExpenses_20 : decode cX8_payExpenses 20 = .ok (.aload_n 0, 1) := by decide +kernel
theorem dX8_payExpenses_21 : decode cX8_payExpenses 21 = .ok (.getfield 18, 3) := by decide +kernel
theorem dX8_payExpenses_24 : decode cX8_payExpenses 24 = .ok (.putfield 31, 3) := by decide +kernel
theorem dX8_payExpenses_27 : decode cX8_payExpenses 27 = .ok (.aload_n 0, 1) := by decide +kernel
theorem dX8_payExpenses_28 : decode cX8_payExpenses 28 = .ok (.aload_n 0, 1) := by decide +kernel
theorem dX8_payExpenses_29 : decode cX8_payExpenses 29 = .ok (.getfield 24, 3) := by decide +kernel
theorem dX8_payExpenses_32 : decode cX8_payExpenses 32 = .ok (.putfield 34, 3) := by decide +kernel
theorem dX8_payExpenses_35 : decode cX8_payExpenses 35 = .ok (.goto 84, 3) := by decide +kernel
theorem dX8_payExpenses_38 : decode cX8_payExpenses 38 = .ok (.iload_n 1, 1) := by decide +kernel
theorem dX8_payExpenses_39 : decode cX8_payExpenses 39 = .ok (.ifCond .ne 28, 3) := by decide +kernel
theorem dX8_payExpenses_42 : decode cX8_payExpenses 42 = .ok (.aload_n 0, 1) := by decide +kernel
theorem dX8_payExpenses_43 : decode cX8_payExpenses 43 = .ok (.aload_n 0, 1) := by decide +kernel
theorem dX8_payExpenses_44 : decode cX8_payExpenses 44 = .ok (.getfield 18, 3) := by decide +kernel
theorem dX8_payExpenses_47 : decode cX8_payExpenses 47 = .ok (.iload_n 2, 1) := by decide +kernel
theorem dX8_payExpenses_48 : decode cX8_payExpenses 48 = .ok (.invokestatic 47, 3) := by decide +kernel
theorem dX8_payExpenses_51 : decode cX8_payExpenses 51 = .ok (.putfield 31, 3) := by decide +kernel
theorem dX8_payExpenses_54 : decode cX8_payExpenses 54 = .ok (.aload_n 0, 1) := by decide +kernel
theorem dX8_payExpenses_55 : decode cX8_payExpenses 55 = .ok (.iload_n 2, 1) := by decide +kernel
theorem dX8_payExpenses_56 : decode cX8_payExpenses 56 = .ok (.aload_n 0, 1) := by decide +kernel
theorem dX8_payExpenses_57 : decode cX8_payExpenses 57 = .ok (.getfield 31, 3) := by decide +kernel
theorem dX8_payExpenses_60 : decode cX8_payExpenses 60 = .ok (.isub, 1) := by decide +kernel
theorem dX8_payExpenses_61 : decode cX8_payExpenses 61 = .ok (.putfield 34, 3) := by decide +kernel
theorem dX8_payExpenses_64 : decode cX8_payExpenses 64 = .ok (.goto 55, 3) := by decide +kernel
theorem dX8_payExpenses_67 : decode cX8_payExpenses 67 = .ok (.iload_n 1, 1) := by decide +kernel
theorem dX8_payExpenses_68 : decode cX8_payExpenses 68 = .ok (.iconst 1, 1) := by decide +kernel
theorem dX8_payExpenses_69 : decode cX8_payExpenses 69 = .ok (.if_icmp .ne 28, 3) := by decide +kernel
theorem dX8_payExpenses_72 : decode cX8_payExpenses 72 = .ok (.aload_n 0, 1) := by decide +kernel
theorem dX8_payExpenses_73 : decode cX8_payExpenses 73 = .ok (.aload_n 0, 1) := by decide +kernel
theorem dX8_payExpenses_74 : decode cX8_payExpenses 74 = .ok (.getfield 24, 3) := by decide +kernel
theorem dX8_payExpenses_77 : decode cX8_payExpenses 77 = .ok (.iload_n 2, 1) := by decide +kernel
theorem dX8_payExpenses_78 : decode cX8_payExpenses 78 = .ok (.invokestatic 47, 3) := by decide +kernel
theorem dX8_payExpenses_81 : decode cX8_payExpenses 81 = .ok (.putfield 34, 3) := by decide +kernel
theorem dX8_payExpenses_84 : decode cX8_payExpenses 84 = .ok (.aload_n 0, 1) := by decide +kernel
theorem dX8_payExpenses_85 : decode cX8_payExpenses 85 = .ok (.iload_n 2, 1) := by decide +kernel
theorem dX8_payExpenses_86 : decode cX8_payExpenses 86 = .ok (.aload_n 0, 1) := by decide +kernel
theorem dX8_payExpenses_87 : decode cX8_payExpenses 87 = .ok (.getfield 34, 3) := by decide +kernel
theorem dX8_payExpenses_90 : decode cX8_payExpenses 90 = .ok (.isub, 1) := by decide +kernel
theorem dX8_payExpenses_91 : decode cX8_payExpenses 91 = .ok (.putfield 31, 3) := by decide +kernel
theorem dX8_payExpenses_94 : decode cX8_payExpenses 94 = .ok (.goto 25, 3) := by decide +kernel
theorem dX8_payExpenses_97 : decode cX8_payExpenses 97 = .ok (.aload_n 0, 1) := by decide +kernel
theorem dX8_payExpenses_98 : decode cX8_payExpenses 98 = .ok (.iload_n 2, 1) := by decide +kernel
theorem dX8_payExpenses_99 : decode cX8_payExpenses 99 = .ok (.aload_n 0, 1) := by decide +kernel
theorem dX8_payExpenses_100 : decode cX8_payExpenses 100 = .ok (.getfield 24, 3) := by decide +kernel
theorem dX8_payExpenses_103 : decode cX8_payExpenses 103 = .ok (.imul, 1) := by decide +kernel
theorem dX8_payExpenses_104 : decode cX8_payExpenses 104 = .ok (.iload_n 3, 1) := by decide +kernel
theorem dX8_payExpenses_105 : decode cX8_payExpenses 105 = .ok (.idiv, 1) := by decide +kernel
theorem dX8_payExpenses_106 : decode cX8_payExpenses 106 = .ok (.putfield 34, 3) := by decide +kernel
theorem dX8_payExpenses_109 : decode cX8_payExpenses 109 = .ok (.aload_n 0, 1) := by decide +kernel
theorem dX8_payExpenses_110 : decode cX8_payExpenses 110 = .ok (.iload_n 2, 1) := by decide +kernel
theorem dX8_payExpenses_111 : decode cX8_payExpenses 111 = .ok (.aload_n 0, 1) := by decide +kernel
theorem dX8_payExpenses_112 : decode cX8_payExpenses 112 = .ok (.getfield 34, 3) := by decide +kernel
theorem dX8_payExpenses_115 : decode cX8_payExpenses 115 = .ok (.isub, 1) := by decide +kernel
theorem dX8_payExpenses_116 : decode cX8_payExpenses 116 = .ok (.putfield 31, 3) := by decide +kernel
theorem dX8_payExpenses_119 : decode cX8_payExpenses 119 = .ok (.return_, 1) := by decide +kernel
theorem dX8_shareRest_0 : decode cX8_shareRest 0 = .ok (.aload_n 1, 1) := by decide +kernel
theorem dX8_shareRest_1 : decode cX8_shareRest 1 = .ok (.iload_n 2, 1) := by decide +kernel
theorem dX8_shareRest_2 : decode cX8_shareRest 2 = .ok (.iaload, 1) := by decide +kernel
theorem dX8_shareRest_3 : decode cX8_shareRest 3 = .ok (.istore 4, 2) := by decide +kernel
theorem dX8_shareRest_5 : decode cX8_shareRest 5 = .ok (.aload_n 1, 1) := by decide +kernel
theorem dX8_shareRest_6 : decode cX8_shareRest 6 = .ok (.iload_n 2, 1) := by decide +kernel
theorem dX8_shareRest_7 : decode cX8_shareRest 7 = .ok (.iconst 1, 1) := by decide +kernel
theorem dX8_shareRest_8 : decode cX8_shareRest 8 = .ok (.iadd, 1) := by decide +kernel
theorem dX8_shareRest_9 : decode cX8_shareRest 9 = .ok (.iaload, 1) := by decide +kernel
theorem dX8_shareRest_10 : decode cX8_shareRest 10 = .ok (.istore 5, 2) := by decide +kernel
theorem dX8_shareRest_12 : decode cX8_shareRest 12 = .ok (.aload_n 1, 1) := by decide +kernel
theorem dX8_shareRest_13 : decode cX8_shareRest 13 = .ok (.iload_n 2, 1) := by decide +kernel
theorem dX8_shareRest_14 : decode cX8_shareRest 14 = .ok (.iconst 2, 1) := by decide +kernel
theorem dX8_shareRest_15 : decode cX8_shareRest 15 = .ok (.iadd, 1) := by decide +kernel
theorem dX8_shareRest_16 : decode cX8_shareRest 16 = .ok (.iaload, 1) := by decide +kernel
theorem dX8_shareRest_17 : decode cX8_shareRest 17 = .ok (.istore 6, 2) := by decide +kernel
theorem dX8_shareRest_19 : decode cX8_shareRest 19 = .ok (.iload_n 3, 1) := by decide +kernel
theorem dX8_shareRest_20 : decode cX8_shareRest 20 = .ok (.ifCond .eq 31, 3) := by decide +kernel
theorem dX8_shareRest_23 : decode cX8_shareRest 23 = .ok (.iload 4, 2) := by decide +kernel
theorem dX8_shareRest_25 : decode cX8_shareRest 25 = .ok (.iload 5, 2) := by decide +kernel
theorem dX8_shareRest_27 : decode cX8_shareRest 27 = .ok (.iadd, 1) := by decide +kernel
theorem dX8_shareRest_28 : decode cX8_shareRest 28 = .ok (.istore 7, 2) := by decide +kernel
theorem dX8_shareRest_30 : decode cX8_shareRest 30 = .ok (.iload 7, 2) := by decide +kernel
theorem dX8_shareRest_32 : decode cX8_shareRest 32 = .ok (.iconst 2, 1) := by decide +kernel
theorem dX8_shareRest_33 : decode cX8_shareRest 33 = .ok (.idiv, 1) := by decide +kernel
theorem dX8_shareRest_34 : decode cX8_shareRest 34 = .ok (.istore 4, 2) := by decide +kernel
theorem dX8_shareRest_36 : decode cX8_shareRest 36 = .ok (.iload 7, 2) := by decide +kernel
theorem dX8_shareRest_38 : decode cX8_shareRest 38 = .ok (.iconst 2, 1) := by decide +kernel
theorem dX8_shareRest_39 : decode cX8_shareRest 39 = .ok (.idiv, 1) := by decide +kernel
theorem dX8_shareRest_40 : decode cX8_shareRest 40 = .ok (.istore 5, 2) := by decide +kernel
theorem dX8_shareRest_42 : decode cX8_shareRest 42 = .ok (.iload 6, 2) := by decide +kernel
theorem dX8_shareRest_44 : decode cX8_shareRest 44 = .ok (.iload 7, 2) := by decide +kernel
theorem dX8_shareRest_46 : decode cX8_shareRest 46 = .ok (.iconst 2, 1) := by decide +kernel
theorem dX8_shareRest_47 : decode cX8_shareRest 47 = .ok (.irem, 1) := by decide +kernel
theorem dX8_shareRest_48 : decode cX8_shareRest 48 = .ok (.iadd, 1) := by decide +kernel
theorem dX8_shareRest_49 : decode cX8_shareRest 49 = .ok (.istore 6, 2) := by decide +kernel
theorem dX8_shareRest_51 : decode cX8_shareRest 51 = .ok (.aload_n 0, 1) := by decide +kernel
theorem dX8_shareRest_52 : decode cX8_shareRest 52 = .ok (.aload_n 0, 1) := by decide +kernel
theorem dX8_shareRest_53 : decode cX8_shareRest 53 = .ok (.getfield 37, 3) := by decide +kernel
theorem dX8_shareRest_56 : decode cX8_shareRest 56 = .ok (.iload 4, 2) := by decide +kernel
theorem dX8_shareRest_58 : decode cX8_shareRest 58 = .ok (.imul, 1) := by decide +kernel
theorem dX8_shareRest_59 : decode cX8_shareRest 59 = .ok (.bipush 100, 2) := by decide +kernel
theorem dX8_shareRest_61 : decode cX8_shareRest 61 = .ok (.idiv, 1) := by decide +kernel
theorem dX8_shareRest_62 : decode cX8_shareRest 62 = .ok (.putfield 57, 3) := by decide +kernel
theorem dX8_shareRest_65 : decode cX8_shareRest 65 = .ok (.aload_n 0, 1) := by decide +kernel
theorem dX8_shareRest_66 : decode cX8_shareRest 66 = .ok (.aload_n 0, 1) := by decide +kernel
theorem dX8_shareRest_67 : decode cX8_shareRest 67 = .ok (.getfield 37, 3) := by decide +kernel
theorem dX8_shareRest_70 : decode cX8_shareRest 70 = .ok (.iload 5, 2) := by decide +kernel
theorem dX8_shareRest_72 : decode cX8_shareRest 72 = .ok (.imul, 1) := by decide +kernel
theorem dX8_shareRest_73 : decode cX8_shareRest 73 = .ok (.bipush 100, 2) := by decide +kernel
theorem dX8_shareRest_75 : decode cX8_shareRest 75 = .ok (.idiv, 1) := by decide +kernel
theorem dX8_shareRest_76 : decode cX8_shareRest 76 = .ok (.putfield 60, 3) := by decide +kernel
theorem dX8_shareRest_79 : decode cX8_shareRest 79 = .ok (.aload_n 0, 1) := by decide +kernel
theorem dX8_shareRest_80 : decode cX8_shareRest 80 = .ok (.aload_n 0, 1) := by decide +kernel
theorem dX8_shareRest_81 : decode cX8_shareRest 81 = .ok (.getfield 37, 3) := by decide +kernel
theorem dX8_shareRest_84 : decode cX8_shareRest 84 = .ok (.iload 6, 2) := by decide +kernel
theorem dX8_shareRest_86 : decode cX8_shareRest 86 = .ok (.imul, 1) := by decide +kernel
theorem dX8_shareRest_87 : decode cX8_shareRest 87 = .ok (.bipush 100, 2) := by decide +kernel
theorem dX8_shareRest_89 : decode cX8_shareRest 89 = .ok (.idiv, 1) := by decide +kernel
theorem dX8_shareRest_90 : decode cX8_shareRest 90 = .ok (.putfield 63, 3) := by decide +kernel
theorem dX8_shareRest_93 : decode cX8_shareRest 93 = .ok (.aload_n 0, 1) := by decide +kernel
theorem dX8_shareRest_94 : decode cX8_shareRest 94 = .ok (.getfield 37, 3) := by decide +kernel
theorem dX8_shareRest_97 : decode cX8_shareRest 97 = .ok (.aload_n 0, 1) := by decide +kernel
theorem dX8_shareRest_98 : decode cX8_shareRest 98 = .ok (.getfield 57, 3) := by decide +kernel
theorem dX8_shareRest_101 : decode cX8_shareRest 101 = .ok (.isub, 1) := by decide +kernel
theorem dX8_shareRest_102 : decode cX8_shareRest 102 = .ok (.aload_n 0, 1) := by decide +kernel
theorem dX8_shareRest_103 : decode cX8_shareRest 103 = .ok (.getfield 60, 3) := by decide +kernel
theorem dX8_shareRest_106 : decode cX8_shareRest 106 = .ok (.isub, 1) := by decide +kernel
theorem dX8_shareRest_107 : decode cX8_shareRest 107 = .ok (.aload_n 0, 1) := by decide +kernel
theorem dX8_shareRest_108 : decode cX8_shareRest 108 = .ok (.getfield 63, 3) := by decide +kernel
theorem dX8_shareRest_111 : decode cX8_shareRest 111 = .ok (.isub, 1) := by decide +kernel
theorem dX8_shareRest_112 : decode cX8_shareRest 112 = .ok (.istore 7, 2) := by decide +kernel
theorem dX8_shareRest_114 : decode cX8_shareRest 114 = .ok (.aload_n 1, 1) := by decide +kernel
theorem dX8_shareRest_115 : decode cX8_shareRest 115 = .ok (.bipush 10, 2) := by decide +kernel
theorem dX8_shareRest_117 : decode cX8_shareRest 117 = .ok (.iaload, 1) := by decide +kernel
theorem dX8_shareRest_118 : decode cX8_shareRest 118 = .ok (.ifCond .ne 17, 3) := by decide +kernel
theorem dX8_shareRest_121 : decode cX8_shareRest 121 = .ok (.aload_n 0, 1) := by decide +kernel
theorem dX8_shareRest_122 : decode cX8_shareRest 122 = .ok (.dup, 1) := by decide +kernel
theorem dX8_shareRest_123 : decode cX8_shareRest 123 = .ok (.getfield 57, 3) := by decide +kernel
theorem dX8_shareRest_126 : decode cX8_shareRest 126 = .ok (.iload 7, 2) := by decide +kernel
theorem dX8_shareRest_128 : decode cX8_shareRest 128 = .ok (.iadd, 1) := by decide +kernel
theorem dX8_shareRest_129 : decode cX8_shareRest 129 = .ok (.putfield 57, 3) := by decide +kernel
theorem dX8_shareRest_132 : decode cX8_shareRest 132 = .ok (.goto 36, 3) := by decide +kernel
theorem dX8_shareRest_135 : decode cX8_shareRest 135 = .ok (.aload_n 1, 1) := by decide +kernel
theorem dX8_shareRest_136 : decode cX8_shareRest 136 = .ok (.bipush 10, 2) := by decide +kernel
theorem dX8_shareRest_138 : decode cX8_shareRest 138 = .ok (.iaload, 1) := by decide +kernel
theorem dX8_shareRest_139 : decode cX8_shareRest 139 = .ok (.iconst 1, 1) := by decide +kernel
theorem dX8_shareRest_140 : decode cX8_shareRest 140 = .ok (.if_icmp .ne 17, 3) := by decide +kernel
theorem dX8_shareRest_143 : decode cX8_shareRest 143 = .ok (.aload_n 0, 1) := by decide +kernel
theorem dX8_shareRest_144 : decode cX8_shareRest 144 = .ok (.dup, 1) := by decide +kernel
theorem dX8_shareRest_145 : decode cX8_shareRest 145 = .ok (.getfield 60, 3) := by decide +kernel
theorem dX8_shareRest_148 : decode cX8_shareRest 148 = .ok (.iload 7, 2) := by decide +kernel
theorem dX8_shareRest_150 : decode cX8_shareRest 150 = .ok (.iadd, 1) := by decide +kernel
theorem dX8_shareRest_151 : decode cX8_shareRest 151 = .ok (.putfield 60, 3) := by decide +kernel
theorem dX8_shareRest_154 : decode cX8_shareRest 154 = .ok (.goto 14, 3) := by decide +kernel
theorem dX8_shareRest_157 : decode cX8_shareRest 157 = .ok (.aload_n 0, 1) := by decide +kernel
theorem dX8_shareRest_158 : decode cX8_shareRest 158 = .ok (.dup, 1) := by decide +kernel
theorem dX8_shareRest_159 : decode cX8_shareRest 159 = .ok (.getfield 63, 3) := by decide +kernel
theorem dX8_shareRest_162 : decode cX8_shareRest 162 = .ok (.iload 7, 2) := by decide +kernel
theorem dX8_shareRest_164 : decode cX8_shareRest 164 = .ok (.iadd, 1) := by decide +kernel
theorem dX8_shareRest_165 : decode cX8_shareRest 165 = .ok (.putfield 63, 3) := by decide +kernel
theorem dX8_shareRest_168 : decode cX8_shareRest 168 = .ok (.return_, 1) := by decide +kernel
theorem dX8_guarantee_0 : decode cX8_guarantee 0 = .ok (.aload_n 0, 1) := by decide +kernel
theorem dX8_guarantee_1 : decode cX8_guarantee 1 = .ok (.iconst 0, 1) := by decide +kernel
theorem dX8_guarantee_2 : decode cX8_guarantee 2 = .ok (.iload_n 1, 1) := by decide +kernel
theorem dX8_guarantee_3 : decode cX8_guarantee 3 = .ok (.aload_n 0, 1) := by decide +kernel
theorem dX8_guarantee_4 : decode cX8_guarantee 4 = .ok (.getfield 60, 3) := by decide +kernel
theorem dX8_guarantee_7 : decode cX8_guarantee 7 = .ok (.isub, 1) := by decide +kernel
theorem dX8_guarantee_8 : decode cX8_guarantee 8 = .ok (.invokestatic 66, 3) := by decide +kernel
theorem dX8_guarantee_11 : decode cX8_guarantee 11 = .ok (.putfield 44, 3) := by decide +kernel
theorem dX8_guarantee_14 : decode cX8_guarantee 14 = .ok (.aload_n 0, 1) := by decide +kernel
theorem dX8_guarantee_15 : decode cX8_guarantee 15 = .ok (.getfield 44, 3) := by decide +kernel
theorem dX8_guarantee_18 : decode cX8_guarantee 18 = .ok (.aload_n 0, 1) := by decide +kernel
theorem dX8_guarantee_19 : decode cX8_guarantee 19 = .ok (.getfield 57, 3) := by decide +kernel
theorem dX8_guarantee_22 : decode cX8_guarantee 22 = .ok (.invokestatic 47, 3) := by decide +kernel
theorem dX8_guarantee_25 : decode cX8_guarantee 25 = .ok (.istore_n 2, 1) := by decide +kernel
theorem dX8_guarantee_26 : decode cX8_guarantee 26 = .ok (.aload_n 0, 1) := by decide +kernel
theorem dX8_guarantee_27 : decode cX8_guarantee 27 = .ok (.dup, 1) := by decide +kernel
theorem dX8_guarantee_28 : decode cX8_guarantee 28 = .ok (.getfield 60, 3) := by decide +kernel
theorem dX8_guarantee_31 : decode cX8_guarantee 31 = .ok (.aload_n 0, 1) := by decide +kernel
theorem dX8_guarantee_32 : decode cX8_guarantee 32 = .ok (.getfield 44, 3) := by decide +kernel
theorem dX8_guarantee_35 : decode cX8_guarantee 35 = .ok (.iadd, 1) := by decide +kernel
theorem dX8_guarantee_36 : decode cX8_guarantee 36 = .ok (.putfield 60, 3) := by decide +kernel
theorem dX8_guarantee_39 : decode cX8_guarantee 39 = .ok (.aload_n 0, 1) := by decide +kernel
theorem dX8_guarantee_40 : decode cX8_guarantee 40 = .ok (.dup, 1) := by decide +kernel
theorem dX8_guarantee_41 : decode cX8_guarantee 41 = .ok (.getfield 57, 3) := by decide +kernel
theorem dX8_guarantee_44 : decode cX8_guarantee 44 = .ok (.iload_n 2, 1) := by decide +kernel
theorem dX8_guarantee_45 : decode cX8_guarantee 45 = .ok (.isub, 1) := by decide +kernel
theorem dX8_guarantee_46 : decode cX8_guarantee 46 = .ok (.putfield 57, 3) := by decide +kernel
theorem dX8_guarantee_49 : decode cX8_guarantee 49 = .ok (.aload_n 0, 1) := by decide +kernel
theorem dX8_guarantee_50 : decode cX8_guarantee 50 = .ok (.dup, 1) := by decide +kernel
theorem dX8_guarantee_51 : decode cX8_guarantee 51 = .ok (.getfield 63, 3) := by decide +kernel
theorem dX8_guarantee_54 : decode cX8_guarantee 54 = .ok (.aload_n 0, 1) := by decide +kernel
theorem dX8_guarantee_55 : decode cX8_guarantee 55 = .ok (.getfield 44, 3) := by decide +kernel
theorem dX8_guarantee_58 : decode cX8_guarantee 58 = .ok (.iload_n 2, 1) := by decide +kernel
theorem dX8_guarantee_59 : decode cX8_guarantee 59 = .ok (.isub, 1) := by decide +kernel
theorem dX8_guarantee_60 : decode cX8_guarantee 60 = .ok (.isub, 1) := by decide +kernel
theorem dX8_guarantee_61 : decode cX8_guarantee 61 = .ok (.putfield 63, 3) := by decide +kernel
theorem dX8_guarantee_64 : decode cX8_guarantee 64 = .ok (.return_, 1) := by decide +kernel
theorem dX8_partOf_0 : decode cX8_partOf 0 = .ok (.iload_n 1, 1) := by decide +kernel
theorem dX8_partOf_1 : decode cX8_partOf 1 = .ok (.iconst 2, 1) := by decide +kernel
theorem dX8_partOf_2 : decode cX8_partOf 2 = .ok (.if_icmp .ne 8, 3) := by decide +kernel
theorem dX8_partOf_5 : decode cX8_partOf 5 = .ok (.aload_n 0, 1) := by decide +kernel
theorem dX8_partOf_6 : decode cX8_partOf 6 = .ok (.getfield 63, 3) := by decide +kernel
theorem dX8_partOf_9 : decode cX8_partOf 9 = .ok (.ireturn, 1) := by decide +kernel
theorem dX8_partOf_10 : decode cX8_partOf 10 = .ok (.iload_n 2, 1) := by decide +kernel
theorem dX8_partOf_11 : decode cX8_partOf 11 = .ok (.iconst 2, 1) := by decide +kernel
theorem dX8_partOf_12 : decode cX8_partOf 12 = .ok (.irem, 1) := by decide +kernel
theorem dX8_partOf_13 : decode cX8_partOf 13 = .ok (.ifCond .ne 7, 3) := by decide +kernel
theorem dX8_partOf_16 : decode cX8_partOf 16 = .ok (.iconst 1, 1) := by decide +kernel
theorem dX8_partOf_17 : decode cX8_partOf 17 = .ok (.goto 4, 3) := by decide +kernel
theorem dX8_partOf_20 : decode cX8_partOf 20 = .ok (.iconst 0, 1) := by decide +kernel
theorem dX8_partOf_21 : decode cX8_partOf 21 = .ok (.iload_n 1, 1) := by decide +kernel
theorem dX8_partOf_22 : decode cX8_partOf 22 = .ok (.ifCond .ne 7, 3) := by decide +kernel
theorem dX8_partOf_25 : decode cX8_partOf 25 = .ok (.iconst 1, 1) := by decide +kernel
theorem dX8_partOf_26 : decode cX8_partOf 26 = .ok (.goto 4, 3) := by decide +kernel
theorem dX8_partOf_29 : decode cX8_partOf 29 = .ok (.iconst 0, 1) := by decide +kernel
theorem dX8_partOf_30 : decode cX8_partOf 30 = .ok (.if_icmp .ne 7, 3) := by decide +kernel
theorem dX8_partOf_33 : decode cX8_partOf 33 = .ok (.iconst 1, 1) := by decide +kernel
theorem dX8_partOf_34 : decode cX8_partOf 34 = .ok (.goto 4, 3) := by decide +kernel
theorem dX8_partOf_37 : decode cX8_partOf 37 = .ok (.iconst 0, 1) := by decide +kernel
theorem dX8_partOf_38 : decode cX8_partOf 38 = .ok (.istore_n 3, 1) := by decide +kernel
theorem dX8_partOf_39 : decode cX8_partOf 39 = .ok (.iload_n 3, 1) := by decide +kernel
theorem dX8_partOf_40 : decode cX8_partOf 40 = .ok (.ifCond .eq 15, 3) := by decide +kernel
theorem dX8_partOf_43 : decode cX8_partOf 43 = .ok (.aload_n 0, 1) := by decide +kernel
theorem dX8_partOf_44 : decode cX8_partOf 44 = .ok (.getfield 31, 3) := by decide +kernel
theorem dX8_partOf_47 : decode cX8_partOf 47 = .ok (.aload_n 0, 1) := by decide +kernel
theorem dX8_partOf_48 : decode cX8_partOf 48 = .ok (.getfield 57, 3) := by decide +kernel
theorem dX8_partOf_51 : decode cX8_partOf 51 = .ok (.iadd, 1) := by decide +kernel
theorem dX8_partOf_52 : decode cX8_partOf 52 = .ok (.goto 12, 3) := by decide +kernel
theorem dX8_partOf_55 : decode cX8_partOf 55 = .ok (.aload_n 0, 1) := by decide +kernel
theorem dX8_partOf_56 : decode cX8_partOf 56 = .ok (.getfield 34, 3) := by decide +kernel
theorem dX8_partOf_59 : decode cX8_partOf 59 = .ok (.aload_n 0, 1) := by decide +kernel
theorem dX8_partOf_60 : decode cX8_partOf 60 = .ok (.getfield 60, 3) := by decide +kernel
theorem dX8_partOf_63 : decode cX8_partOf 63 = .ok (.iadd, 1) := by decide +kernel
theorem dX8_partOf_64 : decode cX8_partOf 64 = .ok (.ireturn, 1) := by decide +kernel
theorem dX9_init_0 : decode cX9_init 0 = .ok (.aload_n 0, 1) := by decide +kernel
theorem dX9_init_1 : decode cX9_init 1 = .ok (.invokespecial 3, 3) := by decide +kernel
theorem dX9_init_4 : decode cX9_init 4 = .ok (.aload_n 0, 1) := by decide +kernel
theorem dX9_init_5 : decode cX9_init 5 = .ok (.new 9, 3) := by decide +kernel
theorem dX9_init_8 : decode cX9_init 8 = .ok (.dup, 1) := by decide +kernel
theorem dX9_init_9 : decode cX9_init 9 = .ok (.invokespecial 11, 3) := by decide +kernel
theorem dX9_init_12 : decode cX9_init 12 = .ok (.putfield 12, 3) := by decide +kernel
theorem dX9_init_15 : decode cX9_init 15 = .ok (.aload_n 0, 1) := by decide +kernel
theorem dX9_init_16 : decode cX9_init 16 = .ok (.new 18, 3) := by decide +kernel
theorem dX9_init_19 : decode cX9_init 19 = .ok (.dup, 1) := by decide +kernel
theorem dX9_init_20 : decode cX9_init 20 = .ok (.invokespecial 20, 3) := by decide +kernel
theorem dX9_init_23 : decode cX9_init 23 = .ok (.putfield 21, 3) := by decide +kernel
theorem dX9_init_26 : decode cX9_init 26 = .ok (.aload_n 0, 1) := by decide +kernel
theorem dX9_init_27 : decode cX9_init 27 = .ok (.new 25, 3) := by decide +kernel
theorem dX9_init_30 : decode cX9_init 30 = .ok (.dup, 1) := by decide +kernel
theorem dX9_init_31 : decode cX9_init 31 = .ok (.aload_n 0, 1) := by decide +kernel
theorem dX9_init_32 : decode cX9_init 32 = .ok (.getfield 12, 3) := by decide +kernel
theorem dX9_init_35 : decode cX9_init 35 = .ok (.invokespecial 27, 3) := by decide +kernel
theorem dX9_init_38 : decode cX9_init 38 = .ok (.putfield 30, 3) := by decide +kernel
theorem dX9_init_41 : decode cX9_init 41 = .ok (.aload_n 0, 1) := by decide +kernel
theorem dX9_init_42 : decode cX9_init 42 = .ok (.new 34, 3) := by decide +kernel
theorem dX9_init_45 : decode cX9_init 45 = .ok (.dup, 1) := by decide +kernel
theorem dX9_init_46 : decode cX9_init 46 = .ok (.aload_n 0, 1) := by decide +kernel
theorem dX9_init_47 : decode cX9_init 47 = .ok (.getfield 12, 3) := by decide +kernel
theorem dX9_init_50 : decode cX9_init 50 = .ok (.invokespecial 36, 3) := by decide +kernel
theorem dX9_init_53 : decode cX9_init 53 = .ok (.putfield 37, 3) := by decide +kernel
theorem dX9_init_56 : decode cX9_init 56 = .ok (.aload_n 0, 1) := by decide +kernel
theorem dX9_init_57 : decode cX9_init 57 = .ok (.new 41, 3) := by decide +kernel
theorem dX9_init_60 : decode cX9_init 60 = .ok (.dup, 1) := by decide +kernel
theorem dX9_init_61 : decode cX9_init 61 = .ok (.invokespecial 43, 3) := by decide +kernel
theorem dX9_init_64 : decode cX9_init 64 = .ok (.putfield 44, 3) := by decide +kernel
theorem dX9_init_67 : decode cX9_init 67 = .ok (.aload_n 0, 1) := by decide +kernel
theorem dX9_init_68 : decode cX9_init 68 = .ok (.new 48, 3) := by decide +kernel
theorem dX9_init_71 : decode cX9_init 71 = .ok (.dup, 1) := by decide +kernel
theorem dX9_init_72 : decode cX9_init 72 = .ok (.invokespecial 50, 3) := by decide +kernel
theorem dX9_init_75 : decode cX9_init 75 = .ok (.putfield 51, 3) := by decide +kernel
theorem dX9_init_78 : decode cX9_init 78 = .ok (.aload_n 0, 1) := by decide +kernel
theorem dX9_init_79 : decode cX9_init 79 = .ok (.iconst 2, 1) := by decide +kernel
theorem dX9_init_80 : decode cX9_init 80 = .ok (.anewarray 41, 3) := by decide +kernel
theorem dX9_init_83 : decode cX9_init 83 = .ok (.dup, 1) := by decide +kernel
theorem dX9_init_84 : decode cX9_init 84 = .ok (.iconst 0, 1) := by decide +kernel
theorem dX9_init_85 : decode cX9_init 85 = .ok (.new 41, 3) := by decide +kernel
theorem dX9_init_88 : decode cX9_init 88 = .ok (.dup, 1) := by decide +kernel
theorem dX9_init_89 : decode cX9_init 89 = .ok (.invokespecial 43, 3) := by decide +kernel
theorem dX9_init_92 : decode cX9_init 92 = .ok (.aastore, 1) := by decide +kernel
theorem dX9_init_93 : decode cX9_init 93 = .ok (.dup, 1) := by decide +kernel
theorem dX9_init_94 : decode cX9_init 94 = .ok (.iconst 1, 1) := by decide +kernel
theorem dX9_init_95 : decode cX9_init 95 = .ok (.new 41, 3) := by decide +kernel
theorem dX9_init_98 : decode cX9_init 98 = .ok (.dup, 1) := by decide +kernel
theorem dX9_init_99 : decode cX9_init 99 = .ok (.invokespecial 43, 3) := by decide +kernel
theorem dX9_init_102 : decode cX9_init 102 = .ok (.aastore, 1) := by decide +kernel
theorem dX9_init_103 : decode cX9_init 103 = .ok (.putfield 55, 3) := by decide +kernel
theorem dX9_init_106 : decode cX9_init 106 = .ok (.aload_n 0, 1) := by decide +kernel
theorem dX9_init_107 : decode cX9_init 107 = .ok (.iconst 2, 1) := by decide +kernel
theorem dX9_init_108 : decode cX9_init 108 = .ok (.newarray .boolean, 2) := by decide +kernel
theorem dX9_init_110 : decode cX9_init 110 = .ok (.putfield 59, 3) := by decide +kernel
theorem dX9_init_113 : decode cX9_init 113 = .ok (.aload_n 0, 1) := by decide +kernel
theorem dX9_init_114 : decode cX9_init 114 = .ok (.new 63, 3) := by decide +kernel
theorem dX9_init_117 : decode cX9_init 117 = .ok (.dup, 1) := by decide +kernel
theorem dX9_init_118 : decode cX9_init 118 = .ok (.invokespecial 65, 3) := by decide +kernel
theorem dX9_init_121 : decode cX9_init 121 = .ok (.putfield 66, 3) := by decide +kernel
theorem dX9_init_124 : decode cX9_init 124 = .ok (.aload_n 0, 1) := by decide +kernel
theorem dX9_init_125 : decode cX9_init 125 = .ok (.new 70, 3) := by decide +kernel
theorem dX9_init_128 : decode cX9_init 128 = .ok (.dup, 1) := by decide +kernel
theorem dX9_init_129 : decode cX9_init 129 = .ok (.invokespecial 72, 3) := by decide +kernel
theorem dX9_init_132 : decode cX9_init 132 = .ok (.putfield 73, 3) := by decide +kernel
theorem dX9_init_135 : decode cX9_init 135 = .ok (.aload_n 0, 1) := by decide +kernel
theorem dX9_init_136 : decode cX9_init 136 = .ok (.new 77, 3) := by decide +kernel
theorem dX9_init_139 : decode cX9_init 139 = .ok (.dup, 1) := by decide +kernel
theorem dX9_init_140 : decode cX9_init 140 = .ok (.invokespecial 79, 3) := by decide +kernel
theorem dX9_init_143 : decode cX9_init 143 = .ok (.putfield 80, 3) := by decide +kernel
theorem dX9_init_146 : decode cX9_init 146 = .ok (.return_, 1) := by decide +kernel
theorem dX9_sign_0 : decode cX9_sign 0 = .ok (.aload_n 0, 1) := by decide +kernel
theorem dX9_sign_1 : decode cX9_sign 1 = .ok (.getfield 12, 3) := by decide +kernel
theorem dX9_sign_4 : decode cX9_sign 4 = .ok (.iload_n 1, 1) := by decide +kernel
theorem dX9_sign_5 : decode cX9_sign 5 = .ok (.invokevirtual 84, 3) := by decide +kernel
theorem dX9_sign_8 : decode cX9_sign 8 = .ok (.ifCond .eq 13, 3) := by decide +kernel
theorem dX9_sign_11 : decode cX9_sign 11 = .ok (.aload_n 0, 1) := by decide +kernel
theorem dX9_sign_12 : decode cX9_sign 12 = .ok (.getfield 12, 3) := by decide +kernel
theorem dX9_sign_15 : decode cX9_sign 15 = .ok (.getfield 88, 3) := by decide +kernel
theorem dX9_sign_18 : decode cX9_sign 18 = .ok (.goto 4, 3) := by decide +kernel
theorem dX9_sign_21 : decode cX9_sign 21 = .ok (.iconst (-1), 1) := by decide +kernel
theorem dX9_sign_22 : decode cX9_sign 22 = .ok (.ireturn, 1) := by decide +kernel
theorem dX9_end_0 : decode cX9_end 0 = .ok (.iload_n 1, 1) := by decide +kernel
theorem dX9_end_1 : decode cX9_end 1 = .ok (.ifCond .lt 14, 3) := by decide +kernel
theorem dX9_end_4 : decode cX9_end 4 = .ok (.iload_n 1, 1) := by decide +kernel
theorem dX9_end_5 : decode cX9_end 5 = .ok (.aload_n 0, 1) := by decide +kernel
theorem dX9_end_6 : decode cX9_end 6 = .ok (.getfield 12, 3) := by decide +kernel
theorem dX9_end_9 : decode cX9_end 9 = .ok (.getfield 88, 3) := by decide +kernel
theorem dX9_end_12 : decode cX9_end 12 = .ok (.if_icmp .le 5, 3) := by decide +kernel
theorem dX9_end_15 : decode cX9_end 15 = .ok (.iconst 0, 1) := by decide +kernel
theorem dX9_end_16 : decode cX9_end 16 = .ok (.ireturn, 1) := by decide +kernel
theorem dX9_end_17 : decode cX9_end 17 = .ok (.aload_n 0, 1) := by decide +kernel
theorem dX9_end_18 : decode cX9_end 18 = .ok (.getfield 12, 3) := by decide +kernel
theorem dX9_end_21 : decode cX9_end 21 = .ok (.iload_n 1, 1) := by decide +kernel
theorem dX9_end_22 : decode cX9_end 22 = .ok (.putfield 88, 3) := by decide +kernel
theorem dX9_end_25 : decode cX9_end 25 = .ok (.iconst 1, 1) := by decide +kernel
theorem dX9_end_26 : decode cX9_end 26 = .ok (.ireturn, 1) := by decide +kernel
theorem dX9_book_0 : decode cX9_book 0 = .ok (.aload_n 0, 1) := by decide +kernel
theorem dX9_book_1 : decode cX9_book 1 = .ok (.getfield 30, 3) := by decide +kernel
theorem dX9_book_4 : decode cX9_book 4 = .ok (.invokevirtual 92, 3) := by decide +kernel
theorem dX9_book_7 : decode cX9_book 7 = .ok (.istore_n 1, 1) := by decide +kernel
theorem dX9_book_8 : decode cX9_book 8 = .ok (.aload_n 0, 1) := by decide +kernel
theorem dX9_book_9 : decode cX9_book 9 = .ok (.getfield 12, 3) := by decide +kernel
theorem dX9_book_12 : decode cX9_book 12 = .ok (.iconst 0, 1) := by decide +kernel
theorem dX9_book_13 : decode cX9_book 13 = .ok (.putfield 88, 3) := by decide +kernel
theorem dX9_book_16 : decode cX9_book 16 = .ok (.iload_n 1, 1) := by decide +kernel
theorem dX9_book_17 : decode cX9_book 17 = .ok (.ifCond .ne 5, 3) := by decide +kernel
theorem dX9_book_20 : decode cX9_book 20 = .ok (.iconst (-1), 1) := by decide +kernel
theorem dX9_book_21 : decode cX9_book 21 = .ok (.ireturn, 1) := by decide +kernel
theorem dX9_book_22 : decode cX9_book 22 = .ok (.aload_n 0, 1) := by decide +kernel
theorem dX9_book_23 : decode cX9_book 23 = .ok (.getfield 21, 3) := by decide +kernel
theorem dX9_book_26 : decode cX9_book 26 = .ok (.aload_n 0, 1) := by decide +kernel
theorem dX9_book_27 : decode cX9_book 27 = .ok (.getfield 30, 3) := by decide +kernel
theorem dX9_book_30 : decode cX9_book 30 = .ok (.getfield 96, 3) := by decide +kernel
theorem dX9_book_33 : decode cX9_book 33 = .ok (.invokevirtual 99, 3) := by decide +kernel
theorem dX9_book_36 : decode cX9_book 36 = .ok (.aload_n 0, 1) := by decide +kernel
theorem dX9_book_37 : decode cX9_book 37 = .ok (.getfield 44, 3) := by decide +kernel
theorem dX9_book_40 : decode cX9_book 40 = .ok (.invokevirtual 103, 3) := by decide +kernel
theorem dX9_book_43 : decode cX9_book 43 = .ok (.aload_n 0, 1) := by decide +kernel
theorem dX9_book_44 : decode cX9_book 44 = .ok (.getfield 51, 3) := by decide +kernel
theorem dX9_book_47 : decode cX9_book 47 = .ok (.invokevirtual 106, 3) := by decide +kernel
theorem dX9_book_50 : decode cX9_book 50 = .ok (.iconst 0, 1) := by decide +kernel
theorem dX9_book_51 : decode cX9_book 51 = .ok (.istore_n 2, 1) := by decide +kernel
theorem dX9_book_52 : decode cX9_book 52 = .ok (.iload_n 2, 1) := by decide +kernel
theorem dX9_book_53 : decode cX9_book 53 = .ok (.iconst 2, 1) := by decide +kernel
theorem dX9_book_54 : decode cX9_book 54 = .ok (.if_icmp .ge 16, 3) := by decide +kernel
theorem dX9_book_57 : decode cX9_book 57 = .ok (.aload_n 0, 1) := by decide +kernel
theorem dX9_book_58 : decode cX9_book 58 = .ok (.getfield 59, 3) := by decide +kernel
theorem dX9_book_61 : decode cX9_book 61 = .ok (.iload_n 2, 1) := by decide +kernel
theorem dX9_book_62 : decode cX9_book 62 = .ok (.iconst 0, 1) := by decide +kernel
theorem dX9_book_63 : decode cX9_book 63 = .ok (.bastore, 1) := by decide +kernel
theorem dX9_book_64 : decode cX9_book 64 = .ok (.iinc 2 1, 3) := by decide +kernel
theorem dX9_book_67 : decode cX9_book 67 = .ok (.goto (-15), 3) := by decide +kernel
theorem dX9_book_70 : decode cX9_book 70 = .ok (.aload_n 0, 1) := by decide +kernel
theorem dX9_book_71 : decode cX9_book 71 = .ok (.getfield 73, 3) := by decide +kernel
theorem dX9_book_74 : decode cX9_book 74 = .ok (.iconst 0, 1) := by decide +kernel
theorem dX9_book_75 : decode cX9_book 75 = .ok (.putfield 107, 3) := by decide +kernel
theorem dX9_book_78 : decode cX9_book 78 = .ok (.aload_n 0, 1) := by decide +kernel
theorem dX9_book_79 : decode cX9_book 79 = .ok (.getfield 30, 3) := by decide +kernel
theorem dX9_book_82 : decode cX9_book 82 = .ok (.getfield 111, 3) := by decide +kernel
theorem dX9_book_85 : decode cX9_book 85 = .ok (.ireturn, 1) := by decide +kernel
theorem dX9_deeds_0 : decode cX9_deeds 0 = .ok (.aload_n 0, 1) := by decide +kernel
theorem dX9_deeds_1 : decode cX9_deeds 1 = .ok (.getfield 37, 3) := by decide +kernel
theorem dX9_deeds_4 : decode cX9_deeds 4 = .ok (.invokevirtual 114, 3) := by decide +kernel
theorem dX9_deeds_7 : decode cX9_deeds 7 = .ok (.istore_n 1, 1) := by decide +kernel
theorem dX9_deeds_8 : decode cX9_deeds 8 = .ok (.aload_n 0, 1) := by decide +kernel
theorem dX9_deeds_9 : decode cX9_deeds 9 = .ok (.getfield 12, 3) := by decide +kernel
theorem dX9_deeds_12 : decode cX9_deeds 12 = .ok (.iconst 0, 1) := by decide +kernel
theorem dX9_deeds_13 : decode cX9_deeds 13 = .ok (.putfield 88, 3) := by decide +kernel
theorem dX9_deeds_16 : decode cX9_deeds 16 = .ok (.iload_n 1, 1) := by decide +kernel
theorem dX9_deeds_17 : decode cX9_deeds 17 = .ok (.ifCond .eq 10, 3) := by decide +kernel
theorem dX9_deeds_20 : decode cX9_deeds 20 = .ok (.aload_n 0, 1) := by decide +kernel
theorem dX9_deeds_21 : decode cX9_deeds 21 = .ok (.invokevirtual 117, 3) := by decide +kernel
theorem dX9_deeds_24 : decode cX9_deeds 24 = .ok (.ifCond .ne 5, 3) := by decide +kernel
theorem dX9_deeds_27 : decode cX9_deeds 27 = .ok (.iconst (-1), 1) := by decide +kernel
theorem dX9_deeds_28 : decode cX9_deeds 28 = .ok (.ireturn, 1) := by decide +kernel
theorem dX9_deeds_29 : decode cX9_deeds 29 = .ok (.iconst 0, 1) := by decide +kernel
theorem dX9_deeds_30 : decode cX9_deeds 30 = .ok (.istore_n 2, 1) := by decide +kernel
theorem dX9_deeds_31 : decode cX9_deeds 31 = .ok (.iload_n 2, 1) := by decide +kernel
theorem dX9_deeds_32 : decode cX9_deeds 32 = .ok (.aload_n 0, 1) := by decide +kernel
theorem dX9_deeds_33 : decode cX9_deeds 33 = .ok (.getfield 37, 3) := by decide +kernel
theorem dX9_deeds_36 : decode cX9_deeds 36 = .ok (.getfield 120, 3) := by decide +kernel
theorem dX9_deeds_39 : decode cX9_deeds 39 = .ok (.if_icmp .ge 30, 3) := by decide +kernel
theorem dX9_deeds_42 : decode cX9_deeds 42 = .ok (.aload_n 0, 1) := by decide +kernel
theorem dX9_deeds_43 : decode cX9_deeds 43 = .ok (.iload_n 2, 1) := by decide +kernel
theorem dX9_deeds_44 : decode cX9_deeds 44 = .ok (.invokevirtual 123, 3) := by decide +kernel
theorem dX9_deeds_47 : decode cX9_deeds 47 = .ok (.ifCond .lt 22, 3) := by decide +kernel
theorem dX9_deeds_50 : decode cX9_deeds 50 = .ok (.iload_n 2, 1) := by decide +kernel
theorem dX9_deeds_51 : decode cX9_deeds 51 = .ok (.ifCond .ne 7, 3) := by decide +kernel
theorem dX9_deeds_54 : decode cX9_deeds 54 = .ok (.aload_n 0, 1) := by decide +kernel
theorem dX9_deeds_55 : decode cX9_deeds 55 = .ok (.invokevirtual 127, 3) := by decide +kernel
theorem dX9_deeds_58 : decode cX9_deeds 58 = .ok (.aload_n 0, 1) := by decide +kernel
theorem dX9_deeds_59 : decode cX9_deeds 59 = .ok (.iload_n 2, 1) := by decide +kernel
theorem dX9_deeds_60 : decode cX9_deeds 60 = .ok (.invokevirtual 130, 3) := by decide +kernel
theorem dX9_deeds_63 : decode cX9_deeds 63 = .ok (.iinc 2 1, 3) := by decide +kernel
theorem dX9_deeds_66 : decode cX9_deeds 66 = .ok (.goto (-35), 3) := by decide +kernel
theorem dX9_deeds_69 : decode cX9_deeds 69 = .ok (.iload_n 2, 1) := by decide +kernel
theorem dX9_deeds_70 : decode cX9_deeds 70 = .ok (.ireturn, 1) := by decide +kernel
theorem dX9_fault_0 : decode cX9_fault 0 = .ok (.iload_n 1, 1) := by decide +kernel
theorem dX9_fault_1 : decode cX9_fault 1 = .ok (.ifCond .ne 11, 3) := by decide +kernel
theorem dX9_fault_4 : decode cX9_fault 4 = .ok (.aload_n 0, 1) := by decide +kernel
theorem dX9_fault_5 : decode cX9_fault 5 = .ok (.getfield 12, 3) := by decide +kernel
theorem dX9_fault_8 : decode cX9_fault 8 = .ok (.getfield 134, 3) := by decide +kernel
theorem dX9_fault_11 : decode cX9_fault 11 = .ok (.ireturn, 1) := by decide +kernel
theorem dX9_fault_12 : decode cX9_fault 12 = .ok (.iload_n 1, 1) := by decide +kernel
theorem dX9_fault_13 : decode cX9_fault 13 = .ok (.iconst 1, 1) := by decide +kernel
theorem dX9_fault_14 : decode cX9_fault 14 = .ok (.if_icmp .ne 13, 3) := by decide +kernel
theorem dX9_fault_17 : decode cX9_fault 17 = .ok (.aload_n 0, 1) := by decide +kernel
theorem dX9_fault_18 : decode cX9_fault 18 = .ok (.getfield 12, 3) := by decide +kernel
theorem dX9_fault_21 : decode cX9_fault 21 = .ok (.getfield 137, 3) := by decide +kernel
theorem dX9_fault_24 : decode cX9_fault 24 = .ok (.goto 4, 3) := by decide +kernel
theorem dX9_fault_27 : decode cX9_fault 27 = .ok (.iconst (-1), 1) := by decide +kernel
theorem dX9_fault_28 : decode cX9_fault 28 = .ok (.ireturn, 1) := by decide +kernel
theorem dX9_tie_0 : decode cX9_tie 0 = .ok (.aload_n 0, 1) := by decide +kernel
theorem dX9_tie_1 : decode cX9_tie 1 = .ok (.iload_n 1, 1) := by decide +kernel
theorem dX9_tie_2 : decode cX9_tie 2 = .ok (.iload_n 2, 1) := by decide +kernel
theorem dX9_tie_3 : decode cX9_tie 3 = .ok (.iload_n 3, 1) := by decide +kernel
theorem dX9_tie_4 : decode cX9_tie 4 = .ok (.iload 4, 2) := by decide +kernel
theorem dX9_tie_6 : decode cX9_tie 6 = .ok (.invokevirtual 140, 3) := by decide +kernel
theorem dX9_tie_9 : decode cX9_tie 9 = .ok (.istore 5, 2) := by decide +kernel
theorem dX9_tie_11 : decode cX9_tie 11 = .ok (.iload 5, 2) := by decide +kernel
theorem dX9_tie_13 : decode cX9_tie 13 = .ok (.ifCond .ge 6, 3) := by decide +kernel
theorem dX9_tie_16 : decode cX9_tie 16 = .ok (.iload 5, 2) := by decide +kernel
theorem dX9_tie_18 : decode cX9_tie 18 = .ok (.ireturn, 1) := by decide +kernel
theorem dX9_tie_19 : decode cX9_tie 19 = .ok (.aload_n 0, 1) := by decide +kernel
theorem dX9_tie_20 : decode cX9_tie 20 = .ok (.invokevirtual 127, 3) := by decide +kernel
theorem dX9_tie_23 : decode cX9_tie 23 = .ok (.aload_n 0, 1) := by decide +kernel
theorem dX9_tie_24 : decode cX9_tie 24 = .ok (.getfield 44, 3) := by decide +kernel
theorem dX9_tie_27 : decode cX9_tie 27 = .ok (.iload_n 1, 1) := by decide +kernel
theorem dX9_tie_28 : decode cX9_tie 28 = .ok (.iload_n 2, 1) := by decide +kernel
theorem dX9_tie_29 : decode cX9_tie 29 = .ok (.iload_n 3, 1) := by decide +kernel
theorem dX9_tie_30 : decode cX9_tie 30 = .ok (.iload 4, 2) := by decide +kernel
theorem dX9_tie_32 : decode cX9_tie 32 = .ok (.invokevirtual 144, 3) := by decide +kernel
theorem dX9_tie_35 : decode cX9_tie 35 = .ok (.aload_n 0, 1) := by decide +kernel
theorem dX9_tie_36 : decode cX9_tie 36 = .ok (.getfield 44, 3) := by decide +kernel
theorem dX9_tie_39 : decode cX9_tie 39 = .ok (.getfield 148, 3) := by decide +kernel
theorem dX9_tie_42 : decode cX9_tie 42 = .ok (.iconst 1, 1) := by decide +kernel
theorem dX9_tie_43 : decode cX9_tie 43 = .ok (.isub, 1) := by decide +kernel
theorem dX9_tie_44 : decode cX9_tie 44 = .ok (.ireturn, 1) := by decide +kernel
theorem dX9_play_0 : decode cX9_play 0 = .ok (.aload_n 0, 1) := by decide +kernel
theorem dX9_play_1 : decode cX9_play 1 = .ok (.iload_n 1, 1) := by decide +kernel
theorem dX9_play_2 : decode cX9_play 2 = .ok (.iload_n 2, 1) := by decide +kernel
theorem dX9_play_3 : decode cX9_play 3 = .ok (.iload_n 3, 1) := by decide +kernel
theorem dX9_play_4 : decode cX9_play 4 = .ok (.invokevirtual 151, 3) := by decide +kernel
theorem dX9_play_7 : decode cX9_play 7 = .ok (.istore 4, 2) := by decide +kernel
theorem dX9_play_9 : decode cX9_play 9 = .ok (.iload 4, 2) := by decide +kernel
theorem dX9_play_11 : decode cX9_play 11 = .ok (.ifCond .ge 6, 3) := by decide +kernel
theorem dX9_play_14 : decode cX9_play 14 = .ok (.iload 4, 2) := by decide +kernel
theorem dX9_play_16 : decode cX9_play 16 = .ok (.ireturn, 1) := by decide +kernel
theorem dX9_play_17 : decode cX9_play 17 = .ok (.aload_n 0, 1) := by decide +kernel
theorem dX9_play_18 : decode cX9_play 18 = .ok (.invokevirtual 127, 3) := by decide +kernel
theorem dX9_play_21 : decode cX9_play 21 = .ok (.aload_n 0, 1) := by decide +kernel
theorem dX9_play_22 : decode cX9_play 22 = .ok (.getfield 44, 3) := by decide +kernel
theorem dX9_play_25 : decode cX9_play 25 = .ok (.iload_n 1, 1) := by decide +kernel
theorem dX9_play_26 : decode cX9_play 26 = .ok (.iload_n 2, 1) := by decide +kernel
theorem dX9_play_27 : decode cX9_play 27 = .ok (.iload_n 3, 1) := by decide +kernel
theorem dX9_play_28 : decode cX9_play 28 = .ok (.invokevirtual 155, 3) := by decide +kernel
theorem dX9_play_31 : decode cX9_play 31 = .ok (.aload_n 0, 1) := by decide +kernel
theorem dX9_play_32 : decode cX9_play 32 = .ok (.getfield 44, 3) := by decide +kernel
theorem dX9_play_35 : decode cX9_play 35 = .ok (.getfield 159, 3) := by decide +kernel
theorem dX9_play_38 : decode cX9_play 38 = .ok (.iload_n 1, 1) := by decide +kernel
theorem dX9_play_39 : decode cX9_play 39 = .ok (.iaload, 1) := by decide +kernel
theorem dX9_play_40 : decode cX9_play 40 = .ok (.ireturn, 1) := by decide +kernel
theorem dX9_close_0 : decode cX9_close 0 = .ok (.aload_n 0, 1) := by decide +kernel
theorem dX9_close_1 : decode cX9_close 1 = .ok (.iload_n 1, 1) := by decide +kernel
theorem dX9_close_2 : decode cX9_close 2 = .ok (.iload_n 2, 1) := by decide +kernel
theorem dX9_close_3 : decode cX9_close 3 = .ok (.invokevirtual 163, 3) := by decide +kernel
theorem dX9_close_6 : decode cX9_close 6 = .ok (.istore_n 3, 1) := by decide +kernel
theorem dX9_close_7 : decode cX9_close 7 = .ok (.iload_n 3, 1) := by decide +kernel
theorem dX9_close_8 : decode cX9_close 8 = .ok (.ifCond .ge 5, 3) := by decide +kernel
theorem dX9_close_11 : decode cX9_close 11 = .ok (.iload_n 3, 1) := by decide +kernel
theorem dX9_close_12 : decode cX9_close 12 = .ok (.ireturn, 1) := by decide +kernel
theorem dX9_close_13 : decode cX9_close 13 = .ok (.aload_n 0, 1) := by decide +kernel
theorem dX9_close_14 : decode cX9_close 14 = .ok (.invokevirtual 127, 3) := by decide +kernel
theorem dX9_close_17 : decode cX9_close 17 = .ok (.aload_n 0, 1) := by decide +kernel
theorem dX9_close_18 : decode cX9_close 18 = .ok (.getfield 44, 3) := by decide +kernel
theorem dX9_close_21 : decode cX9_close 21 = .ok (.iload_n 1, 1) := by decide +kernel
theorem dX9_close_22 : decode cX9_close 22 = .ok (.iload_n 2, 1) := by decide +kernel
theorem dX9_close_23 : decode cX9_close 23 = .ok (.invokevirtual 167, 3) := by decide +kernel
theorem dX9_close_26 : decode cX9_close 26 = .ok (.aload_n 0, 1) := by decide +kernel
theorem dX9_close_27 : decode cX9_close 27 = .ok (.invokevirtual 171, 3) := by decide +kernel
theorem dX9_close_30 : decode cX9_close 30 = .ok (.aload_n 0, 1) := by decide +kernel
theorem dX9_close_31 : decode cX9_close 31 = .ok (.getfield 73, 3) := by decide +kernel
theorem dX9_close_34 : decode cX9_close 34 = .ok (.getfield 174, 3) := by decide +kernel
theorem dX9_close_37 : decode cX9_close 37 = .ok (.iload_n 1, 1) := by decide +kernel
theorem dX9_close_38 : decode cX9_close 38 = .ok (.bipush 6, 2) := by decide +kernel
theorem dX9_close_40 : decode cX9_close 40 = .ok (.imul, 1) := by decide +kernel
theorem dX9_close_41 : decode cX9_close 41 = .ok (.iload_n 2, 1) := by decide +kernel
theorem dX9_close_42 : decode cX9_close 42 = .ok (.iadd, 1) := by decide +kernel
theorem dX9_close_43 : decode cX9_close 43 = .ok (.aaload, 1) := by decide +kernel
theorem dX9_close_44 : decode cX9_close 44 = .ok (.iconst 2, 1) := by decide +kernel
theorem dX9_close_45 : decode cX9_close 45 = .ok (.iaload, 1) := by decide +kernel
theorem dX9_close_46 : decode cX9_close 46 = .ok (.ireturn, 1) := by decide +kernel
theorem dX9_undo_0 : decode cX9_undo 0 = .ok (.aload_n 0, 1) := by decide +kernel
theorem dX9_undo_1 : decode cX9_undo 1 = .ok (.invokevirtual 117, 3) := by decide +kernel
theorem dX9_undo_4 : decode cX9_undo 4 = .ok (.ifCond .ne 5, 3) := by decide +kernel
theorem dX9_undo_7 : decode cX9_undo 7 = .ok (.iconst (-1), 1) := by decide +kernel
theorem dX9_undo_8 : decode cX9_undo 8 = .ok (.ireturn, 1) := by decide +kernel
theorem dX9_undo_9 : decode cX9_undo 9 = .ok (.aload_n 0, 1) := by decide +kernel
theorem dX9_undo_10 : decode cX9_undo 10 = .ok (.getfield 51, 3) := by decide +kernel
theorem dX9_undo_13 : decode cX9_undo 13 = .ok (.getfield 178, 3) := by decide +kernel
theorem dX9_undo_16 : decode cX9_undo 16 = .ok (.ifCond .ne 6, 3) := by decide +kernel
theorem dX9_undo_19 : decode cX9_undo 19 = .ok (.bipush (-2), 2) := by decide +kernel
theorem dX9_undo_21 : decode cX9_undo 21 = .ok (.ireturn, 1) := by decide +kernel
theorem dX9_undo_22 : decode cX9_undo 22 = .ok (.aload_n 0, 1) := by decide +kernel
theorem dX9_undo_23 : decode cX9_undo 23 = .ok (.getfield 51, 3) := by decide +kernel
theorem dX9_undo_26 : decode cX9_undo 26 = .ok (.aload_n 0, 1) := by decide +kernel
theorem dX9_undo_27 : decode cX9_undo 27 = .ok (.getfield 44, 3) := by decide +kernel
theorem dX9_undo_30 : decode cX9_undo 30 = .ok (.invokevirtual 179, 3) := by decide +kernel
theorem dX9_undo_33 : decode cX9_undo 33 = .ok (.aload_n 0, 1) := by decide +kernel
theorem dX9_undo_34 : decode cX9_undo 34 = .ok (.getfield 73, 3) := by decide +kernel
theorem dX9_undo_37 : decode cX9_undo 37 = .ok (.iconst 0, 1) := by decide +kernel
theorem dX9_undo_38 : decode cX9_undo 38 = .ok (.putfield 107, 3) := by decide +kernel
theorem dX9_undo_41 : decode cX9_undo 41 = .ok (.aload_n 0, 1) := by decide +kernel
theorem dX9_undo_42 : decode cX9_undo 42 = .ok (.getfield 51, 3) := by decide +kernel
theorem dX9_undo_45 : decode cX9_undo 45 = .ok (.getfield 178, 3) := by decide +kernel
theorem dX9_undo_48 : decode cX9_undo 48 = .ok (.ireturn, 1) := by decide +kernel
theorem dX9_keep_0 : decode cX9_keep 0 = .ok (.aload_n 0, 1) := by decide +kernel
theorem dX9_keep_1 : decode cX9_keep 1 = .ok (.invokevirtual 117, 3) := by decide +kernel
theorem dX9_keep_4 : decode cX9_keep 4 = .ok (.ifCond .eq 12, 3) := by decide +kernel
theorem dX9_keep_7 : decode cX9_keep 7 = .ok (.iload_n 1, 1) := by decide +kernel
theorem dX9_keep_8 : decode cX9_keep 8 = .ok (.ifCond .lt 8, 3) := by decide +kernel
theorem dX9_keep_11 : decode cX9_keep 11 = .ok (.iload_n 1, 1) := by decide +kernel
theorem dX9_keep_12 : decode cX9_keep 12 = .ok (.iconst 2, 1) := by decide +kernel
theorem dX9_keep_13 : decode cX9_keep 13 = .ok (.if_icmp .lt 5, 3) := by decide +kernel
theorem dX9_keep_16 : decode cX9_keep 16 = .ok (.iconst 0, 1) := by decide +kernel
theorem dX9_keep_17 : decode cX9_keep 17 = .ok (.ireturn, 1) := by decide +kernel
theorem dX9_keep_18 : decode cX9_keep 18 = .ok (.aload_n 0, 1) := by decide +kernel
theorem dX9_keep_19 : decode cX9_keep 19 = .ok (.getfield 55, 3) := by decide +kernel
theorem dX9_keep_22 : decode cX9_keep 22 = .ok (.iload_n 1, 1) := by decide +kernel
theorem dX9_keep_23 : decode cX9_keep 23 = .ok (.aaload, 1) := by decide +kernel
theorem dX9_keep_24 : decode cX9_keep 24 = .ok (.aload_n 0, 1) := by decide +kernel
theorem dX9_keep_25 : decode cX9_keep 25 = .ok (.getfield 44, 3) := by decide +kernel
theorem dX9_keep_28 : decode cX9_keep 28 = .ok (.invokevirtual 183, 3) := by decide +kernel
theorem dX9_keep_31 : decode cX9_keep 31 = .ok (.aload_n 0, 1) := by decide +kernel
theorem dX9_keep_32 : decode cX9_keep 32 = .ok (.getfield 59, 3) := by decide +kernel
theorem dX9_keep_35 : decode cX9_keep 35 = .ok (.iload_n 1, 1) := by decide +kernel
theorem dX9_keep_36 : decode cX9_keep 36 = .ok (.iconst 1, 1) := by decide +kernel
theorem dX9_keep_37 : decode cX9_keep 37 = .ok (.bastore, 1) := by decide +kernel
theorem dX9_keep_38 : decode cX9_keep 38 = .ok (.iconst 1, 1) := by decide +kernel
theorem dX9_keep_39 : decode cX9_keep 39 = .ok (.ireturn, 1) := by decide +kernel
theorem dX9_again_0 : decode cX9_again 0 = .ok (.iload_n 1, 1) := by decide +kernel
theorem dX9_again_1 : decode cX9_again 1 = .ok (.ifCond .lt 17, 3) := by decide +kernel
theorem dX9_again_4 : decode cX9_again 4 = .ok (.iload_n 1, 1) := by decide +kernel
theorem dX9_again_5 : decode cX9_again 5 = .ok (.iconst 2, 1) := by decide +kernel
theorem dX9_again_6 : decode cX9_again 6 = .ok (.if_icmp .ge 12, 3) := by decide +kernel
theorem dX9_again_9 : decode cX9_again 9 = .ok (.aload_n 0, 1) := by decide +kernel
theorem dX9_again_10 : decode cX9_again 10 = .ok (.getfield 59, 3) := by decide +kernel
theorem dX9_again_13 : decode cX9_again 13 = .ok (.iload_n 1, 1) := by decide +kernel
theorem dX9_again_14 : decode cX9_again 14 = .ok (.baload, 1) := by decide +kernel
theorem dX9_again_15 : decode cX9_again 15 = .ok (.ifCond .ne 5, 3) := by decide +kernel
theorem dX9_again_18 : decode cX9_again 18 = .ok (.iconst 0, 1) := by decide +kernel
theorem dX9_again_19 : decode cX9_again 19 = .ok (.ireturn, 1) := by decide +kernel
theorem dX9_again_20 : decode cX9_again 20 = .ok (.aload_n 0, 1) := by decide +kernel
theorem dX9_again_21 : decode cX9_again 21 = .ok (.invokevirtual 127, 3) := by decide +kernel
theorem dX9_again_24 : decode cX9_again 24 = .ok (.aload_n 0, 1) := by decide +kernel
theorem dX9_again_25 : decode cX9_again 25 = .ok (.getfield 44, 3) := by decide +kernel
theorem dX9_again_28 : decode cX9_again 28 = .ok (.aload_n 0, 1) := by decide +kernel
theorem dX9_again_29 : decode cX9_again 29 = .ok (.getfield 55, 3) := by decide +kernel
theorem dX9_again_32 : decode cX9_again 32 = .ok (.iload_n 1, 1) := by decide +kernel
theorem dX9_again_33 : decode cX9_again 33 = .ok (.aaload, 1) := by decide +kernel
theorem dX9_again_34 : decode cX9_again 34 = .ok (.invokevirtual 183, 3) := by decide +kernel
theorem dX9_again_37 : decode cX9_again 37 = .ok (.iconst 1, 1) := by decide +kernel
theorem dX9_again_38 : decode cX9_again 38 = .ok (.ireturn, 1) := by decide +kernel
theorem dX9_club_0 : decode cX9_club 0 = .ok (.aload_n 0, 1) := by decide +kernel
theorem dX9_club_1 : decode cX9_club 1 = .ok (.iload_n 1, 1) := by decide +kernel
theorem dX9_club_2 : decode cX9_club 2 = .ok (.invokevirtual 185, 3) := by decide +kernel
theorem dX9_club_5 : decode cX9_club 5 = .ok (.ifCond .eq 13, 3) := by decide +kernel
theorem dX9_club_8 : decode cX9_club 8 = .ok (.iload_n 2, 1) := by decide +kernel
theorem dX9_club_9 : decode cX9_club 9 = .ok (.ifCond .lt 9, 3) := by decide +kernel
theorem dX9_club_12 : decode cX9_club 12 = .ok (.iload_n 2, 1) := by decide +kernel
theorem dX9_club_13 : decode cX9_club 13 = .ok (.bipush 12, 2) := by decide +kernel
theorem dX9_club_15 : decode cX9_club 15 = .ok (.if_icmp .lt 13, 3) := by decide +kernel
theorem dX9_club_18 : decode cX9_club 18 = .ok (.new 188, 3) := by decide +kernel
theorem dX9_club_21 : decode cX9_club 21 = .ok (.dup, 1) := by decide +kernel
theorem dX9_club_22 : decode cX9_club 22 = .ok (.ldc 190, 2) := by decide +kernel
theorem dX9_club_24 : decode cX9_club 24 = .ok (.invokespecial 192, 3) := by decide +kernel
theorem dX9_club_27 : decode cX9_club 27 = .ok (.athrow, 1) := by decide +kernel
theorem dX9_club_28 : decode cX9_club 28 = .ok (.iload_n 2, 1) := by decide +kernel
theorem dX9_club_29 : decode cX9_club 29 = .ok (.iconst 2, 1) := by decide +kernel
theorem dX9_club_30 : decode cX9_club 30 = .ok (.if_icmp .gt 15, 3) := by decide +kernel
theorem dX9_club_33 : decode cX9_club 33 = .ok (.aload_n 0, 1) := by decide +kernel
theorem dX9_club_34 : decode cX9_club 34 = .ok (.getfield 21, 3) := by decide +kernel
theorem dX9_club_37 : decode cX9_club 37 = .ok (.getfield 195, 3) := by decide +kernel
theorem dX9_club_40 : decode cX9_club 40 = .ok (.iload_n 1, 1) := by decide +kernel
theorem dX9_club_41 : decode cX9_club 41 = .ok (.aaload, 1) := by decide +kernel
theorem dX9_club_42 : decode cX9_club 42 = .ok (.iload_n 2, 1) := by decide +kernel
theorem dX9_club_43 : decode cX9_club 43 = .ok (.iaload, 1) := by decide +kernel
theorem dX9_club_44 : decode cX9_club 44 = .ok (.ireturn, 1) := by decide +kernel
theorem dX9_club_45 : decode cX9_club 45 = .ok (.aload_n 0, 1) := by decide +kernel
theorem dX9_club_46 : decode cX9_club 46 = .ok (.invokevirtual 171, 3) := by decide +kernel
theorem dX9_club_49 : decode cX9_club 49 = .ok (.aload_n 0, 1) := by decide +kernel
theorem dX9_club_50 : decode cX9_club 50 = .ok (.getfield 73, 3) := by decide +kernel
theorem dX9_club_53 : decode cX9_club 53 = .ok (.getfield 198, 3) := by decide +kernel
theorem dX9_club_56 : decode cX9_club 56 = .ok (.iload_n 1, 1) := by decide +kernel
theorem dX9_club_57 : decode cX9_club 57 = .ok (.aaload, 1) := by decide +kernel
theorem dX9_club_58 : decode cX9_club 58 = .ok (.iload_n 2, 1) := by decide +kernel
theorem dX9_club_59 : decode cX9_club 59 = .ok (.iaload, 1) := by decide +kernel
theorem dX9_club_60 : decode cX9_club 60 = .ok (.ireturn, 1) := by decide +kernel
theorem dX9_cup_0 : decode cX9_cup 0 = .ok (.aload_n 0, 1) := by decide +kernel
theorem dX9_cup_1 : decode cX9_cup 1 = .ok (.iload_n 1, 1) := by decide +kernel
theorem dX9_cup_2 : decode cX9_cup 2 = .ok (.invokevirtual 201, 3) := by decide +kernel
theorem dX9_cup_5 : decode cX9_cup 5 = .ok (.ifCond .eq 13, 3) := by decide +kernel
theorem dX9_cup_8 : decode cX9_cup 8 = .ok (.iload_n 2, 1) := by decide +kernel
theorem dX9_cup_9 : decode cX9_cup 9 = .ok (.ifCond .lt 9, 3) := by decide +kernel
theorem dX9_cup_12 : decode cX9_cup 12 = .ok (.iload_n 2, 1) := by decide +kernel
theorem dX9_cup_13 : decode cX9_cup 13 = .ok (.bipush 14, 2) := by decide +kernel
theorem dX9_cup_15 : decode cX9_cup 15 = .ok (.if_icmp .lt 5, 3) := by decide +kernel
theorem dX9_cup_18 : decode cX9_cup 18 = .ok (.iconst (-1), 1) := by decide +kernel
theorem dX9_cup_19 : decode cX9_cup 19 = .ok (.ireturn, 1) := by decide +kernel
theorem dX9_cup_20 : decode cX9_cup 20 = .ok (.iload_n 2, 1) := by decide +kernel
theorem dX9_cup_21 : decode cX9_cup 21 = .ok (.bipush 11, 2) := by decide +kernel
theorem dX9_cup_23 : decode cX9_cup 23 = .ok (.if_icmp .ge 15, 3) := by decide +kernel
theorem dX9_cup_26 : decode cX9_cup 26 = .ok (.aload_n 0, 1) := by decide +kernel
theorem dX9_cup_27 : decode cX9_cup 27 = .ok (.getfield 21, 3) := by decide +kernel
theorem dX9_cup_30 : decode cX9_cup 30 = .ok (.getfield 204, 3) := by decide +kernel
theorem dX9_cup_33 : decode cX9_cup 33 = .ok (.iload_n 1, 1) := by decide +kernel
theorem dX9_cup_34 : decode cX9_cup 34 = .ok (.aaload, 1) := by decide +kernel
theorem dX9_cup_35 : decode cX9_cup 35 = .ok (.iload_n 2, 1) := by decide +kernel
theorem dX9_cup_36 : decode cX9_cup 36 = .ok (.iaload, 1) := by decide +kernel
theorem dX9_cup_37 : decode cX9_cup 37 = .ok (.ireturn, 1) := by decide +kernel
theorem dX9_cup_38 : decode cX9_cup 38 = .ok (.aload_n 0, 1) := by decide +kernel
theorem dX9_cup_39 : decode cX9_cup 39 = .ok (.invokevirtual 171, 3) := by decide +kernel
theorem dX9_cup_42 : decode cX9_cup 42 = .ok (.aload_n 0, 1) := by decide +kernel
theorem dX9_cup_43 : decode cX9_cup 43 = .ok (.getfield 73, 3) := by decide +kernel
theorem dX9_cup_46 : decode cX9_cup 46 = .ok (.getfield 207, 3) := by decide +kernel
theorem dX9_cup_49 : decode cX9_cup 49 = .ok (.iload_n 1, 1) := by decide +kernel
theorem dX9_cup_50 : decode cX9_cup 50 = .ok (.aaload, 1) := by decide +kernel
theorem dX9_cup_51 : decode cX9_cup 51 = .ok (.iload_n 2, 1) := by decide +kernel
theorem dX9_cup_52 : decode cX9_cup 52 = .ok (.bipush 11, 2) := by decide +kernel
theorem dX9_cup_54 : decode cX9_cup 54 = .ok (.isub, 1) := by decide +kernel
theorem dX9_cup_55 : decode cX9_cup 55 = .ok (.iaload, 1) := by decide +kernel
theorem dX9_cup_56 : decode cX9_cup 56 = .ok (.ireturn, 1) := by decide +kernel
theorem dX9_tieOf_0 : decode cX9_tieOf 0 = .ok (.aload_n 0, 1) := by decide +kernel
theorem dX9_tieOf_1 : decode cX9_tieOf 1 = .ok (.iload_n 1, 1) := by decide +kernel
theorem dX9_tieOf_2 : decode cX9_tieOf 2 = .ok (.invokevirtual 210, 3) := by decide +kernel
theorem dX9_tieOf_5 : decode cX9_tieOf 5 = .ok (.ifCond .ne 5, 3) := by decide +kernel
theorem dX9_tieOf_8 : decode cX9_tieOf 8 = .ok (.iconst (-1), 1) := by decide +kernel
theorem dX9_tieOf_9 : decode cX9_tieOf 9 = .ok (.ireturn, 1) := by decide +kernel
theorem dX9_tieOf_10 : decode cX9_tieOf 10 = .ok (.iload_n 2, 1) := by decide +kernel
theorem dX9_tieOf_11 : decode cX9_tieOf 11 = .ok (.tableswitch 169 0 9 #[53, 63, 73, 83, 93, 103, 112, 121, 137, 153], 53) := by decide +kernel
theorem dX9_tieOf_64 : decode cX9_tieOf 64 = .ok (.aload_n 0, 1) := by decide +kernel
theorem dX9_tieOf_65 : decode cX9_tieOf 65 = .ok (.getfield 44, 3) := by decide +kernel
theorem dX9_tieOf_68 : decode cX9_tieOf 68 = .ok (.getfield 213, 3) := by decide +kernel
theorem dX9_tieOf_71 : decode cX9_tieOf 71 = .ok (.iload_n 1, 1) := by decide +kernel
theorem dX9_tieOf_72 : decode cX9_tieOf 72 = .ok (.iaload, 1) := by decide +kernel
theorem dX9_tieOf_73 : decode cX9_tieOf 73 = .ok (.ireturn, 1) := by decide +kernel
theorem dX9_tieOf_74 : decode cX9_tieOf 74 = .ok (.aload_n 0, 1) := by decide +kernel
theorem dX9_tieOf_75 : decode cX9_tieOf 75 = .ok (.getfield 44, 3) := by decide +kernel
theorem dX9_tieOf_78 : decode cX9_tieOf 78 = .ok (.getfield 215, 3) := by decide +kernel
theorem dX9_tieOf_81 : decode cX9_tieOf 81 = .ok (.iload_n 1, 1) := by decide +kernel
theorem dX9_tieOf_82 : decode cX9_tieOf 82 = .ok (.iaload, 1) := by decide +kernel
theorem dX9_tieOf_83 : decode cX9_tieOf 83 = .ok (.ireturn, 1) := by decide +kernel
theorem dX9_tieOf_84 : decode cX9_tieOf 84 = .ok (.aload_n 0, 1) := by decide +kernel
theorem dX9_tieOf_85 : decode cX9_tieOf 85 = .ok (.getfield 44, 3) := by decide +kernel
theorem dX9_tieOf_88 : decode cX9_tieOf 88 = .ok (.getfield 218, 3) := by decide +kernel
theorem dX9_tieOf_91 : decode cX9_tieOf 91 = .ok (.iload_n 1, 1) := by decide +kernel
theorem dX9_tieOf_92 : decode cX9_tieOf 92 = .ok (.iaload, 1) := by decide +kernel
theorem dX9_tieOf_93 : decode cX9_tieOf 93 = .ok (.ireturn, 1) := by decide +kernel
theorem dX9_tieOf_94 : decode cX9_tieOf 94 = .ok (.aload_n 0, 1) := by decide +kernel
theorem dX9_tieOf_95 : decode cX9_tieOf 95 = .ok (.getfield 44, 3) := by decide +kernel
theorem dX9_tieOf_98 : decode cX9_tieOf 98 = .ok (.getfield 221, 3) := by decide +kernel
theorem dX9_tieOf_101 : decode cX9_tieOf 101 = .ok (.iload_n 1, 1) := by decide +kernel
theorem dX9_tieOf_102 : decode cX9_tieOf 102 = .ok (.iaload, 1) := by decide +kernel
theorem dX9_tieOf_103 : decode cX9_tieOf 103 = .ok (.ireturn, 1) := by decide +kernel
theorem dX9_tieOf_104 : decode cX9_tieOf 104 = .ok (.aload_n 0, 1) := by decide +kernel
theorem dX9_tieOf_105 : decode cX9_tieOf 105 = .ok (.getfield 44, 3) := by decide +kernel
theorem dX9_tieOf_108 : decode cX9_tieOf 108 = .ok (.getfield 159, 3) := by decide +kernel
theorem dX9_tieOf_111 : decode cX9_tieOf 111 = .ok (.iload_n 1, 1) := by decide +kernel
theorem dX9_tieOf_112 : decode cX9_tieOf 112 = .ok (.iaload, 1) := by decide +kernel
theorem dX9_tieOf_113 : decode cX9_tieOf 113 = .ok (.ireturn, 1) := by decide +kernel
theorem dX9_tieOf_114 : decode cX9_tieOf 114 = .ok (.aload_n 0, 1) := by decide +kernel
theorem dX9_tieOf_115 : decode cX9_tieOf 115 = .ok (.getfield 44, 3) := by decide +kernel
theorem dX9_tieOf_118 : decode cX9_tieOf 118 = .ok (.iload_n 1, 1) := by decide +kernel
theorem dX9_tieOf_119 : decode cX9_tieOf 119 = .ok (.invokevirtual 224, 3) := by decide +kernel
theorem dX9_tieOf_122 : decode cX9_tieOf 122 = .ok (.ireturn, 1) := by decide +kernel
theorem dX9_tieOf_123 : decode cX9_tieOf 123 = .ok (.aload_n 0, 1) := by decide +kernel
theorem dX9_tieOf_124 : decode cX9_tieOf 124 = .ok (.getfield 44, 3) := by decide +kernel
theorem dX9_tieOf_127 : decode cX9_tieOf 127 = .ok (.iload_n 1, 1) := by decide +kernel
theorem dX9_tieOf_128 : decode cX9_tieOf 128 = .ok (.invokevirtual 227, 3) := by decide +kernel
theorem dX9_tieOf_131 : decode cX9_tieOf 131 = .ok (.ireturn, 1) := by decide +kernel
theorem dX9_tieOf_132 : decode cX9_tieOf 132 = .ok (.aload_n 0, 1) := by decide +kernel
theorem dX9_tieOf_133 : decode cX9_tieOf 133 = .ok (.iload_n 1, 1) := by decide +kernel
theorem dX9_tieOf_134 : decode cX9_tieOf 134 = .ok (.aload_n 0, 1) := by decide +kernel
theorem dX9_tieOf_135 : decode cX9_tieOf 135 = .ok (.getfield 44, 3) := by decide +kernel
theorem dX9_tieOf_138 : decode cX9_tieOf 138 = .ok (.getfield 213, 3) := by decide +kernel
theorem dX9_tieOf_141 : decode cX9_tieOf 141 = .ok (.iload_n 1, 1) := by decide +kernel
theorem dX9_tieOf_142 : decode cX9_tieOf 142 = .ok (.iaload, 1) := by decide +kernel
theorem dX9_tieOf_143 : decode cX9_tieOf 143 = .ok (.iconst 0, 1) := by decide +kernel
theorem dX9_tieOf_144 : decode cX9_tieOf 144 = .ok (.invokevirtual 230, 3) := by decide +kernel
theorem dX9_tieOf_147 : decode cX9_tieOf 147 = .ok (.ireturn, 1) := by decide +kernel
theorem dX9_tieOf_148 : decode cX9_tieOf 148 = .ok (.aload_n 0, 1) := by decide +kernel
theorem dX9_tieOf_149 : decode cX9_tieOf 149 = .ok (.iload_n 1, 1) := by decide +kernel
theorem dX9_tieOf_150 : decode cX9_tieOf 150 = .ok (.aload_n 0, 1) := by decide +kernel
theorem dX9_tieOf_151 : decode cX9_tieOf 151 = .ok (.getfield 44, 3) := by decide +kernel
theorem dX9_tieOf_154 : decode cX9_tieOf 154 = .ok (.getfield 213, 3) := by decide +kernel
theorem dX9_tieOf_157 : decode cX9_tieOf 157 = .ok (.iload_n 1, 1) := by decide +kernel
theorem dX9_tieOf_158 : decode cX9_tieOf 158 = .ok (.iaload, 1) := by decide +kernel
theorem dX9_tieOf_159 : decode cX9_tieOf 159 = .ok (.iconst 1, 1) := by decide +kernel
theorem dX9_tieOf_160 : decode cX9_tieOf 160 = .ok (.invokevirtual 230, 3) := by decide +kernel
theorem dX9_tieOf_163 : decode cX9_tieOf 163 = .ok (.ireturn, 1) := by decide +kernel
theorem dX9_tieOf_164 : decode cX9_tieOf 164 = .ok (.aload_n 0, 1) := by decide +kernel
theorem dX9_tieOf_165 : decode cX9_tieOf 165 = .ok (.iload_n 1, 1) := by decide +kernel
theorem dX9_tieOf_166 : decode cX9_tieOf 166 = .ok (.aload_n 0, 1) := by decide +kernel
theorem dX9_tieOf_167 : decode cX9_tieOf 167 = .ok (.getfield 44, 3) := by decide +kernel
theorem dX9_tieOf_170 : decode cX9_tieOf 170 = .ok (.getfield 213, 3) := by decide +kernel
theorem dX9_tieOf_173 : decode cX9_tieOf 173 = .ok (.iload_n 1, 1) := by decide +kernel
theorem dX9_tieOf_174 : decode cX9_tieOf 174 = .ok (.iaload, 1) := by decide +kernel
theorem dX9_tieOf_175 : decode cX9_tieOf 175 = .ok (.iconst 2, 1) := by decide +kernel
theorem dX9_tieOf_176 : decode cX9_tieOf 176 = .ok (.invokevirtual 230, 3) := by decide +kernel
theorem dX9_tieOf_179 : decode cX9_tieOf 179 = .ok (.ireturn, 1) := by decide +kernel
theorem dX9_tieOf_180 : decode cX9_tieOf 180 = .ok (.iconst (-1), 1) := by decide +kernel
theorem dX9_tieOf_181 : decode cX9_tieOf 181 = .ok (.ireturn, 1) := by decide +kernel
theorem dX9_game_0 : decode cX9_game 0 = .ok (.aload_n 0, 1) := by decide +kernel
theorem dX9_game_1 : decode cX9_game 1 = .ok (.iload_n 1, 1) := by decide +kernel
theorem dX9_game_2 : decode cX9_game 2 = .ok (.iload_n 2, 1) := by decide +kernel
theorem dX9_game_3 : decode cX9_game 3 = .ok (.invokevirtual 233, 3) := by decide +kernel
theorem dX9_game_6 : decode cX9_game 6 = .ok (.ifCond .ne 5, 3) := by decide +kernel
theorem dX9_game_9 : decode cX9_game 9 = .ok (.iconst (-1), 1) := by decide +kernel
theorem dX9_game_10 : decode cX9_game 10 = .ok (.ireturn, 1) := by decide +kernel
theorem dX9_game_11 : decode cX9_game 11 = .ok (.aload_n 0, 1) := by decide +kernel
theorem dX9_game_12 : decode cX9_game 12 = .ok (.getfield 44, 3) := by decide +kernel
theorem dX9_game_15 : decode cX9_game 15 = .ok (.getfield 237, 3) := by decide +kernel
theorem dX9_game_18 : decode cX9_game 18 = .ok (.iload_n 1, 1) := by decide +kernel
theorem dX9_game_19 : decode cX9_game 19 = .ok (.iconst 4, 1) := by decide +kernel
theorem dX9_game_20 : decode cX9_game 20 = .ok (.imul, 1) := by decide +kernel
theorem dX9_game_21 : decode cX9_game 21 = .ok (.iload_n 2, 1) := by decide +kernel
theorem dX9_game_22 : decode cX9_game 22 = .ok (.iadd, 1) := by decide +kernel
theorem dX9_game_23 : decode cX9_game 23 = .ok (.iaload, 1) := by decide +kernel
theorem dX9_game_24 : decode cX9_game 24 = .ok (.istore 4, 2) := by decide +kernel
theorem dX9_game_26 : decode cX9_game 26 = .ok (.aload_n 0, 1) := by decide +kernel
theorem dX9_game_27 : decode cX9_game 27 = .ok (.iload_n 1, 1) := by decide +kernel
theorem dX9_game_28 : decode cX9_game 28 = .ok (.aload_n 0, 1) := by decide +kernel
theorem dX9_game_29 : decode cX9_game 29 = .ok (.getfield 44, 3) := by decide +kernel
theorem dX9_game_32 : decode cX9_game 32 = .ok (.getfield 213, 3) := by decide +kernel
theorem dX9_game_35 : decode cX9_game 35 = .ok (.iload_n 1, 1) := by decide +kernel
theorem dX9_game_36 : decode cX9_game 36 = .ok (.iaload, 1) := by decide +kernel
theorem dX9_game_37 : decode cX9_game 37 = .ok (.iload_n 2, 1) := by decide +kernel
theorem dX9_game_38 : decode cX9_game 38 = .ok (.iload 4, 2) := by decide +kernel
theorem dX9_game_40 : decode cX9_game 40 = .ok (.invokevirtual 240, 3) := by decide +kernel
theorem dX9_game_43 : decode cX9_game 43 = .ok (.iload_n 3, 1) := by decide +kernel
theorem dX9_game_44 : decode cX9_game 44 = .ok (.tableswitch 139 0 9 #[56, 59, 69, 77, 85, 93, 101, 109, 117, 125], 56) := by decide +kernel
theorem dX9_game_100 : decode cX9_game 100 = .ok (.iload 4, 2) := by decide +kernel
theorem dX9_game_102 : decode cX9_game 102 = .ok (.ireturn, 1) := by decide +kernel
theorem dX9_game_103 : decode cX9_game 103 = .ok (.aload_n 0, 1) := by decide +kernel
theorem dX9_game_104 : decode cX9_game 104 = .ok (.getfield 44, 3) := by decide +kernel
theorem dX9_game_107 : decode cX9_game 107 = .ok (.iload_n 1, 1) := by decide +kernel
theorem dX9_game_108 : decode cX9_game 108 = .ok (.iload_n 2, 1) := by decide +kernel
theorem dX9_game_109 : decode cX9_game 109 = .ok (.invokevirtual 243, 3) := by decide +kernel
theorem dX9_game_112 : decode cX9_game 112 = .ok (.ireturn, 1) := by decide +kernel
theorem dX9_game_113 : decode cX9_game 113 = .ok (.aload_n 0, 1) := by decide +kernel
theorem dX9_game_114 : decode cX9_game 114 = .ok (.getfield 66, 3) := by decide +kernel
theorem dX9_game_117 : decode cX9_game 117 = .ok (.getfield 246, 3) := by decide +kernel
theorem dX9_game_120 : decode cX9_game 120 = .ok (.ireturn, 1) := by decide +kernel
theorem dX9_game_121 : decode cX9_game 121 = .ok (.aload_n 0, 1) := by decide +kernel
theorem dX9_game_122 : decode cX9_game 122 = .ok (.getfield 66, 3) := by decide +kernel
theorem dX9_game_125 : decode cX9_game 125 = .ok (.getfield 249, 3) := by decide +kernel
theorem dX9_game_128 : decode cX9_game 128 = .ok (.ireturn, 1) := by decide +kernel
theorem dX9_game_129 : decode cX9_game 129 = .ok (.aload_n 0, 1) := by decide +kernel
theorem dX9_game_130 : decode cX9_game 130 = .ok (.getfield 66, 3) := by decide +kernel
theorem dX9_game_133 : decode cX9_game 133 = .ok (.getfield 252, 3) := by decide +kernel
theorem dX9_game_136 : decode cX9_game 136 = .ok (.ireturn, 1) := by decide +kernel
theorem dX9_game_137 : decode cX9_game 137 = .ok (.aload_n 0, 1) := by decide +kernel
theorem dX9_game_138 : decode cX9_game 138 = .ok (.getfield 66, 3) := by decide +kernel
theorem dX9_game_141 : decode cX9_game 141 = .ok (.getfield 255, 3) := by decide +kernel
theorem dX9_game_144 : decode cX9_game 144 = .ok (.ireturn, 1) := by decide +kernel
theorem dX9_game_145 : decode cX9_game 145 = .ok (.aload_n 0, 1) := by decide +kernel
theorem dX9_game_146 : decode cX9_game 146 = .ok (.getfield 66, 3) := by decide +kernel
theorem dX9_game_149 : decode cX9_game 149 = .ok (.getfield 258, 3) := by decide +kernel
theorem dX9_game_152 : decode cX9_game 152 = .ok (.ireturn, 1) := by decide +kernel
theorem dX9_game_153 : decode cX9_game 153 = .ok (.aload_n 0, 1) := by decide +kernel
theorem dX9_game_154 : decode cX9_game 154 = .ok (.getfield 66, 3) := by decide +kernel
theorem dX9_game_157 : decode cX9_game 157 = .ok (.getfield 261, 3) := by decide +kernel
theorem dX9_game_160 : decode cX9_game 160 = .ok (.ireturn, 1) := by decide +kernel
theorem dX9_game_161 : decode cX9_game 161 = .ok (.aload_n 0, 1) := by decide +kernel
theorem dX9_game_162 : decode cX9_game 162 = .ok (.getfield 66, 3) := by decide +kernel
theorem dX9_game_165 : decode cX9_game 165 = .ok (.getfield 264, 3) := by decide +kernel
theorem dX9_game_168 : decode cX9_game 168 = .ok (.ireturn, 1) := by decide +kernel
theorem dX9_game_169 : decode cX9_game 169 = .ok (.aload_n 0, 1) := by decide +kernel
theorem dX9_game_170 : decode cX9_game 170 = .ok (.getfield 44, 3) := by decide +kernel
theorem dX9_game_173 : decode cX9_game 173 = .ok (.getfield 267, 3) := by decide +kernel
theorem dX9_game_176 : decode cX9_game 176 = .ok (.iload_n 1, 1) := by decide +kernel
theorem dX9_game_177 : decode cX9_game 177 = .ok (.iconst 4, 1) := by decide +kernel
theorem dX9_game_178 : decode cX9_game 178 = .ok (.imul, 1) := by decide +kernel
theorem dX9_game_179 : decode cX9_game 179 = .ok (.iload_n 2, 1) := by decide +kernel
theorem dX9_game_180 : decode cX9_game 180 = .ok (.iadd, 1) := by decide +kernel
theorem dX9_game_181 : decode cX9_game 181 = .ok (.iaload, 1) := by decide +kernel
theorem dX9_game_182 : decode cX9_game 182 = .ok (.ireturn, 1) := by decide +kernel
theorem dX9_game_183 : decode cX9_game 183 = .ok (.iconst (-1), 1) := by decide +kernel
theorem dX9_game_184 : decode cX9_game 184 = .ok (.ireturn, 1) := by decide +kernel
theorem dX9_pool_0 : decode cX9_pool 0 = .ok (.aload_n 0, 1) := by decide +kernel
theorem dX9_pool_1 : decode cX9_pool 1 = .ok (.iload_n 1, 1) := by decide +kernel
theorem dX9_pool_2 : decode cX9_pool 2 = .ok (.iload_n 2, 1) := by decide +kernel
theorem dX9_pool_3 : decode cX9_pool 3 = .ok (.invokevirtual 270, 3) := by decide +kernel
theorem dX9_pool_6 : decode cX9_pool 6 = .ok (.ifCond .eq 13, 3) := by decide +kernel
theorem dX9_pool_9 : decode cX9_pool 9 = .ok (.iload_n 3, 1) := by decide +kernel
theorem dX9_pool_10 : decode cX9_pool 10 = .ok (.ifCond .lt 9, 3) := by decide +kernel
theorem dX9_pool_13 : decode cX9_pool 13 = .ok (.iload_n 3, 1) := by decide +kernel
theorem dX9_pool_14 : decode cX9_pool 14 = .ok (.bipush 7, 2) := by decide +kernel
theorem dX9_pool_16 : decode cX9_pool 16 = .ok (.if_icmp .lt 5, 3) := by decide +kernel
theorem dX9_pool_19 : decode cX9_pool 19 = .ok (.iconst (-1), 1) := by decide +kernel
theorem dX9_pool_20 : decode cX9_pool 20 = .ok (.ireturn, 1) := by decide +kernel
theorem dX9_pool_21 : decode cX9_pool 21 = .ok (.aload_n 0, 1) := by decide +kernel
theorem dX9_pool_22 : decode cX9_pool 22 = .ok (.invokevirtual 171, 3) := by decide +kernel
theorem dX9_pool_25 : decode cX9_pool 25 = .ok (.aload_n 0, 1) := by decide +kernel
theorem dX9_pool_26 : decode cX9_pool 26 = .ok (.getfield 73, 3) := by decide +kernel
theorem dX9_pool_29 : decode cX9_pool 29 = .ok (.getfield 174, 3) := by decide +kernel
theorem dX9_pool_32 : decode cX9_pool 32 = .ok (.iload_n 1, 1) := by decide +kernel
theorem dX9_pool_33 : decode cX9_pool 33 = .ok (.bipush 6, 2) := by decide +kernel
theorem dX9_pool_35 : decode cX9_pool 35 = .ok (.imul, 1) := by decide +kernel
theorem dX9_pool_36 : decode cX9_pool 36 = .ok (.iload_n 2, 1) := by decide +kernel
theorem dX9_pool_37 : decode cX9_pool 37 = .ok (.iadd, 1) := by decide +kernel
theorem dX9_pool_38 : decode cX9_pool 38 = .ok (.aaload, 1) := by decide +kernel
theorem dX9_pool_39 : decode cX9_pool 39 = .ok (.iload_n 3, 1) := by decide +kernel
theorem dX9_pool_40 : decode cX9_pool 40 = .ok (.iaload, 1) := by decide +kernel
theorem dX9_pool_41 : decode cX9_pool 41 = .ok (.ireturn, 1) := by decide +kernel
theorem dX9_all_0 : decode cX9_all 0 = .ok (.aload_n 0, 1) := by decide +kernel
theorem dX9_all_1 : decode cX9_all 1 = .ok (.invokevirtual 117, 3) := by decide +kernel
theorem dX9_all_4 : decode cX9_all 4 = .ok (.ifCond .eq 13, 3) := by decide +kernel
theorem dX9_all_7 : decode cX9_all 7 = .ok (.iload_n 1, 1) := by decide +kernel
theorem dX9_all_8 : decode cX9_all 8 = .ok (.ifCond .lt 9, 3) := by decide +kernel
theorem dX9_all_11 : decode cX9_all 11 = .ok (.iload_n 1, 1) := by decide +kernel
theorem dX9_all_12 : decode cX9_all 12 = .ok (.bipush 6, 2) := by decide +kernel
theorem dX9_all_14 : decode cX9_all 14 = .ok (.if_icmp .lt 5, 3) := by decide +kernel
theorem dX9_all_17 : decode cX9_all 17 = .ok (.iconst (-1), 1) := by decide +kernel
theorem dX9_all_18 : decode cX9_all 18 = .ok (.ireturn, 1) := by decide +kernel
theorem dX9_all_19 : decode cX9_all 19 = .ok (.aload_n 0, 1) := by decide +kernel
theorem dX9_all_20 : decode cX9_all 20 = .ok (.invokevirtual 171, 3) := by decide +kernel
theorem dX9_all_23 : decode cX9_all 23 = .ok (.aload_n 0, 1) := by decide +kernel
theorem dX9_all_24 : decode cX9_all 24 = .ok (.getfield 73, 3) := by decide +kernel
theorem dX9_all_27 : decode cX9_all 27 = .ok (.getfield 273, 3) := by decide +kernel
theorem dX9_all_30 : decode cX9_all 30 = .ok (.iload_n 1, 1) := by decide +kernel
theorem dX9_all_31 : decode cX9_all 31 = .ok (.iaload, 1) := by decide +kernel
theorem dX9_all_32 : decode cX9_all 32 = .ok (.ireturn, 1) := by decide +kernel
theorem dX9_balance_0 : decode cX9_balance 0 = .ok (.aload_n 0, 1) := by decide +kernel
theorem dX9_balance_1 : decode cX9_balance 1 = .ok (.invokevirtual 117, 3) := by decide +kernel
theorem dX9_balance_4 : decode cX9_balance 4 = .ok (.ifCond .eq 18, 3) := by decide +kernel
theorem dX9_balance_7 : decode cX9_balance 7 = .ok (.iload_n 1, 1) := by decide +kernel
theorem dX9_balance_8 : decode cX9_balance 8 = .ok (.ifCond .lt 14, 3) := by decide +kernel
theorem dX9_balance_11 : decode cX9_balance 11 = .ok (.iload_n 1, 1) := by decide +kernel
theorem dX9_balance_12 : decode cX9_balance 12 = .ok (.aload_n 0, 1) := by decide +kernel
theorem dX9_balance_13 : decode cX9_balance 13 = .ok (.getfield 21, 3) := by decide +kernel
theorem dX9_balance_16 : decode cX9_balance 16 = .ok (.getfield 276, 3) := by decide +kernel
theorem dX9_balance_19 : decode cX9_balance 19 = .ok (.if_icmp .le 7, 3) := by decide +kernel
theorem dX9_balance_22 : decode cX9_balance 22 = .ok (.ldc_w 279, 3) := by decide +kernel
theorem dX9_balance_25 : decode cX9_balance 25 = .ok (.ireturn, 1) := by decide +kernel
theorem dX9_balance_26 : decode cX9_balance 26 = .ok (.aload_n 0, 1) := by decide +kernel
theorem dX9_balance_27 : decode cX9_balance 27 = .ok (.invokevirtual 171, 3) := by decide +kernel
theorem dX9_balance_30 : decode cX9_balance 30 = .ok (.aload_n 0, 1) := by decide +kernel
theorem dX9_balance_31 : decode cX9_balance 31 = .ok (.getfield 73, 3) := by decide +kernel
theorem dX9_balance_34 : decode cX9_balance 34 = .ok (.getfield 280, 3) := by decide +kernel
theorem dX9_balance_37 : decode cX9_balance 37 = .ok (.iload_n 1, 1) := by decide +kernel
theorem dX9_balance_38 : decode cX9_balance 38 = .ok (.iaload, 1) := by decide +kernel
theorem dX9_balance_39 : decode cX9_balance 39 = .ok (.ireturn, 1) := by decide +kernel
theorem dX9_fewest_0 : decode cX9_fewest 0 = .ok (.aload_n 0, 1) := by decide +kernel
theorem dX9_fewest_1 : decode cX9_fewest 1 = .ok (.invokevirtual 117, 3) := by decide +kernel
theorem dX9_fewest_4 : decode cX9_fewest 4 = .ok (.ifCond .eq 12, 3) := by decide +kernel
theorem dX9_fewest_7 : decode cX9_fewest 7 = .ok (.iload_n 1, 1) := by decide +kernel
theorem dX9_fewest_8 : decode cX9_fewest 8 = .ok (.ifCond .lt 8, 3) := by decide +kernel
theorem dX9_fewest_11 : decode cX9_fewest 11 = .ok (.iload_n 1, 1) := by decide +kernel
theorem dX9_fewest_12 : decode cX9_fewest 12 = .ok (.iconst 1, 1) := by decide +kernel
theorem dX9_fewest_13 : decode cX9_fewest 13 = .ok (.if_icmp .le 5, 3) := by decide +kernel
theorem dX9_fewest_16 : decode cX9_fewest 16 = .ok (.iconst (-1), 1) := by decide +kernel
theorem dX9_fewest_17 : decode cX9_fewest 17 = .ok (.ireturn, 1) := by decide +kernel
theorem dX9_fewest_18 : decode cX9_fewest 18 = .ok (.aload_n 0, 1) := by decide +kernel
theorem dX9_fewest_19 : decode cX9_fewest 19 = .ok (.invokevirtual 171, 3) := by decide +kernel
theorem dX9_fewest_22 : decode cX9_fewest 22 = .ok (.aload_n 0, 1) := by decide +kernel
theorem dX9_fewest_23 : decode cX9_fewest 23 = .ok (.getfield 80, 3) := by decide +kernel
theorem dX9_fewest_26 : decode cX9_fewest 26 = .ok (.aload_n 0, 1) := by decide +kernel
theorem dX9_fewest_27 : decode cX9_fewest 27 = .ok (.getfield 73, 3) := by decide +kernel
theorem dX9_fewest_30 : decode cX9_fewest 30 = .ok (.getfield 280, 3) := by decide +kernel
theorem dX9_fewest_33 : decode cX9_fewest 33 = .ok (.aload_n 0, 1) := by decide +kernel
theorem dX9_fewest_34 : decode cX9_fewest 34 = .ok (.getfield 21, 3) := by decide +kernel
theorem dX9_fewest_37 : decode cX9_fewest 37 = .ok (.getfield 276, 3) := by decide +kernel
theorem dX9_fewest_40 : decode cX9_fewest 40 = .ok (.iconst 1, 1) := by decide +kernel
theorem dX9_fewest_41 : decode cX9_fewest 41 = .ok (.iadd, 1) := by decide +kernel
theorem dX9_fewest_42 : decode cX9_fewest 42 = .ok (.invokevirtual 283, 3) := by decide +kernel
theorem dX9_fewest_45 : decode cX9_fewest 45 = .ok (.aload_n 0, 1) := by decide +kernel
theorem dX9_fewest_46 : decode cX9_fewest 46 = .ok (.getfield 80, 3) := by decide +kernel
theorem dX9_fewest_49 : decode cX9_fewest 49 = .ok (.invokevirtual 287, 3) := by decide +kernel
theorem dX9_fewest_52 : decode cX9_fewest 52 = .ok (.istore_n 2, 1) := by decide +kernel
theorem dX9_fewest_53 : decode cX9_fewest 53 = .ok (.iload_n 1, 1) := by decide +kernel
theorem dX9_fewest_54 : decode cX9_fewest 54 = .ok (.iconst 1, 1) := by decide +kernel
theorem dX9_fewest_55 : decode cX9_fewest 55 = .ok (.if_icmp .ne 7, 3) := by decide +kernel
theorem dX9_fewest_58 : decode cX9_fewest 58 = .ok (.iload_n 2, 1) := by decide +kernel
theorem dX9_fewest_59 : decode cX9_fewest 59 = .ok (.goto 12, 3) := by decide +kernel
theorem dX9_fewest_62 : decode cX9_fewest 62 = .ok (.aload_n 0, 1) := by decide +kernel
theorem dX9_fewest_63 : decode cX9_fewest 63 = .ok (.getfield 80, 3) := by decide +kernel
theorem dX9_fewest_66 : decode cX9_fewest 66 = .ok (.getfield 291, 3) := by decide +kernel
theorem dX9_fewest_69 : decode cX9_fewest 69 = .ok (.iload_n 2, 1) := by decide +kernel
theorem dX9_fewest_70 : decode cX9_fewest 70 = .ok (.isub, 1) := by decide +kernel
theorem dX9_fewest_71 : decode cX9_fewest 71 = .ok (.ireturn, 1) := by decide +kernel
theorem dX9_pays_0 : decode cX9_pays 0 = .ok (.aload_n 0, 1) := by decide +kernel
theorem dX9_pays_1 : decode cX9_pays 1 = .ok (.invokevirtual 117, 3) := by decide +kernel
theorem dX9_pays_4 : decode cX9_pays 4 = .ok (.ifCond .eq 17, 3) := by decide +kernel
theorem dX9_pays_7 : decode cX9_pays 7 = .ok (.iload_n 2, 1) := by decide +kernel
theorem dX9_pays_8 : decode cX9_pays 8 = .ok (.ifCond .lt 13, 3) := by decide +kernel
theorem dX9_pays_11 : decode cX9_pays 11 = .ok (.iload_n 2, 1) := by decide +kernel
theorem dX9_pays_12 : decode cX9_pays 12 = .ok (.iconst 2, 1) := by decide +kernel
theorem dX9_pays_13 : decode cX9_pays 13 = .ok (.if_icmp .gt 8, 3) := by decide +kernel
theorem dX9_pays_16 : decode cX9_pays 16 = .ok (.iload_n 1, 1) := by decide +kernel
theorem dX9_pays_17 : decode cX9_pays 17 = .ok (.iconst (-1), 1) := by decide +kernel
theorem dX9_pays_18 : decode cX9_pays 18 = .ok (.if_icmp .ge 5, 3) := by decide +kernel
theorem dX9_pays_21 : decode cX9_pays 21 = .ok (.iconst (-1), 1) := by decide +kernel
theorem dX9_pays_22 : decode cX9_pays 22 = .ok (.ireturn, 1) := by decide +kernel
theorem dX9_pays_23 : decode cX9_pays 23 = .ok (.aload_n 0, 1) := by decide +kernel
theorem dX9_pays_24 : decode cX9_pays 24 = .ok (.invokevirtual 171, 3) := by decide +kernel
theorem dX9_pays_27 : decode cX9_pays 27 = .ok (.aload_n 0, 1) := by decide +kernel
theorem dX9_pays_28 : decode cX9_pays 28 = .ok (.getfield 80, 3) := by decide +kernel
theorem dX9_pays_31 : decode cX9_pays 31 = .ok (.aload_n 0, 1) := by decide +kernel
theorem dX9_pays_32 : decode cX9_pays 32 = .ok (.getfield 73, 3) := by decide +kernel
theorem dX9_pays_35 : decode cX9_pays 35 = .ok (.getfield 280, 3) := by decide +kernel
theorem dX9_pays_38 : decode cX9_pays 38 = .ok (.aload_n 0, 1) := by decide +kernel
theorem dX9_pays_39 : decode cX9_pays 39 = .ok (.getfield 21, 3) := by decide +kernel
theorem dX9_pays_42 : decode cX9_pays 42 = .ok (.getfield 276, 3) := by decide +kernel
theorem dX9_pays_45 : decode cX9_pays 45 = .ok (.iconst 1, 1) := by decide +kernel
theorem dX9_pays_46 : decode cX9_pays 46 = .ok (.iadd, 1) := by decide +kernel
theorem dX9_pays_47 : decode cX9_pays 47 = .ok (.invokevirtual 294, 3) := by decide +kernel
theorem dX9_pays_50 : decode cX9_pays 50 = .ok (.iload_n 1, 1) := by decide +kernel
theorem dX9_pays_51 : decode cX9_pays 51 = .ok (.iconst (-1), 1) := by decide +kernel
theorem dX9_pays_52 : decode cX9_pays 52 = .ok (.if_icmp .ne 11, 3) := by decide +kernel
theorem dX9_pays_55 : decode cX9_pays 55 = .ok (.aload_n 0, 1) := by decide +kernel
theorem dX9_pays_56 : decode cX9_pays 56 = .ok (.getfield 80, 3) := by decide +kernel
theorem dX9_pays_59 : decode cX9_pays 59 = .ok (.getfield 297, 3) := by decide +kernel
theorem dX9_pays_62 : decode cX9_pays 62 = .ok (.ireturn, 1) := by decide +kernel
theorem dX9_pays_63 : decode cX9_pays 63 = .ok (.iload_n 1, 1) := by decide +kernel
theorem dX9_pays_64 : decode cX9_pays 64 = .ok (.aload_n 0, 1) := by decide +kernel
theorem dX9_pays_65 : decode cX9_pays 65 = .ok (.getfield 80, 3) := by decide +kernel
theorem dX9_pays_68 : decode cX9_pays 68 = .ok (.getfield 297, 3) := by decide +kernel
theorem dX9_pays_71 : decode cX9_pays 71 = .ok (.if_icmp .lt 6, 3) := by decide +kernel
theorem dX9_pays_74 : decode cX9_pays 74 = .ok (.bipush (-2), 2) := by decide +kernel
theorem dX9_pays_76 : decode cX9_pays 76 = .ok (.ireturn, 1) := by decide +kernel
theorem dX9_pays_77 : decode cX9_pays 77 = .ok (.iload_n 2, 1) := by decide +kernel
theorem dX9_pays_78 : decode cX9_pays 78 = .ok (.ifCond .ne 13, 3) := by decide +kernel
theorem dX9_pays_81 : decode cX9_pays 81 = .ok (.aload_n 0, 1) := by decide +kernel
theorem dX9_pays_82 : decode cX9_pays 82 = .ok (.getfield 80, 3) := by decide +kernel
theorem dX9_pays_85 : decode cX9_pays 85 = .ok (.getfield 300, 3) := by decide +kernel
theorem dX9_pays_88 : decode cX9_pays 88 = .ok (.iload_n 1, 1) := by decide +kernel
theorem dX9_pays_89 : decode cX9_pays 89 = .ok (.iaload, 1) := by decide +kernel
theorem dX9_pays_90 : decode cX9_pays 90 = .ok (.ireturn, 1) := by decide +kernel
theorem dX9_pays_91 : decode cX9_pays 91 = .ok (.iload_n 2, 1) := by decide +kernel
theorem dX9_pays_92 : decode cX9_pays 92 = .ok (.iconst 1, 1) := by decide +kernel
theorem dX9_pays_93 : decode cX9_pays 93 = .ok (.if_icmp .ne 15, 3) := by decide +kernel
theorem dX9_pays_96 : decode cX9_pays 96 = .ok (.aload_n 0, 1) := by decide +kernel
theorem dX9_pays_97 : decode cX9_pays 97 = .ok (.getfield 80, 3) := by decide +kernel
theorem dX9_pays_100 : decode cX9_pays 100 = .ok (.getfield 303, 3) := by decide +kernel
theorem dX9_pays_103 : decode cX9_pays 103 = .ok (.iload_n 1, 1) := by decide +kernel
theorem dX9_pays_104 : decode cX9_pays 104 = .ok (.iaload, 1) := by decide +kernel
theorem dX9_pays_105 : decode cX9_pays 105 = .ok (.goto 12, 3) := by decide +kernel
theorem dX9_pays_108 : decode cX9_pays 108 = .ok (.aload_n 0, 1) := by decide +kernel
theorem dX9_pays_109 : decode cX9_pays 109 = .ok (.getfield 80, 3) := by decide +kernel
theorem dX9_pays_112 : decode cX9_pays 112 = .ok (.getfield 306, 3) := by decide +kernel
theorem dX9_pays_115 : decode cX9_pays 115 = .ok (.iload_n 1, 1) := by decide +kernel
theorem dX9_pays_116 : decode cX9_pays 116 = .ok (.iaload, 1) := by decide +kernel
theorem dX9_pays_117 : decode cX9_pays 117 = .ok (.ireturn, 1) := by decide +kernel
theorem dX9_mark_0 : decode cX9_mark 0 = .ok (.aload_n 0, 1) := by decide +kernel
theorem dX9_mark_1 : decode cX9_mark 1 = .ok (.invokevirtual 117, 3) := by decide +kernel
theorem dX9_mark_4 : decode cX9_mark 4 = .ok (.ifCond .ne 5, 3) := by decide +kernel
theorem dX9_mark_7 : decode cX9_mark 7 = .ok (.lconst 0, 1) := by decide +kernel
theorem dX9_mark_8 : decode cX9_mark 8 = .ok (.lreturn, 1) := by decide +kernel
theorem dX9_mark_9 : decode cX9_mark 9 = .ok (.aload_n 0, 1) := by decide +kernel
theorem dX9_mark_10 : decode cX9_mark 10 = .ok (.invokevirtual 171, 3) := by decide +kernel
theorem dX9_mark_13 : decode cX9_mark 13 = .ok (.ldc2_w 309, 3) := by decide +kernel
theorem dX9_mark_16 : decode cX9_mark 16 = .ok (.lstore_n 1, 1) := by decide +kernel
theorem dX9_mark_17 : decode cX9_mark 17 = .ok (.iconst 0, 1) := by decide +kernel
theorem dX9_mark_18 : decode cX9_mark 18 = .ok (.istore_n 3, 1) := by decide +kernel
theorem dX9_mark_19 : decode cX9_mark 19 = .ok (.iload_n 3, 1) := by decide +kernel
theorem dX9_mark_20 : decode cX9_mark 20 = .ok (.aload_n 0, 1) := by decide +kernel
theorem dX9_mark_21 : decode cX9_mark 21 = .ok (.getfield 21, 3) := by decide +kernel
theorem dX9_mark_24 : decode cX9_mark 24 = .ok (.getfield 276, 3) := by decide +kernel
theorem dX9_mark_27 : decode cX9_mark 27 = .ok (.if_icmp .gt 33, 3) := by decide +kernel
theorem dX9_mark_30 : decode cX9_mark 30 = .ok (.lload_n 1, 1) := by decide +kernel
theorem dX9_mark_31 : decode cX9_mark 31 = .ok (.ldc2_w 311, 3) := by decide +kernel
theorem dX9_mark_34 : decode cX9_mark 34 = .ok (.lmul, 1) := by decide +kernel
theorem dX9_mark_35 : decode cX9_mark 35 = .ok (.aload_n 0, 1) := by decide +kernel
theorem dX9_mark_36 : decode cX9_mark 36 = .ok (.getfield 73, 3) := by decide +kernel
theorem dX9_mark_39 : decode cX9_mark 39 = .ok (.getfield 280, 3) := by decide +kernel
theorem dX9_mark_42 : decode cX9_mark 42 = .ok (.iload_n 3, 1) := by decide +kernel
theorem dX9_mark_43 : decode cX9_mark 43 = .ok (.iaload, 1) := by decide +kernel
theorem dX9_mark_44 : decode cX9_mark 44 = .ok (.i2l, 1) := by decide +kernel
theorem dX9_mark_45 : decode cX9_mark 45 = .ok (.ladd, 1) := by decide +kernel
theorem dX9_mark_46 : decode cX9_mark 46 = .ok (.lstore_n 1, 1) := by decide +kernel
theorem dX9_mark_47 : decode cX9_mark 47 = .ok (.lload_n 1, 1) := by decide +kernel
theorem dX9_mark_48 : decode cX9_mark 48 = .ok (.lload_n 1, 1) := by decide +kernel
theorem dX9_mark_49 : decode cX9_mark 49 = .ok (.bipush 13, 2) := by decide +kernel
theorem dX9_mark_51 : decode cX9_mark 51 = .ok (.lushr, 1) := by decide +kernel
theorem dX9_mark_52 : decode cX9_mark 52 = .ok (.lxor, 1) := by decide +kernel
theorem dX9_mark_53 : decode cX9_mark 53 = .ok (.lstore_n 1, 1) := by decide +kernel
theorem dX9_mark_54 : decode cX9_mark 54 = .ok (.iinc 3 1, 3) := by decide +kernel
theorem dX9_mark_57 : decode cX9_mark 57 = .ok (.goto (-38), 3) := by decide +kernel
theorem dX9_mark_60 : decode cX9_mark 60 = .ok (.lload_n 1, 1) := by decide +kernel
theorem dX9_mark_61 : decode cX9_mark 61 = .ok (.lreturn, 1) := by decide +kernel
theorem dX9_met_0 : decode cX9_met 0 = .ok (.aload_n 0, 1) := by decide +kernel
theorem dX9_met_1 : decode cX9_met 1 = .ok (.iload_n 1, 1) := by decide +kernel
theorem dX9_met_2 : decode cX9_met 2 = .ok (.invokevirtual 185, 3) := by decide +kernel
theorem dX9_met_5 : decode cX9_met 5 = .ok (.ifCond .eq 16, 3) := by decide +kernel
theorem dX9_met_8 : decode cX9_met 8 = .ok (.aload_n 0, 1) := by decide +kernel
theorem dX9_met_9 : decode cX9_met 9 = .ok (.getfield 44, 3) := by decide +kernel
theorem dX9_met_12 : decode cX9_met 12 = .ok (.iconst 1, 1) := by decide +kernel
theorem dX9_met_13 : decode cX9_met 13 = .ok (.iload_n 1, 1) := by decide +kernel
theorem dX9_met_14 : decode cX9_met 14 = .ok (.ishl, 1) := by decide +kernel
theorem dX9_met_15 : decode cX9_met 15 = .ok (.invokevirtual 313, 3) := by decide +kernel
theorem dX9_met_18 : decode cX9_met 18 = .ok (.goto 4, 3) := by decide +kernel
theorem dX9_met_21 : decode cX9_met 21 = .ok (.iconst (-1), 1) := by decide +kernel
theorem dX9_met_22 : decode cX9_met 22 = .ok (.ireturn, 1) := by decide +kernel
theorem dX9_chain_0 : decode cX9_chain 0 = .ok (.aload_n 0, 1) := by decide +kernel
theorem dX9_chain_1 : decode cX9_chain 1 = .ok (.iload_n 1, 1) := by decide +kernel
theorem dX9_chain_2 : decode cX9_chain 2 = .ok (.invokevirtual 185, 3) := by decide +kernel
theorem dX9_chain_5 : decode cX9_chain 5 = .ok (.ifCond .eq 11, 3) := by decide +kernel
theorem dX9_chain_8 : decode cX9_chain 8 = .ok (.aload_n 0, 1) := by decide +kernel
theorem dX9_chain_9 : decode cX9_chain 9 = .ok (.iload_n 2, 1) := by decide +kernel
theorem dX9_chain_10 : decode cX9_chain 10 = .ok (.invokevirtual 185, 3) := by decide +kernel
theorem dX9_chain_13 : decode cX9_chain 13 = .ok (.ifCond .ne 5, 3) := by decide +kernel
theorem dX9_chain_16 : decode cX9_chain 16 = .ok (.iconst (-1), 1) := by decide +kernel
theorem dX9_chain_17 : decode cX9_chain 17 = .ok (.ireturn, 1) := by decide +kernel
theorem dX9_chain_18 : decode cX9_chain 18 = .ok (.iconst 1, 1) := by decide +kernel
theorem dX9_chain_19 : decode cX9_chain 19 = .ok (.iload_n 1, 1) := by decide +kernel
theorem dX9_chain_20 : decode cX9_chain 20 = .ok (.ishl, 1) := by decide +kernel
theorem dX9_chain_21 : decode cX9_chain 21 = .ok (.istore_n 3, 1) := by decide +kernel
theorem dX9_chain_22 : decode cX9_chain 22 = .ok (.iconst 0, 1) := by decide +kernel
theorem dX9_chain_23 : decode cX9_chain 23 = .ok (.istore 4, 2) := by decide +kernel
theorem dX9_chain_25 : decode cX9_chain 25 = .ok (.iload 4, 2) := by decide +kernel
theorem dX9_chain_27 : decode cX9_chain 27 = .ok (.bipush 12, 2) := by decide +kernel
theorem dX9_chain_29 : decode cX9_chain 29 = .ok (.if_icmp .ge 32, 3) := by decide +kernel
theorem dX9_chain_32 : decode cX9_chain 32 = .ok (.iload_n 3, 1) := by decide +kernel
theorem dX9_chain_33 : decode cX9_chain 33 = .ok (.iload_n 2, 1) := by decide +kernel
theorem dX9_chain_34 : decode cX9_chain 34 = .ok (.ishr, 1) := by decide +kernel
theorem dX9_chain_35 : decode cX9_chain 35 = .ok (.iconst 1, 1) := by decide +kernel
theorem dX9_chain_36 : decode cX9_chain 36 = .ok (.iand, 1) := by decide +kernel
theorem dX9_chain_37 : decode cX9_chain 37 = .ok (.iconst 1, 1) := by decide +kernel
theorem dX9_chain_38 : decode cX9_chain 38 = .ok (.if_icmp .ne 6, 3) := by decide +kernel
theorem dX9_chain_41 : decode cX9_chain 41 = .ok (.iload 4, 2) := by decide +kernel
theorem dX9_chain_43 : decode cX9_chain 43 = .ok (.ireturn, 1) := by decide +kernel
theorem dX9_chain_44 : decode cX9_chain 44 = .ok (.iload_n 3, 1) := by decide +kernel
theorem dX9_chain_45 : decode cX9_chain 45 = .ok (.aload_n 0, 1) := by decide +kernel
theorem dX9_chain_46 : decode cX9_chain 46 = .ok (.getfield 44, 3) := by decide +kernel
theorem dX9_chain_49 : decode cX9_chain 49 = .ok (.iload_n 3, 1) := by decide +kernel
theorem dX9_chain_50 : decode cX9_chain 50 = .ok (.invokevirtual 313, 3) := by decide +kernel
theorem dX9_chain_53 : decode cX9_chain 53 = .ok (.ior, 1) := by decide +kernel
theorem dX9_chain_54 : decode cX9_chain 54 = .ok (.istore_n 3, 1) := by decide +kernel
theorem dX9_chain_55 : decode cX9_chain 55 = .ok (.iinc 4 1, 3) := by decide +kernel
theorem dX9_chain_58 : decode cX9_chain 58 = .ok (.goto (-33), 3) := by decide +kernel
theorem dX9_chain_61 : decode cX9_chain 61 = .ok (.bipush (-2), 2) := by decide +kernel
theorem dX9_chain_63 : decode cX9_chain 63 = .ok (.ireturn, 1) := by decide +kernel
theorem dX9_in_0 : decode cX9_in 0 = .ok (.aload_n 0, 1) := by decide +kernel
theorem dX9_in_1 : decode cX9_in 1 = .ok (.iload_n 1, 1) := by decide +kernel
theorem dX9_in_2 : decode cX9_in 2 = .ok (.invokevirtual 201, 3) := by decide +kernel
theorem dX9_in_5 : decode cX9_in 5 = .ok (.ifCond .eq 14, 3) := by decide +kernel
theorem dX9_in_8 : decode cX9_in 8 = .ok (.aload_n 0, 1) := by decide +kernel
theorem dX9_in_9 : decode cX9_in 9 = .ok (.getfield 44, 3) := by decide +kernel
theorem dX9_in_12 : decode cX9_in 12 = .ok (.iload_n 1, 1) := by decide +kernel
theorem dX9_in_13 : decode cX9_in 13 = .ok (.invokevirtual 316, 3) := by decide +kernel
theorem dX9_in_16 : decode cX9_in 16 = .ok (.goto 4, 3) := by decide +kernel
theorem dX9_in_19 : decode cX9_in 19 = .ok (.iconst (-1), 1) := by decide +kernel
theorem dX9_in_20 : decode cX9_in 20 = .ok (.ireturn, 1) := by decide +kernel
theorem dX9_ranked_0 : decode cX9_ranked 0 = .ok (.iload_n 1, 1) := by decide +kernel
theorem dX9_ranked_1 : decode cX9_ranked 1 = .ok (.ifCond .lt 14, 3) := by decide +kernel
theorem dX9_ranked_4 : decode cX9_ranked 4 = .ok (.iload_n 1, 1) := by decide +kernel
theorem dX9_ranked_5 : decode cX9_ranked 5 = .ok (.aload_n 0, 1) := by decide +kernel
theorem dX9_ranked_6 : decode cX9_ranked 6 = .ok (.getfield 21, 3) := by decide +kernel
theorem dX9_ranked_9 : decode cX9_ranked 9 = .ok (.getfield 276, 3) := by decide +kernel
theorem dX9_ranked_12 : decode cX9_ranked 12 = .ok (.if_icmp .lt 5, 3) := by decide +kernel
theorem dX9_ranked_15 : decode cX9_ranked 15 = .ok (.iconst (-1), 1) := by decide +kernel
theorem dX9_ranked_16 : decode cX9_ranked 16 = .ok (.ireturn, 1) := by decide +kernel
theorem dX9_ranked_17 : decode cX9_ranked 17 = .ok (.aload_n 0, 1) := by decide +kernel
theorem dX9_ranked_18 : decode cX9_ranked 18 = .ok (.invokevirtual 171, 3) := by decide +kernel
theorem dX9_ranked_21 : decode cX9_ranked 21 = .ok (.iconst (-1), 1) := by decide +kernel
theorem dX9_ranked_22 : decode cX9_ranked 22 = .ok (.istore_n 2, 1) := by decide +kernel
theorem dX9_ranked_23 : decode cX9_ranked 23 = .ok (.iconst 0, 1) := by decide +kernel
theorem dX9_ranked_24 : decode cX9_ranked 24 = .ok (.istore_n 3, 1) := by decide +kernel
theorem dX9_ranked_25 : decode cX9_ranked 25 = .ok (.iload_n 3, 1) := by decide +kernel
theorem dX9_ranked_26 : decode cX9_ranked 26 = .ok (.aload_n 0, 1) := by decide +kernel
theorem dX9_ranked_27 : decode cX9_ranked 27 = .ok (.getfield 21, 3) := by decide +kernel
theorem dX9_ranked_30 : decode cX9_ranked 30 = .ok (.getfield 276, 3) := by decide +kernel
theorem dX9_ranked_33 : decode cX9_ranked 33 = .ok (.if_icmp .ge 30, 3) := by decide +kernel
theorem dX9_ranked_36 : decode cX9_ranked 36 = .ok (.aload_n 0, 1) := by decide +kernel
theorem dX9_ranked_37 : decode cX9_ranked 37 = .ok (.getfield 73, 3) := by decide +kernel
theorem dX9_ranked_40 : decode cX9_ranked 40 = .ok (.iload_n 3, 1) := by decide +kernel
theorem dX9_ranked_41 : decode cX9_ranked 41 = .ok (.aload_n 0, 1) := by decide +kernel
theorem dX9_ranked_42 : decode cX9_ranked 42 = .ok (.getfield 21, 3) := by decide +kernel
theorem dX9_ranked_45 : decode cX9_ranked 45 = .ok (.getfield 276, 3) := by decide +kernel
theorem dX9_ranked_48 : decode cX9_ranked 48 = .ok (.invokevirtual 319, 3) := by decide +kernel
theorem dX9_ranked_51 : decode cX9_ranked 51 = .ok (.iload_n 1, 1) := by decide +kernel
theorem dX9_ranked_52 : decode cX9_ranked 52 = .ok (.if_icmp .ne 5, 3) := by decide +kernel
theorem dX9_ranked_55 : decode cX9_ranked 55 = .ok (.iload_n 3, 1) := by decide +kernel
theorem dX9_ranked_56 : decode cX9_ranked 56 = .ok (.istore_n 2, 1) := by decide +kernel
theorem dX9_ranked_57 : decode cX9_ranked 57 = .ok (.iinc 3 1, 3) := by decide +kernel
theorem dX9_ranked_60 : decode cX9_ranked 60 = .ok (.goto (-35), 3) := by decide +kernel
theorem dX9_ranked_63 : decode cX9_ranked 63 = .ok (.iload_n 2, 1) := by decide +kernel
theorem dX9_ranked_64 : decode cX9_ranked 64 = .ok (.ireturn, 1) := by decide +kernel
theorem dX9_bands_0 : decode cX9_bands 0 = .ok (.aload_n 0, 1) := by decide +kernel
theorem dX9_bands_1 : decode cX9_bands 1 = .ok (.invokevirtual 117, 3) := by decide +kernel
theorem dX9_bands_4 : decode cX9_bands 4 = .ok (.ifCond .ne 5, 3) := by decide +kernel
theorem dX9_bands_7 : decode cX9_bands 7 = .ok (.iconst (-1), 1) := by decide +kernel
theorem dX9_bands_8 : decode cX9_bands 8 = .ok (.ireturn, 1) := by decide +kernel
theorem dX9_bands_9 : decode cX9_bands 9 = .ok (.iconst 0, 1) := by decide +kernel
theorem dX9_bands_10 : decode cX9_bands 10 = .ok (.istore_n 1, 1) := by decide +kernel
theorem dX9_bands_11 : decode cX9_bands 11 = .ok (.iconst 0, 1) := by decide +kernel
theorem dX9_bands_12 : decode cX9_bands 12 = .ok (.istore_n 2, 1) := by decide +kernel
theorem dX9_bands_13 : decode cX9_bands 13 = .ok (.iconst 0, 1) := by decide +kernel
theorem dX9_bands_14 : decode cX9_bands 14 = .ok (.istore_n 3, 1) := by decide +kernel
theorem dX9_bands_15 : decode cX9_bands 15 = .ok (.iload_n 3, 1) := by decide +kernel
theorem dX9_bands_16 : decode cX9_bands 16 = .ok (.aload_n 0, 1) := by decide +kernel
theorem dX9_bands_17 : decode cX9_bands 17 = .ok (.getfield 21, 3) := by decide +kernel
theorem dX9_bands_20 : decode cX9_bands 20 = .ok (.getfield 276, 3) := by decide +kernel
theorem dX9_bands_23 : decode cX9_bands 23 = .ok (.if_icmp .ge 31, 3) := by decide +kernel
theorem dX9_bands_26 : decode cX9_bands 26 = .ok (.iload_n 1, 1) := by decide +kernel
theorem dX9_bands_27 : decode cX9_bands 27 = .ok (.iload_n 3, 1) := by decide +kernel
theorem dX9_bands_28 : decode cX9_bands 28 = .ok (.ishr, 1) := by decide +kernel
theorem dX9_bands_29 : decode cX9_bands 29 = .ok (.iconst 1, 1) := by decide +kernel
theorem dX9_bands_30 : decode cX9_bands 30 = .ok (.iand, 1) := by decide +kernel
theorem dX9_bands_31 : decode cX9_bands 31 = .ok (.ifCond .ne 17, 3) := by decide +kernel
theorem dX9_bands_34 : decode cX9_bands 34 = .ok (.iinc 2 1, 3) := by decide +kernel
theorem dX9_bands_37 : decode cX9_bands 37 = .ok (.iload_n 1, 1) := by decide +kernel
theorem dX9_bands_38 : decode cX9_bands 38 = .ok (.aload_n 0, 1) := by decide +kernel
theorem dX9_bands_39 : decode cX9_bands 39 = .ok (.getfield 44, 3) := by decide +kernel
theorem dX9_bands_42 : decode cX9_bands 42 = .ok (.iload_n 3, 1) := by decide +kernel
theorem dX9_bands_43 : decode cX9_bands 43 = .ok (.invokevirtual 322, 3) := by decide +kernel
theorem dX9_bands_46 : decode cX9_bands 46 = .ok (.ior, 1) := by decide +kernel
theorem dX9_bands_47 : decode cX9_bands 47 = .ok (.istore_n 1, 1) := by decide +kernel
theorem dX9_bands_48 : decode cX9_bands 48 = .ok (.iinc 3 1, 3) := by decide +kernel
theorem dX9_bands_51 : decode cX9_bands 51 = .ok (.goto (-36), 3) := by decide +kernel
theorem dX9_bands_54 : decode cX9_bands 54 = .ok (.iload_n 2, 1) := by decide +kernel
theorem dX9_bands_55 : decode cX9_bands 55 = .ok (.ireturn, 1) := by decide +kernel
theorem dX9_brings_0 : decode cX9_brings 0 = .ok (.aload_n 0, 1) := by decide +kernel
theorem dX9_brings_1 : decode cX9_brings 1 = .ok (.iload_n 1, 1) := by decide +kernel
theorem dX9_brings_2 : decode cX9_brings 2 = .ok (.invokevirtual 210, 3) := by decide +kernel
theorem dX9_brings_5 : decode cX9_brings 5 = .ok (.ifCond .eq 19, 3) := by decide +kernel
theorem dX9_brings_8 : decode cX9_brings 8 = .ok (.iload_n 2, 1) := by decide +kernel
theorem dX9_brings_9 : decode cX9_brings 9 = .ok (.invokestatic 325, 3) := by decide +kernel
theorem dX9_brings_12 : decode cX9_brings 12 = .ok (.ifCond .eq 12, 3) := by decide +kernel
theorem dX9_brings_15 : decode cX9_brings 15 = .ok (.iload_n 3, 1) := by decide +kernel
theorem dX9_brings_16 : decode cX9_brings 16 = .ok (.ifCond .lt 8, 3) := by decide +kernel
theorem dX9_brings_19 : decode cX9_brings 19 = .ok (.iload_n 3, 1) := by decide +kernel
theorem dX9_brings_20 : decode cX9_brings 20 = .ok (.iconst 2, 1) := by decide +kernel
theorem dX9_brings_21 : decode cX9_brings 21 = .ok (.if_icmp .le 5, 3) := by decide +kernel
theorem dX9_brings_24 : decode cX9_brings 24 = .ok (.iconst (-1), 1) := by decide +kernel
theorem dX9_brings_25 : decode cX9_brings 25 = .ok (.ireturn, 1) := by decide +kernel
theorem dX9_brings_26 : decode cX9_brings 26 = .ok (.aload_n 0, 1) := by decide +kernel
theorem dX9_brings_27 : decode cX9_brings 27 = .ok (.iload_n 1, 1) := by decide +kernel
theorem dX9_brings_28 : decode cX9_brings 28 = .ok (.aload_n 0, 1) := by decide +kernel
theorem dX9_brings_29 : decode cX9_brings 29 = .ok (.getfield 44, 3) := by decide +kernel
theorem dX9_brings_32 : decode cX9_brings 32 = .ok (.getfield 159, 3) := by decide +kernel
theorem dX9_brings_35 : decode cX9_brings 35 = .ok (.iload_n 1, 1) := by decide +kernel
theorem dX9_brings_36 : decode cX9_brings 36 = .ok (.iaload, 1) := by decide +kernel
theorem dX9_brings_37 : decode cX9_brings 37 = .ok (.iload_n 2, 1) := by decide +kernel
theorem dX9_brings_38 : decode cX9_brings 38 = .ok (.iload_n 3, 1) := by decide +kernel
theorem dX9_brings_39 : decode cX9_brings 39 = .ok (.invokevirtual 328, 3) := by decide +kernel
theorem dX9_brings_42 : decode cX9_brings 42 = .ok (.ireturn, 1) := by decide +kernel
theorem dX9_least_0 : decode cX9_least 0 = .ok (.aload_n 0, 1) := by decide +kernel
theorem dX9_least_1 : decode cX9_least 1 = .ok (.iload_n 1, 1) := by decide +kernel
theorem dX9_least_2 : decode cX9_least 2 = .ok (.invokevirtual 210, 3) := by decide +kernel
theorem dX9_least_5 : decode cX9_least 5 = .ok (.ifCond .eq 16, 3) := by decide +kernel
theorem dX9_least_8 : decode cX9_least 8 = .ok (.iload_n 2, 1) := by decide +kernel
theorem dX9_least_9 : decode cX9_least 9 = .ok (.ifCond .lt 12, 3) := by decide +kernel
theorem dX9_least_12 : decode cX9_least 12 = .ok (.iload_n 3, 1) := by decide +kernel
theorem dX9_least_13 : decode cX9_least 13 = .ok (.ifCond .lt 8, 3) := by decide +kernel
theorem dX9_least_16 : decode cX9_least 16 = .ok (.iload_n 3, 1) := by decide +kernel
theorem dX9_least_17 : decode cX9_least 17 = .ok (.iconst 2, 1) := by decide +kernel
theorem dX9_least_18 : decode cX9_least 18 = .ok (.if_icmp .le 5, 3) := by decide +kernel
theorem dX9_least_21 : decode cX9_least 21 = .ok (.iconst (-1), 1) := by decide +kernel
theorem dX9_least_22 : decode cX9_least 22 = .ok (.ireturn, 1) := by decide +kernel
theorem dX9_least_23 : decode cX9_least 23 = .ok (.aload_n 0, 1) := by decide +kernel
theorem dX9_least_24 : decode cX9_least 24 = .ok (.iload_n 1, 1) := by decide +kernel
theorem dX9_least_25 : decode cX9_least 25 = .ok (.aload_n 0, 1) := by decide +kernel
theorem dX9_least_26 : decode cX9_least 26 = .ok (.getfield 44, 3) := by decide +kernel
theorem dX9_least_29 : decode cX9_least 29 = .ok (.getfield 213, 3) := by decide +kernel
theorem dX9_least_32 : decode cX9_least 32 = .ok (.iload_n 1, 1) := by decide +kernel
theorem dX9_least_33 : decode cX9_least 33 = .ok (.iaload, 1) := by decide +kernel
theorem dX9_least_34 : decode cX9_least 34 = .ok (.aload_n 0, 1) := by decide +kernel
theorem dX9_least_35 : decode cX9_least 35 = .ok (.getfield 44, 3) := by decide +kernel
theorem dX9_least_38 : decode cX9_least 38 = .ok (.getfield 159, 3) := by decide +kernel
theorem dX9_least_41 : decode cX9_least 41 = .ok (.iload_n 1, 1) := by decide +kernel
theorem dX9_least_42 : decode cX9_least 42 = .ok (.iaload, 1) := by decide +kernel
theorem dX9_least_43 : decode cX9_least 43 = .ok (.iconst 0, 1) := by decide +kernel
theorem dX9_least_44 : decode cX9_least 44 = .ok (.invokevirtual 240, 3) := by decide +kernel
theorem dX9_least_47 : decode cX9_least 47 = .ok (.aload_n 0, 1) := by decide +kernel
theorem dX9_least_48 : decode cX9_least 48 = .ok (.getfield 66, 3) := by decide +kernel
theorem dX9_least_51 : decode cX9_least 51 = .ok (.getfield 331, 3) := by decide +kernel
theorem dX9_least_54 : decode cX9_least 54 = .ok (.aload_n 0, 1) := by decide +kernel
theorem dX9_least_55 : decode cX9_least 55 = .ok (.getfield 66, 3) := by decide +kernel
theorem dX9_least_58 : decode cX9_least 58 = .ok (.getfield 334, 3) := by decide +kernel
theorem dX9_least_61 : decode cX9_least 61 = .ok (.iadd, 1) := by decide +kernel
theorem dX9_least_62 : decode cX9_least 62 = .ok (.istore 4, 2) := by decide +kernel
theorem dX9_least_64 : decode cX9_least 64 = .ok (.aload_n 0, 1) := by decide +kernel
theorem dX9_least_65 : decode cX9_least 65 = .ok (.iload_n 1, 1) := by decide +kernel
theorem dX9_least_66 : decode cX9_least 66 = .ok (.aload_n 0, 1) := by decide +kernel
theorem dX9_least_67 : decode cX9_least 67 = .ok (.getfield 44, 3) := by decide +kernel
theorem dX9_least_70 : decode cX9_least 70 = .ok (.getfield 159, 3) := by decide +kernel
theorem dX9_least_73 : decode cX9_least 73 = .ok (.iload_n 1, 1) := by decide +kernel
theorem dX9_least_74 : decode cX9_least 74 = .ok (.iaload, 1) := by decide +kernel
theorem dX9_least_75 : decode cX9_least 75 = .ok (.iload 4, 2) := by decide +kernel
theorem dX9_least_77 : decode cX9_least 77 = .ok (.iload_n 3, 1) := by decide +kernel
theorem dX9_least_78 : decode cX9_least 78 = .ok (.invokevirtual 328, 3) := by decide +kernel
theorem dX9_least_81 : decode cX9_least 81 = .ok (.iload_n 2, 1) := by decide +kernel
theorem dX9_least_82 : decode cX9_least 82 = .ok (.if_icmp .lt 13, 3) := by decide +kernel
theorem dX9_least_85 : decode cX9_least 85 = .ok (.aload_n 0, 1) := by decide +kernel
theorem dX9_least_86 : decode cX9_least 86 = .ok (.iload_n 1, 1) := by decide +kernel
theorem dX9_least_87 : decode cX9_least 87 = .ok (.iload_n 2, 1) := by decide +kernel
theorem dX9_least_88 : decode cX9_least 88 = .ok (.iload_n 3, 1) := by decide +kernel
theorem dX9_least_89 : decode cX9_least 89 = .ok (.iload 4, 2) := by decide +kernel
theorem dX9_least_91 : decode cX9_least 91 = .ok (.invokevirtual 337, 3) := by decide +kernel
theorem dX9_least_94 : decode cX9_least 94 = .ok (.ireturn, 1) := by decide +kernel
theorem dX9_least_95 : decode cX9_least 95 = .ok (.aload_n 0, 1) := by decide +kernel
theorem dX9_least_96 : decode cX9_least 96 = .ok (.iload_n 1, 1) := by decide +kernel
theorem dX9_least_97 : decode cX9_least 97 = .ok (.iload_n 2, 1) := by decide +kernel
theorem dX9_least_98 : decode cX9_least 98 = .ok (.iload_n 3, 1) := by decide +kernel
theorem dX9_least_99 : decode cX9_least 99 = .ok (.iload 4, 2) := by decide +kernel
theorem dX9_least_101 : decode cX9_least 101 = .ok (.invokevirtual 340, 3) := by decide +kernel
theorem dX9_least_104 : decode cX9_least 104 = .ok (.ireturn, 1) := by decide +kernel
theorem dX9_byCup_0 : decode cX9_byCup 0 = .ok (.aload_n 0, 1) := by decide +kernel
theorem dX9_byCup_1 : decode cX9_byCup 1 = .ok (.iload_n 1, 1) := by decide +kernel
theorem dX9_byCup_2 : decode cX9_byCup 2 = .ok (.invokevirtual 210, 3) := by decide +kernel
theorem dX9_byCup_5 : decode cX9_byCup 5 = .ok (.ifCond .eq 20, 3) := by decide +kernel
theorem dX9_byCup_8 : decode cX9_byCup 8 = .ok (.aload_n 0, 1) := by decide +kernel
theorem dX9_byCup_9 : decode cX9_byCup 9 = .ok (.iload_n 2, 1) := by decide +kernel
theorem dX9_byCup_10 : decode cX9_byCup 10 = .ok (.invokevirtual 201, 3) := by decide +kernel
theorem dX9_byCup_13 : decode cX9_byCup 13 = .ok (.ifCond .eq 12, 3) := by decide +kernel
theorem dX9_byCup_16 : decode cX9_byCup 16 = .ok (.iload_n 3, 1) := by decide +kernel
theorem dX9_byCup_17 : decode cX9_byCup 17 = .ok (.ifCond .lt 8, 3) := by decide +kernel
theorem dX9_byCup_20 : decode cX9_byCup 20 = .ok (.iload_n 3, 1) := by decide +kernel
theorem dX9_byCup_21 : decode cX9_byCup 21 = .ok (.iconst 2, 1) := by decide +kernel
theorem dX9_byCup_22 : decode cX9_byCup 22 = .ok (.if_icmp .le 5, 3) := by decide +kernel
theorem dX9_byCup_25 : decode cX9_byCup 25 = .ok (.iconst (-1), 1) := by decide +kernel
theorem dX9_byCup_26 : decode cX9_byCup 26 = .ok (.ireturn, 1) := by decide +kernel
theorem dX9_byCup_27 : decode cX9_byCup 27 = .ok (.aload_n 0, 1) := by decide +kernel
theorem dX9_byCup_28 : decode cX9_byCup 28 = .ok (.iload_n 1, 1) := by decide +kernel
theorem dX9_byCup_29 : decode cX9_byCup 29 = .ok (.iload_n 2, 1) := by decide +kernel
theorem dX9_byCup_30 : decode cX9_byCup 30 = .ok (.iload_n 3, 1) := by decide +kernel
theorem dX9_byCup_31 : decode cX9_byCup 31 = .ok (.invokevirtual 230, 3) := by decide +kernel
theorem dX9_byCup_34 : decode cX9_byCup 34 = .ok (.ireturn, 1) := by decide +kernel
theorem dX9_fairest_0 : decode cX9_fairest 0 = .ok (.aload_n 0, 1) := by decide +kernel
theorem dX9_fairest_1 : decode cX9_fairest 1 = .ok (.iload_n 1, 1) := by decide +kernel
theorem dX9_fairest_2 : decode cX9_fairest 2 = .ok (.invokevirtual 210, 3) := by decide +kernel
theorem dX9_fairest_5 : decode cX9_fairest 5 = .ok (.ifCond .ne 5, 3) := by decide +kernel
theorem dX9_fairest_8 : decode cX9_fairest 8 = .ok (.iconst (-1), 1) := by decide +kernel
theorem dX9_fairest_9 : decode cX9_fairest 9 = .ok (.ireturn, 1) := by decide +kernel
theorem dX9_fairest_10 : decode cX9_fairest 10 = .ok (.iconst 0, 1) := by decide +kernel
theorem dX9_fairest_11 : decode cX9_fairest 11 = .ok (.istore_n 2, 1) := by decide +kernel
theorem dX9_fairest_12 : decode cX9_fairest 12 = .ok (.ldc_w 343, 3) := by decide +kernel
theorem dX9_fairest_15 : decode cX9_fairest 15 = .ok (.istore_n 3, 1) := by decide +kernel
theorem dX9_fairest_16 : decode cX9_fairest 16 = .ok (.iconst 0, 1) := by decide +kernel
theorem dX9_fairest_17 : decode cX9_fairest 17 = .ok (.istore 4, 2) := by decide +kernel
theorem dX9_fairest_19 : decode cX9_fairest 19 = .ok (.iload 4, 2) := by decide +kernel
theorem dX9_fairest_21 : decode cX9_fairest 21 = .ok (.aload_n 0, 1) := by decide +kernel
theorem dX9_fairest_22 : decode cX9_fairest 22 = .ok (.getfield 21, 3) := by decide +kernel
theorem dX9_fairest_25 : decode cX9_fairest 25 = .ok (.getfield 344, 3) := by decide +kernel
theorem dX9_fairest_28 : decode cX9_fairest 28 = .ok (.if_icmp .ge 43, 3) := by decide +kernel
theorem dX9_fairest_31 : decode cX9_fairest 31 = .ok (.aload_n 0, 1) := by decide +kernel
theorem dX9_fairest_32 : decode cX9_fairest 32 = .ok (.iload_n 1, 1) := by decide +kernel
theorem dX9_fairest_33 : decode cX9_fairest 33 = .ok (.iload 4, 2) := by decide +kernel
theorem dX9_fairest_35 : decode cX9_fairest 35 = .ok (.iconst 0, 1) := by decide +kernel
theorem dX9_fairest_36 : decode cX9_fairest 36 = .ok (.invokevirtual 230, 3) := by decide +kernel
theorem dX9_fairest_39 : decode cX9_fairest 39 = .ok (.aload_n 0, 1) := by decide +kernel
theorem dX9_fairest_40 : decode cX9_fairest 40 = .ok (.iload_n 1, 1) := by decide +kernel
theorem dX9_fairest_41 : decode cX9_fairest 41 = .ok (.iload 4, 2) := by decide +kernel
theorem dX9_fairest_43 : decode cX9_fairest 43 = .ok (.iconst 1, 1) := by decide +kernel
theorem dX9_fairest_44 : decode cX9_fairest 44 = .ok (.invokevirtual 230, 3) := by decide +kernel
theorem dX9_fairest_47 : decode cX9_fairest 47 = .ok (.isub, 1) := by decide +kernel
theorem dX9_fairest_48 : decode cX9_fairest 48 = .ok (.invokestatic 347, 3) := by decide +kernel
theorem dX9_fairest_51 : decode cX9_fairest 51 = .ok (.istore 5, 2) := by decide +kernel
theorem dX9_fairest_53 : decode cX9_fairest 53 = .ok (.iload 5, 2) := by decide +kernel
theorem dX9_fairest_55 : decode cX9_fairest 55 = .ok (.iload_n 3, 1) := by decide +kernel
theorem dX9_fairest_56 : decode cX9_fairest 56 = .ok (.if_icmp .ge 9, 3) := by decide +kernel
theorem dX9_fairest_59 : decode cX9_fairest 59 = .ok (.iload 5, 2) := by decide +kernel
theorem dX9_fairest_61 : decode cX9_fairest 61 = .ok (.istore_n 3, 1) := by decide +kernel
theorem dX9_fairest_62 : decode cX9_fairest 62 = .ok (.iload 4, 2) := by decide +kernel
theorem dX9_fairest_64 : decode cX9_fairest 64 = .ok (.istore_n 2, 1) := by decide +kernel
theorem dX9_fairest_65 : decode cX9_fairest 65 = .ok (.iinc 4 1, 3) := by decide +kernel
theorem dX9_fairest_68 : decode cX9_fairest 68 = .ok (.goto (-49), 3) := by decide +kernel
theorem dX9_fairest_71 : decode cX9_fairest 71 = .ok (.iload_n 2, 1) := by decide +kernel
theorem dX9_fairest_72 : decode cX9_fairest 72 = .ok (.ireturn, 1) := by decide +kernel
theorem dX9_tempt_0 : decode cX9_tempt 0 = .ok (.aload_n 0, 1) := by decide +kernel
theorem dX9_tempt_1 : decode cX9_tempt 1 = .ok (.iload_n 1, 1) := by decide +kernel
theorem dX9_tempt_2 : decode cX9_tempt 2 = .ok (.invokevirtual 210, 3) := by decide +kernel
theorem dX9_tempt_5 : decode cX9_tempt 5 = .ok (.ifCond .eq 19, 3) := by decide +kernel
theorem dX9_tempt_8 : decode cX9_tempt 8 = .ok (.iload_n 2, 1) := by decide +kernel
theorem dX9_tempt_9 : decode cX9_tempt 9 = .ok (.invokestatic 325, 3) := by decide +kernel
theorem dX9_tempt_12 : decode cX9_tempt 12 = .ok (.ifCond .eq 12, 3) := by decide +kernel
theorem dX9_tempt_15 : decode cX9_tempt 15 = .ok (.iload_n 3, 1) := by decide +kernel
theorem dX9_tempt_16 : decode cX9_tempt 16 = .ok (.ifCond .lt 8, 3) := by decide +kernel
theorem dX9_tempt_19 : decode cX9_tempt 19 = .ok (.iload_n 3, 1) := by decide +kernel
theorem dX9_tempt_20 : decode cX9_tempt 20 = .ok (.iconst 1, 1) := by decide +kernel
theorem dX9_tempt_21 : decode cX9_tempt 21 = .ok (.if_icmp .le 7, 3) := by decide +kernel
theorem dX9_tempt_24 : decode cX9_tempt 24 = .ok (.ldc_w 279, 3) := by decide +kernel
theorem dX9_tempt_27 : decode cX9_tempt 27 = .ok (.ireturn, 1) := by decide +kernel
theorem dX9_tempt_28 : decode cX9_tempt 28 = .ok (.aload_n 0, 1) := by decide +kernel
theorem dX9_tempt_29 : decode cX9_tempt 29 = .ok (.getfield 44, 3) := by decide +kernel
theorem dX9_tempt_32 : decode cX9_tempt 32 = .ok (.getfield 159, 3) := by decide +kernel
theorem dX9_tempt_35 : decode cX9_tempt 35 = .ok (.iload_n 1, 1) := by decide +kernel
theorem dX9_tempt_36 : decode cX9_tempt 36 = .ok (.iaload, 1) := by decide +kernel
theorem dX9_tempt_37 : decode cX9_tempt 37 = .ok (.istore 4, 2) := by decide +kernel
theorem dX9_tempt_39 : decode cX9_tempt 39 = .ok (.iload_n 2, 1) := by decide +kernel
theorem dX9_tempt_40 : decode cX9_tempt 40 = .ok (.iconst 2, 1) := by decide +kernel
theorem dX9_tempt_41 : decode cX9_tempt 41 = .ok (.idiv, 1) := by decide +kernel
theorem dX9_tempt_42 : decode cX9_tempt 42 = .ok (.istore 5, 2) := by decide +kernel
theorem dX9_tempt_44 : decode cX9_tempt 44 = .ok (.aload_n 0, 1) := by decide +kernel
theorem dX9_tempt_45 : decode cX9_tempt 45 = .ok (.iload_n 1, 1) := by decide +kernel
theorem dX9_tempt_46 : decode cX9_tempt 46 = .ok (.iload 4, 2) := by decide +kernel
theorem dX9_tempt_48 : decode cX9_tempt 48 = .ok (.iload 5, 2) := by decide +kernel
theorem dX9_tempt_50 : decode cX9_tempt 50 = .ok (.iload_n 3, 1) := by decide +kernel
theorem dX9_tempt_51 : decode cX9_tempt 51 = .ok (.invokevirtual 328, 3) := by decide +kernel
theorem dX9_tempt_54 : decode cX9_tempt 54 = .ok (.aload_n 0, 1) := by decide +kernel
theorem dX9_tempt_55 : decode cX9_tempt 55 = .ok (.iload_n 1, 1) := by decide +kernel
theorem dX9_tempt_56 : decode cX9_tempt 56 = .ok (.iload 4, 2) := by decide +kernel
theorem dX9_tempt_58 : decode cX9_tempt 58 = .ok (.iconst 1, 1) := by decide +kernel
theorem dX9_tempt_59 : decode cX9_tempt 59 = .ok (.iadd, 1) := by decide +kernel
theorem dX9_tempt_60 : decode cX9_tempt 60 = .ok (.iload_n 2, 1) := by decide +kernel
theorem dX9_tempt_61 : decode cX9_tempt 61 = .ok (.iload 5, 2) := by decide +kernel
theorem dX9_tempt_63 : decode cX9_tempt 63 = .ok (.isub, 1) := by decide +kernel
theorem dX9_tempt_64 : decode cX9_tempt 64 = .ok (.iload_n 3, 1) := by decide +kernel
theorem dX9_tempt_65 : decode cX9_tempt 65 = .ok (.invokevirtual 328, 3) := by decide +kernel
theorem dX9_tempt_68 : decode cX9_tempt 68 = .ok (.iadd, 1) := by decide +kernel
theorem dX9_tempt_69 : decode cX9_tempt 69 = .ok (.istore 6, 2) := by decide +kernel
theorem dX9_tempt_71 : decode cX9_tempt 71 = .ok (.iload 6, 2) := by decide +kernel
theorem dX9_tempt_73 : decode cX9_tempt 73 = .ok (.aload_n 0, 1) := by decide +kernel
theorem dX9_tempt_74 : decode cX9_tempt 74 = .ok (.iload_n 1, 1) := by decide +kernel
theorem dX9_tempt_75 : decode cX9_tempt 75 = .ok (.iload 4, 2) := by decide +kernel
theorem dX9_tempt_77 : decode cX9_tempt 77 = .ok (.iload_n 2, 1) := by decide +kernel
theorem dX9_tempt_78 : decode cX9_tempt 78 = .ok (.iload_n 3, 1) := by decide +kernel
theorem dX9_tempt_79 : decode cX9_tempt 79 = .ok (.invokevirtual 328, 3) := by decide +kernel
theorem dX9_tempt_82 : decode cX9_tempt 82 = .ok (.isub, 1) := by decide +kernel
theorem dX9_tempt_83 : decode cX9_tempt 83 = .ok (.ireturn, 1) := by decide +kernel
theorem dX9_ifGate_0 : decode cX9_ifGate 0 = .ok (.aload_n 0, 1) := by decide +kernel
theorem dX9_ifGate_1 : decode cX9_ifGate 1 = .ok (.iload_n 1, 1) := by decide +kernel
theorem dX9_ifGate_2 : decode cX9_ifGate 2 = .ok (.iload_n 2, 1) := by decide +kernel
theorem dX9_ifGate_3 : decode cX9_ifGate 3 = .ok (.invokevirtual 233, 3) := by decide +kernel
theorem dX9_ifGate_6 : decode cX9_ifGate 6 = .ok (.ifCond .eq 10, 3) := by decide +kernel
theorem dX9_ifGate_9 : decode cX9_ifGate 9 = .ok (.iload_n 3, 1) := by decide +kernel
theorem dX9_ifGate_10 : decode cX9_ifGate 10 = .ok (.invokestatic 325, 3) := by decide +kernel
theorem dX9_ifGate_13 : decode cX9_ifGate 13 = .ok (.ifCond .ne 5, 3) := by decide +kernel
theorem dX9_ifGate_16 : decode cX9_ifGate 16 = .ok (.iconst (-1), 1) := by decide +kernel
theorem dX9_ifGate_17 : decode cX9_ifGate 17 = .ok (.ireturn, 1) := by decide +kernel
theorem dX9_ifGate_18 : decode cX9_ifGate 18 = .ok (.iload_n 1, 1) := by decide +kernel
theorem dX9_ifGate_19 : decode cX9_ifGate 19 = .ok (.iconst 4, 1) := by decide +kernel
theorem dX9_ifGate_20 : decode cX9_ifGate 20 = .ok (.imul, 1) := by decide +kernel
theorem dX9_ifGate_21 : decode cX9_ifGate 21 = .ok (.iload_n 2, 1) := by decide +kernel
theorem dX9_ifGate_22 : decode cX9_ifGate 22 = .ok (.iadd, 1) := by decide +kernel
theorem dX9_ifGate_23 : decode cX9_ifGate 23 = .ok (.istore 4, 2) := by decide +kernel
theorem dX9_ifGate_25 : decode cX9_ifGate 25 = .ok (.aload_n 0, 1) := by decide +kernel
theorem dX9_ifGate_26 : decode cX9_ifGate 26 = .ok (.getfield 44, 3) := by decide +kernel
theorem dX9_ifGate_29 : decode cX9_ifGate 29 = .ok (.getfield 237, 3) := by decide +kernel
theorem dX9_ifGate_32 : decode cX9_ifGate 32 = .ok (.iload 4, 2) := by decide +kernel
theorem dX9_ifGate_34 : decode cX9_ifGate 34 = .ok (.iaload, 1) := by decide +kernel
theorem dX9_ifGate_35 : decode cX9_ifGate 35 = .ok (.istore 5, 2) := by decide +kernel
theorem dX9_ifGate_37 : decode cX9_ifGate 37 = .ok (.aload_n 0, 1) := by decide +kernel
theorem dX9_ifGate_38 : decode cX9_ifGate 38 = .ok (.getfield 44, 3) := by decide +kernel
theorem dX9_ifGate_41 : decode cX9_ifGate 41 = .ok (.getfield 237, 3) := by decide +kernel
theorem dX9_ifGate_44 : decode cX9_ifGate 44 = .ok (.iload 4, 2) := by decide +kernel
theorem dX9_ifGate_46 : decode cX9_ifGate 46 = .ok (.iload_n 3, 1) := by decide +kernel
theorem dX9_ifGate_47 : decode cX9_ifGate 47 = .ok (.iastore, 1) := by decide +kernel
theorem dX9_ifGate_48 : decode cX9_ifGate 48 = .ok (.aload_n 0, 1) := by decide +kernel
theorem dX9_ifGate_49 : decode cX9_ifGate 49 = .ok (.getfield 73, 3) := by decide +kernel
theorem dX9_ifGate_52 : decode cX9_ifGate 52 = .ok (.aload_n 0, 1) := by decide +kernel
theorem dX9_ifGate_53 : decode cX9_ifGate 53 = .ok (.getfield 21, 3) := by decide +kernel
theorem dX9_ifGate_56 : decode cX9_ifGate 56 = .ok (.aload_n 0, 1) := by decide +kernel
theorem dX9_ifGate_57 : decode cX9_ifGate 57 = .ok (.getfield 44, 3) := by decide +kernel
theorem dX9_ifGate_60 : decode cX9_ifGate 60 = .ok (.aload_n 0, 1) := by decide +kernel
theorem dX9_ifGate_61 : decode cX9_ifGate 61 = .ok (.getfield 66, 3) := by decide +kernel
theorem dX9_ifGate_64 : decode cX9_ifGate 64 = .ok (.invokevirtual 352, 3) := by decide +kernel
theorem dX9_ifGate_67 : decode cX9_ifGate 67 = .ok (.aload_n 0, 1) := by decide +kernel
theorem dX9_ifGate_68 : decode cX9_ifGate 68 = .ok (.getfield 73, 3) := by decide +kernel
theorem dX9_ifGate_71 : decode cX9_ifGate 71 = .ok (.aload_n 0, 1) := by decide +kernel
theorem dX9_ifGate_72 : decode cX9_ifGate 72 = .ok (.getfield 21, 3) := by decide +kernel
theorem dX9_ifGate_75 : decode cX9_ifGate 75 = .ok (.getfield 276, 3) := by decide +kernel
theorem dX9_ifGate_78 : decode cX9_ifGate 78 = .ok (.invokevirtual 356, 3) := by decide +kernel
theorem dX9_ifGate_81 : decode cX9_ifGate 81 = .ok (.istore 6, 2) := by decide +kernel
theorem dX9_ifGate_83 : decode cX9_ifGate 83 = .ok (.aload_n 0, 1) := by decide +kernel
theorem dX9_ifGate_84 : decode cX9_ifGate 84 = .ok (.getfield 44, 3) := by decide +kernel
theorem dX9_ifGate_87 : decode cX9_ifGate 87 = .ok (.getfield 237, 3) := by decide +kernel
theorem dX9_ifGate_90 : decode cX9_ifGate 90 = .ok (.iload 4, 2) := by decide +kernel
theorem dX9_ifGate_92 : decode cX9_ifGate 92 = .ok (.iload 5, 2) := by decide +kernel
theorem dX9_ifGate_94 : decode cX9_ifGate 94 = .ok (.iastore, 1) := by decide +kernel
theorem dX9_ifGate_95 : decode cX9_ifGate 95 = .ok (.aload_n 0, 1) := by decide +kernel
theorem dX9_ifGate_96 : decode cX9_ifGate 96 = .ok (.getfield 73, 3) := by decide +kernel
theorem dX9_ifGate_99 : decode cX9_ifGate 99 = .ok (.iconst 0, 1) := by decide +kernel
theorem dX9_ifGate_100 : decode cX9_ifGate 100 = .ok (.putfield 107, 3) := by decide +kernel
theorem dX9_ifGate_103 : decode cX9_ifGate 103 = .ok (.iload 6, 2) := by decide +kernel
theorem dX9_ifGate_105 : decode cX9_ifGate 105 = .ok (.ireturn, 1) := by decide +kernel
theorem dX9_count_0 : decode cX9_count 0 = .ok (.iload_n 1, 1) := by decide +kernel
theorem dX9_count_1 : decode cX9_count 1 = .ok (.tableswitch 114 0 7 #[47, 55, 63, 71, 79, 87, 98, 106], 47) := by decide +kernel
theorem dX9_count_48 : decode cX9_count 48 = .ok (.aload_n 0, 1) := by decide +kernel
theorem dX9_count_49 : decode cX9_count 49 = .ok (.getfield 21, 3) := by decide +kernel
theorem dX9_count_52 : decode cX9_count 52 = .ok (.getfield 276, 3) := by decide +kernel
theorem dX9_count_55 : decode cX9_count 55 = .ok (.ireturn, 1) := by decide +kernel
theorem dX9_count_56 : decode cX9_count 56 = .ok (.aload_n 0, 1) := by decide +kernel
theorem dX9_count_57 : decode cX9_count 57 = .ok (.getfield 21, 3) := by decide +kernel
theorem dX9_count_60 : decode cX9_count 60 = .ok (.getfield 344, 3) := by decide +kernel
theorem dX9_count_63 : decode cX9_count 63 = .ok (.ireturn, 1) := by decide +kernel
theorem dX9_count_64 : decode cX9_count 64 = .ok (.aload_n 0, 1) := by decide +kernel
theorem dX9_count_65 : decode cX9_count 65 = .ok (.getfield 44, 3) := by decide +kernel
theorem dX9_count_68 : decode cX9_count 68 = .ok (.getfield 148, 3) := by decide +kernel
theorem dX9_count_71 : decode cX9_count 71 = .ok (.ireturn, 1) := by decide +kernel
theorem dX9_count_72 : decode cX9_count 72 = .ok (.aload_n 0, 1) := by decide +kernel
theorem dX9_count_73 : decode cX9_count 73 = .ok (.getfield 44, 3) := by decide +kernel
theorem dX9_count_76 : decode cX9_count 76 = .ok (.invokevirtual 359, 3) := by decide +kernel
theorem dX9_count_79 : decode cX9_count 79 = .ok (.ireturn, 1) := by decide +kernel
theorem dX9_count_80 : decode cX9_count 80 = .ok (.aload_n 0, 1) := by decide +kernel
theorem dX9_count_81 : decode cX9_count 81 = .ok (.getfield 44, 3) := by decide +kernel
theorem dX9_count_84 : decode cX9_count 84 = .ok (.invokevirtual 362, 3) := by decide +kernel
theorem dX9_count_87 : decode cX9_count 87 = .ok (.ireturn, 1) := by decide +kernel
theorem dX9_count_88 : decode cX9_count 88 = .ok (.aload_n 0, 1) := by decide +kernel
theorem dX9_count_89 : decode cX9_count 89 = .ok (.getfield 44, 3) := by decide +kernel
theorem dX9_count_92 : decode cX9_count 92 = .ok (.getfield 365, 3) := by decide +kernel
theorem dX9_count_95 : decode cX9_count 95 = .ok (.invokestatic 368, 3) := by decide +kernel
theorem dX9_count_98 : decode cX9_count 98 = .ok (.ireturn, 1) := by decide +kernel
theorem dX9_count_99 : decode cX9_count 99 = .ok (.aload_n 0, 1) := by decide +kernel
