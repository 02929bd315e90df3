theorem dX0_init_0 : decode cX0_init 0 = .ok (.aload_n 0, 1) := by decide +kernel
theorem dX0_init_1 : decode cX0_init 1 = .ok (.invokespecial 1, 3) := by decide +kernel
theorem dX0_init_4 : decode cX0_init 4 = .ok (.iconst 1, 1) := by decide +kernel
theorem dX0_init_5 : decode cX0_init 5 = .ok (.iconst 4, 1) := by decide +kernel
theorem dX0_init_6 : decode cX0_init 6 = .ok (.iload_n 1, 1) := by decide +kernel
theorem dX0_init_7 : decode cX0_init 7 = .ok (.invokestatic 9, 3) := by decide +kernel
theorem dX0_init_10 : decode cX0_init 10 = .ok (.invokestatic 15, 3) := by decide +kernel
theorem dX0_init_13 : decode cX0_init 13 = .ok (.istore_n 2, 1) := by decide +kernel
theorem dX0_init_14 : decode cX0_init 14 = .ok (.aload_n 0, 1) := by decide +kernel
theorem dX0_init_15 : decode cX0_init 15 = .ok (.bipush 15, 2) := by decide +kernel
theorem dX0_init_17 : decode cX0_init 17 = .ok (.newarray .int, 2) := by decide +kernel
theorem dX0_init_19 : decode cX0_init 19 = .ok (.putfield 18, 3) := by decide +kernel
theorem dX0_init_22 : decode cX0_init 22 = .ok (.aload_n 0, 1) := by decide +kernel
theorem dX0_init_23 : decode cX0_init 23 = .ok (.bipush 15, 2) := by decide +kernel
theorem dX0_init_25 : decode cX0_init 25 = .ok (.newarray .int, 2) := by decide +kernel
theorem dX0_init_27 : decode cX0_init 27 = .ok (.putfield 22, 3) := by decide +kernel
theorem dX0_init_30 : decode cX0_init 30 = .ok (.aload_n 0, 1) := by decide +kernel
theorem dX0_init_31 : decode cX0_init 31 = .ok (.bipush 15, 2) := by decide +kernel
theorem dX0_init_33 : decode cX0_init 33 = .ok (.newarray .int, 2) := by decide +kernel
theorem dX0_init_35 : decode cX0_init 35 = .ok (.putfield 25, 3) := by decide +kernel
theorem dX0_init_38 : decode cX0_init 38 = .ok (.aload_n 0, 1) := by decide +kernel
theorem dX0_init_39 : decode cX0_init 39 = .ok (.bipush 15, 2) := by decide +kernel
theorem dX0_init_41 : decode cX0_init 41 = .ok (.newarray .boolean, 2) := by decide +kernel
theorem dX0_init_43 : decode cX0_init 43 = .ok (.putfield 28, 3) := by decide +kernel
theorem dX0_init_46 : decode cX0_init 46 = .ok (.aload_n 0, 1) := by decide +kernel
theorem dX0_init_47 : decode cX0_init 47 = .ok (.bipush 15, 2) := by decide +kernel
theorem dX0_init_49 : decode cX0_init 49 = .ok (.newarray .int, 2) := by decide +kernel
theorem dX0_init_51 : decode cX0_init 51 = .ok (.putfield 32, 3) := by decide +kernel
theorem dX0_init_54 : decode cX0_init 54 = .ok (.aload_n 0, 1) := by decide +kernel
theorem dX0_init_55 : decode cX0_init 55 = .ok (.bipush 15, 2) := by decide +kernel
theorem dX0_init_57 : decode cX0_init 57 = .ok (.newarray .int, 2) := by decide +kernel
theorem dX0_init_59 : decode cX0_init 59 = .ok (.putfield 35, 3) := by decide +kernel
theorem dX0_init_62 : decode cX0_init 62 = .ok (.aload_n 0, 1) := by decide +kernel
theorem dX0_init_63 : decode cX0_init 63 = .ok (.bipush 15, 2) := by decide +kernel
theorem dX0_init_65 : decode cX0_init 65 = .ok (.newarray .int, 2) := by decide +kernel
theorem dX0_init_67 : decode cX0_init 67 = .ok (.putfield 38, 3) := by decide +kernel
theorem dX0_init_70 : decode cX0_init 70 = .ok (.aload_n 0, 1) := by decide +kernel
theorem dX0_init_71 : decode cX0_init 71 = .ok (.bipush 15, 2) := by decide +kernel
theorem dX0_init_73 : decode cX0_init 73 = .ok (.newarray .int, 2) := by decide +kernel
theorem dX0_init_75 : decode cX0_init 75 = .ok (.putfield 41, 3) := by decide +kernel
theorem dX0_init_78 : decode cX0_init 78 = .ok (.aload_n 0, 1) := by decide +kernel
theorem dX0_init_79 : decode cX0_init 79 = .ok (.iload_n 2, 1) := by decide +kernel
theorem dX0_init_80 : decode cX0_init 80 = .ok (.newarray .int, 2) := by decide +kernel
theorem dX0_init_82 : decode cX0_init 82 = .ok (.putfield 44, 3) := by decide +kernel
theorem dX0_init_85 : decode cX0_init 85 = .ok (.iconst 0, 1) := by decide +kernel
theorem dX0_init_86 : decode cX0_init 86 = .ok (.istore_n 3, 1) := by decide +kernel
theorem dX0_init_87 : decode cX0_init 87 = .ok (.iload_n 3, 1) := by decide +kernel
theorem dX0_init_88 : decode cX0_init 88 = .ok (.iload_n 2, 1) := by decide +kernel
theorem dX0_init_89 : decode cX0_init 89 = .ok (.if_icmp .ge 16, 3) := by decide +kernel
theorem dX0_init_92 : decode cX0_init 92 = .ok (.aload_n 0, 1) := by decide +kernel
theorem dX0_init_93 : decode cX0_init 93 = .ok (.getfield 44, 3) := by decide +kernel
theorem dX0_init_96 : decode cX0_init 96 = .ok (.iload_n 3, 1) := by decide +kernel
theorem dX0_init_97 : decode cX0_init 97 = .ok (.iconst (-1), 1) := by decide +kernel
theorem dX0_init_98 : decode cX0_init 98 = .ok (.iastore, 1) := by decide +kernel
theorem dX0_init_99 : decode cX0_init 99 = .ok (.iinc 3 1, 3) := by decide +kernel
theorem dX0_init_102 : decode cX0_init 102 = .ok (.goto (-15), 3) := by decide +kernel
theorem dX0_init_105 : decode cX0_init 105 = .ok (.aload_n 0, 1) := by decide +kernel
theorem dX0_init_106 : decode cX0_init 106 = .ok (.bipush 14, 2) := by decide +kernel
theorem dX0_init_108 : decode cX0_init 108 = .ok (.putfield 47, 3) := by decide +kernel
theorem dX0_init_111 : decode cX0_init 111 = .ok (.aload_n 0, 1) := by decide +kernel
theorem dX0_init_112 : decode cX0_init 112 = .ok (.iconst 0, 1) := by decide +kernel
theorem dX0_init_113 : decode cX0_init 113 = .ok (.putfield 51, 3) := by decide +kernel
theorem dX0_init_116 : decode cX0_init 116 = .ok (.aload_n 0, 1) := by decide +kernel
theorem dX0_init_117 : decode cX0_init 117 = .ok (.iconst 0, 1) := by decide +kernel
theorem dX0_init_118 : decode cX0_init 118 = .ok (.putfield 54, 3) := by decide +kernel
theorem dX0_init_121 : decode cX0_init 121 = .ok (.aload_n 0, 1) := by decide +kernel
theorem dX0_init_122 : decode cX0_init 122 = .ok (.iconst 0, 1) := by decide +kernel
theorem dX0_init_123 : decode cX0_init 123 = .ok (.putfield 57, 3) := by decide +kernel
theorem dX0_init_126 : decode cX0_init 126 = .ok (.return_, 1) := by decide +kernel
theorem dX0_first_0 : decode cX0_first 0 = .ok (.aload_n 0, 1) := by decide +kernel
theorem dX0_first_1 : decode cX0_first 1 = .ok (.invokevirtual 60, 3) := by decide +kernel
theorem dX0_first_4 : decode cX0_first 4 = .ok (.ifCond .ne 5, 3) := by decide +kernel
theorem dX0_first_7 : decode cX0_first 7 = .ok (.iconst 0, 1) := by decide +kernel
theorem dX0_first_8 : decode cX0_first 8 = .ok (.ireturn, 1) := by decide +kernel
theorem dX0_first_9 : decode cX0_first 9 = .ok (.aload_n 0, 1) := by decide +kernel
theorem dX0_first_10 : decode cX0_first 10 = .ok (.iconst 0, 1) := by decide +kernel
theorem dX0_first_11 : decode cX0_first 11 = .ok (.putfield 54, 3) := by decide +kernel
theorem dX0_first_14 : decode cX0_first 14 = .ok (.aload_n 0, 1) := by decide +kernel
theorem dX0_first_15 : decode cX0_first 15 = .ok (.bipush 14, 2) := by decide +kernel
theorem dX0_first_17 : decode cX0_first 17 = .ok (.putfield 47, 3) := by decide +kernel
theorem dX0_first_20 : decode cX0_first 20 = .ok (.aload_n 0, 1) := by decide +kernel
theorem dX0_first_21 : decode cX0_first 21 = .ok (.iconst 1, 1) := by decide +kernel
theorem dX0_first_22 : decode cX0_first 22 = .ok (.putfield 51, 3) := by decide +kernel
theorem dX0_first_25 : decode cX0_first 25 = .ok (.aload_n 0, 1) := by decide +kernel
theorem dX0_first_26 : decode cX0_first 26 = .ok (.iconst 0, 1) := by decide +kernel
theorem dX0_first_27 : decode cX0_first 27 = .ok (.iconst 1, 1) := by decide +kernel
theorem dX0_first_28 : decode cX0_first 28 = .ok (.iconst 0, 1) := by decide +kernel
theorem dX0_first_29 : decode cX0_first 29 = .ok (.invokevirtual 64, 3) := by decide +kernel
theorem dX0_first_32 : decode cX0_first 32 = .ok (.iconst 1, 1) := by decide +kernel
theorem dX0_first_33 : decode cX0_first 33 = .ok (.ireturn, 1) := by decide +kernel
theorem dX0_pick_0 : decode cX0_pick 0 = .ok (.aload_n 0, 1) := by decide +kernel
theorem dX0_pick_1 : decode cX0_pick 1 = .ok (.iload_n 1, 1) := by decide +kernel
theorem dX0_pick_2 : decode cX0_pick 2 = .ok (.invokevirtual 68, 3) := by decide +kernel
theorem dX0_pick_5 : decode cX0_pick 5 = .ok (.ifCond .ne 5, 3) := by decide +kernel
theorem dX0_pick_8 : decode cX0_pick 8 = .ok (.iconst (-1), 1) := by decide +kernel
theorem dX0_pick_9 : decode cX0_pick 9 = .ok (.ireturn, 1) := by decide +kernel
theorem dX0_pick_10 : decode cX0_pick 10 = .ok (.aload_n 0, 1) := by decide +kernel
theorem dX0_pick_11 : decode cX0_pick 11 = .ok (.getfield 44, 3) := by decide +kernel
theorem dX0_pick_14 : decode cX0_pick 14 = .ok (.iload_n 1, 1) := by decide +kernel
theorem dX0_pick_15 : decode cX0_pick 15 = .ok (.iaload, 1) := by decide +kernel
theorem dX0_pick_16 : decode cX0_pick 16 = .ok (.iconst (-1), 1) := by decide +kernel
theorem dX0_pick_17 : decode cX0_pick 17 = .ok (.if_icmp .eq 10, 3) := by decide +kernel
theorem dX0_pick_20 : decode cX0_pick 20 = .ok (.aload_n 0, 1) := by decide +kernel
theorem dX0_pick_21 : decode cX0_pick 21 = .ok (.getfield 44, 3) := by decide +kernel
theorem dX0_pick_24 : decode cX0_pick 24 = .ok (.iload_n 1, 1) := by decide +kernel
theorem dX0_pick_25 : decode cX0_pick 25 = .ok (.iaload, 1) := by decide +kernel
theorem dX0_pick_26 : decode cX0_pick 26 = .ok (.ireturn, 1) := by decide +kernel
theorem dX0_pick_27 : decode cX0_pick 27 = .ok (.aload_n 0, 1) := by decide +kernel
theorem dX0_pick_28 : decode cX0_pick 28 = .ok (.invokevirtual 72, 3) := by decide +kernel
theorem dX0_pick_31 : decode cX0_pick 31 = .ok (.istore_n 2, 1) := by decide +kernel
theorem dX0_pick_32 : decode cX0_pick 32 = .ok (.iload_n 2, 1) := by decide +kernel
theorem dX0_pick_33 : decode cX0_pick 33 = .ok (.iconst (-1), 1) := by decide +kernel
theorem dX0_pick_34 : decode cX0_pick 34 = .ok (.if_icmp .ne 5, 3) := by decide +kernel
theorem dX0_pick_37 : decode cX0_pick 37 = .ok (.iconst (-1), 1) := by decide +kernel
theorem dX0_pick_38 : decode cX0_pick 38 = .ok (.ireturn, 1) := by decide +kernel
theorem dX0_pick_39 : decode cX0_pick 39 = .ok (.aload_n 0, 1) := by decide +kernel
theorem dX0_pick_40 : decode cX0_pick 40 = .ok (.getfield 22, 3) := by decide +kernel
theorem dX0_pick_43 : decode cX0_pick 43 = .ok (.iload_n 2, 1) := by decide +kernel
theorem dX0_pick_44 : decode cX0_pick 44 = .ok (.iconst 2, 1) := by decide +kernel
theorem dX0_pick_45 : decode cX0_pick 45 = .ok (.iastore, 1) := by decide +kernel
theorem dX0_pick_46 : decode cX0_pick 46 = .ok (.aload_n 0, 1) := by decide +kernel
theorem dX0_pick_47 : decode cX0_pick 47 = .ok (.getfield 44, 3) := by decide +kernel
theorem dX0_pick_50 : decode cX0_pick 50 = .ok (.iload_n 1, 1) := by decide +kernel
theorem dX0_pick_51 : decode cX0_pick 51 = .ok (.iload_n 2, 1) := by decide +kernel
theorem dX0_pick_52 : decode cX0_pick 52 = .ok (.iastore, 1) := by decide +kernel
theorem dX0_pick_53 : decode cX0_pick 53 = .ok (.aload_n 0, 1) := by decide +kernel
theorem dX0_pick_54 : decode cX0_pick 54 = .ok (.iload_n 2, 1) := by decide +kernel
theorem dX0_pick_55 : decode cX0_pick 55 = .ok (.putfield 47, 3) := by decide +kernel
theorem dX0_pick_58 : decode cX0_pick 58 = .ok (.iload_n 2, 1) := by decide +kernel
theorem dX0_pick_59 : decode cX0_pick 59 = .ok (.ireturn, 1) := by decide +kernel
theorem dX0_fork_0 : decode cX0_fork 0 = .ok (.aload_n 0, 1) := by decide +kernel
theorem dX0_fork_1 : decode cX0_fork 1 = .ok (.iload_n 1, 1) := by decide +kernel
theorem dX0_fork_2 : decode cX0_fork 2 = .ok (.invokevirtual 76, 3) := by decide +kernel
theorem dX0_fork_5 : decode cX0_fork 5 = .ok (.istore_n 2, 1) := by decide +kernel
theorem dX0_fork_6 : decode cX0_fork 6 = .ok (.iload_n 2, 1) := by decide +kernel
theorem dX0_fork_7 : decode cX0_fork 7 = .ok (.iconst (-1), 1) := by decide +kernel
theorem dX0_fork_8 : decode cX0_fork 8 = .ok (.if_icmp .ne 5, 3) := by decide +kernel
theorem dX0_fork_11 : decode cX0_fork 11 = .ok (.iconst (-1), 1) := by decide +kernel
theorem dX0_fork_12 : decode cX0_fork 12 = .ok (.ireturn, 1) := by decide +kernel
theorem dX0_fork_13 : decode cX0_fork 13 = .ok (.aload_n 0, 1) := by decide +kernel
theorem dX0_fork_14 : decode cX0_fork 14 = .ok (.invokevirtual 80, 3) := by decide +kernel
theorem dX0_fork_17 : decode cX0_fork 17 = .ok (.istore_n 3, 1) := by decide +kernel
theorem dX0_fork_18 : decode cX0_fork 18 = .ok (.iload_n 3, 1) := by decide +kernel
theorem dX0_fork_19 : decode cX0_fork 19 = .ok (.iconst (-1), 1) := by decide +kernel
theorem dX0_fork_20 : decode cX0_fork 20 = .ok (.if_icmp .ne 5, 3) := by decide +kernel
theorem dX0_fork_23 : decode cX0_fork 23 = .ok (.iconst (-1), 1) := by decide +kernel
theorem dX0_fork_24 : decode cX0_fork 24 = .ok (.ireturn, 1) := by decide +kernel
theorem dX0_fork_25 : decode cX0_fork 25 = .ok (.aload_n 0, 1) := by decide +kernel
theorem dX0_fork_26 : decode cX0_fork 26 = .ok (.dup, 1) := by decide +kernel
theorem dX0_fork_27 : decode cX0_fork 27 = .ok (.getfield 51, 3) := by decide +kernel
theorem dX0_fork_30 : decode cX0_fork 30 = .ok (.iconst 1, 1) := by decide +kernel
theorem dX0_fork_31 : decode cX0_fork 31 = .ok (.iadd, 1) := by decide +kernel
theorem dX0_fork_32 : decode cX0_fork 32 = .ok (.putfield 51, 3) := by decide +kernel
theorem dX0_fork_35 : decode cX0_fork 35 = .ok (.aload_n 0, 1) := by decide +kernel
theorem dX0_fork_36 : decode cX0_fork 36 = .ok (.iload_n 3, 1) := by decide +kernel
theorem dX0_fork_37 : decode cX0_fork 37 = .ok (.aload_n 0, 1) := by decide +kernel
theorem dX0_fork_38 : decode cX0_fork 38 = .ok (.getfield 51, 3) := by decide +kernel
theorem dX0_fork_41 : decode cX0_fork 41 = .ok (.aload_n 0, 1) := by decide +kernel
theorem dX0_fork_42 : decode cX0_fork 42 = .ok (.getfield 18, 3) := by decide +kernel
theorem dX0_fork_45 : decode cX0_fork 45 = .ok (.iload_n 2, 1) := by decide +kernel
theorem dX0_fork_46 : decode cX0_fork 46 = .ok (.iaload, 1) := by decide +kernel
theorem dX0_fork_47 : decode cX0_fork 47 = .ok (.invokevirtual 64, 3) := by decide +kernel
theorem dX0_fork_50 : decode cX0_fork 50 = .ok (.iload_n 3, 1) := by decide +kernel
theorem dX0_fork_51 : decode cX0_fork 51 = .ok (.ireturn, 1) := by decide +kernel
theorem dX0_exit_0 : decode cX0_exit 0 = .ok (.aload_n 0, 1) := by decide +kernel
theorem dX0_exit_1 : decode cX0_exit 1 = .ok (.iload_n 1, 1) := by decide +kernel
theorem dX0_exit_2 : decode cX0_exit 2 = .ok (.invokevirtual 76, 3) := by decide +kernel
theorem dX0_exit_5 : decode cX0_exit 5 = .ok (.istore_n 3, 1) := by decide +kernel
theorem dX0_exit_6 : decode cX0_exit 6 = .ok (.iload_n 3, 1) := by decide +kernel
theorem dX0_exit_7 : decode cX0_exit 7 = .ok (.iconst (-1), 1) := by decide +kernel
theorem dX0_exit_8 : decode cX0_exit 8 = .ok (.if_icmp .ne 5, 3) := by decide +kernel
theorem dX0_exit_11 : decode cX0_exit 11 = .ok (.iconst (-1), 1) := by decide +kernel
theorem dX0_exit_12 : decode cX0_exit 12 = .ok (.ireturn, 1) := by decide +kernel
theorem dX0_exit_13 : decode cX0_exit 13 = .ok (.iload_n 3, 1) := by decide +kernel
theorem dX0_exit_14 : decode cX0_exit 14 = .ok (.ifCond .ne 14, 3) := by decide +kernel
theorem dX0_exit_17 : decode cX0_exit 17 = .ok (.aload_n 0, 1) := by decide +kernel
theorem dX0_exit_18 : decode cX0_exit 18 = .ok (.iload_n 2, 1) := by decide +kernel
theorem dX0_exit_19 : decode cX0_exit 19 = .ok (.putfield 57, 3) := by decide +kernel
theorem dX0_exit_22 : decode cX0_exit 22 = .ok (.aload_n 0, 1) := by decide +kernel
theorem dX0_exit_23 : decode cX0_exit 23 = .ok (.invokevirtual 83, 3) := by decide +kernel
theorem dX0_exit_26 : decode cX0_exit 26 = .ok (.iload_n 3, 1) := by decide +kernel
theorem dX0_exit_27 : decode cX0_exit 27 = .ok (.ireturn, 1) := by decide +kernel
theorem dX0_exit_28 : decode cX0_exit 28 = .ok (.aload_n 0, 1) := by decide +kernel
theorem dX0_exit_29 : decode cX0_exit 29 = .ok (.iload_n 1, 1) := by decide +kernel
theorem dX0_exit_30 : decode cX0_exit 30 = .ok (.iload_n 3, 1) := by decide +kernel
theorem dX0_exit_31 : decode cX0_exit 31 = .ok (.iconst 4, 1) := by decide +kernel
theorem dX0_exit_32 : decode cX0_exit 32 = .ok (.invokevirtual 86, 3) := by decide +kernel
theorem dX0_exit_35 : decode cX0_exit 35 = .ok (.aload_n 0, 1) := by decide +kernel
theorem dX0_exit_36 : decode cX0_exit 36 = .ok (.getfield 32, 3) := by decide +kernel
theorem dX0_exit_39 : decode cX0_exit 39 = .ok (.iload_n 3, 1) := by decide +kernel
theorem dX0_exit_40 : decode cX0_exit 40 = .ok (.iload_n 2, 1) := by decide +kernel
theorem dX0_exit_41 : decode cX0_exit 41 = .ok (.iastore, 1) := by decide +kernel
theorem dX0_exit_42 : decode cX0_exit 42 = .ok (.aload_n 0, 1) := by decide +kernel
theorem dX0_exit_43 : decode cX0_exit 43 = .ok (.aload_n 0, 1) := by decide +kernel
theorem dX0_exit_44 : decode cX0_exit 44 = .ok (.getfield 18, 3) := by decide +kernel
theorem dX0_exit_47 : decode cX0_exit 47 = .ok (.iload_n 3, 1) := by decide +kernel
theorem dX0_exit_48 : decode cX0_exit 48 = .ok (.iaload, 1) := by decide +kernel
theorem dX0_exit_49 : decode cX0_exit 49 = .ok (.invokevirtual 89, 3) := by decide +kernel
theorem dX0_exit_52 : decode cX0_exit 52 = .ok (.aload_n 0, 1) := by decide +kernel
theorem dX0_exit_53 : decode cX0_exit 53 = .ok (.aload_n 0, 1) := by decide +kernel
theorem dX0_exit_54 : decode cX0_exit 54 = .ok (.getfield 25, 3) := by decide +kernel
theorem dX0_exit_57 : decode cX0_exit 57 = .ok (.iload_n 3, 1) := by decide +kernel
theorem dX0_exit_58 : decode cX0_exit 58 = .ok (.iaload, 1) := by decide +kernel
theorem dX0_exit_59 : decode cX0_exit 59 = .ok (.invokevirtual 93, 3) := by decide +kernel
theorem dX0_exit_62 : decode cX0_exit 62 = .ok (.iload_n 3, 1) := by decide +kernel
theorem dX0_exit_63 : decode cX0_exit 63 = .ok (.ireturn, 1) := by decide +kernel
theorem dX0_await_0 : decode cX0_await 0 = .ok (.aload_n 0, 1) := by decide +kernel
theorem dX0_await_1 : decode cX0_await 1 = .ok (.iload_n 1, 1) := by decide +kernel
theorem dX0_await_2 : decode cX0_await 2 = .ok (.invokevirtual 76, 3) := by decide +kernel
theorem dX0_await_5 : decode cX0_await 5 = .ok (.istore_n 2, 1) := by decide +kernel
theorem dX0_await_6 : decode cX0_await 6 = .ok (.iload_n 2, 1) := by decide +kernel
theorem dX0_await_7 : decode cX0_await 7 = .ok (.iconst (-1), 1) := by decide +kernel
theorem dX0_await_8 : decode cX0_await 8 = .ok (.if_icmp .eq 16, 3) := by decide +kernel
theorem dX0_await_11 : decode cX0_await 11 = .ok (.aload_n 0, 1) := by decide +kernel
theorem dX0_await_12 : decode cX0_await 12 = .ok (.aload_n 0, 1) := by decide +kernel
theorem dX0_await_13 : decode cX0_await 13 = .ok (.getfield 18, 3) := by decide +kernel
theorem dX0_await_16 : decode cX0_await 16 = .ok (.iload_n 2, 1) := by decide +kernel
theorem dX0_await_17 : decode cX0_await 17 = .ok (.iaload, 1) := by decide +kernel
theorem dX0_await_18 : decode cX0_await 18 = .ok (.invokevirtual 96, 3) := by decide +kernel
theorem dX0_await_21 : decode cX0_await 21 = .ok (.ifCond .ne 5, 3) := by decide +kernel
theorem dX0_await_24 : decode cX0_await 24 = .ok (.iconst (-1), 1) := by decide +kernel
theorem dX0_await_25 : decode cX0_await 25 = .ok (.ireturn, 1) := by decide +kernel
theorem dX0_await_26 : decode cX0_await 26 = .ok (.aload_n 0, 1) := by decide +kernel
theorem dX0_await_27 : decode cX0_await 27 = .ok (.aload_n 0, 1) := by decide +kernel
theorem dX0_await_28 : decode cX0_await 28 = .ok (.getfield 18, 3) := by decide +kernel
theorem dX0_await_31 : decode cX0_await 31 = .ok (.iload_n 2, 1) := by decide +kernel
theorem dX0_await_32 : decode cX0_await 32 = .ok (.iaload, 1) := by decide +kernel
theorem dX0_await_33 : decode cX0_await 33 = .ok (.invokevirtual 99, 3) := by decide +kernel
theorem dX0_await_36 : decode cX0_await 36 = .ok (.istore_n 3, 1) := by decide +kernel
theorem dX0_await_37 : decode cX0_await 37 = .ok (.iload_n 3, 1) := by decide +kernel
theorem dX0_await_38 : decode cX0_await 38 = .ok (.iconst (-1), 1) := by decide +kernel
theorem dX0_await_39 : decode cX0_await 39 = .ok (.if_icmp .ne 19, 3) := by decide +kernel
theorem dX0_await_42 : decode cX0_await 42 = .ok (.aload_n 0, 1) := by decide +kernel
theorem dX0_await_43 : decode cX0_await 43 = .ok (.iload_n 1, 1) := by decide +kernel
theorem dX0_await_44 : decode cX0_await 44 = .ok (.iload_n 2, 1) := by decide +kernel
theorem dX0_await_45 : decode cX0_await 45 = .ok (.iconst 3, 1) := by decide +kernel
theorem dX0_await_46 : decode cX0_await 46 = .ok (.invokevirtual 86, 3) := by decide +kernel
theorem dX0_await_49 : decode cX0_await 49 = .ok (.aload_n 0, 1) := by decide +kernel
theorem dX0_await_50 : decode cX0_await 50 = .ok (.getfield 35, 3) := by decide +kernel
theorem dX0_await_53 : decode cX0_await 53 = .ok (.iload_n 2, 1) := by decide +kernel
theorem dX0_await_54 : decode cX0_await 54 = .ok (.iconst 2, 1) := by decide +kernel
theorem dX0_await_55 : decode cX0_await 55 = .ok (.iastore, 1) := by decide +kernel
theorem dX0_await_56 : decode cX0_await 56 = .ok (.iconst 0, 1) := by decide +kernel
theorem dX0_await_57 : decode cX0_await 57 = .ok (.ireturn, 1) := by decide +kernel
theorem dX0_await_58 : decode cX0_await 58 = .ok (.aload_n 0, 1) := by decide +kernel
theorem dX0_await_59 : decode cX0_await 59 = .ok (.getfield 18, 3) := by decide +kernel
theorem dX0_await_62 : decode cX0_await 62 = .ok (.iload_n 3, 1) := by decide +kernel
theorem dX0_await_63 : decode cX0_await 63 = .ok (.iaload, 1) := by decide +kernel
theorem dX0_await_64 : decode cX0_await 64 = .ok (.istore 4, 2) := by decide +kernel
theorem dX0_await_66 : decode cX0_await 66 = .ok (.aload_n 0, 1) := by decide +kernel
theorem dX0_await_67 : decode cX0_await 67 = .ok (.aload_n 0, 1) := by decide +kernel
theorem dX0_await_68 : decode cX0_await 68 = .ok (.getfield 32, 3) := by decide +kernel
theorem dX0_await_71 : decode cX0_await 71 = .ok (.iload_n 3, 1) := by decide +kernel
theorem dX0_await_72 : decode cX0_await 72 = .ok (.iaload, 1) := by decide +kernel
theorem dX0_await_73 : decode cX0_await 73 = .ok (.putfield 57, 3) := by decide +kernel
theorem dX0_await_76 : decode cX0_await 76 = .ok (.aload_n 0, 1) := by decide +kernel
theorem dX0_await_77 : decode cX0_await 77 = .ok (.iload_n 3, 1) := by decide +kernel
theorem dX0_await_78 : decode cX0_await 78 = .ok (.invokevirtual 102, 3) := by decide +kernel
theorem dX0_await_81 : decode cX0_await 81 = .ok (.iload 4, 2) := by decide +kernel
theorem dX0_await_83 : decode cX0_await 83 = .ok (.ireturn, 1) := by decide +kernel
theorem dX0_status_0 : decode cX0_status 0 = .ok (.aload_n 0, 1) := by decide +kernel
theorem dX0_status_1 : decode cX0_status 1 = .ok (.getfield 57, 3) := by decide +kernel
theorem dX0_status_4 : decode cX0_status 4 = .ok (.ireturn, 1) := by decide +kernel
theorem dX0_block_0 : decode cX0_block 0 = .ok (.aload_n 0, 1) := by decide +kernel
theorem dX0_block_1 : decode cX0_block 1 = .ok (.iload_n 1, 1) := by decide +kernel
theorem dX0_block_2 : decode cX0_block 2 = .ok (.invokevirtual 76, 3) := by decide +kernel
theorem dX0_block_5 : decode cX0_block 5 = .ok (.istore_n 3, 1) := by decide +kernel
theorem dX0_block_6 : decode cX0_block 6 = .ok (.iload_n 3, 1) := by decide +kernel
theorem dX0_block_7 : decode cX0_block 7 = .ok (.iconst (-1), 1) := by decide +kernel
theorem dX0_block_8 : decode cX0_block 8 = .ok (.if_icmp .ne 5, 3) := by decide +kernel
theorem dX0_block_11 : decode cX0_block 11 = .ok (.iconst (-1), 1) := by decide +kernel
theorem dX0_block_12 : decode cX0_block 12 = .ok (.ireturn, 1) := by decide +kernel
theorem dX0_block_13 : decode cX0_block 13 = .ok (.aload_n 0, 1) := by decide +kernel
theorem dX0_block_14 : decode cX0_block 14 = .ok (.iload_n 1, 1) := by decide +kernel
theorem dX0_block_15 : decode cX0_block 15 = .ok (.iload_n 3, 1) := by decide +kernel
theorem dX0_block_16 : decode cX0_block 16 = .ok (.iconst 3, 1) := by decide +kernel
theorem dX0_block_17 : decode cX0_block 17 = .ok (.invokevirtual 86, 3) := by decide +kernel
theorem dX0_block_20 : decode cX0_block 20 = .ok (.aload_n 0, 1) := by decide +kernel
theorem dX0_block_21 : decode cX0_block 21 = .ok (.getfield 35, 3) := by decide +kernel
theorem dX0_block_24 : decode cX0_block 24 = .ok (.iload_n 3, 1) := by decide +kernel
theorem dX0_block_25 : decode cX0_block 25 = .ok (.iconst 1, 1) := by decide +kernel
theorem dX0_block_26 : decode cX0_block 26 = .ok (.iastore, 1) := by decide +kernel
theorem dX0_block_27 : decode cX0_block 27 = .ok (.aload_n 0, 1) := by decide +kernel
theorem dX0_block_28 : decode cX0_block 28 = .ok (.getfield 38, 3) := by decide +kernel
theorem dX0_block_31 : decode cX0_block 31 = .ok (.iload_n 3, 1) := by decide +kernel
theorem dX0_block_32 : decode cX0_block 32 = .ok (.iload_n 2, 1) := by decide +kernel
theorem dX0_block_33 : decode cX0_block 33 = .ok (.iastore, 1) := by decide +kernel
theorem dX0_block_34 : decode cX0_block 34 = .ok (.iload_n 3, 1) := by decide +kernel
theorem dX0_block_35 : decode cX0_block 35 = .ok (.ireturn, 1) := by decide +kernel
theorem dX0_sleep_0 : decode cX0_sleep 0 = .ok (.aload_n 0, 1) := by decide +kernel
theorem dX0_sleep_1 : decode cX0_sleep 1 = .ok (.iload_n 1, 1) := by decide +kernel
theorem dX0_sleep_2 : decode cX0_sleep 2 = .ok (.invokevirtual 76, 3) := by decide +kernel
theorem dX0_sleep_5 : decode cX0_sleep 5 = .ok (.istore_n 3, 1) := by decide +kernel
theorem dX0_sleep_6 : decode cX0_sleep 6 = .ok (.iload_n 3, 1) := by decide +kernel
theorem dX0_sleep_7 : decode cX0_sleep 7 = .ok (.iconst (-1), 1) := by decide +kernel
theorem dX0_sleep_8 : decode cX0_sleep 8 = .ok (.if_icmp .eq 8, 3) := by decide +kernel
theorem dX0_sleep_11 : decode cX0_sleep 11 = .ok (.iload_n 2, 1) := by decide +kernel
theorem dX0_sleep_12 : decode cX0_sleep 12 = .ok (.iconst 1, 1) := by decide +kernel
theorem dX0_sleep_13 : decode cX0_sleep 13 = .ok (.if_icmp .ge 5, 3) := by decide +kernel
theorem dX0_sleep_16 : decode cX0_sleep 16 = .ok (.iload_n 3, 1) := by decide +kernel
theorem dX0_sleep_17 : decode cX0_sleep 17 = .ok (.ireturn, 1) := by decide +kernel
theorem dX0_sleep_18 : decode cX0_sleep 18 = .ok (.aload_n 0, 1) := by decide +kernel
theorem dX0_sleep_19 : decode cX0_sleep 19 = .ok (.iload_n 1, 1) := by decide +kernel
theorem dX0_sleep_20 : decode cX0_sleep 20 = .ok (.iload_n 3, 1) := by decide +kernel
theorem dX0_sleep_21 : decode cX0_sleep 21 = .ok (.iconst 3, 1) := by decide +kernel
theorem dX0_sleep_22 : decode cX0_sleep 22 = .ok (.invokevirtual 86, 3) := by decide +kernel
theorem dX0_sleep_25 : decode cX0_sleep 25 = .ok (.aload_n 0, 1) := by decide +kernel
theorem dX0_sleep_26 : decode cX0_sleep 26 = .ok (.getfield 35, 3) := by decide +kernel
theorem dX0_sleep_29 : decode cX0_sleep 29 = .ok (.iload_n 3, 1) := by decide +kernel
theorem dX0_sleep_30 : decode cX0_sleep 30 = .ok (.iconst 3, 1) := by decide +kernel
theorem dX0_sleep_31 : decode cX0_sleep 31 = .ok (.iastore, 1) := by decide +kernel
theorem dX0_sleep_32 : decode cX0_sleep 32 = .ok (.aload_n 0, 1) := by decide +kernel
theorem dX0_sleep_33 : decode cX0_sleep 33 = .ok (.getfield 41, 3) := by decide +kernel
theorem dX0_sleep_36 : decode cX0_sleep 36 = .ok (.iload_n 3, 1) := by decide +kernel
theorem dX0_sleep_37 : decode cX0_sleep 37 = .ok (.iload_n 2, 1) := by decide +kernel
theorem dX0_sleep_38 : decode cX0_sleep 38 = .ok (.iastore, 1) := by decide +kernel
theorem dX0_sleep_39 : decode cX0_sleep 39 = .ok (.iload_n 3, 1) := by decide +kernel
theorem dX0_sleep_40 : decode cX0_sleep 40 = .ok (.ireturn, 1) := by decide +kernel
theorem dX0_wake_0 : decode cX0_wake 0 = .ok (.iconst 0, 1) := by decide +kernel
theorem dX0_wake_1 : decode cX0_wake 1 = .ok (.istore_n 2, 1) := by decide +kernel
theorem dX0_wake_2 : decode cX0_wake 2 = .ok (.iconst 0, 1) := by decide +kernel
theorem dX0_wake_3 : decode cX0_wake 3 = .ok (.istore_n 3, 1) := by decide +kernel
theorem dX0_wake_4 : decode cX0_wake 4 = .ok (.iload_n 3, 1) := by decide +kernel
theorem dX0_wake_5 : decode cX0_wake 5 = .ok (.bipush 15, 2) := by decide +kernel
theorem dX0_wake_7 : decode cX0_wake 7 = .ok (.if_icmp .ge 36, 3) := by decide +kernel
theorem dX0_wake_10 : decode cX0_wake 10 = .ok (.aload_n 0, 1) := by decide +kernel
theorem dX0_wake_11 : decode cX0_wake 11 = .ok (.iload_n 3, 1) := by decide +kernel
theorem dX0_wake_12 : decode cX0_wake 12 = .ok (.iconst 1, 1) := by decide +kernel
theorem dX0_wake_13 : decode cX0_wake 13 = .ok (.invokevirtual 105, 3) := by decide +kernel
theorem dX0_wake_16 : decode cX0_wake 16 = .ok (.ifCond .eq 21, 3) := by decide +kernel
theorem dX0_wake_19 : decode cX0_wake 19 = .ok (.aload_n 0, 1) := by decide +kernel
theorem dX0_wake_20 : decode cX0_wake 20 = .ok (.getfield 38, 3) := by decide +kernel
theorem dX0_wake_23 : decode cX0_wake 23 = .ok (.iload_n 3, 1) := by decide +kernel
theorem dX0_wake_24 : decode cX0_wake 24 = .ok (.iaload, 1) := by decide +kernel
theorem dX0_wake_25 : decode cX0_wake 25 = .ok (.iload_n 1, 1) := by decide +kernel
theorem dX0_wake_26 : decode cX0_wake 26 = .ok (.if_icmp .ne 11, 3) := by decide +kernel
theorem dX0_wake_29 : decode cX0_wake 29 = .ok (.aload_n 0, 1) := by decide +kernel
theorem dX0_wake_30 : decode cX0_wake 30 = .ok (.iload_n 3, 1) := by decide +kernel
theorem dX0_wake_31 : decode cX0_wake 31 = .ok (.invokevirtual 109, 3) := by decide +kernel
theorem dX0_wake_34 : decode cX0_wake 34 = .ok (.iinc 2 1, 3) := by decide +kernel
theorem dX0_wake_37 : decode cX0_wake 37 = .ok (.iinc 3 1, 3) := by decide +kernel
theorem dX0_wake_40 : decode cX0_wake 40 = .ok (.goto (-36), 3) := by decide +kernel
theorem dX0_wake_43 : decode cX0_wake 43 = .ok (.iload_n 2, 1) := by decide +kernel
theorem dX0_wake_44 : decode cX0_wake 44 = .ok (.ireturn, 1) := by decide +kernel
theorem dX0_rest_0 : decode cX0_rest 0 = .ok (.aload_n 0, 1) := by decide +kernel
theorem dX0_rest_1 : decode cX0_rest 1 = .ok (.iload_n 1, 1) := by decide +kernel
theorem dX0_rest_2 : decode cX0_rest 2 = .ok (.invokevirtual 76, 3) := by decide +kernel
theorem dX0_rest_5 : decode cX0_rest 5 = .ok (.istore_n 2, 1) := by decide +kernel
theorem dX0_rest_6 : decode cX0_rest 6 = .ok (.iload_n 2, 1) := by decide +kernel
theorem dX0_rest_7 : decode cX0_rest 7 = .ok (.iconst (-1), 1) := by decide +kernel
theorem dX0_rest_8 : decode cX0_rest 8 = .ok (.if_icmp .ne 5, 3) := by decide +kernel
theorem dX0_rest_11 : decode cX0_rest 11 = .ok (.iconst (-1), 1) := by decide +kernel
theorem dX0_rest_12 : decode cX0_rest 12 = .ok (.ireturn, 1) := by decide +kernel
theorem dX0_rest_13 : decode cX0_rest 13 = .ok (.aload_n 0, 1) := by decide +kernel
theorem dX0_rest_14 : decode cX0_rest 14 = .ok (.iload_n 1, 1) := by decide +kernel
theorem dX0_rest_15 : decode cX0_rest 15 = .ok (.iload_n 2, 1) := by decide +kernel
theorem dX0_rest_16 : decode cX0_rest 16 = .ok (.iconst 1, 1) := by decide +kernel
theorem dX0_rest_17 : decode cX0_rest 17 = .ok (.invokevirtual 86, 3) := by decide +kernel
theorem dX0_rest_20 : decode cX0_rest 20 = .ok (.iload_n 2, 1) := by decide +kernel
theorem dX0_rest_21 : decode cX0_rest 21 = .ok (.ireturn, 1) := by decide +kernel
theorem dX0_tick_0 : decode cX0_tick 0 = .ok (.aload_n 0, 1) := by decide +kernel
theorem dX0_tick_1 : decode cX0_tick 1 = .ok (.invokevirtual 60, 3) := by decide +kernel
theorem dX0_tick_4 : decode cX0_tick 4 = .ok (.ifCond .eq 5, 3) := by decide +kernel
theorem dX0_tick_7 : decode cX0_tick 7 = .ok (.iconst (-1), 1) := by decide +kernel
theorem dX0_tick_8 : decode cX0_tick 8 = .ok (.ireturn, 1) := by decide +kernel
theorem dX0_tick_9 : decode cX0_tick 9 = .ok (.aload_n 0, 1) := by decide +kernel
theorem dX0_tick_10 : decode cX0_tick 10 = .ok (.dup, 1) := by decide +kernel
theorem dX0_tick_11 : decode cX0_tick 11 = .ok (.getfield 54, 3) := by decide +kernel
theorem dX0_tick_14 : decode cX0_tick 14 = .ok (.iconst 1, 1) := by decide +kernel
theorem dX0_tick_15 : decode cX0_tick 15 = .ok (.iadd, 1) := by decide +kernel
theorem dX0_tick_16 : decode cX0_tick 16 = .ok (.putfield 54, 3) := by decide +kernel
theorem dX0_tick_19 : decode cX0_tick 19 = .ok (.iconst 0, 1) := by decide +kernel
theorem dX0_tick_20 : decode cX0_tick 20 = .ok (.istore_n 1, 1) := by decide +kernel
theorem dX0_tick_21 : decode cX0_tick 21 = .ok (.iload_n 1, 1) := by decide +kernel
theorem dX0_tick_22 : decode cX0_tick 22 = .ok (.aload_n 0, 1) := by decide +kernel
theorem dX0_tick_23 : decode cX0_tick 23 = .ok (.getfield 44, 3) := by decide +kernel
theorem dX0_tick_26 : decode cX0_tick 26 = .ok (.arraylength, 1) := by decide +kernel
theorem dX0_tick_27 : decode cX0_tick 27 = .ok (.if_icmp .ge 15, 3) := by decide +kernel
theorem dX0_tick_30 : decode cX0_tick 30 = .ok (.aload_n 0, 1) := by decide +kernel
theorem dX0_tick_31 : decode cX0_tick 31 = .ok (.iload_n 1, 1) := by decide +kernel
theorem dX0_tick_32 : decode cX0_tick 32 = .ok (.invokevirtual 112, 3) := by decide +kernel
theorem dX0_tick_35 : decode cX0_tick 35 = .ok (.pop, 1) := by decide +kernel
theorem dX0_tick_36 : decode cX0_tick 36 = .ok (.iinc 1 1, 3) := by decide +kernel
theorem dX0_tick_39 : decode cX0_tick 39 = .ok (.goto (-18), 3) := by decide +kernel
theorem dX0_tick_42 : decode cX0_tick 42 = .ok (.iconst 0, 1) := by decide +kernel
theorem dX0_tick_43 : decode cX0_tick 43 = .ok (.istore_n 1, 1) := by decide +kernel
theorem dX0_tick_44 : decode cX0_tick 44 = .ok (.iload_n 1, 1) := by decide +kernel
theorem dX0_tick_45 : decode cX0_tick 45 = .ok (.bipush 15, 2) := by decide +kernel
theorem dX0_tick_47 : decode cX0_tick 47 = .ok (.if_icmp .ge 23, 3) := by decide +kernel
theorem dX0_tick_50 : decode cX0_tick 50 = .ok (.aload_n 0, 1) := by decide +kernel
theorem dX0_tick_51 : decode cX0_tick 51 = .ok (.iload_n 1, 1) := by decide +kernel
theorem dX0_tick_52 : decode cX0_tick 52 = .ok (.iconst 3, 1) := by decide +kernel
theorem dX0_tick_53 : decode cX0_tick 53 = .ok (.invokevirtual 105, 3) := by decide +kernel
theorem dX0_tick_56 : decode cX0_tick 56 = .ok (.ifCond .eq 8, 3) := by decide +kernel
theorem dX0_tick_59 : decode cX0_tick 59 = .ok (.aload_n 0, 1) := by decide +kernel
theorem dX0_tick_60 : decode cX0_tick 60 = .ok (.iload_n 1, 1) := by decide +kernel
theorem dX0_tick_61 : decode cX0_tick 61 = .ok (.invokevirtual 115, 3) := by decide +kernel
theorem dX0_tick_64 : decode cX0_tick 64 = .ok (.iinc 1 1, 3) := by decide +kernel
theorem dX0_tick_67 : decode cX0_tick 67 = .ok (.goto (-23), 3) := by decide +kernel
theorem dX0_tick_70 : decode cX0_tick 70 = .ok (.aload_n 0, 1) := by decide +kernel
theorem dX0_tick_71 : decode cX0_tick 71 = .ok (.getfield 54, 3) := by decide +kernel
theorem dX0_tick_74 : decode cX0_tick 74 = .ok (.ireturn, 1) := by decide +kernel
theorem dX0_kill_0 : decode cX0_kill 0 = .ok (.aload_n 0, 1) := by decide +kernel
theorem dX0_kill_1 : decode cX0_kill 1 = .ok (.iload_n 1, 1) := by decide +kernel
theorem dX0_kill_2 : decode cX0_kill 2 = .ok (.invokevirtual 118, 3) := by decide +kernel
theorem dX0_kill_5 : decode cX0_kill 5 = .ok (.istore_n 2, 1) := by decide +kernel
theorem dX0_kill_6 : decode cX0_kill 6 = .ok (.iload_n 2, 1) := by decide +kernel
theorem dX0_kill_7 : decode cX0_kill 7 = .ok (.iconst (-1), 1) := by decide +kernel
theorem dX0_kill_8 : decode cX0_kill 8 = .ok (.if_icmp .eq 13, 3) := by decide +kernel
theorem dX0_kill_11 : decode cX0_kill 11 = .ok (.aload_n 0, 1) := by decide +kernel
theorem dX0_kill_12 : decode cX0_kill 12 = .ok (.getfield 22, 3) := by decide +kernel
theorem dX0_kill_15 : decode cX0_kill 15 = .ok (.iload_n 2, 1) := by decide +kernel
theorem dX0_kill_16 : decode cX0_kill 16 = .ok (.iaload, 1) := by decide +kernel
theorem dX0_kill_17 : decode cX0_kill 17 = .ok (.iconst 4, 1) := by decide +kernel
theorem dX0_kill_18 : decode cX0_kill 18 = .ok (.if_icmp .ne 5, 3) := by decide +kernel
theorem dX0_kill_21 : decode cX0_kill 21 = .ok (.iconst 0, 1) := by decide +kernel
theorem dX0_kill_22 : decode cX0_kill 22 = .ok (.ireturn, 1) := by decide +kernel
theorem dX0_kill_23 : decode cX0_kill 23 = .ok (.aload_n 0, 1) := by decide +kernel
theorem dX0_kill_24 : decode cX0_kill 24 = .ok (.getfield 28, 3) := by decide +kernel
theorem dX0_kill_27 : decode cX0_kill 27 = .ok (.iload_n 2, 1) := by decide +kernel
theorem dX0_kill_28 : decode cX0_kill 28 = .ok (.iconst 1, 1) := by decide +kernel
theorem dX0_kill_29 : decode cX0_kill 29 = .ok (.bastore, 1) := by decide +kernel
theorem dX0_kill_30 : decode cX0_kill 30 = .ok (.aload_n 0, 1) := by decide +kernel
theorem dX0_kill_31 : decode cX0_kill 31 = .ok (.getfield 22, 3) := by decide +kernel
theorem dX0_kill_34 : decode cX0_kill 34 = .ok (.iload_n 2, 1) := by decide +kernel
theorem dX0_kill_35 : decode cX0_kill 35 = .ok (.iaload, 1) := by decide +kernel
theorem dX0_kill_36 : decode cX0_kill 36 = .ok (.iconst 3, 1) := by decide +kernel
theorem dX0_kill_37 : decode cX0_kill 37 = .ok (.if_icmp .ne 8, 3) := by decide +kernel
theorem dX0_kill_40 : decode cX0_kill 40 = .ok (.aload_n 0, 1) := by decide +kernel
theorem dX0_kill_41 : decode cX0_kill 41 = .ok (.iload_n 2, 1) := by decide +kernel
theorem dX0_kill_42 : decode cX0_kill 42 = .ok (.invokevirtual 109, 3) := by decide +kernel
theorem dX0_kill_45 : decode cX0_kill 45 = .ok (.iconst 1, 1) := by decide +kernel
theorem dX0_kill_46 : decode cX0_kill 46 = .ok (.ireturn, 1) := by decide +kernel
theorem dX0_about_0 : decode cX0_about 0 = .ok (.iload_n 1, 1) := by decide +kernel
theorem dX0_about_1 : decode cX0_about 1 = .ok (.ifCond .lt 9, 3) := by decide +kernel
theorem dX0_about_4 : decode cX0_about 4 = .ok (.iload_n 1, 1) := by decide +kernel
theorem dX0_about_5 : decode cX0_about 5 = .ok (.bipush 15, 2) := by decide +kernel
theorem dX0_about_7 : decode cX0_about 7 = .ok (.if_icmp .lt 5, 3) := by decide +kernel
theorem dX0_about_10 : decode cX0_about 10 = .ok (.iconst (-1), 1) := by decide +kernel
theorem dX0_about_11 : decode cX0_about 11 = .ok (.ireturn, 1) := by decide +kernel
theorem dX0_about_12 : decode cX0_about 12 = .ok (.aload_n 0, 1) := by decide +kernel
theorem dX0_about_13 : decode cX0_about 13 = .ok (.getfield 22, 3) := by decide +kernel
theorem dX0_about_16 : decode cX0_about 16 = .ok (.iload_n 1, 1) := by decide +kernel
theorem dX0_about_17 : decode cX0_about 17 = .ok (.iaload, 1) := by decide +kernel
theorem dX0_about_18 : decode cX0_about 18 = .ok (.ifCond .ne 14, 3) := by decide +kernel
theorem dX0_about_21 : decode cX0_about 21 = .ok (.iload_n 2, 1) := by decide +kernel
theorem dX0_about_22 : decode cX0_about 22 = .ok (.iconst 1, 1) := by decide +kernel
theorem dX0_about_23 : decode cX0_about 23 = .ok (.if_icmp .ne 7, 3) := by decide +kernel
theorem dX0_about_26 : decode cX0_about 26 = .ok (.iconst 0, 1) := by decide +kernel
theorem dX0_about_27 : decode cX0_about 27 = .ok (.goto 4, 3) := by decide +kernel
theorem dX0_about_30 : decode cX0_about 30 = .ok (.iconst (-1), 1) := by decide +kernel
theorem dX0_about_31 : decode cX0_about 31 = .ok (.ireturn, 1) := by decide +kernel
theorem dX0_about_32 : decode cX0_about 32 = .ok (.iload_n 2, 1) := by decide +kernel
theorem dX0_about_33 : decode cX0_about 33 = .ok (.tableswitch 88 0 5 #[39, 46, 53, 60, 75, 82], 39) := by decide +kernel
theorem dX0_about_72 : decode cX0_about 72 = .ok (.aload_n 0, 1) := by decide +kernel
theorem dX0_about_73 : decode cX0_about 73 = .ok (.getfield 18, 3) := by decide +kernel
theorem dX0_about_76 : decode cX0_about 76 = .ok (.iload_n 1, 1) := by decide +kernel
theorem dX0_about_77 : decode cX0_about 77 = .ok (.iaload, 1) := by decide +kernel
theorem dX0_about_78 : decode cX0_about 78 = .ok (.ireturn, 1) := by decide +kernel
theorem dX0_about_79 : decode cX0_about 79 = .ok (.aload_n 0, 1) := by decide +kernel
theorem dX0_about_80 : decode cX0_about 80 = .ok (.getfield 22, 3) := by decide +kernel
theorem dX0_about_83 : decode cX0_about 83 = .ok (.iload_n 1, 1) := by decide +kernel
theorem dX0_about_84 : decode cX0_about 84 = .ok (.iaload, 1) := by decide +kernel
theorem dX0_about_85 : decode cX0_about 85 = .ok (.ireturn, 1) := by decide +kernel
theorem dX0_about_86 : decode cX0_about 86 = .ok (.aload_n 0, 1) := by decide +kernel
theorem dX0_about_87 : decode cX0_about 87 = .ok (.getfield 25, 3) := by decide +kernel
theorem dX0_about_90 : decode cX0_about 90 = .ok (.iload_n 1, 1) := by decide +kernel
theorem dX0_about_91 : decode cX0_about 91 = .ok (.iaload, 1) := by decide +kernel
theorem dX0_about_92 : decode cX0_about 92 = .ok (.ireturn, 1) := by decide +kernel
theorem dX0_about_93 : decode cX0_about 93 = .ok (.aload_n 0, 1) := by decide +kernel
theorem dX0_about_94 : decode cX0_about 94 = .ok (.getfield 28, 3) := by decide +kernel
theorem dX0_about_97 : decode cX0_about 97 = .ok (.iload_n 1, 1) := by decide +kernel
theorem dX0_about_98 : decode cX0_about 98 = .ok (.baload, 1) := by decide +kernel
theorem dX0_about_99 : decode cX0_about 99 = .ok (.ifCond .eq 7, 3) := by decide +kernel
theorem dX0_about_102 : decode cX0_about 102 = .ok (.iconst 1, 1) := by decide +kernel
theorem dX0_about_103 : decode cX0_about 103 = .ok (.goto 4, 3) := by decide +kernel
theorem dX0_about_106 : decode cX0_about 106 = .ok (.iconst 0, 1) := by decide +kernel
theorem dX0_about_107 : decode cX0_about 107 = .ok (.ireturn, 1) := by decide +kernel
theorem dX0_about_108 : decode cX0_about 108 = .ok (.aload_n 0, 1) := by decide +kernel
theorem dX0_about_109 : decode cX0_about 109 = .ok (.getfield 32, 3) := by decide +kernel
theorem dX0_about_112 : decode cX0_about 112 = .ok (.iload_n 1, 1) := by decide +kernel
theorem dX0_about_113 : decode cX0_about 113 = .ok (.iaload, 1) := by decide +kernel
theorem dX0_about_114 : decode cX0_about 114 = .ok (.ireturn, 1) := by decide +kernel
theorem dX0_about_115 : decode cX0_about 115 = .ok (.aload_n 0, 1) := by decide +kernel
theorem dX0_about_116 : decode cX0_about 116 = .ok (.iload_n 1, 1) := by decide +kernel
theorem dX0_about_117 : decode cX0_about 117 = .ok (.invokevirtual 121, 3) := by decide +kernel
theorem dX0_about_120 : decode cX0_about 120 = .ok (.ireturn, 1) := by decide +kernel
theorem dX0_about_121 : decode cX0_about 121 = .ok (.iconst (-1), 1) := by decide +kernel
theorem dX0_about_122 : decode cX0_about 122 = .ok (.ireturn, 1) := by decide +kernel
theorem dX0_count_0 : decode cX0_count 0 = .ok (.iload_n 1, 1) := by decide +kernel
theorem dX0_count_1 : decode cX0_count 1 = .ok (.ifCond .lt 8, 3) := by decide +kernel
theorem dX0_count_4 : decode cX0_count 4 = .ok (.iload_n 1, 1) := by decide +kernel
theorem dX0_count_5 : decode cX0_count 5 = .ok (.iconst 4, 1) := by decide +kernel
theorem dX0_count_6 : decode cX0_count 6 = .ok (.if_icmp .le 5, 3) := by decide +kernel
theorem dX0_count_9 : decode cX0_count 9 = .ok (.iconst (-1), 1) := by decide +kernel
theorem dX0_count_10 : decode cX0_count 10 = .ok (.ireturn, 1) := by decide +kernel
theorem dX0_count_11 : decode cX0_count 11 = .ok (.iconst 0, 1) := by decide +kernel
theorem dX0_count_12 : decode cX0_count 12 = .ok (.istore_n 2, 1) := by decide +kernel
theorem dX0_count_13 : decode cX0_count 13 = .ok (.iconst 0, 1) := by decide +kernel
theorem dX0_count_14 : decode cX0_count 14 = .ok (.istore_n 3, 1) := by decide +kernel
theorem dX0_count_15 : decode cX0_count 15 = .ok (.iload_n 3, 1) := by decide +kernel
theorem dX0_count_16 : decode cX0_count 16 = .ok (.bipush 15, 2) := by decide +kernel
theorem dX0_count_18 : decode cX0_count 18 = .ok (.if_icmp .ge 55, 3) := by decide +kernel
theorem dX0_count_21 : decode cX0_count 21 = .ok (.iload_n 1, 1) := by decide +kernel
theorem dX0_count_22 : decode cX0_count 22 = .ok (.ifCond .ne 20, 3) := by decide +kernel
theorem dX0_count_25 : decode cX0_count 25 = .ok (.aload_n 0, 1) := by decide +kernel
theorem dX0_count_26 : decode cX0_count 26 = .ok (.getfield 22, 3) := by decide +kernel
theorem dX0_count_29 : decode cX0_count 29 = .ok (.iload_n 3, 1) := by decide +kernel
theorem dX0_count_30 : decode cX0_count 30 = .ok (.iaload, 1) := by decide +kernel
theorem dX0_count_31 : decode cX0_count 31 = .ok (.ifCond .eq 7, 3) := by decide +kernel
theorem dX0_count_34 : decode cX0_count 34 = .ok (.iconst 1, 1) := by decide +kernel
theorem dX0_count_35 : decode cX0_count 35 = .ok (.goto 22, 3) := by decide +kernel
theorem dX0_count_38 : decode cX0_count 38 = .ok (.iconst 0, 1) := by decide +kernel
theorem dX0_count_39 : decode cX0_count 39 = .ok (.goto 18, 3) := by decide +kernel
theorem dX0_count_42 : decode cX0_count 42 = .ok (.aload_n 0, 1) := by decide +kernel
theorem dX0_count_43 : decode cX0_count 43 = .ok (.getfield 22, 3) := by decide +kernel
theorem dX0_count_46 : decode cX0_count 46 = .ok (.iload_n 3, 1) := by decide +kernel
theorem dX0_count_47 : decode cX0_count 47 = .ok (.iaload, 1) := by decide +kernel
theorem dX0_count_48 : decode cX0_count 48 = .ok (.iload_n 1, 1) := by decide +kernel
theorem dX0_count_49 : decode cX0_count 49 = .ok (.if_icmp .ne 7, 3) := by decide +kernel
theorem dX0_count_52 : decode cX0_count 52 = .ok (.iconst 1, 1) := by decide +kernel
theorem dX0_count_53 : decode cX0_count 53 = .ok (.goto 4, 3) := by decide +kernel
theorem dX0_count_56 : decode cX0_count 56 = .ok (.iconst 0, 1) := by decide +kernel
theorem dX0_count_57 : decode cX0_count 57 = .ok (.istore 4, 2) := by decide +kernel
theorem dX0_count_59 : decode cX0_count 59 = .ok (.iload 4, 2) := by decide +kernel
theorem dX0_count_61 : decode cX0_count 61 = .ok (.ifCond .eq 6, 3) := by decide +kernel
theorem dX0_count_64 : decode cX0_count 64 = .ok (.iinc 2 1, 3) := by decide +kernel
theorem dX0_count_67 : decode cX0_count 67 = .ok (.iinc 3 1, 3) := by decide +kernel
theorem dX0_count_70 : decode cX0_count 70 = .ok (.goto (-55), 3) := by decide +kernel
theorem dX0_count_73 : decode cX0_count 73 = .ok (.iload_n 2, 1) := by decide +kernel
theorem dX0_count_74 : decode cX0_count 74 = .ok (.ireturn, 1) := by decide +kernel
theorem dX0_isEmptyRing_0 : decode cX0_isEmptyRing 0 = .ok (.aload_n 0, 1) := by decide +kernel
theorem dX0_isEmptyRing_1 : decode cX0_isEmptyRing 1 = .ok (.getfield 22, 3) := by decide +kernel
theorem dX0_isEmptyRing_4 : decode cX0_isEmptyRing 4 = .ok (.iconst 0, 1) := by decide +kernel
theorem dX0_isEmptyRing_5 : decode cX0_isEmptyRing 5 = .ok (.iaload, 1) := by decide +kernel
theorem dX0_isEmptyRing_6 : decode cX0_isEmptyRing 6 = .ok (.ifCond .ne 7, 3) := by decide +kernel
theorem dX0_isEmptyRing_9 : decode cX0_isEmptyRing 9 = .ok (.iconst 1, 1) := by decide +kernel
theorem dX0_isEmptyRing_10 : decode cX0_isEmptyRing 10 = .ok (.goto 4, 3) := by decide +kernel
theorem dX0_isEmptyRing_13 : decode cX0_isEmptyRing 13 = .ok (.iconst 0, 1) := by decide +kernel
theorem dX0_isEmptyRing_14 : decode cX0_isEmptyRing 14 = .ok (.ireturn, 1) := by decide +kernel
theorem dX0_isProcessor_0 : decode cX0_isProcessor 0 = .ok (.iload_n 1, 1) := by decide +kernel
theorem dX0_isProcessor_1 : decode cX0_isProcessor 1 = .ok (.ifCond .lt 16, 3) := by decide +kernel
theorem dX0_isProcessor_4 : decode cX0_isProcessor 4 = .ok (.iload_n 1, 1) := by decide +kernel
theorem dX0_isProcessor_5 : decode cX0_isProcessor 5 = .ok (.aload_n 0, 1) := by decide +kernel
theorem dX0_isProcessor_6 : decode cX0_isProcessor 6 = .ok (.getfield 44, 3) := by decide +kernel
theorem dX0_isProcessor_9 : decode cX0_isProcessor 9 = .ok (.arraylength, 1) := by decide +kernel
theorem dX0_isProcessor_10 : decode cX0_isProcessor 10 = .ok (.if_icmp .ge 7, 3) := by decide +kernel
theorem dX0_isProcessor_13 : decode cX0_isProcessor 13 = .ok (.iconst 1, 1) := by decide +kernel
theorem dX0_isProcessor_14 : decode cX0_isProcessor 14 = .ok (.goto 4, 3) := by decide +kernel
theorem dX0_isProcessor_17 : decode cX0_isProcessor 17 = .ok (.iconst 0, 1) := by decide +kernel
theorem dX0_isProcessor_18 : decode cX0_isProcessor 18 = .ok (.ireturn, 1) := by decide +kernel
theorem dX0_isBlockedFor_0 : decode cX0_isBlockedFor 0 = .ok (.aload_n 0, 1) := by decide +kernel
theorem dX0_isBlockedFor_1 : decode cX0_isBlockedFor 1 = .ok (.getfield 22, 3) := by decide +kernel
theorem dX0_isBlockedFor_4 : decode cX0_isBlockedFor 4 = .ok (.iload_n 1, 1) := by decide +kernel
theorem dX0_isBlockedFor_5 : decode cX0_isBlockedFor 5 = .ok (.iaload, 1) := by decide +kernel
theorem dX0_isBlockedFor_6 : decode cX0_isBlockedFor 6 = .ok (.iconst 3, 1) := by decide +kernel
theorem dX0_isBlockedFor_7 : decode cX0_isBlockedFor 7 = .ok (.if_icmp .ne 17, 3) := by decide +kernel
theorem dX0_isBlockedFor_10 : decode cX0_isBlockedFor 10 = .ok (.aload_n 0, 1) := by decide +kernel
theorem dX0_isBlockedFor_11 : decode cX0_isBlockedFor 11 = .ok (.getfield 35, 3) := by decide +kernel
theorem dX0_isBlockedFor_14 : decode cX0_isBlockedFor 14 = .ok (.iload_n 1, 1) := by decide +kernel
theorem dX0_isBlockedFor_15 : decode cX0_isBlockedFor 15 = .ok (.iaload, 1) := by decide +kernel
theorem dX0_isBlockedFor_16 : decode cX0_isBlockedFor 16 = .ok (.iload_n 2, 1) := by decide +kernel
theorem dX0_isBlockedFor_17 : decode cX0_isBlockedFor 17 = .ok (.if_icmp .ne 7, 3) := by decide +kernel
theorem dX0_isBlockedFor_20 : decode cX0_isBlockedFor 20 = .ok (.iconst 1, 1) := by decide +kernel
theorem dX0_isBlockedFor_21 : decode cX0_isBlockedFor 21 = .ok (.goto 4, 3) := by decide +kernel
theorem dX0_isBlockedFor_24 : decode cX0_isBlockedFor 24 = .ok (.iconst 0, 1) := by decide +kernel
theorem dX0_isBlockedFor_25 : decode cX0_isBlockedFor 25 = .ok (.ireturn, 1) := by decide +kernel
theorem dX0_isChild_0 : decode cX0_isChild 0 = .ok (.aload_n 0, 1) := by decide +kernel
theorem dX0_isChild_1 : decode cX0_isChild 1 = .ok (.getfield 22, 3) := by decide +kernel
theorem dX0_isChild_4 : decode cX0_isChild 4 = .ok (.iload_n 1, 1) := by decide +kernel
theorem dX0_isChild_5 : decode cX0_isChild 5 = .ok (.iaload, 1) := by decide +kernel
theorem dX0_isChild_6 : decode cX0_isChild 6 = .ok (.ifCond .eq 17, 3) := by decide +kernel
theorem dX0_isChild_9 : decode cX0_isChild 9 = .ok (.aload_n 0, 1) := by decide +kernel
theorem dX0_isChild_10 : decode cX0_isChild 10 = .ok (.getfield 25, 3) := by decide +kernel
theorem dX0_isChild_13 : decode cX0_isChild 13 = .ok (.iload_n 1, 1) := by decide +kernel
theorem dX0_isChild_14 : decode cX0_isChild 14 = .ok (.iaload, 1) := by decide +kernel
theorem dX0_isChild_15 : decode cX0_isChild 15 = .ok (.iload_n 2, 1) := by decide +kernel
theorem dX0_isChild_16 : decode cX0_isChild 16 = .ok (.if_icmp .ne 7, 3) := by decide +kernel
theorem dX0_isChild_19 : decode cX0_isChild 19 = .ok (.iconst 1, 1) := by decide +kernel
theorem dX0_isChild_20 : decode cX0_isChild 20 = .ok (.goto 4, 3) := by decide +kernel
theorem dX0_isChild_23 : decode cX0_isChild 23 = .ok (.iconst 0, 1) := by decide +kernel
theorem dX0_isChild_24 : decode cX0_isChild 24 = .ok (.ireturn, 1) := by decide +kernel
theorem dX0_placeOn_0 : decode cX0_placeOn 0 = .ok (.aload_n 0, 1) := by decide +kernel
theorem dX0_placeOn_1 : decode cX0_placeOn 1 = .ok (.iload_n 1, 1) := by decide +kernel
theorem dX0_placeOn_2 : decode cX0_placeOn 2 = .ok (.invokevirtual 68, 3) := by decide +kernel
theorem dX0_placeOn_5 : decode cX0_placeOn 5 = .ok (.ifCond .eq 12, 3) := by decide +kernel
theorem dX0_placeOn_8 : decode cX0_placeOn 8 = .ok (.aload_n 0, 1) := by decide +kernel
theorem dX0_placeOn_9 : decode cX0_placeOn 9 = .ok (.getfield 44, 3) := by decide +kernel
theorem dX0_placeOn_12 : decode cX0_placeOn 12 = .ok (.iload_n 1, 1) := by decide +kernel
theorem dX0_placeOn_13 : decode cX0_placeOn 13 = .ok (.iaload, 1) := by decide +kernel
theorem dX0_placeOn_14 : decode cX0_placeOn 14 = .ok (.goto 4, 3) := by decide +kernel
theorem dX0_placeOn_17 : decode cX0_placeOn 17 = .ok (.iconst (-1), 1) := by decide +kernel
theorem dX0_placeOn_18 : decode cX0_placeOn 18 = .ok (.ireturn, 1) := by decide +kernel
theorem dX0_processorOf_0 : decode cX0_processorOf 0 = .ok (.iconst 0, 1) := by decide +kernel
theorem dX0_processorOf_1 : decode cX0_processorOf 1 = .ok (.istore_n 2, 1) := by decide +kernel
theorem dX0_processorOf_2 : decode cX0_processorOf 2 = .ok (.iload_n 2, 1) := by decide +kernel
theorem dX0_processorOf_3 : decode cX0_processorOf 3 = .ok (.aload_n 0, 1) := by decide +kernel
theorem dX0_processorOf_4 : decode cX0_processorOf 4 = .ok (.getfield 44, 3) := by decide +kernel
theorem dX0_processorOf_7 : decode cX0_processorOf 7 = .ok (.arraylength, 1) := by decide +kernel
theorem dX0_processorOf_8 : decode cX0_processorOf 8 = .ok (.if_icmp .ge 21, 3) := by decide +kernel
theorem dX0_processorOf_11 : decode cX0_processorOf 11 = .ok (.aload_n 0, 1) := by decide +kernel
theorem dX0_processorOf_12 : decode cX0_processorOf 12 = .ok (.getfield 44, 3) := by decide +kernel
theorem dX0_processorOf_15 : decode cX0_processorOf 15 = .ok (.iload_n 2, 1) := by decide +kernel
theorem dX0_processorOf_16 : decode cX0_processorOf 16 = .ok (.iaload, 1) := by decide +kernel
theorem dX0_processorOf_17 : decode cX0_processorOf 17 = .ok (.iload_n 1, 1) := by decide +kernel
theorem dX0_processorOf_18 : decode cX0_processorOf 18 = .ok (.if_icmp .ne 5, 3) := by decide +kernel
theorem dX0_processorOf_21 : decode cX0_processorOf 21 = .ok (.iload_n 2, 1) := by decide +kernel
theorem dX0_processorOf_22 : decode cX0_processorOf 22 = .ok (.ireturn, 1) := by decide +kernel
theorem dX0_processorOf_23 : decode cX0_processorOf 23 = .ok (.iinc 2 1, 3) := by decide +kernel
theorem dX0_processorOf_26 : decode cX0_processorOf 26 = .ok (.goto (-24), 3) := by decide +kernel
theorem dX0_processorOf_29 : decode cX0_processorOf 29 = .ok (.iconst (-1), 1) := by decide +kernel
theorem dX0_processorOf_30 : decode cX0_processorOf 30 = .ok (.ireturn, 1) := by decide +kernel
theorem dX0_placeOf_0 : decode cX0_placeOf 0 = .ok (.iconst 0, 1) := by decide +kernel
theorem dX0_placeOf_1 : decode cX0_placeOf 1 = .ok (.istore_n 2, 1) := by decide +kernel
theorem dX0_placeOf_2 : decode cX0_placeOf 2 = .ok (.iload_n 2, 1) := by decide +kernel
theorem dX0_placeOf_3 : decode cX0_placeOf 3 = .ok (.bipush 15, 2) := by decide +kernel
theorem dX0_placeOf_5 : decode cX0_placeOf 5 = .ok (.if_icmp .ge 30, 3) := by decide +kernel
theorem dX0_placeOf_8 : decode cX0_placeOf 8 = .ok (.aload_n 0, 1) := by decide +kernel
theorem dX0_placeOf_9 : decode cX0_placeOf 9 = .ok (.getfield 22, 3) := by decide +kernel
theorem dX0_placeOf_12 : decode cX0_placeOf 12 = .ok (.iload_n 2, 1) := by decide +kernel
theorem dX0_placeOf_13 : decode cX0_placeOf 13 = .ok (.iaload, 1) := by decide +kernel
theorem dX0_placeOf_14 : decode cX0_placeOf 14 = .ok (.ifCond .eq 15, 3) := by decide +kernel
theorem dX0_placeOf_17 : decode cX0_placeOf 17 = .ok (.aload_n 0, 1) := by decide +kernel
theorem dX0_placeOf_18 : decode cX0_placeOf 18 = .ok (.getfield 18, 3) := by decide +kernel
theorem dX0_placeOf_21 : decode cX0_placeOf 21 = .ok (.iload_n 2, 1) := by decide +kernel
theorem dX0_placeOf_22 : decode cX0_placeOf 22 = .ok (.iaload, 1) := by decide +kernel
theorem dX0_placeOf_23 : decode cX0_placeOf 23 = .ok (.iload_n 1, 1) := by decide +kernel
theorem dX0_placeOf_24 : decode cX0_placeOf 24 = .ok (.if_icmp .ne 5, 3) := by decide +kernel
theorem dX0_placeOf_27 : decode cX0_placeOf 27 = .ok (.iload_n 2, 1) := by decide +kernel
theorem dX0_placeOf_28 : decode cX0_placeOf 28 = .ok (.ireturn, 1) := by decide +kernel
theorem dX0_placeOf_29 : decode cX0_placeOf 29 = .ok (.iinc 2 1, 3) := by decide +kernel
theorem dX0_placeOf_32 : decode cX0_placeOf 32 = .ok (.goto (-30), 3) := by decide +kernel
theorem dX0_placeOf_35 : decode cX0_placeOf 35 = .ok (.iconst (-1), 1) := by decide +kernel
theorem dX0_placeOf_36 : decode cX0_placeOf 36 = .ok (.ireturn, 1) := by decide +kernel
theorem dX0_nextReady_0 : decode cX0_nextReady 0 = .ok (.iconst 1, 1) := by decide +kernel
theorem dX0_nextReady_1 : decode cX0_nextReady 1 = .ok (.istore_n 1, 1) := by decide +kernel
theorem dX0_nextReady_2 : decode cX0_nextReady 2 = .ok (.iload_n 1, 1) := by decide +kernel
theorem dX0_nextReady_3 : decode cX0_nextReady 3 = .ok (.bipush 15, 2) := by decide +kernel
theorem dX0_nextReady_5 : decode cX0_nextReady 5 = .ok (.if_icmp .gt 31, 3) := by decide +kernel
theorem dX0_nextReady_8 : decode cX0_nextReady 8 = .ok (.aload_n 0, 1) := by decide +kernel
theorem dX0_nextReady_9 : decode cX0_nextReady 9 = .ok (.getfield 47, 3) := by decide +kernel
theorem dX0_nextReady_12 : decode cX0_nextReady 12 = .ok (.iload_n 1, 1) := by decide +kernel
theorem dX0_nextReady_13 : decode cX0_nextReady 13 = .ok (.iadd, 1) := by decide +kernel
theorem dX0_nextReady_14 : decode cX0_nextReady 14 = .ok (.bipush 15, 2) := by decide +kernel
theorem dX0_nextReady_16 : decode cX0_nextReady 16 = .ok (.irem, 1) := by decide +kernel
theorem dX0_nextReady_17 : decode cX0_nextReady 17 = .ok (.istore_n 2, 1) := by decide +kernel
theorem dX0_nextReady_18 : decode cX0_nextReady 18 = .ok (.aload_n 0, 1) := by decide +kernel
theorem dX0_nextReady_19 : decode cX0_nextReady 19 = .ok (.getfield 22, 3) := by decide +kernel
theorem dX0_nextReady_22 : decode cX0_nextReady 22 = .ok (.iload_n 2, 1) := by decide +kernel
theorem dX0_nextReady_23 : decode cX0_nextReady 23 = .ok (.iaload, 1) := by decide +kernel
theorem dX0_nextReady_24 : decode cX0_nextReady 24 = .ok (.iconst 1, 1) := by decide +kernel
theorem dX0_nextReady_25 : decode cX0_nextReady 25 = .ok (.if_icmp .ne 5, 3) := by decide +kernel
theorem dX0_nextReady_28 : decode cX0_nextReady 28 = .ok (.iload_n 2, 1) := by decide +kernel
theorem dX0_nextReady_29 : decode cX0_nextReady 29 = .ok (.ireturn, 1) := by decide +kernel
theorem dX0_nextReady_30 : decode cX0_nextReady 30 = .ok (.iinc 1 1, 3) := by decide +kernel
theorem dX0_nextReady_33 : decode cX0_nextReady 33 = .ok (.goto (-31), 3) := by decide +kernel
theorem dX0_nextReady_36 : decode cX0_nextReady 36 = .ok (.iconst (-1), 1) := by decide +kernel
theorem dX0_nextReady_37 : decode cX0_nextReady 37 = .ok (.ireturn, 1) := by decide +kernel
theorem dX0_firstFree_0 : decode cX0_firstFree 0 = .ok (.iconst 0, 1) := by decide +kernel
theorem dX0_firstFree_1 : decode cX0_firstFree 1 = .ok (.istore_n 1, 1) := by decide +kernel
theorem dX0_firstFree_2 : decode cX0_firstFree 2 = .ok (.iload_n 1, 1) := by decide +kernel
theorem dX0_firstFree_3 : decode cX0_firstFree 3 = .ok (.bipush 15, 2) := by decide +kernel
theorem dX0_firstFree_5 : decode cX0_firstFree 5 = .ok (.if_icmp .ge 20, 3) := by decide +kernel
theorem dX0_firstFree_8 : decode cX0_firstFree 8 = .ok (.aload_n 0, 1) := by decide +kernel
theorem dX0_firstFree_9 : decode cX0_firstFree 9 = .ok (.getfield 22, 3) := by decide +kernel
theorem dX0_firstFree_12 : decode cX0_firstFree 12 = .ok (.iload_n 1, 1) := by decide +kernel
theorem dX0_firstFree_13 : decode cX0_firstFree 13 = .ok (.iaload, 1) := by decide +kernel
theorem dX0_firstFree_14 : decode cX0_firstFree 14 = .ok (.ifCond .ne 5, 3) := by decide +kernel
theorem dX0_firstFree_17 : decode cX0_firstFree 17 = .ok (.iload_n 1, 1) := by decide +kernel
theorem dX0_firstFree_18 : decode cX0_firstFree 18 = .ok (.ireturn, 1) := by decide +kernel
theorem dX0_firstFree_19 : decode cX0_firstFree 19 = .ok (.iinc 1 1, 3) := by decide +kernel
theorem dX0_firstFree_22 : decode cX0_firstFree 22 = .ok (.goto (-20), 3) := by decide +kernel
theorem dX0_firstFree_25 : decode cX0_firstFree 25 = .ok (.iconst (-1), 1) := by decide +kernel
theorem dX0_firstFree_26 : decode cX0_firstFree 26 = .ok (.ireturn, 1) := by decide +kernel
theorem dX0_hasChild_0 : decode cX0_hasChild 0 = .ok (.iconst 0, 1) := by decide +kernel
theorem dX0_hasChild_1 : decode cX0_hasChild 1 = .ok (.istore_n 2, 1) := by decide +kernel
theorem dX0_hasChild_2 : decode cX0_hasChild 2 = .ok (.iload_n 2, 1) := by decide +kernel
theorem dX0_hasChild_3 : decode cX0_hasChild 3 = .ok (.bipush 15, 2) := by decide +kernel
theorem dX0_hasChild_5 : decode cX0_hasChild 5 = .ok (.if_icmp .ge 20, 3) := by decide +kernel
theorem dX0_hasChild_8 : decode cX0_hasChild 8 = .ok (.aload_n 0, 1) := by decide +kernel
theorem dX0_hasChild_9 : decode cX0_hasChild 9 = .ok (.iload_n 2, 1) := by decide +kernel
theorem dX0_hasChild_10 : decode cX0_hasChild 10 = .ok (.iload_n 1, 1) := by decide +kernel
theorem dX0_hasChild_11 : decode cX0_hasChild 11 = .ok (.invokevirtual 124, 3) := by decide +kernel
theorem dX0_hasChild_14 : decode cX0_hasChild 14 = .ok (.ifCond .eq 5, 3) := by decide +kernel
theorem dX0_hasChild_17 : decode cX0_hasChild 17 = .ok (.iconst 1, 1) := by decide +kernel
theorem dX0_hasChild_18 : decode cX0_hasChild 18 = .ok (.ireturn, 1) := by decide +kernel
theorem dX0_hasChild_19 : decode cX0_hasChild 19 = .ok (.iinc 2 1, 3) := by decide +kernel
theorem dX0_hasChild_22 : decode cX0_hasChild 22 = .ok (.goto (-20), 3) := by decide +kernel
theorem dX0_hasChild_25 : decode cX0_hasChild 25 = .ok (.iconst 0, 1) := by decide +kernel
theorem dX0_hasChild_26 : decode cX0_hasChild 26 = .ok (.ireturn, 1) := by decide +kernel
theorem dX0_firstZombieChild_0 : decode cX0_firstZombieChild 0 = .ok (.iconst 0, 1) := by decide +kernel
theorem dX0_firstZombieChild_1 : decode cX0_firstZombieChild 1 = .ok (.istore_n 2, 1) := by decide +kernel
theorem dX0_firstZombieChild_2 : decode cX0_firstZombieChild 2 = .ok (.iload_n 2, 1) := by decide +kernel
theorem dX0_firstZombieChild_3 : decode cX0_firstZombieChild 3 = .ok (.bipush 15, 2) := by decide +kernel
theorem dX0_firstZombieChild_5 : decode cX0_firstZombieChild 5 = .ok (.if_icmp .ge 30, 3) := by decide +kernel
theorem dX0_firstZombieChild_8 : decode cX0_firstZombieChild 8 = .ok (.aload_n 0, 1) := by decide +kernel
theorem dX0_firstZombieChild_9 : decode cX0_firstZombieChild 9 = .ok (.iload_n 2, 1) := by decide +kernel
theorem dX0_firstZombieChild_10 : decode cX0_firstZombieChild 10 = .ok (.iload_n 1, 1) := by decide +kernel
theorem dX0_firstZombieChild_11 : decode cX0_firstZombieChild 11 = .ok (.invokevirtual 124, 3) := by decide +kernel
theorem dX0_firstZombieChild_14 : decode cX0_firstZombieChild 14 = .ok (.ifCond .eq 15, 3) := by decide +kernel
theorem dX0_firstZombieChild_17 : decode cX0_firstZombieChild 17 = .ok (.aload_n 0, 1) := by decide +kernel
theorem dX0_firstZombieChild_18 : decode cX0_firstZombieChild 18 = .ok (.getfield 22, 3) := by decide +kernel
theorem dX0_firstZombieChild_21 : decode cX0_firstZombieChild 21 = .ok (.iload_n 2, 1) := by decide +kernel
theorem dX0_firstZombieChild_22 : decode cX0_firstZombieChild 22 = .ok (.iaload, 1) := by decide +kernel
theorem dX0_firstZombieChild_23 : decode cX0_firstZombieChild 23 = .ok (.iconst 4, 1) := by decide +kernel
theorem dX0_firstZombieChild_24 : decode cX0_firstZombieChild 24 = .ok (.if_icmp .ne 5, 3) := by decide +kernel
theorem dX0_firstZombieChild_27 : decode cX0_firstZombieChild 27 = .ok (.iload_n 2, 1) := by decide +kernel
theorem dX0_firstZombieChild_28 : decode cX0_firstZombieChild 28 = .ok (.ireturn, 1) := by decide +kernel
theorem dX0_firstZombieChild_29 : decode cX0_firstZombieChild 29 = .ok (.iinc 2 1, 3) := by decide +kernel
theorem dX0_firstZombieChild_32 : decode cX0_firstZombieChild 32 = .ok (.goto (-30), 3) := by decide +kernel
theorem dX0_firstZombieChild_35 : decode cX0_firstZombieChild 35 = .ok (.iconst (-1), 1) := by decide +kernel
theorem dX0_firstZombieChild_36 : decode cX0_firstZombieChild 36 = .ok (.ireturn, 1) := by decide +kernel
theorem dX0_settle_0 : decode cX0_settle 0 = .ok (.aload_n 0, 1) := by decide +kernel
theorem dX0_settle_1 : decode cX0_settle 1 = .ok (.getfield 18, 3) := by decide +kernel
theorem dX0_settle_4 : decode cX0_settle 4 = .ok (.iload_n 1, 1) := by decide +kernel
theorem dX0_settle_5 : decode cX0_settle 5 = .ok (.iload_n 2, 1) := by decide +kernel
theorem dX0_settle_6 : decode cX0_settle 6 = .ok (.iastore, 1) := by decide +kernel
theorem dX0_settle_7 : decode cX0_settle 7 = .ok (.aload_n 0, 1) := by decide +kernel
theorem dX0_settle_8 : decode cX0_settle 8 = .ok (.getfield 25, 3) := by decide +kernel
theorem dX0_settle_11 : decode cX0_settle 11 = .ok (.iload_n 1, 1) := by decide +kernel
theorem dX0_settle_12 : decode cX0_settle 12 = .ok (.iload_n 3, 1) := by decide +kernel
theorem dX0_settle_13 : decode cX0_settle 13 = .ok (.iastore, 1) := by decide +kernel
theorem dX0_settle_14 : decode cX0_settle 14 = .ok (.aload_n 0, 1) := by decide +kernel
theorem dX0_settle_15 : decode cX0_settle 15 = .ok (.getfield 22, 3) := by decide +kernel
theorem dX0_settle_18 : decode cX0_settle 18 = .ok (.iload_n 1, 1) := by decide +kernel
theorem dX0_settle_19 : decode cX0_settle 19 = .ok (.iconst 1, 1) := by decide +kernel
theorem dX0_settle_20 : decode cX0_settle 20 = .ok (.iastore, 1) := by decide +kernel
theorem dX0_settle_21 : decode cX0_settle 21 = .ok (.return_, 1) := by decide +kernel
theorem dX0_clearPlace_0 : decode cX0_clearPlace 0 = .ok (.aload_n 0, 1) := by decide +kernel
theorem dX0_clearPlace_1 : decode cX0_clearPlace 1 = .ok (.getfield 18, 3) := by decide +kernel
theorem dX0_clearPlace_4 : decode cX0_clearPlace 4 = .ok (.iload_n 1, 1) := by decide +kernel
theorem dX0_clearPlace_5 : decode cX0_clearPlace 5 = .ok (.iconst 0, 1) := by decide +kernel
theorem dX0_clearPlace_6 : decode cX0_clearPlace 6 = .ok (.iastore, 1) := by decide +kernel
theorem dX0_clearPlace_7 : decode cX0_clearPlace 7 = .ok (.aload_n 0, 1) := by decide +kernel
theorem dX0_clearPlace_8 : decode cX0_clearPlace 8 = .ok (.getfield 22, 3) := by decide +kernel
theorem dX0_clearPlace_11 : decode cX0_clearPlace 11 = .ok (.iload_n 1, 1) := by decide +kernel
theorem dX0_clearPlace_12 : decode cX0_clearPlace 12 = .ok (.iconst 0, 1) := by decide +kernel
theorem dX0_clearPlace_13 : decode cX0_clearPlace 13 = .ok (.iastore, 1) := by decide +kernel
theorem dX0_clearPlace_14 : decode cX0_clearPlace 14 = .ok (.aload_n 0, 1) := by decide +kernel
theorem dX0_clearPlace_15 : decode cX0_clearPlace 15 = .ok (.getfield 25, 3) := by decide +kernel
theorem dX0_clearPlace_18 : decode cX0_clearPlace 18 = .ok (.iload_n 1, 1) := by decide +kernel
theorem dX0_clearPlace_19 : decode cX0_clearPlace 19 = .ok (.iconst 0, 1) := by decide +kernel
theorem dX0_clearPlace_20 : decode cX0_clearPlace 20 = .ok (.iastore, 1) := by decide +kernel
theorem dX0_clearPlace_21 : decode cX0_clearPlace 21 = .ok (.aload_n 0, 1) := by decide +kernel
theorem dX0_clearPlace_22 : decode cX0_clearPlace 22 = .ok (.getfield 28, 3) := by decide +kernel
theorem dX0_clearPlace_25 : decode cX0_clearPlace 25 = .ok (.iload_n 1, 1) := by decide +kernel
theorem dX0_clearPlace_26 : decode cX0_clearPlace 26 = .ok (.iconst 0, 1) := by decide +kernel
theorem dX0_clearPlace_27 : decode cX0_clearPlace 27 = .ok (.bastore, 1) := by decide +kernel
theorem dX0_clearPlace_28 : decode cX0_clearPlace 28 = .ok (.aload_n 0, 1) := by decide +kernel
theorem dX0_clearPlace_29 : decode cX0_clearPlace 29 = .ok (.getfield 32, 3) := by decide +kernel
theorem dX0_clearPlace_32 : decode cX0_clearPlace 32 = .ok (.iload_n 1, 1) := by decide +kernel
theorem dX0_clearPlace_33 : decode cX0_clearPlace 33 = .ok (.iconst 0, 1) := by decide +kernel
theorem dX0_clearPlace_34 : decode cX0_clearPlace 34 = .ok (.iastore, 1) := by decide +kernel
theorem dX0_clearPlace_35 : decode cX0_clearPlace 35 = .ok (.aload_n 0, 1) := by decide +kernel
theorem dX0_clearPlace_36 : decode cX0_clearPlace 36 = .ok (.getfield 35, 3) := by decide +kernel
theorem dX0_clearPlace_39 : decode cX0_clearPlace 39 = .ok (.iload_n 1, 1) := by decide +kernel
theorem dX0_clearPlace_40 : decode cX0_clearPlace 40 = .ok (.iconst 0, 1) := by decide +kernel
theorem dX0_clearPlace_41 : decode cX0_clearPlace 41 = .ok (.iastore, 1) := by decide +kernel
theorem dX0_clearPlace_42 : decode cX0_clearPlace 42 = .ok (.aload_n 0, 1) := by decide +kernel
theorem dX0_clearPlace_43 : decode cX0_clearPlace 43 = .ok (.getfield 38, 3) := by decide +kernel
theorem dX0_clearPlace_46 : decode cX0_clearPlace 46 = .ok (.iload_n 1, 1) := by decide +kernel
theorem dX0_clearPlace_47 : decode cX0_clearPlace 47 = .ok (.iconst 0, 1) := by decide +kernel
theorem dX0_clearPlace_48 : decode cX0_clearPlace 48 = .ok (.iastore, 1) := by decide +kernel
theorem dX0_clearPlace_49 : decode cX0_clearPlace 49 = .ok (.aload_n 0, 1) := by decide +kernel
theorem dX0_clearPlace_50 : decode cX0_clearPlace 50 = .ok (.getfield 41, 3) := by decide +kernel
theorem dX0_clearPlace_53 : decode cX0_clearPlace 53 = .ok (.iload_n 1, 1) := by decide +kernel
theorem dX0_clearPlace_54 : decode cX0_clearPlace 54 = .ok (.iconst 0, 1) := by decide +kernel
theorem dX0_clearPlace_55 : decode cX0_clearPlace 55 = .ok (.iastore, 1) := by decide +kernel
theorem dX0_clearPlace_56 : decode cX0_clearPlace 56 = .ok (.return_, 1) := by decide +kernel
theorem dX0_emptyRing_0 : decode cX0_emptyRing 0 = .ok (.iconst 0, 1) := by decide +kernel
theorem dX0_emptyRing_1 : decode cX0_emptyRing 1 = .ok (.istore_n 1, 1) := by decide +kernel
theorem dX0_emptyRing_2 : decode cX0_emptyRing 2 = .ok (.iload_n 1, 1) := by decide +kernel
theorem dX0_emptyRing_3 : decode cX0_emptyRing 3 = .ok (.bipush 15, 2) := by decide +kernel
theorem dX0_emptyRing_5 : decode cX0_emptyRing 5 = .ok (.if_icmp .ge 14, 3) := by decide +kernel
theorem dX0_emptyRing_8 : decode cX0_emptyRing 8 = .ok (.aload_n 0, 1) := by decide +kernel
theorem dX0_emptyRing_9 : decode cX0_emptyRing 9 = .ok (.iload_n 1, 1) := by decide +kernel
theorem dX0_emptyRing_10 : decode cX0_emptyRing 10 = .ok (.invokevirtual 102, 3) := by decide +kernel
theorem dX0_emptyRing_13 : decode cX0_emptyRing 13 = .ok (.iinc 1 1, 3) := by decide +kernel
theorem dX0_emptyRing_16 : decode cX0_emptyRing 16 = .ok (.goto (-14), 3) := by decide +kernel
theorem dX0_emptyRing_19 : decode cX0_emptyRing 19 = .ok (.iconst 0, 1) := by decide +kernel
theorem dX0_emptyRing_20 : decode cX0_emptyRing 20 = .ok (.istore_n 1, 1) := by decide +kernel
theorem dX0_emptyRing_21 : decode cX0_emptyRing 21 = .ok (.iload_n 1, 1) := by decide +kernel
theorem dX0_emptyRing_22 : decode cX0_emptyRing 22 = .ok (.aload_n 0, 1) := by decide +kernel
theorem dX0_emptyRing_23 : decode cX0_emptyRing 23 = .ok (.getfield 44, 3) := by decide +kernel
theorem dX0_emptyRing_26 : decode cX0_emptyRing 26 = .ok (.arraylength, 1) := by decide +kernel
theorem dX0_emptyRing_27 : decode cX0_emptyRing 27 = .ok (.if_icmp .ge 16, 3) := by decide +kernel
theorem dX0_emptyRing_30 : decode cX0_emptyRing 30 = .ok (.aload_n 0, 1) := by decide +kernel
theorem dX0_emptyRing_31 : decode cX0_emptyRing 31 = .ok (.getfield 44, 3) := by decide +kernel
theorem dX0_emptyRing_34 : decode cX0_emptyRing 34 = .ok (.iload_n 1, 1) := by decide +kernel
theorem dX0_emptyRing_35 : decode cX0_emptyRing 35 = .ok (.iconst (-1), 1) := by decide +kernel
theorem dX0_emptyRing_36 : decode cX0_emptyRing 36 = .ok (.iastore, 1) := by decide +kernel
theorem dX0_emptyRing_37 : decode cX0_emptyRing 37 = .ok (.iinc 1 1, 3) := by decide +kernel
theorem dX0_emptyRing_40 : decode cX0_emptyRing 40 = .ok (.goto (-19), 3) := by decide +kernel
theorem dX0_emptyRing_43 : decode cX0_emptyRing 43 = .ok (.return_, 1) := by decide +kernel
theorem dX0_takeOff_0 : decode cX0_takeOff 0 = .ok (.aload_n 0, 1) := by decide +kernel
theorem dX0_takeOff_1 : decode cX0_takeOff 1 = .ok (.getfield 44, 3) := by decide +kernel
theorem dX0_takeOff_4 : decode cX0_takeOff 4 = .ok (.iload_n 1, 1) := by decide +kernel
theorem dX0_takeOff_5 : decode cX0_takeOff 5 = .ok (.iconst (-1), 1) := by decide +kernel
theorem dX0_takeOff_6 : decode cX0_takeOff 6 = .ok (.iastore, 1) := by decide +kernel
theorem dX0_takeOff_7 : decode cX0_takeOff 7 = .ok (.aload_n 0, 1) := by decide +kernel
theorem dX0_takeOff_8 : decode cX0_takeOff 8 = .ok (.getfield 22, 3) := by decide +kernel
theorem dX0_takeOff_11 : decode cX0_takeOff 11 = .ok (.iload_n 2, 1) := by decide +kernel
theorem dX0_takeOff_12 : decode cX0_takeOff 12 = .ok (.iload_n 3, 1) := by decide +kernel
theorem dX0_takeOff_13 : decode cX0_takeOff 13 = .ok (.iastore, 1) := by decide +kernel
theorem dX0_takeOff_14 : decode cX0_takeOff 14 = .ok (.return_, 1) := by decide +kernel
theorem dX0_makeReady_0 : decode cX0_makeReady 0 = .ok (.aload_n 0, 1) := by decide +kernel
theorem dX0_makeReady_1 : decode cX0_makeReady 1 = .ok (.getfield 22, 3) := by decide +kernel
theorem dX0_makeReady_4 : decode cX0_makeReady 4 = .ok (.iload_n 1, 1) := by decide +kernel
theorem dX0_makeReady_5 : decode cX0_makeReady 5 = .ok (.iconst 1, 1) := by decide +kernel
theorem dX0_makeReady_6 : decode cX0_makeReady 6 = .ok (.iastore, 1) := by decide +kernel
theorem dX0_makeReady_7 : decode cX0_makeReady 7 = .ok (.aload_n 0, 1) := by decide +kernel
theorem dX0_makeReady_8 : decode cX0_makeReady 8 = .ok (.getfield 35, 3) := by decide +kernel
theorem dX0_makeReady_11 : decode cX0_makeReady 11 = .ok (.iload_n 1, 1) := by decide +kernel
theorem dX0_makeReady_12 : decode cX0_makeReady 12 = .ok (.iconst 0, 1) := by decide +kernel
theorem dX0_makeReady_13 : decode cX0_makeReady 13 = .ok (.iastore, 1) := by decide +kernel
theorem dX0_makeReady_14 : decode cX0_makeReady 14 = .ok (.return_, 1) := by decide +kernel
theorem dX0_countDown_0 : decode cX0_countDown 0 = .ok (.aload_n 0, 1) := by decide +kernel
theorem dX0_countDown_1 : decode cX0_countDown 1 = .ok (.getfield 41, 3) := by decide +kernel
theorem dX0_countDown_4 : decode cX0_countDown 4 = .ok (.iload_n 1, 1) := by decide +kernel
theorem dX0_countDown_5 : decode cX0_countDown 5 = .ok (.dup2, 1) := by decide +kernel
theorem dX0_countDown_6 : decode cX0_countDown 6 = .ok (.iaload, 1) := by decide +kernel
theorem dX0_countDown_7 : decode cX0_countDown 7 = .ok (.iconst 1, 1) := by decide +kernel
theorem dX0_countDown_8 : decode cX0_countDown 8 = .ok (.isub, 1) := by decide +kernel
theorem dX0_countDown_9 : decode cX0_countDown 9 = .ok (.iastore, 1) := by decide +kernel
theorem dX0_countDown_10 : decode cX0_countDown 10 = .ok (.aload_n 0, 1) := by decide +kernel
theorem dX0_countDown_11 : decode cX0_countDown 11 = .ok (.getfield 41, 3) := by decide +kernel
theorem dX0_countDown_14 : decode cX0_countDown 14 = .ok (.iload_n 1, 1) := by decide +kernel
theorem dX0_countDown_15 : decode cX0_countDown 15 = .ok (.iaload, 1) := by decide +kernel
theorem dX0_countDown_16 : decode cX0_countDown 16 = .ok (.ifCond .gt 8, 3) := by decide +kernel
theorem dX0_countDown_19 : decode cX0_countDown 19 = .ok (.aload_n 0, 1) := by decide +kernel
theorem dX0_countDown_20 : decode cX0_countDown 20 = .ok (.iload_n 1, 1) := by decide +kernel
theorem dX0_countDown_21 : decode cX0_countDown 21 = .ok (.invokevirtual 109, 3) := by decide +kernel
theorem dX0_countDown_24 : decode cX0_countDown 24 = .ok (.return_, 1) := by decide +kernel
theorem dX0_handOnChildren_0 : decode cX0_handOnChildren 0 = .ok (.iconst 0, 1) := by decide +kernel
theorem dX0_handOnChildren_1 : decode cX0_handOnChildren 1 = .ok (.istore_n 2, 1) := by decide +kernel
theorem dX0_handOnChildren_2 : decode cX0_handOnChildren 2 = .ok (.iload_n 2, 1) := by decide +kernel
theorem dX0_handOnChildren_3 : decode cX0_handOnChildren 3 = .ok (.bipush 15, 2) := by decide +kernel
theorem dX0_handOnChildren_5 : decode cX0_handOnChildren 5 = .ok (.if_icmp .ge 40, 3) := by decide +kernel
theorem dX0_handOnChildren_8 : decode cX0_handOnChildren 8 = .ok (.aload_n 0, 1) := by decide +kernel
theorem dX0_handOnChildren_9 : decode cX0_handOnChildren 9 = .ok (.iload_n 2, 1) := by decide +kernel
theorem dX0_handOnChildren_10 : decode cX0_handOnChildren 10 = .ok (.iload_n 1, 1) := by decide +kernel
theorem dX0_handOnChildren_11 : decode cX0_handOnChildren 11 = .ok (.invokevirtual 124, 3) := by decide +kernel
theorem dX0_handOnChildren_14 : decode cX0_handOnChildren 14 = .ok (.ifCond .eq 25, 3) := by decide +kernel
theorem dX0_handOnChildren_17 : decode cX0_handOnChildren 17 = .ok (.aload_n 0, 1) := by decide +kernel
theorem dX0_handOnChildren_18 : decode cX0_handOnChildren 18 = .ok (.getfield 25, 3) := by decide +kernel
theorem dX0_handOnChildren_21 : decode cX0_handOnChildren 21 = .ok (.iload_n 2, 1) := by decide +kernel
theorem dX0_handOnChildren_22 : decode cX0_handOnChildren 22 = .ok (.iconst 1, 1) := by decide +kernel
theorem dX0_handOnChildren_23 : decode cX0_handOnChildren 23 = .ok (.iastore, 1) := by decide +kernel
theorem dX0_handOnChildren_24 : decode cX0_handOnChildren 24 = .ok (.aload_n 0, 1) := by decide +kernel
theorem dX0_handOnChildren_25 : decode cX0_handOnChildren 25 = .ok (.getfield 22, 3) := by decide +kernel
theorem dX0_handOnChildren_28 : decode cX0_handOnChildren 28 = .ok (.iload_n 2, 1) := by decide +kernel
theorem dX0_handOnChildren_29 : decode cX0_handOnChildren 29 = .ok (.iaload, 1) := by decide +kernel
theorem dX0_handOnChildren_30 : decode cX0_handOnChildren 30 = .ok (.iconst 4, 1) := by decide +kernel
theorem dX0_handOnChildren_31 : decode cX0_handOnChildren 31 = .ok (.if_icmp .ne 8, 3) := by decide +kernel
theorem dX0_handOnChildren_34 : decode cX0_handOnChildren 34 = .ok (.aload_n 0, 1) := by decide +kernel
theorem dX0_handOnChildren_35 : decode cX0_handOnChildren 35 = .ok (.iconst 1, 1) := by decide +kernel
theorem dX0_handOnChildren_36 : decode cX0_handOnChildren 36 = .ok (.invokevirtual 93, 3) := by decide +kernel
theorem dX0_handOnChildren_39 : decode cX0_handOnChildren 39 = .ok (.iinc 2 1, 3) := by decide +kernel
theorem dX0_handOnChildren_42 : decode cX0_handOnChildren 42 = .ok (.goto (-40), 3) := by decide +kernel
theorem dX0_handOnChildren_45 : decode cX0_handOnChildren 45 = .ok (.return_, 1) := by decide +kernel
theorem dX0_tellOfZombie_0 : decode cX0_tellOfZombie 0 = .ok (.aload_n 0, 1) := by decide +kernel
theorem dX0_tellOfZombie_1 : decode cX0_tellOfZombie 1 = .ok (.iload_n 1, 1) := by decide +kernel
theorem dX0_tellOfZombie_2 : decode cX0_tellOfZombie 2 = .ok (.invokevirtual 118, 3) := by decide +kernel
theorem dX0_tellOfZombie_5 : decode cX0_tellOfZombie 5 = .ok (.istore_n 2, 1) := by decide +kernel
theorem dX0_tellOfZombie_6 : decode cX0_tellOfZombie 6 = .ok (.iload_n 2, 1) := by decide +kernel
theorem dX0_tellOfZombie_7 : decode cX0_tellOfZombie 7 = .ok (.iconst (-1), 1) := by decide +kernel
theorem dX0_tellOfZombie_8 : decode cX0_tellOfZombie 8 = .ok (.if_icmp .eq 17, 3) := by decide +kernel
theorem dX0_tellOfZombie_11 : decode cX0_tellOfZombie 11 = .ok (.aload_n 0, 1) := by decide +kernel
theorem dX0_tellOfZombie_12 : decode cX0_tellOfZombie 12 = .ok (.iload_n 2, 1) := by decide +kernel
theorem dX0_tellOfZombie_13 : decode cX0_tellOfZombie 13 = .ok (.iconst 2, 1) := by decide +kernel
theorem dX0_tellOfZombie_14 : decode cX0_tellOfZombie 14 = .ok (.invokevirtual 105, 3) := by decide +kernel
theorem dX0_tellOfZombie_17 : decode cX0_tellOfZombie 17 = .ok (.ifCond .eq 8, 3) := by decide +kernel
theorem dX0_tellOfZombie_20 : decode cX0_tellOfZombie 20 = .ok (.aload_n 0, 1) := by decide +kernel
theorem dX0_tellOfZombie_21 : decode cX0_tellOfZombie 21 = .ok (.iload_n 2, 1) := by decide +kernel
theorem dX0_tellOfZombie_22 : decode cX0_tellOfZombie 22 = .ok (.invokevirtual 109, 3) := by decide +kernel
theorem dX0_tellOfZombie_25 : decode cX0_tellOfZombie 25 = .ok (.return_, 1) := by decide +kernel
