theorem dX1_init_0 : decode cX1_init 0 = .ok (.aload_n 0, 1) := by decide +kernel
theorem dX1_init_1 : decode cX1_init 1 = .ok (.invokespecial 1, 3) := by decide +kernel
theorem dX1_init_4 : decode cX1_init 4 = .ok (.aload_n 0, 1) := by decide +kernel
theorem dX1_init_5 : decode cX1_init 5 = .ok (.bipush 16, 2) := by decide +kernel
theorem dX1_init_7 : decode cX1_init 7 = .ok (.newarray .int, 2) := by decide +kernel
theorem dX1_init_9 : decode cX1_init 9 = .ok (.putfield 7, 3) := by decide +kernel
theorem dX1_init_12 : decode cX1_init 12 = .ok (.aload_n 0, 1) := by decide +kernel
theorem dX1_init_13 : decode cX1_init 13 = .ok (.bipush 16, 2) := by decide +kernel
theorem dX1_init_15 : decode cX1_init 15 = .ok (.newarray .int, 2) := by decide +kernel
theorem dX1_init_17 : decode cX1_init 17 = .ok (.putfield 13, 3) := by decide +kernel
theorem dX1_init_20 : decode cX1_init 20 = .ok (.aload_n 0, 1) := by decide +kernel
theorem dX1_init_21 : decode cX1_init 21 = .ok (.bipush 16, 2) := by decide +kernel
theorem dX1_init_23 : decode cX1_init 23 = .ok (.newarray .int, 2) := by decide +kernel
theorem dX1_init_25 : decode cX1_init 25 = .ok (.putfield 16, 3) := by decide +kernel
theorem dX1_init_28 : decode cX1_init 28 = .ok (.aload_n 0, 1) := by decide +kernel
theorem dX1_init_29 : decode cX1_init 29 = .ok (.bipush 16, 2) := by decide +kernel
theorem dX1_init_31 : decode cX1_init 31 = .ok (.newarray .boolean, 2) := by decide +kernel
theorem dX1_init_33 : decode cX1_init 33 = .ok (.putfield 19, 3) := by decide +kernel
theorem dX1_init_36 : decode cX1_init 36 = .ok (.aload_n 0, 1) := by decide +kernel
theorem dX1_init_37 : decode cX1_init 37 = .ok (.bipush 16, 2) := by decide +kernel
theorem dX1_init_39 : decode cX1_init 39 = .ok (.newarray .int, 2) := by decide +kernel
theorem dX1_init_41 : decode cX1_init 41 = .ok (.putfield 23, 3) := by decide +kernel
theorem dX1_init_44 : decode cX1_init 44 = .ok (.aload_n 0, 1) := by decide +kernel
theorem dX1_init_45 : decode cX1_init 45 = .ok (.bipush 16, 2) := by decide +kernel
theorem dX1_init_47 : decode cX1_init 47 = .ok (.newarray .boolean, 2) := by decide +kernel
theorem dX1_init_49 : decode cX1_init 49 = .ok (.putfield 26, 3) := by decide +kernel
theorem dX1_init_52 : decode cX1_init 52 = .ok (.aload_n 0, 1) := by decide +kernel
theorem dX1_init_53 : decode cX1_init 53 = .ok (.bipush 16, 2) := by decide +kernel
theorem dX1_init_55 : decode cX1_init 55 = .ok (.newarray .int, 2) := by decide +kernel
theorem dX1_init_57 : decode cX1_init 57 = .ok (.putfield 29, 3) := by decide +kernel
theorem dX1_init_60 : decode cX1_init 60 = .ok (.aload_n 0, 1) := by decide +kernel
theorem dX1_init_61 : decode cX1_init 61 = .ok (.bipush 16, 2) := by decide +kernel
theorem dX1_init_63 : decode cX1_init 63 = .ok (.newarray .int, 2) := by decide +kernel
theorem dX1_init_65 : decode cX1_init 65 = .ok (.putfield 32, 3) := by decide +kernel
theorem dX1_init_68 : decode cX1_init 68 = .ok (.aload_n 0, 1) := by decide +kernel
theorem dX1_init_69 : decode cX1_init 69 = .ok (.bipush 16, 2) := by decide +kernel
theorem dX1_init_71 : decode cX1_init 71 = .ok (.newarray .int, 2) := by decide +kernel
theorem dX1_init_73 : decode cX1_init 73 = .ok (.putfield 35, 3) := by decide +kernel
theorem dX1_init_76 : decode cX1_init 76 = .ok (.aload_n 0, 1) := by decide +kernel
theorem dX1_init_77 : decode cX1_init 77 = .ok (.iload_n 1, 1) := by decide +kernel
theorem dX1_init_78 : decode cX1_init 78 = .ok (.iconst 1, 1) := by decide +kernel
theorem dX1_init_79 : decode cX1_init 79 = .ok (.if_icmp .ge 7, 3) := by decide +kernel
theorem dX1_init_82 : decode cX1_init 82 = .ok (.iconst 1, 1) := by decide +kernel
theorem dX1_init_83 : decode cX1_init 83 = .ok (.goto 13, 3) := by decide +kernel
theorem dX1_init_86 : decode cX1_init 86 = .ok (.iload_n 1, 1) := by decide +kernel
theorem dX1_init_87 : decode cX1_init 87 = .ok (.iconst 4, 1) := by decide +kernel
theorem dX1_init_88 : decode cX1_init 88 = .ok (.if_icmp .le 7, 3) := by decide +kernel
theorem dX1_init_91 : decode cX1_init 91 = .ok (.iconst 4, 1) := by decide +kernel
theorem dX1_init_92 : decode cX1_init 92 = .ok (.goto 4, 3) := by decide +kernel
theorem dX1_init_95 : decode cX1_init 95 = .ok (.iload_n 1, 1) := by decide +kernel
theorem dX1_init_96 : decode cX1_init 96 = .ok (.putfield 38, 3) := by decide +kernel
theorem dX1_init_99 : decode cX1_init 99 = .ok (.return_, 1) := by decide +kernel
theorem dX1_ofPlace_0 : decode cX1_ofPlace 0 = .ok (.iconst (-1), 1) := by decide +kernel
theorem dX1_ofPlace_1 : decode cX1_ofPlace 1 = .ok (.istore_n 2, 1) := by decide +kernel
theorem dX1_ofPlace_2 : decode cX1_ofPlace 2 = .ok (.iconst 0, 1) := by decide +kernel
theorem dX1_ofPlace_3 : decode cX1_ofPlace 3 = .ok (.istore_n 3, 1) := by decide +kernel
theorem dX1_ofPlace_4 : decode cX1_ofPlace 4 = .ok (.iload_n 3, 1) := by decide +kernel
theorem dX1_ofPlace_5 : decode cX1_ofPlace 5 = .ok (.aload_n 0, 1) := by decide +kernel
theorem dX1_ofPlace_6 : decode cX1_ofPlace 6 = .ok (.getfield 45, 3) := by decide +kernel
theorem dX1_ofPlace_9 : decode cX1_ofPlace 9 = .ok (.if_icmp .ge 25, 3) := by decide +kernel
theorem dX1_ofPlace_12 : decode cX1_ofPlace 12 = .ok (.aload_n 0, 1) := by decide +kernel
theorem dX1_ofPlace_13 : decode cX1_ofPlace 13 = .ok (.getfield 13, 3) := by decide +kernel
theorem dX1_ofPlace_16 : decode cX1_ofPlace 16 = .ok (.iload_n 3, 1) := by decide +kernel
theorem dX1_ofPlace_17 : decode cX1_ofPlace 17 = .ok (.iaload, 1) := by decide +kernel
theorem dX1_ofPlace_18 : decode cX1_ofPlace 18 = .ok (.iload_n 1, 1) := by decide +kernel
theorem dX1_ofPlace_19 : decode cX1_ofPlace 19 = .ok (.if_icmp .ne 7, 3) := by decide +kernel
theorem dX1_ofPlace_22 : decode cX1_ofPlace 22 = .ok (.iload_n 3, 1) := by decide +kernel
theorem dX1_ofPlace_23 : decode cX1_ofPlace 23 = .ok (.goto 4, 3) := by decide +kernel
theorem dX1_ofPlace_26 : decode cX1_ofPlace 26 = .ok (.iload_n 2, 1) := by decide +kernel
theorem dX1_ofPlace_27 : decode cX1_ofPlace 27 = .ok (.istore_n 2, 1) := by decide +kernel
theorem dX1_ofPlace_28 : decode cX1_ofPlace 28 = .ok (.iinc 3 1, 3) := by decide +kernel
theorem dX1_ofPlace_31 : decode cX1_ofPlace 31 = .ok (.goto (-27), 3) := by decide +kernel
theorem dX1_ofPlace_34 : decode cX1_ofPlace 34 = .ok (.iload_n 2, 1) := by decide +kernel
theorem dX1_ofPlace_35 : decode cX1_ofPlace 35 = .ok (.ireturn, 1) := by decide +kernel
theorem dX1_ofNumber_0 : decode cX1_ofNumber 0 = .ok (.iconst (-1), 1) := by decide +kernel
theorem dX1_ofNumber_1 : decode cX1_ofNumber 1 = .ok (.istore_n 2, 1) := by decide +kernel
theorem dX1_ofNumber_2 : decode cX1_ofNumber 2 = .ok (.iconst 0, 1) := by decide +kernel
theorem dX1_ofNumber_3 : decode cX1_ofNumber 3 = .ok (.istore_n 3, 1) := by decide +kernel
theorem dX1_ofNumber_4 : decode cX1_ofNumber 4 = .ok (.iload_n 3, 1) := by decide +kernel
theorem dX1_ofNumber_5 : decode cX1_ofNumber 5 = .ok (.aload_n 0, 1) := by decide +kernel
theorem dX1_ofNumber_6 : decode cX1_ofNumber 6 = .ok (.getfield 45, 3) := by decide +kernel
theorem dX1_ofNumber_9 : decode cX1_ofNumber 9 = .ok (.if_icmp .ge 25, 3) := by decide +kernel
theorem dX1_ofNumber_12 : decode cX1_ofNumber 12 = .ok (.aload_n 0, 1) := by decide +kernel
theorem dX1_ofNumber_13 : decode cX1_ofNumber 13 = .ok (.getfield 7, 3) := by decide +kernel
theorem dX1_ofNumber_16 : decode cX1_ofNumber 16 = .ok (.iload_n 3, 1) := by decide +kernel
theorem dX1_ofNumber_17 : decode cX1_ofNumber 17 = .ok (.iaload, 1) := by decide +kernel
theorem dX1_ofNumber_18 : decode cX1_ofNumber 18 = .ok (.iload_n 1, 1) := by decide +kernel
theorem dX1_ofNumber_19 : decode cX1_ofNumber 19 = .ok (.if_icmp .ne 7, 3) := by decide +kernel
theorem dX1_ofNumber_22 : decode cX1_ofNumber 22 = .ok (.iload_n 3, 1) := by decide +kernel
theorem dX1_ofNumber_23 : decode cX1_ofNumber 23 = .ok (.goto 4, 3) := by decide +kernel
theorem dX1_ofNumber_26 : decode cX1_ofNumber 26 = .ok (.iload_n 2, 1) := by decide +kernel
theorem dX1_ofNumber_27 : decode cX1_ofNumber 27 = .ok (.istore_n 2, 1) := by decide +kernel
theorem dX1_ofNumber_28 : decode cX1_ofNumber 28 = .ok (.iinc 3 1, 3) := by decide +kernel
theorem dX1_ofNumber_31 : decode cX1_ofNumber 31 = .ok (.goto (-27), 3) := by decide +kernel
theorem dX1_ofNumber_34 : decode cX1_ofNumber 34 = .ok (.iload_n 2, 1) := by decide +kernel
theorem dX1_ofNumber_35 : decode cX1_ofNumber 35 = .ok (.ireturn, 1) := by decide +kernel
theorem dX1_running_0 : decode cX1_running 0 = .ok (.iconst (-1), 1) := by decide +kernel
theorem dX1_running_1 : decode cX1_running 1 = .ok (.istore_n 2, 1) := by decide +kernel
theorem dX1_running_2 : decode cX1_running 2 = .ok (.iconst 0, 1) := by decide +kernel
theorem dX1_running_3 : decode cX1_running 3 = .ok (.istore_n 3, 1) := by decide +kernel
theorem dX1_running_4 : decode cX1_running 4 = .ok (.iload_n 3, 1) := by decide +kernel
theorem dX1_running_5 : decode cX1_running 5 = .ok (.aload_n 0, 1) := by decide +kernel
theorem dX1_running_6 : decode cX1_running 6 = .ok (.getfield 45, 3) := by decide +kernel
theorem dX1_running_9 : decode cX1_running 9 = .ok (.if_icmp .ge 37, 3) := by decide +kernel
theorem dX1_running_12 : decode cX1_running 12 = .ok (.iload_n 1, 1) := by decide +kernel
theorem dX1_running_13 : decode cX1_running 13 = .ok (.ifCond .lt 33, 3) := by decide +kernel
theorem dX1_running_16 : decode cX1_running 16 = .ok (.iload_n 1, 1) := by decide +kernel
theorem dX1_running_17 : decode cX1_running 17 = .ok (.aload_n 0, 1) := by decide +kernel
theorem dX1_running_18 : decode cX1_running 18 = .ok (.getfield 38, 3) := by decide +kernel
theorem dX1_running_21 : decode cX1_running 21 = .ok (.if_icmp .ge 25, 3) := by decide +kernel
theorem dX1_running_24 : decode cX1_running 24 = .ok (.aload_n 0, 1) := by decide +kernel
theorem dX1_running_25 : decode cX1_running 25 = .ok (.getfield 29, 3) := by decide +kernel
theorem dX1_running_28 : decode cX1_running 28 = .ok (.iload_n 3, 1) := by decide +kernel
theorem dX1_running_29 : decode cX1_running 29 = .ok (.iaload, 1) := by decide +kernel
theorem dX1_running_30 : decode cX1_running 30 = .ok (.iload_n 1, 1) := by decide +kernel
theorem dX1_running_31 : decode cX1_running 31 = .ok (.if_icmp .ne 7, 3) := by decide +kernel
theorem dX1_running_34 : decode cX1_running 34 = .ok (.iload_n 3, 1) := by decide +kernel
theorem dX1_running_35 : decode cX1_running 35 = .ok (.goto 4, 3) := by decide +kernel
theorem dX1_running_38 : decode cX1_running 38 = .ok (.iload_n 2, 1) := by decide +kernel
theorem dX1_running_39 : decode cX1_running 39 = .ok (.istore_n 2, 1) := by decide +kernel
theorem dX1_running_40 : decode cX1_running 40 = .ok (.iinc 3 1, 3) := by decide +kernel
theorem dX1_running_43 : decode cX1_running 43 = .ok (.goto (-39), 3) := by decide +kernel
theorem dX1_running_46 : decode cX1_running 46 = .ok (.iload_n 2, 1) := by decide +kernel
theorem dX1_running_47 : decode cX1_running 47 = .ok (.ireturn, 1) := by decide +kernel
theorem dX1_vacant_0 : decode cX1_vacant 0 = .ok (.iconst 0, 1) := by decide +kernel
theorem dX1_vacant_1 : decode cX1_vacant 1 = .ok (.istore_n 1, 1) := by decide +kernel
theorem dX1_vacant_2 : decode cX1_vacant 2 = .ok (.iload_n 1, 1) := by decide +kernel
theorem dX1_vacant_3 : decode cX1_vacant 3 = .ok (.bipush 15, 2) := by decide +kernel
theorem dX1_vacant_5 : decode cX1_vacant 5 = .ok (.if_icmp .ge 17, 3) := by decide +kernel
theorem dX1_vacant_8 : decode cX1_vacant 8 = .ok (.aload_n 0, 1) := by decide +kernel
theorem dX1_vacant_9 : decode cX1_vacant 9 = .ok (.iload_n 1, 1) := by decide +kernel
theorem dX1_vacant_10 : decode cX1_vacant 10 = .ok (.invokevirtual 48, 3) := by decide +kernel
theorem dX1_vacant_13 : decode cX1_vacant 13 = .ok (.ifCond .lt 9, 3) := by decide +kernel
theorem dX1_vacant_16 : decode cX1_vacant 16 = .ok (.iinc 1 1, 3) := by decide +kernel
theorem dX1_vacant_19 : decode cX1_vacant 19 = .ok (.goto (-17), 3) := by decide +kernel
theorem dX1_vacant_22 : decode cX1_vacant 22 = .ok (.iload_n 1, 1) := by decide +kernel
theorem dX1_vacant_23 : decode cX1_vacant 23 = .ok (.ireturn, 1) := by decide +kernel
theorem dX1_endedChild_0 : decode cX1_endedChild 0 = .ok (.iconst (-1), 1) := by decide +kernel
theorem dX1_endedChild_1 : decode cX1_endedChild 1 = .ok (.istore_n 2, 1) := by decide +kernel
theorem dX1_endedChild_2 : decode cX1_endedChild 2 = .ok (.iconst 0, 1) := by decide +kernel
theorem dX1_endedChild_3 : decode cX1_endedChild 3 = .ok (.istore_n 3, 1) := by decide +kernel
theorem dX1_endedChild_4 : decode cX1_endedChild 4 = .ok (.iload_n 3, 1) := by decide +kernel
theorem dX1_endedChild_5 : decode cX1_endedChild 5 = .ok (.aload_n 0, 1) := by decide +kernel
theorem dX1_endedChild_6 : decode cX1_endedChild 6 = .ok (.getfield 45, 3) := by decide +kernel
theorem dX1_endedChild_9 : decode cX1_endedChild 9 = .ok (.if_icmp .ge 54, 3) := by decide +kernel
theorem dX1_endedChild_12 : decode cX1_endedChild 12 = .ok (.aload_n 0, 1) := by decide +kernel
theorem dX1_endedChild_13 : decode cX1_endedChild 13 = .ok (.getfield 16, 3) := by decide +kernel
theorem dX1_endedChild_16 : decode cX1_endedChild 16 = .ok (.iload_n 3, 1) := by decide +kernel
theorem dX1_endedChild_17 : decode cX1_endedChild 17 = .ok (.iaload, 1) := by decide +kernel
theorem dX1_endedChild_18 : decode cX1_endedChild 18 = .ok (.aload_n 0, 1) := by decide +kernel
theorem dX1_endedChild_19 : decode cX1_endedChild 19 = .ok (.getfield 7, 3) := by decide +kernel
theorem dX1_endedChild_22 : decode cX1_endedChild 22 = .ok (.iload_n 1, 1) := by decide +kernel
theorem dX1_endedChild_23 : decode cX1_endedChild 23 = .ok (.iaload, 1) := by decide +kernel
theorem dX1_endedChild_24 : decode cX1_endedChild 24 = .ok (.if_icmp .ne 33, 3) := by decide +kernel
theorem dX1_endedChild_27 : decode cX1_endedChild 27 = .ok (.aload_n 0, 1) := by decide +kernel
theorem dX1_endedChild_28 : decode cX1_endedChild 28 = .ok (.getfield 19, 3) := by decide +kernel
theorem dX1_endedChild_31 : decode cX1_endedChild 31 = .ok (.iload_n 3, 1) := by decide +kernel
theorem dX1_endedChild_32 : decode cX1_endedChild 32 = .ok (.baload, 1) := by decide +kernel
theorem dX1_endedChild_33 : decode cX1_endedChild 33 = .ok (.ifCond .eq 24, 3) := by decide +kernel
theorem dX1_endedChild_36 : decode cX1_endedChild 36 = .ok (.iload_n 2, 1) := by decide +kernel
theorem dX1_endedChild_37 : decode cX1_endedChild 37 = .ok (.ifCond .lt 18, 3) := by decide +kernel
theorem dX1_endedChild_40 : decode cX1_endedChild 40 = .ok (.aload_n 0, 1) := by decide +kernel
theorem dX1_endedChild_41 : decode cX1_endedChild 41 = .ok (.getfield 13, 3) := by decide +kernel
theorem dX1_endedChild_44 : decode cX1_endedChild 44 = .ok (.iload_n 3, 1) := by decide +kernel
theorem dX1_endedChild_45 : decode cX1_endedChild 45 = .ok (.iaload, 1) := by decide +kernel
theorem dX1_endedChild_46 : decode cX1_endedChild 46 = .ok (.aload_n 0, 1) := by decide +kernel
theorem dX1_endedChild_47 : decode cX1_endedChild 47 = .ok (.getfield 13, 3) := by decide +kernel
theorem dX1_endedChild_50 : decode cX1_endedChild 50 = .ok (.iload_n 2, 1) := by decide +kernel
theorem dX1_endedChild_51 : decode cX1_endedChild 51 = .ok (.iaload, 1) := by decide +kernel
theorem dX1_endedChild_52 : decode cX1_endedChild 52 = .ok (.if_icmp .ge 5, 3) := by decide +kernel
theorem dX1_endedChild_55 : decode cX1_endedChild 55 = .ok (.iload_n 3, 1) := by decide +kernel
theorem dX1_endedChild_56 : decode cX1_endedChild 56 = .ok (.istore_n 2, 1) := by decide +kernel
theorem dX1_endedChild_57 : decode cX1_endedChild 57 = .ok (.iinc 3 1, 3) := by decide +kernel
theorem dX1_endedChild_60 : decode cX1_endedChild 60 = .ok (.goto (-56), 3) := by decide +kernel
theorem dX1_endedChild_63 : decode cX1_endedChild 63 = .ok (.iload_n 2, 1) := by decide +kernel
theorem dX1_endedChild_64 : decode cX1_endedChild 64 = .ok (.ireturn, 1) := by decide +kernel
theorem dX1_state_0 : decode cX1_state 0 = .ok (.aload_n 0, 1) := by decide +kernel
theorem dX1_state_1 : decode cX1_state 1 = .ok (.getfield 19, 3) := by decide +kernel
theorem dX1_state_4 : decode cX1_state 4 = .ok (.iload_n 1, 1) := by decide +kernel
theorem dX1_state_5 : decode cX1_state 5 = .ok (.baload, 1) := by decide +kernel
theorem dX1_state_6 : decode cX1_state 6 = .ok (.ifCond .eq 5, 3) := by decide +kernel
theorem dX1_state_9 : decode cX1_state 9 = .ok (.iconst 4, 1) := by decide +kernel
theorem dX1_state_10 : decode cX1_state 10 = .ok (.ireturn, 1) := by decide +kernel
theorem dX1_state_11 : decode cX1_state 11 = .ok (.aload_n 0, 1) := by decide +kernel
theorem dX1_state_12 : decode cX1_state 12 = .ok (.getfield 29, 3) := by decide +kernel
theorem dX1_state_15 : decode cX1_state 15 = .ok (.iload_n 1, 1) := by decide +kernel
theorem dX1_state_16 : decode cX1_state 16 = .ok (.iaload, 1) := by decide +kernel
theorem dX1_state_17 : decode cX1_state 17 = .ok (.ifCond .lt 5, 3) := by decide +kernel
theorem dX1_state_20 : decode cX1_state 20 = .ok (.iconst 2, 1) := by decide +kernel
theorem dX1_state_21 : decode cX1_state 21 = .ok (.ireturn, 1) := by decide +kernel
theorem dX1_state_22 : decode cX1_state 22 = .ok (.aload_n 0, 1) := by decide +kernel
theorem dX1_state_23 : decode cX1_state 23 = .ok (.getfield 32, 3) := by decide +kernel
theorem dX1_state_26 : decode cX1_state 26 = .ok (.iload_n 1, 1) := by decide +kernel
theorem dX1_state_27 : decode cX1_state 27 = .ok (.iaload, 1) := by decide +kernel
theorem dX1_state_28 : decode cX1_state 28 = .ok (.iconst 1, 1) := by decide +kernel
theorem dX1_state_29 : decode cX1_state 29 = .ok (.if_icmp .eq 44, 3) := by decide +kernel
theorem dX1_state_32 : decode cX1_state 32 = .ok (.aload_n 0, 1) := by decide +kernel
theorem dX1_state_33 : decode cX1_state 33 = .ok (.getfield 32, 3) := by decide +kernel
theorem dX1_state_36 : decode cX1_state 36 = .ok (.iload_n 1, 1) := by decide +kernel
theorem dX1_state_37 : decode cX1_state 37 = .ok (.iaload, 1) := by decide +kernel
theorem dX1_state_38 : decode cX1_state 38 = .ok (.iconst 2, 1) := by decide +kernel
theorem dX1_state_39 : decode cX1_state 39 = .ok (.if_icmp .ne 11, 3) := by decide +kernel
theorem dX1_state_42 : decode cX1_state 42 = .ok (.aload_n 0, 1) := by decide +kernel
theorem dX1_state_43 : decode cX1_state 43 = .ok (.iload_n 1, 1) := by decide +kernel
theorem dX1_state_44 : decode cX1_state 44 = .ok (.invokevirtual 52, 3) := by decide +kernel
theorem dX1_state_47 : decode cX1_state 47 = .ok (.ifCond .lt 26, 3) := by decide +kernel
theorem dX1_state_50 : decode cX1_state 50 = .ok (.aload_n 0, 1) := by decide +kernel
theorem dX1_state_51 : decode cX1_state 51 = .ok (.getfield 32, 3) := by decide +kernel
theorem dX1_state_54 : decode cX1_state 54 = .ok (.iload_n 1, 1) := by decide +kernel
theorem dX1_state_55 : decode cX1_state 55 = .ok (.iaload, 1) := by decide +kernel
theorem dX1_state_56 : decode cX1_state 56 = .ok (.iconst 3, 1) := by decide +kernel
theorem dX1_state_57 : decode cX1_state 57 = .ok (.if_icmp .ne 20, 3) := by decide +kernel
theorem dX1_state_60 : decode cX1_state 60 = .ok (.aload_n 0, 1) := by decide +kernel
theorem dX1_state_61 : decode cX1_state 61 = .ok (.getfield 55, 3) := by decide +kernel
theorem dX1_state_64 : decode cX1_state 64 = .ok (.aload_n 0, 1) := by decide +kernel
theorem dX1_state_65 : decode cX1_state 65 = .ok (.getfield 35, 3) := by decide +kernel
theorem dX1_state_68 : decode cX1_state 68 = .ok (.iload_n 1, 1) := by decide +kernel
theorem dX1_state_69 : decode cX1_state 69 = .ok (.iaload, 1) := by decide +kernel
theorem dX1_state_70 : decode cX1_state 70 = .ok (.if_icmp .ge 7, 3) := by decide +kernel
theorem dX1_state_73 : decode cX1_state 73 = .ok (.iconst 1, 1) := by decide +kernel
theorem dX1_state_74 : decode cX1_state 74 = .ok (.goto 4, 3) := by decide +kernel
theorem dX1_state_77 : decode cX1_state 77 = .ok (.iconst 0, 1) := by decide +kernel
theorem dX1_state_78 : decode cX1_state 78 = .ok (.istore_n 2, 1) := by decide +kernel
theorem dX1_state_79 : decode cX1_state 79 = .ok (.iload_n 2, 1) := by decide +kernel
theorem dX1_state_80 : decode cX1_state 80 = .ok (.ifCond .eq 7, 3) := by decide +kernel
theorem dX1_state_83 : decode cX1_state 83 = .ok (.iconst 3, 1) := by decide +kernel
theorem dX1_state_84 : decode cX1_state 84 = .ok (.goto 4, 3) := by decide +kernel
theorem dX1_state_87 : decode cX1_state 87 = .ok (.iconst 1, 1) := by decide +kernel
theorem dX1_state_88 : decode cX1_state 88 = .ok (.ireturn, 1) := by decide +kernel
theorem dX1_add_0 : decode cX1_add 0 = .ok (.aload_n 0, 1) := by decide +kernel
theorem dX1_add_1 : decode cX1_add 1 = .ok (.dup, 1) := by decide +kernel
theorem dX1_add_2 : decode cX1_add 2 = .ok (.getfield 58, 3) := by decide +kernel
theorem dX1_add_5 : decode cX1_add 5 = .ok (.iconst 1, 1) := by decide +kernel
theorem dX1_add_6 : decode cX1_add 6 = .ok (.iadd, 1) := by decide +kernel
theorem dX1_add_7 : decode cX1_add 7 = .ok (.putfield 58, 3) := by decide +kernel
theorem dX1_add_10 : decode cX1_add 10 = .ok (.aload_n 0, 1) := by decide +kernel
theorem dX1_add_11 : decode cX1_add 11 = .ok (.getfield 7, 3) := by decide +kernel
theorem dX1_add_14 : decode cX1_add 14 = .ok (.aload_n 0, 1) := by decide +kernel
theorem dX1_add_15 : decode cX1_add 15 = .ok (.getfield 45, 3) := by decide +kernel
theorem dX1_add_18 : decode cX1_add 18 = .ok (.aload_n 0, 1) := by decide +kernel
theorem dX1_add_19 : decode cX1_add 19 = .ok (.getfield 58, 3) := by decide +kernel
theorem dX1_add_22 : decode cX1_add 22 = .ok (.iastore, 1) := by decide +kernel
theorem dX1_add_23 : decode cX1_add 23 = .ok (.aload_n 0, 1) := by decide +kernel
theorem dX1_add_24 : decode cX1_add 24 = .ok (.getfield 13, 3) := by decide +kernel
theorem dX1_add_27 : decode cX1_add 27 = .ok (.aload_n 0, 1) := by decide +kernel
theorem dX1_add_28 : decode cX1_add 28 = .ok (.getfield 45, 3) := by decide +kernel
theorem dX1_add_31 : decode cX1_add 31 = .ok (.iload_n 1, 1) := by decide +kernel
theorem dX1_add_32 : decode cX1_add 32 = .ok (.iastore, 1) := by decide +kernel
theorem dX1_add_33 : decode cX1_add 33 = .ok (.aload_n 0, 1) := by decide +kernel
theorem dX1_add_34 : decode cX1_add 34 = .ok (.getfield 16, 3) := by decide +kernel
theorem dX1_add_37 : decode cX1_add 37 = .ok (.aload_n 0, 1) := by decide +kernel
theorem dX1_add_38 : decode cX1_add 38 = .ok (.getfield 45, 3) := by decide +kernel
theorem dX1_add_41 : decode cX1_add 41 = .ok (.iload_n 2, 1) := by decide +kernel
theorem dX1_add_42 : decode cX1_add 42 = .ok (.iastore, 1) := by decide +kernel
theorem dX1_add_43 : decode cX1_add 43 = .ok (.aload_n 0, 1) := by decide +kernel
theorem dX1_add_44 : decode cX1_add 44 = .ok (.getfield 19, 3) := by decide +kernel
theorem dX1_add_47 : decode cX1_add 47 = .ok (.aload_n 0, 1) := by decide +kernel
theorem dX1_add_48 : decode cX1_add 48 = .ok (.getfield 45, 3) := by decide +kernel
theorem dX1_add_51 : decode cX1_add 51 = .ok (.iconst 0, 1) := by decide +kernel
theorem dX1_add_52 : decode cX1_add 52 = .ok (.bastore, 1) := by decide +kernel
theorem dX1_add_53 : decode cX1_add 53 = .ok (.aload_n 0, 1) := by decide +kernel
theorem dX1_add_54 : decode cX1_add 54 = .ok (.getfield 23, 3) := by decide +kernel
theorem dX1_add_57 : decode cX1_add 57 = .ok (.aload_n 0, 1) := by decide +kernel
theorem dX1_add_58 : decode cX1_add 58 = .ok (.getfield 45, 3) := by decide +kernel
theorem dX1_add_61 : decode cX1_add 61 = .ok (.iconst 0, 1) := by decide +kernel
theorem dX1_add_62 : decode cX1_add 62 = .ok (.iastore, 1) := by decide +kernel
theorem dX1_add_63 : decode cX1_add 63 = .ok (.aload_n 0, 1) := by decide +kernel
theorem dX1_add_64 : decode cX1_add 64 = .ok (.getfield 26, 3) := by decide +kernel
theorem dX1_add_67 : decode cX1_add 67 = .ok (.aload_n 0, 1) := by decide +kernel
theorem dX1_add_68 : decode cX1_add 68 = .ok (.getfield 45, 3) := by decide +kernel
theorem dX1_add_71 : decode cX1_add 71 = .ok (.iconst 0, 1) := by decide +kernel
theorem dX1_add_72 : decode cX1_add 72 = .ok (.bastore, 1) := by decide +kernel
theorem dX1_add_73 : decode cX1_add 73 = .ok (.aload_n 0, 1) := by decide +kernel
theorem dX1_add_74 : decode cX1_add 74 = .ok (.getfield 29, 3) := by decide +kernel
theorem dX1_add_77 : decode cX1_add 77 = .ok (.aload_n 0, 1) := by decide +kernel
theorem dX1_add_78 : decode cX1_add 78 = .ok (.getfield 45, 3) := by decide +kernel
theorem dX1_add_81 : decode cX1_add 81 = .ok (.iconst (-1), 1) := by decide +kernel
theorem dX1_add_82 : decode cX1_add 82 = .ok (.iastore, 1) := by decide +kernel
theorem dX1_add_83 : decode cX1_add 83 = .ok (.aload_n 0, 1) := by decide +kernel
theorem dX1_add_84 : decode cX1_add 84 = .ok (.getfield 32, 3) := by decide +kernel
theorem dX1_add_87 : decode cX1_add 87 = .ok (.aload_n 0, 1) := by decide +kernel
theorem dX1_add_88 : decode cX1_add 88 = .ok (.getfield 45, 3) := by decide +kernel
theorem dX1_add_91 : decode cX1_add 91 = .ok (.iconst 0, 1) := by decide +kernel
theorem dX1_add_92 : decode cX1_add 92 = .ok (.iastore, 1) := by decide +kernel
theorem dX1_add_93 : decode cX1_add 93 = .ok (.aload_n 0, 1) := by decide +kernel
theorem dX1_add_94 : decode cX1_add 94 = .ok (.dup, 1) := by decide +kernel
theorem dX1_add_95 : decode cX1_add 95 = .ok (.getfield 45, 3) := by decide +kernel
theorem dX1_add_98 : decode cX1_add 98 = .ok (.iconst 1, 1) := by decide +kernel
theorem dX1_add_99 : decode cX1_add 99 = .ok (.iadd, 1) := by decide +kernel
theorem dX1_add_100 : decode cX1_add 100 = .ok (.putfield 45, 3) := by decide +kernel
theorem dX1_add_103 : decode cX1_add 103 = .ok (.iload_n 1, 1) := by decide +kernel
theorem dX1_add_104 : decode cX1_add 104 = .ok (.ireturn, 1) := by decide +kernel
theorem dX1_remove_0 : decode cX1_remove 0 = .ok (.aload_n 0, 1) := by decide +kernel
theorem dX1_remove_1 : decode cX1_remove 1 = .ok (.dup, 1) := by decide +kernel
theorem dX1_remove_2 : decode cX1_remove 2 = .ok (.getfield 45, 3) := by decide +kernel
theorem dX1_remove_5 : decode cX1_remove 5 = .ok (.iconst 1, 1) := by decide +kernel
theorem dX1_remove_6 : decode cX1_remove 6 = .ok (.isub, 1) := by decide +kernel
theorem dX1_remove_7 : decode cX1_remove 7 = .ok (.putfield 45, 3) := by decide +kernel
theorem dX1_remove_10 : decode cX1_remove 10 = .ok (.iload_n 1, 1) := by decide +kernel
theorem dX1_remove_11 : decode cX1_remove 11 = .ok (.istore_n 2, 1) := by decide +kernel
theorem dX1_remove_12 : decode cX1_remove 12 = .ok (.iload_n 2, 1) := by decide +kernel
theorem dX1_remove_13 : decode cX1_remove 13 = .ok (.aload_n 0, 1) := by decide +kernel
theorem dX1_remove_14 : decode cX1_remove 14 = .ok (.getfield 45, 3) := by decide +kernel
theorem dX1_remove_17 : decode cX1_remove 17 = .ok (.if_icmp .ge 135, 3) := by decide +kernel
theorem dX1_remove_20 : decode cX1_remove 20 = .ok (.aload_n 0, 1) := by decide +kernel
theorem dX1_remove_21 : decode cX1_remove 21 = .ok (.getfield 7, 3) := by decide +kernel
theorem dX1_remove_24 : decode cX1_remove 24 = .ok (.iload_n 2, 1) := by decide +kernel
theorem dX1_remove_25 : decode cX1_remove 25 = .ok (.aload_n 0, 1) := by decide +kernel
theorem dX1_remove_26 : decode cX1_remove 26 = .ok (.getfield 7, 3) := by decide +kernel
theorem dX1_remove_29 : decode cX1_remove 29 = .ok (.iload_n 2, 1) := by decide +kernel
theorem dX1_remove_30 : decode cX1_remove 30 = .ok (.iconst 1, 1) := by decide +kernel
theorem dX1_remove_31 : decode cX1_remove 31 = .ok (.iadd, 1) := by decide +kernel
theorem dX1_remove_32 : decode cX1_remove 32 = .ok (.iaload, 1) := by decide +kernel
theorem dX1_remove_33 : decode cX1_remove 33 = .ok (.iastore, 1) := by decide +kernel
theorem dX1_remove_34 : decode cX1_remove 34 = .ok (.aload_n 0, 1) := by decide +kernel
theorem dX1_remove_35 : decode cX1_remove 35 = .ok (.getfield 13, 3) := by decide +kernel
theorem dX1_remove_38 : decode cX1_remove 38 = .ok (.iload_n 2, 1) := by decide +kernel
theorem dX1_remove_39 : decode cX1_remove 39 = .ok (.aload_n 0, 1) := by decide +kernel
theorem dX1_remove_40 : decode cX1_remove 40 = .ok (.getfield 13, 3) := by decide +kernel
theorem dX1_remove_43 : decode cX1_remove 43 = .ok (.iload_n 2, 1) := by decide +kernel
theorem dX1_remove_44 : decode cX1_remove 44 = .ok (.iconst 1, 1) := by decide +kernel
theorem dX1_remove_45 : decode cX1_remove 45 = .ok (.iadd, 1) := by decide +kernel
theorem dX1_remove_46 : decode cX1_remove 46 = .ok (.iaload, 1) := by decide +kernel
theorem dX1_remove_47 : decode cX1_remove 47 = .ok (.iastore, 1) := by decide +kernel
theorem dX1_remove_48 : decode cX1_remove 48 = .ok (.aload_n 0, 1) := by decide +kernel
theorem dX1_remove_49 : decode cX1_remove 49 = .ok (.getfield 16, 3) := by decide +kernel
theorem dX1_remove_52 : decode cX1_remove 52 = .ok (.iload_n 2, 1) := by decide +kernel
theorem dX1_remove_53 : decode cX1_remove 53 = .ok (.aload_n 0, 1) := by decide +kernel
theorem dX1_remove_54 : decode cX1_remove 54 = .ok (.getfield 16, 3) := by decide +kernel
theorem dX1_remove_57 : decode cX1_remove 57 = .ok (.iload_n 2, 1) := by decide +kernel
theorem dX1_remove_58 : decode cX1_remove 58 = .ok (.iconst 1, 1) := by decide +kernel
theorem dX1_remove_59 : decode cX1_remove 59 = .ok (.iadd, 1) := by decide +kernel
theorem dX1_remove_60 : decode cX1_remove 60 = .ok (.iaload, 1) := by decide +kernel
theorem dX1_remove_61 : decode cX1_remove 61 = .ok (.iastore, 1) := by decide +kernel
theorem dX1_remove_62 : decode cX1_remove 62 = .ok (.aload_n 0, 1) := by decide +kernel
theorem dX1_remove_63 : decode cX1_remove 63 = .ok (.getfield 19, 3) := by decide +kernel
theorem dX1_remove_66 : decode cX1_remove 66 = .ok (.iload_n 2, 1) := by decide +kernel
theorem dX1_remove_67 : decode cX1_remove 67 = .ok (.aload_n 0, 1) := by decide +kernel
theorem dX1_remove_68 : decode cX1_remove 68 = .ok (.getfield 19, 3) := by decide +kernel
theorem dX1_remove_71 : decode cX1_remove 71 = .ok (.iload_n 2, 1) := by decide +kernel
theorem dX1_remove_72 : decode cX1_remove 72 = .ok (.iconst 1, 1) := by decide +kernel
theorem dX1_remove_73 : decode cX1_remove 73 = .ok (.iadd, 1) := by decide +kernel
theorem dX1_remove_74 : decode cX1_remove 74 = .ok (.baload, 1) := by decide +kernel
theorem dX1_remove_75 : decode cX1_remove 75 = .ok (.bastore, 1) := by decide +kernel
theorem dX1_remove_76 : decode cX1_remove 76 = .ok (.aload_n 0, 1) := by decide +kernel
theorem dX1_remove_77 : decode cX1_remove 77 = .ok (.getfield 23, 3) := by decide +kernel
theorem dX1_remove_80 : decode cX1_remove 80 = .ok (.iload_n 2, 1) := by decide +kernel
theorem dX1_remove_81 : decode cX1_remove 81 = .ok (.aload_n 0, 1) := by decide +kernel
theorem dX1_remove_82 : decode cX1_remove 82 = .ok (.getfield 23, 3) := by decide +kernel
theorem dX1_remove_85 : decode cX1_remove 85 = .ok (.iload_n 2, 1) := by decide +kernel
theorem dX1_remove_86 : decode cX1_remove 86 = .ok (.iconst 1, 1) := by decide +kernel
theorem dX1_remove_87 : decode cX1_remove 87 = .ok (.iadd, 1) := by decide +kernel
theorem dX1_remove_88 : decode cX1_remove 88 = .ok (.iaload, 1) := by decide +kernel
theorem dX1_remove_89 : decode cX1_remove 89 = .ok (.iastore, 1) := by decide +kernel
theorem dX1_remove_90 : decode cX1_remove 90 = .ok (.aload_n 0, 1) := by decide +kernel
theorem dX1_remove_91 : decode cX1_remove 91 = .ok (.getfield 26, 3) := by decide +kernel
theorem dX1_remove_94 : decode cX1_remove 94 = .ok (.iload_n 2, 1) := by decide +kernel
theorem dX1_remove_95 : decode cX1_remove 95 = .ok (.aload_n 0, 1) := by decide +kernel
theorem dX1_remove_96 : decode cX1_remove 96 = .ok (.getfield 26, 3) := by decide +kernel
theorem dX1_remove_99 : decode cX1_remove 99 = .ok (.iload_n 2, 1) := by decide +kernel
theorem dX1_remove_100 : decode cX1_remove 100 = .ok (.iconst 1, 1) := by decide +kernel
theorem dX1_remove_101 : decode cX1_remove 101 = .ok (.iadd, 1) := by decide +kernel
theorem dX1_remove_102 : decode cX1_remove 102 = .ok (.baload, 1) := by decide +kernel
theorem dX1_remove_103 : decode cX1_remove 103 = .ok (.bastore, 1) := by decide +kernel
theorem dX1_remove_104 : decode cX1_remove 104 = .ok (.aload_n 0, 1) := by decide +kernel
theorem dX1_remove_105 : decode cX1_remove 105 = .ok (.getfield 29, 3) := by decide +kernel
theorem dX1_remove_108 : decode cX1_remove 108 = .ok (.iload_n 2, 1) := by decide +kernel
theorem dX1_remove_109 : decode cX1_remove 109 = .ok (.aload_n 0, 1) := by decide +kernel
theorem dX1_remove_110 : decode cX1_remove 110 = .ok (.getfield 29, 3) := by decide +kernel
theorem dX1_remove_113 : decode cX1_remove 113 = .ok (.iload_n 2, 1) := by decide +kernel
theorem dX1_remove_114 : decode cX1_remove 114 = .ok (.iconst 1, 1) := by decide +kernel
theorem dX1_remove_115 : decode cX1_remove 115 = .ok (.iadd, 1) := by decide +kernel
theorem dX1_remove_116 : decode cX1_remove 116 = .ok (.iaload, 1) := by decide +kernel
theorem dX1_remove_117 : decode cX1_remove 117 = .ok (.iastore, 1) := by decide +kernel
theorem dX1_remove_118 : decode cX1_remove 118 = .ok (.aload_n 0, 1) := by decide +kernel
theorem dX1_remove_119 : decode cX1_remove 119 = .ok (.getfield 32, 3) := by decide +kernel
theorem dX1_remove_122 : decode cX1_remove 122 = .ok (.iload_n 2, 1) := by decide +kernel
theorem dX1_remove_123 : decode cX1_remove 123 = .ok (.aload_n 0, 1) := by decide +kernel
theorem dX1_remove_124 : decode cX1_remove 124 = .ok (.getfield 32, 3) := by decide +kernel
theorem dX1_remove_127 : decode cX1_remove 127 = .ok (.iload_n 2, 1) := by decide +kernel
theorem dX1_remove_128 : decode cX1_remove 128 = .ok (.iconst 1, 1) := by decide +kernel
theorem dX1_remove_129 : decode cX1_remove 129 = .ok (.iadd, 1) := by decide +kernel
theorem dX1_remove_130 : decode cX1_remove 130 = .ok (.iaload, 1) := by decide +kernel
theorem dX1_remove_131 : decode cX1_remove 131 = .ok (.iastore, 1) := by decide +kernel
theorem dX1_remove_132 : decode cX1_remove 132 = .ok (.aload_n 0, 1) := by decide +kernel
theorem dX1_remove_133 : decode cX1_remove 133 = .ok (.getfield 35, 3) := by decide +kernel
theorem dX1_remove_136 : decode cX1_remove 136 = .ok (.iload_n 2, 1) := by decide +kernel
theorem dX1_remove_137 : decode cX1_remove 137 = .ok (.aload_n 0, 1) := by decide +kernel
theorem dX1_remove_138 : decode cX1_remove 138 = .ok (.getfield 35, 3) := by decide +kernel
theorem dX1_remove_141 : decode cX1_remove 141 = .ok (.iload_n 2, 1) := by decide +kernel
theorem dX1_remove_142 : decode cX1_remove 142 = .ok (.iconst 1, 1) := by decide +kernel
theorem dX1_remove_143 : decode cX1_remove 143 = .ok (.iadd, 1) := by decide +kernel
theorem dX1_remove_144 : decode cX1_remove 144 = .ok (.iaload, 1) := by decide +kernel
theorem dX1_remove_145 : decode cX1_remove 145 = .ok (.iastore, 1) := by decide +kernel
theorem dX1_remove_146 : decode cX1_remove 146 = .ok (.iinc 2 1, 3) := by decide +kernel
theorem dX1_remove_149 : decode cX1_remove 149 = .ok (.goto (-137), 3) := by decide +kernel
theorem dX1_remove_152 : decode cX1_remove 152 = .ok (.return_, 1) := by decide +kernel
theorem dX1_first_0 : decode cX1_first 0 = .ok (.aload_n 0, 1) := by decide +kernel
theorem dX1_first_1 : decode cX1_first 1 = .ok (.iconst 0, 1) := by decide +kernel
theorem dX1_first_2 : decode cX1_first 2 = .ok (.putfield 42, 3) := by decide +kernel
theorem dX1_first_5 : decode cX1_first 5 = .ok (.aload_n 0, 1) := by decide +kernel
theorem dX1_first_6 : decode cX1_first 6 = .ok (.getfield 45, 3) := by decide +kernel
theorem dX1_first_9 : decode cX1_first 9 = .ok (.ifCond .le 5, 3) := by decide +kernel
theorem dX1_first_12 : decode cX1_first 12 = .ok (.iconst 0, 1) := by decide +kernel
theorem dX1_first_13 : decode cX1_first 13 = .ok (.ireturn, 1) := by decide +kernel
theorem dX1_first_14 : decode cX1_first 14 = .ok (.aload_n 0, 1) := by decide +kernel
theorem dX1_first_15 : decode cX1_first 15 = .ok (.iconst 0, 1) := by decide +kernel
theorem dX1_first_16 : decode cX1_first 16 = .ok (.putfield 55, 3) := by decide +kernel
theorem dX1_first_19 : decode cX1_first 19 = .ok (.aload_n 0, 1) := by decide +kernel
theorem dX1_first_20 : decode cX1_first 20 = .ok (.iconst 0, 1) := by decide +kernel
theorem dX1_first_21 : decode cX1_first 21 = .ok (.putfield 58, 3) := by decide +kernel
theorem dX1_first_24 : decode cX1_first 24 = .ok (.aload_n 0, 1) := by decide +kernel
theorem dX1_first_25 : decode cX1_first 25 = .ok (.bipush 14, 2) := by decide +kernel
theorem dX1_first_27 : decode cX1_first 27 = .ok (.putfield 61, 3) := by decide +kernel
theorem dX1_first_30 : decode cX1_first 30 = .ok (.aload_n 0, 1) := by decide +kernel
theorem dX1_first_31 : decode cX1_first 31 = .ok (.iconst 0, 1) := by decide +kernel
theorem dX1_first_32 : decode cX1_first 32 = .ok (.iconst 0, 1) := by decide +kernel
theorem dX1_first_33 : decode cX1_first 33 = .ok (.invokevirtual 64, 3) := by decide +kernel
theorem dX1_first_36 : decode cX1_first 36 = .ok (.istore_n 1, 1) := by decide +kernel
theorem dX1_first_37 : decode cX1_first 37 = .ok (.iconst 1, 1) := by decide +kernel
theorem dX1_first_38 : decode cX1_first 38 = .ok (.ireturn, 1) := by decide +kernel
theorem dX1_pick_0 : decode cX1_pick 0 = .ok (.aload_n 0, 1) := by decide +kernel
theorem dX1_pick_1 : decode cX1_pick 1 = .ok (.iconst 0, 1) := by decide +kernel
theorem dX1_pick_2 : decode cX1_pick 2 = .ok (.putfield 42, 3) := by decide +kernel
theorem dX1_pick_5 : decode cX1_pick 5 = .ok (.iload_n 1, 1) := by decide +kernel
theorem dX1_pick_6 : decode cX1_pick 6 = .ok (.ifCond .lt 11, 3) := by decide +kernel
theorem dX1_pick_9 : decode cX1_pick 9 = .ok (.iload_n 1, 1) := by decide +kernel
theorem dX1_pick_10 : decode cX1_pick 10 = .ok (.aload_n 0, 1) := by decide +kernel
theorem dX1_pick_11 : decode cX1_pick 11 = .ok (.getfield 38, 3) := by decide +kernel
theorem dX1_pick_14 : decode cX1_pick 14 = .ok (.if_icmp .lt 5, 3) := by decide +kernel
theorem dX1_pick_17 : decode cX1_pick 17 = .ok (.iconst (-1), 1) := by decide +kernel
theorem dX1_pick_18 : decode cX1_pick 18 = .ok (.ireturn, 1) := by decide +kernel
theorem dX1_pick_19 : decode cX1_pick 19 = .ok (.aload_n 0, 1) := by decide +kernel
theorem dX1_pick_20 : decode cX1_pick 20 = .ok (.iload_n 1, 1) := by decide +kernel
theorem dX1_pick_21 : decode cX1_pick 21 = .ok (.invokevirtual 68, 3) := by decide +kernel
theorem dX1_pick_24 : decode cX1_pick 24 = .ok (.istore_n 2, 1) := by decide +kernel
theorem dX1_pick_25 : decode cX1_pick 25 = .ok (.iconst 1, 1) := by decide +kernel
theorem dX1_pick_26 : decode cX1_pick 26 = .ok (.istore_n 3, 1) := by decide +kernel
theorem dX1_pick_27 : decode cX1_pick 27 = .ok (.iload_n 3, 1) := by decide +kernel
theorem dX1_pick_28 : decode cX1_pick 28 = .ok (.bipush 15, 2) := by decide +kernel
theorem dX1_pick_30 : decode cX1_pick 30 = .ok (.if_icmp .gt 50, 3) := by decide +kernel
theorem dX1_pick_33 : decode cX1_pick 33 = .ok (.iload_n 2, 1) := by decide +kernel
theorem dX1_pick_34 : decode cX1_pick 34 = .ok (.ifCond .ge 46, 3) := by decide +kernel
theorem dX1_pick_37 : decode cX1_pick 37 = .ok (.aload_n 0, 1) := by decide +kernel
theorem dX1_pick_38 : decode cX1_pick 38 = .ok (.aload_n 0, 1) := by decide +kernel
theorem dX1_pick_39 : decode cX1_pick 39 = .ok (.getfield 61, 3) := by decide +kernel
theorem dX1_pick_42 : decode cX1_pick 42 = .ok (.iload_n 3, 1) := by decide +kernel
theorem dX1_pick_43 : decode cX1_pick 43 = .ok (.iadd, 1) := by decide +kernel
theorem dX1_pick_44 : decode cX1_pick 44 = .ok (.bipush 15, 2) := by decide +kernel
theorem dX1_pick_46 : decode cX1_pick 46 = .ok (.irem, 1) := by decide +kernel
theorem dX1_pick_47 : decode cX1_pick 47 = .ok (.invokevirtual 48, 3) := by decide +kernel
theorem dX1_pick_50 : decode cX1_pick 50 = .ok (.istore 4, 2) := by decide +kernel
theorem dX1_pick_52 : decode cX1_pick 52 = .ok (.iload 4, 2) := by decide +kernel
theorem dX1_pick_54 : decode cX1_pick 54 = .ok (.ifCond .lt 18, 3) := by decide +kernel
theorem dX1_pick_57 : decode cX1_pick 57 = .ok (.aload_n 0, 1) := by decide +kernel
theorem dX1_pick_58 : decode cX1_pick 58 = .ok (.iload 4, 2) := by decide +kernel
theorem dX1_pick_60 : decode cX1_pick 60 = .ok (.invokevirtual 71, 3) := by decide +kernel
theorem dX1_pick_63 : decode cX1_pick 63 = .ok (.iconst 1, 1) := by decide +kernel
theorem dX1_pick_64 : decode cX1_pick 64 = .ok (.if_icmp .ne 8, 3) := by decide +kernel
theorem dX1_pick_67 : decode cX1_pick 67 = .ok (.iload 4, 2) := by decide +kernel
theorem dX1_pick_69 : decode cX1_pick 69 = .ok (.goto 4, 3) := by decide +kernel
theorem dX1_pick_72 : decode cX1_pick 72 = .ok (.iconst (-1), 1) := by decide +kernel
theorem dX1_pick_73 : decode cX1_pick 73 = .ok (.istore_n 2, 1) := by decide +kernel
theorem dX1_pick_74 : decode cX1_pick 74 = .ok (.iinc 3 1, 3) := by decide +kernel
theorem dX1_pick_77 : decode cX1_pick 77 = .ok (.goto (-50), 3) := by decide +kernel
theorem dX1_pick_80 : decode cX1_pick 80 = .ok (.iload_n 2, 1) := by decide +kernel
theorem dX1_pick_81 : decode cX1_pick 81 = .ok (.ifCond .ge 5, 3) := by decide +kernel
theorem dX1_pick_84 : decode cX1_pick 84 = .ok (.iconst (-1), 1) := by decide +kernel
theorem dX1_pick_85 : decode cX1_pick 85 = .ok (.ireturn, 1) := by decide +kernel
theorem dX1_pick_86 : decode cX1_pick 86 = .ok (.aload_n 0, 1) := by decide +kernel
theorem dX1_pick_87 : decode cX1_pick 87 = .ok (.getfield 29, 3) := by decide +kernel
theorem dX1_pick_90 : decode cX1_pick 90 = .ok (.iload_n 2, 1) := by decide +kernel
theorem dX1_pick_91 : decode cX1_pick 91 = .ok (.iaload, 1) := by decide +kernel
theorem dX1_pick_92 : decode cX1_pick 92 = .ok (.iload_n 1, 1) := by decide +kernel
theorem dX1_pick_93 : decode cX1_pick 93 = .ok (.if_icmp .eq 27, 3) := by decide +kernel
theorem dX1_pick_96 : decode cX1_pick 96 = .ok (.aload_n 0, 1) := by decide +kernel
theorem dX1_pick_97 : decode cX1_pick 97 = .ok (.getfield 29, 3) := by decide +kernel
theorem dX1_pick_100 : decode cX1_pick 100 = .ok (.iload_n 2, 1) := by decide +kernel
theorem dX1_pick_101 : decode cX1_pick 101 = .ok (.iload_n 1, 1) := by decide +kernel
theorem dX1_pick_102 : decode cX1_pick 102 = .ok (.iastore, 1) := by decide +kernel
theorem dX1_pick_103 : decode cX1_pick 103 = .ok (.aload_n 0, 1) := by decide +kernel
theorem dX1_pick_104 : decode cX1_pick 104 = .ok (.getfield 32, 3) := by decide +kernel
theorem dX1_pick_107 : decode cX1_pick 107 = .ok (.iload_n 2, 1) := by decide +kernel
theorem dX1_pick_108 : decode cX1_pick 108 = .ok (.iconst 0, 1) := by decide +kernel
theorem dX1_pick_109 : decode cX1_pick 109 = .ok (.iastore, 1) := by decide +kernel
theorem dX1_pick_110 : decode cX1_pick 110 = .ok (.aload_n 0, 1) := by decide +kernel
theorem dX1_pick_111 : decode cX1_pick 111 = .ok (.aload_n 0, 1) := by decide +kernel
theorem dX1_pick_112 : decode cX1_pick 112 = .ok (.getfield 13, 3) := by decide +kernel
theorem dX1_pick_115 : decode cX1_pick 115 = .ok (.iload_n 2, 1) := by decide +kernel
theorem dX1_pick_116 : decode cX1_pick 116 = .ok (.iaload, 1) := by decide +kernel
theorem dX1_pick_117 : decode cX1_pick 117 = .ok (.putfield 61, 3) := by decide +kernel
theorem dX1_pick_120 : decode cX1_pick 120 = .ok (.aload_n 0, 1) := by decide +kernel
theorem dX1_pick_121 : decode cX1_pick 121 = .ok (.getfield 13, 3) := by decide +kernel
theorem dX1_pick_124 : decode cX1_pick 124 = .ok (.iload_n 2, 1) := by decide +kernel
theorem dX1_pick_125 : decode cX1_pick 125 = .ok (.iaload, 1) := by decide +kernel
theorem dX1_pick_126 : decode cX1_pick 126 = .ok (.ireturn, 1) := by decide +kernel
theorem dX1_fork_0 : decode cX1_fork 0 = .ok (.aload_n 0, 1) := by decide +kernel
theorem dX1_fork_1 : decode cX1_fork 1 = .ok (.iconst 0, 1) := by decide +kernel
theorem dX1_fork_2 : decode cX1_fork 2 = .ok (.putfield 42, 3) := by decide +kernel
theorem dX1_fork_5 : decode cX1_fork 5 = .ok (.aload_n 0, 1) := by decide +kernel
theorem dX1_fork_6 : decode cX1_fork 6 = .ok (.iload_n 1, 1) := by decide +kernel
theorem dX1_fork_7 : decode cX1_fork 7 = .ok (.invokevirtual 68, 3) := by decide +kernel
theorem dX1_fork_10 : decode cX1_fork 10 = .ok (.istore_n 2, 1) := by decide +kernel
theorem dX1_fork_11 : decode cX1_fork 11 = .ok (.aload_n 0, 1) := by decide +kernel
theorem dX1_fork_12 : decode cX1_fork 12 = .ok (.invokevirtual 74, 3) := by decide +kernel
theorem dX1_fork_15 : decode cX1_fork 15 = .ok (.istore_n 3, 1) := by decide +kernel
theorem dX1_fork_16 : decode cX1_fork 16 = .ok (.iload_n 2, 1) := by decide +kernel
theorem dX1_fork_17 : decode cX1_fork 17 = .ok (.ifCond .lt 9, 3) := by decide +kernel
theorem dX1_fork_20 : decode cX1_fork 20 = .ok (.iload_n 3, 1) := by decide +kernel
theorem dX1_fork_21 : decode cX1_fork 21 = .ok (.bipush 15, 2) := by decide +kernel
theorem dX1_fork_23 : decode cX1_fork 23 = .ok (.if_icmp .ne 7, 3) := by decide +kernel
theorem dX1_fork_26 : decode cX1_fork 26 = .ok (.iconst (-1), 1) := by decide +kernel
theorem dX1_fork_27 : decode cX1_fork 27 = .ok (.goto 14, 3) := by decide +kernel
theorem dX1_fork_30 : decode cX1_fork 30 = .ok (.aload_n 0, 1) := by decide +kernel
theorem dX1_fork_31 : decode cX1_fork 31 = .ok (.iload_n 3, 1) := by decide +kernel
theorem dX1_fork_32 : decode cX1_fork 32 = .ok (.aload_n 0, 1) := by decide +kernel
theorem dX1_fork_33 : decode cX1_fork 33 = .ok (.getfield 7, 3) := by decide +kernel
theorem dX1_fork_36 : decode cX1_fork 36 = .ok (.iload_n 2, 1) := by decide +kernel
theorem dX1_fork_37 : decode cX1_fork 37 = .ok (.iaload, 1) := by decide +kernel
theorem dX1_fork_38 : decode cX1_fork 38 = .ok (.invokevirtual 64, 3) := by decide +kernel
theorem dX1_fork_41 : decode cX1_fork 41 = .ok (.ireturn, 1) := by decide +kernel
theorem dX1_exit_0 : decode cX1_exit 0 = .ok (.aload_n 0, 1) := by decide +kernel
theorem dX1_exit_1 : decode cX1_exit 1 = .ok (.iconst 0, 1) := by decide +kernel
theorem dX1_exit_2 : decode cX1_exit 2 = .ok (.putfield 42, 3) := by decide +kernel
theorem dX1_exit_5 : decode cX1_exit 5 = .ok (.aload_n 0, 1) := by decide +kernel
theorem dX1_exit_6 : decode cX1_exit 6 = .ok (.iload_n 1, 1) := by decide +kernel
theorem dX1_exit_7 : decode cX1_exit 7 = .ok (.invokevirtual 68, 3) := by decide +kernel
theorem dX1_exit_10 : decode cX1_exit 10 = .ok (.istore_n 3, 1) := by decide +kernel
theorem dX1_exit_11 : decode cX1_exit 11 = .ok (.iload_n 3, 1) := by decide +kernel
theorem dX1_exit_12 : decode cX1_exit 12 = .ok (.ifCond .ge 5, 3) := by decide +kernel
theorem dX1_exit_15 : decode cX1_exit 15 = .ok (.iconst (-1), 1) := by decide +kernel
theorem dX1_exit_16 : decode cX1_exit 16 = .ok (.ireturn, 1) := by decide +kernel
theorem dX1_exit_17 : decode cX1_exit 17 = .ok (.aload_n 0, 1) := by decide +kernel
theorem dX1_exit_18 : decode cX1_exit 18 = .ok (.getfield 13, 3) := by decide +kernel
theorem dX1_exit_21 : decode cX1_exit 21 = .ok (.iload_n 3, 1) := by decide +kernel
theorem dX1_exit_22 : decode cX1_exit 22 = .ok (.iaload, 1) := by decide +kernel
theorem dX1_exit_23 : decode cX1_exit 23 = .ok (.istore 4, 2) := by decide +kernel
theorem dX1_exit_25 : decode cX1_exit 25 = .ok (.aload_n 0, 1) := by decide +kernel
theorem dX1_exit_26 : decode cX1_exit 26 = .ok (.getfield 7, 3) := by decide +kernel
theorem dX1_exit_29 : decode cX1_exit 29 = .ok (.iload_n 3, 1) := by decide +kernel
theorem dX1_exit_30 : decode cX1_exit 30 = .ok (.iaload, 1) := by decide +kernel
theorem dX1_exit_31 : decode cX1_exit 31 = .ok (.iconst 1, 1) := by decide +kernel
theorem dX1_exit_32 : decode cX1_exit 32 = .ok (.if_icmp .ne 16, 3) := by decide +kernel
theorem dX1_exit_35 : decode cX1_exit 35 = .ok (.aload_n 0, 1) := by decide +kernel
theorem dX1_exit_36 : decode cX1_exit 36 = .ok (.iload_n 2, 1) := by decide +kernel
theorem dX1_exit_37 : decode cX1_exit 37 = .ok (.putfield 78, 3) := by decide +kernel
theorem dX1_exit_40 : decode cX1_exit 40 = .ok (.aload_n 0, 1) := by decide +kernel
theorem dX1_exit_41 : decode cX1_exit 41 = .ok (.iconst 0, 1) := by decide +kernel
theorem dX1_exit_42 : decode cX1_exit 42 = .ok (.putfield 45, 3) := by decide +kernel
theorem dX1_exit_45 : decode cX1_exit 45 = .ok (.iload 4, 2) := by decide +kernel
theorem dX1_exit_47 : decode cX1_exit 47 = .ok (.ireturn, 1) := by decide +kernel
theorem dX1_exit_48 : decode cX1_exit 48 = .ok (.iconst 0, 1) := by decide +kernel
theorem dX1_exit_49 : decode cX1_exit 49 = .ok (.istore 5, 2) := by decide +kernel
theorem dX1_exit_51 : decode cX1_exit 51 = .ok (.iload 5, 2) := by decide +kernel
theorem dX1_exit_53 : decode cX1_exit 53 = .ok (.aload_n 0, 1) := by decide +kernel
theorem dX1_exit_54 : decode cX1_exit 54 = .ok (.getfield 45, 3) := by decide +kernel
theorem dX1_exit_57 : decode cX1_exit 57 = .ok (.if_icmp .ge 43, 3) := by decide +kernel
theorem dX1_exit_60 : decode cX1_exit 60 = .ok (.aload_n 0, 1) := by decide +kernel
theorem dX1_exit_61 : decode cX1_exit 61 = .ok (.getfield 16, 3) := by decide +kernel
theorem dX1_exit_64 : decode cX1_exit 64 = .ok (.iload 5, 2) := by decide +kernel
theorem dX1_exit_66 : decode cX1_exit 66 = .ok (.aload_n 0, 1) := by decide +kernel
theorem dX1_exit_67 : decode cX1_exit 67 = .ok (.getfield 16, 3) := by decide +kernel
theorem dX1_exit_70 : decode cX1_exit 70 = .ok (.iload 5, 2) := by decide +kernel
theorem dX1_exit_72 : decode cX1_exit 72 = .ok (.iaload, 1) := by decide +kernel
theorem dX1_exit_73 : decode cX1_exit 73 = .ok (.aload_n 0, 1) := by decide +kernel
theorem dX1_exit_74 : decode cX1_exit 74 = .ok (.getfield 7, 3) := by decide +kernel
theorem dX1_exit_77 : decode cX1_exit 77 = .ok (.iload_n 3, 1) := by decide +kernel
theorem dX1_exit_78 : decode cX1_exit 78 = .ok (.iaload, 1) := by decide +kernel
theorem dX1_exit_79 : decode cX1_exit 79 = .ok (.if_icmp .ne 7, 3) := by decide +kernel
theorem dX1_exit_82 : decode cX1_exit 82 = .ok (.iconst 1, 1) := by decide +kernel
theorem dX1_exit_83 : decode cX1_exit 83 = .ok (.goto 10, 3) := by decide +kernel
theorem dX1_exit_86 : decode cX1_exit 86 = .ok (.aload_n 0, 1) := by decide +kernel
theorem dX1_exit_87 : decode cX1_exit 87 = .ok (.getfield 16, 3) := by decide +kernel
theorem dX1_exit_90 : decode cX1_exit 90 = .ok (.iload 5, 2) := by decide +kernel
theorem dX1_exit_92 : decode cX1_exit 92 = .ok (.iaload, 1) := by decide +kernel
theorem dX1_exit_93 : decode cX1_exit 93 = .ok (.iastore, 1) := by decide +kernel
theorem dX1_exit_94 : decode cX1_exit 94 = .ok (.iinc 5 1, 3) := by decide +kernel
theorem dX1_exit_97 : decode cX1_exit 97 = .ok (.goto (-46), 3) := by decide +kernel
theorem dX1_exit_100 : decode cX1_exit 100 = .ok (.aload_n 0, 1) := by decide +kernel
theorem dX1_exit_101 : decode cX1_exit 101 = .ok (.getfield 19, 3) := by decide +kernel
theorem dX1_exit_104 : decode cX1_exit 104 = .ok (.iload_n 3, 1) := by decide +kernel
theorem dX1_exit_105 : decode cX1_exit 105 = .ok (.iconst 1, 1) := by decide +kernel
theorem dX1_exit_106 : decode cX1_exit 106 = .ok (.bastore, 1) := by decide +kernel
theorem dX1_exit_107 : decode cX1_exit 107 = .ok (.aload_n 0, 1) := by decide +kernel
theorem dX1_exit_108 : decode cX1_exit 108 = .ok (.getfield 23, 3) := by decide +kernel
theorem dX1_exit_111 : decode cX1_exit 111 = .ok (.iload_n 3, 1) := by decide +kernel
theorem dX1_exit_112 : decode cX1_exit 112 = .ok (.iload_n 2, 1) := by decide +kernel
theorem dX1_exit_113 : decode cX1_exit 113 = .ok (.iastore, 1) := by decide +kernel
theorem dX1_exit_114 : decode cX1_exit 114 = .ok (.aload_n 0, 1) := by decide +kernel
theorem dX1_exit_115 : decode cX1_exit 115 = .ok (.getfield 29, 3) := by decide +kernel
theorem dX1_exit_118 : decode cX1_exit 118 = .ok (.iload_n 3, 1) := by decide +kernel
theorem dX1_exit_119 : decode cX1_exit 119 = .ok (.iconst (-1), 1) := by decide +kernel
theorem dX1_exit_120 : decode cX1_exit 120 = .ok (.iastore, 1) := by decide +kernel
theorem dX1_exit_121 : decode cX1_exit 121 = .ok (.iload 4, 2) := by decide +kernel
theorem dX1_exit_123 : decode cX1_exit 123 = .ok (.ireturn, 1) := by decide +kernel
theorem dX1_await_0 : decode cX1_await 0 = .ok (.aload_n 0, 1) := by decide +kernel
theorem dX1_await_1 : decode cX1_await 1 = .ok (.iconst 0, 1) := by decide +kernel
theorem dX1_await_2 : decode cX1_await 2 = .ok (.putfield 42, 3) := by decide +kernel
theorem dX1_await_5 : decode cX1_await 5 = .ok (.aload_n 0, 1) := by decide +kernel
theorem dX1_await_6 : decode cX1_await 6 = .ok (.iload_n 1, 1) := by decide +kernel
theorem dX1_await_7 : decode cX1_await 7 = .ok (.invokevirtual 68, 3) := by decide +kernel
theorem dX1_await_10 : decode cX1_await 10 = .ok (.istore_n 2, 1) := by decide +kernel
theorem dX1_await_11 : decode cX1_await 11 = .ok (.iconst 0, 1) := by decide +kernel
theorem dX1_await_12 : decode cX1_await 12 = .ok (.istore_n 3, 1) := by decide +kernel
theorem dX1_await_13 : decode cX1_await 13 = .ok (.iconst 0, 1) := by decide +kernel
theorem dX1_await_14 : decode cX1_await 14 = .ok (.istore 4, 2) := by decide +kernel
theorem dX1_await_16 : decode cX1_await 16 = .ok (.iload 4, 2) := by decide +kernel
theorem dX1_await_18 : decode cX1_await 18 = .ok (.aload_n 0, 1) := by decide +kernel
theorem dX1_await_19 : decode cX1_await 19 = .ok (.getfield 45, 3) := by decide +kernel
theorem dX1_await_22 : decode cX1_await 22 = .ok (.if_icmp .ge 39, 3) := by decide +kernel
theorem dX1_await_25 : decode cX1_await 25 = .ok (.iload_n 2, 1) := by decide +kernel
theorem dX1_await_26 : decode cX1_await 26 = .ok (.ifCond .lt 35, 3) := by decide +kernel
theorem dX1_await_29 : decode cX1_await 29 = .ok (.iload_n 3, 1) := by decide +kernel
theorem dX1_await_30 : decode cX1_await 30 = .ok (.ifCond .ne 19, 3) := by decide +kernel
theorem dX1_await_33 : decode cX1_await 33 = .ok (.aload_n 0, 1) := by decide +kernel
theorem dX1_await_34 : decode cX1_await 34 = .ok (.getfield 16, 3) := by decide +kernel
theorem dX1_await_37 : decode cX1_await 37 = .ok (.iload 4, 2) := by decide +kernel
theorem dX1_await_39 : decode cX1_await 39 = .ok (.iaload, 1) := by decide +kernel
theorem dX1_await_40 : decode cX1_await 40 = .ok (.aload_n 0, 1) := by decide +kernel
theorem dX1_await_41 : decode cX1_await 41 = .ok (.getfield 7, 3) := by decide +kernel
theorem dX1_await_44 : decode cX1_await 44 = .ok (.iload_n 2, 1) := by decide +kernel
theorem dX1_await_45 : decode cX1_await 45 = .ok (.iaload, 1) := by decide +kernel
theorem dX1_await_46 : decode cX1_await 46 = .ok (.if_icmp .ne 7, 3) := by decide +kernel
theorem dX1_await_49 : decode cX1_await 49 = .ok (.iconst 1, 1) := by decide +kernel
theorem dX1_await_50 : decode cX1_await 50 = .ok (.goto 4, 3) := by decide +kernel
theorem dX1_await_53 : decode cX1_await 53 = .ok (.iconst 0, 1) := by decide +kernel
theorem dX1_await_54 : decode cX1_await 54 = .ok (.istore_n 3, 1) := by decide +kernel
theorem dX1_await_55 : decode cX1_await 55 = .ok (.iinc 4 1, 3) := by decide +kernel
theorem dX1_await_58 : decode cX1_await 58 = .ok (.goto (-42), 3) := by decide +kernel
theorem dX1_await_61 : decode cX1_await 61 = .ok (.iload_n 3, 1) := by decide +kernel
theorem dX1_await_62 : decode cX1_await 62 = .ok (.ifCond .ne 5, 3) := by decide +kernel
theorem dX1_await_65 : decode cX1_await 65 = .ok (.iconst (-1), 1) := by decide +kernel
theorem dX1_await_66 : decode cX1_await 66 = .ok (.ireturn, 1) := by decide +kernel
theorem dX1_await_67 : decode cX1_await 67 = .ok (.aload_n 0, 1) := by decide +kernel
theorem dX1_await_68 : decode cX1_await 68 = .ok (.iload_n 2, 1) := by decide +kernel
theorem dX1_await_69 : decode cX1_await 69 = .ok (.invokevirtual 52, 3) := by decide +kernel
theorem dX1_await_72 : decode cX1_await 72 = .ok (.istore 4, 2) := by decide +kernel
theorem dX1_await_74 : decode cX1_await 74 = .ok (.iload 4, 2) := by decide +kernel
theorem dX1_await_76 : decode cX1_await 76 = .ok (.ifCond .ge 14, 3) := by decide +kernel
theorem dX1_await_79 : decode cX1_await 79 = .ok (.aload_n 0, 1) := by decide +kernel
theorem dX1_await_80 : decode cX1_await 80 = .ok (.iload_n 2, 1) := by decide +kernel
theorem dX1_await_81 : decode cX1_await 81 = .ok (.iconst 2, 1) := by decide +kernel
theorem dX1_await_82 : decode cX1_await 82 = .ok (.iconst 0, 1) := by decide +kernel
theorem dX1_await_83 : decode cX1_await 83 = .ok (.invokevirtual 81, 3) := by decide +kernel
theorem dX1_await_86 : decode cX1_await 86 = .ok (.istore 5, 2) := by decide +kernel
theorem dX1_await_88 : decode cX1_await 88 = .ok (.iconst 0, 1) := by decide +kernel
theorem dX1_await_89 : decode cX1_await 89 = .ok (.ireturn, 1) := by decide +kernel
theorem dX1_await_90 : decode cX1_await 90 = .ok (.aload_n 0, 1) := by decide +kernel
theorem dX1_await_91 : decode cX1_await 91 = .ok (.getfield 7, 3) := by decide +kernel
theorem dX1_await_94 : decode cX1_await 94 = .ok (.iload 4, 2) := by decide +kernel
theorem dX1_await_96 : decode cX1_await 96 = .ok (.iaload, 1) := by decide +kernel
theorem dX1_await_97 : decode cX1_await 97 = .ok (.istore 5, 2) := by decide +kernel
theorem dX1_await_99 : decode cX1_await 99 = .ok (.aload_n 0, 1) := by decide +kernel
theorem dX1_await_100 : decode cX1_await 100 = .ok (.aload_n 0, 1) := by decide +kernel
theorem dX1_await_101 : decode cX1_await 101 = .ok (.getfield 23, 3) := by decide +kernel
theorem dX1_await_104 : decode cX1_await 104 = .ok (.iload 4, 2) := by decide +kernel
theorem dX1_await_106 : decode cX1_await 106 = .ok (.iaload, 1) := by decide +kernel
theorem dX1_await_107 : decode cX1_await 107 = .ok (.putfield 78, 3) := by decide +kernel
theorem dX1_await_110 : decode cX1_await 110 = .ok (.aload_n 0, 1) := by decide +kernel
theorem dX1_await_111 : decode cX1_await 111 = .ok (.iload 4, 2) := by decide +kernel
theorem dX1_await_113 : decode cX1_await 113 = .ok (.invokevirtual 85, 3) := by decide +kernel
theorem dX1_await_116 : decode cX1_await 116 = .ok (.iload 5, 2) := by decide +kernel
theorem dX1_await_118 : decode cX1_await 118 = .ok (.ireturn, 1) := by decide +kernel
theorem dX1_status_0 : decode cX1_status 0 = .ok (.aload_n 0, 1) := by decide +kernel
theorem dX1_status_1 : decode cX1_status 1 = .ok (.iconst 0, 1) := by decide +kernel
theorem dX1_status_2 : decode cX1_status 2 = .ok (.putfield 42, 3) := by decide +kernel
theorem dX1_status_5 : decode cX1_status 5 = .ok (.aload_n 0, 1) := by decide +kernel
theorem dX1_status_6 : decode cX1_status 6 = .ok (.getfield 78, 3) := by decide +kernel
theorem dX1_status_9 : decode cX1_status 9 = .ok (.ireturn, 1) := by decide +kernel
theorem dX1_waitsFor_0 : decode cX1_waitsFor 0 = .ok (.aload_n 0, 1) := by decide +kernel
theorem dX1_waitsFor_1 : decode cX1_waitsFor 1 = .ok (.getfield 29, 3) := by decide +kernel
theorem dX1_waitsFor_4 : decode cX1_waitsFor 4 = .ok (.iload_n 1, 1) := by decide +kernel
theorem dX1_waitsFor_5 : decode cX1_waitsFor 5 = .ok (.iconst (-1), 1) := by decide +kernel
theorem dX1_waitsFor_6 : decode cX1_waitsFor 6 = .ok (.iastore, 1) := by decide +kernel
theorem dX1_waitsFor_7 : decode cX1_waitsFor 7 = .ok (.aload_n 0, 1) := by decide +kernel
theorem dX1_waitsFor_8 : decode cX1_waitsFor 8 = .ok (.getfield 32, 3) := by decide +kernel
theorem dX1_waitsFor_11 : decode cX1_waitsFor 11 = .ok (.iload_n 1, 1) := by decide +kernel
theorem dX1_waitsFor_12 : decode cX1_waitsFor 12 = .ok (.iload_n 2, 1) := by decide +kernel
theorem dX1_waitsFor_13 : decode cX1_waitsFor 13 = .ok (.iastore, 1) := by decide +kernel
theorem dX1_waitsFor_14 : decode cX1_waitsFor 14 = .ok (.aload_n 0, 1) := by decide +kernel
theorem dX1_waitsFor_15 : decode cX1_waitsFor 15 = .ok (.getfield 35, 3) := by decide +kernel
theorem dX1_waitsFor_18 : decode cX1_waitsFor 18 = .ok (.iload_n 1, 1) := by decide +kernel
theorem dX1_waitsFor_19 : decode cX1_waitsFor 19 = .ok (.iload_n 3, 1) := by decide +kernel
theorem dX1_waitsFor_20 : decode cX1_waitsFor 20 = .ok (.iastore, 1) := by decide +kernel
theorem dX1_waitsFor_21 : decode cX1_waitsFor 21 = .ok (.aload_n 0, 1) := by decide +kernel
theorem dX1_waitsFor_22 : decode cX1_waitsFor 22 = .ok (.getfield 13, 3) := by decide +kernel
theorem dX1_waitsFor_25 : decode cX1_waitsFor 25 = .ok (.iload_n 1, 1) := by decide +kernel
theorem dX1_waitsFor_26 : decode cX1_waitsFor 26 = .ok (.iaload, 1) := by decide +kernel
theorem dX1_waitsFor_27 : decode cX1_waitsFor 27 = .ok (.ireturn, 1) := by decide +kernel
theorem dX1_block_0 : decode cX1_block 0 = .ok (.aload_n 0, 1) := by decide +kernel
theorem dX1_block_1 : decode cX1_block 1 = .ok (.iconst 0, 1) := by decide +kernel
theorem dX1_block_2 : decode cX1_block 2 = .ok (.putfield 42, 3) := by decide +kernel
theorem dX1_block_5 : decode cX1_block 5 = .ok (.aload_n 0, 1) := by decide +kernel
theorem dX1_block_6 : decode cX1_block 6 = .ok (.iload_n 1, 1) := by decide +kernel
theorem dX1_block_7 : decode cX1_block 7 = .ok (.invokevirtual 68, 3) := by decide +kernel
theorem dX1_block_10 : decode cX1_block 10 = .ok (.istore_n 3, 1) := by decide +kernel
theorem dX1_block_11 : decode cX1_block 11 = .ok (.iload_n 3, 1) := by decide +kernel
theorem dX1_block_12 : decode cX1_block 12 = .ok (.ifCond .ge 7, 3) := by decide +kernel
theorem dX1_block_15 : decode cX1_block 15 = .ok (.iconst (-1), 1) := by decide +kernel
theorem dX1_block_16 : decode cX1_block 16 = .ok (.goto 10, 3) := by decide +kernel
theorem dX1_block_19 : decode cX1_block 19 = .ok (.aload_n 0, 1) := by decide +kernel
theorem dX1_block_20 : decode cX1_block 20 = .ok (.iload_n 3, 1) := by decide +kernel
theorem dX1_block_21 : decode cX1_block 21 = .ok (.iconst 1, 1) := by decide +kernel
theorem dX1_block_22 : decode cX1_block 22 = .ok (.iload_n 2, 1) := by decide +kernel
theorem dX1_block_23 : decode cX1_block 23 = .ok (.invokevirtual 81, 3) := by decide +kernel
theorem dX1_block_26 : decode cX1_block 26 = .ok (.ireturn, 1) := by decide +kernel
theorem dX1_sleep_0 : decode cX1_sleep 0 = .ok (.aload_n 0, 1) := by decide +kernel
theorem dX1_sleep_1 : decode cX1_sleep 1 = .ok (.iconst 0, 1) := by decide +kernel
theorem dX1_sleep_2 : decode cX1_sleep 2 = .ok (.putfield 42, 3) := by decide +kernel
theorem dX1_sleep_5 : decode cX1_sleep 5 = .ok (.aload_n 0, 1) := by decide +kernel
theorem dX1_sleep_6 : decode cX1_sleep 6 = .ok (.iload_n 1, 1) := by decide +kernel
theorem dX1_sleep_7 : decode cX1_sleep 7 = .ok (.invokevirtual 68, 3) := by decide +kernel
theorem dX1_sleep_10 : decode cX1_sleep 10 = .ok (.istore_n 3, 1) := by decide +kernel
theorem dX1_sleep_11 : decode cX1_sleep 11 = .ok (.iload_n 3, 1) := by decide +kernel
theorem dX1_sleep_12 : decode cX1_sleep 12 = .ok (.ifCond .ge 7, 3) := by decide +kernel
theorem dX1_sleep_15 : decode cX1_sleep 15 = .ok (.iconst (-1), 1) := by decide +kernel
theorem dX1_sleep_16 : decode cX1_sleep 16 = .ok (.goto 45, 3) := by decide +kernel
theorem dX1_sleep_19 : decode cX1_sleep 19 = .ok (.iload_n 2, 1) := by decide +kernel
theorem dX1_sleep_20 : decode cX1_sleep 20 = .ok (.iconst 1, 1) := by decide +kernel
theorem dX1_sleep_21 : decode cX1_sleep 21 = .ok (.if_icmp .ge 12, 3) := by decide +kernel
theorem dX1_sleep_24 : decode cX1_sleep 24 = .ok (.aload_n 0, 1) := by decide +kernel
theorem dX1_sleep_25 : decode cX1_sleep 25 = .ok (.getfield 13, 3) := by decide +kernel
theorem dX1_sleep_28 : decode cX1_sleep 28 = .ok (.iload_n 3, 1) := by decide +kernel
theorem dX1_sleep_29 : decode cX1_sleep 29 = .ok (.iaload, 1) := by decide +kernel
theorem dX1_sleep_30 : decode cX1_sleep 30 = .ok (.goto 31, 3) := by decide +kernel
theorem dX1_sleep_33 : decode cX1_sleep 33 = .ok (.aload_n 0, 1) := by decide +kernel
theorem dX1_sleep_34 : decode cX1_sleep 34 = .ok (.iload_n 3, 1) := by decide +kernel
theorem dX1_sleep_35 : decode cX1_sleep 35 = .ok (.iconst 3, 1) := by decide +kernel
theorem dX1_sleep_36 : decode cX1_sleep 36 = .ok (.aload_n 0, 1) := by decide +kernel
theorem dX1_sleep_37 : decode cX1_sleep 37 = .ok (.getfield 55, 3) := by decide +kernel
theorem dX1_sleep_40 : decode cX1_sleep 40 = .ok (.ldc 89, 2) := by decide +kernel
theorem dX1_sleep_42 : decode cX1_sleep 42 = .ok (.iload_n 2, 1) := by decide +kernel
theorem dX1_sleep_43 : decode cX1_sleep 43 = .ok (.isub, 1) := by decide +kernel
theorem dX1_sleep_44 : decode cX1_sleep 44 = .ok (.if_icmp .le 8, 3) := by decide +kernel
theorem dX1_sleep_47 : decode cX1_sleep 47 = .ok (.ldc 89, 2) := by decide +kernel
theorem dX1_sleep_49 : decode cX1_sleep 49 = .ok (.goto 9, 3) := by decide +kernel
theorem dX1_sleep_52 : decode cX1_sleep 52 = .ok (.aload_n 0, 1) := by decide +kernel
theorem dX1_sleep_53 : decode cX1_sleep 53 = .ok (.getfield 55, 3) := by decide +kernel
theorem dX1_sleep_56 : decode cX1_sleep 56 = .ok (.iload_n 2, 1) := by decide +kernel
theorem dX1_sleep_57 : decode cX1_sleep 57 = .ok (.iadd, 1) := by decide +kernel
theorem dX1_sleep_58 : decode cX1_sleep 58 = .ok (.invokevirtual 81, 3) := by decide +kernel
theorem dX1_sleep_61 : decode cX1_sleep 61 = .ok (.ireturn, 1) := by decide +kernel
theorem dX1_wake_0 : decode cX1_wake 0 = .ok (.aload_n 0, 1) := by decide +kernel
theorem dX1_wake_1 : decode cX1_wake 1 = .ok (.iconst 0, 1) := by decide +kernel
theorem dX1_wake_2 : decode cX1_wake 2 = .ok (.putfield 42, 3) := by decide +kernel
theorem dX1_wake_5 : decode cX1_wake 5 = .ok (.iconst 0, 1) := by decide +kernel
theorem dX1_wake_6 : decode cX1_wake 6 = .ok (.istore_n 2, 1) := by decide +kernel
theorem dX1_wake_7 : decode cX1_wake 7 = .ok (.iconst 0, 1) := by decide +kernel
theorem dX1_wake_8 : decode cX1_wake 8 = .ok (.istore_n 3, 1) := by decide +kernel
theorem dX1_wake_9 : decode cX1_wake 9 = .ok (.iload_n 3, 1) := by decide +kernel
theorem dX1_wake_10 : decode cX1_wake 10 = .ok (.aload_n 0, 1) := by decide +kernel
theorem dX1_wake_11 : decode cX1_wake 11 = .ok (.getfield 45, 3) := by decide +kernel
theorem dX1_wake_14 : decode cX1_wake 14 = .ok (.if_icmp .ge 57, 3) := by decide +kernel
theorem dX1_wake_17 : decode cX1_wake 17 = .ok (.aload_n 0, 1) := by decide +kernel
theorem dX1_wake_18 : decode cX1_wake 18 = .ok (.getfield 19, 3) := by decide +kernel
theorem dX1_wake_21 : decode cX1_wake 21 = .ok (.iload_n 3, 1) := by decide +kernel
theorem dX1_wake_22 : decode cX1_wake 22 = .ok (.baload, 1) := by decide +kernel
theorem dX1_wake_23 : decode cX1_wake 23 = .ok (.ifCond .ne 42, 3) := by decide +kernel
theorem dX1_wake_26 : decode cX1_wake 26 = .ok (.aload_n 0, 1) := by decide +kernel
theorem dX1_wake_27 : decode cX1_wake 27 = .ok (.getfield 29, 3) := by decide +kernel
theorem dX1_wake_30 : decode cX1_wake 30 = .ok (.iload_n 3, 1) := by decide +kernel
theorem dX1_wake_31 : decode cX1_wake 31 = .ok (.iaload, 1) := by decide +kernel
theorem dX1_wake_32 : decode cX1_wake 32 = .ok (.ifCond .ge 33, 3) := by decide +kernel
theorem dX1_wake_35 : decode cX1_wake 35 = .ok (.aload_n 0, 1) := by decide +kernel
theorem dX1_wake_36 : decode cX1_wake 36 = .ok (.getfield 32, 3) := by decide +kernel
theorem dX1_wake_39 : decode cX1_wake 39 = .ok (.iload_n 3, 1) := by decide +kernel
theorem dX1_wake_40 : decode cX1_wake 40 = .ok (.iaload, 1) := by decide +kernel
theorem dX1_wake_41 : decode cX1_wake 41 = .ok (.iconst 1, 1) := by decide +kernel
theorem dX1_wake_42 : decode cX1_wake 42 = .ok (.if_icmp .ne 23, 3) := by decide +kernel
theorem dX1_wake_45 : decode cX1_wake 45 = .ok (.aload_n 0, 1) := by decide +kernel
theorem dX1_wake_46 : decode cX1_wake 46 = .ok (.getfield 35, 3) := by decide +kernel
theorem dX1_wake_49 : decode cX1_wake 49 = .ok (.iload_n 3, 1) := by decide +kernel
theorem dX1_wake_50 : decode cX1_wake 50 = .ok (.iaload, 1) := by decide +kernel
theorem dX1_wake_51 : decode cX1_wake 51 = .ok (.iload_n 1, 1) := by decide +kernel
theorem dX1_wake_52 : decode cX1_wake 52 = .ok (.if_icmp .ne 13, 3) := by decide +kernel
theorem dX1_wake_55 : decode cX1_wake 55 = .ok (.aload_n 0, 1) := by decide +kernel
theorem dX1_wake_56 : decode cX1_wake 56 = .ok (.getfield 32, 3) := by decide +kernel
theorem dX1_wake_59 : decode cX1_wake 59 = .ok (.iload_n 3, 1) := by decide +kernel
theorem dX1_wake_60 : decode cX1_wake 60 = .ok (.iconst 0, 1) := by decide +kernel
theorem dX1_wake_61 : decode cX1_wake 61 = .ok (.iastore, 1) := by decide +kernel
theorem dX1_wake_62 : decode cX1_wake 62 = .ok (.iinc 2 1, 3) := by decide +kernel
theorem dX1_wake_65 : decode cX1_wake 65 = .ok (.iinc 3 1, 3) := by decide +kernel
theorem dX1_wake_68 : decode cX1_wake 68 = .ok (.goto (-59), 3) := by decide +kernel
theorem dX1_wake_71 : decode cX1_wake 71 = .ok (.iload_n 2, 1) := by decide +kernel
theorem dX1_wake_72 : decode cX1_wake 72 = .ok (.ireturn, 1) := by decide +kernel
theorem dX1_rest_0 : decode cX1_rest 0 = .ok (.aload_n 0, 1) := by decide +kernel
theorem dX1_rest_1 : decode cX1_rest 1 = .ok (.iconst 0, 1) := by decide +kernel
theorem dX1_rest_2 : decode cX1_rest 2 = .ok (.putfield 42, 3) := by decide +kernel
theorem dX1_rest_5 : decode cX1_rest 5 = .ok (.aload_n 0, 1) := by decide +kernel
theorem dX1_rest_6 : decode cX1_rest 6 = .ok (.iload_n 1, 1) := by decide +kernel
theorem dX1_rest_7 : decode cX1_rest 7 = .ok (.invokevirtual 68, 3) := by decide +kernel
theorem dX1_rest_10 : decode cX1_rest 10 = .ok (.istore_n 2, 1) := by decide +kernel
theorem dX1_rest_11 : decode cX1_rest 11 = .ok (.iload_n 2, 1) := by decide +kernel
theorem dX1_rest_12 : decode cX1_rest 12 = .ok (.ifCond .ge 7, 3) := by decide +kernel
theorem dX1_rest_15 : decode cX1_rest 15 = .ok (.iconst (-1), 1) := by decide +kernel
theorem dX1_rest_16 : decode cX1_rest 16 = .ok (.goto 10, 3) := by decide +kernel
theorem dX1_rest_19 : decode cX1_rest 19 = .ok (.aload_n 0, 1) := by decide +kernel
theorem dX1_rest_20 : decode cX1_rest 20 = .ok (.iload_n 2, 1) := by decide +kernel
theorem dX1_rest_21 : decode cX1_rest 21 = .ok (.iconst 0, 1) := by decide +kernel
theorem dX1_rest_22 : decode cX1_rest 22 = .ok (.iconst 0, 1) := by decide +kernel
theorem dX1_rest_23 : decode cX1_rest 23 = .ok (.invokevirtual 81, 3) := by decide +kernel
theorem dX1_rest_26 : decode cX1_rest 26 = .ok (.ireturn, 1) := by decide +kernel
theorem dX1_tick_0 : decode cX1_tick 0 = .ok (.aload_n 0, 1) := by decide +kernel
theorem dX1_tick_1 : decode cX1_tick 1 = .ok (.iconst 0, 1) := by decide +kernel
theorem dX1_tick_2 : decode cX1_tick 2 = .ok (.putfield 42, 3) := by decide +kernel
theorem dX1_tick_5 : decode cX1_tick 5 = .ok (.aload_n 0, 1) := by decide +kernel
theorem dX1_tick_6 : decode cX1_tick 6 = .ok (.getfield 45, 3) := by decide +kernel
theorem dX1_tick_9 : decode cX1_tick 9 = .ok (.ifCond .ne 5, 3) := by decide +kernel
theorem dX1_tick_12 : decode cX1_tick 12 = .ok (.iconst (-1), 1) := by decide +kernel
theorem dX1_tick_13 : decode cX1_tick 13 = .ok (.ireturn, 1) := by decide +kernel
theorem dX1_tick_14 : decode cX1_tick 14 = .ok (.aload_n 0, 1) := by decide +kernel
theorem dX1_tick_15 : decode cX1_tick 15 = .ok (.dup, 1) := by decide +kernel
theorem dX1_tick_16 : decode cX1_tick 16 = .ok (.getfield 55, 3) := by decide +kernel
theorem dX1_tick_19 : decode cX1_tick 19 = .ok (.iconst 1, 1) := by decide +kernel
theorem dX1_tick_20 : decode cX1_tick 20 = .ok (.iadd, 1) := by decide +kernel
theorem dX1_tick_21 : decode cX1_tick 21 = .ok (.putfield 55, 3) := by decide +kernel
theorem dX1_tick_24 : decode cX1_tick 24 = .ok (.iconst 0, 1) := by decide +kernel
theorem dX1_tick_25 : decode cX1_tick 25 = .ok (.istore_n 1, 1) := by decide +kernel
theorem dX1_tick_26 : decode cX1_tick 26 = .ok (.iload_n 1, 1) := by decide +kernel
theorem dX1_tick_27 : decode cX1_tick 27 = .ok (.aload_n 0, 1) := by decide +kernel
theorem dX1_tick_28 : decode cX1_tick 28 = .ok (.getfield 45, 3) := by decide +kernel
theorem dX1_tick_31 : decode cX1_tick 31 = .ok (.if_icmp .ge 16, 3) := by decide +kernel
theorem dX1_tick_34 : decode cX1_tick 34 = .ok (.aload_n 0, 1) := by decide +kernel
theorem dX1_tick_35 : decode cX1_tick 35 = .ok (.getfield 29, 3) := by decide +kernel
theorem dX1_tick_38 : decode cX1_tick 38 = .ok (.iload_n 1, 1) := by decide +kernel
theorem dX1_tick_39 : decode cX1_tick 39 = .ok (.iconst (-1), 1) := by decide +kernel
theorem dX1_tick_40 : decode cX1_tick 40 = .ok (.iastore, 1) := by decide +kernel
theorem dX1_tick_41 : decode cX1_tick 41 = .ok (.iinc 1 1, 3) := by decide +kernel
theorem dX1_tick_44 : decode cX1_tick 44 = .ok (.goto (-18), 3) := by decide +kernel
theorem dX1_tick_47 : decode cX1_tick 47 = .ok (.aload_n 0, 1) := by decide +kernel
theorem dX1_tick_48 : decode cX1_tick 48 = .ok (.getfield 55, 3) := by decide +kernel
theorem dX1_tick_51 : decode cX1_tick 51 = .ok (.ireturn, 1) := by decide +kernel
theorem dX1_kill_0 : decode cX1_kill 0 = .ok (.aload_n 0, 1) := by decide +kernel
theorem dX1_kill_1 : decode cX1_kill 1 = .ok (.iconst 0, 1) := by decide +kernel
theorem dX1_kill_2 : decode cX1_kill 2 = .ok (.putfield 42, 3) := by decide +kernel
theorem dX1_kill_5 : decode cX1_kill 5 = .ok (.aload_n 0, 1) := by decide +kernel
theorem dX1_kill_6 : decode cX1_kill 6 = .ok (.iload_n 1, 1) := by decide +kernel
theorem dX1_kill_7 : decode cX1_kill 7 = .ok (.invokevirtual 90, 3) := by decide +kernel
theorem dX1_kill_10 : decode cX1_kill 10 = .ok (.istore_n 2, 1) := by decide +kernel
theorem dX1_kill_11 : decode cX1_kill 11 = .ok (.iload_n 2, 1) := by decide +kernel
theorem dX1_kill_12 : decode cX1_kill 12 = .ok (.ifCond .lt 12, 3) := by decide +kernel
theorem dX1_kill_15 : decode cX1_kill 15 = .ok (.aload_n 0, 1) := by decide +kernel
theorem dX1_kill_16 : decode cX1_kill 16 = .ok (.getfield 19, 3) := by decide +kernel
theorem dX1_kill_19 : decode cX1_kill 19 = .ok (.iload_n 2, 1) := by decide +kernel
theorem dX1_kill_20 : decode cX1_kill 20 = .ok (.baload, 1) := by decide +kernel
theorem dX1_kill_21 : decode cX1_kill 21 = .ok (.ifCond .eq 5, 3) := by decide +kernel
theorem dX1_kill_24 : decode cX1_kill 24 = .ok (.iconst 0, 1) := by decide +kernel
theorem dX1_kill_25 : decode cX1_kill 25 = .ok (.ireturn, 1) := by decide +kernel
theorem dX1_kill_26 : decode cX1_kill 26 = .ok (.aload_n 0, 1) := by decide +kernel
theorem dX1_kill_27 : decode cX1_kill 27 = .ok (.getfield 26, 3) := by decide +kernel
theorem dX1_kill_30 : decode cX1_kill 30 = .ok (.iload_n 2, 1) := by decide +kernel
theorem dX1_kill_31 : decode cX1_kill 31 = .ok (.iconst 1, 1) := by decide +kernel
theorem dX1_kill_32 : decode cX1_kill 32 = .ok (.bastore, 1) := by decide +kernel
theorem dX1_kill_33 : decode cX1_kill 33 = .ok (.aload_n 0, 1) := by decide +kernel
theorem dX1_kill_34 : decode cX1_kill 34 = .ok (.getfield 32, 3) := by decide +kernel
theorem dX1_kill_37 : decode cX1_kill 37 = .ok (.iload_n 2, 1) := by decide +kernel
theorem dX1_kill_38 : decode cX1_kill 38 = .ok (.iconst 0, 1) := by decide +kernel
theorem dX1_kill_39 : decode cX1_kill 39 = .ok (.iastore, 1) := by decide +kernel
theorem dX1_kill_40 : decode cX1_kill 40 = .ok (.iconst 1, 1) := by decide +kernel
theorem dX1_kill_41 : decode cX1_kill 41 = .ok (.ireturn, 1) := by decide +kernel
theorem dX1_about_0 : decode cX1_about 0 = .ok (.aload_n 0, 1) := by decide +kernel
theorem dX1_about_1 : decode cX1_about 1 = .ok (.iconst 0, 1) := by decide +kernel
theorem dX1_about_2 : decode cX1_about 2 = .ok (.putfield 42, 3) := by decide +kernel
theorem dX1_about_5 : decode cX1_about 5 = .ok (.iload_n 1, 1) := by decide +kernel
theorem dX1_about_6 : decode cX1_about 6 = .ok (.ifCond .lt 17, 3) := by decide +kernel
theorem dX1_about_9 : decode cX1_about 9 = .ok (.iload_n 1, 1) := by decide +kernel
theorem dX1_about_10 : decode cX1_about 10 = .ok (.bipush 15, 2) := by decide +kernel
theorem dX1_about_12 : decode cX1_about 12 = .ok (.if_icmp .ge 11, 3) := by decide +kernel
theorem dX1_about_15 : decode cX1_about 15 = .ok (.aload_n 0, 1) := by decide +kernel
theorem dX1_about_16 : decode cX1_about 16 = .ok (.iload_n 1, 1) := by decide +kernel
theorem dX1_about_17 : decode cX1_about 17 = .ok (.invokevirtual 48, 3) := by decide +kernel
theorem dX1_about_20 : decode cX1_about 20 = .ok (.goto 4, 3) := by decide +kernel
theorem dX1_about_23 : decode cX1_about 23 = .ok (.iconst (-1), 1) := by decide +kernel
theorem dX1_about_24 : decode cX1_about 24 = .ok (.istore_n 3, 1) := by decide +kernel
theorem dX1_about_25 : decode cX1_about 25 = .ok (.iload_n 3, 1) := by decide +kernel
theorem dX1_about_26 : decode cX1_about 26 = .ok (.ifCond .ge 24, 3) := by decide +kernel
theorem dX1_about_29 : decode cX1_about 29 = .ok (.iload_n 1, 1) := by decide +kernel
theorem dX1_about_30 : decode cX1_about 30 = .ok (.ifCond .lt 18, 3) := by decide +kernel
theorem dX1_about_33 : decode cX1_about 33 = .ok (.iload_n 1, 1) := by decide +kernel
theorem dX1_about_34 : decode cX1_about 34 = .ok (.bipush 15, 2) := by decide +kernel
theorem dX1_about_36 : decode cX1_about 36 = .ok (.if_icmp .ge 12, 3) := by decide +kernel
theorem dX1_about_39 : decode cX1_about 39 = .ok (.iload_n 2, 1) := by decide +kernel
theorem dX1_about_40 : decode cX1_about 40 = .ok (.iconst 1, 1) := by decide +kernel
theorem dX1_about_41 : decode cX1_about 41 = .ok (.if_icmp .ne 7, 3) := by decide +kernel
theorem dX1_about_44 : decode cX1_about 44 = .ok (.iconst 0, 1) := by decide +kernel
theorem dX1_about_45 : decode cX1_about 45 = .ok (.goto 4, 3) := by decide +kernel
theorem dX1_about_48 : decode cX1_about 48 = .ok (.iconst (-1), 1) := by decide +kernel
theorem dX1_about_49 : decode cX1_about 49 = .ok (.ireturn, 1) := by decide +kernel
theorem dX1_about_50 : decode cX1_about 50 = .ok (.iload_n 2, 1) := by decide +kernel
theorem dX1_about_51 : decode cX1_about 51 = .ok (.tableswitch 99 0 5 #[37, 44, 50, 57, 72, 92], 37) := by decide +kernel
theorem dX1_about_88 : decode cX1_about 88 = .ok (.aload_n 0, 1) := by decide +kernel
theorem dX1_about_89 : decode cX1_about 89 = .ok (.getfield 7, 3) := by decide +kernel
theorem dX1_about_92 : decode cX1_about 92 = .ok (.iload_n 3, 1) := by decide +kernel
theorem dX1_about_93 : decode cX1_about 93 = .ok (.iaload, 1) := by decide +kernel
theorem dX1_about_94 : decode cX1_about 94 = .ok (.ireturn, 1) := by decide +kernel
theorem dX1_about_95 : decode cX1_about 95 = .ok (.aload_n 0, 1) := by decide +kernel
theorem dX1_about_96 : decode cX1_about 96 = .ok (.iload_n 3, 1) := by decide +kernel
theorem dX1_about_97 : decode cX1_about 97 = .ok (.invokevirtual 71, 3) := by decide +kernel
theorem dX1_about_100 : decode cX1_about 100 = .ok (.ireturn, 1) := by decide +kernel
theorem dX1_about_101 : decode cX1_about 101 = .ok (.aload_n 0, 1) := by decide +kernel
theorem dX1_about_102 : decode cX1_about 102 = .ok (.getfield 16, 3) := by decide +kernel
theorem dX1_about_105 : decode cX1_about 105 = .ok (.iload_n 3, 1) := by decide +kernel
theorem dX1_about_106 : decode cX1_about 106 = .ok (.iaload, 1) := by decide +kernel
theorem dX1_about_107 : decode cX1_about 107 = .ok (.ireturn, 1) := by decide +kernel
theorem dX1_about_108 : decode cX1_about 108 = .ok (.aload_n 0, 1) := by decide +kernel
theorem dX1_about_109 : decode cX1_about 109 = .ok (.getfield 26, 3) := by decide +kernel
theorem dX1_about_112 : decode cX1_about 112 = .ok (.iload_n 3, 1) := by decide +kernel
theorem dX1_about_113 : decode cX1_about 113 = .ok (.baload, 1) := by decide +kernel
theorem dX1_about_114 : decode cX1_about 114 = .ok (.ifCond .eq 7, 3) := by decide +kernel
theorem dX1_about_117 : decode cX1_about 117 = .ok (.iconst 1, 1) := by decide +kernel
theorem dX1_about_118 : decode cX1_about 118 = .ok (.goto 4, 3) := by decide +kernel
theorem dX1_about_121 : decode cX1_about 121 = .ok (.iconst 0, 1) := by decide +kernel
theorem dX1_about_122 : decode cX1_about 122 = .ok (.ireturn, 1) := by decide +kernel
theorem dX1_about_123 : decode cX1_about 123 = .ok (.aload_n 0, 1) := by decide +kernel
theorem dX1_about_124 : decode cX1_about 124 = .ok (.getfield 19, 3) := by decide +kernel
theorem dX1_about_127 : decode cX1_about 127 = .ok (.iload_n 3, 1) := by decide +kernel
theorem dX1_about_128 : decode cX1_about 128 = .ok (.baload, 1) := by decide +kernel
theorem dX1_about_129 : decode cX1_about 129 = .ok (.ifCond .eq 12, 3) := by decide +kernel
theorem dX1_about_132 : decode cX1_about 132 = .ok (.aload_n 0, 1) := by decide +kernel
theorem dX1_about_133 : decode cX1_about 133 = .ok (.getfield 23, 3) := by decide +kernel
theorem dX1_about_136 : decode cX1_about 136 = .ok (.iload_n 3, 1) := by decide +kernel
theorem dX1_about_137 : decode cX1_about 137 = .ok (.iaload, 1) := by decide +kernel
theorem dX1_about_138 : decode cX1_about 138 = .ok (.goto 4, 3) := by decide +kernel
theorem dX1_about_141 : decode cX1_about 141 = .ok (.iconst 0, 1) := by decide +kernel
theorem dX1_about_142 : decode cX1_about 142 = .ok (.ireturn, 1) := by decide +kernel
theorem dX1_about_143 : decode cX1_about 143 = .ok (.aload_n 0, 1) := by decide +kernel
theorem dX1_about_144 : decode cX1_about 144 = .ok (.getfield 29, 3) := by decide +kernel
theorem dX1_about_147 : decode cX1_about 147 = .ok (.iload_n 3, 1) := by decide +kernel
theorem dX1_about_148 : decode cX1_about 148 = .ok (.iaload, 1) := by decide +kernel
theorem dX1_about_149 : decode cX1_about 149 = .ok (.ireturn, 1) := by decide +kernel
theorem dX1_about_150 : decode cX1_about 150 = .ok (.iconst (-1), 1) := by decide +kernel
theorem dX1_about_151 : decode cX1_about 151 = .ok (.ireturn, 1) := by decide +kernel
theorem dX1_count_0 : decode cX1_count 0 = .ok (.aload_n 0, 1) := by decide +kernel
theorem dX1_count_1 : decode cX1_count 1 = .ok (.iconst 0, 1) := by decide +kernel
theorem dX1_count_2 : decode cX1_count 2 = .ok (.putfield 42, 3) := by decide +kernel
theorem dX1_count_5 : decode cX1_count 5 = .ok (.iload_n 1, 1) := by decide +kernel
theorem dX1_count_6 : decode cX1_count 6 = .ok (.ifCond .lt 8, 3) := by decide +kernel
theorem dX1_count_9 : decode cX1_count 9 = .ok (.iload_n 1, 1) := by decide +kernel
theorem dX1_count_10 : decode cX1_count 10 = .ok (.iconst 4, 1) := by decide +kernel
theorem dX1_count_11 : decode cX1_count 11 = .ok (.if_icmp .le 5, 3) := by decide +kernel
theorem dX1_count_14 : decode cX1_count 14 = .ok (.iconst (-1), 1) := by decide +kernel
theorem dX1_count_15 : decode cX1_count 15 = .ok (.ireturn, 1) := by decide +kernel
theorem dX1_count_16 : decode cX1_count 16 = .ok (.iconst 0, 1) := by decide +kernel
theorem dX1_count_17 : decode cX1_count 17 = .ok (.istore_n 2, 1) := by decide +kernel
theorem dX1_count_18 : decode cX1_count 18 = .ok (.iconst 0, 1) := by decide +kernel
theorem dX1_count_19 : decode cX1_count 19 = .ok (.istore_n 3, 1) := by decide +kernel
theorem dX1_count_20 : decode cX1_count 20 = .ok (.iload_n 3, 1) := by decide +kernel
theorem dX1_count_21 : decode cX1_count 21 = .ok (.aload_n 0, 1) := by decide +kernel
theorem dX1_count_22 : decode cX1_count 22 = .ok (.getfield 45, 3) := by decide +kernel
theorem dX1_count_25 : decode cX1_count 25 = .ok (.if_icmp .ge 30, 3) := by decide +kernel
theorem dX1_count_28 : decode cX1_count 28 = .ok (.iload_n 2, 1) := by decide +kernel
theorem dX1_count_29 : decode cX1_count 29 = .ok (.iload_n 1, 1) := by decide +kernel
theorem dX1_count_30 : decode cX1_count 30 = .ok (.ifCond .eq 12, 3) := by decide +kernel
theorem dX1_count_33 : decode cX1_count 33 = .ok (.aload_n 0, 1) := by decide +kernel
theorem dX1_count_34 : decode cX1_count 34 = .ok (.iload_n 3, 1) := by decide +kernel
theorem dX1_count_35 : decode cX1_count 35 = .ok (.invokevirtual 71, 3) := by decide +kernel
theorem dX1_count_38 : decode cX1_count 38 = .ok (.iload_n 1, 1) := by decide +kernel
theorem dX1_count_39 : decode cX1_count 39 = .ok (.if_icmp .ne 7, 3) := by decide +kernel
theorem dX1_count_42 : decode cX1_count 42 = .ok (.iconst 1, 1) := by decide +kernel
theorem dX1_count_43 : decode cX1_count 43 = .ok (.goto 4, 3) := by decide +kernel
theorem dX1_count_46 : decode cX1_count 46 = .ok (.iconst 0, 1) := by decide +kernel
theorem dX1_count_47 : decode cX1_count 47 = .ok (.iadd, 1) := by decide +kernel
theorem dX1_count_48 : decode cX1_count 48 = .ok (.istore_n 2, 1) := by decide +kernel
theorem dX1_count_49 : decode cX1_count 49 = .ok (.iinc 3 1, 3) := by decide +kernel
theorem dX1_count_52 : decode cX1_count 52 = .ok (.goto (-32), 3) := by decide +kernel
theorem dX1_count_55 : decode cX1_count 55 = .ok (.iload_n 2, 1) := by decide +kernel
theorem dX1_count_56 : decode cX1_count 56 = .ok (.ireturn, 1) := by decide +kernel
