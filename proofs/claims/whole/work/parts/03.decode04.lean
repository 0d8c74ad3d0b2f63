theorem dX7_readsSingers_39 : decode cX7_readsSingers 39 = .ok (.if_icmp .ne 10, 3) := by decide +kernel
theorem dX7_readsSingers_42 : decode cX7_readsSingers 42 = .ok (.aload_n 0, 1) := by decide +kernel
theorem dX7_readsSingers_43 : decode cX7_readsSingers 43 = .ok (.iconst 0, 1) := by decide +kernel
theorem dX7_readsSingers_44 : decode cX7_readsSingers 44 = .ok (.putfield 101, 3) := by decide +kernel
theorem dX7_readsSingers_47 : decode cX7_readsSingers 47 = .ok (.iload_n 2, 1) := by decide +kernel
theorem dX7_readsSingers_48 : decode cX7_readsSingers 48 = .ok (.ireturn, 1) := by decide +kernel
theorem dX7_readsSingers_49 : decode cX7_readsSingers 49 = .ok (.iload_n 3, 1) := by decide +kernel
theorem dX7_readsSingers_50 : decode cX7_readsSingers 50 = .ok (.iconst 4, 1) := by decide +kernel
theorem dX7_readsSingers_51 : decode cX7_readsSingers 51 = .ok (.if_icmp .ge 17, 3) := by decide +kernel
theorem dX7_readsSingers_54 : decode cX7_readsSingers 54 = .ok (.aload_n 0, 1) := by decide +kernel
theorem dX7_readsSingers_55 : decode cX7_readsSingers 55 = .ok (.getfield 28, 3) := by decide +kernel
theorem dX7_readsSingers_58 : decode cX7_readsSingers 58 = .ok (.iconst 4, 1) := by decide +kernel
theorem dX7_readsSingers_59 : decode cX7_readsSingers 59 = .ok (.iload_n 2, 1) := by decide +kernel
theorem dX7_readsSingers_60 : decode cX7_readsSingers 60 = .ok (.iconst 5, 1) := by decide +kernel
theorem dX7_readsSingers_61 : decode cX7_readsSingers 61 = .ok (.idiv, 1) := by decide +kernel
theorem dX7_readsSingers_62 : decode cX7_readsSingers 62 = .ok (.imul, 1) := by decide +kernel
theorem dX7_readsSingers_63 : decode cX7_readsSingers 63 = .ok (.iload_n 3, 1) := by decide +kernel
theorem dX7_readsSingers_64 : decode cX7_readsSingers 64 = .ok (.iadd, 1) := by decide +kernel
theorem dX7_readsSingers_65 : decode cX7_readsSingers 65 = .ok (.iload 4, 2) := by decide +kernel
theorem dX7_readsSingers_67 : decode cX7_readsSingers 67 = .ok (.iastore, 1) := by decide +kernel
theorem dX7_readsSingers_68 : decode cX7_readsSingers 68 = .ok (.aload_n 0, 1) := by decide +kernel
theorem dX7_readsSingers_69 : decode cX7_readsSingers 69 = .ok (.dup, 1) := by decide +kernel
theorem dX7_readsSingers_70 : decode cX7_readsSingers 70 = .ok (.getfield 101, 3) := by decide +kernel
theorem dX7_readsSingers_73 : decode cX7_readsSingers 73 = .ok (.iload_n 3, 1) := by decide +kernel
theorem dX7_readsSingers_74 : decode cX7_readsSingers 74 = .ok (.iconst 3, 1) := by decide +kernel
theorem dX7_readsSingers_75 : decode cX7_readsSingers 75 = .ok (.if_icmp .ne 7, 3) := by decide +kernel
theorem dX7_readsSingers_78 : decode cX7_readsSingers 78 = .ok (.iconst 1, 1) := by decide +kernel
theorem dX7_readsSingers_79 : decode cX7_readsSingers 79 = .ok (.goto 4, 3) := by decide +kernel
theorem dX7_readsSingers_82 : decode cX7_readsSingers 82 = .ok (.iconst 0, 1) := by decide +kernel
theorem dX7_readsSingers_83 : decode cX7_readsSingers 83 = .ok (.iadd, 1) := by decide +kernel
theorem dX7_readsSingers_84 : decode cX7_readsSingers 84 = .ok (.putfield 101, 3) := by decide +kernel
theorem dX7_readsSingers_87 : decode cX7_readsSingers 87 = .ok (.iinc 2 1, 3) := by decide +kernel
theorem dX7_readsSingers_90 : decode cX7_readsSingers 90 = .ok (.goto (-76), 3) := by decide +kernel
theorem dX7_readsSingers_93 : decode cX7_readsSingers 93 = .ok (.iload_n 1, 1) := by decide +kernel
theorem dX7_readsSingers_94 : decode cX7_readsSingers 94 = .ok (.ifCond .le 17, 3) := by decide +kernel
theorem dX7_readsSingers_97 : decode cX7_readsSingers 97 = .ok (.iload_n 1, 1) := by decide +kernel
theorem dX7_readsSingers_98 : decode cX7_readsSingers 98 = .ok (.iconst 5, 1) := by decide +kernel
theorem dX7_readsSingers_99 : decode cX7_readsSingers 99 = .ok (.irem, 1) := by decide +kernel
theorem dX7_readsSingers_100 : decode cX7_readsSingers 100 = .ok (.iconst 4, 1) := by decide +kernel
theorem dX7_readsSingers_101 : decode cX7_readsSingers 101 = .ok (.if_icmp .eq 10, 3) := by decide +kernel
theorem dX7_readsSingers_104 : decode cX7_readsSingers 104 = .ok (.aload_n 0, 1) := by decide +kernel
theorem dX7_readsSingers_105 : decode cX7_readsSingers 105 = .ok (.iconst 0, 1) := by decide +kernel
theorem dX7_readsSingers_106 : decode cX7_readsSingers 106 = .ok (.putfield 101, 3) := by decide +kernel
theorem dX7_readsSingers_109 : decode cX7_readsSingers 109 = .ok (.iload_n 1, 1) := by decide +kernel
theorem dX7_readsSingers_110 : decode cX7_readsSingers 110 = .ok (.ireturn, 1) := by decide +kernel
theorem dX7_readsSingers_111 : decode cX7_readsSingers 111 = .ok (.iconst (-1), 1) := by decide +kernel
theorem dX7_readsSingers_112 : decode cX7_readsSingers 112 = .ok (.ireturn, 1) := by decide +kernel
theorem dX7_readsBars_0 : decode cX7_readsBars 0 = .ok (.aload_n 0, 1) := by decide +kernel
theorem dX7_readsBars_1 : decode cX7_readsBars 1 = .ok (.iconst 0, 1) := by decide +kernel
theorem dX7_readsBars_2 : decode cX7_readsBars 2 = .ok (.putfield 107, 3) := by decide +kernel
theorem dX7_readsBars_5 : decode cX7_readsBars 5 = .ok (.iconst 0, 1) := by decide +kernel
theorem dX7_readsBars_6 : decode cX7_readsBars 6 = .ok (.istore_n 1, 1) := by decide +kernel
theorem dX7_readsBars_7 : decode cX7_readsBars 7 = .ok (.iload_n 1, 1) := by decide +kernel
theorem dX7_readsBars_8 : decode cX7_readsBars 8 = .ok (.aload_n 0, 1) := by decide +kernel
theorem dX7_readsBars_9 : decode cX7_readsBars 9 = .ok (.getfield 25, 3) := by decide +kernel
theorem dX7_readsBars_12 : decode cX7_readsBars 12 = .ok (.iconst 1, 1) := by decide +kernel
theorem dX7_readsBars_13 : decode cX7_readsBars 13 = .ok (.iaload, 1) := by decide +kernel
theorem dX7_readsBars_14 : decode cX7_readsBars 14 = .ok (.if_icmp .ge 82, 3) := by decide +kernel
theorem dX7_readsBars_17 : decode cX7_readsBars 17 = .ok (.aload_n 0, 1) := by decide +kernel
theorem dX7_readsBars_18 : decode cX7_readsBars 18 = .ok (.getfield 22, 3) := by decide +kernel
theorem dX7_readsBars_21 : decode cX7_readsBars 21 = .ok (.bipush 40, 2) := by decide +kernel
theorem dX7_readsBars_23 : decode cX7_readsBars 23 = .ok (.iload_n 1, 1) := by decide +kernel
theorem dX7_readsBars_24 : decode cX7_readsBars 24 = .ok (.iadd, 1) := by decide +kernel
theorem dX7_readsBars_25 : decode cX7_readsBars 25 = .ok (.iaload, 1) := by decide +kernel
theorem dX7_readsBars_26 : decode cX7_readsBars 26 = .ok (.istore_n 2, 1) := by decide +kernel
theorem dX7_readsBars_27 : decode cX7_readsBars 27 = .ok (.iload_n 2, 1) := by decide +kernel
theorem dX7_readsBars_28 : decode cX7_readsBars 28 = .ok (.bipush 115, 2) := by decide +kernel
theorem dX7_readsBars_30 : decode cX7_readsBars 30 = .ok (.if_icmp .ne 7, 3) := by decide +kernel
theorem dX7_readsBars_33 : decode cX7_readsBars 33 = .ok (.iconst 0, 1) := by decide +kernel
theorem dX7_readsBars_34 : decode cX7_readsBars 34 = .ok (.goto 25, 3) := by decide +kernel
theorem dX7_readsBars_37 : decode cX7_readsBars 37 = .ok (.iload_n 2, 1) := by decide +kernel
theorem dX7_readsBars_38 : decode cX7_readsBars 38 = .ok (.bipush 114, 2) := by decide +kernel
theorem dX7_readsBars_40 : decode cX7_readsBars 40 = .ok (.if_icmp .ne 7, 3) := by decide +kernel
theorem dX7_readsBars_43 : decode cX7_readsBars 43 = .ok (.iconst 1, 1) := by decide +kernel
theorem dX7_readsBars_44 : decode cX7_readsBars 44 = .ok (.goto 15, 3) := by decide +kernel
theorem dX7_readsBars_47 : decode cX7_readsBars 47 = .ok (.iload_n 2, 1) := by decide +kernel
theorem dX7_readsBars_48 : decode cX7_readsBars 48 = .ok (.bipush 101, 2) := by decide +kernel
theorem dX7_readsBars_50 : decode cX7_readsBars 50 = .ok (.if_icmp .ne 7, 3) := by decide +kernel
theorem dX7_readsBars_53 : decode cX7_readsBars 53 = .ok (.iconst 2, 1) := by decide +kernel
theorem dX7_readsBars_54 : decode cX7_readsBars 54 = .ok (.goto 5, 3) := by decide +kernel
theorem dX7_readsBars_57 : decode cX7_readsBars 57 = .ok (.bipush (-9), 2) := by decide +kernel
theorem dX7_readsBars_59 : decode cX7_readsBars 59 = .ok (.istore_n 3, 1) := by decide +kernel
theorem dX7_readsBars_60 : decode cX7_readsBars 60 = .ok (.iload_n 3, 1) := by decide +kernel
theorem dX7_readsBars_61 : decode cX7_readsBars 61 = .ok (.bipush (-9), 2) := by decide +kernel
theorem dX7_readsBars_63 : decode cX7_readsBars 63 = .ok (.if_icmp .ne 10, 3) := by decide +kernel
theorem dX7_readsBars_66 : decode cX7_readsBars 66 = .ok (.aload_n 0, 1) := by decide +kernel
theorem dX7_readsBars_67 : decode cX7_readsBars 67 = .ok (.iconst 0, 1) := by decide +kernel
theorem dX7_readsBars_68 : decode cX7_readsBars 68 = .ok (.putfield 107, 3) := by decide +kernel
theorem dX7_readsBars_71 : decode cX7_readsBars 71 = .ok (.iload_n 1, 1) := by decide +kernel
theorem dX7_readsBars_72 : decode cX7_readsBars 72 = .ok (.ireturn, 1) := by decide +kernel
theorem dX7_readsBars_73 : decode cX7_readsBars 73 = .ok (.aload_n 0, 1) := by decide +kernel
theorem dX7_readsBars_74 : decode cX7_readsBars 74 = .ok (.getfield 31, 3) := by decide +kernel
theorem dX7_readsBars_77 : decode cX7_readsBars 77 = .ok (.iload_n 1, 1) := by decide +kernel
theorem dX7_readsBars_78 : decode cX7_readsBars 78 = .ok (.iload_n 3, 1) := by decide +kernel
theorem dX7_readsBars_79 : decode cX7_readsBars 79 = .ok (.iastore, 1) := by decide +kernel
theorem dX7_readsBars_80 : decode cX7_readsBars 80 = .ok (.aload_n 0, 1) := by decide +kernel
theorem dX7_readsBars_81 : decode cX7_readsBars 81 = .ok (.dup, 1) := by decide +kernel
theorem dX7_readsBars_82 : decode cX7_readsBars 82 = .ok (.getfield 107, 3) := by decide +kernel
theorem dX7_readsBars_85 : decode cX7_readsBars 85 = .ok (.iconst 1, 1) := by decide +kernel
theorem dX7_readsBars_86 : decode cX7_readsBars 86 = .ok (.iadd, 1) := by decide +kernel
theorem dX7_readsBars_87 : decode cX7_readsBars 87 = .ok (.putfield 107, 3) := by decide +kernel
theorem dX7_readsBars_90 : decode cX7_readsBars 90 = .ok (.iinc 1 1, 3) := by decide +kernel
theorem dX7_readsBars_93 : decode cX7_readsBars 93 = .ok (.goto (-86), 3) := by decide +kernel
theorem dX7_readsBars_96 : decode cX7_readsBars 96 = .ok (.iconst (-1), 1) := by decide +kernel
theorem dX7_readsBars_97 : decode cX7_readsBars 97 = .ok (.ireturn, 1) := by decide +kernel
theorem dX7_fault_0 : decode cX7_fault 0 = .ok (.iload_n 1, 1) := by decide +kernel
theorem dX7_fault_1 : decode cX7_fault 1 = .ok (.invokestatic 92, 3) := by decide +kernel
theorem dX7_fault_4 : decode cX7_fault 4 = .ok (.ifCond .ne 8, 3) := by decide +kernel
theorem dX7_fault_7 : decode cX7_fault 7 = .ok (.bipush (-2), 2) := by decide +kernel
theorem dX7_fault_9 : decode cX7_fault 9 = .ok (.goto 18, 3) := by decide +kernel
theorem dX7_fault_12 : decode cX7_fault 12 = .ok (.iload_n 1, 1) := by decide +kernel
theorem dX7_fault_13 : decode cX7_fault 13 = .ok (.ifCond .ne 10, 3) := by decide +kernel
theorem dX7_fault_16 : decode cX7_fault 16 = .ok (.aload_n 0, 1) := by decide +kernel
theorem dX7_fault_17 : decode cX7_fault 17 = .ok (.invokevirtual 110, 3) := by decide +kernel
theorem dX7_fault_20 : decode cX7_fault 20 = .ok (.goto 7, 3) := by decide +kernel
theorem dX7_fault_23 : decode cX7_fault 23 = .ok (.aload_n 0, 1) := by decide +kernel
theorem dX7_fault_24 : decode cX7_fault 24 = .ok (.invokevirtual 114, 3) := by decide +kernel
theorem dX7_fault_27 : decode cX7_fault 27 = .ok (.ireturn, 1) := by decide +kernel
theorem dX7_isSinger_0 : decode cX7_isSinger 0 = .ok (.iload_n 1, 1) := by decide +kernel
theorem dX7_isSinger_1 : decode cX7_isSinger 1 = .ok (.i2l, 1) := by decide +kernel
theorem dX7_isSinger_2 : decode cX7_isSinger 2 = .ok (.lconst 0, 1) := by decide +kernel
theorem dX7_isSinger_3 : decode cX7_isSinger 3 = .ok (.aload_n 0, 1) := by decide +kernel
theorem dX7_isSinger_4 : decode cX7_isSinger 4 = .ok (.getfield 101, 3) := by decide +kernel
theorem dX7_isSinger_7 : decode cX7_isSinger 7 = .ok (.iconst 1, 1) := by decide +kernel
theorem dX7_isSinger_8 : decode cX7_isSinger 8 = .ok (.isub, 1) := by decide +kernel
theorem dX7_isSinger_9 : decode cX7_isSinger 9 = .ok (.i2l, 1) := by decide +kernel
theorem dX7_isSinger_10 : decode cX7_isSinger 10 = .ok (.invokestatic 63, 3) := by decide +kernel
theorem dX7_isSinger_13 : decode cX7_isSinger 13 = .ok (.ireturn, 1) := by decide +kernel
theorem dX7_isBar_0 : decode cX7_isBar 0 = .ok (.iload_n 1, 1) := by decide +kernel
theorem dX7_isBar_1 : decode cX7_isBar 1 = .ok (.i2l, 1) := by decide +kernel
theorem dX7_isBar_2 : decode cX7_isBar 2 = .ok (.lconst 0, 1) := by decide +kernel
theorem dX7_isBar_3 : decode cX7_isBar 3 = .ok (.aload_n 0, 1) := by decide +kernel
theorem dX7_isBar_4 : decode cX7_isBar 4 = .ok (.getfield 107, 3) := by decide +kernel
theorem dX7_isBar_7 : decode cX7_isBar 7 = .ok (.iconst 1, 1) := by decide +kernel
theorem dX7_isBar_8 : decode cX7_isBar 8 = .ok (.isub, 1) := by decide +kernel
theorem dX7_isBar_9 : decode cX7_isBar 9 = .ok (.i2l, 1) := by decide +kernel
theorem dX7_isBar_10 : decode cX7_isBar 10 = .ok (.invokestatic 63, 3) := by decide +kernel
theorem dX7_isBar_13 : decode cX7_isBar 13 = .ok (.ireturn, 1) := by decide +kernel
theorem dX7_singer_0 : decode cX7_singer 0 = .ok (.aload_n 0, 1) := by decide +kernel
theorem dX7_singer_1 : decode cX7_singer 1 = .ok (.invokevirtual 110, 3) := by decide +kernel
theorem dX7_singer_4 : decode cX7_singer 4 = .ok (.pop, 1) := by decide +kernel
theorem dX7_singer_5 : decode cX7_singer 5 = .ok (.aload_n 0, 1) := by decide +kernel
theorem dX7_singer_6 : decode cX7_singer 6 = .ok (.iload_n 1, 1) := by decide +kernel
theorem dX7_singer_7 : decode cX7_singer 7 = .ok (.invokevirtual 117, 3) := by decide +kernel
theorem dX7_singer_10 : decode cX7_singer 10 = .ok (.ifCond .eq 28, 3) := by decide +kernel
theorem dX7_singer_13 : decode cX7_singer 13 = .ok (.iload_n 2, 1) := by decide +kernel
theorem dX7_singer_14 : decode cX7_singer 14 = .ok (.i2l, 1) := by decide +kernel
theorem dX7_singer_15 : decode cX7_singer 15 = .ok (.lconst 0, 1) := by decide +kernel
theorem dX7_singer_16 : decode cX7_singer 16 = .ok (.ldc2_w 71, 3) := by decide +kernel
theorem dX7_singer_19 : decode cX7_singer 19 = .ok (.invokestatic 63, 3) := by decide +kernel
theorem dX7_singer_22 : decode cX7_singer 22 = .ok (.ifCond .eq 16, 3) := by decide +kernel
theorem dX7_singer_25 : decode cX7_singer 25 = .ok (.aload_n 0, 1) := by decide +kernel
theorem dX7_singer_26 : decode cX7_singer 26 = .ok (.getfield 28, 3) := by decide +kernel
theorem dX7_singer_29 : decode cX7_singer 29 = .ok (.iconst 4, 1) := by decide +kernel
theorem dX7_singer_30 : decode cX7_singer 30 = .ok (.iload_n 1, 1) := by decide +kernel
theorem dX7_singer_31 : decode cX7_singer 31 = .ok (.imul, 1) := by decide +kernel
theorem dX7_singer_32 : decode cX7_singer 32 = .ok (.iload_n 2, 1) := by decide +kernel
theorem dX7_singer_33 : decode cX7_singer 33 = .ok (.iadd, 1) := by decide +kernel
theorem dX7_singer_34 : decode cX7_singer 34 = .ok (.iaload, 1) := by decide +kernel
theorem dX7_singer_35 : decode cX7_singer 35 = .ok (.goto 5, 3) := by decide +kernel
theorem dX7_singer_38 : decode cX7_singer 38 = .ok (.bipush (-2), 2) := by decide +kernel
theorem dX7_singer_40 : decode cX7_singer 40 = .ok (.ireturn, 1) := by decide +kernel
theorem dX7_bar_0 : decode cX7_bar 0 = .ok (.aload_n 0, 1) := by decide +kernel
theorem dX7_bar_1 : decode cX7_bar 1 = .ok (.invokevirtual 114, 3) := by decide +kernel
theorem dX7_bar_4 : decode cX7_bar 4 = .ok (.pop, 1) := by decide +kernel
theorem dX7_bar_5 : decode cX7_bar 5 = .ok (.iload_n 1, 1) := by decide +kernel
theorem dX7_bar_6 : decode cX7_bar 6 = .ok (.i2l, 1) := by decide +kernel
theorem dX7_bar_7 : decode cX7_bar 7 = .ok (.lconst 0, 1) := by decide +kernel
theorem dX7_bar_8 : decode cX7_bar 8 = .ok (.ldc2_w 120, 3) := by decide +kernel
theorem dX7_bar_11 : decode cX7_bar 11 = .ok (.invokestatic 63, 3) := by decide +kernel
theorem dX7_bar_14 : decode cX7_bar 14 = .ok (.ifCond .ne 8, 3) := by decide +kernel
theorem dX7_bar_17 : decode cX7_bar 17 = .ok (.bipush (-2), 2) := by decide +kernel
theorem dX7_bar_19 : decode cX7_bar 19 = .ok (.goto 21, 3) := by decide +kernel
theorem dX7_bar_22 : decode cX7_bar 22 = .ok (.iload_n 1, 1) := by decide +kernel
theorem dX7_bar_23 : decode cX7_bar 23 = .ok (.aload_n 0, 1) := by decide +kernel
theorem dX7_bar_24 : decode cX7_bar 24 = .ok (.getfield 107, 3) := by decide +kernel
theorem dX7_bar_27 : decode cX7_bar 27 = .ok (.if_icmp .ge 12, 3) := by decide +kernel
theorem dX7_bar_30 : decode cX7_bar 30 = .ok (.aload_n 0, 1) := by decide +kernel
theorem dX7_bar_31 : decode cX7_bar 31 = .ok (.getfield 31, 3) := by decide +kernel
theorem dX7_bar_34 : decode cX7_bar 34 = .ok (.iload_n 1, 1) := by decide +kernel
theorem dX7_bar_35 : decode cX7_bar 35 = .ok (.iaload, 1) := by decide +kernel
theorem dX7_bar_36 : decode cX7_bar 36 = .ok (.goto 4, 3) := by decide +kernel
theorem dX7_bar_39 : decode cX7_bar 39 = .ok (.iconst (-1), 1) := by decide +kernel
theorem dX7_bar_40 : decode cX7_bar 40 = .ok (.ireturn, 1) := by decide +kernel
theorem dX7_set_0 : decode cX7_set 0 = .ok (.iload_n 1, 1) := by decide +kernel
theorem dX7_set_1 : decode cX7_set 1 = .ok (.i2l, 1) := by decide +kernel
theorem dX7_set_2 : decode cX7_set 2 = .ok (.lconst 0, 1) := by decide +kernel
theorem dX7_set_3 : decode cX7_set 3 = .ok (.ldc2_w 71, 3) := by decide +kernel
theorem dX7_set_6 : decode cX7_set 6 = .ok (.invokestatic 63, 3) := by decide +kernel
theorem dX7_set_9 : decode cX7_set 9 = .ok (.ifCond .eq 37, 3) := by decide +kernel
theorem dX7_set_12 : decode cX7_set 12 = .ok (.iload_n 2, 1) := by decide +kernel
theorem dX7_set_13 : decode cX7_set 13 = .ok (.i2l, 1) := by decide +kernel
theorem dX7_set_14 : decode cX7_set 14 = .ok (.lconst 0, 1) := by decide +kernel
theorem dX7_set_15 : decode cX7_set 15 = .ok (.iload_n 1, 1) := by decide +kernel
theorem dX7_set_16 : decode cX7_set 16 = .ok (.iconst 1, 1) := by decide +kernel
theorem dX7_set_17 : decode cX7_set 17 = .ok (.if_icmp .ne 9, 3) := by decide +kernel
theorem dX7_set_20 : decode cX7_set 20 = .ok (.ldc2_w 122, 3) := by decide +kernel
theorem dX7_set_23 : decode cX7_set 23 = .ok (.goto 17, 3) := by decide +kernel
theorem dX7_set_26 : decode cX7_set 26 = .ok (.iload_n 1, 1) := by decide +kernel
theorem dX7_set_27 : decode cX7_set 27 = .ok (.iconst 2, 1) := by decide +kernel
theorem dX7_set_28 : decode cX7_set 28 = .ok (.if_icmp .ne 9, 3) := by decide +kernel
theorem dX7_set_31 : decode cX7_set 31 = .ok (.ldc2_w 124, 3) := by decide +kernel
theorem dX7_set_34 : decode cX7_set 34 = .ok (.goto 6, 3) := by decide +kernel
theorem dX7_set_37 : decode cX7_set 37 = .ok (.ldc2_w 126, 3) := by decide +kernel
theorem dX7_set_40 : decode cX7_set 40 = .ok (.invokestatic 63, 3) := by decide +kernel
theorem dX7_set_43 : decode cX7_set 43 = .ok (.ifCond .ne 6, 3) := by decide +kernel
theorem dX7_set_46 : decode cX7_set 46 = .ok (.bipush (-2), 2) := by decide +kernel
theorem dX7_set_48 : decode cX7_set 48 = .ok (.ireturn, 1) := by decide +kernel
theorem dX7_set_49 : decode cX7_set 49 = .ok (.aload_n 0, 1) := by decide +kernel
theorem dX7_set_50 : decode cX7_set 50 = .ok (.getfield 34, 3) := by decide +kernel
theorem dX7_set_53 : decode cX7_set 53 = .ok (.iload_n 1, 1) := by decide +kernel
theorem dX7_set_54 : decode cX7_set 54 = .ok (.iaload, 1) := by decide +kernel
theorem dX7_set_55 : decode cX7_set 55 = .ok (.istore_n 3, 1) := by decide +kernel
theorem dX7_set_56 : decode cX7_set 56 = .ok (.aload_n 0, 1) := by decide +kernel
theorem dX7_set_57 : decode cX7_set 57 = .ok (.getfield 34, 3) := by decide +kernel
theorem dX7_set_60 : decode cX7_set 60 = .ok (.iload_n 1, 1) := by decide +kernel
theorem dX7_set_61 : decode cX7_set 61 = .ok (.iload_n 2, 1) := by decide +kernel
theorem dX7_set_62 : decode cX7_set 62 = .ok (.iastore, 1) := by decide +kernel
theorem dX7_set_63 : decode cX7_set 63 = .ok (.iload_n 3, 1) := by decide +kernel
theorem dX7_set_64 : decode cX7_set 64 = .ok (.ireturn, 1) := by decide +kernel
theorem dX7_whistleAt_0 : decode cX7_whistleAt 0 = .ok (.sipush 1000, 3) := by decide +kernel
theorem dX7_whistleAt_3 : decode cX7_whistleAt 3 = .ok (.aload_n 0, 1) := by decide +kernel
theorem dX7_whistleAt_4 : decode cX7_whistleAt 4 = .ok (.getfield 34, 3) := by decide +kernel
theorem dX7_whistleAt_7 : decode cX7_whistleAt 7 = .ok (.iconst 0, 1) := by decide +kernel
theorem dX7_whistleAt_8 : decode cX7_whistleAt 8 = .ok (.iaload, 1) := by decide +kernel
theorem dX7_whistleAt_9 : decode cX7_whistleAt 9 = .ok (.iadd, 1) := by decide +kernel
theorem dX7_whistleAt_10 : decode cX7_whistleAt 10 = .ok (.aload_n 0, 1) := by decide +kernel
theorem dX7_whistleAt_11 : decode cX7_whistleAt 11 = .ok (.getfield 34, 3) := by decide +kernel
theorem dX7_whistleAt_14 : decode cX7_whistleAt 14 = .ok (.iconst 0, 1) := by decide +kernel
theorem dX7_whistleAt_15 : decode cX7_whistleAt 15 = .ok (.iaload, 1) := by decide +kernel
theorem dX7_whistleAt_16 : decode cX7_whistleAt 16 = .ok (.iload_n 1, 1) := by decide +kernel
theorem dX7_whistleAt_17 : decode cX7_whistleAt 17 = .ok (.aload_n 0, 1) := by decide +kernel
theorem dX7_whistleAt_18 : decode cX7_whistleAt 18 = .ok (.getfield 34, 3) := by decide +kernel
theorem dX7_whistleAt_21 : decode cX7_whistleAt 21 = .ok (.iconst 1, 1) := by decide +kernel
theorem dX7_whistleAt_22 : decode cX7_whistleAt 22 = .ok (.iaload, 1) := by decide +kernel
theorem dX7_whistleAt_23 : decode cX7_whistleAt 23 = .ok (.iadd, 1) := by decide +kernel
theorem dX7_whistleAt_24 : decode cX7_whistleAt 24 = .ok (.imul, 1) := by decide +kernel
theorem dX7_whistleAt_25 : decode cX7_whistleAt 25 = .ok (.iconst 4, 1) := by decide +kernel
theorem dX7_whistleAt_26 : decode cX7_whistleAt 26 = .ok (.idiv, 1) := by decide +kernel
theorem dX7_whistleAt_27 : decode cX7_whistleAt 27 = .ok (.isub, 1) := by decide +kernel
theorem dX7_whistleAt_28 : decode cX7_whistleAt 28 = .ok (.bipush 9, 2) := by decide +kernel
theorem dX7_whistleAt_30 : decode cX7_whistleAt 30 = .ok (.isub, 1) := by decide +kernel
theorem dX7_whistleAt_31 : decode cX7_whistleAt 31 = .ok (.aload_n 0, 1) := by decide +kernel
theorem dX7_whistleAt_32 : decode cX7_whistleAt 32 = .ok (.getfield 34, 3) := by decide +kernel
theorem dX7_whistleAt_35 : decode cX7_whistleAt 35 = .ok (.iconst 2, 1) := by decide +kernel
theorem dX7_whistleAt_36 : decode cX7_whistleAt 36 = .ok (.iaload, 1) := by decide +kernel
theorem dX7_whistleAt_37 : decode cX7_whistleAt 37 = .ok (.iadd, 1) := by decide +kernel
theorem dX7_whistleAt_38 : decode cX7_whistleAt 38 = .ok (.ireturn, 1) := by decide +kernel
theorem dX7_whistle_0 : decode cX7_whistle 0 = .ok (.iload_n 1, 1) := by decide +kernel
theorem dX7_whistle_1 : decode cX7_whistle 1 = .ok (.i2l, 1) := by decide +kernel
theorem dX7_whistle_2 : decode cX7_whistle 2 = .ok (.lconst 0, 1) := by decide +kernel
theorem dX7_whistle_3 : decode cX7_whistle 3 = .ok (.ldc2_w 122, 3) := by decide +kernel
theorem dX7_whistle_6 : decode cX7_whistle 6 = .ok (.invokestatic 63, 3) := by decide +kernel
theorem dX7_whistle_9 : decode cX7_whistle 9 = .ok (.ifCond .eq 11, 3) := by decide +kernel
theorem dX7_whistle_12 : decode cX7_whistle 12 = .ok (.aload_n 0, 1) := by decide +kernel
theorem dX7_whistle_13 : decode cX7_whistle 13 = .ok (.iload_n 1, 1) := by decide +kernel
theorem dX7_whistle_14 : decode cX7_whistle 14 = .ok (.invokevirtual 128, 3) := by decide +kernel
theorem dX7_whistle_17 : decode cX7_whistle 17 = .ok (.goto 6, 3) := by decide +kernel
theorem dX7_whistle_20 : decode cX7_whistle 20 = .ok (.sipush (-10002), 3) := by decide +kernel
theorem dX7_whistle_23 : decode cX7_whistle 23 = .ok (.ireturn, 1) := by decide +kernel
theorem dX7_nearest_0 : decode cX7_nearest 0 = .ok (.iconst (-1), 1) := by decide +kernel
theorem dX7_nearest_1 : decode cX7_nearest 1 = .ok (.istore_n 2, 1) := by decide +kernel
theorem dX7_nearest_2 : decode cX7_nearest 2 = .ok (.iconst 0, 1) := by decide +kernel
theorem dX7_nearest_3 : decode cX7_nearest 3 = .ok (.istore_n 3, 1) := by decide +kernel
theorem dX7_nearest_4 : decode cX7_nearest 4 = .ok (.iload_n 3, 1) := by decide +kernel
theorem dX7_nearest_5 : decode cX7_nearest 5 = .ok (.aload_n 0, 1) := by decide +kernel
theorem dX7_nearest_6 : decode cX7_nearest 6 = .ok (.getfield 101, 3) := by decide +kernel
theorem dX7_nearest_9 : decode cX7_nearest 9 = .ok (.if_icmp .ge 72, 3) := by decide +kernel
theorem dX7_nearest_12 : decode cX7_nearest 12 = .ok (.iload_n 3, 1) := by decide +kernel
theorem dX7_nearest_13 : decode cX7_nearest 13 = .ok (.iload_n 1, 1) := by decide +kernel
theorem dX7_nearest_14 : decode cX7_nearest 14 = .ok (.if_icmp .eq 47, 3) := by decide +kernel
theorem dX7_nearest_17 : decode cX7_nearest 17 = .ok (.iload_n 2, 1) := by decide +kernel
theorem dX7_nearest_18 : decode cX7_nearest 18 = .ok (.iconst (-1), 1) := by decide +kernel
theorem dX7_nearest_19 : decode cX7_nearest 19 = .ok (.if_icmp .eq 38, 3) := by decide +kernel
theorem dX7_nearest_22 : decode cX7_nearest 22 = .ok (.aload_n 0, 1) := by decide +kernel
theorem dX7_nearest_23 : decode cX7_nearest 23 = .ok (.getfield 37, 3) := by decide +kernel
theorem dX7_nearest_26 : decode cX7_nearest 26 = .ok (.iload_n 3, 1) := by decide +kernel
theorem dX7_nearest_27 : decode cX7_nearest 27 = .ok (.iaload, 1) := by decide +kernel
theorem dX7_nearest_28 : decode cX7_nearest 28 = .ok (.aload_n 0, 1) := by decide +kernel
theorem dX7_nearest_29 : decode cX7_nearest 29 = .ok (.getfield 37, 3) := by decide +kernel
theorem dX7_nearest_32 : decode cX7_nearest 32 = .ok (.iload_n 1, 1) := by decide +kernel
theorem dX7_nearest_33 : decode cX7_nearest 33 = .ok (.iaload, 1) := by decide +kernel
theorem dX7_nearest_34 : decode cX7_nearest 34 = .ok (.isub, 1) := by decide +kernel
theorem dX7_nearest_35 : decode cX7_nearest 35 = .ok (.invokestatic 131, 3) := by decide +kernel
theorem dX7_nearest_38 : decode cX7_nearest 38 = .ok (.aload_n 0, 1) := by decide +kernel
theorem dX7_nearest_39 : decode cX7_nearest 39 = .ok (.getfield 37, 3) := by decide +kernel
theorem dX7_nearest_42 : decode cX7_nearest 42 = .ok (.iload_n 2, 1) := by decide +kernel
theorem dX7_nearest_43 : decode cX7_nearest 43 = .ok (.iaload, 1) := by decide +kernel
theorem dX7_nearest_44 : decode cX7_nearest 44 = .ok (.aload_n 0, 1) := by decide +kernel
theorem dX7_nearest_45 : decode cX7_nearest 45 = .ok (.getfield 37, 3) := by decide +kernel
theorem dX7_nearest_48 : decode cX7_nearest 48 = .ok (.iload_n 1, 1) := by decide +kernel
theorem dX7_nearest_49 : decode cX7_nearest 49 = .ok (.iaload, 1) := by decide +kernel
theorem dX7_nearest_50 : decode cX7_nearest 50 = .ok (.isub, 1) := by decide +kernel
theorem dX7_nearest_51 : decode cX7_nearest 51 = .ok (.invokestatic 131, 3) := by decide +kernel
theorem dX7_nearest_54 : decode cX7_nearest 54 = .ok (.if_icmp .ge 7, 3) := by decide +kernel
theorem dX7_nearest_57 : decode cX7_nearest 57 = .ok (.iconst 1, 1) := by decide +kernel
theorem dX7_nearest_58 : decode cX7_nearest 58 = .ok (.goto 4, 3) := by decide +kernel
theorem dX7_nearest_61 : decode cX7_nearest 61 = .ok (.iconst 0, 1) := by decide +kernel
theorem dX7_nearest_62 : decode cX7_nearest 62 = .ok (.istore 4, 2) := by decide +kernel
theorem dX7_nearest_64 : decode cX7_nearest 64 = .ok (.iload 4, 2) := by decide +kernel
theorem dX7_nearest_66 : decode cX7_nearest 66 = .ok (.ifCond .eq 7, 3) := by decide +kernel
theorem dX7_nearest_69 : decode cX7_nearest 69 = .ok (.iload_n 3, 1) := by decide +kernel
theorem dX7_nearest_70 : decode cX7_nearest 70 = .ok (.goto 4, 3) := by decide +kernel
theorem dX7_nearest_73 : decode cX7_nearest 73 = .ok (.iload_n 2, 1) := by decide +kernel
theorem dX7_nearest_74 : decode cX7_nearest 74 = .ok (.istore_n 2, 1) := by decide +kernel
theorem dX7_nearest_75 : decode cX7_nearest 75 = .ok (.iinc 3 1, 3) := by decide +kernel
theorem dX7_nearest_78 : decode cX7_nearest 78 = .ok (.goto (-74), 3) := by decide +kernel
theorem dX7_nearest_81 : decode cX7_nearest 81 = .ok (.iload_n 2, 1) := by decide +kernel
theorem dX7_nearest_82 : decode cX7_nearest 82 = .ok (.ireturn, 1) := by decide +kernel
theorem dX7_wrongBy_0 : decode cX7_wrongBy 0 = .ok (.aload_n 0, 1) := by decide +kernel
theorem dX7_wrongBy_1 : decode cX7_wrongBy 1 = .ok (.getfield 37, 3) := by decide +kernel
theorem dX7_wrongBy_4 : decode cX7_wrongBy 4 = .ok (.iload_n 1, 1) := by decide +kernel
theorem dX7_wrongBy_5 : decode cX7_wrongBy 5 = .ok (.iaload, 1) := by decide +kernel
theorem dX7_wrongBy_6 : decode cX7_wrongBy 6 = .ok (.iconst 2, 1) := by decide +kernel
theorem dX7_wrongBy_7 : decode cX7_wrongBy 7 = .ok (.irem, 1) := by decide +kernel
theorem dX7_wrongBy_8 : decode cX7_wrongBy 8 = .ok (.ifCond .ne 7, 3) := by decide +kernel
theorem dX7_wrongBy_11 : decode cX7_wrongBy 11 = .ok (.iload_n 2, 1) := by decide +kernel
theorem dX7_wrongBy_12 : decode cX7_wrongBy 12 = .ok (.goto 5, 3) := by decide +kernel
theorem dX7_wrongBy_15 : decode cX7_wrongBy 15 = .ok (.iload_n 2, 1) := by decide +kernel
theorem dX7_wrongBy_16 : decode cX7_wrongBy 16 = .ok (.ineg, 1) := by decide +kernel
theorem dX7_wrongBy_17 : decode cX7_wrongBy 17 = .ok (.ireturn, 1) := by decide +kernel
theorem dX7_listens_0 : decode cX7_listens 0 = .ok (.iload_n 1, 1) := by decide +kernel
theorem dX7_listens_1 : decode cX7_listens 1 = .ok (.istore_n 2, 1) := by decide +kernel
theorem dX7_listens_2 : decode cX7_listens 2 = .ok (.iconst 0, 1) := by decide +kernel
theorem dX7_listens_3 : decode cX7_listens 3 = .ok (.istore_n 3, 1) := by decide +kernel
theorem dX7_listens_4 : decode cX7_listens 4 = .ok (.iconst 0, 1) := by decide +kernel
theorem dX7_listens_5 : decode cX7_listens 5 = .ok (.istore 4, 2) := by decide +kernel
theorem dX7_listens_7 : decode cX7_listens 7 = .ok (.iload 4, 2) := by decide +kernel
theorem dX7_listens_9 : decode cX7_listens 9 = .ok (.bipush 9, 2) := by decide +kernel
theorem dX7_listens_11 : decode cX7_listens 11 = .ok (.if_icmp .ge 94, 3) := by decide +kernel
theorem dX7_listens_14 : decode cX7_listens 14 = .ok (.iload_n 2, 1) := by decide +kernel
theorem dX7_listens_15 : decode cX7_listens 15 = .ok (.iconst (-1), 1) := by decide +kernel
theorem dX7_listens_16 : decode cX7_listens 16 = .ok (.if_icmp .ne 4, 3) := by decide +kernel
theorem dX7_listens_19 : decode cX7_listens 19 = .ok (.return_, 1) := by decide +kernel
theorem dX7_listens_20 : decode cX7_listens 20 = .ok (.aload_n 0, 1) := by decide +kernel
theorem dX7_listens_21 : decode cX7_listens 21 = .ok (.getfield 28, 3) := by decide +kernel
theorem dX7_listens_24 : decode cX7_listens 24 = .ok (.iconst 4, 1) := by decide +kernel
theorem dX7_listens_25 : decode cX7_listens 25 = .ok (.iload_n 2, 1) := by decide +kernel
theorem dX7_listens_26 : decode cX7_listens 26 = .ok (.imul, 1) := by decide +kernel
theorem dX7_listens_27 : decode cX7_listens 27 = .ok (.iconst 3, 1) := by decide +kernel
theorem dX7_listens_28 : decode cX7_listens 28 = .ok (.iadd, 1) := by decide +kernel
theorem dX7_listens_29 : decode cX7_listens 29 = .ok (.iaload, 1) := by decide +kernel
theorem dX7_listens_30 : decode cX7_listens 30 = .ok (.iconst 1, 1) := by decide +kernel
theorem dX7_listens_31 : decode cX7_listens 31 = .ok (.if_icmp .ne 46, 3) := by decide +kernel
theorem dX7_listens_34 : decode cX7_listens 34 = .ok (.aload_n 0, 1) := by decide +kernel
theorem dX7_listens_35 : decode cX7_listens 35 = .ok (.getfield 43, 3) := by decide +kernel
theorem dX7_listens_38 : decode cX7_listens 38 = .ok (.iload_n 1, 1) := by decide +kernel
theorem dX7_listens_39 : decode cX7_listens 39 = .ok (.iload 4, 2) := by decide +kernel
theorem dX7_listens_41 : decode cX7_listens 41 = .ok (.iastore, 1) := by decide +kernel
theorem dX7_listens_42 : decode cX7_listens 42 = .ok (.aload_n 0, 1) := by decide +kernel
theorem dX7_listens_43 : decode cX7_listens 43 = .ok (.getfield 46, 3) := by decide +kernel
theorem dX7_listens_46 : decode cX7_listens 46 = .ok (.iload_n 1, 1) := by decide +kernel
theorem dX7_listens_47 : decode cX7_listens 47 = .ok (.iload_n 3, 1) := by decide +kernel
theorem dX7_listens_48 : decode cX7_listens 48 = .ok (.aload_n 0, 1) := by decide +kernel
theorem dX7_listens_49 : decode cX7_listens 49 = .ok (.aload_n 0, 1) := by decide +kernel
theorem dX7_listens_50 : decode cX7_listens 50 = .ok (.getfield 37, 3) := by decide +kernel
theorem dX7_listens_53 : decode cX7_listens 53 = .ok (.iload_n 2, 1) := by decide +kernel
theorem dX7_listens_54 : decode cX7_listens 54 = .ok (.iaload, 1) := by decide +kernel
theorem dX7_listens_55 : decode cX7_listens 55 = .ok (.invokevirtual 128, 3) := by decide +kernel
theorem dX7_listens_58 : decode cX7_listens 58 = .ok (.iadd, 1) := by decide +kernel
theorem dX7_listens_59 : decode cX7_listens 59 = .ok (.aload_n 0, 1) := by decide +kernel
theorem dX7_listens_60 : decode cX7_listens 60 = .ok (.iload_n 2, 1) := by decide +kernel
theorem dX7_listens_61 : decode cX7_listens 61 = .ok (.aload_n 0, 1) := by decide +kernel
theorem dX7_listens_62 : decode cX7_listens 62 = .ok (.getfield 28, 3) := by decide +kernel
theorem dX7_listens_65 : decode cX7_listens 65 = .ok (.iconst 4, 1) := by decide +kernel
theorem dX7_listens_66 : decode cX7_listens 66 = .ok (.iload_n 2, 1) := by decide +kernel
theorem dX7_listens_67 : decode cX7_listens 67 = .ok (.imul, 1) := by decide +kernel
theorem dX7_listens_68 : decode cX7_listens 68 = .ok (.iconst 1, 1) := by decide +kernel
theorem dX7_listens_69 : decode cX7_listens 69 = .ok (.iadd, 1) := by decide +kernel
theorem dX7_listens_70 : decode cX7_listens 70 = .ok (.iaload, 1) := by decide +kernel
theorem dX7_listens_71 : decode cX7_listens 71 = .ok (.invokevirtual 134, 3) := by decide +kernel
theorem dX7_listens_74 : decode cX7_listens 74 = .ok (.iadd, 1) := by decide +kernel
theorem dX7_listens_75 : decode cX7_listens 75 = .ok (.iastore, 1) := by decide +kernel
theorem dX7_listens_76 : decode cX7_listens 76 = .ok (.return_, 1) := by decide +kernel
theorem dX7_listens_77 : decode cX7_listens 77 = .ok (.iload_n 3, 1) := by decide +kernel
theorem dX7_listens_78 : decode cX7_listens 78 = .ok (.aload_n 0, 1) := by decide +kernel
theorem dX7_listens_79 : decode cX7_listens 79 = .ok (.getfield 28, 3) := by decide +kernel
theorem dX7_listens_82 : decode cX7_listens 82 = .ok (.iconst 4, 1) := by decide +kernel
theorem dX7_listens_83 : decode cX7_listens 83 = .ok (.iload_n 2, 1) := by decide +kernel
theorem dX7_listens_84 : decode cX7_listens 84 = .ok (.imul, 1) := by decide +kernel
theorem dX7_listens_85 : decode cX7_listens 85 = .ok (.iconst 1, 1) := by decide +kernel
theorem dX7_listens_86 : decode cX7_listens 86 = .ok (.iadd, 1) := by decide +kernel
theorem dX7_listens_87 : decode cX7_listens 87 = .ok (.iaload, 1) := by decide +kernel
theorem dX7_listens_88 : decode cX7_listens 88 = .ok (.iconst 2, 1) := by decide +kernel
theorem dX7_listens_89 : decode cX7_listens 89 = .ok (.idiv, 1) := by decide +kernel
theorem dX7_listens_90 : decode cX7_listens 90 = .ok (.iadd, 1) := by decide +kernel
theorem dX7_listens_91 : decode cX7_listens 91 = .ok (.istore_n 3, 1) := by decide +kernel
theorem dX7_listens_92 : decode cX7_listens 92 = .ok (.aload_n 0, 1) := by decide +kernel
theorem dX7_listens_93 : decode cX7_listens 93 = .ok (.getfield 40, 3) := by decide +kernel
theorem dX7_listens_96 : decode cX7_listens 96 = .ok (.iload_n 2, 1) := by decide +kernel
theorem dX7_listens_97 : decode cX7_listens 97 = .ok (.iaload, 1) := by decide +kernel
theorem dX7_listens_98 : decode cX7_listens 98 = .ok (.istore_n 2, 1) := by decide +kernel
theorem dX7_listens_99 : decode cX7_listens 99 = .ok (.iinc 4 1, 3) := by decide +kernel
theorem dX7_listens_102 : decode cX7_listens 102 = .ok (.goto (-95), 3) := by decide +kernel
theorem dX7_listens_105 : decode cX7_listens 105 = .ok (.return_, 1) := by decide +kernel
theorem dX7_findNotes_0 : decode cX7_findNotes 0 = .ok (.iconst 0, 1) := by decide +kernel
theorem dX7_findNotes_1 : decode cX7_findNotes 1 = .ok (.istore_n 1, 1) := by decide +kernel
theorem dX7_findNotes_2 : decode cX7_findNotes 2 = .ok (.iload_n 1, 1) := by decide +kernel
theorem dX7_findNotes_3 : decode cX7_findNotes 3 = .ok (.aload_n 0, 1) := by decide +kernel
theorem dX7_findNotes_4 : decode cX7_findNotes 4 = .ok (.getfield 101, 3) := by decide +kernel
theorem dX7_findNotes_7 : decode cX7_findNotes 7 = .ok (.if_icmp .ge 20, 3) := by decide +kernel
theorem dX7_findNotes_10 : decode cX7_findNotes 10 = .ok (.aload_n 0, 1) := by decide +kernel
theorem dX7_findNotes_11 : decode cX7_findNotes 11 = .ok (.getfield 40, 3) := by decide +kernel
theorem dX7_findNotes_14 : decode cX7_findNotes 14 = .ok (.iload_n 1, 1) := by decide +kernel
theorem dX7_findNotes_15 : decode cX7_findNotes 15 = .ok (.aload_n 0, 1) := by decide +kernel
theorem dX7_findNotes_16 : decode cX7_findNotes 16 = .ok (.iload_n 1, 1) := by decide +kernel
theorem dX7_findNotes_17 : decode cX7_findNotes 17 = .ok (.invokevirtual 137, 3) := by decide +kernel
theorem dX7_findNotes_20 : decode cX7_findNotes 20 = .ok (.iastore, 1) := by decide +kernel
theorem dX7_findNotes_21 : decode cX7_findNotes 21 = .ok (.iinc 1 1, 3) := by decide +kernel
theorem dX7_findNotes_24 : decode cX7_findNotes 24 = .ok (.goto (-22), 3) := by decide +kernel
theorem dX7_findNotes_27 : decode cX7_findNotes 27 = .ok (.iconst 0, 1) := by decide +kernel
theorem dX7_findNotes_28 : decode cX7_findNotes 28 = .ok (.istore_n 1, 1) := by decide +kernel
theorem dX7_findNotes_29 : decode cX7_findNotes 29 = .ok (.iload_n 1, 1) := by decide +kernel
theorem dX7_findNotes_30 : decode cX7_findNotes 30 = .ok (.aload_n 0, 1) := by decide +kernel
theorem dX7_findNotes_31 : decode cX7_findNotes 31 = .ok (.getfield 101, 3) := by decide +kernel
theorem dX7_findNotes_34 : decode cX7_findNotes 34 = .ok (.if_icmp .ge 21, 3) := by decide +kernel
theorem dX7_findNotes_37 : decode cX7_findNotes 37 = .ok (.aload_n 0, 1) := by decide +kernel
theorem dX7_findNotes_38 : decode cX7_findNotes 38 = .ok (.getfield 43, 3) := by decide +kernel
theorem dX7_findNotes_41 : decode cX7_findNotes 41 = .ok (.iload_n 1, 1) := by decide +kernel
theorem dX7_findNotes_42 : decode cX7_findNotes 42 = .ok (.iconst (-1), 1) := by decide +kernel
theorem dX7_findNotes_43 : decode cX7_findNotes 43 = .ok (.iastore, 1) := by decide +kernel
theorem dX7_findNotes_44 : decode cX7_findNotes 44 = .ok (.aload_n 0, 1) := by decide +kernel
theorem dX7_findNotes_45 : decode cX7_findNotes 45 = .ok (.iload_n 1, 1) := by decide +kernel
theorem dX7_findNotes_46 : decode cX7_findNotes 46 = .ok (.invokevirtual 140, 3) := by decide +kernel
theorem dX7_findNotes_49 : decode cX7_findNotes 49 = .ok (.iinc 1 1, 3) := by decide +kernel
theorem dX7_findNotes_52 : decode cX7_findNotes 52 = .ok (.goto (-23), 3) := by decide +kernel
theorem dX7_findNotes_55 : decode cX7_findNotes 55 = .ok (.return_, 1) := by decide +kernel
theorem dX7_find_0 : decode cX7_find 0 = .ok (.aload_n 0, 1) := by decide +kernel
theorem dX7_find_1 : decode cX7_find 1 = .ok (.invokevirtual 110, 3) := by decide +kernel
theorem dX7_find_4 : decode cX7_find 4 = .ok (.pop, 1) := by decide +kernel
theorem dX7_find_5 : decode cX7_find 5 = .ok (.aload_n 0, 1) := by decide +kernel
theorem dX7_find_6 : decode cX7_find 6 = .ok (.invokevirtual 114, 3) := by decide +kernel
theorem dX7_find_9 : decode cX7_find 9 = .ok (.pop, 1) := by decide +kernel
theorem dX7_find_10 : decode cX7_find 10 = .ok (.iconst 0, 1) := by decide +kernel
theorem dX7_find_11 : decode cX7_find 11 = .ok (.istore_n 1, 1) := by decide +kernel
theorem dX7_find_12 : decode cX7_find 12 = .ok (.iload_n 1, 1) := by decide +kernel
theorem dX7_find_13 : decode cX7_find 13 = .ok (.aload_n 0, 1) := by decide +kernel
theorem dX7_find_14 : decode cX7_find 14 = .ok (.getfield 101, 3) := by decide +kernel
theorem dX7_find_17 : decode cX7_find 17 = .ok (.if_icmp .ge 23, 3) := by decide +kernel
theorem dX7_find_20 : decode cX7_find 20 = .ok (.aload_n 0, 1) := by decide +kernel
theorem dX7_find_21 : decode cX7_find 21 = .ok (.getfield 37, 3) := by decide +kernel
theorem dX7_find_24 : decode cX7_find 24 = .ok (.iload_n 1, 1) := by decide +kernel
theorem dX7_find_25 : decode cX7_find 25 = .ok (.aload_n 0, 1) := by decide +kernel
theorem dX7_find_26 : decode cX7_find 26 = .ok (.getfield 28, 3) := by decide +kernel
theorem dX7_find_29 : decode cX7_find 29 = .ok (.iconst 4, 1) := by decide +kernel
theorem dX7_find_30 : decode cX7_find 30 = .ok (.iload_n 1, 1) := by decide +kernel
theorem dX7_find_31 : decode cX7_find 31 = .ok (.imul, 1) := by decide +kernel
theorem dX7_find_32 : decode cX7_find 32 = .ok (.iaload, 1) := by decide +kernel
theorem dX7_find_33 : decode cX7_find 33 = .ok (.iastore, 1) := by decide +kernel
theorem dX7_find_34 : decode cX7_find 34 = .ok (.iinc 1 1, 3) := by decide +kernel
theorem dX7_find_37 : decode cX7_find 37 = .ok (.goto (-25), 3) := by decide +kernel
theorem dX7_find_40 : decode cX7_find 40 = .ok (.aload_n 0, 1) := by decide +kernel
theorem dX7_find_41 : decode cX7_find 41 = .ok (.invokevirtual 144, 3) := by decide +kernel
theorem dX7_find_44 : decode cX7_find 44 = .ok (.return_, 1) := by decide +kernel
theorem dX7_ear_0 : decode cX7_ear 0 = .ok (.aload_n 0, 1) := by decide +kernel
theorem dX7_ear_1 : decode cX7_ear 1 = .ok (.invokevirtual 147, 3) := by decide +kernel
theorem dX7_ear_4 : decode cX7_ear 4 = .ok (.aload_n 0, 1) := by decide +kernel
theorem dX7_ear_5 : decode cX7_ear 5 = .ok (.iload_n 1, 1) := by decide +kernel
theorem dX7_ear_6 : decode cX7_ear 6 = .ok (.invokevirtual 117, 3) := by decide +kernel
theorem dX7_ear_9 : decode cX7_ear 9 = .ok (.ifCond .eq 10, 3) := by decide +kernel
theorem dX7_ear_12 : decode cX7_ear 12 = .ok (.iload_n 2, 1) := by decide +kernel
theorem dX7_ear_13 : decode cX7_ear 13 = .ok (.invokestatic 92, 3) := by decide +kernel
theorem dX7_ear_16 : decode cX7_ear 16 = .ok (.ifCond .ne 8, 3) := by decide +kernel
theorem dX7_ear_19 : decode cX7_ear 19 = .ok (.bipush (-2), 2) := by decide +kernel
theorem dX7_ear_21 : decode cX7_ear 21 = .ok (.goto 22, 3) := by decide +kernel
theorem dX7_ear_24 : decode cX7_ear 24 = .ok (.iload_n 2, 1) := by decide +kernel
theorem dX7_ear_25 : decode cX7_ear 25 = .ok (.ifCond .ne 12, 3) := by decide +kernel
theorem dX7_ear_28 : decode cX7_ear 28 = .ok (.aload_n 0, 1) := by decide +kernel
theorem dX7_ear_29 : decode cX7_ear 29 = .ok (.getfield 40, 3) := by decide +kernel
theorem dX7_ear_32 : decode cX7_ear 32 = .ok (.iload_n 1, 1) := by decide +kernel
theorem dX7_ear_33 : decode cX7_ear 33 = .ok (.iaload, 1) := by decide +kernel
theorem dX7_ear_34 : decode cX7_ear 34 = .ok (.goto 9, 3) := by decide +kernel
theorem dX7_ear_37 : decode cX7_ear 37 = .ok (.aload_n 0, 1) := by decide +kernel
theorem dX7_ear_38 : decode cX7_ear 38 = .ok (.getfield 43, 3) := by decide +kernel
theorem dX7_ear_41 : decode cX7_ear 41 = .ok (.iload_n 1, 1) := by decide +kernel
theorem dX7_ear_42 : decode cX7_ear 42 = .ok (.iaload, 1) := by decide +kernel
theorem dX7_ear_43 : decode cX7_ear 43 = .ok (.ireturn, 1) := by decide +kernel
theorem dX7_noteIn_0 : decode cX7_noteIn 0 = .ok (.aload_n 0, 1) := by decide +kernel
theorem dX7_noteIn_1 : decode cX7_noteIn 1 = .ok (.getfield 46, 3) := by decide +kernel
theorem dX7_noteIn_4 : decode cX7_noteIn 4 = .ok (.iload_n 1, 1) := by decide +kernel
theorem dX7_noteIn_5 : decode cX7_noteIn 5 = .ok (.iaload, 1) := by decide +kernel
theorem dX7_noteIn_6 : decode cX7_noteIn 6 = .ok (.istore_n 3, 1) := by decide +kernel
theorem dX7_noteIn_7 : decode cX7_noteIn 7 = .ok (.iconst 0, 1) := by decide +kernel
theorem dX7_noteIn_8 : decode cX7_noteIn 8 = .ok (.istore 4, 2) := by decide +kernel
theorem dX7_noteIn_10 : decode cX7_noteIn 10 = .ok (.iload 4, 2) := by decide +kernel
theorem dX7_noteIn_12 : decode cX7_noteIn 12 = .ok (.iload_n 2, 1) := by decide +kernel
theorem dX7_noteIn_13 : decode cX7_noteIn 13 = .ok (.if_icmp .ge 59, 3) := by decide +kernel
theorem dX7_noteIn_16 : decode cX7_noteIn 16 = .ok (.aload_n 0, 1) := by decide +kernel
theorem dX7_noteIn_17 : decode cX7_noteIn 17 = .ok (.getfield 31, 3) := by decide +kernel
theorem dX7_noteIn_20 : decode cX7_noteIn 20 = .ok (.iload 4, 2) := by decide +kernel
theorem dX7_noteIn_22 : decode cX7_noteIn 22 = .ok (.iaload, 1) := by decide +kernel
theorem dX7_noteIn_23 : decode cX7_noteIn 23 = .ok (.iconst 2, 1) := by decide +kernel
theorem dX7_noteIn_24 : decode cX7_noteIn 24 = .ok (.if_icmp .ne 12, 3) := by decide +kernel
theorem dX7_noteIn_27 : decode cX7_noteIn 27 = .ok (.aload_n 0, 1) := by decide +kernel
theorem dX7_noteIn_28 : decode cX7_noteIn 28 = .ok (.getfield 46, 3) := by decide +kernel
theorem dX7_noteIn_31 : decode cX7_noteIn 31 = .ok (.iload_n 1, 1) := by decide +kernel
theorem dX7_noteIn_32 : decode cX7_noteIn 32 = .ok (.iaload, 1) := by decide +kernel
theorem dX7_noteIn_33 : decode cX7_noteIn 33 = .ok (.goto 4, 3) := by decide +kernel
theorem dX7_noteIn_36 : decode cX7_noteIn 36 = .ok (.iload_n 3, 1) := by decide +kernel
theorem dX7_noteIn_37 : decode cX7_noteIn 37 = .ok (.istore_n 3, 1) := by decide +kernel
theorem dX7_noteIn_38 : decode cX7_noteIn 38 = .ok (.iload_n 3, 1) := by decide +kernel
theorem dX7_noteIn_39 : decode cX7_noteIn 39 = .ok (.aload_n 0, 1) := by decide +kernel
theorem dX7_noteIn_40 : decode cX7_noteIn 40 = .ok (.getfield 31, 3) := by decide +kernel
theorem dX7_noteIn_43 : decode cX7_noteIn 43 = .ok (.iload 4, 2) := by decide +kernel
theorem dX7_noteIn_45 : decode cX7_noteIn 45 = .ok (.iaload, 1) := by decide +kernel
theorem dX7_noteIn_46 : decode cX7_noteIn 46 = .ok (.iconst 1, 1) := by decide +kernel
theorem dX7_noteIn_47 : decode cX7_noteIn 47 = .ok (.if_icmp .ne 16, 3) := by decide +kernel
theorem dX7_noteIn_50 : decode cX7_noteIn 50 = .ok (.aload_n 0, 1) := by decide +kernel
theorem dX7_noteIn_51 : decode cX7_noteIn 51 = .ok (.getfield 28, 3) := by decide +kernel
theorem dX7_noteIn_54 : decode cX7_noteIn 54 = .ok (.iconst 4, 1) := by decide +kernel
theorem dX7_noteIn_55 : decode cX7_noteIn 55 = .ok (.iload_n 1, 1) := by decide +kernel
theorem dX7_noteIn_56 : decode cX7_noteIn 56 = .ok (.imul, 1) := by decide +kernel
theorem dX7_noteIn_57 : decode cX7_noteIn 57 = .ok (.iconst 2, 1) := by decide +kernel
theorem dX7_noteIn_58 : decode cX7_noteIn 58 = .ok (.iadd, 1) := by decide +kernel
theorem dX7_noteIn_59 : decode cX7_noteIn 59 = .ok (.iaload, 1) := by decide +kernel
theorem dX7_noteIn_60 : decode cX7_noteIn 60 = .ok (.goto 4, 3) := by decide +kernel
theorem dX7_noteIn_63 : decode cX7_noteIn 63 = .ok (.iconst 0, 1) := by decide +kernel
theorem dX7_noteIn_64 : decode cX7_noteIn 64 = .ok (.isub, 1) := by decide +kernel
theorem dX7_noteIn_65 : decode cX7_noteIn 65 = .ok (.istore_n 3, 1) := by decide +kernel
theorem dX7_noteIn_66 : decode cX7_noteIn 66 = .ok (.iinc 4 1, 3) := by decide +kernel
theorem dX7_noteIn_69 : decode cX7_noteIn 69 = .ok (.goto (-59), 3) := by decide +kernel
theorem dX7_noteIn_72 : decode cX7_noteIn 72 = .ok (.aload_n 0, 1) := by decide +kernel
theorem dX7_noteIn_73 : decode cX7_noteIn 73 = .ok (.getfield 31, 3) := by decide +kernel
theorem dX7_noteIn_76 : decode cX7_noteIn 76 = .ok (.iload_n 2, 1) := by decide +kernel
theorem dX7_noteIn_77 : decode cX7_noteIn 77 = .ok (.iaload, 1) := by decide +kernel
theorem dX7_noteIn_78 : decode cX7_noteIn 78 = .ok (.iconst 2, 1) := by decide +kernel
theorem dX7_noteIn_79 : decode cX7_noteIn 79 = .ok (.if_icmp .ne 12, 3) := by decide +kernel
theorem dX7_noteIn_82 : decode cX7_noteIn 82 = .ok (.aload_n 0, 1) := by decide +kernel
theorem dX7_noteIn_83 : decode cX7_noteIn 83 = .ok (.getfield 46, 3) := by decide +kernel
theorem dX7_noteIn_86 : decode cX7_noteIn 86 = .ok (.iload_n 1, 1) := by decide +kernel
theorem dX7_noteIn_87 : decode cX7_noteIn 87 = .ok (.iaload, 1) := by decide +kernel
theorem dX7_noteIn_88 : decode cX7_noteIn 88 = .ok (.goto 4, 3) := by decide +kernel
theorem dX7_noteIn_91 : decode cX7_noteIn 91 = .ok (.iload_n 3, 1) := by decide +kernel
theorem dX7_noteIn_92 : decode cX7_noteIn 92 = .ok (.ireturn, 1) := by decide +kernel
theorem dX7_noteOr_0 : decode cX7_noteOr 0 = .ok (.aload_n 0, 1) := by decide +kernel
theorem dX7_noteOr_1 : decode cX7_noteOr 1 = .ok (.getfield 43, 3) := by decide +kernel
theorem dX7_noteOr_4 : decode cX7_noteOr 4 = .ok (.iload_n 1, 1) := by decide +kernel
theorem dX7_noteOr_5 : decode cX7_noteOr 5 = .ok (.iaload, 1) := by decide +kernel
theorem dX7_noteOr_6 : decode cX7_noteOr 6 = .ok (.iconst (-1), 1) := by decide +kernel
theorem dX7_noteOr_7 : decode cX7_noteOr 7 = .ok (.if_icmp .ne 9, 3) := by decide +kernel
theorem dX7_noteOr_10 : decode cX7_noteOr 10 = .ok (.sipush (-10000), 3) := by decide +kernel
theorem dX7_noteOr_13 : decode cX7_noteOr 13 = .ok (.goto 9, 3) := by decide +kernel
theorem dX7_noteOr_16 : decode cX7_noteOr 16 = .ok (.aload_n 0, 1) := by decide +kernel
theorem dX7_noteOr_17 : decode cX7_noteOr 17 = .ok (.iload_n 1, 1) := by decide +kernel
theorem dX7_noteOr_18 : decode cX7_noteOr 18 = .ok (.iload_n 2, 1) := by decide +kernel
theorem dX7_noteOr_19 : decode cX7_noteOr 19 = .ok (.invokevirtual 150, 3) := by decide +kernel
theorem dX7_noteOr_22 : decode cX7_noteOr 22 = .ok (.ireturn, 1) := by decide +kernel
theorem dX7_note_0 : decode cX7_note 0 = .ok (.aload_n 0, 1) := by decide +kernel
theorem dX7_note_1 : decode cX7_note 1 = .ok (.invokevirtual 147, 3) := by decide +kernel
theorem dX7_note_4 : decode cX7_note 4 = .ok (.aload_n 0, 1) := by decide +kernel
theorem dX7_note_5 : decode cX7_note 5 = .ok (.iload_n 1, 1) := by decide +kernel
theorem dX7_note_6 : decode cX7_note 6 = .ok (.invokevirtual 117, 3) := by decide +kernel
theorem dX7_note_9 : decode cX7_note 9 = .ok (.ifCond .eq 20, 3) := by decide +kernel
theorem dX7_note_12 : decode cX7_note 12 = .ok (.aload_n 0, 1) := by decide +kernel
theorem dX7_note_13 : decode cX7_note 13 = .ok (.iload_n 2, 1) := by decide +kernel
theorem dX7_note_14 : decode cX7_note 14 = .ok (.invokevirtual 153, 3) := by decide +kernel
theorem dX7_note_17 : decode cX7_note 17 = .ok (.ifCond .eq 12, 3) := by decide +kernel
theorem dX7_note_20 : decode cX7_note 20 = .ok (.aload_n 0, 1) := by decide +kernel
theorem dX7_note_21 : decode cX7_note 21 = .ok (.iload_n 1, 1) := by decide +kernel
theorem dX7_note_22 : decode cX7_note 22 = .ok (.iload_n 2, 1) := by decide +kernel
theorem dX7_note_23 : decode cX7_note 23 = .ok (.invokevirtual 156, 3) := by decide +kernel
theorem dX7_note_26 : decode cX7_note 26 = .ok (.goto 6, 3) := by decide +kernel
theorem dX7_note_29 : decode cX7_note 29 = .ok (.sipush (-10002), 3) := by decide +kernel
theorem dX7_note_32 : decode cX7_note 32 = .ok (.ireturn, 1) := by decide +kernel
theorem dX7_away_0 : decode cX7_away 0 = .ok (.aload_n 0, 1) := by decide +kernel
theorem dX7_away_1 : decode cX7_away 1 = .ok (.invokevirtual 147, 3) := by decide +kernel
theorem dX7_away_4 : decode cX7_away 4 = .ok (.aload_n 0, 1) := by decide +kernel
theorem dX7_away_5 : decode cX7_away 5 = .ok (.iload_n 1, 1) := by decide +kernel
theorem dX7_away_6 : decode cX7_away 6 = .ok (.invokevirtual 117, 3) := by decide +kernel
theorem dX7_away_9 : decode cX7_away 9 = .ok (.ifCond .eq 11, 3) := by decide +kernel
theorem dX7_away_12 : decode cX7_away 12 = .ok (.aload_n 0, 1) := by decide +kernel
theorem dX7_away_13 : decode cX7_away 13 = .ok (.iload_n 2, 1) := by decide +kernel
theorem dX7_away_14 : decode cX7_away 14 = .ok (.invokevirtual 153, 3) := by decide +kernel
theorem dX7_away_17 : decode cX7_away 17 = .ok (.ifCond .ne 9, 3) := by decide +kernel
theorem dX7_away_20 : decode cX7_away 20 = .ok (.sipush (-10002), 3) := by decide +kernel
theorem dX7_away_23 : decode cX7_away 23 = .ok (.goto 29, 3) := by decide +kernel
theorem dX7_away_26 : decode cX7_away 26 = .ok (.aload_n 0, 1) := by decide +kernel
theorem dX7_away_27 : decode cX7_away 27 = .ok (.getfield 43, 3) := by decide +kernel
theorem dX7_away_30 : decode cX7_away 30 = .ok (.iload_n 1, 1) := by decide +kernel
theorem dX7_away_31 : decode cX7_away 31 = .ok (.iaload, 1) := by decide +kernel
theorem dX7_away_32 : decode cX7_away 32 = .ok (.iconst (-1), 1) := by decide +kernel
theorem dX7_away_33 : decode cX7_away 33 = .ok (.if_icmp .ne 9, 3) := by decide +kernel
theorem dX7_away_36 : decode cX7_away 36 = .ok (.sipush (-10000), 3) := by decide +kernel
theorem dX7_away_39 : decode cX7_away 39 = .ok (.goto 13, 3) := by decide +kernel
theorem dX7_away_42 : decode cX7_away 42 = .ok (.aload_n 0, 1) := by decide +kernel
theorem dX7_away_43 : decode cX7_away 43 = .ok (.iload_n 1, 1) := by decide +kernel
theorem dX7_away_44 : decode cX7_away 44 = .ok (.iload_n 2, 1) := by decide +kernel
theorem dX7_away_45 : decode cX7_away 45 = .ok (.invokevirtual 150, 3) := by decide +kernel
theorem dX7_away_48 : decode cX7_away 48 = .ok (.sipush 1000, 3) := by decide +kernel
theorem dX7_away_51 : decode cX7_away 51 = .ok (.isub, 1) := by decide +kernel
theorem dX7_away_52 : decode cX7_away 52 = .ok (.ireturn, 1) := by decide +kernel
theorem dX7_spreadOf_0 : decode cX7_spreadOf 0 = .ok (.iconst 0, 1) := by decide +kernel
theorem dX7_spreadOf_1 : decode cX7_spreadOf 1 = .ok (.istore_n 3, 1) := by decide +kernel
theorem dX7_spreadOf_2 : decode cX7_spreadOf 2 = .ok (.iconst 0, 1) := by decide +kernel
theorem dX7_spreadOf_3 : decode cX7_spreadOf 3 = .ok (.istore 4, 2) := by decide +kernel
theorem dX7_spreadOf_5 : decode cX7_spreadOf 5 = .ok (.iconst 0, 1) := by decide +kernel
theorem dX7_spreadOf_6 : decode cX7_spreadOf 6 = .ok (.istore 5, 2) := by decide +kernel
theorem dX7_spreadOf_8 : decode cX7_spreadOf 8 = .ok (.iconst 0, 1) := by decide +kernel
theorem dX7_spreadOf_9 : decode cX7_spreadOf 9 = .ok (.istore 6, 2) := by decide +kernel
theorem dX7_spreadOf_11 : decode cX7_spreadOf 11 = .ok (.iload 6, 2) := by decide +kernel
theorem dX7_spreadOf_13 : decode cX7_spreadOf 13 = .ok (.aload_n 0, 1) := by decide +kernel
theorem dX7_spreadOf_14 : decode cX7_spreadOf 14 = .ok (.getfield 101, 3) := by decide +kernel
theorem dX7_spreadOf_17 : decode cX7_spreadOf 17 = .ok (.if_icmp .ge 77, 3) := by decide +kernel
theorem dX7_spreadOf_20 : decode cX7_spreadOf 20 = .ok (.aload_n 0, 1) := by decide +kernel
theorem dX7_spreadOf_21 : decode cX7_spreadOf 21 = .ok (.getfield 43, 3) := by decide +kernel
theorem dX7_spreadOf_24 : decode cX7_spreadOf 24 = .ok (.iload 6, 2) := by decide +kernel
theorem dX7_spreadOf_26 : decode cX7_spreadOf 26 = .ok (.iaload, 1) := by decide +kernel
theorem dX7_spreadOf_27 : decode cX7_spreadOf 27 = .ok (.iconst (-1), 1) := by decide +kernel
theorem dX7_spreadOf_28 : decode cX7_spreadOf 28 = .ok (.if_icmp .eq 60, 3) := by decide +kernel
theorem dX7_spreadOf_31 : decode cX7_spreadOf 31 = .ok (.iload_n 2, 1) := by decide +kernel
theorem dX7_spreadOf_32 : decode cX7_spreadOf 32 = .ok (.iload 6, 2) := by decide +kernel
theorem dX7_spreadOf_34 : decode cX7_spreadOf 34 = .ok (.invokestatic 159, 3) := by decide +kernel
theorem dX7_spreadOf_37 : decode cX7_spreadOf 37 = .ok (.ifCond .ne 51, 3) := by decide +kernel
theorem dX7_spreadOf_40 : decode cX7_spreadOf 40 = .ok (.aload_n 0, 1) := by decide +kernel
theorem dX7_spreadOf_41 : decode cX7_spreadOf 41 = .ok (.iload 6, 2) := by decide +kernel
theorem dX7_spreadOf_43 : decode cX7_spreadOf 43 = .ok (.iload_n 1, 1) := by decide +kernel
theorem dX7_spreadOf_44 : decode cX7_spreadOf 44 = .ok (.invokevirtual 150, 3) := by decide +kernel
theorem dX7_spreadOf_47 : decode cX7_spreadOf 47 = .ok (.istore 7, 2) := by decide +kernel
theorem dX7_spreadOf_49 : decode cX7_spreadOf 49 = .ok (.iload 5, 2) := by decide +kernel
theorem dX7_spreadOf_51 : decode cX7_spreadOf 51 = .ok (.ifCond .eq 12, 3) := by decide +kernel
theorem dX7_spreadOf_54 : decode cX7_spreadOf 54 = .ok (.iload 7, 2) := by decide +kernel
theorem dX7_spreadOf_56 : decode cX7_spreadOf 56 = .ok (.iload_n 3, 1) := by decide +kernel
theorem dX7_spreadOf_57 : decode cX7_spreadOf 57 = .ok (.invokestatic 163, 3) := by decide +kernel
theorem dX7_spreadOf_60 : decode cX7_spreadOf 60 = .ok (.goto 5, 3) := by decide +kernel
theorem dX7_spreadOf_63 : decode cX7_spreadOf 63 = .ok (.iload 7, 2) := by decide +kernel
theorem dX7_spreadOf_65 : decode cX7_spreadOf 65 = .ok (.istore_n 3, 1) := by decide +kernel
theorem dX7_spreadOf_66 : decode cX7_spreadOf 66 = .ok (.iload 5, 2) := by decide +kernel
theorem dX7_spreadOf_68 : decode cX7_spreadOf 68 = .ok (.ifCond .eq 13, 3) := by decide +kernel
theorem dX7_spreadOf_71 : decode cX7_spreadOf 71 = .ok (.iload 7, 2) := by decide +kernel
theorem dX7_spreadOf_73 : decode cX7_spreadOf 73 = .ok (.iload 4, 2) := by decide +kernel
theorem dX7_spreadOf_75 : decode cX7_spreadOf 75 = .ok (.invokestatic 166, 3) := by decide +kernel
theorem dX7_spreadOf_78 : decode cX7_spreadOf 78 = .ok (.goto 5, 3) := by decide +kernel
theorem dX7_spreadOf_81 : decode cX7_spreadOf 81 = .ok (.iload 7, 2) := by decide +kernel
theorem dX7_spreadOf_83 : decode cX7_spreadOf 83 = .ok (.istore 4, 2) := by decide +kernel
theorem dX7_spreadOf_85 : decode cX7_spreadOf 85 = .ok (.iconst 1, 1) := by decide +kernel
theorem dX7_spreadOf_86 : decode cX7_spreadOf 86 = .ok (.istore 5, 2) := by decide +kernel
theorem dX7_spreadOf_88 : decode cX7_spreadOf 88 = .ok (.iinc 6 1, 3) := by decide +kernel
theorem dX7_spreadOf_91 : decode cX7_spreadOf 91 = .ok (.goto (-80), 3) := by decide +kernel
theorem dX7_spreadOf_94 : decode cX7_spreadOf 94 = .ok (.iload 4, 2) := by decide +kernel
theorem dX7_spreadOf_96 : decode cX7_spreadOf 96 = .ok (.iload_n 3, 1) := by decide +kernel
theorem dX7_spreadOf_97 : decode cX7_spreadOf 97 = .ok (.isub, 1) := by decide +kernel
theorem dX7_spreadOf_98 : decode cX7_spreadOf 98 = .ok (.ireturn, 1) := by decide +kernel
theorem dX7_closes_0 : decode cX7_closes 0 = .ok (.aload_n 0, 1) := by decide +kernel
theorem dX7_closes_1 : decode cX7_closes 1 = .ok (.getfield 31, 3) := by decide +kernel
theorem dX7_closes_4 : decode cX7_closes 4 = .ok (.iload_n 1, 1) := by decide +kernel
theorem dX7_closes_5 : decode cX7_closes 5 = .ok (.iaload, 1) := by decide +kernel
theorem dX7_closes_6 : decode cX7_closes 6 = .ok (.iconst 1, 1) := by decide +kernel
theorem dX7_closes_7 : decode cX7_closes 7 = .ok (.if_icmp .eq 22, 3) := by decide +kernel
theorem dX7_closes_10 : decode cX7_closes 10 = .ok (.aload_n 0, 1) := by decide +kernel
theorem dX7_closes_11 : decode cX7_closes 11 = .ok (.iload_n 1, 1) := by decide +kernel
theorem dX7_closes_12 : decode cX7_closes 12 = .ok (.iconst 0, 1) := by decide +kernel
theorem dX7_closes_13 : decode cX7_closes 13 = .ok (.invokevirtual 169, 3) := by decide +kernel
theorem dX7_closes_16 : decode cX7_closes 16 = .ok (.aload_n 0, 1) := by decide +kernel
theorem dX7_closes_17 : decode cX7_closes 17 = .ok (.getfield 34, 3) := by decide +kernel
theorem dX7_closes_20 : decode cX7_closes 20 = .ok (.iconst 3, 1) := by decide +kernel
theorem dX7_closes_21 : decode cX7_closes 21 = .ok (.iaload, 1) := by decide +kernel
theorem dX7_closes_22 : decode cX7_closes 22 = .ok (.if_icmp .gt 7, 3) := by decide +kernel
theorem dX7_closes_25 : decode cX7_closes 25 = .ok (.iconst 1, 1) := by decide +kernel
theorem dX7_closes_26 : decode cX7_closes 26 = .ok (.goto 4, 3) := by decide +kernel
theorem dX7_closes_29 : decode cX7_closes 29 = .ok (.iconst 0, 1) := by decide +kernel
theorem dX7_closes_30 : decode cX7_closes 30 = .ok (.ireturn, 1) := by decide +kernel
theorem dX7_flattestIn_0 : decode cX7_flattestIn 0 = .ok (.iconst (-1), 1) := by decide +kernel
theorem dX7_flattestIn_1 : decode cX7_flattestIn 1 = .ok (.istore_n 2, 1) := by decide +kernel
theorem dX7_flattestIn_2 : decode cX7_flattestIn 2 = .ok (.iconst 0, 1) := by decide +kernel
theorem dX7_flattestIn_3 : decode cX7_flattestIn 3 = .ok (.istore_n 3, 1) := by decide +kernel
theorem dX7_flattestIn_4 : decode cX7_flattestIn 4 = .ok (.iload_n 3, 1) := by decide +kernel
theorem dX7_flattestIn_5 : decode cX7_flattestIn 5 = .ok (.aload_n 0, 1) := by decide +kernel
theorem dX7_flattestIn_6 : decode cX7_flattestIn 6 = .ok (.getfield 101, 3) := by decide +kernel
theorem dX7_flattestIn_9 : decode cX7_flattestIn 9 = .ok (.if_icmp .ge 45, 3) := by decide +kernel
theorem dX7_flattestIn_12 : decode cX7_flattestIn 12 = .ok (.aload_n 0, 1) := by decide +kernel
theorem dX7_flattestIn_13 : decode cX7_flattestIn 13 = .ok (.getfield 43, 3) := by decide +kernel
theorem dX7_flattestIn_16 : decode cX7_flattestIn 16 = .ok (.iload_n 3, 1) := by decide +kernel
theorem dX7_flattestIn_17 : decode cX7_flattestIn 17 = .ok (.iaload, 1) := by decide +kernel
theorem dX7_flattestIn_18 : decode cX7_flattestIn 18 = .ok (.iconst (-1), 1) := by decide +kernel
theorem dX7_flattestIn_19 : decode cX7_flattestIn 19 = .ok (.if_icmp .eq 27, 3) := by decide +kernel
theorem dX7_flattestIn_22 : decode cX7_flattestIn 22 = .ok (.iload_n 2, 1) := by decide +kernel
theorem dX7_flattestIn_23 : decode cX7_flattestIn 23 = .ok (.iconst (-1), 1) := by decide +kernel
theorem dX7_flattestIn_24 : decode cX7_flattestIn 24 = .ok (.if_icmp .eq 18, 3) := by decide +kernel
theorem dX7_flattestIn_27 : decode cX7_flattestIn 27 = .ok (.aload_n 0, 1) := by decide +kernel
theorem dX7_flattestIn_28 : decode cX7_flattestIn 28 = .ok (.iload_n 3, 1) := by decide +kernel
theorem dX7_flattestIn_29 : decode cX7_flattestIn 29 = .ok (.iload_n 1, 1) := by decide +kernel
theorem dX7_flattestIn_30 : decode cX7_flattestIn 30 = .ok (.invokevirtual 150, 3) := by decide +kernel
theorem dX7_flattestIn_33 : decode cX7_flattestIn 33 = .ok (.aload_n 0, 1) := by decide +kernel
theorem dX7_flattestIn_34 : decode cX7_flattestIn 34 = .ok (.iload_n 2, 1) := by decide +kernel
theorem dX7_flattestIn_35 : decode cX7_flattestIn 35 = .ok (.iload_n 1, 1) := by decide +kernel
theorem dX7_flattestIn_36 : decode cX7_flattestIn 36 = .ok (.invokevirtual 150, 3) := by decide +kernel
theorem dX7_flattestIn_39 : decode cX7_flattestIn 39 = .ok (.if_icmp .ge 7, 3) := by decide +kernel
theorem dX7_flattestIn_42 : decode cX7_flattestIn 42 = .ok (.iload_n 3, 1) := by decide +kernel
theorem dX7_flattestIn_43 : decode cX7_flattestIn 43 = .ok (.goto 4, 3) := by decide +kernel
theorem dX7_flattestIn_46 : decode cX7_flattestIn 46 = .ok (.iload_n 2, 1) := by decide +kernel
theorem dX7_flattestIn_47 : decode cX7_flattestIn 47 = .ok (.istore_n 2, 1) := by decide +kernel
theorem dX7_flattestIn_48 : decode cX7_flattestIn 48 = .ok (.iinc 3 1, 3) := by decide +kernel
theorem dX7_flattestIn_51 : decode cX7_flattestIn 51 = .ok (.goto (-47), 3) := by decide +kernel
theorem dX7_flattestIn_54 : decode cX7_flattestIn 54 = .ok (.iload_n 2, 1) := by decide +kernel
theorem dX7_flattestIn_55 : decode cX7_flattestIn 55 = .ok (.ireturn, 1) := by decide +kernel
theorem dX7_chordBy_0 : decode cX7_chordBy 0 = .ok (.iload_n 2, 1) := by decide +kernel
theorem dX7_chordBy_1 : decode cX7_chordBy 1 = .ok (.ifCond .ne 12, 3) := by decide +kernel
theorem dX7_chordBy_4 : decode cX7_chordBy 4 = .ok (.aload_n 0, 1) := by decide +kernel
theorem dX7_chordBy_5 : decode cX7_chordBy 5 = .ok (.iload_n 1, 1) := by decide +kernel
theorem dX7_chordBy_6 : decode cX7_chordBy 6 = .ok (.iconst 0, 1) := by decide +kernel
theorem dX7_chordBy_7 : decode cX7_chordBy 7 = .ok (.invokevirtual 169, 3) := by decide +kernel
theorem dX7_chordBy_10 : decode cX7_chordBy 10 = .ok (.goto 29, 3) := by decide +kernel
theorem dX7_chordBy_13 : decode cX7_chordBy 13 = .ok (.iload_n 2, 1) := by decide +kernel
theorem dX7_chordBy_14 : decode cX7_chordBy 14 = .ok (.iconst 1, 1) := by decide +kernel
theorem dX7_chordBy_15 : decode cX7_chordBy 15 = .ok (.if_icmp .ne 19, 3) := by decide +kernel
theorem dX7_chordBy_18 : decode cX7_chordBy 18 = .ok (.aload_n 0, 1) := by decide +kernel
theorem dX7_chordBy_19 : decode cX7_chordBy 19 = .ok (.iload_n 1, 1) := by decide +kernel
theorem dX7_chordBy_20 : decode cX7_chordBy 20 = .ok (.invokevirtual 172, 3) := by decide +kernel
theorem dX7_chordBy_23 : decode cX7_chordBy 23 = .ok (.ifCond .eq 7, 3) := by decide +kernel
theorem dX7_chordBy_26 : decode cX7_chordBy 26 = .ok (.iconst 1, 1) := by decide +kernel
theorem dX7_chordBy_27 : decode cX7_chordBy 27 = .ok (.goto 12, 3) := by decide +kernel
theorem dX7_chordBy_30 : decode cX7_chordBy 30 = .ok (.iconst 0, 1) := by decide +kernel
theorem dX7_chordBy_31 : decode cX7_chordBy 31 = .ok (.goto 8, 3) := by decide +kernel
theorem dX7_chordBy_34 : decode cX7_chordBy 34 = .ok (.aload_n 0, 1) := by decide +kernel
theorem dX7_chordBy_35 : decode cX7_chordBy 35 = .ok (.iload_n 1, 1) := by decide +kernel
theorem dX7_chordBy_36 : decode cX7_chordBy 36 = .ok (.invokevirtual 175, 3) := by decide +kernel
theorem dX7_chordBy_39 : decode cX7_chordBy 39 = .ok (.ireturn, 1) := by decide +kernel
theorem dX7_chord_0 : decode cX7_chord 0 = .ok (.aload_n 0, 1) := by decide +kernel
theorem dX7_chord_1 : decode cX7_chord 1 = .ok (.invokevirtual 147, 3) := by decide +kernel
theorem dX7_chord_4 : decode cX7_chord 4 = .ok (.aload_n 0, 1) := by decide +kernel
theorem dX7_chord_5 : decode cX7_chord 5 = .ok (.iload_n 1, 1) := by decide +kernel
theorem dX7_chord_6 : decode cX7_chord 6 = .ok (.invokevirtual 153, 3) := by decide +kernel
theorem dX7_chord_9 : decode cX7_chord 9 = .ok (.ifCond .eq 24, 3) := by decide +kernel
theorem dX7_chord_12 : decode cX7_chord 12 = .ok (.iload_n 2, 1) := by decide +kernel
theorem dX7_chord_13 : decode cX7_chord 13 = .ok (.i2l, 1) := by decide +kernel
theorem dX7_chord_14 : decode cX7_chord 14 = .ok (.lconst 0, 1) := by decide +kernel
theorem dX7_chord_15 : decode cX7_chord 15 = .ok (.ldc2_w 77, 3) := by decide +kernel
theorem dX7_chord_18 : decode cX7_chord 18 = .ok (.invokestatic 63, 3) := by decide +kernel
theorem dX7_chord_21 : decode cX7_chord 21 = .ok (.ifCond .eq 12, 3) := by decide +kernel
theorem dX7_chord_24 : decode cX7_chord 24 = .ok (.aload_n 0, 1) := by decide +kernel
theorem dX7_chord_25 : decode cX7_chord 25 = .ok (.iload_n 1, 1) := by decide +kernel
theorem dX7_chord_26 : decode cX7_chord 26 = .ok (.iload_n 2, 1) := by decide +kernel
theorem dX7_chord_27 : decode cX7_chord 27 = .ok (.invokevirtual 178, 3) := by decide +kernel
theorem dX7_chord_30 : decode cX7_chord 30 = .ok (.goto 5, 3) := by decide +kernel
theorem dX7_chord_33 : decode cX7_chord 33 = .ok (.bipush (-2), 2) := by decide +kernel
theorem dX7_chord_35 : decode cX7_chord 35 = .ok (.ireturn, 1) := by decide +kernel
theorem dX7_openBy_0 : decode cX7_openBy 0 = .ok (.iconst (-1), 1) := by decide +kernel
theorem dX7_openBy_1 : decode cX7_openBy 1 = .ok (.istore_n 2, 1) := by decide +kernel
theorem dX7_openBy_2 : decode cX7_openBy 2 = .ok (.iconst 0, 1) := by decide +kernel
theorem dX7_openBy_3 : decode cX7_openBy 3 = .ok (.istore_n 3, 1) := by decide +kernel
theorem dX7_openBy_4 : decode cX7_openBy 4 = .ok (.iconst 0, 1) := by decide +kernel
theorem dX7_openBy_5 : decode cX7_openBy 5 = .ok (.istore 4, 2) := by decide +kernel
theorem dX7_openBy_7 : decode cX7_openBy 7 = .ok (.iload 4, 2) := by decide +kernel
theorem dX7_openBy_9 : decode cX7_openBy 9 = .ok (.aload_n 0, 1) := by decide +kernel
theorem dX7_openBy_10 : decode cX7_openBy 10 = .ok (.getfield 107, 3) := by decide +kernel
theorem dX7_openBy_13 : decode cX7_openBy 13 = .ok (.if_icmp .ge 43, 3) := by decide +kernel
theorem dX7_openBy_16 : decode cX7_openBy 16 = .ok (.aload_n 0, 1) := by decide +kernel
theorem dX7_openBy_17 : decode cX7_openBy 17 = .ok (.getfield 31, 3) := by decide +kernel
theorem dX7_openBy_20 : decode cX7_openBy 20 = .ok (.iload 4, 2) := by decide +kernel
theorem dX7_openBy_22 : decode cX7_openBy 22 = .ok (.iaload, 1) := by decide +kernel
theorem dX7_openBy_23 : decode cX7_openBy 23 = .ok (.iconst 1, 1) := by decide +kernel
theorem dX7_openBy_24 : decode cX7_openBy 24 = .ok (.if_icmp .eq 26, 3) := by decide +kernel
theorem dX7_openBy_27 : decode cX7_openBy 27 = .ok (.aload_n 0, 1) := by decide +kernel
theorem dX7_openBy_28 : decode cX7_openBy 28 = .ok (.iload 4, 2) := by decide +kernel
theorem dX7_openBy_30 : decode cX7_openBy 30 = .ok (.invokevirtual 172, 3) := by decide +kernel
theorem dX7_openBy_33 : decode cX7_openBy 33 = .ok (.ifCond .ne 17, 3) := by decide +kernel
theorem dX7_openBy_36 : decode cX7_openBy 36 = .ok (.iload_n 3, 1) := by decide +kernel
theorem dX7_openBy_37 : decode cX7_openBy 37 = .ok (.ifCond .ne 8, 3) := by decide +kernel
theorem dX7_openBy_40 : decode cX7_openBy 40 = .ok (.iload 4, 2) := by decide +kernel
theorem dX7_openBy_42 : decode cX7_openBy 42 = .ok (.goto 4, 3) := by decide +kernel
theorem dX7_openBy_45 : decode cX7_openBy 45 = .ok (.iload_n 2, 1) := by decide +kernel
theorem dX7_openBy_46 : decode cX7_openBy 46 = .ok (.istore_n 2, 1) := by decide +kernel
theorem dX7_openBy_47 : decode cX7_openBy 47 = .ok (.iinc 3 1, 3) := by decide +kernel
theorem dX7_openBy_50 : decode cX7_openBy 50 = .ok (.iinc 4 1, 3) := by decide +kernel
theorem dX7_openBy_53 : decode cX7_openBy 53 = .ok (.goto (-46), 3) := by decide +kernel
theorem dX7_openBy_56 : decode cX7_openBy 56 = .ok (.iload_n 1, 1) := by decide +kernel
theorem dX7_openBy_57 : decode cX7_openBy 57 = .ok (.ifCond .ne 7, 3) := by decide +kernel
theorem dX7_openBy_60 : decode cX7_openBy 60 = .ok (.iload_n 2, 1) := by decide +kernel
theorem dX7_openBy_61 : decode cX7_openBy 61 = .ok (.goto 4, 3) := by decide +kernel
theorem dX7_openBy_64 : decode cX7_openBy 64 = .ok (.iload_n 3, 1) := by decide +kernel
theorem dX7_openBy_65 : decode cX7_openBy 65 = .ok (.ireturn, 1) := by decide +kernel
theorem dX7_open_0 : decode cX7_open 0 = .ok (.aload_n 0, 1) := by decide +kernel
theorem dX7_open_1 : decode cX7_open 1 = .ok (.invokevirtual 147, 3) := by decide +kernel
theorem dX7_open_4 : decode cX7_open 4 = .ok (.iload_n 1, 1) := by decide +kernel
theorem dX7_open_5 : decode cX7_open 5 = .ok (.invokestatic 92, 3) := by decide +kernel
theorem dX7_open_8 : decode cX7_open 8 = .ok (.ifCond .eq 11, 3) := by decide +kernel
theorem dX7_open_11 : decode cX7_open 11 = .ok (.aload_n 0, 1) := by decide +kernel
theorem dX7_open_12 : decode cX7_open 12 = .ok (.iload_n 1, 1) := by decide +kernel
theorem dX7_open_13 : decode cX7_open 13 = .ok (.invokevirtual 181, 3) := by decide +kernel
theorem dX7_open_16 : decode cX7_open 16 = .ok (.goto 5, 3) := by decide +kernel
theorem dX7_open_19 : decode cX7_open 19 = .ok (.bipush (-2), 2) := by decide +kernel
theorem dX7_open_21 : decode cX7_open 21 = .ok (.ireturn, 1) := by decide +kernel
theorem dX7_unfolds_0 : decode cX7_unfolds 0 = .ok (.iload_n 2, 1) := by decide +kernel
theorem dX7_unfolds_1 : decode cX7_unfolds 1 = .ok (.istore_n 3, 1) := by decide +kernel
theorem dX7_unfolds_2 : decode cX7_unfolds 2 = .ok (.iload_n 1, 1) := by decide +kernel
theorem dX7_unfolds_3 : decode cX7_unfolds 3 = .ok (.iconst 1, 1) := by decide +kernel
theorem dX7_unfolds_4 : decode cX7_unfolds 4 = .ok (.isub, 1) := by decide +kernel
theorem dX7_unfolds_5 : decode cX7_unfolds 5 = .ok (.istore 4, 2) := by decide +kernel
theorem dX7_unfolds_7 : decode cX7_unfolds 7 = .ok (.iload 4, 2) := by decide +kernel
theorem dX7_unfolds_9 : decode cX7_unfolds 9 = .ok (.ifCond .lt 29, 3) := by decide +kernel
theorem dX7_unfolds_12 : decode cX7_unfolds 12 = .ok (.aload_n 0, 1) := by decide +kernel
theorem dX7_unfolds_13 : decode cX7_unfolds 13 = .ok (.getfield 49, 3) := by decide +kernel
theorem dX7_unfolds_16 : decode cX7_unfolds 16 = .ok (.iload 4, 2) := by decide +kernel
theorem dX7_unfolds_18 : decode cX7_unfolds 18 = .ok (.iload_n 3, 1) := by decide +kernel
theorem dX7_unfolds_19 : decode cX7_unfolds 19 = .ok (.iload_n 1, 1) := by decide +kernel
theorem dX7_unfolds_20 : decode cX7_unfolds 20 = .ok (.iload 4, 2) := by decide +kernel
theorem dX7_unfolds_22 : decode cX7_unfolds 22 = .ok (.isub, 1) := by decide +kernel
theorem dX7_unfolds_23 : decode cX7_unfolds 23 = .ok (.irem, 1) := by decide +kernel
theorem dX7_unfolds_24 : decode cX7_unfolds 24 = .ok (.iastore, 1) := by decide +kernel
theorem dX7_unfolds_25 : decode cX7_unfolds 25 = .ok (.iload_n 3, 1) := by decide +kernel
theorem dX7_unfolds_26 : decode cX7_unfolds 26 = .ok (.iload_n 1, 1) := by decide +kernel
theorem dX7_unfolds_27 : decode cX7_unfolds 27 = .ok (.iload 4, 2) := by decide +kernel
theorem dX7_unfolds_29 : decode cX7_unfolds 29 = .ok (.isub, 1) := by decide +kernel
theorem dX7_unfolds_30 : decode cX7_unfolds 30 = .ok (.idiv, 1) := by decide +kernel
theorem dX7_unfolds_31 : decode cX7_unfolds 31 = .ok (.istore_n 3, 1) := by decide +kernel
theorem dX7_unfolds_32 : decode cX7_unfolds 32 = .ok (.iinc 4 (-1), 3) := by decide +kernel
theorem dX7_unfolds_35 : decode cX7_unfolds 35 = .ok (.goto (-28), 3) := by decide +kernel
theorem dX7_unfolds_38 : decode cX7_unfolds 38 = .ok (.iload_n 1, 1) := by decide +kernel
theorem dX7_unfolds_39 : decode cX7_unfolds 39 = .ok (.iconst 1, 1) := by decide +kernel
theorem dX7_unfolds_40 : decode cX7_unfolds 40 = .ok (.isub, 1) := by decide +kernel
theorem dX7_unfolds_41 : decode cX7_unfolds 41 = .ok (.istore 4, 2) := by decide +kernel
theorem dX7_unfolds_43 : decode cX7_unfolds 43 = .ok (.iload 4, 2) := by decide +kernel
theorem dX7_unfolds_45 : decode cX7_unfolds 45 = .ok (.ifCond .lt 59, 3) := by decide +kernel
theorem dX7_unfolds_48 : decode cX7_unfolds 48 = .ok (.iload 4, 2) := by decide +kernel
theorem dX7_unfolds_50 : decode cX7_unfolds 50 = .ok (.iconst 1, 1) := by decide +kernel
theorem dX7_unfolds_51 : decode cX7_unfolds 51 = .ok (.iadd, 1) := by decide +kernel
theorem dX7_unfolds_52 : decode cX7_unfolds 52 = .ok (.istore 5, 2) := by decide +kernel
theorem dX7_unfolds_54 : decode cX7_unfolds 54 = .ok (.iload 5, 2) := by decide +kernel
theorem dX7_unfolds_56 : decode cX7_unfolds 56 = .ok (.iload_n 1, 1) := by decide +kernel
theorem dX7_unfolds_57 : decode cX7_unfolds 57 = .ok (.if_icmp .ge 41, 3) := by decide +kernel
theorem dX7_unfolds_60 : decode cX7_unfolds 60 = .ok (.aload_n 0, 1) := by decide +kernel
theorem dX7_unfolds_61 : decode cX7_unfolds 61 = .ok (.getfield 49, 3) := by decide +kernel
theorem dX7_unfolds_64 : decode cX7_unfolds 64 = .ok (.iload 5, 2) := by decide +kernel
theorem dX7_unfolds_66 : decode cX7_unfolds 66 = .ok (.dup2, 1) := by decide +kernel
theorem dX7_unfolds_67 : decode cX7_unfolds 67 = .ok (.iaload, 1) := by decide +kernel
theorem dX7_unfolds_68 : decode cX7_unfolds 68 = .ok (.aload_n 0, 1) := by decide +kernel
theorem dX7_unfolds_69 : decode cX7_unfolds 69 = .ok (.getfield 49, 3) := by decide +kernel
theorem dX7_unfolds_72 : decode cX7_unfolds 72 = .ok (.iload 5, 2) := by decide +kernel
theorem dX7_unfolds_74 : decode cX7_unfolds 74 = .ok (.iaload, 1) := by decide +kernel
theorem dX7_unfolds_75 : decode cX7_unfolds 75 = .ok (.aload_n 0, 1) := by decide +kernel
theorem dX7_unfolds_76 : decode cX7_unfolds 76 = .ok (.getfield 49, 3) := by decide +kernel
theorem dX7_unfolds_79 : decode cX7_unfolds 79 = .ok (.iload 4, 2) := by decide +kernel
theorem dX7_unfolds_81 : decode cX7_unfolds 81 = .ok (.iaload, 1) := by decide +kernel
theorem dX7_unfolds_82 : decode cX7_unfolds 82 = .ok (.if_icmp .lt 7, 3) := by decide +kernel
theorem dX7_unfolds_85 : decode cX7_unfolds 85 = .ok (.iconst 1, 1) := by decide +kernel
theorem dX7_unfolds_86 : decode cX7_unfolds 86 = .ok (.goto 4, 3) := by decide +kernel
theorem dX7_unfolds_89 : decode cX7_unfolds 89 = .ok (.iconst 0, 1) := by decide +kernel
theorem dX7_unfolds_90 : decode cX7_unfolds 90 = .ok (.iadd, 1) := by decide +kernel
theorem dX7_unfolds_91 : decode cX7_unfolds 91 = .ok (.iastore, 1) := by decide +kernel
theorem dX7_unfolds_92 : decode cX7_unfolds 92 = .ok (.iinc 5 1, 3) := by decide +kernel
theorem dX7_unfolds_95 : decode cX7_unfolds 95 = .ok (.goto (-41), 3) := by decide +kernel
theorem dX7_unfolds_98 : decode cX7_unfolds 98 = .ok (.iinc 4 (-1), 3) := by decide +kernel
theorem dX7_unfolds_101 : decode cX7_unfolds 101 = .ok (.goto (-58), 3) := by decide +kernel
theorem dX7_unfolds_104 : decode cX7_unfolds 104 = .ok (.return_, 1) := by decide +kernel
theorem dX7_standOf_0 : decode cX7_standOf 0 = .ok (.aload_n 0, 1) := by decide +kernel
theorem dX7_standOf_1 : decode cX7_standOf 1 = .ok (.getfield 101, 3) := by decide +kernel
theorem dX7_standOf_4 : decode cX7_standOf 4 = .ok (.iconst 5, 1) := by decide +kernel
theorem dX7_standOf_5 : decode cX7_standOf 5 = .ok (.invokestatic 163, 3) := by decide +kernel
theorem dX7_standOf_8 : decode cX7_standOf 8 = .ok (.istore_n 3, 1) := by decide +kernel
theorem dX7_standOf_9 : decode cX7_standOf 9 = .ok (.iconst 1, 1) := by decide +kernel
theorem dX7_standOf_10 : decode cX7_standOf 10 = .ok (.istore 4, 2) := by decide +kernel
theorem dX7_standOf_12 : decode cX7_standOf 12 = .ok (.iconst 2, 1) := by decide +kernel
theorem dX7_standOf_13 : decode cX7_standOf 13 = .ok (.istore 5, 2) := by decide +kernel
theorem dX7_standOf_15 : decode cX7_standOf 15 = .ok (.iload 5, 2) := by decide +kernel
theorem dX7_standOf_17 : decode cX7_standOf 17 = .ok (.iload_n 3, 1) := by decide +kernel
theorem dX7_standOf_18 : decode cX7_standOf 18 = .ok (.if_icmp .gt 16, 3) := by decide +kernel
theorem dX7_standOf_21 : decode cX7_standOf 21 = .ok (.iload 4, 2) := by decide +kernel
theorem dX7_standOf_23 : decode cX7_standOf 23 = .ok (.iload 5, 2) := by decide +kernel
theorem dX7_standOf_25 : decode cX7_standOf 25 = .ok (.imul, 1) := by decide +kernel
theorem dX7_standOf_26 : decode cX7_standOf 26 = .ok (.istore 4, 2) := by decide +kernel
theorem dX7_standOf_28 : decode cX7_standOf 28 = .ok (.iinc 5 1, 3) := by decide +kernel
theorem dX7_standOf_31 : decode cX7_standOf 31 = .ok (.goto (-16), 3) := by decide +kernel
theorem dX7_standOf_34 : decode cX7_standOf 34 = .ok (.iconst (-1), 1) := by decide +kernel
theorem dX7_standOf_35 : decode cX7_standOf 35 = .ok (.istore 5, 2) := by decide +kernel
theorem dX7_standOf_37 : decode cX7_standOf 37 = .ok (.iconst 0, 1) := by decide +kernel
theorem dX7_standOf_38 : decode cX7_standOf 38 = .ok (.istore 6, 2) := by decide +kernel
theorem dX7_standOf_40 : decode cX7_standOf 40 = .ok (.iload 6, 2) := by decide +kernel
theorem dX7_standOf_42 : decode cX7_standOf 42 = .ok (.iload 4, 2) := by decide +kernel
theorem dX7_standOf_44 : decode cX7_standOf 44 = .ok (.if_icmp .ge 110, 3) := by decide +kernel
theorem dX7_standOf_47 : decode cX7_standOf 47 = .ok (.aload_n 0, 1) := by decide +kernel
theorem dX7_standOf_48 : decode cX7_standOf 48 = .ok (.iload_n 3, 1) := by decide +kernel
theorem dX7_standOf_49 : decode cX7_standOf 49 = .ok (.iload 6, 2) := by decide +kernel
theorem dX7_standOf_51 : decode cX7_standOf 51 = .ok (.invokevirtual 184, 3) := by decide +kernel
theorem dX7_standOf_54 : decode cX7_standOf 54 = .ok (.iconst 0, 1) := by decide +kernel
theorem dX7_standOf_55 : decode cX7_standOf 55 = .ok (.istore 7, 2) := by decide +kernel
theorem dX7_standOf_57 : decode cX7_standOf 57 = .ok (.iload 7, 2) := by decide +kernel
theorem dX7_standOf_59 : decode cX7_standOf 59 = .ok (.iload_n 3, 1) := by decide +kernel
theorem dX7_standOf_60 : decode cX7_standOf 60 = .ok (.if_icmp .ge 30, 3) := by decide +kernel
theorem dX7_standOf_63 : decode cX7_standOf 63 = .ok (.aload_n 0, 1) := by decide +kernel
theorem dX7_standOf_64 : decode cX7_standOf 64 = .ok (.getfield 37, 3) := by decide +kernel
theorem dX7_standOf_67 : decode cX7_standOf 67 = .ok (.iload 7, 2) := by decide +kernel
theorem dX7_standOf_69 : decode cX7_standOf 69 = .ok (.aload_n 0, 1) := by decide +kernel
theorem dX7_standOf_70 : decode cX7_standOf 70 = .ok (.getfield 28, 3) := by decide +kernel
theorem dX7_standOf_73 : decode cX7_standOf 73 = .ok (.iconst 4, 1) := by decide +kernel
theorem dX7_standOf_74 : decode cX7_standOf 74 = .ok (.aload_n 0, 1) := by decide +kernel
theorem dX7_standOf_75 : decode cX7_standOf 75 = .ok (.getfield 49, 3) := by decide +kernel
theorem dX7_standOf_78 : decode cX7_standOf 78 = .ok (.iload 7, 2) := by decide +kernel
theorem dX7_standOf_80 : decode cX7_standOf 80 = .ok (.iaload, 1) := by decide +kernel
theorem dX7_standOf_81 : decode cX7_standOf 81 = .ok (.imul, 1) := by decide +kernel
theorem dX7_standOf_82 : decode cX7_standOf 82 = .ok (.iaload, 1) := by decide +kernel
theorem dX7_standOf_83 : decode cX7_standOf 83 = .ok (.iastore, 1) := by decide +kernel
theorem dX7_standOf_84 : decode cX7_standOf 84 = .ok (.iinc 7 1, 3) := by decide +kernel
theorem dX7_standOf_87 : decode cX7_standOf 87 = .ok (.goto (-30), 3) := by decide +kernel
theorem dX7_standOf_90 : decode cX7_standOf 90 = .ok (.aload_n 0, 1) := by decide +kernel
theorem dX7_standOf_91 : decode cX7_standOf 91 = .ok (.invokevirtual 144, 3) := by decide +kernel
theorem dX7_standOf_94 : decode cX7_standOf 94 = .ok (.aload_n 0, 1) := by decide +kernel
theorem dX7_standOf_95 : decode cX7_standOf 95 = .ok (.iload_n 1, 1) := by decide +kernel
theorem dX7_standOf_96 : decode cX7_standOf 96 = .ok (.iconst 0, 1) := by decide +kernel
theorem dX7_standOf_97 : decode cX7_standOf 97 = .ok (.invokevirtual 169, 3) := by decide +kernel
theorem dX7_standOf_100 : decode cX7_standOf 100 = .ok (.istore 7, 2) := by decide +kernel
