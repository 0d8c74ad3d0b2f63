theorem dX0_init_0 : decode cX0_init 0 = .ok (.aload_n 0, 1) := by decide +kernel
theorem dX0_init_1 : decode cX0_init 1 = .ok (.invokespecial 3, 3) := by decide +kernel
theorem dX0_init_4 : decode cX0_init 4 = .ok (.aload_n 0, 1) := by decide +kernel
theorem dX0_init_5 : decode cX0_init 5 = .ok (.iconst 0, 1) := by decide +kernel
theorem dX0_init_6 : decode cX0_init 6 = .ok (.putfield 9, 3) := by decide +kernel
theorem dX0_init_9 : decode cX0_init 9 = .ok (.aload_n 0, 1) := by decide +kernel
theorem dX0_init_10 : decode cX0_init 10 = .ok (.bipush 8, 2) := by decide +kernel
theorem dX0_init_12 : decode cX0_init 12 = .ok (.newarray .int, 2) := by decide +kernel
theorem dX0_init_14 : decode cX0_init 14 = .ok (.putfield 15, 3) := by decide +kernel
theorem dX0_init_17 : decode cX0_init 17 = .ok (.aload_n 0, 1) := by decide +kernel
theorem dX0_init_18 : decode cX0_init 18 = .ok (.bipush 8, 2) := by decide +kernel
theorem dX0_init_20 : decode cX0_init 20 = .ok (.newarray .int, 2) := by decide +kernel
theorem dX0_init_22 : decode cX0_init 22 = .ok (.putfield 19, 3) := by decide +kernel
theorem dX0_init_25 : decode cX0_init 25 = .ok (.aload_n 0, 1) := by decide +kernel
theorem dX0_init_26 : decode cX0_init 26 = .ok (.bipush 8, 2) := by decide +kernel
theorem dX0_init_28 : decode cX0_init 28 = .ok (.newarray .int, 2) := by decide +kernel
theorem dX0_init_30 : decode cX0_init 30 = .ok (.putfield 22, 3) := by decide +kernel
theorem dX0_init_33 : decode cX0_init 33 = .ok (.aload_n 0, 1) := by decide +kernel
theorem dX0_init_34 : decode cX0_init 34 = .ok (.bipush 8, 2) := by decide +kernel
theorem dX0_init_36 : decode cX0_init 36 = .ok (.newarray .boolean, 2) := by decide +kernel
theorem dX0_init_38 : decode cX0_init 38 = .ok (.putfield 25, 3) := by decide +kernel
theorem dX0_init_41 : decode cX0_init 41 = .ok (.aload_n 0, 1) := by decide +kernel
theorem dX0_init_42 : decode cX0_init 42 = .ok (.bipush 8, 2) := by decide +kernel
theorem dX0_init_44 : decode cX0_init 44 = .ok (.newarray .int, 2) := by decide +kernel
theorem dX0_init_46 : decode cX0_init 46 = .ok (.putfield 29, 3) := by decide +kernel
theorem dX0_init_49 : decode cX0_init 49 = .ok (.aload_n 0, 1) := by decide +kernel
theorem dX0_init_50 : decode cX0_init 50 = .ok (.bipush 8, 2) := by decide +kernel
theorem dX0_init_52 : decode cX0_init 52 = .ok (.newarray .int, 2) := by decide +kernel
theorem dX0_init_54 : decode cX0_init 54 = .ok (.putfield 32, 3) := by decide +kernel
theorem dX0_init_57 : decode cX0_init 57 = .ok (.aload_n 0, 1) := by decide +kernel
theorem dX0_init_58 : decode cX0_init 58 = .ok (.bipush 8, 2) := by decide +kernel
theorem dX0_init_60 : decode cX0_init 60 = .ok (.newarray .int, 2) := by decide +kernel
theorem dX0_init_62 : decode cX0_init 62 = .ok (.putfield 35, 3) := by decide +kernel
theorem dX0_init_65 : decode cX0_init 65 = .ok (.aload_n 0, 1) := by decide +kernel
theorem dX0_init_66 : decode cX0_init 66 = .ok (.bipush 8, 2) := by decide +kernel
theorem dX0_init_68 : decode cX0_init 68 = .ok (.newarray .int, 2) := by decide +kernel
theorem dX0_init_70 : decode cX0_init 70 = .ok (.putfield 38, 3) := by decide +kernel
theorem dX0_init_73 : decode cX0_init 73 = .ok (.return_, 1) := by decide +kernel
theorem dX0_parse_0 : decode cX0_parse 0 = .ok (.aload_n 0, 1) := by decide +kernel
theorem dX0_parse_1 : decode cX0_parse 1 = .ok (.iconst 0, 1) := by decide +kernel
theorem dX0_parse_2 : decode cX0_parse 2 = .ok (.putfield 9, 3) := by decide +kernel
theorem dX0_parse_5 : decode cX0_parse 5 = .ok (.aload_n 1, 1) := by decide +kernel
theorem dX0_parse_6 : decode cX0_parse 6 = .ok (.invokevirtual 41, 3) := by decide +kernel
theorem dX0_parse_9 : decode cX0_parse 9 = .ok (.iconst (-1), 1) := by decide +kernel
theorem dX0_parse_10 : decode cX0_parse 10 = .ok (.if_icmp .ne 125, 3) := by decide +kernel
theorem dX0_parse_13 : decode cX0_parse 13 = .ok (.iconst 0, 1) := by decide +kernel
theorem dX0_parse_14 : decode cX0_parse 14 = .ok (.istore_n 2, 1) := by decide +kernel
theorem dX0_parse_15 : decode cX0_parse 15 = .ok (.iload_n 2, 1) := by decide +kernel
theorem dX0_parse_16 : decode cX0_parse 16 = .ok (.iconst 3, 1) := by decide +kernel
theorem dX0_parse_17 : decode cX0_parse 17 = .ok (.iadd, 1) := by decide +kernel
theorem dX0_parse_18 : decode cX0_parse 18 = .ok (.aload_n 1, 1) := by decide +kernel
theorem dX0_parse_19 : decode cX0_parse 19 = .ok (.getfield 47, 3) := by decide +kernel
theorem dX0_parse_22 : decode cX0_parse 22 = .ok (.if_icmp .ge 113, 3) := by decide +kernel
theorem dX0_parse_25 : decode cX0_parse 25 = .ok (.aload_n 0, 1) := by decide +kernel
theorem dX0_parse_26 : decode cX0_parse 26 = .ok (.getfield 9, 3) := by decide +kernel
theorem dX0_parse_29 : decode cX0_parse 29 = .ok (.bipush 8, 2) := by decide +kernel
theorem dX0_parse_31 : decode cX0_parse 31 = .ok (.if_icmp .ge 104, 3) := by decide +kernel
theorem dX0_parse_34 : decode cX0_parse 34 = .ok (.aload_n 0, 1) := by decide +kernel
theorem dX0_parse_35 : decode cX0_parse 35 = .ok (.getfield 15, 3) := by decide +kernel
theorem dX0_parse_38 : decode cX0_parse 38 = .ok (.aload_n 0, 1) := by decide +kernel
theorem dX0_parse_39 : decode cX0_parse 39 = .ok (.getfield 9, 3) := by decide +kernel
theorem dX0_parse_42 : decode cX0_parse 42 = .ok (.aload_n 1, 1) := by decide +kernel
theorem dX0_parse_43 : decode cX0_parse 43 = .ok (.getfield 48, 3) := by decide +kernel
theorem dX0_parse_46 : decode cX0_parse 46 = .ok (.iload_n 2, 1) := by decide +kernel
theorem dX0_parse_47 : decode cX0_parse 47 = .ok (.iaload, 1) := by decide +kernel
theorem dX0_parse_48 : decode cX0_parse 48 = .ok (.bipush 48, 2) := by decide +kernel
theorem dX0_parse_50 : decode cX0_parse 50 = .ok (.isub, 1) := by decide +kernel
theorem dX0_parse_51 : decode cX0_parse 51 = .ok (.iastore, 1) := by decide +kernel
theorem dX0_parse_52 : decode cX0_parse 52 = .ok (.aload_n 0, 1) := by decide +kernel
theorem dX0_parse_53 : decode cX0_parse 53 = .ok (.getfield 19, 3) := by decide +kernel
theorem dX0_parse_56 : decode cX0_parse 56 = .ok (.aload_n 0, 1) := by decide +kernel
theorem dX0_parse_57 : decode cX0_parse 57 = .ok (.getfield 9, 3) := by decide +kernel
theorem dX0_parse_60 : decode cX0_parse 60 = .ok (.aload_n 1, 1) := by decide +kernel
theorem dX0_parse_61 : decode cX0_parse 61 = .ok (.getfield 48, 3) := by decide +kernel
theorem dX0_parse_64 : decode cX0_parse 64 = .ok (.iload_n 2, 1) := by decide +kernel
theorem dX0_parse_65 : decode cX0_parse 65 = .ok (.iconst 1, 1) := by decide +kernel
theorem dX0_parse_66 : decode cX0_parse 66 = .ok (.iadd, 1) := by decide +kernel
theorem dX0_parse_67 : decode cX0_parse 67 = .ok (.iaload, 1) := by decide +kernel
theorem dX0_parse_68 : decode cX0_parse 68 = .ok (.bipush 48, 2) := by decide +kernel
theorem dX0_parse_70 : decode cX0_parse 70 = .ok (.isub, 1) := by decide +kernel
theorem dX0_parse_71 : decode cX0_parse 71 = .ok (.iastore, 1) := by decide +kernel
theorem dX0_parse_72 : decode cX0_parse 72 = .ok (.aload_n 0, 1) := by decide +kernel
theorem dX0_parse_73 : decode cX0_parse 73 = .ok (.getfield 22, 3) := by decide +kernel
theorem dX0_parse_76 : decode cX0_parse 76 = .ok (.aload_n 0, 1) := by decide +kernel
theorem dX0_parse_77 : decode cX0_parse 77 = .ok (.getfield 9, 3) := by decide +kernel
theorem dX0_parse_80 : decode cX0_parse 80 = .ok (.aload_n 1, 1) := by decide +kernel
theorem dX0_parse_81 : decode cX0_parse 81 = .ok (.getfield 48, 3) := by decide +kernel
theorem dX0_parse_84 : decode cX0_parse 84 = .ok (.iload_n 2, 1) := by decide +kernel
theorem dX0_parse_85 : decode cX0_parse 85 = .ok (.iconst 2, 1) := by decide +kernel
theorem dX0_parse_86 : decode cX0_parse 86 = .ok (.iadd, 1) := by decide +kernel
theorem dX0_parse_87 : decode cX0_parse 87 = .ok (.iaload, 1) := by decide +kernel
theorem dX0_parse_88 : decode cX0_parse 88 = .ok (.bipush 48, 2) := by decide +kernel
theorem dX0_parse_90 : decode cX0_parse 90 = .ok (.isub, 1) := by decide +kernel
theorem dX0_parse_91 : decode cX0_parse 91 = .ok (.iastore, 1) := by decide +kernel
theorem dX0_parse_92 : decode cX0_parse 92 = .ok (.aload_n 0, 1) := by decide +kernel
theorem dX0_parse_93 : decode cX0_parse 93 = .ok (.getfield 25, 3) := by decide +kernel
theorem dX0_parse_96 : decode cX0_parse 96 = .ok (.aload_n 0, 1) := by decide +kernel
theorem dX0_parse_97 : decode cX0_parse 97 = .ok (.getfield 9, 3) := by decide +kernel
theorem dX0_parse_100 : decode cX0_parse 100 = .ok (.aload_n 1, 1) := by decide +kernel
theorem dX0_parse_101 : decode cX0_parse 101 = .ok (.getfield 48, 3) := by decide +kernel
theorem dX0_parse_104 : decode cX0_parse 104 = .ok (.iload_n 2, 1) := by decide +kernel
theorem dX0_parse_105 : decode cX0_parse 105 = .ok (.iconst 3, 1) := by decide +kernel
theorem dX0_parse_106 : decode cX0_parse 106 = .ok (.iadd, 1) := by decide +kernel
theorem dX0_parse_107 : decode cX0_parse 107 = .ok (.iaload, 1) := by decide +kernel
theorem dX0_parse_108 : decode cX0_parse 108 = .ok (.bipush 104, 2) := by decide +kernel
theorem dX0_parse_110 : decode cX0_parse 110 = .ok (.if_icmp .ne 7, 3) := by decide +kernel
theorem dX0_parse_113 : decode cX0_parse 113 = .ok (.iconst 1, 1) := by decide +kernel
theorem dX0_parse_114 : decode cX0_parse 114 = .ok (.goto 4, 3) := by decide +kernel
theorem dX0_parse_117 : decode cX0_parse 117 = .ok (.iconst 0, 1) := by decide +kernel
theorem dX0_parse_118 : decode cX0_parse 118 = .ok (.bastore, 1) := by decide +kernel
theorem dX0_parse_119 : decode cX0_parse 119 = .ok (.aload_n 0, 1) := by decide +kernel
theorem dX0_parse_120 : decode cX0_parse 120 = .ok (.dup, 1) := by decide +kernel
theorem dX0_parse_121 : decode cX0_parse 121 = .ok (.getfield 9, 3) := by decide +kernel
theorem dX0_parse_124 : decode cX0_parse 124 = .ok (.iconst 1, 1) := by decide +kernel
theorem dX0_parse_125 : decode cX0_parse 125 = .ok (.iadd, 1) := by decide +kernel
theorem dX0_parse_126 : decode cX0_parse 126 = .ok (.putfield 9, 3) := by decide +kernel
theorem dX0_parse_129 : decode cX0_parse 129 = .ok (.iinc 2 5, 3) := by decide +kernel
theorem dX0_parse_132 : decode cX0_parse 132 = .ok (.goto (-117), 3) := by decide +kernel
theorem dX0_parse_135 : decode cX0_parse 135 = .ok (.aload_n 0, 1) := by decide +kernel
theorem dX0_parse_136 : decode cX0_parse 136 = .ok (.invokevirtual 51, 3) := by decide +kernel
theorem dX0_parse_139 : decode cX0_parse 139 = .ok (.return_, 1) := by decide +kernel
theorem dX0_become_0 : decode cX0_become 0 = .ok (.aload_n 0, 1) := by decide +kernel
theorem dX0_become_1 : decode cX0_become 1 = .ok (.aload_n 1, 1) := by decide +kernel
theorem dX0_become_2 : decode cX0_become 2 = .ok (.getfield 9, 3) := by decide +kernel
theorem dX0_become_5 : decode cX0_become 5 = .ok (.putfield 9, 3) := by decide +kernel
theorem dX0_become_8 : decode cX0_become 8 = .ok (.iconst 0, 1) := by decide +kernel
theorem dX0_become_9 : decode cX0_become 9 = .ok (.istore_n 2, 1) := by decide +kernel
theorem dX0_become_10 : decode cX0_become 10 = .ok (.iload_n 2, 1) := by decide +kernel
theorem dX0_become_11 : decode cX0_become 11 = .ok (.aload_n 0, 1) := by decide +kernel
theorem dX0_become_12 : decode cX0_become 12 = .ok (.getfield 9, 3) := by decide +kernel
theorem dX0_become_15 : decode cX0_become 15 = .ok (.if_icmp .ge 57, 3) := by decide +kernel
theorem dX0_become_18 : decode cX0_become 18 = .ok (.aload_n 0, 1) := by decide +kernel
theorem dX0_become_19 : decode cX0_become 19 = .ok (.getfield 15, 3) := by decide +kernel
theorem dX0_become_22 : decode cX0_become 22 = .ok (.iload_n 2, 1) := by decide +kernel
theorem dX0_become_23 : decode cX0_become 23 = .ok (.aload_n 1, 1) := by decide +kernel
theorem dX0_become_24 : decode cX0_become 24 = .ok (.getfield 15, 3) := by decide +kernel
theorem dX0_become_27 : decode cX0_become 27 = .ok (.iload_n 2, 1) := by decide +kernel
theorem dX0_become_28 : decode cX0_become 28 = .ok (.iaload, 1) := by decide +kernel
theorem dX0_become_29 : decode cX0_become 29 = .ok (.iastore, 1) := by decide +kernel
theorem dX0_become_30 : decode cX0_become 30 = .ok (.aload_n 0, 1) := by decide +kernel
theorem dX0_become_31 : decode cX0_become 31 = .ok (.getfield 19, 3) := by decide +kernel
theorem dX0_become_34 : decode cX0_become 34 = .ok (.iload_n 2, 1) := by decide +kernel
theorem dX0_become_35 : decode cX0_become 35 = .ok (.aload_n 1, 1) := by decide +kernel
theorem dX0_become_36 : decode cX0_become 36 = .ok (.getfield 19, 3) := by decide +kernel
theorem dX0_become_39 : decode cX0_become 39 = .ok (.iload_n 2, 1) := by decide +kernel
theorem dX0_become_40 : decode cX0_become 40 = .ok (.iaload, 1) := by decide +kernel
theorem dX0_become_41 : decode cX0_become 41 = .ok (.iastore, 1) := by decide +kernel
theorem dX0_become_42 : decode cX0_become 42 = .ok (.aload_n 0, 1) := by decide +kernel
theorem dX0_become_43 : decode cX0_become 43 = .ok (.getfield 22, 3) := by decide +kernel
theorem dX0_become_46 : decode cX0_become 46 = .ok (.iload_n 2, 1) := by decide +kernel
theorem dX0_become_47 : decode cX0_become 47 = .ok (.aload_n 1, 1) := by decide +kernel
theorem dX0_become_48 : decode cX0_become 48 = .ok (.getfield 22, 3) := by decide +kernel
theorem dX0_become_51 : decode cX0_become 51 = .ok (.iload_n 2, 1) := by decide +kernel
theorem dX0_become_52 : decode cX0_become 52 = .ok (.iaload, 1) := by decide +kernel
theorem dX0_become_53 : decode cX0_become 53 = .ok (.iastore, 1) := by decide +kernel
theorem dX0_become_54 : decode cX0_become 54 = .ok (.aload_n 0, 1) := by decide +kernel
theorem dX0_become_55 : decode cX0_become 55 = .ok (.getfield 25, 3) := by decide +kernel
theorem dX0_become_58 : decode cX0_become 58 = .ok (.iload_n 2, 1) := by decide +kernel
theorem dX0_become_59 : decode cX0_become 59 = .ok (.aload_n 1, 1) := by decide +kernel
theorem dX0_become_60 : decode cX0_become 60 = .ok (.getfield 25, 3) := by decide +kernel
theorem dX0_become_63 : decode cX0_become 63 = .ok (.iload_n 2, 1) := by decide +kernel
theorem dX0_become_64 : decode cX0_become 64 = .ok (.baload, 1) := by decide +kernel
theorem dX0_become_65 : decode cX0_become 65 = .ok (.bastore, 1) := by decide +kernel
theorem dX0_become_66 : decode cX0_become 66 = .ok (.iinc 2 1, 3) := by decide +kernel
theorem dX0_become_69 : decode cX0_become 69 = .ok (.goto (-59), 3) := by decide +kernel
theorem dX0_become_72 : decode cX0_become 72 = .ok (.return_, 1) := by decide +kernel
theorem dX0_link_0 : decode cX0_link 0 = .ok (.iconst 0, 1) := by decide +kernel
theorem dX0_link_1 : decode cX0_link 1 = .ok (.istore_n 1, 1) := by decide +kernel
theorem dX0_link_2 : decode cX0_link 2 = .ok (.iload_n 1, 1) := by decide +kernel
theorem dX0_link_3 : decode cX0_link 3 = .ok (.aload_n 0, 1) := by decide +kernel
theorem dX0_link_4 : decode cX0_link 4 = .ok (.getfield 9, 3) := by decide +kernel
theorem dX0_link_7 : decode cX0_link 7 = .ok (.if_icmp .ge 20, 3) := by decide +kernel
theorem dX0_link_10 : decode cX0_link 10 = .ok (.aload_n 0, 1) := by decide +kernel
theorem dX0_link_11 : decode cX0_link 11 = .ok (.getfield 35, 3) := by decide +kernel
theorem dX0_link_14 : decode cX0_link 14 = .ok (.iload_n 1, 1) := by decide +kernel
theorem dX0_link_15 : decode cX0_link 15 = .ok (.aload_n 0, 1) := by decide +kernel
theorem dX0_link_16 : decode cX0_link 16 = .ok (.iload_n 1, 1) := by decide +kernel
theorem dX0_link_17 : decode cX0_link 17 = .ok (.invokevirtual 54, 3) := by decide +kernel
theorem dX0_link_20 : decode cX0_link 20 = .ok (.iastore, 1) := by decide +kernel
theorem dX0_link_21 : decode cX0_link 21 = .ok (.iinc 1 1, 3) := by decide +kernel
theorem dX0_link_24 : decode cX0_link 24 = .ok (.goto (-22), 3) := by decide +kernel
theorem dX0_link_27 : decode cX0_link 27 = .ok (.iconst 0, 1) := by decide +kernel
theorem dX0_link_28 : decode cX0_link 28 = .ok (.istore_n 1, 1) := by decide +kernel
theorem dX0_link_29 : decode cX0_link 29 = .ok (.iload_n 1, 1) := by decide +kernel
theorem dX0_link_30 : decode cX0_link 30 = .ok (.aload_n 0, 1) := by decide +kernel
theorem dX0_link_31 : decode cX0_link 31 = .ok (.getfield 9, 3) := by decide +kernel
theorem dX0_link_34 : decode cX0_link 34 = .ok (.if_icmp .ge 14, 3) := by decide +kernel
theorem dX0_link_37 : decode cX0_link 37 = .ok (.aload_n 0, 1) := by decide +kernel
theorem dX0_link_38 : decode cX0_link 38 = .ok (.iload_n 1, 1) := by decide +kernel
theorem dX0_link_39 : decode cX0_link 39 = .ok (.invokevirtual 58, 3) := by decide +kernel
theorem dX0_link_42 : decode cX0_link 42 = .ok (.iinc 1 1, 3) := by decide +kernel
theorem dX0_link_45 : decode cX0_link 45 = .ok (.goto (-16), 3) := by decide +kernel
theorem dX0_link_48 : decode cX0_link 48 = .ok (.return_, 1) := by decide +kernel
theorem dX0_nearestTo_0 : decode cX0_nearestTo 0 = .ok (.iconst (-1), 1) := by decide +kernel
theorem dX0_nearestTo_1 : decode cX0_nearestTo 1 = .ok (.istore_n 2, 1) := by decide +kernel
theorem dX0_nearestTo_2 : decode cX0_nearestTo 2 = .ok (.bipush 10, 2) := by decide +kernel
theorem dX0_nearestTo_4 : decode cX0_nearestTo 4 = .ok (.istore_n 3, 1) := by decide +kernel
theorem dX0_nearestTo_5 : decode cX0_nearestTo 5 = .ok (.iconst 0, 1) := by decide +kernel
theorem dX0_nearestTo_6 : decode cX0_nearestTo 6 = .ok (.istore 4, 2) := by decide +kernel
theorem dX0_nearestTo_8 : decode cX0_nearestTo 8 = .ok (.iload 4, 2) := by decide +kernel
theorem dX0_nearestTo_10 : decode cX0_nearestTo 10 = .ok (.aload_n 0, 1) := by decide +kernel
theorem dX0_nearestTo_11 : decode cX0_nearestTo 11 = .ok (.getfield 9, 3) := by decide +kernel
theorem dX0_nearestTo_14 : decode cX0_nearestTo 14 = .ok (.if_icmp .ge 46, 3) := by decide +kernel
theorem dX0_nearestTo_17 : decode cX0_nearestTo 17 = .ok (.aload_n 0, 1) := by decide +kernel
theorem dX0_nearestTo_18 : decode cX0_nearestTo 18 = .ok (.getfield 15, 3) := by decide +kernel
theorem dX0_nearestTo_21 : decode cX0_nearestTo 21 = .ok (.iload 4, 2) := by decide +kernel
theorem dX0_nearestTo_23 : decode cX0_nearestTo 23 = .ok (.iaload, 1) := by decide +kernel
theorem dX0_nearestTo_24 : decode cX0_nearestTo 24 = .ok (.aload_n 0, 1) := by decide +kernel
theorem dX0_nearestTo_25 : decode cX0_nearestTo 25 = .ok (.getfield 15, 3) := by decide +kernel
theorem dX0_nearestTo_28 : decode cX0_nearestTo 28 = .ok (.iload_n 1, 1) := by decide +kernel
theorem dX0_nearestTo_29 : decode cX0_nearestTo 29 = .ok (.iaload, 1) := by decide +kernel
theorem dX0_nearestTo_30 : decode cX0_nearestTo 30 = .ok (.isub, 1) := by decide +kernel
theorem dX0_nearestTo_31 : decode cX0_nearestTo 31 = .ok (.invokestatic 62, 3) := by decide +kernel
theorem dX0_nearestTo_34 : decode cX0_nearestTo 34 = .ok (.istore 5, 2) := by decide +kernel
theorem dX0_nearestTo_36 : decode cX0_nearestTo 36 = .ok (.iload 4, 2) := by decide +kernel
theorem dX0_nearestTo_38 : decode cX0_nearestTo 38 = .ok (.iload_n 1, 1) := by decide +kernel
theorem dX0_nearestTo_39 : decode cX0_nearestTo 39 = .ok (.if_icmp .eq 15, 3) := by decide +kernel
theorem dX0_nearestTo_42 : decode cX0_nearestTo 42 = .ok (.iload 5, 2) := by decide +kernel
theorem dX0_nearestTo_44 : decode cX0_nearestTo 44 = .ok (.iload_n 3, 1) := by decide +kernel
theorem dX0_nearestTo_45 : decode cX0_nearestTo 45 = .ok (.if_icmp .ge 9, 3) := by decide +kernel
theorem dX0_nearestTo_48 : decode cX0_nearestTo 48 = .ok (.iload 4, 2) := by decide +kernel
theorem dX0_nearestTo_50 : decode cX0_nearestTo 50 = .ok (.istore_n 2, 1) := by decide +kernel
theorem dX0_nearestTo_51 : decode cX0_nearestTo 51 = .ok (.iload 5, 2) := by decide +kernel
theorem dX0_nearestTo_53 : decode cX0_nearestTo 53 = .ok (.istore_n 3, 1) := by decide +kernel
theorem dX0_nearestTo_54 : decode cX0_nearestTo 54 = .ok (.iinc 4 1, 3) := by decide +kernel
theorem dX0_nearestTo_57 : decode cX0_nearestTo 57 = .ok (.goto (-49), 3) := by decide +kernel
theorem dX0_nearestTo_60 : decode cX0_nearestTo 60 = .ok (.iload_n 2, 1) := by decide +kernel
theorem dX0_nearestTo_61 : decode cX0_nearestTo 61 = .ok (.ireturn, 1) := by decide +kernel
theorem dX0_follow_0 : decode cX0_follow 0 = .ok (.iload_n 1, 1) := by decide +kernel
theorem dX0_follow_1 : decode cX0_follow 1 = .ok (.istore_n 2, 1) := by decide +kernel
theorem dX0_follow_2 : decode cX0_follow 2 = .ok (.iconst 0, 1) := by decide +kernel
theorem dX0_follow_3 : decode cX0_follow 3 = .ok (.istore_n 3, 1) := by decide +kernel
theorem dX0_follow_4 : decode cX0_follow 4 = .ok (.iconst 0, 1) := by decide +kernel
theorem dX0_follow_5 : decode cX0_follow 5 = .ok (.istore 4, 2) := by decide +kernel
theorem dX0_follow_7 : decode cX0_follow 7 = .ok (.iload_n 3, 1) := by decide +kernel
theorem dX0_follow_8 : decode cX0_follow 8 = .ok (.aload_n 0, 1) := by decide +kernel
theorem dX0_follow_9 : decode cX0_follow 9 = .ok (.getfield 9, 3) := by decide +kernel
theorem dX0_follow_12 : decode cX0_follow 12 = .ok (.if_icmp .ge 43, 3) := by decide +kernel
theorem dX0_follow_15 : decode cX0_follow 15 = .ok (.iload_n 2, 1) := by decide +kernel
theorem dX0_follow_16 : decode cX0_follow 16 = .ok (.iconst (-1), 1) := by decide +kernel
theorem dX0_follow_17 : decode cX0_follow 17 = .ok (.if_icmp .eq 38, 3) := by decide +kernel
theorem dX0_follow_20 : decode cX0_follow 20 = .ok (.aload_n 0, 1) := by decide +kernel
theorem dX0_follow_21 : decode cX0_follow 21 = .ok (.getfield 25, 3) := by decide +kernel
theorem dX0_follow_24 : decode cX0_follow 24 = .ok (.iload_n 2, 1) := by decide +kernel
theorem dX0_follow_25 : decode cX0_follow 25 = .ok (.baload, 1) := by decide +kernel
theorem dX0_follow_26 : decode cX0_follow 26 = .ok (.ifCond .ne 29, 3) := by decide +kernel
theorem dX0_follow_29 : decode cX0_follow 29 = .ok (.iload 4, 2) := by decide +kernel
theorem dX0_follow_31 : decode cX0_follow 31 = .ok (.aload_n 0, 1) := by decide +kernel
theorem dX0_follow_32 : decode cX0_follow 32 = .ok (.getfield 19, 3) := by decide +kernel
theorem dX0_follow_35 : decode cX0_follow 35 = .ok (.iload_n 2, 1) := by decide +kernel
theorem dX0_follow_36 : decode cX0_follow 36 = .ok (.iaload, 1) := by decide +kernel
theorem dX0_follow_37 : decode cX0_follow 37 = .ok (.iconst 2, 1) := by decide +kernel
theorem dX0_follow_38 : decode cX0_follow 38 = .ok (.idiv, 1) := by decide +kernel
theorem dX0_follow_39 : decode cX0_follow 39 = .ok (.iadd, 1) := by decide +kernel
theorem dX0_follow_40 : decode cX0_follow 40 = .ok (.istore 4, 2) := by decide +kernel
theorem dX0_follow_42 : decode cX0_follow 42 = .ok (.aload_n 0, 1) := by decide +kernel
theorem dX0_follow_43 : decode cX0_follow 43 = .ok (.getfield 35, 3) := by decide +kernel
theorem dX0_follow_46 : decode cX0_follow 46 = .ok (.iload_n 2, 1) := by decide +kernel
theorem dX0_follow_47 : decode cX0_follow 47 = .ok (.iaload, 1) := by decide +kernel
theorem dX0_follow_48 : decode cX0_follow 48 = .ok (.istore_n 2, 1) := by decide +kernel
theorem dX0_follow_49 : decode cX0_follow 49 = .ok (.iinc 3 1, 3) := by decide +kernel
theorem dX0_follow_52 : decode cX0_follow 52 = .ok (.goto (-45), 3) := by decide +kernel
theorem dX0_follow_55 : decode cX0_follow 55 = .ok (.iload_n 2, 1) := by decide +kernel
theorem dX0_follow_56 : decode cX0_follow 56 = .ok (.iconst (-1), 1) := by decide +kernel
theorem dX0_follow_57 : decode cX0_follow 57 = .ok (.if_icmp .eq 12, 3) := by decide +kernel
theorem dX0_follow_60 : decode cX0_follow 60 = .ok (.aload_n 0, 1) := by decide +kernel
theorem dX0_follow_61 : decode cX0_follow 61 = .ok (.getfield 25, 3) := by decide +kernel
theorem dX0_follow_64 : decode cX0_follow 64 = .ok (.iload_n 2, 1) := by decide +kernel
theorem dX0_follow_65 : decode cX0_follow 65 = .ok (.baload, 1) := by decide +kernel
theorem dX0_follow_66 : decode cX0_follow 66 = .ok (.ifCond .ne 27, 3) := by decide +kernel
theorem dX0_follow_69 : decode cX0_follow 69 = .ok (.aload_n 0, 1) := by decide +kernel
theorem dX0_follow_70 : decode cX0_follow 70 = .ok (.getfield 29, 3) := by decide +kernel
theorem dX0_follow_73 : decode cX0_follow 73 = .ok (.iload_n 1, 1) := by decide +kernel
theorem dX0_follow_74 : decode cX0_follow 74 = .ok (.iconst (-1), 1) := by decide +kernel
theorem dX0_follow_75 : decode cX0_follow 75 = .ok (.iastore, 1) := by decide +kernel
theorem dX0_follow_76 : decode cX0_follow 76 = .ok (.aload_n 0, 1) := by decide +kernel
theorem dX0_follow_77 : decode cX0_follow 77 = .ok (.getfield 38, 3) := by decide +kernel
theorem dX0_follow_80 : decode cX0_follow 80 = .ok (.iload_n 1, 1) := by decide +kernel
theorem dX0_follow_81 : decode cX0_follow 81 = .ok (.iconst (-1), 1) := by decide +kernel
theorem dX0_follow_82 : decode cX0_follow 82 = .ok (.iastore, 1) := by decide +kernel
theorem dX0_follow_83 : decode cX0_follow 83 = .ok (.aload_n 0, 1) := by decide +kernel
theorem dX0_follow_84 : decode cX0_follow 84 = .ok (.getfield 32, 3) := by decide +kernel
theorem dX0_follow_87 : decode cX0_follow 87 = .ok (.iload_n 1, 1) := by decide +kernel
theorem dX0_follow_88 : decode cX0_follow 88 = .ok (.iconst 0, 1) := by decide +kernel
theorem dX0_follow_89 : decode cX0_follow 89 = .ok (.iastore, 1) := by decide +kernel
theorem dX0_follow_90 : decode cX0_follow 90 = .ok (.goto 53, 3) := by decide +kernel
theorem dX0_follow_93 : decode cX0_follow 93 = .ok (.aload_n 0, 1) := by decide +kernel
theorem dX0_follow_94 : decode cX0_follow 94 = .ok (.getfield 29, 3) := by decide +kernel
theorem dX0_follow_97 : decode cX0_follow 97 = .ok (.iload_n 1, 1) := by decide +kernel
theorem dX0_follow_98 : decode cX0_follow 98 = .ok (.iload_n 2, 1) := by decide +kernel
theorem dX0_follow_99 : decode cX0_follow 99 = .ok (.iastore, 1) := by decide +kernel
theorem dX0_follow_100 : decode cX0_follow 100 = .ok (.aload_n 0, 1) := by decide +kernel
theorem dX0_follow_101 : decode cX0_follow 101 = .ok (.getfield 38, 3) := by decide +kernel
theorem dX0_follow_104 : decode cX0_follow 104 = .ok (.iload_n 1, 1) := by decide +kernel
theorem dX0_follow_105 : decode cX0_follow 105 = .ok (.iload_n 3, 1) := by decide +kernel
theorem dX0_follow_106 : decode cX0_follow 106 = .ok (.iastore, 1) := by decide +kernel
theorem dX0_follow_107 : decode cX0_follow 107 = .ok (.aload_n 0, 1) := by decide +kernel
theorem dX0_follow_108 : decode cX0_follow 108 = .ok (.getfield 32, 3) := by decide +kernel
theorem dX0_follow_111 : decode cX0_follow 111 = .ok (.iload_n 1, 1) := by decide +kernel
theorem dX0_follow_112 : decode cX0_follow 112 = .ok (.iload 4, 2) := by decide +kernel
theorem dX0_follow_114 : decode cX0_follow 114 = .ok (.aload_n 0, 1) := by decide +kernel
theorem dX0_follow_115 : decode cX0_follow 115 = .ok (.getfield 15, 3) := by decide +kernel
theorem dX0_follow_118 : decode cX0_follow 118 = .ok (.iload_n 2, 1) := by decide +kernel
theorem dX0_follow_119 : decode cX0_follow 119 = .ok (.iaload, 1) := by decide +kernel
theorem dX0_follow_120 : decode cX0_follow 120 = .ok (.iconst 2, 1) := by decide +kernel
theorem dX0_follow_121 : decode cX0_follow 121 = .ok (.irem, 1) := by decide +kernel
theorem dX0_follow_122 : decode cX0_follow 122 = .ok (.ifCond .ne 12, 3) := by decide +kernel
theorem dX0_follow_125 : decode cX0_follow 125 = .ok (.aload_n 0, 1) := by decide +kernel
theorem dX0_follow_126 : decode cX0_follow 126 = .ok (.getfield 19, 3) := by decide +kernel
theorem dX0_follow_129 : decode cX0_follow 129 = .ok (.iload_n 2, 1) := by decide +kernel
theorem dX0_follow_130 : decode cX0_follow 130 = .ok (.iaload, 1) := by decide +kernel
theorem dX0_follow_131 : decode cX0_follow 131 = .ok (.goto 10, 3) := by decide +kernel
theorem dX0_follow_134 : decode cX0_follow 134 = .ok (.aload_n 0, 1) := by decide +kernel
theorem dX0_follow_135 : decode cX0_follow 135 = .ok (.getfield 19, 3) := by decide +kernel
theorem dX0_follow_138 : decode cX0_follow 138 = .ok (.iload_n 2, 1) := by decide +kernel
theorem dX0_follow_139 : decode cX0_follow 139 = .ok (.iaload, 1) := by decide +kernel
theorem dX0_follow_140 : decode cX0_follow 140 = .ok (.ineg, 1) := by decide +kernel
theorem dX0_follow_141 : decode cX0_follow 141 = .ok (.iadd, 1) := by decide +kernel
theorem dX0_follow_142 : decode cX0_follow 142 = .ok (.iastore, 1) := by decide +kernel
theorem dX0_follow_143 : decode cX0_follow 143 = .ok (.return_, 1) := by decide +kernel
theorem dX0_howManySilent_0 : decode cX0_howManySilent 0 = .ok (.iconst 0, 1) := by decide +kernel
theorem dX0_howManySilent_1 : decode cX0_howManySilent 1 = .ok (.istore_n 1, 1) := by decide +kernel
theorem dX0_howManySilent_2 : decode cX0_howManySilent 2 = .ok (.iconst 0, 1) := by decide +kernel
theorem dX0_howManySilent_3 : decode cX0_howManySilent 3 = .ok (.istore_n 2, 1) := by decide +kernel
theorem dX0_howManySilent_4 : decode cX0_howManySilent 4 = .ok (.iload_n 2, 1) := by decide +kernel
theorem dX0_howManySilent_5 : decode cX0_howManySilent 5 = .ok (.aload_n 0, 1) := by decide +kernel
theorem dX0_howManySilent_6 : decode cX0_howManySilent 6 = .ok (.getfield 9, 3) := by decide +kernel
theorem dX0_howManySilent_9 : decode cX0_howManySilent 9 = .ok (.if_icmp .ge 27, 3) := by decide +kernel
theorem dX0_howManySilent_12 : decode cX0_howManySilent 12 = .ok (.iload_n 1, 1) := by decide +kernel
theorem dX0_howManySilent_13 : decode cX0_howManySilent 13 = .ok (.aload_n 0, 1) := by decide +kernel
theorem dX0_howManySilent_14 : decode cX0_howManySilent 14 = .ok (.getfield 29, 3) := by decide +kernel
theorem dX0_howManySilent_17 : decode cX0_howManySilent 17 = .ok (.iload_n 2, 1) := by decide +kernel
theorem dX0_howManySilent_18 : decode cX0_howManySilent 18 = .ok (.iaload, 1) := by decide +kernel
theorem dX0_howManySilent_19 : decode cX0_howManySilent 19 = .ok (.iconst (-1), 1) := by decide +kernel
theorem dX0_howManySilent_20 : decode cX0_howManySilent 20 = .ok (.if_icmp .ne 7, 3) := by decide +kernel
theorem dX0_howManySilent_23 : decode cX0_howManySilent 23 = .ok (.iconst 1, 1) := by decide +kernel
theorem dX0_howManySilent_24 : decode cX0_howManySilent 24 = .ok (.goto 4, 3) := by decide +kernel
theorem dX0_howManySilent_27 : decode cX0_howManySilent 27 = .ok (.iconst 0, 1) := by decide +kernel
theorem dX0_howManySilent_28 : decode cX0_howManySilent 28 = .ok (.iadd, 1) := by decide +kernel
theorem dX0_howManySilent_29 : decode cX0_howManySilent 29 = .ok (.istore_n 1, 1) := by decide +kernel
theorem dX0_howManySilent_30 : decode cX0_howManySilent 30 = .ok (.iinc 2 1, 3) := by decide +kernel
theorem dX0_howManySilent_33 : decode cX0_howManySilent 33 = .ok (.goto (-29), 3) := by decide +kernel
theorem dX0_howManySilent_36 : decode cX0_howManySilent 36 = .ok (.iload_n 1, 1) := by decide +kernel
theorem dX0_howManySilent_37 : decode cX0_howManySilent 37 = .ok (.ireturn, 1) := by decide +kernel
theorem dX1_init_0 : decode cX1_init 0 = .ok (.aload_n 0, 1) := by decide +kernel
theorem dX1_init_1 : decode cX1_init 1 = .ok (.invokespecial 3, 3) := by decide +kernel
theorem dX1_init_4 : decode cX1_init 4 = .ok (.aload_n 0, 1) := by decide +kernel
theorem dX1_init_5 : decode cX1_init 5 = .ok (.iconst 0, 1) := by decide +kernel
theorem dX1_init_6 : decode cX1_init 6 = .ok (.putfield 9, 3) := by decide +kernel
theorem dX1_init_9 : decode cX1_init 9 = .ok (.aload_n 0, 1) := by decide +kernel
theorem dX1_init_10 : decode cX1_init 10 = .ok (.bipush 8, 2) := by decide +kernel
theorem dX1_init_12 : decode cX1_init 12 = .ok (.newarray .int, 2) := by decide +kernel
theorem dX1_init_14 : decode cX1_init 14 = .ok (.putfield 15, 3) := by decide +kernel
theorem dX1_init_17 : decode cX1_init 17 = .ok (.aload_n 0, 1) := by decide +kernel
theorem dX1_init_18 : decode cX1_init 18 = .ok (.bipush 8, 2) := by decide +kernel
theorem dX1_init_20 : decode cX1_init 20 = .ok (.newarray .int, 2) := by decide +kernel
theorem dX1_init_22 : decode cX1_init 22 = .ok (.putfield 19, 3) := by decide +kernel
theorem dX1_init_25 : decode cX1_init 25 = .ok (.aload_n 0, 1) := by decide +kernel
theorem dX1_init_26 : decode cX1_init 26 = .ok (.bipush 8, 2) := by decide +kernel
theorem dX1_init_28 : decode cX1_init 28 = .ok (.newarray .int, 2) := by decide +kernel
theorem dX1_init_30 : decode cX1_init 30 = .ok (.putfield 22, 3) := by decide +kernel
theorem dX1_init_33 : decode cX1_init 33 = .ok (.return_, 1) := by decide +kernel
theorem dX1_mayHold_0 : decode cX1_mayHold 0 = .ok (.iload_n 0, 1) := by decide +kernel
theorem dX1_mayHold_1 : decode cX1_mayHold 1 = .ok (.ifCond .lt 34, 3) := by decide +kernel
theorem dX1_mayHold_4 : decode cX1_mayHold 4 = .ok (.iload_n 0, 1) := by decide +kernel
theorem dX1_mayHold_5 : decode cX1_mayHold 5 = .ok (.bipush 24, 2) := by decide +kernel
theorem dX1_mayHold_7 : decode cX1_mayHold 7 = .ok (.if_icmp .ge 28, 3) := by decide +kernel
theorem dX1_mayHold_10 : decode cX1_mayHold 10 = .ok (.iload_n 1, 1) := by decide +kernel
theorem dX1_mayHold_11 : decode cX1_mayHold 11 = .ok (.ifCond .lt 24, 3) := by decide +kernel
theorem dX1_mayHold_14 : decode cX1_mayHold 14 = .ok (.iload_n 1, 1) := by decide +kernel
theorem dX1_mayHold_15 : decode cX1_mayHold 15 = .ok (.bipush 8, 2) := by decide +kernel
theorem dX1_mayHold_17 : decode cX1_mayHold 17 = .ok (.if_icmp .ge 18, 3) := by decide +kernel
theorem dX1_mayHold_20 : decode cX1_mayHold 20 = .ok (.iload_n 2, 1) := by decide +kernel
theorem dX1_mayHold_21 : decode cX1_mayHold 21 = .ok (.ifCond .lt 14, 3) := by decide +kernel
theorem dX1_mayHold_24 : decode cX1_mayHold 24 = .ok (.iload_n 2, 1) := by decide +kernel
theorem dX1_mayHold_25 : decode cX1_mayHold 25 = .ok (.sipush 2000, 3) := by decide +kernel
theorem dX1_mayHold_28 : decode cX1_mayHold 28 = .ok (.if_icmp .gt 7, 3) := by decide +kernel
theorem dX1_mayHold_31 : decode cX1_mayHold 31 = .ok (.iconst 1, 1) := by decide +kernel
theorem dX1_mayHold_32 : decode cX1_mayHold 32 = .ok (.goto 4, 3) := by decide +kernel
theorem dX1_mayHold_35 : decode cX1_mayHold 35 = .ok (.iconst 0, 1) := by decide +kernel
theorem dX1_mayHold_36 : decode cX1_mayHold 36 = .ok (.ireturn, 1) := by decide +kernel
theorem dX1_isFull_0 : decode cX1_isFull 0 = .ok (.aload_n 0, 1) := by decide +kernel
theorem dX1_isFull_1 : decode cX1_isFull 1 = .ok (.getfield 9, 3) := by decide +kernel
theorem dX1_isFull_4 : decode cX1_isFull 4 = .ok (.bipush 8, 2) := by decide +kernel
theorem dX1_isFull_6 : decode cX1_isFull 6 = .ok (.if_icmp .lt 7, 3) := by decide +kernel
theorem dX1_isFull_9 : decode cX1_isFull 9 = .ok (.iconst 1, 1) := by decide +kernel
theorem dX1_isFull_10 : decode cX1_isFull 10 = .ok (.goto 4, 3) := by decide +kernel
theorem dX1_isFull_13 : decode cX1_isFull 13 = .ok (.iconst 0, 1) := by decide +kernel
theorem dX1_isFull_14 : decode cX1_isFull 14 = .ok (.ireturn, 1) := by decide +kernel
theorem dX1_keep_0 : decode cX1_keep 0 = .ok (.aload_n 0, 1) := by decide +kernel
theorem dX1_keep_1 : decode cX1_keep 1 = .ok (.invokevirtual 25, 3) := by decide +kernel
theorem dX1_keep_4 : decode cX1_keep 4 = .ok (.ifCond .ne 43, 3) := by decide +kernel
theorem dX1_keep_7 : decode cX1_keep 7 = .ok (.aload_n 0, 1) := by decide +kernel
theorem dX1_keep_8 : decode cX1_keep 8 = .ok (.getfield 15, 3) := by decide +kernel
theorem dX1_keep_11 : decode cX1_keep 11 = .ok (.aload_n 0, 1) := by decide +kernel
theorem dX1_keep_12 : decode cX1_keep 12 = .ok (.getfield 9, 3) := by decide +kernel
theorem dX1_keep_15 : decode cX1_keep 15 = .ok (.iload_n 1, 1) := by decide +kernel
theorem dX1_keep_16 : decode cX1_keep 16 = .ok (.iastore, 1) := by decide +kernel
theorem dX1_keep_17 : decode cX1_keep 17 = .ok (.aload_n 0, 1) := by decide +kernel
theorem dX1_keep_18 : decode cX1_keep 18 = .ok (.getfield 19, 3) := by decide +kernel
theorem dX1_keep_21 : decode cX1_keep 21 = .ok (.aload_n 0, 1) := by decide +kernel
theorem dX1_keep_22 : decode cX1_keep 22 = .ok (.getfield 9, 3) := by decide +kernel
theorem dX1_keep_25 : decode cX1_keep 25 = .ok (.iload_n 2, 1) := by decide +kernel
theorem dX1_keep_26 : decode cX1_keep 26 = .ok (.iastore, 1) := by decide +kernel
theorem dX1_keep_27 : decode cX1_keep 27 = .ok (.aload_n 0, 1) := by decide +kernel
theorem dX1_keep_28 : decode cX1_keep 28 = .ok (.getfield 22, 3) := by decide +kernel
theorem dX1_keep_31 : decode cX1_keep 31 = .ok (.aload_n 0, 1) := by decide +kernel
theorem dX1_keep_32 : decode cX1_keep 32 = .ok (.getfield 9, 3) := by decide +kernel
theorem dX1_keep_35 : decode cX1_keep 35 = .ok (.iload_n 3, 1) := by decide +kernel
theorem dX1_keep_36 : decode cX1_keep 36 = .ok (.iastore, 1) := by decide +kernel
theorem dX1_keep_37 : decode cX1_keep 37 = .ok (.aload_n 0, 1) := by decide +kernel
theorem dX1_keep_38 : decode cX1_keep 38 = .ok (.dup, 1) := by decide +kernel
theorem dX1_keep_39 : decode cX1_keep 39 = .ok (.getfield 9, 3) := by decide +kernel
theorem dX1_keep_42 : decode cX1_keep 42 = .ok (.iconst 1, 1) := by decide +kernel
theorem dX1_keep_43 : decode cX1_keep 43 = .ok (.iadd, 1) := by decide +kernel
theorem dX1_keep_44 : decode cX1_keep 44 = .ok (.putfield 9, 3) := by decide +kernel
theorem dX1_keep_47 : decode cX1_keep 47 = .ok (.return_, 1) := by decide +kernel
theorem dX2_init_0 : decode cX2_init 0 = .ok (.aload_n 0, 1) := by decide +kernel
theorem dX2_init_1 : decode cX2_init 1 = .ok (.invokespecial 3, 3) := by decide +kernel
theorem dX2_init_4 : decode cX2_init 4 = .ok (.aload_n 0, 1) := by decide +kernel
theorem dX2_init_5 : decode cX2_init 5 = .ok (.bipush 60, 2) := by decide +kernel
theorem dX2_init_7 : decode cX2_init 7 = .ok (.newarray .int, 2) := by decide +kernel
theorem dX2_init_9 : decode cX2_init 9 = .ok (.putfield 9, 3) := by decide +kernel
theorem dX2_init_12 : decode cX2_init 12 = .ok (.aload_n 0, 1) := by decide +kernel
theorem dX2_init_13 : decode cX2_init 13 = .ok (.iconst (-1), 1) := by decide +kernel
theorem dX2_init_14 : decode cX2_init 14 = .ok (.putfield 15, 3) := by decide +kernel
theorem dX2_init_17 : decode cX2_init 17 = .ok (.aload_n 0, 1) := by decide +kernel
theorem dX2_init_18 : decode cX2_init 18 = .ok (.iconst 0, 1) := by decide +kernel
theorem dX2_init_19 : decode cX2_init 19 = .ok (.putfield 19, 3) := by decide +kernel
theorem dX2_init_22 : decode cX2_init 22 = .ok (.return_, 1) := by decide +kernel
theorem dX2_isLost_0 : decode cX2_isLost 0 = .ok (.aload_n 0, 1) := by decide +kernel
theorem dX2_isLost_1 : decode cX2_isLost 1 = .ok (.getfield 15, 3) := by decide +kernel
theorem dX2_isLost_4 : decode cX2_isLost 4 = .ok (.iconst (-1), 1) := by decide +kernel
theorem dX2_isLost_5 : decode cX2_isLost 5 = .ok (.if_icmp .ne 7, 3) := by decide +kernel
theorem dX2_isLost_8 : decode cX2_isLost 8 = .ok (.iconst 1, 1) := by decide +kernel
theorem dX2_isLost_9 : decode cX2_isLost 9 = .ok (.goto 4, 3) := by decide +kernel
theorem dX2_isLost_12 : decode cX2_isLost 12 = .ok (.iconst 0, 1) := by decide +kernel
theorem dX2_isLost_13 : decode cX2_isLost 13 = .ok (.ireturn, 1) := by decide +kernel
theorem dX2_renew_0 : decode cX2_renew 0 = .ok (.aload_n 0, 1) := by decide +kernel
theorem dX2_renew_1 : decode cX2_renew 1 = .ok (.iload_n 1, 1) := by decide +kernel
theorem dX2_renew_2 : decode cX2_renew 2 = .ok (.putfield 15, 3) := by decide +kernel
theorem dX2_renew_5 : decode cX2_renew 5 = .ok (.aload_n 0, 1) := by decide +kernel
theorem dX2_renew_6 : decode cX2_renew 6 = .ok (.iconst 0, 1) := by decide +kernel
theorem dX2_renew_7 : decode cX2_renew 7 = .ok (.iload_n 2, 1) := by decide +kernel
theorem dX2_renew_8 : decode cX2_renew 8 = .ok (.bipush 60, 2) := by decide +kernel
theorem dX2_renew_10 : decode cX2_renew 10 = .ok (.invokestatic 22, 3) := by decide +kernel
theorem dX2_renew_13 : decode cX2_renew 13 = .ok (.invokestatic 28, 3) := by decide +kernel
theorem dX2_renew_16 : decode cX2_renew 16 = .ok (.putfield 19, 3) := by decide +kernel
theorem dX2_renew_19 : decode cX2_renew 19 = .ok (.aload_n 0, 1) := by decide +kernel
theorem dX2_renew_20 : decode cX2_renew 20 = .ok (.getfield 9, 3) := by decide +kernel
theorem dX2_renew_23 : decode cX2_renew 23 = .ok (.iconst 0, 1) := by decide +kernel
theorem dX2_renew_24 : decode cX2_renew 24 = .ok (.invokestatic 31, 3) := by decide +kernel
theorem dX2_renew_27 : decode cX2_renew 27 = .ok (.return_, 1) := by decide +kernel
theorem dX2_put_0 : decode cX2_put 0 = .ok (.iload_n 1, 1) := by decide +kernel
theorem dX2_put_1 : decode cX2_put 1 = .ok (.ifCond .lt 43, 3) := by decide +kernel
theorem dX2_put_4 : decode cX2_put 4 = .ok (.iload_n 1, 1) := by decide +kernel
theorem dX2_put_5 : decode cX2_put 5 = .ok (.aload_n 0, 1) := by decide +kernel
theorem dX2_put_6 : decode cX2_put 6 = .ok (.getfield 19, 3) := by decide +kernel
theorem dX2_put_9 : decode cX2_put 9 = .ok (.if_icmp .ge 35, 3) := by decide +kernel
theorem dX2_put_12 : decode cX2_put 12 = .ok (.aload_n 0, 1) := by decide +kernel
theorem dX2_put_13 : decode cX2_put 13 = .ok (.getfield 9, 3) := by decide +kernel
theorem dX2_put_16 : decode cX2_put 16 = .ok (.iload_n 1, 1) := by decide +kernel
theorem dX2_put_17 : decode cX2_put 17 = .ok (.aload_n 0, 1) := by decide +kernel
theorem dX2_put_18 : decode cX2_put 18 = .ok (.getfield 15, 3) := by decide +kernel
theorem dX2_put_21 : decode cX2_put 21 = .ok (.ifCond .ne 8, 3) := by decide +kernel
theorem dX2_put_24 : decode cX2_put 24 = .ok (.iload_n 2, 1) := by decide +kernel
theorem dX2_put_25 : decode cX2_put 25 = .ok (.i2b, 1) := by decide +kernel
theorem dX2_put_26 : decode cX2_put 26 = .ok (.goto 17, 3) := by decide +kernel
theorem dX2_put_29 : decode cX2_put 29 = .ok (.aload_n 0, 1) := by decide +kernel
theorem dX2_put_30 : decode cX2_put 30 = .ok (.getfield 15, 3) := by decide +kernel
theorem dX2_put_33 : decode cX2_put 33 = .ok (.iconst 1, 1) := by decide +kernel
theorem dX2_put_34 : decode cX2_put 34 = .ok (.if_icmp .ne 8, 3) := by decide +kernel
theorem dX2_put_37 : decode cX2_put 37 = .ok (.iload_n 2, 1) := by decide +kernel
theorem dX2_put_38 : decode cX2_put 38 = .ok (.i2s, 1) := by decide +kernel
theorem dX2_put_39 : decode cX2_put 39 = .ok (.goto 4, 3) := by decide +kernel
theorem dX2_put_42 : decode cX2_put 42 = .ok (.iload_n 2, 1) := by decide +kernel
theorem dX2_put_43 : decode cX2_put 43 = .ok (.iastore, 1) := by decide +kernel
theorem dX2_put_44 : decode cX2_put 44 = .ok (.return_, 1) := by decide +kernel
theorem dX2_hasRun_0 : decode cX2_hasRun 0 = .ok (.iload_n 1, 1) := by decide +kernel
theorem dX2_hasRun_1 : decode cX2_hasRun 1 = .ok (.ifCond .lt 29, 3) := by decide +kernel
theorem dX2_hasRun_4 : decode cX2_hasRun 4 = .ok (.iload_n 2, 1) := by decide +kernel
theorem dX2_hasRun_5 : decode cX2_hasRun 5 = .ok (.ifCond .lt 25, 3) := by decide +kernel
theorem dX2_hasRun_8 : decode cX2_hasRun 8 = .ok (.iload_n 1, 1) := by decide +kernel
theorem dX2_hasRun_9 : decode cX2_hasRun 9 = .ok (.aload_n 0, 1) := by decide +kernel
theorem dX2_hasRun_10 : decode cX2_hasRun 10 = .ok (.getfield 19, 3) := by decide +kernel
theorem dX2_hasRun_13 : decode cX2_hasRun 13 = .ok (.if_icmp .gt 17, 3) := by decide +kernel
theorem dX2_hasRun_16 : decode cX2_hasRun 16 = .ok (.iload_n 2, 1) := by decide +kernel
theorem dX2_hasRun_17 : decode cX2_hasRun 17 = .ok (.aload_n 0, 1) := by decide +kernel
theorem dX2_hasRun_18 : decode cX2_hasRun 18 = .ok (.getfield 19, 3) := by decide +kernel
theorem dX2_hasRun_21 : decode cX2_hasRun 21 = .ok (.iload_n 1, 1) := by decide +kernel
theorem dX2_hasRun_22 : decode cX2_hasRun 22 = .ok (.isub, 1) := by decide +kernel
theorem dX2_hasRun_23 : decode cX2_hasRun 23 = .ok (.if_icmp .gt 7, 3) := by decide +kernel
theorem dX2_hasRun_26 : decode cX2_hasRun 26 = .ok (.iconst 1, 1) := by decide +kernel
theorem dX2_hasRun_27 : decode cX2_hasRun 27 = .ok (.goto 4, 3) := by decide +kernel
theorem dX2_hasRun_30 : decode cX2_hasRun 30 = .ok (.iconst 0, 1) := by decide +kernel
theorem dX2_hasRun_31 : decode cX2_hasRun 31 = .ok (.ireturn, 1) := by decide +kernel
theorem dX3_init_0 : decode cX3_init 0 = .ok (.aload_n 0, 1) := by decide +kernel
theorem dX3_init_1 : decode cX3_init 1 = .ok (.invokespecial 3, 3) := by decide +kernel
theorem dX3_init_4 : decode cX3_init 4 = .ok (.aload_n 0, 1) := by decide +kernel
theorem dX3_init_5 : decode cX3_init 5 = .ok (.iconst 0, 1) := by decide +kernel
theorem dX3_init_6 : decode cX3_init 6 = .ok (.putfield 9, 3) := by decide +kernel
theorem dX3_init_9 : decode cX3_init 9 = .ok (.aload_n 0, 1) := by decide +kernel
theorem dX3_init_10 : decode cX3_init 10 = .ok (.bipush 24, 2) := by decide +kernel
theorem dX3_init_12 : decode cX3_init 12 = .ok (.newarray .int, 2) := by decide +kernel
theorem dX3_init_14 : decode cX3_init 14 = .ok (.putfield 15, 3) := by decide +kernel
theorem dX3_init_17 : decode cX3_init 17 = .ok (.aload_n 0, 1) := by decide +kernel
theorem dX3_init_18 : decode cX3_init 18 = .ok (.bipush 24, 2) := by decide +kernel
theorem dX3_init_20 : decode cX3_init 20 = .ok (.newarray .int, 2) := by decide +kernel
theorem dX3_init_22 : decode cX3_init 22 = .ok (.putfield 19, 3) := by decide +kernel
theorem dX3_init_25 : decode cX3_init 25 = .ok (.return_, 1) := by decide +kernel
theorem dX3_parse_0 : decode cX3_parse 0 = .ok (.aload_n 0, 1) := by decide +kernel
theorem dX3_parse_1 : decode cX3_parse 1 = .ok (.aload_n 1, 1) := by decide +kernel
theorem dX3_parse_2 : decode cX3_parse 2 = .ok (.invokevirtual 22, 3) := by decide +kernel
theorem dX3_parse_5 : decode cX3_parse 5 = .ok (.iconst (-1), 1) := by decide +kernel
theorem dX3_parse_6 : decode cX3_parse 6 = .ok (.if_icmp .ne 15, 3) := by decide +kernel
theorem dX3_parse_9 : decode cX3_parse 9 = .ok (.aload_n 1, 1) := by decide +kernel
theorem dX3_parse_10 : decode cX3_parse 10 = .ok (.getfield 28, 3) := by decide +kernel
theorem dX3_parse_13 : decode cX3_parse 13 = .ok (.bipush 24, 2) := by decide +kernel
theorem dX3_parse_15 : decode cX3_parse 15 = .ok (.invokestatic 29, 3) := by decide +kernel
theorem dX3_parse_18 : decode cX3_parse 18 = .ok (.goto 4, 3) := by decide +kernel
theorem dX3_parse_21 : decode cX3_parse 21 = .ok (.iconst 0, 1) := by decide +kernel
theorem dX3_parse_22 : decode cX3_parse 22 = .ok (.putfield 9, 3) := by decide +kernel
theorem dX3_parse_25 : decode cX3_parse 25 = .ok (.iconst 0, 1) := by decide +kernel
theorem dX3_parse_26 : decode cX3_parse 26 = .ok (.istore_n 2, 1) := by decide +kernel
theorem dX3_parse_27 : decode cX3_parse 27 = .ok (.iconst 0, 1) := by decide +kernel
theorem dX3_parse_28 : decode cX3_parse 28 = .ok (.istore_n 3, 1) := by decide +kernel
theorem dX3_parse_29 : decode cX3_parse 29 = .ok (.iload_n 3, 1) := by decide +kernel
theorem dX3_parse_30 : decode cX3_parse 30 = .ok (.aload_n 0, 1) := by decide +kernel
theorem dX3_parse_31 : decode cX3_parse 31 = .ok (.getfield 9, 3) := by decide +kernel
theorem dX3_parse_34 : decode cX3_parse 34 = .ok (.if_icmp .ge 65, 3) := by decide +kernel
theorem dX3_parse_37 : decode cX3_parse 37 = .ok (.aload_n 0, 1) := by decide +kernel
theorem dX3_parse_38 : decode cX3_parse 38 = .ok (.getfield 15, 3) := by decide +kernel
theorem dX3_parse_41 : decode cX3_parse 41 = .ok (.iload_n 3, 1) := by decide +kernel
theorem dX3_parse_42 : decode cX3_parse 42 = .ok (.aload_n 1, 1) := by decide +kernel
theorem dX3_parse_43 : decode cX3_parse 43 = .ok (.getfield 35, 3) := by decide +kernel
theorem dX3_parse_46 : decode cX3_parse 46 = .ok (.iload_n 3, 1) := by decide +kernel
theorem dX3_parse_47 : decode cX3_parse 47 = .ok (.iaload, 1) := by decide +kernel
theorem dX3_parse_48 : decode cX3_parse 48 = .ok (.invokestatic 38, 3) := by decide +kernel
theorem dX3_parse_51 : decode cX3_parse 51 = .ok (.iastore, 1) := by decide +kernel
theorem dX3_parse_52 : decode cX3_parse 52 = .ok (.aload_n 0, 1) := by decide +kernel
theorem dX3_parse_53 : decode cX3_parse 53 = .ok (.getfield 15, 3) := by decide +kernel
theorem dX3_parse_56 : decode cX3_parse 56 = .ok (.iload_n 3, 1) := by decide +kernel
theorem dX3_parse_57 : decode cX3_parse 57 = .ok (.iaload, 1) := by decide +kernel
theorem dX3_parse_58 : decode cX3_parse 58 = .ok (.iconst 2, 1) := by decide +kernel
theorem dX3_parse_59 : decode cX3_parse 59 = .ok (.if_icmp .ne 7, 3) := by decide +kernel
theorem dX3_parse_62 : decode cX3_parse 62 = .ok (.iconst 0, 1) := by decide +kernel
theorem dX3_parse_63 : decode cX3_parse 63 = .ok (.goto 4, 3) := by decide +kernel
theorem dX3_parse_66 : decode cX3_parse 66 = .ok (.iload_n 2, 1) := by decide +kernel
theorem dX3_parse_67 : decode cX3_parse 67 = .ok (.istore_n 2, 1) := by decide +kernel
theorem dX3_parse_68 : decode cX3_parse 68 = .ok (.aload_n 0, 1) := by decide +kernel
theorem dX3_parse_69 : decode cX3_parse 69 = .ok (.getfield 19, 3) := by decide +kernel
theorem dX3_parse_72 : decode cX3_parse 72 = .ok (.iload_n 3, 1) := by decide +kernel
theorem dX3_parse_73 : decode cX3_parse 73 = .ok (.iload_n 2, 1) := by decide +kernel
theorem dX3_parse_74 : decode cX3_parse 74 = .ok (.iastore, 1) := by decide +kernel
theorem dX3_parse_75 : decode cX3_parse 75 = .ok (.iload_n 2, 1) := by decide +kernel
theorem dX3_parse_76 : decode cX3_parse 76 = .ok (.aload_n 0, 1) := by decide +kernel
theorem dX3_parse_77 : decode cX3_parse 77 = .ok (.getfield 15, 3) := by decide +kernel
theorem dX3_parse_80 : decode cX3_parse 80 = .ok (.iload_n 3, 1) := by decide +kernel
theorem dX3_parse_81 : decode cX3_parse 81 = .ok (.iaload, 1) := by decide +kernel
theorem dX3_parse_82 : decode cX3_parse 82 = .ok (.iconst 1, 1) := by decide +kernel
theorem dX3_parse_83 : decode cX3_parse 83 = .ok (.if_icmp .ne 7, 3) := by decide +kernel
theorem dX3_parse_86 : decode cX3_parse 86 = .ok (.iconst 1, 1) := by decide +kernel
theorem dX3_parse_87 : decode cX3_parse 87 = .ok (.goto 4, 3) := by decide +kernel
theorem dX3_parse_90 : decode cX3_parse 90 = .ok (.iconst 0, 1) := by decide +kernel
theorem dX3_parse_91 : decode cX3_parse 91 = .ok (.iadd, 1) := by decide +kernel
theorem dX3_parse_92 : decode cX3_parse 92 = .ok (.istore_n 2, 1) := by decide +kernel
theorem dX3_parse_93 : decode cX3_parse 93 = .ok (.iinc 3 1, 3) := by decide +kernel
theorem dX3_parse_96 : decode cX3_parse 96 = .ok (.goto (-67), 3) := by decide +kernel
theorem dX3_parse_99 : decode cX3_parse 99 = .ok (.return_, 1) := by decide +kernel
theorem dX3_kindOf_0 : decode cX3_kindOf 0 = .ok (.iload_n 0, 1) := by decide +kernel
theorem dX3_kindOf_1 : decode cX3_kindOf 1 = .ok (.lookupswitch 31 #[(101, 29), (114, 27)], 27) := by decide +kernel
theorem dX3_kindOf_28 : decode cX3_kindOf 28 = .ok (.iconst 1, 1) := by decide +kernel
theorem dX3_kindOf_29 : decode cX3_kindOf 29 = .ok (.ireturn, 1) := by decide +kernel
theorem dX3_kindOf_30 : decode cX3_kindOf 30 = .ok (.iconst 2, 1) := by decide +kernel
theorem dX3_kindOf_31 : decode cX3_kindOf 31 = .ok (.ireturn, 1) := by decide +kernel
theorem dX3_kindOf_32 : decode cX3_kindOf 32 = .ok (.iconst 0, 1) := by decide +kernel
theorem dX3_kindOf_33 : decode cX3_kindOf 33 = .ok (.ireturn, 1) := by decide +kernel
theorem dX3_howManyRests_0 : decode cX3_howManyRests 0 = .ok (.iconst 0, 1) := by decide +kernel
theorem dX3_howManyRests_1 : decode cX3_howManyRests 1 = .ok (.istore_n 1, 1) := by decide +kernel
theorem dX3_howManyRests_2 : decode cX3_howManyRests 2 = .ok (.iconst 0, 1) := by decide +kernel
theorem dX3_howManyRests_3 : decode cX3_howManyRests 3 = .ok (.istore_n 2, 1) := by decide +kernel
theorem dX3_howManyRests_4 : decode cX3_howManyRests 4 = .ok (.iload_n 2, 1) := by decide +kernel
theorem dX3_howManyRests_5 : decode cX3_howManyRests 5 = .ok (.aload_n 0, 1) := by decide +kernel
theorem dX3_howManyRests_6 : decode cX3_howManyRests 6 = .ok (.getfield 9, 3) := by decide +kernel
theorem dX3_howManyRests_9 : decode cX3_howManyRests 9 = .ok (.if_icmp .ge 27, 3) := by decide +kernel
theorem dX3_howManyRests_12 : decode cX3_howManyRests 12 = .ok (.iload_n 1, 1) := by decide +kernel
theorem dX3_howManyRests_13 : decode cX3_howManyRests 13 = .ok (.aload_n 0, 1) := by decide +kernel
theorem dX3_howManyRests_14 : decode cX3_howManyRests 14 = .ok (.getfield 15, 3) := by decide +kernel
theorem dX3_howManyRests_17 : decode cX3_howManyRests 17 = .ok (.iload_n 2, 1) := by decide +kernel
theorem dX3_howManyRests_18 : decode cX3_howManyRests 18 = .ok (.iaload, 1) := by decide +kernel
theorem dX3_howManyRests_19 : decode cX3_howManyRests 19 = .ok (.iconst 1, 1) := by decide +kernel
theorem dX3_howManyRests_20 : decode cX3_howManyRests 20 = .ok (.if_icmp .ne 7, 3) := by decide +kernel
theorem dX3_howManyRests_23 : decode cX3_howManyRests 23 = .ok (.iconst 1, 1) := by decide +kernel
theorem dX3_howManyRests_24 : decode cX3_howManyRests 24 = .ok (.goto 4, 3) := by decide +kernel
theorem dX3_howManyRests_27 : decode cX3_howManyRests 27 = .ok (.iconst 0, 1) := by decide +kernel
theorem dX3_howManyRests_28 : decode cX3_howManyRests 28 = .ok (.iadd, 1) := by decide +kernel
theorem dX3_howManyRests_29 : decode cX3_howManyRests 29 = .ok (.istore_n 1, 1) := by decide +kernel
theorem dX3_howManyRests_30 : decode cX3_howManyRests 30 = .ok (.iinc 2 1, 3) := by decide +kernel
theorem dX3_howManyRests_33 : decode cX3_howManyRests 33 = .ok (.goto (-29), 3) := by decide +kernel
theorem dX3_howManyRests_36 : decode cX3_howManyRests 36 = .ok (.iload_n 1, 1) := by decide +kernel
theorem dX3_howManyRests_37 : decode cX3_howManyRests 37 = .ok (.ireturn, 1) := by decide +kernel
theorem dX4_init_0 : decode cX4_init 0 = .ok (.aload_n 0, 1) := by decide +kernel
theorem dX4_init_1 : decode cX4_init 1 = .ok (.invokespecial 3, 3) := by decide +kernel
theorem dX4_init_4 : decode cX4_init 4 = .ok (.aload_n 0, 1) := by decide +kernel
theorem dX4_init_5 : decode cX4_init 5 = .ok (.bipush 39, 2) := by decide +kernel
theorem dX4_init_7 : decode cX4_init 7 = .ok (.newarray .int, 2) := by decide +kernel
theorem dX4_init_9 : decode cX4_init 9 = .ok (.putfield 9, 3) := by decide +kernel
theorem dX4_init_12 : decode cX4_init 12 = .ok (.aload_n 0, 1) := by decide +kernel
theorem dX4_init_13 : decode cX4_init 13 = .ok (.iconst 0, 1) := by decide +kernel
theorem dX4_init_14 : decode cX4_init 14 = .ok (.putfield 15, 3) := by decide +kernel
theorem dX4_init_17 : decode cX4_init 17 = .ok (.aload_n 0, 1) := by decide +kernel
theorem dX4_init_18 : decode cX4_init 18 = .ok (.iload_n 1, 1) := by decide +kernel
theorem dX4_init_19 : decode cX4_init 19 = .ok (.bipush 39, 2) := by decide +kernel
theorem dX4_init_21 : decode cX4_init 21 = .ok (.invokestatic 19, 3) := by decide +kernel
theorem dX4_init_24 : decode cX4_init 24 = .ok (.putfield 25, 3) := by decide +kernel
theorem dX4_init_27 : decode cX4_init 27 = .ok (.return_, 1) := by decide +kernel
theorem dX4_isFull_0 : decode cX4_isFull 0 = .ok (.aload_n 0, 1) := by decide +kernel
theorem dX4_isFull_1 : decode cX4_isFull 1 = .ok (.getfield 15, 3) := by decide +kernel
theorem dX4_isFull_4 : decode cX4_isFull 4 = .ok (.aload_n 0, 1) := by decide +kernel
theorem dX4_isFull_5 : decode cX4_isFull 5 = .ok (.getfield 25, 3) := by decide +kernel
theorem dX4_isFull_8 : decode cX4_isFull 8 = .ok (.if_icmp .lt 7, 3) := by decide +kernel
theorem dX4_isFull_11 : decode cX4_isFull 11 = .ok (.iconst 1, 1) := by decide +kernel
theorem dX4_isFull_12 : decode cX4_isFull 12 = .ok (.goto 4, 3) := by decide +kernel
theorem dX4_isFull_15 : decode cX4_isFull 15 = .ok (.iconst 0, 1) := by decide +kernel
theorem dX4_isFull_16 : decode cX4_isFull 16 = .ok (.ireturn, 1) := by decide +kernel
theorem dX4_append_0 : decode cX4_append 0 = .ok (.aload_n 0, 1) := by decide +kernel
theorem dX4_append_1 : decode cX4_append 1 = .ok (.invokevirtual 28, 3) := by decide +kernel
theorem dX4_append_4 : decode cX4_append 4 = .ok (.ifCond .ne 23, 3) := by decide +kernel
theorem dX4_append_7 : decode cX4_append 7 = .ok (.aload_n 0, 1) := by decide +kernel
theorem dX4_append_8 : decode cX4_append 8 = .ok (.getfield 9, 3) := by decide +kernel
theorem dX4_append_11 : decode cX4_append 11 = .ok (.aload_n 0, 1) := by decide +kernel
theorem dX4_append_12 : decode cX4_append 12 = .ok (.getfield 15, 3) := by decide +kernel
theorem dX4_append_15 : decode cX4_append 15 = .ok (.iload_n 1, 1) := by decide +kernel
theorem dX4_append_16 : decode cX4_append 16 = .ok (.iastore, 1) := by decide +kernel
theorem dX4_append_17 : decode cX4_append 17 = .ok (.aload_n 0, 1) := by decide +kernel
theorem dX4_append_18 : decode cX4_append 18 = .ok (.dup, 1) := by decide +kernel
theorem dX4_append_19 : decode cX4_append 19 = .ok (.getfield 15, 3) := by decide +kernel
theorem dX4_append_22 : decode cX4_append 22 = .ok (.iconst 1, 1) := by decide +kernel
theorem dX4_append_23 : decode cX4_append 23 = .ok (.iadd, 1) := by decide +kernel
theorem dX4_append_24 : decode cX4_append 24 = .ok (.putfield 15, 3) := by decide +kernel
theorem dX4_append_27 : decode cX4_append 27 = .ok (.return_, 1) := by decide +kernel
theorem dX4_shorten_0 : decode cX4_shorten 0 = .ok (.aload_n 0, 1) := by decide +kernel
theorem dX4_shorten_1 : decode cX4_shorten 1 = .ok (.iconst 0, 1) := by decide +kernel
theorem dX4_shorten_2 : decode cX4_shorten 2 = .ok (.iload_n 1, 1) := by decide +kernel
theorem dX4_shorten_3 : decode cX4_shorten 3 = .ok (.aload_n 0, 1) := by decide +kernel
theorem dX4_shorten_4 : decode cX4_shorten 4 = .ok (.getfield 15, 3) := by decide +kernel
theorem dX4_shorten_7 : decode cX4_shorten 7 = .ok (.invokestatic 19, 3) := by decide +kernel
theorem dX4_shorten_10 : decode cX4_shorten 10 = .ok (.invokestatic 32, 3) := by decide +kernel
theorem dX4_shorten_13 : decode cX4_shorten 13 = .ok (.putfield 15, 3) := by decide +kernel
theorem dX4_shorten_16 : decode cX4_shorten 16 = .ok (.return_, 1) := by decide +kernel
theorem dX4_faultOfSingers_0 : decode cX4_faultOfSingers 0 = .ok (.iconst 0, 1) := by decide +kernel
theorem dX4_faultOfSingers_1 : decode cX4_faultOfSingers 1 = .ok (.istore_n 1, 1) := by decide +kernel
theorem dX4_faultOfSingers_2 : decode cX4_faultOfSingers 2 = .ok (.iload_n 1, 1) := by decide +kernel
theorem dX4_faultOfSingers_3 : decode cX4_faultOfSingers 3 = .ok (.aload_n 0, 1) := by decide +kernel
theorem dX4_faultOfSingers_4 : decode cX4_faultOfSingers 4 = .ok (.getfield 15, 3) := by decide +kernel
theorem dX4_faultOfSingers_7 : decode cX4_faultOfSingers 7 = .ok (.if_icmp .ge 26, 3) := by decide +kernel
theorem dX4_faultOfSingers_10 : decode cX4_faultOfSingers 10 = .ok (.iload_n 1, 1) := by decide +kernel
theorem dX4_faultOfSingers_11 : decode cX4_faultOfSingers 11 = .ok (.iconst 5, 1) := by decide +kernel
theorem dX4_faultOfSingers_12 : decode cX4_faultOfSingers 12 = .ok (.irem, 1) := by decide +kernel
theorem dX4_faultOfSingers_13 : decode cX4_faultOfSingers 13 = .ok (.aload_n 0, 1) := by decide +kernel
theorem dX4_faultOfSingers_14 : decode cX4_faultOfSingers 14 = .ok (.getfield 9, 3) := by decide +kernel
theorem dX4_faultOfSingers_17 : decode cX4_faultOfSingers 17 = .ok (.iload_n 1, 1) := by decide +kernel
theorem dX4_faultOfSingers_18 : decode cX4_faultOfSingers 18 = .ok (.iaload, 1) := by decide +kernel
theorem dX4_faultOfSingers_19 : decode cX4_faultOfSingers 19 = .ok (.invokestatic 35, 3) := by decide +kernel
theorem dX4_faultOfSingers_22 : decode cX4_faultOfSingers 22 = .ok (.ifCond .ne 5, 3) := by decide +kernel
theorem dX4_faultOfSingers_25 : decode cX4_faultOfSingers 25 = .ok (.iload_n 1, 1) := by decide +kernel
theorem dX4_faultOfSingers_26 : decode cX4_faultOfSingers 26 = .ok (.ireturn, 1) := by decide +kernel
theorem dX4_faultOfSingers_27 : decode cX4_faultOfSingers 27 = .ok (.iinc 1 1, 3) := by decide +kernel
theorem dX4_faultOfSingers_30 : decode cX4_faultOfSingers 30 = .ok (.goto (-28), 3) := by decide +kernel
theorem dX4_faultOfSingers_33 : decode cX4_faultOfSingers 33 = .ok (.aload_n 0, 1) := by decide +kernel
theorem dX4_faultOfSingers_34 : decode cX4_faultOfSingers 34 = .ok (.getfield 15, 3) := by decide +kernel
theorem dX4_faultOfSingers_37 : decode cX4_faultOfSingers 37 = .ok (.ifCond .eq 13, 3) := by decide +kernel
theorem dX4_faultOfSingers_40 : decode cX4_faultOfSingers 40 = .ok (.aload_n 0, 1) := by decide +kernel
theorem dX4_faultOfSingers_41 : decode cX4_faultOfSingers 41 = .ok (.getfield 15, 3) := by decide +kernel
theorem dX4_faultOfSingers_44 : decode cX4_faultOfSingers 44 = .ok (.iconst 5, 1) := by decide +kernel
theorem dX4_faultOfSingers_45 : decode cX4_faultOfSingers 45 = .ok (.irem, 1) := by decide +kernel
theorem dX4_faultOfSingers_46 : decode cX4_faultOfSingers 46 = .ok (.iconst 4, 1) := by decide +kernel
theorem dX4_faultOfSingers_47 : decode cX4_faultOfSingers 47 = .ok (.if_icmp .ne 7, 3) := by decide +kernel
theorem dX4_faultOfSingers_50 : decode cX4_faultOfSingers 50 = .ok (.iconst (-1), 1) := by decide +kernel
theorem dX4_faultOfSingers_51 : decode cX4_faultOfSingers 51 = .ok (.goto 7, 3) := by decide +kernel
theorem dX4_faultOfSingers_54 : decode cX4_faultOfSingers 54 = .ok (.aload_n 0, 1) := by decide +kernel
theorem dX4_faultOfSingers_55 : decode cX4_faultOfSingers 55 = .ok (.getfield 15, 3) := by decide +kernel
theorem dX4_faultOfSingers_58 : decode cX4_faultOfSingers 58 = .ok (.ireturn, 1) := by decide +kernel
theorem dX4_faultOfSong_0 : decode cX4_faultOfSong 0 = .ok (.iconst 0, 1) := by decide +kernel
theorem dX4_faultOfSong_1 : decode cX4_faultOfSong 1 = .ok (.istore_n 1, 1) := by decide +kernel
theorem dX4_faultOfSong_2 : decode cX4_faultOfSong 2 = .ok (.iload_n 1, 1) := by decide +kernel
theorem dX4_faultOfSong_3 : decode cX4_faultOfSong 3 = .ok (.aload_n 0, 1) := by decide +kernel
theorem dX4_faultOfSong_4 : decode cX4_faultOfSong 4 = .ok (.getfield 15, 3) := by decide +kernel
theorem dX4_faultOfSong_7 : decode cX4_faultOfSong 7 = .ok (.if_icmp .ge 44, 3) := by decide +kernel
theorem dX4_faultOfSong_10 : decode cX4_faultOfSong 10 = .ok (.aload_n 0, 1) := by decide +kernel
theorem dX4_faultOfSong_11 : decode cX4_faultOfSong 11 = .ok (.getfield 9, 3) := by decide +kernel
theorem dX4_faultOfSong_14 : decode cX4_faultOfSong 14 = .ok (.iload_n 1, 1) := by decide +kernel
theorem dX4_faultOfSong_15 : decode cX4_faultOfSong 15 = .ok (.iaload, 1) := by decide +kernel
theorem dX4_faultOfSong_16 : decode cX4_faultOfSong 16 = .ok (.bipush 115, 2) := by decide +kernel
theorem dX4_faultOfSong_18 : decode cX4_faultOfSong 18 = .ok (.if_icmp .eq 27, 3) := by decide +kernel
theorem dX4_faultOfSong_21 : decode cX4_faultOfSong 21 = .ok (.aload_n 0, 1) := by decide +kernel
theorem dX4_faultOfSong_22 : decode cX4_faultOfSong 22 = .ok (.getfield 9, 3) := by decide +kernel
theorem dX4_faultOfSong_25 : decode cX4_faultOfSong 25 = .ok (.iload_n 1, 1) := by decide +kernel
theorem dX4_faultOfSong_26 : decode cX4_faultOfSong 26 = .ok (.iaload, 1) := by decide +kernel
theorem dX4_faultOfSong_27 : decode cX4_faultOfSong 27 = .ok (.bipush 114, 2) := by decide +kernel
theorem dX4_faultOfSong_29 : decode cX4_faultOfSong 29 = .ok (.if_icmp .eq 16, 3) := by decide +kernel
theorem dX4_faultOfSong_32 : decode cX4_faultOfSong 32 = .ok (.aload_n 0, 1) := by decide +kernel
theorem dX4_faultOfSong_33 : decode cX4_faultOfSong 33 = .ok (.getfield 9, 3) := by decide +kernel
theorem dX4_faultOfSong_36 : decode cX4_faultOfSong 36 = .ok (.iload_n 1, 1) := by decide +kernel
theorem dX4_faultOfSong_37 : decode cX4_faultOfSong 37 = .ok (.iaload, 1) := by decide +kernel
theorem dX4_faultOfSong_38 : decode cX4_faultOfSong 38 = .ok (.bipush 101, 2) := by decide +kernel
theorem dX4_faultOfSong_40 : decode cX4_faultOfSong 40 = .ok (.if_icmp .eq 5, 3) := by decide +kernel
theorem dX4_faultOfSong_43 : decode cX4_faultOfSong 43 = .ok (.iload_n 1, 1) := by decide +kernel
theorem dX4_faultOfSong_44 : decode cX4_faultOfSong 44 = .ok (.ireturn, 1) := by decide +kernel
theorem dX4_faultOfSong_45 : decode cX4_faultOfSong 45 = .ok (.iinc 1 1, 3) := by decide +kernel
theorem dX4_faultOfSong_48 : decode cX4_faultOfSong 48 = .ok (.goto (-46), 3) := by decide +kernel
theorem dX4_faultOfSong_51 : decode cX4_faultOfSong 51 = .ok (.iconst (-1), 1) := by decide +kernel
theorem dX4_faultOfSong_52 : decode cX4_faultOfSong 52 = .ok (.ireturn, 1) := by decide +kernel
theorem dX4_fitsSinger_0 : decode cX4_fitsSinger 0 = .ok (.iload_n 0, 1) := by decide +kernel
theorem dX4_fitsSinger_1 : decode cX4_fitsSinger 1 = .ok (.lookupswitch 57 #[(3, 27), (4, 45)], 27) := by decide +kernel
theorem dX4_fitsSinger_28 : decode cX4_fitsSinger 28 = .ok (.iload_n 1, 1) := by decide +kernel
theorem dX4_fitsSinger_29 : decode cX4_fitsSinger 29 = .ok (.bipush 104, 2) := by decide +kernel
theorem dX4_fitsSinger_31 : decode cX4_fitsSinger 31 = .ok (.if_icmp .eq 9, 3) := by decide +kernel
theorem dX4_fitsSinger_34 : decode cX4_fitsSinger 34 = .ok (.iload_n 1, 1) := by decide +kernel
theorem dX4_fitsSinger_35 : decode cX4_fitsSinger 35 = .ok (.bipush 110, 2) := by decide +kernel
theorem dX4_fitsSinger_37 : decode cX4_fitsSinger 37 = .ok (.if_icmp .ne 7, 3) := by decide +kernel
theorem dX4_fitsSinger_40 : decode cX4_fitsSinger 40 = .ok (.iconst 1, 1) := by decide +kernel
theorem dX4_fitsSinger_41 : decode cX4_fitsSinger 41 = .ok (.goto 4, 3) := by decide +kernel
theorem dX4_fitsSinger_44 : decode cX4_fitsSinger 44 = .ok (.iconst 0, 1) := by decide +kernel
theorem dX4_fitsSinger_45 : decode cX4_fitsSinger 45 = .ok (.ireturn, 1) := by decide +kernel
theorem dX4_fitsSinger_46 : decode cX4_fitsSinger 46 = .ok (.iload_n 1, 1) := by decide +kernel
theorem dX4_fitsSinger_47 : decode cX4_fitsSinger 47 = .ok (.bipush 59, 2) := by decide +kernel
theorem dX4_fitsSinger_49 : decode cX4_fitsSinger 49 = .ok (.if_icmp .ne 7, 3) := by decide +kernel
theorem dX4_fitsSinger_52 : decode cX4_fitsSinger 52 = .ok (.iconst 1, 1) := by decide +kernel
theorem dX4_fitsSinger_53 : decode cX4_fitsSinger 53 = .ok (.goto 4, 3) := by decide +kernel
theorem dX4_fitsSinger_56 : decode cX4_fitsSinger 56 = .ok (.iconst 0, 1) := by decide +kernel
theorem dX4_fitsSinger_57 : decode cX4_fitsSinger 57 = .ok (.ireturn, 1) := by decide +kernel
theorem dX4_fitsSinger_58 : decode cX4_fitsSinger 58 = .ok (.iload_n 1, 1) := by decide +kernel
theorem dX4_fitsSinger_59 : decode cX4_fitsSinger 59 = .ok (.bipush 48, 2) := by decide +kernel
theorem dX4_fitsSinger_61 : decode cX4_fitsSinger 61 = .ok (.if_icmp .lt 13, 3) := by decide +kernel
theorem dX4_fitsSinger_64 : decode cX4_fitsSinger 64 = .ok (.iload_n 1, 1) := by decide +kernel
theorem dX4_fitsSinger_65 : decode cX4_fitsSinger 65 = .ok (.bipush 57, 2) := by decide +kernel
theorem dX4_fitsSinger_67 : decode cX4_fitsSinger 67 = .ok (.if_icmp .gt 7, 3) := by decide +kernel
theorem dX4_fitsSinger_70 : decode cX4_fitsSinger 70 = .ok (.iconst 1, 1) := by decide +kernel
theorem dX4_fitsSinger_71 : decode cX4_fitsSinger 71 = .ok (.goto 4, 3) := by decide +kernel
theorem dX4_fitsSinger_74 : decode cX4_fitsSinger 74 = .ok (.iconst 0, 1) := by decide +kernel
theorem dX4_fitsSinger_75 : decode cX4_fitsSinger 75 = .ok (.ireturn, 1) := by decide +kernel
theorem dX5_init_0 : decode cX5_init 0 = .ok (.aload_n 0, 1) := by decide +kernel
theorem dX5_init_1 : decode cX5_init 1 = .ok (.invokespecial 1, 3) := by decide +kernel
theorem dX5_init_4 : decode cX5_init 4 = .ok (.aload_n 0, 1) := by decide +kernel
theorem dX5_init_5 : decode cX5_init 5 = .ok (.bipush 40, 2) := by decide +kernel
theorem dX5_init_7 : decode cX5_init 7 = .ok (.putfield 7, 3) := by decide +kernel
theorem dX5_init_10 : decode cX5_init 10 = .ok (.aload_n 0, 1) := by decide +kernel
theorem dX5_init_11 : decode cX5_init 11 = .ok (.iconst 0, 1) := by decide +kernel
theorem dX5_init_12 : decode cX5_init 12 = .ok (.putfield 13, 3) := by decide +kernel
theorem dX5_init_15 : decode cX5_init 15 = .ok (.aload_n 0, 1) := by decide +kernel
theorem dX5_init_16 : decode cX5_init 16 = .ok (.bipush 9, 2) := by decide +kernel
theorem dX5_init_18 : decode cX5_init 18 = .ok (.putfield 16, 3) := by decide +kernel
theorem dX5_init_21 : decode cX5_init 21 = .ok (.aload_n 0, 1) := by decide +kernel
theorem dX5_init_22 : decode cX5_init 22 = .ok (.bipush 10, 2) := by decide +kernel
theorem dX5_init_24 : decode cX5_init 24 = .ok (.putfield 19, 3) := by decide +kernel
theorem dX5_init_27 : decode cX5_init 27 = .ok (.return_, 1) := by decide +kernel
theorem dX5_pitchAt_0 : decode cX5_pitchAt 0 = .ok (.sipush 1000, 3) := by decide +kernel
theorem dX5_pitchAt_3 : decode cX5_pitchAt 3 = .ok (.aload_n 0, 1) := by decide +kernel
theorem dX5_pitchAt_4 : decode cX5_pitchAt 4 = .ok (.getfield 7, 3) := by decide +kernel
theorem dX5_pitchAt_7 : decode cX5_pitchAt 7 = .ok (.iadd, 1) := by decide +kernel
theorem dX5_pitchAt_8 : decode cX5_pitchAt 8 = .ok (.aload_n 0, 1) := by decide +kernel
theorem dX5_pitchAt_9 : decode cX5_pitchAt 9 = .ok (.getfield 7, 3) := by decide +kernel
theorem dX5_pitchAt_12 : decode cX5_pitchAt 12 = .ok (.iload_n 1, 1) := by decide +kernel
theorem dX5_pitchAt_13 : decode cX5_pitchAt 13 = .ok (.aload_n 0, 1) := by decide +kernel
theorem dX5_pitchAt_14 : decode cX5_pitchAt 14 = .ok (.getfield 13, 3) := by decide +kernel
theorem dX5_pitchAt_17 : decode cX5_pitchAt 17 = .ok (.iadd, 1) := by decide +kernel
theorem dX5_pitchAt_18 : decode cX5_pitchAt 18 = .ok (.imul, 1) := by decide +kernel
theorem dX5_pitchAt_19 : decode cX5_pitchAt 19 = .ok (.iconst 4, 1) := by decide +kernel
theorem dX5_pitchAt_20 : decode cX5_pitchAt 20 = .ok (.idiv, 1) := by decide +kernel
theorem dX5_pitchAt_21 : decode cX5_pitchAt 21 = .ok (.isub, 1) := by decide +kernel
theorem dX5_pitchAt_22 : decode cX5_pitchAt 22 = .ok (.bipush 9, 2) := by decide +kernel
theorem dX5_pitchAt_24 : decode cX5_pitchAt 24 = .ok (.isub, 1) := by decide +kernel
theorem dX5_pitchAt_25 : decode cX5_pitchAt 25 = .ok (.aload_n 0, 1) := by decide +kernel
theorem dX5_pitchAt_26 : decode cX5_pitchAt 26 = .ok (.getfield 16, 3) := by decide +kernel
theorem dX5_pitchAt_29 : decode cX5_pitchAt 29 = .ok (.iadd, 1) := by decide +kernel
theorem dX5_pitchAt_30 : decode cX5_pitchAt 30 = .ok (.ireturn, 1) := by decide +kernel
theorem dX5_become_0 : decode cX5_become 0 = .ok (.aload_n 0, 1) := by decide +kernel
theorem dX5_become_1 : decode cX5_become 1 = .ok (.aload_n 1, 1) := by decide +kernel
theorem dX5_become_2 : decode cX5_become 2 = .ok (.getfield 7, 3) := by decide +kernel
theorem dX5_become_5 : decode cX5_become 5 = .ok (.putfield 7, 3) := by decide +kernel
theorem dX5_become_8 : decode cX5_become 8 = .ok (.aload_n 0, 1) := by decide +kernel
theorem dX5_become_9 : decode cX5_become 9 = .ok (.aload_n 1, 1) := by decide +kernel
theorem dX5_become_10 : decode cX5_become 10 = .ok (.getfield 13, 3) := by decide +kernel
theorem dX5_become_13 : decode cX5_become 13 = .ok (.putfield 13, 3) := by decide +kernel
theorem dX5_become_16 : decode cX5_become 16 = .ok (.aload_n 0, 1) := by decide +kernel
theorem dX5_become_17 : decode cX5_become 17 = .ok (.aload_n 1, 1) := by decide +kernel
theorem dX5_become_18 : decode cX5_become 18 = .ok (.getfield 16, 3) := by decide +kernel
theorem dX5_become_21 : decode cX5_become 21 = .ok (.putfield 16, 3) := by decide +kernel
theorem dX5_become_24 : decode cX5_become 24 = .ok (.aload_n 0, 1) := by decide +kernel
theorem dX5_become_25 : decode cX5_become 25 = .ok (.aload_n 1, 1) := by decide +kernel
theorem dX5_become_26 : decode cX5_become 26 = .ok (.getfield 19, 3) := by decide +kernel
theorem dX5_become_29 : decode cX5_become 29 = .ok (.putfield 19, 3) := by decide +kernel
theorem dX5_become_32 : decode cX5_become 32 = .ok (.return_, 1) := by decide +kernel
theorem dX5_change_0 : decode cX5_change 0 = .ok (.iload_n 1, 1) := by decide +kernel
theorem dX5_change_1 : decode cX5_change 1 = .ok (.tableswitch 66 0 2 #[27, 40, 53], 27) := by decide +kernel
theorem dX5_change_28 : decode cX5_change 28 = .ok (.aload_n 0, 1) := by decide +kernel
theorem dX5_change_29 : decode cX5_change 29 = .ok (.getfield 7, 3) := by decide +kernel
theorem dX5_change_32 : decode cX5_change 32 = .ok (.istore_n 3, 1) := by decide +kernel
theorem dX5_change_33 : decode cX5_change 33 = .ok (.aload_n 0, 1) := by decide +kernel
theorem dX5_change_34 : decode cX5_change 34 = .ok (.iload_n 2, 1) := by decide +kernel
theorem dX5_change_35 : decode cX5_change 35 = .ok (.putfield 7, 3) := by decide +kernel
theorem dX5_change_38 : decode cX5_change 38 = .ok (.goto 39, 3) := by decide +kernel
theorem dX5_change_41 : decode cX5_change 41 = .ok (.aload_n 0, 1) := by decide +kernel
theorem dX5_change_42 : decode cX5_change 42 = .ok (.getfield 13, 3) := by decide +kernel
theorem dX5_change_45 : decode cX5_change 45 = .ok (.istore_n 3, 1) := by decide +kernel
theorem dX5_change_46 : decode cX5_change 46 = .ok (.aload_n 0, 1) := by decide +kernel
theorem dX5_change_47 : decode cX5_change 47 = .ok (.iload_n 2, 1) := by decide +kernel
theorem dX5_change_48 : decode cX5_change 48 = .ok (.putfield 13, 3) := by decide +kernel
theorem dX5_change_51 : decode cX5_change 51 = .ok (.goto 26, 3) := by decide +kernel
theorem dX5_change_54 : decode cX5_change 54 = .ok (.aload_n 0, 1) := by decide +kernel
theorem dX5_change_55 : decode cX5_change 55 = .ok (.getfield 16, 3) := by decide +kernel
theorem dX5_change_58 : decode cX5_change 58 = .ok (.istore_n 3, 1) := by decide +kernel
theorem dX5_change_59 : decode cX5_change 59 = .ok (.aload_n 0, 1) := by decide +kernel
theorem dX5_change_60 : decode cX5_change 60 = .ok (.iload_n 2, 1) := by decide +kernel
theorem dX5_change_61 : decode cX5_change 61 = .ok (.putfield 16, 3) := by decide +kernel
theorem dX5_change_64 : decode cX5_change 64 = .ok (.goto 13, 3) := by decide +kernel
theorem dX5_change_67 : decode cX5_change 67 = .ok (.aload_n 0, 1) := by decide +kernel
theorem dX5_change_68 : decode cX5_change 68 = .ok (.getfield 19, 3) := by decide +kernel
theorem dX5_change_71 : decode cX5_change 71 = .ok (.istore_n 3, 1) := by decide +kernel
theorem dX5_change_72 : decode cX5_change 72 = .ok (.aload_n 0, 1) := by decide +kernel
theorem dX5_change_73 : decode cX5_change 73 = .ok (.iload_n 2, 1) := by decide +kernel
theorem dX5_change_74 : decode cX5_change 74 = .ok (.putfield 19, 3) := by decide +kernel
theorem dX5_change_77 : decode cX5_change 77 = .ok (.iload_n 3, 1) := by decide +kernel
theorem dX5_change_78 : decode cX5_change 78 = .ok (.ireturn, 1) := by decide +kernel
theorem dX6_init_0 : decode cX6_init 0 = .ok (.aload_n 0, 1) := by decide +kernel
theorem dX6_init_1 : decode cX6_init 1 = .ok (.invokespecial 1, 3) := by decide +kernel
theorem dX6_init_4 : decode cX6_init 4 = .ok (.aload_n 0, 1) := by decide +kernel
theorem dX6_init_5 : decode cX6_init 5 = .ok (.new 7, 3) := by decide +kernel
theorem dX6_init_8 : decode cX6_init 8 = .ok (.dup, 1) := by decide +kernel
theorem dX6_init_9 : decode cX6_init 9 = .ok (.bipush 39, 2) := by decide +kernel
theorem dX6_init_11 : decode cX6_init 11 = .ok (.invokespecial 11, 3) := by decide +kernel
theorem dX6_init_14 : decode cX6_init 14 = .ok (.putfield 14, 3) := by decide +kernel
theorem dX6_init_17 : decode cX6_init 17 = .ok (.aload_n 0, 1) := by decide +kernel
theorem dX6_init_18 : decode cX6_init 18 = .ok (.new 7, 3) := by decide +kernel
theorem dX6_init_21 : decode cX6_init 21 = .ok (.dup, 1) := by decide +kernel
theorem dX6_init_22 : decode cX6_init 22 = .ok (.bipush 24, 2) := by decide +kernel
theorem dX6_init_24 : decode cX6_init 24 = .ok (.invokespecial 11, 3) := by decide +kernel
theorem dX6_init_27 : decode cX6_init 27 = .ok (.putfield 18, 3) := by decide +kernel
theorem dX6_init_30 : decode cX6_init 30 = .ok (.aload_n 0, 1) := by decide +kernel
theorem dX6_init_31 : decode cX6_init 31 = .ok (.new 21, 3) := by decide +kernel
theorem dX6_init_34 : decode cX6_init 34 = .ok (.dup, 1) := by decide +kernel
theorem dX6_init_35 : decode cX6_init 35 = .ok (.invokespecial 23, 3) := by decide +kernel
theorem dX6_init_38 : decode cX6_init 38 = .ok (.putfield 24, 3) := by decide +kernel
theorem dX6_init_41 : decode cX6_init 41 = .ok (.aload_n 0, 1) := by decide +kernel
theorem dX6_init_42 : decode cX6_init 42 = .ok (.new 21, 3) := by decide +kernel
theorem dX6_init_45 : decode cX6_init 45 = .ok (.dup, 1) := by decide +kernel
theorem dX6_init_46 : decode cX6_init 46 = .ok (.invokespecial 23, 3) := by decide +kernel
theorem dX6_init_49 : decode cX6_init 49 = .ok (.putfield 28, 3) := by decide +kernel
theorem dX6_init_52 : decode cX6_init 52 = .ok (.aload_n 0, 1) := by decide +kernel
theorem dX6_init_53 : decode cX6_init 53 = .ok (.new 31, 3) := by decide +kernel
theorem dX6_init_56 : decode cX6_init 56 = .ok (.dup, 1) := by decide +kernel
theorem dX6_init_57 : decode cX6_init 57 = .ok (.invokespecial 33, 3) := by decide +kernel
theorem dX6_init_60 : decode cX6_init 60 = .ok (.putfield 34, 3) := by decide +kernel
theorem dX6_init_63 : decode cX6_init 63 = .ok (.aload_n 0, 1) := by decide +kernel
theorem dX6_init_64 : decode cX6_init 64 = .ok (.new 38, 3) := by decide +kernel
theorem dX6_init_67 : decode cX6_init 67 = .ok (.dup, 1) := by decide +kernel
theorem dX6_init_68 : decode cX6_init 68 = .ok (.invokespecial 40, 3) := by decide +kernel
theorem dX6_init_71 : decode cX6_init 71 = .ok (.putfield 41, 3) := by decide +kernel
theorem dX6_init_74 : decode cX6_init 74 = .ok (.aload_n 0, 1) := by decide +kernel
theorem dX6_init_75 : decode cX6_init 75 = .ok (.new 38, 3) := by decide +kernel
theorem dX6_init_78 : decode cX6_init 78 = .ok (.dup, 1) := by decide +kernel
theorem dX6_init_79 : decode cX6_init 79 = .ok (.invokespecial 40, 3) := by decide +kernel
theorem dX6_init_82 : decode cX6_init 82 = .ok (.putfield 45, 3) := by decide +kernel
theorem dX6_init_85 : decode cX6_init 85 = .ok (.aload_n 0, 1) := by decide +kernel
theorem dX6_init_86 : decode cX6_init 86 = .ok (.new 48, 3) := by decide +kernel
theorem dX6_init_89 : decode cX6_init 89 = .ok (.dup, 1) := by decide +kernel
theorem dX6_init_90 : decode cX6_init 90 = .ok (.invokespecial 50, 3) := by decide +kernel
theorem dX6_init_93 : decode cX6_init 93 = .ok (.putfield 51, 3) := by decide +kernel
theorem dX6_init_96 : decode cX6_init 96 = .ok (.aload_n 0, 1) := by decide +kernel
theorem dX6_init_97 : decode cX6_init 97 = .ok (.iconst 4, 1) := by decide +kernel
theorem dX6_init_98 : decode cX6_init 98 = .ok (.anewarray 55, 3) := by decide +kernel
theorem dX6_init_101 : decode cX6_init 101 = .ok (.dup, 1) := by decide +kernel
theorem dX6_init_102 : decode cX6_init 102 = .ok (.iconst 0, 1) := by decide +kernel
theorem dX6_init_103 : decode cX6_init 103 = .ok (.new 55, 3) := by decide +kernel
theorem dX6_init_106 : decode cX6_init 106 = .ok (.dup, 1) := by decide +kernel
theorem dX6_init_107 : decode cX6_init 107 = .ok (.invokespecial 57, 3) := by decide +kernel
theorem dX6_init_110 : decode cX6_init 110 = .ok (.aastore, 1) := by decide +kernel
theorem dX6_init_111 : decode cX6_init 111 = .ok (.dup, 1) := by decide +kernel
theorem dX6_init_112 : decode cX6_init 112 = .ok (.iconst 1, 1) := by decide +kernel
theorem dX6_init_113 : decode cX6_init 113 = .ok (.new 55, 3) := by decide +kernel
theorem dX6_init_116 : decode cX6_init 116 = .ok (.dup, 1) := by decide +kernel
theorem dX6_init_117 : decode cX6_init 117 = .ok (.invokespecial 57, 3) := by decide +kernel
theorem dX6_init_120 : decode cX6_init 120 = .ok (.aastore, 1) := by decide +kernel
theorem dX6_init_121 : decode cX6_init 121 = .ok (.dup, 1) := by decide +kernel
theorem dX6_init_122 : decode cX6_init 122 = .ok (.iconst 2, 1) := by decide +kernel
theorem dX6_init_123 : decode cX6_init 123 = .ok (.new 55, 3) := by decide +kernel
theorem dX6_init_126 : decode cX6_init 126 = .ok (.dup, 1) := by decide +kernel
theorem dX6_init_127 : decode cX6_init 127 = .ok (.invokespecial 57, 3) := by decide +kernel
theorem dX6_init_130 : decode cX6_init 130 = .ok (.aastore, 1) := by decide +kernel
theorem dX6_init_131 : decode cX6_init 131 = .ok (.dup, 1) := by decide +kernel
theorem dX6_init_132 : decode cX6_init 132 = .ok (.iconst 3, 1) := by decide +kernel
theorem dX6_init_133 : decode cX6_init 133 = .ok (.new 55, 3) := by decide +kernel
theorem dX6_init_136 : decode cX6_init 136 = .ok (.dup, 1) := by decide +kernel
theorem dX6_init_137 : decode cX6_init 137 = .ok (.invokespecial 57, 3) := by decide +kernel
theorem dX6_init_140 : decode cX6_init 140 = .ok (.aastore, 1) := by decide +kernel
theorem dX6_init_141 : decode cX6_init 141 = .ok (.putfield 58, 3) := by decide +kernel
theorem dX6_init_144 : decode cX6_init 144 = .ok (.aload_n 0, 1) := by decide +kernel
theorem dX6_init_145 : decode cX6_init 145 = .ok (.iconst 5, 1) := by decide +kernel
theorem dX6_init_146 : decode cX6_init 146 = .ok (.newarray .int, 2) := by decide +kernel
