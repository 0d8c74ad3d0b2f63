theorem dX6_copy_4 : decode cX6_copy 4 = .ok (.ifCond .ne 10, 3) := by decide +kernel
theorem dX6_copy_7 : decode cX6_copy 7 = .ok (.iload_n 3, 1) := by decide +kernel
theorem dX6_copy_8 : decode cX6_copy 8 = .ok (.invokestatic 211, 3) := by decide +kernel
theorem dX6_copy_11 : decode cX6_copy 11 = .ok (.ifCond .eq 6, 3) := by decide +kernel
theorem dX6_copy_14 : decode cX6_copy 14 = .ok (.bipush (-2), 2) := by decide +kernel
theorem dX6_copy_16 : decode cX6_copy 16 = .ok (.ireturn, 1) := by decide +kernel
theorem dX6_copy_17 : decode cX6_copy 17 = .ok (.aload_n 0, 1) := by decide +kernel
theorem dX6_copy_18 : decode cX6_copy 18 = .ok (.getfield 58, 3) := by decide +kernel
theorem dX6_copy_21 : decode cX6_copy 21 = .ok (.iload_n 1, 1) := by decide +kernel
theorem dX6_copy_22 : decode cX6_copy 22 = .ok (.aaload, 1) := by decide +kernel
theorem dX6_copy_23 : decode cX6_copy 23 = .ok (.astore 6, 2) := by decide +kernel
theorem dX6_copy_25 : decode cX6_copy 25 = .ok (.aload_n 0, 1) := by decide +kernel
theorem dX6_copy_26 : decode cX6_copy 26 = .ok (.getfield 58, 3) := by decide +kernel
theorem dX6_copy_29 : decode cX6_copy 29 = .ok (.iload_n 3, 1) := by decide +kernel
theorem dX6_copy_30 : decode cX6_copy 30 = .ok (.aaload, 1) := by decide +kernel
theorem dX6_copy_31 : decode cX6_copy 31 = .ok (.astore 7, 2) := by decide +kernel
theorem dX6_copy_33 : decode cX6_copy 33 = .ok (.aload 6, 2) := by decide +kernel
theorem dX6_copy_35 : decode cX6_copy 35 = .ok (.invokevirtual 214, 3) := by decide +kernel
theorem dX6_copy_38 : decode cX6_copy 38 = .ok (.ifCond .ne 11, 3) := by decide +kernel
theorem dX6_copy_41 : decode cX6_copy 41 = .ok (.aload 7, 2) := by decide +kernel
theorem dX6_copy_43 : decode cX6_copy 43 = .ok (.invokevirtual 214, 3) := by decide +kernel
theorem dX6_copy_46 : decode cX6_copy 46 = .ok (.ifCond .eq 9, 3) := by decide +kernel
theorem dX6_copy_49 : decode cX6_copy 49 = .ok (.aload_n 0, 1) := by decide +kernel
theorem dX6_copy_50 : decode cX6_copy 50 = .ok (.iconst 1, 1) := by decide +kernel
theorem dX6_copy_51 : decode cX6_copy 51 = .ok (.invokevirtual 217, 3) := by decide +kernel
theorem dX6_copy_54 : decode cX6_copy 54 = .ok (.ireturn, 1) := by decide +kernel
theorem dX6_copy_55 : decode cX6_copy 55 = .ok (.aload 6, 2) := by decide +kernel
theorem dX6_copy_57 : decode cX6_copy 57 = .ok (.getfield 276, 3) := by decide +kernel
theorem dX6_copy_60 : decode cX6_copy 60 = .ok (.aload 7, 2) := by decide +kernel
theorem dX6_copy_62 : decode cX6_copy 62 = .ok (.getfield 276, 3) := by decide +kernel
theorem dX6_copy_65 : decode cX6_copy 65 = .ok (.if_icmp .eq 9, 3) := by decide +kernel
theorem dX6_copy_68 : decode cX6_copy 68 = .ok (.aload_n 0, 1) := by decide +kernel
theorem dX6_copy_69 : decode cX6_copy 69 = .ok (.iconst 4, 1) := by decide +kernel
theorem dX6_copy_70 : decode cX6_copy 70 = .ok (.invokevirtual 217, 3) := by decide +kernel
theorem dX6_copy_73 : decode cX6_copy 73 = .ok (.ireturn, 1) := by decide +kernel
theorem dX6_copy_74 : decode cX6_copy 74 = .ok (.aload 6, 2) := by decide +kernel
theorem dX6_copy_76 : decode cX6_copy 76 = .ok (.iload_n 2, 1) := by decide +kernel
theorem dX6_copy_77 : decode cX6_copy 77 = .ok (.iload 5, 2) := by decide +kernel
theorem dX6_copy_79 : decode cX6_copy 79 = .ok (.invokevirtual 279, 3) := by decide +kernel
theorem dX6_copy_82 : decode cX6_copy 82 = .ok (.ifCond .eq 15, 3) := by decide +kernel
theorem dX6_copy_85 : decode cX6_copy 85 = .ok (.aload 7, 2) := by decide +kernel
theorem dX6_copy_87 : decode cX6_copy 87 = .ok (.iload 4, 2) := by decide +kernel
theorem dX6_copy_89 : decode cX6_copy 89 = .ok (.iload 5, 2) := by decide +kernel
theorem dX6_copy_91 : decode cX6_copy 91 = .ok (.invokevirtual 279, 3) := by decide +kernel
theorem dX6_copy_94 : decode cX6_copy 94 = .ok (.ifCond .ne 9, 3) := by decide +kernel
theorem dX6_copy_97 : decode cX6_copy 97 = .ok (.aload_n 0, 1) := by decide +kernel
theorem dX6_copy_98 : decode cX6_copy 98 = .ok (.iconst 2, 1) := by decide +kernel
theorem dX6_copy_99 : decode cX6_copy 99 = .ok (.invokevirtual 217, 3) := by decide +kernel
theorem dX6_copy_102 : decode cX6_copy 102 = .ok (.ireturn, 1) := by decide +kernel
theorem dX6_copy_103 : decode cX6_copy 103 = .ok (.aload 6, 2) := by decide +kernel
theorem dX6_copy_105 : decode cX6_copy 105 = .ok (.getfield 221, 3) := by decide +kernel
theorem dX6_copy_108 : decode cX6_copy 108 = .ok (.iload_n 2, 1) := by decide +kernel
theorem dX6_copy_109 : decode cX6_copy 109 = .ok (.aload 7, 2) := by decide +kernel
theorem dX6_copy_111 : decode cX6_copy 111 = .ok (.getfield 221, 3) := by decide +kernel
theorem dX6_copy_114 : decode cX6_copy 114 = .ok (.iload 4, 2) := by decide +kernel
theorem dX6_copy_116 : decode cX6_copy 116 = .ok (.iload 5, 2) := by decide +kernel
theorem dX6_copy_118 : decode cX6_copy 118 = .ok (.invokestatic 283, 3) := by decide +kernel
theorem dX6_copy_121 : decode cX6_copy 121 = .ok (.iconst 1, 1) := by decide +kernel
theorem dX6_copy_122 : decode cX6_copy 122 = .ok (.ireturn, 1) := by decide +kernel
theorem dX6_write_0 : decode cX6_write 0 = .ok (.aload_n 0, 1) := by decide +kernel
theorem dX6_write_1 : decode cX6_write 1 = .ok (.iload_n 1, 1) := by decide +kernel
theorem dX6_write_2 : decode cX6_write 2 = .ok (.invokevirtual 144, 3) := by decide +kernel
theorem dX6_write_5 : decode cX6_write 5 = .ok (.ifCond .ne 10, 3) := by decide +kernel
theorem dX6_write_8 : decode cX6_write 8 = .ok (.iload_n 2, 1) := by decide +kernel
theorem dX6_write_9 : decode cX6_write 9 = .ok (.invokestatic 211, 3) := by decide +kernel
theorem dX6_write_12 : decode cX6_write 12 = .ok (.ifCond .eq 6, 3) := by decide +kernel
theorem dX6_write_15 : decode cX6_write 15 = .ok (.bipush (-2), 2) := by decide +kernel
theorem dX6_write_17 : decode cX6_write 17 = .ok (.ireturn, 1) := by decide +kernel
theorem dX6_write_18 : decode cX6_write 18 = .ok (.aload_n 0, 1) := by decide +kernel
theorem dX6_write_19 : decode cX6_write 19 = .ok (.getfield 58, 3) := by decide +kernel
theorem dX6_write_22 : decode cX6_write 22 = .ok (.iload_n 2, 1) := by decide +kernel
theorem dX6_write_23 : decode cX6_write 23 = .ok (.aaload, 1) := by decide +kernel
theorem dX6_write_24 : decode cX6_write 24 = .ok (.astore_n 3, 1) := by decide +kernel
theorem dX6_write_25 : decode cX6_write 25 = .ok (.aload_n 3, 1) := by decide +kernel
theorem dX6_write_26 : decode cX6_write 26 = .ok (.invokevirtual 214, 3) := by decide +kernel
theorem dX6_write_29 : decode cX6_write 29 = .ok (.ifCond .eq 9, 3) := by decide +kernel
theorem dX6_write_32 : decode cX6_write 32 = .ok (.aload_n 0, 1) := by decide +kernel
theorem dX6_write_33 : decode cX6_write 33 = .ok (.iconst 1, 1) := by decide +kernel
theorem dX6_write_34 : decode cX6_write 34 = .ok (.invokevirtual 217, 3) := by decide +kernel
theorem dX6_write_37 : decode cX6_write 37 = .ok (.ireturn, 1) := by decide +kernel
theorem dX6_write_38 : decode cX6_write 38 = .ok (.aload_n 3, 1) := by decide +kernel
theorem dX6_write_39 : decode cX6_write 39 = .ok (.getfield 220, 3) := by decide +kernel
theorem dX6_write_42 : decode cX6_write 42 = .ok (.aload_n 0, 1) := by decide +kernel
theorem dX6_write_43 : decode cX6_write 43 = .ok (.getfield 24, 3) := by decide +kernel
theorem dX6_write_46 : decode cX6_write 46 = .ok (.getfield 165, 3) := by decide +kernel
theorem dX6_write_49 : decode cX6_write 49 = .ok (.invokestatic 166, 3) := by decide +kernel
theorem dX6_write_52 : decode cX6_write 52 = .ok (.istore 4, 2) := by decide +kernel
theorem dX6_write_54 : decode cX6_write 54 = .ok (.iconst 0, 1) := by decide +kernel
theorem dX6_write_55 : decode cX6_write 55 = .ok (.istore 5, 2) := by decide +kernel
theorem dX6_write_57 : decode cX6_write 57 = .ok (.iload 5, 2) := by decide +kernel
theorem dX6_write_59 : decode cX6_write 59 = .ok (.iload 4, 2) := by decide +kernel
theorem dX6_write_61 : decode cX6_write 61 = .ok (.if_icmp .ge 37, 3) := by decide +kernel
theorem dX6_write_64 : decode cX6_write 64 = .ok (.aload_n 3, 1) := by decide +kernel
theorem dX6_write_65 : decode cX6_write 65 = .ok (.iload 5, 2) := by decide +kernel
theorem dX6_write_67 : decode cX6_write 67 = .ok (.aload_n 0, 1) := by decide +kernel
theorem dX6_write_68 : decode cX6_write 68 = .ok (.getfield 34, 3) := by decide +kernel
theorem dX6_write_71 : decode cX6_write 71 = .ok (.getfield 147, 3) := by decide +kernel
theorem dX6_write_74 : decode cX6_write 74 = .ok (.iload_n 1, 1) := by decide +kernel
theorem dX6_write_75 : decode cX6_write 75 = .ok (.iaload, 1) := by decide +kernel
theorem dX6_write_76 : decode cX6_write 76 = .ok (.aload_n 0, 1) := by decide +kernel
theorem dX6_write_77 : decode cX6_write 77 = .ok (.getfield 24, 3) := by decide +kernel
theorem dX6_write_80 : decode cX6_write 80 = .ok (.aload_n 0, 1) := by decide +kernel
theorem dX6_write_81 : decode cX6_write 81 = .ok (.getfield 41, 3) := by decide +kernel
theorem dX6_write_84 : decode cX6_write 84 = .ok (.iload 5, 2) := by decide +kernel
theorem dX6_write_86 : decode cX6_write 86 = .ok (.invokestatic 150, 3) := by decide +kernel
theorem dX6_write_89 : decode cX6_write 89 = .ok (.invokevirtual 273, 3) := by decide +kernel
theorem dX6_write_92 : decode cX6_write 92 = .ok (.iinc 5 1, 3) := by decide +kernel
theorem dX6_write_95 : decode cX6_write 95 = .ok (.goto (-38), 3) := by decide +kernel
theorem dX6_write_98 : decode cX6_write 98 = .ok (.iload 4, 2) := by decide +kernel
theorem dX6_write_100 : decode cX6_write 100 = .ok (.ireturn, 1) := by decide +kernel
theorem dX6_count_0 : decode cX6_count 0 = .ok (.iload_n 1, 1) := by decide +kernel
theorem dX6_count_1 : decode cX6_count 1 = .ok (.tableswitch 120 0 8 #[51, 59, 67, 75, 83, 91, 99, 107, 115], 51) := by decide +kernel
theorem dX6_count_52 : decode cX6_count 52 = .ok (.aload_n 0, 1) := by decide +kernel
theorem dX6_count_53 : decode cX6_count 53 = .ok (.getfield 24, 3) := by decide +kernel
theorem dX6_count_56 : decode cX6_count 56 = .ok (.getfield 165, 3) := by decide +kernel
theorem dX6_count_59 : decode cX6_count 59 = .ok (.ireturn, 1) := by decide +kernel
theorem dX6_count_60 : decode cX6_count 60 = .ok (.aload_n 0, 1) := by decide +kernel
theorem dX6_count_61 : decode cX6_count 61 = .ok (.getfield 34, 3) := by decide +kernel
theorem dX6_count_64 : decode cX6_count 64 = .ok (.getfield 120, 3) := by decide +kernel
theorem dX6_count_67 : decode cX6_count 67 = .ok (.ireturn, 1) := by decide +kernel
theorem dX6_count_68 : decode cX6_count 68 = .ok (.aload_n 0, 1) := by decide +kernel
theorem dX6_count_69 : decode cX6_count 69 = .ok (.getfield 14, 3) := by decide +kernel
theorem dX6_count_72 : decode cX6_count 72 = .ok (.getfield 91, 3) := by decide +kernel
theorem dX6_count_75 : decode cX6_count 75 = .ok (.ireturn, 1) := by decide +kernel
theorem dX6_count_76 : decode cX6_count 76 = .ok (.aload_n 0, 1) := by decide +kernel
theorem dX6_count_77 : decode cX6_count 77 = .ok (.getfield 18, 3) := by decide +kernel
theorem dX6_count_80 : decode cX6_count 80 = .ok (.getfield 91, 3) := by decide +kernel
theorem dX6_count_83 : decode cX6_count 83 = .ok (.ireturn, 1) := by decide +kernel
theorem dX6_count_84 : decode cX6_count 84 = .ok (.aload_n 0, 1) := by decide +kernel
theorem dX6_count_85 : decode cX6_count 85 = .ok (.getfield 24, 3) := by decide +kernel
theorem dX6_count_88 : decode cX6_count 88 = .ok (.invokevirtual 289, 3) := by decide +kernel
theorem dX6_count_91 : decode cX6_count 91 = .ok (.ireturn, 1) := by decide +kernel
theorem dX6_count_92 : decode cX6_count 92 = .ok (.aload_n 0, 1) := by decide +kernel
theorem dX6_count_93 : decode cX6_count 93 = .ok (.getfield 34, 3) := by decide +kernel
theorem dX6_count_96 : decode cX6_count 96 = .ok (.invokevirtual 292, 3) := by decide +kernel
theorem dX6_count_99 : decode cX6_count 99 = .ok (.ireturn, 1) := by decide +kernel
theorem dX6_count_100 : decode cX6_count 100 = .ok (.aload_n 0, 1) := by decide +kernel
theorem dX6_count_101 : decode cX6_count 101 = .ok (.getfield 41, 3) := by decide +kernel
theorem dX6_count_104 : decode cX6_count 104 = .ok (.getfield 198, 3) := by decide +kernel
theorem dX6_count_107 : decode cX6_count 107 = .ok (.ireturn, 1) := by decide +kernel
theorem dX6_count_108 : decode cX6_count 108 = .ok (.aload_n 0, 1) := by decide +kernel
theorem dX6_count_109 : decode cX6_count 109 = .ok (.getfield 51, 3) := by decide +kernel
theorem dX6_count_112 : decode cX6_count 112 = .ok (.getfield 210, 3) := by decide +kernel
theorem dX6_count_115 : decode cX6_count 115 = .ok (.ireturn, 1) := by decide +kernel
theorem dX6_count_116 : decode cX6_count 116 = .ok (.aload_n 0, 1) := by decide +kernel
theorem dX6_count_117 : decode cX6_count 117 = .ok (.getfield 69, 3) := by decide +kernel
theorem dX6_count_120 : decode cX6_count 120 = .ok (.ireturn, 1) := by decide +kernel
theorem dX6_count_121 : decode cX6_count 121 = .ok (.bipush (-2), 2) := by decide +kernel
theorem dX6_count_123 : decode cX6_count 123 = .ok (.ireturn, 1) := by decide +kernel
theorem dX6_digest_0 : decode cX6_digest 0 = .ok (.ldc2_w 295, 3) := by decide +kernel
theorem dX6_digest_3 : decode cX6_digest 3 = .ok (.lstore_n 1, 1) := by decide +kernel
theorem dX6_digest_4 : decode cX6_digest 4 = .ok (.iconst 0, 1) := by decide +kernel
theorem dX6_digest_5 : decode cX6_digest 5 = .ok (.istore_n 3, 1) := by decide +kernel
theorem dX6_digest_6 : decode cX6_digest 6 = .ok (.iload_n 3, 1) := by decide +kernel
theorem dX6_digest_7 : decode cX6_digest 7 = .ok (.bipush 7, 2) := by decide +kernel
theorem dX6_digest_9 : decode cX6_digest 9 = .ok (.if_icmp .gt 20, 3) := by decide +kernel
theorem dX6_digest_12 : decode cX6_digest 12 = .ok (.lload_n 1, 1) := by decide +kernel
theorem dX6_digest_13 : decode cX6_digest 13 = .ok (.aload_n 0, 1) := by decide +kernel
theorem dX6_digest_14 : decode cX6_digest 14 = .ok (.iload_n 3, 1) := by decide +kernel
theorem dX6_digest_15 : decode cX6_digest 15 = .ok (.invokevirtual 297, 3) := by decide +kernel
theorem dX6_digest_18 : decode cX6_digest 18 = .ok (.i2l, 1) := by decide +kernel
theorem dX6_digest_19 : decode cX6_digest 19 = .ok (.invokestatic 300, 3) := by decide +kernel
theorem dX6_digest_22 : decode cX6_digest 22 = .ok (.lstore_n 1, 1) := by decide +kernel
theorem dX6_digest_23 : decode cX6_digest 23 = .ok (.iinc 3 1, 3) := by decide +kernel
theorem dX6_digest_26 : decode cX6_digest 26 = .ok (.goto (-20), 3) := by decide +kernel
theorem dX6_digest_29 : decode cX6_digest 29 = .ok (.lload_n 1, 1) := by decide +kernel
theorem dX6_digest_30 : decode cX6_digest 30 = .ok (.aload_n 0, 1) := by decide +kernel
theorem dX6_digest_31 : decode cX6_digest 31 = .ok (.iconst 0, 1) := by decide +kernel
theorem dX6_digest_32 : decode cX6_digest 32 = .ok (.invokevirtual 304, 3) := by decide +kernel
theorem dX6_digest_35 : decode cX6_digest 35 = .ok (.i2l, 1) := by decide +kernel
theorem dX6_digest_36 : decode cX6_digest 36 = .ok (.invokestatic 300, 3) := by decide +kernel
theorem dX6_digest_39 : decode cX6_digest 39 = .ok (.lstore_n 1, 1) := by decide +kernel
theorem dX6_digest_40 : decode cX6_digest 40 = .ok (.lload_n 1, 1) := by decide +kernel
theorem dX6_digest_41 : decode cX6_digest 41 = .ok (.aload_n 0, 1) := by decide +kernel
theorem dX6_digest_42 : decode cX6_digest 42 = .ok (.iconst 1, 1) := by decide +kernel
theorem dX6_digest_43 : decode cX6_digest 43 = .ok (.invokevirtual 304, 3) := by decide +kernel
theorem dX6_digest_46 : decode cX6_digest 46 = .ok (.i2l, 1) := by decide +kernel
theorem dX6_digest_47 : decode cX6_digest 47 = .ok (.invokestatic 300, 3) := by decide +kernel
theorem dX6_digest_50 : decode cX6_digest 50 = .ok (.lstore_n 1, 1) := by decide +kernel
theorem dX6_digest_51 : decode cX6_digest 51 = .ok (.aload_n 0, 1) := by decide +kernel
theorem dX6_digest_52 : decode cX6_digest 52 = .ok (.lload_n 1, 1) := by decide +kernel
theorem dX6_digest_53 : decode cX6_digest 53 = .ok (.invokevirtual 307, 3) := by decide +kernel
theorem dX6_digest_56 : decode cX6_digest 56 = .ok (.lstore_n 1, 1) := by decide +kernel
theorem dX6_digest_57 : decode cX6_digest 57 = .ok (.aload_n 0, 1) := by decide +kernel
theorem dX6_digest_58 : decode cX6_digest 58 = .ok (.lload_n 1, 1) := by decide +kernel
theorem dX6_digest_59 : decode cX6_digest 59 = .ok (.invokevirtual 311, 3) := by decide +kernel
theorem dX6_digest_62 : decode cX6_digest 62 = .ok (.lstore_n 1, 1) := by decide +kernel
theorem dX6_digest_63 : decode cX6_digest 63 = .ok (.lload_n 1, 1) := by decide +kernel
theorem dX6_digest_64 : decode cX6_digest 64 = .ok (.aload_n 0, 1) := by decide +kernel
theorem dX6_digest_65 : decode cX6_digest 65 = .ok (.iconst 0, 1) := by decide +kernel
theorem dX6_digest_66 : decode cX6_digest 66 = .ok (.invokevirtual 314, 3) := by decide +kernel
theorem dX6_digest_69 : decode cX6_digest 69 = .ok (.i2l, 1) := by decide +kernel
theorem dX6_digest_70 : decode cX6_digest 70 = .ok (.invokestatic 300, 3) := by decide +kernel
theorem dX6_digest_73 : decode cX6_digest 73 = .ok (.lstore_n 1, 1) := by decide +kernel
theorem dX6_digest_74 : decode cX6_digest 74 = .ok (.lload_n 1, 1) := by decide +kernel
theorem dX6_digest_75 : decode cX6_digest 75 = .ok (.aload_n 0, 1) := by decide +kernel
theorem dX6_digest_76 : decode cX6_digest 76 = .ok (.bipush 9, 2) := by decide +kernel
theorem dX6_digest_78 : decode cX6_digest 78 = .ok (.invokevirtual 314, 3) := by decide +kernel
theorem dX6_digest_81 : decode cX6_digest 81 = .ok (.i2l, 1) := by decide +kernel
theorem dX6_digest_82 : decode cX6_digest 82 = .ok (.invokestatic 300, 3) := by decide +kernel
theorem dX6_digest_85 : decode cX6_digest 85 = .ok (.lstore_n 1, 1) := by decide +kernel
theorem dX6_digest_86 : decode cX6_digest 86 = .ok (.lload_n 1, 1) := by decide +kernel
theorem dX6_digest_87 : decode cX6_digest 87 = .ok (.aload_n 0, 1) := by decide +kernel
theorem dX6_digest_88 : decode cX6_digest 88 = .ok (.iconst 0, 1) := by decide +kernel
theorem dX6_digest_89 : decode cX6_digest 89 = .ok (.invokevirtual 317, 3) := by decide +kernel
theorem dX6_digest_92 : decode cX6_digest 92 = .ok (.i2l, 1) := by decide +kernel
theorem dX6_digest_93 : decode cX6_digest 93 = .ok (.invokestatic 300, 3) := by decide +kernel
theorem dX6_digest_96 : decode cX6_digest 96 = .ok (.lstore_n 1, 1) := by decide +kernel
theorem dX6_digest_97 : decode cX6_digest 97 = .ok (.lload_n 1, 1) := by decide +kernel
theorem dX6_digest_98 : decode cX6_digest 98 = .ok (.aload_n 0, 1) := by decide +kernel
theorem dX6_digest_99 : decode cX6_digest 99 = .ok (.iconst 1, 1) := by decide +kernel
theorem dX6_digest_100 : decode cX6_digest 100 = .ok (.invokevirtual 317, 3) := by decide +kernel
theorem dX6_digest_103 : decode cX6_digest 103 = .ok (.i2l, 1) := by decide +kernel
theorem dX6_digest_104 : decode cX6_digest 104 = .ok (.invokestatic 300, 3) := by decide +kernel
theorem dX6_digest_107 : decode cX6_digest 107 = .ok (.lstore_n 1, 1) := by decide +kernel
theorem dX6_digest_108 : decode cX6_digest 108 = .ok (.lload_n 1, 1) := by decide +kernel
theorem dX6_digest_109 : decode cX6_digest 109 = .ok (.aload_n 0, 1) := by decide +kernel
theorem dX6_digest_110 : decode cX6_digest 110 = .ok (.iconst 0, 1) := by decide +kernel
theorem dX6_digest_111 : decode cX6_digest 111 = .ok (.iconst (-1), 1) := by decide +kernel
theorem dX6_digest_112 : decode cX6_digest 112 = .ok (.invokevirtual 320, 3) := by decide +kernel
theorem dX6_digest_115 : decode cX6_digest 115 = .ok (.i2l, 1) := by decide +kernel
theorem dX6_digest_116 : decode cX6_digest 116 = .ok (.invokestatic 300, 3) := by decide +kernel
theorem dX6_digest_119 : decode cX6_digest 119 = .ok (.lstore_n 1, 1) := by decide +kernel
theorem dX6_digest_120 : decode cX6_digest 120 = .ok (.lload_n 1, 1) := by decide +kernel
theorem dX6_digest_121 : decode cX6_digest 121 = .ok (.aload_n 0, 1) := by decide +kernel
theorem dX6_digest_122 : decode cX6_digest 122 = .ok (.iconst 0, 1) := by decide +kernel
theorem dX6_digest_123 : decode cX6_digest 123 = .ok (.iconst 0, 1) := by decide +kernel
theorem dX6_digest_124 : decode cX6_digest 124 = .ok (.invokevirtual 320, 3) := by decide +kernel
theorem dX6_digest_127 : decode cX6_digest 127 = .ok (.i2l, 1) := by decide +kernel
theorem dX6_digest_128 : decode cX6_digest 128 = .ok (.invokestatic 300, 3) := by decide +kernel
theorem dX6_digest_131 : decode cX6_digest 131 = .ok (.lstore_n 1, 1) := by decide +kernel
theorem dX6_digest_132 : decode cX6_digest 132 = .ok (.lload_n 1, 1) := by decide +kernel
theorem dX6_digest_133 : decode cX6_digest 133 = .ok (.aload_n 0, 1) := by decide +kernel
theorem dX6_digest_134 : decode cX6_digest 134 = .ok (.iconst 0, 1) := by decide +kernel
theorem dX6_digest_135 : decode cX6_digest 135 = .ok (.iconst 0, 1) := by decide +kernel
theorem dX6_digest_136 : decode cX6_digest 136 = .ok (.invokevirtual 323, 3) := by decide +kernel
theorem dX6_digest_139 : decode cX6_digest 139 = .ok (.i2l, 1) := by decide +kernel
theorem dX6_digest_140 : decode cX6_digest 140 = .ok (.invokestatic 300, 3) := by decide +kernel
theorem dX6_digest_143 : decode cX6_digest 143 = .ok (.lstore_n 1, 1) := by decide +kernel
theorem dX6_digest_144 : decode cX6_digest 144 = .ok (.lload_n 1, 1) := by decide +kernel
theorem dX6_digest_145 : decode cX6_digest 145 = .ok (.aload_n 0, 1) := by decide +kernel
theorem dX6_digest_146 : decode cX6_digest 146 = .ok (.iconst 0, 1) := by decide +kernel
theorem dX6_digest_147 : decode cX6_digest 147 = .ok (.iconst 1, 1) := by decide +kernel
theorem dX6_digest_148 : decode cX6_digest 148 = .ok (.invokevirtual 323, 3) := by decide +kernel
theorem dX6_digest_151 : decode cX6_digest 151 = .ok (.i2l, 1) := by decide +kernel
theorem dX6_digest_152 : decode cX6_digest 152 = .ok (.invokestatic 300, 3) := by decide +kernel
theorem dX6_digest_155 : decode cX6_digest 155 = .ok (.lstore_n 1, 1) := by decide +kernel
theorem dX6_digest_156 : decode cX6_digest 156 = .ok (.lload_n 1, 1) := by decide +kernel
theorem dX6_digest_157 : decode cX6_digest 157 = .ok (.aload_n 0, 1) := by decide +kernel
theorem dX6_digest_158 : decode cX6_digest 158 = .ok (.iconst 0, 1) := by decide +kernel
theorem dX6_digest_159 : decode cX6_digest 159 = .ok (.iconst 0, 1) := by decide +kernel
theorem dX6_digest_160 : decode cX6_digest 160 = .ok (.invokevirtual 326, 3) := by decide +kernel
theorem dX6_digest_163 : decode cX6_digest 163 = .ok (.i2l, 1) := by decide +kernel
theorem dX6_digest_164 : decode cX6_digest 164 = .ok (.invokestatic 300, 3) := by decide +kernel
theorem dX6_digest_167 : decode cX6_digest 167 = .ok (.lstore_n 1, 1) := by decide +kernel
theorem dX6_digest_168 : decode cX6_digest 168 = .ok (.lload_n 1, 1) := by decide +kernel
theorem dX6_digest_169 : decode cX6_digest 169 = .ok (.aload_n 0, 1) := by decide +kernel
theorem dX6_digest_170 : decode cX6_digest 170 = .ok (.iconst 0, 1) := by decide +kernel
theorem dX6_digest_171 : decode cX6_digest 171 = .ok (.iconst 1, 1) := by decide +kernel
theorem dX6_digest_172 : decode cX6_digest 172 = .ok (.invokevirtual 326, 3) := by decide +kernel
theorem dX6_digest_175 : decode cX6_digest 175 = .ok (.i2l, 1) := by decide +kernel
theorem dX6_digest_176 : decode cX6_digest 176 = .ok (.invokestatic 300, 3) := by decide +kernel
theorem dX6_digest_179 : decode cX6_digest 179 = .ok (.lstore_n 1, 1) := by decide +kernel
theorem dX6_digest_180 : decode cX6_digest 180 = .ok (.lload_n 1, 1) := by decide +kernel
theorem dX6_digest_181 : decode cX6_digest 181 = .ok (.aload_n 0, 1) := by decide +kernel
theorem dX6_digest_182 : decode cX6_digest 182 = .ok (.iconst 3, 1) := by decide +kernel
theorem dX6_digest_183 : decode cX6_digest 183 = .ok (.iconst 5, 1) := by decide +kernel
theorem dX6_digest_184 : decode cX6_digest 184 = .ok (.iconst 0, 1) := by decide +kernel
theorem dX6_digest_185 : decode cX6_digest 185 = .ok (.iconst 0, 1) := by decide +kernel
theorem dX6_digest_186 : decode cX6_digest 186 = .ok (.invokevirtual 329, 3) := by decide +kernel
theorem dX6_digest_189 : decode cX6_digest 189 = .ok (.invokestatic 300, 3) := by decide +kernel
theorem dX6_digest_192 : decode cX6_digest 192 = .ok (.lstore_n 1, 1) := by decide +kernel
theorem dX6_digest_193 : decode cX6_digest 193 = .ok (.lload_n 1, 1) := by decide +kernel
theorem dX6_digest_194 : decode cX6_digest 194 = .ok (.aload_n 0, 1) := by decide +kernel
theorem dX6_digest_195 : decode cX6_digest 195 = .ok (.iconst 3, 1) := by decide +kernel
theorem dX6_digest_196 : decode cX6_digest 196 = .ok (.iconst 5, 1) := by decide +kernel
theorem dX6_digest_197 : decode cX6_digest 197 = .ok (.iconst 0, 1) := by decide +kernel
theorem dX6_digest_198 : decode cX6_digest 198 = .ok (.iconst 1, 1) := by decide +kernel
theorem dX6_digest_199 : decode cX6_digest 199 = .ok (.invokevirtual 329, 3) := by decide +kernel
theorem dX6_digest_202 : decode cX6_digest 202 = .ok (.invokestatic 300, 3) := by decide +kernel
theorem dX6_digest_205 : decode cX6_digest 205 = .ok (.lstore_n 1, 1) := by decide +kernel
theorem dX6_digest_206 : decode cX6_digest 206 = .ok (.lload_n 1, 1) := by decide +kernel
theorem dX6_digest_207 : decode cX6_digest 207 = .ok (.aload_n 0, 1) := by decide +kernel
theorem dX6_digest_208 : decode cX6_digest 208 = .ok (.bipush 7, 2) := by decide +kernel
theorem dX6_digest_210 : decode cX6_digest 210 = .ok (.bipush 20, 2) := by decide +kernel
theorem dX6_digest_212 : decode cX6_digest 212 = .ok (.iconst 0, 1) := by decide +kernel
theorem dX6_digest_213 : decode cX6_digest 213 = .ok (.invokevirtual 333, 3) := by decide +kernel
theorem dX6_digest_216 : decode cX6_digest 216 = .ok (.i2l, 1) := by decide +kernel
theorem dX6_digest_217 : decode cX6_digest 217 = .ok (.invokestatic 300, 3) := by decide +kernel
theorem dX6_digest_220 : decode cX6_digest 220 = .ok (.lstore_n 1, 1) := by decide +kernel
theorem dX6_digest_221 : decode cX6_digest 221 = .ok (.lload_n 1, 1) := by decide +kernel
theorem dX6_digest_222 : decode cX6_digest 222 = .ok (.aload_n 0, 1) := by decide +kernel
theorem dX6_digest_223 : decode cX6_digest 223 = .ok (.iconst (-1), 1) := by decide +kernel
theorem dX6_digest_224 : decode cX6_digest 224 = .ok (.invokevirtual 336, 3) := by decide +kernel
theorem dX6_digest_227 : decode cX6_digest 227 = .ok (.i2l, 1) := by decide +kernel
theorem dX6_digest_228 : decode cX6_digest 228 = .ok (.invokestatic 300, 3) := by decide +kernel
theorem dX6_digest_231 : decode cX6_digest 231 = .ok (.lstore_n 1, 1) := by decide +kernel
theorem dX6_digest_232 : decode cX6_digest 232 = .ok (.lload_n 1, 1) := by decide +kernel
theorem dX6_digest_233 : decode cX6_digest 233 = .ok (.aload_n 0, 1) := by decide +kernel
theorem dX6_digest_234 : decode cX6_digest 234 = .ok (.iconst 0, 1) := by decide +kernel
theorem dX6_digest_235 : decode cX6_digest 235 = .ok (.invokevirtual 336, 3) := by decide +kernel
theorem dX6_digest_238 : decode cX6_digest 238 = .ok (.i2l, 1) := by decide +kernel
theorem dX6_digest_239 : decode cX6_digest 239 = .ok (.invokestatic 300, 3) := by decide +kernel
theorem dX6_digest_242 : decode cX6_digest 242 = .ok (.lstore_n 1, 1) := by decide +kernel
theorem dX6_digest_243 : decode cX6_digest 243 = .ok (.lload_n 1, 1) := by decide +kernel
theorem dX6_digest_244 : decode cX6_digest 244 = .ok (.aload_n 0, 1) := by decide +kernel
theorem dX6_digest_245 : decode cX6_digest 245 = .ok (.invokevirtual 339, 3) := by decide +kernel
theorem dX6_digest_248 : decode cX6_digest 248 = .ok (.i2l, 1) := by decide +kernel
theorem dX6_digest_249 : decode cX6_digest 249 = .ok (.invokestatic 300, 3) := by decide +kernel
theorem dX6_digest_252 : decode cX6_digest 252 = .ok (.lstore_n 1, 1) := by decide +kernel
theorem dX6_digest_253 : decode cX6_digest 253 = .ok (.lload_n 1, 1) := by decide +kernel
theorem dX6_digest_254 : decode cX6_digest 254 = .ok (.aload_n 0, 1) := by decide +kernel
theorem dX6_digest_255 : decode cX6_digest 255 = .ok (.invokevirtual 342, 3) := by decide +kernel
theorem dX6_digest_258 : decode cX6_digest 258 = .ok (.i2l, 1) := by decide +kernel
theorem dX6_digest_259 : decode cX6_digest 259 = .ok (.invokestatic 300, 3) := by decide +kernel
theorem dX6_digest_262 : decode cX6_digest 262 = .ok (.lreturn, 1) := by decide +kernel
theorem dX6_mixSingers_0 : decode cX6_mixSingers 0 = .ok (.lload_n 1, 1) := by decide +kernel
theorem dX6_mixSingers_1 : decode cX6_mixSingers 1 = .ok (.lstore_n 3, 1) := by decide +kernel
theorem dX6_mixSingers_2 : decode cX6_mixSingers 2 = .ok (.iconst 0, 1) := by decide +kernel
theorem dX6_mixSingers_3 : decode cX6_mixSingers 3 = .ok (.istore 5, 2) := by decide +kernel
theorem dX6_mixSingers_5 : decode cX6_mixSingers 5 = .ok (.iload 5, 2) := by decide +kernel
theorem dX6_mixSingers_7 : decode cX6_mixSingers 7 = .ok (.aload_n 0, 1) := by decide +kernel
theorem dX6_mixSingers_8 : decode cX6_mixSingers 8 = .ok (.getfield 24, 3) := by decide +kernel
theorem dX6_mixSingers_11 : decode cX6_mixSingers 11 = .ok (.getfield 165, 3) := by decide +kernel
theorem dX6_mixSingers_14 : decode cX6_mixSingers 14 = .ok (.if_icmp .ge 64, 3) := by decide +kernel
theorem dX6_mixSingers_17 : decode cX6_mixSingers 17 = .ok (.iconst 0, 1) := by decide +kernel
theorem dX6_mixSingers_18 : decode cX6_mixSingers 18 = .ok (.istore 6, 2) := by decide +kernel
theorem dX6_mixSingers_20 : decode cX6_mixSingers 20 = .ok (.iload 6, 2) := by decide +kernel
theorem dX6_mixSingers_22 : decode cX6_mixSingers 22 = .ok (.iconst 3, 1) := by decide +kernel
theorem dX6_mixSingers_23 : decode cX6_mixSingers 23 = .ok (.if_icmp .gt 23, 3) := by decide +kernel
theorem dX6_mixSingers_26 : decode cX6_mixSingers 26 = .ok (.lload_n 3, 1) := by decide +kernel
theorem dX6_mixSingers_27 : decode cX6_mixSingers 27 = .ok (.aload_n 0, 1) := by decide +kernel
theorem dX6_mixSingers_28 : decode cX6_mixSingers 28 = .ok (.iload 5, 2) := by decide +kernel
theorem dX6_mixSingers_30 : decode cX6_mixSingers 30 = .ok (.iload 6, 2) := by decide +kernel
theorem dX6_mixSingers_32 : decode cX6_mixSingers 32 = .ok (.invokevirtual 345, 3) := by decide +kernel
theorem dX6_mixSingers_35 : decode cX6_mixSingers 35 = .ok (.i2l, 1) := by decide +kernel
theorem dX6_mixSingers_36 : decode cX6_mixSingers 36 = .ok (.invokestatic 300, 3) := by decide +kernel
theorem dX6_mixSingers_39 : decode cX6_mixSingers 39 = .ok (.lstore_n 3, 1) := by decide +kernel
theorem dX6_mixSingers_40 : decode cX6_mixSingers 40 = .ok (.iinc 6 1, 3) := by decide +kernel
theorem dX6_mixSingers_43 : decode cX6_mixSingers 43 = .ok (.goto (-23), 3) := by decide +kernel
theorem dX6_mixSingers_46 : decode cX6_mixSingers 46 = .ok (.lload_n 3, 1) := by decide +kernel
theorem dX6_mixSingers_47 : decode cX6_mixSingers 47 = .ok (.aload_n 0, 1) := by decide +kernel
theorem dX6_mixSingers_48 : decode cX6_mixSingers 48 = .ok (.iload 5, 2) := by decide +kernel
theorem dX6_mixSingers_50 : decode cX6_mixSingers 50 = .ok (.iconst 0, 1) := by decide +kernel
theorem dX6_mixSingers_51 : decode cX6_mixSingers 51 = .ok (.invokevirtual 348, 3) := by decide +kernel
theorem dX6_mixSingers_54 : decode cX6_mixSingers 54 = .ok (.i2l, 1) := by decide +kernel
theorem dX6_mixSingers_55 : decode cX6_mixSingers 55 = .ok (.invokestatic 300, 3) := by decide +kernel
theorem dX6_mixSingers_58 : decode cX6_mixSingers 58 = .ok (.lstore_n 3, 1) := by decide +kernel
theorem dX6_mixSingers_59 : decode cX6_mixSingers 59 = .ok (.lload_n 3, 1) := by decide +kernel
theorem dX6_mixSingers_60 : decode cX6_mixSingers 60 = .ok (.aload_n 0, 1) := by decide +kernel
theorem dX6_mixSingers_61 : decode cX6_mixSingers 61 = .ok (.iload 5, 2) := by decide +kernel
theorem dX6_mixSingers_63 : decode cX6_mixSingers 63 = .ok (.iconst 1, 1) := by decide +kernel
theorem dX6_mixSingers_64 : decode cX6_mixSingers 64 = .ok (.invokevirtual 348, 3) := by decide +kernel
theorem dX6_mixSingers_67 : decode cX6_mixSingers 67 = .ok (.i2l, 1) := by decide +kernel
theorem dX6_mixSingers_68 : decode cX6_mixSingers 68 = .ok (.invokestatic 300, 3) := by decide +kernel
theorem dX6_mixSingers_71 : decode cX6_mixSingers 71 = .ok (.lstore_n 3, 1) := by decide +kernel
theorem dX6_mixSingers_72 : decode cX6_mixSingers 72 = .ok (.iinc 5 1, 3) := by decide +kernel
theorem dX6_mixSingers_75 : decode cX6_mixSingers 75 = .ok (.goto (-70), 3) := by decide +kernel
theorem dX6_mixSingers_78 : decode cX6_mixSingers 78 = .ok (.lload_n 3, 1) := by decide +kernel
theorem dX6_mixSingers_79 : decode cX6_mixSingers 79 = .ok (.lreturn, 1) := by decide +kernel
theorem dX6_mixBars_0 : decode cX6_mixBars 0 = .ok (.lload_n 1, 1) := by decide +kernel
theorem dX6_mixBars_1 : decode cX6_mixBars 1 = .ok (.lstore_n 3, 1) := by decide +kernel
theorem dX6_mixBars_2 : decode cX6_mixBars 2 = .ok (.iconst 0, 1) := by decide +kernel
theorem dX6_mixBars_3 : decode cX6_mixBars 3 = .ok (.istore 5, 2) := by decide +kernel
theorem dX6_mixBars_5 : decode cX6_mixBars 5 = .ok (.iload 5, 2) := by decide +kernel
theorem dX6_mixBars_7 : decode cX6_mixBars 7 = .ok (.aload_n 0, 1) := by decide +kernel
theorem dX6_mixBars_8 : decode cX6_mixBars 8 = .ok (.getfield 34, 3) := by decide +kernel
theorem dX6_mixBars_11 : decode cX6_mixBars 11 = .ok (.getfield 120, 3) := by decide +kernel
theorem dX6_mixBars_14 : decode cX6_mixBars 14 = .ok (.if_icmp .ge 56, 3) := by decide +kernel
theorem dX6_mixBars_17 : decode cX6_mixBars 17 = .ok (.lload_n 3, 1) := by decide +kernel
theorem dX6_mixBars_18 : decode cX6_mixBars 18 = .ok (.aload_n 0, 1) := by decide +kernel
theorem dX6_mixBars_19 : decode cX6_mixBars 19 = .ok (.iload 5, 2) := by decide +kernel
theorem dX6_mixBars_21 : decode cX6_mixBars 21 = .ok (.invokevirtual 351, 3) := by decide +kernel
theorem dX6_mixBars_24 : decode cX6_mixBars 24 = .ok (.i2l, 1) := by decide +kernel
theorem dX6_mixBars_25 : decode cX6_mixBars 25 = .ok (.invokestatic 300, 3) := by decide +kernel
theorem dX6_mixBars_28 : decode cX6_mixBars 28 = .ok (.lstore_n 3, 1) := by decide +kernel
theorem dX6_mixBars_29 : decode cX6_mixBars 29 = .ok (.iconst 0, 1) := by decide +kernel
theorem dX6_mixBars_30 : decode cX6_mixBars 30 = .ok (.istore 6, 2) := by decide +kernel
theorem dX6_mixBars_32 : decode cX6_mixBars 32 = .ok (.iload 6, 2) := by decide +kernel
theorem dX6_mixBars_34 : decode cX6_mixBars 34 = .ok (.aload_n 0, 1) := by decide +kernel
theorem dX6_mixBars_35 : decode cX6_mixBars 35 = .ok (.getfield 24, 3) := by decide +kernel
theorem dX6_mixBars_38 : decode cX6_mixBars 38 = .ok (.getfield 165, 3) := by decide +kernel
theorem dX6_mixBars_41 : decode cX6_mixBars 41 = .ok (.if_icmp .ge 23, 3) := by decide +kernel
theorem dX6_mixBars_44 : decode cX6_mixBars 44 = .ok (.lload_n 3, 1) := by decide +kernel
theorem dX6_mixBars_45 : decode cX6_mixBars 45 = .ok (.aload_n 0, 1) := by decide +kernel
theorem dX6_mixBars_46 : decode cX6_mixBars 46 = .ok (.iload 6, 2) := by decide +kernel
theorem dX6_mixBars_48 : decode cX6_mixBars 48 = .ok (.iload 5, 2) := by decide +kernel
theorem dX6_mixBars_50 : decode cX6_mixBars 50 = .ok (.invokevirtual 354, 3) := by decide +kernel
theorem dX6_mixBars_53 : decode cX6_mixBars 53 = .ok (.i2l, 1) := by decide +kernel
theorem dX6_mixBars_54 : decode cX6_mixBars 54 = .ok (.invokestatic 300, 3) := by decide +kernel
theorem dX6_mixBars_57 : decode cX6_mixBars 57 = .ok (.lstore_n 3, 1) := by decide +kernel
theorem dX6_mixBars_58 : decode cX6_mixBars 58 = .ok (.iinc 6 1, 3) := by decide +kernel
theorem dX6_mixBars_61 : decode cX6_mixBars 61 = .ok (.goto (-29), 3) := by decide +kernel
theorem dX6_mixBars_64 : decode cX6_mixBars 64 = .ok (.iinc 5 1, 3) := by decide +kernel
theorem dX6_mixBars_67 : decode cX6_mixBars 67 = .ok (.goto (-62), 3) := by decide +kernel
theorem dX6_mixBars_70 : decode cX6_mixBars 70 = .ok (.iconst 0, 1) := by decide +kernel
theorem dX6_mixBars_71 : decode cX6_mixBars 71 = .ok (.istore 5, 2) := by decide +kernel
theorem dX6_mixBars_73 : decode cX6_mixBars 73 = .ok (.iload 5, 2) := by decide +kernel
theorem dX6_mixBars_75 : decode cX6_mixBars 75 = .ok (.aload_n 0, 1) := by decide +kernel
theorem dX6_mixBars_76 : decode cX6_mixBars 76 = .ok (.getfield 34, 3) := by decide +kernel
theorem dX6_mixBars_79 : decode cX6_mixBars 79 = .ok (.getfield 120, 3) := by decide +kernel
theorem dX6_mixBars_82 : decode cX6_mixBars 82 = .ok (.if_icmp .ge 38, 3) := by decide +kernel
theorem dX6_mixBars_85 : decode cX6_mixBars 85 = .ok (.iconst 0, 1) := by decide +kernel
theorem dX6_mixBars_86 : decode cX6_mixBars 86 = .ok (.istore 6, 2) := by decide +kernel
theorem dX6_mixBars_88 : decode cX6_mixBars 88 = .ok (.iload 6, 2) := by decide +kernel
theorem dX6_mixBars_90 : decode cX6_mixBars 90 = .ok (.iconst 2, 1) := by decide +kernel
theorem dX6_mixBars_91 : decode cX6_mixBars 91 = .ok (.if_icmp .gt 23, 3) := by decide +kernel
theorem dX6_mixBars_94 : decode cX6_mixBars 94 = .ok (.lload_n 3, 1) := by decide +kernel
theorem dX6_mixBars_95 : decode cX6_mixBars 95 = .ok (.aload_n 0, 1) := by decide +kernel
theorem dX6_mixBars_96 : decode cX6_mixBars 96 = .ok (.iload 5, 2) := by decide +kernel
theorem dX6_mixBars_98 : decode cX6_mixBars 98 = .ok (.iload 6, 2) := by decide +kernel
theorem dX6_mixBars_100 : decode cX6_mixBars 100 = .ok (.invokevirtual 357, 3) := by decide +kernel
theorem dX6_mixBars_103 : decode cX6_mixBars 103 = .ok (.i2l, 1) := by decide +kernel
theorem dX6_mixBars_104 : decode cX6_mixBars 104 = .ok (.invokestatic 300, 3) := by decide +kernel
theorem dX6_mixBars_107 : decode cX6_mixBars 107 = .ok (.lstore_n 3, 1) := by decide +kernel
theorem dX6_mixBars_108 : decode cX6_mixBars 108 = .ok (.iinc 6 1, 3) := by decide +kernel
theorem dX6_mixBars_111 : decode cX6_mixBars 111 = .ok (.goto (-23), 3) := by decide +kernel
theorem dX6_mixBars_114 : decode cX6_mixBars 114 = .ok (.iinc 5 1, 3) := by decide +kernel
theorem dX6_mixBars_117 : decode cX6_mixBars 117 = .ok (.goto (-44), 3) := by decide +kernel
theorem dX6_mixBars_120 : decode cX6_mixBars 120 = .ok (.lload_n 3, 1) := by decide +kernel
theorem dX6_mixBars_121 : decode cX6_mixBars 121 = .ok (.lreturn, 1) := by decide +kernel
theorem dX6_mix_0 : decode cX6_mix 0 = .ok (.ldc2_w 360, 3) := by decide +kernel
theorem dX6_mix_3 : decode cX6_mix 3 = .ok (.lload_n 0, 1) := by decide +kernel
theorem dX6_mix_4 : decode cX6_mix 4 = .ok (.lmul, 1) := by decide +kernel
theorem dX6_mix_5 : decode cX6_mix 5 = .ok (.lload_n 2, 1) := by decide +kernel
theorem dX6_mix_6 : decode cX6_mix 6 = .ok (.ladd, 1) := by decide +kernel
theorem dX6_mix_7 : decode cX6_mix 7 = .ok (.lreturn, 1) := by decide +kernel
theorem dX6_isNoText_0 : decode cX6_isNoText 0 = .ok (.iload_n 0, 1) := by decide +kernel
theorem dX6_isNoText_1 : decode cX6_isNoText 1 = .ok (.ifCond .lt 8, 3) := by decide +kernel
theorem dX6_isNoText_4 : decode cX6_isNoText 4 = .ok (.iload_n 0, 1) := by decide +kernel
theorem dX6_isNoText_5 : decode cX6_isNoText 5 = .ok (.iconst 1, 1) := by decide +kernel
theorem dX6_isNoText_6 : decode cX6_isNoText 6 = .ok (.if_icmp .le 7, 3) := by decide +kernel
theorem dX6_isNoText_9 : decode cX6_isNoText 9 = .ok (.iconst 1, 1) := by decide +kernel
theorem dX6_isNoText_10 : decode cX6_isNoText 10 = .ok (.goto 4, 3) := by decide +kernel
theorem dX6_isNoText_13 : decode cX6_isNoText 13 = .ok (.iconst 0, 1) := by decide +kernel
theorem dX6_isNoText_14 : decode cX6_isNoText 14 = .ok (.ireturn, 1) := by decide +kernel
theorem dX6_isNoChoice_0 : decode cX6_isNoChoice 0 = .ok (.iload_n 0, 1) := by decide +kernel
theorem dX6_isNoChoice_1 : decode cX6_isNoChoice 1 = .ok (.ifCond .lt 8, 3) := by decide +kernel
theorem dX6_isNoChoice_4 : decode cX6_isNoChoice 4 = .ok (.iload_n 0, 1) := by decide +kernel
theorem dX6_isNoChoice_5 : decode cX6_isNoChoice 5 = .ok (.iconst 1, 1) := by decide +kernel
theorem dX6_isNoChoice_6 : decode cX6_isNoChoice 6 = .ok (.if_icmp .le 7, 3) := by decide +kernel
theorem dX6_isNoChoice_9 : decode cX6_isNoChoice 9 = .ok (.iconst 1, 1) := by decide +kernel
theorem dX6_isNoChoice_10 : decode cX6_isNoChoice 10 = .ok (.goto 4, 3) := by decide +kernel
theorem dX6_isNoChoice_13 : decode cX6_isNoChoice 13 = .ok (.iconst 0, 1) := by decide +kernel
theorem dX6_isNoChoice_14 : decode cX6_isNoChoice 14 = .ok (.ireturn, 1) := by decide +kernel
theorem dX6_isNoSheet_0 : decode cX6_isNoSheet 0 = .ok (.iload_n 0, 1) := by decide +kernel
theorem dX6_isNoSheet_1 : decode cX6_isNoSheet 1 = .ok (.ifCond .lt 8, 3) := by decide +kernel
theorem dX6_isNoSheet_4 : decode cX6_isNoSheet 4 = .ok (.iload_n 0, 1) := by decide +kernel
theorem dX6_isNoSheet_5 : decode cX6_isNoSheet 5 = .ok (.iconst 4, 1) := by decide +kernel
theorem dX6_isNoSheet_6 : decode cX6_isNoSheet 6 = .ok (.if_icmp .lt 7, 3) := by decide +kernel
theorem dX6_isNoSheet_9 : decode cX6_isNoSheet 9 = .ok (.iconst 1, 1) := by decide +kernel
theorem dX6_isNoSheet_10 : decode cX6_isNoSheet 10 = .ok (.goto 4, 3) := by decide +kernel
theorem dX6_isNoSheet_13 : decode cX6_isNoSheet 13 = .ok (.iconst 0, 1) := by decide +kernel
theorem dX6_isNoSheet_14 : decode cX6_isNoSheet 14 = .ok (.ireturn, 1) := by decide +kernel
theorem dX6_isNoForm_0 : decode cX6_isNoForm 0 = .ok (.iload_n 0, 1) := by decide +kernel
theorem dX6_isNoForm_1 : decode cX6_isNoForm 1 = .ok (.ifCond .lt 8, 3) := by decide +kernel
theorem dX6_isNoForm_4 : decode cX6_isNoForm 4 = .ok (.iload_n 0, 1) := by decide +kernel
theorem dX6_isNoForm_5 : decode cX6_isNoForm 5 = .ok (.iconst 3, 1) := by decide +kernel
theorem dX6_isNoForm_6 : decode cX6_isNoForm 6 = .ok (.if_icmp .lt 7, 3) := by decide +kernel
theorem dX6_isNoForm_9 : decode cX6_isNoForm 9 = .ok (.iconst 1, 1) := by decide +kernel
theorem dX6_isNoForm_10 : decode cX6_isNoForm 10 = .ok (.goto 4, 3) := by decide +kernel
theorem dX6_isNoForm_13 : decode cX6_isNoForm 13 = .ok (.iconst 0, 1) := by decide +kernel
theorem dX6_isNoForm_14 : decode cX6_isNoForm 14 = .ok (.ireturn, 1) := by decide +kernel
theorem dX6_isNoSinger_0 : decode cX6_isNoSinger 0 = .ok (.iload_n 1, 1) := by decide +kernel
theorem dX6_isNoSinger_1 : decode cX6_isNoSinger 1 = .ok (.ifCond .lt 14, 3) := by decide +kernel
theorem dX6_isNoSinger_4 : decode cX6_isNoSinger 4 = .ok (.iload_n 1, 1) := by decide +kernel
theorem dX6_isNoSinger_5 : decode cX6_isNoSinger 5 = .ok (.aload_n 0, 1) := by decide +kernel
theorem dX6_isNoSinger_6 : decode cX6_isNoSinger 6 = .ok (.getfield 24, 3) := by decide +kernel
theorem dX6_isNoSinger_9 : decode cX6_isNoSinger 9 = .ok (.getfield 165, 3) := by decide +kernel
theorem dX6_isNoSinger_12 : decode cX6_isNoSinger 12 = .ok (.if_icmp .lt 7, 3) := by decide +kernel
theorem dX6_isNoSinger_15 : decode cX6_isNoSinger 15 = .ok (.iconst 1, 1) := by decide +kernel
theorem dX6_isNoSinger_16 : decode cX6_isNoSinger 16 = .ok (.goto 4, 3) := by decide +kernel
theorem dX6_isNoSinger_19 : decode cX6_isNoSinger 19 = .ok (.iconst 0, 1) := by decide +kernel
theorem dX6_isNoSinger_20 : decode cX6_isNoSinger 20 = .ok (.ireturn, 1) := by decide +kernel
theorem dX6_isNoBar_0 : decode cX6_isNoBar 0 = .ok (.iload_n 1, 1) := by decide +kernel
theorem dX6_isNoBar_1 : decode cX6_isNoBar 1 = .ok (.ifCond .lt 14, 3) := by decide +kernel
theorem dX6_isNoBar_4 : decode cX6_isNoBar 4 = .ok (.iload_n 1, 1) := by decide +kernel
theorem dX6_isNoBar_5 : decode cX6_isNoBar 5 = .ok (.aload_n 0, 1) := by decide +kernel
theorem dX6_isNoBar_6 : decode cX6_isNoBar 6 = .ok (.getfield 34, 3) := by decide +kernel
theorem dX6_isNoBar_9 : decode cX6_isNoBar 9 = .ok (.getfield 120, 3) := by decide +kernel
theorem dX6_isNoBar_12 : decode cX6_isNoBar 12 = .ok (.if_icmp .lt 7, 3) := by decide +kernel
theorem dX6_isNoBar_15 : decode cX6_isNoBar 15 = .ok (.iconst 1, 1) := by decide +kernel
theorem dX6_isNoBar_16 : decode cX6_isNoBar 16 = .ok (.goto 4, 3) := by decide +kernel
theorem dX6_isNoBar_19 : decode cX6_isNoBar 19 = .ok (.iconst 0, 1) := by decide +kernel
theorem dX6_isNoBar_20 : decode cX6_isNoBar 20 = .ok (.ireturn, 1) := by decide +kernel
theorem dX6_isSung_0 : decode cX6_isSung 0 = .ok (.aload_n 0, 1) := by decide +kernel
theorem dX6_isSung_1 : decode cX6_isSung 1 = .ok (.iload_n 1, 1) := by decide +kernel
theorem dX6_isSung_2 : decode cX6_isSung 2 = .ok (.invokevirtual 144, 3) := by decide +kernel
theorem dX6_isSung_5 : decode cX6_isSung 5 = .ok (.ifCond .ne 20, 3) := by decide +kernel
theorem dX6_isSung_8 : decode cX6_isSung 8 = .ok (.aload_n 0, 1) := by decide +kernel
theorem dX6_isSung_9 : decode cX6_isSung 9 = .ok (.getfield 34, 3) := by decide +kernel
theorem dX6_isSung_12 : decode cX6_isSung 12 = .ok (.getfield 121, 3) := by decide +kernel
theorem dX6_isSung_15 : decode cX6_isSung 15 = .ok (.iload_n 1, 1) := by decide +kernel
theorem dX6_isSung_16 : decode cX6_isSung 16 = .ok (.iaload, 1) := by decide +kernel
theorem dX6_isSung_17 : decode cX6_isSung 17 = .ok (.iconst 1, 1) := by decide +kernel
theorem dX6_isSung_18 : decode cX6_isSung 18 = .ok (.if_icmp .eq 7, 3) := by decide +kernel
theorem dX6_isSung_21 : decode cX6_isSung 21 = .ok (.iconst 1, 1) := by decide +kernel
theorem dX6_isSung_22 : decode cX6_isSung 22 = .ok (.goto 4, 3) := by decide +kernel
theorem dX6_isSung_25 : decode cX6_isSung 25 = .ok (.iconst 0, 1) := by decide +kernel
theorem dX6_isSung_26 : decode cX6_isSung 26 = .ok (.ireturn, 1) := by decide +kernel
theorem dX6_textOf_0 : decode cX6_textOf 0 = .ok (.iload_n 1, 1) := by decide +kernel
theorem dX6_textOf_1 : decode cX6_textOf 1 = .ok (.ifCond .ne 10, 3) := by decide +kernel
theorem dX6_textOf_4 : decode cX6_textOf 4 = .ok (.aload_n 0, 1) := by decide +kernel
theorem dX6_textOf_5 : decode cX6_textOf 5 = .ok (.getfield 14, 3) := by decide +kernel
theorem dX6_textOf_8 : decode cX6_textOf 8 = .ok (.goto 7, 3) := by decide +kernel
theorem dX6_textOf_11 : decode cX6_textOf 11 = .ok (.aload_n 0, 1) := by decide +kernel
theorem dX6_textOf_12 : decode cX6_textOf 12 = .ok (.getfield 18, 3) := by decide +kernel
theorem dX6_textOf_15 : decode cX6_textOf 15 = .ok (.areturn, 1) := by decide +kernel
theorem dX6_parse_0 : decode cX6_parse 0 = .ok (.iload_n 1, 1) := by decide +kernel
theorem dX6_parse_1 : decode cX6_parse 1 = .ok (.ifCond .ne 17, 3) := by decide +kernel
theorem dX6_parse_4 : decode cX6_parse 4 = .ok (.aload_n 0, 1) := by decide +kernel
theorem dX6_parse_5 : decode cX6_parse 5 = .ok (.getfield 24, 3) := by decide +kernel
theorem dX6_parse_8 : decode cX6_parse 8 = .ok (.aload_n 0, 1) := by decide +kernel
theorem dX6_parse_9 : decode cX6_parse 9 = .ok (.getfield 14, 3) := by decide +kernel
theorem dX6_parse_12 : decode cX6_parse 12 = .ok (.invokevirtual 362, 3) := by decide +kernel
theorem dX6_parse_15 : decode cX6_parse 15 = .ok (.goto 14, 3) := by decide +kernel
theorem dX6_parse_18 : decode cX6_parse 18 = .ok (.aload_n 0, 1) := by decide +kernel
theorem dX6_parse_19 : decode cX6_parse 19 = .ok (.getfield 34, 3) := by decide +kernel
theorem dX6_parse_22 : decode cX6_parse 22 = .ok (.aload_n 0, 1) := by decide +kernel
theorem dX6_parse_23 : decode cX6_parse 23 = .ok (.getfield 18, 3) := by decide +kernel
theorem dX6_parse_26 : decode cX6_parse 26 = .ok (.invokevirtual 365, 3) := by decide +kernel
theorem dX6_parse_29 : decode cX6_parse 29 = .ok (.return_, 1) := by decide +kernel
theorem dX6_noteBehind_0 : decode cX6_noteBehind 0 = .ok (.aload_n 1, 1) := by decide +kernel
theorem dX6_noteBehind_1 : decode cX6_noteBehind 1 = .ok (.getfield 366, 3) := by decide +kernel
theorem dX6_noteBehind_4 : decode cX6_noteBehind 4 = .ok (.iload_n 3, 1) := by decide +kernel
theorem dX6_noteBehind_5 : decode cX6_noteBehind 5 = .ok (.iaload, 1) := by decide +kernel
theorem dX6_noteBehind_6 : decode cX6_noteBehind 6 = .ok (.istore 4, 2) := by decide +kernel
theorem dX6_noteBehind_8 : decode cX6_noteBehind 8 = .ok (.iload 4, 2) := by decide +kernel
theorem dX6_noteBehind_10 : decode cX6_noteBehind 10 = .ok (.iconst (-1), 1) := by decide +kernel
theorem dX6_noteBehind_11 : decode cX6_noteBehind 11 = .ok (.if_icmp .ne 7, 3) := by decide +kernel
theorem dX6_noteBehind_14 : decode cX6_noteBehind 14 = .ok (.sipush (-10000), 3) := by decide +kernel
theorem dX6_noteBehind_17 : decode cX6_noteBehind 17 = .ok (.ireturn, 1) := by decide +kernel
theorem dX6_noteBehind_18 : decode cX6_noteBehind 18 = .ok (.aload_n 2, 1) := by decide +kernel
theorem dX6_noteBehind_19 : decode cX6_noteBehind 19 = .ok (.aload_n 1, 1) := by decide +kernel
theorem dX6_noteBehind_20 : decode cX6_noteBehind 20 = .ok (.getfield 107, 3) := by decide +kernel
theorem dX6_noteBehind_23 : decode cX6_noteBehind 23 = .ok (.iload 4, 2) := by decide +kernel
theorem dX6_noteBehind_25 : decode cX6_noteBehind 25 = .ok (.iaload, 1) := by decide +kernel
theorem dX6_noteBehind_26 : decode cX6_noteBehind 26 = .ok (.invokevirtual 131, 3) := by decide +kernel
theorem dX6_noteBehind_29 : decode cX6_noteBehind 29 = .ok (.aload_n 1, 1) := by decide +kernel
theorem dX6_noteBehind_30 : decode cX6_noteBehind 30 = .ok (.getfield 369, 3) := by decide +kernel
theorem dX6_noteBehind_33 : decode cX6_noteBehind 33 = .ok (.iload_n 3, 1) := by decide +kernel
theorem dX6_noteBehind_34 : decode cX6_noteBehind 34 = .ok (.iaload, 1) := by decide +kernel
theorem dX6_noteBehind_35 : decode cX6_noteBehind 35 = .ok (.iadd, 1) := by decide +kernel
theorem dX6_noteBehind_36 : decode cX6_noteBehind 36 = .ok (.aload_n 1, 1) := by decide +kernel
theorem dX6_noteBehind_37 : decode cX6_noteBehind 37 = .ok (.getfield 113, 3) := by decide +kernel
theorem dX6_noteBehind_40 : decode cX6_noteBehind 40 = .ok (.iload_n 3, 1) := by decide +kernel
theorem dX6_noteBehind_41 : decode cX6_noteBehind 41 = .ok (.iaload, 1) := by decide +kernel
theorem dX6_noteBehind_42 : decode cX6_noteBehind 42 = .ok (.iload_n 0, 1) := by decide +kernel
theorem dX6_noteBehind_43 : decode cX6_noteBehind 43 = .ok (.imul, 1) := by decide +kernel
theorem dX6_noteBehind_44 : decode cX6_noteBehind 44 = .ok (.isub, 1) := by decide +kernel
theorem dX6_noteBehind_45 : decode cX6_noteBehind 45 = .ok (.ireturn, 1) := by decide +kernel
theorem dX6_spreadOf_0 : decode cX6_spreadOf 0 = .ok (.aload_n 0, 1) := by decide +kernel
theorem dX6_spreadOf_1 : decode cX6_spreadOf 1 = .ok (.getfield 34, 3) := by decide +kernel
theorem dX6_spreadOf_4 : decode cX6_spreadOf 4 = .ok (.getfield 147, 3) := by decide +kernel
theorem dX6_spreadOf_7 : decode cX6_spreadOf 7 = .ok (.iload_n 3, 1) := by decide +kernel
theorem dX6_spreadOf_8 : decode cX6_spreadOf 8 = .ok (.iaload, 1) := by decide +kernel
theorem dX6_spreadOf_9 : decode cX6_spreadOf 9 = .ok (.istore 4, 2) := by decide +kernel
theorem dX6_spreadOf_11 : decode cX6_spreadOf 11 = .ok (.sipush (-10000), 3) := by decide +kernel
theorem dX6_spreadOf_14 : decode cX6_spreadOf 14 = .ok (.istore 5, 2) := by decide +kernel
theorem dX6_spreadOf_16 : decode cX6_spreadOf 16 = .ok (.sipush (-10000), 3) := by decide +kernel
theorem dX6_spreadOf_19 : decode cX6_spreadOf 19 = .ok (.istore 6, 2) := by decide +kernel
theorem dX6_spreadOf_21 : decode cX6_spreadOf 21 = .ok (.iconst 0, 1) := by decide +kernel
theorem dX6_spreadOf_22 : decode cX6_spreadOf 22 = .ok (.istore 7, 2) := by decide +kernel
theorem dX6_spreadOf_24 : decode cX6_spreadOf 24 = .ok (.iload 7, 2) := by decide +kernel
theorem dX6_spreadOf_26 : decode cX6_spreadOf 26 = .ok (.aload_n 1, 1) := by decide +kernel
theorem dX6_spreadOf_27 : decode cX6_spreadOf 27 = .ok (.getfield 165, 3) := by decide +kernel
theorem dX6_spreadOf_30 : decode cX6_spreadOf 30 = .ok (.if_icmp .ge 59, 3) := by decide +kernel
theorem dX6_spreadOf_33 : decode cX6_spreadOf 33 = .ok (.iload 4, 2) := by decide +kernel
theorem dX6_spreadOf_35 : decode cX6_spreadOf 35 = .ok (.aload_n 1, 1) := by decide +kernel
theorem dX6_spreadOf_36 : decode cX6_spreadOf 36 = .ok (.aload_n 2, 1) := by decide +kernel
theorem dX6_spreadOf_37 : decode cX6_spreadOf 37 = .ok (.iload 7, 2) := by decide +kernel
theorem dX6_spreadOf_39 : decode cX6_spreadOf 39 = .ok (.invokestatic 150, 3) := by decide +kernel
theorem dX6_spreadOf_42 : decode cX6_spreadOf 42 = .ok (.istore 8, 2) := by decide +kernel
theorem dX6_spreadOf_44 : decode cX6_spreadOf 44 = .ok (.iload 8, 2) := by decide +kernel
theorem dX6_spreadOf_46 : decode cX6_spreadOf 46 = .ok (.sipush (-10000), 3) := by decide +kernel
theorem dX6_spreadOf_49 : decode cX6_spreadOf 49 = .ok (.if_icmp .eq 34, 3) := by decide +kernel
theorem dX6_spreadOf_52 : decode cX6_spreadOf 52 = .ok (.iload 5, 2) := by decide +kernel
theorem dX6_spreadOf_54 : decode cX6_spreadOf 54 = .ok (.sipush (-10000), 3) := by decide +kernel
theorem dX6_spreadOf_57 : decode cX6_spreadOf 57 = .ok (.if_icmp .ne 8, 3) := by decide +kernel
theorem dX6_spreadOf_60 : decode cX6_spreadOf 60 = .ok (.iload 8, 2) := by decide +kernel
theorem dX6_spreadOf_62 : decode cX6_spreadOf 62 = .ok (.goto 10, 3) := by decide +kernel
theorem dX6_spreadOf_65 : decode cX6_spreadOf 65 = .ok (.iload 5, 2) := by decide +kernel
theorem dX6_spreadOf_67 : decode cX6_spreadOf 67 = .ok (.iload 8, 2) := by decide +kernel
theorem dX6_spreadOf_69 : decode cX6_spreadOf 69 = .ok (.invokestatic 166, 3) := by decide +kernel
theorem dX6_spreadOf_72 : decode cX6_spreadOf 72 = .ok (.istore 5, 2) := by decide +kernel
theorem dX6_spreadOf_74 : decode cX6_spreadOf 74 = .ok (.iload 6, 2) := by decide +kernel
theorem dX6_spreadOf_76 : decode cX6_spreadOf 76 = .ok (.iload 8, 2) := by decide +kernel
theorem dX6_spreadOf_78 : decode cX6_spreadOf 78 = .ok (.invokestatic 372, 3) := by decide +kernel
theorem dX6_spreadOf_81 : decode cX6_spreadOf 81 = .ok (.istore 6, 2) := by decide +kernel
theorem dX6_spreadOf_83 : decode cX6_spreadOf 83 = .ok (.iinc 7 1, 3) := by decide +kernel
theorem dX6_spreadOf_86 : decode cX6_spreadOf 86 = .ok (.goto (-62), 3) := by decide +kernel
theorem dX6_spreadOf_89 : decode cX6_spreadOf 89 = .ok (.iload 6, 2) := by decide +kernel
theorem dX6_spreadOf_91 : decode cX6_spreadOf 91 = .ok (.iload 5, 2) := by decide +kernel
theorem dX6_spreadOf_93 : decode cX6_spreadOf 93 = .ok (.isub, 1) := by decide +kernel
theorem dX6_spreadOf_94 : decode cX6_spreadOf 94 = .ok (.ireturn, 1) := by decide +kernel
theorem dX6_closes_0 : decode cX6_closes 0 = .ok (.aload_n 0, 1) := by decide +kernel
theorem dX6_closes_1 : decode cX6_closes 1 = .ok (.iload_n 2, 1) := by decide +kernel
theorem dX6_closes_2 : decode cX6_closes 2 = .ok (.invokevirtual 237, 3) := by decide +kernel
theorem dX6_closes_5 : decode cX6_closes 5 = .ok (.ifCond .eq 24, 3) := by decide +kernel
theorem dX6_closes_8 : decode cX6_closes 8 = .ok (.aload_n 0, 1) := by decide +kernel
theorem dX6_closes_9 : decode cX6_closes 9 = .ok (.aload_n 0, 1) := by decide +kernel
theorem dX6_closes_10 : decode cX6_closes 10 = .ok (.getfield 24, 3) := by decide +kernel
theorem dX6_closes_13 : decode cX6_closes 13 = .ok (.aload_n 1, 1) := by decide +kernel
theorem dX6_closes_14 : decode cX6_closes 14 = .ok (.iload_n 2, 1) := by decide +kernel
theorem dX6_closes_15 : decode cX6_closes 15 = .ok (.invokevirtual 154, 3) := by decide +kernel
theorem dX6_closes_18 : decode cX6_closes 18 = .ok (.aload_n 1, 1) := by decide +kernel
theorem dX6_closes_19 : decode cX6_closes 19 = .ok (.getfield 375, 3) := by decide +kernel
theorem dX6_closes_22 : decode cX6_closes 22 = .ok (.if_icmp .gt 7, 3) := by decide +kernel
theorem dX6_closes_25 : decode cX6_closes 25 = .ok (.iconst 1, 1) := by decide +kernel
theorem dX6_closes_26 : decode cX6_closes 26 = .ok (.goto 4, 3) := by decide +kernel
theorem dX6_closes_29 : decode cX6_closes 29 = .ok (.iconst 0, 1) := by decide +kernel
theorem dX6_closes_30 : decode cX6_closes 30 = .ok (.ireturn, 1) := by decide +kernel
theorem dX6_flattestIn_0 : decode cX6_flattestIn 0 = .ok (.aload_n 0, 1) := by decide +kernel
theorem dX6_flattestIn_1 : decode cX6_flattestIn 1 = .ok (.getfield 34, 3) := by decide +kernel
theorem dX6_flattestIn_4 : decode cX6_flattestIn 4 = .ok (.getfield 147, 3) := by decide +kernel
theorem dX6_flattestIn_7 : decode cX6_flattestIn 7 = .ok (.iload_n 1, 1) := by decide +kernel
theorem dX6_flattestIn_8 : decode cX6_flattestIn 8 = .ok (.iaload, 1) := by decide +kernel
theorem dX6_flattestIn_9 : decode cX6_flattestIn 9 = .ok (.istore_n 2, 1) := by decide +kernel
theorem dX6_flattestIn_10 : decode cX6_flattestIn 10 = .ok (.iconst (-1), 1) := by decide +kernel
theorem dX6_flattestIn_11 : decode cX6_flattestIn 11 = .ok (.istore_n 3, 1) := by decide +kernel
theorem dX6_flattestIn_12 : decode cX6_flattestIn 12 = .ok (.sipush (-10000), 3) := by decide +kernel
theorem dX6_flattestIn_15 : decode cX6_flattestIn 15 = .ok (.istore 4, 2) := by decide +kernel
theorem dX6_flattestIn_17 : decode cX6_flattestIn 17 = .ok (.iconst 0, 1) := by decide +kernel
theorem dX6_flattestIn_18 : decode cX6_flattestIn 18 = .ok (.istore 5, 2) := by decide +kernel
theorem dX6_flattestIn_20 : decode cX6_flattestIn 20 = .ok (.iload 5, 2) := by decide +kernel
theorem dX6_flattestIn_22 : decode cX6_flattestIn 22 = .ok (.aload_n 0, 1) := by decide +kernel
theorem dX6_flattestIn_23 : decode cX6_flattestIn 23 = .ok (.getfield 24, 3) := by decide +kernel
theorem dX6_flattestIn_26 : decode cX6_flattestIn 26 = .ok (.getfield 165, 3) := by decide +kernel
theorem dX6_flattestIn_29 : decode cX6_flattestIn 29 = .ok (.if_icmp .ge 52, 3) := by decide +kernel
theorem dX6_flattestIn_32 : decode cX6_flattestIn 32 = .ok (.iload_n 2, 1) := by decide +kernel
theorem dX6_flattestIn_33 : decode cX6_flattestIn 33 = .ok (.aload_n 0, 1) := by decide +kernel
theorem dX6_flattestIn_34 : decode cX6_flattestIn 34 = .ok (.getfield 24, 3) := by decide +kernel
theorem dX6_flattestIn_37 : decode cX6_flattestIn 37 = .ok (.aload_n 0, 1) := by decide +kernel
theorem dX6_flattestIn_38 : decode cX6_flattestIn 38 = .ok (.getfield 41, 3) := by decide +kernel
theorem dX6_flattestIn_41 : decode cX6_flattestIn 41 = .ok (.iload 5, 2) := by decide +kernel
theorem dX6_flattestIn_43 : decode cX6_flattestIn 43 = .ok (.invokestatic 150, 3) := by decide +kernel
theorem dX6_flattestIn_46 : decode cX6_flattestIn 46 = .ok (.istore 6, 2) := by decide +kernel
theorem dX6_flattestIn_48 : decode cX6_flattestIn 48 = .ok (.iload 6, 2) := by decide +kernel
theorem dX6_flattestIn_50 : decode cX6_flattestIn 50 = .ok (.sipush (-10000), 3) := by decide +kernel
theorem dX6_flattestIn_53 : decode cX6_flattestIn 53 = .ok (.if_icmp .eq 22, 3) := by decide +kernel
theorem dX6_flattestIn_56 : decode cX6_flattestIn 56 = .ok (.iload_n 3, 1) := by decide +kernel
theorem dX6_flattestIn_57 : decode cX6_flattestIn 57 = .ok (.iconst (-1), 1) := by decide +kernel
theorem dX6_flattestIn_58 : decode cX6_flattestIn 58 = .ok (.if_icmp .eq 10, 3) := by decide +kernel
theorem dX6_flattestIn_61 : decode cX6_flattestIn 61 = .ok (.iload 6, 2) := by decide +kernel
theorem dX6_flattestIn_63 : decode cX6_flattestIn 63 = .ok (.iload 4, 2) := by decide +kernel
theorem dX6_flattestIn_65 : decode cX6_flattestIn 65 = .ok (.if_icmp .ge 10, 3) := by decide +kernel
theorem dX6_flattestIn_68 : decode cX6_flattestIn 68 = .ok (.iload 5, 2) := by decide +kernel
theorem dX6_flattestIn_70 : decode cX6_flattestIn 70 = .ok (.istore_n 3, 1) := by decide +kernel
theorem dX6_flattestIn_71 : decode cX6_flattestIn 71 = .ok (.iload 6, 2) := by decide +kernel
theorem dX6_flattestIn_73 : decode cX6_flattestIn 73 = .ok (.istore 4, 2) := by decide +kernel
theorem dX6_flattestIn_75 : decode cX6_flattestIn 75 = .ok (.iinc 5 1, 3) := by decide +kernel
theorem dX6_flattestIn_78 : decode cX6_flattestIn 78 = .ok (.goto (-58), 3) := by decide +kernel
theorem dX6_flattestIn_81 : decode cX6_flattestIn 81 = .ok (.iload_n 3, 1) := by decide +kernel
theorem dX6_flattestIn_82 : decode cX6_flattestIn 82 = .ok (.ireturn, 1) := by decide +kernel
theorem dX6_bestOrder_0 : decode cX6_bestOrder 0 = .ok (.iconst 0, 1) := by decide +kernel
theorem dX6_bestOrder_1 : decode cX6_bestOrder 1 = .ok (.istore_n 3, 1) := by decide +kernel
theorem dX6_bestOrder_2 : decode cX6_bestOrder 2 = .ok (.aload_n 0, 1) := by decide +kernel
theorem dX6_bestOrder_3 : decode cX6_bestOrder 3 = .ok (.iconst 0, 1) := by decide +kernel
theorem dX6_bestOrder_4 : decode cX6_bestOrder 4 = .ok (.iload_n 2, 1) := by decide +kernel
theorem dX6_bestOrder_5 : decode cX6_bestOrder 5 = .ok (.iload_n 1, 1) := by decide +kernel
theorem dX6_bestOrder_6 : decode cX6_bestOrder 6 = .ok (.invokevirtual 178, 3) := by decide +kernel
theorem dX6_bestOrder_9 : decode cX6_bestOrder 9 = .ok (.istore 4, 2) := by decide +kernel
theorem dX6_bestOrder_11 : decode cX6_bestOrder 11 = .ok (.iconst 1, 1) := by decide +kernel
theorem dX6_bestOrder_12 : decode cX6_bestOrder 12 = .ok (.istore 5, 2) := by decide +kernel
theorem dX6_bestOrder_14 : decode cX6_bestOrder 14 = .ok (.iload 5, 2) := by decide +kernel
theorem dX6_bestOrder_16 : decode cX6_bestOrder 16 = .ok (.getstatic 378, 3) := by decide +kernel
theorem dX6_bestOrder_19 : decode cX6_bestOrder 19 = .ok (.iload_n 2, 1) := by decide +kernel
theorem dX6_bestOrder_20 : decode cX6_bestOrder 20 = .ok (.iaload, 1) := by decide +kernel
theorem dX6_bestOrder_21 : decode cX6_bestOrder 21 = .ok (.if_icmp .ge 38, 3) := by decide +kernel
theorem dX6_bestOrder_24 : decode cX6_bestOrder 24 = .ok (.iload 4, 2) := by decide +kernel
theorem dX6_bestOrder_26 : decode cX6_bestOrder 26 = .ok (.ifCond .le 33, 3) := by decide +kernel
theorem dX6_bestOrder_29 : decode cX6_bestOrder 29 = .ok (.aload_n 0, 1) := by decide +kernel
theorem dX6_bestOrder_30 : decode cX6_bestOrder 30 = .ok (.iload 5, 2) := by decide +kernel
theorem dX6_bestOrder_32 : decode cX6_bestOrder 32 = .ok (.iload_n 2, 1) := by decide +kernel
theorem dX6_bestOrder_33 : decode cX6_bestOrder 33 = .ok (.iload_n 1, 1) := by decide +kernel
theorem dX6_bestOrder_34 : decode cX6_bestOrder 34 = .ok (.invokevirtual 178, 3) := by decide +kernel
theorem dX6_bestOrder_37 : decode cX6_bestOrder 37 = .ok (.istore 6, 2) := by decide +kernel
theorem dX6_bestOrder_39 : decode cX6_bestOrder 39 = .ok (.iload 6, 2) := by decide +kernel
theorem dX6_bestOrder_41 : decode cX6_bestOrder 41 = .ok (.iload 4, 2) := by decide +kernel
theorem dX6_bestOrder_43 : decode cX6_bestOrder 43 = .ok (.if_icmp .ge 10, 3) := by decide +kernel
theorem dX6_bestOrder_46 : decode cX6_bestOrder 46 = .ok (.iload 5, 2) := by decide +kernel
theorem dX6_bestOrder_48 : decode cX6_bestOrder 48 = .ok (.istore_n 3, 1) := by decide +kernel
theorem dX6_bestOrder_49 : decode cX6_bestOrder 49 = .ok (.iload 6, 2) := by decide +kernel
theorem dX6_bestOrder_51 : decode cX6_bestOrder 51 = .ok (.istore 4, 2) := by decide +kernel
theorem dX6_bestOrder_53 : decode cX6_bestOrder 53 = .ok (.iinc 5 1, 3) := by decide +kernel
theorem dX6_bestOrder_56 : decode cX6_bestOrder 56 = .ok (.goto (-42), 3) := by decide +kernel
theorem dX6_bestOrder_59 : decode cX6_bestOrder 59 = .ok (.iload_n 3, 1) := by decide +kernel
theorem dX6_bestOrder_60 : decode cX6_bestOrder 60 = .ok (.ireturn, 1) := by decide +kernel
theorem dX6_spreadWhenMoved_0 : decode cX6_spreadWhenMoved 0 = .ok (.aload_n 0, 1) := by decide +kernel
theorem dX6_spreadWhenMoved_1 : decode cX6_spreadWhenMoved 1 = .ok (.iload_n 1, 1) := by decide +kernel
theorem dX6_spreadWhenMoved_2 : decode cX6_spreadWhenMoved 2 = .ok (.iload_n 2, 1) := by decide +kernel
theorem dX6_spreadWhenMoved_3 : decode cX6_spreadWhenMoved 3 = .ok (.invokevirtual 182, 3) := by decide +kernel
theorem dX6_spreadWhenMoved_6 : decode cX6_spreadWhenMoved 6 = .ok (.iconst 0, 1) := by decide +kernel
theorem dX6_spreadWhenMoved_7 : decode cX6_spreadWhenMoved 7 = .ok (.istore 4, 2) := by decide +kernel
theorem dX6_spreadWhenMoved_9 : decode cX6_spreadWhenMoved 9 = .ok (.iload 4, 2) := by decide +kernel
theorem dX6_spreadWhenMoved_11 : decode cX6_spreadWhenMoved 11 = .ok (.iload_n 2, 1) := by decide +kernel
theorem dX6_spreadWhenMoved_12 : decode cX6_spreadWhenMoved 12 = .ok (.if_icmp .ge 34, 3) := by decide +kernel
theorem dX6_spreadWhenMoved_15 : decode cX6_spreadWhenMoved 15 = .ok (.aload_n 0, 1) := by decide +kernel
theorem dX6_spreadWhenMoved_16 : decode cX6_spreadWhenMoved 16 = .ok (.getfield 28, 3) := by decide +kernel
theorem dX6_spreadWhenMoved_19 : decode cX6_spreadWhenMoved 19 = .ok (.getfield 107, 3) := by decide +kernel
theorem dX6_spreadWhenMoved_22 : decode cX6_spreadWhenMoved 22 = .ok (.iload 4, 2) := by decide +kernel
theorem dX6_spreadWhenMoved_24 : decode cX6_spreadWhenMoved 24 = .ok (.aload_n 0, 1) := by decide +kernel
theorem dX6_spreadWhenMoved_25 : decode cX6_spreadWhenMoved 25 = .ok (.getfield 24, 3) := by decide +kernel
theorem dX6_spreadWhenMoved_28 : decode cX6_spreadWhenMoved 28 = .ok (.getfield 107, 3) := by decide +kernel
theorem dX6_spreadWhenMoved_31 : decode cX6_spreadWhenMoved 31 = .ok (.aload_n 0, 1) := by decide +kernel
theorem dX6_spreadWhenMoved_32 : decode cX6_spreadWhenMoved 32 = .ok (.getfield 62, 3) := by decide +kernel
theorem dX6_spreadWhenMoved_35 : decode cX6_spreadWhenMoved 35 = .ok (.iload 4, 2) := by decide +kernel
theorem dX6_spreadWhenMoved_37 : decode cX6_spreadWhenMoved 37 = .ok (.iaload, 1) := by decide +kernel
theorem dX6_spreadWhenMoved_38 : decode cX6_spreadWhenMoved 38 = .ok (.iaload, 1) := by decide +kernel
theorem dX6_spreadWhenMoved_39 : decode cX6_spreadWhenMoved 39 = .ok (.iastore, 1) := by decide +kernel
theorem dX6_spreadWhenMoved_40 : decode cX6_spreadWhenMoved 40 = .ok (.iinc 4 1, 3) := by decide +kernel
theorem dX6_spreadWhenMoved_43 : decode cX6_spreadWhenMoved 43 = .ok (.goto (-34), 3) := by decide +kernel
theorem dX6_spreadWhenMoved_46 : decode cX6_spreadWhenMoved 46 = .ok (.aload_n 0, 1) := by decide +kernel
theorem dX6_spreadWhenMoved_47 : decode cX6_spreadWhenMoved 47 = .ok (.getfield 28, 3) := by decide +kernel
theorem dX6_spreadWhenMoved_50 : decode cX6_spreadWhenMoved 50 = .ok (.invokevirtual 381, 3) := by decide +kernel
theorem dX6_spreadWhenMoved_53 : decode cX6_spreadWhenMoved 53 = .ok (.aload_n 0, 1) := by decide +kernel
theorem dX6_spreadWhenMoved_54 : decode cX6_spreadWhenMoved 54 = .ok (.aload_n 0, 1) := by decide +kernel
theorem dX6_spreadWhenMoved_55 : decode cX6_spreadWhenMoved 55 = .ok (.getfield 28, 3) := by decide +kernel
theorem dX6_spreadWhenMoved_58 : decode cX6_spreadWhenMoved 58 = .ok (.aload_n 0, 1) := by decide +kernel
theorem dX6_spreadWhenMoved_59 : decode cX6_spreadWhenMoved 59 = .ok (.getfield 41, 3) := by decide +kernel
theorem dX6_spreadWhenMoved_62 : decode cX6_spreadWhenMoved 62 = .ok (.iload_n 3, 1) := by decide +kernel
theorem dX6_spreadWhenMoved_63 : decode cX6_spreadWhenMoved 63 = .ok (.invokevirtual 154, 3) := by decide +kernel
theorem dX6_spreadWhenMoved_66 : decode cX6_spreadWhenMoved 66 = .ok (.ireturn, 1) := by decide +kernel
theorem dX6_layOrder_0 : decode cX6_layOrder 0 = .ok (.iload_n 1, 1) := by decide +kernel
theorem dX6_layOrder_1 : decode cX6_layOrder 1 = .ok (.istore_n 3, 1) := by decide +kernel
theorem dX6_layOrder_2 : decode cX6_layOrder 2 = .ok (.iconst 0, 1) := by decide +kernel
theorem dX6_layOrder_3 : decode cX6_layOrder 3 = .ok (.istore 4, 2) := by decide +kernel
theorem dX6_layOrder_5 : decode cX6_layOrder 5 = .ok (.iconst 0, 1) := by decide +kernel
theorem dX6_layOrder_6 : decode cX6_layOrder 6 = .ok (.istore 5, 2) := by decide +kernel
theorem dX6_layOrder_8 : decode cX6_layOrder 8 = .ok (.iload 5, 2) := by decide +kernel
theorem dX6_layOrder_10 : decode cX6_layOrder 10 = .ok (.iload_n 2, 1) := by decide +kernel
theorem dX6_layOrder_11 : decode cX6_layOrder 11 = .ok (.if_icmp .ge 61, 3) := by decide +kernel
theorem dX6_layOrder_14 : decode cX6_layOrder 14 = .ok (.iconst 1, 1) := by decide +kernel
theorem dX6_layOrder_15 : decode cX6_layOrder 15 = .ok (.getstatic 378, 3) := by decide +kernel
theorem dX6_layOrder_18 : decode cX6_layOrder 18 = .ok (.iload_n 2, 1) := by decide +kernel
theorem dX6_layOrder_19 : decode cX6_layOrder 19 = .ok (.iconst 1, 1) := by decide +kernel
theorem dX6_layOrder_20 : decode cX6_layOrder 20 = .ok (.isub, 1) := by decide +kernel
theorem dX6_layOrder_21 : decode cX6_layOrder 21 = .ok (.iload 5, 2) := by decide +kernel
theorem dX6_layOrder_23 : decode cX6_layOrder 23 = .ok (.isub, 1) := by decide +kernel
theorem dX6_layOrder_24 : decode cX6_layOrder 24 = .ok (.iaload, 1) := by decide +kernel
theorem dX6_layOrder_25 : decode cX6_layOrder 25 = .ok (.invokestatic 372, 3) := by decide +kernel
theorem dX6_layOrder_28 : decode cX6_layOrder 28 = .ok (.istore 6, 2) := by decide +kernel
theorem dX6_layOrder_30 : decode cX6_layOrder 30 = .ok (.aload_n 0, 1) := by decide +kernel
theorem dX6_layOrder_31 : decode cX6_layOrder 31 = .ok (.getfield 62, 3) := by decide +kernel
theorem dX6_layOrder_34 : decode cX6_layOrder 34 = .ok (.iload 5, 2) := by decide +kernel
theorem dX6_layOrder_36 : decode cX6_layOrder 36 = .ok (.iload_n 3, 1) := by decide +kernel
theorem dX6_layOrder_37 : decode cX6_layOrder 37 = .ok (.iload 6, 2) := by decide +kernel
theorem dX6_layOrder_39 : decode cX6_layOrder 39 = .ok (.idiv, 1) := by decide +kernel
theorem dX6_layOrder_40 : decode cX6_layOrder 40 = .ok (.iload 4, 2) := by decide +kernel
theorem dX6_layOrder_42 : decode cX6_layOrder 42 = .ok (.iload_n 2, 1) := by decide +kernel
theorem dX6_layOrder_43 : decode cX6_layOrder 43 = .ok (.invokestatic 384, 3) := by decide +kernel
theorem dX6_layOrder_46 : decode cX6_layOrder 46 = .ok (.iastore, 1) := by decide +kernel
theorem dX6_layOrder_47 : decode cX6_layOrder 47 = .ok (.iload 4, 2) := by decide +kernel
theorem dX6_layOrder_49 : decode cX6_layOrder 49 = .ok (.iconst 1, 1) := by decide +kernel
theorem dX6_layOrder_50 : decode cX6_layOrder 50 = .ok (.aload_n 0, 1) := by decide +kernel
theorem dX6_layOrder_51 : decode cX6_layOrder 51 = .ok (.getfield 62, 3) := by decide +kernel
theorem dX6_layOrder_54 : decode cX6_layOrder 54 = .ok (.iload 5, 2) := by decide +kernel
theorem dX6_layOrder_56 : decode cX6_layOrder 56 = .ok (.iaload, 1) := by decide +kernel
theorem dX6_layOrder_57 : decode cX6_layOrder 57 = .ok (.ishl, 1) := by decide +kernel
theorem dX6_layOrder_58 : decode cX6_layOrder 58 = .ok (.ior, 1) := by decide +kernel
theorem dX6_layOrder_59 : decode cX6_layOrder 59 = .ok (.istore 4, 2) := by decide +kernel
theorem dX6_layOrder_61 : decode cX6_layOrder 61 = .ok (.iload_n 3, 1) := by decide +kernel
theorem dX6_layOrder_62 : decode cX6_layOrder 62 = .ok (.iload 6, 2) := by decide +kernel
theorem dX6_layOrder_64 : decode cX6_layOrder 64 = .ok (.irem, 1) := by decide +kernel
theorem dX6_layOrder_65 : decode cX6_layOrder 65 = .ok (.istore_n 3, 1) := by decide +kernel
theorem dX6_layOrder_66 : decode cX6_layOrder 66 = .ok (.iinc 5 1, 3) := by decide +kernel
theorem dX6_layOrder_69 : decode cX6_layOrder 69 = .ok (.goto (-61), 3) := by decide +kernel
theorem dX6_layOrder_72 : decode cX6_layOrder 72 = .ok (.return_, 1) := by decide +kernel
theorem dX6_unusedAt_0 : decode cX6_unusedAt 0 = .ok (.iconst 0, 1) := by decide +kernel
theorem dX6_unusedAt_1 : decode cX6_unusedAt 1 = .ok (.istore_n 3, 1) := by decide +kernel
theorem dX6_unusedAt_2 : decode cX6_unusedAt 2 = .ok (.iconst 0, 1) := by decide +kernel
theorem dX6_unusedAt_3 : decode cX6_unusedAt 3 = .ok (.istore 4, 2) := by decide +kernel
theorem dX6_unusedAt_5 : decode cX6_unusedAt 5 = .ok (.iload 4, 2) := by decide +kernel
theorem dX6_unusedAt_7 : decode cX6_unusedAt 7 = .ok (.iload_n 2, 1) := by decide +kernel
theorem dX6_unusedAt_8 : decode cX6_unusedAt 8 = .ok (.if_icmp .ge 29, 3) := by decide +kernel
theorem dX6_unusedAt_11 : decode cX6_unusedAt 11 = .ok (.iload_n 1, 1) := by decide +kernel
theorem dX6_unusedAt_12 : decode cX6_unusedAt 12 = .ok (.iconst 1, 1) := by decide +kernel
theorem dX6_unusedAt_13 : decode cX6_unusedAt 13 = .ok (.iload 4, 2) := by decide +kernel
theorem dX6_unusedAt_15 : decode cX6_unusedAt 15 = .ok (.ishl, 1) := by decide +kernel
theorem dX6_unusedAt_16 : decode cX6_unusedAt 16 = .ok (.iand, 1) := by decide +kernel
theorem dX6_unusedAt_17 : decode cX6_unusedAt 17 = .ok (.ifCond .ne 14, 3) := by decide +kernel
theorem dX6_unusedAt_20 : decode cX6_unusedAt 20 = .ok (.iload_n 3, 1) := by decide +kernel
theorem dX6_unusedAt_21 : decode cX6_unusedAt 21 = .ok (.iload_n 0, 1) := by decide +kernel
theorem dX6_unusedAt_22 : decode cX6_unusedAt 22 = .ok (.if_icmp .ne 6, 3) := by decide +kernel
theorem dX6_unusedAt_25 : decode cX6_unusedAt 25 = .ok (.iload 4, 2) := by decide +kernel
theorem dX6_unusedAt_27 : decode cX6_unusedAt 27 = .ok (.ireturn, 1) := by decide +kernel
theorem dX6_unusedAt_28 : decode cX6_unusedAt 28 = .ok (.iinc 3 1, 3) := by decide +kernel
theorem dX6_unusedAt_31 : decode cX6_unusedAt 31 = .ok (.iinc 4 1, 3) := by decide +kernel
theorem dX6_unusedAt_34 : decode cX6_unusedAt 34 = .ok (.goto (-29), 3) := by decide +kernel
theorem dX6_unusedAt_37 : decode cX6_unusedAt 37 = .ok (.iconst 0, 1) := by decide +kernel
theorem dX6_unusedAt_38 : decode cX6_unusedAt 38 = .ok (.ireturn, 1) := by decide +kernel
theorem dX6_fewestToHush_0 : decode cX6_fewestToHush 0 = .ok (.iconst (-1), 1) := by decide +kernel
theorem dX6_fewestToHush_1 : decode cX6_fewestToHush 1 = .ok (.istore_n 2, 1) := by decide +kernel
theorem dX6_fewestToHush_2 : decode cX6_fewestToHush 2 = .ok (.iconst 0, 1) := by decide +kernel
theorem dX6_fewestToHush_3 : decode cX6_fewestToHush 3 = .ok (.istore_n 3, 1) := by decide +kernel
theorem dX6_fewestToHush_4 : decode cX6_fewestToHush 4 = .ok (.iload_n 3, 1) := by decide +kernel
theorem dX6_fewestToHush_5 : decode cX6_fewestToHush 5 = .ok (.aload_n 0, 1) := by decide +kernel
theorem dX6_fewestToHush_6 : decode cX6_fewestToHush 6 = .ok (.getfield 24, 3) := by decide +kernel
theorem dX6_fewestToHush_9 : decode cX6_fewestToHush 9 = .ok (.getfield 165, 3) := by decide +kernel
theorem dX6_fewestToHush_12 : decode cX6_fewestToHush 12 = .ok (.if_icmp .ge 72, 3) := by decide +kernel
theorem dX6_fewestToHush_15 : decode cX6_fewestToHush 15 = .ok (.iload_n 1, 1) := by decide +kernel
theorem dX6_fewestToHush_16 : decode cX6_fewestToHush 16 = .ok (.aload_n 0, 1) := by decide +kernel
theorem dX6_fewestToHush_17 : decode cX6_fewestToHush 17 = .ok (.getfield 24, 3) := by decide +kernel
theorem dX6_fewestToHush_20 : decode cX6_fewestToHush 20 = .ok (.aload_n 0, 1) := by decide +kernel
theorem dX6_fewestToHush_21 : decode cX6_fewestToHush 21 = .ok (.getfield 41, 3) := by decide +kernel
theorem dX6_fewestToHush_24 : decode cX6_fewestToHush 24 = .ok (.iload_n 3, 1) := by decide +kernel
theorem dX6_fewestToHush_25 : decode cX6_fewestToHush 25 = .ok (.invokestatic 150, 3) := by decide +kernel
theorem dX6_fewestToHush_28 : decode cX6_fewestToHush 28 = .ok (.istore 4, 2) := by decide +kernel
theorem dX6_fewestToHush_30 : decode cX6_fewestToHush 30 = .ok (.iload 4, 2) := by decide +kernel
theorem dX6_fewestToHush_32 : decode cX6_fewestToHush 32 = .ok (.sipush (-10000), 3) := by decide +kernel
theorem dX6_fewestToHush_35 : decode cX6_fewestToHush 35 = .ok (.if_icmp .eq 43, 3) := by decide +kernel
theorem dX6_fewestToHush_38 : decode cX6_fewestToHush 38 = .ok (.aload_n 0, 1) := by decide +kernel
theorem dX6_fewestToHush_39 : decode cX6_fewestToHush 39 = .ok (.iload 4, 2) := by decide +kernel
theorem dX6_fewestToHush_41 : decode cX6_fewestToHush 41 = .ok (.iload 4, 2) := by decide +kernel
theorem dX6_fewestToHush_43 : decode cX6_fewestToHush 43 = .ok (.aload_n 0, 1) := by decide +kernel
theorem dX6_fewestToHush_44 : decode cX6_fewestToHush 44 = .ok (.getfield 41, 3) := by decide +kernel
theorem dX6_fewestToHush_47 : decode cX6_fewestToHush 47 = .ok (.getfield 375, 3) := by decide +kernel
theorem dX6_fewestToHush_50 : decode cX6_fewestToHush 50 = .ok (.iadd, 1) := by decide +kernel
theorem dX6_fewestToHush_51 : decode cX6_fewestToHush 51 = .ok (.iload_n 1, 1) := by decide +kernel
theorem dX6_fewestToHush_52 : decode cX6_fewestToHush 52 = .ok (.invokevirtual 387, 3) := by decide +kernel
theorem dX6_fewestToHush_55 : decode cX6_fewestToHush 55 = .ok (.istore 5, 2) := by decide +kernel
theorem dX6_fewestToHush_57 : decode cX6_fewestToHush 57 = .ok (.iload_n 2, 1) := by decide +kernel
theorem dX6_fewestToHush_58 : decode cX6_fewestToHush 58 = .ok (.iconst (-1), 1) := by decide +kernel
theorem dX6_fewestToHush_59 : decode cX6_fewestToHush 59 = .ok (.if_icmp .eq 12, 3) := by decide +kernel
theorem dX6_fewestToHush_62 : decode cX6_fewestToHush 62 = .ok (.iload 5, 2) := by decide +kernel
theorem dX6_fewestToHush_64 : decode cX6_fewestToHush 64 = .ok (.iload_n 2, 1) := by decide +kernel
theorem dX6_fewestToHush_65 : decode cX6_fewestToHush 65 = .ok (.invokestatic 390, 3) := by decide +kernel
theorem dX6_fewestToHush_68 : decode cX6_fewestToHush 68 = .ok (.ifCond .eq 8, 3) := by decide +kernel
theorem dX6_fewestToHush_71 : decode cX6_fewestToHush 71 = .ok (.iload 5, 2) := by decide +kernel
theorem dX6_fewestToHush_73 : decode cX6_fewestToHush 73 = .ok (.goto 4, 3) := by decide +kernel
theorem dX6_fewestToHush_76 : decode cX6_fewestToHush 76 = .ok (.iload_n 2, 1) := by decide +kernel
theorem dX6_fewestToHush_77 : decode cX6_fewestToHush 77 = .ok (.istore_n 2, 1) := by decide +kernel
theorem dX6_fewestToHush_78 : decode cX6_fewestToHush 78 = .ok (.iinc 3 1, 3) := by decide +kernel
theorem dX6_fewestToHush_81 : decode cX6_fewestToHush 81 = .ok (.goto (-77), 3) := by decide +kernel
theorem dX6_fewestToHush_84 : decode cX6_fewestToHush 84 = .ok (.iload_n 2, 1) := by decide +kernel
theorem dX6_fewestToHush_85 : decode cX6_fewestToHush 85 = .ok (.iconst (-1), 1) := by decide +kernel
theorem dX6_fewestToHush_86 : decode cX6_fewestToHush 86 = .ok (.if_icmp .ne 7, 3) := by decide +kernel
theorem dX6_fewestToHush_89 : decode cX6_fewestToHush 89 = .ok (.iconst 0, 1) := by decide +kernel
theorem dX6_fewestToHush_90 : decode cX6_fewestToHush 90 = .ok (.goto 4, 3) := by decide +kernel
theorem dX6_fewestToHush_93 : decode cX6_fewestToHush 93 = .ok (.iload_n 2, 1) := by decide +kernel
theorem dX6_fewestToHush_94 : decode cX6_fewestToHush 94 = .ok (.ireturn, 1) := by decide +kernel
theorem dX6_outside_0 : decode cX6_outside 0 = .ok (.iconst 0, 1) := by decide +kernel
theorem dX6_outside_1 : decode cX6_outside 1 = .ok (.istore 4, 2) := by decide +kernel
theorem dX6_outside_3 : decode cX6_outside 3 = .ok (.iconst 0, 1) := by decide +kernel
theorem dX6_outside_4 : decode cX6_outside 4 = .ok (.istore 5, 2) := by decide +kernel
theorem dX6_outside_6 : decode cX6_outside 6 = .ok (.iload 5, 2) := by decide +kernel
theorem dX6_outside_8 : decode cX6_outside 8 = .ok (.aload_n 0, 1) := by decide +kernel
theorem dX6_outside_9 : decode cX6_outside 9 = .ok (.getfield 24, 3) := by decide +kernel
theorem dX6_outside_12 : decode cX6_outside 12 = .ok (.getfield 165, 3) := by decide +kernel
theorem dX6_outside_15 : decode cX6_outside 15 = .ok (.if_icmp .ge 54, 3) := by decide +kernel
theorem dX6_outside_18 : decode cX6_outside 18 = .ok (.iload_n 3, 1) := by decide +kernel
theorem dX6_outside_19 : decode cX6_outside 19 = .ok (.aload_n 0, 1) := by decide +kernel
theorem dX6_outside_20 : decode cX6_outside 20 = .ok (.getfield 24, 3) := by decide +kernel
theorem dX6_outside_23 : decode cX6_outside 23 = .ok (.aload_n 0, 1) := by decide +kernel
theorem dX6_outside_24 : decode cX6_outside 24 = .ok (.getfield 41, 3) := by decide +kernel
theorem dX6_outside_27 : decode cX6_outside 27 = .ok (.iload 5, 2) := by decide +kernel
theorem dX6_outside_29 : decode cX6_outside 29 = .ok (.invokestatic 150, 3) := by decide +kernel
theorem dX6_outside_32 : decode cX6_outside 32 = .ok (.istore 6, 2) := by decide +kernel
theorem dX6_outside_34 : decode cX6_outside 34 = .ok (.iload 6, 2) := by decide +kernel
theorem dX6_outside_36 : decode cX6_outside 36 = .ok (.sipush (-10000), 3) := by decide +kernel
theorem dX6_outside_39 : decode cX6_outside 39 = .ok (.if_icmp .eq 24, 3) := by decide +kernel
theorem dX6_outside_42 : decode cX6_outside 42 = .ok (.iload 6, 2) := by decide +kernel
theorem dX6_outside_44 : decode cX6_outside 44 = .ok (.iload_n 1, 1) := by decide +kernel
theorem dX6_outside_45 : decode cX6_outside 45 = .ok (.if_icmp .lt 9, 3) := by decide +kernel
theorem dX6_outside_48 : decode cX6_outside 48 = .ok (.iload 6, 2) := by decide +kernel
theorem dX6_outside_50 : decode cX6_outside 50 = .ok (.iload_n 2, 1) := by decide +kernel
theorem dX6_outside_51 : decode cX6_outside 51 = .ok (.if_icmp .le 12, 3) := by decide +kernel
theorem dX6_outside_54 : decode cX6_outside 54 = .ok (.iload 4, 2) := by decide +kernel
theorem dX6_outside_56 : decode cX6_outside 56 = .ok (.iconst 1, 1) := by decide +kernel
theorem dX6_outside_57 : decode cX6_outside 57 = .ok (.iload 5, 2) := by decide +kernel
theorem dX6_outside_59 : decode cX6_outside 59 = .ok (.ishl, 1) := by decide +kernel
theorem dX6_outside_60 : decode cX6_outside 60 = .ok (.ior, 1) := by decide +kernel
theorem dX6_outside_61 : decode cX6_outside 61 = .ok (.istore 4, 2) := by decide +kernel
theorem dX6_outside_63 : decode cX6_outside 63 = .ok (.iinc 5 1, 3) := by decide +kernel
theorem dX6_outside_66 : decode cX6_outside 66 = .ok (.goto (-60), 3) := by decide +kernel
theorem dX6_outside_69 : decode cX6_outside 69 = .ok (.iload 4, 2) := by decide +kernel
theorem dX6_outside_71 : decode cX6_outside 71 = .ok (.ireturn, 1) := by decide +kernel
theorem dX6_isLesser_0 : decode cX6_isLesser 0 = .ok (.iload_n 0, 1) := by decide +kernel
theorem dX6_isLesser_1 : decode cX6_isLesser 1 = .ok (.invokestatic 189, 3) := by decide +kernel
theorem dX6_isLesser_4 : decode cX6_isLesser 4 = .ok (.iload_n 1, 1) := by decide +kernel
theorem dX6_isLesser_5 : decode cX6_isLesser 5 = .ok (.invokestatic 189, 3) := by decide +kernel
theorem dX6_isLesser_8 : decode cX6_isLesser 8 = .ok (.isub, 1) := by decide +kernel
theorem dX6_isLesser_9 : decode cX6_isLesser 9 = .ok (.istore_n 2, 1) := by decide +kernel
theorem dX6_isLesser_10 : decode cX6_isLesser 10 = .ok (.iload_n 2, 1) := by decide +kernel
theorem dX6_isLesser_11 : decode cX6_isLesser 11 = .ok (.ifCond .lt 12, 3) := by decide +kernel
theorem dX6_isLesser_14 : decode cX6_isLesser 14 = .ok (.iload_n 2, 1) := by decide +kernel
theorem dX6_isLesser_15 : decode cX6_isLesser 15 = .ok (.ifCond .ne 12, 3) := by decide +kernel
theorem dX6_isLesser_18 : decode cX6_isLesser 18 = .ok (.iload_n 0, 1) := by decide +kernel
theorem dX6_isLesser_19 : decode cX6_isLesser 19 = .ok (.iload_n 1, 1) := by decide +kernel
theorem dX6_isLesser_20 : decode cX6_isLesser 20 = .ok (.if_icmp .ge 7, 3) := by decide +kernel
theorem dX6_isLesser_23 : decode cX6_isLesser 23 = .ok (.iconst 1, 1) := by decide +kernel
theorem dX6_isLesser_24 : decode cX6_isLesser 24 = .ok (.goto 4, 3) := by decide +kernel
theorem dX6_isLesser_27 : decode cX6_isLesser 27 = .ok (.iconst 0, 1) := by decide +kernel
theorem dX6_isLesser_28 : decode cX6_isLesser 28 = .ok (.ireturn, 1) := by decide +kernel
theorem dX6_allComesOut_0 : decode cX6_allComesOut 0 = .ok (.iconst 0, 1) := by decide +kernel
theorem dX6_allComesOut_1 : decode cX6_allComesOut 1 = .ok (.istore_n 2, 1) := by decide +kernel
theorem dX6_allComesOut_2 : decode cX6_allComesOut 2 = .ok (.iload_n 2, 1) := by decide +kernel
theorem dX6_allComesOut_3 : decode cX6_allComesOut 3 = .ok (.aload_n 0, 1) := by decide +kernel
theorem dX6_allComesOut_4 : decode cX6_allComesOut 4 = .ok (.getfield 51, 3) := by decide +kernel
theorem dX6_allComesOut_7 : decode cX6_allComesOut 7 = .ok (.getfield 210, 3) := by decide +kernel
