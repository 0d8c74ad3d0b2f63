theorem dX7_standOf_102 : decode cX7_standOf 102 = .ok (.iload 5, 2) := by decide +kernel
theorem dX7_standOf_104 : decode cX7_standOf 104 = .ok (.iconst (-1), 1) := by decide +kernel
theorem dX7_standOf_105 : decode cX7_standOf 105 = .ok (.if_icmp .eq 10, 3) := by decide +kernel
theorem dX7_standOf_108 : decode cX7_standOf 108 = .ok (.iload 7, 2) := by decide +kernel
theorem dX7_standOf_110 : decode cX7_standOf 110 = .ok (.iload 5, 2) := by decide +kernel
theorem dX7_standOf_112 : decode cX7_standOf 112 = .ok (.if_icmp .ge 36, 3) := by decide +kernel
theorem dX7_standOf_115 : decode cX7_standOf 115 = .ok (.iload 7, 2) := by decide +kernel
theorem dX7_standOf_117 : decode cX7_standOf 117 = .ok (.istore 5, 2) := by decide +kernel
theorem dX7_standOf_119 : decode cX7_standOf 119 = .ok (.iconst 0, 1) := by decide +kernel
theorem dX7_standOf_120 : decode cX7_standOf 120 = .ok (.istore 8, 2) := by decide +kernel
theorem dX7_standOf_122 : decode cX7_standOf 122 = .ok (.iload 8, 2) := by decide +kernel
theorem dX7_standOf_124 : decode cX7_standOf 124 = .ok (.iload_n 3, 1) := by decide +kernel
theorem dX7_standOf_125 : decode cX7_standOf 125 = .ok (.if_icmp .ge 23, 3) := by decide +kernel
theorem dX7_standOf_128 : decode cX7_standOf 128 = .ok (.aload_n 0, 1) := by decide +kernel
theorem dX7_standOf_129 : decode cX7_standOf 129 = .ok (.getfield 52, 3) := by decide +kernel
theorem dX7_standOf_132 : decode cX7_standOf 132 = .ok (.iload 8, 2) := by decide +kernel
theorem dX7_standOf_134 : decode cX7_standOf 134 = .ok (.aload_n 0, 1) := by decide +kernel
theorem dX7_standOf_135 : decode cX7_standOf 135 = .ok (.getfield 49, 3) := by decide +kernel
theorem dX7_standOf_138 : decode cX7_standOf 138 = .ok (.iload 8, 2) := by decide +kernel
theorem dX7_standOf_140 : decode cX7_standOf 140 = .ok (.iaload, 1) := by decide +kernel
theorem dX7_standOf_141 : decode cX7_standOf 141 = .ok (.iastore, 1) := by decide +kernel
theorem dX7_standOf_142 : decode cX7_standOf 142 = .ok (.iinc 8 1, 3) := by decide +kernel
theorem dX7_standOf_145 : decode cX7_standOf 145 = .ok (.goto (-23), 3) := by decide +kernel
theorem dX7_standOf_148 : decode cX7_standOf 148 = .ok (.iinc 6 1, 3) := by decide +kernel
theorem dX7_standOf_151 : decode cX7_standOf 151 = .ok (.goto (-111), 3) := by decide +kernel
theorem dX7_standOf_154 : decode cX7_standOf 154 = .ok (.aload_n 0, 1) := by decide +kernel
theorem dX7_standOf_155 : decode cX7_standOf 155 = .ok (.invokevirtual 147, 3) := by decide +kernel
theorem dX7_standOf_158 : decode cX7_standOf 158 = .ok (.iload_n 2, 1) := by decide +kernel
theorem dX7_standOf_159 : decode cX7_standOf 159 = .ok (.iconst (-1), 1) := by decide +kernel
theorem dX7_standOf_160 : decode cX7_standOf 160 = .ok (.if_icmp .ne 8, 3) := by decide +kernel
theorem dX7_standOf_163 : decode cX7_standOf 163 = .ok (.iload 5, 2) := by decide +kernel
theorem dX7_standOf_165 : decode cX7_standOf 165 = .ok (.goto 18, 3) := by decide +kernel
theorem dX7_standOf_168 : decode cX7_standOf 168 = .ok (.iload_n 2, 1) := by decide +kernel
theorem dX7_standOf_169 : decode cX7_standOf 169 = .ok (.iload_n 3, 1) := by decide +kernel
theorem dX7_standOf_170 : decode cX7_standOf 170 = .ok (.if_icmp .ge 12, 3) := by decide +kernel
theorem dX7_standOf_173 : decode cX7_standOf 173 = .ok (.aload_n 0, 1) := by decide +kernel
theorem dX7_standOf_174 : decode cX7_standOf 174 = .ok (.getfield 52, 3) := by decide +kernel
theorem dX7_standOf_177 : decode cX7_standOf 177 = .ok (.iload_n 2, 1) := by decide +kernel
theorem dX7_standOf_178 : decode cX7_standOf 178 = .ok (.iaload, 1) := by decide +kernel
theorem dX7_standOf_179 : decode cX7_standOf 179 = .ok (.goto 4, 3) := by decide +kernel
theorem dX7_standOf_182 : decode cX7_standOf 182 = .ok (.iconst (-1), 1) := by decide +kernel
theorem dX7_standOf_183 : decode cX7_standOf 183 = .ok (.ireturn, 1) := by decide +kernel
theorem dX7_stand_0 : decode cX7_stand 0 = .ok (.aload_n 0, 1) := by decide +kernel
theorem dX7_stand_1 : decode cX7_stand 1 = .ok (.invokevirtual 147, 3) := by decide +kernel
theorem dX7_stand_4 : decode cX7_stand 4 = .ok (.aload_n 0, 1) := by decide +kernel
theorem dX7_stand_5 : decode cX7_stand 5 = .ok (.iload_n 1, 1) := by decide +kernel
theorem dX7_stand_6 : decode cX7_stand 6 = .ok (.invokevirtual 153, 3) := by decide +kernel
theorem dX7_stand_9 : decode cX7_stand 9 = .ok (.ifCond .eq 26, 3) := by decide +kernel
theorem dX7_stand_12 : decode cX7_stand 12 = .ok (.iload_n 2, 1) := by decide +kernel
theorem dX7_stand_13 : decode cX7_stand 13 = .ok (.i2l, 1) := by decide +kernel
theorem dX7_stand_14 : decode cX7_stand 14 = .ok (.ldc2_w 188, 3) := by decide +kernel
theorem dX7_stand_17 : decode cX7_stand 17 = .ok (.ldc2_w 190, 3) := by decide +kernel
theorem dX7_stand_20 : decode cX7_stand 20 = .ok (.invokestatic 63, 3) := by decide +kernel
theorem dX7_stand_23 : decode cX7_stand 23 = .ok (.ifCond .eq 12, 3) := by decide +kernel
theorem dX7_stand_26 : decode cX7_stand 26 = .ok (.aload_n 0, 1) := by decide +kernel
theorem dX7_stand_27 : decode cX7_stand 27 = .ok (.iload_n 1, 1) := by decide +kernel
theorem dX7_stand_28 : decode cX7_stand 28 = .ok (.iload_n 2, 1) := by decide +kernel
theorem dX7_stand_29 : decode cX7_stand 29 = .ok (.invokevirtual 192, 3) := by decide +kernel
theorem dX7_stand_32 : decode cX7_stand 32 = .ok (.goto 5, 3) := by decide +kernel
theorem dX7_stand_35 : decode cX7_stand 35 = .ok (.bipush (-2), 2) := by decide +kernel
theorem dX7_stand_37 : decode cX7_stand 37 = .ok (.ireturn, 1) := by decide +kernel
theorem dX7_hushOf_0 : decode cX7_hushOf 0 = .ok (.iconst (-1), 1) := by decide +kernel
theorem dX7_hushOf_1 : decode cX7_hushOf 1 = .ok (.istore_n 3, 1) := by decide +kernel
theorem dX7_hushOf_2 : decode cX7_hushOf 2 = .ok (.iconst 0, 1) := by decide +kernel
theorem dX7_hushOf_3 : decode cX7_hushOf 3 = .ok (.istore 4, 2) := by decide +kernel
theorem dX7_hushOf_5 : decode cX7_hushOf 5 = .ok (.iload 4, 2) := by decide +kernel
theorem dX7_hushOf_7 : decode cX7_hushOf 7 = .ok (.iconst 1, 1) := by decide +kernel
theorem dX7_hushOf_8 : decode cX7_hushOf 8 = .ok (.aload_n 0, 1) := by decide +kernel
theorem dX7_hushOf_9 : decode cX7_hushOf 9 = .ok (.getfield 101, 3) := by decide +kernel
theorem dX7_hushOf_12 : decode cX7_hushOf 12 = .ok (.ishl, 1) := by decide +kernel
theorem dX7_hushOf_13 : decode cX7_hushOf 13 = .ok (.if_icmp .ge 49, 3) := by decide +kernel
theorem dX7_hushOf_16 : decode cX7_hushOf 16 = .ok (.iload_n 3, 1) := by decide +kernel
theorem dX7_hushOf_17 : decode cX7_hushOf 17 = .ok (.iconst (-1), 1) := by decide +kernel
theorem dX7_hushOf_18 : decode cX7_hushOf 18 = .ok (.if_icmp .eq 15, 3) := by decide +kernel
theorem dX7_hushOf_21 : decode cX7_hushOf 21 = .ok (.iload 4, 2) := by decide +kernel
theorem dX7_hushOf_23 : decode cX7_hushOf 23 = .ok (.invokestatic 195, 3) := by decide +kernel
theorem dX7_hushOf_26 : decode cX7_hushOf 26 = .ok (.iload_n 3, 1) := by decide +kernel
theorem dX7_hushOf_27 : decode cX7_hushOf 27 = .ok (.invokestatic 195, 3) := by decide +kernel
theorem dX7_hushOf_30 : decode cX7_hushOf 30 = .ok (.if_icmp .ge 26, 3) := by decide +kernel
theorem dX7_hushOf_33 : decode cX7_hushOf 33 = .ok (.aload_n 0, 1) := by decide +kernel
theorem dX7_hushOf_34 : decode cX7_hushOf 34 = .ok (.iload_n 1, 1) := by decide +kernel
theorem dX7_hushOf_35 : decode cX7_hushOf 35 = .ok (.iload 4, 2) := by decide +kernel
theorem dX7_hushOf_37 : decode cX7_hushOf 37 = .ok (.invokevirtual 169, 3) := by decide +kernel
theorem dX7_hushOf_40 : decode cX7_hushOf 40 = .ok (.aload_n 0, 1) := by decide +kernel
theorem dX7_hushOf_41 : decode cX7_hushOf 41 = .ok (.getfield 34, 3) := by decide +kernel
theorem dX7_hushOf_44 : decode cX7_hushOf 44 = .ok (.iconst 3, 1) := by decide +kernel
theorem dX7_hushOf_45 : decode cX7_hushOf 45 = .ok (.iaload, 1) := by decide +kernel
theorem dX7_hushOf_46 : decode cX7_hushOf 46 = .ok (.if_icmp .gt 8, 3) := by decide +kernel
theorem dX7_hushOf_49 : decode cX7_hushOf 49 = .ok (.iload 4, 2) := by decide +kernel
theorem dX7_hushOf_51 : decode cX7_hushOf 51 = .ok (.goto 4, 3) := by decide +kernel
theorem dX7_hushOf_54 : decode cX7_hushOf 54 = .ok (.iload_n 3, 1) := by decide +kernel
theorem dX7_hushOf_55 : decode cX7_hushOf 55 = .ok (.istore_n 3, 1) := by decide +kernel
theorem dX7_hushOf_56 : decode cX7_hushOf 56 = .ok (.iinc 4 1, 3) := by decide +kernel
theorem dX7_hushOf_59 : decode cX7_hushOf 59 = .ok (.goto (-54), 3) := by decide +kernel
theorem dX7_hushOf_62 : decode cX7_hushOf 62 = .ok (.iload_n 2, 1) := by decide +kernel
theorem dX7_hushOf_63 : decode cX7_hushOf 63 = .ok (.ifCond .ne 10, 3) := by decide +kernel
theorem dX7_hushOf_66 : decode cX7_hushOf 66 = .ok (.iload_n 3, 1) := by decide +kernel
theorem dX7_hushOf_67 : decode cX7_hushOf 67 = .ok (.invokestatic 195, 3) := by decide +kernel
theorem dX7_hushOf_70 : decode cX7_hushOf 70 = .ok (.goto 4, 3) := by decide +kernel
theorem dX7_hushOf_73 : decode cX7_hushOf 73 = .ok (.iload_n 3, 1) := by decide +kernel
theorem dX7_hushOf_74 : decode cX7_hushOf 74 = .ok (.ireturn, 1) := by decide +kernel
theorem dX7_hush_0 : decode cX7_hush 0 = .ok (.aload_n 0, 1) := by decide +kernel
theorem dX7_hush_1 : decode cX7_hush 1 = .ok (.invokevirtual 147, 3) := by decide +kernel
theorem dX7_hush_4 : decode cX7_hush 4 = .ok (.aload_n 0, 1) := by decide +kernel
theorem dX7_hush_5 : decode cX7_hush 5 = .ok (.iload_n 1, 1) := by decide +kernel
theorem dX7_hush_6 : decode cX7_hush 6 = .ok (.invokevirtual 153, 3) := by decide +kernel
theorem dX7_hush_9 : decode cX7_hush 9 = .ok (.ifCond .eq 19, 3) := by decide +kernel
theorem dX7_hush_12 : decode cX7_hush 12 = .ok (.iload_n 2, 1) := by decide +kernel
theorem dX7_hush_13 : decode cX7_hush 13 = .ok (.invokestatic 92, 3) := by decide +kernel
theorem dX7_hush_16 : decode cX7_hush 16 = .ok (.ifCond .eq 12, 3) := by decide +kernel
theorem dX7_hush_19 : decode cX7_hush 19 = .ok (.aload_n 0, 1) := by decide +kernel
theorem dX7_hush_20 : decode cX7_hush 20 = .ok (.iload_n 1, 1) := by decide +kernel
theorem dX7_hush_21 : decode cX7_hush 21 = .ok (.iload_n 2, 1) := by decide +kernel
theorem dX7_hush_22 : decode cX7_hush 22 = .ok (.invokevirtual 198, 3) := by decide +kernel
theorem dX7_hush_25 : decode cX7_hush 25 = .ok (.goto 5, 3) := by decide +kernel
theorem dX7_hush_28 : decode cX7_hush 28 = .ok (.bipush (-2), 2) := by decide +kernel
theorem dX7_hush_30 : decode cX7_hush 30 = .ok (.ireturn, 1) := by decide +kernel
theorem dX7_driveOf_0 : decode cX7_driveOf 0 = .ok (.aload_n 0, 1) := by decide +kernel
theorem dX7_driveOf_1 : decode cX7_driveOf 1 = .ok (.getfield 34, 3) := by decide +kernel
theorem dX7_driveOf_4 : decode cX7_driveOf 4 = .ok (.iconst 0, 1) := by decide +kernel
theorem dX7_driveOf_5 : decode cX7_driveOf 5 = .ok (.iaload, 1) := by decide +kernel
theorem dX7_driveOf_6 : decode cX7_driveOf 6 = .ok (.istore_n 3, 1) := by decide +kernel
theorem dX7_driveOf_7 : decode cX7_driveOf 7 = .ok (.iconst (-1), 1) := by decide +kernel
theorem dX7_driveOf_8 : decode cX7_driveOf 8 = .ok (.istore 4, 2) := by decide +kernel
theorem dX7_driveOf_10 : decode cX7_driveOf 10 = .ok (.iconst 0, 1) := by decide +kernel
theorem dX7_driveOf_11 : decode cX7_driveOf 11 = .ok (.istore 5, 2) := by decide +kernel
theorem dX7_driveOf_13 : decode cX7_driveOf 13 = .ok (.iconst 0, 1) := by decide +kernel
theorem dX7_driveOf_14 : decode cX7_driveOf 14 = .ok (.istore 6, 2) := by decide +kernel
theorem dX7_driveOf_16 : decode cX7_driveOf 16 = .ok (.iload 6, 2) := by decide +kernel
theorem dX7_driveOf_18 : decode cX7_driveOf 18 = .ok (.bipush 100, 2) := by decide +kernel
theorem dX7_driveOf_20 : decode cX7_driveOf 20 = .ok (.if_icmp .ge 77, 3) := by decide +kernel
theorem dX7_driveOf_23 : decode cX7_driveOf 23 = .ok (.aload_n 0, 1) := by decide +kernel
theorem dX7_driveOf_24 : decode cX7_driveOf 24 = .ok (.getfield 34, 3) := by decide +kernel
theorem dX7_driveOf_27 : decode cX7_driveOf 27 = .ok (.iconst 0, 1) := by decide +kernel
theorem dX7_driveOf_28 : decode cX7_driveOf 28 = .ok (.iload 6, 2) := by decide +kernel
theorem dX7_driveOf_30 : decode cX7_driveOf 30 = .ok (.iastore, 1) := by decide +kernel
theorem dX7_driveOf_31 : decode cX7_driveOf 31 = .ok (.aload_n 0, 1) := by decide +kernel
theorem dX7_driveOf_32 : decode cX7_driveOf 32 = .ok (.invokevirtual 144, 3) := by decide +kernel
theorem dX7_driveOf_35 : decode cX7_driveOf 35 = .ok (.aload_n 0, 1) := by decide +kernel
theorem dX7_driveOf_36 : decode cX7_driveOf 36 = .ok (.iload_n 1, 1) := by decide +kernel
theorem dX7_driveOf_37 : decode cX7_driveOf 37 = .ok (.iconst 0, 1) := by decide +kernel
theorem dX7_driveOf_38 : decode cX7_driveOf 38 = .ok (.invokevirtual 169, 3) := by decide +kernel
theorem dX7_driveOf_41 : decode cX7_driveOf 41 = .ok (.istore 7, 2) := by decide +kernel
theorem dX7_driveOf_43 : decode cX7_driveOf 43 = .ok (.iload 4, 2) := by decide +kernel
theorem dX7_driveOf_45 : decode cX7_driveOf 45 = .ok (.iconst (-1), 1) := by decide +kernel
theorem dX7_driveOf_46 : decode cX7_driveOf 46 = .ok (.if_icmp .eq 10, 3) := by decide +kernel
theorem dX7_driveOf_49 : decode cX7_driveOf 49 = .ok (.iload 7, 2) := by decide +kernel
theorem dX7_driveOf_51 : decode cX7_driveOf 51 = .ok (.iload 5, 2) := by decide +kernel
theorem dX7_driveOf_53 : decode cX7_driveOf 53 = .ok (.if_icmp .ge 7, 3) := by decide +kernel
theorem dX7_driveOf_56 : decode cX7_driveOf 56 = .ok (.iconst 1, 1) := by decide +kernel
theorem dX7_driveOf_57 : decode cX7_driveOf 57 = .ok (.goto 4, 3) := by decide +kernel
theorem dX7_driveOf_60 : decode cX7_driveOf 60 = .ok (.iconst 0, 1) := by decide +kernel
theorem dX7_driveOf_61 : decode cX7_driveOf 61 = .ok (.istore 8, 2) := by decide +kernel
theorem dX7_driveOf_63 : decode cX7_driveOf 63 = .ok (.iload 8, 2) := by decide +kernel
theorem dX7_driveOf_65 : decode cX7_driveOf 65 = .ok (.ifCond .eq 8, 3) := by decide +kernel
theorem dX7_driveOf_68 : decode cX7_driveOf 68 = .ok (.iload 6, 2) := by decide +kernel
theorem dX7_driveOf_70 : decode cX7_driveOf 70 = .ok (.goto 5, 3) := by decide +kernel
theorem dX7_driveOf_73 : decode cX7_driveOf 73 = .ok (.iload 4, 2) := by decide +kernel
theorem dX7_driveOf_75 : decode cX7_driveOf 75 = .ok (.istore 4, 2) := by decide +kernel
theorem dX7_driveOf_77 : decode cX7_driveOf 77 = .ok (.iload 8, 2) := by decide +kernel
theorem dX7_driveOf_79 : decode cX7_driveOf 79 = .ok (.ifCond .eq 8, 3) := by decide +kernel
theorem dX7_driveOf_82 : decode cX7_driveOf 82 = .ok (.iload 7, 2) := by decide +kernel
theorem dX7_driveOf_84 : decode cX7_driveOf 84 = .ok (.goto 5, 3) := by decide +kernel
theorem dX7_driveOf_87 : decode cX7_driveOf 87 = .ok (.iload 5, 2) := by decide +kernel
theorem dX7_driveOf_89 : decode cX7_driveOf 89 = .ok (.istore 5, 2) := by decide +kernel
theorem dX7_driveOf_91 : decode cX7_driveOf 91 = .ok (.iinc 6 1, 3) := by decide +kernel
theorem dX7_driveOf_94 : decode cX7_driveOf 94 = .ok (.goto (-78), 3) := by decide +kernel
theorem dX7_driveOf_97 : decode cX7_driveOf 97 = .ok (.aload_n 0, 1) := by decide +kernel
theorem dX7_driveOf_98 : decode cX7_driveOf 98 = .ok (.getfield 34, 3) := by decide +kernel
theorem dX7_driveOf_101 : decode cX7_driveOf 101 = .ok (.iconst 0, 1) := by decide +kernel
theorem dX7_driveOf_102 : decode cX7_driveOf 102 = .ok (.iload_n 3, 1) := by decide +kernel
theorem dX7_driveOf_103 : decode cX7_driveOf 103 = .ok (.iastore, 1) := by decide +kernel
theorem dX7_driveOf_104 : decode cX7_driveOf 104 = .ok (.aload_n 0, 1) := by decide +kernel
theorem dX7_driveOf_105 : decode cX7_driveOf 105 = .ok (.invokevirtual 144, 3) := by decide +kernel
theorem dX7_driveOf_108 : decode cX7_driveOf 108 = .ok (.iload_n 2, 1) := by decide +kernel
theorem dX7_driveOf_109 : decode cX7_driveOf 109 = .ok (.ifCond .ne 8, 3) := by decide +kernel
theorem dX7_driveOf_112 : decode cX7_driveOf 112 = .ok (.iload 4, 2) := by decide +kernel
theorem dX7_driveOf_114 : decode cX7_driveOf 114 = .ok (.goto 5, 3) := by decide +kernel
theorem dX7_driveOf_117 : decode cX7_driveOf 117 = .ok (.iload 5, 2) := by decide +kernel
theorem dX7_driveOf_119 : decode cX7_driveOf 119 = .ok (.ireturn, 1) := by decide +kernel
theorem dX7_drive_0 : decode cX7_drive 0 = .ok (.aload_n 0, 1) := by decide +kernel
theorem dX7_drive_1 : decode cX7_drive 1 = .ok (.invokevirtual 147, 3) := by decide +kernel
theorem dX7_drive_4 : decode cX7_drive 4 = .ok (.aload_n 0, 1) := by decide +kernel
theorem dX7_drive_5 : decode cX7_drive 5 = .ok (.iload_n 1, 1) := by decide +kernel
theorem dX7_drive_6 : decode cX7_drive 6 = .ok (.invokevirtual 153, 3) := by decide +kernel
theorem dX7_drive_9 : decode cX7_drive 9 = .ok (.ifCond .eq 19, 3) := by decide +kernel
theorem dX7_drive_12 : decode cX7_drive 12 = .ok (.iload_n 2, 1) := by decide +kernel
theorem dX7_drive_13 : decode cX7_drive 13 = .ok (.invokestatic 92, 3) := by decide +kernel
theorem dX7_drive_16 : decode cX7_drive 16 = .ok (.ifCond .eq 12, 3) := by decide +kernel
theorem dX7_drive_19 : decode cX7_drive 19 = .ok (.aload_n 0, 1) := by decide +kernel
theorem dX7_drive_20 : decode cX7_drive 20 = .ok (.iload_n 1, 1) := by decide +kernel
theorem dX7_drive_21 : decode cX7_drive 21 = .ok (.iload_n 2, 1) := by decide +kernel
theorem dX7_drive_22 : decode cX7_drive 22 = .ok (.invokevirtual 201, 3) := by decide +kernel
theorem dX7_drive_25 : decode cX7_drive 25 = .ok (.goto 5, 3) := by decide +kernel
theorem dX7_drive_28 : decode cX7_drive 28 = .ok (.bipush (-2), 2) := by decide +kernel
theorem dX7_drive_30 : decode cX7_drive 30 = .ok (.ireturn, 1) := by decide +kernel
theorem dX7_heard_0 : decode cX7_heard 0 = .ok (.iload_n 1, 1) := by decide +kernel
theorem dX7_heard_1 : decode cX7_heard 1 = .ok (.i2l, 1) := by decide +kernel
theorem dX7_heard_2 : decode cX7_heard 2 = .ok (.lconst 0, 1) := by decide +kernel
theorem dX7_heard_3 : decode cX7_heard 3 = .ok (.ldc2_w 120, 3) := by decide +kernel
theorem dX7_heard_6 : decode cX7_heard 6 = .ok (.invokestatic 63, 3) := by decide +kernel
theorem dX7_heard_9 : decode cX7_heard 9 = .ok (.ifCond .eq 27, 3) := by decide +kernel
theorem dX7_heard_12 : decode cX7_heard 12 = .ok (.iload_n 2, 1) := by decide +kernel
theorem dX7_heard_13 : decode cX7_heard 13 = .ok (.i2l, 1) := by decide +kernel
theorem dX7_heard_14 : decode cX7_heard 14 = .ok (.lconst 0, 1) := by decide +kernel
theorem dX7_heard_15 : decode cX7_heard 15 = .ok (.ldc2_w 204, 3) := by decide +kernel
theorem dX7_heard_18 : decode cX7_heard 18 = .ok (.invokestatic 63, 3) := by decide +kernel
theorem dX7_heard_21 : decode cX7_heard 21 = .ok (.ifCond .eq 15, 3) := by decide +kernel
theorem dX7_heard_24 : decode cX7_heard 24 = .ok (.iload_n 3, 1) := by decide +kernel
theorem dX7_heard_25 : decode cX7_heard 25 = .ok (.i2l, 1) := by decide +kernel
theorem dX7_heard_26 : decode cX7_heard 26 = .ok (.lconst 0, 1) := by decide +kernel
theorem dX7_heard_27 : decode cX7_heard 27 = .ok (.ldc2_w 206, 3) := by decide +kernel
theorem dX7_heard_30 : decode cX7_heard 30 = .ok (.invokestatic 63, 3) := by decide +kernel
theorem dX7_heard_33 : decode cX7_heard 33 = .ok (.ifCond .ne 6, 3) := by decide +kernel
theorem dX7_heard_36 : decode cX7_heard 36 = .ok (.bipush (-2), 2) := by decide +kernel
theorem dX7_heard_38 : decode cX7_heard 38 = .ok (.ireturn, 1) := by decide +kernel
theorem dX7_heard_39 : decode cX7_heard 39 = .ok (.aload_n 0, 1) := by decide +kernel
theorem dX7_heard_40 : decode cX7_heard 40 = .ok (.getfield 208, 3) := by decide +kernel
theorem dX7_heard_43 : decode cX7_heard 43 = .ok (.bipush 8, 2) := by decide +kernel
theorem dX7_heard_45 : decode cX7_heard 45 = .ok (.if_icmp .ne 6, 3) := by decide +kernel
theorem dX7_heard_48 : decode cX7_heard 48 = .ok (.bipush (-4), 2) := by decide +kernel
theorem dX7_heard_50 : decode cX7_heard 50 = .ok (.ireturn, 1) := by decide +kernel
theorem dX7_heard_51 : decode cX7_heard 51 = .ok (.aload_n 0, 1) := by decide +kernel
theorem dX7_heard_52 : decode cX7_heard 52 = .ok (.getfield 55, 3) := by decide +kernel
theorem dX7_heard_55 : decode cX7_heard 55 = .ok (.iconst 3, 1) := by decide +kernel
theorem dX7_heard_56 : decode cX7_heard 56 = .ok (.aload_n 0, 1) := by decide +kernel
theorem dX7_heard_57 : decode cX7_heard 57 = .ok (.getfield 208, 3) := by decide +kernel
theorem dX7_heard_60 : decode cX7_heard 60 = .ok (.imul, 1) := by decide +kernel
theorem dX7_heard_61 : decode cX7_heard 61 = .ok (.iload_n 1, 1) := by decide +kernel
theorem dX7_heard_62 : decode cX7_heard 62 = .ok (.iastore, 1) := by decide +kernel
theorem dX7_heard_63 : decode cX7_heard 63 = .ok (.aload_n 0, 1) := by decide +kernel
theorem dX7_heard_64 : decode cX7_heard 64 = .ok (.getfield 55, 3) := by decide +kernel
theorem dX7_heard_67 : decode cX7_heard 67 = .ok (.iconst 3, 1) := by decide +kernel
theorem dX7_heard_68 : decode cX7_heard 68 = .ok (.aload_n 0, 1) := by decide +kernel
theorem dX7_heard_69 : decode cX7_heard 69 = .ok (.getfield 208, 3) := by decide +kernel
theorem dX7_heard_72 : decode cX7_heard 72 = .ok (.imul, 1) := by decide +kernel
theorem dX7_heard_73 : decode cX7_heard 73 = .ok (.iconst 1, 1) := by decide +kernel
theorem dX7_heard_74 : decode cX7_heard 74 = .ok (.iadd, 1) := by decide +kernel
theorem dX7_heard_75 : decode cX7_heard 75 = .ok (.iload_n 2, 1) := by decide +kernel
theorem dX7_heard_76 : decode cX7_heard 76 = .ok (.iastore, 1) := by decide +kernel
theorem dX7_heard_77 : decode cX7_heard 77 = .ok (.aload_n 0, 1) := by decide +kernel
theorem dX7_heard_78 : decode cX7_heard 78 = .ok (.getfield 55, 3) := by decide +kernel
theorem dX7_heard_81 : decode cX7_heard 81 = .ok (.iconst 3, 1) := by decide +kernel
theorem dX7_heard_82 : decode cX7_heard 82 = .ok (.aload_n 0, 1) := by decide +kernel
theorem dX7_heard_83 : decode cX7_heard 83 = .ok (.getfield 208, 3) := by decide +kernel
theorem dX7_heard_86 : decode cX7_heard 86 = .ok (.imul, 1) := by decide +kernel
theorem dX7_heard_87 : decode cX7_heard 87 = .ok (.iconst 2, 1) := by decide +kernel
theorem dX7_heard_88 : decode cX7_heard 88 = .ok (.iadd, 1) := by decide +kernel
theorem dX7_heard_89 : decode cX7_heard 89 = .ok (.iload_n 3, 1) := by decide +kernel
theorem dX7_heard_90 : decode cX7_heard 90 = .ok (.iastore, 1) := by decide +kernel
theorem dX7_heard_91 : decode cX7_heard 91 = .ok (.aload_n 0, 1) := by decide +kernel
theorem dX7_heard_92 : decode cX7_heard 92 = .ok (.dup, 1) := by decide +kernel
theorem dX7_heard_93 : decode cX7_heard 93 = .ok (.getfield 208, 3) := by decide +kernel
theorem dX7_heard_96 : decode cX7_heard 96 = .ok (.iconst 1, 1) := by decide +kernel
theorem dX7_heard_97 : decode cX7_heard 97 = .ok (.iadd, 1) := by decide +kernel
theorem dX7_heard_98 : decode cX7_heard 98 = .ok (.putfield 208, 3) := by decide +kernel
theorem dX7_heard_101 : decode cX7_heard 101 = .ok (.aload_n 0, 1) := by decide +kernel
theorem dX7_heard_102 : decode cX7_heard 102 = .ok (.getfield 208, 3) := by decide +kernel
theorem dX7_heard_105 : decode cX7_heard 105 = .ok (.ireturn, 1) := by decide +kernel
theorem dX7_forget_0 : decode cX7_forget 0 = .ok (.aload_n 0, 1) := by decide +kernel
theorem dX7_forget_1 : decode cX7_forget 1 = .ok (.getfield 208, 3) := by decide +kernel
theorem dX7_forget_4 : decode cX7_forget 4 = .ok (.istore_n 1, 1) := by decide +kernel
theorem dX7_forget_5 : decode cX7_forget 5 = .ok (.aload_n 0, 1) := by decide +kernel
theorem dX7_forget_6 : decode cX7_forget 6 = .ok (.iconst 0, 1) := by decide +kernel
theorem dX7_forget_7 : decode cX7_forget 7 = .ok (.putfield 208, 3) := by decide +kernel
theorem dX7_forget_10 : decode cX7_forget 10 = .ok (.iload_n 1, 1) := by decide +kernel
theorem dX7_forget_11 : decode cX7_forget 11 = .ok (.ireturn, 1) := by decide +kernel
theorem dX7_read_0 : decode cX7_read 0 = .ok (.iload_n 1, 1) := by decide +kernel
theorem dX7_read_1 : decode cX7_read 1 = .ok (.invokestatic 73, 3) := by decide +kernel
theorem dX7_read_4 : decode cX7_read 4 = .ok (.ifCond .ne 6, 3) := by decide +kernel
theorem dX7_read_7 : decode cX7_read 7 = .ok (.bipush (-2), 2) := by decide +kernel
theorem dX7_read_9 : decode cX7_read 9 = .ok (.ireturn, 1) := by decide +kernel
theorem dX7_read_10 : decode cX7_read 10 = .ok (.aload_n 0, 1) := by decide +kernel
theorem dX7_read_11 : decode cX7_read 11 = .ok (.getfield 7, 3) := by decide +kernel
theorem dX7_read_14 : decode cX7_read 14 = .ok (.iload_n 1, 1) := by decide +kernel
theorem dX7_read_15 : decode cX7_read 15 = .ok (.iaload, 1) := by decide +kernel
theorem dX7_read_16 : decode cX7_read 16 = .ok (.ifCond .ge 9, 3) := by decide +kernel
theorem dX7_read_19 : decode cX7_read 19 = .ok (.aload_n 0, 1) := by decide +kernel
theorem dX7_read_20 : decode cX7_read 20 = .ok (.iconst 1, 1) := by decide +kernel
theorem dX7_read_21 : decode cX7_read 21 = .ok (.invokevirtual 79, 3) := by decide +kernel
theorem dX7_read_24 : decode cX7_read 24 = .ok (.ireturn, 1) := by decide +kernel
theorem dX7_read_25 : decode cX7_read 25 = .ok (.iconst 0, 1) := by decide +kernel
theorem dX7_read_26 : decode cX7_read 26 = .ok (.istore_n 2, 1) := by decide +kernel
theorem dX7_read_27 : decode cX7_read 27 = .ok (.iconst 1, 1) := by decide +kernel
theorem dX7_read_28 : decode cX7_read 28 = .ok (.istore_n 3, 1) := by decide +kernel
theorem dX7_read_29 : decode cX7_read 29 = .ok (.iload_n 3, 1) := by decide +kernel
theorem dX7_read_30 : decode cX7_read 30 = .ok (.ifCond .eq 80, 3) := by decide +kernel
theorem dX7_read_33 : decode cX7_read 33 = .ok (.iconst 3, 1) := by decide +kernel
theorem dX7_read_34 : decode cX7_read 34 = .ok (.iload_n 2, 1) := by decide +kernel
theorem dX7_read_35 : decode cX7_read 35 = .ok (.imul, 1) := by decide +kernel
theorem dX7_read_36 : decode cX7_read 36 = .ok (.iconst 3, 1) := by decide +kernel
theorem dX7_read_37 : decode cX7_read 37 = .ok (.iadd, 1) := by decide +kernel
theorem dX7_read_38 : decode cX7_read 38 = .ok (.aload_n 0, 1) := by decide +kernel
theorem dX7_read_39 : decode cX7_read 39 = .ok (.getfield 13, 3) := by decide +kernel
theorem dX7_read_42 : decode cX7_read 42 = .ok (.iload_n 1, 1) := by decide +kernel
theorem dX7_read_43 : decode cX7_read 43 = .ok (.iaload, 1) := by decide +kernel
theorem dX7_read_44 : decode cX7_read 44 = .ok (.if_icmp .gt 66, 3) := by decide +kernel
theorem dX7_read_47 : decode cX7_read 47 = .ok (.bipush 60, 2) := by decide +kernel
theorem dX7_read_49 : decode cX7_read 49 = .ok (.iload_n 1, 1) := by decide +kernel
theorem dX7_read_50 : decode cX7_read 50 = .ok (.imul, 1) := by decide +kernel
theorem dX7_read_51 : decode cX7_read 51 = .ok (.iconst 3, 1) := by decide +kernel
theorem dX7_read_52 : decode cX7_read 52 = .ok (.iload_n 2, 1) := by decide +kernel
theorem dX7_read_53 : decode cX7_read 53 = .ok (.imul, 1) := by decide +kernel
theorem dX7_read_54 : decode cX7_read 54 = .ok (.iadd, 1) := by decide +kernel
theorem dX7_read_55 : decode cX7_read 55 = .ok (.istore 4, 2) := by decide +kernel
theorem dX7_read_57 : decode cX7_read 57 = .ok (.aload_n 0, 1) := by decide +kernel
theorem dX7_read_58 : decode cX7_read 58 = .ok (.aload_n 0, 1) := by decide +kernel
theorem dX7_read_59 : decode cX7_read 59 = .ok (.getfield 16, 3) := by decide +kernel
theorem dX7_read_62 : decode cX7_read 62 = .ok (.iload 4, 2) := by decide +kernel
theorem dX7_read_64 : decode cX7_read 64 = .ok (.iaload, 1) := by decide +kernel
theorem dX7_read_65 : decode cX7_read 65 = .ok (.aload_n 0, 1) := by decide +kernel
theorem dX7_read_66 : decode cX7_read 66 = .ok (.getfield 16, 3) := by decide +kernel
theorem dX7_read_69 : decode cX7_read 69 = .ok (.iload 4, 2) := by decide +kernel
theorem dX7_read_71 : decode cX7_read 71 = .ok (.iconst 1, 1) := by decide +kernel
theorem dX7_read_72 : decode cX7_read 72 = .ok (.iadd, 1) := by decide +kernel
theorem dX7_read_73 : decode cX7_read 73 = .ok (.iaload, 1) := by decide +kernel
theorem dX7_read_74 : decode cX7_read 74 = .ok (.aload_n 0, 1) := by decide +kernel
theorem dX7_read_75 : decode cX7_read 75 = .ok (.getfield 16, 3) := by decide +kernel
theorem dX7_read_78 : decode cX7_read 78 = .ok (.iload 4, 2) := by decide +kernel
theorem dX7_read_80 : decode cX7_read 80 = .ok (.iconst 2, 1) := by decide +kernel
theorem dX7_read_81 : decode cX7_read 81 = .ok (.iadd, 1) := by decide +kernel
theorem dX7_read_82 : decode cX7_read 82 = .ok (.iaload, 1) := by decide +kernel
theorem dX7_read_83 : decode cX7_read 83 = .ok (.invokevirtual 211, 3) := by decide +kernel
theorem dX7_read_86 : decode cX7_read 86 = .ok (.ifCond .lt 7, 3) := by decide +kernel
theorem dX7_read_89 : decode cX7_read 89 = .ok (.iconst 1, 1) := by decide +kernel
theorem dX7_read_90 : decode cX7_read 90 = .ok (.goto 4, 3) := by decide +kernel
theorem dX7_read_93 : decode cX7_read 93 = .ok (.iconst 0, 1) := by decide +kernel
theorem dX7_read_94 : decode cX7_read 94 = .ok (.istore_n 3, 1) := by decide +kernel
theorem dX7_read_95 : decode cX7_read 95 = .ok (.iload_n 2, 1) := by decide +kernel
theorem dX7_read_96 : decode cX7_read 96 = .ok (.iload_n 3, 1) := by decide +kernel
theorem dX7_read_97 : decode cX7_read 97 = .ok (.ifCond .eq 7, 3) := by decide +kernel
theorem dX7_read_100 : decode cX7_read 100 = .ok (.iconst 1, 1) := by decide +kernel
theorem dX7_read_101 : decode cX7_read 101 = .ok (.goto 4, 3) := by decide +kernel
theorem dX7_read_104 : decode cX7_read 104 = .ok (.iconst 0, 1) := by decide +kernel
theorem dX7_read_105 : decode cX7_read 105 = .ok (.iadd, 1) := by decide +kernel
theorem dX7_read_106 : decode cX7_read 106 = .ok (.istore_n 2, 1) := by decide +kernel
theorem dX7_read_107 : decode cX7_read 107 = .ok (.goto (-78), 3) := by decide +kernel
theorem dX7_read_110 : decode cX7_read 110 = .ok (.iload_n 2, 1) := by decide +kernel
theorem dX7_read_111 : decode cX7_read 111 = .ok (.ireturn, 1) := by decide +kernel
theorem dX7_isHeard_0 : decode cX7_isHeard 0 = .ok (.aload_n 0, 1) := by decide +kernel
theorem dX7_isHeard_1 : decode cX7_isHeard 1 = .ok (.invokevirtual 144, 3) := by decide +kernel
theorem dX7_isHeard_4 : decode cX7_isHeard 4 = .ok (.iconst 1, 1) := by decide +kernel
theorem dX7_isHeard_5 : decode cX7_isHeard 5 = .ok (.istore_n 1, 1) := by decide +kernel
theorem dX7_isHeard_6 : decode cX7_isHeard 6 = .ok (.iconst 0, 1) := by decide +kernel
theorem dX7_isHeard_7 : decode cX7_isHeard 7 = .ok (.istore_n 2, 1) := by decide +kernel
theorem dX7_isHeard_8 : decode cX7_isHeard 8 = .ok (.iload_n 2, 1) := by decide +kernel
theorem dX7_isHeard_9 : decode cX7_isHeard 9 = .ok (.aload_n 0, 1) := by decide +kernel
theorem dX7_isHeard_10 : decode cX7_isHeard 10 = .ok (.getfield 208, 3) := by decide +kernel
theorem dX7_isHeard_13 : decode cX7_isHeard 13 = .ok (.if_icmp .ge 88, 3) := by decide +kernel
theorem dX7_isHeard_16 : decode cX7_isHeard 16 = .ok (.iload_n 1, 1) := by decide +kernel
theorem dX7_isHeard_17 : decode cX7_isHeard 17 = .ok (.ifCond .eq 84, 3) := by decide +kernel
theorem dX7_isHeard_20 : decode cX7_isHeard 20 = .ok (.aload_n 0, 1) := by decide +kernel
theorem dX7_isHeard_21 : decode cX7_isHeard 21 = .ok (.getfield 55, 3) := by decide +kernel
theorem dX7_isHeard_24 : decode cX7_isHeard 24 = .ok (.iconst 3, 1) := by decide +kernel
theorem dX7_isHeard_25 : decode cX7_isHeard 25 = .ok (.iload_n 2, 1) := by decide +kernel
theorem dX7_isHeard_26 : decode cX7_isHeard 26 = .ok (.imul, 1) := by decide +kernel
theorem dX7_isHeard_27 : decode cX7_isHeard 27 = .ok (.iaload, 1) := by decide +kernel
theorem dX7_isHeard_28 : decode cX7_isHeard 28 = .ok (.istore_n 3, 1) := by decide +kernel
theorem dX7_isHeard_29 : decode cX7_isHeard 29 = .ok (.aload_n 0, 1) := by decide +kernel
theorem dX7_isHeard_30 : decode cX7_isHeard 30 = .ok (.getfield 55, 3) := by decide +kernel
theorem dX7_isHeard_33 : decode cX7_isHeard 33 = .ok (.iconst 3, 1) := by decide +kernel
theorem dX7_isHeard_34 : decode cX7_isHeard 34 = .ok (.iload_n 2, 1) := by decide +kernel
theorem dX7_isHeard_35 : decode cX7_isHeard 35 = .ok (.imul, 1) := by decide +kernel
theorem dX7_isHeard_36 : decode cX7_isHeard 36 = .ok (.iconst 1, 1) := by decide +kernel
theorem dX7_isHeard_37 : decode cX7_isHeard 37 = .ok (.iadd, 1) := by decide +kernel
theorem dX7_isHeard_38 : decode cX7_isHeard 38 = .ok (.iaload, 1) := by decide +kernel
theorem dX7_isHeard_39 : decode cX7_isHeard 39 = .ok (.istore 4, 2) := by decide +kernel
theorem dX7_isHeard_41 : decode cX7_isHeard 41 = .ok (.aload_n 0, 1) := by decide +kernel
theorem dX7_isHeard_42 : decode cX7_isHeard 42 = .ok (.iload_n 3, 1) := by decide +kernel
theorem dX7_isHeard_43 : decode cX7_isHeard 43 = .ok (.invokevirtual 153, 3) := by decide +kernel
theorem dX7_isHeard_46 : decode cX7_isHeard 46 = .ok (.ifCond .eq 47, 3) := by decide +kernel
theorem dX7_isHeard_49 : decode cX7_isHeard 49 = .ok (.aload_n 0, 1) := by decide +kernel
theorem dX7_isHeard_50 : decode cX7_isHeard 50 = .ok (.iload 4, 2) := by decide +kernel
theorem dX7_isHeard_52 : decode cX7_isHeard 52 = .ok (.invokevirtual 117, 3) := by decide +kernel
theorem dX7_isHeard_55 : decode cX7_isHeard 55 = .ok (.ifCond .eq 38, 3) := by decide +kernel
theorem dX7_isHeard_58 : decode cX7_isHeard 58 = .ok (.aload_n 0, 1) := by decide +kernel
theorem dX7_isHeard_59 : decode cX7_isHeard 59 = .ok (.getfield 43, 3) := by decide +kernel
theorem dX7_isHeard_62 : decode cX7_isHeard 62 = .ok (.iload 4, 2) := by decide +kernel
theorem dX7_isHeard_64 : decode cX7_isHeard 64 = .ok (.iaload, 1) := by decide +kernel
theorem dX7_isHeard_65 : decode cX7_isHeard 65 = .ok (.iconst (-1), 1) := by decide +kernel
theorem dX7_isHeard_66 : decode cX7_isHeard 66 = .ok (.if_icmp .eq 27, 3) := by decide +kernel
theorem dX7_isHeard_69 : decode cX7_isHeard 69 = .ok (.aload_n 0, 1) := by decide +kernel
theorem dX7_isHeard_70 : decode cX7_isHeard 70 = .ok (.iload 4, 2) := by decide +kernel
theorem dX7_isHeard_72 : decode cX7_isHeard 72 = .ok (.iload_n 3, 1) := by decide +kernel
theorem dX7_isHeard_73 : decode cX7_isHeard 73 = .ok (.invokevirtual 150, 3) := by decide +kernel
theorem dX7_isHeard_76 : decode cX7_isHeard 76 = .ok (.aload_n 0, 1) := by decide +kernel
theorem dX7_isHeard_77 : decode cX7_isHeard 77 = .ok (.getfield 55, 3) := by decide +kernel
theorem dX7_isHeard_80 : decode cX7_isHeard 80 = .ok (.iconst 3, 1) := by decide +kernel
theorem dX7_isHeard_81 : decode cX7_isHeard 81 = .ok (.iload_n 2, 1) := by decide +kernel
theorem dX7_isHeard_82 : decode cX7_isHeard 82 = .ok (.imul, 1) := by decide +kernel
theorem dX7_isHeard_83 : decode cX7_isHeard 83 = .ok (.iconst 2, 1) := by decide +kernel
theorem dX7_isHeard_84 : decode cX7_isHeard 84 = .ok (.iadd, 1) := by decide +kernel
theorem dX7_isHeard_85 : decode cX7_isHeard 85 = .ok (.iaload, 1) := by decide +kernel
theorem dX7_isHeard_86 : decode cX7_isHeard 86 = .ok (.if_icmp .ne 7, 3) := by decide +kernel
theorem dX7_isHeard_89 : decode cX7_isHeard 89 = .ok (.iconst 1, 1) := by decide +kernel
theorem dX7_isHeard_90 : decode cX7_isHeard 90 = .ok (.goto 4, 3) := by decide +kernel
theorem dX7_isHeard_93 : decode cX7_isHeard 93 = .ok (.iconst 0, 1) := by decide +kernel
theorem dX7_isHeard_94 : decode cX7_isHeard 94 = .ok (.istore_n 1, 1) := by decide +kernel
theorem dX7_isHeard_95 : decode cX7_isHeard 95 = .ok (.iinc 2 1, 3) := by decide +kernel
theorem dX7_isHeard_98 : decode cX7_isHeard 98 = .ok (.goto (-90), 3) := by decide +kernel
theorem dX7_isHeard_101 : decode cX7_isHeard 101 = .ok (.iload_n 1, 1) := by decide +kernel
theorem dX7_isHeard_102 : decode cX7_isHeard 102 = .ok (.ireturn, 1) := by decide +kernel
theorem dX7_speedsOf_0 : decode cX7_speedsOf 0 = .ok (.aload_n 0, 1) := by decide +kernel
theorem dX7_speedsOf_1 : decode cX7_speedsOf 1 = .ok (.getfield 34, 3) := by decide +kernel
theorem dX7_speedsOf_4 : decode cX7_speedsOf 4 = .ok (.iconst 0, 1) := by decide +kernel
theorem dX7_speedsOf_5 : decode cX7_speedsOf 5 = .ok (.iaload, 1) := by decide +kernel
theorem dX7_speedsOf_6 : decode cX7_speedsOf 6 = .ok (.istore_n 2, 1) := by decide +kernel
theorem dX7_speedsOf_7 : decode cX7_speedsOf 7 = .ok (.iconst 0, 1) := by decide +kernel
theorem dX7_speedsOf_8 : decode cX7_speedsOf 8 = .ok (.istore_n 3, 1) := by decide +kernel
theorem dX7_speedsOf_9 : decode cX7_speedsOf 9 = .ok (.iconst (-1), 1) := by decide +kernel
theorem dX7_speedsOf_10 : decode cX7_speedsOf 10 = .ok (.istore 4, 2) := by decide +kernel
theorem dX7_speedsOf_12 : decode cX7_speedsOf 12 = .ok (.iconst 0, 1) := by decide +kernel
theorem dX7_speedsOf_13 : decode cX7_speedsOf 13 = .ok (.istore 5, 2) := by decide +kernel
theorem dX7_speedsOf_15 : decode cX7_speedsOf 15 = .ok (.iload 5, 2) := by decide +kernel
theorem dX7_speedsOf_17 : decode cX7_speedsOf 17 = .ok (.bipush 100, 2) := by decide +kernel
theorem dX7_speedsOf_19 : decode cX7_speedsOf 19 = .ok (.if_icmp .ge 55, 3) := by decide +kernel
theorem dX7_speedsOf_22 : decode cX7_speedsOf 22 = .ok (.aload_n 0, 1) := by decide +kernel
theorem dX7_speedsOf_23 : decode cX7_speedsOf 23 = .ok (.getfield 34, 3) := by decide +kernel
theorem dX7_speedsOf_26 : decode cX7_speedsOf 26 = .ok (.iconst 0, 1) := by decide +kernel
theorem dX7_speedsOf_27 : decode cX7_speedsOf 27 = .ok (.iload 5, 2) := by decide +kernel
theorem dX7_speedsOf_29 : decode cX7_speedsOf 29 = .ok (.iastore, 1) := by decide +kernel
theorem dX7_speedsOf_30 : decode cX7_speedsOf 30 = .ok (.aload_n 0, 1) := by decide +kernel
theorem dX7_speedsOf_31 : decode cX7_speedsOf 31 = .ok (.invokevirtual 214, 3) := by decide +kernel
theorem dX7_speedsOf_34 : decode cX7_speedsOf 34 = .ok (.istore 6, 2) := by decide +kernel
theorem dX7_speedsOf_36 : decode cX7_speedsOf 36 = .ok (.iload 6, 2) := by decide +kernel
theorem dX7_speedsOf_38 : decode cX7_speedsOf 38 = .ok (.ifCond .eq 13, 3) := by decide +kernel
theorem dX7_speedsOf_41 : decode cX7_speedsOf 41 = .ok (.iload_n 3, 1) := by decide +kernel
theorem dX7_speedsOf_42 : decode cX7_speedsOf 42 = .ok (.iload_n 1, 1) := by decide +kernel
theorem dX7_speedsOf_43 : decode cX7_speedsOf 43 = .ok (.if_icmp .ne 8, 3) := by decide +kernel
theorem dX7_speedsOf_46 : decode cX7_speedsOf 46 = .ok (.iload 5, 2) := by decide +kernel
theorem dX7_speedsOf_48 : decode cX7_speedsOf 48 = .ok (.goto 5, 3) := by decide +kernel
theorem dX7_speedsOf_51 : decode cX7_speedsOf 51 = .ok (.iload 4, 2) := by decide +kernel
theorem dX7_speedsOf_53 : decode cX7_speedsOf 53 = .ok (.istore 4, 2) := by decide +kernel
theorem dX7_speedsOf_55 : decode cX7_speedsOf 55 = .ok (.iload_n 3, 1) := by decide +kernel
theorem dX7_speedsOf_56 : decode cX7_speedsOf 56 = .ok (.iload 6, 2) := by decide +kernel
theorem dX7_speedsOf_58 : decode cX7_speedsOf 58 = .ok (.ifCond .eq 7, 3) := by decide +kernel
theorem dX7_speedsOf_61 : decode cX7_speedsOf 61 = .ok (.iconst 1, 1) := by decide +kernel
theorem dX7_speedsOf_62 : decode cX7_speedsOf 62 = .ok (.goto 4, 3) := by decide +kernel
theorem dX7_speedsOf_65 : decode cX7_speedsOf 65 = .ok (.iconst 0, 1) := by decide +kernel
theorem dX7_speedsOf_66 : decode cX7_speedsOf 66 = .ok (.iadd, 1) := by decide +kernel
theorem dX7_speedsOf_67 : decode cX7_speedsOf 67 = .ok (.istore_n 3, 1) := by decide +kernel
theorem dX7_speedsOf_68 : decode cX7_speedsOf 68 = .ok (.iinc 5 1, 3) := by decide +kernel
theorem dX7_speedsOf_71 : decode cX7_speedsOf 71 = .ok (.goto (-56), 3) := by decide +kernel
theorem dX7_speedsOf_74 : decode cX7_speedsOf 74 = .ok (.aload_n 0, 1) := by decide +kernel
theorem dX7_speedsOf_75 : decode cX7_speedsOf 75 = .ok (.getfield 34, 3) := by decide +kernel
theorem dX7_speedsOf_78 : decode cX7_speedsOf 78 = .ok (.iconst 0, 1) := by decide +kernel
theorem dX7_speedsOf_79 : decode cX7_speedsOf 79 = .ok (.iload_n 2, 1) := by decide +kernel
theorem dX7_speedsOf_80 : decode cX7_speedsOf 80 = .ok (.iastore, 1) := by decide +kernel
theorem dX7_speedsOf_81 : decode cX7_speedsOf 81 = .ok (.aload_n 0, 1) := by decide +kernel
theorem dX7_speedsOf_82 : decode cX7_speedsOf 82 = .ok (.invokevirtual 144, 3) := by decide +kernel
theorem dX7_speedsOf_85 : decode cX7_speedsOf 85 = .ok (.iload_n 1, 1) := by decide +kernel
theorem dX7_speedsOf_86 : decode cX7_speedsOf 86 = .ok (.iconst (-1), 1) := by decide +kernel
theorem dX7_speedsOf_87 : decode cX7_speedsOf 87 = .ok (.if_icmp .ne 7, 3) := by decide +kernel
theorem dX7_speedsOf_90 : decode cX7_speedsOf 90 = .ok (.iload_n 3, 1) := by decide +kernel
theorem dX7_speedsOf_91 : decode cX7_speedsOf 91 = .ok (.goto 5, 3) := by decide +kernel
theorem dX7_speedsOf_94 : decode cX7_speedsOf 94 = .ok (.iload 4, 2) := by decide +kernel
theorem dX7_speedsOf_96 : decode cX7_speedsOf 96 = .ok (.ireturn, 1) := by decide +kernel
theorem dX7_speeds_0 : decode cX7_speeds 0 = .ok (.aload_n 0, 1) := by decide +kernel
theorem dX7_speeds_1 : decode cX7_speeds 1 = .ok (.invokevirtual 147, 3) := by decide +kernel
theorem dX7_speeds_4 : decode cX7_speeds 4 = .ok (.iload_n 1, 1) := by decide +kernel
theorem dX7_speeds_5 : decode cX7_speeds 5 = .ok (.i2l, 1) := by decide +kernel
theorem dX7_speeds_6 : decode cX7_speeds 6 = .ok (.ldc2_w 188, 3) := by decide +kernel
theorem dX7_speeds_9 : decode cX7_speeds 9 = .ok (.ldc2_w 126, 3) := by decide +kernel
theorem dX7_speeds_12 : decode cX7_speeds 12 = .ok (.invokestatic 63, 3) := by decide +kernel
theorem dX7_speeds_15 : decode cX7_speeds 15 = .ok (.ifCond .eq 11, 3) := by decide +kernel
theorem dX7_speeds_18 : decode cX7_speeds 18 = .ok (.aload_n 0, 1) := by decide +kernel
theorem dX7_speeds_19 : decode cX7_speeds 19 = .ok (.iload_n 1, 1) := by decide +kernel
theorem dX7_speeds_20 : decode cX7_speeds 20 = .ok (.invokevirtual 218, 3) := by decide +kernel
theorem dX7_speeds_23 : decode cX7_speeds 23 = .ok (.goto 5, 3) := by decide +kernel
theorem dX7_speeds_26 : decode cX7_speeds 26 = .ok (.bipush (-2), 2) := by decide +kernel
theorem dX7_speeds_28 : decode cX7_speeds 28 = .ok (.ireturn, 1) := by decide +kernel
theorem dX7_cowsNow_0 : decode cX7_cowsNow 0 = .ok (.aload_n 0, 1) := by decide +kernel
theorem dX7_cowsNow_1 : decode cX7_cowsNow 1 = .ok (.getfield 34, 3) := by decide +kernel
theorem dX7_cowsNow_4 : decode cX7_cowsNow 4 = .ok (.iconst 1, 1) := by decide +kernel
theorem dX7_cowsNow_5 : decode cX7_cowsNow 5 = .ok (.iaload, 1) := by decide +kernel
theorem dX7_cowsNow_6 : decode cX7_cowsNow 6 = .ok (.istore_n 1, 1) := by decide +kernel
theorem dX7_cowsNow_7 : decode cX7_cowsNow 7 = .ok (.iconst 0, 1) := by decide +kernel
theorem dX7_cowsNow_8 : decode cX7_cowsNow 8 = .ok (.istore_n 2, 1) := by decide +kernel
theorem dX7_cowsNow_9 : decode cX7_cowsNow 9 = .ok (.iconst 0, 1) := by decide +kernel
theorem dX7_cowsNow_10 : decode cX7_cowsNow 10 = .ok (.istore_n 3, 1) := by decide +kernel
theorem dX7_cowsNow_11 : decode cX7_cowsNow 11 = .ok (.iload_n 3, 1) := by decide +kernel
theorem dX7_cowsNow_12 : decode cX7_cowsNow 12 = .ok (.bipush 10, 2) := by decide +kernel
theorem dX7_cowsNow_14 : decode cX7_cowsNow 14 = .ok (.if_icmp .ge 33, 3) := by decide +kernel
theorem dX7_cowsNow_17 : decode cX7_cowsNow 17 = .ok (.aload_n 0, 1) := by decide +kernel
theorem dX7_cowsNow_18 : decode cX7_cowsNow 18 = .ok (.getfield 34, 3) := by decide +kernel
theorem dX7_cowsNow_21 : decode cX7_cowsNow 21 = .ok (.iconst 1, 1) := by decide +kernel
theorem dX7_cowsNow_22 : decode cX7_cowsNow 22 = .ok (.iload_n 3, 1) := by decide +kernel
theorem dX7_cowsNow_23 : decode cX7_cowsNow 23 = .ok (.iastore, 1) := by decide +kernel
theorem dX7_cowsNow_24 : decode cX7_cowsNow 24 = .ok (.iload_n 2, 1) := by decide +kernel
theorem dX7_cowsNow_25 : decode cX7_cowsNow 25 = .ok (.aload_n 0, 1) := by decide +kernel
theorem dX7_cowsNow_26 : decode cX7_cowsNow 26 = .ok (.invokevirtual 214, 3) := by decide +kernel
theorem dX7_cowsNow_29 : decode cX7_cowsNow 29 = .ok (.ifCond .eq 9, 3) := by decide +kernel
theorem dX7_cowsNow_32 : decode cX7_cowsNow 32 = .ok (.iconst 1, 1) := by decide +kernel
theorem dX7_cowsNow_33 : decode cX7_cowsNow 33 = .ok (.iload_n 3, 1) := by decide +kernel
theorem dX7_cowsNow_34 : decode cX7_cowsNow 34 = .ok (.ishl, 1) := by decide +kernel
theorem dX7_cowsNow_35 : decode cX7_cowsNow 35 = .ok (.goto 4, 3) := by decide +kernel
theorem dX7_cowsNow_38 : decode cX7_cowsNow 38 = .ok (.iconst 0, 1) := by decide +kernel
theorem dX7_cowsNow_39 : decode cX7_cowsNow 39 = .ok (.ior, 1) := by decide +kernel
theorem dX7_cowsNow_40 : decode cX7_cowsNow 40 = .ok (.istore_n 2, 1) := by decide +kernel
theorem dX7_cowsNow_41 : decode cX7_cowsNow 41 = .ok (.iinc 3 1, 3) := by decide +kernel
theorem dX7_cowsNow_44 : decode cX7_cowsNow 44 = .ok (.goto (-33), 3) := by decide +kernel
theorem dX7_cowsNow_47 : decode cX7_cowsNow 47 = .ok (.aload_n 0, 1) := by decide +kernel
theorem dX7_cowsNow_48 : decode cX7_cowsNow 48 = .ok (.getfield 34, 3) := by decide +kernel
theorem dX7_cowsNow_51 : decode cX7_cowsNow 51 = .ok (.iconst 1, 1) := by decide +kernel
theorem dX7_cowsNow_52 : decode cX7_cowsNow 52 = .ok (.iload_n 1, 1) := by decide +kernel
theorem dX7_cowsNow_53 : decode cX7_cowsNow 53 = .ok (.iastore, 1) := by decide +kernel
theorem dX7_cowsNow_54 : decode cX7_cowsNow 54 = .ok (.aload_n 0, 1) := by decide +kernel
theorem dX7_cowsNow_55 : decode cX7_cowsNow 55 = .ok (.invokevirtual 144, 3) := by decide +kernel
theorem dX7_cowsNow_58 : decode cX7_cowsNow 58 = .ok (.iload_n 2, 1) := by decide +kernel
theorem dX7_cowsNow_59 : decode cX7_cowsNow 59 = .ok (.ireturn, 1) := by decide +kernel
theorem dX7_cows_0 : decode cX7_cows 0 = .ok (.aload_n 0, 1) := by decide +kernel
theorem dX7_cows_1 : decode cX7_cows 1 = .ok (.invokevirtual 147, 3) := by decide +kernel
theorem dX7_cows_4 : decode cX7_cows 4 = .ok (.aload_n 0, 1) := by decide +kernel
theorem dX7_cows_5 : decode cX7_cows 5 = .ok (.invokevirtual 221, 3) := by decide +kernel
theorem dX7_cows_8 : decode cX7_cows 8 = .ok (.ireturn, 1) := by decide +kernel
theorem dX7_askNow_0 : decode cX7_askNow 0 = .ok (.aload_n 0, 1) := by decide +kernel
theorem dX7_askNow_1 : decode cX7_askNow 1 = .ok (.getfield 34, 3) := by decide +kernel
theorem dX7_askNow_4 : decode cX7_askNow 4 = .ok (.iconst 0, 1) := by decide +kernel
theorem dX7_askNow_5 : decode cX7_askNow 5 = .ok (.iaload, 1) := by decide +kernel
theorem dX7_askNow_6 : decode cX7_askNow 6 = .ok (.istore_n 1, 1) := by decide +kernel
theorem dX7_askNow_7 : decode cX7_askNow 7 = .ok (.iconst 0, 1) := by decide +kernel
theorem dX7_askNow_8 : decode cX7_askNow 8 = .ok (.istore_n 2, 1) := by decide +kernel
theorem dX7_askNow_9 : decode cX7_askNow 9 = .ok (.iconst 0, 1) := by decide +kernel
theorem dX7_askNow_10 : decode cX7_askNow 10 = .ok (.istore_n 3, 1) := by decide +kernel
theorem dX7_askNow_11 : decode cX7_askNow 11 = .ok (.iload_n 3, 1) := by decide +kernel
theorem dX7_askNow_12 : decode cX7_askNow 12 = .ok (.bipush 100, 2) := by decide +kernel
theorem dX7_askNow_14 : decode cX7_askNow 14 = .ok (.if_icmp .ge 80, 3) := by decide +kernel
theorem dX7_askNow_17 : decode cX7_askNow 17 = .ok (.aload_n 0, 1) := by decide +kernel
theorem dX7_askNow_18 : decode cX7_askNow 18 = .ok (.getfield 34, 3) := by decide +kernel
theorem dX7_askNow_21 : decode cX7_askNow 21 = .ok (.iconst 0, 1) := by decide +kernel
theorem dX7_askNow_22 : decode cX7_askNow 22 = .ok (.iload_n 3, 1) := by decide +kernel
theorem dX7_askNow_23 : decode cX7_askNow 23 = .ok (.iastore, 1) := by decide +kernel
theorem dX7_askNow_24 : decode cX7_askNow 24 = .ok (.aload_n 0, 1) := by decide +kernel
theorem dX7_askNow_25 : decode cX7_askNow 25 = .ok (.invokevirtual 214, 3) := by decide +kernel
theorem dX7_askNow_28 : decode cX7_askNow 28 = .ok (.ifCond .eq 60, 3) := by decide +kernel
theorem dX7_askNow_31 : decode cX7_askNow 31 = .ok (.iconst 0, 1) := by decide +kernel
theorem dX7_askNow_32 : decode cX7_askNow 32 = .ok (.istore 4, 2) := by decide +kernel
theorem dX7_askNow_34 : decode cX7_askNow 34 = .ok (.iload 4, 2) := by decide +kernel
theorem dX7_askNow_36 : decode cX7_askNow 36 = .ok (.aload_n 0, 1) := by decide +kernel
theorem dX7_askNow_37 : decode cX7_askNow 37 = .ok (.getfield 101, 3) := by decide +kernel
theorem dX7_askNow_40 : decode cX7_askNow 40 = .ok (.if_icmp .ge 45, 3) := by decide +kernel
theorem dX7_askNow_43 : decode cX7_askNow 43 = .ok (.aload_n 0, 1) := by decide +kernel
theorem dX7_askNow_44 : decode cX7_askNow 44 = .ok (.getfield 58, 3) := by decide +kernel
theorem dX7_askNow_47 : decode cX7_askNow 47 = .ok (.bipush 100, 2) := by decide +kernel
theorem dX7_askNow_49 : decode cX7_askNow 49 = .ok (.iload 4, 2) := by decide +kernel
theorem dX7_askNow_51 : decode cX7_askNow 51 = .ok (.imul, 1) := by decide +kernel
theorem dX7_askNow_52 : decode cX7_askNow 52 = .ok (.iload_n 2, 1) := by decide +kernel
theorem dX7_askNow_53 : decode cX7_askNow 53 = .ok (.iadd, 1) := by decide +kernel
theorem dX7_askNow_54 : decode cX7_askNow 54 = .ok (.aload_n 0, 1) := by decide +kernel
theorem dX7_askNow_55 : decode cX7_askNow 55 = .ok (.getfield 43, 3) := by decide +kernel
theorem dX7_askNow_58 : decode cX7_askNow 58 = .ok (.iload 4, 2) := by decide +kernel
theorem dX7_askNow_60 : decode cX7_askNow 60 = .ok (.iaload, 1) := by decide +kernel
theorem dX7_askNow_61 : decode cX7_askNow 61 = .ok (.iconst (-1), 1) := by decide +kernel
theorem dX7_askNow_62 : decode cX7_askNow 62 = .ok (.if_icmp .ne 9, 3) := by decide +kernel
theorem dX7_askNow_65 : decode cX7_askNow 65 = .ok (.sipush (-10000), 3) := by decide +kernel
theorem dX7_askNow_68 : decode cX7_askNow 68 = .ok (.goto 10, 3) := by decide +kernel
theorem dX7_askNow_71 : decode cX7_askNow 71 = .ok (.aload_n 0, 1) := by decide +kernel
theorem dX7_askNow_72 : decode cX7_askNow 72 = .ok (.getfield 46, 3) := by decide +kernel
theorem dX7_askNow_75 : decode cX7_askNow 75 = .ok (.iload 4, 2) := by decide +kernel
theorem dX7_askNow_77 : decode cX7_askNow 77 = .ok (.iaload, 1) := by decide +kernel
theorem dX7_askNow_78 : decode cX7_askNow 78 = .ok (.iastore, 1) := by decide +kernel
theorem dX7_askNow_79 : decode cX7_askNow 79 = .ok (.iinc 4 1, 3) := by decide +kernel
theorem dX7_askNow_82 : decode cX7_askNow 82 = .ok (.goto (-48), 3) := by decide +kernel
theorem dX7_askNow_85 : decode cX7_askNow 85 = .ok (.iinc 2 1, 3) := by decide +kernel
theorem dX7_askNow_88 : decode cX7_askNow 88 = .ok (.iinc 3 1, 3) := by decide +kernel
theorem dX7_askNow_91 : decode cX7_askNow 91 = .ok (.goto (-80), 3) := by decide +kernel
theorem dX7_askNow_94 : decode cX7_askNow 94 = .ok (.aload_n 0, 1) := by decide +kernel
theorem dX7_askNow_95 : decode cX7_askNow 95 = .ok (.getfield 34, 3) := by decide +kernel
theorem dX7_askNow_98 : decode cX7_askNow 98 = .ok (.iconst 0, 1) := by decide +kernel
theorem dX7_askNow_99 : decode cX7_askNow 99 = .ok (.iload_n 1, 1) := by decide +kernel
theorem dX7_askNow_100 : decode cX7_askNow 100 = .ok (.iastore, 1) := by decide +kernel
theorem dX7_askNow_101 : decode cX7_askNow 101 = .ok (.aload_n 0, 1) := by decide +kernel
theorem dX7_askNow_102 : decode cX7_askNow 102 = .ok (.invokevirtual 144, 3) := by decide +kernel
theorem dX7_askNow_105 : decode cX7_askNow 105 = .ok (.iconst (-1), 1) := by decide +kernel
theorem dX7_askNow_106 : decode cX7_askNow 106 = .ok (.istore_n 3, 1) := by decide +kernel
theorem dX7_askNow_107 : decode cX7_askNow 107 = .ok (.iconst 0, 1) := by decide +kernel
theorem dX7_askNow_108 : decode cX7_askNow 108 = .ok (.istore 4, 2) := by decide +kernel
theorem dX7_askNow_110 : decode cX7_askNow 110 = .ok (.iconst 0, 1) := by decide +kernel
theorem dX7_askNow_111 : decode cX7_askNow 111 = .ok (.istore 5, 2) := by decide +kernel
theorem dX7_askNow_113 : decode cX7_askNow 113 = .ok (.iload 5, 2) := by decide +kernel
theorem dX7_askNow_115 : decode cX7_askNow 115 = .ok (.aload_n 0, 1) := by decide +kernel
theorem dX7_askNow_116 : decode cX7_askNow 116 = .ok (.getfield 101, 3) := by decide +kernel
theorem dX7_askNow_119 : decode cX7_askNow 119 = .ok (.if_icmp .ge 66, 3) := by decide +kernel
theorem dX7_askNow_122 : decode cX7_askNow 122 = .ok (.aload_n 0, 1) := by decide +kernel
theorem dX7_askNow_123 : decode cX7_askNow 123 = .ok (.bipush 100, 2) := by decide +kernel
theorem dX7_askNow_125 : decode cX7_askNow 125 = .ok (.iload 5, 2) := by decide +kernel
theorem dX7_askNow_127 : decode cX7_askNow 127 = .ok (.imul, 1) := by decide +kernel
theorem dX7_askNow_128 : decode cX7_askNow 128 = .ok (.iload_n 2, 1) := by decide +kernel
theorem dX7_askNow_129 : decode cX7_askNow 129 = .ok (.invokevirtual 224, 3) := by decide +kernel
theorem dX7_askNow_132 : decode cX7_askNow 132 = .ok (.istore 6, 2) := by decide +kernel
theorem dX7_askNow_134 : decode cX7_askNow 134 = .ok (.iload_n 3, 1) := by decide +kernel
theorem dX7_askNow_135 : decode cX7_askNow 135 = .ok (.iconst (-1), 1) := by decide +kernel
theorem dX7_askNow_136 : decode cX7_askNow 136 = .ok (.if_icmp .eq 10, 3) := by decide +kernel
theorem dX7_askNow_139 : decode cX7_askNow 139 = .ok (.iload 6, 2) := by decide +kernel
theorem dX7_askNow_141 : decode cX7_askNow 141 = .ok (.iload 4, 2) := by decide +kernel
theorem dX7_askNow_143 : decode cX7_askNow 143 = .ok (.if_icmp .ge 7, 3) := by decide +kernel
theorem dX7_askNow_146 : decode cX7_askNow 146 = .ok (.iconst 1, 1) := by decide +kernel
theorem dX7_askNow_147 : decode cX7_askNow 147 = .ok (.goto 4, 3) := by decide +kernel
theorem dX7_askNow_150 : decode cX7_askNow 150 = .ok (.iconst 0, 1) := by decide +kernel
theorem dX7_askNow_151 : decode cX7_askNow 151 = .ok (.istore 7, 2) := by decide +kernel
theorem dX7_askNow_153 : decode cX7_askNow 153 = .ok (.iload 7, 2) := by decide +kernel
theorem dX7_askNow_155 : decode cX7_askNow 155 = .ok (.ifCond .eq 8, 3) := by decide +kernel
theorem dX7_askNow_158 : decode cX7_askNow 158 = .ok (.iload 5, 2) := by decide +kernel
theorem dX7_askNow_160 : decode cX7_askNow 160 = .ok (.goto 4, 3) := by decide +kernel
theorem dX7_askNow_163 : decode cX7_askNow 163 = .ok (.iload_n 3, 1) := by decide +kernel
theorem dX7_askNow_164 : decode cX7_askNow 164 = .ok (.istore_n 3, 1) := by decide +kernel
theorem dX7_askNow_165 : decode cX7_askNow 165 = .ok (.iload 7, 2) := by decide +kernel
theorem dX7_askNow_167 : decode cX7_askNow 167 = .ok (.ifCond .eq 8, 3) := by decide +kernel
theorem dX7_askNow_170 : decode cX7_askNow 170 = .ok (.iload 6, 2) := by decide +kernel
theorem dX7_askNow_172 : decode cX7_askNow 172 = .ok (.goto 5, 3) := by decide +kernel
theorem dX7_askNow_175 : decode cX7_askNow 175 = .ok (.iload 4, 2) := by decide +kernel
theorem dX7_askNow_177 : decode cX7_askNow 177 = .ok (.istore 4, 2) := by decide +kernel
theorem dX7_askNow_179 : decode cX7_askNow 179 = .ok (.iinc 5 1, 3) := by decide +kernel
theorem dX7_askNow_182 : decode cX7_askNow 182 = .ok (.goto (-69), 3) := by decide +kernel
theorem dX7_askNow_185 : decode cX7_askNow 185 = .ok (.iload_n 3, 1) := by decide +kernel
theorem dX7_askNow_186 : decode cX7_askNow 186 = .ok (.ireturn, 1) := by decide +kernel
theorem dX7_mostAlike_0 : decode cX7_mostAlike 0 = .ok (.iconst 0, 1) := by decide +kernel
theorem dX7_mostAlike_1 : decode cX7_mostAlike 1 = .ok (.istore_n 3, 1) := by decide +kernel
theorem dX7_mostAlike_2 : decode cX7_mostAlike 2 = .ok (.iconst 0, 1) := by decide +kernel
theorem dX7_mostAlike_3 : decode cX7_mostAlike 3 = .ok (.istore 4, 2) := by decide +kernel
theorem dX7_mostAlike_5 : decode cX7_mostAlike 5 = .ok (.iload 4, 2) := by decide +kernel
theorem dX7_mostAlike_7 : decode cX7_mostAlike 7 = .ok (.iload_n 2, 1) := by decide +kernel
theorem dX7_mostAlike_8 : decode cX7_mostAlike 8 = .ok (.if_icmp .ge 65, 3) := by decide +kernel
theorem dX7_mostAlike_11 : decode cX7_mostAlike 11 = .ok (.iconst 0, 1) := by decide +kernel
theorem dX7_mostAlike_12 : decode cX7_mostAlike 12 = .ok (.istore 5, 2) := by decide +kernel
theorem dX7_mostAlike_14 : decode cX7_mostAlike 14 = .ok (.iconst 0, 1) := by decide +kernel
theorem dX7_mostAlike_15 : decode cX7_mostAlike 15 = .ok (.istore 6, 2) := by decide +kernel
theorem dX7_mostAlike_17 : decode cX7_mostAlike 17 = .ok (.iload 6, 2) := by decide +kernel
theorem dX7_mostAlike_19 : decode cX7_mostAlike 19 = .ok (.iload_n 2, 1) := by decide +kernel
theorem dX7_mostAlike_20 : decode cX7_mostAlike 20 = .ok (.if_icmp .ge 40, 3) := by decide +kernel
theorem dX7_mostAlike_23 : decode cX7_mostAlike 23 = .ok (.iload 5, 2) := by decide +kernel
theorem dX7_mostAlike_25 : decode cX7_mostAlike 25 = .ok (.aload_n 0, 1) := by decide +kernel
theorem dX7_mostAlike_26 : decode cX7_mostAlike 26 = .ok (.getfield 58, 3) := by decide +kernel
theorem dX7_mostAlike_29 : decode cX7_mostAlike 29 = .ok (.iload_n 1, 1) := by decide +kernel
theorem dX7_mostAlike_30 : decode cX7_mostAlike 30 = .ok (.iload 4, 2) := by decide +kernel
theorem dX7_mostAlike_32 : decode cX7_mostAlike 32 = .ok (.iadd, 1) := by decide +kernel
theorem dX7_mostAlike_33 : decode cX7_mostAlike 33 = .ok (.iaload, 1) := by decide +kernel
theorem dX7_mostAlike_34 : decode cX7_mostAlike 34 = .ok (.aload_n 0, 1) := by decide +kernel
theorem dX7_mostAlike_35 : decode cX7_mostAlike 35 = .ok (.getfield 58, 3) := by decide +kernel
theorem dX7_mostAlike_38 : decode cX7_mostAlike 38 = .ok (.iload_n 1, 1) := by decide +kernel
theorem dX7_mostAlike_39 : decode cX7_mostAlike 39 = .ok (.iload 6, 2) := by decide +kernel
theorem dX7_mostAlike_41 : decode cX7_mostAlike 41 = .ok (.iadd, 1) := by decide +kernel
theorem dX7_mostAlike_42 : decode cX7_mostAlike 42 = .ok (.iaload, 1) := by decide +kernel
theorem dX7_mostAlike_43 : decode cX7_mostAlike 43 = .ok (.if_icmp .ne 7, 3) := by decide +kernel
theorem dX7_mostAlike_46 : decode cX7_mostAlike 46 = .ok (.iconst 1, 1) := by decide +kernel
theorem dX7_mostAlike_47 : decode cX7_mostAlike 47 = .ok (.goto 4, 3) := by decide +kernel
theorem dX7_mostAlike_50 : decode cX7_mostAlike 50 = .ok (.iconst 0, 1) := by decide +kernel
theorem dX7_mostAlike_51 : decode cX7_mostAlike 51 = .ok (.iadd, 1) := by decide +kernel
theorem dX7_mostAlike_52 : decode cX7_mostAlike 52 = .ok (.istore 5, 2) := by decide +kernel
theorem dX7_mostAlike_54 : decode cX7_mostAlike 54 = .ok (.iinc 6 1, 3) := by decide +kernel
theorem dX7_mostAlike_57 : decode cX7_mostAlike 57 = .ok (.goto (-40), 3) := by decide +kernel
theorem dX7_mostAlike_60 : decode cX7_mostAlike 60 = .ok (.iload 5, 2) := by decide +kernel
theorem dX7_mostAlike_62 : decode cX7_mostAlike 62 = .ok (.iload_n 3, 1) := by decide +kernel
theorem dX7_mostAlike_63 : decode cX7_mostAlike 63 = .ok (.invokestatic 166, 3) := by decide +kernel
theorem dX7_mostAlike_66 : decode cX7_mostAlike 66 = .ok (.istore_n 3, 1) := by decide +kernel
theorem dX7_mostAlike_67 : decode cX7_mostAlike 67 = .ok (.iinc 4 1, 3) := by decide +kernel
theorem dX7_mostAlike_70 : decode cX7_mostAlike 70 = .ok (.goto (-65), 3) := by decide +kernel
theorem dX7_mostAlike_73 : decode cX7_mostAlike 73 = .ok (.iload_n 3, 1) := by decide +kernel
theorem dX7_mostAlike_74 : decode cX7_mostAlike 74 = .ok (.ireturn, 1) := by decide +kernel
theorem dX7_ask_0 : decode cX7_ask 0 = .ok (.aload_n 0, 1) := by decide +kernel
theorem dX7_ask_1 : decode cX7_ask 1 = .ok (.invokevirtual 147, 3) := by decide +kernel
theorem dX7_ask_4 : decode cX7_ask 4 = .ok (.aload_n 0, 1) := by decide +kernel
theorem dX7_ask_5 : decode cX7_ask 5 = .ok (.invokevirtual 227, 3) := by decide +kernel
theorem dX7_ask_8 : decode cX7_ask 8 = .ok (.ireturn, 1) := by decide +kernel
theorem dX7_isSung_0 : decode cX7_isSung 0 = .ok (.aload_n 0, 1) := by decide +kernel
theorem dX7_isSung_1 : decode cX7_isSung 1 = .ok (.iload_n 1, 1) := by decide +kernel
theorem dX7_isSung_2 : decode cX7_isSung 2 = .ok (.invokevirtual 153, 3) := by decide +kernel
theorem dX7_isSung_5 : decode cX7_isSung 5 = .ok (.ifCond .eq 17, 3) := by decide +kernel
theorem dX7_isSung_8 : decode cX7_isSung 8 = .ok (.aload_n 0, 1) := by decide +kernel
theorem dX7_isSung_9 : decode cX7_isSung 9 = .ok (.getfield 31, 3) := by decide +kernel
theorem dX7_isSung_12 : decode cX7_isSung 12 = .ok (.iload_n 1, 1) := by decide +kernel
theorem dX7_isSung_13 : decode cX7_isSung 13 = .ok (.iaload, 1) := by decide +kernel
theorem dX7_isSung_14 : decode cX7_isSung 14 = .ok (.iconst 1, 1) := by decide +kernel
theorem dX7_isSung_15 : decode cX7_isSung 15 = .ok (.if_icmp .eq 7, 3) := by decide +kernel
theorem dX7_isSung_18 : decode cX7_isSung 18 = .ok (.iconst 1, 1) := by decide +kernel
theorem dX7_isSung_19 : decode cX7_isSung 19 = .ok (.goto 4, 3) := by decide +kernel
theorem dX7_isSung_22 : decode cX7_isSung 22 = .ok (.iconst 0, 1) := by decide +kernel
theorem dX7_isSung_23 : decode cX7_isSung 23 = .ok (.ireturn, 1) := by decide +kernel
theorem dX7_herdOf_0 : decode cX7_herdOf 0 = .ok (.aload_n 0, 1) := by decide +kernel
theorem dX7_herdOf_1 : decode cX7_herdOf 1 = .ok (.getfield 34, 3) := by decide +kernel
theorem dX7_herdOf_4 : decode cX7_herdOf 4 = .ok (.iconst 1, 1) := by decide +kernel
theorem dX7_herdOf_5 : decode cX7_herdOf 5 = .ok (.iaload, 1) := by decide +kernel
theorem dX7_herdOf_6 : decode cX7_herdOf 6 = .ok (.istore 5, 2) := by decide +kernel
theorem dX7_herdOf_8 : decode cX7_herdOf 8 = .ok (.lconst 0, 1) := by decide +kernel
theorem dX7_herdOf_9 : decode cX7_herdOf 9 = .ok (.lstore 6, 2) := by decide +kernel
theorem dX7_herdOf_11 : decode cX7_herdOf 11 = .ok (.lconst 1, 1) := by decide +kernel
theorem dX7_herdOf_12 : decode cX7_herdOf 12 = .ok (.lstore 8, 2) := by decide +kernel
theorem dX7_herdOf_14 : decode cX7_herdOf 14 = .ok (.lconst 1, 1) := by decide +kernel
theorem dX7_herdOf_15 : decode cX7_herdOf 15 = .ok (.lstore 10, 2) := by decide +kernel
theorem dX7_herdOf_17 : decode cX7_herdOf 17 = .ok (.iconst 0, 1) := by decide +kernel
theorem dX7_herdOf_18 : decode cX7_herdOf 18 = .ok (.istore 12, 2) := by decide +kernel
theorem dX7_herdOf_20 : decode cX7_herdOf 20 = .ok (.iload 12, 2) := by decide +kernel
theorem dX7_herdOf_22 : decode cX7_herdOf 22 = .ok (.iload_n 1, 1) := by decide +kernel
theorem dX7_herdOf_23 : decode cX7_herdOf 23 = .ok (.if_icmp .gt 115, 3) := by decide +kernel
theorem dX7_herdOf_26 : decode cX7_herdOf 26 = .ok (.lload 10, 2) := by decide +kernel
theorem dX7_herdOf_28 : decode cX7_herdOf 28 = .ok (.lstore 13, 2) := by decide +kernel
theorem dX7_herdOf_30 : decode cX7_herdOf 30 = .ok (.iconst 0, 1) := by decide +kernel
theorem dX7_herdOf_31 : decode cX7_herdOf 31 = .ok (.istore 15, 2) := by decide +kernel
theorem dX7_herdOf_33 : decode cX7_herdOf 33 = .ok (.iload 15, 2) := by decide +kernel
theorem dX7_herdOf_35 : decode cX7_herdOf 35 = .ok (.iload_n 1, 1) := by decide +kernel
theorem dX7_herdOf_36 : decode cX7_herdOf 36 = .ok (.if_icmp .ge 31, 3) := by decide +kernel
theorem dX7_herdOf_39 : decode cX7_herdOf 39 = .ok (.lload 13, 2) := by decide +kernel
theorem dX7_herdOf_41 : decode cX7_herdOf 41 = .ok (.iload 15, 2) := by decide +kernel
theorem dX7_herdOf_43 : decode cX7_herdOf 43 = .ok (.iload 12, 2) := by decide +kernel
theorem dX7_herdOf_45 : decode cX7_herdOf 45 = .ok (.if_icmp .ge 8, 3) := by decide +kernel
theorem dX7_herdOf_48 : decode cX7_herdOf 48 = .ok (.iload_n 2, 1) := by decide +kernel
theorem dX7_herdOf_49 : decode cX7_herdOf 49 = .ok (.i2l, 1) := by decide +kernel
theorem dX7_herdOf_50 : decode cX7_herdOf 50 = .ok (.goto 8, 3) := by decide +kernel
theorem dX7_herdOf_53 : decode cX7_herdOf 53 = .ok (.bipush 16, 2) := by decide +kernel
theorem dX7_herdOf_55 : decode cX7_herdOf 55 = .ok (.iload_n 2, 1) := by decide +kernel
theorem dX7_herdOf_56 : decode cX7_herdOf 56 = .ok (.isub, 1) := by decide +kernel
theorem dX7_herdOf_57 : decode cX7_herdOf 57 = .ok (.i2l, 1) := by decide +kernel
theorem dX7_herdOf_58 : decode cX7_herdOf 58 = .ok (.lmul, 1) := by decide +kernel
theorem dX7_herdOf_59 : decode cX7_herdOf 59 = .ok (.lstore 13, 2) := by decide +kernel
theorem dX7_herdOf_61 : decode cX7_herdOf 61 = .ok (.iinc 15 1, 3) := by decide +kernel
theorem dX7_herdOf_64 : decode cX7_herdOf 64 = .ok (.goto (-31), 3) := by decide +kernel
theorem dX7_herdOf_67 : decode cX7_herdOf 67 = .ok (.aload_n 0, 1) := by decide +kernel
theorem dX7_herdOf_68 : decode cX7_herdOf 68 = .ok (.getfield 34, 3) := by decide +kernel
theorem dX7_herdOf_71 : decode cX7_herdOf 71 = .ok (.iconst 1, 1) := by decide +kernel
theorem dX7_herdOf_72 : decode cX7_herdOf 72 = .ok (.iload 12, 2) := by decide +kernel
theorem dX7_herdOf_74 : decode cX7_herdOf 74 = .ok (.iastore, 1) := by decide +kernel
theorem dX7_herdOf_75 : decode cX7_herdOf 75 = .ok (.aload_n 0, 1) := by decide +kernel
theorem dX7_herdOf_76 : decode cX7_herdOf 76 = .ok (.invokevirtual 144, 3) := by decide +kernel
theorem dX7_herdOf_79 : decode cX7_herdOf 79 = .ok (.lload 6, 2) := by decide +kernel
theorem dX7_herdOf_81 : decode cX7_herdOf 81 = .ok (.aload_n 0, 1) := by decide +kernel
theorem dX7_herdOf_82 : decode cX7_herdOf 82 = .ok (.iload_n 3, 1) := by decide +kernel
theorem dX7_herdOf_83 : decode cX7_herdOf 83 = .ok (.invokevirtual 172, 3) := by decide +kernel
theorem dX7_herdOf_86 : decode cX7_herdOf 86 = .ok (.ifCond .eq 8, 3) := by decide +kernel
theorem dX7_herdOf_89 : decode cX7_herdOf 89 = .ok (.lload 13, 2) := by decide +kernel
theorem dX7_herdOf_91 : decode cX7_herdOf 91 = .ok (.goto 4, 3) := by decide +kernel
theorem dX7_herdOf_94 : decode cX7_herdOf 94 = .ok (.lconst 0, 1) := by decide +kernel
theorem dX7_herdOf_95 : decode cX7_herdOf 95 = .ok (.ladd, 1) := by decide +kernel
theorem dX7_herdOf_96 : decode cX7_herdOf 96 = .ok (.lstore 6, 2) := by decide +kernel
theorem dX7_herdOf_98 : decode cX7_herdOf 98 = .ok (.lload 8, 2) := by decide +kernel
theorem dX7_herdOf_100 : decode cX7_herdOf 100 = .ok (.iload 12, 2) := by decide +kernel
theorem dX7_herdOf_102 : decode cX7_herdOf 102 = .ok (.iload_n 1, 1) := by decide +kernel
theorem dX7_herdOf_103 : decode cX7_herdOf 103 = .ok (.if_icmp .ge 9, 3) := by decide +kernel
theorem dX7_herdOf_106 : decode cX7_herdOf 106 = .ok (.ldc2_w 230, 3) := by decide +kernel
theorem dX7_herdOf_109 : decode cX7_herdOf 109 = .ok (.goto 4, 3) := by decide +kernel
theorem dX7_herdOf_112 : decode cX7_herdOf 112 = .ok (.lconst 1, 1) := by decide +kernel
theorem dX7_herdOf_113 : decode cX7_herdOf 113 = .ok (.lmul, 1) := by decide +kernel
theorem dX7_herdOf_114 : decode cX7_herdOf 114 = .ok (.lstore 8, 2) := by decide +kernel
theorem dX7_herdOf_116 : decode cX7_herdOf 116 = .ok (.lload 10, 2) := by decide +kernel
theorem dX7_herdOf_118 : decode cX7_herdOf 118 = .ok (.iload_n 1, 1) := by decide +kernel
theorem dX7_herdOf_119 : decode cX7_herdOf 119 = .ok (.iload 12, 2) := by decide +kernel
theorem dX7_herdOf_121 : decode cX7_herdOf 121 = .ok (.isub, 1) := by decide +kernel
theorem dX7_herdOf_122 : decode cX7_herdOf 122 = .ok (.i2l, 1) := by decide +kernel
theorem dX7_herdOf_123 : decode cX7_herdOf 123 = .ok (.lmul, 1) := by decide +kernel
theorem dX7_herdOf_124 : decode cX7_herdOf 124 = .ok (.iload 12, 2) := by decide +kernel
theorem dX7_herdOf_126 : decode cX7_herdOf 126 = .ok (.iconst 1, 1) := by decide +kernel
theorem dX7_herdOf_127 : decode cX7_herdOf 127 = .ok (.iadd, 1) := by decide +kernel
theorem dX7_herdOf_128 : decode cX7_herdOf 128 = .ok (.i2l, 1) := by decide +kernel
theorem dX7_herdOf_129 : decode cX7_herdOf 129 = .ok (.ldiv, 1) := by decide +kernel
theorem dX7_herdOf_130 : decode cX7_herdOf 130 = .ok (.lstore 10, 2) := by decide +kernel
theorem dX7_herdOf_132 : decode cX7_herdOf 132 = .ok (.iinc 12 1, 3) := by decide +kernel
theorem dX7_herdOf_135 : decode cX7_herdOf 135 = .ok (.goto (-115), 3) := by decide +kernel
theorem dX7_herdOf_138 : decode cX7_herdOf 138 = .ok (.aload_n 0, 1) := by decide +kernel
theorem dX7_herdOf_139 : decode cX7_herdOf 139 = .ok (.getfield 34, 3) := by decide +kernel
theorem dX7_herdOf_142 : decode cX7_herdOf 142 = .ok (.iconst 1, 1) := by decide +kernel
theorem dX7_herdOf_143 : decode cX7_herdOf 143 = .ok (.iload 5, 2) := by decide +kernel
theorem dX7_herdOf_145 : decode cX7_herdOf 145 = .ok (.iastore, 1) := by decide +kernel
theorem dX7_herdOf_146 : decode cX7_herdOf 146 = .ok (.aload_n 0, 1) := by decide +kernel
theorem dX7_herdOf_147 : decode cX7_herdOf 147 = .ok (.invokevirtual 144, 3) := by decide +kernel
theorem dX7_herdOf_150 : decode cX7_herdOf 150 = .ok (.lload 6, 2) := by decide +kernel
theorem dX7_herdOf_152 : decode cX7_herdOf 152 = .ok (.lload 8, 2) := by decide +kernel
theorem dX7_herdOf_154 : decode cX7_herdOf 154 = .ok (.iload 4, 2) := by decide +kernel
theorem dX7_herdOf_156 : decode cX7_herdOf 156 = .ok (.invokestatic 232, 3) := by decide +kernel
theorem dX7_herdOf_159 : decode cX7_herdOf 159 = .ok (.lreturn, 1) := by decide +kernel
theorem dX7_herd_0 : decode cX7_herd 0 = .ok (.aload_n 0, 1) := by decide +kernel
theorem dX7_herd_1 : decode cX7_herd 1 = .ok (.invokevirtual 147, 3) := by decide +kernel
theorem dX7_herd_4 : decode cX7_herd 4 = .ok (.iload_n 1, 1) := by decide +kernel
theorem dX7_herd_5 : decode cX7_herd 5 = .ok (.i2l, 1) := by decide +kernel
theorem dX7_herd_6 : decode cX7_herd 6 = .ok (.lconst 0, 1) := by decide +kernel
theorem dX7_herd_7 : decode cX7_herd 7 = .ok (.ldc2_w 122, 3) := by decide +kernel
theorem dX7_herd_10 : decode cX7_herd 10 = .ok (.invokestatic 63, 3) := by decide +kernel
theorem dX7_herd_13 : decode cX7_herd 13 = .ok (.ifCond .eq 43, 3) := by decide +kernel
theorem dX7_herd_16 : decode cX7_herd 16 = .ok (.iload_n 2, 1) := by decide +kernel
theorem dX7_herd_17 : decode cX7_herd 17 = .ok (.i2l, 1) := by decide +kernel
theorem dX7_herd_18 : decode cX7_herd 18 = .ok (.lconst 0, 1) := by decide +kernel
theorem dX7_herd_19 : decode cX7_herd 19 = .ok (.ldc2_w 230, 3) := by decide +kernel
theorem dX7_herd_22 : decode cX7_herd 22 = .ok (.invokestatic 63, 3) := by decide +kernel
theorem dX7_herd_25 : decode cX7_herd 25 = .ok (.ifCond .eq 31, 3) := by decide +kernel
theorem dX7_herd_28 : decode cX7_herd 28 = .ok (.aload_n 0, 1) := by decide +kernel
theorem dX7_herd_29 : decode cX7_herd 29 = .ok (.iload_n 3, 1) := by decide +kernel
theorem dX7_herd_30 : decode cX7_herd 30 = .ok (.invokevirtual 236, 3) := by decide +kernel
theorem dX7_herd_33 : decode cX7_herd 33 = .ok (.ifCond .eq 23, 3) := by decide +kernel
theorem dX7_herd_36 : decode cX7_herd 36 = .ok (.iload 4, 2) := by decide +kernel
theorem dX7_herd_38 : decode cX7_herd 38 = .ok (.invokestatic 92, 3) := by decide +kernel
theorem dX7_herd_41 : decode cX7_herd 41 = .ok (.ifCond .eq 15, 3) := by decide +kernel
theorem dX7_herd_44 : decode cX7_herd 44 = .ok (.aload_n 0, 1) := by decide +kernel
theorem dX7_herd_45 : decode cX7_herd 45 = .ok (.iload_n 1, 1) := by decide +kernel
theorem dX7_herd_46 : decode cX7_herd 46 = .ok (.iload_n 2, 1) := by decide +kernel
theorem dX7_herd_47 : decode cX7_herd 47 = .ok (.iload_n 3, 1) := by decide +kernel
theorem dX7_herd_48 : decode cX7_herd 48 = .ok (.iload 4, 2) := by decide +kernel
theorem dX7_herd_50 : decode cX7_herd 50 = .ok (.invokevirtual 239, 3) := by decide +kernel
theorem dX7_herd_53 : decode cX7_herd 53 = .ok (.goto 8, 3) := by decide +kernel
theorem dX7_herd_56 : decode cX7_herd 56 = .ok (.bipush (-2), 2) := by decide +kernel
theorem dX7_herd_58 : decode cX7_herd 58 = .ok (.invokestatic 243, 3) := by decide +kernel
theorem dX7_herd_61 : decode cX7_herd 61 = .ok (.lreturn, 1) := by decide +kernel
theorem dX7_lot_0 : decode cX7_lot 0 = .ok (.aload_n 0, 1) := by decide +kernel
theorem dX7_lot_1 : decode cX7_lot 1 = .ok (.ldc 247, 2) := by decide +kernel
theorem dX7_lot_3 : decode cX7_lot 3 = .ok (.aload_n 0, 1) := by decide +kernel
theorem dX7_lot_4 : decode cX7_lot 4 = .ok (.getfield 248, 3) := by decide +kernel
theorem dX7_lot_7 : decode cX7_lot 7 = .ok (.imul, 1) := by decide +kernel
theorem dX7_lot_8 : decode cX7_lot 8 = .ok (.sipush 12345, 3) := by decide +kernel
theorem dX7_lot_11 : decode cX7_lot 11 = .ok (.iadd, 1) := by decide +kernel
theorem dX7_lot_12 : decode cX7_lot 12 = .ok (.putfield 248, 3) := by decide +kernel
theorem dX7_lot_15 : decode cX7_lot 15 = .ok (.aload_n 0, 1) := by decide +kernel
theorem dX7_lot_16 : decode cX7_lot 16 = .ok (.getfield 248, 3) := by decide +kernel
theorem dX7_lot_19 : decode cX7_lot 19 = .ok (.bipush 16, 2) := by decide +kernel
theorem dX7_lot_21 : decode cX7_lot 21 = .ok (.iushr, 1) := by decide +kernel
theorem dX7_lot_22 : decode cX7_lot 22 = .ok (.iload_n 1, 1) := by decide +kernel
theorem dX7_lot_23 : decode cX7_lot 23 = .ok (.irem, 1) := by decide +kernel
theorem dX7_lot_24 : decode cX7_lot 24 = .ok (.ireturn, 1) := by decide +kernel
theorem dX7_timesOf_0 : decode cX7_timesOf 0 = .ok (.aload_n 0, 1) := by decide +kernel
theorem dX7_timesOf_1 : decode cX7_timesOf 1 = .ok (.getfield 34, 3) := by decide +kernel
theorem dX7_timesOf_4 : decode cX7_timesOf 4 = .ok (.iconst 0, 1) := by decide +kernel
theorem dX7_timesOf_5 : decode cX7_timesOf 5 = .ok (.iaload, 1) := by decide +kernel
theorem dX7_timesOf_6 : decode cX7_timesOf 6 = .ok (.istore 4, 2) := by decide +kernel
theorem dX7_timesOf_8 : decode cX7_timesOf 8 = .ok (.aload_n 0, 1) := by decide +kernel
theorem dX7_timesOf_9 : decode cX7_timesOf 9 = .ok (.getfield 34, 3) := by decide +kernel
theorem dX7_timesOf_12 : decode cX7_timesOf 12 = .ok (.iconst 2, 1) := by decide +kernel
theorem dX7_timesOf_13 : decode cX7_timesOf 13 = .ok (.iaload, 1) := by decide +kernel
theorem dX7_timesOf_14 : decode cX7_timesOf 14 = .ok (.istore 5, 2) := by decide +kernel
theorem dX7_timesOf_16 : decode cX7_timesOf 16 = .ok (.aload_n 0, 1) := by decide +kernel
theorem dX7_timesOf_17 : decode cX7_timesOf 17 = .ok (.iload_n 1, 1) := by decide +kernel
theorem dX7_timesOf_18 : decode cX7_timesOf 18 = .ok (.putfield 248, 3) := by decide +kernel
theorem dX7_timesOf_21 : decode cX7_timesOf 21 = .ok (.iconst 0, 1) := by decide +kernel
theorem dX7_timesOf_22 : decode cX7_timesOf 22 = .ok (.istore 6, 2) := by decide +kernel
theorem dX7_timesOf_24 : decode cX7_timesOf 24 = .ok (.iconst 0, 1) := by decide +kernel
theorem dX7_timesOf_25 : decode cX7_timesOf 25 = .ok (.istore 7, 2) := by decide +kernel
theorem dX7_timesOf_27 : decode cX7_timesOf 27 = .ok (.iload 7, 2) := by decide +kernel
theorem dX7_timesOf_29 : decode cX7_timesOf 29 = .ok (.iload_n 2, 1) := by decide +kernel
theorem dX7_timesOf_30 : decode cX7_timesOf 30 = .ok (.if_icmp .ge 55, 3) := by decide +kernel
theorem dX7_timesOf_33 : decode cX7_timesOf 33 = .ok (.aload_n 0, 1) := by decide +kernel
theorem dX7_timesOf_34 : decode cX7_timesOf 34 = .ok (.getfield 34, 3) := by decide +kernel
theorem dX7_timesOf_37 : decode cX7_timesOf 37 = .ok (.iconst 0, 1) := by decide +kernel
theorem dX7_timesOf_38 : decode cX7_timesOf 38 = .ok (.aload_n 0, 1) := by decide +kernel
theorem dX7_timesOf_39 : decode cX7_timesOf 39 = .ok (.bipush 100, 2) := by decide +kernel
theorem dX7_timesOf_41 : decode cX7_timesOf 41 = .ok (.invokevirtual 251, 3) := by decide +kernel
theorem dX7_timesOf_44 : decode cX7_timesOf 44 = .ok (.iastore, 1) := by decide +kernel
theorem dX7_timesOf_45 : decode cX7_timesOf 45 = .ok (.aload_n 0, 1) := by decide +kernel
theorem dX7_timesOf_46 : decode cX7_timesOf 46 = .ok (.getfield 34, 3) := by decide +kernel
theorem dX7_timesOf_49 : decode cX7_timesOf 49 = .ok (.iconst 2, 1) := by decide +kernel
theorem dX7_timesOf_50 : decode cX7_timesOf 50 = .ok (.aload_n 0, 1) := by decide +kernel
theorem dX7_timesOf_51 : decode cX7_timesOf 51 = .ok (.bipush 19, 2) := by decide +kernel
theorem dX7_timesOf_53 : decode cX7_timesOf 53 = .ok (.invokevirtual 251, 3) := by decide +kernel
theorem dX7_timesOf_56 : decode cX7_timesOf 56 = .ok (.iastore, 1) := by decide +kernel
theorem dX7_timesOf_57 : decode cX7_timesOf 57 = .ok (.aload_n 0, 1) := by decide +kernel
theorem dX7_timesOf_58 : decode cX7_timesOf 58 = .ok (.invokevirtual 144, 3) := by decide +kernel
theorem dX7_timesOf_61 : decode cX7_timesOf 61 = .ok (.iload 6, 2) := by decide +kernel
theorem dX7_timesOf_63 : decode cX7_timesOf 63 = .ok (.aload_n 0, 1) := by decide +kernel
theorem dX7_timesOf_64 : decode cX7_timesOf 64 = .ok (.iload_n 3, 1) := by decide +kernel
theorem dX7_timesOf_65 : decode cX7_timesOf 65 = .ok (.invokevirtual 172, 3) := by decide +kernel
theorem dX7_timesOf_68 : decode cX7_timesOf 68 = .ok (.ifCond .eq 7, 3) := by decide +kernel
theorem dX7_timesOf_71 : decode cX7_timesOf 71 = .ok (.iconst 1, 1) := by decide +kernel
theorem dX7_timesOf_72 : decode cX7_timesOf 72 = .ok (.goto 4, 3) := by decide +kernel
theorem dX7_timesOf_75 : decode cX7_timesOf 75 = .ok (.iconst 0, 1) := by decide +kernel
theorem dX7_timesOf_76 : decode cX7_timesOf 76 = .ok (.iadd, 1) := by decide +kernel
theorem dX7_timesOf_77 : decode cX7_timesOf 77 = .ok (.istore 6, 2) := by decide +kernel
theorem dX7_timesOf_79 : decode cX7_timesOf 79 = .ok (.iinc 7 1, 3) := by decide +kernel
theorem dX7_timesOf_82 : decode cX7_timesOf 82 = .ok (.goto (-55), 3) := by decide +kernel
theorem dX7_timesOf_85 : decode cX7_timesOf 85 = .ok (.aload_n 0, 1) := by decide +kernel
theorem dX7_timesOf_86 : decode cX7_timesOf 86 = .ok (.getfield 34, 3) := by decide +kernel
theorem dX7_timesOf_89 : decode cX7_timesOf 89 = .ok (.iconst 0, 1) := by decide +kernel
theorem dX7_timesOf_90 : decode cX7_timesOf 90 = .ok (.iload 4, 2) := by decide +kernel
theorem dX7_timesOf_92 : decode cX7_timesOf 92 = .ok (.iastore, 1) := by decide +kernel
theorem dX7_timesOf_93 : decode cX7_timesOf 93 = .ok (.aload_n 0, 1) := by decide +kernel
theorem dX7_timesOf_94 : decode cX7_timesOf 94 = .ok (.getfield 34, 3) := by decide +kernel
theorem dX7_timesOf_97 : decode cX7_timesOf 97 = .ok (.iconst 2, 1) := by decide +kernel
theorem dX7_timesOf_98 : decode cX7_timesOf 98 = .ok (.iload 5, 2) := by decide +kernel
theorem dX7_timesOf_100 : decode cX7_timesOf 100 = .ok (.iastore, 1) := by decide +kernel
theorem dX7_timesOf_101 : decode cX7_timesOf 101 = .ok (.aload_n 0, 1) := by decide +kernel
theorem dX7_timesOf_102 : decode cX7_timesOf 102 = .ok (.invokevirtual 144, 3) := by decide +kernel
theorem dX7_timesOf_105 : decode cX7_timesOf 105 = .ok (.iload 6, 2) := by decide +kernel
theorem dX7_timesOf_107 : decode cX7_timesOf 107 = .ok (.ireturn, 1) := by decide +kernel
theorem dX7_times_0 : decode cX7_times 0 = .ok (.aload_n 0, 1) := by decide +kernel
theorem dX7_times_1 : decode cX7_times 1 = .ok (.invokevirtual 147, 3) := by decide +kernel
theorem dX7_times_4 : decode cX7_times 4 = .ok (.iload_n 2, 1) := by decide +kernel
theorem dX7_times_5 : decode cX7_times 5 = .ok (.i2l, 1) := by decide +kernel
theorem dX7_times_6 : decode cX7_times 6 = .ok (.lconst 1, 1) := by decide +kernel
theorem dX7_times_7 : decode cX7_times 7 = .ok (.ldc2_w 126, 3) := by decide +kernel
theorem dX7_times_10 : decode cX7_times 10 = .ok (.invokestatic 63, 3) := by decide +kernel
theorem dX7_times_13 : decode cX7_times 13 = .ok (.ifCond .eq 21, 3) := by decide +kernel
theorem dX7_times_16 : decode cX7_times 16 = .ok (.aload_n 0, 1) := by decide +kernel
theorem dX7_times_17 : decode cX7_times 17 = .ok (.iload_n 3, 1) := by decide +kernel
theorem dX7_times_18 : decode cX7_times 18 = .ok (.invokevirtual 236, 3) := by decide +kernel
theorem dX7_times_21 : decode cX7_times 21 = .ok (.ifCond .eq 13, 3) := by decide +kernel
theorem dX7_times_24 : decode cX7_times 24 = .ok (.aload_n 0, 1) := by decide +kernel
theorem dX7_times_25 : decode cX7_times 25 = .ok (.iload_n 1, 1) := by decide +kernel
theorem dX7_times_26 : decode cX7_times 26 = .ok (.iload_n 2, 1) := by decide +kernel
theorem dX7_times_27 : decode cX7_times 27 = .ok (.iload_n 3, 1) := by decide +kernel
theorem dX7_times_28 : decode cX7_times 28 = .ok (.invokevirtual 254, 3) := by decide +kernel
theorem dX7_times_31 : decode cX7_times 31 = .ok (.goto 5, 3) := by decide +kernel
theorem dX7_times_34 : decode cX7_times 34 = .ok (.bipush (-2), 2) := by decide +kernel
theorem dX7_times_36 : decode cX7_times 36 = .ok (.ireturn, 1) := by decide +kernel
theorem dX7_write_0 : decode cX7_write 0 = .ok (.aload_n 0, 1) := by decide +kernel
theorem dX7_write_1 : decode cX7_write 1 = .ok (.invokevirtual 147, 3) := by decide +kernel
theorem dX7_write_4 : decode cX7_write 4 = .ok (.aload_n 0, 1) := by decide +kernel
theorem dX7_write_5 : decode cX7_write 5 = .ok (.iload_n 1, 1) := by decide +kernel
