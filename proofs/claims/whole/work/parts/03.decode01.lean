theorem dX6_init_148 : decode cX6_init 148 = .ok (.putfield 62, 3) := by decide +kernel
theorem dX6_init_151 : decode cX6_init 151 = .ok (.aload_n 0, 1) := by decide +kernel
theorem dX6_init_152 : decode cX6_init 152 = .ok (.bipush 100, 2) := by decide +kernel
theorem dX6_init_154 : decode cX6_init 154 = .ok (.newarray .int, 2) := by decide +kernel
theorem dX6_init_156 : decode cX6_init 156 = .ok (.putfield 66, 3) := by decide +kernel
theorem dX6_init_159 : decode cX6_init 159 = .ok (.aload_n 0, 1) := by decide +kernel
theorem dX6_init_160 : decode cX6_init 160 = .ok (.iconst 0, 1) := by decide +kernel
theorem dX6_init_161 : decode cX6_init 161 = .ok (.putfield 69, 3) := by decide +kernel
theorem dX6_init_164 : decode cX6_init 164 = .ok (.return_, 1) := by decide +kernel
theorem dX6_type_0 : decode cX6_type 0 = .ok (.iload_n 1, 1) := by decide +kernel
theorem dX6_type_1 : decode cX6_type 1 = .ok (.invokestatic 73, 3) := by decide +kernel
theorem dX6_type_4 : decode cX6_type 4 = .ok (.ifCond .ne 14, 3) := by decide +kernel
theorem dX6_type_7 : decode cX6_type 7 = .ok (.iload_n 2, 1) := by decide +kernel
theorem dX6_type_8 : decode cX6_type 8 = .ok (.ifCond .lt 10, 3) := by decide +kernel
theorem dX6_type_11 : decode cX6_type 11 = .ok (.iload_n 2, 1) := by decide +kernel
theorem dX6_type_12 : decode cX6_type 12 = .ok (.sipush 255, 3) := by decide +kernel
theorem dX6_type_15 : decode cX6_type 15 = .ok (.if_icmp .le 6, 3) := by decide +kernel
theorem dX6_type_18 : decode cX6_type 18 = .ok (.bipush (-2), 2) := by decide +kernel
theorem dX6_type_20 : decode cX6_type 20 = .ok (.ireturn, 1) := by decide +kernel
theorem dX6_type_21 : decode cX6_type 21 = .ok (.aload_n 0, 1) := by decide +kernel
theorem dX6_type_22 : decode cX6_type 22 = .ok (.iload_n 1, 1) := by decide +kernel
theorem dX6_type_23 : decode cX6_type 23 = .ok (.invokevirtual 77, 3) := by decide +kernel
theorem dX6_type_26 : decode cX6_type 26 = .ok (.astore_n 3, 1) := by decide +kernel
theorem dX6_type_27 : decode cX6_type 27 = .ok (.aload_n 3, 1) := by decide +kernel
theorem dX6_type_28 : decode cX6_type 28 = .ok (.invokevirtual 81, 3) := by decide +kernel
theorem dX6_type_31 : decode cX6_type 31 = .ok (.ifCond .eq 6, 3) := by decide +kernel
theorem dX6_type_34 : decode cX6_type 34 = .ok (.bipush (-4), 2) := by decide +kernel
theorem dX6_type_36 : decode cX6_type 36 = .ok (.ireturn, 1) := by decide +kernel
theorem dX6_type_37 : decode cX6_type 37 = .ok (.aload_n 3, 1) := by decide +kernel
theorem dX6_type_38 : decode cX6_type 38 = .ok (.iload_n 2, 1) := by decide +kernel
theorem dX6_type_39 : decode cX6_type 39 = .ok (.invokevirtual 85, 3) := by decide +kernel
theorem dX6_type_42 : decode cX6_type 42 = .ok (.aload_n 0, 1) := by decide +kernel
theorem dX6_type_43 : decode cX6_type 43 = .ok (.iload_n 1, 1) := by decide +kernel
theorem dX6_type_44 : decode cX6_type 44 = .ok (.invokevirtual 88, 3) := by decide +kernel
theorem dX6_type_47 : decode cX6_type 47 = .ok (.aload_n 3, 1) := by decide +kernel
theorem dX6_type_48 : decode cX6_type 48 = .ok (.getfield 91, 3) := by decide +kernel
theorem dX6_type_51 : decode cX6_type 51 = .ok (.ireturn, 1) := by decide +kernel
theorem dX6_wipe_0 : decode cX6_wipe 0 = .ok (.iload_n 1, 1) := by decide +kernel
theorem dX6_wipe_1 : decode cX6_wipe 1 = .ok (.invokestatic 73, 3) := by decide +kernel
theorem dX6_wipe_4 : decode cX6_wipe 4 = .ok (.ifCond .eq 6, 3) := by decide +kernel
theorem dX6_wipe_7 : decode cX6_wipe 7 = .ok (.bipush (-2), 2) := by decide +kernel
theorem dX6_wipe_9 : decode cX6_wipe 9 = .ok (.ireturn, 1) := by decide +kernel
theorem dX6_wipe_10 : decode cX6_wipe 10 = .ok (.aload_n 0, 1) := by decide +kernel
theorem dX6_wipe_11 : decode cX6_wipe 11 = .ok (.iload_n 1, 1) := by decide +kernel
theorem dX6_wipe_12 : decode cX6_wipe 12 = .ok (.invokevirtual 77, 3) := by decide +kernel
theorem dX6_wipe_15 : decode cX6_wipe 15 = .ok (.astore_n 2, 1) := by decide +kernel
theorem dX6_wipe_16 : decode cX6_wipe 16 = .ok (.aload_n 2, 1) := by decide +kernel
theorem dX6_wipe_17 : decode cX6_wipe 17 = .ok (.getfield 91, 3) := by decide +kernel
theorem dX6_wipe_20 : decode cX6_wipe 20 = .ok (.istore_n 3, 1) := by decide +kernel
theorem dX6_wipe_21 : decode cX6_wipe 21 = .ok (.aload_n 2, 1) := by decide +kernel
theorem dX6_wipe_22 : decode cX6_wipe 22 = .ok (.iconst 0, 1) := by decide +kernel
theorem dX6_wipe_23 : decode cX6_wipe 23 = .ok (.invokevirtual 94, 3) := by decide +kernel
theorem dX6_wipe_26 : decode cX6_wipe 26 = .ok (.aload_n 0, 1) := by decide +kernel
theorem dX6_wipe_27 : decode cX6_wipe 27 = .ok (.iload_n 1, 1) := by decide +kernel
theorem dX6_wipe_28 : decode cX6_wipe 28 = .ok (.invokevirtual 88, 3) := by decide +kernel
theorem dX6_wipe_31 : decode cX6_wipe 31 = .ok (.iload_n 3, 1) := by decide +kernel
theorem dX6_wipe_32 : decode cX6_wipe 32 = .ok (.ireturn, 1) := by decide +kernel
theorem dX6_undo_0 : decode cX6_undo 0 = .ok (.iload_n 1, 1) := by decide +kernel
theorem dX6_undo_1 : decode cX6_undo 1 = .ok (.invokestatic 73, 3) := by decide +kernel
theorem dX6_undo_4 : decode cX6_undo 4 = .ok (.ifCond .eq 6, 3) := by decide +kernel
theorem dX6_undo_7 : decode cX6_undo 7 = .ok (.bipush (-2), 2) := by decide +kernel
theorem dX6_undo_9 : decode cX6_undo 9 = .ok (.ireturn, 1) := by decide +kernel
theorem dX6_undo_10 : decode cX6_undo 10 = .ok (.aload_n 0, 1) := by decide +kernel
theorem dX6_undo_11 : decode cX6_undo 11 = .ok (.iload_n 1, 1) := by decide +kernel
theorem dX6_undo_12 : decode cX6_undo 12 = .ok (.invokevirtual 77, 3) := by decide +kernel
theorem dX6_undo_15 : decode cX6_undo 15 = .ok (.astore_n 2, 1) := by decide +kernel
theorem dX6_undo_16 : decode cX6_undo 16 = .ok (.aload_n 2, 1) := by decide +kernel
theorem dX6_undo_17 : decode cX6_undo 17 = .ok (.getfield 91, 3) := by decide +kernel
theorem dX6_undo_20 : decode cX6_undo 20 = .ok (.ifCond .ne 6, 3) := by decide +kernel
theorem dX6_undo_23 : decode cX6_undo 23 = .ok (.bipush (-3), 2) := by decide +kernel
theorem dX6_undo_25 : decode cX6_undo 25 = .ok (.ireturn, 1) := by decide +kernel
theorem dX6_undo_26 : decode cX6_undo 26 = .ok (.aload_n 2, 1) := by decide +kernel
theorem dX6_undo_27 : decode cX6_undo 27 = .ok (.aload_n 2, 1) := by decide +kernel
theorem dX6_undo_28 : decode cX6_undo 28 = .ok (.getfield 91, 3) := by decide +kernel
theorem dX6_undo_31 : decode cX6_undo 31 = .ok (.iconst 1, 1) := by decide +kernel
theorem dX6_undo_32 : decode cX6_undo 32 = .ok (.isub, 1) := by decide +kernel
theorem dX6_undo_33 : decode cX6_undo 33 = .ok (.invokevirtual 94, 3) := by decide +kernel
theorem dX6_undo_36 : decode cX6_undo 36 = .ok (.aload_n 0, 1) := by decide +kernel
theorem dX6_undo_37 : decode cX6_undo 37 = .ok (.iload_n 1, 1) := by decide +kernel
theorem dX6_undo_38 : decode cX6_undo 38 = .ok (.invokevirtual 88, 3) := by decide +kernel
theorem dX6_undo_41 : decode cX6_undo 41 = .ok (.aload_n 2, 1) := by decide +kernel
theorem dX6_undo_42 : decode cX6_undo 42 = .ok (.getfield 91, 3) := by decide +kernel
theorem dX6_undo_45 : decode cX6_undo 45 = .ok (.ireturn, 1) := by decide +kernel
theorem dX6_fault_0 : decode cX6_fault 0 = .ok (.iload_n 1, 1) := by decide +kernel
theorem dX6_fault_1 : decode cX6_fault 1 = .ok (.invokestatic 73, 3) := by decide +kernel
theorem dX6_fault_4 : decode cX6_fault 4 = .ok (.ifCond .eq 6, 3) := by decide +kernel
theorem dX6_fault_7 : decode cX6_fault 7 = .ok (.bipush (-2), 2) := by decide +kernel
theorem dX6_fault_9 : decode cX6_fault 9 = .ok (.ireturn, 1) := by decide +kernel
theorem dX6_fault_10 : decode cX6_fault 10 = .ok (.iload_n 1, 1) := by decide +kernel
theorem dX6_fault_11 : decode cX6_fault 11 = .ok (.ifCond .ne 13, 3) := by decide +kernel
theorem dX6_fault_14 : decode cX6_fault 14 = .ok (.aload_n 0, 1) := by decide +kernel
theorem dX6_fault_15 : decode cX6_fault 15 = .ok (.getfield 14, 3) := by decide +kernel
theorem dX6_fault_18 : decode cX6_fault 18 = .ok (.invokevirtual 97, 3) := by decide +kernel
theorem dX6_fault_21 : decode cX6_fault 21 = .ok (.goto 10, 3) := by decide +kernel
theorem dX6_fault_24 : decode cX6_fault 24 = .ok (.aload_n 0, 1) := by decide +kernel
theorem dX6_fault_25 : decode cX6_fault 25 = .ok (.getfield 18, 3) := by decide +kernel
theorem dX6_fault_28 : decode cX6_fault 28 = .ok (.invokevirtual 101, 3) := by decide +kernel
theorem dX6_fault_31 : decode cX6_fault 31 = .ok (.ireturn, 1) := by decide +kernel
theorem dX6_singer_0 : decode cX6_singer 0 = .ok (.aload_n 0, 1) := by decide +kernel
theorem dX6_singer_1 : decode cX6_singer 1 = .ok (.iload_n 1, 1) := by decide +kernel
theorem dX6_singer_2 : decode cX6_singer 2 = .ok (.invokevirtual 104, 3) := by decide +kernel
theorem dX6_singer_5 : decode cX6_singer 5 = .ok (.ifCond .eq 6, 3) := by decide +kernel
theorem dX6_singer_8 : decode cX6_singer 8 = .ok (.bipush (-2), 2) := by decide +kernel
theorem dX6_singer_10 : decode cX6_singer 10 = .ok (.ireturn, 1) := by decide +kernel
theorem dX6_singer_11 : decode cX6_singer 11 = .ok (.iload_n 2, 1) := by decide +kernel
theorem dX6_singer_12 : decode cX6_singer 12 = .ok (.tableswitch 80 0 3 #[32, 42, 52, 62], 32) := by decide +kernel
theorem dX6_singer_44 : decode cX6_singer 44 = .ok (.aload_n 0, 1) := by decide +kernel
theorem dX6_singer_45 : decode cX6_singer 45 = .ok (.getfield 24, 3) := by decide +kernel
theorem dX6_singer_48 : decode cX6_singer 48 = .ok (.getfield 107, 3) := by decide +kernel
theorem dX6_singer_51 : decode cX6_singer 51 = .ok (.iload_n 1, 1) := by decide +kernel
theorem dX6_singer_52 : decode cX6_singer 52 = .ok (.iaload, 1) := by decide +kernel
theorem dX6_singer_53 : decode cX6_singer 53 = .ok (.ireturn, 1) := by decide +kernel
theorem dX6_singer_54 : decode cX6_singer 54 = .ok (.aload_n 0, 1) := by decide +kernel
theorem dX6_singer_55 : decode cX6_singer 55 = .ok (.getfield 24, 3) := by decide +kernel
theorem dX6_singer_58 : decode cX6_singer 58 = .ok (.getfield 110, 3) := by decide +kernel
theorem dX6_singer_61 : decode cX6_singer 61 = .ok (.iload_n 1, 1) := by decide +kernel
theorem dX6_singer_62 : decode cX6_singer 62 = .ok (.iaload, 1) := by decide +kernel
theorem dX6_singer_63 : decode cX6_singer 63 = .ok (.ireturn, 1) := by decide +kernel
theorem dX6_singer_64 : decode cX6_singer 64 = .ok (.aload_n 0, 1) := by decide +kernel
theorem dX6_singer_65 : decode cX6_singer 65 = .ok (.getfield 24, 3) := by decide +kernel
theorem dX6_singer_68 : decode cX6_singer 68 = .ok (.getfield 113, 3) := by decide +kernel
theorem dX6_singer_71 : decode cX6_singer 71 = .ok (.iload_n 1, 1) := by decide +kernel
theorem dX6_singer_72 : decode cX6_singer 72 = .ok (.iaload, 1) := by decide +kernel
theorem dX6_singer_73 : decode cX6_singer 73 = .ok (.ireturn, 1) := by decide +kernel
theorem dX6_singer_74 : decode cX6_singer 74 = .ok (.aload_n 0, 1) := by decide +kernel
theorem dX6_singer_75 : decode cX6_singer 75 = .ok (.getfield 24, 3) := by decide +kernel
theorem dX6_singer_78 : decode cX6_singer 78 = .ok (.getfield 116, 3) := by decide +kernel
theorem dX6_singer_81 : decode cX6_singer 81 = .ok (.iload_n 1, 1) := by decide +kernel
theorem dX6_singer_82 : decode cX6_singer 82 = .ok (.baload, 1) := by decide +kernel
theorem dX6_singer_83 : decode cX6_singer 83 = .ok (.ifCond .eq 7, 3) := by decide +kernel
theorem dX6_singer_86 : decode cX6_singer 86 = .ok (.iconst 1, 1) := by decide +kernel
theorem dX6_singer_87 : decode cX6_singer 87 = .ok (.goto 4, 3) := by decide +kernel
theorem dX6_singer_90 : decode cX6_singer 90 = .ok (.iconst 0, 1) := by decide +kernel
theorem dX6_singer_91 : decode cX6_singer 91 = .ok (.ireturn, 1) := by decide +kernel
theorem dX6_singer_92 : decode cX6_singer 92 = .ok (.bipush (-2), 2) := by decide +kernel
theorem dX6_singer_94 : decode cX6_singer 94 = .ok (.ireturn, 1) := by decide +kernel
theorem dX6_bar_0 : decode cX6_bar 0 = .ok (.iload_n 1, 1) := by decide +kernel
theorem dX6_bar_1 : decode cX6_bar 1 = .ok (.ifCond .lt 9, 3) := by decide +kernel
theorem dX6_bar_4 : decode cX6_bar 4 = .ok (.iload_n 1, 1) := by decide +kernel
theorem dX6_bar_5 : decode cX6_bar 5 = .ok (.bipush 24, 2) := by decide +kernel
theorem dX6_bar_7 : decode cX6_bar 7 = .ok (.if_icmp .lt 6, 3) := by decide +kernel
theorem dX6_bar_10 : decode cX6_bar 10 = .ok (.bipush (-2), 2) := by decide +kernel
theorem dX6_bar_12 : decode cX6_bar 12 = .ok (.ireturn, 1) := by decide +kernel
theorem dX6_bar_13 : decode cX6_bar 13 = .ok (.iload_n 1, 1) := by decide +kernel
theorem dX6_bar_14 : decode cX6_bar 14 = .ok (.aload_n 0, 1) := by decide +kernel
theorem dX6_bar_15 : decode cX6_bar 15 = .ok (.getfield 34, 3) := by decide +kernel
theorem dX6_bar_18 : decode cX6_bar 18 = .ok (.getfield 120, 3) := by decide +kernel
theorem dX6_bar_21 : decode cX6_bar 21 = .ok (.if_icmp .ge 15, 3) := by decide +kernel
theorem dX6_bar_24 : decode cX6_bar 24 = .ok (.aload_n 0, 1) := by decide +kernel
theorem dX6_bar_25 : decode cX6_bar 25 = .ok (.getfield 34, 3) := by decide +kernel
theorem dX6_bar_28 : decode cX6_bar 28 = .ok (.getfield 121, 3) := by decide +kernel
theorem dX6_bar_31 : decode cX6_bar 31 = .ok (.iload_n 1, 1) := by decide +kernel
theorem dX6_bar_32 : decode cX6_bar 32 = .ok (.iaload, 1) := by decide +kernel
theorem dX6_bar_33 : decode cX6_bar 33 = .ok (.goto 4, 3) := by decide +kernel
theorem dX6_bar_36 : decode cX6_bar 36 = .ok (.iconst (-1), 1) := by decide +kernel
theorem dX6_bar_37 : decode cX6_bar 37 = .ok (.ireturn, 1) := by decide +kernel
theorem dX6_set_0 : decode cX6_set 0 = .ok (.iload_n 1, 1) := by decide +kernel
theorem dX6_set_1 : decode cX6_set 1 = .ok (.ifCond .lt 24, 3) := by decide +kernel
theorem dX6_set_4 : decode cX6_set 4 = .ok (.iload_n 1, 1) := by decide +kernel
theorem dX6_set_5 : decode cX6_set 5 = .ok (.getstatic 124, 3) := by decide +kernel
theorem dX6_set_8 : decode cX6_set 8 = .ok (.arraylength, 1) := by decide +kernel
theorem dX6_set_9 : decode cX6_set 9 = .ok (.if_icmp .ge 16, 3) := by decide +kernel
theorem dX6_set_12 : decode cX6_set 12 = .ok (.iload_n 2, 1) := by decide +kernel
theorem dX6_set_13 : decode cX6_set 13 = .ok (.ifCond .lt 12, 3) := by decide +kernel
theorem dX6_set_16 : decode cX6_set 16 = .ok (.iload_n 2, 1) := by decide +kernel
theorem dX6_set_17 : decode cX6_set 17 = .ok (.getstatic 124, 3) := by decide +kernel
theorem dX6_set_20 : decode cX6_set 20 = .ok (.iload_n 1, 1) := by decide +kernel
theorem dX6_set_21 : decode cX6_set 21 = .ok (.iaload, 1) := by decide +kernel
theorem dX6_set_22 : decode cX6_set 22 = .ok (.if_icmp .lt 6, 3) := by decide +kernel
theorem dX6_set_25 : decode cX6_set 25 = .ok (.bipush (-2), 2) := by decide +kernel
theorem dX6_set_27 : decode cX6_set 27 = .ok (.ireturn, 1) := by decide +kernel
theorem dX6_set_28 : decode cX6_set 28 = .ok (.aload_n 0, 1) := by decide +kernel
theorem dX6_set_29 : decode cX6_set 29 = .ok (.getfield 41, 3) := by decide +kernel
theorem dX6_set_32 : decode cX6_set 32 = .ok (.iload_n 1, 1) := by decide +kernel
theorem dX6_set_33 : decode cX6_set 33 = .ok (.iload_n 2, 1) := by decide +kernel
theorem dX6_set_34 : decode cX6_set 34 = .ok (.invokevirtual 127, 3) := by decide +kernel
theorem dX6_set_37 : decode cX6_set 37 = .ok (.ireturn, 1) := by decide +kernel
theorem dX6_whistle_0 : decode cX6_whistle 0 = .ok (.iload_n 1, 1) := by decide +kernel
theorem dX6_whistle_1 : decode cX6_whistle 1 = .ok (.ifCond .lt 9, 3) := by decide +kernel
theorem dX6_whistle_4 : decode cX6_whistle 4 = .ok (.iload_n 1, 1) := by decide +kernel
theorem dX6_whistle_5 : decode cX6_whistle 5 = .ok (.bipush 10, 2) := by decide +kernel
theorem dX6_whistle_7 : decode cX6_whistle 7 = .ok (.if_icmp .lt 9, 3) := by decide +kernel
theorem dX6_whistle_10 : decode cX6_whistle 10 = .ok (.sipush (-10002), 3) := by decide +kernel
theorem dX6_whistle_13 : decode cX6_whistle 13 = .ok (.goto 11, 3) := by decide +kernel
theorem dX6_whistle_16 : decode cX6_whistle 16 = .ok (.aload_n 0, 1) := by decide +kernel
theorem dX6_whistle_17 : decode cX6_whistle 17 = .ok (.getfield 41, 3) := by decide +kernel
theorem dX6_whistle_20 : decode cX6_whistle 20 = .ok (.iload_n 1, 1) := by decide +kernel
theorem dX6_whistle_21 : decode cX6_whistle 21 = .ok (.invokevirtual 131, 3) := by decide +kernel
theorem dX6_whistle_24 : decode cX6_whistle 24 = .ok (.ireturn, 1) := by decide +kernel
theorem dX6_ear_0 : decode cX6_ear 0 = .ok (.aload_n 0, 1) := by decide +kernel
theorem dX6_ear_1 : decode cX6_ear 1 = .ok (.iload_n 1, 1) := by decide +kernel
theorem dX6_ear_2 : decode cX6_ear 2 = .ok (.invokevirtual 104, 3) := by decide +kernel
theorem dX6_ear_5 : decode cX6_ear 5 = .ok (.ifCond .ne 10, 3) := by decide +kernel
theorem dX6_ear_8 : decode cX6_ear 8 = .ok (.iload_n 2, 1) := by decide +kernel
theorem dX6_ear_9 : decode cX6_ear 9 = .ok (.invokestatic 135, 3) := by decide +kernel
theorem dX6_ear_12 : decode cX6_ear 12 = .ok (.ifCond .eq 6, 3) := by decide +kernel
theorem dX6_ear_15 : decode cX6_ear 15 = .ok (.bipush (-2), 2) := by decide +kernel
theorem dX6_ear_17 : decode cX6_ear 17 = .ok (.ireturn, 1) := by decide +kernel
theorem dX6_ear_18 : decode cX6_ear 18 = .ok (.iload_n 2, 1) := by decide +kernel
theorem dX6_ear_19 : decode cX6_ear 19 = .ok (.ifCond .ne 15, 3) := by decide +kernel
theorem dX6_ear_22 : decode cX6_ear 22 = .ok (.aload_n 0, 1) := by decide +kernel
theorem dX6_ear_23 : decode cX6_ear 23 = .ok (.getfield 24, 3) := by decide +kernel
theorem dX6_ear_26 : decode cX6_ear 26 = .ok (.getfield 138, 3) := by decide +kernel
theorem dX6_ear_29 : decode cX6_ear 29 = .ok (.iload_n 1, 1) := by decide +kernel
theorem dX6_ear_30 : decode cX6_ear 30 = .ok (.iaload, 1) := by decide +kernel
theorem dX6_ear_31 : decode cX6_ear 31 = .ok (.goto 12, 3) := by decide +kernel
theorem dX6_ear_34 : decode cX6_ear 34 = .ok (.aload_n 0, 1) := by decide +kernel
theorem dX6_ear_35 : decode cX6_ear 35 = .ok (.getfield 24, 3) := by decide +kernel
theorem dX6_ear_38 : decode cX6_ear 38 = .ok (.getfield 141, 3) := by decide +kernel
theorem dX6_ear_41 : decode cX6_ear 41 = .ok (.iload_n 1, 1) := by decide +kernel
theorem dX6_ear_42 : decode cX6_ear 42 = .ok (.iaload, 1) := by decide +kernel
theorem dX6_ear_43 : decode cX6_ear 43 = .ok (.ireturn, 1) := by decide +kernel
theorem dX6_note_0 : decode cX6_note 0 = .ok (.aload_n 0, 1) := by decide +kernel
theorem dX6_note_1 : decode cX6_note 1 = .ok (.iload_n 1, 1) := by decide +kernel
theorem dX6_note_2 : decode cX6_note 2 = .ok (.invokevirtual 104, 3) := by decide +kernel
theorem dX6_note_5 : decode cX6_note 5 = .ok (.ifCond .ne 11, 3) := by decide +kernel
theorem dX6_note_8 : decode cX6_note 8 = .ok (.aload_n 0, 1) := by decide +kernel
theorem dX6_note_9 : decode cX6_note 9 = .ok (.iload_n 2, 1) := by decide +kernel
theorem dX6_note_10 : decode cX6_note 10 = .ok (.invokevirtual 144, 3) := by decide +kernel
theorem dX6_note_13 : decode cX6_note 13 = .ok (.ifCond .eq 7, 3) := by decide +kernel
theorem dX6_note_16 : decode cX6_note 16 = .ok (.sipush (-10002), 3) := by decide +kernel
theorem dX6_note_19 : decode cX6_note 19 = .ok (.ireturn, 1) := by decide +kernel
theorem dX6_note_20 : decode cX6_note 20 = .ok (.aload_n 0, 1) := by decide +kernel
theorem dX6_note_21 : decode cX6_note 21 = .ok (.getfield 34, 3) := by decide +kernel
theorem dX6_note_24 : decode cX6_note 24 = .ok (.getfield 147, 3) := by decide +kernel
theorem dX6_note_27 : decode cX6_note 27 = .ok (.iload_n 2, 1) := by decide +kernel
theorem dX6_note_28 : decode cX6_note 28 = .ok (.iaload, 1) := by decide +kernel
theorem dX6_note_29 : decode cX6_note 29 = .ok (.aload_n 0, 1) := by decide +kernel
theorem dX6_note_30 : decode cX6_note 30 = .ok (.getfield 24, 3) := by decide +kernel
theorem dX6_note_33 : decode cX6_note 33 = .ok (.aload_n 0, 1) := by decide +kernel
theorem dX6_note_34 : decode cX6_note 34 = .ok (.getfield 41, 3) := by decide +kernel
theorem dX6_note_37 : decode cX6_note 37 = .ok (.iload_n 1, 1) := by decide +kernel
theorem dX6_note_38 : decode cX6_note 38 = .ok (.invokestatic 150, 3) := by decide +kernel
theorem dX6_note_41 : decode cX6_note 41 = .ok (.ireturn, 1) := by decide +kernel
theorem dX6_away_0 : decode cX6_away 0 = .ok (.aload_n 0, 1) := by decide +kernel
theorem dX6_away_1 : decode cX6_away 1 = .ok (.iload_n 1, 1) := by decide +kernel
theorem dX6_away_2 : decode cX6_away 2 = .ok (.invokevirtual 104, 3) := by decide +kernel
theorem dX6_away_5 : decode cX6_away 5 = .ok (.ifCond .ne 11, 3) := by decide +kernel
theorem dX6_away_8 : decode cX6_away 8 = .ok (.aload_n 0, 1) := by decide +kernel
theorem dX6_away_9 : decode cX6_away 9 = .ok (.iload_n 2, 1) := by decide +kernel
theorem dX6_away_10 : decode cX6_away 10 = .ok (.invokevirtual 144, 3) := by decide +kernel
theorem dX6_away_13 : decode cX6_away 13 = .ok (.ifCond .eq 7, 3) := by decide +kernel
theorem dX6_away_16 : decode cX6_away 16 = .ok (.sipush (-10002), 3) := by decide +kernel
theorem dX6_away_19 : decode cX6_away 19 = .ok (.ireturn, 1) := by decide +kernel
theorem dX6_away_20 : decode cX6_away 20 = .ok (.aload_n 0, 1) := by decide +kernel
theorem dX6_away_21 : decode cX6_away 21 = .ok (.getfield 34, 3) := by decide +kernel
theorem dX6_away_24 : decode cX6_away 24 = .ok (.getfield 147, 3) := by decide +kernel
theorem dX6_away_27 : decode cX6_away 27 = .ok (.iload_n 2, 1) := by decide +kernel
theorem dX6_away_28 : decode cX6_away 28 = .ok (.iaload, 1) := by decide +kernel
theorem dX6_away_29 : decode cX6_away 29 = .ok (.aload_n 0, 1) := by decide +kernel
theorem dX6_away_30 : decode cX6_away 30 = .ok (.getfield 24, 3) := by decide +kernel
theorem dX6_away_33 : decode cX6_away 33 = .ok (.aload_n 0, 1) := by decide +kernel
theorem dX6_away_34 : decode cX6_away 34 = .ok (.getfield 41, 3) := by decide +kernel
theorem dX6_away_37 : decode cX6_away 37 = .ok (.iload_n 1, 1) := by decide +kernel
theorem dX6_away_38 : decode cX6_away 38 = .ok (.invokestatic 150, 3) := by decide +kernel
theorem dX6_away_41 : decode cX6_away 41 = .ok (.istore_n 3, 1) := by decide +kernel
theorem dX6_away_42 : decode cX6_away 42 = .ok (.iload_n 3, 1) := by decide +kernel
theorem dX6_away_43 : decode cX6_away 43 = .ok (.sipush (-10000), 3) := by decide +kernel
theorem dX6_away_46 : decode cX6_away 46 = .ok (.if_icmp .ne 9, 3) := by decide +kernel
theorem dX6_away_49 : decode cX6_away 49 = .ok (.sipush (-10000), 3) := by decide +kernel
theorem dX6_away_52 : decode cX6_away 52 = .ok (.goto 8, 3) := by decide +kernel
theorem dX6_away_55 : decode cX6_away 55 = .ok (.iload_n 3, 1) := by decide +kernel
theorem dX6_away_56 : decode cX6_away 56 = .ok (.sipush 1000, 3) := by decide +kernel
theorem dX6_away_59 : decode cX6_away 59 = .ok (.isub, 1) := by decide +kernel
theorem dX6_away_60 : decode cX6_away 60 = .ok (.ireturn, 1) := by decide +kernel
theorem dX6_chord_0 : decode cX6_chord 0 = .ok (.aload_n 0, 1) := by decide +kernel
theorem dX6_chord_1 : decode cX6_chord 1 = .ok (.iload_n 1, 1) := by decide +kernel
theorem dX6_chord_2 : decode cX6_chord 2 = .ok (.invokevirtual 144, 3) := by decide +kernel
theorem dX6_chord_5 : decode cX6_chord 5 = .ok (.ifCond .eq 6, 3) := by decide +kernel
theorem dX6_chord_8 : decode cX6_chord 8 = .ok (.bipush (-2), 2) := by decide +kernel
theorem dX6_chord_10 : decode cX6_chord 10 = .ok (.ireturn, 1) := by decide +kernel
theorem dX6_chord_11 : decode cX6_chord 11 = .ok (.iload_n 2, 1) := by decide +kernel
theorem dX6_chord_12 : decode cX6_chord 12 = .ok (.tableswitch 66 0 2 #[28, 42, 60], 28) := by decide +kernel
theorem dX6_chord_40 : decode cX6_chord 40 = .ok (.aload_n 0, 1) := by decide +kernel
theorem dX6_chord_41 : decode cX6_chord 41 = .ok (.aload_n 0, 1) := by decide +kernel
theorem dX6_chord_42 : decode cX6_chord 42 = .ok (.getfield 24, 3) := by decide +kernel
theorem dX6_chord_45 : decode cX6_chord 45 = .ok (.aload_n 0, 1) := by decide +kernel
theorem dX6_chord_46 : decode cX6_chord 46 = .ok (.getfield 41, 3) := by decide +kernel
theorem dX6_chord_49 : decode cX6_chord 49 = .ok (.iload_n 1, 1) := by decide +kernel
theorem dX6_chord_50 : decode cX6_chord 50 = .ok (.invokevirtual 154, 3) := by decide +kernel
theorem dX6_chord_53 : decode cX6_chord 53 = .ok (.ireturn, 1) := by decide +kernel
theorem dX6_chord_54 : decode cX6_chord 54 = .ok (.aload_n 0, 1) := by decide +kernel
theorem dX6_chord_55 : decode cX6_chord 55 = .ok (.aload_n 0, 1) := by decide +kernel
theorem dX6_chord_56 : decode cX6_chord 56 = .ok (.getfield 41, 3) := by decide +kernel
theorem dX6_chord_59 : decode cX6_chord 59 = .ok (.iload_n 1, 1) := by decide +kernel
theorem dX6_chord_60 : decode cX6_chord 60 = .ok (.invokevirtual 158, 3) := by decide +kernel
theorem dX6_chord_63 : decode cX6_chord 63 = .ok (.ifCond .eq 7, 3) := by decide +kernel
theorem dX6_chord_66 : decode cX6_chord 66 = .ok (.iconst 1, 1) := by decide +kernel
theorem dX6_chord_67 : decode cX6_chord 67 = .ok (.goto 4, 3) := by decide +kernel
theorem dX6_chord_70 : decode cX6_chord 70 = .ok (.iconst 0, 1) := by decide +kernel
theorem dX6_chord_71 : decode cX6_chord 71 = .ok (.ireturn, 1) := by decide +kernel
theorem dX6_chord_72 : decode cX6_chord 72 = .ok (.aload_n 0, 1) := by decide +kernel
theorem dX6_chord_73 : decode cX6_chord 73 = .ok (.iload_n 1, 1) := by decide +kernel
theorem dX6_chord_74 : decode cX6_chord 74 = .ok (.invokevirtual 162, 3) := by decide +kernel
theorem dX6_chord_77 : decode cX6_chord 77 = .ok (.ireturn, 1) := by decide +kernel
theorem dX6_chord_78 : decode cX6_chord 78 = .ok (.bipush (-2), 2) := by decide +kernel
theorem dX6_chord_80 : decode cX6_chord 80 = .ok (.ireturn, 1) := by decide +kernel
theorem dX6_open_0 : decode cX6_open 0 = .ok (.iload_n 1, 1) := by decide +kernel
theorem dX6_open_1 : decode cX6_open 1 = .ok (.invokestatic 135, 3) := by decide +kernel
theorem dX6_open_4 : decode cX6_open 4 = .ok (.ifCond .eq 6, 3) := by decide +kernel
theorem dX6_open_7 : decode cX6_open 7 = .ok (.bipush (-2), 2) := by decide +kernel
theorem dX6_open_9 : decode cX6_open 9 = .ok (.ireturn, 1) := by decide +kernel
theorem dX6_open_10 : decode cX6_open 10 = .ok (.iconst (-1), 1) := by decide +kernel
theorem dX6_open_11 : decode cX6_open 11 = .ok (.istore_n 2, 1) := by decide +kernel
theorem dX6_open_12 : decode cX6_open 12 = .ok (.iconst 0, 1) := by decide +kernel
theorem dX6_open_13 : decode cX6_open 13 = .ok (.istore_n 3, 1) := by decide +kernel
theorem dX6_open_14 : decode cX6_open 14 = .ok (.iconst 0, 1) := by decide +kernel
theorem dX6_open_15 : decode cX6_open 15 = .ok (.istore 4, 2) := by decide +kernel
theorem dX6_open_17 : decode cX6_open 17 = .ok (.iload 4, 2) := by decide +kernel
theorem dX6_open_19 : decode cX6_open 19 = .ok (.aload_n 0, 1) := by decide +kernel
theorem dX6_open_20 : decode cX6_open 20 = .ok (.getfield 34, 3) := by decide +kernel
theorem dX6_open_23 : decode cX6_open 23 = .ok (.getfield 120, 3) := by decide +kernel
theorem dX6_open_26 : decode cX6_open 26 = .ok (.if_icmp .ge 50, 3) := by decide +kernel
theorem dX6_open_29 : decode cX6_open 29 = .ok (.aload_n 0, 1) := by decide +kernel
theorem dX6_open_30 : decode cX6_open 30 = .ok (.getfield 34, 3) := by decide +kernel
theorem dX6_open_33 : decode cX6_open 33 = .ok (.getfield 121, 3) := by decide +kernel
theorem dX6_open_36 : decode cX6_open 36 = .ok (.iload 4, 2) := by decide +kernel
theorem dX6_open_38 : decode cX6_open 38 = .ok (.iaload, 1) := by decide +kernel
theorem dX6_open_39 : decode cX6_open 39 = .ok (.iconst 1, 1) := by decide +kernel
theorem dX6_open_40 : decode cX6_open 40 = .ok (.if_icmp .eq 30, 3) := by decide +kernel
theorem dX6_open_43 : decode cX6_open 43 = .ok (.aload_n 0, 1) := by decide +kernel
theorem dX6_open_44 : decode cX6_open 44 = .ok (.aload_n 0, 1) := by decide +kernel
theorem dX6_open_45 : decode cX6_open 45 = .ok (.getfield 41, 3) := by decide +kernel
theorem dX6_open_48 : decode cX6_open 48 = .ok (.iload 4, 2) := by decide +kernel
theorem dX6_open_50 : decode cX6_open 50 = .ok (.invokevirtual 158, 3) := by decide +kernel
theorem dX6_open_53 : decode cX6_open 53 = .ok (.ifCond .ne 17, 3) := by decide +kernel
theorem dX6_open_56 : decode cX6_open 56 = .ok (.iload_n 3, 1) := by decide +kernel
theorem dX6_open_57 : decode cX6_open 57 = .ok (.ifCond .ne 8, 3) := by decide +kernel
theorem dX6_open_60 : decode cX6_open 60 = .ok (.iload 4, 2) := by decide +kernel
theorem dX6_open_62 : decode cX6_open 62 = .ok (.goto 4, 3) := by decide +kernel
theorem dX6_open_65 : decode cX6_open 65 = .ok (.iload_n 2, 1) := by decide +kernel
theorem dX6_open_66 : decode cX6_open 66 = .ok (.istore_n 2, 1) := by decide +kernel
theorem dX6_open_67 : decode cX6_open 67 = .ok (.iinc 3 1, 3) := by decide +kernel
theorem dX6_open_70 : decode cX6_open 70 = .ok (.iinc 4 1, 3) := by decide +kernel
theorem dX6_open_73 : decode cX6_open 73 = .ok (.goto (-56), 3) := by decide +kernel
theorem dX6_open_76 : decode cX6_open 76 = .ok (.iload_n 1, 1) := by decide +kernel
theorem dX6_open_77 : decode cX6_open 77 = .ok (.ifCond .ne 7, 3) := by decide +kernel
theorem dX6_open_80 : decode cX6_open 80 = .ok (.iload_n 2, 1) := by decide +kernel
theorem dX6_open_81 : decode cX6_open 81 = .ok (.goto 4, 3) := by decide +kernel
theorem dX6_open_84 : decode cX6_open 84 = .ok (.iload_n 3, 1) := by decide +kernel
theorem dX6_open_85 : decode cX6_open 85 = .ok (.ireturn, 1) := by decide +kernel
theorem dX6_stand_0 : decode cX6_stand 0 = .ok (.aload_n 0, 1) := by decide +kernel
theorem dX6_stand_1 : decode cX6_stand 1 = .ok (.iload_n 1, 1) := by decide +kernel
theorem dX6_stand_2 : decode cX6_stand 2 = .ok (.invokevirtual 144, 3) := by decide +kernel
theorem dX6_stand_5 : decode cX6_stand 5 = .ok (.ifCond .ne 13, 3) := by decide +kernel
theorem dX6_stand_8 : decode cX6_stand 8 = .ok (.iload_n 2, 1) := by decide +kernel
theorem dX6_stand_9 : decode cX6_stand 9 = .ok (.iconst (-1), 1) := by decide +kernel
theorem dX6_stand_10 : decode cX6_stand 10 = .ok (.if_icmp .lt 8, 3) := by decide +kernel
theorem dX6_stand_13 : decode cX6_stand 13 = .ok (.iload_n 2, 1) := by decide +kernel
theorem dX6_stand_14 : decode cX6_stand 14 = .ok (.iconst 5, 1) := by decide +kernel
theorem dX6_stand_15 : decode cX6_stand 15 = .ok (.if_icmp .lt 6, 3) := by decide +kernel
theorem dX6_stand_18 : decode cX6_stand 18 = .ok (.bipush (-2), 2) := by decide +kernel
theorem dX6_stand_20 : decode cX6_stand 20 = .ok (.ireturn, 1) := by decide +kernel
theorem dX6_stand_21 : decode cX6_stand 21 = .ok (.iconst 5, 1) := by decide +kernel
theorem dX6_stand_22 : decode cX6_stand 22 = .ok (.aload_n 0, 1) := by decide +kernel
theorem dX6_stand_23 : decode cX6_stand 23 = .ok (.getfield 24, 3) := by decide +kernel
theorem dX6_stand_26 : decode cX6_stand 26 = .ok (.getfield 165, 3) := by decide +kernel
theorem dX6_stand_29 : decode cX6_stand 29 = .ok (.invokestatic 166, 3) := by decide +kernel
theorem dX6_stand_32 : decode cX6_stand 32 = .ok (.istore_n 3, 1) := by decide +kernel
theorem dX6_stand_33 : decode cX6_stand 33 = .ok (.iload_n 2, 1) := by decide +kernel
theorem dX6_stand_34 : decode cX6_stand 34 = .ok (.iload_n 3, 1) := by decide +kernel
theorem dX6_stand_35 : decode cX6_stand 35 = .ok (.if_icmp .lt 5, 3) := by decide +kernel
theorem dX6_stand_38 : decode cX6_stand 38 = .ok (.iconst (-1), 1) := by decide +kernel
theorem dX6_stand_39 : decode cX6_stand 39 = .ok (.ireturn, 1) := by decide +kernel
theorem dX6_stand_40 : decode cX6_stand 40 = .ok (.aload_n 0, 1) := by decide +kernel
theorem dX6_stand_41 : decode cX6_stand 41 = .ok (.getfield 28, 3) := by decide +kernel
theorem dX6_stand_44 : decode cX6_stand 44 = .ok (.aload_n 0, 1) := by decide +kernel
theorem dX6_stand_45 : decode cX6_stand 45 = .ok (.getfield 24, 3) := by decide +kernel
theorem dX6_stand_48 : decode cX6_stand 48 = .ok (.invokevirtual 171, 3) := by decide +kernel
theorem dX6_stand_51 : decode cX6_stand 51 = .ok (.aload_n 0, 1) := by decide +kernel
theorem dX6_stand_52 : decode cX6_stand 52 = .ok (.iload_n 1, 1) := by decide +kernel
theorem dX6_stand_53 : decode cX6_stand 53 = .ok (.iload_n 3, 1) := by decide +kernel
theorem dX6_stand_54 : decode cX6_stand 54 = .ok (.invokevirtual 175, 3) := by decide +kernel
theorem dX6_stand_57 : decode cX6_stand 57 = .ok (.istore 4, 2) := by decide +kernel
theorem dX6_stand_59 : decode cX6_stand 59 = .ok (.iload_n 2, 1) := by decide +kernel
theorem dX6_stand_60 : decode cX6_stand 60 = .ok (.iconst (-1), 1) := by decide +kernel
theorem dX6_stand_61 : decode cX6_stand 61 = .ok (.if_icmp .ne 12, 3) := by decide +kernel
theorem dX6_stand_64 : decode cX6_stand 64 = .ok (.aload_n 0, 1) := by decide +kernel
theorem dX6_stand_65 : decode cX6_stand 65 = .ok (.iload 4, 2) := by decide +kernel
theorem dX6_stand_67 : decode cX6_stand 67 = .ok (.iload_n 3, 1) := by decide +kernel
theorem dX6_stand_68 : decode cX6_stand 68 = .ok (.iload_n 1, 1) := by decide +kernel
theorem dX6_stand_69 : decode cX6_stand 69 = .ok (.invokevirtual 178, 3) := by decide +kernel
theorem dX6_stand_72 : decode cX6_stand 72 = .ok (.ireturn, 1) := by decide +kernel
theorem dX6_stand_73 : decode cX6_stand 73 = .ok (.aload_n 0, 1) := by decide +kernel
theorem dX6_stand_74 : decode cX6_stand 74 = .ok (.iload 4, 2) := by decide +kernel
theorem dX6_stand_76 : decode cX6_stand 76 = .ok (.iload_n 3, 1) := by decide +kernel
theorem dX6_stand_77 : decode cX6_stand 77 = .ok (.invokevirtual 182, 3) := by decide +kernel
theorem dX6_stand_80 : decode cX6_stand 80 = .ok (.aload_n 0, 1) := by decide +kernel
theorem dX6_stand_81 : decode cX6_stand 81 = .ok (.getfield 62, 3) := by decide +kernel
theorem dX6_stand_84 : decode cX6_stand 84 = .ok (.iload_n 2, 1) := by decide +kernel
theorem dX6_stand_85 : decode cX6_stand 85 = .ok (.iaload, 1) := by decide +kernel
theorem dX6_stand_86 : decode cX6_stand 86 = .ok (.ireturn, 1) := by decide +kernel
theorem dX6_hush_0 : decode cX6_hush 0 = .ok (.aload_n 0, 1) := by decide +kernel
theorem dX6_hush_1 : decode cX6_hush 1 = .ok (.iload_n 1, 1) := by decide +kernel
theorem dX6_hush_2 : decode cX6_hush 2 = .ok (.invokevirtual 144, 3) := by decide +kernel
theorem dX6_hush_5 : decode cX6_hush 5 = .ok (.ifCond .ne 10, 3) := by decide +kernel
theorem dX6_hush_8 : decode cX6_hush 8 = .ok (.iload_n 2, 1) := by decide +kernel
theorem dX6_hush_9 : decode cX6_hush 9 = .ok (.invokestatic 135, 3) := by decide +kernel
theorem dX6_hush_12 : decode cX6_hush 12 = .ok (.ifCond .eq 6, 3) := by decide +kernel
theorem dX6_hush_15 : decode cX6_hush 15 = .ok (.bipush (-2), 2) := by decide +kernel
theorem dX6_hush_17 : decode cX6_hush 17 = .ok (.ireturn, 1) := by decide +kernel
theorem dX6_hush_18 : decode cX6_hush 18 = .ok (.aload_n 0, 1) := by decide +kernel
theorem dX6_hush_19 : decode cX6_hush 19 = .ok (.aload_n 0, 1) := by decide +kernel
theorem dX6_hush_20 : decode cX6_hush 20 = .ok (.getfield 34, 3) := by decide +kernel
theorem dX6_hush_23 : decode cX6_hush 23 = .ok (.getfield 147, 3) := by decide +kernel
theorem dX6_hush_26 : decode cX6_hush 26 = .ok (.iload_n 1, 1) := by decide +kernel
theorem dX6_hush_27 : decode cX6_hush 27 = .ok (.iaload, 1) := by decide +kernel
theorem dX6_hush_28 : decode cX6_hush 28 = .ok (.invokevirtual 186, 3) := by decide +kernel
theorem dX6_hush_31 : decode cX6_hush 31 = .ok (.istore_n 3, 1) := by decide +kernel
theorem dX6_hush_32 : decode cX6_hush 32 = .ok (.iload_n 2, 1) := by decide +kernel
theorem dX6_hush_33 : decode cX6_hush 33 = .ok (.ifCond .ne 10, 3) := by decide +kernel
theorem dX6_hush_36 : decode cX6_hush 36 = .ok (.iload_n 3, 1) := by decide +kernel
theorem dX6_hush_37 : decode cX6_hush 37 = .ok (.invokestatic 189, 3) := by decide +kernel
theorem dX6_hush_40 : decode cX6_hush 40 = .ok (.goto 4, 3) := by decide +kernel
theorem dX6_hush_43 : decode cX6_hush 43 = .ok (.iload_n 3, 1) := by decide +kernel
theorem dX6_hush_44 : decode cX6_hush 44 = .ok (.ireturn, 1) := by decide +kernel
theorem dX6_drive_0 : decode cX6_drive 0 = .ok (.aload_n 0, 1) := by decide +kernel
theorem dX6_drive_1 : decode cX6_drive 1 = .ok (.iload_n 1, 1) := by decide +kernel
theorem dX6_drive_2 : decode cX6_drive 2 = .ok (.invokevirtual 144, 3) := by decide +kernel
theorem dX6_drive_5 : decode cX6_drive 5 = .ok (.ifCond .ne 10, 3) := by decide +kernel
theorem dX6_drive_8 : decode cX6_drive 8 = .ok (.iload_n 2, 1) := by decide +kernel
theorem dX6_drive_9 : decode cX6_drive 9 = .ok (.invokestatic 135, 3) := by decide +kernel
theorem dX6_drive_12 : decode cX6_drive 12 = .ok (.ifCond .eq 6, 3) := by decide +kernel
theorem dX6_drive_15 : decode cX6_drive 15 = .ok (.bipush (-2), 2) := by decide +kernel
theorem dX6_drive_17 : decode cX6_drive 17 = .ok (.ireturn, 1) := by decide +kernel
theorem dX6_drive_18 : decode cX6_drive 18 = .ok (.aload_n 0, 1) := by decide +kernel
theorem dX6_drive_19 : decode cX6_drive 19 = .ok (.getfield 45, 3) := by decide +kernel
theorem dX6_drive_22 : decode cX6_drive 22 = .ok (.aload_n 0, 1) := by decide +kernel
theorem dX6_drive_23 : decode cX6_drive 23 = .ok (.getfield 41, 3) := by decide +kernel
theorem dX6_drive_26 : decode cX6_drive 26 = .ok (.invokevirtual 194, 3) := by decide +kernel
theorem dX6_drive_29 : decode cX6_drive 29 = .ok (.iconst 0, 1) := by decide +kernel
theorem dX6_drive_30 : decode cX6_drive 30 = .ok (.istore_n 3, 1) := by decide +kernel
theorem dX6_drive_31 : decode cX6_drive 31 = .ok (.ldc 197, 2) := by decide +kernel
theorem dX6_drive_33 : decode cX6_drive 33 = .ok (.istore 4, 2) := by decide +kernel
theorem dX6_drive_35 : decode cX6_drive 35 = .ok (.iconst 0, 1) := by decide +kernel
theorem dX6_drive_36 : decode cX6_drive 36 = .ok (.istore 5, 2) := by decide +kernel
theorem dX6_drive_38 : decode cX6_drive 38 = .ok (.iload 5, 2) := by decide +kernel
theorem dX6_drive_40 : decode cX6_drive 40 = .ok (.bipush 100, 2) := by decide +kernel
theorem dX6_drive_42 : decode cX6_drive 42 = .ok (.if_icmp .ge 52, 3) := by decide +kernel
theorem dX6_drive_45 : decode cX6_drive 45 = .ok (.aload_n 0, 1) := by decide +kernel
theorem dX6_drive_46 : decode cX6_drive 46 = .ok (.getfield 45, 3) := by decide +kernel
theorem dX6_drive_49 : decode cX6_drive 49 = .ok (.iload 5, 2) := by decide +kernel
theorem dX6_drive_51 : decode cX6_drive 51 = .ok (.putfield 198, 3) := by decide +kernel
theorem dX6_drive_54 : decode cX6_drive 54 = .ok (.aload_n 0, 1) := by decide +kernel
theorem dX6_drive_55 : decode cX6_drive 55 = .ok (.aload_n 0, 1) := by decide +kernel
theorem dX6_drive_56 : decode cX6_drive 56 = .ok (.getfield 24, 3) := by decide +kernel
theorem dX6_drive_59 : decode cX6_drive 59 = .ok (.aload_n 0, 1) := by decide +kernel
theorem dX6_drive_60 : decode cX6_drive 60 = .ok (.getfield 45, 3) := by decide +kernel
theorem dX6_drive_63 : decode cX6_drive 63 = .ok (.iload_n 1, 1) := by decide +kernel
theorem dX6_drive_64 : decode cX6_drive 64 = .ok (.invokevirtual 154, 3) := by decide +kernel
theorem dX6_drive_67 : decode cX6_drive 67 = .ok (.istore 6, 2) := by decide +kernel
theorem dX6_drive_69 : decode cX6_drive 69 = .ok (.iload 5, 2) := by decide +kernel
theorem dX6_drive_71 : decode cX6_drive 71 = .ok (.ifCond .eq 10, 3) := by decide +kernel
theorem dX6_drive_74 : decode cX6_drive 74 = .ok (.iload 6, 2) := by decide +kernel
theorem dX6_drive_76 : decode cX6_drive 76 = .ok (.iload 4, 2) := by decide +kernel
theorem dX6_drive_78 : decode cX6_drive 78 = .ok (.if_icmp .ge 10, 3) := by decide +kernel
theorem dX6_drive_81 : decode cX6_drive 81 = .ok (.iload 5, 2) := by decide +kernel
theorem dX6_drive_83 : decode cX6_drive 83 = .ok (.istore_n 3, 1) := by decide +kernel
theorem dX6_drive_84 : decode cX6_drive 84 = .ok (.iload 6, 2) := by decide +kernel
theorem dX6_drive_86 : decode cX6_drive 86 = .ok (.istore 4, 2) := by decide +kernel
theorem dX6_drive_88 : decode cX6_drive 88 = .ok (.iinc 5 1, 3) := by decide +kernel
theorem dX6_drive_91 : decode cX6_drive 91 = .ok (.goto (-53), 3) := by decide +kernel
theorem dX6_drive_94 : decode cX6_drive 94 = .ok (.iload_n 2, 1) := by decide +kernel
theorem dX6_drive_95 : decode cX6_drive 95 = .ok (.ifCond .ne 7, 3) := by decide +kernel
theorem dX6_drive_98 : decode cX6_drive 98 = .ok (.iload_n 3, 1) := by decide +kernel
theorem dX6_drive_99 : decode cX6_drive 99 = .ok (.goto 5, 3) := by decide +kernel
theorem dX6_drive_102 : decode cX6_drive 102 = .ok (.iload 4, 2) := by decide +kernel
theorem dX6_drive_104 : decode cX6_drive 104 = .ok (.ireturn, 1) := by decide +kernel
theorem dX6_heard_0 : decode cX6_heard 0 = .ok (.iload_n 1, 1) := by decide +kernel
theorem dX6_heard_1 : decode cX6_heard 1 = .ok (.iload_n 2, 1) := by decide +kernel
theorem dX6_heard_2 : decode cX6_heard 2 = .ok (.iload_n 3, 1) := by decide +kernel
theorem dX6_heard_3 : decode cX6_heard 3 = .ok (.invokestatic 201, 3) := by decide +kernel
theorem dX6_heard_6 : decode cX6_heard 6 = .ok (.ifCond .ne 6, 3) := by decide +kernel
theorem dX6_heard_9 : decode cX6_heard 9 = .ok (.bipush (-2), 2) := by decide +kernel
theorem dX6_heard_11 : decode cX6_heard 11 = .ok (.ireturn, 1) := by decide +kernel
theorem dX6_heard_12 : decode cX6_heard 12 = .ok (.aload_n 0, 1) := by decide +kernel
theorem dX6_heard_13 : decode cX6_heard 13 = .ok (.getfield 51, 3) := by decide +kernel
theorem dX6_heard_16 : decode cX6_heard 16 = .ok (.invokevirtual 205, 3) := by decide +kernel
theorem dX6_heard_19 : decode cX6_heard 19 = .ok (.ifCond .eq 6, 3) := by decide +kernel
theorem dX6_heard_22 : decode cX6_heard 22 = .ok (.bipush (-4), 2) := by decide +kernel
theorem dX6_heard_24 : decode cX6_heard 24 = .ok (.ireturn, 1) := by decide +kernel
theorem dX6_heard_25 : decode cX6_heard 25 = .ok (.aload_n 0, 1) := by decide +kernel
theorem dX6_heard_26 : decode cX6_heard 26 = .ok (.getfield 51, 3) := by decide +kernel
theorem dX6_heard_29 : decode cX6_heard 29 = .ok (.iload_n 1, 1) := by decide +kernel
theorem dX6_heard_30 : decode cX6_heard 30 = .ok (.iload_n 2, 1) := by decide +kernel
theorem dX6_heard_31 : decode cX6_heard 31 = .ok (.iload_n 3, 1) := by decide +kernel
theorem dX6_heard_32 : decode cX6_heard 32 = .ok (.invokevirtual 206, 3) := by decide +kernel
theorem dX6_heard_35 : decode cX6_heard 35 = .ok (.aload_n 0, 1) := by decide +kernel
theorem dX6_heard_36 : decode cX6_heard 36 = .ok (.getfield 51, 3) := by decide +kernel
theorem dX6_heard_39 : decode cX6_heard 39 = .ok (.getfield 210, 3) := by decide +kernel
theorem dX6_heard_42 : decode cX6_heard 42 = .ok (.ireturn, 1) := by decide +kernel
theorem dX6_forget_0 : decode cX6_forget 0 = .ok (.aload_n 0, 1) := by decide +kernel
theorem dX6_forget_1 : decode cX6_forget 1 = .ok (.getfield 51, 3) := by decide +kernel
theorem dX6_forget_4 : decode cX6_forget 4 = .ok (.getfield 210, 3) := by decide +kernel
theorem dX6_forget_7 : decode cX6_forget 7 = .ok (.istore_n 1, 1) := by decide +kernel
theorem dX6_forget_8 : decode cX6_forget 8 = .ok (.aload_n 0, 1) := by decide +kernel
theorem dX6_forget_9 : decode cX6_forget 9 = .ok (.getfield 51, 3) := by decide +kernel
theorem dX6_forget_12 : decode cX6_forget 12 = .ok (.iconst 0, 1) := by decide +kernel
theorem dX6_forget_13 : decode cX6_forget 13 = .ok (.putfield 210, 3) := by decide +kernel
theorem dX6_forget_16 : decode cX6_forget 16 = .ok (.iload_n 1, 1) := by decide +kernel
theorem dX6_forget_17 : decode cX6_forget 17 = .ok (.ireturn, 1) := by decide +kernel
theorem dX6_read_0 : decode cX6_read 0 = .ok (.iload_n 1, 1) := by decide +kernel
theorem dX6_read_1 : decode cX6_read 1 = .ok (.invokestatic 211, 3) := by decide +kernel
theorem dX6_read_4 : decode cX6_read 4 = .ok (.ifCond .eq 6, 3) := by decide +kernel
theorem dX6_read_7 : decode cX6_read 7 = .ok (.bipush (-2), 2) := by decide +kernel
theorem dX6_read_9 : decode cX6_read 9 = .ok (.ireturn, 1) := by decide +kernel
theorem dX6_read_10 : decode cX6_read 10 = .ok (.aload_n 0, 1) := by decide +kernel
theorem dX6_read_11 : decode cX6_read 11 = .ok (.getfield 58, 3) := by decide +kernel
theorem dX6_read_14 : decode cX6_read 14 = .ok (.iload_n 1, 1) := by decide +kernel
theorem dX6_read_15 : decode cX6_read 15 = .ok (.aaload, 1) := by decide +kernel
theorem dX6_read_16 : decode cX6_read 16 = .ok (.astore_n 2, 1) := by decide +kernel
theorem dX6_read_17 : decode cX6_read 17 = .ok (.aload_n 2, 1) := by decide +kernel
theorem dX6_read_18 : decode cX6_read 18 = .ok (.invokevirtual 214, 3) := by decide +kernel
theorem dX6_read_21 : decode cX6_read 21 = .ok (.ifCond .eq 9, 3) := by decide +kernel
theorem dX6_read_24 : decode cX6_read 24 = .ok (.aload_n 0, 1) := by decide +kernel
theorem dX6_read_25 : decode cX6_read 25 = .ok (.iconst 1, 1) := by decide +kernel
theorem dX6_read_26 : decode cX6_read 26 = .ok (.invokevirtual 217, 3) := by decide +kernel
theorem dX6_read_29 : decode cX6_read 29 = .ok (.ireturn, 1) := by decide +kernel
theorem dX6_read_30 : decode cX6_read 30 = .ok (.iconst 0, 1) := by decide +kernel
theorem dX6_read_31 : decode cX6_read 31 = .ok (.istore_n 3, 1) := by decide +kernel
theorem dX6_read_32 : decode cX6_read 32 = .ok (.iconst 0, 1) := by decide +kernel
theorem dX6_read_33 : decode cX6_read 33 = .ok (.istore 4, 2) := by decide +kernel
theorem dX6_read_35 : decode cX6_read 35 = .ok (.iload 4, 2) := by decide +kernel
theorem dX6_read_37 : decode cX6_read 37 = .ok (.iconst 2, 1) := by decide +kernel
theorem dX6_read_38 : decode cX6_read 38 = .ok (.iadd, 1) := by decide +kernel
theorem dX6_read_39 : decode cX6_read 39 = .ok (.aload_n 2, 1) := by decide +kernel
theorem dX6_read_40 : decode cX6_read 40 = .ok (.getfield 220, 3) := by decide +kernel
theorem dX6_read_43 : decode cX6_read 43 = .ok (.if_icmp .ge 88, 3) := by decide +kernel
theorem dX6_read_46 : decode cX6_read 46 = .ok (.aload_n 0, 1) := by decide +kernel
theorem dX6_read_47 : decode cX6_read 47 = .ok (.getfield 51, 3) := by decide +kernel
theorem dX6_read_50 : decode cX6_read 50 = .ok (.invokevirtual 205, 3) := by decide +kernel
theorem dX6_read_53 : decode cX6_read 53 = .ok (.ifCond .ne 78, 3) := by decide +kernel
theorem dX6_read_56 : decode cX6_read 56 = .ok (.aload_n 2, 1) := by decide +kernel
theorem dX6_read_57 : decode cX6_read 57 = .ok (.getfield 221, 3) := by decide +kernel
theorem dX6_read_60 : decode cX6_read 60 = .ok (.iload 4, 2) := by decide +kernel
theorem dX6_read_62 : decode cX6_read 62 = .ok (.iaload, 1) := by decide +kernel
theorem dX6_read_63 : decode cX6_read 63 = .ok (.aload_n 2, 1) := by decide +kernel
theorem dX6_read_64 : decode cX6_read 64 = .ok (.getfield 221, 3) := by decide +kernel
theorem dX6_read_67 : decode cX6_read 67 = .ok (.iload 4, 2) := by decide +kernel
theorem dX6_read_69 : decode cX6_read 69 = .ok (.iconst 1, 1) := by decide +kernel
theorem dX6_read_70 : decode cX6_read 70 = .ok (.iadd, 1) := by decide +kernel
theorem dX6_read_71 : decode cX6_read 71 = .ok (.iaload, 1) := by decide +kernel
theorem dX6_read_72 : decode cX6_read 72 = .ok (.aload_n 2, 1) := by decide +kernel
theorem dX6_read_73 : decode cX6_read 73 = .ok (.getfield 221, 3) := by decide +kernel
theorem dX6_read_76 : decode cX6_read 76 = .ok (.iload 4, 2) := by decide +kernel
theorem dX6_read_78 : decode cX6_read 78 = .ok (.iconst 2, 1) := by decide +kernel
theorem dX6_read_79 : decode cX6_read 79 = .ok (.iadd, 1) := by decide +kernel
theorem dX6_read_80 : decode cX6_read 80 = .ok (.iaload, 1) := by decide +kernel
theorem dX6_read_81 : decode cX6_read 81 = .ok (.invokestatic 201, 3) := by decide +kernel
theorem dX6_read_84 : decode cX6_read 84 = .ok (.ifCond .ne 6, 3) := by decide +kernel
theorem dX6_read_87 : decode cX6_read 87 = .ok (.goto 44, 3) := by decide +kernel
theorem dX6_read_90 : decode cX6_read 90 = .ok (.aload_n 0, 1) := by decide +kernel
theorem dX6_read_91 : decode cX6_read 91 = .ok (.getfield 51, 3) := by decide +kernel
theorem dX6_read_94 : decode cX6_read 94 = .ok (.aload_n 2, 1) := by decide +kernel
theorem dX6_read_95 : decode cX6_read 95 = .ok (.getfield 221, 3) := by decide +kernel
theorem dX6_read_98 : decode cX6_read 98 = .ok (.iload 4, 2) := by decide +kernel
theorem dX6_read_100 : decode cX6_read 100 = .ok (.iaload, 1) := by decide +kernel
theorem dX6_read_101 : decode cX6_read 101 = .ok (.aload_n 2, 1) := by decide +kernel
theorem dX6_read_102 : decode cX6_read 102 = .ok (.getfield 221, 3) := by decide +kernel
theorem dX6_read_105 : decode cX6_read 105 = .ok (.iload 4, 2) := by decide +kernel
theorem dX6_read_107 : decode cX6_read 107 = .ok (.iconst 1, 1) := by decide +kernel
theorem dX6_read_108 : decode cX6_read 108 = .ok (.iadd, 1) := by decide +kernel
theorem dX6_read_109 : decode cX6_read 109 = .ok (.iaload, 1) := by decide +kernel
theorem dX6_read_110 : decode cX6_read 110 = .ok (.aload_n 2, 1) := by decide +kernel
theorem dX6_read_111 : decode cX6_read 111 = .ok (.getfield 221, 3) := by decide +kernel
theorem dX6_read_114 : decode cX6_read 114 = .ok (.iload 4, 2) := by decide +kernel
theorem dX6_read_116 : decode cX6_read 116 = .ok (.iconst 2, 1) := by decide +kernel
theorem dX6_read_117 : decode cX6_read 117 = .ok (.iadd, 1) := by decide +kernel
theorem dX6_read_118 : decode cX6_read 118 = .ok (.iaload, 1) := by decide +kernel
theorem dX6_read_119 : decode cX6_read 119 = .ok (.invokevirtual 206, 3) := by decide +kernel
theorem dX6_read_122 : decode cX6_read 122 = .ok (.iinc 3 1, 3) := by decide +kernel
theorem dX6_read_125 : decode cX6_read 125 = .ok (.iinc 4 3, 3) := by decide +kernel
theorem dX6_read_128 : decode cX6_read 128 = .ok (.goto (-93), 3) := by decide +kernel
theorem dX6_read_131 : decode cX6_read 131 = .ok (.iload_n 3, 1) := by decide +kernel
theorem dX6_read_132 : decode cX6_read 132 = .ok (.ireturn, 1) := by decide +kernel
theorem dX6_speeds_0 : decode cX6_speeds 0 = .ok (.iload_n 1, 1) := by decide +kernel
theorem dX6_speeds_1 : decode cX6_speeds 1 = .ok (.iconst (-1), 1) := by decide +kernel
theorem dX6_speeds_2 : decode cX6_speeds 2 = .ok (.if_icmp .lt 9, 3) := by decide +kernel
theorem dX6_speeds_5 : decode cX6_speeds 5 = .ok (.iload_n 1, 1) := by decide +kernel
theorem dX6_speeds_6 : decode cX6_speeds 6 = .ok (.bipush 100, 2) := by decide +kernel
theorem dX6_speeds_8 : decode cX6_speeds 8 = .ok (.if_icmp .lt 6, 3) := by decide +kernel
theorem dX6_speeds_11 : decode cX6_speeds 11 = .ok (.bipush (-2), 2) := by decide +kernel
theorem dX6_speeds_13 : decode cX6_speeds 13 = .ok (.ireturn, 1) := by decide +kernel
theorem dX6_speeds_14 : decode cX6_speeds 14 = .ok (.aload_n 0, 1) := by decide +kernel
theorem dX6_speeds_15 : decode cX6_speeds 15 = .ok (.invokevirtual 224, 3) := by decide +kernel
theorem dX6_speeds_18 : decode cX6_speeds 18 = .ok (.istore_n 2, 1) := by decide +kernel
theorem dX6_speeds_19 : decode cX6_speeds 19 = .ok (.iload_n 1, 1) := by decide +kernel
theorem dX6_speeds_20 : decode cX6_speeds 20 = .ok (.iconst (-1), 1) := by decide +kernel
theorem dX6_speeds_21 : decode cX6_speeds 21 = .ok (.if_icmp .ne 5, 3) := by decide +kernel
theorem dX6_speeds_24 : decode cX6_speeds 24 = .ok (.iload_n 2, 1) := by decide +kernel
theorem dX6_speeds_25 : decode cX6_speeds 25 = .ok (.ireturn, 1) := by decide +kernel
theorem dX6_speeds_26 : decode cX6_speeds 26 = .ok (.iload_n 1, 1) := by decide +kernel
theorem dX6_speeds_27 : decode cX6_speeds 27 = .ok (.iload_n 2, 1) := by decide +kernel
theorem dX6_speeds_28 : decode cX6_speeds 28 = .ok (.if_icmp .ge 12, 3) := by decide +kernel
theorem dX6_speeds_31 : decode cX6_speeds 31 = .ok (.aload_n 0, 1) := by decide +kernel
theorem dX6_speeds_32 : decode cX6_speeds 32 = .ok (.getfield 66, 3) := by decide +kernel
theorem dX6_speeds_35 : decode cX6_speeds 35 = .ok (.iload_n 1, 1) := by decide +kernel
theorem dX6_speeds_36 : decode cX6_speeds 36 = .ok (.iaload, 1) := by decide +kernel
theorem dX6_speeds_37 : decode cX6_speeds 37 = .ok (.goto 4, 3) := by decide +kernel
theorem dX6_speeds_40 : decode cX6_speeds 40 = .ok (.iconst (-1), 1) := by decide +kernel
theorem dX6_speeds_41 : decode cX6_speeds 41 = .ok (.ireturn, 1) := by decide +kernel
theorem dX6_cows_0 : decode cX6_cows 0 = .ok (.aload_n 0, 1) := by decide +kernel
theorem dX6_cows_1 : decode cX6_cows 1 = .ok (.getfield 45, 3) := by decide +kernel
theorem dX6_cows_4 : decode cX6_cows 4 = .ok (.aload_n 0, 1) := by decide +kernel
theorem dX6_cows_5 : decode cX6_cows 5 = .ok (.getfield 41, 3) := by decide +kernel
theorem dX6_cows_8 : decode cX6_cows 8 = .ok (.invokevirtual 194, 3) := by decide +kernel
theorem dX6_cows_11 : decode cX6_cows 11 = .ok (.iconst 0, 1) := by decide +kernel
theorem dX6_cows_12 : decode cX6_cows 12 = .ok (.istore_n 1, 1) := by decide +kernel
theorem dX6_cows_13 : decode cX6_cows 13 = .ok (.iconst 0, 1) := by decide +kernel
theorem dX6_cows_14 : decode cX6_cows 14 = .ok (.istore_n 2, 1) := by decide +kernel
theorem dX6_cows_15 : decode cX6_cows 15 = .ok (.iload_n 2, 1) := by decide +kernel
theorem dX6_cows_16 : decode cX6_cows 16 = .ok (.bipush 10, 2) := by decide +kernel
theorem dX6_cows_18 : decode cX6_cows 18 = .ok (.if_icmp .ge 34, 3) := by decide +kernel
theorem dX6_cows_21 : decode cX6_cows 21 = .ok (.aload_n 0, 1) := by decide +kernel
theorem dX6_cows_22 : decode cX6_cows 22 = .ok (.getfield 45, 3) := by decide +kernel
theorem dX6_cows_25 : decode cX6_cows 25 = .ok (.iload_n 2, 1) := by decide +kernel
theorem dX6_cows_26 : decode cX6_cows 26 = .ok (.putfield 227, 3) := by decide +kernel
theorem dX6_cows_29 : decode cX6_cows 29 = .ok (.aload_n 0, 1) := by decide +kernel
theorem dX6_cows_30 : decode cX6_cows 30 = .ok (.aload_n 0, 1) := by decide +kernel
theorem dX6_cows_31 : decode cX6_cows 31 = .ok (.getfield 45, 3) := by decide +kernel
theorem dX6_cows_34 : decode cX6_cows 34 = .ok (.invokevirtual 230, 3) := by decide +kernel
theorem dX6_cows_37 : decode cX6_cows 37 = .ok (.ifCond .eq 9, 3) := by decide +kernel
theorem dX6_cows_40 : decode cX6_cows 40 = .ok (.iload_n 1, 1) := by decide +kernel
theorem dX6_cows_41 : decode cX6_cows 41 = .ok (.iconst 1, 1) := by decide +kernel
theorem dX6_cows_42 : decode cX6_cows 42 = .ok (.iload_n 2, 1) := by decide +kernel
theorem dX6_cows_43 : decode cX6_cows 43 = .ok (.ishl, 1) := by decide +kernel
theorem dX6_cows_44 : decode cX6_cows 44 = .ok (.ior, 1) := by decide +kernel
theorem dX6_cows_45 : decode cX6_cows 45 = .ok (.istore_n 1, 1) := by decide +kernel
theorem dX6_cows_46 : decode cX6_cows 46 = .ok (.iinc 2 1, 3) := by decide +kernel
theorem dX6_cows_49 : decode cX6_cows 49 = .ok (.goto (-34), 3) := by decide +kernel
theorem dX6_cows_52 : decode cX6_cows 52 = .ok (.iload_n 1, 1) := by decide +kernel
theorem dX6_cows_53 : decode cX6_cows 53 = .ok (.ireturn, 1) := by decide +kernel
theorem dX6_ask_0 : decode cX6_ask 0 = .ok (.aload_n 0, 1) := by decide +kernel
theorem dX6_ask_1 : decode cX6_ask 1 = .ok (.invokevirtual 224, 3) := by decide +kernel
theorem dX6_ask_4 : decode cX6_ask 4 = .ok (.istore_n 1, 1) := by decide +kernel
theorem dX6_ask_5 : decode cX6_ask 5 = .ok (.iconst (-1), 1) := by decide +kernel
theorem dX6_ask_6 : decode cX6_ask 6 = .ok (.istore_n 2, 1) := by decide +kernel
theorem dX6_ask_7 : decode cX6_ask 7 = .ok (.iconst 0, 1) := by decide +kernel
theorem dX6_ask_8 : decode cX6_ask 8 = .ok (.istore_n 3, 1) := by decide +kernel
theorem dX6_ask_9 : decode cX6_ask 9 = .ok (.iconst 0, 1) := by decide +kernel
theorem dX6_ask_10 : decode cX6_ask 10 = .ok (.istore 4, 2) := by decide +kernel
theorem dX6_ask_12 : decode cX6_ask 12 = .ok (.iload 4, 2) := by decide +kernel
theorem dX6_ask_14 : decode cX6_ask 14 = .ok (.aload_n 0, 1) := by decide +kernel
theorem dX6_ask_15 : decode cX6_ask 15 = .ok (.getfield 24, 3) := by decide +kernel
theorem dX6_ask_18 : decode cX6_ask 18 = .ok (.getfield 165, 3) := by decide +kernel
theorem dX6_ask_21 : decode cX6_ask 21 = .ok (.if_icmp .ge 35, 3) := by decide +kernel
theorem dX6_ask_24 : decode cX6_ask 24 = .ok (.aload_n 0, 1) := by decide +kernel
theorem dX6_ask_25 : decode cX6_ask 25 = .ok (.iload 4, 2) := by decide +kernel
theorem dX6_ask_27 : decode cX6_ask 27 = .ok (.iload_n 1, 1) := by decide +kernel
theorem dX6_ask_28 : decode cX6_ask 28 = .ok (.invokevirtual 234, 3) := by decide +kernel
theorem dX6_ask_31 : decode cX6_ask 31 = .ok (.istore 5, 2) := by decide +kernel
theorem dX6_ask_33 : decode cX6_ask 33 = .ok (.iload_n 2, 1) := by decide +kernel
theorem dX6_ask_34 : decode cX6_ask 34 = .ok (.iconst (-1), 1) := by decide +kernel
theorem dX6_ask_35 : decode cX6_ask 35 = .ok (.if_icmp .eq 9, 3) := by decide +kernel
theorem dX6_ask_38 : decode cX6_ask 38 = .ok (.iload 5, 2) := by decide +kernel
theorem dX6_ask_40 : decode cX6_ask 40 = .ok (.iload_n 3, 1) := by decide +kernel
theorem dX6_ask_41 : decode cX6_ask 41 = .ok (.if_icmp .ge 9, 3) := by decide +kernel
theorem dX6_ask_44 : decode cX6_ask 44 = .ok (.iload 4, 2) := by decide +kernel
theorem dX6_ask_46 : decode cX6_ask 46 = .ok (.istore_n 2, 1) := by decide +kernel
theorem dX6_ask_47 : decode cX6_ask 47 = .ok (.iload 5, 2) := by decide +kernel
theorem dX6_ask_49 : decode cX6_ask 49 = .ok (.istore_n 3, 1) := by decide +kernel
theorem dX6_ask_50 : decode cX6_ask 50 = .ok (.iinc 4 1, 3) := by decide +kernel
theorem dX6_ask_53 : decode cX6_ask 53 = .ok (.goto (-41), 3) := by decide +kernel
theorem dX6_ask_56 : decode cX6_ask 56 = .ok (.iload_n 2, 1) := by decide +kernel
theorem dX6_ask_57 : decode cX6_ask 57 = .ok (.ireturn, 1) := by decide +kernel
theorem dX6_herd_0 : decode cX6_herd 0 = .ok (.iload_n 1, 1) := by decide +kernel
theorem dX6_herd_1 : decode cX6_herd 1 = .ok (.ifCond .lt 35, 3) := by decide +kernel
theorem dX6_herd_4 : decode cX6_herd 4 = .ok (.iload_n 1, 1) := by decide +kernel
theorem dX6_herd_5 : decode cX6_herd 5 = .ok (.bipush 9, 2) := by decide +kernel
theorem dX6_herd_7 : decode cX6_herd 7 = .ok (.if_icmp .gt 29, 3) := by decide +kernel
theorem dX6_herd_10 : decode cX6_herd 10 = .ok (.iload_n 2, 1) := by decide +kernel
theorem dX6_herd_11 : decode cX6_herd 11 = .ok (.ifCond .lt 25, 3) := by decide +kernel
theorem dX6_herd_14 : decode cX6_herd 14 = .ok (.iload_n 2, 1) := by decide +kernel
theorem dX6_herd_15 : decode cX6_herd 15 = .ok (.bipush 16, 2) := by decide +kernel
theorem dX6_herd_17 : decode cX6_herd 17 = .ok (.if_icmp .gt 19, 3) := by decide +kernel
theorem dX6_herd_20 : decode cX6_herd 20 = .ok (.aload_n 0, 1) := by decide +kernel
theorem dX6_herd_21 : decode cX6_herd 21 = .ok (.iload_n 3, 1) := by decide +kernel
theorem dX6_herd_22 : decode cX6_herd 22 = .ok (.invokevirtual 237, 3) := by decide +kernel
theorem dX6_herd_25 : decode cX6_herd 25 = .ok (.ifCond .eq 11, 3) := by decide +kernel
theorem dX6_herd_28 : decode cX6_herd 28 = .ok (.iload 4, 2) := by decide +kernel
theorem dX6_herd_30 : decode cX6_herd 30 = .ok (.invokestatic 135, 3) := by decide +kernel
theorem dX6_herd_33 : decode cX6_herd 33 = .ok (.ifCond .eq 7, 3) := by decide +kernel
theorem dX6_herd_36 : decode cX6_herd 36 = .ok (.ldc2_w 240, 3) := by decide +kernel
theorem dX6_herd_39 : decode cX6_herd 39 = .ok (.lreturn, 1) := by decide +kernel
theorem dX6_herd_40 : decode cX6_herd 40 = .ok (.aload_n 0, 1) := by decide +kernel
theorem dX6_herd_41 : decode cX6_herd 41 = .ok (.iload_n 1, 1) := by decide +kernel
theorem dX6_herd_42 : decode cX6_herd 42 = .ok (.iload_n 2, 1) := by decide +kernel
theorem dX6_herd_43 : decode cX6_herd 43 = .ok (.iload_n 3, 1) := by decide +kernel
theorem dX6_herd_44 : decode cX6_herd 44 = .ok (.invokevirtual 242, 3) := by decide +kernel
theorem dX6_herd_47 : decode cX6_herd 47 = .ok (.lstore 5, 2) := by decide +kernel
theorem dX6_herd_49 : decode cX6_herd 49 = .ok (.ldc2_w 246, 3) := by decide +kernel
theorem dX6_herd_52 : decode cX6_herd 52 = .ok (.iload_n 1, 1) := by decide +kernel
theorem dX6_herd_53 : decode cX6_herd 53 = .ok (.invokestatic 248, 3) := by decide +kernel
theorem dX6_herd_56 : decode cX6_herd 56 = .ok (.lstore 7, 2) := by decide +kernel
theorem dX6_herd_58 : decode cX6_herd 58 = .ok (.iconst 0, 1) := by decide +kernel
theorem dX6_herd_59 : decode cX6_herd 59 = .ok (.istore 9, 2) := by decide +kernel
theorem dX6_herd_61 : decode cX6_herd 61 = .ok (.iload 9, 2) := by decide +kernel
theorem dX6_herd_63 : decode cX6_herd 63 = .ok (.iconst 4, 1) := by decide +kernel
theorem dX6_herd_64 : decode cX6_herd 64 = .ok (.iload_n 1, 1) := by decide +kernel
theorem dX6_herd_65 : decode cX6_herd 65 = .ok (.imul, 1) := by decide +kernel
theorem dX6_herd_66 : decode cX6_herd 66 = .ok (.if_icmp .ge 36, 3) := by decide +kernel
theorem dX6_herd_69 : decode cX6_herd 69 = .ok (.lload 5, 2) := by decide +kernel
theorem dX6_herd_71 : decode cX6_herd 71 = .ok (.ldc2_w 252, 3) := by decide +kernel
theorem dX6_herd_74 : decode cX6_herd 74 = .ok (.lrem, 1) := by decide +kernel
theorem dX6_herd_75 : decode cX6_herd 75 = .ok (.lconst 0, 1) := by decide +kernel
theorem dX6_herd_76 : decode cX6_herd 76 = .ok (.lcmp, 1) := by decide +kernel
theorem dX6_herd_77 : decode cX6_herd 77 = .ok (.ifCond .ne 25, 3) := by decide +kernel
theorem dX6_herd_80 : decode cX6_herd 80 = .ok (.lload 5, 2) := by decide +kernel
theorem dX6_herd_82 : decode cX6_herd 82 = .ok (.ldc2_w 252, 3) := by decide +kernel
theorem dX6_herd_85 : decode cX6_herd 85 = .ok (.ldiv, 1) := by decide +kernel
theorem dX6_herd_86 : decode cX6_herd 86 = .ok (.lstore 5, 2) := by decide +kernel
theorem dX6_herd_88 : decode cX6_herd 88 = .ok (.lload 7, 2) := by decide +kernel
theorem dX6_herd_90 : decode cX6_herd 90 = .ok (.ldc2_w 252, 3) := by decide +kernel
theorem dX6_herd_93 : decode cX6_herd 93 = .ok (.ldiv, 1) := by decide +kernel
theorem dX6_herd_94 : decode cX6_herd 94 = .ok (.lstore 7, 2) := by decide +kernel
theorem dX6_herd_96 : decode cX6_herd 96 = .ok (.iinc 9 1, 3) := by decide +kernel
theorem dX6_herd_99 : decode cX6_herd 99 = .ok (.goto (-38), 3) := by decide +kernel
theorem dX6_herd_102 : decode cX6_herd 102 = .ok (.iload 4, 2) := by decide +kernel
theorem dX6_herd_104 : decode cX6_herd 104 = .ok (.ifCond .ne 8, 3) := by decide +kernel
theorem dX6_herd_107 : decode cX6_herd 107 = .ok (.lload 5, 2) := by decide +kernel
theorem dX6_herd_109 : decode cX6_herd 109 = .ok (.goto 5, 3) := by decide +kernel
theorem dX6_herd_112 : decode cX6_herd 112 = .ok (.lload 7, 2) := by decide +kernel
theorem dX6_herd_114 : decode cX6_herd 114 = .ok (.lreturn, 1) := by decide +kernel
theorem dX6_times_0 : decode cX6_times 0 = .ok (.iload_n 2, 1) := by decide +kernel
theorem dX6_times_1 : decode cX6_times 1 = .ok (.iconst 1, 1) := by decide +kernel
theorem dX6_times_2 : decode cX6_times 2 = .ok (.if_icmp .lt 17, 3) := by decide +kernel
theorem dX6_times_5 : decode cX6_times 5 = .ok (.iload_n 2, 1) := by decide +kernel
theorem dX6_times_6 : decode cX6_times 6 = .ok (.bipush 99, 2) := by decide +kernel
theorem dX6_times_8 : decode cX6_times 8 = .ok (.if_icmp .gt 11, 3) := by decide +kernel
theorem dX6_times_11 : decode cX6_times 11 = .ok (.aload_n 0, 1) := by decide +kernel
theorem dX6_times_12 : decode cX6_times 12 = .ok (.iload_n 3, 1) := by decide +kernel
theorem dX6_times_13 : decode cX6_times 13 = .ok (.invokevirtual 237, 3) := by decide +kernel
theorem dX6_times_16 : decode cX6_times 16 = .ok (.ifCond .ne 6, 3) := by decide +kernel
theorem dX6_times_19 : decode cX6_times 19 = .ok (.bipush (-2), 2) := by decide +kernel
theorem dX6_times_21 : decode cX6_times 21 = .ok (.ireturn, 1) := by decide +kernel
theorem dX6_times_22 : decode cX6_times 22 = .ok (.aload_n 0, 1) := by decide +kernel
theorem dX6_times_23 : decode cX6_times 23 = .ok (.getfield 45, 3) := by decide +kernel
theorem dX6_times_26 : decode cX6_times 26 = .ok (.aload_n 0, 1) := by decide +kernel
theorem dX6_times_27 : decode cX6_times 27 = .ok (.getfield 41, 3) := by decide +kernel
theorem dX6_times_30 : decode cX6_times 30 = .ok (.invokevirtual 194, 3) := by decide +kernel
theorem dX6_times_33 : decode cX6_times 33 = .ok (.iload_n 1, 1) := by decide +kernel
theorem dX6_times_34 : decode cX6_times 34 = .ok (.istore 4, 2) := by decide +kernel
theorem dX6_times_36 : decode cX6_times 36 = .ok (.iconst 0, 1) := by decide +kernel
theorem dX6_times_37 : decode cX6_times 37 = .ok (.istore 5, 2) := by decide +kernel
theorem dX6_times_39 : decode cX6_times 39 = .ok (.iconst 0, 1) := by decide +kernel
theorem dX6_times_40 : decode cX6_times 40 = .ok (.istore 6, 2) := by decide +kernel
theorem dX6_times_42 : decode cX6_times 42 = .ok (.iload 6, 2) := by decide +kernel
theorem dX6_times_44 : decode cX6_times 44 = .ok (.iload_n 2, 1) := by decide +kernel
theorem dX6_times_45 : decode cX6_times 45 = .ok (.if_icmp .ge 73, 3) := by decide +kernel
theorem dX6_times_48 : decode cX6_times 48 = .ok (.iload 4, 2) := by decide +kernel
theorem dX6_times_50 : decode cX6_times 50 = .ok (.invokestatic 254, 3) := by decide +kernel
theorem dX6_times_53 : decode cX6_times 53 = .ok (.istore 4, 2) := by decide +kernel
theorem dX6_times_55 : decode cX6_times 55 = .ok (.aload_n 0, 1) := by decide +kernel
theorem dX6_times_56 : decode cX6_times 56 = .ok (.getfield 45, 3) := by decide +kernel
theorem dX6_times_59 : decode cX6_times 59 = .ok (.iload 4, 2) := by decide +kernel
theorem dX6_times_61 : decode cX6_times 61 = .ok (.bipush 100, 2) := by decide +kernel
theorem dX6_times_63 : decode cX6_times 63 = .ok (.invokestatic 257, 3) := by decide +kernel
theorem dX6_times_66 : decode cX6_times 66 = .ok (.putfield 198, 3) := by decide +kernel
theorem dX6_times_69 : decode cX6_times 69 = .ok (.iload 4, 2) := by decide +kernel
theorem dX6_times_71 : decode cX6_times 71 = .ok (.invokestatic 254, 3) := by decide +kernel
theorem dX6_times_74 : decode cX6_times 74 = .ok (.istore 4, 2) := by decide +kernel
theorem dX6_times_76 : decode cX6_times 76 = .ok (.aload_n 0, 1) := by decide +kernel
theorem dX6_times_77 : decode cX6_times 77 = .ok (.getfield 45, 3) := by decide +kernel
theorem dX6_times_80 : decode cX6_times 80 = .ok (.iload 4, 2) := by decide +kernel
theorem dX6_times_82 : decode cX6_times 82 = .ok (.bipush 19, 2) := by decide +kernel
theorem dX6_times_84 : decode cX6_times 84 = .ok (.invokestatic 257, 3) := by decide +kernel
theorem dX6_times_87 : decode cX6_times 87 = .ok (.putfield 260, 3) := by decide +kernel
theorem dX6_times_90 : decode cX6_times 90 = .ok (.iload 5, 2) := by decide +kernel
theorem dX6_times_92 : decode cX6_times 92 = .ok (.aload_n 0, 1) := by decide +kernel
theorem dX6_times_93 : decode cX6_times 93 = .ok (.aload_n 0, 1) := by decide +kernel
theorem dX6_times_94 : decode cX6_times 94 = .ok (.getfield 45, 3) := by decide +kernel
theorem dX6_times_97 : decode cX6_times 97 = .ok (.iload_n 3, 1) := by decide +kernel
theorem dX6_times_98 : decode cX6_times 98 = .ok (.invokevirtual 158, 3) := by decide +kernel
theorem dX6_times_101 : decode cX6_times 101 = .ok (.ifCond .eq 7, 3) := by decide +kernel
theorem dX6_times_104 : decode cX6_times 104 = .ok (.iconst 1, 1) := by decide +kernel
theorem dX6_times_105 : decode cX6_times 105 = .ok (.goto 4, 3) := by decide +kernel
theorem dX6_times_108 : decode cX6_times 108 = .ok (.iconst 0, 1) := by decide +kernel
theorem dX6_times_109 : decode cX6_times 109 = .ok (.iadd, 1) := by decide +kernel
theorem dX6_times_110 : decode cX6_times 110 = .ok (.istore 5, 2) := by decide +kernel
theorem dX6_times_112 : decode cX6_times 112 = .ok (.iinc 6 1, 3) := by decide +kernel
theorem dX6_times_115 : decode cX6_times 115 = .ok (.goto (-73), 3) := by decide +kernel
theorem dX6_times_118 : decode cX6_times 118 = .ok (.iload 5, 2) := by decide +kernel
theorem dX6_times_120 : decode cX6_times 120 = .ok (.ireturn, 1) := by decide +kernel
theorem dX6_sheet_0 : decode cX6_sheet 0 = .ok (.iload_n 1, 1) := by decide +kernel
theorem dX6_sheet_1 : decode cX6_sheet 1 = .ok (.invokestatic 211, 3) := by decide +kernel
theorem dX6_sheet_4 : decode cX6_sheet 4 = .ok (.ifCond .ne 16, 3) := by decide +kernel
theorem dX6_sheet_7 : decode cX6_sheet 7 = .ok (.iload_n 2, 1) := by decide +kernel
theorem dX6_sheet_8 : decode cX6_sheet 8 = .ok (.invokestatic 263, 3) := by decide +kernel
theorem dX6_sheet_11 : decode cX6_sheet 11 = .ok (.ifCond .ne 9, 3) := by decide +kernel
theorem dX6_sheet_14 : decode cX6_sheet 14 = .ok (.iload_n 3, 1) := by decide +kernel
theorem dX6_sheet_15 : decode cX6_sheet 15 = .ok (.bipush 60, 2) := by decide +kernel
theorem dX6_sheet_17 : decode cX6_sheet 17 = .ok (.if_icmp .le 6, 3) := by decide +kernel
theorem dX6_sheet_20 : decode cX6_sheet 20 = .ok (.bipush (-2), 2) := by decide +kernel
theorem dX6_sheet_22 : decode cX6_sheet 22 = .ok (.ireturn, 1) := by decide +kernel
theorem dX6_sheet_23 : decode cX6_sheet 23 = .ok (.iload_n 3, 1) := by decide +kernel
theorem dX6_sheet_24 : decode cX6_sheet 24 = .ok (.ifCond .ge 9, 3) := by decide +kernel
theorem dX6_sheet_27 : decode cX6_sheet 27 = .ok (.aload_n 0, 1) := by decide +kernel
theorem dX6_sheet_28 : decode cX6_sheet 28 = .ok (.iconst 5, 1) := by decide +kernel
theorem dX6_sheet_29 : decode cX6_sheet 29 = .ok (.invokevirtual 217, 3) := by decide +kernel
theorem dX6_sheet_32 : decode cX6_sheet 32 = .ok (.ireturn, 1) := by decide +kernel
theorem dX6_sheet_33 : decode cX6_sheet 33 = .ok (.aload_n 0, 1) := by decide +kernel
theorem dX6_sheet_34 : decode cX6_sheet 34 = .ok (.getfield 58, 3) := by decide +kernel
theorem dX6_sheet_37 : decode cX6_sheet 37 = .ok (.iload_n 1, 1) := by decide +kernel
theorem dX6_sheet_38 : decode cX6_sheet 38 = .ok (.aaload, 1) := by decide +kernel
theorem dX6_sheet_39 : decode cX6_sheet 39 = .ok (.iload_n 2, 1) := by decide +kernel
theorem dX6_sheet_40 : decode cX6_sheet 40 = .ok (.iload_n 3, 1) := by decide +kernel
theorem dX6_sheet_41 : decode cX6_sheet 41 = .ok (.invokevirtual 266, 3) := by decide +kernel
theorem dX6_sheet_44 : decode cX6_sheet 44 = .ok (.iload_n 3, 1) := by decide +kernel
theorem dX6_sheet_45 : decode cX6_sheet 45 = .ok (.ireturn, 1) := by decide +kernel
theorem dX6_lose_0 : decode cX6_lose 0 = .ok (.iload_n 1, 1) := by decide +kernel
theorem dX6_lose_1 : decode cX6_lose 1 = .ok (.invokestatic 211, 3) := by decide +kernel
theorem dX6_lose_4 : decode cX6_lose 4 = .ok (.ifCond .eq 6, 3) := by decide +kernel
theorem dX6_lose_7 : decode cX6_lose 7 = .ok (.bipush (-2), 2) := by decide +kernel
theorem dX6_lose_9 : decode cX6_lose 9 = .ok (.ireturn, 1) := by decide +kernel
theorem dX6_lose_10 : decode cX6_lose 10 = .ok (.aload_n 0, 1) := by decide +kernel
theorem dX6_lose_11 : decode cX6_lose 11 = .ok (.getfield 58, 3) := by decide +kernel
theorem dX6_lose_14 : decode cX6_lose 14 = .ok (.iload_n 1, 1) := by decide +kernel
theorem dX6_lose_15 : decode cX6_lose 15 = .ok (.aaload, 1) := by decide +kernel
theorem dX6_lose_16 : decode cX6_lose 16 = .ok (.astore_n 2, 1) := by decide +kernel
theorem dX6_lose_17 : decode cX6_lose 17 = .ok (.aload_n 2, 1) := by decide +kernel
theorem dX6_lose_18 : decode cX6_lose 18 = .ok (.invokevirtual 214, 3) := by decide +kernel
theorem dX6_lose_21 : decode cX6_lose 21 = .ok (.ifCond .eq 9, 3) := by decide +kernel
theorem dX6_lose_24 : decode cX6_lose 24 = .ok (.aload_n 0, 1) := by decide +kernel
theorem dX6_lose_25 : decode cX6_lose 25 = .ok (.iconst 1, 1) := by decide +kernel
theorem dX6_lose_26 : decode cX6_lose 26 = .ok (.invokevirtual 217, 3) := by decide +kernel
theorem dX6_lose_29 : decode cX6_lose 29 = .ok (.ireturn, 1) := by decide +kernel
theorem dX6_lose_30 : decode cX6_lose 30 = .ok (.aload_n 2, 1) := by decide +kernel
theorem dX6_lose_31 : decode cX6_lose 31 = .ok (.getfield 220, 3) := by decide +kernel
theorem dX6_lose_34 : decode cX6_lose 34 = .ok (.istore_n 3, 1) := by decide +kernel
theorem dX6_lose_35 : decode cX6_lose 35 = .ok (.aload_n 2, 1) := by decide +kernel
theorem dX6_lose_36 : decode cX6_lose 36 = .ok (.iconst (-1), 1) := by decide +kernel
theorem dX6_lose_37 : decode cX6_lose 37 = .ok (.iconst 0, 1) := by decide +kernel
theorem dX6_lose_38 : decode cX6_lose 38 = .ok (.invokevirtual 266, 3) := by decide +kernel
theorem dX6_lose_41 : decode cX6_lose 41 = .ok (.iload_n 3, 1) := by decide +kernel
theorem dX6_lose_42 : decode cX6_lose 42 = .ok (.ireturn, 1) := by decide +kernel
theorem dX6_lay_0 : decode cX6_lay 0 = .ok (.iload_n 1, 1) := by decide +kernel
theorem dX6_lay_1 : decode cX6_lay 1 = .ok (.invokestatic 211, 3) := by decide +kernel
theorem dX6_lay_4 : decode cX6_lay 4 = .ok (.ifCond .ne 10, 3) := by decide +kernel
theorem dX6_lay_7 : decode cX6_lay 7 = .ok (.iload_n 2, 1) := by decide +kernel
theorem dX6_lay_8 : decode cX6_lay 8 = .ok (.invokestatic 263, 3) := by decide +kernel
theorem dX6_lay_11 : decode cX6_lay 11 = .ok (.ifCond .eq 6, 3) := by decide +kernel
theorem dX6_lay_14 : decode cX6_lay 14 = .ok (.bipush (-2), 2) := by decide +kernel
theorem dX6_lay_16 : decode cX6_lay 16 = .ok (.ireturn, 1) := by decide +kernel
theorem dX6_lay_17 : decode cX6_lay 17 = .ok (.aload_n 0, 1) := by decide +kernel
theorem dX6_lay_18 : decode cX6_lay 18 = .ok (.getfield 58, 3) := by decide +kernel
theorem dX6_lay_21 : decode cX6_lay 21 = .ok (.iload_n 1, 1) := by decide +kernel
theorem dX6_lay_22 : decode cX6_lay 22 = .ok (.aaload, 1) := by decide +kernel
theorem dX6_lay_23 : decode cX6_lay 23 = .ok (.iload_n 2, 1) := by decide +kernel
theorem dX6_lay_24 : decode cX6_lay 24 = .ok (.iload_n 3, 1) := by decide +kernel
theorem dX6_lay_25 : decode cX6_lay 25 = .ok (.invokestatic 269, 3) := by decide +kernel
theorem dX6_lay_28 : decode cX6_lay 28 = .ok (.istore 5, 2) := by decide +kernel
theorem dX6_lay_30 : decode cX6_lay 30 = .ok (.iload 5, 2) := by decide +kernel
theorem dX6_lay_32 : decode cX6_lay 32 = .ok (.ifCond .eq 10, 3) := by decide +kernel
theorem dX6_lay_35 : decode cX6_lay 35 = .ok (.aload_n 0, 1) := by decide +kernel
theorem dX6_lay_36 : decode cX6_lay 36 = .ok (.iload 5, 2) := by decide +kernel
theorem dX6_lay_38 : decode cX6_lay 38 = .ok (.invokevirtual 217, 3) := by decide +kernel
theorem dX6_lay_41 : decode cX6_lay 41 = .ok (.ireturn, 1) := by decide +kernel
theorem dX6_lay_42 : decode cX6_lay 42 = .ok (.aload_n 0, 1) := by decide +kernel
theorem dX6_lay_43 : decode cX6_lay 43 = .ok (.getfield 58, 3) := by decide +kernel
theorem dX6_lay_46 : decode cX6_lay 46 = .ok (.iload_n 1, 1) := by decide +kernel
theorem dX6_lay_47 : decode cX6_lay 47 = .ok (.aaload, 1) := by decide +kernel
theorem dX6_lay_48 : decode cX6_lay 48 = .ok (.iload_n 3, 1) := by decide +kernel
theorem dX6_lay_49 : decode cX6_lay 49 = .ok (.iload 4, 2) := by decide +kernel
theorem dX6_lay_51 : decode cX6_lay 51 = .ok (.invokevirtual 273, 3) := by decide +kernel
theorem dX6_lay_54 : decode cX6_lay 54 = .ok (.iconst 1, 1) := by decide +kernel
theorem dX6_lay_55 : decode cX6_lay 55 = .ok (.ireturn, 1) := by decide +kernel
theorem dX6_get_0 : decode cX6_get 0 = .ok (.iload_n 1, 1) := by decide +kernel
theorem dX6_get_1 : decode cX6_get 1 = .ok (.invokestatic 211, 3) := by decide +kernel
theorem dX6_get_4 : decode cX6_get 4 = .ok (.ifCond .ne 10, 3) := by decide +kernel
theorem dX6_get_7 : decode cX6_get 7 = .ok (.iload_n 2, 1) := by decide +kernel
theorem dX6_get_8 : decode cX6_get 8 = .ok (.invokestatic 263, 3) := by decide +kernel
theorem dX6_get_11 : decode cX6_get 11 = .ok (.ifCond .eq 6, 3) := by decide +kernel
theorem dX6_get_14 : decode cX6_get 14 = .ok (.ldc 197, 2) := by decide +kernel
theorem dX6_get_16 : decode cX6_get 16 = .ok (.ireturn, 1) := by decide +kernel
theorem dX6_get_17 : decode cX6_get 17 = .ok (.aload_n 0, 1) := by decide +kernel
theorem dX6_get_18 : decode cX6_get 18 = .ok (.getfield 58, 3) := by decide +kernel
theorem dX6_get_21 : decode cX6_get 21 = .ok (.iload_n 1, 1) := by decide +kernel
theorem dX6_get_22 : decode cX6_get 22 = .ok (.aaload, 1) := by decide +kernel
theorem dX6_get_23 : decode cX6_get 23 = .ok (.iload_n 2, 1) := by decide +kernel
theorem dX6_get_24 : decode cX6_get 24 = .ok (.iload_n 3, 1) := by decide +kernel
theorem dX6_get_25 : decode cX6_get 25 = .ok (.invokestatic 269, 3) := by decide +kernel
theorem dX6_get_28 : decode cX6_get 28 = .ok (.istore 4, 2) := by decide +kernel
theorem dX6_get_30 : decode cX6_get 30 = .ok (.iload 4, 2) := by decide +kernel
theorem dX6_get_32 : decode cX6_get 32 = .ok (.ifCond .eq 13, 3) := by decide +kernel
theorem dX6_get_35 : decode cX6_get 35 = .ok (.aload_n 0, 1) := by decide +kernel
theorem dX6_get_36 : decode cX6_get 36 = .ok (.iload 4, 2) := by decide +kernel
theorem dX6_get_38 : decode cX6_get 38 = .ok (.invokevirtual 217, 3) := by decide +kernel
theorem dX6_get_41 : decode cX6_get 41 = .ok (.pop, 1) := by decide +kernel
theorem dX6_get_42 : decode cX6_get 42 = .ok (.ldc 197, 2) := by decide +kernel
theorem dX6_get_44 : decode cX6_get 44 = .ok (.ireturn, 1) := by decide +kernel
theorem dX6_get_45 : decode cX6_get 45 = .ok (.aload_n 0, 1) := by decide +kernel
theorem dX6_get_46 : decode cX6_get 46 = .ok (.getfield 58, 3) := by decide +kernel
theorem dX6_get_49 : decode cX6_get 49 = .ok (.iload_n 1, 1) := by decide +kernel
theorem dX6_get_50 : decode cX6_get 50 = .ok (.aaload, 1) := by decide +kernel
theorem dX6_get_51 : decode cX6_get 51 = .ok (.getfield 221, 3) := by decide +kernel
theorem dX6_get_54 : decode cX6_get 54 = .ok (.iload_n 3, 1) := by decide +kernel
theorem dX6_get_55 : decode cX6_get 55 = .ok (.iaload, 1) := by decide +kernel
theorem dX6_get_56 : decode cX6_get 56 = .ok (.ireturn, 1) := by decide +kernel
theorem dX6_copy_0 : decode cX6_copy 0 = .ok (.iload_n 1, 1) := by decide +kernel
theorem dX6_copy_1 : decode cX6_copy 1 = .ok (.invokestatic 211, 3) := by decide +kernel
