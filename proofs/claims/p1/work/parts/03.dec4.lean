theorem dX9_rootOf_143 : decode cX9_rootOf 143 = .ok (.aload_n 0, 1) := by decide +kernel
theorem dX9_rootOf_144 : decode cX9_rootOf 144 = .ok (.iload_n 3, 1) := by decide +kernel
theorem dX9_rootOf_145 : decode cX9_rootOf 145 = .ok (.invokevirtual 270, 3) := by decide +kernel
theorem dX9_rootOf_148 : decode cX9_rootOf 148 = .ok (.goto (-12), 3) := by decide +kernel
theorem dX9_rootOf_151 : decode cX9_rootOf 151 = .ok (.return_, 1) := by decide +kernel
theorem dX9_joins_0 : decode cX9_joins 0 = .ok (.aload_n 0, 1) := by decide +kernel
theorem dX9_joins_1 : decode cX9_joins 1 = .ok (.aload_n 0, 1) := by decide +kernel
theorem dX9_joins_2 : decode cX9_joins 2 = .ok (.getfield 62, 3) := by decide +kernel
theorem dX9_joins_5 : decode cX9_joins 5 = .ok (.iconst 0, 1) := by decide +kernel
theorem dX9_joins_6 : decode cX9_joins 6 = .ok (.invokevirtual 213, 3) := by decide +kernel
theorem dX9_joins_9 : decode cX9_joins 9 = .ok (.aload_n 0, 1) := by decide +kernel
theorem dX9_joins_10 : decode cX9_joins 10 = .ok (.aload_n 0, 1) := by decide +kernel
theorem dX9_joins_11 : decode cX9_joins 11 = .ok (.getfield 56, 3) := by decide +kernel
theorem dX9_joins_14 : decode cX9_joins 14 = .ok (.bipush 32, 2) := by decide +kernel
theorem dX9_joins_16 : decode cX9_joins 16 = .ok (.iload_n 1, 1) := by decide +kernel
theorem dX9_joins_17 : decode cX9_joins 17 = .ok (.imul, 1) := by decide +kernel
theorem dX9_joins_18 : decode cX9_joins 18 = .ok (.aload_n 0, 1) := by decide +kernel
theorem dX9_joins_19 : decode cX9_joins 19 = .ok (.getfield 62, 3) := by decide +kernel
theorem dX9_joins_22 : decode cX9_joins 22 = .ok (.iconst 0, 1) := by decide +kernel
theorem dX9_joins_23 : decode cX9_joins 23 = .ok (.invokevirtual 273, 3) := by decide +kernel
theorem dX9_joins_26 : decode cX9_joins 26 = .ok (.return_, 1) := by decide +kernel
theorem dX9_below_0 : decode cX9_below 0 = .ok (.iconst 1, 1) := by decide +kernel
theorem dX9_below_1 : decode cX9_below 1 = .ok (.istore_n 1, 1) := by decide +kernel
theorem dX9_below_2 : decode cX9_below 2 = .ok (.iconst 2, 1) := by decide +kernel
theorem dX9_below_3 : decode cX9_below 3 = .ok (.iload_n 1, 1) := by decide +kernel
theorem dX9_below_4 : decode cX9_below 4 = .ok (.imul, 1) := by decide +kernel
theorem dX9_below_5 : decode cX9_below 5 = .ok (.iload_n 0, 1) := by decide +kernel
theorem dX9_below_6 : decode cX9_below 6 = .ok (.if_icmp .ge 10, 3) := by decide +kernel
theorem dX9_below_9 : decode cX9_below 9 = .ok (.iconst 2, 1) := by decide +kernel
theorem dX9_below_10 : decode cX9_below 10 = .ok (.iload_n 1, 1) := by decide +kernel
theorem dX9_below_11 : decode cX9_below 11 = .ok (.imul, 1) := by decide +kernel
theorem dX9_below_12 : decode cX9_below 12 = .ok (.istore_n 1, 1) := by decide +kernel
theorem dX9_below_13 : decode cX9_below 13 = .ok (.goto (-11), 3) := by decide +kernel
theorem dX9_below_16 : decode cX9_below 16 = .ok (.iload_n 1, 1) := by decide +kernel
theorem dX9_below_17 : decode cX9_below 17 = .ok (.ireturn, 1) := by decide +kernel
theorem dX9_root_0 : decode cX9_root 0 = .ok (.iload_n 1, 1) := by decide +kernel
theorem dX9_root_1 : decode cX9_root 1 = .ok (.i2l, 1) := by decide +kernel
theorem dX9_root_2 : decode cX9_root 2 = .ok (.lconst 0, 1) := by decide +kernel
theorem dX9_root_3 : decode cX9_root 3 = .ok (.aload_n 0, 1) := by decide +kernel
theorem dX9_root_4 : decode cX9_root 4 = .ok (.invokevirtual 262, 3) := by decide +kernel
theorem dX9_root_7 : decode cX9_root 7 = .ok (.i2l, 1) := by decide +kernel
theorem dX9_root_8 : decode cX9_root 8 = .ok (.invokestatic 185, 3) := by decide +kernel
theorem dX9_root_11 : decode cX9_root 11 = .ok (.ifCond .eq 15, 3) := by decide +kernel
theorem dX9_root_14 : decode cX9_root 14 = .ok (.iload_n 2, 1) := by decide +kernel
theorem dX9_root_15 : decode cX9_root 15 = .ok (.i2l, 1) := by decide +kernel
theorem dX9_root_16 : decode cX9_root 16 = .ok (.lconst 0, 1) := by decide +kernel
theorem dX9_root_17 : decode cX9_root 17 = .ok (.ldc2_w 265, 3) := by decide +kernel
theorem dX9_root_20 : decode cX9_root 20 = .ok (.invokestatic 185, 3) := by decide +kernel
theorem dX9_root_23 : decode cX9_root 23 = .ok (.ifCond .ne 6, 3) := by decide +kernel
theorem dX9_root_26 : decode cX9_root 26 = .ok (.bipush (-2), 2) := by decide +kernel
theorem dX9_root_28 : decode cX9_root 28 = .ok (.ireturn, 1) := by decide +kernel
theorem dX9_root_29 : decode cX9_root 29 = .ok (.aload_n 0, 1) := by decide +kernel
theorem dX9_root_30 : decode cX9_root 30 = .ok (.iconst 0, 1) := by decide +kernel
theorem dX9_root_31 : decode cX9_root 31 = .ok (.iload_n 1, 1) := by decide +kernel
theorem dX9_root_32 : decode cX9_root 32 = .ok (.invokevirtual 277, 3) := by decide +kernel
theorem dX9_root_35 : decode cX9_root 35 = .ok (.aload_n 0, 1) := by decide +kernel
theorem dX9_root_36 : decode cX9_root 36 = .ok (.getfield 22, 3) := by decide +kernel
theorem dX9_root_39 : decode cX9_root 39 = .ok (.iload_n 2, 1) := by decide +kernel
theorem dX9_root_40 : decode cX9_root 40 = .ok (.iaload, 1) := by decide +kernel
theorem dX9_root_41 : decode cX9_root 41 = .ok (.ireturn, 1) := by decide +kernel
theorem dX9_tells_0 : decode cX9_tells 0 = .ok (.iload_n 1, 1) := by decide +kernel
theorem dX9_tells_1 : decode cX9_tells 1 = .ok (.iconst 1, 1) := by decide +kernel
theorem dX9_tells_2 : decode cX9_tells 2 = .ok (.isub, 1) := by decide +kernel
theorem dX9_tells_3 : decode cX9_tells 3 = .ok (.istore_n 2, 1) := by decide +kernel
theorem dX9_tells_4 : decode cX9_tells 4 = .ok (.iload_n 2, 1) := by decide +kernel
theorem dX9_tells_5 : decode cX9_tells 5 = .ok (.ifCond .lt 50, 3) := by decide +kernel
theorem dX9_tells_8 : decode cX9_tells 8 = .ok (.aload_n 0, 1) := by decide +kernel
theorem dX9_tells_9 : decode cX9_tells 9 = .ok (.aload_n 0, 1) := by decide +kernel
theorem dX9_tells_10 : decode cX9_tells 10 = .ok (.getfield 68, 3) := by decide +kernel
theorem dX9_tells_13 : decode cX9_tells 13 = .ok (.iload_n 2, 1) := by decide +kernel
theorem dX9_tells_14 : decode cX9_tells 14 = .ok (.iaload, 1) := by decide +kernel
theorem dX9_tells_15 : decode cX9_tells 15 = .ok (.aload_n 0, 1) := by decide +kernel
theorem dX9_tells_16 : decode cX9_tells 16 = .ok (.getfield 71, 3) := by decide +kernel
theorem dX9_tells_19 : decode cX9_tells 19 = .ok (.iload_n 2, 1) := by decide +kernel
theorem dX9_tells_20 : decode cX9_tells 20 = .ok (.iaload, 1) := by decide +kernel
theorem dX9_tells_21 : decode cX9_tells 21 = .ok (.invokevirtual 277, 3) := by decide +kernel
theorem dX9_tells_24 : decode cX9_tells 24 = .ok (.aload_n 0, 1) := by decide +kernel
theorem dX9_tells_25 : decode cX9_tells 25 = .ok (.aload_n 0, 1) := by decide +kernel
theorem dX9_tells_26 : decode cX9_tells 26 = .ok (.getfield 65, 3) := by decide +kernel
theorem dX9_tells_29 : decode cX9_tells 29 = .ok (.bipush 32, 2) := by decide +kernel
theorem dX9_tells_31 : decode cX9_tells 31 = .ok (.aload_n 0, 1) := by decide +kernel
theorem dX9_tells_32 : decode cX9_tells 32 = .ok (.getfield 281, 3) := by decide +kernel
theorem dX9_tells_35 : decode cX9_tells 35 = .ok (.imul, 1) := by decide +kernel
theorem dX9_tells_36 : decode cX9_tells 36 = .ok (.invokevirtual 213, 3) := by decide +kernel
theorem dX9_tells_39 : decode cX9_tells 39 = .ok (.aload_n 0, 1) := by decide +kernel
theorem dX9_tells_40 : decode cX9_tells 40 = .ok (.dup, 1) := by decide +kernel
theorem dX9_tells_41 : decode cX9_tells 41 = .ok (.getfield 281, 3) := by decide +kernel
theorem dX9_tells_44 : decode cX9_tells 44 = .ok (.iconst 1, 1) := by decide +kernel
theorem dX9_tells_45 : decode cX9_tells 45 = .ok (.iadd, 1) := by decide +kernel
theorem dX9_tells_46 : decode cX9_tells 46 = .ok (.putfield 281, 3) := by decide +kernel
theorem dX9_tells_49 : decode cX9_tells 49 = .ok (.iinc 2 (-1), 3) := by decide +kernel
theorem dX9_tells_52 : decode cX9_tells 52 = .ok (.goto (-48), 3) := by decide +kernel
theorem dX9_tells_55 : decode cX9_tells 55 = .ok (.aload_n 0, 1) := by decide +kernel
theorem dX9_tells_56 : decode cX9_tells 56 = .ok (.getfield 281, 3) := by decide +kernel
theorem dX9_tells_59 : decode cX9_tells 59 = .ok (.ireturn, 1) := by decide +kernel
theorem dX9_path_0 : decode cX9_path 0 = .ok (.iload_n 2, 1) := by decide +kernel
theorem dX9_path_1 : decode cX9_path 1 = .ok (.i2l, 1) := by decide +kernel
theorem dX9_path_2 : decode cX9_path 2 = .ok (.lconst 0, 1) := by decide +kernel
theorem dX9_path_3 : decode cX9_path 3 = .ok (.aload_n 0, 1) := by decide +kernel
theorem dX9_path_4 : decode cX9_path 4 = .ok (.invokevirtual 262, 3) := by decide +kernel
theorem dX9_path_7 : decode cX9_path 7 = .ok (.i2l, 1) := by decide +kernel
theorem dX9_path_8 : decode cX9_path 8 = .ok (.invokestatic 185, 3) := by decide +kernel
theorem dX9_path_11 : decode cX9_path 11 = .ok (.ifCond .eq 16, 3) := by decide +kernel
theorem dX9_path_14 : decode cX9_path 14 = .ok (.iload_n 1, 1) := by decide +kernel
theorem dX9_path_15 : decode cX9_path 15 = .ok (.i2l, 1) := by decide +kernel
theorem dX9_path_16 : decode cX9_path 16 = .ok (.lconst 0, 1) := by decide +kernel
theorem dX9_path_17 : decode cX9_path 17 = .ok (.iload_n 2, 1) := by decide +kernel
theorem dX9_path_18 : decode cX9_path 18 = .ok (.iconst 1, 1) := by decide +kernel
theorem dX9_path_19 : decode cX9_path 19 = .ok (.isub, 1) := by decide +kernel
theorem dX9_path_20 : decode cX9_path 20 = .ok (.i2l, 1) := by decide +kernel
theorem dX9_path_21 : decode cX9_path 21 = .ok (.invokestatic 185, 3) := by decide +kernel
theorem dX9_path_24 : decode cX9_path 24 = .ok (.ifCond .ne 6, 3) := by decide +kernel
theorem dX9_path_27 : decode cX9_path 27 = .ok (.bipush (-2), 2) := by decide +kernel
theorem dX9_path_29 : decode cX9_path 29 = .ok (.ireturn, 1) := by decide +kernel
theorem dX9_path_30 : decode cX9_path 30 = .ok (.aload_n 0, 1) := by decide +kernel
theorem dX9_path_31 : decode cX9_path 31 = .ok (.iconst 0, 1) := by decide +kernel
theorem dX9_path_32 : decode cX9_path 32 = .ok (.putfield 281, 3) := by decide +kernel
theorem dX9_path_35 : decode cX9_path 35 = .ok (.iconst 0, 1) := by decide +kernel
theorem dX9_path_36 : decode cX9_path 36 = .ok (.istore_n 3, 1) := by decide +kernel
theorem dX9_path_37 : decode cX9_path 37 = .ok (.iload_n 2, 1) := by decide +kernel
theorem dX9_path_38 : decode cX9_path 38 = .ok (.istore 4, 2) := by decide +kernel
theorem dX9_path_40 : decode cX9_path 40 = .ok (.iconst 0, 1) := by decide +kernel
theorem dX9_path_41 : decode cX9_path 41 = .ok (.istore 5, 2) := by decide +kernel
theorem dX9_path_43 : decode cX9_path 43 = .ok (.iload 4, 2) := by decide +kernel
theorem dX9_path_45 : decode cX9_path 45 = .ok (.iconst 1, 1) := by decide +kernel
theorem dX9_path_46 : decode cX9_path 46 = .ok (.if_icmp .le 104, 3) := by decide +kernel
theorem dX9_path_49 : decode cX9_path 49 = .ok (.iload 4, 2) := by decide +kernel
theorem dX9_path_51 : decode cX9_path 51 = .ok (.invokestatic 284, 3) := by decide +kernel
theorem dX9_path_54 : decode cX9_path 54 = .ok (.istore 6, 2) := by decide +kernel
theorem dX9_path_56 : decode cX9_path 56 = .ok (.iload_n 1, 1) := by decide +kernel
theorem dX9_path_57 : decode cX9_path 57 = .ok (.iload_n 3, 1) := by decide +kernel
theorem dX9_path_58 : decode cX9_path 58 = .ok (.isub, 1) := by decide +kernel
theorem dX9_path_59 : decode cX9_path 59 = .ok (.iload 6, 2) := by decide +kernel
theorem dX9_path_61 : decode cX9_path 61 = .ok (.if_icmp .ge 7, 3) := by decide +kernel
theorem dX9_path_64 : decode cX9_path 64 = .ok (.iconst 1, 1) := by decide +kernel
theorem dX9_path_65 : decode cX9_path 65 = .ok (.goto 4, 3) := by decide +kernel
theorem dX9_path_68 : decode cX9_path 68 = .ok (.iconst 0, 1) := by decide +kernel
theorem dX9_path_69 : decode cX9_path 69 = .ok (.istore 7, 2) := by decide +kernel
theorem dX9_path_71 : decode cX9_path 71 = .ok (.aload_n 0, 1) := by decide +kernel
theorem dX9_path_72 : decode cX9_path 72 = .ok (.getfield 68, 3) := by decide +kernel
theorem dX9_path_75 : decode cX9_path 75 = .ok (.iload 5, 2) := by decide +kernel
theorem dX9_path_77 : decode cX9_path 77 = .ok (.iload 7, 2) := by decide +kernel
theorem dX9_path_79 : decode cX9_path 79 = .ok (.ifCond .eq 10, 3) := by decide +kernel
theorem dX9_path_82 : decode cX9_path 82 = .ok (.iload_n 3, 1) := by decide +kernel
theorem dX9_path_83 : decode cX9_path 83 = .ok (.iload 6, 2) := by decide +kernel
theorem dX9_path_85 : decode cX9_path 85 = .ok (.iadd, 1) := by decide +kernel
theorem dX9_path_86 : decode cX9_path 86 = .ok (.goto 4, 3) := by decide +kernel
theorem dX9_path_89 : decode cX9_path 89 = .ok (.iload_n 3, 1) := by decide +kernel
theorem dX9_path_90 : decode cX9_path 90 = .ok (.iastore, 1) := by decide +kernel
theorem dX9_path_91 : decode cX9_path 91 = .ok (.aload_n 0, 1) := by decide +kernel
theorem dX9_path_92 : decode cX9_path 92 = .ok (.getfield 71, 3) := by decide +kernel
theorem dX9_path_95 : decode cX9_path 95 = .ok (.iload 5, 2) := by decide +kernel
theorem dX9_path_97 : decode cX9_path 97 = .ok (.iload 7, 2) := by decide +kernel
theorem dX9_path_99 : decode cX9_path 99 = .ok (.ifCond .eq 11, 3) := by decide +kernel
theorem dX9_path_102 : decode cX9_path 102 = .ok (.iload 4, 2) := by decide +kernel
theorem dX9_path_104 : decode cX9_path 104 = .ok (.iload 6, 2) := by decide +kernel
theorem dX9_path_106 : decode cX9_path 106 = .ok (.isub, 1) := by decide +kernel
theorem dX9_path_107 : decode cX9_path 107 = .ok (.goto 5, 3) := by decide +kernel
theorem dX9_path_110 : decode cX9_path 110 = .ok (.iload 6, 2) := by decide +kernel
theorem dX9_path_112 : decode cX9_path 112 = .ok (.iastore, 1) := by decide +kernel
theorem dX9_path_113 : decode cX9_path 113 = .ok (.iinc 5 1, 3) := by decide +kernel
theorem dX9_path_116 : decode cX9_path 116 = .ok (.iload_n 3, 1) := by decide +kernel
theorem dX9_path_117 : decode cX9_path 117 = .ok (.iload 7, 2) := by decide +kernel
theorem dX9_path_119 : decode cX9_path 119 = .ok (.ifCond .eq 7, 3) := by decide +kernel
theorem dX9_path_122 : decode cX9_path 122 = .ok (.iconst 0, 1) := by decide +kernel
theorem dX9_path_123 : decode cX9_path 123 = .ok (.goto 5, 3) := by decide +kernel
theorem dX9_path_126 : decode cX9_path 126 = .ok (.iload 6, 2) := by decide +kernel
theorem dX9_path_128 : decode cX9_path 128 = .ok (.iadd, 1) := by decide +kernel
theorem dX9_path_129 : decode cX9_path 129 = .ok (.istore_n 3, 1) := by decide +kernel
theorem dX9_path_130 : decode cX9_path 130 = .ok (.iload 7, 2) := by decide +kernel
theorem dX9_path_132 : decode cX9_path 132 = .ok (.ifCond .eq 8, 3) := by decide +kernel
theorem dX9_path_135 : decode cX9_path 135 = .ok (.iload 6, 2) := by decide +kernel
theorem dX9_path_137 : decode cX9_path 137 = .ok (.goto 8, 3) := by decide +kernel
theorem dX9_path_140 : decode cX9_path 140 = .ok (.iload 4, 2) := by decide +kernel
theorem dX9_path_142 : decode cX9_path 142 = .ok (.iload 6, 2) := by decide +kernel
theorem dX9_path_144 : decode cX9_path 144 = .ok (.isub, 1) := by decide +kernel
theorem dX9_path_145 : decode cX9_path 145 = .ok (.istore 4, 2) := by decide +kernel
theorem dX9_path_147 : decode cX9_path 147 = .ok (.goto (-104), 3) := by decide +kernel
theorem dX9_path_150 : decode cX9_path 150 = .ok (.aload_n 0, 1) := by decide +kernel
theorem dX9_path_151 : decode cX9_path 151 = .ok (.iload 5, 2) := by decide +kernel
theorem dX9_path_153 : decode cX9_path 153 = .ok (.invokevirtual 288, 3) := by decide +kernel
theorem dX9_path_156 : decode cX9_path 156 = .ok (.ireturn, 1) := by decide +kernel
theorem dX9_steps_0 : decode cX9_steps 0 = .ok (.iload_n 2, 1) := by decide +kernel
theorem dX9_steps_1 : decode cX9_steps 1 = .ok (.i2l, 1) := by decide +kernel
theorem dX9_steps_2 : decode cX9_steps 2 = .ok (.lconst 0, 1) := by decide +kernel
theorem dX9_steps_3 : decode cX9_steps 3 = .ok (.aload_n 0, 1) := by decide +kernel
theorem dX9_steps_4 : decode cX9_steps 4 = .ok (.invokevirtual 262, 3) := by decide +kernel
theorem dX9_steps_7 : decode cX9_steps 7 = .ok (.i2l, 1) := by decide +kernel
theorem dX9_steps_8 : decode cX9_steps 8 = .ok (.invokestatic 185, 3) := by decide +kernel
theorem dX9_steps_11 : decode cX9_steps 11 = .ok (.ifCond .eq 14, 3) := by decide +kernel
theorem dX9_steps_14 : decode cX9_steps 14 = .ok (.iload_n 1, 1) := by decide +kernel
theorem dX9_steps_15 : decode cX9_steps 15 = .ok (.i2l, 1) := by decide +kernel
theorem dX9_steps_16 : decode cX9_steps 16 = .ok (.lconst 1, 1) := by decide +kernel
theorem dX9_steps_17 : decode cX9_steps 17 = .ok (.iload_n 2, 1) := by decide +kernel
theorem dX9_steps_18 : decode cX9_steps 18 = .ok (.i2l, 1) := by decide +kernel
theorem dX9_steps_19 : decode cX9_steps 19 = .ok (.invokestatic 185, 3) := by decide +kernel
theorem dX9_steps_22 : decode cX9_steps 22 = .ok (.ifCond .ne 6, 3) := by decide +kernel
theorem dX9_steps_25 : decode cX9_steps 25 = .ok (.bipush (-2), 2) := by decide +kernel
theorem dX9_steps_27 : decode cX9_steps 27 = .ok (.ireturn, 1) := by decide +kernel
theorem dX9_steps_28 : decode cX9_steps 28 = .ok (.aload_n 0, 1) := by decide +kernel
theorem dX9_steps_29 : decode cX9_steps 29 = .ok (.iconst 0, 1) := by decide +kernel
theorem dX9_steps_30 : decode cX9_steps 30 = .ok (.putfield 281, 3) := by decide +kernel
theorem dX9_steps_33 : decode cX9_steps 33 = .ok (.iconst 0, 1) := by decide +kernel
theorem dX9_steps_34 : decode cX9_steps 34 = .ok (.istore_n 3, 1) := by decide +kernel
theorem dX9_steps_35 : decode cX9_steps 35 = .ok (.iload_n 1, 1) := by decide +kernel
theorem dX9_steps_36 : decode cX9_steps 36 = .ok (.istore 4, 2) := by decide +kernel
theorem dX9_steps_38 : decode cX9_steps 38 = .ok (.iload_n 2, 1) := by decide +kernel
theorem dX9_steps_39 : decode cX9_steps 39 = .ok (.istore 5, 2) := by decide +kernel
theorem dX9_steps_41 : decode cX9_steps 41 = .ok (.iconst 0, 1) := by decide +kernel
theorem dX9_steps_42 : decode cX9_steps 42 = .ok (.istore 6, 2) := by decide +kernel
theorem dX9_steps_44 : decode cX9_steps 44 = .ok (.iconst 1, 1) := by decide +kernel
theorem dX9_steps_45 : decode cX9_steps 45 = .ok (.istore 7, 2) := by decide +kernel
theorem dX9_steps_47 : decode cX9_steps 47 = .ok (.iload 4, 2) := by decide +kernel
theorem dX9_steps_49 : decode cX9_steps 49 = .ok (.iload 5, 2) := by decide +kernel
theorem dX9_steps_51 : decode cX9_steps 51 = .ok (.if_icmp .ge 136, 3) := by decide +kernel
theorem dX9_steps_54 : decode cX9_steps 54 = .ok (.iload 5, 2) := by decide +kernel
theorem dX9_steps_56 : decode cX9_steps 56 = .ok (.invokestatic 284, 3) := by decide +kernel
theorem dX9_steps_59 : decode cX9_steps 59 = .ok (.istore 8, 2) := by decide +kernel
theorem dX9_steps_61 : decode cX9_steps 61 = .ok (.iload 4, 2) := by decide +kernel
theorem dX9_steps_63 : decode cX9_steps 63 = .ok (.iload 8, 2) := by decide +kernel
theorem dX9_steps_65 : decode cX9_steps 65 = .ok (.if_icmp .gt 7, 3) := by decide +kernel
theorem dX9_steps_68 : decode cX9_steps 68 = .ok (.iconst 1, 1) := by decide +kernel
theorem dX9_steps_69 : decode cX9_steps 69 = .ok (.goto 4, 3) := by decide +kernel
theorem dX9_steps_72 : decode cX9_steps 72 = .ok (.iconst 0, 1) := by decide +kernel
theorem dX9_steps_73 : decode cX9_steps 73 = .ok (.istore 9, 2) := by decide +kernel
theorem dX9_steps_75 : decode cX9_steps 75 = .ok (.aload_n 0, 1) := by decide +kernel
theorem dX9_steps_76 : decode cX9_steps 76 = .ok (.getfield 68, 3) := by decide +kernel
theorem dX9_steps_79 : decode cX9_steps 79 = .ok (.iload 6, 2) := by decide +kernel
theorem dX9_steps_81 : decode cX9_steps 81 = .ok (.iload 9, 2) := by decide +kernel
theorem dX9_steps_83 : decode cX9_steps 83 = .ok (.ifCond .eq 10, 3) := by decide +kernel
theorem dX9_steps_86 : decode cX9_steps 86 = .ok (.iload_n 3, 1) := by decide +kernel
theorem dX9_steps_87 : decode cX9_steps 87 = .ok (.iload 8, 2) := by decide +kernel
theorem dX9_steps_89 : decode cX9_steps 89 = .ok (.iadd, 1) := by decide +kernel
theorem dX9_steps_90 : decode cX9_steps 90 = .ok (.goto 4, 3) := by decide +kernel
theorem dX9_steps_93 : decode cX9_steps 93 = .ok (.iload_n 3, 1) := by decide +kernel
theorem dX9_steps_94 : decode cX9_steps 94 = .ok (.iastore, 1) := by decide +kernel
theorem dX9_steps_95 : decode cX9_steps 95 = .ok (.aload_n 0, 1) := by decide +kernel
theorem dX9_steps_96 : decode cX9_steps 96 = .ok (.getfield 71, 3) := by decide +kernel
theorem dX9_steps_99 : decode cX9_steps 99 = .ok (.iload 6, 2) := by decide +kernel
theorem dX9_steps_101 : decode cX9_steps 101 = .ok (.iload 9, 2) := by decide +kernel
theorem dX9_steps_103 : decode cX9_steps 103 = .ok (.ifCond .eq 11, 3) := by decide +kernel
theorem dX9_steps_106 : decode cX9_steps 106 = .ok (.iload 5, 2) := by decide +kernel
theorem dX9_steps_108 : decode cX9_steps 108 = .ok (.iload 8, 2) := by decide +kernel
theorem dX9_steps_110 : decode cX9_steps 110 = .ok (.isub, 1) := by decide +kernel
theorem dX9_steps_111 : decode cX9_steps 111 = .ok (.goto 5, 3) := by decide +kernel
theorem dX9_steps_114 : decode cX9_steps 114 = .ok (.iload 8, 2) := by decide +kernel
theorem dX9_steps_116 : decode cX9_steps 116 = .ok (.iastore, 1) := by decide +kernel
theorem dX9_steps_117 : decode cX9_steps 117 = .ok (.iinc 6 1, 3) := by decide +kernel
theorem dX9_steps_120 : decode cX9_steps 120 = .ok (.iload_n 3, 1) := by decide +kernel
theorem dX9_steps_121 : decode cX9_steps 121 = .ok (.iload 9, 2) := by decide +kernel
theorem dX9_steps_123 : decode cX9_steps 123 = .ok (.ifCond .eq 7, 3) := by decide +kernel
theorem dX9_steps_126 : decode cX9_steps 126 = .ok (.iconst 0, 1) := by decide +kernel
theorem dX9_steps_127 : decode cX9_steps 127 = .ok (.goto 5, 3) := by decide +kernel
theorem dX9_steps_130 : decode cX9_steps 130 = .ok (.iload 8, 2) := by decide +kernel
theorem dX9_steps_132 : decode cX9_steps 132 = .ok (.iadd, 1) := by decide +kernel
theorem dX9_steps_133 : decode cX9_steps 133 = .ok (.istore_n 3, 1) := by decide +kernel
theorem dX9_steps_134 : decode cX9_steps 134 = .ok (.iload 4, 2) := by decide +kernel
theorem dX9_steps_136 : decode cX9_steps 136 = .ok (.iload 9, 2) := by decide +kernel
theorem dX9_steps_138 : decode cX9_steps 138 = .ok (.ifCond .eq 7, 3) := by decide +kernel
theorem dX9_steps_141 : decode cX9_steps 141 = .ok (.iconst 0, 1) := by decide +kernel
theorem dX9_steps_142 : decode cX9_steps 142 = .ok (.goto 5, 3) := by decide +kernel
theorem dX9_steps_145 : decode cX9_steps 145 = .ok (.iload 8, 2) := by decide +kernel
theorem dX9_steps_147 : decode cX9_steps 147 = .ok (.isub, 1) := by decide +kernel
theorem dX9_steps_148 : decode cX9_steps 148 = .ok (.istore 4, 2) := by decide +kernel
theorem dX9_steps_150 : decode cX9_steps 150 = .ok (.iload 9, 2) := by decide +kernel
theorem dX9_steps_152 : decode cX9_steps 152 = .ok (.ifCond .eq 8, 3) := by decide +kernel
theorem dX9_steps_155 : decode cX9_steps 155 = .ok (.iload 8, 2) := by decide +kernel
theorem dX9_steps_157 : decode cX9_steps 157 = .ok (.goto 8, 3) := by decide +kernel
theorem dX9_steps_160 : decode cX9_steps 160 = .ok (.iload 5, 2) := by decide +kernel
theorem dX9_steps_162 : decode cX9_steps 162 = .ok (.iload 8, 2) := by decide +kernel
theorem dX9_steps_164 : decode cX9_steps 164 = .ok (.isub, 1) := by decide +kernel
theorem dX9_steps_165 : decode cX9_steps 165 = .ok (.istore 5, 2) := by decide +kernel
theorem dX9_steps_167 : decode cX9_steps 167 = .ok (.iload 7, 2) := by decide +kernel
theorem dX9_steps_169 : decode cX9_steps 169 = .ok (.ifCond .eq 12, 3) := by decide +kernel
theorem dX9_steps_172 : decode cX9_steps 172 = .ok (.iload 9, 2) := by decide +kernel
theorem dX9_steps_174 : decode cX9_steps 174 = .ok (.ifCond .eq 7, 3) := by decide +kernel
theorem dX9_steps_177 : decode cX9_steps 177 = .ok (.iconst 1, 1) := by decide +kernel
theorem dX9_steps_178 : decode cX9_steps 178 = .ok (.goto 4, 3) := by decide +kernel
theorem dX9_steps_181 : decode cX9_steps 181 = .ok (.iconst 0, 1) := by decide +kernel
theorem dX9_steps_182 : decode cX9_steps 182 = .ok (.istore 7, 2) := by decide +kernel
theorem dX9_steps_184 : decode cX9_steps 184 = .ok (.goto (-137), 3) := by decide +kernel
theorem dX9_steps_187 : decode cX9_steps 187 = .ok (.iload 7, 2) := by decide +kernel
theorem dX9_steps_189 : decode cX9_steps 189 = .ok (.ifCond .ne 24, 3) := by decide +kernel
theorem dX9_steps_192 : decode cX9_steps 192 = .ok (.aload_n 0, 1) := by decide +kernel
theorem dX9_steps_193 : decode cX9_steps 193 = .ok (.iload_n 3, 1) := by decide +kernel
theorem dX9_steps_194 : decode cX9_steps 194 = .ok (.iload 5, 2) := by decide +kernel
theorem dX9_steps_196 : decode cX9_steps 196 = .ok (.invokevirtual 277, 3) := by decide +kernel
theorem dX9_steps_199 : decode cX9_steps 199 = .ok (.aload_n 0, 1) := by decide +kernel
theorem dX9_steps_200 : decode cX9_steps 200 = .ok (.aload_n 0, 1) := by decide +kernel
theorem dX9_steps_201 : decode cX9_steps 201 = .ok (.getfield 65, 3) := by decide +kernel
theorem dX9_steps_204 : decode cX9_steps 204 = .ok (.iconst 0, 1) := by decide +kernel
theorem dX9_steps_205 : decode cX9_steps 205 = .ok (.invokevirtual 213, 3) := by decide +kernel
theorem dX9_steps_208 : decode cX9_steps 208 = .ok (.aload_n 0, 1) := by decide +kernel
theorem dX9_steps_209 : decode cX9_steps 209 = .ok (.iconst 1, 1) := by decide +kernel
theorem dX9_steps_210 : decode cX9_steps 210 = .ok (.putfield 281, 3) := by decide +kernel
theorem dX9_steps_213 : decode cX9_steps 213 = .ok (.aload_n 0, 1) := by decide +kernel
theorem dX9_steps_214 : decode cX9_steps 214 = .ok (.iload 6, 2) := by decide +kernel
theorem dX9_steps_216 : decode cX9_steps 216 = .ok (.invokevirtual 288, 3) := by decide +kernel
theorem dX9_steps_219 : decode cX9_steps 219 = .ok (.ireturn, 1) := by decide +kernel
theorem dX9_proof_0 : decode cX9_proof 0 = .ok (.iload_n 1, 1) := by decide +kernel
theorem dX9_proof_1 : decode cX9_proof 1 = .ok (.i2l, 1) := by decide +kernel
theorem dX9_proof_2 : decode cX9_proof 2 = .ok (.lconst 0, 1) := by decide +kernel
theorem dX9_proof_3 : decode cX9_proof 3 = .ok (.aload_n 0, 1) := by decide +kernel
theorem dX9_proof_4 : decode cX9_proof 4 = .ok (.getfield 281, 3) := by decide +kernel
theorem dX9_proof_7 : decode cX9_proof 7 = .ok (.iconst 1, 1) := by decide +kernel
theorem dX9_proof_8 : decode cX9_proof 8 = .ok (.isub, 1) := by decide +kernel
theorem dX9_proof_9 : decode cX9_proof 9 = .ok (.i2l, 1) := by decide +kernel
theorem dX9_proof_10 : decode cX9_proof 10 = .ok (.invokestatic 185, 3) := by decide +kernel
theorem dX9_proof_13 : decode cX9_proof 13 = .ok (.ifCond .eq 29, 3) := by decide +kernel
theorem dX9_proof_16 : decode cX9_proof 16 = .ok (.iload_n 2, 1) := by decide +kernel
theorem dX9_proof_17 : decode cX9_proof 17 = .ok (.i2l, 1) := by decide +kernel
theorem dX9_proof_18 : decode cX9_proof 18 = .ok (.lconst 0, 1) := by decide +kernel
theorem dX9_proof_19 : decode cX9_proof 19 = .ok (.ldc2_w 265, 3) := by decide +kernel
theorem dX9_proof_22 : decode cX9_proof 22 = .ok (.invokestatic 185, 3) := by decide +kernel
theorem dX9_proof_25 : decode cX9_proof 25 = .ok (.ifCond .eq 17, 3) := by decide +kernel
theorem dX9_proof_28 : decode cX9_proof 28 = .ok (.aload_n 0, 1) := by decide +kernel
theorem dX9_proof_29 : decode cX9_proof 29 = .ok (.getfield 65, 3) := by decide +kernel
theorem dX9_proof_32 : decode cX9_proof 32 = .ok (.bipush 32, 2) := by decide +kernel
theorem dX9_proof_34 : decode cX9_proof 34 = .ok (.iload_n 1, 1) := by decide +kernel
theorem dX9_proof_35 : decode cX9_proof 35 = .ok (.imul, 1) := by decide +kernel
theorem dX9_proof_36 : decode cX9_proof 36 = .ok (.iload_n 2, 1) := by decide +kernel
theorem dX9_proof_37 : decode cX9_proof 37 = .ok (.iadd, 1) := by decide +kernel
theorem dX9_proof_38 : decode cX9_proof 38 = .ok (.iaload, 1) := by decide +kernel
theorem dX9_proof_39 : decode cX9_proof 39 = .ok (.goto 5, 3) := by decide +kernel
theorem dX9_proof_42 : decode cX9_proof 42 = .ok (.bipush (-2), 2) := by decide +kernel
theorem dX9_proof_44 : decode cX9_proof 44 = .ok (.ireturn, 1) := by decide +kernel
theorem dX9_spoilProof_0 : decode cX9_spoilProof 0 = .ok (.iload_n 1, 1) := by decide +kernel
theorem dX9_spoilProof_1 : decode cX9_spoilProof 1 = .ok (.i2l, 1) := by decide +kernel
theorem dX9_spoilProof_2 : decode cX9_spoilProof 2 = .ok (.lconst 0, 1) := by decide +kernel
theorem dX9_spoilProof_3 : decode cX9_spoilProof 3 = .ok (.aload_n 0, 1) := by decide +kernel
theorem dX9_spoilProof_4 : decode cX9_spoilProof 4 = .ok (.getfield 281, 3) := by decide +kernel
theorem dX9_spoilProof_7 : decode cX9_spoilProof 7 = .ok (.iconst 1, 1) := by decide +kernel
theorem dX9_spoilProof_8 : decode cX9_spoilProof 8 = .ok (.isub, 1) := by decide +kernel
theorem dX9_spoilProof_9 : decode cX9_spoilProof 9 = .ok (.i2l, 1) := by decide +kernel
theorem dX9_spoilProof_10 : decode cX9_spoilProof 10 = .ok (.invokestatic 185, 3) := by decide +kernel
theorem dX9_spoilProof_13 : decode cX9_spoilProof 13 = .ok (.ifCond .eq 27, 3) := by decide +kernel
theorem dX9_spoilProof_16 : decode cX9_spoilProof 16 = .ok (.iload_n 2, 1) := by decide +kernel
theorem dX9_spoilProof_17 : decode cX9_spoilProof 17 = .ok (.i2l, 1) := by decide +kernel
theorem dX9_spoilProof_18 : decode cX9_spoilProof 18 = .ok (.lconst 0, 1) := by decide +kernel
theorem dX9_spoilProof_19 : decode cX9_spoilProof 19 = .ok (.ldc2_w 265, 3) := by decide +kernel
theorem dX9_spoilProof_22 : decode cX9_spoilProof 22 = .ok (.invokestatic 185, 3) := by decide +kernel
theorem dX9_spoilProof_25 : decode cX9_spoilProof 25 = .ok (.ifCond .eq 15, 3) := by decide +kernel
theorem dX9_spoilProof_28 : decode cX9_spoilProof 28 = .ok (.iload_n 3, 1) := by decide +kernel
theorem dX9_spoilProof_29 : decode cX9_spoilProof 29 = .ok (.i2l, 1) := by decide +kernel
theorem dX9_spoilProof_30 : decode cX9_spoilProof 30 = .ok (.lconst 1, 1) := by decide +kernel
theorem dX9_spoilProof_31 : decode cX9_spoilProof 31 = .ok (.ldc2_w 291, 3) := by decide +kernel
theorem dX9_spoilProof_34 : decode cX9_spoilProof 34 = .ok (.invokestatic 185, 3) := by decide +kernel
theorem dX9_spoilProof_37 : decode cX9_spoilProof 37 = .ok (.ifCond .ne 6, 3) := by decide +kernel
theorem dX9_spoilProof_40 : decode cX9_spoilProof 40 = .ok (.bipush (-2), 2) := by decide +kernel
theorem dX9_spoilProof_42 : decode cX9_spoilProof 42 = .ok (.ireturn, 1) := by decide +kernel
theorem dX9_spoilProof_43 : decode cX9_spoilProof 43 = .ok (.aload_n 0, 1) := by decide +kernel
theorem dX9_spoilProof_44 : decode cX9_spoilProof 44 = .ok (.getfield 65, 3) := by decide +kernel
theorem dX9_spoilProof_47 : decode cX9_spoilProof 47 = .ok (.bipush 32, 2) := by decide +kernel
theorem dX9_spoilProof_49 : decode cX9_spoilProof 49 = .ok (.iload_n 1, 1) := by decide +kernel
theorem dX9_spoilProof_50 : decode cX9_spoilProof 50 = .ok (.imul, 1) := by decide +kernel
theorem dX9_spoilProof_51 : decode cX9_spoilProof 51 = .ok (.iload_n 2, 1) := by decide +kernel
theorem dX9_spoilProof_52 : decode cX9_spoilProof 52 = .ok (.iadd, 1) := by decide +kernel
theorem dX9_spoilProof_53 : decode cX9_spoilProof 53 = .ok (.iaload, 1) := by decide +kernel
theorem dX9_spoilProof_54 : decode cX9_spoilProof 54 = .ok (.istore 4, 2) := by decide +kernel
theorem dX9_spoilProof_56 : decode cX9_spoilProof 56 = .ok (.aload_n 0, 1) := by decide +kernel
theorem dX9_spoilProof_57 : decode cX9_spoilProof 57 = .ok (.getfield 65, 3) := by decide +kernel
theorem dX9_spoilProof_60 : decode cX9_spoilProof 60 = .ok (.bipush 32, 2) := by decide +kernel
theorem dX9_spoilProof_62 : decode cX9_spoilProof 62 = .ok (.iload_n 1, 1) := by decide +kernel
theorem dX9_spoilProof_63 : decode cX9_spoilProof 63 = .ok (.imul, 1) := by decide +kernel
theorem dX9_spoilProof_64 : decode cX9_spoilProof 64 = .ok (.iload_n 2, 1) := by decide +kernel
theorem dX9_spoilProof_65 : decode cX9_spoilProof 65 = .ok (.iadd, 1) := by decide +kernel
theorem dX9_spoilProof_66 : decode cX9_spoilProof 66 = .ok (.iload 4, 2) := by decide +kernel
theorem dX9_spoilProof_68 : decode cX9_spoilProof 68 = .ok (.iload_n 3, 1) := by decide +kernel
theorem dX9_spoilProof_69 : decode cX9_spoilProof 69 = .ok (.ixor, 1) := by decide +kernel
theorem dX9_spoilProof_70 : decode cX9_spoilProof 70 = .ok (.iastore, 1) := by decide +kernel
theorem dX9_spoilProof_71 : decode cX9_spoilProof 71 = .ok (.iload 4, 2) := by decide +kernel
theorem dX9_spoilProof_73 : decode cX9_spoilProof 73 = .ok (.ireturn, 1) := by decide +kernel
theorem dX9_cutProof_0 : decode cX9_cutProof 0 = .ok (.iload_n 1, 1) := by decide +kernel
theorem dX9_cutProof_1 : decode cX9_cutProof 1 = .ok (.i2l, 1) := by decide +kernel
theorem dX9_cutProof_2 : decode cX9_cutProof 2 = .ok (.lconst 0, 1) := by decide +kernel
theorem dX9_cutProof_3 : decode cX9_cutProof 3 = .ok (.aload_n 0, 1) := by decide +kernel
theorem dX9_cutProof_4 : decode cX9_cutProof 4 = .ok (.getfield 281, 3) := by decide +kernel
theorem dX9_cutProof_7 : decode cX9_cutProof 7 = .ok (.i2l, 1) := by decide +kernel
theorem dX9_cutProof_8 : decode cX9_cutProof 8 = .ok (.invokestatic 185, 3) := by decide +kernel
theorem dX9_cutProof_11 : decode cX9_cutProof 11 = .ok (.ifCond .ne 6, 3) := by decide +kernel
theorem dX9_cutProof_14 : decode cX9_cutProof 14 = .ok (.bipush (-2), 2) := by decide +kernel
theorem dX9_cutProof_16 : decode cX9_cutProof 16 = .ok (.ireturn, 1) := by decide +kernel
theorem dX9_cutProof_17 : decode cX9_cutProof 17 = .ok (.aload_n 0, 1) := by decide +kernel
theorem dX9_cutProof_18 : decode cX9_cutProof 18 = .ok (.getfield 281, 3) := by decide +kernel
theorem dX9_cutProof_21 : decode cX9_cutProof 21 = .ok (.iload_n 1, 1) := by decide +kernel
theorem dX9_cutProof_22 : decode cX9_cutProof 22 = .ok (.isub, 1) := by decide +kernel
theorem dX9_cutProof_23 : decode cX9_cutProof 23 = .ok (.istore_n 2, 1) := by decide +kernel
theorem dX9_cutProof_24 : decode cX9_cutProof 24 = .ok (.aload_n 0, 1) := by decide +kernel
theorem dX9_cutProof_25 : decode cX9_cutProof 25 = .ok (.iload_n 1, 1) := by decide +kernel
theorem dX9_cutProof_26 : decode cX9_cutProof 26 = .ok (.putfield 281, 3) := by decide +kernel
theorem dX9_cutProof_29 : decode cX9_cutProof 29 = .ok (.iload_n 2, 1) := by decide +kernel
theorem dX9_cutProof_30 : decode cX9_cutProof 30 = .ok (.ireturn, 1) := by decide +kernel
theorem dX9_keep_0 : decode cX9_keep 0 = .ok (.iload_n 1, 1) := by decide +kernel
theorem dX9_keep_1 : decode cX9_keep 1 = .ok (.i2l, 1) := by decide +kernel
theorem dX9_keep_2 : decode cX9_keep 2 = .ok (.lconst 0, 1) := by decide +kernel
theorem dX9_keep_3 : decode cX9_keep 3 = .ok (.ldc2_w 234, 3) := by decide +kernel
theorem dX9_keep_6 : decode cX9_keep 6 = .ok (.invokestatic 185, 3) := by decide +kernel
theorem dX9_keep_9 : decode cX9_keep 9 = .ok (.ifCond .eq 17, 3) := by decide +kernel
theorem dX9_keep_12 : decode cX9_keep 12 = .ok (.iload_n 2, 1) := by decide +kernel
theorem dX9_keep_13 : decode cX9_keep 13 = .ok (.i2l, 1) := by decide +kernel
theorem dX9_keep_14 : decode cX9_keep 14 = .ok (.lconst 0, 1) := by decide +kernel
theorem dX9_keep_15 : decode cX9_keep 15 = .ok (.aload_n 0, 1) := by decide +kernel
theorem dX9_keep_16 : decode cX9_keep 16 = .ok (.invokevirtual 262, 3) := by decide +kernel
theorem dX9_keep_19 : decode cX9_keep 19 = .ok (.i2l, 1) := by decide +kernel
theorem dX9_keep_20 : decode cX9_keep 20 = .ok (.invokestatic 185, 3) := by decide +kernel
theorem dX9_keep_23 : decode cX9_keep 23 = .ok (.ifCond .ne 6, 3) := by decide +kernel
theorem dX9_keep_26 : decode cX9_keep 26 = .ok (.bipush (-2), 2) := by decide +kernel
theorem dX9_keep_28 : decode cX9_keep 28 = .ok (.ireturn, 1) := by decide +kernel
theorem dX9_keep_29 : decode cX9_keep 29 = .ok (.aload_n 0, 1) := by decide +kernel
theorem dX9_keep_30 : decode cX9_keep 30 = .ok (.iconst 0, 1) := by decide +kernel
theorem dX9_keep_31 : decode cX9_keep 31 = .ok (.iload_n 2, 1) := by decide +kernel
theorem dX9_keep_32 : decode cX9_keep 32 = .ok (.invokevirtual 277, 3) := by decide +kernel
theorem dX9_keep_35 : decode cX9_keep 35 = .ok (.aload_n 0, 1) := by decide +kernel
theorem dX9_keep_36 : decode cX9_keep 36 = .ok (.aload_n 0, 1) := by decide +kernel
theorem dX9_keep_37 : decode cX9_keep 37 = .ok (.getfield 74, 3) := by decide +kernel
theorem dX9_keep_40 : decode cX9_keep 40 = .ok (.bipush 32, 2) := by decide +kernel
theorem dX9_keep_42 : decode cX9_keep 42 = .ok (.iload_n 1, 1) := by decide +kernel
theorem dX9_keep_43 : decode cX9_keep 43 = .ok (.imul, 1) := by decide +kernel
theorem dX9_keep_44 : decode cX9_keep 44 = .ok (.invokevirtual 213, 3) := by decide +kernel
theorem dX9_keep_47 : decode cX9_keep 47 = .ok (.iconst 1, 1) := by decide +kernel
theorem dX9_keep_48 : decode cX9_keep 48 = .ok (.ireturn, 1) := by decide +kernel
theorem dX9_kept_0 : decode cX9_kept 0 = .ok (.iload_n 1, 1) := by decide +kernel
theorem dX9_kept_1 : decode cX9_kept 1 = .ok (.i2l, 1) := by decide +kernel
theorem dX9_kept_2 : decode cX9_kept 2 = .ok (.lconst 0, 1) := by decide +kernel
theorem dX9_kept_3 : decode cX9_kept 3 = .ok (.ldc2_w 234, 3) := by decide +kernel
theorem dX9_kept_6 : decode cX9_kept 6 = .ok (.invokestatic 185, 3) := by decide +kernel
theorem dX9_kept_9 : decode cX9_kept 9 = .ok (.ifCond .eq 29, 3) := by decide +kernel
theorem dX9_kept_12 : decode cX9_kept 12 = .ok (.iload_n 2, 1) := by decide +kernel
theorem dX9_kept_13 : decode cX9_kept 13 = .ok (.i2l, 1) := by decide +kernel
theorem dX9_kept_14 : decode cX9_kept 14 = .ok (.lconst 0, 1) := by decide +kernel
theorem dX9_kept_15 : decode cX9_kept 15 = .ok (.ldc2_w 265, 3) := by decide +kernel
theorem dX9_kept_18 : decode cX9_kept 18 = .ok (.invokestatic 185, 3) := by decide +kernel
theorem dX9_kept_21 : decode cX9_kept 21 = .ok (.ifCond .eq 17, 3) := by decide +kernel
theorem dX9_kept_24 : decode cX9_kept 24 = .ok (.aload_n 0, 1) := by decide +kernel
theorem dX9_kept_25 : decode cX9_kept 25 = .ok (.getfield 74, 3) := by decide +kernel
theorem dX9_kept_28 : decode cX9_kept 28 = .ok (.bipush 32, 2) := by decide +kernel
theorem dX9_kept_30 : decode cX9_kept 30 = .ok (.iload_n 1, 1) := by decide +kernel
theorem dX9_kept_31 : decode cX9_kept 31 = .ok (.imul, 1) := by decide +kernel
theorem dX9_kept_32 : decode cX9_kept 32 = .ok (.iload_n 2, 1) := by decide +kernel
theorem dX9_kept_33 : decode cX9_kept 33 = .ok (.iadd, 1) := by decide +kernel
theorem dX9_kept_34 : decode cX9_kept 34 = .ok (.iaload, 1) := by decide +kernel
theorem dX9_kept_35 : decode cX9_kept 35 = .ok (.goto 5, 3) := by decide +kernel
theorem dX9_kept_38 : decode cX9_kept 38 = .ok (.bipush (-2), 2) := by decide +kernel
theorem dX9_kept_40 : decode cX9_kept 40 = .ok (.ireturn, 1) := by decide +kernel
theorem dX9_spoilKept_0 : decode cX9_spoilKept 0 = .ok (.iload_n 1, 1) := by decide +kernel
theorem dX9_spoilKept_1 : decode cX9_spoilKept 1 = .ok (.i2l, 1) := by decide +kernel
theorem dX9_spoilKept_2 : decode cX9_spoilKept 2 = .ok (.lconst 0, 1) := by decide +kernel
theorem dX9_spoilKept_3 : decode cX9_spoilKept 3 = .ok (.ldc2_w 234, 3) := by decide +kernel
theorem dX9_spoilKept_6 : decode cX9_spoilKept 6 = .ok (.invokestatic 185, 3) := by decide +kernel
theorem dX9_spoilKept_9 : decode cX9_spoilKept 9 = .ok (.ifCond .eq 27, 3) := by decide +kernel
theorem dX9_spoilKept_12 : decode cX9_spoilKept 12 = .ok (.iload_n 2, 1) := by decide +kernel
theorem dX9_spoilKept_13 : decode cX9_spoilKept 13 = .ok (.i2l, 1) := by decide +kernel
theorem dX9_spoilKept_14 : decode cX9_spoilKept 14 = .ok (.lconst 0, 1) := by decide +kernel
theorem dX9_spoilKept_15 : decode cX9_spoilKept 15 = .ok (.ldc2_w 265, 3) := by decide +kernel
theorem dX9_spoilKept_18 : decode cX9_spoilKept 18 = .ok (.invokestatic 185, 3) := by decide +kernel
theorem dX9_spoilKept_21 : decode cX9_spoilKept 21 = .ok (.ifCond .eq 15, 3) := by decide +kernel
theorem dX9_spoilKept_24 : decode cX9_spoilKept 24 = .ok (.iload_n 3, 1) := by decide +kernel
theorem dX9_spoilKept_25 : decode cX9_spoilKept 25 = .ok (.i2l, 1) := by decide +kernel
theorem dX9_spoilKept_26 : decode cX9_spoilKept 26 = .ok (.lconst 1, 1) := by decide +kernel
theorem dX9_spoilKept_27 : decode cX9_spoilKept 27 = .ok (.ldc2_w 291, 3) := by decide +kernel
theorem dX9_spoilKept_30 : decode cX9_spoilKept 30 = .ok (.invokestatic 185, 3) := by decide +kernel
theorem dX9_spoilKept_33 : decode cX9_spoilKept 33 = .ok (.ifCond .ne 6, 3) := by decide +kernel
theorem dX9_spoilKept_36 : decode cX9_spoilKept 36 = .ok (.bipush (-2), 2) := by decide +kernel
theorem dX9_spoilKept_38 : decode cX9_spoilKept 38 = .ok (.ireturn, 1) := by decide +kernel
theorem dX9_spoilKept_39 : decode cX9_spoilKept 39 = .ok (.aload_n 0, 1) := by decide +kernel
theorem dX9_spoilKept_40 : decode cX9_spoilKept 40 = .ok (.getfield 74, 3) := by decide +kernel
theorem dX9_spoilKept_43 : decode cX9_spoilKept 43 = .ok (.bipush 32, 2) := by decide +kernel
theorem dX9_spoilKept_45 : decode cX9_spoilKept 45 = .ok (.iload_n 1, 1) := by decide +kernel
theorem dX9_spoilKept_46 : decode cX9_spoilKept 46 = .ok (.imul, 1) := by decide +kernel
theorem dX9_spoilKept_47 : decode cX9_spoilKept 47 = .ok (.iload_n 2, 1) := by decide +kernel
theorem dX9_spoilKept_48 : decode cX9_spoilKept 48 = .ok (.iadd, 1) := by decide +kernel
theorem dX9_spoilKept_49 : decode cX9_spoilKept 49 = .ok (.iaload, 1) := by decide +kernel
theorem dX9_spoilKept_50 : decode cX9_spoilKept 50 = .ok (.istore 4, 2) := by decide +kernel
theorem dX9_spoilKept_52 : decode cX9_spoilKept 52 = .ok (.aload_n 0, 1) := by decide +kernel
theorem dX9_spoilKept_53 : decode cX9_spoilKept 53 = .ok (.getfield 74, 3) := by decide +kernel
theorem dX9_spoilKept_56 : decode cX9_spoilKept 56 = .ok (.bipush 32, 2) := by decide +kernel
theorem dX9_spoilKept_58 : decode cX9_spoilKept 58 = .ok (.iload_n 1, 1) := by decide +kernel
theorem dX9_spoilKept_59 : decode cX9_spoilKept 59 = .ok (.imul, 1) := by decide +kernel
theorem dX9_spoilKept_60 : decode cX9_spoilKept 60 = .ok (.iload_n 2, 1) := by decide +kernel
theorem dX9_spoilKept_61 : decode cX9_spoilKept 61 = .ok (.iadd, 1) := by decide +kernel
theorem dX9_spoilKept_62 : decode cX9_spoilKept 62 = .ok (.iload 4, 2) := by decide +kernel
theorem dX9_spoilKept_64 : decode cX9_spoilKept 64 = .ok (.iload_n 3, 1) := by decide +kernel
theorem dX9_spoilKept_65 : decode cX9_spoilKept 65 = .ok (.ixor, 1) := by decide +kernel
theorem dX9_spoilKept_66 : decode cX9_spoilKept 66 = .ok (.iastore, 1) := by decide +kernel
theorem dX9_spoilKept_67 : decode cX9_spoilKept 67 = .ok (.iload 4, 2) := by decide +kernel
theorem dX9_spoilKept_69 : decode cX9_spoilKept 69 = .ok (.ireturn, 1) := by decide +kernel
theorem dX9_isLike_0 : decode cX9_isLike 0 = .ok (.iconst 1, 1) := by decide +kernel
theorem dX9_isLike_1 : decode cX9_isLike 1 = .ok (.istore 4, 2) := by decide +kernel
theorem dX9_isLike_3 : decode cX9_isLike 3 = .ok (.iconst 0, 1) := by decide +kernel
theorem dX9_isLike_4 : decode cX9_isLike 4 = .ok (.istore 5, 2) := by decide +kernel
theorem dX9_isLike_6 : decode cX9_isLike 6 = .ok (.iload 5, 2) := by decide +kernel
theorem dX9_isLike_8 : decode cX9_isLike 8 = .ok (.bipush 32, 2) := by decide +kernel
theorem dX9_isLike_10 : decode cX9_isLike 10 = .ok (.if_icmp .ge 34, 3) := by decide +kernel
theorem dX9_isLike_13 : decode cX9_isLike 13 = .ok (.iload 4, 2) := by decide +kernel
theorem dX9_isLike_15 : decode cX9_isLike 15 = .ok (.aload_n 0, 1) := by decide +kernel
theorem dX9_isLike_16 : decode cX9_isLike 16 = .ok (.iload_n 1, 1) := by decide +kernel
theorem dX9_isLike_17 : decode cX9_isLike 17 = .ok (.iload 5, 2) := by decide +kernel
theorem dX9_isLike_19 : decode cX9_isLike 19 = .ok (.iadd, 1) := by decide +kernel
theorem dX9_isLike_20 : decode cX9_isLike 20 = .ok (.iaload, 1) := by decide +kernel
theorem dX9_isLike_21 : decode cX9_isLike 21 = .ok (.aload_n 2, 1) := by decide +kernel
theorem dX9_isLike_22 : decode cX9_isLike 22 = .ok (.iload_n 3, 1) := by decide +kernel
theorem dX9_isLike_23 : decode cX9_isLike 23 = .ok (.iload 5, 2) := by decide +kernel
theorem dX9_isLike_25 : decode cX9_isLike 25 = .ok (.iadd, 1) := by decide +kernel
theorem dX9_isLike_26 : decode cX9_isLike 26 = .ok (.iaload, 1) := by decide +kernel
theorem dX9_isLike_27 : decode cX9_isLike 27 = .ok (.if_icmp .ne 7, 3) := by decide +kernel
theorem dX9_isLike_30 : decode cX9_isLike 30 = .ok (.iconst 1, 1) := by decide +kernel
theorem dX9_isLike_31 : decode cX9_isLike 31 = .ok (.goto 4, 3) := by decide +kernel
theorem dX9_isLike_34 : decode cX9_isLike 34 = .ok (.iconst 0, 1) := by decide +kernel
theorem dX9_isLike_35 : decode cX9_isLike 35 = .ok (.iand, 1) := by decide +kernel
theorem dX9_isLike_36 : decode cX9_isLike 36 = .ok (.istore 4, 2) := by decide +kernel
theorem dX9_isLike_38 : decode cX9_isLike 38 = .ok (.iinc 5 1, 3) := by decide +kernel
theorem dX9_isLike_41 : decode cX9_isLike 41 = .ok (.goto (-35), 3) := by decide +kernel
theorem dX9_isLike_44 : decode cX9_isLike 44 = .ok (.iload 4, 2) := by decide +kernel
theorem dX9_isLike_46 : decode cX9_isLike 46 = .ok (.ireturn, 1) := by decide +kernel
theorem dX9_judgePath_0 : decode cX9_judgePath 0 = .ok (.iload_n 1, 1) := by decide +kernel
theorem dX9_judgePath_1 : decode cX9_judgePath 1 = .ok (.i2l, 1) := by decide +kernel
theorem dX9_judgePath_2 : decode cX9_judgePath 2 = .ok (.lconst 0, 1) := by decide +kernel
theorem dX9_judgePath_3 : decode cX9_judgePath 3 = .ok (.ldc2_w 293, 3) := by decide +kernel
theorem dX9_judgePath_6 : decode cX9_judgePath 6 = .ok (.invokestatic 185, 3) := by decide +kernel
theorem dX9_judgePath_9 : decode cX9_judgePath 9 = .ok (.ifCond .eq 44, 3) := by decide +kernel
theorem dX9_judgePath_12 : decode cX9_judgePath 12 = .ok (.iload_n 2, 1) := by decide +kernel
theorem dX9_judgePath_13 : decode cX9_judgePath 13 = .ok (.i2l, 1) := by decide +kernel
theorem dX9_judgePath_14 : decode cX9_judgePath 14 = .ok (.lconst 0, 1) := by decide +kernel
theorem dX9_judgePath_15 : decode cX9_judgePath 15 = .ok (.ldc2_w 293, 3) := by decide +kernel
theorem dX9_judgePath_18 : decode cX9_judgePath 18 = .ok (.invokestatic 185, 3) := by decide +kernel
theorem dX9_judgePath_21 : decode cX9_judgePath 21 = .ok (.ifCond .eq 32, 3) := by decide +kernel
theorem dX9_judgePath_24 : decode cX9_judgePath 24 = .ok (.iload_n 3, 1) := by decide +kernel
theorem dX9_judgePath_25 : decode cX9_judgePath 25 = .ok (.i2l, 1) := by decide +kernel
theorem dX9_judgePath_26 : decode cX9_judgePath 26 = .ok (.lconst 0, 1) := by decide +kernel
theorem dX9_judgePath_27 : decode cX9_judgePath 27 = .ok (.aload_n 0, 1) := by decide +kernel
theorem dX9_judgePath_28 : decode cX9_judgePath 28 = .ok (.invokevirtual 262, 3) := by decide +kernel
theorem dX9_judgePath_31 : decode cX9_judgePath 31 = .ok (.iconst 1, 1) := by decide +kernel
theorem dX9_judgePath_32 : decode cX9_judgePath 32 = .ok (.isub, 1) := by decide +kernel
theorem dX9_judgePath_33 : decode cX9_judgePath 33 = .ok (.i2l, 1) := by decide +kernel
theorem dX9_judgePath_34 : decode cX9_judgePath 34 = .ok (.invokestatic 185, 3) := by decide +kernel
theorem dX9_judgePath_37 : decode cX9_judgePath 37 = .ok (.ifCond .eq 16, 3) := by decide +kernel
theorem dX9_judgePath_40 : decode cX9_judgePath 40 = .ok (.iload 4, 2) := by decide +kernel
theorem dX9_judgePath_42 : decode cX9_judgePath 42 = .ok (.i2l, 1) := by decide +kernel
theorem dX9_judgePath_43 : decode cX9_judgePath 43 = .ok (.lconst 0, 1) := by decide +kernel
theorem dX9_judgePath_44 : decode cX9_judgePath 44 = .ok (.ldc2_w 234, 3) := by decide +kernel
theorem dX9_judgePath_47 : decode cX9_judgePath 47 = .ok (.invokestatic 185, 3) := by decide +kernel
theorem dX9_judgePath_50 : decode cX9_judgePath 50 = .ok (.ifCond .ne 6, 3) := by decide +kernel
theorem dX9_judgePath_53 : decode cX9_judgePath 53 = .ok (.bipush (-2), 2) := by decide +kernel
theorem dX9_judgePath_55 : decode cX9_judgePath 55 = .ok (.ireturn, 1) := by decide +kernel
theorem dX9_judgePath_56 : decode cX9_judgePath 56 = .ok (.iload_n 1, 1) := by decide +kernel
theorem dX9_judgePath_57 : decode cX9_judgePath 57 = .ok (.iload_n 2, 1) := by decide +kernel
theorem dX9_judgePath_58 : decode cX9_judgePath 58 = .ok (.if_icmp .lt 5, 3) := by decide +kernel
theorem dX9_judgePath_61 : decode cX9_judgePath 61 = .ok (.iconst 0, 1) := by decide +kernel
theorem dX9_judgePath_62 : decode cX9_judgePath 62 = .ok (.ireturn, 1) := by decide +kernel
theorem dX9_judgePath_63 : decode cX9_judgePath 63 = .ok (.iload_n 1, 1) := by decide +kernel
theorem dX9_judgePath_64 : decode cX9_judgePath 64 = .ok (.istore 5, 2) := by decide +kernel
theorem dX9_judgePath_66 : decode cX9_judgePath 66 = .ok (.iload_n 2, 1) := by decide +kernel
theorem dX9_judgePath_67 : decode cX9_judgePath 67 = .ok (.iconst 1, 1) := by decide +kernel
theorem dX9_judgePath_68 : decode cX9_judgePath 68 = .ok (.isub, 1) := by decide +kernel
theorem dX9_judgePath_69 : decode cX9_judgePath 69 = .ok (.istore 6, 2) := by decide +kernel
theorem dX9_judgePath_71 : decode cX9_judgePath 71 = .ok (.aload_n 0, 1) := by decide +kernel
theorem dX9_judgePath_72 : decode cX9_judgePath 72 = .ok (.iload_n 3, 1) := by decide +kernel
theorem dX9_judgePath_73 : decode cX9_judgePath 73 = .ok (.invokevirtual 267, 3) := by decide +kernel
theorem dX9_judgePath_76 : decode cX9_judgePath 76 = .ok (.aload_n 0, 1) := by decide +kernel
theorem dX9_judgePath_77 : decode cX9_judgePath 77 = .ok (.aload_n 0, 1) := by decide +kernel
theorem dX9_judgePath_78 : decode cX9_judgePath 78 = .ok (.getfield 77, 3) := by decide +kernel
theorem dX9_judgePath_81 : decode cX9_judgePath 81 = .ok (.iconst 0, 1) := by decide +kernel
theorem dX9_judgePath_82 : decode cX9_judgePath 82 = .ok (.invokevirtual 213, 3) := by decide +kernel
theorem dX9_judgePath_85 : decode cX9_judgePath 85 = .ok (.iconst 0, 1) := by decide +kernel
theorem dX9_judgePath_86 : decode cX9_judgePath 86 = .ok (.istore 7, 2) := by decide +kernel
theorem dX9_judgePath_88 : decode cX9_judgePath 88 = .ok (.iload 7, 2) := by decide +kernel
theorem dX9_judgePath_90 : decode cX9_judgePath 90 = .ok (.aload_n 0, 1) := by decide +kernel
theorem dX9_judgePath_91 : decode cX9_judgePath 91 = .ok (.getfield 281, 3) := by decide +kernel
theorem dX9_judgePath_94 : decode cX9_judgePath 94 = .ok (.if_icmp .ge 115, 3) := by decide +kernel
theorem dX9_judgePath_97 : decode cX9_judgePath 97 = .ok (.iload 6, 2) := by decide +kernel
theorem dX9_judgePath_99 : decode cX9_judgePath 99 = .ok (.ifCond .ne 5, 3) := by decide +kernel
theorem dX9_judgePath_102 : decode cX9_judgePath 102 = .ok (.iconst 0, 1) := by decide +kernel
theorem dX9_judgePath_103 : decode cX9_judgePath 103 = .ok (.ireturn, 1) := by decide +kernel
theorem dX9_judgePath_104 : decode cX9_judgePath 104 = .ok (.iload 5, 2) := by decide +kernel
theorem dX9_judgePath_106 : decode cX9_judgePath 106 = .ok (.iconst 2, 1) := by decide +kernel
theorem dX9_judgePath_107 : decode cX9_judgePath 107 = .ok (.irem, 1) := by decide +kernel
theorem dX9_judgePath_108 : decode cX9_judgePath 108 = .ok (.iconst 1, 1) := by decide +kernel
theorem dX9_judgePath_109 : decode cX9_judgePath 109 = .ok (.if_icmp .eq 10, 3) := by decide +kernel
theorem dX9_judgePath_112 : decode cX9_judgePath 112 = .ok (.iload 5, 2) := by decide +kernel
theorem dX9_judgePath_114 : decode cX9_judgePath 114 = .ok (.iload 6, 2) := by decide +kernel
theorem dX9_judgePath_116 : decode cX9_judgePath 116 = .ok (.if_icmp .ne 48, 3) := by decide +kernel
theorem dX9_judgePath_119 : decode cX9_judgePath 119 = .ok (.aload_n 0, 1) := by decide +kernel
theorem dX9_judgePath_120 : decode cX9_judgePath 120 = .ok (.aload_n 0, 1) := by decide +kernel
theorem dX9_judgePath_121 : decode cX9_judgePath 121 = .ok (.getfield 65, 3) := by decide +kernel
theorem dX9_judgePath_124 : decode cX9_judgePath 124 = .ok (.bipush 32, 2) := by decide +kernel
theorem dX9_judgePath_126 : decode cX9_judgePath 126 = .ok (.iload 7, 2) := by decide +kernel
theorem dX9_judgePath_128 : decode cX9_judgePath 128 = .ok (.imul, 1) := by decide +kernel
theorem dX9_judgePath_129 : decode cX9_judgePath 129 = .ok (.aload_n 0, 1) := by decide +kernel
theorem dX9_judgePath_130 : decode cX9_judgePath 130 = .ok (.getfield 77, 3) := by decide +kernel
theorem dX9_judgePath_133 : decode cX9_judgePath 133 = .ok (.iconst 0, 1) := by decide +kernel
theorem dX9_judgePath_134 : decode cX9_judgePath 134 = .ok (.invokevirtual 273, 3) := by decide +kernel
theorem dX9_judgePath_137 : decode cX9_judgePath 137 = .ok (.iload 5, 2) := by decide +kernel
theorem dX9_judgePath_139 : decode cX9_judgePath 139 = .ok (.iconst 2, 1) := by decide +kernel
theorem dX9_judgePath_140 : decode cX9_judgePath 140 = .ok (.irem, 1) := by decide +kernel
theorem dX9_judgePath_141 : decode cX9_judgePath 141 = .ok (.ifCond .ne 41, 3) := by decide +kernel
theorem dX9_judgePath_144 : decode cX9_judgePath 144 = .ok (.iload 5, 2) := by decide +kernel
theorem dX9_judgePath_146 : decode cX9_judgePath 146 = .ok (.ifCond .eq 36, 3) := by decide +kernel
theorem dX9_judgePath_149 : decode cX9_judgePath 149 = .ok (.iload 5, 2) := by decide +kernel
theorem dX9_judgePath_151 : decode cX9_judgePath 151 = .ok (.iconst 2, 1) := by decide +kernel
theorem dX9_judgePath_152 : decode cX9_judgePath 152 = .ok (.idiv, 1) := by decide +kernel
theorem dX9_judgePath_153 : decode cX9_judgePath 153 = .ok (.istore 5, 2) := by decide +kernel
theorem dX9_judgePath_155 : decode cX9_judgePath 155 = .ok (.iload 6, 2) := by decide +kernel
theorem dX9_judgePath_157 : decode cX9_judgePath 157 = .ok (.iconst 2, 1) := by decide +kernel
theorem dX9_judgePath_158 : decode cX9_judgePath 158 = .ok (.idiv, 1) := by decide +kernel
theorem dX9_judgePath_159 : decode cX9_judgePath 159 = .ok (.istore 6, 2) := by decide +kernel
theorem dX9_judgePath_161 : decode cX9_judgePath 161 = .ok (.goto (-24), 3) := by decide +kernel
theorem dX9_judgePath_164 : decode cX9_judgePath 164 = .ok (.aload_n 0, 1) := by decide +kernel
theorem dX9_judgePath_165 : decode cX9_judgePath 165 = .ok (.aload_n 0, 1) := by decide +kernel
theorem dX9_judgePath_166 : decode cX9_judgePath 166 = .ok (.getfield 77, 3) := by decide +kernel
theorem dX9_judgePath_169 : decode cX9_judgePath 169 = .ok (.iconst 0, 1) := by decide +kernel
theorem dX9_judgePath_170 : decode cX9_judgePath 170 = .ok (.aload_n 0, 1) := by decide +kernel
theorem dX9_judgePath_171 : decode cX9_judgePath 171 = .ok (.getfield 65, 3) := by decide +kernel
theorem dX9_judgePath_174 : decode cX9_judgePath 174 = .ok (.bipush 32, 2) := by decide +kernel
theorem dX9_judgePath_176 : decode cX9_judgePath 176 = .ok (.iload 7, 2) := by decide +kernel
theorem dX9_judgePath_178 : decode cX9_judgePath 178 = .ok (.imul, 1) := by decide +kernel
theorem dX9_judgePath_179 : decode cX9_judgePath 179 = .ok (.invokevirtual 273, 3) := by decide +kernel
theorem dX9_judgePath_182 : decode cX9_judgePath 182 = .ok (.aload_n 0, 1) := by decide +kernel
theorem dX9_judgePath_183 : decode cX9_judgePath 183 = .ok (.aload_n 0, 1) := by decide +kernel
theorem dX9_judgePath_184 : decode cX9_judgePath 184 = .ok (.getfield 77, 3) := by decide +kernel
theorem dX9_judgePath_187 : decode cX9_judgePath 187 = .ok (.iconst 0, 1) := by decide +kernel
theorem dX9_judgePath_188 : decode cX9_judgePath 188 = .ok (.invokevirtual 213, 3) := by decide +kernel
theorem dX9_judgePath_191 : decode cX9_judgePath 191 = .ok (.iload 5, 2) := by decide +kernel
theorem dX9_judgePath_193 : decode cX9_judgePath 193 = .ok (.iconst 2, 1) := by decide +kernel
theorem dX9_judgePath_194 : decode cX9_judgePath 194 = .ok (.idiv, 1) := by decide +kernel
theorem dX9_judgePath_195 : decode cX9_judgePath 195 = .ok (.istore 5, 2) := by decide +kernel
theorem dX9_judgePath_197 : decode cX9_judgePath 197 = .ok (.iload 6, 2) := by decide +kernel
theorem dX9_judgePath_199 : decode cX9_judgePath 199 = .ok (.iconst 2, 1) := by decide +kernel
theorem dX9_judgePath_200 : decode cX9_judgePath 200 = .ok (.idiv, 1) := by decide +kernel
theorem dX9_judgePath_201 : decode cX9_judgePath 201 = .ok (.istore 6, 2) := by decide +kernel
theorem dX9_judgePath_203 : decode cX9_judgePath 203 = .ok (.iinc 7 1, 3) := by decide +kernel
theorem dX9_judgePath_206 : decode cX9_judgePath 206 = .ok (.goto (-118), 3) := by decide +kernel
theorem dX9_judgePath_209 : decode cX9_judgePath 209 = .ok (.iload 6, 2) := by decide +kernel
theorem dX9_judgePath_211 : decode cX9_judgePath 211 = .ok (.ifCond .ne 27, 3) := by decide +kernel
theorem dX9_judgePath_214 : decode cX9_judgePath 214 = .ok (.aload_n 0, 1) := by decide +kernel
theorem dX9_judgePath_215 : decode cX9_judgePath 215 = .ok (.getfield 77, 3) := by decide +kernel
theorem dX9_judgePath_218 : decode cX9_judgePath 218 = .ok (.iconst 0, 1) := by decide +kernel
theorem dX9_judgePath_219 : decode cX9_judgePath 219 = .ok (.aload_n 0, 1) := by decide +kernel
theorem dX9_judgePath_220 : decode cX9_judgePath 220 = .ok (.getfield 74, 3) := by decide +kernel
theorem dX9_judgePath_223 : decode cX9_judgePath 223 = .ok (.bipush 32, 2) := by decide +kernel
theorem dX9_judgePath_225 : decode cX9_judgePath 225 = .ok (.iload 4, 2) := by decide +kernel
theorem dX9_judgePath_227 : decode cX9_judgePath 227 = .ok (.imul, 1) := by decide +kernel
theorem dX9_judgePath_228 : decode cX9_judgePath 228 = .ok (.invokestatic 295, 3) := by decide +kernel
theorem dX9_judgePath_231 : decode cX9_judgePath 231 = .ok (.ifCond .eq 7, 3) := by decide +kernel
theorem dX9_judgePath_234 : decode cX9_judgePath 234 = .ok (.iconst 1, 1) := by decide +kernel
theorem dX9_judgePath_235 : decode cX9_judgePath 235 = .ok (.goto 4, 3) := by decide +kernel
theorem dX9_judgePath_238 : decode cX9_judgePath 238 = .ok (.iconst 0, 1) := by decide +kernel
theorem dX9_judgePath_239 : decode cX9_judgePath 239 = .ok (.ireturn, 1) := by decide +kernel
theorem dX9_judgeSteps_0 : decode cX9_judgeSteps 0 = .ok (.iload_n 1, 1) := by decide +kernel
theorem dX9_judgeSteps_1 : decode cX9_judgeSteps 1 = .ok (.i2l, 1) := by decide +kernel
theorem dX9_judgeSteps_2 : decode cX9_judgeSteps 2 = .ok (.lconst 0, 1) := by decide +kernel
theorem dX9_judgeSteps_3 : decode cX9_judgeSteps 3 = .ok (.ldc2_w 293, 3) := by decide +kernel
theorem dX9_judgeSteps_6 : decode cX9_judgeSteps 6 = .ok (.invokestatic 185, 3) := by decide +kernel
theorem dX9_judgeSteps_9 : decode cX9_judgeSteps 9 = .ok (.ifCond .eq 40, 3) := by decide +kernel
theorem dX9_judgeSteps_12 : decode cX9_judgeSteps 12 = .ok (.iload_n 2, 1) := by decide +kernel
theorem dX9_judgeSteps_13 : decode cX9_judgeSteps 13 = .ok (.i2l, 1) := by decide +kernel
theorem dX9_judgeSteps_14 : decode cX9_judgeSteps 14 = .ok (.lconst 0, 1) := by decide +kernel
theorem dX9_judgeSteps_15 : decode cX9_judgeSteps 15 = .ok (.ldc2_w 293, 3) := by decide +kernel
theorem dX9_judgeSteps_18 : decode cX9_judgeSteps 18 = .ok (.invokestatic 185, 3) := by decide +kernel
theorem dX9_judgeSteps_21 : decode cX9_judgeSteps 21 = .ok (.ifCond .eq 28, 3) := by decide +kernel
theorem dX9_judgeSteps_24 : decode cX9_judgeSteps 24 = .ok (.iload_n 3, 1) := by decide +kernel
theorem dX9_judgeSteps_25 : decode cX9_judgeSteps 25 = .ok (.i2l, 1) := by decide +kernel
theorem dX9_judgeSteps_26 : decode cX9_judgeSteps 26 = .ok (.lconst 0, 1) := by decide +kernel
theorem dX9_judgeSteps_27 : decode cX9_judgeSteps 27 = .ok (.ldc2_w 234, 3) := by decide +kernel
theorem dX9_judgeSteps_30 : decode cX9_judgeSteps 30 = .ok (.invokestatic 185, 3) := by decide +kernel
theorem dX9_judgeSteps_33 : decode cX9_judgeSteps 33 = .ok (.ifCond .eq 16, 3) := by decide +kernel
theorem dX9_judgeSteps_36 : decode cX9_judgeSteps 36 = .ok (.iload 4, 2) := by decide +kernel
theorem dX9_judgeSteps_38 : decode cX9_judgeSteps 38 = .ok (.i2l, 1) := by decide +kernel
theorem dX9_judgeSteps_39 : decode cX9_judgeSteps 39 = .ok (.lconst 0, 1) := by decide +kernel
theorem dX9_judgeSteps_40 : decode cX9_judgeSteps 40 = .ok (.ldc2_w 234, 3) := by decide +kernel
theorem dX9_judgeSteps_43 : decode cX9_judgeSteps 43 = .ok (.invokestatic 185, 3) := by decide +kernel
theorem dX9_judgeSteps_46 : decode cX9_judgeSteps 46 = .ok (.ifCond .ne 6, 3) := by decide +kernel
theorem dX9_judgeSteps_49 : decode cX9_judgeSteps 49 = .ok (.bipush (-2), 2) := by decide +kernel
theorem dX9_judgeSteps_51 : decode cX9_judgeSteps 51 = .ok (.ireturn, 1) := by decide +kernel
theorem dX9_judgeSteps_52 : decode cX9_judgeSteps 52 = .ok (.iload_n 1, 1) := by decide +kernel
theorem dX9_judgeSteps_53 : decode cX9_judgeSteps 53 = .ok (.i2l, 1) := by decide +kernel
theorem dX9_judgeSteps_54 : decode cX9_judgeSteps 54 = .ok (.lconst 1, 1) := by decide +kernel
theorem dX9_judgeSteps_55 : decode cX9_judgeSteps 55 = .ok (.iload_n 2, 1) := by decide +kernel
theorem dX9_judgeSteps_56 : decode cX9_judgeSteps 56 = .ok (.i2l, 1) := by decide +kernel
theorem dX9_judgeSteps_57 : decode cX9_judgeSteps 57 = .ok (.invokestatic 185, 3) := by decide +kernel
theorem dX9_judgeSteps_60 : decode cX9_judgeSteps 60 = .ok (.ifCond .ne 5, 3) := by decide +kernel
theorem dX9_judgeSteps_63 : decode cX9_judgeSteps 63 = .ok (.iconst 0, 1) := by decide +kernel
theorem dX9_judgeSteps_64 : decode cX9_judgeSteps 64 = .ok (.ireturn, 1) := by decide +kernel
theorem dX9_judgeSteps_65 : decode cX9_judgeSteps 65 = .ok (.iload_n 1, 1) := by decide +kernel
theorem dX9_judgeSteps_66 : decode cX9_judgeSteps 66 = .ok (.iload_n 2, 1) := by decide +kernel
theorem dX9_judgeSteps_67 : decode cX9_judgeSteps 67 = .ok (.if_icmp .ne 39, 3) := by decide +kernel
theorem dX9_judgeSteps_70 : decode cX9_judgeSteps 70 = .ok (.aload_n 0, 1) := by decide +kernel
theorem dX9_judgeSteps_71 : decode cX9_judgeSteps 71 = .ok (.getfield 281, 3) := by decide +kernel
theorem dX9_judgeSteps_74 : decode cX9_judgeSteps 74 = .ok (.ifCond .ne 30, 3) := by decide +kernel
theorem dX9_judgeSteps_77 : decode cX9_judgeSteps 77 = .ok (.aload_n 0, 1) := by decide +kernel
theorem dX9_judgeSteps_78 : decode cX9_judgeSteps 78 = .ok (.getfield 74, 3) := by decide +kernel
theorem dX9_judgeSteps_81 : decode cX9_judgeSteps 81 = .ok (.bipush 32, 2) := by decide +kernel
theorem dX9_judgeSteps_83 : decode cX9_judgeSteps 83 = .ok (.iload_n 3, 1) := by decide +kernel
theorem dX9_judgeSteps_84 : decode cX9_judgeSteps 84 = .ok (.imul, 1) := by decide +kernel
theorem dX9_judgeSteps_85 : decode cX9_judgeSteps 85 = .ok (.aload_n 0, 1) := by decide +kernel
theorem dX9_judgeSteps_86 : decode cX9_judgeSteps 86 = .ok (.getfield 74, 3) := by decide +kernel
theorem dX9_judgeSteps_89 : decode cX9_judgeSteps 89 = .ok (.bipush 32, 2) := by decide +kernel
theorem dX9_judgeSteps_91 : decode cX9_judgeSteps 91 = .ok (.iload 4, 2) := by decide +kernel
theorem dX9_judgeSteps_93 : decode cX9_judgeSteps 93 = .ok (.imul, 1) := by decide +kernel
theorem dX9_judgeSteps_94 : decode cX9_judgeSteps 94 = .ok (.invokestatic 295, 3) := by decide +kernel
theorem dX9_judgeSteps_97 : decode cX9_judgeSteps 97 = .ok (.ifCond .eq 7, 3) := by decide +kernel
theorem dX9_judgeSteps_100 : decode cX9_judgeSteps 100 = .ok (.iconst 1, 1) := by decide +kernel
theorem dX9_judgeSteps_101 : decode cX9_judgeSteps 101 = .ok (.goto 4, 3) := by decide +kernel
theorem dX9_judgeSteps_104 : decode cX9_judgeSteps 104 = .ok (.iconst 0, 1) := by decide +kernel
theorem dX9_judgeSteps_105 : decode cX9_judgeSteps 105 = .ok (.ireturn, 1) := by decide +kernel
theorem dX9_judgeSteps_106 : decode cX9_judgeSteps 106 = .ok (.iload_n 1, 1) := by decide +kernel
theorem dX9_judgeSteps_107 : decode cX9_judgeSteps 107 = .ok (.iload_n 1, 1) := by decide +kernel
theorem dX9_judgeSteps_108 : decode cX9_judgeSteps 108 = .ok (.iconst 1, 1) := by decide +kernel
theorem dX9_judgeSteps_109 : decode cX9_judgeSteps 109 = .ok (.isub, 1) := by decide +kernel
theorem dX9_judgeSteps_110 : decode cX9_judgeSteps 110 = .ok (.iand, 1) := by decide +kernel
theorem dX9_judgeSteps_111 : decode cX9_judgeSteps 111 = .ok (.ifCond .ne 7, 3) := by decide +kernel
theorem dX9_judgeSteps_114 : decode cX9_judgeSteps 114 = .ok (.iconst 1, 1) := by decide +kernel
theorem dX9_judgeSteps_115 : decode cX9_judgeSteps 115 = .ok (.goto 4, 3) := by decide +kernel
theorem dX9_judgeSteps_118 : decode cX9_judgeSteps 118 = .ok (.iconst 0, 1) := by decide +kernel
theorem dX9_judgeSteps_119 : decode cX9_judgeSteps 119 = .ok (.istore 5, 2) := by decide +kernel
theorem dX9_judgeSteps_121 : decode cX9_judgeSteps 121 = .ok (.iconst 0, 1) := by decide +kernel
theorem dX9_judgeSteps_122 : decode cX9_judgeSteps 122 = .ok (.istore 6, 2) := by decide +kernel
theorem dX9_judgeSteps_124 : decode cX9_judgeSteps 124 = .ok (.iload 6, 2) := by decide +kernel
theorem dX9_judgeSteps_126 : decode cX9_judgeSteps 126 = .ok (.bipush 32, 2) := by decide +kernel
theorem dX9_judgeSteps_128 : decode cX9_judgeSteps 128 = .ok (.if_icmp .ge 28, 3) := by decide +kernel
theorem dX9_judgeSteps_131 : decode cX9_judgeSteps 131 = .ok (.aload_n 0, 1) := by decide +kernel
theorem dX9_judgeSteps_132 : decode cX9_judgeSteps 132 = .ok (.getfield 83, 3) := by decide +kernel
theorem dX9_judgeSteps_135 : decode cX9_judgeSteps 135 = .ok (.iload 6, 2) := by decide +kernel
theorem dX9_judgeSteps_137 : decode cX9_judgeSteps 137 = .ok (.aload_n 0, 1) := by decide +kernel
theorem dX9_judgeSteps_138 : decode cX9_judgeSteps 138 = .ok (.getfield 74, 3) := by decide +kernel
theorem dX9_judgeSteps_141 : decode cX9_judgeSteps 141 = .ok (.bipush 32, 2) := by decide +kernel
theorem dX9_judgeSteps_143 : decode cX9_judgeSteps 143 = .ok (.iload_n 3, 1) := by decide +kernel
theorem dX9_judgeSteps_144 : decode cX9_judgeSteps 144 = .ok (.imul, 1) := by decide +kernel
theorem dX9_judgeSteps_145 : decode cX9_judgeSteps 145 = .ok (.iload 6, 2) := by decide +kernel
theorem dX9_judgeSteps_147 : decode cX9_judgeSteps 147 = .ok (.iadd, 1) := by decide +kernel
theorem dX9_judgeSteps_148 : decode cX9_judgeSteps 148 = .ok (.iaload, 1) := by decide +kernel
theorem dX9_judgeSteps_149 : decode cX9_judgeSteps 149 = .ok (.iastore, 1) := by decide +kernel
theorem dX9_judgeSteps_150 : decode cX9_judgeSteps 150 = .ok (.iinc 6 1, 3) := by decide +kernel
theorem dX9_judgeSteps_153 : decode cX9_judgeSteps 153 = .ok (.goto (-29), 3) := by decide +kernel
theorem dX9_judgeSteps_156 : decode cX9_judgeSteps 156 = .ok (.iconst 0, 1) := by decide +kernel
theorem dX9_judgeSteps_157 : decode cX9_judgeSteps 157 = .ok (.istore 6, 2) := by decide +kernel
theorem dX9_judgeSteps_159 : decode cX9_judgeSteps 159 = .ok (.iload 6, 2) := by decide +kernel
theorem dX9_judgeSteps_161 : decode cX9_judgeSteps 161 = .ok (.bipush 32, 2) := by decide +kernel
theorem dX9_judgeSteps_163 : decode cX9_judgeSteps 163 = .ok (.aload_n 0, 1) := by decide +kernel
theorem dX9_judgeSteps_164 : decode cX9_judgeSteps 164 = .ok (.getfield 281, 3) := by decide +kernel
theorem dX9_judgeSteps_167 : decode cX9_judgeSteps 167 = .ok (.imul, 1) := by decide +kernel
theorem dX9_judgeSteps_168 : decode cX9_judgeSteps 168 = .ok (.if_icmp .ge 29, 3) := by decide +kernel
theorem dX9_judgeSteps_171 : decode cX9_judgeSteps 171 = .ok (.aload_n 0, 1) := by decide +kernel
theorem dX9_judgeSteps_172 : decode cX9_judgeSteps 172 = .ok (.getfield 83, 3) := by decide +kernel
theorem dX9_judgeSteps_175 : decode cX9_judgeSteps 175 = .ok (.bipush 32, 2) := by decide +kernel
theorem dX9_judgeSteps_177 : decode cX9_judgeSteps 177 = .ok (.iload 5, 2) := by decide +kernel
theorem dX9_judgeSteps_179 : decode cX9_judgeSteps 179 = .ok (.imul, 1) := by decide +kernel
theorem dX9_judgeSteps_180 : decode cX9_judgeSteps 180 = .ok (.iload 6, 2) := by decide +kernel
theorem dX9_judgeSteps_182 : decode cX9_judgeSteps 182 = .ok (.iadd, 1) := by decide +kernel
theorem dX9_judgeSteps_183 : decode cX9_judgeSteps 183 = .ok (.aload_n 0, 1) := by decide +kernel
theorem dX9_judgeSteps_184 : decode cX9_judgeSteps 184 = .ok (.getfield 65, 3) := by decide +kernel
theorem dX9_judgeSteps_187 : decode cX9_judgeSteps 187 = .ok (.iload 6, 2) := by decide +kernel
theorem dX9_judgeSteps_189 : decode cX9_judgeSteps 189 = .ok (.iaload, 1) := by decide +kernel
theorem dX9_judgeSteps_190 : decode cX9_judgeSteps 190 = .ok (.iastore, 1) := by decide +kernel
theorem dX9_judgeSteps_191 : decode cX9_judgeSteps 191 = .ok (.iinc 6 1, 3) := by decide +kernel
theorem dX9_judgeSteps_194 : decode cX9_judgeSteps 194 = .ok (.goto (-35), 3) := by decide +kernel
theorem dX9_judgeSteps_197 : decode cX9_judgeSteps 197 = .ok (.iload 5, 2) := by decide +kernel
theorem dX9_judgeSteps_199 : decode cX9_judgeSteps 199 = .ok (.aload_n 0, 1) := by decide +kernel
theorem dX9_judgeSteps_200 : decode cX9_judgeSteps 200 = .ok (.getfield 281, 3) := by decide +kernel
theorem dX9_judgeSteps_203 : decode cX9_judgeSteps 203 = .ok (.iadd, 1) := by decide +kernel
theorem dX9_judgeSteps_204 : decode cX9_judgeSteps 204 = .ok (.istore 6, 2) := by decide +kernel
theorem dX9_judgeSteps_206 : decode cX9_judgeSteps 206 = .ok (.iload 6, 2) := by decide +kernel
theorem dX9_judgeSteps_208 : decode cX9_judgeSteps 208 = .ok (.ifCond .ne 5, 3) := by decide +kernel
theorem dX9_judgeSteps_211 : decode cX9_judgeSteps 211 = .ok (.iconst 0, 1) := by decide +kernel
theorem dX9_judgeSteps_212 : decode cX9_judgeSteps 212 = .ok (.ireturn, 1) := by decide +kernel
theorem dX9_judgeSteps_213 : decode cX9_judgeSteps 213 = .ok (.iload_n 1, 1) := by decide +kernel
theorem dX9_judgeSteps_214 : decode cX9_judgeSteps 214 = .ok (.iconst 1, 1) := by decide +kernel
theorem dX9_judgeSteps_215 : decode cX9_judgeSteps 215 = .ok (.isub, 1) := by decide +kernel
theorem dX9_judgeSteps_216 : decode cX9_judgeSteps 216 = .ok (.istore 7, 2) := by decide +kernel
theorem dX9_judgeSteps_218 : decode cX9_judgeSteps 218 = .ok (.iload_n 2, 1) := by decide +kernel
theorem dX9_judgeSteps_219 : decode cX9_judgeSteps 219 = .ok (.iconst 1, 1) := by decide +kernel
theorem dX9_judgeSteps_220 : decode cX9_judgeSteps 220 = .ok (.isub, 1) := by decide +kernel
theorem dX9_judgeSteps_221 : decode cX9_judgeSteps 221 = .ok (.istore 8, 2) := by decide +kernel
theorem dX9_judgeSteps_223 : decode cX9_judgeSteps 223 = .ok (.iload 7, 2) := by decide +kernel
theorem dX9_judgeSteps_225 : decode cX9_judgeSteps 225 = .ok (.iconst 2, 1) := by decide +kernel
theorem dX9_judgeSteps_226 : decode cX9_judgeSteps 226 = .ok (.irem, 1) := by decide +kernel
theorem dX9_judgeSteps_227 : decode cX9_judgeSteps 227 = .ok (.iconst 1, 1) := by decide +kernel
theorem dX9_judgeSteps_228 : decode cX9_judgeSteps 228 = .ok (.if_icmp .ne 18, 3) := by decide +kernel
theorem dX9_judgeSteps_231 : decode cX9_judgeSteps 231 = .ok (.iload 7, 2) := by decide +kernel
theorem dX9_judgeSteps_233 : decode cX9_judgeSteps 233 = .ok (.iconst 2, 1) := by decide +kernel
theorem dX9_judgeSteps_234 : decode cX9_judgeSteps 234 = .ok (.idiv, 1) := by decide +kernel
theorem dX9_judgeSteps_235 : decode cX9_judgeSteps 235 = .ok (.istore 7, 2) := by decide +kernel
theorem dX9_judgeSteps_237 : decode cX9_judgeSteps 237 = .ok (.iload 8, 2) := by decide +kernel
theorem dX9_judgeSteps_239 : decode cX9_judgeSteps 239 = .ok (.iconst 2, 1) := by decide +kernel
theorem dX9_judgeSteps_240 : decode cX9_judgeSteps 240 = .ok (.idiv, 1) := by decide +kernel
theorem dX9_judgeSteps_241 : decode cX9_judgeSteps 241 = .ok (.istore 8, 2) := by decide +kernel
theorem dX9_judgeSteps_243 : decode cX9_judgeSteps 243 = .ok (.goto (-20), 3) := by decide +kernel
theorem dX9_judgeSteps_246 : decode cX9_judgeSteps 246 = .ok (.iconst 0, 1) := by decide +kernel
theorem dX9_judgeSteps_247 : decode cX9_judgeSteps 247 = .ok (.istore 9, 2) := by decide +kernel
theorem dX9_judgeSteps_249 : decode cX9_judgeSteps 249 = .ok (.iload 9, 2) := by decide +kernel
theorem dX9_judgeSteps_251 : decode cX9_judgeSteps 251 = .ok (.bipush 32, 2) := by decide +kernel
theorem dX9_judgeSteps_253 : decode cX9_judgeSteps 253 = .ok (.if_icmp .ge 37, 3) := by decide +kernel
theorem dX9_judgeSteps_256 : decode cX9_judgeSteps 256 = .ok (.aload_n 0, 1) := by decide +kernel
theorem dX9_judgeSteps_257 : decode cX9_judgeSteps 257 = .ok (.getfield 77, 3) := by decide +kernel
theorem dX9_judgeSteps_260 : decode cX9_judgeSteps 260 = .ok (.iload 9, 2) := by decide +kernel
theorem dX9_judgeSteps_262 : decode cX9_judgeSteps 262 = .ok (.aload_n 0, 1) := by decide +kernel
theorem dX9_judgeSteps_263 : decode cX9_judgeSteps 263 = .ok (.getfield 83, 3) := by decide +kernel
theorem dX9_judgeSteps_266 : decode cX9_judgeSteps 266 = .ok (.iload 9, 2) := by decide +kernel
theorem dX9_judgeSteps_268 : decode cX9_judgeSteps 268 = .ok (.iaload, 1) := by decide +kernel
theorem dX9_judgeSteps_269 : decode cX9_judgeSteps 269 = .ok (.iastore, 1) := by decide +kernel
theorem dX9_judgeSteps_270 : decode cX9_judgeSteps 270 = .ok (.aload_n 0, 1) := by decide +kernel
theorem dX9_judgeSteps_271 : decode cX9_judgeSteps 271 = .ok (.getfield 80, 3) := by decide +kernel
theorem dX9_judgeSteps_274 : decode cX9_judgeSteps 274 = .ok (.iload 9, 2) := by decide +kernel
theorem dX9_judgeSteps_276 : decode cX9_judgeSteps 276 = .ok (.aload_n 0, 1) := by decide +kernel
theorem dX9_judgeSteps_277 : decode cX9_judgeSteps 277 = .ok (.getfield 83, 3) := by decide +kernel
theorem dX9_judgeSteps_280 : decode cX9_judgeSteps 280 = .ok (.iload 9, 2) := by decide +kernel
theorem dX9_judgeSteps_282 : decode cX9_judgeSteps 282 = .ok (.iaload, 1) := by decide +kernel
theorem dX9_judgeSteps_283 : decode cX9_judgeSteps 283 = .ok (.iastore, 1) := by decide +kernel
theorem dX9_judgeSteps_284 : decode cX9_judgeSteps 284 = .ok (.iinc 9 1, 3) := by decide +kernel
theorem dX9_judgeSteps_287 : decode cX9_judgeSteps 287 = .ok (.goto (-38), 3) := by decide +kernel
theorem dX9_judgeSteps_290 : decode cX9_judgeSteps 290 = .ok (.iconst 1, 1) := by decide +kernel
theorem dX9_judgeSteps_291 : decode cX9_judgeSteps 291 = .ok (.istore 9, 2) := by decide +kernel
theorem dX9_judgeSteps_293 : decode cX9_judgeSteps 293 = .ok (.iload 9, 2) := by decide +kernel
theorem dX9_judgeSteps_295 : decode cX9_judgeSteps 295 = .ok (.iload 6, 2) := by decide +kernel
theorem dX9_judgeSteps_297 : decode cX9_judgeSteps 297 = .ok (.if_icmp .ge 151, 3) := by decide +kernel
theorem dX9_judgeSteps_300 : decode cX9_judgeSteps 300 = .ok (.iload 8, 2) := by decide +kernel
theorem dX9_judgeSteps_302 : decode cX9_judgeSteps 302 = .ok (.ifCond .ne 5, 3) := by decide +kernel
theorem dX9_judgeSteps_305 : decode cX9_judgeSteps 305 = .ok (.iconst 0, 1) := by decide +kernel
theorem dX9_judgeSteps_306 : decode cX9_judgeSteps 306 = .ok (.ireturn, 1) := by decide +kernel
theorem dX9_judgeSteps_307 : decode cX9_judgeSteps 307 = .ok (.iload 7, 2) := by decide +kernel
theorem dX9_judgeSteps_309 : decode cX9_judgeSteps 309 = .ok (.iconst 2, 1) := by decide +kernel
theorem dX9_judgeSteps_310 : decode cX9_judgeSteps 310 = .ok (.irem, 1) := by decide +kernel
theorem dX9_judgeSteps_311 : decode cX9_judgeSteps 311 = .ok (.iconst 1, 1) := by decide +kernel
theorem dX9_judgeSteps_312 : decode cX9_judgeSteps 312 = .ok (.if_icmp .eq 10, 3) := by decide +kernel
theorem dX9_judgeSteps_315 : decode cX9_judgeSteps 315 = .ok (.iload 7, 2) := by decide +kernel
theorem dX9_judgeSteps_317 : decode cX9_judgeSteps 317 = .ok (.iload 8, 2) := by decide +kernel
theorem dX9_judgeSteps_319 : decode cX9_judgeSteps 319 = .ok (.if_icmp .ne 84, 3) := by decide +kernel
theorem dX9_judgeSteps_322 : decode cX9_judgeSteps 322 = .ok (.aload_n 0, 1) := by decide +kernel
theorem dX9_judgeSteps_323 : decode cX9_judgeSteps 323 = .ok (.aload_n 0, 1) := by decide +kernel
theorem dX9_judgeSteps_324 : decode cX9_judgeSteps 324 = .ok (.getfield 83, 3) := by decide +kernel
theorem dX9_judgeSteps_327 : decode cX9_judgeSteps 327 = .ok (.bipush 32, 2) := by decide +kernel
theorem dX9_judgeSteps_329 : decode cX9_judgeSteps 329 = .ok (.iload 9, 2) := by decide +kernel
theorem dX9_judgeSteps_331 : decode cX9_judgeSteps 331 = .ok (.imul, 1) := by decide +kernel
theorem dX9_judgeSteps_332 : decode cX9_judgeSteps 332 = .ok (.aload_n 0, 1) := by decide +kernel
theorem dX9_judgeSteps_333 : decode cX9_judgeSteps 333 = .ok (.getfield 77, 3) := by decide +kernel
theorem dX9_judgeSteps_336 : decode cX9_judgeSteps 336 = .ok (.iconst 0, 1) := by decide +kernel
theorem dX9_judgeSteps_337 : decode cX9_judgeSteps 337 = .ok (.invokevirtual 273, 3) := by decide +kernel
theorem dX9_judgeSteps_340 : decode cX9_judgeSteps 340 = .ok (.aload_n 0, 1) := by decide +kernel
theorem dX9_judgeSteps_341 : decode cX9_judgeSteps 341 = .ok (.aload_n 0, 1) := by decide +kernel
theorem dX9_judgeSteps_342 : decode cX9_judgeSteps 342 = .ok (.getfield 77, 3) := by decide +kernel
theorem dX9_judgeSteps_345 : decode cX9_judgeSteps 345 = .ok (.iconst 0, 1) := by decide +kernel
theorem dX9_judgeSteps_346 : decode cX9_judgeSteps 346 = .ok (.invokevirtual 213, 3) := by decide +kernel
theorem dX9_judgeSteps_349 : decode cX9_judgeSteps 349 = .ok (.aload_n 0, 1) := by decide +kernel
theorem dX9_judgeSteps_350 : decode cX9_judgeSteps 350 = .ok (.aload_n 0, 1) := by decide +kernel
theorem dX9_judgeSteps_351 : decode cX9_judgeSteps 351 = .ok (.getfield 83, 3) := by decide +kernel
theorem dX9_judgeSteps_354 : decode cX9_judgeSteps 354 = .ok (.bipush 32, 2) := by decide +kernel
theorem dX9_judgeSteps_356 : decode cX9_judgeSteps 356 = .ok (.iload 9, 2) := by decide +kernel
theorem dX9_judgeSteps_358 : decode cX9_judgeSteps 358 = .ok (.imul, 1) := by decide +kernel
theorem dX9_judgeSteps_359 : decode cX9_judgeSteps 359 = .ok (.aload_n 0, 1) := by decide +kernel
theorem dX9_judgeSteps_360 : decode cX9_judgeSteps 360 = .ok (.getfield 80, 3) := by decide +kernel
theorem dX9_judgeSteps_363 : decode cX9_judgeSteps 363 = .ok (.iconst 0, 1) := by decide +kernel
theorem dX9_judgeSteps_364 : decode cX9_judgeSteps 364 = .ok (.invokevirtual 273, 3) := by decide +kernel
theorem dX9_judgeSteps_367 : decode cX9_judgeSteps 367 = .ok (.aload_n 0, 1) := by decide +kernel
theorem dX9_judgeSteps_368 : decode cX9_judgeSteps 368 = .ok (.aload_n 0, 1) := by decide +kernel
theorem dX9_judgeSteps_369 : decode cX9_judgeSteps 369 = .ok (.getfield 80, 3) := by decide +kernel
theorem dX9_judgeSteps_372 : decode cX9_judgeSteps 372 = .ok (.iconst 0, 1) := by decide +kernel
theorem dX9_judgeSteps_373 : decode cX9_judgeSteps 373 = .ok (.invokevirtual 213, 3) := by decide +kernel
theorem dX9_judgeSteps_376 : decode cX9_judgeSteps 376 = .ok (.iload 7, 2) := by decide +kernel
theorem dX9_judgeSteps_378 : decode cX9_judgeSteps 378 = .ok (.iconst 2, 1) := by decide +kernel
theorem dX9_judgeSteps_379 : decode cX9_judgeSteps 379 = .ok (.irem, 1) := by decide +kernel
theorem dX9_judgeSteps_380 : decode cX9_judgeSteps 380 = .ok (.ifCond .ne 50, 3) := by decide +kernel
theorem dX9_judgeSteps_383 : decode cX9_judgeSteps 383 = .ok (.iload 7, 2) := by decide +kernel
theorem dX9_judgeSteps_385 : decode cX9_judgeSteps 385 = .ok (.ifCond .eq 45, 3) := by decide +kernel
theorem dX9_judgeSteps_388 : decode cX9_judgeSteps 388 = .ok (.iload 7, 2) := by decide +kernel
theorem dX9_judgeSteps_390 : decode cX9_judgeSteps 390 = .ok (.iconst 2, 1) := by decide +kernel
theorem dX9_judgeSteps_391 : decode cX9_judgeSteps 391 = .ok (.idiv, 1) := by decide +kernel
theorem dX9_judgeSteps_392 : decode cX9_judgeSteps 392 = .ok (.istore 7, 2) := by decide +kernel
theorem dX9_judgeSteps_394 : decode cX9_judgeSteps 394 = .ok (.iload 8, 2) := by decide +kernel
theorem dX9_judgeSteps_396 : decode cX9_judgeSteps 396 = .ok (.iconst 2, 1) := by decide +kernel
theorem dX9_judgeSteps_397 : decode cX9_judgeSteps 397 = .ok (.idiv, 1) := by decide +kernel
theorem dX9_judgeSteps_398 : decode cX9_judgeSteps 398 = .ok (.istore 8, 2) := by decide +kernel
theorem dX9_judgeSteps_400 : decode cX9_judgeSteps 400 = .ok (.goto (-24), 3) := by decide +kernel
theorem dX9_judgeSteps_403 : decode cX9_judgeSteps 403 = .ok (.aload_n 0, 1) := by decide +kernel
theorem dX9_judgeSteps_404 : decode cX9_judgeSteps 404 = .ok (.aload_n 0, 1) := by decide +kernel
theorem dX9_judgeSteps_405 : decode cX9_judgeSteps 405 = .ok (.getfield 80, 3) := by decide +kernel
theorem dX9_judgeSteps_408 : decode cX9_judgeSteps 408 = .ok (.iconst 0, 1) := by decide +kernel
theorem dX9_judgeSteps_409 : decode cX9_judgeSteps 409 = .ok (.aload_n 0, 1) := by decide +kernel
theorem dX9_judgeSteps_410 : decode cX9_judgeSteps 410 = .ok (.getfield 83, 3) := by decide +kernel
theorem dX9_judgeSteps_413 : decode cX9_judgeSteps 413 = .ok (.bipush 32, 2) := by decide +kernel
theorem dX9_judgeSteps_415 : decode cX9_judgeSteps 415 = .ok (.iload 9, 2) := by decide +kernel
theorem dX9_judgeSteps_417 : decode cX9_judgeSteps 417 = .ok (.imul, 1) := by decide +kernel
theorem dX9_judgeSteps_418 : decode cX9_judgeSteps 418 = .ok (.invokevirtual 273, 3) := by decide +kernel
theorem dX9_judgeSteps_421 : decode cX9_judgeSteps 421 = .ok (.aload_n 0, 1) := by decide +kernel
theorem dX9_judgeSteps_422 : decode cX9_judgeSteps 422 = .ok (.aload_n 0, 1) := by decide +kernel
theorem dX9_judgeSteps_423 : decode cX9_judgeSteps 423 = .ok (.getfield 80, 3) := by decide +kernel
theorem dX9_judgeSteps_426 : decode cX9_judgeSteps 426 = .ok (.iconst 0, 1) := by decide +kernel
theorem dX9_judgeSteps_427 : decode cX9_judgeSteps 427 = .ok (.invokevirtual 213, 3) := by decide +kernel
theorem dX9_judgeSteps_430 : decode cX9_judgeSteps 430 = .ok (.iload 7, 2) := by decide +kernel
theorem dX9_judgeSteps_432 : decode cX9_judgeSteps 432 = .ok (.iconst 2, 1) := by decide +kernel
theorem dX9_judgeSteps_433 : decode cX9_judgeSteps 433 = .ok (.idiv, 1) := by decide +kernel
theorem dX9_judgeSteps_434 : decode cX9_judgeSteps 434 = .ok (.istore 7, 2) := by decide +kernel
theorem dX9_judgeSteps_436 : decode cX9_judgeSteps 436 = .ok (.iload 8, 2) := by decide +kernel
theorem dX9_judgeSteps_438 : decode cX9_judgeSteps 438 = .ok (.iconst 2, 1) := by decide +kernel
theorem dX9_judgeSteps_439 : decode cX9_judgeSteps 439 = .ok (.idiv, 1) := by decide +kernel
theorem dX9_judgeSteps_440 : decode cX9_judgeSteps 440 = .ok (.istore 8, 2) := by decide +kernel
theorem dX9_judgeSteps_442 : decode cX9_judgeSteps 442 = .ok (.iinc 9 1, 3) := by decide +kernel
theorem dX9_judgeSteps_445 : decode cX9_judgeSteps 445 = .ok (.goto (-152), 3) := by decide +kernel
theorem dX9_judgeSteps_448 : decode cX9_judgeSteps 448 = .ok (.iload 8, 2) := by decide +kernel
theorem dX9_judgeSteps_450 : decode cX9_judgeSteps 450 = .ok (.ifCond .ne 46, 3) := by decide +kernel
theorem dX9_judgeSteps_453 : decode cX9_judgeSteps 453 = .ok (.aload_n 0, 1) := by decide +kernel
theorem dX9_judgeSteps_454 : decode cX9_judgeSteps 454 = .ok (.getfield 77, 3) := by decide +kernel
theorem dX9_judgeSteps_457 : decode cX9_judgeSteps 457 = .ok (.iconst 0, 1) := by decide +kernel
theorem dX9_judgeSteps_458 : decode cX9_judgeSteps 458 = .ok (.aload_n 0, 1) := by decide +kernel
theorem dX9_judgeSteps_459 : decode cX9_judgeSteps 459 = .ok (.getfield 74, 3) := by decide +kernel
theorem dX9_judgeSteps_462 : decode cX9_judgeSteps 462 = .ok (.bipush 32, 2) := by decide +kernel
theorem dX9_judgeSteps_464 : decode cX9_judgeSteps 464 = .ok (.iload_n 3, 1) := by decide +kernel
theorem dX9_judgeSteps_465 : decode cX9_judgeSteps 465 = .ok (.imul, 1) := by decide +kernel
theorem dX9_judgeSteps_466 : decode cX9_judgeSteps 466 = .ok (.invokestatic 295, 3) := by decide +kernel
theorem dX9_judgeSteps_469 : decode cX9_judgeSteps 469 = .ok (.ifCond .eq 27, 3) := by decide +kernel
theorem dX9_judgeSteps_472 : decode cX9_judgeSteps 472 = .ok (.aload_n 0, 1) := by decide +kernel
theorem dX9_judgeSteps_473 : decode cX9_judgeSteps 473 = .ok (.getfield 80, 3) := by decide +kernel
theorem dX9_judgeSteps_476 : decode cX9_judgeSteps 476 = .ok (.iconst 0, 1) := by decide +kernel
theorem dX9_judgeSteps_477 : decode cX9_judgeSteps 477 = .ok (.aload_n 0, 1) := by decide +kernel
theorem dX9_judgeSteps_478 : decode cX9_judgeSteps 478 = .ok (.getfield 74, 3) := by decide +kernel
theorem dX9_judgeSteps_481 : decode cX9_judgeSteps 481 = .ok (.bipush 32, 2) := by decide +kernel
theorem dX9_judgeSteps_483 : decode cX9_judgeSteps 483 = .ok (.iload 4, 2) := by decide +kernel
theorem dX9_judgeSteps_485 : decode cX9_judgeSteps 485 = .ok (.imul, 1) := by decide +kernel
theorem dX9_judgeSteps_486 : decode cX9_judgeSteps 486 = .ok (.invokestatic 295, 3) := by decide +kernel
theorem dX9_judgeSteps_489 : decode cX9_judgeSteps 489 = .ok (.ifCond .eq 7, 3) := by decide +kernel
theorem dX9_judgeSteps_492 : decode cX9_judgeSteps 492 = .ok (.iconst 1, 1) := by decide +kernel
theorem dX9_judgeSteps_493 : decode cX9_judgeSteps 493 = .ok (.goto 4, 3) := by decide +kernel
theorem dX9_judgeSteps_496 : decode cX9_judgeSteps 496 = .ok (.iconst 0, 1) := by decide +kernel
theorem dX9_judgeSteps_497 : decode cX9_judgeSteps 497 = .ok (.ireturn, 1) := by decide +kernel
theorem dX9_sync_0 : decode cX9_sync 0 = .ok (.aload_n 0, 1) := by decide +kernel
theorem dX9_sync_1 : decode cX9_sync 1 = .ok (.getfield 206, 3) := by decide +kernel
theorem dX9_sync_4 : decode cX9_sync 4 = .ok (.ifCond .eq 6, 3) := by decide +kernel
theorem dX9_sync_7 : decode cX9_sync 7 = .ok (.bipush (-3), 2) := by decide +kernel
theorem dX9_sync_9 : decode cX9_sync 9 = .ok (.ireturn, 1) := by decide +kernel
theorem dX9_sync_10 : decode cX9_sync 10 = .ok (.aload_n 0, 1) := by decide +kernel
theorem dX9_sync_11 : decode cX9_sync 11 = .ok (.aload_n 0, 1) := by decide +kernel
theorem dX9_sync_12 : decode cX9_sync 12 = .ok (.getfield 220, 3) := by decide +kernel
theorem dX9_sync_15 : decode cX9_sync 15 = .ok (.putfield 299, 3) := by decide +kernel
theorem dX9_sync_18 : decode cX9_sync 18 = .ok (.aload_n 0, 1) := by decide +kernel
theorem dX9_sync_19 : decode cX9_sync 19 = .ok (.getfield 299, 3) := by decide +kernel
theorem dX9_sync_22 : decode cX9_sync 22 = .ok (.ireturn, 1) := by decide +kernel
theorem dX9_cut_0 : decode cX9_cut 0 = .ok (.iload_n 1, 1) := by decide +kernel
theorem dX9_cut_1 : decode cX9_cut 1 = .ok (.i2l, 1) := by decide +kernel
theorem dX9_cut_2 : decode cX9_cut 2 = .ok (.lconst 0, 1) := by decide +kernel
theorem dX9_cut_3 : decode cX9_cut 3 = .ok (.ldc2_w 302, 3) := by decide +kernel
theorem dX9_cut_6 : decode cX9_cut 6 = .ok (.invokestatic 185, 3) := by decide +kernel
theorem dX9_cut_9 : decode cX9_cut 9 = .ok (.ifCond .ne 6, 3) := by decide +kernel
theorem dX9_cut_12 : decode cX9_cut 12 = .ok (.bipush (-2), 2) := by decide +kernel
theorem dX9_cut_14 : decode cX9_cut 14 = .ok (.ireturn, 1) := by decide +kernel
theorem dX9_cut_15 : decode cX9_cut 15 = .ok (.aload_n 0, 1) := by decide +kernel
theorem dX9_cut_16 : decode cX9_cut 16 = .ok (.getfield 206, 3) := by decide +kernel
theorem dX9_cut_19 : decode cX9_cut 19 = .ok (.ifCond .eq 6, 3) := by decide +kernel
theorem dX9_cut_22 : decode cX9_cut 22 = .ok (.bipush (-3), 2) := by decide +kernel
theorem dX9_cut_24 : decode cX9_cut 24 = .ok (.ireturn, 1) := by decide +kernel
theorem dX9_cut_25 : decode cX9_cut 25 = .ok (.aload_n 0, 1) := by decide +kernel
theorem dX9_cut_26 : decode cX9_cut 26 = .ok (.getfield 299, 3) := by decide +kernel
theorem dX9_cut_29 : decode cX9_cut 29 = .ok (.iload_n 1, 1) := by decide +kernel
theorem dX9_cut_30 : decode cX9_cut 30 = .ok (.iadd, 1) := by decide +kernel
theorem dX9_cut_31 : decode cX9_cut 31 = .ok (.aload_n 0, 1) := by decide +kernel
theorem dX9_cut_32 : decode cX9_cut 32 = .ok (.getfield 220, 3) := by decide +kernel
theorem dX9_cut_35 : decode cX9_cut 35 = .ok (.if_icmp .ge 12, 3) := by decide +kernel
theorem dX9_cut_38 : decode cX9_cut 38 = .ok (.aload_n 0, 1) := by decide +kernel
theorem dX9_cut_39 : decode cX9_cut 39 = .ok (.getfield 299, 3) := by decide +kernel
theorem dX9_cut_42 : decode cX9_cut 42 = .ok (.iload_n 1, 1) := by decide +kernel
theorem dX9_cut_43 : decode cX9_cut 43 = .ok (.iadd, 1) := by decide +kernel
theorem dX9_cut_44 : decode cX9_cut 44 = .ok (.goto 7, 3) := by decide +kernel
theorem dX9_cut_47 : decode cX9_cut 47 = .ok (.aload_n 0, 1) := by decide +kernel
theorem dX9_cut_48 : decode cX9_cut 48 = .ok (.getfield 220, 3) := by decide +kernel
theorem dX9_cut_51 : decode cX9_cut 51 = .ok (.istore_n 2, 1) := by decide +kernel
theorem dX9_cut_52 : decode cX9_cut 52 = .ok (.iload_n 2, 1) := by decide +kernel
theorem dX9_cut_53 : decode cX9_cut 53 = .ok (.istore_n 3, 1) := by decide +kernel
theorem dX9_cut_54 : decode cX9_cut 54 = .ok (.iload_n 3, 1) := by decide +kernel
theorem dX9_cut_55 : decode cX9_cut 55 = .ok (.aload_n 0, 1) := by decide +kernel
theorem dX9_cut_56 : decode cX9_cut 56 = .ok (.getfield 220, 3) := by decide +kernel
theorem dX9_cut_59 : decode cX9_cut 59 = .ok (.if_icmp .ge 16, 3) := by decide +kernel
theorem dX9_cut_62 : decode cX9_cut 62 = .ok (.aload_n 0, 1) := by decide +kernel
theorem dX9_cut_63 : decode cX9_cut 63 = .ok (.getfield 53, 3) := by decide +kernel
theorem dX9_cut_66 : decode cX9_cut 66 = .ok (.iload_n 3, 1) := by decide +kernel
theorem dX9_cut_67 : decode cX9_cut 67 = .ok (.iconst 0, 1) := by decide +kernel
theorem dX9_cut_68 : decode cX9_cut 68 = .ok (.iastore, 1) := by decide +kernel
theorem dX9_cut_69 : decode cX9_cut 69 = .ok (.iinc 3 1, 3) := by decide +kernel
theorem dX9_cut_72 : decode cX9_cut 72 = .ok (.goto (-18), 3) := by decide +kernel
theorem dX9_cut_75 : decode cX9_cut 75 = .ok (.aload_n 0, 1) := by decide +kernel
theorem dX9_cut_76 : decode cX9_cut 76 = .ok (.iload_n 2, 1) := by decide +kernel
theorem dX9_cut_77 : decode cX9_cut 77 = .ok (.putfield 220, 3) := by decide +kernel
theorem dX9_cut_80 : decode cX9_cut 80 = .ok (.aload_n 0, 1) := by decide +kernel
theorem dX9_cut_81 : decode cX9_cut 81 = .ok (.iconst 1, 1) := by decide +kernel
theorem dX9_cut_82 : decode cX9_cut 82 = .ok (.putfield 206, 3) := by decide +kernel
theorem dX9_cut_85 : decode cX9_cut 85 = .ok (.iload_n 2, 1) := by decide +kernel
theorem dX9_cut_86 : decode cX9_cut 86 = .ok (.ireturn, 1) := by decide +kernel
theorem dX9_isFrame_0 : decode cX9_isFrame 0 = .ok (.bipush 17, 2) := by decide +kernel
theorem dX9_isFrame_2 : decode cX9_isFrame 2 = .ok (.iload_n 1, 1) := by decide +kernel
theorem dX9_isFrame_3 : decode cX9_isFrame 3 = .ok (.imul, 1) := by decide +kernel
theorem dX9_isFrame_4 : decode cX9_isFrame 4 = .ok (.istore_n 2, 1) := by decide +kernel
theorem dX9_isFrame_5 : decode cX9_isFrame 5 = .ok (.aload_n 0, 1) := by decide +kernel
theorem dX9_isFrame_6 : decode cX9_isFrame 6 = .ok (.getfield 53, 3) := by decide +kernel
theorem dX9_isFrame_9 : decode cX9_isFrame 9 = .ok (.iload_n 2, 1) := by decide +kernel
theorem dX9_isFrame_10 : decode cX9_isFrame 10 = .ok (.iaload, 1) := by decide +kernel
theorem dX9_isFrame_11 : decode cX9_isFrame 11 = .ok (.bipush 90, 2) := by decide +kernel
theorem dX9_isFrame_13 : decode cX9_isFrame 13 = .ok (.if_icmp .ne 28, 3) := by decide +kernel
theorem dX9_isFrame_16 : decode cX9_isFrame 16 = .ok (.sipush 256, 3) := by decide +kernel
theorem dX9_isFrame_19 : decode cX9_isFrame 19 = .ok (.aload_n 0, 1) := by decide +kernel
theorem dX9_isFrame_20 : decode cX9_isFrame 20 = .ok (.getfield 53, 3) := by decide +kernel
theorem dX9_isFrame_23 : decode cX9_isFrame 23 = .ok (.iload_n 2, 1) := by decide +kernel
theorem dX9_isFrame_24 : decode cX9_isFrame 24 = .ok (.iconst 1, 1) := by decide +kernel
theorem dX9_isFrame_25 : decode cX9_isFrame 25 = .ok (.iadd, 1) := by decide +kernel
theorem dX9_isFrame_26 : decode cX9_isFrame 26 = .ok (.iaload, 1) := by decide +kernel
theorem dX9_isFrame_27 : decode cX9_isFrame 27 = .ok (.imul, 1) := by decide +kernel
theorem dX9_isFrame_28 : decode cX9_isFrame 28 = .ok (.aload_n 0, 1) := by decide +kernel
theorem dX9_isFrame_29 : decode cX9_isFrame 29 = .ok (.getfield 53, 3) := by decide +kernel
theorem dX9_isFrame_32 : decode cX9_isFrame 32 = .ok (.iload_n 2, 1) := by decide +kernel
theorem dX9_isFrame_33 : decode cX9_isFrame 33 = .ok (.iconst 2, 1) := by decide +kernel
theorem dX9_isFrame_34 : decode cX9_isFrame 34 = .ok (.iadd, 1) := by decide +kernel
theorem dX9_isFrame_35 : decode cX9_isFrame 35 = .ok (.iaload, 1) := by decide +kernel
theorem dX9_isFrame_36 : decode cX9_isFrame 36 = .ok (.iadd, 1) := by decide +kernel
theorem dX9_isFrame_37 : decode cX9_isFrame 37 = .ok (.iload_n 1, 1) := by decide +kernel
theorem dX9_isFrame_38 : decode cX9_isFrame 38 = .ok (.if_icmp .eq 5, 3) := by decide +kernel
theorem dX9_isFrame_41 : decode cX9_isFrame 41 = .ok (.iconst 0, 1) := by decide +kernel
theorem dX9_isFrame_42 : decode cX9_isFrame 42 = .ok (.ireturn, 1) := by decide +kernel
theorem dX9_isFrame_43 : decode cX9_isFrame 43 = .ok (.iconst 0, 1) := by decide +kernel
theorem dX9_isFrame_44 : decode cX9_isFrame 44 = .ok (.istore_n 3, 1) := by decide +kernel
theorem dX9_isFrame_45 : decode cX9_isFrame 45 = .ok (.iload_n 3, 1) := by decide +kernel
theorem dX9_isFrame_46 : decode cX9_isFrame 46 = .ok (.bipush 12, 2) := by decide +kernel
theorem dX9_isFrame_48 : decode cX9_isFrame 48 = .ok (.if_icmp .ge 30, 3) := by decide +kernel
theorem dX9_isFrame_51 : decode cX9_isFrame 51 = .ok (.aload_n 0, 1) := by decide +kernel
theorem dX9_isFrame_52 : decode cX9_isFrame 52 = .ok (.getfield 47, 3) := by decide +kernel
theorem dX9_isFrame_55 : decode cX9_isFrame 55 = .ok (.bipush 12, 2) := by decide +kernel
theorem dX9_isFrame_57 : decode cX9_isFrame 57 = .ok (.iload_n 1, 1) := by decide +kernel
theorem dX9_isFrame_58 : decode cX9_isFrame 58 = .ok (.imul, 1) := by decide +kernel
theorem dX9_isFrame_59 : decode cX9_isFrame 59 = .ok (.iload_n 3, 1) := by decide +kernel
theorem dX9_isFrame_60 : decode cX9_isFrame 60 = .ok (.iadd, 1) := by decide +kernel
theorem dX9_isFrame_61 : decode cX9_isFrame 61 = .ok (.aload_n 0, 1) := by decide +kernel
theorem dX9_isFrame_62 : decode cX9_isFrame 62 = .ok (.getfield 53, 3) := by decide +kernel
theorem dX9_isFrame_65 : decode cX9_isFrame 65 = .ok (.iload_n 2, 1) := by decide +kernel
theorem dX9_isFrame_66 : decode cX9_isFrame 66 = .ok (.iconst 1, 1) := by decide +kernel
theorem dX9_isFrame_67 : decode cX9_isFrame 67 = .ok (.iadd, 1) := by decide +kernel
theorem dX9_isFrame_68 : decode cX9_isFrame 68 = .ok (.iload_n 3, 1) := by decide +kernel
theorem dX9_isFrame_69 : decode cX9_isFrame 69 = .ok (.iadd, 1) := by decide +kernel
theorem dX9_isFrame_70 : decode cX9_isFrame 70 = .ok (.iaload, 1) := by decide +kernel
theorem dX9_isFrame_71 : decode cX9_isFrame 71 = .ok (.iastore, 1) := by decide +kernel
theorem dX9_isFrame_72 : decode cX9_isFrame 72 = .ok (.iinc 3 1, 3) := by decide +kernel
theorem dX9_isFrame_75 : decode cX9_isFrame 75 = .ok (.goto (-30), 3) := by decide +kernel
theorem dX9_isFrame_78 : decode cX9_isFrame 78 = .ok (.aload_n 0, 1) := by decide +kernel
theorem dX9_isFrame_79 : decode cX9_isFrame 79 = .ok (.iload_n 1, 1) := by decide +kernel
theorem dX9_isFrame_80 : decode cX9_isFrame 80 = .ok (.invokevirtual 217, 3) := by decide +kernel
theorem dX9_isFrame_83 : decode cX9_isFrame 83 = .ok (.iconst 1, 1) := by decide +kernel
theorem dX9_isFrame_84 : decode cX9_isFrame 84 = .ok (.istore_n 3, 1) := by decide +kernel
theorem dX9_isFrame_85 : decode cX9_isFrame 85 = .ok (.iconst 0, 1) := by decide +kernel
theorem dX9_isFrame_86 : decode cX9_isFrame 86 = .ok (.istore 4, 2) := by decide +kernel
theorem dX9_isFrame_88 : decode cX9_isFrame 88 = .ok (.iload 4, 2) := by decide +kernel
theorem dX9_isFrame_90 : decode cX9_isFrame 90 = .ok (.iconst 4, 1) := by decide +kernel
theorem dX9_isFrame_91 : decode cX9_isFrame 91 = .ok (.if_icmp .ge 47, 3) := by decide +kernel
theorem dX9_isFrame_94 : decode cX9_isFrame 94 = .ok (.iload_n 3, 1) := by decide +kernel
theorem dX9_isFrame_95 : decode cX9_isFrame 95 = .ok (.aload_n 0, 1) := by decide +kernel
theorem dX9_isFrame_96 : decode cX9_isFrame 96 = .ok (.getfield 53, 3) := by decide +kernel
theorem dX9_isFrame_99 : decode cX9_isFrame 99 = .ok (.iload_n 2, 1) := by decide +kernel
theorem dX9_isFrame_100 : decode cX9_isFrame 100 = .ok (.bipush 13, 2) := by decide +kernel
theorem dX9_isFrame_102 : decode cX9_isFrame 102 = .ok (.iadd, 1) := by decide +kernel
theorem dX9_isFrame_103 : decode cX9_isFrame 103 = .ok (.iload 4, 2) := by decide +kernel
theorem dX9_isFrame_105 : decode cX9_isFrame 105 = .ok (.iadd, 1) := by decide +kernel
theorem dX9_isFrame_106 : decode cX9_isFrame 106 = .ok (.iaload, 1) := by decide +kernel
theorem dX9_isFrame_107 : decode cX9_isFrame 107 = .ok (.aload_n 0, 1) := by decide +kernel
theorem dX9_isFrame_108 : decode cX9_isFrame 108 = .ok (.getfield 50, 3) := by decide +kernel
theorem dX9_isFrame_111 : decode cX9_isFrame 111 = .ok (.bipush 32, 2) := by decide +kernel
theorem dX9_isFrame_113 : decode cX9_isFrame 113 = .ok (.iload_n 1, 1) := by decide +kernel
theorem dX9_isFrame_114 : decode cX9_isFrame 114 = .ok (.imul, 1) := by decide +kernel
theorem dX9_isFrame_115 : decode cX9_isFrame 115 = .ok (.bipush 32, 2) := by decide +kernel
theorem dX9_isFrame_117 : decode cX9_isFrame 117 = .ok (.iadd, 1) := by decide +kernel
theorem dX9_isFrame_118 : decode cX9_isFrame 118 = .ok (.iload 4, 2) := by decide +kernel
theorem dX9_isFrame_120 : decode cX9_isFrame 120 = .ok (.iadd, 1) := by decide +kernel
theorem dX9_isFrame_121 : decode cX9_isFrame 121 = .ok (.iaload, 1) := by decide +kernel
theorem dX9_isFrame_122 : decode cX9_isFrame 122 = .ok (.if_icmp .ne 7, 3) := by decide +kernel
theorem dX9_isFrame_125 : decode cX9_isFrame 125 = .ok (.iconst 1, 1) := by decide +kernel
theorem dX9_isFrame_126 : decode cX9_isFrame 126 = .ok (.goto 4, 3) := by decide +kernel
theorem dX9_isFrame_129 : decode cX9_isFrame 129 = .ok (.iconst 0, 1) := by decide +kernel
theorem dX9_isFrame_130 : decode cX9_isFrame 130 = .ok (.iand, 1) := by decide +kernel
theorem dX9_isFrame_131 : decode cX9_isFrame 131 = .ok (.istore_n 3, 1) := by decide +kernel
theorem dX9_isFrame_132 : decode cX9_isFrame 132 = .ok (.iinc 4 1, 3) := by decide +kernel
theorem dX9_isFrame_135 : decode cX9_isFrame 135 = .ok (.goto (-47), 3) := by decide +kernel
theorem dX9_isFrame_138 : decode cX9_isFrame 138 = .ok (.iload_n 3, 1) := by decide +kernel
theorem dX9_isFrame_139 : decode cX9_isFrame 139 = .ok (.ireturn, 1) := by decide +kernel
theorem dX9_open_0 : decode cX9_open 0 = .ok (.aload_n 0, 1) := by decide +kernel
theorem dX9_open_1 : decode cX9_open 1 = .ok (.getfield 206, 3) := by decide +kernel
theorem dX9_open_4 : decode cX9_open 4 = .ok (.ifCond .ne 6, 3) := by decide +kernel
theorem dX9_open_7 : decode cX9_open 7 = .ok (.bipush (-5), 2) := by decide +kernel
theorem dX9_open_9 : decode cX9_open 9 = .ok (.ireturn, 1) := by decide +kernel
theorem dX9_open_10 : decode cX9_open 10 = .ok (.aload_n 0, 1) := by decide +kernel
theorem dX9_open_11 : decode cX9_open 11 = .ok (.iconst 0, 1) := by decide +kernel
theorem dX9_open_12 : decode cX9_open 12 = .ok (.putfield 210, 3) := by decide +kernel
theorem dX9_open_15 : decode cX9_open 15 = .ok (.aload_n 0, 1) := by decide +kernel
theorem dX9_open_16 : decode cX9_open 16 = .ok (.getfield 210, 3) := by decide +kernel
theorem dX9_open_19 : decode cX9_open 19 = .ok (.bipush 60, 2) := by decide +kernel
theorem dX9_open_21 : decode cX9_open 21 = .ok (.if_icmp .ge 27, 3) := by decide +kernel
theorem dX9_open_24 : decode cX9_open 24 = .ok (.aload_n 0, 1) := by decide +kernel
theorem dX9_open_25 : decode cX9_open 25 = .ok (.aload_n 0, 1) := by decide +kernel
theorem dX9_open_26 : decode cX9_open 26 = .ok (.getfield 210, 3) := by decide +kernel
theorem dX9_open_29 : decode cX9_open 29 = .ok (.invokevirtual 304, 3) := by decide +kernel
theorem dX9_open_32 : decode cX9_open 32 = .ok (.ifCond .eq 16, 3) := by decide +kernel
theorem dX9_open_35 : decode cX9_open 35 = .ok (.aload_n 0, 1) := by decide +kernel
theorem dX9_open_36 : decode cX9_open 36 = .ok (.dup, 1) := by decide +kernel
theorem dX9_open_37 : decode cX9_open 37 = .ok (.getfield 210, 3) := by decide +kernel
theorem dX9_open_40 : decode cX9_open 40 = .ok (.iconst 1, 1) := by decide +kernel
theorem dX9_open_41 : decode cX9_open 41 = .ok (.iadd, 1) := by decide +kernel
theorem dX9_open_42 : decode cX9_open 42 = .ok (.putfield 210, 3) := by decide +kernel
theorem dX9_open_45 : decode cX9_open 45 = .ok (.goto (-30), 3) := by decide +kernel
theorem dX9_open_48 : decode cX9_open 48 = .ok (.aload_n 0, 1) := by decide +kernel
theorem dX9_open_49 : decode cX9_open 49 = .ok (.bipush 17, 2) := by decide +kernel
theorem dX9_open_51 : decode cX9_open 51 = .ok (.aload_n 0, 1) := by decide +kernel
theorem dX9_open_52 : decode cX9_open 52 = .ok (.getfield 210, 3) := by decide +kernel
theorem dX9_open_55 : decode cX9_open 55 = .ok (.imul, 1) := by decide +kernel
theorem dX9_open_56 : decode cX9_open 56 = .ok (.putfield 220, 3) := by decide +kernel
theorem dX9_open_59 : decode cX9_open 59 = .ok (.aload_n 0, 1) := by decide +kernel
theorem dX9_open_60 : decode cX9_open 60 = .ok (.aload_n 0, 1) := by decide +kernel
theorem dX9_open_61 : decode cX9_open 61 = .ok (.getfield 220, 3) := by decide +kernel
theorem dX9_open_64 : decode cX9_open 64 = .ok (.putfield 299, 3) := by decide +kernel
theorem dX9_open_67 : decode cX9_open 67 = .ok (.aload_n 0, 1) := by decide +kernel
theorem dX9_open_68 : decode cX9_open 68 = .ok (.getfield 220, 3) := by decide +kernel
theorem dX9_open_71 : decode cX9_open 71 = .ok (.istore_n 1, 1) := by decide +kernel
theorem dX9_open_72 : decode cX9_open 72 = .ok (.iload_n 1, 1) := by decide +kernel
theorem dX9_open_73 : decode cX9_open 73 = .ok (.sipush 1020, 3) := by decide +kernel
theorem dX9_open_76 : decode cX9_open 76 = .ok (.if_icmp .ge 16, 3) := by decide +kernel
theorem dX9_open_79 : decode cX9_open 79 = .ok (.aload_n 0, 1) := by decide +kernel
theorem dX9_open_80 : decode cX9_open 80 = .ok (.getfield 53, 3) := by decide +kernel
theorem dX9_open_83 : decode cX9_open 83 = .ok (.iload_n 1, 1) := by decide +kernel
theorem dX9_open_84 : decode cX9_open 84 = .ok (.iconst 0, 1) := by decide +kernel
theorem dX9_open_85 : decode cX9_open 85 = .ok (.iastore, 1) := by decide +kernel
theorem dX9_open_86 : decode cX9_open 86 = .ok (.iinc 1 1, 3) := by decide +kernel
theorem dX9_open_89 : decode cX9_open 89 = .ok (.goto (-17), 3) := by decide +kernel
theorem dX9_open_92 : decode cX9_open 92 = .ok (.aload_n 0, 1) := by decide +kernel
theorem dX9_open_93 : decode cX9_open 93 = .ok (.iconst 0, 1) := by decide +kernel
theorem dX9_open_94 : decode cX9_open 94 = .ok (.putfield 206, 3) := by decide +kernel
theorem dX9_open_97 : decode cX9_open 97 = .ok (.aload_n 0, 1) := by decide +kernel
theorem dX9_open_98 : decode cX9_open 98 = .ok (.getfield 210, 3) := by decide +kernel
theorem dX9_open_101 : decode cX9_open 101 = .ok (.ireturn, 1) := by decide +kernel
theorem dX9_disk_0 : decode cX9_disk 0 = .ok (.iload_n 1, 1) := by decide +kernel
theorem dX9_disk_1 : decode cX9_disk 1 = .ok (.i2l, 1) := by decide +kernel
theorem dX9_disk_2 : decode cX9_disk 2 = .ok (.lconst 0, 1) := by decide +kernel
theorem dX9_disk_3 : decode cX9_disk 3 = .ok (.ldc2_w 307, 3) := by decide +kernel
theorem dX9_disk_6 : decode cX9_disk 6 = .ok (.invokestatic 185, 3) := by decide +kernel
theorem dX9_disk_9 : decode cX9_disk 9 = .ok (.ifCond .eq 12, 3) := by decide +kernel
theorem dX9_disk_12 : decode cX9_disk 12 = .ok (.aload_n 0, 1) := by decide +kernel
theorem dX9_disk_13 : decode cX9_disk 13 = .ok (.getfield 53, 3) := by decide +kernel
theorem dX9_disk_16 : decode cX9_disk 16 = .ok (.iload_n 1, 1) := by decide +kernel
theorem dX9_disk_17 : decode cX9_disk 17 = .ok (.iaload, 1) := by decide +kernel
theorem dX9_disk_18 : decode cX9_disk 18 = .ok (.goto 5, 3) := by decide +kernel
theorem dX9_disk_21 : decode cX9_disk 21 = .ok (.bipush (-2), 2) := by decide +kernel
theorem dX9_disk_23 : decode cX9_disk 23 = .ok (.ireturn, 1) := by decide +kernel
theorem dX9_spoil_0 : decode cX9_spoil 0 = .ok (.iload_n 1, 1) := by decide +kernel
theorem dX9_spoil_1 : decode cX9_spoil 1 = .ok (.i2l, 1) := by decide +kernel
theorem dX9_spoil_2 : decode cX9_spoil 2 = .ok (.lconst 0, 1) := by decide +kernel
theorem dX9_spoil_3 : decode cX9_spoil 3 = .ok (.ldc2_w 307, 3) := by decide +kernel
theorem dX9_spoil_6 : decode cX9_spoil 6 = .ok (.invokestatic 185, 3) := by decide +kernel
theorem dX9_spoil_9 : decode cX9_spoil 9 = .ok (.ifCond .eq 15, 3) := by decide +kernel
theorem dX9_spoil_12 : decode cX9_spoil 12 = .ok (.iload_n 2, 1) := by decide +kernel
theorem dX9_spoil_13 : decode cX9_spoil 13 = .ok (.i2l, 1) := by decide +kernel
theorem dX9_spoil_14 : decode cX9_spoil 14 = .ok (.lconst 1, 1) := by decide +kernel
theorem dX9_spoil_15 : decode cX9_spoil 15 = .ok (.ldc2_w 291, 3) := by decide +kernel
theorem dX9_spoil_18 : decode cX9_spoil 18 = .ok (.invokestatic 185, 3) := by decide +kernel
theorem dX9_spoil_21 : decode cX9_spoil 21 = .ok (.ifCond .ne 6, 3) := by decide +kernel
theorem dX9_spoil_24 : decode cX9_spoil 24 = .ok (.bipush (-2), 2) := by decide +kernel
theorem dX9_spoil_26 : decode cX9_spoil 26 = .ok (.ireturn, 1) := by decide +kernel
theorem dX9_spoil_27 : decode cX9_spoil 27 = .ok (.aload_n 0, 1) := by decide +kernel
theorem dX9_spoil_28 : decode cX9_spoil 28 = .ok (.getfield 53, 3) := by decide +kernel
theorem dX9_spoil_31 : decode cX9_spoil 31 = .ok (.iload_n 1, 1) := by decide +kernel
theorem dX9_spoil_32 : decode cX9_spoil 32 = .ok (.iaload, 1) := by decide +kernel
theorem dX9_spoil_33 : decode cX9_spoil 33 = .ok (.istore_n 3, 1) := by decide +kernel
theorem dX9_spoil_34 : decode cX9_spoil 34 = .ok (.aload_n 0, 1) := by decide +kernel
theorem dX9_spoil_35 : decode cX9_spoil 35 = .ok (.getfield 53, 3) := by decide +kernel
theorem dX9_spoil_38 : decode cX9_spoil 38 = .ok (.iload_n 1, 1) := by decide +kernel
theorem dX9_spoil_39 : decode cX9_spoil 39 = .ok (.iload_n 3, 1) := by decide +kernel
theorem dX9_spoil_40 : decode cX9_spoil 40 = .ok (.iload_n 2, 1) := by decide +kernel
theorem dX9_spoil_41 : decode cX9_spoil 41 = .ok (.ixor, 1) := by decide +kernel
theorem dX9_spoil_42 : decode cX9_spoil 42 = .ok (.iastore, 1) := by decide +kernel
theorem dX9_spoil_43 : decode cX9_spoil 43 = .ok (.iload_n 3, 1) := by decide +kernel
theorem dX9_spoil_44 : decode cX9_spoil 44 = .ok (.ireturn, 1) := by decide +kernel
theorem dX9_audit_0 : decode cX9_audit 0 = .ok (.aload_n 0, 1) := by decide +kernel
theorem dX9_audit_1 : decode cX9_audit 1 = .ok (.getfield 206, 3) := by decide +kernel
theorem dX9_audit_4 : decode cX9_audit 4 = .ok (.ifCond .eq 6, 3) := by decide +kernel
theorem dX9_audit_7 : decode cX9_audit 7 = .ok (.bipush (-3), 2) := by decide +kernel
theorem dX9_audit_9 : decode cX9_audit 9 = .ok (.ireturn, 1) := by decide +kernel
theorem dX9_audit_10 : decode cX9_audit 10 = .ok (.iconst 0, 1) := by decide +kernel
theorem dX9_audit_11 : decode cX9_audit 11 = .ok (.istore_n 1, 1) := by decide +kernel
theorem dX9_audit_12 : decode cX9_audit 12 = .ok (.iload_n 1, 1) := by decide +kernel
theorem dX9_audit_13 : decode cX9_audit 13 = .ok (.aload_n 0, 1) := by decide +kernel
theorem dX9_audit_14 : decode cX9_audit 14 = .ok (.getfield 210, 3) := by decide +kernel
theorem dX9_audit_17 : decode cX9_audit 17 = .ok (.if_icmp .ge 136, 3) := by decide +kernel
theorem dX9_audit_20 : decode cX9_audit 20 = .ok (.aload_n 0, 1) := by decide +kernel
theorem dX9_audit_21 : decode cX9_audit 21 = .ok (.getfield 53, 3) := by decide +kernel
theorem dX9_audit_24 : decode cX9_audit 24 = .ok (.bipush 17, 2) := by decide +kernel
theorem dX9_audit_26 : decode cX9_audit 26 = .ok (.iload_n 1, 1) := by decide +kernel
theorem dX9_audit_27 : decode cX9_audit 27 = .ok (.imul, 1) := by decide +kernel
theorem dX9_audit_28 : decode cX9_audit 28 = .ok (.iaload, 1) := by decide +kernel
theorem dX9_audit_29 : decode cX9_audit 29 = .ok (.bipush 90, 2) := by decide +kernel
theorem dX9_audit_31 : decode cX9_audit 31 = .ok (.if_icmp .ne 7, 3) := by decide +kernel
theorem dX9_audit_34 : decode cX9_audit 34 = .ok (.iconst 1, 1) := by decide +kernel
theorem dX9_audit_35 : decode cX9_audit 35 = .ok (.goto 4, 3) := by decide +kernel
theorem dX9_audit_38 : decode cX9_audit 38 = .ok (.iconst 0, 1) := by decide +kernel
theorem dX9_audit_39 : decode cX9_audit 39 = .ok (.istore_n 2, 1) := by decide +kernel
theorem dX9_audit_40 : decode cX9_audit 40 = .ok (.iconst 0, 1) := by decide +kernel
theorem dX9_audit_41 : decode cX9_audit 41 = .ok (.istore_n 3, 1) := by decide +kernel
theorem dX9_audit_42 : decode cX9_audit 42 = .ok (.iload_n 3, 1) := by decide +kernel
theorem dX9_audit_43 : decode cX9_audit 43 = .ok (.bipush 12, 2) := by decide +kernel
theorem dX9_audit_45 : decode cX9_audit 45 = .ok (.if_icmp .ge 44, 3) := by decide +kernel
theorem dX9_audit_48 : decode cX9_audit 48 = .ok (.iload_n 2, 1) := by decide +kernel
theorem dX9_audit_49 : decode cX9_audit 49 = .ok (.aload_n 0, 1) := by decide +kernel
theorem dX9_audit_50 : decode cX9_audit 50 = .ok (.getfield 53, 3) := by decide +kernel
theorem dX9_audit_53 : decode cX9_audit 53 = .ok (.bipush 17, 2) := by decide +kernel
