theorem dX8_judgePath_73 : decode cX8_judgePath 73 = .ok (.iconst 1, 1) := by decide +kernel
theorem dX8_judgePath_74 : decode cX8_judgePath 74 = .ok (.goto 4, 3) := by decide +kernel
theorem dX8_judgePath_77 : decode cX8_judgePath 77 = .ok (.iconst 0, 1) := by decide +kernel
theorem dX8_judgePath_78 : decode cX8_judgePath 78 = .ok (.ireturn, 1) := by decide +kernel
theorem dX8_judgeSteps_0 : decode cX8_judgeSteps 0 = .ok (.iload_n 1, 1) := by decide +kernel
theorem dX8_judgeSteps_1 : decode cX8_judgeSteps 1 = .ok (.iconst 0, 1) := by decide +kernel
theorem dX8_judgeSteps_2 : decode cX8_judgeSteps 2 = .ok (.bipush 60, 2) := by decide +kernel
theorem dX8_judgeSteps_4 : decode cX8_judgeSteps 4 = .ok (.invokestatic 87, 3) := by decide +kernel
theorem dX8_judgeSteps_7 : decode cX8_judgeSteps 7 = .ok (.ifCond .eq 28, 3) := by decide +kernel
theorem dX8_judgeSteps_10 : decode cX8_judgeSteps 10 = .ok (.iload_n 2, 1) := by decide +kernel
theorem dX8_judgeSteps_11 : decode cX8_judgeSteps 11 = .ok (.iconst 0, 1) := by decide +kernel
theorem dX8_judgeSteps_12 : decode cX8_judgeSteps 12 = .ok (.bipush 60, 2) := by decide +kernel
theorem dX8_judgeSteps_14 : decode cX8_judgeSteps 14 = .ok (.invokestatic 87, 3) := by decide +kernel
theorem dX8_judgeSteps_17 : decode cX8_judgeSteps 17 = .ok (.ifCond .eq 18, 3) := by decide +kernel
theorem dX8_judgeSteps_20 : decode cX8_judgeSteps 20 = .ok (.iload_n 3, 1) := by decide +kernel
theorem dX8_judgeSteps_21 : decode cX8_judgeSteps 21 = .ok (.invokestatic 191, 3) := by decide +kernel
theorem dX8_judgeSteps_24 : decode cX8_judgeSteps 24 = .ok (.ifCond .eq 11, 3) := by decide +kernel
theorem dX8_judgeSteps_27 : decode cX8_judgeSteps 27 = .ok (.iload 4, 2) := by decide +kernel
theorem dX8_judgeSteps_29 : decode cX8_judgeSteps 29 = .ok (.invokestatic 191, 3) := by decide +kernel
theorem dX8_judgeSteps_32 : decode cX8_judgeSteps 32 = .ok (.ifCond .ne 6, 3) := by decide +kernel
theorem dX8_judgeSteps_35 : decode cX8_judgeSteps 35 = .ok (.bipush (-2), 2) := by decide +kernel
theorem dX8_judgeSteps_37 : decode cX8_judgeSteps 37 = .ok (.ireturn, 1) := by decide +kernel
theorem dX8_judgeSteps_38 : decode cX8_judgeSteps 38 = .ok (.aload_n 0, 1) := by decide +kernel
theorem dX8_judgeSteps_39 : decode cX8_judgeSteps 39 = .ok (.getfield 64, 3) := by decide +kernel
theorem dX8_judgeSteps_42 : decode cX8_judgeSteps 42 = .ok (.iload_n 1, 1) := by decide +kernel
theorem dX8_judgeSteps_43 : decode cX8_judgeSteps 43 = .ok (.iload_n 2, 1) := by decide +kernel
theorem dX8_judgeSteps_44 : decode cX8_judgeSteps 44 = .ok (.iload_n 3, 1) := by decide +kernel
theorem dX8_judgeSteps_45 : decode cX8_judgeSteps 45 = .ok (.iload 4, 2) := by decide +kernel
theorem dX8_judgeSteps_47 : decode cX8_judgeSteps 47 = .ok (.invokevirtual 198, 3) := by decide +kernel
theorem dX8_judgeSteps_50 : decode cX8_judgeSteps 50 = .ok (.ifCond .eq 7, 3) := by decide +kernel
theorem dX8_judgeSteps_53 : decode cX8_judgeSteps 53 = .ok (.iconst 1, 1) := by decide +kernel
theorem dX8_judgeSteps_54 : decode cX8_judgeSteps 54 = .ok (.goto 4, 3) := by decide +kernel
theorem dX8_judgeSteps_57 : decode cX8_judgeSteps 57 = .ok (.iconst 0, 1) := by decide +kernel
theorem dX8_judgeSteps_58 : decode cX8_judgeSteps 58 = .ok (.ireturn, 1) := by decide +kernel
theorem dX8_sync_0 : decode cX8_sync 0 = .ok (.aload_n 0, 1) := by decide +kernel
theorem dX8_sync_1 : decode cX8_sync 1 = .ok (.getfield 82, 3) := by decide +kernel
theorem dX8_sync_4 : decode cX8_sync 4 = .ok (.ifCond .eq 6, 3) := by decide +kernel
theorem dX8_sync_7 : decode cX8_sync 7 = .ok (.bipush (-3), 2) := by decide +kernel
theorem dX8_sync_9 : decode cX8_sync 9 = .ok (.ireturn, 1) := by decide +kernel
theorem dX8_sync_10 : decode cX8_sync 10 = .ok (.aload_n 0, 1) := by decide +kernel
theorem dX8_sync_11 : decode cX8_sync 11 = .ok (.getfield 71, 3) := by decide +kernel
theorem dX8_sync_14 : decode cX8_sync 14 = .ok (.aload_n 0, 1) := by decide +kernel
theorem dX8_sync_15 : decode cX8_sync 15 = .ok (.getfield 71, 3) := by decide +kernel
theorem dX8_sync_18 : decode cX8_sync 18 = .ok (.getfield 202, 3) := by decide +kernel
theorem dX8_sync_21 : decode cX8_sync 21 = .ok (.putfield 205, 3) := by decide +kernel
theorem dX8_sync_24 : decode cX8_sync 24 = .ok (.aload_n 0, 1) := by decide +kernel
theorem dX8_sync_25 : decode cX8_sync 25 = .ok (.getfield 71, 3) := by decide +kernel
theorem dX8_sync_28 : decode cX8_sync 28 = .ok (.getfield 205, 3) := by decide +kernel
theorem dX8_sync_31 : decode cX8_sync 31 = .ok (.ireturn, 1) := by decide +kernel
theorem dX8_cut_0 : decode cX8_cut 0 = .ok (.iload_n 1, 1) := by decide +kernel
theorem dX8_cut_1 : decode cX8_cut 1 = .ok (.iconst 0, 1) := by decide +kernel
theorem dX8_cut_2 : decode cX8_cut 2 = .ok (.sipush 1020, 3) := by decide +kernel
theorem dX8_cut_5 : decode cX8_cut 5 = .ok (.invokestatic 87, 3) := by decide +kernel
theorem dX8_cut_8 : decode cX8_cut 8 = .ok (.ifCond .ne 6, 3) := by decide +kernel
theorem dX8_cut_11 : decode cX8_cut 11 = .ok (.bipush (-2), 2) := by decide +kernel
theorem dX8_cut_13 : decode cX8_cut 13 = .ok (.ireturn, 1) := by decide +kernel
theorem dX8_cut_14 : decode cX8_cut 14 = .ok (.aload_n 0, 1) := by decide +kernel
theorem dX8_cut_15 : decode cX8_cut 15 = .ok (.getfield 82, 3) := by decide +kernel
theorem dX8_cut_18 : decode cX8_cut 18 = .ok (.ifCond .eq 6, 3) := by decide +kernel
theorem dX8_cut_21 : decode cX8_cut 21 = .ok (.bipush (-3), 2) := by decide +kernel
theorem dX8_cut_23 : decode cX8_cut 23 = .ok (.ireturn, 1) := by decide +kernel
theorem dX8_cut_24 : decode cX8_cut 24 = .ok (.aload_n 0, 1) := by decide +kernel
theorem dX8_cut_25 : decode cX8_cut 25 = .ok (.getfield 71, 3) := by decide +kernel
theorem dX8_cut_28 : decode cX8_cut 28 = .ok (.iload_n 1, 1) := by decide +kernel
theorem dX8_cut_29 : decode cX8_cut 29 = .ok (.invokevirtual 208, 3) := by decide +kernel
theorem dX8_cut_32 : decode cX8_cut 32 = .ok (.aload_n 0, 1) := by decide +kernel
theorem dX8_cut_33 : decode cX8_cut 33 = .ok (.getfield 37, 3) := by decide +kernel
theorem dX8_cut_36 : decode cX8_cut 36 = .ok (.iconst 0, 1) := by decide +kernel
theorem dX8_cut_37 : decode cX8_cut 37 = .ok (.putfield 211, 3) := by decide +kernel
theorem dX8_cut_40 : decode cX8_cut 40 = .ok (.aload_n 0, 1) := by decide +kernel
theorem dX8_cut_41 : decode cX8_cut 41 = .ok (.iconst 1, 1) := by decide +kernel
theorem dX8_cut_42 : decode cX8_cut 42 = .ok (.putfield 82, 3) := by decide +kernel
theorem dX8_cut_45 : decode cX8_cut 45 = .ok (.aload_n 0, 1) := by decide +kernel
theorem dX8_cut_46 : decode cX8_cut 46 = .ok (.getfield 71, 3) := by decide +kernel
theorem dX8_cut_49 : decode cX8_cut 49 = .ok (.getfield 202, 3) := by decide +kernel
theorem dX8_cut_52 : decode cX8_cut 52 = .ok (.ireturn, 1) := by decide +kernel
theorem dX8_open_0 : decode cX8_open 0 = .ok (.aload_n 0, 1) := by decide +kernel
theorem dX8_open_1 : decode cX8_open 1 = .ok (.getfield 82, 3) := by decide +kernel
theorem dX8_open_4 : decode cX8_open 4 = .ok (.ifCond .ne 6, 3) := by decide +kernel
theorem dX8_open_7 : decode cX8_open 7 = .ok (.bipush (-5), 2) := by decide +kernel
theorem dX8_open_9 : decode cX8_open 9 = .ok (.ireturn, 1) := by decide +kernel
theorem dX8_open_10 : decode cX8_open 10 = .ok (.iconst 0, 1) := by decide +kernel
theorem dX8_open_11 : decode cX8_open 11 = .ok (.istore_n 1, 1) := by decide +kernel
theorem dX8_open_12 : decode cX8_open 12 = .ok (.iload_n 1, 1) := by decide +kernel
theorem dX8_open_13 : decode cX8_open 13 = .ok (.bipush 60, 2) := by decide +kernel
theorem dX8_open_15 : decode cX8_open 15 = .ok (.if_icmp .ge 24, 3) := by decide +kernel
theorem dX8_open_18 : decode cX8_open 18 = .ok (.aload_n 0, 1) := by decide +kernel
theorem dX8_open_19 : decode cX8_open 19 = .ok (.iload_n 1, 1) := by decide +kernel
theorem dX8_open_20 : decode cX8_open 20 = .ok (.invokevirtual 212, 3) := by decide +kernel
theorem dX8_open_23 : decode cX8_open 23 = .ok (.ifCond .eq 16, 3) := by decide +kernel
theorem dX8_open_26 : decode cX8_open 26 = .ok (.aload_n 0, 1) := by decide +kernel
theorem dX8_open_27 : decode cX8_open 27 = .ok (.getfield 37, 3) := by decide +kernel
theorem dX8_open_30 : decode cX8_open 30 = .ok (.invokevirtual 215, 3) := by decide +kernel
theorem dX8_open_33 : decode cX8_open 33 = .ok (.iinc 1 1, 3) := by decide +kernel
theorem dX8_open_36 : decode cX8_open 36 = .ok (.goto (-24), 3) := by decide +kernel
theorem dX8_open_39 : decode cX8_open 39 = .ok (.aload_n 0, 1) := by decide +kernel
theorem dX8_open_40 : decode cX8_open 40 = .ok (.getfield 71, 3) := by decide +kernel
theorem dX8_open_43 : decode cX8_open 43 = .ok (.aload_n 0, 1) := by decide +kernel
theorem dX8_open_44 : decode cX8_open 44 = .ok (.getfield 37, 3) := by decide +kernel
theorem dX8_open_47 : decode cX8_open 47 = .ok (.getfield 211, 3) := by decide +kernel
theorem dX8_open_50 : decode cX8_open 50 = .ok (.invokevirtual 218, 3) := by decide +kernel
theorem dX8_open_53 : decode cX8_open 53 = .ok (.aload_n 0, 1) := by decide +kernel
theorem dX8_open_54 : decode cX8_open 54 = .ok (.iconst 0, 1) := by decide +kernel
theorem dX8_open_55 : decode cX8_open 55 = .ok (.putfield 82, 3) := by decide +kernel
theorem dX8_open_58 : decode cX8_open 58 = .ok (.aload_n 0, 1) := by decide +kernel
theorem dX8_open_59 : decode cX8_open 59 = .ok (.getfield 37, 3) := by decide +kernel
theorem dX8_open_62 : decode cX8_open 62 = .ok (.getfield 211, 3) := by decide +kernel
theorem dX8_open_65 : decode cX8_open 65 = .ok (.ireturn, 1) := by decide +kernel
theorem dX8_disk_0 : decode cX8_disk 0 = .ok (.iload_n 1, 1) := by decide +kernel
theorem dX8_disk_1 : decode cX8_disk 1 = .ok (.iconst 0, 1) := by decide +kernel
theorem dX8_disk_2 : decode cX8_disk 2 = .ok (.sipush 1019, 3) := by decide +kernel
theorem dX8_disk_5 : decode cX8_disk 5 = .ok (.invokestatic 87, 3) := by decide +kernel
theorem dX8_disk_8 : decode cX8_disk 8 = .ok (.ifCond .ne 6, 3) := by decide +kernel
theorem dX8_disk_11 : decode cX8_disk 11 = .ok (.bipush (-2), 2) := by decide +kernel
theorem dX8_disk_13 : decode cX8_disk 13 = .ok (.ireturn, 1) := by decide +kernel
theorem dX8_disk_14 : decode cX8_disk 14 = .ok (.aload_n 0, 1) := by decide +kernel
theorem dX8_disk_15 : decode cX8_disk 15 = .ok (.getfield 71, 3) := by decide +kernel
theorem dX8_disk_18 : decode cX8_disk 18 = .ok (.getfield 221, 3) := by decide +kernel
theorem dX8_disk_21 : decode cX8_disk 21 = .ok (.iload_n 1, 1) := by decide +kernel
theorem dX8_disk_22 : decode cX8_disk 22 = .ok (.iaload, 1) := by decide +kernel
theorem dX8_disk_23 : decode cX8_disk 23 = .ok (.ireturn, 1) := by decide +kernel
theorem dX8_spoil_0 : decode cX8_spoil 0 = .ok (.iload_n 1, 1) := by decide +kernel
theorem dX8_spoil_1 : decode cX8_spoil 1 = .ok (.iconst 0, 1) := by decide +kernel
theorem dX8_spoil_2 : decode cX8_spoil 2 = .ok (.sipush 1019, 3) := by decide +kernel
theorem dX8_spoil_5 : decode cX8_spoil 5 = .ok (.invokestatic 87, 3) := by decide +kernel
theorem dX8_spoil_8 : decode cX8_spoil 8 = .ok (.ifCond .eq 10, 3) := by decide +kernel
theorem dX8_spoil_11 : decode cX8_spoil 11 = .ok (.iload_n 2, 1) := by decide +kernel
theorem dX8_spoil_12 : decode cX8_spoil 12 = .ok (.invokestatic 182, 3) := by decide +kernel
theorem dX8_spoil_15 : decode cX8_spoil 15 = .ok (.ifCond .ne 6, 3) := by decide +kernel
theorem dX8_spoil_18 : decode cX8_spoil 18 = .ok (.bipush (-2), 2) := by decide +kernel
theorem dX8_spoil_20 : decode cX8_spoil 20 = .ok (.ireturn, 1) := by decide +kernel
theorem dX8_spoil_21 : decode cX8_spoil 21 = .ok (.aload_n 0, 1) := by decide +kernel
theorem dX8_spoil_22 : decode cX8_spoil 22 = .ok (.getfield 71, 3) := by decide +kernel
theorem dX8_spoil_25 : decode cX8_spoil 25 = .ok (.getfield 221, 3) := by decide +kernel
theorem dX8_spoil_28 : decode cX8_spoil 28 = .ok (.iload_n 1, 1) := by decide +kernel
theorem dX8_spoil_29 : decode cX8_spoil 29 = .ok (.iaload, 1) := by decide +kernel
theorem dX8_spoil_30 : decode cX8_spoil 30 = .ok (.istore_n 3, 1) := by decide +kernel
theorem dX8_spoil_31 : decode cX8_spoil 31 = .ok (.aload_n 0, 1) := by decide +kernel
theorem dX8_spoil_32 : decode cX8_spoil 32 = .ok (.getfield 71, 3) := by decide +kernel
theorem dX8_spoil_35 : decode cX8_spoil 35 = .ok (.getfield 221, 3) := by decide +kernel
theorem dX8_spoil_38 : decode cX8_spoil 38 = .ok (.iload_n 1, 1) := by decide +kernel
theorem dX8_spoil_39 : decode cX8_spoil 39 = .ok (.iload_n 3, 1) := by decide +kernel
theorem dX8_spoil_40 : decode cX8_spoil 40 = .ok (.iload_n 2, 1) := by decide +kernel
theorem dX8_spoil_41 : decode cX8_spoil 41 = .ok (.ixor, 1) := by decide +kernel
theorem dX8_spoil_42 : decode cX8_spoil 42 = .ok (.iastore, 1) := by decide +kernel
theorem dX8_spoil_43 : decode cX8_spoil 43 = .ok (.iload_n 3, 1) := by decide +kernel
theorem dX8_spoil_44 : decode cX8_spoil 44 = .ok (.ireturn, 1) := by decide +kernel
theorem dX8_audit_0 : decode cX8_audit 0 = .ok (.aload_n 0, 1) := by decide +kernel
theorem dX8_audit_1 : decode cX8_audit 1 = .ok (.getfield 82, 3) := by decide +kernel
theorem dX8_audit_4 : decode cX8_audit 4 = .ok (.ifCond .eq 6, 3) := by decide +kernel
theorem dX8_audit_7 : decode cX8_audit 7 = .ok (.bipush (-3), 2) := by decide +kernel
theorem dX8_audit_9 : decode cX8_audit 9 = .ok (.ireturn, 1) := by decide +kernel
theorem dX8_audit_10 : decode cX8_audit 10 = .ok (.iconst 0, 1) := by decide +kernel
theorem dX8_audit_11 : decode cX8_audit 11 = .ok (.istore_n 1, 1) := by decide +kernel
theorem dX8_audit_12 : decode cX8_audit 12 = .ok (.iload_n 1, 1) := by decide +kernel
theorem dX8_audit_13 : decode cX8_audit 13 = .ok (.aload_n 0, 1) := by decide +kernel
theorem dX8_audit_14 : decode cX8_audit 14 = .ok (.getfield 37, 3) := by decide +kernel
theorem dX8_audit_17 : decode cX8_audit 17 = .ok (.getfield 211, 3) := by decide +kernel
theorem dX8_audit_20 : decode cX8_audit 20 = .ok (.if_icmp .ge 26, 3) := by decide +kernel
theorem dX8_audit_23 : decode cX8_audit 23 = .ok (.aload_n 0, 1) := by decide +kernel
theorem dX8_audit_24 : decode cX8_audit 24 = .ok (.getfield 71, 3) := by decide +kernel
theorem dX8_audit_27 : decode cX8_audit 27 = .ok (.aload_n 0, 1) := by decide +kernel
theorem dX8_audit_28 : decode cX8_audit 28 = .ok (.getfield 37, 3) := by decide +kernel
theorem dX8_audit_31 : decode cX8_audit 31 = .ok (.iload_n 1, 1) := by decide +kernel
theorem dX8_audit_32 : decode cX8_audit 32 = .ok (.invokevirtual 225, 3) := by decide +kernel
theorem dX8_audit_35 : decode cX8_audit 35 = .ok (.ifCond .ne 5, 3) := by decide +kernel
theorem dX8_audit_38 : decode cX8_audit 38 = .ok (.iload_n 1, 1) := by decide +kernel
theorem dX8_audit_39 : decode cX8_audit 39 = .ok (.ireturn, 1) := by decide +kernel
theorem dX8_audit_40 : decode cX8_audit 40 = .ok (.iinc 1 1, 3) := by decide +kernel
theorem dX8_audit_43 : decode cX8_audit 43 = .ok (.goto (-31), 3) := by decide +kernel
theorem dX8_audit_46 : decode cX8_audit 46 = .ok (.iconst (-1), 1) := by decide +kernel
theorem dX8_audit_47 : decode cX8_audit 47 = .ok (.ireturn, 1) := by decide +kernel
theorem dX8_hash_0 : decode cX8_hash 0 = .ok (.iload 5, 2) := by decide +kernel
theorem dX8_hash_2 : decode cX8_hash 2 = .ok (.iconst 0, 1) := by decide +kernel
theorem dX8_hash_3 : decode cX8_hash 3 = .ok (.bipush 16, 2) := by decide +kernel
theorem dX8_hash_5 : decode cX8_hash 5 = .ok (.invokestatic 87, 3) := by decide +kernel
theorem dX8_hash_8 : decode cX8_hash 8 = .ok (.ifCond .eq 11, 3) := by decide +kernel
theorem dX8_hash_11 : decode cX8_hash 11 = .ok (.iload 6, 2) := by decide +kernel
theorem dX8_hash_13 : decode cX8_hash 13 = .ok (.invokestatic 157, 3) := by decide +kernel
theorem dX8_hash_16 : decode cX8_hash 16 = .ok (.ifCond .ne 6, 3) := by decide +kernel
theorem dX8_hash_19 : decode cX8_hash 19 = .ok (.bipush (-2), 2) := by decide +kernel
theorem dX8_hash_21 : decode cX8_hash 21 = .ok (.ireturn, 1) := by decide +kernel
theorem dX8_hash_22 : decode cX8_hash 22 = .ok (.aload_n 0, 1) := by decide +kernel
theorem dX8_hash_23 : decode cX8_hash 23 = .ok (.getfield 19, 3) := by decide +kernel
theorem dX8_hash_26 : decode cX8_hash 26 = .ok (.invokevirtual 229, 3) := by decide +kernel
theorem dX8_hash_29 : decode cX8_hash 29 = .ok (.iconst 0, 1) := by decide +kernel
theorem dX8_hash_30 : decode cX8_hash 30 = .ok (.istore 7, 2) := by decide +kernel
theorem dX8_hash_32 : decode cX8_hash 32 = .ok (.iload 7, 2) := by decide +kernel
theorem dX8_hash_34 : decode cX8_hash 34 = .ok (.iload 5, 2) := by decide +kernel
theorem dX8_hash_36 : decode cX8_hash 36 = .ok (.if_icmp .ge 49, 3) := by decide +kernel
theorem dX8_hash_39 : decode cX8_hash 39 = .ok (.iload 7, 2) := by decide +kernel
theorem dX8_hash_41 : decode cX8_hash 41 = .ok (.bipush 8, 2) := by decide +kernel
theorem dX8_hash_43 : decode cX8_hash 43 = .ok (.if_icmp .ge 7, 3) := by decide +kernel
theorem dX8_hash_46 : decode cX8_hash 46 = .ok (.lload_n 1, 1) := by decide +kernel
theorem dX8_hash_47 : decode cX8_hash 47 = .ok (.goto 4, 3) := by decide +kernel
theorem dX8_hash_50 : decode cX8_hash 50 = .ok (.lload_n 3, 1) := by decide +kernel
theorem dX8_hash_51 : decode cX8_hash 51 = .ok (.lstore 8, 2) := by decide +kernel
theorem dX8_hash_53 : decode cX8_hash 53 = .ok (.aload_n 0, 1) := by decide +kernel
theorem dX8_hash_54 : decode cX8_hash 54 = .ok (.getfield 19, 3) := by decide +kernel
theorem dX8_hash_57 : decode cX8_hash 57 = .ok (.lload 8, 2) := by decide +kernel
theorem dX8_hash_59 : decode cX8_hash 59 = .ok (.bipush 56, 2) := by decide +kernel
theorem dX8_hash_61 : decode cX8_hash 61 = .ok (.bipush 8, 2) := by decide +kernel
theorem dX8_hash_63 : decode cX8_hash 63 = .ok (.iload 7, 2) := by decide +kernel
theorem dX8_hash_65 : decode cX8_hash 65 = .ok (.bipush 7, 2) := by decide +kernel
theorem dX8_hash_67 : decode cX8_hash 67 = .ok (.iand, 1) := by decide +kernel
theorem dX8_hash_68 : decode cX8_hash 68 = .ok (.imul, 1) := by decide +kernel
theorem dX8_hash_69 : decode cX8_hash 69 = .ok (.isub, 1) := by decide +kernel
theorem dX8_hash_70 : decode cX8_hash 70 = .ok (.lushr, 1) := by decide +kernel
theorem dX8_hash_71 : decode cX8_hash 71 = .ok (.l2i, 1) := by decide +kernel
theorem dX8_hash_72 : decode cX8_hash 72 = .ok (.sipush 255, 3) := by decide +kernel
theorem dX8_hash_75 : decode cX8_hash 75 = .ok (.iand, 1) := by decide +kernel
theorem dX8_hash_76 : decode cX8_hash 76 = .ok (.invokevirtual 232, 3) := by decide +kernel
theorem dX8_hash_79 : decode cX8_hash 79 = .ok (.iinc 7 1, 3) := by decide +kernel
theorem dX8_hash_82 : decode cX8_hash 82 = .ok (.goto (-50), 3) := by decide +kernel
theorem dX8_hash_85 : decode cX8_hash 85 = .ok (.aload_n 0, 1) := by decide +kernel
theorem dX8_hash_86 : decode cX8_hash 86 = .ok (.getfield 19, 3) := by decide +kernel
theorem dX8_hash_89 : decode cX8_hash 89 = .ok (.aload_n 0, 1) := by decide +kernel
theorem dX8_hash_90 : decode cX8_hash 90 = .ok (.getfield 75, 3) := by decide +kernel
theorem dX8_hash_93 : decode cX8_hash 93 = .ok (.iconst 0, 1) := by decide +kernel
theorem dX8_hash_94 : decode cX8_hash 94 = .ok (.invokevirtual 235, 3) := by decide +kernel
theorem dX8_hash_97 : decode cX8_hash 97 = .ok (.aload_n 0, 1) := by decide +kernel
theorem dX8_hash_98 : decode cX8_hash 98 = .ok (.getfield 75, 3) := by decide +kernel
theorem dX8_hash_101 : decode cX8_hash 101 = .ok (.iconst 0, 1) := by decide +kernel
theorem dX8_hash_102 : decode cX8_hash 102 = .ok (.iload 6, 2) := by decide +kernel
theorem dX8_hash_104 : decode cX8_hash 104 = .ok (.invokevirtual 167, 3) := by decide +kernel
theorem dX8_hash_107 : decode cX8_hash 107 = .ok (.ireturn, 1) := by decide +kernel
theorem dX8_count_0 : decode cX8_count 0 = .ok (.iload_n 1, 1) := by decide +kernel
theorem dX8_count_1 : decode cX8_count 1 = .ok (.tableswitch 113 0 7 #[47, 55, 63, 71, 84, 89, 97, 105], 47) := by decide +kernel
theorem dX8_count_48 : decode cX8_count 48 = .ok (.aload_n 0, 1) := by decide +kernel
theorem dX8_count_49 : decode cX8_count 49 = .ok (.getfield 37, 3) := by decide +kernel
theorem dX8_count_52 : decode cX8_count 52 = .ok (.getfield 211, 3) := by decide +kernel
theorem dX8_count_55 : decode cX8_count 55 = .ok (.ireturn, 1) := by decide +kernel
theorem dX8_count_56 : decode cX8_count 56 = .ok (.aload_n 0, 1) := by decide +kernel
theorem dX8_count_57 : decode cX8_count 57 = .ok (.getfield 71, 3) := by decide +kernel
theorem dX8_count_60 : decode cX8_count 60 = .ok (.getfield 202, 3) := by decide +kernel
theorem dX8_count_63 : decode cX8_count 63 = .ok (.ireturn, 1) := by decide +kernel
theorem dX8_count_64 : decode cX8_count 64 = .ok (.aload_n 0, 1) := by decide +kernel
theorem dX8_count_65 : decode cX8_count 65 = .ok (.getfield 71, 3) := by decide +kernel
theorem dX8_count_68 : decode cX8_count 68 = .ok (.getfield 205, 3) := by decide +kernel
theorem dX8_count_71 : decode cX8_count 71 = .ok (.ireturn, 1) := by decide +kernel
theorem dX8_count_72 : decode cX8_count 72 = .ok (.aload_n 0, 1) := by decide +kernel
theorem dX8_count_73 : decode cX8_count 73 = .ok (.getfield 82, 3) := by decide +kernel
theorem dX8_count_76 : decode cX8_count 76 = .ok (.ifCond .eq 7, 3) := by decide +kernel
theorem dX8_count_79 : decode cX8_count 79 = .ok (.iconst 1, 1) := by decide +kernel
theorem dX8_count_80 : decode cX8_count 80 = .ok (.goto 4, 3) := by decide +kernel
theorem dX8_count_83 : decode cX8_count 83 = .ok (.iconst 0, 1) := by decide +kernel
theorem dX8_count_84 : decode cX8_count 84 = .ok (.ireturn, 1) := by decide +kernel
theorem dX8_count_85 : decode cX8_count 85 = .ok (.aload_n 0, 1) := by decide +kernel
theorem dX8_count_86 : decode cX8_count 86 = .ok (.getfield 78, 3) := by decide +kernel
theorem dX8_count_89 : decode cX8_count 89 = .ok (.ireturn, 1) := by decide +kernel
theorem dX8_count_90 : decode cX8_count 90 = .ok (.aload_n 0, 1) := by decide +kernel
theorem dX8_count_91 : decode cX8_count 91 = .ok (.getfield 46, 3) := by decide +kernel
theorem dX8_count_94 : decode cX8_count 94 = .ok (.getfield 188, 3) := by decide +kernel
theorem dX8_count_97 : decode cX8_count 97 = .ok (.ireturn, 1) := by decide +kernel
theorem dX8_count_98 : decode cX8_count 98 = .ok (.aload_n 0, 1) := by decide +kernel
theorem dX8_count_99 : decode cX8_count 99 = .ok (.getfield 12, 3) := by decide +kernel
theorem dX8_count_102 : decode cX8_count 102 = .ok (.getfield 239, 3) := by decide +kernel
theorem dX8_count_105 : decode cX8_count 105 = .ok (.ireturn, 1) := by decide +kernel
theorem dX8_count_106 : decode cX8_count 106 = .ok (.aload_n 0, 1) := by decide +kernel
theorem dX8_count_107 : decode cX8_count 107 = .ok (.getfield 12, 3) := by decide +kernel
theorem dX8_count_110 : decode cX8_count 110 = .ok (.getfield 242, 3) := by decide +kernel
theorem dX8_count_113 : decode cX8_count 113 = .ok (.ireturn, 1) := by decide +kernel
theorem dX8_count_114 : decode cX8_count 114 = .ok (.bipush (-2), 2) := by decide +kernel
theorem dX8_count_116 : decode cX8_count 116 = .ok (.ireturn, 1) := by decide +kernel
theorem dX8_digest_0 : decode cX8_digest 0 = .ok (.ldc2_w 245, 3) := by decide +kernel
theorem dX8_digest_3 : decode cX8_digest 3 = .ok (.lstore_n 1, 1) := by decide +kernel
theorem dX8_digest_4 : decode cX8_digest 4 = .ok (.iconst 0, 1) := by decide +kernel
theorem dX8_digest_5 : decode cX8_digest 5 = .ok (.istore_n 3, 1) := by decide +kernel
theorem dX8_digest_6 : decode cX8_digest 6 = .ok (.iload_n 3, 1) := by decide +kernel
theorem dX8_digest_7 : decode cX8_digest 7 = .ok (.bipush 12, 2) := by decide +kernel
theorem dX8_digest_9 : decode cX8_digest 9 = .ok (.if_icmp .ge 39, 3) := by decide +kernel
theorem dX8_digest_12 : decode cX8_digest 12 = .ok (.iconst 0, 1) := by decide +kernel
theorem dX8_digest_13 : decode cX8_digest 13 = .ok (.istore 4, 2) := by decide +kernel
theorem dX8_digest_15 : decode cX8_digest 15 = .ok (.iload 4, 2) := by decide +kernel
theorem dX8_digest_17 : decode cX8_digest 17 = .ok (.iconst 4, 1) := by decide +kernel
theorem dX8_digest_18 : decode cX8_digest 18 = .ok (.if_icmp .ge 24, 3) := by decide +kernel
theorem dX8_digest_21 : decode cX8_digest 21 = .ok (.ldc2_w 247, 3) := by decide +kernel
theorem dX8_digest_24 : decode cX8_digest 24 = .ok (.lload_n 1, 1) := by decide +kernel
theorem dX8_digest_25 : decode cX8_digest 25 = .ok (.lmul, 1) := by decide +kernel
theorem dX8_digest_26 : decode cX8_digest 26 = .ok (.aload_n 0, 1) := by decide +kernel
theorem dX8_digest_27 : decode cX8_digest 27 = .ok (.iload_n 3, 1) := by decide +kernel
theorem dX8_digest_28 : decode cX8_digest 28 = .ok (.iload 4, 2) := by decide +kernel
theorem dX8_digest_30 : decode cX8_digest 30 = .ok (.invokevirtual 249, 3) := by decide +kernel
theorem dX8_digest_33 : decode cX8_digest 33 = .ok (.i2l, 1) := by decide +kernel
theorem dX8_digest_34 : decode cX8_digest 34 = .ok (.ladd, 1) := by decide +kernel
theorem dX8_digest_35 : decode cX8_digest 35 = .ok (.lstore_n 1, 1) := by decide +kernel
theorem dX8_digest_36 : decode cX8_digest 36 = .ok (.iinc 4 1, 3) := by decide +kernel
theorem dX8_digest_39 : decode cX8_digest 39 = .ok (.goto (-24), 3) := by decide +kernel
theorem dX8_digest_42 : decode cX8_digest 42 = .ok (.iinc 3 1, 3) := by decide +kernel
theorem dX8_digest_45 : decode cX8_digest 45 = .ok (.goto (-39), 3) := by decide +kernel
theorem dX8_digest_48 : decode cX8_digest 48 = .ok (.iconst 0, 1) := by decide +kernel
theorem dX8_digest_49 : decode cX8_digest 49 = .ok (.istore_n 3, 1) := by decide +kernel
theorem dX8_digest_50 : decode cX8_digest 50 = .ok (.iload_n 3, 1) := by decide +kernel
theorem dX8_digest_51 : decode cX8_digest 51 = .ok (.bipush 16, 2) := by decide +kernel
theorem dX8_digest_53 : decode cX8_digest 53 = .ok (.if_icmp .ge 39, 3) := by decide +kernel
theorem dX8_digest_56 : decode cX8_digest 56 = .ok (.iconst 0, 1) := by decide +kernel
theorem dX8_digest_57 : decode cX8_digest 57 = .ok (.istore 4, 2) := by decide +kernel
theorem dX8_digest_59 : decode cX8_digest 59 = .ok (.iload 4, 2) := by decide +kernel
theorem dX8_digest_61 : decode cX8_digest 61 = .ok (.iconst 2, 1) := by decide +kernel
theorem dX8_digest_62 : decode cX8_digest 62 = .ok (.if_icmp .ge 24, 3) := by decide +kernel
theorem dX8_digest_65 : decode cX8_digest 65 = .ok (.ldc2_w 247, 3) := by decide +kernel
theorem dX8_digest_68 : decode cX8_digest 68 = .ok (.lload_n 1, 1) := by decide +kernel
theorem dX8_digest_69 : decode cX8_digest 69 = .ok (.lmul, 1) := by decide +kernel
theorem dX8_digest_70 : decode cX8_digest 70 = .ok (.aload_n 0, 1) := by decide +kernel
theorem dX8_digest_71 : decode cX8_digest 71 = .ok (.iload_n 3, 1) := by decide +kernel
theorem dX8_digest_72 : decode cX8_digest 72 = .ok (.iload 4, 2) := by decide +kernel
theorem dX8_digest_74 : decode cX8_digest 74 = .ok (.invokevirtual 252, 3) := by decide +kernel
theorem dX8_digest_77 : decode cX8_digest 77 = .ok (.i2l, 1) := by decide +kernel
theorem dX8_digest_78 : decode cX8_digest 78 = .ok (.ladd, 1) := by decide +kernel
theorem dX8_digest_79 : decode cX8_digest 79 = .ok (.lstore_n 1, 1) := by decide +kernel
theorem dX8_digest_80 : decode cX8_digest 80 = .ok (.iinc 4 1, 3) := by decide +kernel
theorem dX8_digest_83 : decode cX8_digest 83 = .ok (.goto (-24), 3) := by decide +kernel
theorem dX8_digest_86 : decode cX8_digest 86 = .ok (.iinc 3 1, 3) := by decide +kernel
theorem dX8_digest_89 : decode cX8_digest 89 = .ok (.goto (-39), 3) := by decide +kernel
theorem dX8_digest_92 : decode cX8_digest 92 = .ok (.iconst 0, 1) := by decide +kernel
theorem dX8_digest_93 : decode cX8_digest 93 = .ok (.istore_n 3, 1) := by decide +kernel
theorem dX8_digest_94 : decode cX8_digest 94 = .ok (.iload_n 3, 1) := by decide +kernel
theorem dX8_digest_95 : decode cX8_digest 95 = .ok (.sipush 1020, 3) := by decide +kernel
theorem dX8_digest_98 : decode cX8_digest 98 = .ok (.if_icmp .ge 26, 3) := by decide +kernel
theorem dX8_digest_101 : decode cX8_digest 101 = .ok (.ldc2_w 247, 3) := by decide +kernel
theorem dX8_digest_104 : decode cX8_digest 104 = .ok (.lload_n 1, 1) := by decide +kernel
theorem dX8_digest_105 : decode cX8_digest 105 = .ok (.lmul, 1) := by decide +kernel
theorem dX8_digest_106 : decode cX8_digest 106 = .ok (.aload_n 0, 1) := by decide +kernel
theorem dX8_digest_107 : decode cX8_digest 107 = .ok (.getfield 71, 3) := by decide +kernel
theorem dX8_digest_110 : decode cX8_digest 110 = .ok (.getfield 221, 3) := by decide +kernel
theorem dX8_digest_113 : decode cX8_digest 113 = .ok (.iload_n 3, 1) := by decide +kernel
theorem dX8_digest_114 : decode cX8_digest 114 = .ok (.iaload, 1) := by decide +kernel
theorem dX8_digest_115 : decode cX8_digest 115 = .ok (.i2l, 1) := by decide +kernel
theorem dX8_digest_116 : decode cX8_digest 116 = .ok (.ladd, 1) := by decide +kernel
theorem dX8_digest_117 : decode cX8_digest 117 = .ok (.lstore_n 1, 1) := by decide +kernel
theorem dX8_digest_118 : decode cX8_digest 118 = .ok (.iinc 3 1, 3) := by decide +kernel
theorem dX8_digest_121 : decode cX8_digest 121 = .ok (.goto (-27), 3) := by decide +kernel
theorem dX8_digest_124 : decode cX8_digest 124 = .ok (.iconst 0, 1) := by decide +kernel
theorem dX8_digest_125 : decode cX8_digest 125 = .ok (.istore_n 3, 1) := by decide +kernel
theorem dX8_digest_126 : decode cX8_digest 126 = .ok (.iload_n 3, 1) := by decide +kernel
theorem dX8_digest_127 : decode cX8_digest 127 = .ok (.bipush 6, 2) := by decide +kernel
theorem dX8_digest_129 : decode cX8_digest 129 = .ok (.if_icmp .ge 22, 3) := by decide +kernel
theorem dX8_digest_132 : decode cX8_digest 132 = .ok (.ldc2_w 247, 3) := by decide +kernel
theorem dX8_digest_135 : decode cX8_digest 135 = .ok (.lload_n 1, 1) := by decide +kernel
theorem dX8_digest_136 : decode cX8_digest 136 = .ok (.lmul, 1) := by decide +kernel
theorem dX8_digest_137 : decode cX8_digest 137 = .ok (.aload_n 0, 1) := by decide +kernel
theorem dX8_digest_138 : decode cX8_digest 138 = .ok (.iload_n 3, 1) := by decide +kernel
theorem dX8_digest_139 : decode cX8_digest 139 = .ok (.invokevirtual 255, 3) := by decide +kernel
theorem dX8_digest_142 : decode cX8_digest 142 = .ok (.i2l, 1) := by decide +kernel
theorem dX8_digest_143 : decode cX8_digest 143 = .ok (.ladd, 1) := by decide +kernel
theorem dX8_digest_144 : decode cX8_digest 144 = .ok (.lstore_n 1, 1) := by decide +kernel
theorem dX8_digest_145 : decode cX8_digest 145 = .ok (.iinc 3 1, 3) := by decide +kernel
theorem dX8_digest_148 : decode cX8_digest 148 = .ok (.goto (-22), 3) := by decide +kernel
theorem dX8_digest_151 : decode cX8_digest 151 = .ok (.lload_n 1, 1) := by decide +kernel
theorem dX8_digest_152 : decode cX8_digest 152 = .ok (.lreturn, 1) := by decide +kernel
theorem dX8_within_0 : decode cX8_within 0 = .ok (.iload_n 0, 1) := by decide +kernel
theorem dX8_within_1 : decode cX8_within 1 = .ok (.iload_n 1, 1) := by decide +kernel
theorem dX8_within_2 : decode cX8_within 2 = .ok (.if_icmp .lt 12, 3) := by decide +kernel
theorem dX8_within_5 : decode cX8_within 5 = .ok (.iload_n 0, 1) := by decide +kernel
theorem dX8_within_6 : decode cX8_within 6 = .ok (.iload_n 2, 1) := by decide +kernel
theorem dX8_within_7 : decode cX8_within 7 = .ok (.if_icmp .gt 7, 3) := by decide +kernel
theorem dX8_within_10 : decode cX8_within 10 = .ok (.iconst 1, 1) := by decide +kernel
theorem dX8_within_11 : decode cX8_within 11 = .ok (.goto 4, 3) := by decide +kernel
theorem dX8_within_14 : decode cX8_within 14 = .ok (.iconst 0, 1) := by decide +kernel
theorem dX8_within_15 : decode cX8_within 15 = .ok (.ireturn, 1) := by decide +kernel
theorem dX8_isSubject_0 : decode cX8_isSubject 0 = .ok (.iload_n 0, 1) := by decide +kernel
theorem dX8_isSubject_1 : decode cX8_isSubject 1 = .ok (.iconst 0, 1) := by decide +kernel
theorem dX8_isSubject_2 : decode cX8_isSubject 2 = .ok (.bipush 11, 2) := by decide +kernel
theorem dX8_isSubject_4 : decode cX8_isSubject 4 = .ok (.invokestatic 87, 3) := by decide +kernel
theorem dX8_isSubject_7 : decode cX8_isSubject 7 = .ok (.ireturn, 1) := by decide +kernel
theorem dX8_isObject_0 : decode cX8_isObject 0 = .ok (.iload_n 0, 1) := by decide +kernel
theorem dX8_isObject_1 : decode cX8_isObject 1 = .ok (.iconst 0, 1) := by decide +kernel
theorem dX8_isObject_2 : decode cX8_isObject 2 = .ok (.bipush 15, 2) := by decide +kernel
theorem dX8_isObject_4 : decode cX8_isObject 4 = .ok (.invokestatic 87, 3) := by decide +kernel
theorem dX8_isObject_7 : decode cX8_isObject 7 = .ok (.ireturn, 1) := by decide +kernel
theorem dX8_isRight_0 : decode cX8_isRight 0 = .ok (.iload_n 0, 1) := by decide +kernel
theorem dX8_isRight_1 : decode cX8_isRight 1 = .ok (.iconst 0, 1) := by decide +kernel
theorem dX8_isRight_2 : decode cX8_isRight 2 = .ok (.iconst 3, 1) := by decide +kernel
theorem dX8_isRight_3 : decode cX8_isRight 3 = .ok (.invokestatic 87, 3) := by decide +kernel
theorem dX8_isRight_6 : decode cX8_isRight 6 = .ok (.ireturn, 1) := by decide +kernel
theorem dX8_isLevel_0 : decode cX8_isLevel 0 = .ok (.iload_n 0, 1) := by decide +kernel
theorem dX8_isLevel_1 : decode cX8_isLevel 1 = .ok (.iconst 0, 1) := by decide +kernel
theorem dX8_isLevel_2 : decode cX8_isLevel 2 = .ok (.bipush 7, 2) := by decide +kernel
theorem dX8_isLevel_4 : decode cX8_isLevel 4 = .ok (.invokestatic 87, 3) := by decide +kernel
theorem dX8_isLevel_7 : decode cX8_isLevel 7 = .ok (.ireturn, 1) := by decide +kernel
theorem dX8_isParty_0 : decode cX8_isParty 0 = .ok (.iload_n 0, 1) := by decide +kernel
theorem dX8_isParty_1 : decode cX8_isParty 1 = .ok (.invokestatic 92, 3) := by decide +kernel
theorem dX8_isParty_4 : decode cX8_isParty 4 = .ok (.ifCond .ne 14, 3) := by decide +kernel
theorem dX8_isParty_7 : decode cX8_isParty 7 = .ok (.iload_n 0, 1) := by decide +kernel
theorem dX8_isParty_8 : decode cX8_isParty 8 = .ok (.bipush 16, 2) := by decide +kernel
theorem dX8_isParty_10 : decode cX8_isParty 10 = .ok (.bipush 19, 2) := by decide +kernel
theorem dX8_isParty_12 : decode cX8_isParty 12 = .ok (.invokestatic 87, 3) := by decide +kernel
theorem dX8_isParty_15 : decode cX8_isParty 15 = .ok (.ifCond .eq 7, 3) := by decide +kernel
theorem dX8_isParty_18 : decode cX8_isParty 18 = .ok (.iconst 1, 1) := by decide +kernel
theorem dX8_isParty_19 : decode cX8_isParty 19 = .ok (.goto 4, 3) := by decide +kernel
theorem dX8_isParty_22 : decode cX8_isParty 22 = .ok (.iconst 0, 1) := by decide +kernel
theorem dX8_isParty_23 : decode cX8_isParty 23 = .ok (.ireturn, 1) := by decide +kernel
theorem dX8_isHashByte_0 : decode cX8_isHashByte 0 = .ok (.iload_n 0, 1) := by decide +kernel
theorem dX8_isHashByte_1 : decode cX8_isHashByte 1 = .ok (.iconst 0, 1) := by decide +kernel
theorem dX8_isHashByte_2 : decode cX8_isHashByte 2 = .ok (.bipush 31, 2) := by decide +kernel
theorem dX8_isHashByte_4 : decode cX8_isHashByte 4 = .ok (.invokestatic 87, 3) := by decide +kernel
theorem dX8_isHashByte_7 : decode cX8_isHashByte 7 = .ok (.ireturn, 1) := by decide +kernel
theorem dX8_isMask_0 : decode cX8_isMask 0 = .ok (.iload_n 0, 1) := by decide +kernel
theorem dX8_isMask_1 : decode cX8_isMask 1 = .ok (.iconst 1, 1) := by decide +kernel
theorem dX8_isMask_2 : decode cX8_isMask 2 = .ok (.sipush 255, 3) := by decide +kernel
theorem dX8_isMask_5 : decode cX8_isMask 5 = .ok (.invokestatic 87, 3) := by decide +kernel
theorem dX8_isMask_8 : decode cX8_isMask 8 = .ok (.ireturn, 1) := by decide +kernel
theorem dX8_isKeptRoot_0 : decode cX8_isKeptRoot 0 = .ok (.iload_n 0, 1) := by decide +kernel
theorem dX8_isKeptRoot_1 : decode cX8_isKeptRoot 1 = .ok (.iconst 0, 1) := by decide +kernel
theorem dX8_isKeptRoot_2 : decode cX8_isKeptRoot 2 = .ok (.iconst 3, 1) := by decide +kernel
theorem dX8_isKeptRoot_3 : decode cX8_isKeptRoot 3 = .ok (.invokestatic 87, 3) := by decide +kernel
theorem dX8_isKeptRoot_6 : decode cX8_isKeptRoot 6 = .ok (.ireturn, 1) := by decide +kernel
theorem dX8_isEntry_0 : decode cX8_isEntry 0 = .ok (.iload_n 1, 1) := by decide +kernel
theorem dX8_isEntry_1 : decode cX8_isEntry 1 = .ok (.iconst 0, 1) := by decide +kernel
theorem dX8_isEntry_2 : decode cX8_isEntry 2 = .ok (.aload_n 0, 1) := by decide +kernel
theorem dX8_isEntry_3 : decode cX8_isEntry 3 = .ok (.getfield 37, 3) := by decide +kernel
theorem dX8_isEntry_6 : decode cX8_isEntry 6 = .ok (.getfield 211, 3) := by decide +kernel
theorem dX8_isEntry_9 : decode cX8_isEntry 9 = .ok (.iconst 1, 1) := by decide +kernel
theorem dX8_isEntry_10 : decode cX8_isEntry 10 = .ok (.isub, 1) := by decide +kernel
theorem dX8_isEntry_11 : decode cX8_isEntry 11 = .ok (.invokestatic 87, 3) := by decide +kernel
theorem dX8_isEntry_14 : decode cX8_isEntry 14 = .ok (.ireturn, 1) := by decide +kernel
theorem dX8_isLength_0 : decode cX8_isLength 0 = .ok (.iload_n 1, 1) := by decide +kernel
theorem dX8_isLength_1 : decode cX8_isLength 1 = .ok (.iconst 0, 1) := by decide +kernel
theorem dX8_isLength_2 : decode cX8_isLength 2 = .ok (.aload_n 0, 1) := by decide +kernel
theorem dX8_isLength_3 : decode cX8_isLength 3 = .ok (.getfield 37, 3) := by decide +kernel
theorem dX8_isLength_6 : decode cX8_isLength 6 = .ok (.getfield 211, 3) := by decide +kernel
theorem dX8_isLength_9 : decode cX8_isLength 9 = .ok (.invokestatic 87, 3) := by decide +kernel
theorem dX8_isLength_12 : decode cX8_isLength 12 = .ok (.ireturn, 1) := by decide +kernel
theorem dX8_isProofHash_0 : decode cX8_isProofHash 0 = .ok (.iload_n 1, 1) := by decide +kernel
theorem dX8_isProofHash_1 : decode cX8_isProofHash 1 = .ok (.iconst 0, 1) := by decide +kernel
theorem dX8_isProofHash_2 : decode cX8_isProofHash 2 = .ok (.aload_n 0, 1) := by decide +kernel
theorem dX8_isProofHash_3 : decode cX8_isProofHash 3 = .ok (.getfield 46, 3) := by decide +kernel
theorem dX8_isProofHash_6 : decode cX8_isProofHash 6 = .ok (.getfield 188, 3) := by decide +kernel
theorem dX8_isProofHash_9 : decode cX8_isProofHash 9 = .ok (.iconst 1, 1) := by decide +kernel
theorem dX8_isProofHash_10 : decode cX8_isProofHash 10 = .ok (.isub, 1) := by decide +kernel
theorem dX8_isProofHash_11 : decode cX8_isProofHash 11 = .ok (.invokestatic 87, 3) := by decide +kernel
theorem dX8_isProofHash_14 : decode cX8_isProofHash 14 = .ok (.ireturn, 1) := by decide +kernel
theorem dX8_refusal_0 : decode cX8_refusal 0 = .ok (.aload_n 0, 1) := by decide +kernel
theorem dX8_refusal_1 : decode cX8_refusal 1 = .ok (.getfield 82, 3) := by decide +kernel
theorem dX8_refusal_4 : decode cX8_refusal 4 = .ok (.ifCond .eq 6, 3) := by decide +kernel
theorem dX8_refusal_7 : decode cX8_refusal 7 = .ok (.bipush (-3), 2) := by decide +kernel
theorem dX8_refusal_9 : decode cX8_refusal 9 = .ok (.ireturn, 1) := by decide +kernel
theorem dX8_refusal_10 : decode cX8_refusal 10 = .ok (.aload_n 0, 1) := by decide +kernel
theorem dX8_refusal_11 : decode cX8_refusal 11 = .ok (.getfield 37, 3) := by decide +kernel
theorem dX8_refusal_14 : decode cX8_refusal 14 = .ok (.getfield 211, 3) := by decide +kernel
theorem dX8_refusal_17 : decode cX8_refusal 17 = .ok (.bipush 60, 2) := by decide +kernel
theorem dX8_refusal_19 : decode cX8_refusal 19 = .ok (.if_icmp .lt 8, 3) := by decide +kernel
theorem dX8_refusal_22 : decode cX8_refusal 22 = .ok (.bipush (-4), 2) := by decide +kernel
theorem dX8_refusal_24 : decode cX8_refusal 24 = .ok (.goto 4, 3) := by decide +kernel
theorem dX8_refusal_27 : decode cX8_refusal 27 = .ok (.iconst 0, 1) := by decide +kernel
theorem dX8_refusal_28 : decode cX8_refusal 28 = .ok (.ireturn, 1) := by decide +kernel
theorem dX8_setGiven_0 : decode cX8_setGiven 0 = .ok (.iload_n 1, 1) := by decide +kernel
theorem dX8_setGiven_1 : decode cX8_setGiven 1 = .ok (.invokestatic 142, 3) := by decide +kernel
theorem dX8_setGiven_4 : decode cX8_setGiven 4 = .ok (.ifCond .eq 17, 3) := by decide +kernel
theorem dX8_setGiven_7 : decode cX8_setGiven 7 = .ok (.iload_n 2, 1) := by decide +kernel
theorem dX8_setGiven_8 : decode cX8_setGiven 8 = .ok (.invokestatic 96, 3) := by decide +kernel
theorem dX8_setGiven_11 : decode cX8_setGiven 11 = .ok (.ifCond .eq 10, 3) := by decide +kernel
theorem dX8_setGiven_14 : decode cX8_setGiven 14 = .ok (.iload_n 3, 1) := by decide +kernel
theorem dX8_setGiven_15 : decode cX8_setGiven 15 = .ok (.invokestatic 99, 3) := by decide +kernel
theorem dX8_setGiven_18 : decode cX8_setGiven 18 = .ok (.ifCond .ne 6, 3) := by decide +kernel
theorem dX8_setGiven_21 : decode cX8_setGiven 21 = .ok (.bipush (-2), 2) := by decide +kernel
theorem dX8_setGiven_23 : decode cX8_setGiven 23 = .ok (.ireturn, 1) := by decide +kernel
theorem dX8_setGiven_24 : decode cX8_setGiven 24 = .ok (.aload_n 0, 1) := by decide +kernel
theorem dX8_setGiven_25 : decode cX8_setGiven 25 = .ok (.invokevirtual 102, 3) := by decide +kernel
theorem dX8_setGiven_28 : decode cX8_setGiven 28 = .ok (.istore 5, 2) := by decide +kernel
theorem dX8_setGiven_30 : decode cX8_setGiven 30 = .ok (.iload 5, 2) := by decide +kernel
theorem dX8_setGiven_32 : decode cX8_setGiven 32 = .ok (.ifCond .eq 6, 3) := by decide +kernel
theorem dX8_setGiven_35 : decode cX8_setGiven 35 = .ok (.iload 5, 2) := by decide +kernel
theorem dX8_setGiven_37 : decode cX8_setGiven 37 = .ok (.ireturn, 1) := by decide +kernel
theorem dX8_setGiven_38 : decode cX8_setGiven 38 = .ok (.aload_n 0, 1) := by decide +kernel
theorem dX8_setGiven_39 : decode cX8_setGiven 39 = .ok (.getfield 12, 3) := by decide +kernel
theorem dX8_setGiven_42 : decode cX8_setGiven 42 = .ok (.iload_n 1, 1) := by decide +kernel
theorem dX8_setGiven_43 : decode cX8_setGiven 43 = .ok (.iload_n 2, 1) := by decide +kernel
theorem dX8_setGiven_44 : decode cX8_setGiven 44 = .ok (.iload_n 3, 1) := by decide +kernel
theorem dX8_setGiven_45 : decode cX8_setGiven 45 = .ok (.invokevirtual 145, 3) := by decide +kernel
theorem dX8_setGiven_48 : decode cX8_setGiven 48 = .ok (.istore 6, 2) := by decide +kernel
theorem dX8_setGiven_50 : decode cX8_setGiven 50 = .ok (.aload_n 0, 1) := by decide +kernel
theorem dX8_setGiven_51 : decode cX8_setGiven 51 = .ok (.getfield 12, 3) := by decide +kernel
theorem dX8_setGiven_54 : decode cX8_setGiven 54 = .ok (.iload_n 1, 1) := by decide +kernel
theorem dX8_setGiven_55 : decode cX8_setGiven 55 = .ok (.iload_n 2, 1) := by decide +kernel
theorem dX8_setGiven_56 : decode cX8_setGiven 56 = .ok (.iload_n 3, 1) := by decide +kernel
theorem dX8_setGiven_57 : decode cX8_setGiven 57 = .ok (.iload 4, 2) := by decide +kernel
theorem dX8_setGiven_59 : decode cX8_setGiven 59 = .ok (.invokevirtual 259, 3) := by decide +kernel
theorem dX8_setGiven_62 : decode cX8_setGiven 62 = .ok (.aload_n 0, 1) := by decide +kernel
theorem dX8_setGiven_63 : decode cX8_setGiven 63 = .ok (.iload 4, 2) := by decide +kernel
theorem dX8_setGiven_65 : decode cX8_setGiven 65 = .ok (.ifCond .eq 7, 3) := by decide +kernel
theorem dX8_setGiven_68 : decode cX8_setGiven 68 = .ok (.iconst 1, 1) := by decide +kernel
theorem dX8_setGiven_69 : decode cX8_setGiven 69 = .ok (.goto 4, 3) := by decide +kernel
theorem dX8_setGiven_72 : decode cX8_setGiven 72 = .ok (.iconst 2, 1) := by decide +kernel
theorem dX8_setGiven_73 : decode cX8_setGiven 73 = .ok (.iload_n 1, 1) := by decide +kernel
theorem dX8_setGiven_74 : decode cX8_setGiven 74 = .ok (.iload_n 2, 1) := by decide +kernel
theorem dX8_setGiven_75 : decode cX8_setGiven 75 = .ok (.iload_n 3, 1) := by decide +kernel
theorem dX8_setGiven_76 : decode cX8_setGiven 76 = .ok (.iconst 0, 1) := by decide +kernel
theorem dX8_setGiven_77 : decode cX8_setGiven 77 = .ok (.invokevirtual 114, 3) := by decide +kernel
theorem dX8_setGiven_80 : decode cX8_setGiven 80 = .ok (.iload 6, 2) := by decide +kernel
theorem dX8_setGiven_82 : decode cX8_setGiven 82 = .ok (.iload 4, 2) := by decide +kernel
theorem dX8_setGiven_84 : decode cX8_setGiven 84 = .ok (.if_icmp .eq 7, 3) := by decide +kernel
theorem dX8_setGiven_87 : decode cX8_setGiven 87 = .ok (.iconst 1, 1) := by decide +kernel
theorem dX8_setGiven_88 : decode cX8_setGiven 88 = .ok (.goto 4, 3) := by decide +kernel
theorem dX8_setGiven_91 : decode cX8_setGiven 91 = .ok (.iconst 0, 1) := by decide +kernel
theorem dX8_setGiven_92 : decode cX8_setGiven 92 = .ok (.ireturn, 1) := by decide +kernel
theorem dX8_writeEntry_0 : decode cX8_writeEntry 0 = .ok (.aload_n 0, 1) := by decide +kernel
theorem dX8_writeEntry_1 : decode cX8_writeEntry 1 = .ok (.getfield 37, 3) := by decide +kernel
theorem dX8_writeEntry_4 : decode cX8_writeEntry 4 = .ok (.iload_n 1, 1) := by decide +kernel
theorem dX8_writeEntry_5 : decode cX8_writeEntry 5 = .ok (.iload_n 2, 1) := by decide +kernel
theorem dX8_writeEntry_6 : decode cX8_writeEntry 6 = .ok (.iload_n 3, 1) := by decide +kernel
theorem dX8_writeEntry_7 : decode cX8_writeEntry 7 = .ok (.iload 4, 2) := by decide +kernel
theorem dX8_writeEntry_9 : decode cX8_writeEntry 9 = .ok (.iload 5, 2) := by decide +kernel
theorem dX8_writeEntry_11 : decode cX8_writeEntry 11 = .ok (.invokevirtual 263, 3) := by decide +kernel
theorem dX8_writeEntry_14 : decode cX8_writeEntry 14 = .ok (.aload_n 0, 1) := by decide +kernel
theorem dX8_writeEntry_15 : decode cX8_writeEntry 15 = .ok (.getfield 37, 3) := by decide +kernel
theorem dX8_writeEntry_18 : decode cX8_writeEntry 18 = .ok (.aload_n 0, 1) := by decide +kernel
theorem dX8_writeEntry_19 : decode cX8_writeEntry 19 = .ok (.getfield 78, 3) := by decide +kernel
theorem dX8_writeEntry_22 : decode cX8_writeEntry 22 = .ok (.invokevirtual 266, 3) := by decide +kernel
theorem dX8_writeEntry_25 : decode cX8_writeEntry 25 = .ok (.aload_n 0, 1) := by decide +kernel
theorem dX8_writeEntry_26 : decode cX8_writeEntry 26 = .ok (.getfield 37, 3) := by decide +kernel
theorem dX8_writeEntry_29 : decode cX8_writeEntry 29 = .ok (.invokevirtual 269, 3) := by decide +kernel
theorem dX8_writeEntry_32 : decode cX8_writeEntry 32 = .ok (.aload_n 0, 1) := by decide +kernel
theorem dX8_writeEntry_33 : decode cX8_writeEntry 33 = .ok (.getfield 37, 3) := by decide +kernel
theorem dX8_writeEntry_36 : decode cX8_writeEntry 36 = .ok (.invokevirtual 215, 3) := by decide +kernel
theorem dX8_writeEntry_39 : decode cX8_writeEntry 39 = .ok (.aload_n 0, 1) := by decide +kernel
theorem dX8_writeEntry_40 : decode cX8_writeEntry 40 = .ok (.getfield 71, 3) := by decide +kernel
theorem dX8_writeEntry_43 : decode cX8_writeEntry 43 = .ok (.aload_n 0, 1) := by decide +kernel
theorem dX8_writeEntry_44 : decode cX8_writeEntry 44 = .ok (.getfield 37, 3) := by decide +kernel
theorem dX8_writeEntry_47 : decode cX8_writeEntry 47 = .ok (.aload_n 0, 1) := by decide +kernel
theorem dX8_writeEntry_48 : decode cX8_writeEntry 48 = .ok (.getfield 37, 3) := by decide +kernel
theorem dX8_writeEntry_51 : decode cX8_writeEntry 51 = .ok (.getfield 211, 3) := by decide +kernel
theorem dX8_writeEntry_54 : decode cX8_writeEntry 54 = .ok (.iconst 1, 1) := by decide +kernel
theorem dX8_writeEntry_55 : decode cX8_writeEntry 55 = .ok (.isub, 1) := by decide +kernel
theorem dX8_writeEntry_56 : decode cX8_writeEntry 56 = .ok (.invokevirtual 272, 3) := by decide +kernel
theorem dX8_writeEntry_59 : decode cX8_writeEntry 59 = .ok (.return_, 1) := by decide +kernel
theorem dX8_readFrame_0 : decode cX8_readFrame 0 = .ok (.iconst 0, 1) := by decide +kernel
theorem dX8_readFrame_1 : decode cX8_readFrame 1 = .ok (.istore_n 2, 1) := by decide +kernel
theorem dX8_readFrame_2 : decode cX8_readFrame 2 = .ok (.iload_n 2, 1) := by decide +kernel
theorem dX8_readFrame_3 : decode cX8_readFrame 3 = .ok (.bipush 12, 2) := by decide +kernel
theorem dX8_readFrame_5 : decode cX8_readFrame 5 = .ok (.if_icmp .ge 33, 3) := by decide +kernel
theorem dX8_readFrame_8 : decode cX8_readFrame 8 = .ok (.aload_n 0, 1) := by decide +kernel
theorem dX8_readFrame_9 : decode cX8_readFrame 9 = .ok (.getfield 37, 3) := by decide +kernel
theorem dX8_readFrame_12 : decode cX8_readFrame 12 = .ok (.iload_n 2, 1) := by decide +kernel
theorem dX8_readFrame_13 : decode cX8_readFrame 13 = .ok (.aload_n 0, 1) := by decide +kernel
theorem dX8_readFrame_14 : decode cX8_readFrame 14 = .ok (.getfield 71, 3) := by decide +kernel
theorem dX8_readFrame_17 : decode cX8_readFrame 17 = .ok (.getfield 221, 3) := by decide +kernel
theorem dX8_readFrame_20 : decode cX8_readFrame 20 = .ok (.iload_n 1, 1) := by decide +kernel
theorem dX8_readFrame_21 : decode cX8_readFrame 21 = .ok (.bipush 17, 2) := by decide +kernel
theorem dX8_readFrame_23 : decode cX8_readFrame 23 = .ok (.imul, 1) := by decide +kernel
theorem dX8_readFrame_24 : decode cX8_readFrame 24 = .ok (.iconst 1, 1) := by decide +kernel
theorem dX8_readFrame_25 : decode cX8_readFrame 25 = .ok (.iadd, 1) := by decide +kernel
theorem dX8_readFrame_26 : decode cX8_readFrame 26 = .ok (.iload_n 2, 1) := by decide +kernel
theorem dX8_readFrame_27 : decode cX8_readFrame 27 = .ok (.iadd, 1) := by decide +kernel
theorem dX8_readFrame_28 : decode cX8_readFrame 28 = .ok (.iaload, 1) := by decide +kernel
theorem dX8_readFrame_29 : decode cX8_readFrame 29 = .ok (.invokevirtual 276, 3) := by decide +kernel
theorem dX8_readFrame_32 : decode cX8_readFrame 32 = .ok (.iinc 2 1, 3) := by decide +kernel
theorem dX8_readFrame_35 : decode cX8_readFrame 35 = .ok (.goto (-33), 3) := by decide +kernel
theorem dX8_readFrame_38 : decode cX8_readFrame 38 = .ok (.aload_n 0, 1) := by decide +kernel
theorem dX8_readFrame_39 : decode cX8_readFrame 39 = .ok (.getfield 37, 3) := by decide +kernel
theorem dX8_readFrame_42 : decode cX8_readFrame 42 = .ok (.invokevirtual 269, 3) := by decide +kernel
theorem dX8_readFrame_45 : decode cX8_readFrame 45 = .ok (.aload_n 0, 1) := by decide +kernel
theorem dX8_readFrame_46 : decode cX8_readFrame 46 = .ok (.getfield 37, 3) := by decide +kernel
theorem dX8_readFrame_49 : decode cX8_readFrame 49 = .ok (.iload_n 1, 1) := by decide +kernel
theorem dX8_readFrame_50 : decode cX8_readFrame 50 = .ok (.iconst 0, 1) := by decide +kernel
theorem dX8_readFrame_51 : decode cX8_readFrame 51 = .ok (.invokevirtual 151, 3) := by decide +kernel
theorem dX8_readFrame_54 : decode cX8_readFrame 54 = .ok (.bipush 8, 2) := by decide +kernel
theorem dX8_readFrame_56 : decode cX8_readFrame 56 = .ok (.ishl, 1) := by decide +kernel
theorem dX8_readFrame_57 : decode cX8_readFrame 57 = .ok (.aload_n 0, 1) := by decide +kernel
theorem dX8_readFrame_58 : decode cX8_readFrame 58 = .ok (.getfield 37, 3) := by decide +kernel
theorem dX8_readFrame_61 : decode cX8_readFrame 61 = .ok (.iload_n 1, 1) := by decide +kernel
theorem dX8_readFrame_62 : decode cX8_readFrame 62 = .ok (.iconst 1, 1) := by decide +kernel
theorem dX8_readFrame_63 : decode cX8_readFrame 63 = .ok (.invokevirtual 151, 3) := by decide +kernel
theorem dX8_readFrame_66 : decode cX8_readFrame 66 = .ok (.ior, 1) := by decide +kernel
theorem dX8_readFrame_67 : decode cX8_readFrame 67 = .ok (.istore_n 2, 1) := by decide +kernel
theorem dX8_readFrame_68 : decode cX8_readFrame 68 = .ok (.iload_n 2, 1) := by decide +kernel
theorem dX8_readFrame_69 : decode cX8_readFrame 69 = .ok (.iload_n 1, 1) := by decide +kernel
theorem dX8_readFrame_70 : decode cX8_readFrame 70 = .ok (.if_icmp .ne 22, 3) := by decide +kernel
theorem dX8_readFrame_73 : decode cX8_readFrame 73 = .ok (.aload_n 0, 1) := by decide +kernel
theorem dX8_readFrame_74 : decode cX8_readFrame 74 = .ok (.getfield 71, 3) := by decide +kernel
theorem dX8_readFrame_77 : decode cX8_readFrame 77 = .ok (.aload_n 0, 1) := by decide +kernel
theorem dX8_readFrame_78 : decode cX8_readFrame 78 = .ok (.getfield 37, 3) := by decide +kernel
theorem dX8_readFrame_81 : decode cX8_readFrame 81 = .ok (.iload_n 1, 1) := by decide +kernel
theorem dX8_readFrame_82 : decode cX8_readFrame 82 = .ok (.invokevirtual 225, 3) := by decide +kernel
theorem dX8_readFrame_85 : decode cX8_readFrame 85 = .ok (.ifCond .eq 7, 3) := by decide +kernel
theorem dX8_readFrame_88 : decode cX8_readFrame 88 = .ok (.iconst 1, 1) := by decide +kernel
theorem dX8_readFrame_89 : decode cX8_readFrame 89 = .ok (.goto 4, 3) := by decide +kernel
theorem dX8_readFrame_92 : decode cX8_readFrame 92 = .ok (.iconst 0, 1) := by decide +kernel
theorem dX8_readFrame_93 : decode cX8_readFrame 93 = .ok (.ireturn, 1) := by decide +kernel
theorem dX9_init_0 : decode cX9_init 0 = .ok (.aload_n 0, 1) := by decide +kernel
theorem dX9_init_1 : decode cX9_init 1 = .ok (.invokespecial 1, 3) := by decide +kernel
theorem dX9_init_4 : decode cX9_init 4 = .ok (.aload_n 0, 1) := by decide +kernel
theorem dX9_init_5 : decode cX9_init 5 = .ok (.bipush 64, 2) := by decide +kernel
theorem dX9_init_7 : decode cX9_init 7 = .ok (.newarray .int, 2) := by decide +kernel
theorem dX9_init_9 : decode cX9_init 9 = .ok (.putfield 7, 3) := by decide +kernel
theorem dX9_init_12 : decode cX9_init 12 = .ok (.aload_n 0, 1) := by decide +kernel
theorem dX9_init_13 : decode cX9_init 13 = .ok (.bipush 64, 2) := by decide +kernel
theorem dX9_init_15 : decode cX9_init 15 = .ok (.newarray .int, 2) := by decide +kernel
theorem dX9_init_17 : decode cX9_init 17 = .ok (.putfield 13, 3) := by decide +kernel
theorem dX9_init_20 : decode cX9_init 20 = .ok (.aload_n 0, 1) := by decide +kernel
theorem dX9_init_21 : decode cX9_init 21 = .ok (.bipush 8, 2) := by decide +kernel
theorem dX9_init_23 : decode cX9_init 23 = .ok (.newarray .int, 2) := by decide +kernel
theorem dX9_init_25 : decode cX9_init 25 = .ok (.putfield 16, 3) := by decide +kernel
theorem dX9_init_28 : decode cX9_init 28 = .ok (.aload_n 0, 1) := by decide +kernel
theorem dX9_init_29 : decode cX9_init 29 = .ok (.sipush 128, 3) := by decide +kernel
theorem dX9_init_32 : decode cX9_init 32 = .ok (.newarray .int, 2) := by decide +kernel
theorem dX9_init_34 : decode cX9_init 34 = .ok (.putfield 19, 3) := by decide +kernel
theorem dX9_init_37 : decode cX9_init 37 = .ok (.aload_n 0, 1) := by decide +kernel
theorem dX9_init_38 : decode cX9_init 38 = .ok (.bipush 32, 2) := by decide +kernel
theorem dX9_init_40 : decode cX9_init 40 = .ok (.newarray .int, 2) := by decide +kernel
theorem dX9_init_42 : decode cX9_init 42 = .ok (.putfield 22, 3) := by decide +kernel
theorem dX9_init_45 : decode cX9_init 45 = .ok (.aload_n 0, 1) := by decide +kernel
theorem dX9_init_46 : decode cX9_init 46 = .ok (.bipush 12, 2) := by decide +kernel
theorem dX9_init_48 : decode cX9_init 48 = .ok (.newarray .int, 2) := by decide +kernel
theorem dX9_init_50 : decode cX9_init 50 = .ok (.putfield 25, 3) := by decide +kernel
theorem dX9_init_53 : decode cX9_init 53 = .ok (.aload_n 0, 1) := by decide +kernel
theorem dX9_init_54 : decode cX9_init 54 = .ok (.bipush 12, 2) := by decide +kernel
theorem dX9_init_56 : decode cX9_init 56 = .ok (.newarray .int, 2) := by decide +kernel
theorem dX9_init_58 : decode cX9_init 58 = .ok (.putfield 28, 3) := by decide +kernel
theorem dX9_init_61 : decode cX9_init 61 = .ok (.aload_n 0, 1) := by decide +kernel
theorem dX9_init_62 : decode cX9_init 62 = .ok (.bipush 12, 2) := by decide +kernel
theorem dX9_init_64 : decode cX9_init 64 = .ok (.newarray .boolean, 2) := by decide +kernel
theorem dX9_init_66 : decode cX9_init 66 = .ok (.putfield 31, 3) := by decide +kernel
theorem dX9_init_69 : decode cX9_init 69 = .ok (.aload_n 0, 1) := by decide +kernel
theorem dX9_init_70 : decode cX9_init 70 = .ok (.bipush 12, 2) := by decide +kernel
theorem dX9_init_72 : decode cX9_init 72 = .ok (.newarray .int, 2) := by decide +kernel
theorem dX9_init_74 : decode cX9_init 74 = .ok (.putfield 35, 3) := by decide +kernel
theorem dX9_init_77 : decode cX9_init 77 = .ok (.aload_n 0, 1) := by decide +kernel
theorem dX9_init_78 : decode cX9_init 78 = .ok (.bipush 16, 2) := by decide +kernel
theorem dX9_init_80 : decode cX9_init 80 = .ok (.newarray .int, 2) := by decide +kernel
theorem dX9_init_82 : decode cX9_init 82 = .ok (.putfield 38, 3) := by decide +kernel
theorem dX9_init_85 : decode cX9_init 85 = .ok (.aload_n 0, 1) := by decide +kernel
theorem dX9_init_86 : decode cX9_init 86 = .ok (.bipush 16, 2) := by decide +kernel
theorem dX9_init_88 : decode cX9_init 88 = .ok (.newarray .int, 2) := by decide +kernel
theorem dX9_init_90 : decode cX9_init 90 = .ok (.putfield 41, 3) := by decide +kernel
theorem dX9_init_93 : decode cX9_init 93 = .ok (.aload_n 0, 1) := by decide +kernel
theorem dX9_init_94 : decode cX9_init 94 = .ok (.sipush 1024, 3) := by decide +kernel
theorem dX9_init_97 : decode cX9_init 97 = .ok (.newarray .boolean, 2) := by decide +kernel
theorem dX9_init_99 : decode cX9_init 99 = .ok (.putfield 44, 3) := by decide +kernel
theorem dX9_init_102 : decode cX9_init 102 = .ok (.aload_n 0, 1) := by decide +kernel
theorem dX9_init_103 : decode cX9_init 103 = .ok (.sipush 720, 3) := by decide +kernel
theorem dX9_init_106 : decode cX9_init 106 = .ok (.newarray .int, 2) := by decide +kernel
theorem dX9_init_108 : decode cX9_init 108 = .ok (.putfield 47, 3) := by decide +kernel
theorem dX9_init_111 : decode cX9_init 111 = .ok (.aload_n 0, 1) := by decide +kernel
theorem dX9_init_112 : decode cX9_init 112 = .ok (.sipush 1952, 3) := by decide +kernel
theorem dX9_init_115 : decode cX9_init 115 = .ok (.newarray .int, 2) := by decide +kernel
theorem dX9_init_117 : decode cX9_init 117 = .ok (.putfield 50, 3) := by decide +kernel
theorem dX9_init_120 : decode cX9_init 120 = .ok (.aload_n 0, 1) := by decide +kernel
theorem dX9_init_121 : decode cX9_init 121 = .ok (.sipush 1020, 3) := by decide +kernel
theorem dX9_init_124 : decode cX9_init 124 = .ok (.newarray .int, 2) := by decide +kernel
theorem dX9_init_126 : decode cX9_init 126 = .ok (.putfield 53, 3) := by decide +kernel
theorem dX9_init_129 : decode cX9_init 129 = .ok (.aload_n 0, 1) := by decide +kernel
theorem dX9_init_130 : decode cX9_init 130 = .ok (.sipush 256, 3) := by decide +kernel
theorem dX9_init_133 : decode cX9_init 133 = .ok (.newarray .int, 2) := by decide +kernel
theorem dX9_init_135 : decode cX9_init 135 = .ok (.putfield 56, 3) := by decide +kernel
theorem dX9_init_138 : decode cX9_init 138 = .ok (.aload_n 0, 1) := by decide +kernel
theorem dX9_init_139 : decode cX9_init 139 = .ok (.bipush 8, 2) := by decide +kernel
theorem dX9_init_141 : decode cX9_init 141 = .ok (.newarray .int, 2) := by decide +kernel
theorem dX9_init_143 : decode cX9_init 143 = .ok (.putfield 59, 3) := by decide +kernel
theorem dX9_init_146 : decode cX9_init 146 = .ok (.aload_n 0, 1) := by decide +kernel
theorem dX9_init_147 : decode cX9_init 147 = .ok (.bipush 32, 2) := by decide +kernel
theorem dX9_init_149 : decode cX9_init 149 = .ok (.newarray .int, 2) := by decide +kernel
theorem dX9_init_151 : decode cX9_init 151 = .ok (.putfield 62, 3) := by decide +kernel
theorem dX9_init_154 : decode cX9_init 154 = .ok (.aload_n 0, 1) := by decide +kernel
theorem dX9_init_155 : decode cX9_init 155 = .ok (.sipush 256, 3) := by decide +kernel
theorem dX9_init_158 : decode cX9_init 158 = .ok (.newarray .int, 2) := by decide +kernel
theorem dX9_init_160 : decode cX9_init 160 = .ok (.putfield 65, 3) := by decide +kernel
theorem dX9_init_163 : decode cX9_init 163 = .ok (.aload_n 0, 1) := by decide +kernel
theorem dX9_init_164 : decode cX9_init 164 = .ok (.bipush 8, 2) := by decide +kernel
theorem dX9_init_166 : decode cX9_init 166 = .ok (.newarray .int, 2) := by decide +kernel
theorem dX9_init_168 : decode cX9_init 168 = .ok (.putfield 68, 3) := by decide +kernel
theorem dX9_init_171 : decode cX9_init 171 = .ok (.aload_n 0, 1) := by decide +kernel
theorem dX9_init_172 : decode cX9_init 172 = .ok (.bipush 8, 2) := by decide +kernel
theorem dX9_init_174 : decode cX9_init 174 = .ok (.newarray .int, 2) := by decide +kernel
theorem dX9_init_176 : decode cX9_init 176 = .ok (.putfield 71, 3) := by decide +kernel
theorem dX9_init_179 : decode cX9_init 179 = .ok (.aload_n 0, 1) := by decide +kernel
theorem dX9_init_180 : decode cX9_init 180 = .ok (.sipush 128, 3) := by decide +kernel
theorem dX9_init_183 : decode cX9_init 183 = .ok (.newarray .int, 2) := by decide +kernel
theorem dX9_init_185 : decode cX9_init 185 = .ok (.putfield 74, 3) := by decide +kernel
theorem dX9_init_188 : decode cX9_init 188 = .ok (.aload_n 0, 1) := by decide +kernel
theorem dX9_init_189 : decode cX9_init 189 = .ok (.bipush 32, 2) := by decide +kernel
theorem dX9_init_191 : decode cX9_init 191 = .ok (.newarray .int, 2) := by decide +kernel
theorem dX9_init_193 : decode cX9_init 193 = .ok (.putfield 77, 3) := by decide +kernel
theorem dX9_init_196 : decode cX9_init 196 = .ok (.aload_n 0, 1) := by decide +kernel
theorem dX9_init_197 : decode cX9_init 197 = .ok (.bipush 32, 2) := by decide +kernel
theorem dX9_init_199 : decode cX9_init 199 = .ok (.newarray .int, 2) := by decide +kernel
theorem dX9_init_201 : decode cX9_init 201 = .ok (.putfield 80, 3) := by decide +kernel
theorem dX9_init_204 : decode cX9_init 204 = .ok (.aload_n 0, 1) := by decide +kernel
theorem dX9_init_205 : decode cX9_init 205 = .ok (.sipush 288, 3) := by decide +kernel
theorem dX9_init_208 : decode cX9_init 208 = .ok (.newarray .int, 2) := by decide +kernel
theorem dX9_init_210 : decode cX9_init 210 = .ok (.putfield 83, 3) := by decide +kernel
theorem dX9_init_213 : decode cX9_init 213 = .ok (.aload_n 0, 1) := by decide +kernel
theorem dX9_init_214 : decode cX9_init 214 = .ok (.getfield 7, 3) := by decide +kernel
theorem dX9_init_217 : decode cX9_init 217 = .ok (.iconst 0, 1) := by decide +kernel
theorem dX9_init_218 : decode cX9_init 218 = .ok (.ldc 86, 2) := by decide +kernel
theorem dX9_init_220 : decode cX9_init 220 = .ok (.iastore, 1) := by decide +kernel
theorem dX9_init_221 : decode cX9_init 221 = .ok (.aload_n 0, 1) := by decide +kernel
theorem dX9_init_222 : decode cX9_init 222 = .ok (.getfield 7, 3) := by decide +kernel
theorem dX9_init_225 : decode cX9_init 225 = .ok (.iconst 1, 1) := by decide +kernel
theorem dX9_init_226 : decode cX9_init 226 = .ok (.ldc 87, 2) := by decide +kernel
theorem dX9_init_228 : decode cX9_init 228 = .ok (.iastore, 1) := by decide +kernel
theorem dX9_init_229 : decode cX9_init 229 = .ok (.aload_n 0, 1) := by decide +kernel
theorem dX9_init_230 : decode cX9_init 230 = .ok (.getfield 7, 3) := by decide +kernel
theorem dX9_init_233 : decode cX9_init 233 = .ok (.iconst 2, 1) := by decide +kernel
theorem dX9_init_234 : decode cX9_init 234 = .ok (.ldc 88, 2) := by decide +kernel
theorem dX9_init_236 : decode cX9_init 236 = .ok (.iastore, 1) := by decide +kernel
theorem dX9_init_237 : decode cX9_init 237 = .ok (.aload_n 0, 1) := by decide +kernel
theorem dX9_init_238 : decode cX9_init 238 = .ok (.getfield 7, 3) := by decide +kernel
theorem dX9_init_241 : decode cX9_init 241 = .ok (.iconst 3, 1) := by decide +kernel
theorem dX9_init_242 : decode cX9_init 242 = .ok (.ldc 89, 2) := by decide +kernel
theorem dX9_init_244 : decode cX9_init 244 = .ok (.iastore, 1) := by decide +kernel
theorem dX9_init_245 : decode cX9_init 245 = .ok (.aload_n 0, 1) := by decide +kernel
theorem dX9_init_246 : decode cX9_init 246 = .ok (.getfield 7, 3) := by decide +kernel
theorem dX9_init_249 : decode cX9_init 249 = .ok (.iconst 4, 1) := by decide +kernel
theorem dX9_init_250 : decode cX9_init 250 = .ok (.ldc 90, 2) := by decide +kernel
theorem dX9_init_252 : decode cX9_init 252 = .ok (.iastore, 1) := by decide +kernel
theorem dX9_init_253 : decode cX9_init 253 = .ok (.aload_n 0, 1) := by decide +kernel
theorem dX9_init_254 : decode cX9_init 254 = .ok (.getfield 7, 3) := by decide +kernel
theorem dX9_init_257 : decode cX9_init 257 = .ok (.iconst 5, 1) := by decide +kernel
theorem dX9_init_258 : decode cX9_init 258 = .ok (.ldc 91, 2) := by decide +kernel
theorem dX9_init_260 : decode cX9_init 260 = .ok (.iastore, 1) := by decide +kernel
theorem dX9_init_261 : decode cX9_init 261 = .ok (.aload_n 0, 1) := by decide +kernel
theorem dX9_init_262 : decode cX9_init 262 = .ok (.getfield 7, 3) := by decide +kernel
theorem dX9_init_265 : decode cX9_init 265 = .ok (.bipush 6, 2) := by decide +kernel
theorem dX9_init_267 : decode cX9_init 267 = .ok (.ldc 92, 2) := by decide +kernel
theorem dX9_init_269 : decode cX9_init 269 = .ok (.iastore, 1) := by decide +kernel
theorem dX9_init_270 : decode cX9_init 270 = .ok (.aload_n 0, 1) := by decide +kernel
theorem dX9_init_271 : decode cX9_init 271 = .ok (.getfield 7, 3) := by decide +kernel
theorem dX9_init_274 : decode cX9_init 274 = .ok (.bipush 7, 2) := by decide +kernel
theorem dX9_init_276 : decode cX9_init 276 = .ok (.ldc 93, 2) := by decide +kernel
theorem dX9_init_278 : decode cX9_init 278 = .ok (.iastore, 1) := by decide +kernel
theorem dX9_init_279 : decode cX9_init 279 = .ok (.aload_n 0, 1) := by decide +kernel
theorem dX9_init_280 : decode cX9_init 280 = .ok (.getfield 7, 3) := by decide +kernel
theorem dX9_init_283 : decode cX9_init 283 = .ok (.bipush 8, 2) := by decide +kernel
theorem dX9_init_285 : decode cX9_init 285 = .ok (.ldc 94, 2) := by decide +kernel
theorem dX9_init_287 : decode cX9_init 287 = .ok (.iastore, 1) := by decide +kernel
theorem dX9_init_288 : decode cX9_init 288 = .ok (.aload_n 0, 1) := by decide +kernel
theorem dX9_init_289 : decode cX9_init 289 = .ok (.getfield 7, 3) := by decide +kernel
theorem dX9_init_292 : decode cX9_init 292 = .ok (.bipush 9, 2) := by decide +kernel
theorem dX9_init_294 : decode cX9_init 294 = .ok (.ldc 95, 2) := by decide +kernel
theorem dX9_init_296 : decode cX9_init 296 = .ok (.iastore, 1) := by decide +kernel
theorem dX9_init_297 : decode cX9_init 297 = .ok (.aload_n 0, 1) := by decide +kernel
theorem dX9_init_298 : decode cX9_init 298 = .ok (.getfield 7, 3) := by decide +kernel
theorem dX9_init_301 : decode cX9_init 301 = .ok (.bipush 10, 2) := by decide +kernel
theorem dX9_init_303 : decode cX9_init 303 = .ok (.ldc 96, 2) := by decide +kernel
theorem dX9_init_305 : decode cX9_init 305 = .ok (.iastore, 1) := by decide +kernel
theorem dX9_init_306 : decode cX9_init 306 = .ok (.aload_n 0, 1) := by decide +kernel
theorem dX9_init_307 : decode cX9_init 307 = .ok (.getfield 7, 3) := by decide +kernel
theorem dX9_init_310 : decode cX9_init 310 = .ok (.bipush 11, 2) := by decide +kernel
theorem dX9_init_312 : decode cX9_init 312 = .ok (.ldc 97, 2) := by decide +kernel
theorem dX9_init_314 : decode cX9_init 314 = .ok (.iastore, 1) := by decide +kernel
theorem dX9_init_315 : decode cX9_init 315 = .ok (.aload_n 0, 1) := by decide +kernel
theorem dX9_init_316 : decode cX9_init 316 = .ok (.getfield 7, 3) := by decide +kernel
theorem dX9_init_319 : decode cX9_init 319 = .ok (.bipush 12, 2) := by decide +kernel
theorem dX9_init_321 : decode cX9_init 321 = .ok (.ldc 98, 2) := by decide +kernel
theorem dX9_init_323 : decode cX9_init 323 = .ok (.iastore, 1) := by decide +kernel
theorem dX9_init_324 : decode cX9_init 324 = .ok (.aload_n 0, 1) := by decide +kernel
theorem dX9_init_325 : decode cX9_init 325 = .ok (.getfield 7, 3) := by decide +kernel
theorem dX9_init_328 : decode cX9_init 328 = .ok (.bipush 13, 2) := by decide +kernel
theorem dX9_init_330 : decode cX9_init 330 = .ok (.ldc 99, 2) := by decide +kernel
theorem dX9_init_332 : decode cX9_init 332 = .ok (.iastore, 1) := by decide +kernel
theorem dX9_init_333 : decode cX9_init 333 = .ok (.aload_n 0, 1) := by decide +kernel
theorem dX9_init_334 : decode cX9_init 334 = .ok (.getfield 7, 3) := by decide +kernel
theorem dX9_init_337 : decode cX9_init 337 = .ok (.bipush 14, 2) := by decide +kernel
theorem dX9_init_339 : decode cX9_init 339 = .ok (.ldc 100, 2) := by decide +kernel
theorem dX9_init_341 : decode cX9_init 341 = .ok (.iastore, 1) := by decide +kernel
theorem dX9_init_342 : decode cX9_init 342 = .ok (.aload_n 0, 1) := by decide +kernel
theorem dX9_init_343 : decode cX9_init 343 = .ok (.getfield 7, 3) := by decide +kernel
theorem dX9_init_346 : decode cX9_init 346 = .ok (.bipush 15, 2) := by decide +kernel
theorem dX9_init_348 : decode cX9_init 348 = .ok (.ldc 101, 2) := by decide +kernel
theorem dX9_init_350 : decode cX9_init 350 = .ok (.iastore, 1) := by decide +kernel
theorem dX9_init_351 : decode cX9_init 351 = .ok (.aload_n 0, 1) := by decide +kernel
theorem dX9_init_352 : decode cX9_init 352 = .ok (.getfield 7, 3) := by decide +kernel
theorem dX9_init_355 : decode cX9_init 355 = .ok (.bipush 16, 2) := by decide +kernel
theorem dX9_init_357 : decode cX9_init 357 = .ok (.ldc 102, 2) := by decide +kernel
theorem dX9_init_359 : decode cX9_init 359 = .ok (.iastore, 1) := by decide +kernel
theorem dX9_init_360 : decode cX9_init 360 = .ok (.aload_n 0, 1) := by decide +kernel
theorem dX9_init_361 : decode cX9_init 361 = .ok (.getfield 7, 3) := by decide +kernel
theorem dX9_init_364 : decode cX9_init 364 = .ok (.bipush 17, 2) := by decide +kernel
theorem dX9_init_366 : decode cX9_init 366 = .ok (.ldc 103, 2) := by decide +kernel
theorem dX9_init_368 : decode cX9_init 368 = .ok (.iastore, 1) := by decide +kernel
theorem dX9_init_369 : decode cX9_init 369 = .ok (.aload_n 0, 1) := by decide +kernel
theorem dX9_init_370 : decode cX9_init 370 = .ok (.getfield 7, 3) := by decide +kernel
theorem dX9_init_373 : decode cX9_init 373 = .ok (.bipush 18, 2) := by decide +kernel
theorem dX9_init_375 : decode cX9_init 375 = .ok (.ldc 104, 2) := by decide +kernel
theorem dX9_init_377 : decode cX9_init 377 = .ok (.iastore, 1) := by decide +kernel
theorem dX9_init_378 : decode cX9_init 378 = .ok (.aload_n 0, 1) := by decide +kernel
theorem dX9_init_379 : decode cX9_init 379 = .ok (.getfield 7, 3) := by decide +kernel
theorem dX9_init_382 : decode cX9_init 382 = .ok (.bipush 19, 2) := by decide +kernel
theorem dX9_init_384 : decode cX9_init 384 = .ok (.ldc 105, 2) := by decide +kernel
theorem dX9_init_386 : decode cX9_init 386 = .ok (.iastore, 1) := by decide +kernel
theorem dX9_init_387 : decode cX9_init 387 = .ok (.aload_n 0, 1) := by decide +kernel
theorem dX9_init_388 : decode cX9_init 388 = .ok (.getfield 7, 3) := by decide +kernel
theorem dX9_init_391 : decode cX9_init 391 = .ok (.bipush 20, 2) := by decide +kernel
theorem dX9_init_393 : decode cX9_init 393 = .ok (.ldc 106, 2) := by decide +kernel
theorem dX9_init_395 : decode cX9_init 395 = .ok (.iastore, 1) := by decide +kernel
theorem dX9_init_396 : decode cX9_init 396 = .ok (.aload_n 0, 1) := by decide +kernel
theorem dX9_init_397 : decode cX9_init 397 = .ok (.getfield 7, 3) := by decide +kernel
theorem dX9_init_400 : decode cX9_init 400 = .ok (.bipush 21, 2) := by decide +kernel
theorem dX9_init_402 : decode cX9_init 402 = .ok (.ldc 107, 2) := by decide +kernel
theorem dX9_init_404 : decode cX9_init 404 = .ok (.iastore, 1) := by decide +kernel
theorem dX9_init_405 : decode cX9_init 405 = .ok (.aload_n 0, 1) := by decide +kernel
theorem dX9_init_406 : decode cX9_init 406 = .ok (.getfield 7, 3) := by decide +kernel
theorem dX9_init_409 : decode cX9_init 409 = .ok (.bipush 22, 2) := by decide +kernel
theorem dX9_init_411 : decode cX9_init 411 = .ok (.ldc 108, 2) := by decide +kernel
theorem dX9_init_413 : decode cX9_init 413 = .ok (.iastore, 1) := by decide +kernel
theorem dX9_init_414 : decode cX9_init 414 = .ok (.aload_n 0, 1) := by decide +kernel
theorem dX9_init_415 : decode cX9_init 415 = .ok (.getfield 7, 3) := by decide +kernel
theorem dX9_init_418 : decode cX9_init 418 = .ok (.bipush 23, 2) := by decide +kernel
theorem dX9_init_420 : decode cX9_init 420 = .ok (.ldc 109, 2) := by decide +kernel
theorem dX9_init_422 : decode cX9_init 422 = .ok (.iastore, 1) := by decide +kernel
theorem dX9_init_423 : decode cX9_init 423 = .ok (.aload_n 0, 1) := by decide +kernel
theorem dX9_init_424 : decode cX9_init 424 = .ok (.getfield 7, 3) := by decide +kernel
theorem dX9_init_427 : decode cX9_init 427 = .ok (.bipush 24, 2) := by decide +kernel
theorem dX9_init_429 : decode cX9_init 429 = .ok (.ldc 110, 2) := by decide +kernel
theorem dX9_init_431 : decode cX9_init 431 = .ok (.iastore, 1) := by decide +kernel
theorem dX9_init_432 : decode cX9_init 432 = .ok (.aload_n 0, 1) := by decide +kernel
theorem dX9_init_433 : decode cX9_init 433 = .ok (.getfield 7, 3) := by decide +kernel
theorem dX9_init_436 : decode cX9_init 436 = .ok (.bipush 25, 2) := by decide +kernel
theorem dX9_init_438 : decode cX9_init 438 = .ok (.ldc 111, 2) := by decide +kernel
theorem dX9_init_440 : decode cX9_init 440 = .ok (.iastore, 1) := by decide +kernel
theorem dX9_init_441 : decode cX9_init 441 = .ok (.aload_n 0, 1) := by decide +kernel
theorem dX9_init_442 : decode cX9_init 442 = .ok (.getfield 7, 3) := by decide +kernel
theorem dX9_init_445 : decode cX9_init 445 = .ok (.bipush 26, 2) := by decide +kernel
theorem dX9_init_447 : decode cX9_init 447 = .ok (.ldc 112, 2) := by decide +kernel
theorem dX9_init_449 : decode cX9_init 449 = .ok (.iastore, 1) := by decide +kernel
theorem dX9_init_450 : decode cX9_init 450 = .ok (.aload_n 0, 1) := by decide +kernel
theorem dX9_init_451 : decode cX9_init 451 = .ok (.getfield 7, 3) := by decide +kernel
theorem dX9_init_454 : decode cX9_init 454 = .ok (.bipush 27, 2) := by decide +kernel
theorem dX9_init_456 : decode cX9_init 456 = .ok (.ldc 113, 2) := by decide +kernel
theorem dX9_init_458 : decode cX9_init 458 = .ok (.iastore, 1) := by decide +kernel
theorem dX9_init_459 : decode cX9_init 459 = .ok (.aload_n 0, 1) := by decide +kernel
theorem dX9_init_460 : decode cX9_init 460 = .ok (.getfield 7, 3) := by decide +kernel
theorem dX9_init_463 : decode cX9_init 463 = .ok (.bipush 28, 2) := by decide +kernel
theorem dX9_init_465 : decode cX9_init 465 = .ok (.ldc 114, 2) := by decide +kernel
theorem dX9_init_467 : decode cX9_init 467 = .ok (.iastore, 1) := by decide +kernel
theorem dX9_init_468 : decode cX9_init 468 = .ok (.aload_n 0, 1) := by decide +kernel
theorem dX9_init_469 : decode cX9_init 469 = .ok (.getfield 7, 3) := by decide +kernel
theorem dX9_init_472 : decode cX9_init 472 = .ok (.bipush 29, 2) := by decide +kernel
theorem dX9_init_474 : decode cX9_init 474 = .ok (.ldc 115, 2) := by decide +kernel
theorem dX9_init_476 : decode cX9_init 476 = .ok (.iastore, 1) := by decide +kernel
theorem dX9_init_477 : decode cX9_init 477 = .ok (.aload_n 0, 1) := by decide +kernel
theorem dX9_init_478 : decode cX9_init 478 = .ok (.getfield 7, 3) := by decide +kernel
theorem dX9_init_481 : decode cX9_init 481 = .ok (.bipush 30, 2) := by decide +kernel
theorem dX9_init_483 : decode cX9_init 483 = .ok (.ldc 116, 2) := by decide +kernel
theorem dX9_init_485 : decode cX9_init 485 = .ok (.iastore, 1) := by decide +kernel
theorem dX9_init_486 : decode cX9_init 486 = .ok (.aload_n 0, 1) := by decide +kernel
theorem dX9_init_487 : decode cX9_init 487 = .ok (.getfield 7, 3) := by decide +kernel
theorem dX9_init_490 : decode cX9_init 490 = .ok (.bipush 31, 2) := by decide +kernel
theorem dX9_init_492 : decode cX9_init 492 = .ok (.ldc 117, 2) := by decide +kernel
theorem dX9_init_494 : decode cX9_init 494 = .ok (.iastore, 1) := by decide +kernel
theorem dX9_init_495 : decode cX9_init 495 = .ok (.aload_n 0, 1) := by decide +kernel
theorem dX9_init_496 : decode cX9_init 496 = .ok (.getfield 7, 3) := by decide +kernel
theorem dX9_init_499 : decode cX9_init 499 = .ok (.bipush 32, 2) := by decide +kernel
theorem dX9_init_501 : decode cX9_init 501 = .ok (.ldc 118, 2) := by decide +kernel
theorem dX9_init_503 : decode cX9_init 503 = .ok (.iastore, 1) := by decide +kernel
theorem dX9_init_504 : decode cX9_init 504 = .ok (.aload_n 0, 1) := by decide +kernel
theorem dX9_init_505 : decode cX9_init 505 = .ok (.getfield 7, 3) := by decide +kernel
theorem dX9_init_508 : decode cX9_init 508 = .ok (.bipush 33, 2) := by decide +kernel
theorem dX9_init_510 : decode cX9_init 510 = .ok (.ldc 119, 2) := by decide +kernel
theorem dX9_init_512 : decode cX9_init 512 = .ok (.iastore, 1) := by decide +kernel
theorem dX9_init_513 : decode cX9_init 513 = .ok (.aload_n 0, 1) := by decide +kernel
theorem dX9_init_514 : decode cX9_init 514 = .ok (.getfield 7, 3) := by decide +kernel
theorem dX9_init_517 : decode cX9_init 517 = .ok (.bipush 34, 2) := by decide +kernel
theorem dX9_init_519 : decode cX9_init 519 = .ok (.ldc 120, 2) := by decide +kernel
theorem dX9_init_521 : decode cX9_init 521 = .ok (.iastore, 1) := by decide +kernel
theorem dX9_init_522 : decode cX9_init 522 = .ok (.aload_n 0, 1) := by decide +kernel
theorem dX9_init_523 : decode cX9_init 523 = .ok (.getfield 7, 3) := by decide +kernel
theorem dX9_init_526 : decode cX9_init 526 = .ok (.bipush 35, 2) := by decide +kernel
theorem dX9_init_528 : decode cX9_init 528 = .ok (.ldc 121, 2) := by decide +kernel
theorem dX9_init_530 : decode cX9_init 530 = .ok (.iastore, 1) := by decide +kernel
theorem dX9_init_531 : decode cX9_init 531 = .ok (.aload_n 0, 1) := by decide +kernel
theorem dX9_init_532 : decode cX9_init 532 = .ok (.getfield 7, 3) := by decide +kernel
theorem dX9_init_535 : decode cX9_init 535 = .ok (.bipush 36, 2) := by decide +kernel
theorem dX9_init_537 : decode cX9_init 537 = .ok (.ldc 122, 2) := by decide +kernel
theorem dX9_init_539 : decode cX9_init 539 = .ok (.iastore, 1) := by decide +kernel
theorem dX9_init_540 : decode cX9_init 540 = .ok (.aload_n 0, 1) := by decide +kernel
theorem dX9_init_541 : decode cX9_init 541 = .ok (.getfield 7, 3) := by decide +kernel
theorem dX9_init_544 : decode cX9_init 544 = .ok (.bipush 37, 2) := by decide +kernel
theorem dX9_init_546 : decode cX9_init 546 = .ok (.ldc 123, 2) := by decide +kernel
theorem dX9_init_548 : decode cX9_init 548 = .ok (.iastore, 1) := by decide +kernel
theorem dX9_init_549 : decode cX9_init 549 = .ok (.aload_n 0, 1) := by decide +kernel
theorem dX9_init_550 : decode cX9_init 550 = .ok (.getfield 7, 3) := by decide +kernel
theorem dX9_init_553 : decode cX9_init 553 = .ok (.bipush 38, 2) := by decide +kernel
theorem dX9_init_555 : decode cX9_init 555 = .ok (.ldc 124, 2) := by decide +kernel
theorem dX9_init_557 : decode cX9_init 557 = .ok (.iastore, 1) := by decide +kernel
theorem dX9_init_558 : decode cX9_init 558 = .ok (.aload_n 0, 1) := by decide +kernel
theorem dX9_init_559 : decode cX9_init 559 = .ok (.getfield 7, 3) := by decide +kernel
theorem dX9_init_562 : decode cX9_init 562 = .ok (.bipush 39, 2) := by decide +kernel
theorem dX9_init_564 : decode cX9_init 564 = .ok (.ldc 125, 2) := by decide +kernel
theorem dX9_init_566 : decode cX9_init 566 = .ok (.iastore, 1) := by decide +kernel
theorem dX9_init_567 : decode cX9_init 567 = .ok (.aload_n 0, 1) := by decide +kernel
theorem dX9_init_568 : decode cX9_init 568 = .ok (.getfield 7, 3) := by decide +kernel
theorem dX9_init_571 : decode cX9_init 571 = .ok (.bipush 40, 2) := by decide +kernel
theorem dX9_init_573 : decode cX9_init 573 = .ok (.ldc 126, 2) := by decide +kernel
theorem dX9_init_575 : decode cX9_init 575 = .ok (.iastore, 1) := by decide +kernel
theorem dX9_init_576 : decode cX9_init 576 = .ok (.aload_n 0, 1) := by decide +kernel
theorem dX9_init_577 : decode cX9_init 577 = .ok (.getfield 7, 3) := by decide +kernel
theorem dX9_init_580 : decode cX9_init 580 = .ok (.bipush 41, 2) := by decide +kernel
theorem dX9_init_582 : decode cX9_init 582 = .ok (.ldc 127, 2) := by decide +kernel
theorem dX9_init_584 : decode cX9_init 584 = .ok (.iastore, 1) := by decide +kernel
theorem dX9_init_585 : decode cX9_init 585 = .ok (.aload_n 0, 1) := by decide +kernel
theorem dX9_init_586 : decode cX9_init 586 = .ok (.getfield 7, 3) := by decide +kernel
theorem dX9_init_589 : decode cX9_init 589 = .ok (.bipush 42, 2) := by decide +kernel
theorem dX9_init_591 : decode cX9_init 591 = .ok (.ldc 128, 2) := by decide +kernel
theorem dX9_init_593 : decode cX9_init 593 = .ok (.iastore, 1) := by decide +kernel
theorem dX9_init_594 : decode cX9_init 594 = .ok (.aload_n 0, 1) := by decide +kernel
theorem dX9_init_595 : decode cX9_init 595 = .ok (.getfield 7, 3) := by decide +kernel
theorem dX9_init_598 : decode cX9_init 598 = .ok (.bipush 43, 2) := by decide +kernel
theorem dX9_init_600 : decode cX9_init 600 = .ok (.ldc 129, 2) := by decide +kernel
theorem dX9_init_602 : decode cX9_init 602 = .ok (.iastore, 1) := by decide +kernel
theorem dX9_init_603 : decode cX9_init 603 = .ok (.aload_n 0, 1) := by decide +kernel
theorem dX9_init_604 : decode cX9_init 604 = .ok (.getfield 7, 3) := by decide +kernel
theorem dX9_init_607 : decode cX9_init 607 = .ok (.bipush 44, 2) := by decide +kernel
theorem dX9_init_609 : decode cX9_init 609 = .ok (.ldc 130, 2) := by decide +kernel
theorem dX9_init_611 : decode cX9_init 611 = .ok (.iastore, 1) := by decide +kernel
theorem dX9_init_612 : decode cX9_init 612 = .ok (.aload_n 0, 1) := by decide +kernel
theorem dX9_init_613 : decode cX9_init 613 = .ok (.getfield 7, 3) := by decide +kernel
theorem dX9_init_616 : decode cX9_init 616 = .ok (.bipush 45, 2) := by decide +kernel
theorem dX9_init_618 : decode cX9_init 618 = .ok (.ldc 131, 2) := by decide +kernel
theorem dX9_init_620 : decode cX9_init 620 = .ok (.iastore, 1) := by decide +kernel
theorem dX9_init_621 : decode cX9_init 621 = .ok (.aload_n 0, 1) := by decide +kernel
theorem dX9_init_622 : decode cX9_init 622 = .ok (.getfield 7, 3) := by decide +kernel
theorem dX9_init_625 : decode cX9_init 625 = .ok (.bipush 46, 2) := by decide +kernel
theorem dX9_init_627 : decode cX9_init 627 = .ok (.ldc 132, 2) := by decide +kernel
theorem dX9_init_629 : decode cX9_init 629 = .ok (.iastore, 1) := by decide +kernel
theorem dX9_init_630 : decode cX9_init 630 = .ok (.aload_n 0, 1) := by decide +kernel
theorem dX9_init_631 : decode cX9_init 631 = .ok (.getfield 7, 3) := by decide +kernel
theorem dX9_init_634 : decode cX9_init 634 = .ok (.bipush 47, 2) := by decide +kernel
theorem dX9_init_636 : decode cX9_init 636 = .ok (.ldc 133, 2) := by decide +kernel
theorem dX9_init_638 : decode cX9_init 638 = .ok (.iastore, 1) := by decide +kernel
theorem dX9_init_639 : decode cX9_init 639 = .ok (.aload_n 0, 1) := by decide +kernel
theorem dX9_init_640 : decode cX9_init 640 = .ok (.getfield 7, 3) := by decide +kernel
theorem dX9_init_643 : decode cX9_init 643 = .ok (.bipush 48, 2) := by decide +kernel
theorem dX9_init_645 : decode cX9_init 645 = .ok (.ldc 134, 2) := by decide +kernel
theorem dX9_init_647 : decode cX9_init 647 = .ok (.iastore, 1) := by decide +kernel
theorem dX9_init_648 : decode cX9_init 648 = .ok (.aload_n 0, 1) := by decide +kernel
theorem dX9_init_649 : decode cX9_init 649 = .ok (.getfield 7, 3) := by decide +kernel
theorem dX9_init_652 : decode cX9_init 652 = .ok (.bipush 49, 2) := by decide +kernel
theorem dX9_init_654 : decode cX9_init 654 = .ok (.ldc 135, 2) := by decide +kernel
theorem dX9_init_656 : decode cX9_init 656 = .ok (.iastore, 1) := by decide +kernel
theorem dX9_init_657 : decode cX9_init 657 = .ok (.aload_n 0, 1) := by decide +kernel
theorem dX9_init_658 : decode cX9_init 658 = .ok (.getfield 7, 3) := by decide +kernel
theorem dX9_init_661 : decode cX9_init 661 = .ok (.bipush 50, 2) := by decide +kernel
theorem dX9_init_663 : decode cX9_init 663 = .ok (.ldc 136, 2) := by decide +kernel
theorem dX9_init_665 : decode cX9_init 665 = .ok (.iastore, 1) := by decide +kernel
theorem dX9_init_666 : decode cX9_init 666 = .ok (.aload_n 0, 1) := by decide +kernel
theorem dX9_init_667 : decode cX9_init 667 = .ok (.getfield 7, 3) := by decide +kernel
theorem dX9_init_670 : decode cX9_init 670 = .ok (.bipush 51, 2) := by decide +kernel
theorem dX9_init_672 : decode cX9_init 672 = .ok (.ldc 137, 2) := by decide +kernel
theorem dX9_init_674 : decode cX9_init 674 = .ok (.iastore, 1) := by decide +kernel
theorem dX9_init_675 : decode cX9_init 675 = .ok (.aload_n 0, 1) := by decide +kernel
theorem dX9_init_676 : decode cX9_init 676 = .ok (.getfield 7, 3) := by decide +kernel
theorem dX9_init_679 : decode cX9_init 679 = .ok (.bipush 52, 2) := by decide +kernel
theorem dX9_init_681 : decode cX9_init 681 = .ok (.ldc 138, 2) := by decide +kernel
theorem dX9_init_683 : decode cX9_init 683 = .ok (.iastore, 1) := by decide +kernel
theorem dX9_init_684 : decode cX9_init 684 = .ok (.aload_n 0, 1) := by decide +kernel
theorem dX9_init_685 : decode cX9_init 685 = .ok (.getfield 7, 3) := by decide +kernel
theorem dX9_init_688 : decode cX9_init 688 = .ok (.bipush 53, 2) := by decide +kernel
theorem dX9_init_690 : decode cX9_init 690 = .ok (.ldc 139, 2) := by decide +kernel
theorem dX9_init_692 : decode cX9_init 692 = .ok (.iastore, 1) := by decide +kernel
theorem dX9_init_693 : decode cX9_init 693 = .ok (.aload_n 0, 1) := by decide +kernel
theorem dX9_init_694 : decode cX9_init 694 = .ok (.getfield 7, 3) := by decide +kernel
theorem dX9_init_697 : decode cX9_init 697 = .ok (.bipush 54, 2) := by decide +kernel
theorem dX9_init_699 : decode cX9_init 699 = .ok (.ldc 140, 2) := by decide +kernel
theorem dX9_init_701 : decode cX9_init 701 = .ok (.iastore, 1) := by decide +kernel
theorem dX9_init_702 : decode cX9_init 702 = .ok (.aload_n 0, 1) := by decide +kernel
theorem dX9_init_703 : decode cX9_init 703 = .ok (.getfield 7, 3) := by decide +kernel
theorem dX9_init_706 : decode cX9_init 706 = .ok (.bipush 55, 2) := by decide +kernel
theorem dX9_init_708 : decode cX9_init 708 = .ok (.ldc 141, 2) := by decide +kernel
theorem dX9_init_710 : decode cX9_init 710 = .ok (.iastore, 1) := by decide +kernel
theorem dX9_init_711 : decode cX9_init 711 = .ok (.aload_n 0, 1) := by decide +kernel
theorem dX9_init_712 : decode cX9_init 712 = .ok (.getfield 7, 3) := by decide +kernel
theorem dX9_init_715 : decode cX9_init 715 = .ok (.bipush 56, 2) := by decide +kernel
theorem dX9_init_717 : decode cX9_init 717 = .ok (.ldc 142, 2) := by decide +kernel
theorem dX9_init_719 : decode cX9_init 719 = .ok (.iastore, 1) := by decide +kernel
theorem dX9_init_720 : decode cX9_init 720 = .ok (.aload_n 0, 1) := by decide +kernel
theorem dX9_init_721 : decode cX9_init 721 = .ok (.getfield 7, 3) := by decide +kernel
theorem dX9_init_724 : decode cX9_init 724 = .ok (.bipush 57, 2) := by decide +kernel
theorem dX9_init_726 : decode cX9_init 726 = .ok (.ldc 143, 2) := by decide +kernel
theorem dX9_init_728 : decode cX9_init 728 = .ok (.iastore, 1) := by decide +kernel
theorem dX9_init_729 : decode cX9_init 729 = .ok (.aload_n 0, 1) := by decide +kernel
theorem dX9_init_730 : decode cX9_init 730 = .ok (.getfield 7, 3) := by decide +kernel
theorem dX9_init_733 : decode cX9_init 733 = .ok (.bipush 58, 2) := by decide +kernel
theorem dX9_init_735 : decode cX9_init 735 = .ok (.ldc 144, 2) := by decide +kernel
theorem dX9_init_737 : decode cX9_init 737 = .ok (.iastore, 1) := by decide +kernel
theorem dX9_init_738 : decode cX9_init 738 = .ok (.aload_n 0, 1) := by decide +kernel
theorem dX9_init_739 : decode cX9_init 739 = .ok (.getfield 7, 3) := by decide +kernel
theorem dX9_init_742 : decode cX9_init 742 = .ok (.bipush 59, 2) := by decide +kernel
theorem dX9_init_744 : decode cX9_init 744 = .ok (.ldc 145, 2) := by decide +kernel
theorem dX9_init_746 : decode cX9_init 746 = .ok (.iastore, 1) := by decide +kernel
theorem dX9_init_747 : decode cX9_init 747 = .ok (.aload_n 0, 1) := by decide +kernel
theorem dX9_init_748 : decode cX9_init 748 = .ok (.getfield 7, 3) := by decide +kernel
theorem dX9_init_751 : decode cX9_init 751 = .ok (.bipush 60, 2) := by decide +kernel
theorem dX9_init_753 : decode cX9_init 753 = .ok (.ldc 146, 2) := by decide +kernel
theorem dX9_init_755 : decode cX9_init 755 = .ok (.iastore, 1) := by decide +kernel
theorem dX9_init_756 : decode cX9_init 756 = .ok (.aload_n 0, 1) := by decide +kernel
theorem dX9_init_757 : decode cX9_init 757 = .ok (.getfield 7, 3) := by decide +kernel
theorem dX9_init_760 : decode cX9_init 760 = .ok (.bipush 61, 2) := by decide +kernel
theorem dX9_init_762 : decode cX9_init 762 = .ok (.ldc 147, 2) := by decide +kernel
theorem dX9_init_764 : decode cX9_init 764 = .ok (.iastore, 1) := by decide +kernel
theorem dX9_init_765 : decode cX9_init 765 = .ok (.aload_n 0, 1) := by decide +kernel
theorem dX9_init_766 : decode cX9_init 766 = .ok (.getfield 7, 3) := by decide +kernel
theorem dX9_init_769 : decode cX9_init 769 = .ok (.bipush 62, 2) := by decide +kernel
theorem dX9_init_771 : decode cX9_init 771 = .ok (.ldc 148, 2) := by decide +kernel
theorem dX9_init_773 : decode cX9_init 773 = .ok (.iastore, 1) := by decide +kernel
theorem dX9_init_774 : decode cX9_init 774 = .ok (.aload_n 0, 1) := by decide +kernel
theorem dX9_init_775 : decode cX9_init 775 = .ok (.getfield 7, 3) := by decide +kernel
theorem dX9_init_778 : decode cX9_init 778 = .ok (.bipush 63, 2) := by decide +kernel
theorem dX9_init_780 : decode cX9_init 780 = .ok (.ldc 149, 2) := by decide +kernel
theorem dX9_init_782 : decode cX9_init 782 = .ok (.iastore, 1) := by decide +kernel
theorem dX9_init_783 : decode cX9_init 783 = .ok (.return_, 1) := by decide +kernel
theorem dX9_in_0 : decode cX9_in 0 = .ok (.lload_n 0, 1) := by decide +kernel
theorem dX9_in_1 : decode cX9_in 1 = .ok (.lload_n 2, 1) := by decide +kernel
theorem dX9_in_2 : decode cX9_in 2 = .ok (.lcmp, 1) := by decide +kernel
theorem dX9_in_3 : decode cX9_in 3 = .ok (.ifCond .lt 14, 3) := by decide +kernel
theorem dX9_in_6 : decode cX9_in 6 = .ok (.lload_n 0, 1) := by decide +kernel
theorem dX9_in_7 : decode cX9_in 7 = .ok (.lload 4, 2) := by decide +kernel
theorem dX9_in_9 : decode cX9_in 9 = .ok (.lcmp, 1) := by decide +kernel
theorem dX9_in_10 : decode cX9_in 10 = .ok (.ifCond .gt 7, 3) := by decide +kernel
theorem dX9_in_13 : decode cX9_in 13 = .ok (.iconst 1, 1) := by decide +kernel
theorem dX9_in_14 : decode cX9_in 14 = .ok (.goto 4, 3) := by decide +kernel
theorem dX9_in_17 : decode cX9_in 17 = .ok (.iconst 0, 1) := by decide +kernel
theorem dX9_in_18 : decode cX9_in 18 = .ok (.ireturn, 1) := by decide +kernel
theorem dX9_turn_0 : decode cX9_turn 0 = .ok (.iload_n 0, 1) := by decide +kernel
theorem dX9_turn_1 : decode cX9_turn 1 = .ok (.iload_n 1, 1) := by decide +kernel
theorem dX9_turn_2 : decode cX9_turn 2 = .ok (.iushr, 1) := by decide +kernel
theorem dX9_turn_3 : decode cX9_turn 3 = .ok (.iload_n 0, 1) := by decide +kernel
theorem dX9_turn_4 : decode cX9_turn 4 = .ok (.bipush 32, 2) := by decide +kernel
theorem dX9_turn_6 : decode cX9_turn 6 = .ok (.iload_n 1, 1) := by decide +kernel
theorem dX9_turn_7 : decode cX9_turn 7 = .ok (.isub, 1) := by decide +kernel
theorem dX9_turn_8 : decode cX9_turn 8 = .ok (.ishl, 1) := by decide +kernel
theorem dX9_turn_9 : decode cX9_turn 9 = .ok (.ior, 1) := by decide +kernel
theorem dX9_turn_10 : decode cX9_turn 10 = .ok (.ireturn, 1) := by decide +kernel
theorem dX9_begin_0 : decode cX9_begin 0 = .ok (.aload_n 0, 1) := by decide +kernel
theorem dX9_begin_1 : decode cX9_begin 1 = .ok (.iconst 0, 1) := by decide +kernel
theorem dX9_begin_2 : decode cX9_begin 2 = .ok (.putfield 150, 3) := by decide +kernel
theorem dX9_begin_5 : decode cX9_begin 5 = .ok (.return_, 1) := by decide +kernel
theorem dX9_put_0 : decode cX9_put 0 = .ok (.aload_n 0, 1) := by decide +kernel
theorem dX9_put_1 : decode cX9_put 1 = .ok (.getfield 19, 3) := by decide +kernel
theorem dX9_put_4 : decode cX9_put 4 = .ok (.aload_n 0, 1) := by decide +kernel
theorem dX9_put_5 : decode cX9_put 5 = .ok (.getfield 150, 3) := by decide +kernel
theorem dX9_put_8 : decode cX9_put 8 = .ok (.iload_n 1, 1) := by decide +kernel
theorem dX9_put_9 : decode cX9_put 9 = .ok (.iastore, 1) := by decide +kernel
theorem dX9_put_10 : decode cX9_put 10 = .ok (.aload_n 0, 1) := by decide +kernel
theorem dX9_put_11 : decode cX9_put 11 = .ok (.dup, 1) := by decide +kernel
theorem dX9_put_12 : decode cX9_put 12 = .ok (.getfield 150, 3) := by decide +kernel
theorem dX9_put_15 : decode cX9_put 15 = .ok (.iconst 1, 1) := by decide +kernel
theorem dX9_put_16 : decode cX9_put 16 = .ok (.iadd, 1) := by decide +kernel
theorem dX9_put_17 : decode cX9_put 17 = .ok (.putfield 150, 3) := by decide +kernel
theorem dX9_put_20 : decode cX9_put 20 = .ok (.return_, 1) := by decide +kernel
theorem dX9_putAll_0 : decode cX9_putAll 0 = .ok (.iconst 0, 1) := by decide +kernel
theorem dX9_putAll_1 : decode cX9_putAll 1 = .ok (.istore 4, 2) := by decide +kernel
theorem dX9_putAll_3 : decode cX9_putAll 3 = .ok (.iload 4, 2) := by decide +kernel
theorem dX9_putAll_5 : decode cX9_putAll 5 = .ok (.iload_n 3, 1) := by decide +kernel
theorem dX9_putAll_6 : decode cX9_putAll 6 = .ok (.if_icmp .ge 19, 3) := by decide +kernel
theorem dX9_putAll_9 : decode cX9_putAll 9 = .ok (.aload_n 0, 1) := by decide +kernel
theorem dX9_putAll_10 : decode cX9_putAll 10 = .ok (.aload_n 1, 1) := by decide +kernel
theorem dX9_putAll_11 : decode cX9_putAll 11 = .ok (.iload_n 2, 1) := by decide +kernel
theorem dX9_putAll_12 : decode cX9_putAll 12 = .ok (.iload 4, 2) := by decide +kernel
theorem dX9_putAll_14 : decode cX9_putAll 14 = .ok (.iadd, 1) := by decide +kernel
theorem dX9_putAll_15 : decode cX9_putAll 15 = .ok (.iaload, 1) := by decide +kernel
theorem dX9_putAll_16 : decode cX9_putAll 16 = .ok (.invokevirtual 154, 3) := by decide +kernel
theorem dX9_putAll_19 : decode cX9_putAll 19 = .ok (.iinc 4 1, 3) := by decide +kernel
theorem dX9_putAll_22 : decode cX9_putAll 22 = .ok (.goto (-19), 3) := by decide +kernel
theorem dX9_putAll_25 : decode cX9_putAll 25 = .ok (.return_, 1) := by decide +kernel
theorem dX9_block_0 : decode cX9_block 0 = .ok (.iconst 0, 1) := by decide +kernel
theorem dX9_block_1 : decode cX9_block 1 = .ok (.istore_n 2, 1) := by decide +kernel
theorem dX9_block_2 : decode cX9_block 2 = .ok (.iload_n 2, 1) := by decide +kernel
theorem dX9_block_3 : decode cX9_block 3 = .ok (.bipush 16, 2) := by decide +kernel
theorem dX9_block_5 : decode cX9_block 5 = .ok (.if_icmp .ge 63, 3) := by decide +kernel
theorem dX9_block_8 : decode cX9_block 8 = .ok (.iload_n 1, 1) := by decide +kernel
theorem dX9_block_9 : decode cX9_block 9 = .ok (.iconst 4, 1) := by decide +kernel
theorem dX9_block_10 : decode cX9_block 10 = .ok (.iload_n 2, 1) := by decide +kernel
theorem dX9_block_11 : decode cX9_block 11 = .ok (.imul, 1) := by decide +kernel
theorem dX9_block_12 : decode cX9_block 12 = .ok (.iadd, 1) := by decide +kernel
theorem dX9_block_13 : decode cX9_block 13 = .ok (.istore_n 3, 1) := by decide +kernel
theorem dX9_block_14 : decode cX9_block 14 = .ok (.aload_n 0, 1) := by decide +kernel
theorem dX9_block_15 : decode cX9_block 15 = .ok (.getfield 13, 3) := by decide +kernel
theorem dX9_block_18 : decode cX9_block 18 = .ok (.iload_n 2, 1) := by decide +kernel
theorem dX9_block_19 : decode cX9_block 19 = .ok (.aload_n 0, 1) := by decide +kernel
theorem dX9_block_20 : decode cX9_block 20 = .ok (.getfield 19, 3) := by decide +kernel
theorem dX9_block_23 : decode cX9_block 23 = .ok (.iload_n 3, 1) := by decide +kernel
theorem dX9_block_24 : decode cX9_block 24 = .ok (.iaload, 1) := by decide +kernel
theorem dX9_block_25 : decode cX9_block 25 = .ok (.bipush 24, 2) := by decide +kernel
theorem dX9_block_27 : decode cX9_block 27 = .ok (.ishl, 1) := by decide +kernel
theorem dX9_block_28 : decode cX9_block 28 = .ok (.aload_n 0, 1) := by decide +kernel
theorem dX9_block_29 : decode cX9_block 29 = .ok (.getfield 19, 3) := by decide +kernel
theorem dX9_block_32 : decode cX9_block 32 = .ok (.iload_n 3, 1) := by decide +kernel
theorem dX9_block_33 : decode cX9_block 33 = .ok (.iconst 1, 1) := by decide +kernel
theorem dX9_block_34 : decode cX9_block 34 = .ok (.iadd, 1) := by decide +kernel
theorem dX9_block_35 : decode cX9_block 35 = .ok (.iaload, 1) := by decide +kernel
theorem dX9_block_36 : decode cX9_block 36 = .ok (.bipush 16, 2) := by decide +kernel
theorem dX9_block_38 : decode cX9_block 38 = .ok (.ishl, 1) := by decide +kernel
theorem dX9_block_39 : decode cX9_block 39 = .ok (.ior, 1) := by decide +kernel
theorem dX9_block_40 : decode cX9_block 40 = .ok (.aload_n 0, 1) := by decide +kernel
theorem dX9_block_41 : decode cX9_block 41 = .ok (.getfield 19, 3) := by decide +kernel
theorem dX9_block_44 : decode cX9_block 44 = .ok (.iload_n 3, 1) := by decide +kernel
theorem dX9_block_45 : decode cX9_block 45 = .ok (.iconst 2, 1) := by decide +kernel
theorem dX9_block_46 : decode cX9_block 46 = .ok (.iadd, 1) := by decide +kernel
theorem dX9_block_47 : decode cX9_block 47 = .ok (.iaload, 1) := by decide +kernel
theorem dX9_block_48 : decode cX9_block 48 = .ok (.bipush 8, 2) := by decide +kernel
theorem dX9_block_50 : decode cX9_block 50 = .ok (.ishl, 1) := by decide +kernel
theorem dX9_block_51 : decode cX9_block 51 = .ok (.ior, 1) := by decide +kernel
theorem dX9_block_52 : decode cX9_block 52 = .ok (.aload_n 0, 1) := by decide +kernel
theorem dX9_block_53 : decode cX9_block 53 = .ok (.getfield 19, 3) := by decide +kernel
theorem dX9_block_56 : decode cX9_block 56 = .ok (.iload_n 3, 1) := by decide +kernel
theorem dX9_block_57 : decode cX9_block 57 = .ok (.iconst 3, 1) := by decide +kernel
theorem dX9_block_58 : decode cX9_block 58 = .ok (.iadd, 1) := by decide +kernel
theorem dX9_block_59 : decode cX9_block 59 = .ok (.iaload, 1) := by decide +kernel
theorem dX9_block_60 : decode cX9_block 60 = .ok (.ior, 1) := by decide +kernel
theorem dX9_block_61 : decode cX9_block 61 = .ok (.iastore, 1) := by decide +kernel
theorem dX9_block_62 : decode cX9_block 62 = .ok (.iinc 2 1, 3) := by decide +kernel
theorem dX9_block_65 : decode cX9_block 65 = .ok (.goto (-63), 3) := by decide +kernel
theorem dX9_block_68 : decode cX9_block 68 = .ok (.bipush 16, 2) := by decide +kernel
theorem dX9_block_70 : decode cX9_block 70 = .ok (.istore_n 2, 1) := by decide +kernel
theorem dX9_block_71 : decode cX9_block 71 = .ok (.iload_n 2, 1) := by decide +kernel
theorem dX9_block_72 : decode cX9_block 72 = .ok (.bipush 64, 2) := by decide +kernel
theorem dX9_block_74 : decode cX9_block 74 = .ok (.if_icmp .ge 122, 3) := by decide +kernel
theorem dX9_block_77 : decode cX9_block 77 = .ok (.aload_n 0, 1) := by decide +kernel
theorem dX9_block_78 : decode cX9_block 78 = .ok (.getfield 13, 3) := by decide +kernel
theorem dX9_block_81 : decode cX9_block 81 = .ok (.iload_n 2, 1) := by decide +kernel
theorem dX9_block_82 : decode cX9_block 82 = .ok (.bipush 15, 2) := by decide +kernel
theorem dX9_block_84 : decode cX9_block 84 = .ok (.isub, 1) := by decide +kernel
theorem dX9_block_85 : decode cX9_block 85 = .ok (.iaload, 1) := by decide +kernel
theorem dX9_block_86 : decode cX9_block 86 = .ok (.bipush 7, 2) := by decide +kernel
theorem dX9_block_88 : decode cX9_block 88 = .ok (.invokestatic 158, 3) := by decide +kernel
theorem dX9_block_91 : decode cX9_block 91 = .ok (.aload_n 0, 1) := by decide +kernel
theorem dX9_block_92 : decode cX9_block 92 = .ok (.getfield 13, 3) := by decide +kernel
theorem dX9_block_95 : decode cX9_block 95 = .ok (.iload_n 2, 1) := by decide +kernel
theorem dX9_block_96 : decode cX9_block 96 = .ok (.bipush 15, 2) := by decide +kernel
theorem dX9_block_98 : decode cX9_block 98 = .ok (.isub, 1) := by decide +kernel
theorem dX9_block_99 : decode cX9_block 99 = .ok (.iaload, 1) := by decide +kernel
theorem dX9_block_100 : decode cX9_block 100 = .ok (.bipush 18, 2) := by decide +kernel
theorem dX9_block_102 : decode cX9_block 102 = .ok (.invokestatic 158, 3) := by decide +kernel
theorem dX9_block_105 : decode cX9_block 105 = .ok (.ixor, 1) := by decide +kernel
theorem dX9_block_106 : decode cX9_block 106 = .ok (.aload_n 0, 1) := by decide +kernel
theorem dX9_block_107 : decode cX9_block 107 = .ok (.getfield 13, 3) := by decide +kernel
theorem dX9_block_110 : decode cX9_block 110 = .ok (.iload_n 2, 1) := by decide +kernel
theorem dX9_block_111 : decode cX9_block 111 = .ok (.bipush 15, 2) := by decide +kernel
theorem dX9_block_113 : decode cX9_block 113 = .ok (.isub, 1) := by decide +kernel
theorem dX9_block_114 : decode cX9_block 114 = .ok (.iaload, 1) := by decide +kernel
theorem dX9_block_115 : decode cX9_block 115 = .ok (.iconst 3, 1) := by decide +kernel
theorem dX9_block_116 : decode cX9_block 116 = .ok (.iushr, 1) := by decide +kernel
theorem dX9_block_117 : decode cX9_block 117 = .ok (.ixor, 1) := by decide +kernel
theorem dX9_block_118 : decode cX9_block 118 = .ok (.istore_n 3, 1) := by decide +kernel
theorem dX9_block_119 : decode cX9_block 119 = .ok (.aload_n 0, 1) := by decide +kernel
theorem dX9_block_120 : decode cX9_block 120 = .ok (.getfield 13, 3) := by decide +kernel
theorem dX9_block_123 : decode cX9_block 123 = .ok (.iload_n 2, 1) := by decide +kernel
theorem dX9_block_124 : decode cX9_block 124 = .ok (.iconst 2, 1) := by decide +kernel
theorem dX9_block_125 : decode cX9_block 125 = .ok (.isub, 1) := by decide +kernel
theorem dX9_block_126 : decode cX9_block 126 = .ok (.iaload, 1) := by decide +kernel
theorem dX9_block_127 : decode cX9_block 127 = .ok (.bipush 17, 2) := by decide +kernel
theorem dX9_block_129 : decode cX9_block 129 = .ok (.invokestatic 158, 3) := by decide +kernel
theorem dX9_block_132 : decode cX9_block 132 = .ok (.aload_n 0, 1) := by decide +kernel
theorem dX9_block_133 : decode cX9_block 133 = .ok (.getfield 13, 3) := by decide +kernel
theorem dX9_block_136 : decode cX9_block 136 = .ok (.iload_n 2, 1) := by decide +kernel
theorem dX9_block_137 : decode cX9_block 137 = .ok (.iconst 2, 1) := by decide +kernel
theorem dX9_block_138 : decode cX9_block 138 = .ok (.isub, 1) := by decide +kernel
theorem dX9_block_139 : decode cX9_block 139 = .ok (.iaload, 1) := by decide +kernel
theorem dX9_block_140 : decode cX9_block 140 = .ok (.bipush 19, 2) := by decide +kernel
theorem dX9_block_142 : decode cX9_block 142 = .ok (.invokestatic 158, 3) := by decide +kernel
theorem dX9_block_145 : decode cX9_block 145 = .ok (.ixor, 1) := by decide +kernel
theorem dX9_block_146 : decode cX9_block 146 = .ok (.aload_n 0, 1) := by decide +kernel
theorem dX9_block_147 : decode cX9_block 147 = .ok (.getfield 13, 3) := by decide +kernel
theorem dX9_block_150 : decode cX9_block 150 = .ok (.iload_n 2, 1) := by decide +kernel
theorem dX9_block_151 : decode cX9_block 151 = .ok (.iconst 2, 1) := by decide +kernel
theorem dX9_block_152 : decode cX9_block 152 = .ok (.isub, 1) := by decide +kernel
theorem dX9_block_153 : decode cX9_block 153 = .ok (.iaload, 1) := by decide +kernel
theorem dX9_block_154 : decode cX9_block 154 = .ok (.bipush 10, 2) := by decide +kernel
theorem dX9_block_156 : decode cX9_block 156 = .ok (.iushr, 1) := by decide +kernel
theorem dX9_block_157 : decode cX9_block 157 = .ok (.ixor, 1) := by decide +kernel
theorem dX9_block_158 : decode cX9_block 158 = .ok (.istore 4, 2) := by decide +kernel
theorem dX9_block_160 : decode cX9_block 160 = .ok (.aload_n 0, 1) := by decide +kernel
theorem dX9_block_161 : decode cX9_block 161 = .ok (.getfield 13, 3) := by decide +kernel
theorem dX9_block_164 : decode cX9_block 164 = .ok (.iload_n 2, 1) := by decide +kernel
theorem dX9_block_165 : decode cX9_block 165 = .ok (.aload_n 0, 1) := by decide +kernel
theorem dX9_block_166 : decode cX9_block 166 = .ok (.getfield 13, 3) := by decide +kernel
theorem dX9_block_169 : decode cX9_block 169 = .ok (.iload_n 2, 1) := by decide +kernel
theorem dX9_block_170 : decode cX9_block 170 = .ok (.bipush 16, 2) := by decide +kernel
theorem dX9_block_172 : decode cX9_block 172 = .ok (.isub, 1) := by decide +kernel
theorem dX9_block_173 : decode cX9_block 173 = .ok (.iaload, 1) := by decide +kernel
theorem dX9_block_174 : decode cX9_block 174 = .ok (.iload_n 3, 1) := by decide +kernel
theorem dX9_block_175 : decode cX9_block 175 = .ok (.iadd, 1) := by decide +kernel
theorem dX9_block_176 : decode cX9_block 176 = .ok (.aload_n 0, 1) := by decide +kernel
theorem dX9_block_177 : decode cX9_block 177 = .ok (.getfield 13, 3) := by decide +kernel
theorem dX9_block_180 : decode cX9_block 180 = .ok (.iload_n 2, 1) := by decide +kernel
theorem dX9_block_181 : decode cX9_block 181 = .ok (.bipush 7, 2) := by decide +kernel
theorem dX9_block_183 : decode cX9_block 183 = .ok (.isub, 1) := by decide +kernel
theorem dX9_block_184 : decode cX9_block 184 = .ok (.iaload, 1) := by decide +kernel
theorem dX9_block_185 : decode cX9_block 185 = .ok (.iadd, 1) := by decide +kernel
theorem dX9_block_186 : decode cX9_block 186 = .ok (.iload 4, 2) := by decide +kernel
theorem dX9_block_188 : decode cX9_block 188 = .ok (.iadd, 1) := by decide +kernel
theorem dX9_block_189 : decode cX9_block 189 = .ok (.iastore, 1) := by decide +kernel
theorem dX9_block_190 : decode cX9_block 190 = .ok (.iinc 2 1, 3) := by decide +kernel
theorem dX9_block_193 : decode cX9_block 193 = .ok (.goto (-122), 3) := by decide +kernel
theorem dX9_block_196 : decode cX9_block 196 = .ok (.aload_n 0, 1) := by decide +kernel
theorem dX9_block_197 : decode cX9_block 197 = .ok (.getfield 16, 3) := by decide +kernel
theorem dX9_block_200 : decode cX9_block 200 = .ok (.iconst 0, 1) := by decide +kernel
theorem dX9_block_201 : decode cX9_block 201 = .ok (.iaload, 1) := by decide +kernel
theorem dX9_block_202 : decode cX9_block 202 = .ok (.istore_n 2, 1) := by decide +kernel
theorem dX9_block_203 : decode cX9_block 203 = .ok (.aload_n 0, 1) := by decide +kernel
theorem dX9_block_204 : decode cX9_block 204 = .ok (.getfield 16, 3) := by decide +kernel
theorem dX9_block_207 : decode cX9_block 207 = .ok (.iconst 1, 1) := by decide +kernel
theorem dX9_block_208 : decode cX9_block 208 = .ok (.iaload, 1) := by decide +kernel
theorem dX9_block_209 : decode cX9_block 209 = .ok (.istore_n 3, 1) := by decide +kernel
theorem dX9_block_210 : decode cX9_block 210 = .ok (.aload_n 0, 1) := by decide +kernel
theorem dX9_block_211 : decode cX9_block 211 = .ok (.getfield 16, 3) := by decide +kernel
theorem dX9_block_214 : decode cX9_block 214 = .ok (.iconst 2, 1) := by decide +kernel
theorem dX9_block_215 : decode cX9_block 215 = .ok (.iaload, 1) := by decide +kernel
