theorem dX4_linkDraft_56 : decode cX4_linkDraft 56 = .ok (.iinc 1 1, 3) := by decide +kernel
theorem dX4_linkDraft_59 : decode cX4_linkDraft 59 = .ok (.goto (-25), 3) := by decide +kernel
theorem dX4_linkDraft_62 : decode cX4_linkDraft 62 = .ok (.aload_n 0, 1) := by decide +kernel
theorem dX4_linkDraft_63 : decode cX4_linkDraft 63 = .ok (.getfield 28, 3) := by decide +kernel
theorem dX4_linkDraft_66 : decode cX4_linkDraft 66 = .ok (.aload_n 0, 1) := by decide +kernel
theorem dX4_linkDraft_67 : decode cX4_linkDraft 67 = .ok (.getfield 20, 3) := by decide +kernel
theorem dX4_linkDraft_70 : decode cX4_linkDraft 70 = .ok (.aload_n 0, 1) := by decide +kernel
theorem dX4_linkDraft_71 : decode cX4_linkDraft 71 = .ok (.getfield 24, 3) := by decide +kernel
theorem dX4_linkDraft_74 : decode cX4_linkDraft 74 = .ok (.iconst 1, 1) := by decide +kernel
theorem dX4_linkDraft_75 : decode cX4_linkDraft 75 = .ok (.iadd, 1) := by decide +kernel
theorem dX4_linkDraft_76 : decode cX4_linkDraft 76 = .ok (.invokevirtual 62, 3) := by decide +kernel
theorem dX4_linkDraft_79 : decode cX4_linkDraft 79 = .ok (.return_, 1) := by decide +kernel
theorem dX4_accept_0 : decode cX4_accept 0 = .ok (.aload_n 0, 1) := by decide +kernel
theorem dX4_accept_1 : decode cX4_accept 1 = .ok (.getfield 24, 3) := by decide +kernel
theorem dX4_accept_4 : decode cX4_accept 4 = .ok (.bipush 60, 2) := by decide +kernel
theorem dX4_accept_6 : decode cX4_accept 6 = .ok (.if_icmp .ge 28, 3) := by decide +kernel
theorem dX4_accept_9 : decode cX4_accept 9 = .ok (.aload_n 0, 1) := by decide +kernel
theorem dX4_accept_10 : decode cX4_accept 10 = .ok (.getfield 32, 3) := by decide +kernel
theorem dX4_accept_13 : decode cX4_accept 13 = .ok (.aload_n 0, 1) := by decide +kernel
theorem dX4_accept_14 : decode cX4_accept 14 = .ok (.getfield 9, 3) := by decide +kernel
theorem dX4_accept_17 : decode cX4_accept 17 = .ok (.aload_n 0, 1) := by decide +kernel
theorem dX4_accept_18 : decode cX4_accept 18 = .ok (.getfield 24, 3) := by decide +kernel
theorem dX4_accept_21 : decode cX4_accept 21 = .ok (.invokevirtual 65, 3) := by decide +kernel
theorem dX4_accept_24 : decode cX4_accept 24 = .ok (.aload_n 0, 1) := by decide +kernel
theorem dX4_accept_25 : decode cX4_accept 25 = .ok (.dup, 1) := by decide +kernel
theorem dX4_accept_26 : decode cX4_accept 26 = .ok (.getfield 24, 3) := by decide +kernel
theorem dX4_accept_29 : decode cX4_accept 29 = .ok (.iconst 1, 1) := by decide +kernel
theorem dX4_accept_30 : decode cX4_accept 30 = .ok (.iadd, 1) := by decide +kernel
theorem dX4_accept_31 : decode cX4_accept 31 = .ok (.putfield 24, 3) := by decide +kernel
theorem dX4_accept_34 : decode cX4_accept 34 = .ok (.return_, 1) := by decide +kernel
theorem dX5_init_0 : decode cX5_init 0 = .ok (.aload_n 0, 1) := by decide +kernel
theorem dX5_init_1 : decode cX5_init 1 = .ok (.invokespecial 3, 3) := by decide +kernel
theorem dX5_init_4 : decode cX5_init 4 = .ok (.aload_n 0, 1) := by decide +kernel
theorem dX5_init_5 : decode cX5_init 5 = .ok (.bipush 12, 2) := by decide +kernel
theorem dX5_init_7 : decode cX5_init 7 = .ok (.newarray .int, 2) := by decide +kernel
theorem dX5_init_9 : decode cX5_init 9 = .ok (.putfield 9, 3) := by decide +kernel
theorem dX5_init_12 : decode cX5_init 12 = .ok (.aload_n 0, 1) := by decide +kernel
theorem dX5_init_13 : decode cX5_init 13 = .ok (.bipush 12, 2) := by decide +kernel
theorem dX5_init_15 : decode cX5_init 15 = .ok (.newarray .int, 2) := by decide +kernel
theorem dX5_init_17 : decode cX5_init 17 = .ok (.putfield 15, 3) := by decide +kernel
theorem dX5_init_20 : decode cX5_init 20 = .ok (.aload_n 0, 1) := by decide +kernel
theorem dX5_init_21 : decode cX5_init 21 = .ok (.bipush 12, 2) := by decide +kernel
theorem dX5_init_23 : decode cX5_init 23 = .ok (.newarray .boolean, 2) := by decide +kernel
theorem dX5_init_25 : decode cX5_init 25 = .ok (.putfield 18, 3) := by decide +kernel
theorem dX5_init_28 : decode cX5_init 28 = .ok (.aload_n 0, 1) := by decide +kernel
theorem dX5_init_29 : decode cX5_init 29 = .ok (.bipush 12, 2) := by decide +kernel
theorem dX5_init_31 : decode cX5_init 31 = .ok (.newarray .int, 2) := by decide +kernel
theorem dX5_init_33 : decode cX5_init 33 = .ok (.putfield 22, 3) := by decide +kernel
theorem dX5_init_36 : decode cX5_init 36 = .ok (.aload_n 0, 1) := by decide +kernel
theorem dX5_init_37 : decode cX5_init 37 = .ok (.bipush 16, 2) := by decide +kernel
theorem dX5_init_39 : decode cX5_init 39 = .ok (.newarray .int, 2) := by decide +kernel
theorem dX5_init_41 : decode cX5_init 41 = .ok (.putfield 25, 3) := by decide +kernel
theorem dX5_init_44 : decode cX5_init 44 = .ok (.aload_n 0, 1) := by decide +kernel
theorem dX5_init_45 : decode cX5_init 45 = .ok (.bipush 16, 2) := by decide +kernel
theorem dX5_init_47 : decode cX5_init 47 = .ok (.newarray .int, 2) := by decide +kernel
theorem dX5_init_49 : decode cX5_init 49 = .ok (.putfield 28, 3) := by decide +kernel
theorem dX5_init_52 : decode cX5_init 52 = .ok (.aload_n 0, 1) := by decide +kernel
theorem dX5_init_53 : decode cX5_init 53 = .ok (.sipush 1280, 3) := by decide +kernel
theorem dX5_init_56 : decode cX5_init 56 = .ok (.newarray .boolean, 2) := by decide +kernel
theorem dX5_init_58 : decode cX5_init 58 = .ok (.putfield 31, 3) := by decide +kernel
theorem dX5_init_61 : decode cX5_init 61 = .ok (.aload_n 0, 1) := by decide +kernel
theorem dX5_init_62 : decode cX5_init 62 = .ok (.iconst 0, 1) := by decide +kernel
theorem dX5_init_63 : decode cX5_init 63 = .ok (.putfield 34, 3) := by decide +kernel
theorem dX5_init_66 : decode cX5_init 66 = .ok (.aload_n 0, 1) := by decide +kernel
theorem dX5_init_67 : decode cX5_init 67 = .ok (.iconst 0, 1) := by decide +kernel
theorem dX5_init_68 : decode cX5_init 68 = .ok (.putfield 38, 3) := by decide +kernel
theorem dX5_init_71 : decode cX5_init 71 = .ok (.return_, 1) := by decide +kernel
theorem dX5_causeOf_0 : decode cX5_causeOf 0 = .ok (.aload_n 0, 1) := by decide +kernel
theorem dX5_causeOf_1 : decode cX5_causeOf 1 = .ok (.getfield 9, 3) := by decide +kernel
theorem dX5_causeOf_4 : decode cX5_causeOf 4 = .ok (.iload_n 1, 1) := by decide +kernel
theorem dX5_causeOf_5 : decode cX5_causeOf 5 = .ok (.iaload, 1) := by decide +kernel
theorem dX5_causeOf_6 : decode cX5_causeOf 6 = .ok (.istore 4, 2) := by decide +kernel
theorem dX5_causeOf_8 : decode cX5_causeOf 8 = .ok (.aload_n 0, 1) := by decide +kernel
theorem dX5_causeOf_9 : decode cX5_causeOf 9 = .ok (.getfield 25, 3) := by decide +kernel
theorem dX5_causeOf_12 : decode cX5_causeOf 12 = .ok (.iload_n 2, 1) := by decide +kernel
theorem dX5_causeOf_13 : decode cX5_causeOf 13 = .ok (.iaload, 1) := by decide +kernel
theorem dX5_causeOf_14 : decode cX5_causeOf 14 = .ok (.istore 5, 2) := by decide +kernel
theorem dX5_causeOf_16 : decode cX5_causeOf 16 = .ok (.aload_n 0, 1) := by decide +kernel
theorem dX5_causeOf_17 : decode cX5_causeOf 17 = .ok (.getfield 18, 3) := by decide +kernel
theorem dX5_causeOf_20 : decode cX5_causeOf 20 = .ok (.iload_n 1, 1) := by decide +kernel
theorem dX5_causeOf_21 : decode cX5_causeOf 21 = .ok (.baload, 1) := by decide +kernel
theorem dX5_causeOf_22 : decode cX5_causeOf 22 = .ok (.ifCond .eq 5, 3) := by decide +kernel
theorem dX5_causeOf_25 : decode cX5_causeOf 25 = .ok (.iconst 1, 1) := by decide +kernel
theorem dX5_causeOf_26 : decode cX5_causeOf 26 = .ok (.ireturn, 1) := by decide +kernel
theorem dX5_causeOf_27 : decode cX5_causeOf 27 = .ok (.iload_n 3, 1) := by decide +kernel
theorem dX5_causeOf_28 : decode cX5_causeOf 28 = .ok (.ifCond .eq 8, 3) := by decide +kernel
theorem dX5_causeOf_31 : decode cX5_causeOf 31 = .ok (.iload_n 3, 1) := by decide +kernel
theorem dX5_causeOf_32 : decode cX5_causeOf 32 = .ok (.iconst 1, 1) := by decide +kernel
theorem dX5_causeOf_33 : decode cX5_causeOf 33 = .ok (.if_icmp .ne 12, 3) := by decide +kernel
theorem dX5_causeOf_36 : decode cX5_causeOf 36 = .ok (.iload 4, 2) := by decide +kernel
theorem dX5_causeOf_38 : decode cX5_causeOf 38 = .ok (.iload 5, 2) := by decide +kernel
theorem dX5_causeOf_40 : decode cX5_causeOf 40 = .ok (.if_icmp .ge 5, 3) := by decide +kernel
theorem dX5_causeOf_43 : decode cX5_causeOf 43 = .ok (.iconst 2, 1) := by decide +kernel
theorem dX5_causeOf_44 : decode cX5_causeOf 44 = .ok (.ireturn, 1) := by decide +kernel
theorem dX5_causeOf_45 : decode cX5_causeOf 45 = .ok (.iload_n 3, 1) := by decide +kernel
theorem dX5_causeOf_46 : decode cX5_causeOf 46 = .ok (.iconst 1, 1) := by decide +kernel
theorem dX5_causeOf_47 : decode cX5_causeOf 47 = .ok (.if_icmp .eq 8, 3) := by decide +kernel
theorem dX5_causeOf_50 : decode cX5_causeOf 50 = .ok (.iload_n 3, 1) := by decide +kernel
theorem dX5_causeOf_51 : decode cX5_causeOf 51 = .ok (.iconst 2, 1) := by decide +kernel
theorem dX5_causeOf_52 : decode cX5_causeOf 52 = .ok (.if_icmp .ne 12, 3) := by decide +kernel
theorem dX5_causeOf_55 : decode cX5_causeOf 55 = .ok (.iload 4, 2) := by decide +kernel
theorem dX5_causeOf_57 : decode cX5_causeOf 57 = .ok (.iload 5, 2) := by decide +kernel
theorem dX5_causeOf_59 : decode cX5_causeOf 59 = .ok (.if_icmp .le 5, 3) := by decide +kernel
theorem dX5_causeOf_62 : decode cX5_causeOf 62 = .ok (.iconst 3, 1) := by decide +kernel
theorem dX5_causeOf_63 : decode cX5_causeOf 63 = .ok (.ireturn, 1) := by decide +kernel
theorem dX5_causeOf_64 : decode cX5_causeOf 64 = .ok (.aload_n 0, 1) := by decide +kernel
theorem dX5_causeOf_65 : decode cX5_causeOf 65 = .ok (.iload_n 1, 1) := by decide +kernel
theorem dX5_causeOf_66 : decode cX5_causeOf 66 = .ok (.iload_n 2, 1) := by decide +kernel
theorem dX5_causeOf_67 : decode cX5_causeOf 67 = .ok (.iload_n 3, 1) := by decide +kernel
theorem dX5_causeOf_68 : decode cX5_causeOf 68 = .ok (.invokevirtual 41, 3) := by decide +kernel
theorem dX5_causeOf_71 : decode cX5_causeOf 71 = .ok (.ifCond .eq 7, 3) := by decide +kernel
theorem dX5_causeOf_74 : decode cX5_causeOf 74 = .ok (.iconst 0, 1) := by decide +kernel
theorem dX5_causeOf_75 : decode cX5_causeOf 75 = .ok (.goto 4, 3) := by decide +kernel
theorem dX5_causeOf_78 : decode cX5_causeOf 78 = .ok (.iconst 4, 1) := by decide +kernel
theorem dX5_causeOf_79 : decode cX5_causeOf 79 = .ok (.ireturn, 1) := by decide +kernel
theorem dX5_holds_0 : decode cX5_holds 0 = .ok (.aload_n 0, 1) := by decide +kernel
theorem dX5_holds_1 : decode cX5_holds 1 = .ok (.getfield 28, 3) := by decide +kernel
theorem dX5_holds_4 : decode cX5_holds 4 = .ok (.iload_n 2, 1) := by decide +kernel
theorem dX5_holds_5 : decode cX5_holds 5 = .ok (.iaload, 1) := by decide +kernel
theorem dX5_holds_6 : decode cX5_holds 6 = .ok (.iload_n 1, 1) := by decide +kernel
theorem dX5_holds_7 : decode cX5_holds 7 = .ok (.if_icmp .eq 31, 3) := by decide +kernel
theorem dX5_holds_10 : decode cX5_holds 10 = .ok (.aload_n 0, 1) := by decide +kernel
theorem dX5_holds_11 : decode cX5_holds 11 = .ok (.iload_n 1, 1) := by decide +kernel
theorem dX5_holds_12 : decode cX5_holds 12 = .ok (.iload_n 2, 1) := by decide +kernel
theorem dX5_holds_13 : decode cX5_holds 13 = .ok (.iload_n 3, 1) := by decide +kernel
theorem dX5_holds_14 : decode cX5_holds 14 = .ok (.invokevirtual 45, 3) := by decide +kernel
theorem dX5_holds_17 : decode cX5_holds 17 = .ok (.ifCond .ne 21, 3) := by decide +kernel
theorem dX5_holds_20 : decode cX5_holds 20 = .ok (.aload_n 0, 1) := by decide +kernel
theorem dX5_holds_21 : decode cX5_holds 21 = .ok (.bipush 16, 2) := by decide +kernel
theorem dX5_holds_23 : decode cX5_holds 23 = .ok (.aload_n 0, 1) := by decide +kernel
theorem dX5_holds_24 : decode cX5_holds 24 = .ok (.getfield 15, 3) := by decide +kernel
theorem dX5_holds_27 : decode cX5_holds 27 = .ok (.iload_n 1, 1) := by decide +kernel
theorem dX5_holds_28 : decode cX5_holds 28 = .ok (.iaload, 1) := by decide +kernel
theorem dX5_holds_29 : decode cX5_holds 29 = .ok (.iadd, 1) := by decide +kernel
theorem dX5_holds_30 : decode cX5_holds 30 = .ok (.iload_n 2, 1) := by decide +kernel
theorem dX5_holds_31 : decode cX5_holds 31 = .ok (.iload_n 3, 1) := by decide +kernel
theorem dX5_holds_32 : decode cX5_holds 32 = .ok (.invokevirtual 45, 3) := by decide +kernel
theorem dX5_holds_35 : decode cX5_holds 35 = .ok (.ifCond .eq 7, 3) := by decide +kernel
theorem dX5_holds_38 : decode cX5_holds 38 = .ok (.iconst 1, 1) := by decide +kernel
theorem dX5_holds_39 : decode cX5_holds 39 = .ok (.goto 4, 3) := by decide +kernel
theorem dX5_holds_42 : decode cX5_holds 42 = .ok (.iconst 0, 1) := by decide +kernel
theorem dX5_holds_43 : decode cX5_holds 43 = .ok (.ireturn, 1) := by decide +kernel
theorem dX5_tally_0 : decode cX5_tally 0 = .ok (.iload_n 2, 1) := by decide +kernel
theorem dX5_tally_1 : decode cX5_tally 1 = .ok (.ifCond .eq 21, 3) := by decide +kernel
theorem dX5_tally_4 : decode cX5_tally 4 = .ok (.aload_n 0, 1) := by decide +kernel
theorem dX5_tally_5 : decode cX5_tally 5 = .ok (.dup, 1) := by decide +kernel
theorem dX5_tally_6 : decode cX5_tally 6 = .ok (.getfield 34, 3) := by decide +kernel
theorem dX5_tally_9 : decode cX5_tally 9 = .ok (.iconst 1, 1) := by decide +kernel
theorem dX5_tally_10 : decode cX5_tally 10 = .ok (.iadd, 1) := by decide +kernel
theorem dX5_tally_11 : decode cX5_tally 11 = .ok (.putfield 34, 3) := by decide +kernel
theorem dX5_tally_14 : decode cX5_tally 14 = .ok (.aload_n 0, 1) := by decide +kernel
theorem dX5_tally_15 : decode cX5_tally 15 = .ok (.getfield 22, 3) := by decide +kernel
theorem dX5_tally_18 : decode cX5_tally 18 = .ok (.iload_n 1, 1) := by decide +kernel
theorem dX5_tally_19 : decode cX5_tally 19 = .ok (.iconst 0, 1) := by decide +kernel
theorem dX5_tally_20 : decode cX5_tally 20 = .ok (.iastore, 1) := by decide +kernel
theorem dX5_tally_21 : decode cX5_tally 21 = .ok (.return_, 1) := by decide +kernel
theorem dX5_tally_22 : decode cX5_tally 22 = .ok (.aload_n 0, 1) := by decide +kernel
theorem dX5_tally_23 : decode cX5_tally 23 = .ok (.dup, 1) := by decide +kernel
theorem dX5_tally_24 : decode cX5_tally 24 = .ok (.getfield 38, 3) := by decide +kernel
theorem dX5_tally_27 : decode cX5_tally 27 = .ok (.iconst 1, 1) := by decide +kernel
theorem dX5_tally_28 : decode cX5_tally 28 = .ok (.iadd, 1) := by decide +kernel
theorem dX5_tally_29 : decode cX5_tally 29 = .ok (.putfield 38, 3) := by decide +kernel
theorem dX5_tally_32 : decode cX5_tally 32 = .ok (.aload_n 0, 1) := by decide +kernel
theorem dX5_tally_33 : decode cX5_tally 33 = .ok (.getfield 22, 3) := by decide +kernel
theorem dX5_tally_36 : decode cX5_tally 36 = .ok (.iload_n 1, 1) := by decide +kernel
theorem dX5_tally_37 : decode cX5_tally 37 = .ok (.dup2, 1) := by decide +kernel
theorem dX5_tally_38 : decode cX5_tally 38 = .ok (.iaload, 1) := by decide +kernel
theorem dX5_tally_39 : decode cX5_tally 39 = .ok (.iconst 1, 1) := by decide +kernel
theorem dX5_tally_40 : decode cX5_tally 40 = .ok (.iadd, 1) := by decide +kernel
theorem dX5_tally_41 : decode cX5_tally 41 = .ok (.iastore, 1) := by decide +kernel
theorem dX5_tally_42 : decode cX5_tally 42 = .ok (.aload_n 0, 1) := by decide +kernel
theorem dX5_tally_43 : decode cX5_tally 43 = .ok (.getfield 22, 3) := by decide +kernel
theorem dX5_tally_46 : decode cX5_tally 46 = .ok (.iload_n 1, 1) := by decide +kernel
theorem dX5_tally_47 : decode cX5_tally 47 = .ok (.iaload, 1) := by decide +kernel
theorem dX5_tally_48 : decode cX5_tally 48 = .ok (.iconst 3, 1) := by decide +kernel
theorem dX5_tally_49 : decode cX5_tally 49 = .ok (.if_icmp .lt 10, 3) := by decide +kernel
theorem dX5_tally_52 : decode cX5_tally 52 = .ok (.aload_n 0, 1) := by decide +kernel
theorem dX5_tally_53 : decode cX5_tally 53 = .ok (.getfield 18, 3) := by decide +kernel
theorem dX5_tally_56 : decode cX5_tally 56 = .ok (.iload_n 1, 1) := by decide +kernel
theorem dX5_tally_57 : decode cX5_tally 57 = .ok (.iconst 1, 1) := by decide +kernel
theorem dX5_tally_58 : decode cX5_tally 58 = .ok (.bastore, 1) := by decide +kernel
theorem dX5_tally_59 : decode cX5_tally 59 = .ok (.return_, 1) := by decide +kernel
theorem dX5_release_0 : decode cX5_release 0 = .ok (.aload_n 0, 1) := by decide +kernel
theorem dX5_release_1 : decode cX5_release 1 = .ok (.getfield 18, 3) := by decide +kernel
theorem dX5_release_4 : decode cX5_release 4 = .ok (.iload_n 1, 1) := by decide +kernel
theorem dX5_release_5 : decode cX5_release 5 = .ok (.baload, 1) := by decide +kernel
theorem dX5_release_6 : decode cX5_release 6 = .ok (.istore_n 2, 1) := by decide +kernel
theorem dX5_release_7 : decode cX5_release 7 = .ok (.aload_n 0, 1) := by decide +kernel
theorem dX5_release_8 : decode cX5_release 8 = .ok (.getfield 18, 3) := by decide +kernel
theorem dX5_release_11 : decode cX5_release 11 = .ok (.iload_n 1, 1) := by decide +kernel
theorem dX5_release_12 : decode cX5_release 12 = .ok (.iconst 0, 1) := by decide +kernel
theorem dX5_release_13 : decode cX5_release 13 = .ok (.bastore, 1) := by decide +kernel
theorem dX5_release_14 : decode cX5_release 14 = .ok (.aload_n 0, 1) := by decide +kernel
theorem dX5_release_15 : decode cX5_release 15 = .ok (.getfield 22, 3) := by decide +kernel
theorem dX5_release_18 : decode cX5_release 18 = .ok (.iload_n 1, 1) := by decide +kernel
theorem dX5_release_19 : decode cX5_release 19 = .ok (.iconst 0, 1) := by decide +kernel
theorem dX5_release_20 : decode cX5_release 20 = .ok (.iastore, 1) := by decide +kernel
theorem dX5_release_21 : decode cX5_release 21 = .ok (.iload_n 2, 1) := by decide +kernel
theorem dX5_release_22 : decode cX5_release 22 = .ok (.ireturn, 1) := by decide +kernel
theorem dX5_placeSubject_0 : decode cX5_placeSubject 0 = .ok (.aload_n 0, 1) := by decide +kernel
theorem dX5_placeSubject_1 : decode cX5_placeSubject 1 = .ok (.getfield 9, 3) := by decide +kernel
theorem dX5_placeSubject_4 : decode cX5_placeSubject 4 = .ok (.iload_n 1, 1) := by decide +kernel
theorem dX5_placeSubject_5 : decode cX5_placeSubject 5 = .ok (.iload_n 2, 1) := by decide +kernel
theorem dX5_placeSubject_6 : decode cX5_placeSubject 6 = .ok (.iastore, 1) := by decide +kernel
theorem dX5_placeSubject_7 : decode cX5_placeSubject 7 = .ok (.aload_n 0, 1) := by decide +kernel
theorem dX5_placeSubject_8 : decode cX5_placeSubject 8 = .ok (.getfield 15, 3) := by decide +kernel
theorem dX5_placeSubject_11 : decode cX5_placeSubject 11 = .ok (.iload_n 1, 1) := by decide +kernel
theorem dX5_placeSubject_12 : decode cX5_placeSubject 12 = .ok (.iload_n 3, 1) := by decide +kernel
theorem dX5_placeSubject_13 : decode cX5_placeSubject 13 = .ok (.iastore, 1) := by decide +kernel
theorem dX5_placeSubject_14 : decode cX5_placeSubject 14 = .ok (.return_, 1) := by decide +kernel
theorem dX5_placeObject_0 : decode cX5_placeObject 0 = .ok (.aload_n 0, 1) := by decide +kernel
theorem dX5_placeObject_1 : decode cX5_placeObject 1 = .ok (.getfield 25, 3) := by decide +kernel
theorem dX5_placeObject_4 : decode cX5_placeObject 4 = .ok (.iload_n 1, 1) := by decide +kernel
theorem dX5_placeObject_5 : decode cX5_placeObject 5 = .ok (.iload_n 2, 1) := by decide +kernel
theorem dX5_placeObject_6 : decode cX5_placeObject 6 = .ok (.iastore, 1) := by decide +kernel
theorem dX5_placeObject_7 : decode cX5_placeObject 7 = .ok (.aload_n 0, 1) := by decide +kernel
theorem dX5_placeObject_8 : decode cX5_placeObject 8 = .ok (.getfield 28, 3) := by decide +kernel
theorem dX5_placeObject_11 : decode cX5_placeObject 11 = .ok (.iload_n 1, 1) := by decide +kernel
theorem dX5_placeObject_12 : decode cX5_placeObject 12 = .ok (.iload_n 3, 1) := by decide +kernel
theorem dX5_placeObject_13 : decode cX5_placeObject 13 = .ok (.iastore, 1) := by decide +kernel
theorem dX5_placeObject_14 : decode cX5_placeObject 14 = .ok (.return_, 1) := by decide +kernel
theorem dX5_rightAt_0 : decode cX5_rightAt 0 = .ok (.iload_n 0, 1) := by decide +kernel
theorem dX5_rightAt_1 : decode cX5_rightAt 1 = .ok (.bipush 16, 2) := by decide +kernel
theorem dX5_rightAt_3 : decode cX5_rightAt 3 = .ok (.imul, 1) := by decide +kernel
theorem dX5_rightAt_4 : decode cX5_rightAt 4 = .ok (.iload_n 1, 1) := by decide +kernel
theorem dX5_rightAt_5 : decode cX5_rightAt 5 = .ok (.iadd, 1) := by decide +kernel
theorem dX5_rightAt_6 : decode cX5_rightAt 6 = .ok (.iconst 4, 1) := by decide +kernel
theorem dX5_rightAt_7 : decode cX5_rightAt 7 = .ok (.imul, 1) := by decide +kernel
theorem dX5_rightAt_8 : decode cX5_rightAt 8 = .ok (.iload_n 2, 1) := by decide +kernel
theorem dX5_rightAt_9 : decode cX5_rightAt 9 = .ok (.iadd, 1) := by decide +kernel
theorem dX5_rightAt_10 : decode cX5_rightAt 10 = .ok (.ireturn, 1) := by decide +kernel
theorem dX5_hasBeenGiven_0 : decode cX5_hasBeenGiven 0 = .ok (.aload_n 0, 1) := by decide +kernel
theorem dX5_hasBeenGiven_1 : decode cX5_hasBeenGiven 1 = .ok (.getfield 31, 3) := by decide +kernel
theorem dX5_hasBeenGiven_4 : decode cX5_hasBeenGiven 4 = .ok (.iload_n 1, 1) := by decide +kernel
theorem dX5_hasBeenGiven_5 : decode cX5_hasBeenGiven 5 = .ok (.iload_n 2, 1) := by decide +kernel
theorem dX5_hasBeenGiven_6 : decode cX5_hasBeenGiven 6 = .ok (.iload_n 3, 1) := by decide +kernel
theorem dX5_hasBeenGiven_7 : decode cX5_hasBeenGiven 7 = .ok (.invokestatic 48, 3) := by decide +kernel
theorem dX5_hasBeenGiven_10 : decode cX5_hasBeenGiven 10 = .ok (.baload, 1) := by decide +kernel
theorem dX5_hasBeenGiven_11 : decode cX5_hasBeenGiven 11 = .ok (.ireturn, 1) := by decide +kernel
theorem dX5_setRight_0 : decode cX5_setRight 0 = .ok (.aload_n 0, 1) := by decide +kernel
theorem dX5_setRight_1 : decode cX5_setRight 1 = .ok (.getfield 31, 3) := by decide +kernel
theorem dX5_setRight_4 : decode cX5_setRight 4 = .ok (.iload_n 1, 1) := by decide +kernel
theorem dX5_setRight_5 : decode cX5_setRight 5 = .ok (.iload_n 2, 1) := by decide +kernel
theorem dX5_setRight_6 : decode cX5_setRight 6 = .ok (.iload_n 3, 1) := by decide +kernel
theorem dX5_setRight_7 : decode cX5_setRight 7 = .ok (.invokestatic 48, 3) := by decide +kernel
theorem dX5_setRight_10 : decode cX5_setRight 10 = .ok (.iload 4, 2) := by decide +kernel
theorem dX5_setRight_12 : decode cX5_setRight 12 = .ok (.bastore, 1) := by decide +kernel
theorem dX5_setRight_13 : decode cX5_setRight 13 = .ok (.return_, 1) := by decide +kernel
theorem dX5_ofSubject_0 : decode cX5_ofSubject 0 = .ok (.iload_n 2, 1) := by decide +kernel
theorem dX5_ofSubject_1 : decode cX5_ofSubject 1 = .ok (.tableswitch 67 0 3 #[31, 38, 45, 60], 31) := by decide +kernel
theorem dX5_ofSubject_32 : decode cX5_ofSubject 32 = .ok (.aload_n 0, 1) := by decide +kernel
theorem dX5_ofSubject_33 : decode cX5_ofSubject 33 = .ok (.getfield 9, 3) := by decide +kernel
theorem dX5_ofSubject_36 : decode cX5_ofSubject 36 = .ok (.iload_n 1, 1) := by decide +kernel
theorem dX5_ofSubject_37 : decode cX5_ofSubject 37 = .ok (.iaload, 1) := by decide +kernel
theorem dX5_ofSubject_38 : decode cX5_ofSubject 38 = .ok (.ireturn, 1) := by decide +kernel
theorem dX5_ofSubject_39 : decode cX5_ofSubject 39 = .ok (.aload_n 0, 1) := by decide +kernel
theorem dX5_ofSubject_40 : decode cX5_ofSubject 40 = .ok (.getfield 15, 3) := by decide +kernel
theorem dX5_ofSubject_43 : decode cX5_ofSubject 43 = .ok (.iload_n 1, 1) := by decide +kernel
theorem dX5_ofSubject_44 : decode cX5_ofSubject 44 = .ok (.iaload, 1) := by decide +kernel
theorem dX5_ofSubject_45 : decode cX5_ofSubject 45 = .ok (.ireturn, 1) := by decide +kernel
theorem dX5_ofSubject_46 : decode cX5_ofSubject 46 = .ok (.aload_n 0, 1) := by decide +kernel
theorem dX5_ofSubject_47 : decode cX5_ofSubject 47 = .ok (.getfield 18, 3) := by decide +kernel
theorem dX5_ofSubject_50 : decode cX5_ofSubject 50 = .ok (.iload_n 1, 1) := by decide +kernel
theorem dX5_ofSubject_51 : decode cX5_ofSubject 51 = .ok (.baload, 1) := by decide +kernel
theorem dX5_ofSubject_52 : decode cX5_ofSubject 52 = .ok (.ifCond .eq 7, 3) := by decide +kernel
theorem dX5_ofSubject_55 : decode cX5_ofSubject 55 = .ok (.iconst 1, 1) := by decide +kernel
theorem dX5_ofSubject_56 : decode cX5_ofSubject 56 = .ok (.goto 4, 3) := by decide +kernel
theorem dX5_ofSubject_59 : decode cX5_ofSubject 59 = .ok (.iconst 0, 1) := by decide +kernel
theorem dX5_ofSubject_60 : decode cX5_ofSubject 60 = .ok (.ireturn, 1) := by decide +kernel
theorem dX5_ofSubject_61 : decode cX5_ofSubject 61 = .ok (.aload_n 0, 1) := by decide +kernel
theorem dX5_ofSubject_62 : decode cX5_ofSubject 62 = .ok (.getfield 22, 3) := by decide +kernel
theorem dX5_ofSubject_65 : decode cX5_ofSubject 65 = .ok (.iload_n 1, 1) := by decide +kernel
theorem dX5_ofSubject_66 : decode cX5_ofSubject 66 = .ok (.iaload, 1) := by decide +kernel
theorem dX5_ofSubject_67 : decode cX5_ofSubject 67 = .ok (.ireturn, 1) := by decide +kernel
theorem dX5_ofSubject_68 : decode cX5_ofSubject 68 = .ok (.bipush (-2), 2) := by decide +kernel
theorem dX5_ofSubject_70 : decode cX5_ofSubject 70 = .ok (.ireturn, 1) := by decide +kernel
theorem dX5_ofObject_0 : decode cX5_ofObject 0 = .ok (.iload_n 2, 1) := by decide +kernel
theorem dX5_ofObject_1 : decode cX5_ofObject 1 = .ok (.lookupswitch 41 #[(0, 27), (1, 34)], 27) := by decide +kernel
theorem dX5_ofObject_28 : decode cX5_ofObject 28 = .ok (.aload_n 0, 1) := by decide +kernel
theorem dX5_ofObject_29 : decode cX5_ofObject 29 = .ok (.getfield 25, 3) := by decide +kernel
theorem dX5_ofObject_32 : decode cX5_ofObject 32 = .ok (.iload_n 1, 1) := by decide +kernel
theorem dX5_ofObject_33 : decode cX5_ofObject 33 = .ok (.iaload, 1) := by decide +kernel
theorem dX5_ofObject_34 : decode cX5_ofObject 34 = .ok (.ireturn, 1) := by decide +kernel
theorem dX5_ofObject_35 : decode cX5_ofObject 35 = .ok (.aload_n 0, 1) := by decide +kernel
theorem dX5_ofObject_36 : decode cX5_ofObject 36 = .ok (.getfield 28, 3) := by decide +kernel
theorem dX5_ofObject_39 : decode cX5_ofObject 39 = .ok (.iload_n 1, 1) := by decide +kernel
theorem dX5_ofObject_40 : decode cX5_ofObject 40 = .ok (.iaload, 1) := by decide +kernel
theorem dX5_ofObject_41 : decode cX5_ofObject 41 = .ok (.ireturn, 1) := by decide +kernel
theorem dX5_ofObject_42 : decode cX5_ofObject 42 = .ok (.bipush (-2), 2) := by decide +kernel
theorem dX5_ofObject_44 : decode cX5_ofObject 44 = .ok (.ireturn, 1) := by decide +kernel
theorem dX6_init_0 : decode cX6_init 0 = .ok (.aload_n 0, 1) := by decide +kernel
theorem dX6_init_1 : decode cX6_init 1 = .ok (.invokespecial 3, 3) := by decide +kernel
theorem dX6_init_4 : decode cX6_init 4 = .ok (.aload_n 0, 1) := by decide +kernel
theorem dX6_init_5 : decode cX6_init 5 = .ok (.new 9, 3) := by decide +kernel
theorem dX6_init_8 : decode cX6_init 8 = .ok (.dup, 1) := by decide +kernel
theorem dX6_init_9 : decode cX6_init 9 = .ok (.bipush 8, 2) := by decide +kernel
theorem dX6_init_11 : decode cX6_init 11 = .ok (.invokespecial 11, 3) := by decide +kernel
theorem dX6_init_14 : decode cX6_init 14 = .ok (.putfield 14, 3) := by decide +kernel
theorem dX6_init_17 : decode cX6_init 17 = .ok (.aload_n 0, 1) := by decide +kernel
theorem dX6_init_18 : decode cX6_init 18 = .ok (.bipush 8, 2) := by decide +kernel
theorem dX6_init_20 : decode cX6_init 20 = .ok (.newarray .int, 2) := by decide +kernel
theorem dX6_init_22 : decode cX6_init 22 = .ok (.putfield 20, 3) := by decide +kernel
theorem dX6_init_25 : decode cX6_init 25 = .ok (.aload_n 0, 1) := by decide +kernel
theorem dX6_init_26 : decode cX6_init 26 = .ok (.bipush 8, 2) := by decide +kernel
theorem dX6_init_28 : decode cX6_init 28 = .ok (.newarray .int, 2) := by decide +kernel
theorem dX6_init_30 : decode cX6_init 30 = .ok (.putfield 24, 3) := by decide +kernel
theorem dX6_init_33 : decode cX6_init 33 = .ok (.aload_n 0, 1) := by decide +kernel
theorem dX6_init_34 : decode cX6_init 34 = .ok (.iconst 0, 1) := by decide +kernel
theorem dX6_init_35 : decode cX6_init 35 = .ok (.putfield 27, 3) := by decide +kernel
theorem dX6_init_38 : decode cX6_init 38 = .ok (.aload_n 0, 1) := by decide +kernel
theorem dX6_init_39 : decode cX6_init 39 = .ok (.iconst 0, 1) := by decide +kernel
theorem dX6_init_40 : decode cX6_init 40 = .ok (.putfield 31, 3) := by decide +kernel
theorem dX6_init_43 : decode cX6_init 43 = .ok (.aload_n 0, 1) := by decide +kernel
theorem dX6_init_44 : decode cX6_init 44 = .ok (.aload_n 1, 1) := by decide +kernel
theorem dX6_init_45 : decode cX6_init 45 = .ok (.putfield 34, 3) := by decide +kernel
theorem dX6_init_48 : decode cX6_init 48 = .ok (.return_, 1) := by decide +kernel
theorem dX6_becomePath_0 : decode cX6_becomePath 0 = .ok (.iconst 0, 1) := by decide +kernel
theorem dX6_becomePath_1 : decode cX6_becomePath 1 = .ok (.istore_n 3, 1) := by decide +kernel
theorem dX6_becomePath_2 : decode cX6_becomePath 2 = .ok (.iload_n 2, 1) := by decide +kernel
theorem dX6_becomePath_3 : decode cX6_becomePath 3 = .ok (.istore 4, 2) := by decide +kernel
theorem dX6_becomePath_5 : decode cX6_becomePath 5 = .ok (.aload_n 0, 1) := by decide +kernel
theorem dX6_becomePath_6 : decode cX6_becomePath 6 = .ok (.iconst 0, 1) := by decide +kernel
theorem dX6_becomePath_7 : decode cX6_becomePath 7 = .ok (.putfield 27, 3) := by decide +kernel
theorem dX6_becomePath_10 : decode cX6_becomePath 10 = .ok (.iconst 0, 1) := by decide +kernel
theorem dX6_becomePath_11 : decode cX6_becomePath 11 = .ok (.istore 5, 2) := by decide +kernel
theorem dX6_becomePath_13 : decode cX6_becomePath 13 = .ok (.iload 5, 2) := by decide +kernel
theorem dX6_becomePath_15 : decode cX6_becomePath 15 = .ok (.bipush 8, 2) := by decide +kernel
theorem dX6_becomePath_17 : decode cX6_becomePath 17 = .ok (.if_icmp .ge 59, 3) := by decide +kernel
theorem dX6_becomePath_20 : decode cX6_becomePath 20 = .ok (.iload 4, 2) := by decide +kernel
theorem dX6_becomePath_22 : decode cX6_becomePath 22 = .ok (.iload_n 3, 1) := by decide +kernel
theorem dX6_becomePath_23 : decode cX6_becomePath 23 = .ok (.isub, 1) := by decide +kernel
theorem dX6_becomePath_24 : decode cX6_becomePath 24 = .ok (.iconst 1, 1) := by decide +kernel
theorem dX6_becomePath_25 : decode cX6_becomePath 25 = .ok (.if_icmp .le 51, 3) := by decide +kernel
theorem dX6_becomePath_28 : decode cX6_becomePath 28 = .ok (.iload_n 3, 1) := by decide +kernel
theorem dX6_becomePath_29 : decode cX6_becomePath 29 = .ok (.iload 4, 2) := by decide +kernel
theorem dX6_becomePath_31 : decode cX6_becomePath 31 = .ok (.iload_n 3, 1) := by decide +kernel
theorem dX6_becomePath_32 : decode cX6_becomePath 32 = .ok (.isub, 1) := by decide +kernel
theorem dX6_becomePath_33 : decode cX6_becomePath 33 = .ok (.invokestatic 38, 3) := by decide +kernel
theorem dX6_becomePath_36 : decode cX6_becomePath 36 = .ok (.iadd, 1) := by decide +kernel
theorem dX6_becomePath_37 : decode cX6_becomePath 37 = .ok (.istore 6, 2) := by decide +kernel
theorem dX6_becomePath_39 : decode cX6_becomePath 39 = .ok (.iload_n 1, 1) := by decide +kernel
theorem dX6_becomePath_40 : decode cX6_becomePath 40 = .ok (.iload 6, 2) := by decide +kernel
theorem dX6_becomePath_42 : decode cX6_becomePath 42 = .ok (.if_icmp .ge 18, 3) := by decide +kernel
theorem dX6_becomePath_45 : decode cX6_becomePath 45 = .ok (.aload_n 0, 1) := by decide +kernel
theorem dX6_becomePath_46 : decode cX6_becomePath 46 = .ok (.iload 6, 2) := by decide +kernel
theorem dX6_becomePath_48 : decode cX6_becomePath 48 = .ok (.iload 4, 2) := by decide +kernel
theorem dX6_becomePath_50 : decode cX6_becomePath 50 = .ok (.invokevirtual 42, 3) := by decide +kernel
theorem dX6_becomePath_53 : decode cX6_becomePath 53 = .ok (.iload 6, 2) := by decide +kernel
theorem dX6_becomePath_55 : decode cX6_becomePath 55 = .ok (.istore 4, 2) := by decide +kernel
theorem dX6_becomePath_57 : decode cX6_becomePath 57 = .ok (.goto 13, 3) := by decide +kernel
theorem dX6_becomePath_60 : decode cX6_becomePath 60 = .ok (.aload_n 0, 1) := by decide +kernel
theorem dX6_becomePath_61 : decode cX6_becomePath 61 = .ok (.iload_n 3, 1) := by decide +kernel
theorem dX6_becomePath_62 : decode cX6_becomePath 62 = .ok (.iload 6, 2) := by decide +kernel
theorem dX6_becomePath_64 : decode cX6_becomePath 64 = .ok (.invokevirtual 42, 3) := by decide +kernel
theorem dX6_becomePath_67 : decode cX6_becomePath 67 = .ok (.iload 6, 2) := by decide +kernel
theorem dX6_becomePath_69 : decode cX6_becomePath 69 = .ok (.istore_n 3, 1) := by decide +kernel
theorem dX6_becomePath_70 : decode cX6_becomePath 70 = .ok (.iinc 5 1, 3) := by decide +kernel
theorem dX6_becomePath_73 : decode cX6_becomePath 73 = .ok (.goto (-60), 3) := by decide +kernel
theorem dX6_becomePath_76 : decode cX6_becomePath 76 = .ok (.aload_n 0, 1) := by decide +kernel
theorem dX6_becomePath_77 : decode cX6_becomePath 77 = .ok (.invokevirtual 46, 3) := by decide +kernel
theorem dX6_becomePath_80 : decode cX6_becomePath 80 = .ok (.ireturn, 1) := by decide +kernel
theorem dX6_becomeSteps_0 : decode cX6_becomeSteps 0 = .ok (.iconst 0, 1) := by decide +kernel
theorem dX6_becomeSteps_1 : decode cX6_becomeSteps 1 = .ok (.istore_n 3, 1) := by decide +kernel
theorem dX6_becomeSteps_2 : decode cX6_becomeSteps 2 = .ok (.iload_n 2, 1) := by decide +kernel
theorem dX6_becomeSteps_3 : decode cX6_becomeSteps 3 = .ok (.istore 4, 2) := by decide +kernel
theorem dX6_becomeSteps_5 : decode cX6_becomeSteps 5 = .ok (.aload_n 0, 1) := by decide +kernel
theorem dX6_becomeSteps_6 : decode cX6_becomeSteps 6 = .ok (.iconst 0, 1) := by decide +kernel
theorem dX6_becomeSteps_7 : decode cX6_becomeSteps 7 = .ok (.putfield 27, 3) := by decide +kernel
theorem dX6_becomeSteps_10 : decode cX6_becomeSteps 10 = .ok (.iconst 0, 1) := by decide +kernel
theorem dX6_becomeSteps_11 : decode cX6_becomeSteps 11 = .ok (.istore 5, 2) := by decide +kernel
theorem dX6_becomeSteps_13 : decode cX6_becomeSteps 13 = .ok (.iload 5, 2) := by decide +kernel
theorem dX6_becomeSteps_15 : decode cX6_becomeSteps 15 = .ok (.bipush 8, 2) := by decide +kernel
theorem dX6_becomeSteps_17 : decode cX6_becomeSteps 17 = .ok (.if_icmp .ge 57, 3) := by decide +kernel
theorem dX6_becomeSteps_20 : decode cX6_becomeSteps 20 = .ok (.iload_n 1, 1) := by decide +kernel
theorem dX6_becomeSteps_21 : decode cX6_becomeSteps 21 = .ok (.iload 4, 2) := by decide +kernel
theorem dX6_becomeSteps_23 : decode cX6_becomeSteps 23 = .ok (.if_icmp .eq 51, 3) := by decide +kernel
theorem dX6_becomeSteps_26 : decode cX6_becomeSteps 26 = .ok (.iload_n 3, 1) := by decide +kernel
theorem dX6_becomeSteps_27 : decode cX6_becomeSteps 27 = .ok (.iload 4, 2) := by decide +kernel
theorem dX6_becomeSteps_29 : decode cX6_becomeSteps 29 = .ok (.iload_n 3, 1) := by decide +kernel
theorem dX6_becomeSteps_30 : decode cX6_becomeSteps 30 = .ok (.isub, 1) := by decide +kernel
theorem dX6_becomeSteps_31 : decode cX6_becomeSteps 31 = .ok (.invokestatic 38, 3) := by decide +kernel
theorem dX6_becomeSteps_34 : decode cX6_becomeSteps 34 = .ok (.iadd, 1) := by decide +kernel
theorem dX6_becomeSteps_35 : decode cX6_becomeSteps 35 = .ok (.istore 6, 2) := by decide +kernel
theorem dX6_becomeSteps_37 : decode cX6_becomeSteps 37 = .ok (.iload_n 1, 1) := by decide +kernel
theorem dX6_becomeSteps_38 : decode cX6_becomeSteps 38 = .ok (.iload 6, 2) := by decide +kernel
theorem dX6_becomeSteps_40 : decode cX6_becomeSteps 40 = .ok (.if_icmp .gt 18, 3) := by decide +kernel
theorem dX6_becomeSteps_43 : decode cX6_becomeSteps 43 = .ok (.aload_n 0, 1) := by decide +kernel
theorem dX6_becomeSteps_44 : decode cX6_becomeSteps 44 = .ok (.iload 6, 2) := by decide +kernel
theorem dX6_becomeSteps_46 : decode cX6_becomeSteps 46 = .ok (.iload 4, 2) := by decide +kernel
theorem dX6_becomeSteps_48 : decode cX6_becomeSteps 48 = .ok (.invokevirtual 42, 3) := by decide +kernel
theorem dX6_becomeSteps_51 : decode cX6_becomeSteps 51 = .ok (.iload 6, 2) := by decide +kernel
theorem dX6_becomeSteps_53 : decode cX6_becomeSteps 53 = .ok (.istore 4, 2) := by decide +kernel
theorem dX6_becomeSteps_55 : decode cX6_becomeSteps 55 = .ok (.goto 13, 3) := by decide +kernel
theorem dX6_becomeSteps_58 : decode cX6_becomeSteps 58 = .ok (.aload_n 0, 1) := by decide +kernel
theorem dX6_becomeSteps_59 : decode cX6_becomeSteps 59 = .ok (.iload_n 3, 1) := by decide +kernel
theorem dX6_becomeSteps_60 : decode cX6_becomeSteps 60 = .ok (.iload 6, 2) := by decide +kernel
theorem dX6_becomeSteps_62 : decode cX6_becomeSteps 62 = .ok (.invokevirtual 42, 3) := by decide +kernel
theorem dX6_becomeSteps_65 : decode cX6_becomeSteps 65 = .ok (.iload 6, 2) := by decide +kernel
theorem dX6_becomeSteps_67 : decode cX6_becomeSteps 67 = .ok (.istore_n 3, 1) := by decide +kernel
theorem dX6_becomeSteps_68 : decode cX6_becomeSteps 68 = .ok (.iinc 5 1, 3) := by decide +kernel
theorem dX6_becomeSteps_71 : decode cX6_becomeSteps 71 = .ok (.goto (-58), 3) := by decide +kernel
theorem dX6_becomeSteps_74 : decode cX6_becomeSteps 74 = .ok (.iload_n 3, 1) := by decide +kernel
theorem dX6_becomeSteps_75 : decode cX6_becomeSteps 75 = .ok (.ifCond .le 10, 3) := by decide +kernel
theorem dX6_becomeSteps_78 : decode cX6_becomeSteps 78 = .ok (.aload_n 0, 1) := by decide +kernel
theorem dX6_becomeSteps_79 : decode cX6_becomeSteps 79 = .ok (.iload_n 3, 1) := by decide +kernel
theorem dX6_becomeSteps_80 : decode cX6_becomeSteps 80 = .ok (.iload 4, 2) := by decide +kernel
theorem dX6_becomeSteps_82 : decode cX6_becomeSteps 82 = .ok (.invokevirtual 42, 3) := by decide +kernel
theorem dX6_becomeSteps_85 : decode cX6_becomeSteps 85 = .ok (.aload_n 0, 1) := by decide +kernel
theorem dX6_becomeSteps_86 : decode cX6_becomeSteps 86 = .ok (.invokevirtual 46, 3) := by decide +kernel
theorem dX6_becomeSteps_89 : decode cX6_becomeSteps 89 = .ok (.ireturn, 1) := by decide +kernel
theorem dX6_splitOf_0 : decode cX6_splitOf 0 = .ok (.iconst 1, 1) := by decide +kernel
theorem dX6_splitOf_1 : decode cX6_splitOf 1 = .ok (.istore_n 1, 1) := by decide +kernel
theorem dX6_splitOf_2 : decode cX6_splitOf 2 = .ok (.iconst 0, 1) := by decide +kernel
theorem dX6_splitOf_3 : decode cX6_splitOf 3 = .ok (.istore_n 2, 1) := by decide +kernel
theorem dX6_splitOf_4 : decode cX6_splitOf 4 = .ok (.iload_n 2, 1) := by decide +kernel
theorem dX6_splitOf_5 : decode cX6_splitOf 5 = .ok (.bipush 6, 2) := by decide +kernel
theorem dX6_splitOf_7 : decode cX6_splitOf 7 = .ok (.if_icmp .ge 20, 3) := by decide +kernel
theorem dX6_splitOf_10 : decode cX6_splitOf 10 = .ok (.iconst 2, 1) := by decide +kernel
theorem dX6_splitOf_11 : decode cX6_splitOf 11 = .ok (.iload_n 1, 1) := by decide +kernel
theorem dX6_splitOf_12 : decode cX6_splitOf 12 = .ok (.imul, 1) := by decide +kernel
theorem dX6_splitOf_13 : decode cX6_splitOf 13 = .ok (.iload_n 0, 1) := by decide +kernel
theorem dX6_splitOf_14 : decode cX6_splitOf 14 = .ok (.if_icmp .ge 13, 3) := by decide +kernel
theorem dX6_splitOf_17 : decode cX6_splitOf 17 = .ok (.iconst 2, 1) := by decide +kernel
theorem dX6_splitOf_18 : decode cX6_splitOf 18 = .ok (.iload_n 1, 1) := by decide +kernel
theorem dX6_splitOf_19 : decode cX6_splitOf 19 = .ok (.imul, 1) := by decide +kernel
theorem dX6_splitOf_20 : decode cX6_splitOf 20 = .ok (.istore_n 1, 1) := by decide +kernel
theorem dX6_splitOf_21 : decode cX6_splitOf 21 = .ok (.iinc 2 1, 3) := by decide +kernel
theorem dX6_splitOf_24 : decode cX6_splitOf 24 = .ok (.goto (-20), 3) := by decide +kernel
theorem dX6_splitOf_27 : decode cX6_splitOf 27 = .ok (.iload_n 1, 1) := by decide +kernel
theorem dX6_splitOf_28 : decode cX6_splitOf 28 = .ok (.ireturn, 1) := by decide +kernel
theorem dX6_addRun_0 : decode cX6_addRun 0 = .ok (.aload_n 0, 1) := by decide +kernel
theorem dX6_addRun_1 : decode cX6_addRun 1 = .ok (.getfield 27, 3) := by decide +kernel
theorem dX6_addRun_4 : decode cX6_addRun 4 = .ok (.bipush 8, 2) := by decide +kernel
theorem dX6_addRun_6 : decode cX6_addRun 6 = .ok (.if_icmp .ge 33, 3) := by decide +kernel
theorem dX6_addRun_9 : decode cX6_addRun 9 = .ok (.aload_n 0, 1) := by decide +kernel
theorem dX6_addRun_10 : decode cX6_addRun 10 = .ok (.getfield 20, 3) := by decide +kernel
theorem dX6_addRun_13 : decode cX6_addRun 13 = .ok (.aload_n 0, 1) := by decide +kernel
theorem dX6_addRun_14 : decode cX6_addRun 14 = .ok (.getfield 27, 3) := by decide +kernel
theorem dX6_addRun_17 : decode cX6_addRun 17 = .ok (.iload_n 1, 1) := by decide +kernel
theorem dX6_addRun_18 : decode cX6_addRun 18 = .ok (.iastore, 1) := by decide +kernel
theorem dX6_addRun_19 : decode cX6_addRun 19 = .ok (.aload_n 0, 1) := by decide +kernel
theorem dX6_addRun_20 : decode cX6_addRun 20 = .ok (.getfield 24, 3) := by decide +kernel
theorem dX6_addRun_23 : decode cX6_addRun 23 = .ok (.aload_n 0, 1) := by decide +kernel
theorem dX6_addRun_24 : decode cX6_addRun 24 = .ok (.getfield 27, 3) := by decide +kernel
theorem dX6_addRun_27 : decode cX6_addRun 27 = .ok (.iload_n 2, 1) := by decide +kernel
theorem dX6_addRun_28 : decode cX6_addRun 28 = .ok (.iastore, 1) := by decide +kernel
theorem dX6_addRun_29 : decode cX6_addRun 29 = .ok (.aload_n 0, 1) := by decide +kernel
theorem dX6_addRun_30 : decode cX6_addRun 30 = .ok (.dup, 1) := by decide +kernel
theorem dX6_addRun_31 : decode cX6_addRun 31 = .ok (.getfield 27, 3) := by decide +kernel
theorem dX6_addRun_34 : decode cX6_addRun 34 = .ok (.iconst 1, 1) := by decide +kernel
theorem dX6_addRun_35 : decode cX6_addRun 35 = .ok (.iadd, 1) := by decide +kernel
theorem dX6_addRun_36 : decode cX6_addRun 36 = .ok (.putfield 27, 3) := by decide +kernel
theorem dX6_addRun_39 : decode cX6_addRun 39 = .ok (.return_, 1) := by decide +kernel
theorem dX6_fillFromRuns_0 : decode cX6_fillFromRuns 0 = .ok (.iconst 0, 1) := by decide +kernel
theorem dX6_fillFromRuns_1 : decode cX6_fillFromRuns 1 = .ok (.istore_n 1, 1) := by decide +kernel
theorem dX6_fillFromRuns_2 : decode cX6_fillFromRuns 2 = .ok (.iload_n 1, 1) := by decide +kernel
theorem dX6_fillFromRuns_3 : decode cX6_fillFromRuns 3 = .ok (.aload_n 0, 1) := by decide +kernel
theorem dX6_fillFromRuns_4 : decode cX6_fillFromRuns 4 = .ok (.getfield 27, 3) := by decide +kernel
theorem dX6_fillFromRuns_7 : decode cX6_fillFromRuns 7 = .ok (.if_icmp .ge 42, 3) := by decide +kernel
theorem dX6_fillFromRuns_10 : decode cX6_fillFromRuns 10 = .ok (.aload_n 0, 1) := by decide +kernel
theorem dX6_fillFromRuns_11 : decode cX6_fillFromRuns 11 = .ok (.getfield 27, 3) := by decide +kernel
theorem dX6_fillFromRuns_14 : decode cX6_fillFromRuns 14 = .ok (.iconst 1, 1) := by decide +kernel
theorem dX6_fillFromRuns_15 : decode cX6_fillFromRuns 15 = .ok (.isub, 1) := by decide +kernel
theorem dX6_fillFromRuns_16 : decode cX6_fillFromRuns 16 = .ok (.iload_n 1, 1) := by decide +kernel
theorem dX6_fillFromRuns_17 : decode cX6_fillFromRuns 17 = .ok (.isub, 1) := by decide +kernel
theorem dX6_fillFromRuns_18 : decode cX6_fillFromRuns 18 = .ok (.istore_n 2, 1) := by decide +kernel
theorem dX6_fillFromRuns_19 : decode cX6_fillFromRuns 19 = .ok (.aload_n 0, 1) := by decide +kernel
theorem dX6_fillFromRuns_20 : decode cX6_fillFromRuns 20 = .ok (.getfield 34, 3) := by decide +kernel
theorem dX6_fillFromRuns_23 : decode cX6_fillFromRuns 23 = .ok (.aload_n 0, 1) := by decide +kernel
theorem dX6_fillFromRuns_24 : decode cX6_fillFromRuns 24 = .ok (.getfield 20, 3) := by decide +kernel
theorem dX6_fillFromRuns_27 : decode cX6_fillFromRuns 27 = .ok (.iload_n 2, 1) := by decide +kernel
theorem dX6_fillFromRuns_28 : decode cX6_fillFromRuns 28 = .ok (.iaload, 1) := by decide +kernel
theorem dX6_fillFromRuns_29 : decode cX6_fillFromRuns 29 = .ok (.aload_n 0, 1) := by decide +kernel
theorem dX6_fillFromRuns_30 : decode cX6_fillFromRuns 30 = .ok (.getfield 24, 3) := by decide +kernel
theorem dX6_fillFromRuns_33 : decode cX6_fillFromRuns 33 = .ok (.iload_n 2, 1) := by decide +kernel
theorem dX6_fillFromRuns_34 : decode cX6_fillFromRuns 34 = .ok (.iaload, 1) := by decide +kernel
theorem dX6_fillFromRuns_35 : decode cX6_fillFromRuns 35 = .ok (.aload_n 0, 1) := by decide +kernel
theorem dX6_fillFromRuns_36 : decode cX6_fillFromRuns 36 = .ok (.getfield 14, 3) := by decide +kernel
theorem dX6_fillFromRuns_39 : decode cX6_fillFromRuns 39 = .ok (.iload_n 1, 1) := by decide +kernel
theorem dX6_fillFromRuns_40 : decode cX6_fillFromRuns 40 = .ok (.invokevirtual 50, 3) := by decide +kernel
theorem dX6_fillFromRuns_43 : decode cX6_fillFromRuns 43 = .ok (.iinc 1 1, 3) := by decide +kernel
theorem dX6_fillFromRuns_46 : decode cX6_fillFromRuns 46 = .ok (.goto (-44), 3) := by decide +kernel
theorem dX6_fillFromRuns_49 : decode cX6_fillFromRuns 49 = .ok (.aload_n 0, 1) := by decide +kernel
theorem dX6_fillFromRuns_50 : decode cX6_fillFromRuns 50 = .ok (.aload_n 0, 1) := by decide +kernel
theorem dX6_fillFromRuns_51 : decode cX6_fillFromRuns 51 = .ok (.getfield 27, 3) := by decide +kernel
theorem dX6_fillFromRuns_54 : decode cX6_fillFromRuns 54 = .ok (.putfield 31, 3) := by decide +kernel
theorem dX6_fillFromRuns_57 : decode cX6_fillFromRuns 57 = .ok (.aload_n 0, 1) := by decide +kernel
theorem dX6_fillFromRuns_58 : decode cX6_fillFromRuns 58 = .ok (.getfield 31, 3) := by decide +kernel
theorem dX6_fillFromRuns_61 : decode cX6_fillFromRuns 61 = .ok (.ireturn, 1) := by decide +kernel
theorem dX7_init_0 : decode cX7_init 0 = .ok (.aload_n 0, 1) := by decide +kernel
theorem dX7_init_1 : decode cX7_init 1 = .ok (.invokespecial 3, 3) := by decide +kernel
theorem dX7_init_4 : decode cX7_init 4 = .ok (.aload_n 0, 1) := by decide +kernel
theorem dX7_init_5 : decode cX7_init 5 = .ok (.new 9, 3) := by decide +kernel
theorem dX7_init_8 : decode cX7_init 8 = .ok (.dup, 1) := by decide +kernel
theorem dX7_init_9 : decode cX7_init 9 = .ok (.bipush 127, 2) := by decide +kernel
theorem dX7_init_11 : decode cX7_init 11 = .ok (.invokespecial 11, 3) := by decide +kernel
theorem dX7_init_14 : decode cX7_init 14 = .ok (.putfield 14, 3) := by decide +kernel
theorem dX7_init_17 : decode cX7_init 17 = .ok (.aload_n 0, 1) := by decide +kernel
theorem dX7_init_18 : decode cX7_init 18 = .ok (.aload_n 1, 1) := by decide +kernel
theorem dX7_init_19 : decode cX7_init 19 = .ok (.putfield 20, 3) := by decide +kernel
theorem dX7_init_22 : decode cX7_init 22 = .ok (.return_, 1) := by decide +kernel
theorem dX7_nodeAt_0 : decode cX7_nodeAt 0 = .ok (.sipush 128, 3) := by decide +kernel
theorem dX7_nodeAt_3 : decode cX7_nodeAt 3 = .ok (.sipush 128, 3) := by decide +kernel
theorem dX7_nodeAt_6 : decode cX7_nodeAt 6 = .ok (.iload_n 0, 1) := by decide +kernel
theorem dX7_nodeAt_7 : decode cX7_nodeAt 7 = .ok (.ishr, 1) := by decide +kernel
theorem dX7_nodeAt_8 : decode cX7_nodeAt 8 = .ok (.isub, 1) := by decide +kernel
theorem dX7_nodeAt_9 : decode cX7_nodeAt 9 = .ok (.iload_n 1, 1) := by decide +kernel
theorem dX7_nodeAt_10 : decode cX7_nodeAt 10 = .ok (.iload_n 0, 1) := by decide +kernel
theorem dX7_nodeAt_11 : decode cX7_nodeAt 11 = .ok (.ishr, 1) := by decide +kernel
theorem dX7_nodeAt_12 : decode cX7_nodeAt 12 = .ok (.iadd, 1) := by decide +kernel
theorem dX7_nodeAt_13 : decode cX7_nodeAt 13 = .ok (.ireturn, 1) := by decide +kernel
theorem dX7_addLeaf_0 : decode cX7_addLeaf 0 = .ok (.aload_n 0, 1) := by decide +kernel
theorem dX7_addLeaf_1 : decode cX7_addLeaf 1 = .ok (.getfield 20, 3) := by decide +kernel
theorem dX7_addLeaf_4 : decode cX7_addLeaf 4 = .ok (.invokevirtual 24, 3) := by decide +kernel
theorem dX7_addLeaf_7 : decode cX7_addLeaf 7 = .ok (.aload_n 0, 1) := by decide +kernel
theorem dX7_addLeaf_8 : decode cX7_addLeaf 8 = .ok (.getfield 20, 3) := by decide +kernel
theorem dX7_addLeaf_11 : decode cX7_addLeaf 11 = .ok (.iconst 0, 1) := by decide +kernel
theorem dX7_addLeaf_12 : decode cX7_addLeaf 12 = .ok (.invokevirtual 29, 3) := by decide +kernel
theorem dX7_addLeaf_15 : decode cX7_addLeaf 15 = .ok (.iconst 0, 1) := by decide +kernel
theorem dX7_addLeaf_16 : decode cX7_addLeaf 16 = .ok (.istore_n 3, 1) := by decide +kernel
theorem dX7_addLeaf_17 : decode cX7_addLeaf 17 = .ok (.iload_n 3, 1) := by decide +kernel
theorem dX7_addLeaf_18 : decode cX7_addLeaf 18 = .ok (.bipush 12, 2) := by decide +kernel
theorem dX7_addLeaf_20 : decode cX7_addLeaf 20 = .ok (.if_icmp .ge 24, 3) := by decide +kernel
theorem dX7_addLeaf_23 : decode cX7_addLeaf 23 = .ok (.aload_n 0, 1) := by decide +kernel
theorem dX7_addLeaf_24 : decode cX7_addLeaf 24 = .ok (.getfield 20, 3) := by decide +kernel
theorem dX7_addLeaf_27 : decode cX7_addLeaf 27 = .ok (.aload_n 1, 1) := by decide +kernel
theorem dX7_addLeaf_28 : decode cX7_addLeaf 28 = .ok (.iload_n 2, 1) := by decide +kernel
theorem dX7_addLeaf_29 : decode cX7_addLeaf 29 = .ok (.bipush 12, 2) := by decide +kernel
theorem dX7_addLeaf_31 : decode cX7_addLeaf 31 = .ok (.imul, 1) := by decide +kernel
theorem dX7_addLeaf_32 : decode cX7_addLeaf 32 = .ok (.iload_n 3, 1) := by decide +kernel
theorem dX7_addLeaf_33 : decode cX7_addLeaf 33 = .ok (.iadd, 1) := by decide +kernel
theorem dX7_addLeaf_34 : decode cX7_addLeaf 34 = .ok (.iaload, 1) := by decide +kernel
theorem dX7_addLeaf_35 : decode cX7_addLeaf 35 = .ok (.invokevirtual 29, 3) := by decide +kernel
theorem dX7_addLeaf_38 : decode cX7_addLeaf 38 = .ok (.iinc 3 1, 3) := by decide +kernel
theorem dX7_addLeaf_41 : decode cX7_addLeaf 41 = .ok (.goto (-24), 3) := by decide +kernel
theorem dX7_addLeaf_44 : decode cX7_addLeaf 44 = .ok (.aload_n 0, 1) := by decide +kernel
theorem dX7_addLeaf_45 : decode cX7_addLeaf 45 = .ok (.getfield 20, 3) := by decide +kernel
theorem dX7_addLeaf_48 : decode cX7_addLeaf 48 = .ok (.aload_n 0, 1) := by decide +kernel
theorem dX7_addLeaf_49 : decode cX7_addLeaf 49 = .ok (.getfield 14, 3) := by decide +kernel
theorem dX7_addLeaf_52 : decode cX7_addLeaf 52 = .ok (.iconst 0, 1) := by decide +kernel
theorem dX7_addLeaf_53 : decode cX7_addLeaf 53 = .ok (.iload_n 2, 1) := by decide +kernel
theorem dX7_addLeaf_54 : decode cX7_addLeaf 54 = .ok (.invokestatic 32, 3) := by decide +kernel
theorem dX7_addLeaf_57 : decode cX7_addLeaf 57 = .ok (.invokevirtual 36, 3) := by decide +kernel
theorem dX7_addLeaf_60 : decode cX7_addLeaf 60 = .ok (.iload_n 2, 1) := by decide +kernel
theorem dX7_addLeaf_61 : decode cX7_addLeaf 61 = .ok (.iconst 1, 1) := by decide +kernel
theorem dX7_addLeaf_62 : decode cX7_addLeaf 62 = .ok (.iadd, 1) := by decide +kernel
theorem dX7_addLeaf_63 : decode cX7_addLeaf 63 = .ok (.istore_n 3, 1) := by decide +kernel
theorem dX7_addLeaf_64 : decode cX7_addLeaf 64 = .ok (.iconst 1, 1) := by decide +kernel
theorem dX7_addLeaf_65 : decode cX7_addLeaf 65 = .ok (.istore 4, 2) := by decide +kernel
theorem dX7_addLeaf_67 : decode cX7_addLeaf 67 = .ok (.iload 4, 2) := by decide +kernel
theorem dX7_addLeaf_69 : decode cX7_addLeaf 69 = .ok (.bipush 6, 2) := by decide +kernel
theorem dX7_addLeaf_71 : decode cX7_addLeaf 71 = .ok (.if_icmp .gt 90, 3) := by decide +kernel
theorem dX7_addLeaf_74 : decode cX7_addLeaf 74 = .ok (.iload_n 3, 1) := by decide +kernel
theorem dX7_addLeaf_75 : decode cX7_addLeaf 75 = .ok (.iload 4, 2) := by decide +kernel
theorem dX7_addLeaf_77 : decode cX7_addLeaf 77 = .ok (.ishr, 1) := by decide +kernel
theorem dX7_addLeaf_78 : decode cX7_addLeaf 78 = .ok (.iload 4, 2) := by decide +kernel
theorem dX7_addLeaf_80 : decode cX7_addLeaf 80 = .ok (.ishl, 1) := by decide +kernel
theorem dX7_addLeaf_81 : decode cX7_addLeaf 81 = .ok (.iload_n 3, 1) := by decide +kernel
theorem dX7_addLeaf_82 : decode cX7_addLeaf 82 = .ok (.if_icmp .ne 79, 3) := by decide +kernel
theorem dX7_addLeaf_85 : decode cX7_addLeaf 85 = .ok (.iconst 1, 1) := by decide +kernel
theorem dX7_addLeaf_86 : decode cX7_addLeaf 86 = .ok (.iload 4, 2) := by decide +kernel
theorem dX7_addLeaf_88 : decode cX7_addLeaf 88 = .ok (.iconst 1, 1) := by decide +kernel
theorem dX7_addLeaf_89 : decode cX7_addLeaf 89 = .ok (.isub, 1) := by decide +kernel
theorem dX7_addLeaf_90 : decode cX7_addLeaf 90 = .ok (.ishl, 1) := by decide +kernel
theorem dX7_addLeaf_91 : decode cX7_addLeaf 91 = .ok (.istore 5, 2) := by decide +kernel
theorem dX7_addLeaf_93 : decode cX7_addLeaf 93 = .ok (.iload 4, 2) := by decide +kernel
theorem dX7_addLeaf_95 : decode cX7_addLeaf 95 = .ok (.iconst 1, 1) := by decide +kernel
theorem dX7_addLeaf_96 : decode cX7_addLeaf 96 = .ok (.isub, 1) := by decide +kernel
theorem dX7_addLeaf_97 : decode cX7_addLeaf 97 = .ok (.iload_n 3, 1) := by decide +kernel
theorem dX7_addLeaf_98 : decode cX7_addLeaf 98 = .ok (.iconst 2, 1) := by decide +kernel
theorem dX7_addLeaf_99 : decode cX7_addLeaf 99 = .ok (.iload 5, 2) := by decide +kernel
theorem dX7_addLeaf_101 : decode cX7_addLeaf 101 = .ok (.imul, 1) := by decide +kernel
theorem dX7_addLeaf_102 : decode cX7_addLeaf 102 = .ok (.isub, 1) := by decide +kernel
theorem dX7_addLeaf_103 : decode cX7_addLeaf 103 = .ok (.invokestatic 32, 3) := by decide +kernel
theorem dX7_addLeaf_106 : decode cX7_addLeaf 106 = .ok (.istore 6, 2) := by decide +kernel
theorem dX7_addLeaf_108 : decode cX7_addLeaf 108 = .ok (.iload 4, 2) := by decide +kernel
theorem dX7_addLeaf_110 : decode cX7_addLeaf 110 = .ok (.iconst 1, 1) := by decide +kernel
theorem dX7_addLeaf_111 : decode cX7_addLeaf 111 = .ok (.isub, 1) := by decide +kernel
theorem dX7_addLeaf_112 : decode cX7_addLeaf 112 = .ok (.iload_n 3, 1) := by decide +kernel
theorem dX7_addLeaf_113 : decode cX7_addLeaf 113 = .ok (.iload 5, 2) := by decide +kernel
theorem dX7_addLeaf_115 : decode cX7_addLeaf 115 = .ok (.isub, 1) := by decide +kernel
theorem dX7_addLeaf_116 : decode cX7_addLeaf 116 = .ok (.invokestatic 32, 3) := by decide +kernel
theorem dX7_addLeaf_119 : decode cX7_addLeaf 119 = .ok (.istore 7, 2) := by decide +kernel
theorem dX7_addLeaf_121 : decode cX7_addLeaf 121 = .ok (.aload_n 0, 1) := by decide +kernel
theorem dX7_addLeaf_122 : decode cX7_addLeaf 122 = .ok (.getfield 20, 3) := by decide +kernel
theorem dX7_addLeaf_125 : decode cX7_addLeaf 125 = .ok (.aload_n 0, 1) := by decide +kernel
theorem dX7_addLeaf_126 : decode cX7_addLeaf 126 = .ok (.getfield 14, 3) := by decide +kernel
theorem dX7_addLeaf_129 : decode cX7_addLeaf 129 = .ok (.iload 6, 2) := by decide +kernel
theorem dX7_addLeaf_131 : decode cX7_addLeaf 131 = .ok (.aload_n 0, 1) := by decide +kernel
theorem dX7_addLeaf_132 : decode cX7_addLeaf 132 = .ok (.getfield 14, 3) := by decide +kernel
theorem dX7_addLeaf_135 : decode cX7_addLeaf 135 = .ok (.iload 7, 2) := by decide +kernel
theorem dX7_addLeaf_137 : decode cX7_addLeaf 137 = .ok (.aload_n 0, 1) := by decide +kernel
theorem dX7_addLeaf_138 : decode cX7_addLeaf 138 = .ok (.getfield 14, 3) := by decide +kernel
theorem dX7_addLeaf_141 : decode cX7_addLeaf 141 = .ok (.iload 4, 2) := by decide +kernel
theorem dX7_addLeaf_143 : decode cX7_addLeaf 143 = .ok (.iload_n 3, 1) := by decide +kernel
theorem dX7_addLeaf_144 : decode cX7_addLeaf 144 = .ok (.iconst 2, 1) := by decide +kernel
theorem dX7_addLeaf_145 : decode cX7_addLeaf 145 = .ok (.iload 5, 2) := by decide +kernel
theorem dX7_addLeaf_147 : decode cX7_addLeaf 147 = .ok (.imul, 1) := by decide +kernel
theorem dX7_addLeaf_148 : decode cX7_addLeaf 148 = .ok (.isub, 1) := by decide +kernel
theorem dX7_addLeaf_149 : decode cX7_addLeaf 149 = .ok (.invokestatic 32, 3) := by decide +kernel
theorem dX7_addLeaf_152 : decode cX7_addLeaf 152 = .ok (.invokevirtual 40, 3) := by decide +kernel
theorem dX7_addLeaf_155 : decode cX7_addLeaf 155 = .ok (.iinc 4 1, 3) := by decide +kernel
theorem dX7_addLeaf_158 : decode cX7_addLeaf 158 = .ok (.goto (-91), 3) := by decide +kernel
theorem dX7_addLeaf_161 : decode cX7_addLeaf 161 = .ok (.return_, 1) := by decide +kernel
theorem dX7_rootOf_0 : decode cX7_rootOf 0 = .ok (.iload_n 2, 1) := by decide +kernel
theorem dX7_rootOf_1 : decode cX7_rootOf 1 = .ok (.iload_n 1, 1) := by decide +kernel
theorem dX7_rootOf_2 : decode cX7_rootOf 2 = .ok (.isub, 1) := by decide +kernel
theorem dX7_rootOf_3 : decode cX7_rootOf 3 = .ok (.istore 5, 2) := by decide +kernel
theorem dX7_rootOf_5 : decode cX7_rootOf 5 = .ok (.iload 5, 2) := by decide +kernel
theorem dX7_rootOf_7 : decode cX7_rootOf 7 = .ok (.ifCond .gt 21, 3) := by decide +kernel
theorem dX7_rootOf_10 : decode cX7_rootOf 10 = .ok (.aload_n 0, 1) := by decide +kernel
theorem dX7_rootOf_11 : decode cX7_rootOf 11 = .ok (.getfield 20, 3) := by decide +kernel
theorem dX7_rootOf_14 : decode cX7_rootOf 14 = .ok (.invokevirtual 24, 3) := by decide +kernel
theorem dX7_rootOf_17 : decode cX7_rootOf 17 = .ok (.aload_n 0, 1) := by decide +kernel
theorem dX7_rootOf_18 : decode cX7_rootOf 18 = .ok (.getfield 20, 3) := by decide +kernel
theorem dX7_rootOf_21 : decode cX7_rootOf 21 = .ok (.aload_n 3, 1) := by decide +kernel
theorem dX7_rootOf_22 : decode cX7_rootOf 22 = .ok (.iload 4, 2) := by decide +kernel
theorem dX7_rootOf_24 : decode cX7_rootOf 24 = .ok (.invokevirtual 36, 3) := by decide +kernel
theorem dX7_rootOf_27 : decode cX7_rootOf 27 = .ok (.return_, 1) := by decide +kernel
theorem dX7_rootOf_28 : decode cX7_rootOf 28 = .ok (.iload_n 2, 1) := by decide +kernel
theorem dX7_rootOf_29 : decode cX7_rootOf 29 = .ok (.istore 6, 2) := by decide +kernel
theorem dX7_rootOf_31 : decode cX7_rootOf 31 = .ok (.iconst 0, 1) := by decide +kernel
theorem dX7_rootOf_32 : decode cX7_rootOf 32 = .ok (.istore 7, 2) := by decide +kernel
theorem dX7_rootOf_34 : decode cX7_rootOf 34 = .ok (.iload 7, 2) := by decide +kernel
theorem dX7_rootOf_36 : decode cX7_rootOf 36 = .ok (.bipush 6, 2) := by decide +kernel
theorem dX7_rootOf_38 : decode cX7_rootOf 38 = .ok (.if_icmp .gt 95, 3) := by decide +kernel
theorem dX7_rootOf_41 : decode cX7_rootOf 41 = .ok (.iconst 1, 1) := by decide +kernel
theorem dX7_rootOf_42 : decode cX7_rootOf 42 = .ok (.iload 7, 2) := by decide +kernel
theorem dX7_rootOf_44 : decode cX7_rootOf 44 = .ok (.ishl, 1) := by decide +kernel
theorem dX7_rootOf_45 : decode cX7_rootOf 45 = .ok (.istore 8, 2) := by decide +kernel
theorem dX7_rootOf_47 : decode cX7_rootOf 47 = .ok (.iload 5, 2) := by decide +kernel
theorem dX7_rootOf_49 : decode cX7_rootOf 49 = .ok (.iload 8, 2) := by decide +kernel
theorem dX7_rootOf_51 : decode cX7_rootOf 51 = .ok (.iand, 1) := by decide +kernel
theorem dX7_rootOf_52 : decode cX7_rootOf 52 = .ok (.ifCond .ne 6, 3) := by decide +kernel
theorem dX7_rootOf_55 : decode cX7_rootOf 55 = .ok (.goto 72, 3) := by decide +kernel
theorem dX7_rootOf_58 : decode cX7_rootOf 58 = .ok (.iload 6, 2) := by decide +kernel
theorem dX7_rootOf_60 : decode cX7_rootOf 60 = .ok (.iload_n 2, 1) := by decide +kernel
theorem dX7_rootOf_61 : decode cX7_rootOf 61 = .ok (.if_icmp .ne 7, 3) := by decide +kernel
theorem dX7_rootOf_64 : decode cX7_rootOf 64 = .ok (.iconst 1, 1) := by decide +kernel
theorem dX7_rootOf_65 : decode cX7_rootOf 65 = .ok (.goto 4, 3) := by decide +kernel
theorem dX7_rootOf_68 : decode cX7_rootOf 68 = .ok (.iconst 0, 1) := by decide +kernel
theorem dX7_rootOf_69 : decode cX7_rootOf 69 = .ok (.istore 9, 2) := by decide +kernel
theorem dX7_rootOf_71 : decode cX7_rootOf 71 = .ok (.iload 6, 2) := by decide +kernel
theorem dX7_rootOf_73 : decode cX7_rootOf 73 = .ok (.iload 8, 2) := by decide +kernel
theorem dX7_rootOf_75 : decode cX7_rootOf 75 = .ok (.isub, 1) := by decide +kernel
theorem dX7_rootOf_76 : decode cX7_rootOf 76 = .ok (.istore 6, 2) := by decide +kernel
theorem dX7_rootOf_78 : decode cX7_rootOf 78 = .ok (.iload 9, 2) := by decide +kernel
theorem dX7_rootOf_80 : decode cX7_rootOf 80 = .ok (.ifCond .eq 23, 3) := by decide +kernel
theorem dX7_rootOf_83 : decode cX7_rootOf 83 = .ok (.aload_n 3, 1) := by decide +kernel
theorem dX7_rootOf_84 : decode cX7_rootOf 84 = .ok (.iload 4, 2) := by decide +kernel
theorem dX7_rootOf_86 : decode cX7_rootOf 86 = .ok (.aload_n 0, 1) := by decide +kernel
theorem dX7_rootOf_87 : decode cX7_rootOf 87 = .ok (.getfield 14, 3) := by decide +kernel
theorem dX7_rootOf_90 : decode cX7_rootOf 90 = .ok (.iload 7, 2) := by decide +kernel
theorem dX7_rootOf_92 : decode cX7_rootOf 92 = .ok (.iload 6, 2) := by decide +kernel
theorem dX7_rootOf_94 : decode cX7_rootOf 94 = .ok (.invokestatic 32, 3) := by decide +kernel
theorem dX7_rootOf_97 : decode cX7_rootOf 97 = .ok (.invokevirtual 44, 3) := by decide +kernel
theorem dX7_rootOf_100 : decode cX7_rootOf 100 = .ok (.goto 27, 3) := by decide +kernel
theorem dX7_rootOf_103 : decode cX7_rootOf 103 = .ok (.aload_n 0, 1) := by decide +kernel
theorem dX7_rootOf_104 : decode cX7_rootOf 104 = .ok (.getfield 20, 3) := by decide +kernel
theorem dX7_rootOf_107 : decode cX7_rootOf 107 = .ok (.aload_n 0, 1) := by decide +kernel
theorem dX7_rootOf_108 : decode cX7_rootOf 108 = .ok (.getfield 14, 3) := by decide +kernel
theorem dX7_rootOf_111 : decode cX7_rootOf 111 = .ok (.iload 7, 2) := by decide +kernel
theorem dX7_rootOf_113 : decode cX7_rootOf 113 = .ok (.iload 6, 2) := by decide +kernel
theorem dX7_rootOf_115 : decode cX7_rootOf 115 = .ok (.invokestatic 32, 3) := by decide +kernel
theorem dX7_rootOf_118 : decode cX7_rootOf 118 = .ok (.aload_n 3, 1) := by decide +kernel
theorem dX7_rootOf_119 : decode cX7_rootOf 119 = .ok (.iload 4, 2) := by decide +kernel
theorem dX7_rootOf_121 : decode cX7_rootOf 121 = .ok (.aload_n 3, 1) := by decide +kernel
theorem dX7_rootOf_122 : decode cX7_rootOf 122 = .ok (.iload 4, 2) := by decide +kernel
theorem dX7_rootOf_124 : decode cX7_rootOf 124 = .ok (.invokevirtual 40, 3) := by decide +kernel
theorem dX7_rootOf_127 : decode cX7_rootOf 127 = .ok (.iinc 7 1, 3) := by decide +kernel
theorem dX7_rootOf_130 : decode cX7_rootOf 130 = .ok (.goto (-96), 3) := by decide +kernel
theorem dX7_rootOf_133 : decode cX7_rootOf 133 = .ok (.return_, 1) := by decide +kernel
theorem dX8_init_0 : decode cX8_init 0 = .ok (.aload_n 0, 1) := by decide +kernel
theorem dX8_init_1 : decode cX8_init 1 = .ok (.invokespecial 3, 3) := by decide +kernel
theorem dX8_init_4 : decode cX8_init 4 = .ok (.aload_n 0, 1) := by decide +kernel
theorem dX8_init_5 : decode cX8_init 5 = .ok (.new 9, 3) := by decide +kernel
theorem dX8_init_8 : decode cX8_init 8 = .ok (.dup, 1) := by decide +kernel
theorem dX8_init_9 : decode cX8_init 9 = .ok (.invokespecial 11, 3) := by decide +kernel
theorem dX8_init_12 : decode cX8_init 12 = .ok (.putfield 12, 3) := by decide +kernel
theorem dX8_init_15 : decode cX8_init 15 = .ok (.aload_n 0, 1) := by decide +kernel
theorem dX8_init_16 : decode cX8_init 16 = .ok (.new 16, 3) := by decide +kernel
theorem dX8_init_19 : decode cX8_init 19 = .ok (.dup, 1) := by decide +kernel
theorem dX8_init_20 : decode cX8_init 20 = .ok (.invokespecial 18, 3) := by decide +kernel
theorem dX8_init_23 : decode cX8_init 23 = .ok (.putfield 19, 3) := by decide +kernel
theorem dX8_init_26 : decode cX8_init 26 = .ok (.aload_n 0, 1) := by decide +kernel
theorem dX8_init_27 : decode cX8_init 27 = .ok (.new 23, 3) := by decide +kernel
theorem dX8_init_30 : decode cX8_init 30 = .ok (.dup, 1) := by decide +kernel
theorem dX8_init_31 : decode cX8_init 31 = .ok (.aload_n 0, 1) := by decide +kernel
theorem dX8_init_32 : decode cX8_init 32 = .ok (.getfield 19, 3) := by decide +kernel
theorem dX8_init_35 : decode cX8_init 35 = .ok (.invokespecial 25, 3) := by decide +kernel
theorem dX8_init_38 : decode cX8_init 38 = .ok (.putfield 28, 3) := by decide +kernel
theorem dX8_init_41 : decode cX8_init 41 = .ok (.aload_n 0, 1) := by decide +kernel
theorem dX8_init_42 : decode cX8_init 42 = .ok (.new 32, 3) := by decide +kernel
theorem dX8_init_45 : decode cX8_init 45 = .ok (.dup, 1) := by decide +kernel
theorem dX8_init_46 : decode cX8_init 46 = .ok (.aload_n 0, 1) := by decide +kernel
theorem dX8_init_47 : decode cX8_init 47 = .ok (.getfield 19, 3) := by decide +kernel
theorem dX8_init_50 : decode cX8_init 50 = .ok (.aload_n 0, 1) := by decide +kernel
theorem dX8_init_51 : decode cX8_init 51 = .ok (.getfield 28, 3) := by decide +kernel
theorem dX8_init_54 : decode cX8_init 54 = .ok (.invokespecial 34, 3) := by decide +kernel
theorem dX8_init_57 : decode cX8_init 57 = .ok (.putfield 37, 3) := by decide +kernel
theorem dX8_init_60 : decode cX8_init 60 = .ok (.aload_n 0, 1) := by decide +kernel
theorem dX8_init_61 : decode cX8_init 61 = .ok (.new 41, 3) := by decide +kernel
theorem dX8_init_64 : decode cX8_init 64 = .ok (.dup, 1) := by decide +kernel
theorem dX8_init_65 : decode cX8_init 65 = .ok (.aload_n 0, 1) := by decide +kernel
theorem dX8_init_66 : decode cX8_init 66 = .ok (.getfield 28, 3) := by decide +kernel
theorem dX8_init_69 : decode cX8_init 69 = .ok (.invokespecial 43, 3) := by decide +kernel
theorem dX8_init_72 : decode cX8_init 72 = .ok (.putfield 46, 3) := by decide +kernel
theorem dX8_init_75 : decode cX8_init 75 = .ok (.aload_n 0, 1) := by decide +kernel
theorem dX8_init_76 : decode cX8_init 76 = .ok (.new 50, 3) := by decide +kernel
theorem dX8_init_79 : decode cX8_init 79 = .ok (.dup, 1) := by decide +kernel
theorem dX8_init_80 : decode cX8_init 80 = .ok (.iconst 4, 1) := by decide +kernel
theorem dX8_init_81 : decode cX8_init 81 = .ok (.invokespecial 52, 3) := by decide +kernel
theorem dX8_init_84 : decode cX8_init 84 = .ok (.putfield 55, 3) := by decide +kernel
theorem dX8_init_87 : decode cX8_init 87 = .ok (.aload_n 0, 1) := by decide +kernel
theorem dX8_init_88 : decode cX8_init 88 = .ok (.new 59, 3) := by decide +kernel
theorem dX8_init_91 : decode cX8_init 91 = .ok (.dup, 1) := by decide +kernel
theorem dX8_init_92 : decode cX8_init 92 = .ok (.aload_n 0, 1) := by decide +kernel
theorem dX8_init_93 : decode cX8_init 93 = .ok (.getfield 19, 3) := by decide +kernel
theorem dX8_init_96 : decode cX8_init 96 = .ok (.aload_n 0, 1) := by decide +kernel
theorem dX8_init_97 : decode cX8_init 97 = .ok (.getfield 46, 3) := by decide +kernel
theorem dX8_init_100 : decode cX8_init 100 = .ok (.aload_n 0, 1) := by decide +kernel
theorem dX8_init_101 : decode cX8_init 101 = .ok (.getfield 55, 3) := by decide +kernel
theorem dX8_init_104 : decode cX8_init 104 = .ok (.invokespecial 61, 3) := by decide +kernel
theorem dX8_init_107 : decode cX8_init 107 = .ok (.putfield 64, 3) := by decide +kernel
theorem dX8_init_110 : decode cX8_init 110 = .ok (.aload_n 0, 1) := by decide +kernel
theorem dX8_init_111 : decode cX8_init 111 = .ok (.new 68, 3) := by decide +kernel
theorem dX8_init_114 : decode cX8_init 114 = .ok (.dup, 1) := by decide +kernel
theorem dX8_init_115 : decode cX8_init 115 = .ok (.invokespecial 70, 3) := by decide +kernel
theorem dX8_init_118 : decode cX8_init 118 = .ok (.putfield 71, 3) := by decide +kernel
theorem dX8_init_121 : decode cX8_init 121 = .ok (.aload_n 0, 1) := by decide +kernel
theorem dX8_init_122 : decode cX8_init 122 = .ok (.new 50, 3) := by decide +kernel
theorem dX8_init_125 : decode cX8_init 125 = .ok (.dup, 1) := by decide +kernel
theorem dX8_init_126 : decode cX8_init 126 = .ok (.iconst 1, 1) := by decide +kernel
theorem dX8_init_127 : decode cX8_init 127 = .ok (.invokespecial 52, 3) := by decide +kernel
theorem dX8_init_130 : decode cX8_init 130 = .ok (.putfield 75, 3) := by decide +kernel
theorem dX8_init_133 : decode cX8_init 133 = .ok (.aload_n 0, 1) := by decide +kernel
theorem dX8_init_134 : decode cX8_init 134 = .ok (.iconst 0, 1) := by decide +kernel
theorem dX8_init_135 : decode cX8_init 135 = .ok (.putfield 78, 3) := by decide +kernel
theorem dX8_init_138 : decode cX8_init 138 = .ok (.aload_n 0, 1) := by decide +kernel
theorem dX8_init_139 : decode cX8_init 139 = .ok (.iconst 0, 1) := by decide +kernel
theorem dX8_init_140 : decode cX8_init 140 = .ok (.putfield 82, 3) := by decide +kernel
theorem dX8_init_143 : decode cX8_init 143 = .ok (.return_, 1) := by decide +kernel
theorem dX8_clock_0 : decode cX8_clock 0 = .ok (.iload_n 1, 1) := by decide +kernel
theorem dX8_clock_1 : decode cX8_clock 1 = .ok (.iconst 0, 1) := by decide +kernel
theorem dX8_clock_2 : decode cX8_clock 2 = .ok (.ldc 86, 2) := by decide +kernel
theorem dX8_clock_4 : decode cX8_clock 4 = .ok (.invokestatic 87, 3) := by decide +kernel
theorem dX8_clock_7 : decode cX8_clock 7 = .ok (.ifCond .eq 14, 3) := by decide +kernel
theorem dX8_clock_10 : decode cX8_clock 10 = .ok (.aload_n 0, 1) := by decide +kernel
theorem dX8_clock_11 : decode cX8_clock 11 = .ok (.getfield 78, 3) := by decide +kernel
theorem dX8_clock_14 : decode cX8_clock 14 = .ok (.iload_n 1, 1) := by decide +kernel
theorem dX8_clock_15 : decode cX8_clock 15 = .ok (.iadd, 1) := by decide +kernel
theorem dX8_clock_16 : decode cX8_clock 16 = .ok (.ldc 91, 2) := by decide +kernel
theorem dX8_clock_18 : decode cX8_clock 18 = .ok (.if_icmp .le 6, 3) := by decide +kernel
theorem dX8_clock_21 : decode cX8_clock 21 = .ok (.bipush (-2), 2) := by decide +kernel
theorem dX8_clock_23 : decode cX8_clock 23 = .ok (.ireturn, 1) := by decide +kernel
theorem dX8_clock_24 : decode cX8_clock 24 = .ok (.aload_n 0, 1) := by decide +kernel
theorem dX8_clock_25 : decode cX8_clock 25 = .ok (.dup, 1) := by decide +kernel
theorem dX8_clock_26 : decode cX8_clock 26 = .ok (.getfield 78, 3) := by decide +kernel
theorem dX8_clock_29 : decode cX8_clock 29 = .ok (.iload_n 1, 1) := by decide +kernel
theorem dX8_clock_30 : decode cX8_clock 30 = .ok (.iadd, 1) := by decide +kernel
theorem dX8_clock_31 : decode cX8_clock 31 = .ok (.putfield 78, 3) := by decide +kernel
theorem dX8_clock_34 : decode cX8_clock 34 = .ok (.aload_n 0, 1) := by decide +kernel
theorem dX8_clock_35 : decode cX8_clock 35 = .ok (.getfield 78, 3) := by decide +kernel
theorem dX8_clock_38 : decode cX8_clock 38 = .ok (.ireturn, 1) := by decide +kernel
theorem dX8_request_0 : decode cX8_request 0 = .ok (.iload_n 1, 1) := by decide +kernel
theorem dX8_request_1 : decode cX8_request 1 = .ok (.invokestatic 92, 3) := by decide +kernel
theorem dX8_request_4 : decode cX8_request 4 = .ok (.ifCond .eq 17, 3) := by decide +kernel
theorem dX8_request_7 : decode cX8_request 7 = .ok (.iload_n 2, 1) := by decide +kernel
theorem dX8_request_8 : decode cX8_request 8 = .ok (.invokestatic 96, 3) := by decide +kernel
theorem dX8_request_11 : decode cX8_request 11 = .ok (.ifCond .eq 10, 3) := by decide +kernel
theorem dX8_request_14 : decode cX8_request 14 = .ok (.iload_n 3, 1) := by decide +kernel
theorem dX8_request_15 : decode cX8_request 15 = .ok (.invokestatic 99, 3) := by decide +kernel
theorem dX8_request_18 : decode cX8_request 18 = .ok (.ifCond .ne 6, 3) := by decide +kernel
theorem dX8_request_21 : decode cX8_request 21 = .ok (.bipush (-2), 2) := by decide +kernel
theorem dX8_request_23 : decode cX8_request 23 = .ok (.ireturn, 1) := by decide +kernel
theorem dX8_request_24 : decode cX8_request 24 = .ok (.aload_n 0, 1) := by decide +kernel
theorem dX8_request_25 : decode cX8_request 25 = .ok (.invokevirtual 102, 3) := by decide +kernel
theorem dX8_request_28 : decode cX8_request 28 = .ok (.istore 4, 2) := by decide +kernel
theorem dX8_request_30 : decode cX8_request 30 = .ok (.iload 4, 2) := by decide +kernel
theorem dX8_request_32 : decode cX8_request 32 = .ok (.ifCond .eq 6, 3) := by decide +kernel
theorem dX8_request_35 : decode cX8_request 35 = .ok (.iload 4, 2) := by decide +kernel
theorem dX8_request_37 : decode cX8_request 37 = .ok (.ireturn, 1) := by decide +kernel
theorem dX8_request_38 : decode cX8_request 38 = .ok (.aload_n 0, 1) := by decide +kernel
theorem dX8_request_39 : decode cX8_request 39 = .ok (.getfield 12, 3) := by decide +kernel
theorem dX8_request_42 : decode cX8_request 42 = .ok (.iload_n 1, 1) := by decide +kernel
theorem dX8_request_43 : decode cX8_request 43 = .ok (.iload_n 2, 1) := by decide +kernel
theorem dX8_request_44 : decode cX8_request 44 = .ok (.iload_n 3, 1) := by decide +kernel
theorem dX8_request_45 : decode cX8_request 45 = .ok (.invokevirtual 106, 3) := by decide +kernel
theorem dX8_request_48 : decode cX8_request 48 = .ok (.istore 5, 2) := by decide +kernel
theorem dX8_request_50 : decode cX8_request 50 = .ok (.aload_n 0, 1) := by decide +kernel
theorem dX8_request_51 : decode cX8_request 51 = .ok (.getfield 12, 3) := by decide +kernel
theorem dX8_request_54 : decode cX8_request 54 = .ok (.iload_n 1, 1) := by decide +kernel
theorem dX8_request_55 : decode cX8_request 55 = .ok (.iload 5, 2) := by decide +kernel
theorem dX8_request_57 : decode cX8_request 57 = .ok (.ifCond .ne 7, 3) := by decide +kernel
theorem dX8_request_60 : decode cX8_request 60 = .ok (.iconst 1, 1) := by decide +kernel
theorem dX8_request_61 : decode cX8_request 61 = .ok (.goto 4, 3) := by decide +kernel
theorem dX8_request_64 : decode cX8_request 64 = .ok (.iconst 0, 1) := by decide +kernel
theorem dX8_request_65 : decode cX8_request 65 = .ok (.invokevirtual 110, 3) := by decide +kernel
theorem dX8_request_68 : decode cX8_request 68 = .ok (.aload_n 0, 1) := by decide +kernel
theorem dX8_request_69 : decode cX8_request 69 = .ok (.iconst 0, 1) := by decide +kernel
theorem dX8_request_70 : decode cX8_request 70 = .ok (.iload_n 1, 1) := by decide +kernel
theorem dX8_request_71 : decode cX8_request 71 = .ok (.iload_n 2, 1) := by decide +kernel
theorem dX8_request_72 : decode cX8_request 72 = .ok (.iload_n 3, 1) := by decide +kernel
theorem dX8_request_73 : decode cX8_request 73 = .ok (.iload 5, 2) := by decide +kernel
theorem dX8_request_75 : decode cX8_request 75 = .ok (.invokevirtual 114, 3) := by decide +kernel
theorem dX8_request_78 : decode cX8_request 78 = .ok (.iload 5, 2) := by decide +kernel
theorem dX8_request_80 : decode cX8_request 80 = .ok (.ireturn, 1) := by decide +kernel
theorem dX8_give_0 : decode cX8_give 0 = .ok (.aload_n 0, 1) := by decide +kernel
theorem dX8_give_1 : decode cX8_give 1 = .ok (.iload_n 1, 1) := by decide +kernel
theorem dX8_give_2 : decode cX8_give 2 = .ok (.iload_n 2, 1) := by decide +kernel
theorem dX8_give_3 : decode cX8_give 3 = .ok (.iload_n 3, 1) := by decide +kernel
theorem dX8_give_4 : decode cX8_give 4 = .ok (.iconst 1, 1) := by decide +kernel
theorem dX8_give_5 : decode cX8_give 5 = .ok (.invokevirtual 118, 3) := by decide +kernel
theorem dX8_give_8 : decode cX8_give 8 = .ok (.ireturn, 1) := by decide +kernel
theorem dX8_take_0 : decode cX8_take 0 = .ok (.aload_n 0, 1) := by decide +kernel
theorem dX8_take_1 : decode cX8_take 1 = .ok (.iload_n 1, 1) := by decide +kernel
theorem dX8_take_2 : decode cX8_take 2 = .ok (.iload_n 2, 1) := by decide +kernel
theorem dX8_take_3 : decode cX8_take 3 = .ok (.iload_n 3, 1) := by decide +kernel
theorem dX8_take_4 : decode cX8_take 4 = .ok (.iconst 0, 1) := by decide +kernel
theorem dX8_take_5 : decode cX8_take 5 = .ok (.invokevirtual 118, 3) := by decide +kernel
theorem dX8_take_8 : decode cX8_take 8 = .ok (.ireturn, 1) := by decide +kernel
theorem dX8_subject_0 : decode cX8_subject 0 = .ok (.iload_n 1, 1) := by decide +kernel
theorem dX8_subject_1 : decode cX8_subject 1 = .ok (.invokestatic 92, 3) := by decide +kernel
theorem dX8_subject_4 : decode cX8_subject 4 = .ok (.ifCond .eq 19, 3) := by decide +kernel
theorem dX8_subject_7 : decode cX8_subject 7 = .ok (.iload_n 2, 1) := by decide +kernel
theorem dX8_subject_8 : decode cX8_subject 8 = .ok (.invokestatic 122, 3) := by decide +kernel
theorem dX8_subject_11 : decode cX8_subject 11 = .ok (.ifCond .eq 12, 3) := by decide +kernel
theorem dX8_subject_14 : decode cX8_subject 14 = .ok (.iload_n 3, 1) := by decide +kernel
theorem dX8_subject_15 : decode cX8_subject 15 = .ok (.iconst 0, 1) := by decide +kernel
theorem dX8_subject_16 : decode cX8_subject 16 = .ok (.iconst 3, 1) := by decide +kernel
theorem dX8_subject_17 : decode cX8_subject 17 = .ok (.invokestatic 87, 3) := by decide +kernel
theorem dX8_subject_20 : decode cX8_subject 20 = .ok (.ifCond .ne 6, 3) := by decide +kernel
theorem dX8_subject_23 : decode cX8_subject 23 = .ok (.bipush (-2), 2) := by decide +kernel
theorem dX8_subject_25 : decode cX8_subject 25 = .ok (.ireturn, 1) := by decide +kernel
theorem dX8_subject_26 : decode cX8_subject 26 = .ok (.aload_n 0, 1) := by decide +kernel
theorem dX8_subject_27 : decode cX8_subject 27 = .ok (.invokevirtual 102, 3) := by decide +kernel
theorem dX8_subject_30 : decode cX8_subject 30 = .ok (.istore 4, 2) := by decide +kernel
theorem dX8_subject_32 : decode cX8_subject 32 = .ok (.iload 4, 2) := by decide +kernel
theorem dX8_subject_34 : decode cX8_subject 34 = .ok (.ifCond .eq 6, 3) := by decide +kernel
theorem dX8_subject_37 : decode cX8_subject 37 = .ok (.iload 4, 2) := by decide +kernel
theorem dX8_subject_39 : decode cX8_subject 39 = .ok (.ireturn, 1) := by decide +kernel
theorem dX8_subject_40 : decode cX8_subject 40 = .ok (.aload_n 0, 1) := by decide +kernel
theorem dX8_subject_41 : decode cX8_subject 41 = .ok (.getfield 12, 3) := by decide +kernel
theorem dX8_subject_44 : decode cX8_subject 44 = .ok (.iload_n 1, 1) := by decide +kernel
theorem dX8_subject_45 : decode cX8_subject 45 = .ok (.iload_n 2, 1) := by decide +kernel
theorem dX8_subject_46 : decode cX8_subject 46 = .ok (.iload_n 3, 1) := by decide +kernel
theorem dX8_subject_47 : decode cX8_subject 47 = .ok (.invokevirtual 125, 3) := by decide +kernel
theorem dX8_subject_50 : decode cX8_subject 50 = .ok (.aload_n 0, 1) := by decide +kernel
theorem dX8_subject_51 : decode cX8_subject 51 = .ok (.iconst 3, 1) := by decide +kernel
theorem dX8_subject_52 : decode cX8_subject 52 = .ok (.iload_n 1, 1) := by decide +kernel
theorem dX8_subject_53 : decode cX8_subject 53 = .ok (.iload_n 2, 1) := by decide +kernel
theorem dX8_subject_54 : decode cX8_subject 54 = .ok (.iload_n 3, 1) := by decide +kernel
theorem dX8_subject_55 : decode cX8_subject 55 = .ok (.iconst 0, 1) := by decide +kernel
theorem dX8_subject_56 : decode cX8_subject 56 = .ok (.invokevirtual 114, 3) := by decide +kernel
theorem dX8_subject_59 : decode cX8_subject 59 = .ok (.iconst 1, 1) := by decide +kernel
theorem dX8_subject_60 : decode cX8_subject 60 = .ok (.ireturn, 1) := by decide +kernel
theorem dX8_object_0 : decode cX8_object 0 = .ok (.iload_n 1, 1) := by decide +kernel
theorem dX8_object_1 : decode cX8_object 1 = .ok (.invokestatic 96, 3) := by decide +kernel
theorem dX8_object_4 : decode cX8_object 4 = .ok (.ifCond .eq 17, 3) := by decide +kernel
theorem dX8_object_7 : decode cX8_object 7 = .ok (.iload_n 2, 1) := by decide +kernel
theorem dX8_object_8 : decode cX8_object 8 = .ok (.invokestatic 122, 3) := by decide +kernel
theorem dX8_object_11 : decode cX8_object 11 = .ok (.ifCond .eq 10, 3) := by decide +kernel
theorem dX8_object_14 : decode cX8_object 14 = .ok (.iload_n 3, 1) := by decide +kernel
theorem dX8_object_15 : decode cX8_object 15 = .ok (.invokestatic 92, 3) := by decide +kernel
theorem dX8_object_18 : decode cX8_object 18 = .ok (.ifCond .ne 6, 3) := by decide +kernel
theorem dX8_object_21 : decode cX8_object 21 = .ok (.bipush (-2), 2) := by decide +kernel
theorem dX8_object_23 : decode cX8_object 23 = .ok (.ireturn, 1) := by decide +kernel
theorem dX8_object_24 : decode cX8_object 24 = .ok (.aload_n 0, 1) := by decide +kernel
theorem dX8_object_25 : decode cX8_object 25 = .ok (.invokevirtual 102, 3) := by decide +kernel
theorem dX8_object_28 : decode cX8_object 28 = .ok (.istore 4, 2) := by decide +kernel
theorem dX8_object_30 : decode cX8_object 30 = .ok (.iload 4, 2) := by decide +kernel
theorem dX8_object_32 : decode cX8_object 32 = .ok (.ifCond .eq 6, 3) := by decide +kernel
theorem dX8_object_35 : decode cX8_object 35 = .ok (.iload 4, 2) := by decide +kernel
theorem dX8_object_37 : decode cX8_object 37 = .ok (.ireturn, 1) := by decide +kernel
theorem dX8_object_38 : decode cX8_object 38 = .ok (.aload_n 0, 1) := by decide +kernel
theorem dX8_object_39 : decode cX8_object 39 = .ok (.getfield 12, 3) := by decide +kernel
theorem dX8_object_42 : decode cX8_object 42 = .ok (.iload_n 1, 1) := by decide +kernel
theorem dX8_object_43 : decode cX8_object 43 = .ok (.iload_n 2, 1) := by decide +kernel
theorem dX8_object_44 : decode cX8_object 44 = .ok (.iload_n 3, 1) := by decide +kernel
theorem dX8_object_45 : decode cX8_object 45 = .ok (.invokevirtual 129, 3) := by decide +kernel
theorem dX8_object_48 : decode cX8_object 48 = .ok (.aload_n 0, 1) := by decide +kernel
theorem dX8_object_49 : decode cX8_object 49 = .ok (.iconst 4, 1) := by decide +kernel
theorem dX8_object_50 : decode cX8_object 50 = .ok (.iload_n 1, 1) := by decide +kernel
theorem dX8_object_51 : decode cX8_object 51 = .ok (.iload_n 2, 1) := by decide +kernel
theorem dX8_object_52 : decode cX8_object 52 = .ok (.iload_n 3, 1) := by decide +kernel
theorem dX8_object_53 : decode cX8_object 53 = .ok (.iconst 0, 1) := by decide +kernel
theorem dX8_object_54 : decode cX8_object 54 = .ok (.invokevirtual 114, 3) := by decide +kernel
theorem dX8_object_57 : decode cX8_object 57 = .ok (.iconst 1, 1) := by decide +kernel
theorem dX8_object_58 : decode cX8_object 58 = .ok (.ireturn, 1) := by decide +kernel
theorem dX8_unlock_0 : decode cX8_unlock 0 = .ok (.iload_n 1, 1) := by decide +kernel
theorem dX8_unlock_1 : decode cX8_unlock 1 = .ok (.invokestatic 92, 3) := by decide +kernel
theorem dX8_unlock_4 : decode cX8_unlock 4 = .ok (.ifCond .ne 6, 3) := by decide +kernel
theorem dX8_unlock_7 : decode cX8_unlock 7 = .ok (.bipush (-2), 2) := by decide +kernel
theorem dX8_unlock_9 : decode cX8_unlock 9 = .ok (.ireturn, 1) := by decide +kernel
theorem dX8_unlock_10 : decode cX8_unlock 10 = .ok (.aload_n 0, 1) := by decide +kernel
theorem dX8_unlock_11 : decode cX8_unlock 11 = .ok (.invokevirtual 102, 3) := by decide +kernel
theorem dX8_unlock_14 : decode cX8_unlock 14 = .ok (.istore_n 2, 1) := by decide +kernel
theorem dX8_unlock_15 : decode cX8_unlock 15 = .ok (.iload_n 2, 1) := by decide +kernel
theorem dX8_unlock_16 : decode cX8_unlock 16 = .ok (.ifCond .eq 5, 3) := by decide +kernel
theorem dX8_unlock_19 : decode cX8_unlock 19 = .ok (.iload_n 2, 1) := by decide +kernel
theorem dX8_unlock_20 : decode cX8_unlock 20 = .ok (.ireturn, 1) := by decide +kernel
theorem dX8_unlock_21 : decode cX8_unlock 21 = .ok (.aload_n 0, 1) := by decide +kernel
theorem dX8_unlock_22 : decode cX8_unlock 22 = .ok (.getfield 12, 3) := by decide +kernel
theorem dX8_unlock_25 : decode cX8_unlock 25 = .ok (.iload_n 1, 1) := by decide +kernel
theorem dX8_unlock_26 : decode cX8_unlock 26 = .ok (.invokevirtual 132, 3) := by decide +kernel
theorem dX8_unlock_29 : decode cX8_unlock 29 = .ok (.istore_n 3, 1) := by decide +kernel
theorem dX8_unlock_30 : decode cX8_unlock 30 = .ok (.aload_n 0, 1) := by decide +kernel
theorem dX8_unlock_31 : decode cX8_unlock 31 = .ok (.iconst 5, 1) := by decide +kernel
theorem dX8_unlock_32 : decode cX8_unlock 32 = .ok (.iload_n 1, 1) := by decide +kernel
theorem dX8_unlock_33 : decode cX8_unlock 33 = .ok (.iconst 0, 1) := by decide +kernel
theorem dX8_unlock_34 : decode cX8_unlock 34 = .ok (.iconst 0, 1) := by decide +kernel
theorem dX8_unlock_35 : decode cX8_unlock 35 = .ok (.iconst 0, 1) := by decide +kernel
theorem dX8_unlock_36 : decode cX8_unlock 36 = .ok (.invokevirtual 114, 3) := by decide +kernel
theorem dX8_unlock_39 : decode cX8_unlock 39 = .ok (.iload_n 3, 1) := by decide +kernel
theorem dX8_unlock_40 : decode cX8_unlock 40 = .ok (.ifCond .eq 7, 3) := by decide +kernel
theorem dX8_unlock_43 : decode cX8_unlock 43 = .ok (.iconst 1, 1) := by decide +kernel
theorem dX8_unlock_44 : decode cX8_unlock 44 = .ok (.goto 4, 3) := by decide +kernel
theorem dX8_unlock_47 : decode cX8_unlock 47 = .ok (.iconst 0, 1) := by decide +kernel
theorem dX8_unlock_48 : decode cX8_unlock 48 = .ok (.ireturn, 1) := by decide +kernel
theorem dX8_subjectAt_0 : decode cX8_subjectAt 0 = .ok (.iload_n 1, 1) := by decide +kernel
theorem dX8_subjectAt_1 : decode cX8_subjectAt 1 = .ok (.invokestatic 92, 3) := by decide +kernel
theorem dX8_subjectAt_4 : decode cX8_subjectAt 4 = .ok (.ifCond .ne 6, 3) := by decide +kernel
theorem dX8_subjectAt_7 : decode cX8_subjectAt 7 = .ok (.bipush (-2), 2) := by decide +kernel
theorem dX8_subjectAt_9 : decode cX8_subjectAt 9 = .ok (.ireturn, 1) := by decide +kernel
theorem dX8_subjectAt_10 : decode cX8_subjectAt 10 = .ok (.aload_n 0, 1) := by decide +kernel
theorem dX8_subjectAt_11 : decode cX8_subjectAt 11 = .ok (.getfield 12, 3) := by decide +kernel
theorem dX8_subjectAt_14 : decode cX8_subjectAt 14 = .ok (.iload_n 1, 1) := by decide +kernel
theorem dX8_subjectAt_15 : decode cX8_subjectAt 15 = .ok (.iload_n 2, 1) := by decide +kernel
theorem dX8_subjectAt_16 : decode cX8_subjectAt 16 = .ok (.invokevirtual 135, 3) := by decide +kernel
theorem dX8_subjectAt_19 : decode cX8_subjectAt 19 = .ok (.ireturn, 1) := by decide +kernel
theorem dX8_objectAt_0 : decode cX8_objectAt 0 = .ok (.iload_n 1, 1) := by decide +kernel
theorem dX8_objectAt_1 : decode cX8_objectAt 1 = .ok (.invokestatic 96, 3) := by decide +kernel
theorem dX8_objectAt_4 : decode cX8_objectAt 4 = .ok (.ifCond .ne 6, 3) := by decide +kernel
theorem dX8_objectAt_7 : decode cX8_objectAt 7 = .ok (.bipush (-2), 2) := by decide +kernel
theorem dX8_objectAt_9 : decode cX8_objectAt 9 = .ok (.ireturn, 1) := by decide +kernel
theorem dX8_objectAt_10 : decode cX8_objectAt 10 = .ok (.aload_n 0, 1) := by decide +kernel
theorem dX8_objectAt_11 : decode cX8_objectAt 11 = .ok (.getfield 12, 3) := by decide +kernel
theorem dX8_objectAt_14 : decode cX8_objectAt 14 = .ok (.iload_n 1, 1) := by decide +kernel
theorem dX8_objectAt_15 : decode cX8_objectAt 15 = .ok (.iload_n 2, 1) := by decide +kernel
theorem dX8_objectAt_16 : decode cX8_objectAt 16 = .ok (.invokevirtual 139, 3) := by decide +kernel
theorem dX8_objectAt_19 : decode cX8_objectAt 19 = .ok (.ireturn, 1) := by decide +kernel
theorem dX8_given_0 : decode cX8_given 0 = .ok (.iload_n 1, 1) := by decide +kernel
theorem dX8_given_1 : decode cX8_given 1 = .ok (.invokestatic 142, 3) := by decide +kernel
theorem dX8_given_4 : decode cX8_given 4 = .ok (.ifCond .eq 17, 3) := by decide +kernel
theorem dX8_given_7 : decode cX8_given 7 = .ok (.iload_n 2, 1) := by decide +kernel
theorem dX8_given_8 : decode cX8_given 8 = .ok (.invokestatic 96, 3) := by decide +kernel
theorem dX8_given_11 : decode cX8_given 11 = .ok (.ifCond .eq 10, 3) := by decide +kernel
theorem dX8_given_14 : decode cX8_given 14 = .ok (.iload_n 3, 1) := by decide +kernel
theorem dX8_given_15 : decode cX8_given 15 = .ok (.invokestatic 99, 3) := by decide +kernel
theorem dX8_given_18 : decode cX8_given 18 = .ok (.ifCond .ne 6, 3) := by decide +kernel
theorem dX8_given_21 : decode cX8_given 21 = .ok (.bipush (-2), 2) := by decide +kernel
theorem dX8_given_23 : decode cX8_given 23 = .ok (.ireturn, 1) := by decide +kernel
theorem dX8_given_24 : decode cX8_given 24 = .ok (.aload_n 0, 1) := by decide +kernel
theorem dX8_given_25 : decode cX8_given 25 = .ok (.getfield 12, 3) := by decide +kernel
theorem dX8_given_28 : decode cX8_given 28 = .ok (.iload_n 1, 1) := by decide +kernel
theorem dX8_given_29 : decode cX8_given 29 = .ok (.iload_n 2, 1) := by decide +kernel
theorem dX8_given_30 : decode cX8_given 30 = .ok (.iload_n 3, 1) := by decide +kernel
theorem dX8_given_31 : decode cX8_given 31 = .ok (.invokevirtual 145, 3) := by decide +kernel
theorem dX8_given_34 : decode cX8_given 34 = .ok (.ifCond .eq 7, 3) := by decide +kernel
theorem dX8_given_37 : decode cX8_given 37 = .ok (.iconst 1, 1) := by decide +kernel
theorem dX8_given_38 : decode cX8_given 38 = .ok (.goto 4, 3) := by decide +kernel
theorem dX8_given_41 : decode cX8_given 41 = .ok (.iconst 0, 1) := by decide +kernel
theorem dX8_given_42 : decode cX8_given 42 = .ok (.ireturn, 1) := by decide +kernel
theorem dX8_entry_0 : decode cX8_entry 0 = .ok (.aload_n 0, 1) := by decide +kernel
theorem dX8_entry_1 : decode cX8_entry 1 = .ok (.iload_n 1, 1) := by decide +kernel
theorem dX8_entry_2 : decode cX8_entry 2 = .ok (.invokevirtual 148, 3) := by decide +kernel
theorem dX8_entry_5 : decode cX8_entry 5 = .ok (.ifCond .eq 13, 3) := by decide +kernel
theorem dX8_entry_8 : decode cX8_entry 8 = .ok (.iload_n 2, 1) := by decide +kernel
theorem dX8_entry_9 : decode cX8_entry 9 = .ok (.iconst 0, 1) := by decide +kernel
theorem dX8_entry_10 : decode cX8_entry 10 = .ok (.bipush 11, 2) := by decide +kernel
theorem dX8_entry_12 : decode cX8_entry 12 = .ok (.invokestatic 87, 3) := by decide +kernel
theorem dX8_entry_15 : decode cX8_entry 15 = .ok (.ifCond .ne 6, 3) := by decide +kernel
theorem dX8_entry_18 : decode cX8_entry 18 = .ok (.bipush (-2), 2) := by decide +kernel
theorem dX8_entry_20 : decode cX8_entry 20 = .ok (.ireturn, 1) := by decide +kernel
theorem dX8_entry_21 : decode cX8_entry 21 = .ok (.aload_n 0, 1) := by decide +kernel
theorem dX8_entry_22 : decode cX8_entry 22 = .ok (.getfield 37, 3) := by decide +kernel
theorem dX8_entry_25 : decode cX8_entry 25 = .ok (.iload_n 1, 1) := by decide +kernel
theorem dX8_entry_26 : decode cX8_entry 26 = .ok (.iload_n 2, 1) := by decide +kernel
theorem dX8_entry_27 : decode cX8_entry 27 = .ok (.invokevirtual 151, 3) := by decide +kernel
theorem dX8_entry_30 : decode cX8_entry 30 = .ok (.ireturn, 1) := by decide +kernel
theorem dX8_chain_0 : decode cX8_chain 0 = .ok (.aload_n 0, 1) := by decide +kernel
theorem dX8_chain_1 : decode cX8_chain 1 = .ok (.iload_n 1, 1) := by decide +kernel
theorem dX8_chain_2 : decode cX8_chain 2 = .ok (.invokevirtual 154, 3) := by decide +kernel
theorem dX8_chain_5 : decode cX8_chain 5 = .ok (.ifCond .eq 10, 3) := by decide +kernel
theorem dX8_chain_8 : decode cX8_chain 8 = .ok (.iload_n 2, 1) := by decide +kernel
theorem dX8_chain_9 : decode cX8_chain 9 = .ok (.invokestatic 157, 3) := by decide +kernel
theorem dX8_chain_12 : decode cX8_chain 12 = .ok (.ifCond .ne 6, 3) := by decide +kernel
theorem dX8_chain_15 : decode cX8_chain 15 = .ok (.bipush (-2), 2) := by decide +kernel
theorem dX8_chain_17 : decode cX8_chain 17 = .ok (.ireturn, 1) := by decide +kernel
theorem dX8_chain_18 : decode cX8_chain 18 = .ok (.aload_n 0, 1) := by decide +kernel
theorem dX8_chain_19 : decode cX8_chain 19 = .ok (.getfield 37, 3) := by decide +kernel
theorem dX8_chain_22 : decode cX8_chain 22 = .ok (.iload_n 1, 1) := by decide +kernel
theorem dX8_chain_23 : decode cX8_chain 23 = .ok (.iload_n 2, 1) := by decide +kernel
theorem dX8_chain_24 : decode cX8_chain 24 = .ok (.invokevirtual 160, 3) := by decide +kernel
theorem dX8_chain_27 : decode cX8_chain 27 = .ok (.ireturn, 1) := by decide +kernel
theorem dX8_root_0 : decode cX8_root 0 = .ok (.aload_n 0, 1) := by decide +kernel
theorem dX8_root_1 : decode cX8_root 1 = .ok (.iload_n 1, 1) := by decide +kernel
theorem dX8_root_2 : decode cX8_root 2 = .ok (.invokevirtual 154, 3) := by decide +kernel
theorem dX8_root_5 : decode cX8_root 5 = .ok (.ifCond .eq 10, 3) := by decide +kernel
theorem dX8_root_8 : decode cX8_root 8 = .ok (.iload_n 2, 1) := by decide +kernel
theorem dX8_root_9 : decode cX8_root 9 = .ok (.invokestatic 157, 3) := by decide +kernel
theorem dX8_root_12 : decode cX8_root 12 = .ok (.ifCond .ne 6, 3) := by decide +kernel
theorem dX8_root_15 : decode cX8_root 15 = .ok (.bipush (-2), 2) := by decide +kernel
theorem dX8_root_17 : decode cX8_root 17 = .ok (.ireturn, 1) := by decide +kernel
theorem dX8_root_18 : decode cX8_root 18 = .ok (.aload_n 0, 1) := by decide +kernel
theorem dX8_root_19 : decode cX8_root 19 = .ok (.getfield 28, 3) := by decide +kernel
theorem dX8_root_22 : decode cX8_root 22 = .ok (.iconst 0, 1) := by decide +kernel
theorem dX8_root_23 : decode cX8_root 23 = .ok (.iload_n 1, 1) := by decide +kernel
theorem dX8_root_24 : decode cX8_root 24 = .ok (.aload_n 0, 1) := by decide +kernel
theorem dX8_root_25 : decode cX8_root 25 = .ok (.getfield 75, 3) := by decide +kernel
theorem dX8_root_28 : decode cX8_root 28 = .ok (.iconst 0, 1) := by decide +kernel
theorem dX8_root_29 : decode cX8_root 29 = .ok (.invokevirtual 163, 3) := by decide +kernel
theorem dX8_root_32 : decode cX8_root 32 = .ok (.aload_n 0, 1) := by decide +kernel
theorem dX8_root_33 : decode cX8_root 33 = .ok (.getfield 75, 3) := by decide +kernel
theorem dX8_root_36 : decode cX8_root 36 = .ok (.iconst 0, 1) := by decide +kernel
theorem dX8_root_37 : decode cX8_root 37 = .ok (.iload_n 2, 1) := by decide +kernel
theorem dX8_root_38 : decode cX8_root 38 = .ok (.invokevirtual 167, 3) := by decide +kernel
theorem dX8_root_41 : decode cX8_root 41 = .ok (.ireturn, 1) := by decide +kernel
theorem dX8_path_0 : decode cX8_path 0 = .ok (.aload_n 0, 1) := by decide +kernel
theorem dX8_path_1 : decode cX8_path 1 = .ok (.iload_n 2, 1) := by decide +kernel
theorem dX8_path_2 : decode cX8_path 2 = .ok (.invokevirtual 154, 3) := by decide +kernel
theorem dX8_path_5 : decode cX8_path 5 = .ok (.ifCond .eq 14, 3) := by decide +kernel
theorem dX8_path_8 : decode cX8_path 8 = .ok (.iload_n 1, 1) := by decide +kernel
theorem dX8_path_9 : decode cX8_path 9 = .ok (.iconst 0, 1) := by decide +kernel
theorem dX8_path_10 : decode cX8_path 10 = .ok (.iload_n 2, 1) := by decide +kernel
theorem dX8_path_11 : decode cX8_path 11 = .ok (.iconst 1, 1) := by decide +kernel
theorem dX8_path_12 : decode cX8_path 12 = .ok (.isub, 1) := by decide +kernel
theorem dX8_path_13 : decode cX8_path 13 = .ok (.invokestatic 87, 3) := by decide +kernel
theorem dX8_path_16 : decode cX8_path 16 = .ok (.ifCond .ne 6, 3) := by decide +kernel
theorem dX8_path_19 : decode cX8_path 19 = .ok (.bipush (-2), 2) := by decide +kernel
theorem dX8_path_21 : decode cX8_path 21 = .ok (.ireturn, 1) := by decide +kernel
theorem dX8_path_22 : decode cX8_path 22 = .ok (.aload_n 0, 1) := by decide +kernel
theorem dX8_path_23 : decode cX8_path 23 = .ok (.getfield 46, 3) := by decide +kernel
theorem dX8_path_26 : decode cX8_path 26 = .ok (.iload_n 1, 1) := by decide +kernel
theorem dX8_path_27 : decode cX8_path 27 = .ok (.iload_n 2, 1) := by decide +kernel
theorem dX8_path_28 : decode cX8_path 28 = .ok (.invokevirtual 170, 3) := by decide +kernel
theorem dX8_path_31 : decode cX8_path 31 = .ok (.ireturn, 1) := by decide +kernel
theorem dX8_steps_0 : decode cX8_steps 0 = .ok (.aload_n 0, 1) := by decide +kernel
theorem dX8_steps_1 : decode cX8_steps 1 = .ok (.iload_n 2, 1) := by decide +kernel
theorem dX8_steps_2 : decode cX8_steps 2 = .ok (.invokevirtual 154, 3) := by decide +kernel
theorem dX8_steps_5 : decode cX8_steps 5 = .ok (.ifCond .eq 12, 3) := by decide +kernel
theorem dX8_steps_8 : decode cX8_steps 8 = .ok (.iload_n 1, 1) := by decide +kernel
theorem dX8_steps_9 : decode cX8_steps 9 = .ok (.iconst 1, 1) := by decide +kernel
theorem dX8_steps_10 : decode cX8_steps 10 = .ok (.iload_n 2, 1) := by decide +kernel
theorem dX8_steps_11 : decode cX8_steps 11 = .ok (.invokestatic 87, 3) := by decide +kernel
theorem dX8_steps_14 : decode cX8_steps 14 = .ok (.ifCond .ne 6, 3) := by decide +kernel
theorem dX8_steps_17 : decode cX8_steps 17 = .ok (.bipush (-2), 2) := by decide +kernel
theorem dX8_steps_19 : decode cX8_steps 19 = .ok (.ireturn, 1) := by decide +kernel
theorem dX8_steps_20 : decode cX8_steps 20 = .ok (.aload_n 0, 1) := by decide +kernel
theorem dX8_steps_21 : decode cX8_steps 21 = .ok (.getfield 46, 3) := by decide +kernel
theorem dX8_steps_24 : decode cX8_steps 24 = .ok (.iload_n 1, 1) := by decide +kernel
theorem dX8_steps_25 : decode cX8_steps 25 = .ok (.iload_n 2, 1) := by decide +kernel
theorem dX8_steps_26 : decode cX8_steps 26 = .ok (.invokevirtual 173, 3) := by decide +kernel
theorem dX8_steps_29 : decode cX8_steps 29 = .ok (.ireturn, 1) := by decide +kernel
theorem dX8_proof_0 : decode cX8_proof 0 = .ok (.aload_n 0, 1) := by decide +kernel
theorem dX8_proof_1 : decode cX8_proof 1 = .ok (.iload_n 1, 1) := by decide +kernel
theorem dX8_proof_2 : decode cX8_proof 2 = .ok (.invokevirtual 176, 3) := by decide +kernel
theorem dX8_proof_5 : decode cX8_proof 5 = .ok (.ifCond .eq 10, 3) := by decide +kernel
theorem dX8_proof_8 : decode cX8_proof 8 = .ok (.iload_n 2, 1) := by decide +kernel
theorem dX8_proof_9 : decode cX8_proof 9 = .ok (.invokestatic 157, 3) := by decide +kernel
theorem dX8_proof_12 : decode cX8_proof 12 = .ok (.ifCond .ne 6, 3) := by decide +kernel
theorem dX8_proof_15 : decode cX8_proof 15 = .ok (.bipush (-2), 2) := by decide +kernel
theorem dX8_proof_17 : decode cX8_proof 17 = .ok (.ireturn, 1) := by decide +kernel
theorem dX8_proof_18 : decode cX8_proof 18 = .ok (.aload_n 0, 1) := by decide +kernel
theorem dX8_proof_19 : decode cX8_proof 19 = .ok (.getfield 46, 3) := by decide +kernel
theorem dX8_proof_22 : decode cX8_proof 22 = .ok (.getfield 179, 3) := by decide +kernel
theorem dX8_proof_25 : decode cX8_proof 25 = .ok (.iload_n 1, 1) := by decide +kernel
theorem dX8_proof_26 : decode cX8_proof 26 = .ok (.iload_n 2, 1) := by decide +kernel
theorem dX8_proof_27 : decode cX8_proof 27 = .ok (.invokevirtual 167, 3) := by decide +kernel
theorem dX8_proof_30 : decode cX8_proof 30 = .ok (.ireturn, 1) := by decide +kernel
theorem dX8_spoilProof_0 : decode cX8_spoilProof 0 = .ok (.aload_n 0, 1) := by decide +kernel
theorem dX8_spoilProof_1 : decode cX8_spoilProof 1 = .ok (.iload_n 1, 1) := by decide +kernel
theorem dX8_spoilProof_2 : decode cX8_spoilProof 2 = .ok (.invokevirtual 176, 3) := by decide +kernel
theorem dX8_spoilProof_5 : decode cX8_spoilProof 5 = .ok (.ifCond .eq 17, 3) := by decide +kernel
theorem dX8_spoilProof_8 : decode cX8_spoilProof 8 = .ok (.iload_n 2, 1) := by decide +kernel
theorem dX8_spoilProof_9 : decode cX8_spoilProof 9 = .ok (.invokestatic 157, 3) := by decide +kernel
theorem dX8_spoilProof_12 : decode cX8_spoilProof 12 = .ok (.ifCond .eq 10, 3) := by decide +kernel
theorem dX8_spoilProof_15 : decode cX8_spoilProof 15 = .ok (.iload_n 3, 1) := by decide +kernel
theorem dX8_spoilProof_16 : decode cX8_spoilProof 16 = .ok (.invokestatic 182, 3) := by decide +kernel
theorem dX8_spoilProof_19 : decode cX8_spoilProof 19 = .ok (.ifCond .ne 6, 3) := by decide +kernel
theorem dX8_spoilProof_22 : decode cX8_spoilProof 22 = .ok (.bipush (-2), 2) := by decide +kernel
theorem dX8_spoilProof_24 : decode cX8_spoilProof 24 = .ok (.ireturn, 1) := by decide +kernel
theorem dX8_spoilProof_25 : decode cX8_spoilProof 25 = .ok (.aload_n 0, 1) := by decide +kernel
theorem dX8_spoilProof_26 : decode cX8_spoilProof 26 = .ok (.getfield 46, 3) := by decide +kernel
theorem dX8_spoilProof_29 : decode cX8_spoilProof 29 = .ok (.getfield 179, 3) := by decide +kernel
theorem dX8_spoilProof_32 : decode cX8_spoilProof 32 = .ok (.iload_n 1, 1) := by decide +kernel
theorem dX8_spoilProof_33 : decode cX8_spoilProof 33 = .ok (.iload_n 2, 1) := by decide +kernel
theorem dX8_spoilProof_34 : decode cX8_spoilProof 34 = .ok (.iload_n 3, 1) := by decide +kernel
theorem dX8_spoilProof_35 : decode cX8_spoilProof 35 = .ok (.invokevirtual 185, 3) := by decide +kernel
theorem dX8_spoilProof_38 : decode cX8_spoilProof 38 = .ok (.ireturn, 1) := by decide +kernel
theorem dX8_cutProof_0 : decode cX8_cutProof 0 = .ok (.iload_n 1, 1) := by decide +kernel
theorem dX8_cutProof_1 : decode cX8_cutProof 1 = .ok (.iconst 0, 1) := by decide +kernel
theorem dX8_cutProof_2 : decode cX8_cutProof 2 = .ok (.aload_n 0, 1) := by decide +kernel
theorem dX8_cutProof_3 : decode cX8_cutProof 3 = .ok (.getfield 46, 3) := by decide +kernel
theorem dX8_cutProof_6 : decode cX8_cutProof 6 = .ok (.getfield 188, 3) := by decide +kernel
theorem dX8_cutProof_9 : decode cX8_cutProof 9 = .ok (.invokestatic 87, 3) := by decide +kernel
theorem dX8_cutProof_12 : decode cX8_cutProof 12 = .ok (.ifCond .ne 6, 3) := by decide +kernel
theorem dX8_cutProof_15 : decode cX8_cutProof 15 = .ok (.bipush (-2), 2) := by decide +kernel
theorem dX8_cutProof_17 : decode cX8_cutProof 17 = .ok (.ireturn, 1) := by decide +kernel
theorem dX8_cutProof_18 : decode cX8_cutProof 18 = .ok (.aload_n 0, 1) := by decide +kernel
theorem dX8_cutProof_19 : decode cX8_cutProof 19 = .ok (.getfield 46, 3) := by decide +kernel
theorem dX8_cutProof_22 : decode cX8_cutProof 22 = .ok (.getfield 188, 3) := by decide +kernel
theorem dX8_cutProof_25 : decode cX8_cutProof 25 = .ok (.iload_n 1, 1) := by decide +kernel
theorem dX8_cutProof_26 : decode cX8_cutProof 26 = .ok (.isub, 1) := by decide +kernel
theorem dX8_cutProof_27 : decode cX8_cutProof 27 = .ok (.istore_n 2, 1) := by decide +kernel
theorem dX8_cutProof_28 : decode cX8_cutProof 28 = .ok (.aload_n 0, 1) := by decide +kernel
theorem dX8_cutProof_29 : decode cX8_cutProof 29 = .ok (.getfield 46, 3) := by decide +kernel
theorem dX8_cutProof_32 : decode cX8_cutProof 32 = .ok (.iload_n 1, 1) := by decide +kernel
theorem dX8_cutProof_33 : decode cX8_cutProof 33 = .ok (.putfield 188, 3) := by decide +kernel
theorem dX8_cutProof_36 : decode cX8_cutProof 36 = .ok (.iload_n 2, 1) := by decide +kernel
theorem dX8_cutProof_37 : decode cX8_cutProof 37 = .ok (.ireturn, 1) := by decide +kernel
theorem dX8_keep_0 : decode cX8_keep 0 = .ok (.iload_n 1, 1) := by decide +kernel
theorem dX8_keep_1 : decode cX8_keep 1 = .ok (.invokestatic 191, 3) := by decide +kernel
theorem dX8_keep_4 : decode cX8_keep 4 = .ok (.ifCond .eq 11, 3) := by decide +kernel
theorem dX8_keep_7 : decode cX8_keep 7 = .ok (.aload_n 0, 1) := by decide +kernel
theorem dX8_keep_8 : decode cX8_keep 8 = .ok (.iload_n 2, 1) := by decide +kernel
theorem dX8_keep_9 : decode cX8_keep 9 = .ok (.invokevirtual 154, 3) := by decide +kernel
theorem dX8_keep_12 : decode cX8_keep 12 = .ok (.ifCond .ne 6, 3) := by decide +kernel
theorem dX8_keep_15 : decode cX8_keep 15 = .ok (.bipush (-2), 2) := by decide +kernel
theorem dX8_keep_17 : decode cX8_keep 17 = .ok (.ireturn, 1) := by decide +kernel
theorem dX8_keep_18 : decode cX8_keep 18 = .ok (.aload_n 0, 1) := by decide +kernel
theorem dX8_keep_19 : decode cX8_keep 19 = .ok (.getfield 28, 3) := by decide +kernel
theorem dX8_keep_22 : decode cX8_keep 22 = .ok (.iconst 0, 1) := by decide +kernel
theorem dX8_keep_23 : decode cX8_keep 23 = .ok (.iload_n 2, 1) := by decide +kernel
theorem dX8_keep_24 : decode cX8_keep 24 = .ok (.aload_n 0, 1) := by decide +kernel
theorem dX8_keep_25 : decode cX8_keep 25 = .ok (.getfield 55, 3) := by decide +kernel
theorem dX8_keep_28 : decode cX8_keep 28 = .ok (.iload_n 1, 1) := by decide +kernel
theorem dX8_keep_29 : decode cX8_keep 29 = .ok (.invokevirtual 163, 3) := by decide +kernel
theorem dX8_keep_32 : decode cX8_keep 32 = .ok (.iconst 1, 1) := by decide +kernel
theorem dX8_keep_33 : decode cX8_keep 33 = .ok (.ireturn, 1) := by decide +kernel
theorem dX8_kept_0 : decode cX8_kept 0 = .ok (.iload_n 1, 1) := by decide +kernel
theorem dX8_kept_1 : decode cX8_kept 1 = .ok (.invokestatic 191, 3) := by decide +kernel
theorem dX8_kept_4 : decode cX8_kept 4 = .ok (.ifCond .eq 10, 3) := by decide +kernel
theorem dX8_kept_7 : decode cX8_kept 7 = .ok (.iload_n 2, 1) := by decide +kernel
theorem dX8_kept_8 : decode cX8_kept 8 = .ok (.invokestatic 157, 3) := by decide +kernel
theorem dX8_kept_11 : decode cX8_kept 11 = .ok (.ifCond .ne 6, 3) := by decide +kernel
theorem dX8_kept_14 : decode cX8_kept 14 = .ok (.bipush (-2), 2) := by decide +kernel
theorem dX8_kept_16 : decode cX8_kept 16 = .ok (.ireturn, 1) := by decide +kernel
theorem dX8_kept_17 : decode cX8_kept 17 = .ok (.aload_n 0, 1) := by decide +kernel
theorem dX8_kept_18 : decode cX8_kept 18 = .ok (.getfield 55, 3) := by decide +kernel
theorem dX8_kept_21 : decode cX8_kept 21 = .ok (.iload_n 1, 1) := by decide +kernel
theorem dX8_kept_22 : decode cX8_kept 22 = .ok (.iload_n 2, 1) := by decide +kernel
theorem dX8_kept_23 : decode cX8_kept 23 = .ok (.invokevirtual 167, 3) := by decide +kernel
theorem dX8_kept_26 : decode cX8_kept 26 = .ok (.ireturn, 1) := by decide +kernel
theorem dX8_spoilKept_0 : decode cX8_spoilKept 0 = .ok (.iload_n 1, 1) := by decide +kernel
theorem dX8_spoilKept_1 : decode cX8_spoilKept 1 = .ok (.invokestatic 191, 3) := by decide +kernel
theorem dX8_spoilKept_4 : decode cX8_spoilKept 4 = .ok (.ifCond .eq 17, 3) := by decide +kernel
theorem dX8_spoilKept_7 : decode cX8_spoilKept 7 = .ok (.iload_n 2, 1) := by decide +kernel
theorem dX8_spoilKept_8 : decode cX8_spoilKept 8 = .ok (.invokestatic 157, 3) := by decide +kernel
theorem dX8_spoilKept_11 : decode cX8_spoilKept 11 = .ok (.ifCond .eq 10, 3) := by decide +kernel
theorem dX8_spoilKept_14 : decode cX8_spoilKept 14 = .ok (.iload_n 3, 1) := by decide +kernel
theorem dX8_spoilKept_15 : decode cX8_spoilKept 15 = .ok (.invokestatic 182, 3) := by decide +kernel
theorem dX8_spoilKept_18 : decode cX8_spoilKept 18 = .ok (.ifCond .ne 6, 3) := by decide +kernel
theorem dX8_spoilKept_21 : decode cX8_spoilKept 21 = .ok (.bipush (-2), 2) := by decide +kernel
theorem dX8_spoilKept_23 : decode cX8_spoilKept 23 = .ok (.ireturn, 1) := by decide +kernel
theorem dX8_spoilKept_24 : decode cX8_spoilKept 24 = .ok (.aload_n 0, 1) := by decide +kernel
theorem dX8_spoilKept_25 : decode cX8_spoilKept 25 = .ok (.getfield 55, 3) := by decide +kernel
theorem dX8_spoilKept_28 : decode cX8_spoilKept 28 = .ok (.iload_n 1, 1) := by decide +kernel
theorem dX8_spoilKept_29 : decode cX8_spoilKept 29 = .ok (.iload_n 2, 1) := by decide +kernel
theorem dX8_spoilKept_30 : decode cX8_spoilKept 30 = .ok (.iload_n 3, 1) := by decide +kernel
theorem dX8_spoilKept_31 : decode cX8_spoilKept 31 = .ok (.invokevirtual 185, 3) := by decide +kernel
theorem dX8_spoilKept_34 : decode cX8_spoilKept 34 = .ok (.ireturn, 1) := by decide +kernel
theorem dX8_judgePath_0 : decode cX8_judgePath 0 = .ok (.iload_n 1, 1) := by decide +kernel
theorem dX8_judgePath_1 : decode cX8_judgePath 1 = .ok (.iconst 0, 1) := by decide +kernel
theorem dX8_judgePath_2 : decode cX8_judgePath 2 = .ok (.bipush 60, 2) := by decide +kernel
theorem dX8_judgePath_4 : decode cX8_judgePath 4 = .ok (.invokestatic 87, 3) := by decide +kernel
theorem dX8_judgePath_7 : decode cX8_judgePath 7 = .ok (.ifCond .eq 29, 3) := by decide +kernel
theorem dX8_judgePath_10 : decode cX8_judgePath 10 = .ok (.iload_n 2, 1) := by decide +kernel
theorem dX8_judgePath_11 : decode cX8_judgePath 11 = .ok (.iconst 0, 1) := by decide +kernel
theorem dX8_judgePath_12 : decode cX8_judgePath 12 = .ok (.bipush 60, 2) := by decide +kernel
theorem dX8_judgePath_14 : decode cX8_judgePath 14 = .ok (.invokestatic 87, 3) := by decide +kernel
theorem dX8_judgePath_17 : decode cX8_judgePath 17 = .ok (.ifCond .eq 19, 3) := by decide +kernel
theorem dX8_judgePath_20 : decode cX8_judgePath 20 = .ok (.aload_n 0, 1) := by decide +kernel
theorem dX8_judgePath_21 : decode cX8_judgePath 21 = .ok (.iload_n 3, 1) := by decide +kernel
theorem dX8_judgePath_22 : decode cX8_judgePath 22 = .ok (.invokevirtual 148, 3) := by decide +kernel
theorem dX8_judgePath_25 : decode cX8_judgePath 25 = .ok (.ifCond .eq 11, 3) := by decide +kernel
theorem dX8_judgePath_28 : decode cX8_judgePath 28 = .ok (.iload 4, 2) := by decide +kernel
theorem dX8_judgePath_30 : decode cX8_judgePath 30 = .ok (.invokestatic 191, 3) := by decide +kernel
theorem dX8_judgePath_33 : decode cX8_judgePath 33 = .ok (.ifCond .ne 6, 3) := by decide +kernel
theorem dX8_judgePath_36 : decode cX8_judgePath 36 = .ok (.bipush (-2), 2) := by decide +kernel
theorem dX8_judgePath_38 : decode cX8_judgePath 38 = .ok (.ireturn, 1) := by decide +kernel
theorem dX8_judgePath_39 : decode cX8_judgePath 39 = .ok (.aload_n 0, 1) := by decide +kernel
theorem dX8_judgePath_40 : decode cX8_judgePath 40 = .ok (.getfield 28, 3) := by decide +kernel
theorem dX8_judgePath_43 : decode cX8_judgePath 43 = .ok (.iload_n 3, 1) := by decide +kernel
theorem dX8_judgePath_44 : decode cX8_judgePath 44 = .ok (.iload_n 3, 1) := by decide +kernel
theorem dX8_judgePath_45 : decode cX8_judgePath 45 = .ok (.iconst 1, 1) := by decide +kernel
theorem dX8_judgePath_46 : decode cX8_judgePath 46 = .ok (.iadd, 1) := by decide +kernel
theorem dX8_judgePath_47 : decode cX8_judgePath 47 = .ok (.aload_n 0, 1) := by decide +kernel
theorem dX8_judgePath_48 : decode cX8_judgePath 48 = .ok (.getfield 75, 3) := by decide +kernel
theorem dX8_judgePath_51 : decode cX8_judgePath 51 = .ok (.iconst 0, 1) := by decide +kernel
theorem dX8_judgePath_52 : decode cX8_judgePath 52 = .ok (.invokevirtual 163, 3) := by decide +kernel
theorem dX8_judgePath_55 : decode cX8_judgePath 55 = .ok (.aload_n 0, 1) := by decide +kernel
theorem dX8_judgePath_56 : decode cX8_judgePath 56 = .ok (.getfield 64, 3) := by decide +kernel
theorem dX8_judgePath_59 : decode cX8_judgePath 59 = .ok (.iload_n 1, 1) := by decide +kernel
theorem dX8_judgePath_60 : decode cX8_judgePath 60 = .ok (.iload_n 2, 1) := by decide +kernel
theorem dX8_judgePath_61 : decode cX8_judgePath 61 = .ok (.aload_n 0, 1) := by decide +kernel
theorem dX8_judgePath_62 : decode cX8_judgePath 62 = .ok (.getfield 75, 3) := by decide +kernel
theorem dX8_judgePath_65 : decode cX8_judgePath 65 = .ok (.iload 4, 2) := by decide +kernel
theorem dX8_judgePath_67 : decode cX8_judgePath 67 = .ok (.invokevirtual 194, 3) := by decide +kernel
theorem dX8_judgePath_70 : decode cX8_judgePath 70 = .ok (.ifCond .eq 7, 3) := by decide +kernel
