theorem dX0_init_0 : decode cX0_init 0 = .ok (.aload_n 0, 1) := by decide +kernel
theorem dX0_init_1 : decode cX0_init 1 = .ok (.invokespecial 3, 3) := by decide +kernel
theorem dX0_init_4 : decode cX0_init 4 = .ok (.aload_n 0, 1) := by decide +kernel
theorem dX0_init_5 : decode cX0_init 5 = .ok (.sipush 1020, 3) := by decide +kernel
theorem dX0_init_8 : decode cX0_init 8 = .ok (.newarray .int, 2) := by decide +kernel
theorem dX0_init_10 : decode cX0_init 10 = .ok (.putfield 9, 3) := by decide +kernel
theorem dX0_init_13 : decode cX0_init 13 = .ok (.aload_n 0, 1) := by decide +kernel
theorem dX0_init_14 : decode cX0_init 14 = .ok (.iconst 0, 1) := by decide +kernel
theorem dX0_init_15 : decode cX0_init 15 = .ok (.putfield 15, 3) := by decide +kernel
theorem dX0_init_18 : decode cX0_init 18 = .ok (.aload_n 0, 1) := by decide +kernel
theorem dX0_init_19 : decode cX0_init 19 = .ok (.iconst 0, 1) := by decide +kernel
theorem dX0_init_20 : decode cX0_init 20 = .ok (.putfield 19, 3) := by decide +kernel
theorem dX0_init_23 : decode cX0_init 23 = .ok (.return_, 1) := by decide +kernel
theorem dX0_writeFrame_0 : decode cX0_writeFrame 0 = .ok (.iconst 0, 1) := by decide +kernel
theorem dX0_writeFrame_1 : decode cX0_writeFrame 1 = .ok (.istore_n 3, 1) := by decide +kernel
theorem dX0_writeFrame_2 : decode cX0_writeFrame 2 = .ok (.iload_n 3, 1) := by decide +kernel
theorem dX0_writeFrame_3 : decode cX0_writeFrame 3 = .ok (.bipush 17, 2) := by decide +kernel
theorem dX0_writeFrame_5 : decode cX0_writeFrame 5 = .ok (.if_icmp .ge 26, 3) := by decide +kernel
theorem dX0_writeFrame_8 : decode cX0_writeFrame 8 = .ok (.aload_n 0, 1) := by decide +kernel
theorem dX0_writeFrame_9 : decode cX0_writeFrame 9 = .ok (.getfield 9, 3) := by decide +kernel
theorem dX0_writeFrame_12 : decode cX0_writeFrame 12 = .ok (.iload_n 2, 1) := by decide +kernel
theorem dX0_writeFrame_13 : decode cX0_writeFrame 13 = .ok (.bipush 17, 2) := by decide +kernel
theorem dX0_writeFrame_15 : decode cX0_writeFrame 15 = .ok (.imul, 1) := by decide +kernel
theorem dX0_writeFrame_16 : decode cX0_writeFrame 16 = .ok (.iload_n 3, 1) := by decide +kernel
theorem dX0_writeFrame_17 : decode cX0_writeFrame 17 = .ok (.iadd, 1) := by decide +kernel
theorem dX0_writeFrame_18 : decode cX0_writeFrame 18 = .ok (.aload_n 1, 1) := by decide +kernel
theorem dX0_writeFrame_19 : decode cX0_writeFrame 19 = .ok (.iload_n 2, 1) := by decide +kernel
theorem dX0_writeFrame_20 : decode cX0_writeFrame 20 = .ok (.iload_n 3, 1) := by decide +kernel
theorem dX0_writeFrame_21 : decode cX0_writeFrame 21 = .ok (.invokevirtual 22, 3) := by decide +kernel
theorem dX0_writeFrame_24 : decode cX0_writeFrame 24 = .ok (.iastore, 1) := by decide +kernel
theorem dX0_writeFrame_25 : decode cX0_writeFrame 25 = .ok (.iinc 3 1, 3) := by decide +kernel
theorem dX0_writeFrame_28 : decode cX0_writeFrame 28 = .ok (.goto (-26), 3) := by decide +kernel
theorem dX0_writeFrame_31 : decode cX0_writeFrame 31 = .ok (.aload_n 0, 1) := by decide +kernel
theorem dX0_writeFrame_32 : decode cX0_writeFrame 32 = .ok (.iload_n 2, 1) := by decide +kernel
theorem dX0_writeFrame_33 : decode cX0_writeFrame 33 = .ok (.iconst 1, 1) := by decide +kernel
theorem dX0_writeFrame_34 : decode cX0_writeFrame 34 = .ok (.iadd, 1) := by decide +kernel
theorem dX0_writeFrame_35 : decode cX0_writeFrame 35 = .ok (.bipush 17, 2) := by decide +kernel
theorem dX0_writeFrame_37 : decode cX0_writeFrame 37 = .ok (.imul, 1) := by decide +kernel
theorem dX0_writeFrame_38 : decode cX0_writeFrame 38 = .ok (.putfield 15, 3) := by decide +kernel
theorem dX0_writeFrame_41 : decode cX0_writeFrame 41 = .ok (.return_, 1) := by decide +kernel
theorem dX0_holdsFrame_0 : decode cX0_holdsFrame 0 = .ok (.iconst 0, 1) := by decide +kernel
theorem dX0_holdsFrame_1 : decode cX0_holdsFrame 1 = .ok (.istore_n 3, 1) := by decide +kernel
theorem dX0_holdsFrame_2 : decode cX0_holdsFrame 2 = .ok (.iload_n 3, 1) := by decide +kernel
theorem dX0_holdsFrame_3 : decode cX0_holdsFrame 3 = .ok (.bipush 17, 2) := by decide +kernel
theorem dX0_holdsFrame_5 : decode cX0_holdsFrame 5 = .ok (.if_icmp .ge 31, 3) := by decide +kernel
theorem dX0_holdsFrame_8 : decode cX0_holdsFrame 8 = .ok (.aload_n 0, 1) := by decide +kernel
theorem dX0_holdsFrame_9 : decode cX0_holdsFrame 9 = .ok (.getfield 9, 3) := by decide +kernel
theorem dX0_holdsFrame_12 : decode cX0_holdsFrame 12 = .ok (.iload_n 2, 1) := by decide +kernel
theorem dX0_holdsFrame_13 : decode cX0_holdsFrame 13 = .ok (.bipush 17, 2) := by decide +kernel
theorem dX0_holdsFrame_15 : decode cX0_holdsFrame 15 = .ok (.imul, 1) := by decide +kernel
theorem dX0_holdsFrame_16 : decode cX0_holdsFrame 16 = .ok (.iload_n 3, 1) := by decide +kernel
theorem dX0_holdsFrame_17 : decode cX0_holdsFrame 17 = .ok (.iadd, 1) := by decide +kernel
theorem dX0_holdsFrame_18 : decode cX0_holdsFrame 18 = .ok (.iaload, 1) := by decide +kernel
theorem dX0_holdsFrame_19 : decode cX0_holdsFrame 19 = .ok (.aload_n 1, 1) := by decide +kernel
theorem dX0_holdsFrame_20 : decode cX0_holdsFrame 20 = .ok (.iload_n 2, 1) := by decide +kernel
theorem dX0_holdsFrame_21 : decode cX0_holdsFrame 21 = .ok (.iload_n 3, 1) := by decide +kernel
theorem dX0_holdsFrame_22 : decode cX0_holdsFrame 22 = .ok (.invokevirtual 22, 3) := by decide +kernel
theorem dX0_holdsFrame_25 : decode cX0_holdsFrame 25 = .ok (.if_icmp .eq 5, 3) := by decide +kernel
theorem dX0_holdsFrame_28 : decode cX0_holdsFrame 28 = .ok (.iconst 0, 1) := by decide +kernel
theorem dX0_holdsFrame_29 : decode cX0_holdsFrame 29 = .ok (.ireturn, 1) := by decide +kernel
theorem dX0_holdsFrame_30 : decode cX0_holdsFrame 30 = .ok (.iinc 3 1, 3) := by decide +kernel
theorem dX0_holdsFrame_33 : decode cX0_holdsFrame 33 = .ok (.goto (-31), 3) := by decide +kernel
theorem dX0_holdsFrame_36 : decode cX0_holdsFrame 36 = .ok (.iconst 1, 1) := by decide +kernel
theorem dX0_holdsFrame_37 : decode cX0_holdsFrame 37 = .ok (.ireturn, 1) := by decide +kernel
theorem dX0_losePower_0 : decode cX0_losePower 0 = .ok (.aload_n 0, 1) := by decide +kernel
theorem dX0_losePower_1 : decode cX0_losePower 1 = .ok (.aload_n 0, 1) := by decide +kernel
theorem dX0_losePower_2 : decode cX0_losePower 2 = .ok (.getfield 19, 3) := by decide +kernel
theorem dX0_losePower_5 : decode cX0_losePower 5 = .ok (.iload_n 1, 1) := by decide +kernel
theorem dX0_losePower_6 : decode cX0_losePower 6 = .ok (.iadd, 1) := by decide +kernel
theorem dX0_losePower_7 : decode cX0_losePower 7 = .ok (.invokevirtual 28, 3) := by decide +kernel
theorem dX0_losePower_10 : decode cX0_losePower 10 = .ok (.aload_n 0, 1) := by decide +kernel
theorem dX0_losePower_11 : decode cX0_losePower 11 = .ok (.aload_n 0, 1) := by decide +kernel
theorem dX0_losePower_12 : decode cX0_losePower 12 = .ok (.getfield 15, 3) := by decide +kernel
theorem dX0_losePower_15 : decode cX0_losePower 15 = .ok (.aload_n 0, 1) := by decide +kernel
theorem dX0_losePower_16 : decode cX0_losePower 16 = .ok (.getfield 19, 3) := by decide +kernel
theorem dX0_losePower_19 : decode cX0_losePower 19 = .ok (.iload_n 1, 1) := by decide +kernel
theorem dX0_losePower_20 : decode cX0_losePower 20 = .ok (.iadd, 1) := by decide +kernel
theorem dX0_losePower_21 : decode cX0_losePower 21 = .ok (.invokestatic 32, 3) := by decide +kernel
theorem dX0_losePower_24 : decode cX0_losePower 24 = .ok (.putfield 15, 3) := by decide +kernel
theorem dX0_losePower_27 : decode cX0_losePower 27 = .ok (.return_, 1) := by decide +kernel
theorem dX0_settle_0 : decode cX0_settle 0 = .ok (.aload_n 0, 1) := by decide +kernel
theorem dX0_settle_1 : decode cX0_settle 1 = .ok (.iload_n 1, 1) := by decide +kernel
theorem dX0_settle_2 : decode cX0_settle 2 = .ok (.bipush 17, 2) := by decide +kernel
theorem dX0_settle_4 : decode cX0_settle 4 = .ok (.imul, 1) := by decide +kernel
theorem dX0_settle_5 : decode cX0_settle 5 = .ok (.putfield 15, 3) := by decide +kernel
theorem dX0_settle_8 : decode cX0_settle 8 = .ok (.aload_n 0, 1) := by decide +kernel
theorem dX0_settle_9 : decode cX0_settle 9 = .ok (.aload_n 0, 1) := by decide +kernel
theorem dX0_settle_10 : decode cX0_settle 10 = .ok (.getfield 15, 3) := by decide +kernel
theorem dX0_settle_13 : decode cX0_settle 13 = .ok (.putfield 19, 3) := by decide +kernel
theorem dX0_settle_16 : decode cX0_settle 16 = .ok (.aload_n 0, 1) := by decide +kernel
theorem dX0_settle_17 : decode cX0_settle 17 = .ok (.aload_n 0, 1) := by decide +kernel
theorem dX0_settle_18 : decode cX0_settle 18 = .ok (.getfield 15, 3) := by decide +kernel
theorem dX0_settle_21 : decode cX0_settle 21 = .ok (.invokevirtual 28, 3) := by decide +kernel
theorem dX0_settle_24 : decode cX0_settle 24 = .ok (.return_, 1) := by decide +kernel
theorem dX0_clearFrom_0 : decode cX0_clearFrom 0 = .ok (.iload_n 1, 1) := by decide +kernel
theorem dX0_clearFrom_1 : decode cX0_clearFrom 1 = .ok (.istore_n 2, 1) := by decide +kernel
theorem dX0_clearFrom_2 : decode cX0_clearFrom 2 = .ok (.iload_n 2, 1) := by decide +kernel
theorem dX0_clearFrom_3 : decode cX0_clearFrom 3 = .ok (.sipush 1020, 3) := by decide +kernel
theorem dX0_clearFrom_6 : decode cX0_clearFrom 6 = .ok (.if_icmp .ge 16, 3) := by decide +kernel
theorem dX0_clearFrom_9 : decode cX0_clearFrom 9 = .ok (.aload_n 0, 1) := by decide +kernel
theorem dX0_clearFrom_10 : decode cX0_clearFrom 10 = .ok (.getfield 9, 3) := by decide +kernel
theorem dX0_clearFrom_13 : decode cX0_clearFrom 13 = .ok (.iload_n 2, 1) := by decide +kernel
theorem dX0_clearFrom_14 : decode cX0_clearFrom 14 = .ok (.iconst 0, 1) := by decide +kernel
theorem dX0_clearFrom_15 : decode cX0_clearFrom 15 = .ok (.iastore, 1) := by decide +kernel
theorem dX0_clearFrom_16 : decode cX0_clearFrom 16 = .ok (.iinc 2 1, 3) := by decide +kernel
theorem dX0_clearFrom_19 : decode cX0_clearFrom 19 = .ok (.goto (-17), 3) := by decide +kernel
theorem dX0_clearFrom_22 : decode cX0_clearFrom 22 = .ok (.return_, 1) := by decide +kernel
theorem dX1_init_0 : decode cX1_init 0 = .ok (.aload_n 0, 1) := by decide +kernel
theorem dX1_init_1 : decode cX1_init 1 = .ok (.invokespecial 3, 3) := by decide +kernel
theorem dX1_init_4 : decode cX1_init 4 = .ok (.aload_n 0, 1) := by decide +kernel
theorem dX1_init_5 : decode cX1_init 5 = .ok (.bipush 32, 2) := by decide +kernel
theorem dX1_init_7 : decode cX1_init 7 = .ok (.newarray .int, 2) := by decide +kernel
theorem dX1_init_9 : decode cX1_init 9 = .ok (.putfield 11, 3) := by decide +kernel
theorem dX1_init_12 : decode cX1_init 12 = .ok (.aload_n 0, 1) := by decide +kernel
theorem dX1_init_13 : decode cX1_init 13 = .ok (.bipush 64, 2) := by decide +kernel
theorem dX1_init_15 : decode cX1_init 15 = .ok (.newarray .int, 2) := by decide +kernel
theorem dX1_init_17 : decode cX1_init 17 = .ok (.putfield 15, 3) := by decide +kernel
theorem dX1_init_20 : decode cX1_init 20 = .ok (.aload_n 0, 1) := by decide +kernel
theorem dX1_init_21 : decode cX1_init 21 = .ok (.bipush 8, 2) := by decide +kernel
theorem dX1_init_23 : decode cX1_init 23 = .ok (.newarray .int, 2) := by decide +kernel
theorem dX1_init_25 : decode cX1_init 25 = .ok (.putfield 18, 3) := by decide +kernel
theorem dX1_init_28 : decode cX1_init 28 = .ok (.aload_n 0, 1) := by decide +kernel
theorem dX1_init_29 : decode cX1_init 29 = .ok (.iconst 0, 1) := by decide +kernel
theorem dX1_init_30 : decode cX1_init 30 = .ok (.putfield 21, 3) := by decide +kernel
theorem dX1_init_33 : decode cX1_init 33 = .ok (.return_, 1) := by decide +kernel
theorem dX1_begin_0 : decode cX1_begin 0 = .ok (.aload_n 0, 1) := by decide +kernel
theorem dX1_begin_1 : decode cX1_begin 1 = .ok (.iconst 0, 1) := by decide +kernel
theorem dX1_begin_2 : decode cX1_begin 2 = .ok (.putfield 21, 3) := by decide +kernel
theorem dX1_begin_5 : decode cX1_begin 5 = .ok (.return_, 1) := by decide +kernel
theorem dX1_add_0 : decode cX1_add 0 = .ok (.aload_n 0, 1) := by decide +kernel
theorem dX1_add_1 : decode cX1_add 1 = .ok (.getfield 21, 3) := by decide +kernel
theorem dX1_add_4 : decode cX1_add 4 = .ok (.iconst 2, 1) := by decide +kernel
theorem dX1_add_5 : decode cX1_add 5 = .ok (.ishr, 1) := by decide +kernel
theorem dX1_add_6 : decode cX1_add 6 = .ok (.istore_n 2, 1) := by decide +kernel
theorem dX1_add_7 : decode cX1_add 7 = .ok (.iload_n 2, 1) := by decide +kernel
theorem dX1_add_8 : decode cX1_add 8 = .ok (.aload_n 0, 1) := by decide +kernel
theorem dX1_add_9 : decode cX1_add 9 = .ok (.getfield 11, 3) := by decide +kernel
theorem dX1_add_12 : decode cX1_add 12 = .ok (.arraylength, 1) := by decide +kernel
theorem dX1_add_13 : decode cX1_add 13 = .ok (.if_icmp .ge 34, 3) := by decide +kernel
theorem dX1_add_16 : decode cX1_add 16 = .ok (.aload_n 0, 1) := by decide +kernel
theorem dX1_add_17 : decode cX1_add 17 = .ok (.getfield 11, 3) := by decide +kernel
theorem dX1_add_20 : decode cX1_add 20 = .ok (.iload_n 2, 1) := by decide +kernel
theorem dX1_add_21 : decode cX1_add 21 = .ok (.aload_n 0, 1) := by decide +kernel
theorem dX1_add_22 : decode cX1_add 22 = .ok (.getfield 11, 3) := by decide +kernel
theorem dX1_add_25 : decode cX1_add 25 = .ok (.iload_n 2, 1) := by decide +kernel
theorem dX1_add_26 : decode cX1_add 26 = .ok (.iaload, 1) := by decide +kernel
theorem dX1_add_27 : decode cX1_add 27 = .ok (.bipush 8, 2) := by decide +kernel
theorem dX1_add_29 : decode cX1_add 29 = .ok (.ishl, 1) := by decide +kernel
theorem dX1_add_30 : decode cX1_add 30 = .ok (.iload_n 1, 1) := by decide +kernel
theorem dX1_add_31 : decode cX1_add 31 = .ok (.sipush 255, 3) := by decide +kernel
theorem dX1_add_34 : decode cX1_add 34 = .ok (.iand, 1) := by decide +kernel
theorem dX1_add_35 : decode cX1_add 35 = .ok (.ior, 1) := by decide +kernel
theorem dX1_add_36 : decode cX1_add 36 = .ok (.iastore, 1) := by decide +kernel
theorem dX1_add_37 : decode cX1_add 37 = .ok (.aload_n 0, 1) := by decide +kernel
theorem dX1_add_38 : decode cX1_add 38 = .ok (.dup, 1) := by decide +kernel
theorem dX1_add_39 : decode cX1_add 39 = .ok (.getfield 21, 3) := by decide +kernel
theorem dX1_add_42 : decode cX1_add 42 = .ok (.iconst 1, 1) := by decide +kernel
theorem dX1_add_43 : decode cX1_add 43 = .ok (.iadd, 1) := by decide +kernel
theorem dX1_add_44 : decode cX1_add 44 = .ok (.putfield 21, 3) := by decide +kernel
theorem dX1_add_47 : decode cX1_add 47 = .ok (.return_, 1) := by decide +kernel
theorem dX1_addHash_0 : decode cX1_addHash 0 = .ok (.iconst 0, 1) := by decide +kernel
theorem dX1_addHash_1 : decode cX1_addHash 1 = .ok (.istore_n 3, 1) := by decide +kernel
theorem dX1_addHash_2 : decode cX1_addHash 2 = .ok (.iload_n 3, 1) := by decide +kernel
theorem dX1_addHash_3 : decode cX1_addHash 3 = .ok (.bipush 32, 2) := by decide +kernel
theorem dX1_addHash_5 : decode cX1_addHash 5 = .ok (.if_icmp .ge 19, 3) := by decide +kernel
theorem dX1_addHash_8 : decode cX1_addHash 8 = .ok (.aload_n 0, 1) := by decide +kernel
theorem dX1_addHash_9 : decode cX1_addHash 9 = .ok (.aload_n 1, 1) := by decide +kernel
theorem dX1_addHash_10 : decode cX1_addHash 10 = .ok (.iload_n 2, 1) := by decide +kernel
theorem dX1_addHash_11 : decode cX1_addHash 11 = .ok (.iload_n 3, 1) := by decide +kernel
theorem dX1_addHash_12 : decode cX1_addHash 12 = .ok (.invokevirtual 25, 3) := by decide +kernel
theorem dX1_addHash_15 : decode cX1_addHash 15 = .ok (.invokevirtual 31, 3) := by decide +kernel
theorem dX1_addHash_18 : decode cX1_addHash 18 = .ok (.iinc 3 1, 3) := by decide +kernel
theorem dX1_addHash_21 : decode cX1_addHash 21 = .ok (.goto (-19), 3) := by decide +kernel
theorem dX1_addHash_24 : decode cX1_addHash 24 = .ok (.return_, 1) := by decide +kernel
theorem dX1_pairInto_0 : decode cX1_pairInto 0 = .ok (.aload_n 0, 1) := by decide +kernel
theorem dX1_pairInto_1 : decode cX1_pairInto 1 = .ok (.invokevirtual 35, 3) := by decide +kernel
theorem dX1_pairInto_4 : decode cX1_pairInto 4 = .ok (.aload_n 0, 1) := by decide +kernel
theorem dX1_pairInto_5 : decode cX1_pairInto 5 = .ok (.iconst 1, 1) := by decide +kernel
theorem dX1_pairInto_6 : decode cX1_pairInto 6 = .ok (.invokevirtual 31, 3) := by decide +kernel
theorem dX1_pairInto_9 : decode cX1_pairInto 9 = .ok (.aload_n 0, 1) := by decide +kernel
theorem dX1_pairInto_10 : decode cX1_pairInto 10 = .ok (.aload_n 1, 1) := by decide +kernel
theorem dX1_pairInto_11 : decode cX1_pairInto 11 = .ok (.iload_n 2, 1) := by decide +kernel
theorem dX1_pairInto_12 : decode cX1_pairInto 12 = .ok (.invokevirtual 38, 3) := by decide +kernel
theorem dX1_pairInto_15 : decode cX1_pairInto 15 = .ok (.aload_n 0, 1) := by decide +kernel
theorem dX1_pairInto_16 : decode cX1_pairInto 16 = .ok (.aload_n 3, 1) := by decide +kernel
theorem dX1_pairInto_17 : decode cX1_pairInto 17 = .ok (.iload 4, 2) := by decide +kernel
theorem dX1_pairInto_19 : decode cX1_pairInto 19 = .ok (.invokevirtual 38, 3) := by decide +kernel
theorem dX1_pairInto_22 : decode cX1_pairInto 22 = .ok (.aload_n 0, 1) := by decide +kernel
theorem dX1_pairInto_23 : decode cX1_pairInto 23 = .ok (.aload 5, 2) := by decide +kernel
theorem dX1_pairInto_25 : decode cX1_pairInto 25 = .ok (.iload 6, 2) := by decide +kernel
theorem dX1_pairInto_27 : decode cX1_pairInto 27 = .ok (.invokevirtual 42, 3) := by decide +kernel
theorem dX1_pairInto_30 : decode cX1_pairInto 30 = .ok (.return_, 1) := by decide +kernel
theorem dX1_finish_0 : decode cX1_finish 0 = .ok (.aload_n 0, 1) := by decide +kernel
theorem dX1_finish_1 : decode cX1_finish 1 = .ok (.getfield 21, 3) := by decide +kernel
theorem dX1_finish_4 : decode cX1_finish 4 = .ok (.bipush 8, 2) := by decide +kernel
theorem dX1_finish_6 : decode cX1_finish 6 = .ok (.imul, 1) := by decide +kernel
theorem dX1_finish_7 : decode cX1_finish 7 = .ok (.istore_n 3, 1) := by decide +kernel
theorem dX1_finish_8 : decode cX1_finish 8 = .ok (.aload_n 0, 1) := by decide +kernel
theorem dX1_finish_9 : decode cX1_finish 9 = .ok (.getfield 21, 3) := by decide +kernel
theorem dX1_finish_12 : decode cX1_finish 12 = .ok (.bipush 9, 2) := by decide +kernel
theorem dX1_finish_14 : decode cX1_finish 14 = .ok (.iadd, 1) := by decide +kernel
theorem dX1_finish_15 : decode cX1_finish 15 = .ok (.bipush 64, 2) := by decide +kernel
theorem dX1_finish_17 : decode cX1_finish 17 = .ok (.if_icmp .gt 7, 3) := by decide +kernel
theorem dX1_finish_20 : decode cX1_finish 20 = .ok (.iconst 1, 1) := by decide +kernel
theorem dX1_finish_21 : decode cX1_finish 21 = .ok (.goto 4, 3) := by decide +kernel
theorem dX1_finish_24 : decode cX1_finish 24 = .ok (.iconst 2, 1) := by decide +kernel
theorem dX1_finish_25 : decode cX1_finish 25 = .ok (.istore 4, 2) := by decide +kernel
theorem dX1_finish_27 : decode cX1_finish 27 = .ok (.aload_n 0, 1) := by decide +kernel
theorem dX1_finish_28 : decode cX1_finish 28 = .ok (.sipush 128, 3) := by decide +kernel
theorem dX1_finish_31 : decode cX1_finish 31 = .ok (.invokevirtual 31, 3) := by decide +kernel
theorem dX1_finish_34 : decode cX1_finish 34 = .ok (.aload_n 0, 1) := by decide +kernel
theorem dX1_finish_35 : decode cX1_finish 35 = .ok (.getfield 21, 3) := by decide +kernel
theorem dX1_finish_38 : decode cX1_finish 38 = .ok (.istore 5, 2) := by decide +kernel
theorem dX1_finish_40 : decode cX1_finish 40 = .ok (.iload 5, 2) := by decide +kernel
theorem dX1_finish_42 : decode cX1_finish 42 = .ok (.iload 4, 2) := by decide +kernel
theorem dX1_finish_44 : decode cX1_finish 44 = .ok (.bipush 64, 2) := by decide +kernel
theorem dX1_finish_46 : decode cX1_finish 46 = .ok (.imul, 1) := by decide +kernel
theorem dX1_finish_47 : decode cX1_finish 47 = .ok (.iconst 4, 1) := by decide +kernel
theorem dX1_finish_48 : decode cX1_finish 48 = .ok (.isub, 1) := by decide +kernel
theorem dX1_finish_49 : decode cX1_finish 49 = .ok (.if_icmp .ge 14, 3) := by decide +kernel
theorem dX1_finish_52 : decode cX1_finish 52 = .ok (.aload_n 0, 1) := by decide +kernel
theorem dX1_finish_53 : decode cX1_finish 53 = .ok (.iconst 0, 1) := by decide +kernel
theorem dX1_finish_54 : decode cX1_finish 54 = .ok (.invokevirtual 31, 3) := by decide +kernel
theorem dX1_finish_57 : decode cX1_finish 57 = .ok (.iinc 5 1, 3) := by decide +kernel
theorem dX1_finish_60 : decode cX1_finish 60 = .ok (.goto (-20), 3) := by decide +kernel
theorem dX1_finish_63 : decode cX1_finish 63 = .ok (.aload_n 0, 1) := by decide +kernel
theorem dX1_finish_64 : decode cX1_finish 64 = .ok (.getfield 11, 3) := by decide +kernel
theorem dX1_finish_67 : decode cX1_finish 67 = .ok (.iload 4, 2) := by decide +kernel
theorem dX1_finish_69 : decode cX1_finish 69 = .ok (.bipush 16, 2) := by decide +kernel
theorem dX1_finish_71 : decode cX1_finish 71 = .ok (.imul, 1) := by decide +kernel
theorem dX1_finish_72 : decode cX1_finish 72 = .ok (.iconst 1, 1) := by decide +kernel
theorem dX1_finish_73 : decode cX1_finish 73 = .ok (.isub, 1) := by decide +kernel
theorem dX1_finish_74 : decode cX1_finish 74 = .ok (.iload_n 3, 1) := by decide +kernel
theorem dX1_finish_75 : decode cX1_finish 75 = .ok (.iastore, 1) := by decide +kernel
theorem dX1_finish_76 : decode cX1_finish 76 = .ok (.iconst 0, 1) := by decide +kernel
theorem dX1_finish_77 : decode cX1_finish 77 = .ok (.istore 5, 2) := by decide +kernel
theorem dX1_finish_79 : decode cX1_finish 79 = .ok (.iload 5, 2) := by decide +kernel
theorem dX1_finish_81 : decode cX1_finish 81 = .ok (.bipush 8, 2) := by decide +kernel
theorem dX1_finish_83 : decode cX1_finish 83 = .ok (.if_icmp .ge 22, 3) := by decide +kernel
theorem dX1_finish_86 : decode cX1_finish 86 = .ok (.aload_n 0, 1) := by decide +kernel
theorem dX1_finish_87 : decode cX1_finish 87 = .ok (.getfield 18, 3) := by decide +kernel
theorem dX1_finish_90 : decode cX1_finish 90 = .ok (.iload 5, 2) := by decide +kernel
theorem dX1_finish_92 : decode cX1_finish 92 = .ok (.getstatic 45, 3) := by decide +kernel
theorem dX1_finish_95 : decode cX1_finish 95 = .ok (.iload 5, 2) := by decide +kernel
theorem dX1_finish_97 : decode cX1_finish 97 = .ok (.iaload, 1) := by decide +kernel
theorem dX1_finish_98 : decode cX1_finish 98 = .ok (.iastore, 1) := by decide +kernel
theorem dX1_finish_99 : decode cX1_finish 99 = .ok (.iinc 5 1, 3) := by decide +kernel
theorem dX1_finish_102 : decode cX1_finish 102 = .ok (.goto (-23), 3) := by decide +kernel
theorem dX1_finish_105 : decode cX1_finish 105 = .ok (.iconst 0, 1) := by decide +kernel
theorem dX1_finish_106 : decode cX1_finish 106 = .ok (.istore 5, 2) := by decide +kernel
theorem dX1_finish_108 : decode cX1_finish 108 = .ok (.iload 5, 2) := by decide +kernel
theorem dX1_finish_110 : decode cX1_finish 110 = .ok (.iload 4, 2) := by decide +kernel
theorem dX1_finish_112 : decode cX1_finish 112 = .ok (.if_icmp .ge 19, 3) := by decide +kernel
theorem dX1_finish_115 : decode cX1_finish 115 = .ok (.aload_n 0, 1) := by decide +kernel
theorem dX1_finish_116 : decode cX1_finish 116 = .ok (.iload 5, 2) := by decide +kernel
theorem dX1_finish_118 : decode cX1_finish 118 = .ok (.invokevirtual 48, 3) := by decide +kernel
theorem dX1_finish_121 : decode cX1_finish 121 = .ok (.aload_n 0, 1) := by decide +kernel
theorem dX1_finish_122 : decode cX1_finish 122 = .ok (.invokevirtual 51, 3) := by decide +kernel
theorem dX1_finish_125 : decode cX1_finish 125 = .ok (.iinc 5 1, 3) := by decide +kernel
theorem dX1_finish_128 : decode cX1_finish 128 = .ok (.goto (-20), 3) := by decide +kernel
theorem dX1_finish_131 : decode cX1_finish 131 = .ok (.iconst 0, 1) := by decide +kernel
theorem dX1_finish_132 : decode cX1_finish 132 = .ok (.istore 5, 2) := by decide +kernel
theorem dX1_finish_134 : decode cX1_finish 134 = .ok (.iload 5, 2) := by decide +kernel
theorem dX1_finish_136 : decode cX1_finish 136 = .ok (.bipush 8, 2) := by decide +kernel
theorem dX1_finish_138 : decode cX1_finish 138 = .ok (.if_icmp .ge 28, 3) := by decide +kernel
theorem dX1_finish_141 : decode cX1_finish 141 = .ok (.aload_n 1, 1) := by decide +kernel
theorem dX1_finish_142 : decode cX1_finish 142 = .ok (.getfield 54, 3) := by decide +kernel
theorem dX1_finish_145 : decode cX1_finish 145 = .ok (.iload_n 2, 1) := by decide +kernel
theorem dX1_finish_146 : decode cX1_finish 146 = .ok (.bipush 8, 2) := by decide +kernel
theorem dX1_finish_148 : decode cX1_finish 148 = .ok (.imul, 1) := by decide +kernel
theorem dX1_finish_149 : decode cX1_finish 149 = .ok (.iload 5, 2) := by decide +kernel
theorem dX1_finish_151 : decode cX1_finish 151 = .ok (.iadd, 1) := by decide +kernel
theorem dX1_finish_152 : decode cX1_finish 152 = .ok (.aload_n 0, 1) := by decide +kernel
theorem dX1_finish_153 : decode cX1_finish 153 = .ok (.getfield 18, 3) := by decide +kernel
theorem dX1_finish_156 : decode cX1_finish 156 = .ok (.iload 5, 2) := by decide +kernel
theorem dX1_finish_158 : decode cX1_finish 158 = .ok (.iaload, 1) := by decide +kernel
theorem dX1_finish_159 : decode cX1_finish 159 = .ok (.iastore, 1) := by decide +kernel
theorem dX1_finish_160 : decode cX1_finish 160 = .ok (.iinc 5 1, 3) := by decide +kernel
theorem dX1_finish_163 : decode cX1_finish 163 = .ok (.goto (-29), 3) := by decide +kernel
theorem dX1_finish_166 : decode cX1_finish 166 = .ok (.return_, 1) := by decide +kernel
theorem dX1_spread_0 : decode cX1_spread 0 = .ok (.iconst 0, 1) := by decide +kernel
theorem dX1_spread_1 : decode cX1_spread 1 = .ok (.istore_n 2, 1) := by decide +kernel
theorem dX1_spread_2 : decode cX1_spread 2 = .ok (.iload_n 2, 1) := by decide +kernel
theorem dX1_spread_3 : decode cX1_spread 3 = .ok (.bipush 16, 2) := by decide +kernel
theorem dX1_spread_5 : decode cX1_spread 5 = .ok (.if_icmp .ge 26, 3) := by decide +kernel
theorem dX1_spread_8 : decode cX1_spread 8 = .ok (.aload_n 0, 1) := by decide +kernel
theorem dX1_spread_9 : decode cX1_spread 9 = .ok (.getfield 15, 3) := by decide +kernel
theorem dX1_spread_12 : decode cX1_spread 12 = .ok (.iload_n 2, 1) := by decide +kernel
theorem dX1_spread_13 : decode cX1_spread 13 = .ok (.aload_n 0, 1) := by decide +kernel
theorem dX1_spread_14 : decode cX1_spread 14 = .ok (.getfield 11, 3) := by decide +kernel
theorem dX1_spread_17 : decode cX1_spread 17 = .ok (.iload_n 1, 1) := by decide +kernel
theorem dX1_spread_18 : decode cX1_spread 18 = .ok (.bipush 16, 2) := by decide +kernel
theorem dX1_spread_20 : decode cX1_spread 20 = .ok (.imul, 1) := by decide +kernel
theorem dX1_spread_21 : decode cX1_spread 21 = .ok (.iload_n 2, 1) := by decide +kernel
theorem dX1_spread_22 : decode cX1_spread 22 = .ok (.iadd, 1) := by decide +kernel
theorem dX1_spread_23 : decode cX1_spread 23 = .ok (.iaload, 1) := by decide +kernel
theorem dX1_spread_24 : decode cX1_spread 24 = .ok (.iastore, 1) := by decide +kernel
theorem dX1_spread_25 : decode cX1_spread 25 = .ok (.iinc 2 1, 3) := by decide +kernel
theorem dX1_spread_28 : decode cX1_spread 28 = .ok (.goto (-26), 3) := by decide +kernel
theorem dX1_spread_31 : decode cX1_spread 31 = .ok (.bipush 16, 2) := by decide +kernel
theorem dX1_spread_33 : decode cX1_spread 33 = .ok (.istore_n 2, 1) := by decide +kernel
theorem dX1_spread_34 : decode cX1_spread 34 = .ok (.iload_n 2, 1) := by decide +kernel
theorem dX1_spread_35 : decode cX1_spread 35 = .ok (.bipush 64, 2) := by decide +kernel
theorem dX1_spread_37 : decode cX1_spread 37 = .ok (.if_icmp .ge 116, 3) := by decide +kernel
theorem dX1_spread_40 : decode cX1_spread 40 = .ok (.aload_n 0, 1) := by decide +kernel
theorem dX1_spread_41 : decode cX1_spread 41 = .ok (.getfield 15, 3) := by decide +kernel
theorem dX1_spread_44 : decode cX1_spread 44 = .ok (.iload_n 2, 1) := by decide +kernel
theorem dX1_spread_45 : decode cX1_spread 45 = .ok (.bipush 15, 2) := by decide +kernel
theorem dX1_spread_47 : decode cX1_spread 47 = .ok (.isub, 1) := by decide +kernel
theorem dX1_spread_48 : decode cX1_spread 48 = .ok (.iaload, 1) := by decide +kernel
theorem dX1_spread_49 : decode cX1_spread 49 = .ok (.istore_n 3, 1) := by decide +kernel
theorem dX1_spread_50 : decode cX1_spread 50 = .ok (.aload_n 0, 1) := by decide +kernel
theorem dX1_spread_51 : decode cX1_spread 51 = .ok (.getfield 15, 3) := by decide +kernel
theorem dX1_spread_54 : decode cX1_spread 54 = .ok (.iload_n 2, 1) := by decide +kernel
theorem dX1_spread_55 : decode cX1_spread 55 = .ok (.iconst 2, 1) := by decide +kernel
theorem dX1_spread_56 : decode cX1_spread 56 = .ok (.isub, 1) := by decide +kernel
theorem dX1_spread_57 : decode cX1_spread 57 = .ok (.iaload, 1) := by decide +kernel
theorem dX1_spread_58 : decode cX1_spread 58 = .ok (.istore 4, 2) := by decide +kernel
theorem dX1_spread_60 : decode cX1_spread 60 = .ok (.iload_n 3, 1) := by decide +kernel
theorem dX1_spread_61 : decode cX1_spread 61 = .ok (.bipush 7, 2) := by decide +kernel
theorem dX1_spread_63 : decode cX1_spread 63 = .ok (.iushr, 1) := by decide +kernel
theorem dX1_spread_64 : decode cX1_spread 64 = .ok (.iload_n 3, 1) := by decide +kernel
theorem dX1_spread_65 : decode cX1_spread 65 = .ok (.bipush 25, 2) := by decide +kernel
theorem dX1_spread_67 : decode cX1_spread 67 = .ok (.ishl, 1) := by decide +kernel
theorem dX1_spread_68 : decode cX1_spread 68 = .ok (.ior, 1) := by decide +kernel
theorem dX1_spread_69 : decode cX1_spread 69 = .ok (.iload_n 3, 1) := by decide +kernel
theorem dX1_spread_70 : decode cX1_spread 70 = .ok (.bipush 18, 2) := by decide +kernel
theorem dX1_spread_72 : decode cX1_spread 72 = .ok (.iushr, 1) := by decide +kernel
theorem dX1_spread_73 : decode cX1_spread 73 = .ok (.iload_n 3, 1) := by decide +kernel
theorem dX1_spread_74 : decode cX1_spread 74 = .ok (.bipush 14, 2) := by decide +kernel
theorem dX1_spread_76 : decode cX1_spread 76 = .ok (.ishl, 1) := by decide +kernel
theorem dX1_spread_77 : decode cX1_spread 77 = .ok (.ior, 1) := by decide +kernel
theorem dX1_spread_78 : decode cX1_spread 78 = .ok (.ixor, 1) := by decide +kernel
theorem dX1_spread_79 : decode cX1_spread 79 = .ok (.iload_n 3, 1) := by decide +kernel
theorem dX1_spread_80 : decode cX1_spread 80 = .ok (.iconst 3, 1) := by decide +kernel
theorem dX1_spread_81 : decode cX1_spread 81 = .ok (.iushr, 1) := by decide +kernel
theorem dX1_spread_82 : decode cX1_spread 82 = .ok (.ixor, 1) := by decide +kernel
theorem dX1_spread_83 : decode cX1_spread 83 = .ok (.istore 5, 2) := by decide +kernel
theorem dX1_spread_85 : decode cX1_spread 85 = .ok (.iload 4, 2) := by decide +kernel
theorem dX1_spread_87 : decode cX1_spread 87 = .ok (.bipush 17, 2) := by decide +kernel
theorem dX1_spread_89 : decode cX1_spread 89 = .ok (.iushr, 1) := by decide +kernel
theorem dX1_spread_90 : decode cX1_spread 90 = .ok (.iload 4, 2) := by decide +kernel
theorem dX1_spread_92 : decode cX1_spread 92 = .ok (.bipush 15, 2) := by decide +kernel
theorem dX1_spread_94 : decode cX1_spread 94 = .ok (.ishl, 1) := by decide +kernel
theorem dX1_spread_95 : decode cX1_spread 95 = .ok (.ior, 1) := by decide +kernel
theorem dX1_spread_96 : decode cX1_spread 96 = .ok (.iload 4, 2) := by decide +kernel
theorem dX1_spread_98 : decode cX1_spread 98 = .ok (.bipush 19, 2) := by decide +kernel
theorem dX1_spread_100 : decode cX1_spread 100 = .ok (.iushr, 1) := by decide +kernel
theorem dX1_spread_101 : decode cX1_spread 101 = .ok (.iload 4, 2) := by decide +kernel
theorem dX1_spread_103 : decode cX1_spread 103 = .ok (.bipush 13, 2) := by decide +kernel
theorem dX1_spread_105 : decode cX1_spread 105 = .ok (.ishl, 1) := by decide +kernel
theorem dX1_spread_106 : decode cX1_spread 106 = .ok (.ior, 1) := by decide +kernel
theorem dX1_spread_107 : decode cX1_spread 107 = .ok (.ixor, 1) := by decide +kernel
theorem dX1_spread_108 : decode cX1_spread 108 = .ok (.iload 4, 2) := by decide +kernel
theorem dX1_spread_110 : decode cX1_spread 110 = .ok (.bipush 10, 2) := by decide +kernel
theorem dX1_spread_112 : decode cX1_spread 112 = .ok (.iushr, 1) := by decide +kernel
theorem dX1_spread_113 : decode cX1_spread 113 = .ok (.ixor, 1) := by decide +kernel
theorem dX1_spread_114 : decode cX1_spread 114 = .ok (.istore 6, 2) := by decide +kernel
theorem dX1_spread_116 : decode cX1_spread 116 = .ok (.aload_n 0, 1) := by decide +kernel
theorem dX1_spread_117 : decode cX1_spread 117 = .ok (.getfield 15, 3) := by decide +kernel
theorem dX1_spread_120 : decode cX1_spread 120 = .ok (.iload_n 2, 1) := by decide +kernel
theorem dX1_spread_121 : decode cX1_spread 121 = .ok (.aload_n 0, 1) := by decide +kernel
theorem dX1_spread_122 : decode cX1_spread 122 = .ok (.getfield 15, 3) := by decide +kernel
theorem dX1_spread_125 : decode cX1_spread 125 = .ok (.iload_n 2, 1) := by decide +kernel
theorem dX1_spread_126 : decode cX1_spread 126 = .ok (.bipush 16, 2) := by decide +kernel
theorem dX1_spread_128 : decode cX1_spread 128 = .ok (.isub, 1) := by decide +kernel
theorem dX1_spread_129 : decode cX1_spread 129 = .ok (.iaload, 1) := by decide +kernel
theorem dX1_spread_130 : decode cX1_spread 130 = .ok (.iload 5, 2) := by decide +kernel
theorem dX1_spread_132 : decode cX1_spread 132 = .ok (.iadd, 1) := by decide +kernel
theorem dX1_spread_133 : decode cX1_spread 133 = .ok (.aload_n 0, 1) := by decide +kernel
theorem dX1_spread_134 : decode cX1_spread 134 = .ok (.getfield 15, 3) := by decide +kernel
theorem dX1_spread_137 : decode cX1_spread 137 = .ok (.iload_n 2, 1) := by decide +kernel
theorem dX1_spread_138 : decode cX1_spread 138 = .ok (.bipush 7, 2) := by decide +kernel
theorem dX1_spread_140 : decode cX1_spread 140 = .ok (.isub, 1) := by decide +kernel
theorem dX1_spread_141 : decode cX1_spread 141 = .ok (.iaload, 1) := by decide +kernel
theorem dX1_spread_142 : decode cX1_spread 142 = .ok (.iadd, 1) := by decide +kernel
theorem dX1_spread_143 : decode cX1_spread 143 = .ok (.iload 6, 2) := by decide +kernel
theorem dX1_spread_145 : decode cX1_spread 145 = .ok (.iadd, 1) := by decide +kernel
theorem dX1_spread_146 : decode cX1_spread 146 = .ok (.iastore, 1) := by decide +kernel
theorem dX1_spread_147 : decode cX1_spread 147 = .ok (.iinc 2 1, 3) := by decide +kernel
theorem dX1_spread_150 : decode cX1_spread 150 = .ok (.goto (-116), 3) := by decide +kernel
theorem dX1_spread_153 : decode cX1_spread 153 = .ok (.return_, 1) := by decide +kernel
theorem dX1_mix_0 : decode cX1_mix 0 = .ok (.aload_n 0, 1) := by decide +kernel
theorem dX1_mix_1 : decode cX1_mix 1 = .ok (.getfield 18, 3) := by decide +kernel
theorem dX1_mix_4 : decode cX1_mix 4 = .ok (.iconst 0, 1) := by decide +kernel
theorem dX1_mix_5 : decode cX1_mix 5 = .ok (.iaload, 1) := by decide +kernel
theorem dX1_mix_6 : decode cX1_mix 6 = .ok (.istore_n 1, 1) := by decide +kernel
theorem dX1_mix_7 : decode cX1_mix 7 = .ok (.aload_n 0, 1) := by decide +kernel
theorem dX1_mix_8 : decode cX1_mix 8 = .ok (.getfield 18, 3) := by decide +kernel
theorem dX1_mix_11 : decode cX1_mix 11 = .ok (.iconst 1, 1) := by decide +kernel
theorem dX1_mix_12 : decode cX1_mix 12 = .ok (.iaload, 1) := by decide +kernel
theorem dX1_mix_13 : decode cX1_mix 13 = .ok (.istore_n 2, 1) := by decide +kernel
theorem dX1_mix_14 : decode cX1_mix 14 = .ok (.aload_n 0, 1) := by decide +kernel
theorem dX1_mix_15 : decode cX1_mix 15 = .ok (.getfield 18, 3) := by decide +kernel
theorem dX1_mix_18 : decode cX1_mix 18 = .ok (.iconst 2, 1) := by decide +kernel
theorem dX1_mix_19 : decode cX1_mix 19 = .ok (.iaload, 1) := by decide +kernel
theorem dX1_mix_20 : decode cX1_mix 20 = .ok (.istore_n 3, 1) := by decide +kernel
theorem dX1_mix_21 : decode cX1_mix 21 = .ok (.aload_n 0, 1) := by decide +kernel
theorem dX1_mix_22 : decode cX1_mix 22 = .ok (.getfield 18, 3) := by decide +kernel
theorem dX1_mix_25 : decode cX1_mix 25 = .ok (.iconst 3, 1) := by decide +kernel
theorem dX1_mix_26 : decode cX1_mix 26 = .ok (.iaload, 1) := by decide +kernel
theorem dX1_mix_27 : decode cX1_mix 27 = .ok (.istore 4, 2) := by decide +kernel
theorem dX1_mix_29 : decode cX1_mix 29 = .ok (.aload_n 0, 1) := by decide +kernel
theorem dX1_mix_30 : decode cX1_mix 30 = .ok (.getfield 18, 3) := by decide +kernel
theorem dX1_mix_33 : decode cX1_mix 33 = .ok (.iconst 4, 1) := by decide +kernel
theorem dX1_mix_34 : decode cX1_mix 34 = .ok (.iaload, 1) := by decide +kernel
theorem dX1_mix_35 : decode cX1_mix 35 = .ok (.istore 5, 2) := by decide +kernel
theorem dX1_mix_37 : decode cX1_mix 37 = .ok (.aload_n 0, 1) := by decide +kernel
theorem dX1_mix_38 : decode cX1_mix 38 = .ok (.getfield 18, 3) := by decide +kernel
theorem dX1_mix_41 : decode cX1_mix 41 = .ok (.iconst 5, 1) := by decide +kernel
theorem dX1_mix_42 : decode cX1_mix 42 = .ok (.iaload, 1) := by decide +kernel
theorem dX1_mix_43 : decode cX1_mix 43 = .ok (.istore 6, 2) := by decide +kernel
theorem dX1_mix_45 : decode cX1_mix 45 = .ok (.aload_n 0, 1) := by decide +kernel
theorem dX1_mix_46 : decode cX1_mix 46 = .ok (.getfield 18, 3) := by decide +kernel
theorem dX1_mix_49 : decode cX1_mix 49 = .ok (.bipush 6, 2) := by decide +kernel
theorem dX1_mix_51 : decode cX1_mix 51 = .ok (.iaload, 1) := by decide +kernel
theorem dX1_mix_52 : decode cX1_mix 52 = .ok (.istore 7, 2) := by decide +kernel
theorem dX1_mix_54 : decode cX1_mix 54 = .ok (.aload_n 0, 1) := by decide +kernel
theorem dX1_mix_55 : decode cX1_mix 55 = .ok (.getfield 18, 3) := by decide +kernel
theorem dX1_mix_58 : decode cX1_mix 58 = .ok (.bipush 7, 2) := by decide +kernel
theorem dX1_mix_60 : decode cX1_mix 60 = .ok (.iaload, 1) := by decide +kernel
theorem dX1_mix_61 : decode cX1_mix 61 = .ok (.istore 8, 2) := by decide +kernel
theorem dX1_mix_63 : decode cX1_mix 63 = .ok (.iconst 0, 1) := by decide +kernel
theorem dX1_mix_64 : decode cX1_mix 64 = .ok (.istore 9, 2) := by decide +kernel
theorem dX1_mix_66 : decode cX1_mix 66 = .ok (.iload 9, 2) := by decide +kernel
theorem dX1_mix_68 : decode cX1_mix 68 = .ok (.bipush 64, 2) := by decide +kernel
theorem dX1_mix_70 : decode cX1_mix 70 = .ok (.if_icmp .ge 160, 3) := by decide +kernel
theorem dX1_mix_73 : decode cX1_mix 73 = .ok (.iload 5, 2) := by decide +kernel
theorem dX1_mix_75 : decode cX1_mix 75 = .ok (.bipush 6, 2) := by decide +kernel
theorem dX1_mix_77 : decode cX1_mix 77 = .ok (.iushr, 1) := by decide +kernel
theorem dX1_mix_78 : decode cX1_mix 78 = .ok (.iload 5, 2) := by decide +kernel
theorem dX1_mix_80 : decode cX1_mix 80 = .ok (.bipush 26, 2) := by decide +kernel
theorem dX1_mix_82 : decode cX1_mix 82 = .ok (.ishl, 1) := by decide +kernel
theorem dX1_mix_83 : decode cX1_mix 83 = .ok (.ior, 1) := by decide +kernel
theorem dX1_mix_84 : decode cX1_mix 84 = .ok (.iload 5, 2) := by decide +kernel
theorem dX1_mix_86 : decode cX1_mix 86 = .ok (.bipush 11, 2) := by decide +kernel
theorem dX1_mix_88 : decode cX1_mix 88 = .ok (.iushr, 1) := by decide +kernel
theorem dX1_mix_89 : decode cX1_mix 89 = .ok (.iload 5, 2) := by decide +kernel
theorem dX1_mix_91 : decode cX1_mix 91 = .ok (.bipush 21, 2) := by decide +kernel
theorem dX1_mix_93 : decode cX1_mix 93 = .ok (.ishl, 1) := by decide +kernel
theorem dX1_mix_94 : decode cX1_mix 94 = .ok (.ior, 1) := by decide +kernel
theorem dX1_mix_95 : decode cX1_mix 95 = .ok (.ixor, 1) := by decide +kernel
theorem dX1_mix_96 : decode cX1_mix 96 = .ok (.iload 5, 2) := by decide +kernel
theorem dX1_mix_98 : decode cX1_mix 98 = .ok (.bipush 25, 2) := by decide +kernel
theorem dX1_mix_100 : decode cX1_mix 100 = .ok (.iushr, 1) := by decide +kernel
theorem dX1_mix_101 : decode cX1_mix 101 = .ok (.iload 5, 2) := by decide +kernel
theorem dX1_mix_103 : decode cX1_mix 103 = .ok (.bipush 7, 2) := by decide +kernel
theorem dX1_mix_105 : decode cX1_mix 105 = .ok (.ishl, 1) := by decide +kernel
theorem dX1_mix_106 : decode cX1_mix 106 = .ok (.ior, 1) := by decide +kernel
theorem dX1_mix_107 : decode cX1_mix 107 = .ok (.ixor, 1) := by decide +kernel
theorem dX1_mix_108 : decode cX1_mix 108 = .ok (.istore 10, 2) := by decide +kernel
theorem dX1_mix_110 : decode cX1_mix 110 = .ok (.iload 8, 2) := by decide +kernel
theorem dX1_mix_112 : decode cX1_mix 112 = .ok (.iload 10, 2) := by decide +kernel
theorem dX1_mix_114 : decode cX1_mix 114 = .ok (.iadd, 1) := by decide +kernel
theorem dX1_mix_115 : decode cX1_mix 115 = .ok (.iload 5, 2) := by decide +kernel
theorem dX1_mix_117 : decode cX1_mix 117 = .ok (.iload 6, 2) := by decide +kernel
theorem dX1_mix_119 : decode cX1_mix 119 = .ok (.iand, 1) := by decide +kernel
theorem dX1_mix_120 : decode cX1_mix 120 = .ok (.iload 5, 2) := by decide +kernel
theorem dX1_mix_122 : decode cX1_mix 122 = .ok (.iconst (-1), 1) := by decide +kernel
theorem dX1_mix_123 : decode cX1_mix 123 = .ok (.ixor, 1) := by decide +kernel
theorem dX1_mix_124 : decode cX1_mix 124 = .ok (.iload 7, 2) := by decide +kernel
theorem dX1_mix_126 : decode cX1_mix 126 = .ok (.iand, 1) := by decide +kernel
theorem dX1_mix_127 : decode cX1_mix 127 = .ok (.ixor, 1) := by decide +kernel
theorem dX1_mix_128 : decode cX1_mix 128 = .ok (.iadd, 1) := by decide +kernel
theorem dX1_mix_129 : decode cX1_mix 129 = .ok (.getstatic 57, 3) := by decide +kernel
theorem dX1_mix_132 : decode cX1_mix 132 = .ok (.iload 9, 2) := by decide +kernel
theorem dX1_mix_134 : decode cX1_mix 134 = .ok (.iaload, 1) := by decide +kernel
theorem dX1_mix_135 : decode cX1_mix 135 = .ok (.iadd, 1) := by decide +kernel
theorem dX1_mix_136 : decode cX1_mix 136 = .ok (.aload_n 0, 1) := by decide +kernel
theorem dX1_mix_137 : decode cX1_mix 137 = .ok (.getfield 15, 3) := by decide +kernel
theorem dX1_mix_140 : decode cX1_mix 140 = .ok (.iload 9, 2) := by decide +kernel
theorem dX1_mix_142 : decode cX1_mix 142 = .ok (.iaload, 1) := by decide +kernel
theorem dX1_mix_143 : decode cX1_mix 143 = .ok (.iadd, 1) := by decide +kernel
theorem dX1_mix_144 : decode cX1_mix 144 = .ok (.istore 11, 2) := by decide +kernel
theorem dX1_mix_146 : decode cX1_mix 146 = .ok (.iload_n 1, 1) := by decide +kernel
theorem dX1_mix_147 : decode cX1_mix 147 = .ok (.iconst 2, 1) := by decide +kernel
theorem dX1_mix_148 : decode cX1_mix 148 = .ok (.iushr, 1) := by decide +kernel
theorem dX1_mix_149 : decode cX1_mix 149 = .ok (.iload_n 1, 1) := by decide +kernel
theorem dX1_mix_150 : decode cX1_mix 150 = .ok (.bipush 30, 2) := by decide +kernel
theorem dX1_mix_152 : decode cX1_mix 152 = .ok (.ishl, 1) := by decide +kernel
theorem dX1_mix_153 : decode cX1_mix 153 = .ok (.ior, 1) := by decide +kernel
theorem dX1_mix_154 : decode cX1_mix 154 = .ok (.iload_n 1, 1) := by decide +kernel
theorem dX1_mix_155 : decode cX1_mix 155 = .ok (.bipush 13, 2) := by decide +kernel
theorem dX1_mix_157 : decode cX1_mix 157 = .ok (.iushr, 1) := by decide +kernel
theorem dX1_mix_158 : decode cX1_mix 158 = .ok (.iload_n 1, 1) := by decide +kernel
theorem dX1_mix_159 : decode cX1_mix 159 = .ok (.bipush 19, 2) := by decide +kernel
theorem dX1_mix_161 : decode cX1_mix 161 = .ok (.ishl, 1) := by decide +kernel
theorem dX1_mix_162 : decode cX1_mix 162 = .ok (.ior, 1) := by decide +kernel
theorem dX1_mix_163 : decode cX1_mix 163 = .ok (.ixor, 1) := by decide +kernel
theorem dX1_mix_164 : decode cX1_mix 164 = .ok (.iload_n 1, 1) := by decide +kernel
theorem dX1_mix_165 : decode cX1_mix 165 = .ok (.bipush 22, 2) := by decide +kernel
theorem dX1_mix_167 : decode cX1_mix 167 = .ok (.iushr, 1) := by decide +kernel
theorem dX1_mix_168 : decode cX1_mix 168 = .ok (.iload_n 1, 1) := by decide +kernel
theorem dX1_mix_169 : decode cX1_mix 169 = .ok (.bipush 10, 2) := by decide +kernel
theorem dX1_mix_171 : decode cX1_mix 171 = .ok (.ishl, 1) := by decide +kernel
theorem dX1_mix_172 : decode cX1_mix 172 = .ok (.ior, 1) := by decide +kernel
theorem dX1_mix_173 : decode cX1_mix 173 = .ok (.ixor, 1) := by decide +kernel
theorem dX1_mix_174 : decode cX1_mix 174 = .ok (.istore 12, 2) := by decide +kernel
theorem dX1_mix_176 : decode cX1_mix 176 = .ok (.iload 12, 2) := by decide +kernel
theorem dX1_mix_178 : decode cX1_mix 178 = .ok (.iload_n 1, 1) := by decide +kernel
theorem dX1_mix_179 : decode cX1_mix 179 = .ok (.iload_n 2, 1) := by decide +kernel
theorem dX1_mix_180 : decode cX1_mix 180 = .ok (.iand, 1) := by decide +kernel
theorem dX1_mix_181 : decode cX1_mix 181 = .ok (.iload_n 1, 1) := by decide +kernel
theorem dX1_mix_182 : decode cX1_mix 182 = .ok (.iload_n 3, 1) := by decide +kernel
theorem dX1_mix_183 : decode cX1_mix 183 = .ok (.iand, 1) := by decide +kernel
theorem dX1_mix_184 : decode cX1_mix 184 = .ok (.ixor, 1) := by decide +kernel
theorem dX1_mix_185 : decode cX1_mix 185 = .ok (.iload_n 2, 1) := by decide +kernel
theorem dX1_mix_186 : decode cX1_mix 186 = .ok (.iload_n 3, 1) := by decide +kernel
theorem dX1_mix_187 : decode cX1_mix 187 = .ok (.iand, 1) := by decide +kernel
theorem dX1_mix_188 : decode cX1_mix 188 = .ok (.ixor, 1) := by decide +kernel
theorem dX1_mix_189 : decode cX1_mix 189 = .ok (.iadd, 1) := by decide +kernel
theorem dX1_mix_190 : decode cX1_mix 190 = .ok (.istore 13, 2) := by decide +kernel
theorem dX1_mix_192 : decode cX1_mix 192 = .ok (.iload 7, 2) := by decide +kernel
theorem dX1_mix_194 : decode cX1_mix 194 = .ok (.istore 8, 2) := by decide +kernel
theorem dX1_mix_196 : decode cX1_mix 196 = .ok (.iload 6, 2) := by decide +kernel
theorem dX1_mix_198 : decode cX1_mix 198 = .ok (.istore 7, 2) := by decide +kernel
theorem dX1_mix_200 : decode cX1_mix 200 = .ok (.iload 5, 2) := by decide +kernel
theorem dX1_mix_202 : decode cX1_mix 202 = .ok (.istore 6, 2) := by decide +kernel
theorem dX1_mix_204 : decode cX1_mix 204 = .ok (.iload 4, 2) := by decide +kernel
theorem dX1_mix_206 : decode cX1_mix 206 = .ok (.iload 11, 2) := by decide +kernel
theorem dX1_mix_208 : decode cX1_mix 208 = .ok (.iadd, 1) := by decide +kernel
theorem dX1_mix_209 : decode cX1_mix 209 = .ok (.istore 5, 2) := by decide +kernel
theorem dX1_mix_211 : decode cX1_mix 211 = .ok (.iload_n 3, 1) := by decide +kernel
theorem dX1_mix_212 : decode cX1_mix 212 = .ok (.istore 4, 2) := by decide +kernel
theorem dX1_mix_214 : decode cX1_mix 214 = .ok (.iload_n 2, 1) := by decide +kernel
theorem dX1_mix_215 : decode cX1_mix 215 = .ok (.istore_n 3, 1) := by decide +kernel
theorem dX1_mix_216 : decode cX1_mix 216 = .ok (.iload_n 1, 1) := by decide +kernel
theorem dX1_mix_217 : decode cX1_mix 217 = .ok (.istore_n 2, 1) := by decide +kernel
theorem dX1_mix_218 : decode cX1_mix 218 = .ok (.iload 11, 2) := by decide +kernel
theorem dX1_mix_220 : decode cX1_mix 220 = .ok (.iload 13, 2) := by decide +kernel
theorem dX1_mix_222 : decode cX1_mix 222 = .ok (.iadd, 1) := by decide +kernel
theorem dX1_mix_223 : decode cX1_mix 223 = .ok (.istore_n 1, 1) := by decide +kernel
theorem dX1_mix_224 : decode cX1_mix 224 = .ok (.iinc 9 1, 3) := by decide +kernel
theorem dX1_mix_227 : decode cX1_mix 227 = .ok (.goto (-161), 3) := by decide +kernel
theorem dX1_mix_230 : decode cX1_mix 230 = .ok (.aload_n 0, 1) := by decide +kernel
theorem dX1_mix_231 : decode cX1_mix 231 = .ok (.getfield 18, 3) := by decide +kernel
theorem dX1_mix_234 : decode cX1_mix 234 = .ok (.iconst 0, 1) := by decide +kernel
theorem dX1_mix_235 : decode cX1_mix 235 = .ok (.dup2, 1) := by decide +kernel
theorem dX1_mix_236 : decode cX1_mix 236 = .ok (.iaload, 1) := by decide +kernel
theorem dX1_mix_237 : decode cX1_mix 237 = .ok (.iload_n 1, 1) := by decide +kernel
theorem dX1_mix_238 : decode cX1_mix 238 = .ok (.iadd, 1) := by decide +kernel
theorem dX1_mix_239 : decode cX1_mix 239 = .ok (.iastore, 1) := by decide +kernel
theorem dX1_mix_240 : decode cX1_mix 240 = .ok (.aload_n 0, 1) := by decide +kernel
theorem dX1_mix_241 : decode cX1_mix 241 = .ok (.getfield 18, 3) := by decide +kernel
theorem dX1_mix_244 : decode cX1_mix 244 = .ok (.iconst 1, 1) := by decide +kernel
theorem dX1_mix_245 : decode cX1_mix 245 = .ok (.dup2, 1) := by decide +kernel
theorem dX1_mix_246 : decode cX1_mix 246 = .ok (.iaload, 1) := by decide +kernel
theorem dX1_mix_247 : decode cX1_mix 247 = .ok (.iload_n 2, 1) := by decide +kernel
theorem dX1_mix_248 : decode cX1_mix 248 = .ok (.iadd, 1) := by decide +kernel
theorem dX1_mix_249 : decode cX1_mix 249 = .ok (.iastore, 1) := by decide +kernel
theorem dX1_mix_250 : decode cX1_mix 250 = .ok (.aload_n 0, 1) := by decide +kernel
theorem dX1_mix_251 : decode cX1_mix 251 = .ok (.getfield 18, 3) := by decide +kernel
theorem dX1_mix_254 : decode cX1_mix 254 = .ok (.iconst 2, 1) := by decide +kernel
theorem dX1_mix_255 : decode cX1_mix 255 = .ok (.dup2, 1) := by decide +kernel
theorem dX1_mix_256 : decode cX1_mix 256 = .ok (.iaload, 1) := by decide +kernel
theorem dX1_mix_257 : decode cX1_mix 257 = .ok (.iload_n 3, 1) := by decide +kernel
theorem dX1_mix_258 : decode cX1_mix 258 = .ok (.iadd, 1) := by decide +kernel
theorem dX1_mix_259 : decode cX1_mix 259 = .ok (.iastore, 1) := by decide +kernel
theorem dX1_mix_260 : decode cX1_mix 260 = .ok (.aload_n 0, 1) := by decide +kernel
theorem dX1_mix_261 : decode cX1_mix 261 = .ok (.getfield 18, 3) := by decide +kernel
theorem dX1_mix_264 : decode cX1_mix 264 = .ok (.iconst 3, 1) := by decide +kernel
theorem dX1_mix_265 : decode cX1_mix 265 = .ok (.dup2, 1) := by decide +kernel
theorem dX1_mix_266 : decode cX1_mix 266 = .ok (.iaload, 1) := by decide +kernel
theorem dX1_mix_267 : decode cX1_mix 267 = .ok (.iload 4, 2) := by decide +kernel
theorem dX1_mix_269 : decode cX1_mix 269 = .ok (.iadd, 1) := by decide +kernel
theorem dX1_mix_270 : decode cX1_mix 270 = .ok (.iastore, 1) := by decide +kernel
theorem dX1_mix_271 : decode cX1_mix 271 = .ok (.aload_n 0, 1) := by decide +kernel
theorem dX1_mix_272 : decode cX1_mix 272 = .ok (.getfield 18, 3) := by decide +kernel
theorem dX1_mix_275 : decode cX1_mix 275 = .ok (.iconst 4, 1) := by decide +kernel
theorem dX1_mix_276 : decode cX1_mix 276 = .ok (.dup2, 1) := by decide +kernel
theorem dX1_mix_277 : decode cX1_mix 277 = .ok (.iaload, 1) := by decide +kernel
theorem dX1_mix_278 : decode cX1_mix 278 = .ok (.iload 5, 2) := by decide +kernel
theorem dX1_mix_280 : decode cX1_mix 280 = .ok (.iadd, 1) := by decide +kernel
theorem dX1_mix_281 : decode cX1_mix 281 = .ok (.iastore, 1) := by decide +kernel
theorem dX1_mix_282 : decode cX1_mix 282 = .ok (.aload_n 0, 1) := by decide +kernel
theorem dX1_mix_283 : decode cX1_mix 283 = .ok (.getfield 18, 3) := by decide +kernel
theorem dX1_mix_286 : decode cX1_mix 286 = .ok (.iconst 5, 1) := by decide +kernel
theorem dX1_mix_287 : decode cX1_mix 287 = .ok (.dup2, 1) := by decide +kernel
theorem dX1_mix_288 : decode cX1_mix 288 = .ok (.iaload, 1) := by decide +kernel
theorem dX1_mix_289 : decode cX1_mix 289 = .ok (.iload 6, 2) := by decide +kernel
theorem dX1_mix_291 : decode cX1_mix 291 = .ok (.iadd, 1) := by decide +kernel
theorem dX1_mix_292 : decode cX1_mix 292 = .ok (.iastore, 1) := by decide +kernel
theorem dX1_mix_293 : decode cX1_mix 293 = .ok (.aload_n 0, 1) := by decide +kernel
theorem dX1_mix_294 : decode cX1_mix 294 = .ok (.getfield 18, 3) := by decide +kernel
theorem dX1_mix_297 : decode cX1_mix 297 = .ok (.bipush 6, 2) := by decide +kernel
theorem dX1_mix_299 : decode cX1_mix 299 = .ok (.dup2, 1) := by decide +kernel
theorem dX1_mix_300 : decode cX1_mix 300 = .ok (.iaload, 1) := by decide +kernel
theorem dX1_mix_301 : decode cX1_mix 301 = .ok (.iload 7, 2) := by decide +kernel
theorem dX1_mix_303 : decode cX1_mix 303 = .ok (.iadd, 1) := by decide +kernel
theorem dX1_mix_304 : decode cX1_mix 304 = .ok (.iastore, 1) := by decide +kernel
theorem dX1_mix_305 : decode cX1_mix 305 = .ok (.aload_n 0, 1) := by decide +kernel
theorem dX1_mix_306 : decode cX1_mix 306 = .ok (.getfield 18, 3) := by decide +kernel
theorem dX1_mix_309 : decode cX1_mix 309 = .ok (.bipush 7, 2) := by decide +kernel
theorem dX1_mix_311 : decode cX1_mix 311 = .ok (.dup2, 1) := by decide +kernel
theorem dX1_mix_312 : decode cX1_mix 312 = .ok (.iaload, 1) := by decide +kernel
theorem dX1_mix_313 : decode cX1_mix 313 = .ok (.iload 8, 2) := by decide +kernel
theorem dX1_mix_315 : decode cX1_mix 315 = .ok (.iadd, 1) := by decide +kernel
theorem dX1_mix_316 : decode cX1_mix 316 = .ok (.iastore, 1) := by decide +kernel
theorem dX1_mix_317 : decode cX1_mix 317 = .ok (.return_, 1) := by decide +kernel
theorem dX2_init_0 : decode cX2_init 0 = .ok (.aload_n 0, 1) := by decide +kernel
theorem dX2_init_1 : decode cX2_init 1 = .ok (.invokespecial 3, 3) := by decide +kernel
theorem dX2_init_4 : decode cX2_init 4 = .ok (.aload_n 0, 1) := by decide +kernel
theorem dX2_init_5 : decode cX2_init 5 = .ok (.iload_n 1, 1) := by decide +kernel
theorem dX2_init_6 : decode cX2_init 6 = .ok (.bipush 8, 2) := by decide +kernel
theorem dX2_init_8 : decode cX2_init 8 = .ok (.imul, 1) := by decide +kernel
theorem dX2_init_9 : decode cX2_init 9 = .ok (.newarray .int, 2) := by decide +kernel
theorem dX2_init_11 : decode cX2_init 11 = .ok (.putfield 9, 3) := by decide +kernel
theorem dX2_init_14 : decode cX2_init 14 = .ok (.return_, 1) := by decide +kernel
theorem dX2_byteAt_0 : decode cX2_byteAt 0 = .ok (.aload_n 0, 1) := by decide +kernel
theorem dX2_byteAt_1 : decode cX2_byteAt 1 = .ok (.getfield 9, 3) := by decide +kernel
theorem dX2_byteAt_4 : decode cX2_byteAt 4 = .ok (.iload_n 1, 1) := by decide +kernel
theorem dX2_byteAt_5 : decode cX2_byteAt 5 = .ok (.bipush 8, 2) := by decide +kernel
theorem dX2_byteAt_7 : decode cX2_byteAt 7 = .ok (.imul, 1) := by decide +kernel
theorem dX2_byteAt_8 : decode cX2_byteAt 8 = .ok (.iload_n 2, 1) := by decide +kernel
theorem dX2_byteAt_9 : decode cX2_byteAt 9 = .ok (.iconst 2, 1) := by decide +kernel
theorem dX2_byteAt_10 : decode cX2_byteAt 10 = .ok (.ishr, 1) := by decide +kernel
theorem dX2_byteAt_11 : decode cX2_byteAt 11 = .ok (.iadd, 1) := by decide +kernel
theorem dX2_byteAt_12 : decode cX2_byteAt 12 = .ok (.iaload, 1) := by decide +kernel
theorem dX2_byteAt_13 : decode cX2_byteAt 13 = .ok (.bipush 24, 2) := by decide +kernel
theorem dX2_byteAt_15 : decode cX2_byteAt 15 = .ok (.bipush 8, 2) := by decide +kernel
theorem dX2_byteAt_17 : decode cX2_byteAt 17 = .ok (.iload_n 2, 1) := by decide +kernel
theorem dX2_byteAt_18 : decode cX2_byteAt 18 = .ok (.iconst 3, 1) := by decide +kernel
theorem dX2_byteAt_19 : decode cX2_byteAt 19 = .ok (.iand, 1) := by decide +kernel
theorem dX2_byteAt_20 : decode cX2_byteAt 20 = .ok (.imul, 1) := by decide +kernel
theorem dX2_byteAt_21 : decode cX2_byteAt 21 = .ok (.isub, 1) := by decide +kernel
theorem dX2_byteAt_22 : decode cX2_byteAt 22 = .ok (.iushr, 1) := by decide +kernel
theorem dX2_byteAt_23 : decode cX2_byteAt 23 = .ok (.sipush 255, 3) := by decide +kernel
theorem dX2_byteAt_26 : decode cX2_byteAt 26 = .ok (.iand, 1) := by decide +kernel
theorem dX2_byteAt_27 : decode cX2_byteAt 27 = .ok (.ireturn, 1) := by decide +kernel
theorem dX2_spoilByte_0 : decode cX2_spoilByte 0 = .ok (.aload_n 0, 1) := by decide +kernel
theorem dX2_spoilByte_1 : decode cX2_spoilByte 1 = .ok (.iload_n 1, 1) := by decide +kernel
theorem dX2_spoilByte_2 : decode cX2_spoilByte 2 = .ok (.iload_n 2, 1) := by decide +kernel
theorem dX2_spoilByte_3 : decode cX2_spoilByte 3 = .ok (.invokevirtual 15, 3) := by decide +kernel
theorem dX2_spoilByte_6 : decode cX2_spoilByte 6 = .ok (.istore 4, 2) := by decide +kernel
theorem dX2_spoilByte_8 : decode cX2_spoilByte 8 = .ok (.aload_n 0, 1) := by decide +kernel
theorem dX2_spoilByte_9 : decode cX2_spoilByte 9 = .ok (.getfield 9, 3) := by decide +kernel
theorem dX2_spoilByte_12 : decode cX2_spoilByte 12 = .ok (.iload_n 1, 1) := by decide +kernel
theorem dX2_spoilByte_13 : decode cX2_spoilByte 13 = .ok (.bipush 8, 2) := by decide +kernel
theorem dX2_spoilByte_15 : decode cX2_spoilByte 15 = .ok (.imul, 1) := by decide +kernel
theorem dX2_spoilByte_16 : decode cX2_spoilByte 16 = .ok (.iload_n 2, 1) := by decide +kernel
theorem dX2_spoilByte_17 : decode cX2_spoilByte 17 = .ok (.iconst 2, 1) := by decide +kernel
theorem dX2_spoilByte_18 : decode cX2_spoilByte 18 = .ok (.ishr, 1) := by decide +kernel
theorem dX2_spoilByte_19 : decode cX2_spoilByte 19 = .ok (.iadd, 1) := by decide +kernel
theorem dX2_spoilByte_20 : decode cX2_spoilByte 20 = .ok (.dup2, 1) := by decide +kernel
theorem dX2_spoilByte_21 : decode cX2_spoilByte 21 = .ok (.iaload, 1) := by decide +kernel
theorem dX2_spoilByte_22 : decode cX2_spoilByte 22 = .ok (.iload_n 3, 1) := by decide +kernel
theorem dX2_spoilByte_23 : decode cX2_spoilByte 23 = .ok (.bipush 24, 2) := by decide +kernel
theorem dX2_spoilByte_25 : decode cX2_spoilByte 25 = .ok (.bipush 8, 2) := by decide +kernel
theorem dX2_spoilByte_27 : decode cX2_spoilByte 27 = .ok (.iload_n 2, 1) := by decide +kernel
theorem dX2_spoilByte_28 : decode cX2_spoilByte 28 = .ok (.iconst 3, 1) := by decide +kernel
theorem dX2_spoilByte_29 : decode cX2_spoilByte 29 = .ok (.iand, 1) := by decide +kernel
theorem dX2_spoilByte_30 : decode cX2_spoilByte 30 = .ok (.imul, 1) := by decide +kernel
theorem dX2_spoilByte_31 : decode cX2_spoilByte 31 = .ok (.isub, 1) := by decide +kernel
theorem dX2_spoilByte_32 : decode cX2_spoilByte 32 = .ok (.ishl, 1) := by decide +kernel
theorem dX2_spoilByte_33 : decode cX2_spoilByte 33 = .ok (.ixor, 1) := by decide +kernel
theorem dX2_spoilByte_34 : decode cX2_spoilByte 34 = .ok (.iastore, 1) := by decide +kernel
theorem dX2_spoilByte_35 : decode cX2_spoilByte 35 = .ok (.iload 4, 2) := by decide +kernel
theorem dX2_spoilByte_37 : decode cX2_spoilByte 37 = .ok (.ireturn, 1) := by decide +kernel
theorem dX2_copyFrom_0 : decode cX2_copyFrom 0 = .ok (.iconst 0, 1) := by decide +kernel
theorem dX2_copyFrom_1 : decode cX2_copyFrom 1 = .ok (.istore 4, 2) := by decide +kernel
theorem dX2_copyFrom_3 : decode cX2_copyFrom 3 = .ok (.iload 4, 2) := by decide +kernel
theorem dX2_copyFrom_5 : decode cX2_copyFrom 5 = .ok (.bipush 8, 2) := by decide +kernel
theorem dX2_copyFrom_7 : decode cX2_copyFrom 7 = .ok (.if_icmp .ge 33, 3) := by decide +kernel
theorem dX2_copyFrom_10 : decode cX2_copyFrom 10 = .ok (.aload_n 0, 1) := by decide +kernel
theorem dX2_copyFrom_11 : decode cX2_copyFrom 11 = .ok (.getfield 9, 3) := by decide +kernel
theorem dX2_copyFrom_14 : decode cX2_copyFrom 14 = .ok (.iload_n 1, 1) := by decide +kernel
theorem dX2_copyFrom_15 : decode cX2_copyFrom 15 = .ok (.bipush 8, 2) := by decide +kernel
theorem dX2_copyFrom_17 : decode cX2_copyFrom 17 = .ok (.imul, 1) := by decide +kernel
theorem dX2_copyFrom_18 : decode cX2_copyFrom 18 = .ok (.iload 4, 2) := by decide +kernel
theorem dX2_copyFrom_20 : decode cX2_copyFrom 20 = .ok (.iadd, 1) := by decide +kernel
theorem dX2_copyFrom_21 : decode cX2_copyFrom 21 = .ok (.aload_n 2, 1) := by decide +kernel
theorem dX2_copyFrom_22 : decode cX2_copyFrom 22 = .ok (.getfield 9, 3) := by decide +kernel
theorem dX2_copyFrom_25 : decode cX2_copyFrom 25 = .ok (.iload_n 3, 1) := by decide +kernel
theorem dX2_copyFrom_26 : decode cX2_copyFrom 26 = .ok (.bipush 8, 2) := by decide +kernel
theorem dX2_copyFrom_28 : decode cX2_copyFrom 28 = .ok (.imul, 1) := by decide +kernel
theorem dX2_copyFrom_29 : decode cX2_copyFrom 29 = .ok (.iload 4, 2) := by decide +kernel
theorem dX2_copyFrom_31 : decode cX2_copyFrom 31 = .ok (.iadd, 1) := by decide +kernel
theorem dX2_copyFrom_32 : decode cX2_copyFrom 32 = .ok (.iaload, 1) := by decide +kernel
theorem dX2_copyFrom_33 : decode cX2_copyFrom 33 = .ok (.iastore, 1) := by decide +kernel
theorem dX2_copyFrom_34 : decode cX2_copyFrom 34 = .ok (.iinc 4 1, 3) := by decide +kernel
theorem dX2_copyFrom_37 : decode cX2_copyFrom 37 = .ok (.goto (-34), 3) := by decide +kernel
theorem dX2_copyFrom_40 : decode cX2_copyFrom 40 = .ok (.return_, 1) := by decide +kernel
theorem dX2_isSame_0 : decode cX2_isSame 0 = .ok (.iconst 0, 1) := by decide +kernel
theorem dX2_isSame_1 : decode cX2_isSame 1 = .ok (.istore 4, 2) := by decide +kernel
theorem dX2_isSame_3 : decode cX2_isSame 3 = .ok (.iload 4, 2) := by decide +kernel
theorem dX2_isSame_5 : decode cX2_isSame 5 = .ok (.bipush 8, 2) := by decide +kernel
theorem dX2_isSame_7 : decode cX2_isSame 7 = .ok (.if_icmp .ge 38, 3) := by decide +kernel
theorem dX2_isSame_10 : decode cX2_isSame 10 = .ok (.aload_n 0, 1) := by decide +kernel
theorem dX2_isSame_11 : decode cX2_isSame 11 = .ok (.getfield 9, 3) := by decide +kernel
theorem dX2_isSame_14 : decode cX2_isSame 14 = .ok (.iload_n 1, 1) := by decide +kernel
theorem dX2_isSame_15 : decode cX2_isSame 15 = .ok (.bipush 8, 2) := by decide +kernel
theorem dX2_isSame_17 : decode cX2_isSame 17 = .ok (.imul, 1) := by decide +kernel
theorem dX2_isSame_18 : decode cX2_isSame 18 = .ok (.iload 4, 2) := by decide +kernel
theorem dX2_isSame_20 : decode cX2_isSame 20 = .ok (.iadd, 1) := by decide +kernel
theorem dX2_isSame_21 : decode cX2_isSame 21 = .ok (.iaload, 1) := by decide +kernel
theorem dX2_isSame_22 : decode cX2_isSame 22 = .ok (.aload_n 2, 1) := by decide +kernel
theorem dX2_isSame_23 : decode cX2_isSame 23 = .ok (.getfield 9, 3) := by decide +kernel
theorem dX2_isSame_26 : decode cX2_isSame 26 = .ok (.iload_n 3, 1) := by decide +kernel
theorem dX2_isSame_27 : decode cX2_isSame 27 = .ok (.bipush 8, 2) := by decide +kernel
theorem dX2_isSame_29 : decode cX2_isSame 29 = .ok (.imul, 1) := by decide +kernel
theorem dX2_isSame_30 : decode cX2_isSame 30 = .ok (.iload 4, 2) := by decide +kernel
theorem dX2_isSame_32 : decode cX2_isSame 32 = .ok (.iadd, 1) := by decide +kernel
theorem dX2_isSame_33 : decode cX2_isSame 33 = .ok (.iaload, 1) := by decide +kernel
theorem dX2_isSame_34 : decode cX2_isSame 34 = .ok (.if_icmp .eq 5, 3) := by decide +kernel
theorem dX2_isSame_37 : decode cX2_isSame 37 = .ok (.iconst 0, 1) := by decide +kernel
theorem dX2_isSame_38 : decode cX2_isSame 38 = .ok (.ireturn, 1) := by decide +kernel
theorem dX2_isSame_39 : decode cX2_isSame 39 = .ok (.iinc 4 1, 3) := by decide +kernel
theorem dX2_isSame_42 : decode cX2_isSame 42 = .ok (.goto (-39), 3) := by decide +kernel
theorem dX2_isSame_45 : decode cX2_isSame 45 = .ok (.iconst 1, 1) := by decide +kernel
theorem dX2_isSame_46 : decode cX2_isSame 46 = .ok (.ireturn, 1) := by decide +kernel
theorem dX3_init_0 : decode cX3_init 0 = .ok (.aload_n 0, 1) := by decide +kernel
theorem dX3_init_1 : decode cX3_init 1 = .ok (.invokespecial 3, 3) := by decide +kernel
theorem dX3_init_4 : decode cX3_init 4 = .ok (.aload_n 0, 1) := by decide +kernel
theorem dX3_init_5 : decode cX3_init 5 = .ok (.new 9, 3) := by decide +kernel
theorem dX3_init_8 : decode cX3_init 8 = .ok (.dup, 1) := by decide +kernel
theorem dX3_init_9 : decode cX3_init 9 = .ok (.iconst 2, 1) := by decide +kernel
theorem dX3_init_10 : decode cX3_init 10 = .ok (.invokespecial 11, 3) := by decide +kernel
theorem dX3_init_13 : decode cX3_init 13 = .ok (.putfield 14, 3) := by decide +kernel
theorem dX3_init_16 : decode cX3_init 16 = .ok (.aload_n 0, 1) := by decide +kernel
theorem dX3_init_17 : decode cX3_init 17 = .ok (.iconst 0, 1) := by decide +kernel
theorem dX3_init_18 : decode cX3_init 18 = .ok (.putfield 20, 3) := by decide +kernel
theorem dX3_init_21 : decode cX3_init 21 = .ok (.aload_n 0, 1) := by decide +kernel
theorem dX3_init_22 : decode cX3_init 22 = .ok (.iconst 0, 1) := by decide +kernel
theorem dX3_init_23 : decode cX3_init 23 = .ok (.putfield 24, 3) := by decide +kernel
theorem dX3_init_26 : decode cX3_init 26 = .ok (.aload_n 0, 1) := by decide +kernel
theorem dX3_init_27 : decode cX3_init 27 = .ok (.aload_n 1, 1) := by decide +kernel
theorem dX3_init_28 : decode cX3_init 28 = .ok (.putfield 27, 3) := by decide +kernel
theorem dX3_init_31 : decode cX3_init 31 = .ok (.aload_n 0, 1) := by decide +kernel
theorem dX3_init_32 : decode cX3_init 32 = .ok (.aload_n 2, 1) := by decide +kernel
theorem dX3_init_33 : decode cX3_init 33 = .ok (.putfield 31, 3) := by decide +kernel
theorem dX3_init_36 : decode cX3_init 36 = .ok (.aload_n 0, 1) := by decide +kernel
theorem dX3_init_37 : decode cX3_init 37 = .ok (.aload_n 3, 1) := by decide +kernel
theorem dX3_init_38 : decode cX3_init 38 = .ok (.putfield 35, 3) := by decide +kernel
theorem dX3_init_41 : decode cX3_init 41 = .ok (.return_, 1) := by decide +kernel
theorem dX3_pathIsRight_0 : decode cX3_pathIsRight 0 = .ok (.iload_n 1, 1) := by decide +kernel
theorem dX3_pathIsRight_1 : decode cX3_pathIsRight 1 = .ok (.ifCond .lt 8, 3) := by decide +kernel
theorem dX3_pathIsRight_4 : decode cX3_pathIsRight 4 = .ok (.iload_n 1, 1) := by decide +kernel
theorem dX3_pathIsRight_5 : decode cX3_pathIsRight 5 = .ok (.iload_n 2, 1) := by decide +kernel
theorem dX3_pathIsRight_6 : decode cX3_pathIsRight 6 = .ok (.if_icmp .lt 5, 3) := by decide +kernel
theorem dX3_pathIsRight_9 : decode cX3_pathIsRight 9 = .ok (.iconst 0, 1) := by decide +kernel
theorem dX3_pathIsRight_10 : decode cX3_pathIsRight 10 = .ok (.ireturn, 1) := by decide +kernel
theorem dX3_pathIsRight_11 : decode cX3_pathIsRight 11 = .ok (.aload_n 0, 1) := by decide +kernel
theorem dX3_pathIsRight_12 : decode cX3_pathIsRight 12 = .ok (.iload_n 1, 1) := by decide +kernel
theorem dX3_pathIsRight_13 : decode cX3_pathIsRight 13 = .ok (.putfield 20, 3) := by decide +kernel
theorem dX3_pathIsRight_16 : decode cX3_pathIsRight 16 = .ok (.aload_n 0, 1) := by decide +kernel
theorem dX3_pathIsRight_17 : decode cX3_pathIsRight 17 = .ok (.iload_n 2, 1) := by decide +kernel
theorem dX3_pathIsRight_18 : decode cX3_pathIsRight 18 = .ok (.iconst 1, 1) := by decide +kernel
theorem dX3_pathIsRight_19 : decode cX3_pathIsRight 19 = .ok (.isub, 1) := by decide +kernel
theorem dX3_pathIsRight_20 : decode cX3_pathIsRight 20 = .ok (.putfield 24, 3) := by decide +kernel
theorem dX3_pathIsRight_23 : decode cX3_pathIsRight 23 = .ok (.aload_n 0, 1) := by decide +kernel
theorem dX3_pathIsRight_24 : decode cX3_pathIsRight 24 = .ok (.getfield 14, 3) := by decide +kernel
theorem dX3_pathIsRight_27 : decode cX3_pathIsRight 27 = .ok (.iconst 1, 1) := by decide +kernel
theorem dX3_pathIsRight_28 : decode cX3_pathIsRight 28 = .ok (.aload_n 3, 1) := by decide +kernel
theorem dX3_pathIsRight_29 : decode cX3_pathIsRight 29 = .ok (.iconst 0, 1) := by decide +kernel
theorem dX3_pathIsRight_30 : decode cX3_pathIsRight 30 = .ok (.invokevirtual 38, 3) := by decide +kernel
theorem dX3_pathIsRight_33 : decode cX3_pathIsRight 33 = .ok (.iconst 0, 1) := by decide +kernel
theorem dX3_pathIsRight_34 : decode cX3_pathIsRight 34 = .ok (.istore 5, 2) := by decide +kernel
theorem dX3_pathIsRight_36 : decode cX3_pathIsRight 36 = .ok (.iload 5, 2) := by decide +kernel
theorem dX3_pathIsRight_38 : decode cX3_pathIsRight 38 = .ok (.aload_n 0, 1) := by decide +kernel
theorem dX3_pathIsRight_39 : decode cX3_pathIsRight 39 = .ok (.getfield 31, 3) := by decide +kernel
theorem dX3_pathIsRight_42 : decode cX3_pathIsRight 42 = .ok (.getfield 42, 3) := by decide +kernel
theorem dX3_pathIsRight_45 : decode cX3_pathIsRight 45 = .ok (.if_icmp .ge 50, 3) := by decide +kernel
theorem dX3_pathIsRight_48 : decode cX3_pathIsRight 48 = .ok (.aload_n 0, 1) := by decide +kernel
theorem dX3_pathIsRight_49 : decode cX3_pathIsRight 49 = .ok (.getfield 24, 3) := by decide +kernel
theorem dX3_pathIsRight_52 : decode cX3_pathIsRight 52 = .ok (.ifCond .ne 5, 3) := by decide +kernel
theorem dX3_pathIsRight_55 : decode cX3_pathIsRight 55 = .ok (.iconst 0, 1) := by decide +kernel
theorem dX3_pathIsRight_56 : decode cX3_pathIsRight 56 = .ok (.ireturn, 1) := by decide +kernel
theorem dX3_pathIsRight_57 : decode cX3_pathIsRight 57 = .ok (.aload_n 0, 1) := by decide +kernel
theorem dX3_pathIsRight_58 : decode cX3_pathIsRight 58 = .ok (.invokevirtual 47, 3) := by decide +kernel
theorem dX3_pathIsRight_61 : decode cX3_pathIsRight 61 = .ok (.ifCond .eq 17, 3) := by decide +kernel
theorem dX3_pathIsRight_64 : decode cX3_pathIsRight 64 = .ok (.aload_n 0, 1) := by decide +kernel
theorem dX3_pathIsRight_65 : decode cX3_pathIsRight 65 = .ok (.iload 5, 2) := by decide +kernel
theorem dX3_pathIsRight_67 : decode cX3_pathIsRight 67 = .ok (.iconst 1, 1) := by decide +kernel
theorem dX3_pathIsRight_68 : decode cX3_pathIsRight 68 = .ok (.invokevirtual 51, 3) := by decide +kernel
theorem dX3_pathIsRight_71 : decode cX3_pathIsRight 71 = .ok (.aload_n 0, 1) := by decide +kernel
theorem dX3_pathIsRight_72 : decode cX3_pathIsRight 72 = .ok (.invokevirtual 55, 3) := by decide +kernel
theorem dX3_pathIsRight_75 : decode cX3_pathIsRight 75 = .ok (.goto 10, 3) := by decide +kernel
theorem dX3_pathIsRight_78 : decode cX3_pathIsRight 78 = .ok (.aload_n 0, 1) := by decide +kernel
theorem dX3_pathIsRight_79 : decode cX3_pathIsRight 79 = .ok (.iload 5, 2) := by decide +kernel
theorem dX3_pathIsRight_81 : decode cX3_pathIsRight 81 = .ok (.iconst 1, 1) := by decide +kernel
theorem dX3_pathIsRight_82 : decode cX3_pathIsRight 82 = .ok (.invokevirtual 58, 3) := by decide +kernel
theorem dX3_pathIsRight_85 : decode cX3_pathIsRight 85 = .ok (.aload_n 0, 1) := by decide +kernel
theorem dX3_pathIsRight_86 : decode cX3_pathIsRight 86 = .ok (.invokevirtual 61, 3) := by decide +kernel
theorem dX3_pathIsRight_89 : decode cX3_pathIsRight 89 = .ok (.iinc 5 1, 3) := by decide +kernel
theorem dX3_pathIsRight_92 : decode cX3_pathIsRight 92 = .ok (.goto (-56), 3) := by decide +kernel
theorem dX3_pathIsRight_95 : decode cX3_pathIsRight 95 = .ok (.aload_n 0, 1) := by decide +kernel
theorem dX3_pathIsRight_96 : decode cX3_pathIsRight 96 = .ok (.getfield 24, 3) := by decide +kernel
theorem dX3_pathIsRight_99 : decode cX3_pathIsRight 99 = .ok (.ifCond .ne 24, 3) := by decide +kernel
theorem dX3_pathIsRight_102 : decode cX3_pathIsRight 102 = .ok (.aload_n 0, 1) := by decide +kernel
theorem dX3_pathIsRight_103 : decode cX3_pathIsRight 103 = .ok (.getfield 14, 3) := by decide +kernel
theorem dX3_pathIsRight_106 : decode cX3_pathIsRight 106 = .ok (.iconst 1, 1) := by decide +kernel
theorem dX3_pathIsRight_107 : decode cX3_pathIsRight 107 = .ok (.aload_n 0, 1) := by decide +kernel
theorem dX3_pathIsRight_108 : decode cX3_pathIsRight 108 = .ok (.getfield 35, 3) := by decide +kernel
theorem dX3_pathIsRight_111 : decode cX3_pathIsRight 111 = .ok (.iload 4, 2) := by decide +kernel
theorem dX3_pathIsRight_113 : decode cX3_pathIsRight 113 = .ok (.invokevirtual 64, 3) := by decide +kernel
theorem dX3_pathIsRight_116 : decode cX3_pathIsRight 116 = .ok (.ifCond .eq 7, 3) := by decide +kernel
theorem dX3_pathIsRight_119 : decode cX3_pathIsRight 119 = .ok (.iconst 1, 1) := by decide +kernel
theorem dX3_pathIsRight_120 : decode cX3_pathIsRight 120 = .ok (.goto 4, 3) := by decide +kernel
theorem dX3_pathIsRight_123 : decode cX3_pathIsRight 123 = .ok (.iconst 0, 1) := by decide +kernel
theorem dX3_pathIsRight_124 : decode cX3_pathIsRight 124 = .ok (.ireturn, 1) := by decide +kernel
theorem dX3_stepsAreRight_0 : decode cX3_stepsAreRight 0 = .ok (.iload_n 1, 1) := by decide +kernel
theorem dX3_stepsAreRight_1 : decode cX3_stepsAreRight 1 = .ok (.iconst 1, 1) := by decide +kernel
theorem dX3_stepsAreRight_2 : decode cX3_stepsAreRight 2 = .ok (.if_icmp .lt 8, 3) := by decide +kernel
theorem dX3_stepsAreRight_5 : decode cX3_stepsAreRight 5 = .ok (.iload_n 1, 1) := by decide +kernel
theorem dX3_stepsAreRight_6 : decode cX3_stepsAreRight 6 = .ok (.iload_n 2, 1) := by decide +kernel
theorem dX3_stepsAreRight_7 : decode cX3_stepsAreRight 7 = .ok (.if_icmp .le 5, 3) := by decide +kernel
theorem dX3_stepsAreRight_10 : decode cX3_stepsAreRight 10 = .ok (.iconst 0, 1) := by decide +kernel
theorem dX3_stepsAreRight_11 : decode cX3_stepsAreRight 11 = .ok (.ireturn, 1) := by decide +kernel
theorem dX3_stepsAreRight_12 : decode cX3_stepsAreRight 12 = .ok (.iload_n 1, 1) := by decide +kernel
theorem dX3_stepsAreRight_13 : decode cX3_stepsAreRight 13 = .ok (.iload_n 2, 1) := by decide +kernel
theorem dX3_stepsAreRight_14 : decode cX3_stepsAreRight 14 = .ok (.if_icmp .ne 36, 3) := by decide +kernel
theorem dX3_stepsAreRight_17 : decode cX3_stepsAreRight 17 = .ok (.aload_n 0, 1) := by decide +kernel
theorem dX3_stepsAreRight_18 : decode cX3_stepsAreRight 18 = .ok (.getfield 31, 3) := by decide +kernel
theorem dX3_stepsAreRight_21 : decode cX3_stepsAreRight 21 = .ok (.getfield 42, 3) := by decide +kernel
theorem dX3_stepsAreRight_24 : decode cX3_stepsAreRight 24 = .ok (.ifCond .ne 24, 3) := by decide +kernel
theorem dX3_stepsAreRight_27 : decode cX3_stepsAreRight 27 = .ok (.aload_n 0, 1) := by decide +kernel
theorem dX3_stepsAreRight_28 : decode cX3_stepsAreRight 28 = .ok (.getfield 35, 3) := by decide +kernel
theorem dX3_stepsAreRight_31 : decode cX3_stepsAreRight 31 = .ok (.iload_n 3, 1) := by decide +kernel
theorem dX3_stepsAreRight_32 : decode cX3_stepsAreRight 32 = .ok (.aload_n 0, 1) := by decide +kernel
theorem dX3_stepsAreRight_33 : decode cX3_stepsAreRight 33 = .ok (.getfield 35, 3) := by decide +kernel
theorem dX3_stepsAreRight_36 : decode cX3_stepsAreRight 36 = .ok (.iload 4, 2) := by decide +kernel
theorem dX3_stepsAreRight_38 : decode cX3_stepsAreRight 38 = .ok (.invokevirtual 64, 3) := by decide +kernel
theorem dX3_stepsAreRight_41 : decode cX3_stepsAreRight 41 = .ok (.ifCond .eq 7, 3) := by decide +kernel
theorem dX3_stepsAreRight_44 : decode cX3_stepsAreRight 44 = .ok (.iconst 1, 1) := by decide +kernel
theorem dX3_stepsAreRight_45 : decode cX3_stepsAreRight 45 = .ok (.goto 4, 3) := by decide +kernel
theorem dX3_stepsAreRight_48 : decode cX3_stepsAreRight 48 = .ok (.iconst 0, 1) := by decide +kernel
theorem dX3_stepsAreRight_49 : decode cX3_stepsAreRight 49 = .ok (.ireturn, 1) := by decide +kernel
theorem dX3_stepsAreRight_50 : decode cX3_stepsAreRight 50 = .ok (.iload_n 1, 1) := by decide +kernel
theorem dX3_stepsAreRight_51 : decode cX3_stepsAreRight 51 = .ok (.iload_n 1, 1) := by decide +kernel
theorem dX3_stepsAreRight_52 : decode cX3_stepsAreRight 52 = .ok (.iconst 1, 1) := by decide +kernel
theorem dX3_stepsAreRight_53 : decode cX3_stepsAreRight 53 = .ok (.isub, 1) := by decide +kernel
theorem dX3_stepsAreRight_54 : decode cX3_stepsAreRight 54 = .ok (.iand, 1) := by decide +kernel
theorem dX3_stepsAreRight_55 : decode cX3_stepsAreRight 55 = .ok (.ifCond .ne 7, 3) := by decide +kernel
theorem dX3_stepsAreRight_58 : decode cX3_stepsAreRight 58 = .ok (.iconst 1, 1) := by decide +kernel
theorem dX3_stepsAreRight_59 : decode cX3_stepsAreRight 59 = .ok (.goto 4, 3) := by decide +kernel
theorem dX3_stepsAreRight_62 : decode cX3_stepsAreRight 62 = .ok (.iconst 0, 1) := by decide +kernel
theorem dX3_stepsAreRight_63 : decode cX3_stepsAreRight 63 = .ok (.istore 5, 2) := by decide +kernel
theorem dX3_stepsAreRight_65 : decode cX3_stepsAreRight 65 = .ok (.iload 5, 2) := by decide +kernel
theorem dX3_stepsAreRight_67 : decode cX3_stepsAreRight 67 = .ok (.ifCond .ne 15, 3) := by decide +kernel
theorem dX3_stepsAreRight_70 : decode cX3_stepsAreRight 70 = .ok (.aload_n 0, 1) := by decide +kernel
theorem dX3_stepsAreRight_71 : decode cX3_stepsAreRight 71 = .ok (.getfield 31, 3) := by decide +kernel
theorem dX3_stepsAreRight_74 : decode cX3_stepsAreRight 74 = .ok (.getfield 42, 3) := by decide +kernel
theorem dX3_stepsAreRight_77 : decode cX3_stepsAreRight 77 = .ok (.ifCond .ne 5, 3) := by decide +kernel
theorem dX3_stepsAreRight_80 : decode cX3_stepsAreRight 80 = .ok (.iconst 0, 1) := by decide +kernel
theorem dX3_stepsAreRight_81 : decode cX3_stepsAreRight 81 = .ok (.ireturn, 1) := by decide +kernel
theorem dX3_stepsAreRight_82 : decode cX3_stepsAreRight 82 = .ok (.aload_n 0, 1) := by decide +kernel
theorem dX3_stepsAreRight_83 : decode cX3_stepsAreRight 83 = .ok (.getfield 14, 3) := by decide +kernel
theorem dX3_stepsAreRight_86 : decode cX3_stepsAreRight 86 = .ok (.iconst 0, 1) := by decide +kernel
theorem dX3_stepsAreRight_87 : decode cX3_stepsAreRight 87 = .ok (.iload 5, 2) := by decide +kernel
theorem dX3_stepsAreRight_89 : decode cX3_stepsAreRight 89 = .ok (.ifCond .eq 10, 3) := by decide +kernel
theorem dX3_stepsAreRight_92 : decode cX3_stepsAreRight 92 = .ok (.aload_n 0, 1) := by decide +kernel
theorem dX3_stepsAreRight_93 : decode cX3_stepsAreRight 93 = .ok (.getfield 35, 3) := by decide +kernel
theorem dX3_stepsAreRight_96 : decode cX3_stepsAreRight 96 = .ok (.goto 10, 3) := by decide +kernel
theorem dX3_stepsAreRight_99 : decode cX3_stepsAreRight 99 = .ok (.aload_n 0, 1) := by decide +kernel
theorem dX3_stepsAreRight_100 : decode cX3_stepsAreRight 100 = .ok (.getfield 31, 3) := by decide +kernel
theorem dX3_stepsAreRight_103 : decode cX3_stepsAreRight 103 = .ok (.getfield 68, 3) := by decide +kernel
theorem dX3_stepsAreRight_106 : decode cX3_stepsAreRight 106 = .ok (.iload 5, 2) := by decide +kernel
theorem dX3_stepsAreRight_108 : decode cX3_stepsAreRight 108 = .ok (.ifCond .eq 7, 3) := by decide +kernel
theorem dX3_stepsAreRight_111 : decode cX3_stepsAreRight 111 = .ok (.iload_n 3, 1) := by decide +kernel
theorem dX3_stepsAreRight_112 : decode cX3_stepsAreRight 112 = .ok (.goto 4, 3) := by decide +kernel
theorem dX3_stepsAreRight_115 : decode cX3_stepsAreRight 115 = .ok (.iconst 0, 1) := by decide +kernel
theorem dX3_stepsAreRight_116 : decode cX3_stepsAreRight 116 = .ok (.invokevirtual 38, 3) := by decide +kernel
theorem dX3_stepsAreRight_119 : decode cX3_stepsAreRight 119 = .ok (.aload_n 0, 1) := by decide +kernel
theorem dX3_stepsAreRight_120 : decode cX3_stepsAreRight 120 = .ok (.getfield 14, 3) := by decide +kernel
theorem dX3_stepsAreRight_123 : decode cX3_stepsAreRight 123 = .ok (.iconst 1, 1) := by decide +kernel
theorem dX3_stepsAreRight_124 : decode cX3_stepsAreRight 124 = .ok (.aload_n 0, 1) := by decide +kernel
theorem dX3_stepsAreRight_125 : decode cX3_stepsAreRight 125 = .ok (.getfield 14, 3) := by decide +kernel
theorem dX3_stepsAreRight_128 : decode cX3_stepsAreRight 128 = .ok (.iconst 0, 1) := by decide +kernel
theorem dX3_stepsAreRight_129 : decode cX3_stepsAreRight 129 = .ok (.invokevirtual 38, 3) := by decide +kernel
theorem dX3_stepsAreRight_132 : decode cX3_stepsAreRight 132 = .ok (.aload_n 0, 1) := by decide +kernel
theorem dX3_stepsAreRight_133 : decode cX3_stepsAreRight 133 = .ok (.iload_n 1, 1) := by decide +kernel
theorem dX3_stepsAreRight_134 : decode cX3_stepsAreRight 134 = .ok (.iload_n 2, 1) := by decide +kernel
theorem dX3_stepsAreRight_135 : decode cX3_stepsAreRight 135 = .ok (.invokevirtual 71, 3) := by decide +kernel
theorem dX3_stepsAreRight_138 : decode cX3_stepsAreRight 138 = .ok (.iload 5, 2) := by decide +kernel
theorem dX3_stepsAreRight_140 : decode cX3_stepsAreRight 140 = .ok (.ifCond .eq 7, 3) := by decide +kernel
theorem dX3_stepsAreRight_143 : decode cX3_stepsAreRight 143 = .ok (.iconst 0, 1) := by decide +kernel
theorem dX3_stepsAreRight_144 : decode cX3_stepsAreRight 144 = .ok (.goto 4, 3) := by decide +kernel
theorem dX3_stepsAreRight_147 : decode cX3_stepsAreRight 147 = .ok (.iconst 1, 1) := by decide +kernel
theorem dX3_stepsAreRight_148 : decode cX3_stepsAreRight 148 = .ok (.istore 6, 2) := by decide +kernel
theorem dX3_stepsAreRight_150 : decode cX3_stepsAreRight 150 = .ok (.iload 6, 2) := by decide +kernel
theorem dX3_stepsAreRight_152 : decode cX3_stepsAreRight 152 = .ok (.aload_n 0, 1) := by decide +kernel
theorem dX3_stepsAreRight_153 : decode cX3_stepsAreRight 153 = .ok (.getfield 31, 3) := by decide +kernel
theorem dX3_stepsAreRight_156 : decode cX3_stepsAreRight 156 = .ok (.getfield 42, 3) := by decide +kernel
theorem dX3_stepsAreRight_159 : decode cX3_stepsAreRight 159 = .ok (.if_icmp .ge 57, 3) := by decide +kernel
theorem dX3_stepsAreRight_162 : decode cX3_stepsAreRight 162 = .ok (.aload_n 0, 1) := by decide +kernel
theorem dX3_stepsAreRight_163 : decode cX3_stepsAreRight 163 = .ok (.getfield 24, 3) := by decide +kernel
theorem dX3_stepsAreRight_166 : decode cX3_stepsAreRight 166 = .ok (.ifCond .ne 5, 3) := by decide +kernel
theorem dX3_stepsAreRight_169 : decode cX3_stepsAreRight 169 = .ok (.iconst 0, 1) := by decide +kernel
theorem dX3_stepsAreRight_170 : decode cX3_stepsAreRight 170 = .ok (.ireturn, 1) := by decide +kernel
theorem dX3_stepsAreRight_171 : decode cX3_stepsAreRight 171 = .ok (.aload_n 0, 1) := by decide +kernel
theorem dX3_stepsAreRight_172 : decode cX3_stepsAreRight 172 = .ok (.invokevirtual 47, 3) := by decide +kernel
theorem dX3_stepsAreRight_175 : decode cX3_stepsAreRight 175 = .ok (.ifCond .eq 24, 3) := by decide +kernel
theorem dX3_stepsAreRight_178 : decode cX3_stepsAreRight 178 = .ok (.aload_n 0, 1) := by decide +kernel
theorem dX3_stepsAreRight_179 : decode cX3_stepsAreRight 179 = .ok (.iload 6, 2) := by decide +kernel
theorem dX3_stepsAreRight_181 : decode cX3_stepsAreRight 181 = .ok (.iconst 0, 1) := by decide +kernel
theorem dX3_stepsAreRight_182 : decode cX3_stepsAreRight 182 = .ok (.invokevirtual 51, 3) := by decide +kernel
theorem dX3_stepsAreRight_185 : decode cX3_stepsAreRight 185 = .ok (.aload_n 0, 1) := by decide +kernel
theorem dX3_stepsAreRight_186 : decode cX3_stepsAreRight 186 = .ok (.iload 6, 2) := by decide +kernel
theorem dX3_stepsAreRight_188 : decode cX3_stepsAreRight 188 = .ok (.iconst 1, 1) := by decide +kernel
theorem dX3_stepsAreRight_189 : decode cX3_stepsAreRight 189 = .ok (.invokevirtual 51, 3) := by decide +kernel
theorem dX3_stepsAreRight_192 : decode cX3_stepsAreRight 192 = .ok (.aload_n 0, 1) := by decide +kernel
theorem dX3_stepsAreRight_193 : decode cX3_stepsAreRight 193 = .ok (.invokevirtual 55, 3) := by decide +kernel
theorem dX3_stepsAreRight_196 : decode cX3_stepsAreRight 196 = .ok (.goto 10, 3) := by decide +kernel
theorem dX3_stepsAreRight_199 : decode cX3_stepsAreRight 199 = .ok (.aload_n 0, 1) := by decide +kernel
theorem dX3_stepsAreRight_200 : decode cX3_stepsAreRight 200 = .ok (.iload 6, 2) := by decide +kernel
theorem dX3_stepsAreRight_202 : decode cX3_stepsAreRight 202 = .ok (.iconst 1, 1) := by decide +kernel
theorem dX3_stepsAreRight_203 : decode cX3_stepsAreRight 203 = .ok (.invokevirtual 58, 3) := by decide +kernel
theorem dX3_stepsAreRight_206 : decode cX3_stepsAreRight 206 = .ok (.aload_n 0, 1) := by decide +kernel
theorem dX3_stepsAreRight_207 : decode cX3_stepsAreRight 207 = .ok (.invokevirtual 61, 3) := by decide +kernel
theorem dX3_stepsAreRight_210 : decode cX3_stepsAreRight 210 = .ok (.iinc 6 1, 3) := by decide +kernel
theorem dX3_stepsAreRight_213 : decode cX3_stepsAreRight 213 = .ok (.goto (-63), 3) := by decide +kernel
theorem dX3_stepsAreRight_216 : decode cX3_stepsAreRight 216 = .ok (.aload_n 0, 1) := by decide +kernel
theorem dX3_stepsAreRight_217 : decode cX3_stepsAreRight 217 = .ok (.getfield 24, 3) := by decide +kernel
theorem dX3_stepsAreRight_220 : decode cX3_stepsAreRight 220 = .ok (.ifCond .ne 40, 3) := by decide +kernel
theorem dX3_stepsAreRight_223 : decode cX3_stepsAreRight 223 = .ok (.aload_n 0, 1) := by decide +kernel
theorem dX3_stepsAreRight_224 : decode cX3_stepsAreRight 224 = .ok (.getfield 14, 3) := by decide +kernel
theorem dX3_stepsAreRight_227 : decode cX3_stepsAreRight 227 = .ok (.iconst 0, 1) := by decide +kernel
theorem dX3_stepsAreRight_228 : decode cX3_stepsAreRight 228 = .ok (.aload_n 0, 1) := by decide +kernel
theorem dX3_stepsAreRight_229 : decode cX3_stepsAreRight 229 = .ok (.getfield 35, 3) := by decide +kernel
theorem dX3_stepsAreRight_232 : decode cX3_stepsAreRight 232 = .ok (.iload_n 3, 1) := by decide +kernel
theorem dX3_stepsAreRight_233 : decode cX3_stepsAreRight 233 = .ok (.invokevirtual 64, 3) := by decide +kernel
theorem dX3_stepsAreRight_236 : decode cX3_stepsAreRight 236 = .ok (.ifCond .eq 24, 3) := by decide +kernel
theorem dX3_stepsAreRight_239 : decode cX3_stepsAreRight 239 = .ok (.aload_n 0, 1) := by decide +kernel
theorem dX3_stepsAreRight_240 : decode cX3_stepsAreRight 240 = .ok (.getfield 14, 3) := by decide +kernel
theorem dX3_stepsAreRight_243 : decode cX3_stepsAreRight 243 = .ok (.iconst 1, 1) := by decide +kernel
theorem dX3_stepsAreRight_244 : decode cX3_stepsAreRight 244 = .ok (.aload_n 0, 1) := by decide +kernel
theorem dX3_stepsAreRight_245 : decode cX3_stepsAreRight 245 = .ok (.getfield 35, 3) := by decide +kernel
theorem dX3_stepsAreRight_248 : decode cX3_stepsAreRight 248 = .ok (.iload 4, 2) := by decide +kernel
theorem dX3_stepsAreRight_250 : decode cX3_stepsAreRight 250 = .ok (.invokevirtual 64, 3) := by decide +kernel
theorem dX3_stepsAreRight_253 : decode cX3_stepsAreRight 253 = .ok (.ifCond .eq 7, 3) := by decide +kernel
theorem dX3_stepsAreRight_256 : decode cX3_stepsAreRight 256 = .ok (.iconst 1, 1) := by decide +kernel
theorem dX3_stepsAreRight_257 : decode cX3_stepsAreRight 257 = .ok (.goto 4, 3) := by decide +kernel
theorem dX3_stepsAreRight_260 : decode cX3_stepsAreRight 260 = .ok (.iconst 0, 1) := by decide +kernel
theorem dX3_stepsAreRight_261 : decode cX3_stepsAreRight 261 = .ok (.ireturn, 1) := by decide +kernel
theorem dX3_startSteps_0 : decode cX3_startSteps 0 = .ok (.aload_n 0, 1) := by decide +kernel
theorem dX3_startSteps_1 : decode cX3_startSteps 1 = .ok (.iload_n 1, 1) := by decide +kernel
theorem dX3_startSteps_2 : decode cX3_startSteps 2 = .ok (.iconst 1, 1) := by decide +kernel
theorem dX3_startSteps_3 : decode cX3_startSteps 3 = .ok (.isub, 1) := by decide +kernel
theorem dX3_startSteps_4 : decode cX3_startSteps 4 = .ok (.putfield 20, 3) := by decide +kernel
theorem dX3_startSteps_7 : decode cX3_startSteps 7 = .ok (.aload_n 0, 1) := by decide +kernel
theorem dX3_startSteps_8 : decode cX3_startSteps 8 = .ok (.iload_n 2, 1) := by decide +kernel
theorem dX3_startSteps_9 : decode cX3_startSteps 9 = .ok (.iconst 1, 1) := by decide +kernel
theorem dX3_startSteps_10 : decode cX3_startSteps 10 = .ok (.isub, 1) := by decide +kernel
theorem dX3_startSteps_11 : decode cX3_startSteps 11 = .ok (.putfield 24, 3) := by decide +kernel
theorem dX3_startSteps_14 : decode cX3_startSteps 14 = .ok (.iconst 0, 1) := by decide +kernel
theorem dX3_startSteps_15 : decode cX3_startSteps 15 = .ok (.istore_n 3, 1) := by decide +kernel
theorem dX3_startSteps_16 : decode cX3_startSteps 16 = .ok (.iload_n 3, 1) := by decide +kernel
theorem dX3_startSteps_17 : decode cX3_startSteps 17 = .ok (.bipush 6, 2) := by decide +kernel
theorem dX3_startSteps_19 : decode cX3_startSteps 19 = .ok (.if_icmp .ge 23, 3) := by decide +kernel
theorem dX3_startSteps_22 : decode cX3_startSteps 22 = .ok (.aload_n 0, 1) := by decide +kernel
theorem dX3_startSteps_23 : decode cX3_startSteps 23 = .ok (.getfield 20, 3) := by decide +kernel
theorem dX3_startSteps_26 : decode cX3_startSteps 26 = .ok (.iconst 1, 1) := by decide +kernel
theorem dX3_startSteps_27 : decode cX3_startSteps 27 = .ok (.iand, 1) := by decide +kernel
theorem dX3_startSteps_28 : decode cX3_startSteps 28 = .ok (.iconst 1, 1) := by decide +kernel
theorem dX3_startSteps_29 : decode cX3_startSteps 29 = .ok (.if_icmp .ne 13, 3) := by decide +kernel
theorem dX3_startSteps_32 : decode cX3_startSteps 32 = .ok (.aload_n 0, 1) := by decide +kernel
theorem dX3_startSteps_33 : decode cX3_startSteps 33 = .ok (.invokevirtual 61, 3) := by decide +kernel
theorem dX3_startSteps_36 : decode cX3_startSteps 36 = .ok (.iinc 3 1, 3) := by decide +kernel
theorem dX3_startSteps_39 : decode cX3_startSteps 39 = .ok (.goto (-23), 3) := by decide +kernel
theorem dX3_startSteps_42 : decode cX3_startSteps 42 = .ok (.return_, 1) := by decide +kernel
theorem dX3_comesFromLeft_0 : decode cX3_comesFromLeft 0 = .ok (.aload_n 0, 1) := by decide +kernel
theorem dX3_comesFromLeft_1 : decode cX3_comesFromLeft 1 = .ok (.getfield 20, 3) := by decide +kernel
theorem dX3_comesFromLeft_4 : decode cX3_comesFromLeft 4 = .ok (.iconst 1, 1) := by decide +kernel
theorem dX3_comesFromLeft_5 : decode cX3_comesFromLeft 5 = .ok (.iand, 1) := by decide +kernel
theorem dX3_comesFromLeft_6 : decode cX3_comesFromLeft 6 = .ok (.iconst 1, 1) := by decide +kernel
theorem dX3_comesFromLeft_7 : decode cX3_comesFromLeft 7 = .ok (.if_icmp .eq 14, 3) := by decide +kernel
theorem dX3_comesFromLeft_10 : decode cX3_comesFromLeft 10 = .ok (.aload_n 0, 1) := by decide +kernel
theorem dX3_comesFromLeft_11 : decode cX3_comesFromLeft 11 = .ok (.getfield 20, 3) := by decide +kernel
theorem dX3_comesFromLeft_14 : decode cX3_comesFromLeft 14 = .ok (.aload_n 0, 1) := by decide +kernel
theorem dX3_comesFromLeft_15 : decode cX3_comesFromLeft 15 = .ok (.getfield 24, 3) := by decide +kernel
theorem dX3_comesFromLeft_18 : decode cX3_comesFromLeft 18 = .ok (.if_icmp .ne 7, 3) := by decide +kernel
theorem dX3_comesFromLeft_21 : decode cX3_comesFromLeft 21 = .ok (.iconst 1, 1) := by decide +kernel
theorem dX3_comesFromLeft_22 : decode cX3_comesFromLeft 22 = .ok (.goto 4, 3) := by decide +kernel
theorem dX3_comesFromLeft_25 : decode cX3_comesFromLeft 25 = .ok (.iconst 0, 1) := by decide +kernel
theorem dX3_comesFromLeft_26 : decode cX3_comesFromLeft 26 = .ok (.ireturn, 1) := by decide +kernel
theorem dX3_putLeft_0 : decode cX3_putLeft 0 = .ok (.aload_n 0, 1) := by decide +kernel
theorem dX3_putLeft_1 : decode cX3_putLeft 1 = .ok (.getfield 27, 3) := by decide +kernel
theorem dX3_putLeft_4 : decode cX3_putLeft 4 = .ok (.aload_n 0, 1) := by decide +kernel
theorem dX3_putLeft_5 : decode cX3_putLeft 5 = .ok (.getfield 31, 3) := by decide +kernel
theorem dX3_putLeft_8 : decode cX3_putLeft 8 = .ok (.getfield 68, 3) := by decide +kernel
theorem dX3_putLeft_11 : decode cX3_putLeft 11 = .ok (.iload_n 1, 1) := by decide +kernel
theorem dX3_putLeft_12 : decode cX3_putLeft 12 = .ok (.aload_n 0, 1) := by decide +kernel
theorem dX3_putLeft_13 : decode cX3_putLeft 13 = .ok (.getfield 14, 3) := by decide +kernel
theorem dX3_putLeft_16 : decode cX3_putLeft 16 = .ok (.iload_n 2, 1) := by decide +kernel
theorem dX3_putLeft_17 : decode cX3_putLeft 17 = .ok (.aload_n 0, 1) := by decide +kernel
theorem dX3_putLeft_18 : decode cX3_putLeft 18 = .ok (.getfield 14, 3) := by decide +kernel
theorem dX3_putLeft_21 : decode cX3_putLeft 21 = .ok (.iload_n 2, 1) := by decide +kernel
theorem dX3_putLeft_22 : decode cX3_putLeft 22 = .ok (.invokevirtual 74, 3) := by decide +kernel
theorem dX3_putLeft_25 : decode cX3_putLeft 25 = .ok (.return_, 1) := by decide +kernel
theorem dX3_putRight_0 : decode cX3_putRight 0 = .ok (.aload_n 0, 1) := by decide +kernel
theorem dX3_putRight_1 : decode cX3_putRight 1 = .ok (.getfield 27, 3) := by decide +kernel
theorem dX3_putRight_4 : decode cX3_putRight 4 = .ok (.aload_n 0, 1) := by decide +kernel
theorem dX3_putRight_5 : decode cX3_putRight 5 = .ok (.getfield 14, 3) := by decide +kernel
theorem dX3_putRight_8 : decode cX3_putRight 8 = .ok (.iload_n 2, 1) := by decide +kernel
theorem dX3_putRight_9 : decode cX3_putRight 9 = .ok (.aload_n 0, 1) := by decide +kernel
theorem dX3_putRight_10 : decode cX3_putRight 10 = .ok (.getfield 31, 3) := by decide +kernel
theorem dX3_putRight_13 : decode cX3_putRight 13 = .ok (.getfield 68, 3) := by decide +kernel
theorem dX3_putRight_16 : decode cX3_putRight 16 = .ok (.iload_n 1, 1) := by decide +kernel
theorem dX3_putRight_17 : decode cX3_putRight 17 = .ok (.aload_n 0, 1) := by decide +kernel
theorem dX3_putRight_18 : decode cX3_putRight 18 = .ok (.getfield 14, 3) := by decide +kernel
theorem dX3_putRight_21 : decode cX3_putRight 21 = .ok (.iload_n 2, 1) := by decide +kernel
theorem dX3_putRight_22 : decode cX3_putRight 22 = .ok (.invokevirtual 74, 3) := by decide +kernel
theorem dX3_putRight_25 : decode cX3_putRight 25 = .ok (.return_, 1) := by decide +kernel
theorem dX3_skipLevels_0 : decode cX3_skipLevels 0 = .ok (.iconst 0, 1) := by decide +kernel
theorem dX3_skipLevels_1 : decode cX3_skipLevels 1 = .ok (.istore_n 1, 1) := by decide +kernel
theorem dX3_skipLevels_2 : decode cX3_skipLevels 2 = .ok (.iload_n 1, 1) := by decide +kernel
theorem dX3_skipLevels_3 : decode cX3_skipLevels 3 = .ok (.bipush 6, 2) := by decide +kernel
theorem dX3_skipLevels_5 : decode cX3_skipLevels 5 = .ok (.if_icmp .ge 29, 3) := by decide +kernel
theorem dX3_skipLevels_8 : decode cX3_skipLevels 8 = .ok (.aload_n 0, 1) := by decide +kernel
theorem dX3_skipLevels_9 : decode cX3_skipLevels 9 = .ok (.getfield 20, 3) := by decide +kernel
theorem dX3_skipLevels_12 : decode cX3_skipLevels 12 = .ok (.ifCond .eq 22, 3) := by decide +kernel
theorem dX3_skipLevels_15 : decode cX3_skipLevels 15 = .ok (.aload_n 0, 1) := by decide +kernel
theorem dX3_skipLevels_16 : decode cX3_skipLevels 16 = .ok (.getfield 20, 3) := by decide +kernel
theorem dX3_skipLevels_19 : decode cX3_skipLevels 19 = .ok (.iconst 1, 1) := by decide +kernel
theorem dX3_skipLevels_20 : decode cX3_skipLevels 20 = .ok (.iand, 1) := by decide +kernel
theorem dX3_skipLevels_21 : decode cX3_skipLevels 21 = .ok (.ifCond .ne 13, 3) := by decide +kernel
theorem dX3_skipLevels_24 : decode cX3_skipLevels 24 = .ok (.aload_n 0, 1) := by decide +kernel
theorem dX3_skipLevels_25 : decode cX3_skipLevels 25 = .ok (.invokevirtual 61, 3) := by decide +kernel
theorem dX3_skipLevels_28 : decode cX3_skipLevels 28 = .ok (.iinc 1 1, 3) := by decide +kernel
theorem dX3_skipLevels_31 : decode cX3_skipLevels 31 = .ok (.goto (-29), 3) := by decide +kernel
theorem dX3_skipLevels_34 : decode cX3_skipLevels 34 = .ok (.return_, 1) := by decide +kernel
theorem dX3_halve_0 : decode cX3_halve 0 = .ok (.aload_n 0, 1) := by decide +kernel
theorem dX3_halve_1 : decode cX3_halve 1 = .ok (.aload_n 0, 1) := by decide +kernel
theorem dX3_halve_2 : decode cX3_halve 2 = .ok (.getfield 20, 3) := by decide +kernel
theorem dX3_halve_5 : decode cX3_halve 5 = .ok (.iconst 1, 1) := by decide +kernel
theorem dX3_halve_6 : decode cX3_halve 6 = .ok (.ishr, 1) := by decide +kernel
theorem dX3_halve_7 : decode cX3_halve 7 = .ok (.putfield 20, 3) := by decide +kernel
theorem dX3_halve_10 : decode cX3_halve 10 = .ok (.aload_n 0, 1) := by decide +kernel
theorem dX3_halve_11 : decode cX3_halve 11 = .ok (.aload_n 0, 1) := by decide +kernel
theorem dX3_halve_12 : decode cX3_halve 12 = .ok (.getfield 24, 3) := by decide +kernel
theorem dX3_halve_15 : decode cX3_halve 15 = .ok (.iconst 1, 1) := by decide +kernel
theorem dX3_halve_16 : decode cX3_halve 16 = .ok (.ishr, 1) := by decide +kernel
theorem dX3_halve_17 : decode cX3_halve 17 = .ok (.putfield 24, 3) := by decide +kernel
theorem dX3_halve_20 : decode cX3_halve 20 = .ok (.return_, 1) := by decide +kernel
theorem dX4_init_0 : decode cX4_init 0 = .ok (.aload_n 0, 1) := by decide +kernel
theorem dX4_init_1 : decode cX4_init 1 = .ok (.invokespecial 3, 3) := by decide +kernel
theorem dX4_init_4 : decode cX4_init 4 = .ok (.aload_n 0, 1) := by decide +kernel
theorem dX4_init_5 : decode cX4_init 5 = .ok (.sipush 720, 3) := by decide +kernel
theorem dX4_init_8 : decode cX4_init 8 = .ok (.newarray .int, 2) := by decide +kernel
theorem dX4_init_10 : decode cX4_init 10 = .ok (.putfield 9, 3) := by decide +kernel
theorem dX4_init_13 : decode cX4_init 13 = .ok (.aload_n 0, 1) := by decide +kernel
theorem dX4_init_14 : decode cX4_init 14 = .ok (.new 15, 3) := by decide +kernel
theorem dX4_init_17 : decode cX4_init 17 = .ok (.dup, 1) := by decide +kernel
theorem dX4_init_18 : decode cX4_init 18 = .ok (.bipush 61, 2) := by decide +kernel
theorem dX4_init_20 : decode cX4_init 20 = .ok (.invokespecial 17, 3) := by decide +kernel
theorem dX4_init_23 : decode cX4_init 23 = .ok (.putfield 20, 3) := by decide +kernel
theorem dX4_init_26 : decode cX4_init 26 = .ok (.aload_n 0, 1) := by decide +kernel
theorem dX4_init_27 : decode cX4_init 27 = .ok (.iconst 0, 1) := by decide +kernel
theorem dX4_init_28 : decode cX4_init 28 = .ok (.putfield 24, 3) := by decide +kernel
theorem dX4_init_31 : decode cX4_init 31 = .ok (.aload_n 0, 1) := by decide +kernel
theorem dX4_init_32 : decode cX4_init 32 = .ok (.aload_n 1, 1) := by decide +kernel
theorem dX4_init_33 : decode cX4_init 33 = .ok (.putfield 28, 3) := by decide +kernel
theorem dX4_init_36 : decode cX4_init 36 = .ok (.aload_n 0, 1) := by decide +kernel
theorem dX4_init_37 : decode cX4_init 37 = .ok (.aload_n 2, 1) := by decide +kernel
theorem dX4_init_38 : decode cX4_init 38 = .ok (.putfield 32, 3) := by decide +kernel
theorem dX4_init_41 : decode cX4_init 41 = .ok (.return_, 1) := by decide +kernel
theorem dX4_entryByte_0 : decode cX4_entryByte 0 = .ok (.aload_n 0, 1) := by decide +kernel
theorem dX4_entryByte_1 : decode cX4_entryByte 1 = .ok (.getfield 9, 3) := by decide +kernel
theorem dX4_entryByte_4 : decode cX4_entryByte 4 = .ok (.iload_n 1, 1) := by decide +kernel
theorem dX4_entryByte_5 : decode cX4_entryByte 5 = .ok (.bipush 12, 2) := by decide +kernel
theorem dX4_entryByte_7 : decode cX4_entryByte 7 = .ok (.imul, 1) := by decide +kernel
theorem dX4_entryByte_8 : decode cX4_entryByte 8 = .ok (.iload_n 2, 1) := by decide +kernel
theorem dX4_entryByte_9 : decode cX4_entryByte 9 = .ok (.iadd, 1) := by decide +kernel
theorem dX4_entryByte_10 : decode cX4_entryByte 10 = .ok (.iaload, 1) := by decide +kernel
theorem dX4_entryByte_11 : decode cX4_entryByte 11 = .ok (.ireturn, 1) := by decide +kernel
theorem dX4_linkByte_0 : decode cX4_linkByte 0 = .ok (.aload_n 0, 1) := by decide +kernel
theorem dX4_linkByte_1 : decode cX4_linkByte 1 = .ok (.getfield 20, 3) := by decide +kernel
theorem dX4_linkByte_4 : decode cX4_linkByte 4 = .ok (.iload_n 1, 1) := by decide +kernel
theorem dX4_linkByte_5 : decode cX4_linkByte 5 = .ok (.iload_n 2, 1) := by decide +kernel
theorem dX4_linkByte_6 : decode cX4_linkByte 6 = .ok (.invokevirtual 36, 3) := by decide +kernel
theorem dX4_linkByte_9 : decode cX4_linkByte 9 = .ok (.ireturn, 1) := by decide +kernel
theorem dX4_frameByte_0 : decode cX4_frameByte 0 = .ok (.iload_n 2, 1) := by decide +kernel
theorem dX4_frameByte_1 : decode cX4_frameByte 1 = .ok (.ifCond .ne 6, 3) := by decide +kernel
theorem dX4_frameByte_4 : decode cX4_frameByte 4 = .ok (.bipush 90, 2) := by decide +kernel
theorem dX4_frameByte_6 : decode cX4_frameByte 6 = .ok (.ireturn, 1) := by decide +kernel
theorem dX4_frameByte_7 : decode cX4_frameByte 7 = .ok (.iload_n 2, 1) := by decide +kernel
theorem dX4_frameByte_8 : decode cX4_frameByte 8 = .ok (.bipush 12, 2) := by decide +kernel
theorem dX4_frameByte_10 : decode cX4_frameByte 10 = .ok (.if_icmp .gt 14, 3) := by decide +kernel
theorem dX4_frameByte_13 : decode cX4_frameByte 13 = .ok (.aload_n 0, 1) := by decide +kernel
theorem dX4_frameByte_14 : decode cX4_frameByte 14 = .ok (.iload_n 1, 1) := by decide +kernel
theorem dX4_frameByte_15 : decode cX4_frameByte 15 = .ok (.iload_n 2, 1) := by decide +kernel
theorem dX4_frameByte_16 : decode cX4_frameByte 16 = .ok (.iconst 1, 1) := by decide +kernel
theorem dX4_frameByte_17 : decode cX4_frameByte 17 = .ok (.isub, 1) := by decide +kernel
theorem dX4_frameByte_18 : decode cX4_frameByte 18 = .ok (.invokevirtual 40, 3) := by decide +kernel
theorem dX4_frameByte_21 : decode cX4_frameByte 21 = .ok (.goto 16, 3) := by decide +kernel
theorem dX4_frameByte_24 : decode cX4_frameByte 24 = .ok (.aload_n 0, 1) := by decide +kernel
theorem dX4_frameByte_25 : decode cX4_frameByte 25 = .ok (.iload_n 1, 1) := by decide +kernel
theorem dX4_frameByte_26 : decode cX4_frameByte 26 = .ok (.iconst 1, 1) := by decide +kernel
theorem dX4_frameByte_27 : decode cX4_frameByte 27 = .ok (.iadd, 1) := by decide +kernel
theorem dX4_frameByte_28 : decode cX4_frameByte 28 = .ok (.iload_n 2, 1) := by decide +kernel
theorem dX4_frameByte_29 : decode cX4_frameByte 29 = .ok (.iconst 1, 1) := by decide +kernel
theorem dX4_frameByte_30 : decode cX4_frameByte 30 = .ok (.isub, 1) := by decide +kernel
theorem dX4_frameByte_31 : decode cX4_frameByte 31 = .ok (.bipush 12, 2) := by decide +kernel
theorem dX4_frameByte_33 : decode cX4_frameByte 33 = .ok (.isub, 1) := by decide +kernel
theorem dX4_frameByte_34 : decode cX4_frameByte 34 = .ok (.invokevirtual 43, 3) := by decide +kernel
theorem dX4_frameByte_37 : decode cX4_frameByte 37 = .ok (.ireturn, 1) := by decide +kernel
theorem dX4_draftByte_0 : decode cX4_draftByte 0 = .ok (.aload_n 0, 1) := by decide +kernel
theorem dX4_draftByte_1 : decode cX4_draftByte 1 = .ok (.getfield 24, 3) := by decide +kernel
theorem dX4_draftByte_4 : decode cX4_draftByte 4 = .ok (.bipush 60, 2) := by decide +kernel
theorem dX4_draftByte_6 : decode cX4_draftByte 6 = .ok (.if_icmp .ge 18, 3) := by decide +kernel
theorem dX4_draftByte_9 : decode cX4_draftByte 9 = .ok (.aload_n 0, 1) := by decide +kernel
theorem dX4_draftByte_10 : decode cX4_draftByte 10 = .ok (.getfield 9, 3) := by decide +kernel
theorem dX4_draftByte_13 : decode cX4_draftByte 13 = .ok (.aload_n 0, 1) := by decide +kernel
theorem dX4_draftByte_14 : decode cX4_draftByte 14 = .ok (.getfield 24, 3) := by decide +kernel
theorem dX4_draftByte_17 : decode cX4_draftByte 17 = .ok (.bipush 12, 2) := by decide +kernel
theorem dX4_draftByte_19 : decode cX4_draftByte 19 = .ok (.imul, 1) := by decide +kernel
theorem dX4_draftByte_20 : decode cX4_draftByte 20 = .ok (.iload_n 1, 1) := by decide +kernel
theorem dX4_draftByte_21 : decode cX4_draftByte 21 = .ok (.iadd, 1) := by decide +kernel
theorem dX4_draftByte_22 : decode cX4_draftByte 22 = .ok (.iload_n 2, 1) := by decide +kernel
theorem dX4_draftByte_23 : decode cX4_draftByte 23 = .ok (.iastore, 1) := by decide +kernel
theorem dX4_draftByte_24 : decode cX4_draftByte 24 = .ok (.return_, 1) := by decide +kernel
theorem dX4_draftHead_0 : decode cX4_draftHead 0 = .ok (.aload_n 0, 1) := by decide +kernel
theorem dX4_draftHead_1 : decode cX4_draftHead 1 = .ok (.iconst 0, 1) := by decide +kernel
theorem dX4_draftHead_2 : decode cX4_draftHead 2 = .ok (.aload_n 0, 1) := by decide +kernel
theorem dX4_draftHead_3 : decode cX4_draftHead 3 = .ok (.getfield 24, 3) := by decide +kernel
theorem dX4_draftHead_6 : decode cX4_draftHead 6 = .ok (.bipush 8, 2) := by decide +kernel
theorem dX4_draftHead_8 : decode cX4_draftHead 8 = .ok (.ishr, 1) := by decide +kernel
theorem dX4_draftHead_9 : decode cX4_draftHead 9 = .ok (.invokevirtual 46, 3) := by decide +kernel
theorem dX4_draftHead_12 : decode cX4_draftHead 12 = .ok (.aload_n 0, 1) := by decide +kernel
theorem dX4_draftHead_13 : decode cX4_draftHead 13 = .ok (.iconst 1, 1) := by decide +kernel
theorem dX4_draftHead_14 : decode cX4_draftHead 14 = .ok (.aload_n 0, 1) := by decide +kernel
theorem dX4_draftHead_15 : decode cX4_draftHead 15 = .ok (.getfield 24, 3) := by decide +kernel
theorem dX4_draftHead_18 : decode cX4_draftHead 18 = .ok (.sipush 255, 3) := by decide +kernel
theorem dX4_draftHead_21 : decode cX4_draftHead 21 = .ok (.iand, 1) := by decide +kernel
theorem dX4_draftHead_22 : decode cX4_draftHead 22 = .ok (.invokevirtual 46, 3) := by decide +kernel
theorem dX4_draftHead_25 : decode cX4_draftHead 25 = .ok (.aload_n 0, 1) := by decide +kernel
theorem dX4_draftHead_26 : decode cX4_draftHead 26 = .ok (.iconst 2, 1) := by decide +kernel
theorem dX4_draftHead_27 : decode cX4_draftHead 27 = .ok (.iload_n 1, 1) := by decide +kernel
theorem dX4_draftHead_28 : decode cX4_draftHead 28 = .ok (.invokevirtual 46, 3) := by decide +kernel
theorem dX4_draftHead_31 : decode cX4_draftHead 31 = .ok (.aload_n 0, 1) := by decide +kernel
theorem dX4_draftHead_32 : decode cX4_draftHead 32 = .ok (.iconst 3, 1) := by decide +kernel
theorem dX4_draftHead_33 : decode cX4_draftHead 33 = .ok (.iload_n 2, 1) := by decide +kernel
theorem dX4_draftHead_34 : decode cX4_draftHead 34 = .ok (.invokevirtual 46, 3) := by decide +kernel
theorem dX4_draftHead_37 : decode cX4_draftHead 37 = .ok (.aload_n 0, 1) := by decide +kernel
theorem dX4_draftHead_38 : decode cX4_draftHead 38 = .ok (.iconst 4, 1) := by decide +kernel
theorem dX4_draftHead_39 : decode cX4_draftHead 39 = .ok (.iload_n 3, 1) := by decide +kernel
theorem dX4_draftHead_40 : decode cX4_draftHead 40 = .ok (.invokevirtual 46, 3) := by decide +kernel
theorem dX4_draftHead_43 : decode cX4_draftHead 43 = .ok (.aload_n 0, 1) := by decide +kernel
theorem dX4_draftHead_44 : decode cX4_draftHead 44 = .ok (.iconst 5, 1) := by decide +kernel
theorem dX4_draftHead_45 : decode cX4_draftHead 45 = .ok (.iload 4, 2) := by decide +kernel
theorem dX4_draftHead_47 : decode cX4_draftHead 47 = .ok (.invokevirtual 46, 3) := by decide +kernel
theorem dX4_draftHead_50 : decode cX4_draftHead 50 = .ok (.aload_n 0, 1) := by decide +kernel
theorem dX4_draftHead_51 : decode cX4_draftHead 51 = .ok (.bipush 6, 2) := by decide +kernel
theorem dX4_draftHead_53 : decode cX4_draftHead 53 = .ok (.iload 5, 2) := by decide +kernel
theorem dX4_draftHead_55 : decode cX4_draftHead 55 = .ok (.invokevirtual 46, 3) := by decide +kernel
theorem dX4_draftHead_58 : decode cX4_draftHead 58 = .ok (.aload_n 0, 1) := by decide +kernel
theorem dX4_draftHead_59 : decode cX4_draftHead 59 = .ok (.bipush 7, 2) := by decide +kernel
theorem dX4_draftHead_61 : decode cX4_draftHead 61 = .ok (.sipush 165, 3) := by decide +kernel
theorem dX4_draftHead_64 : decode cX4_draftHead 64 = .ok (.invokevirtual 46, 3) := by decide +kernel
theorem dX4_draftHead_67 : decode cX4_draftHead 67 = .ok (.return_, 1) := by decide +kernel
theorem dX4_draftTime_0 : decode cX4_draftTime 0 = .ok (.iconst 0, 1) := by decide +kernel
theorem dX4_draftTime_1 : decode cX4_draftTime 1 = .ok (.istore_n 2, 1) := by decide +kernel
theorem dX4_draftTime_2 : decode cX4_draftTime 2 = .ok (.iload_n 2, 1) := by decide +kernel
theorem dX4_draftTime_3 : decode cX4_draftTime 3 = .ok (.iconst 4, 1) := by decide +kernel
theorem dX4_draftTime_4 : decode cX4_draftTime 4 = .ok (.if_icmp .ge 30, 3) := by decide +kernel
theorem dX4_draftTime_7 : decode cX4_draftTime 7 = .ok (.aload_n 0, 1) := by decide +kernel
theorem dX4_draftTime_8 : decode cX4_draftTime 8 = .ok (.bipush 8, 2) := by decide +kernel
theorem dX4_draftTime_10 : decode cX4_draftTime 10 = .ok (.iload_n 2, 1) := by decide +kernel
theorem dX4_draftTime_11 : decode cX4_draftTime 11 = .ok (.iadd, 1) := by decide +kernel
theorem dX4_draftTime_12 : decode cX4_draftTime 12 = .ok (.iload_n 1, 1) := by decide +kernel
theorem dX4_draftTime_13 : decode cX4_draftTime 13 = .ok (.bipush 24, 2) := by decide +kernel
theorem dX4_draftTime_15 : decode cX4_draftTime 15 = .ok (.bipush 8, 2) := by decide +kernel
theorem dX4_draftTime_17 : decode cX4_draftTime 17 = .ok (.iload_n 2, 1) := by decide +kernel
theorem dX4_draftTime_18 : decode cX4_draftTime 18 = .ok (.imul, 1) := by decide +kernel
theorem dX4_draftTime_19 : decode cX4_draftTime 19 = .ok (.isub, 1) := by decide +kernel
theorem dX4_draftTime_20 : decode cX4_draftTime 20 = .ok (.iushr, 1) := by decide +kernel
theorem dX4_draftTime_21 : decode cX4_draftTime 21 = .ok (.sipush 255, 3) := by decide +kernel
theorem dX4_draftTime_24 : decode cX4_draftTime 24 = .ok (.iand, 1) := by decide +kernel
theorem dX4_draftTime_25 : decode cX4_draftTime 25 = .ok (.invokevirtual 46, 3) := by decide +kernel
theorem dX4_draftTime_28 : decode cX4_draftTime 28 = .ok (.iinc 2 1, 3) := by decide +kernel
theorem dX4_draftTime_31 : decode cX4_draftTime 31 = .ok (.goto (-29), 3) := by decide +kernel
theorem dX4_draftTime_34 : decode cX4_draftTime 34 = .ok (.return_, 1) := by decide +kernel
theorem dX4_linkDraft_0 : decode cX4_linkDraft 0 = .ok (.aload_n 0, 1) := by decide +kernel
theorem dX4_linkDraft_1 : decode cX4_linkDraft 1 = .ok (.getfield 24, 3) := by decide +kernel
theorem dX4_linkDraft_4 : decode cX4_linkDraft 4 = .ok (.bipush 60, 2) := by decide +kernel
theorem dX4_linkDraft_6 : decode cX4_linkDraft 6 = .ok (.if_icmp .lt 4, 3) := by decide +kernel
theorem dX4_linkDraft_9 : decode cX4_linkDraft 9 = .ok (.return_, 1) := by decide +kernel
theorem dX4_linkDraft_10 : decode cX4_linkDraft 10 = .ok (.aload_n 0, 1) := by decide +kernel
theorem dX4_linkDraft_11 : decode cX4_linkDraft 11 = .ok (.getfield 28, 3) := by decide +kernel
theorem dX4_linkDraft_14 : decode cX4_linkDraft 14 = .ok (.invokevirtual 50, 3) := by decide +kernel
theorem dX4_linkDraft_17 : decode cX4_linkDraft 17 = .ok (.aload_n 0, 1) := by decide +kernel
theorem dX4_linkDraft_18 : decode cX4_linkDraft 18 = .ok (.getfield 28, 3) := by decide +kernel
theorem dX4_linkDraft_21 : decode cX4_linkDraft 21 = .ok (.aload_n 0, 1) := by decide +kernel
theorem dX4_linkDraft_22 : decode cX4_linkDraft 22 = .ok (.getfield 20, 3) := by decide +kernel
theorem dX4_linkDraft_25 : decode cX4_linkDraft 25 = .ok (.aload_n 0, 1) := by decide +kernel
theorem dX4_linkDraft_26 : decode cX4_linkDraft 26 = .ok (.getfield 24, 3) := by decide +kernel
theorem dX4_linkDraft_29 : decode cX4_linkDraft 29 = .ok (.invokevirtual 55, 3) := by decide +kernel
theorem dX4_linkDraft_32 : decode cX4_linkDraft 32 = .ok (.iconst 0, 1) := by decide +kernel
theorem dX4_linkDraft_33 : decode cX4_linkDraft 33 = .ok (.istore_n 1, 1) := by decide +kernel
theorem dX4_linkDraft_34 : decode cX4_linkDraft 34 = .ok (.iload_n 1, 1) := by decide +kernel
theorem dX4_linkDraft_35 : decode cX4_linkDraft 35 = .ok (.bipush 12, 2) := by decide +kernel
theorem dX4_linkDraft_37 : decode cX4_linkDraft 37 = .ok (.if_icmp .ge 25, 3) := by decide +kernel
theorem dX4_linkDraft_40 : decode cX4_linkDraft 40 = .ok (.aload_n 0, 1) := by decide +kernel
theorem dX4_linkDraft_41 : decode cX4_linkDraft 41 = .ok (.getfield 28, 3) := by decide +kernel
theorem dX4_linkDraft_44 : decode cX4_linkDraft 44 = .ok (.aload_n 0, 1) := by decide +kernel
theorem dX4_linkDraft_45 : decode cX4_linkDraft 45 = .ok (.aload_n 0, 1) := by decide +kernel
theorem dX4_linkDraft_46 : decode cX4_linkDraft 46 = .ok (.getfield 24, 3) := by decide +kernel
theorem dX4_linkDraft_49 : decode cX4_linkDraft 49 = .ok (.iload_n 1, 1) := by decide +kernel
theorem dX4_linkDraft_50 : decode cX4_linkDraft 50 = .ok (.invokevirtual 40, 3) := by decide +kernel
theorem dX4_linkDraft_53 : decode cX4_linkDraft 53 = .ok (.invokevirtual 59, 3) := by decide +kernel
