theorem dX1_init_0 : decode cX1_init 0 = .ok (.aload_n 0, 1) := by decide +kernel
theorem dX1_init_1 : decode cX1_init 1 = .ok (.invokespecial 1, 3) := by decide +kernel
theorem dX1_init_4 : decode cX1_init 4 = .ok (.aload_n 0, 1) := by decide +kernel
theorem dX1_init_5 : decode cX1_init 5 = .ok (.bipush 64, 2) := by decide +kernel
theorem dX1_init_7 : decode cX1_init 7 = .ok (.newarray .int, 2) := by decide +kernel
theorem dX1_init_9 : decode cX1_init 9 = .ok (.putfield 7, 3) := by decide +kernel
theorem dX1_init_12 : decode cX1_init 12 = .ok (.aload_n 0, 1) := by decide +kernel
theorem dX1_init_13 : decode cX1_init 13 = .ok (.sipush 128, 3) := by decide +kernel
theorem dX1_init_16 : decode cX1_init 16 = .ok (.newarray .int, 2) := by decide +kernel
theorem dX1_init_18 : decode cX1_init 18 = .ok (.putfield 13, 3) := by decide +kernel
theorem dX1_init_21 : decode cX1_init 21 = .ok (.aload_n 0, 1) := by decide +kernel
theorem dX1_init_22 : decode cX1_init 22 = .ok (.bipush 32, 2) := by decide +kernel
theorem dX1_init_24 : decode cX1_init 24 = .ok (.newarray .int, 2) := by decide +kernel
theorem dX1_init_26 : decode cX1_init 26 = .ok (.putfield 16, 3) := by decide +kernel
theorem dX1_init_29 : decode cX1_init 29 = .ok (.aload_n 0, 1) := by decide +kernel
theorem dX1_init_30 : decode cX1_init 30 = .ok (.iconst 5, 1) := by decide +kernel
theorem dX1_init_31 : decode cX1_init 31 = .ok (.newarray .int, 2) := by decide +kernel
theorem dX1_init_33 : decode cX1_init 33 = .ok (.putfield 19, 3) := by decide +kernel
theorem dX1_init_36 : decode cX1_init 36 = .ok (.aload_n 0, 1) := by decide +kernel
theorem dX1_init_37 : decode cX1_init 37 = .ok (.bipush 8, 2) := by decide +kernel
theorem dX1_init_39 : decode cX1_init 39 = .ok (.newarray .int, 2) := by decide +kernel
theorem dX1_init_41 : decode cX1_init 41 = .ok (.putfield 22, 3) := by decide +kernel
theorem dX1_init_44 : decode cX1_init 44 = .ok (.aload_n 0, 1) := by decide +kernel
theorem dX1_init_45 : decode cX1_init 45 = .ok (.iconst 0, 1) := by decide +kernel
theorem dX1_init_46 : decode cX1_init 46 = .ok (.putfield 25, 3) := by decide +kernel
theorem dX1_init_49 : decode cX1_init 49 = .ok (.return_, 1) := by decide +kernel
theorem dX1_choose_0 : decode cX1_choose 0 = .ok (.aload_n 0, 1) := by decide +kernel
theorem dX1_choose_1 : decode cX1_choose 1 = .ok (.iconst 0, 1) := by decide +kernel
theorem dX1_choose_2 : decode cX1_choose 2 = .ok (.putfield 29, 3) := by decide +kernel
theorem dX1_choose_5 : decode cX1_choose 5 = .ok (.iload_n 1, 1) := by decide +kernel
theorem dX1_choose_6 : decode cX1_choose 6 = .ok (.ifCond .lt 8, 3) := by decide +kernel
theorem dX1_choose_9 : decode cX1_choose 9 = .ok (.iload_n 1, 1) := by decide +kernel
theorem dX1_choose_10 : decode cX1_choose 10 = .ok (.iconst 3, 1) := by decide +kernel
theorem dX1_choose_11 : decode cX1_choose 11 = .ok (.if_icmp .le 5, 3) := by decide +kernel
theorem dX1_choose_14 : decode cX1_choose 14 = .ok (.iconst 0, 1) := by decide +kernel
theorem dX1_choose_15 : decode cX1_choose 15 = .ok (.ireturn, 1) := by decide +kernel
theorem dX1_choose_16 : decode cX1_choose 16 = .ok (.iconst 0, 1) := by decide +kernel
theorem dX1_choose_17 : decode cX1_choose 17 = .ok (.istore_n 2, 1) := by decide +kernel
theorem dX1_choose_18 : decode cX1_choose 18 = .ok (.iload_n 2, 1) := by decide +kernel
theorem dX1_choose_19 : decode cX1_choose 19 = .ok (.bipush 64, 2) := by decide +kernel
theorem dX1_choose_21 : decode cX1_choose 21 = .ok (.if_icmp .ge 16, 3) := by decide +kernel
theorem dX1_choose_24 : decode cX1_choose 24 = .ok (.aload_n 0, 1) := by decide +kernel
theorem dX1_choose_25 : decode cX1_choose 25 = .ok (.getfield 7, 3) := by decide +kernel
theorem dX1_choose_28 : decode cX1_choose 28 = .ok (.iload_n 2, 1) := by decide +kernel
theorem dX1_choose_29 : decode cX1_choose 29 = .ok (.iconst 0, 1) := by decide +kernel
theorem dX1_choose_30 : decode cX1_choose 30 = .ok (.iastore, 1) := by decide +kernel
theorem dX1_choose_31 : decode cX1_choose 31 = .ok (.iinc 2 1, 3) := by decide +kernel
theorem dX1_choose_34 : decode cX1_choose 34 = .ok (.goto (-16), 3) := by decide +kernel
theorem dX1_choose_37 : decode cX1_choose 37 = .ok (.iconst 0, 1) := by decide +kernel
theorem dX1_choose_38 : decode cX1_choose 38 = .ok (.istore_n 2, 1) := by decide +kernel
theorem dX1_choose_39 : decode cX1_choose 39 = .ok (.iload_n 2, 1) := by decide +kernel
theorem dX1_choose_40 : decode cX1_choose 40 = .ok (.bipush 32, 2) := by decide +kernel
theorem dX1_choose_42 : decode cX1_choose 42 = .ok (.if_icmp .ge 16, 3) := by decide +kernel
theorem dX1_choose_45 : decode cX1_choose 45 = .ok (.aload_n 0, 1) := by decide +kernel
theorem dX1_choose_46 : decode cX1_choose 46 = .ok (.getfield 16, 3) := by decide +kernel
theorem dX1_choose_49 : decode cX1_choose 49 = .ok (.iload_n 2, 1) := by decide +kernel
theorem dX1_choose_50 : decode cX1_choose 50 = .ok (.iconst 0, 1) := by decide +kernel
theorem dX1_choose_51 : decode cX1_choose 51 = .ok (.iastore, 1) := by decide +kernel
theorem dX1_choose_52 : decode cX1_choose 52 = .ok (.iinc 2 1, 3) := by decide +kernel
theorem dX1_choose_55 : decode cX1_choose 55 = .ok (.goto (-16), 3) := by decide +kernel
theorem dX1_choose_58 : decode cX1_choose 58 = .ok (.iconst 0, 1) := by decide +kernel
theorem dX1_choose_59 : decode cX1_choose 59 = .ok (.istore_n 2, 1) := by decide +kernel
theorem dX1_choose_60 : decode cX1_choose 60 = .ok (.iload_n 2, 1) := by decide +kernel
theorem dX1_choose_61 : decode cX1_choose 61 = .ok (.iconst 5, 1) := by decide +kernel
theorem dX1_choose_62 : decode cX1_choose 62 = .ok (.if_icmp .ge 16, 3) := by decide +kernel
theorem dX1_choose_65 : decode cX1_choose 65 = .ok (.aload_n 0, 1) := by decide +kernel
theorem dX1_choose_66 : decode cX1_choose 66 = .ok (.getfield 19, 3) := by decide +kernel
theorem dX1_choose_69 : decode cX1_choose 69 = .ok (.iload_n 2, 1) := by decide +kernel
theorem dX1_choose_70 : decode cX1_choose 70 = .ok (.iconst 0, 1) := by decide +kernel
theorem dX1_choose_71 : decode cX1_choose 71 = .ok (.iastore, 1) := by decide +kernel
theorem dX1_choose_72 : decode cX1_choose 72 = .ok (.iinc 2 1, 3) := by decide +kernel
theorem dX1_choose_75 : decode cX1_choose 75 = .ok (.goto (-15), 3) := by decide +kernel
theorem dX1_choose_78 : decode cX1_choose 78 = .ok (.aload_n 0, 1) := by decide +kernel
theorem dX1_choose_79 : decode cX1_choose 79 = .ok (.iload_n 1, 1) := by decide +kernel
theorem dX1_choose_80 : decode cX1_choose 80 = .ok (.putfield 25, 3) := by decide +kernel
theorem dX1_choose_83 : decode cX1_choose 83 = .ok (.aload_n 0, 1) := by decide +kernel
theorem dX1_choose_84 : decode cX1_choose 84 = .ok (.iconst 0, 1) := by decide +kernel
theorem dX1_choose_85 : decode cX1_choose 85 = .ok (.putfield 32, 3) := by decide +kernel
theorem dX1_choose_88 : decode cX1_choose 88 = .ok (.aload_n 0, 1) := by decide +kernel
theorem dX1_choose_89 : decode cX1_choose 89 = .ok (.iconst 0, 1) := by decide +kernel
theorem dX1_choose_90 : decode cX1_choose 90 = .ok (.putfield 35, 3) := by decide +kernel
theorem dX1_choose_93 : decode cX1_choose 93 = .ok (.aload_n 0, 1) := by decide +kernel
theorem dX1_choose_94 : decode cX1_choose 94 = .ok (.iconst 0, 1) := by decide +kernel
theorem dX1_choose_95 : decode cX1_choose 95 = .ok (.putfield 38, 3) := by decide +kernel
theorem dX1_choose_98 : decode cX1_choose 98 = .ok (.iconst 1, 1) := by decide +kernel
theorem dX1_choose_99 : decode cX1_choose 99 = .ok (.ireturn, 1) := by decide +kernel
theorem dX1_protocol_0 : decode cX1_protocol 0 = .ok (.aload_n 0, 1) := by decide +kernel
theorem dX1_protocol_1 : decode cX1_protocol 1 = .ok (.getfield 25, 3) := by decide +kernel
theorem dX1_protocol_4 : decode cX1_protocol 4 = .ok (.ireturn, 1) := by decide +kernel
theorem dX1_invalidates_0 : decode cX1_invalidates 0 = .ok (.aload_n 0, 1) := by decide +kernel
theorem dX1_invalidates_1 : decode cX1_invalidates 1 = .ok (.getfield 25, 3) := by decide +kernel
theorem dX1_invalidates_4 : decode cX1_invalidates 4 = .ok (.iconst 3, 1) := by decide +kernel
theorem dX1_invalidates_5 : decode cX1_invalidates 5 = .ok (.if_icmp .ge 7, 3) := by decide +kernel
theorem dX1_invalidates_8 : decode cX1_invalidates 8 = .ok (.iconst 1, 1) := by decide +kernel
theorem dX1_invalidates_9 : decode cX1_invalidates 9 = .ok (.goto 4, 3) := by decide +kernel
theorem dX1_invalidates_12 : decode cX1_invalidates 12 = .ok (.iconst 0, 1) := by decide +kernel
theorem dX1_invalidates_13 : decode cX1_invalidates 13 = .ok (.ireturn, 1) := by decide +kernel
theorem dX1_within_0 : decode cX1_within 0 = .ok (.iload_n 0, 1) := by decide +kernel
theorem dX1_within_1 : decode cX1_within 1 = .ok (.ifCond .lt 12, 3) := by decide +kernel
theorem dX1_within_4 : decode cX1_within 4 = .ok (.iload_n 0, 1) := by decide +kernel
theorem dX1_within_5 : decode cX1_within 5 = .ok (.iload_n 1, 1) := by decide +kernel
theorem dX1_within_6 : decode cX1_within 6 = .ok (.if_icmp .gt 7, 3) := by decide +kernel
theorem dX1_within_9 : decode cX1_within 9 = .ok (.iconst 1, 1) := by decide +kernel
theorem dX1_within_10 : decode cX1_within 10 = .ok (.goto 4, 3) := by decide +kernel
theorem dX1_within_13 : decode cX1_within 13 = .ok (.iconst 0, 1) := by decide +kernel
theorem dX1_within_14 : decode cX1_within 14 = .ok (.ireturn, 1) := by decide +kernel
theorem dX1_stateOf_0 : decode cX1_stateOf 0 = .ok (.aload_n 0, 1) := by decide +kernel
theorem dX1_stateOf_1 : decode cX1_stateOf 1 = .ok (.getfield 7, 3) := by decide +kernel
theorem dX1_stateOf_4 : decode cX1_stateOf 4 = .ok (.bipush 16, 2) := by decide +kernel
theorem dX1_stateOf_6 : decode cX1_stateOf 6 = .ok (.iload_n 1, 1) := by decide +kernel
theorem dX1_stateOf_7 : decode cX1_stateOf 7 = .ok (.imul, 1) := by decide +kernel
theorem dX1_stateOf_8 : decode cX1_stateOf 8 = .ok (.iload_n 2, 1) := by decide +kernel
theorem dX1_stateOf_9 : decode cX1_stateOf 9 = .ok (.iadd, 1) := by decide +kernel
theorem dX1_stateOf_10 : decode cX1_stateOf 10 = .ok (.iaload, 1) := by decide +kernel
theorem dX1_stateOf_11 : decode cX1_stateOf 11 = .ok (.ireturn, 1) := by decide +kernel
theorem dX1_setState_0 : decode cX1_setState 0 = .ok (.aload_n 0, 1) := by decide +kernel
theorem dX1_setState_1 : decode cX1_setState 1 = .ok (.getfield 7, 3) := by decide +kernel
theorem dX1_setState_4 : decode cX1_setState 4 = .ok (.bipush 16, 2) := by decide +kernel
theorem dX1_setState_6 : decode cX1_setState 6 = .ok (.iload_n 1, 1) := by decide +kernel
theorem dX1_setState_7 : decode cX1_setState 7 = .ok (.imul, 1) := by decide +kernel
theorem dX1_setState_8 : decode cX1_setState 8 = .ok (.iload_n 2, 1) := by decide +kernel
theorem dX1_setState_9 : decode cX1_setState 9 = .ok (.iadd, 1) := by decide +kernel
theorem dX1_setState_10 : decode cX1_setState 10 = .ok (.iload_n 3, 1) := by decide +kernel
theorem dX1_setState_11 : decode cX1_setState 11 = .ok (.iastore, 1) := by decide +kernel
theorem dX1_setState_12 : decode cX1_setState 12 = .ok (.return_, 1) := by decide +kernel
theorem dX1_transact_0 : decode cX1_transact 0 = .ok (.aload_n 0, 1) := by decide +kernel
theorem dX1_transact_1 : decode cX1_transact 1 = .ok (.getfield 19, 3) := by decide +kernel
theorem dX1_transact_4 : decode cX1_transact 4 = .ok (.iload_n 1, 1) := by decide +kernel
theorem dX1_transact_5 : decode cX1_transact 5 = .ok (.dup2, 1) := by decide +kernel
theorem dX1_transact_6 : decode cX1_transact 6 = .ok (.iaload, 1) := by decide +kernel
theorem dX1_transact_7 : decode cX1_transact 7 = .ok (.iconst 1, 1) := by decide +kernel
theorem dX1_transact_8 : decode cX1_transact 8 = .ok (.iadd, 1) := by decide +kernel
theorem dX1_transact_9 : decode cX1_transact 9 = .ok (.iastore, 1) := by decide +kernel
theorem dX1_transact_10 : decode cX1_transact 10 = .ok (.bipush 7, 2) := by decide +kernel
theorem dX1_transact_12 : decode cX1_transact 12 = .ok (.istore 4, 2) := by decide +kernel
theorem dX1_transact_14 : decode cX1_transact 14 = .ok (.iload 4, 2) := by decide +kernel
theorem dX1_transact_16 : decode cX1_transact 16 = .ok (.ifCond .le 25, 3) := by decide +kernel
theorem dX1_transact_19 : decode cX1_transact 19 = .ok (.aload_n 0, 1) := by decide +kernel
theorem dX1_transact_20 : decode cX1_transact 20 = .ok (.getfield 22, 3) := by decide +kernel
theorem dX1_transact_23 : decode cX1_transact 23 = .ok (.iload 4, 2) := by decide +kernel
theorem dX1_transact_25 : decode cX1_transact 25 = .ok (.aload_n 0, 1) := by decide +kernel
theorem dX1_transact_26 : decode cX1_transact 26 = .ok (.getfield 22, 3) := by decide +kernel
theorem dX1_transact_29 : decode cX1_transact 29 = .ok (.iload 4, 2) := by decide +kernel
theorem dX1_transact_31 : decode cX1_transact 31 = .ok (.iconst 1, 1) := by decide +kernel
theorem dX1_transact_32 : decode cX1_transact 32 = .ok (.isub, 1) := by decide +kernel
theorem dX1_transact_33 : decode cX1_transact 33 = .ok (.iaload, 1) := by decide +kernel
theorem dX1_transact_34 : decode cX1_transact 34 = .ok (.iastore, 1) := by decide +kernel
theorem dX1_transact_35 : decode cX1_transact 35 = .ok (.iinc 4 (-1), 3) := by decide +kernel
theorem dX1_transact_38 : decode cX1_transact 38 = .ok (.goto (-24), 3) := by decide +kernel
theorem dX1_transact_41 : decode cX1_transact 41 = .ok (.aload_n 0, 1) := by decide +kernel
theorem dX1_transact_42 : decode cX1_transact 42 = .ok (.getfield 22, 3) := by decide +kernel
theorem dX1_transact_45 : decode cX1_transact 45 = .ok (.iconst 0, 1) := by decide +kernel
theorem dX1_transact_46 : decode cX1_transact 46 = .ok (.bipush 64, 2) := by decide +kernel
theorem dX1_transact_48 : decode cX1_transact 48 = .ok (.iload_n 1, 1) := by decide +kernel
theorem dX1_transact_49 : decode cX1_transact 49 = .ok (.imul, 1) := by decide +kernel
theorem dX1_transact_50 : decode cX1_transact 50 = .ok (.bipush 16, 2) := by decide +kernel
theorem dX1_transact_52 : decode cX1_transact 52 = .ok (.iload_n 2, 1) := by decide +kernel
theorem dX1_transact_53 : decode cX1_transact 53 = .ok (.imul, 1) := by decide +kernel
theorem dX1_transact_54 : decode cX1_transact 54 = .ok (.iadd, 1) := by decide +kernel
theorem dX1_transact_55 : decode cX1_transact 55 = .ok (.iload_n 3, 1) := by decide +kernel
theorem dX1_transact_56 : decode cX1_transact 56 = .ok (.iadd, 1) := by decide +kernel
theorem dX1_transact_57 : decode cX1_transact 57 = .ok (.iastore, 1) := by decide +kernel
theorem dX1_transact_58 : decode cX1_transact 58 = .ok (.aload_n 0, 1) := by decide +kernel
theorem dX1_transact_59 : decode cX1_transact 59 = .ok (.dup, 1) := by decide +kernel
theorem dX1_transact_60 : decode cX1_transact 60 = .ok (.getfield 32, 3) := by decide +kernel
theorem dX1_transact_63 : decode cX1_transact 63 = .ok (.iconst 1, 1) := by decide +kernel
theorem dX1_transact_64 : decode cX1_transact 64 = .ok (.iadd, 1) := by decide +kernel
theorem dX1_transact_65 : decode cX1_transact 65 = .ok (.putfield 32, 3) := by decide +kernel
theorem dX1_transact_68 : decode cX1_transact 68 = .ok (.return_, 1) := by decide +kernel
theorem dX1_toMemory_0 : decode cX1_toMemory 0 = .ok (.iconst 0, 1) := by decide +kernel
theorem dX1_toMemory_1 : decode cX1_toMemory 1 = .ok (.istore_n 3, 1) := by decide +kernel
theorem dX1_toMemory_2 : decode cX1_toMemory 2 = .ok (.iload_n 3, 1) := by decide +kernel
theorem dX1_toMemory_3 : decode cX1_toMemory 3 = .ok (.iconst 2, 1) := by decide +kernel
theorem dX1_toMemory_4 : decode cX1_toMemory 4 = .ok (.if_icmp .ge 34, 3) := by decide +kernel
theorem dX1_toMemory_7 : decode cX1_toMemory 7 = .ok (.aload_n 0, 1) := by decide +kernel
theorem dX1_toMemory_8 : decode cX1_toMemory 8 = .ok (.getfield 16, 3) := by decide +kernel
theorem dX1_toMemory_11 : decode cX1_toMemory 11 = .ok (.iconst 2, 1) := by decide +kernel
theorem dX1_toMemory_12 : decode cX1_toMemory 12 = .ok (.iload_n 2, 1) := by decide +kernel
theorem dX1_toMemory_13 : decode cX1_toMemory 13 = .ok (.imul, 1) := by decide +kernel
theorem dX1_toMemory_14 : decode cX1_toMemory 14 = .ok (.iload_n 3, 1) := by decide +kernel
theorem dX1_toMemory_15 : decode cX1_toMemory 15 = .ok (.iadd, 1) := by decide +kernel
theorem dX1_toMemory_16 : decode cX1_toMemory 16 = .ok (.aload_n 0, 1) := by decide +kernel
theorem dX1_toMemory_17 : decode cX1_toMemory 17 = .ok (.getfield 13, 3) := by decide +kernel
theorem dX1_toMemory_20 : decode cX1_toMemory 20 = .ok (.bipush 32, 2) := by decide +kernel
theorem dX1_toMemory_22 : decode cX1_toMemory 22 = .ok (.iload_n 1, 1) := by decide +kernel
theorem dX1_toMemory_23 : decode cX1_toMemory 23 = .ok (.imul, 1) := by decide +kernel
theorem dX1_toMemory_24 : decode cX1_toMemory 24 = .ok (.iconst 2, 1) := by decide +kernel
theorem dX1_toMemory_25 : decode cX1_toMemory 25 = .ok (.iload_n 2, 1) := by decide +kernel
theorem dX1_toMemory_26 : decode cX1_toMemory 26 = .ok (.imul, 1) := by decide +kernel
theorem dX1_toMemory_27 : decode cX1_toMemory 27 = .ok (.iadd, 1) := by decide +kernel
theorem dX1_toMemory_28 : decode cX1_toMemory 28 = .ok (.iload_n 3, 1) := by decide +kernel
theorem dX1_toMemory_29 : decode cX1_toMemory 29 = .ok (.iadd, 1) := by decide +kernel
theorem dX1_toMemory_30 : decode cX1_toMemory 30 = .ok (.iaload, 1) := by decide +kernel
theorem dX1_toMemory_31 : decode cX1_toMemory 31 = .ok (.iastore, 1) := by decide +kernel
theorem dX1_toMemory_32 : decode cX1_toMemory 32 = .ok (.iinc 3 1, 3) := by decide +kernel
theorem dX1_toMemory_35 : decode cX1_toMemory 35 = .ok (.goto (-33), 3) := by decide +kernel
theorem dX1_toMemory_38 : decode cX1_toMemory 38 = .ok (.return_, 1) := by decide +kernel
theorem dX1_empty_0 : decode cX1_empty 0 = .ok (.aload_n 0, 1) := by decide +kernel
theorem dX1_empty_1 : decode cX1_empty 1 = .ok (.iload_n 1, 1) := by decide +kernel
theorem dX1_empty_2 : decode cX1_empty 2 = .ok (.iload_n 2, 1) := by decide +kernel
theorem dX1_empty_3 : decode cX1_empty 3 = .ok (.invokevirtual 41, 3) := by decide +kernel
theorem dX1_empty_6 : decode cX1_empty 6 = .ok (.iconst 3, 1) := by decide +kernel
theorem dX1_empty_7 : decode cX1_empty 7 = .ok (.if_icmp .lt 7, 3) := by decide +kernel
theorem dX1_empty_10 : decode cX1_empty 10 = .ok (.iconst 1, 1) := by decide +kernel
theorem dX1_empty_11 : decode cX1_empty 11 = .ok (.goto 4, 3) := by decide +kernel
theorem dX1_empty_14 : decode cX1_empty 14 = .ok (.iconst 0, 1) := by decide +kernel
theorem dX1_empty_15 : decode cX1_empty 15 = .ok (.istore_n 3, 1) := by decide +kernel
theorem dX1_empty_16 : decode cX1_empty 16 = .ok (.iload_n 3, 1) := by decide +kernel
theorem dX1_empty_17 : decode cX1_empty 17 = .ok (.ifCond .eq 16, 3) := by decide +kernel
theorem dX1_empty_20 : decode cX1_empty 20 = .ok (.aload_n 0, 1) := by decide +kernel
theorem dX1_empty_21 : decode cX1_empty 21 = .ok (.iconst 4, 1) := by decide +kernel
theorem dX1_empty_22 : decode cX1_empty 22 = .ok (.iload_n 1, 1) := by decide +kernel
theorem dX1_empty_23 : decode cX1_empty 23 = .ok (.iload_n 2, 1) := by decide +kernel
theorem dX1_empty_24 : decode cX1_empty 24 = .ok (.invokevirtual 45, 3) := by decide +kernel
theorem dX1_empty_27 : decode cX1_empty 27 = .ok (.aload_n 0, 1) := by decide +kernel
theorem dX1_empty_28 : decode cX1_empty 28 = .ok (.iload_n 1, 1) := by decide +kernel
theorem dX1_empty_29 : decode cX1_empty 29 = .ok (.iload_n 2, 1) := by decide +kernel
theorem dX1_empty_30 : decode cX1_empty 30 = .ok (.invokevirtual 49, 3) := by decide +kernel
theorem dX1_empty_33 : decode cX1_empty 33 = .ok (.aload_n 0, 1) := by decide +kernel
theorem dX1_empty_34 : decode cX1_empty 34 = .ok (.iload_n 1, 1) := by decide +kernel
theorem dX1_empty_35 : decode cX1_empty 35 = .ok (.iload_n 2, 1) := by decide +kernel
theorem dX1_empty_36 : decode cX1_empty 36 = .ok (.iconst 0, 1) := by decide +kernel
theorem dX1_empty_37 : decode cX1_empty 37 = .ok (.invokevirtual 53, 3) := by decide +kernel
theorem dX1_empty_40 : decode cX1_empty 40 = .ok (.iload_n 3, 1) := by decide +kernel
theorem dX1_empty_41 : decode cX1_empty 41 = .ok (.ireturn, 1) := by decide +kernel
theorem dX1_others_0 : decode cX1_others 0 = .ok (.iconst 0, 1) := by decide +kernel
theorem dX1_others_1 : decode cX1_others 1 = .ok (.istore_n 3, 1) := by decide +kernel
theorem dX1_others_2 : decode cX1_others 2 = .ok (.iconst 0, 1) := by decide +kernel
theorem dX1_others_3 : decode cX1_others 3 = .ok (.istore 4, 2) := by decide +kernel
theorem dX1_others_5 : decode cX1_others 5 = .ok (.iload 4, 2) := by decide +kernel
theorem dX1_others_7 : decode cX1_others 7 = .ok (.iconst 4, 1) := by decide +kernel
theorem dX1_others_8 : decode cX1_others 8 = .ok (.if_icmp .ge 28, 3) := by decide +kernel
theorem dX1_others_11 : decode cX1_others 11 = .ok (.iload 4, 2) := by decide +kernel
theorem dX1_others_13 : decode cX1_others 13 = .ok (.iload_n 1, 1) := by decide +kernel
theorem dX1_others_14 : decode cX1_others 14 = .ok (.if_icmp .eq 16, 3) := by decide +kernel
theorem dX1_others_17 : decode cX1_others 17 = .ok (.aload_n 0, 1) := by decide +kernel
theorem dX1_others_18 : decode cX1_others 18 = .ok (.iload 4, 2) := by decide +kernel
theorem dX1_others_20 : decode cX1_others 20 = .ok (.iload_n 2, 1) := by decide +kernel
theorem dX1_others_21 : decode cX1_others 21 = .ok (.invokevirtual 41, 3) := by decide +kernel
theorem dX1_others_24 : decode cX1_others 24 = .ok (.ifCond .le 6, 3) := by decide +kernel
theorem dX1_others_27 : decode cX1_others 27 = .ok (.iinc 3 1, 3) := by decide +kernel
theorem dX1_others_30 : decode cX1_others 30 = .ok (.iinc 4 1, 3) := by decide +kernel
theorem dX1_others_33 : decode cX1_others 33 = .ok (.goto (-28), 3) := by decide +kernel
theorem dX1_others_36 : decode cX1_others 36 = .ok (.iload_n 3, 1) := by decide +kernel
theorem dX1_others_37 : decode cX1_others 37 = .ok (.ireturn, 1) := by decide +kernel
theorem dX1_dirtyHolder_0 : decode cX1_dirtyHolder 0 = .ok (.iconst 0, 1) := by decide +kernel
theorem dX1_dirtyHolder_1 : decode cX1_dirtyHolder 1 = .ok (.istore_n 2, 1) := by decide +kernel
theorem dX1_dirtyHolder_2 : decode cX1_dirtyHolder 2 = .ok (.iload_n 2, 1) := by decide +kernel
theorem dX1_dirtyHolder_3 : decode cX1_dirtyHolder 3 = .ok (.iconst 4, 1) := by decide +kernel
theorem dX1_dirtyHolder_4 : decode cX1_dirtyHolder 4 = .ok (.if_icmp .ge 21, 3) := by decide +kernel
theorem dX1_dirtyHolder_7 : decode cX1_dirtyHolder 7 = .ok (.aload_n 0, 1) := by decide +kernel
theorem dX1_dirtyHolder_8 : decode cX1_dirtyHolder 8 = .ok (.iload_n 2, 1) := by decide +kernel
theorem dX1_dirtyHolder_9 : decode cX1_dirtyHolder 9 = .ok (.iload_n 1, 1) := by decide +kernel
theorem dX1_dirtyHolder_10 : decode cX1_dirtyHolder 10 = .ok (.invokevirtual 41, 3) := by decide +kernel
theorem dX1_dirtyHolder_13 : decode cX1_dirtyHolder 13 = .ok (.iconst 3, 1) := by decide +kernel
theorem dX1_dirtyHolder_14 : decode cX1_dirtyHolder 14 = .ok (.if_icmp .lt 5, 3) := by decide +kernel
theorem dX1_dirtyHolder_17 : decode cX1_dirtyHolder 17 = .ok (.iload_n 2, 1) := by decide +kernel
theorem dX1_dirtyHolder_18 : decode cX1_dirtyHolder 18 = .ok (.ireturn, 1) := by decide +kernel
theorem dX1_dirtyHolder_19 : decode cX1_dirtyHolder 19 = .ok (.iinc 2 1, 3) := by decide +kernel
theorem dX1_dirtyHolder_22 : decode cX1_dirtyHolder 22 = .ok (.goto (-20), 3) := by decide +kernel
theorem dX1_dirtyHolder_25 : decode cX1_dirtyHolder 25 = .ok (.iconst (-1), 1) := by decide +kernel
theorem dX1_dirtyHolder_26 : decode cX1_dirtyHolder 26 = .ok (.ireturn, 1) := by decide +kernel
theorem dX1_emptyOthers_0 : decode cX1_emptyOthers 0 = .ok (.iconst 0, 1) := by decide +kernel
theorem dX1_emptyOthers_1 : decode cX1_emptyOthers 1 = .ok (.istore_n 3, 1) := by decide +kernel
theorem dX1_emptyOthers_2 : decode cX1_emptyOthers 2 = .ok (.iload_n 3, 1) := by decide +kernel
theorem dX1_emptyOthers_3 : decode cX1_emptyOthers 3 = .ok (.iconst 4, 1) := by decide +kernel
theorem dX1_emptyOthers_4 : decode cX1_emptyOthers 4 = .ok (.if_icmp .ge 21, 3) := by decide +kernel
theorem dX1_emptyOthers_7 : decode cX1_emptyOthers 7 = .ok (.iload_n 3, 1) := by decide +kernel
theorem dX1_emptyOthers_8 : decode cX1_emptyOthers 8 = .ok (.iload_n 1, 1) := by decide +kernel
theorem dX1_emptyOthers_9 : decode cX1_emptyOthers 9 = .ok (.if_icmp .eq 10, 3) := by decide +kernel
theorem dX1_emptyOthers_12 : decode cX1_emptyOthers 12 = .ok (.aload_n 0, 1) := by decide +kernel
theorem dX1_emptyOthers_13 : decode cX1_emptyOthers 13 = .ok (.iload_n 3, 1) := by decide +kernel
theorem dX1_emptyOthers_14 : decode cX1_emptyOthers 14 = .ok (.iload_n 2, 1) := by decide +kernel
theorem dX1_emptyOthers_15 : decode cX1_emptyOthers 15 = .ok (.iconst 0, 1) := by decide +kernel
theorem dX1_emptyOthers_16 : decode cX1_emptyOthers 16 = .ok (.invokevirtual 53, 3) := by decide +kernel
theorem dX1_emptyOthers_19 : decode cX1_emptyOthers 19 = .ok (.iinc 3 1, 3) := by decide +kernel
theorem dX1_emptyOthers_22 : decode cX1_emptyOthers 22 = .ok (.goto (-20), 3) := by decide +kernel
theorem dX1_emptyOthers_25 : decode cX1_emptyOthers 25 = .ok (.return_, 1) := by decide +kernel
theorem dX1_load_0 : decode cX1_load 0 = .ok (.iconst 0, 1) := by decide +kernel
theorem dX1_load_1 : decode cX1_load 1 = .ok (.istore 4, 2) := by decide +kernel
theorem dX1_load_3 : decode cX1_load 3 = .ok (.iload_n 2, 1) := by decide +kernel
theorem dX1_load_4 : decode cX1_load 4 = .ok (.iconst 2, 1) := by decide +kernel
theorem dX1_load_5 : decode cX1_load 5 = .ok (.irem, 1) := by decide +kernel
theorem dX1_load_6 : decode cX1_load 6 = .ok (.istore 5, 2) := by decide +kernel
theorem dX1_load_8 : decode cX1_load 8 = .ok (.iload 5, 2) := by decide +kernel
theorem dX1_load_10 : decode cX1_load 10 = .ok (.bipush 16, 2) := by decide +kernel
theorem dX1_load_12 : decode cX1_load 12 = .ok (.if_icmp .ge 28, 3) := by decide +kernel
theorem dX1_load_15 : decode cX1_load 15 = .ok (.aload_n 0, 1) := by decide +kernel
theorem dX1_load_16 : decode cX1_load 16 = .ok (.iload_n 1, 1) := by decide +kernel
theorem dX1_load_17 : decode cX1_load 17 = .ok (.iload 5, 2) := by decide +kernel
theorem dX1_load_19 : decode cX1_load 19 = .ok (.invokevirtual 41, 3) := by decide +kernel
theorem dX1_load_22 : decode cX1_load 22 = .ok (.ifCond .le 12, 3) := by decide +kernel
theorem dX1_load_25 : decode cX1_load 25 = .ok (.aload_n 0, 1) := by decide +kernel
theorem dX1_load_26 : decode cX1_load 26 = .ok (.iload_n 1, 1) := by decide +kernel
theorem dX1_load_27 : decode cX1_load 27 = .ok (.iload 5, 2) := by decide +kernel
theorem dX1_load_29 : decode cX1_load 29 = .ok (.invokevirtual 56, 3) := by decide +kernel
theorem dX1_load_32 : decode cX1_load 32 = .ok (.istore 4, 2) := by decide +kernel
theorem dX1_load_34 : decode cX1_load 34 = .ok (.iinc 5 2, 3) := by decide +kernel
theorem dX1_load_37 : decode cX1_load 37 = .ok (.goto (-29), 3) := by decide +kernel
theorem dX1_load_40 : decode cX1_load 40 = .ok (.aload_n 0, 1) := by decide +kernel
theorem dX1_load_41 : decode cX1_load 41 = .ok (.iload_n 3, 1) := by decide +kernel
theorem dX1_load_42 : decode cX1_load 42 = .ok (.iload_n 1, 1) := by decide +kernel
theorem dX1_load_43 : decode cX1_load 43 = .ok (.iload_n 2, 1) := by decide +kernel
theorem dX1_load_44 : decode cX1_load 44 = .ok (.invokevirtual 45, 3) := by decide +kernel
theorem dX1_load_47 : decode cX1_load 47 = .ok (.aload_n 0, 1) := by decide +kernel
theorem dX1_load_48 : decode cX1_load 48 = .ok (.iload_n 2, 1) := by decide +kernel
theorem dX1_load_49 : decode cX1_load 49 = .ok (.invokevirtual 60, 3) := by decide +kernel
theorem dX1_load_52 : decode cX1_load 52 = .ok (.istore 5, 2) := by decide +kernel
theorem dX1_load_54 : decode cX1_load 54 = .ok (.iconst 0, 1) := by decide +kernel
theorem dX1_load_55 : decode cX1_load 55 = .ok (.istore 6, 2) := by decide +kernel
theorem dX1_load_57 : decode cX1_load 57 = .ok (.iload 6, 2) := by decide +kernel
theorem dX1_load_59 : decode cX1_load 59 = .ok (.iconst 2, 1) := by decide +kernel
theorem dX1_load_60 : decode cX1_load 60 = .ok (.if_icmp .ge 57, 3) := by decide +kernel
theorem dX1_load_63 : decode cX1_load 63 = .ok (.iconst 2, 1) := by decide +kernel
theorem dX1_load_64 : decode cX1_load 64 = .ok (.iload_n 2, 1) := by decide +kernel
theorem dX1_load_65 : decode cX1_load 65 = .ok (.imul, 1) := by decide +kernel
theorem dX1_load_66 : decode cX1_load 66 = .ok (.iload 6, 2) := by decide +kernel
theorem dX1_load_68 : decode cX1_load 68 = .ok (.iadd, 1) := by decide +kernel
theorem dX1_load_69 : decode cX1_load 69 = .ok (.istore 7, 2) := by decide +kernel
theorem dX1_load_71 : decode cX1_load 71 = .ok (.aload_n 0, 1) := by decide +kernel
theorem dX1_load_72 : decode cX1_load 72 = .ok (.getfield 13, 3) := by decide +kernel
theorem dX1_load_75 : decode cX1_load 75 = .ok (.bipush 32, 2) := by decide +kernel
theorem dX1_load_77 : decode cX1_load 77 = .ok (.iload_n 1, 1) := by decide +kernel
theorem dX1_load_78 : decode cX1_load 78 = .ok (.imul, 1) := by decide +kernel
theorem dX1_load_79 : decode cX1_load 79 = .ok (.iload 7, 2) := by decide +kernel
theorem dX1_load_81 : decode cX1_load 81 = .ok (.iadd, 1) := by decide +kernel
theorem dX1_load_82 : decode cX1_load 82 = .ok (.iload 5, 2) := by decide +kernel
theorem dX1_load_84 : decode cX1_load 84 = .ok (.ifCond .lt 19, 3) := by decide +kernel
theorem dX1_load_87 : decode cX1_load 87 = .ok (.aload_n 0, 1) := by decide +kernel
theorem dX1_load_88 : decode cX1_load 88 = .ok (.getfield 13, 3) := by decide +kernel
theorem dX1_load_91 : decode cX1_load 91 = .ok (.bipush 32, 2) := by decide +kernel
theorem dX1_load_93 : decode cX1_load 93 = .ok (.iload 5, 2) := by decide +kernel
theorem dX1_load_95 : decode cX1_load 95 = .ok (.imul, 1) := by decide +kernel
theorem dX1_load_96 : decode cX1_load 96 = .ok (.iload 7, 2) := by decide +kernel
theorem dX1_load_98 : decode cX1_load 98 = .ok (.iadd, 1) := by decide +kernel
theorem dX1_load_99 : decode cX1_load 99 = .ok (.iaload, 1) := by decide +kernel
theorem dX1_load_100 : decode cX1_load 100 = .ok (.goto 10, 3) := by decide +kernel
theorem dX1_load_103 : decode cX1_load 103 = .ok (.aload_n 0, 1) := by decide +kernel
theorem dX1_load_104 : decode cX1_load 104 = .ok (.getfield 16, 3) := by decide +kernel
theorem dX1_load_107 : decode cX1_load 107 = .ok (.iload 7, 2) := by decide +kernel
theorem dX1_load_109 : decode cX1_load 109 = .ok (.iaload, 1) := by decide +kernel
theorem dX1_load_110 : decode cX1_load 110 = .ok (.iastore, 1) := by decide +kernel
theorem dX1_load_111 : decode cX1_load 111 = .ok (.iinc 6 1, 3) := by decide +kernel
theorem dX1_load_114 : decode cX1_load 114 = .ok (.goto (-57), 3) := by decide +kernel
theorem dX1_load_117 : decode cX1_load 117 = .ok (.iload_n 3, 1) := by decide +kernel
theorem dX1_load_118 : decode cX1_load 118 = .ok (.iconst 1, 1) := by decide +kernel
theorem dX1_load_119 : decode cX1_load 119 = .ok (.if_icmp .ne 17, 3) := by decide +kernel
theorem dX1_load_122 : decode cX1_load 122 = .ok (.aload_n 0, 1) := by decide +kernel
theorem dX1_load_123 : decode cX1_load 123 = .ok (.iload_n 1, 1) := by decide +kernel
theorem dX1_load_124 : decode cX1_load 124 = .ok (.iload_n 2, 1) := by decide +kernel
theorem dX1_load_125 : decode cX1_load 125 = .ok (.invokevirtual 64, 3) := by decide +kernel
theorem dX1_load_128 : decode cX1_load 128 = .ok (.aload_n 0, 1) := by decide +kernel
theorem dX1_load_129 : decode cX1_load 129 = .ok (.iload_n 1, 1) := by decide +kernel
theorem dX1_load_130 : decode cX1_load 130 = .ok (.iload_n 2, 1) := by decide +kernel
theorem dX1_load_131 : decode cX1_load 131 = .ok (.iconst 4, 1) := by decide +kernel
theorem dX1_load_132 : decode cX1_load 132 = .ok (.invokevirtual 53, 3) := by decide +kernel
theorem dX1_load_135 : decode cX1_load 135 = .ok (.return_, 1) := by decide +kernel
theorem dX1_load_136 : decode cX1_load 136 = .ok (.aload_n 0, 1) := by decide +kernel
theorem dX1_load_137 : decode cX1_load 137 = .ok (.iload_n 1, 1) := by decide +kernel
theorem dX1_load_138 : decode cX1_load 138 = .ok (.iload_n 2, 1) := by decide +kernel
theorem dX1_load_139 : decode cX1_load 139 = .ok (.invokevirtual 67, 3) := by decide +kernel
theorem dX1_load_142 : decode cX1_load 142 = .ok (.ifCond .ne 7, 3) := by decide +kernel
theorem dX1_load_145 : decode cX1_load 145 = .ok (.iconst 1, 1) := by decide +kernel
theorem dX1_load_146 : decode cX1_load 146 = .ok (.goto 4, 3) := by decide +kernel
theorem dX1_load_149 : decode cX1_load 149 = .ok (.iconst 0, 1) := by decide +kernel
theorem dX1_load_150 : decode cX1_load 150 = .ok (.istore 6, 2) := by decide +kernel
theorem dX1_load_152 : decode cX1_load 152 = .ok (.aload_n 0, 1) := by decide +kernel
theorem dX1_load_153 : decode cX1_load 153 = .ok (.getfield 25, 3) := by decide +kernel
theorem dX1_load_156 : decode cX1_load 156 = .ok (.iconst 2, 1) := by decide +kernel
theorem dX1_load_157 : decode cX1_load 157 = .ok (.if_icmp .ge 15, 3) := by decide +kernel
theorem dX1_load_160 : decode cX1_load 160 = .ok (.iload 5, 2) := by decide +kernel
theorem dX1_load_162 : decode cX1_load 162 = .ok (.ifCond .lt 10, 3) := by decide +kernel
theorem dX1_load_165 : decode cX1_load 165 = .ok (.aload_n 0, 1) := by decide +kernel
theorem dX1_load_166 : decode cX1_load 166 = .ok (.iload 5, 2) := by decide +kernel
theorem dX1_load_168 : decode cX1_load 168 = .ok (.iload_n 2, 1) := by decide +kernel
theorem dX1_load_169 : decode cX1_load 169 = .ok (.invokevirtual 49, 3) := by decide +kernel
theorem dX1_load_172 : decode cX1_load 172 = .ok (.iconst 0, 1) := by decide +kernel
theorem dX1_load_173 : decode cX1_load 173 = .ok (.istore 7, 2) := by decide +kernel
theorem dX1_load_175 : decode cX1_load 175 = .ok (.iload 7, 2) := by decide +kernel
theorem dX1_load_177 : decode cX1_load 177 = .ok (.iconst 4, 1) := by decide +kernel
theorem dX1_load_178 : decode cX1_load 178 = .ok (.if_icmp .ge 82, 3) := by decide +kernel
theorem dX1_load_181 : decode cX1_load 181 = .ok (.aload_n 0, 1) := by decide +kernel
theorem dX1_load_182 : decode cX1_load 182 = .ok (.iload 7, 2) := by decide +kernel
theorem dX1_load_184 : decode cX1_load 184 = .ok (.iload_n 2, 1) := by decide +kernel
theorem dX1_load_185 : decode cX1_load 185 = .ok (.invokevirtual 41, 3) := by decide +kernel
theorem dX1_load_188 : decode cX1_load 188 = .ok (.istore 8, 2) := by decide +kernel
theorem dX1_load_190 : decode cX1_load 190 = .ok (.iload 7, 2) := by decide +kernel
theorem dX1_load_192 : decode cX1_load 192 = .ok (.iload_n 1, 1) := by decide +kernel
theorem dX1_load_193 : decode cX1_load 193 = .ok (.if_icmp .eq 61, 3) := by decide +kernel
theorem dX1_load_196 : decode cX1_load 196 = .ok (.iload 8, 2) := by decide +kernel
theorem dX1_load_198 : decode cX1_load 198 = .ok (.ifCond .ne 6, 3) := by decide +kernel
theorem dX1_load_201 : decode cX1_load 201 = .ok (.goto 53, 3) := by decide +kernel
theorem dX1_load_204 : decode cX1_load 204 = .ok (.aload_n 0, 1) := by decide +kernel
theorem dX1_load_205 : decode cX1_load 205 = .ok (.getfield 25, 3) := by decide +kernel
theorem dX1_load_208 : decode cX1_load 208 = .ok (.iconst 2, 1) := by decide +kernel
theorem dX1_load_209 : decode cX1_load 209 = .ok (.if_icmp .ge 14, 3) := by decide +kernel
theorem dX1_load_212 : decode cX1_load 212 = .ok (.aload_n 0, 1) := by decide +kernel
theorem dX1_load_213 : decode cX1_load 213 = .ok (.iload 7, 2) := by decide +kernel
theorem dX1_load_215 : decode cX1_load 215 = .ok (.iload_n 2, 1) := by decide +kernel
theorem dX1_load_216 : decode cX1_load 216 = .ok (.iconst 1, 1) := by decide +kernel
theorem dX1_load_217 : decode cX1_load 217 = .ok (.invokevirtual 53, 3) := by decide +kernel
theorem dX1_load_220 : decode cX1_load 220 = .ok (.goto 34, 3) := by decide +kernel
theorem dX1_load_223 : decode cX1_load 223 = .ok (.iload 8, 2) := by decide +kernel
theorem dX1_load_225 : decode cX1_load 225 = .ok (.iconst 4, 1) := by decide +kernel
theorem dX1_load_226 : decode cX1_load 226 = .ok (.if_icmp .ne 14, 3) := by decide +kernel
theorem dX1_load_229 : decode cX1_load 229 = .ok (.aload_n 0, 1) := by decide +kernel
theorem dX1_load_230 : decode cX1_load 230 = .ok (.iload 7, 2) := by decide +kernel
theorem dX1_load_232 : decode cX1_load 232 = .ok (.iload_n 2, 1) := by decide +kernel
theorem dX1_load_233 : decode cX1_load 233 = .ok (.iconst 3, 1) := by decide +kernel
theorem dX1_load_234 : decode cX1_load 234 = .ok (.invokevirtual 53, 3) := by decide +kernel
theorem dX1_load_237 : decode cX1_load 237 = .ok (.goto 17, 3) := by decide +kernel
theorem dX1_load_240 : decode cX1_load 240 = .ok (.iload 8, 2) := by decide +kernel
theorem dX1_load_242 : decode cX1_load 242 = .ok (.iconst 2, 1) := by decide +kernel
theorem dX1_load_243 : decode cX1_load 243 = .ok (.if_icmp .ne 11, 3) := by decide +kernel
theorem dX1_load_246 : decode cX1_load 246 = .ok (.aload_n 0, 1) := by decide +kernel
theorem dX1_load_247 : decode cX1_load 247 = .ok (.iload 7, 2) := by decide +kernel
theorem dX1_load_249 : decode cX1_load 249 = .ok (.iload_n 2, 1) := by decide +kernel
theorem dX1_load_250 : decode cX1_load 250 = .ok (.iconst 1, 1) := by decide +kernel
theorem dX1_load_251 : decode cX1_load 251 = .ok (.invokevirtual 53, 3) := by decide +kernel
theorem dX1_load_254 : decode cX1_load 254 = .ok (.iinc 7 1, 3) := by decide +kernel
theorem dX1_load_257 : decode cX1_load 257 = .ok (.goto (-82), 3) := by decide +kernel
theorem dX1_load_260 : decode cX1_load 260 = .ok (.aload_n 0, 1) := by decide +kernel
theorem dX1_load_261 : decode cX1_load 261 = .ok (.iload_n 1, 1) := by decide +kernel
theorem dX1_load_262 : decode cX1_load 262 = .ok (.iload_n 2, 1) := by decide +kernel
theorem dX1_load_263 : decode cX1_load 263 = .ok (.aload_n 0, 1) := by decide +kernel
theorem dX1_load_264 : decode cX1_load 264 = .ok (.getfield 25, 3) := by decide +kernel
theorem dX1_load_267 : decode cX1_load 267 = .ok (.ifCond .le 12, 3) := by decide +kernel
theorem dX1_load_270 : decode cX1_load 270 = .ok (.iload 6, 2) := by decide +kernel
theorem dX1_load_272 : decode cX1_load 272 = .ok (.ifCond .eq 7, 3) := by decide +kernel
theorem dX1_load_275 : decode cX1_load 275 = .ok (.iconst 2, 1) := by decide +kernel
theorem dX1_load_276 : decode cX1_load 276 = .ok (.goto 4, 3) := by decide +kernel
theorem dX1_load_279 : decode cX1_load 279 = .ok (.iconst 1, 1) := by decide +kernel
theorem dX1_load_280 : decode cX1_load 280 = .ok (.invokevirtual 53, 3) := by decide +kernel
theorem dX1_load_283 : decode cX1_load 283 = .ok (.return_, 1) := by decide +kernel
theorem dX1_hit_0 : decode cX1_hit 0 = .ok (.aload_n 0, 1) := by decide +kernel
theorem dX1_hit_1 : decode cX1_hit 1 = .ok (.iload_n 1, 1) := by decide +kernel
theorem dX1_hit_2 : decode cX1_hit 2 = .ok (.iload_n 2, 1) := by decide +kernel
theorem dX1_hit_3 : decode cX1_hit 3 = .ok (.invokevirtual 41, 3) := by decide +kernel
theorem dX1_hit_6 : decode cX1_hit 6 = .ok (.ifCond .le 7, 3) := by decide +kernel
theorem dX1_hit_9 : decode cX1_hit 9 = .ok (.iconst 1, 1) := by decide +kernel
theorem dX1_hit_10 : decode cX1_hit 10 = .ok (.goto 4, 3) := by decide +kernel
theorem dX1_hit_13 : decode cX1_hit 13 = .ok (.iconst 0, 1) := by decide +kernel
theorem dX1_hit_14 : decode cX1_hit 14 = .ok (.istore_n 3, 1) := by decide +kernel
theorem dX1_hit_15 : decode cX1_hit 15 = .ok (.iload_n 3, 1) := by decide +kernel
theorem dX1_hit_16 : decode cX1_hit 16 = .ok (.ifCond .eq 16, 3) := by decide +kernel
theorem dX1_hit_19 : decode cX1_hit 19 = .ok (.aload_n 0, 1) := by decide +kernel
theorem dX1_hit_20 : decode cX1_hit 20 = .ok (.dup, 1) := by decide +kernel
theorem dX1_hit_21 : decode cX1_hit 21 = .ok (.getfield 35, 3) := by decide +kernel
theorem dX1_hit_24 : decode cX1_hit 24 = .ok (.iconst 1, 1) := by decide +kernel
theorem dX1_hit_25 : decode cX1_hit 25 = .ok (.iadd, 1) := by decide +kernel
theorem dX1_hit_26 : decode cX1_hit 26 = .ok (.putfield 35, 3) := by decide +kernel
theorem dX1_hit_29 : decode cX1_hit 29 = .ok (.goto 13, 3) := by decide +kernel
theorem dX1_hit_32 : decode cX1_hit 32 = .ok (.aload_n 0, 1) := by decide +kernel
theorem dX1_hit_33 : decode cX1_hit 33 = .ok (.dup, 1) := by decide +kernel
theorem dX1_hit_34 : decode cX1_hit 34 = .ok (.getfield 38, 3) := by decide +kernel
theorem dX1_hit_37 : decode cX1_hit 37 = .ok (.iconst 1, 1) := by decide +kernel
theorem dX1_hit_38 : decode cX1_hit 38 = .ok (.iadd, 1) := by decide +kernel
theorem dX1_hit_39 : decode cX1_hit 39 = .ok (.putfield 38, 3) := by decide +kernel
theorem dX1_hit_42 : decode cX1_hit 42 = .ok (.iload_n 3, 1) := by decide +kernel
theorem dX1_hit_43 : decode cX1_hit 43 = .ok (.ireturn, 1) := by decide +kernel
theorem dX1_read_0 : decode cX1_read 0 = .ok (.aload_n 0, 1) := by decide +kernel
theorem dX1_read_1 : decode cX1_read 1 = .ok (.iload_n 1, 1) := by decide +kernel
theorem dX1_read_2 : decode cX1_read 2 = .ok (.iconst 3, 1) := by decide +kernel
theorem dX1_read_3 : decode cX1_read 3 = .ok (.invokestatic 70, 3) := by decide +kernel
theorem dX1_read_6 : decode cX1_read 6 = .ok (.ifCond .eq 16, 3) := by decide +kernel
theorem dX1_read_9 : decode cX1_read 9 = .ok (.iload_n 2, 1) := by decide +kernel
theorem dX1_read_10 : decode cX1_read 10 = .ok (.bipush 31, 2) := by decide +kernel
theorem dX1_read_12 : decode cX1_read 12 = .ok (.invokestatic 70, 3) := by decide +kernel
theorem dX1_read_15 : decode cX1_read 15 = .ok (.ifCond .eq 7, 3) := by decide +kernel
theorem dX1_read_18 : decode cX1_read 18 = .ok (.iconst 0, 1) := by decide +kernel
theorem dX1_read_19 : decode cX1_read 19 = .ok (.goto 4, 3) := by decide +kernel
theorem dX1_read_22 : decode cX1_read 22 = .ok (.iconst 1, 1) := by decide +kernel
theorem dX1_read_23 : decode cX1_read 23 = .ok (.putfield 29, 3) := by decide +kernel
theorem dX1_read_26 : decode cX1_read 26 = .ok (.aload_n 0, 1) := by decide +kernel
theorem dX1_read_27 : decode cX1_read 27 = .ok (.getfield 29, 3) := by decide +kernel
theorem dX1_read_30 : decode cX1_read 30 = .ok (.ifCond .le 5, 3) := by decide +kernel
theorem dX1_read_33 : decode cX1_read 33 = .ok (.iconst 0, 1) := by decide +kernel
theorem dX1_read_34 : decode cX1_read 34 = .ok (.ireturn, 1) := by decide +kernel
theorem dX1_read_35 : decode cX1_read 35 = .ok (.iload_n 2, 1) := by decide +kernel
theorem dX1_read_36 : decode cX1_read 36 = .ok (.iconst 2, 1) := by decide +kernel
theorem dX1_read_37 : decode cX1_read 37 = .ok (.idiv, 1) := by decide +kernel
theorem dX1_read_38 : decode cX1_read 38 = .ok (.istore_n 3, 1) := by decide +kernel
theorem dX1_read_39 : decode cX1_read 39 = .ok (.aload_n 0, 1) := by decide +kernel
theorem dX1_read_40 : decode cX1_read 40 = .ok (.iload_n 1, 1) := by decide +kernel
theorem dX1_read_41 : decode cX1_read 41 = .ok (.iload_n 3, 1) := by decide +kernel
theorem dX1_read_42 : decode cX1_read 42 = .ok (.invokevirtual 73, 3) := by decide +kernel
theorem dX1_read_45 : decode cX1_read 45 = .ok (.ifCond .ne 10, 3) := by decide +kernel
theorem dX1_read_48 : decode cX1_read 48 = .ok (.aload_n 0, 1) := by decide +kernel
theorem dX1_read_49 : decode cX1_read 49 = .ok (.iload_n 1, 1) := by decide +kernel
theorem dX1_read_50 : decode cX1_read 50 = .ok (.iload_n 3, 1) := by decide +kernel
theorem dX1_read_51 : decode cX1_read 51 = .ok (.iconst 0, 1) := by decide +kernel
theorem dX1_read_52 : decode cX1_read 52 = .ok (.invokevirtual 76, 3) := by decide +kernel
theorem dX1_read_55 : decode cX1_read 55 = .ok (.aload_n 0, 1) := by decide +kernel
theorem dX1_read_56 : decode cX1_read 56 = .ok (.getfield 13, 3) := by decide +kernel
theorem dX1_read_59 : decode cX1_read 59 = .ok (.bipush 32, 2) := by decide +kernel
theorem dX1_read_61 : decode cX1_read 61 = .ok (.iload_n 1, 1) := by decide +kernel
theorem dX1_read_62 : decode cX1_read 62 = .ok (.imul, 1) := by decide +kernel
theorem dX1_read_63 : decode cX1_read 63 = .ok (.iload_n 2, 1) := by decide +kernel
theorem dX1_read_64 : decode cX1_read 64 = .ok (.iadd, 1) := by decide +kernel
theorem dX1_read_65 : decode cX1_read 65 = .ok (.iaload, 1) := by decide +kernel
theorem dX1_read_66 : decode cX1_read 66 = .ok (.ireturn, 1) := by decide +kernel
theorem dX1_write_0 : decode cX1_write 0 = .ok (.aload_n 0, 1) := by decide +kernel
theorem dX1_write_1 : decode cX1_write 1 = .ok (.iload_n 1, 1) := by decide +kernel
theorem dX1_write_2 : decode cX1_write 2 = .ok (.iconst 3, 1) := by decide +kernel
theorem dX1_write_3 : decode cX1_write 3 = .ok (.invokestatic 70, 3) := by decide +kernel
theorem dX1_write_6 : decode cX1_write 6 = .ok (.ifCond .eq 16, 3) := by decide +kernel
theorem dX1_write_9 : decode cX1_write 9 = .ok (.iload_n 2, 1) := by decide +kernel
theorem dX1_write_10 : decode cX1_write 10 = .ok (.bipush 31, 2) := by decide +kernel
theorem dX1_write_12 : decode cX1_write 12 = .ok (.invokestatic 70, 3) := by decide +kernel
theorem dX1_write_15 : decode cX1_write 15 = .ok (.ifCond .eq 7, 3) := by decide +kernel
theorem dX1_write_18 : decode cX1_write 18 = .ok (.iconst 0, 1) := by decide +kernel
theorem dX1_write_19 : decode cX1_write 19 = .ok (.goto 4, 3) := by decide +kernel
theorem dX1_write_22 : decode cX1_write 22 = .ok (.iconst 1, 1) := by decide +kernel
theorem dX1_write_23 : decode cX1_write 23 = .ok (.putfield 29, 3) := by decide +kernel
theorem dX1_write_26 : decode cX1_write 26 = .ok (.aload_n 0, 1) := by decide +kernel
theorem dX1_write_27 : decode cX1_write 27 = .ok (.getfield 29, 3) := by decide +kernel
theorem dX1_write_30 : decode cX1_write 30 = .ok (.ifCond .le 5, 3) := by decide +kernel
theorem dX1_write_33 : decode cX1_write 33 = .ok (.iconst 0, 1) := by decide +kernel
theorem dX1_write_34 : decode cX1_write 34 = .ok (.ireturn, 1) := by decide +kernel
theorem dX1_write_35 : decode cX1_write 35 = .ok (.iload_n 2, 1) := by decide +kernel
theorem dX1_write_36 : decode cX1_write 36 = .ok (.iconst 2, 1) := by decide +kernel
theorem dX1_write_37 : decode cX1_write 37 = .ok (.idiv, 1) := by decide +kernel
theorem dX1_write_38 : decode cX1_write 38 = .ok (.istore 4, 2) := by decide +kernel
theorem dX1_write_40 : decode cX1_write 40 = .ok (.aload_n 0, 1) := by decide +kernel
theorem dX1_write_41 : decode cX1_write 41 = .ok (.getfield 32, 3) := by decide +kernel
theorem dX1_write_44 : decode cX1_write 44 = .ok (.istore 5, 2) := by decide +kernel
theorem dX1_write_46 : decode cX1_write 46 = .ok (.aload_n 0, 1) := by decide +kernel
theorem dX1_write_47 : decode cX1_write 47 = .ok (.iload_n 1, 1) := by decide +kernel
theorem dX1_write_48 : decode cX1_write 48 = .ok (.iload 4, 2) := by decide +kernel
theorem dX1_write_50 : decode cX1_write 50 = .ok (.invokevirtual 73, 3) := by decide +kernel
theorem dX1_write_53 : decode cX1_write 53 = .ok (.ifCond .ne 22, 3) := by decide +kernel
theorem dX1_write_56 : decode cX1_write 56 = .ok (.aload_n 0, 1) := by decide +kernel
theorem dX1_write_57 : decode cX1_write 57 = .ok (.iload_n 1, 1) := by decide +kernel
theorem dX1_write_58 : decode cX1_write 58 = .ok (.iload 4, 2) := by decide +kernel
theorem dX1_write_60 : decode cX1_write 60 = .ok (.aload_n 0, 1) := by decide +kernel
theorem dX1_write_61 : decode cX1_write 61 = .ok (.invokevirtual 79, 3) := by decide +kernel
theorem dX1_write_64 : decode cX1_write 64 = .ok (.ifCond .eq 7, 3) := by decide +kernel
theorem dX1_write_67 : decode cX1_write 67 = .ok (.iconst 1, 1) := by decide +kernel
theorem dX1_write_68 : decode cX1_write 68 = .ok (.goto 4, 3) := by decide +kernel
theorem dX1_write_71 : decode cX1_write 71 = .ok (.iconst 0, 1) := by decide +kernel
theorem dX1_write_72 : decode cX1_write 72 = .ok (.invokevirtual 76, 3) := by decide +kernel
theorem dX1_write_75 : decode cX1_write 75 = .ok (.aload_n 0, 1) := by decide +kernel
theorem dX1_write_76 : decode cX1_write 76 = .ok (.iload_n 1, 1) := by decide +kernel
theorem dX1_write_77 : decode cX1_write 77 = .ok (.iload 4, 2) := by decide +kernel
theorem dX1_write_79 : decode cX1_write 79 = .ok (.invokevirtual 41, 3) := by decide +kernel
theorem dX1_write_82 : decode cX1_write 82 = .ok (.istore 6, 2) := by decide +kernel
theorem dX1_write_84 : decode cX1_write 84 = .ok (.iconst 4, 1) := by decide +kernel
theorem dX1_write_85 : decode cX1_write 85 = .ok (.istore 7, 2) := by decide +kernel
theorem dX1_write_87 : decode cX1_write 87 = .ok (.iload 6, 2) := by decide +kernel
theorem dX1_write_89 : decode cX1_write 89 = .ok (.iconst 1, 1) := by decide +kernel
theorem dX1_write_90 : decode cX1_write 90 = .ok (.if_icmp .eq 9, 3) := by decide +kernel
theorem dX1_write_93 : decode cX1_write 93 = .ok (.iload 6, 2) := by decide +kernel
theorem dX1_write_95 : decode cX1_write 95 = .ok (.iconst 3, 1) := by decide +kernel
theorem dX1_write_96 : decode cX1_write 96 = .ok (.if_icmp .ne 109, 3) := by decide +kernel
theorem dX1_write_99 : decode cX1_write 99 = .ok (.aload_n 0, 1) := by decide +kernel
theorem dX1_write_100 : decode cX1_write 100 = .ok (.aload_n 0, 1) := by decide +kernel
theorem dX1_write_101 : decode cX1_write 101 = .ok (.invokevirtual 79, 3) := by decide +kernel
theorem dX1_write_104 : decode cX1_write 104 = .ok (.ifCond .eq 7, 3) := by decide +kernel
theorem dX1_write_107 : decode cX1_write 107 = .ok (.iconst 2, 1) := by decide +kernel
theorem dX1_write_108 : decode cX1_write 108 = .ok (.goto 4, 3) := by decide +kernel
theorem dX1_write_111 : decode cX1_write 111 = .ok (.iconst 3, 1) := by decide +kernel
theorem dX1_write_112 : decode cX1_write 112 = .ok (.iload_n 1, 1) := by decide +kernel
theorem dX1_write_113 : decode cX1_write 113 = .ok (.iload 4, 2) := by decide +kernel
theorem dX1_write_115 : decode cX1_write 115 = .ok (.invokevirtual 45, 3) := by decide +kernel
theorem dX1_write_118 : decode cX1_write 118 = .ok (.aload_n 0, 1) := by decide +kernel
theorem dX1_write_119 : decode cX1_write 119 = .ok (.invokevirtual 79, 3) := by decide +kernel
theorem dX1_write_122 : decode cX1_write 122 = .ok (.ifCond .eq 13, 3) := by decide +kernel
theorem dX1_write_125 : decode cX1_write 125 = .ok (.aload_n 0, 1) := by decide +kernel
theorem dX1_write_126 : decode cX1_write 126 = .ok (.iload_n 1, 1) := by decide +kernel
theorem dX1_write_127 : decode cX1_write 127 = .ok (.iload 4, 2) := by decide +kernel
theorem dX1_write_129 : decode cX1_write 129 = .ok (.invokevirtual 64, 3) := by decide +kernel
theorem dX1_write_132 : decode cX1_write 132 = .ok (.goto 73, 3) := by decide +kernel
theorem dX1_write_135 : decode cX1_write 135 = .ok (.aload_n 0, 1) := by decide +kernel
theorem dX1_write_136 : decode cX1_write 136 = .ok (.iload_n 1, 1) := by decide +kernel
theorem dX1_write_137 : decode cX1_write 137 = .ok (.iload 4, 2) := by decide +kernel
theorem dX1_write_139 : decode cX1_write 139 = .ok (.invokevirtual 67, 3) := by decide +kernel
theorem dX1_write_142 : decode cX1_write 142 = .ok (.ifCond .le 6, 3) := by decide +kernel
theorem dX1_write_145 : decode cX1_write 145 = .ok (.iconst 3, 1) := by decide +kernel
theorem dX1_write_146 : decode cX1_write 146 = .ok (.istore 7, 2) := by decide +kernel
theorem dX1_write_148 : decode cX1_write 148 = .ok (.iconst 0, 1) := by decide +kernel
theorem dX1_write_149 : decode cX1_write 149 = .ok (.istore 8, 2) := by decide +kernel
theorem dX1_write_151 : decode cX1_write 151 = .ok (.iload 8, 2) := by decide +kernel
theorem dX1_write_153 : decode cX1_write 153 = .ok (.iconst 4, 1) := by decide +kernel
theorem dX1_write_154 : decode cX1_write 154 = .ok (.if_icmp .ge 51, 3) := by decide +kernel
theorem dX1_write_157 : decode cX1_write 157 = .ok (.iload 8, 2) := by decide +kernel
theorem dX1_write_159 : decode cX1_write 159 = .ok (.iload_n 1, 1) := by decide +kernel
theorem dX1_write_160 : decode cX1_write 160 = .ok (.if_icmp .eq 39, 3) := by decide +kernel
theorem dX1_write_163 : decode cX1_write 163 = .ok (.aload_n 0, 1) := by decide +kernel
theorem dX1_write_164 : decode cX1_write 164 = .ok (.iload 8, 2) := by decide +kernel
theorem dX1_write_166 : decode cX1_write 166 = .ok (.iload 4, 2) := by decide +kernel
theorem dX1_write_168 : decode cX1_write 168 = .ok (.invokevirtual 41, 3) := by decide +kernel
theorem dX1_write_171 : decode cX1_write 171 = .ok (.ifCond .ne 6, 3) := by decide +kernel
theorem dX1_write_174 : decode cX1_write 174 = .ok (.goto 25, 3) := by decide +kernel
theorem dX1_write_177 : decode cX1_write 177 = .ok (.aload_n 0, 1) := by decide +kernel
theorem dX1_write_178 : decode cX1_write 178 = .ok (.getfield 13, 3) := by decide +kernel
theorem dX1_write_181 : decode cX1_write 181 = .ok (.bipush 32, 2) := by decide +kernel
theorem dX1_write_183 : decode cX1_write 183 = .ok (.iload 8, 2) := by decide +kernel
theorem dX1_write_185 : decode cX1_write 185 = .ok (.imul, 1) := by decide +kernel
theorem dX1_write_186 : decode cX1_write 186 = .ok (.iload_n 2, 1) := by decide +kernel
theorem dX1_write_187 : decode cX1_write 187 = .ok (.iadd, 1) := by decide +kernel
theorem dX1_write_188 : decode cX1_write 188 = .ok (.iload_n 3, 1) := by decide +kernel
theorem dX1_write_189 : decode cX1_write 189 = .ok (.iastore, 1) := by decide +kernel
theorem dX1_write_190 : decode cX1_write 190 = .ok (.aload_n 0, 1) := by decide +kernel
theorem dX1_write_191 : decode cX1_write 191 = .ok (.iload 8, 2) := by decide +kernel
theorem dX1_write_193 : decode cX1_write 193 = .ok (.iload 4, 2) := by decide +kernel
theorem dX1_write_195 : decode cX1_write 195 = .ok (.iconst 1, 1) := by decide +kernel
theorem dX1_write_196 : decode cX1_write 196 = .ok (.invokevirtual 53, 3) := by decide +kernel
theorem dX1_write_199 : decode cX1_write 199 = .ok (.iinc 8 1, 3) := by decide +kernel
theorem dX1_write_202 : decode cX1_write 202 = .ok (.goto (-51), 3) := by decide +kernel
theorem dX1_write_205 : decode cX1_write 205 = .ok (.aload_n 0, 1) := by decide +kernel
theorem dX1_write_206 : decode cX1_write 206 = .ok (.iload_n 1, 1) := by decide +kernel
theorem dX1_write_207 : decode cX1_write 207 = .ok (.iload 4, 2) := by decide +kernel
theorem dX1_write_209 : decode cX1_write 209 = .ok (.iload 7, 2) := by decide +kernel
theorem dX1_write_211 : decode cX1_write 211 = .ok (.invokevirtual 53, 3) := by decide +kernel
theorem dX1_write_214 : decode cX1_write 214 = .ok (.aload_n 0, 1) := by decide +kernel
theorem dX1_write_215 : decode cX1_write 215 = .ok (.getfield 13, 3) := by decide +kernel
theorem dX1_write_218 : decode cX1_write 218 = .ok (.bipush 32, 2) := by decide +kernel
theorem dX1_write_220 : decode cX1_write 220 = .ok (.iload_n 1, 1) := by decide +kernel
theorem dX1_write_221 : decode cX1_write 221 = .ok (.imul, 1) := by decide +kernel
theorem dX1_write_222 : decode cX1_write 222 = .ok (.iload_n 2, 1) := by decide +kernel
theorem dX1_write_223 : decode cX1_write 223 = .ok (.iadd, 1) := by decide +kernel
theorem dX1_write_224 : decode cX1_write 224 = .ok (.iload_n 3, 1) := by decide +kernel
theorem dX1_write_225 : decode cX1_write 225 = .ok (.iastore, 1) := by decide +kernel
theorem dX1_write_226 : decode cX1_write 226 = .ok (.aload_n 0, 1) := by decide +kernel
theorem dX1_write_227 : decode cX1_write 227 = .ok (.getfield 32, 3) := by decide +kernel
theorem dX1_write_230 : decode cX1_write 230 = .ok (.iload 5, 2) := by decide +kernel
theorem dX1_write_232 : decode cX1_write 232 = .ok (.isub, 1) := by decide +kernel
theorem dX1_write_233 : decode cX1_write 233 = .ok (.ireturn, 1) := by decide +kernel
theorem dX1_evict_0 : decode cX1_evict 0 = .ok (.aload_n 0, 1) := by decide +kernel
theorem dX1_evict_1 : decode cX1_evict 1 = .ok (.iload_n 1, 1) := by decide +kernel
theorem dX1_evict_2 : decode cX1_evict 2 = .ok (.iconst 3, 1) := by decide +kernel
theorem dX1_evict_3 : decode cX1_evict 3 = .ok (.invokestatic 70, 3) := by decide +kernel
theorem dX1_evict_6 : decode cX1_evict 6 = .ok (.ifCond .eq 12, 3) := by decide +kernel
theorem dX1_evict_9 : decode cX1_evict 9 = .ok (.iload_n 2, 1) := by decide +kernel
theorem dX1_evict_10 : decode cX1_evict 10 = .ok (.bipush 15, 2) := by decide +kernel
theorem dX1_evict_12 : decode cX1_evict 12 = .ok (.invokestatic 70, 3) := by decide +kernel
theorem dX1_evict_15 : decode cX1_evict 15 = .ok (.ifCond .ne 7, 3) := by decide +kernel
theorem dX1_evict_18 : decode cX1_evict 18 = .ok (.iconst 1, 1) := by decide +kernel
theorem dX1_evict_19 : decode cX1_evict 19 = .ok (.goto 17, 3) := by decide +kernel
theorem dX1_evict_22 : decode cX1_evict 22 = .ok (.aload_n 0, 1) := by decide +kernel
theorem dX1_evict_23 : decode cX1_evict 23 = .ok (.iload_n 1, 1) := by decide +kernel
theorem dX1_evict_24 : decode cX1_evict 24 = .ok (.iload_n 2, 1) := by decide +kernel
theorem dX1_evict_25 : decode cX1_evict 25 = .ok (.invokevirtual 41, 3) := by decide +kernel
theorem dX1_evict_28 : decode cX1_evict 28 = .ok (.ifCond .ne 7, 3) := by decide +kernel
theorem dX1_evict_31 : decode cX1_evict 31 = .ok (.iconst 2, 1) := by decide +kernel
theorem dX1_evict_32 : decode cX1_evict 32 = .ok (.goto 4, 3) := by decide +kernel
theorem dX1_evict_35 : decode cX1_evict 35 = .ok (.iconst 0, 1) := by decide +kernel
theorem dX1_evict_36 : decode cX1_evict 36 = .ok (.putfield 29, 3) := by decide +kernel
theorem dX1_evict_39 : decode cX1_evict 39 = .ok (.aload_n 0, 1) := by decide +kernel
theorem dX1_evict_40 : decode cX1_evict 40 = .ok (.getfield 29, 3) := by decide +kernel
theorem dX1_evict_43 : decode cX1_evict 43 = .ok (.ifCond .ne 16, 3) := by decide +kernel
theorem dX1_evict_46 : decode cX1_evict 46 = .ok (.aload_n 0, 1) := by decide +kernel
theorem dX1_evict_47 : decode cX1_evict 47 = .ok (.iload_n 1, 1) := by decide +kernel
theorem dX1_evict_48 : decode cX1_evict 48 = .ok (.iload_n 2, 1) := by decide +kernel
theorem dX1_evict_49 : decode cX1_evict 49 = .ok (.invokevirtual 56, 3) := by decide +kernel
theorem dX1_evict_52 : decode cX1_evict 52 = .ok (.ifCond .eq 7, 3) := by decide +kernel
theorem dX1_evict_55 : decode cX1_evict 55 = .ok (.iconst 1, 1) := by decide +kernel
theorem dX1_evict_56 : decode cX1_evict 56 = .ok (.goto 4, 3) := by decide +kernel
theorem dX1_evict_59 : decode cX1_evict 59 = .ok (.iconst 0, 1) := by decide +kernel
theorem dX1_evict_60 : decode cX1_evict 60 = .ok (.ireturn, 1) := by decide +kernel
theorem dX1_flush_0 : decode cX1_flush 0 = .ok (.aload_n 0, 1) := by decide +kernel
theorem dX1_flush_1 : decode cX1_flush 1 = .ok (.iconst 0, 1) := by decide +kernel
theorem dX1_flush_2 : decode cX1_flush 2 = .ok (.putfield 29, 3) := by decide +kernel
theorem dX1_flush_5 : decode cX1_flush 5 = .ok (.iconst 0, 1) := by decide +kernel
theorem dX1_flush_6 : decode cX1_flush 6 = .ok (.istore_n 1, 1) := by decide +kernel
theorem dX1_flush_7 : decode cX1_flush 7 = .ok (.iconst 0, 1) := by decide +kernel
theorem dX1_flush_8 : decode cX1_flush 8 = .ok (.istore_n 2, 1) := by decide +kernel
theorem dX1_flush_9 : decode cX1_flush 9 = .ok (.iload_n 2, 1) := by decide +kernel
theorem dX1_flush_10 : decode cX1_flush 10 = .ok (.iconst 4, 1) := by decide +kernel
theorem dX1_flush_11 : decode cX1_flush 11 = .ok (.if_icmp .ge 65, 3) := by decide +kernel
theorem dX1_flush_14 : decode cX1_flush 14 = .ok (.iconst 0, 1) := by decide +kernel
theorem dX1_flush_15 : decode cX1_flush 15 = .ok (.istore_n 3, 1) := by decide +kernel
theorem dX1_flush_16 : decode cX1_flush 16 = .ok (.iload_n 3, 1) := by decide +kernel
theorem dX1_flush_17 : decode cX1_flush 17 = .ok (.iconst 2, 1) := by decide +kernel
theorem dX1_flush_18 : decode cX1_flush 18 = .ok (.if_icmp .ge 52, 3) := by decide +kernel
theorem dX1_flush_21 : decode cX1_flush 21 = .ok (.iload_n 3, 1) := by decide +kernel
theorem dX1_flush_22 : decode cX1_flush 22 = .ok (.istore 4, 2) := by decide +kernel
theorem dX1_flush_24 : decode cX1_flush 24 = .ok (.iload 4, 2) := by decide +kernel
theorem dX1_flush_26 : decode cX1_flush 26 = .ok (.bipush 16, 2) := by decide +kernel
theorem dX1_flush_28 : decode cX1_flush 28 = .ok (.if_icmp .ge 36, 3) := by decide +kernel
theorem dX1_flush_31 : decode cX1_flush 31 = .ok (.aload_n 0, 1) := by decide +kernel
theorem dX1_flush_32 : decode cX1_flush 32 = .ok (.iload_n 2, 1) := by decide +kernel
theorem dX1_flush_33 : decode cX1_flush 33 = .ok (.iload 4, 2) := by decide +kernel
theorem dX1_flush_35 : decode cX1_flush 35 = .ok (.invokevirtual 41, 3) := by decide +kernel
theorem dX1_flush_38 : decode cX1_flush 38 = .ok (.ifCond .le 20, 3) := by decide +kernel
theorem dX1_flush_41 : decode cX1_flush 41 = .ok (.aload_n 0, 1) := by decide +kernel
theorem dX1_flush_42 : decode cX1_flush 42 = .ok (.iload_n 2, 1) := by decide +kernel
theorem dX1_flush_43 : decode cX1_flush 43 = .ok (.iload 4, 2) := by decide +kernel
theorem dX1_flush_45 : decode cX1_flush 45 = .ok (.invokevirtual 56, 3) := by decide +kernel
theorem dX1_flush_48 : decode cX1_flush 48 = .ok (.istore 5, 2) := by decide +kernel
theorem dX1_flush_50 : decode cX1_flush 50 = .ok (.iload 5, 2) := by decide +kernel
theorem dX1_flush_52 : decode cX1_flush 52 = .ok (.ifCond .eq 6, 3) := by decide +kernel
theorem dX1_flush_55 : decode cX1_flush 55 = .ok (.iinc 1 1, 3) := by decide +kernel
theorem dX1_flush_58 : decode cX1_flush 58 = .ok (.iinc 4 2, 3) := by decide +kernel
theorem dX1_flush_61 : decode cX1_flush 61 = .ok (.goto (-37), 3) := by decide +kernel
theorem dX1_flush_64 : decode cX1_flush 64 = .ok (.iinc 3 1, 3) := by decide +kernel
theorem dX1_flush_67 : decode cX1_flush 67 = .ok (.goto (-51), 3) := by decide +kernel
theorem dX1_flush_70 : decode cX1_flush 70 = .ok (.iinc 2 1, 3) := by decide +kernel
theorem dX1_flush_73 : decode cX1_flush 73 = .ok (.goto (-64), 3) := by decide +kernel
theorem dX1_flush_76 : decode cX1_flush 76 = .ok (.iload_n 1, 1) := by decide +kernel
theorem dX1_flush_77 : decode cX1_flush 77 = .ok (.ireturn, 1) := by decide +kernel
theorem dX1_state_0 : decode cX1_state 0 = .ok (.iload_n 1, 1) := by decide +kernel
theorem dX1_state_1 : decode cX1_state 1 = .ok (.iconst 3, 1) := by decide +kernel
theorem dX1_state_2 : decode cX1_state 2 = .ok (.invokestatic 70, 3) := by decide +kernel
theorem dX1_state_5 : decode cX1_state 5 = .ok (.ifCond .eq 21, 3) := by decide +kernel
theorem dX1_state_8 : decode cX1_state 8 = .ok (.iload_n 2, 1) := by decide +kernel
theorem dX1_state_9 : decode cX1_state 9 = .ok (.bipush 15, 2) := by decide +kernel
theorem dX1_state_11 : decode cX1_state 11 = .ok (.invokestatic 70, 3) := by decide +kernel
theorem dX1_state_14 : decode cX1_state 14 = .ok (.ifCond .eq 12, 3) := by decide +kernel
theorem dX1_state_17 : decode cX1_state 17 = .ok (.aload_n 0, 1) := by decide +kernel
theorem dX1_state_18 : decode cX1_state 18 = .ok (.iload_n 1, 1) := by decide +kernel
theorem dX1_state_19 : decode cX1_state 19 = .ok (.iload_n 2, 1) := by decide +kernel
theorem dX1_state_20 : decode cX1_state 20 = .ok (.invokevirtual 41, 3) := by decide +kernel
theorem dX1_state_23 : decode cX1_state 23 = .ok (.goto 4, 3) := by decide +kernel
theorem dX1_state_26 : decode cX1_state 26 = .ok (.iconst (-1), 1) := by decide +kernel
theorem dX1_state_27 : decode cX1_state 27 = .ok (.ireturn, 1) := by decide +kernel
theorem dX1_cached_0 : decode cX1_cached 0 = .ok (.iload_n 1, 1) := by decide +kernel
theorem dX1_cached_1 : decode cX1_cached 1 = .ok (.iconst 3, 1) := by decide +kernel
theorem dX1_cached_2 : decode cX1_cached 2 = .ok (.invokestatic 70, 3) := by decide +kernel
theorem dX1_cached_5 : decode cX1_cached 5 = .ok (.ifCond .eq 23, 3) := by decide +kernel
theorem dX1_cached_8 : decode cX1_cached 8 = .ok (.iload_n 2, 1) := by decide +kernel
theorem dX1_cached_9 : decode cX1_cached 9 = .ok (.bipush 31, 2) := by decide +kernel
theorem dX1_cached_11 : decode cX1_cached 11 = .ok (.invokestatic 70, 3) := by decide +kernel
theorem dX1_cached_14 : decode cX1_cached 14 = .ok (.ifCond .eq 14, 3) := by decide +kernel
theorem dX1_cached_17 : decode cX1_cached 17 = .ok (.aload_n 0, 1) := by decide +kernel
theorem dX1_cached_18 : decode cX1_cached 18 = .ok (.iload_n 1, 1) := by decide +kernel
theorem dX1_cached_19 : decode cX1_cached 19 = .ok (.iload_n 2, 1) := by decide +kernel
theorem dX1_cached_20 : decode cX1_cached 20 = .ok (.iconst 2, 1) := by decide +kernel
theorem dX1_cached_21 : decode cX1_cached 21 = .ok (.idiv, 1) := by decide +kernel
theorem dX1_cached_22 : decode cX1_cached 22 = .ok (.invokevirtual 41, 3) := by decide +kernel
theorem dX1_cached_25 : decode cX1_cached 25 = .ok (.ifCond .ne 5, 3) := by decide +kernel
theorem dX1_cached_28 : decode cX1_cached 28 = .ok (.iconst 0, 1) := by decide +kernel
theorem dX1_cached_29 : decode cX1_cached 29 = .ok (.ireturn, 1) := by decide +kernel
theorem dX1_cached_30 : decode cX1_cached 30 = .ok (.aload_n 0, 1) := by decide +kernel
theorem dX1_cached_31 : decode cX1_cached 31 = .ok (.getfield 13, 3) := by decide +kernel
theorem dX1_cached_34 : decode cX1_cached 34 = .ok (.bipush 32, 2) := by decide +kernel
theorem dX1_cached_36 : decode cX1_cached 36 = .ok (.iload_n 1, 1) := by decide +kernel
theorem dX1_cached_37 : decode cX1_cached 37 = .ok (.imul, 1) := by decide +kernel
theorem dX1_cached_38 : decode cX1_cached 38 = .ok (.iload_n 2, 1) := by decide +kernel
theorem dX1_cached_39 : decode cX1_cached 39 = .ok (.iadd, 1) := by decide +kernel
theorem dX1_cached_40 : decode cX1_cached 40 = .ok (.iaload, 1) := by decide +kernel
theorem dX1_cached_41 : decode cX1_cached 41 = .ok (.ireturn, 1) := by decide +kernel
theorem dX1_memory_0 : decode cX1_memory 0 = .ok (.iload_n 1, 1) := by decide +kernel
theorem dX1_memory_1 : decode cX1_memory 1 = .ok (.bipush 31, 2) := by decide +kernel
theorem dX1_memory_3 : decode cX1_memory 3 = .ok (.invokestatic 70, 3) := by decide +kernel
theorem dX1_memory_6 : decode cX1_memory 6 = .ok (.ifCond .eq 12, 3) := by decide +kernel
theorem dX1_memory_9 : decode cX1_memory 9 = .ok (.aload_n 0, 1) := by decide +kernel
theorem dX1_memory_10 : decode cX1_memory 10 = .ok (.getfield 16, 3) := by decide +kernel
theorem dX1_memory_13 : decode cX1_memory 13 = .ok (.iload_n 1, 1) := by decide +kernel
theorem dX1_memory_14 : decode cX1_memory 14 = .ok (.iaload, 1) := by decide +kernel
theorem dX1_memory_15 : decode cX1_memory 15 = .ok (.goto 4, 3) := by decide +kernel
theorem dX1_memory_18 : decode cX1_memory 18 = .ok (.iconst 0, 1) := by decide +kernel
theorem dX1_memory_19 : decode cX1_memory 19 = .ok (.ireturn, 1) := by decide +kernel
theorem dX1_count_0 : decode cX1_count 0 = .ok (.iload_n 1, 1) := by decide +kernel
theorem dX1_count_1 : decode cX1_count 1 = .ok (.iconst 4, 1) := by decide +kernel
theorem dX1_count_2 : decode cX1_count 2 = .ok (.invokestatic 70, 3) := by decide +kernel
theorem dX1_count_5 : decode cX1_count 5 = .ok (.ifCond .eq 12, 3) := by decide +kernel
theorem dX1_count_8 : decode cX1_count 8 = .ok (.aload_n 0, 1) := by decide +kernel
theorem dX1_count_9 : decode cX1_count 9 = .ok (.getfield 19, 3) := by decide +kernel
theorem dX1_count_12 : decode cX1_count 12 = .ok (.iload_n 1, 1) := by decide +kernel
theorem dX1_count_13 : decode cX1_count 13 = .ok (.iaload, 1) := by decide +kernel
theorem dX1_count_14 : decode cX1_count 14 = .ok (.goto 4, 3) := by decide +kernel
theorem dX1_count_17 : decode cX1_count 17 = .ok (.iconst (-1), 1) := by decide +kernel
theorem dX1_count_18 : decode cX1_count 18 = .ok (.ireturn, 1) := by decide +kernel
theorem dX1_hits_0 : decode cX1_hits 0 = .ok (.aload_n 0, 1) := by decide +kernel
theorem dX1_hits_1 : decode cX1_hits 1 = .ok (.getfield 35, 3) := by decide +kernel
theorem dX1_hits_4 : decode cX1_hits 4 = .ok (.ireturn, 1) := by decide +kernel
theorem dX1_misses_0 : decode cX1_misses 0 = .ok (.aload_n 0, 1) := by decide +kernel
theorem dX1_misses_1 : decode cX1_misses 1 = .ok (.getfield 38, 3) := by decide +kernel
theorem dX1_misses_4 : decode cX1_misses 4 = .ok (.ireturn, 1) := by decide +kernel
theorem dX1_latest_0 : decode cX1_latest 0 = .ok (.iload_n 1, 1) := by decide +kernel
theorem dX1_latest_1 : decode cX1_latest 1 = .ok (.bipush 7, 2) := by decide +kernel
theorem dX1_latest_3 : decode cX1_latest 3 = .ok (.invokestatic 70, 3) := by decide +kernel
theorem dX1_latest_6 : decode cX1_latest 6 = .ok (.ifCond .eq 20, 3) := by decide +kernel
theorem dX1_latest_9 : decode cX1_latest 9 = .ok (.iload_n 1, 1) := by decide +kernel
theorem dX1_latest_10 : decode cX1_latest 10 = .ok (.aload_n 0, 1) := by decide +kernel
theorem dX1_latest_11 : decode cX1_latest 11 = .ok (.getfield 32, 3) := by decide +kernel
theorem dX1_latest_14 : decode cX1_latest 14 = .ok (.if_icmp .ge 12, 3) := by decide +kernel
theorem dX1_latest_17 : decode cX1_latest 17 = .ok (.aload_n 0, 1) := by decide +kernel
theorem dX1_latest_18 : decode cX1_latest 18 = .ok (.getfield 22, 3) := by decide +kernel
theorem dX1_latest_21 : decode cX1_latest 21 = .ok (.iload_n 1, 1) := by decide +kernel
theorem dX1_latest_22 : decode cX1_latest 22 = .ok (.iaload, 1) := by decide +kernel
theorem dX1_latest_23 : decode cX1_latest 23 = .ok (.goto 4, 3) := by decide +kernel
theorem dX1_latest_26 : decode cX1_latest 26 = .ok (.iconst (-1), 1) := by decide +kernel
theorem dX1_latest_27 : decode cX1_latest 27 = .ok (.ireturn, 1) := by decide +kernel
theorem dX1_thrown_0 : decode cX1_thrown 0 = .ok (.aload_n 0, 1) := by decide +kernel
theorem dX1_thrown_1 : decode cX1_thrown 1 = .ok (.getfield 29, 3) := by decide +kernel
theorem dX1_thrown_4 : decode cX1_thrown 4 = .ok (.ireturn, 1) := by decide +kernel
