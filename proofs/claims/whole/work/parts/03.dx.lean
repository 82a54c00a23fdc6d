theorem dX0_init_0 : decode cX0_init 0 = .ok (.aload_n 0, 1) := by decide +kernel
theorem dX0_init_1 : decode cX0_init 1 = .ok (.invokespecial 1, 3) := by decide +kernel
theorem dX0_init_4 : decode cX0_init 4 = .ok (.aload_n 0, 1) := by decide +kernel
theorem dX0_init_5 : decode cX0_init 5 = .ok (.bipush 8, 2) := by decide +kernel
theorem dX0_init_7 : decode cX0_init 7 = .ok (.newarray .int, 2) := by decide +kernel
theorem dX0_init_9 : decode cX0_init 9 = .ok (.putfield 9, 3) := by decide +kernel
theorem dX0_init_12 : decode cX0_init 12 = .ok (.aload_n 0, 1) := by decide +kernel
theorem dX0_init_13 : decode cX0_init 13 = .ok (.bipush 8, 2) := by decide +kernel
theorem dX0_init_15 : decode cX0_init 15 = .ok (.newarray .int, 2) := by decide +kernel
theorem dX0_init_17 : decode cX0_init 17 = .ok (.putfield 13, 3) := by decide +kernel
theorem dX0_init_20 : decode cX0_init 20 = .ok (.aload_n 0, 1) := by decide +kernel
theorem dX0_init_21 : decode cX0_init 21 = .ok (.bipush 16, 2) := by decide +kernel
theorem dX0_init_23 : decode cX0_init 23 = .ok (.newarray .int, 2) := by decide +kernel
theorem dX0_init_25 : decode cX0_init 25 = .ok (.putfield 16, 3) := by decide +kernel
theorem dX0_init_28 : decode cX0_init 28 = .ok (.aload_n 0, 1) := by decide +kernel
theorem dX0_init_29 : decode cX0_init 29 = .ok (.bipush 32, 2) := by decide +kernel
theorem dX0_init_31 : decode cX0_init 31 = .ok (.newarray .int, 2) := by decide +kernel
theorem dX0_init_33 : decode cX0_init 33 = .ok (.putfield 19, 3) := by decide +kernel
theorem dX0_init_36 : decode cX0_init 36 = .ok (.aload_n 0, 1) := by decide +kernel
theorem dX0_init_37 : decode cX0_init 37 = .ok (.iconst 5, 1) := by decide +kernel
theorem dX0_init_38 : decode cX0_init 38 = .ok (.newarray .int, 2) := by decide +kernel
theorem dX0_init_40 : decode cX0_init 40 = .ok (.putfield 22, 3) := by decide +kernel
theorem dX0_init_43 : decode cX0_init 43 = .ok (.aload_n 0, 1) := by decide +kernel
theorem dX0_init_44 : decode cX0_init 44 = .ok (.bipush 8, 2) := by decide +kernel
theorem dX0_init_46 : decode cX0_init 46 = .ok (.newarray .int, 2) := by decide +kernel
theorem dX0_init_48 : decode cX0_init 48 = .ok (.putfield 25, 3) := by decide +kernel
theorem dX0_init_51 : decode cX0_init 51 = .ok (.aload_n 0, 1) := by decide +kernel
theorem dX0_init_52 : decode cX0_init 52 = .ok (.iconst 0, 1) := by decide +kernel
theorem dX0_init_53 : decode cX0_init 53 = .ok (.invokevirtual 28, 3) := by decide +kernel
theorem dX0_init_56 : decode cX0_init 56 = .ok (.return_, 1) := by decide +kernel
theorem dX0_choose_0 : decode cX0_choose 0 = .ok (.iload_n 1, 1) := by decide +kernel
theorem dX0_choose_1 : decode cX0_choose 1 = .ok (.ifCond .lt 8, 3) := by decide +kernel
theorem dX0_choose_4 : decode cX0_choose 4 = .ok (.iload_n 1, 1) := by decide +kernel
theorem dX0_choose_5 : decode cX0_choose 5 = .ok (.iconst 4, 1) := by decide +kernel
theorem dX0_choose_6 : decode cX0_choose 6 = .ok (.if_icmp .lt 5, 3) := by decide +kernel
theorem dX0_choose_9 : decode cX0_choose 9 = .ok (.iconst 0, 1) := by decide +kernel
theorem dX0_choose_10 : decode cX0_choose 10 = .ok (.ireturn, 1) := by decide +kernel
theorem dX0_choose_11 : decode cX0_choose 11 = .ok (.aload_n 0, 1) := by decide +kernel
theorem dX0_choose_12 : decode cX0_choose 12 = .ok (.iload_n 1, 1) := by decide +kernel
theorem dX0_choose_13 : decode cX0_choose 13 = .ok (.invokevirtual 28, 3) := by decide +kernel
theorem dX0_choose_16 : decode cX0_choose 16 = .ok (.iconst 1, 1) := by decide +kernel
theorem dX0_choose_17 : decode cX0_choose 17 = .ok (.ireturn, 1) := by decide +kernel
theorem dX0_protocol_0 : decode cX0_protocol 0 = .ok (.aload_n 0, 1) := by decide +kernel
theorem dX0_protocol_1 : decode cX0_protocol 1 = .ok (.getfield 32, 3) := by decide +kernel
theorem dX0_protocol_4 : decode cX0_protocol 4 = .ok (.ireturn, 1) := by decide +kernel
theorem dX0_read_0 : decode cX0_read 0 = .ok (.iload_n 1, 1) := by decide +kernel
theorem dX0_read_1 : decode cX0_read 1 = .ok (.invokestatic 36, 3) := by decide +kernel
theorem dX0_read_4 : decode cX0_read 4 = .ok (.ifCond .eq 10, 3) := by decide +kernel
theorem dX0_read_7 : decode cX0_read 7 = .ok (.iload_n 2, 1) := by decide +kernel
theorem dX0_read_8 : decode cX0_read 8 = .ok (.invokestatic 40, 3) := by decide +kernel
theorem dX0_read_11 : decode cX0_read 11 = .ok (.ifCond .ne 13, 3) := by decide +kernel
theorem dX0_read_14 : decode cX0_read 14 = .ok (.new 43, 3) := by decide +kernel
theorem dX0_read_17 : decode cX0_read 17 = .ok (.dup, 1) := by decide +kernel
theorem dX0_read_18 : decode cX0_read 18 = .ok (.ldc 45, 2) := by decide +kernel
theorem dX0_read_20 : decode cX0_read 20 = .ok (.invokespecial 47, 3) := by decide +kernel
theorem dX0_read_23 : decode cX0_read 23 = .ok (.athrow, 1) := by decide +kernel
theorem dX0_read_24 : decode cX0_read 24 = .ok (.aload_n 0, 1) := by decide +kernel
theorem dX0_read_25 : decode cX0_read 25 = .ok (.iload_n 1, 1) := by decide +kernel
theorem dX0_read_26 : decode cX0_read 26 = .ok (.iload_n 2, 1) := by decide +kernel
theorem dX0_read_27 : decode cX0_read 27 = .ok (.invokestatic 50, 3) := by decide +kernel
theorem dX0_read_30 : decode cX0_read 30 = .ok (.iconst 0, 1) := by decide +kernel
theorem dX0_read_31 : decode cX0_read 31 = .ok (.invokevirtual 54, 3) := by decide +kernel
theorem dX0_read_34 : decode cX0_read 34 = .ok (.aload_n 0, 1) := by decide +kernel
theorem dX0_read_35 : decode cX0_read 35 = .ok (.getfield 16, 3) := by decide +kernel
theorem dX0_read_38 : decode cX0_read 38 = .ok (.iload_n 1, 1) := by decide +kernel
theorem dX0_read_39 : decode cX0_read 39 = .ok (.iload_n 2, 1) := by decide +kernel
theorem dX0_read_40 : decode cX0_read 40 = .ok (.invokestatic 58, 3) := by decide +kernel
theorem dX0_read_43 : decode cX0_read 43 = .ok (.iaload, 1) := by decide +kernel
theorem dX0_read_44 : decode cX0_read 44 = .ok (.ireturn, 1) := by decide +kernel
theorem dX0_write_0 : decode cX0_write 0 = .ok (.iload_n 1, 1) := by decide +kernel
theorem dX0_write_1 : decode cX0_write 1 = .ok (.invokestatic 36, 3) := by decide +kernel
theorem dX0_write_4 : decode cX0_write 4 = .ok (.ifCond .eq 10, 3) := by decide +kernel
theorem dX0_write_7 : decode cX0_write 7 = .ok (.iload_n 2, 1) := by decide +kernel
theorem dX0_write_8 : decode cX0_write 8 = .ok (.invokestatic 40, 3) := by decide +kernel
theorem dX0_write_11 : decode cX0_write 11 = .ok (.ifCond .ne 13, 3) := by decide +kernel
theorem dX0_write_14 : decode cX0_write 14 = .ok (.new 43, 3) := by decide +kernel
theorem dX0_write_17 : decode cX0_write 17 = .ok (.dup, 1) := by decide +kernel
theorem dX0_write_18 : decode cX0_write 18 = .ok (.ldc 45, 2) := by decide +kernel
theorem dX0_write_20 : decode cX0_write 20 = .ok (.invokespecial 47, 3) := by decide +kernel
theorem dX0_write_23 : decode cX0_write 23 = .ok (.athrow, 1) := by decide +kernel
theorem dX0_write_24 : decode cX0_write 24 = .ok (.aload_n 0, 1) := by decide +kernel
theorem dX0_write_25 : decode cX0_write 25 = .ok (.getfield 62, 3) := by decide +kernel
theorem dX0_write_28 : decode cX0_write 28 = .ok (.istore 4, 2) := by decide +kernel
theorem dX0_write_30 : decode cX0_write 30 = .ok (.aload_n 0, 1) := by decide +kernel
theorem dX0_write_31 : decode cX0_write 31 = .ok (.iload_n 1, 1) := by decide +kernel
theorem dX0_write_32 : decode cX0_write 32 = .ok (.iload_n 2, 1) := by decide +kernel
theorem dX0_write_33 : decode cX0_write 33 = .ok (.invokestatic 50, 3) := by decide +kernel
theorem dX0_write_36 : decode cX0_write 36 = .ok (.aload_n 0, 1) := by decide +kernel
theorem dX0_write_37 : decode cX0_write 37 = .ok (.invokevirtual 65, 3) := by decide +kernel
theorem dX0_write_40 : decode cX0_write 40 = .ok (.ifCond .eq 7, 3) := by decide +kernel
theorem dX0_write_43 : decode cX0_write 43 = .ok (.iconst 0, 1) := by decide +kernel
theorem dX0_write_44 : decode cX0_write 44 = .ok (.goto 4, 3) := by decide +kernel
theorem dX0_write_47 : decode cX0_write 47 = .ok (.iconst 1, 1) := by decide +kernel
theorem dX0_write_48 : decode cX0_write 48 = .ok (.invokevirtual 54, 3) := by decide +kernel
theorem dX0_write_51 : decode cX0_write 51 = .ok (.aload_n 0, 1) := by decide +kernel
theorem dX0_write_52 : decode cX0_write 52 = .ok (.invokevirtual 65, 3) := by decide +kernel
theorem dX0_write_55 : decode cX0_write 55 = .ok (.ifCond .eq 13, 3) := by decide +kernel
theorem dX0_write_58 : decode cX0_write 58 = .ok (.aload_n 0, 1) := by decide +kernel
theorem dX0_write_59 : decode cX0_write 59 = .ok (.iload_n 1, 1) := by decide +kernel
theorem dX0_write_60 : decode cX0_write 60 = .ok (.iload_n 2, 1) := by decide +kernel
theorem dX0_write_61 : decode cX0_write 61 = .ok (.iload_n 3, 1) := by decide +kernel
theorem dX0_write_62 : decode cX0_write 62 = .ok (.invokevirtual 69, 3) := by decide +kernel
theorem dX0_write_65 : decode cX0_write 65 = .ok (.goto 12, 3) := by decide +kernel
theorem dX0_write_68 : decode cX0_write 68 = .ok (.aload_n 0, 1) := by decide +kernel
theorem dX0_write_69 : decode cX0_write 69 = .ok (.iload_n 1, 1) := by decide +kernel
theorem dX0_write_70 : decode cX0_write 70 = .ok (.iload_n 2, 1) := by decide +kernel
theorem dX0_write_71 : decode cX0_write 71 = .ok (.invokestatic 50, 3) := by decide +kernel
theorem dX0_write_74 : decode cX0_write 74 = .ok (.invokevirtual 72, 3) := by decide +kernel
theorem dX0_write_77 : decode cX0_write 77 = .ok (.aload_n 0, 1) := by decide +kernel
theorem dX0_write_78 : decode cX0_write 78 = .ok (.getfield 16, 3) := by decide +kernel
theorem dX0_write_81 : decode cX0_write 81 = .ok (.iload_n 1, 1) := by decide +kernel
theorem dX0_write_82 : decode cX0_write 82 = .ok (.iload_n 2, 1) := by decide +kernel
theorem dX0_write_83 : decode cX0_write 83 = .ok (.invokestatic 58, 3) := by decide +kernel
theorem dX0_write_86 : decode cX0_write 86 = .ok (.iload_n 3, 1) := by decide +kernel
theorem dX0_write_87 : decode cX0_write 87 = .ok (.iastore, 1) := by decide +kernel
theorem dX0_write_88 : decode cX0_write 88 = .ok (.aload_n 0, 1) := by decide +kernel
theorem dX0_write_89 : decode cX0_write 89 = .ok (.getfield 62, 3) := by decide +kernel
theorem dX0_write_92 : decode cX0_write 92 = .ok (.iload 4, 2) := by decide +kernel
theorem dX0_write_94 : decode cX0_write 94 = .ok (.isub, 1) := by decide +kernel
theorem dX0_write_95 : decode cX0_write 95 = .ok (.ireturn, 1) := by decide +kernel
theorem dX0_evict_0 : decode cX0_evict 0 = .ok (.iload_n 1, 1) := by decide +kernel
theorem dX0_evict_1 : decode cX0_evict 1 = .ok (.invokestatic 36, 3) := by decide +kernel
theorem dX0_evict_4 : decode cX0_evict 4 = .ok (.ifCond .eq 10, 3) := by decide +kernel
theorem dX0_evict_7 : decode cX0_evict 7 = .ok (.iload_n 2, 1) := by decide +kernel
theorem dX0_evict_8 : decode cX0_evict 8 = .ok (.invokestatic 76, 3) := by decide +kernel
theorem dX0_evict_11 : decode cX0_evict 11 = .ok (.ifCond .ne 13, 3) := by decide +kernel
theorem dX0_evict_14 : decode cX0_evict 14 = .ok (.new 43, 3) := by decide +kernel
theorem dX0_evict_17 : decode cX0_evict 17 = .ok (.dup, 1) := by decide +kernel
theorem dX0_evict_18 : decode cX0_evict 18 = .ok (.ldc 79, 2) := by decide +kernel
theorem dX0_evict_20 : decode cX0_evict 20 = .ok (.invokespecial 47, 3) := by decide +kernel
theorem dX0_evict_23 : decode cX0_evict 23 = .ok (.athrow, 1) := by decide +kernel
theorem dX0_evict_24 : decode cX0_evict 24 = .ok (.aload_n 0, 1) := by decide +kernel
theorem dX0_evict_25 : decode cX0_evict 25 = .ok (.iload_n 1, 1) := by decide +kernel
theorem dX0_evict_26 : decode cX0_evict 26 = .ok (.iload_n 2, 1) := by decide +kernel
theorem dX0_evict_27 : decode cX0_evict 27 = .ok (.invokevirtual 81, 3) := by decide +kernel
theorem dX0_evict_30 : decode cX0_evict 30 = .ok (.ifCond .ne 13, 3) := by decide +kernel
theorem dX0_evict_33 : decode cX0_evict 33 = .ok (.new 85, 3) := by decide +kernel
theorem dX0_evict_36 : decode cX0_evict 36 = .ok (.dup, 1) := by decide +kernel
theorem dX0_evict_37 : decode cX0_evict 37 = .ok (.ldc 87, 2) := by decide +kernel
theorem dX0_evict_39 : decode cX0_evict 39 = .ok (.invokespecial 89, 3) := by decide +kernel
theorem dX0_evict_42 : decode cX0_evict 42 = .ok (.athrow, 1) := by decide +kernel
theorem dX0_evict_43 : decode cX0_evict 43 = .ok (.aload_n 0, 1) := by decide +kernel
theorem dX0_evict_44 : decode cX0_evict 44 = .ok (.iload_n 1, 1) := by decide +kernel
theorem dX0_evict_45 : decode cX0_evict 45 = .ok (.iload_n 2, 1) := by decide +kernel
theorem dX0_evict_46 : decode cX0_evict 46 = .ok (.invokestatic 90, 3) := by decide +kernel
theorem dX0_evict_49 : decode cX0_evict 49 = .ok (.invokevirtual 93, 3) := by decide +kernel
theorem dX0_evict_52 : decode cX0_evict 52 = .ok (.ireturn, 1) := by decide +kernel
theorem dX0_flush_0 : decode cX0_flush 0 = .ok (.iconst 0, 1) := by decide +kernel
theorem dX0_flush_1 : decode cX0_flush 1 = .ok (.istore_n 1, 1) := by decide +kernel
theorem dX0_flush_2 : decode cX0_flush 2 = .ok (.iconst 0, 1) := by decide +kernel
theorem dX0_flush_3 : decode cX0_flush 3 = .ok (.istore_n 2, 1) := by decide +kernel
theorem dX0_flush_4 : decode cX0_flush 4 = .ok (.iload_n 2, 1) := by decide +kernel
theorem dX0_flush_5 : decode cX0_flush 5 = .ok (.bipush 8, 2) := by decide +kernel
theorem dX0_flush_7 : decode cX0_flush 7 = .ok (.if_icmp .ge 20, 3) := by decide +kernel
theorem dX0_flush_10 : decode cX0_flush 10 = .ok (.aload_n 0, 1) := by decide +kernel
theorem dX0_flush_11 : decode cX0_flush 11 = .ok (.iload_n 2, 1) := by decide +kernel
theorem dX0_flush_12 : decode cX0_flush 12 = .ok (.invokevirtual 93, 3) := by decide +kernel
theorem dX0_flush_15 : decode cX0_flush 15 = .ok (.ifCond .eq 6, 3) := by decide +kernel
theorem dX0_flush_18 : decode cX0_flush 18 = .ok (.iinc 1 1, 3) := by decide +kernel
theorem dX0_flush_21 : decode cX0_flush 21 = .ok (.iinc 2 1, 3) := by decide +kernel
theorem dX0_flush_24 : decode cX0_flush 24 = .ok (.goto (-20), 3) := by decide +kernel
theorem dX0_flush_27 : decode cX0_flush 27 = .ok (.iload_n 1, 1) := by decide +kernel
theorem dX0_flush_28 : decode cX0_flush 28 = .ok (.ireturn, 1) := by decide +kernel
theorem dX0_state_0 : decode cX0_state 0 = .ok (.iload_n 1, 1) := by decide +kernel
theorem dX0_state_1 : decode cX0_state 1 = .ok (.invokestatic 36, 3) := by decide +kernel
theorem dX0_state_4 : decode cX0_state 4 = .ok (.ifCond .eq 10, 3) := by decide +kernel
theorem dX0_state_7 : decode cX0_state 7 = .ok (.iload_n 2, 1) := by decide +kernel
theorem dX0_state_8 : decode cX0_state 8 = .ok (.invokestatic 76, 3) := by decide +kernel
theorem dX0_state_11 : decode cX0_state 11 = .ok (.ifCond .ne 5, 3) := by decide +kernel
theorem dX0_state_14 : decode cX0_state 14 = .ok (.iconst (-1), 1) := by decide +kernel
theorem dX0_state_15 : decode cX0_state 15 = .ok (.ireturn, 1) := by decide +kernel
theorem dX0_state_16 : decode cX0_state 16 = .ok (.aload_n 0, 1) := by decide +kernel
theorem dX0_state_17 : decode cX0_state 17 = .ok (.iload_n 1, 1) := by decide +kernel
theorem dX0_state_18 : decode cX0_state 18 = .ok (.iload_n 2, 1) := by decide +kernel
theorem dX0_state_19 : decode cX0_state 19 = .ok (.invokevirtual 81, 3) := by decide +kernel
theorem dX0_state_22 : decode cX0_state 22 = .ok (.ifCond .eq 16, 3) := by decide +kernel
theorem dX0_state_25 : decode cX0_state 25 = .ok (.aload_n 0, 1) := by decide +kernel
theorem dX0_state_26 : decode cX0_state 26 = .ok (.getfield 9, 3) := by decide +kernel
theorem dX0_state_29 : decode cX0_state 29 = .ok (.iload_n 1, 1) := by decide +kernel
theorem dX0_state_30 : decode cX0_state 30 = .ok (.iload_n 2, 1) := by decide +kernel
theorem dX0_state_31 : decode cX0_state 31 = .ok (.invokestatic 90, 3) := by decide +kernel
theorem dX0_state_34 : decode cX0_state 34 = .ok (.iaload, 1) := by decide +kernel
theorem dX0_state_35 : decode cX0_state 35 = .ok (.goto 4, 3) := by decide +kernel
theorem dX0_state_38 : decode cX0_state 38 = .ok (.iconst 0, 1) := by decide +kernel
theorem dX0_state_39 : decode cX0_state 39 = .ok (.ireturn, 1) := by decide +kernel
theorem dX0_cached_0 : decode cX0_cached 0 = .ok (.iload_n 1, 1) := by decide +kernel
theorem dX0_cached_1 : decode cX0_cached 1 = .ok (.invokestatic 36, 3) := by decide +kernel
theorem dX0_cached_4 : decode cX0_cached 4 = .ok (.ifCond .eq 22, 3) := by decide +kernel
theorem dX0_cached_7 : decode cX0_cached 7 = .ok (.iload_n 2, 1) := by decide +kernel
theorem dX0_cached_8 : decode cX0_cached 8 = .ok (.invokestatic 40, 3) := by decide +kernel
theorem dX0_cached_11 : decode cX0_cached 11 = .ok (.ifCond .eq 15, 3) := by decide +kernel
theorem dX0_cached_14 : decode cX0_cached 14 = .ok (.aload_n 0, 1) := by decide +kernel
theorem dX0_cached_15 : decode cX0_cached 15 = .ok (.iload_n 1, 1) := by decide +kernel
theorem dX0_cached_16 : decode cX0_cached 16 = .ok (.iload_n 2, 1) := by decide +kernel
theorem dX0_cached_17 : decode cX0_cached 17 = .ok (.invokestatic 50, 3) := by decide +kernel
theorem dX0_cached_20 : decode cX0_cached 20 = .ok (.invokevirtual 81, 3) := by decide +kernel
theorem dX0_cached_23 : decode cX0_cached 23 = .ok (.ifCond .ne 5, 3) := by decide +kernel
theorem dX0_cached_26 : decode cX0_cached 26 = .ok (.iconst 0, 1) := by decide +kernel
theorem dX0_cached_27 : decode cX0_cached 27 = .ok (.ireturn, 1) := by decide +kernel
theorem dX0_cached_28 : decode cX0_cached 28 = .ok (.aload_n 0, 1) := by decide +kernel
theorem dX0_cached_29 : decode cX0_cached 29 = .ok (.getfield 16, 3) := by decide +kernel
theorem dX0_cached_32 : decode cX0_cached 32 = .ok (.iload_n 1, 1) := by decide +kernel
theorem dX0_cached_33 : decode cX0_cached 33 = .ok (.iload_n 2, 1) := by decide +kernel
theorem dX0_cached_34 : decode cX0_cached 34 = .ok (.invokestatic 58, 3) := by decide +kernel
theorem dX0_cached_37 : decode cX0_cached 37 = .ok (.iaload, 1) := by decide +kernel
theorem dX0_cached_38 : decode cX0_cached 38 = .ok (.ireturn, 1) := by decide +kernel
theorem dX0_memory_0 : decode cX0_memory 0 = .ok (.iload_n 1, 1) := by decide +kernel
theorem dX0_memory_1 : decode cX0_memory 1 = .ok (.invokestatic 40, 3) := by decide +kernel
theorem dX0_memory_4 : decode cX0_memory 4 = .ok (.ifCond .eq 12, 3) := by decide +kernel
theorem dX0_memory_7 : decode cX0_memory 7 = .ok (.aload_n 0, 1) := by decide +kernel
theorem dX0_memory_8 : decode cX0_memory 8 = .ok (.getfield 19, 3) := by decide +kernel
theorem dX0_memory_11 : decode cX0_memory 11 = .ok (.iload_n 1, 1) := by decide +kernel
theorem dX0_memory_12 : decode cX0_memory 12 = .ok (.iaload, 1) := by decide +kernel
theorem dX0_memory_13 : decode cX0_memory 13 = .ok (.goto 4, 3) := by decide +kernel
theorem dX0_memory_16 : decode cX0_memory 16 = .ok (.iconst 0, 1) := by decide +kernel
theorem dX0_memory_17 : decode cX0_memory 17 = .ok (.ireturn, 1) := by decide +kernel
theorem dX0_count_0 : decode cX0_count 0 = .ok (.iload_n 1, 1) := by decide +kernel
theorem dX0_count_1 : decode cX0_count 1 = .ok (.ifCond .lt 17, 3) := by decide +kernel
theorem dX0_count_4 : decode cX0_count 4 = .ok (.iload_n 1, 1) := by decide +kernel
theorem dX0_count_5 : decode cX0_count 5 = .ok (.iconst 5, 1) := by decide +kernel
theorem dX0_count_6 : decode cX0_count 6 = .ok (.if_icmp .ge 12, 3) := by decide +kernel
theorem dX0_count_9 : decode cX0_count 9 = .ok (.aload_n 0, 1) := by decide +kernel
theorem dX0_count_10 : decode cX0_count 10 = .ok (.getfield 22, 3) := by decide +kernel
theorem dX0_count_13 : decode cX0_count 13 = .ok (.iload_n 1, 1) := by decide +kernel
theorem dX0_count_14 : decode cX0_count 14 = .ok (.iaload, 1) := by decide +kernel
theorem dX0_count_15 : decode cX0_count 15 = .ok (.goto 4, 3) := by decide +kernel
theorem dX0_count_18 : decode cX0_count 18 = .ok (.iconst (-1), 1) := by decide +kernel
theorem dX0_count_19 : decode cX0_count 19 = .ok (.ireturn, 1) := by decide +kernel
theorem dX0_hits_0 : decode cX0_hits 0 = .ok (.aload_n 0, 1) := by decide +kernel
theorem dX0_hits_1 : decode cX0_hits 1 = .ok (.getfield 96, 3) := by decide +kernel
theorem dX0_hits_4 : decode cX0_hits 4 = .ok (.ireturn, 1) := by decide +kernel
theorem dX0_misses_0 : decode cX0_misses 0 = .ok (.aload_n 0, 1) := by decide +kernel
theorem dX0_misses_1 : decode cX0_misses 1 = .ok (.getfield 99, 3) := by decide +kernel
theorem dX0_misses_4 : decode cX0_misses 4 = .ok (.ireturn, 1) := by decide +kernel
theorem dX0_latest_0 : decode cX0_latest 0 = .ok (.iload_n 1, 1) := by decide +kernel
theorem dX0_latest_1 : decode cX0_latest 1 = .ok (.ifCond .lt 18, 3) := by decide +kernel
theorem dX0_latest_4 : decode cX0_latest 4 = .ok (.iload_n 1, 1) := by decide +kernel
theorem dX0_latest_5 : decode cX0_latest 5 = .ok (.bipush 8, 2) := by decide +kernel
theorem dX0_latest_7 : decode cX0_latest 7 = .ok (.if_icmp .ge 12, 3) := by decide +kernel
theorem dX0_latest_10 : decode cX0_latest 10 = .ok (.aload_n 0, 1) := by decide +kernel
theorem dX0_latest_11 : decode cX0_latest 11 = .ok (.getfield 25, 3) := by decide +kernel
theorem dX0_latest_14 : decode cX0_latest 14 = .ok (.iload_n 1, 1) := by decide +kernel
theorem dX0_latest_15 : decode cX0_latest 15 = .ok (.iaload, 1) := by decide +kernel
theorem dX0_latest_16 : decode cX0_latest 16 = .ok (.goto 4, 3) := by decide +kernel
theorem dX0_latest_19 : decode cX0_latest 19 = .ok (.iconst (-1), 1) := by decide +kernel
theorem dX0_latest_20 : decode cX0_latest 20 = .ok (.ireturn, 1) := by decide +kernel
theorem dX0_startOver_0 : decode cX0_startOver 0 = .ok (.aload_n 0, 1) := by decide +kernel
theorem dX0_startOver_1 : decode cX0_startOver 1 = .ok (.getfield 9, 3) := by decide +kernel
theorem dX0_startOver_4 : decode cX0_startOver 4 = .ok (.iconst 0, 1) := by decide +kernel
theorem dX0_startOver_5 : decode cX0_startOver 5 = .ok (.invokestatic 102, 3) := by decide +kernel
theorem dX0_startOver_8 : decode cX0_startOver 8 = .ok (.aload_n 0, 1) := by decide +kernel
theorem dX0_startOver_9 : decode cX0_startOver 9 = .ok (.getfield 19, 3) := by decide +kernel
theorem dX0_startOver_12 : decode cX0_startOver 12 = .ok (.iconst 0, 1) := by decide +kernel
theorem dX0_startOver_13 : decode cX0_startOver 13 = .ok (.invokestatic 102, 3) := by decide +kernel
theorem dX0_startOver_16 : decode cX0_startOver 16 = .ok (.aload_n 0, 1) := by decide +kernel
theorem dX0_startOver_17 : decode cX0_startOver 17 = .ok (.getfield 22, 3) := by decide +kernel
theorem dX0_startOver_20 : decode cX0_startOver 20 = .ok (.iconst 0, 1) := by decide +kernel
theorem dX0_startOver_21 : decode cX0_startOver 21 = .ok (.invokestatic 102, 3) := by decide +kernel
theorem dX0_startOver_24 : decode cX0_startOver 24 = .ok (.aload_n 0, 1) := by decide +kernel
theorem dX0_startOver_25 : decode cX0_startOver 25 = .ok (.getfield 25, 3) := by decide +kernel
theorem dX0_startOver_28 : decode cX0_startOver 28 = .ok (.iconst (-1), 1) := by decide +kernel
theorem dX0_startOver_29 : decode cX0_startOver 29 = .ok (.invokestatic 102, 3) := by decide +kernel
theorem dX0_startOver_32 : decode cX0_startOver 32 = .ok (.aload_n 0, 1) := by decide +kernel
theorem dX0_startOver_33 : decode cX0_startOver 33 = .ok (.iload_n 1, 1) := by decide +kernel
theorem dX0_startOver_34 : decode cX0_startOver 34 = .ok (.putfield 32, 3) := by decide +kernel
theorem dX0_startOver_37 : decode cX0_startOver 37 = .ok (.aload_n 0, 1) := by decide +kernel
theorem dX0_startOver_38 : decode cX0_startOver 38 = .ok (.iconst 0, 1) := by decide +kernel
theorem dX0_startOver_39 : decode cX0_startOver 39 = .ok (.putfield 62, 3) := by decide +kernel
theorem dX0_startOver_42 : decode cX0_startOver 42 = .ok (.aload_n 0, 1) := by decide +kernel
theorem dX0_startOver_43 : decode cX0_startOver 43 = .ok (.iconst 0, 1) := by decide +kernel
theorem dX0_startOver_44 : decode cX0_startOver 44 = .ok (.putfield 96, 3) := by decide +kernel
theorem dX0_startOver_47 : decode cX0_startOver 47 = .ok (.aload_n 0, 1) := by decide +kernel
theorem dX0_startOver_48 : decode cX0_startOver 48 = .ok (.iconst 0, 1) := by decide +kernel
theorem dX0_startOver_49 : decode cX0_startOver 49 = .ok (.putfield 99, 3) := by decide +kernel
theorem dX0_startOver_52 : decode cX0_startOver 52 = .ok (.return_, 1) := by decide +kernel
theorem dX0_isProcessor_0 : decode cX0_isProcessor 0 = .ok (.iload_n 0, 1) := by decide +kernel
theorem dX0_isProcessor_1 : decode cX0_isProcessor 1 = .ok (.ifCond .lt 12, 3) := by decide +kernel
theorem dX0_isProcessor_4 : decode cX0_isProcessor 4 = .ok (.iload_n 0, 1) := by decide +kernel
theorem dX0_isProcessor_5 : decode cX0_isProcessor 5 = .ok (.iconst 4, 1) := by decide +kernel
theorem dX0_isProcessor_6 : decode cX0_isProcessor 6 = .ok (.if_icmp .ge 7, 3) := by decide +kernel
theorem dX0_isProcessor_9 : decode cX0_isProcessor 9 = .ok (.iconst 1, 1) := by decide +kernel
theorem dX0_isProcessor_10 : decode cX0_isProcessor 10 = .ok (.goto 4, 3) := by decide +kernel
theorem dX0_isProcessor_13 : decode cX0_isProcessor 13 = .ok (.iconst 0, 1) := by decide +kernel
theorem dX0_isProcessor_14 : decode cX0_isProcessor 14 = .ok (.ireturn, 1) := by decide +kernel
theorem dX0_isAddress_0 : decode cX0_isAddress 0 = .ok (.iload_n 0, 1) := by decide +kernel
theorem dX0_isAddress_1 : decode cX0_isAddress 1 = .ok (.ifCond .lt 13, 3) := by decide +kernel
theorem dX0_isAddress_4 : decode cX0_isAddress 4 = .ok (.iload_n 0, 1) := by decide +kernel
theorem dX0_isAddress_5 : decode cX0_isAddress 5 = .ok (.bipush 32, 2) := by decide +kernel
theorem dX0_isAddress_7 : decode cX0_isAddress 7 = .ok (.if_icmp .ge 7, 3) := by decide +kernel
theorem dX0_isAddress_10 : decode cX0_isAddress 10 = .ok (.iconst 1, 1) := by decide +kernel
theorem dX0_isAddress_11 : decode cX0_isAddress 11 = .ok (.goto 4, 3) := by decide +kernel
theorem dX0_isAddress_14 : decode cX0_isAddress 14 = .ok (.iconst 0, 1) := by decide +kernel
theorem dX0_isAddress_15 : decode cX0_isAddress 15 = .ok (.ireturn, 1) := by decide +kernel
theorem dX0_isBlock_0 : decode cX0_isBlock 0 = .ok (.iload_n 0, 1) := by decide +kernel
theorem dX0_isBlock_1 : decode cX0_isBlock 1 = .ok (.ifCond .lt 13, 3) := by decide +kernel
theorem dX0_isBlock_4 : decode cX0_isBlock 4 = .ok (.iload_n 0, 1) := by decide +kernel
theorem dX0_isBlock_5 : decode cX0_isBlock 5 = .ok (.bipush 16, 2) := by decide +kernel
theorem dX0_isBlock_7 : decode cX0_isBlock 7 = .ok (.if_icmp .ge 7, 3) := by decide +kernel
theorem dX0_isBlock_10 : decode cX0_isBlock 10 = .ok (.iconst 1, 1) := by decide +kernel
theorem dX0_isBlock_11 : decode cX0_isBlock 11 = .ok (.goto 4, 3) := by decide +kernel
theorem dX0_isBlock_14 : decode cX0_isBlock 14 = .ok (.iconst 0, 1) := by decide +kernel
theorem dX0_isBlock_15 : decode cX0_isBlock 15 = .ok (.ireturn, 1) := by decide +kernel
theorem dX0_isDirty_0 : decode cX0_isDirty 0 = .ok (.iload_n 0, 1) := by decide +kernel
theorem dX0_isDirty_1 : decode cX0_isDirty 1 = .ok (.iconst 3, 1) := by decide +kernel
theorem dX0_isDirty_2 : decode cX0_isDirty 2 = .ok (.if_icmp .eq 8, 3) := by decide +kernel
theorem dX0_isDirty_5 : decode cX0_isDirty 5 = .ok (.iload_n 0, 1) := by decide +kernel
theorem dX0_isDirty_6 : decode cX0_isDirty 6 = .ok (.iconst 4, 1) := by decide +kernel
theorem dX0_isDirty_7 : decode cX0_isDirty 7 = .ok (.if_icmp .ne 7, 3) := by decide +kernel
theorem dX0_isDirty_10 : decode cX0_isDirty 10 = .ok (.iconst 1, 1) := by decide +kernel
theorem dX0_isDirty_11 : decode cX0_isDirty 11 = .ok (.goto 4, 3) := by decide +kernel
theorem dX0_isDirty_14 : decode cX0_isDirty 14 = .ok (.iconst 0, 1) := by decide +kernel
theorem dX0_isDirty_15 : decode cX0_isDirty 15 = .ok (.ireturn, 1) := by decide +kernel
theorem dX0_blockOf_0 : decode cX0_blockOf 0 = .ok (.iload_n 0, 1) := by decide +kernel
theorem dX0_blockOf_1 : decode cX0_blockOf 1 = .ok (.iconst 2, 1) := by decide +kernel
theorem dX0_blockOf_2 : decode cX0_blockOf 2 = .ok (.idiv, 1) := by decide +kernel
theorem dX0_blockOf_3 : decode cX0_blockOf 3 = .ok (.ireturn, 1) := by decide +kernel
theorem dX0_lineFor_0 : decode cX0_lineFor 0 = .ok (.iload_n 0, 1) := by decide +kernel
theorem dX0_lineFor_1 : decode cX0_lineFor 1 = .ok (.iconst 2, 1) := by decide +kernel
theorem dX0_lineFor_2 : decode cX0_lineFor 2 = .ok (.imul, 1) := by decide +kernel
theorem dX0_lineFor_3 : decode cX0_lineFor 3 = .ok (.iload_n 1, 1) := by decide +kernel
theorem dX0_lineFor_4 : decode cX0_lineFor 4 = .ok (.iconst 2, 1) := by decide +kernel
theorem dX0_lineFor_5 : decode cX0_lineFor 5 = .ok (.irem, 1) := by decide +kernel
theorem dX0_lineFor_6 : decode cX0_lineFor 6 = .ok (.iadd, 1) := by decide +kernel
theorem dX0_lineFor_7 : decode cX0_lineFor 7 = .ok (.ireturn, 1) := by decide +kernel
theorem dX0_wordIndex_0 : decode cX0_wordIndex 0 = .ok (.iload_n 0, 1) := by decide +kernel
theorem dX0_wordIndex_1 : decode cX0_wordIndex 1 = .ok (.iload_n 1, 1) := by decide +kernel
theorem dX0_wordIndex_2 : decode cX0_wordIndex 2 = .ok (.invokestatic 50, 3) := by decide +kernel
theorem dX0_wordIndex_5 : decode cX0_wordIndex 5 = .ok (.invokestatic 90, 3) := by decide +kernel
theorem dX0_wordIndex_8 : decode cX0_wordIndex 8 = .ok (.iconst 2, 1) := by decide +kernel
theorem dX0_wordIndex_9 : decode cX0_wordIndex 9 = .ok (.imul, 1) := by decide +kernel
theorem dX0_wordIndex_10 : decode cX0_wordIndex 10 = .ok (.iload_n 1, 1) := by decide +kernel
theorem dX0_wordIndex_11 : decode cX0_wordIndex 11 = .ok (.iconst 2, 1) := by decide +kernel
theorem dX0_wordIndex_12 : decode cX0_wordIndex 12 = .ok (.irem, 1) := by decide +kernel
theorem dX0_wordIndex_13 : decode cX0_wordIndex 13 = .ok (.iadd, 1) := by decide +kernel
theorem dX0_wordIndex_14 : decode cX0_wordIndex 14 = .ok (.ireturn, 1) := by decide +kernel
theorem dX0_updates_0 : decode cX0_updates 0 = .ok (.aload_n 0, 1) := by decide +kernel
theorem dX0_updates_1 : decode cX0_updates 1 = .ok (.getfield 32, 3) := by decide +kernel
theorem dX0_updates_4 : decode cX0_updates 4 = .ok (.iconst 3, 1) := by decide +kernel
theorem dX0_updates_5 : decode cX0_updates 5 = .ok (.if_icmp .ne 7, 3) := by decide +kernel
theorem dX0_updates_8 : decode cX0_updates 8 = .ok (.iconst 1, 1) := by decide +kernel
theorem dX0_updates_9 : decode cX0_updates 9 = .ok (.goto 4, 3) := by decide +kernel
theorem dX0_updates_12 : decode cX0_updates 12 = .ok (.iconst 0, 1) := by decide +kernel
theorem dX0_updates_13 : decode cX0_updates 13 = .ok (.ireturn, 1) := by decide +kernel
theorem dX0_holds_0 : decode cX0_holds 0 = .ok (.iload_n 1, 1) := by decide +kernel
theorem dX0_holds_1 : decode cX0_holds 1 = .ok (.iload_n 2, 1) := by decide +kernel
theorem dX0_holds_2 : decode cX0_holds 2 = .ok (.invokestatic 90, 3) := by decide +kernel
theorem dX0_holds_5 : decode cX0_holds 5 = .ok (.istore_n 3, 1) := by decide +kernel
theorem dX0_holds_6 : decode cX0_holds 6 = .ok (.aload_n 0, 1) := by decide +kernel
theorem dX0_holds_7 : decode cX0_holds 7 = .ok (.getfield 9, 3) := by decide +kernel
theorem dX0_holds_10 : decode cX0_holds 10 = .ok (.iload_n 3, 1) := by decide +kernel
theorem dX0_holds_11 : decode cX0_holds 11 = .ok (.iaload, 1) := by decide +kernel
theorem dX0_holds_12 : decode cX0_holds 12 = .ok (.ifCond .eq 17, 3) := by decide +kernel
theorem dX0_holds_15 : decode cX0_holds 15 = .ok (.aload_n 0, 1) := by decide +kernel
theorem dX0_holds_16 : decode cX0_holds 16 = .ok (.getfield 13, 3) := by decide +kernel
theorem dX0_holds_19 : decode cX0_holds 19 = .ok (.iload_n 3, 1) := by decide +kernel
theorem dX0_holds_20 : decode cX0_holds 20 = .ok (.iaload, 1) := by decide +kernel
theorem dX0_holds_21 : decode cX0_holds 21 = .ok (.iload_n 2, 1) := by decide +kernel
theorem dX0_holds_22 : decode cX0_holds 22 = .ok (.if_icmp .ne 7, 3) := by decide +kernel
theorem dX0_holds_25 : decode cX0_holds 25 = .ok (.iconst 1, 1) := by decide +kernel
theorem dX0_holds_26 : decode cX0_holds 26 = .ok (.goto 4, 3) := by decide +kernel
theorem dX0_holds_29 : decode cX0_holds 29 = .ok (.iconst 0, 1) := by decide +kernel
theorem dX0_holds_30 : decode cX0_holds 30 = .ok (.ireturn, 1) := by decide +kernel
theorem dX0_transact_0 : decode cX0_transact 0 = .ok (.bipush 7, 2) := by decide +kernel
theorem dX0_transact_2 : decode cX0_transact 2 = .ok (.istore 4, 2) := by decide +kernel
theorem dX0_transact_4 : decode cX0_transact 4 = .ok (.iload 4, 2) := by decide +kernel
theorem dX0_transact_6 : decode cX0_transact 6 = .ok (.ifCond .le 25, 3) := by decide +kernel
theorem dX0_transact_9 : decode cX0_transact 9 = .ok (.aload_n 0, 1) := by decide +kernel
theorem dX0_transact_10 : decode cX0_transact 10 = .ok (.getfield 25, 3) := by decide +kernel
theorem dX0_transact_13 : decode cX0_transact 13 = .ok (.iload 4, 2) := by decide +kernel
theorem dX0_transact_15 : decode cX0_transact 15 = .ok (.aload_n 0, 1) := by decide +kernel
theorem dX0_transact_16 : decode cX0_transact 16 = .ok (.getfield 25, 3) := by decide +kernel
theorem dX0_transact_19 : decode cX0_transact 19 = .ok (.iload 4, 2) := by decide +kernel
theorem dX0_transact_21 : decode cX0_transact 21 = .ok (.iconst 1, 1) := by decide +kernel
theorem dX0_transact_22 : decode cX0_transact 22 = .ok (.isub, 1) := by decide +kernel
theorem dX0_transact_23 : decode cX0_transact 23 = .ok (.iaload, 1) := by decide +kernel
theorem dX0_transact_24 : decode cX0_transact 24 = .ok (.iastore, 1) := by decide +kernel
theorem dX0_transact_25 : decode cX0_transact 25 = .ok (.iinc 4 (-1), 3) := by decide +kernel
theorem dX0_transact_28 : decode cX0_transact 28 = .ok (.goto (-24), 3) := by decide +kernel
theorem dX0_transact_31 : decode cX0_transact 31 = .ok (.aload_n 0, 1) := by decide +kernel
theorem dX0_transact_32 : decode cX0_transact 32 = .ok (.getfield 25, 3) := by decide +kernel
theorem dX0_transact_35 : decode cX0_transact 35 = .ok (.iconst 0, 1) := by decide +kernel
theorem dX0_transact_36 : decode cX0_transact 36 = .ok (.bipush 64, 2) := by decide +kernel
theorem dX0_transact_38 : decode cX0_transact 38 = .ok (.iload_n 1, 1) := by decide +kernel
theorem dX0_transact_39 : decode cX0_transact 39 = .ok (.imul, 1) := by decide +kernel
theorem dX0_transact_40 : decode cX0_transact 40 = .ok (.bipush 16, 2) := by decide +kernel
theorem dX0_transact_42 : decode cX0_transact 42 = .ok (.iload_n 2, 1) := by decide +kernel
theorem dX0_transact_43 : decode cX0_transact 43 = .ok (.imul, 1) := by decide +kernel
theorem dX0_transact_44 : decode cX0_transact 44 = .ok (.iadd, 1) := by decide +kernel
theorem dX0_transact_45 : decode cX0_transact 45 = .ok (.iload_n 3, 1) := by decide +kernel
theorem dX0_transact_46 : decode cX0_transact 46 = .ok (.iadd, 1) := by decide +kernel
theorem dX0_transact_47 : decode cX0_transact 47 = .ok (.iastore, 1) := by decide +kernel
theorem dX0_transact_48 : decode cX0_transact 48 = .ok (.aload_n 0, 1) := by decide +kernel
theorem dX0_transact_49 : decode cX0_transact 49 = .ok (.getfield 22, 3) := by decide +kernel
theorem dX0_transact_52 : decode cX0_transact 52 = .ok (.iload_n 1, 1) := by decide +kernel
theorem dX0_transact_53 : decode cX0_transact 53 = .ok (.dup2, 1) := by decide +kernel
theorem dX0_transact_54 : decode cX0_transact 54 = .ok (.iaload, 1) := by decide +kernel
theorem dX0_transact_55 : decode cX0_transact 55 = .ok (.iconst 1, 1) := by decide +kernel
theorem dX0_transact_56 : decode cX0_transact 56 = .ok (.iadd, 1) := by decide +kernel
theorem dX0_transact_57 : decode cX0_transact 57 = .ok (.iastore, 1) := by decide +kernel
theorem dX0_transact_58 : decode cX0_transact 58 = .ok (.aload_n 0, 1) := by decide +kernel
theorem dX0_transact_59 : decode cX0_transact 59 = .ok (.dup, 1) := by decide +kernel
theorem dX0_transact_60 : decode cX0_transact 60 = .ok (.getfield 62, 3) := by decide +kernel
theorem dX0_transact_63 : decode cX0_transact 63 = .ok (.iconst 1, 1) := by decide +kernel
theorem dX0_transact_64 : decode cX0_transact 64 = .ok (.iadd, 1) := by decide +kernel
theorem dX0_transact_65 : decode cX0_transact 65 = .ok (.putfield 62, 3) := by decide +kernel
theorem dX0_transact_68 : decode cX0_transact 68 = .ok (.return_, 1) := by decide +kernel
theorem dX0_copyToMemory_0 : decode cX0_copyToMemory 0 = .ok (.aload_n 0, 1) := by decide +kernel
theorem dX0_copyToMemory_1 : decode cX0_copyToMemory 1 = .ok (.getfield 16, 3) := by decide +kernel
theorem dX0_copyToMemory_4 : decode cX0_copyToMemory 4 = .ok (.iload_n 1, 1) := by decide +kernel
theorem dX0_copyToMemory_5 : decode cX0_copyToMemory 5 = .ok (.iconst 2, 1) := by decide +kernel
theorem dX0_copyToMemory_6 : decode cX0_copyToMemory 6 = .ok (.imul, 1) := by decide +kernel
theorem dX0_copyToMemory_7 : decode cX0_copyToMemory 7 = .ok (.aload_n 0, 1) := by decide +kernel
theorem dX0_copyToMemory_8 : decode cX0_copyToMemory 8 = .ok (.getfield 19, 3) := by decide +kernel
theorem dX0_copyToMemory_11 : decode cX0_copyToMemory 11 = .ok (.aload_n 0, 1) := by decide +kernel
theorem dX0_copyToMemory_12 : decode cX0_copyToMemory 12 = .ok (.getfield 13, 3) := by decide +kernel
theorem dX0_copyToMemory_15 : decode cX0_copyToMemory 15 = .ok (.iload_n 1, 1) := by decide +kernel
theorem dX0_copyToMemory_16 : decode cX0_copyToMemory 16 = .ok (.iaload, 1) := by decide +kernel
theorem dX0_copyToMemory_17 : decode cX0_copyToMemory 17 = .ok (.iconst 2, 1) := by decide +kernel
theorem dX0_copyToMemory_18 : decode cX0_copyToMemory 18 = .ok (.imul, 1) := by decide +kernel
theorem dX0_copyToMemory_19 : decode cX0_copyToMemory 19 = .ok (.iconst 2, 1) := by decide +kernel
theorem dX0_copyToMemory_20 : decode cX0_copyToMemory 20 = .ok (.invokestatic 108, 3) := by decide +kernel
theorem dX0_copyToMemory_23 : decode cX0_copyToMemory 23 = .ok (.return_, 1) := by decide +kernel
theorem dX0_emptyLine_0 : decode cX0_emptyLine 0 = .ok (.aload_n 0, 1) := by decide +kernel
theorem dX0_emptyLine_1 : decode cX0_emptyLine 1 = .ok (.getfield 9, 3) := by decide +kernel
theorem dX0_emptyLine_4 : decode cX0_emptyLine 4 = .ok (.iload_n 1, 1) := by decide +kernel
theorem dX0_emptyLine_5 : decode cX0_emptyLine 5 = .ok (.iaload, 1) := by decide +kernel
theorem dX0_emptyLine_6 : decode cX0_emptyLine 6 = .ok (.invokestatic 114, 3) := by decide +kernel
theorem dX0_emptyLine_9 : decode cX0_emptyLine 9 = .ok (.istore_n 2, 1) := by decide +kernel
theorem dX0_emptyLine_10 : decode cX0_emptyLine 10 = .ok (.iload_n 2, 1) := by decide +kernel
theorem dX0_emptyLine_11 : decode cX0_emptyLine 11 = .ok (.ifCond .eq 22, 3) := by decide +kernel
theorem dX0_emptyLine_14 : decode cX0_emptyLine 14 = .ok (.aload_n 0, 1) := by decide +kernel
theorem dX0_emptyLine_15 : decode cX0_emptyLine 15 = .ok (.iconst 4, 1) := by decide +kernel
theorem dX0_emptyLine_16 : decode cX0_emptyLine 16 = .ok (.iload_n 1, 1) := by decide +kernel
theorem dX0_emptyLine_17 : decode cX0_emptyLine 17 = .ok (.iconst 2, 1) := by decide +kernel
theorem dX0_emptyLine_18 : decode cX0_emptyLine 18 = .ok (.idiv, 1) := by decide +kernel
theorem dX0_emptyLine_19 : decode cX0_emptyLine 19 = .ok (.aload_n 0, 1) := by decide +kernel
theorem dX0_emptyLine_20 : decode cX0_emptyLine 20 = .ok (.getfield 13, 3) := by decide +kernel
theorem dX0_emptyLine_23 : decode cX0_emptyLine 23 = .ok (.iload_n 1, 1) := by decide +kernel
theorem dX0_emptyLine_24 : decode cX0_emptyLine 24 = .ok (.iaload, 1) := by decide +kernel
theorem dX0_emptyLine_25 : decode cX0_emptyLine 25 = .ok (.invokevirtual 117, 3) := by decide +kernel
theorem dX0_emptyLine_28 : decode cX0_emptyLine 28 = .ok (.aload_n 0, 1) := by decide +kernel
theorem dX0_emptyLine_29 : decode cX0_emptyLine 29 = .ok (.iload_n 1, 1) := by decide +kernel
theorem dX0_emptyLine_30 : decode cX0_emptyLine 30 = .ok (.invokevirtual 120, 3) := by decide +kernel
theorem dX0_emptyLine_33 : decode cX0_emptyLine 33 = .ok (.aload_n 0, 1) := by decide +kernel
theorem dX0_emptyLine_34 : decode cX0_emptyLine 34 = .ok (.getfield 9, 3) := by decide +kernel
theorem dX0_emptyLine_37 : decode cX0_emptyLine 37 = .ok (.iload_n 1, 1) := by decide +kernel
theorem dX0_emptyLine_38 : decode cX0_emptyLine 38 = .ok (.iconst 0, 1) := by decide +kernel
theorem dX0_emptyLine_39 : decode cX0_emptyLine 39 = .ok (.iastore, 1) := by decide +kernel
theorem dX0_emptyLine_40 : decode cX0_emptyLine 40 = .ok (.iload_n 2, 1) := by decide +kernel
theorem dX0_emptyLine_41 : decode cX0_emptyLine 41 = .ok (.ireturn, 1) := by decide +kernel
theorem dX0_bringIn_0 : decode cX0_bringIn 0 = .ok (.aload_n 0, 1) := by decide +kernel
theorem dX0_bringIn_1 : decode cX0_bringIn 1 = .ok (.iload_n 1, 1) := by decide +kernel
theorem dX0_bringIn_2 : decode cX0_bringIn 2 = .ok (.iload_n 2, 1) := by decide +kernel
theorem dX0_bringIn_3 : decode cX0_bringIn 3 = .ok (.invokevirtual 81, 3) := by decide +kernel
theorem dX0_bringIn_6 : decode cX0_bringIn 6 = .ok (.ifCond .eq 16, 3) := by decide +kernel
theorem dX0_bringIn_9 : decode cX0_bringIn 9 = .ok (.aload_n 0, 1) := by decide +kernel
theorem dX0_bringIn_10 : decode cX0_bringIn 10 = .ok (.dup, 1) := by decide +kernel
theorem dX0_bringIn_11 : decode cX0_bringIn 11 = .ok (.getfield 96, 3) := by decide +kernel
theorem dX0_bringIn_14 : decode cX0_bringIn 14 = .ok (.iconst 1, 1) := by decide +kernel
theorem dX0_bringIn_15 : decode cX0_bringIn 15 = .ok (.iadd, 1) := by decide +kernel
theorem dX0_bringIn_16 : decode cX0_bringIn 16 = .ok (.putfield 96, 3) := by decide +kernel
theorem dX0_bringIn_19 : decode cX0_bringIn 19 = .ok (.goto 20, 3) := by decide +kernel
theorem dX0_bringIn_22 : decode cX0_bringIn 22 = .ok (.aload_n 0, 1) := by decide +kernel
theorem dX0_bringIn_23 : decode cX0_bringIn 23 = .ok (.dup, 1) := by decide +kernel
theorem dX0_bringIn_24 : decode cX0_bringIn 24 = .ok (.getfield 99, 3) := by decide +kernel
theorem dX0_bringIn_27 : decode cX0_bringIn 27 = .ok (.iconst 1, 1) := by decide +kernel
theorem dX0_bringIn_28 : decode cX0_bringIn 28 = .ok (.iadd, 1) := by decide +kernel
theorem dX0_bringIn_29 : decode cX0_bringIn 29 = .ok (.putfield 99, 3) := by decide +kernel
theorem dX0_bringIn_32 : decode cX0_bringIn 32 = .ok (.aload_n 0, 1) := by decide +kernel
theorem dX0_bringIn_33 : decode cX0_bringIn 33 = .ok (.iload_n 1, 1) := by decide +kernel
theorem dX0_bringIn_34 : decode cX0_bringIn 34 = .ok (.iload_n 2, 1) := by decide +kernel
theorem dX0_bringIn_35 : decode cX0_bringIn 35 = .ok (.iload_n 3, 1) := by decide +kernel
theorem dX0_bringIn_36 : decode cX0_bringIn 36 = .ok (.invokevirtual 123, 3) := by decide +kernel
theorem dX0_bringIn_39 : decode cX0_bringIn 39 = .ok (.return_, 1) := by decide +kernel
theorem dX0_load_0 : decode cX0_load 0 = .ok (.iload_n 1, 1) := by decide +kernel
theorem dX0_load_1 : decode cX0_load 1 = .ok (.iload_n 2, 1) := by decide +kernel
theorem dX0_load_2 : decode cX0_load 2 = .ok (.invokestatic 90, 3) := by decide +kernel
theorem dX0_load_5 : decode cX0_load 5 = .ok (.istore 4, 2) := by decide +kernel
theorem dX0_load_7 : decode cX0_load 7 = .ok (.aload_n 0, 1) := by decide +kernel
theorem dX0_load_8 : decode cX0_load 8 = .ok (.iload 4, 2) := by decide +kernel
theorem dX0_load_10 : decode cX0_load 10 = .ok (.invokevirtual 93, 3) := by decide +kernel
theorem dX0_load_13 : decode cX0_load 13 = .ok (.pop, 1) := by decide +kernel
theorem dX0_load_14 : decode cX0_load 14 = .ok (.aload_n 0, 1) := by decide +kernel
theorem dX0_load_15 : decode cX0_load 15 = .ok (.iload_n 3, 1) := by decide +kernel
theorem dX0_load_16 : decode cX0_load 16 = .ok (.iload_n 1, 1) := by decide +kernel
theorem dX0_load_17 : decode cX0_load 17 = .ok (.iload_n 2, 1) := by decide +kernel
theorem dX0_load_18 : decode cX0_load 18 = .ok (.invokevirtual 117, 3) := by decide +kernel
theorem dX0_load_21 : decode cX0_load 21 = .ok (.aload_n 0, 1) := by decide +kernel
theorem dX0_load_22 : decode cX0_load 22 = .ok (.iload 4, 2) := by decide +kernel
theorem dX0_load_24 : decode cX0_load 24 = .ok (.iload_n 2, 1) := by decide +kernel
theorem dX0_load_25 : decode cX0_load 25 = .ok (.invokevirtual 126, 3) := by decide +kernel
theorem dX0_load_28 : decode cX0_load 28 = .ok (.iconst 4, 1) := by decide +kernel
theorem dX0_load_29 : decode cX0_load 29 = .ok (.istore 5, 2) := by decide +kernel
theorem dX0_load_31 : decode cX0_load 31 = .ok (.iload_n 3, 1) := by decide +kernel
theorem dX0_load_32 : decode cX0_load 32 = .ok (.iconst 1, 1) := by decide +kernel
theorem dX0_load_33 : decode cX0_load 33 = .ok (.if_icmp .ne 12, 3) := by decide +kernel
theorem dX0_load_36 : decode cX0_load 36 = .ok (.aload_n 0, 1) := by decide +kernel
theorem dX0_load_37 : decode cX0_load 37 = .ok (.iload_n 1, 1) := by decide +kernel
theorem dX0_load_38 : decode cX0_load 38 = .ok (.iload_n 2, 1) := by decide +kernel
theorem dX0_load_39 : decode cX0_load 39 = .ok (.invokevirtual 129, 3) := by decide +kernel
theorem dX0_load_42 : decode cX0_load 42 = .ok (.goto 11, 3) := by decide +kernel
theorem dX0_load_45 : decode cX0_load 45 = .ok (.aload_n 0, 1) := by decide +kernel
theorem dX0_load_46 : decode cX0_load 46 = .ok (.iload_n 1, 1) := by decide +kernel
theorem dX0_load_47 : decode cX0_load 47 = .ok (.iload_n 2, 1) := by decide +kernel
theorem dX0_load_48 : decode cX0_load 48 = .ok (.invokevirtual 132, 3) := by decide +kernel
theorem dX0_load_51 : decode cX0_load 51 = .ok (.istore 5, 2) := by decide +kernel
theorem dX0_load_53 : decode cX0_load 53 = .ok (.aload_n 0, 1) := by decide +kernel
theorem dX0_load_54 : decode cX0_load 54 = .ok (.getfield 13, 3) := by decide +kernel
theorem dX0_load_57 : decode cX0_load 57 = .ok (.iload 4, 2) := by decide +kernel
theorem dX0_load_59 : decode cX0_load 59 = .ok (.iload_n 2, 1) := by decide +kernel
theorem dX0_load_60 : decode cX0_load 60 = .ok (.iastore, 1) := by decide +kernel
theorem dX0_load_61 : decode cX0_load 61 = .ok (.aload_n 0, 1) := by decide +kernel
theorem dX0_load_62 : decode cX0_load 62 = .ok (.getfield 9, 3) := by decide +kernel
theorem dX0_load_65 : decode cX0_load 65 = .ok (.iload 4, 2) := by decide +kernel
theorem dX0_load_67 : decode cX0_load 67 = .ok (.iload 5, 2) := by decide +kernel
theorem dX0_load_69 : decode cX0_load 69 = .ok (.iastore, 1) := by decide +kernel
theorem dX0_load_70 : decode cX0_load 70 = .ok (.return_, 1) := by decide +kernel
theorem dX0_fetchWords_0 : decode cX0_fetchWords 0 = .ok (.aload_n 0, 1) := by decide +kernel
theorem dX0_fetchWords_1 : decode cX0_fetchWords 1 = .ok (.iload_n 2, 1) := by decide +kernel
theorem dX0_fetchWords_2 : decode cX0_fetchWords 2 = .ok (.invokevirtual 135, 3) := by decide +kernel
theorem dX0_fetchWords_5 : decode cX0_fetchWords 5 = .ok (.istore_n 3, 1) := by decide +kernel
theorem dX0_fetchWords_6 : decode cX0_fetchWords 6 = .ok (.iload_n 3, 1) := by decide +kernel
theorem dX0_fetchWords_7 : decode cX0_fetchWords 7 = .ok (.iconst (-1), 1) := by decide +kernel
theorem dX0_fetchWords_8 : decode cX0_fetchWords 8 = .ok (.if_icmp .ne 24, 3) := by decide +kernel
theorem dX0_fetchWords_11 : decode cX0_fetchWords 11 = .ok (.aload_n 0, 1) := by decide +kernel
theorem dX0_fetchWords_12 : decode cX0_fetchWords 12 = .ok (.getfield 19, 3) := by decide +kernel
theorem dX0_fetchWords_15 : decode cX0_fetchWords 15 = .ok (.iload_n 2, 1) := by decide +kernel
theorem dX0_fetchWords_16 : decode cX0_fetchWords 16 = .ok (.iconst 2, 1) := by decide +kernel
theorem dX0_fetchWords_17 : decode cX0_fetchWords 17 = .ok (.imul, 1) := by decide +kernel
theorem dX0_fetchWords_18 : decode cX0_fetchWords 18 = .ok (.aload_n 0, 1) := by decide +kernel
theorem dX0_fetchWords_19 : decode cX0_fetchWords 19 = .ok (.getfield 16, 3) := by decide +kernel
theorem dX0_fetchWords_22 : decode cX0_fetchWords 22 = .ok (.iload_n 1, 1) := by decide +kernel
theorem dX0_fetchWords_23 : decode cX0_fetchWords 23 = .ok (.iconst 2, 1) := by decide +kernel
theorem dX0_fetchWords_24 : decode cX0_fetchWords 24 = .ok (.imul, 1) := by decide +kernel
theorem dX0_fetchWords_25 : decode cX0_fetchWords 25 = .ok (.iconst 2, 1) := by decide +kernel
theorem dX0_fetchWords_26 : decode cX0_fetchWords 26 = .ok (.invokestatic 108, 3) := by decide +kernel
theorem dX0_fetchWords_29 : decode cX0_fetchWords 29 = .ok (.goto 21, 3) := by decide +kernel
theorem dX0_fetchWords_32 : decode cX0_fetchWords 32 = .ok (.aload_n 0, 1) := by decide +kernel
theorem dX0_fetchWords_33 : decode cX0_fetchWords 33 = .ok (.getfield 16, 3) := by decide +kernel
theorem dX0_fetchWords_36 : decode cX0_fetchWords 36 = .ok (.iload_n 3, 1) := by decide +kernel
theorem dX0_fetchWords_37 : decode cX0_fetchWords 37 = .ok (.iconst 2, 1) := by decide +kernel
theorem dX0_fetchWords_38 : decode cX0_fetchWords 38 = .ok (.imul, 1) := by decide +kernel
theorem dX0_fetchWords_39 : decode cX0_fetchWords 39 = .ok (.aload_n 0, 1) := by decide +kernel
theorem dX0_fetchWords_40 : decode cX0_fetchWords 40 = .ok (.getfield 16, 3) := by decide +kernel
theorem dX0_fetchWords_43 : decode cX0_fetchWords 43 = .ok (.iload_n 1, 1) := by decide +kernel
theorem dX0_fetchWords_44 : decode cX0_fetchWords 44 = .ok (.iconst 2, 1) := by decide +kernel
theorem dX0_fetchWords_45 : decode cX0_fetchWords 45 = .ok (.imul, 1) := by decide +kernel
theorem dX0_fetchWords_46 : decode cX0_fetchWords 46 = .ok (.iconst 2, 1) := by decide +kernel
theorem dX0_fetchWords_47 : decode cX0_fetchWords 47 = .ok (.invokestatic 108, 3) := by decide +kernel
theorem dX0_fetchWords_50 : decode cX0_fetchWords 50 = .ok (.return_, 1) := by decide +kernel
theorem dX0_dirtyLine_0 : decode cX0_dirtyLine 0 = .ok (.iconst 0, 1) := by decide +kernel
theorem dX0_dirtyLine_1 : decode cX0_dirtyLine 1 = .ok (.istore_n 2, 1) := by decide +kernel
theorem dX0_dirtyLine_2 : decode cX0_dirtyLine 2 = .ok (.iload_n 2, 1) := by decide +kernel
theorem dX0_dirtyLine_3 : decode cX0_dirtyLine 3 = .ok (.iconst 4, 1) := by decide +kernel
theorem dX0_dirtyLine_4 : decode cX0_dirtyLine 4 = .ok (.if_icmp .ge 38, 3) := by decide +kernel
theorem dX0_dirtyLine_7 : decode cX0_dirtyLine 7 = .ok (.iload_n 2, 1) := by decide +kernel
theorem dX0_dirtyLine_8 : decode cX0_dirtyLine 8 = .ok (.iload_n 1, 1) := by decide +kernel
theorem dX0_dirtyLine_9 : decode cX0_dirtyLine 9 = .ok (.invokestatic 90, 3) := by decide +kernel
theorem dX0_dirtyLine_12 : decode cX0_dirtyLine 12 = .ok (.istore_n 3, 1) := by decide +kernel
theorem dX0_dirtyLine_13 : decode cX0_dirtyLine 13 = .ok (.aload_n 0, 1) := by decide +kernel
theorem dX0_dirtyLine_14 : decode cX0_dirtyLine 14 = .ok (.iload_n 2, 1) := by decide +kernel
theorem dX0_dirtyLine_15 : decode cX0_dirtyLine 15 = .ok (.iload_n 1, 1) := by decide +kernel
theorem dX0_dirtyLine_16 : decode cX0_dirtyLine 16 = .ok (.invokevirtual 81, 3) := by decide +kernel
theorem dX0_dirtyLine_19 : decode cX0_dirtyLine 19 = .ok (.ifCond .eq 17, 3) := by decide +kernel
theorem dX0_dirtyLine_22 : decode cX0_dirtyLine 22 = .ok (.aload_n 0, 1) := by decide +kernel
theorem dX0_dirtyLine_23 : decode cX0_dirtyLine 23 = .ok (.getfield 9, 3) := by decide +kernel
theorem dX0_dirtyLine_26 : decode cX0_dirtyLine 26 = .ok (.iload_n 3, 1) := by decide +kernel
theorem dX0_dirtyLine_27 : decode cX0_dirtyLine 27 = .ok (.iaload, 1) := by decide +kernel
theorem dX0_dirtyLine_28 : decode cX0_dirtyLine 28 = .ok (.invokestatic 114, 3) := by decide +kernel
theorem dX0_dirtyLine_31 : decode cX0_dirtyLine 31 = .ok (.ifCond .eq 5, 3) := by decide +kernel
theorem dX0_dirtyLine_34 : decode cX0_dirtyLine 34 = .ok (.iload_n 3, 1) := by decide +kernel
theorem dX0_dirtyLine_35 : decode cX0_dirtyLine 35 = .ok (.ireturn, 1) := by decide +kernel
theorem dX0_dirtyLine_36 : decode cX0_dirtyLine 36 = .ok (.iinc 2 1, 3) := by decide +kernel
theorem dX0_dirtyLine_39 : decode cX0_dirtyLine 39 = .ok (.goto (-37), 3) := by decide +kernel
theorem dX0_dirtyLine_42 : decode cX0_dirtyLine 42 = .ok (.iconst (-1), 1) := by decide +kernel
theorem dX0_dirtyLine_43 : decode cX0_dirtyLine 43 = .ok (.ireturn, 1) := by decide +kernel
theorem dX0_dropOthers_0 : decode cX0_dropOthers 0 = .ok (.iconst 0, 1) := by decide +kernel
theorem dX0_dropOthers_1 : decode cX0_dropOthers 1 = .ok (.istore_n 3, 1) := by decide +kernel
theorem dX0_dropOthers_2 : decode cX0_dropOthers 2 = .ok (.iload_n 3, 1) := by decide +kernel
theorem dX0_dropOthers_3 : decode cX0_dropOthers 3 = .ok (.iconst 4, 1) := by decide +kernel
theorem dX0_dropOthers_4 : decode cX0_dropOthers 4 = .ok (.if_icmp .ge 34, 3) := by decide +kernel
theorem dX0_dropOthers_7 : decode cX0_dropOthers 7 = .ok (.iload_n 3, 1) := by decide +kernel
theorem dX0_dropOthers_8 : decode cX0_dropOthers 8 = .ok (.iload_n 1, 1) := by decide +kernel
theorem dX0_dropOthers_9 : decode cX0_dropOthers 9 = .ok (.if_icmp .eq 23, 3) := by decide +kernel
theorem dX0_dropOthers_12 : decode cX0_dropOthers 12 = .ok (.aload_n 0, 1) := by decide +kernel
theorem dX0_dropOthers_13 : decode cX0_dropOthers 13 = .ok (.iload_n 3, 1) := by decide +kernel
theorem dX0_dropOthers_14 : decode cX0_dropOthers 14 = .ok (.iload_n 2, 1) := by decide +kernel
theorem dX0_dropOthers_15 : decode cX0_dropOthers 15 = .ok (.invokevirtual 81, 3) := by decide +kernel
theorem dX0_dropOthers_18 : decode cX0_dropOthers 18 = .ok (.ifCond .eq 14, 3) := by decide +kernel
theorem dX0_dropOthers_21 : decode cX0_dropOthers 21 = .ok (.aload_n 0, 1) := by decide +kernel
theorem dX0_dropOthers_22 : decode cX0_dropOthers 22 = .ok (.getfield 9, 3) := by decide +kernel
theorem dX0_dropOthers_25 : decode cX0_dropOthers 25 = .ok (.iload_n 3, 1) := by decide +kernel
theorem dX0_dropOthers_26 : decode cX0_dropOthers 26 = .ok (.iload_n 2, 1) := by decide +kernel
theorem dX0_dropOthers_27 : decode cX0_dropOthers 27 = .ok (.invokestatic 90, 3) := by decide +kernel
theorem dX0_dropOthers_30 : decode cX0_dropOthers 30 = .ok (.iconst 0, 1) := by decide +kernel
theorem dX0_dropOthers_31 : decode cX0_dropOthers 31 = .ok (.iastore, 1) := by decide +kernel
theorem dX0_dropOthers_32 : decode cX0_dropOthers 32 = .ok (.iinc 3 1, 3) := by decide +kernel
theorem dX0_dropOthers_35 : decode cX0_dropOthers 35 = .ok (.goto (-33), 3) := by decide +kernel
theorem dX0_dropOthers_38 : decode cX0_dropOthers 38 = .ok (.return_, 1) := by decide +kernel
theorem dX0_shareWithOthers_0 : decode cX0_shareWithOthers 0 = .ok (.iconst 1, 1) := by decide +kernel
theorem dX0_shareWithOthers_1 : decode cX0_shareWithOthers 1 = .ok (.istore_n 3, 1) := by decide +kernel
theorem dX0_shareWithOthers_2 : decode cX0_shareWithOthers 2 = .ok (.iconst 0, 1) := by decide +kernel
theorem dX0_shareWithOthers_3 : decode cX0_shareWithOthers 3 = .ok (.istore 4, 2) := by decide +kernel
theorem dX0_shareWithOthers_5 : decode cX0_shareWithOthers 5 = .ok (.iload 4, 2) := by decide +kernel
theorem dX0_shareWithOthers_7 : decode cX0_shareWithOthers 7 = .ok (.iconst 4, 1) := by decide +kernel
theorem dX0_shareWithOthers_8 : decode cX0_shareWithOthers 8 = .ok (.if_icmp .ge 37, 3) := by decide +kernel
theorem dX0_shareWithOthers_11 : decode cX0_shareWithOthers 11 = .ok (.iload 4, 2) := by decide +kernel
theorem dX0_shareWithOthers_13 : decode cX0_shareWithOthers 13 = .ok (.iload_n 1, 1) := by decide +kernel
theorem dX0_shareWithOthers_14 : decode cX0_shareWithOthers 14 = .ok (.if_icmp .eq 25, 3) := by decide +kernel
theorem dX0_shareWithOthers_17 : decode cX0_shareWithOthers 17 = .ok (.aload_n 0, 1) := by decide +kernel
theorem dX0_shareWithOthers_18 : decode cX0_shareWithOthers 18 = .ok (.iload 4, 2) := by decide +kernel
theorem dX0_shareWithOthers_20 : decode cX0_shareWithOthers 20 = .ok (.iload_n 2, 1) := by decide +kernel
theorem dX0_shareWithOthers_21 : decode cX0_shareWithOthers 21 = .ok (.invokevirtual 81, 3) := by decide +kernel
theorem dX0_shareWithOthers_24 : decode cX0_shareWithOthers 24 = .ok (.ifCond .eq 15, 3) := by decide +kernel
theorem dX0_shareWithOthers_27 : decode cX0_shareWithOthers 27 = .ok (.iconst 0, 1) := by decide +kernel
theorem dX0_shareWithOthers_28 : decode cX0_shareWithOthers 28 = .ok (.istore_n 3, 1) := by decide +kernel
theorem dX0_shareWithOthers_29 : decode cX0_shareWithOthers 29 = .ok (.aload_n 0, 1) := by decide +kernel
theorem dX0_shareWithOthers_30 : decode cX0_shareWithOthers 30 = .ok (.iload 4, 2) := by decide +kernel
theorem dX0_shareWithOthers_32 : decode cX0_shareWithOthers 32 = .ok (.iload_n 2, 1) := by decide +kernel
theorem dX0_shareWithOthers_33 : decode cX0_shareWithOthers 33 = .ok (.invokestatic 90, 3) := by decide +kernel
theorem dX0_shareWithOthers_36 : decode cX0_shareWithOthers 36 = .ok (.invokevirtual 138, 3) := by decide +kernel
theorem dX0_shareWithOthers_39 : decode cX0_shareWithOthers 39 = .ok (.iinc 4 1, 3) := by decide +kernel
theorem dX0_shareWithOthers_42 : decode cX0_shareWithOthers 42 = .ok (.goto (-37), 3) := by decide +kernel
theorem dX0_shareWithOthers_45 : decode cX0_shareWithOthers 45 = .ok (.iload_n 3, 1) := by decide +kernel
theorem dX0_shareWithOthers_46 : decode cX0_shareWithOthers 46 = .ok (.ifCond .eq 14, 3) := by decide +kernel
theorem dX0_shareWithOthers_49 : decode cX0_shareWithOthers 49 = .ok (.aload_n 0, 1) := by decide +kernel
theorem dX0_shareWithOthers_50 : decode cX0_shareWithOthers 50 = .ok (.getfield 32, 3) := by decide +kernel
theorem dX0_shareWithOthers_53 : decode cX0_shareWithOthers 53 = .ok (.ifCond .eq 7, 3) := by decide +kernel
theorem dX0_shareWithOthers_56 : decode cX0_shareWithOthers 56 = .ok (.iconst 2, 1) := by decide +kernel
theorem dX0_shareWithOthers_57 : decode cX0_shareWithOthers 57 = .ok (.goto 4, 3) := by decide +kernel
theorem dX0_shareWithOthers_60 : decode cX0_shareWithOthers 60 = .ok (.iconst 1, 1) := by decide +kernel
theorem dX0_shareWithOthers_61 : decode cX0_shareWithOthers 61 = .ok (.ireturn, 1) := by decide +kernel
theorem dX0_yieldToReader_0 : decode cX0_yieldToReader 0 = .ok (.aload_n 0, 1) := by decide +kernel
theorem dX0_yieldToReader_1 : decode cX0_yieldToReader 1 = .ok (.getfield 9, 3) := by decide +kernel
theorem dX0_yieldToReader_4 : decode cX0_yieldToReader 4 = .ok (.iload_n 1, 1) := by decide +kernel
theorem dX0_yieldToReader_5 : decode cX0_yieldToReader 5 = .ok (.iaload, 1) := by decide +kernel
theorem dX0_yieldToReader_6 : decode cX0_yieldToReader 6 = .ok (.invokestatic 114, 3) := by decide +kernel
theorem dX0_yieldToReader_9 : decode cX0_yieldToReader 9 = .ok (.istore_n 2, 1) := by decide +kernel
theorem dX0_yieldToReader_10 : decode cX0_yieldToReader 10 = .ok (.iload_n 2, 1) := by decide +kernel
theorem dX0_yieldToReader_11 : decode cX0_yieldToReader 11 = .ok (.ifCond .eq 19, 3) := by decide +kernel
theorem dX0_yieldToReader_14 : decode cX0_yieldToReader 14 = .ok (.aload_n 0, 1) := by decide +kernel
theorem dX0_yieldToReader_15 : decode cX0_yieldToReader 15 = .ok (.getfield 32, 3) := by decide +kernel
theorem dX0_yieldToReader_18 : decode cX0_yieldToReader 18 = .ok (.iconst 2, 1) := by decide +kernel
theorem dX0_yieldToReader_19 : decode cX0_yieldToReader 19 = .ok (.if_icmp .lt 11, 3) := by decide +kernel
theorem dX0_yieldToReader_22 : decode cX0_yieldToReader 22 = .ok (.aload_n 0, 1) := by decide +kernel
theorem dX0_yieldToReader_23 : decode cX0_yieldToReader 23 = .ok (.getfield 9, 3) := by decide +kernel
theorem dX0_yieldToReader_26 : decode cX0_yieldToReader 26 = .ok (.iload_n 1, 1) := by decide +kernel
theorem dX0_yieldToReader_27 : decode cX0_yieldToReader 27 = .ok (.iconst 3, 1) := by decide +kernel
theorem dX0_yieldToReader_28 : decode cX0_yieldToReader 28 = .ok (.iastore, 1) := by decide +kernel
theorem dX0_yieldToReader_29 : decode cX0_yieldToReader 29 = .ok (.return_, 1) := by decide +kernel
theorem dX0_yieldToReader_30 : decode cX0_yieldToReader 30 = .ok (.iload_n 2, 1) := by decide +kernel
theorem dX0_yieldToReader_31 : decode cX0_yieldToReader 31 = .ok (.ifCond .eq 8, 3) := by decide +kernel
theorem dX0_yieldToReader_34 : decode cX0_yieldToReader 34 = .ok (.aload_n 0, 1) := by decide +kernel
theorem dX0_yieldToReader_35 : decode cX0_yieldToReader 35 = .ok (.iload_n 1, 1) := by decide +kernel
theorem dX0_yieldToReader_36 : decode cX0_yieldToReader 36 = .ok (.invokevirtual 120, 3) := by decide +kernel
theorem dX0_yieldToReader_39 : decode cX0_yieldToReader 39 = .ok (.aload_n 0, 1) := by decide +kernel
theorem dX0_yieldToReader_40 : decode cX0_yieldToReader 40 = .ok (.getfield 9, 3) := by decide +kernel
theorem dX0_yieldToReader_43 : decode cX0_yieldToReader 43 = .ok (.iload_n 1, 1) := by decide +kernel
theorem dX0_yieldToReader_44 : decode cX0_yieldToReader 44 = .ok (.iconst 1, 1) := by decide +kernel
theorem dX0_yieldToReader_45 : decode cX0_yieldToReader 45 = .ok (.iastore, 1) := by decide +kernel
theorem dX0_yieldToReader_46 : decode cX0_yieldToReader 46 = .ok (.return_, 1) := by decide +kernel
theorem dX0_claim_0 : decode cX0_claim 0 = .ok (.iload_n 1, 1) := by decide +kernel
theorem dX0_claim_1 : decode cX0_claim 1 = .ok (.iload_n 2, 1) := by decide +kernel
theorem dX0_claim_2 : decode cX0_claim 2 = .ok (.invokestatic 90, 3) := by decide +kernel
theorem dX0_claim_5 : decode cX0_claim 5 = .ok (.istore_n 3, 1) := by decide +kernel
theorem dX0_claim_6 : decode cX0_claim 6 = .ok (.aload_n 0, 1) := by decide +kernel
theorem dX0_claim_7 : decode cX0_claim 7 = .ok (.getfield 9, 3) := by decide +kernel
theorem dX0_claim_10 : decode cX0_claim 10 = .ok (.iload_n 3, 1) := by decide +kernel
theorem dX0_claim_11 : decode cX0_claim 11 = .ok (.iaload, 1) := by decide +kernel
theorem dX0_claim_12 : decode cX0_claim 12 = .ok (.invokestatic 141, 3) := by decide +kernel
theorem dX0_claim_15 : decode cX0_claim 15 = .ok (.ifCond .eq 16, 3) := by decide +kernel
theorem dX0_claim_18 : decode cX0_claim 18 = .ok (.aload_n 0, 1) := by decide +kernel
theorem dX0_claim_19 : decode cX0_claim 19 = .ok (.iconst 2, 1) := by decide +kernel
theorem dX0_claim_20 : decode cX0_claim 20 = .ok (.iload_n 1, 1) := by decide +kernel
theorem dX0_claim_21 : decode cX0_claim 21 = .ok (.iload_n 2, 1) := by decide +kernel
theorem dX0_claim_22 : decode cX0_claim 22 = .ok (.invokevirtual 117, 3) := by decide +kernel
theorem dX0_claim_25 : decode cX0_claim 25 = .ok (.aload_n 0, 1) := by decide +kernel
theorem dX0_claim_26 : decode cX0_claim 26 = .ok (.iload_n 1, 1) := by decide +kernel
theorem dX0_claim_27 : decode cX0_claim 27 = .ok (.iload_n 2, 1) := by decide +kernel
theorem dX0_claim_28 : decode cX0_claim 28 = .ok (.invokevirtual 129, 3) := by decide +kernel
theorem dX0_claim_31 : decode cX0_claim 31 = .ok (.aload_n 0, 1) := by decide +kernel
theorem dX0_claim_32 : decode cX0_claim 32 = .ok (.getfield 9, 3) := by decide +kernel
theorem dX0_claim_35 : decode cX0_claim 35 = .ok (.iload_n 3, 1) := by decide +kernel
theorem dX0_claim_36 : decode cX0_claim 36 = .ok (.iconst 4, 1) := by decide +kernel
theorem dX0_claim_37 : decode cX0_claim 37 = .ok (.iastore, 1) := by decide +kernel
theorem dX0_claim_38 : decode cX0_claim 38 = .ok (.return_, 1) := by decide +kernel
theorem dX0_tellOthers_0 : decode cX0_tellOthers 0 = .ok (.iload_n 2, 1) := by decide +kernel
theorem dX0_tellOthers_1 : decode cX0_tellOthers 1 = .ok (.invokestatic 50, 3) := by decide +kernel
theorem dX0_tellOthers_4 : decode cX0_tellOthers 4 = .ok (.istore 4, 2) := by decide +kernel
theorem dX0_tellOthers_6 : decode cX0_tellOthers 6 = .ok (.iload_n 1, 1) := by decide +kernel
theorem dX0_tellOthers_7 : decode cX0_tellOthers 7 = .ok (.iload 4, 2) := by decide +kernel
theorem dX0_tellOthers_9 : decode cX0_tellOthers 9 = .ok (.invokestatic 90, 3) := by decide +kernel
theorem dX0_tellOthers_12 : decode cX0_tellOthers 12 = .ok (.istore 5, 2) := by decide +kernel
theorem dX0_tellOthers_14 : decode cX0_tellOthers 14 = .ok (.iconst 0, 1) := by decide +kernel
theorem dX0_tellOthers_15 : decode cX0_tellOthers 15 = .ok (.istore 6, 2) := by decide +kernel
theorem dX0_tellOthers_17 : decode cX0_tellOthers 17 = .ok (.aload_n 0, 1) := by decide +kernel
theorem dX0_tellOthers_18 : decode cX0_tellOthers 18 = .ok (.getfield 9, 3) := by decide +kernel
theorem dX0_tellOthers_21 : decode cX0_tellOthers 21 = .ok (.iload 5, 2) := by decide +kernel
theorem dX0_tellOthers_23 : decode cX0_tellOthers 23 = .ok (.iaload, 1) := by decide +kernel
theorem dX0_tellOthers_24 : decode cX0_tellOthers 24 = .ok (.invokestatic 141, 3) := by decide +kernel
theorem dX0_tellOthers_27 : decode cX0_tellOthers 27 = .ok (.ifCond .eq 20, 3) := by decide +kernel
theorem dX0_tellOthers_30 : decode cX0_tellOthers 30 = .ok (.aload_n 0, 1) := by decide +kernel
theorem dX0_tellOthers_31 : decode cX0_tellOthers 31 = .ok (.iconst 3, 1) := by decide +kernel
theorem dX0_tellOthers_32 : decode cX0_tellOthers 32 = .ok (.iload_n 1, 1) := by decide +kernel
theorem dX0_tellOthers_33 : decode cX0_tellOthers 33 = .ok (.iload 4, 2) := by decide +kernel
theorem dX0_tellOthers_35 : decode cX0_tellOthers 35 = .ok (.invokevirtual 117, 3) := by decide +kernel
theorem dX0_tellOthers_38 : decode cX0_tellOthers 38 = .ok (.aload_n 0, 1) := by decide +kernel
theorem dX0_tellOthers_39 : decode cX0_tellOthers 39 = .ok (.iload_n 1, 1) := by decide +kernel
theorem dX0_tellOthers_40 : decode cX0_tellOthers 40 = .ok (.iload_n 2, 1) := by decide +kernel
theorem dX0_tellOthers_41 : decode cX0_tellOthers 41 = .ok (.iload_n 3, 1) := by decide +kernel
theorem dX0_tellOthers_42 : decode cX0_tellOthers 42 = .ok (.invokevirtual 144, 3) := by decide +kernel
theorem dX0_tellOthers_45 : decode cX0_tellOthers 45 = .ok (.istore 6, 2) := by decide +kernel
theorem dX0_tellOthers_47 : decode cX0_tellOthers 47 = .ok (.aload_n 0, 1) := by decide +kernel
theorem dX0_tellOthers_48 : decode cX0_tellOthers 48 = .ok (.getfield 9, 3) := by decide +kernel
theorem dX0_tellOthers_51 : decode cX0_tellOthers 51 = .ok (.iload 5, 2) := by decide +kernel
theorem dX0_tellOthers_53 : decode cX0_tellOthers 53 = .ok (.iload 6, 2) := by decide +kernel
theorem dX0_tellOthers_55 : decode cX0_tellOthers 55 = .ok (.ifCond .eq 7, 3) := by decide +kernel
theorem dX0_tellOthers_58 : decode cX0_tellOthers 58 = .ok (.iconst 3, 1) := by decide +kernel
theorem dX0_tellOthers_59 : decode cX0_tellOthers 59 = .ok (.goto 4, 3) := by decide +kernel
theorem dX0_tellOthers_62 : decode cX0_tellOthers 62 = .ok (.iconst 4, 1) := by decide +kernel
theorem dX0_tellOthers_63 : decode cX0_tellOthers 63 = .ok (.iastore, 1) := by decide +kernel
theorem dX0_tellOthers_64 : decode cX0_tellOthers 64 = .ok (.return_, 1) := by decide +kernel
theorem dX0_isPerhapsElsewhere_0 : decode cX0_isPerhapsElsewhere 0 = .ok (.iload_n 0, 1) := by decide +kernel
theorem dX0_isPerhapsElsewhere_1 : decode cX0_isPerhapsElsewhere 1 = .ok (.iconst 1, 1) := by decide +kernel
theorem dX0_isPerhapsElsewhere_2 : decode cX0_isPerhapsElsewhere 2 = .ok (.if_icmp .eq 8, 3) := by decide +kernel
theorem dX0_isPerhapsElsewhere_5 : decode cX0_isPerhapsElsewhere 5 = .ok (.iload_n 0, 1) := by decide +kernel
theorem dX0_isPerhapsElsewhere_6 : decode cX0_isPerhapsElsewhere 6 = .ok (.iconst 3, 1) := by decide +kernel
theorem dX0_isPerhapsElsewhere_7 : decode cX0_isPerhapsElsewhere 7 = .ok (.if_icmp .ne 7, 3) := by decide +kernel
theorem dX0_isPerhapsElsewhere_10 : decode cX0_isPerhapsElsewhere 10 = .ok (.iconst 1, 1) := by decide +kernel
theorem dX0_isPerhapsElsewhere_11 : decode cX0_isPerhapsElsewhere 11 = .ok (.goto 4, 3) := by decide +kernel
theorem dX0_isPerhapsElsewhere_14 : decode cX0_isPerhapsElsewhere 14 = .ok (.iconst 0, 1) := by decide +kernel
theorem dX0_isPerhapsElsewhere_15 : decode cX0_isPerhapsElsewhere 15 = .ok (.ireturn, 1) := by decide +kernel
theorem dX0_updateOthers_0 : decode cX0_updateOthers 0 = .ok (.iconst 0, 1) := by decide +kernel
theorem dX0_updateOthers_1 : decode cX0_updateOthers 1 = .ok (.istore 4, 2) := by decide +kernel
theorem dX0_updateOthers_3 : decode cX0_updateOthers 3 = .ok (.iconst 0, 1) := by decide +kernel
theorem dX0_updateOthers_4 : decode cX0_updateOthers 4 = .ok (.istore 5, 2) := by decide +kernel
theorem dX0_updateOthers_6 : decode cX0_updateOthers 6 = .ok (.iload 5, 2) := by decide +kernel
theorem dX0_updateOthers_8 : decode cX0_updateOthers 8 = .ok (.iconst 4, 1) := by decide +kernel
theorem dX0_updateOthers_9 : decode cX0_updateOthers 9 = .ok (.if_icmp .ge 58, 3) := by decide +kernel
theorem dX0_updateOthers_12 : decode cX0_updateOthers 12 = .ok (.iload 5, 2) := by decide +kernel
theorem dX0_updateOthers_14 : decode cX0_updateOthers 14 = .ok (.iload_n 1, 1) := by decide +kernel
theorem dX0_updateOthers_15 : decode cX0_updateOthers 15 = .ok (.if_icmp .eq 46, 3) := by decide +kernel
theorem dX0_updateOthers_18 : decode cX0_updateOthers 18 = .ok (.aload_n 0, 1) := by decide +kernel
theorem dX0_updateOthers_19 : decode cX0_updateOthers 19 = .ok (.iload 5, 2) := by decide +kernel
theorem dX0_updateOthers_21 : decode cX0_updateOthers 21 = .ok (.iload_n 2, 1) := by decide +kernel
theorem dX0_updateOthers_22 : decode cX0_updateOthers 22 = .ok (.invokestatic 50, 3) := by decide +kernel
theorem dX0_updateOthers_25 : decode cX0_updateOthers 25 = .ok (.invokevirtual 81, 3) := by decide +kernel
theorem dX0_updateOthers_28 : decode cX0_updateOthers 28 = .ok (.ifCond .eq 33, 3) := by decide +kernel
theorem dX0_updateOthers_31 : decode cX0_updateOthers 31 = .ok (.iconst 1, 1) := by decide +kernel
theorem dX0_updateOthers_32 : decode cX0_updateOthers 32 = .ok (.istore 4, 2) := by decide +kernel
theorem dX0_updateOthers_34 : decode cX0_updateOthers 34 = .ok (.aload_n 0, 1) := by decide +kernel
theorem dX0_updateOthers_35 : decode cX0_updateOthers 35 = .ok (.getfield 16, 3) := by decide +kernel
theorem dX0_updateOthers_38 : decode cX0_updateOthers 38 = .ok (.iload 5, 2) := by decide +kernel
theorem dX0_updateOthers_40 : decode cX0_updateOthers 40 = .ok (.iload_n 2, 1) := by decide +kernel
theorem dX0_updateOthers_41 : decode cX0_updateOthers 41 = .ok (.invokestatic 58, 3) := by decide +kernel
theorem dX0_updateOthers_44 : decode cX0_updateOthers 44 = .ok (.iload_n 3, 1) := by decide +kernel
theorem dX0_updateOthers_45 : decode cX0_updateOthers 45 = .ok (.iastore, 1) := by decide +kernel
theorem dX0_updateOthers_46 : decode cX0_updateOthers 46 = .ok (.aload_n 0, 1) := by decide +kernel
theorem dX0_updateOthers_47 : decode cX0_updateOthers 47 = .ok (.getfield 9, 3) := by decide +kernel
theorem dX0_updateOthers_50 : decode cX0_updateOthers 50 = .ok (.iload 5, 2) := by decide +kernel
theorem dX0_updateOthers_52 : decode cX0_updateOthers 52 = .ok (.iload_n 2, 1) := by decide +kernel
theorem dX0_updateOthers_53 : decode cX0_updateOthers 53 = .ok (.invokestatic 50, 3) := by decide +kernel
theorem dX0_updateOthers_56 : decode cX0_updateOthers 56 = .ok (.invokestatic 90, 3) := by decide +kernel
theorem dX0_updateOthers_59 : decode cX0_updateOthers 59 = .ok (.iconst 1, 1) := by decide +kernel
theorem dX0_updateOthers_60 : decode cX0_updateOthers 60 = .ok (.iastore, 1) := by decide +kernel
theorem dX0_updateOthers_61 : decode cX0_updateOthers 61 = .ok (.iinc 5 1, 3) := by decide +kernel
theorem dX0_updateOthers_64 : decode cX0_updateOthers 64 = .ok (.goto (-58), 3) := by decide +kernel
theorem dX0_updateOthers_67 : decode cX0_updateOthers 67 = .ok (.iload 4, 2) := by decide +kernel
theorem dX0_updateOthers_69 : decode cX0_updateOthers 69 = .ok (.ireturn, 1) := by decide +kernel
