theorem dX4_begin_0 : decode cX4_begin 0 = .ok (.iconst 0, 1) := by decide +kernel
theorem dX4_begin_1 : decode cX4_begin 1 = .ok (.istore_n 3, 1) := by decide +kernel
theorem dX4_begin_2 : decode cX4_begin 2 = .ok (.iload_n 3, 1) := by decide +kernel
theorem dX4_begin_3 : decode cX4_begin 3 = .ok (.aload_n 0, 1) := by decide +kernel
theorem dX4_begin_4 : decode cX4_begin 4 = .ok (.getfield 9, 3) := by decide +kernel
theorem dX4_begin_7 : decode cX4_begin 7 = .ok (.if_icmp .ge 39, 3) := by decide +kernel
theorem dX4_begin_10 : decode cX4_begin 10 = .ok (.aload_n 0, 1) := by decide +kernel
theorem dX4_begin_11 : decode cX4_begin 11 = .ok (.getfield 22, 3) := by decide +kernel
theorem dX4_begin_14 : decode cX4_begin 14 = .ok (.iload_n 3, 1) := by decide +kernel
theorem dX4_begin_15 : decode cX4_begin 15 = .ok (.aload_n 1, 1) := by decide +kernel
theorem dX4_begin_16 : decode cX4_begin 16 = .ok (.aload_n 0, 1) := by decide +kernel
theorem dX4_begin_17 : decode cX4_begin 17 = .ok (.getfield 15, 3) := by decide +kernel
theorem dX4_begin_20 : decode cX4_begin 20 = .ok (.iload_n 3, 1) := by decide +kernel
theorem dX4_begin_21 : decode cX4_begin 21 = .ok (.iaload, 1) := by decide +kernel
theorem dX4_begin_22 : decode cX4_begin 22 = .ok (.iaload, 1) := by decide +kernel
theorem dX4_begin_23 : decode cX4_begin 23 = .ok (.iastore, 1) := by decide +kernel
theorem dX4_begin_24 : decode cX4_begin 24 = .ok (.aload_n 0, 1) := by decide +kernel
theorem dX4_begin_25 : decode cX4_begin 25 = .ok (.getfield 25, 3) := by decide +kernel
theorem dX4_begin_28 : decode cX4_begin 28 = .ok (.iload_n 3, 1) := by decide +kernel
theorem dX4_begin_29 : decode cX4_begin 29 = .ok (.aload_n 0, 1) := by decide +kernel
theorem dX4_begin_30 : decode cX4_begin 30 = .ok (.getfield 22, 3) := by decide +kernel
theorem dX4_begin_33 : decode cX4_begin 33 = .ok (.iload_n 3, 1) := by decide +kernel
theorem dX4_begin_34 : decode cX4_begin 34 = .ok (.iaload, 1) := by decide +kernel
theorem dX4_begin_35 : decode cX4_begin 35 = .ok (.aload_n 2, 1) := by decide +kernel
theorem dX4_begin_36 : decode cX4_begin 36 = .ok (.iload_n 3, 1) := by decide +kernel
theorem dX4_begin_37 : decode cX4_begin 37 = .ok (.iaload, 1) := by decide +kernel
theorem dX4_begin_38 : decode cX4_begin 38 = .ok (.iadd, 1) := by decide +kernel
theorem dX4_begin_39 : decode cX4_begin 39 = .ok (.iastore, 1) := by decide +kernel
theorem dX4_begin_40 : decode cX4_begin 40 = .ok (.iinc 3 1, 3) := by decide +kernel
theorem dX4_begin_43 : decode cX4_begin 43 = .ok (.goto (-41), 3) := by decide +kernel
theorem dX4_begin_46 : decode cX4_begin 46 = .ok (.return_, 1) := by decide +kernel
theorem dX4_holdBack_0 : decode cX4_holdBack 0 = .ok (.aload_n 0, 1) := by decide +kernel
theorem dX4_holdBack_1 : decode cX4_holdBack 1 = .ok (.getfield 22, 3) := by decide +kernel
theorem dX4_holdBack_4 : decode cX4_holdBack 4 = .ok (.iload_n 1, 1) := by decide +kernel
theorem dX4_holdBack_5 : decode cX4_holdBack 5 = .ok (.dup2, 1) := by decide +kernel
theorem dX4_holdBack_6 : decode cX4_holdBack 6 = .ok (.iaload, 1) := by decide +kernel
theorem dX4_holdBack_7 : decode cX4_holdBack 7 = .ok (.iconst 1, 1) := by decide +kernel
theorem dX4_holdBack_8 : decode cX4_holdBack 8 = .ok (.iadd, 1) := by decide +kernel
theorem dX4_holdBack_9 : decode cX4_holdBack 9 = .ok (.iastore, 1) := by decide +kernel
theorem dX4_holdBack_10 : decode cX4_holdBack 10 = .ok (.aload_n 0, 1) := by decide +kernel
theorem dX4_holdBack_11 : decode cX4_holdBack 11 = .ok (.getfield 25, 3) := by decide +kernel
theorem dX4_holdBack_14 : decode cX4_holdBack 14 = .ok (.iload_n 1, 1) := by decide +kernel
theorem dX4_holdBack_15 : decode cX4_holdBack 15 = .ok (.dup2, 1) := by decide +kernel
theorem dX4_holdBack_16 : decode cX4_holdBack 16 = .ok (.iaload, 1) := by decide +kernel
theorem dX4_holdBack_17 : decode cX4_holdBack 17 = .ok (.iconst 1, 1) := by decide +kernel
theorem dX4_holdBack_18 : decode cX4_holdBack 18 = .ok (.iadd, 1) := by decide +kernel
theorem dX4_holdBack_19 : decode cX4_holdBack 19 = .ok (.iastore, 1) := by decide +kernel
theorem dX4_holdBack_20 : decode cX4_holdBack 20 = .ok (.return_, 1) := by decide +kernel
theorem dX4_at_0 : decode cX4_at 0 = .ok (.iconst 0, 1) := by decide +kernel
theorem dX4_at_1 : decode cX4_at 1 = .ok (.istore_n 2, 1) := by decide +kernel
theorem dX4_at_2 : decode cX4_at 2 = .ok (.iconst 0, 1) := by decide +kernel
theorem dX4_at_3 : decode cX4_at 3 = .ok (.istore_n 3, 1) := by decide +kernel
theorem dX4_at_4 : decode cX4_at 4 = .ok (.iload_n 3, 1) := by decide +kernel
theorem dX4_at_5 : decode cX4_at 5 = .ok (.aload_n 0, 1) := by decide +kernel
theorem dX4_at_6 : decode cX4_at 6 = .ok (.getfield 9, 3) := by decide +kernel
theorem dX4_at_9 : decode cX4_at 9 = .ok (.if_icmp .ge 29, 3) := by decide +kernel
theorem dX4_at_12 : decode cX4_at 12 = .ok (.iload_n 2, 1) := by decide +kernel
theorem dX4_at_13 : decode cX4_at 13 = .ok (.aload_n 0, 1) := by decide +kernel
theorem dX4_at_14 : decode cX4_at 14 = .ok (.getfield 15, 3) := by decide +kernel
theorem dX4_at_17 : decode cX4_at 17 = .ok (.iload_n 3, 1) := by decide +kernel
theorem dX4_at_18 : decode cX4_at 18 = .ok (.iaload, 1) := by decide +kernel
theorem dX4_at_19 : decode cX4_at 19 = .ok (.iload_n 1, 1) := by decide +kernel
theorem dX4_at_20 : decode cX4_at 20 = .ok (.if_icmp .ne 9, 3) := by decide +kernel
theorem dX4_at_23 : decode cX4_at 23 = .ok (.iconst 1, 1) := by decide +kernel
theorem dX4_at_24 : decode cX4_at 24 = .ok (.iload_n 3, 1) := by decide +kernel
theorem dX4_at_25 : decode cX4_at 25 = .ok (.ishl, 1) := by decide +kernel
theorem dX4_at_26 : decode cX4_at 26 = .ok (.goto 4, 3) := by decide +kernel
theorem dX4_at_29 : decode cX4_at 29 = .ok (.iconst 0, 1) := by decide +kernel
theorem dX4_at_30 : decode cX4_at 30 = .ok (.ior, 1) := by decide +kernel
theorem dX4_at_31 : decode cX4_at 31 = .ok (.istore_n 2, 1) := by decide +kernel
theorem dX4_at_32 : decode cX4_at 32 = .ok (.iinc 3 1, 3) := by decide +kernel
theorem dX4_at_35 : decode cX4_at 35 = .ok (.goto (-31), 3) := by decide +kernel
theorem dX4_at_38 : decode cX4_at 38 = .ok (.iload_n 2, 1) := by decide +kernel
theorem dX4_at_39 : decode cX4_at 39 = .ok (.ireturn, 1) := by decide +kernel
theorem dX4_collide_0 : decode cX4_collide 0 = .ok (.iload_n 1, 1) := by decide +kernel
theorem dX4_collide_1 : decode cX4_collide 1 = .ok (.iload_n 2, 1) := by decide +kernel
theorem dX4_collide_2 : decode cX4_collide 2 = .ok (.if_icmp .eq 53, 3) := by decide +kernel
theorem dX4_collide_5 : decode cX4_collide 5 = .ok (.aload_n 0, 1) := by decide +kernel
theorem dX4_collide_6 : decode cX4_collide 6 = .ok (.getfield 19, 3) := by decide +kernel
theorem dX4_collide_9 : decode cX4_collide 9 = .ok (.iload_n 1, 1) := by decide +kernel
theorem dX4_collide_10 : decode cX4_collide 10 = .ok (.iaload, 1) := by decide +kernel
theorem dX4_collide_11 : decode cX4_collide 11 = .ok (.aload_n 0, 1) := by decide +kernel
theorem dX4_collide_12 : decode cX4_collide 12 = .ok (.getfield 19, 3) := by decide +kernel
theorem dX4_collide_15 : decode cX4_collide 15 = .ok (.iload_n 2, 1) := by decide +kernel
theorem dX4_collide_16 : decode cX4_collide 16 = .ok (.iaload, 1) := by decide +kernel
theorem dX4_collide_17 : decode cX4_collide 17 = .ok (.iand, 1) := by decide +kernel
theorem dX4_collide_18 : decode cX4_collide 18 = .ok (.ifCond .eq 37, 3) := by decide +kernel
theorem dX4_collide_21 : decode cX4_collide 21 = .ok (.aload_n 0, 1) := by decide +kernel
theorem dX4_collide_22 : decode cX4_collide 22 = .ok (.getfield 22, 3) := by decide +kernel
theorem dX4_collide_25 : decode cX4_collide 25 = .ok (.iload_n 1, 1) := by decide +kernel
theorem dX4_collide_26 : decode cX4_collide 26 = .ok (.iaload, 1) := by decide +kernel
theorem dX4_collide_27 : decode cX4_collide 27 = .ok (.aload_n 0, 1) := by decide +kernel
theorem dX4_collide_28 : decode cX4_collide 28 = .ok (.getfield 25, 3) := by decide +kernel
theorem dX4_collide_31 : decode cX4_collide 31 = .ok (.iload_n 2, 1) := by decide +kernel
theorem dX4_collide_32 : decode cX4_collide 32 = .ok (.iaload, 1) := by decide +kernel
theorem dX4_collide_33 : decode cX4_collide 33 = .ok (.if_icmp .ge 22, 3) := by decide +kernel
theorem dX4_collide_36 : decode cX4_collide 36 = .ok (.aload_n 0, 1) := by decide +kernel
theorem dX4_collide_37 : decode cX4_collide 37 = .ok (.getfield 22, 3) := by decide +kernel
theorem dX4_collide_40 : decode cX4_collide 40 = .ok (.iload_n 2, 1) := by decide +kernel
theorem dX4_collide_41 : decode cX4_collide 41 = .ok (.iaload, 1) := by decide +kernel
theorem dX4_collide_42 : decode cX4_collide 42 = .ok (.aload_n 0, 1) := by decide +kernel
theorem dX4_collide_43 : decode cX4_collide 43 = .ok (.getfield 25, 3) := by decide +kernel
theorem dX4_collide_46 : decode cX4_collide 46 = .ok (.iload_n 1, 1) := by decide +kernel
theorem dX4_collide_47 : decode cX4_collide 47 = .ok (.iaload, 1) := by decide +kernel
theorem dX4_collide_48 : decode cX4_collide 48 = .ok (.if_icmp .ge 7, 3) := by decide +kernel
theorem dX4_collide_51 : decode cX4_collide 51 = .ok (.iconst 1, 1) := by decide +kernel
theorem dX4_collide_52 : decode cX4_collide 52 = .ok (.goto 4, 3) := by decide +kernel
theorem dX4_collide_55 : decode cX4_collide 55 = .ok (.iconst 0, 1) := by decide +kernel
theorem dX4_collide_56 : decode cX4_collide 56 = .ok (.ireturn, 1) := by decide +kernel
theorem dX4_foes_0 : decode cX4_foes 0 = .ok (.iconst 0, 1) := by decide +kernel
theorem dX4_foes_1 : decode cX4_foes 1 = .ok (.istore_n 2, 1) := by decide +kernel
theorem dX4_foes_2 : decode cX4_foes 2 = .ok (.iconst 0, 1) := by decide +kernel
theorem dX4_foes_3 : decode cX4_foes 3 = .ok (.istore_n 3, 1) := by decide +kernel
theorem dX4_foes_4 : decode cX4_foes 4 = .ok (.iload_n 3, 1) := by decide +kernel
theorem dX4_foes_5 : decode cX4_foes 5 = .ok (.aload_n 0, 1) := by decide +kernel
theorem dX4_foes_6 : decode cX4_foes 6 = .ok (.getfield 9, 3) := by decide +kernel
theorem dX4_foes_9 : decode cX4_foes 9 = .ok (.if_icmp .ge 28, 3) := by decide +kernel
theorem dX4_foes_12 : decode cX4_foes 12 = .ok (.iload_n 2, 1) := by decide +kernel
theorem dX4_foes_13 : decode cX4_foes 13 = .ok (.aload_n 0, 1) := by decide +kernel
theorem dX4_foes_14 : decode cX4_foes 14 = .ok (.iload_n 1, 1) := by decide +kernel
theorem dX4_foes_15 : decode cX4_foes 15 = .ok (.iload_n 3, 1) := by decide +kernel
theorem dX4_foes_16 : decode cX4_foes 16 = .ok (.invokevirtual 37, 3) := by decide +kernel
theorem dX4_foes_19 : decode cX4_foes 19 = .ok (.ifCond .eq 9, 3) := by decide +kernel
theorem dX4_foes_22 : decode cX4_foes 22 = .ok (.iconst 1, 1) := by decide +kernel
theorem dX4_foes_23 : decode cX4_foes 23 = .ok (.iload_n 3, 1) := by decide +kernel
theorem dX4_foes_24 : decode cX4_foes 24 = .ok (.ishl, 1) := by decide +kernel
theorem dX4_foes_25 : decode cX4_foes 25 = .ok (.goto 4, 3) := by decide +kernel
theorem dX4_foes_28 : decode cX4_foes 28 = .ok (.iconst 0, 1) := by decide +kernel
theorem dX4_foes_29 : decode cX4_foes 29 = .ok (.ior, 1) := by decide +kernel
theorem dX4_foes_30 : decode cX4_foes 30 = .ok (.istore_n 2, 1) := by decide +kernel
theorem dX4_foes_31 : decode cX4_foes 31 = .ok (.iinc 3 1, 3) := by decide +kernel
theorem dX4_foes_34 : decode cX4_foes 34 = .ok (.goto (-30), 3) := by decide +kernel
theorem dX4_foes_37 : decode cX4_foes 37 = .ok (.iload_n 2, 1) := by decide +kernel
theorem dX4_foes_38 : decode cX4_foes 38 = .ok (.ireturn, 1) := by decide +kernel
theorem dX4_pairs_0 : decode cX4_pairs 0 = .ok (.iconst 0, 1) := by decide +kernel
theorem dX4_pairs_1 : decode cX4_pairs 1 = .ok (.istore_n 1, 1) := by decide +kernel
theorem dX4_pairs_2 : decode cX4_pairs 2 = .ok (.iconst 0, 1) := by decide +kernel
theorem dX4_pairs_3 : decode cX4_pairs 3 = .ok (.istore_n 2, 1) := by decide +kernel
theorem dX4_pairs_4 : decode cX4_pairs 4 = .ok (.iload_n 2, 1) := by decide +kernel
theorem dX4_pairs_5 : decode cX4_pairs 5 = .ok (.aload_n 0, 1) := by decide +kernel
theorem dX4_pairs_6 : decode cX4_pairs 6 = .ok (.getfield 9, 3) := by decide +kernel
theorem dX4_pairs_9 : decode cX4_pairs 9 = .ok (.if_icmp .ge 44, 3) := by decide +kernel
theorem dX4_pairs_12 : decode cX4_pairs 12 = .ok (.iload_n 2, 1) := by decide +kernel
theorem dX4_pairs_13 : decode cX4_pairs 13 = .ok (.iconst 1, 1) := by decide +kernel
theorem dX4_pairs_14 : decode cX4_pairs 14 = .ok (.iadd, 1) := by decide +kernel
theorem dX4_pairs_15 : decode cX4_pairs 15 = .ok (.istore_n 3, 1) := by decide +kernel
theorem dX4_pairs_16 : decode cX4_pairs 16 = .ok (.iload_n 3, 1) := by decide +kernel
theorem dX4_pairs_17 : decode cX4_pairs 17 = .ok (.aload_n 0, 1) := by decide +kernel
theorem dX4_pairs_18 : decode cX4_pairs 18 = .ok (.getfield 9, 3) := by decide +kernel
theorem dX4_pairs_21 : decode cX4_pairs 21 = .ok (.if_icmp .ge 26, 3) := by decide +kernel
theorem dX4_pairs_24 : decode cX4_pairs 24 = .ok (.iload_n 1, 1) := by decide +kernel
theorem dX4_pairs_25 : decode cX4_pairs 25 = .ok (.aload_n 0, 1) := by decide +kernel
theorem dX4_pairs_26 : decode cX4_pairs 26 = .ok (.iload_n 2, 1) := by decide +kernel
theorem dX4_pairs_27 : decode cX4_pairs 27 = .ok (.iload_n 3, 1) := by decide +kernel
theorem dX4_pairs_28 : decode cX4_pairs 28 = .ok (.invokevirtual 37, 3) := by decide +kernel
theorem dX4_pairs_31 : decode cX4_pairs 31 = .ok (.ifCond .eq 7, 3) := by decide +kernel
theorem dX4_pairs_34 : decode cX4_pairs 34 = .ok (.iconst 1, 1) := by decide +kernel
theorem dX4_pairs_35 : decode cX4_pairs 35 = .ok (.goto 4, 3) := by decide +kernel
theorem dX4_pairs_38 : decode cX4_pairs 38 = .ok (.iconst 0, 1) := by decide +kernel
theorem dX4_pairs_39 : decode cX4_pairs 39 = .ok (.iadd, 1) := by decide +kernel
theorem dX4_pairs_40 : decode cX4_pairs 40 = .ok (.istore_n 1, 1) := by decide +kernel
theorem dX4_pairs_41 : decode cX4_pairs 41 = .ok (.iinc 3 1, 3) := by decide +kernel
theorem dX4_pairs_44 : decode cX4_pairs 44 = .ok (.goto (-28), 3) := by decide +kernel
theorem dX4_pairs_47 : decode cX4_pairs 47 = .ok (.iinc 2 1, 3) := by decide +kernel
theorem dX4_pairs_50 : decode cX4_pairs 50 = .ok (.goto (-46), 3) := by decide +kernel
theorem dX4_pairs_53 : decode cX4_pairs 53 = .ok (.iload_n 1, 1) := by decide +kernel
theorem dX4_pairs_54 : decode cX4_pairs 54 = .ok (.ireturn, 1) := by decide +kernel
theorem dX4_firstMinute_0 : decode cX4_firstMinute 0 = .ok (.aload_n 0, 1) := by decide +kernel
theorem dX4_firstMinute_1 : decode cX4_firstMinute 1 = .ok (.getfield 9, 3) := by decide +kernel
theorem dX4_firstMinute_4 : decode cX4_firstMinute 4 = .ok (.ifCond .le 12, 3) := by decide +kernel
theorem dX4_firstMinute_7 : decode cX4_firstMinute 7 = .ok (.aload_n 0, 1) := by decide +kernel
theorem dX4_firstMinute_8 : decode cX4_firstMinute 8 = .ok (.getfield 22, 3) := by decide +kernel
theorem dX4_firstMinute_11 : decode cX4_firstMinute 11 = .ok (.iconst 0, 1) := by decide +kernel
theorem dX4_firstMinute_12 : decode cX4_firstMinute 12 = .ok (.iaload, 1) := by decide +kernel
theorem dX4_firstMinute_13 : decode cX4_firstMinute 13 = .ok (.goto 4, 3) := by decide +kernel
theorem dX4_firstMinute_16 : decode cX4_firstMinute 16 = .ok (.iconst 0, 1) := by decide +kernel
theorem dX4_firstMinute_17 : decode cX4_firstMinute 17 = .ok (.istore_n 1, 1) := by decide +kernel
theorem dX4_firstMinute_18 : decode cX4_firstMinute 18 = .ok (.iconst 1, 1) := by decide +kernel
theorem dX4_firstMinute_19 : decode cX4_firstMinute 19 = .ok (.istore_n 2, 1) := by decide +kernel
theorem dX4_firstMinute_20 : decode cX4_firstMinute 20 = .ok (.iload_n 2, 1) := by decide +kernel
theorem dX4_firstMinute_21 : decode cX4_firstMinute 21 = .ok (.aload_n 0, 1) := by decide +kernel
theorem dX4_firstMinute_22 : decode cX4_firstMinute 22 = .ok (.getfield 9, 3) := by decide +kernel
theorem dX4_firstMinute_25 : decode cX4_firstMinute 25 = .ok (.if_icmp .ge 20, 3) := by decide +kernel
theorem dX4_firstMinute_28 : decode cX4_firstMinute 28 = .ok (.iload_n 1, 1) := by decide +kernel
theorem dX4_firstMinute_29 : decode cX4_firstMinute 29 = .ok (.aload_n 0, 1) := by decide +kernel
theorem dX4_firstMinute_30 : decode cX4_firstMinute 30 = .ok (.getfield 22, 3) := by decide +kernel
theorem dX4_firstMinute_33 : decode cX4_firstMinute 33 = .ok (.iload_n 2, 1) := by decide +kernel
theorem dX4_firstMinute_34 : decode cX4_firstMinute 34 = .ok (.iaload, 1) := by decide +kernel
theorem dX4_firstMinute_35 : decode cX4_firstMinute 35 = .ok (.invokestatic 41, 3) := by decide +kernel
theorem dX4_firstMinute_38 : decode cX4_firstMinute 38 = .ok (.istore_n 1, 1) := by decide +kernel
theorem dX4_firstMinute_39 : decode cX4_firstMinute 39 = .ok (.iinc 2 1, 3) := by decide +kernel
theorem dX4_firstMinute_42 : decode cX4_firstMinute 42 = .ok (.goto (-22), 3) := by decide +kernel
theorem dX4_firstMinute_45 : decode cX4_firstMinute 45 = .ok (.iload_n 1, 1) := by decide +kernel
theorem dX4_firstMinute_46 : decode cX4_firstMinute 46 = .ok (.ireturn, 1) := by decide +kernel
theorem dX4_minuteBehind_0 : decode cX4_minuteBehind 0 = .ok (.iconst 0, 1) := by decide +kernel
theorem dX4_minuteBehind_1 : decode cX4_minuteBehind 1 = .ok (.istore_n 1, 1) := by decide +kernel
theorem dX4_minuteBehind_2 : decode cX4_minuteBehind 2 = .ok (.iconst 0, 1) := by decide +kernel
theorem dX4_minuteBehind_3 : decode cX4_minuteBehind 3 = .ok (.istore_n 2, 1) := by decide +kernel
theorem dX4_minuteBehind_4 : decode cX4_minuteBehind 4 = .ok (.iload_n 2, 1) := by decide +kernel
theorem dX4_minuteBehind_5 : decode cX4_minuteBehind 5 = .ok (.aload_n 0, 1) := by decide +kernel
theorem dX4_minuteBehind_6 : decode cX4_minuteBehind 6 = .ok (.getfield 9, 3) := by decide +kernel
theorem dX4_minuteBehind_9 : decode cX4_minuteBehind 9 = .ok (.if_icmp .ge 20, 3) := by decide +kernel
theorem dX4_minuteBehind_12 : decode cX4_minuteBehind 12 = .ok (.iload_n 1, 1) := by decide +kernel
theorem dX4_minuteBehind_13 : decode cX4_minuteBehind 13 = .ok (.aload_n 0, 1) := by decide +kernel
theorem dX4_minuteBehind_14 : decode cX4_minuteBehind 14 = .ok (.getfield 25, 3) := by decide +kernel
theorem dX4_minuteBehind_17 : decode cX4_minuteBehind 17 = .ok (.iload_n 2, 1) := by decide +kernel
theorem dX4_minuteBehind_18 : decode cX4_minuteBehind 18 = .ok (.iaload, 1) := by decide +kernel
theorem dX4_minuteBehind_19 : decode cX4_minuteBehind 19 = .ok (.invokestatic 47, 3) := by decide +kernel
theorem dX4_minuteBehind_22 : decode cX4_minuteBehind 22 = .ok (.istore_n 1, 1) := by decide +kernel
theorem dX4_minuteBehind_23 : decode cX4_minuteBehind 23 = .ok (.iinc 2 1, 3) := by decide +kernel
theorem dX4_minuteBehind_26 : decode cX4_minuteBehind 26 = .ok (.goto (-22), 3) := by decide +kernel
theorem dX4_minuteBehind_29 : decode cX4_minuteBehind 29 = .ok (.iload_n 1, 1) := by decide +kernel
theorem dX4_minuteBehind_30 : decode cX4_minuteBehind 30 = .ok (.ireturn, 1) := by decide +kernel
theorem dX4_howMany_0 : decode cX4_howMany 0 = .ok (.iconst 0, 1) := by decide +kernel
theorem dX4_howMany_1 : decode cX4_howMany 1 = .ok (.istore_n 3, 1) := by decide +kernel
theorem dX4_howMany_2 : decode cX4_howMany 2 = .ok (.iconst 0, 1) := by decide +kernel
theorem dX4_howMany_3 : decode cX4_howMany 3 = .ok (.istore 4, 2) := by decide +kernel
theorem dX4_howMany_5 : decode cX4_howMany 5 = .ok (.iload 4, 2) := by decide +kernel
theorem dX4_howMany_7 : decode cX4_howMany 7 = .ok (.aload_n 0, 1) := by decide +kernel
theorem dX4_howMany_8 : decode cX4_howMany 8 = .ok (.getfield 9, 3) := by decide +kernel
theorem dX4_howMany_11 : decode cX4_howMany 11 = .ok (.if_icmp .ge 63, 3) := by decide +kernel
theorem dX4_howMany_14 : decode cX4_howMany 14 = .ok (.aload_n 0, 1) := by decide +kernel
theorem dX4_howMany_15 : decode cX4_howMany 15 = .ok (.getfield 22, 3) := by decide +kernel
theorem dX4_howMany_18 : decode cX4_howMany 18 = .ok (.iload 4, 2) := by decide +kernel
theorem dX4_howMany_20 : decode cX4_howMany 20 = .ok (.iaload, 1) := by decide +kernel
theorem dX4_howMany_21 : decode cX4_howMany 21 = .ok (.iload_n 1, 1) := by decide +kernel
theorem dX4_howMany_22 : decode cX4_howMany 22 = .ok (.if_icmp .gt 18, 3) := by decide +kernel
theorem dX4_howMany_25 : decode cX4_howMany 25 = .ok (.iload_n 1, 1) := by decide +kernel
theorem dX4_howMany_26 : decode cX4_howMany 26 = .ok (.aload_n 0, 1) := by decide +kernel
theorem dX4_howMany_27 : decode cX4_howMany 27 = .ok (.getfield 25, 3) := by decide +kernel
theorem dX4_howMany_30 : decode cX4_howMany 30 = .ok (.iload 4, 2) := by decide +kernel
theorem dX4_howMany_32 : decode cX4_howMany 32 = .ok (.iaload, 1) := by decide +kernel
theorem dX4_howMany_33 : decode cX4_howMany 33 = .ok (.if_icmp .ge 7, 3) := by decide +kernel
theorem dX4_howMany_36 : decode cX4_howMany 36 = .ok (.iconst 1, 1) := by decide +kernel
theorem dX4_howMany_37 : decode cX4_howMany 37 = .ok (.goto 4, 3) := by decide +kernel
theorem dX4_howMany_40 : decode cX4_howMany 40 = .ok (.iconst 0, 1) := by decide +kernel
theorem dX4_howMany_41 : decode cX4_howMany 41 = .ok (.istore 5, 2) := by decide +kernel
theorem dX4_howMany_43 : decode cX4_howMany 43 = .ok (.iload_n 3, 1) := by decide +kernel
theorem dX4_howMany_44 : decode cX4_howMany 44 = .ok (.iload 5, 2) := by decide +kernel
theorem dX4_howMany_46 : decode cX4_howMany 46 = .ok (.ifCond .eq 19, 3) := by decide +kernel
theorem dX4_howMany_49 : decode cX4_howMany 49 = .ok (.aload_n 0, 1) := by decide +kernel
theorem dX4_howMany_50 : decode cX4_howMany 50 = .ok (.getfield 19, 3) := by decide +kernel
theorem dX4_howMany_53 : decode cX4_howMany 53 = .ok (.iload 4, 2) := by decide +kernel
theorem dX4_howMany_55 : decode cX4_howMany 55 = .ok (.iaload, 1) := by decide +kernel
theorem dX4_howMany_56 : decode cX4_howMany 56 = .ok (.iload_n 2, 1) := by decide +kernel
theorem dX4_howMany_57 : decode cX4_howMany 57 = .ok (.iand, 1) := by decide +kernel
theorem dX4_howMany_58 : decode cX4_howMany 58 = .ok (.ifCond .eq 7, 3) := by decide +kernel
theorem dX4_howMany_61 : decode cX4_howMany 61 = .ok (.iconst 1, 1) := by decide +kernel
theorem dX4_howMany_62 : decode cX4_howMany 62 = .ok (.goto 4, 3) := by decide +kernel
theorem dX4_howMany_65 : decode cX4_howMany 65 = .ok (.iconst 0, 1) := by decide +kernel
theorem dX4_howMany_66 : decode cX4_howMany 66 = .ok (.iadd, 1) := by decide +kernel
theorem dX4_howMany_67 : decode cX4_howMany 67 = .ok (.istore_n 3, 1) := by decide +kernel
theorem dX4_howMany_68 : decode cX4_howMany 68 = .ok (.iinc 4 1, 3) := by decide +kernel
theorem dX4_howMany_71 : decode cX4_howMany 71 = .ok (.goto (-66), 3) := by decide +kernel
theorem dX4_howMany_74 : decode cX4_howMany 74 = .ok (.iload_n 3, 1) := by decide +kernel
theorem dX4_howMany_75 : decode cX4_howMany 75 = .ok (.ireturn, 1) := by decide +kernel
/-- how many DEEDS; the numbers of the plan are no large ones -/
def xPn (σ : xW) : Prop := 0 ≤ σ 92 0 ∧ σ 92 0 ≤ 8
def xPr (σ : xW) : Prop := ∀ i, (0 ≤ σ 95 i ∧ σ 95 i ≤ 10000) ∧ (0 ≤ σ 96 i ∧ σ 96 i ≤ 10000)
def xcl (σ : xW) (a b : Int) : Prop := a ≠ b ∧ xand (σ 94 a) (σ 94 b) ≠ 0 ∧ σ 95 a < σ 96 b ∧ σ 95 b < σ 96 a
noncomputable def xb (p : Prop) : Int := @ite Int p (Classical.propDecidable p) 1 0
theorem xb_pos {p : Prop} (h : p) : xb p = 1 := by unfold xb; exact if_pos h
theorem xb_neg {p : Prop} (h : ¬ p) : xb p = 0 := by unfold xb; exact if_neg h
theorem xb_01 (p : Prop) : xb p = 0 ∨ xb p = 1 := by
  by_cases h : p
  · exact Or.inr (xb_pos h)
  · exact Or.inl (xb_neg h)
theorem I32_xand (a b : Int) : I32 (xand a b) := I32_toInt _
theorem I32_xor (a b : Int) : I32 (xor' a b) := I32_toInt _
theorem I32_xshl (a b : Int) : I32 (xshl a b) := I32_toInt _
theorem c_X4_collide {σ : xW} {a b : Int} (hP : xPr σ) (ha : 0 ≤ a ∧ a < 8) (hb : 0 ≤ b ∧ b < 8) : xC 0 0 0 mX4_collide [vR 92, vI a, vI b] 155 σ (xRv (vI (xb (xcl σ a b))) σ) := by
  refine xC.of [vR 92, vI a, vI b] (by decide +kernel) (Nat.le_of_ble_eq_true rfl) rfl ?_
  have h1 := hP a
  have h2 := hP b
  have h3 := I32_xand (σ 94 a) (σ 94 b)
  refine g_iln dX4_collide_0 rfl rfl ?_
  refine g_iln dX4_collide_1 rfl rfl ?_
  refine g_ceq dX4_collide_2 (tgt := 55) rfl (by omega) (by omega) (fun q2 => ?_) (fun q2 => ?_)
  · skip
    refine g_ic dX4_collide_55 ?_
    refine g_retZ rfl dX4_collide_56 (by omega) ⟨by first | (rw [xb_pos (show xcl σ a b from ⟨by omega, by omega, by omega, by omega⟩)]; done) | (rw [xb_neg (fun (z : xcl σ a b) => by unfold xcl at z; omega)]; done), rfl, rfl⟩
  · skip
    refine g_aln dX4_collide_5 rfl rfl (by omega) ?_
    refine g_getC 94 dX4_collide_6 fl_X4_19 rfl (by omega) ?_
    refine g_iln dX4_collide_9 rfl rfl ?_
    refine g_iald 8 dX4_collide_10 rfl (by omega) (by decide) ?_
    refine g_aln dX4_collide_11 rfl rfl (by omega) ?_
    refine g_getC 94 dX4_collide_12 fl_X4_19 rfl (by omega) ?_
    refine g_iln dX4_collide_15 rfl rfl ?_
    refine g_iald 8 dX4_collide_16 rfl (by omega) (by decide) ?_
    refine g_iand dX4_collide_17 ?_
    refine g_zeq dX4_collide_18 (tgt := 55) rfl (by exact h3) (fun q18 => ?_) (fun q18 => ?_)
    · skip
      refine g_ic dX4_collide_55 ?_
      refine g_retZ rfl dX4_collide_56 (by omega) ⟨by first | (rw [xb_pos (show xcl σ a b from ⟨by omega, by omega, by omega, by omega⟩)]; done) | (rw [xb_neg (fun (z : xcl σ a b) => by unfold xcl at z; omega)]; done), rfl, rfl⟩
    · skip
      refine g_aln dX4_collide_21 rfl rfl (by omega) ?_
      refine g_getC 95 dX4_collide_22 fl_X4_22 rfl (by omega) ?_
      refine g_iln dX4_collide_25 rfl rfl ?_
      refine g_iald 8 dX4_collide_26 rfl (by omega) (by decide) ?_
      refine g_aln dX4_collide_27 rfl rfl (by omega) ?_
      refine g_getC 96 dX4_collide_28 fl_X4_25 rfl (by omega) ?_
      refine g_iln dX4_collide_31 rfl rfl ?_
      refine g_iald 8 dX4_collide_32 rfl (by omega) (by decide) ?_
      refine g_cge dX4_collide_33 (tgt := 55) rfl (by omega) (by omega) (fun q33 => ?_) (fun q33 => ?_)
      · skip
        refine g_ic dX4_collide_55 ?_
        refine g_retZ rfl dX4_collide_56 (by omega) ⟨by first | (rw [xb_pos (show xcl σ a b from ⟨by omega, by omega, by omega, by omega⟩)]; done) | (rw [xb_neg (fun (z : xcl σ a b) => by unfold xcl at z; omega)]; done), rfl, rfl⟩
      · skip
        refine g_aln dX4_collide_36 rfl rfl (by omega) ?_
        refine g_getC 95 dX4_collide_37 fl_X4_22 rfl (by omega) ?_
        refine g_iln dX4_collide_40 rfl rfl ?_
        refine g_iald 8 dX4_collide_41 rfl (by omega) (by decide) ?_
        refine g_aln dX4_collide_42 rfl rfl (by omega) ?_
        refine g_getC 96 dX4_collide_43 fl_X4_25 rfl (by omega) ?_
        refine g_iln dX4_collide_46 rfl rfl ?_
        refine g_iald 8 dX4_collide_47 rfl (by omega) (by decide) ?_
        refine g_cge dX4_collide_48 (tgt := 55) rfl (by omega) (by omega) (fun q48 => ?_) (fun q48 => ?_)
        · skip
          refine g_ic dX4_collide_55 ?_
          refine g_retZ rfl dX4_collide_56 (by omega) ⟨by first | (rw [xb_pos (show xcl σ a b from ⟨by omega, by omega, by omega, by omega⟩)]; done) | (rw [xb_neg (fun (z : xcl σ a b) => by unfold xcl at z; omega)]; done), rfl, rfl⟩
        · skip
          refine g_ic dX4_collide_51 ?_
          refine g_goto dX4_collide_52 (tgt := 56) rfl ?_
          refine g_retZ rfl dX4_collide_56 (by omega) ⟨by first | (rw [xb_pos (show xcl σ a b from ⟨by omega, by omega, by omega, by omega⟩)]; done) | (rw [xb_neg (fun (z : xcl σ a b) => by unfold xcl at z; omega)]; done), rfl, rfl⟩
/-- bits of those of the first k that p holds of -/
noncomputable def xbit (p : Int → Prop) : Nat → Int
  | 0 => 0
  | k + 1 => xor' (xbit p k) (@ite Int (p k) (Classical.propDecidable _) (xshl 1 k) 0)
theorem xbit_s (p : Int → Prop) (k : Int) (h : 0 ≤ k) : xbit p (k + 1).toNat = xor' (xbit p k.toNat) (@ite Int (p k) (Classical.propDecidable _) (xshl 1 k) 0) := by
  rw [show (k + 1).toNat = k.toNat + 1 by omega]
  show xor' (xbit p k.toNat) (@ite Int (p ((k.toNat : Nat) : Int)) (Classical.propDecidable _) (xshl 1 ((k.toNat : Nat) : Int)) 0) = _
  rw [show ((k.toNat : Nat) : Int) = k by omega]
theorem l_X4_at {σ : xW} {h : Int} (hN : xPn σ) (hh : I32 h) (hH : ∀ i, I32 (σ 93 i)) (k : Nat) : ∀ (i : Int), 0 ≤ i → i + k = σ 92 0 → xG 0 0 0 mX4_at 4 [vR 92, vI h, vI (xbit (fun i => σ 93 i = h) i.toNat), vI i] [] 155 σ (xRv (vI (xbit (fun i => σ 93 i = h) (σ 92 0).toNat)) σ) := by
  unfold xPn at hN
  induction k with
  | zero =>
    intro i h0 h1
    have h2 : i = σ 92 0 := by omega
    refine g_iln dX4_at_4 rfl rfl ?_
    refine g_aln dX4_at_5 rfl rfl (by omega) ?_
    refine g_getI 0 dX4_at_6 fl_X4_9 rfl rfl ?_
    refine g_cge dX4_at_9 (tgt := 38) rfl (by omega) (by omega) (fun q9 => ?_) (fun q9 => ?_)
    · skip
      refine g_iln dX4_at_38 rfl rfl ?_
      refine g_retI rfl dX4_at_39 ⟨by rw [h2], rfl, rfl⟩
    · exfalso; omega
  | succ k ih =>
    intro i h0 h1
    have h3 := hH i
    have hs := xbit_s (fun i => σ 93 i = h) i h0
    refine g_iln dX4_at_4 rfl rfl ?_
    refine g_aln dX4_at_5 rfl rfl (by omega) ?_
    refine g_getI 0 dX4_at_6 fl_X4_9 rfl rfl ?_
    refine g_cge dX4_at_9 (tgt := 38) rfl (by omega) (by omega) (fun q9 => ?_) (fun q9 => ?_)
    · exfalso; omega
    · skip
      refine g_iln dX4_at_12 rfl rfl ?_
      refine g_aln dX4_at_13 rfl rfl (by omega) ?_
      refine g_getC 93 dX4_at_14 fl_X4_15 rfl (by omega) ?_
      refine g_iln dX4_at_17 rfl rfl ?_
      refine g_iald 8 dX4_at_18 rfl (by omega) (by decide) ?_
      refine g_iln dX4_at_19 rfl rfl ?_
      refine g_cne dX4_at_20 (tgt := 29) rfl (by omega) (by omega) (fun q20 => ?_) (fun q20 => ?_)
      · skip
        refine g_ic dX4_at_29 ?_
        first | rw [if_pos (by omega)] at hs | rw [if_neg (by omega)] at hs
        refine g_ior dX4_at_30 ?_
        refine g_istn_2 dX4_at_31 (by decide) rfl ?_
        refine g_inc_3 dX4_at_32 (by decide) rfl ?_
        refine g_goto dX4_at_35 (tgt := 4) rfl ?_
        rw [← hs]; exact ih (i + 1) (by omega) (by omega)
      · skip
        refine g_ic dX4_at_23 ?_
        refine g_iln dX4_at_24 rfl rfl ?_
        refine g_ishl dX4_at_25 ?_
        refine g_goto dX4_at_26 (tgt := 30) rfl ?_
        first | rw [if_pos (by omega)] at hs | rw [if_neg (by omega)] at hs
        refine g_ior dX4_at_30 ?_
        refine g_istn_2 dX4_at_31 (by decide) rfl ?_
        refine g_inc_3 dX4_at_32 (by decide) rfl ?_
        refine g_goto dX4_at_35 (tgt := 4) rfl ?_
        rw [← hs]; exact ih (i + 1) (by omega) (by omega)
theorem c_X4_at {σ : xW} {h : Int} (hN : xPn σ) (hh : I32 h) (hH : ∀ i, I32 (σ 93 i)) : xC 0 0 0 mX4_at [vR 92, vI h] 155 σ (xRv (vI (xbit (fun i => σ 93 i = h) (σ 92 0).toNat)) σ) := by
  refine xC.of [vR 92, vI h, vX, vX] (by decide +kernel) (Nat.le_of_ble_eq_true rfl) rfl ?_
  have hN' := hN
  unfold xPn at hN'
  refine g_ic dX4_at_0 ?_
  refine g_istn_2 dX4_at_1 (by decide) rfl ?_
  refine g_ic dX4_at_2 ?_
  refine g_istn_3 dX4_at_3 (by decide) rfl ?_
  exact l_X4_at hN hh hH (σ 92 0).toNat 0 (by omega) (by omega)

theorem l_X4_foes {σ : xW} {h : Int} (hN : xPn σ) (hP : xPr σ) (hh : 0 ≤ h ∧ h < 8) (k : Nat) : ∀ (i : Int), 0 ≤ i → i + k = σ 92 0 → xG 1 0 0 mX4_foes 4 [vR 92, vI h, vI (xbit (fun i => xcl σ h i) i.toNat), vI i] [] 155 σ (xRv (vI (xbit (fun i => xcl σ h i) (σ 92 0).toNat)) σ) := by
  unfold xPn at hN
  induction k with
  | zero =>
    intro i h0 h1
    have h2 : i = σ 92 0 := by omega
    refine g_iln dX4_foes_4 rfl rfl ?_
    refine g_aln dX4_foes_5 rfl rfl (by omega) ?_
    refine g_getI 0 dX4_foes_6 fl_X4_9 rfl rfl ?_
    refine g_cge dX4_foes_9 (tgt := 37) rfl (by omega) (by omega) (fun q9 => ?_) (fun q9 => ?_)
    · skip
      refine g_iln dX4_foes_37 rfl rfl ?_
      refine g_retI rfl dX4_foes_38 ⟨by rw [h2], rfl, rfl⟩
    · exfalso; omega
  | succ k ih =>
    intro i h0 h1
    have hs := xbit_s (fun i => xcl σ h i) i h0
    have h5 := xb_01 (xcl σ h i)
    refine g_iln dX4_foes_4 rfl rfl ?_
    refine g_aln dX4_foes_5 rfl rfl (by omega) ?_
    refine g_getI 0 dX4_foes_6 fl_X4_9 rfl rfl ?_
    refine g_cge dX4_foes_9 (tgt := 37) rfl (by omega) (by omega) (fun q9 => ?_) (fun q9 => ?_)
    · exfalso; omega
    · skip
      refine g_iln dX4_foes_12 rfl rfl ?_
      refine g_aln dX4_foes_13 rfl rfl (by omega) ?_
      refine g_iln dX4_foes_14 rfl rfl ?_
      refine g_iln dX4_foes_15 rfl rfl ?_
      refine g_cV2v dX4_foes_16 ml_X4_37 rfl (c_X4_collide hP hh (by omega)) (by decide) rfl ?_
      refine g_zeq dX4_foes_19 (tgt := 28) rfl (by omega) (fun q19 => ?_) (fun q19 => ?_)
      · rw [if_neg (fun z => by have := xb_pos z; omega)] at hs
        refine g_ic dX4_foes_28 ?_
        refine g_ior dX4_foes_29 ?_
        refine g_istn_2 dX4_foes_30 (by decide) rfl ?_
        refine g_inc_3 dX4_foes_31 (by decide) rfl ?_
        refine g_goto dX4_foes_34 (tgt := 4) rfl ?_
        rw [← hs]; exact ih (i + 1) (by omega) (by omega)
      · rw [if_pos (Classical.byContradiction (fun z => by have := xb_neg z; omega))] at hs
        refine g_ic dX4_foes_22 ?_
        refine g_iln dX4_foes_23 rfl rfl ?_
        refine g_ishl dX4_foes_24 ?_
        refine g_goto dX4_foes_25 (tgt := 29) rfl ?_
        refine g_ior dX4_foes_29 ?_
        refine g_istn_2 dX4_foes_30 (by decide) rfl ?_
        refine g_inc_3 dX4_foes_31 (by decide) rfl ?_
        refine g_goto dX4_foes_34 (tgt := 4) rfl ?_
        rw [← hs]; exact ih (i + 1) (by omega) (by omega)
theorem c_X4_foes {σ : xW} {h : Int} (hN : xPn σ) (hP : xPr σ) (hh : 0 ≤ h ∧ h < 8) : xC 1 0 0 mX4_foes [vR 92, vI h] 155 σ (xRv (vI (xbit (fun i => xcl σ h i) (σ 92 0).toNat)) σ) := by
  refine xC.of [vR 92, vI h, vX, vX] (by decide +kernel) (Nat.le_of_ble_eq_true rfl) rfl ?_
  have hN' := hN
  unfold xPn at hN'
  refine g_ic dX4_foes_0 ?_
  refine g_istn_2 dX4_foes_1 (by decide) rfl ?_
  refine g_ic dX4_foes_2 ?_
  refine g_istn_3 dX4_foes_3 (by decide) rfl ?_
  exact l_X4_foes hN hP hh (σ 92 0).toNat 0 (by omega) (by omega)
/-- sums of the first k, and from a on -/
def xsum (f : Int → Int) : Nat → Int
  | 0 => 0
  | k + 1 => xsum f k + f k
theorem xsum_s (f : Int → Int) (k : Int) (h : 0 ≤ k) : xsum f (k + 1).toNat = xsum f k.toNat + f k := by
  rw [show (k + 1).toNat = k.toNat + 1 by omega]
  show xsum f k.toNat + f ((k.toNat : Nat) : Int) = _
  rw [show ((k.toNat : Nat) : Int) = k by omega]
theorem xsum_r (f : Int → Int) (M : Int) (h : ∀ i, 0 ≤ f i ∧ f i ≤ M) : ∀ k : Nat, 0 ≤ xsum f k ∧ xsum f k ≤ M * k
  | 0 => by simp [xsum]
  | k + 1 => by
    have h1 := xsum_r f M h k
    have h2 := h k
    show 0 ≤ xsum f k + f k ∧ xsum f k + f k ≤ M * ((k + 1 : Nat) : Int)
    rw [show ((k + 1 : Nat) : Int) = (k : Int) + 1 by omega, Int.mul_add]
    omega
theorem xsum_r' (f : Int → Int) (M : Int) : ∀ k : Nat, (∀ i : Int, 0 ≤ i → 0 ≤ f i ∧ f i ≤ M) → 0 ≤ xsum f k ∧ xsum f k ≤ M * k
  | 0, _ => by simp [xsum]
  | k + 1, h => by
    have h1 := xsum_r' f M k h
    have h2 := h k (by omega)
    show 0 ≤ xsum f k + f k ∧ xsum f k + f k ≤ M * ((k + 1 : Nat) : Int)
    rw [show ((k + 1 : Nat) : Int) = (k : Int) + 1 by omega, Int.mul_add]
    omega
/-- how many b behind a, below n, clash with a -/
noncomputable def xpa (σ : xW) (a : Int) (b : Int) : Int := xsum (fun j => xb (xcl σ a (a + 1 + j))) (b - a - 1).toNat
theorem xpa_s (σ : xW) (a b : Int) (h : a < b) : xpa σ a (b + 1) = xpa σ a b + xb (xcl σ a b) := by
  unfold xpa
  rw [show b + 1 - a - 1 = (b - a - 1) + 1 by omega, xsum_s _ _ (by omega), show a + 1 + (b - a - 1) = b by omega]
theorem xpa_0 (σ : xW) (a : Int) : xpa σ a (a + 1) = 0 := by
  unfold xpa
  rw [show a + 1 - a - 1 = 0 by omega]
  rfl
theorem xpa_r (σ : xW) (a b : Int) (h : 0 ≤ a) (h2 : b ≤ 8) : 0 ≤ xpa σ a b ∧ xpa σ a b ≤ 8 := by
  unfold xpa
  have h3 := xsum_r (fun j => xb (xcl σ a (a + 1 + j))) 1 (fun i => by have := xb_01 (xcl σ a (a + 1 + i)); omega) (b - a - 1).toNat
  omega
noncomputable def xprs (σ : xW) (n : Int) : Int := xsum (fun a => xpa σ a n) n.toNat
theorem l_X4_pairs2 {σ : xW} (hN : xPn σ) (hP : xPr σ) (a s0 : Int) (ha : 0 ≤ a) (hs0 : 0 ≤ s0 ∧ s0 ≤ 100) (K : List xV → Nat → xW → Prop) (hk : ∀ b, b = σ 92 0 → xG 1 0 0 mX4_pairs 47 [vR 92, vI (s0 + xpa σ a (σ 92 0)), vI a, vI b] [] 155 σ K) (k : Nat) : ∀ (b : Int), a < b → b + k = σ 92 0 → xG 1 0 0 mX4_pairs 16 [vR 92, vI (s0 + xpa σ a b), vI a, vI b] [] 155 σ K := by
  unfold xPn at hN
  induction k with
  | zero =>
    intro b h0 h1
    have h2 : b = σ 92 0 := by omega
    refine g_iln dX4_pairs_16 rfl rfl ?_
    refine g_aln dX4_pairs_17 rfl rfl (by omega) ?_
    refine g_getI 0 dX4_pairs_18 fl_X4_9 rfl rfl ?_
    refine g_cge dX4_pairs_21 (tgt := 47) rfl (by omega) (by omega) (fun q21 => ?_) (fun q21 => ?_)
    · skip
      have h3 := hk b h2; rw [← h2] at h3; exact h3
    · exfalso; omega
  | succ k ih =>
    intro b h0 h1
    have hs := xpa_s σ a b h0
    have h5 := xb_01 (xcl σ a b)
    have h6 := ih (b + 1) (by omega) (by omega)
    rw [hs] at h6
    refine g_iln dX4_pairs_16 rfl rfl ?_
    refine g_aln dX4_pairs_17 rfl rfl (by omega) ?_
    refine g_getI 0 dX4_pairs_18 fl_X4_9 rfl rfl ?_
    refine g_cge dX4_pairs_21 (tgt := 47) rfl (by omega) (by omega) (fun q21 => ?_) (fun q21 => ?_)
    · exfalso; omega
    · skip
      refine g_iln dX4_pairs_24 rfl rfl ?_
      refine g_aln dX4_pairs_25 rfl rfl (by omega) ?_
      refine g_iln dX4_pairs_26 rfl rfl ?_
      refine g_iln dX4_pairs_27 rfl rfl ?_
      refine g_cV2v dX4_pairs_28 ml_X4_37 rfl (c_X4_collide hP (by omega) (by omega)) (by decide) rfl ?_
      refine g_zeq dX4_pairs_31 (tgt := 38) rfl (by omega) (fun q31 => ?_) (fun q31 => ?_)
      · skip
        refine g_ic dX4_pairs_38 ?_
        refine g_iadd dX4_pairs_39 ?_
        refine g_istn_1 dX4_pairs_40 (by decide) rfl ?_
        refine g_inc_3 dX4_pairs_41 (by decide) rfl ?_
        refine g_goto dX4_pairs_44 (tgt := 16) rfl ?_
        rw [show xb (xcl σ a b) = _ by first | exact q31 | (rcases h5 with h5 | h5; exact absurd h5 q31; exact h5), ← Int.add_assoc] at h6; exact h6
      · skip
        refine g_ic dX4_pairs_34 ?_
        refine g_goto dX4_pairs_35 (tgt := 39) rfl ?_
        refine g_iadd dX4_pairs_39 ?_
        refine g_istn_1 dX4_pairs_40 (by decide) rfl ?_
        refine g_inc_3 dX4_pairs_41 (by decide) rfl ?_
        refine g_goto dX4_pairs_44 (tgt := 16) rfl ?_
        rw [show xb (xcl σ a b) = _ by first | exact q31 | (rcases h5 with h5 | h5; exact absurd h5 q31; exact h5), ← Int.add_assoc] at h6; exact h6
theorem l_X4_pairs {σ : xW} (hN : xPn σ) (hP : xPr σ) (k : Nat) : ∀ (a : Int), 0 ≤ a → a + k = σ 92 0 → ∀ b0, xG 1 0 0 mX4_pairs 4 [vR 92, vI (xsum (fun a => xpa σ a (σ 92 0)) a.toNat), vI a, b0] [] 155 σ (xRv (vI (xprs σ (σ 92 0))) σ) := by
  have hN' := hN
  unfold xPn at hN'
  induction k with
  | zero =>
    intro i h0 h1 b0
    have h2 : i = σ 92 0 := by omega
    refine g_iln dX4_pairs_4 rfl rfl ?_
    refine g_aln dX4_pairs_5 rfl rfl (by omega) ?_
    refine g_getI 0 dX4_pairs_6 fl_X4_9 rfl rfl ?_
    refine g_cge dX4_pairs_9 (tgt := 53) rfl (by omega) (by omega) (fun q9 => ?_) (fun q9 => ?_)
    · skip
      refine g_iln dX4_pairs_53 rfl rfl ?_
      refine g_retI rfl dX4_pairs_54 ⟨by rw [h2]; rfl, rfl, rfl⟩
    · exfalso; omega
  | succ k ih =>
    intro i h0 h1 b0
    have hs := xsum_s (fun a => xpa σ a (σ 92 0)) i h0
    have h3 := xsum_r' (fun a => xpa σ a (σ 92 0)) 8 i.toNat (fun j hj => xpa_r σ _ _ (by omega) (by omega))
    have h7 := l_X4_pairs2 hN hP i (xsum (fun a => xpa σ a (σ 92 0)) i.toNat) h0 (by omega) (xRv (vI (xprs σ (σ 92 0))) σ) (fun b hb => by
      rw [← hs]
      refine g_inc_2 dX4_pairs_47 (by decide) rfl ?_
      refine g_goto dX4_pairs_50 (tgt := 4) rfl ?_
      exact ih (i + 1) (by omega) (by omega) _) k (i + 1) (by omega) (by omega)
    rw [show xpa σ i (i + 1) = 0 from xpa_0 σ i, Int.add_zero] at h7
    refine g_iln dX4_pairs_4 rfl rfl ?_
    refine g_aln dX4_pairs_5 rfl rfl (by omega) ?_
    refine g_getI 0 dX4_pairs_6 fl_X4_9 rfl rfl ?_
    refine g_cge dX4_pairs_9 (tgt := 53) rfl (by omega) (by omega) (fun q9 => ?_) (fun q9 => ?_)
    · exfalso; omega
    · skip
      refine g_iln dX4_pairs_12 rfl rfl ?_
      refine g_ic dX4_pairs_13 ?_
      refine g_iadd dX4_pairs_14 ?_
      refine g_istn_3 dX4_pairs_15 (by decide) rfl ?_
      exact h7
theorem c_X4_pairs {σ : xW} (hN : xPn σ) (hP : xPr σ) : xC 1 0 0 mX4_pairs [vR 92] 155 σ (xRv (vI (xprs σ (σ 92 0))) σ) := by
  refine xC.of [vR 92, vX, vX, vX] (by decide +kernel) (Nat.le_of_ble_eq_true rfl) rfl ?_
  have hN' := hN
  unfold xPn at hN'
  refine g_ic dX4_pairs_0 ?_
  refine g_istn_1 dX4_pairs_1 (by decide) rfl ?_
  refine g_ic dX4_pairs_2 ?_
  refine g_istn_2 dX4_pairs_3 (by decide) rfl ?_
  exact l_X4_pairs hN hP (σ 92 0).toNat 0 (by omega) (by omega) _

theorem c_X4_holdBack {σ : xW} {a : Int} (ha : 0 ≤ a ∧ a < 8) : xC 0 0 0 mX4_holdBack [vR 92, vI a] 155 σ (xR0 (xu (xu σ 95 a (σ 95 a + 1)) 96 a (σ 96 a + 1))) := by
  refine xC.of [vR 92, vI a] (by decide +kernel) (Nat.le_of_ble_eq_true rfl) rfl ?_
  refine g_aln dX4_holdBack_0 rfl rfl (by omega) ?_
  refine g_getC 95 dX4_holdBack_1 fl_X4_22 rfl (by omega) ?_
  refine g_iln dX4_holdBack_4 rfl rfl ?_
  refine g_dup2 dX4_holdBack_5 rfl rfl ?_
  refine g_iald 8 dX4_holdBack_6 rfl (by omega) (by decide) ?_
  refine g_ic dX4_holdBack_7 ?_
  refine g_iadd dX4_holdBack_8 ?_
  refine g_iast 8 dX4_holdBack_9 rfl (by omega) (by decide) ?_
  refine g_aln dX4_holdBack_10 rfl rfl (by omega) ?_
  refine g_getC 96 dX4_holdBack_11 fl_X4_25 rfl (by omega) ?_
  refine g_iln dX4_holdBack_14 rfl rfl ?_
  refine g_dup2 dX4_holdBack_15 rfl rfl ?_
  refine g_iald 8 dX4_holdBack_16 rfl (by omega) (by decide) ?_
  refine g_ic dX4_holdBack_17 ?_
  refine g_iadd dX4_holdBack_18 ?_
  refine g_iast 8 dX4_holdBack_19 rfl (by omega) (by decide) ?_
  refine g_retV rfl dX4_holdBack_20 ⟨rfl, rfl, by rw [xu_cell _ _ _ _ (show (96 : Int) ≠ 95 by decide)]⟩
def xmn (f : Int → Int) : Nat → Int
  | 0 => f 0
  | k + 1 => min (xmn f k) (f (k + 1))
theorem xmn_s (f : Int → Int) (k : Int) (h : 0 ≤ k) : xmn f (k + 1).toNat = min (xmn f k.toNat) (f (k + 1)) := by
  rw [show (k + 1).toNat = k.toNat + 1 by omega]
  show min (xmn f k.toNat) (f (((k.toNat : Nat) : Int) + 1)) = _
  rw [show ((k.toNat : Nat) : Int) = k by omega]
theorem xmn_r (f : Int → Int) (A B : Int) (h : ∀ i, A ≤ f i ∧ f i ≤ B) : ∀ k : Nat, A ≤ xmn f k ∧ xmn f k ≤ B
  | 0 => h 0
  | k + 1 => by
    have h1 := xmn_r f A B h k
    have h2 := h (k + 1)
    show A ≤ min (xmn f k) (f (k + 1)) ∧ min (xmn f k) (f (k + 1)) ≤ B
    omega
/-- the first minute of the plan -/
def xfm (σ : xW) : Int := if 0 < σ 92 0 then xmn (σ 95) (σ 92 0 - 1).toNat else 0
theorem l_X4_firstMinute {σ : xW} (hN : xPn σ) (hP : xPr σ) (hN0 : 0 < σ 92 0) (k : Nat) : ∀ (i : Int), 1 ≤ i → i + k = σ 92 0 → xG 1 0 0 mX4_firstMinute 20 [vR 92, vI (xmn (σ 95) (i - 1).toNat), vI i] [] 155 σ (xRv (vI (xfm σ)) σ) := by
  unfold xPn at hN
  induction k with
  | zero =>
    intro i h0 h1
    have h2 : i = σ 92 0 := by omega
    refine g_iln dX4_firstMinute_20 rfl rfl ?_
    refine g_aln dX4_firstMinute_21 rfl rfl (by omega) ?_
    refine g_getI 0 dX4_firstMinute_22 fl_X4_9 rfl rfl ?_
    refine g_cge dX4_firstMinute_25 (tgt := 45) rfl (by omega) (by omega) (fun q25 => ?_) (fun q25 => ?_)
    · skip
      refine g_iln dX4_firstMinute_45 rfl rfl ?_
      refine g_retI rfl dX4_firstMinute_46 ⟨by unfold xfm; rw [if_pos hN0, h2], rfl, rfl⟩
    · exfalso; omega
  | succ k ih =>
    intro i h0 h1
    have hs := xmn_s (σ 95) (i - 1) (by omega)
    rw [show i - 1 + 1 = i by omega] at hs
    have h3 := xmn_r (σ 95) 0 10000 (fun j => (hP j).1) (i - 1).toNat
    have h4 := hP i
    have h5 := ih (i + 1) (by omega) (by omega)
    rw [show i + 1 - 1 = i by omega, hs] at h5
    refine g_iln dX4_firstMinute_20 rfl rfl ?_
    refine g_aln dX4_firstMinute_21 rfl rfl (by omega) ?_
    refine g_getI 0 dX4_firstMinute_22 fl_X4_9 rfl rfl ?_
    refine g_cge dX4_firstMinute_25 (tgt := 45) rfl (by omega) (by omega) (fun q25 => ?_) (fun q25 => ?_)
    · exfalso; omega
    · skip
      refine g_iln dX4_firstMinute_28 rfl rfl ?_
      refine g_aln dX4_firstMinute_29 rfl rfl (by omega) ?_
      refine g_getC 95 dX4_firstMinute_30 fl_X4_22 rfl (by omega) ?_
      refine g_iln dX4_firstMinute_33 rfl rfl ?_
      refine g_iald 8 dX4_firstMinute_34 rfl (by omega) (by decide) ?_
      refine g_min dX4_firstMinute_35 mx_X4_41 (by omega) (by omega) (by decide) rfl ?_
      refine g_istn_1 dX4_firstMinute_38 (by decide) rfl ?_
      refine g_inc_2 dX4_firstMinute_39 (by decide) rfl ?_
      refine g_goto dX4_firstMinute_42 (tgt := 20) rfl ?_
      exact h5
theorem l_X4_firstMinute0 {σ : xW} (hN : xPn σ) (h : ¬ 0 < σ 92 0) : xG 1 0 0 mX4_firstMinute 20 [vR 92, vI 0, vI 1] [] 155 σ (xRv (vI (xfm σ)) σ) := by
  unfold xPn at hN
  refine g_iln dX4_firstMinute_20 rfl rfl ?_
  refine g_aln dX4_firstMinute_21 rfl rfl (by omega) ?_
  refine g_getI 0 dX4_firstMinute_22 fl_X4_9 rfl rfl ?_
  refine g_cge dX4_firstMinute_25 (tgt := 45) rfl (by omega) (by omega) (fun q25 => ?_) (fun q25 => ?_)
  · skip
    refine g_iln dX4_firstMinute_45 rfl rfl ?_
    refine g_retI rfl dX4_firstMinute_46 ⟨by unfold xfm; rw [if_neg (by omega)], rfl, rfl⟩
  · exfalso; omega
theorem c_X4_firstMinute {σ : xW} (hN : xPn σ) (hP : xPr σ) : xC 1 0 0 mX4_firstMinute [vR 92] 155 σ (xRv (vI (xfm σ)) σ) := by
  refine xC.of [vR 92, vX, vX] (by decide +kernel) (Nat.le_of_ble_eq_true rfl) rfl ?_
  have hN' := hN
  unfold xPn at hN'
  refine g_aln dX4_firstMinute_0 rfl rfl (by omega) ?_
  refine g_getI 0 dX4_firstMinute_1 fl_X4_9 rfl rfl ?_
  refine g_zle dX4_firstMinute_4 (tgt := 16) rfl (by omega) (fun q4 => ?_) (fun q4 => ?_)
  · skip
    refine g_ic dX4_firstMinute_16 ?_
    refine g_istn_1 dX4_firstMinute_17 (by decide) rfl ?_
    refine g_ic dX4_firstMinute_18 ?_
    refine g_istn_2 dX4_firstMinute_19 (by decide) rfl ?_
    first | exact l_X4_firstMinute hN hP (by omega) (σ 92 0 - 1).toNat 1 (by omega) (by omega) | exact l_X4_firstMinute0 hN (by omega)
  · skip
    refine g_aln dX4_firstMinute_7 rfl rfl (by omega) ?_
    refine g_getC 95 dX4_firstMinute_8 fl_X4_22 rfl (by omega) ?_
    refine g_ic dX4_firstMinute_11 ?_
    refine g_iald 8 dX4_firstMinute_12 rfl (by omega) (by decide) ?_
    refine g_goto dX4_firstMinute_13 (tgt := 17) rfl ?_
    refine g_istn_1 dX4_firstMinute_17 (by decide) rfl ?_
    refine g_ic dX4_firstMinute_18 ?_
    refine g_istn_2 dX4_firstMinute_19 (by decide) rfl ?_
    first | exact l_X4_firstMinute hN hP (by omega) (σ 92 0 - 1).toNat 1 (by omega) (by omega) | exact l_X4_firstMinute0 hN (by omega)

def xmx (f : Int → Int) : Nat → Int
  | 0 => 0
  | k + 1 => max (xmx f k) (f k)
theorem xmx_s (f : Int → Int) (k : Int) (h : 0 ≤ k) : xmx f (k + 1).toNat = max (xmx f k.toNat) (f k) := by
  rw [show (k + 1).toNat = k.toNat + 1 by omega]
  show max (xmx f k.toNat) (f (((k.toNat : Nat) : Int))) = _
  rw [show ((k.toNat : Nat) : Int) = k by omega]
theorem xmx_r (f : Int → Int) (B : Int) (hB : 0 ≤ B) (h : ∀ i, f i ≤ B) : ∀ k : Nat, 0 ≤ xmx f k ∧ xmx f k ≤ B
  | 0 => by unfold xmx; omega
  | k + 1 => by
    have h1 := xmx_r f B hB h k
    have h2 := h k
    show 0 ≤ max (xmx f k) (f k) ∧ max (xmx f k) (f k) ≤ B
    omega
theorem l_X4_minuteBehind {σ : xW} (hN : xPn σ) (hP : xPr σ) (k : Nat) : ∀ (i : Int), 0 ≤ i → i + k = σ 92 0 → xG 1 0 0 mX4_minuteBehind 4 [vR 92, vI (xmx (σ 96) i.toNat), vI i] [] 155 σ (xRv (vI (xmx (σ 96) (σ 92 0).toNat)) σ) := by
  unfold xPn at hN
  induction k with
  | zero =>
    intro i h0 h1
    have h2 : i = σ 92 0 := by omega
    refine g_iln dX4_minuteBehind_4 rfl rfl ?_
    refine g_aln dX4_minuteBehind_5 rfl rfl (by omega) ?_
    refine g_getI 0 dX4_minuteBehind_6 fl_X4_9 rfl rfl ?_
    refine g_cge dX4_minuteBehind_9 (tgt := 29) rfl (by omega) (by omega) (fun q9 => ?_) (fun q9 => ?_)
    · skip
      refine g_iln dX4_minuteBehind_29 rfl rfl ?_
      refine g_retI rfl dX4_minuteBehind_30 ⟨by rw [h2], rfl, rfl⟩
    · exfalso; omega
  | succ k ih =>
    intro i h0 h1
    have hs := xmx_s (σ 96) i h0
    have h3 := xmx_r (σ 96) 10000 (by omega) (fun j => (hP j).2.2) i.toNat
    have h4 := hP i
    have h5 := ih (i + 1) (by omega) (by omega)
    rw [hs] at h5
    refine g_iln dX4_minuteBehind_4 rfl rfl ?_
    refine g_aln dX4_minuteBehind_5 rfl rfl (by omega) ?_
    refine g_getI 0 dX4_minuteBehind_6 fl_X4_9 rfl rfl ?_
    refine g_cge dX4_minuteBehind_9 (tgt := 29) rfl (by omega) (by omega) (fun q9 => ?_) (fun q9 => ?_)
    · exfalso; omega
    · skip
      refine g_iln dX4_minuteBehind_12 rfl rfl ?_
      refine g_aln dX4_minuteBehind_13 rfl rfl (by omega) ?_
      refine g_getC 96 dX4_minuteBehind_14 fl_X4_25 rfl (by omega) ?_
      refine g_iln dX4_minuteBehind_17 rfl rfl ?_
      refine g_iald 8 dX4_minuteBehind_18 rfl (by omega) (by decide) ?_
      refine g_max dX4_minuteBehind_19 mx_X4_47 (by omega) (by omega) (by decide) rfl ?_
      refine g_istn_1 dX4_minuteBehind_22 (by decide) rfl ?_
      refine g_inc_2 dX4_minuteBehind_23 (by decide) rfl ?_
      refine g_goto dX4_minuteBehind_26 (tgt := 4) rfl ?_
      exact h5
theorem c_X4_minuteBehind {σ : xW} (hN : xPn σ) (hP : xPr σ) : xC 1 0 0 mX4_minuteBehind [vR 92] 155 σ (xRv (vI (xmx (σ 96) (σ 92 0).toNat)) σ) := by
  refine xC.of [vR 92, vX, vX] (by decide +kernel) (Nat.le_of_ble_eq_true rfl) rfl ?_
  have hN' := hN
  unfold xPn at hN'
  refine g_ic dX4_minuteBehind_0 ?_
  refine g_istn_1 dX4_minuteBehind_1 (by decide) rfl ?_
  refine g_ic dX4_minuteBehind_2 ?_
  refine g_istn_2 dX4_minuteBehind_3 (by decide) rfl ?_
  exact l_X4_minuteBehind hN hP (σ 92 0).toNat 0 (by omega) (by omega)
/-- a DEED that needs one of these LANES is on in a minute -/
def xon (σ : xW) (mi ln i : Int) : Prop := σ 95 i ≤ mi ∧ mi < σ 96 i ∧ xand (σ 94 i) ln ≠ 0
noncomputable def xhm (σ : xW) (mi ln : Int) : Nat → Int := xsum (fun i => xb (xon σ mi ln i))
theorem l_X4_howMany {σ : xW} {mi ln : Int} (hN : xPn σ) (hP : xPr σ) (hm : I32 mi) (k : Nat) : ∀ (i : Int) (b0 : xV), 0 ≤ i → i + k = σ 92 0 → xG 0 0 0 mX4_howMany 5 [vR 92, vI mi, vI ln, vI (xhm σ mi ln i.toNat), vI i, b0] [] 155 σ (xRv (vI (xhm σ mi ln (σ 92 0).toNat)) σ) := by
  unfold xPn at hN
  induction k with
  | zero =>
    intro i b0 h0 h1
    have h2 : i = σ 92 0 := by omega
    refine g_il dX4_howMany_5 rfl ?_
    refine g_aln dX4_howMany_7 rfl rfl (by omega) ?_
    refine g_getI 0 dX4_howMany_8 fl_X4_9 rfl rfl ?_
    refine g_cge dX4_howMany_11 (tgt := 74) rfl (by omega) (by omega) (fun q11 => ?_) (fun q11 => ?_)
    · skip
      refine g_iln dX4_howMany_74 rfl rfl ?_
      refine g_retI rfl dX4_howMany_75 ⟨by rw [h2], rfl, rfl⟩
    · exfalso; omega
  | succ k ih =>
    intro i b0 h0 h1
    have hs := xsum_s (fun i => xb (xon σ mi ln i)) i h0
    have h4 := hP i
    have h6 := I32_xand (σ 94 i) ln
    have h7 : ∀ (b1 : xV) (z : Int), z = xb (xon σ mi ln i) → xG 0 0 0 mX4_howMany 5 [vR 92, vI mi, vI ln, vI (xhm σ mi ln i.toNat + z), vI (i + 1), b1] [] 155 σ (xRv (vI (xhm σ mi ln (σ 92 0).toNat)) σ) := fun b1 z hz => by
      rw [hz]
      have h5 := ih (i + 1) b1 (by omega) (by omega)
      unfold xhm at h5 ⊢
      rw [hs] at h5
      exact h5
    refine g_il dX4_howMany_5 rfl ?_
    refine g_aln dX4_howMany_7 rfl rfl (by omega) ?_
    refine g_getI 0 dX4_howMany_8 fl_X4_9 rfl rfl ?_
    refine g_cge dX4_howMany_11 (tgt := 74) rfl (by omega) (by omega) (fun q11 => ?_) (fun q11 => ?_)
    · exfalso; omega
    · skip
      refine g_aln dX4_howMany_14 rfl rfl (by omega) ?_
      refine g_getC 95 dX4_howMany_15 fl_X4_22 rfl (by omega) ?_
      refine g_il dX4_howMany_18 rfl ?_
      refine g_iald 8 dX4_howMany_20 rfl (by omega) (by decide) ?_
      refine g_iln dX4_howMany_21 rfl rfl ?_
      refine g_cgt dX4_howMany_22 (tgt := 40) rfl (by omega) (by omega) (fun q22 => ?_) (fun q22 => ?_)
      · skip
        refine g_ic dX4_howMany_40 ?_
        refine g_ist_5 dX4_howMany_41 (by decide) rfl ?_
        refine g_iln dX4_howMany_43 rfl rfl ?_
        refine g_il dX4_howMany_44 rfl ?_
        refine g_zeq dX4_howMany_46 (tgt := 65) rfl (by decide) (fun q46 => ?_) (fun q46 => ?_)
        · skip
          refine g_ic dX4_howMany_65 ?_
          refine g_iadd dX4_howMany_66 ?_
          refine g_istn_3 dX4_howMany_67 (by decide) rfl ?_
          refine g_inc_4 dX4_howMany_68 (by decide) rfl ?_
          refine g_goto dX4_howMany_71 (tgt := 5) rfl ?_
          refine h7 _ _ ?_
          first | exact (xb_pos ⟨by omega, by omega, by omega⟩).symm | exact (xb_neg (fun z => by unfold xon at z; omega)).symm
        · skip
          refine g_aln dX4_howMany_49 rfl rfl (by omega) ?_
          refine g_getC 94 dX4_howMany_50 fl_X4_19 rfl (by omega) ?_
          refine g_il dX4_howMany_53 rfl ?_
          refine g_iald 8 dX4_howMany_55 rfl (by omega) (by decide) ?_
          refine g_iln dX4_howMany_56 rfl rfl ?_
          refine g_iand dX4_howMany_57 ?_
          refine g_zeq dX4_howMany_58 (tgt := 65) rfl (by exact h6) (fun q58 => ?_) (fun q58 => ?_)
          · skip
            refine g_ic dX4_howMany_65 ?_
            refine g_iadd dX4_howMany_66 ?_
            refine g_istn_3 dX4_howMany_67 (by decide) rfl ?_
            refine g_inc_4 dX4_howMany_68 (by decide) rfl ?_
            refine g_goto dX4_howMany_71 (tgt := 5) rfl ?_
            refine h7 _ _ ?_
            first | exact (xb_pos ⟨by omega, by omega, by omega⟩).symm | exact (xb_neg (fun z => by unfold xon at z; omega)).symm
          · skip
            refine g_ic dX4_howMany_61 ?_
            refine g_goto dX4_howMany_62 (tgt := 66) rfl ?_
            refine g_iadd dX4_howMany_66 ?_
            refine g_istn_3 dX4_howMany_67 (by decide) rfl ?_
            refine g_inc_4 dX4_howMany_68 (by decide) rfl ?_
            refine g_goto dX4_howMany_71 (tgt := 5) rfl ?_
            refine h7 _ _ ?_
            first | exact (xb_pos ⟨by omega, by omega, by omega⟩).symm | exact (xb_neg (fun z => by unfold xon at z; omega)).symm
      · skip
        refine g_iln dX4_howMany_25 rfl rfl ?_
        refine g_aln dX4_howMany_26 rfl rfl (by omega) ?_
        refine g_getC 96 dX4_howMany_27 fl_X4_25 rfl (by omega) ?_
        refine g_il dX4_howMany_30 rfl ?_
        refine g_iald 8 dX4_howMany_32 rfl (by omega) (by decide) ?_
        refine g_cge dX4_howMany_33 (tgt := 40) rfl (by omega) (by omega) (fun q33 => ?_) (fun q33 => ?_)
        · skip
          refine g_ic dX4_howMany_40 ?_
          refine g_ist_5 dX4_howMany_41 (by decide) rfl ?_
          refine g_iln dX4_howMany_43 rfl rfl ?_
          refine g_il dX4_howMany_44 rfl ?_
          refine g_zeq dX4_howMany_46 (tgt := 65) rfl (by decide) (fun q46 => ?_) (fun q46 => ?_)
          · skip
            refine g_ic dX4_howMany_65 ?_
            refine g_iadd dX4_howMany_66 ?_
            refine g_istn_3 dX4_howMany_67 (by decide) rfl ?_
            refine g_inc_4 dX4_howMany_68 (by decide) rfl ?_
            refine g_goto dX4_howMany_71 (tgt := 5) rfl ?_
            refine h7 _ _ ?_
            first | exact (xb_pos ⟨by omega, by omega, by omega⟩).symm | exact (xb_neg (fun z => by unfold xon at z; omega)).symm
          · skip
            refine g_aln dX4_howMany_49 rfl rfl (by omega) ?_
            refine g_getC 94 dX4_howMany_50 fl_X4_19 rfl (by omega) ?_
            refine g_il dX4_howMany_53 rfl ?_
            refine g_iald 8 dX4_howMany_55 rfl (by omega) (by decide) ?_
            refine g_iln dX4_howMany_56 rfl rfl ?_
            refine g_iand dX4_howMany_57 ?_
            refine g_zeq dX4_howMany_58 (tgt := 65) rfl (by exact h6) (fun q58 => ?_) (fun q58 => ?_)
            · skip
              refine g_ic dX4_howMany_65 ?_
              refine g_iadd dX4_howMany_66 ?_
              refine g_istn_3 dX4_howMany_67 (by decide) rfl ?_
              refine g_inc_4 dX4_howMany_68 (by decide) rfl ?_
              refine g_goto dX4_howMany_71 (tgt := 5) rfl ?_
              refine h7 _ _ ?_
              first | exact (xb_pos ⟨by omega, by omega, by omega⟩).symm | exact (xb_neg (fun z => by unfold xon at z; omega)).symm
            · skip
              refine g_ic dX4_howMany_61 ?_
              refine g_goto dX4_howMany_62 (tgt := 66) rfl ?_
              refine g_iadd dX4_howMany_66 ?_
              refine g_istn_3 dX4_howMany_67 (by decide) rfl ?_
              refine g_inc_4 dX4_howMany_68 (by decide) rfl ?_
              refine g_goto dX4_howMany_71 (tgt := 5) rfl ?_
              refine h7 _ _ ?_
              first | exact (xb_pos ⟨by omega, by omega, by omega⟩).symm | exact (xb_neg (fun z => by unfold xon at z; omega)).symm
        · skip
          refine g_ic dX4_howMany_36 ?_
          refine g_goto dX4_howMany_37 (tgt := 41) rfl ?_
          refine g_ist_5 dX4_howMany_41 (by decide) rfl ?_
          refine g_iln dX4_howMany_43 rfl rfl ?_
          refine g_il dX4_howMany_44 rfl ?_
          refine g_zeq dX4_howMany_46 (tgt := 65) rfl (by decide) (fun q46 => ?_) (fun q46 => ?_)
          · skip
            refine g_ic dX4_howMany_65 ?_
            refine g_iadd dX4_howMany_66 ?_
            refine g_istn_3 dX4_howMany_67 (by decide) rfl ?_
            refine g_inc_4 dX4_howMany_68 (by decide) rfl ?_
            refine g_goto dX4_howMany_71 (tgt := 5) rfl ?_
            refine h7 _ _ ?_
            first | exact (xb_pos ⟨by omega, by omega, by omega⟩).symm | exact (xb_neg (fun z => by unfold xon at z; omega)).symm
          · skip
            refine g_aln dX4_howMany_49 rfl rfl (by omega) ?_
            refine g_getC 94 dX4_howMany_50 fl_X4_19 rfl (by omega) ?_
            refine g_il dX4_howMany_53 rfl ?_
            refine g_iald 8 dX4_howMany_55 rfl (by omega) (by decide) ?_
            refine g_iln dX4_howMany_56 rfl rfl ?_
            refine g_iand dX4_howMany_57 ?_
            refine g_zeq dX4_howMany_58 (tgt := 65) rfl (by exact h6) (fun q58 => ?_) (fun q58 => ?_)
            · skip
              refine g_ic dX4_howMany_65 ?_
              refine g_iadd dX4_howMany_66 ?_
              refine g_istn_3 dX4_howMany_67 (by decide) rfl ?_
              refine g_inc_4 dX4_howMany_68 (by decide) rfl ?_
              refine g_goto dX4_howMany_71 (tgt := 5) rfl ?_
              refine h7 _ _ ?_
              first | exact (xb_pos ⟨by omega, by omega, by omega⟩).symm | exact (xb_neg (fun z => by unfold xon at z; omega)).symm
            · skip
              refine g_ic dX4_howMany_61 ?_
              refine g_goto dX4_howMany_62 (tgt := 66) rfl ?_
              refine g_iadd dX4_howMany_66 ?_
              refine g_istn_3 dX4_howMany_67 (by decide) rfl ?_
              refine g_inc_4 dX4_howMany_68 (by decide) rfl ?_
              refine g_goto dX4_howMany_71 (tgt := 5) rfl ?_
              refine h7 _ _ ?_
              first | exact (xb_pos ⟨by omega, by omega, by omega⟩).symm | exact (xb_neg (fun z => by unfold xon at z; omega)).symm
theorem c_X4_howMany {σ : xW} {mi ln : Int} (hN : xPn σ) (hP : xPr σ) (hm : I32 mi) : xC 0 0 0 mX4_howMany [vR 92, vI mi, vI ln] 155 σ (xRv (vI (xhm σ mi ln (σ 92 0).toNat)) σ) := by
  refine xC.of [vR 92, vI mi, vI ln, vX, vX, vX] (by decide +kernel) (Nat.le_of_ble_eq_true rfl) rfl ?_
  have hN' := hN
  unfold xPn at hN'
  refine g_ic dX4_howMany_0 ?_
  refine g_istn_3 dX4_howMany_1 (by decide) rfl ?_
  refine g_ic dX4_howMany_2 ?_
  refine g_ist_4 dX4_howMany_3 (by decide) rfl ?_
  exact l_X4_howMany hN hP hm (σ 92 0).toNat 0 _ (by omega) (by omega)
/-- the plan begun: the first k DEEDS -/
def xbg (σ : xW) (k : Int) : xW := fun c j => if c = 95 ∧ 0 ≤ j ∧ j < k then σ 91 (σ 93 j) else if c = 96 ∧ 0 ≤ j ∧ j < k then σ 91 (σ 93 j) + σ 20 j else σ c j
theorem xbg_c (σ : xW) (k c j : Int) (h : c ≠ 95) (h2 : c ≠ 96) : xbg σ k c j = σ c j := by unfold xbg; rw [if_neg (by omega), if_neg (by omega)]
theorem l_X4_begin {σ : xW} (hN : xPn σ) (hH : ∀ i, 0 ≤ σ 93 i ∧ σ 93 i < 8) (k : Nat) : ∀ (i : Int), 0 ≤ i → i + k = σ 92 0 → xG 0 0 0 mX4_begin 2 [vR 92, vR 91, vR 20, vI i] [] 155 (xbg σ i) (xR0 (xbg σ (σ 92 0))) := by
  unfold xPn at hN
  induction k with
  | zero =>
    intro i h0 h1
    have h2 : i = σ 92 0 := by omega
    have e0 := xbg_c σ i 92 0 (by decide) (by decide)
    refine g_iln dX4_begin_2 rfl rfl ?_
    refine g_aln dX4_begin_3 rfl rfl (by omega) ?_
    refine g_getI 0 dX4_begin_4 fl_X4_9 rfl rfl ?_
    rw [e0]
    refine g_cge dX4_begin_7 (tgt := 46) rfl (by omega) (by omega) (fun q7 => ?_) (fun q7 => ?_)
    · skip
      refine g_retV rfl dX4_begin_46 ⟨rfl, rfl, by rw [h2]⟩
    · exfalso; omega
  | succ k ih =>
    intro i h0 h1
    have e0 := xbg_c σ i 92 0 (by decide) (by decide)
    have e1 := xbg_c σ i 93 i (by decide) (by decide)
    have e2 := xbg_c σ i 91 (σ 93 i) (by decide) (by decide)
    have e3 := xbg_c σ i 20 i (by decide) (by decide)
    have h3 := hH i
    have h4 : xu (xu (xbg σ i) 95 i (σ 91 (σ 93 i))) 96 i (σ 91 (σ 93 i) + σ 20 i) = xbg σ (i + 1) := by
      funext c j
      simp only [xu, xbg]
      grind
    refine g_iln dX4_begin_2 rfl rfl ?_
    refine g_aln dX4_begin_3 rfl rfl (by omega) ?_
    refine g_getI 0 dX4_begin_4 fl_X4_9 rfl rfl ?_
    rw [e0]
    refine g_cge dX4_begin_7 (tgt := 46) rfl (by omega) (by omega) (fun q7 => ?_) (fun q7 => ?_)
    · exfalso; omega
    · skip
      refine g_aln dX4_begin_10 rfl rfl (by omega) ?_
      refine g_getC 95 dX4_begin_11 fl_X4_22 rfl (by omega) ?_
      refine g_iln dX4_begin_14 rfl rfl ?_
      refine g_aln dX4_begin_15 rfl rfl (by omega) ?_
      refine g_aln dX4_begin_16 rfl rfl (by omega) ?_
      refine g_getC 93 dX4_begin_17 fl_X4_15 rfl (by omega) ?_
      refine g_iln dX4_begin_20 rfl rfl ?_
      refine g_iald 8 dX4_begin_21 rfl (by omega) (by decide) ?_
      rw [e1]
      refine g_iald 8 dX4_begin_22 rfl (by omega) (by decide) ?_
      rw [e2]
      refine g_iast 8 dX4_begin_23 rfl (by omega) (by decide) ?_
      refine g_aln dX4_begin_24 rfl rfl (by omega) ?_
      refine g_getC 96 dX4_begin_25 fl_X4_25 rfl (by omega) ?_
      refine g_iln dX4_begin_28 rfl rfl ?_
      refine g_aln dX4_begin_29 rfl rfl (by omega) ?_
      refine g_getC 95 dX4_begin_30 fl_X4_22 rfl (by omega) ?_
      refine g_iln dX4_begin_33 rfl rfl ?_
      refine g_iald 8 dX4_begin_34 rfl (by omega) (by decide) ?_
      rw [xu_same]
      refine g_aln dX4_begin_35 rfl rfl (by omega) ?_
      refine g_iln dX4_begin_36 rfl rfl ?_
      refine g_iald 8 dX4_begin_37 rfl (by omega) (by decide) ?_
      rw [xu_cell _ _ _ _ (show (20 : Int) ≠ 95 by decide), e3]
      refine g_iadd dX4_begin_38 ?_
      refine g_iast 8 dX4_begin_39 rfl (by omega) (by decide) ?_
      refine g_inc_3 dX4_begin_40 (by decide) rfl ?_
      refine g_goto dX4_begin_43 (tgt := 2) rfl ?_
      rw [h4]; exact ih (i + 1) (by omega) (by omega)
theorem c_X4_begin {σ : xW} (hN : xPn σ) (hH : ∀ i, 0 ≤ σ 93 i ∧ σ 93 i < 8) : xC 0 0 0 mX4_begin [vR 92, vR 91, vR 20] 155 σ (xR0 (xbg σ (σ 92 0))) := by
  refine xC.of [vR 92, vR 91, vR 20, vX] (by decide +kernel) (Nat.le_of_ble_eq_true rfl) rfl ?_
  have hN' := hN
  unfold xPn at hN'
  have h0 : xbg σ 0 = σ := by
    funext c j
    unfold xbg
    rw [if_neg (by omega), if_neg (by omega)]
  have h1 := l_X4_begin hN hH (σ 92 0).toNat 0 (by omega) (by omega)
  rw [h0] at h1
  refine g_ic dX4_begin_0 ?_
  refine g_istn_3 dX4_begin_1 (by decide) rfl ?_
  exact h1
