theorem dX0_init_0 : decode cX0_init 0 = .ok (.aload_n 0, 1) := by decide +kernel
theorem dX0_init_1 : decode cX0_init 1 = .ok (.invokespecial 3, 3) := by decide +kernel
theorem dX0_init_4 : decode cX0_init 4 = .ok (.aload_n 0, 1) := by decide +kernel
theorem dX0_init_5 : decode cX0_init 5 = .ok (.iconst 5, 1) := by decide +kernel
theorem dX0_init_6 : decode cX0_init 6 = .ok (.newarray .int, 2) := by decide +kernel
theorem dX0_init_8 : decode cX0_init 8 = .ok (.putfield 9, 3) := by decide +kernel
theorem dX0_init_11 : decode cX0_init 11 = .ok (.aload_n 0, 1) := by decide +kernel
theorem dX0_init_12 : decode cX0_init 12 = .ok (.bipush 8, 2) := by decide +kernel
theorem dX0_init_14 : decode cX0_init 14 = .ok (.newarray .int, 2) := by decide +kernel
theorem dX0_init_16 : decode cX0_init 16 = .ok (.putfield 15, 3) := by decide +kernel
theorem dX0_init_19 : decode cX0_init 19 = .ok (.aload_n 0, 1) := by decide +kernel
theorem dX0_init_20 : decode cX0_init 20 = .ok (.iconst 5, 1) := by decide +kernel
theorem dX0_init_21 : decode cX0_init 21 = .ok (.newarray .int, 2) := by decide +kernel
theorem dX0_init_23 : decode cX0_init 23 = .ok (.putfield 18, 3) := by decide +kernel
theorem dX0_init_26 : decode cX0_init 26 = .ok (.aload_n 0, 1) := by decide +kernel
theorem dX0_init_27 : decode cX0_init 27 = .ok (.bipush 8, 2) := by decide +kernel
theorem dX0_init_29 : decode cX0_init 29 = .ok (.newarray .int, 2) := by decide +kernel
theorem dX0_init_31 : decode cX0_init 31 = .ok (.putfield 21, 3) := by decide +kernel
theorem dX0_init_34 : decode cX0_init 34 = .ok (.aload_n 0, 1) := by decide +kernel
theorem dX0_init_35 : decode cX0_init 35 = .ok (.sipush 192, 3) := by decide +kernel
theorem dX0_init_38 : decode cX0_init 38 = .ok (.newarray .int, 2) := by decide +kernel
theorem dX0_init_40 : decode cX0_init 40 = .ok (.putfield 24, 3) := by decide +kernel
theorem dX0_init_43 : decode cX0_init 43 = .ok (.aload_n 0, 1) := by decide +kernel
theorem dX0_init_44 : decode cX0_init 44 = .ok (.sipush 192, 3) := by decide +kernel
theorem dX0_init_47 : decode cX0_init 47 = .ok (.newarray .int, 2) := by decide +kernel
theorem dX0_init_49 : decode cX0_init 49 = .ok (.putfield 27, 3) := by decide +kernel
theorem dX0_init_52 : decode cX0_init 52 = .ok (.aload_n 0, 1) := by decide +kernel
theorem dX0_init_53 : decode cX0_init 53 = .ok (.aload_n 1, 1) := by decide +kernel
theorem dX0_init_54 : decode cX0_init 54 = .ok (.putfield 30, 3) := by decide +kernel
theorem dX0_init_57 : decode cX0_init 57 = .ok (.aload_n 0, 1) := by decide +kernel
theorem dX0_init_58 : decode cX0_init 58 = .ok (.aload_n 2, 1) := by decide +kernel
theorem dX0_init_59 : decode cX0_init 59 = .ok (.putfield 34, 3) := by decide +kernel
theorem dX0_init_62 : decode cX0_init 62 = .ok (.aload_n 0, 1) := by decide +kernel
theorem dX0_init_63 : decode cX0_init 63 = .ok (.new 38, 3) := by decide +kernel
theorem dX0_init_66 : decode cX0_init 66 = .ok (.dup, 1) := by decide +kernel
theorem dX0_init_67 : decode cX0_init 67 = .ok (.aload_n 1, 1) := by decide +kernel
theorem dX0_init_68 : decode cX0_init 68 = .ok (.aload_n 2, 1) := by decide +kernel
theorem dX0_init_69 : decode cX0_init 69 = .ok (.invokespecial 40, 3) := by decide +kernel
theorem dX0_init_72 : decode cX0_init 72 = .ok (.putfield 43, 3) := by decide +kernel
theorem dX0_init_75 : decode cX0_init 75 = .ok (.return_, 1) := by decide +kernel
theorem dX0_begin_0 : decode cX0_begin 0 = .ok (.aload_n 0, 1) := by decide +kernel
theorem dX0_begin_1 : decode cX0_begin 1 = .ok (.getfield 43, 3) := by decide +kernel
theorem dX0_begin_4 : decode cX0_begin 4 = .ok (.invokevirtual 47, 3) := by decide +kernel
theorem dX0_begin_7 : decode cX0_begin 7 = .ok (.aload_n 0, 1) := by decide +kernel
theorem dX0_begin_8 : decode cX0_begin 8 = .ok (.aload_n 0, 1) := by decide +kernel
theorem dX0_begin_9 : decode cX0_begin 9 = .ok (.getfield 30, 3) := by decide +kernel
theorem dX0_begin_12 : decode cX0_begin 12 = .ok (.getfield 50, 3) := by decide +kernel
theorem dX0_begin_15 : decode cX0_begin 15 = .ok (.putfield 56, 3) := by decide +kernel
theorem dX0_begin_18 : decode cX0_begin 18 = .ok (.aload_n 0, 1) := by decide +kernel
theorem dX0_begin_19 : decode cX0_begin 19 = .ok (.aload_n 0, 1) := by decide +kernel
theorem dX0_begin_20 : decode cX0_begin 20 = .ok (.getfield 30, 3) := by decide +kernel
theorem dX0_begin_23 : decode cX0_begin 23 = .ok (.getfield 57, 3) := by decide +kernel
theorem dX0_begin_26 : decode cX0_begin 26 = .ok (.putfield 60, 3) := by decide +kernel
theorem dX0_begin_29 : decode cX0_begin 29 = .ok (.aload_n 0, 1) := by decide +kernel
theorem dX0_begin_30 : decode cX0_begin 30 = .ok (.aload_n 0, 1) := by decide +kernel
theorem dX0_begin_31 : decode cX0_begin 31 = .ok (.getfield 30, 3) := by decide +kernel
theorem dX0_begin_34 : decode cX0_begin 34 = .ok (.getfield 61, 3) := by decide +kernel
theorem dX0_begin_37 : decode cX0_begin 37 = .ok (.putfield 64, 3) := by decide +kernel
theorem dX0_begin_40 : decode cX0_begin 40 = .ok (.aload_n 0, 1) := by decide +kernel
theorem dX0_begin_41 : decode cX0_begin 41 = .ok (.getfield 30, 3) := by decide +kernel
theorem dX0_begin_44 : decode cX0_begin 44 = .ok (.getfield 65, 3) := by decide +kernel
theorem dX0_begin_47 : decode cX0_begin 47 = .ok (.iconst 0, 1) := by decide +kernel
theorem dX0_begin_48 : decode cX0_begin 48 = .ok (.aload_n 0, 1) := by decide +kernel
theorem dX0_begin_49 : decode cX0_begin 49 = .ok (.getfield 9, 3) := by decide +kernel
theorem dX0_begin_52 : decode cX0_begin 52 = .ok (.iconst 0, 1) := by decide +kernel
theorem dX0_begin_53 : decode cX0_begin 53 = .ok (.iconst 5, 1) := by decide +kernel
theorem dX0_begin_54 : decode cX0_begin 54 = .ok (.invokestatic 66, 3) := by decide +kernel
theorem dX0_begin_57 : decode cX0_begin 57 = .ok (.return_, 1) := by decide +kernel
theorem dX0_lay_0 : decode cX0_lay 0 = .ok (.aload_n 0, 1) := by decide +kernel
theorem dX0_lay_1 : decode cX0_lay 1 = .ok (.getfield 43, 3) := by decide +kernel
theorem dX0_lay_4 : decode cX0_lay 4 = .ok (.invokevirtual 72, 3) := by decide +kernel
theorem dX0_lay_7 : decode cX0_lay 7 = .ok (.iconst 0, 1) := by decide +kernel
theorem dX0_lay_8 : decode cX0_lay 8 = .ok (.istore_n 1, 1) := by decide +kernel
theorem dX0_lay_9 : decode cX0_lay 9 = .ok (.iload_n 1, 1) := by decide +kernel
theorem dX0_lay_10 : decode cX0_lay 10 = .ok (.sipush 192, 3) := by decide +kernel
theorem dX0_lay_13 : decode cX0_lay 13 = .ok (.if_icmp .ge 16, 3) := by decide +kernel
theorem dX0_lay_16 : decode cX0_lay 16 = .ok (.aload_n 0, 1) := by decide +kernel
theorem dX0_lay_17 : decode cX0_lay 17 = .ok (.getfield 24, 3) := by decide +kernel
theorem dX0_lay_20 : decode cX0_lay 20 = .ok (.iload_n 1, 1) := by decide +kernel
theorem dX0_lay_21 : decode cX0_lay 21 = .ok (.iconst (-1), 1) := by decide +kernel
theorem dX0_lay_22 : decode cX0_lay 22 = .ok (.iastore, 1) := by decide +kernel
theorem dX0_lay_23 : decode cX0_lay 23 = .ok (.iinc 1 1, 3) := by decide +kernel
theorem dX0_lay_26 : decode cX0_lay 26 = .ok (.goto (-17), 3) := by decide +kernel
theorem dX0_lay_29 : decode cX0_lay 29 = .ok (.return_, 1) := by decide +kernel
theorem dX0_costInAll_0 : decode cX0_costInAll 0 = .ok (.aload_n 0, 1) := by decide +kernel
theorem dX0_costInAll_1 : decode cX0_costInAll 1 = .ok (.invokevirtual 75, 3) := by decide +kernel
theorem dX0_costInAll_4 : decode cX0_costInAll 4 = .ok (.aload_n 0, 1) := by decide +kernel
theorem dX0_costInAll_5 : decode cX0_costInAll 5 = .ok (.bipush 24, 2) := by decide +kernel
theorem dX0_costInAll_7 : decode cX0_costInAll 7 = .ok (.ldc 76, 2) := by decide +kernel
theorem dX0_costInAll_9 : decode cX0_costInAll 9 = .ok (.invokevirtual 77, 3) := by decide +kernel
theorem dX0_costInAll_12 : decode cX0_costInAll 12 = .ok (.aload_n 0, 1) := by decide +kernel
theorem dX0_costInAll_13 : decode cX0_costInAll 13 = .ok (.invokevirtual 81, 3) := by decide +kernel
theorem dX0_costInAll_16 : decode cX0_costInAll 16 = .ok (.ireturn, 1) := by decide +kernel
theorem dX0_cost_0 : decode cX0_cost 0 = .ok (.aload_n 0, 1) := by decide +kernel
theorem dX0_cost_1 : decode cX0_cost 1 = .ok (.getfield 85, 3) := by decide +kernel
theorem dX0_cost_4 : decode cX0_cost 4 = .ok (.aload_n 0, 1) := by decide +kernel
theorem dX0_cost_5 : decode cX0_cost 5 = .ok (.getfield 88, 3) := by decide +kernel
theorem dX0_cost_8 : decode cX0_cost 8 = .ok (.iadd, 1) := by decide +kernel
theorem dX0_cost_9 : decode cX0_cost 9 = .ok (.ireturn, 1) := by decide +kernel
theorem dX0_better_0 : decode cX0_better 0 = .ok (.aload_n 0, 1) := by decide +kernel
theorem dX0_better_1 : decode cX0_better 1 = .ok (.bipush 24, 2) := by decide +kernel
theorem dX0_better_3 : decode cX0_better 3 = .ok (.lload_n 1, 1) := by decide +kernel
theorem dX0_better_4 : decode cX0_better 4 = .ok (.invokestatic 91, 3) := by decide +kernel
theorem dX0_better_7 : decode cX0_better 7 = .ok (.invokevirtual 77, 3) := by decide +kernel
theorem dX0_better_10 : decode cX0_better 10 = .ok (.aload_n 0, 1) := by decide +kernel
theorem dX0_better_11 : decode cX0_better 11 = .ok (.invokevirtual 81, 3) := by decide +kernel
theorem dX0_better_14 : decode cX0_better 14 = .ok (.lload_n 1, 1) := by decide +kernel
theorem dX0_better_15 : decode cX0_better 15 = .ok (.invokestatic 91, 3) := by decide +kernel
theorem dX0_better_18 : decode cX0_better 18 = .ok (.if_icmp .ge 21, 3) := by decide +kernel
theorem dX0_better_21 : decode cX0_better 21 = .ok (.aload_n 0, 1) := by decide +kernel
theorem dX0_better_22 : decode cX0_better 22 = .ok (.invokevirtual 81, 3) := by decide +kernel
theorem dX0_better_25 : decode cX0_better 25 = .ok (.i2l, 1) := by decide +kernel
theorem dX0_better_26 : decode cX0_better 26 = .ok (.bipush 32, 2) := by decide +kernel
theorem dX0_better_28 : decode cX0_better 28 = .ok (.lshl, 1) := by decide +kernel
theorem dX0_better_29 : decode cX0_better 29 = .ok (.iload_n 3, 1) := by decide +kernel
theorem dX0_better_30 : decode cX0_better 30 = .ok (.i2l, 1) := by decide +kernel
theorem dX0_better_31 : decode cX0_better 31 = .ok (.ldc2_w 95, 3) := by decide +kernel
theorem dX0_better_34 : decode cX0_better 34 = .ok (.land, 1) := by decide +kernel
theorem dX0_better_35 : decode cX0_better 35 = .ok (.lor, 1) := by decide +kernel
theorem dX0_better_36 : decode cX0_better 36 = .ok (.goto 4, 3) := by decide +kernel
theorem dX0_better_39 : decode cX0_better 39 = .ok (.lload_n 1, 1) := by decide +kernel
theorem dX0_better_40 : decode cX0_better 40 = .ok (.lreturn, 1) := by decide +kernel
theorem dX0_isStoodBy_0 : decode cX0_isStoodBy 0 = .ok (.iconst 0, 1) := by decide +kernel
theorem dX0_isStoodBy_1 : decode cX0_isStoodBy 1 = .ok (.istore_n 2, 1) := by decide +kernel
theorem dX0_isStoodBy_2 : decode cX0_isStoodBy 2 = .ok (.iconst 0, 1) := by decide +kernel
theorem dX0_isStoodBy_3 : decode cX0_isStoodBy 3 = .ok (.istore_n 3, 1) := by decide +kernel
theorem dX0_isStoodBy_4 : decode cX0_isStoodBy 4 = .ok (.iload_n 3, 1) := by decide +kernel
theorem dX0_isStoodBy_5 : decode cX0_isStoodBy 5 = .ok (.aload_n 0, 1) := by decide +kernel
theorem dX0_isStoodBy_6 : decode cX0_isStoodBy 6 = .ok (.getfield 30, 3) := by decide +kernel
theorem dX0_isStoodBy_9 : decode cX0_isStoodBy 9 = .ok (.getfield 97, 3) := by decide +kernel
theorem dX0_isStoodBy_12 : decode cX0_isStoodBy 12 = .ok (.if_icmp .ge 48, 3) := by decide +kernel
theorem dX0_isStoodBy_15 : decode cX0_isStoodBy 15 = .ok (.iload_n 3, 1) := by decide +kernel
theorem dX0_isStoodBy_16 : decode cX0_isStoodBy 16 = .ok (.iconst 5, 1) := by decide +kernel
theorem dX0_isStoodBy_17 : decode cX0_isStoodBy 17 = .ok (.if_icmp .ge 43, 3) := by decide +kernel
theorem dX0_isStoodBy_20 : decode cX0_isStoodBy 20 = .ok (.aload_n 0, 1) := by decide +kernel
theorem dX0_isStoodBy_21 : decode cX0_isStoodBy 21 = .ok (.iload_n 1, 1) := by decide +kernel
theorem dX0_isStoodBy_22 : decode cX0_isStoodBy 22 = .ok (.iload_n 3, 1) := by decide +kernel
theorem dX0_isStoodBy_23 : decode cX0_isStoodBy 23 = .ok (.invokevirtual 100, 3) := by decide +kernel
theorem dX0_isStoodBy_26 : decode cX0_isStoodBy 26 = .ok (.istore 4, 2) := by decide +kernel
theorem dX0_isStoodBy_28 : decode cX0_isStoodBy 28 = .ok (.iload_n 2, 1) := by decide +kernel
theorem dX0_isStoodBy_29 : decode cX0_isStoodBy 29 = .ok (.iload 4, 2) := by decide +kernel
theorem dX0_isStoodBy_31 : decode cX0_isStoodBy 31 = .ok (.ishr, 1) := by decide +kernel
theorem dX0_isStoodBy_32 : decode cX0_isStoodBy 32 = .ok (.iconst 1, 1) := by decide +kernel
theorem dX0_isStoodBy_33 : decode cX0_isStoodBy 33 = .ok (.iand, 1) := by decide +kernel
theorem dX0_isStoodBy_34 : decode cX0_isStoodBy 34 = .ok (.ifCond .eq 5, 3) := by decide +kernel
theorem dX0_isStoodBy_37 : decode cX0_isStoodBy 37 = .ok (.iconst 0, 1) := by decide +kernel
theorem dX0_isStoodBy_38 : decode cX0_isStoodBy 38 = .ok (.ireturn, 1) := by decide +kernel
theorem dX0_isStoodBy_39 : decode cX0_isStoodBy 39 = .ok (.iload_n 2, 1) := by decide +kernel
theorem dX0_isStoodBy_40 : decode cX0_isStoodBy 40 = .ok (.iconst 1, 1) := by decide +kernel
theorem dX0_isStoodBy_41 : decode cX0_isStoodBy 41 = .ok (.iload 4, 2) := by decide +kernel
theorem dX0_isStoodBy_43 : decode cX0_isStoodBy 43 = .ok (.ishl, 1) := by decide +kernel
theorem dX0_isStoodBy_44 : decode cX0_isStoodBy 44 = .ok (.ior, 1) := by decide +kernel
theorem dX0_isStoodBy_45 : decode cX0_isStoodBy 45 = .ok (.istore_n 2, 1) := by decide +kernel
theorem dX0_isStoodBy_46 : decode cX0_isStoodBy 46 = .ok (.aload_n 0, 1) := by decide +kernel
theorem dX0_isStoodBy_47 : decode cX0_isStoodBy 47 = .ok (.getfield 9, 3) := by decide +kernel
theorem dX0_isStoodBy_50 : decode cX0_isStoodBy 50 = .ok (.iload_n 3, 1) := by decide +kernel
theorem dX0_isStoodBy_51 : decode cX0_isStoodBy 51 = .ok (.iload 4, 2) := by decide +kernel
theorem dX0_isStoodBy_53 : decode cX0_isStoodBy 53 = .ok (.iastore, 1) := by decide +kernel
theorem dX0_isStoodBy_54 : decode cX0_isStoodBy 54 = .ok (.iinc 3 1, 3) := by decide +kernel
theorem dX0_isStoodBy_57 : decode cX0_isStoodBy 57 = .ok (.goto (-53), 3) := by decide +kernel
theorem dX0_isStoodBy_60 : decode cX0_isStoodBy 60 = .ok (.iconst 1, 1) := by decide +kernel
theorem dX0_isStoodBy_61 : decode cX0_isStoodBy 61 = .ok (.ireturn, 1) := by decide +kernel
theorem dX0_placeBy_0 : decode cX0_placeBy 0 = .ok (.iload_n 1, 1) := by decide +kernel
theorem dX0_placeBy_1 : decode cX0_placeBy 1 = .ok (.iconst 3, 1) := by decide +kernel
theorem dX0_placeBy_2 : decode cX0_placeBy 2 = .ok (.aload_n 0, 1) := by decide +kernel
theorem dX0_placeBy_3 : decode cX0_placeBy 3 = .ok (.getfield 30, 3) := by decide +kernel
theorem dX0_placeBy_6 : decode cX0_placeBy 6 = .ok (.getfield 97, 3) := by decide +kernel
theorem dX0_placeBy_9 : decode cX0_placeBy 9 = .ok (.iconst 1, 1) := by decide +kernel
theorem dX0_placeBy_10 : decode cX0_placeBy 10 = .ok (.isub, 1) := by decide +kernel
theorem dX0_placeBy_11 : decode cX0_placeBy 11 = .ok (.iload_n 2, 1) := by decide +kernel
theorem dX0_placeBy_12 : decode cX0_placeBy 12 = .ok (.isub, 1) := by decide +kernel
theorem dX0_placeBy_13 : decode cX0_placeBy 13 = .ok (.imul, 1) := by decide +kernel
theorem dX0_placeBy_14 : decode cX0_placeBy 14 = .ok (.ishr, 1) := by decide +kernel
theorem dX0_placeBy_15 : decode cX0_placeBy 15 = .ok (.bipush 7, 2) := by decide +kernel
theorem dX0_placeBy_17 : decode cX0_placeBy 17 = .ok (.iand, 1) := by decide +kernel
theorem dX0_placeBy_18 : decode cX0_placeBy 18 = .ok (.ireturn, 1) := by decide +kernel
theorem dX0_run_0 : decode cX0_run 0 = .ok (.aload_n 0, 1) := by decide +kernel
theorem dX0_run_1 : decode cX0_run 1 = .ok (.iconst 0, 1) := by decide +kernel
theorem dX0_run_2 : decode cX0_run 2 = .ok (.putfield 85, 3) := by decide +kernel
theorem dX0_run_5 : decode cX0_run 5 = .ok (.aload_n 0, 1) := by decide +kernel
theorem dX0_run_6 : decode cX0_run 6 = .ok (.iconst 0, 1) := by decide +kernel
theorem dX0_run_7 : decode cX0_run 7 = .ok (.putfield 88, 3) := by decide +kernel
theorem dX0_run_10 : decode cX0_run 10 = .ok (.aload_n 0, 1) := by decide +kernel
theorem dX0_run_11 : decode cX0_run 11 = .ok (.iconst 0, 1) := by decide +kernel
theorem dX0_run_12 : decode cX0_run 12 = .ok (.putfield 104, 3) := by decide +kernel
theorem dX0_run_15 : decode cX0_run 15 = .ok (.aload_n 0, 1) := by decide +kernel
theorem dX0_run_16 : decode cX0_run 16 = .ok (.iconst (-1), 1) := by decide +kernel
theorem dX0_run_17 : decode cX0_run 17 = .ok (.putfield 107, 3) := by decide +kernel
theorem dX0_run_20 : decode cX0_run 20 = .ok (.aload_n 0, 1) := by decide +kernel
theorem dX0_run_21 : decode cX0_run 21 = .ok (.iconst 0, 1) := by decide +kernel
theorem dX0_run_22 : decode cX0_run 22 = .ok (.putfield 110, 3) := by decide +kernel
theorem dX0_run_25 : decode cX0_run 25 = .ok (.aload_n 0, 1) := by decide +kernel
theorem dX0_run_26 : decode cX0_run 26 = .ok (.iconst 0, 1) := by decide +kernel
theorem dX0_run_27 : decode cX0_run 27 = .ok (.putfield 113, 3) := by decide +kernel
theorem dX0_run_30 : decode cX0_run 30 = .ok (.aload_n 0, 1) := by decide +kernel
theorem dX0_run_31 : decode cX0_run 31 = .ok (.invokevirtual 116, 3) := by decide +kernel
theorem dX0_run_34 : decode cX0_run 34 = .ok (.iconst 0, 1) := by decide +kernel
theorem dX0_run_35 : decode cX0_run 35 = .ok (.istore_n 3, 1) := by decide +kernel
theorem dX0_run_36 : decode cX0_run 36 = .ok (.iload_n 3, 1) := by decide +kernel
theorem dX0_run_37 : decode cX0_run 37 = .ok (.iload_n 1, 1) := by decide +kernel
theorem dX0_run_38 : decode cX0_run 38 = .ok (.if_icmp .ge 102, 3) := by decide +kernel
theorem dX0_run_41 : decode cX0_run 41 = .ok (.iload_n 3, 1) := by decide +kernel
theorem dX0_run_42 : decode cX0_run 42 = .ok (.bipush 24, 2) := by decide +kernel
theorem dX0_run_44 : decode cX0_run 44 = .ok (.if_icmp .ge 96, 3) := by decide +kernel
theorem dX0_run_47 : decode cX0_run 47 = .ok (.aload_n 0, 1) := by decide +kernel
theorem dX0_run_48 : decode cX0_run 48 = .ok (.invokevirtual 81, 3) := by decide +kernel
theorem dX0_run_51 : decode cX0_run 51 = .ok (.iload_n 2, 1) := by decide +kernel
theorem dX0_run_52 : decode cX0_run 52 = .ok (.if_icmp .ge 88, 3) := by decide +kernel
theorem dX0_run_55 : decode cX0_run 55 = .ok (.aload_n 0, 1) := by decide +kernel
theorem dX0_run_56 : decode cX0_run 56 = .ok (.getfield 56, 3) := by decide +kernel
theorem dX0_run_59 : decode cX0_run 59 = .ok (.iload_n 3, 1) := by decide +kernel
theorem dX0_run_60 : decode cX0_run 60 = .ok (.ishr, 1) := by decide +kernel
theorem dX0_run_61 : decode cX0_run 61 = .ok (.iconst 1, 1) := by decide +kernel
theorem dX0_run_62 : decode cX0_run 62 = .ok (.iand, 1) := by decide +kernel
theorem dX0_run_63 : decode cX0_run 63 = .ok (.ifCond .eq 56, 3) := by decide +kernel
theorem dX0_run_66 : decode cX0_run 66 = .ok (.aload_n 0, 1) := by decide +kernel
theorem dX0_run_67 : decode cX0_run 67 = .ok (.getfield 34, 3) := by decide +kernel
theorem dX0_run_70 : decode cX0_run 70 = .ok (.aload_n 0, 1) := by decide +kernel
theorem dX0_run_71 : decode cX0_run 71 = .ok (.getfield 43, 3) := by decide +kernel
theorem dX0_run_74 : decode cX0_run 74 = .ok (.getfield 119, 3) := by decide +kernel
theorem dX0_run_77 : decode cX0_run 77 = .ok (.iload_n 3, 1) := by decide +kernel
theorem dX0_run_78 : decode cX0_run 78 = .ok (.iaload, 1) := by decide +kernel
theorem dX0_run_79 : decode cX0_run 79 = .ok (.iload_n 3, 1) := by decide +kernel
theorem dX0_run_80 : decode cX0_run 80 = .ok (.iconst 0, 1) := by decide +kernel
theorem dX0_run_81 : decode cX0_run 81 = .ok (.iconst 0, 1) := by decide +kernel
theorem dX0_run_82 : decode cX0_run 82 = .ok (.iconst 0, 1) := by decide +kernel
theorem dX0_run_83 : decode cX0_run 83 = .ok (.aload_n 0, 1) := by decide +kernel
theorem dX0_run_84 : decode cX0_run 84 = .ok (.getfield 113, 3) := by decide +kernel
theorem dX0_run_87 : decode cX0_run 87 = .ok (.invokevirtual 122, 3) := by decide +kernel
theorem dX0_run_90 : decode cX0_run 90 = .ok (.aload_n 0, 1) := by decide +kernel
theorem dX0_run_91 : decode cX0_run 91 = .ok (.dup, 1) := by decide +kernel
theorem dX0_run_92 : decode cX0_run 92 = .ok (.getfield 88, 3) := by decide +kernel
theorem dX0_run_95 : decode cX0_run 95 = .ok (.aload_n 0, 1) := by decide +kernel
theorem dX0_run_96 : decode cX0_run 96 = .ok (.getfield 34, 3) := by decide +kernel
theorem dX0_run_99 : decode cX0_run 99 = .ok (.iconst 2, 1) := by decide +kernel
theorem dX0_run_100 : decode cX0_run 100 = .ok (.sipush 999, 3) := by decide +kernel
theorem dX0_run_103 : decode cX0_run 103 = .ok (.invokevirtual 128, 3) := by decide +kernel
theorem dX0_run_106 : decode cX0_run 106 = .ok (.iadd, 1) := by decide +kernel
theorem dX0_run_107 : decode cX0_run 107 = .ok (.putfield 88, 3) := by decide +kernel
theorem dX0_run_110 : decode cX0_run 110 = .ok (.aload_n 0, 1) := by decide +kernel
theorem dX0_run_111 : decode cX0_run 111 = .ok (.invokevirtual 131, 3) := by decide +kernel
theorem dX0_run_114 : decode cX0_run 114 = .ok (.aload_n 0, 1) := by decide +kernel
theorem dX0_run_115 : decode cX0_run 115 = .ok (.iconst 0, 1) := by decide +kernel
theorem dX0_run_116 : decode cX0_run 116 = .ok (.putfield 113, 3) := by decide +kernel
theorem dX0_run_119 : decode cX0_run 119 = .ok (.aload_n 0, 1) := by decide +kernel
theorem dX0_run_120 : decode cX0_run 120 = .ok (.iload_n 3, 1) := by decide +kernel
theorem dX0_run_121 : decode cX0_run 121 = .ok (.invokevirtual 134, 3) := by decide +kernel
theorem dX0_run_124 : decode cX0_run 124 = .ok (.aload_n 0, 1) := by decide +kernel
theorem dX0_run_125 : decode cX0_run 125 = .ok (.dup, 1) := by decide +kernel
theorem dX0_run_126 : decode cX0_run 126 = .ok (.getfield 113, 3) := by decide +kernel
theorem dX0_run_129 : decode cX0_run 129 = .ok (.iconst 1, 1) := by decide +kernel
theorem dX0_run_130 : decode cX0_run 130 = .ok (.iadd, 1) := by decide +kernel
theorem dX0_run_131 : decode cX0_run 131 = .ok (.putfield 113, 3) := by decide +kernel
theorem dX0_run_134 : decode cX0_run 134 = .ok (.iinc 3 1, 3) := by decide +kernel
theorem dX0_run_137 : decode cX0_run 137 = .ok (.goto (-101), 3) := by decide +kernel
theorem dX0_run_140 : decode cX0_run 140 = .ok (.return_, 1) := by decide +kernel
theorem dX0_setOut_0 : decode cX0_setOut 0 = .ok (.iconst 0, 1) := by decide +kernel
theorem dX0_setOut_1 : decode cX0_setOut 1 = .ok (.istore_n 1, 1) := by decide +kernel
theorem dX0_setOut_2 : decode cX0_setOut 2 = .ok (.iload_n 1, 1) := by decide +kernel
theorem dX0_setOut_3 : decode cX0_setOut 3 = .ok (.bipush 8, 2) := by decide +kernel
theorem dX0_setOut_5 : decode cX0_setOut 5 = .ok (.if_icmp .ge 23, 3) := by decide +kernel
theorem dX0_setOut_8 : decode cX0_setOut 8 = .ok (.aload_n 0, 1) := by decide +kernel
theorem dX0_setOut_9 : decode cX0_setOut 9 = .ok (.getfield 15, 3) := by decide +kernel
theorem dX0_setOut_12 : decode cX0_setOut 12 = .ok (.iload_n 1, 1) := by decide +kernel
theorem dX0_setOut_13 : decode cX0_setOut 13 = .ok (.iconst (-1), 1) := by decide +kernel
theorem dX0_setOut_14 : decode cX0_setOut 14 = .ok (.iastore, 1) := by decide +kernel
theorem dX0_setOut_15 : decode cX0_setOut 15 = .ok (.aload_n 0, 1) := by decide +kernel
theorem dX0_setOut_16 : decode cX0_setOut 16 = .ok (.getfield 21, 3) := by decide +kernel
theorem dX0_setOut_19 : decode cX0_setOut 19 = .ok (.iload_n 1, 1) := by decide +kernel
theorem dX0_setOut_20 : decode cX0_setOut 20 = .ok (.iconst 0, 1) := by decide +kernel
theorem dX0_setOut_21 : decode cX0_setOut 21 = .ok (.iastore, 1) := by decide +kernel
theorem dX0_setOut_22 : decode cX0_setOut 22 = .ok (.iinc 1 1, 3) := by decide +kernel
theorem dX0_setOut_25 : decode cX0_setOut 25 = .ok (.goto (-23), 3) := by decide +kernel
theorem dX0_setOut_28 : decode cX0_setOut 28 = .ok (.iconst 0, 1) := by decide +kernel
theorem dX0_setOut_29 : decode cX0_setOut 29 = .ok (.istore_n 1, 1) := by decide +kernel
theorem dX0_setOut_30 : decode cX0_setOut 30 = .ok (.iload_n 1, 1) := by decide +kernel
theorem dX0_setOut_31 : decode cX0_setOut 31 = .ok (.iconst 5, 1) := by decide +kernel
theorem dX0_setOut_32 : decode cX0_setOut 32 = .ok (.if_icmp .ge 59, 3) := by decide +kernel
theorem dX0_setOut_35 : decode cX0_setOut 35 = .ok (.aload_n 0, 1) := by decide +kernel
theorem dX0_setOut_36 : decode cX0_setOut 36 = .ok (.getfield 18, 3) := by decide +kernel
theorem dX0_setOut_39 : decode cX0_setOut 39 = .ok (.iload_n 1, 1) := by decide +kernel
theorem dX0_setOut_40 : decode cX0_setOut 40 = .ok (.aload_n 0, 1) := by decide +kernel
theorem dX0_setOut_41 : decode cX0_setOut 41 = .ok (.getfield 30, 3) := by decide +kernel
theorem dX0_setOut_44 : decode cX0_setOut 44 = .ok (.getfield 138, 3) := by decide +kernel
theorem dX0_setOut_47 : decode cX0_setOut 47 = .ok (.iload_n 1, 1) := by decide +kernel
theorem dX0_setOut_48 : decode cX0_setOut 48 = .ok (.iaload, 1) := by decide +kernel
theorem dX0_setOut_49 : decode cX0_setOut 49 = .ok (.iastore, 1) := by decide +kernel
theorem dX0_setOut_50 : decode cX0_setOut 50 = .ok (.iload_n 1, 1) := by decide +kernel
theorem dX0_setOut_51 : decode cX0_setOut 51 = .ok (.aload_n 0, 1) := by decide +kernel
theorem dX0_setOut_52 : decode cX0_setOut 52 = .ok (.getfield 30, 3) := by decide +kernel
theorem dX0_setOut_55 : decode cX0_setOut 55 = .ok (.getfield 97, 3) := by decide +kernel
theorem dX0_setOut_58 : decode cX0_setOut 58 = .ok (.if_icmp .ge 27, 3) := by decide +kernel
theorem dX0_setOut_61 : decode cX0_setOut 61 = .ok (.aload_n 0, 1) := by decide +kernel
theorem dX0_setOut_62 : decode cX0_setOut 62 = .ok (.getfield 9, 3) := by decide +kernel
theorem dX0_setOut_65 : decode cX0_setOut 65 = .ok (.iload_n 1, 1) := by decide +kernel
theorem dX0_setOut_66 : decode cX0_setOut 66 = .ok (.iaload, 1) := by decide +kernel
theorem dX0_setOut_67 : decode cX0_setOut 67 = .ok (.invokestatic 139, 3) := by decide +kernel
theorem dX0_setOut_70 : decode cX0_setOut 70 = .ok (.ifCond .eq 15, 3) := by decide +kernel
theorem dX0_setOut_73 : decode cX0_setOut 73 = .ok (.aload_n 0, 1) := by decide +kernel
theorem dX0_setOut_74 : decode cX0_setOut 74 = .ok (.getfield 15, 3) := by decide +kernel
theorem dX0_setOut_77 : decode cX0_setOut 77 = .ok (.aload_n 0, 1) := by decide +kernel
theorem dX0_setOut_78 : decode cX0_setOut 78 = .ok (.getfield 9, 3) := by decide +kernel
theorem dX0_setOut_81 : decode cX0_setOut 81 = .ok (.iload_n 1, 1) := by decide +kernel
theorem dX0_setOut_82 : decode cX0_setOut 82 = .ok (.iaload, 1) := by decide +kernel
theorem dX0_setOut_83 : decode cX0_setOut 83 = .ok (.iload_n 1, 1) := by decide +kernel
theorem dX0_setOut_84 : decode cX0_setOut 84 = .ok (.iastore, 1) := by decide +kernel
theorem dX0_setOut_85 : decode cX0_setOut 85 = .ok (.iinc 1 1, 3) := by decide +kernel
theorem dX0_setOut_88 : decode cX0_setOut 88 = .ok (.goto (-58), 3) := by decide +kernel
theorem dX0_setOut_91 : decode cX0_setOut 91 = .ok (.return_, 1) := by decide +kernel
theorem dX0_emptySome_0 : decode cX0_emptySome 0 = .ok (.iconst 0, 1) := by decide +kernel
theorem dX0_emptySome_1 : decode cX0_emptySome 1 = .ok (.istore_n 1, 1) := by decide +kernel
theorem dX0_emptySome_2 : decode cX0_emptySome 2 = .ok (.iload_n 1, 1) := by decide +kernel
theorem dX0_emptySome_3 : decode cX0_emptySome 3 = .ok (.aload_n 0, 1) := by decide +kernel
theorem dX0_emptySome_4 : decode cX0_emptySome 4 = .ok (.getfield 60, 3) := by decide +kernel
theorem dX0_emptySome_7 : decode cX0_emptySome 7 = .ok (.if_icmp .ge 36, 3) := by decide +kernel
theorem dX0_emptySome_10 : decode cX0_emptySome 10 = .ok (.iload_n 1, 1) := by decide +kernel
theorem dX0_emptySome_11 : decode cX0_emptySome 11 = .ok (.iconst 5, 1) := by decide +kernel
theorem dX0_emptySome_12 : decode cX0_emptySome 12 = .ok (.if_icmp .ge 31, 3) := by decide +kernel
theorem dX0_emptySome_15 : decode cX0_emptySome 15 = .ok (.aload_n 0, 1) := by decide +kernel
theorem dX0_emptySome_16 : decode cX0_emptySome 16 = .ok (.invokevirtual 143, 3) := by decide +kernel
theorem dX0_emptySome_19 : decode cX0_emptySome 19 = .ok (.istore_n 2, 1) := by decide +kernel
theorem dX0_emptySome_20 : decode cX0_emptySome 20 = .ok (.iload_n 2, 1) := by decide +kernel
theorem dX0_emptySome_21 : decode cX0_emptySome 21 = .ok (.iconst 0, 1) := by decide +kernel
theorem dX0_emptySome_22 : decode cX0_emptySome 22 = .ok (.iconst 4, 1) := by decide +kernel
theorem dX0_emptySome_23 : decode cX0_emptySome 23 = .ok (.invokestatic 146, 3) := by decide +kernel
theorem dX0_emptySome_26 : decode cX0_emptySome 26 = .ok (.ifCond .ne 4, 3) := by decide +kernel
theorem dX0_emptySome_29 : decode cX0_emptySome 29 = .ok (.return_, 1) := by decide +kernel
theorem dX0_emptySome_30 : decode cX0_emptySome 30 = .ok (.aload_n 0, 1) := by decide +kernel
theorem dX0_emptySome_31 : decode cX0_emptySome 31 = .ok (.getfield 18, 3) := by decide +kernel
theorem dX0_emptySome_34 : decode cX0_emptySome 34 = .ok (.iload_n 2, 1) := by decide +kernel
theorem dX0_emptySome_35 : decode cX0_emptySome 35 = .ok (.iconst 0, 1) := by decide +kernel
theorem dX0_emptySome_36 : decode cX0_emptySome 36 = .ok (.iastore, 1) := by decide +kernel
theorem dX0_emptySome_37 : decode cX0_emptySome 37 = .ok (.iinc 1 1, 3) := by decide +kernel
theorem dX0_emptySome_40 : decode cX0_emptySome 40 = .ok (.goto (-38), 3) := by decide +kernel
theorem dX0_emptySome_43 : decode cX0_emptySome 43 = .ok (.return_, 1) := by decide +kernel
theorem dX0_nextToEmpty_0 : decode cX0_nextToEmpty 0 = .ok (.iconst (-1), 1) := by decide +kernel
theorem dX0_nextToEmpty_1 : decode cX0_nextToEmpty 1 = .ok (.istore_n 1, 1) := by decide +kernel
theorem dX0_nextToEmpty_2 : decode cX0_nextToEmpty 2 = .ok (.iconst 0, 1) := by decide +kernel
theorem dX0_nextToEmpty_3 : decode cX0_nextToEmpty 3 = .ok (.istore_n 2, 1) := by decide +kernel
theorem dX0_nextToEmpty_4 : decode cX0_nextToEmpty 4 = .ok (.iconst 0, 1) := by decide +kernel
theorem dX0_nextToEmpty_5 : decode cX0_nextToEmpty 5 = .ok (.istore_n 3, 1) := by decide +kernel
theorem dX0_nextToEmpty_6 : decode cX0_nextToEmpty 6 = .ok (.iload_n 3, 1) := by decide +kernel
theorem dX0_nextToEmpty_7 : decode cX0_nextToEmpty 7 = .ok (.aload_n 0, 1) := by decide +kernel
theorem dX0_nextToEmpty_8 : decode cX0_nextToEmpty 8 = .ok (.getfield 30, 3) := by decide +kernel
theorem dX0_nextToEmpty_11 : decode cX0_nextToEmpty 11 = .ok (.getfield 97, 3) := by decide +kernel
theorem dX0_nextToEmpty_14 : decode cX0_nextToEmpty 14 = .ok (.if_icmp .ge 83, 3) := by decide +kernel
theorem dX0_nextToEmpty_17 : decode cX0_nextToEmpty 17 = .ok (.iload_n 3, 1) := by decide +kernel
theorem dX0_nextToEmpty_18 : decode cX0_nextToEmpty 18 = .ok (.iconst 5, 1) := by decide +kernel
theorem dX0_nextToEmpty_19 : decode cX0_nextToEmpty 19 = .ok (.if_icmp .ge 78, 3) := by decide +kernel
theorem dX0_nextToEmpty_22 : decode cX0_nextToEmpty 22 = .ok (.aload_n 0, 1) := by decide +kernel
theorem dX0_nextToEmpty_23 : decode cX0_nextToEmpty 23 = .ok (.getfield 9, 3) := by decide +kernel
theorem dX0_nextToEmpty_26 : decode cX0_nextToEmpty 26 = .ok (.iload_n 3, 1) := by decide +kernel
theorem dX0_nextToEmpty_27 : decode cX0_nextToEmpty 27 = .ok (.iaload, 1) := by decide +kernel
theorem dX0_nextToEmpty_28 : decode cX0_nextToEmpty 28 = .ok (.iconst (-1), 1) := by decide +kernel
theorem dX0_nextToEmpty_29 : decode cX0_nextToEmpty 29 = .ok (.if_icmp .eq 62, 3) := by decide +kernel
theorem dX0_nextToEmpty_32 : decode cX0_nextToEmpty 32 = .ok (.aload_n 0, 1) := by decide +kernel
theorem dX0_nextToEmpty_33 : decode cX0_nextToEmpty 33 = .ok (.getfield 18, 3) := by decide +kernel
theorem dX0_nextToEmpty_36 : decode cX0_nextToEmpty 36 = .ok (.iload_n 3, 1) := by decide +kernel
theorem dX0_nextToEmpty_37 : decode cX0_nextToEmpty 37 = .ok (.iaload, 1) := by decide +kernel
theorem dX0_nextToEmpty_38 : decode cX0_nextToEmpty 38 = .ok (.ifCond .le 53, 3) := by decide +kernel
theorem dX0_nextToEmpty_41 : decode cX0_nextToEmpty 41 = .ok (.aload_n 0, 1) := by decide +kernel
theorem dX0_nextToEmpty_42 : decode cX0_nextToEmpty 42 = .ok (.getfield 64, 3) := by decide +kernel
theorem dX0_nextToEmpty_45 : decode cX0_nextToEmpty 45 = .ok (.ifCond .ne 12, 3) := by decide +kernel
theorem dX0_nextToEmpty_48 : decode cX0_nextToEmpty 48 = .ok (.aload_n 0, 1) := by decide +kernel
theorem dX0_nextToEmpty_49 : decode cX0_nextToEmpty 49 = .ok (.getfield 18, 3) := by decide +kernel
theorem dX0_nextToEmpty_52 : decode cX0_nextToEmpty 52 = .ok (.iload_n 3, 1) := by decide +kernel
theorem dX0_nextToEmpty_53 : decode cX0_nextToEmpty 53 = .ok (.iaload, 1) := by decide +kernel
theorem dX0_nextToEmpty_54 : decode cX0_nextToEmpty 54 = .ok (.goto 19, 3) := by decide +kernel
theorem dX0_nextToEmpty_57 : decode cX0_nextToEmpty 57 = .ok (.aload_n 0, 1) := by decide +kernel
theorem dX0_nextToEmpty_58 : decode cX0_nextToEmpty 58 = .ok (.getfield 18, 3) := by decide +kernel
theorem dX0_nextToEmpty_61 : decode cX0_nextToEmpty 61 = .ok (.iload_n 3, 1) := by decide +kernel
theorem dX0_nextToEmpty_62 : decode cX0_nextToEmpty 62 = .ok (.iaload, 1) := by decide +kernel
theorem dX0_nextToEmpty_63 : decode cX0_nextToEmpty 63 = .ok (.aload_n 0, 1) := by decide +kernel
theorem dX0_nextToEmpty_64 : decode cX0_nextToEmpty 64 = .ok (.getfield 30, 3) := by decide +kernel
theorem dX0_nextToEmpty_67 : decode cX0_nextToEmpty 67 = .ok (.getfield 150, 3) := by decide +kernel
theorem dX0_nextToEmpty_70 : decode cX0_nextToEmpty 70 = .ok (.iload_n 3, 1) := by decide +kernel
theorem dX0_nextToEmpty_71 : decode cX0_nextToEmpty 71 = .ok (.iaload, 1) := by decide +kernel
theorem dX0_nextToEmpty_72 : decode cX0_nextToEmpty 72 = .ok (.isub, 1) := by decide +kernel
theorem dX0_nextToEmpty_73 : decode cX0_nextToEmpty 73 = .ok (.istore 4, 2) := by decide +kernel
theorem dX0_nextToEmpty_75 : decode cX0_nextToEmpty 75 = .ok (.iload_n 1, 1) := by decide +kernel
theorem dX0_nextToEmpty_76 : decode cX0_nextToEmpty 76 = .ok (.iconst (-1), 1) := by decide +kernel
theorem dX0_nextToEmpty_77 : decode cX0_nextToEmpty 77 = .ok (.if_icmp .eq 9, 3) := by decide +kernel
theorem dX0_nextToEmpty_80 : decode cX0_nextToEmpty 80 = .ok (.iload 4, 2) := by decide +kernel
theorem dX0_nextToEmpty_82 : decode cX0_nextToEmpty 82 = .ok (.iload_n 2, 1) := by decide +kernel
theorem dX0_nextToEmpty_83 : decode cX0_nextToEmpty 83 = .ok (.if_icmp .le 8, 3) := by decide +kernel
theorem dX0_nextToEmpty_86 : decode cX0_nextToEmpty 86 = .ok (.iload_n 3, 1) := by decide +kernel
theorem dX0_nextToEmpty_87 : decode cX0_nextToEmpty 87 = .ok (.istore_n 1, 1) := by decide +kernel
theorem dX0_nextToEmpty_88 : decode cX0_nextToEmpty 88 = .ok (.iload 4, 2) := by decide +kernel
theorem dX0_nextToEmpty_90 : decode cX0_nextToEmpty 90 = .ok (.istore_n 2, 1) := by decide +kernel
theorem dX0_nextToEmpty_91 : decode cX0_nextToEmpty 91 = .ok (.iinc 3 1, 3) := by decide +kernel
theorem dX0_nextToEmpty_94 : decode cX0_nextToEmpty 94 = .ok (.goto (-88), 3) := by decide +kernel
theorem dX0_nextToEmpty_97 : decode cX0_nextToEmpty 97 = .ok (.iload_n 1, 1) := by decide +kernel
theorem dX0_nextToEmpty_98 : decode cX0_nextToEmpty 98 = .ok (.ireturn, 1) := by decide +kernel
theorem dX0_pour_0 : decode cX0_pour 0 = .ok (.iconst 0, 1) := by decide +kernel
theorem dX0_pour_1 : decode cX0_pour 1 = .ok (.istore_n 2, 1) := by decide +kernel
theorem dX0_pour_2 : decode cX0_pour 2 = .ok (.iload_n 2, 1) := by decide +kernel
theorem dX0_pour_3 : decode cX0_pour 3 = .ok (.bipush 8, 2) := by decide +kernel
theorem dX0_pour_5 : decode cX0_pour 5 = .ok (.if_icmp .ge 154, 3) := by decide +kernel
theorem dX0_pour_8 : decode cX0_pour 8 = .ok (.aload_n 0, 1) := by decide +kernel
theorem dX0_pour_9 : decode cX0_pour 9 = .ok (.getfield 43, 3) := by decide +kernel
theorem dX0_pour_12 : decode cX0_pour 12 = .ok (.getfield 153, 3) := by decide +kernel
theorem dX0_pour_15 : decode cX0_pour 15 = .ok (.iload_n 1, 1) := by decide +kernel
theorem dX0_pour_16 : decode cX0_pour 16 = .ok (.bipush 8, 2) := by decide +kernel
theorem dX0_pour_18 : decode cX0_pour 18 = .ok (.imul, 1) := by decide +kernel
theorem dX0_pour_19 : decode cX0_pour 19 = .ok (.iload_n 2, 1) := by decide +kernel
theorem dX0_pour_20 : decode cX0_pour 20 = .ok (.iadd, 1) := by decide +kernel
theorem dX0_pour_21 : decode cX0_pour 21 = .ok (.iaload, 1) := by decide +kernel
theorem dX0_pour_22 : decode cX0_pour 22 = .ok (.istore_n 3, 1) := by decide +kernel
theorem dX0_pour_23 : decode cX0_pour 23 = .ok (.aload_n 0, 1) := by decide +kernel
theorem dX0_pour_24 : decode cX0_pour 24 = .ok (.dup, 1) := by decide +kernel
theorem dX0_pour_25 : decode cX0_pour 25 = .ok (.getfield 110, 3) := by decide +kernel
theorem dX0_pour_28 : decode cX0_pour 28 = .ok (.iload_n 3, 1) := by decide +kernel
theorem dX0_pour_29 : decode cX0_pour 29 = .ok (.iadd, 1) := by decide +kernel
theorem dX0_pour_30 : decode cX0_pour 30 = .ok (.putfield 110, 3) := by decide +kernel
theorem dX0_pour_33 : decode cX0_pour 33 = .ok (.aload_n 0, 1) := by decide +kernel
theorem dX0_pour_34 : decode cX0_pour 34 = .ok (.getfield 15, 3) := by decide +kernel
theorem dX0_pour_37 : decode cX0_pour 37 = .ok (.iload_n 2, 1) := by decide +kernel
theorem dX0_pour_38 : decode cX0_pour 38 = .ok (.iaload, 1) := by decide +kernel
theorem dX0_pour_39 : decode cX0_pour 39 = .ok (.istore 4, 2) := by decide +kernel
theorem dX0_pour_41 : decode cX0_pour 41 = .ok (.iload_n 3, 1) := by decide +kernel
theorem dX0_pour_42 : decode cX0_pour 42 = .ok (.ifCond .le 54, 3) := by decide +kernel
theorem dX0_pour_45 : decode cX0_pour 45 = .ok (.iload 4, 2) := by decide +kernel
theorem dX0_pour_47 : decode cX0_pour 47 = .ok (.iconst 0, 1) := by decide +kernel
theorem dX0_pour_48 : decode cX0_pour 48 = .ok (.iconst 4, 1) := by decide +kernel
theorem dX0_pour_49 : decode cX0_pour 49 = .ok (.invokestatic 146, 3) := by decide +kernel
theorem dX0_pour_52 : decode cX0_pour 52 = .ok (.ifCond .eq 44, 3) := by decide +kernel
theorem dX0_pour_55 : decode cX0_pour 55 = .ok (.iload_n 3, 1) := by decide +kernel
theorem dX0_pour_56 : decode cX0_pour 56 = .ok (.aload_n 0, 1) := by decide +kernel
theorem dX0_pour_57 : decode cX0_pour 57 = .ok (.getfield 30, 3) := by decide +kernel
theorem dX0_pour_60 : decode cX0_pour 60 = .ok (.getfield 150, 3) := by decide +kernel
theorem dX0_pour_63 : decode cX0_pour 63 = .ok (.iload 4, 2) := by decide +kernel
theorem dX0_pour_65 : decode cX0_pour 65 = .ok (.iaload, 1) := by decide +kernel
theorem dX0_pour_66 : decode cX0_pour 66 = .ok (.aload_n 0, 1) := by decide +kernel
theorem dX0_pour_67 : decode cX0_pour 67 = .ok (.getfield 18, 3) := by decide +kernel
theorem dX0_pour_70 : decode cX0_pour 70 = .ok (.iload 4, 2) := by decide +kernel
theorem dX0_pour_72 : decode cX0_pour 72 = .ok (.iaload, 1) := by decide +kernel
theorem dX0_pour_73 : decode cX0_pour 73 = .ok (.isub, 1) := by decide +kernel
theorem dX0_pour_74 : decode cX0_pour 74 = .ok (.invokestatic 156, 3) := by decide +kernel
theorem dX0_pour_77 : decode cX0_pour 77 = .ok (.istore 5, 2) := by decide +kernel
theorem dX0_pour_79 : decode cX0_pour 79 = .ok (.aload_n 0, 1) := by decide +kernel
theorem dX0_pour_80 : decode cX0_pour 80 = .ok (.getfield 18, 3) := by decide +kernel
theorem dX0_pour_83 : decode cX0_pour 83 = .ok (.iload 4, 2) := by decide +kernel
theorem dX0_pour_85 : decode cX0_pour 85 = .ok (.dup2, 1) := by decide +kernel
theorem dX0_pour_86 : decode cX0_pour 86 = .ok (.iaload, 1) := by decide +kernel
theorem dX0_pour_87 : decode cX0_pour 87 = .ok (.iload 5, 2) := by decide +kernel
theorem dX0_pour_89 : decode cX0_pour 89 = .ok (.iadd, 1) := by decide +kernel
theorem dX0_pour_90 : decode cX0_pour 90 = .ok (.iastore, 1) := by decide +kernel
theorem dX0_pour_91 : decode cX0_pour 91 = .ok (.iload_n 3, 1) := by decide +kernel
theorem dX0_pour_92 : decode cX0_pour 92 = .ok (.iload 5, 2) := by decide +kernel
theorem dX0_pour_94 : decode cX0_pour 94 = .ok (.isub, 1) := by decide +kernel
theorem dX0_pour_95 : decode cX0_pour 95 = .ok (.istore_n 3, 1) := by decide +kernel
theorem dX0_pour_96 : decode cX0_pour 96 = .ok (.aload_n 0, 1) := by decide +kernel
theorem dX0_pour_97 : decode cX0_pour 97 = .ok (.getfield 21, 3) := by decide +kernel
theorem dX0_pour_100 : decode cX0_pour 100 = .ok (.iload_n 2, 1) := by decide +kernel
theorem dX0_pour_101 : decode cX0_pour 101 = .ok (.iload_n 3, 1) := by decide +kernel
theorem dX0_pour_102 : decode cX0_pour 102 = .ok (.iastore, 1) := by decide +kernel
theorem dX0_pour_103 : decode cX0_pour 103 = .ok (.iload_n 3, 1) := by decide +kernel
theorem dX0_pour_104 : decode cX0_pour 104 = .ok (.ifCond .le 49, 3) := by decide +kernel
theorem dX0_pour_107 : decode cX0_pour 107 = .ok (.aload_n 0, 1) := by decide +kernel
theorem dX0_pour_108 : decode cX0_pour 108 = .ok (.dup, 1) := by decide +kernel
theorem dX0_pour_109 : decode cX0_pour 109 = .ok (.getfield 104, 3) := by decide +kernel
theorem dX0_pour_112 : decode cX0_pour 112 = .ok (.iload_n 3, 1) := by decide +kernel
theorem dX0_pour_113 : decode cX0_pour 113 = .ok (.iadd, 1) := by decide +kernel
theorem dX0_pour_114 : decode cX0_pour 114 = .ok (.putfield 104, 3) := by decide +kernel
theorem dX0_pour_117 : decode cX0_pour 117 = .ok (.aload_n 0, 1) := by decide +kernel
theorem dX0_pour_118 : decode cX0_pour 118 = .ok (.aload_n 0, 1) := by decide +kernel
theorem dX0_pour_119 : decode cX0_pour 119 = .ok (.getfield 107, 3) := by decide +kernel
theorem dX0_pour_122 : decode cX0_pour 122 = .ok (.iconst (-1), 1) := by decide +kernel
theorem dX0_pour_123 : decode cX0_pour 123 = .ok (.if_icmp .ne 7, 3) := by decide +kernel
theorem dX0_pour_126 : decode cX0_pour 126 = .ok (.iload_n 1, 1) := by decide +kernel
theorem dX0_pour_127 : decode cX0_pour 127 = .ok (.goto 7, 3) := by decide +kernel
theorem dX0_pour_130 : decode cX0_pour 130 = .ok (.aload_n 0, 1) := by decide +kernel
theorem dX0_pour_131 : decode cX0_pour 131 = .ok (.getfield 107, 3) := by decide +kernel
theorem dX0_pour_134 : decode cX0_pour 134 = .ok (.putfield 107, 3) := by decide +kernel
theorem dX0_pour_137 : decode cX0_pour 137 = .ok (.aload_n 0, 1) := by decide +kernel
theorem dX0_pour_138 : decode cX0_pour 138 = .ok (.dup, 1) := by decide +kernel
theorem dX0_pour_139 : decode cX0_pour 139 = .ok (.getfield 85, 3) := by decide +kernel
theorem dX0_pour_142 : decode cX0_pour 142 = .ok (.aload_n 0, 1) := by decide +kernel
theorem dX0_pour_143 : decode cX0_pour 143 = .ok (.iload_n 1, 1) := by decide +kernel
theorem dX0_pour_144 : decode cX0_pour 144 = .ok (.iload_n 2, 1) := by decide +kernel
theorem dX0_pour_145 : decode cX0_pour 145 = .ok (.iload_n 3, 1) := by decide +kernel
theorem dX0_pour_146 : decode cX0_pour 146 = .ok (.invokevirtual 161, 3) := by decide +kernel
theorem dX0_pour_149 : decode cX0_pour 149 = .ok (.iadd, 1) := by decide +kernel
theorem dX0_pour_150 : decode cX0_pour 150 = .ok (.putfield 85, 3) := by decide +kernel
theorem dX0_pour_153 : decode cX0_pour 153 = .ok (.iinc 2 1, 3) := by decide +kernel
theorem dX0_pour_156 : decode cX0_pour 156 = .ok (.goto (-154), 3) := by decide +kernel
theorem dX0_pour_159 : decode cX0_pour 159 = .ok (.return_, 1) := by decide +kernel
theorem dX0_harmOn_0 : decode cX0_harmOn 0 = .ok (.iload_n 1, 1) := by decide +kernel
theorem dX0_harmOn_1 : decode cX0_harmOn 1 = .ok (.bipush 8, 2) := by decide +kernel
theorem dX0_harmOn_3 : decode cX0_harmOn 3 = .ok (.imul, 1) := by decide +kernel
theorem dX0_harmOn_4 : decode cX0_harmOn 4 = .ok (.iload_n 2, 1) := by decide +kernel
theorem dX0_harmOn_5 : decode cX0_harmOn 5 = .ok (.iadd, 1) := by decide +kernel
theorem dX0_harmOn_6 : decode cX0_harmOn 6 = .ok (.istore 4, 2) := by decide +kernel
theorem dX0_harmOn_8 : decode cX0_harmOn 8 = .ok (.iload_n 3, 1) := by decide +kernel
theorem dX0_harmOn_9 : decode cX0_harmOn 9 = .ok (.bipush 24, 2) := by decide +kernel
theorem dX0_harmOn_11 : decode cX0_harmOn 11 = .ok (.imul, 1) := by decide +kernel
theorem dX0_harmOn_12 : decode cX0_harmOn 12 = .ok (.aload_n 0, 1) := by decide +kernel
theorem dX0_harmOn_13 : decode cX0_harmOn 13 = .ok (.getfield 113, 3) := by decide +kernel
theorem dX0_harmOn_16 : decode cX0_harmOn 16 = .ok (.iadd, 1) := by decide +kernel
theorem dX0_harmOn_17 : decode cX0_harmOn 17 = .ok (.istore 5, 2) := by decide +kernel
theorem dX0_harmOn_19 : decode cX0_harmOn 19 = .ok (.aload_n 0, 1) := by decide +kernel
theorem dX0_harmOn_20 : decode cX0_harmOn 20 = .ok (.getfield 24, 3) := by decide +kernel
theorem dX0_harmOn_23 : decode cX0_harmOn 23 = .ok (.iload 4, 2) := by decide +kernel
theorem dX0_harmOn_25 : decode cX0_harmOn 25 = .ok (.iaload, 1) := by decide +kernel
theorem dX0_harmOn_26 : decode cX0_harmOn 26 = .ok (.iload 5, 2) := by decide +kernel
theorem dX0_harmOn_28 : decode cX0_harmOn 28 = .ok (.if_icmp .eq 54, 3) := by decide +kernel
theorem dX0_harmOn_31 : decode cX0_harmOn 31 = .ok (.aload_n 0, 1) := by decide +kernel
theorem dX0_harmOn_32 : decode cX0_harmOn 32 = .ok (.getfield 24, 3) := by decide +kernel
theorem dX0_harmOn_35 : decode cX0_harmOn 35 = .ok (.iload 4, 2) := by decide +kernel
theorem dX0_harmOn_37 : decode cX0_harmOn 37 = .ok (.iload 5, 2) := by decide +kernel
theorem dX0_harmOn_39 : decode cX0_harmOn 39 = .ok (.iastore, 1) := by decide +kernel
theorem dX0_harmOn_40 : decode cX0_harmOn 40 = .ok (.aload_n 0, 1) := by decide +kernel
theorem dX0_harmOn_41 : decode cX0_harmOn 41 = .ok (.getfield 34, 3) := by decide +kernel
theorem dX0_harmOn_44 : decode cX0_harmOn 44 = .ok (.aload_n 0, 1) := by decide +kernel
theorem dX0_harmOn_45 : decode cX0_harmOn 45 = .ok (.getfield 43, 3) := by decide +kernel
theorem dX0_harmOn_48 : decode cX0_harmOn 48 = .ok (.getfield 119, 3) := by decide +kernel
theorem dX0_harmOn_51 : decode cX0_harmOn 51 = .ok (.iload_n 1, 1) := by decide +kernel
theorem dX0_harmOn_52 : decode cX0_harmOn 52 = .ok (.iaload, 1) := by decide +kernel
theorem dX0_harmOn_53 : decode cX0_harmOn 53 = .ok (.iload_n 1, 1) := by decide +kernel
theorem dX0_harmOn_54 : decode cX0_harmOn 54 = .ok (.iload_n 2, 1) := by decide +kernel
theorem dX0_harmOn_55 : decode cX0_harmOn 55 = .ok (.iconst 0, 1) := by decide +kernel
theorem dX0_harmOn_56 : decode cX0_harmOn 56 = .ok (.iload_n 3, 1) := by decide +kernel
theorem dX0_harmOn_57 : decode cX0_harmOn 57 = .ok (.aload_n 0, 1) := by decide +kernel
theorem dX0_harmOn_58 : decode cX0_harmOn 58 = .ok (.getfield 113, 3) := by decide +kernel
theorem dX0_harmOn_61 : decode cX0_harmOn 61 = .ok (.invokevirtual 122, 3) := by decide +kernel
theorem dX0_harmOn_64 : decode cX0_harmOn 64 = .ok (.aload_n 0, 1) := by decide +kernel
theorem dX0_harmOn_65 : decode cX0_harmOn 65 = .ok (.getfield 27, 3) := by decide +kernel
theorem dX0_harmOn_68 : decode cX0_harmOn 68 = .ok (.iload 4, 2) := by decide +kernel
theorem dX0_harmOn_70 : decode cX0_harmOn 70 = .ok (.aload_n 0, 1) := by decide +kernel
theorem dX0_harmOn_71 : decode cX0_harmOn 71 = .ok (.getfield 34, 3) := by decide +kernel
theorem dX0_harmOn_74 : decode cX0_harmOn 74 = .ok (.iconst 1, 1) := by decide +kernel
theorem dX0_harmOn_75 : decode cX0_harmOn 75 = .ok (.sipush 999, 3) := by decide +kernel
theorem dX0_harmOn_78 : decode cX0_harmOn 78 = .ok (.invokevirtual 128, 3) := by decide +kernel
theorem dX0_harmOn_81 : decode cX0_harmOn 81 = .ok (.iastore, 1) := by decide +kernel
theorem dX0_harmOn_82 : decode cX0_harmOn 82 = .ok (.aload_n 0, 1) := by decide +kernel
theorem dX0_harmOn_83 : decode cX0_harmOn 83 = .ok (.getfield 27, 3) := by decide +kernel
theorem dX0_harmOn_86 : decode cX0_harmOn 86 = .ok (.iload 4, 2) := by decide +kernel
theorem dX0_harmOn_88 : decode cX0_harmOn 88 = .ok (.iaload, 1) := by decide +kernel
theorem dX0_harmOn_89 : decode cX0_harmOn 89 = .ok (.ireturn, 1) := by decide +kernel
theorem dX1_init_0 : decode cX1_init 0 = .ok (.aload_n 0, 1) := by decide +kernel
theorem dX1_init_1 : decode cX1_init 1 = .ok (.invokespecial 3, 3) := by decide +kernel
theorem dX1_init_4 : decode cX1_init 4 = .ok (.aload_n 0, 1) := by decide +kernel
theorem dX1_init_5 : decode cX1_init 5 = .ok (.bipush 24, 2) := by decide +kernel
theorem dX1_init_7 : decode cX1_init 7 = .ok (.newarray .int, 2) := by decide +kernel
theorem dX1_init_9 : decode cX1_init 9 = .ok (.putfield 9, 3) := by decide +kernel
theorem dX1_init_12 : decode cX1_init 12 = .ok (.aload_n 0, 1) := by decide +kernel
theorem dX1_init_13 : decode cX1_init 13 = .ok (.bipush 6, 2) := by decide +kernel
theorem dX1_init_15 : decode cX1_init 15 = .ok (.newarray .int, 2) := by decide +kernel
theorem dX1_init_17 : decode cX1_init 17 = .ok (.putfield 15, 3) := by decide +kernel
theorem dX1_init_20 : decode cX1_init 20 = .ok (.aload_n 0, 1) := by decide +kernel
theorem dX1_init_21 : decode cX1_init 21 = .ok (.bipush 6, 2) := by decide +kernel
theorem dX1_init_23 : decode cX1_init 23 = .ok (.newarray .int, 2) := by decide +kernel
theorem dX1_init_25 : decode cX1_init 25 = .ok (.putfield 18, 3) := by decide +kernel
theorem dX1_init_28 : decode cX1_init 28 = .ok (.aload_n 0, 1) := by decide +kernel
theorem dX1_init_29 : decode cX1_init 29 = .ok (.bipush 6, 2) := by decide +kernel
theorem dX1_init_31 : decode cX1_init 31 = .ok (.newarray .int, 2) := by decide +kernel
theorem dX1_init_33 : decode cX1_init 33 = .ok (.putfield 21, 3) := by decide +kernel
theorem dX1_init_36 : decode cX1_init 36 = .ok (.aload_n 0, 1) := by decide +kernel
theorem dX1_init_37 : decode cX1_init 37 = .ok (.bipush 6, 2) := by decide +kernel
theorem dX1_init_39 : decode cX1_init 39 = .ok (.newarray .int, 2) := by decide +kernel
theorem dX1_init_41 : decode cX1_init 41 = .ok (.putfield 24, 3) := by decide +kernel
theorem dX1_init_44 : decode cX1_init 44 = .ok (.aload_n 0, 1) := by decide +kernel
theorem dX1_init_45 : decode cX1_init 45 = .ok (.iconst 5, 1) := by decide +kernel
theorem dX1_init_46 : decode cX1_init 46 = .ok (.newarray .int, 2) := by decide +kernel
theorem dX1_init_48 : decode cX1_init 48 = .ok (.putfield 27, 3) := by decide +kernel
theorem dX1_init_51 : decode cX1_init 51 = .ok (.aload_n 0, 1) := by decide +kernel
theorem dX1_init_52 : decode cX1_init 52 = .ok (.iconst 5, 1) := by decide +kernel
theorem dX1_init_53 : decode cX1_init 53 = .ok (.newarray .int, 2) := by decide +kernel
theorem dX1_init_55 : decode cX1_init 55 = .ok (.putfield 30, 3) := by decide +kernel
theorem dX1_init_58 : decode cX1_init 58 = .ok (.aload_n 0, 1) := by decide +kernel
theorem dX1_init_59 : decode cX1_init 59 = .ok (.iconst 5, 1) := by decide +kernel
theorem dX1_init_60 : decode cX1_init 60 = .ok (.newarray .int, 2) := by decide +kernel
theorem dX1_init_62 : decode cX1_init 62 = .ok (.putfield 33, 3) := by decide +kernel
theorem dX1_init_65 : decode cX1_init 65 = .ok (.aload_n 0, 1) := by decide +kernel
theorem dX1_init_66 : decode cX1_init 66 = .ok (.iconst 2, 1) := by decide +kernel
theorem dX1_init_67 : decode cX1_init 67 = .ok (.putfield 36, 3) := by decide +kernel
theorem dX1_init_70 : decode cX1_init 70 = .ok (.return_, 1) := by decide +kernel
theorem dX1_become_0 : decode cX1_become 0 = .ok (.aload_n 1, 1) := by decide +kernel
theorem dX1_become_1 : decode cX1_become 1 = .ok (.getfield 9, 3) := by decide +kernel
theorem dX1_become_4 : decode cX1_become 4 = .ok (.iconst 0, 1) := by decide +kernel
theorem dX1_become_5 : decode cX1_become 5 = .ok (.aload_n 0, 1) := by decide +kernel
theorem dX1_become_6 : decode cX1_become 6 = .ok (.getfield 9, 3) := by decide +kernel
theorem dX1_become_9 : decode cX1_become 9 = .ok (.iconst 0, 1) := by decide +kernel
theorem dX1_become_10 : decode cX1_become 10 = .ok (.bipush 24, 2) := by decide +kernel
theorem dX1_become_12 : decode cX1_become 12 = .ok (.invokestatic 40, 3) := by decide +kernel
theorem dX1_become_15 : decode cX1_become 15 = .ok (.aload_n 1, 1) := by decide +kernel
theorem dX1_become_16 : decode cX1_become 16 = .ok (.getfield 15, 3) := by decide +kernel
theorem dX1_become_19 : decode cX1_become 19 = .ok (.iconst 0, 1) := by decide +kernel
theorem dX1_become_20 : decode cX1_become 20 = .ok (.aload_n 0, 1) := by decide +kernel
theorem dX1_become_21 : decode cX1_become 21 = .ok (.getfield 15, 3) := by decide +kernel
theorem dX1_become_24 : decode cX1_become 24 = .ok (.iconst 0, 1) := by decide +kernel
theorem dX1_become_25 : decode cX1_become 25 = .ok (.bipush 6, 2) := by decide +kernel
theorem dX1_become_27 : decode cX1_become 27 = .ok (.invokestatic 40, 3) := by decide +kernel
theorem dX1_become_30 : decode cX1_become 30 = .ok (.aload_n 1, 1) := by decide +kernel
theorem dX1_become_31 : decode cX1_become 31 = .ok (.getfield 18, 3) := by decide +kernel
theorem dX1_become_34 : decode cX1_become 34 = .ok (.iconst 0, 1) := by decide +kernel
theorem dX1_become_35 : decode cX1_become 35 = .ok (.aload_n 0, 1) := by decide +kernel
theorem dX1_become_36 : decode cX1_become 36 = .ok (.getfield 18, 3) := by decide +kernel
theorem dX1_become_39 : decode cX1_become 39 = .ok (.iconst 0, 1) := by decide +kernel
theorem dX1_become_40 : decode cX1_become 40 = .ok (.bipush 6, 2) := by decide +kernel
theorem dX1_become_42 : decode cX1_become 42 = .ok (.invokestatic 40, 3) := by decide +kernel
theorem dX1_become_45 : decode cX1_become 45 = .ok (.aload_n 1, 1) := by decide +kernel
theorem dX1_become_46 : decode cX1_become 46 = .ok (.getfield 21, 3) := by decide +kernel
theorem dX1_become_49 : decode cX1_become 49 = .ok (.iconst 0, 1) := by decide +kernel
theorem dX1_become_50 : decode cX1_become 50 = .ok (.aload_n 0, 1) := by decide +kernel
theorem dX1_become_51 : decode cX1_become 51 = .ok (.getfield 21, 3) := by decide +kernel
theorem dX1_become_54 : decode cX1_become 54 = .ok (.iconst 0, 1) := by decide +kernel
theorem dX1_become_55 : decode cX1_become 55 = .ok (.bipush 6, 2) := by decide +kernel
theorem dX1_become_57 : decode cX1_become 57 = .ok (.invokestatic 40, 3) := by decide +kernel
theorem dX1_become_60 : decode cX1_become 60 = .ok (.aload_n 1, 1) := by decide +kernel
theorem dX1_become_61 : decode cX1_become 61 = .ok (.getfield 24, 3) := by decide +kernel
theorem dX1_become_64 : decode cX1_become 64 = .ok (.iconst 0, 1) := by decide +kernel
theorem dX1_become_65 : decode cX1_become 65 = .ok (.aload_n 0, 1) := by decide +kernel
theorem dX1_become_66 : decode cX1_become 66 = .ok (.getfield 24, 3) := by decide +kernel
theorem dX1_become_69 : decode cX1_become 69 = .ok (.iconst 0, 1) := by decide +kernel
theorem dX1_become_70 : decode cX1_become 70 = .ok (.bipush 6, 2) := by decide +kernel
theorem dX1_become_72 : decode cX1_become 72 = .ok (.invokestatic 40, 3) := by decide +kernel
theorem dX1_become_75 : decode cX1_become 75 = .ok (.aload_n 1, 1) := by decide +kernel
theorem dX1_become_76 : decode cX1_become 76 = .ok (.getfield 27, 3) := by decide +kernel
theorem dX1_become_79 : decode cX1_become 79 = .ok (.iconst 0, 1) := by decide +kernel
theorem dX1_become_80 : decode cX1_become 80 = .ok (.aload_n 0, 1) := by decide +kernel
theorem dX1_become_81 : decode cX1_become 81 = .ok (.getfield 27, 3) := by decide +kernel
theorem dX1_become_84 : decode cX1_become 84 = .ok (.iconst 0, 1) := by decide +kernel
theorem dX1_become_85 : decode cX1_become 85 = .ok (.iconst 5, 1) := by decide +kernel
theorem dX1_become_86 : decode cX1_become 86 = .ok (.invokestatic 40, 3) := by decide +kernel
theorem dX1_become_89 : decode cX1_become 89 = .ok (.aload_n 1, 1) := by decide +kernel
theorem dX1_become_90 : decode cX1_become 90 = .ok (.getfield 30, 3) := by decide +kernel
theorem dX1_become_93 : decode cX1_become 93 = .ok (.iconst 0, 1) := by decide +kernel
theorem dX1_become_94 : decode cX1_become 94 = .ok (.aload_n 0, 1) := by decide +kernel
theorem dX1_become_95 : decode cX1_become 95 = .ok (.getfield 30, 3) := by decide +kernel
theorem dX1_become_98 : decode cX1_become 98 = .ok (.iconst 0, 1) := by decide +kernel
theorem dX1_become_99 : decode cX1_become 99 = .ok (.iconst 5, 1) := by decide +kernel
theorem dX1_become_100 : decode cX1_become 100 = .ok (.invokestatic 40, 3) := by decide +kernel
theorem dX1_become_103 : decode cX1_become 103 = .ok (.aload_n 1, 1) := by decide +kernel
theorem dX1_become_104 : decode cX1_become 104 = .ok (.getfield 33, 3) := by decide +kernel
theorem dX1_become_107 : decode cX1_become 107 = .ok (.iconst 0, 1) := by decide +kernel
theorem dX1_become_108 : decode cX1_become 108 = .ok (.aload_n 0, 1) := by decide +kernel
theorem dX1_become_109 : decode cX1_become 109 = .ok (.getfield 33, 3) := by decide +kernel
theorem dX1_become_112 : decode cX1_become 112 = .ok (.iconst 0, 1) := by decide +kernel
theorem dX1_become_113 : decode cX1_become 113 = .ok (.iconst 5, 1) := by decide +kernel
theorem dX1_become_114 : decode cX1_become 114 = .ok (.invokestatic 40, 3) := by decide +kernel
theorem dX1_become_117 : decode cX1_become 117 = .ok (.aload_n 0, 1) := by decide +kernel
theorem dX1_become_118 : decode cX1_become 118 = .ok (.aload_n 1, 1) := by decide +kernel
theorem dX1_become_119 : decode cX1_become 119 = .ok (.getfield 46, 3) := by decide +kernel
theorem dX1_become_122 : decode cX1_become 122 = .ok (.putfield 46, 3) := by decide +kernel
theorem dX1_become_125 : decode cX1_become 125 = .ok (.aload_n 0, 1) := by decide +kernel
theorem dX1_become_126 : decode cX1_become 126 = .ok (.aload_n 1, 1) := by decide +kernel
theorem dX1_become_127 : decode cX1_become 127 = .ok (.getfield 49, 3) := by decide +kernel
theorem dX1_become_130 : decode cX1_become 130 = .ok (.putfield 49, 3) := by decide +kernel
theorem dX1_become_133 : decode cX1_become 133 = .ok (.aload_n 0, 1) := by decide +kernel
theorem dX1_become_134 : decode cX1_become 134 = .ok (.aload_n 1, 1) := by decide +kernel
theorem dX1_become_135 : decode cX1_become 135 = .ok (.getfield 52, 3) := by decide +kernel
theorem dX1_become_138 : decode cX1_become 138 = .ok (.putfield 52, 3) := by decide +kernel
theorem dX1_become_141 : decode cX1_become 141 = .ok (.aload_n 0, 1) := by decide +kernel
theorem dX1_become_142 : decode cX1_become 142 = .ok (.aload_n 1, 1) := by decide +kernel
theorem dX1_become_143 : decode cX1_become 143 = .ok (.getfield 36, 3) := by decide +kernel
theorem dX1_become_146 : decode cX1_become 146 = .ok (.putfield 36, 3) := by decide +kernel
theorem dX1_become_149 : decode cX1_become 149 = .ok (.aload_n 0, 1) := by decide +kernel
theorem dX1_become_150 : decode cX1_become 150 = .ok (.aload_n 1, 1) := by decide +kernel
theorem dX1_become_151 : decode cX1_become 151 = .ok (.getfield 55, 3) := by decide +kernel
theorem dX1_become_154 : decode cX1_become 154 = .ok (.putfield 55, 3) := by decide +kernel
theorem dX1_become_157 : decode cX1_become 157 = .ok (.aload_n 0, 1) := by decide +kernel
theorem dX1_become_158 : decode cX1_become 158 = .ok (.aload_n 1, 1) := by decide +kernel
theorem dX1_become_159 : decode cX1_become 159 = .ok (.getfield 58, 3) := by decide +kernel
theorem dX1_become_162 : decode cX1_become 162 = .ok (.putfield 58, 3) := by decide +kernel
theorem dX1_become_165 : decode cX1_become 165 = .ok (.return_, 1) := by decide +kernel
theorem dX2_init_0 : decode cX2_init 0 = .ok (.aload_n 0, 1) := by decide +kernel
theorem dX2_init_1 : decode cX2_init 1 = .ok (.invokespecial 7, 3) := by decide +kernel
theorem dX2_init_4 : decode cX2_init 4 = .ok (.aload_n 0, 1) := by decide +kernel
theorem dX2_init_5 : decode cX2_init 5 = .ok (.sipush 160, 3) := by decide +kernel
theorem dX2_init_8 : decode cX2_init 8 = .ok (.newarray .int, 2) := by decide +kernel
theorem dX2_init_10 : decode cX2_init 10 = .ok (.putfield 13, 3) := by decide +kernel
theorem dX2_init_13 : decode cX2_init 13 = .ok (.return_, 1) := by decide +kernel
theorem dX2_take_0 : decode cX2_take 0 = .ok (.aload_n 0, 1) := by decide +kernel
theorem dX2_take_1 : decode cX2_take 1 = .ok (.getfield 17, 3) := by decide +kernel
theorem dX2_take_4 : decode cX2_take 4 = .ok (.iconst 0, 1) := by decide +kernel
theorem dX2_take_5 : decode cX2_take 5 = .ok (.sipush 159, 3) := by decide +kernel
theorem dX2_take_8 : decode cX2_take 8 = .ok (.invokestatic 21, 3) := by decide +kernel
theorem dX2_take_11 : decode cX2_take 11 = .ok (.ifCond .ne 5, 3) := by decide +kernel
theorem dX2_take_14 : decode cX2_take 14 = .ok (.iconst 0, 1) := by decide +kernel
theorem dX2_take_15 : decode cX2_take 15 = .ok (.ireturn, 1) := by decide +kernel
theorem dX2_take_16 : decode cX2_take 16 = .ok (.aload_n 0, 1) := by decide +kernel
theorem dX2_take_17 : decode cX2_take 17 = .ok (.getfield 13, 3) := by decide +kernel
theorem dX2_take_20 : decode cX2_take 20 = .ok (.aload_n 0, 1) := by decide +kernel
theorem dX2_take_21 : decode cX2_take 21 = .ok (.getfield 17, 3) := by decide +kernel
theorem dX2_take_24 : decode cX2_take 24 = .ok (.iload_n 1, 1) := by decide +kernel
theorem dX2_take_25 : decode cX2_take 25 = .ok (.iastore, 1) := by decide +kernel
theorem dX2_take_26 : decode cX2_take 26 = .ok (.aload_n 0, 1) := by decide +kernel
theorem dX2_take_27 : decode cX2_take 27 = .ok (.dup, 1) := by decide +kernel
theorem dX2_take_28 : decode cX2_take 28 = .ok (.getfield 17, 3) := by decide +kernel
theorem dX2_take_31 : decode cX2_take 31 = .ok (.iconst 1, 1) := by decide +kernel
theorem dX2_take_32 : decode cX2_take 32 = .ok (.iadd, 1) := by decide +kernel
theorem dX2_take_33 : decode cX2_take 33 = .ok (.putfield 17, 3) := by decide +kernel
theorem dX2_take_36 : decode cX2_take 36 = .ok (.iconst 1, 1) := by decide +kernel
theorem dX2_take_37 : decode cX2_take 37 = .ok (.ireturn, 1) := by decide +kernel
theorem dX2_read_0 : decode cX2_read 0 = .ok (.aload_n 0, 1) := by decide +kernel
theorem dX2_read_1 : decode cX2_read 1 = .ok (.aload_n 1, 1) := by decide +kernel
theorem dX2_read_2 : decode cX2_read 2 = .ok (.putfield 25, 3) := by decide +kernel
theorem dX2_read_5 : decode cX2_read 5 = .ok (.aload_n 0, 1) := by decide +kernel
theorem dX2_read_6 : decode cX2_read 6 = .ok (.iconst 0, 1) := by decide +kernel
theorem dX2_read_7 : decode cX2_read 7 = .ok (.putfield 29, 3) := by decide +kernel
theorem dX2_read_10 : decode cX2_read 10 = .ok (.aload_n 0, 1) := by decide +kernel
theorem dX2_read_11 : decode cX2_read 11 = .ok (.iconst 0, 1) := by decide +kernel
theorem dX2_read_12 : decode cX2_read 12 = .ok (.putfield 32, 3) := by decide +kernel
theorem dX2_read_15 : decode cX2_read 15 = .ok (.aload_n 0, 1) := by decide +kernel
theorem dX2_read_16 : decode cX2_read 16 = .ok (.iconst 0, 1) := by decide +kernel
theorem dX2_read_17 : decode cX2_read 17 = .ok (.putfield 35, 3) := by decide +kernel
theorem dX2_read_20 : decode cX2_read 20 = .ok (.aload_n 0, 1) := by decide +kernel
theorem dX2_read_21 : decode cX2_read 21 = .ok (.iconst (-1), 1) := by decide +kernel
theorem dX2_read_22 : decode cX2_read 22 = .ok (.putfield 38, 3) := by decide +kernel
theorem dX2_read_25 : decode cX2_read 25 = .ok (.aload_n 0, 1) := by decide +kernel
theorem dX2_read_26 : decode cX2_read 26 = .ok (.invokevirtual 41, 3) := by decide +kernel
theorem dX2_read_29 : decode cX2_read 29 = .ok (.iconst 0, 1) := by decide +kernel
theorem dX2_read_30 : decode cX2_read 30 = .ok (.istore_n 2, 1) := by decide +kernel
theorem dX2_read_31 : decode cX2_read 31 = .ok (.iload_n 2, 1) := by decide +kernel
theorem dX2_read_32 : decode cX2_read 32 = .ok (.iconst 3, 1) := by decide +kernel
theorem dX2_read_33 : decode cX2_read 33 = .ok (.if_icmp .ge 40, 3) := by decide +kernel
theorem dX2_read_36 : decode cX2_read 36 = .ok (.aload_n 0, 1) := by decide +kernel
theorem dX2_read_37 : decode cX2_read 37 = .ok (.bipush 103, 2) := by decide +kernel
theorem dX2_read_39 : decode cX2_read 39 = .ok (.iload_n 2, 1) := by decide +kernel
theorem dX2_read_40 : decode cX2_read 40 = .ok (.iadd, 1) := by decide +kernel
theorem dX2_read_41 : decode cX2_read 41 = .ok (.invokevirtual 44, 3) := by decide +kernel
theorem dX2_read_44 : decode cX2_read 44 = .ok (.aload_n 0, 1) := by decide +kernel
theorem dX2_read_45 : decode cX2_read 45 = .ok (.invokevirtual 48, 3) := by decide +kernel
theorem dX2_read_48 : decode cX2_read 48 = .ok (.aload_n 0, 1) := by decide +kernel
theorem dX2_read_49 : decode cX2_read 49 = .ok (.bipush 59, 2) := by decide +kernel
theorem dX2_read_51 : decode cX2_read 51 = .ok (.invokevirtual 44, 3) := by decide +kernel
theorem dX2_read_54 : decode cX2_read 54 = .ok (.aload_n 0, 1) := by decide +kernel
theorem dX2_read_55 : decode cX2_read 55 = .ok (.getfield 25, 3) := by decide +kernel
theorem dX2_read_58 : decode cX2_read 58 = .ok (.getfield 51, 3) := by decide +kernel
theorem dX2_read_61 : decode cX2_read 61 = .ok (.iload_n 2, 1) := by decide +kernel
theorem dX2_read_62 : decode cX2_read 62 = .ok (.aload_n 0, 1) := by decide +kernel
theorem dX2_read_63 : decode cX2_read 63 = .ok (.getfield 29, 3) := by decide +kernel
theorem dX2_read_66 : decode cX2_read 66 = .ok (.iastore, 1) := by decide +kernel
theorem dX2_read_67 : decode cX2_read 67 = .ok (.iinc 2 1, 3) := by decide +kernel
theorem dX2_read_70 : decode cX2_read 70 = .ok (.goto (-39), 3) := by decide +kernel
theorem dX2_read_73 : decode cX2_read 73 = .ok (.aload_n 0, 1) := by decide +kernel
theorem dX2_read_74 : decode cX2_read 74 = .ok (.iconst 1, 1) := by decide +kernel
theorem dX2_read_75 : decode cX2_read 75 = .ok (.invokevirtual 44, 3) := by decide +kernel
theorem dX2_read_78 : decode cX2_read 78 = .ok (.aload_n 0, 1) := by decide +kernel
theorem dX2_read_79 : decode cX2_read 79 = .ok (.iconst 0, 1) := by decide +kernel
theorem dX2_read_80 : decode cX2_read 80 = .ok (.putfield 17, 3) := by decide +kernel
theorem dX2_read_83 : decode cX2_read 83 = .ok (.aload_n 0, 1) := by decide +kernel
theorem dX2_read_84 : decode cX2_read 84 = .ok (.getfield 38, 3) := by decide +kernel
theorem dX2_read_87 : decode cX2_read 87 = .ok (.ireturn, 1) := by decide +kernel
theorem dX2_either_0 : decode cX2_either 0 = .ok (.aload_n 0, 1) := by decide +kernel
theorem dX2_either_1 : decode cX2_either 1 = .ok (.invokevirtual 54, 3) := by decide +kernel
theorem dX2_either_4 : decode cX2_either 4 = .ok (.iconst 0, 1) := by decide +kernel
theorem dX2_either_5 : decode cX2_either 5 = .ok (.istore_n 1, 1) := by decide +kernel
theorem dX2_either_6 : decode cX2_either 6 = .ok (.iload_n 1, 1) := by decide +kernel
theorem dX2_either_7 : decode cX2_either 7 = .ok (.sipush 160, 3) := by decide +kernel
theorem dX2_either_10 : decode cX2_either 10 = .ok (.if_icmp .ge 32, 3) := by decide +kernel
theorem dX2_either_13 : decode cX2_either 13 = .ok (.aload_n 0, 1) := by decide +kernel
theorem dX2_either_14 : decode cX2_either 14 = .ok (.getfield 57, 3) := by decide +kernel
theorem dX2_either_17 : decode cX2_either 17 = .ok (.bipush 106, 2) := by decide +kernel
theorem dX2_either_19 : decode cX2_either 19 = .ok (.if_icmp .ne 23, 3) := by decide +kernel
theorem dX2_either_22 : decode cX2_either 22 = .ok (.aload_n 0, 1) := by decide +kernel
theorem dX2_either_23 : decode cX2_either 23 = .ok (.invokevirtual 41, 3) := by decide +kernel
theorem dX2_either_26 : decode cX2_either 26 = .ok (.aload_n 0, 1) := by decide +kernel
theorem dX2_either_27 : decode cX2_either 27 = .ok (.invokevirtual 54, 3) := by decide +kernel
theorem dX2_either_30 : decode cX2_either 30 = .ok (.aload_n 0, 1) := by decide +kernel
theorem dX2_either_31 : decode cX2_either 31 = .ok (.bipush (-13), 2) := by decide +kernel
theorem dX2_either_33 : decode cX2_either 33 = .ok (.invokevirtual 60, 3) := by decide +kernel
theorem dX2_either_36 : decode cX2_either 36 = .ok (.iinc 1 1, 3) := by decide +kernel
theorem dX2_either_39 : decode cX2_either 39 = .ok (.goto (-33), 3) := by decide +kernel
theorem dX2_either_42 : decode cX2_either 42 = .ok (.return_, 1) := by decide +kernel
theorem dX2_both_0 : decode cX2_both 0 = .ok (.aload_n 0, 1) := by decide +kernel
theorem dX2_both_1 : decode cX2_both 1 = .ok (.invokevirtual 63, 3) := by decide +kernel
theorem dX2_both_4 : decode cX2_both 4 = .ok (.iconst 0, 1) := by decide +kernel
theorem dX2_both_5 : decode cX2_both 5 = .ok (.istore_n 1, 1) := by decide +kernel
theorem dX2_both_6 : decode cX2_both 6 = .ok (.iload_n 1, 1) := by decide +kernel
theorem dX2_both_7 : decode cX2_both 7 = .ok (.sipush 160, 3) := by decide +kernel
theorem dX2_both_10 : decode cX2_both 10 = .ok (.if_icmp .ge 32, 3) := by decide +kernel
theorem dX2_both_13 : decode cX2_both 13 = .ok (.aload_n 0, 1) := by decide +kernel
theorem dX2_both_14 : decode cX2_both 14 = .ok (.getfield 57, 3) := by decide +kernel
theorem dX2_both_17 : decode cX2_both 17 = .ok (.bipush 107, 2) := by decide +kernel
theorem dX2_both_19 : decode cX2_both 19 = .ok (.if_icmp .ne 23, 3) := by decide +kernel
theorem dX2_both_22 : decode cX2_both 22 = .ok (.aload_n 0, 1) := by decide +kernel
theorem dX2_both_23 : decode cX2_both 23 = .ok (.invokevirtual 41, 3) := by decide +kernel
theorem dX2_both_26 : decode cX2_both 26 = .ok (.aload_n 0, 1) := by decide +kernel
theorem dX2_both_27 : decode cX2_both 27 = .ok (.invokevirtual 63, 3) := by decide +kernel
theorem dX2_both_30 : decode cX2_both 30 = .ok (.aload_n 0, 1) := by decide +kernel
theorem dX2_both_31 : decode cX2_both 31 = .ok (.bipush (-12), 2) := by decide +kernel
theorem dX2_both_33 : decode cX2_both 33 = .ok (.invokevirtual 60, 3) := by decide +kernel
theorem dX2_both_36 : decode cX2_both 36 = .ok (.iinc 1 1, 3) := by decide +kernel
theorem dX2_both_39 : decode cX2_both 39 = .ok (.goto (-33), 3) := by decide +kernel
theorem dX2_both_42 : decode cX2_both 42 = .ok (.return_, 1) := by decide +kernel
theorem dX2_denied_0 : decode cX2_denied 0 = .ok (.aload_n 0, 1) := by decide +kernel
theorem dX2_denied_1 : decode cX2_denied 1 = .ok (.getfield 57, 3) := by decide +kernel
theorem dX2_denied_4 : decode cX2_denied 4 = .ok (.bipush 108, 2) := by decide +kernel
theorem dX2_denied_6 : decode cX2_denied 6 = .ok (.if_icmp .ne 35, 3) := by decide +kernel
theorem dX2_denied_9 : decode cX2_denied 9 = .ok (.aload_n 0, 1) := by decide +kernel
theorem dX2_denied_10 : decode cX2_denied 10 = .ok (.invokevirtual 66, 3) := by decide +kernel
theorem dX2_denied_13 : decode cX2_denied 13 = .ok (.ifCond .eq 27, 3) := by decide +kernel
theorem dX2_denied_16 : decode cX2_denied 16 = .ok (.aload_n 0, 1) := by decide +kernel
theorem dX2_denied_17 : decode cX2_denied 17 = .ok (.invokevirtual 41, 3) := by decide +kernel
theorem dX2_denied_20 : decode cX2_denied 20 = .ok (.aload_n 0, 1) := by decide +kernel
theorem dX2_denied_21 : decode cX2_denied 21 = .ok (.invokevirtual 63, 3) := by decide +kernel
theorem dX2_denied_24 : decode cX2_denied 24 = .ok (.aload_n 0, 1) := by decide +kernel
theorem dX2_denied_25 : decode cX2_denied 25 = .ok (.bipush (-14), 2) := by decide +kernel
theorem dX2_denied_27 : decode cX2_denied 27 = .ok (.invokevirtual 60, 3) := by decide +kernel
theorem dX2_denied_30 : decode cX2_denied 30 = .ok (.aload_n 0, 1) := by decide +kernel
theorem dX2_denied_31 : decode cX2_denied 31 = .ok (.dup, 1) := by decide +kernel
theorem dX2_denied_32 : decode cX2_denied 32 = .ok (.getfield 35, 3) := by decide +kernel
theorem dX2_denied_35 : decode cX2_denied 35 = .ok (.iconst 1, 1) := by decide +kernel
theorem dX2_denied_36 : decode cX2_denied 36 = .ok (.isub, 1) := by decide +kernel
theorem dX2_denied_37 : decode cX2_denied 37 = .ok (.putfield 35, 3) := by decide +kernel
theorem dX2_denied_40 : decode cX2_denied 40 = .ok (.return_, 1) := by decide +kernel
theorem dX2_denied_41 : decode cX2_denied 41 = .ok (.aload_n 0, 1) := by decide +kernel
theorem dX2_denied_42 : decode cX2_denied 42 = .ok (.invokevirtual 70, 3) := by decide +kernel
theorem dX2_denied_45 : decode cX2_denied 45 = .ok (.aload_n 0, 1) := by decide +kernel
theorem dX2_denied_46 : decode cX2_denied 46 = .ok (.getfield 57, 3) := by decide +kernel
theorem dX2_denied_49 : decode cX2_denied 49 = .ok (.bipush 60, 2) := by decide +kernel
theorem dX2_denied_51 : decode cX2_denied 51 = .ok (.if_icmp .eq 12, 3) := by decide +kernel
theorem dX2_denied_54 : decode cX2_denied 54 = .ok (.aload_n 0, 1) := by decide +kernel
theorem dX2_denied_55 : decode cX2_denied 55 = .ok (.getfield 57, 3) := by decide +kernel
theorem dX2_denied_58 : decode cX2_denied 58 = .ok (.bipush 61, 2) := by decide +kernel
theorem dX2_denied_60 : decode cX2_denied 60 = .ok (.if_icmp .ne 33, 3) := by decide +kernel
theorem dX2_denied_63 : decode cX2_denied 63 = .ok (.aload_n 0, 1) := by decide +kernel
theorem dX2_denied_64 : decode cX2_denied 64 = .ok (.getfield 57, 3) := by decide +kernel
theorem dX2_denied_67 : decode cX2_denied 67 = .ok (.bipush 60, 2) := by decide +kernel
theorem dX2_denied_69 : decode cX2_denied 69 = .ok (.if_icmp .ne 8, 3) := by decide +kernel
theorem dX2_denied_72 : decode cX2_denied 72 = .ok (.bipush (-10), 2) := by decide +kernel
theorem dX2_denied_74 : decode cX2_denied 74 = .ok (.goto 5, 3) := by decide +kernel
theorem dX2_denied_77 : decode cX2_denied 77 = .ok (.bipush (-11), 2) := by decide +kernel
theorem dX2_denied_79 : decode cX2_denied 79 = .ok (.istore_n 1, 1) := by decide +kernel
theorem dX2_denied_80 : decode cX2_denied 80 = .ok (.aload_n 0, 1) := by decide +kernel
theorem dX2_denied_81 : decode cX2_denied 81 = .ok (.invokevirtual 41, 3) := by decide +kernel
theorem dX2_denied_84 : decode cX2_denied 84 = .ok (.aload_n 0, 1) := by decide +kernel
theorem dX2_denied_85 : decode cX2_denied 85 = .ok (.invokevirtual 70, 3) := by decide +kernel
theorem dX2_denied_88 : decode cX2_denied 88 = .ok (.aload_n 0, 1) := by decide +kernel
theorem dX2_denied_89 : decode cX2_denied 89 = .ok (.iload_n 1, 1) := by decide +kernel
theorem dX2_denied_90 : decode cX2_denied 90 = .ok (.invokevirtual 60, 3) := by decide +kernel
theorem dX2_denied_93 : decode cX2_denied 93 = .ok (.return_, 1) := by decide +kernel
theorem dX2_sum_0 : decode cX2_sum 0 = .ok (.aload_n 0, 1) := by decide +kernel
theorem dX2_sum_1 : decode cX2_sum 1 = .ok (.invokevirtual 73, 3) := by decide +kernel
theorem dX2_sum_4 : decode cX2_sum 4 = .ok (.iconst 0, 1) := by decide +kernel
theorem dX2_sum_5 : decode cX2_sum 5 = .ok (.istore_n 1, 1) := by decide +kernel
theorem dX2_sum_6 : decode cX2_sum 6 = .ok (.iload_n 1, 1) := by decide +kernel
theorem dX2_sum_7 : decode cX2_sum 7 = .ok (.sipush 160, 3) := by decide +kernel
theorem dX2_sum_10 : decode cX2_sum 10 = .ok (.if_icmp .ge 57, 3) := by decide +kernel
theorem dX2_sum_13 : decode cX2_sum 13 = .ok (.aload_n 0, 1) := by decide +kernel
theorem dX2_sum_14 : decode cX2_sum 14 = .ok (.getfield 57, 3) := by decide +kernel
theorem dX2_sum_17 : decode cX2_sum 17 = .ok (.bipush 43, 2) := by decide +kernel
theorem dX2_sum_19 : decode cX2_sum 19 = .ok (.if_icmp .eq 12, 3) := by decide +kernel
theorem dX2_sum_22 : decode cX2_sum 22 = .ok (.aload_n 0, 1) := by decide +kernel
theorem dX2_sum_23 : decode cX2_sum 23 = .ok (.getfield 57, 3) := by decide +kernel
theorem dX2_sum_26 : decode cX2_sum 26 = .ok (.bipush 45, 2) := by decide +kernel
theorem dX2_sum_28 : decode cX2_sum 28 = .ok (.if_icmp .ne 39, 3) := by decide +kernel
theorem dX2_sum_31 : decode cX2_sum 31 = .ok (.aload_n 0, 1) := by decide +kernel
theorem dX2_sum_32 : decode cX2_sum 32 = .ok (.getfield 57, 3) := by decide +kernel
theorem dX2_sum_35 : decode cX2_sum 35 = .ok (.bipush 43, 2) := by decide +kernel
theorem dX2_sum_37 : decode cX2_sum 37 = .ok (.if_icmp .ne 8, 3) := by decide +kernel
theorem dX2_sum_40 : decode cX2_sum 40 = .ok (.bipush (-7), 2) := by decide +kernel
theorem dX2_sum_42 : decode cX2_sum 42 = .ok (.goto 5, 3) := by decide +kernel
theorem dX2_sum_45 : decode cX2_sum 45 = .ok (.bipush (-8), 2) := by decide +kernel
theorem dX2_sum_47 : decode cX2_sum 47 = .ok (.istore_n 2, 1) := by decide +kernel
theorem dX2_sum_48 : decode cX2_sum 48 = .ok (.aload_n 0, 1) := by decide +kernel
theorem dX2_sum_49 : decode cX2_sum 49 = .ok (.invokevirtual 41, 3) := by decide +kernel
theorem dX2_sum_52 : decode cX2_sum 52 = .ok (.aload_n 0, 1) := by decide +kernel
theorem dX2_sum_53 : decode cX2_sum 53 = .ok (.invokevirtual 73, 3) := by decide +kernel
theorem dX2_sum_56 : decode cX2_sum 56 = .ok (.aload_n 0, 1) := by decide +kernel
theorem dX2_sum_57 : decode cX2_sum 57 = .ok (.iload_n 2, 1) := by decide +kernel
theorem dX2_sum_58 : decode cX2_sum 58 = .ok (.invokevirtual 60, 3) := by decide +kernel
theorem dX2_sum_61 : decode cX2_sum 61 = .ok (.iinc 1 1, 3) := by decide +kernel
theorem dX2_sum_64 : decode cX2_sum 64 = .ok (.goto (-58), 3) := by decide +kernel
theorem dX2_sum_67 : decode cX2_sum 67 = .ok (.return_, 1) := by decide +kernel
theorem dX2_term_0 : decode cX2_term 0 = .ok (.aload_n 0, 1) := by decide +kernel
theorem dX2_term_1 : decode cX2_term 1 = .ok (.invokevirtual 76, 3) := by decide +kernel
theorem dX2_term_4 : decode cX2_term 4 = .ok (.iconst 0, 1) := by decide +kernel
theorem dX2_term_5 : decode cX2_term 5 = .ok (.istore_n 1, 1) := by decide +kernel
theorem dX2_term_6 : decode cX2_term 6 = .ok (.iload_n 1, 1) := by decide +kernel
theorem dX2_term_7 : decode cX2_term 7 = .ok (.sipush 160, 3) := by decide +kernel
theorem dX2_term_10 : decode cX2_term 10 = .ok (.if_icmp .ge 32, 3) := by decide +kernel
theorem dX2_term_13 : decode cX2_term 13 = .ok (.aload_n 0, 1) := by decide +kernel
theorem dX2_term_14 : decode cX2_term 14 = .ok (.getfield 57, 3) := by decide +kernel
theorem dX2_term_17 : decode cX2_term 17 = .ok (.bipush 42, 2) := by decide +kernel
theorem dX2_term_19 : decode cX2_term 19 = .ok (.if_icmp .ne 23, 3) := by decide +kernel
theorem dX2_term_22 : decode cX2_term 22 = .ok (.aload_n 0, 1) := by decide +kernel
theorem dX2_term_23 : decode cX2_term 23 = .ok (.invokevirtual 41, 3) := by decide +kernel
theorem dX2_term_26 : decode cX2_term 26 = .ok (.aload_n 0, 1) := by decide +kernel
theorem dX2_term_27 : decode cX2_term 27 = .ok (.invokevirtual 76, 3) := by decide +kernel
theorem dX2_term_30 : decode cX2_term 30 = .ok (.aload_n 0, 1) := by decide +kernel
theorem dX2_term_31 : decode cX2_term 31 = .ok (.bipush (-9), 2) := by decide +kernel
theorem dX2_term_33 : decode cX2_term 33 = .ok (.invokevirtual 60, 3) := by decide +kernel
theorem dX2_term_36 : decode cX2_term 36 = .ok (.iinc 1 1, 3) := by decide +kernel
theorem dX2_term_39 : decode cX2_term 39 = .ok (.goto (-33), 3) := by decide +kernel
theorem dX2_term_42 : decode cX2_term 42 = .ok (.return_, 1) := by decide +kernel
theorem dX2_one_0 : decode cX2_one 0 = .ok (.aload_n 0, 1) := by decide +kernel
theorem dX2_one_1 : decode cX2_one 1 = .ok (.getfield 57, 3) := by decide +kernel
theorem dX2_one_4 : decode cX2_one 4 = .ok (.iconst 3, 1) := by decide +kernel
theorem dX2_one_5 : decode cX2_one 5 = .ok (.if_icmp .ne 18, 3) := by decide +kernel
theorem dX2_one_8 : decode cX2_one 8 = .ok (.aload_n 0, 1) := by decide +kernel
theorem dX2_one_9 : decode cX2_one 9 = .ok (.aload_n 0, 1) := by decide +kernel
theorem dX2_one_10 : decode cX2_one 10 = .ok (.getfield 79, 3) := by decide +kernel
theorem dX2_one_13 : decode cX2_one 13 = .ok (.invokevirtual 60, 3) := by decide +kernel
theorem dX2_one_16 : decode cX2_one 16 = .ok (.aload_n 0, 1) := by decide +kernel
theorem dX2_one_17 : decode cX2_one 17 = .ok (.invokevirtual 41, 3) := by decide +kernel
theorem dX2_one_20 : decode cX2_one 20 = .ok (.goto 127, 3) := by decide +kernel
theorem dX2_one_23 : decode cX2_one 23 = .ok (.aload_n 0, 1) := by decide +kernel
theorem dX2_one_24 : decode cX2_one 24 = .ok (.getfield 57, 3) := by decide +kernel
theorem dX2_one_27 : decode cX2_one 27 = .ok (.bipush 97, 2) := by decide +kernel
theorem dX2_one_29 : decode cX2_one 29 = .ok (.bipush 102, 2) := by decide +kernel
theorem dX2_one_31 : decode cX2_one 31 = .ok (.invokestatic 21, 3) := by decide +kernel
theorem dX2_one_34 : decode cX2_one 34 = .ok (.ifCond .eq 23, 3) := by decide +kernel
theorem dX2_one_37 : decode cX2_one 37 = .ok (.aload_n 0, 1) := by decide +kernel
theorem dX2_one_38 : decode cX2_one 38 = .ok (.iconst (-1), 1) := by decide +kernel
theorem dX2_one_39 : decode cX2_one 39 = .ok (.aload_n 0, 1) := by decide +kernel
theorem dX2_one_40 : decode cX2_one 40 = .ok (.getfield 57, 3) := by decide +kernel
theorem dX2_one_43 : decode cX2_one 43 = .ok (.bipush 97, 2) := by decide +kernel
theorem dX2_one_45 : decode cX2_one 45 = .ok (.isub, 1) := by decide +kernel
theorem dX2_one_46 : decode cX2_one 46 = .ok (.isub, 1) := by decide +kernel
theorem dX2_one_47 : decode cX2_one 47 = .ok (.invokevirtual 60, 3) := by decide +kernel
theorem dX2_one_50 : decode cX2_one 50 = .ok (.aload_n 0, 1) := by decide +kernel
theorem dX2_one_51 : decode cX2_one 51 = .ok (.invokevirtual 41, 3) := by decide +kernel
theorem dX2_one_54 : decode cX2_one 54 = .ok (.goto 93, 3) := by decide +kernel
theorem dX2_one_57 : decode cX2_one 57 = .ok (.aload_n 0, 1) := by decide +kernel
theorem dX2_one_58 : decode cX2_one 58 = .ok (.getfield 57, 3) := by decide +kernel
theorem dX2_one_61 : decode cX2_one 61 = .ok (.bipush 45, 2) := by decide +kernel
theorem dX2_one_63 : decode cX2_one 63 = .ok (.if_icmp .ne 37, 3) := by decide +kernel
theorem dX2_one_66 : decode cX2_one 66 = .ok (.aload_n 0, 1) := by decide +kernel
theorem dX2_one_67 : decode cX2_one 67 = .ok (.invokevirtual 66, 3) := by decide +kernel
theorem dX2_one_70 : decode cX2_one 70 = .ok (.ifCond .eq 77, 3) := by decide +kernel
theorem dX2_one_73 : decode cX2_one 73 = .ok (.aload_n 0, 1) := by decide +kernel
theorem dX2_one_74 : decode cX2_one 74 = .ok (.invokevirtual 41, 3) := by decide +kernel
theorem dX2_one_77 : decode cX2_one 77 = .ok (.aload_n 0, 1) := by decide +kernel
theorem dX2_one_78 : decode cX2_one 78 = .ok (.invokevirtual 76, 3) := by decide +kernel
theorem dX2_one_81 : decode cX2_one 81 = .ok (.aload_n 0, 1) := by decide +kernel
theorem dX2_one_82 : decode cX2_one 82 = .ok (.bipush (-15), 2) := by decide +kernel
theorem dX2_one_84 : decode cX2_one 84 = .ok (.invokevirtual 60, 3) := by decide +kernel
theorem dX2_one_87 : decode cX2_one 87 = .ok (.aload_n 0, 1) := by decide +kernel
theorem dX2_one_88 : decode cX2_one 88 = .ok (.dup, 1) := by decide +kernel
theorem dX2_one_89 : decode cX2_one 89 = .ok (.getfield 35, 3) := by decide +kernel
theorem dX2_one_92 : decode cX2_one 92 = .ok (.iconst 1, 1) := by decide +kernel
theorem dX2_one_93 : decode cX2_one 93 = .ok (.isub, 1) := by decide +kernel
theorem dX2_one_94 : decode cX2_one 94 = .ok (.putfield 35, 3) := by decide +kernel
theorem dX2_one_97 : decode cX2_one 97 = .ok (.goto 50, 3) := by decide +kernel
theorem dX2_one_100 : decode cX2_one 100 = .ok (.aload_n 0, 1) := by decide +kernel
theorem dX2_one_101 : decode cX2_one 101 = .ok (.getfield 57, 3) := by decide +kernel
theorem dX2_one_104 : decode cX2_one 104 = .ok (.bipush 40, 2) := by decide +kernel
theorem dX2_one_106 : decode cX2_one 106 = .ok (.if_icmp .ne 37, 3) := by decide +kernel
theorem dX2_one_109 : decode cX2_one 109 = .ok (.aload_n 0, 1) := by decide +kernel
theorem dX2_one_110 : decode cX2_one 110 = .ok (.invokevirtual 66, 3) := by decide +kernel
theorem dX2_one_113 : decode cX2_one 113 = .ok (.ifCond .eq 34, 3) := by decide +kernel
theorem dX2_one_116 : decode cX2_one 116 = .ok (.aload_n 0, 1) := by decide +kernel
theorem dX2_one_117 : decode cX2_one 117 = .ok (.invokevirtual 41, 3) := by decide +kernel
theorem dX2_one_120 : decode cX2_one 120 = .ok (.aload_n 0, 1) := by decide +kernel
theorem dX2_one_121 : decode cX2_one 121 = .ok (.invokevirtual 48, 3) := by decide +kernel
theorem dX2_one_124 : decode cX2_one 124 = .ok (.aload_n 0, 1) := by decide +kernel
theorem dX2_one_125 : decode cX2_one 125 = .ok (.bipush 41, 2) := by decide +kernel
theorem dX2_one_127 : decode cX2_one 127 = .ok (.invokevirtual 44, 3) := by decide +kernel
theorem dX2_one_130 : decode cX2_one 130 = .ok (.aload_n 0, 1) := by decide +kernel
theorem dX2_one_131 : decode cX2_one 131 = .ok (.dup, 1) := by decide +kernel
theorem dX2_one_132 : decode cX2_one 132 = .ok (.getfield 35, 3) := by decide +kernel
theorem dX2_one_135 : decode cX2_one 135 = .ok (.iconst 1, 1) := by decide +kernel
theorem dX2_one_136 : decode cX2_one 136 = .ok (.isub, 1) := by decide +kernel
theorem dX2_one_137 : decode cX2_one 137 = .ok (.putfield 35, 3) := by decide +kernel
theorem dX2_one_140 : decode cX2_one 140 = .ok (.goto 7, 3) := by decide +kernel
theorem dX2_one_143 : decode cX2_one 143 = .ok (.aload_n 0, 1) := by decide +kernel
theorem dX2_one_144 : decode cX2_one 144 = .ok (.invokevirtual 82, 3) := by decide +kernel
theorem dX2_one_147 : decode cX2_one 147 = .ok (.return_, 1) := by decide +kernel
theorem dX2_isOpened_0 : decode cX2_isOpened 0 = .ok (.aload_n 0, 1) := by decide +kernel
theorem dX2_isOpened_1 : decode cX2_isOpened 1 = .ok (.getfield 35, 3) := by decide +kernel
theorem dX2_isOpened_4 : decode cX2_isOpened 4 = .ok (.iconst 5, 1) := by decide +kernel
theorem dX2_isOpened_5 : decode cX2_isOpened 5 = .ok (.if_icmp .lt 9, 3) := by decide +kernel
theorem dX2_isOpened_8 : decode cX2_isOpened 8 = .ok (.aload_n 0, 1) := by decide +kernel
theorem dX2_isOpened_9 : decode cX2_isOpened 9 = .ok (.invokevirtual 82, 3) := by decide +kernel
theorem dX2_isOpened_12 : decode cX2_isOpened 12 = .ok (.iconst 0, 1) := by decide +kernel
theorem dX2_isOpened_13 : decode cX2_isOpened 13 = .ok (.ireturn, 1) := by decide +kernel
theorem dX2_isOpened_14 : decode cX2_isOpened 14 = .ok (.aload_n 0, 1) := by decide +kernel
theorem dX2_isOpened_15 : decode cX2_isOpened 15 = .ok (.dup, 1) := by decide +kernel
theorem dX2_isOpened_16 : decode cX2_isOpened 16 = .ok (.getfield 35, 3) := by decide +kernel
theorem dX2_isOpened_19 : decode cX2_isOpened 19 = .ok (.iconst 1, 1) := by decide +kernel
theorem dX2_isOpened_20 : decode cX2_isOpened 20 = .ok (.iadd, 1) := by decide +kernel
theorem dX2_isOpened_21 : decode cX2_isOpened 21 = .ok (.putfield 35, 3) := by decide +kernel
theorem dX2_isOpened_24 : decode cX2_isOpened 24 = .ok (.iconst 1, 1) := by decide +kernel
theorem dX2_isOpened_25 : decode cX2_isOpened 25 = .ok (.ireturn, 1) := by decide +kernel
theorem dX2_need_0 : decode cX2_need 0 = .ok (.aload_n 0, 1) := by decide +kernel
theorem dX2_need_1 : decode cX2_need 1 = .ok (.getfield 57, 3) := by decide +kernel
theorem dX2_need_4 : decode cX2_need 4 = .ok (.iload_n 1, 1) := by decide +kernel
theorem dX2_need_5 : decode cX2_need 5 = .ok (.if_icmp .ne 10, 3) := by decide +kernel
theorem dX2_need_8 : decode cX2_need 8 = .ok (.aload_n 0, 1) := by decide +kernel
theorem dX2_need_9 : decode cX2_need 9 = .ok (.invokevirtual 41, 3) := by decide +kernel
theorem dX2_need_12 : decode cX2_need 12 = .ok (.goto 7, 3) := by decide +kernel
theorem dX2_need_15 : decode cX2_need 15 = .ok (.aload_n 0, 1) := by decide +kernel
theorem dX2_need_16 : decode cX2_need 16 = .ok (.invokevirtual 82, 3) := by decide +kernel
theorem dX2_need_19 : decode cX2_need 19 = .ok (.return_, 1) := by decide +kernel
theorem dX2_spoil_0 : decode cX2_spoil 0 = .ok (.aload_n 0, 1) := by decide +kernel
theorem dX2_spoil_1 : decode cX2_spoil 1 = .ok (.getfield 38, 3) := by decide +kernel
theorem dX2_spoil_4 : decode cX2_spoil 4 = .ok (.iconst (-1), 1) := by decide +kernel
theorem dX2_spoil_5 : decode cX2_spoil 5 = .ok (.if_icmp .ne 11, 3) := by decide +kernel
theorem dX2_spoil_8 : decode cX2_spoil 8 = .ok (.aload_n 0, 1) := by decide +kernel
theorem dX2_spoil_9 : decode cX2_spoil 9 = .ok (.aload_n 0, 1) := by decide +kernel
theorem dX2_spoil_10 : decode cX2_spoil 10 = .ok (.getfield 85, 3) := by decide +kernel
theorem dX2_spoil_13 : decode cX2_spoil 13 = .ok (.putfield 38, 3) := by decide +kernel
theorem dX2_spoil_16 : decode cX2_spoil 16 = .ok (.aload_n 0, 1) := by decide +kernel
theorem dX2_spoil_17 : decode cX2_spoil 17 = .ok (.iconst 2, 1) := by decide +kernel
theorem dX2_spoil_18 : decode cX2_spoil 18 = .ok (.putfield 57, 3) := by decide +kernel
theorem dX2_spoil_21 : decode cX2_spoil 21 = .ok (.return_, 1) := by decide +kernel
theorem dX2_write_0 : decode cX2_write 0 = .ok (.aload_n 0, 1) := by decide +kernel
theorem dX2_write_1 : decode cX2_write 1 = .ok (.getfield 29, 3) := by decide +kernel
theorem dX2_write_4 : decode cX2_write 4 = .ok (.iconst 0, 1) := by decide +kernel
theorem dX2_write_5 : decode cX2_write 5 = .ok (.sipush 159, 3) := by decide +kernel
theorem dX2_write_8 : decode cX2_write 8 = .ok (.invokestatic 21, 3) := by decide +kernel
theorem dX2_write_11 : decode cX2_write 11 = .ok (.ifCond .eq 26, 3) := by decide +kernel
theorem dX2_write_14 : decode cX2_write 14 = .ok (.aload_n 0, 1) := by decide +kernel
theorem dX2_write_15 : decode cX2_write 15 = .ok (.getfield 25, 3) := by decide +kernel
theorem dX2_write_18 : decode cX2_write 18 = .ok (.getfield 88, 3) := by decide +kernel
theorem dX2_write_21 : decode cX2_write 21 = .ok (.aload_n 0, 1) := by decide +kernel
theorem dX2_write_22 : decode cX2_write 22 = .ok (.getfield 29, 3) := by decide +kernel
theorem dX2_write_25 : decode cX2_write 25 = .ok (.iload_n 1, 1) := by decide +kernel
theorem dX2_write_26 : decode cX2_write 26 = .ok (.iastore, 1) := by decide +kernel
theorem dX2_write_27 : decode cX2_write 27 = .ok (.aload_n 0, 1) := by decide +kernel
theorem dX2_write_28 : decode cX2_write 28 = .ok (.dup, 1) := by decide +kernel
theorem dX2_write_29 : decode cX2_write 29 = .ok (.getfield 29, 3) := by decide +kernel
theorem dX2_write_32 : decode cX2_write 32 = .ok (.iconst 1, 1) := by decide +kernel
theorem dX2_write_33 : decode cX2_write 33 = .ok (.iadd, 1) := by decide +kernel
theorem dX2_write_34 : decode cX2_write 34 = .ok (.putfield 29, 3) := by decide +kernel
theorem dX2_write_37 : decode cX2_write 37 = .ok (.return_, 1) := by decide +kernel
theorem dX2_letterAt_0 : decode cX2_letterAt 0 = .ok (.iload_n 1, 1) := by decide +kernel
theorem dX2_letterAt_1 : decode cX2_letterAt 1 = .ok (.ifCond .lt 27, 3) := by decide +kernel
theorem dX2_letterAt_4 : decode cX2_letterAt 4 = .ok (.iload_n 1, 1) := by decide +kernel
theorem dX2_letterAt_5 : decode cX2_letterAt 5 = .ok (.aload_n 0, 1) := by decide +kernel
theorem dX2_letterAt_6 : decode cX2_letterAt 6 = .ok (.getfield 17, 3) := by decide +kernel
theorem dX2_letterAt_9 : decode cX2_letterAt 9 = .ok (.if_icmp .ge 19, 3) := by decide +kernel
theorem dX2_letterAt_12 : decode cX2_letterAt 12 = .ok (.iload_n 1, 1) := by decide +kernel
theorem dX2_letterAt_13 : decode cX2_letterAt 13 = .ok (.sipush 160, 3) := by decide +kernel
theorem dX2_letterAt_16 : decode cX2_letterAt 16 = .ok (.if_icmp .ge 12, 3) := by decide +kernel
theorem dX2_letterAt_19 : decode cX2_letterAt 19 = .ok (.aload_n 0, 1) := by decide +kernel
theorem dX2_letterAt_20 : decode cX2_letterAt 20 = .ok (.getfield 13, 3) := by decide +kernel
theorem dX2_letterAt_23 : decode cX2_letterAt 23 = .ok (.iload_n 1, 1) := by decide +kernel
theorem dX2_letterAt_24 : decode cX2_letterAt 24 = .ok (.iaload, 1) := by decide +kernel
theorem dX2_letterAt_25 : decode cX2_letterAt 25 = .ok (.goto 4, 3) := by decide +kernel
theorem dX2_letterAt_28 : decode cX2_letterAt 28 = .ok (.iconst (-1), 1) := by decide +kernel
theorem dX2_letterAt_29 : decode cX2_letterAt 29 = .ok (.ireturn, 1) := by decide +kernel
theorem dX2_next_0 : decode cX2_next 0 = .ok (.iconst 0, 1) := by decide +kernel
theorem dX2_next_1 : decode cX2_next 1 = .ok (.istore_n 1, 1) := by decide +kernel
theorem dX2_next_2 : decode cX2_next 2 = .ok (.iload_n 1, 1) := by decide +kernel
theorem dX2_next_3 : decode cX2_next 3 = .ok (.sipush 160, 3) := by decide +kernel
theorem dX2_next_6 : decode cX2_next 6 = .ok (.if_icmp .ge 45, 3) := by decide +kernel
theorem dX2_next_9 : decode cX2_next 9 = .ok (.aload_n 0, 1) := by decide +kernel
theorem dX2_next_10 : decode cX2_next 10 = .ok (.aload_n 0, 1) := by decide +kernel
theorem dX2_next_11 : decode cX2_next 11 = .ok (.getfield 32, 3) := by decide +kernel
theorem dX2_next_14 : decode cX2_next 14 = .ok (.invokevirtual 91, 3) := by decide +kernel
theorem dX2_next_17 : decode cX2_next 17 = .ok (.bipush 32, 2) := by decide +kernel
theorem dX2_next_19 : decode cX2_next 19 = .ok (.if_icmp .eq 16, 3) := by decide +kernel
theorem dX2_next_22 : decode cX2_next 22 = .ok (.aload_n 0, 1) := by decide +kernel
theorem dX2_next_23 : decode cX2_next 23 = .ok (.aload_n 0, 1) := by decide +kernel
theorem dX2_next_24 : decode cX2_next 24 = .ok (.getfield 32, 3) := by decide +kernel
theorem dX2_next_27 : decode cX2_next 27 = .ok (.invokevirtual 91, 3) := by decide +kernel
theorem dX2_next_30 : decode cX2_next 30 = .ok (.bipush 10, 2) := by decide +kernel
theorem dX2_next_32 : decode cX2_next 32 = .ok (.if_icmp .ne 19, 3) := by decide +kernel
theorem dX2_next_35 : decode cX2_next 35 = .ok (.aload_n 0, 1) := by decide +kernel
theorem dX2_next_36 : decode cX2_next 36 = .ok (.dup, 1) := by decide +kernel
theorem dX2_next_37 : decode cX2_next 37 = .ok (.getfield 32, 3) := by decide +kernel
theorem dX2_next_40 : decode cX2_next 40 = .ok (.iconst 1, 1) := by decide +kernel
theorem dX2_next_41 : decode cX2_next 41 = .ok (.iadd, 1) := by decide +kernel
theorem dX2_next_42 : decode cX2_next 42 = .ok (.putfield 32, 3) := by decide +kernel
theorem dX2_next_45 : decode cX2_next 45 = .ok (.iinc 1 1, 3) := by decide +kernel
theorem dX2_next_48 : decode cX2_next 48 = .ok (.goto (-46), 3) := by decide +kernel
theorem dX2_next_51 : decode cX2_next 51 = .ok (.aload_n 0, 1) := by decide +kernel
theorem dX2_next_52 : decode cX2_next 52 = .ok (.aload_n 0, 1) := by decide +kernel
theorem dX2_next_53 : decode cX2_next 53 = .ok (.getfield 32, 3) := by decide +kernel
theorem dX2_next_56 : decode cX2_next 56 = .ok (.putfield 85, 3) := by decide +kernel
theorem dX2_next_59 : decode cX2_next 59 = .ok (.aload_n 0, 1) := by decide +kernel
theorem dX2_next_60 : decode cX2_next 60 = .ok (.aload_n 0, 1) := by decide +kernel
theorem dX2_next_61 : decode cX2_next 61 = .ok (.getfield 32, 3) := by decide +kernel
theorem dX2_next_64 : decode cX2_next 64 = .ok (.invokevirtual 91, 3) := by decide +kernel
theorem dX2_next_67 : decode cX2_next 67 = .ok (.istore_n 1, 1) := by decide +kernel
theorem dX2_next_68 : decode cX2_next 68 = .ok (.iload_n 1, 1) := by decide +kernel
theorem dX2_next_69 : decode cX2_next 69 = .ok (.iconst (-1), 1) := by decide +kernel
theorem dX2_next_70 : decode cX2_next 70 = .ok (.if_icmp .ne 11, 3) := by decide +kernel
theorem dX2_next_73 : decode cX2_next 73 = .ok (.aload_n 0, 1) := by decide +kernel
theorem dX2_next_74 : decode cX2_next 74 = .ok (.iconst 1, 1) := by decide +kernel
theorem dX2_next_75 : decode cX2_next 75 = .ok (.putfield 57, 3) := by decide +kernel
theorem dX2_next_78 : decode cX2_next 78 = .ok (.goto 68, 3) := by decide +kernel
theorem dX2_next_81 : decode cX2_next 81 = .ok (.iload_n 1, 1) := by decide +kernel
theorem dX2_next_82 : decode cX2_next 82 = .ok (.bipush 97, 2) := by decide +kernel
theorem dX2_next_84 : decode cX2_next 84 = .ok (.bipush 122, 2) := by decide +kernel
theorem dX2_next_86 : decode cX2_next 86 = .ok (.invokestatic 21, 3) := by decide +kernel
theorem dX2_next_89 : decode cX2_next 89 = .ok (.ifCond .eq 10, 3) := by decide +kernel
theorem dX2_next_92 : decode cX2_next 92 = .ok (.aload_n 0, 1) := by decide +kernel
theorem dX2_next_93 : decode cX2_next 93 = .ok (.invokevirtual 95, 3) := by decide +kernel
theorem dX2_next_96 : decode cX2_next 96 = .ok (.goto 50, 3) := by decide +kernel
theorem dX2_next_99 : decode cX2_next 99 = .ok (.iload_n 1, 1) := by decide +kernel
theorem dX2_next_100 : decode cX2_next 100 = .ok (.bipush 48, 2) := by decide +kernel
theorem dX2_next_102 : decode cX2_next 102 = .ok (.bipush 57, 2) := by decide +kernel
theorem dX2_next_104 : decode cX2_next 104 = .ok (.invokestatic 21, 3) := by decide +kernel
theorem dX2_next_107 : decode cX2_next 107 = .ok (.ifCond .eq 10, 3) := by decide +kernel
theorem dX2_next_110 : decode cX2_next 110 = .ok (.aload_n 0, 1) := by decide +kernel
theorem dX2_next_111 : decode cX2_next 111 = .ok (.invokevirtual 98, 3) := by decide +kernel
theorem dX2_next_114 : decode cX2_next 114 = .ok (.goto 32, 3) := by decide +kernel
theorem dX2_next_117 : decode cX2_next 117 = .ok (.aload_n 0, 1) := by decide +kernel
theorem dX2_next_118 : decode cX2_next 118 = .ok (.ldc 101, 2) := by decide +kernel
theorem dX2_next_120 : decode cX2_next 120 = .ok (.iload_n 1, 1) := by decide +kernel
theorem dX2_next_121 : decode cX2_next 121 = .ok (.i2c, 1) := by decide +kernel
theorem dX2_next_122 : decode cX2_next 122 = .ok (.invokevirtual 103, 3) := by decide +kernel
theorem dX2_next_125 : decode cX2_next 125 = .ok (.ifCond .lt 7, 3) := by decide +kernel
theorem dX2_next_128 : decode cX2_next 128 = .ok (.iload_n 1, 1) := by decide +kernel
theorem dX2_next_129 : decode cX2_next 129 = .ok (.goto 4, 3) := by decide +kernel
theorem dX2_next_132 : decode cX2_next 132 = .ok (.iconst 2, 1) := by decide +kernel
theorem dX2_next_133 : decode cX2_next 133 = .ok (.putfield 57, 3) := by decide +kernel
theorem dX2_next_136 : decode cX2_next 136 = .ok (.aload_n 0, 1) := by decide +kernel
theorem dX2_next_137 : decode cX2_next 137 = .ok (.dup, 1) := by decide +kernel
theorem dX2_next_138 : decode cX2_next 138 = .ok (.getfield 32, 3) := by decide +kernel
theorem dX2_next_141 : decode cX2_next 141 = .ok (.iconst 1, 1) := by decide +kernel
theorem dX2_next_142 : decode cX2_next 142 = .ok (.iadd, 1) := by decide +kernel
theorem dX2_next_143 : decode cX2_next 143 = .ok (.putfield 32, 3) := by decide +kernel
theorem dX2_next_146 : decode cX2_next 146 = .ok (.return_, 1) := by decide +kernel
theorem dX2_nextNumber_0 : decode cX2_nextNumber 0 = .ok (.aload_n 0, 1) := by decide +kernel
theorem dX2_nextNumber_1 : decode cX2_nextNumber 1 = .ok (.iconst 0, 1) := by decide +kernel
theorem dX2_nextNumber_2 : decode cX2_nextNumber 2 = .ok (.putfield 79, 3) := by decide +kernel
theorem dX2_nextNumber_5 : decode cX2_nextNumber 5 = .ok (.iconst 0, 1) := by decide +kernel
theorem dX2_nextNumber_6 : decode cX2_nextNumber 6 = .ok (.istore_n 1, 1) := by decide +kernel
theorem dX2_nextNumber_7 : decode cX2_nextNumber 7 = .ok (.iload_n 1, 1) := by decide +kernel
theorem dX2_nextNumber_8 : decode cX2_nextNumber 8 = .ok (.sipush 160, 3) := by decide +kernel
theorem dX2_nextNumber_11 : decode cX2_nextNumber 11 = .ok (.if_icmp .ge 60, 3) := by decide +kernel
theorem dX2_nextNumber_14 : decode cX2_nextNumber 14 = .ok (.aload_n 0, 1) := by decide +kernel
theorem dX2_nextNumber_15 : decode cX2_nextNumber 15 = .ok (.aload_n 0, 1) := by decide +kernel
theorem dX2_nextNumber_16 : decode cX2_nextNumber 16 = .ok (.getfield 32, 3) := by decide +kernel
theorem dX2_nextNumber_19 : decode cX2_nextNumber 19 = .ok (.invokevirtual 91, 3) := by decide +kernel
theorem dX2_nextNumber_22 : decode cX2_nextNumber 22 = .ok (.bipush 48, 2) := by decide +kernel
theorem dX2_nextNumber_24 : decode cX2_nextNumber 24 = .ok (.bipush 57, 2) := by decide +kernel
theorem dX2_nextNumber_26 : decode cX2_nextNumber 26 = .ok (.invokestatic 21, 3) := by decide +kernel
theorem dX2_nextNumber_29 : decode cX2_nextNumber 29 = .ok (.ifCond .eq 42, 3) := by decide +kernel
theorem dX2_nextNumber_32 : decode cX2_nextNumber 32 = .ok (.aload_n 0, 1) := by decide +kernel
theorem dX2_nextNumber_33 : decode cX2_nextNumber 33 = .ok (.aload_n 0, 1) := by decide +kernel
theorem dX2_nextNumber_34 : decode cX2_nextNumber 34 = .ok (.getfield 79, 3) := by decide +kernel
theorem dX2_nextNumber_37 : decode cX2_nextNumber 37 = .ok (.bipush 10, 2) := by decide +kernel
theorem dX2_nextNumber_39 : decode cX2_nextNumber 39 = .ok (.imul, 1) := by decide +kernel
theorem dX2_nextNumber_40 : decode cX2_nextNumber 40 = .ok (.aload_n 0, 1) := by decide +kernel
theorem dX2_nextNumber_41 : decode cX2_nextNumber 41 = .ok (.aload_n 0, 1) := by decide +kernel
theorem dX2_nextNumber_42 : decode cX2_nextNumber 42 = .ok (.getfield 32, 3) := by decide +kernel
theorem dX2_nextNumber_45 : decode cX2_nextNumber 45 = .ok (.invokevirtual 91, 3) := by decide +kernel
theorem dX2_nextNumber_48 : decode cX2_nextNumber 48 = .ok (.iadd, 1) := by decide +kernel
theorem dX2_nextNumber_49 : decode cX2_nextNumber 49 = .ok (.bipush 48, 2) := by decide +kernel
theorem dX2_nextNumber_51 : decode cX2_nextNumber 51 = .ok (.isub, 1) := by decide +kernel
theorem dX2_nextNumber_52 : decode cX2_nextNumber 52 = .ok (.putfield 79, 3) := by decide +kernel
theorem dX2_nextNumber_55 : decode cX2_nextNumber 55 = .ok (.aload_n 0, 1) := by decide +kernel
theorem dX2_nextNumber_56 : decode cX2_nextNumber 56 = .ok (.dup, 1) := by decide +kernel
theorem dX2_nextNumber_57 : decode cX2_nextNumber 57 = .ok (.getfield 32, 3) := by decide +kernel
theorem dX2_nextNumber_60 : decode cX2_nextNumber 60 = .ok (.iconst 1, 1) := by decide +kernel
theorem dX2_nextNumber_61 : decode cX2_nextNumber 61 = .ok (.iadd, 1) := by decide +kernel
theorem dX2_nextNumber_62 : decode cX2_nextNumber 62 = .ok (.putfield 32, 3) := by decide +kernel
theorem dX2_nextNumber_65 : decode cX2_nextNumber 65 = .ok (.iinc 1 1, 3) := by decide +kernel
theorem dX2_nextNumber_68 : decode cX2_nextNumber 68 = .ok (.goto (-61), 3) := by decide +kernel
theorem dX2_nextNumber_71 : decode cX2_nextNumber 71 = .ok (.aload_n 0, 1) := by decide +kernel
theorem dX2_nextNumber_72 : decode cX2_nextNumber 72 = .ok (.aload_n 0, 1) := by decide +kernel
theorem dX2_nextNumber_73 : decode cX2_nextNumber 73 = .ok (.getfield 32, 3) := by decide +kernel
theorem dX2_nextNumber_76 : decode cX2_nextNumber 76 = .ok (.aload_n 0, 1) := by decide +kernel
theorem dX2_nextNumber_77 : decode cX2_nextNumber 77 = .ok (.getfield 85, 3) := by decide +kernel
theorem dX2_nextNumber_80 : decode cX2_nextNumber 80 = .ok (.isub, 1) := by decide +kernel
theorem dX2_nextNumber_81 : decode cX2_nextNumber 81 = .ok (.iconst 4, 1) := by decide +kernel
theorem dX2_nextNumber_82 : decode cX2_nextNumber 82 = .ok (.if_icmp .gt 7, 3) := by decide +kernel
theorem dX2_nextNumber_85 : decode cX2_nextNumber 85 = .ok (.iconst 3, 1) := by decide +kernel
theorem dX2_nextNumber_86 : decode cX2_nextNumber 86 = .ok (.goto 4, 3) := by decide +kernel
theorem dX2_nextNumber_89 : decode cX2_nextNumber 89 = .ok (.iconst 2, 1) := by decide +kernel
theorem dX2_nextNumber_90 : decode cX2_nextNumber 90 = .ok (.putfield 57, 3) := by decide +kernel
theorem dX2_nextNumber_93 : decode cX2_nextNumber 93 = .ok (.return_, 1) := by decide +kernel
theorem dX2_nextWord_0 : decode cX2_nextWord 0 = .ok (.iconst 0, 1) := by decide +kernel
theorem dX2_nextWord_1 : decode cX2_nextWord 1 = .ok (.istore_n 1, 1) := by decide +kernel
theorem dX2_nextWord_2 : decode cX2_nextWord 2 = .ok (.iload_n 1, 1) := by decide +kernel
theorem dX2_nextWord_3 : decode cX2_nextWord 3 = .ok (.sipush 160, 3) := by decide +kernel
theorem dX2_nextWord_6 : decode cX2_nextWord 6 = .ok (.if_icmp .ge 37, 3) := by decide +kernel
theorem dX2_nextWord_9 : decode cX2_nextWord 9 = .ok (.aload_n 0, 1) := by decide +kernel
theorem dX2_nextWord_10 : decode cX2_nextWord 10 = .ok (.aload_n 0, 1) := by decide +kernel
theorem dX2_nextWord_11 : decode cX2_nextWord 11 = .ok (.getfield 32, 3) := by decide +kernel
theorem dX2_nextWord_14 : decode cX2_nextWord 14 = .ok (.invokevirtual 91, 3) := by decide +kernel
theorem dX2_nextWord_17 : decode cX2_nextWord 17 = .ok (.bipush 97, 2) := by decide +kernel
theorem dX2_nextWord_19 : decode cX2_nextWord 19 = .ok (.bipush 122, 2) := by decide +kernel
theorem dX2_nextWord_21 : decode cX2_nextWord 21 = .ok (.invokestatic 21, 3) := by decide +kernel
theorem dX2_nextWord_24 : decode cX2_nextWord 24 = .ok (.ifCond .eq 19, 3) := by decide +kernel
theorem dX2_nextWord_27 : decode cX2_nextWord 27 = .ok (.aload_n 0, 1) := by decide +kernel
theorem dX2_nextWord_28 : decode cX2_nextWord 28 = .ok (.dup, 1) := by decide +kernel
theorem dX2_nextWord_29 : decode cX2_nextWord 29 = .ok (.getfield 32, 3) := by decide +kernel
theorem dX2_nextWord_32 : decode cX2_nextWord 32 = .ok (.iconst 1, 1) := by decide +kernel
theorem dX2_nextWord_33 : decode cX2_nextWord 33 = .ok (.iadd, 1) := by decide +kernel
theorem dX2_nextWord_34 : decode cX2_nextWord 34 = .ok (.putfield 32, 3) := by decide +kernel
theorem dX2_nextWord_37 : decode cX2_nextWord 37 = .ok (.iinc 1 1, 3) := by decide +kernel
theorem dX2_nextWord_40 : decode cX2_nextWord 40 = .ok (.goto (-38), 3) := by decide +kernel
theorem dX2_nextWord_43 : decode cX2_nextWord 43 = .ok (.aload_n 0, 1) := by decide +kernel
theorem dX2_nextWord_44 : decode cX2_nextWord 44 = .ok (.iconst 2, 1) := by decide +kernel
theorem dX2_nextWord_45 : decode cX2_nextWord 45 = .ok (.putfield 57, 3) := by decide +kernel
theorem dX2_nextWord_48 : decode cX2_nextWord 48 = .ok (.iconst 0, 1) := by decide +kernel
theorem dX2_nextWord_49 : decode cX2_nextWord 49 = .ok (.istore_n 1, 1) := by decide +kernel
theorem dX2_nextWord_50 : decode cX2_nextWord 50 = .ok (.iconst 0, 1) := by decide +kernel
theorem dX2_nextWord_51 : decode cX2_nextWord 51 = .ok (.istore_n 2, 1) := by decide +kernel
theorem dX2_nextWord_52 : decode cX2_nextWord 52 = .ok (.iconst 0, 1) := by decide +kernel
theorem dX2_nextWord_53 : decode cX2_nextWord 53 = .ok (.istore_n 3, 1) := by decide +kernel
theorem dX2_nextWord_54 : decode cX2_nextWord 54 = .ok (.iload_n 3, 1) := by decide +kernel
theorem dX2_nextWord_55 : decode cX2_nextWord 55 = .ok (.ldc 108, 2) := by decide +kernel
theorem dX2_nextWord_57 : decode cX2_nextWord 57 = .ok (.invokevirtual 110, 3) := by decide +kernel
theorem dX2_nextWord_60 : decode cX2_nextWord 60 = .ok (.if_icmp .ge 51, 3) := by decide +kernel
theorem dX2_nextWord_63 : decode cX2_nextWord 63 = .ok (.ldc 108, 2) := by decide +kernel
theorem dX2_nextWord_65 : decode cX2_nextWord 65 = .ok (.iload_n 3, 1) := by decide +kernel
theorem dX2_nextWord_66 : decode cX2_nextWord 66 = .ok (.invokevirtual 113, 3) := by decide +kernel
theorem dX2_nextWord_69 : decode cX2_nextWord 69 = .ok (.bipush 32, 2) := by decide +kernel
theorem dX2_nextWord_71 : decode cX2_nextWord 71 = .ok (.if_icmp .ne 34, 3) := by decide +kernel
theorem dX2_nextWord_74 : decode cX2_nextWord 74 = .ok (.aload_n 0, 1) := by decide +kernel
theorem dX2_nextWord_75 : decode cX2_nextWord 75 = .ok (.aload_n 0, 1) := by decide +kernel
theorem dX2_nextWord_76 : decode cX2_nextWord 76 = .ok (.iload_n 2, 1) := by decide +kernel
theorem dX2_nextWord_77 : decode cX2_nextWord 77 = .ok (.iload_n 3, 1) := by decide +kernel
theorem dX2_nextWord_78 : decode cX2_nextWord 78 = .ok (.invokevirtual 117, 3) := by decide +kernel
theorem dX2_nextWord_81 : decode cX2_nextWord 81 = .ok (.ifCond .eq 10, 3) := by decide +kernel
theorem dX2_nextWord_84 : decode cX2_nextWord 84 = .ok (.bipush 97, 2) := by decide +kernel
theorem dX2_nextWord_86 : decode cX2_nextWord 86 = .ok (.iload_n 1, 1) := by decide +kernel
theorem dX2_nextWord_87 : decode cX2_nextWord 87 = .ok (.iadd, 1) := by decide +kernel
theorem dX2_nextWord_88 : decode cX2_nextWord 88 = .ok (.goto 7, 3) := by decide +kernel
theorem dX2_nextWord_91 : decode cX2_nextWord 91 = .ok (.aload_n 0, 1) := by decide +kernel
theorem dX2_nextWord_92 : decode cX2_nextWord 92 = .ok (.getfield 57, 3) := by decide +kernel
theorem dX2_nextWord_95 : decode cX2_nextWord 95 = .ok (.putfield 57, 3) := by decide +kernel
theorem dX2_nextWord_98 : decode cX2_nextWord 98 = .ok (.iinc 1 1, 3) := by decide +kernel
theorem dX2_nextWord_101 : decode cX2_nextWord 101 = .ok (.iload_n 3, 1) := by decide +kernel
theorem dX2_nextWord_102 : decode cX2_nextWord 102 = .ok (.iconst 1, 1) := by decide +kernel
theorem dX2_nextWord_103 : decode cX2_nextWord 103 = .ok (.iadd, 1) := by decide +kernel
theorem dX2_nextWord_104 : decode cX2_nextWord 104 = .ok (.istore_n 2, 1) := by decide +kernel
theorem dX2_nextWord_105 : decode cX2_nextWord 105 = .ok (.iinc 3 1, 3) := by decide +kernel
theorem dX2_nextWord_108 : decode cX2_nextWord 108 = .ok (.goto (-54), 3) := by decide +kernel
theorem dX2_nextWord_111 : decode cX2_nextWord 111 = .ok (.return_, 1) := by decide +kernel
theorem dX2_isWord_0 : decode cX2_isWord 0 = .ok (.iload_n 2, 1) := by decide +kernel
theorem dX2_isWord_1 : decode cX2_isWord 1 = .ok (.iload_n 1, 1) := by decide +kernel
theorem dX2_isWord_2 : decode cX2_isWord 2 = .ok (.isub, 1) := by decide +kernel
theorem dX2_isWord_3 : decode cX2_isWord 3 = .ok (.aload_n 0, 1) := by decide +kernel
theorem dX2_isWord_4 : decode cX2_isWord 4 = .ok (.getfield 32, 3) := by decide +kernel
theorem dX2_isWord_7 : decode cX2_isWord 7 = .ok (.aload_n 0, 1) := by decide +kernel
theorem dX2_isWord_8 : decode cX2_isWord 8 = .ok (.getfield 85, 3) := by decide +kernel
theorem dX2_isWord_11 : decode cX2_isWord 11 = .ok (.isub, 1) := by decide +kernel
theorem dX2_isWord_12 : decode cX2_isWord 12 = .ok (.if_icmp .ne 16, 3) := by decide +kernel
theorem dX2_isWord_15 : decode cX2_isWord 15 = .ok (.iload_n 1, 1) := by decide +kernel
theorem dX2_isWord_16 : decode cX2_isWord 16 = .ok (.ifCond .lt 12, 3) := by decide +kernel
theorem dX2_isWord_19 : decode cX2_isWord 19 = .ok (.iload_n 2, 1) := by decide +kernel
theorem dX2_isWord_20 : decode cX2_isWord 20 = .ok (.ldc 108, 2) := by decide +kernel
theorem dX2_isWord_22 : decode cX2_isWord 22 = .ok (.invokevirtual 110, 3) := by decide +kernel
theorem dX2_isWord_25 : decode cX2_isWord 25 = .ok (.if_icmp .le 5, 3) := by decide +kernel
theorem dX2_isWord_28 : decode cX2_isWord 28 = .ok (.iconst 0, 1) := by decide +kernel
theorem dX2_isWord_29 : decode cX2_isWord 29 = .ok (.ireturn, 1) := by decide +kernel
theorem dX2_isWord_30 : decode cX2_isWord 30 = .ok (.iload_n 1, 1) := by decide +kernel
theorem dX2_isWord_31 : decode cX2_isWord 31 = .ok (.istore_n 3, 1) := by decide +kernel
theorem dX2_isWord_32 : decode cX2_isWord 32 = .ok (.iload_n 3, 1) := by decide +kernel
theorem dX2_isWord_33 : decode cX2_isWord 33 = .ok (.iload_n 2, 1) := by decide +kernel
theorem dX2_isWord_34 : decode cX2_isWord 34 = .ok (.if_icmp .ge 32, 3) := by decide +kernel
theorem dX2_isWord_37 : decode cX2_isWord 37 = .ok (.ldc 108, 2) := by decide +kernel
theorem dX2_isWord_39 : decode cX2_isWord 39 = .ok (.iload_n 3, 1) := by decide +kernel
theorem dX2_isWord_40 : decode cX2_isWord 40 = .ok (.invokevirtual 113, 3) := by decide +kernel
theorem dX2_isWord_43 : decode cX2_isWord 43 = .ok (.aload_n 0, 1) := by decide +kernel
theorem dX2_isWord_44 : decode cX2_isWord 44 = .ok (.aload_n 0, 1) := by decide +kernel
theorem dX2_isWord_45 : decode cX2_isWord 45 = .ok (.getfield 85, 3) := by decide +kernel
theorem dX2_isWord_48 : decode cX2_isWord 48 = .ok (.iload_n 3, 1) := by decide +kernel
theorem dX2_isWord_49 : decode cX2_isWord 49 = .ok (.iadd, 1) := by decide +kernel
theorem dX2_isWord_50 : decode cX2_isWord 50 = .ok (.iload_n 1, 1) := by decide +kernel
theorem dX2_isWord_51 : decode cX2_isWord 51 = .ok (.isub, 1) := by decide +kernel
theorem dX2_isWord_52 : decode cX2_isWord 52 = .ok (.invokevirtual 91, 3) := by decide +kernel
theorem dX2_isWord_55 : decode cX2_isWord 55 = .ok (.if_icmp .eq 5, 3) := by decide +kernel
theorem dX2_isWord_58 : decode cX2_isWord 58 = .ok (.iconst 0, 1) := by decide +kernel
theorem dX2_isWord_59 : decode cX2_isWord 59 = .ok (.ireturn, 1) := by decide +kernel
theorem dX2_isWord_60 : decode cX2_isWord 60 = .ok (.iinc 3 1, 3) := by decide +kernel
theorem dX2_isWord_63 : decode cX2_isWord 63 = .ok (.goto (-31), 3) := by decide +kernel
theorem dX2_isWord_66 : decode cX2_isWord 66 = .ok (.iconst 1, 1) := by decide +kernel
theorem dX2_isWord_67 : decode cX2_isWord 67 = .ok (.ireturn, 1) := by decide +kernel
theorem dX3_init_0 : decode cX3_init 0 = .ok (.aload_n 0, 1) := by decide +kernel
theorem dX3_init_1 : decode cX3_init 1 = .ok (.invokespecial 3, 3) := by decide +kernel
theorem dX3_init_4 : decode cX3_init 4 = .ok (.aload_n 0, 1) := by decide +kernel
theorem dX3_init_5 : decode cX3_init 5 = .ok (.bipush 6, 2) := by decide +kernel
theorem dX3_init_7 : decode cX3_init 7 = .ok (.newarray .int, 2) := by decide +kernel
theorem dX3_init_9 : decode cX3_init 9 = .ok (.putfield 11, 3) := by decide +kernel
theorem dX3_init_12 : decode cX3_init 12 = .ok (.aload_n 0, 1) := by decide +kernel
theorem dX3_init_13 : decode cX3_init 13 = .ok (.sipush 160, 3) := by decide +kernel
theorem dX3_init_16 : decode cX3_init 16 = .ok (.newarray .int, 2) := by decide +kernel
theorem dX3_init_18 : decode cX3_init 18 = .ok (.putfield 17, 3) := by decide +kernel
theorem dX3_init_21 : decode cX3_init 21 = .ok (.aload_n 0, 1) := by decide +kernel
theorem dX3_init_22 : decode cX3_init 22 = .ok (.aload_n 1, 1) := by decide +kernel
theorem dX3_init_23 : decode cX3_init 23 = .ok (.putfield 20, 3) := by decide +kernel
theorem dX3_init_26 : decode cX3_init 26 = .ok (.return_, 1) := by decide +kernel
theorem dX3_name_0 : decode cX3_name 0 = .ok (.aload_n 0, 1) := by decide +kernel
theorem dX3_name_1 : decode cX3_name 1 = .ok (.getfield 11, 3) := by decide +kernel
theorem dX3_name_4 : decode cX3_name 4 = .ok (.iconst 0, 1) := by decide +kernel
theorem dX3_name_5 : decode cX3_name 5 = .ok (.iload_n 1, 1) := by decide +kernel
theorem dX3_name_6 : decode cX3_name 6 = .ok (.iastore, 1) := by decide +kernel
theorem dX3_name_7 : decode cX3_name 7 = .ok (.aload_n 0, 1) := by decide +kernel
theorem dX3_name_8 : decode cX3_name 8 = .ok (.getfield 11, 3) := by decide +kernel
theorem dX3_name_11 : decode cX3_name 11 = .ok (.iconst 1, 1) := by decide +kernel
theorem dX3_name_12 : decode cX3_name 12 = .ok (.iload_n 2, 1) := by decide +kernel
theorem dX3_name_13 : decode cX3_name 13 = .ok (.iastore, 1) := by decide +kernel
theorem dX3_name_14 : decode cX3_name 14 = .ok (.aload_n 0, 1) := by decide +kernel
theorem dX3_name_15 : decode cX3_name 15 = .ok (.getfield 11, 3) := by decide +kernel
theorem dX3_name_18 : decode cX3_name 18 = .ok (.iconst 2, 1) := by decide +kernel
theorem dX3_name_19 : decode cX3_name 19 = .ok (.iload_n 3, 1) := by decide +kernel
theorem dX3_name_20 : decode cX3_name 20 = .ok (.iastore, 1) := by decide +kernel
theorem dX3_name_21 : decode cX3_name 21 = .ok (.aload_n 0, 1) := by decide +kernel
theorem dX3_name_22 : decode cX3_name 22 = .ok (.getfield 11, 3) := by decide +kernel
theorem dX3_name_25 : decode cX3_name 25 = .ok (.iconst 3, 1) := by decide +kernel
theorem dX3_name_26 : decode cX3_name 26 = .ok (.iload 4, 2) := by decide +kernel
theorem dX3_name_28 : decode cX3_name 28 = .ok (.iastore, 1) := by decide +kernel
theorem dX3_name_29 : decode cX3_name 29 = .ok (.aload_n 0, 1) := by decide +kernel
theorem dX3_name_30 : decode cX3_name 30 = .ok (.getfield 11, 3) := by decide +kernel
theorem dX3_name_33 : decode cX3_name 33 = .ok (.iconst 4, 1) := by decide +kernel
theorem dX3_name_34 : decode cX3_name 34 = .ok (.iload 5, 2) := by decide +kernel
theorem dX3_name_36 : decode cX3_name 36 = .ok (.iastore, 1) := by decide +kernel
theorem dX3_name_37 : decode cX3_name 37 = .ok (.aload_n 0, 1) := by decide +kernel
theorem dX3_name_38 : decode cX3_name 38 = .ok (.getfield 11, 3) := by decide +kernel
theorem dX3_name_41 : decode cX3_name 41 = .ok (.iconst 5, 1) := by decide +kernel
theorem dX3_name_42 : decode cX3_name 42 = .ok (.iload 6, 2) := by decide +kernel
theorem dX3_name_44 : decode cX3_name 44 = .ok (.iastore, 1) := by decide +kernel
theorem dX3_name_45 : decode cX3_name 45 = .ok (.return_, 1) := by decide +kernel
theorem dX3_tells_0 : decode cX3_tells 0 = .ok (.iload_n 1, 1) := by decide +kernel
theorem dX3_tells_1 : decode cX3_tells 1 = .ok (.ifCond .ne 7, 3) := by decide +kernel
theorem dX3_tells_4 : decode cX3_tells 4 = .ok (.iconst 0, 1) := by decide +kernel
theorem dX3_tells_5 : decode cX3_tells 5 = .ok (.goto 14, 3) := by decide +kernel
theorem dX3_tells_8 : decode cX3_tells 8 = .ok (.aload_n 0, 1) := by decide +kernel
theorem dX3_tells_9 : decode cX3_tells 9 = .ok (.getfield 20, 3) := by decide +kernel
theorem dX3_tells_12 : decode cX3_tells 12 = .ok (.getfield 24, 3) := by decide +kernel
theorem dX3_tells_15 : decode cX3_tells 15 = .ok (.iload_n 1, 1) := by decide +kernel
theorem dX3_tells_16 : decode cX3_tells 16 = .ok (.iconst 1, 1) := by decide +kernel
theorem dX3_tells_17 : decode cX3_tells 17 = .ok (.isub, 1) := by decide +kernel
theorem dX3_tells_18 : decode cX3_tells 18 = .ok (.iaload, 1) := by decide +kernel
theorem dX3_tells_19 : decode cX3_tells 19 = .ok (.istore_n 3, 1) := by decide +kernel
theorem dX3_tells_20 : decode cX3_tells 20 = .ok (.aload_n 0, 1) := by decide +kernel
theorem dX3_tells_21 : decode cX3_tells 21 = .ok (.getfield 20, 3) := by decide +kernel
theorem dX3_tells_24 : decode cX3_tells 24 = .ok (.getfield 24, 3) := by decide +kernel
theorem dX3_tells_27 : decode cX3_tells 27 = .ok (.iload_n 1, 1) := by decide +kernel
theorem dX3_tells_28 : decode cX3_tells 28 = .ok (.iaload, 1) := by decide +kernel
theorem dX3_tells_29 : decode cX3_tells 29 = .ok (.istore 4, 2) := by decide +kernel
theorem dX3_tells_31 : decode cX3_tells 31 = .ok (.aload_n 0, 1) := by decide +kernel
theorem dX3_tells_32 : decode cX3_tells 32 = .ok (.getfield 20, 3) := by decide +kernel
theorem dX3_tells_35 : decode cX3_tells 35 = .ok (.getfield 27, 3) := by decide +kernel
theorem dX3_tells_38 : decode cX3_tells 38 = .ok (.astore 5, 2) := by decide +kernel
theorem dX3_tells_40 : decode cX3_tells 40 = .ok (.iconst 0, 1) := by decide +kernel
theorem dX3_tells_41 : decode cX3_tells 41 = .ok (.istore 6, 2) := by decide +kernel
theorem dX3_tells_43 : decode cX3_tells 43 = .ok (.iload_n 3, 1) := by decide +kernel
theorem dX3_tells_44 : decode cX3_tells 44 = .ok (.istore 7, 2) := by decide +kernel
theorem dX3_tells_46 : decode cX3_tells 46 = .ok (.iload 7, 2) := by decide +kernel
theorem dX3_tells_48 : decode cX3_tells 48 = .ok (.iload 4, 2) := by decide +kernel
theorem dX3_tells_50 : decode cX3_tells 50 = .ok (.if_icmp .ge 195, 3) := by decide +kernel
theorem dX3_tells_53 : decode cX3_tells 53 = .ok (.iload 7, 2) := by decide +kernel
theorem dX3_tells_55 : decode cX3_tells 55 = .ok (.sipush 160, 3) := by decide +kernel
theorem dX3_tells_58 : decode cX3_tells 58 = .ok (.if_icmp .ge 187, 3) := by decide +kernel
theorem dX3_tells_61 : decode cX3_tells 61 = .ok (.iload 6, 2) := by decide +kernel
theorem dX3_tells_63 : decode cX3_tells 63 = .ok (.sipush 160, 3) := by decide +kernel
theorem dX3_tells_66 : decode cX3_tells 66 = .ok (.if_icmp .ge 179, 3) := by decide +kernel
theorem dX3_tells_69 : decode cX3_tells 69 = .ok (.aload 5, 2) := by decide +kernel
theorem dX3_tells_71 : decode cX3_tells 71 = .ok (.iload 7, 2) := by decide +kernel
theorem dX3_tells_73 : decode cX3_tells 73 = .ok (.iaload, 1) := by decide +kernel
theorem dX3_tells_74 : decode cX3_tells 74 = .ok (.istore 8, 2) := by decide +kernel
theorem dX3_tells_76 : decode cX3_tells 76 = .ok (.iload 8, 2) := by decide +kernel
theorem dX3_tells_78 : decode cX3_tells 78 = .ok (.ifCond .lt 18, 3) := by decide +kernel
theorem dX3_tells_81 : decode cX3_tells 81 = .ok (.aload_n 0, 1) := by decide +kernel
theorem dX3_tells_82 : decode cX3_tells 82 = .ok (.getfield 17, 3) := by decide +kernel
theorem dX3_tells_85 : decode cX3_tells 85 = .ok (.iload 6, 2) := by decide +kernel
theorem dX3_tells_87 : decode cX3_tells 87 = .ok (.iload 8, 2) := by decide +kernel
theorem dX3_tells_89 : decode cX3_tells 89 = .ok (.iastore, 1) := by decide +kernel
theorem dX3_tells_90 : decode cX3_tells 90 = .ok (.iinc 6 1, 3) := by decide +kernel
theorem dX3_tells_93 : decode cX3_tells 93 = .ok (.goto 146, 3) := by decide +kernel
theorem dX3_tells_96 : decode cX3_tells 96 = .ok (.iload 8, 2) := by decide +kernel
theorem dX3_tells_98 : decode cX3_tells 98 = .ok (.bipush (-6), 2) := by decide +kernel
theorem dX3_tells_100 : decode cX3_tells 100 = .ok (.if_icmp .lt 25, 3) := by decide +kernel
theorem dX3_tells_103 : decode cX3_tells 103 = .ok (.aload_n 0, 1) := by decide +kernel
theorem dX3_tells_104 : decode cX3_tells 104 = .ok (.getfield 17, 3) := by decide +kernel
theorem dX3_tells_107 : decode cX3_tells 107 = .ok (.iload 6, 2) := by decide +kernel
theorem dX3_tells_109 : decode cX3_tells 109 = .ok (.aload_n 0, 1) := by decide +kernel
theorem dX3_tells_110 : decode cX3_tells 110 = .ok (.getfield 11, 3) := by decide +kernel
theorem dX3_tells_113 : decode cX3_tells 113 = .ok (.iconst (-1), 1) := by decide +kernel
theorem dX3_tells_114 : decode cX3_tells 114 = .ok (.iload 8, 2) := by decide +kernel
theorem dX3_tells_116 : decode cX3_tells 116 = .ok (.isub, 1) := by decide +kernel
theorem dX3_tells_117 : decode cX3_tells 117 = .ok (.iaload, 1) := by decide +kernel
theorem dX3_tells_118 : decode cX3_tells 118 = .ok (.iastore, 1) := by decide +kernel
theorem dX3_tells_119 : decode cX3_tells 119 = .ok (.iinc 6 1, 3) := by decide +kernel
theorem dX3_tells_122 : decode cX3_tells 122 = .ok (.goto 117, 3) := by decide +kernel
theorem dX3_tells_125 : decode cX3_tells 125 = .ok (.iload 8, 2) := by decide +kernel
theorem dX3_tells_127 : decode cX3_tells 127 = .ok (.bipush (-14), 2) := by decide +kernel
theorem dX3_tells_129 : decode cX3_tells 129 = .ok (.if_icmp .ne 37, 3) := by decide +kernel
theorem dX3_tells_132 : decode cX3_tells 132 = .ok (.iload 6, 2) := by decide +kernel
theorem dX3_tells_134 : decode cX3_tells 134 = .ok (.ifCond .le 32, 3) := by decide +kernel
theorem dX3_tells_137 : decode cX3_tells 137 = .ok (.aload_n 0, 1) := by decide +kernel
theorem dX3_tells_138 : decode cX3_tells 138 = .ok (.getfield 17, 3) := by decide +kernel
theorem dX3_tells_141 : decode cX3_tells 141 = .ok (.iload 6, 2) := by decide +kernel
theorem dX3_tells_143 : decode cX3_tells 143 = .ok (.iconst 1, 1) := by decide +kernel
theorem dX3_tells_144 : decode cX3_tells 144 = .ok (.isub, 1) := by decide +kernel
theorem dX3_tells_145 : decode cX3_tells 145 = .ok (.aload_n 0, 1) := by decide +kernel
theorem dX3_tells_146 : decode cX3_tells 146 = .ok (.getfield 17, 3) := by decide +kernel
theorem dX3_tells_149 : decode cX3_tells 149 = .ok (.iload 6, 2) := by decide +kernel
theorem dX3_tells_151 : decode cX3_tells 151 = .ok (.iconst 1, 1) := by decide +kernel
theorem dX3_tells_152 : decode cX3_tells 152 = .ok (.isub, 1) := by decide +kernel
theorem dX3_tells_153 : decode cX3_tells 153 = .ok (.iaload, 1) := by decide +kernel
theorem dX3_tells_154 : decode cX3_tells 154 = .ok (.ifCond .ne 7, 3) := by decide +kernel
theorem dX3_tells_157 : decode cX3_tells 157 = .ok (.iconst 1, 1) := by decide +kernel
theorem dX3_tells_158 : decode cX3_tells 158 = .ok (.goto 4, 3) := by decide +kernel
theorem dX3_tells_161 : decode cX3_tells 161 = .ok (.iconst 0, 1) := by decide +kernel
theorem dX3_tells_162 : decode cX3_tells 162 = .ok (.iastore, 1) := by decide +kernel
theorem dX3_tells_163 : decode cX3_tells 163 = .ok (.goto 76, 3) := by decide +kernel
theorem dX3_tells_166 : decode cX3_tells 166 = .ok (.iload 8, 2) := by decide +kernel
theorem dX3_tells_168 : decode cX3_tells 168 = .ok (.bipush (-15), 2) := by decide +kernel
theorem dX3_tells_170 : decode cX3_tells 170 = .ok (.if_icmp .ne 30, 3) := by decide +kernel
theorem dX3_tells_173 : decode cX3_tells 173 = .ok (.iload 6, 2) := by decide +kernel
theorem dX3_tells_175 : decode cX3_tells 175 = .ok (.ifCond .le 25, 3) := by decide +kernel
theorem dX3_tells_178 : decode cX3_tells 178 = .ok (.aload_n 0, 1) := by decide +kernel
theorem dX3_tells_179 : decode cX3_tells 179 = .ok (.getfield 17, 3) := by decide +kernel
theorem dX3_tells_182 : decode cX3_tells 182 = .ok (.iload 6, 2) := by decide +kernel
theorem dX3_tells_184 : decode cX3_tells 184 = .ok (.iconst 1, 1) := by decide +kernel
theorem dX3_tells_185 : decode cX3_tells 185 = .ok (.isub, 1) := by decide +kernel
theorem dX3_tells_186 : decode cX3_tells 186 = .ok (.aload_n 0, 1) := by decide +kernel
theorem dX3_tells_187 : decode cX3_tells 187 = .ok (.getfield 17, 3) := by decide +kernel
theorem dX3_tells_190 : decode cX3_tells 190 = .ok (.iload 6, 2) := by decide +kernel
theorem dX3_tells_192 : decode cX3_tells 192 = .ok (.iconst 1, 1) := by decide +kernel
theorem dX3_tells_193 : decode cX3_tells 193 = .ok (.isub, 1) := by decide +kernel
theorem dX3_tells_194 : decode cX3_tells 194 = .ok (.iaload, 1) := by decide +kernel
theorem dX3_tells_195 : decode cX3_tells 195 = .ok (.ineg, 1) := by decide +kernel
theorem dX3_tells_196 : decode cX3_tells 196 = .ok (.iastore, 1) := by decide +kernel
theorem dX3_tells_197 : decode cX3_tells 197 = .ok (.goto 42, 3) := by decide +kernel
theorem dX3_tells_200 : decode cX3_tells 200 = .ok (.iload 6, 2) := by decide +kernel
theorem dX3_tells_202 : decode cX3_tells 202 = .ok (.iconst 1, 1) := by decide +kernel
theorem dX3_tells_203 : decode cX3_tells 203 = .ok (.if_icmp .le 36, 3) := by decide +kernel
theorem dX3_tells_206 : decode cX3_tells 206 = .ok (.iinc 6 (-1), 3) := by decide +kernel
theorem dX3_tells_209 : decode cX3_tells 209 = .ok (.aload_n 0, 1) := by decide +kernel
theorem dX3_tells_210 : decode cX3_tells 210 = .ok (.getfield 17, 3) := by decide +kernel
theorem dX3_tells_213 : decode cX3_tells 213 = .ok (.iload 6, 2) := by decide +kernel
theorem dX3_tells_215 : decode cX3_tells 215 = .ok (.iconst 1, 1) := by decide +kernel
theorem dX3_tells_216 : decode cX3_tells 216 = .ok (.isub, 1) := by decide +kernel
theorem dX3_tells_217 : decode cX3_tells 217 = .ok (.iload 8, 2) := by decide +kernel
theorem dX3_tells_219 : decode cX3_tells 219 = .ok (.aload_n 0, 1) := by decide +kernel
theorem dX3_tells_220 : decode cX3_tells 220 = .ok (.getfield 17, 3) := by decide +kernel
theorem dX3_tells_223 : decode cX3_tells 223 = .ok (.iload 6, 2) := by decide +kernel
theorem dX3_tells_225 : decode cX3_tells 225 = .ok (.iconst 1, 1) := by decide +kernel
theorem dX3_tells_226 : decode cX3_tells 226 = .ok (.isub, 1) := by decide +kernel
theorem dX3_tells_227 : decode cX3_tells 227 = .ok (.iaload, 1) := by decide +kernel
theorem dX3_tells_228 : decode cX3_tells 228 = .ok (.aload_n 0, 1) := by decide +kernel
theorem dX3_tells_229 : decode cX3_tells 229 = .ok (.getfield 17, 3) := by decide +kernel
theorem dX3_tells_232 : decode cX3_tells 232 = .ok (.iload 6, 2) := by decide +kernel
theorem dX3_tells_234 : decode cX3_tells 234 = .ok (.iaload, 1) := by decide +kernel
theorem dX3_tells_235 : decode cX3_tells 235 = .ok (.invokestatic 30, 3) := by decide +kernel
theorem dX3_tells_238 : decode cX3_tells 238 = .ok (.iastore, 1) := by decide +kernel
theorem dX3_tells_239 : decode cX3_tells 239 = .ok (.iinc 7 1, 3) := by decide +kernel
theorem dX3_tells_242 : decode cX3_tells 242 = .ok (.goto (-196), 3) := by decide +kernel
theorem dX3_tells_245 : decode cX3_tells 245 = .ok (.iconst 0, 1) := by decide +kernel
theorem dX3_tells_246 : decode cX3_tells 246 = .ok (.iload_n 2, 1) := by decide +kernel
theorem dX3_tells_247 : decode cX3_tells 247 = .ok (.aload_n 0, 1) := by decide +kernel
theorem dX3_tells_248 : decode cX3_tells 248 = .ok (.getfield 17, 3) := by decide +kernel
theorem dX3_tells_251 : decode cX3_tells 251 = .ok (.iconst 0, 1) := by decide +kernel
theorem dX3_tells_252 : decode cX3_tells 252 = .ok (.iaload, 1) := by decide +kernel
theorem dX3_tells_253 : decode cX3_tells 253 = .ok (.invokestatic 34, 3) := by decide +kernel
theorem dX3_tells_256 : decode cX3_tells 256 = .ok (.invokestatic 40, 3) := by decide +kernel
theorem dX3_tells_259 : decode cX3_tells 259 = .ok (.ireturn, 1) := by decide +kernel
theorem dX3_joined_0 : decode cX3_joined 0 = .ok (.iload_n 0, 1) := by decide +kernel
theorem dX3_joined_1 : decode cX3_joined 1 = .ok (.tableswitch 87 (-12) (-7) #[73, 62, 51, 47, 43, 39], 39) := by decide +kernel
theorem dX3_joined_40 : decode cX3_joined 40 = .ok (.iload_n 1, 1) := by decide +kernel
theorem dX3_joined_41 : decode cX3_joined 41 = .ok (.iload_n 2, 1) := by decide +kernel
theorem dX3_joined_42 : decode cX3_joined 42 = .ok (.iadd, 1) := by decide +kernel
theorem dX3_joined_43 : decode cX3_joined 43 = .ok (.ireturn, 1) := by decide +kernel
theorem dX3_joined_44 : decode cX3_joined 44 = .ok (.iload_n 1, 1) := by decide +kernel
theorem dX3_joined_45 : decode cX3_joined 45 = .ok (.iload_n 2, 1) := by decide +kernel
theorem dX3_joined_46 : decode cX3_joined 46 = .ok (.isub, 1) := by decide +kernel
theorem dX3_joined_47 : decode cX3_joined 47 = .ok (.ireturn, 1) := by decide +kernel
theorem dX3_joined_48 : decode cX3_joined 48 = .ok (.iload_n 1, 1) := by decide +kernel
theorem dX3_joined_49 : decode cX3_joined 49 = .ok (.iload_n 2, 1) := by decide +kernel
theorem dX3_joined_50 : decode cX3_joined 50 = .ok (.imul, 1) := by decide +kernel
theorem dX3_joined_51 : decode cX3_joined 51 = .ok (.ireturn, 1) := by decide +kernel
theorem dX3_joined_52 : decode cX3_joined 52 = .ok (.iload_n 1, 1) := by decide +kernel
theorem dX3_joined_53 : decode cX3_joined 53 = .ok (.iload_n 2, 1) := by decide +kernel
theorem dX3_joined_54 : decode cX3_joined 54 = .ok (.if_icmp .ge 7, 3) := by decide +kernel
theorem dX3_joined_57 : decode cX3_joined 57 = .ok (.iconst 1, 1) := by decide +kernel
theorem dX3_joined_58 : decode cX3_joined 58 = .ok (.goto 4, 3) := by decide +kernel
theorem dX3_joined_61 : decode cX3_joined 61 = .ok (.iconst 0, 1) := by decide +kernel
theorem dX3_joined_62 : decode cX3_joined 62 = .ok (.ireturn, 1) := by decide +kernel
theorem dX3_joined_63 : decode cX3_joined 63 = .ok (.iload_n 1, 1) := by decide +kernel
theorem dX3_joined_64 : decode cX3_joined 64 = .ok (.iload_n 2, 1) := by decide +kernel
theorem dX3_joined_65 : decode cX3_joined 65 = .ok (.if_icmp .ne 7, 3) := by decide +kernel
theorem dX3_joined_68 : decode cX3_joined 68 = .ok (.iconst 1, 1) := by decide +kernel
theorem dX3_joined_69 : decode cX3_joined 69 = .ok (.goto 4, 3) := by decide +kernel
theorem dX3_joined_72 : decode cX3_joined 72 = .ok (.iconst 0, 1) := by decide +kernel
theorem dX3_joined_73 : decode cX3_joined 73 = .ok (.ireturn, 1) := by decide +kernel
theorem dX3_joined_74 : decode cX3_joined 74 = .ok (.iload_n 1, 1) := by decide +kernel
theorem dX3_joined_75 : decode cX3_joined 75 = .ok (.ifCond .eq 11, 3) := by decide +kernel
theorem dX3_joined_78 : decode cX3_joined 78 = .ok (.iload_n 2, 1) := by decide +kernel
theorem dX3_joined_79 : decode cX3_joined 79 = .ok (.ifCond .eq 7, 3) := by decide +kernel
theorem dX3_joined_82 : decode cX3_joined 82 = .ok (.iconst 1, 1) := by decide +kernel
theorem dX3_joined_83 : decode cX3_joined 83 = .ok (.goto 4, 3) := by decide +kernel
theorem dX3_joined_86 : decode cX3_joined 86 = .ok (.iconst 0, 1) := by decide +kernel
theorem dX3_joined_87 : decode cX3_joined 87 = .ok (.ireturn, 1) := by decide +kernel
theorem dX3_joined_88 : decode cX3_joined 88 = .ok (.iload_n 1, 1) := by decide +kernel
theorem dX3_joined_89 : decode cX3_joined 89 = .ok (.ifCond .ne 7, 3) := by decide +kernel
theorem dX3_joined_92 : decode cX3_joined 92 = .ok (.iload_n 2, 1) := by decide +kernel
theorem dX3_joined_93 : decode cX3_joined 93 = .ok (.ifCond .eq 7, 3) := by decide +kernel
theorem dX3_joined_96 : decode cX3_joined 96 = .ok (.iconst 1, 1) := by decide +kernel
theorem dX3_joined_97 : decode cX3_joined 97 = .ok (.goto 4, 3) := by decide +kernel
theorem dX3_joined_100 : decode cX3_joined 100 = .ok (.iconst 0, 1) := by decide +kernel
theorem dX3_joined_101 : decode cX3_joined 101 = .ok (.ireturn, 1) := by decide +kernel
theorem dX4_init_0 : decode cX4_init 0 = .ok (.aload_n 0, 1) := by decide +kernel
theorem dX4_init_1 : decode cX4_init 1 = .ok (.invokespecial 3, 3) := by decide +kernel
theorem dX4_init_4 : decode cX4_init 4 = .ok (.aload_n 0, 1) := by decide +kernel
theorem dX4_init_5 : decode cX4_init 5 = .ok (.iconst (-1), 1) := by decide +kernel
theorem dX4_init_6 : decode cX4_init 6 = .ok (.putfield 9, 3) := by decide +kernel
theorem dX4_init_9 : decode cX4_init 9 = .ok (.aload_n 0, 1) := by decide +kernel
theorem dX4_init_10 : decode cX4_init 10 = .ok (.bipush 40, 2) := by decide +kernel
theorem dX4_init_12 : decode cX4_init 12 = .ok (.newarray .int, 2) := by decide +kernel
theorem dX4_init_14 : decode cX4_init 14 = .ok (.putfield 15, 3) := by decide +kernel
theorem dX4_init_17 : decode cX4_init 17 = .ok (.return_, 1) := by decide +kernel
theorem dX4_become_0 : decode cX4_become 0 = .ok (.aload_n 0, 1) := by decide +kernel
theorem dX4_become_1 : decode cX4_become 1 = .ok (.iload_n 1, 1) := by decide +kernel
theorem dX4_become_2 : decode cX4_become 2 = .ok (.putfield 9, 3) := by decide +kernel
theorem dX4_become_5 : decode cX4_become 5 = .ok (.aload_n 0, 1) := by decide +kernel
theorem dX4_become_6 : decode cX4_become 6 = .ok (.iload_n 2, 1) := by decide +kernel
theorem dX4_become_7 : decode cX4_become 7 = .ok (.putfield 19, 3) := by decide +kernel
theorem dX4_become_10 : decode cX4_become 10 = .ok (.iconst 0, 1) := by decide +kernel
theorem dX4_become_11 : decode cX4_become 11 = .ok (.istore_n 3, 1) := by decide +kernel
theorem dX4_become_12 : decode cX4_become 12 = .ok (.iload_n 3, 1) := by decide +kernel
theorem dX4_become_13 : decode cX4_become 13 = .ok (.bipush 40, 2) := by decide +kernel
theorem dX4_become_15 : decode cX4_become 15 = .ok (.if_icmp .ge 16, 3) := by decide +kernel
theorem dX4_become_18 : decode cX4_become 18 = .ok (.aload_n 0, 1) := by decide +kernel
theorem dX4_become_19 : decode cX4_become 19 = .ok (.getfield 15, 3) := by decide +kernel
theorem dX4_become_22 : decode cX4_become 22 = .ok (.iload_n 3, 1) := by decide +kernel
theorem dX4_become_23 : decode cX4_become 23 = .ok (.iconst 0, 1) := by decide +kernel
theorem dX4_become_24 : decode cX4_become 24 = .ok (.iastore, 1) := by decide +kernel
theorem dX4_become_25 : decode cX4_become 25 = .ok (.iinc 3 1, 3) := by decide +kernel
theorem dX4_become_28 : decode cX4_become 28 = .ok (.goto (-16), 3) := by decide +kernel
theorem dX4_become_31 : decode cX4_become 31 = .ok (.return_, 1) := by decide +kernel
theorem dX4_take_0 : decode cX4_take 0 = .ok (.iload_n 1, 1) := by decide +kernel
theorem dX4_take_1 : decode cX4_take 1 = .ok (.iconst 0, 1) := by decide +kernel
theorem dX4_take_2 : decode cX4_take 2 = .ok (.aload_n 0, 1) := by decide +kernel
theorem dX4_take_3 : decode cX4_take 3 = .ok (.getfield 19, 3) := by decide +kernel
theorem dX4_take_6 : decode cX4_take 6 = .ok (.iconst 1, 1) := by decide +kernel
theorem dX4_take_7 : decode cX4_take 7 = .ok (.isub, 1) := by decide +kernel
theorem dX4_take_8 : decode cX4_take 8 = .ok (.invokestatic 22, 3) := by decide +kernel
theorem dX4_take_11 : decode cX4_take 11 = .ok (.ifCond .eq 9, 3) := by decide +kernel
theorem dX4_take_14 : decode cX4_take 14 = .ok (.iload_n 1, 1) := by decide +kernel
theorem dX4_take_15 : decode cX4_take 15 = .ok (.bipush 40, 2) := by decide +kernel
theorem dX4_take_17 : decode cX4_take 17 = .ok (.if_icmp .lt 5, 3) := by decide +kernel
theorem dX4_take_20 : decode cX4_take 20 = .ok (.iconst 0, 1) := by decide +kernel
theorem dX4_take_21 : decode cX4_take 21 = .ok (.ireturn, 1) := by decide +kernel
theorem dX4_take_22 : decode cX4_take 22 = .ok (.aload_n 0, 1) := by decide +kernel
theorem dX4_take_23 : decode cX4_take 23 = .ok (.getfield 15, 3) := by decide +kernel
theorem dX4_take_26 : decode cX4_take 26 = .ok (.iload_n 1, 1) := by decide +kernel
theorem dX4_take_27 : decode cX4_take 27 = .ok (.aload_n 0, 1) := by decide +kernel
theorem dX4_take_28 : decode cX4_take 28 = .ok (.getfield 9, 3) := by decide +kernel
theorem dX4_take_31 : decode cX4_take 31 = .ok (.ifCond .ne 8, 3) := by decide +kernel
theorem dX4_take_34 : decode cX4_take 34 = .ok (.iload_n 2, 1) := by decide +kernel
theorem dX4_take_35 : decode cX4_take 35 = .ok (.i2b, 1) := by decide +kernel
theorem dX4_take_36 : decode cX4_take 36 = .ok (.goto 17, 3) := by decide +kernel
theorem dX4_take_39 : decode cX4_take 39 = .ok (.aload_n 0, 1) := by decide +kernel
theorem dX4_take_40 : decode cX4_take 40 = .ok (.getfield 9, 3) := by decide +kernel
theorem dX4_take_43 : decode cX4_take 43 = .ok (.iconst 1, 1) := by decide +kernel
theorem dX4_take_44 : decode cX4_take 44 = .ok (.if_icmp .ne 8, 3) := by decide +kernel
theorem dX4_take_47 : decode cX4_take 47 = .ok (.iload_n 2, 1) := by decide +kernel
theorem dX4_take_48 : decode cX4_take 48 = .ok (.i2s, 1) := by decide +kernel
theorem dX4_take_49 : decode cX4_take 49 = .ok (.goto 4, 3) := by decide +kernel
theorem dX4_take_52 : decode cX4_take 52 = .ok (.iload_n 2, 1) := by decide +kernel
theorem dX4_take_53 : decode cX4_take 53 = .ok (.iastore, 1) := by decide +kernel
theorem dX4_take_54 : decode cX4_take 54 = .ok (.iconst 1, 1) := by decide +kernel
theorem dX4_take_55 : decode cX4_take 55 = .ok (.ireturn, 1) := by decide +kernel
theorem dX4_hasAll_0 : decode cX4_hasAll 0 = .ok (.iload_n 1, 1) := by decide +kernel
theorem dX4_hasAll_1 : decode cX4_hasAll 1 = .ok (.iconst 0, 1) := by decide +kernel
theorem dX4_hasAll_2 : decode cX4_hasAll 2 = .ok (.aload_n 0, 1) := by decide +kernel
theorem dX4_hasAll_3 : decode cX4_hasAll 3 = .ok (.getfield 19, 3) := by decide +kernel
theorem dX4_hasAll_6 : decode cX4_hasAll 6 = .ok (.invokestatic 22, 3) := by decide +kernel
theorem dX4_hasAll_9 : decode cX4_hasAll 9 = .ok (.ifCond .eq 21, 3) := by decide +kernel
theorem dX4_hasAll_12 : decode cX4_hasAll 12 = .ok (.iload_n 2, 1) := by decide +kernel
theorem dX4_hasAll_13 : decode cX4_hasAll 13 = .ok (.iconst 0, 1) := by decide +kernel
theorem dX4_hasAll_14 : decode cX4_hasAll 14 = .ok (.aload_n 0, 1) := by decide +kernel
theorem dX4_hasAll_15 : decode cX4_hasAll 15 = .ok (.getfield 19, 3) := by decide +kernel
theorem dX4_hasAll_18 : decode cX4_hasAll 18 = .ok (.iload_n 1, 1) := by decide +kernel
theorem dX4_hasAll_19 : decode cX4_hasAll 19 = .ok (.isub, 1) := by decide +kernel
theorem dX4_hasAll_20 : decode cX4_hasAll 20 = .ok (.invokestatic 22, 3) := by decide +kernel
theorem dX4_hasAll_23 : decode cX4_hasAll 23 = .ok (.ifCond .eq 7, 3) := by decide +kernel
theorem dX4_hasAll_26 : decode cX4_hasAll 26 = .ok (.iconst 1, 1) := by decide +kernel
theorem dX4_hasAll_27 : decode cX4_hasAll 27 = .ok (.goto 4, 3) := by decide +kernel
theorem dX4_hasAll_30 : decode cX4_hasAll 30 = .ok (.iconst 0, 1) := by decide +kernel
theorem dX4_hasAll_31 : decode cX4_hasAll 31 = .ok (.ireturn, 1) := by decide +kernel
theorem dX5_init_0 : decode cX5_init 0 = .ok (.aload_n 0, 1) := by decide +kernel
theorem dX5_init_1 : decode cX5_init 1 = .ok (.invokespecial 3, 3) := by decide +kernel
theorem dX5_init_4 : decode cX5_init 4 = .ok (.aload_n 0, 1) := by decide +kernel
theorem dX5_init_5 : decode cX5_init 5 = .ok (.bipush 24, 2) := by decide +kernel
theorem dX5_init_7 : decode cX5_init 7 = .ok (.newarray .int, 2) := by decide +kernel
theorem dX5_init_9 : decode cX5_init 9 = .ok (.putfield 9, 3) := by decide +kernel
theorem dX5_init_12 : decode cX5_init 12 = .ok (.aload_n 0, 1) := by decide +kernel
theorem dX5_init_13 : decode cX5_init 13 = .ok (.bipush 6, 2) := by decide +kernel
theorem dX5_init_15 : decode cX5_init 15 = .ok (.newarray .int, 2) := by decide +kernel
theorem dX5_init_17 : decode cX5_init 17 = .ok (.putfield 15, 3) := by decide +kernel
theorem dX5_init_20 : decode cX5_init 20 = .ok (.aload_n 0, 1) := by decide +kernel
theorem dX5_init_21 : decode cX5_init 21 = .ok (.sipush 192, 3) := by decide +kernel
theorem dX5_init_24 : decode cX5_init 24 = .ok (.newarray .int, 2) := by decide +kernel
theorem dX5_init_26 : decode cX5_init 26 = .ok (.putfield 18, 3) := by decide +kernel
theorem dX5_init_29 : decode cX5_init 29 = .ok (.aload_n 0, 1) := by decide +kernel
theorem dX5_init_30 : decode cX5_init 30 = .ok (.aload_n 1, 1) := by decide +kernel
theorem dX5_init_31 : decode cX5_init 31 = .ok (.putfield 21, 3) := by decide +kernel
theorem dX5_init_34 : decode cX5_init 34 = .ok (.aload_n 0, 1) := by decide +kernel
theorem dX5_init_35 : decode cX5_init 35 = .ok (.aload_n 2, 1) := by decide +kernel
theorem dX5_init_36 : decode cX5_init 36 = .ok (.putfield 25, 3) := by decide +kernel
theorem dX5_init_39 : decode cX5_init 39 = .ok (.return_, 1) := by decide +kernel
theorem dX5_begin_0 : decode cX5_begin 0 = .ok (.aload_n 0, 1) := by decide +kernel
theorem dX5_begin_1 : decode cX5_begin 1 = .ok (.getfield 21, 3) := by decide +kernel
theorem dX5_begin_4 : decode cX5_begin 4 = .ok (.getfield 29, 3) := by decide +kernel
theorem dX5_begin_7 : decode cX5_begin 7 = .ok (.iconst 0, 1) := by decide +kernel
theorem dX5_begin_8 : decode cX5_begin 8 = .ok (.aload_n 0, 1) := by decide +kernel
theorem dX5_begin_9 : decode cX5_begin 9 = .ok (.getfield 9, 3) := by decide +kernel
theorem dX5_begin_12 : decode cX5_begin 12 = .ok (.iconst 0, 1) := by decide +kernel
theorem dX5_begin_13 : decode cX5_begin 13 = .ok (.bipush 24, 2) := by decide +kernel
theorem dX5_begin_15 : decode cX5_begin 15 = .ok (.invokestatic 32, 3) := by decide +kernel
theorem dX5_begin_18 : decode cX5_begin 18 = .ok (.iconst 0, 1) := by decide +kernel
theorem dX5_begin_19 : decode cX5_begin 19 = .ok (.istore_n 1, 1) := by decide +kernel
theorem dX5_begin_20 : decode cX5_begin 20 = .ok (.iload_n 1, 1) := by decide +kernel
theorem dX5_begin_21 : decode cX5_begin 21 = .ok (.bipush 6, 2) := by decide +kernel
theorem dX5_begin_23 : decode cX5_begin 23 = .ok (.if_icmp .ge 31, 3) := by decide +kernel
theorem dX5_begin_26 : decode cX5_begin 26 = .ok (.aload_n 0, 1) := by decide +kernel
theorem dX5_begin_27 : decode cX5_begin 27 = .ok (.getfield 15, 3) := by decide +kernel
theorem dX5_begin_30 : decode cX5_begin 30 = .ok (.iload_n 1, 1) := by decide +kernel
theorem dX5_begin_31 : decode cX5_begin 31 = .ok (.iload_n 1, 1) := by decide +kernel
theorem dX5_begin_32 : decode cX5_begin 32 = .ok (.aload_n 0, 1) := by decide +kernel
theorem dX5_begin_33 : decode cX5_begin 33 = .ok (.getfield 21, 3) := by decide +kernel
theorem dX5_begin_36 : decode cX5_begin 36 = .ok (.getfield 38, 3) := by decide +kernel
theorem dX5_begin_39 : decode cX5_begin 39 = .ok (.if_icmp .ge 7, 3) := by decide +kernel
theorem dX5_begin_42 : decode cX5_begin 42 = .ok (.iconst 1, 1) := by decide +kernel
theorem dX5_begin_43 : decode cX5_begin 43 = .ok (.goto 4, 3) := by decide +kernel
theorem dX5_begin_46 : decode cX5_begin 46 = .ok (.iconst 0, 1) := by decide +kernel
theorem dX5_begin_47 : decode cX5_begin 47 = .ok (.iastore, 1) := by decide +kernel
theorem dX5_begin_48 : decode cX5_begin 48 = .ok (.iinc 1 1, 3) := by decide +kernel
theorem dX5_begin_51 : decode cX5_begin 51 = .ok (.goto (-31), 3) := by decide +kernel
theorem dX5_begin_54 : decode cX5_begin 54 = .ok (.aload_n 0, 1) := by decide +kernel
theorem dX5_begin_55 : decode cX5_begin 55 = .ok (.iconst (-1), 1) := by decide +kernel
theorem dX5_begin_56 : decode cX5_begin 56 = .ok (.putfield 42, 3) := by decide +kernel
theorem dX5_begin_59 : decode cX5_begin 59 = .ok (.aload_n 0, 1) := by decide +kernel
theorem dX5_begin_60 : decode cX5_begin 60 = .ok (.iconst (-1), 1) := by decide +kernel
theorem dX5_begin_61 : decode cX5_begin 61 = .ok (.putfield 45, 3) := by decide +kernel
theorem dX5_begin_64 : decode cX5_begin 64 = .ok (.return_, 1) := by decide +kernel
theorem dX5_repeat_0 : decode cX5_repeat 0 = .ok (.iload_n 1, 1) := by decide +kernel
theorem dX5_repeat_1 : decode cX5_repeat 1 = .ok (.iconst 0, 1) := by decide +kernel
theorem dX5_repeat_2 : decode cX5_repeat 2 = .ok (.iconst 5, 1) := by decide +kernel
theorem dX5_repeat_3 : decode cX5_repeat 3 = .ok (.invokestatic 48, 3) := by decide +kernel
theorem dX5_repeat_6 : decode cX5_repeat 6 = .ok (.ifCond .eq 10, 3) := by decide +kernel
theorem dX5_repeat_9 : decode cX5_repeat 9 = .ok (.aload_n 0, 1) := by decide +kernel
theorem dX5_repeat_10 : decode cX5_repeat 10 = .ok (.getfield 15, 3) := by decide +kernel
theorem dX5_repeat_13 : decode cX5_repeat 13 = .ok (.iload_n 1, 1) := by decide +kernel
theorem dX5_repeat_14 : decode cX5_repeat 14 = .ok (.iload_n 2, 1) := by decide +kernel
theorem dX5_repeat_15 : decode cX5_repeat 15 = .ok (.iastore, 1) := by decide +kernel
theorem dX5_repeat_16 : decode cX5_repeat 16 = .ok (.return_, 1) := by decide +kernel
theorem dX5_keep_0 : decode cX5_keep 0 = .ok (.iconst 0, 1) := by decide +kernel
theorem dX5_keep_1 : decode cX5_keep 1 = .ok (.istore_n 2, 1) := by decide +kernel
theorem dX5_keep_2 : decode cX5_keep 2 = .ok (.iload_n 2, 1) := by decide +kernel
theorem dX5_keep_3 : decode cX5_keep 3 = .ok (.bipush 6, 2) := by decide +kernel
theorem dX5_keep_5 : decode cX5_keep 5 = .ok (.if_icmp .ge 24, 3) := by decide +kernel
theorem dX5_keep_8 : decode cX5_keep 8 = .ok (.iload_n 1, 1) := by decide +kernel
theorem dX5_keep_9 : decode cX5_keep 9 = .ok (.iload_n 2, 1) := by decide +kernel
theorem dX5_keep_10 : decode cX5_keep 10 = .ok (.ishr, 1) := by decide +kernel
theorem dX5_keep_11 : decode cX5_keep 11 = .ok (.iconst 1, 1) := by decide +kernel
theorem dX5_keep_12 : decode cX5_keep 12 = .ok (.iand, 1) := by decide +kernel
theorem dX5_keep_13 : decode cX5_keep 13 = .ok (.ifCond .ne 10, 3) := by decide +kernel
theorem dX5_keep_16 : decode cX5_keep 16 = .ok (.aload_n 0, 1) := by decide +kernel
theorem dX5_keep_17 : decode cX5_keep 17 = .ok (.getfield 15, 3) := by decide +kernel
theorem dX5_keep_20 : decode cX5_keep 20 = .ok (.iload_n 2, 1) := by decide +kernel
theorem dX5_keep_21 : decode cX5_keep 21 = .ok (.iconst 0, 1) := by decide +kernel
theorem dX5_keep_22 : decode cX5_keep 22 = .ok (.iastore, 1) := by decide +kernel
theorem dX5_keep_23 : decode cX5_keep 23 = .ok (.iinc 2 1, 3) := by decide +kernel
theorem dX5_keep_26 : decode cX5_keep 26 = .ok (.goto (-24), 3) := by decide +kernel
theorem dX5_keep_29 : decode cX5_keep 29 = .ok (.return_, 1) := by decide +kernel
theorem dX5_steer_0 : decode cX5_steer 0 = .ok (.aload_n 0, 1) := by decide +kernel
theorem dX5_steer_1 : decode cX5_steer 1 = .ok (.iload_n 1, 1) := by decide +kernel
theorem dX5_steer_2 : decode cX5_steer 2 = .ok (.putfield 42, 3) := by decide +kernel
theorem dX5_steer_5 : decode cX5_steer 5 = .ok (.aload_n 0, 1) := by decide +kernel
theorem dX5_steer_6 : decode cX5_steer 6 = .ok (.iload_n 2, 1) := by decide +kernel
theorem dX5_steer_7 : decode cX5_steer 7 = .ok (.putfield 45, 3) := by decide +kernel
theorem dX5_steer_10 : decode cX5_steer 10 = .ok (.return_, 1) := by decide +kernel
theorem dX5_draw_0 : decode cX5_draw 0 = .ok (.iload_n 1, 1) := by decide +kernel
theorem dX5_draw_1 : decode cX5_draw 1 = .ok (.istore_n 2, 1) := by decide +kernel
theorem dX5_draw_2 : decode cX5_draw 2 = .ok (.iconst 0, 1) := by decide +kernel
theorem dX5_draw_3 : decode cX5_draw 3 = .ok (.istore_n 3, 1) := by decide +kernel
theorem dX5_draw_4 : decode cX5_draw 4 = .ok (.iload_n 3, 1) := by decide +kernel
theorem dX5_draw_5 : decode cX5_draw 5 = .ok (.bipush 24, 2) := by decide +kernel
theorem dX5_draw_7 : decode cX5_draw 7 = .ok (.if_icmp .ge 31, 3) := by decide +kernel
theorem dX5_draw_10 : decode cX5_draw 10 = .ok (.iload_n 2, 1) := by decide +kernel
theorem dX5_draw_11 : decode cX5_draw 11 = .ok (.ldc 52, 2) := by decide +kernel
theorem dX5_draw_13 : decode cX5_draw 13 = .ok (.imul, 1) := by decide +kernel
theorem dX5_draw_14 : decode cX5_draw 14 = .ok (.sipush 12345, 3) := by decide +kernel
theorem dX5_draw_17 : decode cX5_draw 17 = .ok (.iadd, 1) := by decide +kernel
theorem dX5_draw_18 : decode cX5_draw 18 = .ok (.istore_n 2, 1) := by decide +kernel
theorem dX5_draw_19 : decode cX5_draw 19 = .ok (.aload_n 0, 1) := by decide +kernel
theorem dX5_draw_20 : decode cX5_draw 20 = .ok (.getfield 9, 3) := by decide +kernel
theorem dX5_draw_23 : decode cX5_draw 23 = .ok (.iload_n 3, 1) := by decide +kernel
theorem dX5_draw_24 : decode cX5_draw 24 = .ok (.iload_n 2, 1) := by decide +kernel
theorem dX5_draw_25 : decode cX5_draw 25 = .ok (.bipush 9, 2) := by decide +kernel
theorem dX5_draw_27 : decode cX5_draw 27 = .ok (.iushr, 1) := by decide +kernel
theorem dX5_draw_28 : decode cX5_draw 28 = .ok (.bipush 10, 2) := by decide +kernel
theorem dX5_draw_30 : decode cX5_draw 30 = .ok (.irem, 1) := by decide +kernel
theorem dX5_draw_31 : decode cX5_draw 31 = .ok (.iastore, 1) := by decide +kernel
theorem dX5_draw_32 : decode cX5_draw 32 = .ok (.iinc 3 1, 3) := by decide +kernel
theorem dX5_draw_35 : decode cX5_draw 35 = .ok (.goto (-31), 3) := by decide +kernel
theorem dX5_draw_38 : decode cX5_draw 38 = .ok (.return_, 1) := by decide +kernel
theorem dX5_lay_0 : decode cX5_lay 0 = .ok (.iconst 0, 1) := by decide +kernel
theorem dX5_lay_1 : decode cX5_lay 1 = .ok (.istore_n 1, 1) := by decide +kernel
theorem dX5_lay_2 : decode cX5_lay 2 = .ok (.iload_n 1, 1) := by decide +kernel
theorem dX5_lay_3 : decode cX5_lay 3 = .ok (.sipush 192, 3) := by decide +kernel
theorem dX5_lay_6 : decode cX5_lay 6 = .ok (.if_icmp .ge 16, 3) := by decide +kernel
theorem dX5_lay_9 : decode cX5_lay 9 = .ok (.aload_n 0, 1) := by decide +kernel
theorem dX5_lay_10 : decode cX5_lay 10 = .ok (.getfield 18, 3) := by decide +kernel
theorem dX5_lay_13 : decode cX5_lay 13 = .ok (.iload_n 1, 1) := by decide +kernel
theorem dX5_lay_14 : decode cX5_lay 14 = .ok (.iconst 0, 1) := by decide +kernel
theorem dX5_lay_15 : decode cX5_lay 15 = .ok (.iastore, 1) := by decide +kernel
theorem dX5_lay_16 : decode cX5_lay 16 = .ok (.iinc 1 1, 3) := by decide +kernel
theorem dX5_lay_19 : decode cX5_lay 19 = .ok (.goto (-17), 3) := by decide +kernel
theorem dX5_lay_22 : decode cX5_lay 22 = .ok (.iconst 0, 1) := by decide +kernel
theorem dX5_lay_23 : decode cX5_lay 23 = .ok (.istore_n 1, 1) := by decide +kernel
theorem dX5_lay_24 : decode cX5_lay 24 = .ok (.iload_n 1, 1) := by decide +kernel
theorem dX5_lay_25 : decode cX5_lay 25 = .ok (.bipush 6, 2) := by decide +kernel
theorem dX5_lay_27 : decode cX5_lay 27 = .ok (.if_icmp .ge 89, 3) := by decide +kernel
theorem dX5_lay_30 : decode cX5_lay 30 = .ok (.iconst 0, 1) := by decide +kernel
theorem dX5_lay_31 : decode cX5_lay 31 = .ok (.istore_n 2, 1) := by decide +kernel
theorem dX5_lay_32 : decode cX5_lay 32 = .ok (.iload_n 2, 1) := by decide +kernel
theorem dX5_lay_33 : decode cX5_lay 33 = .ok (.bipush 24, 2) := by decide +kernel
theorem dX5_lay_35 : decode cX5_lay 35 = .ok (.if_icmp .ge 75, 3) := by decide +kernel
theorem dX5_lay_38 : decode cX5_lay 38 = .ok (.aload_n 0, 1) := by decide +kernel
theorem dX5_lay_39 : decode cX5_lay 39 = .ok (.getfield 15, 3) := by decide +kernel
theorem dX5_lay_42 : decode cX5_lay 42 = .ok (.iload_n 1, 1) := by decide +kernel
theorem dX5_lay_43 : decode cX5_lay 43 = .ok (.iaload, 1) := by decide +kernel
theorem dX5_lay_44 : decode cX5_lay 44 = .ok (.ifCond .le 66, 3) := by decide +kernel
theorem dX5_lay_47 : decode cX5_lay 47 = .ok (.iload_n 1, 1) := by decide +kernel
theorem dX5_lay_48 : decode cX5_lay 48 = .ok (.aload_n 0, 1) := by decide +kernel
theorem dX5_lay_49 : decode cX5_lay 49 = .ok (.getfield 42, 3) := by decide +kernel
theorem dX5_lay_52 : decode cX5_lay 52 = .ok (.if_icmp .ne 10, 3) := by decide +kernel
theorem dX5_lay_55 : decode cX5_lay 55 = .ok (.aload_n 0, 1) := by decide +kernel
theorem dX5_lay_56 : decode cX5_lay 56 = .ok (.getfield 45, 3) := by decide +kernel
theorem dX5_lay_59 : decode cX5_lay 59 = .ok (.goto 9, 3) := by decide +kernel
theorem dX5_lay_62 : decode cX5_lay 62 = .ok (.aload_n 0, 1) := by decide +kernel
theorem dX5_lay_63 : decode cX5_lay 63 = .ok (.iload_n 1, 1) := by decide +kernel
theorem dX5_lay_64 : decode cX5_lay 64 = .ok (.iload_n 2, 1) := by decide +kernel
theorem dX5_lay_65 : decode cX5_lay 65 = .ok (.invokevirtual 53, 3) := by decide +kernel
theorem dX5_lay_68 : decode cX5_lay 68 = .ok (.istore_n 3, 1) := by decide +kernel
theorem dX5_lay_69 : decode cX5_lay 69 = .ok (.iload_n 3, 1) := by decide +kernel
theorem dX5_lay_70 : decode cX5_lay 70 = .ok (.invokestatic 57, 3) := by decide +kernel
theorem dX5_lay_73 : decode cX5_lay 73 = .ok (.ifCond .eq 31, 3) := by decide +kernel
theorem dX5_lay_76 : decode cX5_lay 76 = .ok (.aload_n 0, 1) := by decide +kernel
theorem dX5_lay_77 : decode cX5_lay 77 = .ok (.getfield 18, 3) := by decide +kernel
theorem dX5_lay_80 : decode cX5_lay 80 = .ok (.iload_n 2, 1) := by decide +kernel
theorem dX5_lay_81 : decode cX5_lay 81 = .ok (.bipush 8, 2) := by decide +kernel
theorem dX5_lay_83 : decode cX5_lay 83 = .ok (.imul, 1) := by decide +kernel
theorem dX5_lay_84 : decode cX5_lay 84 = .ok (.iload_n 3, 1) := by decide +kernel
theorem dX5_lay_85 : decode cX5_lay 85 = .ok (.iadd, 1) := by decide +kernel
theorem dX5_lay_86 : decode cX5_lay 86 = .ok (.dup2, 1) := by decide +kernel
theorem dX5_lay_87 : decode cX5_lay 87 = .ok (.iaload, 1) := by decide +kernel
theorem dX5_lay_88 : decode cX5_lay 88 = .ok (.aload_n 0, 1) := by decide +kernel
theorem dX5_lay_89 : decode cX5_lay 89 = .ok (.getfield 15, 3) := by decide +kernel
theorem dX5_lay_92 : decode cX5_lay 92 = .ok (.iload_n 1, 1) := by decide +kernel
theorem dX5_lay_93 : decode cX5_lay 93 = .ok (.iaload, 1) := by decide +kernel
theorem dX5_lay_94 : decode cX5_lay 94 = .ok (.aload_n 0, 1) := by decide +kernel
theorem dX5_lay_95 : decode cX5_lay 95 = .ok (.iload_n 1, 1) := by decide +kernel
theorem dX5_lay_96 : decode cX5_lay 96 = .ok (.iload_n 2, 1) := by decide +kernel
theorem dX5_lay_97 : decode cX5_lay 97 = .ok (.iload_n 3, 1) := by decide +kernel
theorem dX5_lay_98 : decode cX5_lay 98 = .ok (.invokevirtual 61, 3) := by decide +kernel
theorem dX5_lay_101 : decode cX5_lay 101 = .ok (.imul, 1) := by decide +kernel
theorem dX5_lay_102 : decode cX5_lay 102 = .ok (.iadd, 1) := by decide +kernel
theorem dX5_lay_103 : decode cX5_lay 103 = .ok (.iastore, 1) := by decide +kernel
theorem dX5_lay_104 : decode cX5_lay 104 = .ok (.iinc 2 1, 3) := by decide +kernel
theorem dX5_lay_107 : decode cX5_lay 107 = .ok (.goto (-75), 3) := by decide +kernel
theorem dX5_lay_110 : decode cX5_lay 110 = .ok (.iinc 1 1, 3) := by decide +kernel
theorem dX5_lay_113 : decode cX5_lay 113 = .ok (.goto (-89), 3) := by decide +kernel
theorem dX5_lay_116 : decode cX5_lay 116 = .ok (.return_, 1) := by decide +kernel
theorem dX5_where_0 : decode cX5_where 0 = .ok (.aload_n 0, 1) := by decide +kernel
theorem dX5_where_1 : decode cX5_where 1 = .ok (.getfield 21, 3) := by decide +kernel
theorem dX5_where_4 : decode cX5_where 4 = .ok (.getfield 65, 3) := by decide +kernel
theorem dX5_where_7 : decode cX5_where 7 = .ok (.iload_n 1, 1) := by decide +kernel
theorem dX5_where_8 : decode cX5_where 8 = .ok (.iaload, 1) := by decide +kernel
theorem dX5_where_9 : decode cX5_where 9 = .ok (.istore_n 3, 1) := by decide +kernel
theorem dX5_where_10 : decode cX5_where 10 = .ok (.aload_n 0, 1) := by decide +kernel
theorem dX5_where_11 : decode cX5_where 11 = .ok (.getfield 21, 3) := by decide +kernel
theorem dX5_where_14 : decode cX5_where 14 = .ok (.getfield 68, 3) := by decide +kernel
theorem dX5_where_17 : decode cX5_where 17 = .ok (.iload_n 1, 1) := by decide +kernel
theorem dX5_where_18 : decode cX5_where 18 = .ok (.iaload, 1) := by decide +kernel
theorem dX5_where_19 : decode cX5_where 19 = .ok (.lookupswitch 67 #[(2, 25), (4, 62)], 25) := by decide +kernel
theorem dX5_where_44 : decode cX5_where 44 = .ok (.aload_n 0, 1) := by decide +kernel
theorem dX5_where_45 : decode cX5_where 45 = .ok (.getfield 9, 3) := by decide +kernel
theorem dX5_where_48 : decode cX5_where 48 = .ok (.iload_n 2, 1) := by decide +kernel
theorem dX5_where_49 : decode cX5_where 49 = .ok (.iaload, 1) := by decide +kernel
theorem dX5_where_50 : decode cX5_where 50 = .ok (.iload_n 3, 1) := by decide +kernel
theorem dX5_where_51 : decode cX5_where 51 = .ok (.if_icmp .le 20, 3) := by decide +kernel
theorem dX5_where_54 : decode cX5_where 54 = .ok (.aload_n 0, 1) := by decide +kernel
theorem dX5_where_55 : decode cX5_where 55 = .ok (.getfield 21, 3) := by decide +kernel
theorem dX5_where_58 : decode cX5_where 58 = .ok (.getfield 71, 3) := by decide +kernel
theorem dX5_where_61 : decode cX5_where 61 = .ok (.iload_n 1, 1) := by decide +kernel
theorem dX5_where_62 : decode cX5_where 62 = .ok (.iaload, 1) := by decide +kernel
theorem dX5_where_63 : decode cX5_where 63 = .ok (.iconst 1, 1) := by decide +kernel
theorem dX5_where_64 : decode cX5_where 64 = .ok (.iadd, 1) := by decide +kernel
theorem dX5_where_65 : decode cX5_where 65 = .ok (.bipush 8, 2) := by decide +kernel
theorem dX5_where_67 : decode cX5_where 67 = .ok (.irem, 1) := by decide +kernel
theorem dX5_where_68 : decode cX5_where 68 = .ok (.goto 12, 3) := by decide +kernel
theorem dX5_where_71 : decode cX5_where 71 = .ok (.aload_n 0, 1) := by decide +kernel
theorem dX5_where_72 : decode cX5_where 72 = .ok (.getfield 21, 3) := by decide +kernel
theorem dX5_where_75 : decode cX5_where 75 = .ok (.getfield 71, 3) := by decide +kernel
theorem dX5_where_78 : decode cX5_where 78 = .ok (.iload_n 1, 1) := by decide +kernel
theorem dX5_where_79 : decode cX5_where 79 = .ok (.iaload, 1) := by decide +kernel
theorem dX5_where_80 : decode cX5_where 80 = .ok (.ireturn, 1) := by decide +kernel
theorem dX5_where_81 : decode cX5_where 81 = .ok (.iload_n 3, 1) := by decide +kernel
theorem dX5_where_82 : decode cX5_where 82 = .ok (.bipush 8, 2) := by decide +kernel
theorem dX5_where_84 : decode cX5_where 84 = .ok (.irem, 1) := by decide +kernel
theorem dX5_where_85 : decode cX5_where 85 = .ok (.ireturn, 1) := by decide +kernel
theorem dX5_where_86 : decode cX5_where 86 = .ok (.aload_n 0, 1) := by decide +kernel
theorem dX5_where_87 : decode cX5_where 87 = .ok (.getfield 21, 3) := by decide +kernel
theorem dX5_where_90 : decode cX5_where 90 = .ok (.getfield 71, 3) := by decide +kernel
theorem dX5_where_93 : decode cX5_where 93 = .ok (.iload_n 1, 1) := by decide +kernel
theorem dX5_where_94 : decode cX5_where 94 = .ok (.iaload, 1) := by decide +kernel
theorem dX5_where_95 : decode cX5_where 95 = .ok (.ireturn, 1) := by decide +kernel
theorem dX5_amount_0 : decode cX5_amount 0 = .ok (.aload_n 0, 1) := by decide +kernel
theorem dX5_amount_1 : decode cX5_amount 1 = .ok (.getfield 25, 3) := by decide +kernel
theorem dX5_amount_4 : decode cX5_amount 4 = .ok (.aload_n 0, 1) := by decide +kernel
theorem dX5_amount_5 : decode cX5_amount 5 = .ok (.getfield 9, 3) := by decide +kernel
theorem dX5_amount_8 : decode cX5_amount 8 = .ok (.iload_n 2, 1) := by decide +kernel
theorem dX5_amount_9 : decode cX5_amount 9 = .ok (.iaload, 1) := by decide +kernel
theorem dX5_amount_10 : decode cX5_amount 10 = .ok (.iload_n 2, 1) := by decide +kernel
theorem dX5_amount_11 : decode cX5_amount 11 = .ok (.iload_n 3, 1) := by decide +kernel
theorem dX5_amount_12 : decode cX5_amount 12 = .ok (.aload_n 0, 1) := by decide +kernel
theorem dX5_amount_13 : decode cX5_amount 13 = .ok (.getfield 21, 3) := by decide +kernel
theorem dX5_amount_16 : decode cX5_amount 16 = .ok (.getfield 74, 3) := by decide +kernel
theorem dX5_amount_19 : decode cX5_amount 19 = .ok (.iload_n 1, 1) := by decide +kernel
theorem dX5_amount_20 : decode cX5_amount 20 = .ok (.iaload, 1) := by decide +kernel
theorem dX5_amount_21 : decode cX5_amount 21 = .ok (.iconst 0, 1) := by decide +kernel
theorem dX5_amount_22 : decode cX5_amount 22 = .ok (.iconst 0, 1) := by decide +kernel
theorem dX5_amount_23 : decode cX5_amount 23 = .ok (.invokevirtual 77, 3) := by decide +kernel
theorem dX5_amount_26 : decode cX5_amount 26 = .ok (.aload_n 0, 1) := by decide +kernel
theorem dX5_amount_27 : decode cX5_amount 27 = .ok (.getfield 25, 3) := by decide +kernel
theorem dX5_amount_30 : decode cX5_amount 30 = .ok (.iconst 0, 1) := by decide +kernel
theorem dX5_amount_31 : decode cX5_amount 31 = .ok (.bipush 99, 2) := by decide +kernel
theorem dX5_amount_33 : decode cX5_amount 33 = .ok (.invokevirtual 83, 3) := by decide +kernel
theorem dX5_amount_36 : decode cX5_amount 36 = .ok (.istore 4, 2) := by decide +kernel
theorem dX5_amount_38 : decode cX5_amount 38 = .ok (.aload_n 0, 1) := by decide +kernel
theorem dX5_amount_39 : decode cX5_amount 39 = .ok (.getfield 21, 3) := by decide +kernel
theorem dX5_amount_42 : decode cX5_amount 42 = .ok (.getfield 65, 3) := by decide +kernel
theorem dX5_amount_45 : decode cX5_amount 45 = .ok (.iload_n 1, 1) := by decide +kernel
theorem dX5_amount_46 : decode cX5_amount 46 = .ok (.iaload, 1) := by decide +kernel
theorem dX5_amount_47 : decode cX5_amount 47 = .ok (.istore 5, 2) := by decide +kernel
theorem dX5_amount_49 : decode cX5_amount 49 = .ok (.aload_n 0, 1) := by decide +kernel
theorem dX5_amount_50 : decode cX5_amount 50 = .ok (.getfield 21, 3) := by decide +kernel
theorem dX5_amount_53 : decode cX5_amount 53 = .ok (.getfield 68, 3) := by decide +kernel
theorem dX5_amount_56 : decode cX5_amount 56 = .ok (.iload_n 1, 1) := by decide +kernel
theorem dX5_amount_57 : decode cX5_amount 57 = .ok (.iaload, 1) := by decide +kernel
theorem dX5_amount_58 : decode cX5_amount 58 = .ok (.tableswitch 107 1 5 #[34, 40, 54, 72, 91], 34) := by decide +kernel
theorem dX5_amount_92 : decode cX5_amount 92 = .ok (.iload 4, 2) := by decide +kernel
theorem dX5_amount_94 : decode cX5_amount 94 = .ok (.invokestatic 86, 3) := by decide +kernel
theorem dX5_amount_97 : decode cX5_amount 97 = .ok (.ireturn, 1) := by decide +kernel
theorem dX5_amount_98 : decode cX5_amount 98 = .ok (.iload 4, 2) := by decide +kernel
theorem dX5_amount_100 : decode cX5_amount 100 = .ok (.aload_n 0, 1) := by decide +kernel
theorem dX5_amount_101 : decode cX5_amount 101 = .ok (.getfield 9, 3) := by decide +kernel
theorem dX5_amount_104 : decode cX5_amount 104 = .ok (.iload_n 2, 1) := by decide +kernel
theorem dX5_amount_105 : decode cX5_amount 105 = .ok (.iaload, 1) := by decide +kernel
theorem dX5_amount_106 : decode cX5_amount 106 = .ok (.iload 5, 2) := by decide +kernel
theorem dX5_amount_108 : decode cX5_amount 108 = .ok (.invokestatic 90, 3) := by decide +kernel
theorem dX5_amount_111 : decode cX5_amount 111 = .ok (.ireturn, 1) := by decide +kernel
theorem dX5_amount_112 : decode cX5_amount 112 = .ok (.iload_n 2, 1) := by decide +kernel
theorem dX5_amount_113 : decode cX5_amount 113 = .ok (.iload 5, 2) := by decide +kernel
theorem dX5_amount_115 : decode cX5_amount 115 = .ok (.if_icmp .ge 7, 3) := by decide +kernel
theorem dX5_amount_118 : decode cX5_amount 118 = .ok (.iconst 0, 1) := by decide +kernel
theorem dX5_amount_119 : decode cX5_amount 119 = .ok (.goto 10, 3) := by decide +kernel
theorem dX5_amount_122 : decode cX5_amount 122 = .ok (.iconst 2, 1) := by decide +kernel
theorem dX5_amount_123 : decode cX5_amount 123 = .ok (.iload 4, 2) := by decide +kernel
theorem dX5_amount_125 : decode cX5_amount 125 = .ok (.invokestatic 86, 3) := by decide +kernel
theorem dX5_amount_128 : decode cX5_amount 128 = .ok (.imul, 1) := by decide +kernel
theorem dX5_amount_129 : decode cX5_amount 129 = .ok (.ireturn, 1) := by decide +kernel
theorem dX5_amount_130 : decode cX5_amount 130 = .ok (.bipush 9, 2) := by decide +kernel
theorem dX5_amount_132 : decode cX5_amount 132 = .ok (.iload 4, 2) := by decide +kernel
theorem dX5_amount_134 : decode cX5_amount 134 = .ok (.aload_n 0, 1) := by decide +kernel
theorem dX5_amount_135 : decode cX5_amount 135 = .ok (.getfield 9, 3) := by decide +kernel
theorem dX5_amount_138 : decode cX5_amount 138 = .ok (.iload_n 2, 1) := by decide +kernel
theorem dX5_amount_139 : decode cX5_amount 139 = .ok (.iaload, 1) := by decide +kernel
theorem dX5_amount_140 : decode cX5_amount 140 = .ok (.iload 5, 2) := by decide +kernel
theorem dX5_amount_142 : decode cX5_amount 142 = .ok (.invokestatic 90, 3) := by decide +kernel
theorem dX5_amount_145 : decode cX5_amount 145 = .ok (.invokestatic 93, 3) := by decide +kernel
theorem dX5_amount_148 : decode cX5_amount 148 = .ok (.ireturn, 1) := by decide +kernel
theorem dX5_amount_149 : decode cX5_amount 149 = .ok (.iload_n 2, 1) := by decide +kernel
theorem dX5_amount_150 : decode cX5_amount 150 = .ok (.bipush 12, 2) := by decide +kernel
theorem dX5_amount_152 : decode cX5_amount 152 = .ok (.if_icmp .ge 7, 3) := by decide +kernel
theorem dX5_amount_155 : decode cX5_amount 155 = .ok (.iconst 0, 1) := by decide +kernel
theorem dX5_amount_156 : decode cX5_amount 156 = .ok (.goto 8, 3) := by decide +kernel
theorem dX5_amount_159 : decode cX5_amount 159 = .ok (.iload 4, 2) := by decide +kernel
theorem dX5_amount_161 : decode cX5_amount 161 = .ok (.invokestatic 86, 3) := by decide +kernel
theorem dX5_amount_164 : decode cX5_amount 164 = .ok (.ireturn, 1) := by decide +kernel
theorem dX5_amount_165 : decode cX5_amount 165 = .ok (.iload 4, 2) := by decide +kernel
theorem dX5_amount_167 : decode cX5_amount 167 = .ok (.ireturn, 1) := by decide +kernel
theorem dX5_steady_0 : decode cX5_steady 0 = .ok (.iload_n 0, 1) := by decide +kernel
theorem dX5_steady_1 : decode cX5_steady 1 = .ok (.iconst 1, 1) := by decide +kernel
theorem dX5_steady_2 : decode cX5_steady 2 = .ok (.iadd, 1) := by decide +kernel
theorem dX5_steady_3 : decode cX5_steady 3 = .ok (.ireturn, 1) := by decide +kernel
theorem dX5_wandering_0 : decode cX5_wandering 0 = .ok (.iload_n 1, 1) := by decide +kernel
theorem dX5_wandering_1 : decode cX5_wandering 1 = .ok (.iload_n 2, 1) := by decide +kernel
theorem dX5_wandering_2 : decode cX5_wandering 2 = .ok (.if_icmp .le 9, 3) := by decide +kernel
theorem dX5_wandering_5 : decode cX5_wandering 5 = .ok (.iload_n 0, 1) := by decide +kernel
theorem dX5_wandering_6 : decode cX5_wandering 6 = .ok (.iconst 2, 1) := by decide +kernel
theorem dX5_wandering_7 : decode cX5_wandering 7 = .ok (.idiv, 1) := by decide +kernel
theorem dX5_wandering_8 : decode cX5_wandering 8 = .ok (.goto 4, 3) := by decide +kernel
theorem dX5_wandering_11 : decode cX5_wandering 11 = .ok (.iload_n 0, 1) := by decide +kernel
theorem dX5_wandering_12 : decode cX5_wandering 12 = .ok (.ireturn, 1) := by decide +kernel
theorem dX6_init_0 : decode cX6_init 0 = .ok (.aload_n 0, 1) := by decide +kernel
theorem dX6_init_1 : decode cX6_init 1 = .ok (.invokespecial 3, 3) := by decide +kernel
theorem dX6_init_4 : decode cX6_init 4 = .ok (.aload_n 0, 1) := by decide +kernel
theorem dX6_init_5 : decode cX6_init 5 = .ok (.sipush 160, 3) := by decide +kernel
theorem dX6_init_8 : decode cX6_init 8 = .ok (.newarray .int, 2) := by decide +kernel
theorem dX6_init_10 : decode cX6_init 10 = .ok (.putfield 9, 3) := by decide +kernel
theorem dX6_init_13 : decode cX6_init 13 = .ok (.aload_n 0, 1) := by decide +kernel
theorem dX6_init_14 : decode cX6_init 14 = .ok (.iconst 3, 1) := by decide +kernel
theorem dX6_init_15 : decode cX6_init 15 = .ok (.newarray .int, 2) := by decide +kernel
theorem dX6_init_17 : decode cX6_init 17 = .ok (.putfield 15, 3) := by decide +kernel
theorem dX6_init_20 : decode cX6_init 20 = .ok (.return_, 1) := by decide +kernel
theorem dX7_init_0 : decode cX7_init 0 = .ok (.aload_n 0, 1) := by decide +kernel
theorem dX7_init_1 : decode cX7_init 1 = .ok (.invokespecial 3, 3) := by decide +kernel
theorem dX7_init_4 : decode cX7_init 4 = .ok (.aload_n 0, 1) := by decide +kernel
theorem dX7_init_5 : decode cX7_init 5 = .ok (.new 9, 3) := by decide +kernel
theorem dX7_init_8 : decode cX7_init 8 = .ok (.dup, 1) := by decide +kernel
theorem dX7_init_9 : decode cX7_init 9 = .ok (.invokespecial 11, 3) := by decide +kernel
theorem dX7_init_12 : decode cX7_init 12 = .ok (.putfield 12, 3) := by decide +kernel
theorem dX7_init_15 : decode cX7_init 15 = .ok (.aload_n 0, 1) := by decide +kernel
theorem dX7_init_16 : decode cX7_init 16 = .ok (.new 9, 3) := by decide +kernel
theorem dX7_init_19 : decode cX7_init 19 = .ok (.dup, 1) := by decide +kernel
theorem dX7_init_20 : decode cX7_init 20 = .ok (.invokespecial 11, 3) := by decide +kernel
theorem dX7_init_23 : decode cX7_init 23 = .ok (.putfield 16, 3) := by decide +kernel
theorem dX7_init_26 : decode cX7_init 26 = .ok (.aload_n 0, 1) := by decide +kernel
theorem dX7_init_27 : decode cX7_init 27 = .ok (.new 19, 3) := by decide +kernel
theorem dX7_init_30 : decode cX7_init 30 = .ok (.dup, 1) := by decide +kernel
theorem dX7_init_31 : decode cX7_init 31 = .ok (.invokespecial 21, 3) := by decide +kernel
theorem dX7_init_34 : decode cX7_init 34 = .ok (.putfield 22, 3) := by decide +kernel
theorem dX7_init_37 : decode cX7_init 37 = .ok (.aload_n 0, 1) := by decide +kernel
theorem dX7_init_38 : decode cX7_init 38 = .ok (.bipush 6, 2) := by decide +kernel
theorem dX7_init_40 : decode cX7_init 40 = .ok (.anewarray 26, 3) := by decide +kernel
theorem dX7_init_43 : decode cX7_init 43 = .ok (.putfield 28, 3) := by decide +kernel
theorem dX7_init_46 : decode cX7_init 46 = .ok (.aload_n 0, 1) := by decide +kernel
theorem dX7_init_47 : decode cX7_init 47 = .ok (.iconst 4, 1) := by decide +kernel
theorem dX7_init_48 : decode cX7_init 48 = .ok (.anewarray 32, 3) := by decide +kernel
theorem dX7_init_51 : decode cX7_init 51 = .ok (.putfield 34, 3) := by decide +kernel
theorem dX7_init_54 : decode cX7_init 54 = .ok (.iconst 0, 1) := by decide +kernel
theorem dX7_init_55 : decode cX7_init 55 = .ok (.istore_n 1, 1) := by decide +kernel
theorem dX7_init_56 : decode cX7_init 56 = .ok (.iload_n 1, 1) := by decide +kernel
theorem dX7_init_57 : decode cX7_init 57 = .ok (.bipush 6, 2) := by decide +kernel
theorem dX7_init_59 : decode cX7_init 59 = .ok (.if_icmp .ge 22, 3) := by decide +kernel
theorem dX7_init_62 : decode cX7_init 62 = .ok (.aload_n 0, 1) := by decide +kernel
theorem dX7_init_63 : decode cX7_init 63 = .ok (.getfield 28, 3) := by decide +kernel
theorem dX7_init_66 : decode cX7_init 66 = .ok (.iload_n 1, 1) := by decide +kernel
theorem dX7_init_67 : decode cX7_init 67 = .ok (.new 26, 3) := by decide +kernel
theorem dX7_init_70 : decode cX7_init 70 = .ok (.dup, 1) := by decide +kernel
theorem dX7_init_71 : decode cX7_init 71 = .ok (.invokespecial 38, 3) := by decide +kernel
theorem dX7_init_74 : decode cX7_init 74 = .ok (.aastore, 1) := by decide +kernel
theorem dX7_init_75 : decode cX7_init 75 = .ok (.iinc 1 1, 3) := by decide +kernel
theorem dX7_init_78 : decode cX7_init 78 = .ok (.goto (-22), 3) := by decide +kernel
theorem dX7_init_81 : decode cX7_init 81 = .ok (.iconst 0, 1) := by decide +kernel
theorem dX7_init_82 : decode cX7_init 82 = .ok (.istore_n 1, 1) := by decide +kernel
theorem dX7_init_83 : decode cX7_init 83 = .ok (.iload_n 1, 1) := by decide +kernel
theorem dX7_init_84 : decode cX7_init 84 = .ok (.iconst 4, 1) := by decide +kernel
theorem dX7_init_85 : decode cX7_init 85 = .ok (.if_icmp .ge 22, 3) := by decide +kernel
theorem dX7_init_88 : decode cX7_init 88 = .ok (.aload_n 0, 1) := by decide +kernel
theorem dX7_init_89 : decode cX7_init 89 = .ok (.getfield 34, 3) := by decide +kernel
theorem dX7_init_92 : decode cX7_init 92 = .ok (.iload_n 1, 1) := by decide +kernel
theorem dX7_init_93 : decode cX7_init 93 = .ok (.new 32, 3) := by decide +kernel
theorem dX7_init_96 : decode cX7_init 96 = .ok (.dup, 1) := by decide +kernel
theorem dX7_init_97 : decode cX7_init 97 = .ok (.invokespecial 39, 3) := by decide +kernel
theorem dX7_init_100 : decode cX7_init 100 = .ok (.aastore, 1) := by decide +kernel
theorem dX7_init_101 : decode cX7_init 101 = .ok (.iinc 1 1, 3) := by decide +kernel
theorem dX7_init_104 : decode cX7_init 104 = .ok (.goto (-21), 3) := by decide +kernel
theorem dX7_init_107 : decode cX7_init 107 = .ok (.iconst 0, 1) := by decide +kernel
theorem dX7_init_108 : decode cX7_init 108 = .ok (.istore_n 1, 1) := by decide +kernel
theorem dX7_init_109 : decode cX7_init 109 = .ok (.iload_n 1, 1) := by decide +kernel
theorem dX7_init_110 : decode cX7_init 110 = .ok (.ldc 40, 2) := by decide +kernel
theorem dX7_init_112 : decode cX7_init 112 = .ok (.invokevirtual 42, 3) := by decide +kernel
theorem dX7_init_115 : decode cX7_init 115 = .ok (.if_icmp .ge 23, 3) := by decide +kernel
theorem dX7_init_118 : decode cX7_init 118 = .ok (.aload_n 0, 1) := by decide +kernel
theorem dX7_init_119 : decode cX7_init 119 = .ok (.getfield 22, 3) := by decide +kernel
theorem dX7_init_122 : decode cX7_init 122 = .ok (.ldc 40, 2) := by decide +kernel
theorem dX7_init_124 : decode cX7_init 124 = .ok (.iload_n 1, 1) := by decide +kernel
theorem dX7_init_125 : decode cX7_init 125 = .ok (.invokevirtual 48, 3) := by decide +kernel
theorem dX7_init_128 : decode cX7_init 128 = .ok (.invokevirtual 52, 3) := by decide +kernel
theorem dX7_init_131 : decode cX7_init 131 = .ok (.pop, 1) := by decide +kernel
theorem dX7_init_132 : decode cX7_init 132 = .ok (.iinc 1 1, 3) := by decide +kernel
theorem dX7_init_135 : decode cX7_init 135 = .ok (.goto (-26), 3) := by decide +kernel
theorem dX7_init_138 : decode cX7_init 138 = .ok (.aload_n 0, 1) := by decide +kernel
theorem dX7_init_139 : decode cX7_init 139 = .ok (.getfield 22, 3) := by decide +kernel
theorem dX7_init_142 : decode cX7_init 142 = .ok (.aload_n 0, 1) := by decide +kernel
theorem dX7_init_143 : decode cX7_init 143 = .ok (.getfield 28, 3) := by decide +kernel
theorem dX7_init_146 : decode cX7_init 146 = .ok (.iconst 0, 1) := by decide +kernel
theorem dX7_init_147 : decode cX7_init 147 = .ok (.aaload, 1) := by decide +kernel
theorem dX7_init_148 : decode cX7_init 148 = .ok (.invokevirtual 56, 3) := by decide +kernel
theorem dX7_init_151 : decode cX7_init 151 = .ok (.pop, 1) := by decide +kernel
theorem dX7_init_152 : decode cX7_init 152 = .ok (.aload_n 0, 1) := by decide +kernel
theorem dX7_init_153 : decode cX7_init 153 = .ok (.iconst 1, 1) := by decide +kernel
theorem dX7_init_154 : decode cX7_init 154 = .ok (.putfield 60, 3) := by decide +kernel
theorem dX7_init_157 : decode cX7_init 157 = .ok (.aload_n 0, 1) := by decide +kernel
theorem dX7_init_158 : decode cX7_init 158 = .ok (.new 64, 3) := by decide +kernel
theorem dX7_init_161 : decode cX7_init 161 = .ok (.dup, 1) := by decide +kernel
theorem dX7_init_162 : decode cX7_init 162 = .ok (.aload_n 0, 1) := by decide +kernel
theorem dX7_init_163 : decode cX7_init 163 = .ok (.getfield 28, 3) := by decide +kernel
theorem dX7_init_166 : decode cX7_init 166 = .ok (.iconst 0, 1) := by decide +kernel
theorem dX7_init_167 : decode cX7_init 167 = .ok (.aaload, 1) := by decide +kernel
theorem dX7_init_168 : decode cX7_init 168 = .ok (.invokespecial 66, 3) := by decide +kernel
theorem dX7_init_171 : decode cX7_init 171 = .ok (.putfield 69, 3) := by decide +kernel
theorem dX7_init_174 : decode cX7_init 174 = .ok (.aload_n 0, 1) := by decide +kernel
theorem dX7_init_175 : decode cX7_init 175 = .ok (.new 73, 3) := by decide +kernel
theorem dX7_init_178 : decode cX7_init 178 = .ok (.dup, 1) := by decide +kernel
theorem dX7_init_179 : decode cX7_init 179 = .ok (.aload_n 0, 1) := by decide +kernel
theorem dX7_init_180 : decode cX7_init 180 = .ok (.getfield 12, 3) := by decide +kernel
theorem dX7_init_183 : decode cX7_init 183 = .ok (.aload_n 0, 1) := by decide +kernel
theorem dX7_init_184 : decode cX7_init 184 = .ok (.getfield 69, 3) := by decide +kernel
theorem dX7_init_187 : decode cX7_init 187 = .ok (.invokespecial 75, 3) := by decide +kernel
theorem dX7_init_190 : decode cX7_init 190 = .ok (.putfield 78, 3) := by decide +kernel
theorem dX7_init_193 : decode cX7_init 193 = .ok (.return_, 1) := by decide +kernel
theorem dX7_set_0 : decode cX7_set 0 = .ok (.iload_n 1, 1) := by decide +kernel
theorem dX7_set_1 : decode cX7_set 1 = .ok (.tableswitch 190 0 6 #[43, 78, 78, 78, 85, 121, 157], 43) := by decide +kernel
theorem dX7_set_44 : decode cX7_set 44 = .ok (.iload_n 2, 1) := by decide +kernel
theorem dX7_set_45 : decode cX7_set 45 = .ok (.invokestatic 82, 3) := by decide +kernel
theorem dX7_set_48 : decode cX7_set 48 = .ok (.ifCond .eq 28, 3) := by decide +kernel
theorem dX7_set_51 : decode cX7_set 51 = .ok (.iload_n 3, 1) := by decide +kernel
theorem dX7_set_52 : decode cX7_set 52 = .ok (.iconst 0, 1) := by decide +kernel
theorem dX7_set_53 : decode cX7_set 53 = .ok (.bipush 9, 2) := by decide +kernel
theorem dX7_set_55 : decode cX7_set 55 = .ok (.invokestatic 85, 3) := by decide +kernel
theorem dX7_set_58 : decode cX7_set 58 = .ok (.ifCond .eq 18, 3) := by decide +kernel
theorem dX7_set_61 : decode cX7_set 61 = .ok (.aload_n 0, 1) := by decide +kernel
theorem dX7_set_62 : decode cX7_set 62 = .ok (.getfield 12, 3) := by decide +kernel
theorem dX7_set_65 : decode cX7_set 65 = .ok (.getfield 89, 3) := by decide +kernel
theorem dX7_set_68 : decode cX7_set 68 = .ok (.iload_n 2, 1) := by decide +kernel
theorem dX7_set_69 : decode cX7_set 69 = .ok (.iload_n 3, 1) := by decide +kernel
theorem dX7_set_70 : decode cX7_set 70 = .ok (.invokestatic 93, 3) := by decide +kernel
theorem dX7_set_73 : decode cX7_set 73 = .ok (.goto 5, 3) := by decide +kernel
theorem dX7_set_76 : decode cX7_set 76 = .ok (.bipush (-2), 2) := by decide +kernel
theorem dX7_set_78 : decode cX7_set 78 = .ok (.ireturn, 1) := by decide +kernel
theorem dX7_set_79 : decode cX7_set 79 = .ok (.aload_n 0, 1) := by decide +kernel
theorem dX7_set_80 : decode cX7_set 80 = .ok (.iload_n 1, 1) := by decide +kernel
theorem dX7_set_81 : decode cX7_set 81 = .ok (.iload_n 3, 1) := by decide +kernel
theorem dX7_set_82 : decode cX7_set 82 = .ok (.invokevirtual 97, 3) := by decide +kernel
theorem dX7_set_85 : decode cX7_set 85 = .ok (.ireturn, 1) := by decide +kernel
theorem dX7_set_86 : decode cX7_set 86 = .ok (.aload_n 0, 1) := by decide +kernel
theorem dX7_set_87 : decode cX7_set 87 = .ok (.iload_n 2, 1) := by decide +kernel
theorem dX7_set_88 : decode cX7_set 88 = .ok (.invokevirtual 101, 3) := by decide +kernel
theorem dX7_set_91 : decode cX7_set 91 = .ok (.ifCond .eq 28, 3) := by decide +kernel
theorem dX7_set_94 : decode cX7_set 94 = .ok (.iload_n 3, 1) := by decide +kernel
theorem dX7_set_95 : decode cX7_set 95 = .ok (.iconst 0, 1) := by decide +kernel
theorem dX7_set_96 : decode cX7_set 96 = .ok (.bipush 9, 2) := by decide +kernel
theorem dX7_set_98 : decode cX7_set 98 = .ok (.invokestatic 85, 3) := by decide +kernel
theorem dX7_set_101 : decode cX7_set 101 = .ok (.ifCond .eq 18, 3) := by decide +kernel
theorem dX7_set_104 : decode cX7_set 104 = .ok (.aload_n 0, 1) := by decide +kernel
theorem dX7_set_105 : decode cX7_set 105 = .ok (.getfield 12, 3) := by decide +kernel
theorem dX7_set_108 : decode cX7_set 108 = .ok (.getfield 104, 3) := by decide +kernel
theorem dX7_set_111 : decode cX7_set 111 = .ok (.iload_n 2, 1) := by decide +kernel
theorem dX7_set_112 : decode cX7_set 112 = .ok (.iload_n 3, 1) := by decide +kernel
theorem dX7_set_113 : decode cX7_set 113 = .ok (.invokestatic 93, 3) := by decide +kernel
theorem dX7_set_116 : decode cX7_set 116 = .ok (.goto 5, 3) := by decide +kernel
theorem dX7_set_119 : decode cX7_set 119 = .ok (.bipush (-2), 2) := by decide +kernel
theorem dX7_set_121 : decode cX7_set 121 = .ok (.ireturn, 1) := by decide +kernel
theorem dX7_set_122 : decode cX7_set 122 = .ok (.aload_n 0, 1) := by decide +kernel
theorem dX7_set_123 : decode cX7_set 123 = .ok (.iload_n 2, 1) := by decide +kernel
theorem dX7_set_124 : decode cX7_set 124 = .ok (.invokevirtual 101, 3) := by decide +kernel
theorem dX7_set_127 : decode cX7_set 127 = .ok (.ifCond .eq 28, 3) := by decide +kernel
theorem dX7_set_130 : decode cX7_set 130 = .ok (.iload_n 3, 1) := by decide +kernel
theorem dX7_set_131 : decode cX7_set 131 = .ok (.iconst 0, 1) := by decide +kernel
theorem dX7_set_132 : decode cX7_set 132 = .ok (.bipush 9, 2) := by decide +kernel
theorem dX7_set_134 : decode cX7_set 134 = .ok (.invokestatic 85, 3) := by decide +kernel
theorem dX7_set_137 : decode cX7_set 137 = .ok (.ifCond .eq 18, 3) := by decide +kernel
theorem dX7_set_140 : decode cX7_set 140 = .ok (.aload_n 0, 1) := by decide +kernel
theorem dX7_set_141 : decode cX7_set 141 = .ok (.getfield 12, 3) := by decide +kernel
theorem dX7_set_144 : decode cX7_set 144 = .ok (.getfield 107, 3) := by decide +kernel
theorem dX7_set_147 : decode cX7_set 147 = .ok (.iload_n 2, 1) := by decide +kernel
theorem dX7_set_148 : decode cX7_set 148 = .ok (.iload_n 3, 1) := by decide +kernel
theorem dX7_set_149 : decode cX7_set 149 = .ok (.invokestatic 93, 3) := by decide +kernel
theorem dX7_set_152 : decode cX7_set 152 = .ok (.goto 5, 3) := by decide +kernel
theorem dX7_set_155 : decode cX7_set 155 = .ok (.bipush (-2), 2) := by decide +kernel
theorem dX7_set_157 : decode cX7_set 157 = .ok (.ireturn, 1) := by decide +kernel
theorem dX7_set_158 : decode cX7_set 158 = .ok (.aload_n 0, 1) := by decide +kernel
theorem dX7_set_159 : decode cX7_set 159 = .ok (.iload_n 2, 1) := by decide +kernel
theorem dX7_set_160 : decode cX7_set 160 = .ok (.invokevirtual 101, 3) := by decide +kernel
theorem dX7_set_163 : decode cX7_set 163 = .ok (.ifCond .eq 25, 3) := by decide +kernel
theorem dX7_set_166 : decode cX7_set 166 = .ok (.iload_n 3, 1) := by decide +kernel
theorem dX7_set_167 : decode cX7_set 167 = .ok (.invokestatic 110, 3) := by decide +kernel
theorem dX7_set_170 : decode cX7_set 170 = .ok (.ifCond .eq 18, 3) := by decide +kernel
theorem dX7_set_173 : decode cX7_set 173 = .ok (.aload_n 0, 1) := by decide +kernel
theorem dX7_set_174 : decode cX7_set 174 = .ok (.getfield 12, 3) := by decide +kernel
theorem dX7_set_177 : decode cX7_set 177 = .ok (.getfield 113, 3) := by decide +kernel
theorem dX7_set_180 : decode cX7_set 180 = .ok (.iload_n 2, 1) := by decide +kernel
theorem dX7_set_181 : decode cX7_set 181 = .ok (.iload_n 3, 1) := by decide +kernel
theorem dX7_set_182 : decode cX7_set 182 = .ok (.invokestatic 93, 3) := by decide +kernel
theorem dX7_set_185 : decode cX7_set 185 = .ok (.goto 5, 3) := by decide +kernel
theorem dX7_set_188 : decode cX7_set 188 = .ok (.bipush (-2), 2) := by decide +kernel
theorem dX7_set_190 : decode cX7_set 190 = .ok (.ireturn, 1) := by decide +kernel
theorem dX7_set_191 : decode cX7_set 191 = .ok (.bipush (-2), 2) := by decide +kernel
theorem dX7_set_193 : decode cX7_set 193 = .ok (.ireturn, 1) := by decide +kernel
theorem dX7_drip_0 : decode cX7_drip 0 = .ok (.iload_n 1, 1) := by decide +kernel
theorem dX7_drip_1 : decode cX7_drip 1 = .ok (.invokestatic 116, 3) := by decide +kernel
theorem dX7_drip_4 : decode cX7_drip 4 = .ok (.ifCond .eq 20, 3) := by decide +kernel
theorem dX7_drip_7 : decode cX7_drip 7 = .ok (.iload_n 2, 1) := by decide +kernel
theorem dX7_drip_8 : decode cX7_drip 8 = .ok (.iconst 0, 1) := by decide +kernel
theorem dX7_drip_9 : decode cX7_drip 9 = .ok (.bipush 99, 2) := by decide +kernel
theorem dX7_drip_11 : decode cX7_drip 11 = .ok (.invokestatic 85, 3) := by decide +kernel
theorem dX7_drip_14 : decode cX7_drip 14 = .ok (.ifCond .eq 10, 3) := by decide +kernel
theorem dX7_drip_17 : decode cX7_drip 17 = .ok (.iload_n 3, 1) := by decide +kernel
theorem dX7_drip_18 : decode cX7_drip 18 = .ok (.invokestatic 110, 3) := by decide +kernel
theorem dX7_drip_21 : decode cX7_drip 21 = .ok (.ifCond .ne 6, 3) := by decide +kernel
theorem dX7_drip_24 : decode cX7_drip 24 = .ok (.bipush (-2), 2) := by decide +kernel
theorem dX7_drip_26 : decode cX7_drip 26 = .ok (.ireturn, 1) := by decide +kernel
theorem dX7_drip_27 : decode cX7_drip 27 = .ok (.aload_n 0, 1) := by decide +kernel
theorem dX7_drip_28 : decode cX7_drip 28 = .ok (.getfield 12, 3) := by decide +kernel
theorem dX7_drip_31 : decode cX7_drip 31 = .ok (.getfield 119, 3) := by decide +kernel
theorem dX7_drip_34 : decode cX7_drip 34 = .ok (.istore 4, 2) := by decide +kernel
theorem dX7_drip_36 : decode cX7_drip 36 = .ok (.iload 4, 2) := by decide +kernel
theorem dX7_drip_38 : decode cX7_drip 38 = .ok (.iconst 0, 1) := by decide +kernel
theorem dX7_drip_39 : decode cX7_drip 39 = .ok (.iconst 5, 1) := by decide +kernel
theorem dX7_drip_40 : decode cX7_drip 40 = .ok (.invokestatic 85, 3) := by decide +kernel
theorem dX7_drip_43 : decode cX7_drip 43 = .ok (.ifCond .ne 6, 3) := by decide +kernel
theorem dX7_drip_46 : decode cX7_drip 46 = .ok (.bipush (-4), 2) := by decide +kernel
theorem dX7_drip_48 : decode cX7_drip 48 = .ok (.ireturn, 1) := by decide +kernel
theorem dX7_drip_49 : decode cX7_drip 49 = .ok (.aload_n 0, 1) := by decide +kernel
theorem dX7_drip_50 : decode cX7_drip 50 = .ok (.getfield 12, 3) := by decide +kernel
theorem dX7_drip_53 : decode cX7_drip 53 = .ok (.getfield 122, 3) := by decide +kernel
theorem dX7_drip_56 : decode cX7_drip 56 = .ok (.iload 4, 2) := by decide +kernel
theorem dX7_drip_58 : decode cX7_drip 58 = .ok (.iload_n 1, 1) := by decide +kernel
theorem dX7_drip_59 : decode cX7_drip 59 = .ok (.iastore, 1) := by decide +kernel
