theorem dX8_tile_19 : decode cX8_tile 19 = .ok (.invokevirtual 321, 3) := by decide +kernel
theorem dX8_tile_22 : decode cX8_tile 22 = .ok (.iconst 1, 1) := by decide +kernel
theorem dX8_tile_23 : decode cX8_tile 23 = .ok (.iload_n 1, 1) := by decide +kernel
theorem dX8_tile_24 : decode cX8_tile 24 = .ok (.ishl, 1) := by decide +kernel
theorem dX8_tile_25 : decode cX8_tile 25 = .ok (.iconst (-1), 1) := by decide +kernel
theorem dX8_tile_26 : decode cX8_tile 26 = .ok (.ixor, 1) := by decide +kernel
theorem dX8_tile_27 : decode cX8_tile 27 = .ok (.iand, 1) := by decide +kernel
theorem dX8_tile_28 : decode cX8_tile 28 = .ok (.invokevirtual 324, 3) := by decide +kernel
theorem dX8_tile_31 : decode cX8_tile 31 = .ok (.iload_n 2, 1) := by decide +kernel
theorem dX8_tile_32 : decode cX8_tile 32 = .ok (.aload_n 0, 1) := by decide +kernel
theorem dX8_tile_33 : decode cX8_tile 33 = .ok (.invokevirtual 327, 3) := by decide +kernel
theorem dX8_tile_36 : decode cX8_tile 36 = .ok (.isub, 1) := by decide +kernel
theorem dX8_tile_37 : decode cX8_tile 37 = .ok (.ireturn, 1) := by decide +kernel
theorem dX8_more_0 : decode cX8_more 0 = .ok (.aload_n 0, 1) := by decide +kernel
theorem dX8_more_1 : decode cX8_more 1 = .ok (.iload_n 1, 1) := by decide +kernel
theorem dX8_more_2 : decode cX8_more 2 = .ok (.invokevirtual 127, 3) := by decide +kernel
theorem dX8_more_5 : decode cX8_more 5 = .ok (.ifCond .eq 15, 3) := by decide +kernel
theorem dX8_more_8 : decode cX8_more 8 = .ok (.iload_n 2, 1) := by decide +kernel
theorem dX8_more_9 : decode cX8_more 9 = .ok (.i2l, 1) := by decide +kernel
theorem dX8_more_10 : decode cX8_more 10 = .ok (.lconst 1, 1) := by decide +kernel
theorem dX8_more_11 : decode cX8_more 11 = .ok (.ldc2_w 134, 3) := by decide +kernel
theorem dX8_more_14 : decode cX8_more 14 = .ok (.invokestatic 110, 3) := by decide +kernel
theorem dX8_more_17 : decode cX8_more 17 = .ok (.ifCond .ne 7, 3) := by decide +kernel
theorem dX8_more_20 : decode cX8_more 20 = .ok (.ldc_w 353, 3) := by decide +kernel
theorem dX8_more_23 : decode cX8_more 23 = .ok (.ireturn, 1) := by decide +kernel
theorem dX8_more_24 : decode cX8_more 24 = .ok (.aload_n 0, 1) := by decide +kernel
theorem dX8_more_25 : decode cX8_more 25 = .ok (.invokevirtual 330, 3) := by decide +kernel
theorem dX8_more_28 : decode cX8_more 28 = .ok (.istore_n 3, 1) := by decide +kernel
theorem dX8_more_29 : decode cX8_more 29 = .ok (.aload_n 0, 1) := by decide +kernel
theorem dX8_more_30 : decode cX8_more 30 = .ok (.iload_n 1, 1) := by decide +kernel
theorem dX8_more_31 : decode cX8_more 31 = .ok (.iconst (-1), 1) := by decide +kernel
theorem dX8_more_32 : decode cX8_more 32 = .ok (.iload_n 2, 1) := by decide +kernel
theorem dX8_more_33 : decode cX8_more 33 = .ok (.invokevirtual 291, 3) := by decide +kernel
theorem dX8_more_36 : decode cX8_more 36 = .ok (.aload_n 0, 1) := by decide +kernel
theorem dX8_more_37 : decode cX8_more 37 = .ok (.invokevirtual 327, 3) := by decide +kernel
theorem dX8_more_40 : decode cX8_more 40 = .ok (.iload_n 3, 1) := by decide +kernel
theorem dX8_more_41 : decode cX8_more 41 = .ok (.isub, 1) := by decide +kernel
theorem dX8_more_42 : decode cX8_more 42 = .ok (.ireturn, 1) := by decide +kernel
theorem dX8_sorted_0 : decode cX8_sorted 0 = .ok (.iload_n 1, 1) := by decide +kernel
theorem dX8_sorted_1 : decode cX8_sorted 1 = .ok (.i2l, 1) := by decide +kernel
theorem dX8_sorted_2 : decode cX8_sorted 2 = .ok (.lconst 0, 1) := by decide +kernel
theorem dX8_sorted_3 : decode cX8_sorted 3 = .ok (.lconst 1, 1) := by decide +kernel
theorem dX8_sorted_4 : decode cX8_sorted 4 = .ok (.invokestatic 110, 3) := by decide +kernel
theorem dX8_sorted_7 : decode cX8_sorted 7 = .ok (.ifCond .ne 7, 3) := by decide +kernel
theorem dX8_sorted_10 : decode cX8_sorted 10 = .ok (.ldc_w 353, 3) := by decide +kernel
theorem dX8_sorted_13 : decode cX8_sorted 13 = .ok (.ireturn, 1) := by decide +kernel
theorem dX8_sorted_14 : decode cX8_sorted 14 = .ok (.aload_n 0, 1) := by decide +kernel
theorem dX8_sorted_15 : decode cX8_sorted 15 = .ok (.invokevirtual 330, 3) := by decide +kernel
theorem dX8_sorted_18 : decode cX8_sorted 18 = .ok (.istore_n 2, 1) := by decide +kernel
theorem dX8_sorted_19 : decode cX8_sorted 19 = .ok (.iload_n 1, 1) := by decide +kernel
theorem dX8_sorted_20 : decode cX8_sorted 20 = .ok (.ifCond .ne 32, 3) := by decide +kernel
theorem dX8_sorted_23 : decode cX8_sorted 23 = .ok (.aload_n 0, 1) := by decide +kernel
theorem dX8_sorted_24 : decode cX8_sorted 24 = .ok (.iconst 1, 1) := by decide +kernel
theorem dX8_sorted_25 : decode cX8_sorted 25 = .ok (.aload_n 0, 1) := by decide +kernel
theorem dX8_sorted_26 : decode cX8_sorted 26 = .ok (.getfield 139, 3) := by decide +kernel
theorem dX8_sorted_29 : decode cX8_sorted 29 = .ok (.isub, 1) := by decide +kernel
theorem dX8_sorted_30 : decode cX8_sorted 30 = .ok (.putfield 139, 3) := by decide +kernel
theorem dX8_sorted_33 : decode cX8_sorted 33 = .ok (.aload_n 0, 1) := by decide +kernel
theorem dX8_sorted_34 : decode cX8_sorted 34 = .ok (.invokevirtual 327, 3) := by decide +kernel
theorem dX8_sorted_37 : decode cX8_sorted 37 = .ok (.istore_n 3, 1) := by decide +kernel
theorem dX8_sorted_38 : decode cX8_sorted 38 = .ok (.aload_n 0, 1) := by decide +kernel
theorem dX8_sorted_39 : decode cX8_sorted 39 = .ok (.iconst 1, 1) := by decide +kernel
theorem dX8_sorted_40 : decode cX8_sorted 40 = .ok (.aload_n 0, 1) := by decide +kernel
theorem dX8_sorted_41 : decode cX8_sorted 41 = .ok (.getfield 139, 3) := by decide +kernel
theorem dX8_sorted_44 : decode cX8_sorted 44 = .ok (.isub, 1) := by decide +kernel
theorem dX8_sorted_45 : decode cX8_sorted 45 = .ok (.putfield 139, 3) := by decide +kernel
theorem dX8_sorted_48 : decode cX8_sorted 48 = .ok (.iload_n 3, 1) := by decide +kernel
theorem dX8_sorted_49 : decode cX8_sorted 49 = .ok (.iload_n 2, 1) := by decide +kernel
theorem dX8_sorted_50 : decode cX8_sorted 50 = .ok (.isub, 1) := by decide +kernel
theorem dX8_sorted_51 : decode cX8_sorted 51 = .ok (.ireturn, 1) := by decide +kernel
theorem dX8_sorted_52 : decode cX8_sorted 52 = .ok (.aload_n 0, 1) := by decide +kernel
theorem dX8_sorted_53 : decode cX8_sorted 53 = .ok (.getfield 26, 3) := by decide +kernel
theorem dX8_sorted_56 : decode cX8_sorted 56 = .ok (.istore_n 3, 1) := by decide +kernel
theorem dX8_sorted_57 : decode cX8_sorted 57 = .ok (.aload_n 0, 1) := by decide +kernel
theorem dX8_sorted_58 : decode cX8_sorted 58 = .ok (.iconst 5, 1) := by decide +kernel
theorem dX8_sorted_59 : decode cX8_sorted 59 = .ok (.putfield 26, 3) := by decide +kernel
theorem dX8_sorted_62 : decode cX8_sorted 62 = .ok (.aload_n 0, 1) := by decide +kernel
theorem dX8_sorted_63 : decode cX8_sorted 63 = .ok (.invokevirtual 327, 3) := by decide +kernel
theorem dX8_sorted_66 : decode cX8_sorted 66 = .ok (.istore 4, 2) := by decide +kernel
theorem dX8_sorted_68 : decode cX8_sorted 68 = .ok (.aload_n 0, 1) := by decide +kernel
theorem dX8_sorted_69 : decode cX8_sorted 69 = .ok (.iconst 1, 1) := by decide +kernel
theorem dX8_sorted_70 : decode cX8_sorted 70 = .ok (.putfield 26, 3) := by decide +kernel
theorem dX8_sorted_73 : decode cX8_sorted 73 = .ok (.aload_n 0, 1) := by decide +kernel
theorem dX8_sorted_74 : decode cX8_sorted 74 = .ok (.invokevirtual 327, 3) := by decide +kernel
theorem dX8_sorted_77 : decode cX8_sorted 77 = .ok (.iload 4, 2) := by decide +kernel
theorem dX8_sorted_79 : decode cX8_sorted 79 = .ok (.if_icmp .le 16, 3) := by decide +kernel
theorem dX8_sorted_82 : decode cX8_sorted 82 = .ok (.aload_n 0, 1) := by decide +kernel
theorem dX8_sorted_83 : decode cX8_sorted 83 = .ok (.dup, 1) := by decide +kernel
theorem dX8_sorted_84 : decode cX8_sorted 84 = .ok (.getfield 26, 3) := by decide +kernel
theorem dX8_sorted_87 : decode cX8_sorted 87 = .ok (.iconst 1, 1) := by decide +kernel
theorem dX8_sorted_88 : decode cX8_sorted 88 = .ok (.iadd, 1) := by decide +kernel
theorem dX8_sorted_89 : decode cX8_sorted 89 = .ok (.putfield 26, 3) := by decide +kernel
theorem dX8_sorted_92 : decode cX8_sorted 92 = .ok (.goto (-19), 3) := by decide +kernel
theorem dX8_sorted_95 : decode cX8_sorted 95 = .ok (.aload_n 0, 1) := by decide +kernel
theorem dX8_sorted_96 : decode cX8_sorted 96 = .ok (.getfield 26, 3) := by decide +kernel
theorem dX8_sorted_99 : decode cX8_sorted 99 = .ok (.istore 5, 2) := by decide +kernel
theorem dX8_sorted_101 : decode cX8_sorted 101 = .ok (.aload_n 0, 1) := by decide +kernel
theorem dX8_sorted_102 : decode cX8_sorted 102 = .ok (.iload_n 3, 1) := by decide +kernel
theorem dX8_sorted_103 : decode cX8_sorted 103 = .ok (.putfield 26, 3) := by decide +kernel
theorem dX8_sorted_106 : decode cX8_sorted 106 = .ok (.iload 5, 2) := by decide +kernel
theorem dX8_sorted_108 : decode cX8_sorted 108 = .ok (.ireturn, 1) := by decide +kernel
theorem dX8_seenBad_0 : decode cX8_seenBad 0 = .ok (.iload_n 1, 1) := by decide +kernel
theorem dX8_seenBad_1 : decode cX8_seenBad 1 = .ok (.invokestatic 354, 3) := by decide +kernel
theorem dX8_seenBad_4 : decode cX8_seenBad 4 = .ok (.ifCond .eq 10, 3) := by decide +kernel
theorem dX8_seenBad_7 : decode cX8_seenBad 7 = .ok (.iload_n 2, 1) := by decide +kernel
theorem dX8_seenBad_8 : decode cX8_seenBad 8 = .ok (.invokestatic 123, 3) := by decide +kernel
theorem dX8_seenBad_11 : decode cX8_seenBad 11 = .ok (.ifCond .ne 6, 3) := by decide +kernel
theorem dX8_seenBad_14 : decode cX8_seenBad 14 = .ok (.bipush (-2), 2) := by decide +kernel
theorem dX8_seenBad_16 : decode cX8_seenBad 16 = .ok (.ireturn, 1) := by decide +kernel
theorem dX8_seenBad_17 : decode cX8_seenBad 17 = .ok (.aload_n 0, 1) := by decide +kernel
theorem dX8_seenBad_18 : decode cX8_seenBad 18 = .ok (.getfield 87, 3) := by decide +kernel
theorem dX8_seenBad_21 : decode cX8_seenBad 21 = .ok (.iload_n 1, 1) := by decide +kernel
theorem dX8_seenBad_22 : decode cX8_seenBad 22 = .ok (.baload, 1) := by decide +kernel
theorem dX8_seenBad_23 : decode cX8_seenBad 23 = .ok (.ifCond .ne 6, 3) := by decide +kernel
theorem dX8_seenBad_26 : decode cX8_seenBad 26 = .ok (.bipush (-11), 2) := by decide +kernel
theorem dX8_seenBad_28 : decode cX8_seenBad 28 = .ok (.ireturn, 1) := by decide +kernel
theorem dX8_seenBad_29 : decode cX8_seenBad 29 = .ok (.aload_n 0, 1) := by decide +kernel
theorem dX8_seenBad_30 : decode cX8_seenBad 30 = .ok (.getfield 94, 3) := by decide +kernel
theorem dX8_seenBad_33 : decode cX8_seenBad 33 = .ok (.iload_n 1, 1) := by decide +kernel
theorem dX8_seenBad_34 : decode cX8_seenBad 34 = .ok (.iaload, 1) := by decide +kernel
theorem dX8_seenBad_35 : decode cX8_seenBad 35 = .ok (.aload_n 0, 1) := by decide +kernel
theorem dX8_seenBad_36 : decode cX8_seenBad 36 = .ok (.getfield 114, 3) := by decide +kernel
theorem dX8_seenBad_39 : decode cX8_seenBad 39 = .ok (.if_icmp .ne 7, 3) := by decide +kernel
theorem dX8_seenBad_42 : decode cX8_seenBad 42 = .ok (.iconst 0, 1) := by decide +kernel
theorem dX8_seenBad_43 : decode cX8_seenBad 43 = .ok (.goto 5, 3) := by decide +kernel
theorem dX8_seenBad_46 : decode cX8_seenBad 46 = .ok (.bipush (-2), 2) := by decide +kernel
theorem dX8_seenBad_48 : decode cX8_seenBad 48 = .ok (.ireturn, 1) := by decide +kernel
theorem dX8_isSo_0 : decode cX8_isSo 0 = .ok (.aload_n 0, 1) := by decide +kernel
theorem dX8_isSo_1 : decode cX8_isSo 1 = .ok (.iload_n 3, 1) := by decide +kernel
theorem dX8_isSo_2 : decode cX8_isSo 2 = .ok (.invokevirtual 324, 3) := by decide +kernel
theorem dX8_isSo_5 : decode cX8_isSo 5 = .ok (.aload_n 0, 1) := by decide +kernel
theorem dX8_isSo_6 : decode cX8_isSo 6 = .ok (.iload_n 2, 1) := by decide +kernel
theorem dX8_isSo_7 : decode cX8_isSo 7 = .ok (.iconst 1, 1) := by decide +kernel
theorem dX8_isSo_8 : decode cX8_isSo 8 = .ok (.iadd, 1) := by decide +kernel
theorem dX8_isSo_9 : decode cX8_isSo 9 = .ok (.invokevirtual 317, 3) := by decide +kernel
theorem dX8_isSo_12 : decode cX8_isSo 12 = .ok (.iconst 0, 1) := by decide +kernel
theorem dX8_isSo_13 : decode cX8_isSo 13 = .ok (.istore 4, 2) := by decide +kernel
theorem dX8_isSo_15 : decode cX8_isSo 15 = .ok (.iload 4, 2) := by decide +kernel
theorem dX8_isSo_17 : decode cX8_isSo 17 = .ok (.aload_n 0, 1) := by decide +kernel
theorem dX8_isSo_18 : decode cX8_isSo 18 = .ok (.getfield 114, 3) := by decide +kernel
theorem dX8_isSo_21 : decode cX8_isSo 21 = .ok (.if_icmp .ge 33, 3) := by decide +kernel
theorem dX8_isSo_24 : decode cX8_isSo 24 = .ok (.aload_n 0, 1) := by decide +kernel
theorem dX8_isSo_25 : decode cX8_isSo 25 = .ok (.getfield 53, 3) := by decide +kernel
theorem dX8_isSo_28 : decode cX8_isSo 28 = .ok (.iload 4, 2) := by decide +kernel
theorem dX8_isSo_30 : decode cX8_isSo 30 = .ok (.iaload, 1) := by decide +kernel
theorem dX8_isSo_31 : decode cX8_isSo 31 = .ok (.aload_n 0, 1) := by decide +kernel
theorem dX8_isSo_32 : decode cX8_isSo 32 = .ok (.getfield 97, 3) := by decide +kernel
theorem dX8_isSo_35 : decode cX8_isSo 35 = .ok (.bipush 40, 2) := by decide +kernel
theorem dX8_isSo_37 : decode cX8_isSo 37 = .ok (.iload_n 1, 1) := by decide +kernel
theorem dX8_isSo_38 : decode cX8_isSo 38 = .ok (.imul, 1) := by decide +kernel
theorem dX8_isSo_39 : decode cX8_isSo 39 = .ok (.iload 4, 2) := by decide +kernel
theorem dX8_isSo_41 : decode cX8_isSo 41 = .ok (.iadd, 1) := by decide +kernel
theorem dX8_isSo_42 : decode cX8_isSo 42 = .ok (.iaload, 1) := by decide +kernel
theorem dX8_isSo_43 : decode cX8_isSo 43 = .ok (.if_icmp .eq 5, 3) := by decide +kernel
theorem dX8_isSo_46 : decode cX8_isSo 46 = .ok (.iconst 0, 1) := by decide +kernel
theorem dX8_isSo_47 : decode cX8_isSo 47 = .ok (.ireturn, 1) := by decide +kernel
theorem dX8_isSo_48 : decode cX8_isSo 48 = .ok (.iinc 4 1, 3) := by decide +kernel
theorem dX8_isSo_51 : decode cX8_isSo 51 = .ok (.goto (-36), 3) := by decide +kernel
theorem dX8_isSo_54 : decode cX8_isSo 54 = .ok (.iconst 1, 1) := by decide +kernel
theorem dX8_isSo_55 : decode cX8_isSo 55 = .ok (.ireturn, 1) := by decide +kernel
theorem dX8_seen_0 : decode cX8_seen 0 = .ok (.iload_n 1, 1) := by decide +kernel
theorem dX8_seen_1 : decode cX8_seen 1 = .ok (.invokestatic 354, 3) := by decide +kernel
theorem dX8_seen_4 : decode cX8_seen 4 = .ok (.ifCond .eq 20, 3) := by decide +kernel
theorem dX8_seen_7 : decode cX8_seen 7 = .ok (.iload_n 2, 1) := by decide +kernel
theorem dX8_seen_8 : decode cX8_seen 8 = .ok (.invokestatic 123, 3) := by decide +kernel
theorem dX8_seen_11 : decode cX8_seen 11 = .ok (.ifCond .eq 13, 3) := by decide +kernel
theorem dX8_seen_14 : decode cX8_seen 14 = .ok (.iload_n 3, 1) := by decide +kernel
theorem dX8_seen_15 : decode cX8_seen 15 = .ok (.i2l, 1) := by decide +kernel
theorem dX8_seen_16 : decode cX8_seen 16 = .ok (.lconst 0, 1) := by decide +kernel
theorem dX8_seen_17 : decode cX8_seen 17 = .ok (.lconst 1, 1) := by decide +kernel
theorem dX8_seen_18 : decode cX8_seen 18 = .ok (.invokestatic 110, 3) := by decide +kernel
theorem dX8_seen_21 : decode cX8_seen 21 = .ok (.ifCond .ne 6, 3) := by decide +kernel
theorem dX8_seen_24 : decode cX8_seen 24 = .ok (.bipush (-2), 2) := by decide +kernel
theorem dX8_seen_26 : decode cX8_seen 26 = .ok (.ireturn, 1) := by decide +kernel
theorem dX8_seen_27 : decode cX8_seen 27 = .ok (.aload_n 0, 1) := by decide +kernel
theorem dX8_seen_28 : decode cX8_seen 28 = .ok (.iload_n 1, 1) := by decide +kernel
theorem dX8_seen_29 : decode cX8_seen 29 = .ok (.iload_n 2, 1) := by decide +kernel
theorem dX8_seen_30 : decode cX8_seen 30 = .ok (.invokevirtual 357, 3) := by decide +kernel
theorem dX8_seen_33 : decode cX8_seen 33 = .ok (.istore 4, 2) := by decide +kernel
theorem dX8_seen_35 : decode cX8_seen 35 = .ok (.iload 4, 2) := by decide +kernel
theorem dX8_seen_37 : decode cX8_seen 37 = .ok (.ifCond .eq 6, 3) := by decide +kernel
theorem dX8_seen_40 : decode cX8_seen 40 = .ok (.iload 4, 2) := by decide +kernel
theorem dX8_seen_42 : decode cX8_seen 42 = .ok (.ireturn, 1) := by decide +kernel
theorem dX8_seen_43 : decode cX8_seen 43 = .ok (.iconst 0, 1) := by decide +kernel
theorem dX8_seen_44 : decode cX8_seen 44 = .ok (.istore 5, 2) := by decide +kernel
theorem dX8_seen_46 : decode cX8_seen 46 = .ok (.iconst (-1), 1) := by decide +kernel
theorem dX8_seen_47 : decode cX8_seen 47 = .ok (.istore 6, 2) := by decide +kernel
theorem dX8_seen_49 : decode cX8_seen 49 = .ok (.iconst 0, 1) := by decide +kernel
theorem dX8_seen_50 : decode cX8_seen 50 = .ok (.istore 7, 2) := by decide +kernel
theorem dX8_seen_52 : decode cX8_seen 52 = .ok (.iload 7, 2) := by decide +kernel
theorem dX8_seen_54 : decode cX8_seen 54 = .ok (.aload_n 0, 1) := by decide +kernel
theorem dX8_seen_55 : decode cX8_seen 55 = .ok (.invokevirtual 321, 3) := by decide +kernel
theorem dX8_seen_58 : decode cX8_seen 58 = .ok (.if_icmp .gt 38, 3) := by decide +kernel
theorem dX8_seen_61 : decode cX8_seen 61 = .ok (.aload_n 0, 1) := by decide +kernel
theorem dX8_seen_62 : decode cX8_seen 62 = .ok (.iload_n 1, 1) := by decide +kernel
theorem dX8_seen_63 : decode cX8_seen 63 = .ok (.iload_n 2, 1) := by decide +kernel
theorem dX8_seen_64 : decode cX8_seen 64 = .ok (.iload 7, 2) := by decide +kernel
theorem dX8_seen_66 : decode cX8_seen 66 = .ok (.invokevirtual 360, 3) := by decide +kernel
theorem dX8_seen_69 : decode cX8_seen 69 = .ok (.ifCond .eq 21, 3) := by decide +kernel
theorem dX8_seen_72 : decode cX8_seen 72 = .ok (.iinc 5 1, 3) := by decide +kernel
theorem dX8_seen_75 : decode cX8_seen 75 = .ok (.iload 6, 2) := by decide +kernel
theorem dX8_seen_77 : decode cX8_seen 77 = .ok (.iconst (-1), 1) := by decide +kernel
theorem dX8_seen_78 : decode cX8_seen 78 = .ok (.if_icmp .ne 8, 3) := by decide +kernel
theorem dX8_seen_81 : decode cX8_seen 81 = .ok (.iload 7, 2) := by decide +kernel
theorem dX8_seen_83 : decode cX8_seen 83 = .ok (.goto 5, 3) := by decide +kernel
theorem dX8_seen_86 : decode cX8_seen 86 = .ok (.iload 6, 2) := by decide +kernel
theorem dX8_seen_88 : decode cX8_seen 88 = .ok (.istore 6, 2) := by decide +kernel
theorem dX8_seen_90 : decode cX8_seen 90 = .ok (.iinc 7 1, 3) := by decide +kernel
theorem dX8_seen_93 : decode cX8_seen 93 = .ok (.goto (-41), 3) := by decide +kernel
theorem dX8_seen_96 : decode cX8_seen 96 = .ok (.iload_n 3, 1) := by decide +kernel
theorem dX8_seen_97 : decode cX8_seen 97 = .ok (.ifCond .ne 8, 3) := by decide +kernel
theorem dX8_seen_100 : decode cX8_seen 100 = .ok (.iload 5, 2) := by decide +kernel
theorem dX8_seen_102 : decode cX8_seen 102 = .ok (.goto 5, 3) := by decide +kernel
theorem dX8_seen_105 : decode cX8_seen 105 = .ok (.iload 6, 2) := by decide +kernel
theorem dX8_seen_107 : decode cX8_seen 107 = .ok (.ireturn, 1) := by decide +kernel
theorem dX8_strange_0 : decode cX8_strange 0 = .ok (.aload_n 0, 1) := by decide +kernel
theorem dX8_strange_1 : decode cX8_strange 1 = .ok (.iload_n 1, 1) := by decide +kernel
theorem dX8_strange_2 : decode cX8_strange 2 = .ok (.iload_n 2, 1) := by decide +kernel
theorem dX8_strange_3 : decode cX8_strange 3 = .ok (.invokevirtual 357, 3) := by decide +kernel
theorem dX8_strange_6 : decode cX8_strange 6 = .ok (.istore_n 3, 1) := by decide +kernel
theorem dX8_strange_7 : decode cX8_strange 7 = .ok (.iload_n 3, 1) := by decide +kernel
theorem dX8_strange_8 : decode cX8_strange 8 = .ok (.ifCond .eq 5, 3) := by decide +kernel
theorem dX8_strange_11 : decode cX8_strange 11 = .ok (.iload_n 3, 1) := by decide +kernel
theorem dX8_strange_12 : decode cX8_strange 12 = .ok (.ireturn, 1) := by decide +kernel
theorem dX8_strange_13 : decode cX8_strange 13 = .ok (.iconst 0, 1) := by decide +kernel
theorem dX8_strange_14 : decode cX8_strange 14 = .ok (.istore 4, 2) := by decide +kernel
theorem dX8_strange_16 : decode cX8_strange 16 = .ok (.iload 4, 2) := by decide +kernel
theorem dX8_strange_18 : decode cX8_strange 18 = .ok (.aload_n 0, 1) := by decide +kernel
theorem dX8_strange_19 : decode cX8_strange 19 = .ok (.getfield 107, 3) := by decide +kernel
theorem dX8_strange_22 : decode cX8_strange 22 = .ok (.if_icmp .ge 32, 3) := by decide +kernel
theorem dX8_strange_25 : decode cX8_strange 25 = .ok (.aload_n 0, 1) := by decide +kernel
theorem dX8_strange_26 : decode cX8_strange 26 = .ok (.iload_n 1, 1) := by decide +kernel
theorem dX8_strange_27 : decode cX8_strange 27 = .ok (.iload_n 2, 1) := by decide +kernel
theorem dX8_strange_28 : decode cX8_strange 28 = .ok (.aload_n 0, 1) := by decide +kernel
theorem dX8_strange_29 : decode cX8_strange 29 = .ok (.invokevirtual 321, 3) := by decide +kernel
theorem dX8_strange_32 : decode cX8_strange 32 = .ok (.iconst 1, 1) := by decide +kernel
theorem dX8_strange_33 : decode cX8_strange 33 = .ok (.iload 4, 2) := by decide +kernel
theorem dX8_strange_35 : decode cX8_strange 35 = .ok (.ishl, 1) := by decide +kernel
theorem dX8_strange_36 : decode cX8_strange 36 = .ok (.iconst (-1), 1) := by decide +kernel
theorem dX8_strange_37 : decode cX8_strange 37 = .ok (.ixor, 1) := by decide +kernel
theorem dX8_strange_38 : decode cX8_strange 38 = .ok (.iand, 1) := by decide +kernel
theorem dX8_strange_39 : decode cX8_strange 39 = .ok (.invokevirtual 360, 3) := by decide +kernel
theorem dX8_strange_42 : decode cX8_strange 42 = .ok (.ifCond .eq 6, 3) := by decide +kernel
theorem dX8_strange_45 : decode cX8_strange 45 = .ok (.iload 4, 2) := by decide +kernel
theorem dX8_strange_47 : decode cX8_strange 47 = .ok (.ireturn, 1) := by decide +kernel
theorem dX8_strange_48 : decode cX8_strange 48 = .ok (.iinc 4 1, 3) := by decide +kernel
theorem dX8_strange_51 : decode cX8_strange 51 = .ok (.goto (-35), 3) := by decide +kernel
theorem dX8_strange_54 : decode cX8_strange 54 = .ok (.iconst (-1), 1) := by decide +kernel
theorem dX8_strange_55 : decode cX8_strange 55 = .ok (.ireturn, 1) := by decide +kernel
theorem dX8_draws_0 : decode cX8_draws 0 = .ok (.iconst 0, 1) := by decide +kernel
theorem dX8_draws_1 : decode cX8_draws 1 = .ok (.istore_n 2, 1) := by decide +kernel
theorem dX8_draws_2 : decode cX8_draws 2 = .ok (.iload_n 2, 1) := by decide +kernel
theorem dX8_draws_3 : decode cX8_draws 3 = .ok (.bipush 24, 2) := by decide +kernel
theorem dX8_draws_5 : decode cX8_draws 5 = .ok (.if_icmp .ge 21, 3) := by decide +kernel
theorem dX8_draws_8 : decode cX8_draws 8 = .ok (.aload_n 0, 1) := by decide +kernel
theorem dX8_draws_9 : decode cX8_draws 9 = .ok (.getfield 72, 3) := by decide +kernel
theorem dX8_draws_12 : decode cX8_draws 12 = .ok (.iload_n 2, 1) := by decide +kernel
theorem dX8_draws_13 : decode cX8_draws 13 = .ok (.aload_n 0, 1) := by decide +kernel
theorem dX8_draws_14 : decode cX8_draws 14 = .ok (.getfield 23, 3) := by decide +kernel
theorem dX8_draws_17 : decode cX8_draws 17 = .ok (.iload_n 2, 1) := by decide +kernel
theorem dX8_draws_18 : decode cX8_draws 18 = .ok (.iaload, 1) := by decide +kernel
theorem dX8_draws_19 : decode cX8_draws 19 = .ok (.iastore, 1) := by decide +kernel
theorem dX8_draws_20 : decode cX8_draws 20 = .ok (.iinc 2 1, 3) := by decide +kernel
theorem dX8_draws_23 : decode cX8_draws 23 = .ok (.goto (-21), 3) := by decide +kernel
theorem dX8_draws_26 : decode cX8_draws 26 = .ok (.iload_n 1, 1) := by decide +kernel
theorem dX8_draws_27 : decode cX8_draws 27 = .ok (.istore_n 2, 1) := by decide +kernel
theorem dX8_draws_28 : decode cX8_draws 28 = .ok (.iconst 0, 1) := by decide +kernel
theorem dX8_draws_29 : decode cX8_draws 29 = .ok (.istore_n 3, 1) := by decide +kernel
theorem dX8_draws_30 : decode cX8_draws 30 = .ok (.iload_n 3, 1) := by decide +kernel
theorem dX8_draws_31 : decode cX8_draws 31 = .ok (.bipush 24, 2) := by decide +kernel
theorem dX8_draws_33 : decode cX8_draws 33 = .ok (.if_icmp .ge 32, 3) := by decide +kernel
theorem dX8_draws_36 : decode cX8_draws 36 = .ok (.iload_n 2, 1) := by decide +kernel
theorem dX8_draws_37 : decode cX8_draws 37 = .ok (.ldc_w 364, 3) := by decide +kernel
theorem dX8_draws_40 : decode cX8_draws 40 = .ok (.imul, 1) := by decide +kernel
theorem dX8_draws_41 : decode cX8_draws 41 = .ok (.sipush 12345, 3) := by decide +kernel
theorem dX8_draws_44 : decode cX8_draws 44 = .ok (.iadd, 1) := by decide +kernel
theorem dX8_draws_45 : decode cX8_draws 45 = .ok (.istore_n 2, 1) := by decide +kernel
theorem dX8_draws_46 : decode cX8_draws 46 = .ok (.aload_n 0, 1) := by decide +kernel
theorem dX8_draws_47 : decode cX8_draws 47 = .ok (.getfield 23, 3) := by decide +kernel
theorem dX8_draws_50 : decode cX8_draws 50 = .ok (.iload_n 3, 1) := by decide +kernel
theorem dX8_draws_51 : decode cX8_draws 51 = .ok (.iload_n 2, 1) := by decide +kernel
theorem dX8_draws_52 : decode cX8_draws 52 = .ok (.bipush 9, 2) := by decide +kernel
theorem dX8_draws_54 : decode cX8_draws 54 = .ok (.iushr, 1) := by decide +kernel
theorem dX8_draws_55 : decode cX8_draws 55 = .ok (.bipush 10, 2) := by decide +kernel
theorem dX8_draws_57 : decode cX8_draws 57 = .ok (.irem, 1) := by decide +kernel
theorem dX8_draws_58 : decode cX8_draws 58 = .ok (.iastore, 1) := by decide +kernel
theorem dX8_draws_59 : decode cX8_draws 59 = .ok (.iinc 3 1, 3) := by decide +kernel
theorem dX8_draws_62 : decode cX8_draws 62 = .ok (.goto (-32), 3) := by decide +kernel
theorem dX8_draws_65 : decode cX8_draws 65 = .ok (.aload_n 0, 1) := by decide +kernel
theorem dX8_draws_66 : decode cX8_draws 66 = .ok (.invokevirtual 330, 3) := by decide +kernel
theorem dX8_draws_69 : decode cX8_draws 69 = .ok (.istore_n 3, 1) := by decide +kernel
theorem dX8_draws_70 : decode cX8_draws 70 = .ok (.iconst 0, 1) := by decide +kernel
theorem dX8_draws_71 : decode cX8_draws 71 = .ok (.istore 4, 2) := by decide +kernel
theorem dX8_draws_73 : decode cX8_draws 73 = .ok (.iload 4, 2) := by decide +kernel
theorem dX8_draws_75 : decode cX8_draws 75 = .ok (.bipush 24, 2) := by decide +kernel
theorem dX8_draws_77 : decode cX8_draws 77 = .ok (.if_icmp .ge 23, 3) := by decide +kernel
theorem dX8_draws_80 : decode cX8_draws 80 = .ok (.aload_n 0, 1) := by decide +kernel
theorem dX8_draws_81 : decode cX8_draws 81 = .ok (.getfield 23, 3) := by decide +kernel
theorem dX8_draws_84 : decode cX8_draws 84 = .ok (.iload 4, 2) := by decide +kernel
theorem dX8_draws_86 : decode cX8_draws 86 = .ok (.aload_n 0, 1) := by decide +kernel
theorem dX8_draws_87 : decode cX8_draws 87 = .ok (.getfield 72, 3) := by decide +kernel
theorem dX8_draws_90 : decode cX8_draws 90 = .ok (.iload 4, 2) := by decide +kernel
theorem dX8_draws_92 : decode cX8_draws 92 = .ok (.iaload, 1) := by decide +kernel
theorem dX8_draws_93 : decode cX8_draws 93 = .ok (.iastore, 1) := by decide +kernel
theorem dX8_draws_94 : decode cX8_draws 94 = .ok (.iinc 4 1, 3) := by decide +kernel
theorem dX8_draws_97 : decode cX8_draws 97 = .ok (.goto (-24), 3) := by decide +kernel
theorem dX8_draws_100 : decode cX8_draws 100 = .ok (.iload_n 3, 1) := by decide +kernel
theorem dX8_draws_101 : decode cX8_draws 101 = .ok (.ireturn, 1) := by decide +kernel
theorem dX8_drawn_0 : decode cX8_drawn 0 = .ok (.aload_n 0, 1) := by decide +kernel
theorem dX8_drawn_1 : decode cX8_drawn 1 = .ok (.iload_n 1, 1) := by decide +kernel
theorem dX8_drawn_2 : decode cX8_drawn 2 = .ok (.invokevirtual 365, 3) := by decide +kernel
theorem dX8_drawn_5 : decode cX8_drawn 5 = .ok (.ireturn, 1) := by decide +kernel
theorem dX8_chance_0 : decode cX8_chance 0 = .ok (.iload_n 2, 1) := by decide +kernel
theorem dX8_chance_1 : decode cX8_chance 1 = .ok (.i2l, 1) := by decide +kernel
theorem dX8_chance_2 : decode cX8_chance 2 = .ok (.lconst 1, 1) := by decide +kernel
theorem dX8_chance_3 : decode cX8_chance 3 = .ok (.ldc2_w 368, 3) := by decide +kernel
theorem dX8_chance_6 : decode cX8_chance 6 = .ok (.invokestatic 110, 3) := by decide +kernel
theorem dX8_chance_9 : decode cX8_chance 9 = .ok (.ifCond .eq 13, 3) := by decide +kernel
theorem dX8_chance_12 : decode cX8_chance 12 = .ok (.iload_n 3, 1) := by decide +kernel
theorem dX8_chance_13 : decode cX8_chance 13 = .ok (.i2l, 1) := by decide +kernel
theorem dX8_chance_14 : decode cX8_chance 14 = .ok (.lconst 0, 1) := by decide +kernel
theorem dX8_chance_15 : decode cX8_chance 15 = .ok (.lconst 1, 1) := by decide +kernel
theorem dX8_chance_16 : decode cX8_chance 16 = .ok (.invokestatic 110, 3) := by decide +kernel
theorem dX8_chance_19 : decode cX8_chance 19 = .ok (.ifCond .ne 7, 3) := by decide +kernel
theorem dX8_chance_22 : decode cX8_chance 22 = .ok (.ldc2_w 370, 3) := by decide +kernel
theorem dX8_chance_25 : decode cX8_chance 25 = .ok (.lreturn, 1) := by decide +kernel
theorem dX8_chance_26 : decode cX8_chance 26 = .ok (.lconst 0, 1) := by decide +kernel
theorem dX8_chance_27 : decode cX8_chance 27 = .ok (.lstore 4, 2) := by decide +kernel
theorem dX8_chance_29 : decode cX8_chance 29 = .ok (.iconst 0, 1) := by decide +kernel
theorem dX8_chance_30 : decode cX8_chance 30 = .ok (.istore 6, 2) := by decide +kernel
theorem dX8_chance_32 : decode cX8_chance 32 = .ok (.iload 6, 2) := by decide +kernel
theorem dX8_chance_34 : decode cX8_chance 34 = .ok (.iload_n 2, 1) := by decide +kernel
theorem dX8_chance_35 : decode cX8_chance 35 = .ok (.if_icmp .ge 35, 3) := by decide +kernel
theorem dX8_chance_38 : decode cX8_chance 38 = .ok (.aload_n 0, 1) := by decide +kernel
theorem dX8_chance_39 : decode cX8_chance 39 = .ok (.iload_n 1, 1) := by decide +kernel
theorem dX8_chance_40 : decode cX8_chance 40 = .ok (.iload 6, 2) := by decide +kernel
theorem dX8_chance_42 : decode cX8_chance 42 = .ok (.iadd, 1) := by decide +kernel
theorem dX8_chance_43 : decode cX8_chance 43 = .ok (.invokevirtual 365, 3) := by decide +kernel
theorem dX8_chance_46 : decode cX8_chance 46 = .ok (.pop, 1) := by decide +kernel
theorem dX8_chance_47 : decode cX8_chance 47 = .ok (.lload 4, 2) := by decide +kernel
theorem dX8_chance_49 : decode cX8_chance 49 = .ok (.aload_n 0, 1) := by decide +kernel
theorem dX8_chance_50 : decode cX8_chance 50 = .ok (.getfield 304, 3) := by decide +kernel
theorem dX8_chance_53 : decode cX8_chance 53 = .ok (.ifCond .ne 7, 3) := by decide +kernel
theorem dX8_chance_56 : decode cX8_chance 56 = .ok (.lconst 1, 1) := by decide +kernel
theorem dX8_chance_57 : decode cX8_chance 57 = .ok (.goto 4, 3) := by decide +kernel
theorem dX8_chance_60 : decode cX8_chance 60 = .ok (.lconst 0, 1) := by decide +kernel
theorem dX8_chance_61 : decode cX8_chance 61 = .ok (.ladd, 1) := by decide +kernel
theorem dX8_chance_62 : decode cX8_chance 62 = .ok (.lstore 4, 2) := by decide +kernel
theorem dX8_chance_64 : decode cX8_chance 64 = .ok (.iinc 6 1, 3) := by decide +kernel
theorem dX8_chance_67 : decode cX8_chance 67 = .ok (.goto (-35), 3) := by decide +kernel
theorem dX8_chance_70 : decode cX8_chance 70 = .ok (.lload 4, 2) := by decide +kernel
theorem dX8_chance_72 : decode cX8_chance 72 = .ok (.lstore 6, 2) := by decide +kernel
theorem dX8_chance_74 : decode cX8_chance 74 = .ok (.iload_n 2, 1) := by decide +kernel
theorem dX8_chance_75 : decode cX8_chance 75 = .ok (.i2l, 1) := by decide +kernel
theorem dX8_chance_76 : decode cX8_chance 76 = .ok (.lstore 8, 2) := by decide +kernel
theorem dX8_chance_78 : decode cX8_chance 78 = .ok (.lload 8, 2) := by decide +kernel
theorem dX8_chance_80 : decode cX8_chance 80 = .ok (.lconst 0, 1) := by decide +kernel
theorem dX8_chance_81 : decode cX8_chance 81 = .ok (.lcmp, 1) := by decide +kernel
theorem dX8_chance_82 : decode cX8_chance 82 = .ok (.ifCond .eq 21, 3) := by decide +kernel
theorem dX8_chance_85 : decode cX8_chance 85 = .ok (.lload 6, 2) := by decide +kernel
theorem dX8_chance_87 : decode cX8_chance 87 = .ok (.lload 8, 2) := by decide +kernel
theorem dX8_chance_89 : decode cX8_chance 89 = .ok (.lrem, 1) := by decide +kernel
theorem dX8_chance_90 : decode cX8_chance 90 = .ok (.lstore 10, 2) := by decide +kernel
theorem dX8_chance_92 : decode cX8_chance 92 = .ok (.lload 8, 2) := by decide +kernel
theorem dX8_chance_94 : decode cX8_chance 94 = .ok (.lstore 6, 2) := by decide +kernel
theorem dX8_chance_96 : decode cX8_chance 96 = .ok (.lload 10, 2) := by decide +kernel
theorem dX8_chance_98 : decode cX8_chance 98 = .ok (.lstore 8, 2) := by decide +kernel
theorem dX8_chance_100 : decode cX8_chance 100 = .ok (.goto (-22), 3) := by decide +kernel
theorem dX8_chance_103 : decode cX8_chance 103 = .ok (.iload_n 3, 1) := by decide +kernel
theorem dX8_chance_104 : decode cX8_chance 104 = .ok (.ifCond .ne 11, 3) := by decide +kernel
theorem dX8_chance_107 : decode cX8_chance 107 = .ok (.lload 4, 2) := by decide +kernel
theorem dX8_chance_109 : decode cX8_chance 109 = .ok (.lload 6, 2) := by decide +kernel
theorem dX8_chance_111 : decode cX8_chance 111 = .ok (.ldiv, 1) := by decide +kernel
theorem dX8_chance_112 : decode cX8_chance 112 = .ok (.goto 8, 3) := by decide +kernel
theorem dX8_chance_115 : decode cX8_chance 115 = .ok (.iload_n 2, 1) := by decide +kernel
theorem dX8_chance_116 : decode cX8_chance 116 = .ok (.i2l, 1) := by decide +kernel
theorem dX8_chance_117 : decode cX8_chance 117 = .ok (.lload 6, 2) := by decide +kernel
theorem dX8_chance_119 : decode cX8_chance 119 = .ok (.ldiv, 1) := by decide +kernel
theorem dX8_chance_120 : decode cX8_chance 120 = .ok (.lreturn, 1) := by decide +kernel
theorem dX8_image_0 : decode cX8_image 0 = .ok (.iconst 0, 1) := by decide +kernel
theorem dX8_image_1 : decode cX8_image 1 = .ok (.istore_n 1, 1) := by decide +kernel
theorem dX8_image_2 : decode cX8_image 2 = .ok (.iload_n 1, 1) := by decide +kernel
theorem dX8_image_3 : decode cX8_image 3 = .ok (.bipush 24, 2) := by decide +kernel
theorem dX8_image_5 : decode cX8_image 5 = .ok (.if_icmp .ge 21, 3) := by decide +kernel
theorem dX8_image_8 : decode cX8_image 8 = .ok (.aload_n 0, 1) := by decide +kernel
theorem dX8_image_9 : decode cX8_image 9 = .ok (.getfield 75, 3) := by decide +kernel
theorem dX8_image_12 : decode cX8_image 12 = .ok (.iload_n 1, 1) := by decide +kernel
theorem dX8_image_13 : decode cX8_image 13 = .ok (.aload_n 0, 1) := by decide +kernel
theorem dX8_image_14 : decode cX8_image 14 = .ok (.getfield 23, 3) := by decide +kernel
theorem dX8_image_17 : decode cX8_image 17 = .ok (.iload_n 1, 1) := by decide +kernel
theorem dX8_image_18 : decode cX8_image 18 = .ok (.iaload, 1) := by decide +kernel
theorem dX8_image_19 : decode cX8_image 19 = .ok (.iastore, 1) := by decide +kernel
theorem dX8_image_20 : decode cX8_image 20 = .ok (.iinc 1 1, 3) := by decide +kernel
theorem dX8_image_23 : decode cX8_image 23 = .ok (.goto (-21), 3) := by decide +kernel
theorem dX8_image_26 : decode cX8_image 26 = .ok (.iconst 0, 1) := by decide +kernel
theorem dX8_image_27 : decode cX8_image 27 = .ok (.istore_n 1, 1) := by decide +kernel
theorem dX8_image_28 : decode cX8_image 28 = .ok (.iload_n 1, 1) := by decide +kernel
theorem dX8_image_29 : decode cX8_image 29 = .ok (.bipush 6, 2) := by decide +kernel
theorem dX8_image_31 : decode cX8_image 31 = .ok (.if_icmp .ge 51, 3) := by decide +kernel
theorem dX8_image_34 : decode cX8_image 34 = .ok (.aload_n 0, 1) := by decide +kernel
theorem dX8_image_35 : decode cX8_image 35 = .ok (.getfield 78, 3) := by decide +kernel
theorem dX8_image_38 : decode cX8_image 38 = .ok (.iload_n 1, 1) := by decide +kernel
theorem dX8_image_39 : decode cX8_image 39 = .ok (.aload_n 0, 1) := by decide +kernel
theorem dX8_image_40 : decode cX8_image 40 = .ok (.getfield 32, 3) := by decide +kernel
theorem dX8_image_43 : decode cX8_image 43 = .ok (.iload_n 1, 1) := by decide +kernel
theorem dX8_image_44 : decode cX8_image 44 = .ok (.iaload, 1) := by decide +kernel
theorem dX8_image_45 : decode cX8_image 45 = .ok (.iastore, 1) := by decide +kernel
theorem dX8_image_46 : decode cX8_image 46 = .ok (.aload_n 0, 1) := by decide +kernel
theorem dX8_image_47 : decode cX8_image 47 = .ok (.getfield 78, 3) := by decide +kernel
theorem dX8_image_50 : decode cX8_image 50 = .ok (.bipush 6, 2) := by decide +kernel
theorem dX8_image_52 : decode cX8_image 52 = .ok (.iload_n 1, 1) := by decide +kernel
theorem dX8_image_53 : decode cX8_image 53 = .ok (.iadd, 1) := by decide +kernel
theorem dX8_image_54 : decode cX8_image 54 = .ok (.aload_n 0, 1) := by decide +kernel
theorem dX8_image_55 : decode cX8_image 55 = .ok (.getfield 35, 3) := by decide +kernel
theorem dX8_image_58 : decode cX8_image 58 = .ok (.iload_n 1, 1) := by decide +kernel
theorem dX8_image_59 : decode cX8_image 59 = .ok (.iaload, 1) := by decide +kernel
theorem dX8_image_60 : decode cX8_image 60 = .ok (.iastore, 1) := by decide +kernel
theorem dX8_image_61 : decode cX8_image 61 = .ok (.aload_n 0, 1) := by decide +kernel
theorem dX8_image_62 : decode cX8_image 62 = .ok (.getfield 78, 3) := by decide +kernel
theorem dX8_image_65 : decode cX8_image 65 = .ok (.bipush 12, 2) := by decide +kernel
theorem dX8_image_67 : decode cX8_image 67 = .ok (.iload_n 1, 1) := by decide +kernel
theorem dX8_image_68 : decode cX8_image 68 = .ok (.iadd, 1) := by decide +kernel
theorem dX8_image_69 : decode cX8_image 69 = .ok (.aload_n 0, 1) := by decide +kernel
theorem dX8_image_70 : decode cX8_image 70 = .ok (.getfield 38, 3) := by decide +kernel
theorem dX8_image_73 : decode cX8_image 73 = .ok (.iload_n 1, 1) := by decide +kernel
theorem dX8_image_74 : decode cX8_image 74 = .ok (.iaload, 1) := by decide +kernel
theorem dX8_image_75 : decode cX8_image 75 = .ok (.iastore, 1) := by decide +kernel
theorem dX8_image_76 : decode cX8_image 76 = .ok (.iinc 1 1, 3) := by decide +kernel
theorem dX8_image_79 : decode cX8_image 79 = .ok (.goto (-51), 3) := by decide +kernel
theorem dX8_image_82 : decode cX8_image 82 = .ok (.iconst 0, 1) := by decide +kernel
theorem dX8_image_83 : decode cX8_image 83 = .ok (.istore_n 1, 1) := by decide +kernel
theorem dX8_image_84 : decode cX8_image 84 = .ok (.iload_n 1, 1) := by decide +kernel
theorem dX8_image_85 : decode cX8_image 85 = .ok (.iconst 5, 1) := by decide +kernel
theorem dX8_image_86 : decode cX8_image 86 = .ok (.if_icmp .ge 35, 3) := by decide +kernel
theorem dX8_image_89 : decode cX8_image 89 = .ok (.aload_n 0, 1) := by decide +kernel
theorem dX8_image_90 : decode cX8_image 90 = .ok (.getfield 81, 3) := by decide +kernel
theorem dX8_image_93 : decode cX8_image 93 = .ok (.iload_n 1, 1) := by decide +kernel
theorem dX8_image_94 : decode cX8_image 94 = .ok (.aload_n 0, 1) := by decide +kernel
theorem dX8_image_95 : decode cX8_image 95 = .ok (.getfield 44, 3) := by decide +kernel
theorem dX8_image_98 : decode cX8_image 98 = .ok (.iload_n 1, 1) := by decide +kernel
theorem dX8_image_99 : decode cX8_image 99 = .ok (.iaload, 1) := by decide +kernel
theorem dX8_image_100 : decode cX8_image 100 = .ok (.iastore, 1) := by decide +kernel
theorem dX8_image_101 : decode cX8_image 101 = .ok (.aload_n 0, 1) := by decide +kernel
theorem dX8_image_102 : decode cX8_image 102 = .ok (.getfield 81, 3) := by decide +kernel
theorem dX8_image_105 : decode cX8_image 105 = .ok (.iconst 5, 1) := by decide +kernel
theorem dX8_image_106 : decode cX8_image 106 = .ok (.iload_n 1, 1) := by decide +kernel
theorem dX8_image_107 : decode cX8_image 107 = .ok (.iadd, 1) := by decide +kernel
theorem dX8_image_108 : decode cX8_image 108 = .ok (.aload_n 0, 1) := by decide +kernel
theorem dX8_image_109 : decode cX8_image 109 = .ok (.getfield 47, 3) := by decide +kernel
theorem dX8_image_112 : decode cX8_image 112 = .ok (.iload_n 1, 1) := by decide +kernel
theorem dX8_image_113 : decode cX8_image 113 = .ok (.iaload, 1) := by decide +kernel
theorem dX8_image_114 : decode cX8_image 114 = .ok (.iastore, 1) := by decide +kernel
theorem dX8_image_115 : decode cX8_image 115 = .ok (.iinc 1 1, 3) := by decide +kernel
theorem dX8_image_118 : decode cX8_image 118 = .ok (.goto (-34), 3) := by decide +kernel
theorem dX8_image_121 : decode cX8_image 121 = .ok (.aload_n 0, 1) := by decide +kernel
theorem dX8_image_122 : decode cX8_image 122 = .ok (.aload_n 0, 1) := by decide +kernel
theorem dX8_image_123 : decode cX8_image 123 = .ok (.getfield 107, 3) := by decide +kernel
theorem dX8_image_126 : decode cX8_image 126 = .ok (.putfield 84, 3) := by decide +kernel
theorem dX8_image_129 : decode cX8_image 129 = .ok (.aload_n 0, 1) := by decide +kernel
theorem dX8_image_130 : decode cX8_image 130 = .ok (.aload_n 0, 1) := by decide +kernel
theorem dX8_image_131 : decode cX8_image 131 = .ok (.getfield 114, 3) := by decide +kernel
theorem dX8_image_134 : decode cX8_image 134 = .ok (.putfield 372, 3) := by decide +kernel
theorem dX8_image_137 : decode cX8_image 137 = .ok (.aload_n 0, 1) := by decide +kernel
theorem dX8_image_138 : decode cX8_image 138 = .ok (.aload_n 0, 1) := by decide +kernel
theorem dX8_image_139 : decode cX8_image 139 = .ok (.getfield 136, 3) := by decide +kernel
theorem dX8_image_142 : decode cX8_image 142 = .ok (.putfield 375, 3) := by decide +kernel
theorem dX8_image_145 : decode cX8_image 145 = .ok (.aload_n 0, 1) := by decide +kernel
theorem dX8_image_146 : decode cX8_image 146 = .ok (.aload_n 0, 1) := by decide +kernel
theorem dX8_image_147 : decode cX8_image 147 = .ok (.getfield 26, 3) := by decide +kernel
theorem dX8_image_150 : decode cX8_image 150 = .ok (.putfield 378, 3) := by decide +kernel
theorem dX8_image_153 : decode cX8_image 153 = .ok (.aload_n 0, 1) := by decide +kernel
theorem dX8_image_154 : decode cX8_image 154 = .ok (.aload_n 0, 1) := by decide +kernel
theorem dX8_image_155 : decode cX8_image 155 = .ok (.getfield 139, 3) := by decide +kernel
theorem dX8_image_158 : decode cX8_image 158 = .ok (.putfield 381, 3) := by decide +kernel
theorem dX8_image_161 : decode cX8_image 161 = .ok (.aload_n 0, 1) := by decide +kernel
theorem dX8_image_162 : decode cX8_image 162 = .ok (.aload_n 0, 1) := by decide +kernel
theorem dX8_image_163 : decode cX8_image 163 = .ok (.getfield 274, 3) := by decide +kernel
theorem dX8_image_166 : decode cX8_image 166 = .ok (.putfield 384, 3) := by decide +kernel
theorem dX8_image_169 : decode cX8_image 169 = .ok (.aload_n 0, 1) := by decide +kernel
theorem dX8_image_170 : decode cX8_image 170 = .ok (.getfield 107, 3) := by decide +kernel
theorem dX8_image_173 : decode cX8_image 173 = .ok (.ireturn, 1) := by decide +kernel
theorem dX8_back_0 : decode cX8_back 0 = .ok (.aload_n 0, 1) := by decide +kernel
theorem dX8_back_1 : decode cX8_back 1 = .ok (.getfield 84, 3) := by decide +kernel
theorem dX8_back_4 : decode cX8_back 4 = .ok (.iconst (-1), 1) := by decide +kernel
theorem dX8_back_5 : decode cX8_back 5 = .ok (.if_icmp .ne 6, 3) := by decide +kernel
theorem dX8_back_8 : decode cX8_back 8 = .ok (.bipush (-3), 2) := by decide +kernel
theorem dX8_back_10 : decode cX8_back 10 = .ok (.ireturn, 1) := by decide +kernel
theorem dX8_back_11 : decode cX8_back 11 = .ok (.iconst 0, 1) := by decide +kernel
theorem dX8_back_12 : decode cX8_back 12 = .ok (.istore_n 1, 1) := by decide +kernel
theorem dX8_back_13 : decode cX8_back 13 = .ok (.iload_n 1, 1) := by decide +kernel
theorem dX8_back_14 : decode cX8_back 14 = .ok (.bipush 24, 2) := by decide +kernel
theorem dX8_back_16 : decode cX8_back 16 = .ok (.if_icmp .ge 21, 3) := by decide +kernel
theorem dX8_back_19 : decode cX8_back 19 = .ok (.aload_n 0, 1) := by decide +kernel
theorem dX8_back_20 : decode cX8_back 20 = .ok (.getfield 23, 3) := by decide +kernel
theorem dX8_back_23 : decode cX8_back 23 = .ok (.iload_n 1, 1) := by decide +kernel
theorem dX8_back_24 : decode cX8_back 24 = .ok (.aload_n 0, 1) := by decide +kernel
theorem dX8_back_25 : decode cX8_back 25 = .ok (.getfield 75, 3) := by decide +kernel
theorem dX8_back_28 : decode cX8_back 28 = .ok (.iload_n 1, 1) := by decide +kernel
theorem dX8_back_29 : decode cX8_back 29 = .ok (.iaload, 1) := by decide +kernel
theorem dX8_back_30 : decode cX8_back 30 = .ok (.iastore, 1) := by decide +kernel
theorem dX8_back_31 : decode cX8_back 31 = .ok (.iinc 1 1, 3) := by decide +kernel
theorem dX8_back_34 : decode cX8_back 34 = .ok (.goto (-21), 3) := by decide +kernel
theorem dX8_back_37 : decode cX8_back 37 = .ok (.iconst 0, 1) := by decide +kernel
theorem dX8_back_38 : decode cX8_back 38 = .ok (.istore_n 1, 1) := by decide +kernel
theorem dX8_back_39 : decode cX8_back 39 = .ok (.iload_n 1, 1) := by decide +kernel
theorem dX8_back_40 : decode cX8_back 40 = .ok (.bipush 6, 2) := by decide +kernel
theorem dX8_back_42 : decode cX8_back 42 = .ok (.if_icmp .ge 51, 3) := by decide +kernel
theorem dX8_back_45 : decode cX8_back 45 = .ok (.aload_n 0, 1) := by decide +kernel
theorem dX8_back_46 : decode cX8_back 46 = .ok (.getfield 32, 3) := by decide +kernel
theorem dX8_back_49 : decode cX8_back 49 = .ok (.iload_n 1, 1) := by decide +kernel
theorem dX8_back_50 : decode cX8_back 50 = .ok (.aload_n 0, 1) := by decide +kernel
theorem dX8_back_51 : decode cX8_back 51 = .ok (.getfield 78, 3) := by decide +kernel
theorem dX8_back_54 : decode cX8_back 54 = .ok (.iload_n 1, 1) := by decide +kernel
theorem dX8_back_55 : decode cX8_back 55 = .ok (.iaload, 1) := by decide +kernel
theorem dX8_back_56 : decode cX8_back 56 = .ok (.iastore, 1) := by decide +kernel
theorem dX8_back_57 : decode cX8_back 57 = .ok (.aload_n 0, 1) := by decide +kernel
theorem dX8_back_58 : decode cX8_back 58 = .ok (.getfield 35, 3) := by decide +kernel
theorem dX8_back_61 : decode cX8_back 61 = .ok (.iload_n 1, 1) := by decide +kernel
theorem dX8_back_62 : decode cX8_back 62 = .ok (.aload_n 0, 1) := by decide +kernel
theorem dX8_back_63 : decode cX8_back 63 = .ok (.getfield 78, 3) := by decide +kernel
theorem dX8_back_66 : decode cX8_back 66 = .ok (.bipush 6, 2) := by decide +kernel
theorem dX8_back_68 : decode cX8_back 68 = .ok (.iload_n 1, 1) := by decide +kernel
theorem dX8_back_69 : decode cX8_back 69 = .ok (.iadd, 1) := by decide +kernel
theorem dX8_back_70 : decode cX8_back 70 = .ok (.iaload, 1) := by decide +kernel
theorem dX8_back_71 : decode cX8_back 71 = .ok (.iastore, 1) := by decide +kernel
theorem dX8_back_72 : decode cX8_back 72 = .ok (.aload_n 0, 1) := by decide +kernel
theorem dX8_back_73 : decode cX8_back 73 = .ok (.getfield 38, 3) := by decide +kernel
theorem dX8_back_76 : decode cX8_back 76 = .ok (.iload_n 1, 1) := by decide +kernel
theorem dX8_back_77 : decode cX8_back 77 = .ok (.aload_n 0, 1) := by decide +kernel
theorem dX8_back_78 : decode cX8_back 78 = .ok (.getfield 78, 3) := by decide +kernel
theorem dX8_back_81 : decode cX8_back 81 = .ok (.bipush 12, 2) := by decide +kernel
theorem dX8_back_83 : decode cX8_back 83 = .ok (.iload_n 1, 1) := by decide +kernel
theorem dX8_back_84 : decode cX8_back 84 = .ok (.iadd, 1) := by decide +kernel
theorem dX8_back_85 : decode cX8_back 85 = .ok (.iaload, 1) := by decide +kernel
theorem dX8_back_86 : decode cX8_back 86 = .ok (.iastore, 1) := by decide +kernel
theorem dX8_back_87 : decode cX8_back 87 = .ok (.iinc 1 1, 3) := by decide +kernel
theorem dX8_back_90 : decode cX8_back 90 = .ok (.goto (-51), 3) := by decide +kernel
theorem dX8_back_93 : decode cX8_back 93 = .ok (.iconst 0, 1) := by decide +kernel
theorem dX8_back_94 : decode cX8_back 94 = .ok (.istore_n 1, 1) := by decide +kernel
theorem dX8_back_95 : decode cX8_back 95 = .ok (.iload_n 1, 1) := by decide +kernel
theorem dX8_back_96 : decode cX8_back 96 = .ok (.iconst 5, 1) := by decide +kernel
theorem dX8_back_97 : decode cX8_back 97 = .ok (.if_icmp .ge 35, 3) := by decide +kernel
theorem dX8_back_100 : decode cX8_back 100 = .ok (.aload_n 0, 1) := by decide +kernel
theorem dX8_back_101 : decode cX8_back 101 = .ok (.getfield 44, 3) := by decide +kernel
theorem dX8_back_104 : decode cX8_back 104 = .ok (.iload_n 1, 1) := by decide +kernel
theorem dX8_back_105 : decode cX8_back 105 = .ok (.aload_n 0, 1) := by decide +kernel
theorem dX8_back_106 : decode cX8_back 106 = .ok (.getfield 81, 3) := by decide +kernel
theorem dX8_back_109 : decode cX8_back 109 = .ok (.iload_n 1, 1) := by decide +kernel
theorem dX8_back_110 : decode cX8_back 110 = .ok (.iaload, 1) := by decide +kernel
theorem dX8_back_111 : decode cX8_back 111 = .ok (.iastore, 1) := by decide +kernel
theorem dX8_back_112 : decode cX8_back 112 = .ok (.aload_n 0, 1) := by decide +kernel
theorem dX8_back_113 : decode cX8_back 113 = .ok (.getfield 47, 3) := by decide +kernel
theorem dX8_back_116 : decode cX8_back 116 = .ok (.iload_n 1, 1) := by decide +kernel
theorem dX8_back_117 : decode cX8_back 117 = .ok (.aload_n 0, 1) := by decide +kernel
theorem dX8_back_118 : decode cX8_back 118 = .ok (.getfield 81, 3) := by decide +kernel
theorem dX8_back_121 : decode cX8_back 121 = .ok (.iconst 5, 1) := by decide +kernel
theorem dX8_back_122 : decode cX8_back 122 = .ok (.iload_n 1, 1) := by decide +kernel
theorem dX8_back_123 : decode cX8_back 123 = .ok (.iadd, 1) := by decide +kernel
theorem dX8_back_124 : decode cX8_back 124 = .ok (.iaload, 1) := by decide +kernel
theorem dX8_back_125 : decode cX8_back 125 = .ok (.iastore, 1) := by decide +kernel
theorem dX8_back_126 : decode cX8_back 126 = .ok (.iinc 1 1, 3) := by decide +kernel
theorem dX8_back_129 : decode cX8_back 129 = .ok (.goto (-34), 3) := by decide +kernel
theorem dX8_back_132 : decode cX8_back 132 = .ok (.aload_n 0, 1) := by decide +kernel
theorem dX8_back_133 : decode cX8_back 133 = .ok (.aload_n 0, 1) := by decide +kernel
theorem dX8_back_134 : decode cX8_back 134 = .ok (.getfield 84, 3) := by decide +kernel
theorem dX8_back_137 : decode cX8_back 137 = .ok (.putfield 107, 3) := by decide +kernel
theorem dX8_back_140 : decode cX8_back 140 = .ok (.aload_n 0, 1) := by decide +kernel
theorem dX8_back_141 : decode cX8_back 141 = .ok (.aload_n 0, 1) := by decide +kernel
theorem dX8_back_142 : decode cX8_back 142 = .ok (.getfield 372, 3) := by decide +kernel
theorem dX8_back_145 : decode cX8_back 145 = .ok (.putfield 114, 3) := by decide +kernel
theorem dX8_back_148 : decode cX8_back 148 = .ok (.aload_n 0, 1) := by decide +kernel
theorem dX8_back_149 : decode cX8_back 149 = .ok (.aload_n 0, 1) := by decide +kernel
theorem dX8_back_150 : decode cX8_back 150 = .ok (.getfield 375, 3) := by decide +kernel
theorem dX8_back_153 : decode cX8_back 153 = .ok (.putfield 136, 3) := by decide +kernel
theorem dX8_back_156 : decode cX8_back 156 = .ok (.aload_n 0, 1) := by decide +kernel
theorem dX8_back_157 : decode cX8_back 157 = .ok (.aload_n 0, 1) := by decide +kernel
theorem dX8_back_158 : decode cX8_back 158 = .ok (.getfield 378, 3) := by decide +kernel
theorem dX8_back_161 : decode cX8_back 161 = .ok (.putfield 26, 3) := by decide +kernel
theorem dX8_back_164 : decode cX8_back 164 = .ok (.aload_n 0, 1) := by decide +kernel
theorem dX8_back_165 : decode cX8_back 165 = .ok (.aload_n 0, 1) := by decide +kernel
theorem dX8_back_166 : decode cX8_back 166 = .ok (.getfield 381, 3) := by decide +kernel
theorem dX8_back_169 : decode cX8_back 169 = .ok (.putfield 139, 3) := by decide +kernel
theorem dX8_back_172 : decode cX8_back 172 = .ok (.aload_n 0, 1) := by decide +kernel
theorem dX8_back_173 : decode cX8_back 173 = .ok (.aload_n 0, 1) := by decide +kernel
theorem dX8_back_174 : decode cX8_back 174 = .ok (.getfield 384, 3) := by decide +kernel
theorem dX8_back_177 : decode cX8_back 177 = .ok (.putfield 274, 3) := by decide +kernel
theorem dX8_back_180 : decode cX8_back 180 = .ok (.aload_n 0, 1) := by decide +kernel
theorem dX8_back_181 : decode cX8_back 181 = .ok (.getfield 107, 3) := by decide +kernel
theorem dX8_back_184 : decode cX8_back 184 = .ok (.ireturn, 1) := by decide +kernel
theorem dX8_count_0 : decode cX8_count 0 = .ok (.iload_n 1, 1) := by decide +kernel
theorem dX8_count_1 : decode cX8_count 1 = .ok (.i2l, 1) := by decide +kernel
theorem dX8_count_2 : decode cX8_count 2 = .ok (.lconst 0, 1) := by decide +kernel
theorem dX8_count_3 : decode cX8_count 3 = .ok (.ldc2_w 387, 3) := by decide +kernel
theorem dX8_count_6 : decode cX8_count 6 = .ok (.invokestatic 110, 3) := by decide +kernel
theorem dX8_count_9 : decode cX8_count 9 = .ok (.ifCond .ne 6, 3) := by decide +kernel
theorem dX8_count_12 : decode cX8_count 12 = .ok (.bipush (-2), 2) := by decide +kernel
theorem dX8_count_14 : decode cX8_count 14 = .ok (.ireturn, 1) := by decide +kernel
theorem dX8_count_15 : decode cX8_count 15 = .ok (.iload_n 1, 1) := by decide +kernel
theorem dX8_count_16 : decode cX8_count 16 = .ok (.iconst 5, 1) := by decide +kernel
theorem dX8_count_17 : decode cX8_count 17 = .ok (.if_icmp .ge 55, 3) := by decide +kernel
theorem dX8_count_20 : decode cX8_count 20 = .ok (.iload_n 1, 1) := by decide +kernel
theorem dX8_count_21 : decode cX8_count 21 = .ok (.ifCond .ne 10, 3) := by decide +kernel
theorem dX8_count_24 : decode cX8_count 24 = .ok (.aload_n 0, 1) := by decide +kernel
theorem dX8_count_25 : decode cX8_count 25 = .ok (.getfield 107, 3) := by decide +kernel
theorem dX8_count_28 : decode cX8_count 28 = .ok (.goto 43, 3) := by decide +kernel
theorem dX8_count_31 : decode cX8_count 31 = .ok (.iload_n 1, 1) := by decide +kernel
theorem dX8_count_32 : decode cX8_count 32 = .ok (.iconst 1, 1) := by decide +kernel
theorem dX8_count_33 : decode cX8_count 33 = .ok (.if_icmp .ne 10, 3) := by decide +kernel
theorem dX8_count_36 : decode cX8_count 36 = .ok (.aload_n 0, 1) := by decide +kernel
theorem dX8_count_37 : decode cX8_count 37 = .ok (.getfield 114, 3) := by decide +kernel
theorem dX8_count_40 : decode cX8_count 40 = .ok (.goto 31, 3) := by decide +kernel
theorem dX8_count_43 : decode cX8_count 43 = .ok (.iload_n 1, 1) := by decide +kernel
theorem dX8_count_44 : decode cX8_count 44 = .ok (.iconst 2, 1) := by decide +kernel
theorem dX8_count_45 : decode cX8_count 45 = .ok (.if_icmp .ne 10, 3) := by decide +kernel
theorem dX8_count_48 : decode cX8_count 48 = .ok (.aload_n 0, 1) := by decide +kernel
theorem dX8_count_49 : decode cX8_count 49 = .ok (.getfield 136, 3) := by decide +kernel
theorem dX8_count_52 : decode cX8_count 52 = .ok (.goto 19, 3) := by decide +kernel
theorem dX8_count_55 : decode cX8_count 55 = .ok (.iload_n 1, 1) := by decide +kernel
theorem dX8_count_56 : decode cX8_count 56 = .ok (.iconst 3, 1) := by decide +kernel
theorem dX8_count_57 : decode cX8_count 57 = .ok (.if_icmp .ne 10, 3) := by decide +kernel
theorem dX8_count_60 : decode cX8_count 60 = .ok (.aload_n 0, 1) := by decide +kernel
theorem dX8_count_61 : decode cX8_count 61 = .ok (.getfield 26, 3) := by decide +kernel
theorem dX8_count_64 : decode cX8_count 64 = .ok (.goto 7, 3) := by decide +kernel
theorem dX8_count_67 : decode cX8_count 67 = .ok (.aload_n 0, 1) := by decide +kernel
theorem dX8_count_68 : decode cX8_count 68 = .ok (.getfield 139, 3) := by decide +kernel
theorem dX8_count_71 : decode cX8_count 71 = .ok (.ireturn, 1) := by decide +kernel
theorem dX8_count_72 : decode cX8_count 72 = .ok (.iload_n 1, 1) := by decide +kernel
theorem dX8_count_73 : decode cX8_count 73 = .ok (.bipush 8, 2) := by decide +kernel
theorem dX8_count_75 : decode cX8_count 75 = .ok (.if_icmp .ge 33, 3) := by decide +kernel
theorem dX8_count_78 : decode cX8_count 78 = .ok (.iload_n 1, 1) := by decide +kernel
theorem dX8_count_79 : decode cX8_count 79 = .ok (.iconst 5, 1) := by decide +kernel
theorem dX8_count_80 : decode cX8_count 80 = .ok (.if_icmp .ne 10, 3) := by decide +kernel
theorem dX8_count_83 : decode cX8_count 83 = .ok (.aload_n 0, 1) := by decide +kernel
theorem dX8_count_84 : decode cX8_count 84 = .ok (.getfield 104, 3) := by decide +kernel
theorem dX8_count_87 : decode cX8_count 87 = .ok (.goto 20, 3) := by decide +kernel
theorem dX8_count_90 : decode cX8_count 90 = .ok (.iload_n 1, 1) := by decide +kernel
theorem dX8_count_91 : decode cX8_count 91 = .ok (.bipush 6, 2) := by decide +kernel
theorem dX8_count_93 : decode cX8_count 93 = .ok (.if_icmp .ne 10, 3) := by decide +kernel
theorem dX8_count_96 : decode cX8_count 96 = .ok (.aload_n 0, 1) := by decide +kernel
theorem dX8_count_97 : decode cX8_count 97 = .ok (.getfield 156, 3) := by decide +kernel
theorem dX8_count_100 : decode cX8_count 100 = .ok (.goto 7, 3) := by decide +kernel
theorem dX8_count_103 : decode cX8_count 103 = .ok (.aload_n 0, 1) := by decide +kernel
theorem dX8_count_104 : decode cX8_count 104 = .ok (.getfield 274, 3) := by decide +kernel
theorem dX8_count_107 : decode cX8_count 107 = .ok (.ireturn, 1) := by decide +kernel
theorem dX8_count_108 : decode cX8_count 108 = .ok (.iconst 0, 1) := by decide +kernel
theorem dX8_count_109 : decode cX8_count 109 = .ok (.istore_n 2, 1) := by decide +kernel
theorem dX8_count_110 : decode cX8_count 110 = .ok (.iconst 0, 1) := by decide +kernel
theorem dX8_count_111 : decode cX8_count 111 = .ok (.istore_n 3, 1) := by decide +kernel
theorem dX8_count_112 : decode cX8_count 112 = .ok (.iload_n 3, 1) := by decide +kernel
theorem dX8_count_113 : decode cX8_count 113 = .ok (.aload_n 0, 1) := by decide +kernel
theorem dX8_count_114 : decode cX8_count 114 = .ok (.getfield 114, 3) := by decide +kernel
theorem dX8_count_117 : decode cX8_count 117 = .ok (.if_icmp .ge 18, 3) := by decide +kernel
theorem dX8_count_120 : decode cX8_count 120 = .ok (.iload_n 2, 1) := by decide +kernel
theorem dX8_count_121 : decode cX8_count 121 = .ok (.aload_n 0, 1) := by decide +kernel
theorem dX8_count_122 : decode cX8_count 122 = .ok (.getfield 47, 3) := by decide +kernel
theorem dX8_count_125 : decode cX8_count 125 = .ok (.iload_n 3, 1) := by decide +kernel
theorem dX8_count_126 : decode cX8_count 126 = .ok (.iaload, 1) := by decide +kernel
theorem dX8_count_127 : decode cX8_count 127 = .ok (.iadd, 1) := by decide +kernel
theorem dX8_count_128 : decode cX8_count 128 = .ok (.istore_n 2, 1) := by decide +kernel
theorem dX8_count_129 : decode cX8_count 129 = .ok (.iinc 3 1, 3) := by decide +kernel
theorem dX8_count_132 : decode cX8_count 132 = .ok (.goto (-20), 3) := by decide +kernel
theorem dX8_count_135 : decode cX8_count 135 = .ok (.iload_n 2, 1) := by decide +kernel
theorem dX8_count_136 : decode cX8_count 136 = .ok (.ireturn, 1) := by decide +kernel
theorem dX8_isSheet_0 : decode cX8_isSheet 0 = .ok (.iload_n 0, 1) := by decide +kernel
theorem dX8_isSheet_1 : decode cX8_isSheet 1 = .ok (.i2l, 1) := by decide +kernel
theorem dX8_isSheet_2 : decode cX8_isSheet 2 = .ok (.lconst 0, 1) := by decide +kernel
theorem dX8_isSheet_3 : decode cX8_isSheet 3 = .ok (.ldc2_w 348, 3) := by decide +kernel
theorem dX8_isSheet_6 : decode cX8_isSheet 6 = .ok (.invokestatic 110, 3) := by decide +kernel
theorem dX8_isSheet_9 : decode cX8_isSheet 9 = .ok (.ireturn, 1) := by decide +kernel
theorem dX8_sheet_0 : decode cX8_sheet 0 = .ok (.iload_n 1, 1) := by decide +kernel
theorem dX8_sheet_1 : decode cX8_sheet 1 = .ok (.invokestatic 354, 3) := by decide +kernel
theorem dX8_sheet_4 : decode cX8_sheet 4 = .ok (.ifCond .eq 27, 3) := by decide +kernel
theorem dX8_sheet_7 : decode cX8_sheet 7 = .ok (.iload_n 2, 1) := by decide +kernel
theorem dX8_sheet_8 : decode cX8_sheet 8 = .ok (.i2l, 1) := by decide +kernel
theorem dX8_sheet_9 : decode cX8_sheet 9 = .ok (.ldc2_w 389, 3) := by decide +kernel
theorem dX8_sheet_12 : decode cX8_sheet 12 = .ok (.ldc2_w 391, 3) := by decide +kernel
theorem dX8_sheet_15 : decode cX8_sheet 15 = .ok (.invokestatic 110, 3) := by decide +kernel
theorem dX8_sheet_18 : decode cX8_sheet 18 = .ok (.ifCond .eq 13, 3) := by decide +kernel
theorem dX8_sheet_21 : decode cX8_sheet 21 = .ok (.iload_n 2, 1) := by decide +kernel
theorem dX8_sheet_22 : decode cX8_sheet 22 = .ok (.ifCond .lt 12, 3) := by decide +kernel
theorem dX8_sheet_25 : decode cX8_sheet 25 = .ok (.iload_n 3, 1) := by decide +kernel
theorem dX8_sheet_26 : decode cX8_sheet 26 = .ok (.bipush 40, 2) := by decide +kernel
theorem dX8_sheet_28 : decode cX8_sheet 28 = .ok (.if_icmp .le 6, 3) := by decide +kernel
theorem dX8_sheet_31 : decode cX8_sheet 31 = .ok (.bipush (-2), 2) := by decide +kernel
theorem dX8_sheet_33 : decode cX8_sheet 33 = .ok (.ireturn, 1) := by decide +kernel
theorem dX8_sheet_34 : decode cX8_sheet 34 = .ok (.iload_n 2, 1) := by decide +kernel
theorem dX8_sheet_35 : decode cX8_sheet 35 = .ok (.ifCond .lt 10, 3) := by decide +kernel
theorem dX8_sheet_38 : decode cX8_sheet 38 = .ok (.iload_n 3, 1) := by decide +kernel
theorem dX8_sheet_39 : decode cX8_sheet 39 = .ok (.ifCond .ge 6, 3) := by decide +kernel
theorem dX8_sheet_42 : decode cX8_sheet 42 = .ok (.bipush (-14), 2) := by decide +kernel
theorem dX8_sheet_44 : decode cX8_sheet 44 = .ok (.ireturn, 1) := by decide +kernel
theorem dX8_sheet_45 : decode cX8_sheet 45 = .ok (.aload_n 0, 1) := by decide +kernel
theorem dX8_sheet_46 : decode cX8_sheet 46 = .ok (.getfield 87, 3) := by decide +kernel
theorem dX8_sheet_49 : decode cX8_sheet 49 = .ok (.iload_n 1, 1) := by decide +kernel
theorem dX8_sheet_50 : decode cX8_sheet 50 = .ok (.iload_n 2, 1) := by decide +kernel
theorem dX8_sheet_51 : decode cX8_sheet 51 = .ok (.ifCond .lt 7, 3) := by decide +kernel
theorem dX8_sheet_54 : decode cX8_sheet 54 = .ok (.iconst 1, 1) := by decide +kernel
theorem dX8_sheet_55 : decode cX8_sheet 55 = .ok (.goto 4, 3) := by decide +kernel
theorem dX8_sheet_58 : decode cX8_sheet 58 = .ok (.iconst 0, 1) := by decide +kernel
theorem dX8_sheet_59 : decode cX8_sheet 59 = .ok (.bastore, 1) := by decide +kernel
theorem dX8_sheet_60 : decode cX8_sheet 60 = .ok (.aload_n 0, 1) := by decide +kernel
theorem dX8_sheet_61 : decode cX8_sheet 61 = .ok (.getfield 91, 3) := by decide +kernel
theorem dX8_sheet_64 : decode cX8_sheet 64 = .ok (.iload_n 1, 1) := by decide +kernel
theorem dX8_sheet_65 : decode cX8_sheet 65 = .ok (.iload_n 2, 1) := by decide +kernel
theorem dX8_sheet_66 : decode cX8_sheet 66 = .ok (.iastore, 1) := by decide +kernel
theorem dX8_sheet_67 : decode cX8_sheet 67 = .ok (.aload_n 0, 1) := by decide +kernel
theorem dX8_sheet_68 : decode cX8_sheet 68 = .ok (.getfield 94, 3) := by decide +kernel
theorem dX8_sheet_71 : decode cX8_sheet 71 = .ok (.iload_n 1, 1) := by decide +kernel
theorem dX8_sheet_72 : decode cX8_sheet 72 = .ok (.iload_n 3, 1) := by decide +kernel
theorem dX8_sheet_73 : decode cX8_sheet 73 = .ok (.iastore, 1) := by decide +kernel
theorem dX8_sheet_74 : decode cX8_sheet 74 = .ok (.iconst 0, 1) := by decide +kernel
theorem dX8_sheet_75 : decode cX8_sheet 75 = .ok (.istore 4, 2) := by decide +kernel
theorem dX8_sheet_77 : decode cX8_sheet 77 = .ok (.iload 4, 2) := by decide +kernel
theorem dX8_sheet_79 : decode cX8_sheet 79 = .ok (.iload_n 3, 1) := by decide +kernel
theorem dX8_sheet_80 : decode cX8_sheet 80 = .ok (.if_icmp .ge 26, 3) := by decide +kernel
theorem dX8_sheet_83 : decode cX8_sheet 83 = .ok (.iload_n 2, 1) := by decide +kernel
theorem dX8_sheet_84 : decode cX8_sheet 84 = .ok (.ifCond .lt 22, 3) := by decide +kernel
theorem dX8_sheet_87 : decode cX8_sheet 87 = .ok (.aload_n 0, 1) := by decide +kernel
theorem dX8_sheet_88 : decode cX8_sheet 88 = .ok (.getfield 97, 3) := by decide +kernel
theorem dX8_sheet_91 : decode cX8_sheet 91 = .ok (.bipush 40, 2) := by decide +kernel
theorem dX8_sheet_93 : decode cX8_sheet 93 = .ok (.iload_n 1, 1) := by decide +kernel
theorem dX8_sheet_94 : decode cX8_sheet 94 = .ok (.imul, 1) := by decide +kernel
theorem dX8_sheet_95 : decode cX8_sheet 95 = .ok (.iload 4, 2) := by decide +kernel
theorem dX8_sheet_97 : decode cX8_sheet 97 = .ok (.iadd, 1) := by decide +kernel
theorem dX8_sheet_98 : decode cX8_sheet 98 = .ok (.iconst 0, 1) := by decide +kernel
theorem dX8_sheet_99 : decode cX8_sheet 99 = .ok (.iastore, 1) := by decide +kernel
theorem dX8_sheet_100 : decode cX8_sheet 100 = .ok (.iinc 4 1, 3) := by decide +kernel
theorem dX8_sheet_103 : decode cX8_sheet 103 = .ok (.goto (-26), 3) := by decide +kernel
theorem dX8_sheet_106 : decode cX8_sheet 106 = .ok (.iconst 1, 1) := by decide +kernel
theorem dX8_sheet_107 : decode cX8_sheet 107 = .ok (.ireturn, 1) := by decide +kernel
theorem dX8_cell_0 : decode cX8_cell 0 = .ok (.iload_n 1, 1) := by decide +kernel
theorem dX8_cell_1 : decode cX8_cell 1 = .ok (.invokestatic 354, 3) := by decide +kernel
theorem dX8_cell_4 : decode cX8_cell 4 = .ok (.ifCond .ne 6, 3) := by decide +kernel
theorem dX8_cell_7 : decode cX8_cell 7 = .ok (.bipush (-2), 2) := by decide +kernel
theorem dX8_cell_9 : decode cX8_cell 9 = .ok (.ireturn, 1) := by decide +kernel
theorem dX8_cell_10 : decode cX8_cell 10 = .ok (.aload_n 0, 1) := by decide +kernel
theorem dX8_cell_11 : decode cX8_cell 11 = .ok (.getfield 87, 3) := by decide +kernel
theorem dX8_cell_14 : decode cX8_cell 14 = .ok (.iload_n 1, 1) := by decide +kernel
theorem dX8_cell_15 : decode cX8_cell 15 = .ok (.baload, 1) := by decide +kernel
theorem dX8_cell_16 : decode cX8_cell 16 = .ok (.ifCond .ne 6, 3) := by decide +kernel
theorem dX8_cell_19 : decode cX8_cell 19 = .ok (.bipush (-11), 2) := by decide +kernel
theorem dX8_cell_21 : decode cX8_cell 21 = .ok (.ireturn, 1) := by decide +kernel
theorem dX8_cell_22 : decode cX8_cell 22 = .ok (.iload_n 2, 1) := by decide +kernel
theorem dX8_cell_23 : decode cX8_cell 23 = .ok (.i2l, 1) := by decide +kernel
theorem dX8_cell_24 : decode cX8_cell 24 = .ok (.lconst 0, 1) := by decide +kernel
theorem dX8_cell_25 : decode cX8_cell 25 = .ok (.aload_n 0, 1) := by decide +kernel
theorem dX8_cell_26 : decode cX8_cell 26 = .ok (.getfield 94, 3) := by decide +kernel
theorem dX8_cell_29 : decode cX8_cell 29 = .ok (.iload_n 1, 1) := by decide +kernel
theorem dX8_cell_30 : decode cX8_cell 30 = .ok (.iaload, 1) := by decide +kernel
theorem dX8_cell_31 : decode cX8_cell 31 = .ok (.iconst 1, 1) := by decide +kernel
theorem dX8_cell_32 : decode cX8_cell 32 = .ok (.isub, 1) := by decide +kernel
theorem dX8_cell_33 : decode cX8_cell 33 = .ok (.i2l, 1) := by decide +kernel
theorem dX8_cell_34 : decode cX8_cell 34 = .ok (.invokestatic 110, 3) := by decide +kernel
theorem dX8_cell_37 : decode cX8_cell 37 = .ok (.ifCond .ne 6, 3) := by decide +kernel
theorem dX8_cell_40 : decode cX8_cell 40 = .ok (.bipush (-12), 2) := by decide +kernel
theorem dX8_cell_42 : decode cX8_cell 42 = .ok (.ireturn, 1) := by decide +kernel
theorem dX8_cell_43 : decode cX8_cell 43 = .ok (.aload_n 0, 1) := by decide +kernel
theorem dX8_cell_44 : decode cX8_cell 44 = .ok (.getfield 97, 3) := by decide +kernel
theorem dX8_cell_47 : decode cX8_cell 47 = .ok (.bipush 40, 2) := by decide +kernel
theorem dX8_cell_49 : decode cX8_cell 49 = .ok (.iload_n 1, 1) := by decide +kernel
theorem dX8_cell_50 : decode cX8_cell 50 = .ok (.imul, 1) := by decide +kernel
theorem dX8_cell_51 : decode cX8_cell 51 = .ok (.iload_n 2, 1) := by decide +kernel
theorem dX8_cell_52 : decode cX8_cell 52 = .ok (.iadd, 1) := by decide +kernel
theorem dX8_cell_53 : decode cX8_cell 53 = .ok (.aload_n 0, 1) := by decide +kernel
theorem dX8_cell_54 : decode cX8_cell 54 = .ok (.getfield 91, 3) := by decide +kernel
theorem dX8_cell_57 : decode cX8_cell 57 = .ok (.iload_n 1, 1) := by decide +kernel
theorem dX8_cell_58 : decode cX8_cell 58 = .ok (.iaload, 1) := by decide +kernel
theorem dX8_cell_59 : decode cX8_cell 59 = .ok (.ifCond .ne 8, 3) := by decide +kernel
theorem dX8_cell_62 : decode cX8_cell 62 = .ok (.iload_n 3, 1) := by decide +kernel
theorem dX8_cell_63 : decode cX8_cell 63 = .ok (.i2b, 1) := by decide +kernel
theorem dX8_cell_64 : decode cX8_cell 64 = .ok (.goto 19, 3) := by decide +kernel
theorem dX8_cell_67 : decode cX8_cell 67 = .ok (.aload_n 0, 1) := by decide +kernel
theorem dX8_cell_68 : decode cX8_cell 68 = .ok (.getfield 91, 3) := by decide +kernel
theorem dX8_cell_71 : decode cX8_cell 71 = .ok (.iload_n 1, 1) := by decide +kernel
theorem dX8_cell_72 : decode cX8_cell 72 = .ok (.iaload, 1) := by decide +kernel
theorem dX8_cell_73 : decode cX8_cell 73 = .ok (.iconst 1, 1) := by decide +kernel
theorem dX8_cell_74 : decode cX8_cell 74 = .ok (.if_icmp .ne 8, 3) := by decide +kernel
theorem dX8_cell_77 : decode cX8_cell 77 = .ok (.iload_n 3, 1) := by decide +kernel
theorem dX8_cell_78 : decode cX8_cell 78 = .ok (.i2s, 1) := by decide +kernel
theorem dX8_cell_79 : decode cX8_cell 79 = .ok (.goto 4, 3) := by decide +kernel
theorem dX8_cell_82 : decode cX8_cell 82 = .ok (.iload_n 3, 1) := by decide +kernel
theorem dX8_cell_83 : decode cX8_cell 83 = .ok (.iastore, 1) := by decide +kernel
theorem dX8_cell_84 : decode cX8_cell 84 = .ok (.iconst 1, 1) := by decide +kernel
theorem dX8_cell_85 : decode cX8_cell 85 = .ok (.ireturn, 1) := by decide +kernel
theorem dX8_copy_0 : decode cX8_copy 0 = .ok (.iload_n 1, 1) := by decide +kernel
theorem dX8_copy_1 : decode cX8_copy 1 = .ok (.invokestatic 354, 3) := by decide +kernel
theorem dX8_copy_4 : decode cX8_copy 4 = .ok (.ifCond .eq 10, 3) := by decide +kernel
theorem dX8_copy_7 : decode cX8_copy 7 = .ok (.iload_n 3, 1) := by decide +kernel
theorem dX8_copy_8 : decode cX8_copy 8 = .ok (.invokestatic 354, 3) := by decide +kernel
theorem dX8_copy_11 : decode cX8_copy 11 = .ok (.ifCond .ne 6, 3) := by decide +kernel
theorem dX8_copy_14 : decode cX8_copy 14 = .ok (.bipush (-2), 2) := by decide +kernel
theorem dX8_copy_16 : decode cX8_copy 16 = .ok (.ireturn, 1) := by decide +kernel
theorem dX8_copy_17 : decode cX8_copy 17 = .ok (.aload_n 0, 1) := by decide +kernel
theorem dX8_copy_18 : decode cX8_copy 18 = .ok (.getfield 87, 3) := by decide +kernel
theorem dX8_copy_21 : decode cX8_copy 21 = .ok (.iload_n 1, 1) := by decide +kernel
theorem dX8_copy_22 : decode cX8_copy 22 = .ok (.baload, 1) := by decide +kernel
theorem dX8_copy_23 : decode cX8_copy 23 = .ok (.ifCond .eq 12, 3) := by decide +kernel
theorem dX8_copy_26 : decode cX8_copy 26 = .ok (.aload_n 0, 1) := by decide +kernel
theorem dX8_copy_27 : decode cX8_copy 27 = .ok (.getfield 87, 3) := by decide +kernel
theorem dX8_copy_30 : decode cX8_copy 30 = .ok (.iload_n 3, 1) := by decide +kernel
theorem dX8_copy_31 : decode cX8_copy 31 = .ok (.baload, 1) := by decide +kernel
theorem dX8_copy_32 : decode cX8_copy 32 = .ok (.ifCond .ne 6, 3) := by decide +kernel
theorem dX8_copy_35 : decode cX8_copy 35 = .ok (.bipush (-11), 2) := by decide +kernel
theorem dX8_copy_37 : decode cX8_copy 37 = .ok (.ireturn, 1) := by decide +kernel
theorem dX8_copy_38 : decode cX8_copy 38 = .ok (.aload_n 0, 1) := by decide +kernel
theorem dX8_copy_39 : decode cX8_copy 39 = .ok (.getfield 91, 3) := by decide +kernel
theorem dX8_copy_42 : decode cX8_copy 42 = .ok (.iload_n 1, 1) := by decide +kernel
theorem dX8_copy_43 : decode cX8_copy 43 = .ok (.iaload, 1) := by decide +kernel
theorem dX8_copy_44 : decode cX8_copy 44 = .ok (.aload_n 0, 1) := by decide +kernel
theorem dX8_copy_45 : decode cX8_copy 45 = .ok (.getfield 91, 3) := by decide +kernel
theorem dX8_copy_48 : decode cX8_copy 48 = .ok (.iload_n 3, 1) := by decide +kernel
theorem dX8_copy_49 : decode cX8_copy 49 = .ok (.iaload, 1) := by decide +kernel
theorem dX8_copy_50 : decode cX8_copy 50 = .ok (.if_icmp .eq 6, 3) := by decide +kernel
theorem dX8_copy_53 : decode cX8_copy 53 = .ok (.bipush (-13), 2) := by decide +kernel
theorem dX8_copy_55 : decode cX8_copy 55 = .ok (.ireturn, 1) := by decide +kernel
theorem dX8_copy_56 : decode cX8_copy 56 = .ok (.iload 5, 2) := by decide +kernel
theorem dX8_copy_58 : decode cX8_copy 58 = .ok (.ifCond .lt 39, 3) := by decide +kernel
theorem dX8_copy_61 : decode cX8_copy 61 = .ok (.iload_n 2, 1) := by decide +kernel
theorem dX8_copy_62 : decode cX8_copy 62 = .ok (.ifCond .lt 35, 3) := by decide +kernel
theorem dX8_copy_65 : decode cX8_copy 65 = .ok (.iload 4, 2) := by decide +kernel
theorem dX8_copy_67 : decode cX8_copy 67 = .ok (.ifCond .lt 30, 3) := by decide +kernel
theorem dX8_copy_70 : decode cX8_copy 70 = .ok (.iload_n 2, 1) := by decide +kernel
theorem dX8_copy_71 : decode cX8_copy 71 = .ok (.aload_n 0, 1) := by decide +kernel
theorem dX8_copy_72 : decode cX8_copy 72 = .ok (.getfield 94, 3) := by decide +kernel
theorem dX8_copy_75 : decode cX8_copy 75 = .ok (.iload_n 1, 1) := by decide +kernel
theorem dX8_copy_76 : decode cX8_copy 76 = .ok (.iaload, 1) := by decide +kernel
theorem dX8_copy_77 : decode cX8_copy 77 = .ok (.iload 5, 2) := by decide +kernel
theorem dX8_copy_79 : decode cX8_copy 79 = .ok (.isub, 1) := by decide +kernel
theorem dX8_copy_80 : decode cX8_copy 80 = .ok (.if_icmp .gt 17, 3) := by decide +kernel
theorem dX8_copy_83 : decode cX8_copy 83 = .ok (.iload 4, 2) := by decide +kernel
theorem dX8_copy_85 : decode cX8_copy 85 = .ok (.aload_n 0, 1) := by decide +kernel
theorem dX8_copy_86 : decode cX8_copy 86 = .ok (.getfield 94, 3) := by decide +kernel
theorem dX8_copy_89 : decode cX8_copy 89 = .ok (.iload_n 3, 1) := by decide +kernel
theorem dX8_copy_90 : decode cX8_copy 90 = .ok (.iaload, 1) := by decide +kernel
theorem dX8_copy_91 : decode cX8_copy 91 = .ok (.iload 5, 2) := by decide +kernel
theorem dX8_copy_93 : decode cX8_copy 93 = .ok (.isub, 1) := by decide +kernel
theorem dX8_copy_94 : decode cX8_copy 94 = .ok (.if_icmp .le 6, 3) := by decide +kernel
theorem dX8_copy_97 : decode cX8_copy 97 = .ok (.bipush (-12), 2) := by decide +kernel
theorem dX8_copy_99 : decode cX8_copy 99 = .ok (.ireturn, 1) := by decide +kernel
theorem dX8_copy_100 : decode cX8_copy 100 = .ok (.iload_n 1, 1) := by decide +kernel
theorem dX8_copy_101 : decode cX8_copy 101 = .ok (.iload_n 3, 1) := by decide +kernel
theorem dX8_copy_102 : decode cX8_copy 102 = .ok (.if_icmp .ne 13, 3) := by decide +kernel
theorem dX8_copy_105 : decode cX8_copy 105 = .ok (.iload_n 2, 1) := by decide +kernel
theorem dX8_copy_106 : decode cX8_copy 106 = .ok (.iload 4, 2) := by decide +kernel
theorem dX8_copy_108 : decode cX8_copy 108 = .ok (.if_icmp .ge 7, 3) := by decide +kernel
theorem dX8_copy_111 : decode cX8_copy 111 = .ok (.iconst 1, 1) := by decide +kernel
theorem dX8_copy_112 : decode cX8_copy 112 = .ok (.goto 4, 3) := by decide +kernel
theorem dX8_copy_115 : decode cX8_copy 115 = .ok (.iconst 0, 1) := by decide +kernel
theorem dX8_copy_116 : decode cX8_copy 116 = .ok (.istore 6, 2) := by decide +kernel
theorem dX8_copy_118 : decode cX8_copy 118 = .ok (.iconst 0, 1) := by decide +kernel
theorem dX8_copy_119 : decode cX8_copy 119 = .ok (.istore 7, 2) := by decide +kernel
theorem dX8_copy_121 : decode cX8_copy 121 = .ok (.iload 7, 2) := by decide +kernel
theorem dX8_copy_123 : decode cX8_copy 123 = .ok (.iload 5, 2) := by decide +kernel
theorem dX8_copy_125 : decode cX8_copy 125 = .ok (.if_icmp .ge 57, 3) := by decide +kernel
theorem dX8_copy_128 : decode cX8_copy 128 = .ok (.iload 6, 2) := by decide +kernel
theorem dX8_copy_130 : decode cX8_copy 130 = .ok (.ifCond .eq 13, 3) := by decide +kernel
theorem dX8_copy_133 : decode cX8_copy 133 = .ok (.iload 5, 2) := by decide +kernel
theorem dX8_copy_135 : decode cX8_copy 135 = .ok (.iconst 1, 1) := by decide +kernel
theorem dX8_copy_136 : decode cX8_copy 136 = .ok (.isub, 1) := by decide +kernel
theorem dX8_copy_137 : decode cX8_copy 137 = .ok (.iload 7, 2) := by decide +kernel
theorem dX8_copy_139 : decode cX8_copy 139 = .ok (.isub, 1) := by decide +kernel
theorem dX8_copy_140 : decode cX8_copy 140 = .ok (.goto 5, 3) := by decide +kernel
theorem dX8_copy_143 : decode cX8_copy 143 = .ok (.iload 7, 2) := by decide +kernel
theorem dX8_copy_145 : decode cX8_copy 145 = .ok (.istore 8, 2) := by decide +kernel
theorem dX8_copy_147 : decode cX8_copy 147 = .ok (.aload_n 0, 1) := by decide +kernel
theorem dX8_copy_148 : decode cX8_copy 148 = .ok (.getfield 97, 3) := by decide +kernel
theorem dX8_copy_151 : decode cX8_copy 151 = .ok (.bipush 40, 2) := by decide +kernel
theorem dX8_copy_153 : decode cX8_copy 153 = .ok (.iload_n 3, 1) := by decide +kernel
theorem dX8_copy_154 : decode cX8_copy 154 = .ok (.imul, 1) := by decide +kernel
theorem dX8_copy_155 : decode cX8_copy 155 = .ok (.iload 4, 2) := by decide +kernel
theorem dX8_copy_157 : decode cX8_copy 157 = .ok (.iadd, 1) := by decide +kernel
theorem dX8_copy_158 : decode cX8_copy 158 = .ok (.iload 8, 2) := by decide +kernel
theorem dX8_copy_160 : decode cX8_copy 160 = .ok (.iadd, 1) := by decide +kernel
theorem dX8_copy_161 : decode cX8_copy 161 = .ok (.aload_n 0, 1) := by decide +kernel
theorem dX8_copy_162 : decode cX8_copy 162 = .ok (.getfield 97, 3) := by decide +kernel
theorem dX8_copy_165 : decode cX8_copy 165 = .ok (.bipush 40, 2) := by decide +kernel
theorem dX8_copy_167 : decode cX8_copy 167 = .ok (.iload_n 1, 1) := by decide +kernel
theorem dX8_copy_168 : decode cX8_copy 168 = .ok (.imul, 1) := by decide +kernel
theorem dX8_copy_169 : decode cX8_copy 169 = .ok (.iload_n 2, 1) := by decide +kernel
theorem dX8_copy_170 : decode cX8_copy 170 = .ok (.iadd, 1) := by decide +kernel
theorem dX8_copy_171 : decode cX8_copy 171 = .ok (.iload 8, 2) := by decide +kernel
theorem dX8_copy_173 : decode cX8_copy 173 = .ok (.iadd, 1) := by decide +kernel
theorem dX8_copy_174 : decode cX8_copy 174 = .ok (.iaload, 1) := by decide +kernel
theorem dX8_copy_175 : decode cX8_copy 175 = .ok (.iastore, 1) := by decide +kernel
theorem dX8_copy_176 : decode cX8_copy 176 = .ok (.iinc 7 1, 3) := by decide +kernel
theorem dX8_copy_179 : decode cX8_copy 179 = .ok (.goto (-58), 3) := by decide +kernel
theorem dX8_copy_182 : decode cX8_copy 182 = .ok (.iload 5, 2) := by decide +kernel
theorem dX8_copy_184 : decode cX8_copy 184 = .ok (.ireturn, 1) := by decide +kernel
theorem dX8_rains_0 : decode cX8_rains 0 = .ok (.iload_n 1, 1) := by decide +kernel
theorem dX8_rains_1 : decode cX8_rains 1 = .ok (.invokestatic 354, 3) := by decide +kernel
theorem dX8_rains_4 : decode cX8_rains 4 = .ok (.ifCond .eq 28, 3) := by decide +kernel
theorem dX8_rains_7 : decode cX8_rains 7 = .ok (.iload_n 2, 1) := by decide +kernel
theorem dX8_rains_8 : decode cX8_rains 8 = .ok (.i2l, 1) := by decide +kernel
theorem dX8_rains_9 : decode cX8_rains 9 = .ok (.lconst 0, 1) := by decide +kernel
theorem dX8_rains_10 : decode cX8_rains 10 = .ok (.ldc2_w 391, 3) := by decide +kernel
theorem dX8_rains_13 : decode cX8_rains 13 = .ok (.invokestatic 110, 3) := by decide +kernel
theorem dX8_rains_16 : decode cX8_rains 16 = .ok (.ifCond .eq 16, 3) := by decide +kernel
theorem dX8_rains_19 : decode cX8_rains 19 = .ok (.iload 4, 2) := by decide +kernel
theorem dX8_rains_21 : decode cX8_rains 21 = .ok (.i2l, 1) := by decide +kernel
theorem dX8_rains_22 : decode cX8_rains 22 = .ok (.lconst 0, 1) := by decide +kernel
theorem dX8_rains_23 : decode cX8_rains 23 = .ok (.ldc2_w 368, 3) := by decide +kernel
theorem dX8_rains_26 : decode cX8_rains 26 = .ok (.invokestatic 110, 3) := by decide +kernel
theorem dX8_rains_29 : decode cX8_rains 29 = .ok (.ifCond .ne 6, 3) := by decide +kernel
theorem dX8_rains_32 : decode cX8_rains 32 = .ok (.bipush (-2), 2) := by decide +kernel
theorem dX8_rains_34 : decode cX8_rains 34 = .ok (.ireturn, 1) := by decide +kernel
theorem dX8_rains_35 : decode cX8_rains 35 = .ok (.aload_n 0, 1) := by decide +kernel
theorem dX8_rains_36 : decode cX8_rains 36 = .ok (.getfield 87, 3) := by decide +kernel
theorem dX8_rains_39 : decode cX8_rains 39 = .ok (.iload_n 1, 1) := by decide +kernel
theorem dX8_rains_40 : decode cX8_rains 40 = .ok (.baload, 1) := by decide +kernel
theorem dX8_rains_41 : decode cX8_rains 41 = .ok (.ifCond .eq 16, 3) := by decide +kernel
theorem dX8_rains_44 : decode cX8_rains 44 = .ok (.aload_n 0, 1) := by decide +kernel
theorem dX8_rains_45 : decode cX8_rains 45 = .ok (.getfield 91, 3) := by decide +kernel
theorem dX8_rains_48 : decode cX8_rains 48 = .ok (.iload_n 1, 1) := by decide +kernel
theorem dX8_rains_49 : decode cX8_rains 49 = .ok (.iaload, 1) := by decide +kernel
theorem dX8_rains_50 : decode cX8_rains 50 = .ok (.iload_n 2, 1) := by decide +kernel
theorem dX8_rains_51 : decode cX8_rains 51 = .ok (.if_icmp .eq 6, 3) := by decide +kernel
theorem dX8_rains_54 : decode cX8_rains 54 = .ok (.bipush (-13), 2) := by decide +kernel
theorem dX8_rains_56 : decode cX8_rains 56 = .ok (.ireturn, 1) := by decide +kernel
theorem dX8_rains_57 : decode cX8_rains 57 = .ok (.aload_n 0, 1) := by decide +kernel
theorem dX8_rains_58 : decode cX8_rains 58 = .ok (.getfield 87, 3) := by decide +kernel
theorem dX8_rains_61 : decode cX8_rains 61 = .ok (.iload_n 1, 1) := by decide +kernel
theorem dX8_rains_62 : decode cX8_rains 62 = .ok (.baload, 1) := by decide +kernel
theorem dX8_rains_63 : decode cX8_rains 63 = .ok (.ifCond .ne 6, 3) := by decide +kernel
theorem dX8_rains_66 : decode cX8_rains 66 = .ok (.bipush (-11), 2) := by decide +kernel
theorem dX8_rains_68 : decode cX8_rains 68 = .ok (.ireturn, 1) := by decide +kernel
theorem dX8_rains_69 : decode cX8_rains 69 = .ok (.iconst 0, 1) := by decide +kernel
theorem dX8_rains_70 : decode cX8_rains 70 = .ok (.istore 5, 2) := by decide +kernel
theorem dX8_rains_72 : decode cX8_rains 72 = .ok (.iconst 0, 1) := by decide +kernel
theorem dX8_rains_73 : decode cX8_rains 73 = .ok (.istore 6, 2) := by decide +kernel
theorem dX8_rains_75 : decode cX8_rains 75 = .ok (.iload 6, 2) := by decide +kernel
theorem dX8_rains_77 : decode cX8_rains 77 = .ok (.iload 4, 2) := by decide +kernel
theorem dX8_rains_79 : decode cX8_rains 79 = .ok (.if_icmp .ge 80, 3) := by decide +kernel
theorem dX8_rains_82 : decode cX8_rains 82 = .ok (.iload_n 3, 1) := by decide +kernel
theorem dX8_rains_83 : decode cX8_rains 83 = .ok (.ifCond .lt 20, 3) := by decide +kernel
theorem dX8_rains_86 : decode cX8_rains 86 = .ok (.iload_n 3, 1) := by decide +kernel
theorem dX8_rains_87 : decode cX8_rains 87 = .ok (.aload_n 0, 1) := by decide +kernel
theorem dX8_rains_88 : decode cX8_rains 88 = .ok (.getfield 94, 3) := by decide +kernel
theorem dX8_rains_91 : decode cX8_rains 91 = .ok (.iload_n 1, 1) := by decide +kernel
theorem dX8_rains_92 : decode cX8_rains 92 = .ok (.iaload, 1) := by decide +kernel
theorem dX8_rains_93 : decode cX8_rains 93 = .ok (.iconst 2, 1) := by decide +kernel
theorem dX8_rains_94 : decode cX8_rains 94 = .ok (.iload 6, 2) := by decide +kernel
theorem dX8_rains_96 : decode cX8_rains 96 = .ok (.imul, 1) := by decide +kernel
theorem dX8_rains_97 : decode cX8_rains 97 = .ok (.isub, 1) := by decide +kernel
theorem dX8_rains_98 : decode cX8_rains 98 = .ok (.iconst 2, 1) := by decide +kernel
theorem dX8_rains_99 : decode cX8_rains 99 = .ok (.isub, 1) := by decide +kernel
theorem dX8_rains_100 : decode cX8_rains 100 = .ok (.if_icmp .le 6, 3) := by decide +kernel
theorem dX8_rains_103 : decode cX8_rains 103 = .ok (.bipush (-12), 2) := by decide +kernel
theorem dX8_rains_105 : decode cX8_rains 105 = .ok (.ireturn, 1) := by decide +kernel
theorem dX8_rains_106 : decode cX8_rains 106 = .ok (.bipush 40, 2) := by decide +kernel
theorem dX8_rains_108 : decode cX8_rains 108 = .ok (.iload_n 1, 1) := by decide +kernel
theorem dX8_rains_109 : decode cX8_rains 109 = .ok (.imul, 1) := by decide +kernel
theorem dX8_rains_110 : decode cX8_rains 110 = .ok (.iload_n 3, 1) := by decide +kernel
theorem dX8_rains_111 : decode cX8_rains 111 = .ok (.iadd, 1) := by decide +kernel
theorem dX8_rains_112 : decode cX8_rains 112 = .ok (.iconst 2, 1) := by decide +kernel
theorem dX8_rains_113 : decode cX8_rains 113 = .ok (.iload 6, 2) := by decide +kernel
theorem dX8_rains_115 : decode cX8_rains 115 = .ok (.imul, 1) := by decide +kernel
theorem dX8_rains_116 : decode cX8_rains 116 = .ok (.iadd, 1) := by decide +kernel
theorem dX8_rains_117 : decode cX8_rains 117 = .ok (.istore 7, 2) := by decide +kernel
theorem dX8_rains_119 : decode cX8_rains 119 = .ok (.iload 5, 2) := by decide +kernel
theorem dX8_rains_121 : decode cX8_rains 121 = .ok (.aload_n 0, 1) := by decide +kernel
theorem dX8_rains_122 : decode cX8_rains 122 = .ok (.iconst 0, 1) := by decide +kernel
theorem dX8_rains_123 : decode cX8_rains 123 = .ok (.aload_n 0, 1) := by decide +kernel
theorem dX8_rains_124 : decode cX8_rains 124 = .ok (.getfield 97, 3) := by decide +kernel
theorem dX8_rains_127 : decode cX8_rains 127 = .ok (.iload 7, 2) := by decide +kernel
theorem dX8_rains_129 : decode cX8_rains 129 = .ok (.iaload, 1) := by decide +kernel
theorem dX8_rains_130 : decode cX8_rains 130 = .ok (.aload_n 0, 1) := by decide +kernel
theorem dX8_rains_131 : decode cX8_rains 131 = .ok (.getfield 97, 3) := by decide +kernel
theorem dX8_rains_134 : decode cX8_rains 134 = .ok (.iload 7, 2) := by decide +kernel
theorem dX8_rains_136 : decode cX8_rains 136 = .ok (.iconst 1, 1) := by decide +kernel
theorem dX8_rains_137 : decode cX8_rains 137 = .ok (.iadd, 1) := by decide +kernel
theorem dX8_rains_138 : decode cX8_rains 138 = .ok (.iaload, 1) := by decide +kernel
theorem dX8_rains_139 : decode cX8_rains 139 = .ok (.invokevirtual 393, 3) := by decide +kernel
theorem dX8_rains_142 : decode cX8_rains 142 = .ok (.ifCond .lt 7, 3) := by decide +kernel
theorem dX8_rains_145 : decode cX8_rains 145 = .ok (.iconst 1, 1) := by decide +kernel
theorem dX8_rains_146 : decode cX8_rains 146 = .ok (.goto 4, 3) := by decide +kernel
theorem dX8_rains_149 : decode cX8_rains 149 = .ok (.iconst 0, 1) := by decide +kernel
theorem dX8_rains_150 : decode cX8_rains 150 = .ok (.iadd, 1) := by decide +kernel
theorem dX8_rains_151 : decode cX8_rains 151 = .ok (.istore 5, 2) := by decide +kernel
theorem dX8_rains_153 : decode cX8_rains 153 = .ok (.iinc 6 1, 3) := by decide +kernel
theorem dX8_rains_156 : decode cX8_rains 156 = .ok (.goto (-81), 3) := by decide +kernel
theorem dX8_rains_159 : decode cX8_rains 159 = .ok (.iload 5, 2) := by decide +kernel
theorem dX8_rains_161 : decode cX8_rains 161 = .ok (.ireturn, 1) := by decide +kernel
theorem dX8_over_0 : decode cX8_over 0 = .ok (.iload_n 0, 1) := by decide +kernel
theorem dX8_over_1 : decode cX8_over 1 = .ok (.ifCond .ne 7, 3) := by decide +kernel
theorem dX8_over_4 : decode cX8_over 4 = .ok (.iconst (-1), 1) := by decide +kernel
theorem dX8_over_5 : decode cX8_over 5 = .ok (.goto 27, 3) := by decide +kernel
theorem dX8_over_8 : decode cX8_over 8 = .ok (.iload_n 0, 1) := by decide +kernel
theorem dX8_over_9 : decode cX8_over 9 = .ok (.iconst 4, 1) := by decide +kernel
theorem dX8_over_10 : decode cX8_over 10 = .ok (.if_icmp .ne 7, 3) := by decide +kernel
theorem dX8_over_13 : decode cX8_over 13 = .ok (.iconst 2, 1) := by decide +kernel
theorem dX8_over_14 : decode cX8_over 14 = .ok (.goto 18, 3) := by decide +kernel
theorem dX8_over_17 : decode cX8_over 17 = .ok (.iload_n 0, 1) := by decide +kernel
theorem dX8_over_18 : decode cX8_over 18 = .ok (.iconst 3, 1) := by decide +kernel
theorem dX8_over_19 : decode cX8_over 19 = .ok (.if_icmp .eq 8, 3) := by decide +kernel
theorem dX8_over_22 : decode cX8_over 22 = .ok (.iload_n 0, 1) := by decide +kernel
theorem dX8_over_23 : decode cX8_over 23 = .ok (.iconst 5, 1) := by decide +kernel
theorem dX8_over_24 : decode cX8_over 24 = .ok (.if_icmp .ne 7, 3) := by decide +kernel
theorem dX8_over_27 : decode cX8_over 27 = .ok (.iconst 1, 1) := by decide +kernel
theorem dX8_over_28 : decode cX8_over 28 = .ok (.goto 4, 3) := by decide +kernel
theorem dX8_over_31 : decode cX8_over 31 = .ok (.iconst 0, 1) := by decide +kernel
theorem dX8_over_32 : decode cX8_over 32 = .ok (.ireturn, 1) := by decide +kernel
theorem dX8_taken_0 : decode cX8_taken 0 = .ok (.iload_n 2, 1) := by decide +kernel
theorem dX8_taken_1 : decode cX8_taken 1 = .ok (.i2l, 1) := by decide +kernel
theorem dX8_taken_2 : decode cX8_taken 2 = .ok (.lconst 0, 1) := by decide +kernel
theorem dX8_taken_3 : decode cX8_taken 3 = .ok (.ldc2_w 132, 3) := by decide +kernel
theorem dX8_taken_6 : decode cX8_taken 6 = .ok (.invokestatic 110, 3) := by decide +kernel
theorem dX8_taken_9 : decode cX8_taken 9 = .ok (.ifCond .ne 6, 3) := by decide +kernel
theorem dX8_taken_12 : decode cX8_taken 12 = .ok (.bipush (-2), 2) := by decide +kernel
theorem dX8_taken_14 : decode cX8_taken 14 = .ok (.ireturn, 1) := by decide +kernel
theorem dX8_taken_15 : decode cX8_taken 15 = .ok (.aload_n 0, 1) := by decide +kernel
theorem dX8_taken_16 : decode cX8_taken 16 = .ok (.iload_n 1, 1) := by decide +kernel
theorem dX8_taken_17 : decode cX8_taken 17 = .ok (.invokevirtual 127, 3) := by decide +kernel
theorem dX8_taken_20 : decode cX8_taken 20 = .ok (.ifCond .ne 6, 3) := by decide +kernel
theorem dX8_taken_23 : decode cX8_taken 23 = .ok (.bipush (-11), 2) := by decide +kernel
theorem dX8_taken_25 : decode cX8_taken 25 = .ok (.ireturn, 1) := by decide +kernel
theorem dX8_taken_26 : decode cX8_taken 26 = .ok (.aload_n 0, 1) := by decide +kernel
theorem dX8_taken_27 : decode cX8_taken 27 = .ok (.getfield 29, 3) := by decide +kernel
theorem dX8_taken_30 : decode cX8_taken 30 = .ok (.iload_n 1, 1) := by decide +kernel
theorem dX8_taken_31 : decode cX8_taken 31 = .ok (.iaload, 1) := by decide +kernel
theorem dX8_taken_32 : decode cX8_taken 32 = .ok (.istore_n 3, 1) := by decide +kernel
theorem dX8_taken_33 : decode cX8_taken 33 = .ok (.iload_n 3, 1) := by decide +kernel
theorem dX8_taken_34 : decode cX8_taken 34 = .ok (.iconst (-1), 1) := by decide +kernel
theorem dX8_taken_35 : decode cX8_taken 35 = .ok (.if_icmp .eq 16, 3) := by decide +kernel
theorem dX8_taken_38 : decode cX8_taken 38 = .ok (.iload_n 3, 1) := by decide +kernel
theorem dX8_taken_39 : decode cX8_taken 39 = .ok (.iload_n 2, 1) := by decide +kernel
theorem dX8_taken_40 : decode cX8_taken 40 = .ok (.if_icmp .eq 11, 3) := by decide +kernel
theorem dX8_taken_43 : decode cX8_taken 43 = .ok (.iload_n 3, 1) := by decide +kernel
theorem dX8_taken_44 : decode cX8_taken 44 = .ok (.invokestatic 396, 3) := by decide +kernel
theorem dX8_taken_47 : decode cX8_taken 47 = .ok (.istore_n 3, 1) := by decide +kernel
theorem dX8_taken_48 : decode cX8_taken 48 = .ok (.goto (-15), 3) := by decide +kernel
theorem dX8_taken_51 : decode cX8_taken 51 = .ok (.iload_n 3, 1) := by decide +kernel
theorem dX8_taken_52 : decode cX8_taken 52 = .ok (.iload_n 2, 1) := by decide +kernel
theorem dX8_taken_53 : decode cX8_taken 53 = .ok (.if_icmp .ne 12, 3) := by decide +kernel
theorem dX8_taken_56 : decode cX8_taken 56 = .ok (.aload_n 0, 1) := by decide +kernel
theorem dX8_taken_57 : decode cX8_taken 57 = .ok (.getfield 32, 3) := by decide +kernel
theorem dX8_taken_60 : decode cX8_taken 60 = .ok (.iload_n 1, 1) := by decide +kernel
theorem dX8_taken_61 : decode cX8_taken 61 = .ok (.iaload, 1) := by decide +kernel
theorem dX8_taken_62 : decode cX8_taken 62 = .ok (.goto 5, 3) := by decide +kernel
theorem dX8_taken_65 : decode cX8_taken 65 = .ok (.bipush (-13), 2) := by decide +kernel
theorem dX8_taken_67 : decode cX8_taken 67 = .ok (.ireturn, 1) := by decide +kernel
theorem dL_law_0 : decode cL_law 0 = .ok (.new 7, 3) := by decide +kernel
theorem dL_law_3 : decode cL_law 3 = .ok (.dup, 1) := by decide +kernel
theorem dL_law_4 : decode cL_law 4 = .ok (.invokespecial 9, 3) := by decide +kernel
theorem dL_law_7 : decode cL_law 7 = .ok (.astore_n 1, 1) := by decide +kernel
theorem dL_law_8 : decode cL_law 8 = .ok (.new 10, 3) := by decide +kernel
theorem dL_law_11 : decode cL_law 11 = .ok (.dup, 1) := by decide +kernel
theorem dL_law_12 : decode cL_law 12 = .ok (.invokespecial 12, 3) := by decide +kernel
theorem dL_law_15 : decode cL_law 15 = .ok (.astore_n 2, 1) := by decide +kernel
theorem dL_law_16 : decode cL_law 16 = .ok (.iconst 0, 1) := by decide +kernel
theorem dL_law_17 : decode cL_law 17 = .ok (.istore_n 3, 1) := by decide +kernel
theorem dL_law_18 : decode cL_law 18 = .ok (.iload_n 3, 1) := by decide +kernel
theorem dL_law_19 : decode cL_law 19 = .ok (.aload_n 0, 1) := by decide +kernel
theorem dL_law_20 : decode cL_law 20 = .ok (.arraylength, 1) := by decide +kernel
theorem dL_law_21 : decode cL_law 21 = .ok (.bipush 6, 2) := by decide +kernel
theorem dL_law_23 : decode cL_law 23 = .ok (.isub, 1) := by decide +kernel
theorem dL_law_24 : decode cL_law 24 = .ok (.if_icmp .gt 1155, 3) := by decide +kernel
theorem dL_law_27 : decode cL_law 27 = .ok (.aload_n 0, 1) := by decide +kernel
theorem dL_law_28 : decode cL_law 28 = .ok (.iload_n 3, 1) := by decide +kernel
theorem dL_law_29 : decode cL_law 29 = .ok (.iaload, 1) := by decide +kernel
theorem dL_law_30 : decode cL_law 30 = .ok (.bipush 31, 2) := by decide +kernel
theorem dL_law_32 : decode cL_law 32 = .ok (.iand, 1) := by decide +kernel
theorem dL_law_33 : decode cL_law 33 = .ok (.tableswitch 1140 0 31 #[143, 186, 229, 252, 285, 318, 351, 394, 417, 430, 453, 476, 519, 542, 565, 598, 621, 634, 657, 690, 713, 756, 789, 812, 856, 869, 882, 905, 948, 991, 1054, 1107], 143) := by decide +kernel
theorem dL_law_176 : decode cL_law 176 = .ok (.aload_n 1, 1) := by decide +kernel
theorem dL_law_177 : decode cL_law 177 = .ok (.aload_n 0, 1) := by decide +kernel
theorem dL_law_178 : decode cL_law 178 = .ok (.iload_n 3, 1) := by decide +kernel
theorem dL_law_179 : decode cL_law 179 = .ok (.iconst 1, 1) := by decide +kernel
theorem dL_law_180 : decode cL_law 180 = .ok (.iadd, 1) := by decide +kernel
theorem dL_law_181 : decode cL_law 181 = .ok (.iaload, 1) := by decide +kernel
theorem dL_law_182 : decode cL_law 182 = .ok (.aload_n 0, 1) := by decide +kernel
theorem dL_law_183 : decode cL_law 183 = .ok (.iload_n 3, 1) := by decide +kernel
theorem dL_law_184 : decode cL_law 184 = .ok (.iconst 2, 1) := by decide +kernel
theorem dL_law_185 : decode cL_law 185 = .ok (.iadd, 1) := by decide +kernel
theorem dL_law_186 : decode cL_law 186 = .ok (.iaload, 1) := by decide +kernel
theorem dL_law_187 : decode cL_law 187 = .ok (.aload_n 0, 1) := by decide +kernel
theorem dL_law_188 : decode cL_law 188 = .ok (.iload_n 3, 1) := by decide +kernel
theorem dL_law_189 : decode cL_law 189 = .ok (.iconst 3, 1) := by decide +kernel
theorem dL_law_190 : decode cL_law 190 = .ok (.iadd, 1) := by decide +kernel
theorem dL_law_191 : decode cL_law 191 = .ok (.iaload, 1) := by decide +kernel
theorem dL_law_192 : decode cL_law 192 = .ok (.invokevirtual 13, 3) := by decide +kernel
theorem dL_law_195 : decode cL_law 195 = .ok (.aload_n 2, 1) := by decide +kernel
theorem dL_law_196 : decode cL_law 196 = .ok (.aload_n 0, 1) := by decide +kernel
theorem dL_law_197 : decode cL_law 197 = .ok (.iload_n 3, 1) := by decide +kernel
theorem dL_law_198 : decode cL_law 198 = .ok (.iconst 1, 1) := by decide +kernel
theorem dL_law_199 : decode cL_law 199 = .ok (.iadd, 1) := by decide +kernel
theorem dL_law_200 : decode cL_law 200 = .ok (.iaload, 1) := by decide +kernel
theorem dL_law_201 : decode cL_law 201 = .ok (.aload_n 0, 1) := by decide +kernel
theorem dL_law_202 : decode cL_law 202 = .ok (.iload_n 3, 1) := by decide +kernel
theorem dL_law_203 : decode cL_law 203 = .ok (.iconst 2, 1) := by decide +kernel
theorem dL_law_204 : decode cL_law 204 = .ok (.iadd, 1) := by decide +kernel
theorem dL_law_205 : decode cL_law 205 = .ok (.iaload, 1) := by decide +kernel
theorem dL_law_206 : decode cL_law 206 = .ok (.aload_n 0, 1) := by decide +kernel
theorem dL_law_207 : decode cL_law 207 = .ok (.iload_n 3, 1) := by decide +kernel
theorem dL_law_208 : decode cL_law 208 = .ok (.iconst 3, 1) := by decide +kernel
theorem dL_law_209 : decode cL_law 209 = .ok (.iadd, 1) := by decide +kernel
theorem dL_law_210 : decode cL_law 210 = .ok (.iaload, 1) := by decide +kernel
theorem dL_law_211 : decode cL_law 211 = .ok (.invokevirtual 17, 3) := by decide +kernel
theorem dL_law_214 : decode cL_law 214 = .ok (.if_icmp .eq 959, 3) := by decide +kernel
theorem dL_law_217 : decode cL_law 217 = .ok (.iconst 0, 1) := by decide +kernel
theorem dL_law_218 : decode cL_law 218 = .ok (.ireturn, 1) := by decide +kernel
theorem dL_law_219 : decode cL_law 219 = .ok (.aload_n 1, 1) := by decide +kernel
theorem dL_law_220 : decode cL_law 220 = .ok (.aload_n 0, 1) := by decide +kernel
theorem dL_law_221 : decode cL_law 221 = .ok (.iload_n 3, 1) := by decide +kernel
theorem dL_law_222 : decode cL_law 222 = .ok (.iconst 1, 1) := by decide +kernel
theorem dL_law_223 : decode cL_law 223 = .ok (.iadd, 1) := by decide +kernel
theorem dL_law_224 : decode cL_law 224 = .ok (.iaload, 1) := by decide +kernel
theorem dL_law_225 : decode cL_law 225 = .ok (.aload_n 0, 1) := by decide +kernel
theorem dL_law_226 : decode cL_law 226 = .ok (.iload_n 3, 1) := by decide +kernel
theorem dL_law_227 : decode cL_law 227 = .ok (.iconst 2, 1) := by decide +kernel
theorem dL_law_228 : decode cL_law 228 = .ok (.iadd, 1) := by decide +kernel
theorem dL_law_229 : decode cL_law 229 = .ok (.iaload, 1) := by decide +kernel
theorem dL_law_230 : decode cL_law 230 = .ok (.aload_n 0, 1) := by decide +kernel
theorem dL_law_231 : decode cL_law 231 = .ok (.iload_n 3, 1) := by decide +kernel
theorem dL_law_232 : decode cL_law 232 = .ok (.iconst 3, 1) := by decide +kernel
theorem dL_law_233 : decode cL_law 233 = .ok (.iadd, 1) := by decide +kernel
theorem dL_law_234 : decode cL_law 234 = .ok (.iaload, 1) := by decide +kernel
theorem dL_law_235 : decode cL_law 235 = .ok (.invokevirtual 18, 3) := by decide +kernel
theorem dL_law_238 : decode cL_law 238 = .ok (.aload_n 2, 1) := by decide +kernel
theorem dL_law_239 : decode cL_law 239 = .ok (.aload_n 0, 1) := by decide +kernel
theorem dL_law_240 : decode cL_law 240 = .ok (.iload_n 3, 1) := by decide +kernel
theorem dL_law_241 : decode cL_law 241 = .ok (.iconst 1, 1) := by decide +kernel
theorem dL_law_242 : decode cL_law 242 = .ok (.iadd, 1) := by decide +kernel
theorem dL_law_243 : decode cL_law 243 = .ok (.iaload, 1) := by decide +kernel
theorem dL_law_244 : decode cL_law 244 = .ok (.aload_n 0, 1) := by decide +kernel
theorem dL_law_245 : decode cL_law 245 = .ok (.iload_n 3, 1) := by decide +kernel
theorem dL_law_246 : decode cL_law 246 = .ok (.iconst 2, 1) := by decide +kernel
theorem dL_law_247 : decode cL_law 247 = .ok (.iadd, 1) := by decide +kernel
theorem dL_law_248 : decode cL_law 248 = .ok (.iaload, 1) := by decide +kernel
theorem dL_law_249 : decode cL_law 249 = .ok (.aload_n 0, 1) := by decide +kernel
theorem dL_law_250 : decode cL_law 250 = .ok (.iload_n 3, 1) := by decide +kernel
theorem dL_law_251 : decode cL_law 251 = .ok (.iconst 3, 1) := by decide +kernel
theorem dL_law_252 : decode cL_law 252 = .ok (.iadd, 1) := by decide +kernel
theorem dL_law_253 : decode cL_law 253 = .ok (.iaload, 1) := by decide +kernel
theorem dL_law_254 : decode cL_law 254 = .ok (.invokevirtual 21, 3) := by decide +kernel
theorem dL_law_257 : decode cL_law 257 = .ok (.if_icmp .eq 916, 3) := by decide +kernel
theorem dL_law_260 : decode cL_law 260 = .ok (.iconst 0, 1) := by decide +kernel
theorem dL_law_261 : decode cL_law 261 = .ok (.ireturn, 1) := by decide +kernel
theorem dL_law_262 : decode cL_law 262 = .ok (.aload_n 1, 1) := by decide +kernel
theorem dL_law_263 : decode cL_law 263 = .ok (.aload_n 0, 1) := by decide +kernel
theorem dL_law_264 : decode cL_law 264 = .ok (.iload_n 3, 1) := by decide +kernel
theorem dL_law_265 : decode cL_law 265 = .ok (.iconst 1, 1) := by decide +kernel
theorem dL_law_266 : decode cL_law 266 = .ok (.iadd, 1) := by decide +kernel
theorem dL_law_267 : decode cL_law 267 = .ok (.iaload, 1) := by decide +kernel
theorem dL_law_268 : decode cL_law 268 = .ok (.invokevirtual 22, 3) := by decide +kernel
theorem dL_law_271 : decode cL_law 271 = .ok (.aload_n 2, 1) := by decide +kernel
theorem dL_law_272 : decode cL_law 272 = .ok (.aload_n 0, 1) := by decide +kernel
theorem dL_law_273 : decode cL_law 273 = .ok (.iload_n 3, 1) := by decide +kernel
theorem dL_law_274 : decode cL_law 274 = .ok (.iconst 1, 1) := by decide +kernel
theorem dL_law_275 : decode cL_law 275 = .ok (.iadd, 1) := by decide +kernel
theorem dL_law_276 : decode cL_law 276 = .ok (.iaload, 1) := by decide +kernel
theorem dL_law_277 : decode cL_law 277 = .ok (.invokevirtual 26, 3) := by decide +kernel
theorem dL_law_280 : decode cL_law 280 = .ok (.if_icmp .eq 893, 3) := by decide +kernel
theorem dL_law_283 : decode cL_law 283 = .ok (.iconst 0, 1) := by decide +kernel
theorem dL_law_284 : decode cL_law 284 = .ok (.ireturn, 1) := by decide +kernel
theorem dL_law_285 : decode cL_law 285 = .ok (.aload_n 1, 1) := by decide +kernel
theorem dL_law_286 : decode cL_law 286 = .ok (.aload_n 0, 1) := by decide +kernel
theorem dL_law_287 : decode cL_law 287 = .ok (.iload_n 3, 1) := by decide +kernel
theorem dL_law_288 : decode cL_law 288 = .ok (.iconst 1, 1) := by decide +kernel
theorem dL_law_289 : decode cL_law 289 = .ok (.iadd, 1) := by decide +kernel
theorem dL_law_290 : decode cL_law 290 = .ok (.iaload, 1) := by decide +kernel
theorem dL_law_291 : decode cL_law 291 = .ok (.aload_n 0, 1) := by decide +kernel
theorem dL_law_292 : decode cL_law 292 = .ok (.iload_n 3, 1) := by decide +kernel
theorem dL_law_293 : decode cL_law 293 = .ok (.iconst 2, 1) := by decide +kernel
theorem dL_law_294 : decode cL_law 294 = .ok (.iadd, 1) := by decide +kernel
theorem dL_law_295 : decode cL_law 295 = .ok (.iaload, 1) := by decide +kernel
theorem dL_law_296 : decode cL_law 296 = .ok (.invokevirtual 27, 3) := by decide +kernel
theorem dL_law_299 : decode cL_law 299 = .ok (.aload_n 2, 1) := by decide +kernel
theorem dL_law_300 : decode cL_law 300 = .ok (.aload_n 0, 1) := by decide +kernel
theorem dL_law_301 : decode cL_law 301 = .ok (.iload_n 3, 1) := by decide +kernel
theorem dL_law_302 : decode cL_law 302 = .ok (.iconst 1, 1) := by decide +kernel
theorem dL_law_303 : decode cL_law 303 = .ok (.iadd, 1) := by decide +kernel
theorem dL_law_304 : decode cL_law 304 = .ok (.iaload, 1) := by decide +kernel
theorem dL_law_305 : decode cL_law 305 = .ok (.aload_n 0, 1) := by decide +kernel
theorem dL_law_306 : decode cL_law 306 = .ok (.iload_n 3, 1) := by decide +kernel
theorem dL_law_307 : decode cL_law 307 = .ok (.iconst 2, 1) := by decide +kernel
theorem dL_law_308 : decode cL_law 308 = .ok (.iadd, 1) := by decide +kernel
theorem dL_law_309 : decode cL_law 309 = .ok (.iaload, 1) := by decide +kernel
theorem dL_law_310 : decode cL_law 310 = .ok (.invokevirtual 31, 3) := by decide +kernel
theorem dL_law_313 : decode cL_law 313 = .ok (.if_icmp .eq 860, 3) := by decide +kernel
theorem dL_law_316 : decode cL_law 316 = .ok (.iconst 0, 1) := by decide +kernel
theorem dL_law_317 : decode cL_law 317 = .ok (.ireturn, 1) := by decide +kernel
theorem dL_law_318 : decode cL_law 318 = .ok (.aload_n 1, 1) := by decide +kernel
theorem dL_law_319 : decode cL_law 319 = .ok (.aload_n 0, 1) := by decide +kernel
theorem dL_law_320 : decode cL_law 320 = .ok (.iload_n 3, 1) := by decide +kernel
theorem dL_law_321 : decode cL_law 321 = .ok (.iconst 1, 1) := by decide +kernel
theorem dL_law_322 : decode cL_law 322 = .ok (.iadd, 1) := by decide +kernel
theorem dL_law_323 : decode cL_law 323 = .ok (.iaload, 1) := by decide +kernel
theorem dL_law_324 : decode cL_law 324 = .ok (.aload_n 0, 1) := by decide +kernel
theorem dL_law_325 : decode cL_law 325 = .ok (.iload_n 3, 1) := by decide +kernel
theorem dL_law_326 : decode cL_law 326 = .ok (.iconst 2, 1) := by decide +kernel
theorem dL_law_327 : decode cL_law 327 = .ok (.iadd, 1) := by decide +kernel
theorem dL_law_328 : decode cL_law 328 = .ok (.iaload, 1) := by decide +kernel
theorem dL_law_329 : decode cL_law 329 = .ok (.invokevirtual 32, 3) := by decide +kernel
theorem dL_law_332 : decode cL_law 332 = .ok (.aload_n 2, 1) := by decide +kernel
theorem dL_law_333 : decode cL_law 333 = .ok (.aload_n 0, 1) := by decide +kernel
theorem dL_law_334 : decode cL_law 334 = .ok (.iload_n 3, 1) := by decide +kernel
theorem dL_law_335 : decode cL_law 335 = .ok (.iconst 1, 1) := by decide +kernel
theorem dL_law_336 : decode cL_law 336 = .ok (.iadd, 1) := by decide +kernel
theorem dL_law_337 : decode cL_law 337 = .ok (.iaload, 1) := by decide +kernel
theorem dL_law_338 : decode cL_law 338 = .ok (.aload_n 0, 1) := by decide +kernel
theorem dL_law_339 : decode cL_law 339 = .ok (.iload_n 3, 1) := by decide +kernel
theorem dL_law_340 : decode cL_law 340 = .ok (.iconst 2, 1) := by decide +kernel
theorem dL_law_341 : decode cL_law 341 = .ok (.iadd, 1) := by decide +kernel
theorem dL_law_342 : decode cL_law 342 = .ok (.iaload, 1) := by decide +kernel
theorem dL_law_343 : decode cL_law 343 = .ok (.invokevirtual 35, 3) := by decide +kernel
theorem dL_law_346 : decode cL_law 346 = .ok (.if_icmp .eq 827, 3) := by decide +kernel
theorem dL_law_349 : decode cL_law 349 = .ok (.iconst 0, 1) := by decide +kernel
theorem dL_law_350 : decode cL_law 350 = .ok (.ireturn, 1) := by decide +kernel
theorem dL_law_351 : decode cL_law 351 = .ok (.aload_n 1, 1) := by decide +kernel
theorem dL_law_352 : decode cL_law 352 = .ok (.aload_n 0, 1) := by decide +kernel
theorem dL_law_353 : decode cL_law 353 = .ok (.iload_n 3, 1) := by decide +kernel
theorem dL_law_354 : decode cL_law 354 = .ok (.iconst 1, 1) := by decide +kernel
theorem dL_law_355 : decode cL_law 355 = .ok (.iadd, 1) := by decide +kernel
theorem dL_law_356 : decode cL_law 356 = .ok (.iaload, 1) := by decide +kernel
theorem dL_law_357 : decode cL_law 357 = .ok (.aload_n 0, 1) := by decide +kernel
theorem dL_law_358 : decode cL_law 358 = .ok (.iload_n 3, 1) := by decide +kernel
theorem dL_law_359 : decode cL_law 359 = .ok (.iconst 2, 1) := by decide +kernel
theorem dL_law_360 : decode cL_law 360 = .ok (.iadd, 1) := by decide +kernel
theorem dL_law_361 : decode cL_law 361 = .ok (.iaload, 1) := by decide +kernel
theorem dL_law_362 : decode cL_law 362 = .ok (.invokevirtual 36, 3) := by decide +kernel
theorem dL_law_365 : decode cL_law 365 = .ok (.aload_n 2, 1) := by decide +kernel
theorem dL_law_366 : decode cL_law 366 = .ok (.aload_n 0, 1) := by decide +kernel
theorem dL_law_367 : decode cL_law 367 = .ok (.iload_n 3, 1) := by decide +kernel
theorem dL_law_368 : decode cL_law 368 = .ok (.iconst 1, 1) := by decide +kernel
theorem dL_law_369 : decode cL_law 369 = .ok (.iadd, 1) := by decide +kernel
theorem dL_law_370 : decode cL_law 370 = .ok (.iaload, 1) := by decide +kernel
theorem dL_law_371 : decode cL_law 371 = .ok (.aload_n 0, 1) := by decide +kernel
theorem dL_law_372 : decode cL_law 372 = .ok (.iload_n 3, 1) := by decide +kernel
theorem dL_law_373 : decode cL_law 373 = .ok (.iconst 2, 1) := by decide +kernel
theorem dL_law_374 : decode cL_law 374 = .ok (.iadd, 1) := by decide +kernel
theorem dL_law_375 : decode cL_law 375 = .ok (.iaload, 1) := by decide +kernel
theorem dL_law_376 : decode cL_law 376 = .ok (.invokevirtual 39, 3) := by decide +kernel
theorem dL_law_379 : decode cL_law 379 = .ok (.if_icmp .eq 794, 3) := by decide +kernel
theorem dL_law_382 : decode cL_law 382 = .ok (.iconst 0, 1) := by decide +kernel
theorem dL_law_383 : decode cL_law 383 = .ok (.ireturn, 1) := by decide +kernel
theorem dL_law_384 : decode cL_law 384 = .ok (.aload_n 1, 1) := by decide +kernel
theorem dL_law_385 : decode cL_law 385 = .ok (.aload_n 0, 1) := by decide +kernel
theorem dL_law_386 : decode cL_law 386 = .ok (.iload_n 3, 1) := by decide +kernel
theorem dL_law_387 : decode cL_law 387 = .ok (.iconst 1, 1) := by decide +kernel
theorem dL_law_388 : decode cL_law 388 = .ok (.iadd, 1) := by decide +kernel
theorem dL_law_389 : decode cL_law 389 = .ok (.iaload, 1) := by decide +kernel
theorem dL_law_390 : decode cL_law 390 = .ok (.aload_n 0, 1) := by decide +kernel
theorem dL_law_391 : decode cL_law 391 = .ok (.iload_n 3, 1) := by decide +kernel
theorem dL_law_392 : decode cL_law 392 = .ok (.iconst 2, 1) := by decide +kernel
theorem dL_law_393 : decode cL_law 393 = .ok (.iadd, 1) := by decide +kernel
theorem dL_law_394 : decode cL_law 394 = .ok (.iaload, 1) := by decide +kernel
theorem dL_law_395 : decode cL_law 395 = .ok (.aload_n 0, 1) := by decide +kernel
theorem dL_law_396 : decode cL_law 396 = .ok (.iload_n 3, 1) := by decide +kernel
theorem dL_law_397 : decode cL_law 397 = .ok (.iconst 3, 1) := by decide +kernel
theorem dL_law_398 : decode cL_law 398 = .ok (.iadd, 1) := by decide +kernel
theorem dL_law_399 : decode cL_law 399 = .ok (.iaload, 1) := by decide +kernel
theorem dL_law_400 : decode cL_law 400 = .ok (.invokevirtual 40, 3) := by decide +kernel
theorem dL_law_403 : decode cL_law 403 = .ok (.aload_n 2, 1) := by decide +kernel
theorem dL_law_404 : decode cL_law 404 = .ok (.aload_n 0, 1) := by decide +kernel
theorem dL_law_405 : decode cL_law 405 = .ok (.iload_n 3, 1) := by decide +kernel
theorem dL_law_406 : decode cL_law 406 = .ok (.iconst 1, 1) := by decide +kernel
theorem dL_law_407 : decode cL_law 407 = .ok (.iadd, 1) := by decide +kernel
theorem dL_law_408 : decode cL_law 408 = .ok (.iaload, 1) := by decide +kernel
theorem dL_law_409 : decode cL_law 409 = .ok (.aload_n 0, 1) := by decide +kernel
theorem dL_law_410 : decode cL_law 410 = .ok (.iload_n 3, 1) := by decide +kernel
theorem dL_law_411 : decode cL_law 411 = .ok (.iconst 2, 1) := by decide +kernel
theorem dL_law_412 : decode cL_law 412 = .ok (.iadd, 1) := by decide +kernel
theorem dL_law_413 : decode cL_law 413 = .ok (.iaload, 1) := by decide +kernel
theorem dL_law_414 : decode cL_law 414 = .ok (.aload_n 0, 1) := by decide +kernel
theorem dL_law_415 : decode cL_law 415 = .ok (.iload_n 3, 1) := by decide +kernel
theorem dL_law_416 : decode cL_law 416 = .ok (.iconst 3, 1) := by decide +kernel
theorem dL_law_417 : decode cL_law 417 = .ok (.iadd, 1) := by decide +kernel
theorem dL_law_418 : decode cL_law 418 = .ok (.iaload, 1) := by decide +kernel
theorem dL_law_419 : decode cL_law 419 = .ok (.invokevirtual 43, 3) := by decide +kernel
theorem dL_law_422 : decode cL_law 422 = .ok (.if_icmp .eq 751, 3) := by decide +kernel
theorem dL_law_425 : decode cL_law 425 = .ok (.iconst 0, 1) := by decide +kernel
theorem dL_law_426 : decode cL_law 426 = .ok (.ireturn, 1) := by decide +kernel
theorem dL_law_427 : decode cL_law 427 = .ok (.aload_n 1, 1) := by decide +kernel
theorem dL_law_428 : decode cL_law 428 = .ok (.aload_n 0, 1) := by decide +kernel
theorem dL_law_429 : decode cL_law 429 = .ok (.iload_n 3, 1) := by decide +kernel
theorem dL_law_430 : decode cL_law 430 = .ok (.iconst 1, 1) := by decide +kernel
theorem dL_law_431 : decode cL_law 431 = .ok (.iadd, 1) := by decide +kernel
theorem dL_law_432 : decode cL_law 432 = .ok (.iaload, 1) := by decide +kernel
theorem dL_law_433 : decode cL_law 433 = .ok (.invokevirtual 44, 3) := by decide +kernel
theorem dL_law_436 : decode cL_law 436 = .ok (.aload_n 2, 1) := by decide +kernel
theorem dL_law_437 : decode cL_law 437 = .ok (.aload_n 0, 1) := by decide +kernel
theorem dL_law_438 : decode cL_law 438 = .ok (.iload_n 3, 1) := by decide +kernel
theorem dL_law_439 : decode cL_law 439 = .ok (.iconst 1, 1) := by decide +kernel
theorem dL_law_440 : decode cL_law 440 = .ok (.iadd, 1) := by decide +kernel
theorem dL_law_441 : decode cL_law 441 = .ok (.iaload, 1) := by decide +kernel
theorem dL_law_442 : decode cL_law 442 = .ok (.invokevirtual 47, 3) := by decide +kernel
theorem dL_law_445 : decode cL_law 445 = .ok (.if_icmp .eq 728, 3) := by decide +kernel
theorem dL_law_448 : decode cL_law 448 = .ok (.iconst 0, 1) := by decide +kernel
theorem dL_law_449 : decode cL_law 449 = .ok (.ireturn, 1) := by decide +kernel
theorem dL_law_450 : decode cL_law 450 = .ok (.aload_n 1, 1) := by decide +kernel
theorem dL_law_451 : decode cL_law 451 = .ok (.invokevirtual 48, 3) := by decide +kernel
theorem dL_law_454 : decode cL_law 454 = .ok (.aload_n 2, 1) := by decide +kernel
theorem dL_law_455 : decode cL_law 455 = .ok (.invokevirtual 52, 3) := by decide +kernel
theorem dL_law_458 : decode cL_law 458 = .ok (.if_icmp .eq 715, 3) := by decide +kernel
theorem dL_law_461 : decode cL_law 461 = .ok (.iconst 0, 1) := by decide +kernel
theorem dL_law_462 : decode cL_law 462 = .ok (.ireturn, 1) := by decide +kernel
theorem dL_law_463 : decode cL_law 463 = .ok (.aload_n 1, 1) := by decide +kernel
theorem dL_law_464 : decode cL_law 464 = .ok (.aload_n 0, 1) := by decide +kernel
theorem dL_law_465 : decode cL_law 465 = .ok (.iload_n 3, 1) := by decide +kernel
theorem dL_law_466 : decode cL_law 466 = .ok (.iconst 1, 1) := by decide +kernel
theorem dL_law_467 : decode cL_law 467 = .ok (.iadd, 1) := by decide +kernel
theorem dL_law_468 : decode cL_law 468 = .ok (.iaload, 1) := by decide +kernel
theorem dL_law_469 : decode cL_law 469 = .ok (.invokevirtual 53, 3) := by decide +kernel
theorem dL_law_472 : decode cL_law 472 = .ok (.aload_n 2, 1) := by decide +kernel
theorem dL_law_473 : decode cL_law 473 = .ok (.aload_n 0, 1) := by decide +kernel
theorem dL_law_474 : decode cL_law 474 = .ok (.iload_n 3, 1) := by decide +kernel
theorem dL_law_475 : decode cL_law 475 = .ok (.iconst 1, 1) := by decide +kernel
theorem dL_law_476 : decode cL_law 476 = .ok (.iadd, 1) := by decide +kernel
theorem dL_law_477 : decode cL_law 477 = .ok (.iaload, 1) := by decide +kernel
theorem dL_law_478 : decode cL_law 478 = .ok (.invokevirtual 56, 3) := by decide +kernel
theorem dL_law_481 : decode cL_law 481 = .ok (.if_icmp .eq 692, 3) := by decide +kernel
theorem dL_law_484 : decode cL_law 484 = .ok (.iconst 0, 1) := by decide +kernel
theorem dL_law_485 : decode cL_law 485 = .ok (.ireturn, 1) := by decide +kernel
theorem dL_law_486 : decode cL_law 486 = .ok (.aload_n 1, 1) := by decide +kernel
theorem dL_law_487 : decode cL_law 487 = .ok (.aload_n 0, 1) := by decide +kernel
theorem dL_law_488 : decode cL_law 488 = .ok (.iload_n 3, 1) := by decide +kernel
theorem dL_law_489 : decode cL_law 489 = .ok (.iconst 1, 1) := by decide +kernel
theorem dL_law_490 : decode cL_law 490 = .ok (.iadd, 1) := by decide +kernel
theorem dL_law_491 : decode cL_law 491 = .ok (.iaload, 1) := by decide +kernel
theorem dL_law_492 : decode cL_law 492 = .ok (.invokevirtual 57, 3) := by decide +kernel
theorem dL_law_495 : decode cL_law 495 = .ok (.aload_n 2, 1) := by decide +kernel
theorem dL_law_496 : decode cL_law 496 = .ok (.aload_n 0, 1) := by decide +kernel
theorem dL_law_497 : decode cL_law 497 = .ok (.iload_n 3, 1) := by decide +kernel
theorem dL_law_498 : decode cL_law 498 = .ok (.iconst 1, 1) := by decide +kernel
theorem dL_law_499 : decode cL_law 499 = .ok (.iadd, 1) := by decide +kernel
theorem dL_law_500 : decode cL_law 500 = .ok (.iaload, 1) := by decide +kernel
theorem dL_law_501 : decode cL_law 501 = .ok (.invokevirtual 60, 3) := by decide +kernel
theorem dL_law_504 : decode cL_law 504 = .ok (.if_icmp .eq 669, 3) := by decide +kernel
theorem dL_law_507 : decode cL_law 507 = .ok (.iconst 0, 1) := by decide +kernel
theorem dL_law_508 : decode cL_law 508 = .ok (.ireturn, 1) := by decide +kernel
theorem dL_law_509 : decode cL_law 509 = .ok (.aload_n 1, 1) := by decide +kernel
theorem dL_law_510 : decode cL_law 510 = .ok (.aload_n 0, 1) := by decide +kernel
theorem dL_law_511 : decode cL_law 511 = .ok (.iload_n 3, 1) := by decide +kernel
theorem dL_law_512 : decode cL_law 512 = .ok (.iconst 1, 1) := by decide +kernel
theorem dL_law_513 : decode cL_law 513 = .ok (.iadd, 1) := by decide +kernel
theorem dL_law_514 : decode cL_law 514 = .ok (.iaload, 1) := by decide +kernel
theorem dL_law_515 : decode cL_law 515 = .ok (.aload_n 0, 1) := by decide +kernel
theorem dL_law_516 : decode cL_law 516 = .ok (.iload_n 3, 1) := by decide +kernel
theorem dL_law_517 : decode cL_law 517 = .ok (.iconst 2, 1) := by decide +kernel
theorem dL_law_518 : decode cL_law 518 = .ok (.iadd, 1) := by decide +kernel
theorem dL_law_519 : decode cL_law 519 = .ok (.iaload, 1) := by decide +kernel
theorem dL_law_520 : decode cL_law 520 = .ok (.aload_n 0, 1) := by decide +kernel
theorem dL_law_521 : decode cL_law 521 = .ok (.iload_n 3, 1) := by decide +kernel
theorem dL_law_522 : decode cL_law 522 = .ok (.iconst 3, 1) := by decide +kernel
theorem dL_law_523 : decode cL_law 523 = .ok (.iadd, 1) := by decide +kernel
theorem dL_law_524 : decode cL_law 524 = .ok (.iaload, 1) := by decide +kernel
theorem dL_law_525 : decode cL_law 525 = .ok (.invokevirtual 61, 3) := by decide +kernel
theorem dL_law_528 : decode cL_law 528 = .ok (.aload_n 2, 1) := by decide +kernel
theorem dL_law_529 : decode cL_law 529 = .ok (.aload_n 0, 1) := by decide +kernel
theorem dL_law_530 : decode cL_law 530 = .ok (.iload_n 3, 1) := by decide +kernel
theorem dL_law_531 : decode cL_law 531 = .ok (.iconst 1, 1) := by decide +kernel
theorem dL_law_532 : decode cL_law 532 = .ok (.iadd, 1) := by decide +kernel
theorem dL_law_533 : decode cL_law 533 = .ok (.iaload, 1) := by decide +kernel
theorem dL_law_534 : decode cL_law 534 = .ok (.aload_n 0, 1) := by decide +kernel
theorem dL_law_535 : decode cL_law 535 = .ok (.iload_n 3, 1) := by decide +kernel
theorem dL_law_536 : decode cL_law 536 = .ok (.iconst 2, 1) := by decide +kernel
theorem dL_law_537 : decode cL_law 537 = .ok (.iadd, 1) := by decide +kernel
theorem dL_law_538 : decode cL_law 538 = .ok (.iaload, 1) := by decide +kernel
theorem dL_law_539 : decode cL_law 539 = .ok (.aload_n 0, 1) := by decide +kernel
theorem dL_law_540 : decode cL_law 540 = .ok (.iload_n 3, 1) := by decide +kernel
theorem dL_law_541 : decode cL_law 541 = .ok (.iconst 3, 1) := by decide +kernel
theorem dL_law_542 : decode cL_law 542 = .ok (.iadd, 1) := by decide +kernel
theorem dL_law_543 : decode cL_law 543 = .ok (.iaload, 1) := by decide +kernel
theorem dL_law_544 : decode cL_law 544 = .ok (.invokevirtual 64, 3) := by decide +kernel
theorem dL_law_547 : decode cL_law 547 = .ok (.if_icmp .eq 626, 3) := by decide +kernel
theorem dL_law_550 : decode cL_law 550 = .ok (.iconst 0, 1) := by decide +kernel
theorem dL_law_551 : decode cL_law 551 = .ok (.ireturn, 1) := by decide +kernel
theorem dL_law_552 : decode cL_law 552 = .ok (.aload_n 1, 1) := by decide +kernel
theorem dL_law_553 : decode cL_law 553 = .ok (.aload_n 0, 1) := by decide +kernel
theorem dL_law_554 : decode cL_law 554 = .ok (.iload_n 3, 1) := by decide +kernel
theorem dL_law_555 : decode cL_law 555 = .ok (.iconst 1, 1) := by decide +kernel
theorem dL_law_556 : decode cL_law 556 = .ok (.iadd, 1) := by decide +kernel
theorem dL_law_557 : decode cL_law 557 = .ok (.iaload, 1) := by decide +kernel
theorem dL_law_558 : decode cL_law 558 = .ok (.invokevirtual 65, 3) := by decide +kernel
theorem dL_law_561 : decode cL_law 561 = .ok (.aload_n 2, 1) := by decide +kernel
theorem dL_law_562 : decode cL_law 562 = .ok (.aload_n 0, 1) := by decide +kernel
theorem dL_law_563 : decode cL_law 563 = .ok (.iload_n 3, 1) := by decide +kernel
theorem dL_law_564 : decode cL_law 564 = .ok (.iconst 1, 1) := by decide +kernel
theorem dL_law_565 : decode cL_law 565 = .ok (.iadd, 1) := by decide +kernel
theorem dL_law_566 : decode cL_law 566 = .ok (.iaload, 1) := by decide +kernel
theorem dL_law_567 : decode cL_law 567 = .ok (.invokevirtual 68, 3) := by decide +kernel
theorem dL_law_570 : decode cL_law 570 = .ok (.if_icmp .eq 603, 3) := by decide +kernel
theorem dL_law_573 : decode cL_law 573 = .ok (.iconst 0, 1) := by decide +kernel
theorem dL_law_574 : decode cL_law 574 = .ok (.ireturn, 1) := by decide +kernel
theorem dL_law_575 : decode cL_law 575 = .ok (.aload_n 1, 1) := by decide +kernel
theorem dL_law_576 : decode cL_law 576 = .ok (.aload_n 0, 1) := by decide +kernel
theorem dL_law_577 : decode cL_law 577 = .ok (.iload_n 3, 1) := by decide +kernel
theorem dL_law_578 : decode cL_law 578 = .ok (.iconst 1, 1) := by decide +kernel
theorem dL_law_579 : decode cL_law 579 = .ok (.iadd, 1) := by decide +kernel
theorem dL_law_580 : decode cL_law 580 = .ok (.iaload, 1) := by decide +kernel
theorem dL_law_581 : decode cL_law 581 = .ok (.invokevirtual 69, 3) := by decide +kernel
theorem dL_law_584 : decode cL_law 584 = .ok (.aload_n 2, 1) := by decide +kernel
theorem dL_law_585 : decode cL_law 585 = .ok (.aload_n 0, 1) := by decide +kernel
theorem dL_law_586 : decode cL_law 586 = .ok (.iload_n 3, 1) := by decide +kernel
theorem dL_law_587 : decode cL_law 587 = .ok (.iconst 1, 1) := by decide +kernel
theorem dL_law_588 : decode cL_law 588 = .ok (.iadd, 1) := by decide +kernel
theorem dL_law_589 : decode cL_law 589 = .ok (.iaload, 1) := by decide +kernel
theorem dL_law_590 : decode cL_law 590 = .ok (.invokevirtual 72, 3) := by decide +kernel
theorem dL_law_593 : decode cL_law 593 = .ok (.if_icmp .eq 580, 3) := by decide +kernel
theorem dL_law_596 : decode cL_law 596 = .ok (.iconst 0, 1) := by decide +kernel
theorem dL_law_597 : decode cL_law 597 = .ok (.ireturn, 1) := by decide +kernel
theorem dL_law_598 : decode cL_law 598 = .ok (.aload_n 1, 1) := by decide +kernel
theorem dL_law_599 : decode cL_law 599 = .ok (.aload_n 0, 1) := by decide +kernel
theorem dL_law_600 : decode cL_law 600 = .ok (.iload_n 3, 1) := by decide +kernel
theorem dL_law_601 : decode cL_law 601 = .ok (.iconst 1, 1) := by decide +kernel
theorem dL_law_602 : decode cL_law 602 = .ok (.iadd, 1) := by decide +kernel
theorem dL_law_603 : decode cL_law 603 = .ok (.iaload, 1) := by decide +kernel
theorem dL_law_604 : decode cL_law 604 = .ok (.aload_n 0, 1) := by decide +kernel
theorem dL_law_605 : decode cL_law 605 = .ok (.iload_n 3, 1) := by decide +kernel
theorem dL_law_606 : decode cL_law 606 = .ok (.iconst 2, 1) := by decide +kernel
theorem dL_law_607 : decode cL_law 607 = .ok (.iadd, 1) := by decide +kernel
theorem dL_law_608 : decode cL_law 608 = .ok (.iaload, 1) := by decide +kernel
theorem dL_law_609 : decode cL_law 609 = .ok (.invokevirtual 73, 3) := by decide +kernel
theorem dL_law_612 : decode cL_law 612 = .ok (.aload_n 2, 1) := by decide +kernel
theorem dL_law_613 : decode cL_law 613 = .ok (.aload_n 0, 1) := by decide +kernel
theorem dL_law_614 : decode cL_law 614 = .ok (.iload_n 3, 1) := by decide +kernel
theorem dL_law_615 : decode cL_law 615 = .ok (.iconst 1, 1) := by decide +kernel
theorem dL_law_616 : decode cL_law 616 = .ok (.iadd, 1) := by decide +kernel
theorem dL_law_617 : decode cL_law 617 = .ok (.iaload, 1) := by decide +kernel
theorem dL_law_618 : decode cL_law 618 = .ok (.aload_n 0, 1) := by decide +kernel
theorem dL_law_619 : decode cL_law 619 = .ok (.iload_n 3, 1) := by decide +kernel
theorem dL_law_620 : decode cL_law 620 = .ok (.iconst 2, 1) := by decide +kernel
theorem dL_law_621 : decode cL_law 621 = .ok (.iadd, 1) := by decide +kernel
theorem dL_law_622 : decode cL_law 622 = .ok (.iaload, 1) := by decide +kernel
theorem dL_law_623 : decode cL_law 623 = .ok (.invokevirtual 76, 3) := by decide +kernel
theorem dL_law_626 : decode cL_law 626 = .ok (.if_icmp .eq 547, 3) := by decide +kernel
theorem dL_law_629 : decode cL_law 629 = .ok (.iconst 0, 1) := by decide +kernel
theorem dL_law_630 : decode cL_law 630 = .ok (.ireturn, 1) := by decide +kernel
theorem dL_law_631 : decode cL_law 631 = .ok (.aload_n 1, 1) := by decide +kernel
theorem dL_law_632 : decode cL_law 632 = .ok (.aload_n 0, 1) := by decide +kernel
theorem dL_law_633 : decode cL_law 633 = .ok (.iload_n 3, 1) := by decide +kernel
theorem dL_law_634 : decode cL_law 634 = .ok (.iconst 1, 1) := by decide +kernel
theorem dL_law_635 : decode cL_law 635 = .ok (.iadd, 1) := by decide +kernel
theorem dL_law_636 : decode cL_law 636 = .ok (.iaload, 1) := by decide +kernel
theorem dL_law_637 : decode cL_law 637 = .ok (.invokevirtual 77, 3) := by decide +kernel
theorem dL_law_640 : decode cL_law 640 = .ok (.aload_n 2, 1) := by decide +kernel
theorem dL_law_641 : decode cL_law 641 = .ok (.aload_n 0, 1) := by decide +kernel
theorem dL_law_642 : decode cL_law 642 = .ok (.iload_n 3, 1) := by decide +kernel
theorem dL_law_643 : decode cL_law 643 = .ok (.iconst 1, 1) := by decide +kernel
theorem dL_law_644 : decode cL_law 644 = .ok (.iadd, 1) := by decide +kernel
theorem dL_law_645 : decode cL_law 645 = .ok (.iaload, 1) := by decide +kernel
theorem dL_law_646 : decode cL_law 646 = .ok (.invokevirtual 80, 3) := by decide +kernel
theorem dL_law_649 : decode cL_law 649 = .ok (.if_icmp .eq 524, 3) := by decide +kernel
theorem dL_law_652 : decode cL_law 652 = .ok (.iconst 0, 1) := by decide +kernel
theorem dL_law_653 : decode cL_law 653 = .ok (.ireturn, 1) := by decide +kernel
theorem dL_law_654 : decode cL_law 654 = .ok (.aload_n 1, 1) := by decide +kernel
theorem dL_law_655 : decode cL_law 655 = .ok (.invokevirtual 81, 3) := by decide +kernel
theorem dL_law_658 : decode cL_law 658 = .ok (.aload_n 2, 1) := by decide +kernel
theorem dL_law_659 : decode cL_law 659 = .ok (.invokevirtual 84, 3) := by decide +kernel
theorem dL_law_662 : decode cL_law 662 = .ok (.if_icmp .eq 511, 3) := by decide +kernel
theorem dL_law_665 : decode cL_law 665 = .ok (.iconst 0, 1) := by decide +kernel
theorem dL_law_666 : decode cL_law 666 = .ok (.ireturn, 1) := by decide +kernel
theorem dL_law_667 : decode cL_law 667 = .ok (.aload_n 1, 1) := by decide +kernel
theorem dL_law_668 : decode cL_law 668 = .ok (.aload_n 0, 1) := by decide +kernel
theorem dL_law_669 : decode cL_law 669 = .ok (.iload_n 3, 1) := by decide +kernel
theorem dL_law_670 : decode cL_law 670 = .ok (.iconst 1, 1) := by decide +kernel
theorem dL_law_671 : decode cL_law 671 = .ok (.iadd, 1) := by decide +kernel
theorem dL_law_672 : decode cL_law 672 = .ok (.iaload, 1) := by decide +kernel
theorem dL_law_673 : decode cL_law 673 = .ok (.invokevirtual 85, 3) := by decide +kernel
theorem dL_law_676 : decode cL_law 676 = .ok (.aload_n 2, 1) := by decide +kernel
theorem dL_law_677 : decode cL_law 677 = .ok (.aload_n 0, 1) := by decide +kernel
theorem dL_law_678 : decode cL_law 678 = .ok (.iload_n 3, 1) := by decide +kernel
theorem dL_law_679 : decode cL_law 679 = .ok (.iconst 1, 1) := by decide +kernel
theorem dL_law_680 : decode cL_law 680 = .ok (.iadd, 1) := by decide +kernel
theorem dL_law_681 : decode cL_law 681 = .ok (.iaload, 1) := by decide +kernel
theorem dL_law_682 : decode cL_law 682 = .ok (.invokevirtual 88, 3) := by decide +kernel
theorem dL_law_685 : decode cL_law 685 = .ok (.if_icmp .eq 488, 3) := by decide +kernel
theorem dL_law_688 : decode cL_law 688 = .ok (.iconst 0, 1) := by decide +kernel
theorem dL_law_689 : decode cL_law 689 = .ok (.ireturn, 1) := by decide +kernel
theorem dL_law_690 : decode cL_law 690 = .ok (.aload_n 1, 1) := by decide +kernel
theorem dL_law_691 : decode cL_law 691 = .ok (.aload_n 0, 1) := by decide +kernel
theorem dL_law_692 : decode cL_law 692 = .ok (.iload_n 3, 1) := by decide +kernel
theorem dL_law_693 : decode cL_law 693 = .ok (.iconst 1, 1) := by decide +kernel
theorem dL_law_694 : decode cL_law 694 = .ok (.iadd, 1) := by decide +kernel
theorem dL_law_695 : decode cL_law 695 = .ok (.iaload, 1) := by decide +kernel
theorem dL_law_696 : decode cL_law 696 = .ok (.aload_n 0, 1) := by decide +kernel
theorem dL_law_697 : decode cL_law 697 = .ok (.iload_n 3, 1) := by decide +kernel
theorem dL_law_698 : decode cL_law 698 = .ok (.iconst 2, 1) := by decide +kernel
theorem dL_law_699 : decode cL_law 699 = .ok (.iadd, 1) := by decide +kernel
theorem dL_law_700 : decode cL_law 700 = .ok (.iaload, 1) := by decide +kernel
theorem dL_law_701 : decode cL_law 701 = .ok (.invokevirtual 89, 3) := by decide +kernel
theorem dL_law_704 : decode cL_law 704 = .ok (.aload_n 2, 1) := by decide +kernel
theorem dL_law_705 : decode cL_law 705 = .ok (.aload_n 0, 1) := by decide +kernel
theorem dL_law_706 : decode cL_law 706 = .ok (.iload_n 3, 1) := by decide +kernel
theorem dL_law_707 : decode cL_law 707 = .ok (.iconst 1, 1) := by decide +kernel
theorem dL_law_708 : decode cL_law 708 = .ok (.iadd, 1) := by decide +kernel
theorem dL_law_709 : decode cL_law 709 = .ok (.iaload, 1) := by decide +kernel
theorem dL_law_710 : decode cL_law 710 = .ok (.aload_n 0, 1) := by decide +kernel
theorem dL_law_711 : decode cL_law 711 = .ok (.iload_n 3, 1) := by decide +kernel
theorem dL_law_712 : decode cL_law 712 = .ok (.iconst 2, 1) := by decide +kernel
theorem dL_law_713 : decode cL_law 713 = .ok (.iadd, 1) := by decide +kernel
theorem dL_law_714 : decode cL_law 714 = .ok (.iaload, 1) := by decide +kernel
theorem dL_law_715 : decode cL_law 715 = .ok (.invokevirtual 92, 3) := by decide +kernel
theorem dL_law_718 : decode cL_law 718 = .ok (.if_icmp .eq 455, 3) := by decide +kernel
theorem dL_law_721 : decode cL_law 721 = .ok (.iconst 0, 1) := by decide +kernel
theorem dL_law_722 : decode cL_law 722 = .ok (.ireturn, 1) := by decide +kernel
theorem dL_law_723 : decode cL_law 723 = .ok (.aload_n 1, 1) := by decide +kernel
theorem dL_law_724 : decode cL_law 724 = .ok (.aload_n 0, 1) := by decide +kernel
theorem dL_law_725 : decode cL_law 725 = .ok (.iload_n 3, 1) := by decide +kernel
theorem dL_law_726 : decode cL_law 726 = .ok (.iconst 1, 1) := by decide +kernel
theorem dL_law_727 : decode cL_law 727 = .ok (.iadd, 1) := by decide +kernel
theorem dL_law_728 : decode cL_law 728 = .ok (.iaload, 1) := by decide +kernel
theorem dL_law_729 : decode cL_law 729 = .ok (.invokevirtual 93, 3) := by decide +kernel
theorem dL_law_732 : decode cL_law 732 = .ok (.aload_n 2, 1) := by decide +kernel
theorem dL_law_733 : decode cL_law 733 = .ok (.aload_n 0, 1) := by decide +kernel
theorem dL_law_734 : decode cL_law 734 = .ok (.iload_n 3, 1) := by decide +kernel
theorem dL_law_735 : decode cL_law 735 = .ok (.iconst 1, 1) := by decide +kernel
theorem dL_law_736 : decode cL_law 736 = .ok (.iadd, 1) := by decide +kernel
theorem dL_law_737 : decode cL_law 737 = .ok (.iaload, 1) := by decide +kernel
theorem dL_law_738 : decode cL_law 738 = .ok (.invokevirtual 96, 3) := by decide +kernel
theorem dL_law_741 : decode cL_law 741 = .ok (.if_icmp .eq 432, 3) := by decide +kernel
theorem dL_law_744 : decode cL_law 744 = .ok (.iconst 0, 1) := by decide +kernel
theorem dL_law_745 : decode cL_law 745 = .ok (.ireturn, 1) := by decide +kernel
theorem dL_law_746 : decode cL_law 746 = .ok (.aload_n 1, 1) := by decide +kernel
theorem dL_law_747 : decode cL_law 747 = .ok (.aload_n 0, 1) := by decide +kernel
theorem dL_law_748 : decode cL_law 748 = .ok (.iload_n 3, 1) := by decide +kernel
theorem dL_law_749 : decode cL_law 749 = .ok (.iconst 1, 1) := by decide +kernel
theorem dL_law_750 : decode cL_law 750 = .ok (.iadd, 1) := by decide +kernel
theorem dL_law_751 : decode cL_law 751 = .ok (.iaload, 1) := by decide +kernel
theorem dL_law_752 : decode cL_law 752 = .ok (.aload_n 0, 1) := by decide +kernel
theorem dL_law_753 : decode cL_law 753 = .ok (.iload_n 3, 1) := by decide +kernel
theorem dL_law_754 : decode cL_law 754 = .ok (.iconst 2, 1) := by decide +kernel
theorem dL_law_755 : decode cL_law 755 = .ok (.iadd, 1) := by decide +kernel
theorem dL_law_756 : decode cL_law 756 = .ok (.iaload, 1) := by decide +kernel
theorem dL_law_757 : decode cL_law 757 = .ok (.aload_n 0, 1) := by decide +kernel
theorem dL_law_758 : decode cL_law 758 = .ok (.iload_n 3, 1) := by decide +kernel
theorem dL_law_759 : decode cL_law 759 = .ok (.iconst 3, 1) := by decide +kernel
theorem dL_law_760 : decode cL_law 760 = .ok (.iadd, 1) := by decide +kernel
theorem dL_law_761 : decode cL_law 761 = .ok (.iaload, 1) := by decide +kernel
theorem dL_law_762 : decode cL_law 762 = .ok (.invokevirtual 97, 3) := by decide +kernel
theorem dL_law_765 : decode cL_law 765 = .ok (.aload_n 2, 1) := by decide +kernel
theorem dL_law_766 : decode cL_law 766 = .ok (.aload_n 0, 1) := by decide +kernel
theorem dL_law_767 : decode cL_law 767 = .ok (.iload_n 3, 1) := by decide +kernel
theorem dL_law_768 : decode cL_law 768 = .ok (.iconst 1, 1) := by decide +kernel
theorem dL_law_769 : decode cL_law 769 = .ok (.iadd, 1) := by decide +kernel
theorem dL_law_770 : decode cL_law 770 = .ok (.iaload, 1) := by decide +kernel
theorem dL_law_771 : decode cL_law 771 = .ok (.aload_n 0, 1) := by decide +kernel
theorem dL_law_772 : decode cL_law 772 = .ok (.iload_n 3, 1) := by decide +kernel
theorem dL_law_773 : decode cL_law 773 = .ok (.iconst 2, 1) := by decide +kernel
theorem dL_law_774 : decode cL_law 774 = .ok (.iadd, 1) := by decide +kernel
theorem dL_law_775 : decode cL_law 775 = .ok (.iaload, 1) := by decide +kernel
theorem dL_law_776 : decode cL_law 776 = .ok (.aload_n 0, 1) := by decide +kernel
theorem dL_law_777 : decode cL_law 777 = .ok (.iload_n 3, 1) := by decide +kernel
theorem dL_law_778 : decode cL_law 778 = .ok (.iconst 3, 1) := by decide +kernel
theorem dL_law_779 : decode cL_law 779 = .ok (.iadd, 1) := by decide +kernel
theorem dL_law_780 : decode cL_law 780 = .ok (.iaload, 1) := by decide +kernel
theorem dL_law_781 : decode cL_law 781 = .ok (.invokevirtual 100, 3) := by decide +kernel
theorem dL_law_784 : decode cL_law 784 = .ok (.if_icmp .eq 389, 3) := by decide +kernel
theorem dL_law_787 : decode cL_law 787 = .ok (.iconst 0, 1) := by decide +kernel
theorem dL_law_788 : decode cL_law 788 = .ok (.ireturn, 1) := by decide +kernel
theorem dL_law_789 : decode cL_law 789 = .ok (.aload_n 1, 1) := by decide +kernel
theorem dL_law_790 : decode cL_law 790 = .ok (.aload_n 0, 1) := by decide +kernel
theorem dL_law_791 : decode cL_law 791 = .ok (.iload_n 3, 1) := by decide +kernel
theorem dL_law_792 : decode cL_law 792 = .ok (.iconst 1, 1) := by decide +kernel
theorem dL_law_793 : decode cL_law 793 = .ok (.iadd, 1) := by decide +kernel
theorem dL_law_794 : decode cL_law 794 = .ok (.iaload, 1) := by decide +kernel
theorem dL_law_795 : decode cL_law 795 = .ok (.aload_n 0, 1) := by decide +kernel
theorem dL_law_796 : decode cL_law 796 = .ok (.iload_n 3, 1) := by decide +kernel
theorem dL_law_797 : decode cL_law 797 = .ok (.iconst 2, 1) := by decide +kernel
theorem dL_law_798 : decode cL_law 798 = .ok (.iadd, 1) := by decide +kernel
theorem dL_law_799 : decode cL_law 799 = .ok (.iaload, 1) := by decide +kernel
theorem dL_law_800 : decode cL_law 800 = .ok (.invokevirtual 101, 3) := by decide +kernel
theorem dL_law_803 : decode cL_law 803 = .ok (.aload_n 2, 1) := by decide +kernel
theorem dL_law_804 : decode cL_law 804 = .ok (.aload_n 0, 1) := by decide +kernel
theorem dL_law_805 : decode cL_law 805 = .ok (.iload_n 3, 1) := by decide +kernel
theorem dL_law_806 : decode cL_law 806 = .ok (.iconst 1, 1) := by decide +kernel
theorem dL_law_807 : decode cL_law 807 = .ok (.iadd, 1) := by decide +kernel
theorem dL_law_808 : decode cL_law 808 = .ok (.iaload, 1) := by decide +kernel
theorem dL_law_809 : decode cL_law 809 = .ok (.aload_n 0, 1) := by decide +kernel
theorem dL_law_810 : decode cL_law 810 = .ok (.iload_n 3, 1) := by decide +kernel
theorem dL_law_811 : decode cL_law 811 = .ok (.iconst 2, 1) := by decide +kernel
theorem dL_law_812 : decode cL_law 812 = .ok (.iadd, 1) := by decide +kernel
theorem dL_law_813 : decode cL_law 813 = .ok (.iaload, 1) := by decide +kernel
theorem dL_law_814 : decode cL_law 814 = .ok (.invokevirtual 104, 3) := by decide +kernel
theorem dL_law_817 : decode cL_law 817 = .ok (.if_icmp .eq 356, 3) := by decide +kernel
theorem dL_law_820 : decode cL_law 820 = .ok (.iconst 0, 1) := by decide +kernel
theorem dL_law_821 : decode cL_law 821 = .ok (.ireturn, 1) := by decide +kernel
theorem dL_law_822 : decode cL_law 822 = .ok (.aload_n 1, 1) := by decide +kernel
theorem dL_law_823 : decode cL_law 823 = .ok (.aload_n 0, 1) := by decide +kernel
theorem dL_law_824 : decode cL_law 824 = .ok (.iload_n 3, 1) := by decide +kernel
theorem dL_law_825 : decode cL_law 825 = .ok (.iconst 1, 1) := by decide +kernel
theorem dL_law_826 : decode cL_law 826 = .ok (.iadd, 1) := by decide +kernel
theorem dL_law_827 : decode cL_law 827 = .ok (.iaload, 1) := by decide +kernel
theorem dL_law_828 : decode cL_law 828 = .ok (.invokevirtual 105, 3) := by decide +kernel
theorem dL_law_831 : decode cL_law 831 = .ok (.aload_n 2, 1) := by decide +kernel
theorem dL_law_832 : decode cL_law 832 = .ok (.aload_n 0, 1) := by decide +kernel
theorem dL_law_833 : decode cL_law 833 = .ok (.iload_n 3, 1) := by decide +kernel
theorem dL_law_834 : decode cL_law 834 = .ok (.iconst 1, 1) := by decide +kernel
theorem dL_law_835 : decode cL_law 835 = .ok (.iadd, 1) := by decide +kernel
theorem dL_law_836 : decode cL_law 836 = .ok (.iaload, 1) := by decide +kernel
theorem dL_law_837 : decode cL_law 837 = .ok (.invokevirtual 108, 3) := by decide +kernel
theorem dL_law_840 : decode cL_law 840 = .ok (.if_icmp .eq 333, 3) := by decide +kernel
theorem dL_law_843 : decode cL_law 843 = .ok (.iconst 0, 1) := by decide +kernel
theorem dL_law_844 : decode cL_law 844 = .ok (.ireturn, 1) := by decide +kernel
theorem dL_law_845 : decode cL_law 845 = .ok (.aload_n 1, 1) := by decide +kernel
theorem dL_law_846 : decode cL_law 846 = .ok (.aload_n 0, 1) := by decide +kernel
theorem dL_law_847 : decode cL_law 847 = .ok (.iload_n 3, 1) := by decide +kernel
theorem dL_law_848 : decode cL_law 848 = .ok (.iconst 1, 1) := by decide +kernel
theorem dL_law_849 : decode cL_law 849 = .ok (.iadd, 1) := by decide +kernel
theorem dL_law_850 : decode cL_law 850 = .ok (.iaload, 1) := by decide +kernel
theorem dL_law_851 : decode cL_law 851 = .ok (.aload_n 0, 1) := by decide +kernel
theorem dL_law_852 : decode cL_law 852 = .ok (.iload_n 3, 1) := by decide +kernel
theorem dL_law_853 : decode cL_law 853 = .ok (.iconst 2, 1) := by decide +kernel
theorem dL_law_854 : decode cL_law 854 = .ok (.iadd, 1) := by decide +kernel
theorem dL_law_855 : decode cL_law 855 = .ok (.iaload, 1) := by decide +kernel
theorem dL_law_856 : decode cL_law 856 = .ok (.aload_n 0, 1) := by decide +kernel
theorem dL_law_857 : decode cL_law 857 = .ok (.iload_n 3, 1) := by decide +kernel
theorem dL_law_858 : decode cL_law 858 = .ok (.iconst 3, 1) := by decide +kernel
theorem dL_law_859 : decode cL_law 859 = .ok (.iadd, 1) := by decide +kernel
theorem dL_law_860 : decode cL_law 860 = .ok (.iaload, 1) := by decide +kernel
theorem dL_law_861 : decode cL_law 861 = .ok (.invokevirtual 109, 3) := by decide +kernel
theorem dL_law_864 : decode cL_law 864 = .ok (.aload_n 2, 1) := by decide +kernel
theorem dL_law_865 : decode cL_law 865 = .ok (.aload_n 0, 1) := by decide +kernel
theorem dL_law_866 : decode cL_law 866 = .ok (.iload_n 3, 1) := by decide +kernel
theorem dL_law_867 : decode cL_law 867 = .ok (.iconst 1, 1) := by decide +kernel
theorem dL_law_868 : decode cL_law 868 = .ok (.iadd, 1) := by decide +kernel
theorem dL_law_869 : decode cL_law 869 = .ok (.iaload, 1) := by decide +kernel
theorem dL_law_870 : decode cL_law 870 = .ok (.aload_n 0, 1) := by decide +kernel
theorem dL_law_871 : decode cL_law 871 = .ok (.iload_n 3, 1) := by decide +kernel
theorem dL_law_872 : decode cL_law 872 = .ok (.iconst 2, 1) := by decide +kernel
theorem dL_law_873 : decode cL_law 873 = .ok (.iadd, 1) := by decide +kernel
theorem dL_law_874 : decode cL_law 874 = .ok (.iaload, 1) := by decide +kernel
theorem dL_law_875 : decode cL_law 875 = .ok (.aload_n 0, 1) := by decide +kernel
theorem dL_law_876 : decode cL_law 876 = .ok (.iload_n 3, 1) := by decide +kernel
theorem dL_law_877 : decode cL_law 877 = .ok (.iconst 3, 1) := by decide +kernel
theorem dL_law_878 : decode cL_law 878 = .ok (.iadd, 1) := by decide +kernel
theorem dL_law_879 : decode cL_law 879 = .ok (.iaload, 1) := by decide +kernel
theorem dL_law_880 : decode cL_law 880 = .ok (.invokevirtual 113, 3) := by decide +kernel
theorem dL_law_883 : decode cL_law 883 = .ok (.lcmp, 1) := by decide +kernel
theorem dL_law_884 : decode cL_law 884 = .ok (.ifCond .eq 289, 3) := by decide +kernel
theorem dL_law_887 : decode cL_law 887 = .ok (.iconst 0, 1) := by decide +kernel
theorem dL_law_888 : decode cL_law 888 = .ok (.ireturn, 1) := by decide +kernel
theorem dL_law_889 : decode cL_law 889 = .ok (.aload_n 1, 1) := by decide +kernel
theorem dL_law_890 : decode cL_law 890 = .ok (.invokevirtual 114, 3) := by decide +kernel
theorem dL_law_893 : decode cL_law 893 = .ok (.aload_n 2, 1) := by decide +kernel
theorem dL_law_894 : decode cL_law 894 = .ok (.invokevirtual 117, 3) := by decide +kernel
theorem dL_law_897 : decode cL_law 897 = .ok (.if_icmp .eq 276, 3) := by decide +kernel
theorem dL_law_900 : decode cL_law 900 = .ok (.iconst 0, 1) := by decide +kernel
theorem dL_law_901 : decode cL_law 901 = .ok (.ireturn, 1) := by decide +kernel
theorem dL_law_902 : decode cL_law 902 = .ok (.aload_n 1, 1) := by decide +kernel
theorem dL_law_903 : decode cL_law 903 = .ok (.invokevirtual 118, 3) := by decide +kernel
theorem dL_law_906 : decode cL_law 906 = .ok (.aload_n 2, 1) := by decide +kernel
theorem dL_law_907 : decode cL_law 907 = .ok (.invokevirtual 121, 3) := by decide +kernel
theorem dL_law_910 : decode cL_law 910 = .ok (.if_icmp .eq 263, 3) := by decide +kernel
theorem dL_law_913 : decode cL_law 913 = .ok (.iconst 0, 1) := by decide +kernel
theorem dL_law_914 : decode cL_law 914 = .ok (.ireturn, 1) := by decide +kernel
theorem dL_law_915 : decode cL_law 915 = .ok (.aload_n 1, 1) := by decide +kernel
theorem dL_law_916 : decode cL_law 916 = .ok (.aload_n 0, 1) := by decide +kernel
theorem dL_law_917 : decode cL_law 917 = .ok (.iload_n 3, 1) := by decide +kernel
theorem dL_law_918 : decode cL_law 918 = .ok (.iconst 1, 1) := by decide +kernel
theorem dL_law_919 : decode cL_law 919 = .ok (.iadd, 1) := by decide +kernel
theorem dL_law_920 : decode cL_law 920 = .ok (.iaload, 1) := by decide +kernel
theorem dL_law_921 : decode cL_law 921 = .ok (.invokevirtual 122, 3) := by decide +kernel
theorem dL_law_924 : decode cL_law 924 = .ok (.aload_n 2, 1) := by decide +kernel
theorem dL_law_925 : decode cL_law 925 = .ok (.aload_n 0, 1) := by decide +kernel
theorem dL_law_926 : decode cL_law 926 = .ok (.iload_n 3, 1) := by decide +kernel
theorem dL_law_927 : decode cL_law 927 = .ok (.iconst 1, 1) := by decide +kernel
theorem dL_law_928 : decode cL_law 928 = .ok (.iadd, 1) := by decide +kernel
theorem dL_law_929 : decode cL_law 929 = .ok (.iaload, 1) := by decide +kernel
theorem dL_law_930 : decode cL_law 930 = .ok (.invokevirtual 125, 3) := by decide +kernel
theorem dL_law_933 : decode cL_law 933 = .ok (.if_icmp .eq 240, 3) := by decide +kernel
theorem dL_law_936 : decode cL_law 936 = .ok (.iconst 0, 1) := by decide +kernel
theorem dL_law_937 : decode cL_law 937 = .ok (.ireturn, 1) := by decide +kernel
theorem dL_law_938 : decode cL_law 938 = .ok (.aload_n 1, 1) := by decide +kernel
theorem dL_law_939 : decode cL_law 939 = .ok (.aload_n 0, 1) := by decide +kernel
theorem dL_law_940 : decode cL_law 940 = .ok (.iload_n 3, 1) := by decide +kernel
theorem dL_law_941 : decode cL_law 941 = .ok (.iconst 1, 1) := by decide +kernel
theorem dL_law_942 : decode cL_law 942 = .ok (.iadd, 1) := by decide +kernel
theorem dL_law_943 : decode cL_law 943 = .ok (.iaload, 1) := by decide +kernel
theorem dL_law_944 : decode cL_law 944 = .ok (.aload_n 0, 1) := by decide +kernel
theorem dL_law_945 : decode cL_law 945 = .ok (.iload_n 3, 1) := by decide +kernel
theorem dL_law_946 : decode cL_law 946 = .ok (.iconst 2, 1) := by decide +kernel
theorem dL_law_947 : decode cL_law 947 = .ok (.iadd, 1) := by decide +kernel
theorem dL_law_948 : decode cL_law 948 = .ok (.iaload, 1) := by decide +kernel
theorem dL_law_949 : decode cL_law 949 = .ok (.aload_n 0, 1) := by decide +kernel
theorem dL_law_950 : decode cL_law 950 = .ok (.iload_n 3, 1) := by decide +kernel
theorem dL_law_951 : decode cL_law 951 = .ok (.iconst 3, 1) := by decide +kernel
theorem dL_law_952 : decode cL_law 952 = .ok (.iadd, 1) := by decide +kernel
theorem dL_law_953 : decode cL_law 953 = .ok (.iaload, 1) := by decide +kernel
theorem dL_law_954 : decode cL_law 954 = .ok (.invokevirtual 126, 3) := by decide +kernel
theorem dL_law_957 : decode cL_law 957 = .ok (.aload_n 2, 1) := by decide +kernel
theorem dL_law_958 : decode cL_law 958 = .ok (.aload_n 0, 1) := by decide +kernel
theorem dL_law_959 : decode cL_law 959 = .ok (.iload_n 3, 1) := by decide +kernel
theorem dL_law_960 : decode cL_law 960 = .ok (.iconst 1, 1) := by decide +kernel
theorem dL_law_961 : decode cL_law 961 = .ok (.iadd, 1) := by decide +kernel
theorem dL_law_962 : decode cL_law 962 = .ok (.iaload, 1) := by decide +kernel
theorem dL_law_963 : decode cL_law 963 = .ok (.aload_n 0, 1) := by decide +kernel
theorem dL_law_964 : decode cL_law 964 = .ok (.iload_n 3, 1) := by decide +kernel
theorem dL_law_965 : decode cL_law 965 = .ok (.iconst 2, 1) := by decide +kernel
theorem dL_law_966 : decode cL_law 966 = .ok (.iadd, 1) := by decide +kernel
theorem dL_law_967 : decode cL_law 967 = .ok (.iaload, 1) := by decide +kernel
theorem dL_law_968 : decode cL_law 968 = .ok (.aload_n 0, 1) := by decide +kernel
theorem dL_law_969 : decode cL_law 969 = .ok (.iload_n 3, 1) := by decide +kernel
theorem dL_law_970 : decode cL_law 970 = .ok (.iconst 3, 1) := by decide +kernel
theorem dL_law_971 : decode cL_law 971 = .ok (.iadd, 1) := by decide +kernel
theorem dL_law_972 : decode cL_law 972 = .ok (.iaload, 1) := by decide +kernel
theorem dL_law_973 : decode cL_law 973 = .ok (.invokevirtual 129, 3) := by decide +kernel
theorem dL_law_976 : decode cL_law 976 = .ok (.if_icmp .eq 197, 3) := by decide +kernel
theorem dL_law_979 : decode cL_law 979 = .ok (.iconst 0, 1) := by decide +kernel
theorem dL_law_980 : decode cL_law 980 = .ok (.ireturn, 1) := by decide +kernel
theorem dL_law_981 : decode cL_law 981 = .ok (.aload_n 1, 1) := by decide +kernel
theorem dL_law_982 : decode cL_law 982 = .ok (.aload_n 0, 1) := by decide +kernel
theorem dL_law_983 : decode cL_law 983 = .ok (.iload_n 3, 1) := by decide +kernel
theorem dL_law_984 : decode cL_law 984 = .ok (.iconst 1, 1) := by decide +kernel
theorem dL_law_985 : decode cL_law 985 = .ok (.iadd, 1) := by decide +kernel
theorem dL_law_986 : decode cL_law 986 = .ok (.iaload, 1) := by decide +kernel
theorem dL_law_987 : decode cL_law 987 = .ok (.aload_n 0, 1) := by decide +kernel
theorem dL_law_988 : decode cL_law 988 = .ok (.iload_n 3, 1) := by decide +kernel
theorem dL_law_989 : decode cL_law 989 = .ok (.iconst 2, 1) := by decide +kernel
theorem dL_law_990 : decode cL_law 990 = .ok (.iadd, 1) := by decide +kernel
theorem dL_law_991 : decode cL_law 991 = .ok (.iaload, 1) := by decide +kernel
theorem dL_law_992 : decode cL_law 992 = .ok (.aload_n 0, 1) := by decide +kernel
theorem dL_law_993 : decode cL_law 993 = .ok (.iload_n 3, 1) := by decide +kernel
theorem dL_law_994 : decode cL_law 994 = .ok (.iconst 3, 1) := by decide +kernel
theorem dL_law_995 : decode cL_law 995 = .ok (.iadd, 1) := by decide +kernel
theorem dL_law_996 : decode cL_law 996 = .ok (.iaload, 1) := by decide +kernel
theorem dL_law_997 : decode cL_law 997 = .ok (.invokevirtual 130, 3) := by decide +kernel
theorem dL_law_1000 : decode cL_law 1000 = .ok (.aload_n 2, 1) := by decide +kernel
theorem dL_law_1001 : decode cL_law 1001 = .ok (.aload_n 0, 1) := by decide +kernel
theorem dL_law_1002 : decode cL_law 1002 = .ok (.iload_n 3, 1) := by decide +kernel
theorem dL_law_1003 : decode cL_law 1003 = .ok (.iconst 1, 1) := by decide +kernel
theorem dL_law_1004 : decode cL_law 1004 = .ok (.iadd, 1) := by decide +kernel
theorem dL_law_1005 : decode cL_law 1005 = .ok (.iaload, 1) := by decide +kernel
theorem dL_law_1006 : decode cL_law 1006 = .ok (.aload_n 0, 1) := by decide +kernel
theorem dL_law_1007 : decode cL_law 1007 = .ok (.iload_n 3, 1) := by decide +kernel
theorem dL_law_1008 : decode cL_law 1008 = .ok (.iconst 2, 1) := by decide +kernel
theorem dL_law_1009 : decode cL_law 1009 = .ok (.iadd, 1) := by decide +kernel
theorem dL_law_1010 : decode cL_law 1010 = .ok (.iaload, 1) := by decide +kernel
theorem dL_law_1011 : decode cL_law 1011 = .ok (.aload_n 0, 1) := by decide +kernel
theorem dL_law_1012 : decode cL_law 1012 = .ok (.iload_n 3, 1) := by decide +kernel
theorem dL_law_1013 : decode cL_law 1013 = .ok (.iconst 3, 1) := by decide +kernel
theorem dL_law_1014 : decode cL_law 1014 = .ok (.iadd, 1) := by decide +kernel
theorem dL_law_1015 : decode cL_law 1015 = .ok (.iaload, 1) := by decide +kernel
theorem dL_law_1016 : decode cL_law 1016 = .ok (.invokevirtual 133, 3) := by decide +kernel
theorem dL_law_1019 : decode cL_law 1019 = .ok (.if_icmp .eq 154, 3) := by decide +kernel
theorem dL_law_1022 : decode cL_law 1022 = .ok (.iconst 0, 1) := by decide +kernel
theorem dL_law_1023 : decode cL_law 1023 = .ok (.ireturn, 1) := by decide +kernel
theorem dL_law_1024 : decode cL_law 1024 = .ok (.aload_n 1, 1) := by decide +kernel
theorem dL_law_1025 : decode cL_law 1025 = .ok (.aload_n 0, 1) := by decide +kernel
theorem dL_law_1026 : decode cL_law 1026 = .ok (.iload_n 3, 1) := by decide +kernel
theorem dL_law_1027 : decode cL_law 1027 = .ok (.iconst 1, 1) := by decide +kernel
theorem dL_law_1028 : decode cL_law 1028 = .ok (.iadd, 1) := by decide +kernel
theorem dL_law_1029 : decode cL_law 1029 = .ok (.iaload, 1) := by decide +kernel
theorem dL_law_1030 : decode cL_law 1030 = .ok (.aload_n 0, 1) := by decide +kernel
theorem dL_law_1031 : decode cL_law 1031 = .ok (.iload_n 3, 1) := by decide +kernel
theorem dL_law_1032 : decode cL_law 1032 = .ok (.iconst 2, 1) := by decide +kernel
theorem dL_law_1033 : decode cL_law 1033 = .ok (.iadd, 1) := by decide +kernel
theorem dL_law_1034 : decode cL_law 1034 = .ok (.iaload, 1) := by decide +kernel
theorem dL_law_1035 : decode cL_law 1035 = .ok (.aload_n 0, 1) := by decide +kernel
theorem dL_law_1036 : decode cL_law 1036 = .ok (.iload_n 3, 1) := by decide +kernel
theorem dL_law_1037 : decode cL_law 1037 = .ok (.iconst 3, 1) := by decide +kernel
theorem dL_law_1038 : decode cL_law 1038 = .ok (.iadd, 1) := by decide +kernel
theorem dL_law_1039 : decode cL_law 1039 = .ok (.iaload, 1) := by decide +kernel
theorem dL_law_1040 : decode cL_law 1040 = .ok (.aload_n 0, 1) := by decide +kernel
theorem dL_law_1041 : decode cL_law 1041 = .ok (.iload_n 3, 1) := by decide +kernel
theorem dL_law_1042 : decode cL_law 1042 = .ok (.iconst 4, 1) := by decide +kernel
theorem dL_law_1043 : decode cL_law 1043 = .ok (.iadd, 1) := by decide +kernel
theorem dL_law_1044 : decode cL_law 1044 = .ok (.iaload, 1) := by decide +kernel
theorem dL_law_1045 : decode cL_law 1045 = .ok (.aload_n 0, 1) := by decide +kernel
theorem dL_law_1046 : decode cL_law 1046 = .ok (.iload_n 3, 1) := by decide +kernel
theorem dL_law_1047 : decode cL_law 1047 = .ok (.iconst 5, 1) := by decide +kernel
theorem dL_law_1048 : decode cL_law 1048 = .ok (.iadd, 1) := by decide +kernel
theorem dL_law_1049 : decode cL_law 1049 = .ok (.iaload, 1) := by decide +kernel
theorem dL_law_1050 : decode cL_law 1050 = .ok (.invokevirtual 134, 3) := by decide +kernel
theorem dL_law_1053 : decode cL_law 1053 = .ok (.aload_n 2, 1) := by decide +kernel
theorem dL_law_1054 : decode cL_law 1054 = .ok (.aload_n 0, 1) := by decide +kernel
theorem dL_law_1055 : decode cL_law 1055 = .ok (.iload_n 3, 1) := by decide +kernel
theorem dL_law_1056 : decode cL_law 1056 = .ok (.iconst 1, 1) := by decide +kernel
theorem dL_law_1057 : decode cL_law 1057 = .ok (.iadd, 1) := by decide +kernel
theorem dL_law_1058 : decode cL_law 1058 = .ok (.iaload, 1) := by decide +kernel
theorem dL_law_1059 : decode cL_law 1059 = .ok (.aload_n 0, 1) := by decide +kernel
theorem dL_law_1060 : decode cL_law 1060 = .ok (.iload_n 3, 1) := by decide +kernel
theorem dL_law_1061 : decode cL_law 1061 = .ok (.iconst 2, 1) := by decide +kernel
theorem dL_law_1062 : decode cL_law 1062 = .ok (.iadd, 1) := by decide +kernel
theorem dL_law_1063 : decode cL_law 1063 = .ok (.iaload, 1) := by decide +kernel
theorem dL_law_1064 : decode cL_law 1064 = .ok (.aload_n 0, 1) := by decide +kernel
theorem dL_law_1065 : decode cL_law 1065 = .ok (.iload_n 3, 1) := by decide +kernel
theorem dL_law_1066 : decode cL_law 1066 = .ok (.iconst 3, 1) := by decide +kernel
theorem dL_law_1067 : decode cL_law 1067 = .ok (.iadd, 1) := by decide +kernel
theorem dL_law_1068 : decode cL_law 1068 = .ok (.iaload, 1) := by decide +kernel
theorem dL_law_1069 : decode cL_law 1069 = .ok (.aload_n 0, 1) := by decide +kernel
theorem dL_law_1070 : decode cL_law 1070 = .ok (.iload_n 3, 1) := by decide +kernel
theorem dL_law_1071 : decode cL_law 1071 = .ok (.iconst 4, 1) := by decide +kernel
theorem dL_law_1072 : decode cL_law 1072 = .ok (.iadd, 1) := by decide +kernel
theorem dL_law_1073 : decode cL_law 1073 = .ok (.iaload, 1) := by decide +kernel
theorem dL_law_1074 : decode cL_law 1074 = .ok (.aload_n 0, 1) := by decide +kernel
theorem dL_law_1075 : decode cL_law 1075 = .ok (.iload_n 3, 1) := by decide +kernel
theorem dL_law_1076 : decode cL_law 1076 = .ok (.iconst 5, 1) := by decide +kernel
theorem dL_law_1077 : decode cL_law 1077 = .ok (.iadd, 1) := by decide +kernel
theorem dL_law_1078 : decode cL_law 1078 = .ok (.iaload, 1) := by decide +kernel
theorem dL_law_1079 : decode cL_law 1079 = .ok (.invokevirtual 138, 3) := by decide +kernel
theorem dL_law_1082 : decode cL_law 1082 = .ok (.if_icmp .eq 91, 3) := by decide +kernel
theorem dL_law_1085 : decode cL_law 1085 = .ok (.iconst 0, 1) := by decide +kernel
theorem dL_law_1086 : decode cL_law 1086 = .ok (.ireturn, 1) := by decide +kernel
theorem dL_law_1087 : decode cL_law 1087 = .ok (.aload_n 1, 1) := by decide +kernel
theorem dL_law_1088 : decode cL_law 1088 = .ok (.aload_n 0, 1) := by decide +kernel
theorem dL_law_1089 : decode cL_law 1089 = .ok (.iload_n 3, 1) := by decide +kernel
theorem dL_law_1090 : decode cL_law 1090 = .ok (.iconst 1, 1) := by decide +kernel
theorem dL_law_1091 : decode cL_law 1091 = .ok (.iadd, 1) := by decide +kernel
theorem dL_law_1092 : decode cL_law 1092 = .ok (.iaload, 1) := by decide +kernel
theorem dL_law_1093 : decode cL_law 1093 = .ok (.aload_n 0, 1) := by decide +kernel
theorem dL_law_1094 : decode cL_law 1094 = .ok (.iload_n 3, 1) := by decide +kernel
theorem dL_law_1095 : decode cL_law 1095 = .ok (.iconst 2, 1) := by decide +kernel
theorem dL_law_1096 : decode cL_law 1096 = .ok (.iadd, 1) := by decide +kernel
theorem dL_law_1097 : decode cL_law 1097 = .ok (.iaload, 1) := by decide +kernel
theorem dL_law_1098 : decode cL_law 1098 = .ok (.aload_n 0, 1) := by decide +kernel
theorem dL_law_1099 : decode cL_law 1099 = .ok (.iload_n 3, 1) := by decide +kernel
theorem dL_law_1100 : decode cL_law 1100 = .ok (.iconst 3, 1) := by decide +kernel
theorem dL_law_1101 : decode cL_law 1101 = .ok (.iadd, 1) := by decide +kernel
theorem dL_law_1102 : decode cL_law 1102 = .ok (.iaload, 1) := by decide +kernel
theorem dL_law_1103 : decode cL_law 1103 = .ok (.aload_n 0, 1) := by decide +kernel
theorem dL_law_1104 : decode cL_law 1104 = .ok (.iload_n 3, 1) := by decide +kernel
theorem dL_law_1105 : decode cL_law 1105 = .ok (.iconst 4, 1) := by decide +kernel
theorem dL_law_1106 : decode cL_law 1106 = .ok (.iadd, 1) := by decide +kernel
theorem dL_law_1107 : decode cL_law 1107 = .ok (.iaload, 1) := by decide +kernel
theorem dL_law_1108 : decode cL_law 1108 = .ok (.invokevirtual 139, 3) := by decide +kernel
theorem dL_law_1111 : decode cL_law 1111 = .ok (.aload_n 2, 1) := by decide +kernel
theorem dL_law_1112 : decode cL_law 1112 = .ok (.aload_n 0, 1) := by decide +kernel
theorem dL_law_1113 : decode cL_law 1113 = .ok (.iload_n 3, 1) := by decide +kernel
theorem dL_law_1114 : decode cL_law 1114 = .ok (.iconst 1, 1) := by decide +kernel
theorem dL_law_1115 : decode cL_law 1115 = .ok (.iadd, 1) := by decide +kernel
theorem dL_law_1116 : decode cL_law 1116 = .ok (.iaload, 1) := by decide +kernel
theorem dL_law_1117 : decode cL_law 1117 = .ok (.aload_n 0, 1) := by decide +kernel
theorem dL_law_1118 : decode cL_law 1118 = .ok (.iload_n 3, 1) := by decide +kernel
theorem dL_law_1119 : decode cL_law 1119 = .ok (.iconst 2, 1) := by decide +kernel
theorem dL_law_1120 : decode cL_law 1120 = .ok (.iadd, 1) := by decide +kernel
theorem dL_law_1121 : decode cL_law 1121 = .ok (.iaload, 1) := by decide +kernel
theorem dL_law_1122 : decode cL_law 1122 = .ok (.aload_n 0, 1) := by decide +kernel
theorem dL_law_1123 : decode cL_law 1123 = .ok (.iload_n 3, 1) := by decide +kernel
theorem dL_law_1124 : decode cL_law 1124 = .ok (.iconst 3, 1) := by decide +kernel
theorem dL_law_1125 : decode cL_law 1125 = .ok (.iadd, 1) := by decide +kernel
theorem dL_law_1126 : decode cL_law 1126 = .ok (.iaload, 1) := by decide +kernel
theorem dL_law_1127 : decode cL_law 1127 = .ok (.aload_n 0, 1) := by decide +kernel
theorem dL_law_1128 : decode cL_law 1128 = .ok (.iload_n 3, 1) := by decide +kernel
theorem dL_law_1129 : decode cL_law 1129 = .ok (.iconst 4, 1) := by decide +kernel
theorem dL_law_1130 : decode cL_law 1130 = .ok (.iadd, 1) := by decide +kernel
theorem dL_law_1131 : decode cL_law 1131 = .ok (.iaload, 1) := by decide +kernel
theorem dL_law_1132 : decode cL_law 1132 = .ok (.invokevirtual 143, 3) := by decide +kernel
theorem dL_law_1135 : decode cL_law 1135 = .ok (.if_icmp .eq 38, 3) := by decide +kernel
theorem dL_law_1138 : decode cL_law 1138 = .ok (.iconst 0, 1) := by decide +kernel
theorem dL_law_1139 : decode cL_law 1139 = .ok (.ireturn, 1) := by decide +kernel
theorem dL_law_1140 : decode cL_law 1140 = .ok (.aload_n 1, 1) := by decide +kernel
theorem dL_law_1141 : decode cL_law 1141 = .ok (.aload_n 0, 1) := by decide +kernel
theorem dL_law_1142 : decode cL_law 1142 = .ok (.iload_n 3, 1) := by decide +kernel
theorem dL_law_1143 : decode cL_law 1143 = .ok (.iconst 1, 1) := by decide +kernel
theorem dL_law_1144 : decode cL_law 1144 = .ok (.iadd, 1) := by decide +kernel
theorem dL_law_1145 : decode cL_law 1145 = .ok (.iaload, 1) := by decide +kernel
theorem dL_law_1146 : decode cL_law 1146 = .ok (.aload_n 0, 1) := by decide +kernel
theorem dL_law_1147 : decode cL_law 1147 = .ok (.iload_n 3, 1) := by decide +kernel
theorem dL_law_1148 : decode cL_law 1148 = .ok (.iconst 2, 1) := by decide +kernel
theorem dL_law_1149 : decode cL_law 1149 = .ok (.iadd, 1) := by decide +kernel
theorem dL_law_1150 : decode cL_law 1150 = .ok (.iaload, 1) := by decide +kernel
theorem dL_law_1151 : decode cL_law 1151 = .ok (.invokevirtual 144, 3) := by decide +kernel
theorem dL_law_1154 : decode cL_law 1154 = .ok (.aload_n 2, 1) := by decide +kernel
theorem dL_law_1155 : decode cL_law 1155 = .ok (.aload_n 0, 1) := by decide +kernel
theorem dL_law_1156 : decode cL_law 1156 = .ok (.iload_n 3, 1) := by decide +kernel
theorem dL_law_1157 : decode cL_law 1157 = .ok (.iconst 1, 1) := by decide +kernel
theorem dL_law_1158 : decode cL_law 1158 = .ok (.iadd, 1) := by decide +kernel
theorem dL_law_1159 : decode cL_law 1159 = .ok (.iaload, 1) := by decide +kernel
theorem dL_law_1160 : decode cL_law 1160 = .ok (.aload_n 0, 1) := by decide +kernel
theorem dL_law_1161 : decode cL_law 1161 = .ok (.iload_n 3, 1) := by decide +kernel
theorem dL_law_1162 : decode cL_law 1162 = .ok (.iconst 2, 1) := by decide +kernel
theorem dL_law_1163 : decode cL_law 1163 = .ok (.iadd, 1) := by decide +kernel
theorem dL_law_1164 : decode cL_law 1164 = .ok (.iaload, 1) := by decide +kernel
theorem dL_law_1165 : decode cL_law 1165 = .ok (.invokevirtual 147, 3) := by decide +kernel
theorem dL_law_1168 : decode cL_law 1168 = .ok (.if_icmp .eq 5, 3) := by decide +kernel
theorem dL_law_1171 : decode cL_law 1171 = .ok (.iconst 0, 1) := by decide +kernel
theorem dL_law_1172 : decode cL_law 1172 = .ok (.ireturn, 1) := by decide +kernel
theorem dL_law_1173 : decode cL_law 1173 = .ok (.iinc 3 6, 3) := by decide +kernel
theorem dL_law_1176 : decode cL_law 1176 = .ok (.goto (-1158), 3) := by decide +kernel
theorem dL_law_1179 : decode cL_law 1179 = .ok (.iconst 1, 1) := by decide +kernel
theorem dL_law_1180 : decode cL_law 1180 = .ok (.ireturn, 1) := by decide +kernel
